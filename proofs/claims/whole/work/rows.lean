section
/-! the tables' words (the skeleton's first part) -/
/-- a private method of a class that the tables say can be made, by its rows of tables_1 -/
def lw_okq (q : MethodName × Nat) : Prop := (q.1.cls ≠ "java/lang/invoke/MethodHandle" ∧ q.1.cls ≠ "java/lang/invoke/VarHandle") ∧ Cond.instantiable q.1.cls q.2 ∈ tables_1 ∧ Cond.privateMethod q.1 ∈ tables_1 ∧ Cond.instanceMethod q.1 ∈ tables_1
theorem lw_p0 : lw_okq (⟨"HandleDesk", "freeDescriptor", "(II)I"⟩, 7) := ⟨⟨by decide +kernel, by decide +kernel⟩, List.mem_of_getElem? (i := 9) (by decide +kernel), List.mem_of_getElem? (i := 159) (by decide +kernel), List.mem_of_getElem? (i := 160) (by decide +kernel)⟩
theorem lw_p1 : lw_okq (⟨"HandleDesk", "fileOf", "(II)LHandleDesk$OpenFile;"⟩, 7) := ⟨⟨by decide +kernel, by decide +kernel⟩, List.mem_of_getElem? (i := 9) (by decide +kernel), List.mem_of_getElem? (i := 163) (by decide +kernel), List.mem_of_getElem? (i := 164) (by decide +kernel)⟩
theorem lw_p2 : lw_okq (⟨"HandleDesk", "freeFile", "(I)LHandleDesk$OpenFile;"⟩, 7) := ⟨⟨by decide +kernel, by decide +kernel⟩, List.mem_of_getElem? (i := 9) (by decide +kernel), List.mem_of_getElem? (i := 170) (by decide +kernel), List.mem_of_getElem? (i := 171) (by decide +kernel)⟩
theorem lw_p3 : lw_okq (⟨"HandleDesk", "setName", "(IILHandleDesk$OpenFile;)V"⟩, 7) := ⟨⟨by decide +kernel, by decide +kernel⟩, List.mem_of_getElem? (i := 9) (by decide +kernel), List.mem_of_getElem? (i := 178) (by decide +kernel), List.mem_of_getElem? (i := 179) (by decide +kernel)⟩
theorem lw_p4 : lw_okq (⟨"HandleDesk", "freePipe", "()LHandleDesk$Pipe;"⟩, 7) := ⟨⟨by decide +kernel, by decide +kernel⟩, List.mem_of_getElem? (i := 9) (by decide +kernel), List.mem_of_getElem? (i := 186) (by decide +kernel), List.mem_of_getElem? (i := 187) (by decide +kernel)⟩
theorem lw_p5 : lw_okq (⟨"HandleDesk", "dropName", "(IILHandleDesk$OpenFile;)Z"⟩, 7) := ⟨⟨by decide +kernel, by decide +kernel⟩, List.mem_of_getElem? (i := 9) (by decide +kernel), List.mem_of_getElem? (i := 209) (by decide +kernel), List.mem_of_getElem? (i := 210) (by decide +kernel)⟩
theorem lw_p6 : lw_okq (⟨"HandleDesk", "keepLeft", "(I)V"⟩, 7) := ⟨⟨by decide +kernel, by decide +kernel⟩, List.mem_of_getElem? (i := 9) (by decide +kernel), List.mem_of_getElem? (i := 221) (by decide +kernel), List.mem_of_getElem? (i := 222) (by decide +kernel)⟩
theorem lw_p7 : lw_okq (⟨"HandleDesk", "usedDescriptors", "(I)I"⟩, 7) := ⟨⟨by decide +kernel, by decide +kernel⟩, List.mem_of_getElem? (i := 9) (by decide +kernel), List.mem_of_getElem? (i := 233) (by decide +kernel), List.mem_of_getElem? (i := 234) (by decide +kernel)⟩
theorem lw_p8 : lw_okq (⟨"HandleDesk", "takeBack", "(I)V"⟩, 7) := ⟨⟨by decide +kernel, by decide +kernel⟩, List.mem_of_getElem? (i := 9) (by decide +kernel), List.mem_of_getElem? (i := 283) (by decide +kernel), List.mem_of_getElem? (i := 284) (by decide +kernel)⟩
theorem lw_p9 : lw_okq (⟨"HandleDeskModel", "vacant", "(I)I"⟩, 15) := ⟨⟨by decide +kernel, by decide +kernel⟩, List.mem_of_getElem? (i := 336) (by decide +kernel), List.mem_of_getElem? (i := 395) (by decide +kernel), List.mem_of_getElem? (i := 396) (by decide +kernel)⟩
theorem lw_p10 : lw_okq (⟨"HandleDeskModel", "files", "()I"⟩, 15) := ⟨⟨by decide +kernel, by decide +kernel⟩, List.mem_of_getElem? (i := 336) (by decide +kernel), List.mem_of_getElem? (i := 399) (by decide +kernel), List.mem_of_getElem? (i := 400) (by decide +kernel)⟩
theorem lw_p11 : lw_okq (⟨"HandleDeskModel", "named", "(I)I"⟩, 15) := ⟨⟨by decide +kernel, by decide +kernel⟩, List.mem_of_getElem? (i := 336) (by decide +kernel), List.mem_of_getElem? (i := 403) (by decide +kernel), List.mem_of_getElem? (i := 404) (by decide +kernel)⟩
theorem lw_p12 : lw_okq (⟨"HandleDeskModel", "makes", "(IIIII)I"⟩, 15) := ⟨⟨by decide +kernel, by decide +kernel⟩, List.mem_of_getElem? (i := 336) (by decide +kernel), List.mem_of_getElem? (i := 407) (by decide +kernel), List.mem_of_getElem? (i := 408) (by decide +kernel)⟩
theorem lw_p13 : lw_okq (⟨"HandleDeskModel", "freeFile", "()I"⟩, 15) := ⟨⟨by decide +kernel, by decide +kernel⟩, List.mem_of_getElem? (i := 336) (by decide +kernel), List.mem_of_getElem? (i := 411) (by decide +kernel), List.mem_of_getElem? (i := 412) (by decide +kernel)⟩
theorem lw_p14 : lw_okq (⟨"HandleDeskModel", "isPipe", "(I)Z"⟩, 15) := ⟨⟨by decide +kernel, by decide +kernel⟩, List.mem_of_getElem? (i := 336) (by decide +kernel), List.mem_of_getElem? (i := 419) (by decide +kernel), List.mem_of_getElem? (i := 420) (by decide +kernel)⟩
theorem lw_p15 : lw_okq (⟨"HandleDeskModel", "end", "(II)I"⟩, 15) := ⟨⟨by decide +kernel, by decide +kernel⟩, List.mem_of_getElem? (i := 336) (by decide +kernel), List.mem_of_getElem? (i := 423) (by decide +kernel), List.mem_of_getElem? (i := 424) (by decide +kernel)⟩
def lw_privs_1 : List (MethodName × Nat) := [(⟨"HandleDesk", "freeDescriptor", "(II)I"⟩, 7), (⟨"HandleDesk", "fileOf", "(II)LHandleDesk$OpenFile;"⟩, 7), (⟨"HandleDesk", "freeFile", "(I)LHandleDesk$OpenFile;"⟩, 7), (⟨"HandleDesk", "setName", "(IILHandleDesk$OpenFile;)V"⟩, 7), (⟨"HandleDesk", "freePipe", "()LHandleDesk$Pipe;"⟩, 7), (⟨"HandleDesk", "dropName", "(IILHandleDesk$OpenFile;)Z"⟩, 7), (⟨"HandleDesk", "keepLeft", "(I)V"⟩, 7), (⟨"HandleDesk", "usedDescriptors", "(I)I"⟩, 7), (⟨"HandleDesk", "takeBack", "(I)V"⟩, 7), (⟨"HandleDeskModel", "vacant", "(I)I"⟩, 15), (⟨"HandleDeskModel", "files", "()I"⟩, 15), (⟨"HandleDeskModel", "named", "(I)I"⟩, 15), (⟨"HandleDeskModel", "makes", "(IIIII)I"⟩, 15), (⟨"HandleDeskModel", "freeFile", "()I"⟩, 15), (⟨"HandleDeskModel", "isPipe", "(I)Z"⟩, 15), (⟨"HandleDeskModel", "end", "(II)I"⟩, 15)]
theorem lw_r1 : ∀ q ∈ lw_privs_1, lw_okq q := List.forall_mem_cons.mpr ⟨lw_p0, List.forall_mem_cons.mpr ⟨lw_p1, List.forall_mem_cons.mpr ⟨lw_p2, List.forall_mem_cons.mpr ⟨lw_p3, List.forall_mem_cons.mpr ⟨lw_p4, List.forall_mem_cons.mpr ⟨lw_p5, List.forall_mem_cons.mpr ⟨lw_p6, List.forall_mem_cons.mpr ⟨lw_p7, List.forall_mem_cons.mpr ⟨lw_p8, List.forall_mem_cons.mpr ⟨lw_p9, List.forall_mem_cons.mpr ⟨lw_p10, List.forall_mem_cons.mpr ⟨lw_p11, List.forall_mem_cons.mpr ⟨lw_p12, List.forall_mem_cons.mpr ⟨lw_p13, List.forall_mem_cons.mpr ⟨lw_p14, List.forall_mem_cons.mpr ⟨lw_p15, fun _ h => absurd h List.not_mem_nil⟩⟩⟩⟩⟩⟩⟩⟩⟩⟩⟩⟩⟩⟩⟩⟩
theorem lw_p16 : lw_okq (⟨"HandleDeskModel", "used", "(I)I"⟩, 15) := ⟨⟨by decide +kernel, by decide +kernel⟩, List.mem_of_getElem? (i := 336) (by decide +kernel), List.mem_of_getElem? (i := 427) (by decide +kernel), List.mem_of_getElem? (i := 428) (by decide +kernel)⟩
theorem lw_p17 : lw_okq (⟨"HandleDeskModel", "file", "(II)I"⟩, 15) := ⟨⟨by decide +kernel, by decide +kernel⟩, List.mem_of_getElem? (i := 336) (by decide +kernel), List.mem_of_getElem? (i := 435) (by decide +kernel), List.mem_of_getElem? (i := 436) (by decide +kernel)⟩
theorem lw_p18 : lw_okq (⟨"HandleDeskModel", "closes", "(II)Z"⟩, 15) := ⟨⟨by decide +kernel, by decide +kernel⟩, List.mem_of_getElem? (i := 336) (by decide +kernel), List.mem_of_getElem? (i := 443) (by decide +kernel), List.mem_of_getElem? (i := 444) (by decide +kernel)⟩
theorem lw_p19 : lw_okq (⟨"HandleDeskModel", "back", "()V"⟩, 15) := ⟨⟨by decide +kernel, by decide +kernel⟩, List.mem_of_getElem? (i := 336) (by decide +kernel), List.mem_of_getElem? (i := 483) (by decide +kernel), List.mem_of_getElem? (i := 484) (by decide +kernel)⟩
theorem lw_p20 : lw_okq (⟨"HandleDeskModel", "puts", "(I)V"⟩, 15) := ⟨⟨by decide +kernel, by decide +kernel⟩, List.mem_of_getElem? (i := 336) (by decide +kernel), List.mem_of_getElem? (i := 487) (by decide +kernel), List.mem_of_getElem? (i := 488) (by decide +kernel)⟩
def lw_privs_2 : List (MethodName × Nat) := [(⟨"HandleDeskModel", "used", "(I)I"⟩, 15), (⟨"HandleDeskModel", "file", "(II)I"⟩, 15), (⟨"HandleDeskModel", "closes", "(II)Z"⟩, 15), (⟨"HandleDeskModel", "back", "()V"⟩, 15), (⟨"HandleDeskModel", "puts", "(I)V"⟩, 15)]
theorem lw_r2 : ∀ q ∈ lw_privs_2, lw_okq q := List.forall_mem_cons.mpr ⟨lw_p16, List.forall_mem_cons.mpr ⟨lw_p17, List.forall_mem_cons.mpr ⟨lw_p18, List.forall_mem_cons.mpr ⟨lw_p19, List.forall_mem_cons.mpr ⟨lw_p20, fun _ h => absurd h List.not_mem_nil⟩⟩⟩⟩⟩
def lw_privs : List (MethodName × Nat) := lw_privs_1 ++ (lw_privs_2)
def lw_tbl : List Cond := k2_sels lw_privs ++ tables_1
theorem lw_privs_ok : ∀ q ∈ lw_privs, lw_okq q := by
  show ∀ q ∈ lw_privs_1 ++ (lw_privs_2), lw_okq q
  exact List.forall_mem_append.mpr ⟨lw_r1, lw_r2⟩
/-! Names: the good words of the tables, all of them for every method; fields; codes. -/
def wsA : List Cond := lw_tbl.filter goodWord
theorem wA {w : Cond} (h : w ∈ lw_tbl) (hg : goodWord w = true) : w ∈ wsA := List.mem_filter.mpr ⟨h, hg⟩
theorem wA1 {w : Cond} (i : Nat) (h : tables_1_1[i]? = some w) (hg : goodWord w = true) : w ∈ wsA := wA (List.mem_append_right _ (List.mem_append_left _ (List.mem_of_getElem? h))) hg
theorem wA2 {w : Cond} (i : Nat) (h : tables_1_2[i]? = some w) (hg : goodWord w = true) : w ∈ wsA := wA (List.mem_append_right _ (List.mem_append_right _ (List.mem_append_left _ (List.mem_of_getElem? h)))) hg
theorem wA3 {w : Cond} (i : Nat) (h : tables_1_3[i]? = some w) (hg : goodWord w = true) : w ∈ wsA := wA (List.mem_append_right _ (List.mem_append_right _ (List.mem_append_right _ (List.mem_of_getElem? h)))) hg
theorem wAs {w : Cond} (i : Nat) (h : (k2_sels lw_privs)[i]? = some w) (hg : goodWord w = true) : w ∈ wsA := wA (List.mem_append_left _ (List.mem_of_getElem? h)) hg
theorem mC {x : Cond} : ∀ w ∈ wsA, w ∈ x :: wsA := fun _ h => List.mem_cons_of_mem _ h
theorem mI : ∀ w ∈ wsA, w ∈ wsA := fun _ h => h
theorem gd_1 {big : List Cond} (hb : ∀ w ∈ wsA, w ∈ big) {w : Cond} (h : w ∈ wsA) : w ∈ big ∧ ((w.onTables && w.keeps) = true ∨ ∃ ty, w = .arrayClass ty) := ⟨hb w h, good_of_word (List.mem_filter.mp h).2⟩
theorem gd_I {big : List Cond} {c : Cond} (hb : ∀ w ∈ wsA, w ∈ big) (h5 : c ∈ wsA) : GoodIn big (c :: wsA) := by
  intro w hw
  rcases List.mem_cons.mp hw with h | h
  · rw [h]; exact gd_1 hb h5
  · exact gd_1 hb h
theorem gd_V {big : List Cond} {own C : String} {idx : Nat} {y : MethodName} {c : Cond} (hb : ∀ w ∈ wsA, w ∈ big) (h1 : .methodLink own idx y ∈ wsA) (h2 : .instanceMethod y ∈ wsA) (h3 : .selects C y y ∈ wsA) (h4 : .initialized C ∈ wsA) (h5 : c ∈ wsA) : GoodIn big (wsV own idx C y (c :: wsA)) := by
  intro w hw
  rcases List.mem_append.mp hw with h | h
  · rcases List.mem_cons.mp h with h | h
    · rw [h]; exact gd_1 hb h1
    rcases List.mem_cons.mp h with h | h
    · rw [h]; exact gd_1 hb h2
    rcases List.mem_cons.mp h with h | h
    · rw [h]; exact gd_1 hb h3
    rcases List.mem_cons.mp h with h | h
    · rw [h]; exact gd_1 hb h4
    exact absurd h List.not_mem_nil
  · exact gd_I hb h5 w h
theorem gd_S {big : List Cond} {own : String} {idx : Nat} {y : MethodName} {c : Cond} (hb : ∀ w ∈ wsA, w ∈ big) (h1 : .methodLink own idx y ∈ wsA) (h2 : .static y ∈ wsA) (h4 : .initialized own ∈ wsA) (h5 : c ∈ wsA) : GoodIn big (wsS own idx y (c :: wsA)) := by
  intro w hw
  rcases List.mem_append.mp hw with h | h
  · rcases List.mem_cons.mp h with h | h
    · rw [h]; exact gd_1 hb h1
    rcases List.mem_cons.mp h with h | h
    · rw [h]; exact gd_1 hb h2
    rcases List.mem_cons.mp h with h | h
    · rw [h]; exact gd_1 hb h4
    exact absurd h List.not_mem_nil
  · exact gd_I hb h5 w h
def TD : u_T := fun k => match k with
  | 0 => ("HandleDesk", "named", "[LHandleDesk$OpenFile;", true)
  | 1 => ("HandleDesk", "files", "[LHandleDesk$OpenFile;", true)
  | 2 => ("HandleDesk", "pipes", "[LHandleDesk$Pipe;", true)
  | 3 => ("HandleDesk", "leftInodes", "[I", true)
  | 4 => ("HandleDesk", "leftCount", "I", false)
  | 5 => ("HandleDesk", "console", "LHandleDesk$Console;", true)
  | _ => ("HandleDesk", "screen", "LHandleDesk$Screen;", true)
def tyD : Nat → FieldType := fun k => match k with
  | 0 => (.array (.object "HandleDesk$OpenFile"))
  | 1 => (.array (.object "HandleDesk$OpenFile"))
  | 2 => (.array (.object "HandleDesk$Pipe"))
  | 3 => (.array .int)
  | 4 => .int
  | 5 => (.object "HandleDesk$Console")
  | _ => (.object "HandleDesk$Screen")
theorem nmD : ∀ a, a < 7 → ∀ b, b < 7 → a ≠ b → (TD a).2.1 ≠ (TD b).2.1 := by decide +kernel
theorem tyD_ok : ∀ k, k < 7 → parseFieldDescriptor (TD k).2.2.1 = some (tyD k) := by decide +kernel
theorem in_D : ∀ w ∈ u_ws "HandleDesk" TD 7, w ∈ wsA := fun w h => wA ((by decide +kernel : ∀ w ∈ u_ws "HandleDesk" TD 7, w ∈ lw_tbl) w h) ((by decide +kernel : ∀ w ∈ u_ws "HandleDesk" TD 7, goodWord w = true) w h)
theorem in_DC {x : Cond} : ∀ w ∈ u_ws "HandleDesk" TD 7, w ∈ x :: wsA := fun w h => mC w (in_D w h)
def TF : u_T := fun k => match k with
  | 0 => ("HandleDesk$OpenFile", "number", "I", true)
  | 1 => ("HandleDesk$OpenFile", "kind", "I", false)
  | 2 => ("HandleDesk$OpenFile", "inode", "I", false)
  | 3 => ("HandleDesk$OpenFile", "row", "LHandleDesk$Pipe;", false)
  | 4 => ("HandleDesk$OpenFile", "canRead", "Z", false)
  | 5 => ("HandleDesk$OpenFile", "canWrite", "Z", false)
  | 6 => ("HandleDesk$OpenFile", "place", "I", false)
  | _ => ("HandleDesk$OpenFile", "names", "I", false)
def tyF : Nat → FieldType := fun k => match k with
  | 0 => .int
  | 1 => .int
  | 2 => .int
  | 3 => (.object "HandleDesk$Pipe")
  | 4 => .boolean
  | 5 => .boolean
  | 6 => .int
  | _ => .int
theorem nmF : ∀ a, a < 8 → ∀ b, b < 8 → a ≠ b → (TF a).2.1 ≠ (TF b).2.1 := by decide +kernel
theorem tyF_ok : ∀ k, k < 8 → parseFieldDescriptor (TF k).2.2.1 = some (tyF k) := by decide +kernel
theorem in_F : ∀ w ∈ u_ws "HandleDesk$OpenFile" TF 8, w ∈ wsA := fun w h => wA ((by decide +kernel : ∀ w ∈ u_ws "HandleDesk$OpenFile" TF 8, w ∈ lw_tbl) w h) ((by decide +kernel : ∀ w ∈ u_ws "HandleDesk$OpenFile" TF 8, goodWord w = true) w h)
theorem in_FC {x : Cond} : ∀ w ∈ u_ws "HandleDesk$OpenFile" TF 8, w ∈ x :: wsA := fun w h => mC w (in_F w h)
def TP : u_T := fun k => match k with
  | 0 => ("HandleDesk$Pipe", "number", "I", true)
  | 1 => ("HandleDesk$Pipe", "ring", "[B", true)
  | 2 => ("HandleDesk$Pipe", "start", "I", false)
  | 3 => ("HandleDesk$Pipe", "size", "I", false)
  | 4 => ("HandleDesk$Pipe", "readerOpen", "Z", false)
  | _ => ("HandleDesk$Pipe", "writerOpen", "Z", false)
def tyP : Nat → FieldType := fun k => match k with
  | 0 => .int
  | 1 => (.array .byte)
  | 2 => .int
  | 3 => .int
  | 4 => .boolean
  | _ => .boolean
theorem nmP : ∀ a, a < 6 → ∀ b, b < 6 → a ≠ b → (TP a).2.1 ≠ (TP b).2.1 := by decide +kernel
theorem tyP_ok : ∀ k, k < 6 → parseFieldDescriptor (TP k).2.2.1 = some (tyP k) := by decide +kernel
theorem in_P : ∀ w ∈ u_ws "HandleDesk$Pipe" TP 6, w ∈ wsA := fun w h => wA ((by decide +kernel : ∀ w ∈ u_ws "HandleDesk$Pipe" TP 6, w ∈ lw_tbl) w h) ((by decide +kernel : ∀ w ∈ u_ws "HandleDesk$Pipe" TP 6, goodWord w = true) w h)
theorem in_PC {x : Cond} : ∀ w ∈ u_ws "HandleDesk$Pipe" TP 6, w ∈ x :: wsA := fun w h => mC w (in_P w h)
def TC : u_T := fun k => match k with
  | 0 => ("HandleDesk$Console", "ring", "[B", true)
  | 1 => ("HandleDesk$Console", "start", "I", false)
  | 2 => ("HandleDesk$Console", "done", "I", false)
  | _ => ("HandleDesk$Console", "size", "I", false)
def tyC : Nat → FieldType := fun k => match k with
  | 0 => (.array .byte)
  | 1 => .int
  | 2 => .int
  | _ => .int
theorem nmC : ∀ a, a < 4 → ∀ b, b < 4 → a ≠ b → (TC a).2.1 ≠ (TC b).2.1 := by decide +kernel
theorem tyC_ok : ∀ k, k < 4 → parseFieldDescriptor (TC k).2.2.1 = some (tyC k) := by decide +kernel
theorem in_C : ∀ w ∈ u_ws "HandleDesk$Console" TC 4, w ∈ wsA := fun w h => wA ((by decide +kernel : ∀ w ∈ u_ws "HandleDesk$Console" TC 4, w ∈ lw_tbl) w h) ((by decide +kernel : ∀ w ∈ u_ws "HandleDesk$Console" TC 4, goodWord w = true) w h)
theorem in_CC {x : Cond} : ∀ w ∈ u_ws "HandleDesk$Console" TC 4, w ∈ x :: wsA := fun w h => mC w (in_C w h)
def TS : u_T := fun k => match k with
  | 0 => ("HandleDesk$Screen", "ring", "[B", true)
  | _ => ("HandleDesk$Screen", "total", "I", false)
def tyS : Nat → FieldType := fun k => match k with
  | 0 => (.array .byte)
  | _ => .int
theorem nmS : ∀ a, a < 2 → ∀ b, b < 2 → a ≠ b → (TS a).2.1 ≠ (TS b).2.1 := by decide +kernel
theorem tyS_ok : ∀ k, k < 2 → parseFieldDescriptor (TS k).2.2.1 = some (tyS k) := by decide +kernel
theorem in_S : ∀ w ∈ u_ws "HandleDesk$Screen" TS 2, w ∈ wsA := fun w h => wA ((by decide +kernel : ∀ w ∈ u_ws "HandleDesk$Screen" TS 2, w ∈ lw_tbl) w h) ((by decide +kernel : ∀ w ∈ u_ws "HandleDesk$Screen" TS 2, goodWord w = true) w h)
theorem in_SC {x : Cond} : ∀ w ∈ u_ws "HandleDesk$Screen" TS 2, w ∈ x :: wsA := fun w h => mC w (in_S w h)
def TM : u_T := fun k => match k with
  | 0 => ("HandleDeskModel", "thrown", "I", false)
  | 1 => ("HandleDeskModel", "names", "[I", true)
  | 2 => ("HandleDeskModel", "kind", "[I", true)
  | 3 => ("HandleDeskModel", "what", "[I", true)
  | 4 => ("HandleDeskModel", "how", "[I", true)
  | 5 => ("HandleDeskModel", "place", "[I", true)
  | 6 => ("HandleDeskModel", "many", "[I", true)
  | 7 => ("HandleDeskModel", "queue", "[B", true)
  | 8 => ("HandleDeskModel", "lefts", "I", false)
  | 9 => ("HandleDeskModel", "left", "[I", true)
  | 10 => ("HandleDeskModel", "waits", "I", false)
  | 11 => ("HandleDeskModel", "done", "I", false)
  | 12 => ("HandleDeskModel", "line", "[I", true)
  | 13 => ("HandleDeskModel", "shown", "I", false)
  | _ => ("HandleDeskModel", "screen", "[B", true)
def tyM : Nat → FieldType := fun k => match k with
  | 0 => .int
  | 1 => (.array .int)
  | 2 => (.array .int)
  | 3 => (.array .int)
  | 4 => (.array .int)
  | 5 => (.array .int)
  | 6 => (.array .int)
  | 7 => (.array .byte)
  | 8 => .int
  | 9 => (.array .int)
  | 10 => .int
  | 11 => .int
  | 12 => (.array .int)
  | 13 => .int
  | _ => (.array .byte)
theorem nmM : ∀ a, a < 15 → ∀ b, b < 15 → a ≠ b → (TM a).2.1 ≠ (TM b).2.1 := by decide +kernel
theorem tyM_ok : ∀ k, k < 15 → parseFieldDescriptor (TM k).2.2.1 = some (tyM k) := by decide +kernel
theorem in_M : ∀ w ∈ u_ws "HandleDeskModel" TM 15, w ∈ wsA := fun w h => wA ((by decide +kernel : ∀ w ∈ u_ws "HandleDeskModel" TM 15, w ∈ lw_tbl) w h) ((by decide +kernel : ∀ w ∈ u_ws "HandleDeskModel" TM 15, goodWord w = true) w h)
theorem in_MC {x : Cond} : ∀ w ∈ u_ws "HandleDeskModel" TM 15, w ∈ x :: wsA := fun w h => mC w (in_M w h)
abbrev vwCl : List vw_C := [("HandleDesk", TD, 7), ("HandleDesk$OpenFile", TF, 8), ("HandleDesk$Pipe", TP, 6), ("HandleDesk$Console", TC, 4), ("HandleDesk$Screen", TS, 2), ("HandleDeskModel", TM, 15)]
def y_init_D : MethodName := ⟨"HandleDesk", "<init>", "()V"⟩
def ws_init_D : List Cond := .code y_init_D prog_1_method_1_code 2 (none : Option Jvm.ClassFile.FieldType) :: wsA
theorem hi_init_D : y_init_D.cls ≠ "java/lang/invoke/MethodHandle" ∧ y_init_D.cls ≠ "java/lang/invoke/VarHandle" ∧ (parseMethodDescriptor y_init_D.desc).map (fun d => d.parameters.length) = some 0 := by decide +kernel
theorem hd_init_D : y_init_D.cls = "HandleDesk" ∧ y_init_D.cls ≠ "java/lang/invoke/MethodHandle" ∧ y_init_D.cls ≠ "java/lang/invoke/VarHandle" ∧ (parseMethodDescriptor y_init_D.desc).map (fun d => d.parameters.length) = some 0 := ⟨rfl, hi_init_D⟩
def y_init_F : MethodName := ⟨"HandleDesk$OpenFile", "<init>", "(I)V"⟩
def ws_init_F : List Cond := .code y_init_F prog_3_method_1_code 2 (none : Option Jvm.ClassFile.FieldType) :: wsA
theorem hi_init_F : y_init_F.cls ≠ "java/lang/invoke/MethodHandle" ∧ y_init_F.cls ≠ "java/lang/invoke/VarHandle" ∧ (parseMethodDescriptor y_init_F.desc).map (fun d => d.parameters.length) = some 1 := by decide +kernel
theorem hd_init_F : y_init_F.cls = "HandleDesk$OpenFile" ∧ y_init_F.cls ≠ "java/lang/invoke/MethodHandle" ∧ y_init_F.cls ≠ "java/lang/invoke/VarHandle" ∧ (parseMethodDescriptor y_init_F.desc).map (fun d => d.parameters.length) = some 1 := ⟨rfl, hi_init_F⟩
def y_init_P : MethodName := ⟨"HandleDesk$Pipe", "<init>", "(I)V"⟩
def ws_init_P : List Cond := .code y_init_P prog_4_method_1_code 2 (none : Option Jvm.ClassFile.FieldType) :: wsA
theorem hi_init_P : y_init_P.cls ≠ "java/lang/invoke/MethodHandle" ∧ y_init_P.cls ≠ "java/lang/invoke/VarHandle" ∧ (parseMethodDescriptor y_init_P.desc).map (fun d => d.parameters.length) = some 1 := by decide +kernel
theorem hd_init_P : y_init_P.cls = "HandleDesk$Pipe" ∧ y_init_P.cls ≠ "java/lang/invoke/MethodHandle" ∧ y_init_P.cls ≠ "java/lang/invoke/VarHandle" ∧ (parseMethodDescriptor y_init_P.desc).map (fun d => d.parameters.length) = some 1 := ⟨rfl, hi_init_P⟩
def y_init_C : MethodName := ⟨"HandleDesk$Console", "<init>", "()V"⟩
def ws_init_C : List Cond := .code y_init_C prog_2_method_1_code 1 (none : Option Jvm.ClassFile.FieldType) :: wsA
theorem hi_init_C : y_init_C.cls ≠ "java/lang/invoke/MethodHandle" ∧ y_init_C.cls ≠ "java/lang/invoke/VarHandle" ∧ (parseMethodDescriptor y_init_C.desc).map (fun d => d.parameters.length) = some 0 := by decide +kernel
theorem hd_init_C : y_init_C.cls = "HandleDesk$Console" ∧ y_init_C.cls ≠ "java/lang/invoke/MethodHandle" ∧ y_init_C.cls ≠ "java/lang/invoke/VarHandle" ∧ (parseMethodDescriptor y_init_C.desc).map (fun d => d.parameters.length) = some 0 := ⟨rfl, hi_init_C⟩
def y_init_S : MethodName := ⟨"HandleDesk$Screen", "<init>", "()V"⟩
def ws_init_S : List Cond := .code y_init_S prog_5_method_1_code 1 (none : Option Jvm.ClassFile.FieldType) :: wsA
theorem hi_init_S : y_init_S.cls ≠ "java/lang/invoke/MethodHandle" ∧ y_init_S.cls ≠ "java/lang/invoke/VarHandle" ∧ (parseMethodDescriptor y_init_S.desc).map (fun d => d.parameters.length) = some 0 := by decide +kernel
theorem hd_init_S : y_init_S.cls = "HandleDesk$Screen" ∧ y_init_S.cls ≠ "java/lang/invoke/MethodHandle" ∧ y_init_S.cls ≠ "java/lang/invoke/VarHandle" ∧ (parseMethodDescriptor y_init_S.desc).map (fun d => d.parameters.length) = some 0 := ⟨rfl, hi_init_S⟩
def y_open : MethodName := ⟨"HandleDesk", "open", "(IIII)I"⟩
def ws_open : List Cond := .code y_open prog_1_method_2_code 7 (some .int) :: wsA
theorem hi_open : y_open.cls ≠ "java/lang/invoke/MethodHandle" ∧ y_open.cls ≠ "java/lang/invoke/VarHandle" ∧ (parseMethodDescriptor y_open.desc).map (fun d => d.parameters.length) = some 4 := by decide +kernel
theorem hd_open : y_open.cls = "HandleDesk" ∧ y_open.cls ≠ "java/lang/invoke/MethodHandle" ∧ y_open.cls ≠ "java/lang/invoke/VarHandle" ∧ (parseMethodDescriptor y_open.desc).map (fun d => d.parameters.length) = some 4 := ⟨rfl, hi_open⟩
def y_isProcess : MethodName := ⟨"HandleDesk", "isProcess", "(I)Z"⟩
def ws_isProcess : List Cond := .code y_isProcess prog_1_method_20_code 1 (some .boolean) :: wsA
theorem hi_isProcess : y_isProcess.cls ≠ "java/lang/invoke/MethodHandle" ∧ y_isProcess.cls ≠ "java/lang/invoke/VarHandle" ∧ (parseMethodDescriptor y_isProcess.desc).map (fun d => d.parameters.length) = some 1 := by decide +kernel
theorem hd_isProcess : y_isProcess.cls = "HandleDesk" ∧ y_isProcess.cls ≠ "java/lang/invoke/MethodHandle" ∧ y_isProcess.cls ≠ "java/lang/invoke/VarHandle" ∧ (parseMethodDescriptor y_isProcess.desc).map (fun d => d.parameters.length) = some 1 := ⟨rfl, hi_isProcess⟩
def y_isOpenable : MethodName := ⟨"HandleDesk", "isOpenable", "(I)Z"⟩
def ws_isOpenable : List Cond := .code y_isOpenable prog_1_method_22_code 1 (some .boolean) :: wsA
theorem hi_isOpenable : y_isOpenable.cls ≠ "java/lang/invoke/MethodHandle" ∧ y_isOpenable.cls ≠ "java/lang/invoke/VarHandle" ∧ (parseMethodDescriptor y_isOpenable.desc).map (fun d => d.parameters.length) = some 1 := by decide +kernel
theorem hd_isOpenable : y_isOpenable.cls = "HandleDesk" ∧ y_isOpenable.cls ≠ "java/lang/invoke/MethodHandle" ∧ y_isOpenable.cls ≠ "java/lang/invoke/VarHandle" ∧ (parseMethodDescriptor y_isOpenable.desc).map (fun d => d.parameters.length) = some 1 := ⟨rfl, hi_isOpenable⟩
def y_isHow : MethodName := ⟨"HandleDesk", "isHow", "(I)Z"⟩
def ws_isHow : List Cond := .code y_isHow prog_1_method_23_code 1 (some .boolean) :: wsA
theorem hi_isHow : y_isHow.cls ≠ "java/lang/invoke/MethodHandle" ∧ y_isHow.cls ≠ "java/lang/invoke/VarHandle" ∧ (parseMethodDescriptor y_isHow.desc).map (fun d => d.parameters.length) = some 1 := by decide +kernel
theorem hd_isHow : y_isHow.cls = "HandleDesk" ∧ y_isHow.cls ≠ "java/lang/invoke/MethodHandle" ∧ y_isHow.cls ≠ "java/lang/invoke/VarHandle" ∧ (parseMethodDescriptor y_isHow.desc).map (fun d => d.parameters.length) = some 1 := ⟨rfl, hi_isHow⟩
def y_freeDescriptor : MethodName := ⟨"HandleDesk", "freeDescriptor", "(II)I"⟩
def ws_freeDescriptor : List Cond := .code y_freeDescriptor prog_1_method_26_code 4 (some .int) :: wsA
theorem hi_freeDescriptor : y_freeDescriptor.cls ≠ "java/lang/invoke/MethodHandle" ∧ y_freeDescriptor.cls ≠ "java/lang/invoke/VarHandle" ∧ (parseMethodDescriptor y_freeDescriptor.desc).map (fun d => d.parameters.length) = some 2 := by decide +kernel
theorem hd_freeDescriptor : y_freeDescriptor.cls = "HandleDesk" ∧ y_freeDescriptor.cls ≠ "java/lang/invoke/MethodHandle" ∧ y_freeDescriptor.cls ≠ "java/lang/invoke/VarHandle" ∧ (parseMethodDescriptor y_freeDescriptor.desc).map (fun d => d.parameters.length) = some 2 := ⟨rfl, hi_freeDescriptor⟩
def y_fileOf : MethodName := ⟨"HandleDesk", "fileOf", "(II)LHandleDesk$OpenFile;"⟩
def ws_fileOf : List Cond := .code y_fileOf prog_1_method_25_code 3 (some (.object "HandleDesk$OpenFile")) :: wsA
theorem hi_fileOf : y_fileOf.cls ≠ "java/lang/invoke/MethodHandle" ∧ y_fileOf.cls ≠ "java/lang/invoke/VarHandle" ∧ (parseMethodDescriptor y_fileOf.desc).map (fun d => d.parameters.length) = some 2 := by decide +kernel
theorem hd_fileOf : y_fileOf.cls = "HandleDesk" ∧ y_fileOf.cls ≠ "java/lang/invoke/MethodHandle" ∧ y_fileOf.cls ≠ "java/lang/invoke/VarHandle" ∧ (parseMethodDescriptor y_fileOf.desc).map (fun d => d.parameters.length) = some 2 := ⟨rfl, hi_fileOf⟩
def y_isDescriptor : MethodName := ⟨"HandleDesk", "isDescriptor", "(I)Z"⟩
def ws_isDescriptor : List Cond := .code y_isDescriptor prog_1_method_21_code 1 (some .boolean) :: wsA
theorem hi_isDescriptor : y_isDescriptor.cls ≠ "java/lang/invoke/MethodHandle" ∧ y_isDescriptor.cls ≠ "java/lang/invoke/VarHandle" ∧ (parseMethodDescriptor y_isDescriptor.desc).map (fun d => d.parameters.length) = some 1 := by decide +kernel
theorem hd_isDescriptor : y_isDescriptor.cls = "HandleDesk" ∧ y_isDescriptor.cls ≠ "java/lang/invoke/MethodHandle" ∧ y_isDescriptor.cls ≠ "java/lang/invoke/VarHandle" ∧ (parseMethodDescriptor y_isDescriptor.desc).map (fun d => d.parameters.length) = some 1 := ⟨rfl, hi_isDescriptor⟩
def y_freeFile : MethodName := ⟨"HandleDesk", "freeFile", "(I)LHandleDesk$OpenFile;"⟩
def ws_freeFile : List Cond := .code y_freeFile prog_1_method_28_code 4 (some (.object "HandleDesk$OpenFile")) :: wsA
theorem hi_freeFile : y_freeFile.cls ≠ "java/lang/invoke/MethodHandle" ∧ y_freeFile.cls ≠ "java/lang/invoke/VarHandle" ∧ (parseMethodDescriptor y_freeFile.desc).map (fun d => d.parameters.length) = some 1 := by decide +kernel
theorem hd_freeFile : y_freeFile.cls = "HandleDesk" ∧ y_freeFile.cls ≠ "java/lang/invoke/MethodHandle" ∧ y_freeFile.cls ≠ "java/lang/invoke/VarHandle" ∧ (parseMethodDescriptor y_freeFile.desc).map (fun d => d.parameters.length) = some 1 := ⟨rfl, hi_freeFile⟩
def y_File_begin : MethodName := ⟨"HandleDesk$OpenFile", "begin", "(II)V"⟩
def ws_File_begin : List Cond := .code y_File_begin prog_3_method_2_code 3 (none : Option Jvm.ClassFile.FieldType) :: wsA
theorem hi_File_begin : y_File_begin.cls ≠ "java/lang/invoke/MethodHandle" ∧ y_File_begin.cls ≠ "java/lang/invoke/VarHandle" ∧ (parseMethodDescriptor y_File_begin.desc).map (fun d => d.parameters.length) = some 2 := by decide +kernel
theorem hd_File_begin : y_File_begin.cls = "HandleDesk$OpenFile" ∧ y_File_begin.cls ≠ "java/lang/invoke/MethodHandle" ∧ y_File_begin.cls ≠ "java/lang/invoke/VarHandle" ∧ (parseMethodDescriptor y_File_begin.desc).map (fun d => d.parameters.length) = some 2 := ⟨rfl, hi_File_begin⟩
def y_setName : MethodName := ⟨"HandleDesk", "setName", "(IILHandleDesk$OpenFile;)V"⟩
def ws_setName : List Cond := .code y_setName prog_1_method_31_code 4 (none : Option Jvm.ClassFile.FieldType) :: wsA
theorem hi_setName : y_setName.cls ≠ "java/lang/invoke/MethodHandle" ∧ y_setName.cls ≠ "java/lang/invoke/VarHandle" ∧ (parseMethodDescriptor y_setName.desc).map (fun d => d.parameters.length) = some 3 := by decide +kernel
theorem hd_setName : y_setName.cls = "HandleDesk" ∧ y_setName.cls ≠ "java/lang/invoke/MethodHandle" ∧ y_setName.cls ≠ "java/lang/invoke/VarHandle" ∧ (parseMethodDescriptor y_setName.desc).map (fun d => d.parameters.length) = some 3 := ⟨rfl, hi_setName⟩
def y_pipe : MethodName := ⟨"HandleDesk", "pipe", "(I)I"⟩
def ws_pipe : List Cond := .code y_pipe prog_1_method_3_code 7 (some .int) :: wsA
theorem hi_pipe : y_pipe.cls ≠ "java/lang/invoke/MethodHandle" ∧ y_pipe.cls ≠ "java/lang/invoke/VarHandle" ∧ (parseMethodDescriptor y_pipe.desc).map (fun d => d.parameters.length) = some 1 := by decide +kernel
theorem hd_pipe : y_pipe.cls = "HandleDesk" ∧ y_pipe.cls ≠ "java/lang/invoke/MethodHandle" ∧ y_pipe.cls ≠ "java/lang/invoke/VarHandle" ∧ (parseMethodDescriptor y_pipe.desc).map (fun d => d.parameters.length) = some 1 := ⟨rfl, hi_pipe⟩
def y_freePipe : MethodName := ⟨"HandleDesk", "freePipe", "()LHandleDesk$Pipe;"⟩
def ws_freePipe : List Cond := .code y_freePipe prog_1_method_29_code 3 (some (.object "HandleDesk$Pipe")) :: wsA
theorem hi_freePipe : y_freePipe.cls ≠ "java/lang/invoke/MethodHandle" ∧ y_freePipe.cls ≠ "java/lang/invoke/VarHandle" ∧ (parseMethodDescriptor y_freePipe.desc).map (fun d => d.parameters.length) = some 0 := by decide +kernel
theorem hd_freePipe : y_freePipe.cls = "HandleDesk" ∧ y_freePipe.cls ≠ "java/lang/invoke/MethodHandle" ∧ y_freePipe.cls ≠ "java/lang/invoke/VarHandle" ∧ (parseMethodDescriptor y_freePipe.desc).map (fun d => d.parameters.length) = some 0 := ⟨rfl, hi_freePipe⟩
def y_Pipe_isGone : MethodName := ⟨"HandleDesk$Pipe", "isGone", "()Z"⟩
def ws_Pipe_isGone : List Cond := .code y_Pipe_isGone prog_4_method_3_code 1 (some .boolean) :: wsA
theorem hi_Pipe_isGone : y_Pipe_isGone.cls ≠ "java/lang/invoke/MethodHandle" ∧ y_Pipe_isGone.cls ≠ "java/lang/invoke/VarHandle" ∧ (parseMethodDescriptor y_Pipe_isGone.desc).map (fun d => d.parameters.length) = some 0 := by decide +kernel
theorem hd_Pipe_isGone : y_Pipe_isGone.cls = "HandleDesk$Pipe" ∧ y_Pipe_isGone.cls ≠ "java/lang/invoke/MethodHandle" ∧ y_Pipe_isGone.cls ≠ "java/lang/invoke/VarHandle" ∧ (parseMethodDescriptor y_Pipe_isGone.desc).map (fun d => d.parameters.length) = some 0 := ⟨rfl, hi_Pipe_isGone⟩
def y_joinEnds : MethodName := ⟨"HandleDesk", "joinEnds", "(LHandleDesk$Pipe;LHandleDesk$OpenFile;LHandleDesk$OpenFile;)V"⟩
def ws_joinEnds : List Cond := .code y_joinEnds prog_1_method_30_code 3 (none : Option Jvm.ClassFile.FieldType) :: wsA
theorem hi_joinEnds : y_joinEnds.cls ≠ "java/lang/invoke/MethodHandle" ∧ y_joinEnds.cls ≠ "java/lang/invoke/VarHandle" ∧ (parseMethodDescriptor y_joinEnds.desc).map (fun d => d.parameters.length) = some 3 := by decide +kernel
theorem hd_joinEnds : y_joinEnds.cls = "HandleDesk" ∧ y_joinEnds.cls ≠ "java/lang/invoke/MethodHandle" ∧ y_joinEnds.cls ≠ "java/lang/invoke/VarHandle" ∧ (parseMethodDescriptor y_joinEnds.desc).map (fun d => d.parameters.length) = some 3 := ⟨rfl, hi_joinEnds⟩
def y_Pipe_begin : MethodName := ⟨"HandleDesk$Pipe", "begin", "()V"⟩
def ws_Pipe_begin : List Cond := .code y_Pipe_begin prog_4_method_2_code 1 (none : Option Jvm.ClassFile.FieldType) :: wsA
theorem hi_Pipe_begin : y_Pipe_begin.cls ≠ "java/lang/invoke/MethodHandle" ∧ y_Pipe_begin.cls ≠ "java/lang/invoke/VarHandle" ∧ (parseMethodDescriptor y_Pipe_begin.desc).map (fun d => d.parameters.length) = some 0 := by decide +kernel
theorem hd_Pipe_begin : y_Pipe_begin.cls = "HandleDesk$Pipe" ∧ y_Pipe_begin.cls ≠ "java/lang/invoke/MethodHandle" ∧ y_Pipe_begin.cls ≠ "java/lang/invoke/VarHandle" ∧ (parseMethodDescriptor y_Pipe_begin.desc).map (fun d => d.parameters.length) = some 0 := ⟨rfl, hi_Pipe_begin⟩
def y_again : MethodName := ⟨"HandleDesk", "again", "(II)I"⟩
def ws_again : List Cond := .code y_again prog_1_method_4_code 5 (some .int) :: wsA
theorem hi_again : y_again.cls ≠ "java/lang/invoke/MethodHandle" ∧ y_again.cls ≠ "java/lang/invoke/VarHandle" ∧ (parseMethodDescriptor y_again.desc).map (fun d => d.parameters.length) = some 2 := by decide +kernel
theorem hd_again : y_again.cls = "HandleDesk" ∧ y_again.cls ≠ "java/lang/invoke/MethodHandle" ∧ y_again.cls ≠ "java/lang/invoke/VarHandle" ∧ (parseMethodDescriptor y_again.desc).map (fun d => d.parameters.length) = some 2 := ⟨rfl, hi_again⟩
def y_close : MethodName := ⟨"HandleDesk", "close", "(II)I"⟩
def ws_close : List Cond := .code y_close prog_1_method_5_code 4 (some .int) :: wsA
theorem hi_close : y_close.cls ≠ "java/lang/invoke/MethodHandle" ∧ y_close.cls ≠ "java/lang/invoke/VarHandle" ∧ (parseMethodDescriptor y_close.desc).map (fun d => d.parameters.length) = some 2 := by decide +kernel
theorem hd_close : y_close.cls = "HandleDesk" ∧ y_close.cls ≠ "java/lang/invoke/MethodHandle" ∧ y_close.cls ≠ "java/lang/invoke/VarHandle" ∧ (parseMethodDescriptor y_close.desc).map (fun d => d.parameters.length) = some 2 := ⟨rfl, hi_close⟩
def y_dropName : MethodName := ⟨"HandleDesk", "dropName", "(IILHandleDesk$OpenFile;)Z"⟩
def ws_dropName : List Cond := .code y_dropName prog_1_method_32_code 4 (some .boolean) :: wsA
theorem hi_dropName : y_dropName.cls ≠ "java/lang/invoke/MethodHandle" ∧ y_dropName.cls ≠ "java/lang/invoke/VarHandle" ∧ (parseMethodDescriptor y_dropName.desc).map (fun d => d.parameters.length) = some 3 := by decide +kernel
theorem hd_dropName : y_dropName.cls = "HandleDesk" ∧ y_dropName.cls ≠ "java/lang/invoke/MethodHandle" ∧ y_dropName.cls ≠ "java/lang/invoke/VarHandle" ∧ (parseMethodDescriptor y_dropName.desc).map (fun d => d.parameters.length) = some 3 := ⟨rfl, hi_dropName⟩
def y_Pipe_endClosed : MethodName := ⟨"HandleDesk$Pipe", "endClosed", "(Z)V"⟩
def ws_Pipe_endClosed : List Cond := .code y_Pipe_endClosed prog_4_method_5_code 2 (none : Option Jvm.ClassFile.FieldType) :: wsA
theorem hi_Pipe_endClosed : y_Pipe_endClosed.cls ≠ "java/lang/invoke/MethodHandle" ∧ y_Pipe_endClosed.cls ≠ "java/lang/invoke/VarHandle" ∧ (parseMethodDescriptor y_Pipe_endClosed.desc).map (fun d => d.parameters.length) = some 1 := by decide +kernel
theorem hd_Pipe_endClosed : y_Pipe_endClosed.cls = "HandleDesk$Pipe" ∧ y_Pipe_endClosed.cls ≠ "java/lang/invoke/MethodHandle" ∧ y_Pipe_endClosed.cls ≠ "java/lang/invoke/VarHandle" ∧ (parseMethodDescriptor y_Pipe_endClosed.desc).map (fun d => d.parameters.length) = some 1 := ⟨rfl, hi_Pipe_endClosed⟩
def y_closeAll : MethodName := ⟨"HandleDesk", "closeAll", "(I)I"⟩
def ws_closeAll : List Cond := .code y_closeAll prog_1_method_6_code 4 (some .int) :: wsA
theorem hi_closeAll : y_closeAll.cls ≠ "java/lang/invoke/MethodHandle" ∧ y_closeAll.cls ≠ "java/lang/invoke/VarHandle" ∧ (parseMethodDescriptor y_closeAll.desc).map (fun d => d.parameters.length) = some 1 := by decide +kernel
theorem hd_closeAll : y_closeAll.cls = "HandleDesk" ∧ y_closeAll.cls ≠ "java/lang/invoke/MethodHandle" ∧ y_closeAll.cls ≠ "java/lang/invoke/VarHandle" ∧ (parseMethodDescriptor y_closeAll.desc).map (fun d => d.parameters.length) = some 1 := ⟨rfl, hi_closeAll⟩
def y_keepLeft : MethodName := ⟨"HandleDesk", "keepLeft", "(I)V"⟩
def ws_keepLeft : List Cond := .code y_keepLeft prog_1_method_33_code 2 (none : Option Jvm.ClassFile.FieldType) :: wsA
theorem hi_keepLeft : y_keepLeft.cls ≠ "java/lang/invoke/MethodHandle" ∧ y_keepLeft.cls ≠ "java/lang/invoke/VarHandle" ∧ (parseMethodDescriptor y_keepLeft.desc).map (fun d => d.parameters.length) = some 1 := by decide +kernel
theorem hd_keepLeft : y_keepLeft.cls = "HandleDesk" ∧ y_keepLeft.cls ≠ "java/lang/invoke/MethodHandle" ∧ y_keepLeft.cls ≠ "java/lang/invoke/VarHandle" ∧ (parseMethodDescriptor y_keepLeft.desc).map (fun d => d.parameters.length) = some 1 := ⟨rfl, hi_keepLeft⟩
def y_left : MethodName := ⟨"HandleDesk", "left", "(I)I"⟩
def ws_left : List Cond := .code y_left prog_1_method_7_code 2 (some .int) :: wsA
theorem hi_left : y_left.cls ≠ "java/lang/invoke/MethodHandle" ∧ y_left.cls ≠ "java/lang/invoke/VarHandle" ∧ (parseMethodDescriptor y_left.desc).map (fun d => d.parameters.length) = some 1 := by decide +kernel
theorem hd_left : y_left.cls = "HandleDesk" ∧ y_left.cls ≠ "java/lang/invoke/MethodHandle" ∧ y_left.cls ≠ "java/lang/invoke/VarHandle" ∧ (parseMethodDescriptor y_left.desc).map (fun d => d.parameters.length) = some 1 := ⟨rfl, hi_left⟩
def y_copy : MethodName := ⟨"HandleDesk", "copy", "(II)I"⟩
def ws_copy : List Cond := .code y_copy prog_1_method_8_code 5 (some .int) :: wsA
theorem hi_copy : y_copy.cls ≠ "java/lang/invoke/MethodHandle" ∧ y_copy.cls ≠ "java/lang/invoke/VarHandle" ∧ (parseMethodDescriptor y_copy.desc).map (fun d => d.parameters.length) = some 2 := by decide +kernel
theorem hd_copy : y_copy.cls = "HandleDesk" ∧ y_copy.cls ≠ "java/lang/invoke/MethodHandle" ∧ y_copy.cls ≠ "java/lang/invoke/VarHandle" ∧ (parseMethodDescriptor y_copy.desc).map (fun d => d.parameters.length) = some 2 := ⟨rfl, hi_copy⟩
def y_usedDescriptors : MethodName := ⟨"HandleDesk", "usedDescriptors", "(I)I"⟩
def ws_usedDescriptors : List Cond := .code y_usedDescriptors prog_1_method_27_code 4 (some .int) :: wsA
theorem hi_usedDescriptors : y_usedDescriptors.cls ≠ "java/lang/invoke/MethodHandle" ∧ y_usedDescriptors.cls ≠ "java/lang/invoke/VarHandle" ∧ (parseMethodDescriptor y_usedDescriptors.desc).map (fun d => d.parameters.length) = some 1 := by decide +kernel
theorem hd_usedDescriptors : y_usedDescriptors.cls = "HandleDesk" ∧ y_usedDescriptors.cls ≠ "java/lang/invoke/MethodHandle" ∧ y_usedDescriptors.cls ≠ "java/lang/invoke/VarHandle" ∧ (parseMethodDescriptor y_usedDescriptors.desc).map (fun d => d.parameters.length) = some 1 := ⟨rfl, hi_usedDescriptors⟩
def y_about : MethodName := ⟨"HandleDesk", "about", "(III)I"⟩
def ws_about : List Cond := .code y_about prog_1_method_9_code 5 (some .int) :: wsA
theorem hi_about : y_about.cls ≠ "java/lang/invoke/MethodHandle" ∧ y_about.cls ≠ "java/lang/invoke/VarHandle" ∧ (parseMethodDescriptor y_about.desc).map (fun d => d.parameters.length) = some 3 := by decide +kernel
theorem hd_about : y_about.cls = "HandleDesk" ∧ y_about.cls ≠ "java/lang/invoke/MethodHandle" ∧ y_about.cls ≠ "java/lang/invoke/VarHandle" ∧ (parseMethodDescriptor y_about.desc).map (fun d => d.parameters.length) = some 3 := ⟨rfl, hi_about⟩
def y_oneIf : MethodName := ⟨"HandleDesk", "oneIf", "(Z)I"⟩
def ws_oneIf : List Cond := .code y_oneIf prog_1_method_24_code 1 (some .int) :: wsA
theorem hi_oneIf : y_oneIf.cls ≠ "java/lang/invoke/MethodHandle" ∧ y_oneIf.cls ≠ "java/lang/invoke/VarHandle" ∧ (parseMethodDescriptor y_oneIf.desc).map (fun d => d.parameters.length) = some 1 := by decide +kernel
theorem hd_oneIf : y_oneIf.cls = "HandleDesk" ∧ y_oneIf.cls ≠ "java/lang/invoke/MethodHandle" ∧ y_oneIf.cls ≠ "java/lang/invoke/VarHandle" ∧ (parseMethodDescriptor y_oneIf.desc).map (fun d => d.parameters.length) = some 1 := ⟨rfl, hi_oneIf⟩
def y_move : MethodName := ⟨"HandleDesk", "move", "(III)Z"⟩
def ws_move : List Cond := .code y_move prog_1_method_10_code 5 (some .boolean) :: wsA
theorem hi_move : y_move.cls ≠ "java/lang/invoke/MethodHandle" ∧ y_move.cls ≠ "java/lang/invoke/VarHandle" ∧ (parseMethodDescriptor y_move.desc).map (fun d => d.parameters.length) = some 3 := by decide +kernel
theorem hd_move : y_move.cls = "HandleDesk" ∧ y_move.cls ≠ "java/lang/invoke/MethodHandle" ∧ y_move.cls ≠ "java/lang/invoke/VarHandle" ∧ (parseMethodDescriptor y_move.desc).map (fun d => d.parameters.length) = some 3 := ⟨rfl, hi_move⟩
def y_put : MethodName := ⟨"HandleDesk", "put", "(III)I"⟩
def ws_put : List Cond := .code y_put prog_1_method_11_code 6 (some .int) :: wsA
theorem hi_put : y_put.cls ≠ "java/lang/invoke/MethodHandle" ∧ y_put.cls ≠ "java/lang/invoke/VarHandle" ∧ (parseMethodDescriptor y_put.desc).map (fun d => d.parameters.length) = some 3 := by decide +kernel
theorem hd_put : y_put.cls = "HandleDesk" ∧ y_put.cls ≠ "java/lang/invoke/MethodHandle" ∧ y_put.cls ≠ "java/lang/invoke/VarHandle" ∧ (parseMethodDescriptor y_put.desc).map (fun d => d.parameters.length) = some 3 := ⟨rfl, hi_put⟩
def y_Pipe_isFull : MethodName := ⟨"HandleDesk$Pipe", "isFull", "()Z"⟩
def ws_Pipe_isFull : List Cond := .code y_Pipe_isFull prog_4_method_4_code 1 (some .boolean) :: wsA
theorem hi_Pipe_isFull : y_Pipe_isFull.cls ≠ "java/lang/invoke/MethodHandle" ∧ y_Pipe_isFull.cls ≠ "java/lang/invoke/VarHandle" ∧ (parseMethodDescriptor y_Pipe_isFull.desc).map (fun d => d.parameters.length) = some 0 := by decide +kernel
theorem hd_Pipe_isFull : y_Pipe_isFull.cls = "HandleDesk$Pipe" ∧ y_Pipe_isFull.cls ≠ "java/lang/invoke/MethodHandle" ∧ y_Pipe_isFull.cls ≠ "java/lang/invoke/VarHandle" ∧ (parseMethodDescriptor y_Pipe_isFull.desc).map (fun d => d.parameters.length) = some 0 := ⟨rfl, hi_Pipe_isFull⟩
def y_Pipe_addLast : MethodName := ⟨"HandleDesk$Pipe", "addLast", "(I)V"⟩
def ws_Pipe_addLast : List Cond := .code y_Pipe_addLast prog_4_method_6_code 2 (none : Option Jvm.ClassFile.FieldType) :: wsA
theorem hi_Pipe_addLast : y_Pipe_addLast.cls ≠ "java/lang/invoke/MethodHandle" ∧ y_Pipe_addLast.cls ≠ "java/lang/invoke/VarHandle" ∧ (parseMethodDescriptor y_Pipe_addLast.desc).map (fun d => d.parameters.length) = some 1 := by decide +kernel
theorem hd_Pipe_addLast : y_Pipe_addLast.cls = "HandleDesk$Pipe" ∧ y_Pipe_addLast.cls ≠ "java/lang/invoke/MethodHandle" ∧ y_Pipe_addLast.cls ≠ "java/lang/invoke/VarHandle" ∧ (parseMethodDescriptor y_Pipe_addLast.desc).map (fun d => d.parameters.length) = some 1 := ⟨rfl, hi_Pipe_addLast⟩
def y_take : MethodName := ⟨"HandleDesk", "take", "(II)I"⟩
def ws_take : List Cond := .code y_take prog_1_method_12_code 5 (some .int) :: wsA
theorem hi_take : y_take.cls ≠ "java/lang/invoke/MethodHandle" ∧ y_take.cls ≠ "java/lang/invoke/VarHandle" ∧ (parseMethodDescriptor y_take.desc).map (fun d => d.parameters.length) = some 2 := by decide +kernel
theorem hd_take : y_take.cls = "HandleDesk" ∧ y_take.cls ≠ "java/lang/invoke/MethodHandle" ∧ y_take.cls ≠ "java/lang/invoke/VarHandle" ∧ (parseMethodDescriptor y_take.desc).map (fun d => d.parameters.length) = some 2 := ⟨rfl, hi_take⟩
def y_Pipe_removeFirst : MethodName := ⟨"HandleDesk$Pipe", "removeFirst", "()I"⟩
def ws_Pipe_removeFirst : List Cond := .code y_Pipe_removeFirst prog_4_method_7_code 2 (some .int) :: wsA
theorem hi_Pipe_removeFirst : y_Pipe_removeFirst.cls ≠ "java/lang/invoke/MethodHandle" ∧ y_Pipe_removeFirst.cls ≠ "java/lang/invoke/VarHandle" ∧ (parseMethodDescriptor y_Pipe_removeFirst.desc).map (fun d => d.parameters.length) = some 0 := by decide +kernel
theorem hd_Pipe_removeFirst : y_Pipe_removeFirst.cls = "HandleDesk$Pipe" ∧ y_Pipe_removeFirst.cls ≠ "java/lang/invoke/MethodHandle" ∧ y_Pipe_removeFirst.cls ≠ "java/lang/invoke/VarHandle" ∧ (parseMethodDescriptor y_Pipe_removeFirst.desc).map (fun d => d.parameters.length) = some 0 := ⟨rfl, hi_Pipe_removeFirst⟩
def y_ends : MethodName := ⟨"HandleDesk", "ends", "(II)I"⟩
def ws_ends : List Cond := .code y_ends prog_1_method_13_code 4 (some .int) :: wsA
theorem hi_ends : y_ends.cls ≠ "java/lang/invoke/MethodHandle" ∧ y_ends.cls ≠ "java/lang/invoke/VarHandle" ∧ (parseMethodDescriptor y_ends.desc).map (fun d => d.parameters.length) = some 2 := by decide +kernel
theorem hd_ends : y_ends.cls = "HandleDesk" ∧ y_ends.cls ≠ "java/lang/invoke/MethodHandle" ∧ y_ends.cls ≠ "java/lang/invoke/VarHandle" ∧ (parseMethodDescriptor y_ends.desc).map (fun d => d.parameters.length) = some 2 := ⟨rfl, hi_ends⟩
def y_type : MethodName := ⟨"HandleDesk", "type", "(I)Z"⟩
def ws_type : List Cond := .code y_type prog_1_method_14_code 3 (some .boolean) :: wsA
theorem hi_type : y_type.cls ≠ "java/lang/invoke/MethodHandle" ∧ y_type.cls ≠ "java/lang/invoke/VarHandle" ∧ (parseMethodDescriptor y_type.desc).map (fun d => d.parameters.length) = some 1 := by decide +kernel
theorem hd_type : y_type.cls = "HandleDesk" ∧ y_type.cls ≠ "java/lang/invoke/MethodHandle" ∧ y_type.cls ≠ "java/lang/invoke/VarHandle" ∧ (parseMethodDescriptor y_type.desc).map (fun d => d.parameters.length) = some 1 := ⟨rfl, hi_type⟩
def y_Con_lineLength : MethodName := ⟨"HandleDesk$Console", "lineLength", "()I"⟩
def ws_Con_lineLength : List Cond := .code y_Con_lineLength prog_2_method_3_code 1 (some .int) :: wsA
theorem hi_Con_lineLength : y_Con_lineLength.cls ≠ "java/lang/invoke/MethodHandle" ∧ y_Con_lineLength.cls ≠ "java/lang/invoke/VarHandle" ∧ (parseMethodDescriptor y_Con_lineLength.desc).map (fun d => d.parameters.length) = some 0 := by decide +kernel
theorem hd_Con_lineLength : y_Con_lineLength.cls = "HandleDesk$Console" ∧ y_Con_lineLength.cls ≠ "java/lang/invoke/MethodHandle" ∧ y_Con_lineLength.cls ≠ "java/lang/invoke/VarHandle" ∧ (parseMethodDescriptor y_Con_lineLength.desc).map (fun d => d.parameters.length) = some 0 := ⟨rfl, hi_Con_lineLength⟩
def y_takeBack : MethodName := ⟨"HandleDesk", "takeBack", "(I)V"⟩
def ws_takeBack : List Cond := .code y_takeBack prog_1_method_34_code 3 (none : Option Jvm.ClassFile.FieldType) :: wsA
theorem hi_takeBack : y_takeBack.cls ≠ "java/lang/invoke/MethodHandle" ∧ y_takeBack.cls ≠ "java/lang/invoke/VarHandle" ∧ (parseMethodDescriptor y_takeBack.desc).map (fun d => d.parameters.length) = some 1 := by decide +kernel
theorem hd_takeBack : y_takeBack.cls = "HandleDesk" ∧ y_takeBack.cls ≠ "java/lang/invoke/MethodHandle" ∧ y_takeBack.cls ≠ "java/lang/invoke/VarHandle" ∧ (parseMethodDescriptor y_takeBack.desc).map (fun d => d.parameters.length) = some 1 := ⟨rfl, hi_takeBack⟩
def y_Con_dropLastOfLine : MethodName := ⟨"HandleDesk$Console", "dropLastOfLine", "()V"⟩
def ws_Con_dropLastOfLine : List Cond := .code y_Con_dropLastOfLine prog_2_method_5_code 1 (none : Option Jvm.ClassFile.FieldType) :: wsA
theorem hi_Con_dropLastOfLine : y_Con_dropLastOfLine.cls ≠ "java/lang/invoke/MethodHandle" ∧ y_Con_dropLastOfLine.cls ≠ "java/lang/invoke/VarHandle" ∧ (parseMethodDescriptor y_Con_dropLastOfLine.desc).map (fun d => d.parameters.length) = some 0 := by decide +kernel
theorem hd_Con_dropLastOfLine : y_Con_dropLastOfLine.cls = "HandleDesk$Console" ∧ y_Con_dropLastOfLine.cls ≠ "java/lang/invoke/MethodHandle" ∧ y_Con_dropLastOfLine.cls ≠ "java/lang/invoke/VarHandle" ∧ (parseMethodDescriptor y_Con_dropLastOfLine.desc).map (fun d => d.parameters.length) = some 0 := ⟨rfl, hi_Con_dropLastOfLine⟩
def y_Scr_addLast : MethodName := ⟨"HandleDesk$Screen", "addLast", "(I)V"⟩
def ws_Scr_addLast : List Cond := .code y_Scr_addLast prog_5_method_2_code 2 (none : Option Jvm.ClassFile.FieldType) :: wsA
theorem hi_Scr_addLast : y_Scr_addLast.cls ≠ "java/lang/invoke/MethodHandle" ∧ y_Scr_addLast.cls ≠ "java/lang/invoke/VarHandle" ∧ (parseMethodDescriptor y_Scr_addLast.desc).map (fun d => d.parameters.length) = some 1 := by decide +kernel
theorem hd_Scr_addLast : y_Scr_addLast.cls = "HandleDesk$Screen" ∧ y_Scr_addLast.cls ≠ "java/lang/invoke/MethodHandle" ∧ y_Scr_addLast.cls ≠ "java/lang/invoke/VarHandle" ∧ (parseMethodDescriptor y_Scr_addLast.desc).map (fun d => d.parameters.length) = some 1 := ⟨rfl, hi_Scr_addLast⟩
def y_Con_isFull : MethodName := ⟨"HandleDesk$Console", "isFull", "()Z"⟩
def ws_Con_isFull : List Cond := .code y_Con_isFull prog_2_method_2_code 1 (some .boolean) :: wsA
theorem hi_Con_isFull : y_Con_isFull.cls ≠ "java/lang/invoke/MethodHandle" ∧ y_Con_isFull.cls ≠ "java/lang/invoke/VarHandle" ∧ (parseMethodDescriptor y_Con_isFull.desc).map (fun d => d.parameters.length) = some 0 := by decide +kernel
theorem hd_Con_isFull : y_Con_isFull.cls = "HandleDesk$Console" ∧ y_Con_isFull.cls ≠ "java/lang/invoke/MethodHandle" ∧ y_Con_isFull.cls ≠ "java/lang/invoke/VarHandle" ∧ (parseMethodDescriptor y_Con_isFull.desc).map (fun d => d.parameters.length) = some 0 := ⟨rfl, hi_Con_isFull⟩
def y_Con_addToLine : MethodName := ⟨"HandleDesk$Console", "addToLine", "(I)V"⟩
def ws_Con_addToLine : List Cond := .code y_Con_addToLine prog_2_method_4_code 2 (none : Option Jvm.ClassFile.FieldType) :: wsA
theorem hi_Con_addToLine : y_Con_addToLine.cls ≠ "java/lang/invoke/MethodHandle" ∧ y_Con_addToLine.cls ≠ "java/lang/invoke/VarHandle" ∧ (parseMethodDescriptor y_Con_addToLine.desc).map (fun d => d.parameters.length) = some 1 := by decide +kernel
theorem hd_Con_addToLine : y_Con_addToLine.cls = "HandleDesk$Console" ∧ y_Con_addToLine.cls ≠ "java/lang/invoke/MethodHandle" ∧ y_Con_addToLine.cls ≠ "java/lang/invoke/VarHandle" ∧ (parseMethodDescriptor y_Con_addToLine.desc).map (fun d => d.parameters.length) = some 1 := ⟨rfl, hi_Con_addToLine⟩
def y_read : MethodName := ⟨"HandleDesk", "read", "(Z)I"⟩
def ws_read : List Cond := .code y_read prog_1_method_15_code 3 (some .int) :: wsA
theorem hi_read : y_read.cls ≠ "java/lang/invoke/MethodHandle" ∧ y_read.cls ≠ "java/lang/invoke/VarHandle" ∧ (parseMethodDescriptor y_read.desc).map (fun d => d.parameters.length) = some 1 := by decide +kernel
theorem hd_read : y_read.cls = "HandleDesk" ∧ y_read.cls ≠ "java/lang/invoke/MethodHandle" ∧ y_read.cls ≠ "java/lang/invoke/VarHandle" ∧ (parseMethodDescriptor y_read.desc).map (fun d => d.parameters.length) = some 1 := ⟨rfl, hi_read⟩
def y_Con_firstDone : MethodName := ⟨"HandleDesk$Console", "firstDone", "()I"⟩
def ws_Con_firstDone : List Cond := .code y_Con_firstDone prog_2_method_6_code 1 (some .int) :: wsA
theorem hi_Con_firstDone : y_Con_firstDone.cls ≠ "java/lang/invoke/MethodHandle" ∧ y_Con_firstDone.cls ≠ "java/lang/invoke/VarHandle" ∧ (parseMethodDescriptor y_Con_firstDone.desc).map (fun d => d.parameters.length) = some 0 := by decide +kernel
theorem hd_Con_firstDone : y_Con_firstDone.cls = "HandleDesk$Console" ∧ y_Con_firstDone.cls ≠ "java/lang/invoke/MethodHandle" ∧ y_Con_firstDone.cls ≠ "java/lang/invoke/VarHandle" ∧ (parseMethodDescriptor y_Con_firstDone.desc).map (fun d => d.parameters.length) = some 0 := ⟨rfl, hi_Con_firstDone⟩
def y_Con_dropFirstDone : MethodName := ⟨"HandleDesk$Console", "dropFirstDone", "()V"⟩
def ws_Con_dropFirstDone : List Cond := .code y_Con_dropFirstDone prog_2_method_7_code 1 (none : Option Jvm.ClassFile.FieldType) :: wsA
theorem hi_Con_dropFirstDone : y_Con_dropFirstDone.cls ≠ "java/lang/invoke/MethodHandle" ∧ y_Con_dropFirstDone.cls ≠ "java/lang/invoke/VarHandle" ∧ (parseMethodDescriptor y_Con_dropFirstDone.desc).map (fun d => d.parameters.length) = some 0 := by decide +kernel
theorem hd_Con_dropFirstDone : y_Con_dropFirstDone.cls = "HandleDesk$Console" ∧ y_Con_dropFirstDone.cls ≠ "java/lang/invoke/MethodHandle" ∧ y_Con_dropFirstDone.cls ≠ "java/lang/invoke/VarHandle" ∧ (parseMethodDescriptor y_Con_dropFirstDone.desc).map (fun d => d.parameters.length) = some 0 := ⟨rfl, hi_Con_dropFirstDone⟩
def y_waiting : MethodName := ⟨"HandleDesk", "waiting", "(I)I"⟩
def ws_waiting : List Cond := .code y_waiting prog_1_method_16_code 2 (some .int) :: wsA
theorem hi_waiting : y_waiting.cls ≠ "java/lang/invoke/MethodHandle" ∧ y_waiting.cls ≠ "java/lang/invoke/VarHandle" ∧ (parseMethodDescriptor y_waiting.desc).map (fun d => d.parameters.length) = some 1 := by decide +kernel
theorem hd_waiting : y_waiting.cls = "HandleDesk" ∧ y_waiting.cls ≠ "java/lang/invoke/MethodHandle" ∧ y_waiting.cls ≠ "java/lang/invoke/VarHandle" ∧ (parseMethodDescriptor y_waiting.desc).map (fun d => d.parameters.length) = some 1 := ⟨rfl, hi_waiting⟩
def y_show : MethodName := ⟨"HandleDesk", "show", "(I)V"⟩
def ws_show : List Cond := .code y_show prog_1_method_17_code 2 (none : Option Jvm.ClassFile.FieldType) :: wsA
theorem hi_show : y_show.cls ≠ "java/lang/invoke/MethodHandle" ∧ y_show.cls ≠ "java/lang/invoke/VarHandle" ∧ (parseMethodDescriptor y_show.desc).map (fun d => d.parameters.length) = some 1 := by decide +kernel
theorem hd_show : y_show.cls = "HandleDesk" ∧ y_show.cls ≠ "java/lang/invoke/MethodHandle" ∧ y_show.cls ≠ "java/lang/invoke/VarHandle" ∧ (parseMethodDescriptor y_show.desc).map (fun d => d.parameters.length) = some 1 := ⟨rfl, hi_show⟩
def y_shown : MethodName := ⟨"HandleDesk", "shown", "(I)I"⟩
def ws_shown : List Cond := .code y_shown prog_1_method_18_code 2 (some .int) :: wsA
theorem hi_shown : y_shown.cls ≠ "java/lang/invoke/MethodHandle" ∧ y_shown.cls ≠ "java/lang/invoke/VarHandle" ∧ (parseMethodDescriptor y_shown.desc).map (fun d => d.parameters.length) = some 1 := by decide +kernel
theorem hd_shown : y_shown.cls = "HandleDesk" ∧ y_shown.cls ≠ "java/lang/invoke/MethodHandle" ∧ y_shown.cls ≠ "java/lang/invoke/VarHandle" ∧ (parseMethodDescriptor y_shown.desc).map (fun d => d.parameters.length) = some 1 := ⟨rfl, hi_shown⟩
def y_Scr_byteAt : MethodName := ⟨"HandleDesk$Screen", "byteAt", "(I)I"⟩
def ws_Scr_byteAt : List Cond := .code y_Scr_byteAt prog_5_method_3_code 2 (some .int) :: wsA
theorem hi_Scr_byteAt : y_Scr_byteAt.cls ≠ "java/lang/invoke/MethodHandle" ∧ y_Scr_byteAt.cls ≠ "java/lang/invoke/VarHandle" ∧ (parseMethodDescriptor y_Scr_byteAt.desc).map (fun d => d.parameters.length) = some 1 := by decide +kernel
theorem hd_Scr_byteAt : y_Scr_byteAt.cls = "HandleDesk$Screen" ∧ y_Scr_byteAt.cls ≠ "java/lang/invoke/MethodHandle" ∧ y_Scr_byteAt.cls ≠ "java/lang/invoke/VarHandle" ∧ (parseMethodDescriptor y_Scr_byteAt.desc).map (fun d => d.parameters.length) = some 1 := ⟨rfl, hi_Scr_byteAt⟩
def y_count : MethodName := ⟨"HandleDesk", "count", "()I"⟩
def ws_count : List Cond := .code y_count prog_1_method_19_code 1 (some .int) :: wsA
theorem hi_count : y_count.cls ≠ "java/lang/invoke/MethodHandle" ∧ y_count.cls ≠ "java/lang/invoke/VarHandle" ∧ (parseMethodDescriptor y_count.desc).map (fun d => d.parameters.length) = some 0 := by decide +kernel
theorem hd_count : y_count.cls = "HandleDesk" ∧ y_count.cls ≠ "java/lang/invoke/MethodHandle" ∧ y_count.cls ≠ "java/lang/invoke/VarHandle" ∧ (parseMethodDescriptor y_count.desc).map (fun d => d.parameters.length) = some 0 := ⟨rfl, hi_count⟩
def y_init_M : MethodName := ⟨"HandleDeskModel", "<init>", "()V"⟩
def ws_init_M : List Cond := .code y_init_M prog_7_method_1_code 1 (none : Option Jvm.ClassFile.FieldType) :: wsA
theorem hi_init_M : y_init_M.cls ≠ "java/lang/invoke/MethodHandle" ∧ y_init_M.cls ≠ "java/lang/invoke/VarHandle" ∧ (parseMethodDescriptor y_init_M.desc).map (fun d => d.parameters.length) = some 0 := by decide +kernel
theorem hd_init_M : y_init_M.cls = "HandleDeskModel" ∧ y_init_M.cls ≠ "java/lang/invoke/MethodHandle" ∧ y_init_M.cls ≠ "java/lang/invoke/VarHandle" ∧ (parseMethodDescriptor y_init_M.desc).map (fun d => d.parameters.length) = some 0 := ⟨rfl, hi_init_M⟩
def y_M_open : MethodName := ⟨"HandleDeskModel", "open", "(IIII)I"⟩
def ws_M_open : List Cond := .code y_M_open prog_7_method_13_code 5 (some .int) :: wsA
theorem hi_M_open : y_M_open.cls ≠ "java/lang/invoke/MethodHandle" ∧ y_M_open.cls ≠ "java/lang/invoke/VarHandle" ∧ (parseMethodDescriptor y_M_open.desc).map (fun d => d.parameters.length) = some 4 := by decide +kernel
theorem hd_M_open : y_M_open.cls = "HandleDeskModel" ∧ y_M_open.cls ≠ "java/lang/invoke/MethodHandle" ∧ y_M_open.cls ≠ "java/lang/invoke/VarHandle" ∧ (parseMethodDescriptor y_M_open.desc).map (fun d => d.parameters.length) = some 4 := ⟨rfl, hi_M_open⟩
def y_M_isPlace : MethodName := ⟨"HandleDeskModel", "isPlace", "(I)Z"⟩
def ws_M_isPlace : List Cond := .code y_M_isPlace prog_7_method_3_code 1 (some .boolean) :: wsA
theorem hi_M_isPlace : y_M_isPlace.cls ≠ "java/lang/invoke/MethodHandle" ∧ y_M_isPlace.cls ≠ "java/lang/invoke/VarHandle" ∧ (parseMethodDescriptor y_M_isPlace.desc).map (fun d => d.parameters.length) = some 1 := by decide +kernel
theorem hd_M_isPlace : y_M_isPlace.cls = "HandleDeskModel" ∧ y_M_isPlace.cls ≠ "java/lang/invoke/MethodHandle" ∧ y_M_isPlace.cls ≠ "java/lang/invoke/VarHandle" ∧ (parseMethodDescriptor y_M_isPlace.desc).map (fun d => d.parameters.length) = some 1 := ⟨rfl, hi_M_isPlace⟩
def y_M_vacant : MethodName := ⟨"HandleDeskModel", "vacant", "(I)I"⟩
def ws_M_vacant : List Cond := .code y_M_vacant prog_7_method_8_code 3 (some .int) :: wsA
theorem hi_M_vacant : y_M_vacant.cls ≠ "java/lang/invoke/MethodHandle" ∧ y_M_vacant.cls ≠ "java/lang/invoke/VarHandle" ∧ (parseMethodDescriptor y_M_vacant.desc).map (fun d => d.parameters.length) = some 1 := by decide +kernel
theorem hd_M_vacant : y_M_vacant.cls = "HandleDeskModel" ∧ y_M_vacant.cls ≠ "java/lang/invoke/MethodHandle" ∧ y_M_vacant.cls ≠ "java/lang/invoke/VarHandle" ∧ (parseMethodDescriptor y_M_vacant.desc).map (fun d => d.parameters.length) = some 1 := ⟨rfl, hi_M_vacant⟩
def y_M_files : MethodName := ⟨"HandleDeskModel", "files", "()I"⟩
def ws_M_files : List Cond := .code y_M_files prog_7_method_6_code 3 (some .int) :: wsA
theorem hi_M_files : y_M_files.cls ≠ "java/lang/invoke/MethodHandle" ∧ y_M_files.cls ≠ "java/lang/invoke/VarHandle" ∧ (parseMethodDescriptor y_M_files.desc).map (fun d => d.parameters.length) = some 0 := by decide +kernel
theorem hd_M_files : y_M_files.cls = "HandleDeskModel" ∧ y_M_files.cls ≠ "java/lang/invoke/MethodHandle" ∧ y_M_files.cls ≠ "java/lang/invoke/VarHandle" ∧ (parseMethodDescriptor y_M_files.desc).map (fun d => d.parameters.length) = some 0 := ⟨rfl, hi_M_files⟩
def y_M_named : MethodName := ⟨"HandleDeskModel", "named", "(I)I"⟩
def ws_M_named : List Cond := .code y_M_named prog_7_method_5_code 4 (some .int) :: wsA
theorem hi_M_named : y_M_named.cls ≠ "java/lang/invoke/MethodHandle" ∧ y_M_named.cls ≠ "java/lang/invoke/VarHandle" ∧ (parseMethodDescriptor y_M_named.desc).map (fun d => d.parameters.length) = some 1 := by decide +kernel
theorem hd_M_named : y_M_named.cls = "HandleDeskModel" ∧ y_M_named.cls ≠ "java/lang/invoke/MethodHandle" ∧ y_M_named.cls ≠ "java/lang/invoke/VarHandle" ∧ (parseMethodDescriptor y_M_named.desc).map (fun d => d.parameters.length) = some 1 := ⟨rfl, hi_M_named⟩
def y_M_makes : MethodName := ⟨"HandleDeskModel", "makes", "(IIIII)I"⟩
def ws_M_makes : List Cond := .code y_M_makes prog_7_method_12_code 7 (some .int) :: wsA
theorem hi_M_makes : y_M_makes.cls ≠ "java/lang/invoke/MethodHandle" ∧ y_M_makes.cls ≠ "java/lang/invoke/VarHandle" ∧ (parseMethodDescriptor y_M_makes.desc).map (fun d => d.parameters.length) = some 5 := by decide +kernel
theorem hd_M_makes : y_M_makes.cls = "HandleDeskModel" ∧ y_M_makes.cls ≠ "java/lang/invoke/MethodHandle" ∧ y_M_makes.cls ≠ "java/lang/invoke/VarHandle" ∧ (parseMethodDescriptor y_M_makes.desc).map (fun d => d.parameters.length) = some 5 := ⟨rfl, hi_M_makes⟩
def y_M_freeFile : MethodName := ⟨"HandleDeskModel", "freeFile", "()I"⟩
def ws_M_freeFile : List Cond := .code y_M_freeFile prog_7_method_7_code 2 (some .int) :: wsA
theorem hi_M_freeFile : y_M_freeFile.cls ≠ "java/lang/invoke/MethodHandle" ∧ y_M_freeFile.cls ≠ "java/lang/invoke/VarHandle" ∧ (parseMethodDescriptor y_M_freeFile.desc).map (fun d => d.parameters.length) = some 0 := by decide +kernel
theorem hd_M_freeFile : y_M_freeFile.cls = "HandleDeskModel" ∧ y_M_freeFile.cls ≠ "java/lang/invoke/MethodHandle" ∧ y_M_freeFile.cls ≠ "java/lang/invoke/VarHandle" ∧ (parseMethodDescriptor y_M_freeFile.desc).map (fun d => d.parameters.length) = some 0 := ⟨rfl, hi_M_freeFile⟩
def y_M_pipe : MethodName := ⟨"HandleDeskModel", "pipe", "(I)I"⟩
def ws_M_pipe : List Cond := .code y_M_pipe prog_7_method_14_code 5 (some .int) :: wsA
theorem hi_M_pipe : y_M_pipe.cls ≠ "java/lang/invoke/MethodHandle" ∧ y_M_pipe.cls ≠ "java/lang/invoke/VarHandle" ∧ (parseMethodDescriptor y_M_pipe.desc).map (fun d => d.parameters.length) = some 1 := by decide +kernel
theorem hd_M_pipe : y_M_pipe.cls = "HandleDeskModel" ∧ y_M_pipe.cls ≠ "java/lang/invoke/MethodHandle" ∧ y_M_pipe.cls ≠ "java/lang/invoke/VarHandle" ∧ (parseMethodDescriptor y_M_pipe.desc).map (fun d => d.parameters.length) = some 1 := ⟨rfl, hi_M_pipe⟩
def y_M_isPipe : MethodName := ⟨"HandleDeskModel", "isPipe", "(I)Z"⟩
def ws_M_isPipe : List Cond := .code y_M_isPipe prog_7_method_11_code 2 (some .boolean) :: wsA
theorem hi_M_isPipe : y_M_isPipe.cls ≠ "java/lang/invoke/MethodHandle" ∧ y_M_isPipe.cls ≠ "java/lang/invoke/VarHandle" ∧ (parseMethodDescriptor y_M_isPipe.desc).map (fun d => d.parameters.length) = some 1 := by decide +kernel
theorem hd_M_isPipe : y_M_isPipe.cls = "HandleDeskModel" ∧ y_M_isPipe.cls ≠ "java/lang/invoke/MethodHandle" ∧ y_M_isPipe.cls ≠ "java/lang/invoke/VarHandle" ∧ (parseMethodDescriptor y_M_isPipe.desc).map (fun d => d.parameters.length) = some 1 := ⟨rfl, hi_M_isPipe⟩
def y_M_end : MethodName := ⟨"HandleDeskModel", "end", "(II)I"⟩
def ws_M_end : List Cond := .code y_M_end prog_7_method_10_code 5 (some .int) :: wsA
theorem hi_M_end : y_M_end.cls ≠ "java/lang/invoke/MethodHandle" ∧ y_M_end.cls ≠ "java/lang/invoke/VarHandle" ∧ (parseMethodDescriptor y_M_end.desc).map (fun d => d.parameters.length) = some 2 := by decide +kernel
theorem hd_M_end : y_M_end.cls = "HandleDeskModel" ∧ y_M_end.cls ≠ "java/lang/invoke/MethodHandle" ∧ y_M_end.cls ≠ "java/lang/invoke/VarHandle" ∧ (parseMethodDescriptor y_M_end.desc).map (fun d => d.parameters.length) = some 2 := ⟨rfl, hi_M_end⟩
def y_M_used : MethodName := ⟨"HandleDeskModel", "used", "(I)I"⟩
def ws_M_used : List Cond := .code y_M_used prog_7_method_9_code 4 (some .int) :: wsA
theorem hi_M_used : y_M_used.cls ≠ "java/lang/invoke/MethodHandle" ∧ y_M_used.cls ≠ "java/lang/invoke/VarHandle" ∧ (parseMethodDescriptor y_M_used.desc).map (fun d => d.parameters.length) = some 1 := by decide +kernel
theorem hd_M_used : y_M_used.cls = "HandleDeskModel" ∧ y_M_used.cls ≠ "java/lang/invoke/MethodHandle" ∧ y_M_used.cls ≠ "java/lang/invoke/VarHandle" ∧ (parseMethodDescriptor y_M_used.desc).map (fun d => d.parameters.length) = some 1 := ⟨rfl, hi_M_used⟩
def y_M_again : MethodName := ⟨"HandleDeskModel", "again", "(II)I"⟩
def ws_M_again : List Cond := .code y_M_again prog_7_method_15_code 5 (some .int) :: wsA
theorem hi_M_again : y_M_again.cls ≠ "java/lang/invoke/MethodHandle" ∧ y_M_again.cls ≠ "java/lang/invoke/VarHandle" ∧ (parseMethodDescriptor y_M_again.desc).map (fun d => d.parameters.length) = some 2 := by decide +kernel
theorem hd_M_again : y_M_again.cls = "HandleDeskModel" ∧ y_M_again.cls ≠ "java/lang/invoke/MethodHandle" ∧ y_M_again.cls ≠ "java/lang/invoke/VarHandle" ∧ (parseMethodDescriptor y_M_again.desc).map (fun d => d.parameters.length) = some 2 := ⟨rfl, hi_M_again⟩
def y_M_file : MethodName := ⟨"HandleDeskModel", "file", "(II)I"⟩
def ws_M_file : List Cond := .code y_M_file prog_7_method_4_code 3 (some .int) :: wsA
theorem hi_M_file : y_M_file.cls ≠ "java/lang/invoke/MethodHandle" ∧ y_M_file.cls ≠ "java/lang/invoke/VarHandle" ∧ (parseMethodDescriptor y_M_file.desc).map (fun d => d.parameters.length) = some 2 := by decide +kernel
theorem hd_M_file : y_M_file.cls = "HandleDeskModel" ∧ y_M_file.cls ≠ "java/lang/invoke/MethodHandle" ∧ y_M_file.cls ≠ "java/lang/invoke/VarHandle" ∧ (parseMethodDescriptor y_M_file.desc).map (fun d => d.parameters.length) = some 2 := ⟨rfl, hi_M_file⟩
def y_M_close : MethodName := ⟨"HandleDeskModel", "close", "(II)I"⟩
def ws_M_close : List Cond := .code y_M_close prog_7_method_17_code 4 (some .int) :: wsA
theorem hi_M_close : y_M_close.cls ≠ "java/lang/invoke/MethodHandle" ∧ y_M_close.cls ≠ "java/lang/invoke/VarHandle" ∧ (parseMethodDescriptor y_M_close.desc).map (fun d => d.parameters.length) = some 2 := by decide +kernel
theorem hd_M_close : y_M_close.cls = "HandleDeskModel" ∧ y_M_close.cls ≠ "java/lang/invoke/MethodHandle" ∧ y_M_close.cls ≠ "java/lang/invoke/VarHandle" ∧ (parseMethodDescriptor y_M_close.desc).map (fun d => d.parameters.length) = some 2 := ⟨rfl, hi_M_close⟩
def y_M_closes : MethodName := ⟨"HandleDeskModel", "closes", "(II)Z"⟩
def ws_M_closes : List Cond := .code y_M_closes prog_7_method_16_code 4 (some .boolean) :: wsA
theorem hi_M_closes : y_M_closes.cls ≠ "java/lang/invoke/MethodHandle" ∧ y_M_closes.cls ≠ "java/lang/invoke/VarHandle" ∧ (parseMethodDescriptor y_M_closes.desc).map (fun d => d.parameters.length) = some 2 := by decide +kernel
theorem hd_M_closes : y_M_closes.cls = "HandleDeskModel" ∧ y_M_closes.cls ≠ "java/lang/invoke/MethodHandle" ∧ y_M_closes.cls ≠ "java/lang/invoke/VarHandle" ∧ (parseMethodDescriptor y_M_closes.desc).map (fun d => d.parameters.length) = some 2 := ⟨rfl, hi_M_closes⟩
def y_M_closeAll : MethodName := ⟨"HandleDeskModel", "closeAll", "(I)I"⟩
def ws_M_closeAll : List Cond := .code y_M_closeAll prog_7_method_18_code 4 (some .int) :: wsA
theorem hi_M_closeAll : y_M_closeAll.cls ≠ "java/lang/invoke/MethodHandle" ∧ y_M_closeAll.cls ≠ "java/lang/invoke/VarHandle" ∧ (parseMethodDescriptor y_M_closeAll.desc).map (fun d => d.parameters.length) = some 1 := by decide +kernel
theorem hd_M_closeAll : y_M_closeAll.cls = "HandleDeskModel" ∧ y_M_closeAll.cls ≠ "java/lang/invoke/MethodHandle" ∧ y_M_closeAll.cls ≠ "java/lang/invoke/VarHandle" ∧ (parseMethodDescriptor y_M_closeAll.desc).map (fun d => d.parameters.length) = some 1 := ⟨rfl, hi_M_closeAll⟩
def y_M_left : MethodName := ⟨"HandleDeskModel", "left", "(I)I"⟩
def ws_M_left : List Cond := .code y_M_left prog_7_method_19_code 2 (some .int) :: wsA
theorem hi_M_left : y_M_left.cls ≠ "java/lang/invoke/MethodHandle" ∧ y_M_left.cls ≠ "java/lang/invoke/VarHandle" ∧ (parseMethodDescriptor y_M_left.desc).map (fun d => d.parameters.length) = some 1 := by decide +kernel
theorem hd_M_left : y_M_left.cls = "HandleDeskModel" ∧ y_M_left.cls ≠ "java/lang/invoke/MethodHandle" ∧ y_M_left.cls ≠ "java/lang/invoke/VarHandle" ∧ (parseMethodDescriptor y_M_left.desc).map (fun d => d.parameters.length) = some 1 := ⟨rfl, hi_M_left⟩
def y_M_copy : MethodName := ⟨"HandleDeskModel", "copy", "(II)I"⟩
def ws_M_copy : List Cond := .code y_M_copy prog_7_method_20_code 4 (some .int) :: wsA
theorem hi_M_copy : y_M_copy.cls ≠ "java/lang/invoke/MethodHandle" ∧ y_M_copy.cls ≠ "java/lang/invoke/VarHandle" ∧ (parseMethodDescriptor y_M_copy.desc).map (fun d => d.parameters.length) = some 2 := by decide +kernel
theorem hd_M_copy : y_M_copy.cls = "HandleDeskModel" ∧ y_M_copy.cls ≠ "java/lang/invoke/MethodHandle" ∧ y_M_copy.cls ≠ "java/lang/invoke/VarHandle" ∧ (parseMethodDescriptor y_M_copy.desc).map (fun d => d.parameters.length) = some 2 := ⟨rfl, hi_M_copy⟩
def y_M_about : MethodName := ⟨"HandleDeskModel", "about", "(III)I"⟩
def ws_M_about : List Cond := .code y_M_about prog_7_method_21_code 5 (some .int) :: wsA
theorem hi_M_about : y_M_about.cls ≠ "java/lang/invoke/MethodHandle" ∧ y_M_about.cls ≠ "java/lang/invoke/VarHandle" ∧ (parseMethodDescriptor y_M_about.desc).map (fun d => d.parameters.length) = some 3 := by decide +kernel
theorem hd_M_about : y_M_about.cls = "HandleDeskModel" ∧ y_M_about.cls ≠ "java/lang/invoke/MethodHandle" ∧ y_M_about.cls ≠ "java/lang/invoke/VarHandle" ∧ (parseMethodDescriptor y_M_about.desc).map (fun d => d.parameters.length) = some 3 := ⟨rfl, hi_M_about⟩
def y_M_move : MethodName := ⟨"HandleDeskModel", "move", "(III)Z"⟩
def ws_M_move : List Cond := .code y_M_move prog_7_method_22_code 5 (some .boolean) :: wsA
theorem hi_M_move : y_M_move.cls ≠ "java/lang/invoke/MethodHandle" ∧ y_M_move.cls ≠ "java/lang/invoke/VarHandle" ∧ (parseMethodDescriptor y_M_move.desc).map (fun d => d.parameters.length) = some 3 := by decide +kernel
theorem hd_M_move : y_M_move.cls = "HandleDeskModel" ∧ y_M_move.cls ≠ "java/lang/invoke/MethodHandle" ∧ y_M_move.cls ≠ "java/lang/invoke/VarHandle" ∧ (parseMethodDescriptor y_M_move.desc).map (fun d => d.parameters.length) = some 3 := ⟨rfl, hi_M_move⟩
def y_M_put : MethodName := ⟨"HandleDeskModel", "put", "(III)I"⟩
def ws_M_put : List Cond := .code y_M_put prog_7_method_23_code 6 (some .int) :: wsA
theorem hi_M_put : y_M_put.cls ≠ "java/lang/invoke/MethodHandle" ∧ y_M_put.cls ≠ "java/lang/invoke/VarHandle" ∧ (parseMethodDescriptor y_M_put.desc).map (fun d => d.parameters.length) = some 3 := by decide +kernel
theorem hd_M_put : y_M_put.cls = "HandleDeskModel" ∧ y_M_put.cls ≠ "java/lang/invoke/MethodHandle" ∧ y_M_put.cls ≠ "java/lang/invoke/VarHandle" ∧ (parseMethodDescriptor y_M_put.desc).map (fun d => d.parameters.length) = some 3 := ⟨rfl, hi_M_put⟩
def y_M_take : MethodName := ⟨"HandleDeskModel", "take", "(II)I"⟩
def ws_M_take : List Cond := .code y_M_take prog_7_method_24_code 7 (some .int) :: wsA
theorem hi_M_take : y_M_take.cls ≠ "java/lang/invoke/MethodHandle" ∧ y_M_take.cls ≠ "java/lang/invoke/VarHandle" ∧ (parseMethodDescriptor y_M_take.desc).map (fun d => d.parameters.length) = some 2 := by decide +kernel
theorem hd_M_take : y_M_take.cls = "HandleDeskModel" ∧ y_M_take.cls ≠ "java/lang/invoke/MethodHandle" ∧ y_M_take.cls ≠ "java/lang/invoke/VarHandle" ∧ (parseMethodDescriptor y_M_take.desc).map (fun d => d.parameters.length) = some 2 := ⟨rfl, hi_M_take⟩
def y_M_ends : MethodName := ⟨"HandleDeskModel", "ends", "(II)I"⟩
def ws_M_ends : List Cond := .code y_M_ends prog_7_method_25_code 3 (some .int) :: wsA
theorem hi_M_ends : y_M_ends.cls ≠ "java/lang/invoke/MethodHandle" ∧ y_M_ends.cls ≠ "java/lang/invoke/VarHandle" ∧ (parseMethodDescriptor y_M_ends.desc).map (fun d => d.parameters.length) = some 2 := by decide +kernel
theorem hd_M_ends : y_M_ends.cls = "HandleDeskModel" ∧ y_M_ends.cls ≠ "java/lang/invoke/MethodHandle" ∧ y_M_ends.cls ≠ "java/lang/invoke/VarHandle" ∧ (parseMethodDescriptor y_M_ends.desc).map (fun d => d.parameters.length) = some 2 := ⟨rfl, hi_M_ends⟩
def y_M_type : MethodName := ⟨"HandleDeskModel", "type", "(I)Z"⟩
def ws_M_type : List Cond := .code y_M_type prog_7_method_28_code 3 (some .boolean) :: wsA
theorem hi_M_type : y_M_type.cls ≠ "java/lang/invoke/MethodHandle" ∧ y_M_type.cls ≠ "java/lang/invoke/VarHandle" ∧ (parseMethodDescriptor y_M_type.desc).map (fun d => d.parameters.length) = some 1 := by decide +kernel
theorem hd_M_type : y_M_type.cls = "HandleDeskModel" ∧ y_M_type.cls ≠ "java/lang/invoke/MethodHandle" ∧ y_M_type.cls ≠ "java/lang/invoke/VarHandle" ∧ (parseMethodDescriptor y_M_type.desc).map (fun d => d.parameters.length) = some 1 := ⟨rfl, hi_M_type⟩
def y_M_back : MethodName := ⟨"HandleDeskModel", "back", "()V"⟩
def ws_M_back : List Cond := .code y_M_back prog_7_method_27_code 1 (none : Option Jvm.ClassFile.FieldType) :: wsA
theorem hi_M_back : y_M_back.cls ≠ "java/lang/invoke/MethodHandle" ∧ y_M_back.cls ≠ "java/lang/invoke/VarHandle" ∧ (parseMethodDescriptor y_M_back.desc).map (fun d => d.parameters.length) = some 0 := by decide +kernel
theorem hd_M_back : y_M_back.cls = "HandleDeskModel" ∧ y_M_back.cls ≠ "java/lang/invoke/MethodHandle" ∧ y_M_back.cls ≠ "java/lang/invoke/VarHandle" ∧ (parseMethodDescriptor y_M_back.desc).map (fun d => d.parameters.length) = some 0 := ⟨rfl, hi_M_back⟩
def y_M_puts : MethodName := ⟨"HandleDeskModel", "puts", "(I)V"⟩
def ws_M_puts : List Cond := .code y_M_puts prog_7_method_26_code 2 (none : Option Jvm.ClassFile.FieldType) :: wsA
theorem hi_M_puts : y_M_puts.cls ≠ "java/lang/invoke/MethodHandle" ∧ y_M_puts.cls ≠ "java/lang/invoke/VarHandle" ∧ (parseMethodDescriptor y_M_puts.desc).map (fun d => d.parameters.length) = some 1 := by decide +kernel
theorem hd_M_puts : y_M_puts.cls = "HandleDeskModel" ∧ y_M_puts.cls ≠ "java/lang/invoke/MethodHandle" ∧ y_M_puts.cls ≠ "java/lang/invoke/VarHandle" ∧ (parseMethodDescriptor y_M_puts.desc).map (fun d => d.parameters.length) = some 1 := ⟨rfl, hi_M_puts⟩
def y_M_read : MethodName := ⟨"HandleDeskModel", "read", "(Z)I"⟩
def ws_M_read : List Cond := .code y_M_read prog_7_method_29_code 4 (some .int) :: wsA
theorem hi_M_read : y_M_read.cls ≠ "java/lang/invoke/MethodHandle" ∧ y_M_read.cls ≠ "java/lang/invoke/VarHandle" ∧ (parseMethodDescriptor y_M_read.desc).map (fun d => d.parameters.length) = some 1 := by decide +kernel
theorem hd_M_read : y_M_read.cls = "HandleDeskModel" ∧ y_M_read.cls ≠ "java/lang/invoke/MethodHandle" ∧ y_M_read.cls ≠ "java/lang/invoke/VarHandle" ∧ (parseMethodDescriptor y_M_read.desc).map (fun d => d.parameters.length) = some 1 := ⟨rfl, hi_M_read⟩
def y_M_waiting : MethodName := ⟨"HandleDeskModel", "waiting", "(I)I"⟩
def ws_M_waiting : List Cond := .code y_M_waiting prog_7_method_30_code 2 (some .int) :: wsA
theorem hi_M_waiting : y_M_waiting.cls ≠ "java/lang/invoke/MethodHandle" ∧ y_M_waiting.cls ≠ "java/lang/invoke/VarHandle" ∧ (parseMethodDescriptor y_M_waiting.desc).map (fun d => d.parameters.length) = some 1 := by decide +kernel
theorem hd_M_waiting : y_M_waiting.cls = "HandleDeskModel" ∧ y_M_waiting.cls ≠ "java/lang/invoke/MethodHandle" ∧ y_M_waiting.cls ≠ "java/lang/invoke/VarHandle" ∧ (parseMethodDescriptor y_M_waiting.desc).map (fun d => d.parameters.length) = some 1 := ⟨rfl, hi_M_waiting⟩
def y_M_show : MethodName := ⟨"HandleDeskModel", "show", "(I)V"⟩
def ws_M_show : List Cond := .code y_M_show prog_7_method_31_code 2 (none : Option Jvm.ClassFile.FieldType) :: wsA
theorem hi_M_show : y_M_show.cls ≠ "java/lang/invoke/MethodHandle" ∧ y_M_show.cls ≠ "java/lang/invoke/VarHandle" ∧ (parseMethodDescriptor y_M_show.desc).map (fun d => d.parameters.length) = some 1 := by decide +kernel
theorem hd_M_show : y_M_show.cls = "HandleDeskModel" ∧ y_M_show.cls ≠ "java/lang/invoke/MethodHandle" ∧ y_M_show.cls ≠ "java/lang/invoke/VarHandle" ∧ (parseMethodDescriptor y_M_show.desc).map (fun d => d.parameters.length) = some 1 := ⟨rfl, hi_M_show⟩
def y_M_shown : MethodName := ⟨"HandleDeskModel", "shown", "(I)I"⟩
def ws_M_shown : List Cond := .code y_M_shown prog_7_method_32_code 2 (some .int) :: wsA
theorem hi_M_shown : y_M_shown.cls ≠ "java/lang/invoke/MethodHandle" ∧ y_M_shown.cls ≠ "java/lang/invoke/VarHandle" ∧ (parseMethodDescriptor y_M_shown.desc).map (fun d => d.parameters.length) = some 1 := by decide +kernel
theorem hd_M_shown : y_M_shown.cls = "HandleDeskModel" ∧ y_M_shown.cls ≠ "java/lang/invoke/MethodHandle" ∧ y_M_shown.cls ≠ "java/lang/invoke/VarHandle" ∧ (parseMethodDescriptor y_M_shown.desc).map (fun d => d.parameters.length) = some 1 := ⟨rfl, hi_M_shown⟩
def y_M_count : MethodName := ⟨"HandleDeskModel", "count", "()I"⟩
def ws_M_count : List Cond := .code y_M_count prog_7_method_33_code 1 (some .int) :: wsA
theorem hi_M_count : y_M_count.cls ≠ "java/lang/invoke/MethodHandle" ∧ y_M_count.cls ≠ "java/lang/invoke/VarHandle" ∧ (parseMethodDescriptor y_M_count.desc).map (fun d => d.parameters.length) = some 0 := by decide +kernel
theorem hd_M_count : y_M_count.cls = "HandleDeskModel" ∧ y_M_count.cls ≠ "java/lang/invoke/MethodHandle" ∧ y_M_count.cls ≠ "java/lang/invoke/VarHandle" ∧ (parseMethodDescriptor y_M_count.desc).map (fun d => d.parameters.length) = some 0 := ⟨rfl, hi_M_count⟩
end
section
theorem wd_0 : (Cond.initialized "HandleDeskLaw" : Cond) ∈ wsA := wA1 0 (by decide +kernel) (by decide +kernel)
theorem wd_1 : (Cond.initialized "HandleDesk" : Cond) ∈ wsA := wA1 1 (by decide +kernel) (by decide +kernel)
theorem wd_2 : (Cond.initialized "HandleDesk$OpenFile" : Cond) ∈ wsA := wA1 2 (by decide +kernel) (by decide +kernel)
theorem wd_3 : (Cond.initialized "HandleDesk$Pipe" : Cond) ∈ wsA := wA1 3 (by decide +kernel) (by decide +kernel)
theorem wd_4 : (Cond.initialized "HandleDesk$Console" : Cond) ∈ wsA := wA1 4 (by decide +kernel) (by decide +kernel)
theorem wd_5 : (Cond.initialized "HandleDesk$Screen" : Cond) ∈ wsA := wA1 5 (by decide +kernel) (by decide +kernel)
theorem wd_6 : (Cond.initialized "HandleDeskModel" : Cond) ∈ wsA := wA1 6 (by decide +kernel) (by decide +kernel)
theorem wd_7 : (Cond.initialized "java/lang/Math" : Cond) ∈ wsA := wA1 7 (by decide +kernel) (by decide +kernel)
theorem wd_8 : (Cond.classLink "HandleDeskLaw" 7 "HandleDesk" : Cond) ∈ wsA := wA1 8 (by decide +kernel) (by decide +kernel)
theorem wd_9 : (Cond.instantiable "HandleDesk" 7 : Cond) ∈ wsA := wA1 9 (by decide +kernel) (by decide +kernel)
theorem wd_10 : (Cond.methodLink "HandleDeskLaw" 9 ⟨"HandleDesk", "<init>", "()V"⟩ : Cond) ∈ wsA := wA1 10 (by decide +kernel) (by decide +kernel)
theorem wd_11 : (Cond.instanceMethod ⟨"HandleDesk", "<init>", "()V"⟩ : Cond) ∈ wsA := wA1 11 (by decide +kernel) (by decide +kernel)
theorem wd_12 : (Cond.code ⟨"HandleDesk", "<init>", "()V"⟩ prog_1_method_1_code 2 (none : Option Jvm.ClassFile.FieldType) : Cond) ∈ wsA := wA1 12 (by decide +kernel) (by decide +kernel)
theorem wd_13 : (Cond.methodLink "HandleDesk" 1 ⟨"java/lang/Object", "<init>", "()V"⟩ : Cond) ∈ wsA := wA1 13 (by decide +kernel) (by decide +kernel)
theorem wd_14 : (Cond.instanceMethod ⟨"java/lang/Object", "<init>", "()V"⟩ : Cond) ∈ wsA := wA1 14 (by decide +kernel) (by decide +kernel)
theorem wd_15 : (Cond.code ⟨"java/lang/Object", "<init>", "()V"⟩ object_method_1_code 1 (none : Option Jvm.ClassFile.FieldType) : Cond) ∈ wsA := wA1 15 (by decide +kernel) (by decide +kernel)
theorem wd_16 : (Cond.classLink "HandleDesk" 9 "HandleDesk$OpenFile" : Cond) ∈ wsA := wA1 16 (by decide +kernel) (by decide +kernel)
theorem wd_18 : (Cond.instantiable "HandleDesk$OpenFile" 8 : Cond) ∈ wsA := wA1 18 (by decide +kernel) (by decide +kernel)
theorem wd_19 : (Cond.methodLink "HandleDesk" 18 ⟨"HandleDesk$OpenFile", "<init>", "(I)V"⟩ : Cond) ∈ wsA := wA1 19 (by decide +kernel) (by decide +kernel)
theorem wd_20 : (Cond.instanceMethod ⟨"HandleDesk$OpenFile", "<init>", "(I)V"⟩ : Cond) ∈ wsA := wA1 20 (by decide +kernel) (by decide +kernel)
theorem wd_21 : (Cond.code ⟨"HandleDesk$OpenFile", "<init>", "(I)V"⟩ prog_3_method_1_code 2 (none : Option Jvm.ClassFile.FieldType) : Cond) ∈ wsA := wA1 21 (by decide +kernel) (by decide +kernel)
theorem wd_22 : (Cond.methodLink "HandleDesk$OpenFile" 3 ⟨"java/lang/Object", "<init>", "()V"⟩ : Cond) ∈ wsA := wA1 22 (by decide +kernel) (by decide +kernel)
theorem wd_23 : (Cond.fieldLink "HandleDesk$OpenFile" 9 "HandleDesk$OpenFile" "number" "I" : Cond) ∈ wsA := wA1 23 (by decide +kernel) (by decide +kernel)
theorem wd_24 : (Cond.fieldLink "HandleDesk" 79 "HandleDesk$OpenFile" "number" "I" : Cond) ∈ wsA := wA1 24 (by decide +kernel) (by decide +kernel)
theorem wd_25 : (Cond.fieldLink "HandleDesk$OpenFile" 15 "HandleDesk$OpenFile" "kind" "I" : Cond) ∈ wsA := wA1 25 (by decide +kernel) (by decide +kernel)
theorem wd_26 : (Cond.fieldLink "HandleDesk" 105 "HandleDesk$OpenFile" "kind" "I" : Cond) ∈ wsA := wA1 26 (by decide +kernel) (by decide +kernel)
theorem wd_27 : (Cond.fieldLink "HandleDesk$OpenFile" 18 "HandleDesk$OpenFile" "inode" "I" : Cond) ∈ wsA := wA1 27 (by decide +kernel) (by decide +kernel)
theorem wd_28 : (Cond.fieldLink "HandleDesk" 72 "HandleDesk$OpenFile" "inode" "I" : Cond) ∈ wsA := wA1 28 (by decide +kernel) (by decide +kernel)
theorem wd_29 : (Cond.fieldLink "HandleDesk$OpenFile" 21 "HandleDesk$OpenFile" "row" "LHandleDesk$Pipe;" : Cond) ∈ wsA := wA1 29 (by decide +kernel) (by decide +kernel)
theorem wd_30 : (Cond.fieldLink "HandleDesk" 108 "HandleDesk$OpenFile" "row" "LHandleDesk$Pipe;" : Cond) ∈ wsA := wA1 30 (by decide +kernel) (by decide +kernel)
theorem wd_31 : (Cond.fieldLink "HandleDesk$OpenFile" 25 "HandleDesk$OpenFile" "canRead" "Z" : Cond) ∈ wsA := wA1 31 (by decide +kernel) (by decide +kernel)
theorem wd_32 : (Cond.fieldLink "HandleDesk" 113 "HandleDesk$OpenFile" "canRead" "Z" : Cond) ∈ wsA := wA1 32 (by decide +kernel) (by decide +kernel)
theorem wd_33 : (Cond.fieldLink "HandleDesk$OpenFile" 29 "HandleDesk$OpenFile" "canWrite" "Z" : Cond) ∈ wsA := wA1 33 (by decide +kernel) (by decide +kernel)
theorem wd_34 : (Cond.fieldLink "HandleDesk" 121 "HandleDesk$OpenFile" "canWrite" "Z" : Cond) ∈ wsA := wA1 34 (by decide +kernel) (by decide +kernel)
theorem wd_35 : (Cond.fieldLink "HandleDesk$OpenFile" 32 "HandleDesk$OpenFile" "place" "I" : Cond) ∈ wsA := wA1 35 (by decide +kernel) (by decide +kernel)
theorem wd_36 : (Cond.fieldLink "HandleDesk" 124 "HandleDesk$OpenFile" "place" "I" : Cond) ∈ wsA := wA1 36 (by decide +kernel) (by decide +kernel)
theorem wd_37 : (Cond.fieldLink "HandleDesk$OpenFile" 35 "HandleDesk$OpenFile" "names" "I" : Cond) ∈ wsA := wA1 37 (by decide +kernel) (by decide +kernel)
theorem wd_38 : (Cond.fieldLink "HandleDesk" 127 "HandleDesk$OpenFile" "names" "I" : Cond) ∈ wsA := wA1 38 (by decide +kernel) (by decide +kernel)
theorem wd_56 : (Cond.classLink "HandleDesk" 21 "HandleDesk$Pipe" : Cond) ∈ wsA := wA1 56 (by decide +kernel) (by decide +kernel)
theorem wd_58 : (Cond.instantiable "HandleDesk$Pipe" 6 : Cond) ∈ wsA := wA1 58 (by decide +kernel) (by decide +kernel)
theorem wd_59 : (Cond.methodLink "HandleDesk" 27 ⟨"HandleDesk$Pipe", "<init>", "(I)V"⟩ : Cond) ∈ wsA := wA1 59 (by decide +kernel) (by decide +kernel)
theorem wd_60 : (Cond.instanceMethod ⟨"HandleDesk$Pipe", "<init>", "(I)V"⟩ : Cond) ∈ wsA := wA1 60 (by decide +kernel) (by decide +kernel)
theorem wd_61 : (Cond.code ⟨"HandleDesk$Pipe", "<init>", "(I)V"⟩ prog_4_method_1_code 2 (none : Option Jvm.ClassFile.FieldType) : Cond) ∈ wsA := wA1 61 (by decide +kernel) (by decide +kernel)
theorem wd_62 : (Cond.methodLink "HandleDesk$Pipe" 3 ⟨"java/lang/Object", "<init>", "()V"⟩ : Cond) ∈ wsA := wA1 62 (by decide +kernel) (by decide +kernel)
theorem wd_63 : (Cond.fieldLink "HandleDesk$Pipe" 15 "HandleDesk$Pipe" "number" "I" : Cond) ∈ wsA := wA1 63 (by decide +kernel) (by decide +kernel)
theorem wd_64 : (Cond.fieldLink "HandleDesk" 112 "HandleDesk$Pipe" "number" "I" : Cond) ∈ wsA := wA1 64 (by decide +kernel) (by decide +kernel)
theorem wd_65 : (Cond.fieldLink "HandleDesk$Pipe" 9 "HandleDesk$Pipe" "ring" "[B" : Cond) ∈ wsA := wA1 65 (by decide +kernel) (by decide +kernel)
theorem wd_66 : (Cond.fieldLink "HandleDesk$Pipe" 19 "HandleDesk$Pipe" "start" "I" : Cond) ∈ wsA := wA1 66 (by decide +kernel) (by decide +kernel)
theorem wd_67 : (Cond.fieldLink "HandleDesk$Pipe" 22 "HandleDesk$Pipe" "size" "I" : Cond) ∈ wsA := wA1 67 (by decide +kernel) (by decide +kernel)
theorem wd_68 : (Cond.fieldLink "HandleDesk" 140 "HandleDesk$Pipe" "size" "I" : Cond) ∈ wsA := wA1 68 (by decide +kernel) (by decide +kernel)
theorem wd_69 : (Cond.fieldLink "HandleDesk$Pipe" 25 "HandleDesk$Pipe" "readerOpen" "Z" : Cond) ∈ wsA := wA1 69 (by decide +kernel) (by decide +kernel)
theorem wd_70 : (Cond.fieldLink "HandleDesk" 130 "HandleDesk$Pipe" "readerOpen" "Z" : Cond) ∈ wsA := wA1 70 (by decide +kernel) (by decide +kernel)
theorem wd_71 : (Cond.fieldLink "HandleDesk$Pipe" 29 "HandleDesk$Pipe" "writerOpen" "Z" : Cond) ∈ wsA := wA1 71 (by decide +kernel) (by decide +kernel)
theorem wd_72 : (Cond.fieldLink "HandleDesk" 147 "HandleDesk$Pipe" "writerOpen" "Z" : Cond) ∈ wsA := wA1 72 (by decide +kernel) (by decide +kernel)
theorem wd_86 : (Cond.arrayClass .byte : Cond) ∈ wsA := wA1 86 (by decide +kernel) (by decide +kernel)
theorem wd_87 : (Cond.classLink "HandleDesk" 36 "HandleDesk$Console" : Cond) ∈ wsA := wA1 87 (by decide +kernel) (by decide +kernel)
theorem wd_88 : (Cond.instantiable "HandleDesk$Console" 4 : Cond) ∈ wsA := wA1 88 (by decide +kernel) (by decide +kernel)
theorem wd_90 : (Cond.instanceMethod ⟨"HandleDesk$Console", "<init>", "()V"⟩ : Cond) ∈ wsA := wA1 90 (by decide +kernel) (by decide +kernel)
theorem wd_91 : (Cond.code ⟨"HandleDesk$Console", "<init>", "()V"⟩ prog_2_method_1_code 1 (none : Option Jvm.ClassFile.FieldType) : Cond) ∈ wsA := wA1 91 (by decide +kernel) (by decide +kernel)
theorem wd_92 : (Cond.methodLink "HandleDesk$Console" 3 ⟨"java/lang/Object", "<init>", "()V"⟩ : Cond) ∈ wsA := wA1 92 (by decide +kernel) (by decide +kernel)
theorem wd_93 : (Cond.fieldLink "HandleDesk$Console" 9 "HandleDesk$Console" "ring" "[B" : Cond) ∈ wsA := wA1 93 (by decide +kernel) (by decide +kernel)
theorem wd_94 : (Cond.fieldLink "HandleDesk$Console" 22 "HandleDesk$Console" "start" "I" : Cond) ∈ wsA := wA1 94 (by decide +kernel) (by decide +kernel)
theorem wd_95 : (Cond.fieldLink "HandleDesk$Console" 19 "HandleDesk$Console" "done" "I" : Cond) ∈ wsA := wA1 95 (by decide +kernel) (by decide +kernel)
theorem wd_96 : (Cond.fieldLink "HandleDesk" 169 "HandleDesk$Console" "done" "I" : Cond) ∈ wsA := wA1 96 (by decide +kernel) (by decide +kernel)
theorem wd_97 : (Cond.fieldLink "HandleDesk$Console" 15 "HandleDesk$Console" "size" "I" : Cond) ∈ wsA := wA1 97 (by decide +kernel) (by decide +kernel)
theorem wd_98 : (Cond.fieldLink "HandleDesk" 178 "HandleDesk$Console" "size" "I" : Cond) ∈ wsA := wA1 98 (by decide +kernel) (by decide +kernel)
theorem wd_108 : (Cond.arrayClass .int : Cond) ∈ wsA := wA1 108 (by decide +kernel) (by decide +kernel)
theorem wd_109 : (Cond.classLink "HandleDesk" 43 "HandleDesk$Screen" : Cond) ∈ wsA := wA1 109 (by decide +kernel) (by decide +kernel)
theorem wd_110 : (Cond.instantiable "HandleDesk$Screen" 2 : Cond) ∈ wsA := wA1 110 (by decide +kernel) (by decide +kernel)
theorem wd_112 : (Cond.instanceMethod ⟨"HandleDesk$Screen", "<init>", "()V"⟩ : Cond) ∈ wsA := wA1 112 (by decide +kernel) (by decide +kernel)
theorem wd_113 : (Cond.code ⟨"HandleDesk$Screen", "<init>", "()V"⟩ prog_5_method_1_code 1 (none : Option Jvm.ClassFile.FieldType) : Cond) ∈ wsA := wA1 113 (by decide +kernel) (by decide +kernel)
theorem wd_114 : (Cond.methodLink "HandleDesk$Screen" 3 ⟨"java/lang/Object", "<init>", "()V"⟩ : Cond) ∈ wsA := wA1 114 (by decide +kernel) (by decide +kernel)
theorem wd_115 : (Cond.fieldLink "HandleDesk$Screen" 9 "HandleDesk$Screen" "ring" "[B" : Cond) ∈ wsA := wA1 115 (by decide +kernel) (by decide +kernel)
theorem wd_116 : (Cond.fieldLink "HandleDesk$Screen" 15 "HandleDesk$Screen" "total" "I" : Cond) ∈ wsA := wA1 116 (by decide +kernel) (by decide +kernel)
theorem wd_117 : (Cond.fieldLink "HandleDesk" 182 "HandleDesk$Screen" "total" "I" : Cond) ∈ wsA := wA1 117 (by decide +kernel) (by decide +kernel)
theorem wd_123 : (Cond.fieldLink "HandleDesk" 11 "HandleDesk" "named" "[LHandleDesk$OpenFile;" : Cond) ∈ wsA := wA1 123 (by decide +kernel) (by decide +kernel)
theorem wd_124 : (Cond.fieldLink "HandleDesk" 15 "HandleDesk" "files" "[LHandleDesk$OpenFile;" : Cond) ∈ wsA := wA1 124 (by decide +kernel) (by decide +kernel)
theorem wd_125 : (Cond.fieldLink "HandleDesk" 23 "HandleDesk" "pipes" "[LHandleDesk$Pipe;" : Cond) ∈ wsA := wA1 125 (by decide +kernel) (by decide +kernel)
theorem wd_126 : (Cond.fieldLink "HandleDesk" 28 "HandleDesk" "leftInodes" "[I" : Cond) ∈ wsA := wA1 126 (by decide +kernel) (by decide +kernel)
theorem wd_127 : (Cond.fieldLink "HandleDesk" 32 "HandleDesk" "leftCount" "I" : Cond) ∈ wsA := wA1 127 (by decide +kernel) (by decide +kernel)
theorem wd_128 : (Cond.fieldLink "HandleDesk" 39 "HandleDesk" "console" "LHandleDesk$Console;" : Cond) ∈ wsA := wA1 128 (by decide +kernel) (by decide +kernel)
theorem wd_129 : (Cond.fieldLink "HandleDesk" 46 "HandleDesk" "screen" "LHandleDesk$Screen;" : Cond) ∈ wsA := wA1 129 (by decide +kernel) (by decide +kernel)
theorem wd_145 : (Cond.methodLink "HandleDeskLaw" 13 ⟨"HandleDesk", "open", "(IIII)I"⟩ : Cond) ∈ wsA := wA1 145 (by decide +kernel) (by decide +kernel)
theorem wd_146 : (Cond.instanceMethod ⟨"HandleDesk", "open", "(IIII)I"⟩ : Cond) ∈ wsA := wA1 146 (by decide +kernel) (by decide +kernel)
theorem wd_147 : (Cond.selects "HandleDesk" ⟨"HandleDesk", "open", "(IIII)I"⟩ ⟨"HandleDesk", "open", "(IIII)I"⟩ : Cond) ∈ wsA := wA1 147 (by decide +kernel) (by decide +kernel)
theorem wd_148 : (Cond.code ⟨"HandleDesk", "open", "(IIII)I"⟩ prog_1_method_2_code 7 (some .int) : Cond) ∈ wsA := wA1 148 (by decide +kernel) (by decide +kernel)
theorem wd_149 : (Cond.methodLink "HandleDesk" 50 ⟨"HandleDesk", "isProcess", "(I)Z"⟩ : Cond) ∈ wsA := wA1 149 (by decide +kernel) (by decide +kernel)
theorem wd_150 : (Cond.static ⟨"HandleDesk", "isProcess", "(I)Z"⟩ : Cond) ∈ wsA := wA1 150 (by decide +kernel) (by decide +kernel)
theorem wd_151 : (Cond.code ⟨"HandleDesk", "isProcess", "(I)Z"⟩ prog_1_method_20_code 1 (some .boolean) : Cond) ∈ wsA := wA1 151 (by decide +kernel) (by decide +kernel)
theorem wd_152 : (Cond.methodLink "HandleDesk" 54 ⟨"HandleDesk", "isOpenable", "(I)Z"⟩ : Cond) ∈ wsA := wA1 152 (by decide +kernel) (by decide +kernel)
theorem wd_153 : (Cond.static ⟨"HandleDesk", "isOpenable", "(I)Z"⟩ : Cond) ∈ wsA := wA1 153 (by decide +kernel) (by decide +kernel)
theorem wd_154 : (Cond.code ⟨"HandleDesk", "isOpenable", "(I)Z"⟩ prog_1_method_22_code 1 (some .boolean) : Cond) ∈ wsA := wA1 154 (by decide +kernel) (by decide +kernel)
theorem wd_155 : (Cond.methodLink "HandleDesk" 57 ⟨"HandleDesk", "isHow", "(I)Z"⟩ : Cond) ∈ wsA := wA1 155 (by decide +kernel) (by decide +kernel)
theorem wd_156 : (Cond.static ⟨"HandleDesk", "isHow", "(I)Z"⟩ : Cond) ∈ wsA := wA1 156 (by decide +kernel) (by decide +kernel)
theorem wd_157 : (Cond.code ⟨"HandleDesk", "isHow", "(I)Z"⟩ prog_1_method_23_code 1 (some .boolean) : Cond) ∈ wsA := wA1 157 (by decide +kernel) (by decide +kernel)
theorem wd_158 : (Cond.methodLink "HandleDesk" 60 ⟨"HandleDesk", "freeDescriptor", "(II)I"⟩ : Cond) ∈ wsA := wA1 158 (by decide +kernel) (by decide +kernel)
theorem wd_160 : (Cond.instanceMethod ⟨"HandleDesk", "freeDescriptor", "(II)I"⟩ : Cond) ∈ wsA := wA1 160 (by decide +kernel) (by decide +kernel)
theorem wd_161 : (Cond.code ⟨"HandleDesk", "freeDescriptor", "(II)I"⟩ prog_1_method_26_code 4 (some .int) : Cond) ∈ wsA := wA1 161 (by decide +kernel) (by decide +kernel)
theorem wd_162 : (Cond.methodLink "HandleDesk" 90 ⟨"HandleDesk", "fileOf", "(II)LHandleDesk$OpenFile;"⟩ : Cond) ∈ wsA := wA1 162 (by decide +kernel) (by decide +kernel)
theorem wd_164 : (Cond.instanceMethod ⟨"HandleDesk", "fileOf", "(II)LHandleDesk$OpenFile;"⟩ : Cond) ∈ wsA := wA1 164 (by decide +kernel) (by decide +kernel)
theorem wd_165 : (Cond.code ⟨"HandleDesk", "fileOf", "(II)LHandleDesk$OpenFile;"⟩ prog_1_method_25_code 3 (some (.object "HandleDesk$OpenFile")) : Cond) ∈ wsA := wA1 165 (by decide +kernel) (by decide +kernel)
theorem wd_166 : (Cond.methodLink "HandleDesk" 185 ⟨"HandleDesk", "isDescriptor", "(I)Z"⟩ : Cond) ∈ wsA := wA1 166 (by decide +kernel) (by decide +kernel)
theorem wd_167 : (Cond.static ⟨"HandleDesk", "isDescriptor", "(I)Z"⟩ : Cond) ∈ wsA := wA1 167 (by decide +kernel) (by decide +kernel)
theorem wd_168 : (Cond.code ⟨"HandleDesk", "isDescriptor", "(I)Z"⟩ prog_1_method_21_code 1 (some .boolean) : Cond) ∈ wsA := wA1 168 (by decide +kernel) (by decide +kernel)
theorem wd_169 : (Cond.methodLink "HandleDesk" 64 ⟨"HandleDesk", "freeFile", "(I)LHandleDesk$OpenFile;"⟩ : Cond) ∈ wsA := wA1 169 (by decide +kernel) (by decide +kernel)
theorem wd_171 : (Cond.instanceMethod ⟨"HandleDesk", "freeFile", "(I)LHandleDesk$OpenFile;"⟩ : Cond) ∈ wsA := wA1 171 (by decide +kernel) (by decide +kernel)
theorem wd_172 : (Cond.code ⟨"HandleDesk", "freeFile", "(I)LHandleDesk$OpenFile;"⟩ prog_1_method_28_code 4 (some (.object "HandleDesk$OpenFile")) : Cond) ∈ wsA := wA1 172 (by decide +kernel) (by decide +kernel)
theorem wd_173 : (Cond.methodLink "HandleDesk" 68 ⟨"HandleDesk$OpenFile", "begin", "(II)V"⟩ : Cond) ∈ wsA := wA1 173 (by decide +kernel) (by decide +kernel)
theorem wd_174 : (Cond.instanceMethod ⟨"HandleDesk$OpenFile", "begin", "(II)V"⟩ : Cond) ∈ wsA := wA1 174 (by decide +kernel) (by decide +kernel)
theorem wd_175 : (Cond.selects "HandleDesk$OpenFile" ⟨"HandleDesk$OpenFile", "begin", "(II)V"⟩ ⟨"HandleDesk$OpenFile", "begin", "(II)V"⟩ : Cond) ∈ wsA := wA1 175 (by decide +kernel) (by decide +kernel)
theorem wd_176 : (Cond.code ⟨"HandleDesk$OpenFile", "begin", "(II)V"⟩ prog_3_method_2_code 3 (none : Option Jvm.ClassFile.FieldType) : Cond) ∈ wsA := wA1 176 (by decide +kernel) (by decide +kernel)
theorem wd_177 : (Cond.methodLink "HandleDesk" 75 ⟨"HandleDesk", "setName", "(IILHandleDesk$OpenFile;)V"⟩ : Cond) ∈ wsA := wA1 177 (by decide +kernel) (by decide +kernel)
theorem wd_179 : (Cond.instanceMethod ⟨"HandleDesk", "setName", "(IILHandleDesk$OpenFile;)V"⟩ : Cond) ∈ wsA := wA1 179 (by decide +kernel) (by decide +kernel)
theorem wd_180 : (Cond.code ⟨"HandleDesk", "setName", "(IILHandleDesk$OpenFile;)V"⟩ prog_1_method_31_code 4 (none : Option Jvm.ClassFile.FieldType) : Cond) ∈ wsA := wA1 180 (by decide +kernel) (by decide +kernel)
theorem wd_181 : (Cond.methodLink "HandleDeskLaw" 18 ⟨"HandleDesk", "pipe", "(I)I"⟩ : Cond) ∈ wsA := wA1 181 (by decide +kernel) (by decide +kernel)
theorem wd_182 : (Cond.instanceMethod ⟨"HandleDesk", "pipe", "(I)I"⟩ : Cond) ∈ wsA := wA1 182 (by decide +kernel) (by decide +kernel)
theorem wd_183 : (Cond.selects "HandleDesk" ⟨"HandleDesk", "pipe", "(I)I"⟩ ⟨"HandleDesk", "pipe", "(I)I"⟩ : Cond) ∈ wsA := wA1 183 (by decide +kernel) (by decide +kernel)
theorem wd_184 : (Cond.code ⟨"HandleDesk", "pipe", "(I)I"⟩ prog_1_method_3_code 7 (some .int) : Cond) ∈ wsA := wA1 184 (by decide +kernel) (by decide +kernel)
theorem wd_185 : (Cond.methodLink "HandleDesk" 82 ⟨"HandleDesk", "freePipe", "()LHandleDesk$Pipe;"⟩ : Cond) ∈ wsA := wA1 185 (by decide +kernel) (by decide +kernel)
theorem wd_187 : (Cond.instanceMethod ⟨"HandleDesk", "freePipe", "()LHandleDesk$Pipe;"⟩ : Cond) ∈ wsA := wA1 187 (by decide +kernel) (by decide +kernel)
theorem wd_188 : (Cond.code ⟨"HandleDesk", "freePipe", "()LHandleDesk$Pipe;"⟩ prog_1_method_29_code 3 (some (.object "HandleDesk$Pipe")) : Cond) ∈ wsA := wA1 188 (by decide +kernel) (by decide +kernel)
theorem wd_189 : (Cond.methodLink "HandleDesk" 150 ⟨"HandleDesk$Pipe", "isGone", "()Z"⟩ : Cond) ∈ wsA := wA1 189 (by decide +kernel) (by decide +kernel)
theorem wd_190 : (Cond.instanceMethod ⟨"HandleDesk$Pipe", "isGone", "()Z"⟩ : Cond) ∈ wsA := wA1 190 (by decide +kernel) (by decide +kernel)
theorem wd_191 : (Cond.selects "HandleDesk$Pipe" ⟨"HandleDesk$Pipe", "isGone", "()Z"⟩ ⟨"HandleDesk$Pipe", "isGone", "()Z"⟩ : Cond) ∈ wsA := wA1 191 (by decide +kernel) (by decide +kernel)
theorem wd_192 : (Cond.code ⟨"HandleDesk$Pipe", "isGone", "()Z"⟩ prog_4_method_3_code 1 (some .boolean) : Cond) ∈ wsA := wA1 192 (by decide +kernel) (by decide +kernel)
theorem wd_193 : (Cond.methodLink "HandleDesk" 86 ⟨"HandleDesk", "joinEnds", "(LHandleDesk$Pipe;LHandleDesk$OpenFile;LHandleDesk$OpenFile;)V"⟩ : Cond) ∈ wsA := wA1 193 (by decide +kernel) (by decide +kernel)
theorem wd_194 : (Cond.static ⟨"HandleDesk", "joinEnds", "(LHandleDesk$Pipe;LHandleDesk$OpenFile;LHandleDesk$OpenFile;)V"⟩ : Cond) ∈ wsA := wA1 194 (by decide +kernel) (by decide +kernel)
theorem wd_195 : (Cond.code ⟨"HandleDesk", "joinEnds", "(LHandleDesk$Pipe;LHandleDesk$OpenFile;LHandleDesk$OpenFile;)V"⟩ prog_1_method_30_code 3 (none : Option Jvm.ClassFile.FieldType) : Cond) ∈ wsA := wA1 195 (by decide +kernel) (by decide +kernel)
theorem wd_196 : (Cond.methodLink "HandleDesk" 188 ⟨"HandleDesk$Pipe", "begin", "()V"⟩ : Cond) ∈ wsA := wA1 196 (by decide +kernel) (by decide +kernel)
theorem wd_197 : (Cond.instanceMethod ⟨"HandleDesk$Pipe", "begin", "()V"⟩ : Cond) ∈ wsA := wA1 197 (by decide +kernel) (by decide +kernel)
theorem wd_198 : (Cond.selects "HandleDesk$Pipe" ⟨"HandleDesk$Pipe", "begin", "()V"⟩ ⟨"HandleDesk$Pipe", "begin", "()V"⟩ : Cond) ∈ wsA := wA1 198 (by decide +kernel) (by decide +kernel)
theorem wd_199 : (Cond.code ⟨"HandleDesk$Pipe", "begin", "()V"⟩ prog_4_method_2_code 1 (none : Option Jvm.ClassFile.FieldType) : Cond) ∈ wsA := wA1 199 (by decide +kernel) (by decide +kernel)
theorem wd_200 : (Cond.methodLink "HandleDeskLaw" 23 ⟨"HandleDesk", "again", "(II)I"⟩ : Cond) ∈ wsA := wA1 200 (by decide +kernel) (by decide +kernel)
theorem wd_201 : (Cond.instanceMethod ⟨"HandleDesk", "again", "(II)I"⟩ : Cond) ∈ wsA := wA1 201 (by decide +kernel) (by decide +kernel)
theorem wd_202 : (Cond.selects "HandleDesk" ⟨"HandleDesk", "again", "(II)I"⟩ ⟨"HandleDesk", "again", "(II)I"⟩ : Cond) ∈ wsA := wA1 202 (by decide +kernel) (by decide +kernel)
theorem wd_203 : (Cond.code ⟨"HandleDesk", "again", "(II)I"⟩ prog_1_method_4_code 5 (some .int) : Cond) ∈ wsA := wA1 203 (by decide +kernel) (by decide +kernel)
theorem wd_204 : (Cond.methodLink "HandleDeskLaw" 28 ⟨"HandleDesk", "close", "(II)I"⟩ : Cond) ∈ wsA := wA1 204 (by decide +kernel) (by decide +kernel)
theorem wd_205 : (Cond.instanceMethod ⟨"HandleDesk", "close", "(II)I"⟩ : Cond) ∈ wsA := wA1 205 (by decide +kernel) (by decide +kernel)
theorem wd_206 : (Cond.selects "HandleDesk" ⟨"HandleDesk", "close", "(II)I"⟩ ⟨"HandleDesk", "close", "(II)I"⟩ : Cond) ∈ wsA := wA1 206 (by decide +kernel) (by decide +kernel)
theorem wd_207 : (Cond.code ⟨"HandleDesk", "close", "(II)I"⟩ prog_1_method_5_code 4 (some .int) : Cond) ∈ wsA := wA1 207 (by decide +kernel) (by decide +kernel)
theorem wd_208 : (Cond.methodLink "HandleDesk" 94 ⟨"HandleDesk", "dropName", "(IILHandleDesk$OpenFile;)Z"⟩ : Cond) ∈ wsA := wA1 208 (by decide +kernel) (by decide +kernel)
theorem wd_210 : (Cond.instanceMethod ⟨"HandleDesk", "dropName", "(IILHandleDesk$OpenFile;)Z"⟩ : Cond) ∈ wsA := wA1 210 (by decide +kernel) (by decide +kernel)
theorem wd_211 : (Cond.code ⟨"HandleDesk", "dropName", "(IILHandleDesk$OpenFile;)Z"⟩ prog_1_method_32_code 4 (some .boolean) : Cond) ∈ wsA := wA1 211 (by decide +kernel) (by decide +kernel)
theorem wd_212 : (Cond.methodLink "HandleDesk" 190 ⟨"HandleDesk$Pipe", "endClosed", "(Z)V"⟩ : Cond) ∈ wsA := wA1 212 (by decide +kernel) (by decide +kernel)
theorem wd_213 : (Cond.instanceMethod ⟨"HandleDesk$Pipe", "endClosed", "(Z)V"⟩ : Cond) ∈ wsA := wA1 213 (by decide +kernel) (by decide +kernel)
theorem wd_214 : (Cond.selects "HandleDesk$Pipe" ⟨"HandleDesk$Pipe", "endClosed", "(Z)V"⟩ ⟨"HandleDesk$Pipe", "endClosed", "(Z)V"⟩ : Cond) ∈ wsA := wA1 214 (by decide +kernel) (by decide +kernel)
theorem wd_215 : (Cond.code ⟨"HandleDesk$Pipe", "endClosed", "(Z)V"⟩ prog_4_method_5_code 2 (none : Option Jvm.ClassFile.FieldType) : Cond) ∈ wsA := wA1 215 (by decide +kernel) (by decide +kernel)
theorem wd_216 : (Cond.methodLink "HandleDeskLaw" 32 ⟨"HandleDesk", "closeAll", "(I)I"⟩ : Cond) ∈ wsA := wA1 216 (by decide +kernel) (by decide +kernel)
theorem wd_217 : (Cond.instanceMethod ⟨"HandleDesk", "closeAll", "(I)I"⟩ : Cond) ∈ wsA := wA1 217 (by decide +kernel) (by decide +kernel)
theorem wd_218 : (Cond.selects "HandleDesk" ⟨"HandleDesk", "closeAll", "(I)I"⟩ ⟨"HandleDesk", "closeAll", "(I)I"⟩ : Cond) ∈ wsA := wA1 218 (by decide +kernel) (by decide +kernel)
theorem wd_219 : (Cond.code ⟨"HandleDesk", "closeAll", "(I)I"⟩ prog_1_method_6_code 4 (some .int) : Cond) ∈ wsA := wA1 219 (by decide +kernel) (by decide +kernel)
theorem wd_220 : (Cond.methodLink "HandleDesk" 98 ⟨"HandleDesk", "keepLeft", "(I)V"⟩ : Cond) ∈ wsA := wA1 220 (by decide +kernel) (by decide +kernel)
theorem wd_222 : (Cond.instanceMethod ⟨"HandleDesk", "keepLeft", "(I)V"⟩ : Cond) ∈ wsA := wA1 222 (by decide +kernel) (by decide +kernel)
theorem wd_223 : (Cond.code ⟨"HandleDesk", "keepLeft", "(I)V"⟩ prog_1_method_33_code 2 (none : Option Jvm.ClassFile.FieldType) : Cond) ∈ wsA := wA1 223 (by decide +kernel) (by decide +kernel)
theorem wd_224 : (Cond.methodLink "HandleDeskLaw" 36 ⟨"HandleDesk", "left", "(I)I"⟩ : Cond) ∈ wsA := wA1 224 (by decide +kernel) (by decide +kernel)
theorem wd_225 : (Cond.instanceMethod ⟨"HandleDesk", "left", "(I)I"⟩ : Cond) ∈ wsA := wA1 225 (by decide +kernel) (by decide +kernel)
theorem wd_226 : (Cond.selects "HandleDesk" ⟨"HandleDesk", "left", "(I)I"⟩ ⟨"HandleDesk", "left", "(I)I"⟩ : Cond) ∈ wsA := wA1 226 (by decide +kernel) (by decide +kernel)
theorem wd_227 : (Cond.code ⟨"HandleDesk", "left", "(I)I"⟩ prog_1_method_7_code 2 (some .int) : Cond) ∈ wsA := wA1 227 (by decide +kernel) (by decide +kernel)
theorem wd_228 : (Cond.methodLink "HandleDeskLaw" 40 ⟨"HandleDesk", "copy", "(II)I"⟩ : Cond) ∈ wsA := wA1 228 (by decide +kernel) (by decide +kernel)
theorem wd_229 : (Cond.instanceMethod ⟨"HandleDesk", "copy", "(II)I"⟩ : Cond) ∈ wsA := wA1 229 (by decide +kernel) (by decide +kernel)
theorem wd_230 : (Cond.selects "HandleDesk" ⟨"HandleDesk", "copy", "(II)I"⟩ ⟨"HandleDesk", "copy", "(II)I"⟩ : Cond) ∈ wsA := wA1 230 (by decide +kernel) (by decide +kernel)
theorem wd_231 : (Cond.code ⟨"HandleDesk", "copy", "(II)I"⟩ prog_1_method_8_code 5 (some .int) : Cond) ∈ wsA := wA1 231 (by decide +kernel) (by decide +kernel)
theorem wd_232 : (Cond.methodLink "HandleDesk" 101 ⟨"HandleDesk", "usedDescriptors", "(I)I"⟩ : Cond) ∈ wsA := wA1 232 (by decide +kernel) (by decide +kernel)
theorem wd_234 : (Cond.instanceMethod ⟨"HandleDesk", "usedDescriptors", "(I)I"⟩ : Cond) ∈ wsA := wA1 234 (by decide +kernel) (by decide +kernel)
theorem wd_235 : (Cond.code ⟨"HandleDesk", "usedDescriptors", "(I)I"⟩ prog_1_method_27_code 4 (some .int) : Cond) ∈ wsA := wA1 235 (by decide +kernel) (by decide +kernel)
theorem wd_236 : (Cond.methodLink "HandleDeskLaw" 44 ⟨"HandleDesk", "about", "(III)I"⟩ : Cond) ∈ wsA := wA1 236 (by decide +kernel) (by decide +kernel)
theorem wd_237 : (Cond.instanceMethod ⟨"HandleDesk", "about", "(III)I"⟩ : Cond) ∈ wsA := wA1 237 (by decide +kernel) (by decide +kernel)
theorem wd_238 : (Cond.selects "HandleDesk" ⟨"HandleDesk", "about", "(III)I"⟩ ⟨"HandleDesk", "about", "(III)I"⟩ : Cond) ∈ wsA := wA1 238 (by decide +kernel) (by decide +kernel)
theorem wd_239 : (Cond.code ⟨"HandleDesk", "about", "(III)I"⟩ prog_1_method_9_code 5 (some .int) : Cond) ∈ wsA := wA1 239 (by decide +kernel) (by decide +kernel)
theorem wd_240 : (Cond.methodLink "HandleDesk" 117 ⟨"HandleDesk", "oneIf", "(Z)I"⟩ : Cond) ∈ wsA := wA2 0 (by decide +kernel) (by decide +kernel)
theorem wd_241 : (Cond.static ⟨"HandleDesk", "oneIf", "(Z)I"⟩ : Cond) ∈ wsA := wA2 1 (by decide +kernel) (by decide +kernel)
theorem wd_242 : (Cond.code ⟨"HandleDesk", "oneIf", "(Z)I"⟩ prog_1_method_24_code 1 (some .int) : Cond) ∈ wsA := wA2 2 (by decide +kernel) (by decide +kernel)
theorem wd_243 : (Cond.methodLink "HandleDeskLaw" 49 ⟨"HandleDesk", "move", "(III)Z"⟩ : Cond) ∈ wsA := wA2 3 (by decide +kernel) (by decide +kernel)
theorem wd_244 : (Cond.instanceMethod ⟨"HandleDesk", "move", "(III)Z"⟩ : Cond) ∈ wsA := wA2 4 (by decide +kernel) (by decide +kernel)
theorem wd_245 : (Cond.selects "HandleDesk" ⟨"HandleDesk", "move", "(III)Z"⟩ ⟨"HandleDesk", "move", "(III)Z"⟩ : Cond) ∈ wsA := wA2 5 (by decide +kernel) (by decide +kernel)
theorem wd_246 : (Cond.code ⟨"HandleDesk", "move", "(III)Z"⟩ prog_1_method_10_code 5 (some .boolean) : Cond) ∈ wsA := wA2 6 (by decide +kernel) (by decide +kernel)
theorem wd_247 : (Cond.methodLink "HandleDeskLaw" 54 ⟨"HandleDesk", "put", "(III)I"⟩ : Cond) ∈ wsA := wA2 7 (by decide +kernel) (by decide +kernel)
theorem wd_248 : (Cond.instanceMethod ⟨"HandleDesk", "put", "(III)I"⟩ : Cond) ∈ wsA := wA2 8 (by decide +kernel) (by decide +kernel)
theorem wd_249 : (Cond.selects "HandleDesk" ⟨"HandleDesk", "put", "(III)I"⟩ ⟨"HandleDesk", "put", "(III)I"⟩ : Cond) ∈ wsA := wA2 9 (by decide +kernel) (by decide +kernel)
theorem wd_250 : (Cond.code ⟨"HandleDesk", "put", "(III)I"⟩ prog_1_method_11_code 6 (some .int) : Cond) ∈ wsA := wA2 10 (by decide +kernel) (by decide +kernel)
theorem wd_251 : (Cond.methodLink "HandleDesk" 133 ⟨"HandleDesk$Pipe", "isFull", "()Z"⟩ : Cond) ∈ wsA := wA2 11 (by decide +kernel) (by decide +kernel)
theorem wd_252 : (Cond.instanceMethod ⟨"HandleDesk$Pipe", "isFull", "()Z"⟩ : Cond) ∈ wsA := wA2 12 (by decide +kernel) (by decide +kernel)
theorem wd_253 : (Cond.selects "HandleDesk$Pipe" ⟨"HandleDesk$Pipe", "isFull", "()Z"⟩ ⟨"HandleDesk$Pipe", "isFull", "()Z"⟩ : Cond) ∈ wsA := wA2 13 (by decide +kernel) (by decide +kernel)
theorem wd_254 : (Cond.code ⟨"HandleDesk$Pipe", "isFull", "()Z"⟩ prog_4_method_4_code 1 (some .boolean) : Cond) ∈ wsA := wA2 14 (by decide +kernel) (by decide +kernel)
theorem wd_255 : (Cond.methodLink "HandleDesk" 137 ⟨"HandleDesk$Pipe", "addLast", "(I)V"⟩ : Cond) ∈ wsA := wA2 15 (by decide +kernel) (by decide +kernel)
theorem wd_256 : (Cond.instanceMethod ⟨"HandleDesk$Pipe", "addLast", "(I)V"⟩ : Cond) ∈ wsA := wA2 16 (by decide +kernel) (by decide +kernel)
theorem wd_257 : (Cond.selects "HandleDesk$Pipe" ⟨"HandleDesk$Pipe", "addLast", "(I)V"⟩ ⟨"HandleDesk$Pipe", "addLast", "(I)V"⟩ : Cond) ∈ wsA := wA2 17 (by decide +kernel) (by decide +kernel)
theorem wd_258 : (Cond.code ⟨"HandleDesk$Pipe", "addLast", "(I)V"⟩ prog_4_method_6_code 2 (none : Option Jvm.ClassFile.FieldType) : Cond) ∈ wsA := wA2 18 (by decide +kernel) (by decide +kernel)
theorem wd_259 : (Cond.methodLink "HandleDeskLaw" 58 ⟨"HandleDesk", "take", "(II)I"⟩ : Cond) ∈ wsA := wA2 19 (by decide +kernel) (by decide +kernel)
theorem wd_260 : (Cond.instanceMethod ⟨"HandleDesk", "take", "(II)I"⟩ : Cond) ∈ wsA := wA2 20 (by decide +kernel) (by decide +kernel)
theorem wd_261 : (Cond.selects "HandleDesk" ⟨"HandleDesk", "take", "(II)I"⟩ ⟨"HandleDesk", "take", "(II)I"⟩ : Cond) ∈ wsA := wA2 21 (by decide +kernel) (by decide +kernel)
theorem wd_262 : (Cond.code ⟨"HandleDesk", "take", "(II)I"⟩ prog_1_method_12_code 5 (some .int) : Cond) ∈ wsA := wA2 22 (by decide +kernel) (by decide +kernel)
theorem wd_263 : (Cond.methodLink "HandleDesk" 143 ⟨"HandleDesk$Pipe", "removeFirst", "()I"⟩ : Cond) ∈ wsA := wA2 23 (by decide +kernel) (by decide +kernel)
theorem wd_264 : (Cond.instanceMethod ⟨"HandleDesk$Pipe", "removeFirst", "()I"⟩ : Cond) ∈ wsA := wA2 24 (by decide +kernel) (by decide +kernel)
theorem wd_265 : (Cond.selects "HandleDesk$Pipe" ⟨"HandleDesk$Pipe", "removeFirst", "()I"⟩ ⟨"HandleDesk$Pipe", "removeFirst", "()I"⟩ : Cond) ∈ wsA := wA2 25 (by decide +kernel) (by decide +kernel)
theorem wd_266 : (Cond.code ⟨"HandleDesk$Pipe", "removeFirst", "()I"⟩ prog_4_method_7_code 2 (some .int) : Cond) ∈ wsA := wA2 26 (by decide +kernel) (by decide +kernel)
theorem wd_267 : (Cond.methodLink "HandleDeskLaw" 62 ⟨"HandleDesk", "ends", "(II)I"⟩ : Cond) ∈ wsA := wA2 27 (by decide +kernel) (by decide +kernel)
theorem wd_268 : (Cond.instanceMethod ⟨"HandleDesk", "ends", "(II)I"⟩ : Cond) ∈ wsA := wA2 28 (by decide +kernel) (by decide +kernel)
theorem wd_269 : (Cond.selects "HandleDesk" ⟨"HandleDesk", "ends", "(II)I"⟩ ⟨"HandleDesk", "ends", "(II)I"⟩ : Cond) ∈ wsA := wA2 29 (by decide +kernel) (by decide +kernel)
theorem wd_270 : (Cond.code ⟨"HandleDesk", "ends", "(II)I"⟩ prog_1_method_13_code 4 (some .int) : Cond) ∈ wsA := wA2 30 (by decide +kernel) (by decide +kernel)
theorem wd_271 : (Cond.methodLink "HandleDeskLaw" 66 ⟨"HandleDesk", "type", "(I)Z"⟩ : Cond) ∈ wsA := wA2 31 (by decide +kernel) (by decide +kernel)
theorem wd_272 : (Cond.instanceMethod ⟨"HandleDesk", "type", "(I)Z"⟩ : Cond) ∈ wsA := wA2 32 (by decide +kernel) (by decide +kernel)
theorem wd_273 : (Cond.selects "HandleDesk" ⟨"HandleDesk", "type", "(I)Z"⟩ ⟨"HandleDesk", "type", "(I)Z"⟩ : Cond) ∈ wsA := wA2 33 (by decide +kernel) (by decide +kernel)
theorem wd_274 : (Cond.code ⟨"HandleDesk", "type", "(I)Z"⟩ prog_1_method_14_code 3 (some .boolean) : Cond) ∈ wsA := wA2 34 (by decide +kernel) (by decide +kernel)
theorem wd_275 : (Cond.methodLink "HandleDesk" 153 ⟨"HandleDesk$Console", "lineLength", "()I"⟩ : Cond) ∈ wsA := wA2 35 (by decide +kernel) (by decide +kernel)
theorem wd_276 : (Cond.instanceMethod ⟨"HandleDesk$Console", "lineLength", "()I"⟩ : Cond) ∈ wsA := wA2 36 (by decide +kernel) (by decide +kernel)
theorem wd_277 : (Cond.selects "HandleDesk$Console" ⟨"HandleDesk$Console", "lineLength", "()I"⟩ ⟨"HandleDesk$Console", "lineLength", "()I"⟩ : Cond) ∈ wsA := wA2 37 (by decide +kernel) (by decide +kernel)
theorem wd_278 : (Cond.code ⟨"HandleDesk$Console", "lineLength", "()I"⟩ prog_2_method_3_code 1 (some .int) : Cond) ∈ wsA := wA2 38 (by decide +kernel) (by decide +kernel)
theorem wd_279 : (Cond.methodLink "HandleDesk" 156 ⟨"java/lang/Math", "min", "(II)I"⟩ : Cond) ∈ wsA := wA2 39 (by decide +kernel) (by decide +kernel)
theorem wd_280 : (Cond.static ⟨"java/lang/Math", "min", "(II)I"⟩ : Cond) ∈ wsA := wA2 40 (by decide +kernel) (by decide +kernel)
theorem wd_281 : (Cond.code ⟨"java/lang/Math", "min", "(II)I"⟩ prog_8_method_69_code 2 (some .int) : Cond) ∈ wsA := wA2 41 (by decide +kernel) (by decide +kernel)
theorem wd_282 : (Cond.methodLink "HandleDesk" 161 ⟨"HandleDesk", "takeBack", "(I)V"⟩ : Cond) ∈ wsA := wA2 42 (by decide +kernel) (by decide +kernel)
theorem wd_284 : (Cond.instanceMethod ⟨"HandleDesk", "takeBack", "(I)V"⟩ : Cond) ∈ wsA := wA2 44 (by decide +kernel) (by decide +kernel)
theorem wd_285 : (Cond.code ⟨"HandleDesk", "takeBack", "(I)V"⟩ prog_1_method_34_code 3 (none : Option Jvm.ClassFile.FieldType) : Cond) ∈ wsA := wA2 45 (by decide +kernel) (by decide +kernel)
theorem wd_286 : (Cond.methodLink "HandleDesk" 194 ⟨"HandleDesk$Console", "dropLastOfLine", "()V"⟩ : Cond) ∈ wsA := wA2 46 (by decide +kernel) (by decide +kernel)
theorem wd_287 : (Cond.instanceMethod ⟨"HandleDesk$Console", "dropLastOfLine", "()V"⟩ : Cond) ∈ wsA := wA2 47 (by decide +kernel) (by decide +kernel)
theorem wd_288 : (Cond.selects "HandleDesk$Console" ⟨"HandleDesk$Console", "dropLastOfLine", "()V"⟩ ⟨"HandleDesk$Console", "dropLastOfLine", "()V"⟩ : Cond) ∈ wsA := wA2 48 (by decide +kernel) (by decide +kernel)
theorem wd_289 : (Cond.code ⟨"HandleDesk$Console", "dropLastOfLine", "()V"⟩ prog_2_method_5_code 1 (none : Option Jvm.ClassFile.FieldType) : Cond) ∈ wsA := wA2 49 (by decide +kernel) (by decide +kernel)
theorem wd_290 : (Cond.methodLink "HandleDesk" 168 ⟨"HandleDesk$Screen", "addLast", "(I)V"⟩ : Cond) ∈ wsA := wA2 50 (by decide +kernel) (by decide +kernel)
theorem wd_291 : (Cond.instanceMethod ⟨"HandleDesk$Screen", "addLast", "(I)V"⟩ : Cond) ∈ wsA := wA2 51 (by decide +kernel) (by decide +kernel)
theorem wd_292 : (Cond.selects "HandleDesk$Screen" ⟨"HandleDesk$Screen", "addLast", "(I)V"⟩ ⟨"HandleDesk$Screen", "addLast", "(I)V"⟩ : Cond) ∈ wsA := wA2 52 (by decide +kernel) (by decide +kernel)
theorem wd_293 : (Cond.code ⟨"HandleDesk$Screen", "addLast", "(I)V"⟩ prog_5_method_2_code 2 (none : Option Jvm.ClassFile.FieldType) : Cond) ∈ wsA := wA2 53 (by decide +kernel) (by decide +kernel)
theorem wd_294 : (Cond.methodLink "HandleDesk" 164 ⟨"HandleDesk$Console", "isFull", "()Z"⟩ : Cond) ∈ wsA := wA2 54 (by decide +kernel) (by decide +kernel)
theorem wd_295 : (Cond.instanceMethod ⟨"HandleDesk$Console", "isFull", "()Z"⟩ : Cond) ∈ wsA := wA2 55 (by decide +kernel) (by decide +kernel)
theorem wd_296 : (Cond.selects "HandleDesk$Console" ⟨"HandleDesk$Console", "isFull", "()Z"⟩ ⟨"HandleDesk$Console", "isFull", "()Z"⟩ : Cond) ∈ wsA := wA2 56 (by decide +kernel) (by decide +kernel)
theorem wd_297 : (Cond.code ⟨"HandleDesk$Console", "isFull", "()Z"⟩ prog_2_method_2_code 1 (some .boolean) : Cond) ∈ wsA := wA2 57 (by decide +kernel) (by decide +kernel)
theorem wd_298 : (Cond.methodLink "HandleDesk" 165 ⟨"HandleDesk$Console", "addToLine", "(I)V"⟩ : Cond) ∈ wsA := wA2 58 (by decide +kernel) (by decide +kernel)
theorem wd_299 : (Cond.instanceMethod ⟨"HandleDesk$Console", "addToLine", "(I)V"⟩ : Cond) ∈ wsA := wA2 59 (by decide +kernel) (by decide +kernel)
theorem wd_300 : (Cond.selects "HandleDesk$Console" ⟨"HandleDesk$Console", "addToLine", "(I)V"⟩ ⟨"HandleDesk$Console", "addToLine", "(I)V"⟩ : Cond) ∈ wsA := wA2 60 (by decide +kernel) (by decide +kernel)
theorem wd_301 : (Cond.code ⟨"HandleDesk$Console", "addToLine", "(I)V"⟩ prog_2_method_4_code 2 (none : Option Jvm.ClassFile.FieldType) : Cond) ∈ wsA := wA2 61 (by decide +kernel) (by decide +kernel)
theorem wd_302 : (Cond.methodLink "HandleDesk$Console" 25 ⟨"HandleDesk$Console", "isFull", "()Z"⟩ : Cond) ∈ wsA := wA2 62 (by decide +kernel) (by decide +kernel)
theorem wd_303 : (Cond.methodLink "HandleDeskLaw" 71 ⟨"HandleDesk", "read", "(Z)I"⟩ : Cond) ∈ wsA := wA2 63 (by decide +kernel) (by decide +kernel)
theorem wd_304 : (Cond.instanceMethod ⟨"HandleDesk", "read", "(Z)I"⟩ : Cond) ∈ wsA := wA2 64 (by decide +kernel) (by decide +kernel)
theorem wd_305 : (Cond.selects "HandleDesk" ⟨"HandleDesk", "read", "(Z)I"⟩ ⟨"HandleDesk", "read", "(Z)I"⟩ : Cond) ∈ wsA := wA2 65 (by decide +kernel) (by decide +kernel)
theorem wd_306 : (Cond.code ⟨"HandleDesk", "read", "(Z)I"⟩ prog_1_method_15_code 3 (some .int) : Cond) ∈ wsA := wA2 66 (by decide +kernel) (by decide +kernel)
theorem wd_307 : (Cond.methodLink "HandleDesk" 172 ⟨"HandleDesk$Console", "firstDone", "()I"⟩ : Cond) ∈ wsA := wA2 67 (by decide +kernel) (by decide +kernel)
theorem wd_308 : (Cond.instanceMethod ⟨"HandleDesk$Console", "firstDone", "()I"⟩ : Cond) ∈ wsA := wA2 68 (by decide +kernel) (by decide +kernel)
theorem wd_309 : (Cond.selects "HandleDesk$Console" ⟨"HandleDesk$Console", "firstDone", "()I"⟩ ⟨"HandleDesk$Console", "firstDone", "()I"⟩ : Cond) ∈ wsA := wA2 69 (by decide +kernel) (by decide +kernel)
theorem wd_310 : (Cond.code ⟨"HandleDesk$Console", "firstDone", "()I"⟩ prog_2_method_6_code 1 (some .int) : Cond) ∈ wsA := wA2 70 (by decide +kernel) (by decide +kernel)
theorem wd_311 : (Cond.methodLink "HandleDesk" 175 ⟨"HandleDesk$Console", "dropFirstDone", "()V"⟩ : Cond) ∈ wsA := wA2 71 (by decide +kernel) (by decide +kernel)
theorem wd_312 : (Cond.instanceMethod ⟨"HandleDesk$Console", "dropFirstDone", "()V"⟩ : Cond) ∈ wsA := wA2 72 (by decide +kernel) (by decide +kernel)
theorem wd_313 : (Cond.selects "HandleDesk$Console" ⟨"HandleDesk$Console", "dropFirstDone", "()V"⟩ ⟨"HandleDesk$Console", "dropFirstDone", "()V"⟩ : Cond) ∈ wsA := wA2 73 (by decide +kernel) (by decide +kernel)
theorem wd_314 : (Cond.code ⟨"HandleDesk$Console", "dropFirstDone", "()V"⟩ prog_2_method_7_code 1 (none : Option Jvm.ClassFile.FieldType) : Cond) ∈ wsA := wA2 74 (by decide +kernel) (by decide +kernel)
theorem wd_315 : (Cond.methodLink "HandleDeskLaw" 76 ⟨"HandleDesk", "waiting", "(I)I"⟩ : Cond) ∈ wsA := wA2 75 (by decide +kernel) (by decide +kernel)
theorem wd_316 : (Cond.instanceMethod ⟨"HandleDesk", "waiting", "(I)I"⟩ : Cond) ∈ wsA := wA2 76 (by decide +kernel) (by decide +kernel)
theorem wd_317 : (Cond.selects "HandleDesk" ⟨"HandleDesk", "waiting", "(I)I"⟩ ⟨"HandleDesk", "waiting", "(I)I"⟩ : Cond) ∈ wsA := wA2 77 (by decide +kernel) (by decide +kernel)
theorem wd_318 : (Cond.code ⟨"HandleDesk", "waiting", "(I)I"⟩ prog_1_method_16_code 2 (some .int) : Cond) ∈ wsA := wA2 78 (by decide +kernel) (by decide +kernel)
theorem wd_319 : (Cond.methodLink "HandleDeskLaw" 80 ⟨"HandleDesk", "show", "(I)V"⟩ : Cond) ∈ wsA := wA2 79 (by decide +kernel) (by decide +kernel)
theorem wd_320 : (Cond.instanceMethod ⟨"HandleDesk", "show", "(I)V"⟩ : Cond) ∈ wsA := wA2 80 (by decide +kernel) (by decide +kernel)
theorem wd_321 : (Cond.selects "HandleDesk" ⟨"HandleDesk", "show", "(I)V"⟩ ⟨"HandleDesk", "show", "(I)V"⟩ : Cond) ∈ wsA := wA2 81 (by decide +kernel) (by decide +kernel)
theorem wd_322 : (Cond.code ⟨"HandleDesk", "show", "(I)V"⟩ prog_1_method_17_code 2 (none : Option Jvm.ClassFile.FieldType) : Cond) ∈ wsA := wA2 82 (by decide +kernel) (by decide +kernel)
theorem wd_323 : (Cond.methodLink "HandleDeskLaw" 85 ⟨"HandleDesk", "shown", "(I)I"⟩ : Cond) ∈ wsA := wA2 83 (by decide +kernel) (by decide +kernel)
theorem wd_324 : (Cond.instanceMethod ⟨"HandleDesk", "shown", "(I)I"⟩ : Cond) ∈ wsA := wA2 84 (by decide +kernel) (by decide +kernel)
theorem wd_325 : (Cond.selects "HandleDesk" ⟨"HandleDesk", "shown", "(I)I"⟩ ⟨"HandleDesk", "shown", "(I)I"⟩ : Cond) ∈ wsA := wA2 85 (by decide +kernel) (by decide +kernel)
theorem wd_326 : (Cond.code ⟨"HandleDesk", "shown", "(I)I"⟩ prog_1_method_18_code 2 (some .int) : Cond) ∈ wsA := wA2 86 (by decide +kernel) (by decide +kernel)
theorem wd_327 : (Cond.methodLink "HandleDesk" 179 ⟨"HandleDesk$Screen", "byteAt", "(I)I"⟩ : Cond) ∈ wsA := wA2 87 (by decide +kernel) (by decide +kernel)
theorem wd_328 : (Cond.instanceMethod ⟨"HandleDesk$Screen", "byteAt", "(I)I"⟩ : Cond) ∈ wsA := wA2 88 (by decide +kernel) (by decide +kernel)
theorem wd_329 : (Cond.selects "HandleDesk$Screen" ⟨"HandleDesk$Screen", "byteAt", "(I)I"⟩ ⟨"HandleDesk$Screen", "byteAt", "(I)I"⟩ : Cond) ∈ wsA := wA2 89 (by decide +kernel) (by decide +kernel)
theorem wd_330 : (Cond.code ⟨"HandleDesk$Screen", "byteAt", "(I)I"⟩ prog_5_method_3_code 2 (some .int) : Cond) ∈ wsA := wA2 90 (by decide +kernel) (by decide +kernel)
theorem wd_331 : (Cond.methodLink "HandleDeskLaw" 89 ⟨"HandleDesk", "count", "()I"⟩ : Cond) ∈ wsA := wA2 91 (by decide +kernel) (by decide +kernel)
theorem wd_332 : (Cond.instanceMethod ⟨"HandleDesk", "count", "()I"⟩ : Cond) ∈ wsA := wA2 92 (by decide +kernel) (by decide +kernel)
theorem wd_333 : (Cond.selects "HandleDesk" ⟨"HandleDesk", "count", "()I"⟩ ⟨"HandleDesk", "count", "()I"⟩ : Cond) ∈ wsA := wA2 93 (by decide +kernel) (by decide +kernel)
theorem wd_334 : (Cond.code ⟨"HandleDesk", "count", "()I"⟩ prog_1_method_19_code 1 (some .int) : Cond) ∈ wsA := wA2 94 (by decide +kernel) (by decide +kernel)
theorem wd_335 : (Cond.classLink "HandleDeskLaw" 10 "HandleDeskModel" : Cond) ∈ wsA := wA2 95 (by decide +kernel) (by decide +kernel)
theorem wd_336 : (Cond.instantiable "HandleDeskModel" 15 : Cond) ∈ wsA := wA2 96 (by decide +kernel) (by decide +kernel)
theorem wd_337 : (Cond.methodLink "HandleDeskLaw" 12 ⟨"HandleDeskModel", "<init>", "()V"⟩ : Cond) ∈ wsA := wA2 97 (by decide +kernel) (by decide +kernel)
theorem wd_338 : (Cond.instanceMethod ⟨"HandleDeskModel", "<init>", "()V"⟩ : Cond) ∈ wsA := wA2 98 (by decide +kernel) (by decide +kernel)
theorem wd_339 : (Cond.code ⟨"HandleDeskModel", "<init>", "()V"⟩ prog_7_method_1_code 1 (none : Option Jvm.ClassFile.FieldType) : Cond) ∈ wsA := wA2 99 (by decide +kernel) (by decide +kernel)
theorem wd_340 : (Cond.methodLink "HandleDeskModel" 1 ⟨"java/lang/Object", "<init>", "()V"⟩ : Cond) ∈ wsA := wA2 100 (by decide +kernel) (by decide +kernel)
theorem wd_341 : (Cond.fieldLink "HandleDeskModel" 41 "HandleDeskModel" "thrown" "I" : Cond) ∈ wsA := wA2 101 (by decide +kernel) (by decide +kernel)
theorem wd_342 : (Cond.fieldLink "HandleDeskModel" 7 "HandleDeskModel" "names" "[I" : Cond) ∈ wsA := wA2 102 (by decide +kernel) (by decide +kernel)
theorem wd_343 : (Cond.fieldLink "HandleDeskModel" 13 "HandleDeskModel" "kind" "[I" : Cond) ∈ wsA := wA2 103 (by decide +kernel) (by decide +kernel)
theorem wd_344 : (Cond.fieldLink "HandleDeskModel" 16 "HandleDeskModel" "what" "[I" : Cond) ∈ wsA := wA2 104 (by decide +kernel) (by decide +kernel)
theorem wd_345 : (Cond.fieldLink "HandleDeskModel" 19 "HandleDeskModel" "how" "[I" : Cond) ∈ wsA := wA2 105 (by decide +kernel) (by decide +kernel)
theorem wd_346 : (Cond.fieldLink "HandleDeskModel" 22 "HandleDeskModel" "place" "[I" : Cond) ∈ wsA := wA2 106 (by decide +kernel) (by decide +kernel)
theorem wd_347 : (Cond.fieldLink "HandleDeskModel" 25 "HandleDeskModel" "many" "[I" : Cond) ∈ wsA := wA2 107 (by decide +kernel) (by decide +kernel)
theorem wd_348 : (Cond.fieldLink "HandleDeskModel" 28 "HandleDeskModel" "queue" "[B" : Cond) ∈ wsA := wA2 108 (by decide +kernel) (by decide +kernel)
theorem wd_349 : (Cond.fieldLink "HandleDeskModel" 84 "HandleDeskModel" "lefts" "I" : Cond) ∈ wsA := wA2 109 (by decide +kernel) (by decide +kernel)
theorem wd_350 : (Cond.fieldLink "HandleDeskModel" 32 "HandleDeskModel" "left" "[I" : Cond) ∈ wsA := wA2 110 (by decide +kernel) (by decide +kernel)
theorem wd_351 : (Cond.fieldLink "HandleDeskModel" 90 "HandleDeskModel" "waits" "I" : Cond) ∈ wsA := wA2 111 (by decide +kernel) (by decide +kernel)
theorem wd_352 : (Cond.fieldLink "HandleDeskModel" 97 "HandleDeskModel" "done" "I" : Cond) ∈ wsA := wA2 112 (by decide +kernel) (by decide +kernel)
theorem wd_353 : (Cond.fieldLink "HandleDeskModel" 35 "HandleDeskModel" "line" "[I" : Cond) ∈ wsA := wA2 113 (by decide +kernel) (by decide +kernel)
theorem wd_354 : (Cond.fieldLink "HandleDeskModel" 87 "HandleDeskModel" "shown" "I" : Cond) ∈ wsA := wA2 114 (by decide +kernel) (by decide +kernel)
theorem wd_355 : (Cond.fieldLink "HandleDeskModel" 38 "HandleDeskModel" "screen" "[B" : Cond) ∈ wsA := wA2 115 (by decide +kernel) (by decide +kernel)
theorem wd_387 : (Cond.methodLink "HandleDeskLaw" 17 ⟨"HandleDeskModel", "open", "(IIII)I"⟩ : Cond) ∈ wsA := wA2 147 (by decide +kernel) (by decide +kernel)
theorem wd_388 : (Cond.instanceMethod ⟨"HandleDeskModel", "open", "(IIII)I"⟩ : Cond) ∈ wsA := wA2 148 (by decide +kernel) (by decide +kernel)
theorem wd_389 : (Cond.selects "HandleDeskModel" ⟨"HandleDeskModel", "open", "(IIII)I"⟩ ⟨"HandleDeskModel", "open", "(IIII)I"⟩ : Cond) ∈ wsA := wA2 149 (by decide +kernel) (by decide +kernel)
theorem wd_390 : (Cond.code ⟨"HandleDeskModel", "open", "(IIII)I"⟩ prog_7_method_13_code 5 (some .int) : Cond) ∈ wsA := wA2 150 (by decide +kernel) (by decide +kernel)
theorem wd_391 : (Cond.methodLink "HandleDeskModel" 45 ⟨"HandleDeskModel", "isPlace", "(I)Z"⟩ : Cond) ∈ wsA := wA2 151 (by decide +kernel) (by decide +kernel)
theorem wd_392 : (Cond.static ⟨"HandleDeskModel", "isPlace", "(I)Z"⟩ : Cond) ∈ wsA := wA2 152 (by decide +kernel) (by decide +kernel)
theorem wd_393 : (Cond.code ⟨"HandleDeskModel", "isPlace", "(I)Z"⟩ prog_7_method_3_code 1 (some .boolean) : Cond) ∈ wsA := wA2 153 (by decide +kernel) (by decide +kernel)
theorem wd_394 : (Cond.methodLink "HandleDeskModel" 61 ⟨"HandleDeskModel", "vacant", "(I)I"⟩ : Cond) ∈ wsA := wA2 154 (by decide +kernel) (by decide +kernel)
theorem wd_396 : (Cond.instanceMethod ⟨"HandleDeskModel", "vacant", "(I)I"⟩ : Cond) ∈ wsA := wA2 156 (by decide +kernel) (by decide +kernel)
theorem wd_397 : (Cond.code ⟨"HandleDeskModel", "vacant", "(I)I"⟩ prog_7_method_8_code 3 (some .int) : Cond) ∈ wsA := wA2 157 (by decide +kernel) (by decide +kernel)
theorem wd_398 : (Cond.methodLink "HandleDeskModel" 64 ⟨"HandleDeskModel", "files", "()I"⟩ : Cond) ∈ wsA := wA2 158 (by decide +kernel) (by decide +kernel)
theorem wd_400 : (Cond.instanceMethod ⟨"HandleDeskModel", "files", "()I"⟩ : Cond) ∈ wsA := wA2 160 (by decide +kernel) (by decide +kernel)
theorem wd_401 : (Cond.code ⟨"HandleDeskModel", "files", "()I"⟩ prog_7_method_6_code 3 (some .int) : Cond) ∈ wsA := wA2 161 (by decide +kernel) (by decide +kernel)
theorem wd_402 : (Cond.methodLink "HandleDeskModel" 49 ⟨"HandleDeskModel", "named", "(I)I"⟩ : Cond) ∈ wsA := wA2 162 (by decide +kernel) (by decide +kernel)
theorem wd_404 : (Cond.instanceMethod ⟨"HandleDeskModel", "named", "(I)I"⟩ : Cond) ∈ wsA := wA2 164 (by decide +kernel) (by decide +kernel)
theorem wd_405 : (Cond.code ⟨"HandleDeskModel", "named", "(I)I"⟩ prog_7_method_5_code 4 (some .int) : Cond) ∈ wsA := wA2 165 (by decide +kernel) (by decide +kernel)
theorem wd_406 : (Cond.methodLink "HandleDeskModel" 67 ⟨"HandleDeskModel", "makes", "(IIIII)I"⟩ : Cond) ∈ wsA := wA2 166 (by decide +kernel) (by decide +kernel)
theorem wd_408 : (Cond.instanceMethod ⟨"HandleDeskModel", "makes", "(IIIII)I"⟩ : Cond) ∈ wsA := wA2 168 (by decide +kernel) (by decide +kernel)
theorem wd_409 : (Cond.code ⟨"HandleDeskModel", "makes", "(IIIII)I"⟩ prog_7_method_12_code 7 (some .int) : Cond) ∈ wsA := wA2 169 (by decide +kernel) (by decide +kernel)
theorem wd_410 : (Cond.methodLink "HandleDeskModel" 57 ⟨"HandleDeskModel", "freeFile", "()I"⟩ : Cond) ∈ wsA := wA2 170 (by decide +kernel) (by decide +kernel)
theorem wd_412 : (Cond.instanceMethod ⟨"HandleDeskModel", "freeFile", "()I"⟩ : Cond) ∈ wsA := wA2 172 (by decide +kernel) (by decide +kernel)
theorem wd_413 : (Cond.code ⟨"HandleDeskModel", "freeFile", "()I"⟩ prog_7_method_7_code 2 (some .int) : Cond) ∈ wsA := wA2 173 (by decide +kernel) (by decide +kernel)
theorem wd_414 : (Cond.methodLink "HandleDeskLaw" 22 ⟨"HandleDeskModel", "pipe", "(I)I"⟩ : Cond) ∈ wsA := wA2 174 (by decide +kernel) (by decide +kernel)
theorem wd_415 : (Cond.instanceMethod ⟨"HandleDeskModel", "pipe", "(I)I"⟩ : Cond) ∈ wsA := wA2 175 (by decide +kernel) (by decide +kernel)
theorem wd_416 : (Cond.selects "HandleDeskModel" ⟨"HandleDeskModel", "pipe", "(I)I"⟩ ⟨"HandleDeskModel", "pipe", "(I)I"⟩ : Cond) ∈ wsA := wA2 176 (by decide +kernel) (by decide +kernel)
theorem wd_417 : (Cond.code ⟨"HandleDeskModel", "pipe", "(I)I"⟩ prog_7_method_14_code 5 (some .int) : Cond) ∈ wsA := wA2 177 (by decide +kernel) (by decide +kernel)
theorem wd_418 : (Cond.methodLink "HandleDeskModel" 71 ⟨"HandleDeskModel", "isPipe", "(I)Z"⟩ : Cond) ∈ wsA := wA2 178 (by decide +kernel) (by decide +kernel)
theorem wd_420 : (Cond.instanceMethod ⟨"HandleDeskModel", "isPipe", "(I)Z"⟩ : Cond) ∈ wsA := wA2 180 (by decide +kernel) (by decide +kernel)
theorem wd_421 : (Cond.code ⟨"HandleDeskModel", "isPipe", "(I)Z"⟩ prog_7_method_11_code 2 (some .boolean) : Cond) ∈ wsA := wA2 181 (by decide +kernel) (by decide +kernel)
theorem wd_422 : (Cond.methodLink "HandleDeskModel" 53 ⟨"HandleDeskModel", "end", "(II)I"⟩ : Cond) ∈ wsA := wA2 182 (by decide +kernel) (by decide +kernel)
theorem wd_424 : (Cond.instanceMethod ⟨"HandleDeskModel", "end", "(II)I"⟩ : Cond) ∈ wsA := wA2 184 (by decide +kernel) (by decide +kernel)
theorem wd_425 : (Cond.code ⟨"HandleDeskModel", "end", "(II)I"⟩ prog_7_method_10_code 5 (some .int) : Cond) ∈ wsA := wA2 185 (by decide +kernel) (by decide +kernel)
theorem wd_426 : (Cond.methodLink "HandleDeskModel" 74 ⟨"HandleDeskModel", "used", "(I)I"⟩ : Cond) ∈ wsA := wA2 186 (by decide +kernel) (by decide +kernel)
theorem wd_428 : (Cond.instanceMethod ⟨"HandleDeskModel", "used", "(I)I"⟩ : Cond) ∈ wsA := wA2 188 (by decide +kernel) (by decide +kernel)
theorem wd_429 : (Cond.code ⟨"HandleDeskModel", "used", "(I)I"⟩ prog_7_method_9_code 4 (some .int) : Cond) ∈ wsA := wA2 189 (by decide +kernel) (by decide +kernel)
theorem wd_430 : (Cond.methodLink "HandleDeskLaw" 27 ⟨"HandleDeskModel", "again", "(II)I"⟩ : Cond) ∈ wsA := wA2 190 (by decide +kernel) (by decide +kernel)
theorem wd_431 : (Cond.instanceMethod ⟨"HandleDeskModel", "again", "(II)I"⟩ : Cond) ∈ wsA := wA2 191 (by decide +kernel) (by decide +kernel)
theorem wd_432 : (Cond.selects "HandleDeskModel" ⟨"HandleDeskModel", "again", "(II)I"⟩ ⟨"HandleDeskModel", "again", "(II)I"⟩ : Cond) ∈ wsA := wA2 192 (by decide +kernel) (by decide +kernel)
theorem wd_433 : (Cond.code ⟨"HandleDeskModel", "again", "(II)I"⟩ prog_7_method_15_code 5 (some .int) : Cond) ∈ wsA := wA2 193 (by decide +kernel) (by decide +kernel)
theorem wd_434 : (Cond.methodLink "HandleDeskModel" 77 ⟨"HandleDeskModel", "file", "(II)I"⟩ : Cond) ∈ wsA := wA2 194 (by decide +kernel) (by decide +kernel)
theorem wd_436 : (Cond.instanceMethod ⟨"HandleDeskModel", "file", "(II)I"⟩ : Cond) ∈ wsA := wA2 196 (by decide +kernel) (by decide +kernel)
theorem wd_437 : (Cond.code ⟨"HandleDeskModel", "file", "(II)I"⟩ prog_7_method_4_code 3 (some .int) : Cond) ∈ wsA := wA2 197 (by decide +kernel) (by decide +kernel)
theorem wd_438 : (Cond.methodLink "HandleDeskLaw" 31 ⟨"HandleDeskModel", "close", "(II)I"⟩ : Cond) ∈ wsA := wA2 198 (by decide +kernel) (by decide +kernel)
theorem wd_439 : (Cond.instanceMethod ⟨"HandleDeskModel", "close", "(II)I"⟩ : Cond) ∈ wsA := wA2 199 (by decide +kernel) (by decide +kernel)
theorem wd_440 : (Cond.selects "HandleDeskModel" ⟨"HandleDeskModel", "close", "(II)I"⟩ ⟨"HandleDeskModel", "close", "(II)I"⟩ : Cond) ∈ wsA := wA2 200 (by decide +kernel) (by decide +kernel)
theorem wd_441 : (Cond.code ⟨"HandleDeskModel", "close", "(II)I"⟩ prog_7_method_17_code 4 (some .int) : Cond) ∈ wsA := wA2 201 (by decide +kernel) (by decide +kernel)
theorem wd_442 : (Cond.methodLink "HandleDeskModel" 80 ⟨"HandleDeskModel", "closes", "(II)Z"⟩ : Cond) ∈ wsA := wA2 202 (by decide +kernel) (by decide +kernel)
theorem wd_444 : (Cond.instanceMethod ⟨"HandleDeskModel", "closes", "(II)Z"⟩ : Cond) ∈ wsA := wA2 204 (by decide +kernel) (by decide +kernel)
theorem wd_445 : (Cond.code ⟨"HandleDeskModel", "closes", "(II)Z"⟩ prog_7_method_16_code 4 (some .boolean) : Cond) ∈ wsA := wA2 205 (by decide +kernel) (by decide +kernel)
theorem wd_446 : (Cond.methodLink "HandleDeskLaw" 35 ⟨"HandleDeskModel", "closeAll", "(I)I"⟩ : Cond) ∈ wsA := wA2 206 (by decide +kernel) (by decide +kernel)
theorem wd_447 : (Cond.instanceMethod ⟨"HandleDeskModel", "closeAll", "(I)I"⟩ : Cond) ∈ wsA := wA2 207 (by decide +kernel) (by decide +kernel)
theorem wd_448 : (Cond.selects "HandleDeskModel" ⟨"HandleDeskModel", "closeAll", "(I)I"⟩ ⟨"HandleDeskModel", "closeAll", "(I)I"⟩ : Cond) ∈ wsA := wA2 208 (by decide +kernel) (by decide +kernel)
theorem wd_449 : (Cond.code ⟨"HandleDeskModel", "closeAll", "(I)I"⟩ prog_7_method_18_code 4 (some .int) : Cond) ∈ wsA := wA2 209 (by decide +kernel) (by decide +kernel)
theorem wd_450 : (Cond.methodLink "HandleDeskLaw" 39 ⟨"HandleDeskModel", "left", "(I)I"⟩ : Cond) ∈ wsA := wA2 210 (by decide +kernel) (by decide +kernel)
theorem wd_451 : (Cond.instanceMethod ⟨"HandleDeskModel", "left", "(I)I"⟩ : Cond) ∈ wsA := wA2 211 (by decide +kernel) (by decide +kernel)
theorem wd_452 : (Cond.selects "HandleDeskModel" ⟨"HandleDeskModel", "left", "(I)I"⟩ ⟨"HandleDeskModel", "left", "(I)I"⟩ : Cond) ∈ wsA := wA2 212 (by decide +kernel) (by decide +kernel)
theorem wd_453 : (Cond.code ⟨"HandleDeskModel", "left", "(I)I"⟩ prog_7_method_19_code 2 (some .int) : Cond) ∈ wsA := wA2 213 (by decide +kernel) (by decide +kernel)
theorem wd_454 : (Cond.methodLink "HandleDeskLaw" 43 ⟨"HandleDeskModel", "copy", "(II)I"⟩ : Cond) ∈ wsA := wA2 214 (by decide +kernel) (by decide +kernel)
theorem wd_455 : (Cond.instanceMethod ⟨"HandleDeskModel", "copy", "(II)I"⟩ : Cond) ∈ wsA := wA2 215 (by decide +kernel) (by decide +kernel)
theorem wd_456 : (Cond.selects "HandleDeskModel" ⟨"HandleDeskModel", "copy", "(II)I"⟩ ⟨"HandleDeskModel", "copy", "(II)I"⟩ : Cond) ∈ wsA := wA2 216 (by decide +kernel) (by decide +kernel)
theorem wd_457 : (Cond.code ⟨"HandleDeskModel", "copy", "(II)I"⟩ prog_7_method_20_code 4 (some .int) : Cond) ∈ wsA := wA2 217 (by decide +kernel) (by decide +kernel)
theorem wd_458 : (Cond.methodLink "HandleDeskLaw" 48 ⟨"HandleDeskModel", "about", "(III)I"⟩ : Cond) ∈ wsA := wA2 218 (by decide +kernel) (by decide +kernel)
theorem wd_459 : (Cond.instanceMethod ⟨"HandleDeskModel", "about", "(III)I"⟩ : Cond) ∈ wsA := wA2 219 (by decide +kernel) (by decide +kernel)
theorem wd_460 : (Cond.selects "HandleDeskModel" ⟨"HandleDeskModel", "about", "(III)I"⟩ ⟨"HandleDeskModel", "about", "(III)I"⟩ : Cond) ∈ wsA := wA2 220 (by decide +kernel) (by decide +kernel)
theorem wd_461 : (Cond.code ⟨"HandleDeskModel", "about", "(III)I"⟩ prog_7_method_21_code 5 (some .int) : Cond) ∈ wsA := wA2 221 (by decide +kernel) (by decide +kernel)
theorem wd_462 : (Cond.methodLink "HandleDeskLaw" 53 ⟨"HandleDeskModel", "move", "(III)Z"⟩ : Cond) ∈ wsA := wA2 222 (by decide +kernel) (by decide +kernel)
theorem wd_463 : (Cond.instanceMethod ⟨"HandleDeskModel", "move", "(III)Z"⟩ : Cond) ∈ wsA := wA2 223 (by decide +kernel) (by decide +kernel)
theorem wd_464 : (Cond.selects "HandleDeskModel" ⟨"HandleDeskModel", "move", "(III)Z"⟩ ⟨"HandleDeskModel", "move", "(III)Z"⟩ : Cond) ∈ wsA := wA2 224 (by decide +kernel) (by decide +kernel)
theorem wd_465 : (Cond.code ⟨"HandleDeskModel", "move", "(III)Z"⟩ prog_7_method_22_code 5 (some .boolean) : Cond) ∈ wsA := wA2 225 (by decide +kernel) (by decide +kernel)
theorem wd_466 : (Cond.methodLink "HandleDeskLaw" 57 ⟨"HandleDeskModel", "put", "(III)I"⟩ : Cond) ∈ wsA := wA2 226 (by decide +kernel) (by decide +kernel)
theorem wd_467 : (Cond.instanceMethod ⟨"HandleDeskModel", "put", "(III)I"⟩ : Cond) ∈ wsA := wA2 227 (by decide +kernel) (by decide +kernel)
theorem wd_468 : (Cond.selects "HandleDeskModel" ⟨"HandleDeskModel", "put", "(III)I"⟩ ⟨"HandleDeskModel", "put", "(III)I"⟩ : Cond) ∈ wsA := wA2 228 (by decide +kernel) (by decide +kernel)
theorem wd_469 : (Cond.code ⟨"HandleDeskModel", "put", "(III)I"⟩ prog_7_method_23_code 6 (some .int) : Cond) ∈ wsA := wA2 229 (by decide +kernel) (by decide +kernel)
theorem wd_470 : (Cond.methodLink "HandleDeskLaw" 61 ⟨"HandleDeskModel", "take", "(II)I"⟩ : Cond) ∈ wsA := wA2 230 (by decide +kernel) (by decide +kernel)
theorem wd_471 : (Cond.instanceMethod ⟨"HandleDeskModel", "take", "(II)I"⟩ : Cond) ∈ wsA := wA2 231 (by decide +kernel) (by decide +kernel)
theorem wd_472 : (Cond.selects "HandleDeskModel" ⟨"HandleDeskModel", "take", "(II)I"⟩ ⟨"HandleDeskModel", "take", "(II)I"⟩ : Cond) ∈ wsA := wA2 232 (by decide +kernel) (by decide +kernel)
theorem wd_473 : (Cond.code ⟨"HandleDeskModel", "take", "(II)I"⟩ prog_7_method_24_code 7 (some .int) : Cond) ∈ wsA := wA2 233 (by decide +kernel) (by decide +kernel)
theorem wd_474 : (Cond.methodLink "HandleDeskLaw" 65 ⟨"HandleDeskModel", "ends", "(II)I"⟩ : Cond) ∈ wsA := wA2 234 (by decide +kernel) (by decide +kernel)
theorem wd_475 : (Cond.instanceMethod ⟨"HandleDeskModel", "ends", "(II)I"⟩ : Cond) ∈ wsA := wA2 235 (by decide +kernel) (by decide +kernel)
theorem wd_476 : (Cond.selects "HandleDeskModel" ⟨"HandleDeskModel", "ends", "(II)I"⟩ ⟨"HandleDeskModel", "ends", "(II)I"⟩ : Cond) ∈ wsA := wA2 236 (by decide +kernel) (by decide +kernel)
theorem wd_477 : (Cond.code ⟨"HandleDeskModel", "ends", "(II)I"⟩ prog_7_method_25_code 3 (some .int) : Cond) ∈ wsA := wA2 237 (by decide +kernel) (by decide +kernel)
theorem wd_478 : (Cond.methodLink "HandleDeskLaw" 70 ⟨"HandleDeskModel", "type", "(I)Z"⟩ : Cond) ∈ wsA := wA2 238 (by decide +kernel) (by decide +kernel)
theorem wd_479 : (Cond.instanceMethod ⟨"HandleDeskModel", "type", "(I)Z"⟩ : Cond) ∈ wsA := wA2 239 (by decide +kernel) (by decide +kernel)
theorem wd_480 : (Cond.selects "HandleDeskModel" ⟨"HandleDeskModel", "type", "(I)Z"⟩ ⟨"HandleDeskModel", "type", "(I)Z"⟩ : Cond) ∈ wsA := wA3 0 (by decide +kernel) (by decide +kernel)
theorem wd_481 : (Cond.code ⟨"HandleDeskModel", "type", "(I)Z"⟩ prog_7_method_28_code 3 (some .boolean) : Cond) ∈ wsA := wA3 1 (by decide +kernel) (by decide +kernel)
theorem wd_482 : (Cond.methodLink "HandleDeskModel" 100 ⟨"HandleDeskModel", "back", "()V"⟩ : Cond) ∈ wsA := wA3 2 (by decide +kernel) (by decide +kernel)
theorem wd_484 : (Cond.instanceMethod ⟨"HandleDeskModel", "back", "()V"⟩ : Cond) ∈ wsA := wA3 4 (by decide +kernel) (by decide +kernel)
theorem wd_485 : (Cond.code ⟨"HandleDeskModel", "back", "()V"⟩ prog_7_method_27_code 1 (none : Option Jvm.ClassFile.FieldType) : Cond) ∈ wsA := wA3 5 (by decide +kernel) (by decide +kernel)
theorem wd_486 : (Cond.methodLink "HandleDeskModel" 93 ⟨"HandleDeskModel", "puts", "(I)V"⟩ : Cond) ∈ wsA := wA3 6 (by decide +kernel) (by decide +kernel)
theorem wd_488 : (Cond.instanceMethod ⟨"HandleDeskModel", "puts", "(I)V"⟩ : Cond) ∈ wsA := wA3 8 (by decide +kernel) (by decide +kernel)
theorem wd_489 : (Cond.code ⟨"HandleDeskModel", "puts", "(I)V"⟩ prog_7_method_26_code 2 (none : Option Jvm.ClassFile.FieldType) : Cond) ∈ wsA := wA3 9 (by decide +kernel) (by decide +kernel)
theorem wd_490 : (Cond.methodLink "HandleDeskLaw" 75 ⟨"HandleDeskModel", "read", "(Z)I"⟩ : Cond) ∈ wsA := wA3 10 (by decide +kernel) (by decide +kernel)
theorem wd_491 : (Cond.instanceMethod ⟨"HandleDeskModel", "read", "(Z)I"⟩ : Cond) ∈ wsA := wA3 11 (by decide +kernel) (by decide +kernel)
theorem wd_492 : (Cond.selects "HandleDeskModel" ⟨"HandleDeskModel", "read", "(Z)I"⟩ ⟨"HandleDeskModel", "read", "(Z)I"⟩ : Cond) ∈ wsA := wA3 12 (by decide +kernel) (by decide +kernel)
theorem wd_493 : (Cond.code ⟨"HandleDeskModel", "read", "(Z)I"⟩ prog_7_method_29_code 4 (some .int) : Cond) ∈ wsA := wA3 13 (by decide +kernel) (by decide +kernel)
theorem wd_494 : (Cond.methodLink "HandleDeskLaw" 79 ⟨"HandleDeskModel", "waiting", "(I)I"⟩ : Cond) ∈ wsA := wA3 14 (by decide +kernel) (by decide +kernel)
theorem wd_495 : (Cond.instanceMethod ⟨"HandleDeskModel", "waiting", "(I)I"⟩ : Cond) ∈ wsA := wA3 15 (by decide +kernel) (by decide +kernel)
theorem wd_496 : (Cond.selects "HandleDeskModel" ⟨"HandleDeskModel", "waiting", "(I)I"⟩ ⟨"HandleDeskModel", "waiting", "(I)I"⟩ : Cond) ∈ wsA := wA3 16 (by decide +kernel) (by decide +kernel)
theorem wd_497 : (Cond.code ⟨"HandleDeskModel", "waiting", "(I)I"⟩ prog_7_method_30_code 2 (some .int) : Cond) ∈ wsA := wA3 17 (by decide +kernel) (by decide +kernel)
theorem wd_498 : (Cond.methodLink "HandleDeskLaw" 84 ⟨"HandleDeskModel", "show", "(I)V"⟩ : Cond) ∈ wsA := wA3 18 (by decide +kernel) (by decide +kernel)
theorem wd_499 : (Cond.instanceMethod ⟨"HandleDeskModel", "show", "(I)V"⟩ : Cond) ∈ wsA := wA3 19 (by decide +kernel) (by decide +kernel)
theorem wd_500 : (Cond.selects "HandleDeskModel" ⟨"HandleDeskModel", "show", "(I)V"⟩ ⟨"HandleDeskModel", "show", "(I)V"⟩ : Cond) ∈ wsA := wA3 20 (by decide +kernel) (by decide +kernel)
theorem wd_501 : (Cond.code ⟨"HandleDeskModel", "show", "(I)V"⟩ prog_7_method_31_code 2 (none : Option Jvm.ClassFile.FieldType) : Cond) ∈ wsA := wA3 21 (by decide +kernel) (by decide +kernel)
theorem wd_502 : (Cond.methodLink "HandleDeskLaw" 88 ⟨"HandleDeskModel", "shown", "(I)I"⟩ : Cond) ∈ wsA := wA3 22 (by decide +kernel) (by decide +kernel)
theorem wd_503 : (Cond.instanceMethod ⟨"HandleDeskModel", "shown", "(I)I"⟩ : Cond) ∈ wsA := wA3 23 (by decide +kernel) (by decide +kernel)
theorem wd_504 : (Cond.selects "HandleDeskModel" ⟨"HandleDeskModel", "shown", "(I)I"⟩ ⟨"HandleDeskModel", "shown", "(I)I"⟩ : Cond) ∈ wsA := wA3 24 (by decide +kernel) (by decide +kernel)
theorem wd_505 : (Cond.code ⟨"HandleDeskModel", "shown", "(I)I"⟩ prog_7_method_32_code 2 (some .int) : Cond) ∈ wsA := wA3 25 (by decide +kernel) (by decide +kernel)
theorem wd_506 : (Cond.methodLink "HandleDeskLaw" 93 ⟨"HandleDeskModel", "count", "()I"⟩ : Cond) ∈ wsA := wA3 26 (by decide +kernel) (by decide +kernel)
theorem wd_507 : (Cond.instanceMethod ⟨"HandleDeskModel", "count", "()I"⟩ : Cond) ∈ wsA := wA3 27 (by decide +kernel) (by decide +kernel)
theorem wd_508 : (Cond.selects "HandleDeskModel" ⟨"HandleDeskModel", "count", "()I"⟩ ⟨"HandleDeskModel", "count", "()I"⟩ : Cond) ∈ wsA := wA3 28 (by decide +kernel) (by decide +kernel)
theorem wd_509 : (Cond.code ⟨"HandleDeskModel", "count", "()I"⟩ prog_7_method_33_code 1 (some .int) : Cond) ∈ wsA := wA3 29 (by decide +kernel) (by decide +kernel)
theorem ws_0 : (Cond.selects "HandleDesk" ⟨"HandleDesk", "freeDescriptor", "(II)I"⟩ ⟨"HandleDesk", "freeDescriptor", "(II)I"⟩ : Cond) ∈ wsA := wAs 0 (by decide +kernel) (by decide +kernel)
theorem ws_1 : (Cond.selects "HandleDesk" ⟨"HandleDesk", "fileOf", "(II)LHandleDesk$OpenFile;"⟩ ⟨"HandleDesk", "fileOf", "(II)LHandleDesk$OpenFile;"⟩ : Cond) ∈ wsA := wAs 1 (by decide +kernel) (by decide +kernel)
theorem ws_2 : (Cond.selects "HandleDesk" ⟨"HandleDesk", "freeFile", "(I)LHandleDesk$OpenFile;"⟩ ⟨"HandleDesk", "freeFile", "(I)LHandleDesk$OpenFile;"⟩ : Cond) ∈ wsA := wAs 2 (by decide +kernel) (by decide +kernel)
theorem ws_3 : (Cond.selects "HandleDesk" ⟨"HandleDesk", "setName", "(IILHandleDesk$OpenFile;)V"⟩ ⟨"HandleDesk", "setName", "(IILHandleDesk$OpenFile;)V"⟩ : Cond) ∈ wsA := wAs 3 (by decide +kernel) (by decide +kernel)
theorem ws_4 : (Cond.selects "HandleDesk" ⟨"HandleDesk", "freePipe", "()LHandleDesk$Pipe;"⟩ ⟨"HandleDesk", "freePipe", "()LHandleDesk$Pipe;"⟩ : Cond) ∈ wsA := wAs 4 (by decide +kernel) (by decide +kernel)
theorem ws_5 : (Cond.selects "HandleDesk" ⟨"HandleDesk", "dropName", "(IILHandleDesk$OpenFile;)Z"⟩ ⟨"HandleDesk", "dropName", "(IILHandleDesk$OpenFile;)Z"⟩ : Cond) ∈ wsA := wAs 5 (by decide +kernel) (by decide +kernel)
theorem ws_6 : (Cond.selects "HandleDesk" ⟨"HandleDesk", "keepLeft", "(I)V"⟩ ⟨"HandleDesk", "keepLeft", "(I)V"⟩ : Cond) ∈ wsA := wAs 6 (by decide +kernel) (by decide +kernel)
theorem ws_7 : (Cond.selects "HandleDesk" ⟨"HandleDesk", "usedDescriptors", "(I)I"⟩ ⟨"HandleDesk", "usedDescriptors", "(I)I"⟩ : Cond) ∈ wsA := wAs 7 (by decide +kernel) (by decide +kernel)
theorem ws_8 : (Cond.selects "HandleDesk" ⟨"HandleDesk", "takeBack", "(I)V"⟩ ⟨"HandleDesk", "takeBack", "(I)V"⟩ : Cond) ∈ wsA := wAs 8 (by decide +kernel) (by decide +kernel)
theorem ws_9 : (Cond.selects "HandleDeskModel" ⟨"HandleDeskModel", "vacant", "(I)I"⟩ ⟨"HandleDeskModel", "vacant", "(I)I"⟩ : Cond) ∈ wsA := wAs 9 (by decide +kernel) (by decide +kernel)
theorem ws_10 : (Cond.selects "HandleDeskModel" ⟨"HandleDeskModel", "files", "()I"⟩ ⟨"HandleDeskModel", "files", "()I"⟩ : Cond) ∈ wsA := wAs 10 (by decide +kernel) (by decide +kernel)
theorem ws_11 : (Cond.selects "HandleDeskModel" ⟨"HandleDeskModel", "named", "(I)I"⟩ ⟨"HandleDeskModel", "named", "(I)I"⟩ : Cond) ∈ wsA := wAs 11 (by decide +kernel) (by decide +kernel)
theorem ws_12 : (Cond.selects "HandleDeskModel" ⟨"HandleDeskModel", "makes", "(IIIII)I"⟩ ⟨"HandleDeskModel", "makes", "(IIIII)I"⟩ : Cond) ∈ wsA := wAs 12 (by decide +kernel) (by decide +kernel)
theorem ws_13 : (Cond.selects "HandleDeskModel" ⟨"HandleDeskModel", "freeFile", "()I"⟩ ⟨"HandleDeskModel", "freeFile", "()I"⟩ : Cond) ∈ wsA := wAs 13 (by decide +kernel) (by decide +kernel)
theorem ws_14 : (Cond.selects "HandleDeskModel" ⟨"HandleDeskModel", "isPipe", "(I)Z"⟩ ⟨"HandleDeskModel", "isPipe", "(I)Z"⟩ : Cond) ∈ wsA := wAs 14 (by decide +kernel) (by decide +kernel)
theorem ws_15 : (Cond.selects "HandleDeskModel" ⟨"HandleDeskModel", "end", "(II)I"⟩ ⟨"HandleDeskModel", "end", "(II)I"⟩ : Cond) ∈ wsA := wAs 15 (by decide +kernel) (by decide +kernel)
theorem ws_16 : (Cond.selects "HandleDeskModel" ⟨"HandleDeskModel", "used", "(I)I"⟩ ⟨"HandleDeskModel", "used", "(I)I"⟩ : Cond) ∈ wsA := wAs 16 (by decide +kernel) (by decide +kernel)
theorem ws_17 : (Cond.selects "HandleDeskModel" ⟨"HandleDeskModel", "file", "(II)I"⟩ ⟨"HandleDeskModel", "file", "(II)I"⟩ : Cond) ∈ wsA := wAs 17 (by decide +kernel) (by decide +kernel)
theorem ws_18 : (Cond.selects "HandleDeskModel" ⟨"HandleDeskModel", "closes", "(II)Z"⟩ ⟨"HandleDeskModel", "closes", "(II)Z"⟩ : Cond) ∈ wsA := wAs 18 (by decide +kernel) (by decide +kernel)
theorem ws_19 : (Cond.selects "HandleDeskModel" ⟨"HandleDeskModel", "back", "()V"⟩ ⟨"HandleDeskModel", "back", "()V"⟩ : Cond) ∈ wsA := wAs 19 (by decide +kernel) (by decide +kernel)
theorem ws_20 : (Cond.selects "HandleDeskModel" ⟨"HandleDeskModel", "puts", "(I)V"⟩ ⟨"HandleDeskModel", "puts", "(I)V"⟩ : Cond) ∈ wsA := wAs 20 (by decide +kernel) (by decide +kernel)
end
section
theorem d_init_D_0 : decode prog_1_method_1_code 0 = .ok (.aload_n 0, 1) := by decide +kernel
theorem d_init_D_1 : decode prog_1_method_1_code 1 = .ok (.invokespecial 1, 3) := by decide +kernel
theorem d_init_D_4 : decode prog_1_method_1_code 4 = .ok (.aload_n 0, 1) := by decide +kernel
theorem d_init_D_5 : decode prog_1_method_1_code 5 = .ok (.sipush 240, 3) := by decide +kernel
theorem d_init_D_8 : decode prog_1_method_1_code 8 = .ok (.anewarray 9, 3) := by decide +kernel
theorem d_init_D_11 : decode prog_1_method_1_code 11 = .ok (.putfield 11, 3) := by decide +kernel
theorem d_init_D_14 : decode prog_1_method_1_code 14 = .ok (.aload_n 0, 1) := by decide +kernel
theorem d_init_D_15 : decode prog_1_method_1_code 15 = .ok (.bipush 32, 2) := by decide +kernel
theorem d_init_D_17 : decode prog_1_method_1_code 17 = .ok (.anewarray 9, 3) := by decide +kernel
theorem d_init_D_20 : decode prog_1_method_1_code 20 = .ok (.putfield 15, 3) := by decide +kernel
theorem d_init_D_23 : decode prog_1_method_1_code 23 = .ok (.iconst 0, 1) := by decide +kernel
theorem d_init_D_24 : decode prog_1_method_1_code 24 = .ok (.istore_n 1, 1) := by decide +kernel
theorem d_init_D_25 : decode prog_1_method_1_code 25 = .ok (.iload_n 1, 1) := by decide +kernel
theorem d_init_D_26 : decode prog_1_method_1_code 26 = .ok (.bipush 32, 2) := by decide +kernel
theorem d_init_D_28 : decode prog_1_method_1_code 28 = .ok (.if_icmp .ge 23, 3) := by decide +kernel
theorem d_init_D_31 : decode prog_1_method_1_code 31 = .ok (.aload_n 0, 1) := by decide +kernel
theorem d_init_D_32 : decode prog_1_method_1_code 32 = .ok (.getfield 15, 3) := by decide +kernel
theorem d_init_D_35 : decode prog_1_method_1_code 35 = .ok (.iload_n 1, 1) := by decide +kernel
theorem d_init_D_36 : decode prog_1_method_1_code 36 = .ok (.new 9, 3) := by decide +kernel
theorem d_init_D_39 : decode prog_1_method_1_code 39 = .ok (.dup, 1) := by decide +kernel
theorem d_init_D_40 : decode prog_1_method_1_code 40 = .ok (.iload_n 1, 1) := by decide +kernel
theorem d_init_D_41 : decode prog_1_method_1_code 41 = .ok (.invokespecial 18, 3) := by decide +kernel
theorem d_init_D_44 : decode prog_1_method_1_code 44 = .ok (.aastore, 1) := by decide +kernel
theorem d_init_D_45 : decode prog_1_method_1_code 45 = .ok (.iinc 1 1, 3) := by decide +kernel
theorem d_init_D_48 : decode prog_1_method_1_code 48 = .ok (.goto (-23), 3) := by decide +kernel
theorem d_init_D_51 : decode prog_1_method_1_code 51 = .ok (.aload_n 0, 1) := by decide +kernel
theorem d_init_D_52 : decode prog_1_method_1_code 52 = .ok (.bipush 8, 2) := by decide +kernel
theorem d_init_D_54 : decode prog_1_method_1_code 54 = .ok (.anewarray 21, 3) := by decide +kernel
theorem d_init_D_57 : decode prog_1_method_1_code 57 = .ok (.putfield 23, 3) := by decide +kernel
theorem d_init_D_60 : decode prog_1_method_1_code 60 = .ok (.iconst 0, 1) := by decide +kernel
theorem d_init_D_61 : decode prog_1_method_1_code 61 = .ok (.istore_n 1, 1) := by decide +kernel
theorem d_init_D_62 : decode prog_1_method_1_code 62 = .ok (.iload_n 1, 1) := by decide +kernel
theorem d_init_D_63 : decode prog_1_method_1_code 63 = .ok (.bipush 8, 2) := by decide +kernel
theorem d_init_D_65 : decode prog_1_method_1_code 65 = .ok (.if_icmp .ge 23, 3) := by decide +kernel
theorem d_init_D_68 : decode prog_1_method_1_code 68 = .ok (.aload_n 0, 1) := by decide +kernel
theorem d_init_D_69 : decode prog_1_method_1_code 69 = .ok (.getfield 23, 3) := by decide +kernel
theorem d_init_D_72 : decode prog_1_method_1_code 72 = .ok (.iload_n 1, 1) := by decide +kernel
theorem d_init_D_73 : decode prog_1_method_1_code 73 = .ok (.new 21, 3) := by decide +kernel
theorem d_init_D_76 : decode prog_1_method_1_code 76 = .ok (.dup, 1) := by decide +kernel
theorem d_init_D_77 : decode prog_1_method_1_code 77 = .ok (.iload_n 1, 1) := by decide +kernel
theorem d_init_D_78 : decode prog_1_method_1_code 78 = .ok (.invokespecial 27, 3) := by decide +kernel
theorem d_init_D_81 : decode prog_1_method_1_code 81 = .ok (.aastore, 1) := by decide +kernel
theorem d_init_D_82 : decode prog_1_method_1_code 82 = .ok (.iinc 1 1, 3) := by decide +kernel
theorem d_init_D_85 : decode prog_1_method_1_code 85 = .ok (.goto (-23), 3) := by decide +kernel
theorem d_init_D_88 : decode prog_1_method_1_code 88 = .ok (.aload_n 0, 1) := by decide +kernel
theorem d_init_D_89 : decode prog_1_method_1_code 89 = .ok (.bipush 16, 2) := by decide +kernel
theorem d_init_D_91 : decode prog_1_method_1_code 91 = .ok (.newarray .int, 2) := by decide +kernel
theorem d_init_D_93 : decode prog_1_method_1_code 93 = .ok (.putfield 28, 3) := by decide +kernel
theorem d_init_D_96 : decode prog_1_method_1_code 96 = .ok (.aload_n 0, 1) := by decide +kernel
theorem d_init_D_97 : decode prog_1_method_1_code 97 = .ok (.iconst 0, 1) := by decide +kernel
theorem d_init_D_98 : decode prog_1_method_1_code 98 = .ok (.putfield 32, 3) := by decide +kernel
theorem d_init_D_101 : decode prog_1_method_1_code 101 = .ok (.aload_n 0, 1) := by decide +kernel
theorem d_init_D_102 : decode prog_1_method_1_code 102 = .ok (.new 36, 3) := by decide +kernel
theorem d_init_D_105 : decode prog_1_method_1_code 105 = .ok (.dup, 1) := by decide +kernel
theorem d_init_D_106 : decode prog_1_method_1_code 106 = .ok (.invokespecial 38, 3) := by decide +kernel
theorem d_init_D_109 : decode prog_1_method_1_code 109 = .ok (.putfield 39, 3) := by decide +kernel
theorem d_init_D_112 : decode prog_1_method_1_code 112 = .ok (.aload_n 0, 1) := by decide +kernel
theorem d_init_D_113 : decode prog_1_method_1_code 113 = .ok (.new 43, 3) := by decide +kernel
theorem d_init_D_116 : decode prog_1_method_1_code 116 = .ok (.dup, 1) := by decide +kernel
theorem d_init_D_117 : decode prog_1_method_1_code 117 = .ok (.invokespecial 45, 3) := by decide +kernel
theorem d_init_D_120 : decode prog_1_method_1_code 120 = .ok (.putfield 46, 3) := by decide +kernel
theorem d_init_D_123 : decode prog_1_method_1_code 123 = .ok (.return_, 1) := by decide +kernel
theorem d_init_F_0 : decode prog_3_method_1_code 0 = .ok (.aload_n 0, 1) := by decide +kernel
theorem d_init_F_1 : decode prog_3_method_1_code 1 = .ok (.invokespecial 3, 3) := by decide +kernel
theorem d_init_F_4 : decode prog_3_method_1_code 4 = .ok (.aload_n 0, 1) := by decide +kernel
theorem d_init_F_5 : decode prog_3_method_1_code 5 = .ok (.iload_n 1, 1) := by decide +kernel
theorem d_init_F_6 : decode prog_3_method_1_code 6 = .ok (.putfield 9, 3) := by decide +kernel
theorem d_init_F_9 : decode prog_3_method_1_code 9 = .ok (.return_, 1) := by decide +kernel
theorem d_init_P_0 : decode prog_4_method_1_code 0 = .ok (.aload_n 0, 1) := by decide +kernel
theorem d_init_P_1 : decode prog_4_method_1_code 1 = .ok (.invokespecial 3, 3) := by decide +kernel
theorem d_init_P_4 : decode prog_4_method_1_code 4 = .ok (.aload_n 0, 1) := by decide +kernel
theorem d_init_P_5 : decode prog_4_method_1_code 5 = .ok (.sipush 512, 3) := by decide +kernel
theorem d_init_P_8 : decode prog_4_method_1_code 8 = .ok (.newarray .byte, 2) := by decide +kernel
theorem d_init_P_10 : decode prog_4_method_1_code 10 = .ok (.putfield 9, 3) := by decide +kernel
theorem d_init_P_13 : decode prog_4_method_1_code 13 = .ok (.aload_n 0, 1) := by decide +kernel
theorem d_init_P_14 : decode prog_4_method_1_code 14 = .ok (.iload_n 1, 1) := by decide +kernel
theorem d_init_P_15 : decode prog_4_method_1_code 15 = .ok (.putfield 15, 3) := by decide +kernel
theorem d_init_P_18 : decode prog_4_method_1_code 18 = .ok (.return_, 1) := by decide +kernel
theorem d_init_C_0 : decode prog_2_method_1_code 0 = .ok (.aload_n 0, 1) := by decide +kernel
theorem d_init_C_1 : decode prog_2_method_1_code 1 = .ok (.invokespecial 3, 3) := by decide +kernel
theorem d_init_C_4 : decode prog_2_method_1_code 4 = .ok (.aload_n 0, 1) := by decide +kernel
theorem d_init_C_5 : decode prog_2_method_1_code 5 = .ok (.sipush 128, 3) := by decide +kernel
theorem d_init_C_8 : decode prog_2_method_1_code 8 = .ok (.newarray .byte, 2) := by decide +kernel
theorem d_init_C_10 : decode prog_2_method_1_code 10 = .ok (.putfield 9, 3) := by decide +kernel
theorem d_init_C_13 : decode prog_2_method_1_code 13 = .ok (.return_, 1) := by decide +kernel
theorem d_init_S_0 : decode prog_5_method_1_code 0 = .ok (.aload_n 0, 1) := by decide +kernel
theorem d_init_S_1 : decode prog_5_method_1_code 1 = .ok (.invokespecial 3, 3) := by decide +kernel
theorem d_init_S_4 : decode prog_5_method_1_code 4 = .ok (.aload_n 0, 1) := by decide +kernel
theorem d_init_S_5 : decode prog_5_method_1_code 5 = .ok (.sipush 4096, 3) := by decide +kernel
theorem d_init_S_8 : decode prog_5_method_1_code 8 = .ok (.newarray .byte, 2) := by decide +kernel
theorem d_init_S_10 : decode prog_5_method_1_code 10 = .ok (.putfield 9, 3) := by decide +kernel
theorem d_init_S_13 : decode prog_5_method_1_code 13 = .ok (.return_, 1) := by decide +kernel
theorem d_open_0 : decode prog_1_method_2_code 0 = .ok (.iload_n 1, 1) := by decide +kernel
theorem d_open_1 : decode prog_1_method_2_code 1 = .ok (.invokestatic 50, 3) := by decide +kernel
theorem d_open_4 : decode prog_1_method_2_code 4 = .ok (.ifCond .eq 18, 3) := by decide +kernel
theorem d_open_7 : decode prog_1_method_2_code 7 = .ok (.iload_n 2, 1) := by decide +kernel
theorem d_open_8 : decode prog_1_method_2_code 8 = .ok (.invokestatic 54, 3) := by decide +kernel
theorem d_open_11 : decode prog_1_method_2_code 11 = .ok (.ifCond .eq 11, 3) := by decide +kernel
theorem d_open_14 : decode prog_1_method_2_code 14 = .ok (.iload 4, 2) := by decide +kernel
theorem d_open_16 : decode prog_1_method_2_code 16 = .ok (.invokestatic 57, 3) := by decide +kernel
theorem d_open_19 : decode prog_1_method_2_code 19 = .ok (.ifCond .ne 5, 3) := by decide +kernel
theorem d_open_22 : decode prog_1_method_2_code 22 = .ok (.iconst (-1), 1) := by decide +kernel
theorem d_open_23 : decode prog_1_method_2_code 23 = .ok (.ireturn, 1) := by decide +kernel
theorem d_open_24 : decode prog_1_method_2_code 24 = .ok (.aload_n 0, 1) := by decide +kernel
theorem d_open_25 : decode prog_1_method_2_code 25 = .ok (.iload_n 1, 1) := by decide +kernel
theorem d_open_26 : decode prog_1_method_2_code 26 = .ok (.iconst 0, 1) := by decide +kernel
theorem d_open_27 : decode prog_1_method_2_code 27 = .ok (.invokevirtual 60, 3) := by decide +kernel
theorem d_open_30 : decode prog_1_method_2_code 30 = .ok (.istore 5, 2) := by decide +kernel
theorem d_open_32 : decode prog_1_method_2_code 32 = .ok (.aload_n 0, 1) := by decide +kernel
theorem d_open_33 : decode prog_1_method_2_code 33 = .ok (.iconst 0, 1) := by decide +kernel
theorem d_open_34 : decode prog_1_method_2_code 34 = .ok (.invokevirtual 64, 3) := by decide +kernel
theorem d_open_37 : decode prog_1_method_2_code 37 = .ok (.astore 6, 2) := by decide +kernel
theorem d_open_39 : decode prog_1_method_2_code 39 = .ok (.iload 5, 2) := by decide +kernel
theorem d_open_41 : decode prog_1_method_2_code 41 = .ok (.iconst (-1), 1) := by decide +kernel
theorem d_open_42 : decode prog_1_method_2_code 42 = .ok (.if_icmp .eq 8, 3) := by decide +kernel
theorem d_open_45 : decode prog_1_method_2_code 45 = .ok (.aload 6, 2) := by decide +kernel
theorem d_open_47 : decode prog_1_method_2_code 47 = .ok (.ifnonnull 5, 3) := by decide +kernel
theorem d_open_50 : decode prog_1_method_2_code 50 = .ok (.iconst (-1), 1) := by decide +kernel
theorem d_open_51 : decode prog_1_method_2_code 51 = .ok (.ireturn, 1) := by decide +kernel
theorem d_open_52 : decode prog_1_method_2_code 52 = .ok (.aload 6, 2) := by decide +kernel
theorem d_open_54 : decode prog_1_method_2_code 54 = .ok (.iload_n 2, 1) := by decide +kernel
theorem d_open_55 : decode prog_1_method_2_code 55 = .ok (.iload 4, 2) := by decide +kernel
theorem d_open_57 : decode prog_1_method_2_code 57 = .ok (.invokevirtual 68, 3) := by decide +kernel
theorem d_open_60 : decode prog_1_method_2_code 60 = .ok (.iload_n 2, 1) := by decide +kernel
theorem d_open_61 : decode prog_1_method_2_code 61 = .ok (.iconst 2, 1) := by decide +kernel
theorem d_open_62 : decode prog_1_method_2_code 62 = .ok (.if_icmp .ne 9, 3) := by decide +kernel
theorem d_open_65 : decode prog_1_method_2_code 65 = .ok (.aload 6, 2) := by decide +kernel
theorem d_open_67 : decode prog_1_method_2_code 67 = .ok (.iload_n 3, 1) := by decide +kernel
theorem d_open_68 : decode prog_1_method_2_code 68 = .ok (.putfield 72, 3) := by decide +kernel
theorem d_open_71 : decode prog_1_method_2_code 71 = .ok (.aload_n 0, 1) := by decide +kernel
theorem d_open_72 : decode prog_1_method_2_code 72 = .ok (.iload_n 1, 1) := by decide +kernel
theorem d_open_73 : decode prog_1_method_2_code 73 = .ok (.iload 5, 2) := by decide +kernel
theorem d_open_75 : decode prog_1_method_2_code 75 = .ok (.aload 6, 2) := by decide +kernel
theorem d_open_77 : decode prog_1_method_2_code 77 = .ok (.invokevirtual 75, 3) := by decide +kernel
theorem d_open_80 : decode prog_1_method_2_code 80 = .ok (.iload 5, 2) := by decide +kernel
theorem d_open_82 : decode prog_1_method_2_code 82 = .ok (.ireturn, 1) := by decide +kernel
theorem d_isProcess_0 : decode prog_1_method_20_code 0 = .ok (.iload_n 0, 1) := by decide +kernel
theorem d_isProcess_1 : decode prog_1_method_20_code 1 = .ok (.ifCond .lt 13, 3) := by decide +kernel
theorem d_isProcess_4 : decode prog_1_method_20_code 4 = .ok (.iload_n 0, 1) := by decide +kernel
theorem d_isProcess_5 : decode prog_1_method_20_code 5 = .ok (.bipush 15, 2) := by decide +kernel
theorem d_isProcess_7 : decode prog_1_method_20_code 7 = .ok (.if_icmp .ge 7, 3) := by decide +kernel
theorem d_isProcess_10 : decode prog_1_method_20_code 10 = .ok (.iconst 1, 1) := by decide +kernel
theorem d_isProcess_11 : decode prog_1_method_20_code 11 = .ok (.goto 4, 3) := by decide +kernel
theorem d_isProcess_14 : decode prog_1_method_20_code 14 = .ok (.iconst 0, 1) := by decide +kernel
theorem d_isProcess_15 : decode prog_1_method_20_code 15 = .ok (.ireturn, 1) := by decide +kernel
theorem d_isOpenable_0 : decode prog_1_method_22_code 0 = .ok (.iload_n 0, 1) := by decide +kernel
theorem d_isOpenable_1 : decode prog_1_method_22_code 1 = .ok (.iconst 2, 1) := by decide +kernel
theorem d_isOpenable_2 : decode prog_1_method_22_code 2 = .ok (.if_icmp .eq 8, 3) := by decide +kernel
theorem d_isOpenable_5 : decode prog_1_method_22_code 5 = .ok (.iload_n 0, 1) := by decide +kernel
theorem d_isOpenable_6 : decode prog_1_method_22_code 6 = .ok (.iconst 3, 1) := by decide +kernel
theorem d_isOpenable_7 : decode prog_1_method_22_code 7 = .ok (.if_icmp .ne 7, 3) := by decide +kernel
theorem d_isOpenable_10 : decode prog_1_method_22_code 10 = .ok (.iconst 1, 1) := by decide +kernel
theorem d_isOpenable_11 : decode prog_1_method_22_code 11 = .ok (.goto 4, 3) := by decide +kernel
theorem d_isOpenable_14 : decode prog_1_method_22_code 14 = .ok (.iconst 0, 1) := by decide +kernel
theorem d_isOpenable_15 : decode prog_1_method_22_code 15 = .ok (.ireturn, 1) := by decide +kernel
theorem d_isHow_0 : decode prog_1_method_23_code 0 = .ok (.iload_n 0, 1) := by decide +kernel
theorem d_isHow_1 : decode prog_1_method_23_code 1 = .ok (.iconst 1, 1) := by decide +kernel
theorem d_isHow_2 : decode prog_1_method_23_code 2 = .ok (.if_icmp .lt 12, 3) := by decide +kernel
theorem d_isHow_5 : decode prog_1_method_23_code 5 = .ok (.iload_n 0, 1) := by decide +kernel
theorem d_isHow_6 : decode prog_1_method_23_code 6 = .ok (.iconst 3, 1) := by decide +kernel
theorem d_isHow_7 : decode prog_1_method_23_code 7 = .ok (.if_icmp .gt 7, 3) := by decide +kernel
theorem d_isHow_10 : decode prog_1_method_23_code 10 = .ok (.iconst 1, 1) := by decide +kernel
theorem d_isHow_11 : decode prog_1_method_23_code 11 = .ok (.goto 4, 3) := by decide +kernel
theorem d_isHow_14 : decode prog_1_method_23_code 14 = .ok (.iconst 0, 1) := by decide +kernel
theorem d_isHow_15 : decode prog_1_method_23_code 15 = .ok (.ireturn, 1) := by decide +kernel
theorem d_freeDescriptor_0 : decode prog_1_method_26_code 0 = .ok (.iload_n 2, 1) := by decide +kernel
theorem d_freeDescriptor_1 : decode prog_1_method_26_code 1 = .ok (.istore_n 3, 1) := by decide +kernel
theorem d_freeDescriptor_2 : decode prog_1_method_26_code 2 = .ok (.iload_n 3, 1) := by decide +kernel
theorem d_freeDescriptor_3 : decode prog_1_method_26_code 3 = .ok (.bipush 16, 2) := by decide +kernel
theorem d_freeDescriptor_5 : decode prog_1_method_26_code 5 = .ok (.if_icmp .ge 20, 3) := by decide +kernel
theorem d_freeDescriptor_8 : decode prog_1_method_26_code 8 = .ok (.aload_n 0, 1) := by decide +kernel
theorem d_freeDescriptor_9 : decode prog_1_method_26_code 9 = .ok (.iload_n 1, 1) := by decide +kernel
theorem d_freeDescriptor_10 : decode prog_1_method_26_code 10 = .ok (.iload_n 3, 1) := by decide +kernel
theorem d_freeDescriptor_11 : decode prog_1_method_26_code 11 = .ok (.invokevirtual 90, 3) := by decide +kernel
theorem d_freeDescriptor_14 : decode prog_1_method_26_code 14 = .ok (.ifnonnull 5, 3) := by decide +kernel
theorem d_freeDescriptor_17 : decode prog_1_method_26_code 17 = .ok (.iload_n 3, 1) := by decide +kernel
theorem d_freeDescriptor_18 : decode prog_1_method_26_code 18 = .ok (.ireturn, 1) := by decide +kernel
theorem d_freeDescriptor_19 : decode prog_1_method_26_code 19 = .ok (.iinc 3 1, 3) := by decide +kernel
theorem d_freeDescriptor_22 : decode prog_1_method_26_code 22 = .ok (.goto (-20), 3) := by decide +kernel
theorem d_freeDescriptor_25 : decode prog_1_method_26_code 25 = .ok (.iconst (-1), 1) := by decide +kernel
theorem d_freeDescriptor_26 : decode prog_1_method_26_code 26 = .ok (.ireturn, 1) := by decide +kernel
theorem d_fileOf_0 : decode prog_1_method_25_code 0 = .ok (.iload_n 1, 1) := by decide +kernel
theorem d_fileOf_1 : decode prog_1_method_25_code 1 = .ok (.invokestatic 50, 3) := by decide +kernel
theorem d_fileOf_4 : decode prog_1_method_25_code 4 = .ok (.ifCond .eq 10, 3) := by decide +kernel
theorem d_fileOf_7 : decode prog_1_method_25_code 7 = .ok (.iload_n 2, 1) := by decide +kernel
theorem d_fileOf_8 : decode prog_1_method_25_code 8 = .ok (.invokestatic 185, 3) := by decide +kernel
theorem d_fileOf_11 : decode prog_1_method_25_code 11 = .ok (.ifCond .ne 5, 3) := by decide +kernel
theorem d_fileOf_14 : decode prog_1_method_25_code 14 = .ok (.aconst_null, 1) := by decide +kernel
theorem d_fileOf_15 : decode prog_1_method_25_code 15 = .ok (.areturn, 1) := by decide +kernel
theorem d_fileOf_16 : decode prog_1_method_25_code 16 = .ok (.aload_n 0, 1) := by decide +kernel
theorem d_fileOf_17 : decode prog_1_method_25_code 17 = .ok (.getfield 11, 3) := by decide +kernel
theorem d_fileOf_20 : decode prog_1_method_25_code 20 = .ok (.iload_n 1, 1) := by decide +kernel
theorem d_fileOf_21 : decode prog_1_method_25_code 21 = .ok (.bipush 16, 2) := by decide +kernel
theorem d_fileOf_23 : decode prog_1_method_25_code 23 = .ok (.imul, 1) := by decide +kernel
theorem d_fileOf_24 : decode prog_1_method_25_code 24 = .ok (.iload_n 2, 1) := by decide +kernel
theorem d_fileOf_25 : decode prog_1_method_25_code 25 = .ok (.iadd, 1) := by decide +kernel
theorem d_fileOf_26 : decode prog_1_method_25_code 26 = .ok (.aaload, 1) := by decide +kernel
theorem d_fileOf_27 : decode prog_1_method_25_code 27 = .ok (.areturn, 1) := by decide +kernel
theorem d_isDescriptor_0 : decode prog_1_method_21_code 0 = .ok (.iload_n 0, 1) := by decide +kernel
theorem d_isDescriptor_1 : decode prog_1_method_21_code 1 = .ok (.ifCond .lt 13, 3) := by decide +kernel
theorem d_isDescriptor_4 : decode prog_1_method_21_code 4 = .ok (.iload_n 0, 1) := by decide +kernel
theorem d_isDescriptor_5 : decode prog_1_method_21_code 5 = .ok (.bipush 16, 2) := by decide +kernel
theorem d_isDescriptor_7 : decode prog_1_method_21_code 7 = .ok (.if_icmp .ge 7, 3) := by decide +kernel
theorem d_isDescriptor_10 : decode prog_1_method_21_code 10 = .ok (.iconst 1, 1) := by decide +kernel
theorem d_isDescriptor_11 : decode prog_1_method_21_code 11 = .ok (.goto 4, 3) := by decide +kernel
theorem d_isDescriptor_14 : decode prog_1_method_21_code 14 = .ok (.iconst 0, 1) := by decide +kernel
theorem d_isDescriptor_15 : decode prog_1_method_21_code 15 = .ok (.ireturn, 1) := by decide +kernel
theorem d_freeFile_0 : decode prog_1_method_28_code 0 = .ok (.iload_n 1, 1) := by decide +kernel
theorem d_freeFile_1 : decode prog_1_method_28_code 1 = .ok (.ifCond .ge 5, 3) := by decide +kernel
theorem d_freeFile_4 : decode prog_1_method_28_code 4 = .ok (.aconst_null, 1) := by decide +kernel
theorem d_freeFile_5 : decode prog_1_method_28_code 5 = .ok (.areturn, 1) := by decide +kernel
theorem d_freeFile_6 : decode prog_1_method_28_code 6 = .ok (.iload_n 1, 1) := by decide +kernel
theorem d_freeFile_7 : decode prog_1_method_28_code 7 = .ok (.istore_n 2, 1) := by decide +kernel
theorem d_freeFile_8 : decode prog_1_method_28_code 8 = .ok (.iload_n 2, 1) := by decide +kernel
theorem d_freeFile_9 : decode prog_1_method_28_code 9 = .ok (.aload_n 0, 1) := by decide +kernel
theorem d_freeFile_10 : decode prog_1_method_28_code 10 = .ok (.getfield 15, 3) := by decide +kernel
theorem d_freeFile_13 : decode prog_1_method_28_code 13 = .ok (.arraylength, 1) := by decide +kernel
theorem d_freeFile_14 : decode prog_1_method_28_code 14 = .ok (.if_icmp .ge 29, 3) := by decide +kernel
theorem d_freeFile_17 : decode prog_1_method_28_code 17 = .ok (.aload_n 0, 1) := by decide +kernel
theorem d_freeFile_18 : decode prog_1_method_28_code 18 = .ok (.getfield 15, 3) := by decide +kernel
theorem d_freeFile_21 : decode prog_1_method_28_code 21 = .ok (.iload_n 2, 1) := by decide +kernel
theorem d_freeFile_22 : decode prog_1_method_28_code 22 = .ok (.aaload, 1) := by decide +kernel
theorem d_freeFile_23 : decode prog_1_method_28_code 23 = .ok (.astore_n 3, 1) := by decide +kernel
theorem d_freeFile_24 : decode prog_1_method_28_code 24 = .ok (.aload_n 3, 1) := by decide +kernel
theorem d_freeFile_25 : decode prog_1_method_28_code 25 = .ok (.ifnull 12, 3) := by decide +kernel
theorem d_freeFile_28 : decode prog_1_method_28_code 28 = .ok (.aload_n 3, 1) := by decide +kernel
theorem d_freeFile_29 : decode prog_1_method_28_code 29 = .ok (.getfield 127, 3) := by decide +kernel
theorem d_freeFile_32 : decode prog_1_method_28_code 32 = .ok (.ifCond .ne 5, 3) := by decide +kernel
theorem d_freeFile_35 : decode prog_1_method_28_code 35 = .ok (.aload_n 3, 1) := by decide +kernel
theorem d_freeFile_36 : decode prog_1_method_28_code 36 = .ok (.areturn, 1) := by decide +kernel
theorem d_freeFile_37 : decode prog_1_method_28_code 37 = .ok (.iinc 2 1, 3) := by decide +kernel
theorem d_freeFile_40 : decode prog_1_method_28_code 40 = .ok (.goto (-32), 3) := by decide +kernel
theorem d_freeFile_43 : decode prog_1_method_28_code 43 = .ok (.aconst_null, 1) := by decide +kernel
theorem d_freeFile_44 : decode prog_1_method_28_code 44 = .ok (.areturn, 1) := by decide +kernel
theorem d_File_begin_0 : decode prog_3_method_2_code 0 = .ok (.aload_n 0, 1) := by decide +kernel
theorem d_File_begin_1 : decode prog_3_method_2_code 1 = .ok (.iload_n 1, 1) := by decide +kernel
theorem d_File_begin_2 : decode prog_3_method_2_code 2 = .ok (.putfield 15, 3) := by decide +kernel
theorem d_File_begin_5 : decode prog_3_method_2_code 5 = .ok (.aload_n 0, 1) := by decide +kernel
theorem d_File_begin_6 : decode prog_3_method_2_code 6 = .ok (.iconst 0, 1) := by decide +kernel
theorem d_File_begin_7 : decode prog_3_method_2_code 7 = .ok (.putfield 18, 3) := by decide +kernel
theorem d_File_begin_10 : decode prog_3_method_2_code 10 = .ok (.aload_n 0, 1) := by decide +kernel
theorem d_File_begin_11 : decode prog_3_method_2_code 11 = .ok (.aconst_null, 1) := by decide +kernel
theorem d_File_begin_12 : decode prog_3_method_2_code 12 = .ok (.putfield 21, 3) := by decide +kernel
theorem d_File_begin_15 : decode prog_3_method_2_code 15 = .ok (.aload_n 0, 1) := by decide +kernel
theorem d_File_begin_16 : decode prog_3_method_2_code 16 = .ok (.iload_n 2, 1) := by decide +kernel
theorem d_File_begin_17 : decode prog_3_method_2_code 17 = .ok (.iconst 1, 1) := by decide +kernel
theorem d_File_begin_18 : decode prog_3_method_2_code 18 = .ok (.iand, 1) := by decide +kernel
theorem d_File_begin_19 : decode prog_3_method_2_code 19 = .ok (.ifCond .eq 7, 3) := by decide +kernel
theorem d_File_begin_22 : decode prog_3_method_2_code 22 = .ok (.iconst 1, 1) := by decide +kernel
theorem d_File_begin_23 : decode prog_3_method_2_code 23 = .ok (.goto 4, 3) := by decide +kernel
theorem d_File_begin_26 : decode prog_3_method_2_code 26 = .ok (.iconst 0, 1) := by decide +kernel
theorem d_File_begin_27 : decode prog_3_method_2_code 27 = .ok (.putfield 25, 3) := by decide +kernel
theorem d_File_begin_30 : decode prog_3_method_2_code 30 = .ok (.aload_n 0, 1) := by decide +kernel
theorem d_File_begin_31 : decode prog_3_method_2_code 31 = .ok (.iload_n 2, 1) := by decide +kernel
theorem d_File_begin_32 : decode prog_3_method_2_code 32 = .ok (.iconst 2, 1) := by decide +kernel
theorem d_File_begin_33 : decode prog_3_method_2_code 33 = .ok (.iand, 1) := by decide +kernel
theorem d_File_begin_34 : decode prog_3_method_2_code 34 = .ok (.ifCond .eq 7, 3) := by decide +kernel
theorem d_File_begin_37 : decode prog_3_method_2_code 37 = .ok (.iconst 1, 1) := by decide +kernel
theorem d_File_begin_38 : decode prog_3_method_2_code 38 = .ok (.goto 4, 3) := by decide +kernel
theorem d_File_begin_41 : decode prog_3_method_2_code 41 = .ok (.iconst 0, 1) := by decide +kernel
theorem d_File_begin_42 : decode prog_3_method_2_code 42 = .ok (.putfield 29, 3) := by decide +kernel
theorem d_File_begin_45 : decode prog_3_method_2_code 45 = .ok (.aload_n 0, 1) := by decide +kernel
theorem d_File_begin_46 : decode prog_3_method_2_code 46 = .ok (.iconst 0, 1) := by decide +kernel
theorem d_File_begin_47 : decode prog_3_method_2_code 47 = .ok (.putfield 32, 3) := by decide +kernel
theorem d_File_begin_50 : decode prog_3_method_2_code 50 = .ok (.aload_n 0, 1) := by decide +kernel
theorem d_File_begin_51 : decode prog_3_method_2_code 51 = .ok (.iconst 0, 1) := by decide +kernel
theorem d_File_begin_52 : decode prog_3_method_2_code 52 = .ok (.putfield 35, 3) := by decide +kernel
theorem d_File_begin_55 : decode prog_3_method_2_code 55 = .ok (.return_, 1) := by decide +kernel
theorem d_setName_0 : decode prog_1_method_31_code 0 = .ok (.iload_n 1, 1) := by decide +kernel
theorem d_setName_1 : decode prog_1_method_31_code 1 = .ok (.invokestatic 50, 3) := by decide +kernel
theorem d_setName_4 : decode prog_1_method_31_code 4 = .ok (.ifCond .eq 32, 3) := by decide +kernel
theorem d_setName_7 : decode prog_1_method_31_code 7 = .ok (.iload_n 2, 1) := by decide +kernel
theorem d_setName_8 : decode prog_1_method_31_code 8 = .ok (.invokestatic 185, 3) := by decide +kernel
theorem d_setName_11 : decode prog_1_method_31_code 11 = .ok (.ifCond .eq 25, 3) := by decide +kernel
theorem d_setName_14 : decode prog_1_method_31_code 14 = .ok (.aload_n 0, 1) := by decide +kernel
theorem d_setName_15 : decode prog_1_method_31_code 15 = .ok (.getfield 11, 3) := by decide +kernel
theorem d_setName_18 : decode prog_1_method_31_code 18 = .ok (.iload_n 1, 1) := by decide +kernel
theorem d_setName_19 : decode prog_1_method_31_code 19 = .ok (.bipush 16, 2) := by decide +kernel
theorem d_setName_21 : decode prog_1_method_31_code 21 = .ok (.imul, 1) := by decide +kernel
theorem d_setName_22 : decode prog_1_method_31_code 22 = .ok (.iload_n 2, 1) := by decide +kernel
theorem d_setName_23 : decode prog_1_method_31_code 23 = .ok (.iadd, 1) := by decide +kernel
theorem d_setName_24 : decode prog_1_method_31_code 24 = .ok (.aload_n 3, 1) := by decide +kernel
theorem d_setName_25 : decode prog_1_method_31_code 25 = .ok (.aastore, 1) := by decide +kernel
theorem d_setName_26 : decode prog_1_method_31_code 26 = .ok (.aload_n 3, 1) := by decide +kernel
theorem d_setName_27 : decode prog_1_method_31_code 27 = .ok (.dup, 1) := by decide +kernel
theorem d_setName_28 : decode prog_1_method_31_code 28 = .ok (.getfield 127, 3) := by decide +kernel
theorem d_setName_31 : decode prog_1_method_31_code 31 = .ok (.iconst 1, 1) := by decide +kernel
theorem d_setName_32 : decode prog_1_method_31_code 32 = .ok (.iadd, 1) := by decide +kernel
theorem d_setName_33 : decode prog_1_method_31_code 33 = .ok (.putfield 127, 3) := by decide +kernel
theorem d_setName_36 : decode prog_1_method_31_code 36 = .ok (.return_, 1) := by decide +kernel
theorem d_pipe_0 : decode prog_1_method_3_code 0 = .ok (.iload_n 1, 1) := by decide +kernel
theorem d_pipe_1 : decode prog_1_method_3_code 1 = .ok (.invokestatic 50, 3) := by decide +kernel
theorem d_pipe_4 : decode prog_1_method_3_code 4 = .ok (.ifCond .ne 5, 3) := by decide +kernel
theorem d_pipe_7 : decode prog_1_method_3_code 7 = .ok (.iconst (-1), 1) := by decide +kernel
theorem d_pipe_8 : decode prog_1_method_3_code 8 = .ok (.ireturn, 1) := by decide +kernel
theorem d_pipe_9 : decode prog_1_method_3_code 9 = .ok (.aload_n 0, 1) := by decide +kernel
theorem d_pipe_10 : decode prog_1_method_3_code 10 = .ok (.iload_n 1, 1) := by decide +kernel
theorem d_pipe_11 : decode prog_1_method_3_code 11 = .ok (.iconst 0, 1) := by decide +kernel
theorem d_pipe_12 : decode prog_1_method_3_code 12 = .ok (.invokevirtual 60, 3) := by decide +kernel
theorem d_pipe_15 : decode prog_1_method_3_code 15 = .ok (.istore_n 2, 1) := by decide +kernel
theorem d_pipe_16 : decode prog_1_method_3_code 16 = .ok (.iload_n 2, 1) := by decide +kernel
theorem d_pipe_17 : decode prog_1_method_3_code 17 = .ok (.iconst (-1), 1) := by decide +kernel
theorem d_pipe_18 : decode prog_1_method_3_code 18 = .ok (.if_icmp .ne 5, 3) := by decide +kernel
theorem d_pipe_21 : decode prog_1_method_3_code 21 = .ok (.iconst (-1), 1) := by decide +kernel
theorem d_pipe_22 : decode prog_1_method_3_code 22 = .ok (.ireturn, 1) := by decide +kernel
theorem d_pipe_23 : decode prog_1_method_3_code 23 = .ok (.aload_n 0, 1) := by decide +kernel
theorem d_pipe_24 : decode prog_1_method_3_code 24 = .ok (.iload_n 1, 1) := by decide +kernel
theorem d_pipe_25 : decode prog_1_method_3_code 25 = .ok (.iload_n 2, 1) := by decide +kernel
theorem d_pipe_26 : decode prog_1_method_3_code 26 = .ok (.iconst 1, 1) := by decide +kernel
theorem d_pipe_27 : decode prog_1_method_3_code 27 = .ok (.iadd, 1) := by decide +kernel
theorem d_pipe_28 : decode prog_1_method_3_code 28 = .ok (.invokevirtual 60, 3) := by decide +kernel
theorem d_pipe_31 : decode prog_1_method_3_code 31 = .ok (.istore_n 3, 1) := by decide +kernel
theorem d_pipe_32 : decode prog_1_method_3_code 32 = .ok (.iload_n 3, 1) := by decide +kernel
theorem d_pipe_33 : decode prog_1_method_3_code 33 = .ok (.iconst (-1), 1) := by decide +kernel
theorem d_pipe_34 : decode prog_1_method_3_code 34 = .ok (.if_icmp .ne 5, 3) := by decide +kernel
theorem d_pipe_37 : decode prog_1_method_3_code 37 = .ok (.iconst (-1), 1) := by decide +kernel
theorem d_pipe_38 : decode prog_1_method_3_code 38 = .ok (.ireturn, 1) := by decide +kernel
theorem d_pipe_39 : decode prog_1_method_3_code 39 = .ok (.aload_n 0, 1) := by decide +kernel
theorem d_pipe_40 : decode prog_1_method_3_code 40 = .ok (.iconst 0, 1) := by decide +kernel
theorem d_pipe_41 : decode prog_1_method_3_code 41 = .ok (.invokevirtual 64, 3) := by decide +kernel
theorem d_pipe_44 : decode prog_1_method_3_code 44 = .ok (.astore 4, 2) := by decide +kernel
theorem d_pipe_46 : decode prog_1_method_3_code 46 = .ok (.aload 4, 2) := by decide +kernel
theorem d_pipe_48 : decode prog_1_method_3_code 48 = .ok (.ifnonnull 5, 3) := by decide +kernel
theorem d_pipe_51 : decode prog_1_method_3_code 51 = .ok (.iconst (-1), 1) := by decide +kernel
theorem d_pipe_52 : decode prog_1_method_3_code 52 = .ok (.ireturn, 1) := by decide +kernel
theorem d_pipe_53 : decode prog_1_method_3_code 53 = .ok (.aload_n 0, 1) := by decide +kernel
theorem d_pipe_54 : decode prog_1_method_3_code 54 = .ok (.aload 4, 2) := by decide +kernel
theorem d_pipe_56 : decode prog_1_method_3_code 56 = .ok (.getfield 79, 3) := by decide +kernel
theorem d_pipe_59 : decode prog_1_method_3_code 59 = .ok (.iconst 1, 1) := by decide +kernel
theorem d_pipe_60 : decode prog_1_method_3_code 60 = .ok (.iadd, 1) := by decide +kernel
theorem d_pipe_61 : decode prog_1_method_3_code 61 = .ok (.invokevirtual 64, 3) := by decide +kernel
theorem d_pipe_64 : decode prog_1_method_3_code 64 = .ok (.astore 5, 2) := by decide +kernel
theorem d_pipe_66 : decode prog_1_method_3_code 66 = .ok (.aload_n 0, 1) := by decide +kernel
theorem d_pipe_67 : decode prog_1_method_3_code 67 = .ok (.invokevirtual 82, 3) := by decide +kernel
theorem d_pipe_70 : decode prog_1_method_3_code 70 = .ok (.astore 6, 2) := by decide +kernel
theorem d_pipe_72 : decode prog_1_method_3_code 72 = .ok (.aload 5, 2) := by decide +kernel
theorem d_pipe_74 : decode prog_1_method_3_code 74 = .ok (.ifnull 8, 3) := by decide +kernel
theorem d_pipe_77 : decode prog_1_method_3_code 77 = .ok (.aload 6, 2) := by decide +kernel
theorem d_pipe_79 : decode prog_1_method_3_code 79 = .ok (.ifnonnull 5, 3) := by decide +kernel
theorem d_pipe_82 : decode prog_1_method_3_code 82 = .ok (.iconst (-1), 1) := by decide +kernel
theorem d_pipe_83 : decode prog_1_method_3_code 83 = .ok (.ireturn, 1) := by decide +kernel
theorem d_pipe_84 : decode prog_1_method_3_code 84 = .ok (.aload 6, 2) := by decide +kernel
theorem d_pipe_86 : decode prog_1_method_3_code 86 = .ok (.aload 4, 2) := by decide +kernel
theorem d_pipe_88 : decode prog_1_method_3_code 88 = .ok (.aload 5, 2) := by decide +kernel
theorem d_pipe_90 : decode prog_1_method_3_code 90 = .ok (.invokestatic 86, 3) := by decide +kernel
theorem d_pipe_93 : decode prog_1_method_3_code 93 = .ok (.aload_n 0, 1) := by decide +kernel
theorem d_pipe_94 : decode prog_1_method_3_code 94 = .ok (.iload_n 1, 1) := by decide +kernel
theorem d_pipe_95 : decode prog_1_method_3_code 95 = .ok (.iload_n 2, 1) := by decide +kernel
theorem d_pipe_96 : decode prog_1_method_3_code 96 = .ok (.aload 4, 2) := by decide +kernel
theorem d_pipe_98 : decode prog_1_method_3_code 98 = .ok (.invokevirtual 75, 3) := by decide +kernel
theorem d_pipe_101 : decode prog_1_method_3_code 101 = .ok (.aload_n 0, 1) := by decide +kernel
theorem d_pipe_102 : decode prog_1_method_3_code 102 = .ok (.iload_n 1, 1) := by decide +kernel
theorem d_pipe_103 : decode prog_1_method_3_code 103 = .ok (.iload_n 3, 1) := by decide +kernel
theorem d_pipe_104 : decode prog_1_method_3_code 104 = .ok (.aload 5, 2) := by decide +kernel
theorem d_pipe_106 : decode prog_1_method_3_code 106 = .ok (.invokevirtual 75, 3) := by decide +kernel
theorem d_pipe_109 : decode prog_1_method_3_code 109 = .ok (.iload_n 2, 1) := by decide +kernel
theorem d_pipe_110 : decode prog_1_method_3_code 110 = .ok (.bipush 16, 2) := by decide +kernel
theorem d_pipe_112 : decode prog_1_method_3_code 112 = .ok (.iload_n 3, 1) := by decide +kernel
theorem d_pipe_113 : decode prog_1_method_3_code 113 = .ok (.imul, 1) := by decide +kernel
theorem d_pipe_114 : decode prog_1_method_3_code 114 = .ok (.iadd, 1) := by decide +kernel
theorem d_pipe_115 : decode prog_1_method_3_code 115 = .ok (.ireturn, 1) := by decide +kernel
theorem d_freePipe_0 : decode prog_1_method_29_code 0 = .ok (.iconst 0, 1) := by decide +kernel
theorem d_freePipe_1 : decode prog_1_method_29_code 1 = .ok (.istore_n 1, 1) := by decide +kernel
theorem d_freePipe_2 : decode prog_1_method_29_code 2 = .ok (.iload_n 1, 1) := by decide +kernel
theorem d_freePipe_3 : decode prog_1_method_29_code 3 = .ok (.aload_n 0, 1) := by decide +kernel
theorem d_freePipe_4 : decode prog_1_method_29_code 4 = .ok (.getfield 23, 3) := by decide +kernel
theorem d_freePipe_7 : decode prog_1_method_29_code 7 = .ok (.arraylength, 1) := by decide +kernel
theorem d_freePipe_8 : decode prog_1_method_29_code 8 = .ok (.if_icmp .ge 29, 3) := by decide +kernel
theorem d_freePipe_11 : decode prog_1_method_29_code 11 = .ok (.aload_n 0, 1) := by decide +kernel
theorem d_freePipe_12 : decode prog_1_method_29_code 12 = .ok (.getfield 23, 3) := by decide +kernel
theorem d_freePipe_15 : decode prog_1_method_29_code 15 = .ok (.iload_n 1, 1) := by decide +kernel
theorem d_freePipe_16 : decode prog_1_method_29_code 16 = .ok (.aaload, 1) := by decide +kernel
theorem d_freePipe_17 : decode prog_1_method_29_code 17 = .ok (.astore_n 2, 1) := by decide +kernel
theorem d_freePipe_18 : decode prog_1_method_29_code 18 = .ok (.aload_n 2, 1) := by decide +kernel
theorem d_freePipe_19 : decode prog_1_method_29_code 19 = .ok (.ifnull 12, 3) := by decide +kernel
theorem d_freePipe_22 : decode prog_1_method_29_code 22 = .ok (.aload_n 2, 1) := by decide +kernel
theorem d_freePipe_23 : decode prog_1_method_29_code 23 = .ok (.invokevirtual 150, 3) := by decide +kernel
theorem d_freePipe_26 : decode prog_1_method_29_code 26 = .ok (.ifCond .eq 5, 3) := by decide +kernel
theorem d_freePipe_29 : decode prog_1_method_29_code 29 = .ok (.aload_n 2, 1) := by decide +kernel
theorem d_freePipe_30 : decode prog_1_method_29_code 30 = .ok (.areturn, 1) := by decide +kernel
theorem d_freePipe_31 : decode prog_1_method_29_code 31 = .ok (.iinc 1 1, 3) := by decide +kernel
theorem d_freePipe_34 : decode prog_1_method_29_code 34 = .ok (.goto (-32), 3) := by decide +kernel
theorem d_freePipe_37 : decode prog_1_method_29_code 37 = .ok (.aconst_null, 1) := by decide +kernel
theorem d_freePipe_38 : decode prog_1_method_29_code 38 = .ok (.areturn, 1) := by decide +kernel
theorem d_Pipe_isGone_0 : decode prog_4_method_3_code 0 = .ok (.aload_n 0, 1) := by decide +kernel
theorem d_Pipe_isGone_1 : decode prog_4_method_3_code 1 = .ok (.getfield 25, 3) := by decide +kernel
theorem d_Pipe_isGone_4 : decode prog_4_method_3_code 4 = .ok (.ifCond .ne 14, 3) := by decide +kernel
theorem d_Pipe_isGone_7 : decode prog_4_method_3_code 7 = .ok (.aload_n 0, 1) := by decide +kernel
theorem d_Pipe_isGone_8 : decode prog_4_method_3_code 8 = .ok (.getfield 29, 3) := by decide +kernel
theorem d_Pipe_isGone_11 : decode prog_4_method_3_code 11 = .ok (.ifCond .ne 7, 3) := by decide +kernel
theorem d_Pipe_isGone_14 : decode prog_4_method_3_code 14 = .ok (.iconst 1, 1) := by decide +kernel
theorem d_Pipe_isGone_15 : decode prog_4_method_3_code 15 = .ok (.goto 4, 3) := by decide +kernel
theorem d_Pipe_isGone_18 : decode prog_4_method_3_code 18 = .ok (.iconst 0, 1) := by decide +kernel
theorem d_Pipe_isGone_19 : decode prog_4_method_3_code 19 = .ok (.ireturn, 1) := by decide +kernel
theorem d_joinEnds_0 : decode prog_1_method_30_code 0 = .ok (.aload_n 0, 1) := by decide +kernel
theorem d_joinEnds_1 : decode prog_1_method_30_code 1 = .ok (.invokevirtual 188, 3) := by decide +kernel
theorem d_joinEnds_4 : decode prog_1_method_30_code 4 = .ok (.aload_n 1, 1) := by decide +kernel
theorem d_joinEnds_5 : decode prog_1_method_30_code 5 = .ok (.iconst 1, 1) := by decide +kernel
theorem d_joinEnds_6 : decode prog_1_method_30_code 6 = .ok (.iconst 1, 1) := by decide +kernel
theorem d_joinEnds_7 : decode prog_1_method_30_code 7 = .ok (.invokevirtual 68, 3) := by decide +kernel
theorem d_joinEnds_10 : decode prog_1_method_30_code 10 = .ok (.aload_n 1, 1) := by decide +kernel
theorem d_joinEnds_11 : decode prog_1_method_30_code 11 = .ok (.aload_n 0, 1) := by decide +kernel
theorem d_joinEnds_12 : decode prog_1_method_30_code 12 = .ok (.putfield 108, 3) := by decide +kernel
theorem d_joinEnds_15 : decode prog_1_method_30_code 15 = .ok (.aload_n 2, 1) := by decide +kernel
theorem d_joinEnds_16 : decode prog_1_method_30_code 16 = .ok (.iconst 1, 1) := by decide +kernel
theorem d_joinEnds_17 : decode prog_1_method_30_code 17 = .ok (.iconst 2, 1) := by decide +kernel
theorem d_joinEnds_18 : decode prog_1_method_30_code 18 = .ok (.invokevirtual 68, 3) := by decide +kernel
theorem d_joinEnds_21 : decode prog_1_method_30_code 21 = .ok (.aload_n 2, 1) := by decide +kernel
theorem d_joinEnds_22 : decode prog_1_method_30_code 22 = .ok (.aload_n 0, 1) := by decide +kernel
theorem d_joinEnds_23 : decode prog_1_method_30_code 23 = .ok (.putfield 108, 3) := by decide +kernel
theorem d_joinEnds_26 : decode prog_1_method_30_code 26 = .ok (.return_, 1) := by decide +kernel
theorem d_Pipe_begin_0 : decode prog_4_method_2_code 0 = .ok (.aload_n 0, 1) := by decide +kernel
theorem d_Pipe_begin_1 : decode prog_4_method_2_code 1 = .ok (.iconst 0, 1) := by decide +kernel
theorem d_Pipe_begin_2 : decode prog_4_method_2_code 2 = .ok (.putfield 19, 3) := by decide +kernel
theorem d_Pipe_begin_5 : decode prog_4_method_2_code 5 = .ok (.aload_n 0, 1) := by decide +kernel
theorem d_Pipe_begin_6 : decode prog_4_method_2_code 6 = .ok (.iconst 0, 1) := by decide +kernel
theorem d_Pipe_begin_7 : decode prog_4_method_2_code 7 = .ok (.putfield 22, 3) := by decide +kernel
theorem d_Pipe_begin_10 : decode prog_4_method_2_code 10 = .ok (.aload_n 0, 1) := by decide +kernel
theorem d_Pipe_begin_11 : decode prog_4_method_2_code 11 = .ok (.iconst 1, 1) := by decide +kernel
theorem d_Pipe_begin_12 : decode prog_4_method_2_code 12 = .ok (.putfield 25, 3) := by decide +kernel
theorem d_Pipe_begin_15 : decode prog_4_method_2_code 15 = .ok (.aload_n 0, 1) := by decide +kernel
theorem d_Pipe_begin_16 : decode prog_4_method_2_code 16 = .ok (.iconst 1, 1) := by decide +kernel
theorem d_Pipe_begin_17 : decode prog_4_method_2_code 17 = .ok (.putfield 29, 3) := by decide +kernel
theorem d_Pipe_begin_20 : decode prog_4_method_2_code 20 = .ok (.return_, 1) := by decide +kernel
theorem d_again_0 : decode prog_1_method_4_code 0 = .ok (.aload_n 0, 1) := by decide +kernel
theorem d_again_1 : decode prog_1_method_4_code 1 = .ok (.iload_n 1, 1) := by decide +kernel
theorem d_again_2 : decode prog_1_method_4_code 2 = .ok (.iload_n 2, 1) := by decide +kernel
theorem d_again_3 : decode prog_1_method_4_code 3 = .ok (.invokevirtual 90, 3) := by decide +kernel
theorem d_again_6 : decode prog_1_method_4_code 6 = .ok (.astore_n 3, 1) := by decide +kernel
theorem d_again_7 : decode prog_1_method_4_code 7 = .ok (.aload_n 3, 1) := by decide +kernel
theorem d_again_8 : decode prog_1_method_4_code 8 = .ok (.ifnonnull 5, 3) := by decide +kernel
theorem d_again_11 : decode prog_1_method_4_code 11 = .ok (.iconst (-1), 1) := by decide +kernel
theorem d_again_12 : decode prog_1_method_4_code 12 = .ok (.ireturn, 1) := by decide +kernel
theorem d_again_13 : decode prog_1_method_4_code 13 = .ok (.aload_n 0, 1) := by decide +kernel
theorem d_again_14 : decode prog_1_method_4_code 14 = .ok (.iload_n 1, 1) := by decide +kernel
theorem d_again_15 : decode prog_1_method_4_code 15 = .ok (.iconst 0, 1) := by decide +kernel
theorem d_again_16 : decode prog_1_method_4_code 16 = .ok (.invokevirtual 60, 3) := by decide +kernel
theorem d_again_19 : decode prog_1_method_4_code 19 = .ok (.istore 4, 2) := by decide +kernel
theorem d_again_21 : decode prog_1_method_4_code 21 = .ok (.iload 4, 2) := by decide +kernel
theorem d_again_23 : decode prog_1_method_4_code 23 = .ok (.iconst (-1), 1) := by decide +kernel
theorem d_again_24 : decode prog_1_method_4_code 24 = .ok (.if_icmp .ne 5, 3) := by decide +kernel
theorem d_again_27 : decode prog_1_method_4_code 27 = .ok (.iconst (-1), 1) := by decide +kernel
theorem d_again_28 : decode prog_1_method_4_code 28 = .ok (.ireturn, 1) := by decide +kernel
theorem d_again_29 : decode prog_1_method_4_code 29 = .ok (.aload_n 0, 1) := by decide +kernel
theorem d_again_30 : decode prog_1_method_4_code 30 = .ok (.iload_n 1, 1) := by decide +kernel
theorem d_again_31 : decode prog_1_method_4_code 31 = .ok (.iload 4, 2) := by decide +kernel
theorem d_again_33 : decode prog_1_method_4_code 33 = .ok (.aload_n 3, 1) := by decide +kernel
theorem d_again_34 : decode prog_1_method_4_code 34 = .ok (.invokevirtual 75, 3) := by decide +kernel
theorem d_again_37 : decode prog_1_method_4_code 37 = .ok (.iload 4, 2) := by decide +kernel
theorem d_again_39 : decode prog_1_method_4_code 39 = .ok (.ireturn, 1) := by decide +kernel
theorem d_close_0 : decode prog_1_method_5_code 0 = .ok (.aload_n 0, 1) := by decide +kernel
theorem d_close_1 : decode prog_1_method_5_code 1 = .ok (.iload_n 1, 1) := by decide +kernel
theorem d_close_2 : decode prog_1_method_5_code 2 = .ok (.iload_n 2, 1) := by decide +kernel
theorem d_close_3 : decode prog_1_method_5_code 3 = .ok (.invokevirtual 90, 3) := by decide +kernel
theorem d_close_6 : decode prog_1_method_5_code 6 = .ok (.astore_n 3, 1) := by decide +kernel
theorem d_close_7 : decode prog_1_method_5_code 7 = .ok (.aload_n 3, 1) := by decide +kernel
theorem d_close_8 : decode prog_1_method_5_code 8 = .ok (.ifnonnull 5, 3) := by decide +kernel
theorem d_close_11 : decode prog_1_method_5_code 11 = .ok (.iconst (-1), 1) := by decide +kernel
theorem d_close_12 : decode prog_1_method_5_code 12 = .ok (.ireturn, 1) := by decide +kernel
theorem d_close_13 : decode prog_1_method_5_code 13 = .ok (.aload_n 0, 1) := by decide +kernel
theorem d_close_14 : decode prog_1_method_5_code 14 = .ok (.iload_n 1, 1) := by decide +kernel
theorem d_close_15 : decode prog_1_method_5_code 15 = .ok (.iload_n 2, 1) := by decide +kernel
theorem d_close_16 : decode prog_1_method_5_code 16 = .ok (.aload_n 3, 1) := by decide +kernel
theorem d_close_17 : decode prog_1_method_5_code 17 = .ok (.invokevirtual 94, 3) := by decide +kernel
theorem d_close_20 : decode prog_1_method_5_code 20 = .ok (.ifCond .eq 10, 3) := by decide +kernel
theorem d_close_23 : decode prog_1_method_5_code 23 = .ok (.aload_n 3, 1) := by decide +kernel
theorem d_close_24 : decode prog_1_method_5_code 24 = .ok (.getfield 72, 3) := by decide +kernel
theorem d_close_27 : decode prog_1_method_5_code 27 = .ok (.goto 4, 3) := by decide +kernel
theorem d_close_30 : decode prog_1_method_5_code 30 = .ok (.iconst 0, 1) := by decide +kernel
theorem d_close_31 : decode prog_1_method_5_code 31 = .ok (.ireturn, 1) := by decide +kernel
theorem d_dropName_0 : decode prog_1_method_32_code 0 = .ok (.iload_n 1, 1) := by decide +kernel
theorem d_dropName_1 : decode prog_1_method_32_code 1 = .ok (.invokestatic 50, 3) := by decide +kernel
theorem d_dropName_4 : decode prog_1_method_32_code 4 = .ok (.ifCond .eq 10, 3) := by decide +kernel
theorem d_dropName_7 : decode prog_1_method_32_code 7 = .ok (.iload_n 2, 1) := by decide +kernel
theorem d_dropName_8 : decode prog_1_method_32_code 8 = .ok (.invokestatic 185, 3) := by decide +kernel
theorem d_dropName_11 : decode prog_1_method_32_code 11 = .ok (.ifCond .ne 5, 3) := by decide +kernel
theorem d_dropName_14 : decode prog_1_method_32_code 14 = .ok (.iconst 0, 1) := by decide +kernel
theorem d_dropName_15 : decode prog_1_method_32_code 15 = .ok (.ireturn, 1) := by decide +kernel
theorem d_dropName_16 : decode prog_1_method_32_code 16 = .ok (.aload_n 0, 1) := by decide +kernel
theorem d_dropName_17 : decode prog_1_method_32_code 17 = .ok (.getfield 11, 3) := by decide +kernel
theorem d_dropName_20 : decode prog_1_method_32_code 20 = .ok (.iload_n 1, 1) := by decide +kernel
theorem d_dropName_21 : decode prog_1_method_32_code 21 = .ok (.bipush 16, 2) := by decide +kernel
theorem d_dropName_23 : decode prog_1_method_32_code 23 = .ok (.imul, 1) := by decide +kernel
theorem d_dropName_24 : decode prog_1_method_32_code 24 = .ok (.iload_n 2, 1) := by decide +kernel
theorem d_dropName_25 : decode prog_1_method_32_code 25 = .ok (.iadd, 1) := by decide +kernel
theorem d_dropName_26 : decode prog_1_method_32_code 26 = .ok (.aconst_null, 1) := by decide +kernel
theorem d_dropName_27 : decode prog_1_method_32_code 27 = .ok (.aastore, 1) := by decide +kernel
theorem d_dropName_28 : decode prog_1_method_32_code 28 = .ok (.aload_n 3, 1) := by decide +kernel
theorem d_dropName_29 : decode prog_1_method_32_code 29 = .ok (.dup, 1) := by decide +kernel
theorem d_dropName_30 : decode prog_1_method_32_code 30 = .ok (.getfield 127, 3) := by decide +kernel
theorem d_dropName_33 : decode prog_1_method_32_code 33 = .ok (.iconst 1, 1) := by decide +kernel
theorem d_dropName_34 : decode prog_1_method_32_code 34 = .ok (.isub, 1) := by decide +kernel
theorem d_dropName_35 : decode prog_1_method_32_code 35 = .ok (.putfield 127, 3) := by decide +kernel
theorem d_dropName_38 : decode prog_1_method_32_code 38 = .ok (.aload_n 3, 1) := by decide +kernel
theorem d_dropName_39 : decode prog_1_method_32_code 39 = .ok (.getfield 127, 3) := by decide +kernel
theorem d_dropName_42 : decode prog_1_method_32_code 42 = .ok (.ifCond .le 5, 3) := by decide +kernel
theorem d_dropName_45 : decode prog_1_method_32_code 45 = .ok (.iconst 0, 1) := by decide +kernel
theorem d_dropName_46 : decode prog_1_method_32_code 46 = .ok (.ireturn, 1) := by decide +kernel
theorem d_dropName_47 : decode prog_1_method_32_code 47 = .ok (.aload_n 3, 1) := by decide +kernel
theorem d_dropName_48 : decode prog_1_method_32_code 48 = .ok (.getfield 108, 3) := by decide +kernel
theorem d_dropName_51 : decode prog_1_method_32_code 51 = .ok (.ifnull 14, 3) := by decide +kernel
theorem d_dropName_54 : decode prog_1_method_32_code 54 = .ok (.aload_n 3, 1) := by decide +kernel
theorem d_dropName_55 : decode prog_1_method_32_code 55 = .ok (.getfield 108, 3) := by decide +kernel
theorem d_dropName_58 : decode prog_1_method_32_code 58 = .ok (.aload_n 3, 1) := by decide +kernel
theorem d_dropName_59 : decode prog_1_method_32_code 59 = .ok (.getfield 113, 3) := by decide +kernel
theorem d_dropName_62 : decode prog_1_method_32_code 62 = .ok (.invokevirtual 190, 3) := by decide +kernel
theorem d_dropName_65 : decode prog_1_method_32_code 65 = .ok (.aload_n 3, 1) := by decide +kernel
theorem d_dropName_66 : decode prog_1_method_32_code 66 = .ok (.getfield 105, 3) := by decide +kernel
theorem d_dropName_69 : decode prog_1_method_32_code 69 = .ok (.iconst 2, 1) := by decide +kernel
theorem d_dropName_70 : decode prog_1_method_32_code 70 = .ok (.if_icmp .ne 7, 3) := by decide +kernel
theorem d_dropName_73 : decode prog_1_method_32_code 73 = .ok (.iconst 1, 1) := by decide +kernel
theorem d_dropName_74 : decode prog_1_method_32_code 74 = .ok (.goto 4, 3) := by decide +kernel
theorem d_dropName_77 : decode prog_1_method_32_code 77 = .ok (.iconst 0, 1) := by decide +kernel
theorem d_dropName_78 : decode prog_1_method_32_code 78 = .ok (.ireturn, 1) := by decide +kernel
theorem d_Pipe_endClosed_0 : decode prog_4_method_5_code 0 = .ok (.iload_n 1, 1) := by decide +kernel
theorem d_Pipe_endClosed_1 : decode prog_4_method_5_code 1 = .ok (.ifCond .eq 11, 3) := by decide +kernel
theorem d_Pipe_endClosed_4 : decode prog_4_method_5_code 4 = .ok (.aload_n 0, 1) := by decide +kernel
theorem d_Pipe_endClosed_5 : decode prog_4_method_5_code 5 = .ok (.iconst 0, 1) := by decide +kernel
theorem d_Pipe_endClosed_6 : decode prog_4_method_5_code 6 = .ok (.putfield 25, 3) := by decide +kernel
theorem d_Pipe_endClosed_9 : decode prog_4_method_5_code 9 = .ok (.goto 8, 3) := by decide +kernel
theorem d_Pipe_endClosed_12 : decode prog_4_method_5_code 12 = .ok (.aload_n 0, 1) := by decide +kernel
theorem d_Pipe_endClosed_13 : decode prog_4_method_5_code 13 = .ok (.iconst 0, 1) := by decide +kernel
theorem d_Pipe_endClosed_14 : decode prog_4_method_5_code 14 = .ok (.putfield 29, 3) := by decide +kernel
theorem d_Pipe_endClosed_17 : decode prog_4_method_5_code 17 = .ok (.return_, 1) := by decide +kernel
theorem d_closeAll_0 : decode prog_1_method_6_code 0 = .ok (.iload_n 1, 1) := by decide +kernel
theorem d_closeAll_1 : decode prog_1_method_6_code 1 = .ok (.invokestatic 50, 3) := by decide +kernel
theorem d_closeAll_4 : decode prog_1_method_6_code 4 = .ok (.ifCond .ne 5, 3) := by decide +kernel
theorem d_closeAll_7 : decode prog_1_method_6_code 7 = .ok (.iconst (-1), 1) := by decide +kernel
theorem d_closeAll_8 : decode prog_1_method_6_code 8 = .ok (.ireturn, 1) := by decide +kernel
theorem d_closeAll_9 : decode prog_1_method_6_code 9 = .ok (.aload_n 0, 1) := by decide +kernel
theorem d_closeAll_10 : decode prog_1_method_6_code 10 = .ok (.iconst 0, 1) := by decide +kernel
theorem d_closeAll_11 : decode prog_1_method_6_code 11 = .ok (.putfield 32, 3) := by decide +kernel
theorem d_closeAll_14 : decode prog_1_method_6_code 14 = .ok (.iconst 0, 1) := by decide +kernel
theorem d_closeAll_15 : decode prog_1_method_6_code 15 = .ok (.istore_n 2, 1) := by decide +kernel
theorem d_closeAll_16 : decode prog_1_method_6_code 16 = .ok (.iload_n 2, 1) := by decide +kernel
theorem d_closeAll_17 : decode prog_1_method_6_code 17 = .ok (.bipush 16, 2) := by decide +kernel
theorem d_closeAll_19 : decode prog_1_method_6_code 19 = .ok (.if_icmp .ge 38, 3) := by decide +kernel
theorem d_closeAll_22 : decode prog_1_method_6_code 22 = .ok (.aload_n 0, 1) := by decide +kernel
theorem d_closeAll_23 : decode prog_1_method_6_code 23 = .ok (.iload_n 1, 1) := by decide +kernel
theorem d_closeAll_24 : decode prog_1_method_6_code 24 = .ok (.iload_n 2, 1) := by decide +kernel
theorem d_closeAll_25 : decode prog_1_method_6_code 25 = .ok (.invokevirtual 90, 3) := by decide +kernel
theorem d_closeAll_28 : decode prog_1_method_6_code 28 = .ok (.astore_n 3, 1) := by decide +kernel
theorem d_closeAll_29 : decode prog_1_method_6_code 29 = .ok (.aload_n 3, 1) := by decide +kernel
theorem d_closeAll_30 : decode prog_1_method_6_code 30 = .ok (.ifnull 21, 3) := by decide +kernel
theorem d_closeAll_33 : decode prog_1_method_6_code 33 = .ok (.aload_n 0, 1) := by decide +kernel
theorem d_closeAll_34 : decode prog_1_method_6_code 34 = .ok (.iload_n 1, 1) := by decide +kernel
theorem d_closeAll_35 : decode prog_1_method_6_code 35 = .ok (.iload_n 2, 1) := by decide +kernel
theorem d_closeAll_36 : decode prog_1_method_6_code 36 = .ok (.aload_n 3, 1) := by decide +kernel
theorem d_closeAll_37 : decode prog_1_method_6_code 37 = .ok (.invokevirtual 94, 3) := by decide +kernel
theorem d_closeAll_40 : decode prog_1_method_6_code 40 = .ok (.ifCond .eq 11, 3) := by decide +kernel
theorem d_closeAll_43 : decode prog_1_method_6_code 43 = .ok (.aload_n 0, 1) := by decide +kernel
theorem d_closeAll_44 : decode prog_1_method_6_code 44 = .ok (.aload_n 3, 1) := by decide +kernel
theorem d_closeAll_45 : decode prog_1_method_6_code 45 = .ok (.getfield 72, 3) := by decide +kernel
theorem d_closeAll_48 : decode prog_1_method_6_code 48 = .ok (.invokevirtual 98, 3) := by decide +kernel
theorem d_closeAll_51 : decode prog_1_method_6_code 51 = .ok (.iinc 2 1, 3) := by decide +kernel
theorem d_closeAll_54 : decode prog_1_method_6_code 54 = .ok (.goto (-38), 3) := by decide +kernel
theorem d_closeAll_57 : decode prog_1_method_6_code 57 = .ok (.aload_n 0, 1) := by decide +kernel
theorem d_closeAll_58 : decode prog_1_method_6_code 58 = .ok (.getfield 32, 3) := by decide +kernel
theorem d_closeAll_61 : decode prog_1_method_6_code 61 = .ok (.ireturn, 1) := by decide +kernel
theorem d_keepLeft_0 : decode prog_1_method_33_code 0 = .ok (.aload_n 0, 1) := by decide +kernel
theorem d_keepLeft_1 : decode prog_1_method_33_code 1 = .ok (.getfield 32, 3) := by decide +kernel
theorem d_keepLeft_4 : decode prog_1_method_33_code 4 = .ok (.ifCond .lt 35, 3) := by decide +kernel
theorem d_keepLeft_7 : decode prog_1_method_33_code 7 = .ok (.aload_n 0, 1) := by decide +kernel
theorem d_keepLeft_8 : decode prog_1_method_33_code 8 = .ok (.getfield 32, 3) := by decide +kernel
theorem d_keepLeft_11 : decode prog_1_method_33_code 11 = .ok (.aload_n 0, 1) := by decide +kernel
theorem d_keepLeft_12 : decode prog_1_method_33_code 12 = .ok (.getfield 28, 3) := by decide +kernel
theorem d_keepLeft_15 : decode prog_1_method_33_code 15 = .ok (.arraylength, 1) := by decide +kernel
theorem d_keepLeft_16 : decode prog_1_method_33_code 16 = .ok (.if_icmp .ge 23, 3) := by decide +kernel
theorem d_keepLeft_19 : decode prog_1_method_33_code 19 = .ok (.aload_n 0, 1) := by decide +kernel
theorem d_keepLeft_20 : decode prog_1_method_33_code 20 = .ok (.getfield 28, 3) := by decide +kernel
theorem d_keepLeft_23 : decode prog_1_method_33_code 23 = .ok (.aload_n 0, 1) := by decide +kernel
theorem d_keepLeft_24 : decode prog_1_method_33_code 24 = .ok (.getfield 32, 3) := by decide +kernel
theorem d_keepLeft_27 : decode prog_1_method_33_code 27 = .ok (.iload_n 1, 1) := by decide +kernel
theorem d_keepLeft_28 : decode prog_1_method_33_code 28 = .ok (.iastore, 1) := by decide +kernel
theorem d_keepLeft_29 : decode prog_1_method_33_code 29 = .ok (.aload_n 0, 1) := by decide +kernel
theorem d_keepLeft_30 : decode prog_1_method_33_code 30 = .ok (.dup, 1) := by decide +kernel
theorem d_keepLeft_31 : decode prog_1_method_33_code 31 = .ok (.getfield 32, 3) := by decide +kernel
theorem d_keepLeft_34 : decode prog_1_method_33_code 34 = .ok (.iconst 1, 1) := by decide +kernel
theorem d_keepLeft_35 : decode prog_1_method_33_code 35 = .ok (.iadd, 1) := by decide +kernel
theorem d_keepLeft_36 : decode prog_1_method_33_code 36 = .ok (.putfield 32, 3) := by decide +kernel
theorem d_keepLeft_39 : decode prog_1_method_33_code 39 = .ok (.return_, 1) := by decide +kernel
theorem d_left_0 : decode prog_1_method_7_code 0 = .ok (.iload_n 1, 1) := by decide +kernel
theorem d_left_1 : decode prog_1_method_7_code 1 = .ok (.ifCond .lt 20, 3) := by decide +kernel
theorem d_left_4 : decode prog_1_method_7_code 4 = .ok (.iload_n 1, 1) := by decide +kernel
theorem d_left_5 : decode prog_1_method_7_code 5 = .ok (.aload_n 0, 1) := by decide +kernel
theorem d_left_6 : decode prog_1_method_7_code 6 = .ok (.getfield 32, 3) := by decide +kernel
theorem d_left_9 : decode prog_1_method_7_code 9 = .ok (.if_icmp .ge 12, 3) := by decide +kernel
theorem d_left_12 : decode prog_1_method_7_code 12 = .ok (.iload_n 1, 1) := by decide +kernel
theorem d_left_13 : decode prog_1_method_7_code 13 = .ok (.aload_n 0, 1) := by decide +kernel
theorem d_left_14 : decode prog_1_method_7_code 14 = .ok (.getfield 28, 3) := by decide +kernel
theorem d_left_17 : decode prog_1_method_7_code 17 = .ok (.arraylength, 1) := by decide +kernel
theorem d_left_18 : decode prog_1_method_7_code 18 = .ok (.if_icmp .lt 5, 3) := by decide +kernel
theorem d_left_21 : decode prog_1_method_7_code 21 = .ok (.iconst 0, 1) := by decide +kernel
theorem d_left_22 : decode prog_1_method_7_code 22 = .ok (.ireturn, 1) := by decide +kernel
theorem d_left_23 : decode prog_1_method_7_code 23 = .ok (.aload_n 0, 1) := by decide +kernel
theorem d_left_24 : decode prog_1_method_7_code 24 = .ok (.getfield 28, 3) := by decide +kernel
theorem d_left_27 : decode prog_1_method_7_code 27 = .ok (.iload_n 1, 1) := by decide +kernel
theorem d_left_28 : decode prog_1_method_7_code 28 = .ok (.iaload, 1) := by decide +kernel
theorem d_left_29 : decode prog_1_method_7_code 29 = .ok (.ireturn, 1) := by decide +kernel
theorem d_copy_0 : decode prog_1_method_8_code 0 = .ok (.iload_n 1, 1) := by decide +kernel
theorem d_copy_1 : decode prog_1_method_8_code 1 = .ok (.invokestatic 50, 3) := by decide +kernel
theorem d_copy_4 : decode prog_1_method_8_code 4 = .ok (.ifCond .eq 15, 3) := by decide +kernel
theorem d_copy_7 : decode prog_1_method_8_code 7 = .ok (.iload_n 2, 1) := by decide +kernel
theorem d_copy_8 : decode prog_1_method_8_code 8 = .ok (.invokestatic 50, 3) := by decide +kernel
theorem d_copy_11 : decode prog_1_method_8_code 11 = .ok (.ifCond .eq 8, 3) := by decide +kernel
theorem d_copy_14 : decode prog_1_method_8_code 14 = .ok (.iload_n 1, 1) := by decide +kernel
theorem d_copy_15 : decode prog_1_method_8_code 15 = .ok (.iload_n 2, 1) := by decide +kernel
theorem d_copy_16 : decode prog_1_method_8_code 16 = .ok (.if_icmp .ne 5, 3) := by decide +kernel
theorem d_copy_19 : decode prog_1_method_8_code 19 = .ok (.iconst (-1), 1) := by decide +kernel
theorem d_copy_20 : decode prog_1_method_8_code 20 = .ok (.ireturn, 1) := by decide +kernel
theorem d_copy_21 : decode prog_1_method_8_code 21 = .ok (.aload_n 0, 1) := by decide +kernel
theorem d_copy_22 : decode prog_1_method_8_code 22 = .ok (.iload_n 1, 1) := by decide +kernel
theorem d_copy_23 : decode prog_1_method_8_code 23 = .ok (.invokevirtual 101, 3) := by decide +kernel
theorem d_copy_26 : decode prog_1_method_8_code 26 = .ok (.ifCond .le 5, 3) := by decide +kernel
theorem d_copy_29 : decode prog_1_method_8_code 29 = .ok (.iconst (-1), 1) := by decide +kernel
theorem d_copy_30 : decode prog_1_method_8_code 30 = .ok (.ireturn, 1) := by decide +kernel
theorem d_copy_31 : decode prog_1_method_8_code 31 = .ok (.iconst 0, 1) := by decide +kernel
theorem d_copy_32 : decode prog_1_method_8_code 32 = .ok (.istore_n 3, 1) := by decide +kernel
theorem d_copy_33 : decode prog_1_method_8_code 33 = .ok (.iload_n 3, 1) := by decide +kernel
theorem d_copy_34 : decode prog_1_method_8_code 34 = .ok (.bipush 16, 2) := by decide +kernel
theorem d_copy_36 : decode prog_1_method_8_code 36 = .ok (.if_icmp .ge 30, 3) := by decide +kernel
theorem d_copy_39 : decode prog_1_method_8_code 39 = .ok (.aload_n 0, 1) := by decide +kernel
theorem d_copy_40 : decode prog_1_method_8_code 40 = .ok (.iload_n 2, 1) := by decide +kernel
theorem d_copy_41 : decode prog_1_method_8_code 41 = .ok (.iload_n 3, 1) := by decide +kernel
theorem d_copy_42 : decode prog_1_method_8_code 42 = .ok (.invokevirtual 90, 3) := by decide +kernel
theorem d_copy_45 : decode prog_1_method_8_code 45 = .ok (.astore 4, 2) := by decide +kernel
theorem d_copy_47 : decode prog_1_method_8_code 47 = .ok (.aload 4, 2) := by decide +kernel
theorem d_copy_49 : decode prog_1_method_8_code 49 = .ok (.ifnull 11, 3) := by decide +kernel
theorem d_copy_52 : decode prog_1_method_8_code 52 = .ok (.aload_n 0, 1) := by decide +kernel
theorem d_copy_53 : decode prog_1_method_8_code 53 = .ok (.iload_n 1, 1) := by decide +kernel
theorem d_copy_54 : decode prog_1_method_8_code 54 = .ok (.iload_n 3, 1) := by decide +kernel
theorem d_copy_55 : decode prog_1_method_8_code 55 = .ok (.aload 4, 2) := by decide +kernel
theorem d_copy_57 : decode prog_1_method_8_code 57 = .ok (.invokevirtual 75, 3) := by decide +kernel
theorem d_copy_60 : decode prog_1_method_8_code 60 = .ok (.iinc 3 1, 3) := by decide +kernel
theorem d_copy_63 : decode prog_1_method_8_code 63 = .ok (.goto (-30), 3) := by decide +kernel
theorem d_copy_66 : decode prog_1_method_8_code 66 = .ok (.aload_n 0, 1) := by decide +kernel
theorem d_copy_67 : decode prog_1_method_8_code 67 = .ok (.iload_n 1, 1) := by decide +kernel
theorem d_copy_68 : decode prog_1_method_8_code 68 = .ok (.invokevirtual 101, 3) := by decide +kernel
theorem d_copy_71 : decode prog_1_method_8_code 71 = .ok (.ireturn, 1) := by decide +kernel
theorem d_usedDescriptors_0 : decode prog_1_method_27_code 0 = .ok (.iconst 0, 1) := by decide +kernel
theorem d_usedDescriptors_1 : decode prog_1_method_27_code 1 = .ok (.istore_n 2, 1) := by decide +kernel
theorem d_usedDescriptors_2 : decode prog_1_method_27_code 2 = .ok (.iconst 0, 1) := by decide +kernel
theorem d_usedDescriptors_3 : decode prog_1_method_27_code 3 = .ok (.istore_n 3, 1) := by decide +kernel
theorem d_usedDescriptors_4 : decode prog_1_method_27_code 4 = .ok (.iload_n 3, 1) := by decide +kernel
theorem d_usedDescriptors_5 : decode prog_1_method_27_code 5 = .ok (.bipush 16, 2) := by decide +kernel
theorem d_usedDescriptors_7 : decode prog_1_method_27_code 7 = .ok (.if_icmp .ge 21, 3) := by decide +kernel
theorem d_usedDescriptors_10 : decode prog_1_method_27_code 10 = .ok (.aload_n 0, 1) := by decide +kernel
theorem d_usedDescriptors_11 : decode prog_1_method_27_code 11 = .ok (.iload_n 1, 1) := by decide +kernel
theorem d_usedDescriptors_12 : decode prog_1_method_27_code 12 = .ok (.iload_n 3, 1) := by decide +kernel
theorem d_usedDescriptors_13 : decode prog_1_method_27_code 13 = .ok (.invokevirtual 90, 3) := by decide +kernel
theorem d_usedDescriptors_16 : decode prog_1_method_27_code 16 = .ok (.ifnull 6, 3) := by decide +kernel
theorem d_usedDescriptors_19 : decode prog_1_method_27_code 19 = .ok (.iinc 2 1, 3) := by decide +kernel
theorem d_usedDescriptors_22 : decode prog_1_method_27_code 22 = .ok (.iinc 3 1, 3) := by decide +kernel
theorem d_usedDescriptors_25 : decode prog_1_method_27_code 25 = .ok (.goto (-21), 3) := by decide +kernel
theorem d_usedDescriptors_28 : decode prog_1_method_27_code 28 = .ok (.iload_n 2, 1) := by decide +kernel
theorem d_usedDescriptors_29 : decode prog_1_method_27_code 29 = .ok (.ireturn, 1) := by decide +kernel
theorem d_about_0 : decode prog_1_method_9_code 0 = .ok (.aload_n 0, 1) := by decide +kernel
theorem d_about_1 : decode prog_1_method_9_code 1 = .ok (.iload_n 1, 1) := by decide +kernel
theorem d_about_2 : decode prog_1_method_9_code 2 = .ok (.iload_n 2, 1) := by decide +kernel
theorem d_about_3 : decode prog_1_method_9_code 3 = .ok (.invokevirtual 90, 3) := by decide +kernel
theorem d_about_6 : decode prog_1_method_9_code 6 = .ok (.astore 4, 2) := by decide +kernel
theorem d_about_8 : decode prog_1_method_9_code 8 = .ok (.aload 4, 2) := by decide +kernel
theorem d_about_10 : decode prog_1_method_9_code 10 = .ok (.ifnonnull 5, 3) := by decide +kernel
theorem d_about_13 : decode prog_1_method_9_code 13 = .ok (.iconst (-1), 1) := by decide +kernel
theorem d_about_14 : decode prog_1_method_9_code 14 = .ok (.ireturn, 1) := by decide +kernel
theorem d_about_15 : decode prog_1_method_9_code 15 = .ok (.iload_n 3, 1) := by decide +kernel
theorem d_about_16 : decode prog_1_method_9_code 16 = .ok (.tableswitch 111 0 6 #[44, 50, 75, 84, 93, 99, 105], 44) := by decide +kernel
theorem d_about_60 : decode prog_1_method_9_code 60 = .ok (.aload 4, 2) := by decide +kernel
theorem d_about_62 : decode prog_1_method_9_code 62 = .ok (.getfield 105, 3) := by decide +kernel
theorem d_about_65 : decode prog_1_method_9_code 65 = .ok (.ireturn, 1) := by decide +kernel
theorem d_about_66 : decode prog_1_method_9_code 66 = .ok (.aload 4, 2) := by decide +kernel
theorem d_about_68 : decode prog_1_method_9_code 68 = .ok (.getfield 108, 3) := by decide +kernel
theorem d_about_71 : decode prog_1_method_9_code 71 = .ok (.ifnonnull 11, 3) := by decide +kernel
theorem d_about_74 : decode prog_1_method_9_code 74 = .ok (.aload 4, 2) := by decide +kernel
theorem d_about_76 : decode prog_1_method_9_code 76 = .ok (.getfield 72, 3) := by decide +kernel
theorem d_about_79 : decode prog_1_method_9_code 79 = .ok (.goto 11, 3) := by decide +kernel
theorem d_about_82 : decode prog_1_method_9_code 82 = .ok (.aload 4, 2) := by decide +kernel
theorem d_about_84 : decode prog_1_method_9_code 84 = .ok (.getfield 108, 3) := by decide +kernel
theorem d_about_87 : decode prog_1_method_9_code 87 = .ok (.getfield 112, 3) := by decide +kernel
theorem d_about_90 : decode prog_1_method_9_code 90 = .ok (.ireturn, 1) := by decide +kernel
theorem d_about_91 : decode prog_1_method_9_code 91 = .ok (.aload 4, 2) := by decide +kernel
theorem d_about_93 : decode prog_1_method_9_code 93 = .ok (.getfield 113, 3) := by decide +kernel
theorem d_about_96 : decode prog_1_method_9_code 96 = .ok (.invokestatic 117, 3) := by decide +kernel
theorem d_about_99 : decode prog_1_method_9_code 99 = .ok (.ireturn, 1) := by decide +kernel
theorem d_about_100 : decode prog_1_method_9_code 100 = .ok (.aload 4, 2) := by decide +kernel
theorem d_about_102 : decode prog_1_method_9_code 102 = .ok (.getfield 121, 3) := by decide +kernel
theorem d_about_105 : decode prog_1_method_9_code 105 = .ok (.invokestatic 117, 3) := by decide +kernel
theorem d_about_108 : decode prog_1_method_9_code 108 = .ok (.ireturn, 1) := by decide +kernel
theorem d_about_109 : decode prog_1_method_9_code 109 = .ok (.aload 4, 2) := by decide +kernel
theorem d_about_111 : decode prog_1_method_9_code 111 = .ok (.getfield 124, 3) := by decide +kernel
theorem d_about_114 : decode prog_1_method_9_code 114 = .ok (.ireturn, 1) := by decide +kernel
theorem d_about_115 : decode prog_1_method_9_code 115 = .ok (.aload 4, 2) := by decide +kernel
theorem d_about_117 : decode prog_1_method_9_code 117 = .ok (.getfield 127, 3) := by decide +kernel
theorem d_about_120 : decode prog_1_method_9_code 120 = .ok (.ireturn, 1) := by decide +kernel
theorem d_about_121 : decode prog_1_method_9_code 121 = .ok (.aload 4, 2) := by decide +kernel
theorem d_about_123 : decode prog_1_method_9_code 123 = .ok (.getfield 79, 3) := by decide +kernel
theorem d_about_126 : decode prog_1_method_9_code 126 = .ok (.ireturn, 1) := by decide +kernel
theorem d_about_127 : decode prog_1_method_9_code 127 = .ok (.iconst (-1), 1) := by decide +kernel
theorem d_about_128 : decode prog_1_method_9_code 128 = .ok (.ireturn, 1) := by decide +kernel
theorem d_oneIf_0 : decode prog_1_method_24_code 0 = .ok (.iload_n 0, 1) := by decide +kernel
theorem d_oneIf_1 : decode prog_1_method_24_code 1 = .ok (.ifCond .eq 7, 3) := by decide +kernel
theorem d_oneIf_4 : decode prog_1_method_24_code 4 = .ok (.iconst 1, 1) := by decide +kernel
theorem d_oneIf_5 : decode prog_1_method_24_code 5 = .ok (.goto 4, 3) := by decide +kernel
theorem d_oneIf_8 : decode prog_1_method_24_code 8 = .ok (.iconst 0, 1) := by decide +kernel
theorem d_oneIf_9 : decode prog_1_method_24_code 9 = .ok (.ireturn, 1) := by decide +kernel
theorem d_move_0 : decode prog_1_method_10_code 0 = .ok (.aload_n 0, 1) := by decide +kernel
theorem d_move_1 : decode prog_1_method_10_code 1 = .ok (.iload_n 1, 1) := by decide +kernel
theorem d_move_2 : decode prog_1_method_10_code 2 = .ok (.iload_n 2, 1) := by decide +kernel
theorem d_move_3 : decode prog_1_method_10_code 3 = .ok (.invokevirtual 90, 3) := by decide +kernel
theorem d_move_6 : decode prog_1_method_10_code 6 = .ok (.astore 4, 2) := by decide +kernel
theorem d_move_8 : decode prog_1_method_10_code 8 = .ok (.aload 4, 2) := by decide +kernel
theorem d_move_10 : decode prog_1_method_10_code 10 = .ok (.ifnull 16, 3) := by decide +kernel
theorem d_move_13 : decode prog_1_method_10_code 13 = .ok (.aload 4, 2) := by decide +kernel
theorem d_move_15 : decode prog_1_method_10_code 15 = .ok (.getfield 105, 3) := by decide +kernel
theorem d_move_18 : decode prog_1_method_10_code 18 = .ok (.iconst 2, 1) := by decide +kernel
theorem d_move_19 : decode prog_1_method_10_code 19 = .ok (.if_icmp .ne 7, 3) := by decide +kernel
theorem d_move_22 : decode prog_1_method_10_code 22 = .ok (.iload_n 3, 1) := by decide +kernel
theorem d_move_23 : decode prog_1_method_10_code 23 = .ok (.ifCond .ge 5, 3) := by decide +kernel
theorem d_move_26 : decode prog_1_method_10_code 26 = .ok (.iconst 0, 1) := by decide +kernel
theorem d_move_27 : decode prog_1_method_10_code 27 = .ok (.ireturn, 1) := by decide +kernel
theorem d_move_28 : decode prog_1_method_10_code 28 = .ok (.aload 4, 2) := by decide +kernel
theorem d_move_30 : decode prog_1_method_10_code 30 = .ok (.iload_n 3, 1) := by decide +kernel
theorem d_move_31 : decode prog_1_method_10_code 31 = .ok (.putfield 124, 3) := by decide +kernel
theorem d_move_34 : decode prog_1_method_10_code 34 = .ok (.iconst 1, 1) := by decide +kernel
theorem d_move_35 : decode prog_1_method_10_code 35 = .ok (.ireturn, 1) := by decide +kernel
theorem d_put_0 : decode prog_1_method_11_code 0 = .ok (.aload_n 0, 1) := by decide +kernel
theorem d_put_1 : decode prog_1_method_11_code 1 = .ok (.iload_n 1, 1) := by decide +kernel
theorem d_put_2 : decode prog_1_method_11_code 2 = .ok (.iload_n 2, 1) := by decide +kernel
theorem d_put_3 : decode prog_1_method_11_code 3 = .ok (.invokevirtual 90, 3) := by decide +kernel
theorem d_put_6 : decode prog_1_method_11_code 6 = .ok (.astore 4, 2) := by decide +kernel
theorem d_put_8 : decode prog_1_method_11_code 8 = .ok (.aload 4, 2) := by decide +kernel
theorem d_put_10 : decode prog_1_method_11_code 10 = .ok (.ifnull 11, 3) := by decide +kernel
theorem d_put_13 : decode prog_1_method_11_code 13 = .ok (.aload 4, 2) := by decide +kernel
theorem d_put_15 : decode prog_1_method_11_code 15 = .ok (.getfield 121, 3) := by decide +kernel
theorem d_put_18 : decode prog_1_method_11_code 18 = .ok (.ifCond .ne 5, 3) := by decide +kernel
theorem d_put_21 : decode prog_1_method_11_code 21 = .ok (.iconst (-1), 1) := by decide +kernel
theorem d_put_22 : decode prog_1_method_11_code 22 = .ok (.ireturn, 1) := by decide +kernel
theorem d_put_23 : decode prog_1_method_11_code 23 = .ok (.aload 4, 2) := by decide +kernel
theorem d_put_25 : decode prog_1_method_11_code 25 = .ok (.getfield 108, 3) := by decide +kernel
theorem d_put_28 : decode prog_1_method_11_code 28 = .ok (.astore 5, 2) := by decide +kernel
theorem d_put_30 : decode prog_1_method_11_code 30 = .ok (.aload 5, 2) := by decide +kernel
theorem d_put_32 : decode prog_1_method_11_code 32 = .ok (.ifnonnull 5, 3) := by decide +kernel
theorem d_put_35 : decode prog_1_method_11_code 35 = .ok (.iconst (-1), 1) := by decide +kernel
theorem d_put_36 : decode prog_1_method_11_code 36 = .ok (.ireturn, 1) := by decide +kernel
theorem d_put_37 : decode prog_1_method_11_code 37 = .ok (.aload 5, 2) := by decide +kernel
theorem d_put_39 : decode prog_1_method_11_code 39 = .ok (.getfield 130, 3) := by decide +kernel
theorem d_put_42 : decode prog_1_method_11_code 42 = .ok (.ifCond .ne 6, 3) := by decide +kernel
theorem d_put_45 : decode prog_1_method_11_code 45 = .ok (.bipush (-2), 2) := by decide +kernel
theorem d_put_47 : decode prog_1_method_11_code 47 = .ok (.ireturn, 1) := by decide +kernel
theorem d_put_48 : decode prog_1_method_11_code 48 = .ok (.aload 5, 2) := by decide +kernel
theorem d_put_50 : decode prog_1_method_11_code 50 = .ok (.invokevirtual 133, 3) := by decide +kernel
theorem d_put_53 : decode prog_1_method_11_code 53 = .ok (.ifCond .eq 6, 3) := by decide +kernel
theorem d_put_56 : decode prog_1_method_11_code 56 = .ok (.bipush (-3), 2) := by decide +kernel
theorem d_put_58 : decode prog_1_method_11_code 58 = .ok (.ireturn, 1) := by decide +kernel
theorem d_put_59 : decode prog_1_method_11_code 59 = .ok (.aload 5, 2) := by decide +kernel
theorem d_put_61 : decode prog_1_method_11_code 61 = .ok (.iload_n 3, 1) := by decide +kernel
theorem d_put_62 : decode prog_1_method_11_code 62 = .ok (.invokevirtual 137, 3) := by decide +kernel
theorem d_put_65 : decode prog_1_method_11_code 65 = .ok (.iconst 0, 1) := by decide +kernel
theorem d_put_66 : decode prog_1_method_11_code 66 = .ok (.ireturn, 1) := by decide +kernel
theorem d_Pipe_isFull_0 : decode prog_4_method_4_code 0 = .ok (.aload_n 0, 1) := by decide +kernel
theorem d_Pipe_isFull_1 : decode prog_4_method_4_code 1 = .ok (.getfield 22, 3) := by decide +kernel
theorem d_Pipe_isFull_4 : decode prog_4_method_4_code 4 = .ok (.sipush 512, 3) := by decide +kernel
theorem d_Pipe_isFull_7 : decode prog_4_method_4_code 7 = .ok (.if_icmp .lt 7, 3) := by decide +kernel
theorem d_Pipe_isFull_10 : decode prog_4_method_4_code 10 = .ok (.iconst 1, 1) := by decide +kernel
theorem d_Pipe_isFull_11 : decode prog_4_method_4_code 11 = .ok (.goto 4, 3) := by decide +kernel
theorem d_Pipe_isFull_14 : decode prog_4_method_4_code 14 = .ok (.iconst 0, 1) := by decide +kernel
theorem d_Pipe_isFull_15 : decode prog_4_method_4_code 15 = .ok (.ireturn, 1) := by decide +kernel
theorem d_Pipe_addLast_0 : decode prog_4_method_6_code 0 = .ok (.aload_n 0, 1) := by decide +kernel
theorem d_Pipe_addLast_1 : decode prog_4_method_6_code 1 = .ok (.getfield 9, 3) := by decide +kernel
theorem d_Pipe_addLast_4 : decode prog_4_method_6_code 4 = .ok (.aload_n 0, 1) := by decide +kernel
theorem d_Pipe_addLast_5 : decode prog_4_method_6_code 5 = .ok (.getfield 19, 3) := by decide +kernel
theorem d_Pipe_addLast_8 : decode prog_4_method_6_code 8 = .ok (.aload_n 0, 1) := by decide +kernel
theorem d_Pipe_addLast_9 : decode prog_4_method_6_code 9 = .ok (.getfield 22, 3) := by decide +kernel
theorem d_Pipe_addLast_12 : decode prog_4_method_6_code 12 = .ok (.iadd, 1) := by decide +kernel
theorem d_Pipe_addLast_13 : decode prog_4_method_6_code 13 = .ok (.sipush 511, 3) := by decide +kernel
theorem d_Pipe_addLast_16 : decode prog_4_method_6_code 16 = .ok (.iand, 1) := by decide +kernel
theorem d_Pipe_addLast_17 : decode prog_4_method_6_code 17 = .ok (.iload_n 1, 1) := by decide +kernel
theorem d_Pipe_addLast_18 : decode prog_4_method_6_code 18 = .ok (.i2b, 1) := by decide +kernel
theorem d_Pipe_addLast_19 : decode prog_4_method_6_code 19 = .ok (.bastore, 1) := by decide +kernel
theorem d_Pipe_addLast_20 : decode prog_4_method_6_code 20 = .ok (.aload_n 0, 1) := by decide +kernel
theorem d_Pipe_addLast_21 : decode prog_4_method_6_code 21 = .ok (.dup, 1) := by decide +kernel
theorem d_Pipe_addLast_22 : decode prog_4_method_6_code 22 = .ok (.getfield 22, 3) := by decide +kernel
theorem d_Pipe_addLast_25 : decode prog_4_method_6_code 25 = .ok (.iconst 1, 1) := by decide +kernel
theorem d_Pipe_addLast_26 : decode prog_4_method_6_code 26 = .ok (.iadd, 1) := by decide +kernel
theorem d_Pipe_addLast_27 : decode prog_4_method_6_code 27 = .ok (.putfield 22, 3) := by decide +kernel
theorem d_Pipe_addLast_30 : decode prog_4_method_6_code 30 = .ok (.return_, 1) := by decide +kernel
theorem d_take_0 : decode prog_1_method_12_code 0 = .ok (.aload_n 0, 1) := by decide +kernel
theorem d_take_1 : decode prog_1_method_12_code 1 = .ok (.iload_n 1, 1) := by decide +kernel
theorem d_take_2 : decode prog_1_method_12_code 2 = .ok (.iload_n 2, 1) := by decide +kernel
theorem d_take_3 : decode prog_1_method_12_code 3 = .ok (.invokevirtual 90, 3) := by decide +kernel
theorem d_take_6 : decode prog_1_method_12_code 6 = .ok (.astore_n 3, 1) := by decide +kernel
theorem d_take_7 : decode prog_1_method_12_code 7 = .ok (.aload_n 3, 1) := by decide +kernel
theorem d_take_8 : decode prog_1_method_12_code 8 = .ok (.ifnull 10, 3) := by decide +kernel
theorem d_take_11 : decode prog_1_method_12_code 11 = .ok (.aload_n 3, 1) := by decide +kernel
theorem d_take_12 : decode prog_1_method_12_code 12 = .ok (.getfield 113, 3) := by decide +kernel
theorem d_take_15 : decode prog_1_method_12_code 15 = .ok (.ifCond .ne 5, 3) := by decide +kernel
theorem d_take_18 : decode prog_1_method_12_code 18 = .ok (.iconst (-1), 1) := by decide +kernel
theorem d_take_19 : decode prog_1_method_12_code 19 = .ok (.ireturn, 1) := by decide +kernel
theorem d_take_20 : decode prog_1_method_12_code 20 = .ok (.aload_n 3, 1) := by decide +kernel
theorem d_take_21 : decode prog_1_method_12_code 21 = .ok (.getfield 108, 3) := by decide +kernel
theorem d_take_24 : decode prog_1_method_12_code 24 = .ok (.astore 4, 2) := by decide +kernel
theorem d_take_26 : decode prog_1_method_12_code 26 = .ok (.aload 4, 2) := by decide +kernel
theorem d_take_28 : decode prog_1_method_12_code 28 = .ok (.ifnonnull 5, 3) := by decide +kernel
theorem d_take_31 : decode prog_1_method_12_code 31 = .ok (.iconst (-1), 1) := by decide +kernel
theorem d_take_32 : decode prog_1_method_12_code 32 = .ok (.ireturn, 1) := by decide +kernel
theorem d_take_33 : decode prog_1_method_12_code 33 = .ok (.aload 4, 2) := by decide +kernel
theorem d_take_35 : decode prog_1_method_12_code 35 = .ok (.getfield 140, 3) := by decide +kernel
theorem d_take_38 : decode prog_1_method_12_code 38 = .ok (.ifCond .le 9, 3) := by decide +kernel
theorem d_take_41 : decode prog_1_method_12_code 41 = .ok (.aload 4, 2) := by decide +kernel
theorem d_take_43 : decode prog_1_method_12_code 43 = .ok (.invokevirtual 143, 3) := by decide +kernel
theorem d_take_46 : decode prog_1_method_12_code 46 = .ok (.ireturn, 1) := by decide +kernel
theorem d_take_47 : decode prog_1_method_12_code 47 = .ok (.aload 4, 2) := by decide +kernel
theorem d_take_49 : decode prog_1_method_12_code 49 = .ok (.getfield 147, 3) := by decide +kernel
theorem d_take_52 : decode prog_1_method_12_code 52 = .ok (.ifCond .eq 8, 3) := by decide +kernel
theorem d_take_55 : decode prog_1_method_12_code 55 = .ok (.bipush (-3), 2) := by decide +kernel
theorem d_take_57 : decode prog_1_method_12_code 57 = .ok (.goto 5, 3) := by decide +kernel
theorem d_take_60 : decode prog_1_method_12_code 60 = .ok (.bipush (-4), 2) := by decide +kernel
theorem d_take_62 : decode prog_1_method_12_code 62 = .ok (.ireturn, 1) := by decide +kernel
theorem d_Pipe_removeFirst_0 : decode prog_4_method_7_code 0 = .ok (.aload_n 0, 1) := by decide +kernel
theorem d_Pipe_removeFirst_1 : decode prog_4_method_7_code 1 = .ok (.getfield 9, 3) := by decide +kernel
theorem d_Pipe_removeFirst_4 : decode prog_4_method_7_code 4 = .ok (.aload_n 0, 1) := by decide +kernel
theorem d_Pipe_removeFirst_5 : decode prog_4_method_7_code 5 = .ok (.getfield 19, 3) := by decide +kernel
theorem d_Pipe_removeFirst_8 : decode prog_4_method_7_code 8 = .ok (.sipush 511, 3) := by decide +kernel
theorem d_Pipe_removeFirst_11 : decode prog_4_method_7_code 11 = .ok (.iand, 1) := by decide +kernel
theorem d_Pipe_removeFirst_12 : decode prog_4_method_7_code 12 = .ok (.baload, 1) := by decide +kernel
theorem d_Pipe_removeFirst_13 : decode prog_4_method_7_code 13 = .ok (.sipush 255, 3) := by decide +kernel
theorem d_Pipe_removeFirst_16 : decode prog_4_method_7_code 16 = .ok (.iand, 1) := by decide +kernel
theorem d_Pipe_removeFirst_17 : decode prog_4_method_7_code 17 = .ok (.istore_n 1, 1) := by decide +kernel
theorem d_Pipe_removeFirst_18 : decode prog_4_method_7_code 18 = .ok (.aload_n 0, 1) := by decide +kernel
theorem d_Pipe_removeFirst_19 : decode prog_4_method_7_code 19 = .ok (.aload_n 0, 1) := by decide +kernel
theorem d_Pipe_removeFirst_20 : decode prog_4_method_7_code 20 = .ok (.getfield 19, 3) := by decide +kernel
theorem d_Pipe_removeFirst_23 : decode prog_4_method_7_code 23 = .ok (.iconst 1, 1) := by decide +kernel
theorem d_Pipe_removeFirst_24 : decode prog_4_method_7_code 24 = .ok (.iadd, 1) := by decide +kernel
theorem d_Pipe_removeFirst_25 : decode prog_4_method_7_code 25 = .ok (.sipush 511, 3) := by decide +kernel
theorem d_Pipe_removeFirst_28 : decode prog_4_method_7_code 28 = .ok (.iand, 1) := by decide +kernel
theorem d_Pipe_removeFirst_29 : decode prog_4_method_7_code 29 = .ok (.putfield 19, 3) := by decide +kernel
theorem d_Pipe_removeFirst_32 : decode prog_4_method_7_code 32 = .ok (.aload_n 0, 1) := by decide +kernel
theorem d_Pipe_removeFirst_33 : decode prog_4_method_7_code 33 = .ok (.dup, 1) := by decide +kernel
theorem d_Pipe_removeFirst_34 : decode prog_4_method_7_code 34 = .ok (.getfield 22, 3) := by decide +kernel
theorem d_Pipe_removeFirst_37 : decode prog_4_method_7_code 37 = .ok (.iconst 1, 1) := by decide +kernel
theorem d_Pipe_removeFirst_38 : decode prog_4_method_7_code 38 = .ok (.isub, 1) := by decide +kernel
theorem d_Pipe_removeFirst_39 : decode prog_4_method_7_code 39 = .ok (.putfield 22, 3) := by decide +kernel
theorem d_Pipe_removeFirst_42 : decode prog_4_method_7_code 42 = .ok (.iload_n 1, 1) := by decide +kernel
theorem d_Pipe_removeFirst_43 : decode prog_4_method_7_code 43 = .ok (.ireturn, 1) := by decide +kernel
theorem d_ends_0 : decode prog_1_method_13_code 0 = .ok (.iload_n 1, 1) := by decide +kernel
theorem d_ends_1 : decode prog_1_method_13_code 1 = .ok (.ifCond .lt 12, 3) := by decide +kernel
theorem d_ends_4 : decode prog_1_method_13_code 4 = .ok (.iload_n 1, 1) := by decide +kernel
theorem d_ends_5 : decode prog_1_method_13_code 5 = .ok (.aload_n 0, 1) := by decide +kernel
theorem d_ends_6 : decode prog_1_method_13_code 6 = .ok (.getfield 23, 3) := by decide +kernel
theorem d_ends_9 : decode prog_1_method_13_code 9 = .ok (.arraylength, 1) := by decide +kernel
theorem d_ends_10 : decode prog_1_method_13_code 10 = .ok (.if_icmp .lt 5, 3) := by decide +kernel
theorem d_ends_13 : decode prog_1_method_13_code 13 = .ok (.iconst (-1), 1) := by decide +kernel
theorem d_ends_14 : decode prog_1_method_13_code 14 = .ok (.ireturn, 1) := by decide +kernel
theorem d_ends_15 : decode prog_1_method_13_code 15 = .ok (.aload_n 0, 1) := by decide +kernel
theorem d_ends_16 : decode prog_1_method_13_code 16 = .ok (.getfield 23, 3) := by decide +kernel
theorem d_ends_19 : decode prog_1_method_13_code 19 = .ok (.iload_n 1, 1) := by decide +kernel
theorem d_ends_20 : decode prog_1_method_13_code 20 = .ok (.aaload, 1) := by decide +kernel
theorem d_ends_21 : decode prog_1_method_13_code 21 = .ok (.astore_n 3, 1) := by decide +kernel
theorem d_ends_22 : decode prog_1_method_13_code 22 = .ok (.aload_n 3, 1) := by decide +kernel
theorem d_ends_23 : decode prog_1_method_13_code 23 = .ok (.ifnull 10, 3) := by decide +kernel
theorem d_ends_26 : decode prog_1_method_13_code 26 = .ok (.aload_n 3, 1) := by decide +kernel
theorem d_ends_27 : decode prog_1_method_13_code 27 = .ok (.invokevirtual 150, 3) := by decide +kernel
theorem d_ends_30 : decode prog_1_method_13_code 30 = .ok (.ifCond .eq 5, 3) := by decide +kernel
theorem d_ends_33 : decode prog_1_method_13_code 33 = .ok (.iconst (-1), 1) := by decide +kernel
theorem d_ends_34 : decode prog_1_method_13_code 34 = .ok (.ireturn, 1) := by decide +kernel
theorem d_ends_35 : decode prog_1_method_13_code 35 = .ok (.iload_n 2, 1) := by decide +kernel
theorem d_ends_36 : decode prog_1_method_13_code 36 = .ok (.tableswitch 49 0 2 #[28, 33, 41], 28) := by decide +kernel
theorem d_ends_64 : decode prog_1_method_13_code 64 = .ok (.aload_n 3, 1) := by decide +kernel
theorem d_ends_65 : decode prog_1_method_13_code 65 = .ok (.getfield 140, 3) := by decide +kernel
theorem d_ends_68 : decode prog_1_method_13_code 68 = .ok (.ireturn, 1) := by decide +kernel
theorem d_ends_69 : decode prog_1_method_13_code 69 = .ok (.aload_n 3, 1) := by decide +kernel
theorem d_ends_70 : decode prog_1_method_13_code 70 = .ok (.getfield 130, 3) := by decide +kernel
theorem d_ends_73 : decode prog_1_method_13_code 73 = .ok (.invokestatic 117, 3) := by decide +kernel
theorem d_ends_76 : decode prog_1_method_13_code 76 = .ok (.ireturn, 1) := by decide +kernel
theorem d_ends_77 : decode prog_1_method_13_code 77 = .ok (.aload_n 3, 1) := by decide +kernel
theorem d_ends_78 : decode prog_1_method_13_code 78 = .ok (.getfield 147, 3) := by decide +kernel
theorem d_ends_81 : decode prog_1_method_13_code 81 = .ok (.invokestatic 117, 3) := by decide +kernel
theorem d_ends_84 : decode prog_1_method_13_code 84 = .ok (.ireturn, 1) := by decide +kernel
theorem d_ends_85 : decode prog_1_method_13_code 85 = .ok (.iconst (-1), 1) := by decide +kernel
theorem d_ends_86 : decode prog_1_method_13_code 86 = .ok (.ireturn, 1) := by decide +kernel
theorem d_type_0 : decode prog_1_method_14_code 0 = .ok (.iload_n 1, 1) := by decide +kernel
theorem d_type_1 : decode prog_1_method_14_code 1 = .ok (.ifCond .lt 10, 3) := by decide +kernel
theorem d_type_4 : decode prog_1_method_14_code 4 = .ok (.iload_n 1, 1) := by decide +kernel
theorem d_type_5 : decode prog_1_method_14_code 5 = .ok (.sipush 255, 3) := by decide +kernel
theorem d_type_8 : decode prog_1_method_14_code 8 = .ok (.if_icmp .le 5, 3) := by decide +kernel
theorem d_type_11 : decode prog_1_method_14_code 11 = .ok (.iconst 0, 1) := by decide +kernel
theorem d_type_12 : decode prog_1_method_14_code 12 = .ok (.ireturn, 1) := by decide +kernel
theorem d_type_13 : decode prog_1_method_14_code 13 = .ok (.iload_n 1, 1) := by decide +kernel
theorem d_type_14 : decode prog_1_method_14_code 14 = .ok (.bipush 8, 2) := by decide +kernel
theorem d_type_16 : decode prog_1_method_14_code 16 = .ok (.if_icmp .eq 9, 3) := by decide +kernel
theorem d_type_19 : decode prog_1_method_14_code 19 = .ok (.iload_n 1, 1) := by decide +kernel
theorem d_type_20 : decode prog_1_method_14_code 20 = .ok (.bipush 127, 2) := by decide +kernel
theorem d_type_22 : decode prog_1_method_14_code 22 = .ok (.if_icmp .ne 20, 3) := by decide +kernel
theorem d_type_25 : decode prog_1_method_14_code 25 = .ok (.aload_n 0, 1) := by decide +kernel
theorem d_type_26 : decode prog_1_method_14_code 26 = .ok (.iconst 1, 1) := by decide +kernel
theorem d_type_27 : decode prog_1_method_14_code 27 = .ok (.aload_n 0, 1) := by decide +kernel
theorem d_type_28 : decode prog_1_method_14_code 28 = .ok (.getfield 39, 3) := by decide +kernel
theorem d_type_31 : decode prog_1_method_14_code 31 = .ok (.invokevirtual 153, 3) := by decide +kernel
theorem d_type_34 : decode prog_1_method_14_code 34 = .ok (.invokestatic 156, 3) := by decide +kernel
theorem d_type_37 : decode prog_1_method_14_code 37 = .ok (.invokevirtual 161, 3) := by decide +kernel
end
section
theorem d_type_40 : decode prog_1_method_14_code 40 = .ok (.iconst 1, 1) := by decide +kernel
theorem d_type_41 : decode prog_1_method_14_code 41 = .ok (.ireturn, 1) := by decide +kernel
theorem d_type_42 : decode prog_1_method_14_code 42 = .ok (.iload_n 1, 1) := by decide +kernel
theorem d_type_43 : decode prog_1_method_14_code 43 = .ok (.bipush 21, 2) := by decide +kernel
theorem d_type_45 : decode prog_1_method_14_code 45 = .ok (.if_icmp .ne 16, 3) := by decide +kernel
theorem d_type_48 : decode prog_1_method_14_code 48 = .ok (.aload_n 0, 1) := by decide +kernel
theorem d_type_49 : decode prog_1_method_14_code 49 = .ok (.aload_n 0, 1) := by decide +kernel
theorem d_type_50 : decode prog_1_method_14_code 50 = .ok (.getfield 39, 3) := by decide +kernel
theorem d_type_53 : decode prog_1_method_14_code 53 = .ok (.invokevirtual 153, 3) := by decide +kernel
theorem d_type_56 : decode prog_1_method_14_code 56 = .ok (.invokevirtual 161, 3) := by decide +kernel
theorem d_type_59 : decode prog_1_method_14_code 59 = .ok (.iconst 1, 1) := by decide +kernel
theorem d_type_60 : decode prog_1_method_14_code 60 = .ok (.ireturn, 1) := by decide +kernel
theorem d_type_61 : decode prog_1_method_14_code 61 = .ok (.aload_n 0, 1) := by decide +kernel
theorem d_type_62 : decode prog_1_method_14_code 62 = .ok (.getfield 39, 3) := by decide +kernel
theorem d_type_65 : decode prog_1_method_14_code 65 = .ok (.invokevirtual 164, 3) := by decide +kernel
theorem d_type_68 : decode prog_1_method_14_code 68 = .ok (.ifCond .eq 5, 3) := by decide +kernel
theorem d_type_71 : decode prog_1_method_14_code 71 = .ok (.iconst 0, 1) := by decide +kernel
theorem d_type_72 : decode prog_1_method_14_code 72 = .ok (.ireturn, 1) := by decide +kernel
theorem d_type_73 : decode prog_1_method_14_code 73 = .ok (.iload_n 1, 1) := by decide +kernel
theorem d_type_74 : decode prog_1_method_14_code 74 = .ok (.bipush 13, 2) := by decide +kernel
theorem d_type_76 : decode prog_1_method_14_code 76 = .ok (.if_icmp .ne 8, 3) := by decide +kernel
theorem d_type_79 : decode prog_1_method_14_code 79 = .ok (.bipush 10, 2) := by decide +kernel
theorem d_type_81 : decode prog_1_method_14_code 81 = .ok (.goto 4, 3) := by decide +kernel
theorem d_type_84 : decode prog_1_method_14_code 84 = .ok (.iload_n 1, 1) := by decide +kernel
theorem d_type_85 : decode prog_1_method_14_code 85 = .ok (.istore_n 2, 1) := by decide +kernel
theorem d_type_86 : decode prog_1_method_14_code 86 = .ok (.aload_n 0, 1) := by decide +kernel
theorem d_type_87 : decode prog_1_method_14_code 87 = .ok (.getfield 39, 3) := by decide +kernel
theorem d_type_90 : decode prog_1_method_14_code 90 = .ok (.iload_n 2, 1) := by decide +kernel
theorem d_type_91 : decode prog_1_method_14_code 91 = .ok (.invokevirtual 165, 3) := by decide +kernel
theorem d_type_94 : decode prog_1_method_14_code 94 = .ok (.aload_n 0, 1) := by decide +kernel
theorem d_type_95 : decode prog_1_method_14_code 95 = .ok (.getfield 46, 3) := by decide +kernel
theorem d_type_98 : decode prog_1_method_14_code 98 = .ok (.iload_n 2, 1) := by decide +kernel
theorem d_type_99 : decode prog_1_method_14_code 99 = .ok (.invokevirtual 168, 3) := by decide +kernel
theorem d_type_102 : decode prog_1_method_14_code 102 = .ok (.iconst 1, 1) := by decide +kernel
theorem d_type_103 : decode prog_1_method_14_code 103 = .ok (.ireturn, 1) := by decide +kernel
theorem d_Con_lineLength_0 : decode prog_2_method_3_code 0 = .ok (.aload_n 0, 1) := by decide +kernel
theorem d_Con_lineLength_1 : decode prog_2_method_3_code 1 = .ok (.getfield 15, 3) := by decide +kernel
theorem d_Con_lineLength_4 : decode prog_2_method_3_code 4 = .ok (.aload_n 0, 1) := by decide +kernel
theorem d_Con_lineLength_5 : decode prog_2_method_3_code 5 = .ok (.getfield 19, 3) := by decide +kernel
theorem d_Con_lineLength_8 : decode prog_2_method_3_code 8 = .ok (.isub, 1) := by decide +kernel
theorem d_Con_lineLength_9 : decode prog_2_method_3_code 9 = .ok (.ireturn, 1) := by decide +kernel
theorem d_takeBack_0 : decode prog_1_method_34_code 0 = .ok (.iconst 0, 1) := by decide +kernel
theorem d_takeBack_1 : decode prog_1_method_34_code 1 = .ok (.istore_n 2, 1) := by decide +kernel
theorem d_takeBack_2 : decode prog_1_method_34_code 2 = .ok (.iload_n 2, 1) := by decide +kernel
theorem d_takeBack_3 : decode prog_1_method_34_code 3 = .ok (.iload_n 1, 1) := by decide +kernel
theorem d_takeBack_4 : decode prog_1_method_34_code 4 = .ok (.if_icmp .ge 43, 3) := by decide +kernel
theorem d_takeBack_7 : decode prog_1_method_34_code 7 = .ok (.aload_n 0, 1) := by decide +kernel
theorem d_takeBack_8 : decode prog_1_method_34_code 8 = .ok (.getfield 39, 3) := by decide +kernel
theorem d_takeBack_11 : decode prog_1_method_34_code 11 = .ok (.invokevirtual 194, 3) := by decide +kernel
theorem d_takeBack_14 : decode prog_1_method_34_code 14 = .ok (.aload_n 0, 1) := by decide +kernel
theorem d_takeBack_15 : decode prog_1_method_34_code 15 = .ok (.getfield 46, 3) := by decide +kernel
theorem d_takeBack_18 : decode prog_1_method_34_code 18 = .ok (.bipush 8, 2) := by decide +kernel
theorem d_takeBack_20 : decode prog_1_method_34_code 20 = .ok (.invokevirtual 168, 3) := by decide +kernel
theorem d_takeBack_23 : decode prog_1_method_34_code 23 = .ok (.aload_n 0, 1) := by decide +kernel
theorem d_takeBack_24 : decode prog_1_method_34_code 24 = .ok (.getfield 46, 3) := by decide +kernel
theorem d_takeBack_27 : decode prog_1_method_34_code 27 = .ok (.bipush 32, 2) := by decide +kernel
theorem d_takeBack_29 : decode prog_1_method_34_code 29 = .ok (.invokevirtual 168, 3) := by decide +kernel
theorem d_takeBack_32 : decode prog_1_method_34_code 32 = .ok (.aload_n 0, 1) := by decide +kernel
theorem d_takeBack_33 : decode prog_1_method_34_code 33 = .ok (.getfield 46, 3) := by decide +kernel
theorem d_takeBack_36 : decode prog_1_method_34_code 36 = .ok (.bipush 8, 2) := by decide +kernel
theorem d_takeBack_38 : decode prog_1_method_34_code 38 = .ok (.invokevirtual 168, 3) := by decide +kernel
theorem d_takeBack_41 : decode prog_1_method_34_code 41 = .ok (.iinc 2 1, 3) := by decide +kernel
theorem d_takeBack_44 : decode prog_1_method_34_code 44 = .ok (.goto (-42), 3) := by decide +kernel
theorem d_takeBack_47 : decode prog_1_method_34_code 47 = .ok (.return_, 1) := by decide +kernel
theorem d_Con_dropLastOfLine_0 : decode prog_2_method_5_code 0 = .ok (.aload_n 0, 1) := by decide +kernel
theorem d_Con_dropLastOfLine_1 : decode prog_2_method_5_code 1 = .ok (.getfield 15, 3) := by decide +kernel
theorem d_Con_dropLastOfLine_4 : decode prog_2_method_5_code 4 = .ok (.aload_n 0, 1) := by decide +kernel
theorem d_Con_dropLastOfLine_5 : decode prog_2_method_5_code 5 = .ok (.getfield 19, 3) := by decide +kernel
theorem d_Con_dropLastOfLine_8 : decode prog_2_method_5_code 8 = .ok (.if_icmp .le 13, 3) := by decide +kernel
theorem d_Con_dropLastOfLine_11 : decode prog_2_method_5_code 11 = .ok (.aload_n 0, 1) := by decide +kernel
theorem d_Con_dropLastOfLine_12 : decode prog_2_method_5_code 12 = .ok (.dup, 1) := by decide +kernel
theorem d_Con_dropLastOfLine_13 : decode prog_2_method_5_code 13 = .ok (.getfield 15, 3) := by decide +kernel
theorem d_Con_dropLastOfLine_16 : decode prog_2_method_5_code 16 = .ok (.iconst 1, 1) := by decide +kernel
theorem d_Con_dropLastOfLine_17 : decode prog_2_method_5_code 17 = .ok (.isub, 1) := by decide +kernel
theorem d_Con_dropLastOfLine_18 : decode prog_2_method_5_code 18 = .ok (.putfield 15, 3) := by decide +kernel
theorem d_Con_dropLastOfLine_21 : decode prog_2_method_5_code 21 = .ok (.return_, 1) := by decide +kernel
theorem d_Scr_addLast_0 : decode prog_5_method_2_code 0 = .ok (.aload_n 0, 1) := by decide +kernel
theorem d_Scr_addLast_1 : decode prog_5_method_2_code 1 = .ok (.getfield 9, 3) := by decide +kernel
theorem d_Scr_addLast_4 : decode prog_5_method_2_code 4 = .ok (.aload_n 0, 1) := by decide +kernel
theorem d_Scr_addLast_5 : decode prog_5_method_2_code 5 = .ok (.getfield 15, 3) := by decide +kernel
theorem d_Scr_addLast_8 : decode prog_5_method_2_code 8 = .ok (.sipush 4095, 3) := by decide +kernel
theorem d_Scr_addLast_11 : decode prog_5_method_2_code 11 = .ok (.iand, 1) := by decide +kernel
theorem d_Scr_addLast_12 : decode prog_5_method_2_code 12 = .ok (.iload_n 1, 1) := by decide +kernel
theorem d_Scr_addLast_13 : decode prog_5_method_2_code 13 = .ok (.i2b, 1) := by decide +kernel
theorem d_Scr_addLast_14 : decode prog_5_method_2_code 14 = .ok (.bastore, 1) := by decide +kernel
theorem d_Scr_addLast_15 : decode prog_5_method_2_code 15 = .ok (.aload_n 0, 1) := by decide +kernel
theorem d_Scr_addLast_16 : decode prog_5_method_2_code 16 = .ok (.dup, 1) := by decide +kernel
theorem d_Scr_addLast_17 : decode prog_5_method_2_code 17 = .ok (.getfield 15, 3) := by decide +kernel
theorem d_Scr_addLast_20 : decode prog_5_method_2_code 20 = .ok (.iconst 1, 1) := by decide +kernel
theorem d_Scr_addLast_21 : decode prog_5_method_2_code 21 = .ok (.iadd, 1) := by decide +kernel
theorem d_Scr_addLast_22 : decode prog_5_method_2_code 22 = .ok (.putfield 15, 3) := by decide +kernel
theorem d_Scr_addLast_25 : decode prog_5_method_2_code 25 = .ok (.return_, 1) := by decide +kernel
theorem d_Con_isFull_0 : decode prog_2_method_2_code 0 = .ok (.aload_n 0, 1) := by decide +kernel
theorem d_Con_isFull_1 : decode prog_2_method_2_code 1 = .ok (.getfield 15, 3) := by decide +kernel
theorem d_Con_isFull_4 : decode prog_2_method_2_code 4 = .ok (.sipush 128, 3) := by decide +kernel
theorem d_Con_isFull_7 : decode prog_2_method_2_code 7 = .ok (.if_icmp .lt 7, 3) := by decide +kernel
theorem d_Con_isFull_10 : decode prog_2_method_2_code 10 = .ok (.iconst 1, 1) := by decide +kernel
theorem d_Con_isFull_11 : decode prog_2_method_2_code 11 = .ok (.goto 4, 3) := by decide +kernel
theorem d_Con_isFull_14 : decode prog_2_method_2_code 14 = .ok (.iconst 0, 1) := by decide +kernel
theorem d_Con_isFull_15 : decode prog_2_method_2_code 15 = .ok (.ireturn, 1) := by decide +kernel
theorem d_Con_addToLine_0 : decode prog_2_method_4_code 0 = .ok (.aload_n 0, 1) := by decide +kernel
theorem d_Con_addToLine_1 : decode prog_2_method_4_code 1 = .ok (.getfield 9, 3) := by decide +kernel
theorem d_Con_addToLine_4 : decode prog_2_method_4_code 4 = .ok (.aload_n 0, 1) := by decide +kernel
theorem d_Con_addToLine_5 : decode prog_2_method_4_code 5 = .ok (.getfield 22, 3) := by decide +kernel
theorem d_Con_addToLine_8 : decode prog_2_method_4_code 8 = .ok (.aload_n 0, 1) := by decide +kernel
theorem d_Con_addToLine_9 : decode prog_2_method_4_code 9 = .ok (.getfield 15, 3) := by decide +kernel
theorem d_Con_addToLine_12 : decode prog_2_method_4_code 12 = .ok (.iadd, 1) := by decide +kernel
theorem d_Con_addToLine_13 : decode prog_2_method_4_code 13 = .ok (.bipush 127, 2) := by decide +kernel
theorem d_Con_addToLine_15 : decode prog_2_method_4_code 15 = .ok (.iand, 1) := by decide +kernel
theorem d_Con_addToLine_16 : decode prog_2_method_4_code 16 = .ok (.iload_n 1, 1) := by decide +kernel
theorem d_Con_addToLine_17 : decode prog_2_method_4_code 17 = .ok (.i2b, 1) := by decide +kernel
theorem d_Con_addToLine_18 : decode prog_2_method_4_code 18 = .ok (.bastore, 1) := by decide +kernel
theorem d_Con_addToLine_19 : decode prog_2_method_4_code 19 = .ok (.aload_n 0, 1) := by decide +kernel
theorem d_Con_addToLine_20 : decode prog_2_method_4_code 20 = .ok (.dup, 1) := by decide +kernel
theorem d_Con_addToLine_21 : decode prog_2_method_4_code 21 = .ok (.getfield 15, 3) := by decide +kernel
theorem d_Con_addToLine_24 : decode prog_2_method_4_code 24 = .ok (.iconst 1, 1) := by decide +kernel
theorem d_Con_addToLine_25 : decode prog_2_method_4_code 25 = .ok (.iadd, 1) := by decide +kernel
theorem d_Con_addToLine_26 : decode prog_2_method_4_code 26 = .ok (.putfield 15, 3) := by decide +kernel
theorem d_Con_addToLine_29 : decode prog_2_method_4_code 29 = .ok (.iload_n 1, 1) := by decide +kernel
theorem d_Con_addToLine_30 : decode prog_2_method_4_code 30 = .ok (.bipush 10, 2) := by decide +kernel
theorem d_Con_addToLine_32 : decode prog_2_method_4_code 32 = .ok (.if_icmp .eq 15, 3) := by decide +kernel
theorem d_Con_addToLine_35 : decode prog_2_method_4_code 35 = .ok (.iload_n 1, 1) := by decide +kernel
theorem d_Con_addToLine_36 : decode prog_2_method_4_code 36 = .ok (.iconst 4, 1) := by decide +kernel
theorem d_Con_addToLine_37 : decode prog_2_method_4_code 37 = .ok (.if_icmp .eq 10, 3) := by decide +kernel
theorem d_Con_addToLine_40 : decode prog_2_method_4_code 40 = .ok (.aload_n 0, 1) := by decide +kernel
theorem d_Con_addToLine_41 : decode prog_2_method_4_code 41 = .ok (.invokevirtual 25, 3) := by decide +kernel
theorem d_Con_addToLine_44 : decode prog_2_method_4_code 44 = .ok (.ifCond .eq 11, 3) := by decide +kernel
theorem d_Con_addToLine_47 : decode prog_2_method_4_code 47 = .ok (.aload_n 0, 1) := by decide +kernel
theorem d_Con_addToLine_48 : decode prog_2_method_4_code 48 = .ok (.aload_n 0, 1) := by decide +kernel
theorem d_Con_addToLine_49 : decode prog_2_method_4_code 49 = .ok (.getfield 15, 3) := by decide +kernel
theorem d_Con_addToLine_52 : decode prog_2_method_4_code 52 = .ok (.putfield 19, 3) := by decide +kernel
theorem d_Con_addToLine_55 : decode prog_2_method_4_code 55 = .ok (.return_, 1) := by decide +kernel
theorem d_read_0 : decode prog_1_method_15_code 0 = .ok (.aload_n 0, 1) := by decide +kernel
theorem d_read_1 : decode prog_1_method_15_code 1 = .ok (.getfield 39, 3) := by decide +kernel
theorem d_read_4 : decode prog_1_method_15_code 4 = .ok (.getfield 169, 3) := by decide +kernel
theorem d_read_7 : decode prog_1_method_15_code 7 = .ok (.ifCond .gt 6, 3) := by decide +kernel
theorem d_read_10 : decode prog_1_method_15_code 10 = .ok (.bipush (-3), 2) := by decide +kernel
theorem d_read_12 : decode prog_1_method_15_code 12 = .ok (.ireturn, 1) := by decide +kernel
theorem d_read_13 : decode prog_1_method_15_code 13 = .ok (.aload_n 0, 1) := by decide +kernel
theorem d_read_14 : decode prog_1_method_15_code 14 = .ok (.getfield 39, 3) := by decide +kernel
theorem d_read_17 : decode prog_1_method_15_code 17 = .ok (.invokevirtual 172, 3) := by decide +kernel
theorem d_read_20 : decode prog_1_method_15_code 20 = .ok (.istore_n 2, 1) := by decide +kernel
theorem d_read_21 : decode prog_1_method_15_code 21 = .ok (.iload_n 2, 1) := by decide +kernel
theorem d_read_22 : decode prog_1_method_15_code 22 = .ok (.iconst 4, 1) := by decide +kernel
theorem d_read_23 : decode prog_1_method_15_code 23 = .ok (.if_icmp .eq 12, 3) := by decide +kernel
theorem d_read_26 : decode prog_1_method_15_code 26 = .ok (.aload_n 0, 1) := by decide +kernel
theorem d_read_27 : decode prog_1_method_15_code 27 = .ok (.getfield 39, 3) := by decide +kernel
theorem d_read_30 : decode prog_1_method_15_code 30 = .ok (.invokevirtual 175, 3) := by decide +kernel
theorem d_read_33 : decode prog_1_method_15_code 33 = .ok (.iload_n 2, 1) := by decide +kernel
theorem d_read_34 : decode prog_1_method_15_code 34 = .ok (.ireturn, 1) := by decide +kernel
theorem d_read_35 : decode prog_1_method_15_code 35 = .ok (.iload_n 1, 1) := by decide +kernel
theorem d_read_36 : decode prog_1_method_15_code 36 = .ok (.ifCond .eq 10, 3) := by decide +kernel
theorem d_read_39 : decode prog_1_method_15_code 39 = .ok (.aload_n 0, 1) := by decide +kernel
theorem d_read_40 : decode prog_1_method_15_code 40 = .ok (.getfield 39, 3) := by decide +kernel
theorem d_read_43 : decode prog_1_method_15_code 43 = .ok (.invokevirtual 175, 3) := by decide +kernel
theorem d_read_46 : decode prog_1_method_15_code 46 = .ok (.bipush (-4), 2) := by decide +kernel
theorem d_read_48 : decode prog_1_method_15_code 48 = .ok (.ireturn, 1) := by decide +kernel
theorem d_Con_firstDone_0 : decode prog_2_method_6_code 0 = .ok (.aload_n 0, 1) := by decide +kernel
theorem d_Con_firstDone_1 : decode prog_2_method_6_code 1 = .ok (.getfield 9, 3) := by decide +kernel
theorem d_Con_firstDone_4 : decode prog_2_method_6_code 4 = .ok (.aload_n 0, 1) := by decide +kernel
theorem d_Con_firstDone_5 : decode prog_2_method_6_code 5 = .ok (.getfield 22, 3) := by decide +kernel
theorem d_Con_firstDone_8 : decode prog_2_method_6_code 8 = .ok (.bipush 127, 2) := by decide +kernel
theorem d_Con_firstDone_10 : decode prog_2_method_6_code 10 = .ok (.iand, 1) := by decide +kernel
theorem d_Con_firstDone_11 : decode prog_2_method_6_code 11 = .ok (.baload, 1) := by decide +kernel
theorem d_Con_firstDone_12 : decode prog_2_method_6_code 12 = .ok (.sipush 255, 3) := by decide +kernel
theorem d_Con_firstDone_15 : decode prog_2_method_6_code 15 = .ok (.iand, 1) := by decide +kernel
theorem d_Con_firstDone_16 : decode prog_2_method_6_code 16 = .ok (.ireturn, 1) := by decide +kernel
theorem d_Con_dropFirstDone_0 : decode prog_2_method_7_code 0 = .ok (.aload_n 0, 1) := by decide +kernel
theorem d_Con_dropFirstDone_1 : decode prog_2_method_7_code 1 = .ok (.getfield 19, 3) := by decide +kernel
theorem d_Con_dropFirstDone_4 : decode prog_2_method_7_code 4 = .ok (.ifCond .le 36, 3) := by decide +kernel
theorem d_Con_dropFirstDone_7 : decode prog_2_method_7_code 7 = .ok (.aload_n 0, 1) := by decide +kernel
theorem d_Con_dropFirstDone_8 : decode prog_2_method_7_code 8 = .ok (.aload_n 0, 1) := by decide +kernel
theorem d_Con_dropFirstDone_9 : decode prog_2_method_7_code 9 = .ok (.getfield 22, 3) := by decide +kernel
theorem d_Con_dropFirstDone_12 : decode prog_2_method_7_code 12 = .ok (.iconst 1, 1) := by decide +kernel
theorem d_Con_dropFirstDone_13 : decode prog_2_method_7_code 13 = .ok (.iadd, 1) := by decide +kernel
theorem d_Con_dropFirstDone_14 : decode prog_2_method_7_code 14 = .ok (.bipush 127, 2) := by decide +kernel
theorem d_Con_dropFirstDone_16 : decode prog_2_method_7_code 16 = .ok (.iand, 1) := by decide +kernel
theorem d_Con_dropFirstDone_17 : decode prog_2_method_7_code 17 = .ok (.putfield 22, 3) := by decide +kernel
theorem d_Con_dropFirstDone_20 : decode prog_2_method_7_code 20 = .ok (.aload_n 0, 1) := by decide +kernel
theorem d_Con_dropFirstDone_21 : decode prog_2_method_7_code 21 = .ok (.dup, 1) := by decide +kernel
theorem d_Con_dropFirstDone_22 : decode prog_2_method_7_code 22 = .ok (.getfield 19, 3) := by decide +kernel
theorem d_Con_dropFirstDone_25 : decode prog_2_method_7_code 25 = .ok (.iconst 1, 1) := by decide +kernel
theorem d_Con_dropFirstDone_26 : decode prog_2_method_7_code 26 = .ok (.isub, 1) := by decide +kernel
theorem d_Con_dropFirstDone_27 : decode prog_2_method_7_code 27 = .ok (.putfield 19, 3) := by decide +kernel
theorem d_Con_dropFirstDone_30 : decode prog_2_method_7_code 30 = .ok (.aload_n 0, 1) := by decide +kernel
theorem d_Con_dropFirstDone_31 : decode prog_2_method_7_code 31 = .ok (.dup, 1) := by decide +kernel
theorem d_Con_dropFirstDone_32 : decode prog_2_method_7_code 32 = .ok (.getfield 15, 3) := by decide +kernel
theorem d_Con_dropFirstDone_35 : decode prog_2_method_7_code 35 = .ok (.iconst 1, 1) := by decide +kernel
theorem d_Con_dropFirstDone_36 : decode prog_2_method_7_code 36 = .ok (.isub, 1) := by decide +kernel
theorem d_Con_dropFirstDone_37 : decode prog_2_method_7_code 37 = .ok (.putfield 15, 3) := by decide +kernel
theorem d_Con_dropFirstDone_40 : decode prog_2_method_7_code 40 = .ok (.return_, 1) := by decide +kernel
theorem d_waiting_0 : decode prog_1_method_16_code 0 = .ok (.iload_n 1, 1) := by decide +kernel
theorem d_waiting_1 : decode prog_1_method_16_code 1 = .ok (.lookupswitch 43 #[(0, 27), (1, 35)], 27) := by decide +kernel
theorem d_waiting_28 : decode prog_1_method_16_code 28 = .ok (.aload_n 0, 1) := by decide +kernel
theorem d_waiting_29 : decode prog_1_method_16_code 29 = .ok (.getfield 39, 3) := by decide +kernel
theorem d_waiting_32 : decode prog_1_method_16_code 32 = .ok (.getfield 169, 3) := by decide +kernel
theorem d_waiting_35 : decode prog_1_method_16_code 35 = .ok (.ireturn, 1) := by decide +kernel
theorem d_waiting_36 : decode prog_1_method_16_code 36 = .ok (.aload_n 0, 1) := by decide +kernel
theorem d_waiting_37 : decode prog_1_method_16_code 37 = .ok (.getfield 39, 3) := by decide +kernel
theorem d_waiting_40 : decode prog_1_method_16_code 40 = .ok (.getfield 178, 3) := by decide +kernel
theorem d_waiting_43 : decode prog_1_method_16_code 43 = .ok (.ireturn, 1) := by decide +kernel
theorem d_waiting_44 : decode prog_1_method_16_code 44 = .ok (.iconst (-1), 1) := by decide +kernel
theorem d_waiting_45 : decode prog_1_method_16_code 45 = .ok (.ireturn, 1) := by decide +kernel
theorem d_show_0 : decode prog_1_method_17_code 0 = .ok (.aload_n 0, 1) := by decide +kernel
theorem d_show_1 : decode prog_1_method_17_code 1 = .ok (.getfield 46, 3) := by decide +kernel
theorem d_show_4 : decode prog_1_method_17_code 4 = .ok (.iload_n 1, 1) := by decide +kernel
theorem d_show_5 : decode prog_1_method_17_code 5 = .ok (.invokevirtual 168, 3) := by decide +kernel
theorem d_show_8 : decode prog_1_method_17_code 8 = .ok (.return_, 1) := by decide +kernel
theorem d_shown_0 : decode prog_1_method_18_code 0 = .ok (.aload_n 0, 1) := by decide +kernel
theorem d_shown_1 : decode prog_1_method_18_code 1 = .ok (.getfield 46, 3) := by decide +kernel
theorem d_shown_4 : decode prog_1_method_18_code 4 = .ok (.iload_n 1, 1) := by decide +kernel
theorem d_shown_5 : decode prog_1_method_18_code 5 = .ok (.invokevirtual 179, 3) := by decide +kernel
theorem d_shown_8 : decode prog_1_method_18_code 8 = .ok (.ireturn, 1) := by decide +kernel
theorem d_Scr_byteAt_0 : decode prog_5_method_3_code 0 = .ok (.iload_n 1, 1) := by decide +kernel
theorem d_Scr_byteAt_1 : decode prog_5_method_3_code 1 = .ok (.ifCond .lt 23, 3) := by decide +kernel
theorem d_Scr_byteAt_4 : decode prog_5_method_3_code 4 = .ok (.iload_n 1, 1) := by decide +kernel
theorem d_Scr_byteAt_5 : decode prog_5_method_3_code 5 = .ok (.aload_n 0, 1) := by decide +kernel
theorem d_Scr_byteAt_6 : decode prog_5_method_3_code 6 = .ok (.getfield 15, 3) := by decide +kernel
theorem d_Scr_byteAt_9 : decode prog_5_method_3_code 9 = .ok (.if_icmp .ge 15, 3) := by decide +kernel
theorem d_Scr_byteAt_12 : decode prog_5_method_3_code 12 = .ok (.aload_n 0, 1) := by decide +kernel
theorem d_Scr_byteAt_13 : decode prog_5_method_3_code 13 = .ok (.getfield 15, 3) := by decide +kernel
theorem d_Scr_byteAt_16 : decode prog_5_method_3_code 16 = .ok (.iload_n 1, 1) := by decide +kernel
theorem d_Scr_byteAt_17 : decode prog_5_method_3_code 17 = .ok (.isub, 1) := by decide +kernel
theorem d_Scr_byteAt_18 : decode prog_5_method_3_code 18 = .ok (.sipush 4096, 3) := by decide +kernel
theorem d_Scr_byteAt_21 : decode prog_5_method_3_code 21 = .ok (.if_icmp .le 5, 3) := by decide +kernel
theorem d_Scr_byteAt_24 : decode prog_5_method_3_code 24 = .ok (.iconst (-1), 1) := by decide +kernel
theorem d_Scr_byteAt_25 : decode prog_5_method_3_code 25 = .ok (.ireturn, 1) := by decide +kernel
theorem d_Scr_byteAt_26 : decode prog_5_method_3_code 26 = .ok (.aload_n 0, 1) := by decide +kernel
theorem d_Scr_byteAt_27 : decode prog_5_method_3_code 27 = .ok (.getfield 9, 3) := by decide +kernel
theorem d_Scr_byteAt_30 : decode prog_5_method_3_code 30 = .ok (.iload_n 1, 1) := by decide +kernel
theorem d_Scr_byteAt_31 : decode prog_5_method_3_code 31 = .ok (.sipush 4095, 3) := by decide +kernel
theorem d_Scr_byteAt_34 : decode prog_5_method_3_code 34 = .ok (.iand, 1) := by decide +kernel
theorem d_Scr_byteAt_35 : decode prog_5_method_3_code 35 = .ok (.baload, 1) := by decide +kernel
theorem d_Scr_byteAt_36 : decode prog_5_method_3_code 36 = .ok (.sipush 255, 3) := by decide +kernel
theorem d_Scr_byteAt_39 : decode prog_5_method_3_code 39 = .ok (.iand, 1) := by decide +kernel
theorem d_Scr_byteAt_40 : decode prog_5_method_3_code 40 = .ok (.ireturn, 1) := by decide +kernel
theorem d_count_0 : decode prog_1_method_19_code 0 = .ok (.aload_n 0, 1) := by decide +kernel
theorem d_count_1 : decode prog_1_method_19_code 1 = .ok (.getfield 46, 3) := by decide +kernel
theorem d_count_4 : decode prog_1_method_19_code 4 = .ok (.getfield 182, 3) := by decide +kernel
theorem d_count_7 : decode prog_1_method_19_code 7 = .ok (.ireturn, 1) := by decide +kernel
theorem d_init_M_0 : decode prog_7_method_1_code 0 = .ok (.aload_n 0, 1) := by decide +kernel
theorem d_init_M_1 : decode prog_7_method_1_code 1 = .ok (.invokespecial 1, 3) := by decide +kernel
theorem d_init_M_4 : decode prog_7_method_1_code 4 = .ok (.aload_n 0, 1) := by decide +kernel
theorem d_init_M_5 : decode prog_7_method_1_code 5 = .ok (.sipush 240, 3) := by decide +kernel
theorem d_init_M_8 : decode prog_7_method_1_code 8 = .ok (.newarray .int, 2) := by decide +kernel
theorem d_init_M_10 : decode prog_7_method_1_code 10 = .ok (.putfield 7, 3) := by decide +kernel
theorem d_init_M_13 : decode prog_7_method_1_code 13 = .ok (.aload_n 0, 1) := by decide +kernel
theorem d_init_M_14 : decode prog_7_method_1_code 14 = .ok (.bipush 32, 2) := by decide +kernel
theorem d_init_M_16 : decode prog_7_method_1_code 16 = .ok (.newarray .int, 2) := by decide +kernel
theorem d_init_M_18 : decode prog_7_method_1_code 18 = .ok (.putfield 13, 3) := by decide +kernel
theorem d_init_M_21 : decode prog_7_method_1_code 21 = .ok (.aload_n 0, 1) := by decide +kernel
theorem d_init_M_22 : decode prog_7_method_1_code 22 = .ok (.bipush 32, 2) := by decide +kernel
theorem d_init_M_24 : decode prog_7_method_1_code 24 = .ok (.newarray .int, 2) := by decide +kernel
theorem d_init_M_26 : decode prog_7_method_1_code 26 = .ok (.putfield 16, 3) := by decide +kernel
theorem d_init_M_29 : decode prog_7_method_1_code 29 = .ok (.aload_n 0, 1) := by decide +kernel
theorem d_init_M_30 : decode prog_7_method_1_code 30 = .ok (.bipush 32, 2) := by decide +kernel
theorem d_init_M_32 : decode prog_7_method_1_code 32 = .ok (.newarray .int, 2) := by decide +kernel
theorem d_init_M_34 : decode prog_7_method_1_code 34 = .ok (.putfield 19, 3) := by decide +kernel
theorem d_init_M_37 : decode prog_7_method_1_code 37 = .ok (.aload_n 0, 1) := by decide +kernel
theorem d_init_M_38 : decode prog_7_method_1_code 38 = .ok (.bipush 32, 2) := by decide +kernel
theorem d_init_M_40 : decode prog_7_method_1_code 40 = .ok (.newarray .int, 2) := by decide +kernel
theorem d_init_M_42 : decode prog_7_method_1_code 42 = .ok (.putfield 22, 3) := by decide +kernel
theorem d_init_M_45 : decode prog_7_method_1_code 45 = .ok (.aload_n 0, 1) := by decide +kernel
theorem d_init_M_46 : decode prog_7_method_1_code 46 = .ok (.bipush 8, 2) := by decide +kernel
theorem d_init_M_48 : decode prog_7_method_1_code 48 = .ok (.newarray .int, 2) := by decide +kernel
theorem d_init_M_50 : decode prog_7_method_1_code 50 = .ok (.putfield 25, 3) := by decide +kernel
theorem d_init_M_53 : decode prog_7_method_1_code 53 = .ok (.aload_n 0, 1) := by decide +kernel
theorem d_init_M_54 : decode prog_7_method_1_code 54 = .ok (.sipush 4096, 3) := by decide +kernel
theorem d_init_M_57 : decode prog_7_method_1_code 57 = .ok (.newarray .byte, 2) := by decide +kernel
theorem d_init_M_59 : decode prog_7_method_1_code 59 = .ok (.putfield 28, 3) := by decide +kernel
theorem d_init_M_62 : decode prog_7_method_1_code 62 = .ok (.aload_n 0, 1) := by decide +kernel
theorem d_init_M_63 : decode prog_7_method_1_code 63 = .ok (.bipush 16, 2) := by decide +kernel
theorem d_init_M_65 : decode prog_7_method_1_code 65 = .ok (.newarray .int, 2) := by decide +kernel
theorem d_init_M_67 : decode prog_7_method_1_code 67 = .ok (.putfield 32, 3) := by decide +kernel
theorem d_init_M_70 : decode prog_7_method_1_code 70 = .ok (.aload_n 0, 1) := by decide +kernel
theorem d_init_M_71 : decode prog_7_method_1_code 71 = .ok (.sipush 128, 3) := by decide +kernel
theorem d_init_M_74 : decode prog_7_method_1_code 74 = .ok (.newarray .int, 2) := by decide +kernel
theorem d_init_M_76 : decode prog_7_method_1_code 76 = .ok (.putfield 35, 3) := by decide +kernel
theorem d_init_M_79 : decode prog_7_method_1_code 79 = .ok (.aload_n 0, 1) := by decide +kernel
theorem d_init_M_80 : decode prog_7_method_1_code 80 = .ok (.sipush 4096, 3) := by decide +kernel
theorem d_init_M_83 : decode prog_7_method_1_code 83 = .ok (.newarray .byte, 2) := by decide +kernel
theorem d_init_M_85 : decode prog_7_method_1_code 85 = .ok (.putfield 38, 3) := by decide +kernel
theorem d_init_M_88 : decode prog_7_method_1_code 88 = .ok (.return_, 1) := by decide +kernel
theorem d_M_open_0 : decode prog_7_method_13_code 0 = .ok (.aload_n 0, 1) := by decide +kernel
theorem d_M_open_1 : decode prog_7_method_13_code 1 = .ok (.iconst 0, 1) := by decide +kernel
theorem d_M_open_2 : decode prog_7_method_13_code 2 = .ok (.putfield 41, 3) := by decide +kernel
theorem d_M_open_5 : decode prog_7_method_13_code 5 = .ok (.iload_n 1, 1) := by decide +kernel
theorem d_M_open_6 : decode prog_7_method_13_code 6 = .ok (.invokestatic 45, 3) := by decide +kernel
theorem d_M_open_9 : decode prog_7_method_13_code 9 = .ok (.ifCond .eq 44, 3) := by decide +kernel
theorem d_M_open_12 : decode prog_7_method_13_code 12 = .ok (.iload_n 2, 1) := by decide +kernel
theorem d_M_open_13 : decode prog_7_method_13_code 13 = .ok (.iconst 2, 1) := by decide +kernel
theorem d_M_open_14 : decode prog_7_method_13_code 14 = .ok (.if_icmp .lt 39, 3) := by decide +kernel
theorem d_M_open_17 : decode prog_7_method_13_code 17 = .ok (.iload_n 2, 1) := by decide +kernel
theorem d_M_open_18 : decode prog_7_method_13_code 18 = .ok (.iconst 3, 1) := by decide +kernel
theorem d_M_open_19 : decode prog_7_method_13_code 19 = .ok (.if_icmp .gt 34, 3) := by decide +kernel
theorem d_M_open_22 : decode prog_7_method_13_code 22 = .ok (.iload 4, 2) := by decide +kernel
theorem d_M_open_24 : decode prog_7_method_13_code 24 = .ok (.iconst 1, 1) := by decide +kernel
theorem d_M_open_25 : decode prog_7_method_13_code 25 = .ok (.if_icmp .lt 28, 3) := by decide +kernel
theorem d_M_open_28 : decode prog_7_method_13_code 28 = .ok (.iload 4, 2) := by decide +kernel
theorem d_M_open_30 : decode prog_7_method_13_code 30 = .ok (.iconst 3, 1) := by decide +kernel
theorem d_M_open_31 : decode prog_7_method_13_code 31 = .ok (.if_icmp .gt 22, 3) := by decide +kernel
theorem d_M_open_34 : decode prog_7_method_13_code 34 = .ok (.aload_n 0, 1) := by decide +kernel
theorem d_M_open_35 : decode prog_7_method_13_code 35 = .ok (.iload_n 1, 1) := by decide +kernel
theorem d_M_open_36 : decode prog_7_method_13_code 36 = .ok (.invokevirtual 61, 3) := by decide +kernel
theorem d_M_open_39 : decode prog_7_method_13_code 39 = .ok (.bipush 16, 2) := by decide +kernel
theorem d_M_open_41 : decode prog_7_method_13_code 41 = .ok (.if_icmp .eq 12, 3) := by decide +kernel
theorem d_M_open_44 : decode prog_7_method_13_code 44 = .ok (.aload_n 0, 1) := by decide +kernel
theorem d_M_open_45 : decode prog_7_method_13_code 45 = .ok (.invokevirtual 64, 3) := by decide +kernel
theorem d_M_open_48 : decode prog_7_method_13_code 48 = .ok (.bipush 32, 2) := by decide +kernel
theorem d_M_open_50 : decode prog_7_method_13_code 50 = .ok (.if_icmp .ne 5, 3) := by decide +kernel
theorem d_M_open_53 : decode prog_7_method_13_code 53 = .ok (.iconst (-1), 1) := by decide +kernel
theorem d_M_open_54 : decode prog_7_method_13_code 54 = .ok (.ireturn, 1) := by decide +kernel
theorem d_M_open_55 : decode prog_7_method_13_code 55 = .ok (.aload_n 0, 1) := by decide +kernel
theorem d_M_open_56 : decode prog_7_method_13_code 56 = .ok (.iload_n 1, 1) := by decide +kernel
theorem d_M_open_57 : decode prog_7_method_13_code 57 = .ok (.aload_n 0, 1) := by decide +kernel
theorem d_M_open_58 : decode prog_7_method_13_code 58 = .ok (.iload_n 1, 1) := by decide +kernel
theorem d_M_open_59 : decode prog_7_method_13_code 59 = .ok (.invokevirtual 61, 3) := by decide +kernel
theorem d_M_open_62 : decode prog_7_method_13_code 62 = .ok (.iload_n 2, 1) := by decide +kernel
theorem d_M_open_63 : decode prog_7_method_13_code 63 = .ok (.iload_n 2, 1) := by decide +kernel
theorem d_M_open_64 : decode prog_7_method_13_code 64 = .ok (.iconst 2, 1) := by decide +kernel
theorem d_M_open_65 : decode prog_7_method_13_code 65 = .ok (.if_icmp .ne 7, 3) := by decide +kernel
theorem d_M_open_68 : decode prog_7_method_13_code 68 = .ok (.iload_n 3, 1) := by decide +kernel
theorem d_M_open_69 : decode prog_7_method_13_code 69 = .ok (.goto 4, 3) := by decide +kernel
theorem d_M_open_72 : decode prog_7_method_13_code 72 = .ok (.iconst 0, 1) := by decide +kernel
theorem d_M_open_73 : decode prog_7_method_13_code 73 = .ok (.iload 4, 2) := by decide +kernel
theorem d_M_open_75 : decode prog_7_method_13_code 75 = .ok (.invokevirtual 67, 3) := by decide +kernel
theorem d_M_open_78 : decode prog_7_method_13_code 78 = .ok (.ireturn, 1) := by decide +kernel
theorem d_M_isPlace_0 : decode prog_7_method_3_code 0 = .ok (.iload_n 0, 1) := by decide +kernel
theorem d_M_isPlace_1 : decode prog_7_method_3_code 1 = .ok (.ifCond .lt 13, 3) := by decide +kernel
theorem d_M_isPlace_4 : decode prog_7_method_3_code 4 = .ok (.iload_n 0, 1) := by decide +kernel
theorem d_M_isPlace_5 : decode prog_7_method_3_code 5 = .ok (.bipush 15, 2) := by decide +kernel
theorem d_M_isPlace_7 : decode prog_7_method_3_code 7 = .ok (.if_icmp .ge 7, 3) := by decide +kernel
theorem d_M_isPlace_10 : decode prog_7_method_3_code 10 = .ok (.iconst 1, 1) := by decide +kernel
theorem d_M_isPlace_11 : decode prog_7_method_3_code 11 = .ok (.goto 4, 3) := by decide +kernel
theorem d_M_isPlace_14 : decode prog_7_method_3_code 14 = .ok (.iconst 0, 1) := by decide +kernel
theorem d_M_isPlace_15 : decode prog_7_method_3_code 15 = .ok (.ireturn, 1) := by decide +kernel
theorem d_M_vacant_0 : decode prog_7_method_8_code 0 = .ok (.iconst 0, 1) := by decide +kernel
theorem d_M_vacant_1 : decode prog_7_method_8_code 1 = .ok (.istore_n 2, 1) := by decide +kernel
theorem d_M_vacant_2 : decode prog_7_method_8_code 2 = .ok (.iload_n 2, 1) := by decide +kernel
theorem d_M_vacant_3 : decode prog_7_method_8_code 3 = .ok (.bipush 16, 2) := by decide +kernel
theorem d_M_vacant_5 : decode prog_7_method_8_code 5 = .ok (.if_icmp .ge 23, 3) := by decide +kernel
theorem d_M_vacant_8 : decode prog_7_method_8_code 8 = .ok (.aload_n 0, 1) := by decide +kernel
theorem d_M_vacant_9 : decode prog_7_method_8_code 9 = .ok (.getfield 7, 3) := by decide +kernel
theorem d_M_vacant_12 : decode prog_7_method_8_code 12 = .ok (.bipush 16, 2) := by decide +kernel
theorem d_M_vacant_14 : decode prog_7_method_8_code 14 = .ok (.iload_n 1, 1) := by decide +kernel
theorem d_M_vacant_15 : decode prog_7_method_8_code 15 = .ok (.imul, 1) := by decide +kernel
theorem d_M_vacant_16 : decode prog_7_method_8_code 16 = .ok (.iload_n 2, 1) := by decide +kernel
theorem d_M_vacant_17 : decode prog_7_method_8_code 17 = .ok (.iadd, 1) := by decide +kernel
theorem d_M_vacant_18 : decode prog_7_method_8_code 18 = .ok (.iaload, 1) := by decide +kernel
theorem d_M_vacant_19 : decode prog_7_method_8_code 19 = .ok (.ifCond .le 9, 3) := by decide +kernel
theorem d_M_vacant_22 : decode prog_7_method_8_code 22 = .ok (.iinc 2 1, 3) := by decide +kernel
theorem d_M_vacant_25 : decode prog_7_method_8_code 25 = .ok (.goto (-23), 3) := by decide +kernel
theorem d_M_vacant_28 : decode prog_7_method_8_code 28 = .ok (.iload_n 2, 1) := by decide +kernel
theorem d_M_vacant_29 : decode prog_7_method_8_code 29 = .ok (.ireturn, 1) := by decide +kernel
theorem d_M_files_0 : decode prog_7_method_6_code 0 = .ok (.iconst 0, 1) := by decide +kernel
theorem d_M_files_1 : decode prog_7_method_6_code 1 = .ok (.istore_n 1, 1) := by decide +kernel
theorem d_M_files_2 : decode prog_7_method_6_code 2 = .ok (.iconst 0, 1) := by decide +kernel
theorem d_M_files_3 : decode prog_7_method_6_code 3 = .ok (.istore_n 2, 1) := by decide +kernel
theorem d_M_files_4 : decode prog_7_method_6_code 4 = .ok (.iload_n 2, 1) := by decide +kernel
theorem d_M_files_5 : decode prog_7_method_6_code 5 = .ok (.bipush 32, 2) := by decide +kernel
theorem d_M_files_7 : decode prog_7_method_6_code 7 = .ok (.if_icmp .ge 25, 3) := by decide +kernel
theorem d_M_files_10 : decode prog_7_method_6_code 10 = .ok (.iload_n 1, 1) := by decide +kernel
theorem d_M_files_11 : decode prog_7_method_6_code 11 = .ok (.aload_n 0, 1) := by decide +kernel
theorem d_M_files_12 : decode prog_7_method_6_code 12 = .ok (.iload_n 2, 1) := by decide +kernel
theorem d_M_files_13 : decode prog_7_method_6_code 13 = .ok (.invokevirtual 49, 3) := by decide +kernel
theorem d_M_files_16 : decode prog_7_method_6_code 16 = .ok (.ifCond .le 7, 3) := by decide +kernel
theorem d_M_files_19 : decode prog_7_method_6_code 19 = .ok (.iconst 1, 1) := by decide +kernel
theorem d_M_files_20 : decode prog_7_method_6_code 20 = .ok (.goto 4, 3) := by decide +kernel
theorem d_M_files_23 : decode prog_7_method_6_code 23 = .ok (.iconst 0, 1) := by decide +kernel
theorem d_M_files_24 : decode prog_7_method_6_code 24 = .ok (.iadd, 1) := by decide +kernel
theorem d_M_files_25 : decode prog_7_method_6_code 25 = .ok (.istore_n 1, 1) := by decide +kernel
theorem d_M_files_26 : decode prog_7_method_6_code 26 = .ok (.iinc 2 1, 3) := by decide +kernel
theorem d_M_files_29 : decode prog_7_method_6_code 29 = .ok (.goto (-25), 3) := by decide +kernel
theorem d_M_files_32 : decode prog_7_method_6_code 32 = .ok (.iload_n 1, 1) := by decide +kernel
theorem d_M_files_33 : decode prog_7_method_6_code 33 = .ok (.ireturn, 1) := by decide +kernel
theorem d_M_named_0 : decode prog_7_method_5_code 0 = .ok (.iconst 0, 1) := by decide +kernel
theorem d_M_named_1 : decode prog_7_method_5_code 1 = .ok (.istore_n 2, 1) := by decide +kernel
theorem d_M_named_2 : decode prog_7_method_5_code 2 = .ok (.iconst 0, 1) := by decide +kernel
theorem d_M_named_3 : decode prog_7_method_5_code 3 = .ok (.istore_n 3, 1) := by decide +kernel
theorem d_M_named_4 : decode prog_7_method_5_code 4 = .ok (.iload_n 3, 1) := by decide +kernel
theorem d_M_named_5 : decode prog_7_method_5_code 5 = .ok (.sipush 240, 3) := by decide +kernel
theorem d_M_named_8 : decode prog_7_method_5_code 8 = .ok (.if_icmp .ge 29, 3) := by decide +kernel
theorem d_M_named_11 : decode prog_7_method_5_code 11 = .ok (.iload_n 2, 1) := by decide +kernel
theorem d_M_named_12 : decode prog_7_method_5_code 12 = .ok (.aload_n 0, 1) := by decide +kernel
theorem d_M_named_13 : decode prog_7_method_5_code 13 = .ok (.getfield 7, 3) := by decide +kernel
theorem d_M_named_16 : decode prog_7_method_5_code 16 = .ok (.iload_n 3, 1) := by decide +kernel
theorem d_M_named_17 : decode prog_7_method_5_code 17 = .ok (.iaload, 1) := by decide +kernel
theorem d_M_named_18 : decode prog_7_method_5_code 18 = .ok (.iload_n 1, 1) := by decide +kernel
theorem d_M_named_19 : decode prog_7_method_5_code 19 = .ok (.iconst 1, 1) := by decide +kernel
theorem d_M_named_20 : decode prog_7_method_5_code 20 = .ok (.iadd, 1) := by decide +kernel
theorem d_M_named_21 : decode prog_7_method_5_code 21 = .ok (.if_icmp .ne 7, 3) := by decide +kernel
theorem d_M_named_24 : decode prog_7_method_5_code 24 = .ok (.iconst 1, 1) := by decide +kernel
theorem d_M_named_25 : decode prog_7_method_5_code 25 = .ok (.goto 4, 3) := by decide +kernel
theorem d_M_named_28 : decode prog_7_method_5_code 28 = .ok (.iconst 0, 1) := by decide +kernel
theorem d_M_named_29 : decode prog_7_method_5_code 29 = .ok (.iadd, 1) := by decide +kernel
theorem d_M_named_30 : decode prog_7_method_5_code 30 = .ok (.istore_n 2, 1) := by decide +kernel
theorem d_M_named_31 : decode prog_7_method_5_code 31 = .ok (.iinc 3 1, 3) := by decide +kernel
theorem d_M_named_34 : decode prog_7_method_5_code 34 = .ok (.goto (-30), 3) := by decide +kernel
theorem d_M_named_37 : decode prog_7_method_5_code 37 = .ok (.iload_n 2, 1) := by decide +kernel
theorem d_M_named_38 : decode prog_7_method_5_code 38 = .ok (.ireturn, 1) := by decide +kernel
theorem d_M_makes_0 : decode prog_7_method_12_code 0 = .ok (.aload_n 0, 1) := by decide +kernel
theorem d_M_makes_1 : decode prog_7_method_12_code 1 = .ok (.invokevirtual 57, 3) := by decide +kernel
theorem d_M_makes_4 : decode prog_7_method_12_code 4 = .ok (.istore 6, 2) := by decide +kernel
theorem d_M_makes_6 : decode prog_7_method_12_code 6 = .ok (.aload_n 0, 1) := by decide +kernel
theorem d_M_makes_7 : decode prog_7_method_12_code 7 = .ok (.getfield 7, 3) := by decide +kernel
theorem d_M_makes_10 : decode prog_7_method_12_code 10 = .ok (.bipush 16, 2) := by decide +kernel
theorem d_M_makes_12 : decode prog_7_method_12_code 12 = .ok (.iload_n 1, 1) := by decide +kernel
theorem d_M_makes_13 : decode prog_7_method_12_code 13 = .ok (.imul, 1) := by decide +kernel
theorem d_M_makes_14 : decode prog_7_method_12_code 14 = .ok (.iload_n 2, 1) := by decide +kernel
theorem d_M_makes_15 : decode prog_7_method_12_code 15 = .ok (.iadd, 1) := by decide +kernel
theorem d_M_makes_16 : decode prog_7_method_12_code 16 = .ok (.iload 6, 2) := by decide +kernel
theorem d_M_makes_18 : decode prog_7_method_12_code 18 = .ok (.iconst 1, 1) := by decide +kernel
theorem d_M_makes_19 : decode prog_7_method_12_code 19 = .ok (.iadd, 1) := by decide +kernel
theorem d_M_makes_20 : decode prog_7_method_12_code 20 = .ok (.iastore, 1) := by decide +kernel
theorem d_M_makes_21 : decode prog_7_method_12_code 21 = .ok (.aload_n 0, 1) := by decide +kernel
theorem d_M_makes_22 : decode prog_7_method_12_code 22 = .ok (.getfield 13, 3) := by decide +kernel
theorem d_M_makes_25 : decode prog_7_method_12_code 25 = .ok (.iload 6, 2) := by decide +kernel
theorem d_M_makes_27 : decode prog_7_method_12_code 27 = .ok (.iload_n 3, 1) := by decide +kernel
theorem d_M_makes_28 : decode prog_7_method_12_code 28 = .ok (.iastore, 1) := by decide +kernel
theorem d_M_makes_29 : decode prog_7_method_12_code 29 = .ok (.aload_n 0, 1) := by decide +kernel
theorem d_M_makes_30 : decode prog_7_method_12_code 30 = .ok (.getfield 16, 3) := by decide +kernel
theorem d_M_makes_33 : decode prog_7_method_12_code 33 = .ok (.iload 6, 2) := by decide +kernel
theorem d_M_makes_35 : decode prog_7_method_12_code 35 = .ok (.iload 4, 2) := by decide +kernel
theorem d_M_makes_37 : decode prog_7_method_12_code 37 = .ok (.iastore, 1) := by decide +kernel
theorem d_M_makes_38 : decode prog_7_method_12_code 38 = .ok (.aload_n 0, 1) := by decide +kernel
theorem d_M_makes_39 : decode prog_7_method_12_code 39 = .ok (.getfield 19, 3) := by decide +kernel
theorem d_M_makes_42 : decode prog_7_method_12_code 42 = .ok (.iload 6, 2) := by decide +kernel
theorem d_M_makes_44 : decode prog_7_method_12_code 44 = .ok (.iload 5, 2) := by decide +kernel
theorem d_M_makes_46 : decode prog_7_method_12_code 46 = .ok (.iastore, 1) := by decide +kernel
theorem d_M_makes_47 : decode prog_7_method_12_code 47 = .ok (.aload_n 0, 1) := by decide +kernel
theorem d_M_makes_48 : decode prog_7_method_12_code 48 = .ok (.getfield 22, 3) := by decide +kernel
theorem d_M_makes_51 : decode prog_7_method_12_code 51 = .ok (.iload 6, 2) := by decide +kernel
theorem d_M_makes_53 : decode prog_7_method_12_code 53 = .ok (.iconst 0, 1) := by decide +kernel
theorem d_M_makes_54 : decode prog_7_method_12_code 54 = .ok (.iastore, 1) := by decide +kernel
theorem d_M_makes_55 : decode prog_7_method_12_code 55 = .ok (.iload_n 2, 1) := by decide +kernel
theorem d_M_makes_56 : decode prog_7_method_12_code 56 = .ok (.ireturn, 1) := by decide +kernel
theorem d_M_freeFile_0 : decode prog_7_method_7_code 0 = .ok (.iconst 0, 1) := by decide +kernel
theorem d_M_freeFile_1 : decode prog_7_method_7_code 1 = .ok (.istore_n 1, 1) := by decide +kernel
theorem d_M_freeFile_2 : decode prog_7_method_7_code 2 = .ok (.iload_n 1, 1) := by decide +kernel
theorem d_M_freeFile_3 : decode prog_7_method_7_code 3 = .ok (.bipush 32, 2) := by decide +kernel
theorem d_M_freeFile_5 : decode prog_7_method_7_code 5 = .ok (.if_icmp .ge 17, 3) := by decide +kernel
theorem d_M_freeFile_8 : decode prog_7_method_7_code 8 = .ok (.aload_n 0, 1) := by decide +kernel
theorem d_M_freeFile_9 : decode prog_7_method_7_code 9 = .ok (.iload_n 1, 1) := by decide +kernel
theorem d_M_freeFile_10 : decode prog_7_method_7_code 10 = .ok (.invokevirtual 49, 3) := by decide +kernel
theorem d_M_freeFile_13 : decode prog_7_method_7_code 13 = .ok (.ifCond .le 9, 3) := by decide +kernel
theorem d_M_freeFile_16 : decode prog_7_method_7_code 16 = .ok (.iinc 1 1, 3) := by decide +kernel
theorem d_M_freeFile_19 : decode prog_7_method_7_code 19 = .ok (.goto (-17), 3) := by decide +kernel
theorem d_M_freeFile_22 : decode prog_7_method_7_code 22 = .ok (.iload_n 1, 1) := by decide +kernel
theorem d_M_freeFile_23 : decode prog_7_method_7_code 23 = .ok (.ireturn, 1) := by decide +kernel
theorem d_M_pipe_0 : decode prog_7_method_14_code 0 = .ok (.aload_n 0, 1) := by decide +kernel
theorem d_M_pipe_1 : decode prog_7_method_14_code 1 = .ok (.iconst 0, 1) := by decide +kernel
theorem d_M_pipe_2 : decode prog_7_method_14_code 2 = .ok (.putfield 41, 3) := by decide +kernel
theorem d_M_pipe_5 : decode prog_7_method_14_code 5 = .ok (.iconst 0, 1) := by decide +kernel
theorem d_M_pipe_6 : decode prog_7_method_14_code 6 = .ok (.istore_n 2, 1) := by decide +kernel
theorem d_M_pipe_7 : decode prog_7_method_14_code 7 = .ok (.iload_n 2, 1) := by decide +kernel
theorem d_M_pipe_8 : decode prog_7_method_14_code 8 = .ok (.bipush 8, 2) := by decide +kernel
theorem d_M_pipe_10 : decode prog_7_method_14_code 10 = .ok (.if_icmp .ge 17, 3) := by decide +kernel
theorem d_M_pipe_13 : decode prog_7_method_14_code 13 = .ok (.aload_n 0, 1) := by decide +kernel
theorem d_M_pipe_14 : decode prog_7_method_14_code 14 = .ok (.iload_n 2, 1) := by decide +kernel
theorem d_M_pipe_15 : decode prog_7_method_14_code 15 = .ok (.invokevirtual 71, 3) := by decide +kernel
theorem d_M_pipe_18 : decode prog_7_method_14_code 18 = .ok (.ifCond .eq 9, 3) := by decide +kernel
theorem d_M_pipe_21 : decode prog_7_method_14_code 21 = .ok (.iinc 2 1, 3) := by decide +kernel
theorem d_M_pipe_24 : decode prog_7_method_14_code 24 = .ok (.goto (-17), 3) := by decide +kernel
theorem d_M_pipe_27 : decode prog_7_method_14_code 27 = .ok (.iload_n 1, 1) := by decide +kernel
theorem d_M_pipe_28 : decode prog_7_method_14_code 28 = .ok (.invokestatic 45, 3) := by decide +kernel
theorem d_M_pipe_31 : decode prog_7_method_14_code 31 = .ok (.ifCond .eq 28, 3) := by decide +kernel
theorem d_M_pipe_34 : decode prog_7_method_14_code 34 = .ok (.aload_n 0, 1) := by decide +kernel
theorem d_M_pipe_35 : decode prog_7_method_14_code 35 = .ok (.iload_n 1, 1) := by decide +kernel
theorem d_M_pipe_36 : decode prog_7_method_14_code 36 = .ok (.invokevirtual 74, 3) := by decide +kernel
theorem d_M_pipe_39 : decode prog_7_method_14_code 39 = .ok (.bipush 14, 2) := by decide +kernel
theorem d_M_pipe_41 : decode prog_7_method_14_code 41 = .ok (.if_icmp .gt 18, 3) := by decide +kernel
theorem d_M_pipe_44 : decode prog_7_method_14_code 44 = .ok (.aload_n 0, 1) := by decide +kernel
theorem d_M_pipe_45 : decode prog_7_method_14_code 45 = .ok (.invokevirtual 64, 3) := by decide +kernel
theorem d_M_pipe_48 : decode prog_7_method_14_code 48 = .ok (.bipush 30, 2) := by decide +kernel
theorem d_M_pipe_50 : decode prog_7_method_14_code 50 = .ok (.if_icmp .gt 9, 3) := by decide +kernel
theorem d_M_pipe_53 : decode prog_7_method_14_code 53 = .ok (.iload_n 2, 1) := by decide +kernel
theorem d_M_pipe_54 : decode prog_7_method_14_code 54 = .ok (.bipush 8, 2) := by decide +kernel
theorem d_M_pipe_56 : decode prog_7_method_14_code 56 = .ok (.if_icmp .ne 5, 3) := by decide +kernel
theorem d_M_pipe_59 : decode prog_7_method_14_code 59 = .ok (.iconst (-1), 1) := by decide +kernel
theorem d_M_pipe_60 : decode prog_7_method_14_code 60 = .ok (.ireturn, 1) := by decide +kernel
theorem d_M_pipe_61 : decode prog_7_method_14_code 61 = .ok (.aload_n 0, 1) := by decide +kernel
theorem d_M_pipe_62 : decode prog_7_method_14_code 62 = .ok (.getfield 25, 3) := by decide +kernel
theorem d_M_pipe_65 : decode prog_7_method_14_code 65 = .ok (.iload_n 2, 1) := by decide +kernel
theorem d_M_pipe_66 : decode prog_7_method_14_code 66 = .ok (.iconst 0, 1) := by decide +kernel
theorem d_M_pipe_67 : decode prog_7_method_14_code 67 = .ok (.iastore, 1) := by decide +kernel
theorem d_M_pipe_68 : decode prog_7_method_14_code 68 = .ok (.aload_n 0, 1) := by decide +kernel
theorem d_M_pipe_69 : decode prog_7_method_14_code 69 = .ok (.iload_n 1, 1) := by decide +kernel
theorem d_M_pipe_70 : decode prog_7_method_14_code 70 = .ok (.aload_n 0, 1) := by decide +kernel
theorem d_M_pipe_71 : decode prog_7_method_14_code 71 = .ok (.iload_n 1, 1) := by decide +kernel
theorem d_M_pipe_72 : decode prog_7_method_14_code 72 = .ok (.invokevirtual 61, 3) := by decide +kernel
theorem d_M_pipe_75 : decode prog_7_method_14_code 75 = .ok (.iconst 1, 1) := by decide +kernel
theorem d_M_pipe_76 : decode prog_7_method_14_code 76 = .ok (.iload_n 2, 1) := by decide +kernel
theorem d_M_pipe_77 : decode prog_7_method_14_code 77 = .ok (.iconst 1, 1) := by decide +kernel
theorem d_M_pipe_78 : decode prog_7_method_14_code 78 = .ok (.invokevirtual 67, 3) := by decide +kernel
theorem d_M_pipe_81 : decode prog_7_method_14_code 81 = .ok (.istore_n 3, 1) := by decide +kernel
theorem d_M_pipe_82 : decode prog_7_method_14_code 82 = .ok (.aload_n 0, 1) := by decide +kernel
theorem d_M_pipe_83 : decode prog_7_method_14_code 83 = .ok (.iload_n 1, 1) := by decide +kernel
theorem d_M_pipe_84 : decode prog_7_method_14_code 84 = .ok (.aload_n 0, 1) := by decide +kernel
theorem d_M_pipe_85 : decode prog_7_method_14_code 85 = .ok (.iload_n 1, 1) := by decide +kernel
theorem d_M_pipe_86 : decode prog_7_method_14_code 86 = .ok (.invokevirtual 61, 3) := by decide +kernel
theorem d_M_pipe_89 : decode prog_7_method_14_code 89 = .ok (.iconst 1, 1) := by decide +kernel
theorem d_M_pipe_90 : decode prog_7_method_14_code 90 = .ok (.iload_n 2, 1) := by decide +kernel
theorem d_M_pipe_91 : decode prog_7_method_14_code 91 = .ok (.iconst 2, 1) := by decide +kernel
theorem d_M_pipe_92 : decode prog_7_method_14_code 92 = .ok (.invokevirtual 67, 3) := by decide +kernel
theorem d_M_pipe_95 : decode prog_7_method_14_code 95 = .ok (.istore 4, 2) := by decide +kernel
theorem d_M_pipe_97 : decode prog_7_method_14_code 97 = .ok (.iload_n 3, 1) := by decide +kernel
theorem d_M_pipe_98 : decode prog_7_method_14_code 98 = .ok (.bipush 16, 2) := by decide +kernel
theorem d_M_pipe_100 : decode prog_7_method_14_code 100 = .ok (.iload 4, 2) := by decide +kernel
theorem d_M_pipe_102 : decode prog_7_method_14_code 102 = .ok (.imul, 1) := by decide +kernel
theorem d_M_pipe_103 : decode prog_7_method_14_code 103 = .ok (.iadd, 1) := by decide +kernel
theorem d_M_pipe_104 : decode prog_7_method_14_code 104 = .ok (.ireturn, 1) := by decide +kernel
theorem d_M_isPipe_0 : decode prog_7_method_11_code 0 = .ok (.aload_n 0, 1) := by decide +kernel
theorem d_M_isPipe_1 : decode prog_7_method_11_code 1 = .ok (.iload_n 1, 1) := by decide +kernel
theorem d_M_isPipe_2 : decode prog_7_method_11_code 2 = .ok (.iconst 1, 1) := by decide +kernel
theorem d_M_isPipe_3 : decode prog_7_method_11_code 3 = .ok (.invokevirtual 53, 3) := by decide +kernel
theorem d_M_isPipe_6 : decode prog_7_method_11_code 6 = .ok (.ifCond .ge 12, 3) := by decide +kernel
theorem d_M_isPipe_9 : decode prog_7_method_11_code 9 = .ok (.aload_n 0, 1) := by decide +kernel
theorem d_M_isPipe_10 : decode prog_7_method_11_code 10 = .ok (.iload_n 1, 1) := by decide +kernel
theorem d_M_isPipe_11 : decode prog_7_method_11_code 11 = .ok (.iconst 2, 1) := by decide +kernel
theorem d_M_isPipe_12 : decode prog_7_method_11_code 12 = .ok (.invokevirtual 53, 3) := by decide +kernel
theorem d_M_isPipe_15 : decode prog_7_method_11_code 15 = .ok (.ifCond .lt 7, 3) := by decide +kernel
theorem d_M_isPipe_18 : decode prog_7_method_11_code 18 = .ok (.iconst 1, 1) := by decide +kernel
theorem d_M_isPipe_19 : decode prog_7_method_11_code 19 = .ok (.goto 4, 3) := by decide +kernel
theorem d_M_isPipe_22 : decode prog_7_method_11_code 22 = .ok (.iconst 0, 1) := by decide +kernel
theorem d_M_isPipe_23 : decode prog_7_method_11_code 23 = .ok (.ireturn, 1) := by decide +kernel
theorem d_M_end_0 : decode prog_7_method_10_code 0 = .ok (.iconst (-1), 1) := by decide +kernel
theorem d_M_end_1 : decode prog_7_method_10_code 1 = .ok (.istore_n 3, 1) := by decide +kernel
theorem d_M_end_2 : decode prog_7_method_10_code 2 = .ok (.iconst 0, 1) := by decide +kernel
theorem d_M_end_3 : decode prog_7_method_10_code 3 = .ok (.istore 4, 2) := by decide +kernel
theorem d_M_end_5 : decode prog_7_method_10_code 5 = .ok (.iload 4, 2) := by decide +kernel
theorem d_M_end_7 : decode prog_7_method_10_code 7 = .ok (.bipush 32, 2) := by decide +kernel
theorem d_M_end_9 : decode prog_7_method_10_code 9 = .ok (.if_icmp .ge 58, 3) := by decide +kernel
theorem d_M_end_12 : decode prog_7_method_10_code 12 = .ok (.aload_n 0, 1) := by decide +kernel
theorem d_M_end_13 : decode prog_7_method_10_code 13 = .ok (.getfield 13, 3) := by decide +kernel
theorem d_M_end_16 : decode prog_7_method_10_code 16 = .ok (.iload 4, 2) := by decide +kernel
theorem d_M_end_18 : decode prog_7_method_10_code 18 = .ok (.iaload, 1) := by decide +kernel
theorem d_M_end_19 : decode prog_7_method_10_code 19 = .ok (.iconst 1, 1) := by decide +kernel
theorem d_M_end_20 : decode prog_7_method_10_code 20 = .ok (.if_icmp .ne 39, 3) := by decide +kernel
theorem d_M_end_23 : decode prog_7_method_10_code 23 = .ok (.aload_n 0, 1) := by decide +kernel
theorem d_M_end_24 : decode prog_7_method_10_code 24 = .ok (.getfield 16, 3) := by decide +kernel
theorem d_M_end_27 : decode prog_7_method_10_code 27 = .ok (.iload 4, 2) := by decide +kernel
theorem d_M_end_29 : decode prog_7_method_10_code 29 = .ok (.iaload, 1) := by decide +kernel
theorem d_M_end_30 : decode prog_7_method_10_code 30 = .ok (.iload_n 1, 1) := by decide +kernel
theorem d_M_end_31 : decode prog_7_method_10_code 31 = .ok (.if_icmp .ne 28, 3) := by decide +kernel
theorem d_M_end_34 : decode prog_7_method_10_code 34 = .ok (.aload_n 0, 1) := by decide +kernel
theorem d_M_end_35 : decode prog_7_method_10_code 35 = .ok (.getfield 19, 3) := by decide +kernel
theorem d_M_end_38 : decode prog_7_method_10_code 38 = .ok (.iload 4, 2) := by decide +kernel
theorem d_M_end_40 : decode prog_7_method_10_code 40 = .ok (.iaload, 1) := by decide +kernel
theorem d_M_end_41 : decode prog_7_method_10_code 41 = .ok (.iload_n 2, 1) := by decide +kernel
theorem d_M_end_42 : decode prog_7_method_10_code 42 = .ok (.if_icmp .ne 17, 3) := by decide +kernel
theorem d_M_end_45 : decode prog_7_method_10_code 45 = .ok (.aload_n 0, 1) := by decide +kernel
theorem d_M_end_46 : decode prog_7_method_10_code 46 = .ok (.iload 4, 2) := by decide +kernel
theorem d_M_end_48 : decode prog_7_method_10_code 48 = .ok (.invokevirtual 49, 3) := by decide +kernel
theorem d_M_end_51 : decode prog_7_method_10_code 51 = .ok (.ifCond .le 8, 3) := by decide +kernel
theorem d_M_end_54 : decode prog_7_method_10_code 54 = .ok (.iload 4, 2) := by decide +kernel
theorem d_M_end_56 : decode prog_7_method_10_code 56 = .ok (.goto 4, 3) := by decide +kernel
theorem d_M_end_59 : decode prog_7_method_10_code 59 = .ok (.iload_n 3, 1) := by decide +kernel
theorem d_M_end_60 : decode prog_7_method_10_code 60 = .ok (.istore_n 3, 1) := by decide +kernel
theorem d_M_end_61 : decode prog_7_method_10_code 61 = .ok (.iinc 4 1, 3) := by decide +kernel
theorem d_M_end_64 : decode prog_7_method_10_code 64 = .ok (.goto (-59), 3) := by decide +kernel
theorem d_M_end_67 : decode prog_7_method_10_code 67 = .ok (.iload_n 3, 1) := by decide +kernel
theorem d_M_end_68 : decode prog_7_method_10_code 68 = .ok (.ireturn, 1) := by decide +kernel
theorem d_M_used_0 : decode prog_7_method_9_code 0 = .ok (.iconst 0, 1) := by decide +kernel
theorem d_M_used_1 : decode prog_7_method_9_code 1 = .ok (.istore_n 2, 1) := by decide +kernel
theorem d_M_used_2 : decode prog_7_method_9_code 2 = .ok (.iconst 0, 1) := by decide +kernel
theorem d_M_used_3 : decode prog_7_method_9_code 3 = .ok (.istore_n 3, 1) := by decide +kernel
theorem d_M_used_4 : decode prog_7_method_9_code 4 = .ok (.iload_n 3, 1) := by decide +kernel
theorem d_M_used_5 : decode prog_7_method_9_code 5 = .ok (.bipush 16, 2) := by decide +kernel
theorem d_M_used_7 : decode prog_7_method_9_code 7 = .ok (.if_icmp .ge 31, 3) := by decide +kernel
theorem d_M_used_10 : decode prog_7_method_9_code 10 = .ok (.iload_n 2, 1) := by decide +kernel
theorem d_M_used_11 : decode prog_7_method_9_code 11 = .ok (.aload_n 0, 1) := by decide +kernel
theorem d_M_used_12 : decode prog_7_method_9_code 12 = .ok (.getfield 7, 3) := by decide +kernel
theorem d_M_used_15 : decode prog_7_method_9_code 15 = .ok (.bipush 16, 2) := by decide +kernel
theorem d_M_used_17 : decode prog_7_method_9_code 17 = .ok (.iload_n 1, 1) := by decide +kernel
theorem d_M_used_18 : decode prog_7_method_9_code 18 = .ok (.imul, 1) := by decide +kernel
theorem d_M_used_19 : decode prog_7_method_9_code 19 = .ok (.iload_n 3, 1) := by decide +kernel
theorem d_M_used_20 : decode prog_7_method_9_code 20 = .ok (.iadd, 1) := by decide +kernel
theorem d_M_used_21 : decode prog_7_method_9_code 21 = .ok (.iaload, 1) := by decide +kernel
theorem d_M_used_22 : decode prog_7_method_9_code 22 = .ok (.ifCond .le 7, 3) := by decide +kernel
theorem d_M_used_25 : decode prog_7_method_9_code 25 = .ok (.iconst 1, 1) := by decide +kernel
theorem d_M_used_26 : decode prog_7_method_9_code 26 = .ok (.goto 4, 3) := by decide +kernel
theorem d_M_used_29 : decode prog_7_method_9_code 29 = .ok (.iconst 0, 1) := by decide +kernel
theorem d_M_used_30 : decode prog_7_method_9_code 30 = .ok (.iadd, 1) := by decide +kernel
theorem d_M_used_31 : decode prog_7_method_9_code 31 = .ok (.istore_n 2, 1) := by decide +kernel
theorem d_M_used_32 : decode prog_7_method_9_code 32 = .ok (.iinc 3 1, 3) := by decide +kernel
theorem d_M_used_35 : decode prog_7_method_9_code 35 = .ok (.goto (-31), 3) := by decide +kernel
theorem d_M_used_38 : decode prog_7_method_9_code 38 = .ok (.iload_n 2, 1) := by decide +kernel
theorem d_M_used_39 : decode prog_7_method_9_code 39 = .ok (.ireturn, 1) := by decide +kernel
theorem d_M_again_0 : decode prog_7_method_15_code 0 = .ok (.aload_n 0, 1) := by decide +kernel
theorem d_M_again_1 : decode prog_7_method_15_code 1 = .ok (.iconst 0, 1) := by decide +kernel
theorem d_M_again_2 : decode prog_7_method_15_code 2 = .ok (.putfield 41, 3) := by decide +kernel
theorem d_M_again_5 : decode prog_7_method_15_code 5 = .ok (.aload_n 0, 1) := by decide +kernel
theorem d_M_again_6 : decode prog_7_method_15_code 6 = .ok (.iload_n 1, 1) := by decide +kernel
theorem d_M_again_7 : decode prog_7_method_15_code 7 = .ok (.iload_n 2, 1) := by decide +kernel
theorem d_M_again_8 : decode prog_7_method_15_code 8 = .ok (.invokevirtual 77, 3) := by decide +kernel
theorem d_M_again_11 : decode prog_7_method_15_code 11 = .ok (.istore_n 3, 1) := by decide +kernel
theorem d_M_again_12 : decode prog_7_method_15_code 12 = .ok (.iload_n 3, 1) := by decide +kernel
theorem d_M_again_13 : decode prog_7_method_15_code 13 = .ok (.ifCond .lt 13, 3) := by decide +kernel
theorem d_M_again_16 : decode prog_7_method_15_code 16 = .ok (.aload_n 0, 1) := by decide +kernel
theorem d_M_again_17 : decode prog_7_method_15_code 17 = .ok (.iload_n 1, 1) := by decide +kernel
theorem d_M_again_18 : decode prog_7_method_15_code 18 = .ok (.invokevirtual 61, 3) := by decide +kernel
theorem d_M_again_21 : decode prog_7_method_15_code 21 = .ok (.bipush 16, 2) := by decide +kernel
theorem d_M_again_23 : decode prog_7_method_15_code 23 = .ok (.if_icmp .ne 5, 3) := by decide +kernel
theorem d_M_again_26 : decode prog_7_method_15_code 26 = .ok (.iconst (-1), 1) := by decide +kernel
theorem d_M_again_27 : decode prog_7_method_15_code 27 = .ok (.ireturn, 1) := by decide +kernel
theorem d_M_again_28 : decode prog_7_method_15_code 28 = .ok (.aload_n 0, 1) := by decide +kernel
theorem d_M_again_29 : decode prog_7_method_15_code 29 = .ok (.iload_n 1, 1) := by decide +kernel
theorem d_M_again_30 : decode prog_7_method_15_code 30 = .ok (.invokevirtual 61, 3) := by decide +kernel
theorem d_M_again_33 : decode prog_7_method_15_code 33 = .ok (.istore 4, 2) := by decide +kernel
theorem d_M_again_35 : decode prog_7_method_15_code 35 = .ok (.aload_n 0, 1) := by decide +kernel
theorem d_M_again_36 : decode prog_7_method_15_code 36 = .ok (.getfield 7, 3) := by decide +kernel
theorem d_M_again_39 : decode prog_7_method_15_code 39 = .ok (.bipush 16, 2) := by decide +kernel
theorem d_M_again_41 : decode prog_7_method_15_code 41 = .ok (.iload_n 1, 1) := by decide +kernel
theorem d_M_again_42 : decode prog_7_method_15_code 42 = .ok (.imul, 1) := by decide +kernel
theorem d_M_again_43 : decode prog_7_method_15_code 43 = .ok (.iload 4, 2) := by decide +kernel
theorem d_M_again_45 : decode prog_7_method_15_code 45 = .ok (.iadd, 1) := by decide +kernel
theorem d_M_again_46 : decode prog_7_method_15_code 46 = .ok (.iload_n 3, 1) := by decide +kernel
theorem d_M_again_47 : decode prog_7_method_15_code 47 = .ok (.iconst 1, 1) := by decide +kernel
theorem d_M_again_48 : decode prog_7_method_15_code 48 = .ok (.iadd, 1) := by decide +kernel
theorem d_M_again_49 : decode prog_7_method_15_code 49 = .ok (.iastore, 1) := by decide +kernel
theorem d_M_again_50 : decode prog_7_method_15_code 50 = .ok (.iload 4, 2) := by decide +kernel
theorem d_M_again_52 : decode prog_7_method_15_code 52 = .ok (.ireturn, 1) := by decide +kernel
theorem d_M_file_0 : decode prog_7_method_4_code 0 = .ok (.iload_n 1, 1) := by decide +kernel
theorem d_M_file_1 : decode prog_7_method_4_code 1 = .ok (.invokestatic 45, 3) := by decide +kernel
theorem d_M_file_4 : decode prog_7_method_4_code 4 = .ok (.ifCond .eq 29, 3) := by decide +kernel
theorem d_M_file_7 : decode prog_7_method_4_code 7 = .ok (.iload_n 2, 1) := by decide +kernel
theorem d_M_file_8 : decode prog_7_method_4_code 8 = .ok (.ifCond .lt 25, 3) := by decide +kernel
theorem d_M_file_11 : decode prog_7_method_4_code 11 = .ok (.iload_n 2, 1) := by decide +kernel
theorem d_M_file_12 : decode prog_7_method_4_code 12 = .ok (.bipush 16, 2) := by decide +kernel
theorem d_M_file_14 : decode prog_7_method_4_code 14 = .ok (.if_icmp .ge 19, 3) := by decide +kernel
theorem d_M_file_17 : decode prog_7_method_4_code 17 = .ok (.aload_n 0, 1) := by decide +kernel
theorem d_M_file_18 : decode prog_7_method_4_code 18 = .ok (.getfield 7, 3) := by decide +kernel
theorem d_M_file_21 : decode prog_7_method_4_code 21 = .ok (.bipush 16, 2) := by decide +kernel
theorem d_M_file_23 : decode prog_7_method_4_code 23 = .ok (.iload_n 1, 1) := by decide +kernel
theorem d_M_file_24 : decode prog_7_method_4_code 24 = .ok (.imul, 1) := by decide +kernel
theorem d_M_file_25 : decode prog_7_method_4_code 25 = .ok (.iload_n 2, 1) := by decide +kernel
theorem d_M_file_26 : decode prog_7_method_4_code 26 = .ok (.iadd, 1) := by decide +kernel
theorem d_M_file_27 : decode prog_7_method_4_code 27 = .ok (.iaload, 1) := by decide +kernel
theorem d_M_file_28 : decode prog_7_method_4_code 28 = .ok (.iconst 1, 1) := by decide +kernel
theorem d_M_file_29 : decode prog_7_method_4_code 29 = .ok (.isub, 1) := by decide +kernel
theorem d_M_file_30 : decode prog_7_method_4_code 30 = .ok (.goto 4, 3) := by decide +kernel
theorem d_M_file_33 : decode prog_7_method_4_code 33 = .ok (.iconst (-1), 1) := by decide +kernel
theorem d_M_file_34 : decode prog_7_method_4_code 34 = .ok (.ireturn, 1) := by decide +kernel
theorem d_M_close_0 : decode prog_7_method_17_code 0 = .ok (.aload_n 0, 1) := by decide +kernel
theorem d_M_close_1 : decode prog_7_method_17_code 1 = .ok (.iconst 0, 1) := by decide +kernel
theorem d_M_close_2 : decode prog_7_method_17_code 2 = .ok (.putfield 41, 3) := by decide +kernel
theorem d_M_close_5 : decode prog_7_method_17_code 5 = .ok (.aload_n 0, 1) := by decide +kernel
theorem d_M_close_6 : decode prog_7_method_17_code 6 = .ok (.iload_n 1, 1) := by decide +kernel
theorem d_M_close_7 : decode prog_7_method_17_code 7 = .ok (.iload_n 2, 1) := by decide +kernel
theorem d_M_close_8 : decode prog_7_method_17_code 8 = .ok (.invokevirtual 77, 3) := by decide +kernel
theorem d_M_close_11 : decode prog_7_method_17_code 11 = .ok (.istore_n 3, 1) := by decide +kernel
theorem d_M_close_12 : decode prog_7_method_17_code 12 = .ok (.iload_n 3, 1) := by decide +kernel
theorem d_M_close_13 : decode prog_7_method_17_code 13 = .ok (.ifCond .ge 5, 3) := by decide +kernel
theorem d_M_close_16 : decode prog_7_method_17_code 16 = .ok (.iconst (-1), 1) := by decide +kernel
theorem d_M_close_17 : decode prog_7_method_17_code 17 = .ok (.ireturn, 1) := by decide +kernel
theorem d_M_close_18 : decode prog_7_method_17_code 18 = .ok (.aload_n 0, 1) := by decide +kernel
theorem d_M_close_19 : decode prog_7_method_17_code 19 = .ok (.iload_n 1, 1) := by decide +kernel
theorem d_M_close_20 : decode prog_7_method_17_code 20 = .ok (.iload_n 2, 1) := by decide +kernel
theorem d_M_close_21 : decode prog_7_method_17_code 21 = .ok (.invokevirtual 80, 3) := by decide +kernel
theorem d_M_close_24 : decode prog_7_method_17_code 24 = .ok (.ifCond .eq 12, 3) := by decide +kernel
theorem d_M_close_27 : decode prog_7_method_17_code 27 = .ok (.aload_n 0, 1) := by decide +kernel
theorem d_M_close_28 : decode prog_7_method_17_code 28 = .ok (.getfield 16, 3) := by decide +kernel
theorem d_M_close_31 : decode prog_7_method_17_code 31 = .ok (.iload_n 3, 1) := by decide +kernel
theorem d_M_close_32 : decode prog_7_method_17_code 32 = .ok (.iaload, 1) := by decide +kernel
theorem d_M_close_33 : decode prog_7_method_17_code 33 = .ok (.goto 4, 3) := by decide +kernel
theorem d_M_close_36 : decode prog_7_method_17_code 36 = .ok (.iconst 0, 1) := by decide +kernel
theorem d_M_close_37 : decode prog_7_method_17_code 37 = .ok (.ireturn, 1) := by decide +kernel
theorem d_M_closes_0 : decode prog_7_method_16_code 0 = .ok (.aload_n 0, 1) := by decide +kernel
theorem d_M_closes_1 : decode prog_7_method_16_code 1 = .ok (.iload_n 1, 1) := by decide +kernel
theorem d_M_closes_2 : decode prog_7_method_16_code 2 = .ok (.iload_n 2, 1) := by decide +kernel
theorem d_M_closes_3 : decode prog_7_method_16_code 3 = .ok (.invokevirtual 77, 3) := by decide +kernel
theorem d_M_closes_6 : decode prog_7_method_16_code 6 = .ok (.istore_n 3, 1) := by decide +kernel
theorem d_M_closes_7 : decode prog_7_method_16_code 7 = .ok (.aload_n 0, 1) := by decide +kernel
theorem d_M_closes_8 : decode prog_7_method_16_code 8 = .ok (.getfield 7, 3) := by decide +kernel
theorem d_M_closes_11 : decode prog_7_method_16_code 11 = .ok (.bipush 16, 2) := by decide +kernel
theorem d_M_closes_13 : decode prog_7_method_16_code 13 = .ok (.iload_n 1, 1) := by decide +kernel
theorem d_M_closes_14 : decode prog_7_method_16_code 14 = .ok (.imul, 1) := by decide +kernel
theorem d_M_closes_15 : decode prog_7_method_16_code 15 = .ok (.iload_n 2, 1) := by decide +kernel
theorem d_M_closes_16 : decode prog_7_method_16_code 16 = .ok (.iadd, 1) := by decide +kernel
theorem d_M_closes_17 : decode prog_7_method_16_code 17 = .ok (.iconst 0, 1) := by decide +kernel
theorem d_M_closes_18 : decode prog_7_method_16_code 18 = .ok (.iastore, 1) := by decide +kernel
theorem d_M_closes_19 : decode prog_7_method_16_code 19 = .ok (.aload_n 0, 1) := by decide +kernel
theorem d_M_closes_20 : decode prog_7_method_16_code 20 = .ok (.iload_n 3, 1) := by decide +kernel
theorem d_M_closes_21 : decode prog_7_method_16_code 21 = .ok (.invokevirtual 49, 3) := by decide +kernel
theorem d_M_closes_24 : decode prog_7_method_16_code 24 = .ok (.ifCond .ne 17, 3) := by decide +kernel
theorem d_M_closes_27 : decode prog_7_method_16_code 27 = .ok (.aload_n 0, 1) := by decide +kernel
theorem d_M_closes_28 : decode prog_7_method_16_code 28 = .ok (.getfield 13, 3) := by decide +kernel
theorem d_M_closes_31 : decode prog_7_method_16_code 31 = .ok (.iload_n 3, 1) := by decide +kernel
theorem d_M_closes_32 : decode prog_7_method_16_code 32 = .ok (.iaload, 1) := by decide +kernel
theorem d_M_closes_33 : decode prog_7_method_16_code 33 = .ok (.iconst 2, 1) := by decide +kernel
theorem d_M_closes_34 : decode prog_7_method_16_code 34 = .ok (.if_icmp .ne 7, 3) := by decide +kernel
theorem d_M_closes_37 : decode prog_7_method_16_code 37 = .ok (.iconst 1, 1) := by decide +kernel
theorem d_M_closes_38 : decode prog_7_method_16_code 38 = .ok (.goto 4, 3) := by decide +kernel
theorem d_M_closes_41 : decode prog_7_method_16_code 41 = .ok (.iconst 0, 1) := by decide +kernel
theorem d_M_closes_42 : decode prog_7_method_16_code 42 = .ok (.ireturn, 1) := by decide +kernel
theorem d_M_closeAll_0 : decode prog_7_method_18_code 0 = .ok (.aload_n 0, 1) := by decide +kernel
theorem d_M_closeAll_1 : decode prog_7_method_18_code 1 = .ok (.iconst 0, 1) := by decide +kernel
theorem d_M_closeAll_2 : decode prog_7_method_18_code 2 = .ok (.putfield 41, 3) := by decide +kernel
theorem d_M_closeAll_5 : decode prog_7_method_18_code 5 = .ok (.iload_n 1, 1) := by decide +kernel
theorem d_M_closeAll_6 : decode prog_7_method_18_code 6 = .ok (.invokestatic 45, 3) := by decide +kernel
theorem d_M_closeAll_9 : decode prog_7_method_18_code 9 = .ok (.ifCond .ne 5, 3) := by decide +kernel
theorem d_M_closeAll_12 : decode prog_7_method_18_code 12 = .ok (.iconst (-1), 1) := by decide +kernel
theorem d_M_closeAll_13 : decode prog_7_method_18_code 13 = .ok (.ireturn, 1) := by decide +kernel
theorem d_M_closeAll_14 : decode prog_7_method_18_code 14 = .ok (.aload_n 0, 1) := by decide +kernel
theorem d_M_closeAll_15 : decode prog_7_method_18_code 15 = .ok (.iconst 0, 1) := by decide +kernel
theorem d_M_closeAll_16 : decode prog_7_method_18_code 16 = .ok (.putfield 84, 3) := by decide +kernel
theorem d_M_closeAll_19 : decode prog_7_method_18_code 19 = .ok (.iconst 0, 1) := by decide +kernel
theorem d_M_closeAll_20 : decode prog_7_method_18_code 20 = .ok (.istore_n 2, 1) := by decide +kernel
theorem d_M_closeAll_21 : decode prog_7_method_18_code 21 = .ok (.iload_n 2, 1) := by decide +kernel
theorem d_M_closeAll_22 : decode prog_7_method_18_code 22 = .ok (.bipush 16, 2) := by decide +kernel
theorem d_M_closeAll_24 : decode prog_7_method_18_code 24 = .ok (.if_icmp .ge 54, 3) := by decide +kernel
theorem d_M_closeAll_27 : decode prog_7_method_18_code 27 = .ok (.aload_n 0, 1) := by decide +kernel
theorem d_M_closeAll_28 : decode prog_7_method_18_code 28 = .ok (.iload_n 1, 1) := by decide +kernel
theorem d_M_closeAll_29 : decode prog_7_method_18_code 29 = .ok (.iload_n 2, 1) := by decide +kernel
theorem d_M_closeAll_30 : decode prog_7_method_18_code 30 = .ok (.invokevirtual 77, 3) := by decide +kernel
theorem d_M_closeAll_33 : decode prog_7_method_18_code 33 = .ok (.istore_n 3, 1) := by decide +kernel
theorem d_M_closeAll_34 : decode prog_7_method_18_code 34 = .ok (.iload_n 3, 1) := by decide +kernel
theorem d_M_closeAll_35 : decode prog_7_method_18_code 35 = .ok (.ifCond .lt 37, 3) := by decide +kernel
theorem d_M_closeAll_38 : decode prog_7_method_18_code 38 = .ok (.aload_n 0, 1) := by decide +kernel
theorem d_M_closeAll_39 : decode prog_7_method_18_code 39 = .ok (.iload_n 1, 1) := by decide +kernel
theorem d_M_closeAll_40 : decode prog_7_method_18_code 40 = .ok (.iload_n 2, 1) := by decide +kernel
theorem d_M_closeAll_41 : decode prog_7_method_18_code 41 = .ok (.invokevirtual 80, 3) := by decide +kernel
theorem d_M_closeAll_44 : decode prog_7_method_18_code 44 = .ok (.ifCond .eq 28, 3) := by decide +kernel
theorem d_M_closeAll_47 : decode prog_7_method_18_code 47 = .ok (.aload_n 0, 1) := by decide +kernel
theorem d_M_closeAll_48 : decode prog_7_method_18_code 48 = .ok (.getfield 32, 3) := by decide +kernel
theorem d_M_closeAll_51 : decode prog_7_method_18_code 51 = .ok (.aload_n 0, 1) := by decide +kernel
theorem d_M_closeAll_52 : decode prog_7_method_18_code 52 = .ok (.getfield 84, 3) := by decide +kernel
theorem d_M_closeAll_55 : decode prog_7_method_18_code 55 = .ok (.aload_n 0, 1) := by decide +kernel
theorem d_M_closeAll_56 : decode prog_7_method_18_code 56 = .ok (.getfield 16, 3) := by decide +kernel
theorem d_M_closeAll_59 : decode prog_7_method_18_code 59 = .ok (.iload_n 3, 1) := by decide +kernel
theorem d_M_closeAll_60 : decode prog_7_method_18_code 60 = .ok (.iaload, 1) := by decide +kernel
theorem d_M_closeAll_61 : decode prog_7_method_18_code 61 = .ok (.iastore, 1) := by decide +kernel
theorem d_M_closeAll_62 : decode prog_7_method_18_code 62 = .ok (.aload_n 0, 1) := by decide +kernel
theorem d_M_closeAll_63 : decode prog_7_method_18_code 63 = .ok (.dup, 1) := by decide +kernel
theorem d_M_closeAll_64 : decode prog_7_method_18_code 64 = .ok (.getfield 84, 3) := by decide +kernel
theorem d_M_closeAll_67 : decode prog_7_method_18_code 67 = .ok (.iconst 1, 1) := by decide +kernel
theorem d_M_closeAll_68 : decode prog_7_method_18_code 68 = .ok (.iadd, 1) := by decide +kernel
theorem d_M_closeAll_69 : decode prog_7_method_18_code 69 = .ok (.putfield 84, 3) := by decide +kernel
theorem d_M_closeAll_72 : decode prog_7_method_18_code 72 = .ok (.iinc 2 1, 3) := by decide +kernel
theorem d_M_closeAll_75 : decode prog_7_method_18_code 75 = .ok (.goto (-54), 3) := by decide +kernel
theorem d_M_closeAll_78 : decode prog_7_method_18_code 78 = .ok (.aload_n 0, 1) := by decide +kernel
theorem d_M_closeAll_79 : decode prog_7_method_18_code 79 = .ok (.getfield 84, 3) := by decide +kernel
theorem d_M_closeAll_82 : decode prog_7_method_18_code 82 = .ok (.ireturn, 1) := by decide +kernel
theorem d_M_left_0 : decode prog_7_method_19_code 0 = .ok (.aload_n 0, 1) := by decide +kernel
theorem d_M_left_1 : decode prog_7_method_19_code 1 = .ok (.iconst 0, 1) := by decide +kernel
theorem d_M_left_2 : decode prog_7_method_19_code 2 = .ok (.putfield 41, 3) := by decide +kernel
theorem d_M_left_5 : decode prog_7_method_19_code 5 = .ok (.iload_n 1, 1) := by decide +kernel
theorem d_M_left_6 : decode prog_7_method_19_code 6 = .ok (.ifCond .lt 20, 3) := by decide +kernel
theorem d_M_left_9 : decode prog_7_method_19_code 9 = .ok (.iload_n 1, 1) := by decide +kernel
theorem d_M_left_10 : decode prog_7_method_19_code 10 = .ok (.aload_n 0, 1) := by decide +kernel
theorem d_M_left_11 : decode prog_7_method_19_code 11 = .ok (.getfield 84, 3) := by decide +kernel
theorem d_M_left_14 : decode prog_7_method_19_code 14 = .ok (.if_icmp .ge 12, 3) := by decide +kernel
theorem d_M_left_17 : decode prog_7_method_19_code 17 = .ok (.aload_n 0, 1) := by decide +kernel
theorem d_M_left_18 : decode prog_7_method_19_code 18 = .ok (.getfield 32, 3) := by decide +kernel
theorem d_M_left_21 : decode prog_7_method_19_code 21 = .ok (.iload_n 1, 1) := by decide +kernel
theorem d_M_left_22 : decode prog_7_method_19_code 22 = .ok (.iaload, 1) := by decide +kernel
theorem d_M_left_23 : decode prog_7_method_19_code 23 = .ok (.goto 4, 3) := by decide +kernel
theorem d_M_left_26 : decode prog_7_method_19_code 26 = .ok (.iconst 0, 1) := by decide +kernel
theorem d_M_left_27 : decode prog_7_method_19_code 27 = .ok (.ireturn, 1) := by decide +kernel
theorem d_M_copy_0 : decode prog_7_method_20_code 0 = .ok (.aload_n 0, 1) := by decide +kernel
theorem d_M_copy_1 : decode prog_7_method_20_code 1 = .ok (.iconst 0, 1) := by decide +kernel
theorem d_M_copy_2 : decode prog_7_method_20_code 2 = .ok (.putfield 41, 3) := by decide +kernel
theorem d_M_copy_5 : decode prog_7_method_20_code 5 = .ok (.iload_n 1, 1) := by decide +kernel
theorem d_M_copy_6 : decode prog_7_method_20_code 6 = .ok (.invokestatic 45, 3) := by decide +kernel
theorem d_M_copy_9 : decode prog_7_method_20_code 9 = .ok (.ifCond .eq 23, 3) := by decide +kernel
theorem d_M_copy_12 : decode prog_7_method_20_code 12 = .ok (.iload_n 2, 1) := by decide +kernel
theorem d_M_copy_13 : decode prog_7_method_20_code 13 = .ok (.invokestatic 45, 3) := by decide +kernel
theorem d_M_copy_16 : decode prog_7_method_20_code 16 = .ok (.ifCond .eq 16, 3) := by decide +kernel
theorem d_M_copy_19 : decode prog_7_method_20_code 19 = .ok (.iload_n 1, 1) := by decide +kernel
theorem d_M_copy_20 : decode prog_7_method_20_code 20 = .ok (.iload_n 2, 1) := by decide +kernel
theorem d_M_copy_21 : decode prog_7_method_20_code 21 = .ok (.if_icmp .eq 11, 3) := by decide +kernel
theorem d_M_copy_24 : decode prog_7_method_20_code 24 = .ok (.aload_n 0, 1) := by decide +kernel
theorem d_M_copy_25 : decode prog_7_method_20_code 25 = .ok (.iload_n 1, 1) := by decide +kernel
theorem d_M_copy_26 : decode prog_7_method_20_code 26 = .ok (.invokevirtual 74, 3) := by decide +kernel
theorem d_M_copy_29 : decode prog_7_method_20_code 29 = .ok (.ifCond .le 5, 3) := by decide +kernel
theorem d_M_copy_32 : decode prog_7_method_20_code 32 = .ok (.iconst (-1), 1) := by decide +kernel
theorem d_M_copy_33 : decode prog_7_method_20_code 33 = .ok (.ireturn, 1) := by decide +kernel
theorem d_M_copy_34 : decode prog_7_method_20_code 34 = .ok (.iconst 0, 1) := by decide +kernel
theorem d_M_copy_35 : decode prog_7_method_20_code 35 = .ok (.istore_n 3, 1) := by decide +kernel
theorem d_M_copy_36 : decode prog_7_method_20_code 36 = .ok (.iload_n 3, 1) := by decide +kernel
theorem d_M_copy_37 : decode prog_7_method_20_code 37 = .ok (.bipush 16, 2) := by decide +kernel
theorem d_M_copy_39 : decode prog_7_method_20_code 39 = .ok (.if_icmp .ge 31, 3) := by decide +kernel
theorem d_M_copy_42 : decode prog_7_method_20_code 42 = .ok (.aload_n 0, 1) := by decide +kernel
theorem d_M_copy_43 : decode prog_7_method_20_code 43 = .ok (.getfield 7, 3) := by decide +kernel
theorem d_M_copy_46 : decode prog_7_method_20_code 46 = .ok (.bipush 16, 2) := by decide +kernel
theorem d_M_copy_48 : decode prog_7_method_20_code 48 = .ok (.iload_n 1, 1) := by decide +kernel
theorem d_M_copy_49 : decode prog_7_method_20_code 49 = .ok (.imul, 1) := by decide +kernel
theorem d_M_copy_50 : decode prog_7_method_20_code 50 = .ok (.iload_n 3, 1) := by decide +kernel
theorem d_M_copy_51 : decode prog_7_method_20_code 51 = .ok (.iadd, 1) := by decide +kernel
theorem d_M_copy_52 : decode prog_7_method_20_code 52 = .ok (.aload_n 0, 1) := by decide +kernel
theorem d_M_copy_53 : decode prog_7_method_20_code 53 = .ok (.getfield 7, 3) := by decide +kernel
theorem d_M_copy_56 : decode prog_7_method_20_code 56 = .ok (.bipush 16, 2) := by decide +kernel
theorem d_M_copy_58 : decode prog_7_method_20_code 58 = .ok (.iload_n 2, 1) := by decide +kernel
theorem d_M_copy_59 : decode prog_7_method_20_code 59 = .ok (.imul, 1) := by decide +kernel
theorem d_M_copy_60 : decode prog_7_method_20_code 60 = .ok (.iload_n 3, 1) := by decide +kernel
theorem d_M_copy_61 : decode prog_7_method_20_code 61 = .ok (.iadd, 1) := by decide +kernel
theorem d_M_copy_62 : decode prog_7_method_20_code 62 = .ok (.iaload, 1) := by decide +kernel
theorem d_M_copy_63 : decode prog_7_method_20_code 63 = .ok (.iastore, 1) := by decide +kernel
theorem d_M_copy_64 : decode prog_7_method_20_code 64 = .ok (.iinc 3 1, 3) := by decide +kernel
theorem d_M_copy_67 : decode prog_7_method_20_code 67 = .ok (.goto (-31), 3) := by decide +kernel
theorem d_M_copy_70 : decode prog_7_method_20_code 70 = .ok (.aload_n 0, 1) := by decide +kernel
theorem d_M_copy_71 : decode prog_7_method_20_code 71 = .ok (.iload_n 2, 1) := by decide +kernel
theorem d_M_copy_72 : decode prog_7_method_20_code 72 = .ok (.invokevirtual 74, 3) := by decide +kernel
theorem d_M_copy_75 : decode prog_7_method_20_code 75 = .ok (.ireturn, 1) := by decide +kernel
theorem d_M_about_0 : decode prog_7_method_21_code 0 = .ok (.aload_n 0, 1) := by decide +kernel
theorem d_M_about_1 : decode prog_7_method_21_code 1 = .ok (.iconst 0, 1) := by decide +kernel
theorem d_M_about_2 : decode prog_7_method_21_code 2 = .ok (.putfield 41, 3) := by decide +kernel
theorem d_M_about_5 : decode prog_7_method_21_code 5 = .ok (.aload_n 0, 1) := by decide +kernel
theorem d_M_about_6 : decode prog_7_method_21_code 6 = .ok (.iload_n 1, 1) := by decide +kernel
theorem d_M_about_7 : decode prog_7_method_21_code 7 = .ok (.iload_n 2, 1) := by decide +kernel
theorem d_M_about_8 : decode prog_7_method_21_code 8 = .ok (.invokevirtual 77, 3) := by decide +kernel
theorem d_M_about_11 : decode prog_7_method_21_code 11 = .ok (.istore 4, 2) := by decide +kernel
theorem d_M_about_13 : decode prog_7_method_21_code 13 = .ok (.iload 4, 2) := by decide +kernel
theorem d_M_about_15 : decode prog_7_method_21_code 15 = .ok (.ifCond .ge 5, 3) := by decide +kernel
theorem d_M_about_18 : decode prog_7_method_21_code 18 = .ok (.iconst (-1), 1) := by decide +kernel
theorem d_M_about_19 : decode prog_7_method_21_code 19 = .ok (.ireturn, 1) := by decide +kernel
theorem d_M_about_20 : decode prog_7_method_21_code 20 = .ok (.iload_n 3, 1) := by decide +kernel
theorem d_M_about_21 : decode prog_7_method_21_code 21 = .ok (.tableswitch 97 0 6 #[43, 51, 59, 69, 79, 87, 94], 43) := by decide +kernel
theorem d_M_about_64 : decode prog_7_method_21_code 64 = .ok (.aload_n 0, 1) := by decide +kernel
theorem d_M_about_65 : decode prog_7_method_21_code 65 = .ok (.getfield 13, 3) := by decide +kernel
theorem d_M_about_68 : decode prog_7_method_21_code 68 = .ok (.iload 4, 2) := by decide +kernel
theorem d_M_about_70 : decode prog_7_method_21_code 70 = .ok (.iaload, 1) := by decide +kernel
theorem d_M_about_71 : decode prog_7_method_21_code 71 = .ok (.ireturn, 1) := by decide +kernel
theorem d_M_about_72 : decode prog_7_method_21_code 72 = .ok (.aload_n 0, 1) := by decide +kernel
theorem d_M_about_73 : decode prog_7_method_21_code 73 = .ok (.getfield 16, 3) := by decide +kernel
theorem d_M_about_76 : decode prog_7_method_21_code 76 = .ok (.iload 4, 2) := by decide +kernel
theorem d_M_about_78 : decode prog_7_method_21_code 78 = .ok (.iaload, 1) := by decide +kernel
theorem d_M_about_79 : decode prog_7_method_21_code 79 = .ok (.ireturn, 1) := by decide +kernel
theorem d_M_about_80 : decode prog_7_method_21_code 80 = .ok (.aload_n 0, 1) := by decide +kernel
theorem d_M_about_81 : decode prog_7_method_21_code 81 = .ok (.getfield 19, 3) := by decide +kernel
theorem d_M_about_84 : decode prog_7_method_21_code 84 = .ok (.iload 4, 2) := by decide +kernel
theorem d_M_about_86 : decode prog_7_method_21_code 86 = .ok (.iaload, 1) := by decide +kernel
theorem d_M_about_87 : decode prog_7_method_21_code 87 = .ok (.iconst 2, 1) := by decide +kernel
theorem d_M_about_88 : decode prog_7_method_21_code 88 = .ok (.irem, 1) := by decide +kernel
theorem d_M_about_89 : decode prog_7_method_21_code 89 = .ok (.ireturn, 1) := by decide +kernel
theorem d_M_about_90 : decode prog_7_method_21_code 90 = .ok (.aload_n 0, 1) := by decide +kernel
theorem d_M_about_91 : decode prog_7_method_21_code 91 = .ok (.getfield 19, 3) := by decide +kernel
theorem d_M_about_94 : decode prog_7_method_21_code 94 = .ok (.iload 4, 2) := by decide +kernel
theorem d_M_about_96 : decode prog_7_method_21_code 96 = .ok (.iaload, 1) := by decide +kernel
theorem d_M_about_97 : decode prog_7_method_21_code 97 = .ok (.iconst 2, 1) := by decide +kernel
theorem d_M_about_98 : decode prog_7_method_21_code 98 = .ok (.idiv, 1) := by decide +kernel
theorem d_M_about_99 : decode prog_7_method_21_code 99 = .ok (.ireturn, 1) := by decide +kernel
theorem d_M_about_100 : decode prog_7_method_21_code 100 = .ok (.aload_n 0, 1) := by decide +kernel
theorem d_M_about_101 : decode prog_7_method_21_code 101 = .ok (.getfield 22, 3) := by decide +kernel
theorem d_M_about_104 : decode prog_7_method_21_code 104 = .ok (.iload 4, 2) := by decide +kernel
theorem d_M_about_106 : decode prog_7_method_21_code 106 = .ok (.iaload, 1) := by decide +kernel
theorem d_M_about_107 : decode prog_7_method_21_code 107 = .ok (.ireturn, 1) := by decide +kernel
theorem d_M_about_108 : decode prog_7_method_21_code 108 = .ok (.aload_n 0, 1) := by decide +kernel
theorem d_M_about_109 : decode prog_7_method_21_code 109 = .ok (.iload 4, 2) := by decide +kernel
theorem d_M_about_111 : decode prog_7_method_21_code 111 = .ok (.invokevirtual 49, 3) := by decide +kernel
theorem d_M_about_114 : decode prog_7_method_21_code 114 = .ok (.ireturn, 1) := by decide +kernel
theorem d_M_about_115 : decode prog_7_method_21_code 115 = .ok (.iload 4, 2) := by decide +kernel
theorem d_M_about_117 : decode prog_7_method_21_code 117 = .ok (.ireturn, 1) := by decide +kernel
theorem d_M_about_118 : decode prog_7_method_21_code 118 = .ok (.iconst (-1), 1) := by decide +kernel
theorem d_M_about_119 : decode prog_7_method_21_code 119 = .ok (.ireturn, 1) := by decide +kernel
theorem d_M_move_0 : decode prog_7_method_22_code 0 = .ok (.aload_n 0, 1) := by decide +kernel
theorem d_M_move_1 : decode prog_7_method_22_code 1 = .ok (.iconst 0, 1) := by decide +kernel
theorem d_M_move_2 : decode prog_7_method_22_code 2 = .ok (.putfield 41, 3) := by decide +kernel
theorem d_M_move_5 : decode prog_7_method_22_code 5 = .ok (.aload_n 0, 1) := by decide +kernel
theorem d_M_move_6 : decode prog_7_method_22_code 6 = .ok (.iload_n 1, 1) := by decide +kernel
theorem d_M_move_7 : decode prog_7_method_22_code 7 = .ok (.iload_n 2, 1) := by decide +kernel
theorem d_M_move_8 : decode prog_7_method_22_code 8 = .ok (.invokevirtual 77, 3) := by decide +kernel
theorem d_M_move_11 : decode prog_7_method_22_code 11 = .ok (.istore 4, 2) := by decide +kernel
theorem d_M_move_13 : decode prog_7_method_22_code 13 = .ok (.iload 4, 2) := by decide +kernel
theorem d_M_move_15 : decode prog_7_method_22_code 15 = .ok (.ifCond .lt 18, 3) := by decide +kernel
theorem d_M_move_18 : decode prog_7_method_22_code 18 = .ok (.aload_n 0, 1) := by decide +kernel
theorem d_M_move_19 : decode prog_7_method_22_code 19 = .ok (.getfield 13, 3) := by decide +kernel
theorem d_M_move_22 : decode prog_7_method_22_code 22 = .ok (.iload 4, 2) := by decide +kernel
theorem d_M_move_24 : decode prog_7_method_22_code 24 = .ok (.iaload, 1) := by decide +kernel
theorem d_M_move_25 : decode prog_7_method_22_code 25 = .ok (.iconst 2, 1) := by decide +kernel
theorem d_M_move_26 : decode prog_7_method_22_code 26 = .ok (.if_icmp .ne 7, 3) := by decide +kernel
theorem d_M_move_29 : decode prog_7_method_22_code 29 = .ok (.iload_n 3, 1) := by decide +kernel
theorem d_M_move_30 : decode prog_7_method_22_code 30 = .ok (.ifCond .ge 5, 3) := by decide +kernel
theorem d_M_move_33 : decode prog_7_method_22_code 33 = .ok (.iconst 0, 1) := by decide +kernel
theorem d_M_move_34 : decode prog_7_method_22_code 34 = .ok (.ireturn, 1) := by decide +kernel
theorem d_M_move_35 : decode prog_7_method_22_code 35 = .ok (.aload_n 0, 1) := by decide +kernel
theorem d_M_move_36 : decode prog_7_method_22_code 36 = .ok (.getfield 22, 3) := by decide +kernel
theorem d_M_move_39 : decode prog_7_method_22_code 39 = .ok (.iload 4, 2) := by decide +kernel
theorem d_M_move_41 : decode prog_7_method_22_code 41 = .ok (.iload_n 3, 1) := by decide +kernel
theorem d_M_move_42 : decode prog_7_method_22_code 42 = .ok (.iastore, 1) := by decide +kernel
theorem d_M_move_43 : decode prog_7_method_22_code 43 = .ok (.iconst 1, 1) := by decide +kernel
theorem d_M_move_44 : decode prog_7_method_22_code 44 = .ok (.ireturn, 1) := by decide +kernel
theorem d_M_put_0 : decode prog_7_method_23_code 0 = .ok (.aload_n 0, 1) := by decide +kernel
theorem d_M_put_1 : decode prog_7_method_23_code 1 = .ok (.iconst 0, 1) := by decide +kernel
theorem d_M_put_2 : decode prog_7_method_23_code 2 = .ok (.putfield 41, 3) := by decide +kernel
theorem d_M_put_5 : decode prog_7_method_23_code 5 = .ok (.aload_n 0, 1) := by decide +kernel
theorem d_M_put_6 : decode prog_7_method_23_code 6 = .ok (.iload_n 1, 1) := by decide +kernel
theorem d_M_put_7 : decode prog_7_method_23_code 7 = .ok (.iload_n 2, 1) := by decide +kernel
theorem d_M_put_8 : decode prog_7_method_23_code 8 = .ok (.invokevirtual 77, 3) := by decide +kernel
theorem d_M_put_11 : decode prog_7_method_23_code 11 = .ok (.istore 4, 2) := by decide +kernel
theorem d_M_put_13 : decode prog_7_method_23_code 13 = .ok (.iload 4, 2) := by decide +kernel
theorem d_M_put_15 : decode prog_7_method_23_code 15 = .ok (.ifCond .lt 25, 3) := by decide +kernel
theorem d_M_put_18 : decode prog_7_method_23_code 18 = .ok (.aload_n 0, 1) := by decide +kernel
theorem d_M_put_19 : decode prog_7_method_23_code 19 = .ok (.getfield 13, 3) := by decide +kernel
theorem d_M_put_22 : decode prog_7_method_23_code 22 = .ok (.iload 4, 2) := by decide +kernel
theorem d_M_put_24 : decode prog_7_method_23_code 24 = .ok (.iaload, 1) := by decide +kernel
theorem d_M_put_25 : decode prog_7_method_23_code 25 = .ok (.iconst 1, 1) := by decide +kernel
theorem d_M_put_26 : decode prog_7_method_23_code 26 = .ok (.if_icmp .ne 14, 3) := by decide +kernel
theorem d_M_put_29 : decode prog_7_method_23_code 29 = .ok (.aload_n 0, 1) := by decide +kernel
theorem d_M_put_30 : decode prog_7_method_23_code 30 = .ok (.getfield 19, 3) := by decide +kernel
end
section
theorem d_M_put_33 : decode prog_7_method_23_code 33 = .ok (.iload 4, 2) := by decide +kernel
theorem d_M_put_35 : decode prog_7_method_23_code 35 = .ok (.iaload, 1) := by decide +kernel
theorem d_M_put_36 : decode prog_7_method_23_code 36 = .ok (.iconst 2, 1) := by decide +kernel
theorem d_M_put_37 : decode prog_7_method_23_code 37 = .ok (.if_icmp .eq 5, 3) := by decide +kernel
theorem d_M_put_40 : decode prog_7_method_23_code 40 = .ok (.iconst (-1), 1) := by decide +kernel
theorem d_M_put_41 : decode prog_7_method_23_code 41 = .ok (.ireturn, 1) := by decide +kernel
theorem d_M_put_42 : decode prog_7_method_23_code 42 = .ok (.aload_n 0, 1) := by decide +kernel
theorem d_M_put_43 : decode prog_7_method_23_code 43 = .ok (.getfield 16, 3) := by decide +kernel
theorem d_M_put_46 : decode prog_7_method_23_code 46 = .ok (.iload 4, 2) := by decide +kernel
theorem d_M_put_48 : decode prog_7_method_23_code 48 = .ok (.iaload, 1) := by decide +kernel
theorem d_M_put_49 : decode prog_7_method_23_code 49 = .ok (.istore 5, 2) := by decide +kernel
theorem d_M_put_51 : decode prog_7_method_23_code 51 = .ok (.aload_n 0, 1) := by decide +kernel
theorem d_M_put_52 : decode prog_7_method_23_code 52 = .ok (.iload 5, 2) := by decide +kernel
theorem d_M_put_54 : decode prog_7_method_23_code 54 = .ok (.iconst 1, 1) := by decide +kernel
theorem d_M_put_55 : decode prog_7_method_23_code 55 = .ok (.invokevirtual 53, 3) := by decide +kernel
theorem d_M_put_58 : decode prog_7_method_23_code 58 = .ok (.ifCond .ge 6, 3) := by decide +kernel
theorem d_M_put_61 : decode prog_7_method_23_code 61 = .ok (.bipush (-2), 2) := by decide +kernel
theorem d_M_put_63 : decode prog_7_method_23_code 63 = .ok (.ireturn, 1) := by decide +kernel
theorem d_M_put_64 : decode prog_7_method_23_code 64 = .ok (.aload_n 0, 1) := by decide +kernel
theorem d_M_put_65 : decode prog_7_method_23_code 65 = .ok (.getfield 25, 3) := by decide +kernel
theorem d_M_put_68 : decode prog_7_method_23_code 68 = .ok (.iload 5, 2) := by decide +kernel
theorem d_M_put_70 : decode prog_7_method_23_code 70 = .ok (.iaload, 1) := by decide +kernel
theorem d_M_put_71 : decode prog_7_method_23_code 71 = .ok (.sipush 512, 3) := by decide +kernel
theorem d_M_put_74 : decode prog_7_method_23_code 74 = .ok (.if_icmp .ne 6, 3) := by decide +kernel
theorem d_M_put_77 : decode prog_7_method_23_code 77 = .ok (.bipush (-3), 2) := by decide +kernel
theorem d_M_put_79 : decode prog_7_method_23_code 79 = .ok (.ireturn, 1) := by decide +kernel
theorem d_M_put_80 : decode prog_7_method_23_code 80 = .ok (.aload_n 0, 1) := by decide +kernel
theorem d_M_put_81 : decode prog_7_method_23_code 81 = .ok (.getfield 28, 3) := by decide +kernel
theorem d_M_put_84 : decode prog_7_method_23_code 84 = .ok (.sipush 512, 3) := by decide +kernel
theorem d_M_put_87 : decode prog_7_method_23_code 87 = .ok (.iload 5, 2) := by decide +kernel
theorem d_M_put_89 : decode prog_7_method_23_code 89 = .ok (.imul, 1) := by decide +kernel
theorem d_M_put_90 : decode prog_7_method_23_code 90 = .ok (.aload_n 0, 1) := by decide +kernel
theorem d_M_put_91 : decode prog_7_method_23_code 91 = .ok (.getfield 25, 3) := by decide +kernel
theorem d_M_put_94 : decode prog_7_method_23_code 94 = .ok (.iload 5, 2) := by decide +kernel
theorem d_M_put_96 : decode prog_7_method_23_code 96 = .ok (.iaload, 1) := by decide +kernel
theorem d_M_put_97 : decode prog_7_method_23_code 97 = .ok (.iadd, 1) := by decide +kernel
theorem d_M_put_98 : decode prog_7_method_23_code 98 = .ok (.iload_n 3, 1) := by decide +kernel
theorem d_M_put_99 : decode prog_7_method_23_code 99 = .ok (.i2b, 1) := by decide +kernel
theorem d_M_put_100 : decode prog_7_method_23_code 100 = .ok (.bastore, 1) := by decide +kernel
theorem d_M_put_101 : decode prog_7_method_23_code 101 = .ok (.aload_n 0, 1) := by decide +kernel
theorem d_M_put_102 : decode prog_7_method_23_code 102 = .ok (.getfield 25, 3) := by decide +kernel
theorem d_M_put_105 : decode prog_7_method_23_code 105 = .ok (.iload 5, 2) := by decide +kernel
theorem d_M_put_107 : decode prog_7_method_23_code 107 = .ok (.dup2, 1) := by decide +kernel
theorem d_M_put_108 : decode prog_7_method_23_code 108 = .ok (.iaload, 1) := by decide +kernel
theorem d_M_put_109 : decode prog_7_method_23_code 109 = .ok (.iconst 1, 1) := by decide +kernel
theorem d_M_put_110 : decode prog_7_method_23_code 110 = .ok (.iadd, 1) := by decide +kernel
theorem d_M_put_111 : decode prog_7_method_23_code 111 = .ok (.iastore, 1) := by decide +kernel
theorem d_M_put_112 : decode prog_7_method_23_code 112 = .ok (.iconst 0, 1) := by decide +kernel
theorem d_M_put_113 : decode prog_7_method_23_code 113 = .ok (.ireturn, 1) := by decide +kernel
theorem d_M_take_0 : decode prog_7_method_24_code 0 = .ok (.aload_n 0, 1) := by decide +kernel
theorem d_M_take_1 : decode prog_7_method_24_code 1 = .ok (.iconst 0, 1) := by decide +kernel
theorem d_M_take_2 : decode prog_7_method_24_code 2 = .ok (.putfield 41, 3) := by decide +kernel
theorem d_M_take_5 : decode prog_7_method_24_code 5 = .ok (.aload_n 0, 1) := by decide +kernel
theorem d_M_take_6 : decode prog_7_method_24_code 6 = .ok (.iload_n 1, 1) := by decide +kernel
theorem d_M_take_7 : decode prog_7_method_24_code 7 = .ok (.iload_n 2, 1) := by decide +kernel
theorem d_M_take_8 : decode prog_7_method_24_code 8 = .ok (.invokevirtual 77, 3) := by decide +kernel
theorem d_M_take_11 : decode prog_7_method_24_code 11 = .ok (.istore_n 3, 1) := by decide +kernel
theorem d_M_take_12 : decode prog_7_method_24_code 12 = .ok (.iload_n 3, 1) := by decide +kernel
theorem d_M_take_13 : decode prog_7_method_24_code 13 = .ok (.ifCond .lt 23, 3) := by decide +kernel
theorem d_M_take_16 : decode prog_7_method_24_code 16 = .ok (.aload_n 0, 1) := by decide +kernel
theorem d_M_take_17 : decode prog_7_method_24_code 17 = .ok (.getfield 13, 3) := by decide +kernel
theorem d_M_take_20 : decode prog_7_method_24_code 20 = .ok (.iload_n 3, 1) := by decide +kernel
theorem d_M_take_21 : decode prog_7_method_24_code 21 = .ok (.iaload, 1) := by decide +kernel
theorem d_M_take_22 : decode prog_7_method_24_code 22 = .ok (.iconst 1, 1) := by decide +kernel
theorem d_M_take_23 : decode prog_7_method_24_code 23 = .ok (.if_icmp .ne 13, 3) := by decide +kernel
theorem d_M_take_26 : decode prog_7_method_24_code 26 = .ok (.aload_n 0, 1) := by decide +kernel
theorem d_M_take_27 : decode prog_7_method_24_code 27 = .ok (.getfield 19, 3) := by decide +kernel
theorem d_M_take_30 : decode prog_7_method_24_code 30 = .ok (.iload_n 3, 1) := by decide +kernel
theorem d_M_take_31 : decode prog_7_method_24_code 31 = .ok (.iaload, 1) := by decide +kernel
theorem d_M_take_32 : decode prog_7_method_24_code 32 = .ok (.iconst 1, 1) := by decide +kernel
theorem d_M_take_33 : decode prog_7_method_24_code 33 = .ok (.if_icmp .eq 5, 3) := by decide +kernel
theorem d_M_take_36 : decode prog_7_method_24_code 36 = .ok (.iconst (-1), 1) := by decide +kernel
theorem d_M_take_37 : decode prog_7_method_24_code 37 = .ok (.ireturn, 1) := by decide +kernel
theorem d_M_take_38 : decode prog_7_method_24_code 38 = .ok (.aload_n 0, 1) := by decide +kernel
theorem d_M_take_39 : decode prog_7_method_24_code 39 = .ok (.getfield 16, 3) := by decide +kernel
theorem d_M_take_42 : decode prog_7_method_24_code 42 = .ok (.iload_n 3, 1) := by decide +kernel
theorem d_M_take_43 : decode prog_7_method_24_code 43 = .ok (.iaload, 1) := by decide +kernel
theorem d_M_take_44 : decode prog_7_method_24_code 44 = .ok (.istore 4, 2) := by decide +kernel
theorem d_M_take_46 : decode prog_7_method_24_code 46 = .ok (.aload_n 0, 1) := by decide +kernel
theorem d_M_take_47 : decode prog_7_method_24_code 47 = .ok (.getfield 25, 3) := by decide +kernel
theorem d_M_take_50 : decode prog_7_method_24_code 50 = .ok (.iload 4, 2) := by decide +kernel
theorem d_M_take_52 : decode prog_7_method_24_code 52 = .ok (.iaload, 1) := by decide +kernel
theorem d_M_take_53 : decode prog_7_method_24_code 53 = .ok (.ifCond .ne 21, 3) := by decide +kernel
theorem d_M_take_56 : decode prog_7_method_24_code 56 = .ok (.aload_n 0, 1) := by decide +kernel
theorem d_M_take_57 : decode prog_7_method_24_code 57 = .ok (.iload 4, 2) := by decide +kernel
theorem d_M_take_59 : decode prog_7_method_24_code 59 = .ok (.iconst 2, 1) := by decide +kernel
theorem d_M_take_60 : decode prog_7_method_24_code 60 = .ok (.invokevirtual 53, 3) := by decide +kernel
theorem d_M_take_63 : decode prog_7_method_24_code 63 = .ok (.ifCond .ge 8, 3) := by decide +kernel
theorem d_M_take_66 : decode prog_7_method_24_code 66 = .ok (.bipush (-4), 2) := by decide +kernel
theorem d_M_take_68 : decode prog_7_method_24_code 68 = .ok (.goto 5, 3) := by decide +kernel
theorem d_M_take_71 : decode prog_7_method_24_code 71 = .ok (.bipush (-3), 2) := by decide +kernel
theorem d_M_take_73 : decode prog_7_method_24_code 73 = .ok (.ireturn, 1) := by decide +kernel
theorem d_M_take_74 : decode prog_7_method_24_code 74 = .ok (.aload_n 0, 1) := by decide +kernel
theorem d_M_take_75 : decode prog_7_method_24_code 75 = .ok (.getfield 28, 3) := by decide +kernel
theorem d_M_take_78 : decode prog_7_method_24_code 78 = .ok (.sipush 512, 3) := by decide +kernel
theorem d_M_take_81 : decode prog_7_method_24_code 81 = .ok (.iload 4, 2) := by decide +kernel
theorem d_M_take_83 : decode prog_7_method_24_code 83 = .ok (.imul, 1) := by decide +kernel
theorem d_M_take_84 : decode prog_7_method_24_code 84 = .ok (.baload, 1) := by decide +kernel
theorem d_M_take_85 : decode prog_7_method_24_code 85 = .ok (.sipush 255, 3) := by decide +kernel
theorem d_M_take_88 : decode prog_7_method_24_code 88 = .ok (.iand, 1) := by decide +kernel
theorem d_M_take_89 : decode prog_7_method_24_code 89 = .ok (.istore 5, 2) := by decide +kernel
theorem d_M_take_91 : decode prog_7_method_24_code 91 = .ok (.aload_n 0, 1) := by decide +kernel
theorem d_M_take_92 : decode prog_7_method_24_code 92 = .ok (.getfield 25, 3) := by decide +kernel
theorem d_M_take_95 : decode prog_7_method_24_code 95 = .ok (.iload 4, 2) := by decide +kernel
theorem d_M_take_97 : decode prog_7_method_24_code 97 = .ok (.dup2, 1) := by decide +kernel
theorem d_M_take_98 : decode prog_7_method_24_code 98 = .ok (.iaload, 1) := by decide +kernel
theorem d_M_take_99 : decode prog_7_method_24_code 99 = .ok (.iconst 1, 1) := by decide +kernel
theorem d_M_take_100 : decode prog_7_method_24_code 100 = .ok (.isub, 1) := by decide +kernel
theorem d_M_take_101 : decode prog_7_method_24_code 101 = .ok (.iastore, 1) := by decide +kernel
theorem d_M_take_102 : decode prog_7_method_24_code 102 = .ok (.iconst 0, 1) := by decide +kernel
theorem d_M_take_103 : decode prog_7_method_24_code 103 = .ok (.istore 6, 2) := by decide +kernel
theorem d_M_take_105 : decode prog_7_method_24_code 105 = .ok (.iload 6, 2) := by decide +kernel
theorem d_M_take_107 : decode prog_7_method_24_code 107 = .ok (.aload_n 0, 1) := by decide +kernel
theorem d_M_take_108 : decode prog_7_method_24_code 108 = .ok (.getfield 25, 3) := by decide +kernel
theorem d_M_take_111 : decode prog_7_method_24_code 111 = .ok (.iload 4, 2) := by decide +kernel
theorem d_M_take_113 : decode prog_7_method_24_code 113 = .ok (.iaload, 1) := by decide +kernel
theorem d_M_take_114 : decode prog_7_method_24_code 114 = .ok (.if_icmp .ge 39, 3) := by decide +kernel
theorem d_M_take_117 : decode prog_7_method_24_code 117 = .ok (.aload_n 0, 1) := by decide +kernel
theorem d_M_take_118 : decode prog_7_method_24_code 118 = .ok (.getfield 28, 3) := by decide +kernel
theorem d_M_take_121 : decode prog_7_method_24_code 121 = .ok (.sipush 512, 3) := by decide +kernel
theorem d_M_take_124 : decode prog_7_method_24_code 124 = .ok (.iload 4, 2) := by decide +kernel
theorem d_M_take_126 : decode prog_7_method_24_code 126 = .ok (.imul, 1) := by decide +kernel
theorem d_M_take_127 : decode prog_7_method_24_code 127 = .ok (.iload 6, 2) := by decide +kernel
theorem d_M_take_129 : decode prog_7_method_24_code 129 = .ok (.iadd, 1) := by decide +kernel
theorem d_M_take_130 : decode prog_7_method_24_code 130 = .ok (.aload_n 0, 1) := by decide +kernel
theorem d_M_take_131 : decode prog_7_method_24_code 131 = .ok (.getfield 28, 3) := by decide +kernel
theorem d_M_take_134 : decode prog_7_method_24_code 134 = .ok (.sipush 512, 3) := by decide +kernel
theorem d_M_take_137 : decode prog_7_method_24_code 137 = .ok (.iload 4, 2) := by decide +kernel
theorem d_M_take_139 : decode prog_7_method_24_code 139 = .ok (.imul, 1) := by decide +kernel
theorem d_M_take_140 : decode prog_7_method_24_code 140 = .ok (.iload 6, 2) := by decide +kernel
theorem d_M_take_142 : decode prog_7_method_24_code 142 = .ok (.iadd, 1) := by decide +kernel
theorem d_M_take_143 : decode prog_7_method_24_code 143 = .ok (.iconst 1, 1) := by decide +kernel
theorem d_M_take_144 : decode prog_7_method_24_code 144 = .ok (.iadd, 1) := by decide +kernel
theorem d_M_take_145 : decode prog_7_method_24_code 145 = .ok (.baload, 1) := by decide +kernel
theorem d_M_take_146 : decode prog_7_method_24_code 146 = .ok (.bastore, 1) := by decide +kernel
theorem d_M_take_147 : decode prog_7_method_24_code 147 = .ok (.iinc 6 1, 3) := by decide +kernel
theorem d_M_take_150 : decode prog_7_method_24_code 150 = .ok (.goto (-45), 3) := by decide +kernel
theorem d_M_take_153 : decode prog_7_method_24_code 153 = .ok (.iload 5, 2) := by decide +kernel
theorem d_M_take_155 : decode prog_7_method_24_code 155 = .ok (.ireturn, 1) := by decide +kernel
theorem d_M_ends_0 : decode prog_7_method_25_code 0 = .ok (.aload_n 0, 1) := by decide +kernel
theorem d_M_ends_1 : decode prog_7_method_25_code 1 = .ok (.iconst 0, 1) := by decide +kernel
theorem d_M_ends_2 : decode prog_7_method_25_code 2 = .ok (.putfield 41, 3) := by decide +kernel
theorem d_M_ends_5 : decode prog_7_method_25_code 5 = .ok (.iload_n 1, 1) := by decide +kernel
theorem d_M_ends_6 : decode prog_7_method_25_code 6 = .ok (.ifCond .lt 26, 3) := by decide +kernel
theorem d_M_ends_9 : decode prog_7_method_25_code 9 = .ok (.iload_n 1, 1) := by decide +kernel
theorem d_M_ends_10 : decode prog_7_method_25_code 10 = .ok (.bipush 7, 2) := by decide +kernel
theorem d_M_ends_12 : decode prog_7_method_25_code 12 = .ok (.if_icmp .gt 20, 3) := by decide +kernel
theorem d_M_ends_15 : decode prog_7_method_25_code 15 = .ok (.aload_n 0, 1) := by decide +kernel
theorem d_M_ends_16 : decode prog_7_method_25_code 16 = .ok (.iload_n 1, 1) := by decide +kernel
theorem d_M_ends_17 : decode prog_7_method_25_code 17 = .ok (.invokevirtual 71, 3) := by decide +kernel
theorem d_M_ends_20 : decode prog_7_method_25_code 20 = .ok (.ifCond .eq 12, 3) := by decide +kernel
theorem d_M_ends_23 : decode prog_7_method_25_code 23 = .ok (.iload_n 2, 1) := by decide +kernel
theorem d_M_ends_24 : decode prog_7_method_25_code 24 = .ok (.ifCond .lt 8, 3) := by decide +kernel
theorem d_M_ends_27 : decode prog_7_method_25_code 27 = .ok (.iload_n 2, 1) := by decide +kernel
theorem d_M_ends_28 : decode prog_7_method_25_code 28 = .ok (.iconst 2, 1) := by decide +kernel
theorem d_M_ends_29 : decode prog_7_method_25_code 29 = .ok (.if_icmp .le 5, 3) := by decide +kernel
theorem d_M_ends_32 : decode prog_7_method_25_code 32 = .ok (.iconst (-1), 1) := by decide +kernel
theorem d_M_ends_33 : decode prog_7_method_25_code 33 = .ok (.ireturn, 1) := by decide +kernel
theorem d_M_ends_34 : decode prog_7_method_25_code 34 = .ok (.iload_n 2, 1) := by decide +kernel
theorem d_M_ends_35 : decode prog_7_method_25_code 35 = .ok (.ifCond .ne 12, 3) := by decide +kernel
theorem d_M_ends_38 : decode prog_7_method_25_code 38 = .ok (.aload_n 0, 1) := by decide +kernel
theorem d_M_ends_39 : decode prog_7_method_25_code 39 = .ok (.getfield 25, 3) := by decide +kernel
theorem d_M_ends_42 : decode prog_7_method_25_code 42 = .ok (.iload_n 1, 1) := by decide +kernel
theorem d_M_ends_43 : decode prog_7_method_25_code 43 = .ok (.iaload, 1) := by decide +kernel
theorem d_M_ends_44 : decode prog_7_method_25_code 44 = .ok (.goto 17, 3) := by decide +kernel
theorem d_M_ends_47 : decode prog_7_method_25_code 47 = .ok (.aload_n 0, 1) := by decide +kernel
theorem d_M_ends_48 : decode prog_7_method_25_code 48 = .ok (.iload_n 1, 1) := by decide +kernel
theorem d_M_ends_49 : decode prog_7_method_25_code 49 = .ok (.iload_n 2, 1) := by decide +kernel
theorem d_M_ends_50 : decode prog_7_method_25_code 50 = .ok (.invokevirtual 53, 3) := by decide +kernel
theorem d_M_ends_53 : decode prog_7_method_25_code 53 = .ok (.ifCond .lt 7, 3) := by decide +kernel
theorem d_M_ends_56 : decode prog_7_method_25_code 56 = .ok (.iconst 1, 1) := by decide +kernel
theorem d_M_ends_57 : decode prog_7_method_25_code 57 = .ok (.goto 4, 3) := by decide +kernel
theorem d_M_ends_60 : decode prog_7_method_25_code 60 = .ok (.iconst 0, 1) := by decide +kernel
theorem d_M_ends_61 : decode prog_7_method_25_code 61 = .ok (.ireturn, 1) := by decide +kernel
theorem d_M_type_0 : decode prog_7_method_28_code 0 = .ok (.aload_n 0, 1) := by decide +kernel
theorem d_M_type_1 : decode prog_7_method_28_code 1 = .ok (.iconst 0, 1) := by decide +kernel
theorem d_M_type_2 : decode prog_7_method_28_code 2 = .ok (.putfield 41, 3) := by decide +kernel
theorem d_M_type_5 : decode prog_7_method_28_code 5 = .ok (.iload_n 1, 1) := by decide +kernel
theorem d_M_type_6 : decode prog_7_method_28_code 6 = .ok (.ifCond .lt 10, 3) := by decide +kernel
theorem d_M_type_9 : decode prog_7_method_28_code 9 = .ok (.iload_n 1, 1) := by decide +kernel
theorem d_M_type_10 : decode prog_7_method_28_code 10 = .ok (.sipush 255, 3) := by decide +kernel
theorem d_M_type_13 : decode prog_7_method_28_code 13 = .ok (.if_icmp .le 5, 3) := by decide +kernel
theorem d_M_type_16 : decode prog_7_method_28_code 16 = .ok (.iconst 0, 1) := by decide +kernel
theorem d_M_type_17 : decode prog_7_method_28_code 17 = .ok (.ireturn, 1) := by decide +kernel
theorem d_M_type_18 : decode prog_7_method_28_code 18 = .ok (.iload_n 1, 1) := by decide +kernel
theorem d_M_type_19 : decode prog_7_method_28_code 19 = .ok (.bipush 8, 2) := by decide +kernel
theorem d_M_type_21 : decode prog_7_method_28_code 21 = .ok (.if_icmp .eq 9, 3) := by decide +kernel
theorem d_M_type_24 : decode prog_7_method_28_code 24 = .ok (.iload_n 1, 1) := by decide +kernel
theorem d_M_type_25 : decode prog_7_method_28_code 25 = .ok (.bipush 127, 2) := by decide +kernel
theorem d_M_type_27 : decode prog_7_method_28_code 27 = .ok (.if_icmp .ne 20, 3) := by decide +kernel
theorem d_M_type_30 : decode prog_7_method_28_code 30 = .ok (.aload_n 0, 1) := by decide +kernel
theorem d_M_type_31 : decode prog_7_method_28_code 31 = .ok (.getfield 90, 3) := by decide +kernel
theorem d_M_type_34 : decode prog_7_method_28_code 34 = .ok (.aload_n 0, 1) := by decide +kernel
theorem d_M_type_35 : decode prog_7_method_28_code 35 = .ok (.getfield 97, 3) := by decide +kernel
theorem d_M_type_38 : decode prog_7_method_28_code 38 = .ok (.if_icmp .le 7, 3) := by decide +kernel
theorem d_M_type_41 : decode prog_7_method_28_code 41 = .ok (.aload_n 0, 1) := by decide +kernel
theorem d_M_type_42 : decode prog_7_method_28_code 42 = .ok (.invokevirtual 100, 3) := by decide +kernel
theorem d_M_type_45 : decode prog_7_method_28_code 45 = .ok (.iconst 1, 1) := by decide +kernel
theorem d_M_type_46 : decode prog_7_method_28_code 46 = .ok (.ireturn, 1) := by decide +kernel
theorem d_M_type_47 : decode prog_7_method_28_code 47 = .ok (.iload_n 1, 1) := by decide +kernel
theorem d_M_type_48 : decode prog_7_method_28_code 48 = .ok (.bipush 21, 2) := by decide +kernel
theorem d_M_type_50 : decode prog_7_method_28_code 50 = .ok (.if_icmp .ne 23, 3) := by decide +kernel
theorem d_M_type_53 : decode prog_7_method_28_code 53 = .ok (.aload_n 0, 1) := by decide +kernel
theorem d_M_type_54 : decode prog_7_method_28_code 54 = .ok (.getfield 90, 3) := by decide +kernel
theorem d_M_type_57 : decode prog_7_method_28_code 57 = .ok (.aload_n 0, 1) := by decide +kernel
theorem d_M_type_58 : decode prog_7_method_28_code 58 = .ok (.getfield 97, 3) := by decide +kernel
theorem d_M_type_61 : decode prog_7_method_28_code 61 = .ok (.if_icmp .le 10, 3) := by decide +kernel
theorem d_M_type_64 : decode prog_7_method_28_code 64 = .ok (.aload_n 0, 1) := by decide +kernel
theorem d_M_type_65 : decode prog_7_method_28_code 65 = .ok (.invokevirtual 100, 3) := by decide +kernel
theorem d_M_type_68 : decode prog_7_method_28_code 68 = .ok (.goto (-15), 3) := by decide +kernel
theorem d_M_type_71 : decode prog_7_method_28_code 71 = .ok (.iconst 1, 1) := by decide +kernel
theorem d_M_type_72 : decode prog_7_method_28_code 72 = .ok (.ireturn, 1) := by decide +kernel
theorem d_M_type_73 : decode prog_7_method_28_code 73 = .ok (.aload_n 0, 1) := by decide +kernel
theorem d_M_type_74 : decode prog_7_method_28_code 74 = .ok (.getfield 90, 3) := by decide +kernel
theorem d_M_type_77 : decode prog_7_method_28_code 77 = .ok (.sipush 128, 3) := by decide +kernel
theorem d_M_type_80 : decode prog_7_method_28_code 80 = .ok (.if_icmp .ne 5, 3) := by decide +kernel
theorem d_M_type_83 : decode prog_7_method_28_code 83 = .ok (.iconst 0, 1) := by decide +kernel
theorem d_M_type_84 : decode prog_7_method_28_code 84 = .ok (.ireturn, 1) := by decide +kernel
theorem d_M_type_85 : decode prog_7_method_28_code 85 = .ok (.iload_n 1, 1) := by decide +kernel
theorem d_M_type_86 : decode prog_7_method_28_code 86 = .ok (.bipush 13, 2) := by decide +kernel
theorem d_M_type_88 : decode prog_7_method_28_code 88 = .ok (.if_icmp .ne 8, 3) := by decide +kernel
theorem d_M_type_91 : decode prog_7_method_28_code 91 = .ok (.bipush 10, 2) := by decide +kernel
theorem d_M_type_93 : decode prog_7_method_28_code 93 = .ok (.goto 4, 3) := by decide +kernel
theorem d_M_type_96 : decode prog_7_method_28_code 96 = .ok (.iload_n 1, 1) := by decide +kernel
theorem d_M_type_97 : decode prog_7_method_28_code 97 = .ok (.istore_n 2, 1) := by decide +kernel
theorem d_M_type_98 : decode prog_7_method_28_code 98 = .ok (.aload_n 0, 1) := by decide +kernel
theorem d_M_type_99 : decode prog_7_method_28_code 99 = .ok (.getfield 35, 3) := by decide +kernel
theorem d_M_type_102 : decode prog_7_method_28_code 102 = .ok (.aload_n 0, 1) := by decide +kernel
theorem d_M_type_103 : decode prog_7_method_28_code 103 = .ok (.getfield 90, 3) := by decide +kernel
theorem d_M_type_106 : decode prog_7_method_28_code 106 = .ok (.iload_n 2, 1) := by decide +kernel
theorem d_M_type_107 : decode prog_7_method_28_code 107 = .ok (.iastore, 1) := by decide +kernel
theorem d_M_type_108 : decode prog_7_method_28_code 108 = .ok (.aload_n 0, 1) := by decide +kernel
theorem d_M_type_109 : decode prog_7_method_28_code 109 = .ok (.dup, 1) := by decide +kernel
theorem d_M_type_110 : decode prog_7_method_28_code 110 = .ok (.getfield 90, 3) := by decide +kernel
theorem d_M_type_113 : decode prog_7_method_28_code 113 = .ok (.iconst 1, 1) := by decide +kernel
theorem d_M_type_114 : decode prog_7_method_28_code 114 = .ok (.iadd, 1) := by decide +kernel
theorem d_M_type_115 : decode prog_7_method_28_code 115 = .ok (.putfield 90, 3) := by decide +kernel
theorem d_M_type_118 : decode prog_7_method_28_code 118 = .ok (.aload_n 0, 1) := by decide +kernel
theorem d_M_type_119 : decode prog_7_method_28_code 119 = .ok (.iload_n 2, 1) := by decide +kernel
theorem d_M_type_120 : decode prog_7_method_28_code 120 = .ok (.invokevirtual 93, 3) := by decide +kernel
theorem d_M_type_123 : decode prog_7_method_28_code 123 = .ok (.aload_n 0, 1) := by decide +kernel
theorem d_M_type_124 : decode prog_7_method_28_code 124 = .ok (.iload_n 2, 1) := by decide +kernel
theorem d_M_type_125 : decode prog_7_method_28_code 125 = .ok (.bipush 10, 2) := by decide +kernel
theorem d_M_type_127 : decode prog_7_method_28_code 127 = .ok (.if_icmp .eq 18, 3) := by decide +kernel
theorem d_M_type_130 : decode prog_7_method_28_code 130 = .ok (.iload_n 2, 1) := by decide +kernel
theorem d_M_type_131 : decode prog_7_method_28_code 131 = .ok (.iconst 4, 1) := by decide +kernel
theorem d_M_type_132 : decode prog_7_method_28_code 132 = .ok (.if_icmp .eq 13, 3) := by decide +kernel
theorem d_M_type_135 : decode prog_7_method_28_code 135 = .ok (.aload_n 0, 1) := by decide +kernel
theorem d_M_type_136 : decode prog_7_method_28_code 136 = .ok (.getfield 90, 3) := by decide +kernel
theorem d_M_type_139 : decode prog_7_method_28_code 139 = .ok (.sipush 128, 3) := by decide +kernel
theorem d_M_type_142 : decode prog_7_method_28_code 142 = .ok (.if_icmp .ne 10, 3) := by decide +kernel
theorem d_M_type_145 : decode prog_7_method_28_code 145 = .ok (.aload_n 0, 1) := by decide +kernel
theorem d_M_type_146 : decode prog_7_method_28_code 146 = .ok (.getfield 90, 3) := by decide +kernel
theorem d_M_type_149 : decode prog_7_method_28_code 149 = .ok (.goto 7, 3) := by decide +kernel
theorem d_M_type_152 : decode prog_7_method_28_code 152 = .ok (.aload_n 0, 1) := by decide +kernel
theorem d_M_type_153 : decode prog_7_method_28_code 153 = .ok (.getfield 97, 3) := by decide +kernel
theorem d_M_type_156 : decode prog_7_method_28_code 156 = .ok (.putfield 97, 3) := by decide +kernel
theorem d_M_type_159 : decode prog_7_method_28_code 159 = .ok (.iconst 1, 1) := by decide +kernel
theorem d_M_type_160 : decode prog_7_method_28_code 160 = .ok (.ireturn, 1) := by decide +kernel
theorem d_M_back_0 : decode prog_7_method_27_code 0 = .ok (.aload_n 0, 1) := by decide +kernel
theorem d_M_back_1 : decode prog_7_method_27_code 1 = .ok (.dup, 1) := by decide +kernel
theorem d_M_back_2 : decode prog_7_method_27_code 2 = .ok (.getfield 90, 3) := by decide +kernel
theorem d_M_back_5 : decode prog_7_method_27_code 5 = .ok (.iconst 1, 1) := by decide +kernel
theorem d_M_back_6 : decode prog_7_method_27_code 6 = .ok (.isub, 1) := by decide +kernel
theorem d_M_back_7 : decode prog_7_method_27_code 7 = .ok (.putfield 90, 3) := by decide +kernel
theorem d_M_back_10 : decode prog_7_method_27_code 10 = .ok (.aload_n 0, 1) := by decide +kernel
theorem d_M_back_11 : decode prog_7_method_27_code 11 = .ok (.bipush 8, 2) := by decide +kernel
theorem d_M_back_13 : decode prog_7_method_27_code 13 = .ok (.invokevirtual 93, 3) := by decide +kernel
theorem d_M_back_16 : decode prog_7_method_27_code 16 = .ok (.aload_n 0, 1) := by decide +kernel
theorem d_M_back_17 : decode prog_7_method_27_code 17 = .ok (.bipush 32, 2) := by decide +kernel
theorem d_M_back_19 : decode prog_7_method_27_code 19 = .ok (.invokevirtual 93, 3) := by decide +kernel
theorem d_M_back_22 : decode prog_7_method_27_code 22 = .ok (.aload_n 0, 1) := by decide +kernel
theorem d_M_back_23 : decode prog_7_method_27_code 23 = .ok (.bipush 8, 2) := by decide +kernel
theorem d_M_back_25 : decode prog_7_method_27_code 25 = .ok (.invokevirtual 93, 3) := by decide +kernel
theorem d_M_back_28 : decode prog_7_method_27_code 28 = .ok (.return_, 1) := by decide +kernel
theorem d_M_puts_0 : decode prog_7_method_26_code 0 = .ok (.aload_n 0, 1) := by decide +kernel
theorem d_M_puts_1 : decode prog_7_method_26_code 1 = .ok (.getfield 38, 3) := by decide +kernel
theorem d_M_puts_4 : decode prog_7_method_26_code 4 = .ok (.aload_n 0, 1) := by decide +kernel
theorem d_M_puts_5 : decode prog_7_method_26_code 5 = .ok (.getfield 87, 3) := by decide +kernel
theorem d_M_puts_8 : decode prog_7_method_26_code 8 = .ok (.sipush 4096, 3) := by decide +kernel
theorem d_M_puts_11 : decode prog_7_method_26_code 11 = .ok (.irem, 1) := by decide +kernel
theorem d_M_puts_12 : decode prog_7_method_26_code 12 = .ok (.iload_n 1, 1) := by decide +kernel
theorem d_M_puts_13 : decode prog_7_method_26_code 13 = .ok (.i2b, 1) := by decide +kernel
theorem d_M_puts_14 : decode prog_7_method_26_code 14 = .ok (.bastore, 1) := by decide +kernel
theorem d_M_puts_15 : decode prog_7_method_26_code 15 = .ok (.aload_n 0, 1) := by decide +kernel
theorem d_M_puts_16 : decode prog_7_method_26_code 16 = .ok (.dup, 1) := by decide +kernel
theorem d_M_puts_17 : decode prog_7_method_26_code 17 = .ok (.getfield 87, 3) := by decide +kernel
theorem d_M_puts_20 : decode prog_7_method_26_code 20 = .ok (.iconst 1, 1) := by decide +kernel
theorem d_M_puts_21 : decode prog_7_method_26_code 21 = .ok (.iadd, 1) := by decide +kernel
theorem d_M_puts_22 : decode prog_7_method_26_code 22 = .ok (.putfield 87, 3) := by decide +kernel
theorem d_M_puts_25 : decode prog_7_method_26_code 25 = .ok (.return_, 1) := by decide +kernel
theorem d_M_read_0 : decode prog_7_method_29_code 0 = .ok (.aload_n 0, 1) := by decide +kernel
theorem d_M_read_1 : decode prog_7_method_29_code 1 = .ok (.iconst 0, 1) := by decide +kernel
theorem d_M_read_2 : decode prog_7_method_29_code 2 = .ok (.putfield 41, 3) := by decide +kernel
theorem d_M_read_5 : decode prog_7_method_29_code 5 = .ok (.aload_n 0, 1) := by decide +kernel
theorem d_M_read_6 : decode prog_7_method_29_code 6 = .ok (.getfield 97, 3) := by decide +kernel
theorem d_M_read_9 : decode prog_7_method_29_code 9 = .ok (.ifCond .ne 6, 3) := by decide +kernel
theorem d_M_read_12 : decode prog_7_method_29_code 12 = .ok (.bipush (-3), 2) := by decide +kernel
theorem d_M_read_14 : decode prog_7_method_29_code 14 = .ok (.ireturn, 1) := by decide +kernel
theorem d_M_read_15 : decode prog_7_method_29_code 15 = .ok (.aload_n 0, 1) := by decide +kernel
theorem d_M_read_16 : decode prog_7_method_29_code 16 = .ok (.getfield 35, 3) := by decide +kernel
theorem d_M_read_19 : decode prog_7_method_29_code 19 = .ok (.iconst 0, 1) := by decide +kernel
theorem d_M_read_20 : decode prog_7_method_29_code 20 = .ok (.iaload, 1) := by decide +kernel
theorem d_M_read_21 : decode prog_7_method_29_code 21 = .ok (.istore_n 2, 1) := by decide +kernel
theorem d_M_read_22 : decode prog_7_method_29_code 22 = .ok (.iload_n 2, 1) := by decide +kernel
theorem d_M_read_23 : decode prog_7_method_29_code 23 = .ok (.iconst 4, 1) := by decide +kernel
theorem d_M_read_24 : decode prog_7_method_29_code 24 = .ok (.if_icmp .ne 7, 3) := by decide +kernel
theorem d_M_read_27 : decode prog_7_method_29_code 27 = .ok (.iload_n 1, 1) := by decide +kernel
theorem d_M_read_28 : decode prog_7_method_29_code 28 = .ok (.ifCond .eq 53, 3) := by decide +kernel
theorem d_M_read_31 : decode prog_7_method_29_code 31 = .ok (.aload_n 0, 1) := by decide +kernel
theorem d_M_read_32 : decode prog_7_method_29_code 32 = .ok (.dup, 1) := by decide +kernel
theorem d_M_read_33 : decode prog_7_method_29_code 33 = .ok (.getfield 97, 3) := by decide +kernel
theorem d_M_read_36 : decode prog_7_method_29_code 36 = .ok (.iconst 1, 1) := by decide +kernel
theorem d_M_read_37 : decode prog_7_method_29_code 37 = .ok (.isub, 1) := by decide +kernel
theorem d_M_read_38 : decode prog_7_method_29_code 38 = .ok (.putfield 97, 3) := by decide +kernel
theorem d_M_read_41 : decode prog_7_method_29_code 41 = .ok (.aload_n 0, 1) := by decide +kernel
theorem d_M_read_42 : decode prog_7_method_29_code 42 = .ok (.dup, 1) := by decide +kernel
theorem d_M_read_43 : decode prog_7_method_29_code 43 = .ok (.getfield 90, 3) := by decide +kernel
theorem d_M_read_46 : decode prog_7_method_29_code 46 = .ok (.iconst 1, 1) := by decide +kernel
theorem d_M_read_47 : decode prog_7_method_29_code 47 = .ok (.isub, 1) := by decide +kernel
theorem d_M_read_48 : decode prog_7_method_29_code 48 = .ok (.putfield 90, 3) := by decide +kernel
theorem d_M_read_51 : decode prog_7_method_29_code 51 = .ok (.iconst 0, 1) := by decide +kernel
theorem d_M_read_52 : decode prog_7_method_29_code 52 = .ok (.istore_n 3, 1) := by decide +kernel
theorem d_M_read_53 : decode prog_7_method_29_code 53 = .ok (.iload_n 3, 1) := by decide +kernel
theorem d_M_read_54 : decode prog_7_method_29_code 54 = .ok (.aload_n 0, 1) := by decide +kernel
theorem d_M_read_55 : decode prog_7_method_29_code 55 = .ok (.getfield 90, 3) := by decide +kernel
theorem d_M_read_58 : decode prog_7_method_29_code 58 = .ok (.if_icmp .ge 23, 3) := by decide +kernel
theorem d_M_read_61 : decode prog_7_method_29_code 61 = .ok (.aload_n 0, 1) := by decide +kernel
theorem d_M_read_62 : decode prog_7_method_29_code 62 = .ok (.getfield 35, 3) := by decide +kernel
theorem d_M_read_65 : decode prog_7_method_29_code 65 = .ok (.iload_n 3, 1) := by decide +kernel
theorem d_M_read_66 : decode prog_7_method_29_code 66 = .ok (.aload_n 0, 1) := by decide +kernel
theorem d_M_read_67 : decode prog_7_method_29_code 67 = .ok (.getfield 35, 3) := by decide +kernel
theorem d_M_read_70 : decode prog_7_method_29_code 70 = .ok (.iload_n 3, 1) := by decide +kernel
theorem d_M_read_71 : decode prog_7_method_29_code 71 = .ok (.iconst 1, 1) := by decide +kernel
theorem d_M_read_72 : decode prog_7_method_29_code 72 = .ok (.iadd, 1) := by decide +kernel
theorem d_M_read_73 : decode prog_7_method_29_code 73 = .ok (.iaload, 1) := by decide +kernel
theorem d_M_read_74 : decode prog_7_method_29_code 74 = .ok (.iastore, 1) := by decide +kernel
theorem d_M_read_75 : decode prog_7_method_29_code 75 = .ok (.iinc 3 1, 3) := by decide +kernel
theorem d_M_read_78 : decode prog_7_method_29_code 78 = .ok (.goto (-25), 3) := by decide +kernel
theorem d_M_read_81 : decode prog_7_method_29_code 81 = .ok (.iload_n 2, 1) := by decide +kernel
theorem d_M_read_82 : decode prog_7_method_29_code 82 = .ok (.iconst 4, 1) := by decide +kernel
theorem d_M_read_83 : decode prog_7_method_29_code 83 = .ok (.if_icmp .ne 8, 3) := by decide +kernel
theorem d_M_read_86 : decode prog_7_method_29_code 86 = .ok (.bipush (-4), 2) := by decide +kernel
theorem d_M_read_88 : decode prog_7_method_29_code 88 = .ok (.goto 4, 3) := by decide +kernel
theorem d_M_read_91 : decode prog_7_method_29_code 91 = .ok (.iload_n 2, 1) := by decide +kernel
theorem d_M_read_92 : decode prog_7_method_29_code 92 = .ok (.ireturn, 1) := by decide +kernel
theorem d_M_waiting_0 : decode prog_7_method_30_code 0 = .ok (.aload_n 0, 1) := by decide +kernel
theorem d_M_waiting_1 : decode prog_7_method_30_code 1 = .ok (.iconst 0, 1) := by decide +kernel
theorem d_M_waiting_2 : decode prog_7_method_30_code 2 = .ok (.putfield 41, 3) := by decide +kernel
theorem d_M_waiting_5 : decode prog_7_method_30_code 5 = .ok (.iload_n 1, 1) := by decide +kernel
theorem d_M_waiting_6 : decode prog_7_method_30_code 6 = .ok (.ifCond .ne 10, 3) := by decide +kernel
theorem d_M_waiting_9 : decode prog_7_method_30_code 9 = .ok (.aload_n 0, 1) := by decide +kernel
theorem d_M_waiting_10 : decode prog_7_method_30_code 10 = .ok (.getfield 97, 3) := by decide +kernel
theorem d_M_waiting_13 : decode prog_7_method_30_code 13 = .ok (.goto 16, 3) := by decide +kernel
theorem d_M_waiting_16 : decode prog_7_method_30_code 16 = .ok (.iload_n 1, 1) := by decide +kernel
theorem d_M_waiting_17 : decode prog_7_method_30_code 17 = .ok (.iconst 1, 1) := by decide +kernel
theorem d_M_waiting_18 : decode prog_7_method_30_code 18 = .ok (.if_icmp .ne 10, 3) := by decide +kernel
theorem d_M_waiting_21 : decode prog_7_method_30_code 21 = .ok (.aload_n 0, 1) := by decide +kernel
theorem d_M_waiting_22 : decode prog_7_method_30_code 22 = .ok (.getfield 90, 3) := by decide +kernel
theorem d_M_waiting_25 : decode prog_7_method_30_code 25 = .ok (.goto 4, 3) := by decide +kernel
theorem d_M_waiting_28 : decode prog_7_method_30_code 28 = .ok (.iconst (-1), 1) := by decide +kernel
theorem d_M_waiting_29 : decode prog_7_method_30_code 29 = .ok (.ireturn, 1) := by decide +kernel
theorem d_M_show_0 : decode prog_7_method_31_code 0 = .ok (.aload_n 0, 1) := by decide +kernel
theorem d_M_show_1 : decode prog_7_method_31_code 1 = .ok (.iconst 0, 1) := by decide +kernel
theorem d_M_show_2 : decode prog_7_method_31_code 2 = .ok (.putfield 41, 3) := by decide +kernel
theorem d_M_show_5 : decode prog_7_method_31_code 5 = .ok (.aload_n 0, 1) := by decide +kernel
theorem d_M_show_6 : decode prog_7_method_31_code 6 = .ok (.iload_n 1, 1) := by decide +kernel
theorem d_M_show_7 : decode prog_7_method_31_code 7 = .ok (.invokevirtual 93, 3) := by decide +kernel
theorem d_M_show_10 : decode prog_7_method_31_code 10 = .ok (.return_, 1) := by decide +kernel
theorem d_M_shown_0 : decode prog_7_method_32_code 0 = .ok (.aload_n 0, 1) := by decide +kernel
theorem d_M_shown_1 : decode prog_7_method_32_code 1 = .ok (.iconst 0, 1) := by decide +kernel
theorem d_M_shown_2 : decode prog_7_method_32_code 2 = .ok (.putfield 41, 3) := by decide +kernel
theorem d_M_shown_5 : decode prog_7_method_32_code 5 = .ok (.iload_n 1, 1) := by decide +kernel
theorem d_M_shown_6 : decode prog_7_method_32_code 6 = .ok (.ifCond .lt 40, 3) := by decide +kernel
theorem d_M_shown_9 : decode prog_7_method_32_code 9 = .ok (.iload_n 1, 1) := by decide +kernel
theorem d_M_shown_10 : decode prog_7_method_32_code 10 = .ok (.aload_n 0, 1) := by decide +kernel
theorem d_M_shown_11 : decode prog_7_method_32_code 11 = .ok (.getfield 87, 3) := by decide +kernel
theorem d_M_shown_14 : decode prog_7_method_32_code 14 = .ok (.if_icmp .ge 32, 3) := by decide +kernel
theorem d_M_shown_17 : decode prog_7_method_32_code 17 = .ok (.iload_n 1, 1) := by decide +kernel
theorem d_M_shown_18 : decode prog_7_method_32_code 18 = .ok (.aload_n 0, 1) := by decide +kernel
theorem d_M_shown_19 : decode prog_7_method_32_code 19 = .ok (.getfield 87, 3) := by decide +kernel
theorem d_M_shown_22 : decode prog_7_method_32_code 22 = .ok (.sipush 4096, 3) := by decide +kernel
theorem d_M_shown_25 : decode prog_7_method_32_code 25 = .ok (.isub, 1) := by decide +kernel
theorem d_M_shown_26 : decode prog_7_method_32_code 26 = .ok (.if_icmp .lt 20, 3) := by decide +kernel
theorem d_M_shown_29 : decode prog_7_method_32_code 29 = .ok (.aload_n 0, 1) := by decide +kernel
theorem d_M_shown_30 : decode prog_7_method_32_code 30 = .ok (.getfield 38, 3) := by decide +kernel
theorem d_M_shown_33 : decode prog_7_method_32_code 33 = .ok (.iload_n 1, 1) := by decide +kernel
theorem d_M_shown_34 : decode prog_7_method_32_code 34 = .ok (.sipush 4096, 3) := by decide +kernel
theorem d_M_shown_37 : decode prog_7_method_32_code 37 = .ok (.irem, 1) := by decide +kernel
theorem d_M_shown_38 : decode prog_7_method_32_code 38 = .ok (.baload, 1) := by decide +kernel
theorem d_M_shown_39 : decode prog_7_method_32_code 39 = .ok (.sipush 255, 3) := by decide +kernel
theorem d_M_shown_42 : decode prog_7_method_32_code 42 = .ok (.iand, 1) := by decide +kernel
theorem d_M_shown_43 : decode prog_7_method_32_code 43 = .ok (.goto 4, 3) := by decide +kernel
theorem d_M_shown_46 : decode prog_7_method_32_code 46 = .ok (.iconst (-1), 1) := by decide +kernel
theorem d_M_shown_47 : decode prog_7_method_32_code 47 = .ok (.ireturn, 1) := by decide +kernel
theorem d_M_count_0 : decode prog_7_method_33_code 0 = .ok (.aload_n 0, 1) := by decide +kernel
theorem d_M_count_1 : decode prog_7_method_33_code 1 = .ok (.iconst 0, 1) := by decide +kernel
theorem d_M_count_2 : decode prog_7_method_33_code 2 = .ok (.putfield 41, 3) := by decide +kernel
theorem d_M_count_5 : decode prog_7_method_33_code 5 = .ok (.aload_n 0, 1) := by decide +kernel
theorem d_M_count_6 : decode prog_7_method_33_code 6 = .ok (.getfield 87, 3) := by decide +kernel
theorem d_M_count_9 : decode prog_7_method_33_code 9 = .ok (.ireturn, 1) := by decide +kernel
theorem d_law_0 : decode code 0 = .ok (.new 7, 3) := by decide +kernel
theorem d_law_3 : decode code 3 = .ok (.dup, 1) := by decide +kernel
theorem d_law_4 : decode code 4 = .ok (.invokespecial 9, 3) := by decide +kernel
theorem d_law_7 : decode code 7 = .ok (.astore_n 1, 1) := by decide +kernel
theorem d_law_8 : decode code 8 = .ok (.new 10, 3) := by decide +kernel
theorem d_law_11 : decode code 11 = .ok (.dup, 1) := by decide +kernel
theorem d_law_12 : decode code 12 = .ok (.invokespecial 12, 3) := by decide +kernel
theorem d_law_15 : decode code 15 = .ok (.astore_n 2, 1) := by decide +kernel
theorem d_law_16 : decode code 16 = .ok (.iconst 0, 1) := by decide +kernel
theorem d_law_17 : decode code 17 = .ok (.istore_n 3, 1) := by decide +kernel
theorem d_law_18 : decode code 18 = .ok (.iload_n 3, 1) := by decide +kernel
theorem d_law_19 : decode code 19 = .ok (.aload_n 0, 1) := by decide +kernel
theorem d_law_20 : decode code 20 = .ok (.arraylength, 1) := by decide +kernel
theorem d_law_21 : decode code 21 = .ok (.iconst 5, 1) := by decide +kernel
theorem d_law_22 : decode code 22 = .ok (.isub, 1) := by decide +kernel
theorem d_law_23 : decode code 23 = .ok (.if_icmp .gt 661, 3) := by decide +kernel
theorem d_law_26 : decode code 26 = .ok (.aload_n 0, 1) := by decide +kernel
theorem d_law_27 : decode code 27 = .ok (.iload_n 3, 1) := by decide +kernel
theorem d_law_28 : decode code 28 = .ok (.iaload, 1) := by decide +kernel
theorem d_law_29 : decode code 29 = .ok (.bipush 31, 2) := by decide +kernel
theorem d_law_31 : decode code 31 = .ok (.iand, 1) := by decide +kernel
theorem d_law_32 : decode code 32 = .ok (.tableswitch 646 0 17 #[88, 141, 164, 197, 230, 253, 276, 309, 352, 395, 438, 471, 504, 527, 566, 589, 610, 633], 88) := by decide +kernel
theorem d_law_120 : decode code 120 = .ok (.aload_n 1, 1) := by decide +kernel
theorem d_law_121 : decode code 121 = .ok (.aload_n 0, 1) := by decide +kernel
theorem d_law_122 : decode code 122 = .ok (.iload_n 3, 1) := by decide +kernel
theorem d_law_123 : decode code 123 = .ok (.iconst 1, 1) := by decide +kernel
theorem d_law_124 : decode code 124 = .ok (.iadd, 1) := by decide +kernel
theorem d_law_125 : decode code 125 = .ok (.iaload, 1) := by decide +kernel
theorem d_law_126 : decode code 126 = .ok (.aload_n 0, 1) := by decide +kernel
theorem d_law_127 : decode code 127 = .ok (.iload_n 3, 1) := by decide +kernel
theorem d_law_128 : decode code 128 = .ok (.iconst 2, 1) := by decide +kernel
theorem d_law_129 : decode code 129 = .ok (.iadd, 1) := by decide +kernel
theorem d_law_130 : decode code 130 = .ok (.iaload, 1) := by decide +kernel
theorem d_law_131 : decode code 131 = .ok (.aload_n 0, 1) := by decide +kernel
theorem d_law_132 : decode code 132 = .ok (.iload_n 3, 1) := by decide +kernel
theorem d_law_133 : decode code 133 = .ok (.iconst 3, 1) := by decide +kernel
theorem d_law_134 : decode code 134 = .ok (.iadd, 1) := by decide +kernel
theorem d_law_135 : decode code 135 = .ok (.iaload, 1) := by decide +kernel
theorem d_law_136 : decode code 136 = .ok (.aload_n 0, 1) := by decide +kernel
theorem d_law_137 : decode code 137 = .ok (.iload_n 3, 1) := by decide +kernel
theorem d_law_138 : decode code 138 = .ok (.iconst 4, 1) := by decide +kernel
theorem d_law_139 : decode code 139 = .ok (.iadd, 1) := by decide +kernel
theorem d_law_140 : decode code 140 = .ok (.iaload, 1) := by decide +kernel
theorem d_law_141 : decode code 141 = .ok (.invokevirtual 13, 3) := by decide +kernel
theorem d_law_144 : decode code 144 = .ok (.aload_n 2, 1) := by decide +kernel
theorem d_law_145 : decode code 145 = .ok (.aload_n 0, 1) := by decide +kernel
theorem d_law_146 : decode code 146 = .ok (.iload_n 3, 1) := by decide +kernel
theorem d_law_147 : decode code 147 = .ok (.iconst 1, 1) := by decide +kernel
theorem d_law_148 : decode code 148 = .ok (.iadd, 1) := by decide +kernel
theorem d_law_149 : decode code 149 = .ok (.iaload, 1) := by decide +kernel
theorem d_law_150 : decode code 150 = .ok (.aload_n 0, 1) := by decide +kernel
theorem d_law_151 : decode code 151 = .ok (.iload_n 3, 1) := by decide +kernel
theorem d_law_152 : decode code 152 = .ok (.iconst 2, 1) := by decide +kernel
theorem d_law_153 : decode code 153 = .ok (.iadd, 1) := by decide +kernel
theorem d_law_154 : decode code 154 = .ok (.iaload, 1) := by decide +kernel
theorem d_law_155 : decode code 155 = .ok (.aload_n 0, 1) := by decide +kernel
theorem d_law_156 : decode code 156 = .ok (.iload_n 3, 1) := by decide +kernel
theorem d_law_157 : decode code 157 = .ok (.iconst 3, 1) := by decide +kernel
theorem d_law_158 : decode code 158 = .ok (.iadd, 1) := by decide +kernel
theorem d_law_159 : decode code 159 = .ok (.iaload, 1) := by decide +kernel
theorem d_law_160 : decode code 160 = .ok (.aload_n 0, 1) := by decide +kernel
theorem d_law_161 : decode code 161 = .ok (.iload_n 3, 1) := by decide +kernel
theorem d_law_162 : decode code 162 = .ok (.iconst 4, 1) := by decide +kernel
theorem d_law_163 : decode code 163 = .ok (.iadd, 1) := by decide +kernel
theorem d_law_164 : decode code 164 = .ok (.iaload, 1) := by decide +kernel
theorem d_law_165 : decode code 165 = .ok (.invokevirtual 17, 3) := by decide +kernel
theorem d_law_168 : decode code 168 = .ok (.if_icmp .eq 510, 3) := by decide +kernel
theorem d_law_171 : decode code 171 = .ok (.iconst 0, 1) := by decide +kernel
theorem d_law_172 : decode code 172 = .ok (.ireturn, 1) := by decide +kernel
theorem d_law_173 : decode code 173 = .ok (.aload_n 1, 1) := by decide +kernel
theorem d_law_174 : decode code 174 = .ok (.aload_n 0, 1) := by decide +kernel
theorem d_law_175 : decode code 175 = .ok (.iload_n 3, 1) := by decide +kernel
theorem d_law_176 : decode code 176 = .ok (.iconst 1, 1) := by decide +kernel
theorem d_law_177 : decode code 177 = .ok (.iadd, 1) := by decide +kernel
theorem d_law_178 : decode code 178 = .ok (.iaload, 1) := by decide +kernel
theorem d_law_179 : decode code 179 = .ok (.invokevirtual 18, 3) := by decide +kernel
theorem d_law_182 : decode code 182 = .ok (.aload_n 2, 1) := by decide +kernel
theorem d_law_183 : decode code 183 = .ok (.aload_n 0, 1) := by decide +kernel
theorem d_law_184 : decode code 184 = .ok (.iload_n 3, 1) := by decide +kernel
theorem d_law_185 : decode code 185 = .ok (.iconst 1, 1) := by decide +kernel
theorem d_law_186 : decode code 186 = .ok (.iadd, 1) := by decide +kernel
theorem d_law_187 : decode code 187 = .ok (.iaload, 1) := by decide +kernel
theorem d_law_188 : decode code 188 = .ok (.invokevirtual 22, 3) := by decide +kernel
theorem d_law_191 : decode code 191 = .ok (.if_icmp .eq 487, 3) := by decide +kernel
theorem d_law_194 : decode code 194 = .ok (.iconst 0, 1) := by decide +kernel
theorem d_law_195 : decode code 195 = .ok (.ireturn, 1) := by decide +kernel
theorem d_law_196 : decode code 196 = .ok (.aload_n 1, 1) := by decide +kernel
theorem d_law_197 : decode code 197 = .ok (.aload_n 0, 1) := by decide +kernel
theorem d_law_198 : decode code 198 = .ok (.iload_n 3, 1) := by decide +kernel
theorem d_law_199 : decode code 199 = .ok (.iconst 1, 1) := by decide +kernel
theorem d_law_200 : decode code 200 = .ok (.iadd, 1) := by decide +kernel
theorem d_law_201 : decode code 201 = .ok (.iaload, 1) := by decide +kernel
theorem d_law_202 : decode code 202 = .ok (.aload_n 0, 1) := by decide +kernel
theorem d_law_203 : decode code 203 = .ok (.iload_n 3, 1) := by decide +kernel
theorem d_law_204 : decode code 204 = .ok (.iconst 2, 1) := by decide +kernel
theorem d_law_205 : decode code 205 = .ok (.iadd, 1) := by decide +kernel
theorem d_law_206 : decode code 206 = .ok (.iaload, 1) := by decide +kernel
theorem d_law_207 : decode code 207 = .ok (.invokevirtual 23, 3) := by decide +kernel
theorem d_law_210 : decode code 210 = .ok (.aload_n 2, 1) := by decide +kernel
theorem d_law_211 : decode code 211 = .ok (.aload_n 0, 1) := by decide +kernel
theorem d_law_212 : decode code 212 = .ok (.iload_n 3, 1) := by decide +kernel
theorem d_law_213 : decode code 213 = .ok (.iconst 1, 1) := by decide +kernel
theorem d_law_214 : decode code 214 = .ok (.iadd, 1) := by decide +kernel
theorem d_law_215 : decode code 215 = .ok (.iaload, 1) := by decide +kernel
theorem d_law_216 : decode code 216 = .ok (.aload_n 0, 1) := by decide +kernel
theorem d_law_217 : decode code 217 = .ok (.iload_n 3, 1) := by decide +kernel
theorem d_law_218 : decode code 218 = .ok (.iconst 2, 1) := by decide +kernel
theorem d_law_219 : decode code 219 = .ok (.iadd, 1) := by decide +kernel
theorem d_law_220 : decode code 220 = .ok (.iaload, 1) := by decide +kernel
theorem d_law_221 : decode code 221 = .ok (.invokevirtual 27, 3) := by decide +kernel
theorem d_law_224 : decode code 224 = .ok (.if_icmp .eq 454, 3) := by decide +kernel
theorem d_law_227 : decode code 227 = .ok (.iconst 0, 1) := by decide +kernel
theorem d_law_228 : decode code 228 = .ok (.ireturn, 1) := by decide +kernel
theorem d_law_229 : decode code 229 = .ok (.aload_n 1, 1) := by decide +kernel
theorem d_law_230 : decode code 230 = .ok (.aload_n 0, 1) := by decide +kernel
theorem d_law_231 : decode code 231 = .ok (.iload_n 3, 1) := by decide +kernel
theorem d_law_232 : decode code 232 = .ok (.iconst 1, 1) := by decide +kernel
theorem d_law_233 : decode code 233 = .ok (.iadd, 1) := by decide +kernel
theorem d_law_234 : decode code 234 = .ok (.iaload, 1) := by decide +kernel
theorem d_law_235 : decode code 235 = .ok (.aload_n 0, 1) := by decide +kernel
theorem d_law_236 : decode code 236 = .ok (.iload_n 3, 1) := by decide +kernel
theorem d_law_237 : decode code 237 = .ok (.iconst 2, 1) := by decide +kernel
theorem d_law_238 : decode code 238 = .ok (.iadd, 1) := by decide +kernel
theorem d_law_239 : decode code 239 = .ok (.iaload, 1) := by decide +kernel
theorem d_law_240 : decode code 240 = .ok (.invokevirtual 28, 3) := by decide +kernel
theorem d_law_243 : decode code 243 = .ok (.aload_n 2, 1) := by decide +kernel
theorem d_law_244 : decode code 244 = .ok (.aload_n 0, 1) := by decide +kernel
theorem d_law_245 : decode code 245 = .ok (.iload_n 3, 1) := by decide +kernel
theorem d_law_246 : decode code 246 = .ok (.iconst 1, 1) := by decide +kernel
theorem d_law_247 : decode code 247 = .ok (.iadd, 1) := by decide +kernel
theorem d_law_248 : decode code 248 = .ok (.iaload, 1) := by decide +kernel
theorem d_law_249 : decode code 249 = .ok (.aload_n 0, 1) := by decide +kernel
theorem d_law_250 : decode code 250 = .ok (.iload_n 3, 1) := by decide +kernel
theorem d_law_251 : decode code 251 = .ok (.iconst 2, 1) := by decide +kernel
theorem d_law_252 : decode code 252 = .ok (.iadd, 1) := by decide +kernel
theorem d_law_253 : decode code 253 = .ok (.iaload, 1) := by decide +kernel
theorem d_law_254 : decode code 254 = .ok (.invokevirtual 31, 3) := by decide +kernel
theorem d_law_257 : decode code 257 = .ok (.if_icmp .eq 421, 3) := by decide +kernel
theorem d_law_260 : decode code 260 = .ok (.iconst 0, 1) := by decide +kernel
theorem d_law_261 : decode code 261 = .ok (.ireturn, 1) := by decide +kernel
theorem d_law_262 : decode code 262 = .ok (.aload_n 1, 1) := by decide +kernel
theorem d_law_263 : decode code 263 = .ok (.aload_n 0, 1) := by decide +kernel
theorem d_law_264 : decode code 264 = .ok (.iload_n 3, 1) := by decide +kernel
theorem d_law_265 : decode code 265 = .ok (.iconst 1, 1) := by decide +kernel
theorem d_law_266 : decode code 266 = .ok (.iadd, 1) := by decide +kernel
theorem d_law_267 : decode code 267 = .ok (.iaload, 1) := by decide +kernel
theorem d_law_268 : decode code 268 = .ok (.invokevirtual 32, 3) := by decide +kernel
theorem d_law_271 : decode code 271 = .ok (.aload_n 2, 1) := by decide +kernel
theorem d_law_272 : decode code 272 = .ok (.aload_n 0, 1) := by decide +kernel
theorem d_law_273 : decode code 273 = .ok (.iload_n 3, 1) := by decide +kernel
theorem d_law_274 : decode code 274 = .ok (.iconst 1, 1) := by decide +kernel
theorem d_law_275 : decode code 275 = .ok (.iadd, 1) := by decide +kernel
theorem d_law_276 : decode code 276 = .ok (.iaload, 1) := by decide +kernel
theorem d_law_277 : decode code 277 = .ok (.invokevirtual 35, 3) := by decide +kernel
theorem d_law_280 : decode code 280 = .ok (.if_icmp .eq 398, 3) := by decide +kernel
theorem d_law_283 : decode code 283 = .ok (.iconst 0, 1) := by decide +kernel
theorem d_law_284 : decode code 284 = .ok (.ireturn, 1) := by decide +kernel
theorem d_law_285 : decode code 285 = .ok (.aload_n 1, 1) := by decide +kernel
theorem d_law_286 : decode code 286 = .ok (.aload_n 0, 1) := by decide +kernel
theorem d_law_287 : decode code 287 = .ok (.iload_n 3, 1) := by decide +kernel
theorem d_law_288 : decode code 288 = .ok (.iconst 1, 1) := by decide +kernel
theorem d_law_289 : decode code 289 = .ok (.iadd, 1) := by decide +kernel
theorem d_law_290 : decode code 290 = .ok (.iaload, 1) := by decide +kernel
theorem d_law_291 : decode code 291 = .ok (.invokevirtual 36, 3) := by decide +kernel
theorem d_law_294 : decode code 294 = .ok (.aload_n 2, 1) := by decide +kernel
theorem d_law_295 : decode code 295 = .ok (.aload_n 0, 1) := by decide +kernel
theorem d_law_296 : decode code 296 = .ok (.iload_n 3, 1) := by decide +kernel
theorem d_law_297 : decode code 297 = .ok (.iconst 1, 1) := by decide +kernel
theorem d_law_298 : decode code 298 = .ok (.iadd, 1) := by decide +kernel
theorem d_law_299 : decode code 299 = .ok (.iaload, 1) := by decide +kernel
theorem d_law_300 : decode code 300 = .ok (.invokevirtual 39, 3) := by decide +kernel
theorem d_law_303 : decode code 303 = .ok (.if_icmp .eq 375, 3) := by decide +kernel
theorem d_law_306 : decode code 306 = .ok (.iconst 0, 1) := by decide +kernel
theorem d_law_307 : decode code 307 = .ok (.ireturn, 1) := by decide +kernel
theorem d_law_308 : decode code 308 = .ok (.aload_n 1, 1) := by decide +kernel
theorem d_law_309 : decode code 309 = .ok (.aload_n 0, 1) := by decide +kernel
theorem d_law_310 : decode code 310 = .ok (.iload_n 3, 1) := by decide +kernel
theorem d_law_311 : decode code 311 = .ok (.iconst 1, 1) := by decide +kernel
theorem d_law_312 : decode code 312 = .ok (.iadd, 1) := by decide +kernel
theorem d_law_313 : decode code 313 = .ok (.iaload, 1) := by decide +kernel
theorem d_law_314 : decode code 314 = .ok (.aload_n 0, 1) := by decide +kernel
theorem d_law_315 : decode code 315 = .ok (.iload_n 3, 1) := by decide +kernel
theorem d_law_316 : decode code 316 = .ok (.iconst 2, 1) := by decide +kernel
theorem d_law_317 : decode code 317 = .ok (.iadd, 1) := by decide +kernel
theorem d_law_318 : decode code 318 = .ok (.iaload, 1) := by decide +kernel
theorem d_law_319 : decode code 319 = .ok (.invokevirtual 40, 3) := by decide +kernel
theorem d_law_322 : decode code 322 = .ok (.aload_n 2, 1) := by decide +kernel
theorem d_law_323 : decode code 323 = .ok (.aload_n 0, 1) := by decide +kernel
theorem d_law_324 : decode code 324 = .ok (.iload_n 3, 1) := by decide +kernel
theorem d_law_325 : decode code 325 = .ok (.iconst 1, 1) := by decide +kernel
theorem d_law_326 : decode code 326 = .ok (.iadd, 1) := by decide +kernel
theorem d_law_327 : decode code 327 = .ok (.iaload, 1) := by decide +kernel
theorem d_law_328 : decode code 328 = .ok (.aload_n 0, 1) := by decide +kernel
theorem d_law_329 : decode code 329 = .ok (.iload_n 3, 1) := by decide +kernel
theorem d_law_330 : decode code 330 = .ok (.iconst 2, 1) := by decide +kernel
theorem d_law_331 : decode code 331 = .ok (.iadd, 1) := by decide +kernel
theorem d_law_332 : decode code 332 = .ok (.iaload, 1) := by decide +kernel
theorem d_law_333 : decode code 333 = .ok (.invokevirtual 43, 3) := by decide +kernel
theorem d_law_336 : decode code 336 = .ok (.if_icmp .eq 342, 3) := by decide +kernel
theorem d_law_339 : decode code 339 = .ok (.iconst 0, 1) := by decide +kernel
theorem d_law_340 : decode code 340 = .ok (.ireturn, 1) := by decide +kernel
theorem d_law_341 : decode code 341 = .ok (.aload_n 1, 1) := by decide +kernel
theorem d_law_342 : decode code 342 = .ok (.aload_n 0, 1) := by decide +kernel
theorem d_law_343 : decode code 343 = .ok (.iload_n 3, 1) := by decide +kernel
theorem d_law_344 : decode code 344 = .ok (.iconst 1, 1) := by decide +kernel
theorem d_law_345 : decode code 345 = .ok (.iadd, 1) := by decide +kernel
theorem d_law_346 : decode code 346 = .ok (.iaload, 1) := by decide +kernel
theorem d_law_347 : decode code 347 = .ok (.aload_n 0, 1) := by decide +kernel
theorem d_law_348 : decode code 348 = .ok (.iload_n 3, 1) := by decide +kernel
theorem d_law_349 : decode code 349 = .ok (.iconst 2, 1) := by decide +kernel
theorem d_law_350 : decode code 350 = .ok (.iadd, 1) := by decide +kernel
theorem d_law_351 : decode code 351 = .ok (.iaload, 1) := by decide +kernel
theorem d_law_352 : decode code 352 = .ok (.aload_n 0, 1) := by decide +kernel
theorem d_law_353 : decode code 353 = .ok (.iload_n 3, 1) := by decide +kernel
theorem d_law_354 : decode code 354 = .ok (.iconst 3, 1) := by decide +kernel
theorem d_law_355 : decode code 355 = .ok (.iadd, 1) := by decide +kernel
theorem d_law_356 : decode code 356 = .ok (.iaload, 1) := by decide +kernel
theorem d_law_357 : decode code 357 = .ok (.invokevirtual 44, 3) := by decide +kernel
theorem d_law_360 : decode code 360 = .ok (.aload_n 2, 1) := by decide +kernel
theorem d_law_361 : decode code 361 = .ok (.aload_n 0, 1) := by decide +kernel
theorem d_law_362 : decode code 362 = .ok (.iload_n 3, 1) := by decide +kernel
theorem d_law_363 : decode code 363 = .ok (.iconst 1, 1) := by decide +kernel
theorem d_law_364 : decode code 364 = .ok (.iadd, 1) := by decide +kernel
theorem d_law_365 : decode code 365 = .ok (.iaload, 1) := by decide +kernel
theorem d_law_366 : decode code 366 = .ok (.aload_n 0, 1) := by decide +kernel
theorem d_law_367 : decode code 367 = .ok (.iload_n 3, 1) := by decide +kernel
theorem d_law_368 : decode code 368 = .ok (.iconst 2, 1) := by decide +kernel
theorem d_law_369 : decode code 369 = .ok (.iadd, 1) := by decide +kernel
theorem d_law_370 : decode code 370 = .ok (.iaload, 1) := by decide +kernel
theorem d_law_371 : decode code 371 = .ok (.aload_n 0, 1) := by decide +kernel
theorem d_law_372 : decode code 372 = .ok (.iload_n 3, 1) := by decide +kernel
theorem d_law_373 : decode code 373 = .ok (.iconst 3, 1) := by decide +kernel
theorem d_law_374 : decode code 374 = .ok (.iadd, 1) := by decide +kernel
theorem d_law_375 : decode code 375 = .ok (.iaload, 1) := by decide +kernel
theorem d_law_376 : decode code 376 = .ok (.invokevirtual 48, 3) := by decide +kernel
theorem d_law_379 : decode code 379 = .ok (.if_icmp .eq 299, 3) := by decide +kernel
theorem d_law_382 : decode code 382 = .ok (.iconst 0, 1) := by decide +kernel
theorem d_law_383 : decode code 383 = .ok (.ireturn, 1) := by decide +kernel
theorem d_law_384 : decode code 384 = .ok (.aload_n 1, 1) := by decide +kernel
theorem d_law_385 : decode code 385 = .ok (.aload_n 0, 1) := by decide +kernel
theorem d_law_386 : decode code 386 = .ok (.iload_n 3, 1) := by decide +kernel
theorem d_law_387 : decode code 387 = .ok (.iconst 1, 1) := by decide +kernel
theorem d_law_388 : decode code 388 = .ok (.iadd, 1) := by decide +kernel
theorem d_law_389 : decode code 389 = .ok (.iaload, 1) := by decide +kernel
theorem d_law_390 : decode code 390 = .ok (.aload_n 0, 1) := by decide +kernel
theorem d_law_391 : decode code 391 = .ok (.iload_n 3, 1) := by decide +kernel
theorem d_law_392 : decode code 392 = .ok (.iconst 2, 1) := by decide +kernel
theorem d_law_393 : decode code 393 = .ok (.iadd, 1) := by decide +kernel
theorem d_law_394 : decode code 394 = .ok (.iaload, 1) := by decide +kernel
theorem d_law_395 : decode code 395 = .ok (.aload_n 0, 1) := by decide +kernel
theorem d_law_396 : decode code 396 = .ok (.iload_n 3, 1) := by decide +kernel
theorem d_law_397 : decode code 397 = .ok (.iconst 3, 1) := by decide +kernel
theorem d_law_398 : decode code 398 = .ok (.iadd, 1) := by decide +kernel
theorem d_law_399 : decode code 399 = .ok (.iaload, 1) := by decide +kernel
theorem d_law_400 : decode code 400 = .ok (.invokevirtual 49, 3) := by decide +kernel
theorem d_law_403 : decode code 403 = .ok (.aload_n 2, 1) := by decide +kernel
theorem d_law_404 : decode code 404 = .ok (.aload_n 0, 1) := by decide +kernel
theorem d_law_405 : decode code 405 = .ok (.iload_n 3, 1) := by decide +kernel
theorem d_law_406 : decode code 406 = .ok (.iconst 1, 1) := by decide +kernel
theorem d_law_407 : decode code 407 = .ok (.iadd, 1) := by decide +kernel
theorem d_law_408 : decode code 408 = .ok (.iaload, 1) := by decide +kernel
theorem d_law_409 : decode code 409 = .ok (.aload_n 0, 1) := by decide +kernel
theorem d_law_410 : decode code 410 = .ok (.iload_n 3, 1) := by decide +kernel
theorem d_law_411 : decode code 411 = .ok (.iconst 2, 1) := by decide +kernel
theorem d_law_412 : decode code 412 = .ok (.iadd, 1) := by decide +kernel
theorem d_law_413 : decode code 413 = .ok (.iaload, 1) := by decide +kernel
theorem d_law_414 : decode code 414 = .ok (.aload_n 0, 1) := by decide +kernel
theorem d_law_415 : decode code 415 = .ok (.iload_n 3, 1) := by decide +kernel
theorem d_law_416 : decode code 416 = .ok (.iconst 3, 1) := by decide +kernel
theorem d_law_417 : decode code 417 = .ok (.iadd, 1) := by decide +kernel
theorem d_law_418 : decode code 418 = .ok (.iaload, 1) := by decide +kernel
theorem d_law_419 : decode code 419 = .ok (.invokevirtual 53, 3) := by decide +kernel
theorem d_law_422 : decode code 422 = .ok (.if_icmp .eq 256, 3) := by decide +kernel
theorem d_law_425 : decode code 425 = .ok (.iconst 0, 1) := by decide +kernel
theorem d_law_426 : decode code 426 = .ok (.ireturn, 1) := by decide +kernel
theorem d_law_427 : decode code 427 = .ok (.aload_n 1, 1) := by decide +kernel
theorem d_law_428 : decode code 428 = .ok (.aload_n 0, 1) := by decide +kernel
theorem d_law_429 : decode code 429 = .ok (.iload_n 3, 1) := by decide +kernel
theorem d_law_430 : decode code 430 = .ok (.iconst 1, 1) := by decide +kernel
theorem d_law_431 : decode code 431 = .ok (.iadd, 1) := by decide +kernel
theorem d_law_432 : decode code 432 = .ok (.iaload, 1) := by decide +kernel
theorem d_law_433 : decode code 433 = .ok (.aload_n 0, 1) := by decide +kernel
theorem d_law_434 : decode code 434 = .ok (.iload_n 3, 1) := by decide +kernel
theorem d_law_435 : decode code 435 = .ok (.iconst 2, 1) := by decide +kernel
theorem d_law_436 : decode code 436 = .ok (.iadd, 1) := by decide +kernel
theorem d_law_437 : decode code 437 = .ok (.iaload, 1) := by decide +kernel
theorem d_law_438 : decode code 438 = .ok (.aload_n 0, 1) := by decide +kernel
theorem d_law_439 : decode code 439 = .ok (.iload_n 3, 1) := by decide +kernel
theorem d_law_440 : decode code 440 = .ok (.iconst 3, 1) := by decide +kernel
theorem d_law_441 : decode code 441 = .ok (.iadd, 1) := by decide +kernel
theorem d_law_442 : decode code 442 = .ok (.iaload, 1) := by decide +kernel
theorem d_law_443 : decode code 443 = .ok (.invokevirtual 54, 3) := by decide +kernel
theorem d_law_446 : decode code 446 = .ok (.aload_n 2, 1) := by decide +kernel
theorem d_law_447 : decode code 447 = .ok (.aload_n 0, 1) := by decide +kernel
theorem d_law_448 : decode code 448 = .ok (.iload_n 3, 1) := by decide +kernel
theorem d_law_449 : decode code 449 = .ok (.iconst 1, 1) := by decide +kernel
theorem d_law_450 : decode code 450 = .ok (.iadd, 1) := by decide +kernel
theorem d_law_451 : decode code 451 = .ok (.iaload, 1) := by decide +kernel
theorem d_law_452 : decode code 452 = .ok (.aload_n 0, 1) := by decide +kernel
theorem d_law_453 : decode code 453 = .ok (.iload_n 3, 1) := by decide +kernel
theorem d_law_454 : decode code 454 = .ok (.iconst 2, 1) := by decide +kernel
theorem d_law_455 : decode code 455 = .ok (.iadd, 1) := by decide +kernel
theorem d_law_456 : decode code 456 = .ok (.iaload, 1) := by decide +kernel
theorem d_law_457 : decode code 457 = .ok (.aload_n 0, 1) := by decide +kernel
theorem d_law_458 : decode code 458 = .ok (.iload_n 3, 1) := by decide +kernel
theorem d_law_459 : decode code 459 = .ok (.iconst 3, 1) := by decide +kernel
theorem d_law_460 : decode code 460 = .ok (.iadd, 1) := by decide +kernel
theorem d_law_461 : decode code 461 = .ok (.iaload, 1) := by decide +kernel
theorem d_law_462 : decode code 462 = .ok (.invokevirtual 57, 3) := by decide +kernel
theorem d_law_465 : decode code 465 = .ok (.if_icmp .eq 213, 3) := by decide +kernel
theorem d_law_468 : decode code 468 = .ok (.iconst 0, 1) := by decide +kernel
theorem d_law_469 : decode code 469 = .ok (.ireturn, 1) := by decide +kernel
theorem d_law_470 : decode code 470 = .ok (.aload_n 1, 1) := by decide +kernel
theorem d_law_471 : decode code 471 = .ok (.aload_n 0, 1) := by decide +kernel
theorem d_law_472 : decode code 472 = .ok (.iload_n 3, 1) := by decide +kernel
theorem d_law_473 : decode code 473 = .ok (.iconst 1, 1) := by decide +kernel
theorem d_law_474 : decode code 474 = .ok (.iadd, 1) := by decide +kernel
theorem d_law_475 : decode code 475 = .ok (.iaload, 1) := by decide +kernel
theorem d_law_476 : decode code 476 = .ok (.aload_n 0, 1) := by decide +kernel
theorem d_law_477 : decode code 477 = .ok (.iload_n 3, 1) := by decide +kernel
theorem d_law_478 : decode code 478 = .ok (.iconst 2, 1) := by decide +kernel
theorem d_law_479 : decode code 479 = .ok (.iadd, 1) := by decide +kernel
theorem d_law_480 : decode code 480 = .ok (.iaload, 1) := by decide +kernel
theorem d_law_481 : decode code 481 = .ok (.invokevirtual 58, 3) := by decide +kernel
theorem d_law_484 : decode code 484 = .ok (.aload_n 2, 1) := by decide +kernel
theorem d_law_485 : decode code 485 = .ok (.aload_n 0, 1) := by decide +kernel
theorem d_law_486 : decode code 486 = .ok (.iload_n 3, 1) := by decide +kernel
theorem d_law_487 : decode code 487 = .ok (.iconst 1, 1) := by decide +kernel
theorem d_law_488 : decode code 488 = .ok (.iadd, 1) := by decide +kernel
theorem d_law_489 : decode code 489 = .ok (.iaload, 1) := by decide +kernel
theorem d_law_490 : decode code 490 = .ok (.aload_n 0, 1) := by decide +kernel
theorem d_law_491 : decode code 491 = .ok (.iload_n 3, 1) := by decide +kernel
theorem d_law_492 : decode code 492 = .ok (.iconst 2, 1) := by decide +kernel
theorem d_law_493 : decode code 493 = .ok (.iadd, 1) := by decide +kernel
theorem d_law_494 : decode code 494 = .ok (.iaload, 1) := by decide +kernel
theorem d_law_495 : decode code 495 = .ok (.invokevirtual 61, 3) := by decide +kernel
theorem d_law_498 : decode code 498 = .ok (.if_icmp .eq 180, 3) := by decide +kernel
theorem d_law_501 : decode code 501 = .ok (.iconst 0, 1) := by decide +kernel
theorem d_law_502 : decode code 502 = .ok (.ireturn, 1) := by decide +kernel
theorem d_law_503 : decode code 503 = .ok (.aload_n 1, 1) := by decide +kernel
theorem d_law_504 : decode code 504 = .ok (.aload_n 0, 1) := by decide +kernel
theorem d_law_505 : decode code 505 = .ok (.iload_n 3, 1) := by decide +kernel
theorem d_law_506 : decode code 506 = .ok (.iconst 1, 1) := by decide +kernel
theorem d_law_507 : decode code 507 = .ok (.iadd, 1) := by decide +kernel
theorem d_law_508 : decode code 508 = .ok (.iaload, 1) := by decide +kernel
theorem d_law_509 : decode code 509 = .ok (.aload_n 0, 1) := by decide +kernel
theorem d_law_510 : decode code 510 = .ok (.iload_n 3, 1) := by decide +kernel
theorem d_law_511 : decode code 511 = .ok (.iconst 2, 1) := by decide +kernel
theorem d_law_512 : decode code 512 = .ok (.iadd, 1) := by decide +kernel
theorem d_law_513 : decode code 513 = .ok (.iaload, 1) := by decide +kernel
theorem d_law_514 : decode code 514 = .ok (.invokevirtual 62, 3) := by decide +kernel
theorem d_law_517 : decode code 517 = .ok (.aload_n 2, 1) := by decide +kernel
theorem d_law_518 : decode code 518 = .ok (.aload_n 0, 1) := by decide +kernel
theorem d_law_519 : decode code 519 = .ok (.iload_n 3, 1) := by decide +kernel
theorem d_law_520 : decode code 520 = .ok (.iconst 1, 1) := by decide +kernel
theorem d_law_521 : decode code 521 = .ok (.iadd, 1) := by decide +kernel
theorem d_law_522 : decode code 522 = .ok (.iaload, 1) := by decide +kernel
theorem d_law_523 : decode code 523 = .ok (.aload_n 0, 1) := by decide +kernel
theorem d_law_524 : decode code 524 = .ok (.iload_n 3, 1) := by decide +kernel
theorem d_law_525 : decode code 525 = .ok (.iconst 2, 1) := by decide +kernel
theorem d_law_526 : decode code 526 = .ok (.iadd, 1) := by decide +kernel
theorem d_law_527 : decode code 527 = .ok (.iaload, 1) := by decide +kernel
theorem d_law_528 : decode code 528 = .ok (.invokevirtual 65, 3) := by decide +kernel
theorem d_law_531 : decode code 531 = .ok (.if_icmp .eq 147, 3) := by decide +kernel
theorem d_law_534 : decode code 534 = .ok (.iconst 0, 1) := by decide +kernel
theorem d_law_535 : decode code 535 = .ok (.ireturn, 1) := by decide +kernel
theorem d_law_536 : decode code 536 = .ok (.aload_n 1, 1) := by decide +kernel
theorem d_law_537 : decode code 537 = .ok (.aload_n 0, 1) := by decide +kernel
theorem d_law_538 : decode code 538 = .ok (.iload_n 3, 1) := by decide +kernel
theorem d_law_539 : decode code 539 = .ok (.iconst 1, 1) := by decide +kernel
theorem d_law_540 : decode code 540 = .ok (.iadd, 1) := by decide +kernel
theorem d_law_541 : decode code 541 = .ok (.iaload, 1) := by decide +kernel
theorem d_law_542 : decode code 542 = .ok (.invokevirtual 66, 3) := by decide +kernel
theorem d_law_545 : decode code 545 = .ok (.aload_n 2, 1) := by decide +kernel
theorem d_law_546 : decode code 546 = .ok (.aload_n 0, 1) := by decide +kernel
theorem d_law_547 : decode code 547 = .ok (.iload_n 3, 1) := by decide +kernel
theorem d_law_548 : decode code 548 = .ok (.iconst 1, 1) := by decide +kernel
theorem d_law_549 : decode code 549 = .ok (.iadd, 1) := by decide +kernel
theorem d_law_550 : decode code 550 = .ok (.iaload, 1) := by decide +kernel
theorem d_law_551 : decode code 551 = .ok (.invokevirtual 70, 3) := by decide +kernel
theorem d_law_554 : decode code 554 = .ok (.if_icmp .eq 124, 3) := by decide +kernel
theorem d_law_557 : decode code 557 = .ok (.iconst 0, 1) := by decide +kernel
theorem d_law_558 : decode code 558 = .ok (.ireturn, 1) := by decide +kernel
theorem d_law_559 : decode code 559 = .ok (.aload_n 1, 1) := by decide +kernel
theorem d_law_560 : decode code 560 = .ok (.aload_n 0, 1) := by decide +kernel
theorem d_law_561 : decode code 561 = .ok (.iload_n 3, 1) := by decide +kernel
theorem d_law_562 : decode code 562 = .ok (.iconst 1, 1) := by decide +kernel
theorem d_law_563 : decode code 563 = .ok (.iadd, 1) := by decide +kernel
theorem d_law_564 : decode code 564 = .ok (.iaload, 1) := by decide +kernel
theorem d_law_565 : decode code 565 = .ok (.ifCond .eq 7, 3) := by decide +kernel
theorem d_law_568 : decode code 568 = .ok (.iconst 1, 1) := by decide +kernel
theorem d_law_569 : decode code 569 = .ok (.goto 4, 3) := by decide +kernel
theorem d_law_572 : decode code 572 = .ok (.iconst 0, 1) := by decide +kernel
theorem d_law_573 : decode code 573 = .ok (.invokevirtual 71, 3) := by decide +kernel
theorem d_law_576 : decode code 576 = .ok (.aload_n 2, 1) := by decide +kernel
theorem d_law_577 : decode code 577 = .ok (.aload_n 0, 1) := by decide +kernel
theorem d_law_578 : decode code 578 = .ok (.iload_n 3, 1) := by decide +kernel
theorem d_law_579 : decode code 579 = .ok (.iconst 1, 1) := by decide +kernel
theorem d_law_580 : decode code 580 = .ok (.iadd, 1) := by decide +kernel
theorem d_law_581 : decode code 581 = .ok (.iaload, 1) := by decide +kernel
theorem d_law_582 : decode code 582 = .ok (.ifCond .eq 7, 3) := by decide +kernel
theorem d_law_585 : decode code 585 = .ok (.iconst 1, 1) := by decide +kernel
theorem d_law_586 : decode code 586 = .ok (.goto 4, 3) := by decide +kernel
theorem d_law_589 : decode code 589 = .ok (.iconst 0, 1) := by decide +kernel
theorem d_law_590 : decode code 590 = .ok (.invokevirtual 75, 3) := by decide +kernel
theorem d_law_593 : decode code 593 = .ok (.if_icmp .eq 85, 3) := by decide +kernel
theorem d_law_596 : decode code 596 = .ok (.iconst 0, 1) := by decide +kernel
theorem d_law_597 : decode code 597 = .ok (.ireturn, 1) := by decide +kernel
theorem d_law_598 : decode code 598 = .ok (.aload_n 1, 1) := by decide +kernel
theorem d_law_599 : decode code 599 = .ok (.aload_n 0, 1) := by decide +kernel
theorem d_law_600 : decode code 600 = .ok (.iload_n 3, 1) := by decide +kernel
theorem d_law_601 : decode code 601 = .ok (.iconst 1, 1) := by decide +kernel
theorem d_law_602 : decode code 602 = .ok (.iadd, 1) := by decide +kernel
theorem d_law_603 : decode code 603 = .ok (.iaload, 1) := by decide +kernel
theorem d_law_604 : decode code 604 = .ok (.invokevirtual 76, 3) := by decide +kernel
theorem d_law_607 : decode code 607 = .ok (.aload_n 2, 1) := by decide +kernel
theorem d_law_608 : decode code 608 = .ok (.aload_n 0, 1) := by decide +kernel
theorem d_law_609 : decode code 609 = .ok (.iload_n 3, 1) := by decide +kernel
theorem d_law_610 : decode code 610 = .ok (.iconst 1, 1) := by decide +kernel
theorem d_law_611 : decode code 611 = .ok (.iadd, 1) := by decide +kernel
theorem d_law_612 : decode code 612 = .ok (.iaload, 1) := by decide +kernel
theorem d_law_613 : decode code 613 = .ok (.invokevirtual 79, 3) := by decide +kernel
theorem d_law_616 : decode code 616 = .ok (.if_icmp .eq 62, 3) := by decide +kernel
theorem d_law_619 : decode code 619 = .ok (.iconst 0, 1) := by decide +kernel
theorem d_law_620 : decode code 620 = .ok (.ireturn, 1) := by decide +kernel
theorem d_law_621 : decode code 621 = .ok (.aload_n 1, 1) := by decide +kernel
theorem d_law_622 : decode code 622 = .ok (.aload_n 0, 1) := by decide +kernel
theorem d_law_623 : decode code 623 = .ok (.iload_n 3, 1) := by decide +kernel
theorem d_law_624 : decode code 624 = .ok (.iconst 1, 1) := by decide +kernel
theorem d_law_625 : decode code 625 = .ok (.iadd, 1) := by decide +kernel
theorem d_law_626 : decode code 626 = .ok (.iaload, 1) := by decide +kernel
theorem d_law_627 : decode code 627 = .ok (.invokevirtual 80, 3) := by decide +kernel
theorem d_law_630 : decode code 630 = .ok (.aload_n 2, 1) := by decide +kernel
theorem d_law_631 : decode code 631 = .ok (.aload_n 0, 1) := by decide +kernel
theorem d_law_632 : decode code 632 = .ok (.iload_n 3, 1) := by decide +kernel
theorem d_law_633 : decode code 633 = .ok (.iconst 1, 1) := by decide +kernel
theorem d_law_634 : decode code 634 = .ok (.iadd, 1) := by decide +kernel
theorem d_law_635 : decode code 635 = .ok (.iaload, 1) := by decide +kernel
theorem d_law_636 : decode code 636 = .ok (.invokevirtual 84, 3) := by decide +kernel
theorem d_law_639 : decode code 639 = .ok (.goto 39, 3) := by decide +kernel
theorem d_law_642 : decode code 642 = .ok (.aload_n 1, 1) := by decide +kernel
theorem d_law_643 : decode code 643 = .ok (.aload_n 0, 1) := by decide +kernel
theorem d_law_644 : decode code 644 = .ok (.iload_n 3, 1) := by decide +kernel
theorem d_law_645 : decode code 645 = .ok (.iconst 1, 1) := by decide +kernel
theorem d_law_646 : decode code 646 = .ok (.iadd, 1) := by decide +kernel
theorem d_law_647 : decode code 647 = .ok (.iaload, 1) := by decide +kernel
theorem d_law_648 : decode code 648 = .ok (.invokevirtual 85, 3) := by decide +kernel
theorem d_law_651 : decode code 651 = .ok (.aload_n 2, 1) := by decide +kernel
theorem d_law_652 : decode code 652 = .ok (.aload_n 0, 1) := by decide +kernel
theorem d_law_653 : decode code 653 = .ok (.iload_n 3, 1) := by decide +kernel
theorem d_law_654 : decode code 654 = .ok (.iconst 1, 1) := by decide +kernel
theorem d_law_655 : decode code 655 = .ok (.iadd, 1) := by decide +kernel
theorem d_law_656 : decode code 656 = .ok (.iaload, 1) := by decide +kernel
theorem d_law_657 : decode code 657 = .ok (.invokevirtual 88, 3) := by decide +kernel
theorem d_law_660 : decode code 660 = .ok (.if_icmp .eq 18, 3) := by decide +kernel
theorem d_law_663 : decode code 663 = .ok (.iconst 0, 1) := by decide +kernel
theorem d_law_664 : decode code 664 = .ok (.ireturn, 1) := by decide +kernel
theorem d_law_665 : decode code 665 = .ok (.aload_n 1, 1) := by decide +kernel
theorem d_law_666 : decode code 666 = .ok (.invokevirtual 89, 3) := by decide +kernel
theorem d_law_669 : decode code 669 = .ok (.aload_n 2, 1) := by decide +kernel
theorem d_law_670 : decode code 670 = .ok (.invokevirtual 93, 3) := by decide +kernel
theorem d_law_673 : decode code 673 = .ok (.if_icmp .eq 5, 3) := by decide +kernel
theorem d_law_676 : decode code 676 = .ok (.iconst 0, 1) := by decide +kernel
theorem d_law_677 : decode code 677 = .ok (.ireturn, 1) := by decide +kernel
theorem d_law_678 : decode code 678 = .ok (.iinc 3 5, 3) := by decide +kernel
theorem d_law_681 : decode code 681 = .ok (.goto (-663), 3) := by decide +kernel
theorem d_law_684 : decode code 684 = .ok (.iconst 1, 1) := by decide +kernel
theorem d_law_685 : decode code 685 = .ok (.ireturn, 1) := by decide +kernel
end
section
/-! A world whose cells are numbered: for k below N cell k lies at the address a k and is f k. -/
def ml (N : Nat) (a : Nat → Nat) (f : Nat → va_E) : va_W := (List.range N).map (fun k => (a k, f k))
theorem ml_at {N : Nat} {a : Nat → Nat} {f : Nat → va_E} {k : Nat} {e : va_E} (hk : k < N) (he : f k = e) : (ml N a f)[k]? = some (a k, e) := by
  subst he
  simp [ml, hk]
theorem ml_len {N : Nat} {a : Nat → Nat} {f : Nat → va_E} : (ml N a f).length = N := by simp [ml]
theorem ml_no {N : Nat} {a : Nat → Nat} {f : Nat → va_E} {k : Nat} (hk : N ≤ k) : (ml N a f)[k]? = none := List.getElem?_eq_none (by rw [ml_len]; exact hk)
theorem ml_inv {N : Nat} {a : Nat → Nat} {f : Nat → va_E} {k : Nat} {q : Nat × va_E} (h : (ml N a f)[k]? = some q) : k < N ∧ q = (a k, f k) := by
  by_cases hk : k < N
  · rw [ml_at hk rfl] at h
    exact ⟨hk, (Option.some.inj h).symm⟩
  · rw [ml_no (by omega)] at h
    cases h
theorem ml_set {N : Nat} {a : Nat → Nat} {f : Nat → va_E} {k : Nat} {e : va_E} (hk : k < N) : (ml N a f).set k (a k, e) = ml N a (va_up f k e) := by
  apply List.ext_getElem?
  intro j
  by_cases hj : j = k
  · subst hj
    rw [List.getElem?_set_self (by rw [ml_len]; exact hk), ml_at hk (va_up_self f j e)]
  · rw [List.getElem?_set_ne (Ne.symm hj)]
    by_cases hN : j < N
    · rw [ml_at hN rfl, ml_at hN (va_up_ne f e hj)]
    · rw [ml_no (by omega), ml_no (by omega)]
theorem ml_congr {N : Nat} {a a' : Nat → Nat} {f f' : Nat → va_E} (ha : ∀ k, k < N → a' k = a k) (hf : ∀ k, k < N → f' k = f k) : ml N a' f' = ml N a f := by
  apply List.ext_getElem?
  intro j
  by_cases hN : j < N
  · rw [ml_at hN rfl, ml_at hN rfl, ha j hN, hf j hN]
  · rw [ml_no (by omega), ml_no (by omega)]
theorem ml_push {N : Nat} {a a' : Nat → Nat} {f f' : Nat → va_E} {q : Nat} {e : va_E} (ha : ∀ k, k < N → a' k = a k) (hf : ∀ k, k < N → f' k = f k) (hq : a' N = q) (he : f' N = e) : ml N a f ++ [(q, e)] = ml (N + 1) a' f' := by
  apply List.ext_getElem?
  intro j
  by_cases hN : j < N
  · rw [List.getElem?_append_left (by rw [ml_len]; exact hN), ml_at hN rfl, ml_at (Nat.lt_succ_of_lt hN) rfl, ha j hN, hf j hN]
  · by_cases hj : j = N
    · subst hj
      rw [List.getElem?_append_right (by rw [ml_len]; exact Nat.le_refl _), ml_len, Nat.sub_self, ml_at (Nat.lt_succ_self _) he, hq]
      rfl
    · rw [ml_no (by omega), List.getElem?_eq_none (by rw [List.length_append, ml_len]; simp; omega)]
/-- a method's start, and its end -/
def ml_B (D : va_G) (cl : List vw_C) (tys : List (ClassId × FieldType)) (N : Nat) (a : Nat → Nat) (f : Nat → va_E) (sz : Nat) (U : State) : Prop := U.heap.size = sz ∧ va_P D cl (ml N a f) U.heap ∧ va_K D cl tys U ∧ va_D (fun _ => True) (ml N a f)
def ml_E (D : va_G) (cl : List vw_C) (tys : List (ClassId × FieldType)) (N : Nat) (a : Nat → Nat) (f : Nat → va_E) (A : Nat → Prop) (t : State) : Prop := va_P D cl (ml N a f) t.heap ∧ va_K D cl tys t ∧ va_D A (ml N a f)
theorem ml_blind {D : va_G} {cl : List vw_C} {tys : List (ClassId × FieldType)} {N : Nat} {a : Nat → Nat} {f : Nat → va_E} {sz : Nat} {av : List Value} : FrameBlind (va_Pc av (ml_B D cl tys N a f sz)) := fun ar U g mk q => by
  obtain ⟨q0, q1, qP, qK, qD⟩ := q
  exact ⟨q0, q1, qP, va_K.moved (u := U) (U := U.calling g mk ar) (Vm.Alike.refl U.vm) qK, qD⟩
theorem ml_pre {D : va_G} {cl : List vw_C} {tys : List (ClassId × FieldType)} {N : Nat} {a : Nat → Nat} {f : Nat → va_E} {av : List Value} {s : State} {H : Heap} {A : Nat → Prop} (hP : va_P D cl (ml N a f) H) (hK : va_K D cl tys s) (hD : va_D A (ml N a f)) : ∀ U : State, U.heap = H → s.WarmedH U.vm → va_Pc av (ml_B D cl tys N a f H.size) av.toArray U :=
  fun U hU hW => ⟨rfl, by rw [hU], by rw [hU]; exact hP, va_K.moved hW.alike hK, hD.weaken (fun _ _ _ _ => trivial)⟩
theorem ml_free {A : Nat → Prop} {ws : va_W} {H0 H : Heap} {locs : List Loc} (hD : va_D A ws) (hS : va_S A H0 H locs) (hA : ∀ q, H0.size ≤ q → A q) : ∀ q, va_A ws H.size q → A q := by
  intro q h
  rcases h with ⟨k, e, h⟩ | h
  · exact hD.2 k (q, e) h
  · exact hA q (Nat.le_trans hS.1 h)
section ML
variable {p : Program} {l : Launch} {e : Env} {R : Room} {s : State} {m : MethodId} {args : Array Value} {below : List Frame} {meth : Method} {c : Code} {H : Heap} {locs : List Loc} {cells slots : Nat} {Q : State → Prop}
variable {cc : ByteArray} {pc : Nat} {ls : Array Slot} {rest : List Value} {D : va_G} {cl : List vw_C} {A : Nat → Prop} {tys : List (ClassId × FieldType)} {H0 : Heap} {N : Nat} {a : Nat → Nat} {f f' : Nat → va_E}
theorem ml_get (hexec : p.tables.exec = Jvm.exec) (hb : c.code = cc) {own ref C : String} {T : u_T} {n ci index : Nat} {Ts : List Cond} (hts : ∀ w ∈ Ts, w.before args s = true) (hin : ∀ w ∈ u_ws C T n, w ∈ Ts) (hown : s.vm.findClass own = some m.cls) (hK : va_K D cl tys s) (hP : va_P D cl (ml N a f) H) (q0 : Nat) (hq : q0 < N) {fs : List Value} (he : f q0 = .inr (ci, fs)) (hc : cl[ci]? = some (C, T, n)) (k : Nat) (hk : k < n) (hlink : (Cond.fieldLink own index ref (T k).2.1 (T k).2.2.1).before args s = true) (hsame : ∀ x, s.fieldFound? (T k).1 (T k).2.1 (T k).2.2.1 = some x → s.fieldFound? ref (T k).2.1 (T k).2.2.1 = some x) {v : Value} (hv : fs[k]? = some v) (hdg : decode cc pc = .ok (.getfield index, 3))
    (kk : W p l e R s m args below meth c H locs cells slots Q (F0 m (pc + 3) ls (v :: rest))) : W p l e R s m args below meth c H locs cells slots Q (F0 m pc ls (.ref (a q0) :: rest)) :=
  va_get hexec hb hts hin hown hK hP q0 (ml_at hq he) hc k hk hlink hsame hv hdg kk
theorem ml_put (hexec : p.tables.exec = Jvm.exec) (hb : c.code = cc) {own ref C : String} {T : u_T} {n ci index : Nat} {Ts : List Cond} (hts : ∀ w ∈ Ts, w.before args s = true) (hin : ∀ w ∈ u_ws C T n, w ∈ Ts) (ty0 : Nat → FieldType) (hty : ∀ k, k < n → parseFieldDescriptor (T k).2.2.1 = some (ty0 k)) (hnm : ∀ a, a < n → ∀ b, b < n → a ≠ b → (T a).2.1 ≠ (T b).2.1) (hown : s.vm.findClass own = some m.cls) (hK : va_K D cl tys s) (hP : va_P D cl (ml N a f) H) (hD : va_D A (ml N a f)) (hS0 : va_S A H0 H locs) (q0 : Nat) (hq : q0 < N) {fs : List Value} (he : f q0 = .inr (ci, fs)) (hc : cl[ci]? = some (C, T, n)) (k : Nat) (hk : k < n) (hlink : (Cond.fieldLink own index ref (T k).2.1 (T k).2.2.1).before args s = true) (hsame : ∀ x, s.fieldFound? (T k).1 (T k).2.1 (T k).2.2.1 = some x → s.fieldFound? ref (T k).2.1 (T k).2.2.1 = some x) (hfin : (T k).2.2.2 = false) {ty : FieldType} {v : Value} (hd : parseFieldDescriptor (T k).2.2.1 = some ty) (hn : narrow ty v = v) (hfit : fits ty v = true) (hl : k < fs.length)
    (hu : f' = va_up f q0 (.inr (ci, fs.set k v))) (hdg : decode cc pc = .ok (.putfield index, 3)) (kk : ∀ (H1 : Heap) (locs1 : List Loc), va_P D cl (ml N a f') H1 → va_D A (ml N a f') → va_S A H0 H1 locs1 → W p l e R s m args below meth c H1 locs1 cells slots Q (F0 m (pc + 3) ls rest)) : W p l e R s m args below meth c H locs cells slots Q (F0 m pc ls (v :: .ref (a q0) :: rest)) := by
  subst hu
  exact va_put hexec hb hts hin ty0 hty hnm hown hK hP hD hS0 q0 (ml_at hq he) hc k hk hlink hsame hfin hd hn hfit hl hdg (fun H1 locs1 h1 h2 h3 => kk H1 locs1 (by rw [← ml_set hq]; exact h1) (by rw [← ml_set hq]; exact h2) h3)
theorem ml_putF (hexec : p.tables.exec = Jvm.exec) (hb : c.code = cc) {own ref C : String} {T : u_T} {n ci index : Nat} {Ts : List Cond} (hts : ∀ w ∈ Ts, w.before args s = true) (hin : ∀ w ∈ u_ws C T n, w ∈ Ts) (ty0 : Nat → FieldType) (hty : ∀ k, k < n → parseFieldDescriptor (T k).2.2.1 = some (ty0 k)) (hnm : ∀ a, a < n → ∀ b, b < n → a ≠ b → (T a).2.1 ≠ (T b).2.1) (hown : s.vm.findClass own = some m.cls) (hK : va_K D cl tys s) (hP : va_P D cl (ml N a f) H) (hD : va_D A (ml N a f)) (hS0 : va_S A H0 H locs) (q0 : Nat) (hq : q0 < N) {fs : List Value} (he : f q0 = .inr (ci, fs)) (hc : cl[ci]? = some (C, T, n)) (k : Nat) (hk : k < n) (hlink : (Cond.fieldLink own index ref (T k).2.1 (T k).2.2.1).before args s = true) (hsame : ∀ x, s.fieldFound? (T k).1 (T k).2.1 (T k).2.2.1 = some x → s.fieldFound? ref (T k).2.1 (T k).2.2.1 = some x) (hfin : (T k).2.2.2 = true) (hin2 : meth.name = "<init>") (hdecl : (T k).1 = own) {ty : FieldType} {v : Value} (hd : parseFieldDescriptor (T k).2.2.1 = some ty) (hn : narrow ty v = v) (hfit : fits ty v = true) (hl : k < fs.length)
    (hu : f' = va_up f q0 (.inr (ci, fs.set k v))) (hdg : decode cc pc = .ok (.putfield index, 3)) (kk : ∀ (H1 : Heap) (locs1 : List Loc), va_P D cl (ml N a f') H1 → va_D A (ml N a f') → va_S A H0 H1 locs1 → W p l e R s m args below meth c H1 locs1 cells slots Q (F0 m (pc + 3) ls rest)) : W p l e R s m args below meth c H locs cells slots Q (F0 m pc ls (v :: .ref (a q0) :: rest)) := by
  subst hu
  exact va_putF hexec hb hts hin ty0 hty hnm hown hK hP hD hS0 q0 (ml_at hq he) hc k hk hlink hsame hfin hin2 hdecl hd hn hfit hl hdg (fun H1 locs1 h1 h2 h3 => kk H1 locs1 (by rw [← ml_set hq]; exact h1) (by rw [← ml_set hq]; exact h2) h3)
theorem ml_iald (hexec : p.tables.exec = Jvm.exec) (hb : c.code = cc) (hK : va_K D cl tys s) (hP : va_P D cl (ml N a f) H) (q0 t0 : Nat) (hq : q0 < N) {cA : ClassId} {n : Nat} {g : Nat → Int32} (he : f q0 = .inl (cA, n, .inl g)) (ht : tys[t0]? = some (cA, .int)) {i : Int32} (hin : vp_in i n) (hdg : decode cc pc = .ok (.iaload, 1))
    (kk : W p l e R s m args below meth c H locs cells slots Q (F0 m (pc + 1) ls (.int (g i.toNatClampNeg) :: rest))) : W p l e R s m args below meth c H locs cells slots Q (F0 m pc ls (.int i :: .ref (a q0) :: rest)) :=
  va_iald hexec hb hK hP q0 t0 (ml_at hq he) ht hin hdg kk
theorem ml_bald (hexec : p.tables.exec = Jvm.exec) (hb : c.code = cc) (hK : va_K D cl tys s) (hP : va_P D cl (ml N a f) H) (q0 t0 : Nat) (hq : q0 < N) {cA : ClassId} {n : Nat} {g : Nat → Int32} (he : f q0 = .inl (cA, n, .inl g)) (ht : tys[t0]? = some (cA, .byte)) {i : Int32} (hin : vp_in i n) (hdg : decode cc pc = .ok (.baload, 1))
    (kk : W p l e R s m args below meth c H locs cells slots Q (F0 m (pc + 1) ls (.int (g i.toNatClampNeg) :: rest))) : W p l e R s m args below meth c H locs cells slots Q (F0 m pc ls (.int i :: .ref (a q0) :: rest)) :=
  va_bald hexec hb hK hP q0 t0 (ml_at hq he) ht hin hdg kk
theorem ml_iast (hexec : p.tables.exec = Jvm.exec) (hb : c.code = cc) (hK : va_K D cl tys s) (hP : va_P D cl (ml N a f) H) (hD : va_D A (ml N a f)) (hS : va_S A H0 H locs) (q0 t0 : Nat) (hq : q0 < N) {cA : ClassId} {n : Nat} {g : Nat → Int32} (he : f q0 = .inl (cA, n, .inl g)) (ht : tys[t0]? = some (cA, .int)) {i x : Int32} (hin : vp_in i n) (hu : f' = va_up f q0 (.inl (cA, n, .inl (upd g i.toNatClampNeg x)))) (hdg : decode cc pc = .ok (.iastore, 1))
    (kk : ∀ (H1 : Heap) (locs1 : List Loc), va_P D cl (ml N a f') H1 → va_D A (ml N a f') → va_S A H0 H1 locs1 → W p l e R s m args below meth c H1 locs1 cells slots Q (F0 m (pc + 1) ls rest)) : W p l e R s m args below meth c H locs cells slots Q (F0 m pc ls (.int x :: .int i :: .ref (a q0) :: rest)) := by
  subst hu
  exact va_iast hexec hb hK hP hD hS q0 t0 (ml_at hq he) ht hin hdg (fun H1 locs1 h1 h2 h3 => kk H1 locs1 (by rw [← ml_set hq]; exact h1) (by rw [← ml_set hq]; exact h2) h3)
theorem ml_bast (hexec : p.tables.exec = Jvm.exec) (hb : c.code = cc) (hK : va_K D cl tys s) (hP : va_P D cl (ml N a f) H) (hD : va_D A (ml N a f)) (hS : va_S A H0 H locs) (q0 t0 : Nat) (hq : q0 < N) {cA : ClassId} {n : Nat} {g : Nat → Int32} (he : f q0 = .inl (cA, n, .inl g)) (ht : tys[t0]? = some (cA, .byte)) {i x : Int32} (hin : vp_in i n) (hu : f' = va_up f q0 (.inl (cA, n, .inl (upd g i.toNatClampNeg (vp_nar .byte x))))) (hdg : decode cc pc = .ok (.bastore, 1))
    (kk : ∀ (H1 : Heap) (locs1 : List Loc), va_P D cl (ml N a f') H1 → va_D A (ml N a f') → va_S A H0 H1 locs1 → W p l e R s m args below meth c H1 locs1 cells slots Q (F0 m (pc + 1) ls rest)) : W p l e R s m args below meth c H locs cells slots Q (F0 m pc ls (.int x :: .int i :: .ref (a q0) :: rest)) := by
  subst hu
  exact va_bast hexec hb hK hP hD hS q0 t0 (ml_at hq he) ht hin hdg (fun H1 locs1 h1 h2 h3 => kk H1 locs1 (by rw [← ml_set hq]; exact h1) (by rw [← ml_set hq]; exact h2) h3)
theorem ml_alen (hexec : p.tables.exec = Jvm.exec) (hb : c.code = cc) (hK : va_K D cl tys s) (hP : va_P D cl (ml N a f) H) (q0 t0 : Nat) (hq : q0 < N) {cA : ClassId} {x : vp_A} (he : f q0 = .inl (cA, x)) {ty : FieldType} (ht : tys[t0]? = some (cA, ty)) {v : Int32} (hv : Int32.ofNat x.1 = v) (hdg : decode cc pc = .ok (.arraylength, 1))
    (kk : W p l e R s m args below meth c H locs cells slots Q (F0 m (pc + 1) ls (.int v :: rest))) : W p l e R s m args below meth c H locs cells slots Q (F0 m pc ls (.ref (a q0) :: rest)) :=
  va_alen hexec hb hK hP q0 t0 (ml_at hq he) ht hv hdg kk
theorem ml_iret {v : Int32} (hexec : p.tables.exec = Jvm.exec) (hb : c.code = cc) (hr : meth.sig.returnType = some .int) (hlocks : meth.locks = false) (hP : va_P D cl (ml N a f) H) (hK : va_K D cl tys s) (hD : va_D A (ml N a f)) (hS : va_S A s.heap H locs) (hdg : decode cc pc = .ok (.ireturn, 1)) :
    W p l e R s m args below meth c H locs cells slots (MQ below (va_Qi (fun r (_ : Unit) => r = v) (fun _ t => ml_E D cl tys N a f A t) A) args s cells slots A) (F0 m pc ls [.int v]) :=
  W.iret hexec hb hr (fun t ht hW => ⟨⟨v, (), rfl, rfl, by rw [ht]; exact hP, va_K.moved hW.alike hK, hD⟩, hS.F ht⟩) hS.2.2 hdg hlocks
theorem ml_zret {v : Int32} {ty : FieldType} (hexec : p.tables.exec = Jvm.exec) (hb : c.code = cc) (hr : meth.sig.returnType = some ty) (hn : narrow ty (.int v) = .int v) (hlocks : meth.locks = false) (hP : va_P D cl (ml N a f) H) (hK : va_K D cl tys s) (hD : va_D A (ml N a f)) (hS : va_S A s.heap H locs) (hdg : decode cc pc = .ok (.ireturn, 1)) :
    W p l e R s m args below meth c H locs cells slots (MQ below (va_Qi (fun r (_ : Unit) => r = v) (fun _ t => ml_E D cl tys N a f A t) A) args s cells slots A) (F0 m pc ls [.int v]) :=
  W.zret hexec hb hr hn (fun t ht hW => ⟨⟨v, (), rfl, rfl, by rw [ht]; exact hP, va_K.moved hW.alike hK, hD⟩, hS.F ht⟩) hS.2.2 hdg hlocks
theorem ml_vret (hexec : p.tables.exec = Jvm.exec) (hb : c.code = cc) (hr : meth.sig.returnType = none) (hlocks : meth.locks = false) (hP : va_P D cl (ml N a f) H) (hK : va_K D cl tys s) (hD : va_D A (ml N a f)) (hS : va_S A s.heap H locs) (hdg : decode cc pc = .ok (.return_, 1)) :
    W p l e R s m args below meth c H locs cells slots (MQ below (va_Qv (fun (_ : Unit) => True) (fun _ t => ml_E D cl tys N a f A t) A) args s cells slots A) (F0 m pc ls []) :=
  W.vret hexec hb hr (fun t ht hW => ⟨⟨(), rfl, trivial, by rw [ht]; exact hP, va_K.moved hW.alike hK, hD⟩, hS.F ht⟩) hS.2.2 hdg hlocks
theorem ml_aretS {x : Nat} {rt : String} (hexec : p.tables.exec = Jvm.exec) (hb : c.code = cc) (hr : meth.sig.returnType = some (.object rt)) (hlocks : meth.locks = false) (hP : va_P D cl (ml N a f) H) (hK : va_K D cl tys s) (hD : va_D A (ml N a f)) (hS : va_S A s.heap H locs) (hdg : decode cc pc = .ok (.areturn, 1)) :
    W p l e R s m args below meth c H locs cells slots (MQ below (va_Qq (fun r (_ : Unit) => r = some x) (fun _ t => ml_E D cl tys N a f A t) A) args s cells slots A) (F0 m pc ls [.ref x]) :=
  W.aret hexec hb hr (Or.inl ⟨_, rfl⟩) (Or.inr ⟨x, rfl⟩) (fun t ht hW => ⟨⟨some x, (), rfl, rfl, by rw [ht]; exact hP, va_K.moved hW.alike hK, hD⟩, hS.F ht⟩) hS.2.2 hdg hlocks
theorem ml_aretN {rt : String} (hexec : p.tables.exec = Jvm.exec) (hb : c.code = cc) (hr : meth.sig.returnType = some (.object rt)) (hlocks : meth.locks = false) (hP : va_P D cl (ml N a f) H) (hK : va_K D cl tys s) (hD : va_D A (ml N a f)) (hS : va_S A s.heap H locs) (hdg : decode cc pc = .ok (.areturn, 1)) :
    W p l e R s m args below meth c H locs cells slots (MQ below (va_Qq (fun r (_ : Unit) => r = none) (fun _ t => ml_E D cl tys N a f A t) A) args s cells slots A) (F0 m pc ls [.null]) :=
  W.aret hexec hb hr (Or.inl ⟨_, rfl⟩) (Or.inl rfl) (fun t ht hW => ⟨⟨none, (), rfl, rfl, by rw [ht]; exact hP, va_K.moved hW.alike hK, hD⟩, hS.F ht⟩) hS.2.2 hdg hlocks
variable {st0 : List Value} {ar : Array Value} {mc ms : Nat}
theorem ml_calli {v : Int32} (hr : va_Run p l e R s m args below meth c H locs cells slots mc ms (F0 m pc ls st0) rest (va_Qi (fun r (_ : Unit) => r = v) (fun _ t => ml_E D cl tys N a f' (va_A (ml N a f) H.size) t) (va_A (ml N a f) H.size) ar) (va_A (ml N a f) H.size)) (hD : va_D A (ml N a f)) (hS : va_S A H0 H locs) (hA : ∀ q, H0.size ≤ q → A q)
    (kk : ∀ (H1 : Heap) (locs1 : List Loc), va_P D cl (ml N a f') H1 → va_D A (ml N a f') → va_S A H0 H1 locs1 → W p l e R s m args below meth c H1 locs1 (cells + mc) (slots + ms) Q (F0 m (pc + 3) ls (.int v :: rest))) : W p l e R s m args below meth c H locs cells slots Q (F0 m pc ls st0) := by
  have hF := ml_free hD hS hA
  refine va_calli hr hS (fun q _ h => hF q h) hF (fun r u t H1 locs1 ht hvm hw hB hz hk hS1 => ?_)
  obtain ⟨hP1, hK1, hD1⟩ := hB
  rw [ht] at hP1
  rw [hw]
  exact kk H1 locs1 hP1 (hD1.weaken (fun k q _ h => hF q.1 h)) hS1
theorem ml_callv (hr : va_Run p l e R s m args below meth c H locs cells slots mc ms (F0 m pc ls st0) rest (va_Qv (fun (_ : Unit) => True) (fun _ t => ml_E D cl tys N a f' (va_A (ml N a f) H.size) t) (va_A (ml N a f) H.size) ar) (va_A (ml N a f) H.size)) (hD : va_D A (ml N a f)) (hS : va_S A H0 H locs) (hA : ∀ q, H0.size ≤ q → A q)
    (kk : ∀ (H1 : Heap) (locs1 : List Loc), va_P D cl (ml N a f') H1 → va_D A (ml N a f') → va_S A H0 H1 locs1 → W p l e R s m args below meth c H1 locs1 (cells + mc) (slots + ms) Q (F0 m (pc + 3) ls rest)) : W p l e R s m args below meth c H locs cells slots Q (F0 m pc ls st0) := by
  have hF := ml_free hD hS hA
  refine va_callv hr hS (fun q _ h => hF q h) hF (fun u t H1 locs1 ht hvm hw hB hz hk hS1 => ?_)
  obtain ⟨hP1, hK1, hD1⟩ := hB
  rw [ht] at hP1
  exact kk H1 locs1 hP1 (hD1.weaken (fun k q _ h => hF q.1 h)) hS1
theorem ml_callq {o : Option Nat} (hr : va_Run p l e R s m args below meth c H locs cells slots mc ms (F0 m pc ls st0) rest (va_Qq (fun r (_ : Unit) => r = o) (fun _ t => ml_E D cl tys N a f' (va_A (ml N a f) H.size) t) (va_A (ml N a f) H.size) ar) (va_A (ml N a f) H.size)) (hD : va_D A (ml N a f)) (hS : va_S A H0 H locs) (hA : ∀ q, H0.size ≤ q → A q)
    (kk : ∀ (H1 : Heap) (locs1 : List Loc), va_P D cl (ml N a f') H1 → va_D A (ml N a f') → va_S A H0 H1 locs1 → W p l e R s m args below meth c H1 locs1 (cells + mc) (slots + ms) Q (F0 m (pc + 3) ls (va_rf o :: rest))) : W p l e R s m args below meth c H locs cells slots Q (F0 m pc ls st0) := by
  have hF := ml_free hD hS hA
  refine va_callq hr hS (fun q _ h => hF q h) hF (fun r u t H1 locs1 ht hvm hw hB hz hk hS1 => ?_)
  obtain ⟨hP1, hK1, hD1⟩ := hB
  rw [ht] at hP1
  rw [hw]
  exact kk H1 locs1 hP1 (hD1.weaken (fun k q _ h => hF q.1 h)) hS1
/-- a reference that may be null, on the stack: two ways on -/
theorem ml_split {α : Type} {o : Option α} {g : α → Nat} (kn : o = none → W p l e R s m args below meth c H locs cells slots Q (F0 m pc ls (.null :: rest))) (ks : ∀ i : α, o = some i → W p l e R s m args below meth c H locs cells slots Q (F0 m pc ls (.ref (g i) :: rest))) : W p l e R s m args below meth c H locs cells slots Q (F0 m pc ls (va_rf (o.map g) :: rest)) := by
  cases o with
  | none => exact kn rfl
  | some i => exact ks i rfl
end ML
/-- a case on something that may be absent -/
def oc {α β : Type} (o : Option β) (t : α) (f : β → α) : α := match o with
  | none => t
  | some x => f x
theorem oc_n {α β : Type} {t : α} {f : β → α} : oc none t f = t := rfl
theorem oc_s {α β : Type} {t : α} {f : β → α} {x : β} : oc (some x) t f = f x := rfl
end
section
/-! Pure: how many of the first n have P; the least from k on that has it not. -/
def ct (P : Nat → Bool) : Nat → Nat
  | 0 => 0
  | n + 1 => ct P n + (if P n then 1 else 0)
theorem ct_le (P : Nat → Bool) : ∀ n, ct P n ≤ n
  | 0 => Nat.le_refl 0
  | n + 1 => by
    have h := ct_le P n
    show ct P n + (if P n then 1 else 0) ≤ n + 1
    split <;> omega
theorem ct_congr {P Q : Nat → Bool} : ∀ n, (∀ j, j < n → P j = Q j) → ct P n = ct Q n
  | 0, _ => rfl
  | n + 1, h => by
    show ct P n + (if P n then 1 else 0) = ct Q n + (if Q n then 1 else 0)
    rw [ct_congr n (fun j hj => h j (by omega)), h n (by omega)]
theorem ct_mono {P : Nat → Bool} {k : Nat} : ∀ n, k ≤ n → ct P k ≤ ct P n
  | 0, h => by
    have : k = 0 := by omega
    subst this
    exact Nat.le_refl _
  | n + 1, h => by
    by_cases hk : k = n + 1
    · subst hk
      exact Nat.le_refl _
    · have := ct_mono (P := P) (k := k) n (by omega)
      show ct P k ≤ ct P n + (if P n then 1 else 0)
      omega
theorem ct_upd {P Q : Nat → Bool} {k : Nat} : ∀ n, k < n → (∀ j, j < n → j ≠ k → Q j = P j) → ct Q n + (if P k then 1 else 0) = ct P n + (if Q k then 1 else 0)
  | 0, h, _ => absurd h (Nat.not_lt_zero k)
  | n + 1, h, hj => by
    show ct Q n + (if Q n then 1 else 0) + (if P k then 1 else 0) = ct P n + (if P n then 1 else 0) + (if Q k then 1 else 0)
    by_cases hk : k = n
    · subst hk
      rw [ct_congr (P := Q) (Q := P) k (fun j h2 => hj j (by omega) (by omega))]
      omega
    · have := ct_upd (P := P) (Q := Q) n (by omega) (fun j h2 h3 => hj j (by omega) h3)
      rw [hj n (by omega) (fun z => hk z.symm)]
      omega
theorem ct_all {P : Nat → Bool} : ∀ n, (∀ j, j < n → P j = true) → ct P n = n
  | 0, _ => rfl
  | n + 1, h => by
    show ct P n + (if P n then 1 else 0) = n + 1
    rw [ct_all n (fun j hj => h j (by omega)), h n (by omega)]
    rfl
theorem ct_none {P : Nat → Bool} : ∀ n, (∀ j, j < n → P j = false) → ct P n = 0
  | 0, _ => rfl
  | n + 1, h => by
    show ct P n + (if P n then 1 else 0) = 0
    rw [ct_none n (fun j hj => h j (by omega)), h n (by omega)]
    rfl
theorem ct_pos {P : Nat → Bool} {k : Nat} : ∀ n, k < n → P k = true → 0 < ct P n
  | 0, h, _ => absurd h (Nat.not_lt_zero k)
  | n + 1, h, hp => by
    show 0 < ct P n + (if P n then 1 else 0)
    by_cases hk : k = n
    · subst hk
      rw [hp]
      simp
    · have := ct_pos (P := P) n (by omega) hp
      omega
theorem ct_ex {P : Nat → Bool} : ∀ n, 0 < ct P n → ∃ k, k < n ∧ P k = true
  | 0, h => absurd h (Nat.not_lt_zero _)
  | n + 1, h => by
    by_cases hp : P n = true
    · exact ⟨n, by omega, hp⟩
    · have h2 : ct P (n + 1) = ct P n := by
        show ct P n + (if P n then 1 else 0) = ct P n
        rw [if_neg hp]
        rfl
      rw [h2] at h
      obtain ⟨k, hk, hq⟩ := ct_ex n h
      exact ⟨k, by omega, hq⟩
theorem ct_lt {P : Nat → Bool} {n k : Nat} (hk : k < n) (hp : P k = false) : ct P n < n := by
  obtain ⟨Q, hQ⟩ : ∃ Q : Nat → Bool, Q = fun j => if j = k then true else P j := ⟨_, rfl⟩
  have hQk : Q k = true := by rw [hQ]; simp
  have h := ct_upd (P := P) (Q := Q) n hk (fun j _ h => by rw [hQ]; simp [h])
  have h2 := ct_le Q n
  rw [hp, hQk] at h
  simp at h
  omega
theorem ct_two {P : Nat → Bool} {n i j : Nat} (hi : i < n) (hj : j < n) (hne : i ≠ j) (h1 : P i = false) (h2 : P j = false) : ct P n + 2 ≤ n := by
  obtain ⟨Q, hQ⟩ : ∃ Q : Nat → Bool, Q = fun q => if q = i then true else P q := ⟨_, rfl⟩
  have hQi : Q i = true := by rw [hQ]; simp
  have hQj : Q j = false := by rw [hQ]; simp [Ne.symm hne, h2]
  have h := ct_upd (P := P) (Q := Q) n hi (fun q _ h => by rw [hQ]; simp [h])
  have h3 := ct_lt (P := Q) (n := n) (k := j) hj hQj
  rw [h1, hQi] at h
  simp at h
  omega
theorem ct_one {P : Nat → Bool} {n i : Nat} (h1 : ∀ j, j < n → j ≠ i → P j = true) : n ≤ ct P n + 1 := by
  by_cases hi : i < n
  · obtain ⟨Q, hQ⟩ : ∃ Q : Nat → Bool, Q = fun q => if q = i then true else P q := ⟨_, rfl⟩
    have hQi : Q i = true := by rw [hQ]; simp
    have h := ct_upd (P := P) (Q := Q) n hi (fun q _ h => by rw [hQ]; simp [h])
    have h3 := ct_all (P := Q) n (fun j hj => by
      rw [hQ]
      by_cases hji : j = i
      · simp [hji]
      · simp [hji, h1 j hj hji])
    rw [h3, hQi] at h
    simp at h
    split at h <;> omega
  · have := ct_all (P := P) n (fun j hj => h1 j hj (by omega))
    omega
/-- the least from k on that has P not; k + n if there is none below -/
def sr (P : Nat → Bool) : Nat → Nat → Nat
  | 0, k => k
  | n + 1, k => if P k then sr P n (k + 1) else k
theorem sr_le (P : Nat → Bool) : ∀ n k, k ≤ sr P n k ∧ sr P n k ≤ k + n
  | 0, k => ⟨Nat.le_refl _, Nat.le_refl _⟩
  | n + 1, k => by
    have h := sr_le P n (k + 1)
    show k ≤ (if P k then sr P n (k + 1) else k) ∧ (if P k then sr P n (k + 1) else k) ≤ k + (n + 1)
    split <;> omega
theorem sr_bef (P : Nat → Bool) : ∀ n k j, k ≤ j → j < sr P n k → P j = true
  | 0, k, j, h1, h2 => by
    have h2 : j < k := h2
    omega
  | n + 1, k, j, h1, h2 => by
    have h2 : j < (if P k then sr P n (k + 1) else k) := h2
    by_cases hp : P k = true
    · rw [if_pos hp] at h2
      by_cases hj : j = k
      · rw [hj]
        exact hp
      · exact sr_bef P n (k + 1) j (by omega) h2
    · rw [if_neg hp] at h2
      omega
theorem sr_at (P : Nat → Bool) : ∀ n k, sr P n k < k + n → P (sr P n k) = false
  | 0, k, h => by
    have h : k < k + 0 := h
    omega
  | n + 1, k, h => by
    have h : (if P k then sr P n (k + 1) else k) < k + (n + 1) := h
    show P (if P k then sr P n (k + 1) else k) = false
    by_cases hp : P k = true
    · rw [if_pos hp] at h ⊢
      exact sr_at P n (k + 1) (by omega)
    · rw [if_neg hp]
      simpa using hp
theorem sr_eq {P : Nat → Bool} {n k r : Nat} (h1 : k ≤ r) (h2 : r ≤ k + n) (h3 : ∀ j, k ≤ j → j < r → P j = true) (h4 : r < k + n → P r = false) : sr P n k = r := by
  have a := sr_le P n k
  have b := sr_bef P n k
  have c := sr_at P n k
  rcases Nat.lt_trichotomy (sr P n k) r with h | h | h
  · have h5 := h3 _ a.1 h
    rw [c (by omega)] at h5
    cases h5
  · exact h
  · have h5 := b r h1 h
    rw [h4 (by omega)] at h5
    cases h5
theorem sr_congr {P Q : Nat → Bool} : ∀ n k, (∀ j, k ≤ j → j < k + n → P j = Q j) → sr P n k = sr Q n k
  | 0, _, _ => rfl
  | n + 1, k, h => by
    show (if P k then sr P n (k + 1) else k) = (if Q k then sr Q n (k + 1) else k)
    rw [h k (Nat.le_refl _) (by omega), sr_congr n (k + 1) (fun j h1 h2 => h j (by omega) (by omega))]
/-- not two have it not, or at least two -/
theorem sr_two {P : Nat → Bool} {n : Nat} (h0 : sr P n 0 < n) : sr P (n - (sr P n 0 + 1)) (sr P n 0 + 1) < n ↔ ct P n + 2 ≤ n := by
  have a := sr_le P (n - (sr P n 0 + 1)) (sr P n 0 + 1)
  have b := sr_bef P (n - (sr P n 0 + 1)) (sr P n 0 + 1)
  have c := sr_at P (n - (sr P n 0 + 1)) (sr P n 0 + 1)
  constructor
  · intro h
    exact ct_two h0 h (by omega) (sr_at P n 0 (by omega)) (c (by omega))
  · intro h
    apply Nat.lt_of_not_le
    intro hn
    have := ct_one (P := P) (n := n) (i := sr P n 0) (fun j hj hne => by
      by_cases hl : j < sr P n 0
      · exact sr_bef P n 0 j (Nat.zero_le _) hl
      · exact b j (by omega) (by omega))
    omega
theorem sr_full {P : Nat → Bool} {n : Nat} : sr P n 0 = n ↔ ct P n = n := by
  constructor
  · intro h
    exact ct_all n (fun j hj => sr_bef P n 0 j (Nat.zero_le _) (by omega))
  · intro h
    have a := sr_le P n 0
    apply Nat.le_antisymm
    · omega
    · apply Nat.le_of_not_lt
      intro hl
      have := ct_lt hl (sr_at P n 0 (by omega))
      omega
/-- a loop that counts -/
theorem lc_eq {L : Nat → Nat → Int32 → Int32} {B : Nat} {P : Nat → Bool} (hL : ∀ n k acc, k ≤ B → L (n + 1) k acc = if k < B then L n (k + 1) (acc + (if P k then 1 else 0)) else acc) : ∀ n k c, k + n = B + 1 → k ≤ B → L n k (nI c) = nI (c + (ct P B - ct P k))
  | 0, k, c, h, hk => by omega
  | n + 1, k, c, h, hk => by
    rw [hL n k _ hk]
    by_cases hB : k < B
    · rw [if_pos hB]
      have e : nI c + (if P k then 1 else 0) = nI (c + (if P k then 1 else 0)) := by
        split
        · exact nI_1 c
        · show nI c + nI 0 = nI (c + 0)
          exact nI_add c 0
      rw [e, lc_eq hL n (k + 1) _ (by omega) (by omega)]
      have h1 := ct_mono (P := P) B (show k + 1 ≤ B by omega)
      have h2 : ct P (k + 1) = ct P k + (if P k then 1 else 0) := rfl
      congr 1
      omega
    · rw [if_neg hB]
      have : k = B := by omega
      subst this
      simp
/-- a loop that seeks -/
theorem ls_eq {α : Type} {L : Nat → Nat → α} {B : Nat} {P : Nat → Bool} {X : Nat → α} {Y : α} (hL : ∀ n k, k ≤ B → L (n + 1) k = if k < B then (if P k then L n (k + 1) else X k) else Y) : ∀ n k, k + n = B + 1 → k ≤ B → L n k = if sr P (B - k) k < B then X (sr P (B - k) k) else Y
  | 0, k, h, hk => by omega
  | n + 1, k, h, hk => by
    rw [hL n k hk]
    by_cases hB : k < B
    · rw [if_pos hB]
      have e : B - k = (B - (k + 1)) + 1 := by omega
      rw [e]
      show _ = if (if P k then sr P (B - (k + 1)) (k + 1) else k) < B then X (if P k then sr P (B - (k + 1)) (k + 1) else k) else Y
      by_cases hp : P k = true
      · rw [if_pos hp, if_pos hp]
        exact ls_eq hL n (k + 1) (by omega) (by omega)
      · rw [if_neg hp, if_neg hp, if_pos hB]
    · rw [if_neg hB]
      have : k = B := by omega
      subst this
      rw [Nat.sub_self]
      show Y = if k < k then X k else Y
      rw [if_neg (Nat.lt_irrefl k)]
end
section
/-! The desk's state, the model's state, and the cells that hold them. -/
/-- numbers: component, place. 0 leftCount; 1 leftInodes; of file i: 2 kind, 3 inode, 4 canRead, 5 canWrite, 6 place, 7 names; of pipe k: 8 start, 9 size, 10 readerOpen, 11 writerOpen; 12 console start, 13 done, 14 size, 15 ring; 16 screen total, 17 ring; 18 + k: pipe k's ring -/
abbrev DK : Type := (Nat → Nat → Int32) × (Nat → Option (Fin 32)) × (Nat → Option (Fin 8))
abbrev MK : Type := Nat → Nat → Int32
def u2 (f : Nat → Nat → Int32) (c i : Nat) (v : Int32) : Nat → Nat → Int32 := fun c' i' => if c' = c ∧ i' = i then v else f c' i'
def sI (d : DK) (c i : Nat) (v : Int32) : DK := (u2 d.1 c i v, d.2.1, d.2.2)
def sN (d : DK) (j : Nat) (o : Option (Fin 32)) : DK := (d.1, va_up d.2.1 j o, d.2.2)
def sR (d : DK) (i : Nat) (o : Option (Fin 8)) : DK := (d.1, d.2.1, va_up d.2.2 i o)
theorem u2_s {f : Nat → Nat → Int32} {c i : Nat} {v : Int32} : u2 f c i v c i = v := by simp [u2]
theorem u2_n {f : Nat → Nat → Int32} {c i c' i' : Nat} {v : Int32} (h : ¬ (c' = c ∧ i' = i)) : u2 f c i v c' i' = f c' i' := by simp [u2, h]
theorem u2_row {f : Nat → Nat → Int32} {c i : Nat} {v : Int32} : u2 f c i v c = upd (f c) i v := by
  funext j
  simp [u2, upd]
theorem u2_off {f : Nat → Nat → Int32} {c i c' : Nat} {v : Int32} (h : c' ≠ c) : u2 f c i v c' = f c' := by
  funext j
  simp [u2, h]
theorem sI_n {d : DK} {c i c' i' : Nat} {v : Int32} (h : ¬ (c' = c ∧ i' = i)) : (sI d c i v).1 c' i' = d.1 c' i' := u2_n h
theorem sI_s {d : DK} {c i : Nat} {v : Int32} : (sI d c i v).1 c i = v := u2_s
theorem sI_off {d : DK} {c i c' : Nat} {v : Int32} (h : c' ≠ c) : (sI d c i v).1 c' = d.1 c' := u2_off h
theorem sI_row {d : DK} {c i : Nat} {v : Int32} : (sI d c i v).1 c = upd (d.1 c) i v := u2_row
def fsDesk (a : Nat → Nat) (d : DK) : List Value := [.ref (a (1)), .ref (a (2)), .ref (a (35)), .ref (a (52)), .int (d.1 0 0), .ref (a (53)), .ref (a (55))]
def fsFile (a : Nat → Nat) (d : DK) (i : Nat) : List Value := [.int (nI i), .int (d.1 2 i), .int (d.1 3 i), va_rf ((d.2.2 i).map (fun k => a (2 * k.val + 36))), .int (d.1 4 i), .int (d.1 5 i), .int (d.1 6 i), .int (d.1 7 i)]
def fsPipe (a : Nat → Nat) (d : DK) (k : Nat) : List Value := [.int (nI k), .ref (a (2 * k + 37)), .int (d.1 8 k), .int (d.1 9 k), .int (d.1 10 k), .int (d.1 11 k)]
def fsCon (a : Nat → Nat) (d : DK) : List Value := [.ref (a (54)), .int (d.1 12 0), .int (d.1 13 0), .int (d.1 14 0)]
def fsScr (a : Nat → Nat) (d : DK) : List Value := [.ref (a (56)), .int (d.1 16 0)]
def dcell (kc : Nat → ClassId) (a : Nat → Nat) (d : DK) (k : Nat) : va_E :=
  if k = 0 then .inr (0, fsDesk a d)
  else if k = 1 then .inl (kc 2, 240, .inr (.inr (.inr (.inr (fun j => (d.2.1 j).map (fun i => a (i.val + 3)))))))
  else if k = 2 then .inl (kc 2, 32, .inr (.inr (.inr (.inr (fun j => if j < 32 then some (a (j + 3)) else none)))))
  else if k < 35 then .inr (1, fsFile a d (k - 3))
  else if k = 35 then .inl (kc 3, 8, .inr (.inr (.inr (.inr (fun j => if j < 8 then some (a (2 * j + 36)) else none)))))
  else if k < 52 then (if k % 2 = 0 then .inr (2, fsPipe a d ((k - 36) / 2)) else .inl (kc 1, 512, .inl (d.1 (18 + (k - 36) / 2))))
  else if k = 52 then .inl (kc 0, 16, .inl (d.1 1))
  else if k = 53 then .inr (3, fsCon a d)
  else if k = 54 then .inl (kc 1, 128, .inl (d.1 15))
  else if k = 55 then .inr (4, fsScr a d)
  else if k = 56 then .inl (kc 1, 4096, .inl (d.1 17))
  else .inr (0, [])
abbrev tysD (kc : Nat → ClassId) : List (ClassId × FieldType) := [(kc 0, .int), (kc 1, .byte), (kc 2, .object "HandleDesk$OpenFile"), (kc 3, .object "HandleDesk$Pipe")]
section DC
variable (kc : Nat → ClassId) (a : Nat → Nat) (d : DK)
theorem dc_desk : dcell kc a d 0 = .inr (0, fsDesk a d) := rfl
theorem dc_named : dcell kc a d 1 = .inl (kc 2, 240, .inr (.inr (.inr (.inr (fun j => (d.2.1 j).map (fun i => a (i.val + 3))))))) := rfl
theorem dc_files : dcell kc a d 2 = .inl (kc 2, 32, .inr (.inr (.inr (.inr (fun j => if j < 32 then some (a (j + 3)) else none))))) := rfl
theorem dc_pipes : dcell kc a d 35 = .inl (kc 3, 8, .inr (.inr (.inr (.inr (fun j => if j < 8 then some (a (2 * j + 36)) else none))))) := rfl
theorem dc_left : dcell kc a d 52 = .inl (kc 0, 16, .inl (d.1 1)) := rfl
theorem dc_con : dcell kc a d 53 = .inr (3, fsCon a d) := rfl
theorem dc_cring : dcell kc a d 54 = .inl (kc 1, 128, .inl (d.1 15)) := rfl
theorem dc_scr : dcell kc a d 55 = .inr (4, fsScr a d) := rfl
theorem dc_sring : dcell kc a d 56 = .inl (kc 1, 4096, .inl (d.1 17)) := rfl
theorem dc_file (i : Fin 32) : dcell kc a d (i.val + 3) = .inr (1, fsFile a d i.val) := by
  have h := i.isLt
  unfold dcell
  rw [if_neg (by omega), if_neg (by omega), if_neg (by omega), if_pos (by omega), Nat.add_sub_cancel]
theorem dc_pipe (k : Fin 8) : dcell kc a d (2 * k.val + 36) = .inr (2, fsPipe a d k.val) := by
  have h := k.isLt
  unfold dcell
  rw [if_neg (by omega), if_neg (by omega), if_neg (by omega), if_neg (by omega), if_neg (by omega), if_pos (by omega), if_pos (by omega), show (2 * k.val + 36 - 36) / 2 = k.val by omega]
theorem dc_ring (k : Fin 8) : dcell kc a d (2 * k.val + 37) = .inl (kc 1, 512, .inl (d.1 (18 + k.val))) := by
  have h := k.isLt
  unfold dcell
  rw [if_neg (by omega), if_neg (by omega), if_neg (by omega), if_neg (by omega), if_neg (by omega), if_pos (by omega), if_neg (by omega), show (2 * k.val + 37 - 36) / 2 = k.val by omega]
end DC
theorem lt_file (i : Fin 32) : i.val + 3 < 57 := by have := i.isLt; omega
theorem lt_pipe (k : Fin 8) : 2 * k.val + 36 < 57 := by have := k.isLt; omega
theorem lt_ring (k : Fin 8) : 2 * k.val + 37 < 57 := by have := k.isLt; omega
/-- all cells but those that a change names are the same -/
theorem dcell_same {kc : Nat → ClassId} {a : Nat → Nat} {d d' : DK} {k : Nat} (h0 : k = 0 → d'.1 0 0 = d.1 0 0) (h1 : k = 1 → d'.2.1 = d.2.1)
    (hf : ∀ i, i < 32 → k = i + 3 → d'.1 2 i = d.1 2 i ∧ d'.1 3 i = d.1 3 i ∧ d'.1 4 i = d.1 4 i ∧ d'.1 5 i = d.1 5 i ∧ d'.1 6 i = d.1 6 i ∧ d'.1 7 i = d.1 7 i ∧ d'.2.2 i = d.2.2 i)
    (hp : ∀ i, i < 8 → k = 2 * i + 36 → d'.1 8 i = d.1 8 i ∧ d'.1 9 i = d.1 9 i ∧ d'.1 10 i = d.1 10 i ∧ d'.1 11 i = d.1 11 i)
    (hr : ∀ i, i < 8 → k = 2 * i + 37 → d'.1 (18 + i) = d.1 (18 + i)) (h52 : k = 52 → d'.1 1 = d.1 1) (h53 : k = 53 → d'.1 12 0 = d.1 12 0 ∧ d'.1 13 0 = d.1 13 0 ∧ d'.1 14 0 = d.1 14 0)
    (h54 : k = 54 → d'.1 15 = d.1 15) (h55 : k = 55 → d'.1 16 0 = d.1 16 0) (h56 : k = 56 → d'.1 17 = d.1 17) : dcell kc a d' k = dcell kc a d k := by
  unfold dcell
  by_cases e0 : k = 0
  · rw [if_pos e0, if_pos e0]; simp only [fsDesk, h0 e0]
  rw [if_neg e0, if_neg e0]
  by_cases e1 : k = 1
  · rw [if_pos e1, if_pos e1]; simp only [h1 e1]
  rw [if_neg e1, if_neg e1]
  by_cases e2 : k = 2
  · rw [if_pos e2, if_pos e2]
  rw [if_neg e2, if_neg e2]
  by_cases e3 : k < 35
  · rw [if_pos e3, if_pos e3]
    obtain ⟨q1, q2, q3, q4, q5, q6, q7⟩ := hf (k - 3) (by omega) (by omega)
    simp only [fsFile, q1, q2, q3, q4, q5, q6, q7]
  rw [if_neg e3, if_neg e3]
  by_cases e4 : k = 35
  · rw [if_pos e4, if_pos e4]
  rw [if_neg e4, if_neg e4]
  by_cases e5 : k < 52
  · rw [if_pos e5, if_pos e5]
    by_cases e6 : k % 2 = 0
    · rw [if_pos e6, if_pos e6]
      obtain ⟨q1, q2, q3, q4⟩ := hp ((k - 36) / 2) (by omega) (by omega)
      simp only [fsPipe, q1, q2, q3, q4]
    · rw [if_neg e6, if_neg e6, hr ((k - 36) / 2) (by omega) (by omega)]
  rw [if_neg e5, if_neg e5]
  by_cases e7 : k = 52
  · rw [if_pos e7, if_pos e7, h52 e7]
  rw [if_neg e7, if_neg e7]
  by_cases e8 : k = 53
  · rw [if_pos e8, if_pos e8]
    obtain ⟨q1, q2, q3⟩ := h53 e8
    simp only [fsCon, q1, q2, q3]
  rw [if_neg e8, if_neg e8]
  by_cases e9 : k = 54
  · rw [if_pos e9, if_pos e9, h54 e9]
  rw [if_neg e9, if_neg e9]
  by_cases e10 : k = 55
  · rw [if_pos e10, if_pos e10]
    simp only [fsScr, h55 e10]
  rw [if_neg e10, if_neg e10]
  by_cases e11 : k = 56
  · rw [if_pos e11, if_pos e11, h56 e11]
  rw [if_neg e11, if_neg e11]
section DW
variable {kc : Nat → ClassId} {a : Nat → Nat} {d : DK}
theorem dw_x {d' : DK} {q : Nat} {e : va_E} (h1 : dcell kc a d' q = e) (h2 : ∀ k, k ≠ q → dcell kc a d' k = dcell kc a d k) : dcell kc a d' = va_up (dcell kc a d) q e := by
  funext k
  by_cases hk : k = q
  · subst hk
    rw [va_up_self, h1]
  · rw [va_up_ne _ _ hk, h2 k hk]
theorem dw_0 (v : Int32) : dcell kc a (sI d 0 0 v) = va_up (dcell kc a d) 0 (.inr (0, (fsDesk a d).set 4 (.int v))) :=
  dw_x (by rw [dc_desk]; simp [fsDesk, sI, u2]) (fun k hk => dcell_same (fun e => absurd e hk) (fun _ => rfl) (fun j _ _ => ⟨sI_n (by omega), sI_n (by omega), sI_n (by omega), sI_n (by omega), sI_n (by omega), sI_n (by omega), rfl⟩) (fun j _ _ => ⟨sI_n (by omega), sI_n (by omega), sI_n (by omega), sI_n (by omega)⟩) (fun j _ _ => sI_off (by omega)) (fun _ => sI_off (by omega)) (fun _ => ⟨sI_n (by omega), sI_n (by omega), sI_n (by omega)⟩) (fun _ => sI_off (by omega)) (fun _ => sI_n (by omega)) (fun _ => sI_off (by omega)))
theorem dw_2 (i : Fin 32) (v : Int32) : dcell kc a (sI d 2 i.val v) = va_up (dcell kc a d) (i.val + 3) (.inr (1, (fsFile a d i.val).set 1 (.int v))) :=
  dw_x (by rw [dc_file]; simp [fsFile, sI, u2]) (fun k hk => dcell_same (fun _ => sI_n (by omega)) (fun _ => rfl) (fun j _ _ => ⟨sI_n (by omega), sI_n (by omega), sI_n (by omega), sI_n (by omega), sI_n (by omega), sI_n (by omega), rfl⟩) (fun j _ _ => ⟨sI_n (by omega), sI_n (by omega), sI_n (by omega), sI_n (by omega)⟩) (fun j _ _ => sI_off (by omega)) (fun _ => sI_off (by omega)) (fun _ => ⟨sI_n (by omega), sI_n (by omega), sI_n (by omega)⟩) (fun _ => sI_off (by omega)) (fun _ => sI_n (by omega)) (fun _ => sI_off (by omega)))
theorem dw_3 (i : Fin 32) (v : Int32) : dcell kc a (sI d 3 i.val v) = va_up (dcell kc a d) (i.val + 3) (.inr (1, (fsFile a d i.val).set 2 (.int v))) :=
  dw_x (by rw [dc_file]; simp [fsFile, sI, u2]) (fun k hk => dcell_same (fun _ => sI_n (by omega)) (fun _ => rfl) (fun j _ _ => ⟨sI_n (by omega), sI_n (by omega), sI_n (by omega), sI_n (by omega), sI_n (by omega), sI_n (by omega), rfl⟩) (fun j _ _ => ⟨sI_n (by omega), sI_n (by omega), sI_n (by omega), sI_n (by omega)⟩) (fun j _ _ => sI_off (by omega)) (fun _ => sI_off (by omega)) (fun _ => ⟨sI_n (by omega), sI_n (by omega), sI_n (by omega)⟩) (fun _ => sI_off (by omega)) (fun _ => sI_n (by omega)) (fun _ => sI_off (by omega)))
theorem dw_4 (i : Fin 32) (v : Int32) : dcell kc a (sI d 4 i.val v) = va_up (dcell kc a d) (i.val + 3) (.inr (1, (fsFile a d i.val).set 4 (.int v))) :=
  dw_x (by rw [dc_file]; simp [fsFile, sI, u2]) (fun k hk => dcell_same (fun _ => sI_n (by omega)) (fun _ => rfl) (fun j _ _ => ⟨sI_n (by omega), sI_n (by omega), sI_n (by omega), sI_n (by omega), sI_n (by omega), sI_n (by omega), rfl⟩) (fun j _ _ => ⟨sI_n (by omega), sI_n (by omega), sI_n (by omega), sI_n (by omega)⟩) (fun j _ _ => sI_off (by omega)) (fun _ => sI_off (by omega)) (fun _ => ⟨sI_n (by omega), sI_n (by omega), sI_n (by omega)⟩) (fun _ => sI_off (by omega)) (fun _ => sI_n (by omega)) (fun _ => sI_off (by omega)))
theorem dw_5 (i : Fin 32) (v : Int32) : dcell kc a (sI d 5 i.val v) = va_up (dcell kc a d) (i.val + 3) (.inr (1, (fsFile a d i.val).set 5 (.int v))) :=
  dw_x (by rw [dc_file]; simp [fsFile, sI, u2]) (fun k hk => dcell_same (fun _ => sI_n (by omega)) (fun _ => rfl) (fun j _ _ => ⟨sI_n (by omega), sI_n (by omega), sI_n (by omega), sI_n (by omega), sI_n (by omega), sI_n (by omega), rfl⟩) (fun j _ _ => ⟨sI_n (by omega), sI_n (by omega), sI_n (by omega), sI_n (by omega)⟩) (fun j _ _ => sI_off (by omega)) (fun _ => sI_off (by omega)) (fun _ => ⟨sI_n (by omega), sI_n (by omega), sI_n (by omega)⟩) (fun _ => sI_off (by omega)) (fun _ => sI_n (by omega)) (fun _ => sI_off (by omega)))
theorem dw_6 (i : Fin 32) (v : Int32) : dcell kc a (sI d 6 i.val v) = va_up (dcell kc a d) (i.val + 3) (.inr (1, (fsFile a d i.val).set 6 (.int v))) :=
  dw_x (by rw [dc_file]; simp [fsFile, sI, u2]) (fun k hk => dcell_same (fun _ => sI_n (by omega)) (fun _ => rfl) (fun j _ _ => ⟨sI_n (by omega), sI_n (by omega), sI_n (by omega), sI_n (by omega), sI_n (by omega), sI_n (by omega), rfl⟩) (fun j _ _ => ⟨sI_n (by omega), sI_n (by omega), sI_n (by omega), sI_n (by omega)⟩) (fun j _ _ => sI_off (by omega)) (fun _ => sI_off (by omega)) (fun _ => ⟨sI_n (by omega), sI_n (by omega), sI_n (by omega)⟩) (fun _ => sI_off (by omega)) (fun _ => sI_n (by omega)) (fun _ => sI_off (by omega)))
theorem dw_7 (i : Fin 32) (v : Int32) : dcell kc a (sI d 7 i.val v) = va_up (dcell kc a d) (i.val + 3) (.inr (1, (fsFile a d i.val).set 7 (.int v))) :=
  dw_x (by rw [dc_file]; simp [fsFile, sI, u2]) (fun k hk => dcell_same (fun _ => sI_n (by omega)) (fun _ => rfl) (fun j _ _ => ⟨sI_n (by omega), sI_n (by omega), sI_n (by omega), sI_n (by omega), sI_n (by omega), sI_n (by omega), rfl⟩) (fun j _ _ => ⟨sI_n (by omega), sI_n (by omega), sI_n (by omega), sI_n (by omega)⟩) (fun j _ _ => sI_off (by omega)) (fun _ => sI_off (by omega)) (fun _ => ⟨sI_n (by omega), sI_n (by omega), sI_n (by omega)⟩) (fun _ => sI_off (by omega)) (fun _ => sI_n (by omega)) (fun _ => sI_off (by omega)))
theorem dw_8 (i : Fin 8) (v : Int32) : dcell kc a (sI d 8 i.val v) = va_up (dcell kc a d) (2 * i.val + 36) (.inr (2, (fsPipe a d i.val).set 2 (.int v))) :=
  dw_x (by rw [dc_pipe]; simp [fsPipe, sI, u2]) (fun k hk => dcell_same (fun _ => sI_n (by omega)) (fun _ => rfl) (fun j _ _ => ⟨sI_n (by omega), sI_n (by omega), sI_n (by omega), sI_n (by omega), sI_n (by omega), sI_n (by omega), rfl⟩) (fun j _ _ => ⟨sI_n (by omega), sI_n (by omega), sI_n (by omega), sI_n (by omega)⟩) (fun j _ _ => sI_off (by omega)) (fun _ => sI_off (by omega)) (fun _ => ⟨sI_n (by omega), sI_n (by omega), sI_n (by omega)⟩) (fun _ => sI_off (by omega)) (fun _ => sI_n (by omega)) (fun _ => sI_off (by omega)))
theorem dw_9 (i : Fin 8) (v : Int32) : dcell kc a (sI d 9 i.val v) = va_up (dcell kc a d) (2 * i.val + 36) (.inr (2, (fsPipe a d i.val).set 3 (.int v))) :=
  dw_x (by rw [dc_pipe]; simp [fsPipe, sI, u2]) (fun k hk => dcell_same (fun _ => sI_n (by omega)) (fun _ => rfl) (fun j _ _ => ⟨sI_n (by omega), sI_n (by omega), sI_n (by omega), sI_n (by omega), sI_n (by omega), sI_n (by omega), rfl⟩) (fun j _ _ => ⟨sI_n (by omega), sI_n (by omega), sI_n (by omega), sI_n (by omega)⟩) (fun j _ _ => sI_off (by omega)) (fun _ => sI_off (by omega)) (fun _ => ⟨sI_n (by omega), sI_n (by omega), sI_n (by omega)⟩) (fun _ => sI_off (by omega)) (fun _ => sI_n (by omega)) (fun _ => sI_off (by omega)))
theorem dw_10 (i : Fin 8) (v : Int32) : dcell kc a (sI d 10 i.val v) = va_up (dcell kc a d) (2 * i.val + 36) (.inr (2, (fsPipe a d i.val).set 4 (.int v))) :=
  dw_x (by rw [dc_pipe]; simp [fsPipe, sI, u2]) (fun k hk => dcell_same (fun _ => sI_n (by omega)) (fun _ => rfl) (fun j _ _ => ⟨sI_n (by omega), sI_n (by omega), sI_n (by omega), sI_n (by omega), sI_n (by omega), sI_n (by omega), rfl⟩) (fun j _ _ => ⟨sI_n (by omega), sI_n (by omega), sI_n (by omega), sI_n (by omega)⟩) (fun j _ _ => sI_off (by omega)) (fun _ => sI_off (by omega)) (fun _ => ⟨sI_n (by omega), sI_n (by omega), sI_n (by omega)⟩) (fun _ => sI_off (by omega)) (fun _ => sI_n (by omega)) (fun _ => sI_off (by omega)))
theorem dw_11 (i : Fin 8) (v : Int32) : dcell kc a (sI d 11 i.val v) = va_up (dcell kc a d) (2 * i.val + 36) (.inr (2, (fsPipe a d i.val).set 5 (.int v))) :=
  dw_x (by rw [dc_pipe]; simp [fsPipe, sI, u2]) (fun k hk => dcell_same (fun _ => sI_n (by omega)) (fun _ => rfl) (fun j _ _ => ⟨sI_n (by omega), sI_n (by omega), sI_n (by omega), sI_n (by omega), sI_n (by omega), sI_n (by omega), rfl⟩) (fun j _ _ => ⟨sI_n (by omega), sI_n (by omega), sI_n (by omega), sI_n (by omega)⟩) (fun j _ _ => sI_off (by omega)) (fun _ => sI_off (by omega)) (fun _ => ⟨sI_n (by omega), sI_n (by omega), sI_n (by omega)⟩) (fun _ => sI_off (by omega)) (fun _ => sI_n (by omega)) (fun _ => sI_off (by omega)))
theorem dw_12 (v : Int32) : dcell kc a (sI d 12 0 v) = va_up (dcell kc a d) 53 (.inr (3, (fsCon a d).set 1 (.int v))) :=
  dw_x (by rw [dc_con]; simp [fsCon, sI, u2]) (fun k hk => dcell_same (fun _ => sI_n (by omega)) (fun _ => rfl) (fun j _ _ => ⟨sI_n (by omega), sI_n (by omega), sI_n (by omega), sI_n (by omega), sI_n (by omega), sI_n (by omega), rfl⟩) (fun j _ _ => ⟨sI_n (by omega), sI_n (by omega), sI_n (by omega), sI_n (by omega)⟩) (fun j _ _ => sI_off (by omega)) (fun _ => sI_off (by omega)) (fun e => absurd e hk) (fun _ => sI_off (by omega)) (fun _ => sI_n (by omega)) (fun _ => sI_off (by omega)))
theorem dw_13 (v : Int32) : dcell kc a (sI d 13 0 v) = va_up (dcell kc a d) 53 (.inr (3, (fsCon a d).set 2 (.int v))) :=
  dw_x (by rw [dc_con]; simp [fsCon, sI, u2]) (fun k hk => dcell_same (fun _ => sI_n (by omega)) (fun _ => rfl) (fun j _ _ => ⟨sI_n (by omega), sI_n (by omega), sI_n (by omega), sI_n (by omega), sI_n (by omega), sI_n (by omega), rfl⟩) (fun j _ _ => ⟨sI_n (by omega), sI_n (by omega), sI_n (by omega), sI_n (by omega)⟩) (fun j _ _ => sI_off (by omega)) (fun _ => sI_off (by omega)) (fun e => absurd e hk) (fun _ => sI_off (by omega)) (fun _ => sI_n (by omega)) (fun _ => sI_off (by omega)))
theorem dw_14 (v : Int32) : dcell kc a (sI d 14 0 v) = va_up (dcell kc a d) 53 (.inr (3, (fsCon a d).set 3 (.int v))) :=
  dw_x (by rw [dc_con]; simp [fsCon, sI, u2]) (fun k hk => dcell_same (fun _ => sI_n (by omega)) (fun _ => rfl) (fun j _ _ => ⟨sI_n (by omega), sI_n (by omega), sI_n (by omega), sI_n (by omega), sI_n (by omega), sI_n (by omega), rfl⟩) (fun j _ _ => ⟨sI_n (by omega), sI_n (by omega), sI_n (by omega), sI_n (by omega)⟩) (fun j _ _ => sI_off (by omega)) (fun _ => sI_off (by omega)) (fun e => absurd e hk) (fun _ => sI_off (by omega)) (fun _ => sI_n (by omega)) (fun _ => sI_off (by omega)))
theorem dw_16 (v : Int32) : dcell kc a (sI d 16 0 v) = va_up (dcell kc a d) 55 (.inr (4, (fsScr a d).set 1 (.int v))) :=
  dw_x (by rw [dc_scr]; simp [fsScr, sI, u2]) (fun k hk => dcell_same (fun _ => sI_n (by omega)) (fun _ => rfl) (fun j _ _ => ⟨sI_n (by omega), sI_n (by omega), sI_n (by omega), sI_n (by omega), sI_n (by omega), sI_n (by omega), rfl⟩) (fun j _ _ => ⟨sI_n (by omega), sI_n (by omega), sI_n (by omega), sI_n (by omega)⟩) (fun j _ _ => sI_off (by omega)) (fun _ => sI_off (by omega)) (fun _ => ⟨sI_n (by omega), sI_n (by omega), sI_n (by omega)⟩) (fun _ => sI_off (by omega)) (fun e => absurd e hk) (fun _ => sI_off (by omega)))
theorem dw_row (i : Fin 32) (o : Option (Fin 8)) : dcell kc a (sR d i.val o) = va_up (dcell kc a d) (i.val + 3) (.inr (1, (fsFile a d i.val).set 3 (va_rf (o.map (fun k => a (2 * k.val + 36)))))) :=
  dw_x (by rw [dc_file]; simp [fsFile, sR, va_up]) (fun k hk => dcell_same (fun _ => rfl) (fun _ => rfl) (fun j _ e => ⟨rfl, rfl, rfl, rfl, rfl, rfl, va_up_ne _ _ (by omega)⟩) (fun _ _ _ => ⟨rfl, rfl, rfl, rfl⟩) (fun _ _ _ => rfl) (fun _ => rfl) (fun _ => ⟨rfl, rfl, rfl⟩) (fun _ => rfl) (fun _ => rfl) (fun _ => rfl))
theorem dw_named {j : Nat} {o : Option (Fin 32)} : dcell kc a (sN d j o) = va_up (dcell kc a d) 1 (.inl (kc 2, 240, .inr (.inr (.inr (.inr (fun q => (va_up d.2.1 j o q).map (fun i => a (i.val + 3)))))))) :=
  dw_x rfl (fun k hk => dcell_same (fun _ => rfl) (fun e => absurd e hk) (fun _ _ _ => ⟨rfl, rfl, rfl, rfl, rfl, rfl, rfl⟩) (fun _ _ _ => ⟨rfl, rfl, rfl, rfl⟩) (fun _ _ _ => rfl) (fun _ => rfl) (fun _ => ⟨rfl, rfl, rfl⟩) (fun _ => rfl) (fun _ => rfl) (fun _ => rfl))
theorem dw_left (j : Nat) (v : Int32) : dcell kc a (sI d 1 j v) = va_up (dcell kc a d) 52 (.inl (kc 0, 16, .inl (upd (d.1 1) j v))) :=
  dw_x (by rw [dc_left]; show (Sum.inl (kc 0, 16, Sum.inl (u2 d.1 1 j v 1)) : va_E) = _; rw [u2_row]) (fun k hk => dcell_same (fun _ => sI_n (by omega)) (fun _ => rfl) (fun j _ _ => ⟨sI_n (by omega), sI_n (by omega), sI_n (by omega), sI_n (by omega), sI_n (by omega), sI_n (by omega), rfl⟩) (fun j _ _ => ⟨sI_n (by omega), sI_n (by omega), sI_n (by omega), sI_n (by omega)⟩) (fun j _ _ => sI_off (by omega)) (fun e => absurd e hk) (fun _ => ⟨sI_n (by omega), sI_n (by omega), sI_n (by omega)⟩) (fun _ => sI_off (by omega)) (fun _ => sI_n (by omega)) (fun _ => sI_off (by omega)))
theorem dw_cring (j : Nat) (v : Int32) : dcell kc a (sI d 15 j v) = va_up (dcell kc a d) 54 (.inl (kc 1, 128, .inl (upd (d.1 15) j v))) :=
  dw_x (by rw [dc_cring]; show (Sum.inl (kc 1, 128, Sum.inl (u2 d.1 15 j v 15)) : va_E) = _; rw [u2_row]) (fun k hk => dcell_same (fun _ => sI_n (by omega)) (fun _ => rfl) (fun j _ _ => ⟨sI_n (by omega), sI_n (by omega), sI_n (by omega), sI_n (by omega), sI_n (by omega), sI_n (by omega), rfl⟩) (fun j _ _ => ⟨sI_n (by omega), sI_n (by omega), sI_n (by omega), sI_n (by omega)⟩) (fun j _ _ => sI_off (by omega)) (fun _ => sI_off (by omega)) (fun _ => ⟨sI_n (by omega), sI_n (by omega), sI_n (by omega)⟩) (fun e => absurd e hk) (fun _ => sI_n (by omega)) (fun _ => sI_off (by omega)))
theorem dw_sring (j : Nat) (v : Int32) : dcell kc a (sI d 17 j v) = va_up (dcell kc a d) 56 (.inl (kc 1, 4096, .inl (upd (d.1 17) j v))) :=
  dw_x (by rw [dc_sring]; show (Sum.inl (kc 1, 4096, Sum.inl (u2 d.1 17 j v 17)) : va_E) = _; rw [u2_row]) (fun k hk => dcell_same (fun _ => sI_n (by omega)) (fun _ => rfl) (fun j _ _ => ⟨sI_n (by omega), sI_n (by omega), sI_n (by omega), sI_n (by omega), sI_n (by omega), sI_n (by omega), rfl⟩) (fun j _ _ => ⟨sI_n (by omega), sI_n (by omega), sI_n (by omega), sI_n (by omega)⟩) (fun j _ _ => sI_off (by omega)) (fun _ => sI_off (by omega)) (fun _ => ⟨sI_n (by omega), sI_n (by omega), sI_n (by omega)⟩) (fun _ => sI_off (by omega)) (fun _ => sI_n (by omega)) (fun e => absurd e hk))
theorem dw_ring (i : Fin 8) (j : Nat) (v : Int32) : dcell kc a (sI d (18 + i.val) j v) = va_up (dcell kc a d) (2 * i.val + 37) (.inl (kc 1, 512, .inl (upd (d.1 (18 + i.val)) j v))) :=
  dw_x (by rw [dc_ring]; show (Sum.inl (kc 1, 512, Sum.inl (u2 d.1 (18 + i.val) j v (18 + i.val))) : va_E) = _; rw [u2_row]) (fun k hk => dcell_same (fun _ => sI_n (by omega)) (fun _ => rfl) (fun j _ _ => ⟨sI_n (by omega), sI_n (by omega), sI_n (by omega), sI_n (by omega), sI_n (by omega), sI_n (by omega), rfl⟩) (fun j _ _ => ⟨sI_n (by omega), sI_n (by omega), sI_n (by omega), sI_n (by omega)⟩) (fun j _ _ => sI_off (by omega)) (fun _ => sI_off (by omega)) (fun _ => ⟨sI_n (by omega), sI_n (by omega), sI_n (by omega)⟩) (fun _ => sI_off (by omega)) (fun _ => sI_n (by omega)) (fun _ => sI_off (by omega)))
end DW
def fsMod (b : Nat → Nat) (mo : MK) : List Value := [.int (mo 0 0), .ref (b (1)), .ref (b (2)), .ref (b (3)), .ref (b (4)), .ref (b (5)), .ref (b (6)), .ref (b (7)), .int (mo 1 0), .ref (b (8)), .int (mo 2 0), .int (mo 3 0), .ref (b (9)), .int (mo 4 0), .ref (b (10))]
def mcell (kc : Nat → ClassId) (b : Nat → Nat) (m : MK) (k : Nat) : va_E :=
  if k = 0 then .inr (5, fsMod b m)
  else if k = 1 then .inl (kc 0, 240, .inl (m 5))
  else if k = 2 then .inl (kc 0, 32, .inl (m 6))
  else if k = 3 then .inl (kc 0, 32, .inl (m 7))
  else if k = 4 then .inl (kc 0, 32, .inl (m 8))
  else if k = 5 then .inl (kc 0, 32, .inl (m 9))
  else if k = 6 then .inl (kc 0, 8, .inl (m 10))
  else if k = 7 then .inl (kc 1, 4096, .inl (m 11))
  else if k = 8 then .inl (kc 0, 16, .inl (m 12))
  else if k = 9 then .inl (kc 0, 128, .inl (m 13))
  else if k = 10 then .inl (kc 1, 4096, .inl (m 14))
  else .inr (0, [])
section MC
variable (kc : Nat → ClassId) (a : Nat → Nat) (m : MK)
theorem mc_mod : mcell kc a m 0 = .inr (5, fsMod a m) := rfl
theorem mc_names : mcell kc a m 1 = .inl (kc 0, 240, .inl (m 5)) := rfl
theorem mc_kind : mcell kc a m 2 = .inl (kc 0, 32, .inl (m 6)) := rfl
theorem mc_what : mcell kc a m 3 = .inl (kc 0, 32, .inl (m 7)) := rfl
theorem mc_how : mcell kc a m 4 = .inl (kc 0, 32, .inl (m 8)) := rfl
theorem mc_place : mcell kc a m 5 = .inl (kc 0, 32, .inl (m 9)) := rfl
theorem mc_many : mcell kc a m 6 = .inl (kc 0, 8, .inl (m 10)) := rfl
theorem mc_queue : mcell kc a m 7 = .inl (kc 1, 4096, .inl (m 11)) := rfl
theorem mc_left : mcell kc a m 8 = .inl (kc 0, 16, .inl (m 12)) := rfl
theorem mc_line : mcell kc a m 9 = .inl (kc 0, 128, .inl (m 13)) := rfl
theorem mc_screen : mcell kc a m 10 = .inl (kc 1, 4096, .inl (m 14)) := rfl
theorem mw_x {m' : MK} {q : Nat} {e : va_E} (h1 : mcell kc a m' q = e) (h2 : ∀ k, k ≠ q → mcell kc a m' k = mcell kc a m k) : mcell kc a m' = va_up (mcell kc a m) q e := by
  funext k
  by_cases hk : k = q
  · subst hk
    rw [va_up_self, h1]
  · rw [va_up_ne _ _ hk, h2 k hk]
theorem mw_0 (v : Int32) : mcell kc a (u2 m 0 0 v) = va_up (mcell kc a m) 0 (.inr (5, (fsMod a m).set 0 (.int v))) :=
  mw_x kc a m (by rw [mc_mod]; simp [fsMod, u2]) (fun k hk => by unfold mcell; rw [if_neg hk, if_neg hk]; simp only [u2_off (show (5 : Nat) ≠ 0 by decide), u2_off (show (6 : Nat) ≠ 0 by decide), u2_off (show (7 : Nat) ≠ 0 by decide), u2_off (show (8 : Nat) ≠ 0 by decide), u2_off (show (9 : Nat) ≠ 0 by decide), u2_off (show (10 : Nat) ≠ 0 by decide), u2_off (show (11 : Nat) ≠ 0 by decide), u2_off (show (12 : Nat) ≠ 0 by decide), u2_off (show (13 : Nat) ≠ 0 by decide), u2_off (show (14 : Nat) ≠ 0 by decide)])
theorem mw_1 (v : Int32) : mcell kc a (u2 m 1 0 v) = va_up (mcell kc a m) 0 (.inr (5, (fsMod a m).set 8 (.int v))) :=
  mw_x kc a m (by rw [mc_mod]; simp [fsMod, u2]) (fun k hk => by unfold mcell; rw [if_neg hk, if_neg hk]; simp only [u2_off (show (5 : Nat) ≠ 1 by decide), u2_off (show (6 : Nat) ≠ 1 by decide), u2_off (show (7 : Nat) ≠ 1 by decide), u2_off (show (8 : Nat) ≠ 1 by decide), u2_off (show (9 : Nat) ≠ 1 by decide), u2_off (show (10 : Nat) ≠ 1 by decide), u2_off (show (11 : Nat) ≠ 1 by decide), u2_off (show (12 : Nat) ≠ 1 by decide), u2_off (show (13 : Nat) ≠ 1 by decide), u2_off (show (14 : Nat) ≠ 1 by decide)])
theorem mw_2 (v : Int32) : mcell kc a (u2 m 2 0 v) = va_up (mcell kc a m) 0 (.inr (5, (fsMod a m).set 10 (.int v))) :=
  mw_x kc a m (by rw [mc_mod]; simp [fsMod, u2]) (fun k hk => by unfold mcell; rw [if_neg hk, if_neg hk]; simp only [u2_off (show (5 : Nat) ≠ 2 by decide), u2_off (show (6 : Nat) ≠ 2 by decide), u2_off (show (7 : Nat) ≠ 2 by decide), u2_off (show (8 : Nat) ≠ 2 by decide), u2_off (show (9 : Nat) ≠ 2 by decide), u2_off (show (10 : Nat) ≠ 2 by decide), u2_off (show (11 : Nat) ≠ 2 by decide), u2_off (show (12 : Nat) ≠ 2 by decide), u2_off (show (13 : Nat) ≠ 2 by decide), u2_off (show (14 : Nat) ≠ 2 by decide)])
theorem mw_3 (v : Int32) : mcell kc a (u2 m 3 0 v) = va_up (mcell kc a m) 0 (.inr (5, (fsMod a m).set 11 (.int v))) :=
  mw_x kc a m (by rw [mc_mod]; simp [fsMod, u2]) (fun k hk => by unfold mcell; rw [if_neg hk, if_neg hk]; simp only [u2_off (show (5 : Nat) ≠ 3 by decide), u2_off (show (6 : Nat) ≠ 3 by decide), u2_off (show (7 : Nat) ≠ 3 by decide), u2_off (show (8 : Nat) ≠ 3 by decide), u2_off (show (9 : Nat) ≠ 3 by decide), u2_off (show (10 : Nat) ≠ 3 by decide), u2_off (show (11 : Nat) ≠ 3 by decide), u2_off (show (12 : Nat) ≠ 3 by decide), u2_off (show (13 : Nat) ≠ 3 by decide), u2_off (show (14 : Nat) ≠ 3 by decide)])
theorem mw_4 (v : Int32) : mcell kc a (u2 m 4 0 v) = va_up (mcell kc a m) 0 (.inr (5, (fsMod a m).set 13 (.int v))) :=
  mw_x kc a m (by rw [mc_mod]; simp [fsMod, u2]) (fun k hk => by unfold mcell; rw [if_neg hk, if_neg hk]; simp only [u2_off (show (5 : Nat) ≠ 4 by decide), u2_off (show (6 : Nat) ≠ 4 by decide), u2_off (show (7 : Nat) ≠ 4 by decide), u2_off (show (8 : Nat) ≠ 4 by decide), u2_off (show (9 : Nat) ≠ 4 by decide), u2_off (show (10 : Nat) ≠ 4 by decide), u2_off (show (11 : Nat) ≠ 4 by decide), u2_off (show (12 : Nat) ≠ 4 by decide), u2_off (show (13 : Nat) ≠ 4 by decide), u2_off (show (14 : Nat) ≠ 4 by decide)])
theorem mw_names (j : Nat) (v : Int32) : mcell kc a (u2 m 5 j v) = va_up (mcell kc a m) 1 (.inl (kc 0, 240, .inl (upd (m 5) j v))) := by
  have hm : fsMod a (u2 m 5 j v) = fsMod a m := by simp [fsMod, u2]
  refine mw_x kc a m (by rw [mc_names, u2_row]) (fun k hk => ?_)
  unfold mcell
  rw [hm]
  simp [u2_off (show (6 : Nat) ≠ 5 by decide), u2_off (show (7 : Nat) ≠ 5 by decide), u2_off (show (8 : Nat) ≠ 5 by decide), u2_off (show (9 : Nat) ≠ 5 by decide), u2_off (show (10 : Nat) ≠ 5 by decide), u2_off (show (11 : Nat) ≠ 5 by decide), u2_off (show (12 : Nat) ≠ 5 by decide), u2_off (show (13 : Nat) ≠ 5 by decide), u2_off (show (14 : Nat) ≠ 5 by decide), hk]
theorem mw_kind (j : Nat) (v : Int32) : mcell kc a (u2 m 6 j v) = va_up (mcell kc a m) 2 (.inl (kc 0, 32, .inl (upd (m 6) j v))) := by
  have hm : fsMod a (u2 m 6 j v) = fsMod a m := by simp [fsMod, u2]
  refine mw_x kc a m (by rw [mc_kind, u2_row]) (fun k hk => ?_)
  unfold mcell
  rw [hm]
  simp [u2_off (show (5 : Nat) ≠ 6 by decide), u2_off (show (7 : Nat) ≠ 6 by decide), u2_off (show (8 : Nat) ≠ 6 by decide), u2_off (show (9 : Nat) ≠ 6 by decide), u2_off (show (10 : Nat) ≠ 6 by decide), u2_off (show (11 : Nat) ≠ 6 by decide), u2_off (show (12 : Nat) ≠ 6 by decide), u2_off (show (13 : Nat) ≠ 6 by decide), u2_off (show (14 : Nat) ≠ 6 by decide), hk]
theorem mw_what (j : Nat) (v : Int32) : mcell kc a (u2 m 7 j v) = va_up (mcell kc a m) 3 (.inl (kc 0, 32, .inl (upd (m 7) j v))) := by
  have hm : fsMod a (u2 m 7 j v) = fsMod a m := by simp [fsMod, u2]
  refine mw_x kc a m (by rw [mc_what, u2_row]) (fun k hk => ?_)
  unfold mcell
  rw [hm]
  simp [u2_off (show (5 : Nat) ≠ 7 by decide), u2_off (show (6 : Nat) ≠ 7 by decide), u2_off (show (8 : Nat) ≠ 7 by decide), u2_off (show (9 : Nat) ≠ 7 by decide), u2_off (show (10 : Nat) ≠ 7 by decide), u2_off (show (11 : Nat) ≠ 7 by decide), u2_off (show (12 : Nat) ≠ 7 by decide), u2_off (show (13 : Nat) ≠ 7 by decide), u2_off (show (14 : Nat) ≠ 7 by decide), hk]
theorem mw_how (j : Nat) (v : Int32) : mcell kc a (u2 m 8 j v) = va_up (mcell kc a m) 4 (.inl (kc 0, 32, .inl (upd (m 8) j v))) := by
  have hm : fsMod a (u2 m 8 j v) = fsMod a m := by simp [fsMod, u2]
  refine mw_x kc a m (by rw [mc_how, u2_row]) (fun k hk => ?_)
  unfold mcell
  rw [hm]
  simp [u2_off (show (5 : Nat) ≠ 8 by decide), u2_off (show (6 : Nat) ≠ 8 by decide), u2_off (show (7 : Nat) ≠ 8 by decide), u2_off (show (9 : Nat) ≠ 8 by decide), u2_off (show (10 : Nat) ≠ 8 by decide), u2_off (show (11 : Nat) ≠ 8 by decide), u2_off (show (12 : Nat) ≠ 8 by decide), u2_off (show (13 : Nat) ≠ 8 by decide), u2_off (show (14 : Nat) ≠ 8 by decide), hk]
theorem mw_place (j : Nat) (v : Int32) : mcell kc a (u2 m 9 j v) = va_up (mcell kc a m) 5 (.inl (kc 0, 32, .inl (upd (m 9) j v))) := by
  have hm : fsMod a (u2 m 9 j v) = fsMod a m := by simp [fsMod, u2]
  refine mw_x kc a m (by rw [mc_place, u2_row]) (fun k hk => ?_)
  unfold mcell
  rw [hm]
  simp [u2_off (show (5 : Nat) ≠ 9 by decide), u2_off (show (6 : Nat) ≠ 9 by decide), u2_off (show (7 : Nat) ≠ 9 by decide), u2_off (show (8 : Nat) ≠ 9 by decide), u2_off (show (10 : Nat) ≠ 9 by decide), u2_off (show (11 : Nat) ≠ 9 by decide), u2_off (show (12 : Nat) ≠ 9 by decide), u2_off (show (13 : Nat) ≠ 9 by decide), u2_off (show (14 : Nat) ≠ 9 by decide), hk]
theorem mw_many (j : Nat) (v : Int32) : mcell kc a (u2 m 10 j v) = va_up (mcell kc a m) 6 (.inl (kc 0, 8, .inl (upd (m 10) j v))) := by
  have hm : fsMod a (u2 m 10 j v) = fsMod a m := by simp [fsMod, u2]
  refine mw_x kc a m (by rw [mc_many, u2_row]) (fun k hk => ?_)
  unfold mcell
  rw [hm]
  simp [u2_off (show (5 : Nat) ≠ 10 by decide), u2_off (show (6 : Nat) ≠ 10 by decide), u2_off (show (7 : Nat) ≠ 10 by decide), u2_off (show (8 : Nat) ≠ 10 by decide), u2_off (show (9 : Nat) ≠ 10 by decide), u2_off (show (11 : Nat) ≠ 10 by decide), u2_off (show (12 : Nat) ≠ 10 by decide), u2_off (show (13 : Nat) ≠ 10 by decide), u2_off (show (14 : Nat) ≠ 10 by decide), hk]
theorem mw_queue (j : Nat) (v : Int32) : mcell kc a (u2 m 11 j v) = va_up (mcell kc a m) 7 (.inl (kc 1, 4096, .inl (upd (m 11) j v))) := by
  have hm : fsMod a (u2 m 11 j v) = fsMod a m := by simp [fsMod, u2]
  refine mw_x kc a m (by rw [mc_queue, u2_row]) (fun k hk => ?_)
  unfold mcell
  rw [hm]
  simp [u2_off (show (5 : Nat) ≠ 11 by decide), u2_off (show (6 : Nat) ≠ 11 by decide), u2_off (show (7 : Nat) ≠ 11 by decide), u2_off (show (8 : Nat) ≠ 11 by decide), u2_off (show (9 : Nat) ≠ 11 by decide), u2_off (show (10 : Nat) ≠ 11 by decide), u2_off (show (12 : Nat) ≠ 11 by decide), u2_off (show (13 : Nat) ≠ 11 by decide), u2_off (show (14 : Nat) ≠ 11 by decide), hk]
theorem mw_left (j : Nat) (v : Int32) : mcell kc a (u2 m 12 j v) = va_up (mcell kc a m) 8 (.inl (kc 0, 16, .inl (upd (m 12) j v))) := by
  have hm : fsMod a (u2 m 12 j v) = fsMod a m := by simp [fsMod, u2]
  refine mw_x kc a m (by rw [mc_left, u2_row]) (fun k hk => ?_)
  unfold mcell
  rw [hm]
  simp [u2_off (show (5 : Nat) ≠ 12 by decide), u2_off (show (6 : Nat) ≠ 12 by decide), u2_off (show (7 : Nat) ≠ 12 by decide), u2_off (show (8 : Nat) ≠ 12 by decide), u2_off (show (9 : Nat) ≠ 12 by decide), u2_off (show (10 : Nat) ≠ 12 by decide), u2_off (show (11 : Nat) ≠ 12 by decide), u2_off (show (13 : Nat) ≠ 12 by decide), u2_off (show (14 : Nat) ≠ 12 by decide), hk]
theorem mw_line (j : Nat) (v : Int32) : mcell kc a (u2 m 13 j v) = va_up (mcell kc a m) 9 (.inl (kc 0, 128, .inl (upd (m 13) j v))) := by
  have hm : fsMod a (u2 m 13 j v) = fsMod a m := by simp [fsMod, u2]
  refine mw_x kc a m (by rw [mc_line, u2_row]) (fun k hk => ?_)
  unfold mcell
  rw [hm]
  simp [u2_off (show (5 : Nat) ≠ 13 by decide), u2_off (show (6 : Nat) ≠ 13 by decide), u2_off (show (7 : Nat) ≠ 13 by decide), u2_off (show (8 : Nat) ≠ 13 by decide), u2_off (show (9 : Nat) ≠ 13 by decide), u2_off (show (10 : Nat) ≠ 13 by decide), u2_off (show (11 : Nat) ≠ 13 by decide), u2_off (show (12 : Nat) ≠ 13 by decide), u2_off (show (14 : Nat) ≠ 13 by decide), hk]
theorem mw_screen (j : Nat) (v : Int32) : mcell kc a (u2 m 14 j v) = va_up (mcell kc a m) 10 (.inl (kc 1, 4096, .inl (upd (m 14) j v))) := by
  have hm : fsMod a (u2 m 14 j v) = fsMod a m := by simp [fsMod, u2]
  refine mw_x kc a m (by rw [mc_screen, u2_row]) (fun k hk => ?_)
  unfold mcell
  rw [hm]
  simp [u2_off (show (5 : Nat) ≠ 14 by decide), u2_off (show (6 : Nat) ≠ 14 by decide), u2_off (show (7 : Nat) ≠ 14 by decide), u2_off (show (8 : Nat) ≠ 14 by decide), u2_off (show (9 : Nat) ≠ 14 by decide), u2_off (show (10 : Nat) ≠ 14 by decide), u2_off (show (11 : Nat) ≠ 14 by decide), u2_off (show (12 : Nat) ≠ 14 by decide), u2_off (show (13 : Nat) ≠ 14 by decide), hk]
end MC
theorem map_up {α β : Type} {f : Nat → Option α} {g : α → β} {j : Nat} {o : Option α} : (fun q => (va_up f j o q).map g) = va_up (fun q => (f q).map g) j (o.map g) := by
  funext q
  by_cases h : q = j
  · subst h
    rw [va_up_self, va_up_self]
  · rw [va_up_ne _ _ h, va_up_ne _ _ h]
theorem tw_ne {x y : Int32} (h : ¬ x = y) (n : Int) (hn : y.toInt = n) : x.toInt ≠ n := fun e => h (Int32.toInt_inj.mp (e.trans hn.symm))
section DKW
variable {p : Program} {l : Launch} {e : Env} {R : Room} {s : State} {m : MethodId} {args : Array Value} {below : List Frame} {meth : Method} {c : Code} {H : Heap} {locs : List Loc} {cells slots : Nat} {Q : State → Prop}
variable {cc : ByteArray} {pc : Nat} {ls : Array Slot} {rest : List Value} {D : va_G} {A : Nat → Prop} {H0 : Heap} {kc : Nat → ClassId} {a : Nat → Nat} {d : DK}
theorem dk_ald_named (hexec : p.tables.exec = Jvm.exec) (hb : c.code = cc) (hK : va_K D vwCl (tysD kc) s) (hP : va_P D vwCl (ml 57 a (dcell kc a d)) H) {i : Int32} (hin : vp_in i 240) (hdg : decode cc pc = .ok (.aaload, 1))
    (kn : d.2.1 i.toNatClampNeg = none → W p l e R s m args below meth c H locs cells slots Q (F0 m (pc + 1) ls (.null :: rest))) (ks : ∀ q : Fin 32, d.2.1 i.toNatClampNeg = some q → W p l e R s m args below meth c H locs cells slots Q (F0 m (pc + 1) ls (.ref (a (q.val + 3)) :: rest))) : W p l e R s m args below meth c H locs cells slots Q (F0 m pc ls (.int i :: .ref (a 1) :: rest)) :=
  va_aldq hexec hb hK hP 1 2 (ml_at (by decide) (dc_named kc a d)) rfl hin hdg (ml_split (g := fun i : Fin 32 => a (i.val + 3)) kn ks)
theorem dk_ald_files (hexec : p.tables.exec = Jvm.exec) (hb : c.code = cc) (hK : va_K D vwCl (tysD kc) s) (hP : va_P D vwCl (ml 57 a (dcell kc a d)) H) {i : Int32} (hin : vp_in i 32) (hdg : decode cc pc = .ok (.aaload, 1))
    (kk : W p l e R s m args below meth c H locs cells slots Q (F0 m (pc + 1) ls (.ref (a ((Fin.ofNat 32 i.toNatClampNeg).val + 3)) :: rest))) : W p l e R s m args below meth c H locs cells slots Q (F0 m pc ls (.int i :: .ref (a 2) :: rest)) := by
  have hlt : i.toNatClampNeg < 32 := Nat.not_le.mp fun q => hin (Or.inr q)
  refine va_aldq hexec hb hK hP 2 2 (ml_at (by decide) (dc_files kc a d)) rfl hin hdg ?_
  rw [if_pos hlt]
  rw [show (Fin.ofNat 32 i.toNatClampNeg).val = i.toNatClampNeg from Nat.mod_eq_of_lt hlt] at kk
  exact kk
theorem dk_ald_pipes (hexec : p.tables.exec = Jvm.exec) (hb : c.code = cc) (hK : va_K D vwCl (tysD kc) s) (hP : va_P D vwCl (ml 57 a (dcell kc a d)) H) {i : Int32} (hin : vp_in i 8) (hdg : decode cc pc = .ok (.aaload, 1))
    (kk : W p l e R s m args below meth c H locs cells slots Q (F0 m (pc + 1) ls (.ref (a (2 * (Fin.ofNat 8 i.toNatClampNeg).val + 36)) :: rest))) : W p l e R s m args below meth c H locs cells slots Q (F0 m pc ls (.int i :: .ref (a 35) :: rest)) := by
  have hlt : i.toNatClampNeg < 8 := Nat.not_le.mp fun q => hin (Or.inr q)
  refine va_aldq hexec hb hK hP 35 3 (ml_at (by decide) (dc_pipes kc a d)) rfl hin hdg ?_
  rw [if_pos hlt]
  rw [show (Fin.ofNat 8 i.toNatClampNeg).val = i.toNatClampNeg from Nat.mod_eq_of_lt hlt] at kk
  exact kk
theorem dk_ast_named (hexec : p.tables.exec = Jvm.exec) (hb : c.code = cc) (hK : va_K D vwCl (tysD kc) s) (hP : va_P D vwCl (ml 57 a (dcell kc a d)) H) (hD : va_D A (ml 57 a (dcell kc a d))) (hS : va_S A H0 H locs) {i : Int32} {q : Fin 32} (hin : vp_in i 240) (hdg : decode cc pc = .ok (.aastore, 1))
    (kk : ∀ (H1 : Heap) (locs1 : List Loc), va_P D vwCl (ml 57 a (dcell kc a (sN d i.toNatClampNeg (some q)))) H1 → va_D A (ml 57 a (dcell kc a (sN d i.toNatClampNeg (some q)))) → va_S A H0 H1 locs1 → W p l e R s m args below meth c H1 locs1 cells slots Q (F0 m (pc + 1) ls rest)) : W p l e R s m args below meth c H locs cells slots Q (F0 m pc ls (.ref (a (q.val + 3)) :: .int i :: .ref (a 1) :: rest)) := by
  have hu : dcell kc a (sN d i.toNatClampNeg (some q)) = va_up (dcell kc a d) 1 (.inl (kc 2, 240, .inr (.inr (.inr (.inr (va_up (fun j => (d.2.1 j).map (fun i => a (i.val + 3))) i.toNatClampNeg (some (a (q.val + 3))))))))) := by
    rw [dw_named, map_up]
    rfl
  refine va_astq hexec hb hK hP hD hS 1 2 (q.val + 3) 1 (ml_at (by decide) (dc_named kc a d)) rfl (ml_at (lt_file q) (dc_file kc a d q)) rfl hin hdg (fun H1 locs1 h1 h2 h3 => ?_)
  rw [ml_set (by decide), ← hu] at h1 h2
  exact kk H1 locs1 h1 h2 h3
theorem dk_astN_named (hexec : p.tables.exec = Jvm.exec) (hb : c.code = cc) (hK : va_K D vwCl (tysD kc) s) (hP : va_P D vwCl (ml 57 a (dcell kc a d)) H) (hD : va_D A (ml 57 a (dcell kc a d))) (hS : va_S A H0 H locs) {i : Int32} (hin : vp_in i 240) (hdg : decode cc pc = .ok (.aastore, 1))
    (kk : ∀ (H1 : Heap) (locs1 : List Loc), va_P D vwCl (ml 57 a (dcell kc a (sN d i.toNatClampNeg none))) H1 → va_D A (ml 57 a (dcell kc a (sN d i.toNatClampNeg none))) → va_S A H0 H1 locs1 → W p l e R s m args below meth c H1 locs1 cells slots Q (F0 m (pc + 1) ls rest)) : W p l e R s m args below meth c H locs cells slots Q (F0 m pc ls (.null :: .int i :: .ref (a 1) :: rest)) := by
  have hu : dcell kc a (sN d i.toNatClampNeg none) = va_up (dcell kc a d) 1 (.inl (kc 2, 240, .inr (.inr (.inr (.inr (va_up (fun j => (d.2.1 j).map (fun i => a (i.val + 3))) i.toNatClampNeg none)))))) := by
    rw [dw_named, map_up]
    rfl
  refine va_astqN hexec hb hK hP hD hS 1 2 (ml_at (by decide) (dc_named kc a d)) rfl hin hdg (fun H1 locs1 h1 h2 h3 => ?_)
  rw [ml_set (by decide), ← hu] at h1 h2
  exact kk H1 locs1 h1 h2 h3
end DKW
end
section
/-! Numbers: places below a bound, a loop's next step; a number on the stack by another word. -/
theorem in_cmp {x b : Int32} {n : Nat} (hb : b = nI n) (hn : n < 2 ^ 31) (h0 : ¬ x < 0) (h1 : ¬ b ≤ x) : vp_in x n := by
  rcases pk_ix x hn with h | h | ⟨j, hj, rfl⟩
  · exact absurd h h0
  · exact absurd (by rw [hb]; exact h) h1
  · exact vp_in_nI hj hn
theorem in_cmpL {x b : Int32} {n : Nat} (hb : b = nI n) (hn : n < 2 ^ 31) (h0 : ¬ x < 0) (h1 : x < b) : vp_in x n := in_cmp hb hn h0 (Int32.not_le.mpr h1)
theorem lp_adv {b : Int32} {j B : Nat} (hb : b = nI B) (hB : B < 2 ^ 31) (hj : j ≤ B) (h : ¬ b ≤ nI j) : j + 1 ≤ B := by
  apply Nat.lt_of_not_le
  intro hle
  apply h
  rw [hb]
  exact nI_le hle (by omega)
theorem lp_in {b : Int32} {j B : Nat} (hb : b = nI B) (hB : B < 2 ^ 31) (hj : j ≤ B) (h : ¬ b ≤ nI j) : vp_in (nI j) B := vp_in_nI (lp_adv hb hB hj h) hB
theorem cl_lt (b : Int32) : b.toNatClampNeg < 2 ^ 31 := by
  by_cases h : b < 0
  · have h1 : b.toInt < 0 := by simpa using Int32.lt_iff_toInt_lt.mp h
    have h2 : b.toNatClampNeg = b.toInt.toNat := rfl
    rw [h2]
    omega
  · obtain ⟨t, ht, rfl⟩ := nI_of h
    rw [nI_clamp ht]
    exact ht
theorem lp_advB {b : Int32} {j : Nat} (hj : j ≤ b.toNatClampNeg) (h : ¬ b ≤ nI j) : j + 1 ≤ b.toNatClampNeg := by
  have hlt := cl_lt b
  by_cases hb : b < 0
  · exfalso
    apply h
    rw [Int32.le_iff_toInt_le, nI_toInt (by omega)]
    have h1 : b.toInt < 0 := by simpa using Int32.lt_iff_toInt_lt.mp hb
    omega
  · obtain ⟨t, ht, rfl⟩ := nI_of hb
    rw [nI_clamp ht] at hj ⊢
    apply Nat.lt_of_not_le
    intro hle
    exact h (nI_le hle (by omega))
section EQI
variable {p : Program} {l : Launch} {e : Env} {R : Room} {s : State} {m : MethodId} {args : Array Value} {below : List Frame} {meth : Method} {c : Code} {H : Heap} {locs : List Loc} {cells slots : Nat} {Q : State → Prop} {pc : Nat} {ls : Array Slot} {rest : List Value}
theorem lv_eqi {x y : Int32} (h : x = y) (k : W p l e R s m args below meth c H locs cells slots Q (F0 m pc ls (.int y :: rest))) : W p l e R s m args below meth c H locs cells slots Q (F0 m pc ls (.int x :: rest)) := by
  rw [h]
  exact k
theorem ml_isS {α : Type} {o : Option α} {g : α → Nat} {i : α} (h : o = some i) (k : W p l e R s m args below meth c H locs cells slots Q (F0 m pc ls (.ref (g i) :: rest))) : W p l e R s m args below meth c H locs cells slots Q (F0 m pc ls (va_rf (o.map g) :: rest)) := by
  rw [h]
  exact k
theorem ml_isN {α : Type} {o : Option α} {g : α → Nat} (h : o = none) (k : W p l e R s m args below meth c H locs cells slots Q (F0 m pc ls (.null :: rest))) : W p l e R s m args below meth c H locs cells slots Q (F0 m pc ls (va_rf (o.map g) :: rest)) := by
  rw [h]
  exact k
end EQI
theorem pe {α β : Type} (x : α × β) : x = (x.1, x.2) := rfl
end
section
/-! Worlds that grow by a cell; two worlds side by side. -/
section GR
variable {p : Program} {l : Launch} {e : Env} {R : Room} {s : State} {m : MethodId} {args : Array Value} {below : List Frame} {meth : Method} {c : Code} {H : Heap} {locs : List Loc} {cells slots : Nat} {Q : State → Prop}
variable {cc : ByteArray} {pc : Nat} {ls : Array Slot} {rest : List Value} {D : va_G} {cl : List vw_C} {A : Nat → Prop} {tys : List (ClassId × FieldType)} {H0 : Heap} {N : Nat} {a : Nat → Nat} {f f' : Nat → va_E}
theorem ml_up {N : Nat} {a : Nat → Nat} {f : Nat → va_E} {q : Nat} {e : va_E} : ml N a f ++ [(q, e)] = ml (N + 1) (va_up a N q) (va_up f N e) :=
  ml_push (fun k hk => va_up_ne a q (by omega)) (fun k hk => va_up_ne f e (by omega)) (va_up_self a N q) (va_up_self f N e)
theorem ml_new (hexec : p.tables.exec = Jvm.exec) (hb : c.code = cc) {own C : String} {T : u_T} {n ci index : Nat} {Ts : List Cond} (hts : ∀ w ∈ Ts, w.before args s = true) (hin : ∀ w ∈ u_ws C T n, w ∈ Ts) (ty : Nat → FieldType) (hty : ∀ k, k < n → parseFieldDescriptor (T k).2.2.1 = some (ty k)) (hown : s.vm.findClass own = some m.cls) (hcl : (Cond.classLink own index C).before args s = true) (hinst : (Cond.instantiable C n).before args s = true) (hini : (Cond.initialized C).before args s = true)
    (hK : va_K D cl tys s) (hP : va_P D cl (ml N a f) H) (hD : va_D A (ml N a f)) (hS : va_S A H0 H locs) (hA : ∀ q, H0.size ≤ q → A q) (hc : cl[ci]? = some (C, T, n)) {fs : List Value} (hfs : ∀ j, j < n → defaultValue (ty j) = vp_V fs j) (hcells : cells + 1 ≤ R.cells) (hslots : slots + n ≤ R.slots) (hdg : decode cc pc = .ok (.new index, 3))
    (kk : ∀ (q : Nat) (H1 : Heap), va_P D cl (ml (N + 1) (va_up a N q) (va_up f N (.inr (ci, fs)))) H1 → va_D A (ml (N + 1) (va_up a N q) (va_up f N (.inr (ci, fs)))) → va_S A H0 H1 locs →
      W p l e R s m args below meth c H1 locs (cells + 1) (slots + n) Q (F0 m (pc + 3) ls (.ref q :: rest))) : W p l e R s m args below meth c H locs cells slots Q (F0 m pc ls rest) :=
  va_new hexec hb hts hin ty hty hown hcl hinst hini hK hP hD hS hA hc hfs hcells hslots hdg (fun q H1 h1 h2 h3 => kk q H1 (by rw [← ml_up]; exact h1) (by rw [← ml_up]; exact h2) h3)
theorem ml_newa (hexec : p.tables.exec = Jvm.exec) (hb : c.code = cc) {atype : ArrayType} (harr : (Cond.arrayClass (newarray.typeOf atype)).before args s = true) {ty : FieldType} (hty : newarray.typeOf atype = ty) (hK : va_K D cl tys s) (hP : va_P D cl (ml N a f) H) (hD : va_D A (ml N a f)) (hS : va_S A H0 H locs) (hA : ∀ q, H0.size ≤ q → A q)
    {n : Int32} {N' : Nat} {a0 : vp_A} (ha : ∀ cA : ClassId, vp_cell cA a0 = arrV cA N' (fun _ => defaultValue ty)) (hn : ¬ n < 0) (hN : n.toNatClampNeg = N') (hbytes : N' * componentBytes ty ≤ 536870912) (hcells : cells + 1 ≤ R.cells) (hslots : slots + N' ≤ R.slots) (hdg : decode cc pc = .ok (.newarray atype, 2))
    (kc : ClassId) (hkc : ∀ cA : ClassId, va_K D cl (tys ++ [(cA, ty)]) s → cA = kc)
    (kk : ∀ (q : Nat) (H1 : Heap), va_P D cl (ml (N + 1) (va_up a N q) (va_up f N (.inl (kc, a0)))) H1 → va_D A (ml (N + 1) (va_up a N q) (va_up f N (.inl (kc, a0)))) → va_S A H0 H1 locs →
      W p l e R s m args below meth c H1 locs (cells + 1) (slots + N') Q (F0 m (pc + 2) ls (.ref q :: rest))) : W p l e R s m args below meth c H locs cells slots Q (F0 m pc ls (.int n :: rest)) :=
  va_newa hexec hb harr hty hK hP hD hS hA ha hn hN hbytes hcells hslots hdg (fun q cA H1 h0 h1 h2 h3 => by
    have e := hkc cA h0
    subst e
    exact kk q H1 (by rw [← ml_up]; exact h1) (by rw [← ml_up]; exact h2) h3)
theorem ml_newq (hexec : p.tables.exec = Jvm.exec) (hb : c.code = cc) {own C : String} {index : Nat} (hown : s.vm.findClass own = some m.cls) (hclink : (Cond.classLink own index C).before args s = true) (hover : va_AO C s) (hK : va_K D cl tys s) (hP : va_P D cl (ml N a f) H) (hD : va_D A (ml N a f)) (hS : va_S A H0 H locs) (hA : ∀ q, H0.size ≤ q → A q)
    {n : Int32} {N' : Nat} (hn : ¬ n < 0) (hN : n.toNatClampNeg = N') (hbytes : N' * 4 ≤ 536870912) (hcells : cells + 1 ≤ R.cells) (hslots : slots + N' ≤ R.slots) (hdg : decode cc pc = .ok (.anewarray index, 3))
    (kc : ClassId) (hkc : ∀ cA : ClassId, va_K D cl (tys ++ [(cA, .object C)]) s → cA = kc)
    (kk : ∀ (q : Nat) (H1 : Heap), va_P D cl (ml (N + 1) (va_up a N q) (va_up f N (.inl (kc, N', .inr (.inr (.inr (.inr (fun _ => none)))))))) H1 → va_D A (ml (N + 1) (va_up a N q) (va_up f N (.inl (kc, N', .inr (.inr (.inr (.inr (fun _ => none)))))))) → va_S A H0 H1 locs →
      W p l e R s m args below meth c H1 locs (cells + 1) (slots + N') Q (F0 m (pc + 3) ls (.ref q :: rest))) : W p l e R s m args below meth c H locs cells slots Q (F0 m pc ls (.int n :: rest)) :=
  va_newq hexec hb hown hclink hover hK hP hD hS hA hn hN hbytes hcells hslots hdg (fun q cA H1 h0 h1 h2 h3 => by
    have e := hkc cA h0
    subst e
    exact kk q H1 (by rw [← ml_up]; exact h1) (by rw [← ml_up]; exact h2) h3)
variable {st0 : List Value} {ar : Array Value} {mc ms : Nat}
/-- a call that makes cells: its world behind it is told by what it hands back -/
theorem ml_callS {S : Type} {N2 : Nat} {a2 : S → Nat → Nat} {f2 : S → Nat → va_E} (hr : va_Run p l e R s m args below meth c H locs cells slots mc ms (F0 m pc ls st0) rest (va_Qv (fun (_ : S) => True) (fun u t => ml_E D cl tys N2 (a2 u) (f2 u) (va_A (ml N a f) H.size) t) (va_A (ml N a f) H.size) ar) (va_A (ml N a f) H.size)) (hD : va_D A (ml N a f)) (hS : va_S A H0 H locs) (hA : ∀ q, H0.size ≤ q → A q)
    (kk : ∀ (u : S) (H1 : Heap) (locs1 : List Loc), va_P D cl (ml N2 (a2 u) (f2 u)) H1 → va_D A (ml N2 (a2 u) (f2 u)) → va_S A H0 H1 locs1 → W p l e R s m args below meth c H1 locs1 (cells + mc) (slots + ms) Q (F0 m (pc + 3) ls rest)) : W p l e R s m args below meth c H locs cells slots Q (F0 m pc ls st0) := by
  have hF := ml_free hD hS hA
  refine va_callv hr hS (fun q _ h => hF q h) hF (fun u t H1 locs1 ht hvm hw hB hz hk hS1 => ?_)
  obtain ⟨hP1, hK1, hD1⟩ := hB
  rw [ht] at hP1
  exact kk u H1 locs1 hP1 (hD1.weaken (fun k q _ h => hF q.1 h)) hS1
theorem ml_vretS {S : Type} {N2 : Nat} {a2 : S → Nat → Nat} {f2 : S → Nat → va_E} (u : S) (hexec : p.tables.exec = Jvm.exec) (hb : c.code = cc) (hr : meth.sig.returnType = none) (hlocks : meth.locks = false) (hP : va_P D cl (ml N2 (a2 u) (f2 u)) H) (hK : va_K D cl tys s) (hD : va_D A (ml N2 (a2 u) (f2 u))) (hS : va_S A s.heap H locs) (hdg : decode cc pc = .ok (.return_, 1)) :
    W p l e R s m args below meth c H locs cells slots (MQ below (va_Qv (fun (_ : S) => True) (fun u t => ml_E D cl tys N2 (a2 u) (f2 u) A t) A) args s cells slots A) (F0 m pc ls []) :=
  W.vret hexec hb hr (fun t ht hW => ⟨⟨u, rfl, trivial, by rw [ht]; exact hP, va_K.moved hW.alike hK, hD⟩, hS.F ht⟩) hS.2.2 hdg hlocks
end GR
section SIDE
variable {D : va_G} {cl : List vw_C} {w1 w2 w3 : va_W} {H H1 : Heap} {A : Nat → Prop}
theorem sd_Pl (h : va_P D cl (w1 ++ w2) H) : va_P D cl w1 H := fun k q hk => h k q (by
  rw [List.getElem?_append_left (List.getElem?_eq_some_iff.mp hk).1]
  exact hk)
theorem sd_Pr (h : va_P D cl (w1 ++ w2) H) : va_P D cl w2 H := fun k q hk => h (w1.length + k) q (by
  rw [List.getElem?_append_right (by omega), Nat.add_sub_cancel_left]
  exact hk)
theorem sd_Dl (h : va_D A (w1 ++ w2)) : va_D A w1 := by
  have at' : ∀ (k : Nat) (q : Nat × va_E), w1[k]? = some q → (w1 ++ w2)[k]? = some q := fun k q hk => by
    rw [List.getElem?_append_left (List.getElem?_eq_some_iff.mp hk).1]
    exact hk
  exact ⟨fun i j x y hi hj hxy => h.1 i j x y (at' i x hi) (at' j y hj) hxy, fun k q hk => h.2 k q (at' k q hk)⟩
theorem sd_Dr (h : va_D A (w1 ++ w2)) : va_D A w2 := by
  have at' : ∀ (k : Nat) (q : Nat × va_E), w2[k]? = some q → (w1 ++ w2)[w1.length + k]? = some q := fun k q hk => by
    rw [List.getElem?_append_right (by omega), Nat.add_sub_cancel_left]
    exact hk
  refine ⟨fun i j x y hi hj hxy => ?_, fun k q hk => h.2 _ q (at' k q hk)⟩
  have := h.1 _ _ x y (at' i x hi) (at' j y hj) hxy
  omega
theorem sd_ne (h : va_D A (w1 ++ w2)) {i j : Nat} {x y : Nat × va_E} (hi : w1[i]? = some x) (hj : w2[j]? = some y) : x.1 ≠ y.1 := by
  intro e
  have hl := (List.getElem?_eq_some_iff.mp hi).1
  have := h.1 i (w1.length + j) x y (by rw [List.getElem?_append_left hl]; exact hi) (by rw [List.getElem?_append_right (by omega), Nat.add_sub_cancel_left]; exact hj) e
  omega
/-- the left one goes on as w3, the right one stays -/
theorem sd_l (hP : va_P D cl (w1 ++ w2) H) (hD : va_D A (w1 ++ w2)) (hk : ∀ q : Nat, q < H.size → ¬ va_A w1 H.size q → H1[q]? = H[q]?) (hF : ∀ q, va_A w1 H.size q → A q) (hP3 : va_P D cl w3 H1) (hD3 : va_D (va_A w1 H.size) w3) : va_P D cl (w3 ++ w2) H1 ∧ va_D A (w3 ++ w2) := by
  have apart : ∀ (k : Nat) (q : Nat × va_E), w2[k]? = some q → q.1 < H.size ∧ ¬ va_A w1 H.size q.1 := by
    intro k q hq
    have hl := (sd_Pr hP k q hq).lt
    refine ⟨hl, fun h => ?_⟩
    rcases h with ⟨k2, e, h⟩ | h
    · exact sd_ne hD h hq rfl
    · omega
  refine ⟨hP3.app (fun k q hq => (sd_Pr hP k q hq).kept (hk q.1 (apart k q hq).1 (apart k q hq).2)), (hD3.weaken (fun k q _ h => hF q.1 h)).app (sd_Dr hD) (fun i j x y hx hy hxy => ?_)⟩
  exact (apart j y hy).2 (by rw [← hxy]; exact hD3.2 i x hx)
/-- the right one goes on as w3, the left one stays -/
theorem sd_r (hP : va_P D cl (w1 ++ w2) H) (hD : va_D A (w1 ++ w2)) (hk : ∀ q : Nat, q < H.size → ¬ va_A w2 H.size q → H1[q]? = H[q]?) (hF : ∀ q, va_A w2 H.size q → A q) (hP3 : va_P D cl w3 H1) (hD3 : va_D (va_A w2 H.size) w3) : va_P D cl (w1 ++ w3) H1 ∧ va_D A (w1 ++ w3) := by
  have apart : ∀ (k : Nat) (q : Nat × va_E), w1[k]? = some q → q.1 < H.size ∧ ¬ va_A w2 H.size q.1 := by
    intro k q hq
    have hl := (sd_Pl hP k q hq).lt
    refine ⟨hl, fun h => ?_⟩
    rcases h with ⟨k2, e, h⟩ | h
    · exact sd_ne hD hq h rfl
    · omega
  refine ⟨va_P.app (fun k q hq => (sd_Pl hP k q hq).kept (hk q.1 (apart k q hq).1 (apart k q hq).2)) hP3, (sd_Dl hD).app (hD3.weaken (fun k q _ h => hF q.1 h)) (fun i j x y hx hy hxy => ?_)⟩
  exact (apart i x hx).2 (by rw [hxy]; exact hD3.2 j y hy)
end SIDE
section SIDE2
variable {p : Program} {l : Launch} {e : Env} {R : Room} {s : State} {m : MethodId} {args : Array Value} {below : List Frame} {meth : Method} {c : Code} {H : Heap} {locs : List Loc} {cells slots : Nat} {Q : State → Prop}
variable {pc : Nat} {ls : Array Slot} {rest : List Value} {D : va_G} {cl : List vw_C} {A : Nat → Prop} {tys : List (ClassId × FieldType)} {H0 : Heap} {N N' : Nat} {a b : Nat → Nat} {f f' g g' : Nat → va_E} {st0 : List Value} {ar : Array Value} {mc ms : Nat}
theorem sd_freel {w1 w2 : va_W} (hD : va_D A (w1 ++ w2)) (hS : va_S A H0 H locs) (hA : ∀ q, H0.size ≤ q → A q) : ∀ q, va_A w1 H.size q → A q := ml_free (sd_Dl hD) hS hA
theorem sd_freer {w1 w2 : va_W} (hD : va_D A (w1 ++ w2)) (hS : va_S A H0 H locs) (hA : ∀ q, H0.size ≤ q → A q) : ∀ q, va_A w2 H.size q → A q := ml_free (sd_Dr hD) hS hA
/-- calls on the left world -/
theorem sd_calli {v : Int32} (hr : va_Run p l e R s m args below meth c H locs cells slots mc ms (F0 m pc ls st0) rest (va_Qi (fun r (_ : Unit) => r = v) (fun _ t => ml_E D cl tys N a f' (va_A (ml N a f) H.size) t) (va_A (ml N a f) H.size) ar) (va_A (ml N a f) H.size)) (hP : va_P D cl (ml N a f ++ ml N' b g) H) (hD : va_D A (ml N a f ++ ml N' b g)) (hS : va_S A H0 H locs) (hA : ∀ q, H0.size ≤ q → A q)
    (kk : ∀ (H1 : Heap) (locs1 : List Loc), va_P D cl (ml N a f' ++ ml N' b g) H1 → va_D A (ml N a f' ++ ml N' b g) → va_S A H0 H1 locs1 → W p l e R s m args below meth c H1 locs1 (cells + mc) (slots + ms) Q (F0 m (pc + 3) ls (.int v :: rest))) : W p l e R s m args below meth c H locs cells slots Q (F0 m pc ls st0) := by
  have hF := sd_freel hD hS hA
  refine va_calli hr hS (fun q _ h => hF q h) hF (fun r u t H1 locs1 ht hvm hw hB hz hk hS1 => ?_)
  obtain ⟨hP1, hK1, hD1⟩ := hB
  rw [ht] at hP1
  rw [hw]
  obtain ⟨h1, h2⟩ := sd_l hP hD hk hF hP1 hD1
  exact kk H1 locs1 h1 h2 hS1
theorem sd_callv (hr : va_Run p l e R s m args below meth c H locs cells slots mc ms (F0 m pc ls st0) rest (va_Qv (fun (_ : Unit) => True) (fun _ t => ml_E D cl tys N a f' (va_A (ml N a f) H.size) t) (va_A (ml N a f) H.size) ar) (va_A (ml N a f) H.size)) (hP : va_P D cl (ml N a f ++ ml N' b g) H) (hD : va_D A (ml N a f ++ ml N' b g)) (hS : va_S A H0 H locs) (hA : ∀ q, H0.size ≤ q → A q)
    (kk : ∀ (H1 : Heap) (locs1 : List Loc), va_P D cl (ml N a f' ++ ml N' b g) H1 → va_D A (ml N a f' ++ ml N' b g) → va_S A H0 H1 locs1 → W p l e R s m args below meth c H1 locs1 (cells + mc) (slots + ms) Q (F0 m (pc + 3) ls rest)) : W p l e R s m args below meth c H locs cells slots Q (F0 m pc ls st0) := by
  have hF := sd_freel hD hS hA
  refine va_callv hr hS (fun q _ h => hF q h) hF (fun u t H1 locs1 ht hvm hw hB hz hk hS1 => ?_)
  obtain ⟨hP1, hK1, hD1⟩ := hB
  rw [ht] at hP1
  obtain ⟨h1, h2⟩ := sd_l hP hD hk hF hP1 hD1
  exact kk H1 locs1 h1 h2 hS1
/-- calls on the right world -/
theorem sr_calli {v : Int32} (hr : va_Run p l e R s m args below meth c H locs cells slots mc ms (F0 m pc ls st0) rest (va_Qi (fun r (_ : Unit) => r = v) (fun _ t => ml_E D cl tys N' b g' (va_A (ml N' b g) H.size) t) (va_A (ml N' b g) H.size) ar) (va_A (ml N' b g) H.size)) (hP : va_P D cl (ml N a f ++ ml N' b g) H) (hD : va_D A (ml N a f ++ ml N' b g)) (hS : va_S A H0 H locs) (hA : ∀ q, H0.size ≤ q → A q)
    (kk : ∀ (H1 : Heap) (locs1 : List Loc), va_P D cl (ml N a f ++ ml N' b g') H1 → va_D A (ml N a f ++ ml N' b g') → va_S A H0 H1 locs1 → W p l e R s m args below meth c H1 locs1 (cells + mc) (slots + ms) Q (F0 m (pc + 3) ls (.int v :: rest))) : W p l e R s m args below meth c H locs cells slots Q (F0 m pc ls st0) := by
  have hF := sd_freer hD hS hA
  refine va_calli hr hS (fun q _ h => hF q h) hF (fun r u t H1 locs1 ht hvm hw hB hz hk hS1 => ?_)
  obtain ⟨hP1, hK1, hD1⟩ := hB
  rw [ht] at hP1
  rw [hw]
  obtain ⟨h1, h2⟩ := sd_r hP hD hk hF hP1 hD1
  exact kk H1 locs1 h1 h2 hS1
theorem sr_callv (hr : va_Run p l e R s m args below meth c H locs cells slots mc ms (F0 m pc ls st0) rest (va_Qv (fun (_ : Unit) => True) (fun _ t => ml_E D cl tys N' b g' (va_A (ml N' b g) H.size) t) (va_A (ml N' b g) H.size) ar) (va_A (ml N' b g) H.size)) (hP : va_P D cl (ml N a f ++ ml N' b g) H) (hD : va_D A (ml N a f ++ ml N' b g)) (hS : va_S A H0 H locs) (hA : ∀ q, H0.size ≤ q → A q)
    (kk : ∀ (H1 : Heap) (locs1 : List Loc), va_P D cl (ml N a f ++ ml N' b g') H1 → va_D A (ml N a f ++ ml N' b g') → va_S A H0 H1 locs1 → W p l e R s m args below meth c H1 locs1 (cells + mc) (slots + ms) Q (F0 m (pc + 3) ls rest)) : W p l e R s m args below meth c H locs cells slots Q (F0 m pc ls st0) := by
  have hF := sd_freer hD hS hA
  refine va_callv hr hS (fun q _ h => hF q h) hF (fun u t H1 locs1 ht hvm hw hB hz hk hS1 => ?_)
  obtain ⟨hP1, hK1, hD1⟩ := hB
  rw [ht] at hP1
  obtain ⟨h1, h2⟩ := sd_r hP hD hk hF hP1 hD1
  exact kk H1 locs1 h1 h2 hS1
end SIDE2
end
section
def sp_isProcess (pr : Int32) : Int32 :=
  (if pr < (0 : Int32) then (0 : Int32) else (if (15 : Int32) ≤ pr then (0 : Int32) else (1 : Int32)))
abbrev rm_isProcess : Room := { frames := 0, cells := 0, slots := 0, locals := 0 }
set_option maxHeartbeats 4000000 in
set_option maxRecDepth 100000 in
theorem c_isProcess (l : Launch) (dC : Nat → ClassId) (dI : Nat → Nat → Nat) (kc : Nat → ClassId) (a : Nat → Nat) (sz : Nat) (d : DK) (pr : Int32) (R' : Int32) (hres : sp_isProcess pr = R') : Met l y_isProcess ws_isProcess rm_isProcess (va_Pc [.int pr] (ml_B (dC, dI) vwCl (tysD kc) 57 a (dcell kc a d) sz)) (va_Qi (fun r (_ : Unit) => r = R') (fun _ t => ml_E (dC, dI) vwCl (tysD kc) 57 a (dcell kc a d) (va_A (ml 57 a (dcell kc a d)) sz) t) (va_A (ml 57 a (dcell kc a d)) sz)) 0 0 (va_A (ml 57 a (dcell kc a d)) sz) := by
  refine Met.ofW (cc := prog_1_method_20_code) (maxL := 1) (ret := (some .boolean)) (by decide) rfl ?_
  intro p e s m args below meth c s₁ B hml hv
  obtain ⟨rfl, hsz, hP, hK, hD0⟩ := hv
  have hx := B.exec
  have hb := B.bytes
  have hr := B.returns
  have hts := atoms_spec (ws := ws_isProcess) B.pre
  have hown : s.vm.findClass "HandleDesk" = some m.cls := findClass_of_methodNamed B.named
  have hlocks := B.notSynchronized
  subst hsz
  have hD := hD0.self (sz := s.heap.size)
  generalize hAe : va_A (ml 57 a (dcell kc a d)) s.heap.size = A at hD ⊢
  have hA : ∀ q : Nat, s.heap.size ≤ q → A q := fun q h => by rw [← hAe]; exact Or.inr h
  have hS : va_S A s.heap s.heap [] := va_S.rf
  have hl := lv_entry ([.int pr]) (n := 1) (Nat.le_of_ble_eq_true rfl)
  rw [lg_entry_eq]
  generalize (lg_sl ([.int pr]) ++ List.replicate (1 - (lg_sl ([.int pr])).length) Slot.unset).toArray = ls at hl ⊢
  have hl : lv_has ls 1 [(0, .int pr)] := hl
  rw [sp_isProcess] at hres
  refine lv_iload_n hx hb d_isProcess_0 rfl (lv_at hl 0 rfl) ?_
  refine lv_if_lt (tgt := 14) hx hb d_isProcess_1 (by decide) (fun h_1 => ?_) (fun h_1 => ?_)
  · rw [if_pos h_1] at hres
    refine lv_iconst (v := 0) hx hb d_isProcess_14 (by decide) ?_
    subst hres
    exact ml_zret hx hb hr (by decide) hlocks hP hK hD hS d_isProcess_15
  · rw [if_neg h_1] at hres
    refine lv_iload_n hx hb d_isProcess_4 rfl (lv_at hl 0 rfl) ?_
    refine lv_bipush (v := 15) hx hb d_isProcess_5 (by decide) ?_
    refine lv_icmp_ge (tgt := 14) hx hb d_isProcess_7 (by decide) (fun h_2 => ?_) (fun h_2 => ?_)
    · rw [if_pos h_2] at hres
      refine lv_iconst (v := 0) hx hb d_isProcess_14 (by decide) ?_
      subst hres
      exact ml_zret hx hb hr (by decide) hlocks hP hK hD hS d_isProcess_15
    · rw [if_neg h_2] at hres
      refine lv_iconst (v := 1) hx hb d_isProcess_10 (by decide) ?_
      refine lv_goto (tgt := 15) hx hb d_isProcess_11 (by decide) ?_
      subst hres
      exact ml_zret hx hb hr (by decide) hlocks hP hK hD hS d_isProcess_15
def sp_isDescriptor (x : Int32) : Int32 :=
  (if x < (0 : Int32) then (0 : Int32) else (if (16 : Int32) ≤ x then (0 : Int32) else (1 : Int32)))
abbrev rm_isDescriptor : Room := { frames := 0, cells := 0, slots := 0, locals := 0 }
set_option maxHeartbeats 4000000 in
set_option maxRecDepth 100000 in
theorem c_isDescriptor (l : Launch) (dC : Nat → ClassId) (dI : Nat → Nat → Nat) (kc : Nat → ClassId) (a : Nat → Nat) (sz : Nat) (d : DK) (x : Int32) (R' : Int32) (hres : sp_isDescriptor x = R') : Met l y_isDescriptor ws_isDescriptor rm_isDescriptor (va_Pc [.int x] (ml_B (dC, dI) vwCl (tysD kc) 57 a (dcell kc a d) sz)) (va_Qi (fun r (_ : Unit) => r = R') (fun _ t => ml_E (dC, dI) vwCl (tysD kc) 57 a (dcell kc a d) (va_A (ml 57 a (dcell kc a d)) sz) t) (va_A (ml 57 a (dcell kc a d)) sz)) 0 0 (va_A (ml 57 a (dcell kc a d)) sz) := by
  refine Met.ofW (cc := prog_1_method_21_code) (maxL := 1) (ret := (some .boolean)) (by decide) rfl ?_
  intro p e s m args below meth c s₁ B hml hv
  obtain ⟨rfl, hsz, hP, hK, hD0⟩ := hv
  have hx := B.exec
  have hb := B.bytes
  have hr := B.returns
  have hts := atoms_spec (ws := ws_isDescriptor) B.pre
  have hown : s.vm.findClass "HandleDesk" = some m.cls := findClass_of_methodNamed B.named
  have hlocks := B.notSynchronized
  subst hsz
  have hD := hD0.self (sz := s.heap.size)
  generalize hAe : va_A (ml 57 a (dcell kc a d)) s.heap.size = A at hD ⊢
  have hA : ∀ q : Nat, s.heap.size ≤ q → A q := fun q h => by rw [← hAe]; exact Or.inr h
  have hS : va_S A s.heap s.heap [] := va_S.rf
  have hl := lv_entry ([.int x]) (n := 1) (Nat.le_of_ble_eq_true rfl)
  rw [lg_entry_eq]
  generalize (lg_sl ([.int x]) ++ List.replicate (1 - (lg_sl ([.int x])).length) Slot.unset).toArray = ls at hl ⊢
  have hl : lv_has ls 1 [(0, .int x)] := hl
  rw [sp_isDescriptor] at hres
  refine lv_iload_n hx hb d_isDescriptor_0 rfl (lv_at hl 0 rfl) ?_
  refine lv_if_lt (tgt := 14) hx hb d_isDescriptor_1 (by decide) (fun h_1 => ?_) (fun h_1 => ?_)
  · rw [if_pos h_1] at hres
    refine lv_iconst (v := 0) hx hb d_isDescriptor_14 (by decide) ?_
    subst hres
    exact ml_zret hx hb hr (by decide) hlocks hP hK hD hS d_isDescriptor_15
  · rw [if_neg h_1] at hres
    refine lv_iload_n hx hb d_isDescriptor_4 rfl (lv_at hl 0 rfl) ?_
    refine lv_bipush (v := 16) hx hb d_isDescriptor_5 (by decide) ?_
    refine lv_icmp_ge (tgt := 14) hx hb d_isDescriptor_7 (by decide) (fun h_2 => ?_) (fun h_2 => ?_)
    · rw [if_pos h_2] at hres
      refine lv_iconst (v := 0) hx hb d_isDescriptor_14 (by decide) ?_
      subst hres
      exact ml_zret hx hb hr (by decide) hlocks hP hK hD hS d_isDescriptor_15
    · rw [if_neg h_2] at hres
      refine lv_iconst (v := 1) hx hb d_isDescriptor_10 (by decide) ?_
      refine lv_goto (tgt := 15) hx hb d_isDescriptor_11 (by decide) ?_
      subst hres
      exact ml_zret hx hb hr (by decide) hlocks hP hK hD hS d_isDescriptor_15
def sp_isOpenable (ki : Int32) : Int32 :=
  (if ki = (2 : Int32) then (1 : Int32) else (if ki = (3 : Int32) then (1 : Int32) else (0 : Int32)))
abbrev rm_isOpenable : Room := { frames := 0, cells := 0, slots := 0, locals := 0 }
set_option maxHeartbeats 4000000 in
set_option maxRecDepth 100000 in
theorem c_isOpenable (l : Launch) (dC : Nat → ClassId) (dI : Nat → Nat → Nat) (kc : Nat → ClassId) (a : Nat → Nat) (sz : Nat) (d : DK) (ki : Int32) (R' : Int32) (hres : sp_isOpenable ki = R') : Met l y_isOpenable ws_isOpenable rm_isOpenable (va_Pc [.int ki] (ml_B (dC, dI) vwCl (tysD kc) 57 a (dcell kc a d) sz)) (va_Qi (fun r (_ : Unit) => r = R') (fun _ t => ml_E (dC, dI) vwCl (tysD kc) 57 a (dcell kc a d) (va_A (ml 57 a (dcell kc a d)) sz) t) (va_A (ml 57 a (dcell kc a d)) sz)) 0 0 (va_A (ml 57 a (dcell kc a d)) sz) := by
  refine Met.ofW (cc := prog_1_method_22_code) (maxL := 1) (ret := (some .boolean)) (by decide) rfl ?_
  intro p e s m args below meth c s₁ B hml hv
  obtain ⟨rfl, hsz, hP, hK, hD0⟩ := hv
  have hx := B.exec
  have hb := B.bytes
  have hr := B.returns
  have hts := atoms_spec (ws := ws_isOpenable) B.pre
  have hown : s.vm.findClass "HandleDesk" = some m.cls := findClass_of_methodNamed B.named
  have hlocks := B.notSynchronized
  subst hsz
  have hD := hD0.self (sz := s.heap.size)
  generalize hAe : va_A (ml 57 a (dcell kc a d)) s.heap.size = A at hD ⊢
  have hA : ∀ q : Nat, s.heap.size ≤ q → A q := fun q h => by rw [← hAe]; exact Or.inr h
  have hS : va_S A s.heap s.heap [] := va_S.rf
  have hl := lv_entry ([.int ki]) (n := 1) (Nat.le_of_ble_eq_true rfl)
  rw [lg_entry_eq]
  generalize (lg_sl ([.int ki]) ++ List.replicate (1 - (lg_sl ([.int ki])).length) Slot.unset).toArray = ls at hl ⊢
  have hl : lv_has ls 1 [(0, .int ki)] := hl
  rw [sp_isOpenable] at hres
  refine lv_iload_n hx hb d_isOpenable_0 rfl (lv_at hl 0 rfl) ?_
  refine lv_iconst (v := 2) hx hb d_isOpenable_1 (by decide) ?_
  refine lv_icmp_eq (tgt := 10) hx hb d_isOpenable_2 (by decide) (fun h_1 => ?_) (fun h_1 => ?_)
  · rw [if_pos h_1] at hres
    refine lv_iconst (v := 1) hx hb d_isOpenable_10 (by decide) ?_
    refine lv_goto (tgt := 15) hx hb d_isOpenable_11 (by decide) ?_
    subst hres
    exact ml_zret hx hb hr (by decide) hlocks hP hK hD hS d_isOpenable_15
  · rw [if_neg h_1] at hres
    refine lv_iload_n hx hb d_isOpenable_5 rfl (lv_at hl 0 rfl) ?_
    refine lv_iconst (v := 3) hx hb d_isOpenable_6 (by decide) ?_
    refine lv_icmp_ne (tgt := 14) hx hb d_isOpenable_7 (by decide) (fun h_2 => ?_) (fun h_2 => ?_)
    · rw [if_neg h_2] at hres
      refine lv_iconst (v := 0) hx hb d_isOpenable_14 (by decide) ?_
      subst hres
      exact ml_zret hx hb hr (by decide) hlocks hP hK hD hS d_isOpenable_15
    · rw [if_pos h_2] at hres
      refine lv_iconst (v := 1) hx hb d_isOpenable_10 (by decide) ?_
      refine lv_goto (tgt := 15) hx hb d_isOpenable_11 (by decide) ?_
      subst hres
      exact ml_zret hx hb hr (by decide) hlocks hP hK hD hS d_isOpenable_15
def sp_isHow (hw : Int32) : Int32 :=
  (if hw < (1 : Int32) then (0 : Int32) else (if (3 : Int32) < hw then (0 : Int32) else (1 : Int32)))
abbrev rm_isHow : Room := { frames := 0, cells := 0, slots := 0, locals := 0 }
set_option maxHeartbeats 4000000 in
set_option maxRecDepth 100000 in
theorem c_isHow (l : Launch) (dC : Nat → ClassId) (dI : Nat → Nat → Nat) (kc : Nat → ClassId) (a : Nat → Nat) (sz : Nat) (d : DK) (hw : Int32) (R' : Int32) (hres : sp_isHow hw = R') : Met l y_isHow ws_isHow rm_isHow (va_Pc [.int hw] (ml_B (dC, dI) vwCl (tysD kc) 57 a (dcell kc a d) sz)) (va_Qi (fun r (_ : Unit) => r = R') (fun _ t => ml_E (dC, dI) vwCl (tysD kc) 57 a (dcell kc a d) (va_A (ml 57 a (dcell kc a d)) sz) t) (va_A (ml 57 a (dcell kc a d)) sz)) 0 0 (va_A (ml 57 a (dcell kc a d)) sz) := by
  refine Met.ofW (cc := prog_1_method_23_code) (maxL := 1) (ret := (some .boolean)) (by decide) rfl ?_
  intro p e s m args below meth c s₁ B hml hv
  obtain ⟨rfl, hsz, hP, hK, hD0⟩ := hv
  have hx := B.exec
  have hb := B.bytes
  have hr := B.returns
  have hts := atoms_spec (ws := ws_isHow) B.pre
  have hown : s.vm.findClass "HandleDesk" = some m.cls := findClass_of_methodNamed B.named
  have hlocks := B.notSynchronized
  subst hsz
  have hD := hD0.self (sz := s.heap.size)
  generalize hAe : va_A (ml 57 a (dcell kc a d)) s.heap.size = A at hD ⊢
  have hA : ∀ q : Nat, s.heap.size ≤ q → A q := fun q h => by rw [← hAe]; exact Or.inr h
  have hS : va_S A s.heap s.heap [] := va_S.rf
  have hl := lv_entry ([.int hw]) (n := 1) (Nat.le_of_ble_eq_true rfl)
  rw [lg_entry_eq]
  generalize (lg_sl ([.int hw]) ++ List.replicate (1 - (lg_sl ([.int hw])).length) Slot.unset).toArray = ls at hl ⊢
  have hl : lv_has ls 1 [(0, .int hw)] := hl
  rw [sp_isHow] at hres
  refine lv_iload_n hx hb d_isHow_0 rfl (lv_at hl 0 rfl) ?_
  refine lv_iconst (v := 1) hx hb d_isHow_1 (by decide) ?_
  refine lv_icmp_lt (tgt := 14) hx hb d_isHow_2 (by decide) (fun h_1 => ?_) (fun h_1 => ?_)
  · rw [if_pos h_1] at hres
    refine lv_iconst (v := 0) hx hb d_isHow_14 (by decide) ?_
    subst hres
    exact ml_zret hx hb hr (by decide) hlocks hP hK hD hS d_isHow_15
  · rw [if_neg h_1] at hres
    refine lv_iload_n hx hb d_isHow_5 rfl (lv_at hl 0 rfl) ?_
    refine lv_iconst (v := 3) hx hb d_isHow_6 (by decide) ?_
    refine lv_icmp_gt (tgt := 14) hx hb d_isHow_7 (by decide) (fun h_2 => ?_) (fun h_2 => ?_)
    · rw [if_pos h_2] at hres
      refine lv_iconst (v := 0) hx hb d_isHow_14 (by decide) ?_
      subst hres
      exact ml_zret hx hb hr (by decide) hlocks hP hK hD hS d_isHow_15
    · rw [if_neg h_2] at hres
      refine lv_iconst (v := 1) hx hb d_isHow_10 (by decide) ?_
      refine lv_goto (tgt := 15) hx hb d_isHow_11 (by decide) ?_
      subst hres
      exact ml_zret hx hb hr (by decide) hlocks hP hK hD hS d_isHow_15
def sp_oneIf (bt : Int32) : Int32 :=
  (if bt = (0 : Int32) then (0 : Int32) else (1 : Int32))
abbrev rm_oneIf : Room := { frames := 0, cells := 0, slots := 0, locals := 0 }
set_option maxHeartbeats 4000000 in
set_option maxRecDepth 100000 in
theorem c_oneIf (l : Launch) (dC : Nat → ClassId) (dI : Nat → Nat → Nat) (kc : Nat → ClassId) (a : Nat → Nat) (sz : Nat) (d : DK) (bt : Int32) (R' : Int32) (hres : sp_oneIf bt = R') : Met l y_oneIf ws_oneIf rm_oneIf (va_Pc [.int bt] (ml_B (dC, dI) vwCl (tysD kc) 57 a (dcell kc a d) sz)) (va_Qi (fun r (_ : Unit) => r = R') (fun _ t => ml_E (dC, dI) vwCl (tysD kc) 57 a (dcell kc a d) (va_A (ml 57 a (dcell kc a d)) sz) t) (va_A (ml 57 a (dcell kc a d)) sz)) 0 0 (va_A (ml 57 a (dcell kc a d)) sz) := by
  refine Met.ofW (cc := prog_1_method_24_code) (maxL := 1) (ret := (some .int)) (by decide) rfl ?_
  intro p e s m args below meth c s₁ B hml hv
  obtain ⟨rfl, hsz, hP, hK, hD0⟩ := hv
  have hx := B.exec
  have hb := B.bytes
  have hr := B.returns
  have hts := atoms_spec (ws := ws_oneIf) B.pre
  have hown : s.vm.findClass "HandleDesk" = some m.cls := findClass_of_methodNamed B.named
  have hlocks := B.notSynchronized
  subst hsz
  have hD := hD0.self (sz := s.heap.size)
  generalize hAe : va_A (ml 57 a (dcell kc a d)) s.heap.size = A at hD ⊢
  have hA : ∀ q : Nat, s.heap.size ≤ q → A q := fun q h => by rw [← hAe]; exact Or.inr h
  have hS : va_S A s.heap s.heap [] := va_S.rf
  have hl := lv_entry ([.int bt]) (n := 1) (Nat.le_of_ble_eq_true rfl)
  rw [lg_entry_eq]
  generalize (lg_sl ([.int bt]) ++ List.replicate (1 - (lg_sl ([.int bt])).length) Slot.unset).toArray = ls at hl ⊢
  have hl : lv_has ls 1 [(0, .int bt)] := hl
  rw [sp_oneIf] at hres
  refine lv_iload_n hx hb d_oneIf_0 rfl (lv_at hl 0 rfl) ?_
  refine lv_if_eq (tgt := 8) hx hb d_oneIf_1 (by decide) (fun h_1 => ?_) (fun h_1 => ?_)
  · rw [if_pos h_1] at hres
    refine lv_iconst (v := 0) hx hb d_oneIf_8 (by decide) ?_
    subst hres
    exact ml_iret hx hb hr hlocks hP hK hD hS d_oneIf_9
  · rw [if_neg h_1] at hres
    refine lv_iconst (v := 1) hx hb d_oneIf_4 (by decide) ?_
    refine lv_goto (tgt := 9) hx hb d_oneIf_5 (by decide) ?_
    subst hres
    exact ml_iret hx hb hr hlocks hP hK hD hS d_oneIf_9
def sp_File_begin (d : DK) (fl : Fin 32) (ki : Int32) (hw : Int32) : DK :=
  (if hw &&& (1 : Int32) = (0 : Int32) then (if hw &&& (2 : Int32) = (0 : Int32) then (sI (sI (sI (sI (sR (sI (sI d 2 fl.val ki) 3 fl.val (0 : Int32)) fl.val none) 4 fl.val (0 : Int32)) 5 fl.val (0 : Int32)) 6 fl.val (0 : Int32)) 7 fl.val (0 : Int32)) else (sI (sI (sI (sI (sR (sI (sI d 2 fl.val ki) 3 fl.val (0 : Int32)) fl.val none) 4 fl.val (0 : Int32)) 5 fl.val (1 : Int32)) 6 fl.val (0 : Int32)) 7 fl.val (0 : Int32))) else (if hw &&& (2 : Int32) = (0 : Int32) then (sI (sI (sI (sI (sR (sI (sI d 2 fl.val ki) 3 fl.val (0 : Int32)) fl.val none) 4 fl.val (1 : Int32)) 5 fl.val (0 : Int32)) 6 fl.val (0 : Int32)) 7 fl.val (0 : Int32)) else (sI (sI (sI (sI (sR (sI (sI d 2 fl.val ki) 3 fl.val (0 : Int32)) fl.val none) 4 fl.val (1 : Int32)) 5 fl.val (1 : Int32)) 6 fl.val (0 : Int32)) 7 fl.val (0 : Int32))))
abbrev rm_File_begin : Room := { frames := 0, cells := 0, slots := 0, locals := 0 }
set_option maxHeartbeats 4000000 in
set_option maxRecDepth 100000 in
theorem c_File_begin (l : Launch) (dC : Nat → ClassId) (dI : Nat → Nat → Nat) (kc : Nat → ClassId) (a : Nat → Nat) (sz : Nat) (d : DK) (fl : Fin 32) (ki : Int32) (hw : Int32) (d' : DK) (hres : sp_File_begin d fl ki hw = d') : Met l y_File_begin ws_File_begin rm_File_begin (va_Pc [.ref (a (fl.val + 3)), .int ki, .int hw] (ml_B (dC, dI) vwCl (tysD kc) 57 a (dcell kc a d) sz)) (va_Qv (fun (_ : Unit) => True) (fun _ t => ml_E (dC, dI) vwCl (tysD kc) 57 a (dcell kc a d') (va_A (ml 57 a (dcell kc a d)) sz) t) (va_A (ml 57 a (dcell kc a d)) sz)) 0 0 (va_A (ml 57 a (dcell kc a d)) sz) := by
  refine Met.ofW (cc := prog_3_method_2_code) (maxL := 3) (ret := (none : Option Jvm.ClassFile.FieldType)) (by decide) rfl ?_
  intro p e s m args below meth c s₁ B hml hv
  obtain ⟨rfl, hsz, hP, hK, hD0⟩ := hv
  have hx := B.exec
  have hb := B.bytes
  have hr := B.returns
  have hts := atoms_spec (ws := ws_File_begin) B.pre
  have hown : s.vm.findClass "HandleDesk$OpenFile" = some m.cls := findClass_of_methodNamed B.named
  have hlocks := B.notSynchronized
  subst hsz
  have hD := hD0.self (sz := s.heap.size)
  generalize hAe : va_A (ml 57 a (dcell kc a d)) s.heap.size = A at hD ⊢
  have hA : ∀ q : Nat, s.heap.size ≤ q → A q := fun q h => by rw [← hAe]; exact Or.inr h
  have hS : va_S A s.heap s.heap [] := va_S.rf
  have hl := lv_entry ([.ref (a (fl.val + 3)), .int ki, .int hw]) (n := 3) (Nat.le_of_ble_eq_true rfl)
  rw [lg_entry_eq]
  generalize (lg_sl ([.ref (a (fl.val + 3)), .int ki, .int hw]) ++ List.replicate (3 - (lg_sl ([.ref (a (fl.val + 3)), .int ki, .int hw])).length) Slot.unset).toArray = ls at hl ⊢
  have hl : lv_has ls 3 [(0, .ref (a (fl.val + 3))), (1, .int ki), (2, .int hw)] := hl
  rw [sp_File_begin] at hres
  refine lv_aload_n hx hb d_File_begin_0 rfl (lv_at hl 0 rfl) ?_
  refine lv_iload_n hx hb d_File_begin_1 rfl (lv_at hl 1 rfl) ?_
  refine ml_put (D := (dC, dI)) hx hb hts in_FC tyF tyF_ok nmF hown hK hP hD hS (fl.val + 3) (lt_file fl) (dc_file kc a d fl) rfl 1 (by decide) (hts _ (mC _ wd_25)) (fun _ h9 => h9) rfl (ty := .int) (by decide +kernel) rfl rfl (Nat.le_of_ble_eq_true rfl) (f' := (dcell kc a (sI d 2 fl.val ki))) (dw_2 fl ki) d_File_begin_2 (fun H locs hP hD hS => ?_)
  refine lv_aload_n hx hb d_File_begin_5 rfl (lv_at hl 0 rfl) ?_
  refine lv_iconst (v := 0) hx hb d_File_begin_6 (by decide) ?_
  refine ml_put (D := (dC, dI)) hx hb hts in_FC tyF tyF_ok nmF hown hK hP hD hS (fl.val + 3) (lt_file fl) (dc_file kc a (sI d 2 fl.val ki) fl) rfl 2 (by decide) (hts _ (mC _ wd_27)) (fun _ h9 => h9) rfl (ty := .int) (by decide +kernel) rfl rfl (Nat.le_of_ble_eq_true rfl) (f' := (dcell kc a (sI (sI d 2 fl.val ki) 3 fl.val (0 : Int32)))) (dw_3 fl (0 : Int32)) d_File_begin_7 (fun H locs hP hD hS => ?_)
  refine lv_aload_n hx hb d_File_begin_10 rfl (lv_at hl 0 rfl) ?_
  refine lv_null hx hb d_File_begin_11 ?_
  refine ml_put (D := (dC, dI)) hx hb hts in_FC tyF tyF_ok nmF hown hK hP hD hS (fl.val + 3) (lt_file fl) (dc_file kc a (sI (sI d 2 fl.val ki) 3 fl.val (0 : Int32)) fl) rfl 3 (by decide) (hts _ (mC _ wd_29)) (fun _ h9 => h9) rfl (ty := (.object "HandleDesk$Pipe")) (by decide +kernel) rfl rfl (Nat.le_of_ble_eq_true rfl) (f' := (dcell kc a (sR (sI (sI d 2 fl.val ki) 3 fl.val (0 : Int32)) fl.val none))) (dw_row fl none) d_File_begin_12 (fun H locs hP hD hS => ?_)
  refine lv_aload_n hx hb d_File_begin_15 rfl (lv_at hl 0 rfl) ?_
  refine lv_iload_n hx hb d_File_begin_16 rfl (lv_at hl 2 rfl) ?_
  refine lv_iconst (v := 1) hx hb d_File_begin_17 (by decide) ?_
  refine lv_iand hx hb d_File_begin_18 ?_
  refine lv_if_eq (tgt := 26) hx hb d_File_begin_19 (by decide) (fun h_1 => ?_) (fun h_1 => ?_)
  · rw [if_pos h_1] at hres
    refine lv_iconst (v := 0) hx hb d_File_begin_26 (by decide) ?_
    refine ml_put (D := (dC, dI)) hx hb hts in_FC tyF tyF_ok nmF hown hK hP hD hS (fl.val + 3) (lt_file fl) (dc_file kc a (sR (sI (sI d 2 fl.val ki) 3 fl.val (0 : Int32)) fl.val none) fl) rfl 4 (by decide) (hts _ (mC _ wd_31)) (fun _ h9 => h9) rfl (ty := .boolean) (by decide +kernel) rfl rfl (Nat.le_of_ble_eq_true rfl) (f' := (dcell kc a (sI (sR (sI (sI d 2 fl.val ki) 3 fl.val (0 : Int32)) fl.val none) 4 fl.val (0 : Int32)))) (dw_4 fl (0 : Int32)) d_File_begin_27 (fun H locs hP hD hS => ?_)
    refine lv_aload_n hx hb d_File_begin_30 rfl (lv_at hl 0 rfl) ?_
    refine lv_iload_n hx hb d_File_begin_31 rfl (lv_at hl 2 rfl) ?_
    refine lv_iconst (v := 2) hx hb d_File_begin_32 (by decide) ?_
    refine lv_iand hx hb d_File_begin_33 ?_
    refine lv_if_eq (tgt := 41) hx hb d_File_begin_34 (by decide) (fun h_2 => ?_) (fun h_2 => ?_)
    · rw [if_pos h_2] at hres
      refine lv_iconst (v := 0) hx hb d_File_begin_41 (by decide) ?_
      refine ml_put (D := (dC, dI)) hx hb hts in_FC tyF tyF_ok nmF hown hK hP hD hS (fl.val + 3) (lt_file fl) (dc_file kc a (sI (sR (sI (sI d 2 fl.val ki) 3 fl.val (0 : Int32)) fl.val none) 4 fl.val (0 : Int32)) fl) rfl 5 (by decide) (hts _ (mC _ wd_33)) (fun _ h9 => h9) rfl (ty := .boolean) (by decide +kernel) rfl rfl (Nat.le_of_ble_eq_true rfl) (f' := (dcell kc a (sI (sI (sR (sI (sI d 2 fl.val ki) 3 fl.val (0 : Int32)) fl.val none) 4 fl.val (0 : Int32)) 5 fl.val (0 : Int32)))) (dw_5 fl (0 : Int32)) d_File_begin_42 (fun H locs hP hD hS => ?_)
      refine lv_aload_n hx hb d_File_begin_45 rfl (lv_at hl 0 rfl) ?_
      refine lv_iconst (v := 0) hx hb d_File_begin_46 (by decide) ?_
      refine ml_put (D := (dC, dI)) hx hb hts in_FC tyF tyF_ok nmF hown hK hP hD hS (fl.val + 3) (lt_file fl) (dc_file kc a (sI (sI (sR (sI (sI d 2 fl.val ki) 3 fl.val (0 : Int32)) fl.val none) 4 fl.val (0 : Int32)) 5 fl.val (0 : Int32)) fl) rfl 6 (by decide) (hts _ (mC _ wd_35)) (fun _ h9 => h9) rfl (ty := .int) (by decide +kernel) rfl rfl (Nat.le_of_ble_eq_true rfl) (f' := (dcell kc a (sI (sI (sI (sR (sI (sI d 2 fl.val ki) 3 fl.val (0 : Int32)) fl.val none) 4 fl.val (0 : Int32)) 5 fl.val (0 : Int32)) 6 fl.val (0 : Int32)))) (dw_6 fl (0 : Int32)) d_File_begin_47 (fun H locs hP hD hS => ?_)
      refine lv_aload_n hx hb d_File_begin_50 rfl (lv_at hl 0 rfl) ?_
      refine lv_iconst (v := 0) hx hb d_File_begin_51 (by decide) ?_
      refine ml_put (D := (dC, dI)) hx hb hts in_FC tyF tyF_ok nmF hown hK hP hD hS (fl.val + 3) (lt_file fl) (dc_file kc a (sI (sI (sI (sR (sI (sI d 2 fl.val ki) 3 fl.val (0 : Int32)) fl.val none) 4 fl.val (0 : Int32)) 5 fl.val (0 : Int32)) 6 fl.val (0 : Int32)) fl) rfl 7 (by decide) (hts _ (mC _ wd_37)) (fun _ h9 => h9) rfl (ty := .int) (by decide +kernel) rfl rfl (Nat.le_of_ble_eq_true rfl) (f' := (dcell kc a (sI (sI (sI (sI (sR (sI (sI d 2 fl.val ki) 3 fl.val (0 : Int32)) fl.val none) 4 fl.val (0 : Int32)) 5 fl.val (0 : Int32)) 6 fl.val (0 : Int32)) 7 fl.val (0 : Int32)))) (dw_7 fl (0 : Int32)) d_File_begin_52 (fun H locs hP hD hS => ?_)
      subst hres
      exact ml_vret hx hb hr hlocks hP hK hD hS d_File_begin_55
    · rw [if_neg h_2] at hres
      refine lv_iconst (v := 1) hx hb d_File_begin_37 (by decide) ?_
      refine lv_goto (tgt := 42) hx hb d_File_begin_38 (by decide) ?_
      refine ml_put (D := (dC, dI)) hx hb hts in_FC tyF tyF_ok nmF hown hK hP hD hS (fl.val + 3) (lt_file fl) (dc_file kc a (sI (sR (sI (sI d 2 fl.val ki) 3 fl.val (0 : Int32)) fl.val none) 4 fl.val (0 : Int32)) fl) rfl 5 (by decide) (hts _ (mC _ wd_33)) (fun _ h9 => h9) rfl (ty := .boolean) (by decide +kernel) rfl rfl (Nat.le_of_ble_eq_true rfl) (f' := (dcell kc a (sI (sI (sR (sI (sI d 2 fl.val ki) 3 fl.val (0 : Int32)) fl.val none) 4 fl.val (0 : Int32)) 5 fl.val (1 : Int32)))) (dw_5 fl (1 : Int32)) d_File_begin_42 (fun H locs hP hD hS => ?_)
      refine lv_aload_n hx hb d_File_begin_45 rfl (lv_at hl 0 rfl) ?_
      refine lv_iconst (v := 0) hx hb d_File_begin_46 (by decide) ?_
      refine ml_put (D := (dC, dI)) hx hb hts in_FC tyF tyF_ok nmF hown hK hP hD hS (fl.val + 3) (lt_file fl) (dc_file kc a (sI (sI (sR (sI (sI d 2 fl.val ki) 3 fl.val (0 : Int32)) fl.val none) 4 fl.val (0 : Int32)) 5 fl.val (1 : Int32)) fl) rfl 6 (by decide) (hts _ (mC _ wd_35)) (fun _ h9 => h9) rfl (ty := .int) (by decide +kernel) rfl rfl (Nat.le_of_ble_eq_true rfl) (f' := (dcell kc a (sI (sI (sI (sR (sI (sI d 2 fl.val ki) 3 fl.val (0 : Int32)) fl.val none) 4 fl.val (0 : Int32)) 5 fl.val (1 : Int32)) 6 fl.val (0 : Int32)))) (dw_6 fl (0 : Int32)) d_File_begin_47 (fun H locs hP hD hS => ?_)
      refine lv_aload_n hx hb d_File_begin_50 rfl (lv_at hl 0 rfl) ?_
      refine lv_iconst (v := 0) hx hb d_File_begin_51 (by decide) ?_
      refine ml_put (D := (dC, dI)) hx hb hts in_FC tyF tyF_ok nmF hown hK hP hD hS (fl.val + 3) (lt_file fl) (dc_file kc a (sI (sI (sI (sR (sI (sI d 2 fl.val ki) 3 fl.val (0 : Int32)) fl.val none) 4 fl.val (0 : Int32)) 5 fl.val (1 : Int32)) 6 fl.val (0 : Int32)) fl) rfl 7 (by decide) (hts _ (mC _ wd_37)) (fun _ h9 => h9) rfl (ty := .int) (by decide +kernel) rfl rfl (Nat.le_of_ble_eq_true rfl) (f' := (dcell kc a (sI (sI (sI (sI (sR (sI (sI d 2 fl.val ki) 3 fl.val (0 : Int32)) fl.val none) 4 fl.val (0 : Int32)) 5 fl.val (1 : Int32)) 6 fl.val (0 : Int32)) 7 fl.val (0 : Int32)))) (dw_7 fl (0 : Int32)) d_File_begin_52 (fun H locs hP hD hS => ?_)
      subst hres
      exact ml_vret hx hb hr hlocks hP hK hD hS d_File_begin_55
  · rw [if_neg h_1] at hres
    refine lv_iconst (v := 1) hx hb d_File_begin_22 (by decide) ?_
    refine lv_goto (tgt := 27) hx hb d_File_begin_23 (by decide) ?_
    refine ml_put (D := (dC, dI)) hx hb hts in_FC tyF tyF_ok nmF hown hK hP hD hS (fl.val + 3) (lt_file fl) (dc_file kc a (sR (sI (sI d 2 fl.val ki) 3 fl.val (0 : Int32)) fl.val none) fl) rfl 4 (by decide) (hts _ (mC _ wd_31)) (fun _ h9 => h9) rfl (ty := .boolean) (by decide +kernel) rfl rfl (Nat.le_of_ble_eq_true rfl) (f' := (dcell kc a (sI (sR (sI (sI d 2 fl.val ki) 3 fl.val (0 : Int32)) fl.val none) 4 fl.val (1 : Int32)))) (dw_4 fl (1 : Int32)) d_File_begin_27 (fun H locs hP hD hS => ?_)
    refine lv_aload_n hx hb d_File_begin_30 rfl (lv_at hl 0 rfl) ?_
    refine lv_iload_n hx hb d_File_begin_31 rfl (lv_at hl 2 rfl) ?_
    refine lv_iconst (v := 2) hx hb d_File_begin_32 (by decide) ?_
    refine lv_iand hx hb d_File_begin_33 ?_
    refine lv_if_eq (tgt := 41) hx hb d_File_begin_34 (by decide) (fun h_3 => ?_) (fun h_3 => ?_)
    · rw [if_pos h_3] at hres
      refine lv_iconst (v := 0) hx hb d_File_begin_41 (by decide) ?_
      refine ml_put (D := (dC, dI)) hx hb hts in_FC tyF tyF_ok nmF hown hK hP hD hS (fl.val + 3) (lt_file fl) (dc_file kc a (sI (sR (sI (sI d 2 fl.val ki) 3 fl.val (0 : Int32)) fl.val none) 4 fl.val (1 : Int32)) fl) rfl 5 (by decide) (hts _ (mC _ wd_33)) (fun _ h9 => h9) rfl (ty := .boolean) (by decide +kernel) rfl rfl (Nat.le_of_ble_eq_true rfl) (f' := (dcell kc a (sI (sI (sR (sI (sI d 2 fl.val ki) 3 fl.val (0 : Int32)) fl.val none) 4 fl.val (1 : Int32)) 5 fl.val (0 : Int32)))) (dw_5 fl (0 : Int32)) d_File_begin_42 (fun H locs hP hD hS => ?_)
      refine lv_aload_n hx hb d_File_begin_45 rfl (lv_at hl 0 rfl) ?_
      refine lv_iconst (v := 0) hx hb d_File_begin_46 (by decide) ?_
      refine ml_put (D := (dC, dI)) hx hb hts in_FC tyF tyF_ok nmF hown hK hP hD hS (fl.val + 3) (lt_file fl) (dc_file kc a (sI (sI (sR (sI (sI d 2 fl.val ki) 3 fl.val (0 : Int32)) fl.val none) 4 fl.val (1 : Int32)) 5 fl.val (0 : Int32)) fl) rfl 6 (by decide) (hts _ (mC _ wd_35)) (fun _ h9 => h9) rfl (ty := .int) (by decide +kernel) rfl rfl (Nat.le_of_ble_eq_true rfl) (f' := (dcell kc a (sI (sI (sI (sR (sI (sI d 2 fl.val ki) 3 fl.val (0 : Int32)) fl.val none) 4 fl.val (1 : Int32)) 5 fl.val (0 : Int32)) 6 fl.val (0 : Int32)))) (dw_6 fl (0 : Int32)) d_File_begin_47 (fun H locs hP hD hS => ?_)
      refine lv_aload_n hx hb d_File_begin_50 rfl (lv_at hl 0 rfl) ?_
      refine lv_iconst (v := 0) hx hb d_File_begin_51 (by decide) ?_
      refine ml_put (D := (dC, dI)) hx hb hts in_FC tyF tyF_ok nmF hown hK hP hD hS (fl.val + 3) (lt_file fl) (dc_file kc a (sI (sI (sI (sR (sI (sI d 2 fl.val ki) 3 fl.val (0 : Int32)) fl.val none) 4 fl.val (1 : Int32)) 5 fl.val (0 : Int32)) 6 fl.val (0 : Int32)) fl) rfl 7 (by decide) (hts _ (mC _ wd_37)) (fun _ h9 => h9) rfl (ty := .int) (by decide +kernel) rfl rfl (Nat.le_of_ble_eq_true rfl) (f' := (dcell kc a (sI (sI (sI (sI (sR (sI (sI d 2 fl.val ki) 3 fl.val (0 : Int32)) fl.val none) 4 fl.val (1 : Int32)) 5 fl.val (0 : Int32)) 6 fl.val (0 : Int32)) 7 fl.val (0 : Int32)))) (dw_7 fl (0 : Int32)) d_File_begin_52 (fun H locs hP hD hS => ?_)
      subst hres
      exact ml_vret hx hb hr hlocks hP hK hD hS d_File_begin_55
    · rw [if_neg h_3] at hres
      refine lv_iconst (v := 1) hx hb d_File_begin_37 (by decide) ?_
      refine lv_goto (tgt := 42) hx hb d_File_begin_38 (by decide) ?_
      refine ml_put (D := (dC, dI)) hx hb hts in_FC tyF tyF_ok nmF hown hK hP hD hS (fl.val + 3) (lt_file fl) (dc_file kc a (sI (sR (sI (sI d 2 fl.val ki) 3 fl.val (0 : Int32)) fl.val none) 4 fl.val (1 : Int32)) fl) rfl 5 (by decide) (hts _ (mC _ wd_33)) (fun _ h9 => h9) rfl (ty := .boolean) (by decide +kernel) rfl rfl (Nat.le_of_ble_eq_true rfl) (f' := (dcell kc a (sI (sI (sR (sI (sI d 2 fl.val ki) 3 fl.val (0 : Int32)) fl.val none) 4 fl.val (1 : Int32)) 5 fl.val (1 : Int32)))) (dw_5 fl (1 : Int32)) d_File_begin_42 (fun H locs hP hD hS => ?_)
      refine lv_aload_n hx hb d_File_begin_45 rfl (lv_at hl 0 rfl) ?_
      refine lv_iconst (v := 0) hx hb d_File_begin_46 (by decide) ?_
      refine ml_put (D := (dC, dI)) hx hb hts in_FC tyF tyF_ok nmF hown hK hP hD hS (fl.val + 3) (lt_file fl) (dc_file kc a (sI (sI (sR (sI (sI d 2 fl.val ki) 3 fl.val (0 : Int32)) fl.val none) 4 fl.val (1 : Int32)) 5 fl.val (1 : Int32)) fl) rfl 6 (by decide) (hts _ (mC _ wd_35)) (fun _ h9 => h9) rfl (ty := .int) (by decide +kernel) rfl rfl (Nat.le_of_ble_eq_true rfl) (f' := (dcell kc a (sI (sI (sI (sR (sI (sI d 2 fl.val ki) 3 fl.val (0 : Int32)) fl.val none) 4 fl.val (1 : Int32)) 5 fl.val (1 : Int32)) 6 fl.val (0 : Int32)))) (dw_6 fl (0 : Int32)) d_File_begin_47 (fun H locs hP hD hS => ?_)
      refine lv_aload_n hx hb d_File_begin_50 rfl (lv_at hl 0 rfl) ?_
      refine lv_iconst (v := 0) hx hb d_File_begin_51 (by decide) ?_
      refine ml_put (D := (dC, dI)) hx hb hts in_FC tyF tyF_ok nmF hown hK hP hD hS (fl.val + 3) (lt_file fl) (dc_file kc a (sI (sI (sI (sR (sI (sI d 2 fl.val ki) 3 fl.val (0 : Int32)) fl.val none) 4 fl.val (1 : Int32)) 5 fl.val (1 : Int32)) 6 fl.val (0 : Int32)) fl) rfl 7 (by decide) (hts _ (mC _ wd_37)) (fun _ h9 => h9) rfl (ty := .int) (by decide +kernel) rfl rfl (Nat.le_of_ble_eq_true rfl) (f' := (dcell kc a (sI (sI (sI (sI (sR (sI (sI d 2 fl.val ki) 3 fl.val (0 : Int32)) fl.val none) 4 fl.val (1 : Int32)) 5 fl.val (1 : Int32)) 6 fl.val (0 : Int32)) 7 fl.val (0 : Int32)))) (dw_7 fl (0 : Int32)) d_File_begin_52 (fun H locs hP hD hS => ?_)
      subst hres
      exact ml_vret hx hb hr hlocks hP hK hD hS d_File_begin_55
def sp_Pipe_begin (d : DK) (pk : Fin 8) : DK :=
  (sI (sI (sI (sI d 8 pk.val (0 : Int32)) 9 pk.val (0 : Int32)) 10 pk.val (1 : Int32)) 11 pk.val (1 : Int32))
abbrev rm_Pipe_begin : Room := { frames := 0, cells := 0, slots := 0, locals := 0 }
set_option maxHeartbeats 4000000 in
set_option maxRecDepth 100000 in
theorem c_Pipe_begin (l : Launch) (dC : Nat → ClassId) (dI : Nat → Nat → Nat) (kc : Nat → ClassId) (a : Nat → Nat) (sz : Nat) (d : DK) (pk : Fin 8) (d' : DK) (hres : sp_Pipe_begin d pk = d') : Met l y_Pipe_begin ws_Pipe_begin rm_Pipe_begin (va_Pc [.ref (a (2 * pk.val + 36))] (ml_B (dC, dI) vwCl (tysD kc) 57 a (dcell kc a d) sz)) (va_Qv (fun (_ : Unit) => True) (fun _ t => ml_E (dC, dI) vwCl (tysD kc) 57 a (dcell kc a d') (va_A (ml 57 a (dcell kc a d)) sz) t) (va_A (ml 57 a (dcell kc a d)) sz)) 0 0 (va_A (ml 57 a (dcell kc a d)) sz) := by
  refine Met.ofW (cc := prog_4_method_2_code) (maxL := 1) (ret := (none : Option Jvm.ClassFile.FieldType)) (by decide) rfl ?_
  intro p e s m args below meth c s₁ B hml hv
  obtain ⟨rfl, hsz, hP, hK, hD0⟩ := hv
  have hx := B.exec
  have hb := B.bytes
  have hr := B.returns
  have hts := atoms_spec (ws := ws_Pipe_begin) B.pre
  have hown : s.vm.findClass "HandleDesk$Pipe" = some m.cls := findClass_of_methodNamed B.named
  have hlocks := B.notSynchronized
  subst hsz
  have hD := hD0.self (sz := s.heap.size)
  generalize hAe : va_A (ml 57 a (dcell kc a d)) s.heap.size = A at hD ⊢
  have hA : ∀ q : Nat, s.heap.size ≤ q → A q := fun q h => by rw [← hAe]; exact Or.inr h
  have hS : va_S A s.heap s.heap [] := va_S.rf
  have hl := lv_entry ([.ref (a (2 * pk.val + 36))]) (n := 1) (Nat.le_of_ble_eq_true rfl)
  rw [lg_entry_eq]
  generalize (lg_sl ([.ref (a (2 * pk.val + 36))]) ++ List.replicate (1 - (lg_sl ([.ref (a (2 * pk.val + 36))])).length) Slot.unset).toArray = ls at hl ⊢
  have hl : lv_has ls 1 [(0, .ref (a (2 * pk.val + 36)))] := hl
  rw [sp_Pipe_begin] at hres
  refine lv_aload_n hx hb d_Pipe_begin_0 rfl (lv_at hl 0 rfl) ?_
  refine lv_iconst (v := 0) hx hb d_Pipe_begin_1 (by decide) ?_
  refine ml_put (D := (dC, dI)) hx hb hts in_PC tyP tyP_ok nmP hown hK hP hD hS (2 * pk.val + 36) (lt_pipe pk) (dc_pipe kc a d pk) rfl 2 (by decide) (hts _ (mC _ wd_66)) (fun _ h9 => h9) rfl (ty := .int) (by decide +kernel) rfl rfl (Nat.le_of_ble_eq_true rfl) (f' := (dcell kc a (sI d 8 pk.val (0 : Int32)))) (dw_8 pk (0 : Int32)) d_Pipe_begin_2 (fun H locs hP hD hS => ?_)
  refine lv_aload_n hx hb d_Pipe_begin_5 rfl (lv_at hl 0 rfl) ?_
  refine lv_iconst (v := 0) hx hb d_Pipe_begin_6 (by decide) ?_
  refine ml_put (D := (dC, dI)) hx hb hts in_PC tyP tyP_ok nmP hown hK hP hD hS (2 * pk.val + 36) (lt_pipe pk) (dc_pipe kc a (sI d 8 pk.val (0 : Int32)) pk) rfl 3 (by decide) (hts _ (mC _ wd_67)) (fun _ h9 => h9) rfl (ty := .int) (by decide +kernel) rfl rfl (Nat.le_of_ble_eq_true rfl) (f' := (dcell kc a (sI (sI d 8 pk.val (0 : Int32)) 9 pk.val (0 : Int32)))) (dw_9 pk (0 : Int32)) d_Pipe_begin_7 (fun H locs hP hD hS => ?_)
  refine lv_aload_n hx hb d_Pipe_begin_10 rfl (lv_at hl 0 rfl) ?_
  refine lv_iconst (v := 1) hx hb d_Pipe_begin_11 (by decide) ?_
  refine ml_put (D := (dC, dI)) hx hb hts in_PC tyP tyP_ok nmP hown hK hP hD hS (2 * pk.val + 36) (lt_pipe pk) (dc_pipe kc a (sI (sI d 8 pk.val (0 : Int32)) 9 pk.val (0 : Int32)) pk) rfl 4 (by decide) (hts _ (mC _ wd_69)) (fun _ h9 => h9) rfl (ty := .boolean) (by decide +kernel) rfl rfl (Nat.le_of_ble_eq_true rfl) (f' := (dcell kc a (sI (sI (sI d 8 pk.val (0 : Int32)) 9 pk.val (0 : Int32)) 10 pk.val (1 : Int32)))) (dw_10 pk (1 : Int32)) d_Pipe_begin_12 (fun H locs hP hD hS => ?_)
  refine lv_aload_n hx hb d_Pipe_begin_15 rfl (lv_at hl 0 rfl) ?_
  refine lv_iconst (v := 1) hx hb d_Pipe_begin_16 (by decide) ?_
  refine ml_put (D := (dC, dI)) hx hb hts in_PC tyP tyP_ok nmP hown hK hP hD hS (2 * pk.val + 36) (lt_pipe pk) (dc_pipe kc a (sI (sI (sI d 8 pk.val (0 : Int32)) 9 pk.val (0 : Int32)) 10 pk.val (1 : Int32)) pk) rfl 5 (by decide) (hts _ (mC _ wd_71)) (fun _ h9 => h9) rfl (ty := .boolean) (by decide +kernel) rfl rfl (Nat.le_of_ble_eq_true rfl) (f' := (dcell kc a (sI (sI (sI (sI d 8 pk.val (0 : Int32)) 9 pk.val (0 : Int32)) 10 pk.val (1 : Int32)) 11 pk.val (1 : Int32)))) (dw_11 pk (1 : Int32)) d_Pipe_begin_17 (fun H locs hP hD hS => ?_)
  subst hres
  exact ml_vret hx hb hr hlocks hP hK hD hS d_Pipe_begin_20
def sp_Pipe_isGone (d : DK) (pk : Fin 8) : Int32 :=
  (if d.1 10 pk.val = (0 : Int32) then (if d.1 11 pk.val = (0 : Int32) then (1 : Int32) else (0 : Int32)) else (0 : Int32))
abbrev rm_Pipe_isGone : Room := { frames := 0, cells := 0, slots := 0, locals := 0 }
set_option maxHeartbeats 4000000 in
set_option maxRecDepth 100000 in
theorem c_Pipe_isGone (l : Launch) (dC : Nat → ClassId) (dI : Nat → Nat → Nat) (kc : Nat → ClassId) (a : Nat → Nat) (sz : Nat) (d : DK) (pk : Fin 8) (R' : Int32) (hres : sp_Pipe_isGone d pk = R') : Met l y_Pipe_isGone ws_Pipe_isGone rm_Pipe_isGone (va_Pc [.ref (a (2 * pk.val + 36))] (ml_B (dC, dI) vwCl (tysD kc) 57 a (dcell kc a d) sz)) (va_Qi (fun r (_ : Unit) => r = R') (fun _ t => ml_E (dC, dI) vwCl (tysD kc) 57 a (dcell kc a d) (va_A (ml 57 a (dcell kc a d)) sz) t) (va_A (ml 57 a (dcell kc a d)) sz)) 0 0 (va_A (ml 57 a (dcell kc a d)) sz) := by
  refine Met.ofW (cc := prog_4_method_3_code) (maxL := 1) (ret := (some .boolean)) (by decide) rfl ?_
  intro p e s m args below meth c s₁ B hml hv
  obtain ⟨rfl, hsz, hP, hK, hD0⟩ := hv
  have hx := B.exec
  have hb := B.bytes
  have hr := B.returns
  have hts := atoms_spec (ws := ws_Pipe_isGone) B.pre
  have hown : s.vm.findClass "HandleDesk$Pipe" = some m.cls := findClass_of_methodNamed B.named
  have hlocks := B.notSynchronized
  subst hsz
  have hD := hD0.self (sz := s.heap.size)
  generalize hAe : va_A (ml 57 a (dcell kc a d)) s.heap.size = A at hD ⊢
  have hA : ∀ q : Nat, s.heap.size ≤ q → A q := fun q h => by rw [← hAe]; exact Or.inr h
  have hS : va_S A s.heap s.heap [] := va_S.rf
  have hl := lv_entry ([.ref (a (2 * pk.val + 36))]) (n := 1) (Nat.le_of_ble_eq_true rfl)
  rw [lg_entry_eq]
  generalize (lg_sl ([.ref (a (2 * pk.val + 36))]) ++ List.replicate (1 - (lg_sl ([.ref (a (2 * pk.val + 36))])).length) Slot.unset).toArray = ls at hl ⊢
  have hl : lv_has ls 1 [(0, .ref (a (2 * pk.val + 36)))] := hl
  rw [sp_Pipe_isGone] at hres
  refine lv_aload_n hx hb d_Pipe_isGone_0 rfl (lv_at hl 0 rfl) ?_
  refine ml_get (D := (dC, dI)) hx hb hts in_PC hown hK hP (2 * pk.val + 36) (lt_pipe pk) (dc_pipe kc a d pk) rfl 4 (by decide) (hts _ (mC _ wd_69)) (fun _ h9 => h9) (v := .int (d.1 10 pk.val)) rfl d_Pipe_isGone_1 ?_
  refine lv_if_ne (tgt := 18) hx hb d_Pipe_isGone_4 (by decide) (fun h_1 => ?_) (fun h_1 => ?_)
  · rw [if_neg h_1] at hres
    refine lv_iconst (v := 0) hx hb d_Pipe_isGone_18 (by decide) ?_
    subst hres
    exact ml_zret hx hb hr (by decide) hlocks hP hK hD hS d_Pipe_isGone_19
  · rw [if_pos h_1] at hres
    refine lv_aload_n hx hb d_Pipe_isGone_7 rfl (lv_at hl 0 rfl) ?_
    refine ml_get (D := (dC, dI)) hx hb hts in_PC hown hK hP (2 * pk.val + 36) (lt_pipe pk) (dc_pipe kc a d pk) rfl 5 (by decide) (hts _ (mC _ wd_71)) (fun _ h9 => h9) (v := .int (d.1 11 pk.val)) rfl d_Pipe_isGone_8 ?_
    refine lv_if_ne (tgt := 18) hx hb d_Pipe_isGone_11 (by decide) (fun h_2 => ?_) (fun h_2 => ?_)
    · rw [if_neg h_2] at hres
      refine lv_iconst (v := 0) hx hb d_Pipe_isGone_18 (by decide) ?_
      subst hres
      exact ml_zret hx hb hr (by decide) hlocks hP hK hD hS d_Pipe_isGone_19
    · rw [if_pos h_2] at hres
      refine lv_iconst (v := 1) hx hb d_Pipe_isGone_14 (by decide) ?_
      refine lv_goto (tgt := 19) hx hb d_Pipe_isGone_15 (by decide) ?_
      subst hres
      exact ml_zret hx hb hr (by decide) hlocks hP hK hD hS d_Pipe_isGone_19
def sp_Pipe_isFull (d : DK) (pk : Fin 8) : Int32 :=
  (if (d.1 9 pk.val) < (512 : Int32) then (0 : Int32) else (1 : Int32))
abbrev rm_Pipe_isFull : Room := { frames := 0, cells := 0, slots := 0, locals := 0 }
set_option maxHeartbeats 4000000 in
set_option maxRecDepth 100000 in
theorem c_Pipe_isFull (l : Launch) (dC : Nat → ClassId) (dI : Nat → Nat → Nat) (kc : Nat → ClassId) (a : Nat → Nat) (sz : Nat) (d : DK) (pk : Fin 8) (R' : Int32) (hres : sp_Pipe_isFull d pk = R') : Met l y_Pipe_isFull ws_Pipe_isFull rm_Pipe_isFull (va_Pc [.ref (a (2 * pk.val + 36))] (ml_B (dC, dI) vwCl (tysD kc) 57 a (dcell kc a d) sz)) (va_Qi (fun r (_ : Unit) => r = R') (fun _ t => ml_E (dC, dI) vwCl (tysD kc) 57 a (dcell kc a d) (va_A (ml 57 a (dcell kc a d)) sz) t) (va_A (ml 57 a (dcell kc a d)) sz)) 0 0 (va_A (ml 57 a (dcell kc a d)) sz) := by
  refine Met.ofW (cc := prog_4_method_4_code) (maxL := 1) (ret := (some .boolean)) (by decide) rfl ?_
  intro p e s m args below meth c s₁ B hml hv
  obtain ⟨rfl, hsz, hP, hK, hD0⟩ := hv
  have hx := B.exec
  have hb := B.bytes
  have hr := B.returns
  have hts := atoms_spec (ws := ws_Pipe_isFull) B.pre
  have hown : s.vm.findClass "HandleDesk$Pipe" = some m.cls := findClass_of_methodNamed B.named
  have hlocks := B.notSynchronized
  subst hsz
  have hD := hD0.self (sz := s.heap.size)
  generalize hAe : va_A (ml 57 a (dcell kc a d)) s.heap.size = A at hD ⊢
  have hA : ∀ q : Nat, s.heap.size ≤ q → A q := fun q h => by rw [← hAe]; exact Or.inr h
  have hS : va_S A s.heap s.heap [] := va_S.rf
  have hl := lv_entry ([.ref (a (2 * pk.val + 36))]) (n := 1) (Nat.le_of_ble_eq_true rfl)
  rw [lg_entry_eq]
  generalize (lg_sl ([.ref (a (2 * pk.val + 36))]) ++ List.replicate (1 - (lg_sl ([.ref (a (2 * pk.val + 36))])).length) Slot.unset).toArray = ls at hl ⊢
  have hl : lv_has ls 1 [(0, .ref (a (2 * pk.val + 36)))] := hl
  rw [sp_Pipe_isFull] at hres
  refine lv_aload_n hx hb d_Pipe_isFull_0 rfl (lv_at hl 0 rfl) ?_
  refine ml_get (D := (dC, dI)) hx hb hts in_PC hown hK hP (2 * pk.val + 36) (lt_pipe pk) (dc_pipe kc a d pk) rfl 3 (by decide) (hts _ (mC _ wd_67)) (fun _ h9 => h9) (v := .int (d.1 9 pk.val)) rfl d_Pipe_isFull_1 ?_
  refine lv_sipush (v := 512) hx hb d_Pipe_isFull_4 (by decide) ?_
  refine lv_icmp_lt (tgt := 14) hx hb d_Pipe_isFull_7 (by decide) (fun h_1 => ?_) (fun h_1 => ?_)
  · rw [if_pos h_1] at hres
    refine lv_iconst (v := 0) hx hb d_Pipe_isFull_14 (by decide) ?_
    subst hres
    exact ml_zret hx hb hr (by decide) hlocks hP hK hD hS d_Pipe_isFull_15
  · rw [if_neg h_1] at hres
    refine lv_iconst (v := 1) hx hb d_Pipe_isFull_10 (by decide) ?_
    refine lv_goto (tgt := 15) hx hb d_Pipe_isFull_11 (by decide) ?_
    subst hres
    exact ml_zret hx hb hr (by decide) hlocks hP hK hD hS d_Pipe_isFull_15
def sp_Pipe_endClosed (d : DK) (pk : Fin 8) (bt : Int32) : DK :=
  (if bt = (0 : Int32) then (sI d 11 pk.val (0 : Int32)) else (sI d 10 pk.val (0 : Int32)))
abbrev rm_Pipe_endClosed : Room := { frames := 0, cells := 0, slots := 0, locals := 0 }
set_option maxHeartbeats 4000000 in
set_option maxRecDepth 100000 in
theorem c_Pipe_endClosed (l : Launch) (dC : Nat → ClassId) (dI : Nat → Nat → Nat) (kc : Nat → ClassId) (a : Nat → Nat) (sz : Nat) (d : DK) (pk : Fin 8) (bt : Int32) (d' : DK) (hres : sp_Pipe_endClosed d pk bt = d') : Met l y_Pipe_endClosed ws_Pipe_endClosed rm_Pipe_endClosed (va_Pc [.ref (a (2 * pk.val + 36)), .int bt] (ml_B (dC, dI) vwCl (tysD kc) 57 a (dcell kc a d) sz)) (va_Qv (fun (_ : Unit) => True) (fun _ t => ml_E (dC, dI) vwCl (tysD kc) 57 a (dcell kc a d') (va_A (ml 57 a (dcell kc a d)) sz) t) (va_A (ml 57 a (dcell kc a d)) sz)) 0 0 (va_A (ml 57 a (dcell kc a d)) sz) := by
  refine Met.ofW (cc := prog_4_method_5_code) (maxL := 2) (ret := (none : Option Jvm.ClassFile.FieldType)) (by decide) rfl ?_
  intro p e s m args below meth c s₁ B hml hv
  obtain ⟨rfl, hsz, hP, hK, hD0⟩ := hv
  have hx := B.exec
  have hb := B.bytes
  have hr := B.returns
  have hts := atoms_spec (ws := ws_Pipe_endClosed) B.pre
  have hown : s.vm.findClass "HandleDesk$Pipe" = some m.cls := findClass_of_methodNamed B.named
  have hlocks := B.notSynchronized
  subst hsz
  have hD := hD0.self (sz := s.heap.size)
  generalize hAe : va_A (ml 57 a (dcell kc a d)) s.heap.size = A at hD ⊢
  have hA : ∀ q : Nat, s.heap.size ≤ q → A q := fun q h => by rw [← hAe]; exact Or.inr h
  have hS : va_S A s.heap s.heap [] := va_S.rf
  have hl := lv_entry ([.ref (a (2 * pk.val + 36)), .int bt]) (n := 2) (Nat.le_of_ble_eq_true rfl)
  rw [lg_entry_eq]
  generalize (lg_sl ([.ref (a (2 * pk.val + 36)), .int bt]) ++ List.replicate (2 - (lg_sl ([.ref (a (2 * pk.val + 36)), .int bt])).length) Slot.unset).toArray = ls at hl ⊢
  have hl : lv_has ls 2 [(0, .ref (a (2 * pk.val + 36))), (1, .int bt)] := hl
  rw [sp_Pipe_endClosed] at hres
  refine lv_iload_n hx hb d_Pipe_endClosed_0 rfl (lv_at hl 1 rfl) ?_
  refine lv_if_eq (tgt := 12) hx hb d_Pipe_endClosed_1 (by decide) (fun h_1 => ?_) (fun h_1 => ?_)
  · rw [if_pos h_1] at hres
    refine lv_aload_n hx hb d_Pipe_endClosed_12 rfl (lv_at hl 0 rfl) ?_
    refine lv_iconst (v := 0) hx hb d_Pipe_endClosed_13 (by decide) ?_
    refine ml_put (D := (dC, dI)) hx hb hts in_PC tyP tyP_ok nmP hown hK hP hD hS (2 * pk.val + 36) (lt_pipe pk) (dc_pipe kc a d pk) rfl 5 (by decide) (hts _ (mC _ wd_71)) (fun _ h9 => h9) rfl (ty := .boolean) (by decide +kernel) rfl rfl (Nat.le_of_ble_eq_true rfl) (f' := (dcell kc a (sI d 11 pk.val (0 : Int32)))) (dw_11 pk (0 : Int32)) d_Pipe_endClosed_14 (fun H locs hP hD hS => ?_)
    subst hres
    exact ml_vret hx hb hr hlocks hP hK hD hS d_Pipe_endClosed_17
  · rw [if_neg h_1] at hres
    refine lv_aload_n hx hb d_Pipe_endClosed_4 rfl (lv_at hl 0 rfl) ?_
    refine lv_iconst (v := 0) hx hb d_Pipe_endClosed_5 (by decide) ?_
    refine ml_put (D := (dC, dI)) hx hb hts in_PC tyP tyP_ok nmP hown hK hP hD hS (2 * pk.val + 36) (lt_pipe pk) (dc_pipe kc a d pk) rfl 4 (by decide) (hts _ (mC _ wd_69)) (fun _ h9 => h9) rfl (ty := .boolean) (by decide +kernel) rfl rfl (Nat.le_of_ble_eq_true rfl) (f' := (dcell kc a (sI d 10 pk.val (0 : Int32)))) (dw_10 pk (0 : Int32)) d_Pipe_endClosed_6 (fun H locs hP hD hS => ?_)
    refine lv_goto (tgt := 17) hx hb d_Pipe_endClosed_9 (by decide) ?_
    subst hres
    exact ml_vret hx hb hr hlocks hP hK hD hS d_Pipe_endClosed_17
def sp_Pipe_addLast (d : DK) (pk : Fin 8) (bt : Int32) : DK :=
  (sI (sI d (18 + pk.val) (((d.1 8 pk.val) + (d.1 9 pk.val)) &&& (511 : Int32)).toNatClampNeg (vp_nar .byte bt.toInt8.toInt32)) 9 pk.val (((sI d (18 + pk.val) (((d.1 8 pk.val) + (d.1 9 pk.val)) &&& (511 : Int32)).toNatClampNeg (vp_nar .byte bt.toInt8.toInt32)).1 9 pk.val) + (1 : Int32)))
abbrev rm_Pipe_addLast : Room := { frames := 0, cells := 0, slots := 0, locals := 0 }
set_option maxHeartbeats 4000000 in
set_option maxRecDepth 100000 in
theorem c_Pipe_addLast (l : Launch) (dC : Nat → ClassId) (dI : Nat → Nat → Nat) (kc : Nat → ClassId) (a : Nat → Nat) (sz : Nat) (d : DK) (pk : Fin 8) (bt : Int32) (d' : DK) (hres : sp_Pipe_addLast d pk bt = d') : Met l y_Pipe_addLast ws_Pipe_addLast rm_Pipe_addLast (va_Pc [.ref (a (2 * pk.val + 36)), .int bt] (ml_B (dC, dI) vwCl (tysD kc) 57 a (dcell kc a d) sz)) (va_Qv (fun (_ : Unit) => True) (fun _ t => ml_E (dC, dI) vwCl (tysD kc) 57 a (dcell kc a d') (va_A (ml 57 a (dcell kc a d)) sz) t) (va_A (ml 57 a (dcell kc a d)) sz)) 0 0 (va_A (ml 57 a (dcell kc a d)) sz) := by
  refine Met.ofW (cc := prog_4_method_6_code) (maxL := 2) (ret := (none : Option Jvm.ClassFile.FieldType)) (by decide) rfl ?_
  intro p e s m args below meth c s₁ B hml hv
  obtain ⟨rfl, hsz, hP, hK, hD0⟩ := hv
  have hx := B.exec
  have hb := B.bytes
  have hr := B.returns
  have hts := atoms_spec (ws := ws_Pipe_addLast) B.pre
  have hown : s.vm.findClass "HandleDesk$Pipe" = some m.cls := findClass_of_methodNamed B.named
  have hlocks := B.notSynchronized
  subst hsz
  have hD := hD0.self (sz := s.heap.size)
  generalize hAe : va_A (ml 57 a (dcell kc a d)) s.heap.size = A at hD ⊢
  have hA : ∀ q : Nat, s.heap.size ≤ q → A q := fun q h => by rw [← hAe]; exact Or.inr h
  have hS : va_S A s.heap s.heap [] := va_S.rf
  have hl := lv_entry ([.ref (a (2 * pk.val + 36)), .int bt]) (n := 2) (Nat.le_of_ble_eq_true rfl)
  rw [lg_entry_eq]
  generalize (lg_sl ([.ref (a (2 * pk.val + 36)), .int bt]) ++ List.replicate (2 - (lg_sl ([.ref (a (2 * pk.val + 36)), .int bt])).length) Slot.unset).toArray = ls at hl ⊢
  have hl : lv_has ls 2 [(0, .ref (a (2 * pk.val + 36))), (1, .int bt)] := hl
  rw [sp_Pipe_addLast] at hres
  refine lv_aload_n hx hb d_Pipe_addLast_0 rfl (lv_at hl 0 rfl) ?_
  refine ml_get (D := (dC, dI)) hx hb hts in_PC hown hK hP (2 * pk.val + 36) (lt_pipe pk) (dc_pipe kc a d pk) rfl 1 (by decide) (hts _ (mC _ wd_65)) (fun _ h9 => h9) (v := .ref (a (2 * pk.val + 37))) rfl d_Pipe_addLast_1 ?_
  refine lv_aload_n hx hb d_Pipe_addLast_4 rfl (lv_at hl 0 rfl) ?_
  refine ml_get (D := (dC, dI)) hx hb hts in_PC hown hK hP (2 * pk.val + 36) (lt_pipe pk) (dc_pipe kc a d pk) rfl 2 (by decide) (hts _ (mC _ wd_66)) (fun _ h9 => h9) (v := .int (d.1 8 pk.val)) rfl d_Pipe_addLast_5 ?_
  refine lv_aload_n hx hb d_Pipe_addLast_8 rfl (lv_at hl 0 rfl) ?_
  refine ml_get (D := (dC, dI)) hx hb hts in_PC hown hK hP (2 * pk.val + 36) (lt_pipe pk) (dc_pipe kc a d pk) rfl 3 (by decide) (hts _ (mC _ wd_67)) (fun _ h9 => h9) (v := .int (d.1 9 pk.val)) rfl d_Pipe_addLast_9 ?_
  refine lv_iadd hx hb d_Pipe_addLast_12 ?_
  refine lv_sipush (v := 511) hx hb d_Pipe_addLast_13 (by decide) ?_
  refine lv_iand hx hb d_Pipe_addLast_16 ?_
  refine lv_iload_n hx hb d_Pipe_addLast_17 rfl (lv_at hl 1 rfl) ?_
  refine lv_i2b (v := bt.toInt8.toInt32) hx hb d_Pipe_addLast_18 rfl ?_
  refine ml_bast hx hb hK hP hD hS (2 * pk.val + 37) 1 (lt_ring pk) (dc_ring kc a d pk) rfl (pk_andIn _ 9 (by decide) (by decide)) (f' := (dcell kc a (sI d (18 + pk.val) (((d.1 8 pk.val) + (d.1 9 pk.val)) &&& (511 : Int32)).toNatClampNeg (vp_nar .byte bt.toInt8.toInt32)))) (dw_ring pk (((d.1 8 pk.val) + (d.1 9 pk.val)) &&& (511 : Int32)).toNatClampNeg (vp_nar .byte bt.toInt8.toInt32)) d_Pipe_addLast_19 (fun H locs hP hD hS => ?_)
  refine lv_aload_n hx hb d_Pipe_addLast_20 rfl (lv_at hl 0 rfl) ?_
  refine lv_dup hx hb d_Pipe_addLast_21 rfl ?_
  refine ml_get (D := (dC, dI)) hx hb hts in_PC hown hK hP (2 * pk.val + 36) (lt_pipe pk) (dc_pipe kc a (sI d (18 + pk.val) (((d.1 8 pk.val) + (d.1 9 pk.val)) &&& (511 : Int32)).toNatClampNeg (vp_nar .byte bt.toInt8.toInt32)) pk) rfl 3 (by decide) (hts _ (mC _ wd_67)) (fun _ h9 => h9) (v := .int ((sI d (18 + pk.val) (((d.1 8 pk.val) + (d.1 9 pk.val)) &&& (511 : Int32)).toNatClampNeg (vp_nar .byte bt.toInt8.toInt32)).1 9 pk.val)) rfl d_Pipe_addLast_22 ?_
  refine lv_iconst (v := 1) hx hb d_Pipe_addLast_25 (by decide) ?_
  refine lv_iadd hx hb d_Pipe_addLast_26 ?_
  refine ml_put (D := (dC, dI)) hx hb hts in_PC tyP tyP_ok nmP hown hK hP hD hS (2 * pk.val + 36) (lt_pipe pk) (dc_pipe kc a (sI d (18 + pk.val) (((d.1 8 pk.val) + (d.1 9 pk.val)) &&& (511 : Int32)).toNatClampNeg (vp_nar .byte bt.toInt8.toInt32)) pk) rfl 3 (by decide) (hts _ (mC _ wd_67)) (fun _ h9 => h9) rfl (ty := .int) (by decide +kernel) rfl rfl (Nat.le_of_ble_eq_true rfl) (f' := (dcell kc a (sI (sI d (18 + pk.val) (((d.1 8 pk.val) + (d.1 9 pk.val)) &&& (511 : Int32)).toNatClampNeg (vp_nar .byte bt.toInt8.toInt32)) 9 pk.val (((sI d (18 + pk.val) (((d.1 8 pk.val) + (d.1 9 pk.val)) &&& (511 : Int32)).toNatClampNeg (vp_nar .byte bt.toInt8.toInt32)).1 9 pk.val) + (1 : Int32))))) (dw_9 pk (((sI d (18 + pk.val) (((d.1 8 pk.val) + (d.1 9 pk.val)) &&& (511 : Int32)).toNatClampNeg (vp_nar .byte bt.toInt8.toInt32)).1 9 pk.val) + (1 : Int32))) d_Pipe_addLast_27 (fun H locs hP hD hS => ?_)
  subst hres
  exact ml_vret hx hb hr hlocks hP hK hD hS d_Pipe_addLast_30
def sp_Pipe_removeFirst (d : DK) (pk : Fin 8) : Int32 × DK :=
  ((d.1 (18 + pk.val) ((d.1 8 pk.val) &&& (511 : Int32)).toNatClampNeg) &&& (255 : Int32), sI (sI d 8 pk.val (((d.1 8 pk.val) + (1 : Int32)) &&& (511 : Int32))) 9 pk.val (((sI d 8 pk.val (((d.1 8 pk.val) + (1 : Int32)) &&& (511 : Int32))).1 9 pk.val) - (1 : Int32)))
abbrev rm_Pipe_removeFirst : Room := { frames := 0, cells := 0, slots := 0, locals := 0 }
set_option maxHeartbeats 4000000 in
set_option maxRecDepth 100000 in
theorem c_Pipe_removeFirst (l : Launch) (dC : Nat → ClassId) (dI : Nat → Nat → Nat) (kc : Nat → ClassId) (a : Nat → Nat) (sz : Nat) (d : DK) (pk : Fin 8) (R' : Int32) (d' : DK) (hres : sp_Pipe_removeFirst d pk = (R', d')) : Met l y_Pipe_removeFirst ws_Pipe_removeFirst rm_Pipe_removeFirst (va_Pc [.ref (a (2 * pk.val + 36))] (ml_B (dC, dI) vwCl (tysD kc) 57 a (dcell kc a d) sz)) (va_Qi (fun r (_ : Unit) => r = R') (fun _ t => ml_E (dC, dI) vwCl (tysD kc) 57 a (dcell kc a d') (va_A (ml 57 a (dcell kc a d)) sz) t) (va_A (ml 57 a (dcell kc a d)) sz)) 0 0 (va_A (ml 57 a (dcell kc a d)) sz) := by
  refine Met.ofW (cc := prog_4_method_7_code) (maxL := 2) (ret := (some .int)) (by decide) rfl ?_
  intro p e s m args below meth c s₁ B hml hv
  obtain ⟨rfl, hsz, hP, hK, hD0⟩ := hv
  have hx := B.exec
  have hb := B.bytes
  have hr := B.returns
  have hts := atoms_spec (ws := ws_Pipe_removeFirst) B.pre
  have hown : s.vm.findClass "HandleDesk$Pipe" = some m.cls := findClass_of_methodNamed B.named
  have hlocks := B.notSynchronized
  subst hsz
  have hD := hD0.self (sz := s.heap.size)
  generalize hAe : va_A (ml 57 a (dcell kc a d)) s.heap.size = A at hD ⊢
  have hA : ∀ q : Nat, s.heap.size ≤ q → A q := fun q h => by rw [← hAe]; exact Or.inr h
  have hS : va_S A s.heap s.heap [] := va_S.rf
  have hl := lv_entry ([.ref (a (2 * pk.val + 36))]) (n := 2) (Nat.le_of_ble_eq_true rfl)
  rw [lg_entry_eq]
  generalize (lg_sl ([.ref (a (2 * pk.val + 36))]) ++ List.replicate (2 - (lg_sl ([.ref (a (2 * pk.val + 36))])).length) Slot.unset).toArray = ls at hl ⊢
  have hl : lv_has ls 2 [(0, .ref (a (2 * pk.val + 36)))] := hl
  rw [sp_Pipe_removeFirst] at hres
  refine lv_aload_n hx hb d_Pipe_removeFirst_0 rfl (lv_at hl 0 rfl) ?_
  refine ml_get (D := (dC, dI)) hx hb hts in_PC hown hK hP (2 * pk.val + 36) (lt_pipe pk) (dc_pipe kc a d pk) rfl 1 (by decide) (hts _ (mC _ wd_65)) (fun _ h9 => h9) (v := .ref (a (2 * pk.val + 37))) rfl d_Pipe_removeFirst_1 ?_
  refine lv_aload_n hx hb d_Pipe_removeFirst_4 rfl (lv_at hl 0 rfl) ?_
  refine ml_get (D := (dC, dI)) hx hb hts in_PC hown hK hP (2 * pk.val + 36) (lt_pipe pk) (dc_pipe kc a d pk) rfl 2 (by decide) (hts _ (mC _ wd_66)) (fun _ h9 => h9) (v := .int (d.1 8 pk.val)) rfl d_Pipe_removeFirst_5 ?_
  refine lv_sipush (v := 511) hx hb d_Pipe_removeFirst_8 (by decide) ?_
  refine lv_iand hx hb d_Pipe_removeFirst_11 ?_
  refine ml_bald hx hb hK hP (2 * pk.val + 37) 1 (lt_ring pk) (dc_ring kc a d pk) rfl (pk_andIn _ 9 (by decide) (by decide)) d_Pipe_removeFirst_12 ?_
  refine lv_sipush (v := 255) hx hb d_Pipe_removeFirst_13 (by decide) ?_
  refine lv_iand hx hb d_Pipe_removeFirst_16 ?_
  refine lv_istore_n (lv' := [(1, .int ((d.1 (18 + pk.val) ((d.1 8 pk.val) &&& (511 : Int32)).toNatClampNeg) &&& (255 : Int32))), (0, .ref (a (2 * pk.val + 36)))]) hx hb d_Pipe_removeFirst_17 rfl hl (by decide) rfl (fun ls hl => ?_)
  refine lv_aload_n hx hb d_Pipe_removeFirst_18 rfl (lv_at hl 1 rfl) ?_
  refine lv_aload_n hx hb d_Pipe_removeFirst_19 rfl (lv_at hl 1 rfl) ?_
  refine ml_get (D := (dC, dI)) hx hb hts in_PC hown hK hP (2 * pk.val + 36) (lt_pipe pk) (dc_pipe kc a d pk) rfl 2 (by decide) (hts _ (mC _ wd_66)) (fun _ h9 => h9) (v := .int (d.1 8 pk.val)) rfl d_Pipe_removeFirst_20 ?_
  refine lv_iconst (v := 1) hx hb d_Pipe_removeFirst_23 (by decide) ?_
  refine lv_iadd hx hb d_Pipe_removeFirst_24 ?_
  refine lv_sipush (v := 511) hx hb d_Pipe_removeFirst_25 (by decide) ?_
  refine lv_iand hx hb d_Pipe_removeFirst_28 ?_
  refine ml_put (D := (dC, dI)) hx hb hts in_PC tyP tyP_ok nmP hown hK hP hD hS (2 * pk.val + 36) (lt_pipe pk) (dc_pipe kc a d pk) rfl 2 (by decide) (hts _ (mC _ wd_66)) (fun _ h9 => h9) rfl (ty := .int) (by decide +kernel) rfl rfl (Nat.le_of_ble_eq_true rfl) (f' := (dcell kc a (sI d 8 pk.val (((d.1 8 pk.val) + (1 : Int32)) &&& (511 : Int32))))) (dw_8 pk (((d.1 8 pk.val) + (1 : Int32)) &&& (511 : Int32))) d_Pipe_removeFirst_29 (fun H locs hP hD hS => ?_)
  refine lv_aload_n hx hb d_Pipe_removeFirst_32 rfl (lv_at hl 1 rfl) ?_
  refine lv_dup hx hb d_Pipe_removeFirst_33 rfl ?_
  refine ml_get (D := (dC, dI)) hx hb hts in_PC hown hK hP (2 * pk.val + 36) (lt_pipe pk) (dc_pipe kc a (sI d 8 pk.val (((d.1 8 pk.val) + (1 : Int32)) &&& (511 : Int32))) pk) rfl 3 (by decide) (hts _ (mC _ wd_67)) (fun _ h9 => h9) (v := .int ((sI d 8 pk.val (((d.1 8 pk.val) + (1 : Int32)) &&& (511 : Int32))).1 9 pk.val)) rfl d_Pipe_removeFirst_34 ?_
  refine lv_iconst (v := 1) hx hb d_Pipe_removeFirst_37 (by decide) ?_
  refine lv_isub hx hb d_Pipe_removeFirst_38 ?_
  refine ml_put (D := (dC, dI)) hx hb hts in_PC tyP tyP_ok nmP hown hK hP hD hS (2 * pk.val + 36) (lt_pipe pk) (dc_pipe kc a (sI d 8 pk.val (((d.1 8 pk.val) + (1 : Int32)) &&& (511 : Int32))) pk) rfl 3 (by decide) (hts _ (mC _ wd_67)) (fun _ h9 => h9) rfl (ty := .int) (by decide +kernel) rfl rfl (Nat.le_of_ble_eq_true rfl) (f' := (dcell kc a (sI (sI d 8 pk.val (((d.1 8 pk.val) + (1 : Int32)) &&& (511 : Int32))) 9 pk.val (((sI d 8 pk.val (((d.1 8 pk.val) + (1 : Int32)) &&& (511 : Int32))).1 9 pk.val) - (1 : Int32))))) (dw_9 pk (((sI d 8 pk.val (((d.1 8 pk.val) + (1 : Int32)) &&& (511 : Int32))).1 9 pk.val) - (1 : Int32))) d_Pipe_removeFirst_39 (fun H locs hP hD hS => ?_)
  refine lv_iload_n hx hb d_Pipe_removeFirst_42 rfl (lv_at hl 0 rfl) ?_
  obtain ⟨rfl, rfl⟩ := Prod.mk.inj hres
  exact ml_iret hx hb hr hlocks hP hK hD hS d_Pipe_removeFirst_43
end
section
def sp_Con_isFull (d : DK)  : Int32 :=
  (if (d.1 14 0) < (128 : Int32) then (0 : Int32) else (1 : Int32))
abbrev rm_Con_isFull : Room := { frames := 0, cells := 0, slots := 0, locals := 0 }
set_option maxHeartbeats 4000000 in
set_option maxRecDepth 100000 in
theorem c_Con_isFull (l : Launch) (dC : Nat → ClassId) (dI : Nat → Nat → Nat) (kc : Nat → ClassId) (a : Nat → Nat) (sz : Nat) (d : DK) (R' : Int32) (hres : sp_Con_isFull d = R') : Met l y_Con_isFull ws_Con_isFull rm_Con_isFull (va_Pc [.ref (a 53)] (ml_B (dC, dI) vwCl (tysD kc) 57 a (dcell kc a d) sz)) (va_Qi (fun r (_ : Unit) => r = R') (fun _ t => ml_E (dC, dI) vwCl (tysD kc) 57 a (dcell kc a d) (va_A (ml 57 a (dcell kc a d)) sz) t) (va_A (ml 57 a (dcell kc a d)) sz)) 0 0 (va_A (ml 57 a (dcell kc a d)) sz) := by
  refine Met.ofW (cc := prog_2_method_2_code) (maxL := 1) (ret := (some .boolean)) (by decide) rfl ?_
  intro p e s m args below meth c s₁ B hml hv
  obtain ⟨rfl, hsz, hP, hK, hD0⟩ := hv
  have hx := B.exec
  have hb := B.bytes
  have hr := B.returns
  have hts := atoms_spec (ws := ws_Con_isFull) B.pre
  have hown : s.vm.findClass "HandleDesk$Console" = some m.cls := findClass_of_methodNamed B.named
  have hlocks := B.notSynchronized
  subst hsz
  have hD := hD0.self (sz := s.heap.size)
  generalize hAe : va_A (ml 57 a (dcell kc a d)) s.heap.size = A at hD ⊢
  have hA : ∀ q : Nat, s.heap.size ≤ q → A q := fun q h => by rw [← hAe]; exact Or.inr h
  have hS : va_S A s.heap s.heap [] := va_S.rf
  have hl := lv_entry ([.ref (a 53)]) (n := 1) (Nat.le_of_ble_eq_true rfl)
  rw [lg_entry_eq]
  generalize (lg_sl ([.ref (a 53)]) ++ List.replicate (1 - (lg_sl ([.ref (a 53)])).length) Slot.unset).toArray = ls at hl ⊢
  have hl : lv_has ls 1 [(0, .ref (a 53))] := hl
  rw [sp_Con_isFull] at hres
  refine lv_aload_n hx hb d_Con_isFull_0 rfl (lv_at hl 0 rfl) ?_
  refine ml_get (D := (dC, dI)) hx hb hts in_CC hown hK hP (53) (by decide) (dc_con kc a d) rfl 3 (by decide) (hts _ (mC _ wd_97)) (fun _ h9 => h9) (v := .int (d.1 14 0)) rfl d_Con_isFull_1 ?_
  refine lv_sipush (v := 128) hx hb d_Con_isFull_4 (by decide) ?_
  refine lv_icmp_lt (tgt := 14) hx hb d_Con_isFull_7 (by decide) (fun h_1 => ?_) (fun h_1 => ?_)
  · rw [if_pos h_1] at hres
    refine lv_iconst (v := 0) hx hb d_Con_isFull_14 (by decide) ?_
    subst hres
    exact ml_zret hx hb hr (by decide) hlocks hP hK hD hS d_Con_isFull_15
  · rw [if_neg h_1] at hres
    refine lv_iconst (v := 1) hx hb d_Con_isFull_10 (by decide) ?_
    refine lv_goto (tgt := 15) hx hb d_Con_isFull_11 (by decide) ?_
    subst hres
    exact ml_zret hx hb hr (by decide) hlocks hP hK hD hS d_Con_isFull_15
def sp_Con_lineLength (d : DK)  : Int32 :=
  ((d.1 14 0) - (d.1 13 0))
abbrev rm_Con_lineLength : Room := { frames := 0, cells := 0, slots := 0, locals := 0 }
set_option maxHeartbeats 4000000 in
set_option maxRecDepth 100000 in
theorem c_Con_lineLength (l : Launch) (dC : Nat → ClassId) (dI : Nat → Nat → Nat) (kc : Nat → ClassId) (a : Nat → Nat) (sz : Nat) (d : DK) (R' : Int32) (hres : sp_Con_lineLength d = R') : Met l y_Con_lineLength ws_Con_lineLength rm_Con_lineLength (va_Pc [.ref (a 53)] (ml_B (dC, dI) vwCl (tysD kc) 57 a (dcell kc a d) sz)) (va_Qi (fun r (_ : Unit) => r = R') (fun _ t => ml_E (dC, dI) vwCl (tysD kc) 57 a (dcell kc a d) (va_A (ml 57 a (dcell kc a d)) sz) t) (va_A (ml 57 a (dcell kc a d)) sz)) 0 0 (va_A (ml 57 a (dcell kc a d)) sz) := by
  refine Met.ofW (cc := prog_2_method_3_code) (maxL := 1) (ret := (some .int)) (by decide) rfl ?_
  intro p e s m args below meth c s₁ B hml hv
  obtain ⟨rfl, hsz, hP, hK, hD0⟩ := hv
  have hx := B.exec
  have hb := B.bytes
  have hr := B.returns
  have hts := atoms_spec (ws := ws_Con_lineLength) B.pre
  have hown : s.vm.findClass "HandleDesk$Console" = some m.cls := findClass_of_methodNamed B.named
  have hlocks := B.notSynchronized
  subst hsz
  have hD := hD0.self (sz := s.heap.size)
  generalize hAe : va_A (ml 57 a (dcell kc a d)) s.heap.size = A at hD ⊢
  have hA : ∀ q : Nat, s.heap.size ≤ q → A q := fun q h => by rw [← hAe]; exact Or.inr h
  have hS : va_S A s.heap s.heap [] := va_S.rf
  have hl := lv_entry ([.ref (a 53)]) (n := 1) (Nat.le_of_ble_eq_true rfl)
  rw [lg_entry_eq]
  generalize (lg_sl ([.ref (a 53)]) ++ List.replicate (1 - (lg_sl ([.ref (a 53)])).length) Slot.unset).toArray = ls at hl ⊢
  have hl : lv_has ls 1 [(0, .ref (a 53))] := hl
  rw [sp_Con_lineLength] at hres
  refine lv_aload_n hx hb d_Con_lineLength_0 rfl (lv_at hl 0 rfl) ?_
  refine ml_get (D := (dC, dI)) hx hb hts in_CC hown hK hP (53) (by decide) (dc_con kc a d) rfl 3 (by decide) (hts _ (mC _ wd_97)) (fun _ h9 => h9) (v := .int (d.1 14 0)) rfl d_Con_lineLength_1 ?_
  refine lv_aload_n hx hb d_Con_lineLength_4 rfl (lv_at hl 0 rfl) ?_
  refine ml_get (D := (dC, dI)) hx hb hts in_CC hown hK hP (53) (by decide) (dc_con kc a d) rfl 2 (by decide) (hts _ (mC _ wd_95)) (fun _ h9 => h9) (v := .int (d.1 13 0)) rfl d_Con_lineLength_5 ?_
  refine lv_isub hx hb d_Con_lineLength_8 ?_
  subst hres
  exact ml_iret hx hb hr hlocks hP hK hD hS d_Con_lineLength_9
def sp_Con_addToLine (d : DK) (bt : Int32) : DK :=
  (if bt = (10 : Int32) then (sI (sI (sI d 15 (((d.1 12 0) + (d.1 14 0)) &&& (127 : Int32)).toNatClampNeg (vp_nar .byte bt.toInt8.toInt32)) 14 0 (((sI d 15 (((d.1 12 0) + (d.1 14 0)) &&& (127 : Int32)).toNatClampNeg (vp_nar .byte bt.toInt8.toInt32)).1 14 0) + (1 : Int32))) 13 0 ((sI (sI d 15 (((d.1 12 0) + (d.1 14 0)) &&& (127 : Int32)).toNatClampNeg (vp_nar .byte bt.toInt8.toInt32)) 14 0 (((sI d 15 (((d.1 12 0) + (d.1 14 0)) &&& (127 : Int32)).toNatClampNeg (vp_nar .byte bt.toInt8.toInt32)).1 14 0) + (1 : Int32))).1 14 0)) else (if bt = (4 : Int32) then (sI (sI (sI d 15 (((d.1 12 0) + (d.1 14 0)) &&& (127 : Int32)).toNatClampNeg (vp_nar .byte bt.toInt8.toInt32)) 14 0 (((sI d 15 (((d.1 12 0) + (d.1 14 0)) &&& (127 : Int32)).toNatClampNeg (vp_nar .byte bt.toInt8.toInt32)).1 14 0) + (1 : Int32))) 13 0 ((sI (sI d 15 (((d.1 12 0) + (d.1 14 0)) &&& (127 : Int32)).toNatClampNeg (vp_nar .byte bt.toInt8.toInt32)) 14 0 (((sI d 15 (((d.1 12 0) + (d.1 14 0)) &&& (127 : Int32)).toNatClampNeg (vp_nar .byte bt.toInt8.toInt32)).1 14 0) + (1 : Int32))).1 14 0)) else (if (sp_Con_isFull (sI (sI d 15 (((d.1 12 0) + (d.1 14 0)) &&& (127 : Int32)).toNatClampNeg (vp_nar .byte bt.toInt8.toInt32)) 14 0 (((sI d 15 (((d.1 12 0) + (d.1 14 0)) &&& (127 : Int32)).toNatClampNeg (vp_nar .byte bt.toInt8.toInt32)).1 14 0) + (1 : Int32)))) = (0 : Int32) then (sI (sI d 15 (((d.1 12 0) + (d.1 14 0)) &&& (127 : Int32)).toNatClampNeg (vp_nar .byte bt.toInt8.toInt32)) 14 0 (((sI d 15 (((d.1 12 0) + (d.1 14 0)) &&& (127 : Int32)).toNatClampNeg (vp_nar .byte bt.toInt8.toInt32)).1 14 0) + (1 : Int32))) else (sI (sI (sI d 15 (((d.1 12 0) + (d.1 14 0)) &&& (127 : Int32)).toNatClampNeg (vp_nar .byte bt.toInt8.toInt32)) 14 0 (((sI d 15 (((d.1 12 0) + (d.1 14 0)) &&& (127 : Int32)).toNatClampNeg (vp_nar .byte bt.toInt8.toInt32)).1 14 0) + (1 : Int32))) 13 0 ((sI (sI d 15 (((d.1 12 0) + (d.1 14 0)) &&& (127 : Int32)).toNatClampNeg (vp_nar .byte bt.toInt8.toInt32)) 14 0 (((sI d 15 (((d.1 12 0) + (d.1 14 0)) &&& (127 : Int32)).toNatClampNeg (vp_nar .byte bt.toInt8.toInt32)).1 14 0) + (1 : Int32))).1 14 0)))))
abbrev rm_Con_addToLine : Room := { frames := 1, cells := 0, slots := 0, locals := 20 }
set_option maxHeartbeats 4000000 in
set_option maxRecDepth 100000 in
theorem c_Con_addToLine (l : Launch) (dC : Nat → ClassId) (dI : Nat → Nat → Nat) (kc : Nat → ClassId) (a : Nat → Nat) (sz : Nat) (d : DK) (bt : Int32) (d' : DK) (hres : sp_Con_addToLine d bt = d') : Met l y_Con_addToLine ws_Con_addToLine rm_Con_addToLine (va_Pc [.ref (a 53), .int bt] (ml_B (dC, dI) vwCl (tysD kc) 57 a (dcell kc a d) sz)) (va_Qv (fun (_ : Unit) => True) (fun _ t => ml_E (dC, dI) vwCl (tysD kc) 57 a (dcell kc a d') (va_A (ml 57 a (dcell kc a d)) sz) t) (va_A (ml 57 a (dcell kc a d)) sz)) 0 0 (va_A (ml 57 a (dcell kc a d)) sz) := by
  refine Met.ofW (cc := prog_2_method_4_code) (maxL := 2) (ret := (none : Option Jvm.ClassFile.FieldType)) (by decide) rfl ?_
  intro p e s m args below meth c s₁ B hml hv
  obtain ⟨rfl, hsz, hP, hK, hD0⟩ := hv
  have hx := B.exec
  have hb := B.bytes
  have hr := B.returns
  have hts := atoms_spec (ws := ws_Con_addToLine) B.pre
  have hown : s.vm.findClass "HandleDesk$Console" = some m.cls := findClass_of_methodNamed B.named
  have hlocks := B.notSynchronized
  subst hsz
  have hD := hD0.self (sz := s.heap.size)
  generalize hAe : va_A (ml 57 a (dcell kc a d)) s.heap.size = A at hD ⊢
  have hA : ∀ q : Nat, s.heap.size ≤ q → A q := fun q h => by rw [← hAe]; exact Or.inr h
  have hS : va_S A s.heap s.heap [] := va_S.rf
  have hl := lv_entry ([.ref (a 53), .int bt]) (n := 2) (Nat.le_of_ble_eq_true rfl)
  rw [lg_entry_eq]
  generalize (lg_sl ([.ref (a 53), .int bt]) ++ List.replicate (2 - (lg_sl ([.ref (a 53), .int bt])).length) Slot.unset).toArray = ls at hl ⊢
  have hl : lv_has ls 2 [(0, .ref (a 53)), (1, .int bt)] := hl
  rw [sp_Con_addToLine] at hres
  refine lv_aload_n hx hb d_Con_addToLine_0 rfl (lv_at hl 0 rfl) ?_
  refine ml_get (D := (dC, dI)) hx hb hts in_CC hown hK hP (53) (by decide) (dc_con kc a d) rfl 0 (by decide) (hts _ (mC _ wd_93)) (fun _ h9 => h9) (v := .ref (a 54)) rfl d_Con_addToLine_1 ?_
  refine lv_aload_n hx hb d_Con_addToLine_4 rfl (lv_at hl 0 rfl) ?_
  refine ml_get (D := (dC, dI)) hx hb hts in_CC hown hK hP (53) (by decide) (dc_con kc a d) rfl 1 (by decide) (hts _ (mC _ wd_94)) (fun _ h9 => h9) (v := .int (d.1 12 0)) rfl d_Con_addToLine_5 ?_
  refine lv_aload_n hx hb d_Con_addToLine_8 rfl (lv_at hl 0 rfl) ?_
  refine ml_get (D := (dC, dI)) hx hb hts in_CC hown hK hP (53) (by decide) (dc_con kc a d) rfl 3 (by decide) (hts _ (mC _ wd_97)) (fun _ h9 => h9) (v := .int (d.1 14 0)) rfl d_Con_addToLine_9 ?_
  refine lv_iadd hx hb d_Con_addToLine_12 ?_
  refine lv_bipush (v := 127) hx hb d_Con_addToLine_13 (by decide) ?_
  refine lv_iand hx hb d_Con_addToLine_15 ?_
  refine lv_iload_n hx hb d_Con_addToLine_16 rfl (lv_at hl 1 rfl) ?_
  refine lv_i2b (v := bt.toInt8.toInt32) hx hb d_Con_addToLine_17 rfl ?_
  refine ml_bast hx hb hK hP hD hS (54) 1 (by decide) (dc_cring kc a d) rfl (pk_andIn _ 7 (by decide) (by decide)) (f' := (dcell kc a (sI d 15 (((d.1 12 0) + (d.1 14 0)) &&& (127 : Int32)).toNatClampNeg (vp_nar .byte bt.toInt8.toInt32)))) (dw_cring (((d.1 12 0) + (d.1 14 0)) &&& (127 : Int32)).toNatClampNeg (vp_nar .byte bt.toInt8.toInt32)) d_Con_addToLine_18 (fun H locs hP hD hS => ?_)
  refine lv_aload_n hx hb d_Con_addToLine_19 rfl (lv_at hl 0 rfl) ?_
  refine lv_dup hx hb d_Con_addToLine_20 rfl ?_
  refine ml_get (D := (dC, dI)) hx hb hts in_CC hown hK hP (53) (by decide) (dc_con kc a (sI d 15 (((d.1 12 0) + (d.1 14 0)) &&& (127 : Int32)).toNatClampNeg (vp_nar .byte bt.toInt8.toInt32))) rfl 3 (by decide) (hts _ (mC _ wd_97)) (fun _ h9 => h9) (v := .int ((sI d 15 (((d.1 12 0) + (d.1 14 0)) &&& (127 : Int32)).toNatClampNeg (vp_nar .byte bt.toInt8.toInt32)).1 14 0)) rfl d_Con_addToLine_21 ?_
  refine lv_iconst (v := 1) hx hb d_Con_addToLine_24 (by decide) ?_
  refine lv_iadd hx hb d_Con_addToLine_25 ?_
  refine ml_put (D := (dC, dI)) hx hb hts in_CC tyC tyC_ok nmC hown hK hP hD hS (53) (by decide) (dc_con kc a (sI d 15 (((d.1 12 0) + (d.1 14 0)) &&& (127 : Int32)).toNatClampNeg (vp_nar .byte bt.toInt8.toInt32))) rfl 3 (by decide) (hts _ (mC _ wd_97)) (fun _ h9 => h9) rfl (ty := .int) (by decide +kernel) rfl rfl (Nat.le_of_ble_eq_true rfl) (f' := (dcell kc a (sI (sI d 15 (((d.1 12 0) + (d.1 14 0)) &&& (127 : Int32)).toNatClampNeg (vp_nar .byte bt.toInt8.toInt32)) 14 0 (((sI d 15 (((d.1 12 0) + (d.1 14 0)) &&& (127 : Int32)).toNatClampNeg (vp_nar .byte bt.toInt8.toInt32)).1 14 0) + (1 : Int32))))) (dw_14 (((sI d 15 (((d.1 12 0) + (d.1 14 0)) &&& (127 : Int32)).toNatClampNeg (vp_nar .byte bt.toInt8.toInt32)).1 14 0) + (1 : Int32))) d_Con_addToLine_26 (fun H locs hP hD hS => ?_)
  refine lv_iload_n hx hb d_Con_addToLine_29 rfl (lv_at hl 1 rfl) ?_
  refine lv_bipush (v := 10) hx hb d_Con_addToLine_30 (by decide) ?_
  refine lv_icmp_eq (tgt := 47) hx hb d_Con_addToLine_32 (by decide) (fun h_1 => ?_) (fun h_1 => ?_)
  · rw [if_pos h_1] at hres
    refine lv_aload_n hx hb d_Con_addToLine_47 rfl (lv_at hl 0 rfl) ?_
    refine lv_aload_n hx hb d_Con_addToLine_48 rfl (lv_at hl 0 rfl) ?_
    refine ml_get (D := (dC, dI)) hx hb hts in_CC hown hK hP (53) (by decide) (dc_con kc a (sI (sI d 15 (((d.1 12 0) + (d.1 14 0)) &&& (127 : Int32)).toNatClampNeg (vp_nar .byte bt.toInt8.toInt32)) 14 0 (((sI d 15 (((d.1 12 0) + (d.1 14 0)) &&& (127 : Int32)).toNatClampNeg (vp_nar .byte bt.toInt8.toInt32)).1 14 0) + (1 : Int32)))) rfl 3 (by decide) (hts _ (mC _ wd_97)) (fun _ h9 => h9) (v := .int ((sI (sI d 15 (((d.1 12 0) + (d.1 14 0)) &&& (127 : Int32)).toNatClampNeg (vp_nar .byte bt.toInt8.toInt32)) 14 0 (((sI d 15 (((d.1 12 0) + (d.1 14 0)) &&& (127 : Int32)).toNatClampNeg (vp_nar .byte bt.toInt8.toInt32)).1 14 0) + (1 : Int32))).1 14 0)) rfl d_Con_addToLine_49 ?_
    refine ml_put (D := (dC, dI)) hx hb hts in_CC tyC tyC_ok nmC hown hK hP hD hS (53) (by decide) (dc_con kc a (sI (sI d 15 (((d.1 12 0) + (d.1 14 0)) &&& (127 : Int32)).toNatClampNeg (vp_nar .byte bt.toInt8.toInt32)) 14 0 (((sI d 15 (((d.1 12 0) + (d.1 14 0)) &&& (127 : Int32)).toNatClampNeg (vp_nar .byte bt.toInt8.toInt32)).1 14 0) + (1 : Int32)))) rfl 2 (by decide) (hts _ (mC _ wd_95)) (fun _ h9 => h9) rfl (ty := .int) (by decide +kernel) rfl rfl (Nat.le_of_ble_eq_true rfl) (f' := (dcell kc a (sI (sI (sI d 15 (((d.1 12 0) + (d.1 14 0)) &&& (127 : Int32)).toNatClampNeg (vp_nar .byte bt.toInt8.toInt32)) 14 0 (((sI d 15 (((d.1 12 0) + (d.1 14 0)) &&& (127 : Int32)).toNatClampNeg (vp_nar .byte bt.toInt8.toInt32)).1 14 0) + (1 : Int32))) 13 0 ((sI (sI d 15 (((d.1 12 0) + (d.1 14 0)) &&& (127 : Int32)).toNatClampNeg (vp_nar .byte bt.toInt8.toInt32)) 14 0 (((sI d 15 (((d.1 12 0) + (d.1 14 0)) &&& (127 : Int32)).toNatClampNeg (vp_nar .byte bt.toInt8.toInt32)).1 14 0) + (1 : Int32))).1 14 0)))) (dw_13 ((sI (sI d 15 (((d.1 12 0) + (d.1 14 0)) &&& (127 : Int32)).toNatClampNeg (vp_nar .byte bt.toInt8.toInt32)) 14 0 (((sI d 15 (((d.1 12 0) + (d.1 14 0)) &&& (127 : Int32)).toNatClampNeg (vp_nar .byte bt.toInt8.toInt32)).1 14 0) + (1 : Int32))).1 14 0)) d_Con_addToLine_52 (fun H locs hP hD hS => ?_)
    subst hres
    exact ml_vret hx hb hr hlocks hP hK hD hS d_Con_addToLine_55
  · rw [if_neg h_1] at hres
    refine lv_iload_n hx hb d_Con_addToLine_35 rfl (lv_at hl 1 rfl) ?_
    refine lv_iconst (v := 4) hx hb d_Con_addToLine_36 (by decide) ?_
    refine lv_icmp_eq (tgt := 47) hx hb d_Con_addToLine_37 (by decide) (fun h_2 => ?_) (fun h_2 => ?_)
    · rw [if_pos h_2] at hres
      refine lv_aload_n hx hb d_Con_addToLine_47 rfl (lv_at hl 0 rfl) ?_
      refine lv_aload_n hx hb d_Con_addToLine_48 rfl (lv_at hl 0 rfl) ?_
      refine ml_get (D := (dC, dI)) hx hb hts in_CC hown hK hP (53) (by decide) (dc_con kc a (sI (sI d 15 (((d.1 12 0) + (d.1 14 0)) &&& (127 : Int32)).toNatClampNeg (vp_nar .byte bt.toInt8.toInt32)) 14 0 (((sI d 15 (((d.1 12 0) + (d.1 14 0)) &&& (127 : Int32)).toNatClampNeg (vp_nar .byte bt.toInt8.toInt32)).1 14 0) + (1 : Int32)))) rfl 3 (by decide) (hts _ (mC _ wd_97)) (fun _ h9 => h9) (v := .int ((sI (sI d 15 (((d.1 12 0) + (d.1 14 0)) &&& (127 : Int32)).toNatClampNeg (vp_nar .byte bt.toInt8.toInt32)) 14 0 (((sI d 15 (((d.1 12 0) + (d.1 14 0)) &&& (127 : Int32)).toNatClampNeg (vp_nar .byte bt.toInt8.toInt32)).1 14 0) + (1 : Int32))).1 14 0)) rfl d_Con_addToLine_49 ?_
      refine ml_put (D := (dC, dI)) hx hb hts in_CC tyC tyC_ok nmC hown hK hP hD hS (53) (by decide) (dc_con kc a (sI (sI d 15 (((d.1 12 0) + (d.1 14 0)) &&& (127 : Int32)).toNatClampNeg (vp_nar .byte bt.toInt8.toInt32)) 14 0 (((sI d 15 (((d.1 12 0) + (d.1 14 0)) &&& (127 : Int32)).toNatClampNeg (vp_nar .byte bt.toInt8.toInt32)).1 14 0) + (1 : Int32)))) rfl 2 (by decide) (hts _ (mC _ wd_95)) (fun _ h9 => h9) rfl (ty := .int) (by decide +kernel) rfl rfl (Nat.le_of_ble_eq_true rfl) (f' := (dcell kc a (sI (sI (sI d 15 (((d.1 12 0) + (d.1 14 0)) &&& (127 : Int32)).toNatClampNeg (vp_nar .byte bt.toInt8.toInt32)) 14 0 (((sI d 15 (((d.1 12 0) + (d.1 14 0)) &&& (127 : Int32)).toNatClampNeg (vp_nar .byte bt.toInt8.toInt32)).1 14 0) + (1 : Int32))) 13 0 ((sI (sI d 15 (((d.1 12 0) + (d.1 14 0)) &&& (127 : Int32)).toNatClampNeg (vp_nar .byte bt.toInt8.toInt32)) 14 0 (((sI d 15 (((d.1 12 0) + (d.1 14 0)) &&& (127 : Int32)).toNatClampNeg (vp_nar .byte bt.toInt8.toInt32)).1 14 0) + (1 : Int32))).1 14 0)))) (dw_13 ((sI (sI d 15 (((d.1 12 0) + (d.1 14 0)) &&& (127 : Int32)).toNatClampNeg (vp_nar .byte bt.toInt8.toInt32)) 14 0 (((sI d 15 (((d.1 12 0) + (d.1 14 0)) &&& (127 : Int32)).toNatClampNeg (vp_nar .byte bt.toInt8.toInt32)).1 14 0) + (1 : Int32))).1 14 0)) d_Con_addToLine_52 (fun H locs hP hD hS => ?_)
      subst hres
      exact ml_vret hx hb hr hlocks hP hK hD hS d_Con_addToLine_55
    · rw [if_neg h_2] at hres
      refine lv_aload_n hx hb d_Con_addToLine_40 rfl (lv_at hl 0 rfl) ?_
      refine ml_calli (va_runV (As := []) (rest := []) ⟨hx, hb, hml, hown, hts⟩ (c_Con_isFull l dC dI kc a _ (sI (sI d 15 (((d.1 12 0) + (d.1 14 0)) &&& (127 : Int32)).toNatClampNeg (vp_nar .byte bt.toInt8.toInt32)) 14 0 (((sI d 15 (((d.1 12 0) + (d.1 14 0)) &&& (127 : Int32)).toNatClampNeg (vp_nar .byte bt.toInt8.toInt32)).1 14 0) + (1 : Int32))) _ rfl) (cwV 0 hts (gd_V mC wd_302 wd_295 wd_296 wd_4 wd_297) rfl rfl rfl hd_Con_isFull ⟨Nat.le_of_ble_eq_true rfl, Nat.le_of_ble_eq_true rfl⟩) ⟨ml_blind, va_recv hK hP (ci := 3) rfl (ml_at (by decide) (dc_con kc a (sI (sI d 15 (((d.1 12 0) + (d.1 14 0)) &&& (127 : Int32)).toNatClampNeg (vp_nar .byte bt.toInt8.toInt32)) 14 0 (((sI d 15 (((d.1 12 0) + (d.1 14 0)) &&& (127 : Int32)).toNatClampNeg (vp_nar .byte bt.toInt8.toInt32)).1 14 0) + (1 : Int32))))), ml_pre hP hK hD⟩ rfl rfl hl.1 rfl (lv_room (Nat.le_of_ble_eq_true rfl)) d_Con_addToLine_41 ⟨Nat.zero_le _, Nat.zero_le _⟩) hD hS hA (fun H locs hP hD hS => ?_)
      refine lv_if_eq (tgt := 55) hx hb d_Con_addToLine_44 (by decide) (fun h_3 => ?_) (fun h_3 => ?_)
      · rw [if_pos h_3] at hres
        subst hres
        exact ml_vret hx hb hr hlocks hP hK hD hS d_Con_addToLine_55
      · rw [if_neg h_3] at hres
        refine lv_aload_n hx hb d_Con_addToLine_47 rfl (lv_at hl 0 rfl) ?_
        refine lv_aload_n hx hb d_Con_addToLine_48 rfl (lv_at hl 0 rfl) ?_
        refine ml_get (D := (dC, dI)) hx hb hts in_CC hown hK hP (53) (by decide) (dc_con kc a (sI (sI d 15 (((d.1 12 0) + (d.1 14 0)) &&& (127 : Int32)).toNatClampNeg (vp_nar .byte bt.toInt8.toInt32)) 14 0 (((sI d 15 (((d.1 12 0) + (d.1 14 0)) &&& (127 : Int32)).toNatClampNeg (vp_nar .byte bt.toInt8.toInt32)).1 14 0) + (1 : Int32)))) rfl 3 (by decide) (hts _ (mC _ wd_97)) (fun _ h9 => h9) (v := .int ((sI (sI d 15 (((d.1 12 0) + (d.1 14 0)) &&& (127 : Int32)).toNatClampNeg (vp_nar .byte bt.toInt8.toInt32)) 14 0 (((sI d 15 (((d.1 12 0) + (d.1 14 0)) &&& (127 : Int32)).toNatClampNeg (vp_nar .byte bt.toInt8.toInt32)).1 14 0) + (1 : Int32))).1 14 0)) rfl d_Con_addToLine_49 ?_
        refine ml_put (D := (dC, dI)) hx hb hts in_CC tyC tyC_ok nmC hown hK hP hD hS (53) (by decide) (dc_con kc a (sI (sI d 15 (((d.1 12 0) + (d.1 14 0)) &&& (127 : Int32)).toNatClampNeg (vp_nar .byte bt.toInt8.toInt32)) 14 0 (((sI d 15 (((d.1 12 0) + (d.1 14 0)) &&& (127 : Int32)).toNatClampNeg (vp_nar .byte bt.toInt8.toInt32)).1 14 0) + (1 : Int32)))) rfl 2 (by decide) (hts _ (mC _ wd_95)) (fun _ h9 => h9) rfl (ty := .int) (by decide +kernel) rfl rfl (Nat.le_of_ble_eq_true rfl) (f' := (dcell kc a (sI (sI (sI d 15 (((d.1 12 0) + (d.1 14 0)) &&& (127 : Int32)).toNatClampNeg (vp_nar .byte bt.toInt8.toInt32)) 14 0 (((sI d 15 (((d.1 12 0) + (d.1 14 0)) &&& (127 : Int32)).toNatClampNeg (vp_nar .byte bt.toInt8.toInt32)).1 14 0) + (1 : Int32))) 13 0 ((sI (sI d 15 (((d.1 12 0) + (d.1 14 0)) &&& (127 : Int32)).toNatClampNeg (vp_nar .byte bt.toInt8.toInt32)) 14 0 (((sI d 15 (((d.1 12 0) + (d.1 14 0)) &&& (127 : Int32)).toNatClampNeg (vp_nar .byte bt.toInt8.toInt32)).1 14 0) + (1 : Int32))).1 14 0)))) (dw_13 ((sI (sI d 15 (((d.1 12 0) + (d.1 14 0)) &&& (127 : Int32)).toNatClampNeg (vp_nar .byte bt.toInt8.toInt32)) 14 0 (((sI d 15 (((d.1 12 0) + (d.1 14 0)) &&& (127 : Int32)).toNatClampNeg (vp_nar .byte bt.toInt8.toInt32)).1 14 0) + (1 : Int32))).1 14 0)) d_Con_addToLine_52 (fun H locs hP hD hS => ?_)
        subst hres
        exact ml_vret hx hb hr hlocks hP hK hD hS d_Con_addToLine_55
def sp_Con_dropLastOfLine (d : DK)  : DK :=
  (if (d.1 14 0) ≤ (d.1 13 0) then d else (sI d 14 0 ((d.1 14 0) - (1 : Int32))))
abbrev rm_Con_dropLastOfLine : Room := { frames := 0, cells := 0, slots := 0, locals := 0 }
set_option maxHeartbeats 4000000 in
set_option maxRecDepth 100000 in
theorem c_Con_dropLastOfLine (l : Launch) (dC : Nat → ClassId) (dI : Nat → Nat → Nat) (kc : Nat → ClassId) (a : Nat → Nat) (sz : Nat) (d : DK) (d' : DK) (hres : sp_Con_dropLastOfLine d = d') : Met l y_Con_dropLastOfLine ws_Con_dropLastOfLine rm_Con_dropLastOfLine (va_Pc [.ref (a 53)] (ml_B (dC, dI) vwCl (tysD kc) 57 a (dcell kc a d) sz)) (va_Qv (fun (_ : Unit) => True) (fun _ t => ml_E (dC, dI) vwCl (tysD kc) 57 a (dcell kc a d') (va_A (ml 57 a (dcell kc a d)) sz) t) (va_A (ml 57 a (dcell kc a d)) sz)) 0 0 (va_A (ml 57 a (dcell kc a d)) sz) := by
  refine Met.ofW (cc := prog_2_method_5_code) (maxL := 1) (ret := (none : Option Jvm.ClassFile.FieldType)) (by decide) rfl ?_
  intro p e s m args below meth c s₁ B hml hv
  obtain ⟨rfl, hsz, hP, hK, hD0⟩ := hv
  have hx := B.exec
  have hb := B.bytes
  have hr := B.returns
  have hts := atoms_spec (ws := ws_Con_dropLastOfLine) B.pre
  have hown : s.vm.findClass "HandleDesk$Console" = some m.cls := findClass_of_methodNamed B.named
  have hlocks := B.notSynchronized
  subst hsz
  have hD := hD0.self (sz := s.heap.size)
  generalize hAe : va_A (ml 57 a (dcell kc a d)) s.heap.size = A at hD ⊢
  have hA : ∀ q : Nat, s.heap.size ≤ q → A q := fun q h => by rw [← hAe]; exact Or.inr h
  have hS : va_S A s.heap s.heap [] := va_S.rf
  have hl := lv_entry ([.ref (a 53)]) (n := 1) (Nat.le_of_ble_eq_true rfl)
  rw [lg_entry_eq]
  generalize (lg_sl ([.ref (a 53)]) ++ List.replicate (1 - (lg_sl ([.ref (a 53)])).length) Slot.unset).toArray = ls at hl ⊢
  have hl : lv_has ls 1 [(0, .ref (a 53))] := hl
  rw [sp_Con_dropLastOfLine] at hres
  refine lv_aload_n hx hb d_Con_dropLastOfLine_0 rfl (lv_at hl 0 rfl) ?_
  refine ml_get (D := (dC, dI)) hx hb hts in_CC hown hK hP (53) (by decide) (dc_con kc a d) rfl 3 (by decide) (hts _ (mC _ wd_97)) (fun _ h9 => h9) (v := .int (d.1 14 0)) rfl d_Con_dropLastOfLine_1 ?_
  refine lv_aload_n hx hb d_Con_dropLastOfLine_4 rfl (lv_at hl 0 rfl) ?_
  refine ml_get (D := (dC, dI)) hx hb hts in_CC hown hK hP (53) (by decide) (dc_con kc a d) rfl 2 (by decide) (hts _ (mC _ wd_95)) (fun _ h9 => h9) (v := .int (d.1 13 0)) rfl d_Con_dropLastOfLine_5 ?_
  refine lv_icmp_le (tgt := 21) hx hb d_Con_dropLastOfLine_8 (by decide) (fun h_1 => ?_) (fun h_1 => ?_)
  · rw [if_pos h_1] at hres
    subst hres
    exact ml_vret hx hb hr hlocks hP hK hD hS d_Con_dropLastOfLine_21
  · rw [if_neg h_1] at hres
    refine lv_aload_n hx hb d_Con_dropLastOfLine_11 rfl (lv_at hl 0 rfl) ?_
    refine lv_dup hx hb d_Con_dropLastOfLine_12 rfl ?_
    refine ml_get (D := (dC, dI)) hx hb hts in_CC hown hK hP (53) (by decide) (dc_con kc a d) rfl 3 (by decide) (hts _ (mC _ wd_97)) (fun _ h9 => h9) (v := .int (d.1 14 0)) rfl d_Con_dropLastOfLine_13 ?_
    refine lv_iconst (v := 1) hx hb d_Con_dropLastOfLine_16 (by decide) ?_
    refine lv_isub hx hb d_Con_dropLastOfLine_17 ?_
    refine ml_put (D := (dC, dI)) hx hb hts in_CC tyC tyC_ok nmC hown hK hP hD hS (53) (by decide) (dc_con kc a d) rfl 3 (by decide) (hts _ (mC _ wd_97)) (fun _ h9 => h9) rfl (ty := .int) (by decide +kernel) rfl rfl (Nat.le_of_ble_eq_true rfl) (f' := (dcell kc a (sI d 14 0 ((d.1 14 0) - (1 : Int32))))) (dw_14 ((d.1 14 0) - (1 : Int32))) d_Con_dropLastOfLine_18 (fun H locs hP hD hS => ?_)
    subst hres
    exact ml_vret hx hb hr hlocks hP hK hD hS d_Con_dropLastOfLine_21
def sp_Con_firstDone (d : DK)  : Int32 :=
  ((d.1 15 ((d.1 12 0) &&& (127 : Int32)).toNatClampNeg) &&& (255 : Int32))
abbrev rm_Con_firstDone : Room := { frames := 0, cells := 0, slots := 0, locals := 0 }
set_option maxHeartbeats 4000000 in
set_option maxRecDepth 100000 in
theorem c_Con_firstDone (l : Launch) (dC : Nat → ClassId) (dI : Nat → Nat → Nat) (kc : Nat → ClassId) (a : Nat → Nat) (sz : Nat) (d : DK) (R' : Int32) (hres : sp_Con_firstDone d = R') : Met l y_Con_firstDone ws_Con_firstDone rm_Con_firstDone (va_Pc [.ref (a 53)] (ml_B (dC, dI) vwCl (tysD kc) 57 a (dcell kc a d) sz)) (va_Qi (fun r (_ : Unit) => r = R') (fun _ t => ml_E (dC, dI) vwCl (tysD kc) 57 a (dcell kc a d) (va_A (ml 57 a (dcell kc a d)) sz) t) (va_A (ml 57 a (dcell kc a d)) sz)) 0 0 (va_A (ml 57 a (dcell kc a d)) sz) := by
  refine Met.ofW (cc := prog_2_method_6_code) (maxL := 1) (ret := (some .int)) (by decide) rfl ?_
  intro p e s m args below meth c s₁ B hml hv
  obtain ⟨rfl, hsz, hP, hK, hD0⟩ := hv
  have hx := B.exec
  have hb := B.bytes
  have hr := B.returns
  have hts := atoms_spec (ws := ws_Con_firstDone) B.pre
  have hown : s.vm.findClass "HandleDesk$Console" = some m.cls := findClass_of_methodNamed B.named
  have hlocks := B.notSynchronized
  subst hsz
  have hD := hD0.self (sz := s.heap.size)
  generalize hAe : va_A (ml 57 a (dcell kc a d)) s.heap.size = A at hD ⊢
  have hA : ∀ q : Nat, s.heap.size ≤ q → A q := fun q h => by rw [← hAe]; exact Or.inr h
  have hS : va_S A s.heap s.heap [] := va_S.rf
  have hl := lv_entry ([.ref (a 53)]) (n := 1) (Nat.le_of_ble_eq_true rfl)
  rw [lg_entry_eq]
  generalize (lg_sl ([.ref (a 53)]) ++ List.replicate (1 - (lg_sl ([.ref (a 53)])).length) Slot.unset).toArray = ls at hl ⊢
  have hl : lv_has ls 1 [(0, .ref (a 53))] := hl
  rw [sp_Con_firstDone] at hres
  refine lv_aload_n hx hb d_Con_firstDone_0 rfl (lv_at hl 0 rfl) ?_
  refine ml_get (D := (dC, dI)) hx hb hts in_CC hown hK hP (53) (by decide) (dc_con kc a d) rfl 0 (by decide) (hts _ (mC _ wd_93)) (fun _ h9 => h9) (v := .ref (a 54)) rfl d_Con_firstDone_1 ?_
  refine lv_aload_n hx hb d_Con_firstDone_4 rfl (lv_at hl 0 rfl) ?_
  refine ml_get (D := (dC, dI)) hx hb hts in_CC hown hK hP (53) (by decide) (dc_con kc a d) rfl 1 (by decide) (hts _ (mC _ wd_94)) (fun _ h9 => h9) (v := .int (d.1 12 0)) rfl d_Con_firstDone_5 ?_
  refine lv_bipush (v := 127) hx hb d_Con_firstDone_8 (by decide) ?_
  refine lv_iand hx hb d_Con_firstDone_10 ?_
  refine ml_bald hx hb hK hP (54) 1 (by decide) (dc_cring kc a d) rfl (pk_andIn _ 7 (by decide) (by decide)) d_Con_firstDone_11 ?_
  refine lv_sipush (v := 255) hx hb d_Con_firstDone_12 (by decide) ?_
  refine lv_iand hx hb d_Con_firstDone_15 ?_
  subst hres
  exact ml_iret hx hb hr hlocks hP hK hD hS d_Con_firstDone_16
def sp_Con_dropFirstDone (d : DK)  : DK :=
  (if (d.1 13 0) ≤ (0 : Int32) then d else (sI (sI (sI d 12 0 (((d.1 12 0) + (1 : Int32)) &&& (127 : Int32))) 13 0 (((sI d 12 0 (((d.1 12 0) + (1 : Int32)) &&& (127 : Int32))).1 13 0) - (1 : Int32))) 14 0 (((sI (sI d 12 0 (((d.1 12 0) + (1 : Int32)) &&& (127 : Int32))) 13 0 (((sI d 12 0 (((d.1 12 0) + (1 : Int32)) &&& (127 : Int32))).1 13 0) - (1 : Int32))).1 14 0) - (1 : Int32))))
abbrev rm_Con_dropFirstDone : Room := { frames := 0, cells := 0, slots := 0, locals := 0 }
set_option maxHeartbeats 4000000 in
set_option maxRecDepth 100000 in
theorem c_Con_dropFirstDone (l : Launch) (dC : Nat → ClassId) (dI : Nat → Nat → Nat) (kc : Nat → ClassId) (a : Nat → Nat) (sz : Nat) (d : DK) (d' : DK) (hres : sp_Con_dropFirstDone d = d') : Met l y_Con_dropFirstDone ws_Con_dropFirstDone rm_Con_dropFirstDone (va_Pc [.ref (a 53)] (ml_B (dC, dI) vwCl (tysD kc) 57 a (dcell kc a d) sz)) (va_Qv (fun (_ : Unit) => True) (fun _ t => ml_E (dC, dI) vwCl (tysD kc) 57 a (dcell kc a d') (va_A (ml 57 a (dcell kc a d)) sz) t) (va_A (ml 57 a (dcell kc a d)) sz)) 0 0 (va_A (ml 57 a (dcell kc a d)) sz) := by
  refine Met.ofW (cc := prog_2_method_7_code) (maxL := 1) (ret := (none : Option Jvm.ClassFile.FieldType)) (by decide) rfl ?_
  intro p e s m args below meth c s₁ B hml hv
  obtain ⟨rfl, hsz, hP, hK, hD0⟩ := hv
  have hx := B.exec
  have hb := B.bytes
  have hr := B.returns
  have hts := atoms_spec (ws := ws_Con_dropFirstDone) B.pre
  have hown : s.vm.findClass "HandleDesk$Console" = some m.cls := findClass_of_methodNamed B.named
  have hlocks := B.notSynchronized
  subst hsz
  have hD := hD0.self (sz := s.heap.size)
  generalize hAe : va_A (ml 57 a (dcell kc a d)) s.heap.size = A at hD ⊢
  have hA : ∀ q : Nat, s.heap.size ≤ q → A q := fun q h => by rw [← hAe]; exact Or.inr h
  have hS : va_S A s.heap s.heap [] := va_S.rf
  have hl := lv_entry ([.ref (a 53)]) (n := 1) (Nat.le_of_ble_eq_true rfl)
  rw [lg_entry_eq]
  generalize (lg_sl ([.ref (a 53)]) ++ List.replicate (1 - (lg_sl ([.ref (a 53)])).length) Slot.unset).toArray = ls at hl ⊢
  have hl : lv_has ls 1 [(0, .ref (a 53))] := hl
  rw [sp_Con_dropFirstDone] at hres
  refine lv_aload_n hx hb d_Con_dropFirstDone_0 rfl (lv_at hl 0 rfl) ?_
  refine ml_get (D := (dC, dI)) hx hb hts in_CC hown hK hP (53) (by decide) (dc_con kc a d) rfl 2 (by decide) (hts _ (mC _ wd_95)) (fun _ h9 => h9) (v := .int (d.1 13 0)) rfl d_Con_dropFirstDone_1 ?_
  refine lv_if_le (tgt := 40) hx hb d_Con_dropFirstDone_4 (by decide) (fun h_1 => ?_) (fun h_1 => ?_)
  · rw [if_pos h_1] at hres
    subst hres
    exact ml_vret hx hb hr hlocks hP hK hD hS d_Con_dropFirstDone_40
  · rw [if_neg h_1] at hres
    refine lv_aload_n hx hb d_Con_dropFirstDone_7 rfl (lv_at hl 0 rfl) ?_
    refine lv_aload_n hx hb d_Con_dropFirstDone_8 rfl (lv_at hl 0 rfl) ?_
    refine ml_get (D := (dC, dI)) hx hb hts in_CC hown hK hP (53) (by decide) (dc_con kc a d) rfl 1 (by decide) (hts _ (mC _ wd_94)) (fun _ h9 => h9) (v := .int (d.1 12 0)) rfl d_Con_dropFirstDone_9 ?_
    refine lv_iconst (v := 1) hx hb d_Con_dropFirstDone_12 (by decide) ?_
    refine lv_iadd hx hb d_Con_dropFirstDone_13 ?_
    refine lv_bipush (v := 127) hx hb d_Con_dropFirstDone_14 (by decide) ?_
    refine lv_iand hx hb d_Con_dropFirstDone_16 ?_
    refine ml_put (D := (dC, dI)) hx hb hts in_CC tyC tyC_ok nmC hown hK hP hD hS (53) (by decide) (dc_con kc a d) rfl 1 (by decide) (hts _ (mC _ wd_94)) (fun _ h9 => h9) rfl (ty := .int) (by decide +kernel) rfl rfl (Nat.le_of_ble_eq_true rfl) (f' := (dcell kc a (sI d 12 0 (((d.1 12 0) + (1 : Int32)) &&& (127 : Int32))))) (dw_12 (((d.1 12 0) + (1 : Int32)) &&& (127 : Int32))) d_Con_dropFirstDone_17 (fun H locs hP hD hS => ?_)
    refine lv_aload_n hx hb d_Con_dropFirstDone_20 rfl (lv_at hl 0 rfl) ?_
    refine lv_dup hx hb d_Con_dropFirstDone_21 rfl ?_
    refine ml_get (D := (dC, dI)) hx hb hts in_CC hown hK hP (53) (by decide) (dc_con kc a (sI d 12 0 (((d.1 12 0) + (1 : Int32)) &&& (127 : Int32)))) rfl 2 (by decide) (hts _ (mC _ wd_95)) (fun _ h9 => h9) (v := .int ((sI d 12 0 (((d.1 12 0) + (1 : Int32)) &&& (127 : Int32))).1 13 0)) rfl d_Con_dropFirstDone_22 ?_
    refine lv_iconst (v := 1) hx hb d_Con_dropFirstDone_25 (by decide) ?_
    refine lv_isub hx hb d_Con_dropFirstDone_26 ?_
    refine ml_put (D := (dC, dI)) hx hb hts in_CC tyC tyC_ok nmC hown hK hP hD hS (53) (by decide) (dc_con kc a (sI d 12 0 (((d.1 12 0) + (1 : Int32)) &&& (127 : Int32)))) rfl 2 (by decide) (hts _ (mC _ wd_95)) (fun _ h9 => h9) rfl (ty := .int) (by decide +kernel) rfl rfl (Nat.le_of_ble_eq_true rfl) (f' := (dcell kc a (sI (sI d 12 0 (((d.1 12 0) + (1 : Int32)) &&& (127 : Int32))) 13 0 (((sI d 12 0 (((d.1 12 0) + (1 : Int32)) &&& (127 : Int32))).1 13 0) - (1 : Int32))))) (dw_13 (((sI d 12 0 (((d.1 12 0) + (1 : Int32)) &&& (127 : Int32))).1 13 0) - (1 : Int32))) d_Con_dropFirstDone_27 (fun H locs hP hD hS => ?_)
    refine lv_aload_n hx hb d_Con_dropFirstDone_30 rfl (lv_at hl 0 rfl) ?_
    refine lv_dup hx hb d_Con_dropFirstDone_31 rfl ?_
    refine ml_get (D := (dC, dI)) hx hb hts in_CC hown hK hP (53) (by decide) (dc_con kc a (sI (sI d 12 0 (((d.1 12 0) + (1 : Int32)) &&& (127 : Int32))) 13 0 (((sI d 12 0 (((d.1 12 0) + (1 : Int32)) &&& (127 : Int32))).1 13 0) - (1 : Int32)))) rfl 3 (by decide) (hts _ (mC _ wd_97)) (fun _ h9 => h9) (v := .int ((sI (sI d 12 0 (((d.1 12 0) + (1 : Int32)) &&& (127 : Int32))) 13 0 (((sI d 12 0 (((d.1 12 0) + (1 : Int32)) &&& (127 : Int32))).1 13 0) - (1 : Int32))).1 14 0)) rfl d_Con_dropFirstDone_32 ?_
    refine lv_iconst (v := 1) hx hb d_Con_dropFirstDone_35 (by decide) ?_
    refine lv_isub hx hb d_Con_dropFirstDone_36 ?_
    refine ml_put (D := (dC, dI)) hx hb hts in_CC tyC tyC_ok nmC hown hK hP hD hS (53) (by decide) (dc_con kc a (sI (sI d 12 0 (((d.1 12 0) + (1 : Int32)) &&& (127 : Int32))) 13 0 (((sI d 12 0 (((d.1 12 0) + (1 : Int32)) &&& (127 : Int32))).1 13 0) - (1 : Int32)))) rfl 3 (by decide) (hts _ (mC _ wd_97)) (fun _ h9 => h9) rfl (ty := .int) (by decide +kernel) rfl rfl (Nat.le_of_ble_eq_true rfl) (f' := (dcell kc a (sI (sI (sI d 12 0 (((d.1 12 0) + (1 : Int32)) &&& (127 : Int32))) 13 0 (((sI d 12 0 (((d.1 12 0) + (1 : Int32)) &&& (127 : Int32))).1 13 0) - (1 : Int32))) 14 0 (((sI (sI d 12 0 (((d.1 12 0) + (1 : Int32)) &&& (127 : Int32))) 13 0 (((sI d 12 0 (((d.1 12 0) + (1 : Int32)) &&& (127 : Int32))).1 13 0) - (1 : Int32))).1 14 0) - (1 : Int32))))) (dw_14 (((sI (sI d 12 0 (((d.1 12 0) + (1 : Int32)) &&& (127 : Int32))) 13 0 (((sI d 12 0 (((d.1 12 0) + (1 : Int32)) &&& (127 : Int32))).1 13 0) - (1 : Int32))).1 14 0) - (1 : Int32))) d_Con_dropFirstDone_37 (fun H locs hP hD hS => ?_)
    subst hres
    exact ml_vret hx hb hr hlocks hP hK hD hS d_Con_dropFirstDone_40
def sp_Scr_addLast (d : DK) (bt : Int32) : DK :=
  (sI (sI d 17 ((d.1 16 0) &&& (4095 : Int32)).toNatClampNeg (vp_nar .byte bt.toInt8.toInt32)) 16 0 (((sI d 17 ((d.1 16 0) &&& (4095 : Int32)).toNatClampNeg (vp_nar .byte bt.toInt8.toInt32)).1 16 0) + (1 : Int32)))
abbrev rm_Scr_addLast : Room := { frames := 0, cells := 0, slots := 0, locals := 0 }
set_option maxHeartbeats 4000000 in
set_option maxRecDepth 100000 in
theorem c_Scr_addLast (l : Launch) (dC : Nat → ClassId) (dI : Nat → Nat → Nat) (kc : Nat → ClassId) (a : Nat → Nat) (sz : Nat) (d : DK) (bt : Int32) (d' : DK) (hres : sp_Scr_addLast d bt = d') : Met l y_Scr_addLast ws_Scr_addLast rm_Scr_addLast (va_Pc [.ref (a 55), .int bt] (ml_B (dC, dI) vwCl (tysD kc) 57 a (dcell kc a d) sz)) (va_Qv (fun (_ : Unit) => True) (fun _ t => ml_E (dC, dI) vwCl (tysD kc) 57 a (dcell kc a d') (va_A (ml 57 a (dcell kc a d)) sz) t) (va_A (ml 57 a (dcell kc a d)) sz)) 0 0 (va_A (ml 57 a (dcell kc a d)) sz) := by
  refine Met.ofW (cc := prog_5_method_2_code) (maxL := 2) (ret := (none : Option Jvm.ClassFile.FieldType)) (by decide) rfl ?_
  intro p e s m args below meth c s₁ B hml hv
  obtain ⟨rfl, hsz, hP, hK, hD0⟩ := hv
  have hx := B.exec
  have hb := B.bytes
  have hr := B.returns
  have hts := atoms_spec (ws := ws_Scr_addLast) B.pre
  have hown : s.vm.findClass "HandleDesk$Screen" = some m.cls := findClass_of_methodNamed B.named
  have hlocks := B.notSynchronized
  subst hsz
  have hD := hD0.self (sz := s.heap.size)
  generalize hAe : va_A (ml 57 a (dcell kc a d)) s.heap.size = A at hD ⊢
  have hA : ∀ q : Nat, s.heap.size ≤ q → A q := fun q h => by rw [← hAe]; exact Or.inr h
  have hS : va_S A s.heap s.heap [] := va_S.rf
  have hl := lv_entry ([.ref (a 55), .int bt]) (n := 2) (Nat.le_of_ble_eq_true rfl)
  rw [lg_entry_eq]
  generalize (lg_sl ([.ref (a 55), .int bt]) ++ List.replicate (2 - (lg_sl ([.ref (a 55), .int bt])).length) Slot.unset).toArray = ls at hl ⊢
  have hl : lv_has ls 2 [(0, .ref (a 55)), (1, .int bt)] := hl
  rw [sp_Scr_addLast] at hres
  refine lv_aload_n hx hb d_Scr_addLast_0 rfl (lv_at hl 0 rfl) ?_
  refine ml_get (D := (dC, dI)) hx hb hts in_SC hown hK hP (55) (by decide) (dc_scr kc a d) rfl 0 (by decide) (hts _ (mC _ wd_115)) (fun _ h9 => h9) (v := .ref (a 56)) rfl d_Scr_addLast_1 ?_
  refine lv_aload_n hx hb d_Scr_addLast_4 rfl (lv_at hl 0 rfl) ?_
  refine ml_get (D := (dC, dI)) hx hb hts in_SC hown hK hP (55) (by decide) (dc_scr kc a d) rfl 1 (by decide) (hts _ (mC _ wd_116)) (fun _ h9 => h9) (v := .int (d.1 16 0)) rfl d_Scr_addLast_5 ?_
  refine lv_sipush (v := 4095) hx hb d_Scr_addLast_8 (by decide) ?_
  refine lv_iand hx hb d_Scr_addLast_11 ?_
  refine lv_iload_n hx hb d_Scr_addLast_12 rfl (lv_at hl 1 rfl) ?_
  refine lv_i2b (v := bt.toInt8.toInt32) hx hb d_Scr_addLast_13 rfl ?_
  refine ml_bast hx hb hK hP hD hS (56) 1 (by decide) (dc_sring kc a d) rfl (pk_andIn _ 12 (by decide) (by decide)) (f' := (dcell kc a (sI d 17 ((d.1 16 0) &&& (4095 : Int32)).toNatClampNeg (vp_nar .byte bt.toInt8.toInt32)))) (dw_sring ((d.1 16 0) &&& (4095 : Int32)).toNatClampNeg (vp_nar .byte bt.toInt8.toInt32)) d_Scr_addLast_14 (fun H locs hP hD hS => ?_)
  refine lv_aload_n hx hb d_Scr_addLast_15 rfl (lv_at hl 0 rfl) ?_
  refine lv_dup hx hb d_Scr_addLast_16 rfl ?_
  refine ml_get (D := (dC, dI)) hx hb hts in_SC hown hK hP (55) (by decide) (dc_scr kc a (sI d 17 ((d.1 16 0) &&& (4095 : Int32)).toNatClampNeg (vp_nar .byte bt.toInt8.toInt32))) rfl 1 (by decide) (hts _ (mC _ wd_116)) (fun _ h9 => h9) (v := .int ((sI d 17 ((d.1 16 0) &&& (4095 : Int32)).toNatClampNeg (vp_nar .byte bt.toInt8.toInt32)).1 16 0)) rfl d_Scr_addLast_17 ?_
  refine lv_iconst (v := 1) hx hb d_Scr_addLast_20 (by decide) ?_
  refine lv_iadd hx hb d_Scr_addLast_21 ?_
  refine ml_put (D := (dC, dI)) hx hb hts in_SC tyS tyS_ok nmS hown hK hP hD hS (55) (by decide) (dc_scr kc a (sI d 17 ((d.1 16 0) &&& (4095 : Int32)).toNatClampNeg (vp_nar .byte bt.toInt8.toInt32))) rfl 1 (by decide) (hts _ (mC _ wd_116)) (fun _ h9 => h9) rfl (ty := .int) (by decide +kernel) rfl rfl (Nat.le_of_ble_eq_true rfl) (f' := (dcell kc a (sI (sI d 17 ((d.1 16 0) &&& (4095 : Int32)).toNatClampNeg (vp_nar .byte bt.toInt8.toInt32)) 16 0 (((sI d 17 ((d.1 16 0) &&& (4095 : Int32)).toNatClampNeg (vp_nar .byte bt.toInt8.toInt32)).1 16 0) + (1 : Int32))))) (dw_16 (((sI d 17 ((d.1 16 0) &&& (4095 : Int32)).toNatClampNeg (vp_nar .byte bt.toInt8.toInt32)).1 16 0) + (1 : Int32))) d_Scr_addLast_22 (fun H locs hP hD hS => ?_)
  subst hres
  exact ml_vret hx hb hr hlocks hP hK hD hS d_Scr_addLast_25
def sp_Scr_byteAt (d : DK) (kx : Int32) : Int32 :=
  (if kx < (0 : Int32) then (-1 : Int32) else (if (d.1 16 0) ≤ kx then (-1 : Int32) else (if ((d.1 16 0) - kx) ≤ (4096 : Int32) then ((d.1 17 (kx &&& (4095 : Int32)).toNatClampNeg) &&& (255 : Int32)) else (-1 : Int32))))
abbrev rm_Scr_byteAt : Room := { frames := 0, cells := 0, slots := 0, locals := 0 }
set_option maxHeartbeats 4000000 in
set_option maxRecDepth 100000 in
theorem c_Scr_byteAt (l : Launch) (dC : Nat → ClassId) (dI : Nat → Nat → Nat) (kc : Nat → ClassId) (a : Nat → Nat) (sz : Nat) (d : DK) (kx : Int32) (R' : Int32) (hres : sp_Scr_byteAt d kx = R') : Met l y_Scr_byteAt ws_Scr_byteAt rm_Scr_byteAt (va_Pc [.ref (a 55), .int kx] (ml_B (dC, dI) vwCl (tysD kc) 57 a (dcell kc a d) sz)) (va_Qi (fun r (_ : Unit) => r = R') (fun _ t => ml_E (dC, dI) vwCl (tysD kc) 57 a (dcell kc a d) (va_A (ml 57 a (dcell kc a d)) sz) t) (va_A (ml 57 a (dcell kc a d)) sz)) 0 0 (va_A (ml 57 a (dcell kc a d)) sz) := by
  refine Met.ofW (cc := prog_5_method_3_code) (maxL := 2) (ret := (some .int)) (by decide) rfl ?_
  intro p e s m args below meth c s₁ B hml hv
  obtain ⟨rfl, hsz, hP, hK, hD0⟩ := hv
  have hx := B.exec
  have hb := B.bytes
  have hr := B.returns
  have hts := atoms_spec (ws := ws_Scr_byteAt) B.pre
  have hown : s.vm.findClass "HandleDesk$Screen" = some m.cls := findClass_of_methodNamed B.named
  have hlocks := B.notSynchronized
  subst hsz
  have hD := hD0.self (sz := s.heap.size)
  generalize hAe : va_A (ml 57 a (dcell kc a d)) s.heap.size = A at hD ⊢
  have hA : ∀ q : Nat, s.heap.size ≤ q → A q := fun q h => by rw [← hAe]; exact Or.inr h
  have hS : va_S A s.heap s.heap [] := va_S.rf
  have hl := lv_entry ([.ref (a 55), .int kx]) (n := 2) (Nat.le_of_ble_eq_true rfl)
  rw [lg_entry_eq]
  generalize (lg_sl ([.ref (a 55), .int kx]) ++ List.replicate (2 - (lg_sl ([.ref (a 55), .int kx])).length) Slot.unset).toArray = ls at hl ⊢
  have hl : lv_has ls 2 [(0, .ref (a 55)), (1, .int kx)] := hl
  rw [sp_Scr_byteAt] at hres
  refine lv_iload_n hx hb d_Scr_byteAt_0 rfl (lv_at hl 1 rfl) ?_
  refine lv_if_lt (tgt := 24) hx hb d_Scr_byteAt_1 (by decide) (fun h_1 => ?_) (fun h_1 => ?_)
  · rw [if_pos h_1] at hres
    refine lv_iconst (v := -1) hx hb d_Scr_byteAt_24 (by decide) ?_
    subst hres
    exact ml_iret hx hb hr hlocks hP hK hD hS d_Scr_byteAt_25
  · rw [if_neg h_1] at hres
    refine lv_iload_n hx hb d_Scr_byteAt_4 rfl (lv_at hl 1 rfl) ?_
    refine lv_aload_n hx hb d_Scr_byteAt_5 rfl (lv_at hl 0 rfl) ?_
    refine ml_get (D := (dC, dI)) hx hb hts in_SC hown hK hP (55) (by decide) (dc_scr kc a d) rfl 1 (by decide) (hts _ (mC _ wd_116)) (fun _ h9 => h9) (v := .int (d.1 16 0)) rfl d_Scr_byteAt_6 ?_
    refine lv_icmp_ge (tgt := 24) hx hb d_Scr_byteAt_9 (by decide) (fun h_2 => ?_) (fun h_2 => ?_)
    · rw [if_pos h_2] at hres
      refine lv_iconst (v := -1) hx hb d_Scr_byteAt_24 (by decide) ?_
      subst hres
      exact ml_iret hx hb hr hlocks hP hK hD hS d_Scr_byteAt_25
    · rw [if_neg h_2] at hres
      refine lv_aload_n hx hb d_Scr_byteAt_12 rfl (lv_at hl 0 rfl) ?_
      refine ml_get (D := (dC, dI)) hx hb hts in_SC hown hK hP (55) (by decide) (dc_scr kc a d) rfl 1 (by decide) (hts _ (mC _ wd_116)) (fun _ h9 => h9) (v := .int (d.1 16 0)) rfl d_Scr_byteAt_13 ?_
      refine lv_iload_n hx hb d_Scr_byteAt_16 rfl (lv_at hl 1 rfl) ?_
      refine lv_isub hx hb d_Scr_byteAt_17 ?_
      refine lv_sipush (v := 4096) hx hb d_Scr_byteAt_18 (by decide) ?_
      refine lv_icmp_le (tgt := 26) hx hb d_Scr_byteAt_21 (by decide) (fun h_3 => ?_) (fun h_3 => ?_)
      · rw [if_pos h_3] at hres
        refine lv_aload_n hx hb d_Scr_byteAt_26 rfl (lv_at hl 0 rfl) ?_
        refine ml_get (D := (dC, dI)) hx hb hts in_SC hown hK hP (55) (by decide) (dc_scr kc a d) rfl 0 (by decide) (hts _ (mC _ wd_115)) (fun _ h9 => h9) (v := .ref (a 56)) rfl d_Scr_byteAt_27 ?_
        refine lv_iload_n hx hb d_Scr_byteAt_30 rfl (lv_at hl 1 rfl) ?_
        refine lv_sipush (v := 4095) hx hb d_Scr_byteAt_31 (by decide) ?_
        refine lv_iand hx hb d_Scr_byteAt_34 ?_
        refine ml_bald hx hb hK hP (56) 1 (by decide) (dc_sring kc a d) rfl (pk_andIn _ 12 (by decide) (by decide)) d_Scr_byteAt_35 ?_
        refine lv_sipush (v := 255) hx hb d_Scr_byteAt_36 (by decide) ?_
        refine lv_iand hx hb d_Scr_byteAt_39 ?_
        subst hres
        exact ml_iret hx hb hr hlocks hP hK hD hS d_Scr_byteAt_40
      · rw [if_neg h_3] at hres
        refine lv_iconst (v := -1) hx hb d_Scr_byteAt_24 (by decide) ?_
        subst hres
        exact ml_iret hx hb hr hlocks hP hK hD hS d_Scr_byteAt_25
end
section
/-! Processes and descriptors by number. -/
theorem isPr {pr : Int32} (h : ¬ sp_isProcess pr = 0) : ∃ n, n < 15 ∧ pr = nI n := by
  unfold sp_isProcess at h
  by_cases h1 : pr < 0
  · rw [if_pos h1] at h; exact absurd rfl h
  rw [if_neg h1] at h
  by_cases h2 : (15 : Int32) ≤ pr
  · rw [if_pos h2] at h; exact absurd rfl h
  rcases pk_ix pr (n := 15) (by decide) with q | q | ⟨j, hj, e⟩
  · exact absurd q h1
  · exact absurd q h2
  · exact ⟨j, hj, e⟩
theorem isDe {x : Int32} (h : ¬ sp_isDescriptor x = 0) : ∃ n, n < 16 ∧ x = nI n := by
  unfold sp_isDescriptor at h
  by_cases h1 : x < 0
  · rw [if_pos h1] at h; exact absurd rfl h
  rw [if_neg h1] at h
  by_cases h2 : (16 : Int32) ≤ x
  · rw [if_pos h2] at h; exact absurd rfl h
  rcases pk_ix x (n := 16) (by decide) with q | q | ⟨j, hj, e⟩
  · exact absurd q h1
  · exact absurd q h2
  · exact ⟨j, hj, e⟩
theorem ix15 (n q : Nat) : (nI n * (16 : Int32)) + nI q = nI (n * 16 + q) := by
  rw [show (16 : Int32) = nI 16 from rfl, pk_mul, nI_add]
theorem dk_in {pr x : Int32} (hp : ¬ sp_isProcess pr = 0) (hd : ¬ sp_isDescriptor x = 0) : vp_in ((pr * (16 : Int32)) + x) 240 := by
  obtain ⟨n, hn, rfl⟩ := isPr hp
  obtain ⟨q, hq, rfl⟩ := isDe hd
  rw [ix15]
  exact vp_in_nI (by omega) (by decide)
end
section
def sp_fileOf (d : DK) (pr : Int32) (x : Int32) : Option (Fin 32) :=
  (if (sp_isProcess pr) = (0 : Int32) then none else (if (sp_isDescriptor x) = (0 : Int32) then none else (oc (d.2.1 ((pr * (16 : Int32)) + x).toNatClampNeg) none (fun i_4 => (some i_4)))))
abbrev rm_fileOf : Room := { frames := 1, cells := 0, slots := 0, locals := 20 }
set_option maxHeartbeats 4000000 in
set_option maxRecDepth 100000 in
theorem c_fileOf (l : Launch) (dC : Nat → ClassId) (dI : Nat → Nat → Nat) (kc : Nat → ClassId) (a : Nat → Nat) (sz : Nat) (d : DK) (pr : Int32) (x : Int32) (R' : Option (Fin 32)) (hres : sp_fileOf d pr x = R') : Met l y_fileOf ws_fileOf rm_fileOf (va_Pc [.ref (a 0), .int pr, .int x] (ml_B (dC, dI) vwCl (tysD kc) 57 a (dcell kc a d) sz)) (va_Qq (fun r (_ : Unit) => r = R'.map (fun i => a (i.val + 3))) (fun _ t => ml_E (dC, dI) vwCl (tysD kc) 57 a (dcell kc a d) (va_A (ml 57 a (dcell kc a d)) sz) t) (va_A (ml 57 a (dcell kc a d)) sz)) 0 0 (va_A (ml 57 a (dcell kc a d)) sz) := by
  refine Met.ofW (cc := prog_1_method_25_code) (maxL := 3) (ret := (some (.object "HandleDesk$OpenFile"))) (by decide) rfl ?_
  intro p e s m args below meth c s₁ B hml hv
  obtain ⟨rfl, hsz, hP, hK, hD0⟩ := hv
  have hx := B.exec
  have hb := B.bytes
  have hr := B.returns
  have hts := atoms_spec (ws := ws_fileOf) B.pre
  have hown : s.vm.findClass "HandleDesk" = some m.cls := findClass_of_methodNamed B.named
  have hlocks := B.notSynchronized
  subst hsz
  have hD := hD0.self (sz := s.heap.size)
  generalize hAe : va_A (ml 57 a (dcell kc a d)) s.heap.size = A at hD ⊢
  have hA : ∀ q : Nat, s.heap.size ≤ q → A q := fun q h => by rw [← hAe]; exact Or.inr h
  have hS : va_S A s.heap s.heap [] := va_S.rf
  have hl := lv_entry ([.ref (a 0), .int pr, .int x]) (n := 3) (Nat.le_of_ble_eq_true rfl)
  rw [lg_entry_eq]
  generalize (lg_sl ([.ref (a 0), .int pr, .int x]) ++ List.replicate (3 - (lg_sl ([.ref (a 0), .int pr, .int x])).length) Slot.unset).toArray = ls at hl ⊢
  have hl : lv_has ls 3 [(0, .ref (a 0)), (1, .int pr), (2, .int x)] := hl
  rw [sp_fileOf] at hres
  refine lv_iload_n hx hb d_fileOf_0 rfl (lv_at hl 1 rfl) ?_
  refine ml_calli (va_runS (As := [.int pr]) (rest := []) ⟨hx, hb, hml, hown, hts⟩ (c_isProcess l dC dI kc a _ d pr _ rfl) (cwS 1 hts (gd_S mC wd_149 wd_150 wd_1 wd_151) rfl rfl rfl hd_isProcess ⟨Nat.le_of_ble_eq_true rfl, Nat.le_of_ble_eq_true rfl⟩) ⟨ml_blind, ml_pre hP hK hD⟩ rfl rfl hl.1 rfl (lv_room (Nat.le_of_ble_eq_true rfl)) d_fileOf_1 ⟨Nat.zero_le _, Nat.zero_le _⟩) hD hS hA (fun H locs hP hD hS => ?_)
  refine lv_if_eq (tgt := 14) hx hb d_fileOf_4 (by decide) (fun h_1 => ?_) (fun h_1 => ?_)
  · rw [if_pos h_1] at hres
    refine lv_null hx hb d_fileOf_14 ?_
    subst hres
    exact ml_aretN hx hb hr hlocks hP hK hD hS d_fileOf_15
  · rw [if_neg h_1] at hres
    refine lv_iload_n hx hb d_fileOf_7 rfl (lv_at hl 2 rfl) ?_
    refine ml_calli (va_runS (As := [.int x]) (rest := []) ⟨hx, hb, hml, hown, hts⟩ (c_isDescriptor l dC dI kc a _ d x _ rfl) (cwS 1 hts (gd_S mC wd_166 wd_167 wd_1 wd_168) rfl rfl rfl hd_isDescriptor ⟨Nat.le_of_ble_eq_true rfl, Nat.le_of_ble_eq_true rfl⟩) ⟨ml_blind, ml_pre hP hK hD⟩ rfl rfl hl.1 rfl (lv_room (Nat.le_of_ble_eq_true rfl)) d_fileOf_8 ⟨Nat.zero_le _, Nat.zero_le _⟩) hD hS hA (fun H locs hP hD hS => ?_)
    refine lv_if_ne (tgt := 16) hx hb d_fileOf_11 (by decide) (fun h_2 => ?_) (fun h_2 => ?_)
    · rw [if_neg h_2] at hres
      refine lv_aload_n hx hb d_fileOf_16 rfl (lv_at hl 0 rfl) ?_
      refine ml_get (D := (dC, dI)) hx hb hts in_DC hown hK hP (0) (by decide) (dc_desk kc a d) rfl 0 (by decide) (hts _ (mC _ wd_123)) (fun _ h9 => h9) (v := .ref (a 1)) rfl d_fileOf_17 ?_
      refine lv_iload_n hx hb d_fileOf_20 rfl (lv_at hl 1 rfl) ?_
      refine lv_bipush (v := 16) hx hb d_fileOf_21 (by decide) ?_
      refine lv_imul hx hb d_fileOf_23 ?_
      refine lv_iload_n hx hb d_fileOf_24 rfl (lv_at hl 2 rfl) ?_
      refine lv_iadd hx hb d_fileOf_25 ?_
      refine dk_ald_named hx hb hK hP (dk_in (by assumption) (by assumption)) d_fileOf_26 (fun q_3 => ?_) (fun i_4 q_3 => ?_)
      · rw [q_3, oc_n] at hres
        subst hres
        exact ml_aretN hx hb hr hlocks hP hK hD hS d_fileOf_27
      · rw [q_3, oc_s] at hres
        subst hres
        exact ml_aretS hx hb hr hlocks hP hK hD hS d_fileOf_27
    · rw [if_pos h_2] at hres
      refine lv_null hx hb d_fileOf_14 ?_
      subst hres
      exact ml_aretN hx hb hr hlocks hP hK hD hS d_fileOf_15
def lp_freeDescriptor (d : DK) (pr : Int32) : Nat → Nat → Int32
  | 0, _ => 0
  | n + 1, j =>
    (if (16 : Int32) ≤ (nI j) then (-1 : Int32) else (oc (sp_fileOf d pr (nI j)) (nI j) (fun i_3 => (lp_freeDescriptor d pr n (j + 1)))))
def sp_freeDescriptor (d : DK) (pr : Int32) (st : Nat) : Int32 :=
  (lp_freeDescriptor d pr (17 - st) st)
abbrev rm_freeDescriptor : Room := { frames := 2, cells := 0, slots := 0, locals := 42 }
set_option maxHeartbeats 4000000 in
set_option maxRecDepth 100000 in
theorem c_freeDescriptor (l : Launch) (dC : Nat → ClassId) (dI : Nat → Nat → Nat) (kc : Nat → ClassId) (a : Nat → Nat) (sz : Nat) (d : DK) (pr : Int32) (st : Nat) (hst : st ≤ 16) (R' : Int32) (hres : sp_freeDescriptor d pr st = R') : Met l y_freeDescriptor ws_freeDescriptor rm_freeDescriptor (va_Pc [.ref (a 0), .int pr, .int (nI st)] (ml_B (dC, dI) vwCl (tysD kc) 57 a (dcell kc a d) sz)) (va_Qi (fun r (_ : Unit) => r = R') (fun _ t => ml_E (dC, dI) vwCl (tysD kc) 57 a (dcell kc a d) (va_A (ml 57 a (dcell kc a d)) sz) t) (va_A (ml 57 a (dcell kc a d)) sz)) 0 0 (va_A (ml 57 a (dcell kc a d)) sz) := by
  refine Met.ofW (cc := prog_1_method_26_code) (maxL := 4) (ret := (some .int)) (by decide) rfl ?_
  intro p e s m args below meth c s₁ B hml hv
  obtain ⟨rfl, hsz, hP, hK, hD0⟩ := hv
  have hx := B.exec
  have hb := B.bytes
  have hr := B.returns
  have hts := atoms_spec (ws := ws_freeDescriptor) B.pre
  have hown : s.vm.findClass "HandleDesk" = some m.cls := findClass_of_methodNamed B.named
  have hlocks := B.notSynchronized
  subst hsz
  have hD := hD0.self (sz := s.heap.size)
  generalize hAe : va_A (ml 57 a (dcell kc a d)) s.heap.size = A at hD ⊢
  have hA : ∀ q : Nat, s.heap.size ≤ q → A q := fun q h => by rw [← hAe]; exact Or.inr h
  have hS : va_S A s.heap s.heap [] := va_S.rf
  have loop : ∀ (n j : Nat) (H : Heap) (locs : List Loc) (ls : Array Slot), j ≤ 16 → j + n = 16 + 1 → lp_freeDescriptor d pr n j = R' → va_P (dC, dI) vwCl (ml 57 a (dcell kc a d)) H → va_D A (ml 57 a (dcell kc a d)) → va_S A s.heap H locs → lv_has ls 4 [(0, .ref (a 0)), (1, .int pr), (3, .int (nI j))] → W p l e rm_freeDescriptor s m ([.ref (a 0), .int pr, .int (nI st)] : List Value).toArray below meth c H locs 0 0 (MQ below (va_Qi (fun r (_ : Unit) => r = R') (fun _ t => ml_E (dC, dI) vwCl (tysD kc) 57 a (dcell kc a d) A t) A) ([.ref (a 0), .int pr, .int (nI st)] : List Value).toArray s 0 0 A) (F0 m 2 ls []) := by
    intro n
    induction n with
    | zero =>
      intro j H locs ls hj hn
      exact absurd hn (by omega)
    | succ n ih =>
      intro j H locs ls hj hn  hres hP hD hS hl
      rw [lp_freeDescriptor] at hres
      refine lv_iload_n hx hb d_freeDescriptor_2 rfl (lv_at hl 2 rfl) ?_
      refine lv_bipush (v := 16) hx hb d_freeDescriptor_3 (by decide) ?_
      refine lv_icmp_ge (tgt := 25) hx hb d_freeDescriptor_5 (by decide) (fun h_1 => ?_) (fun h_1 => ?_)
      · rw [if_pos h_1] at hres
        refine lv_iconst (v := -1) hx hb d_freeDescriptor_25 (by decide) ?_
        subst hres
        exact ml_iret hx hb hr hlocks hP hK hD hS d_freeDescriptor_26
      · rw [if_neg h_1] at hres
        refine lv_aload_n hx hb d_freeDescriptor_8 rfl (lv_at hl 0 rfl) ?_
        refine lv_iload_n hx hb d_freeDescriptor_9 rfl (lv_at hl 1 rfl) ?_
        refine lv_iload_n hx hb d_freeDescriptor_10 rfl (lv_at hl 2 rfl) ?_
        refine ml_callq (va_runV (As := [.int pr, .int (nI j)]) (rest := []) ⟨hx, hb, hml, hown, hts⟩ (c_fileOf l dC dI kc a _ d pr (nI j) _ rfl) (cwV 2 hts (gd_V mC wd_162 wd_164 ws_1 wd_1 wd_165) rfl rfl rfl hd_fileOf ⟨Nat.le_of_ble_eq_true rfl, Nat.le_of_ble_eq_true rfl⟩) ⟨ml_blind, va_recv hK hP (ci := 0) rfl (ml_at (by decide) (dc_desk kc a d)), ml_pre hP hK hD⟩ rfl rfl hl.1 rfl (lv_room (Nat.le_of_ble_eq_true rfl)) d_freeDescriptor_11 ⟨Nat.zero_le _, Nat.zero_le _⟩) hD hS hA (fun H locs hP hD hS => ?_)
        refine ml_split (fun q_2 => ?_) (fun i_3 q_2 => ?_)
        · rw [q_2, oc_n] at hres
          refine lv_ifnonnullN hx hb d_freeDescriptor_14 ?_
          refine lv_iload_n hx hb d_freeDescriptor_17 rfl (lv_at hl 2 rfl) ?_
          subst hres
          exact ml_iret hx hb hr hlocks hP hK hD hS d_freeDescriptor_18
        · rw [q_2, oc_s] at hres
          refine lv_ifnonnull (tgt := 19) hx hb d_freeDescriptor_14 (by decide) ?_
          refine lv_iinc (v := nI (j + 1)) (lv' := [(3, .int (nI (j + 1))), (0, .ref (a 0)), (1, .int pr)]) hx hb d_freeDescriptor_19 hl (k := 2) rfl (nI_1 j) (by decide) rfl (fun ls hl => ?_)
          refine lv_goto (tgt := 2) hx hb d_freeDescriptor_22 (by decide) ?_
          exact ih (j + 1) _ _ ls (lp_adv (b := (16 : Int32)) (B := 16) rfl (by decide) hj (by assumption)) (by omega) hres hP hD hS (lv_sub hl [1, 2, 0] rfl)
  have hl := lv_entry ([.ref (a 0), .int pr, .int (nI st)]) (n := 4) (Nat.le_of_ble_eq_true rfl)
  rw [lg_entry_eq]
  generalize (lg_sl ([.ref (a 0), .int pr, .int (nI st)]) ++ List.replicate (4 - (lg_sl ([.ref (a 0), .int pr, .int (nI st)])).length) Slot.unset).toArray = ls at hl ⊢
  have hl : lv_has ls 4 [(0, .ref (a 0)), (1, .int pr), (2, .int (nI st))] := hl
  rw [sp_freeDescriptor] at hres
  refine lv_iload_n hx hb d_freeDescriptor_0 rfl (lv_at hl 2 rfl) ?_
  refine lv_istore_n (lv' := [(3, .int (nI st)), (0, .ref (a 0)), (1, .int pr), (2, .int (nI st))]) hx hb d_freeDescriptor_1 rfl hl (by decide) rfl (fun ls hl => ?_)
  exact loop _ st _ _ ls hst (by omega) hres hP hD hS (lv_sub hl [1, 2, 0] rfl)
def lp_usedDescriptors (d : DK) (pr : Int32) : Nat → Nat → Int32 → Int32
  | 0, _, _ => 0
  | n + 1, j, us =>
    (if (16 : Int32) ≤ (nI j) then us else (oc (sp_fileOf d pr (nI j)) (lp_usedDescriptors d pr n (j + 1) us) (fun i_3 => (lp_usedDescriptors d pr n (j + 1) (us + (1 : Int32))))))
def sp_usedDescriptors (d : DK) (pr : Int32) : Int32 :=
  (lp_usedDescriptors d pr (16 + 1) 0 (0 : Int32))
abbrev rm_usedDescriptors : Room := { frames := 2, cells := 0, slots := 0, locals := 42 }
set_option maxHeartbeats 4000000 in
set_option maxRecDepth 100000 in
theorem c_usedDescriptors (l : Launch) (dC : Nat → ClassId) (dI : Nat → Nat → Nat) (kc : Nat → ClassId) (a : Nat → Nat) (sz : Nat) (d : DK) (pr : Int32) (R' : Int32) (hres : sp_usedDescriptors d pr = R') : Met l y_usedDescriptors ws_usedDescriptors rm_usedDescriptors (va_Pc [.ref (a 0), .int pr] (ml_B (dC, dI) vwCl (tysD kc) 57 a (dcell kc a d) sz)) (va_Qi (fun r (_ : Unit) => r = R') (fun _ t => ml_E (dC, dI) vwCl (tysD kc) 57 a (dcell kc a d) (va_A (ml 57 a (dcell kc a d)) sz) t) (va_A (ml 57 a (dcell kc a d)) sz)) 0 0 (va_A (ml 57 a (dcell kc a d)) sz) := by
  refine Met.ofW (cc := prog_1_method_27_code) (maxL := 4) (ret := (some .int)) (by decide) rfl ?_
  intro p e s m args below meth c s₁ B hml hv
  obtain ⟨rfl, hsz, hP, hK, hD0⟩ := hv
  have hx := B.exec
  have hb := B.bytes
  have hr := B.returns
  have hts := atoms_spec (ws := ws_usedDescriptors) B.pre
  have hown : s.vm.findClass "HandleDesk" = some m.cls := findClass_of_methodNamed B.named
  have hlocks := B.notSynchronized
  subst hsz
  have hD := hD0.self (sz := s.heap.size)
  generalize hAe : va_A (ml 57 a (dcell kc a d)) s.heap.size = A at hD ⊢
  have hA : ∀ q : Nat, s.heap.size ≤ q → A q := fun q h => by rw [← hAe]; exact Or.inr h
  have hS : va_S A s.heap s.heap [] := va_S.rf
  have loop : ∀ (n j : Nat) (us : Int32) (H : Heap) (locs : List Loc) (ls : Array Slot), j ≤ 16 → j + n = 16 + 1 → lp_usedDescriptors d pr n j us = R' → va_P (dC, dI) vwCl (ml 57 a (dcell kc a d)) H → va_D A (ml 57 a (dcell kc a d)) → va_S A s.heap H locs → lv_has ls 4 [(0, .ref (a 0)), (1, .int pr), (2, .int us), (3, .int (nI j))] → W p l e rm_usedDescriptors s m ([.ref (a 0), .int pr] : List Value).toArray below meth c H locs 0 0 (MQ below (va_Qi (fun r (_ : Unit) => r = R') (fun _ t => ml_E (dC, dI) vwCl (tysD kc) 57 a (dcell kc a d) A t) A) ([.ref (a 0), .int pr] : List Value).toArray s 0 0 A) (F0 m 4 ls []) := by
    intro n
    induction n with
    | zero =>
      intro j us H locs ls hj hn
      exact absurd hn (by omega)
    | succ n ih =>
      intro j us H locs ls hj hn  hres hP hD hS hl
      rw [lp_usedDescriptors] at hres
      refine lv_iload_n hx hb d_usedDescriptors_4 rfl (lv_at hl 3 rfl) ?_
      refine lv_bipush (v := 16) hx hb d_usedDescriptors_5 (by decide) ?_
      refine lv_icmp_ge (tgt := 28) hx hb d_usedDescriptors_7 (by decide) (fun h_1 => ?_) (fun h_1 => ?_)
      · rw [if_pos h_1] at hres
        refine lv_iload_n hx hb d_usedDescriptors_28 rfl (lv_at hl 2 rfl) ?_
        subst hres
        exact ml_iret hx hb hr hlocks hP hK hD hS d_usedDescriptors_29
      · rw [if_neg h_1] at hres
        refine lv_aload_n hx hb d_usedDescriptors_10 rfl (lv_at hl 0 rfl) ?_
        refine lv_iload_n hx hb d_usedDescriptors_11 rfl (lv_at hl 1 rfl) ?_
        refine lv_iload_n hx hb d_usedDescriptors_12 rfl (lv_at hl 3 rfl) ?_
        refine ml_callq (va_runV (As := [.int pr, .int (nI j)]) (rest := []) ⟨hx, hb, hml, hown, hts⟩ (c_fileOf l dC dI kc a _ d pr (nI j) _ rfl) (cwV 2 hts (gd_V mC wd_162 wd_164 ws_1 wd_1 wd_165) rfl rfl rfl hd_fileOf ⟨Nat.le_of_ble_eq_true rfl, Nat.le_of_ble_eq_true rfl⟩) ⟨ml_blind, va_recv hK hP (ci := 0) rfl (ml_at (by decide) (dc_desk kc a d)), ml_pre hP hK hD⟩ rfl rfl hl.1 rfl (lv_room (Nat.le_of_ble_eq_true rfl)) d_usedDescriptors_13 ⟨Nat.zero_le _, Nat.zero_le _⟩) hD hS hA (fun H locs hP hD hS => ?_)
        refine ml_split (fun q_2 => ?_) (fun i_3 q_2 => ?_)
        · rw [q_2, oc_n] at hres
          refine lv_ifnullN (tgt := 22) hx hb d_usedDescriptors_16 (by decide) ?_
          refine lv_iinc (v := nI (j + 1)) (lv' := [(3, .int (nI (j + 1))), (0, .ref (a 0)), (1, .int pr), (2, .int us)]) hx hb d_usedDescriptors_22 hl (k := 3) rfl (nI_1 j) (by decide) rfl (fun ls hl => ?_)
          refine lv_goto (tgt := 4) hx hb d_usedDescriptors_25 (by decide) ?_
          exact ih (j + 1) us _ _ ls (lp_adv (b := (16 : Int32)) (B := 16) rfl (by decide) hj (by assumption)) (by omega) hres hP hD hS (lv_sub hl [1, 2, 3, 0] rfl)
        · rw [q_2, oc_s] at hres
          refine lv_ifnull hx hb d_usedDescriptors_16 ?_
          refine lv_iinc (v := us + (1 : Int32)) (lv' := [(2, .int (us + (1 : Int32))), (0, .ref (a 0)), (1, .int pr), (3, .int (nI j))]) hx hb d_usedDescriptors_19 hl (k := 2) rfl rfl (by decide) rfl (fun ls hl => ?_)
          refine lv_iinc (v := nI (j + 1)) (lv' := [(3, .int (nI (j + 1))), (2, .int (us + (1 : Int32))), (0, .ref (a 0)), (1, .int pr)]) hx hb d_usedDescriptors_22 hl (k := 3) rfl (nI_1 j) (by decide) rfl (fun ls hl => ?_)
          refine lv_goto (tgt := 4) hx hb d_usedDescriptors_25 (by decide) ?_
          exact ih (j + 1) (us + (1 : Int32)) _ _ ls (lp_adv (b := (16 : Int32)) (B := 16) rfl (by decide) hj (by assumption)) (by omega) hres hP hD hS (lv_sub hl [2, 3, 1, 0] rfl)
  have hl := lv_entry ([.ref (a 0), .int pr]) (n := 4) (Nat.le_of_ble_eq_true rfl)
  rw [lg_entry_eq]
  generalize (lg_sl ([.ref (a 0), .int pr]) ++ List.replicate (4 - (lg_sl ([.ref (a 0), .int pr])).length) Slot.unset).toArray = ls at hl ⊢
  have hl : lv_has ls 4 [(0, .ref (a 0)), (1, .int pr)] := hl
  rw [sp_usedDescriptors] at hres
  refine lv_iconst (v := 0) hx hb d_usedDescriptors_0 (by decide) ?_
  refine lv_istore_n (lv' := [(2, .int (0 : Int32)), (0, .ref (a 0)), (1, .int pr)]) hx hb d_usedDescriptors_1 rfl hl (by decide) rfl (fun ls hl => ?_)
  refine lv_iconst (v := 0) hx hb d_usedDescriptors_2 (by decide) ?_
  refine lv_istore_n (lv' := [(3, .int (0 : Int32)), (2, .int (0 : Int32)), (0, .ref (a 0)), (1, .int pr)]) hx hb d_usedDescriptors_3 rfl hl (by decide) rfl (fun ls hl => ?_)
  exact loop _ 0 (0 : Int32) _ _ ls (Nat.zero_le _) (by omega) hres hP hD hS (lv_sub hl [2, 3, 1, 0] rfl)
def lp_freeFile (d : DK)  : Nat → Nat → Option (Fin 32)
  | 0, _ => none
  | n + 1, j =>
    (if (32 : Int32) ≤ (nI j) then none else (if d.1 7 (Fin.ofNat 32 (nI j).toNatClampNeg).val = (0 : Int32) then (some (Fin.ofNat 32 (nI j).toNatClampNeg)) else (lp_freeFile d n (j + 1))))
def sp_freeFile (d : DK) (st : Nat) : Option (Fin 32) :=
  (if (0 : Int32) ≤ (nI st) then (lp_freeFile d (33 - st) st) else none)
abbrev rm_freeFile : Room := { frames := 0, cells := 0, slots := 0, locals := 0 }
set_option maxHeartbeats 4000000 in
set_option maxRecDepth 100000 in
theorem c_freeFile (l : Launch) (dC : Nat → ClassId) (dI : Nat → Nat → Nat) (kc : Nat → ClassId) (a : Nat → Nat) (sz : Nat) (d : DK) (st : Nat) (hst : st ≤ 32) (R' : Option (Fin 32)) (hres : sp_freeFile d st = R') : Met l y_freeFile ws_freeFile rm_freeFile (va_Pc [.ref (a 0), .int (nI st)] (ml_B (dC, dI) vwCl (tysD kc) 57 a (dcell kc a d) sz)) (va_Qq (fun r (_ : Unit) => r = R'.map (fun i => a (i.val + 3))) (fun _ t => ml_E (dC, dI) vwCl (tysD kc) 57 a (dcell kc a d) (va_A (ml 57 a (dcell kc a d)) sz) t) (va_A (ml 57 a (dcell kc a d)) sz)) 0 0 (va_A (ml 57 a (dcell kc a d)) sz) := by
  refine Met.ofW (cc := prog_1_method_28_code) (maxL := 4) (ret := (some (.object "HandleDesk$OpenFile"))) (by decide) rfl ?_
  intro p e s m args below meth c s₁ B hml hv
  obtain ⟨rfl, hsz, hP, hK, hD0⟩ := hv
  have hx := B.exec
  have hb := B.bytes
  have hr := B.returns
  have hts := atoms_spec (ws := ws_freeFile) B.pre
  have hown : s.vm.findClass "HandleDesk" = some m.cls := findClass_of_methodNamed B.named
  have hlocks := B.notSynchronized
  subst hsz
  have hD := hD0.self (sz := s.heap.size)
  generalize hAe : va_A (ml 57 a (dcell kc a d)) s.heap.size = A at hD ⊢
  have hA : ∀ q : Nat, s.heap.size ≤ q → A q := fun q h => by rw [← hAe]; exact Or.inr h
  have hS : va_S A s.heap s.heap [] := va_S.rf
  have loop : ∀ (n j : Nat) (H : Heap) (locs : List Loc) (ls : Array Slot), j ≤ 32 → j + n = 32 + 1 → lp_freeFile d n j = R' → va_P (dC, dI) vwCl (ml 57 a (dcell kc a d)) H → va_D A (ml 57 a (dcell kc a d)) → va_S A s.heap H locs → lv_has ls 4 [(0, .ref (a 0)), (2, .int (nI j))] → W p l e rm_freeFile s m ([.ref (a 0), .int (nI st)] : List Value).toArray below meth c H locs 0 0 (MQ below (va_Qq (fun r (_ : Unit) => r = R'.map (fun i => a (i.val + 3))) (fun _ t => ml_E (dC, dI) vwCl (tysD kc) 57 a (dcell kc a d) A t) A) ([.ref (a 0), .int (nI st)] : List Value).toArray s 0 0 A) (F0 m 8 ls []) := by
    intro n
    induction n with
    | zero =>
      intro j H locs ls hj hn
      exact absurd hn (by omega)
    | succ n ih =>
      intro j H locs ls hj hn  hres hP hD hS hl
      rw [lp_freeFile] at hres
      refine lv_iload_n hx hb d_freeFile_8 rfl (lv_at hl 1 rfl) ?_
      refine lv_aload_n hx hb d_freeFile_9 rfl (lv_at hl 0 rfl) ?_
      refine ml_get (D := (dC, dI)) hx hb hts in_DC hown hK hP (0) (by decide) (dc_desk kc a d) rfl 1 (by decide) (hts _ (mC _ wd_124)) (fun _ h9 => h9) (v := .ref (a 2)) rfl d_freeFile_10 ?_
      refine ml_alen hx hb hK hP (2) 2 (by decide) (dc_files kc a d) rfl (v := 32) rfl d_freeFile_13 ?_
      refine lv_icmp_ge (tgt := 43) hx hb d_freeFile_14 (by decide) (fun h_1 => ?_) (fun h_1 => ?_)
      · rw [if_pos h_1] at hres
        refine lv_null hx hb d_freeFile_43 ?_
        subst hres
        exact ml_aretN hx hb hr hlocks hP hK hD hS d_freeFile_44
      · rw [if_neg h_1] at hres
        refine lv_aload_n hx hb d_freeFile_17 rfl (lv_at hl 0 rfl) ?_
        refine ml_get (D := (dC, dI)) hx hb hts in_DC hown hK hP (0) (by decide) (dc_desk kc a d) rfl 1 (by decide) (hts _ (mC _ wd_124)) (fun _ h9 => h9) (v := .ref (a 2)) rfl d_freeFile_18 ?_
        refine lv_iload_n hx hb d_freeFile_21 rfl (lv_at hl 1 rfl) ?_
        refine dk_ald_files hx hb hK hP (lp_in (b := (32 : Int32)) (B := 32) rfl (by decide) hj (by assumption)) d_freeFile_22 ?_
        refine lv_astore_n (lv' := [(3, .ref (a ((Fin.ofNat 32 (nI j).toNatClampNeg).val + 3))), (0, .ref (a 0)), (2, .int (nI j))]) hx hb d_freeFile_23 rfl hl (by decide) rfl (fun ls hl => ?_)
        refine lv_aload_n hx hb d_freeFile_24 rfl (lv_at hl 0 rfl) ?_
        refine lv_ifnull hx hb d_freeFile_25 ?_
        refine lv_aload_n hx hb d_freeFile_28 rfl (lv_at hl 0 rfl) ?_
        refine ml_get (D := (dC, dI)) hx hb hts in_FC hown hK hP ((Fin.ofNat 32 (nI j).toNatClampNeg).val + 3) (lt_file (Fin.ofNat 32 (nI j).toNatClampNeg)) (dc_file kc a d (Fin.ofNat 32 (nI j).toNatClampNeg)) rfl 7 (by decide) (hts _ (mC _ wd_38)) (fun _ h9 => h9) (v := .int (d.1 7 (Fin.ofNat 32 (nI j).toNatClampNeg).val)) rfl d_freeFile_29 ?_
        refine lv_if_ne (tgt := 37) hx hb d_freeFile_32 (by decide) (fun h_2 => ?_) (fun h_2 => ?_)
        · rw [if_neg h_2] at hres
          refine lv_iinc (v := nI (j + 1)) (lv' := [(2, .int (nI (j + 1))), (3, .ref (a ((Fin.ofNat 32 (nI j).toNatClampNeg).val + 3))), (0, .ref (a 0))]) hx hb d_freeFile_37 hl (k := 2) rfl (nI_1 j) (by decide) rfl (fun ls hl => ?_)
          refine lv_goto (tgt := 8) hx hb d_freeFile_40 (by decide) ?_
          exact ih (j + 1) _ _ ls (lp_adv (b := (32 : Int32)) (B := 32) rfl (by decide) hj (by assumption)) (by omega) hres hP hD hS (lv_sub hl [2, 0] rfl)
        · rw [if_pos h_2] at hres
          refine lv_aload_n hx hb d_freeFile_35 rfl (lv_at hl 0 rfl) ?_
          subst hres
          exact ml_aretS hx hb hr hlocks hP hK hD hS d_freeFile_36
  have hl := lv_entry ([.ref (a 0), .int (nI st)]) (n := 4) (Nat.le_of_ble_eq_true rfl)
  rw [lg_entry_eq]
  generalize (lg_sl ([.ref (a 0), .int (nI st)]) ++ List.replicate (4 - (lg_sl ([.ref (a 0), .int (nI st)])).length) Slot.unset).toArray = ls at hl ⊢
  have hl : lv_has ls 4 [(0, .ref (a 0)), (1, .int (nI st))] := hl
  rw [sp_freeFile] at hres
  refine lv_iload_n hx hb d_freeFile_0 rfl (lv_at hl 1 rfl) ?_
  refine lv_if_ge (tgt := 6) hx hb d_freeFile_1 (by decide) (fun h_3 => ?_) (fun h_3 => ?_)
  · rw [if_pos h_3] at hres
    refine lv_iload_n hx hb d_freeFile_6 rfl (lv_at hl 1 rfl) ?_
    refine lv_istore_n (lv' := [(2, .int (nI st)), (0, .ref (a 0)), (1, .int (nI st))]) hx hb d_freeFile_7 rfl hl (by decide) rfl (fun ls hl => ?_)
    exact loop _ st _ _ ls hst (by omega) hres hP hD hS (lv_sub hl [1, 0] rfl)
  · rw [if_neg h_3] at hres
    refine lv_null hx hb d_freeFile_4 ?_
    subst hres
    exact ml_aretN hx hb hr hlocks hP hK hD hS d_freeFile_5
def lp_freePipe (d : DK)  : Nat → Nat → Option (Fin 8)
  | 0, _ => none
  | n + 1, j =>
    (if (8 : Int32) ≤ (nI j) then none else (if (sp_Pipe_isGone d (Fin.ofNat 8 (nI j).toNatClampNeg)) = (0 : Int32) then (lp_freePipe d n (j + 1)) else (some (Fin.ofNat 8 (nI j).toNatClampNeg))))
def sp_freePipe (d : DK)  : Option (Fin 8) :=
  (lp_freePipe d (8 + 1) 0)
abbrev rm_freePipe : Room := { frames := 1, cells := 0, slots := 0, locals := 20 }
set_option maxHeartbeats 4000000 in
set_option maxRecDepth 100000 in
theorem c_freePipe (l : Launch) (dC : Nat → ClassId) (dI : Nat → Nat → Nat) (kc : Nat → ClassId) (a : Nat → Nat) (sz : Nat) (d : DK) (R' : Option (Fin 8)) (hres : sp_freePipe d = R') : Met l y_freePipe ws_freePipe rm_freePipe (va_Pc [.ref (a 0)] (ml_B (dC, dI) vwCl (tysD kc) 57 a (dcell kc a d) sz)) (va_Qq (fun r (_ : Unit) => r = R'.map (fun i => a (2 * i.val + 36))) (fun _ t => ml_E (dC, dI) vwCl (tysD kc) 57 a (dcell kc a d) (va_A (ml 57 a (dcell kc a d)) sz) t) (va_A (ml 57 a (dcell kc a d)) sz)) 0 0 (va_A (ml 57 a (dcell kc a d)) sz) := by
  refine Met.ofW (cc := prog_1_method_29_code) (maxL := 3) (ret := (some (.object "HandleDesk$Pipe"))) (by decide) rfl ?_
  intro p e s m args below meth c s₁ B hml hv
  obtain ⟨rfl, hsz, hP, hK, hD0⟩ := hv
  have hx := B.exec
  have hb := B.bytes
  have hr := B.returns
  have hts := atoms_spec (ws := ws_freePipe) B.pre
  have hown : s.vm.findClass "HandleDesk" = some m.cls := findClass_of_methodNamed B.named
  have hlocks := B.notSynchronized
  subst hsz
  have hD := hD0.self (sz := s.heap.size)
  generalize hAe : va_A (ml 57 a (dcell kc a d)) s.heap.size = A at hD ⊢
  have hA : ∀ q : Nat, s.heap.size ≤ q → A q := fun q h => by rw [← hAe]; exact Or.inr h
  have hS : va_S A s.heap s.heap [] := va_S.rf
  have loop : ∀ (n j : Nat) (H : Heap) (locs : List Loc) (ls : Array Slot), j ≤ 8 → j + n = 8 + 1 → lp_freePipe d n j = R' → va_P (dC, dI) vwCl (ml 57 a (dcell kc a d)) H → va_D A (ml 57 a (dcell kc a d)) → va_S A s.heap H locs → lv_has ls 3 [(0, .ref (a 0)), (1, .int (nI j))] → W p l e rm_freePipe s m ([.ref (a 0)] : List Value).toArray below meth c H locs 0 0 (MQ below (va_Qq (fun r (_ : Unit) => r = R'.map (fun i => a (2 * i.val + 36))) (fun _ t => ml_E (dC, dI) vwCl (tysD kc) 57 a (dcell kc a d) A t) A) ([.ref (a 0)] : List Value).toArray s 0 0 A) (F0 m 2 ls []) := by
    intro n
    induction n with
    | zero =>
      intro j H locs ls hj hn
      exact absurd hn (by omega)
    | succ n ih =>
      intro j H locs ls hj hn  hres hP hD hS hl
      rw [lp_freePipe] at hres
      refine lv_iload_n hx hb d_freePipe_2 rfl (lv_at hl 1 rfl) ?_
      refine lv_aload_n hx hb d_freePipe_3 rfl (lv_at hl 0 rfl) ?_
      refine ml_get (D := (dC, dI)) hx hb hts in_DC hown hK hP (0) (by decide) (dc_desk kc a d) rfl 2 (by decide) (hts _ (mC _ wd_125)) (fun _ h9 => h9) (v := .ref (a 35)) rfl d_freePipe_4 ?_
      refine ml_alen hx hb hK hP (35) 3 (by decide) (dc_pipes kc a d) rfl (v := 8) rfl d_freePipe_7 ?_
      refine lv_icmp_ge (tgt := 37) hx hb d_freePipe_8 (by decide) (fun h_1 => ?_) (fun h_1 => ?_)
      · rw [if_pos h_1] at hres
        refine lv_null hx hb d_freePipe_37 ?_
        subst hres
        exact ml_aretN hx hb hr hlocks hP hK hD hS d_freePipe_38
      · rw [if_neg h_1] at hres
        refine lv_aload_n hx hb d_freePipe_11 rfl (lv_at hl 0 rfl) ?_
        refine ml_get (D := (dC, dI)) hx hb hts in_DC hown hK hP (0) (by decide) (dc_desk kc a d) rfl 2 (by decide) (hts _ (mC _ wd_125)) (fun _ h9 => h9) (v := .ref (a 35)) rfl d_freePipe_12 ?_
        refine lv_iload_n hx hb d_freePipe_15 rfl (lv_at hl 1 rfl) ?_
        refine dk_ald_pipes hx hb hK hP (lp_in (b := (8 : Int32)) (B := 8) rfl (by decide) hj (by assumption)) d_freePipe_16 ?_
        refine lv_astore_n (lv' := [(2, .ref (a (2 * (Fin.ofNat 8 (nI j).toNatClampNeg).val + 36))), (0, .ref (a 0)), (1, .int (nI j))]) hx hb d_freePipe_17 rfl hl (by decide) rfl (fun ls hl => ?_)
        refine lv_aload_n hx hb d_freePipe_18 rfl (lv_at hl 0 rfl) ?_
        refine lv_ifnull hx hb d_freePipe_19 ?_
        refine lv_aload_n hx hb d_freePipe_22 rfl (lv_at hl 0 rfl) ?_
        refine ml_calli (va_runV (As := []) (rest := []) ⟨hx, hb, hml, hown, hts⟩ (c_Pipe_isGone l dC dI kc a _ d (Fin.ofNat 8 (nI j).toNatClampNeg) _ rfl) (cwV 0 hts (gd_V mC wd_189 wd_190 wd_191 wd_3 wd_192) rfl rfl rfl hd_Pipe_isGone ⟨Nat.le_of_ble_eq_true rfl, Nat.le_of_ble_eq_true rfl⟩) ⟨ml_blind, va_recv hK hP (ci := 2) rfl (ml_at (lt_pipe (Fin.ofNat 8 (nI j).toNatClampNeg)) (dc_pipe kc a d (Fin.ofNat 8 (nI j).toNatClampNeg))), ml_pre hP hK hD⟩ rfl rfl hl.1 rfl (lv_room (Nat.le_of_ble_eq_true rfl)) d_freePipe_23 ⟨Nat.zero_le _, Nat.zero_le _⟩) hD hS hA (fun H locs hP hD hS => ?_)
        refine lv_if_eq (tgt := 31) hx hb d_freePipe_26 (by decide) (fun h_2 => ?_) (fun h_2 => ?_)
        · rw [if_pos h_2] at hres
          refine lv_iinc (v := nI (j + 1)) (lv' := [(1, .int (nI (j + 1))), (2, .ref (a (2 * (Fin.ofNat 8 (nI j).toNatClampNeg).val + 36))), (0, .ref (a 0))]) hx hb d_freePipe_31 hl (k := 2) rfl (nI_1 j) (by decide) rfl (fun ls hl => ?_)
          refine lv_goto (tgt := 2) hx hb d_freePipe_34 (by decide) ?_
          exact ih (j + 1) _ _ ls (lp_adv (b := (8 : Int32)) (B := 8) rfl (by decide) hj (by assumption)) (by omega) hres hP hD hS (lv_sub hl [2, 0] rfl)
        · rw [if_neg h_2] at hres
          refine lv_aload_n hx hb d_freePipe_29 rfl (lv_at hl 0 rfl) ?_
          subst hres
          exact ml_aretS hx hb hr hlocks hP hK hD hS d_freePipe_30
  have hl := lv_entry ([.ref (a 0)]) (n := 3) (Nat.le_of_ble_eq_true rfl)
  rw [lg_entry_eq]
  generalize (lg_sl ([.ref (a 0)]) ++ List.replicate (3 - (lg_sl ([.ref (a 0)])).length) Slot.unset).toArray = ls at hl ⊢
  have hl : lv_has ls 3 [(0, .ref (a 0))] := hl
  rw [sp_freePipe] at hres
  refine lv_iconst (v := 0) hx hb d_freePipe_0 (by decide) ?_
  refine lv_istore_n (lv' := [(1, .int (0 : Int32)), (0, .ref (a 0))]) hx hb d_freePipe_1 rfl hl (by decide) rfl (fun ls hl => ?_)
  exact loop _ 0 _ _ ls (Nat.zero_le _) (by omega) hres hP hD hS (lv_sub hl [1, 0] rfl)
def sp_joinEnds (d : DK) (pk : Fin 8) (fl : Fin 32) (fm : Fin 32) : DK :=
  (sR (sp_File_begin (sR (sp_File_begin (sp_Pipe_begin d pk) fl (1 : Int32) (1 : Int32)) fl.val (some pk)) fm (1 : Int32) (2 : Int32)) fm.val (some pk))
abbrev rm_joinEnds : Room := { frames := 1, cells := 0, slots := 0, locals := 22 }
set_option maxHeartbeats 4000000 in
set_option maxRecDepth 100000 in
theorem c_joinEnds (l : Launch) (dC : Nat → ClassId) (dI : Nat → Nat → Nat) (kc : Nat → ClassId) (a : Nat → Nat) (sz : Nat) (d : DK) (pk : Fin 8) (fl : Fin 32) (fm : Fin 32) (d' : DK) (hres : sp_joinEnds d pk fl fm = d') : Met l y_joinEnds ws_joinEnds rm_joinEnds (va_Pc [.ref (a (2 * pk.val + 36)), .ref (a (fl.val + 3)), .ref (a (fm.val + 3))] (ml_B (dC, dI) vwCl (tysD kc) 57 a (dcell kc a d) sz)) (va_Qv (fun (_ : Unit) => True) (fun _ t => ml_E (dC, dI) vwCl (tysD kc) 57 a (dcell kc a d') (va_A (ml 57 a (dcell kc a d)) sz) t) (va_A (ml 57 a (dcell kc a d)) sz)) 0 0 (va_A (ml 57 a (dcell kc a d)) sz) := by
  refine Met.ofW (cc := prog_1_method_30_code) (maxL := 3) (ret := (none : Option Jvm.ClassFile.FieldType)) (by decide) rfl ?_
  intro p e s m args below meth c s₁ B hml hv
  obtain ⟨rfl, hsz, hP, hK, hD0⟩ := hv
  have hx := B.exec
  have hb := B.bytes
  have hr := B.returns
  have hts := atoms_spec (ws := ws_joinEnds) B.pre
  have hown : s.vm.findClass "HandleDesk" = some m.cls := findClass_of_methodNamed B.named
  have hlocks := B.notSynchronized
  subst hsz
  have hD := hD0.self (sz := s.heap.size)
  generalize hAe : va_A (ml 57 a (dcell kc a d)) s.heap.size = A at hD ⊢
  have hA : ∀ q : Nat, s.heap.size ≤ q → A q := fun q h => by rw [← hAe]; exact Or.inr h
  have hS : va_S A s.heap s.heap [] := va_S.rf
  have hl := lv_entry ([.ref (a (2 * pk.val + 36)), .ref (a (fl.val + 3)), .ref (a (fm.val + 3))]) (n := 3) (Nat.le_of_ble_eq_true rfl)
  rw [lg_entry_eq]
  generalize (lg_sl ([.ref (a (2 * pk.val + 36)), .ref (a (fl.val + 3)), .ref (a (fm.val + 3))]) ++ List.replicate (3 - (lg_sl ([.ref (a (2 * pk.val + 36)), .ref (a (fl.val + 3)), .ref (a (fm.val + 3))])).length) Slot.unset).toArray = ls at hl ⊢
  have hl : lv_has ls 3 [(0, .ref (a (2 * pk.val + 36))), (1, .ref (a (fl.val + 3))), (2, .ref (a (fm.val + 3)))] := hl
  rw [sp_joinEnds] at hres
  refine lv_aload_n hx hb d_joinEnds_0 rfl (lv_at hl 0 rfl) ?_
  refine ml_callv (va_runV (As := []) (rest := []) ⟨hx, hb, hml, hown, hts⟩ (c_Pipe_begin l dC dI kc a _ d pk _ rfl) (cwV 0 hts (gd_V mC wd_196 wd_197 wd_198 wd_3 wd_199) rfl rfl rfl hd_Pipe_begin ⟨Nat.le_of_ble_eq_true rfl, Nat.le_of_ble_eq_true rfl⟩) ⟨ml_blind, va_recv hK hP (ci := 2) rfl (ml_at (lt_pipe pk) (dc_pipe kc a d pk)), ml_pre hP hK hD⟩ rfl rfl hl.1 rfl (lv_room (Nat.le_of_ble_eq_true rfl)) d_joinEnds_1 ⟨Nat.zero_le _, Nat.zero_le _⟩) hD hS hA (fun H locs hP hD hS => ?_)
  refine lv_aload_n hx hb d_joinEnds_4 rfl (lv_at hl 1 rfl) ?_
  refine lv_iconst (v := 1) hx hb d_joinEnds_5 (by decide) ?_
  refine lv_iconst (v := 1) hx hb d_joinEnds_6 (by decide) ?_
  refine ml_callv (va_runV (As := [.int (1 : Int32), .int (1 : Int32)]) (rest := []) ⟨hx, hb, hml, hown, hts⟩ (c_File_begin l dC dI kc a _ (sp_Pipe_begin d pk) fl (1 : Int32) (1 : Int32) _ rfl) (cwV 2 hts (gd_V mC wd_173 wd_174 wd_175 wd_2 wd_176) rfl rfl rfl hd_File_begin ⟨Nat.le_of_ble_eq_true rfl, Nat.le_of_ble_eq_true rfl⟩) ⟨ml_blind, va_recv hK hP (ci := 1) rfl (ml_at (lt_file fl) (dc_file kc a (sp_Pipe_begin d pk) fl)), ml_pre hP hK hD⟩ rfl rfl hl.1 rfl (lv_room (Nat.le_of_ble_eq_true rfl)) d_joinEnds_7 ⟨Nat.zero_le _, Nat.zero_le _⟩) hD hS hA (fun H locs hP hD hS => ?_)
  refine lv_aload_n hx hb d_joinEnds_10 rfl (lv_at hl 1 rfl) ?_
  refine lv_aload_n hx hb d_joinEnds_11 rfl (lv_at hl 0 rfl) ?_
  refine ml_put (D := (dC, dI)) hx hb hts in_FC tyF tyF_ok nmF hown hK hP hD hS (fl.val + 3) (lt_file fl) (dc_file kc a (sp_File_begin (sp_Pipe_begin d pk) fl (1 : Int32) (1 : Int32)) fl) rfl 3 (by decide) (hts _ (mC _ wd_30)) (fun _ h9 => h9) rfl (ty := (.object "HandleDesk$Pipe")) (by decide +kernel) rfl rfl (Nat.le_of_ble_eq_true rfl) (f' := (dcell kc a (sR (sp_File_begin (sp_Pipe_begin d pk) fl (1 : Int32) (1 : Int32)) fl.val (some pk)))) (dw_row fl (some pk)) d_joinEnds_12 (fun H locs hP hD hS => ?_)
  refine lv_aload_n hx hb d_joinEnds_15 rfl (lv_at hl 2 rfl) ?_
  refine lv_iconst (v := 1) hx hb d_joinEnds_16 (by decide) ?_
  refine lv_iconst (v := 2) hx hb d_joinEnds_17 (by decide) ?_
  refine ml_callv (va_runV (As := [.int (1 : Int32), .int (2 : Int32)]) (rest := []) ⟨hx, hb, hml, hown, hts⟩ (c_File_begin l dC dI kc a _ (sR (sp_File_begin (sp_Pipe_begin d pk) fl (1 : Int32) (1 : Int32)) fl.val (some pk)) fm (1 : Int32) (2 : Int32) _ rfl) (cwV 2 hts (gd_V mC wd_173 wd_174 wd_175 wd_2 wd_176) rfl rfl rfl hd_File_begin ⟨Nat.le_of_ble_eq_true rfl, Nat.le_of_ble_eq_true rfl⟩) ⟨ml_blind, va_recv hK hP (ci := 1) rfl (ml_at (lt_file fm) (dc_file kc a (sR (sp_File_begin (sp_Pipe_begin d pk) fl (1 : Int32) (1 : Int32)) fl.val (some pk)) fm)), ml_pre hP hK hD⟩ rfl rfl hl.1 rfl (lv_room (Nat.le_of_ble_eq_true rfl)) d_joinEnds_18 ⟨Nat.zero_le _, Nat.zero_le _⟩) hD hS hA (fun H locs hP hD hS => ?_)
  refine lv_aload_n hx hb d_joinEnds_21 rfl (lv_at hl 2 rfl) ?_
  refine lv_aload_n hx hb d_joinEnds_22 rfl (lv_at hl 0 rfl) ?_
  refine ml_put (D := (dC, dI)) hx hb hts in_FC tyF tyF_ok nmF hown hK hP hD hS (fm.val + 3) (lt_file fm) (dc_file kc a (sp_File_begin (sR (sp_File_begin (sp_Pipe_begin d pk) fl (1 : Int32) (1 : Int32)) fl.val (some pk)) fm (1 : Int32) (2 : Int32)) fm) rfl 3 (by decide) (hts _ (mC _ wd_30)) (fun _ h9 => h9) rfl (ty := (.object "HandleDesk$Pipe")) (by decide +kernel) rfl rfl (Nat.le_of_ble_eq_true rfl) (f' := (dcell kc a (sR (sp_File_begin (sR (sp_File_begin (sp_Pipe_begin d pk) fl (1 : Int32) (1 : Int32)) fl.val (some pk)) fm (1 : Int32) (2 : Int32)) fm.val (some pk)))) (dw_row fm (some pk)) d_joinEnds_23 (fun H locs hP hD hS => ?_)
  subst hres
  exact ml_vret hx hb hr hlocks hP hK hD hS d_joinEnds_26
def sp_setName (d : DK) (pr : Int32) (x : Int32) (fl : Fin 32) : DK :=
  (if (sp_isProcess pr) = (0 : Int32) then d else (if (sp_isDescriptor x) = (0 : Int32) then d else (sI (sN d ((pr * (16 : Int32)) + x).toNatClampNeg (some fl)) 7 fl.val (((sN d ((pr * (16 : Int32)) + x).toNatClampNeg (some fl)).1 7 fl.val) + (1 : Int32)))))
abbrev rm_setName : Room := { frames := 1, cells := 0, slots := 0, locals := 20 }
set_option maxHeartbeats 4000000 in
set_option maxRecDepth 100000 in
theorem c_setName (l : Launch) (dC : Nat → ClassId) (dI : Nat → Nat → Nat) (kc : Nat → ClassId) (a : Nat → Nat) (sz : Nat) (d : DK) (pr : Int32) (x : Int32) (fl : Fin 32) (d' : DK) (hres : sp_setName d pr x fl = d') : Met l y_setName ws_setName rm_setName (va_Pc [.ref (a 0), .int pr, .int x, .ref (a (fl.val + 3))] (ml_B (dC, dI) vwCl (tysD kc) 57 a (dcell kc a d) sz)) (va_Qv (fun (_ : Unit) => True) (fun _ t => ml_E (dC, dI) vwCl (tysD kc) 57 a (dcell kc a d') (va_A (ml 57 a (dcell kc a d)) sz) t) (va_A (ml 57 a (dcell kc a d)) sz)) 0 0 (va_A (ml 57 a (dcell kc a d)) sz) := by
  refine Met.ofW (cc := prog_1_method_31_code) (maxL := 4) (ret := (none : Option Jvm.ClassFile.FieldType)) (by decide) rfl ?_
  intro p e s m args below meth c s₁ B hml hv
  obtain ⟨rfl, hsz, hP, hK, hD0⟩ := hv
  have hx := B.exec
  have hb := B.bytes
  have hr := B.returns
  have hts := atoms_spec (ws := ws_setName) B.pre
  have hown : s.vm.findClass "HandleDesk" = some m.cls := findClass_of_methodNamed B.named
  have hlocks := B.notSynchronized
  subst hsz
  have hD := hD0.self (sz := s.heap.size)
  generalize hAe : va_A (ml 57 a (dcell kc a d)) s.heap.size = A at hD ⊢
  have hA : ∀ q : Nat, s.heap.size ≤ q → A q := fun q h => by rw [← hAe]; exact Or.inr h
  have hS : va_S A s.heap s.heap [] := va_S.rf
  have hl := lv_entry ([.ref (a 0), .int pr, .int x, .ref (a (fl.val + 3))]) (n := 4) (Nat.le_of_ble_eq_true rfl)
  rw [lg_entry_eq]
  generalize (lg_sl ([.ref (a 0), .int pr, .int x, .ref (a (fl.val + 3))]) ++ List.replicate (4 - (lg_sl ([.ref (a 0), .int pr, .int x, .ref (a (fl.val + 3))])).length) Slot.unset).toArray = ls at hl ⊢
  have hl : lv_has ls 4 [(0, .ref (a 0)), (1, .int pr), (2, .int x), (3, .ref (a (fl.val + 3)))] := hl
  rw [sp_setName] at hres
  refine lv_iload_n hx hb d_setName_0 rfl (lv_at hl 1 rfl) ?_
  refine ml_calli (va_runS (As := [.int pr]) (rest := []) ⟨hx, hb, hml, hown, hts⟩ (c_isProcess l dC dI kc a _ d pr _ rfl) (cwS 1 hts (gd_S mC wd_149 wd_150 wd_1 wd_151) rfl rfl rfl hd_isProcess ⟨Nat.le_of_ble_eq_true rfl, Nat.le_of_ble_eq_true rfl⟩) ⟨ml_blind, ml_pre hP hK hD⟩ rfl rfl hl.1 rfl (lv_room (Nat.le_of_ble_eq_true rfl)) d_setName_1 ⟨Nat.zero_le _, Nat.zero_le _⟩) hD hS hA (fun H locs hP hD hS => ?_)
  refine lv_if_eq (tgt := 36) hx hb d_setName_4 (by decide) (fun h_1 => ?_) (fun h_1 => ?_)
  · rw [if_pos h_1] at hres
    subst hres
    exact ml_vret hx hb hr hlocks hP hK hD hS d_setName_36
  · rw [if_neg h_1] at hres
    refine lv_iload_n hx hb d_setName_7 rfl (lv_at hl 2 rfl) ?_
    refine ml_calli (va_runS (As := [.int x]) (rest := []) ⟨hx, hb, hml, hown, hts⟩ (c_isDescriptor l dC dI kc a _ d x _ rfl) (cwS 1 hts (gd_S mC wd_166 wd_167 wd_1 wd_168) rfl rfl rfl hd_isDescriptor ⟨Nat.le_of_ble_eq_true rfl, Nat.le_of_ble_eq_true rfl⟩) ⟨ml_blind, ml_pre hP hK hD⟩ rfl rfl hl.1 rfl (lv_room (Nat.le_of_ble_eq_true rfl)) d_setName_8 ⟨Nat.zero_le _, Nat.zero_le _⟩) hD hS hA (fun H locs hP hD hS => ?_)
    refine lv_if_eq (tgt := 36) hx hb d_setName_11 (by decide) (fun h_2 => ?_) (fun h_2 => ?_)
    · rw [if_pos h_2] at hres
      subst hres
      exact ml_vret hx hb hr hlocks hP hK hD hS d_setName_36
    · rw [if_neg h_2] at hres
      refine lv_aload_n hx hb d_setName_14 rfl (lv_at hl 0 rfl) ?_
      refine ml_get (D := (dC, dI)) hx hb hts in_DC hown hK hP (0) (by decide) (dc_desk kc a d) rfl 0 (by decide) (hts _ (mC _ wd_123)) (fun _ h9 => h9) (v := .ref (a 1)) rfl d_setName_15 ?_
      refine lv_iload_n hx hb d_setName_18 rfl (lv_at hl 1 rfl) ?_
      refine lv_bipush (v := 16) hx hb d_setName_19 (by decide) ?_
      refine lv_imul hx hb d_setName_21 ?_
      refine lv_iload_n hx hb d_setName_22 rfl (lv_at hl 2 rfl) ?_
      refine lv_iadd hx hb d_setName_23 ?_
      refine lv_aload_n hx hb d_setName_24 rfl (lv_at hl 3 rfl) ?_
      refine dk_ast_named hx hb hK hP hD hS (dk_in (by assumption) (by assumption)) d_setName_25 (fun H locs hP hD hS => ?_)
      refine lv_aload_n hx hb d_setName_26 rfl (lv_at hl 3 rfl) ?_
      refine lv_dup hx hb d_setName_27 rfl ?_
      refine ml_get (D := (dC, dI)) hx hb hts in_FC hown hK hP (fl.val + 3) (lt_file fl) (dc_file kc a (sN d ((pr * (16 : Int32)) + x).toNatClampNeg (some fl)) fl) rfl 7 (by decide) (hts _ (mC _ wd_38)) (fun _ h9 => h9) (v := .int ((sN d ((pr * (16 : Int32)) + x).toNatClampNeg (some fl)).1 7 fl.val)) rfl d_setName_28 ?_
      refine lv_iconst (v := 1) hx hb d_setName_31 (by decide) ?_
      refine lv_iadd hx hb d_setName_32 ?_
      refine ml_put (D := (dC, dI)) hx hb hts in_FC tyF tyF_ok nmF hown hK hP hD hS (fl.val + 3) (lt_file fl) (dc_file kc a (sN d ((pr * (16 : Int32)) + x).toNatClampNeg (some fl)) fl) rfl 7 (by decide) (hts _ (mC _ wd_38)) (fun _ h9 => h9) rfl (ty := .int) (by decide +kernel) rfl rfl (Nat.le_of_ble_eq_true rfl) (f' := (dcell kc a (sI (sN d ((pr * (16 : Int32)) + x).toNatClampNeg (some fl)) 7 fl.val (((sN d ((pr * (16 : Int32)) + x).toNatClampNeg (some fl)).1 7 fl.val) + (1 : Int32))))) (dw_7 fl (((sN d ((pr * (16 : Int32)) + x).toNatClampNeg (some fl)).1 7 fl.val) + (1 : Int32))) d_setName_33 (fun H locs hP hD hS => ?_)
      subst hres
      exact ml_vret hx hb hr hlocks hP hK hD hS d_setName_36
def sp_dropName (d : DK) (pr : Int32) (x : Int32) (fl : Fin 32) : Int32 × DK :=
  (if (sp_isProcess pr) = (0 : Int32) then ((0 : Int32), d) else (if (sp_isDescriptor x) = (0 : Int32) then ((0 : Int32), d) else (if ((sI (sN d ((pr * (16 : Int32)) + x).toNatClampNeg none) 7 fl.val (((sN d ((pr * (16 : Int32)) + x).toNatClampNeg none).1 7 fl.val) - (1 : Int32))).1 7 fl.val) ≤ (0 : Int32) then (oc ((sI (sN d ((pr * (16 : Int32)) + x).toNatClampNeg none) 7 fl.val (((sN d ((pr * (16 : Int32)) + x).toNatClampNeg none).1 7 fl.val) - (1 : Int32))).2.2 fl.val) (if (sI (sN d ((pr * (16 : Int32)) + x).toNatClampNeg none) 7 fl.val (((sN d ((pr * (16 : Int32)) + x).toNatClampNeg none).1 7 fl.val) - (1 : Int32))).1 2 fl.val = (2 : Int32) then ((1 : Int32), sI (sN d ((pr * (16 : Int32)) + x).toNatClampNeg none) 7 fl.val (((sN d ((pr * (16 : Int32)) + x).toNatClampNeg none).1 7 fl.val) - (1 : Int32))) else ((0 : Int32), sI (sN d ((pr * (16 : Int32)) + x).toNatClampNeg none) 7 fl.val (((sN d ((pr * (16 : Int32)) + x).toNatClampNeg none).1 7 fl.val) - (1 : Int32)))) (fun i_5 => (if (sp_Pipe_endClosed (sI (sN d ((pr * (16 : Int32)) + x).toNatClampNeg none) 7 fl.val (((sN d ((pr * (16 : Int32)) + x).toNatClampNeg none).1 7 fl.val) - (1 : Int32))) i_5 ((sI (sN d ((pr * (16 : Int32)) + x).toNatClampNeg none) 7 fl.val (((sN d ((pr * (16 : Int32)) + x).toNatClampNeg none).1 7 fl.val) - (1 : Int32))).1 4 fl.val)).1 2 fl.val = (2 : Int32) then ((1 : Int32), (sp_Pipe_endClosed (sI (sN d ((pr * (16 : Int32)) + x).toNatClampNeg none) 7 fl.val (((sN d ((pr * (16 : Int32)) + x).toNatClampNeg none).1 7 fl.val) - (1 : Int32))) i_5 ((sI (sN d ((pr * (16 : Int32)) + x).toNatClampNeg none) 7 fl.val (((sN d ((pr * (16 : Int32)) + x).toNatClampNeg none).1 7 fl.val) - (1 : Int32))).1 4 fl.val))) else ((0 : Int32), (sp_Pipe_endClosed (sI (sN d ((pr * (16 : Int32)) + x).toNatClampNeg none) 7 fl.val (((sN d ((pr * (16 : Int32)) + x).toNatClampNeg none).1 7 fl.val) - (1 : Int32))) i_5 ((sI (sN d ((pr * (16 : Int32)) + x).toNatClampNeg none) 7 fl.val (((sN d ((pr * (16 : Int32)) + x).toNatClampNeg none).1 7 fl.val) - (1 : Int32))).1 4 fl.val)))))) else ((0 : Int32), sI (sN d ((pr * (16 : Int32)) + x).toNatClampNeg none) 7 fl.val (((sN d ((pr * (16 : Int32)) + x).toNatClampNeg none).1 7 fl.val) - (1 : Int32))))))
abbrev rm_dropName : Room := { frames := 1, cells := 0, slots := 0, locals := 21 }
set_option maxHeartbeats 4000000 in
set_option maxRecDepth 100000 in
theorem c_dropName (l : Launch) (dC : Nat → ClassId) (dI : Nat → Nat → Nat) (kc : Nat → ClassId) (a : Nat → Nat) (sz : Nat) (d : DK) (pr : Int32) (x : Int32) (fl : Fin 32) (R' : Int32) (d' : DK) (hres : sp_dropName d pr x fl = (R', d')) : Met l y_dropName ws_dropName rm_dropName (va_Pc [.ref (a 0), .int pr, .int x, .ref (a (fl.val + 3))] (ml_B (dC, dI) vwCl (tysD kc) 57 a (dcell kc a d) sz)) (va_Qi (fun r (_ : Unit) => r = R') (fun _ t => ml_E (dC, dI) vwCl (tysD kc) 57 a (dcell kc a d') (va_A (ml 57 a (dcell kc a d)) sz) t) (va_A (ml 57 a (dcell kc a d)) sz)) 0 0 (va_A (ml 57 a (dcell kc a d)) sz) := by
  refine Met.ofW (cc := prog_1_method_32_code) (maxL := 4) (ret := (some .boolean)) (by decide) rfl ?_
  intro p e s m args below meth c s₁ B hml hv
  obtain ⟨rfl, hsz, hP, hK, hD0⟩ := hv
  have hx := B.exec
  have hb := B.bytes
  have hr := B.returns
  have hts := atoms_spec (ws := ws_dropName) B.pre
  have hown : s.vm.findClass "HandleDesk" = some m.cls := findClass_of_methodNamed B.named
  have hlocks := B.notSynchronized
  subst hsz
  have hD := hD0.self (sz := s.heap.size)
  generalize hAe : va_A (ml 57 a (dcell kc a d)) s.heap.size = A at hD ⊢
  have hA : ∀ q : Nat, s.heap.size ≤ q → A q := fun q h => by rw [← hAe]; exact Or.inr h
  have hS : va_S A s.heap s.heap [] := va_S.rf
  have hl := lv_entry ([.ref (a 0), .int pr, .int x, .ref (a (fl.val + 3))]) (n := 4) (Nat.le_of_ble_eq_true rfl)
  rw [lg_entry_eq]
  generalize (lg_sl ([.ref (a 0), .int pr, .int x, .ref (a (fl.val + 3))]) ++ List.replicate (4 - (lg_sl ([.ref (a 0), .int pr, .int x, .ref (a (fl.val + 3))])).length) Slot.unset).toArray = ls at hl ⊢
  have hl : lv_has ls 4 [(0, .ref (a 0)), (1, .int pr), (2, .int x), (3, .ref (a (fl.val + 3)))] := hl
  rw [sp_dropName] at hres
  refine lv_iload_n hx hb d_dropName_0 rfl (lv_at hl 1 rfl) ?_
  refine ml_calli (va_runS (As := [.int pr]) (rest := []) ⟨hx, hb, hml, hown, hts⟩ (c_isProcess l dC dI kc a _ d pr _ rfl) (cwS 1 hts (gd_S mC wd_149 wd_150 wd_1 wd_151) rfl rfl rfl hd_isProcess ⟨Nat.le_of_ble_eq_true rfl, Nat.le_of_ble_eq_true rfl⟩) ⟨ml_blind, ml_pre hP hK hD⟩ rfl rfl hl.1 rfl (lv_room (Nat.le_of_ble_eq_true rfl)) d_dropName_1 ⟨Nat.zero_le _, Nat.zero_le _⟩) hD hS hA (fun H locs hP hD hS => ?_)
  refine lv_if_eq (tgt := 14) hx hb d_dropName_4 (by decide) (fun h_1 => ?_) (fun h_1 => ?_)
  · rw [if_pos h_1] at hres
    refine lv_iconst (v := 0) hx hb d_dropName_14 (by decide) ?_
    obtain ⟨rfl, rfl⟩ := Prod.mk.inj hres
    exact ml_zret hx hb hr (by decide) hlocks hP hK hD hS d_dropName_15
  · rw [if_neg h_1] at hres
    refine lv_iload_n hx hb d_dropName_7 rfl (lv_at hl 2 rfl) ?_
    refine ml_calli (va_runS (As := [.int x]) (rest := []) ⟨hx, hb, hml, hown, hts⟩ (c_isDescriptor l dC dI kc a _ d x _ rfl) (cwS 1 hts (gd_S mC wd_166 wd_167 wd_1 wd_168) rfl rfl rfl hd_isDescriptor ⟨Nat.le_of_ble_eq_true rfl, Nat.le_of_ble_eq_true rfl⟩) ⟨ml_blind, ml_pre hP hK hD⟩ rfl rfl hl.1 rfl (lv_room (Nat.le_of_ble_eq_true rfl)) d_dropName_8 ⟨Nat.zero_le _, Nat.zero_le _⟩) hD hS hA (fun H locs hP hD hS => ?_)
    refine lv_if_ne (tgt := 16) hx hb d_dropName_11 (by decide) (fun h_2 => ?_) (fun h_2 => ?_)
    · rw [if_neg h_2] at hres
      refine lv_aload_n hx hb d_dropName_16 rfl (lv_at hl 0 rfl) ?_
      refine ml_get (D := (dC, dI)) hx hb hts in_DC hown hK hP (0) (by decide) (dc_desk kc a d) rfl 0 (by decide) (hts _ (mC _ wd_123)) (fun _ h9 => h9) (v := .ref (a 1)) rfl d_dropName_17 ?_
      refine lv_iload_n hx hb d_dropName_20 rfl (lv_at hl 1 rfl) ?_
      refine lv_bipush (v := 16) hx hb d_dropName_21 (by decide) ?_
      refine lv_imul hx hb d_dropName_23 ?_
      refine lv_iload_n hx hb d_dropName_24 rfl (lv_at hl 2 rfl) ?_
      refine lv_iadd hx hb d_dropName_25 ?_
      refine lv_null hx hb d_dropName_26 ?_
      refine dk_astN_named hx hb hK hP hD hS (dk_in (by assumption) (by assumption)) d_dropName_27 (fun H locs hP hD hS => ?_)
      refine lv_aload_n hx hb d_dropName_28 rfl (lv_at hl 3 rfl) ?_
      refine lv_dup hx hb d_dropName_29 rfl ?_
      refine ml_get (D := (dC, dI)) hx hb hts in_FC hown hK hP (fl.val + 3) (lt_file fl) (dc_file kc a (sN d ((pr * (16 : Int32)) + x).toNatClampNeg none) fl) rfl 7 (by decide) (hts _ (mC _ wd_38)) (fun _ h9 => h9) (v := .int ((sN d ((pr * (16 : Int32)) + x).toNatClampNeg none).1 7 fl.val)) rfl d_dropName_30 ?_
      refine lv_iconst (v := 1) hx hb d_dropName_33 (by decide) ?_
      refine lv_isub hx hb d_dropName_34 ?_
      refine ml_put (D := (dC, dI)) hx hb hts in_FC tyF tyF_ok nmF hown hK hP hD hS (fl.val + 3) (lt_file fl) (dc_file kc a (sN d ((pr * (16 : Int32)) + x).toNatClampNeg none) fl) rfl 7 (by decide) (hts _ (mC _ wd_38)) (fun _ h9 => h9) rfl (ty := .int) (by decide +kernel) rfl rfl (Nat.le_of_ble_eq_true rfl) (f' := (dcell kc a (sI (sN d ((pr * (16 : Int32)) + x).toNatClampNeg none) 7 fl.val (((sN d ((pr * (16 : Int32)) + x).toNatClampNeg none).1 7 fl.val) - (1 : Int32))))) (dw_7 fl (((sN d ((pr * (16 : Int32)) + x).toNatClampNeg none).1 7 fl.val) - (1 : Int32))) d_dropName_35 (fun H locs hP hD hS => ?_)
      refine lv_aload_n hx hb d_dropName_38 rfl (lv_at hl 3 rfl) ?_
      refine ml_get (D := (dC, dI)) hx hb hts in_FC hown hK hP (fl.val + 3) (lt_file fl) (dc_file kc a (sI (sN d ((pr * (16 : Int32)) + x).toNatClampNeg none) 7 fl.val (((sN d ((pr * (16 : Int32)) + x).toNatClampNeg none).1 7 fl.val) - (1 : Int32))) fl) rfl 7 (by decide) (hts _ (mC _ wd_38)) (fun _ h9 => h9) (v := .int ((sI (sN d ((pr * (16 : Int32)) + x).toNatClampNeg none) 7 fl.val (((sN d ((pr * (16 : Int32)) + x).toNatClampNeg none).1 7 fl.val) - (1 : Int32))).1 7 fl.val)) rfl d_dropName_39 ?_
      refine lv_if_le (tgt := 47) hx hb d_dropName_42 (by decide) (fun h_3 => ?_) (fun h_3 => ?_)
      · rw [if_pos h_3] at hres
        refine lv_aload_n hx hb d_dropName_47 rfl (lv_at hl 3 rfl) ?_
        refine ml_get (D := (dC, dI)) hx hb hts in_FC hown hK hP (fl.val + 3) (lt_file fl) (dc_file kc a (sI (sN d ((pr * (16 : Int32)) + x).toNatClampNeg none) 7 fl.val (((sN d ((pr * (16 : Int32)) + x).toNatClampNeg none).1 7 fl.val) - (1 : Int32))) fl) rfl 3 (by decide) (hts _ (mC _ wd_30)) (fun _ h9 => h9) (v := va_rf (((sI (sN d ((pr * (16 : Int32)) + x).toNatClampNeg none) 7 fl.val (((sN d ((pr * (16 : Int32)) + x).toNatClampNeg none).1 7 fl.val) - (1 : Int32))).2.2 fl.val).map (fun i => a (2 * i.val + 36)))) rfl d_dropName_48 ?_
        refine ml_split (fun q_4 => ?_) (fun i_5 q_4 => ?_)
        · rw [q_4, oc_n] at hres
          refine lv_ifnullN (tgt := 65) hx hb d_dropName_51 (by decide) ?_
          refine lv_aload_n hx hb d_dropName_65 rfl (lv_at hl 3 rfl) ?_
          refine ml_get (D := (dC, dI)) hx hb hts in_FC hown hK hP (fl.val + 3) (lt_file fl) (dc_file kc a (sI (sN d ((pr * (16 : Int32)) + x).toNatClampNeg none) 7 fl.val (((sN d ((pr * (16 : Int32)) + x).toNatClampNeg none).1 7 fl.val) - (1 : Int32))) fl) rfl 1 (by decide) (hts _ (mC _ wd_26)) (fun _ h9 => h9) (v := .int ((sI (sN d ((pr * (16 : Int32)) + x).toNatClampNeg none) 7 fl.val (((sN d ((pr * (16 : Int32)) + x).toNatClampNeg none).1 7 fl.val) - (1 : Int32))).1 2 fl.val)) rfl d_dropName_66 ?_
          refine lv_iconst (v := 2) hx hb d_dropName_69 (by decide) ?_
          refine lv_icmp_ne (tgt := 77) hx hb d_dropName_70 (by decide) (fun h_6 => ?_) (fun h_6 => ?_)
          · rw [if_neg h_6] at hres
            refine lv_iconst (v := 0) hx hb d_dropName_77 (by decide) ?_
            obtain ⟨rfl, rfl⟩ := Prod.mk.inj hres
            exact ml_zret hx hb hr (by decide) hlocks hP hK hD hS d_dropName_78
          · rw [if_pos h_6] at hres
            refine lv_iconst (v := 1) hx hb d_dropName_73 (by decide) ?_
            refine lv_goto (tgt := 78) hx hb d_dropName_74 (by decide) ?_
            obtain ⟨rfl, rfl⟩ := Prod.mk.inj hres
            exact ml_zret hx hb hr (by decide) hlocks hP hK hD hS d_dropName_78
        · rw [q_4, oc_s] at hres
          refine lv_ifnull hx hb d_dropName_51 ?_
          refine lv_aload_n hx hb d_dropName_54 rfl (lv_at hl 3 rfl) ?_
          refine ml_get (D := (dC, dI)) hx hb hts in_FC hown hK hP (fl.val + 3) (lt_file fl) (dc_file kc a (sI (sN d ((pr * (16 : Int32)) + x).toNatClampNeg none) 7 fl.val (((sN d ((pr * (16 : Int32)) + x).toNatClampNeg none).1 7 fl.val) - (1 : Int32))) fl) rfl 3 (by decide) (hts _ (mC _ wd_30)) (fun _ h9 => h9) (v := va_rf (((sI (sN d ((pr * (16 : Int32)) + x).toNatClampNeg none) 7 fl.val (((sN d ((pr * (16 : Int32)) + x).toNatClampNeg none).1 7 fl.val) - (1 : Int32))).2.2 fl.val).map (fun i => a (2 * i.val + 36)))) rfl d_dropName_55 ?_
          refine ml_isS q_4 ?_
          refine lv_aload_n hx hb d_dropName_58 rfl (lv_at hl 3 rfl) ?_
          refine ml_get (D := (dC, dI)) hx hb hts in_FC hown hK hP (fl.val + 3) (lt_file fl) (dc_file kc a (sI (sN d ((pr * (16 : Int32)) + x).toNatClampNeg none) 7 fl.val (((sN d ((pr * (16 : Int32)) + x).toNatClampNeg none).1 7 fl.val) - (1 : Int32))) fl) rfl 4 (by decide) (hts _ (mC _ wd_32)) (fun _ h9 => h9) (v := .int ((sI (sN d ((pr * (16 : Int32)) + x).toNatClampNeg none) 7 fl.val (((sN d ((pr * (16 : Int32)) + x).toNatClampNeg none).1 7 fl.val) - (1 : Int32))).1 4 fl.val)) rfl d_dropName_59 ?_
          refine ml_callv (va_runV (As := [.int ((sI (sN d ((pr * (16 : Int32)) + x).toNatClampNeg none) 7 fl.val (((sN d ((pr * (16 : Int32)) + x).toNatClampNeg none).1 7 fl.val) - (1 : Int32))).1 4 fl.val)]) (rest := []) ⟨hx, hb, hml, hown, hts⟩ (c_Pipe_endClosed l dC dI kc a _ (sI (sN d ((pr * (16 : Int32)) + x).toNatClampNeg none) 7 fl.val (((sN d ((pr * (16 : Int32)) + x).toNatClampNeg none).1 7 fl.val) - (1 : Int32))) i_5 ((sI (sN d ((pr * (16 : Int32)) + x).toNatClampNeg none) 7 fl.val (((sN d ((pr * (16 : Int32)) + x).toNatClampNeg none).1 7 fl.val) - (1 : Int32))).1 4 fl.val) _ rfl) (cwV 1 hts (gd_V mC wd_212 wd_213 wd_214 wd_3 wd_215) rfl rfl rfl hd_Pipe_endClosed ⟨Nat.le_of_ble_eq_true rfl, Nat.le_of_ble_eq_true rfl⟩) ⟨ml_blind, va_recv hK hP (ci := 2) rfl (ml_at (lt_pipe i_5) (dc_pipe kc a (sI (sN d ((pr * (16 : Int32)) + x).toNatClampNeg none) 7 fl.val (((sN d ((pr * (16 : Int32)) + x).toNatClampNeg none).1 7 fl.val) - (1 : Int32))) i_5)), ml_pre hP hK hD⟩ rfl rfl hl.1 rfl (lv_room (Nat.le_of_ble_eq_true rfl)) d_dropName_62 ⟨Nat.zero_le _, Nat.zero_le _⟩) hD hS hA (fun H locs hP hD hS => ?_)
          refine lv_aload_n hx hb d_dropName_65 rfl (lv_at hl 3 rfl) ?_
          refine ml_get (D := (dC, dI)) hx hb hts in_FC hown hK hP (fl.val + 3) (lt_file fl) (dc_file kc a (sp_Pipe_endClosed (sI (sN d ((pr * (16 : Int32)) + x).toNatClampNeg none) 7 fl.val (((sN d ((pr * (16 : Int32)) + x).toNatClampNeg none).1 7 fl.val) - (1 : Int32))) i_5 ((sI (sN d ((pr * (16 : Int32)) + x).toNatClampNeg none) 7 fl.val (((sN d ((pr * (16 : Int32)) + x).toNatClampNeg none).1 7 fl.val) - (1 : Int32))).1 4 fl.val)) fl) rfl 1 (by decide) (hts _ (mC _ wd_26)) (fun _ h9 => h9) (v := .int ((sp_Pipe_endClosed (sI (sN d ((pr * (16 : Int32)) + x).toNatClampNeg none) 7 fl.val (((sN d ((pr * (16 : Int32)) + x).toNatClampNeg none).1 7 fl.val) - (1 : Int32))) i_5 ((sI (sN d ((pr * (16 : Int32)) + x).toNatClampNeg none) 7 fl.val (((sN d ((pr * (16 : Int32)) + x).toNatClampNeg none).1 7 fl.val) - (1 : Int32))).1 4 fl.val)).1 2 fl.val)) rfl d_dropName_66 ?_
          refine lv_iconst (v := 2) hx hb d_dropName_69 (by decide) ?_
          refine lv_icmp_ne (tgt := 77) hx hb d_dropName_70 (by decide) (fun h_7 => ?_) (fun h_7 => ?_)
          · rw [if_neg h_7] at hres
            refine lv_iconst (v := 0) hx hb d_dropName_77 (by decide) ?_
            obtain ⟨rfl, rfl⟩ := Prod.mk.inj hres
            exact ml_zret hx hb hr (by decide) hlocks hP hK hD hS d_dropName_78
          · rw [if_pos h_7] at hres
            refine lv_iconst (v := 1) hx hb d_dropName_73 (by decide) ?_
            refine lv_goto (tgt := 78) hx hb d_dropName_74 (by decide) ?_
            obtain ⟨rfl, rfl⟩ := Prod.mk.inj hres
            exact ml_zret hx hb hr (by decide) hlocks hP hK hD hS d_dropName_78
      · rw [if_neg h_3] at hres
        refine lv_iconst (v := 0) hx hb d_dropName_45 (by decide) ?_
        obtain ⟨rfl, rfl⟩ := Prod.mk.inj hres
        exact ml_zret hx hb hr (by decide) hlocks hP hK hD hS d_dropName_46
    · rw [if_pos h_2] at hres
      refine lv_iconst (v := 0) hx hb d_dropName_14 (by decide) ?_
      obtain ⟨rfl, rfl⟩ := Prod.mk.inj hres
      exact ml_zret hx hb hr (by decide) hlocks hP hK hD hS d_dropName_15
def sp_keepLeft (d : DK) (ino : Int32) : DK :=
  (if (d.1 0 0) < (0 : Int32) then d else (if (16 : Int32) ≤ (d.1 0 0) then d else (sI (sI d 1 (d.1 0 0).toNatClampNeg ino) 0 0 (((sI d 1 (d.1 0 0).toNatClampNeg ino).1 0 0) + (1 : Int32)))))
abbrev rm_keepLeft : Room := { frames := 0, cells := 0, slots := 0, locals := 0 }
set_option maxHeartbeats 4000000 in
set_option maxRecDepth 100000 in
theorem c_keepLeft (l : Launch) (dC : Nat → ClassId) (dI : Nat → Nat → Nat) (kc : Nat → ClassId) (a : Nat → Nat) (sz : Nat) (d : DK) (ino : Int32) (d' : DK) (hres : sp_keepLeft d ino = d') : Met l y_keepLeft ws_keepLeft rm_keepLeft (va_Pc [.ref (a 0), .int ino] (ml_B (dC, dI) vwCl (tysD kc) 57 a (dcell kc a d) sz)) (va_Qv (fun (_ : Unit) => True) (fun _ t => ml_E (dC, dI) vwCl (tysD kc) 57 a (dcell kc a d') (va_A (ml 57 a (dcell kc a d)) sz) t) (va_A (ml 57 a (dcell kc a d)) sz)) 0 0 (va_A (ml 57 a (dcell kc a d)) sz) := by
  refine Met.ofW (cc := prog_1_method_33_code) (maxL := 2) (ret := (none : Option Jvm.ClassFile.FieldType)) (by decide) rfl ?_
  intro p e s m args below meth c s₁ B hml hv
  obtain ⟨rfl, hsz, hP, hK, hD0⟩ := hv
  have hx := B.exec
  have hb := B.bytes
  have hr := B.returns
  have hts := atoms_spec (ws := ws_keepLeft) B.pre
  have hown : s.vm.findClass "HandleDesk" = some m.cls := findClass_of_methodNamed B.named
  have hlocks := B.notSynchronized
  subst hsz
  have hD := hD0.self (sz := s.heap.size)
  generalize hAe : va_A (ml 57 a (dcell kc a d)) s.heap.size = A at hD ⊢
  have hA : ∀ q : Nat, s.heap.size ≤ q → A q := fun q h => by rw [← hAe]; exact Or.inr h
  have hS : va_S A s.heap s.heap [] := va_S.rf
  have hl := lv_entry ([.ref (a 0), .int ino]) (n := 2) (Nat.le_of_ble_eq_true rfl)
  rw [lg_entry_eq]
  generalize (lg_sl ([.ref (a 0), .int ino]) ++ List.replicate (2 - (lg_sl ([.ref (a 0), .int ino])).length) Slot.unset).toArray = ls at hl ⊢
  have hl : lv_has ls 2 [(0, .ref (a 0)), (1, .int ino)] := hl
  rw [sp_keepLeft] at hres
  refine lv_aload_n hx hb d_keepLeft_0 rfl (lv_at hl 0 rfl) ?_
  refine ml_get (D := (dC, dI)) hx hb hts in_DC hown hK hP (0) (by decide) (dc_desk kc a d) rfl 4 (by decide) (hts _ (mC _ wd_127)) (fun _ h9 => h9) (v := .int (d.1 0 0)) rfl d_keepLeft_1 ?_
  refine lv_if_lt (tgt := 39) hx hb d_keepLeft_4 (by decide) (fun h_1 => ?_) (fun h_1 => ?_)
  · rw [if_pos h_1] at hres
    subst hres
    exact ml_vret hx hb hr hlocks hP hK hD hS d_keepLeft_39
  · rw [if_neg h_1] at hres
    refine lv_aload_n hx hb d_keepLeft_7 rfl (lv_at hl 0 rfl) ?_
    refine ml_get (D := (dC, dI)) hx hb hts in_DC hown hK hP (0) (by decide) (dc_desk kc a d) rfl 4 (by decide) (hts _ (mC _ wd_127)) (fun _ h9 => h9) (v := .int (d.1 0 0)) rfl d_keepLeft_8 ?_
    refine lv_aload_n hx hb d_keepLeft_11 rfl (lv_at hl 0 rfl) ?_
    refine ml_get (D := (dC, dI)) hx hb hts in_DC hown hK hP (0) (by decide) (dc_desk kc a d) rfl 3 (by decide) (hts _ (mC _ wd_126)) (fun _ h9 => h9) (v := .ref (a 52)) rfl d_keepLeft_12 ?_
    refine ml_alen hx hb hK hP (52) 0 (by decide) (dc_left kc a d) rfl (v := 16) rfl d_keepLeft_15 ?_
    refine lv_icmp_ge (tgt := 39) hx hb d_keepLeft_16 (by decide) (fun h_2 => ?_) (fun h_2 => ?_)
    · rw [if_pos h_2] at hres
      subst hres
      exact ml_vret hx hb hr hlocks hP hK hD hS d_keepLeft_39
    · rw [if_neg h_2] at hres
      refine lv_aload_n hx hb d_keepLeft_19 rfl (lv_at hl 0 rfl) ?_
      refine ml_get (D := (dC, dI)) hx hb hts in_DC hown hK hP (0) (by decide) (dc_desk kc a d) rfl 3 (by decide) (hts _ (mC _ wd_126)) (fun _ h9 => h9) (v := .ref (a 52)) rfl d_keepLeft_20 ?_
      refine lv_aload_n hx hb d_keepLeft_23 rfl (lv_at hl 0 rfl) ?_
      refine ml_get (D := (dC, dI)) hx hb hts in_DC hown hK hP (0) (by decide) (dc_desk kc a d) rfl 4 (by decide) (hts _ (mC _ wd_127)) (fun _ h9 => h9) (v := .int (d.1 0 0)) rfl d_keepLeft_24 ?_
      refine lv_iload_n hx hb d_keepLeft_27 rfl (lv_at hl 1 rfl) ?_
      refine ml_iast hx hb hK hP hD hS (52) 0 (by decide) (dc_left kc a d) rfl (in_cmp (b := (16 : Int32)) rfl (by decide) (by assumption) (by assumption)) (f' := (dcell kc a (sI d 1 (d.1 0 0).toNatClampNeg ino))) (dw_left (d.1 0 0).toNatClampNeg ino) d_keepLeft_28 (fun H locs hP hD hS => ?_)
      refine lv_aload_n hx hb d_keepLeft_29 rfl (lv_at hl 0 rfl) ?_
      refine lv_dup hx hb d_keepLeft_30 rfl ?_
      refine ml_get (D := (dC, dI)) hx hb hts in_DC hown hK hP (0) (by decide) (dc_desk kc a (sI d 1 (d.1 0 0).toNatClampNeg ino)) rfl 4 (by decide) (hts _ (mC _ wd_127)) (fun _ h9 => h9) (v := .int ((sI d 1 (d.1 0 0).toNatClampNeg ino).1 0 0)) rfl d_keepLeft_31 ?_
      refine lv_iconst (v := 1) hx hb d_keepLeft_34 (by decide) ?_
      refine lv_iadd hx hb d_keepLeft_35 ?_
      refine ml_put (D := (dC, dI)) hx hb hts in_DC tyD tyD_ok nmD hown hK hP hD hS (0) (by decide) (dc_desk kc a (sI d 1 (d.1 0 0).toNatClampNeg ino)) rfl 4 (by decide) (hts _ (mC _ wd_127)) (fun _ h9 => h9) rfl (ty := .int) (by decide +kernel) rfl rfl (Nat.le_of_ble_eq_true rfl) (f' := (dcell kc a (sI (sI d 1 (d.1 0 0).toNatClampNeg ino) 0 0 (((sI d 1 (d.1 0 0).toNatClampNeg ino).1 0 0) + (1 : Int32))))) (dw_0 (((sI d 1 (d.1 0 0).toNatClampNeg ino).1 0 0) + (1 : Int32))) d_keepLeft_36 (fun H locs hP hD hS => ?_)
      subst hres
      exact ml_vret hx hb hr hlocks hP hK hD hS d_keepLeft_39
def lp_takeBack (bt : Int32) : Nat → Nat → DK → DK
  | 0, _, d => d
  | n + 1, j, d =>
    (if bt ≤ (nI j) then d else (lp_takeBack bt n (j + 1) (sp_Scr_addLast (sp_Scr_addLast (sp_Scr_addLast (sp_Con_dropLastOfLine d) (8 : Int32)) (32 : Int32)) (8 : Int32))))
def sp_takeBack (d : DK) (bt : Int32) : DK :=
  (lp_takeBack bt (bt.toNatClampNeg + 1) 0 d)
abbrev rm_takeBack : Room := { frames := 1, cells := 0, slots := 0, locals := 21 }
set_option maxHeartbeats 4000000 in
set_option maxRecDepth 100000 in
theorem c_takeBack (l : Launch) (dC : Nat → ClassId) (dI : Nat → Nat → Nat) (kc : Nat → ClassId) (a : Nat → Nat) (sz : Nat) (d : DK) (bt : Int32) (d' : DK) (hres : sp_takeBack d bt = d') : Met l y_takeBack ws_takeBack rm_takeBack (va_Pc [.ref (a 0), .int bt] (ml_B (dC, dI) vwCl (tysD kc) 57 a (dcell kc a d) sz)) (va_Qv (fun (_ : Unit) => True) (fun _ t => ml_E (dC, dI) vwCl (tysD kc) 57 a (dcell kc a d') (va_A (ml 57 a (dcell kc a d)) sz) t) (va_A (ml 57 a (dcell kc a d)) sz)) 0 0 (va_A (ml 57 a (dcell kc a d)) sz) := by
  refine Met.ofW (cc := prog_1_method_34_code) (maxL := 3) (ret := (none : Option Jvm.ClassFile.FieldType)) (by decide) rfl ?_
  intro p e s m args below meth c s₁ B hml hv
  obtain ⟨rfl, hsz, hP, hK, hD0⟩ := hv
  have hx := B.exec
  have hb := B.bytes
  have hr := B.returns
  have hts := atoms_spec (ws := ws_takeBack) B.pre
  have hown : s.vm.findClass "HandleDesk" = some m.cls := findClass_of_methodNamed B.named
  have hlocks := B.notSynchronized
  subst hsz
  have hD := hD0.self (sz := s.heap.size)
  generalize hAe : va_A (ml 57 a (dcell kc a d)) s.heap.size = A at hD ⊢
  have hA : ∀ q : Nat, s.heap.size ≤ q → A q := fun q h => by rw [← hAe]; exact Or.inr h
  have hS : va_S A s.heap s.heap [] := va_S.rf
  have loop : ∀ (n j : Nat) (d : DK) (H : Heap) (locs : List Loc) (ls : Array Slot), j ≤ bt.toNatClampNeg → j + n = bt.toNatClampNeg + 1 → lp_takeBack bt n j d = d' → va_P (dC, dI) vwCl (ml 57 a (dcell kc a d)) H → va_D A (ml 57 a (dcell kc a d)) → va_S A s.heap H locs → lv_has ls 3 [(0, .ref (a 0)), (1, .int bt), (2, .int (nI j))] → W p l e rm_takeBack s m ([.ref (a 0), .int bt] : List Value).toArray below meth c H locs 0 0 (MQ below (va_Qv (fun (_ : Unit) => True) (fun _ t => ml_E (dC, dI) vwCl (tysD kc) 57 a (dcell kc a d') A t) A) ([.ref (a 0), .int bt] : List Value).toArray s 0 0 A) (F0 m 2 ls []) := by
    intro n
    induction n with
    | zero =>
      intro j d H locs ls hj hn
      exact absurd hn (by omega)
    | succ n ih =>
      intro j d H locs ls hj hn  hres hP hD hS hl
      rw [lp_takeBack] at hres
      refine lv_iload_n hx hb d_takeBack_2 rfl (lv_at hl 2 rfl) ?_
      refine lv_iload_n hx hb d_takeBack_3 rfl (lv_at hl 1 rfl) ?_
      refine lv_icmp_ge (tgt := 47) hx hb d_takeBack_4 (by decide) (fun h_1 => ?_) (fun h_1 => ?_)
      · rw [if_pos h_1] at hres
        subst hres
        exact ml_vret hx hb hr hlocks hP hK hD hS d_takeBack_47
      · rw [if_neg h_1] at hres
        refine lv_aload_n hx hb d_takeBack_7 rfl (lv_at hl 0 rfl) ?_
        refine ml_get (D := (dC, dI)) hx hb hts in_DC hown hK hP (0) (by decide) (dc_desk kc a d) rfl 5 (by decide) (hts _ (mC _ wd_128)) (fun _ h9 => h9) (v := .ref (a 53)) rfl d_takeBack_8 ?_
        refine ml_callv (va_runV (As := []) (rest := []) ⟨hx, hb, hml, hown, hts⟩ (c_Con_dropLastOfLine l dC dI kc a _ d _ rfl) (cwV 0 hts (gd_V mC wd_286 wd_287 wd_288 wd_4 wd_289) rfl rfl rfl hd_Con_dropLastOfLine ⟨Nat.le_of_ble_eq_true rfl, Nat.le_of_ble_eq_true rfl⟩) ⟨ml_blind, va_recv hK hP (ci := 3) rfl (ml_at (by decide) (dc_con kc a d)), ml_pre hP hK hD⟩ rfl rfl hl.1 rfl (lv_room (Nat.le_of_ble_eq_true rfl)) d_takeBack_11 ⟨Nat.zero_le _, Nat.zero_le _⟩) hD hS hA (fun H locs hP hD hS => ?_)
        refine lv_aload_n hx hb d_takeBack_14 rfl (lv_at hl 0 rfl) ?_
        refine ml_get (D := (dC, dI)) hx hb hts in_DC hown hK hP (0) (by decide) (dc_desk kc a (sp_Con_dropLastOfLine d)) rfl 6 (by decide) (hts _ (mC _ wd_129)) (fun _ h9 => h9) (v := .ref (a 55)) rfl d_takeBack_15 ?_
        refine lv_bipush (v := 8) hx hb d_takeBack_18 (by decide) ?_
        refine ml_callv (va_runV (As := [.int (8 : Int32)]) (rest := []) ⟨hx, hb, hml, hown, hts⟩ (c_Scr_addLast l dC dI kc a _ (sp_Con_dropLastOfLine d) (8 : Int32) _ rfl) (cwV 1 hts (gd_V mC wd_290 wd_291 wd_292 wd_5 wd_293) rfl rfl rfl hd_Scr_addLast ⟨Nat.le_of_ble_eq_true rfl, Nat.le_of_ble_eq_true rfl⟩) ⟨ml_blind, va_recv hK hP (ci := 4) rfl (ml_at (by decide) (dc_scr kc a (sp_Con_dropLastOfLine d))), ml_pre hP hK hD⟩ rfl rfl hl.1 rfl (lv_room (Nat.le_of_ble_eq_true rfl)) d_takeBack_20 ⟨Nat.zero_le _, Nat.zero_le _⟩) hD hS hA (fun H locs hP hD hS => ?_)
        refine lv_aload_n hx hb d_takeBack_23 rfl (lv_at hl 0 rfl) ?_
        refine ml_get (D := (dC, dI)) hx hb hts in_DC hown hK hP (0) (by decide) (dc_desk kc a (sp_Scr_addLast (sp_Con_dropLastOfLine d) (8 : Int32))) rfl 6 (by decide) (hts _ (mC _ wd_129)) (fun _ h9 => h9) (v := .ref (a 55)) rfl d_takeBack_24 ?_
        refine lv_bipush (v := 32) hx hb d_takeBack_27 (by decide) ?_
        refine ml_callv (va_runV (As := [.int (32 : Int32)]) (rest := []) ⟨hx, hb, hml, hown, hts⟩ (c_Scr_addLast l dC dI kc a _ (sp_Scr_addLast (sp_Con_dropLastOfLine d) (8 : Int32)) (32 : Int32) _ rfl) (cwV 1 hts (gd_V mC wd_290 wd_291 wd_292 wd_5 wd_293) rfl rfl rfl hd_Scr_addLast ⟨Nat.le_of_ble_eq_true rfl, Nat.le_of_ble_eq_true rfl⟩) ⟨ml_blind, va_recv hK hP (ci := 4) rfl (ml_at (by decide) (dc_scr kc a (sp_Scr_addLast (sp_Con_dropLastOfLine d) (8 : Int32)))), ml_pre hP hK hD⟩ rfl rfl hl.1 rfl (lv_room (Nat.le_of_ble_eq_true rfl)) d_takeBack_29 ⟨Nat.zero_le _, Nat.zero_le _⟩) hD hS hA (fun H locs hP hD hS => ?_)
        refine lv_aload_n hx hb d_takeBack_32 rfl (lv_at hl 0 rfl) ?_
        refine ml_get (D := (dC, dI)) hx hb hts in_DC hown hK hP (0) (by decide) (dc_desk kc a (sp_Scr_addLast (sp_Scr_addLast (sp_Con_dropLastOfLine d) (8 : Int32)) (32 : Int32))) rfl 6 (by decide) (hts _ (mC _ wd_129)) (fun _ h9 => h9) (v := .ref (a 55)) rfl d_takeBack_33 ?_
        refine lv_bipush (v := 8) hx hb d_takeBack_36 (by decide) ?_
        refine ml_callv (va_runV (As := [.int (8 : Int32)]) (rest := []) ⟨hx, hb, hml, hown, hts⟩ (c_Scr_addLast l dC dI kc a _ (sp_Scr_addLast (sp_Scr_addLast (sp_Con_dropLastOfLine d) (8 : Int32)) (32 : Int32)) (8 : Int32) _ rfl) (cwV 1 hts (gd_V mC wd_290 wd_291 wd_292 wd_5 wd_293) rfl rfl rfl hd_Scr_addLast ⟨Nat.le_of_ble_eq_true rfl, Nat.le_of_ble_eq_true rfl⟩) ⟨ml_blind, va_recv hK hP (ci := 4) rfl (ml_at (by decide) (dc_scr kc a (sp_Scr_addLast (sp_Scr_addLast (sp_Con_dropLastOfLine d) (8 : Int32)) (32 : Int32)))), ml_pre hP hK hD⟩ rfl rfl hl.1 rfl (lv_room (Nat.le_of_ble_eq_true rfl)) d_takeBack_38 ⟨Nat.zero_le _, Nat.zero_le _⟩) hD hS hA (fun H locs hP hD hS => ?_)
        refine lv_iinc (v := nI (j + 1)) (lv' := [(2, .int (nI (j + 1))), (0, .ref (a 0)), (1, .int bt)]) hx hb d_takeBack_41 hl (k := 2) rfl (nI_1 j) (by decide) rfl (fun ls hl => ?_)
        refine lv_goto (tgt := 2) hx hb d_takeBack_44 (by decide) ?_
        exact ih (j + 1) (sp_Scr_addLast (sp_Scr_addLast (sp_Scr_addLast (sp_Con_dropLastOfLine d) (8 : Int32)) (32 : Int32)) (8 : Int32)) _ _ ls (lp_advB hj (by assumption)) (by omega) hres hP hD hS (lv_sub hl [1, 2, 0] rfl)
  have hl := lv_entry ([.ref (a 0), .int bt]) (n := 3) (Nat.le_of_ble_eq_true rfl)
  rw [lg_entry_eq]
  generalize (lg_sl ([.ref (a 0), .int bt]) ++ List.replicate (3 - (lg_sl ([.ref (a 0), .int bt])).length) Slot.unset).toArray = ls at hl ⊢
  have hl : lv_has ls 3 [(0, .ref (a 0)), (1, .int bt)] := hl
  rw [sp_takeBack] at hres
  refine lv_iconst (v := 0) hx hb d_takeBack_0 (by decide) ?_
  refine lv_istore_n (lv' := [(2, .int (0 : Int32)), (0, .ref (a 0)), (1, .int bt)]) hx hb d_takeBack_1 rfl hl (by decide) rfl (fun ls hl => ?_)
  exact loop _ 0 d _ _ ls (Nat.zero_le _) (by omega) hres hP hD hS (lv_sub hl [1, 2, 0] rfl)
end
section
/-! The descriptor that is found is one of the sixteen. -/
theorem fd_lp (d : DK) (pr : Int32) : ∀ n j, j ≤ 16 → j + n = 17 → lp_freeDescriptor d pr n j = -1 ∨ ∃ r, r < 16 ∧ lp_freeDescriptor d pr n j = nI r
  | 0, j, h1, h2 => by omega
  | n + 1, j, h1, h2 => by
    rw [lp_freeDescriptor]
    by_cases hc : (16 : Int32) ≤ nI j
    · rw [if_pos hc]
      exact Or.inl rfl
    · rw [if_neg hc]
      have hj := lp_adv (b := (16 : Int32)) (B := 16) rfl (by decide) h1 hc
      cases hq : sp_fileOf d pr (nI j) with
      | none =>
        rw [oc_n]
        exact Or.inr ⟨j, hj, rfl⟩
      | some i =>
        rw [oc_s]
        exact fd_lp d pr n (j + 1) (by omega) (by omega)
theorem fd_of {d : DK} {pr : Int32} {st : Nat} (hst : st ≤ 16) (h : ¬ sp_freeDescriptor d pr st = -1) : ∃ r, r < 16 ∧ sp_freeDescriptor d pr st = nI r := by
  rcases fd_lp d pr (17 - st) st hst (by omega) with q | q
  · exact absurd q h
  · exact q
theorem fd_next {d : DK} {pr : Int32} (h : ¬ sp_freeDescriptor d pr 0 = -1) : sp_freeDescriptor d pr 0 + 1 = nI ((sp_freeDescriptor d pr 0).toNatClampNeg + 1) := by
  obtain ⟨r, hr, e⟩ := fd_of (by decide) h
  rw [e, nI_clamp (by omega), nI_1]
theorem fd_le {d : DK} {pr : Int32} (h : ¬ sp_freeDescriptor d pr 0 = -1) : (sp_freeDescriptor d pr 0).toNatClampNeg + 1 ≤ 16 := by
  obtain ⟨r, hr, e⟩ := fd_of (by decide) h
  rw [e, nI_clamp (by omega)]
  omega
end
section
def sp_open (d : DK) (pr : Int32) (ki : Int32) (ino : Int32) (hw : Int32) : Int32 × DK :=
  (if (sp_isProcess pr) = (0 : Int32) then ((-1 : Int32), d) else (if (sp_isOpenable ki) = (0 : Int32) then ((-1 : Int32), d) else (if (sp_isHow hw) = (0 : Int32) then ((-1 : Int32), d) else (oc (sp_freeFile d 0) (if (sp_freeDescriptor d pr 0) = (-1 : Int32) then ((-1 : Int32), d) else ((-1 : Int32), d)) (fun i_5 => (if (sp_freeDescriptor d pr 0) = (-1 : Int32) then ((-1 : Int32), d) else (if ki = (2 : Int32) then ((sp_freeDescriptor d pr 0), (sp_setName (sI (sp_File_begin d i_5 ki hw) 3 i_5.val ino) pr (sp_freeDescriptor d pr 0) i_5)) else ((sp_freeDescriptor d pr 0), (sp_setName (sp_File_begin d i_5 ki hw) pr (sp_freeDescriptor d pr 0) i_5)))))))))
abbrev rm_open : Room := { frames := 3, cells := 0, slots := 0, locals := 65 }
set_option maxHeartbeats 4000000 in
set_option maxRecDepth 100000 in
theorem c_open (l : Launch) (dC : Nat → ClassId) (dI : Nat → Nat → Nat) (kc : Nat → ClassId) (a : Nat → Nat) (sz : Nat) (d : DK) (pr : Int32) (ki : Int32) (ino : Int32) (hw : Int32) (R' : Int32) (d' : DK) (hres : sp_open d pr ki ino hw = (R', d')) : Met l y_open ws_open rm_open (va_Pc [.ref (a 0), .int pr, .int ki, .int ino, .int hw] (ml_B (dC, dI) vwCl (tysD kc) 57 a (dcell kc a d) sz)) (va_Qi (fun r (_ : Unit) => r = R') (fun _ t => ml_E (dC, dI) vwCl (tysD kc) 57 a (dcell kc a d') (va_A (ml 57 a (dcell kc a d)) sz) t) (va_A (ml 57 a (dcell kc a d)) sz)) 0 0 (va_A (ml 57 a (dcell kc a d)) sz) := by
  refine Met.ofW (cc := prog_1_method_2_code) (maxL := 7) (ret := (some .int)) (by decide) rfl ?_
  intro p e s m args below meth c s₁ B hml hv
  obtain ⟨rfl, hsz, hP, hK, hD0⟩ := hv
  have hx := B.exec
  have hb := B.bytes
  have hr := B.returns
  have hts := atoms_spec (ws := ws_open) B.pre
  have hown : s.vm.findClass "HandleDesk" = some m.cls := findClass_of_methodNamed B.named
  have hlocks := B.notSynchronized
  subst hsz
  have hD := hD0.self (sz := s.heap.size)
  generalize hAe : va_A (ml 57 a (dcell kc a d)) s.heap.size = A at hD ⊢
  have hA : ∀ q : Nat, s.heap.size ≤ q → A q := fun q h => by rw [← hAe]; exact Or.inr h
  have hS : va_S A s.heap s.heap [] := va_S.rf
  have hl := lv_entry ([.ref (a 0), .int pr, .int ki, .int ino, .int hw]) (n := 7) (Nat.le_of_ble_eq_true rfl)
  rw [lg_entry_eq]
  generalize (lg_sl ([.ref (a 0), .int pr, .int ki, .int ino, .int hw]) ++ List.replicate (7 - (lg_sl ([.ref (a 0), .int pr, .int ki, .int ino, .int hw])).length) Slot.unset).toArray = ls at hl ⊢
  have hl : lv_has ls 7 [(0, .ref (a 0)), (1, .int pr), (2, .int ki), (3, .int ino), (4, .int hw)] := hl
  rw [sp_open] at hres
  refine lv_iload_n hx hb d_open_0 rfl (lv_at hl 1 rfl) ?_
  refine ml_calli (va_runS (As := [.int pr]) (rest := []) ⟨hx, hb, hml, hown, hts⟩ (c_isProcess l dC dI kc a _ d pr _ rfl) (cwS 1 hts (gd_S mC wd_149 wd_150 wd_1 wd_151) rfl rfl rfl hd_isProcess ⟨Nat.le_of_ble_eq_true rfl, Nat.le_of_ble_eq_true rfl⟩) ⟨ml_blind, ml_pre hP hK hD⟩ rfl rfl hl.1 rfl (lv_room (Nat.le_of_ble_eq_true rfl)) d_open_1 ⟨Nat.zero_le _, Nat.zero_le _⟩) hD hS hA (fun H locs hP hD hS => ?_)
  refine lv_if_eq (tgt := 22) hx hb d_open_4 (by decide) (fun h_1 => ?_) (fun h_1 => ?_)
  · rw [if_pos h_1] at hres
    refine lv_iconst (v := -1) hx hb d_open_22 (by decide) ?_
    obtain ⟨rfl, rfl⟩ := Prod.mk.inj hres
    exact ml_iret hx hb hr hlocks hP hK hD hS d_open_23
  · rw [if_neg h_1] at hres
    refine lv_iload_n hx hb d_open_7 rfl (lv_at hl 2 rfl) ?_
    refine ml_calli (va_runS (As := [.int ki]) (rest := []) ⟨hx, hb, hml, hown, hts⟩ (c_isOpenable l dC dI kc a _ d ki _ rfl) (cwS 1 hts (gd_S mC wd_152 wd_153 wd_1 wd_154) rfl rfl rfl hd_isOpenable ⟨Nat.le_of_ble_eq_true rfl, Nat.le_of_ble_eq_true rfl⟩) ⟨ml_blind, ml_pre hP hK hD⟩ rfl rfl hl.1 rfl (lv_room (Nat.le_of_ble_eq_true rfl)) d_open_8 ⟨Nat.zero_le _, Nat.zero_le _⟩) hD hS hA (fun H locs hP hD hS => ?_)
    refine lv_if_eq (tgt := 22) hx hb d_open_11 (by decide) (fun h_2 => ?_) (fun h_2 => ?_)
    · rw [if_pos h_2] at hres
      refine lv_iconst (v := -1) hx hb d_open_22 (by decide) ?_
      obtain ⟨rfl, rfl⟩ := Prod.mk.inj hres
      exact ml_iret hx hb hr hlocks hP hK hD hS d_open_23
    · rw [if_neg h_2] at hres
      refine lv_iload hx hb d_open_14 (lv_at hl 4 rfl) ?_
      refine ml_calli (va_runS (As := [.int hw]) (rest := []) ⟨hx, hb, hml, hown, hts⟩ (c_isHow l dC dI kc a _ d hw _ rfl) (cwS 1 hts (gd_S mC wd_155 wd_156 wd_1 wd_157) rfl rfl rfl hd_isHow ⟨Nat.le_of_ble_eq_true rfl, Nat.le_of_ble_eq_true rfl⟩) ⟨ml_blind, ml_pre hP hK hD⟩ rfl rfl hl.1 rfl (lv_room (Nat.le_of_ble_eq_true rfl)) d_open_16 ⟨Nat.zero_le _, Nat.zero_le _⟩) hD hS hA (fun H locs hP hD hS => ?_)
      refine lv_if_ne (tgt := 24) hx hb d_open_19 (by decide) (fun h_3 => ?_) (fun h_3 => ?_)
      · rw [if_neg h_3] at hres
        refine lv_aload_n hx hb d_open_24 rfl (lv_at hl 0 rfl) ?_
        refine lv_iload_n hx hb d_open_25 rfl (lv_at hl 1 rfl) ?_
        refine lv_iconst (v := 0) hx hb d_open_26 (by decide) ?_
        refine lv_eqi nI_0.symm ?_
        refine ml_calli (va_runV (As := [.int pr, .int (nI 0)]) (rest := []) ⟨hx, hb, hml, hown, hts⟩ (c_freeDescriptor l dC dI kc a _ d pr 0 (by decide) _ rfl) (cwV 2 hts (gd_V mC wd_158 wd_160 ws_0 wd_1 wd_161) rfl rfl rfl hd_freeDescriptor ⟨Nat.le_of_ble_eq_true rfl, Nat.le_of_ble_eq_true rfl⟩) ⟨ml_blind, va_recv hK hP (ci := 0) rfl (ml_at (by decide) (dc_desk kc a d)), ml_pre hP hK hD⟩ rfl rfl hl.1 rfl (lv_room (Nat.le_of_ble_eq_true rfl)) d_open_27 ⟨Nat.zero_le _, Nat.zero_le _⟩) hD hS hA (fun H locs hP hD hS => ?_)
        refine lv_istore (lv' := [(5, .int (sp_freeDescriptor d pr 0)), (0, .ref (a 0)), (1, .int pr), (2, .int ki), (3, .int ino), (4, .int hw)]) hx hb d_open_30 hl (by decide) rfl (fun ls hl => ?_)
        refine lv_aload_n hx hb d_open_32 rfl (lv_at hl 1 rfl) ?_
        refine lv_iconst (v := 0) hx hb d_open_33 (by decide) ?_
        refine lv_eqi nI_0.symm ?_
        refine ml_callq (va_runV (As := [.int (nI 0)]) (rest := []) ⟨hx, hb, hml, hown, hts⟩ (c_freeFile l dC dI kc a _ d 0 (by decide) _ rfl) (cwV 1 hts (gd_V mC wd_169 wd_171 ws_2 wd_1 wd_172) rfl rfl rfl hd_freeFile ⟨Nat.le_of_ble_eq_true rfl, Nat.le_of_ble_eq_true rfl⟩) ⟨ml_blind, va_recv hK hP (ci := 0) rfl (ml_at (by decide) (dc_desk kc a d)), ml_pre hP hK hD⟩ rfl rfl hl.1 rfl (lv_room (Nat.le_of_ble_eq_true rfl)) d_open_34 ⟨Nat.zero_le _, Nat.zero_le _⟩) hD hS hA (fun H locs hP hD hS => ?_)
        refine ml_split (fun q_4 => ?_) (fun i_5 q_4 => ?_)
        · rw [q_4, oc_n] at hres
          refine lv_astoreN (lv' := [(6, .null), (5, .int (sp_freeDescriptor d pr 0)), (0, .ref (a 0)), (1, .int pr), (2, .int ki), (3, .int ino), (4, .int hw)]) hx hb d_open_37 hl (by decide) rfl (fun ls hl => ?_)
          refine lv_iload hx hb d_open_39 (lv_at hl 1 rfl) ?_
          refine lv_iconst (v := -1) hx hb d_open_41 (by decide) ?_
          refine lv_icmp_eq (tgt := 50) hx hb d_open_42 (by decide) (fun h_6 => ?_) (fun h_6 => ?_)
          · rw [if_pos h_6] at hres
            refine lv_iconst (v := -1) hx hb d_open_50 (by decide) ?_
            obtain ⟨rfl, rfl⟩ := Prod.mk.inj hres
            exact ml_iret hx hb hr hlocks hP hK hD hS d_open_51
          · rw [if_neg h_6] at hres
            refine lv_aloadN hx hb d_open_45 (lv_at hl 0 rfl) ?_
            refine lv_ifnonnullN hx hb d_open_47 ?_
            refine lv_iconst (v := -1) hx hb d_open_50 (by decide) ?_
            obtain ⟨rfl, rfl⟩ := Prod.mk.inj hres
            exact ml_iret hx hb hr hlocks hP hK hD hS d_open_51
        · rw [q_4, oc_s] at hres
          refine lv_astore (lv' := [(6, .ref (a (i_5.val + 3))), (5, .int (sp_freeDescriptor d pr 0)), (0, .ref (a 0)), (1, .int pr), (2, .int ki), (3, .int ino), (4, .int hw)]) hx hb d_open_37 hl (by decide) rfl (fun ls hl => ?_)
          refine lv_iload hx hb d_open_39 (lv_at hl 1 rfl) ?_
          refine lv_iconst (v := -1) hx hb d_open_41 (by decide) ?_
          refine lv_icmp_eq (tgt := 50) hx hb d_open_42 (by decide) (fun h_7 => ?_) (fun h_7 => ?_)
          · rw [if_pos h_7] at hres
            refine lv_iconst (v := -1) hx hb d_open_50 (by decide) ?_
            obtain ⟨rfl, rfl⟩ := Prod.mk.inj hres
            exact ml_iret hx hb hr hlocks hP hK hD hS d_open_51
          · rw [if_neg h_7] at hres
            refine lv_aload hx hb d_open_45 (lv_at hl 0 rfl) ?_
            refine lv_ifnonnull (tgt := 52) hx hb d_open_47 (by decide) ?_
            refine lv_aload hx hb d_open_52 (lv_at hl 0 rfl) ?_
            refine lv_iload_n hx hb d_open_54 rfl (lv_at hl 4 rfl) ?_
            refine lv_iload hx hb d_open_55 (lv_at hl 6 rfl) ?_
            refine ml_callv (va_runV (As := [.int ki, .int hw]) (rest := []) ⟨hx, hb, hml, hown, hts⟩ (c_File_begin l dC dI kc a _ d i_5 ki hw _ rfl) (cwV 2 hts (gd_V mC wd_173 wd_174 wd_175 wd_2 wd_176) rfl rfl rfl hd_File_begin ⟨Nat.le_of_ble_eq_true rfl, Nat.le_of_ble_eq_true rfl⟩) ⟨ml_blind, va_recv hK hP (ci := 1) rfl (ml_at (lt_file i_5) (dc_file kc a d i_5)), ml_pre hP hK hD⟩ rfl rfl hl.1 rfl (lv_room (Nat.le_of_ble_eq_true rfl)) d_open_57 ⟨Nat.zero_le _, Nat.zero_le _⟩) hD hS hA (fun H locs hP hD hS => ?_)
            refine lv_iload_n hx hb d_open_60 rfl (lv_at hl 4 rfl) ?_
            refine lv_iconst (v := 2) hx hb d_open_61 (by decide) ?_
            refine lv_icmp_ne (tgt := 71) hx hb d_open_62 (by decide) (fun h_8 => ?_) (fun h_8 => ?_)
            · rw [if_neg h_8] at hres
              refine lv_aload_n hx hb d_open_71 rfl (lv_at hl 2 rfl) ?_
              refine lv_iload_n hx hb d_open_72 rfl (lv_at hl 3 rfl) ?_
              refine lv_iload hx hb d_open_73 (lv_at hl 1 rfl) ?_
              refine lv_aload hx hb d_open_75 (lv_at hl 0 rfl) ?_
              refine ml_callv (va_runV (As := [.int pr, .int (sp_freeDescriptor d pr 0), .ref (a (i_5.val + 3))]) (rest := []) ⟨hx, hb, hml, hown, hts⟩ (c_setName l dC dI kc a _ (sp_File_begin d i_5 ki hw) pr (sp_freeDescriptor d pr 0) i_5 _ rfl) (cwV 3 hts (gd_V mC wd_177 wd_179 ws_3 wd_1 wd_180) rfl rfl rfl hd_setName ⟨Nat.le_of_ble_eq_true rfl, Nat.le_of_ble_eq_true rfl⟩) ⟨ml_blind, va_recv hK hP (ci := 0) rfl (ml_at (by decide) (dc_desk kc a (sp_File_begin d i_5 ki hw))), ml_pre hP hK hD⟩ rfl rfl hl.1 rfl (lv_room (Nat.le_of_ble_eq_true rfl)) d_open_77 ⟨Nat.zero_le _, Nat.zero_le _⟩) hD hS hA (fun H locs hP hD hS => ?_)
              refine lv_iload hx hb d_open_80 (lv_at hl 1 rfl) ?_
              obtain ⟨rfl, rfl⟩ := Prod.mk.inj hres
              exact ml_iret hx hb hr hlocks hP hK hD hS d_open_82
            · rw [if_pos h_8] at hres
              refine lv_aload hx hb d_open_65 (lv_at hl 0 rfl) ?_
              refine lv_iload_n hx hb d_open_67 rfl (lv_at hl 5 rfl) ?_
              refine ml_put (D := (dC, dI)) hx hb hts in_FC tyF tyF_ok nmF hown hK hP hD hS (i_5.val + 3) (lt_file i_5) (dc_file kc a (sp_File_begin d i_5 ki hw) i_5) rfl 2 (by decide) (hts _ (mC _ wd_28)) (fun _ h9 => h9) rfl (ty := .int) (by decide +kernel) rfl rfl (Nat.le_of_ble_eq_true rfl) (f' := (dcell kc a (sI (sp_File_begin d i_5 ki hw) 3 i_5.val ino))) (dw_3 i_5 ino) d_open_68 (fun H locs hP hD hS => ?_)
              refine lv_aload_n hx hb d_open_71 rfl (lv_at hl 2 rfl) ?_
              refine lv_iload_n hx hb d_open_72 rfl (lv_at hl 3 rfl) ?_
              refine lv_iload hx hb d_open_73 (lv_at hl 1 rfl) ?_
              refine lv_aload hx hb d_open_75 (lv_at hl 0 rfl) ?_
              refine ml_callv (va_runV (As := [.int pr, .int (sp_freeDescriptor d pr 0), .ref (a (i_5.val + 3))]) (rest := []) ⟨hx, hb, hml, hown, hts⟩ (c_setName l dC dI kc a _ (sI (sp_File_begin d i_5 ki hw) 3 i_5.val ino) pr (sp_freeDescriptor d pr 0) i_5 _ rfl) (cwV 3 hts (gd_V mC wd_177 wd_179 ws_3 wd_1 wd_180) rfl rfl rfl hd_setName ⟨Nat.le_of_ble_eq_true rfl, Nat.le_of_ble_eq_true rfl⟩) ⟨ml_blind, va_recv hK hP (ci := 0) rfl (ml_at (by decide) (dc_desk kc a (sI (sp_File_begin d i_5 ki hw) 3 i_5.val ino))), ml_pre hP hK hD⟩ rfl rfl hl.1 rfl (lv_room (Nat.le_of_ble_eq_true rfl)) d_open_77 ⟨Nat.zero_le _, Nat.zero_le _⟩) hD hS hA (fun H locs hP hD hS => ?_)
              refine lv_iload hx hb d_open_80 (lv_at hl 1 rfl) ?_
              obtain ⟨rfl, rfl⟩ := Prod.mk.inj hres
              exact ml_iret hx hb hr hlocks hP hK hD hS d_open_82
      · rw [if_pos h_3] at hres
        refine lv_iconst (v := -1) hx hb d_open_22 (by decide) ?_
        obtain ⟨rfl, rfl⟩ := Prod.mk.inj hres
        exact ml_iret hx hb hr hlocks hP hK hD hS d_open_23
def sp_pipe (d : DK) (pr : Int32) : Int32 × DK :=
  (if (sp_isProcess pr) = (0 : Int32) then ((-1 : Int32), d) else (if (sp_freeDescriptor d pr 0) = (-1 : Int32) then ((-1 : Int32), d) else (if (sp_freeDescriptor d pr ((sp_freeDescriptor d pr 0).toNatClampNeg + 1)) = (-1 : Int32) then ((-1 : Int32), d) else (oc (sp_freeFile d 0) ((-1 : Int32), d) (fun i_5 => (oc (sp_freeFile d (i_5.val + 1)) (oc (sp_freePipe d) ((-1 : Int32), d) (fun i_9 => ((-1 : Int32), d))) (fun i_7 => (oc (sp_freePipe d) ((-1 : Int32), d) (fun i_11 => ((sp_freeDescriptor d pr 0) + ((16 : Int32) * (sp_freeDescriptor d pr ((sp_freeDescriptor d pr 0).toNatClampNeg + 1))), (sp_setName (sp_setName (sp_joinEnds d i_11 i_5 i_7) pr (sp_freeDescriptor d pr 0) i_5) pr (sp_freeDescriptor d pr ((sp_freeDescriptor d pr 0).toNatClampNeg + 1)) i_7)))))))))))
abbrev rm_pipe : Room := { frames := 3, cells := 0, slots := 0, locals := 65 }
set_option maxHeartbeats 4000000 in
set_option maxRecDepth 100000 in
theorem c_pipe (l : Launch) (dC : Nat → ClassId) (dI : Nat → Nat → Nat) (kc : Nat → ClassId) (a : Nat → Nat) (sz : Nat) (d : DK) (pr : Int32) (R' : Int32) (d' : DK) (hres : sp_pipe d pr = (R', d')) : Met l y_pipe ws_pipe rm_pipe (va_Pc [.ref (a 0), .int pr] (ml_B (dC, dI) vwCl (tysD kc) 57 a (dcell kc a d) sz)) (va_Qi (fun r (_ : Unit) => r = R') (fun _ t => ml_E (dC, dI) vwCl (tysD kc) 57 a (dcell kc a d') (va_A (ml 57 a (dcell kc a d)) sz) t) (va_A (ml 57 a (dcell kc a d)) sz)) 0 0 (va_A (ml 57 a (dcell kc a d)) sz) := by
  refine Met.ofW (cc := prog_1_method_3_code) (maxL := 7) (ret := (some .int)) (by decide) rfl ?_
  intro p e s m args below meth c s₁ B hml hv
  obtain ⟨rfl, hsz, hP, hK, hD0⟩ := hv
  have hx := B.exec
  have hb := B.bytes
  have hr := B.returns
  have hts := atoms_spec (ws := ws_pipe) B.pre
  have hown : s.vm.findClass "HandleDesk" = some m.cls := findClass_of_methodNamed B.named
  have hlocks := B.notSynchronized
  subst hsz
  have hD := hD0.self (sz := s.heap.size)
  generalize hAe : va_A (ml 57 a (dcell kc a d)) s.heap.size = A at hD ⊢
  have hA : ∀ q : Nat, s.heap.size ≤ q → A q := fun q h => by rw [← hAe]; exact Or.inr h
  have hS : va_S A s.heap s.heap [] := va_S.rf
  have hl := lv_entry ([.ref (a 0), .int pr]) (n := 7) (Nat.le_of_ble_eq_true rfl)
  rw [lg_entry_eq]
  generalize (lg_sl ([.ref (a 0), .int pr]) ++ List.replicate (7 - (lg_sl ([.ref (a 0), .int pr])).length) Slot.unset).toArray = ls at hl ⊢
  have hl : lv_has ls 7 [(0, .ref (a 0)), (1, .int pr)] := hl
  rw [sp_pipe] at hres
  refine lv_iload_n hx hb d_pipe_0 rfl (lv_at hl 1 rfl) ?_
  refine ml_calli (va_runS (As := [.int pr]) (rest := []) ⟨hx, hb, hml, hown, hts⟩ (c_isProcess l dC dI kc a _ d pr _ rfl) (cwS 1 hts (gd_S mC wd_149 wd_150 wd_1 wd_151) rfl rfl rfl hd_isProcess ⟨Nat.le_of_ble_eq_true rfl, Nat.le_of_ble_eq_true rfl⟩) ⟨ml_blind, ml_pre hP hK hD⟩ rfl rfl hl.1 rfl (lv_room (Nat.le_of_ble_eq_true rfl)) d_pipe_1 ⟨Nat.zero_le _, Nat.zero_le _⟩) hD hS hA (fun H locs hP hD hS => ?_)
  refine lv_if_ne (tgt := 9) hx hb d_pipe_4 (by decide) (fun h_1 => ?_) (fun h_1 => ?_)
  · rw [if_neg h_1] at hres
    refine lv_aload_n hx hb d_pipe_9 rfl (lv_at hl 0 rfl) ?_
    refine lv_iload_n hx hb d_pipe_10 rfl (lv_at hl 1 rfl) ?_
    refine lv_iconst (v := 0) hx hb d_pipe_11 (by decide) ?_
    refine lv_eqi nI_0.symm ?_
    refine ml_calli (va_runV (As := [.int pr, .int (nI 0)]) (rest := []) ⟨hx, hb, hml, hown, hts⟩ (c_freeDescriptor l dC dI kc a _ d pr 0 (by decide) _ rfl) (cwV 2 hts (gd_V mC wd_158 wd_160 ws_0 wd_1 wd_161) rfl rfl rfl hd_freeDescriptor ⟨Nat.le_of_ble_eq_true rfl, Nat.le_of_ble_eq_true rfl⟩) ⟨ml_blind, va_recv hK hP (ci := 0) rfl (ml_at (by decide) (dc_desk kc a d)), ml_pre hP hK hD⟩ rfl rfl hl.1 rfl (lv_room (Nat.le_of_ble_eq_true rfl)) d_pipe_12 ⟨Nat.zero_le _, Nat.zero_le _⟩) hD hS hA (fun H locs hP hD hS => ?_)
    refine lv_istore_n (lv' := [(2, .int (sp_freeDescriptor d pr 0)), (0, .ref (a 0)), (1, .int pr)]) hx hb d_pipe_15 rfl hl (by decide) rfl (fun ls hl => ?_)
    refine lv_iload_n hx hb d_pipe_16 rfl (lv_at hl 0 rfl) ?_
    refine lv_iconst (v := -1) hx hb d_pipe_17 (by decide) ?_
    refine lv_icmp_ne (tgt := 23) hx hb d_pipe_18 (by decide) (fun h_2 => ?_) (fun h_2 => ?_)
    · rw [if_neg h_2] at hres
      refine lv_aload_n hx hb d_pipe_23 rfl (lv_at hl 1 rfl) ?_
      refine lv_iload_n hx hb d_pipe_24 rfl (lv_at hl 2 rfl) ?_
      refine lv_iload_n hx hb d_pipe_25 rfl (lv_at hl 0 rfl) ?_
      refine lv_iconst (v := 1) hx hb d_pipe_26 (by decide) ?_
      refine lv_iadd hx hb d_pipe_27 ?_
      refine lv_eqi (fd_next (by assumption)) ?_
      refine ml_calli (va_runV (As := [.int pr, .int (nI ((sp_freeDescriptor d pr 0).toNatClampNeg + 1))]) (rest := []) ⟨hx, hb, hml, hown, hts⟩ (c_freeDescriptor l dC dI kc a _ d pr ((sp_freeDescriptor d pr 0).toNatClampNeg + 1) (fd_le (by assumption)) _ rfl) (cwV 2 hts (gd_V mC wd_158 wd_160 ws_0 wd_1 wd_161) rfl rfl rfl hd_freeDescriptor ⟨Nat.le_of_ble_eq_true rfl, Nat.le_of_ble_eq_true rfl⟩) ⟨ml_blind, va_recv hK hP (ci := 0) rfl (ml_at (by decide) (dc_desk kc a d)), ml_pre hP hK hD⟩ rfl rfl hl.1 rfl (lv_room (Nat.le_of_ble_eq_true rfl)) d_pipe_28 ⟨Nat.zero_le _, Nat.zero_le _⟩) hD hS hA (fun H locs hP hD hS => ?_)
      refine lv_istore_n (lv' := [(3, .int (sp_freeDescriptor d pr ((sp_freeDescriptor d pr 0).toNatClampNeg + 1))), (2, .int (sp_freeDescriptor d pr 0)), (0, .ref (a 0)), (1, .int pr)]) hx hb d_pipe_31 rfl hl (by decide) rfl (fun ls hl => ?_)
      refine lv_iload_n hx hb d_pipe_32 rfl (lv_at hl 0 rfl) ?_
      refine lv_iconst (v := -1) hx hb d_pipe_33 (by decide) ?_
      refine lv_icmp_ne (tgt := 39) hx hb d_pipe_34 (by decide) (fun h_3 => ?_) (fun h_3 => ?_)
      · rw [if_neg h_3] at hres
        refine lv_aload_n hx hb d_pipe_39 rfl (lv_at hl 2 rfl) ?_
        refine lv_iconst (v := 0) hx hb d_pipe_40 (by decide) ?_
        refine lv_eqi nI_0.symm ?_
        refine ml_callq (va_runV (As := [.int (nI 0)]) (rest := []) ⟨hx, hb, hml, hown, hts⟩ (c_freeFile l dC dI kc a _ d 0 (by decide) _ rfl) (cwV 1 hts (gd_V mC wd_169 wd_171 ws_2 wd_1 wd_172) rfl rfl rfl hd_freeFile ⟨Nat.le_of_ble_eq_true rfl, Nat.le_of_ble_eq_true rfl⟩) ⟨ml_blind, va_recv hK hP (ci := 0) rfl (ml_at (by decide) (dc_desk kc a d)), ml_pre hP hK hD⟩ rfl rfl hl.1 rfl (lv_room (Nat.le_of_ble_eq_true rfl)) d_pipe_41 ⟨Nat.zero_le _, Nat.zero_le _⟩) hD hS hA (fun H locs hP hD hS => ?_)
        refine ml_split (fun q_4 => ?_) (fun i_5 q_4 => ?_)
        · rw [q_4, oc_n] at hres
          refine lv_astoreN (lv' := [(4, .null), (3, .int (sp_freeDescriptor d pr ((sp_freeDescriptor d pr 0).toNatClampNeg + 1))), (2, .int (sp_freeDescriptor d pr 0)), (0, .ref (a 0)), (1, .int pr)]) hx hb d_pipe_44 hl (by decide) rfl (fun ls hl => ?_)
          refine lv_aloadN hx hb d_pipe_46 (lv_at hl 0 rfl) ?_
          refine lv_ifnonnullN hx hb d_pipe_48 ?_
          refine lv_iconst (v := -1) hx hb d_pipe_51 (by decide) ?_
          obtain ⟨rfl, rfl⟩ := Prod.mk.inj hres
          exact ml_iret hx hb hr hlocks hP hK hD hS d_pipe_52
        · rw [q_4, oc_s] at hres
          refine lv_astore (lv' := [(4, .ref (a (i_5.val + 3))), (3, .int (sp_freeDescriptor d pr ((sp_freeDescriptor d pr 0).toNatClampNeg + 1))), (2, .int (sp_freeDescriptor d pr 0)), (0, .ref (a 0)), (1, .int pr)]) hx hb d_pipe_44 hl (by decide) rfl (fun ls hl => ?_)
          refine lv_aload hx hb d_pipe_46 (lv_at hl 0 rfl) ?_
          refine lv_ifnonnull (tgt := 53) hx hb d_pipe_48 (by decide) ?_
          refine lv_aload_n hx hb d_pipe_53 rfl (lv_at hl 3 rfl) ?_
          refine lv_aload hx hb d_pipe_54 (lv_at hl 0 rfl) ?_
          refine ml_get (D := (dC, dI)) hx hb hts in_FC hown hK hP (i_5.val + 3) (lt_file i_5) (dc_file kc a d i_5) rfl 0 (by decide) (hts _ (mC _ wd_24)) (fun _ h9 => h9) (v := .int (nI i_5.val)) rfl d_pipe_56 ?_
          refine lv_iconst (v := 1) hx hb d_pipe_59 (by decide) ?_
          refine lv_iadd hx hb d_pipe_60 ?_
          refine lv_eqi (nI_1 _) ?_
          refine ml_callq (va_runV (As := [.int (nI (i_5.val + 1))]) (rest := []) ⟨hx, hb, hml, hown, hts⟩ (c_freeFile l dC dI kc a _ d (i_5.val + 1) (Nat.succ_le_of_lt i_5.isLt) _ rfl) (cwV 1 hts (gd_V mC wd_169 wd_171 ws_2 wd_1 wd_172) rfl rfl rfl hd_freeFile ⟨Nat.le_of_ble_eq_true rfl, Nat.le_of_ble_eq_true rfl⟩) ⟨ml_blind, va_recv hK hP (ci := 0) rfl (ml_at (by decide) (dc_desk kc a d)), ml_pre hP hK hD⟩ rfl rfl hl.1 rfl (lv_room (Nat.le_of_ble_eq_true rfl)) d_pipe_61 ⟨Nat.zero_le _, Nat.zero_le _⟩) hD hS hA (fun H locs hP hD hS => ?_)
          refine ml_split (fun q_6 => ?_) (fun i_7 q_6 => ?_)
          · rw [q_6, oc_n] at hres
            refine lv_astoreN (lv' := [(5, .null), (4, .ref (a (i_5.val + 3))), (3, .int (sp_freeDescriptor d pr ((sp_freeDescriptor d pr 0).toNatClampNeg + 1))), (2, .int (sp_freeDescriptor d pr 0)), (0, .ref (a 0)), (1, .int pr)]) hx hb d_pipe_64 hl (by decide) rfl (fun ls hl => ?_)
            refine lv_aload_n hx hb d_pipe_66 rfl (lv_at hl 4 rfl) ?_
            refine ml_callq (va_runV (As := []) (rest := []) ⟨hx, hb, hml, hown, hts⟩ (c_freePipe l dC dI kc a _ d _ rfl) (cwV 0 hts (gd_V mC wd_185 wd_187 ws_4 wd_1 wd_188) rfl rfl rfl hd_freePipe ⟨Nat.le_of_ble_eq_true rfl, Nat.le_of_ble_eq_true rfl⟩) ⟨ml_blind, va_recv hK hP (ci := 0) rfl (ml_at (by decide) (dc_desk kc a d)), ml_pre hP hK hD⟩ rfl rfl hl.1 rfl (lv_room (Nat.le_of_ble_eq_true rfl)) d_pipe_67 ⟨Nat.zero_le _, Nat.zero_le _⟩) hD hS hA (fun H locs hP hD hS => ?_)
            refine ml_split (fun q_8 => ?_) (fun i_9 q_8 => ?_)
            · rw [q_8, oc_n] at hres
              refine lv_astoreN (lv' := [(6, .null), (5, .null), (4, .ref (a (i_5.val + 3))), (3, .int (sp_freeDescriptor d pr ((sp_freeDescriptor d pr 0).toNatClampNeg + 1))), (2, .int (sp_freeDescriptor d pr 0)), (0, .ref (a 0)), (1, .int pr)]) hx hb d_pipe_70 hl (by decide) rfl (fun ls hl => ?_)
              refine lv_aloadN hx hb d_pipe_72 (lv_at hl 1 rfl) ?_
              refine lv_ifnullN (tgt := 82) hx hb d_pipe_74 (by decide) ?_
              refine lv_iconst (v := -1) hx hb d_pipe_82 (by decide) ?_
              obtain ⟨rfl, rfl⟩ := Prod.mk.inj hres
              exact ml_iret hx hb hr hlocks hP hK hD hS d_pipe_83
            · rw [q_8, oc_s] at hres
              refine lv_astore (lv' := [(6, .ref (a (2 * i_9.val + 36))), (5, .null), (4, .ref (a (i_5.val + 3))), (3, .int (sp_freeDescriptor d pr ((sp_freeDescriptor d pr 0).toNatClampNeg + 1))), (2, .int (sp_freeDescriptor d pr 0)), (0, .ref (a 0)), (1, .int pr)]) hx hb d_pipe_70 hl (by decide) rfl (fun ls hl => ?_)
              refine lv_aloadN hx hb d_pipe_72 (lv_at hl 1 rfl) ?_
              refine lv_ifnullN (tgt := 82) hx hb d_pipe_74 (by decide) ?_
              refine lv_iconst (v := -1) hx hb d_pipe_82 (by decide) ?_
              obtain ⟨rfl, rfl⟩ := Prod.mk.inj hres
              exact ml_iret hx hb hr hlocks hP hK hD hS d_pipe_83
          · rw [q_6, oc_s] at hres
            refine lv_astore (lv' := [(5, .ref (a (i_7.val + 3))), (4, .ref (a (i_5.val + 3))), (3, .int (sp_freeDescriptor d pr ((sp_freeDescriptor d pr 0).toNatClampNeg + 1))), (2, .int (sp_freeDescriptor d pr 0)), (0, .ref (a 0)), (1, .int pr)]) hx hb d_pipe_64 hl (by decide) rfl (fun ls hl => ?_)
            refine lv_aload_n hx hb d_pipe_66 rfl (lv_at hl 4 rfl) ?_
            refine ml_callq (va_runV (As := []) (rest := []) ⟨hx, hb, hml, hown, hts⟩ (c_freePipe l dC dI kc a _ d _ rfl) (cwV 0 hts (gd_V mC wd_185 wd_187 ws_4 wd_1 wd_188) rfl rfl rfl hd_freePipe ⟨Nat.le_of_ble_eq_true rfl, Nat.le_of_ble_eq_true rfl⟩) ⟨ml_blind, va_recv hK hP (ci := 0) rfl (ml_at (by decide) (dc_desk kc a d)), ml_pre hP hK hD⟩ rfl rfl hl.1 rfl (lv_room (Nat.le_of_ble_eq_true rfl)) d_pipe_67 ⟨Nat.zero_le _, Nat.zero_le _⟩) hD hS hA (fun H locs hP hD hS => ?_)
            refine ml_split (fun q_10 => ?_) (fun i_11 q_10 => ?_)
            · rw [q_10, oc_n] at hres
              refine lv_astoreN (lv' := [(6, .null), (5, .ref (a (i_7.val + 3))), (4, .ref (a (i_5.val + 3))), (3, .int (sp_freeDescriptor d pr ((sp_freeDescriptor d pr 0).toNatClampNeg + 1))), (2, .int (sp_freeDescriptor d pr 0)), (0, .ref (a 0)), (1, .int pr)]) hx hb d_pipe_70 hl (by decide) rfl (fun ls hl => ?_)
              refine lv_aload hx hb d_pipe_72 (lv_at hl 1 rfl) ?_
              refine lv_ifnull hx hb d_pipe_74 ?_
              refine lv_aloadN hx hb d_pipe_77 (lv_at hl 0 rfl) ?_
              refine lv_ifnonnullN hx hb d_pipe_79 ?_
              refine lv_iconst (v := -1) hx hb d_pipe_82 (by decide) ?_
              obtain ⟨rfl, rfl⟩ := Prod.mk.inj hres
              exact ml_iret hx hb hr hlocks hP hK hD hS d_pipe_83
            · rw [q_10, oc_s] at hres
              refine lv_astore (lv' := [(6, .ref (a (2 * i_11.val + 36))), (5, .ref (a (i_7.val + 3))), (4, .ref (a (i_5.val + 3))), (3, .int (sp_freeDescriptor d pr ((sp_freeDescriptor d pr 0).toNatClampNeg + 1))), (2, .int (sp_freeDescriptor d pr 0)), (0, .ref (a 0)), (1, .int pr)]) hx hb d_pipe_70 hl (by decide) rfl (fun ls hl => ?_)
              refine lv_aload hx hb d_pipe_72 (lv_at hl 1 rfl) ?_
              refine lv_ifnull hx hb d_pipe_74 ?_
              refine lv_aload hx hb d_pipe_77 (lv_at hl 0 rfl) ?_
              refine lv_ifnonnull (tgt := 84) hx hb d_pipe_79 (by decide) ?_
              refine lv_aload hx hb d_pipe_84 (lv_at hl 0 rfl) ?_
              refine lv_aload hx hb d_pipe_86 (lv_at hl 2 rfl) ?_
              refine lv_aload hx hb d_pipe_88 (lv_at hl 1 rfl) ?_
              refine ml_callv (va_runS (As := [.ref (a (2 * i_11.val + 36)), .ref (a (i_5.val + 3)), .ref (a (i_7.val + 3))]) (rest := []) ⟨hx, hb, hml, hown, hts⟩ (c_joinEnds l dC dI kc a _ d i_11 i_5 i_7 _ rfl) (cwS 3 hts (gd_S mC wd_193 wd_194 wd_1 wd_195) rfl rfl rfl hd_joinEnds ⟨Nat.le_of_ble_eq_true rfl, Nat.le_of_ble_eq_true rfl⟩) ⟨ml_blind, ml_pre hP hK hD⟩ rfl rfl hl.1 rfl (lv_room (Nat.le_of_ble_eq_true rfl)) d_pipe_90 ⟨Nat.zero_le _, Nat.zero_le _⟩) hD hS hA (fun H locs hP hD hS => ?_)
              refine lv_aload_n hx hb d_pipe_93 rfl (lv_at hl 5 rfl) ?_
              refine lv_iload_n hx hb d_pipe_94 rfl (lv_at hl 6 rfl) ?_
              refine lv_iload_n hx hb d_pipe_95 rfl (lv_at hl 4 rfl) ?_
              refine lv_aload hx hb d_pipe_96 (lv_at hl 2 rfl) ?_
              refine ml_callv (va_runV (As := [.int pr, .int (sp_freeDescriptor d pr 0), .ref (a (i_5.val + 3))]) (rest := []) ⟨hx, hb, hml, hown, hts⟩ (c_setName l dC dI kc a _ (sp_joinEnds d i_11 i_5 i_7) pr (sp_freeDescriptor d pr 0) i_5 _ rfl) (cwV 3 hts (gd_V mC wd_177 wd_179 ws_3 wd_1 wd_180) rfl rfl rfl hd_setName ⟨Nat.le_of_ble_eq_true rfl, Nat.le_of_ble_eq_true rfl⟩) ⟨ml_blind, va_recv hK hP (ci := 0) rfl (ml_at (by decide) (dc_desk kc a (sp_joinEnds d i_11 i_5 i_7))), ml_pre hP hK hD⟩ rfl rfl hl.1 rfl (lv_room (Nat.le_of_ble_eq_true rfl)) d_pipe_98 ⟨Nat.zero_le _, Nat.zero_le _⟩) hD hS hA (fun H locs hP hD hS => ?_)
              refine lv_aload_n hx hb d_pipe_101 rfl (lv_at hl 5 rfl) ?_
              refine lv_iload_n hx hb d_pipe_102 rfl (lv_at hl 6 rfl) ?_
              refine lv_iload_n hx hb d_pipe_103 rfl (lv_at hl 3 rfl) ?_
              refine lv_aload hx hb d_pipe_104 (lv_at hl 1 rfl) ?_
              refine ml_callv (va_runV (As := [.int pr, .int (sp_freeDescriptor d pr ((sp_freeDescriptor d pr 0).toNatClampNeg + 1)), .ref (a (i_7.val + 3))]) (rest := []) ⟨hx, hb, hml, hown, hts⟩ (c_setName l dC dI kc a _ (sp_setName (sp_joinEnds d i_11 i_5 i_7) pr (sp_freeDescriptor d pr 0) i_5) pr (sp_freeDescriptor d pr ((sp_freeDescriptor d pr 0).toNatClampNeg + 1)) i_7 _ rfl) (cwV 3 hts (gd_V mC wd_177 wd_179 ws_3 wd_1 wd_180) rfl rfl rfl hd_setName ⟨Nat.le_of_ble_eq_true rfl, Nat.le_of_ble_eq_true rfl⟩) ⟨ml_blind, va_recv hK hP (ci := 0) rfl (ml_at (by decide) (dc_desk kc a (sp_setName (sp_joinEnds d i_11 i_5 i_7) pr (sp_freeDescriptor d pr 0) i_5))), ml_pre hP hK hD⟩ rfl rfl hl.1 rfl (lv_room (Nat.le_of_ble_eq_true rfl)) d_pipe_106 ⟨Nat.zero_le _, Nat.zero_le _⟩) hD hS hA (fun H locs hP hD hS => ?_)
              refine lv_iload_n hx hb d_pipe_109 rfl (lv_at hl 4 rfl) ?_
              refine lv_bipush (v := 16) hx hb d_pipe_110 (by decide) ?_
              refine lv_iload_n hx hb d_pipe_112 rfl (lv_at hl 3 rfl) ?_
              refine lv_imul hx hb d_pipe_113 ?_
              refine lv_iadd hx hb d_pipe_114 ?_
              obtain ⟨rfl, rfl⟩ := Prod.mk.inj hres
              exact ml_iret hx hb hr hlocks hP hK hD hS d_pipe_115
      · rw [if_pos h_3] at hres
        refine lv_iconst (v := -1) hx hb d_pipe_37 (by decide) ?_
        obtain ⟨rfl, rfl⟩ := Prod.mk.inj hres
        exact ml_iret hx hb hr hlocks hP hK hD hS d_pipe_38
    · rw [if_pos h_2] at hres
      refine lv_iconst (v := -1) hx hb d_pipe_21 (by decide) ?_
      obtain ⟨rfl, rfl⟩ := Prod.mk.inj hres
      exact ml_iret hx hb hr hlocks hP hK hD hS d_pipe_22
  · rw [if_pos h_1] at hres
    refine lv_iconst (v := -1) hx hb d_pipe_7 (by decide) ?_
    obtain ⟨rfl, rfl⟩ := Prod.mk.inj hres
    exact ml_iret hx hb hr hlocks hP hK hD hS d_pipe_8
def sp_again (d : DK) (pr : Int32) (x : Int32) : Int32 × DK :=
  (oc (sp_fileOf d pr x) ((-1 : Int32), d) (fun i_2 => (if (sp_freeDescriptor d pr 0) = (-1 : Int32) then ((-1 : Int32), d) else ((sp_freeDescriptor d pr 0), (sp_setName d pr (sp_freeDescriptor d pr 0) i_2)))))
abbrev rm_again : Room := { frames := 3, cells := 0, slots := 0, locals := 65 }
set_option maxHeartbeats 4000000 in
set_option maxRecDepth 100000 in
theorem c_again (l : Launch) (dC : Nat → ClassId) (dI : Nat → Nat → Nat) (kc : Nat → ClassId) (a : Nat → Nat) (sz : Nat) (d : DK) (pr : Int32) (x : Int32) (R' : Int32) (d' : DK) (hres : sp_again d pr x = (R', d')) : Met l y_again ws_again rm_again (va_Pc [.ref (a 0), .int pr, .int x] (ml_B (dC, dI) vwCl (tysD kc) 57 a (dcell kc a d) sz)) (va_Qi (fun r (_ : Unit) => r = R') (fun _ t => ml_E (dC, dI) vwCl (tysD kc) 57 a (dcell kc a d') (va_A (ml 57 a (dcell kc a d)) sz) t) (va_A (ml 57 a (dcell kc a d)) sz)) 0 0 (va_A (ml 57 a (dcell kc a d)) sz) := by
  refine Met.ofW (cc := prog_1_method_4_code) (maxL := 5) (ret := (some .int)) (by decide) rfl ?_
  intro p e s m args below meth c s₁ B hml hv
  obtain ⟨rfl, hsz, hP, hK, hD0⟩ := hv
  have hx := B.exec
  have hb := B.bytes
  have hr := B.returns
  have hts := atoms_spec (ws := ws_again) B.pre
  have hown : s.vm.findClass "HandleDesk" = some m.cls := findClass_of_methodNamed B.named
  have hlocks := B.notSynchronized
  subst hsz
  have hD := hD0.self (sz := s.heap.size)
  generalize hAe : va_A (ml 57 a (dcell kc a d)) s.heap.size = A at hD ⊢
  have hA : ∀ q : Nat, s.heap.size ≤ q → A q := fun q h => by rw [← hAe]; exact Or.inr h
  have hS : va_S A s.heap s.heap [] := va_S.rf
  have hl := lv_entry ([.ref (a 0), .int pr, .int x]) (n := 5) (Nat.le_of_ble_eq_true rfl)
  rw [lg_entry_eq]
  generalize (lg_sl ([.ref (a 0), .int pr, .int x]) ++ List.replicate (5 - (lg_sl ([.ref (a 0), .int pr, .int x])).length) Slot.unset).toArray = ls at hl ⊢
  have hl : lv_has ls 5 [(0, .ref (a 0)), (1, .int pr), (2, .int x)] := hl
  rw [sp_again] at hres
  refine lv_aload_n hx hb d_again_0 rfl (lv_at hl 0 rfl) ?_
  refine lv_iload_n hx hb d_again_1 rfl (lv_at hl 1 rfl) ?_
  refine lv_iload_n hx hb d_again_2 rfl (lv_at hl 2 rfl) ?_
  refine ml_callq (va_runV (As := [.int pr, .int x]) (rest := []) ⟨hx, hb, hml, hown, hts⟩ (c_fileOf l dC dI kc a _ d pr x _ rfl) (cwV 2 hts (gd_V mC wd_162 wd_164 ws_1 wd_1 wd_165) rfl rfl rfl hd_fileOf ⟨Nat.le_of_ble_eq_true rfl, Nat.le_of_ble_eq_true rfl⟩) ⟨ml_blind, va_recv hK hP (ci := 0) rfl (ml_at (by decide) (dc_desk kc a d)), ml_pre hP hK hD⟩ rfl rfl hl.1 rfl (lv_room (Nat.le_of_ble_eq_true rfl)) d_again_3 ⟨Nat.zero_le _, Nat.zero_le _⟩) hD hS hA (fun H locs hP hD hS => ?_)
  refine ml_split (fun q_1 => ?_) (fun i_2 q_1 => ?_)
  · rw [q_1, oc_n] at hres
    refine lv_astore_nN (lv' := [(3, .null), (0, .ref (a 0)), (1, .int pr), (2, .int x)]) hx hb d_again_6 rfl hl (by decide) rfl (fun ls hl => ?_)
    refine lv_aload_nN hx hb d_again_7 rfl (lv_at hl 0 rfl) ?_
    refine lv_ifnonnullN hx hb d_again_8 ?_
    refine lv_iconst (v := -1) hx hb d_again_11 (by decide) ?_
    obtain ⟨rfl, rfl⟩ := Prod.mk.inj hres
    exact ml_iret hx hb hr hlocks hP hK hD hS d_again_12
  · rw [q_1, oc_s] at hres
    refine lv_astore_n (lv' := [(3, .ref (a (i_2.val + 3))), (0, .ref (a 0)), (1, .int pr), (2, .int x)]) hx hb d_again_6 rfl hl (by decide) rfl (fun ls hl => ?_)
    refine lv_aload_n hx hb d_again_7 rfl (lv_at hl 0 rfl) ?_
    refine lv_ifnonnull (tgt := 13) hx hb d_again_8 (by decide) ?_
    refine lv_aload_n hx hb d_again_13 rfl (lv_at hl 1 rfl) ?_
    refine lv_iload_n hx hb d_again_14 rfl (lv_at hl 2 rfl) ?_
    refine lv_iconst (v := 0) hx hb d_again_15 (by decide) ?_
    refine lv_eqi nI_0.symm ?_
    refine ml_calli (va_runV (As := [.int pr, .int (nI 0)]) (rest := []) ⟨hx, hb, hml, hown, hts⟩ (c_freeDescriptor l dC dI kc a _ d pr 0 (by decide) _ rfl) (cwV 2 hts (gd_V mC wd_158 wd_160 ws_0 wd_1 wd_161) rfl rfl rfl hd_freeDescriptor ⟨Nat.le_of_ble_eq_true rfl, Nat.le_of_ble_eq_true rfl⟩) ⟨ml_blind, va_recv hK hP (ci := 0) rfl (ml_at (by decide) (dc_desk kc a d)), ml_pre hP hK hD⟩ rfl rfl hl.1 rfl (lv_room (Nat.le_of_ble_eq_true rfl)) d_again_16 ⟨Nat.zero_le _, Nat.zero_le _⟩) hD hS hA (fun H locs hP hD hS => ?_)
    refine lv_istore (lv' := [(4, .int (sp_freeDescriptor d pr 0)), (3, .ref (a (i_2.val + 3))), (0, .ref (a 0)), (1, .int pr), (2, .int x)]) hx hb d_again_19 hl (by decide) rfl (fun ls hl => ?_)
    refine lv_iload hx hb d_again_21 (lv_at hl 0 rfl) ?_
    refine lv_iconst (v := -1) hx hb d_again_23 (by decide) ?_
    refine lv_icmp_ne (tgt := 29) hx hb d_again_24 (by decide) (fun h_3 => ?_) (fun h_3 => ?_)
    · rw [if_neg h_3] at hres
      refine lv_aload_n hx hb d_again_29 rfl (lv_at hl 2 rfl) ?_
      refine lv_iload_n hx hb d_again_30 rfl (lv_at hl 3 rfl) ?_
      refine lv_iload hx hb d_again_31 (lv_at hl 0 rfl) ?_
      refine lv_aload_n hx hb d_again_33 rfl (lv_at hl 1 rfl) ?_
      refine ml_callv (va_runV (As := [.int pr, .int (sp_freeDescriptor d pr 0), .ref (a (i_2.val + 3))]) (rest := []) ⟨hx, hb, hml, hown, hts⟩ (c_setName l dC dI kc a _ d pr (sp_freeDescriptor d pr 0) i_2 _ rfl) (cwV 3 hts (gd_V mC wd_177 wd_179 ws_3 wd_1 wd_180) rfl rfl rfl hd_setName ⟨Nat.le_of_ble_eq_true rfl, Nat.le_of_ble_eq_true rfl⟩) ⟨ml_blind, va_recv hK hP (ci := 0) rfl (ml_at (by decide) (dc_desk kc a d)), ml_pre hP hK hD⟩ rfl rfl hl.1 rfl (lv_room (Nat.le_of_ble_eq_true rfl)) d_again_34 ⟨Nat.zero_le _, Nat.zero_le _⟩) hD hS hA (fun H locs hP hD hS => ?_)
      refine lv_iload hx hb d_again_37 (lv_at hl 0 rfl) ?_
      obtain ⟨rfl, rfl⟩ := Prod.mk.inj hres
      exact ml_iret hx hb hr hlocks hP hK hD hS d_again_39
    · rw [if_pos h_3] at hres
      refine lv_iconst (v := -1) hx hb d_again_27 (by decide) ?_
      obtain ⟨rfl, rfl⟩ := Prod.mk.inj hres
      exact ml_iret hx hb hr hlocks hP hK hD hS d_again_28
def sp_close (d : DK) (pr : Int32) (x : Int32) : Int32 × DK :=
  (oc (sp_fileOf d pr x) ((-1 : Int32), d) (fun i_2 => (if (sp_dropName d pr x i_2).1 = (0 : Int32) then ((0 : Int32), (sp_dropName d pr x i_2).2) else (((sp_dropName d pr x i_2).2).1 3 i_2.val, (sp_dropName d pr x i_2).2))))
abbrev rm_close : Room := { frames := 2, cells := 0, slots := 0, locals := 44 }
set_option maxHeartbeats 4000000 in
set_option maxRecDepth 100000 in
theorem c_close (l : Launch) (dC : Nat → ClassId) (dI : Nat → Nat → Nat) (kc : Nat → ClassId) (a : Nat → Nat) (sz : Nat) (d : DK) (pr : Int32) (x : Int32) (R' : Int32) (d' : DK) (hres : sp_close d pr x = (R', d')) : Met l y_close ws_close rm_close (va_Pc [.ref (a 0), .int pr, .int x] (ml_B (dC, dI) vwCl (tysD kc) 57 a (dcell kc a d) sz)) (va_Qi (fun r (_ : Unit) => r = R') (fun _ t => ml_E (dC, dI) vwCl (tysD kc) 57 a (dcell kc a d') (va_A (ml 57 a (dcell kc a d)) sz) t) (va_A (ml 57 a (dcell kc a d)) sz)) 0 0 (va_A (ml 57 a (dcell kc a d)) sz) := by
  refine Met.ofW (cc := prog_1_method_5_code) (maxL := 4) (ret := (some .int)) (by decide) rfl ?_
  intro p e s m args below meth c s₁ B hml hv
  obtain ⟨rfl, hsz, hP, hK, hD0⟩ := hv
  have hx := B.exec
  have hb := B.bytes
  have hr := B.returns
  have hts := atoms_spec (ws := ws_close) B.pre
  have hown : s.vm.findClass "HandleDesk" = some m.cls := findClass_of_methodNamed B.named
  have hlocks := B.notSynchronized
  subst hsz
  have hD := hD0.self (sz := s.heap.size)
  generalize hAe : va_A (ml 57 a (dcell kc a d)) s.heap.size = A at hD ⊢
  have hA : ∀ q : Nat, s.heap.size ≤ q → A q := fun q h => by rw [← hAe]; exact Or.inr h
  have hS : va_S A s.heap s.heap [] := va_S.rf
  have hl := lv_entry ([.ref (a 0), .int pr, .int x]) (n := 4) (Nat.le_of_ble_eq_true rfl)
  rw [lg_entry_eq]
  generalize (lg_sl ([.ref (a 0), .int pr, .int x]) ++ List.replicate (4 - (lg_sl ([.ref (a 0), .int pr, .int x])).length) Slot.unset).toArray = ls at hl ⊢
  have hl : lv_has ls 4 [(0, .ref (a 0)), (1, .int pr), (2, .int x)] := hl
  rw [sp_close] at hres
  refine lv_aload_n hx hb d_close_0 rfl (lv_at hl 0 rfl) ?_
  refine lv_iload_n hx hb d_close_1 rfl (lv_at hl 1 rfl) ?_
  refine lv_iload_n hx hb d_close_2 rfl (lv_at hl 2 rfl) ?_
  refine ml_callq (va_runV (As := [.int pr, .int x]) (rest := []) ⟨hx, hb, hml, hown, hts⟩ (c_fileOf l dC dI kc a _ d pr x _ rfl) (cwV 2 hts (gd_V mC wd_162 wd_164 ws_1 wd_1 wd_165) rfl rfl rfl hd_fileOf ⟨Nat.le_of_ble_eq_true rfl, Nat.le_of_ble_eq_true rfl⟩) ⟨ml_blind, va_recv hK hP (ci := 0) rfl (ml_at (by decide) (dc_desk kc a d)), ml_pre hP hK hD⟩ rfl rfl hl.1 rfl (lv_room (Nat.le_of_ble_eq_true rfl)) d_close_3 ⟨Nat.zero_le _, Nat.zero_le _⟩) hD hS hA (fun H locs hP hD hS => ?_)
  refine ml_split (fun q_1 => ?_) (fun i_2 q_1 => ?_)
  · rw [q_1, oc_n] at hres
    refine lv_astore_nN (lv' := [(3, .null), (0, .ref (a 0)), (1, .int pr), (2, .int x)]) hx hb d_close_6 rfl hl (by decide) rfl (fun ls hl => ?_)
    refine lv_aload_nN hx hb d_close_7 rfl (lv_at hl 0 rfl) ?_
    refine lv_ifnonnullN hx hb d_close_8 ?_
    refine lv_iconst (v := -1) hx hb d_close_11 (by decide) ?_
    obtain ⟨rfl, rfl⟩ := Prod.mk.inj hres
    exact ml_iret hx hb hr hlocks hP hK hD hS d_close_12
  · rw [q_1, oc_s] at hres
    refine lv_astore_n (lv' := [(3, .ref (a (i_2.val + 3))), (0, .ref (a 0)), (1, .int pr), (2, .int x)]) hx hb d_close_6 rfl hl (by decide) rfl (fun ls hl => ?_)
    refine lv_aload_n hx hb d_close_7 rfl (lv_at hl 0 rfl) ?_
    refine lv_ifnonnull (tgt := 13) hx hb d_close_8 (by decide) ?_
    refine lv_aload_n hx hb d_close_13 rfl (lv_at hl 1 rfl) ?_
    refine lv_iload_n hx hb d_close_14 rfl (lv_at hl 2 rfl) ?_
    refine lv_iload_n hx hb d_close_15 rfl (lv_at hl 3 rfl) ?_
    refine lv_aload_n hx hb d_close_16 rfl (lv_at hl 0 rfl) ?_
    refine ml_calli (va_runV (As := [.int pr, .int x, .ref (a (i_2.val + 3))]) (rest := []) ⟨hx, hb, hml, hown, hts⟩ (c_dropName l dC dI kc a _ d pr x i_2 (sp_dropName d pr x i_2).1 (sp_dropName d pr x i_2).2 (pe _)) (cwV 3 hts (gd_V mC wd_208 wd_210 ws_5 wd_1 wd_211) rfl rfl rfl hd_dropName ⟨Nat.le_of_ble_eq_true rfl, Nat.le_of_ble_eq_true rfl⟩) ⟨ml_blind, va_recv hK hP (ci := 0) rfl (ml_at (by decide) (dc_desk kc a d)), ml_pre hP hK hD⟩ rfl rfl hl.1 rfl (lv_room (Nat.le_of_ble_eq_true rfl)) d_close_17 ⟨Nat.zero_le _, Nat.zero_le _⟩) hD hS hA (fun H locs hP hD hS => ?_)
    refine lv_if_eq (tgt := 30) hx hb d_close_20 (by decide) (fun h_3 => ?_) (fun h_3 => ?_)
    · rw [if_pos h_3] at hres
      refine lv_iconst (v := 0) hx hb d_close_30 (by decide) ?_
      obtain ⟨rfl, rfl⟩ := Prod.mk.inj hres
      exact ml_iret hx hb hr hlocks hP hK hD hS d_close_31
    · rw [if_neg h_3] at hres
      refine lv_aload_n hx hb d_close_23 rfl (lv_at hl 0 rfl) ?_
      refine ml_get (D := (dC, dI)) hx hb hts in_FC hown hK hP (i_2.val + 3) (lt_file i_2) (dc_file kc a ((sp_dropName d pr x i_2).2) i_2) rfl 2 (by decide) (hts _ (mC _ wd_28)) (fun _ h9 => h9) (v := .int (((sp_dropName d pr x i_2).2).1 3 i_2.val)) rfl d_close_24 ?_
      refine lv_goto (tgt := 31) hx hb d_close_27 (by decide) ?_
      obtain ⟨rfl, rfl⟩ := Prod.mk.inj hres
      exact ml_iret hx hb hr hlocks hP hK hD hS d_close_31
end
section
def lp_closeAll (pr : Int32) : Nat → Nat → DK → Int32 × DK
  | 0, _, d => (0, d)
  | n + 1, j, d =>
    (if (16 : Int32) ≤ (nI j) then (d.1 0 0, d) else (oc (sp_fileOf d pr (nI j)) (lp_closeAll pr n (j + 1) d) (fun i_3 => (if (sp_dropName d pr (nI j) i_3).1 = (0 : Int32) then (lp_closeAll pr n (j + 1) ((sp_dropName d pr (nI j) i_3).2)) else (lp_closeAll pr n (j + 1) (sp_keepLeft ((sp_dropName d pr (nI j) i_3).2) (((sp_dropName d pr (nI j) i_3).2).1 3 i_3.val)))))))
def sp_closeAll (d : DK) (pr : Int32) : Int32 × DK :=
  (if (sp_isProcess pr) = (0 : Int32) then ((-1 : Int32), d) else (lp_closeAll pr (16 + 1) 0 (sI d 0 0 (0 : Int32))))
abbrev rm_closeAll : Room := { frames := 2, cells := 0, slots := 0, locals := 44 }
set_option maxHeartbeats 4000000 in
set_option maxRecDepth 100000 in
theorem c_closeAll (l : Launch) (dC : Nat → ClassId) (dI : Nat → Nat → Nat) (kc : Nat → ClassId) (a : Nat → Nat) (sz : Nat) (d : DK) (pr : Int32) (R' : Int32) (d' : DK) (hres : sp_closeAll d pr = (R', d')) : Met l y_closeAll ws_closeAll rm_closeAll (va_Pc [.ref (a 0), .int pr] (ml_B (dC, dI) vwCl (tysD kc) 57 a (dcell kc a d) sz)) (va_Qi (fun r (_ : Unit) => r = R') (fun _ t => ml_E (dC, dI) vwCl (tysD kc) 57 a (dcell kc a d') (va_A (ml 57 a (dcell kc a d)) sz) t) (va_A (ml 57 a (dcell kc a d)) sz)) 0 0 (va_A (ml 57 a (dcell kc a d)) sz) := by
  refine Met.ofW (cc := prog_1_method_6_code) (maxL := 4) (ret := (some .int)) (by decide) rfl ?_
  intro p e s m args below meth c s₁ B hml hv
  obtain ⟨rfl, hsz, hP, hK, hD0⟩ := hv
  have hx := B.exec
  have hb := B.bytes
  have hr := B.returns
  have hts := atoms_spec (ws := ws_closeAll) B.pre
  have hown : s.vm.findClass "HandleDesk" = some m.cls := findClass_of_methodNamed B.named
  have hlocks := B.notSynchronized
  subst hsz
  have hD := hD0.self (sz := s.heap.size)
  generalize hAe : va_A (ml 57 a (dcell kc a d)) s.heap.size = A at hD ⊢
  have hA : ∀ q : Nat, s.heap.size ≤ q → A q := fun q h => by rw [← hAe]; exact Or.inr h
  have hS : va_S A s.heap s.heap [] := va_S.rf
  have loop : ∀ (n j : Nat) (d : DK) (H : Heap) (locs : List Loc) (ls : Array Slot), j ≤ 16 → j + n = 16 + 1 → lp_closeAll pr n j d = (R', d') → va_P (dC, dI) vwCl (ml 57 a (dcell kc a d)) H → va_D A (ml 57 a (dcell kc a d)) → va_S A s.heap H locs → lv_has ls 4 [(0, .ref (a 0)), (1, .int pr), (2, .int (nI j))] → W p l e rm_closeAll s m ([.ref (a 0), .int pr] : List Value).toArray below meth c H locs 0 0 (MQ below (va_Qi (fun r (_ : Unit) => r = R') (fun _ t => ml_E (dC, dI) vwCl (tysD kc) 57 a (dcell kc a d') A t) A) ([.ref (a 0), .int pr] : List Value).toArray s 0 0 A) (F0 m 16 ls []) := by
    intro n
    induction n with
    | zero =>
      intro j d H locs ls hj hn
      exact absurd hn (by omega)
    | succ n ih =>
      intro j d H locs ls hj hn  hres hP hD hS hl
      rw [lp_closeAll] at hres
      refine lv_iload_n hx hb d_closeAll_16 rfl (lv_at hl 2 rfl) ?_
      refine lv_bipush (v := 16) hx hb d_closeAll_17 (by decide) ?_
      refine lv_icmp_ge (tgt := 57) hx hb d_closeAll_19 (by decide) (fun h_1 => ?_) (fun h_1 => ?_)
      · rw [if_pos h_1] at hres
        refine lv_aload_n hx hb d_closeAll_57 rfl (lv_at hl 0 rfl) ?_
        refine ml_get (D := (dC, dI)) hx hb hts in_DC hown hK hP (0) (by decide) (dc_desk kc a d) rfl 4 (by decide) (hts _ (mC _ wd_127)) (fun _ h9 => h9) (v := .int (d.1 0 0)) rfl d_closeAll_58 ?_
        obtain ⟨rfl, rfl⟩ := Prod.mk.inj hres
        exact ml_iret hx hb hr hlocks hP hK hD hS d_closeAll_61
      · rw [if_neg h_1] at hres
        refine lv_aload_n hx hb d_closeAll_22 rfl (lv_at hl 0 rfl) ?_
        refine lv_iload_n hx hb d_closeAll_23 rfl (lv_at hl 1 rfl) ?_
        refine lv_iload_n hx hb d_closeAll_24 rfl (lv_at hl 2 rfl) ?_
        refine ml_callq (va_runV (As := [.int pr, .int (nI j)]) (rest := []) ⟨hx, hb, hml, hown, hts⟩ (c_fileOf l dC dI kc a _ d pr (nI j) _ rfl) (cwV 2 hts (gd_V mC wd_162 wd_164 ws_1 wd_1 wd_165) rfl rfl rfl hd_fileOf ⟨Nat.le_of_ble_eq_true rfl, Nat.le_of_ble_eq_true rfl⟩) ⟨ml_blind, va_recv hK hP (ci := 0) rfl (ml_at (by decide) (dc_desk kc a d)), ml_pre hP hK hD⟩ rfl rfl hl.1 rfl (lv_room (Nat.le_of_ble_eq_true rfl)) d_closeAll_25 ⟨Nat.zero_le _, Nat.zero_le _⟩) hD hS hA (fun H locs hP hD hS => ?_)
        refine ml_split (fun q_2 => ?_) (fun i_3 q_2 => ?_)
        · rw [q_2, oc_n] at hres
          refine lv_astore_nN (lv' := [(3, .null), (0, .ref (a 0)), (1, .int pr), (2, .int (nI j))]) hx hb d_closeAll_28 rfl hl (by decide) rfl (fun ls hl => ?_)
          refine lv_aload_nN hx hb d_closeAll_29 rfl (lv_at hl 0 rfl) ?_
          refine lv_ifnullN (tgt := 51) hx hb d_closeAll_30 (by decide) ?_
          refine lv_iinc (v := nI (j + 1)) (lv' := [(2, .int (nI (j + 1))), (3, .null), (0, .ref (a 0)), (1, .int pr)]) hx hb d_closeAll_51 hl (k := 3) rfl (nI_1 j) (by decide) rfl (fun ls hl => ?_)
          refine lv_goto (tgt := 16) hx hb d_closeAll_54 (by decide) ?_
          exact ih (j + 1) d _ _ ls (lp_adv (b := (16 : Int32)) (B := 16) rfl (by decide) hj (by assumption)) (by omega) hres hP hD hS (lv_sub hl [2, 3, 0] rfl)
        · rw [q_2, oc_s] at hres
          refine lv_astore_n (lv' := [(3, .ref (a (i_3.val + 3))), (0, .ref (a 0)), (1, .int pr), (2, .int (nI j))]) hx hb d_closeAll_28 rfl hl (by decide) rfl (fun ls hl => ?_)
          refine lv_aload_n hx hb d_closeAll_29 rfl (lv_at hl 0 rfl) ?_
          refine lv_ifnull hx hb d_closeAll_30 ?_
          refine lv_aload_n hx hb d_closeAll_33 rfl (lv_at hl 1 rfl) ?_
          refine lv_iload_n hx hb d_closeAll_34 rfl (lv_at hl 2 rfl) ?_
          refine lv_iload_n hx hb d_closeAll_35 rfl (lv_at hl 3 rfl) ?_
          refine lv_aload_n hx hb d_closeAll_36 rfl (lv_at hl 0 rfl) ?_
          refine ml_calli (va_runV (As := [.int pr, .int (nI j), .ref (a (i_3.val + 3))]) (rest := []) ⟨hx, hb, hml, hown, hts⟩ (c_dropName l dC dI kc a _ d pr (nI j) i_3 (sp_dropName d pr (nI j) i_3).1 (sp_dropName d pr (nI j) i_3).2 (pe _)) (cwV 3 hts (gd_V mC wd_208 wd_210 ws_5 wd_1 wd_211) rfl rfl rfl hd_dropName ⟨Nat.le_of_ble_eq_true rfl, Nat.le_of_ble_eq_true rfl⟩) ⟨ml_blind, va_recv hK hP (ci := 0) rfl (ml_at (by decide) (dc_desk kc a d)), ml_pre hP hK hD⟩ rfl rfl hl.1 rfl (lv_room (Nat.le_of_ble_eq_true rfl)) d_closeAll_37 ⟨Nat.zero_le _, Nat.zero_le _⟩) hD hS hA (fun H locs hP hD hS => ?_)
          refine lv_if_eq (tgt := 51) hx hb d_closeAll_40 (by decide) (fun h_4 => ?_) (fun h_4 => ?_)
          · rw [if_pos h_4] at hres
            refine lv_iinc (v := nI (j + 1)) (lv' := [(2, .int (nI (j + 1))), (3, .ref (a (i_3.val + 3))), (0, .ref (a 0)), (1, .int pr)]) hx hb d_closeAll_51 hl (k := 3) rfl (nI_1 j) (by decide) rfl (fun ls hl => ?_)
            refine lv_goto (tgt := 16) hx hb d_closeAll_54 (by decide) ?_
            exact ih (j + 1) ((sp_dropName d pr (nI j) i_3).2) _ _ ls (lp_adv (b := (16 : Int32)) (B := 16) rfl (by decide) hj (by assumption)) (by omega) hres hP hD hS (lv_sub hl [2, 3, 0] rfl)
          · rw [if_neg h_4] at hres
            refine lv_aload_n hx hb d_closeAll_43 rfl (lv_at hl 1 rfl) ?_
            refine lv_aload_n hx hb d_closeAll_44 rfl (lv_at hl 0 rfl) ?_
            refine ml_get (D := (dC, dI)) hx hb hts in_FC hown hK hP (i_3.val + 3) (lt_file i_3) (dc_file kc a ((sp_dropName d pr (nI j) i_3).2) i_3) rfl 2 (by decide) (hts _ (mC _ wd_28)) (fun _ h9 => h9) (v := .int (((sp_dropName d pr (nI j) i_3).2).1 3 i_3.val)) rfl d_closeAll_45 ?_
            refine ml_callv (va_runV (As := [.int (((sp_dropName d pr (nI j) i_3).2).1 3 i_3.val)]) (rest := []) ⟨hx, hb, hml, hown, hts⟩ (c_keepLeft l dC dI kc a _ ((sp_dropName d pr (nI j) i_3).2) (((sp_dropName d pr (nI j) i_3).2).1 3 i_3.val) _ rfl) (cwV 1 hts (gd_V mC wd_220 wd_222 ws_6 wd_1 wd_223) rfl rfl rfl hd_keepLeft ⟨Nat.le_of_ble_eq_true rfl, Nat.le_of_ble_eq_true rfl⟩) ⟨ml_blind, va_recv hK hP (ci := 0) rfl (ml_at (by decide) (dc_desk kc a ((sp_dropName d pr (nI j) i_3).2))), ml_pre hP hK hD⟩ rfl rfl hl.1 rfl (lv_room (Nat.le_of_ble_eq_true rfl)) d_closeAll_48 ⟨Nat.zero_le _, Nat.zero_le _⟩) hD hS hA (fun H locs hP hD hS => ?_)
            refine lv_iinc (v := nI (j + 1)) (lv' := [(2, .int (nI (j + 1))), (3, .ref (a (i_3.val + 3))), (0, .ref (a 0)), (1, .int pr)]) hx hb d_closeAll_51 hl (k := 3) rfl (nI_1 j) (by decide) rfl (fun ls hl => ?_)
            refine lv_goto (tgt := 16) hx hb d_closeAll_54 (by decide) ?_
            exact ih (j + 1) (sp_keepLeft ((sp_dropName d pr (nI j) i_3).2) (((sp_dropName d pr (nI j) i_3).2).1 3 i_3.val)) _ _ ls (lp_adv (b := (16 : Int32)) (B := 16) rfl (by decide) hj (by assumption)) (by omega) hres hP hD hS (lv_sub hl [2, 3, 0] rfl)
  have hl := lv_entry ([.ref (a 0), .int pr]) (n := 4) (Nat.le_of_ble_eq_true rfl)
  rw [lg_entry_eq]
  generalize (lg_sl ([.ref (a 0), .int pr]) ++ List.replicate (4 - (lg_sl ([.ref (a 0), .int pr])).length) Slot.unset).toArray = ls at hl ⊢
  have hl : lv_has ls 4 [(0, .ref (a 0)), (1, .int pr)] := hl
  rw [sp_closeAll] at hres
  refine lv_iload_n hx hb d_closeAll_0 rfl (lv_at hl 1 rfl) ?_
  refine ml_calli (va_runS (As := [.int pr]) (rest := []) ⟨hx, hb, hml, hown, hts⟩ (c_isProcess l dC dI kc a _ d pr _ rfl) (cwS 1 hts (gd_S mC wd_149 wd_150 wd_1 wd_151) rfl rfl rfl hd_isProcess ⟨Nat.le_of_ble_eq_true rfl, Nat.le_of_ble_eq_true rfl⟩) ⟨ml_blind, ml_pre hP hK hD⟩ rfl rfl hl.1 rfl (lv_room (Nat.le_of_ble_eq_true rfl)) d_closeAll_1 ⟨Nat.zero_le _, Nat.zero_le _⟩) hD hS hA (fun H locs hP hD hS => ?_)
  refine lv_if_ne (tgt := 9) hx hb d_closeAll_4 (by decide) (fun h_5 => ?_) (fun h_5 => ?_)
  · rw [if_neg h_5] at hres
    refine lv_aload_n hx hb d_closeAll_9 rfl (lv_at hl 0 rfl) ?_
    refine lv_iconst (v := 0) hx hb d_closeAll_10 (by decide) ?_
    refine ml_put (D := (dC, dI)) hx hb hts in_DC tyD tyD_ok nmD hown hK hP hD hS (0) (by decide) (dc_desk kc a d) rfl 4 (by decide) (hts _ (mC _ wd_127)) (fun _ h9 => h9) rfl (ty := .int) (by decide +kernel) rfl rfl (Nat.le_of_ble_eq_true rfl) (f' := (dcell kc a (sI d 0 0 (0 : Int32)))) (dw_0 (0 : Int32)) d_closeAll_11 (fun H locs hP hD hS => ?_)
    refine lv_iconst (v := 0) hx hb d_closeAll_14 (by decide) ?_
    refine lv_istore_n (lv' := [(2, .int (0 : Int32)), (0, .ref (a 0)), (1, .int pr)]) hx hb d_closeAll_15 rfl hl (by decide) rfl (fun ls hl => ?_)
    exact loop _ 0 (sI d 0 0 (0 : Int32)) _ _ ls (Nat.zero_le _) (by omega) hres hP hD hS (lv_sub hl [1, 2, 0] rfl)
  · rw [if_pos h_5] at hres
    refine lv_iconst (v := -1) hx hb d_closeAll_7 (by decide) ?_
    obtain ⟨rfl, rfl⟩ := Prod.mk.inj hres
    exact ml_iret hx hb hr hlocks hP hK hD hS d_closeAll_8
def sp_left (d : DK) (kx : Int32) : Int32 :=
  (if kx < (0 : Int32) then (0 : Int32) else (if (d.1 0 0) ≤ kx then (0 : Int32) else (if kx < (16 : Int32) then (d.1 1 kx.toNatClampNeg) else (0 : Int32))))
abbrev rm_left : Room := { frames := 0, cells := 0, slots := 0, locals := 0 }
set_option maxHeartbeats 4000000 in
set_option maxRecDepth 100000 in
theorem c_left (l : Launch) (dC : Nat → ClassId) (dI : Nat → Nat → Nat) (kc : Nat → ClassId) (a : Nat → Nat) (sz : Nat) (d : DK) (kx : Int32) (R' : Int32) (hres : sp_left d kx = R') : Met l y_left ws_left rm_left (va_Pc [.ref (a 0), .int kx] (ml_B (dC, dI) vwCl (tysD kc) 57 a (dcell kc a d) sz)) (va_Qi (fun r (_ : Unit) => r = R') (fun _ t => ml_E (dC, dI) vwCl (tysD kc) 57 a (dcell kc a d) (va_A (ml 57 a (dcell kc a d)) sz) t) (va_A (ml 57 a (dcell kc a d)) sz)) 0 0 (va_A (ml 57 a (dcell kc a d)) sz) := by
  refine Met.ofW (cc := prog_1_method_7_code) (maxL := 2) (ret := (some .int)) (by decide) rfl ?_
  intro p e s m args below meth c s₁ B hml hv
  obtain ⟨rfl, hsz, hP, hK, hD0⟩ := hv
  have hx := B.exec
  have hb := B.bytes
  have hr := B.returns
  have hts := atoms_spec (ws := ws_left) B.pre
  have hown : s.vm.findClass "HandleDesk" = some m.cls := findClass_of_methodNamed B.named
  have hlocks := B.notSynchronized
  subst hsz
  have hD := hD0.self (sz := s.heap.size)
  generalize hAe : va_A (ml 57 a (dcell kc a d)) s.heap.size = A at hD ⊢
  have hA : ∀ q : Nat, s.heap.size ≤ q → A q := fun q h => by rw [← hAe]; exact Or.inr h
  have hS : va_S A s.heap s.heap [] := va_S.rf
  have hl := lv_entry ([.ref (a 0), .int kx]) (n := 2) (Nat.le_of_ble_eq_true rfl)
  rw [lg_entry_eq]
  generalize (lg_sl ([.ref (a 0), .int kx]) ++ List.replicate (2 - (lg_sl ([.ref (a 0), .int kx])).length) Slot.unset).toArray = ls at hl ⊢
  have hl : lv_has ls 2 [(0, .ref (a 0)), (1, .int kx)] := hl
  rw [sp_left] at hres
  refine lv_iload_n hx hb d_left_0 rfl (lv_at hl 1 rfl) ?_
  refine lv_if_lt (tgt := 21) hx hb d_left_1 (by decide) (fun h_1 => ?_) (fun h_1 => ?_)
  · rw [if_pos h_1] at hres
    refine lv_iconst (v := 0) hx hb d_left_21 (by decide) ?_
    subst hres
    exact ml_iret hx hb hr hlocks hP hK hD hS d_left_22
  · rw [if_neg h_1] at hres
    refine lv_iload_n hx hb d_left_4 rfl (lv_at hl 1 rfl) ?_
    refine lv_aload_n hx hb d_left_5 rfl (lv_at hl 0 rfl) ?_
    refine ml_get (D := (dC, dI)) hx hb hts in_DC hown hK hP (0) (by decide) (dc_desk kc a d) rfl 4 (by decide) (hts _ (mC _ wd_127)) (fun _ h9 => h9) (v := .int (d.1 0 0)) rfl d_left_6 ?_
    refine lv_icmp_ge (tgt := 21) hx hb d_left_9 (by decide) (fun h_2 => ?_) (fun h_2 => ?_)
    · rw [if_pos h_2] at hres
      refine lv_iconst (v := 0) hx hb d_left_21 (by decide) ?_
      subst hres
      exact ml_iret hx hb hr hlocks hP hK hD hS d_left_22
    · rw [if_neg h_2] at hres
      refine lv_iload_n hx hb d_left_12 rfl (lv_at hl 1 rfl) ?_
      refine lv_aload_n hx hb d_left_13 rfl (lv_at hl 0 rfl) ?_
      refine ml_get (D := (dC, dI)) hx hb hts in_DC hown hK hP (0) (by decide) (dc_desk kc a d) rfl 3 (by decide) (hts _ (mC _ wd_126)) (fun _ h9 => h9) (v := .ref (a 52)) rfl d_left_14 ?_
      refine ml_alen hx hb hK hP (52) 0 (by decide) (dc_left kc a d) rfl (v := 16) rfl d_left_17 ?_
      refine lv_icmp_lt (tgt := 23) hx hb d_left_18 (by decide) (fun h_3 => ?_) (fun h_3 => ?_)
      · rw [if_pos h_3] at hres
        refine lv_aload_n hx hb d_left_23 rfl (lv_at hl 0 rfl) ?_
        refine ml_get (D := (dC, dI)) hx hb hts in_DC hown hK hP (0) (by decide) (dc_desk kc a d) rfl 3 (by decide) (hts _ (mC _ wd_126)) (fun _ h9 => h9) (v := .ref (a 52)) rfl d_left_24 ?_
        refine lv_iload_n hx hb d_left_27 rfl (lv_at hl 1 rfl) ?_
        refine ml_iald hx hb hK hP (52) 0 (by decide) (dc_left kc a d) rfl (in_cmpL (b := (16 : Int32)) rfl (by decide) (by assumption) (by assumption)) d_left_28 ?_
        subst hres
        exact ml_iret hx hb hr hlocks hP hK hD hS d_left_29
      · rw [if_neg h_3] at hres
        refine lv_iconst (v := 0) hx hb d_left_21 (by decide) ?_
        subst hres
        exact ml_iret hx hb hr hlocks hP hK hD hS d_left_22
def lp_copy (pr : Int32) (fr : Int32) : Nat → Nat → DK → Int32 × DK
  | 0, _, d => (0, d)
  | n + 1, j, d =>
    (if (16 : Int32) ≤ (nI j) then ((sp_usedDescriptors d pr), d) else (oc (sp_fileOf d fr (nI j)) (lp_copy pr fr n (j + 1) d) (fun i_3 => (lp_copy pr fr n (j + 1) (sp_setName d pr (nI j) i_3)))))
def sp_copy (d : DK) (pr : Int32) (fr : Int32) : Int32 × DK :=
  (if (sp_isProcess pr) = (0 : Int32) then ((-1 : Int32), d) else (if (sp_isProcess fr) = (0 : Int32) then ((-1 : Int32), d) else (if pr = fr then ((-1 : Int32), d) else (if (sp_usedDescriptors d pr) ≤ (0 : Int32) then (lp_copy pr fr (16 + 1) 0 d) else ((-1 : Int32), d)))))
abbrev rm_copy : Room := { frames := 3, cells := 0, slots := 0, locals := 65 }
set_option maxHeartbeats 4000000 in
set_option maxRecDepth 100000 in
theorem c_copy (l : Launch) (dC : Nat → ClassId) (dI : Nat → Nat → Nat) (kc : Nat → ClassId) (a : Nat → Nat) (sz : Nat) (d : DK) (pr : Int32) (fr : Int32) (R' : Int32) (d' : DK) (hres : sp_copy d pr fr = (R', d')) : Met l y_copy ws_copy rm_copy (va_Pc [.ref (a 0), .int pr, .int fr] (ml_B (dC, dI) vwCl (tysD kc) 57 a (dcell kc a d) sz)) (va_Qi (fun r (_ : Unit) => r = R') (fun _ t => ml_E (dC, dI) vwCl (tysD kc) 57 a (dcell kc a d') (va_A (ml 57 a (dcell kc a d)) sz) t) (va_A (ml 57 a (dcell kc a d)) sz)) 0 0 (va_A (ml 57 a (dcell kc a d)) sz) := by
  refine Met.ofW (cc := prog_1_method_8_code) (maxL := 5) (ret := (some .int)) (by decide) rfl ?_
  intro p e s m args below meth c s₁ B hml hv
  obtain ⟨rfl, hsz, hP, hK, hD0⟩ := hv
  have hx := B.exec
  have hb := B.bytes
  have hr := B.returns
  have hts := atoms_spec (ws := ws_copy) B.pre
  have hown : s.vm.findClass "HandleDesk" = some m.cls := findClass_of_methodNamed B.named
  have hlocks := B.notSynchronized
  subst hsz
  have hD := hD0.self (sz := s.heap.size)
  generalize hAe : va_A (ml 57 a (dcell kc a d)) s.heap.size = A at hD ⊢
  have hA : ∀ q : Nat, s.heap.size ≤ q → A q := fun q h => by rw [← hAe]; exact Or.inr h
  have hS : va_S A s.heap s.heap [] := va_S.rf
  have loop : ∀ (n j : Nat) (d : DK) (H : Heap) (locs : List Loc) (ls : Array Slot), j ≤ 16 → j + n = 16 + 1 → lp_copy pr fr n j d = (R', d') → va_P (dC, dI) vwCl (ml 57 a (dcell kc a d)) H → va_D A (ml 57 a (dcell kc a d)) → va_S A s.heap H locs → lv_has ls 5 [(0, .ref (a 0)), (1, .int pr), (2, .int fr), (3, .int (nI j))] → W p l e rm_copy s m ([.ref (a 0), .int pr, .int fr] : List Value).toArray below meth c H locs 0 0 (MQ below (va_Qi (fun r (_ : Unit) => r = R') (fun _ t => ml_E (dC, dI) vwCl (tysD kc) 57 a (dcell kc a d') A t) A) ([.ref (a 0), .int pr, .int fr] : List Value).toArray s 0 0 A) (F0 m 33 ls []) := by
    intro n
    induction n with
    | zero =>
      intro j d H locs ls hj hn
      exact absurd hn (by omega)
    | succ n ih =>
      intro j d H locs ls hj hn  hres hP hD hS hl
      rw [lp_copy] at hres
      refine lv_iload_n hx hb d_copy_33 rfl (lv_at hl 3 rfl) ?_
      refine lv_bipush (v := 16) hx hb d_copy_34 (by decide) ?_
      refine lv_icmp_ge (tgt := 66) hx hb d_copy_36 (by decide) (fun h_1 => ?_) (fun h_1 => ?_)
      · rw [if_pos h_1] at hres
        refine lv_aload_n hx hb d_copy_66 rfl (lv_at hl 0 rfl) ?_
        refine lv_iload_n hx hb d_copy_67 rfl (lv_at hl 1 rfl) ?_
        refine ml_calli (va_runV (As := [.int pr]) (rest := []) ⟨hx, hb, hml, hown, hts⟩ (c_usedDescriptors l dC dI kc a _ d pr _ rfl) (cwV 1 hts (gd_V mC wd_232 wd_234 ws_7 wd_1 wd_235) rfl rfl rfl hd_usedDescriptors ⟨Nat.le_of_ble_eq_true rfl, Nat.le_of_ble_eq_true rfl⟩) ⟨ml_blind, va_recv hK hP (ci := 0) rfl (ml_at (by decide) (dc_desk kc a d)), ml_pre hP hK hD⟩ rfl rfl hl.1 rfl (lv_room (Nat.le_of_ble_eq_true rfl)) d_copy_68 ⟨Nat.zero_le _, Nat.zero_le _⟩) hD hS hA (fun H locs hP hD hS => ?_)
        obtain ⟨rfl, rfl⟩ := Prod.mk.inj hres
        exact ml_iret hx hb hr hlocks hP hK hD hS d_copy_71
      · rw [if_neg h_1] at hres
        refine lv_aload_n hx hb d_copy_39 rfl (lv_at hl 0 rfl) ?_
        refine lv_iload_n hx hb d_copy_40 rfl (lv_at hl 2 rfl) ?_
        refine lv_iload_n hx hb d_copy_41 rfl (lv_at hl 3 rfl) ?_
        refine ml_callq (va_runV (As := [.int fr, .int (nI j)]) (rest := []) ⟨hx, hb, hml, hown, hts⟩ (c_fileOf l dC dI kc a _ d fr (nI j) _ rfl) (cwV 2 hts (gd_V mC wd_162 wd_164 ws_1 wd_1 wd_165) rfl rfl rfl hd_fileOf ⟨Nat.le_of_ble_eq_true rfl, Nat.le_of_ble_eq_true rfl⟩) ⟨ml_blind, va_recv hK hP (ci := 0) rfl (ml_at (by decide) (dc_desk kc a d)), ml_pre hP hK hD⟩ rfl rfl hl.1 rfl (lv_room (Nat.le_of_ble_eq_true rfl)) d_copy_42 ⟨Nat.zero_le _, Nat.zero_le _⟩) hD hS hA (fun H locs hP hD hS => ?_)
        refine ml_split (fun q_2 => ?_) (fun i_3 q_2 => ?_)
        · rw [q_2, oc_n] at hres
          refine lv_astoreN (lv' := [(4, .null), (0, .ref (a 0)), (1, .int pr), (2, .int fr), (3, .int (nI j))]) hx hb d_copy_45 hl (by decide) rfl (fun ls hl => ?_)
          refine lv_aloadN hx hb d_copy_47 (lv_at hl 0 rfl) ?_
          refine lv_ifnullN (tgt := 60) hx hb d_copy_49 (by decide) ?_
          refine lv_iinc (v := nI (j + 1)) (lv' := [(3, .int (nI (j + 1))), (4, .null), (0, .ref (a 0)), (1, .int pr), (2, .int fr)]) hx hb d_copy_60 hl (k := 4) rfl (nI_1 j) (by decide) rfl (fun ls hl => ?_)
          refine lv_goto (tgt := 33) hx hb d_copy_63 (by decide) ?_
          exact ih (j + 1) d _ _ ls (lp_adv (b := (16 : Int32)) (B := 16) rfl (by decide) hj (by assumption)) (by omega) hres hP hD hS (lv_sub hl [2, 3, 4, 0] rfl)
        · rw [q_2, oc_s] at hres
          refine lv_astore (lv' := [(4, .ref (a (i_3.val + 3))), (0, .ref (a 0)), (1, .int pr), (2, .int fr), (3, .int (nI j))]) hx hb d_copy_45 hl (by decide) rfl (fun ls hl => ?_)
          refine lv_aload hx hb d_copy_47 (lv_at hl 0 rfl) ?_
          refine lv_ifnull hx hb d_copy_49 ?_
          refine lv_aload_n hx hb d_copy_52 rfl (lv_at hl 1 rfl) ?_
          refine lv_iload_n hx hb d_copy_53 rfl (lv_at hl 2 rfl) ?_
          refine lv_iload_n hx hb d_copy_54 rfl (lv_at hl 4 rfl) ?_
          refine lv_aload hx hb d_copy_55 (lv_at hl 0 rfl) ?_
          refine ml_callv (va_runV (As := [.int pr, .int (nI j), .ref (a (i_3.val + 3))]) (rest := []) ⟨hx, hb, hml, hown, hts⟩ (c_setName l dC dI kc a _ d pr (nI j) i_3 _ rfl) (cwV 3 hts (gd_V mC wd_177 wd_179 ws_3 wd_1 wd_180) rfl rfl rfl hd_setName ⟨Nat.le_of_ble_eq_true rfl, Nat.le_of_ble_eq_true rfl⟩) ⟨ml_blind, va_recv hK hP (ci := 0) rfl (ml_at (by decide) (dc_desk kc a d)), ml_pre hP hK hD⟩ rfl rfl hl.1 rfl (lv_room (Nat.le_of_ble_eq_true rfl)) d_copy_57 ⟨Nat.zero_le _, Nat.zero_le _⟩) hD hS hA (fun H locs hP hD hS => ?_)
          refine lv_iinc (v := nI (j + 1)) (lv' := [(3, .int (nI (j + 1))), (4, .ref (a (i_3.val + 3))), (0, .ref (a 0)), (1, .int pr), (2, .int fr)]) hx hb d_copy_60 hl (k := 4) rfl (nI_1 j) (by decide) rfl (fun ls hl => ?_)
          refine lv_goto (tgt := 33) hx hb d_copy_63 (by decide) ?_
          exact ih (j + 1) (sp_setName d pr (nI j) i_3) _ _ ls (lp_adv (b := (16 : Int32)) (B := 16) rfl (by decide) hj (by assumption)) (by omega) hres hP hD hS (lv_sub hl [2, 3, 4, 0] rfl)
  have hl := lv_entry ([.ref (a 0), .int pr, .int fr]) (n := 5) (Nat.le_of_ble_eq_true rfl)
  rw [lg_entry_eq]
  generalize (lg_sl ([.ref (a 0), .int pr, .int fr]) ++ List.replicate (5 - (lg_sl ([.ref (a 0), .int pr, .int fr])).length) Slot.unset).toArray = ls at hl ⊢
  have hl : lv_has ls 5 [(0, .ref (a 0)), (1, .int pr), (2, .int fr)] := hl
  rw [sp_copy] at hres
  refine lv_iload_n hx hb d_copy_0 rfl (lv_at hl 1 rfl) ?_
  refine ml_calli (va_runS (As := [.int pr]) (rest := []) ⟨hx, hb, hml, hown, hts⟩ (c_isProcess l dC dI kc a _ d pr _ rfl) (cwS 1 hts (gd_S mC wd_149 wd_150 wd_1 wd_151) rfl rfl rfl hd_isProcess ⟨Nat.le_of_ble_eq_true rfl, Nat.le_of_ble_eq_true rfl⟩) ⟨ml_blind, ml_pre hP hK hD⟩ rfl rfl hl.1 rfl (lv_room (Nat.le_of_ble_eq_true rfl)) d_copy_1 ⟨Nat.zero_le _, Nat.zero_le _⟩) hD hS hA (fun H locs hP hD hS => ?_)
  refine lv_if_eq (tgt := 19) hx hb d_copy_4 (by decide) (fun h_4 => ?_) (fun h_4 => ?_)
  · rw [if_pos h_4] at hres
    refine lv_iconst (v := -1) hx hb d_copy_19 (by decide) ?_
    obtain ⟨rfl, rfl⟩ := Prod.mk.inj hres
    exact ml_iret hx hb hr hlocks hP hK hD hS d_copy_20
  · rw [if_neg h_4] at hres
    refine lv_iload_n hx hb d_copy_7 rfl (lv_at hl 2 rfl) ?_
    refine ml_calli (va_runS (As := [.int fr]) (rest := []) ⟨hx, hb, hml, hown, hts⟩ (c_isProcess l dC dI kc a _ d fr _ rfl) (cwS 1 hts (gd_S mC wd_149 wd_150 wd_1 wd_151) rfl rfl rfl hd_isProcess ⟨Nat.le_of_ble_eq_true rfl, Nat.le_of_ble_eq_true rfl⟩) ⟨ml_blind, ml_pre hP hK hD⟩ rfl rfl hl.1 rfl (lv_room (Nat.le_of_ble_eq_true rfl)) d_copy_8 ⟨Nat.zero_le _, Nat.zero_le _⟩) hD hS hA (fun H locs hP hD hS => ?_)
    refine lv_if_eq (tgt := 19) hx hb d_copy_11 (by decide) (fun h_5 => ?_) (fun h_5 => ?_)
    · rw [if_pos h_5] at hres
      refine lv_iconst (v := -1) hx hb d_copy_19 (by decide) ?_
      obtain ⟨rfl, rfl⟩ := Prod.mk.inj hres
      exact ml_iret hx hb hr hlocks hP hK hD hS d_copy_20
    · rw [if_neg h_5] at hres
      refine lv_iload_n hx hb d_copy_14 rfl (lv_at hl 1 rfl) ?_
      refine lv_iload_n hx hb d_copy_15 rfl (lv_at hl 2 rfl) ?_
      refine lv_icmp_ne (tgt := 21) hx hb d_copy_16 (by decide) (fun h_6 => ?_) (fun h_6 => ?_)
      · rw [if_neg h_6] at hres
        refine lv_aload_n hx hb d_copy_21 rfl (lv_at hl 0 rfl) ?_
        refine lv_iload_n hx hb d_copy_22 rfl (lv_at hl 1 rfl) ?_
        refine ml_calli (va_runV (As := [.int pr]) (rest := []) ⟨hx, hb, hml, hown, hts⟩ (c_usedDescriptors l dC dI kc a _ d pr _ rfl) (cwV 1 hts (gd_V mC wd_232 wd_234 ws_7 wd_1 wd_235) rfl rfl rfl hd_usedDescriptors ⟨Nat.le_of_ble_eq_true rfl, Nat.le_of_ble_eq_true rfl⟩) ⟨ml_blind, va_recv hK hP (ci := 0) rfl (ml_at (by decide) (dc_desk kc a d)), ml_pre hP hK hD⟩ rfl rfl hl.1 rfl (lv_room (Nat.le_of_ble_eq_true rfl)) d_copy_23 ⟨Nat.zero_le _, Nat.zero_le _⟩) hD hS hA (fun H locs hP hD hS => ?_)
        refine lv_if_le (tgt := 31) hx hb d_copy_26 (by decide) (fun h_7 => ?_) (fun h_7 => ?_)
        · rw [if_pos h_7] at hres
          refine lv_iconst (v := 0) hx hb d_copy_31 (by decide) ?_
          refine lv_istore_n (lv' := [(3, .int (0 : Int32)), (0, .ref (a 0)), (1, .int pr), (2, .int fr)]) hx hb d_copy_32 rfl hl (by decide) rfl (fun ls hl => ?_)
          exact loop _ 0 d _ _ ls (Nat.zero_le _) (by omega) hres hP hD hS (lv_sub hl [1, 2, 3, 0] rfl)
        · rw [if_neg h_7] at hres
          refine lv_iconst (v := -1) hx hb d_copy_29 (by decide) ?_
          obtain ⟨rfl, rfl⟩ := Prod.mk.inj hres
          exact ml_iret hx hb hr hlocks hP hK hD hS d_copy_30
      · rw [if_pos h_6] at hres
        refine lv_iconst (v := -1) hx hb d_copy_19 (by decide) ?_
        obtain ⟨rfl, rfl⟩ := Prod.mk.inj hres
        exact ml_iret hx hb hr hlocks hP hK hD hS d_copy_20
def sp_about (d : DK) (pr : Int32) (x : Int32) (wh : Int32) : Int32 :=
  (oc (sp_fileOf d pr x) (-1 : Int32) (fun i_2 => (if wh = (0 : Int32) then (d.1 2 i_2.val) else (if wh = (1 : Int32) then (oc (d.2.2 i_2.val) (d.1 3 i_2.val) (fun i_6 => (nI i_6.val))) else (if wh = (2 : Int32) then (sp_oneIf (d.1 4 i_2.val)) else (if wh = (3 : Int32) then (sp_oneIf (d.1 5 i_2.val)) else (if wh = (4 : Int32) then (d.1 6 i_2.val) else (if wh = (5 : Int32) then (d.1 7 i_2.val) else (if wh = (6 : Int32) then (nI i_2.val) else (-1 : Int32))))))))))
abbrev rm_about : Room := { frames := 2, cells := 0, slots := 0, locals := 42 }
set_option maxHeartbeats 4000000 in
set_option maxRecDepth 100000 in
theorem c_about (l : Launch) (dC : Nat → ClassId) (dI : Nat → Nat → Nat) (kc : Nat → ClassId) (a : Nat → Nat) (sz : Nat) (d : DK) (pr : Int32) (x : Int32) (wh : Int32) (R' : Int32) (hres : sp_about d pr x wh = R') : Met l y_about ws_about rm_about (va_Pc [.ref (a 0), .int pr, .int x, .int wh] (ml_B (dC, dI) vwCl (tysD kc) 57 a (dcell kc a d) sz)) (va_Qi (fun r (_ : Unit) => r = R') (fun _ t => ml_E (dC, dI) vwCl (tysD kc) 57 a (dcell kc a d) (va_A (ml 57 a (dcell kc a d)) sz) t) (va_A (ml 57 a (dcell kc a d)) sz)) 0 0 (va_A (ml 57 a (dcell kc a d)) sz) := by
  refine Met.ofW (cc := prog_1_method_9_code) (maxL := 5) (ret := (some .int)) (by decide) rfl ?_
  intro p e s m args below meth c s₁ B hml hv
  obtain ⟨rfl, hsz, hP, hK, hD0⟩ := hv
  have hx := B.exec
  have hb := B.bytes
  have hr := B.returns
  have hts := atoms_spec (ws := ws_about) B.pre
  have hown : s.vm.findClass "HandleDesk" = some m.cls := findClass_of_methodNamed B.named
  have hlocks := B.notSynchronized
  subst hsz
  have hD := hD0.self (sz := s.heap.size)
  generalize hAe : va_A (ml 57 a (dcell kc a d)) s.heap.size = A at hD ⊢
  have hA : ∀ q : Nat, s.heap.size ≤ q → A q := fun q h => by rw [← hAe]; exact Or.inr h
  have hS : va_S A s.heap s.heap [] := va_S.rf
  have hl := lv_entry ([.ref (a 0), .int pr, .int x, .int wh]) (n := 5) (Nat.le_of_ble_eq_true rfl)
  rw [lg_entry_eq]
  generalize (lg_sl ([.ref (a 0), .int pr, .int x, .int wh]) ++ List.replicate (5 - (lg_sl ([.ref (a 0), .int pr, .int x, .int wh])).length) Slot.unset).toArray = ls at hl ⊢
  have hl : lv_has ls 5 [(0, .ref (a 0)), (1, .int pr), (2, .int x), (3, .int wh)] := hl
  rw [sp_about] at hres
  refine lv_aload_n hx hb d_about_0 rfl (lv_at hl 0 rfl) ?_
  refine lv_iload_n hx hb d_about_1 rfl (lv_at hl 1 rfl) ?_
  refine lv_iload_n hx hb d_about_2 rfl (lv_at hl 2 rfl) ?_
  refine ml_callq (va_runV (As := [.int pr, .int x]) (rest := []) ⟨hx, hb, hml, hown, hts⟩ (c_fileOf l dC dI kc a _ d pr x _ rfl) (cwV 2 hts (gd_V mC wd_162 wd_164 ws_1 wd_1 wd_165) rfl rfl rfl hd_fileOf ⟨Nat.le_of_ble_eq_true rfl, Nat.le_of_ble_eq_true rfl⟩) ⟨ml_blind, va_recv hK hP (ci := 0) rfl (ml_at (by decide) (dc_desk kc a d)), ml_pre hP hK hD⟩ rfl rfl hl.1 rfl (lv_room (Nat.le_of_ble_eq_true rfl)) d_about_3 ⟨Nat.zero_le _, Nat.zero_le _⟩) hD hS hA (fun H locs hP hD hS => ?_)
  refine ml_split (fun q_1 => ?_) (fun i_2 q_1 => ?_)
  · rw [q_1, oc_n] at hres
    refine lv_astoreN (lv' := [(4, .null), (0, .ref (a 0)), (1, .int pr), (2, .int x), (3, .int wh)]) hx hb d_about_6 hl (by decide) rfl (fun ls hl => ?_)
    refine lv_aloadN hx hb d_about_8 (lv_at hl 0 rfl) ?_
    refine lv_ifnonnullN hx hb d_about_10 ?_
    refine lv_iconst (v := -1) hx hb d_about_13 (by decide) ?_
    subst hres
    exact ml_iret hx hb hr hlocks hP hK hD hS d_about_14
  · rw [q_1, oc_s] at hres
    refine lv_astore (lv' := [(4, .ref (a (i_2.val + 3))), (0, .ref (a 0)), (1, .int pr), (2, .int x), (3, .int wh)]) hx hb d_about_6 hl (by decide) rfl (fun ls hl => ?_)
    refine lv_aload hx hb d_about_8 (lv_at hl 0 rfl) ?_
    refine lv_ifnonnull (tgt := 15) hx hb d_about_10 (by decide) ?_
    refine lv_iload_n hx hb d_about_15 rfl (lv_at hl 4 rfl) ?_
    by_cases e_3 : wh = (0 : Int32)
    · rw [if_pos e_3] at hres
      refine lv_tableIn (off := 44) (tgt := 60) hx hb d_about_16 (by rw [e_3]; decide) (by rw [e_3]; decide) (by rw [e_3]; rfl) (by decide) ?_
      refine lv_aload hx hb d_about_60 (lv_at hl 0 rfl) ?_
      refine ml_get (D := (dC, dI)) hx hb hts in_FC hown hK hP (i_2.val + 3) (lt_file i_2) (dc_file kc a d i_2) rfl 1 (by decide) (hts _ (mC _ wd_26)) (fun _ h9 => h9) (v := .int (d.1 2 i_2.val)) rfl d_about_62 ?_
      subst hres
      exact ml_iret hx hb hr hlocks hP hK hD hS d_about_65
    · rw [if_neg e_3] at hres
      by_cases e_4 : wh = (1 : Int32)
      · rw [if_pos e_4] at hres
        refine lv_tableIn (off := 50) (tgt := 66) hx hb d_about_16 (by rw [e_4]; decide) (by rw [e_4]; decide) (by rw [e_4]; rfl) (by decide) ?_
        refine lv_aload hx hb d_about_66 (lv_at hl 0 rfl) ?_
        refine ml_get (D := (dC, dI)) hx hb hts in_FC hown hK hP (i_2.val + 3) (lt_file i_2) (dc_file kc a d i_2) rfl 3 (by decide) (hts _ (mC _ wd_30)) (fun _ h9 => h9) (v := va_rf ((d.2.2 i_2.val).map (fun i => a (2 * i.val + 36)))) rfl d_about_68 ?_
        refine ml_split (fun q_5 => ?_) (fun i_6 q_5 => ?_)
        · rw [q_5, oc_n] at hres
          refine lv_ifnonnullN hx hb d_about_71 ?_
          refine lv_aload hx hb d_about_74 (lv_at hl 0 rfl) ?_
          refine ml_get (D := (dC, dI)) hx hb hts in_FC hown hK hP (i_2.val + 3) (lt_file i_2) (dc_file kc a d i_2) rfl 2 (by decide) (hts _ (mC _ wd_28)) (fun _ h9 => h9) (v := .int (d.1 3 i_2.val)) rfl d_about_76 ?_
          refine lv_goto (tgt := 90) hx hb d_about_79 (by decide) ?_
          subst hres
          exact ml_iret hx hb hr hlocks hP hK hD hS d_about_90
        · rw [q_5, oc_s] at hres
          refine lv_ifnonnull (tgt := 82) hx hb d_about_71 (by decide) ?_
          refine lv_aload hx hb d_about_82 (lv_at hl 0 rfl) ?_
          refine ml_get (D := (dC, dI)) hx hb hts in_FC hown hK hP (i_2.val + 3) (lt_file i_2) (dc_file kc a d i_2) rfl 3 (by decide) (hts _ (mC _ wd_30)) (fun _ h9 => h9) (v := va_rf ((d.2.2 i_2.val).map (fun i => a (2 * i.val + 36)))) rfl d_about_84 ?_
          refine ml_isS q_5 ?_
          refine ml_get (D := (dC, dI)) hx hb hts in_PC hown hK hP (2 * i_6.val + 36) (lt_pipe i_6) (dc_pipe kc a d i_6) rfl 0 (by decide) (hts _ (mC _ wd_64)) (fun _ h9 => h9) (v := .int (nI i_6.val)) rfl d_about_87 ?_
          subst hres
          exact ml_iret hx hb hr hlocks hP hK hD hS d_about_90
      · rw [if_neg e_4] at hres
        by_cases e_7 : wh = (2 : Int32)
        · rw [if_pos e_7] at hres
          refine lv_tableIn (off := 75) (tgt := 91) hx hb d_about_16 (by rw [e_7]; decide) (by rw [e_7]; decide) (by rw [e_7]; rfl) (by decide) ?_
          refine lv_aload hx hb d_about_91 (lv_at hl 0 rfl) ?_
          refine ml_get (D := (dC, dI)) hx hb hts in_FC hown hK hP (i_2.val + 3) (lt_file i_2) (dc_file kc a d i_2) rfl 4 (by decide) (hts _ (mC _ wd_32)) (fun _ h9 => h9) (v := .int (d.1 4 i_2.val)) rfl d_about_93 ?_
          refine ml_calli (va_runS (As := [.int (d.1 4 i_2.val)]) (rest := []) ⟨hx, hb, hml, hown, hts⟩ (c_oneIf l dC dI kc a _ d (d.1 4 i_2.val) _ rfl) (cwS 1 hts (gd_S mC wd_240 wd_241 wd_1 wd_242) rfl rfl rfl hd_oneIf ⟨Nat.le_of_ble_eq_true rfl, Nat.le_of_ble_eq_true rfl⟩) ⟨ml_blind, ml_pre hP hK hD⟩ rfl rfl hl.1 rfl (lv_room (Nat.le_of_ble_eq_true rfl)) d_about_96 ⟨Nat.zero_le _, Nat.zero_le _⟩) hD hS hA (fun H locs hP hD hS => ?_)
          subst hres
          exact ml_iret hx hb hr hlocks hP hK hD hS d_about_99
        · rw [if_neg e_7] at hres
          by_cases e_8 : wh = (3 : Int32)
          · rw [if_pos e_8] at hres
            refine lv_tableIn (off := 84) (tgt := 100) hx hb d_about_16 (by rw [e_8]; decide) (by rw [e_8]; decide) (by rw [e_8]; rfl) (by decide) ?_
            refine lv_aload hx hb d_about_100 (lv_at hl 0 rfl) ?_
            refine ml_get (D := (dC, dI)) hx hb hts in_FC hown hK hP (i_2.val + 3) (lt_file i_2) (dc_file kc a d i_2) rfl 5 (by decide) (hts _ (mC _ wd_34)) (fun _ h9 => h9) (v := .int (d.1 5 i_2.val)) rfl d_about_102 ?_
            refine ml_calli (va_runS (As := [.int (d.1 5 i_2.val)]) (rest := []) ⟨hx, hb, hml, hown, hts⟩ (c_oneIf l dC dI kc a _ d (d.1 5 i_2.val) _ rfl) (cwS 1 hts (gd_S mC wd_240 wd_241 wd_1 wd_242) rfl rfl rfl hd_oneIf ⟨Nat.le_of_ble_eq_true rfl, Nat.le_of_ble_eq_true rfl⟩) ⟨ml_blind, ml_pre hP hK hD⟩ rfl rfl hl.1 rfl (lv_room (Nat.le_of_ble_eq_true rfl)) d_about_105 ⟨Nat.zero_le _, Nat.zero_le _⟩) hD hS hA (fun H locs hP hD hS => ?_)
            subst hres
            exact ml_iret hx hb hr hlocks hP hK hD hS d_about_108
          · rw [if_neg e_8] at hres
            by_cases e_9 : wh = (4 : Int32)
            · rw [if_pos e_9] at hres
              refine lv_tableIn (off := 93) (tgt := 109) hx hb d_about_16 (by rw [e_9]; decide) (by rw [e_9]; decide) (by rw [e_9]; rfl) (by decide) ?_
              refine lv_aload hx hb d_about_109 (lv_at hl 0 rfl) ?_
              refine ml_get (D := (dC, dI)) hx hb hts in_FC hown hK hP (i_2.val + 3) (lt_file i_2) (dc_file kc a d i_2) rfl 6 (by decide) (hts _ (mC _ wd_36)) (fun _ h9 => h9) (v := .int (d.1 6 i_2.val)) rfl d_about_111 ?_
              subst hres
              exact ml_iret hx hb hr hlocks hP hK hD hS d_about_114
            · rw [if_neg e_9] at hres
              by_cases e_10 : wh = (5 : Int32)
              · rw [if_pos e_10] at hres
                refine lv_tableIn (off := 99) (tgt := 115) hx hb d_about_16 (by rw [e_10]; decide) (by rw [e_10]; decide) (by rw [e_10]; rfl) (by decide) ?_
                refine lv_aload hx hb d_about_115 (lv_at hl 0 rfl) ?_
                refine ml_get (D := (dC, dI)) hx hb hts in_FC hown hK hP (i_2.val + 3) (lt_file i_2) (dc_file kc a d i_2) rfl 7 (by decide) (hts _ (mC _ wd_38)) (fun _ h9 => h9) (v := .int (d.1 7 i_2.val)) rfl d_about_117 ?_
                subst hres
                exact ml_iret hx hb hr hlocks hP hK hD hS d_about_120
              · rw [if_neg e_10] at hres
                by_cases e_11 : wh = (6 : Int32)
                · rw [if_pos e_11] at hres
                  refine lv_tableIn (off := 105) (tgt := 121) hx hb d_about_16 (by rw [e_11]; decide) (by rw [e_11]; decide) (by rw [e_11]; rfl) (by decide) ?_
                  refine lv_aload hx hb d_about_121 (lv_at hl 0 rfl) ?_
                  refine ml_get (D := (dC, dI)) hx hb hts in_FC hown hK hP (i_2.val + 3) (lt_file i_2) (dc_file kc a d i_2) rfl 0 (by decide) (hts _ (mC _ wd_24)) (fun _ h9 => h9) (v := .int (nI i_2.val)) rfl d_about_123 ?_
                  subst hres
                  exact ml_iret hx hb hr hlocks hP hK hD hS d_about_126
                · rw [if_neg e_11] at hres
                  have te_3 := tw_ne e_3 0 (by decide)
                  have te_4 := tw_ne e_4 1 (by decide)
                  have te_7 := tw_ne e_7 2 (by decide)
                  have te_8 := tw_ne e_8 3 (by decide)
                  have te_9 := tw_ne e_9 4 (by decide)
                  have te_10 := tw_ne e_10 5 (by decide)
                  have te_11 := tw_ne e_11 6 (by decide)
                  refine lv_tableOut (tgt := 127) hx hb d_about_16 (by omega) (by decide) ?_
                  refine lv_iconst (v := -1) hx hb d_about_127 (by decide) ?_
                  subst hres
                  exact ml_iret hx hb hr hlocks hP hK hD hS d_about_128
def sp_move (d : DK) (pr : Int32) (x : Int32) (nn : Int32) : Int32 × DK :=
  (oc (sp_fileOf d pr x) ((0 : Int32), d) (fun i_2 => (if d.1 2 i_2.val = (2 : Int32) then (if (0 : Int32) ≤ nn then ((1 : Int32), sI d 6 i_2.val nn) else ((0 : Int32), d)) else ((0 : Int32), d))))
abbrev rm_move : Room := { frames := 2, cells := 0, slots := 0, locals := 42 }
set_option maxHeartbeats 4000000 in
set_option maxRecDepth 100000 in
theorem c_move (l : Launch) (dC : Nat → ClassId) (dI : Nat → Nat → Nat) (kc : Nat → ClassId) (a : Nat → Nat) (sz : Nat) (d : DK) (pr : Int32) (x : Int32) (nn : Int32) (R' : Int32) (d' : DK) (hres : sp_move d pr x nn = (R', d')) : Met l y_move ws_move rm_move (va_Pc [.ref (a 0), .int pr, .int x, .int nn] (ml_B (dC, dI) vwCl (tysD kc) 57 a (dcell kc a d) sz)) (va_Qi (fun r (_ : Unit) => r = R') (fun _ t => ml_E (dC, dI) vwCl (tysD kc) 57 a (dcell kc a d') (va_A (ml 57 a (dcell kc a d)) sz) t) (va_A (ml 57 a (dcell kc a d)) sz)) 0 0 (va_A (ml 57 a (dcell kc a d)) sz) := by
  refine Met.ofW (cc := prog_1_method_10_code) (maxL := 5) (ret := (some .boolean)) (by decide) rfl ?_
  intro p e s m args below meth c s₁ B hml hv
  obtain ⟨rfl, hsz, hP, hK, hD0⟩ := hv
  have hx := B.exec
  have hb := B.bytes
  have hr := B.returns
  have hts := atoms_spec (ws := ws_move) B.pre
  have hown : s.vm.findClass "HandleDesk" = some m.cls := findClass_of_methodNamed B.named
  have hlocks := B.notSynchronized
  subst hsz
  have hD := hD0.self (sz := s.heap.size)
  generalize hAe : va_A (ml 57 a (dcell kc a d)) s.heap.size = A at hD ⊢
  have hA : ∀ q : Nat, s.heap.size ≤ q → A q := fun q h => by rw [← hAe]; exact Or.inr h
  have hS : va_S A s.heap s.heap [] := va_S.rf
  have hl := lv_entry ([.ref (a 0), .int pr, .int x, .int nn]) (n := 5) (Nat.le_of_ble_eq_true rfl)
  rw [lg_entry_eq]
  generalize (lg_sl ([.ref (a 0), .int pr, .int x, .int nn]) ++ List.replicate (5 - (lg_sl ([.ref (a 0), .int pr, .int x, .int nn])).length) Slot.unset).toArray = ls at hl ⊢
  have hl : lv_has ls 5 [(0, .ref (a 0)), (1, .int pr), (2, .int x), (3, .int nn)] := hl
  rw [sp_move] at hres
  refine lv_aload_n hx hb d_move_0 rfl (lv_at hl 0 rfl) ?_
  refine lv_iload_n hx hb d_move_1 rfl (lv_at hl 1 rfl) ?_
  refine lv_iload_n hx hb d_move_2 rfl (lv_at hl 2 rfl) ?_
  refine ml_callq (va_runV (As := [.int pr, .int x]) (rest := []) ⟨hx, hb, hml, hown, hts⟩ (c_fileOf l dC dI kc a _ d pr x _ rfl) (cwV 2 hts (gd_V mC wd_162 wd_164 ws_1 wd_1 wd_165) rfl rfl rfl hd_fileOf ⟨Nat.le_of_ble_eq_true rfl, Nat.le_of_ble_eq_true rfl⟩) ⟨ml_blind, va_recv hK hP (ci := 0) rfl (ml_at (by decide) (dc_desk kc a d)), ml_pre hP hK hD⟩ rfl rfl hl.1 rfl (lv_room (Nat.le_of_ble_eq_true rfl)) d_move_3 ⟨Nat.zero_le _, Nat.zero_le _⟩) hD hS hA (fun H locs hP hD hS => ?_)
  refine ml_split (fun q_1 => ?_) (fun i_2 q_1 => ?_)
  · rw [q_1, oc_n] at hres
    refine lv_astoreN (lv' := [(4, .null), (0, .ref (a 0)), (1, .int pr), (2, .int x), (3, .int nn)]) hx hb d_move_6 hl (by decide) rfl (fun ls hl => ?_)
    refine lv_aloadN hx hb d_move_8 (lv_at hl 0 rfl) ?_
    refine lv_ifnullN (tgt := 26) hx hb d_move_10 (by decide) ?_
    refine lv_iconst (v := 0) hx hb d_move_26 (by decide) ?_
    obtain ⟨rfl, rfl⟩ := Prod.mk.inj hres
    exact ml_zret hx hb hr (by decide) hlocks hP hK hD hS d_move_27
  · rw [q_1, oc_s] at hres
    refine lv_astore (lv' := [(4, .ref (a (i_2.val + 3))), (0, .ref (a 0)), (1, .int pr), (2, .int x), (3, .int nn)]) hx hb d_move_6 hl (by decide) rfl (fun ls hl => ?_)
    refine lv_aload hx hb d_move_8 (lv_at hl 0 rfl) ?_
    refine lv_ifnull hx hb d_move_10 ?_
    refine lv_aload hx hb d_move_13 (lv_at hl 0 rfl) ?_
    refine ml_get (D := (dC, dI)) hx hb hts in_FC hown hK hP (i_2.val + 3) (lt_file i_2) (dc_file kc a d i_2) rfl 1 (by decide) (hts _ (mC _ wd_26)) (fun _ h9 => h9) (v := .int (d.1 2 i_2.val)) rfl d_move_15 ?_
    refine lv_iconst (v := 2) hx hb d_move_18 (by decide) ?_
    refine lv_icmp_ne (tgt := 26) hx hb d_move_19 (by decide) (fun h_3 => ?_) (fun h_3 => ?_)
    · rw [if_neg h_3] at hres
      refine lv_iconst (v := 0) hx hb d_move_26 (by decide) ?_
      obtain ⟨rfl, rfl⟩ := Prod.mk.inj hres
      exact ml_zret hx hb hr (by decide) hlocks hP hK hD hS d_move_27
    · rw [if_pos h_3] at hres
      refine lv_iload_n hx hb d_move_22 rfl (lv_at hl 4 rfl) ?_
      refine lv_if_ge (tgt := 28) hx hb d_move_23 (by decide) (fun h_4 => ?_) (fun h_4 => ?_)
      · rw [if_pos h_4] at hres
        refine lv_aload hx hb d_move_28 (lv_at hl 0 rfl) ?_
        refine lv_iload_n hx hb d_move_30 rfl (lv_at hl 4 rfl) ?_
        refine ml_put (D := (dC, dI)) hx hb hts in_FC tyF tyF_ok nmF hown hK hP hD hS (i_2.val + 3) (lt_file i_2) (dc_file kc a d i_2) rfl 6 (by decide) (hts _ (mC _ wd_36)) (fun _ h9 => h9) rfl (ty := .int) (by decide +kernel) rfl rfl (Nat.le_of_ble_eq_true rfl) (f' := (dcell kc a (sI d 6 i_2.val nn))) (dw_6 i_2 nn) d_move_31 (fun H locs hP hD hS => ?_)
        refine lv_iconst (v := 1) hx hb d_move_34 (by decide) ?_
        obtain ⟨rfl, rfl⟩ := Prod.mk.inj hres
        exact ml_zret hx hb hr (by decide) hlocks hP hK hD hS d_move_35
      · rw [if_neg h_4] at hres
        refine lv_iconst (v := 0) hx hb d_move_26 (by decide) ?_
        obtain ⟨rfl, rfl⟩ := Prod.mk.inj hres
        exact ml_zret hx hb hr (by decide) hlocks hP hK hD hS d_move_27
end
section
def sp_put (d : DK) (pr : Int32) (x : Int32) (bt : Int32) : Int32 × DK :=
  (oc (sp_fileOf d pr x) ((-1 : Int32), d) (fun i_2 => (if d.1 5 i_2.val = (0 : Int32) then ((-1 : Int32), d) else (oc (d.2.2 i_2.val) ((-1 : Int32), d) (fun i_5 => (if d.1 10 i_5.val = (0 : Int32) then ((-2 : Int32), d) else (if (sp_Pipe_isFull d i_5) = (0 : Int32) then ((0 : Int32), (sp_Pipe_addLast d i_5 bt)) else ((-3 : Int32), d))))))))
abbrev rm_put : Room := { frames := 2, cells := 0, slots := 0, locals := 42 }
set_option maxHeartbeats 4000000 in
set_option maxRecDepth 100000 in
theorem c_put (l : Launch) (dC : Nat → ClassId) (dI : Nat → Nat → Nat) (kc : Nat → ClassId) (a : Nat → Nat) (sz : Nat) (d : DK) (pr : Int32) (x : Int32) (bt : Int32) (R' : Int32) (d' : DK) (hres : sp_put d pr x bt = (R', d')) : Met l y_put ws_put rm_put (va_Pc [.ref (a 0), .int pr, .int x, .int bt] (ml_B (dC, dI) vwCl (tysD kc) 57 a (dcell kc a d) sz)) (va_Qi (fun r (_ : Unit) => r = R') (fun _ t => ml_E (dC, dI) vwCl (tysD kc) 57 a (dcell kc a d') (va_A (ml 57 a (dcell kc a d)) sz) t) (va_A (ml 57 a (dcell kc a d)) sz)) 0 0 (va_A (ml 57 a (dcell kc a d)) sz) := by
  refine Met.ofW (cc := prog_1_method_11_code) (maxL := 6) (ret := (some .int)) (by decide) rfl ?_
  intro p e s m args below meth c s₁ B hml hv
  obtain ⟨rfl, hsz, hP, hK, hD0⟩ := hv
  have hx := B.exec
  have hb := B.bytes
  have hr := B.returns
  have hts := atoms_spec (ws := ws_put) B.pre
  have hown : s.vm.findClass "HandleDesk" = some m.cls := findClass_of_methodNamed B.named
  have hlocks := B.notSynchronized
  subst hsz
  have hD := hD0.self (sz := s.heap.size)
  generalize hAe : va_A (ml 57 a (dcell kc a d)) s.heap.size = A at hD ⊢
  have hA : ∀ q : Nat, s.heap.size ≤ q → A q := fun q h => by rw [← hAe]; exact Or.inr h
  have hS : va_S A s.heap s.heap [] := va_S.rf
  have hl := lv_entry ([.ref (a 0), .int pr, .int x, .int bt]) (n := 6) (Nat.le_of_ble_eq_true rfl)
  rw [lg_entry_eq]
  generalize (lg_sl ([.ref (a 0), .int pr, .int x, .int bt]) ++ List.replicate (6 - (lg_sl ([.ref (a 0), .int pr, .int x, .int bt])).length) Slot.unset).toArray = ls at hl ⊢
  have hl : lv_has ls 6 [(0, .ref (a 0)), (1, .int pr), (2, .int x), (3, .int bt)] := hl
  rw [sp_put] at hres
  refine lv_aload_n hx hb d_put_0 rfl (lv_at hl 0 rfl) ?_
  refine lv_iload_n hx hb d_put_1 rfl (lv_at hl 1 rfl) ?_
  refine lv_iload_n hx hb d_put_2 rfl (lv_at hl 2 rfl) ?_
  refine ml_callq (va_runV (As := [.int pr, .int x]) (rest := []) ⟨hx, hb, hml, hown, hts⟩ (c_fileOf l dC dI kc a _ d pr x _ rfl) (cwV 2 hts (gd_V mC wd_162 wd_164 ws_1 wd_1 wd_165) rfl rfl rfl hd_fileOf ⟨Nat.le_of_ble_eq_true rfl, Nat.le_of_ble_eq_true rfl⟩) ⟨ml_blind, va_recv hK hP (ci := 0) rfl (ml_at (by decide) (dc_desk kc a d)), ml_pre hP hK hD⟩ rfl rfl hl.1 rfl (lv_room (Nat.le_of_ble_eq_true rfl)) d_put_3 ⟨Nat.zero_le _, Nat.zero_le _⟩) hD hS hA (fun H locs hP hD hS => ?_)
  refine ml_split (fun q_1 => ?_) (fun i_2 q_1 => ?_)
  · rw [q_1, oc_n] at hres
    refine lv_astoreN (lv' := [(4, .null), (0, .ref (a 0)), (1, .int pr), (2, .int x), (3, .int bt)]) hx hb d_put_6 hl (by decide) rfl (fun ls hl => ?_)
    refine lv_aloadN hx hb d_put_8 (lv_at hl 0 rfl) ?_
    refine lv_ifnullN (tgt := 21) hx hb d_put_10 (by decide) ?_
    refine lv_iconst (v := -1) hx hb d_put_21 (by decide) ?_
    obtain ⟨rfl, rfl⟩ := Prod.mk.inj hres
    exact ml_iret hx hb hr hlocks hP hK hD hS d_put_22
  · rw [q_1, oc_s] at hres
    refine lv_astore (lv' := [(4, .ref (a (i_2.val + 3))), (0, .ref (a 0)), (1, .int pr), (2, .int x), (3, .int bt)]) hx hb d_put_6 hl (by decide) rfl (fun ls hl => ?_)
    refine lv_aload hx hb d_put_8 (lv_at hl 0 rfl) ?_
    refine lv_ifnull hx hb d_put_10 ?_
    refine lv_aload hx hb d_put_13 (lv_at hl 0 rfl) ?_
    refine ml_get (D := (dC, dI)) hx hb hts in_FC hown hK hP (i_2.val + 3) (lt_file i_2) (dc_file kc a d i_2) rfl 5 (by decide) (hts _ (mC _ wd_34)) (fun _ h9 => h9) (v := .int (d.1 5 i_2.val)) rfl d_put_15 ?_
    refine lv_if_ne (tgt := 23) hx hb d_put_18 (by decide) (fun h_3 => ?_) (fun h_3 => ?_)
    · rw [if_neg h_3] at hres
      refine lv_aload hx hb d_put_23 (lv_at hl 0 rfl) ?_
      refine ml_get (D := (dC, dI)) hx hb hts in_FC hown hK hP (i_2.val + 3) (lt_file i_2) (dc_file kc a d i_2) rfl 3 (by decide) (hts _ (mC _ wd_30)) (fun _ h9 => h9) (v := va_rf ((d.2.2 i_2.val).map (fun i => a (2 * i.val + 36)))) rfl d_put_25 ?_
      refine ml_split (fun q_4 => ?_) (fun i_5 q_4 => ?_)
      · rw [q_4, oc_n] at hres
        refine lv_astoreN (lv' := [(5, .null), (4, .ref (a (i_2.val + 3))), (0, .ref (a 0)), (1, .int pr), (2, .int x), (3, .int bt)]) hx hb d_put_28 hl (by decide) rfl (fun ls hl => ?_)
        refine lv_aloadN hx hb d_put_30 (lv_at hl 0 rfl) ?_
        refine lv_ifnonnullN hx hb d_put_32 ?_
        refine lv_iconst (v := -1) hx hb d_put_35 (by decide) ?_
        obtain ⟨rfl, rfl⟩ := Prod.mk.inj hres
        exact ml_iret hx hb hr hlocks hP hK hD hS d_put_36
      · rw [q_4, oc_s] at hres
        refine lv_astore (lv' := [(5, .ref (a (2 * i_5.val + 36))), (4, .ref (a (i_2.val + 3))), (0, .ref (a 0)), (1, .int pr), (2, .int x), (3, .int bt)]) hx hb d_put_28 hl (by decide) rfl (fun ls hl => ?_)
        refine lv_aload hx hb d_put_30 (lv_at hl 0 rfl) ?_
        refine lv_ifnonnull (tgt := 37) hx hb d_put_32 (by decide) ?_
        refine lv_aload hx hb d_put_37 (lv_at hl 0 rfl) ?_
        refine ml_get (D := (dC, dI)) hx hb hts in_PC hown hK hP (2 * i_5.val + 36) (lt_pipe i_5) (dc_pipe kc a d i_5) rfl 4 (by decide) (hts _ (mC _ wd_70)) (fun _ h9 => h9) (v := .int (d.1 10 i_5.val)) rfl d_put_39 ?_
        refine lv_if_ne (tgt := 48) hx hb d_put_42 (by decide) (fun h_6 => ?_) (fun h_6 => ?_)
        · rw [if_neg h_6] at hres
          refine lv_aload hx hb d_put_48 (lv_at hl 0 rfl) ?_
          refine ml_calli (va_runV (As := []) (rest := []) ⟨hx, hb, hml, hown, hts⟩ (c_Pipe_isFull l dC dI kc a _ d i_5 _ rfl) (cwV 0 hts (gd_V mC wd_251 wd_252 wd_253 wd_3 wd_254) rfl rfl rfl hd_Pipe_isFull ⟨Nat.le_of_ble_eq_true rfl, Nat.le_of_ble_eq_true rfl⟩) ⟨ml_blind, va_recv hK hP (ci := 2) rfl (ml_at (lt_pipe i_5) (dc_pipe kc a d i_5)), ml_pre hP hK hD⟩ rfl rfl hl.1 rfl (lv_room (Nat.le_of_ble_eq_true rfl)) d_put_50 ⟨Nat.zero_le _, Nat.zero_le _⟩) hD hS hA (fun H locs hP hD hS => ?_)
          refine lv_if_eq (tgt := 59) hx hb d_put_53 (by decide) (fun h_7 => ?_) (fun h_7 => ?_)
          · rw [if_pos h_7] at hres
            refine lv_aload hx hb d_put_59 (lv_at hl 0 rfl) ?_
            refine lv_iload_n hx hb d_put_61 rfl (lv_at hl 5 rfl) ?_
            refine ml_callv (va_runV (As := [.int bt]) (rest := []) ⟨hx, hb, hml, hown, hts⟩ (c_Pipe_addLast l dC dI kc a _ d i_5 bt _ rfl) (cwV 1 hts (gd_V mC wd_255 wd_256 wd_257 wd_3 wd_258) rfl rfl rfl hd_Pipe_addLast ⟨Nat.le_of_ble_eq_true rfl, Nat.le_of_ble_eq_true rfl⟩) ⟨ml_blind, va_recv hK hP (ci := 2) rfl (ml_at (lt_pipe i_5) (dc_pipe kc a d i_5)), ml_pre hP hK hD⟩ rfl rfl hl.1 rfl (lv_room (Nat.le_of_ble_eq_true rfl)) d_put_62 ⟨Nat.zero_le _, Nat.zero_le _⟩) hD hS hA (fun H locs hP hD hS => ?_)
            refine lv_iconst (v := 0) hx hb d_put_65 (by decide) ?_
            obtain ⟨rfl, rfl⟩ := Prod.mk.inj hres
            exact ml_iret hx hb hr hlocks hP hK hD hS d_put_66
          · rw [if_neg h_7] at hres
            refine lv_bipush (v := -3) hx hb d_put_56 (by decide) ?_
            obtain ⟨rfl, rfl⟩ := Prod.mk.inj hres
            exact ml_iret hx hb hr hlocks hP hK hD hS d_put_58
        · rw [if_pos h_6] at hres
          refine lv_bipush (v := -2) hx hb d_put_45 (by decide) ?_
          obtain ⟨rfl, rfl⟩ := Prod.mk.inj hres
          exact ml_iret hx hb hr hlocks hP hK hD hS d_put_47
    · rw [if_pos h_3] at hres
      refine lv_iconst (v := -1) hx hb d_put_21 (by decide) ?_
      obtain ⟨rfl, rfl⟩ := Prod.mk.inj hres
      exact ml_iret hx hb hr hlocks hP hK hD hS d_put_22
def sp_take (d : DK) (pr : Int32) (x : Int32) : Int32 × DK :=
  (oc (sp_fileOf d pr x) ((-1 : Int32), d) (fun i_2 => (if d.1 4 i_2.val = (0 : Int32) then ((-1 : Int32), d) else (oc (d.2.2 i_2.val) ((-1 : Int32), d) (fun i_5 => (if (d.1 9 i_5.val) ≤ (0 : Int32) then (if d.1 11 i_5.val = (0 : Int32) then ((-4 : Int32), d) else ((-3 : Int32), d)) else ((sp_Pipe_removeFirst d i_5).1, (sp_Pipe_removeFirst d i_5).2)))))))
abbrev rm_take : Room := { frames := 2, cells := 0, slots := 0, locals := 42 }
set_option maxHeartbeats 4000000 in
set_option maxRecDepth 100000 in
theorem c_take (l : Launch) (dC : Nat → ClassId) (dI : Nat → Nat → Nat) (kc : Nat → ClassId) (a : Nat → Nat) (sz : Nat) (d : DK) (pr : Int32) (x : Int32) (R' : Int32) (d' : DK) (hres : sp_take d pr x = (R', d')) : Met l y_take ws_take rm_take (va_Pc [.ref (a 0), .int pr, .int x] (ml_B (dC, dI) vwCl (tysD kc) 57 a (dcell kc a d) sz)) (va_Qi (fun r (_ : Unit) => r = R') (fun _ t => ml_E (dC, dI) vwCl (tysD kc) 57 a (dcell kc a d') (va_A (ml 57 a (dcell kc a d)) sz) t) (va_A (ml 57 a (dcell kc a d)) sz)) 0 0 (va_A (ml 57 a (dcell kc a d)) sz) := by
  refine Met.ofW (cc := prog_1_method_12_code) (maxL := 5) (ret := (some .int)) (by decide) rfl ?_
  intro p e s m args below meth c s₁ B hml hv
  obtain ⟨rfl, hsz, hP, hK, hD0⟩ := hv
  have hx := B.exec
  have hb := B.bytes
  have hr := B.returns
  have hts := atoms_spec (ws := ws_take) B.pre
  have hown : s.vm.findClass "HandleDesk" = some m.cls := findClass_of_methodNamed B.named
  have hlocks := B.notSynchronized
  subst hsz
  have hD := hD0.self (sz := s.heap.size)
  generalize hAe : va_A (ml 57 a (dcell kc a d)) s.heap.size = A at hD ⊢
  have hA : ∀ q : Nat, s.heap.size ≤ q → A q := fun q h => by rw [← hAe]; exact Or.inr h
  have hS : va_S A s.heap s.heap [] := va_S.rf
  have hl := lv_entry ([.ref (a 0), .int pr, .int x]) (n := 5) (Nat.le_of_ble_eq_true rfl)
  rw [lg_entry_eq]
  generalize (lg_sl ([.ref (a 0), .int pr, .int x]) ++ List.replicate (5 - (lg_sl ([.ref (a 0), .int pr, .int x])).length) Slot.unset).toArray = ls at hl ⊢
  have hl : lv_has ls 5 [(0, .ref (a 0)), (1, .int pr), (2, .int x)] := hl
  rw [sp_take] at hres
  refine lv_aload_n hx hb d_take_0 rfl (lv_at hl 0 rfl) ?_
  refine lv_iload_n hx hb d_take_1 rfl (lv_at hl 1 rfl) ?_
  refine lv_iload_n hx hb d_take_2 rfl (lv_at hl 2 rfl) ?_
  refine ml_callq (va_runV (As := [.int pr, .int x]) (rest := []) ⟨hx, hb, hml, hown, hts⟩ (c_fileOf l dC dI kc a _ d pr x _ rfl) (cwV 2 hts (gd_V mC wd_162 wd_164 ws_1 wd_1 wd_165) rfl rfl rfl hd_fileOf ⟨Nat.le_of_ble_eq_true rfl, Nat.le_of_ble_eq_true rfl⟩) ⟨ml_blind, va_recv hK hP (ci := 0) rfl (ml_at (by decide) (dc_desk kc a d)), ml_pre hP hK hD⟩ rfl rfl hl.1 rfl (lv_room (Nat.le_of_ble_eq_true rfl)) d_take_3 ⟨Nat.zero_le _, Nat.zero_le _⟩) hD hS hA (fun H locs hP hD hS => ?_)
  refine ml_split (fun q_1 => ?_) (fun i_2 q_1 => ?_)
  · rw [q_1, oc_n] at hres
    refine lv_astore_nN (lv' := [(3, .null), (0, .ref (a 0)), (1, .int pr), (2, .int x)]) hx hb d_take_6 rfl hl (by decide) rfl (fun ls hl => ?_)
    refine lv_aload_nN hx hb d_take_7 rfl (lv_at hl 0 rfl) ?_
    refine lv_ifnullN (tgt := 18) hx hb d_take_8 (by decide) ?_
    refine lv_iconst (v := -1) hx hb d_take_18 (by decide) ?_
    obtain ⟨rfl, rfl⟩ := Prod.mk.inj hres
    exact ml_iret hx hb hr hlocks hP hK hD hS d_take_19
  · rw [q_1, oc_s] at hres
    refine lv_astore_n (lv' := [(3, .ref (a (i_2.val + 3))), (0, .ref (a 0)), (1, .int pr), (2, .int x)]) hx hb d_take_6 rfl hl (by decide) rfl (fun ls hl => ?_)
    refine lv_aload_n hx hb d_take_7 rfl (lv_at hl 0 rfl) ?_
    refine lv_ifnull hx hb d_take_8 ?_
    refine lv_aload_n hx hb d_take_11 rfl (lv_at hl 0 rfl) ?_
    refine ml_get (D := (dC, dI)) hx hb hts in_FC hown hK hP (i_2.val + 3) (lt_file i_2) (dc_file kc a d i_2) rfl 4 (by decide) (hts _ (mC _ wd_32)) (fun _ h9 => h9) (v := .int (d.1 4 i_2.val)) rfl d_take_12 ?_
    refine lv_if_ne (tgt := 20) hx hb d_take_15 (by decide) (fun h_3 => ?_) (fun h_3 => ?_)
    · rw [if_neg h_3] at hres
      refine lv_aload_n hx hb d_take_20 rfl (lv_at hl 0 rfl) ?_
      refine ml_get (D := (dC, dI)) hx hb hts in_FC hown hK hP (i_2.val + 3) (lt_file i_2) (dc_file kc a d i_2) rfl 3 (by decide) (hts _ (mC _ wd_30)) (fun _ h9 => h9) (v := va_rf ((d.2.2 i_2.val).map (fun i => a (2 * i.val + 36)))) rfl d_take_21 ?_
      refine ml_split (fun q_4 => ?_) (fun i_5 q_4 => ?_)
      · rw [q_4, oc_n] at hres
        refine lv_astoreN (lv' := [(4, .null), (3, .ref (a (i_2.val + 3))), (0, .ref (a 0)), (1, .int pr), (2, .int x)]) hx hb d_take_24 hl (by decide) rfl (fun ls hl => ?_)
        refine lv_aloadN hx hb d_take_26 (lv_at hl 0 rfl) ?_
        refine lv_ifnonnullN hx hb d_take_28 ?_
        refine lv_iconst (v := -1) hx hb d_take_31 (by decide) ?_
        obtain ⟨rfl, rfl⟩ := Prod.mk.inj hres
        exact ml_iret hx hb hr hlocks hP hK hD hS d_take_32
      · rw [q_4, oc_s] at hres
        refine lv_astore (lv' := [(4, .ref (a (2 * i_5.val + 36))), (3, .ref (a (i_2.val + 3))), (0, .ref (a 0)), (1, .int pr), (2, .int x)]) hx hb d_take_24 hl (by decide) rfl (fun ls hl => ?_)
        refine lv_aload hx hb d_take_26 (lv_at hl 0 rfl) ?_
        refine lv_ifnonnull (tgt := 33) hx hb d_take_28 (by decide) ?_
        refine lv_aload hx hb d_take_33 (lv_at hl 0 rfl) ?_
        refine ml_get (D := (dC, dI)) hx hb hts in_PC hown hK hP (2 * i_5.val + 36) (lt_pipe i_5) (dc_pipe kc a d i_5) rfl 3 (by decide) (hts _ (mC _ wd_68)) (fun _ h9 => h9) (v := .int (d.1 9 i_5.val)) rfl d_take_35 ?_
        refine lv_if_le (tgt := 47) hx hb d_take_38 (by decide) (fun h_6 => ?_) (fun h_6 => ?_)
        · rw [if_pos h_6] at hres
          refine lv_aload hx hb d_take_47 (lv_at hl 0 rfl) ?_
          refine ml_get (D := (dC, dI)) hx hb hts in_PC hown hK hP (2 * i_5.val + 36) (lt_pipe i_5) (dc_pipe kc a d i_5) rfl 5 (by decide) (hts _ (mC _ wd_72)) (fun _ h9 => h9) (v := .int (d.1 11 i_5.val)) rfl d_take_49 ?_
          refine lv_if_eq (tgt := 60) hx hb d_take_52 (by decide) (fun h_7 => ?_) (fun h_7 => ?_)
          · rw [if_pos h_7] at hres
            refine lv_bipush (v := -4) hx hb d_take_60 (by decide) ?_
            obtain ⟨rfl, rfl⟩ := Prod.mk.inj hres
            exact ml_iret hx hb hr hlocks hP hK hD hS d_take_62
          · rw [if_neg h_7] at hres
            refine lv_bipush (v := -3) hx hb d_take_55 (by decide) ?_
            refine lv_goto (tgt := 62) hx hb d_take_57 (by decide) ?_
            obtain ⟨rfl, rfl⟩ := Prod.mk.inj hres
            exact ml_iret hx hb hr hlocks hP hK hD hS d_take_62
        · rw [if_neg h_6] at hres
          refine lv_aload hx hb d_take_41 (lv_at hl 0 rfl) ?_
          refine ml_calli (va_runV (As := []) (rest := []) ⟨hx, hb, hml, hown, hts⟩ (c_Pipe_removeFirst l dC dI kc a _ d i_5 (sp_Pipe_removeFirst d i_5).1 (sp_Pipe_removeFirst d i_5).2 (pe _)) (cwV 0 hts (gd_V mC wd_263 wd_264 wd_265 wd_3 wd_266) rfl rfl rfl hd_Pipe_removeFirst ⟨Nat.le_of_ble_eq_true rfl, Nat.le_of_ble_eq_true rfl⟩) ⟨ml_blind, va_recv hK hP (ci := 2) rfl (ml_at (lt_pipe i_5) (dc_pipe kc a d i_5)), ml_pre hP hK hD⟩ rfl rfl hl.1 rfl (lv_room (Nat.le_of_ble_eq_true rfl)) d_take_43 ⟨Nat.zero_le _, Nat.zero_le _⟩) hD hS hA (fun H locs hP hD hS => ?_)
          obtain ⟨rfl, rfl⟩ := Prod.mk.inj hres
          exact ml_iret hx hb hr hlocks hP hK hD hS d_take_46
    · rw [if_pos h_3] at hres
      refine lv_iconst (v := -1) hx hb d_take_18 (by decide) ?_
      obtain ⟨rfl, rfl⟩ := Prod.mk.inj hres
      exact ml_iret hx hb hr hlocks hP hK hD hS d_take_19
def sp_ends (d : DK) (kx : Int32) (wh : Int32) : Int32 :=
  (if kx < (0 : Int32) then (-1 : Int32) else (if kx < (8 : Int32) then (if (sp_Pipe_isGone d (Fin.ofNat 8 kx.toNatClampNeg)) = (0 : Int32) then (if wh = (0 : Int32) then (d.1 9 (Fin.ofNat 8 kx.toNatClampNeg).val) else (if wh = (1 : Int32) then (sp_oneIf (d.1 10 (Fin.ofNat 8 kx.toNatClampNeg).val)) else (if wh = (2 : Int32) then (sp_oneIf (d.1 11 (Fin.ofNat 8 kx.toNatClampNeg).val)) else (-1 : Int32)))) else (-1 : Int32)) else (-1 : Int32)))
abbrev rm_ends : Room := { frames := 1, cells := 0, slots := 0, locals := 20 }
set_option maxHeartbeats 4000000 in
set_option maxRecDepth 100000 in
theorem c_ends (l : Launch) (dC : Nat → ClassId) (dI : Nat → Nat → Nat) (kc : Nat → ClassId) (a : Nat → Nat) (sz : Nat) (d : DK) (kx : Int32) (wh : Int32) (R' : Int32) (hres : sp_ends d kx wh = R') : Met l y_ends ws_ends rm_ends (va_Pc [.ref (a 0), .int kx, .int wh] (ml_B (dC, dI) vwCl (tysD kc) 57 a (dcell kc a d) sz)) (va_Qi (fun r (_ : Unit) => r = R') (fun _ t => ml_E (dC, dI) vwCl (tysD kc) 57 a (dcell kc a d) (va_A (ml 57 a (dcell kc a d)) sz) t) (va_A (ml 57 a (dcell kc a d)) sz)) 0 0 (va_A (ml 57 a (dcell kc a d)) sz) := by
  refine Met.ofW (cc := prog_1_method_13_code) (maxL := 4) (ret := (some .int)) (by decide) rfl ?_
  intro p e s m args below meth c s₁ B hml hv
  obtain ⟨rfl, hsz, hP, hK, hD0⟩ := hv
  have hx := B.exec
  have hb := B.bytes
  have hr := B.returns
  have hts := atoms_spec (ws := ws_ends) B.pre
  have hown : s.vm.findClass "HandleDesk" = some m.cls := findClass_of_methodNamed B.named
  have hlocks := B.notSynchronized
  subst hsz
  have hD := hD0.self (sz := s.heap.size)
  generalize hAe : va_A (ml 57 a (dcell kc a d)) s.heap.size = A at hD ⊢
  have hA : ∀ q : Nat, s.heap.size ≤ q → A q := fun q h => by rw [← hAe]; exact Or.inr h
  have hS : va_S A s.heap s.heap [] := va_S.rf
  have hl := lv_entry ([.ref (a 0), .int kx, .int wh]) (n := 4) (Nat.le_of_ble_eq_true rfl)
  rw [lg_entry_eq]
  generalize (lg_sl ([.ref (a 0), .int kx, .int wh]) ++ List.replicate (4 - (lg_sl ([.ref (a 0), .int kx, .int wh])).length) Slot.unset).toArray = ls at hl ⊢
  have hl : lv_has ls 4 [(0, .ref (a 0)), (1, .int kx), (2, .int wh)] := hl
  rw [sp_ends] at hres
  refine lv_iload_n hx hb d_ends_0 rfl (lv_at hl 1 rfl) ?_
  refine lv_if_lt (tgt := 13) hx hb d_ends_1 (by decide) (fun h_1 => ?_) (fun h_1 => ?_)
  · rw [if_pos h_1] at hres
    refine lv_iconst (v := -1) hx hb d_ends_13 (by decide) ?_
    subst hres
    exact ml_iret hx hb hr hlocks hP hK hD hS d_ends_14
  · rw [if_neg h_1] at hres
    refine lv_iload_n hx hb d_ends_4 rfl (lv_at hl 1 rfl) ?_
    refine lv_aload_n hx hb d_ends_5 rfl (lv_at hl 0 rfl) ?_
    refine ml_get (D := (dC, dI)) hx hb hts in_DC hown hK hP (0) (by decide) (dc_desk kc a d) rfl 2 (by decide) (hts _ (mC _ wd_125)) (fun _ h9 => h9) (v := .ref (a 35)) rfl d_ends_6 ?_
    refine ml_alen hx hb hK hP (35) 3 (by decide) (dc_pipes kc a d) rfl (v := 8) rfl d_ends_9 ?_
    refine lv_icmp_lt (tgt := 15) hx hb d_ends_10 (by decide) (fun h_2 => ?_) (fun h_2 => ?_)
    · rw [if_pos h_2] at hres
      refine lv_aload_n hx hb d_ends_15 rfl (lv_at hl 0 rfl) ?_
      refine ml_get (D := (dC, dI)) hx hb hts in_DC hown hK hP (0) (by decide) (dc_desk kc a d) rfl 2 (by decide) (hts _ (mC _ wd_125)) (fun _ h9 => h9) (v := .ref (a 35)) rfl d_ends_16 ?_
      refine lv_iload_n hx hb d_ends_19 rfl (lv_at hl 1 rfl) ?_
      refine dk_ald_pipes hx hb hK hP (in_cmpL (b := (8 : Int32)) rfl (by decide) (by assumption) (by assumption)) d_ends_20 ?_
      refine lv_astore_n (lv' := [(3, .ref (a (2 * (Fin.ofNat 8 kx.toNatClampNeg).val + 36))), (0, .ref (a 0)), (1, .int kx), (2, .int wh)]) hx hb d_ends_21 rfl hl (by decide) rfl (fun ls hl => ?_)
      refine lv_aload_n hx hb d_ends_22 rfl (lv_at hl 0 rfl) ?_
      refine lv_ifnull hx hb d_ends_23 ?_
      refine lv_aload_n hx hb d_ends_26 rfl (lv_at hl 0 rfl) ?_
      refine ml_calli (va_runV (As := []) (rest := []) ⟨hx, hb, hml, hown, hts⟩ (c_Pipe_isGone l dC dI kc a _ d (Fin.ofNat 8 kx.toNatClampNeg) _ rfl) (cwV 0 hts (gd_V mC wd_189 wd_190 wd_191 wd_3 wd_192) rfl rfl rfl hd_Pipe_isGone ⟨Nat.le_of_ble_eq_true rfl, Nat.le_of_ble_eq_true rfl⟩) ⟨ml_blind, va_recv hK hP (ci := 2) rfl (ml_at (lt_pipe (Fin.ofNat 8 kx.toNatClampNeg)) (dc_pipe kc a d (Fin.ofNat 8 kx.toNatClampNeg))), ml_pre hP hK hD⟩ rfl rfl hl.1 rfl (lv_room (Nat.le_of_ble_eq_true rfl)) d_ends_27 ⟨Nat.zero_le _, Nat.zero_le _⟩) hD hS hA (fun H locs hP hD hS => ?_)
      refine lv_if_eq (tgt := 35) hx hb d_ends_30 (by decide) (fun h_3 => ?_) (fun h_3 => ?_)
      · rw [if_pos h_3] at hres
        refine lv_iload_n hx hb d_ends_35 rfl (lv_at hl 3 rfl) ?_
        by_cases e_4 : wh = (0 : Int32)
        · rw [if_pos e_4] at hres
          refine lv_tableIn (off := 28) (tgt := 64) hx hb d_ends_36 (by rw [e_4]; decide) (by rw [e_4]; decide) (by rw [e_4]; rfl) (by decide) ?_
          refine lv_aload_n hx hb d_ends_64 rfl (lv_at hl 0 rfl) ?_
          refine ml_get (D := (dC, dI)) hx hb hts in_PC hown hK hP (2 * (Fin.ofNat 8 kx.toNatClampNeg).val + 36) (lt_pipe (Fin.ofNat 8 kx.toNatClampNeg)) (dc_pipe kc a d (Fin.ofNat 8 kx.toNatClampNeg)) rfl 3 (by decide) (hts _ (mC _ wd_68)) (fun _ h9 => h9) (v := .int (d.1 9 (Fin.ofNat 8 kx.toNatClampNeg).val)) rfl d_ends_65 ?_
          subst hres
          exact ml_iret hx hb hr hlocks hP hK hD hS d_ends_68
        · rw [if_neg e_4] at hres
          by_cases e_5 : wh = (1 : Int32)
          · rw [if_pos e_5] at hres
            refine lv_tableIn (off := 33) (tgt := 69) hx hb d_ends_36 (by rw [e_5]; decide) (by rw [e_5]; decide) (by rw [e_5]; rfl) (by decide) ?_
            refine lv_aload_n hx hb d_ends_69 rfl (lv_at hl 0 rfl) ?_
            refine ml_get (D := (dC, dI)) hx hb hts in_PC hown hK hP (2 * (Fin.ofNat 8 kx.toNatClampNeg).val + 36) (lt_pipe (Fin.ofNat 8 kx.toNatClampNeg)) (dc_pipe kc a d (Fin.ofNat 8 kx.toNatClampNeg)) rfl 4 (by decide) (hts _ (mC _ wd_70)) (fun _ h9 => h9) (v := .int (d.1 10 (Fin.ofNat 8 kx.toNatClampNeg).val)) rfl d_ends_70 ?_
            refine ml_calli (va_runS (As := [.int (d.1 10 (Fin.ofNat 8 kx.toNatClampNeg).val)]) (rest := []) ⟨hx, hb, hml, hown, hts⟩ (c_oneIf l dC dI kc a _ d (d.1 10 (Fin.ofNat 8 kx.toNatClampNeg).val) _ rfl) (cwS 1 hts (gd_S mC wd_240 wd_241 wd_1 wd_242) rfl rfl rfl hd_oneIf ⟨Nat.le_of_ble_eq_true rfl, Nat.le_of_ble_eq_true rfl⟩) ⟨ml_blind, ml_pre hP hK hD⟩ rfl rfl hl.1 rfl (lv_room (Nat.le_of_ble_eq_true rfl)) d_ends_73 ⟨Nat.zero_le _, Nat.zero_le _⟩) hD hS hA (fun H locs hP hD hS => ?_)
            subst hres
            exact ml_iret hx hb hr hlocks hP hK hD hS d_ends_76
          · rw [if_neg e_5] at hres
            by_cases e_6 : wh = (2 : Int32)
            · rw [if_pos e_6] at hres
              refine lv_tableIn (off := 41) (tgt := 77) hx hb d_ends_36 (by rw [e_6]; decide) (by rw [e_6]; decide) (by rw [e_6]; rfl) (by decide) ?_
              refine lv_aload_n hx hb d_ends_77 rfl (lv_at hl 0 rfl) ?_
              refine ml_get (D := (dC, dI)) hx hb hts in_PC hown hK hP (2 * (Fin.ofNat 8 kx.toNatClampNeg).val + 36) (lt_pipe (Fin.ofNat 8 kx.toNatClampNeg)) (dc_pipe kc a d (Fin.ofNat 8 kx.toNatClampNeg)) rfl 5 (by decide) (hts _ (mC _ wd_72)) (fun _ h9 => h9) (v := .int (d.1 11 (Fin.ofNat 8 kx.toNatClampNeg).val)) rfl d_ends_78 ?_
              refine ml_calli (va_runS (As := [.int (d.1 11 (Fin.ofNat 8 kx.toNatClampNeg).val)]) (rest := []) ⟨hx, hb, hml, hown, hts⟩ (c_oneIf l dC dI kc a _ d (d.1 11 (Fin.ofNat 8 kx.toNatClampNeg).val) _ rfl) (cwS 1 hts (gd_S mC wd_240 wd_241 wd_1 wd_242) rfl rfl rfl hd_oneIf ⟨Nat.le_of_ble_eq_true rfl, Nat.le_of_ble_eq_true rfl⟩) ⟨ml_blind, ml_pre hP hK hD⟩ rfl rfl hl.1 rfl (lv_room (Nat.le_of_ble_eq_true rfl)) d_ends_81 ⟨Nat.zero_le _, Nat.zero_le _⟩) hD hS hA (fun H locs hP hD hS => ?_)
              subst hres
              exact ml_iret hx hb hr hlocks hP hK hD hS d_ends_84
            · rw [if_neg e_6] at hres
              have te_4 := tw_ne e_4 0 (by decide)
              have te_5 := tw_ne e_5 1 (by decide)
              have te_6 := tw_ne e_6 2 (by decide)
              refine lv_tableOut (tgt := 85) hx hb d_ends_36 (by omega) (by decide) ?_
              refine lv_iconst (v := -1) hx hb d_ends_85 (by decide) ?_
              subst hres
              exact ml_iret hx hb hr hlocks hP hK hD hS d_ends_86
      · rw [if_neg h_3] at hres
        refine lv_iconst (v := -1) hx hb d_ends_33 (by decide) ?_
        subst hres
        exact ml_iret hx hb hr hlocks hP hK hD hS d_ends_34
    · rw [if_neg h_2] at hres
      refine lv_iconst (v := -1) hx hb d_ends_13 (by decide) ?_
      subst hres
      exact ml_iret hx hb hr hlocks hP hK hD hS d_ends_14
def sp_type (d : DK) (bt : Int32) : Int32 × DK :=
  (if bt < (0 : Int32) then ((0 : Int32), d) else (if bt ≤ (255 : Int32) then (if bt = (8 : Int32) then ((1 : Int32), (sp_takeBack d (if (sp_Con_lineLength d) < (1 : Int32) then (sp_Con_lineLength d) else (1 : Int32)))) else (if bt = (127 : Int32) then ((1 : Int32), (sp_takeBack d (if (sp_Con_lineLength d) < (1 : Int32) then (sp_Con_lineLength d) else (1 : Int32)))) else (if bt = (21 : Int32) then ((1 : Int32), (sp_takeBack d (sp_Con_lineLength d))) else (if (sp_Con_isFull d) = (0 : Int32) then (if bt = (13 : Int32) then ((1 : Int32), (sp_Scr_addLast (sp_Con_addToLine d (10 : Int32)) (10 : Int32))) else ((1 : Int32), (sp_Scr_addLast (sp_Con_addToLine d bt) bt))) else ((0 : Int32), d))))) else ((0 : Int32), d)))
abbrev rm_type : Room := { frames := 2, cells := 0, slots := 0, locals := 43 }
set_option maxHeartbeats 4000000 in
set_option maxRecDepth 100000 in
theorem c_type (l : Launch) (dC : Nat → ClassId) (dI : Nat → Nat → Nat) (kc : Nat → ClassId) (a : Nat → Nat) (sz : Nat) (d : DK) (bt : Int32) (R' : Int32) (d' : DK) (hres : sp_type d bt = (R', d')) : Met l y_type ws_type rm_type (va_Pc [.ref (a 0), .int bt] (ml_B (dC, dI) vwCl (tysD kc) 57 a (dcell kc a d) sz)) (va_Qi (fun r (_ : Unit) => r = R') (fun _ t => ml_E (dC, dI) vwCl (tysD kc) 57 a (dcell kc a d') (va_A (ml 57 a (dcell kc a d)) sz) t) (va_A (ml 57 a (dcell kc a d)) sz)) 0 0 (va_A (ml 57 a (dcell kc a d)) sz) := by
  refine Met.ofW (cc := prog_1_method_14_code) (maxL := 3) (ret := (some .boolean)) (by decide) rfl ?_
  intro p e s m args below meth c s₁ B hml hv
  obtain ⟨rfl, hsz, hP, hK, hD0⟩ := hv
  have hx := B.exec
  have hb := B.bytes
  have hr := B.returns
  have hts := atoms_spec (ws := ws_type) B.pre
  have hown : s.vm.findClass "HandleDesk" = some m.cls := findClass_of_methodNamed B.named
  have hlocks := B.notSynchronized
  subst hsz
  have hD := hD0.self (sz := s.heap.size)
  generalize hAe : va_A (ml 57 a (dcell kc a d)) s.heap.size = A at hD ⊢
  have hA : ∀ q : Nat, s.heap.size ≤ q → A q := fun q h => by rw [← hAe]; exact Or.inr h
  have hS : va_S A s.heap s.heap [] := va_S.rf
  have hl := lv_entry ([.ref (a 0), .int bt]) (n := 3) (Nat.le_of_ble_eq_true rfl)
  rw [lg_entry_eq]
  generalize (lg_sl ([.ref (a 0), .int bt]) ++ List.replicate (3 - (lg_sl ([.ref (a 0), .int bt])).length) Slot.unset).toArray = ls at hl ⊢
  have hl : lv_has ls 3 [(0, .ref (a 0)), (1, .int bt)] := hl
  rw [sp_type] at hres
  refine lv_iload_n hx hb d_type_0 rfl (lv_at hl 1 rfl) ?_
  refine lv_if_lt (tgt := 11) hx hb d_type_1 (by decide) (fun h_1 => ?_) (fun h_1 => ?_)
  · rw [if_pos h_1] at hres
    refine lv_iconst (v := 0) hx hb d_type_11 (by decide) ?_
    obtain ⟨rfl, rfl⟩ := Prod.mk.inj hres
    exact ml_zret hx hb hr (by decide) hlocks hP hK hD hS d_type_12
  · rw [if_neg h_1] at hres
    refine lv_iload_n hx hb d_type_4 rfl (lv_at hl 1 rfl) ?_
    refine lv_sipush (v := 255) hx hb d_type_5 (by decide) ?_
    refine lv_icmp_le (tgt := 13) hx hb d_type_8 (by decide) (fun h_2 => ?_) (fun h_2 => ?_)
    · rw [if_pos h_2] at hres
      refine lv_iload_n hx hb d_type_13 rfl (lv_at hl 1 rfl) ?_
      refine lv_bipush (v := 8) hx hb d_type_14 (by decide) ?_
      refine lv_icmp_eq (tgt := 25) hx hb d_type_16 (by decide) (fun h_3 => ?_) (fun h_3 => ?_)
      · rw [if_pos h_3] at hres
        refine lv_aload_n hx hb d_type_25 rfl (lv_at hl 0 rfl) ?_
        refine lv_iconst (v := 1) hx hb d_type_26 (by decide) ?_
        refine lv_aload_n hx hb d_type_27 rfl (lv_at hl 0 rfl) ?_
        refine ml_get (D := (dC, dI)) hx hb hts in_DC hown hK hP (0) (by decide) (dc_desk kc a d) rfl 5 (by decide) (hts _ (mC _ wd_128)) (fun _ h9 => h9) (v := .ref (a 53)) rfl d_type_28 ?_
        refine ml_calli (va_runV (As := []) (rest := [.int (1 : Int32), .ref (a 0)]) ⟨hx, hb, hml, hown, hts⟩ (c_Con_lineLength l dC dI kc a _ d _ rfl) (cwV 0 hts (gd_V mC wd_275 wd_276 wd_277 wd_4 wd_278) rfl rfl rfl hd_Con_lineLength ⟨Nat.le_of_ble_eq_true rfl, Nat.le_of_ble_eq_true rfl⟩) ⟨ml_blind, va_recv hK hP (ci := 3) rfl (ml_at (by decide) (dc_con kc a d)), ml_pre hP hK hD⟩ rfl rfl hl.1 rfl (lv_room (Nat.le_of_ble_eq_true rfl)) d_type_31 ⟨Nat.zero_le _, Nat.zero_le _⟩) hD hS hA (fun H locs hP hD hS => ?_)
        refine va_mmin hx hb (by rw [hml]; exact hl.1.symm) hown (hts _ (mC _ wd_279)) (hts _ (mC _ wd_280)) (hts _ (mC _ wd_7)) (hts _ (mC _ wd_281)) (Nat.le_of_ble_eq_true rfl) (Nat.le_of_ble_eq_true rfl) (Nat.zero_le _) (Nat.zero_le _) d_type_34 ?_
        refine ml_callv (va_runV (As := [.int (if (sp_Con_lineLength d) < (1 : Int32) then (sp_Con_lineLength d) else (1 : Int32))]) (rest := []) ⟨hx, hb, hml, hown, hts⟩ (c_takeBack l dC dI kc a _ d (if (sp_Con_lineLength d) < (1 : Int32) then (sp_Con_lineLength d) else (1 : Int32)) _ rfl) (cwV 1 hts (gd_V mC wd_282 wd_284 ws_8 wd_1 wd_285) rfl rfl rfl hd_takeBack ⟨Nat.le_of_ble_eq_true rfl, Nat.le_of_ble_eq_true rfl⟩) ⟨ml_blind, va_recv hK hP (ci := 0) rfl (ml_at (by decide) (dc_desk kc a d)), ml_pre hP hK hD⟩ rfl rfl hl.1 rfl (lv_room (Nat.le_of_ble_eq_true rfl)) d_type_37 ⟨Nat.zero_le _, Nat.zero_le _⟩) hD hS hA (fun H locs hP hD hS => ?_)
        refine lv_iconst (v := 1) hx hb d_type_40 (by decide) ?_
        obtain ⟨rfl, rfl⟩ := Prod.mk.inj hres
        exact ml_zret hx hb hr (by decide) hlocks hP hK hD hS d_type_41
      · rw [if_neg h_3] at hres
        refine lv_iload_n hx hb d_type_19 rfl (lv_at hl 1 rfl) ?_
        refine lv_bipush (v := 127) hx hb d_type_20 (by decide) ?_
        refine lv_icmp_ne (tgt := 42) hx hb d_type_22 (by decide) (fun h_4 => ?_) (fun h_4 => ?_)
        · rw [if_neg h_4] at hres
          refine lv_iload_n hx hb d_type_42 rfl (lv_at hl 1 rfl) ?_
          refine lv_bipush (v := 21) hx hb d_type_43 (by decide) ?_
          refine lv_icmp_ne (tgt := 61) hx hb d_type_45 (by decide) (fun h_5 => ?_) (fun h_5 => ?_)
          · rw [if_neg h_5] at hres
            refine lv_aload_n hx hb d_type_61 rfl (lv_at hl 0 rfl) ?_
            refine ml_get (D := (dC, dI)) hx hb hts in_DC hown hK hP (0) (by decide) (dc_desk kc a d) rfl 5 (by decide) (hts _ (mC _ wd_128)) (fun _ h9 => h9) (v := .ref (a 53)) rfl d_type_62 ?_
            refine ml_calli (va_runV (As := []) (rest := []) ⟨hx, hb, hml, hown, hts⟩ (c_Con_isFull l dC dI kc a _ d _ rfl) (cwV 0 hts (gd_V mC wd_294 wd_295 wd_296 wd_4 wd_297) rfl rfl rfl hd_Con_isFull ⟨Nat.le_of_ble_eq_true rfl, Nat.le_of_ble_eq_true rfl⟩) ⟨ml_blind, va_recv hK hP (ci := 3) rfl (ml_at (by decide) (dc_con kc a d)), ml_pre hP hK hD⟩ rfl rfl hl.1 rfl (lv_room (Nat.le_of_ble_eq_true rfl)) d_type_65 ⟨Nat.zero_le _, Nat.zero_le _⟩) hD hS hA (fun H locs hP hD hS => ?_)
            refine lv_if_eq (tgt := 73) hx hb d_type_68 (by decide) (fun h_6 => ?_) (fun h_6 => ?_)
            · rw [if_pos h_6] at hres
              refine lv_iload_n hx hb d_type_73 rfl (lv_at hl 1 rfl) ?_
              refine lv_bipush (v := 13) hx hb d_type_74 (by decide) ?_
              refine lv_icmp_ne (tgt := 84) hx hb d_type_76 (by decide) (fun h_7 => ?_) (fun h_7 => ?_)
              · rw [if_neg h_7] at hres
                refine lv_iload_n hx hb d_type_84 rfl (lv_at hl 1 rfl) ?_
                refine lv_istore_n (lv' := [(2, .int bt), (0, .ref (a 0)), (1, .int bt)]) hx hb d_type_85 rfl hl (by decide) rfl (fun ls hl => ?_)
                refine lv_aload_n hx hb d_type_86 rfl (lv_at hl 1 rfl) ?_
                refine ml_get (D := (dC, dI)) hx hb hts in_DC hown hK hP (0) (by decide) (dc_desk kc a d) rfl 5 (by decide) (hts _ (mC _ wd_128)) (fun _ h9 => h9) (v := .ref (a 53)) rfl d_type_87 ?_
                refine lv_iload_n hx hb d_type_90 rfl (lv_at hl 0 rfl) ?_
                refine ml_callv (va_runV (As := [.int bt]) (rest := []) ⟨hx, hb, hml, hown, hts⟩ (c_Con_addToLine l dC dI kc a _ d bt _ rfl) (cwV 1 hts (gd_V mC wd_298 wd_299 wd_300 wd_4 wd_301) rfl rfl rfl hd_Con_addToLine ⟨Nat.le_of_ble_eq_true rfl, Nat.le_of_ble_eq_true rfl⟩) ⟨ml_blind, va_recv hK hP (ci := 3) rfl (ml_at (by decide) (dc_con kc a d)), ml_pre hP hK hD⟩ rfl rfl hl.1 rfl (lv_room (Nat.le_of_ble_eq_true rfl)) d_type_91 ⟨Nat.zero_le _, Nat.zero_le _⟩) hD hS hA (fun H locs hP hD hS => ?_)
                refine lv_aload_n hx hb d_type_94 rfl (lv_at hl 1 rfl) ?_
                refine ml_get (D := (dC, dI)) hx hb hts in_DC hown hK hP (0) (by decide) (dc_desk kc a (sp_Con_addToLine d bt)) rfl 6 (by decide) (hts _ (mC _ wd_129)) (fun _ h9 => h9) (v := .ref (a 55)) rfl d_type_95 ?_
                refine lv_iload_n hx hb d_type_98 rfl (lv_at hl 0 rfl) ?_
                refine ml_callv (va_runV (As := [.int bt]) (rest := []) ⟨hx, hb, hml, hown, hts⟩ (c_Scr_addLast l dC dI kc a _ (sp_Con_addToLine d bt) bt _ rfl) (cwV 1 hts (gd_V mC wd_290 wd_291 wd_292 wd_5 wd_293) rfl rfl rfl hd_Scr_addLast ⟨Nat.le_of_ble_eq_true rfl, Nat.le_of_ble_eq_true rfl⟩) ⟨ml_blind, va_recv hK hP (ci := 4) rfl (ml_at (by decide) (dc_scr kc a (sp_Con_addToLine d bt))), ml_pre hP hK hD⟩ rfl rfl hl.1 rfl (lv_room (Nat.le_of_ble_eq_true rfl)) d_type_99 ⟨Nat.zero_le _, Nat.zero_le _⟩) hD hS hA (fun H locs hP hD hS => ?_)
                refine lv_iconst (v := 1) hx hb d_type_102 (by decide) ?_
                obtain ⟨rfl, rfl⟩ := Prod.mk.inj hres
                exact ml_zret hx hb hr (by decide) hlocks hP hK hD hS d_type_103
              · rw [if_pos h_7] at hres
                refine lv_bipush (v := 10) hx hb d_type_79 (by decide) ?_
                refine lv_goto (tgt := 85) hx hb d_type_81 (by decide) ?_
                refine lv_istore_n (lv' := [(2, .int (10 : Int32)), (0, .ref (a 0)), (1, .int bt)]) hx hb d_type_85 rfl hl (by decide) rfl (fun ls hl => ?_)
                refine lv_aload_n hx hb d_type_86 rfl (lv_at hl 1 rfl) ?_
                refine ml_get (D := (dC, dI)) hx hb hts in_DC hown hK hP (0) (by decide) (dc_desk kc a d) rfl 5 (by decide) (hts _ (mC _ wd_128)) (fun _ h9 => h9) (v := .ref (a 53)) rfl d_type_87 ?_
                refine lv_iload_n hx hb d_type_90 rfl (lv_at hl 0 rfl) ?_
                refine ml_callv (va_runV (As := [.int (10 : Int32)]) (rest := []) ⟨hx, hb, hml, hown, hts⟩ (c_Con_addToLine l dC dI kc a _ d (10 : Int32) _ rfl) (cwV 1 hts (gd_V mC wd_298 wd_299 wd_300 wd_4 wd_301) rfl rfl rfl hd_Con_addToLine ⟨Nat.le_of_ble_eq_true rfl, Nat.le_of_ble_eq_true rfl⟩) ⟨ml_blind, va_recv hK hP (ci := 3) rfl (ml_at (by decide) (dc_con kc a d)), ml_pre hP hK hD⟩ rfl rfl hl.1 rfl (lv_room (Nat.le_of_ble_eq_true rfl)) d_type_91 ⟨Nat.zero_le _, Nat.zero_le _⟩) hD hS hA (fun H locs hP hD hS => ?_)
                refine lv_aload_n hx hb d_type_94 rfl (lv_at hl 1 rfl) ?_
                refine ml_get (D := (dC, dI)) hx hb hts in_DC hown hK hP (0) (by decide) (dc_desk kc a (sp_Con_addToLine d (10 : Int32))) rfl 6 (by decide) (hts _ (mC _ wd_129)) (fun _ h9 => h9) (v := .ref (a 55)) rfl d_type_95 ?_
                refine lv_iload_n hx hb d_type_98 rfl (lv_at hl 0 rfl) ?_
                refine ml_callv (va_runV (As := [.int (10 : Int32)]) (rest := []) ⟨hx, hb, hml, hown, hts⟩ (c_Scr_addLast l dC dI kc a _ (sp_Con_addToLine d (10 : Int32)) (10 : Int32) _ rfl) (cwV 1 hts (gd_V mC wd_290 wd_291 wd_292 wd_5 wd_293) rfl rfl rfl hd_Scr_addLast ⟨Nat.le_of_ble_eq_true rfl, Nat.le_of_ble_eq_true rfl⟩) ⟨ml_blind, va_recv hK hP (ci := 4) rfl (ml_at (by decide) (dc_scr kc a (sp_Con_addToLine d (10 : Int32)))), ml_pre hP hK hD⟩ rfl rfl hl.1 rfl (lv_room (Nat.le_of_ble_eq_true rfl)) d_type_99 ⟨Nat.zero_le _, Nat.zero_le _⟩) hD hS hA (fun H locs hP hD hS => ?_)
                refine lv_iconst (v := 1) hx hb d_type_102 (by decide) ?_
                obtain ⟨rfl, rfl⟩ := Prod.mk.inj hres
                exact ml_zret hx hb hr (by decide) hlocks hP hK hD hS d_type_103
            · rw [if_neg h_6] at hres
              refine lv_iconst (v := 0) hx hb d_type_71 (by decide) ?_
              obtain ⟨rfl, rfl⟩ := Prod.mk.inj hres
              exact ml_zret hx hb hr (by decide) hlocks hP hK hD hS d_type_72
          · rw [if_pos h_5] at hres
            refine lv_aload_n hx hb d_type_48 rfl (lv_at hl 0 rfl) ?_
            refine lv_aload_n hx hb d_type_49 rfl (lv_at hl 0 rfl) ?_
            refine ml_get (D := (dC, dI)) hx hb hts in_DC hown hK hP (0) (by decide) (dc_desk kc a d) rfl 5 (by decide) (hts _ (mC _ wd_128)) (fun _ h9 => h9) (v := .ref (a 53)) rfl d_type_50 ?_
            refine ml_calli (va_runV (As := []) (rest := [.ref (a 0)]) ⟨hx, hb, hml, hown, hts⟩ (c_Con_lineLength l dC dI kc a _ d _ rfl) (cwV 0 hts (gd_V mC wd_275 wd_276 wd_277 wd_4 wd_278) rfl rfl rfl hd_Con_lineLength ⟨Nat.le_of_ble_eq_true rfl, Nat.le_of_ble_eq_true rfl⟩) ⟨ml_blind, va_recv hK hP (ci := 3) rfl (ml_at (by decide) (dc_con kc a d)), ml_pre hP hK hD⟩ rfl rfl hl.1 rfl (lv_room (Nat.le_of_ble_eq_true rfl)) d_type_53 ⟨Nat.zero_le _, Nat.zero_le _⟩) hD hS hA (fun H locs hP hD hS => ?_)
            refine ml_callv (va_runV (As := [.int (sp_Con_lineLength d)]) (rest := []) ⟨hx, hb, hml, hown, hts⟩ (c_takeBack l dC dI kc a _ d (sp_Con_lineLength d) _ rfl) (cwV 1 hts (gd_V mC wd_282 wd_284 ws_8 wd_1 wd_285) rfl rfl rfl hd_takeBack ⟨Nat.le_of_ble_eq_true rfl, Nat.le_of_ble_eq_true rfl⟩) ⟨ml_blind, va_recv hK hP (ci := 0) rfl (ml_at (by decide) (dc_desk kc a d)), ml_pre hP hK hD⟩ rfl rfl hl.1 rfl (lv_room (Nat.le_of_ble_eq_true rfl)) d_type_56 ⟨Nat.zero_le _, Nat.zero_le _⟩) hD hS hA (fun H locs hP hD hS => ?_)
            refine lv_iconst (v := 1) hx hb d_type_59 (by decide) ?_
            obtain ⟨rfl, rfl⟩ := Prod.mk.inj hres
            exact ml_zret hx hb hr (by decide) hlocks hP hK hD hS d_type_60
        · rw [if_pos h_4] at hres
          refine lv_aload_n hx hb d_type_25 rfl (lv_at hl 0 rfl) ?_
          refine lv_iconst (v := 1) hx hb d_type_26 (by decide) ?_
          refine lv_aload_n hx hb d_type_27 rfl (lv_at hl 0 rfl) ?_
          refine ml_get (D := (dC, dI)) hx hb hts in_DC hown hK hP (0) (by decide) (dc_desk kc a d) rfl 5 (by decide) (hts _ (mC _ wd_128)) (fun _ h9 => h9) (v := .ref (a 53)) rfl d_type_28 ?_
          refine ml_calli (va_runV (As := []) (rest := [.int (1 : Int32), .ref (a 0)]) ⟨hx, hb, hml, hown, hts⟩ (c_Con_lineLength l dC dI kc a _ d _ rfl) (cwV 0 hts (gd_V mC wd_275 wd_276 wd_277 wd_4 wd_278) rfl rfl rfl hd_Con_lineLength ⟨Nat.le_of_ble_eq_true rfl, Nat.le_of_ble_eq_true rfl⟩) ⟨ml_blind, va_recv hK hP (ci := 3) rfl (ml_at (by decide) (dc_con kc a d)), ml_pre hP hK hD⟩ rfl rfl hl.1 rfl (lv_room (Nat.le_of_ble_eq_true rfl)) d_type_31 ⟨Nat.zero_le _, Nat.zero_le _⟩) hD hS hA (fun H locs hP hD hS => ?_)
          refine va_mmin hx hb (by rw [hml]; exact hl.1.symm) hown (hts _ (mC _ wd_279)) (hts _ (mC _ wd_280)) (hts _ (mC _ wd_7)) (hts _ (mC _ wd_281)) (Nat.le_of_ble_eq_true rfl) (Nat.le_of_ble_eq_true rfl) (Nat.zero_le _) (Nat.zero_le _) d_type_34 ?_
          refine ml_callv (va_runV (As := [.int (if (sp_Con_lineLength d) < (1 : Int32) then (sp_Con_lineLength d) else (1 : Int32))]) (rest := []) ⟨hx, hb, hml, hown, hts⟩ (c_takeBack l dC dI kc a _ d (if (sp_Con_lineLength d) < (1 : Int32) then (sp_Con_lineLength d) else (1 : Int32)) _ rfl) (cwV 1 hts (gd_V mC wd_282 wd_284 ws_8 wd_1 wd_285) rfl rfl rfl hd_takeBack ⟨Nat.le_of_ble_eq_true rfl, Nat.le_of_ble_eq_true rfl⟩) ⟨ml_blind, va_recv hK hP (ci := 0) rfl (ml_at (by decide) (dc_desk kc a d)), ml_pre hP hK hD⟩ rfl rfl hl.1 rfl (lv_room (Nat.le_of_ble_eq_true rfl)) d_type_37 ⟨Nat.zero_le _, Nat.zero_le _⟩) hD hS hA (fun H locs hP hD hS => ?_)
          refine lv_iconst (v := 1) hx hb d_type_40 (by decide) ?_
          obtain ⟨rfl, rfl⟩ := Prod.mk.inj hres
          exact ml_zret hx hb hr (by decide) hlocks hP hK hD hS d_type_41
    · rw [if_neg h_2] at hres
      refine lv_iconst (v := 0) hx hb d_type_11 (by decide) ?_
      obtain ⟨rfl, rfl⟩ := Prod.mk.inj hres
      exact ml_zret hx hb hr (by decide) hlocks hP hK hD hS d_type_12
def sp_read (d : DK) (fi : Int32) : Int32 × DK :=
  (if (0 : Int32) < (d.1 13 0) then (if (sp_Con_firstDone d) = (4 : Int32) then (if fi = (0 : Int32) then ((-4 : Int32), d) else ((-4 : Int32), (sp_Con_dropFirstDone d))) else ((sp_Con_firstDone d), (sp_Con_dropFirstDone d))) else ((-3 : Int32), d))
abbrev rm_read : Room := { frames := 1, cells := 0, slots := 0, locals := 20 }
set_option maxHeartbeats 4000000 in
set_option maxRecDepth 100000 in
theorem c_read (l : Launch) (dC : Nat → ClassId) (dI : Nat → Nat → Nat) (kc : Nat → ClassId) (a : Nat → Nat) (sz : Nat) (d : DK) (fi : Int32) (R' : Int32) (d' : DK) (hres : sp_read d fi = (R', d')) : Met l y_read ws_read rm_read (va_Pc [.ref (a 0), .int fi] (ml_B (dC, dI) vwCl (tysD kc) 57 a (dcell kc a d) sz)) (va_Qi (fun r (_ : Unit) => r = R') (fun _ t => ml_E (dC, dI) vwCl (tysD kc) 57 a (dcell kc a d') (va_A (ml 57 a (dcell kc a d)) sz) t) (va_A (ml 57 a (dcell kc a d)) sz)) 0 0 (va_A (ml 57 a (dcell kc a d)) sz) := by
  refine Met.ofW (cc := prog_1_method_15_code) (maxL := 3) (ret := (some .int)) (by decide) rfl ?_
  intro p e s m args below meth c s₁ B hml hv
  obtain ⟨rfl, hsz, hP, hK, hD0⟩ := hv
  have hx := B.exec
  have hb := B.bytes
  have hr := B.returns
  have hts := atoms_spec (ws := ws_read) B.pre
  have hown : s.vm.findClass "HandleDesk" = some m.cls := findClass_of_methodNamed B.named
  have hlocks := B.notSynchronized
  subst hsz
  have hD := hD0.self (sz := s.heap.size)
  generalize hAe : va_A (ml 57 a (dcell kc a d)) s.heap.size = A at hD ⊢
  have hA : ∀ q : Nat, s.heap.size ≤ q → A q := fun q h => by rw [← hAe]; exact Or.inr h
  have hS : va_S A s.heap s.heap [] := va_S.rf
  have hl := lv_entry ([.ref (a 0), .int fi]) (n := 3) (Nat.le_of_ble_eq_true rfl)
  rw [lg_entry_eq]
  generalize (lg_sl ([.ref (a 0), .int fi]) ++ List.replicate (3 - (lg_sl ([.ref (a 0), .int fi])).length) Slot.unset).toArray = ls at hl ⊢
  have hl : lv_has ls 3 [(0, .ref (a 0)), (1, .int fi)] := hl
  rw [sp_read] at hres
  refine lv_aload_n hx hb d_read_0 rfl (lv_at hl 0 rfl) ?_
  refine ml_get (D := (dC, dI)) hx hb hts in_DC hown hK hP (0) (by decide) (dc_desk kc a d) rfl 5 (by decide) (hts _ (mC _ wd_128)) (fun _ h9 => h9) (v := .ref (a 53)) rfl d_read_1 ?_
  refine ml_get (D := (dC, dI)) hx hb hts in_CC hown hK hP (53) (by decide) (dc_con kc a d) rfl 2 (by decide) (hts _ (mC _ wd_96)) (fun _ h9 => h9) (v := .int (d.1 13 0)) rfl d_read_4 ?_
  refine lv_if_gt (tgt := 13) hx hb d_read_7 (by decide) (fun h_1 => ?_) (fun h_1 => ?_)
  · rw [if_pos h_1] at hres
    refine lv_aload_n hx hb d_read_13 rfl (lv_at hl 0 rfl) ?_
    refine ml_get (D := (dC, dI)) hx hb hts in_DC hown hK hP (0) (by decide) (dc_desk kc a d) rfl 5 (by decide) (hts _ (mC _ wd_128)) (fun _ h9 => h9) (v := .ref (a 53)) rfl d_read_14 ?_
    refine ml_calli (va_runV (As := []) (rest := []) ⟨hx, hb, hml, hown, hts⟩ (c_Con_firstDone l dC dI kc a _ d _ rfl) (cwV 0 hts (gd_V mC wd_307 wd_308 wd_309 wd_4 wd_310) rfl rfl rfl hd_Con_firstDone ⟨Nat.le_of_ble_eq_true rfl, Nat.le_of_ble_eq_true rfl⟩) ⟨ml_blind, va_recv hK hP (ci := 3) rfl (ml_at (by decide) (dc_con kc a d)), ml_pre hP hK hD⟩ rfl rfl hl.1 rfl (lv_room (Nat.le_of_ble_eq_true rfl)) d_read_17 ⟨Nat.zero_le _, Nat.zero_le _⟩) hD hS hA (fun H locs hP hD hS => ?_)
    refine lv_istore_n (lv' := [(2, .int (sp_Con_firstDone d)), (0, .ref (a 0)), (1, .int fi)]) hx hb d_read_20 rfl hl (by decide) rfl (fun ls hl => ?_)
    refine lv_iload_n hx hb d_read_21 rfl (lv_at hl 0 rfl) ?_
    refine lv_iconst (v := 4) hx hb d_read_22 (by decide) ?_
    refine lv_icmp_eq (tgt := 35) hx hb d_read_23 (by decide) (fun h_2 => ?_) (fun h_2 => ?_)
    · rw [if_pos h_2] at hres
      refine lv_iload_n hx hb d_read_35 rfl (lv_at hl 2 rfl) ?_
      refine lv_if_eq (tgt := 46) hx hb d_read_36 (by decide) (fun h_3 => ?_) (fun h_3 => ?_)
      · rw [if_pos h_3] at hres
        refine lv_bipush (v := -4) hx hb d_read_46 (by decide) ?_
        obtain ⟨rfl, rfl⟩ := Prod.mk.inj hres
        exact ml_iret hx hb hr hlocks hP hK hD hS d_read_48
      · rw [if_neg h_3] at hres
        refine lv_aload_n hx hb d_read_39 rfl (lv_at hl 1 rfl) ?_
        refine ml_get (D := (dC, dI)) hx hb hts in_DC hown hK hP (0) (by decide) (dc_desk kc a d) rfl 5 (by decide) (hts _ (mC _ wd_128)) (fun _ h9 => h9) (v := .ref (a 53)) rfl d_read_40 ?_
        refine ml_callv (va_runV (As := []) (rest := []) ⟨hx, hb, hml, hown, hts⟩ (c_Con_dropFirstDone l dC dI kc a _ d _ rfl) (cwV 0 hts (gd_V mC wd_311 wd_312 wd_313 wd_4 wd_314) rfl rfl rfl hd_Con_dropFirstDone ⟨Nat.le_of_ble_eq_true rfl, Nat.le_of_ble_eq_true rfl⟩) ⟨ml_blind, va_recv hK hP (ci := 3) rfl (ml_at (by decide) (dc_con kc a d)), ml_pre hP hK hD⟩ rfl rfl hl.1 rfl (lv_room (Nat.le_of_ble_eq_true rfl)) d_read_43 ⟨Nat.zero_le _, Nat.zero_le _⟩) hD hS hA (fun H locs hP hD hS => ?_)
        refine lv_bipush (v := -4) hx hb d_read_46 (by decide) ?_
        obtain ⟨rfl, rfl⟩ := Prod.mk.inj hres
        exact ml_iret hx hb hr hlocks hP hK hD hS d_read_48
    · rw [if_neg h_2] at hres
      refine lv_aload_n hx hb d_read_26 rfl (lv_at hl 1 rfl) ?_
      refine ml_get (D := (dC, dI)) hx hb hts in_DC hown hK hP (0) (by decide) (dc_desk kc a d) rfl 5 (by decide) (hts _ (mC _ wd_128)) (fun _ h9 => h9) (v := .ref (a 53)) rfl d_read_27 ?_
      refine ml_callv (va_runV (As := []) (rest := []) ⟨hx, hb, hml, hown, hts⟩ (c_Con_dropFirstDone l dC dI kc a _ d _ rfl) (cwV 0 hts (gd_V mC wd_311 wd_312 wd_313 wd_4 wd_314) rfl rfl rfl hd_Con_dropFirstDone ⟨Nat.le_of_ble_eq_true rfl, Nat.le_of_ble_eq_true rfl⟩) ⟨ml_blind, va_recv hK hP (ci := 3) rfl (ml_at (by decide) (dc_con kc a d)), ml_pre hP hK hD⟩ rfl rfl hl.1 rfl (lv_room (Nat.le_of_ble_eq_true rfl)) d_read_30 ⟨Nat.zero_le _, Nat.zero_le _⟩) hD hS hA (fun H locs hP hD hS => ?_)
      refine lv_iload_n hx hb d_read_33 rfl (lv_at hl 0 rfl) ?_
      obtain ⟨rfl, rfl⟩ := Prod.mk.inj hres
      exact ml_iret hx hb hr hlocks hP hK hD hS d_read_34
  · rw [if_neg h_1] at hres
    refine lv_bipush (v := -3) hx hb d_read_10 (by decide) ?_
    obtain ⟨rfl, rfl⟩ := Prod.mk.inj hres
    exact ml_iret hx hb hr hlocks hP hK hD hS d_read_12
def sp_waiting (d : DK) (wh : Int32) : Int32 :=
  (if wh = (0 : Int32) then (d.1 13 0) else (if wh = (1 : Int32) then (d.1 14 0) else (-1 : Int32)))
abbrev rm_waiting : Room := { frames := 0, cells := 0, slots := 0, locals := 0 }
set_option maxHeartbeats 4000000 in
set_option maxRecDepth 100000 in
theorem c_waiting (l : Launch) (dC : Nat → ClassId) (dI : Nat → Nat → Nat) (kc : Nat → ClassId) (a : Nat → Nat) (sz : Nat) (d : DK) (wh : Int32) (R' : Int32) (hres : sp_waiting d wh = R') : Met l y_waiting ws_waiting rm_waiting (va_Pc [.ref (a 0), .int wh] (ml_B (dC, dI) vwCl (tysD kc) 57 a (dcell kc a d) sz)) (va_Qi (fun r (_ : Unit) => r = R') (fun _ t => ml_E (dC, dI) vwCl (tysD kc) 57 a (dcell kc a d) (va_A (ml 57 a (dcell kc a d)) sz) t) (va_A (ml 57 a (dcell kc a d)) sz)) 0 0 (va_A (ml 57 a (dcell kc a d)) sz) := by
  refine Met.ofW (cc := prog_1_method_16_code) (maxL := 2) (ret := (some .int)) (by decide) rfl ?_
  intro p e s m args below meth c s₁ B hml hv
  obtain ⟨rfl, hsz, hP, hK, hD0⟩ := hv
  have hx := B.exec
  have hb := B.bytes
  have hr := B.returns
  have hts := atoms_spec (ws := ws_waiting) B.pre
  have hown : s.vm.findClass "HandleDesk" = some m.cls := findClass_of_methodNamed B.named
  have hlocks := B.notSynchronized
  subst hsz
  have hD := hD0.self (sz := s.heap.size)
  generalize hAe : va_A (ml 57 a (dcell kc a d)) s.heap.size = A at hD ⊢
  have hA : ∀ q : Nat, s.heap.size ≤ q → A q := fun q h => by rw [← hAe]; exact Or.inr h
  have hS : va_S A s.heap s.heap [] := va_S.rf
  have hl := lv_entry ([.ref (a 0), .int wh]) (n := 2) (Nat.le_of_ble_eq_true rfl)
  rw [lg_entry_eq]
  generalize (lg_sl ([.ref (a 0), .int wh]) ++ List.replicate (2 - (lg_sl ([.ref (a 0), .int wh])).length) Slot.unset).toArray = ls at hl ⊢
  have hl : lv_has ls 2 [(0, .ref (a 0)), (1, .int wh)] := hl
  rw [sp_waiting] at hres
  refine lv_iload_n hx hb d_waiting_0 rfl (lv_at hl 1 rfl) ?_
  by_cases e_1 : wh = (0 : Int32)
  · rw [if_pos e_1] at hres
    refine lv_lookup (off := 27) (tgt := 28) hx hb d_waiting_1 (by decide) (by rw [e_1]; rfl) (by decide) ?_
    refine lv_aload_n hx hb d_waiting_28 rfl (lv_at hl 0 rfl) ?_
    refine ml_get (D := (dC, dI)) hx hb hts in_DC hown hK hP (0) (by decide) (dc_desk kc a d) rfl 5 (by decide) (hts _ (mC _ wd_128)) (fun _ h9 => h9) (v := .ref (a 53)) rfl d_waiting_29 ?_
    refine ml_get (D := (dC, dI)) hx hb hts in_CC hown hK hP (53) (by decide) (dc_con kc a d) rfl 2 (by decide) (hts _ (mC _ wd_96)) (fun _ h9 => h9) (v := .int (d.1 13 0)) rfl d_waiting_32 ?_
    subst hres
    exact ml_iret hx hb hr hlocks hP hK hD hS d_waiting_35
  · rw [if_neg e_1] at hres
    by_cases e_2 : wh = (1 : Int32)
    · rw [if_pos e_2] at hres
      refine lv_lookup (off := 35) (tgt := 36) hx hb d_waiting_1 (by decide) (by rw [e_2]; rfl) (by decide) ?_
      refine lv_aload_n hx hb d_waiting_36 rfl (lv_at hl 0 rfl) ?_
      refine ml_get (D := (dC, dI)) hx hb hts in_DC hown hK hP (0) (by decide) (dc_desk kc a d) rfl 5 (by decide) (hts _ (mC _ wd_128)) (fun _ h9 => h9) (v := .ref (a 53)) rfl d_waiting_37 ?_
      refine ml_get (D := (dC, dI)) hx hb hts in_CC hown hK hP (53) (by decide) (dc_con kc a d) rfl 3 (by decide) (hts _ (mC _ wd_98)) (fun _ h9 => h9) (v := .int (d.1 14 0)) rfl d_waiting_40 ?_
      subst hres
      exact ml_iret hx hb hr hlocks hP hK hD hS d_waiting_43
    · rw [if_neg e_2] at hres
      have te_1 := tw_ne e_1 0 (by decide)
      have te_2 := tw_ne e_2 1 (by decide)
      refine lv_lookup (off := 43) (tgt := 44) hx hb d_waiting_1 (by decide) (by simp [Op.lookupswitch.offset, Ne.symm te_1, Ne.symm te_2]) (by decide) ?_
      refine lv_iconst (v := -1) hx hb d_waiting_44 (by decide) ?_
      subst hres
      exact ml_iret hx hb hr hlocks hP hK hD hS d_waiting_45
def sp_show (d : DK) (bt : Int32) : DK :=
  (sp_Scr_addLast d bt)
abbrev rm_show : Room := { frames := 1, cells := 0, slots := 0, locals := 21 }
set_option maxHeartbeats 4000000 in
set_option maxRecDepth 100000 in
theorem c_show (l : Launch) (dC : Nat → ClassId) (dI : Nat → Nat → Nat) (kc : Nat → ClassId) (a : Nat → Nat) (sz : Nat) (d : DK) (bt : Int32) (d' : DK) (hres : sp_show d bt = d') : Met l y_show ws_show rm_show (va_Pc [.ref (a 0), .int bt] (ml_B (dC, dI) vwCl (tysD kc) 57 a (dcell kc a d) sz)) (va_Qv (fun (_ : Unit) => True) (fun _ t => ml_E (dC, dI) vwCl (tysD kc) 57 a (dcell kc a d') (va_A (ml 57 a (dcell kc a d)) sz) t) (va_A (ml 57 a (dcell kc a d)) sz)) 0 0 (va_A (ml 57 a (dcell kc a d)) sz) := by
  refine Met.ofW (cc := prog_1_method_17_code) (maxL := 2) (ret := (none : Option Jvm.ClassFile.FieldType)) (by decide) rfl ?_
  intro p e s m args below meth c s₁ B hml hv
  obtain ⟨rfl, hsz, hP, hK, hD0⟩ := hv
  have hx := B.exec
  have hb := B.bytes
  have hr := B.returns
  have hts := atoms_spec (ws := ws_show) B.pre
  have hown : s.vm.findClass "HandleDesk" = some m.cls := findClass_of_methodNamed B.named
  have hlocks := B.notSynchronized
  subst hsz
  have hD := hD0.self (sz := s.heap.size)
  generalize hAe : va_A (ml 57 a (dcell kc a d)) s.heap.size = A at hD ⊢
  have hA : ∀ q : Nat, s.heap.size ≤ q → A q := fun q h => by rw [← hAe]; exact Or.inr h
  have hS : va_S A s.heap s.heap [] := va_S.rf
  have hl := lv_entry ([.ref (a 0), .int bt]) (n := 2) (Nat.le_of_ble_eq_true rfl)
  rw [lg_entry_eq]
  generalize (lg_sl ([.ref (a 0), .int bt]) ++ List.replicate (2 - (lg_sl ([.ref (a 0), .int bt])).length) Slot.unset).toArray = ls at hl ⊢
  have hl : lv_has ls 2 [(0, .ref (a 0)), (1, .int bt)] := hl
  rw [sp_show] at hres
  refine lv_aload_n hx hb d_show_0 rfl (lv_at hl 0 rfl) ?_
  refine ml_get (D := (dC, dI)) hx hb hts in_DC hown hK hP (0) (by decide) (dc_desk kc a d) rfl 6 (by decide) (hts _ (mC _ wd_129)) (fun _ h9 => h9) (v := .ref (a 55)) rfl d_show_1 ?_
  refine lv_iload_n hx hb d_show_4 rfl (lv_at hl 1 rfl) ?_
  refine ml_callv (va_runV (As := [.int bt]) (rest := []) ⟨hx, hb, hml, hown, hts⟩ (c_Scr_addLast l dC dI kc a _ d bt _ rfl) (cwV 1 hts (gd_V mC wd_290 wd_291 wd_292 wd_5 wd_293) rfl rfl rfl hd_Scr_addLast ⟨Nat.le_of_ble_eq_true rfl, Nat.le_of_ble_eq_true rfl⟩) ⟨ml_blind, va_recv hK hP (ci := 4) rfl (ml_at (by decide) (dc_scr kc a d)), ml_pre hP hK hD⟩ rfl rfl hl.1 rfl (lv_room (Nat.le_of_ble_eq_true rfl)) d_show_5 ⟨Nat.zero_le _, Nat.zero_le _⟩) hD hS hA (fun H locs hP hD hS => ?_)
  subst hres
  exact ml_vret hx hb hr hlocks hP hK hD hS d_show_8
def sp_shown (d : DK) (kx : Int32) : Int32 :=
  (sp_Scr_byteAt d kx)
abbrev rm_shown : Room := { frames := 1, cells := 0, slots := 0, locals := 21 }
set_option maxHeartbeats 4000000 in
set_option maxRecDepth 100000 in
theorem c_shown (l : Launch) (dC : Nat → ClassId) (dI : Nat → Nat → Nat) (kc : Nat → ClassId) (a : Nat → Nat) (sz : Nat) (d : DK) (kx : Int32) (R' : Int32) (hres : sp_shown d kx = R') : Met l y_shown ws_shown rm_shown (va_Pc [.ref (a 0), .int kx] (ml_B (dC, dI) vwCl (tysD kc) 57 a (dcell kc a d) sz)) (va_Qi (fun r (_ : Unit) => r = R') (fun _ t => ml_E (dC, dI) vwCl (tysD kc) 57 a (dcell kc a d) (va_A (ml 57 a (dcell kc a d)) sz) t) (va_A (ml 57 a (dcell kc a d)) sz)) 0 0 (va_A (ml 57 a (dcell kc a d)) sz) := by
  refine Met.ofW (cc := prog_1_method_18_code) (maxL := 2) (ret := (some .int)) (by decide) rfl ?_
  intro p e s m args below meth c s₁ B hml hv
  obtain ⟨rfl, hsz, hP, hK, hD0⟩ := hv
  have hx := B.exec
  have hb := B.bytes
  have hr := B.returns
  have hts := atoms_spec (ws := ws_shown) B.pre
  have hown : s.vm.findClass "HandleDesk" = some m.cls := findClass_of_methodNamed B.named
  have hlocks := B.notSynchronized
  subst hsz
  have hD := hD0.self (sz := s.heap.size)
  generalize hAe : va_A (ml 57 a (dcell kc a d)) s.heap.size = A at hD ⊢
  have hA : ∀ q : Nat, s.heap.size ≤ q → A q := fun q h => by rw [← hAe]; exact Or.inr h
  have hS : va_S A s.heap s.heap [] := va_S.rf
  have hl := lv_entry ([.ref (a 0), .int kx]) (n := 2) (Nat.le_of_ble_eq_true rfl)
  rw [lg_entry_eq]
  generalize (lg_sl ([.ref (a 0), .int kx]) ++ List.replicate (2 - (lg_sl ([.ref (a 0), .int kx])).length) Slot.unset).toArray = ls at hl ⊢
  have hl : lv_has ls 2 [(0, .ref (a 0)), (1, .int kx)] := hl
  rw [sp_shown] at hres
  refine lv_aload_n hx hb d_shown_0 rfl (lv_at hl 0 rfl) ?_
  refine ml_get (D := (dC, dI)) hx hb hts in_DC hown hK hP (0) (by decide) (dc_desk kc a d) rfl 6 (by decide) (hts _ (mC _ wd_129)) (fun _ h9 => h9) (v := .ref (a 55)) rfl d_shown_1 ?_
  refine lv_iload_n hx hb d_shown_4 rfl (lv_at hl 1 rfl) ?_
  refine ml_calli (va_runV (As := [.int kx]) (rest := []) ⟨hx, hb, hml, hown, hts⟩ (c_Scr_byteAt l dC dI kc a _ d kx _ rfl) (cwV 1 hts (gd_V mC wd_327 wd_328 wd_329 wd_5 wd_330) rfl rfl rfl hd_Scr_byteAt ⟨Nat.le_of_ble_eq_true rfl, Nat.le_of_ble_eq_true rfl⟩) ⟨ml_blind, va_recv hK hP (ci := 4) rfl (ml_at (by decide) (dc_scr kc a d)), ml_pre hP hK hD⟩ rfl rfl hl.1 rfl (lv_room (Nat.le_of_ble_eq_true rfl)) d_shown_5 ⟨Nat.zero_le _, Nat.zero_le _⟩) hD hS hA (fun H locs hP hD hS => ?_)
  subst hres
  exact ml_iret hx hb hr hlocks hP hK hD hS d_shown_8
def sp_count (d : DK)  : Int32 :=
  (d.1 16 0)
abbrev rm_count : Room := { frames := 0, cells := 0, slots := 0, locals := 0 }
set_option maxHeartbeats 4000000 in
set_option maxRecDepth 100000 in
theorem c_count (l : Launch) (dC : Nat → ClassId) (dI : Nat → Nat → Nat) (kc : Nat → ClassId) (a : Nat → Nat) (sz : Nat) (d : DK) (R' : Int32) (hres : sp_count d = R') : Met l y_count ws_count rm_count (va_Pc [.ref (a 0)] (ml_B (dC, dI) vwCl (tysD kc) 57 a (dcell kc a d) sz)) (va_Qi (fun r (_ : Unit) => r = R') (fun _ t => ml_E (dC, dI) vwCl (tysD kc) 57 a (dcell kc a d) (va_A (ml 57 a (dcell kc a d)) sz) t) (va_A (ml 57 a (dcell kc a d)) sz)) 0 0 (va_A (ml 57 a (dcell kc a d)) sz) := by
  refine Met.ofW (cc := prog_1_method_19_code) (maxL := 1) (ret := (some .int)) (by decide) rfl ?_
  intro p e s m args below meth c s₁ B hml hv
  obtain ⟨rfl, hsz, hP, hK, hD0⟩ := hv
  have hx := B.exec
  have hb := B.bytes
  have hr := B.returns
  have hts := atoms_spec (ws := ws_count) B.pre
  have hown : s.vm.findClass "HandleDesk" = some m.cls := findClass_of_methodNamed B.named
  have hlocks := B.notSynchronized
  subst hsz
  have hD := hD0.self (sz := s.heap.size)
  generalize hAe : va_A (ml 57 a (dcell kc a d)) s.heap.size = A at hD ⊢
  have hA : ∀ q : Nat, s.heap.size ≤ q → A q := fun q h => by rw [← hAe]; exact Or.inr h
  have hS : va_S A s.heap s.heap [] := va_S.rf
  have hl := lv_entry ([.ref (a 0)]) (n := 1) (Nat.le_of_ble_eq_true rfl)
  rw [lg_entry_eq]
  generalize (lg_sl ([.ref (a 0)]) ++ List.replicate (1 - (lg_sl ([.ref (a 0)])).length) Slot.unset).toArray = ls at hl ⊢
  have hl : lv_has ls 1 [(0, .ref (a 0))] := hl
  rw [sp_count] at hres
  refine lv_aload_n hx hb d_count_0 rfl (lv_at hl 0 rfl) ?_
  refine ml_get (D := (dC, dI)) hx hb hts in_DC hown hK hP (0) (by decide) (dc_desk kc a d) rfl 6 (by decide) (hts _ (mC _ wd_129)) (fun _ h9 => h9) (v := .ref (a 55)) rfl d_count_1 ?_
  refine ml_get (D := (dC, dI)) hx hb hts in_SC hown hK hP (55) (by decide) (dc_scr kc a d) rfl 1 (by decide) (hts _ (mC _ wd_117)) (fun _ h9 => h9) (v := .int (d.1 16 0)) rfl d_count_4 ?_
  subst hres
  exact ml_iret hx hb hr hlocks hP hK hD hS d_count_7
end
section
def sp_M_isPlace (pr : Int32) : Int32 :=
  (if pr < (0 : Int32) then (0 : Int32) else (if (15 : Int32) ≤ pr then (0 : Int32) else (1 : Int32)))
abbrev rm_M_isPlace : Room := { frames := 0, cells := 0, slots := 0, locals := 0 }
set_option maxHeartbeats 4000000 in
set_option maxRecDepth 100000 in
theorem c_M_isPlace (l : Launch) (dC : Nat → ClassId) (dI : Nat → Nat → Nat) (kc : Nat → ClassId) (a : Nat → Nat) (sz : Nat) (mo : MK) (pr : Int32) (R' : Int32) (hres : sp_M_isPlace pr = R') : Met l y_M_isPlace ws_M_isPlace rm_M_isPlace (va_Pc [.int pr] (ml_B (dC, dI) vwCl (tysD kc) 11 a (mcell kc a mo) sz)) (va_Qi (fun r (_ : Unit) => r = R') (fun _ t => ml_E (dC, dI) vwCl (tysD kc) 11 a (mcell kc a mo) (va_A (ml 11 a (mcell kc a mo)) sz) t) (va_A (ml 11 a (mcell kc a mo)) sz)) 0 0 (va_A (ml 11 a (mcell kc a mo)) sz) := by
  refine Met.ofW (cc := prog_7_method_3_code) (maxL := 1) (ret := (some .boolean)) (by decide) rfl ?_
  intro p e s m args below meth c s₁ B hml hv
  obtain ⟨rfl, hsz, hP, hK, hD0⟩ := hv
  have hx := B.exec
  have hb := B.bytes
  have hr := B.returns
  have hts := atoms_spec (ws := ws_M_isPlace) B.pre
  have hown : s.vm.findClass "HandleDeskModel" = some m.cls := findClass_of_methodNamed B.named
  have hlocks := B.notSynchronized
  subst hsz
  have hD := hD0.self (sz := s.heap.size)
  generalize hAe : va_A (ml 11 a (mcell kc a mo)) s.heap.size = A at hD ⊢
  have hA : ∀ q : Nat, s.heap.size ≤ q → A q := fun q h => by rw [← hAe]; exact Or.inr h
  have hS : va_S A s.heap s.heap [] := va_S.rf
  have hl := lv_entry ([.int pr]) (n := 1) (Nat.le_of_ble_eq_true rfl)
  rw [lg_entry_eq]
  generalize (lg_sl ([.int pr]) ++ List.replicate (1 - (lg_sl ([.int pr])).length) Slot.unset).toArray = ls at hl ⊢
  have hl : lv_has ls 1 [(0, .int pr)] := hl
  rw [sp_M_isPlace] at hres
  refine lv_iload_n hx hb d_M_isPlace_0 rfl (lv_at hl 0 rfl) ?_
  refine lv_if_lt (tgt := 14) hx hb d_M_isPlace_1 (by decide) (fun h_1 => ?_) (fun h_1 => ?_)
  · rw [if_pos h_1] at hres
    refine lv_iconst (v := 0) hx hb d_M_isPlace_14 (by decide) ?_
    subst hres
    exact ml_zret hx hb hr (by decide) hlocks hP hK hD hS d_M_isPlace_15
  · rw [if_neg h_1] at hres
    refine lv_iload_n hx hb d_M_isPlace_4 rfl (lv_at hl 0 rfl) ?_
    refine lv_bipush (v := 15) hx hb d_M_isPlace_5 (by decide) ?_
    refine lv_icmp_ge (tgt := 14) hx hb d_M_isPlace_7 (by decide) (fun h_2 => ?_) (fun h_2 => ?_)
    · rw [if_pos h_2] at hres
      refine lv_iconst (v := 0) hx hb d_M_isPlace_14 (by decide) ?_
      subst hres
      exact ml_zret hx hb hr (by decide) hlocks hP hK hD hS d_M_isPlace_15
    · rw [if_neg h_2] at hres
      refine lv_iconst (v := 1) hx hb d_M_isPlace_10 (by decide) ?_
      refine lv_goto (tgt := 15) hx hb d_M_isPlace_11 (by decide) ?_
      subst hres
      exact ml_zret hx hb hr (by decide) hlocks hP hK hD hS d_M_isPlace_15
end
section
theorem isPl {pr : Int32} (h : ¬ sp_M_isPlace pr = 0) : ∃ n, n < 15 ∧ pr = nI n := by
  unfold sp_M_isPlace at h
  by_cases h1 : pr < 0
  · rw [if_pos h1] at h; exact absurd rfl h
  rw [if_neg h1] at h
  by_cases h2 : (15 : Int32) ≤ pr
  · rw [if_pos h2] at h; exact absurd rfl h
  rcases pk_ix pr (n := 15) (by decide) with q | q | ⟨j, hj, e⟩
  · exact absurd q h1
  · exact absurd q h2
  · exact ⟨j, hj, e⟩
theorem ix16 (n q : Nat) : ((16 : Int32) * nI n) + nI q = nI (16 * n + q) := by
  rw [show (16 : Int32) = nI 16 from rfl, pk_mul, nI_add]
theorem md_inj {pr : Int32} {j : Nat} (hp : ¬ sp_M_isPlace pr = 0) (hj : j + 1 ≤ 16) : vp_in (((16 : Int32) * pr) + nI j) 240 := by
  obtain ⟨n, hn, rfl⟩ := isPl hp
  rw [ix16]
  exact vp_in_nI (by omega) (by decide)
theorem md_in {pr x : Int32} (hp : ¬ sp_M_isPlace pr = 0) (h0 : ¬ x < 0) (h1 : ¬ (16 : Int32) ≤ x) : vp_in (((16 : Int32) * pr) + x) 240 := by
  rcases pk_ix x (n := 16) (by decide) with q | q | ⟨j, hj, rfl⟩
  · exact absurd q h0
  · exact absurd q h1
  · exact md_inj hp hj
end
section
def sp_M_file (mo : MK) (pr : Int32) (x : Int32) : Int32 :=
  (if (sp_M_isPlace pr) = (0 : Int32) then (-1 : Int32) else (if x < (0 : Int32) then (-1 : Int32) else (if (16 : Int32) ≤ x then (-1 : Int32) else ((mo 5 (((16 : Int32) * pr) + x).toNatClampNeg) - (1 : Int32)))))
abbrev rm_M_file : Room := { frames := 1, cells := 0, slots := 0, locals := 20 }
set_option maxHeartbeats 4000000 in
set_option maxRecDepth 100000 in
theorem c_M_file (l : Launch) (dC : Nat → ClassId) (dI : Nat → Nat → Nat) (kc : Nat → ClassId) (a : Nat → Nat) (sz : Nat) (mo : MK) (pr : Int32) (x : Int32) (R' : Int32) (hres : sp_M_file mo pr x = R') : Met l y_M_file ws_M_file rm_M_file (va_Pc [.ref (a 0), .int pr, .int x] (ml_B (dC, dI) vwCl (tysD kc) 11 a (mcell kc a mo) sz)) (va_Qi (fun r (_ : Unit) => r = R') (fun _ t => ml_E (dC, dI) vwCl (tysD kc) 11 a (mcell kc a mo) (va_A (ml 11 a (mcell kc a mo)) sz) t) (va_A (ml 11 a (mcell kc a mo)) sz)) 0 0 (va_A (ml 11 a (mcell kc a mo)) sz) := by
  refine Met.ofW (cc := prog_7_method_4_code) (maxL := 3) (ret := (some .int)) (by decide) rfl ?_
  intro p e s m args below meth c s₁ B hml hv
  obtain ⟨rfl, hsz, hP, hK, hD0⟩ := hv
  have hx := B.exec
  have hb := B.bytes
  have hr := B.returns
  have hts := atoms_spec (ws := ws_M_file) B.pre
  have hown : s.vm.findClass "HandleDeskModel" = some m.cls := findClass_of_methodNamed B.named
  have hlocks := B.notSynchronized
  subst hsz
  have hD := hD0.self (sz := s.heap.size)
  generalize hAe : va_A (ml 11 a (mcell kc a mo)) s.heap.size = A at hD ⊢
  have hA : ∀ q : Nat, s.heap.size ≤ q → A q := fun q h => by rw [← hAe]; exact Or.inr h
  have hS : va_S A s.heap s.heap [] := va_S.rf
  have hl := lv_entry ([.ref (a 0), .int pr, .int x]) (n := 3) (Nat.le_of_ble_eq_true rfl)
  rw [lg_entry_eq]
  generalize (lg_sl ([.ref (a 0), .int pr, .int x]) ++ List.replicate (3 - (lg_sl ([.ref (a 0), .int pr, .int x])).length) Slot.unset).toArray = ls at hl ⊢
  have hl : lv_has ls 3 [(0, .ref (a 0)), (1, .int pr), (2, .int x)] := hl
  rw [sp_M_file] at hres
  refine lv_iload_n hx hb d_M_file_0 rfl (lv_at hl 1 rfl) ?_
  refine ml_calli (va_runS (As := [.int pr]) (rest := []) ⟨hx, hb, hml, hown, hts⟩ (c_M_isPlace l dC dI kc a _ mo pr _ rfl) (cwS 1 hts (gd_S mC wd_391 wd_392 wd_6 wd_393) rfl rfl rfl hd_M_isPlace ⟨Nat.le_of_ble_eq_true rfl, Nat.le_of_ble_eq_true rfl⟩) ⟨ml_blind, ml_pre hP hK hD⟩ rfl rfl hl.1 rfl (lv_room (Nat.le_of_ble_eq_true rfl)) d_M_file_1 ⟨Nat.zero_le _, Nat.zero_le _⟩) hD hS hA (fun H locs hP hD hS => ?_)
  refine lv_if_eq (tgt := 33) hx hb d_M_file_4 (by decide) (fun h_1 => ?_) (fun h_1 => ?_)
  · rw [if_pos h_1] at hres
    refine lv_iconst (v := -1) hx hb d_M_file_33 (by decide) ?_
    subst hres
    exact ml_iret hx hb hr hlocks hP hK hD hS d_M_file_34
  · rw [if_neg h_1] at hres
    refine lv_iload_n hx hb d_M_file_7 rfl (lv_at hl 2 rfl) ?_
    refine lv_if_lt (tgt := 33) hx hb d_M_file_8 (by decide) (fun h_2 => ?_) (fun h_2 => ?_)
    · rw [if_pos h_2] at hres
      refine lv_iconst (v := -1) hx hb d_M_file_33 (by decide) ?_
      subst hres
      exact ml_iret hx hb hr hlocks hP hK hD hS d_M_file_34
    · rw [if_neg h_2] at hres
      refine lv_iload_n hx hb d_M_file_11 rfl (lv_at hl 2 rfl) ?_
      refine lv_bipush (v := 16) hx hb d_M_file_12 (by decide) ?_
      refine lv_icmp_ge (tgt := 33) hx hb d_M_file_14 (by decide) (fun h_3 => ?_) (fun h_3 => ?_)
      · rw [if_pos h_3] at hres
        refine lv_iconst (v := -1) hx hb d_M_file_33 (by decide) ?_
        subst hres
        exact ml_iret hx hb hr hlocks hP hK hD hS d_M_file_34
      · rw [if_neg h_3] at hres
        refine lv_aload_n hx hb d_M_file_17 rfl (lv_at hl 0 rfl) ?_
        refine ml_get (D := (dC, dI)) hx hb hts in_MC hown hK hP (0) (by decide) (mc_mod kc a mo) rfl 1 (by decide) (hts _ (mC _ wd_342)) (fun _ h9 => h9) (v := .ref (a 1)) rfl d_M_file_18 ?_
        refine lv_bipush (v := 16) hx hb d_M_file_21 (by decide) ?_
        refine lv_iload_n hx hb d_M_file_23 rfl (lv_at hl 1 rfl) ?_
        refine lv_imul hx hb d_M_file_24 ?_
        refine lv_iload_n hx hb d_M_file_25 rfl (lv_at hl 2 rfl) ?_
        refine lv_iadd hx hb d_M_file_26 ?_
        refine ml_iald hx hb hK hP (1) 0 (by decide) (mc_names kc a mo) rfl (md_in (by assumption) (by assumption) (by assumption)) d_M_file_27 ?_
        refine lv_iconst (v := 1) hx hb d_M_file_28 (by decide) ?_
        refine lv_isub hx hb d_M_file_29 ?_
        refine lv_goto (tgt := 34) hx hb d_M_file_30 (by decide) ?_
        subst hres
        exact ml_iret hx hb hr hlocks hP hK hD hS d_M_file_34
def lp_M_named (mo : MK) (f : Int32) : Nat → Nat → Int32 → Int32
  | 0, _, _ => 0
  | n + 1, j, cn =>
    (if (240 : Int32) ≤ (nI j) then cn else (if mo 5 (nI j).toNatClampNeg = f + (1 : Int32) then (lp_M_named mo f n (j + 1) (cn + (1 : Int32))) else (lp_M_named mo f n (j + 1) (cn + (0 : Int32)))))
def sp_M_named (mo : MK) (f : Int32) : Int32 :=
  (lp_M_named mo f (240 + 1) 0 (0 : Int32))
abbrev rm_M_named : Room := { frames := 0, cells := 0, slots := 0, locals := 0 }
set_option maxHeartbeats 4000000 in
set_option maxRecDepth 100000 in
theorem c_M_named (l : Launch) (dC : Nat → ClassId) (dI : Nat → Nat → Nat) (kc : Nat → ClassId) (a : Nat → Nat) (sz : Nat) (mo : MK) (f : Int32) (R' : Int32) (hres : sp_M_named mo f = R') : Met l y_M_named ws_M_named rm_M_named (va_Pc [.ref (a 0), .int f] (ml_B (dC, dI) vwCl (tysD kc) 11 a (mcell kc a mo) sz)) (va_Qi (fun r (_ : Unit) => r = R') (fun _ t => ml_E (dC, dI) vwCl (tysD kc) 11 a (mcell kc a mo) (va_A (ml 11 a (mcell kc a mo)) sz) t) (va_A (ml 11 a (mcell kc a mo)) sz)) 0 0 (va_A (ml 11 a (mcell kc a mo)) sz) := by
  refine Met.ofW (cc := prog_7_method_5_code) (maxL := 4) (ret := (some .int)) (by decide) rfl ?_
  intro p e s m args below meth c s₁ B hml hv
  obtain ⟨rfl, hsz, hP, hK, hD0⟩ := hv
  have hx := B.exec
  have hb := B.bytes
  have hr := B.returns
  have hts := atoms_spec (ws := ws_M_named) B.pre
  have hown : s.vm.findClass "HandleDeskModel" = some m.cls := findClass_of_methodNamed B.named
  have hlocks := B.notSynchronized
  subst hsz
  have hD := hD0.self (sz := s.heap.size)
  generalize hAe : va_A (ml 11 a (mcell kc a mo)) s.heap.size = A at hD ⊢
  have hA : ∀ q : Nat, s.heap.size ≤ q → A q := fun q h => by rw [← hAe]; exact Or.inr h
  have hS : va_S A s.heap s.heap [] := va_S.rf
  have loop : ∀ (n j : Nat) (cn : Int32) (H : Heap) (locs : List Loc) (ls : Array Slot), j ≤ 240 → j + n = 240 + 1 → lp_M_named mo f n j cn = R' → va_P (dC, dI) vwCl (ml 11 a (mcell kc a mo)) H → va_D A (ml 11 a (mcell kc a mo)) → va_S A s.heap H locs → lv_has ls 4 [(0, .ref (a 0)), (1, .int f), (2, .int cn), (3, .int (nI j))] → W p l e rm_M_named s m ([.ref (a 0), .int f] : List Value).toArray below meth c H locs 0 0 (MQ below (va_Qi (fun r (_ : Unit) => r = R') (fun _ t => ml_E (dC, dI) vwCl (tysD kc) 11 a (mcell kc a mo) A t) A) ([.ref (a 0), .int f] : List Value).toArray s 0 0 A) (F0 m 4 ls []) := by
    intro n
    induction n with
    | zero =>
      intro j cn H locs ls hj hn
      exact absurd hn (by omega)
    | succ n ih =>
      intro j cn H locs ls hj hn  hres hP hD hS hl
      rw [lp_M_named] at hres
      refine lv_iload_n hx hb d_M_named_4 rfl (lv_at hl 3 rfl) ?_
      refine lv_sipush (v := 240) hx hb d_M_named_5 (by decide) ?_
      refine lv_icmp_ge (tgt := 37) hx hb d_M_named_8 (by decide) (fun h_1 => ?_) (fun h_1 => ?_)
      · rw [if_pos h_1] at hres
        refine lv_iload_n hx hb d_M_named_37 rfl (lv_at hl 2 rfl) ?_
        subst hres
        exact ml_iret hx hb hr hlocks hP hK hD hS d_M_named_38
      · rw [if_neg h_1] at hres
        refine lv_iload_n hx hb d_M_named_11 rfl (lv_at hl 2 rfl) ?_
        refine lv_aload_n hx hb d_M_named_12 rfl (lv_at hl 0 rfl) ?_
        refine ml_get (D := (dC, dI)) hx hb hts in_MC hown hK hP (0) (by decide) (mc_mod kc a mo) rfl 1 (by decide) (hts _ (mC _ wd_342)) (fun _ h9 => h9) (v := .ref (a 1)) rfl d_M_named_13 ?_
        refine lv_iload_n hx hb d_M_named_16 rfl (lv_at hl 3 rfl) ?_
        refine ml_iald hx hb hK hP (1) 0 (by decide) (mc_names kc a mo) rfl (lp_in (b := (240 : Int32)) (B := 240) rfl (by decide) hj (by assumption)) d_M_named_17 ?_
        refine lv_iload_n hx hb d_M_named_18 rfl (lv_at hl 1 rfl) ?_
        refine lv_iconst (v := 1) hx hb d_M_named_19 (by decide) ?_
        refine lv_iadd hx hb d_M_named_20 ?_
        refine lv_icmp_ne (tgt := 28) hx hb d_M_named_21 (by decide) (fun h_2 => ?_) (fun h_2 => ?_)
        · rw [if_neg h_2] at hres
          refine lv_iconst (v := 0) hx hb d_M_named_28 (by decide) ?_
          refine lv_iadd hx hb d_M_named_29 ?_
          refine lv_istore_n (lv' := [(2, .int (cn + (0 : Int32))), (0, .ref (a 0)), (1, .int f), (3, .int (nI j))]) hx hb d_M_named_30 rfl hl (by decide) rfl (fun ls hl => ?_)
          refine lv_iinc (v := nI (j + 1)) (lv' := [(3, .int (nI (j + 1))), (2, .int (cn + (0 : Int32))), (0, .ref (a 0)), (1, .int f)]) hx hb d_M_named_31 hl (k := 3) rfl (nI_1 j) (by decide) rfl (fun ls hl => ?_)
          refine lv_goto (tgt := 4) hx hb d_M_named_34 (by decide) ?_
          exact ih (j + 1) (cn + (0 : Int32)) _ _ ls (lp_adv (b := (240 : Int32)) (B := 240) rfl (by decide) hj (by assumption)) (by omega) hres hP hD hS (lv_sub hl [2, 3, 1, 0] rfl)
        · rw [if_pos h_2] at hres
          refine lv_iconst (v := 1) hx hb d_M_named_24 (by decide) ?_
          refine lv_goto (tgt := 29) hx hb d_M_named_25 (by decide) ?_
          refine lv_iadd hx hb d_M_named_29 ?_
          refine lv_istore_n (lv' := [(2, .int (cn + (1 : Int32))), (0, .ref (a 0)), (1, .int f), (3, .int (nI j))]) hx hb d_M_named_30 rfl hl (by decide) rfl (fun ls hl => ?_)
          refine lv_iinc (v := nI (j + 1)) (lv' := [(3, .int (nI (j + 1))), (2, .int (cn + (1 : Int32))), (0, .ref (a 0)), (1, .int f)]) hx hb d_M_named_31 hl (k := 3) rfl (nI_1 j) (by decide) rfl (fun ls hl => ?_)
          refine lv_goto (tgt := 4) hx hb d_M_named_34 (by decide) ?_
          exact ih (j + 1) (cn + (1 : Int32)) _ _ ls (lp_adv (b := (240 : Int32)) (B := 240) rfl (by decide) hj (by assumption)) (by omega) hres hP hD hS (lv_sub hl [2, 3, 1, 0] rfl)
  have hl := lv_entry ([.ref (a 0), .int f]) (n := 4) (Nat.le_of_ble_eq_true rfl)
  rw [lg_entry_eq]
  generalize (lg_sl ([.ref (a 0), .int f]) ++ List.replicate (4 - (lg_sl ([.ref (a 0), .int f])).length) Slot.unset).toArray = ls at hl ⊢
  have hl : lv_has ls 4 [(0, .ref (a 0)), (1, .int f)] := hl
  rw [sp_M_named] at hres
  refine lv_iconst (v := 0) hx hb d_M_named_0 (by decide) ?_
  refine lv_istore_n (lv' := [(2, .int (0 : Int32)), (0, .ref (a 0)), (1, .int f)]) hx hb d_M_named_1 rfl hl (by decide) rfl (fun ls hl => ?_)
  refine lv_iconst (v := 0) hx hb d_M_named_2 (by decide) ?_
  refine lv_istore_n (lv' := [(3, .int (0 : Int32)), (2, .int (0 : Int32)), (0, .ref (a 0)), (1, .int f)]) hx hb d_M_named_3 rfl hl (by decide) rfl (fun ls hl => ?_)
  exact loop _ 0 (0 : Int32) _ _ ls (Nat.zero_le _) (by omega) hres hP hD hS (lv_sub hl [2, 3, 1, 0] rfl)
def lp_M_files (mo : MK)  : Nat → Nat → Int32 → Int32
  | 0, _, _ => 0
  | n + 1, j, cn =>
    (if (32 : Int32) ≤ (nI j) then cn else (if (sp_M_named mo (nI j)) ≤ (0 : Int32) then (lp_M_files mo n (j + 1) (cn + (0 : Int32))) else (lp_M_files mo n (j + 1) (cn + (1 : Int32)))))
def sp_M_files (mo : MK)  : Int32 :=
  (lp_M_files mo (32 + 1) 0 (0 : Int32))
abbrev rm_M_files : Room := { frames := 1, cells := 0, slots := 0, locals := 23 }
set_option maxHeartbeats 4000000 in
set_option maxRecDepth 100000 in
theorem c_M_files (l : Launch) (dC : Nat → ClassId) (dI : Nat → Nat → Nat) (kc : Nat → ClassId) (a : Nat → Nat) (sz : Nat) (mo : MK) (R' : Int32) (hres : sp_M_files mo = R') : Met l y_M_files ws_M_files rm_M_files (va_Pc [.ref (a 0)] (ml_B (dC, dI) vwCl (tysD kc) 11 a (mcell kc a mo) sz)) (va_Qi (fun r (_ : Unit) => r = R') (fun _ t => ml_E (dC, dI) vwCl (tysD kc) 11 a (mcell kc a mo) (va_A (ml 11 a (mcell kc a mo)) sz) t) (va_A (ml 11 a (mcell kc a mo)) sz)) 0 0 (va_A (ml 11 a (mcell kc a mo)) sz) := by
  refine Met.ofW (cc := prog_7_method_6_code) (maxL := 3) (ret := (some .int)) (by decide) rfl ?_
  intro p e s m args below meth c s₁ B hml hv
  obtain ⟨rfl, hsz, hP, hK, hD0⟩ := hv
  have hx := B.exec
  have hb := B.bytes
  have hr := B.returns
  have hts := atoms_spec (ws := ws_M_files) B.pre
  have hown : s.vm.findClass "HandleDeskModel" = some m.cls := findClass_of_methodNamed B.named
  have hlocks := B.notSynchronized
  subst hsz
  have hD := hD0.self (sz := s.heap.size)
  generalize hAe : va_A (ml 11 a (mcell kc a mo)) s.heap.size = A at hD ⊢
  have hA : ∀ q : Nat, s.heap.size ≤ q → A q := fun q h => by rw [← hAe]; exact Or.inr h
  have hS : va_S A s.heap s.heap [] := va_S.rf
  have loop : ∀ (n j : Nat) (cn : Int32) (H : Heap) (locs : List Loc) (ls : Array Slot), j ≤ 32 → j + n = 32 + 1 → lp_M_files mo n j cn = R' → va_P (dC, dI) vwCl (ml 11 a (mcell kc a mo)) H → va_D A (ml 11 a (mcell kc a mo)) → va_S A s.heap H locs → lv_has ls 3 [(0, .ref (a 0)), (1, .int cn), (2, .int (nI j))] → W p l e rm_M_files s m ([.ref (a 0)] : List Value).toArray below meth c H locs 0 0 (MQ below (va_Qi (fun r (_ : Unit) => r = R') (fun _ t => ml_E (dC, dI) vwCl (tysD kc) 11 a (mcell kc a mo) A t) A) ([.ref (a 0)] : List Value).toArray s 0 0 A) (F0 m 4 ls []) := by
    intro n
    induction n with
    | zero =>
      intro j cn H locs ls hj hn
      exact absurd hn (by omega)
    | succ n ih =>
      intro j cn H locs ls hj hn  hres hP hD hS hl
      rw [lp_M_files] at hres
      refine lv_iload_n hx hb d_M_files_4 rfl (lv_at hl 2 rfl) ?_
      refine lv_bipush (v := 32) hx hb d_M_files_5 (by decide) ?_
      refine lv_icmp_ge (tgt := 32) hx hb d_M_files_7 (by decide) (fun h_1 => ?_) (fun h_1 => ?_)
      · rw [if_pos h_1] at hres
        refine lv_iload_n hx hb d_M_files_32 rfl (lv_at hl 1 rfl) ?_
        subst hres
        exact ml_iret hx hb hr hlocks hP hK hD hS d_M_files_33
      · rw [if_neg h_1] at hres
        refine lv_iload_n hx hb d_M_files_10 rfl (lv_at hl 1 rfl) ?_
        refine lv_aload_n hx hb d_M_files_11 rfl (lv_at hl 0 rfl) ?_
        refine lv_iload_n hx hb d_M_files_12 rfl (lv_at hl 2 rfl) ?_
        refine ml_calli (va_runV (As := [.int (nI j)]) (rest := [.int cn]) ⟨hx, hb, hml, hown, hts⟩ (c_M_named l dC dI kc a _ mo (nI j) _ rfl) (cwV 1 hts (gd_V mC wd_402 wd_404 ws_11 wd_6 wd_405) rfl rfl rfl hd_M_named ⟨Nat.le_of_ble_eq_true rfl, Nat.le_of_ble_eq_true rfl⟩) ⟨ml_blind, va_recv hK hP (ci := 5) rfl (ml_at (by decide) (mc_mod kc a mo)), ml_pre hP hK hD⟩ rfl rfl hl.1 rfl (lv_room (Nat.le_of_ble_eq_true rfl)) d_M_files_13 ⟨Nat.zero_le _, Nat.zero_le _⟩) hD hS hA (fun H locs hP hD hS => ?_)
        refine lv_if_le (tgt := 23) hx hb d_M_files_16 (by decide) (fun h_2 => ?_) (fun h_2 => ?_)
        · rw [if_pos h_2] at hres
          refine lv_iconst (v := 0) hx hb d_M_files_23 (by decide) ?_
          refine lv_iadd hx hb d_M_files_24 ?_
          refine lv_istore_n (lv' := [(1, .int (cn + (0 : Int32))), (0, .ref (a 0)), (2, .int (nI j))]) hx hb d_M_files_25 rfl hl (by decide) rfl (fun ls hl => ?_)
          refine lv_iinc (v := nI (j + 1)) (lv' := [(2, .int (nI (j + 1))), (1, .int (cn + (0 : Int32))), (0, .ref (a 0))]) hx hb d_M_files_26 hl (k := 2) rfl (nI_1 j) (by decide) rfl (fun ls hl => ?_)
          refine lv_goto (tgt := 4) hx hb d_M_files_29 (by decide) ?_
          exact ih (j + 1) (cn + (0 : Int32)) _ _ ls (lp_adv (b := (32 : Int32)) (B := 32) rfl (by decide) hj (by assumption)) (by omega) hres hP hD hS (lv_sub hl [2, 1, 0] rfl)
        · rw [if_neg h_2] at hres
          refine lv_iconst (v := 1) hx hb d_M_files_19 (by decide) ?_
          refine lv_goto (tgt := 24) hx hb d_M_files_20 (by decide) ?_
          refine lv_iadd hx hb d_M_files_24 ?_
          refine lv_istore_n (lv' := [(1, .int (cn + (1 : Int32))), (0, .ref (a 0)), (2, .int (nI j))]) hx hb d_M_files_25 rfl hl (by decide) rfl (fun ls hl => ?_)
          refine lv_iinc (v := nI (j + 1)) (lv' := [(2, .int (nI (j + 1))), (1, .int (cn + (1 : Int32))), (0, .ref (a 0))]) hx hb d_M_files_26 hl (k := 2) rfl (nI_1 j) (by decide) rfl (fun ls hl => ?_)
          refine lv_goto (tgt := 4) hx hb d_M_files_29 (by decide) ?_
          exact ih (j + 1) (cn + (1 : Int32)) _ _ ls (lp_adv (b := (32 : Int32)) (B := 32) rfl (by decide) hj (by assumption)) (by omega) hres hP hD hS (lv_sub hl [2, 1, 0] rfl)
  have hl := lv_entry ([.ref (a 0)]) (n := 3) (Nat.le_of_ble_eq_true rfl)
  rw [lg_entry_eq]
  generalize (lg_sl ([.ref (a 0)]) ++ List.replicate (3 - (lg_sl ([.ref (a 0)])).length) Slot.unset).toArray = ls at hl ⊢
  have hl : lv_has ls 3 [(0, .ref (a 0))] := hl
  rw [sp_M_files] at hres
  refine lv_iconst (v := 0) hx hb d_M_files_0 (by decide) ?_
  refine lv_istore_n (lv' := [(1, .int (0 : Int32)), (0, .ref (a 0))]) hx hb d_M_files_1 rfl hl (by decide) rfl (fun ls hl => ?_)
  refine lv_iconst (v := 0) hx hb d_M_files_2 (by decide) ?_
  refine lv_istore_n (lv' := [(2, .int (0 : Int32)), (1, .int (0 : Int32)), (0, .ref (a 0))]) hx hb d_M_files_3 rfl hl (by decide) rfl (fun ls hl => ?_)
  exact loop _ 0 (0 : Int32) _ _ ls (Nat.zero_le _) (by omega) hres hP hD hS (lv_sub hl [2, 1, 0] rfl)
def lp_M_freeFile (mo : MK)  : Nat → Nat → Int32
  | 0, _ => 0
  | n + 1, j =>
    (if (32 : Int32) ≤ (nI j) then (nI j) else (if (sp_M_named mo (nI j)) ≤ (0 : Int32) then (nI j) else (lp_M_freeFile mo n (j + 1))))
def sp_M_freeFile (mo : MK)  : Int32 :=
  (lp_M_freeFile mo (32 + 1) 0)
abbrev rm_M_freeFile : Room := { frames := 1, cells := 0, slots := 0, locals := 23 }
set_option maxHeartbeats 4000000 in
set_option maxRecDepth 100000 in
theorem c_M_freeFile (l : Launch) (dC : Nat → ClassId) (dI : Nat → Nat → Nat) (kc : Nat → ClassId) (a : Nat → Nat) (sz : Nat) (mo : MK) (R' : Int32) (hres : sp_M_freeFile mo = R') : Met l y_M_freeFile ws_M_freeFile rm_M_freeFile (va_Pc [.ref (a 0)] (ml_B (dC, dI) vwCl (tysD kc) 11 a (mcell kc a mo) sz)) (va_Qi (fun r (_ : Unit) => r = R') (fun _ t => ml_E (dC, dI) vwCl (tysD kc) 11 a (mcell kc a mo) (va_A (ml 11 a (mcell kc a mo)) sz) t) (va_A (ml 11 a (mcell kc a mo)) sz)) 0 0 (va_A (ml 11 a (mcell kc a mo)) sz) := by
  refine Met.ofW (cc := prog_7_method_7_code) (maxL := 2) (ret := (some .int)) (by decide) rfl ?_
  intro p e s m args below meth c s₁ B hml hv
  obtain ⟨rfl, hsz, hP, hK, hD0⟩ := hv
  have hx := B.exec
  have hb := B.bytes
  have hr := B.returns
  have hts := atoms_spec (ws := ws_M_freeFile) B.pre
  have hown : s.vm.findClass "HandleDeskModel" = some m.cls := findClass_of_methodNamed B.named
  have hlocks := B.notSynchronized
  subst hsz
  have hD := hD0.self (sz := s.heap.size)
  generalize hAe : va_A (ml 11 a (mcell kc a mo)) s.heap.size = A at hD ⊢
  have hA : ∀ q : Nat, s.heap.size ≤ q → A q := fun q h => by rw [← hAe]; exact Or.inr h
  have hS : va_S A s.heap s.heap [] := va_S.rf
  have loop : ∀ (n j : Nat) (H : Heap) (locs : List Loc) (ls : Array Slot), j ≤ 32 → j + n = 32 + 1 → lp_M_freeFile mo n j = R' → va_P (dC, dI) vwCl (ml 11 a (mcell kc a mo)) H → va_D A (ml 11 a (mcell kc a mo)) → va_S A s.heap H locs → lv_has ls 2 [(0, .ref (a 0)), (1, .int (nI j))] → W p l e rm_M_freeFile s m ([.ref (a 0)] : List Value).toArray below meth c H locs 0 0 (MQ below (va_Qi (fun r (_ : Unit) => r = R') (fun _ t => ml_E (dC, dI) vwCl (tysD kc) 11 a (mcell kc a mo) A t) A) ([.ref (a 0)] : List Value).toArray s 0 0 A) (F0 m 2 ls []) := by
    intro n
    induction n with
    | zero =>
      intro j H locs ls hj hn
      exact absurd hn (by omega)
    | succ n ih =>
      intro j H locs ls hj hn  hres hP hD hS hl
      rw [lp_M_freeFile] at hres
      refine lv_iload_n hx hb d_M_freeFile_2 rfl (lv_at hl 1 rfl) ?_
      refine lv_bipush (v := 32) hx hb d_M_freeFile_3 (by decide) ?_
      refine lv_icmp_ge (tgt := 22) hx hb d_M_freeFile_5 (by decide) (fun h_1 => ?_) (fun h_1 => ?_)
      · rw [if_pos h_1] at hres
        refine lv_iload_n hx hb d_M_freeFile_22 rfl (lv_at hl 1 rfl) ?_
        subst hres
        exact ml_iret hx hb hr hlocks hP hK hD hS d_M_freeFile_23
      · rw [if_neg h_1] at hres
        refine lv_aload_n hx hb d_M_freeFile_8 rfl (lv_at hl 0 rfl) ?_
        refine lv_iload_n hx hb d_M_freeFile_9 rfl (lv_at hl 1 rfl) ?_
        refine ml_calli (va_runV (As := [.int (nI j)]) (rest := []) ⟨hx, hb, hml, hown, hts⟩ (c_M_named l dC dI kc a _ mo (nI j) _ rfl) (cwV 1 hts (gd_V mC wd_402 wd_404 ws_11 wd_6 wd_405) rfl rfl rfl hd_M_named ⟨Nat.le_of_ble_eq_true rfl, Nat.le_of_ble_eq_true rfl⟩) ⟨ml_blind, va_recv hK hP (ci := 5) rfl (ml_at (by decide) (mc_mod kc a mo)), ml_pre hP hK hD⟩ rfl rfl hl.1 rfl (lv_room (Nat.le_of_ble_eq_true rfl)) d_M_freeFile_10 ⟨Nat.zero_le _, Nat.zero_le _⟩) hD hS hA (fun H locs hP hD hS => ?_)
        refine lv_if_le (tgt := 22) hx hb d_M_freeFile_13 (by decide) (fun h_2 => ?_) (fun h_2 => ?_)
        · rw [if_pos h_2] at hres
          refine lv_iload_n hx hb d_M_freeFile_22 rfl (lv_at hl 1 rfl) ?_
          subst hres
          exact ml_iret hx hb hr hlocks hP hK hD hS d_M_freeFile_23
        · rw [if_neg h_2] at hres
          refine lv_iinc (v := nI (j + 1)) (lv' := [(1, .int (nI (j + 1))), (0, .ref (a 0))]) hx hb d_M_freeFile_16 hl (k := 1) rfl (nI_1 j) (by decide) rfl (fun ls hl => ?_)
          refine lv_goto (tgt := 2) hx hb d_M_freeFile_19 (by decide) ?_
          exact ih (j + 1) _ _ ls (lp_adv (b := (32 : Int32)) (B := 32) rfl (by decide) hj (by assumption)) (by omega) hres hP hD hS (lv_sub hl [1, 0] rfl)
  have hl := lv_entry ([.ref (a 0)]) (n := 2) (Nat.le_of_ble_eq_true rfl)
  rw [lg_entry_eq]
  generalize (lg_sl ([.ref (a 0)]) ++ List.replicate (2 - (lg_sl ([.ref (a 0)])).length) Slot.unset).toArray = ls at hl ⊢
  have hl : lv_has ls 2 [(0, .ref (a 0))] := hl
  rw [sp_M_freeFile] at hres
  refine lv_iconst (v := 0) hx hb d_M_freeFile_0 (by decide) ?_
  refine lv_istore_n (lv' := [(1, .int (0 : Int32)), (0, .ref (a 0))]) hx hb d_M_freeFile_1 rfl hl (by decide) rfl (fun ls hl => ?_)
  exact loop _ 0 _ _ ls (Nat.zero_le _) (by omega) hres hP hD hS (lv_sub hl [1, 0] rfl)
def lp_M_vacant (mo : MK) (pr : Int32) : Nat → Nat → Int32
  | 0, _ => 0
  | n + 1, j =>
    (if (16 : Int32) ≤ (nI j) then (nI j) else (if (mo 5 (((16 : Int32) * pr) + (nI j)).toNatClampNeg) ≤ (0 : Int32) then (nI j) else (lp_M_vacant mo pr n (j + 1))))
def sp_M_vacant (mo : MK) (pr : Int32) : Int32 :=
  (lp_M_vacant mo pr (16 + 1) 0)
abbrev rm_M_vacant : Room := { frames := 0, cells := 0, slots := 0, locals := 0 }
set_option maxHeartbeats 4000000 in
set_option maxRecDepth 100000 in
theorem c_M_vacant (l : Launch) (dC : Nat → ClassId) (dI : Nat → Nat → Nat) (kc : Nat → ClassId) (a : Nat → Nat) (sz : Nat) (mo : MK) (pr : Int32) (hp : ¬ sp_M_isPlace pr = 0) (R' : Int32) (hres : sp_M_vacant mo pr = R') : Met l y_M_vacant ws_M_vacant rm_M_vacant (va_Pc [.ref (a 0), .int pr] (ml_B (dC, dI) vwCl (tysD kc) 11 a (mcell kc a mo) sz)) (va_Qi (fun r (_ : Unit) => r = R') (fun _ t => ml_E (dC, dI) vwCl (tysD kc) 11 a (mcell kc a mo) (va_A (ml 11 a (mcell kc a mo)) sz) t) (va_A (ml 11 a (mcell kc a mo)) sz)) 0 0 (va_A (ml 11 a (mcell kc a mo)) sz) := by
  refine Met.ofW (cc := prog_7_method_8_code) (maxL := 3) (ret := (some .int)) (by decide) rfl ?_
  intro p e s m args below meth c s₁ B hml hv
  obtain ⟨rfl, hsz, hP, hK, hD0⟩ := hv
  have hx := B.exec
  have hb := B.bytes
  have hr := B.returns
  have hts := atoms_spec (ws := ws_M_vacant) B.pre
  have hown : s.vm.findClass "HandleDeskModel" = some m.cls := findClass_of_methodNamed B.named
  have hlocks := B.notSynchronized
  subst hsz
  have hD := hD0.self (sz := s.heap.size)
  generalize hAe : va_A (ml 11 a (mcell kc a mo)) s.heap.size = A at hD ⊢
  have hA : ∀ q : Nat, s.heap.size ≤ q → A q := fun q h => by rw [← hAe]; exact Or.inr h
  have hS : va_S A s.heap s.heap [] := va_S.rf
  have loop : ∀ (n j : Nat) (H : Heap) (locs : List Loc) (ls : Array Slot), j ≤ 16 → j + n = 16 + 1 → lp_M_vacant mo pr n j = R' → va_P (dC, dI) vwCl (ml 11 a (mcell kc a mo)) H → va_D A (ml 11 a (mcell kc a mo)) → va_S A s.heap H locs → lv_has ls 3 [(0, .ref (a 0)), (1, .int pr), (2, .int (nI j))] → W p l e rm_M_vacant s m ([.ref (a 0), .int pr] : List Value).toArray below meth c H locs 0 0 (MQ below (va_Qi (fun r (_ : Unit) => r = R') (fun _ t => ml_E (dC, dI) vwCl (tysD kc) 11 a (mcell kc a mo) A t) A) ([.ref (a 0), .int pr] : List Value).toArray s 0 0 A) (F0 m 2 ls []) := by
    intro n
    induction n with
    | zero =>
      intro j H locs ls hj hn
      exact absurd hn (by omega)
    | succ n ih =>
      intro j H locs ls hj hn  hres hP hD hS hl
      rw [lp_M_vacant] at hres
      refine lv_iload_n hx hb d_M_vacant_2 rfl (lv_at hl 2 rfl) ?_
      refine lv_bipush (v := 16) hx hb d_M_vacant_3 (by decide) ?_
      refine lv_icmp_ge (tgt := 28) hx hb d_M_vacant_5 (by decide) (fun h_1 => ?_) (fun h_1 => ?_)
      · rw [if_pos h_1] at hres
        refine lv_iload_n hx hb d_M_vacant_28 rfl (lv_at hl 2 rfl) ?_
        subst hres
        exact ml_iret hx hb hr hlocks hP hK hD hS d_M_vacant_29
      · rw [if_neg h_1] at hres
        refine lv_aload_n hx hb d_M_vacant_8 rfl (lv_at hl 0 rfl) ?_
        refine ml_get (D := (dC, dI)) hx hb hts in_MC hown hK hP (0) (by decide) (mc_mod kc a mo) rfl 1 (by decide) (hts _ (mC _ wd_342)) (fun _ h9 => h9) (v := .ref (a 1)) rfl d_M_vacant_9 ?_
        refine lv_bipush (v := 16) hx hb d_M_vacant_12 (by decide) ?_
        refine lv_iload_n hx hb d_M_vacant_14 rfl (lv_at hl 1 rfl) ?_
        refine lv_imul hx hb d_M_vacant_15 ?_
        refine lv_iload_n hx hb d_M_vacant_16 rfl (lv_at hl 2 rfl) ?_
        refine lv_iadd hx hb d_M_vacant_17 ?_
        refine ml_iald hx hb hK hP (1) 0 (by decide) (mc_names kc a mo) rfl (md_inj hp (lp_adv (b := (16 : Int32)) (B := 16) rfl (by decide) hj (by assumption))) d_M_vacant_18 ?_
        refine lv_if_le (tgt := 28) hx hb d_M_vacant_19 (by decide) (fun h_2 => ?_) (fun h_2 => ?_)
        · rw [if_pos h_2] at hres
          refine lv_iload_n hx hb d_M_vacant_28 rfl (lv_at hl 2 rfl) ?_
          subst hres
          exact ml_iret hx hb hr hlocks hP hK hD hS d_M_vacant_29
        · rw [if_neg h_2] at hres
          refine lv_iinc (v := nI (j + 1)) (lv' := [(2, .int (nI (j + 1))), (0, .ref (a 0)), (1, .int pr)]) hx hb d_M_vacant_22 hl (k := 2) rfl (nI_1 j) (by decide) rfl (fun ls hl => ?_)
          refine lv_goto (tgt := 2) hx hb d_M_vacant_25 (by decide) ?_
          exact ih (j + 1) _ _ ls (lp_adv (b := (16 : Int32)) (B := 16) rfl (by decide) hj (by assumption)) (by omega) hres hP hD hS (lv_sub hl [1, 2, 0] rfl)
  have hl := lv_entry ([.ref (a 0), .int pr]) (n := 3) (Nat.le_of_ble_eq_true rfl)
  rw [lg_entry_eq]
  generalize (lg_sl ([.ref (a 0), .int pr]) ++ List.replicate (3 - (lg_sl ([.ref (a 0), .int pr])).length) Slot.unset).toArray = ls at hl ⊢
  have hl : lv_has ls 3 [(0, .ref (a 0)), (1, .int pr)] := hl
  rw [sp_M_vacant] at hres
  refine lv_iconst (v := 0) hx hb d_M_vacant_0 (by decide) ?_
  refine lv_istore_n (lv' := [(2, .int (0 : Int32)), (0, .ref (a 0)), (1, .int pr)]) hx hb d_M_vacant_1 rfl hl (by decide) rfl (fun ls hl => ?_)
  exact loop _ 0 _ _ ls (Nat.zero_le _) (by omega) hres hP hD hS (lv_sub hl [1, 2, 0] rfl)
def lp_M_used (mo : MK) (pr : Int32) : Nat → Nat → Int32 → Int32
  | 0, _, _ => 0
  | n + 1, j, cn =>
    (if (16 : Int32) ≤ (nI j) then cn else (if (mo 5 (((16 : Int32) * pr) + (nI j)).toNatClampNeg) ≤ (0 : Int32) then (lp_M_used mo pr n (j + 1) (cn + (0 : Int32))) else (lp_M_used mo pr n (j + 1) (cn + (1 : Int32)))))
def sp_M_used (mo : MK) (pr : Int32) : Int32 :=
  (lp_M_used mo pr (16 + 1) 0 (0 : Int32))
abbrev rm_M_used : Room := { frames := 0, cells := 0, slots := 0, locals := 0 }
set_option maxHeartbeats 4000000 in
set_option maxRecDepth 100000 in
theorem c_M_used (l : Launch) (dC : Nat → ClassId) (dI : Nat → Nat → Nat) (kc : Nat → ClassId) (a : Nat → Nat) (sz : Nat) (mo : MK) (pr : Int32) (hp : ¬ sp_M_isPlace pr = 0) (R' : Int32) (hres : sp_M_used mo pr = R') : Met l y_M_used ws_M_used rm_M_used (va_Pc [.ref (a 0), .int pr] (ml_B (dC, dI) vwCl (tysD kc) 11 a (mcell kc a mo) sz)) (va_Qi (fun r (_ : Unit) => r = R') (fun _ t => ml_E (dC, dI) vwCl (tysD kc) 11 a (mcell kc a mo) (va_A (ml 11 a (mcell kc a mo)) sz) t) (va_A (ml 11 a (mcell kc a mo)) sz)) 0 0 (va_A (ml 11 a (mcell kc a mo)) sz) := by
  refine Met.ofW (cc := prog_7_method_9_code) (maxL := 4) (ret := (some .int)) (by decide) rfl ?_
  intro p e s m args below meth c s₁ B hml hv
  obtain ⟨rfl, hsz, hP, hK, hD0⟩ := hv
  have hx := B.exec
  have hb := B.bytes
  have hr := B.returns
  have hts := atoms_spec (ws := ws_M_used) B.pre
  have hown : s.vm.findClass "HandleDeskModel" = some m.cls := findClass_of_methodNamed B.named
  have hlocks := B.notSynchronized
  subst hsz
  have hD := hD0.self (sz := s.heap.size)
  generalize hAe : va_A (ml 11 a (mcell kc a mo)) s.heap.size = A at hD ⊢
  have hA : ∀ q : Nat, s.heap.size ≤ q → A q := fun q h => by rw [← hAe]; exact Or.inr h
  have hS : va_S A s.heap s.heap [] := va_S.rf
  have loop : ∀ (n j : Nat) (cn : Int32) (H : Heap) (locs : List Loc) (ls : Array Slot), j ≤ 16 → j + n = 16 + 1 → lp_M_used mo pr n j cn = R' → va_P (dC, dI) vwCl (ml 11 a (mcell kc a mo)) H → va_D A (ml 11 a (mcell kc a mo)) → va_S A s.heap H locs → lv_has ls 4 [(0, .ref (a 0)), (1, .int pr), (2, .int cn), (3, .int (nI j))] → W p l e rm_M_used s m ([.ref (a 0), .int pr] : List Value).toArray below meth c H locs 0 0 (MQ below (va_Qi (fun r (_ : Unit) => r = R') (fun _ t => ml_E (dC, dI) vwCl (tysD kc) 11 a (mcell kc a mo) A t) A) ([.ref (a 0), .int pr] : List Value).toArray s 0 0 A) (F0 m 4 ls []) := by
    intro n
    induction n with
    | zero =>
      intro j cn H locs ls hj hn
      exact absurd hn (by omega)
    | succ n ih =>
      intro j cn H locs ls hj hn  hres hP hD hS hl
      rw [lp_M_used] at hres
      refine lv_iload_n hx hb d_M_used_4 rfl (lv_at hl 3 rfl) ?_
      refine lv_bipush (v := 16) hx hb d_M_used_5 (by decide) ?_
      refine lv_icmp_ge (tgt := 38) hx hb d_M_used_7 (by decide) (fun h_1 => ?_) (fun h_1 => ?_)
      · rw [if_pos h_1] at hres
        refine lv_iload_n hx hb d_M_used_38 rfl (lv_at hl 2 rfl) ?_
        subst hres
        exact ml_iret hx hb hr hlocks hP hK hD hS d_M_used_39
      · rw [if_neg h_1] at hres
        refine lv_iload_n hx hb d_M_used_10 rfl (lv_at hl 2 rfl) ?_
        refine lv_aload_n hx hb d_M_used_11 rfl (lv_at hl 0 rfl) ?_
        refine ml_get (D := (dC, dI)) hx hb hts in_MC hown hK hP (0) (by decide) (mc_mod kc a mo) rfl 1 (by decide) (hts _ (mC _ wd_342)) (fun _ h9 => h9) (v := .ref (a 1)) rfl d_M_used_12 ?_
        refine lv_bipush (v := 16) hx hb d_M_used_15 (by decide) ?_
        refine lv_iload_n hx hb d_M_used_17 rfl (lv_at hl 1 rfl) ?_
        refine lv_imul hx hb d_M_used_18 ?_
        refine lv_iload_n hx hb d_M_used_19 rfl (lv_at hl 3 rfl) ?_
        refine lv_iadd hx hb d_M_used_20 ?_
        refine ml_iald hx hb hK hP (1) 0 (by decide) (mc_names kc a mo) rfl (md_inj hp (lp_adv (b := (16 : Int32)) (B := 16) rfl (by decide) hj (by assumption))) d_M_used_21 ?_
        refine lv_if_le (tgt := 29) hx hb d_M_used_22 (by decide) (fun h_2 => ?_) (fun h_2 => ?_)
        · rw [if_pos h_2] at hres
          refine lv_iconst (v := 0) hx hb d_M_used_29 (by decide) ?_
          refine lv_iadd hx hb d_M_used_30 ?_
          refine lv_istore_n (lv' := [(2, .int (cn + (0 : Int32))), (0, .ref (a 0)), (1, .int pr), (3, .int (nI j))]) hx hb d_M_used_31 rfl hl (by decide) rfl (fun ls hl => ?_)
          refine lv_iinc (v := nI (j + 1)) (lv' := [(3, .int (nI (j + 1))), (2, .int (cn + (0 : Int32))), (0, .ref (a 0)), (1, .int pr)]) hx hb d_M_used_32 hl (k := 3) rfl (nI_1 j) (by decide) rfl (fun ls hl => ?_)
          refine lv_goto (tgt := 4) hx hb d_M_used_35 (by decide) ?_
          exact ih (j + 1) (cn + (0 : Int32)) _ _ ls (lp_adv (b := (16 : Int32)) (B := 16) rfl (by decide) hj (by assumption)) (by omega) hres hP hD hS (lv_sub hl [2, 3, 1, 0] rfl)
        · rw [if_neg h_2] at hres
          refine lv_iconst (v := 1) hx hb d_M_used_25 (by decide) ?_
          refine lv_goto (tgt := 30) hx hb d_M_used_26 (by decide) ?_
          refine lv_iadd hx hb d_M_used_30 ?_
          refine lv_istore_n (lv' := [(2, .int (cn + (1 : Int32))), (0, .ref (a 0)), (1, .int pr), (3, .int (nI j))]) hx hb d_M_used_31 rfl hl (by decide) rfl (fun ls hl => ?_)
          refine lv_iinc (v := nI (j + 1)) (lv' := [(3, .int (nI (j + 1))), (2, .int (cn + (1 : Int32))), (0, .ref (a 0)), (1, .int pr)]) hx hb d_M_used_32 hl (k := 3) rfl (nI_1 j) (by decide) rfl (fun ls hl => ?_)
          refine lv_goto (tgt := 4) hx hb d_M_used_35 (by decide) ?_
          exact ih (j + 1) (cn + (1 : Int32)) _ _ ls (lp_adv (b := (16 : Int32)) (B := 16) rfl (by decide) hj (by assumption)) (by omega) hres hP hD hS (lv_sub hl [2, 3, 1, 0] rfl)
  have hl := lv_entry ([.ref (a 0), .int pr]) (n := 4) (Nat.le_of_ble_eq_true rfl)
  rw [lg_entry_eq]
  generalize (lg_sl ([.ref (a 0), .int pr]) ++ List.replicate (4 - (lg_sl ([.ref (a 0), .int pr])).length) Slot.unset).toArray = ls at hl ⊢
  have hl : lv_has ls 4 [(0, .ref (a 0)), (1, .int pr)] := hl
  rw [sp_M_used] at hres
  refine lv_iconst (v := 0) hx hb d_M_used_0 (by decide) ?_
  refine lv_istore_n (lv' := [(2, .int (0 : Int32)), (0, .ref (a 0)), (1, .int pr)]) hx hb d_M_used_1 rfl hl (by decide) rfl (fun ls hl => ?_)
  refine lv_iconst (v := 0) hx hb d_M_used_2 (by decide) ?_
  refine lv_istore_n (lv' := [(3, .int (0 : Int32)), (2, .int (0 : Int32)), (0, .ref (a 0)), (1, .int pr)]) hx hb d_M_used_3 rfl hl (by decide) rfl (fun ls hl => ?_)
  exact loop _ 0 (0 : Int32) _ _ ls (Nat.zero_le _) (by omega) hres hP hD hS (lv_sub hl [2, 3, 1, 0] rfl)
def lp_M_end (mo : MK) (kx : Int32) (sd : Int32) : Nat → Nat → Int32 → Int32
  | 0, _, _ => 0
  | n + 1, j, fo =>
    (if (32 : Int32) ≤ (nI j) then fo else (if mo 6 (nI j).toNatClampNeg = (1 : Int32) then (if mo 7 (nI j).toNatClampNeg = kx then (if mo 8 (nI j).toNatClampNeg = sd then (if (sp_M_named mo (nI j)) ≤ (0 : Int32) then (lp_M_end mo kx sd n (j + 1) fo) else (lp_M_end mo kx sd n (j + 1) (nI j))) else (lp_M_end mo kx sd n (j + 1) fo)) else (lp_M_end mo kx sd n (j + 1) fo)) else (lp_M_end mo kx sd n (j + 1) fo)))
def sp_M_end (mo : MK) (kx : Int32) (sd : Int32) : Int32 :=
  (lp_M_end mo kx sd (32 + 1) 0 (-1 : Int32))
abbrev rm_M_end : Room := { frames := 1, cells := 0, slots := 0, locals := 23 }
set_option maxHeartbeats 4000000 in
set_option maxRecDepth 100000 in
theorem c_M_end (l : Launch) (dC : Nat → ClassId) (dI : Nat → Nat → Nat) (kc : Nat → ClassId) (a : Nat → Nat) (sz : Nat) (mo : MK) (kx : Int32) (sd : Int32) (R' : Int32) (hres : sp_M_end mo kx sd = R') : Met l y_M_end ws_M_end rm_M_end (va_Pc [.ref (a 0), .int kx, .int sd] (ml_B (dC, dI) vwCl (tysD kc) 11 a (mcell kc a mo) sz)) (va_Qi (fun r (_ : Unit) => r = R') (fun _ t => ml_E (dC, dI) vwCl (tysD kc) 11 a (mcell kc a mo) (va_A (ml 11 a (mcell kc a mo)) sz) t) (va_A (ml 11 a (mcell kc a mo)) sz)) 0 0 (va_A (ml 11 a (mcell kc a mo)) sz) := by
  refine Met.ofW (cc := prog_7_method_10_code) (maxL := 5) (ret := (some .int)) (by decide) rfl ?_
  intro p e s m args below meth c s₁ B hml hv
  obtain ⟨rfl, hsz, hP, hK, hD0⟩ := hv
  have hx := B.exec
  have hb := B.bytes
  have hr := B.returns
  have hts := atoms_spec (ws := ws_M_end) B.pre
  have hown : s.vm.findClass "HandleDeskModel" = some m.cls := findClass_of_methodNamed B.named
  have hlocks := B.notSynchronized
  subst hsz
  have hD := hD0.self (sz := s.heap.size)
  generalize hAe : va_A (ml 11 a (mcell kc a mo)) s.heap.size = A at hD ⊢
  have hA : ∀ q : Nat, s.heap.size ≤ q → A q := fun q h => by rw [← hAe]; exact Or.inr h
  have hS : va_S A s.heap s.heap [] := va_S.rf
  have loop : ∀ (n j : Nat) (fo : Int32) (H : Heap) (locs : List Loc) (ls : Array Slot), j ≤ 32 → j + n = 32 + 1 → lp_M_end mo kx sd n j fo = R' → va_P (dC, dI) vwCl (ml 11 a (mcell kc a mo)) H → va_D A (ml 11 a (mcell kc a mo)) → va_S A s.heap H locs → lv_has ls 5 [(0, .ref (a 0)), (1, .int kx), (2, .int sd), (3, .int fo), (4, .int (nI j))] → W p l e rm_M_end s m ([.ref (a 0), .int kx, .int sd] : List Value).toArray below meth c H locs 0 0 (MQ below (va_Qi (fun r (_ : Unit) => r = R') (fun _ t => ml_E (dC, dI) vwCl (tysD kc) 11 a (mcell kc a mo) A t) A) ([.ref (a 0), .int kx, .int sd] : List Value).toArray s 0 0 A) (F0 m 5 ls []) := by
    intro n
    induction n with
    | zero =>
      intro j fo H locs ls hj hn
      exact absurd hn (by omega)
    | succ n ih =>
      intro j fo H locs ls hj hn  hres hP hD hS hl
      rw [lp_M_end] at hres
      refine lv_iload hx hb d_M_end_5 (lv_at hl 4 rfl) ?_
      refine lv_bipush (v := 32) hx hb d_M_end_7 (by decide) ?_
      refine lv_icmp_ge (tgt := 67) hx hb d_M_end_9 (by decide) (fun h_1 => ?_) (fun h_1 => ?_)
      · rw [if_pos h_1] at hres
        refine lv_iload_n hx hb d_M_end_67 rfl (lv_at hl 3 rfl) ?_
        subst hres
        exact ml_iret hx hb hr hlocks hP hK hD hS d_M_end_68
      · rw [if_neg h_1] at hres
        refine lv_aload_n hx hb d_M_end_12 rfl (lv_at hl 0 rfl) ?_
        refine ml_get (D := (dC, dI)) hx hb hts in_MC hown hK hP (0) (by decide) (mc_mod kc a mo) rfl 2 (by decide) (hts _ (mC _ wd_343)) (fun _ h9 => h9) (v := .ref (a 2)) rfl d_M_end_13 ?_
        refine lv_iload hx hb d_M_end_16 (lv_at hl 4 rfl) ?_
        refine ml_iald hx hb hK hP (2) 0 (by decide) (mc_kind kc a mo) rfl (lp_in (b := (32 : Int32)) (B := 32) rfl (by decide) hj (by assumption)) d_M_end_18 ?_
        refine lv_iconst (v := 1) hx hb d_M_end_19 (by decide) ?_
        refine lv_icmp_ne (tgt := 59) hx hb d_M_end_20 (by decide) (fun h_2 => ?_) (fun h_2 => ?_)
        · rw [if_neg h_2] at hres
          refine lv_iload_n hx hb d_M_end_59 rfl (lv_at hl 3 rfl) ?_
          refine lv_istore_n (lv' := [(3, .int fo), (0, .ref (a 0)), (1, .int kx), (2, .int sd), (4, .int (nI j))]) hx hb d_M_end_60 rfl hl (by decide) rfl (fun ls hl => ?_)
          refine lv_iinc (v := nI (j + 1)) (lv' := [(4, .int (nI (j + 1))), (3, .int fo), (0, .ref (a 0)), (1, .int kx), (2, .int sd)]) hx hb d_M_end_61 hl (k := 4) rfl (nI_1 j) (by decide) rfl (fun ls hl => ?_)
          refine lv_goto (tgt := 5) hx hb d_M_end_64 (by decide) ?_
          exact ih (j + 1) fo _ _ ls (lp_adv (b := (32 : Int32)) (B := 32) rfl (by decide) hj (by assumption)) (by omega) hres hP hD hS (lv_sub hl [2, 3, 4, 1, 0] rfl)
        · rw [if_pos h_2] at hres
          refine lv_aload_n hx hb d_M_end_23 rfl (lv_at hl 0 rfl) ?_
          refine ml_get (D := (dC, dI)) hx hb hts in_MC hown hK hP (0) (by decide) (mc_mod kc a mo) rfl 3 (by decide) (hts _ (mC _ wd_344)) (fun _ h9 => h9) (v := .ref (a 3)) rfl d_M_end_24 ?_
          refine lv_iload hx hb d_M_end_27 (lv_at hl 4 rfl) ?_
          refine ml_iald hx hb hK hP (3) 0 (by decide) (mc_what kc a mo) rfl (lp_in (b := (32 : Int32)) (B := 32) rfl (by decide) hj (by assumption)) d_M_end_29 ?_
          refine lv_iload_n hx hb d_M_end_30 rfl (lv_at hl 1 rfl) ?_
          refine lv_icmp_ne (tgt := 59) hx hb d_M_end_31 (by decide) (fun h_3 => ?_) (fun h_3 => ?_)
          · rw [if_neg h_3] at hres
            refine lv_iload_n hx hb d_M_end_59 rfl (lv_at hl 3 rfl) ?_
            refine lv_istore_n (lv' := [(3, .int fo), (0, .ref (a 0)), (1, .int kx), (2, .int sd), (4, .int (nI j))]) hx hb d_M_end_60 rfl hl (by decide) rfl (fun ls hl => ?_)
            refine lv_iinc (v := nI (j + 1)) (lv' := [(4, .int (nI (j + 1))), (3, .int fo), (0, .ref (a 0)), (1, .int kx), (2, .int sd)]) hx hb d_M_end_61 hl (k := 4) rfl (nI_1 j) (by decide) rfl (fun ls hl => ?_)
            refine lv_goto (tgt := 5) hx hb d_M_end_64 (by decide) ?_
            exact ih (j + 1) fo _ _ ls (lp_adv (b := (32 : Int32)) (B := 32) rfl (by decide) hj (by assumption)) (by omega) hres hP hD hS (lv_sub hl [2, 3, 4, 1, 0] rfl)
          · rw [if_pos h_3] at hres
            refine lv_aload_n hx hb d_M_end_34 rfl (lv_at hl 0 rfl) ?_
            refine ml_get (D := (dC, dI)) hx hb hts in_MC hown hK hP (0) (by decide) (mc_mod kc a mo) rfl 4 (by decide) (hts _ (mC _ wd_345)) (fun _ h9 => h9) (v := .ref (a 4)) rfl d_M_end_35 ?_
            refine lv_iload hx hb d_M_end_38 (lv_at hl 4 rfl) ?_
            refine ml_iald hx hb hK hP (4) 0 (by decide) (mc_how kc a mo) rfl (lp_in (b := (32 : Int32)) (B := 32) rfl (by decide) hj (by assumption)) d_M_end_40 ?_
            refine lv_iload_n hx hb d_M_end_41 rfl (lv_at hl 2 rfl) ?_
            refine lv_icmp_ne (tgt := 59) hx hb d_M_end_42 (by decide) (fun h_4 => ?_) (fun h_4 => ?_)
            · rw [if_neg h_4] at hres
              refine lv_iload_n hx hb d_M_end_59 rfl (lv_at hl 3 rfl) ?_
              refine lv_istore_n (lv' := [(3, .int fo), (0, .ref (a 0)), (1, .int kx), (2, .int sd), (4, .int (nI j))]) hx hb d_M_end_60 rfl hl (by decide) rfl (fun ls hl => ?_)
              refine lv_iinc (v := nI (j + 1)) (lv' := [(4, .int (nI (j + 1))), (3, .int fo), (0, .ref (a 0)), (1, .int kx), (2, .int sd)]) hx hb d_M_end_61 hl (k := 4) rfl (nI_1 j) (by decide) rfl (fun ls hl => ?_)
              refine lv_goto (tgt := 5) hx hb d_M_end_64 (by decide) ?_
              exact ih (j + 1) fo _ _ ls (lp_adv (b := (32 : Int32)) (B := 32) rfl (by decide) hj (by assumption)) (by omega) hres hP hD hS (lv_sub hl [2, 3, 4, 1, 0] rfl)
            · rw [if_pos h_4] at hres
              refine lv_aload_n hx hb d_M_end_45 rfl (lv_at hl 0 rfl) ?_
              refine lv_iload hx hb d_M_end_46 (lv_at hl 4 rfl) ?_
              refine ml_calli (va_runV (As := [.int (nI j)]) (rest := []) ⟨hx, hb, hml, hown, hts⟩ (c_M_named l dC dI kc a _ mo (nI j) _ rfl) (cwV 1 hts (gd_V mC wd_402 wd_404 ws_11 wd_6 wd_405) rfl rfl rfl hd_M_named ⟨Nat.le_of_ble_eq_true rfl, Nat.le_of_ble_eq_true rfl⟩) ⟨ml_blind, va_recv hK hP (ci := 5) rfl (ml_at (by decide) (mc_mod kc a mo)), ml_pre hP hK hD⟩ rfl rfl hl.1 rfl (lv_room (Nat.le_of_ble_eq_true rfl)) d_M_end_48 ⟨Nat.zero_le _, Nat.zero_le _⟩) hD hS hA (fun H locs hP hD hS => ?_)
              refine lv_if_le (tgt := 59) hx hb d_M_end_51 (by decide) (fun h_5 => ?_) (fun h_5 => ?_)
              · rw [if_pos h_5] at hres
                refine lv_iload_n hx hb d_M_end_59 rfl (lv_at hl 3 rfl) ?_
                refine lv_istore_n (lv' := [(3, .int fo), (0, .ref (a 0)), (1, .int kx), (2, .int sd), (4, .int (nI j))]) hx hb d_M_end_60 rfl hl (by decide) rfl (fun ls hl => ?_)
                refine lv_iinc (v := nI (j + 1)) (lv' := [(4, .int (nI (j + 1))), (3, .int fo), (0, .ref (a 0)), (1, .int kx), (2, .int sd)]) hx hb d_M_end_61 hl (k := 4) rfl (nI_1 j) (by decide) rfl (fun ls hl => ?_)
                refine lv_goto (tgt := 5) hx hb d_M_end_64 (by decide) ?_
                exact ih (j + 1) fo _ _ ls (lp_adv (b := (32 : Int32)) (B := 32) rfl (by decide) hj (by assumption)) (by omega) hres hP hD hS (lv_sub hl [2, 3, 4, 1, 0] rfl)
              · rw [if_neg h_5] at hres
                refine lv_iload hx hb d_M_end_54 (lv_at hl 4 rfl) ?_
                refine lv_goto (tgt := 60) hx hb d_M_end_56 (by decide) ?_
                refine lv_istore_n (lv' := [(3, .int (nI j)), (0, .ref (a 0)), (1, .int kx), (2, .int sd), (4, .int (nI j))]) hx hb d_M_end_60 rfl hl (by decide) rfl (fun ls hl => ?_)
                refine lv_iinc (v := nI (j + 1)) (lv' := [(4, .int (nI (j + 1))), (3, .int (nI j)), (0, .ref (a 0)), (1, .int kx), (2, .int sd)]) hx hb d_M_end_61 hl (k := 4) rfl (nI_1 j) (by decide) rfl (fun ls hl => ?_)
                refine lv_goto (tgt := 5) hx hb d_M_end_64 (by decide) ?_
                exact ih (j + 1) (nI j) _ _ ls (lp_adv (b := (32 : Int32)) (B := 32) rfl (by decide) hj (by assumption)) (by omega) hres hP hD hS (lv_sub hl [2, 3, 4, 1, 0] rfl)
  have hl := lv_entry ([.ref (a 0), .int kx, .int sd]) (n := 5) (Nat.le_of_ble_eq_true rfl)
  rw [lg_entry_eq]
  generalize (lg_sl ([.ref (a 0), .int kx, .int sd]) ++ List.replicate (5 - (lg_sl ([.ref (a 0), .int kx, .int sd])).length) Slot.unset).toArray = ls at hl ⊢
  have hl : lv_has ls 5 [(0, .ref (a 0)), (1, .int kx), (2, .int sd)] := hl
  rw [sp_M_end] at hres
  refine lv_iconst (v := -1) hx hb d_M_end_0 (by decide) ?_
  refine lv_istore_n (lv' := [(3, .int (-1 : Int32)), (0, .ref (a 0)), (1, .int kx), (2, .int sd)]) hx hb d_M_end_1 rfl hl (by decide) rfl (fun ls hl => ?_)
  refine lv_iconst (v := 0) hx hb d_M_end_2 (by decide) ?_
  refine lv_istore (lv' := [(4, .int (0 : Int32)), (3, .int (-1 : Int32)), (0, .ref (a 0)), (1, .int kx), (2, .int sd)]) hx hb d_M_end_3 hl (by decide) rfl (fun ls hl => ?_)
  exact loop _ 0 (-1 : Int32) _ _ ls (Nat.zero_le _) (by omega) hres hP hD hS (lv_sub hl [2, 3, 4, 1, 0] rfl)
def sp_M_isPipe (mo : MK) (kx : Int32) : Int32 :=
  (if (0 : Int32) ≤ (sp_M_end mo kx (1 : Int32)) then (1 : Int32) else (if (sp_M_end mo kx (2 : Int32)) < (0 : Int32) then (0 : Int32) else (1 : Int32)))
abbrev rm_M_isPipe : Room := { frames := 2, cells := 0, slots := 0, locals := 47 }
set_option maxHeartbeats 4000000 in
set_option maxRecDepth 100000 in
theorem c_M_isPipe (l : Launch) (dC : Nat → ClassId) (dI : Nat → Nat → Nat) (kc : Nat → ClassId) (a : Nat → Nat) (sz : Nat) (mo : MK) (kx : Int32) (R' : Int32) (hres : sp_M_isPipe mo kx = R') : Met l y_M_isPipe ws_M_isPipe rm_M_isPipe (va_Pc [.ref (a 0), .int kx] (ml_B (dC, dI) vwCl (tysD kc) 11 a (mcell kc a mo) sz)) (va_Qi (fun r (_ : Unit) => r = R') (fun _ t => ml_E (dC, dI) vwCl (tysD kc) 11 a (mcell kc a mo) (va_A (ml 11 a (mcell kc a mo)) sz) t) (va_A (ml 11 a (mcell kc a mo)) sz)) 0 0 (va_A (ml 11 a (mcell kc a mo)) sz) := by
  refine Met.ofW (cc := prog_7_method_11_code) (maxL := 2) (ret := (some .boolean)) (by decide) rfl ?_
  intro p e s m args below meth c s₁ B hml hv
  obtain ⟨rfl, hsz, hP, hK, hD0⟩ := hv
  have hx := B.exec
  have hb := B.bytes
  have hr := B.returns
  have hts := atoms_spec (ws := ws_M_isPipe) B.pre
  have hown : s.vm.findClass "HandleDeskModel" = some m.cls := findClass_of_methodNamed B.named
  have hlocks := B.notSynchronized
  subst hsz
  have hD := hD0.self (sz := s.heap.size)
  generalize hAe : va_A (ml 11 a (mcell kc a mo)) s.heap.size = A at hD ⊢
  have hA : ∀ q : Nat, s.heap.size ≤ q → A q := fun q h => by rw [← hAe]; exact Or.inr h
  have hS : va_S A s.heap s.heap [] := va_S.rf
  have hl := lv_entry ([.ref (a 0), .int kx]) (n := 2) (Nat.le_of_ble_eq_true rfl)
  rw [lg_entry_eq]
  generalize (lg_sl ([.ref (a 0), .int kx]) ++ List.replicate (2 - (lg_sl ([.ref (a 0), .int kx])).length) Slot.unset).toArray = ls at hl ⊢
  have hl : lv_has ls 2 [(0, .ref (a 0)), (1, .int kx)] := hl
  rw [sp_M_isPipe] at hres
  refine lv_aload_n hx hb d_M_isPipe_0 rfl (lv_at hl 0 rfl) ?_
  refine lv_iload_n hx hb d_M_isPipe_1 rfl (lv_at hl 1 rfl) ?_
  refine lv_iconst (v := 1) hx hb d_M_isPipe_2 (by decide) ?_
  refine ml_calli (va_runV (As := [.int kx, .int (1 : Int32)]) (rest := []) ⟨hx, hb, hml, hown, hts⟩ (c_M_end l dC dI kc a _ mo kx (1 : Int32) _ rfl) (cwV 2 hts (gd_V mC wd_422 wd_424 ws_15 wd_6 wd_425) rfl rfl rfl hd_M_end ⟨Nat.le_of_ble_eq_true rfl, Nat.le_of_ble_eq_true rfl⟩) ⟨ml_blind, va_recv hK hP (ci := 5) rfl (ml_at (by decide) (mc_mod kc a mo)), ml_pre hP hK hD⟩ rfl rfl hl.1 rfl (lv_room (Nat.le_of_ble_eq_true rfl)) d_M_isPipe_3 ⟨Nat.zero_le _, Nat.zero_le _⟩) hD hS hA (fun H locs hP hD hS => ?_)
  refine lv_if_ge (tgt := 18) hx hb d_M_isPipe_6 (by decide) (fun h_1 => ?_) (fun h_1 => ?_)
  · rw [if_pos h_1] at hres
    refine lv_iconst (v := 1) hx hb d_M_isPipe_18 (by decide) ?_
    refine lv_goto (tgt := 23) hx hb d_M_isPipe_19 (by decide) ?_
    subst hres
    exact ml_zret hx hb hr (by decide) hlocks hP hK hD hS d_M_isPipe_23
  · rw [if_neg h_1] at hres
    refine lv_aload_n hx hb d_M_isPipe_9 rfl (lv_at hl 0 rfl) ?_
    refine lv_iload_n hx hb d_M_isPipe_10 rfl (lv_at hl 1 rfl) ?_
    refine lv_iconst (v := 2) hx hb d_M_isPipe_11 (by decide) ?_
    refine ml_calli (va_runV (As := [.int kx, .int (2 : Int32)]) (rest := []) ⟨hx, hb, hml, hown, hts⟩ (c_M_end l dC dI kc a _ mo kx (2 : Int32) _ rfl) (cwV 2 hts (gd_V mC wd_422 wd_424 ws_15 wd_6 wd_425) rfl rfl rfl hd_M_end ⟨Nat.le_of_ble_eq_true rfl, Nat.le_of_ble_eq_true rfl⟩) ⟨ml_blind, va_recv hK hP (ci := 5) rfl (ml_at (by decide) (mc_mod kc a mo)), ml_pre hP hK hD⟩ rfl rfl hl.1 rfl (lv_room (Nat.le_of_ble_eq_true rfl)) d_M_isPipe_12 ⟨Nat.zero_le _, Nat.zero_le _⟩) hD hS hA (fun H locs hP hD hS => ?_)
    refine lv_if_lt (tgt := 22) hx hb d_M_isPipe_15 (by decide) (fun h_2 => ?_) (fun h_2 => ?_)
    · rw [if_pos h_2] at hres
      refine lv_iconst (v := 0) hx hb d_M_isPipe_22 (by decide) ?_
      subst hres
      exact ml_zret hx hb hr (by decide) hlocks hP hK hD hS d_M_isPipe_23
    · rw [if_neg h_2] at hres
      refine lv_iconst (v := 1) hx hb d_M_isPipe_18 (by decide) ?_
      refine lv_goto (tgt := 23) hx hb d_M_isPipe_19 (by decide) ?_
      subst hres
      exact ml_zret hx hb hr (by decide) hlocks hP hK hD hS d_M_isPipe_23
def sp_M_makes (mo : MK) (pr : Int32) (x : Int32) (so : Int32) (wt : Int32) (wy : Int32) : Int32 × MK :=
  (x, u2 (u2 (u2 (u2 (u2 mo 5 (((16 : Int32) * pr) + x).toNatClampNeg ((sp_M_freeFile mo) + (1 : Int32))) 6 (sp_M_freeFile mo).toNatClampNeg so) 7 (sp_M_freeFile mo).toNatClampNeg wt) 8 (sp_M_freeFile mo).toNatClampNeg wy) 9 (sp_M_freeFile mo).toNatClampNeg (0 : Int32))
abbrev rm_M_makes : Room := { frames := 2, cells := 0, slots := 0, locals := 44 }
set_option maxHeartbeats 4000000 in
set_option maxRecDepth 100000 in
theorem c_M_makes (l : Launch) (dC : Nat → ClassId) (dI : Nat → Nat → Nat) (kc : Nat → ClassId) (a : Nat → Nat) (sz : Nat) (mo : MK) (pr : Int32) (x : Int32) (so : Int32) (wt : Int32) (wy : Int32) (hi1 : vp_in (((16 : Int32) * pr) + x) 240) (hf1 : vp_in (sp_M_freeFile mo) 32) (R' : Int32) (mo' : MK) (hres : sp_M_makes mo pr x so wt wy = (R', mo')) : Met l y_M_makes ws_M_makes rm_M_makes (va_Pc [.ref (a 0), .int pr, .int x, .int so, .int wt, .int wy] (ml_B (dC, dI) vwCl (tysD kc) 11 a (mcell kc a mo) sz)) (va_Qi (fun r (_ : Unit) => r = R') (fun _ t => ml_E (dC, dI) vwCl (tysD kc) 11 a (mcell kc a mo') (va_A (ml 11 a (mcell kc a mo)) sz) t) (va_A (ml 11 a (mcell kc a mo)) sz)) 0 0 (va_A (ml 11 a (mcell kc a mo)) sz) := by
  refine Met.ofW (cc := prog_7_method_12_code) (maxL := 7) (ret := (some .int)) (by decide) rfl ?_
  intro p e s m args below meth c s₁ B hml hv
  obtain ⟨rfl, hsz, hP, hK, hD0⟩ := hv
  have hx := B.exec
  have hb := B.bytes
  have hr := B.returns
  have hts := atoms_spec (ws := ws_M_makes) B.pre
  have hown : s.vm.findClass "HandleDeskModel" = some m.cls := findClass_of_methodNamed B.named
  have hlocks := B.notSynchronized
  subst hsz
  have hD := hD0.self (sz := s.heap.size)
  generalize hAe : va_A (ml 11 a (mcell kc a mo)) s.heap.size = A at hD ⊢
  have hA : ∀ q : Nat, s.heap.size ≤ q → A q := fun q h => by rw [← hAe]; exact Or.inr h
  have hS : va_S A s.heap s.heap [] := va_S.rf
  have hl := lv_entry ([.ref (a 0), .int pr, .int x, .int so, .int wt, .int wy]) (n := 7) (Nat.le_of_ble_eq_true rfl)
  rw [lg_entry_eq]
  generalize (lg_sl ([.ref (a 0), .int pr, .int x, .int so, .int wt, .int wy]) ++ List.replicate (7 - (lg_sl ([.ref (a 0), .int pr, .int x, .int so, .int wt, .int wy])).length) Slot.unset).toArray = ls at hl ⊢
  have hl : lv_has ls 7 [(0, .ref (a 0)), (1, .int pr), (2, .int x), (3, .int so), (4, .int wt), (5, .int wy)] := hl
  rw [sp_M_makes] at hres
  refine lv_aload_n hx hb d_M_makes_0 rfl (lv_at hl 0 rfl) ?_
  refine ml_calli (va_runV (As := []) (rest := []) ⟨hx, hb, hml, hown, hts⟩ (c_M_freeFile l dC dI kc a _ mo _ rfl) (cwV 0 hts (gd_V mC wd_410 wd_412 ws_13 wd_6 wd_413) rfl rfl rfl hd_M_freeFile ⟨Nat.le_of_ble_eq_true rfl, Nat.le_of_ble_eq_true rfl⟩) ⟨ml_blind, va_recv hK hP (ci := 5) rfl (ml_at (by decide) (mc_mod kc a mo)), ml_pre hP hK hD⟩ rfl rfl hl.1 rfl (lv_room (Nat.le_of_ble_eq_true rfl)) d_M_makes_1 ⟨Nat.zero_le _, Nat.zero_le _⟩) hD hS hA (fun H locs hP hD hS => ?_)
  refine lv_istore (lv' := [(6, .int (sp_M_freeFile mo)), (0, .ref (a 0)), (1, .int pr), (2, .int x), (3, .int so), (4, .int wt), (5, .int wy)]) hx hb d_M_makes_4 hl (by decide) rfl (fun ls hl => ?_)
  refine lv_aload_n hx hb d_M_makes_6 rfl (lv_at hl 1 rfl) ?_
  refine ml_get (D := (dC, dI)) hx hb hts in_MC hown hK hP (0) (by decide) (mc_mod kc a mo) rfl 1 (by decide) (hts _ (mC _ wd_342)) (fun _ h9 => h9) (v := .ref (a 1)) rfl d_M_makes_7 ?_
  refine lv_bipush (v := 16) hx hb d_M_makes_10 (by decide) ?_
  refine lv_iload_n hx hb d_M_makes_12 rfl (lv_at hl 2 rfl) ?_
  refine lv_imul hx hb d_M_makes_13 ?_
  refine lv_iload_n hx hb d_M_makes_14 rfl (lv_at hl 3 rfl) ?_
  refine lv_iadd hx hb d_M_makes_15 ?_
  refine lv_iload hx hb d_M_makes_16 (lv_at hl 0 rfl) ?_
  refine lv_iconst (v := 1) hx hb d_M_makes_18 (by decide) ?_
  refine lv_iadd hx hb d_M_makes_19 ?_
  refine ml_iast hx hb hK hP hD hS (1) 0 (by decide) (mc_names kc a mo) rfl hi1 (f' := (mcell kc a (u2 mo 5 (((16 : Int32) * pr) + x).toNatClampNeg ((sp_M_freeFile mo) + (1 : Int32))))) (mw_names kc a _ (((16 : Int32) * pr) + x).toNatClampNeg ((sp_M_freeFile mo) + (1 : Int32))) d_M_makes_20 (fun H locs hP hD hS => ?_)
  refine lv_aload_n hx hb d_M_makes_21 rfl (lv_at hl 1 rfl) ?_
  refine ml_get (D := (dC, dI)) hx hb hts in_MC hown hK hP (0) (by decide) (mc_mod kc a (u2 mo 5 (((16 : Int32) * pr) + x).toNatClampNeg ((sp_M_freeFile mo) + (1 : Int32)))) rfl 2 (by decide) (hts _ (mC _ wd_343)) (fun _ h9 => h9) (v := .ref (a 2)) rfl d_M_makes_22 ?_
  refine lv_iload hx hb d_M_makes_25 (lv_at hl 0 rfl) ?_
  refine lv_iload_n hx hb d_M_makes_27 rfl (lv_at hl 4 rfl) ?_
  refine ml_iast hx hb hK hP hD hS (2) 0 (by decide) (mc_kind kc a (u2 mo 5 (((16 : Int32) * pr) + x).toNatClampNeg ((sp_M_freeFile mo) + (1 : Int32)))) rfl hf1 (f' := (mcell kc a (u2 (u2 mo 5 (((16 : Int32) * pr) + x).toNatClampNeg ((sp_M_freeFile mo) + (1 : Int32))) 6 (sp_M_freeFile mo).toNatClampNeg so))) (mw_kind kc a _ (sp_M_freeFile mo).toNatClampNeg so) d_M_makes_28 (fun H locs hP hD hS => ?_)
  refine lv_aload_n hx hb d_M_makes_29 rfl (lv_at hl 1 rfl) ?_
  refine ml_get (D := (dC, dI)) hx hb hts in_MC hown hK hP (0) (by decide) (mc_mod kc a (u2 (u2 mo 5 (((16 : Int32) * pr) + x).toNatClampNeg ((sp_M_freeFile mo) + (1 : Int32))) 6 (sp_M_freeFile mo).toNatClampNeg so)) rfl 3 (by decide) (hts _ (mC _ wd_344)) (fun _ h9 => h9) (v := .ref (a 3)) rfl d_M_makes_30 ?_
  refine lv_iload hx hb d_M_makes_33 (lv_at hl 0 rfl) ?_
  refine lv_iload hx hb d_M_makes_35 (lv_at hl 5 rfl) ?_
  refine ml_iast hx hb hK hP hD hS (3) 0 (by decide) (mc_what kc a (u2 (u2 mo 5 (((16 : Int32) * pr) + x).toNatClampNeg ((sp_M_freeFile mo) + (1 : Int32))) 6 (sp_M_freeFile mo).toNatClampNeg so)) rfl hf1 (f' := (mcell kc a (u2 (u2 (u2 mo 5 (((16 : Int32) * pr) + x).toNatClampNeg ((sp_M_freeFile mo) + (1 : Int32))) 6 (sp_M_freeFile mo).toNatClampNeg so) 7 (sp_M_freeFile mo).toNatClampNeg wt))) (mw_what kc a _ (sp_M_freeFile mo).toNatClampNeg wt) d_M_makes_37 (fun H locs hP hD hS => ?_)
  refine lv_aload_n hx hb d_M_makes_38 rfl (lv_at hl 1 rfl) ?_
  refine ml_get (D := (dC, dI)) hx hb hts in_MC hown hK hP (0) (by decide) (mc_mod kc a (u2 (u2 (u2 mo 5 (((16 : Int32) * pr) + x).toNatClampNeg ((sp_M_freeFile mo) + (1 : Int32))) 6 (sp_M_freeFile mo).toNatClampNeg so) 7 (sp_M_freeFile mo).toNatClampNeg wt)) rfl 4 (by decide) (hts _ (mC _ wd_345)) (fun _ h9 => h9) (v := .ref (a 4)) rfl d_M_makes_39 ?_
  refine lv_iload hx hb d_M_makes_42 (lv_at hl 0 rfl) ?_
  refine lv_iload hx hb d_M_makes_44 (lv_at hl 6 rfl) ?_
  refine ml_iast hx hb hK hP hD hS (4) 0 (by decide) (mc_how kc a (u2 (u2 (u2 mo 5 (((16 : Int32) * pr) + x).toNatClampNeg ((sp_M_freeFile mo) + (1 : Int32))) 6 (sp_M_freeFile mo).toNatClampNeg so) 7 (sp_M_freeFile mo).toNatClampNeg wt)) rfl hf1 (f' := (mcell kc a (u2 (u2 (u2 (u2 mo 5 (((16 : Int32) * pr) + x).toNatClampNeg ((sp_M_freeFile mo) + (1 : Int32))) 6 (sp_M_freeFile mo).toNatClampNeg so) 7 (sp_M_freeFile mo).toNatClampNeg wt) 8 (sp_M_freeFile mo).toNatClampNeg wy))) (mw_how kc a _ (sp_M_freeFile mo).toNatClampNeg wy) d_M_makes_46 (fun H locs hP hD hS => ?_)
  refine lv_aload_n hx hb d_M_makes_47 rfl (lv_at hl 1 rfl) ?_
  refine ml_get (D := (dC, dI)) hx hb hts in_MC hown hK hP (0) (by decide) (mc_mod kc a (u2 (u2 (u2 (u2 mo 5 (((16 : Int32) * pr) + x).toNatClampNeg ((sp_M_freeFile mo) + (1 : Int32))) 6 (sp_M_freeFile mo).toNatClampNeg so) 7 (sp_M_freeFile mo).toNatClampNeg wt) 8 (sp_M_freeFile mo).toNatClampNeg wy)) rfl 5 (by decide) (hts _ (mC _ wd_346)) (fun _ h9 => h9) (v := .ref (a 5)) rfl d_M_makes_48 ?_
  refine lv_iload hx hb d_M_makes_51 (lv_at hl 0 rfl) ?_
  refine lv_iconst (v := 0) hx hb d_M_makes_53 (by decide) ?_
  refine ml_iast hx hb hK hP hD hS (5) 0 (by decide) (mc_place kc a (u2 (u2 (u2 (u2 mo 5 (((16 : Int32) * pr) + x).toNatClampNeg ((sp_M_freeFile mo) + (1 : Int32))) 6 (sp_M_freeFile mo).toNatClampNeg so) 7 (sp_M_freeFile mo).toNatClampNeg wt) 8 (sp_M_freeFile mo).toNatClampNeg wy)) rfl hf1 (f' := (mcell kc a (u2 (u2 (u2 (u2 (u2 mo 5 (((16 : Int32) * pr) + x).toNatClampNeg ((sp_M_freeFile mo) + (1 : Int32))) 6 (sp_M_freeFile mo).toNatClampNeg so) 7 (sp_M_freeFile mo).toNatClampNeg wt) 8 (sp_M_freeFile mo).toNatClampNeg wy) 9 (sp_M_freeFile mo).toNatClampNeg (0 : Int32)))) (mw_place kc a _ (sp_M_freeFile mo).toNatClampNeg (0 : Int32)) d_M_makes_54 (fun H locs hP hD hS => ?_)
  refine lv_iload_n hx hb d_M_makes_55 rfl (lv_at hl 3 rfl) ?_
  obtain ⟨rfl, rfl⟩ := Prod.mk.inj hres
  exact ml_iret hx hb hr hlocks hP hK hD hS d_M_makes_56
end
