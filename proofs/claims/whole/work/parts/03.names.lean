/-! Names of the classes and methods, by my own program out of the claim's tables. -/
def R_BS : String := "SpillQueue$BlockSet"
def R_DK : String := "SpillQueue$Disk"
def R_ME : String := "SpillQueue$Memory"
def R_RU : String := "SpillQueue$Runs"
def R_SB : String := "SpillQueue$Superblocks"
def R_SQ : String := "SpillQueue"
def R_MO : String := "SpillQueueModel"
def R_KE : String := "SpillQueue$Keys"
def R_AR : String := "java/util/Arrays"
def R_LA : String := "SpillQueueLaw"
def T_BS : u_T := fun k => match k with
  | _ => ("SpillQueue$BlockSet", "in", "[Z", true)
def ty_BS : Nat → FieldType := fun k => match k with
  | _ => .array .boolean
theorem nm_BS : ∀ a, a < 1 → ∀ b, b < 1 → a ≠ b → (T_BS a).2.1 ≠ (T_BS b).2.1 := by decide +kernel
theorem tyok_BS : ∀ k, k < 1 → parseFieldDescriptor (T_BS k).2.2.1 = some (ty_BS k) := by decide +kernel
def T_DK : u_T := fun k => match k with
  | 0 => ("SpillQueue$Disk", "cells", "[I", true)
  | 1 => ("SpillQueue$Disk", "row", "[I", true)
  | 2 => ("SpillQueue$Disk", "blocks", "I", false)
  | 3 => ("SpillQueue$Disk", "words", "I", false)
  | 4 => ("SpillQueue$Disk", "writes", "I", false)
  | _ => ("SpillQueue$Disk", "cutIn", "I", false)
def ty_DK : Nat → FieldType := fun k => match k with
  | 0 => .array .int
  | 1 => .array .int
  | 2 => .int
  | 3 => .int
  | 4 => .int
  | _ => .int
theorem nm_DK : ∀ a, a < 6 → ∀ b, b < 6 → a ≠ b → (T_DK a).2.1 ≠ (T_DK b).2.1 := by decide +kernel
theorem tyok_DK : ∀ k, k < 6 → parseFieldDescriptor (T_DK k).2.2.1 = some (ty_DK k) := by decide +kernel
def T_ME : u_T := fun k => match k with
  | 0 => ("SpillQueue$Memory", "keys", "[I", true)
  | 1 => ("SpillQueue$Memory", "count", "I", false)
  | _ => ("SpillQueue$Memory", "most", "I", false)
def ty_ME : Nat → FieldType := fun k => match k with
  | 0 => .array .int
  | 1 => .int
  | _ => .int
theorem nm_ME : ∀ a, a < 3 → ∀ b, b < 3 → a ≠ b → (T_ME a).2.1 ≠ (T_ME b).2.1 := by decide +kernel
theorem tyok_ME : ∀ k, k < 3 → parseFieldDescriptor (T_ME k).2.2.1 = some (ty_ME k) := by decide +kernel
def T_RU : u_T := fun k => match k with
  | 0 => ("SpillQueue$Runs", "disk", "LSpillQueue$Disk;", true)
  | 1 => ("SpillQueue$Runs", "first", "[I", true)
  | 2 => ("SpillQueue$Runs", "begin", "[I", true)
  | 3 => ("SpillQueue$Runs", "count", "[I", true)
  | 4 => ("SpillQueue$Runs", "level", "[I", true)
  | 5 => ("SpillQueue$Runs", "head", "[I", true)
  | 6 => ("SpillQueue$Runs", "chosen", "[Z", true)
  | _ => ("SpillQueue$Runs", "number", "I", false)
def ty_RU : Nat → FieldType := fun k => match k with
  | 0 => .object "SpillQueue$Disk"
  | 1 => .array .int
  | 2 => .array .int
  | 3 => .array .int
  | 4 => .array .int
  | 5 => .array .int
  | 6 => .array .boolean
  | _ => .int
theorem nm_RU : ∀ a, a < 8 → ∀ b, b < 8 → a ≠ b → (T_RU a).2.1 ≠ (T_RU b).2.1 := by decide +kernel
theorem tyok_RU : ∀ k, k < 8 → parseFieldDescriptor (T_RU k).2.2.1 = some (ty_RU k) := by decide +kernel
def T_SB : u_T := fun k => match k with
  | 0 => ("SpillQueue$Superblocks", "disk", "LSpillQueue$Disk;", true)
  | _ => ("SpillQueue$Superblocks", "seen", "LSpillQueue$BlockSet;", true)
def ty_SB : Nat → FieldType := fun k => match k with
  | 0 => .object "SpillQueue$Disk"
  | _ => .object "SpillQueue$BlockSet"
theorem nm_SB : ∀ a, a < 2 → ∀ b, b < 2 → a ≠ b → (T_SB a).2.1 ≠ (T_SB b).2.1 := by decide +kernel
theorem tyok_SB : ∀ k, k < 2 → parseFieldDescriptor (T_SB k).2.2.1 = some (ty_SB k) := by decide +kernel
def T_SQ : u_T := fun k => match k with
  | 0 => ("SpillQueue", "disk", "LSpillQueue$Disk;", true)
  | 1 => ("SpillQueue", "memory", "LSpillQueue$Memory;", true)
  | 2 => ("SpillQueue", "runs", "LSpillQueue$Runs;", true)
  | 3 => ("SpillQueue", "superblocks", "LSpillQueue$Superblocks;", true)
  | 4 => ("SpillQueue", "synced", "LSpillQueue$BlockSet;", true)
  | 5 => ("SpillQueue", "used", "LSpillQueue$BlockSet;", true)
  | 6 => ("SpillQueue", "free", "[I", true)
  | 7 => ("SpillQueue", "fan", "I", false)
  | 8 => ("SpillQueue", "epoch", "I", false)
  | _ => ("SpillQueue", "live", "Z", false)
def ty_SQ : Nat → FieldType := fun k => match k with
  | 0 => .object "SpillQueue$Disk"
  | 1 => .object "SpillQueue$Memory"
  | 2 => .object "SpillQueue$Runs"
  | 3 => .object "SpillQueue$Superblocks"
  | 4 => .object "SpillQueue$BlockSet"
  | 5 => .object "SpillQueue$BlockSet"
  | 6 => .array .int
  | 7 => .int
  | 8 => .int
  | _ => .boolean
theorem nm_SQ : ∀ a, a < 10 → ∀ b, b < 10 → a ≠ b → (T_SQ a).2.1 ≠ (T_SQ b).2.1 := by decide +kernel
theorem tyok_SQ : ∀ k, k < 10 → parseFieldDescriptor (T_SQ k).2.2.1 = some (ty_SQ k) := by decide +kernel
def T_MO : u_T := fun k => match k with
  | 0 => ("SpillQueueModel", "thrown", "I", false)
  | 1 => ("SpillQueueModel", "isDisk", "Z", false)
  | 2 => ("SpillQueueModel", "blocks", "I", false)
  | 3 => ("SpillQueueModel", "words", "I", false)
  | 4 => ("SpillQueueModel", "mem", "I", false)
  | 5 => ("SpillQueueModel", "fan", "I", false)
  | 6 => ("SpillQueueModel", "disk", "[I", true)
  | 7 => ("SpillQueueModel", "writes", "I", false)
  | 8 => ("SpillQueueModel", "left", "I", false)
  | 9 => ("SpillQueueModel", "live", "Z", false)
  | 10 => ("SpillQueueModel", "off", "Z", false)
  | 11 => ("SpillQueueModel", "memory", "I", false)
  | 12 => ("SpillQueueModel", "keys", "[I", true)
  | 13 => ("SpillQueueModel", "epoch", "I", false)
  | 14 => ("SpillQueueModel", "runs", "I", false)
  | 15 => ("SpillQueueModel", "first", "[I", true)
  | 16 => ("SpillQueueModel", "begin", "[I", true)
  | 17 => ("SpillQueueModel", "count", "[I", true)
  | 18 => ("SpillQueueModel", "level", "[I", true)
  | 19 => ("SpillQueueModel", "synced", "[Z", true)
  | 20 => ("SpillQueueModel", "taken", "[Z", true)
  | 21 => ("SpillQueueModel", "row", "[I", true)
  | 22 => ("SpillQueueModel", "chosen", "[I", true)
  | 23 => ("SpillQueueModel", "atBlock", "[I", true)
  | 24 => ("SpillQueueModel", "atPlace", "[I", true)
  | 25 => ("SpillQueueModel", "keysLeft", "[I", true)
  | _ => ("SpillQueueModel", "merged", "[Z", true)
def ty_MO : Nat → FieldType := fun k => match k with
  | 0 => .int
  | 1 => .boolean
  | 2 => .int
  | 3 => .int
  | 4 => .int
  | 5 => .int
  | 6 => .array .int
  | 7 => .int
  | 8 => .int
  | 9 => .boolean
  | 10 => .boolean
  | 11 => .int
  | 12 => .array .int
  | 13 => .int
  | 14 => .int
  | 15 => .array .int
  | 16 => .array .int
  | 17 => .array .int
  | 18 => .array .int
  | 19 => .array .boolean
  | 20 => .array .boolean
  | 21 => .array .int
  | 22 => .array .int
  | 23 => .array .int
  | 24 => .array .int
  | 25 => .array .int
  | _ => .array .boolean
theorem nm_MO : ∀ a, a < 27 → ∀ b, b < 27 → a ≠ b → (T_MO a).2.1 ≠ (T_MO b).2.1 := by decide +kernel
theorem tyok_MO : ∀ k, k < 27 → parseFieldDescriptor (T_MO k).2.2.1 = some (ty_MO k) := by decide +kernel
abbrev vwCl : List vw_C := [(R_BS, T_BS, 1), (R_DK, T_DK, 6), (R_ME, T_ME, 3), (R_RU, T_RU, 8), (R_SB, T_SB, 2), (R_SQ, T_SQ, 10), (R_MO, T_MO, 27)]
def gTs : List Cond := lw_tbl.filter goodWord
def gNest : Cond → Bool
  | .fieldLinkNest .. => true
  | .methodLinkNest .. => true
  | _ => false
def gNok (w : Cond) : Bool := gNest w || (w.onTables && w.keepsFace)
def gNl : List Cond := lw_tbl.filter gNok
theorem gt {w : Cond} (i : Nat) (h : lw_tbl[i]? = some w) (hg : goodWord w = true) : w ∈ gTs := List.mem_filter.mpr ⟨List.mem_of_getElem? h, hg⟩
theorem gn {w : Cond} (i : Nat) (h : lw_tbl[i]? = some w) (hg : gNok w = true) : w ∈ gNl := List.mem_filter.mpr ⟨List.mem_of_getElem? h, hg⟩
theorem gTs_good : ∀ w ∈ gTs, ((w.onTables && w.keeps) = true ∨ ∃ ty, w = .arrayClass ty) := fun w h => good_of_word (List.mem_filter.mp h).2
theorem gNl_ok : ∀ w ∈ gNl, gNok w = true := fun w h => (List.mem_filter.mp h).2
theorem iw_BS : ∀ w ∈ u_ws R_BS T_BS 1, w ∈ gTs := by
  intro w h
  simp only [u_ws, List.mem_map, List.mem_range] at h
  obtain ⟨k, hk, rfl⟩ := h
  match k, hk with
  | 0, _ => exact gt 217 (by decide +kernel) (by decide +kernel)
  | k + 1, hk => exact absurd hk (by omega)
theorem iw_DK : ∀ w ∈ u_ws R_DK T_DK 6, w ∈ gTs := by
  intro w h
  simp only [u_ws, List.mem_map, List.mem_range] at h
  obtain ⟨k, hk, rfl⟩ := h
  match k, hk with
  | 0, _ => exact gt 128 (by decide +kernel) (by decide +kernel)
  | 1, _ => exact gt 130 (by decide +kernel) (by decide +kernel)
  | 2, _ => exact gt 132 (by decide +kernel) (by decide +kernel)
  | 3, _ => exact gt 134 (by decide +kernel) (by decide +kernel)
  | 4, _ => exact gt 136 (by decide +kernel) (by decide +kernel)
  | 5, _ => exact gt 138 (by decide +kernel) (by decide +kernel)
  | k + 6, hk => exact absurd hk (by omega)
theorem iw_ME : ∀ w ∈ u_ws R_ME T_ME 3, w ∈ gTs := by
  intro w h
  simp only [u_ws, List.mem_map, List.mem_range] at h
  obtain ⟨k, hk, rfl⟩ := h
  match k, hk with
  | 0, _ => exact gt 155 (by decide +kernel) (by decide +kernel)
  | 1, _ => exact gt 157 (by decide +kernel) (by decide +kernel)
  | 2, _ => exact gt 159 (by decide +kernel) (by decide +kernel)
  | k + 3, hk => exact absurd hk (by omega)
theorem iw_RU : ∀ w ∈ u_ws R_RU T_RU 8, w ∈ gTs := by
  intro w h
  simp only [u_ws, List.mem_map, List.mem_range] at h
  obtain ⟨k, hk, rfl⟩ := h
  match k, hk with
  | 0, _ => exact gt 186 (by decide +kernel) (by decide +kernel)
  | 1, _ => exact gt 188 (by decide +kernel) (by decide +kernel)
  | 2, _ => exact gt 190 (by decide +kernel) (by decide +kernel)
  | 3, _ => exact gt 192 (by decide +kernel) (by decide +kernel)
  | 4, _ => exact gt 194 (by decide +kernel) (by decide +kernel)
  | 5, _ => exact gt 196 (by decide +kernel) (by decide +kernel)
  | 6, _ => exact gt 198 (by decide +kernel) (by decide +kernel)
  | 7, _ => exact gt 200 (by decide +kernel) (by decide +kernel)
  | k + 8, hk => exact absurd hk (by omega)
theorem iw_SB : ∀ w ∈ u_ws R_SB T_SB 2, w ∈ gTs := by
  intro w h
  simp only [u_ws, List.mem_map, List.mem_range] at h
  obtain ⟨k, hk, rfl⟩ := h
  match k, hk with
  | 0, _ => exact gt 222 (by decide +kernel) (by decide +kernel)
  | 1, _ => exact gt 224 (by decide +kernel) (by decide +kernel)
  | k + 2, hk => exact absurd hk (by omega)
theorem iw_SQ : ∀ w ∈ u_ws R_SQ T_SQ 10, w ∈ gTs := by
  intro w h
  simp only [u_ws, List.mem_map, List.mem_range] at h
  obtain ⟨k, hk, rfl⟩ := h
  match k, hk with
  | 0, _ => exact gt 239 (by decide +kernel) (by decide +kernel)
  | 1, _ => exact gt 241 (by decide +kernel) (by decide +kernel)
  | 2, _ => exact gt 243 (by decide +kernel) (by decide +kernel)
  | 3, _ => exact gt 245 (by decide +kernel) (by decide +kernel)
  | 4, _ => exact gt 247 (by decide +kernel) (by decide +kernel)
  | 5, _ => exact gt 249 (by decide +kernel) (by decide +kernel)
  | 6, _ => exact gt 251 (by decide +kernel) (by decide +kernel)
  | 7, _ => exact gt 253 (by decide +kernel) (by decide +kernel)
  | 8, _ => exact gt 255 (by decide +kernel) (by decide +kernel)
  | 9, _ => exact gt 257 (by decide +kernel) (by decide +kernel)
  | k + 10, hk => exact absurd hk (by omega)
theorem iw_MO : ∀ w ∈ u_ws R_MO T_MO 27, w ∈ gTs := by
  intro w h
  simp only [u_ws, List.mem_map, List.mem_range] at h
  obtain ⟨k, hk, rfl⟩ := h
  match k, hk with
  | 0, _ => exact gt 758 (by decide +kernel) (by decide +kernel)
  | 1, _ => exact gt 760 (by decide +kernel) (by decide +kernel)
  | 2, _ => exact gt 762 (by decide +kernel) (by decide +kernel)
  | 3, _ => exact gt 764 (by decide +kernel) (by decide +kernel)
  | 4, _ => exact gt 766 (by decide +kernel) (by decide +kernel)
  | 5, _ => exact gt 768 (by decide +kernel) (by decide +kernel)
  | 6, _ => exact gt 770 (by decide +kernel) (by decide +kernel)
  | 7, _ => exact gt 772 (by decide +kernel) (by decide +kernel)
  | 8, _ => exact gt 774 (by decide +kernel) (by decide +kernel)
  | 9, _ => exact gt 776 (by decide +kernel) (by decide +kernel)
  | 10, _ => exact gt 778 (by decide +kernel) (by decide +kernel)
  | 11, _ => exact gt 780 (by decide +kernel) (by decide +kernel)
  | 12, _ => exact gt 782 (by decide +kernel) (by decide +kernel)
  | 13, _ => exact gt 784 (by decide +kernel) (by decide +kernel)
  | 14, _ => exact gt 786 (by decide +kernel) (by decide +kernel)
  | 15, _ => exact gt 788 (by decide +kernel) (by decide +kernel)
  | 16, _ => exact gt 790 (by decide +kernel) (by decide +kernel)
  | 17, _ => exact gt 792 (by decide +kernel) (by decide +kernel)
  | 18, _ => exact gt 794 (by decide +kernel) (by decide +kernel)
  | 19, _ => exact gt 796 (by decide +kernel) (by decide +kernel)
  | 20, _ => exact gt 798 (by decide +kernel) (by decide +kernel)
  | 21, _ => exact gt 800 (by decide +kernel) (by decide +kernel)
  | 22, _ => exact gt 802 (by decide +kernel) (by decide +kernel)
  | 23, _ => exact gt 804 (by decide +kernel) (by decide +kernel)
  | 24, _ => exact gt 806 (by decide +kernel) (by decide +kernel)
  | 25, _ => exact gt 808 (by decide +kernel) (by decide +kernel)
  | 26, _ => exact gt 810 (by decide +kernel) (by decide +kernel)
  | k + 27, hk => exact absurd hk (by omega)
/-- the texts of the thrown -/
def gStr : List (Nat × String) := [(55, "blocks are 4 .. 200"), (60, "words are 11 .. 40"), (62, "mem is 1 .. 100"), (64, "fan is 2 .. 5"), (91, "a key is 0 or more"), (131, "n is 0 .. 10000"), (164, "no such run"), (182, "what is 0 .. 5"), (196, "what is 0 .. 6"), (207, "the queue is not dead"), (214, "the queue is dead"), (219, "there is no disk"), (224, "no such word")]
/-- what a call asks of the callee's words -/
def gCb (y : MethodName) (C0 : String) (bytes : ByteArray) (maxL : Nat) (ret : Option FieldType) (n : Nat) : Prop := (Cond.instanceMethod y ∈ gTs ∧ Cond.selects C0 y y ∈ gTs ∧ Cond.initialized y.cls ∈ gTs ∧ Cond.code y bytes maxL ret ∈ gTs) ∧ (y.cls ≠ "java/lang/invoke/MethodHandle" ∧ y.cls ≠ "java/lang/invoke/VarHandle" ∧ (parseMethodDescriptor y.desc).map (fun d => d.parameters.length) = some n)
def gSb (y : MethodName) (bytes : ByteArray) (maxL : Nat) (ret : Option FieldType) (n : Nat) : Prop := (Cond.static y ∈ gTs ∧ Cond.initialized y.cls ∈ gTs ∧ Cond.code y bytes maxL ret ∈ gTs) ∧ (y.cls ≠ "java/lang/invoke/MethodHandle" ∧ y.cls ≠ "java/lang/invoke/VarHandle" ∧ (parseMethodDescriptor y.desc).map (fun d => d.parameters.length) = some n)
abbrev b_BS_init : ByteArray := prog_2_method_1_code
def y_BS_init : MethodName := ⟨R_BS, "<init>", "()V"⟩
abbrev b_BS_clear : ByteArray := prog_2_method_2_code
def y_BS_clear : MethodName := ⟨R_BS, "clear", "()V"⟩
set_option maxRecDepth 20000 in
theorem cb_BS_clear : gCb y_BS_clear R_BS b_BS_clear 2 none 0 := ⟨⟨gt 365 (by decide +kernel) rfl, gt 5 (by decide +kernel) rfl, gt 93 (by decide +kernel) rfl, gt 366 rfl rfl⟩, by decide +kernel⟩
abbrev b_BS_copyOf : ByteArray := prog_2_method_3_code
def y_BS_copyOf : MethodName := ⟨R_BS, "copyOf", "(LSpillQueue$BlockSet;)V"⟩
set_option maxRecDepth 20000 in
theorem cb_BS_copyOf : gCb y_BS_copyOf R_BS b_BS_copyOf 3 none 1 := ⟨⟨gt 490 (by decide +kernel) rfl, gt 26 (by decide +kernel) rfl, gt 93 (by decide +kernel) rfl, gt 491 rfl rfl⟩, by decide +kernel⟩
abbrev b_BS_add : ByteArray := prog_2_method_4_code
def y_BS_add : MethodName := ⟨R_BS, "add", "(I)V"⟩
set_option maxRecDepth 20000 in
theorem cb_BS_add : gCb y_BS_add R_BS b_BS_add 2 none 1 := ⟨⟨gt 407 (by decide +kernel) rfl, gt 14 (by decide +kernel) rfl, gt 93 (by decide +kernel) rfl, gt 408 rfl rfl⟩, by decide +kernel⟩
abbrev b_BS_has : ByteArray := prog_2_method_5_code
def y_BS_has : MethodName := ⟨R_BS, "has", "(I)Z"⟩
set_option maxRecDepth 20000 in
theorem cb_BS_has : gCb y_BS_has R_BS b_BS_has 2 (some .boolean) 1 := ⟨⟨gt 494 (by decide +kernel) rfl, gt 27 (by decide +kernel) rfl, gt 93 (by decide +kernel) rfl, gt 495 rfl rfl⟩, by decide +kernel⟩
abbrev b_DK_init : ByteArray := prog_3_method_1_code
def y_DK_init : MethodName := ⟨R_DK, "<init>", "()V"⟩
abbrev b_DK_renew : ByteArray := prog_3_method_2_code
def y_DK_renew : MethodName := ⟨R_DK, "renew", "(II)V"⟩
set_option maxRecDepth 20000 in
theorem cb_DK_renew : gCb y_DK_renew R_DK b_DK_renew 3 none 2 := ⟨⟨gt 369 (by decide +kernel) rfl, gt 6 (by decide +kernel) rfl, gt 88 (by decide +kernel) rfl, gt 370 rfl rfl⟩, by decide +kernel⟩
abbrev b_DK_has : ByteArray := prog_3_method_3_code
def y_DK_has : MethodName := ⟨R_DK, "has", "(II)Z"⟩
set_option maxRecDepth 20000 in
theorem cb_DK_has : gCb y_DK_has R_DK b_DK_has 3 (some .boolean) 2 := ⟨⟨gt 708 (by decide +kernel) rfl, gt 51 (by decide +kernel) rfl, gt 88 (by decide +kernel) rfl, gt 709 rfl rfl⟩, by decide +kernel⟩
abbrev b_DK_get : ByteArray := prog_3_method_4_code
def y_DK_get : MethodName := ⟨R_DK, "get", "(II)I"⟩
set_option maxRecDepth 20000 in
theorem cb_DK_get : gCb y_DK_get R_DK b_DK_get 3 (some .int) 2 := ⟨⟨gt 411 (by decide +kernel) rfl, gt 15 (by decide +kernel) rfl, gt 88 (by decide +kernel) rfl, gt 412 rfl rfl⟩, by decide +kernel⟩
abbrev b_DK_turnOver : ByteArray := prog_3_method_5_code
def y_DK_turnOver : MethodName := ⟨R_DK, "turnOver", "(III)V"⟩
set_option maxRecDepth 20000 in
theorem cb_DK_turnOver : gCb y_DK_turnOver R_DK b_DK_turnOver 4 none 3 := ⟨⟨gt 722 (by decide +kernel) rfl, gt 52 (by decide +kernel) rfl, gt 88 (by decide +kernel) rfl, gt 723 rfl rfl⟩, by decide +kernel⟩
abbrev b_DK_keysPerBlock : ByteArray := prog_3_method_6_code
def y_DK_keysPerBlock : MethodName := ⟨R_DK, "keysPerBlock", "()I"⟩
set_option maxRecDepth 20000 in
theorem cb_DK_keysPerBlock : gCb y_DK_keysPerBlock R_DK b_DK_keysPerBlock 1 (some .int) 0 := ⟨⟨gt 482 (by decide +kernel) rfl, gt 24 (by decide +kernel) rfl, gt 88 (by decide +kernel) rfl, gt 483 rfl rfl⟩, by decide +kernel⟩
abbrev b_DK_mostRuns : ByteArray := prog_3_method_7_code
def y_DK_mostRuns : MethodName := ⟨R_DK, "mostRuns", "()I"⟩
set_option maxRecDepth 20000 in
theorem cb_DK_mostRuns : gCb y_DK_mostRuns R_DK b_DK_mostRuns 1 (some .int) 0 := ⟨⟨gt 452 (by decide +kernel) rfl, gt 19 (by decide +kernel) rfl, gt 88 (by decide +kernel) rfl, gt 453 rfl rfl⟩, by decide +kernel⟩
abbrev b_DK_blocksFor : ByteArray := prog_3_method_8_code
def y_DK_blocksFor : MethodName := ⟨R_DK, "blocksFor", "(I)I"⟩
set_option maxRecDepth 20000 in
theorem cb_DK_blocksFor : gCb y_DK_blocksFor R_DK b_DK_blocksFor 3 (some .int) 1 := ⟨⟨gt 478 (by decide +kernel) rfl, gt 23 (by decide +kernel) rfl, gt 88 (by decide +kernel) rfl, gt 479 rfl rfl⟩, by decide +kernel⟩
abbrev b_DK_clearRow : ByteArray := prog_3_method_9_code
def y_DK_clearRow : MethodName := ⟨R_DK, "clearRow", "()V"⟩
set_option maxRecDepth 20000 in
theorem cb_DK_clearRow : gCb y_DK_clearRow R_DK b_DK_clearRow 1 none 0 := ⟨⟨gt 384 (by decide +kernel) rfl, gt 9 (by decide +kernel) rfl, gt 88 (by decide +kernel) rfl, gt 385 rfl rfl⟩, by decide +kernel⟩
abbrev b_DK_setRow : ByteArray := prog_3_method_10_code
def y_DK_setRow : MethodName := ⟨R_DK, "setRow", "(II)V"⟩
set_option maxRecDepth 20000 in
theorem cb_DK_setRow : gCb y_DK_setRow R_DK b_DK_setRow 3 none 2 := ⟨⟨gt 388 (by decide +kernel) rfl, gt 10 (by decide +kernel) rfl, gt 88 (by decide +kernel) rfl, gt 389 rfl rfl⟩, by decide +kernel⟩
abbrev b_DK_writeRow : ByteArray := prog_3_method_11_code
def y_DK_writeRow : MethodName := ⟨R_DK, "writeRow", "(I)Z"⟩
set_option maxRecDepth 20000 in
theorem cb_DK_writeRow : gCb y_DK_writeRow R_DK b_DK_writeRow 2 (some .boolean) 1 := ⟨⟨gt 392 (by decide +kernel) rfl, gt 11 (by decide +kernel) rfl, gt 88 (by decide +kernel) rfl, gt 393 rfl rfl⟩, by decide +kernel⟩
abbrev b_DK_sumOf : ByteArray := prog_3_method_12_code
def y_DK_sumOf : MethodName := ⟨R_DK, "sumOf", "(I)I"⟩
set_option maxRecDepth 20000 in
theorem cb_DK_sumOf : gCb y_DK_sumOf R_DK b_DK_sumOf 5 (some .int) 1 := ⟨⟨gt 399 (by decide +kernel) rfl, gt 12 (by decide +kernel) rfl, gt 88 (by decide +kernel) rfl, gt 400 rfl rfl⟩, by decide +kernel⟩
abbrev b_ME_init : ByteArray := prog_5_method_1_code
def y_ME_init : MethodName := ⟨R_ME, "<init>", "()V"⟩
abbrev b_ME_clear : ByteArray := prog_5_method_2_code
def y_ME_clear : MethodName := ⟨R_ME, "clear", "()V"⟩
set_option maxRecDepth 20000 in
theorem cb_ME_clear : gCb y_ME_clear R_ME b_ME_clear 1 none 0 := ⟨⟨gt 357 (by decide +kernel) rfl, gt 3 (by decide +kernel) rfl, gt 90 (by decide +kernel) rfl, gt 358 rfl rfl⟩, by decide +kernel⟩
abbrev b_ME_isFull : ByteArray := prog_5_method_3_code
def y_ME_isFull : MethodName := ⟨R_ME, "isFull", "()Z"⟩
set_option maxRecDepth 20000 in
theorem cb_ME_isFull : gCb y_ME_isFull R_ME b_ME_isFull 1 (some .boolean) 0 := ⟨⟨gt 444 (by decide +kernel) rfl, gt 17 (by decide +kernel) rfl, gt 90 (by decide +kernel) rfl, gt 445 rfl rfl⟩, by decide +kernel⟩
abbrev b_ME_add : ByteArray := prog_5_method_4_code
def y_ME_add : MethodName := ⟨R_ME, "add", "(I)V"⟩
set_option maxRecDepth 20000 in
theorem cb_ME_add : gCb y_ME_add R_ME b_ME_add 3 none 1 := ⟨⟨gt 556 (by decide +kernel) rfl, gt 38 (by decide +kernel) rfl, gt 90 (by decide +kernel) rfl, gt 557 rfl rfl⟩, by decide +kernel⟩
abbrev b_ME_least : ByteArray := prog_5_method_5_code
def y_ME_least : MethodName := ⟨R_ME, "least", "()I"⟩
set_option maxRecDepth 20000 in
theorem cb_ME_least : gCb y_ME_least R_ME b_ME_least 1 (some .int) 0 := ⟨⟨gt 511 (by decide +kernel) rfl, gt 28 (by decide +kernel) rfl, gt 90 (by decide +kernel) rfl, gt 512 rfl rfl⟩, by decide +kernel⟩
abbrev b_ME_howMany : ByteArray := prog_5_method_6_code
def y_ME_howMany : MethodName := ⟨R_ME, "howMany", "()I"⟩
set_option maxRecDepth 20000 in
theorem cb_ME_howMany : gCb y_ME_howMany R_ME b_ME_howMany 1 (some .int) 0 := ⟨⟨gt 265 (by decide +kernel) rfl, gt 266 (by decide +kernel) rfl, gt 90 (by decide +kernel) rfl, gt 267 rfl rfl⟩, by decide +kernel⟩
abbrev b_ME_takeLeast : ByteArray := prog_5_method_7_code
def y_ME_takeLeast : MethodName := ⟨R_ME, "takeLeast", "()I"⟩
set_option maxRecDepth 20000 in
theorem cb_ME_takeLeast : gCb y_ME_takeLeast R_ME b_ME_takeLeast 2 (some .int) 0 := ⟨⟨gt 507 (by decide +kernel) rfl, gt 1006 (by decide +kernel) rfl, gt 90 (by decide +kernel) rfl, gt 508 rfl rfl⟩, by decide +kernel⟩
abbrev b_RU_init : ByteArray := prog_6_method_1_code
def y_RU_init : MethodName := ⟨R_RU, "<init>", "(LSpillQueue$Disk;)V"⟩
abbrev b_RU_clear : ByteArray := prog_6_method_2_code
def y_RU_clear : MethodName := ⟨R_RU, "clear", "()V"⟩
set_option maxRecDepth 20000 in
theorem cb_RU_clear : gCb y_RU_clear R_RU b_RU_clear 1 none 0 := ⟨⟨gt 361 (by decide +kernel) rfl, gt 4 (by decide +kernel) rfl, gt 91 (by decide +kernel) rfl, gt 362 rfl rfl⟩, by decide +kernel⟩
abbrev b_RU_has : ByteArray := prog_6_method_3_code
def y_RU_has : MethodName := ⟨R_RU, "has", "(I)Z"⟩
set_option maxRecDepth 20000 in
theorem cb_RU_has : gCb y_RU_has R_RU b_RU_has 2 (some .boolean) 1 := ⟨⟨gt 526 (by decide +kernel) rfl, gt 31 (by decide +kernel) rfl, gt 91 (by decide +kernel) rfl, gt 527 rfl rfl⟩, by decide +kernel⟩
abbrev b_RU_add : ByteArray := prog_6_method_4_code
def y_RU_add : MethodName := ⟨R_RU, "add", "(IIII)V"⟩
set_option maxRecDepth 20000 in
theorem cb_RU_add : gCb y_RU_add R_RU b_RU_add 5 none 4 := ⟨⟨gt 536 (by decide +kernel) rfl, gt 33 (by decide +kernel) rfl, gt 91 (by decide +kernel) rfl, gt 537 rfl rfl⟩, by decide +kernel⟩
abbrev b_RU_dropEmpty : ByteArray := prog_6_method_5_code
def y_RU_dropEmpty : MethodName := ⟨R_RU, "dropEmpty", "()V"⟩
set_option maxRecDepth 20000 in
theorem cb_RU_dropEmpty : gCb y_RU_dropEmpty R_RU b_RU_dropEmpty 3 none 0 := ⟨⟨gt 532 (by decide +kernel) rfl, gt 32 (by decide +kernel) rfl, gt 91 (by decide +kernel) rfl, gt 533 rfl rfl⟩, by decide +kernel⟩
abbrev b_RU_headOf : ByteArray := prog_6_method_6_code
def y_RU_headOf : MethodName := ⟨R_RU, "headOf", "(I)I"⟩
set_option maxRecDepth 20000 in
theorem cb_RU_headOf : gCb y_RU_headOf R_RU b_RU_headOf 2 (some .int) 1 := ⟨⟨gt 573 (by decide +kernel) rfl, gt 40 (by decide +kernel) rfl, gt 91 (by decide +kernel) rfl, gt 574 rfl rfl⟩, by decide +kernel⟩
abbrev b_RU_leastAt : ByteArray := prog_6_method_7_code
def y_RU_leastAt : MethodName := ⟨R_RU, "leastAt", "(Z)I"⟩
set_option maxRecDepth 20000 in
theorem cb_RU_leastAt : gCb y_RU_leastAt R_RU b_RU_leastAt 5 (some .int) 1 := ⟨⟨gt 518 (by decide +kernel) rfl, gt 29 (by decide +kernel) rfl, gt 91 (by decide +kernel) rfl, gt 519 rfl rfl⟩, by decide +kernel⟩
abbrev b_RU_takeFrom : ByteArray := prog_6_method_8_code
def y_RU_takeFrom : MethodName := ⟨R_RU, "takeFrom", "(I)I"⟩
set_option maxRecDepth 20000 in
theorem cb_RU_takeFrom : gCb y_RU_takeFrom R_RU b_RU_takeFrom 3 (some .int) 1 := ⟨⟨gt 522 (by decide +kernel) rfl, gt 30 (by decide +kernel) rfl, gt 91 (by decide +kernel) rfl, gt 523 rfl rfl⟩, by decide +kernel⟩
abbrev b_RU_keysInAll : ByteArray := prog_6_method_9_code
def y_RU_keysInAll : MethodName := ⟨R_RU, "keysInAll", "()I"⟩
set_option maxRecDepth 20000 in
theorem cb_RU_keysInAll : gCb y_RU_keysInAll R_RU b_RU_keysInAll 3 (some .int) 0 := ⟨⟨gt 270 (by decide +kernel) rfl, gt 0 (by decide +kernel) rfl, gt 91 (by decide +kernel) rfl, gt 271 rfl rfl⟩, by decide +kernel⟩
abbrev b_RU_markBlocks : ByteArray := prog_6_method_10_code
def y_RU_markBlocks : MethodName := ⟨R_RU, "markBlocks", "(LSpillQueue$BlockSet;)V"⟩
set_option maxRecDepth 20000 in
theorem cb_RU_markBlocks : gCb y_RU_markBlocks R_RU b_RU_markBlocks 5 none 1 := ⟨⟨gt 403 (by decide +kernel) rfl, gt 13 (by decide +kernel) rfl, gt 91 (by decide +kernel) rfl, gt 404 rfl rfl⟩, by decide +kernel⟩
abbrev b_RU_greatestLevel : ByteArray := prog_6_method_11_code
def y_RU_greatestLevel : MethodName := ⟨R_RU, "greatestLevel", "()I"⟩
set_option maxRecDepth 20000 in
theorem cb_RU_greatestLevel : gCb y_RU_greatestLevel R_RU b_RU_greatestLevel 3 (some .int) 0 := ⟨⟨gt 460 (by decide +kernel) rfl, gt 21 (by decide +kernel) rfl, gt 91 (by decide +kernel) rfl, gt 461 rfl rfl⟩, by decide +kernel⟩
abbrev b_RU_crowdedAt : ByteArray := prog_6_method_12_code
def y_RU_crowdedAt : MethodName := ⟨R_RU, "crowdedAt", "(I)I"⟩
set_option maxRecDepth 20000 in
theorem cb_RU_crowdedAt : gCb y_RU_crowdedAt R_RU b_RU_crowdedAt 4 (some .int) 1 := ⟨⟨gt 544 (by decide +kernel) rfl, gt 35 (by decide +kernel) rfl, gt 91 (by decide +kernel) rfl, gt 545 rfl rfl⟩, by decide +kernel⟩
abbrev b_RU_runsAtLevelOf : ByteArray := prog_6_method_13_code
def y_RU_runsAtLevelOf : MethodName := ⟨R_RU, "runsAtLevelOf", "(I)I"⟩
set_option maxRecDepth 20000 in
theorem cb_RU_runsAtLevelOf : gCb y_RU_runsAtLevelOf R_RU b_RU_runsAtLevelOf 4 (some .int) 1 := ⟨⟨gt 548 (by decide +kernel) rfl, gt 36 (by decide +kernel) rfl, gt 91 (by decide +kernel) rfl, gt 549 rfl rfl⟩, by decide +kernel⟩
abbrev b_RU_chooseAll : ByteArray := prog_6_method_14_code
def y_RU_chooseAll : MethodName := ⟨R_RU, "chooseAll", "()V"⟩
set_option maxRecDepth 20000 in
theorem cb_RU_chooseAll : gCb y_RU_chooseAll R_RU b_RU_chooseAll 2 none 0 := ⟨⟨gt 456 (by decide +kernel) rfl, gt 20 (by decide +kernel) rfl, gt 91 (by decide +kernel) rfl, gt 457 rfl rfl⟩, by decide +kernel⟩
abbrev b_RU_chooseLevel : ByteArray := prog_6_method_15_code
def y_RU_chooseLevel : MethodName := ⟨R_RU, "chooseLevel", "(I)V"⟩
set_option maxRecDepth 20000 in
theorem cb_RU_chooseLevel : gCb y_RU_chooseLevel R_RU b_RU_chooseLevel 3 none 1 := ⟨⟨gt 552 (by decide +kernel) rfl, gt 37 (by decide +kernel) rfl, gt 91 (by decide +kernel) rfl, gt 553 rfl rfl⟩, by decide +kernel⟩
abbrev b_RU_howMany : ByteArray := prog_6_method_16_code
def y_RU_howMany : MethodName := ⟨R_RU, "howMany", "()I"⟩
abbrev b_RU_takeLeast : ByteArray := prog_6_method_17_code
def y_RU_takeLeast : MethodName := ⟨R_RU, "takeLeast", "()I"⟩
abbrev b_SB_init : ByteArray := prog_7_method_1_code
def y_SB_init : MethodName := ⟨R_SB, "<init>", "(LSpillQueue$Disk;)V"⟩
abbrev b_SB_store : ByteArray := prog_7_method_2_code
def y_SB_store : MethodName := ⟨R_SB, "store", "(ILSpillQueue$Runs;)Z"⟩
set_option maxRecDepth 20000 in
theorem cb_SB_store : gCb y_SB_store R_SB b_SB_store 5 (some .boolean) 2 := ⟨⟨gt 380 (by decide +kernel) rfl, gt 8 (by decide +kernel) rfl, gt 92 (by decide +kernel) rfl, gt 381 rfl rfl⟩, by decide +kernel⟩
abbrev b_SB_load : ByteArray := prog_7_method_3_code
def y_SB_load : MethodName := ⟨R_SB, "load", "(ILSpillQueue$Runs;)V"⟩
set_option maxRecDepth 20000 in
theorem cb_SB_load : gCb y_SB_load R_SB b_SB_load 6 none 2 := ⟨⟨gt 657 (by decide +kernel) rfl, gt 49 (by decide +kernel) rfl, gt 92 (by decide +kernel) rfl, gt 658 rfl rfl⟩, by decide +kernel⟩
abbrev b_SB_epochOf : ByteArray := prog_7_method_4_code
def y_SB_epochOf : MethodName := ⟨R_SB, "epochOf", "(I)I"⟩
set_option maxRecDepth 20000 in
theorem cb_SB_epochOf : gCb y_SB_epochOf R_SB b_SB_epochOf 2 (some .int) 1 := ⟨⟨gt 628 (by decide +kernel) rfl, gt 44 (by decide +kernel) rfl, gt 92 (by decide +kernel) rfl, gt 629 rfl rfl⟩, by decide +kernel⟩
abbrev b_SB_newestGood : ByteArray := prog_7_method_5_code
def y_SB_newestGood : MethodName := ⟨R_SB, "newestGood", "()I"⟩
set_option maxRecDepth 20000 in
theorem cb_SB_newestGood : gCb y_SB_newestGood R_SB b_SB_newestGood 3 (some .int) 0 := ⟨⟨gt 620 (by decide +kernel) rfl, gt 42 (by decide +kernel) rfl, gt 92 (by decide +kernel) rfl, gt 621 rfl rfl⟩, by decide +kernel⟩
abbrev b_SB_isGood : ByteArray := prog_7_method_6_code
def y_SB_isGood : MethodName := ⟨R_SB, "isGood", "(I)Z"⟩
set_option maxRecDepth 20000 in
theorem cb_SB_isGood : gCb y_SB_isGood R_SB b_SB_isGood 5 (some .boolean) 1 := ⟨⟨gt 624 (by decide +kernel) rfl, gt 43 (by decide +kernel) rfl, gt 92 (by decide +kernel) rfl, gt 625 rfl rfl⟩, by decide +kernel⟩
abbrev b_SB_isRunRight : ByteArray := prog_7_method_7_code
def y_SB_isRunRight : MethodName := ⟨R_SB, "isRunRight", "(II)Z"⟩
set_option maxRecDepth 20000 in
theorem cb_SB_isRunRight : gCb y_SB_isRunRight R_SB b_SB_isRunRight 6 (some .boolean) 2 := ⟨⟨gt 636 (by decide +kernel) rfl, gt 45 (by decide +kernel) rfl, gt 92 (by decide +kernel) rfl, gt 637 rfl rfl⟩, by decide +kernel⟩
abbrev b_SB_isChainRight : ByteArray := prog_7_method_8_code
def y_SB_isChainRight : MethodName := ⟨R_SB, "isChainRight", "(III)Z"⟩
set_option maxRecDepth 20000 in
theorem cb_SB_isChainRight : gCb y_SB_isChainRight R_SB b_SB_isChainRight 10 (some .boolean) 3 := ⟨⟨gt 641 (by decide +kernel) rfl, gt 46 (by decide +kernel) rfl, gt 92 (by decide +kernel) rfl, gt 642 rfl rfl⟩, by decide +kernel⟩
abbrev b_SB_isNewRightBlock : ByteArray := prog_7_method_9_code
def y_SB_isNewRightBlock : MethodName := ⟨R_SB, "isNewRightBlock", "(I)Z"⟩
set_option maxRecDepth 20000 in
theorem cb_SB_isNewRightBlock : gCb y_SB_isNewRightBlock R_SB b_SB_isNewRightBlock 2 (some .boolean) 1 := ⟨⟨gt 646 (by decide +kernel) rfl, gt 47 (by decide +kernel) rfl, gt 92 (by decide +kernel) rfl, gt 647 rfl rfl⟩, by decide +kernel⟩
abbrev b_SB_lastOfRising : ByteArray := prog_7_method_10_code
def y_SB_lastOfRising : MethodName := ⟨R_SB, "lastOfRising", "(IIII)I"⟩
set_option maxRecDepth 20000 in
theorem cb_SB_lastOfRising : gCb y_SB_lastOfRising R_SB b_SB_lastOfRising 8 (some .int) 4 := ⟨⟨gt 653 (by decide +kernel) rfl, gt 48 (by decide +kernel) rfl, gt 92 (by decide +kernel) rfl, gt 654 rfl rfl⟩, by decide +kernel⟩
abbrev b_SQ_init : ByteArray := prog_1_method_1_code
def y_SQ_init : MethodName := ⟨R_SQ, "<init>", "()V"⟩
abbrev b_SQ_format : ByteArray := prog_1_method_2_code
def y_SQ_format : MethodName := ⟨R_SQ, "format", "(IIII)V"⟩
set_option maxRecDepth 20000 in
theorem cb_SQ_format : gCb y_SQ_format R_SQ b_SQ_format 5 none 4 := ⟨⟨gt 277 (by decide +kernel) rfl, gt 278 (by decide +kernel) rfl, gt 87 (by decide +kernel) rfl, gt 279 rfl rfl⟩, by decide +kernel⟩
abbrev b_SQ_insert : ByteArray := prog_1_method_3_code
def y_SQ_insert : MethodName := ⟨R_SQ, "insert", "(I)I"⟩
set_option maxRecDepth 20000 in
theorem cb_SQ_insert : gCb y_SQ_insert R_SQ b_SQ_insert 3 (some .int) 1 := ⟨⟨gt 418 (by decide +kernel) rfl, gt 419 (by decide +kernel) rfl, gt 87 (by decide +kernel) rfl, gt 420 rfl rfl⟩, by decide +kernel⟩
abbrev b_SQ_min : ByteArray := prog_1_method_4_code
def y_SQ_min : MethodName := ⟨R_SQ, "min", "()I"⟩
set_option maxRecDepth 20000 in
theorem cb_SQ_min : gCb y_SQ_min R_SQ b_SQ_min 2 (some .int) 0 := ⟨⟨gt 562 (by decide +kernel) rfl, gt 563 (by decide +kernel) rfl, gt 87 (by decide +kernel) rfl, gt 564 rfl rfl⟩, by decide +kernel⟩
abbrev b_SQ_take : ByteArray := prog_1_method_5_code
def y_SQ_take : MethodName := ⟨R_SQ, "take", "()I"⟩
set_option maxRecDepth 20000 in
theorem cb_SQ_take : gCb y_SQ_take R_SQ b_SQ_take 3 (some .int) 0 := ⟨⟨gt 579 (by decide +kernel) rfl, gt 580 (by decide +kernel) rfl, gt 87 (by decide +kernel) rfl, gt 581 rfl rfl⟩, by decide +kernel⟩
abbrev b_SQ_sync : ByteArray := prog_1_method_6_code
def y_SQ_sync : MethodName := ⟨R_SQ, "sync", "()I"⟩
set_option maxRecDepth 20000 in
theorem cb_SQ_sync : gCb y_SQ_sync R_SQ b_SQ_sync 2 (some .int) 0 := ⟨⟨gt 588 (by decide +kernel) rfl, gt 589 (by decide +kernel) rfl, gt 87 (by decide +kernel) rfl, gt 590 rfl rfl⟩, by decide +kernel⟩
abbrev b_SQ_cutAt : ByteArray := prog_1_method_7_code
def y_SQ_cutAt : MethodName := ⟨R_SQ, "cutAt", "(I)V"⟩
set_option maxRecDepth 20000 in
theorem cb_SQ_cutAt : gCb y_SQ_cutAt R_SQ b_SQ_cutAt 2 none 1 := ⟨⟨gt 595 (by decide +kernel) rfl, gt 596 (by decide +kernel) rfl, gt 87 (by decide +kernel) rfl, gt 597 rfl rfl⟩, by decide +kernel⟩
abbrev b_SQ_cut : ByteArray := prog_1_method_8_code
def y_SQ_cut : MethodName := ⟨R_SQ, "cut", "()V"⟩
set_option maxRecDepth 20000 in
theorem cb_SQ_cut : gCb y_SQ_cut R_SQ b_SQ_cut 1 none 0 := ⟨⟨gt 603 (by decide +kernel) rfl, gt 604 (by decide +kernel) rfl, gt 87 (by decide +kernel) rfl, gt 605 rfl rfl⟩, by decide +kernel⟩
abbrev b_SQ_recover : ByteArray := prog_1_method_9_code
def y_SQ_recover : MethodName := ⟨R_SQ, "recover", "()I"⟩
set_option maxRecDepth 20000 in
theorem cb_SQ_recover : gCb y_SQ_recover R_SQ b_SQ_recover 2 (some .int) 0 := ⟨⟨gt 615 (by decide +kernel) rfl, gt 616 (by decide +kernel) rfl, gt 87 (by decide +kernel) rfl, gt 617 rfl rfl⟩, by decide +kernel⟩
abbrev b_SQ_size : ByteArray := prog_1_method_10_code
def y_SQ_size : MethodName := ⟨R_SQ, "size", "()I"⟩
set_option maxRecDepth 20000 in
theorem cb_SQ_size : gCb y_SQ_size R_SQ b_SQ_size 1 (some .int) 0 := ⟨⟨gt 261 (by decide +kernel) rfl, gt 262 (by decide +kernel) rfl, gt 87 (by decide +kernel) rfl, gt 263 rfl rfl⟩, by decide +kernel⟩
abbrev b_SQ_run : ByteArray := prog_1_method_11_code
def y_SQ_run : MethodName := ⟨R_SQ, "run", "(II)I"⟩
set_option maxRecDepth 20000 in
theorem cb_SQ_run : gCb y_SQ_run R_SQ b_SQ_run 3 (some .int) 2 := ⟨⟨gt 666 (by decide +kernel) rfl, gt 667 (by decide +kernel) rfl, gt 87 (by decide +kernel) rfl, gt 668 rfl rfl⟩, by decide +kernel⟩
abbrev b_SQ_about : ByteArray := prog_1_method_12_code
def y_SQ_about : MethodName := ⟨R_SQ, "about", "(I)I"⟩
set_option maxRecDepth 20000 in
theorem cb_SQ_about : gCb y_SQ_about R_SQ b_SQ_about 2 (some .int) 1 := ⟨⟨gt 691 (by decide +kernel) rfl, gt 692 (by decide +kernel) rfl, gt 87 (by decide +kernel) rfl, gt 693 rfl rfl⟩, by decide +kernel⟩
abbrev b_SQ_word : ByteArray := prog_1_method_13_code
def y_SQ_word : MethodName := ⟨R_SQ, "word", "(II)I"⟩
set_option maxRecDepth 20000 in
theorem cb_SQ_word : gCb y_SQ_word R_SQ b_SQ_word 3 (some .int) 2 := ⟨⟨gt 699 (by decide +kernel) rfl, gt 700 (by decide +kernel) rfl, gt 87 (by decide +kernel) rfl, gt 701 rfl rfl⟩, by decide +kernel⟩
abbrev b_SQ_spoil : ByteArray := prog_1_method_14_code
def y_SQ_spoil : MethodName := ⟨R_SQ, "spoil", "(III)V"⟩
set_option maxRecDepth 20000 in
theorem cb_SQ_spoil : gCb y_SQ_spoil R_SQ b_SQ_spoil 4 none 3 := ⟨⟨gt 716 (by decide +kernel) rfl, gt 717 (by decide +kernel) rfl, gt 87 (by decide +kernel) rfl, gt 718 rfl rfl⟩, by decide +kernel⟩
abbrev b_SQ_requireLive : ByteArray := prog_1_method_15_code
def y_SQ_requireLive : MethodName := ⟨R_SQ, "requireLive", "()V"⟩
set_option maxRecDepth 20000 in
theorem cb_SQ_requireLive : gCb y_SQ_requireLive R_SQ b_SQ_requireLive 1 none 0 := ⟨⟨gt 423 (by decide +kernel) rfl, gt 16 (by decide +kernel) rfl, gt 87 (by decide +kernel) rfl, gt 424 rfl rfl⟩, by decide +kernel⟩
abbrev b_SQ_requireDisk : ByteArray := prog_1_method_16_code
def y_SQ_requireDisk : MethodName := ⟨R_SQ, "requireDisk", "()V"⟩
set_option maxRecDepth 20000 in
theorem cb_SQ_requireDisk : gCb y_SQ_requireDisk R_SQ b_SQ_requireDisk 1 none 0 := ⟨⟨gt 608 (by decide +kernel) rfl, gt 41 (by decide +kernel) rfl, gt 87 (by decide +kernel) rfl, gt 609 rfl rfl⟩, by decide +kernel⟩
abbrev b_SQ_requireWord : ByteArray := prog_1_method_17_code
def y_SQ_requireWord : MethodName := ⟨R_SQ, "requireWord", "(II)V"⟩
set_option maxRecDepth 20000 in
theorem cb_SQ_requireWord : gCb y_SQ_requireWord R_SQ b_SQ_requireWord 3 none 2 := ⟨⟨gt 704 (by decide +kernel) rfl, gt 50 (by decide +kernel) rfl, gt 87 (by decide +kernel) rfl, gt 705 rfl rfl⟩, by decide +kernel⟩
abbrev b_SQ_powerOff : ByteArray := prog_1_method_18_code
def y_SQ_powerOff : MethodName := ⟨R_SQ, "powerOff", "()V"⟩
set_option maxRecDepth 20000 in
theorem cb_SQ_powerOff : gCb y_SQ_powerOff R_SQ b_SQ_powerOff 1 none 0 := ⟨⟨gt 353 (by decide +kernel) rfl, gt 2 (by decide +kernel) rfl, gt 87 (by decide +kernel) rfl, gt 354 rfl rfl⟩, by decide +kernel⟩
abbrev b_SQ_isLeastInMemory : ByteArray := prog_1_method_19_code
def y_SQ_isLeastInMemory : MethodName := ⟨R_SQ, "isLeastInMemory", "(I)Z"⟩
set_option maxRecDepth 20000 in
theorem cb_SQ_isLeastInMemory : gCb y_SQ_isLeastInMemory R_SQ b_SQ_isLeastInMemory 2 (some .boolean) 1 := ⟨⟨gt 568 (by decide +kernel) rfl, gt 39 (by decide +kernel) rfl, gt 87 (by decide +kernel) rfl, gt 569 rfl rfl⟩, by decide +kernel⟩
abbrev b_SQ_spill : ByteArray := prog_1_method_20_code
def y_SQ_spill : MethodName := ⟨R_SQ, "spill", "()I"⟩
set_option maxRecDepth 20000 in
theorem cb_SQ_spill : gCb y_SQ_spill R_SQ b_SQ_spill 2 (some .int) 0 := ⟨⟨gt 448 (by decide +kernel) rfl, gt 18 (by decide +kernel) rfl, gt 87 (by decide +kernel) rfl, gt 449 rfl rfl⟩, by decide +kernel⟩
abbrev b_SQ_mergeCrowdedLevels : ByteArray := prog_1_method_21_code
def y_SQ_mergeCrowdedLevels : MethodName := ⟨R_SQ, "mergeCrowdedLevels", "()I"⟩
set_option maxRecDepth 20000 in
theorem cb_SQ_mergeCrowdedLevels : gCb y_SQ_mergeCrowdedLevels R_SQ b_SQ_mergeCrowdedLevels 5 (some .int) 0 := ⟨⟨gt 540 (by decide +kernel) rfl, gt 34 (by decide +kernel) rfl, gt 87 (by decide +kernel) rfl, gt 541 rfl rfl⟩, by decide +kernel⟩
abbrev b_SQ_makeRun : ByteArray := prog_1_method_22_code
def y_SQ_makeRun : MethodName := ⟨R_SQ, "makeRun", "(LSpillQueue$Keys;I)I"⟩
set_option maxRecDepth 20000 in
theorem cb_SQ_makeRun : gCb y_SQ_makeRun R_SQ b_SQ_makeRun 9 (some .int) 2 := ⟨⟨gt 467 (by decide +kernel) rfl, gt 22 (by decide +kernel) rfl, gt 87 (by decide +kernel) rfl, gt 468 rfl rfl⟩, by decide +kernel⟩
abbrev b_SQ_gatherFree : ByteArray := prog_1_method_23_code
def y_SQ_gatherFree : MethodName := ⟨R_SQ, "gatherFree", "()I"⟩
set_option maxRecDepth 20000 in
theorem cb_SQ_gatherFree : gCb y_SQ_gatherFree R_SQ b_SQ_gatherFree 3 (some .int) 0 := ⟨⟨gt 486 (by decide +kernel) rfl, gt 25 (by decide +kernel) rfl, gt 87 (by decide +kernel) rfl, gt 487 rfl rfl⟩, by decide +kernel⟩
abbrev b_SQ_writeNextEpoch : ByteArray := prog_1_method_24_code
def y_SQ_writeNextEpoch : MethodName := ⟨R_SQ, "writeNextEpoch", "()I"⟩
set_option maxRecDepth 20000 in
theorem cb_SQ_writeNextEpoch : gCb y_SQ_writeNextEpoch R_SQ b_SQ_writeNextEpoch 1 (some .int) 0 := ⟨⟨gt 376 (by decide +kernel) rfl, gt 7 (by decide +kernel) rfl, gt 87 (by decide +kernel) rfl, gt 377 rfl rfl⟩, by decide +kernel⟩
abbrev b_MO_init : ByteArray := prog_9_method_1_code
def y_MO_init : MethodName := ⟨R_MO, "<init>", "()V"⟩
abbrev b_MO_thrown : ByteArray := prog_9_method_2_code
def y_MO_thrown : MethodName := ⟨R_MO, "thrown", "()I"⟩
set_option maxRecDepth 20000 in
theorem cb_MO_thrown : gCb y_MO_thrown R_MO b_MO_thrown 1 (some .int) 0 := ⟨⟨gt 814 (by decide +kernel) rfl, gt 815 (by decide +kernel) rfl, gt 94 (by decide +kernel) rfl, gt 816 rfl rfl⟩, by decide +kernel⟩
abbrev b_MO_within : ByteArray := prog_9_method_3_code
def y_MO_within : MethodName := ⟨R_MO, "within", "(III)Z"⟩
set_option maxRecDepth 20000 in
theorem cb_MO_within : gSb y_MO_within b_MO_within 3 (some .boolean) 3 := ⟨⟨gt 822 (by decide +kernel) rfl, gt 94 (by decide +kernel) rfl, gt 823 rfl rfl⟩, by decide +kernel⟩
abbrev b_MO_at : ByteArray := prog_9_method_4_code
def y_MO_at : MethodName := ⟨R_MO, "at", "(II)I"⟩
set_option maxRecDepth 20000 in
theorem cb_MO_at : gCb y_MO_at R_MO b_MO_at 3 (some .int) 2 := ⟨⟨gt 842 (by decide +kernel) rfl, gt 57 (by decide +kernel) rfl, gt 94 (by decide +kernel) rfl, gt 843 rfl rfl⟩, by decide +kernel⟩
abbrev b_MO_room : ByteArray := prog_9_method_5_code
def y_MO_room : MethodName := ⟨R_MO, "room", "()I"⟩
set_option maxRecDepth 20000 in
theorem cb_MO_room : gCb y_MO_room R_MO b_MO_room 1 (some .int) 0 := ⟨⟨gt 854 (by decide +kernel) rfl, gt 60 (by decide +kernel) rfl, gt 94 (by decide +kernel) rfl, gt 855 rfl rfl⟩, by decide +kernel⟩
abbrev b_MO_most : ByteArray := prog_9_method_6_code
def y_MO_most : MethodName := ⟨R_MO, "most", "()I"⟩
set_option maxRecDepth 20000 in
theorem cb_MO_most : gCb y_MO_most R_MO b_MO_most 1 (some .int) 0 := ⟨⟨gt 866 (by decide +kernel) rfl, gt 62 (by decide +kernel) rfl, gt 94 (by decide +kernel) rfl, gt 867 rfl rfl⟩, by decide +kernel⟩
abbrev b_MO_sumOf : ByteArray := prog_9_method_7_code
def y_MO_sumOf : MethodName := ⟨R_MO, "sumOf", "(I)I"⟩
set_option maxRecDepth 20000 in
theorem cb_MO_sumOf : gCb y_MO_sumOf R_MO b_MO_sumOf 4 (some .int) 1 := ⟨⟨gt 838 (by decide +kernel) rfl, gt 56 (by decide +kernel) rfl, gt 94 (by decide +kernel) rfl, gt 839 rfl rfl⟩, by decide +kernel⟩
abbrev b_MO_clearRow : ByteArray := prog_9_method_8_code
def y_MO_clearRow : MethodName := ⟨R_MO, "clearRow", "()V"⟩
set_option maxRecDepth 20000 in
theorem cb_MO_clearRow : gCb y_MO_clearRow R_MO b_MO_clearRow 2 none 0 := ⟨⟨gt 830 (by decide +kernel) rfl, gt 54 (by decide +kernel) rfl, gt 94 (by decide +kernel) rfl, gt 831 rfl rfl⟩, by decide +kernel⟩
abbrev b_MO_write : ByteArray := prog_9_method_9_code
def y_MO_write : MethodName := ⟨R_MO, "write", "(I)V"⟩
set_option maxRecDepth 20000 in
theorem cb_MO_write : gCb y_MO_write R_MO b_MO_write 3 none 1 := ⟨⟨gt 834 (by decide +kernel) rfl, gt 55 (by decide +kernel) rfl, gt 94 (by decide +kernel) rfl, gt 835 rfl rfl⟩, by decide +kernel⟩
abbrev b_MO_blocksOf : ByteArray := prog_9_method_10_code
def y_MO_blocksOf : MethodName := ⟨R_MO, "blocksOf", "(II)I"⟩
set_option maxRecDepth 20000 in
theorem cb_MO_blocksOf : gCb y_MO_blocksOf R_MO b_MO_blocksOf 3 (some .int) 2 := ⟨⟨gt 850 (by decide +kernel) rfl, gt 59 (by decide +kernel) rfl, gt 94 (by decide +kernel) rfl, gt 851 rfl rfl⟩, by decide +kernel⟩
abbrev b_MO_markTaken : ByteArray := prog_9_method_11_code
def y_MO_markTaken : MethodName := ⟨R_MO, "markTaken", "()V"⟩
set_option maxRecDepth 20000 in
theorem cb_MO_markTaken : gCb y_MO_markTaken R_MO b_MO_markTaken 5 none 0 := ⟨⟨gt 846 (by decide +kernel) rfl, gt 58 (by decide +kernel) rfl, gt 94 (by decide +kernel) rfl, gt 847 rfl rfl⟩, by decide +kernel⟩
abbrev b_MO_isFree : ByteArray := prog_9_method_12_code
def y_MO_isFree : MethodName := ⟨R_MO, "isFree", "(I)Z"⟩
set_option maxRecDepth 20000 in
theorem cb_MO_isFree : gCb y_MO_isFree R_MO b_MO_isFree 2 (some .boolean) 1 := ⟨⟨gt 886 (by decide +kernel) rfl, gt 67 (by decide +kernel) rfl, gt 94 (by decide +kernel) rfl, gt 887 rfl rfl⟩, by decide +kernel⟩
abbrev b_MO_free : ByteArray := prog_9_method_13_code
def y_MO_free : MethodName := ⟨R_MO, "free", "()I"⟩
set_option maxRecDepth 20000 in
theorem cb_MO_free : gCb y_MO_free R_MO b_MO_free 3 (some .int) 0 := ⟨⟨gt 882 (by decide +kernel) rfl, gt 66 (by decide +kernel) rfl, gt 94 (by decide +kernel) rfl, gt 883 rfl rfl⟩, by decide +kernel⟩
abbrev b_MO_least : ByteArray := prog_9_method_14_code
def y_MO_least : MethodName := ⟨R_MO, "least", "(I)I"⟩
set_option maxRecDepth 20000 in
theorem cb_MO_least : gCb y_MO_least R_MO b_MO_least 2 (some .int) 1 := ⟨⟨gt 942 (by decide +kernel) rfl, gt 80 (by decide +kernel) rfl, gt 94 (by decide +kernel) rfl, gt 943 rfl rfl⟩, by decide +kernel⟩
abbrev b_MO_dropRun : ByteArray := prog_9_method_15_code
def y_MO_dropRun : MethodName := ⟨R_MO, "dropRun", "(I)V"⟩
set_option maxRecDepth 20000 in
theorem cb_MO_dropRun : gCb y_MO_dropRun R_MO b_MO_dropRun 3 none 1 := ⟨⟨gt 906 (by decide +kernel) rfl, gt 72 (by decide +kernel) rfl, gt 94 (by decide +kernel) rfl, gt 907 rfl rfl⟩, by decide +kernel⟩
abbrev b_MO_addRun : ByteArray := prog_9_method_16_code
def y_MO_addRun : MethodName := ⟨R_MO, "addRun", "(III)V"⟩
set_option maxRecDepth 20000 in
theorem cb_MO_addRun : gCb y_MO_addRun R_MO b_MO_addRun 4 none 3 := ⟨⟨gt 910 (by decide +kernel) rfl, gt 73 (by decide +kernel) rfl, gt 94 (by decide +kernel) rfl, gt 911 rfl rfl⟩, by decide +kernel⟩
abbrev b_MO_choose : ByteArray := prog_9_method_17_code
def y_MO_choose : MethodName := ⟨R_MO, "choose", "(I)Z"⟩
set_option maxRecDepth 20000 in
theorem cb_MO_choose : gCb y_MO_choose R_MO b_MO_choose 5 (some .boolean) 1 := ⟨⟨gt 878 (by decide +kernel) rfl, gt 65 (by decide +kernel) rfl, gt 94 (by decide +kernel) rfl, gt 879 rfl rfl⟩, by decide +kernel⟩
abbrev b_MO_takeFromMemory : ByteArray := prog_9_method_18_code
def y_MO_takeFromMemory : MethodName := ⟨R_MO, "takeFromMemory", "()I"⟩
set_option maxRecDepth 20000 in
theorem cb_MO_takeFromMemory : gCb y_MO_takeFromMemory R_MO b_MO_takeFromMemory 3 (some .int) 0 := ⟨⟨gt 894 (by decide +kernel) rfl, gt 69 (by decide +kernel) rfl, gt 94 (by decide +kernel) rfl, gt 895 rfl rfl⟩, by decide +kernel⟩
abbrev b_MO_headOf : ByteArray := prog_9_method_19_code
def y_MO_headOf : MethodName := ⟨R_MO, "headOf", "(I)I"⟩
set_option maxRecDepth 20000 in
theorem cb_MO_headOf : gCb y_MO_headOf R_MO b_MO_headOf 2 (some .int) 1 := ⟨⟨gt 902 (by decide +kernel) rfl, gt 71 (by decide +kernel) rfl, gt 94 (by decide +kernel) rfl, gt 903 rfl rfl⟩, by decide +kernel⟩
abbrev b_MO_takeFromRuns : ByteArray := prog_9_method_20_code
def y_MO_takeFromRuns : MethodName := ⟨R_MO, "takeFromRuns", "()I"⟩
set_option maxRecDepth 20000 in
theorem cb_MO_takeFromRuns : gCb y_MO_takeFromRuns R_MO b_MO_takeFromRuns 3 (some .int) 0 := ⟨⟨gt 898 (by decide +kernel) rfl, gt 70 (by decide +kernel) rfl, gt 94 (by decide +kernel) rfl, gt 899 rfl rfl⟩, by decide +kernel⟩
abbrev b_MO_writeKeys : ByteArray := prog_9_method_21_code
def y_MO_writeKeys : MethodName := ⟨R_MO, "writeKeys", "(IZ)V"⟩
set_option maxRecDepth 20000 in
theorem cb_MO_writeKeys : gCb y_MO_writeKeys R_MO b_MO_writeKeys 7 none 2 := ⟨⟨gt 890 (by decide +kernel) rfl, gt 68 (by decide +kernel) rfl, gt 94 (by decide +kernel) rfl, gt 891 rfl rfl⟩, by decide +kernel⟩
abbrev b_MO_merge : ByteArray := prog_9_method_22_code
def y_MO_merge : MethodName := ⟨R_MO, "merge", "(ZII)Z"⟩
set_option maxRecDepth 20000 in
theorem cb_MO_merge : gCb y_MO_merge R_MO b_MO_merge 7 (some .boolean) 3 := ⟨⟨gt 874 (by decide +kernel) rfl, gt 64 (by decide +kernel) rfl, gt 94 (by decide +kernel) rfl, gt 875 rfl rfl⟩, by decide +kernel⟩
abbrev b_MO_mergeAll : ByteArray := prog_9_method_23_code
def y_MO_mergeAll : MethodName := ⟨R_MO, "mergeAll", "()Z"⟩
set_option maxRecDepth 20000 in
theorem cb_MO_mergeAll : gCb y_MO_mergeAll R_MO b_MO_mergeAll 3 (some .boolean) 0 := ⟨⟨gt 870 (by decide +kernel) rfl, gt 63 (by decide +kernel) rfl, gt 94 (by decide +kernel) rfl, gt 871 rfl rfl⟩, by decide +kernel⟩
abbrev b_MO_runsOf : ByteArray := prog_9_method_24_code
def y_MO_runsOf : MethodName := ⟨R_MO, "runsOf", "(I)I"⟩
set_option maxRecDepth 20000 in
theorem cb_MO_runsOf : gCb y_MO_runsOf R_MO b_MO_runsOf 4 (some .int) 1 := ⟨⟨gt 918 (by decide +kernel) rfl, gt 75 (by decide +kernel) rfl, gt 94 (by decide +kernel) rfl, gt 919 rfl rfl⟩, by decide +kernel⟩
abbrev b_MO_crowded : ByteArray := prog_9_method_25_code
def y_MO_crowded : MethodName := ⟨R_MO, "crowded", "()I"⟩
set_option maxRecDepth 20000 in
theorem cb_MO_crowded : gCb y_MO_crowded R_MO b_MO_crowded 3 (some .int) 0 := ⟨⟨gt 914 (by decide +kernel) rfl, gt 74 (by decide +kernel) rfl, gt 94 (by decide +kernel) rfl, gt 915 rfl rfl⟩, by decide +kernel⟩
abbrev b_MO_spill : ByteArray := prog_9_method_26_code
def y_MO_spill : MethodName := ⟨R_MO, "spill", "()Z"⟩
set_option maxRecDepth 20000 in
theorem cb_MO_spill : gCb y_MO_spill R_MO b_MO_spill 4 (some .boolean) 0 := ⟨⟨gt 862 (by decide +kernel) rfl, gt 61 (by decide +kernel) rfl, gt 94 (by decide +kernel) rfl, gt 863 rfl rfl⟩, by decide +kernel⟩
abbrev b_MO_writeSuper : ByteArray := prog_9_method_27_code
def y_MO_writeSuper : MethodName := ⟨R_MO, "writeSuper", "()V"⟩
set_option maxRecDepth 20000 in
theorem cb_MO_writeSuper : gCb y_MO_writeSuper R_MO b_MO_writeSuper 2 none 0 := ⟨⟨gt 826 (by decide +kernel) rfl, gt 53 (by decide +kernel) rfl, gt 94 (by decide +kernel) rfl, gt 827 rfl rfl⟩, by decide +kernel⟩
abbrev b_MO_die : ByteArray := prog_9_method_28_code
def y_MO_die : MethodName := ⟨R_MO, "die", "()V"⟩
set_option maxRecDepth 20000 in
theorem cb_MO_die : gCb y_MO_die R_MO b_MO_die 1 none 0 := ⟨⟨gt 926 (by decide +kernel) rfl, gt 77 (by decide +kernel) rfl, gt 94 (by decide +kernel) rfl, gt 927 rfl rfl⟩, by decide +kernel⟩
abbrev b_MO_after : ByteArray := prog_9_method_29_code
def y_MO_after : MethodName := ⟨R_MO, "after", "(I)I"⟩
set_option maxRecDepth 20000 in
theorem cb_MO_after : gCb y_MO_after R_MO b_MO_after 2 (some .int) 1 := ⟨⟨gt 922 (by decide +kernel) rfl, gt 76 (by decide +kernel) rfl, gt 94 (by decide +kernel) rfl, gt 923 rfl rfl⟩, by decide +kernel⟩
abbrev b_MO_format : ByteArray := prog_9_method_30_code
def y_MO_format : MethodName := ⟨R_MO, "format", "(IIII)V"⟩
set_option maxRecDepth 20000 in
theorem cb_MO_format : gCb y_MO_format R_MO b_MO_format 6 none 4 := ⟨⟨gt 818 (by decide +kernel) rfl, gt 819 (by decide +kernel) rfl, gt 94 (by decide +kernel) rfl, gt 820 rfl rfl⟩, by decide +kernel⟩
abbrev b_MO_insert : ByteArray := prog_9_method_31_code
def y_MO_insert : MethodName := ⟨R_MO, "insert", "(I)I"⟩
set_option maxRecDepth 20000 in
theorem cb_MO_insert : gCb y_MO_insert R_MO b_MO_insert 3 (some .int) 1 := ⟨⟨gt 857 (by decide +kernel) rfl, gt 858 (by decide +kernel) rfl, gt 94 (by decide +kernel) rfl, gt 859 rfl rfl⟩, by decide +kernel⟩
abbrev b_MO_leastRun : ByteArray := prog_9_method_32_code
def y_MO_leastRun : MethodName := ⟨R_MO, "leastRun", "()I"⟩
set_option maxRecDepth 20000 in
theorem cb_MO_leastRun : gCb y_MO_leastRun R_MO b_MO_leastRun 3 (some .int) 0 := ⟨⟨gt 938 (by decide +kernel) rfl, gt 79 (by decide +kernel) rfl, gt 94 (by decide +kernel) rfl, gt 939 rfl rfl⟩, by decide +kernel⟩
abbrev b_MO_leastInMemory : ByteArray := prog_9_method_33_code
def y_MO_leastInMemory : MethodName := ⟨R_MO, "leastInMemory", "()I"⟩
set_option maxRecDepth 20000 in
theorem cb_MO_leastInMemory : gCb y_MO_leastInMemory R_MO b_MO_leastInMemory 3 (some .int) 0 := ⟨⟨gt 946 (by decide +kernel) rfl, gt 81 (by decide +kernel) rfl, gt 94 (by decide +kernel) rfl, gt 947 rfl rfl⟩, by decide +kernel⟩
abbrev b_MO_leastKey : ByteArray := prog_9_method_34_code
def y_MO_leastKey : MethodName := ⟨R_MO, "leastKey", "()I"⟩
set_option maxRecDepth 20000 in
theorem cb_MO_leastKey : gCb y_MO_leastKey R_MO b_MO_leastKey 3 (some .int) 0 := ⟨⟨gt 934 (by decide +kernel) rfl, gt 78 (by decide +kernel) rfl, gt 94 (by decide +kernel) rfl, gt 935 rfl rfl⟩, by decide +kernel⟩
abbrev b_MO_min : ByteArray := prog_9_method_35_code
def y_MO_min : MethodName := ⟨R_MO, "min", "()I"⟩
set_option maxRecDepth 20000 in
theorem cb_MO_min : gCb y_MO_min R_MO b_MO_min 1 (some .int) 0 := ⟨⟨gt 929 (by decide +kernel) rfl, gt 930 (by decide +kernel) rfl, gt 94 (by decide +kernel) rfl, gt 931 rfl rfl⟩, by decide +kernel⟩
abbrev b_MO_take : ByteArray := prog_9_method_36_code
def y_MO_take : MethodName := ⟨R_MO, "take", "()I"⟩
set_option maxRecDepth 20000 in
theorem cb_MO_take : gCb y_MO_take R_MO b_MO_take 3 (some .int) 0 := ⟨⟨gt 949 (by decide +kernel) rfl, gt 950 (by decide +kernel) rfl, gt 94 (by decide +kernel) rfl, gt 951 rfl rfl⟩, by decide +kernel⟩
abbrev b_MO_sync : ByteArray := prog_9_method_37_code
def y_MO_sync : MethodName := ⟨R_MO, "sync", "()I"⟩
set_option maxRecDepth 20000 in
theorem cb_MO_sync : gCb y_MO_sync R_MO b_MO_sync 1 (some .int) 0 := ⟨⟨gt 953 (by decide +kernel) rfl, gt 954 (by decide +kernel) rfl, gt 94 (by decide +kernel) rfl, gt 955 rfl rfl⟩, by decide +kernel⟩
abbrev b_MO_cutAt : ByteArray := prog_9_method_38_code
def y_MO_cutAt : MethodName := ⟨R_MO, "cutAt", "(I)V"⟩
set_option maxRecDepth 20000 in
theorem cb_MO_cutAt : gCb y_MO_cutAt R_MO b_MO_cutAt 2 none 1 := ⟨⟨gt 957 (by decide +kernel) rfl, gt 958 (by decide +kernel) rfl, gt 94 (by decide +kernel) rfl, gt 959 rfl rfl⟩, by decide +kernel⟩
abbrev b_MO_cut : ByteArray := prog_9_method_39_code
def y_MO_cut : MethodName := ⟨R_MO, "cut", "()V"⟩
set_option maxRecDepth 20000 in
theorem cb_MO_cut : gCb y_MO_cut R_MO b_MO_cut 1 none 0 := ⟨⟨gt 961 (by decide +kernel) rfl, gt 962 (by decide +kernel) rfl, gt 94 (by decide +kernel) rfl, gt 963 rfl rfl⟩, by decide +kernel⟩
abbrev b_MO_readRun : ByteArray := prog_9_method_40_code
def y_MO_readRun : MethodName := ⟨R_MO, "readRun", "(II)Z"⟩
set_option maxRecDepth 20000 in
theorem cb_MO_readRun : gCb y_MO_readRun R_MO b_MO_readRun 10 (some .boolean) 2 := ⟨⟨gt 974 (by decide +kernel) rfl, gt 83 (by decide +kernel) rfl, gt 94 (by decide +kernel) rfl, gt 975 rfl rfl⟩, by decide +kernel⟩
abbrev b_MO_readSuper : ByteArray := prog_9_method_41_code
def y_MO_readSuper : MethodName := ⟨R_MO, "readSuper", "(I)Z"⟩
set_option maxRecDepth 20000 in
theorem cb_MO_readSuper : gCb y_MO_readSuper R_MO b_MO_readSuper 6 (some .boolean) 1 := ⟨⟨gt 970 (by decide +kernel) rfl, gt 82 (by decide +kernel) rfl, gt 94 (by decide +kernel) rfl, gt 971 rfl rfl⟩, by decide +kernel⟩
abbrev b_MO_size0 : ByteArray := prog_9_method_42_code
def y_MO_size0 : MethodName := ⟨R_MO, "size0", "()I"⟩
set_option maxRecDepth 20000 in
theorem cb_MO_size0 : gCb y_MO_size0 R_MO b_MO_size0 3 (some .int) 0 := ⟨⟨gt 978 (by decide +kernel) rfl, gt 84 (by decide +kernel) rfl, gt 94 (by decide +kernel) rfl, gt 979 rfl rfl⟩, by decide +kernel⟩
abbrev b_MO_recover : ByteArray := prog_9_method_43_code
def y_MO_recover : MethodName := ⟨R_MO, "recover", "()I"⟩
set_option maxRecDepth 20000 in
theorem cb_MO_recover : gCb y_MO_recover R_MO b_MO_recover 5 (some .int) 0 := ⟨⟨gt 965 (by decide +kernel) rfl, gt 966 (by decide +kernel) rfl, gt 94 (by decide +kernel) rfl, gt 967 rfl rfl⟩, by decide +kernel⟩
abbrev b_MO_size : ByteArray := prog_9_method_44_code
def y_MO_size : MethodName := ⟨R_MO, "size", "()I"⟩
set_option maxRecDepth 20000 in
theorem cb_MO_size : gCb y_MO_size R_MO b_MO_size 1 (some .int) 0 := ⟨⟨gt 981 (by decide +kernel) rfl, gt 982 (by decide +kernel) rfl, gt 94 (by decide +kernel) rfl, gt 983 rfl rfl⟩, by decide +kernel⟩
abbrev b_MO_run : ByteArray := prog_9_method_45_code
def y_MO_run : MethodName := ⟨R_MO, "run", "(II)I"⟩
set_option maxRecDepth 20000 in
theorem cb_MO_run : gCb y_MO_run R_MO b_MO_run 3 (some .int) 2 := ⟨⟨gt 985 (by decide +kernel) rfl, gt 986 (by decide +kernel) rfl, gt 94 (by decide +kernel) rfl, gt 987 rfl rfl⟩, by decide +kernel⟩
abbrev b_MO_about : ByteArray := prog_9_method_46_code
def y_MO_about : MethodName := ⟨R_MO, "about", "(I)I"⟩
set_option maxRecDepth 20000 in
theorem cb_MO_about : gCb y_MO_about R_MO b_MO_about 2 (some .int) 1 := ⟨⟨gt 989 (by decide +kernel) rfl, gt 990 (by decide +kernel) rfl, gt 94 (by decide +kernel) rfl, gt 991 rfl rfl⟩, by decide +kernel⟩
abbrev b_MO_isWord : ByteArray := prog_9_method_47_code
def y_MO_isWord : MethodName := ⟨R_MO, "isWord", "(II)Z"⟩
set_option maxRecDepth 20000 in
theorem cb_MO_isWord : gCb y_MO_isWord R_MO b_MO_isWord 3 (some .boolean) 2 := ⟨⟨gt 998 (by decide +kernel) rfl, gt 85 (by decide +kernel) rfl, gt 94 (by decide +kernel) rfl, gt 999 rfl rfl⟩, by decide +kernel⟩
abbrev b_MO_word : ByteArray := prog_9_method_48_code
def y_MO_word : MethodName := ⟨R_MO, "word", "(II)I"⟩
set_option maxRecDepth 20000 in
theorem cb_MO_word : gCb y_MO_word R_MO b_MO_word 3 (some .int) 2 := ⟨⟨gt 993 (by decide +kernel) rfl, gt 994 (by decide +kernel) rfl, gt 94 (by decide +kernel) rfl, gt 995 rfl rfl⟩, by decide +kernel⟩
abbrev b_MO_spoil : ByteArray := prog_9_method_49_code
def y_MO_spoil : MethodName := ⟨R_MO, "spoil", "(III)V"⟩
set_option maxRecDepth 20000 in
theorem cb_MO_spoil : gCb y_MO_spoil R_MO b_MO_spoil 4 none 3 := ⟨⟨gt 1001 (by decide +kernel) rfl, gt 1002 (by decide +kernel) rfl, gt 94 (by decide +kernel) rfl, gt 1003 rfl rfl⟩, by decide +kernel⟩
abbrev b_KE_init : ByteArray := prog_4_method_1_code
def y_KE_init : MethodName := ⟨R_KE, "<init>", "()V"⟩
abbrev b_AR_fill : ByteArray := prog_19_method_103_code
def y_AR_fill : MethodName := ⟨R_AR, "fill", "([II)V"⟩
set_option maxRecDepth 20000 in
theorem cb_AR_fill : gSb y_AR_fill b_AR_fill 4 none 2 := ⟨⟨gt 372 (by decide +kernel) rfl, gt 99 (by decide +kernel) rfl, gt 373 rfl rfl⟩, by decide +kernel⟩
abbrev b_LA_format : ByteArray := method_3_code
def y_LA_format : MethodName := ⟨R_LA, "format", "(LSpillQueue;IIII)I"⟩
abbrev b_LA_insert : ByteArray := method_4_code
def y_LA_insert : MethodName := ⟨R_LA, "insert", "(LSpillQueue;I[J)I"⟩
abbrev b_LA_min : ByteArray := method_5_code
def y_LA_min : MethodName := ⟨R_LA, "min", "(LSpillQueue;[J)I"⟩
abbrev b_LA_take : ByteArray := method_6_code
def y_LA_take : MethodName := ⟨R_LA, "take", "(LSpillQueue;[J)I"⟩
abbrev b_LA_sync : ByteArray := method_7_code
def y_LA_sync : MethodName := ⟨R_LA, "sync", "(LSpillQueue;[J)I"⟩
abbrev b_LA_cutAt : ByteArray := method_8_code
def y_LA_cutAt : MethodName := ⟨R_LA, "cutAt", "(LSpillQueue;I)I"⟩
abbrev b_LA_cut : ByteArray := method_9_code
def y_LA_cut : MethodName := ⟨R_LA, "cut", "(LSpillQueue;)I"⟩
abbrev b_LA_recover : ByteArray := method_10_code
def y_LA_recover : MethodName := ⟨R_LA, "recover", "(LSpillQueue;[J)I"⟩
abbrev b_LA_run : ByteArray := method_11_code
def y_LA_run : MethodName := ⟨R_LA, "run", "(LSpillQueue;II[J)I"⟩
abbrev b_LA_about : ByteArray := method_12_code
def y_LA_about : MethodName := ⟨R_LA, "about", "(LSpillQueue;I[J)I"⟩
abbrev b_LA_word : ByteArray := method_13_code
def y_LA_word : MethodName := ⟨R_LA, "word", "(LSpillQueue;II[J)I"⟩
abbrev b_LA_spoil : ByteArray := method_14_code
def y_LA_spoil : MethodName := ⟨R_LA, "spoil", "(LSpillQueue;III)I"⟩
