/-! the words that stay, in whatever state a call begins -/
def x_tbl : List Cond := lw_tbl.filter goodWord
theorem x_in {w : Cond} (i : Nat) (h : lw_tbl[i]? = some w) (g : goodWord w = true) : w ∈ x_tbl := List.mem_filter.mpr ⟨List.mem_of_getElem? h, g⟩
theorem x_in0 {w : Cond} (i : Nat) (h : (k2_sels lw_privs)[i]? = some w) (g : goodWord w = true) : w ∈ x_tbl := List.mem_filter.mpr ⟨List.mem_append_left _ (List.mem_of_getElem? h), g⟩
theorem x_inT {w : Cond} (h : w ∈ tables_1) (g : goodWord w = true) : w ∈ x_tbl := List.mem_filter.mpr ⟨List.mem_append_right _ h, g⟩
theorem x_in1 {w : Cond} (i : Nat) (h : tables_1_1[i]? = some w) (g : goodWord w = true) : w ∈ x_tbl := x_inT (List.mem_append_left _ (List.mem_of_getElem? h)) g
theorem x_in2 {w : Cond} (i : Nat) (h : tables_1_2[i]? = some w) (g : goodWord w = true) : w ∈ x_tbl := x_inT (List.mem_append_right _ (List.mem_append_left _ (List.mem_of_getElem? h))) g
theorem x_in3 {w : Cond} (i : Nat) (h : tables_1_3[i]? = some w) (g : goodWord w = true) : w ∈ x_tbl := x_inT (List.mem_append_right _ (List.mem_append_right _ (List.mem_append_left _ (List.mem_of_getElem? h)))) g
theorem x_in4 {w : Cond} (i : Nat) (h : tables_1_4[i]? = some w) (g : goodWord w = true) : w ∈ x_tbl := x_inT (List.mem_append_right _ (List.mem_append_right _ (List.mem_append_right _ (List.mem_append_left _ (List.mem_of_getElem? h))))) g
theorem x_in5 {w : Cond} (i : Nat) (h : tables_1_5[i]? = some w) (g : goodWord w = true) : w ∈ x_tbl := x_inT (List.mem_append_right _ (List.mem_append_right _ (List.mem_append_right _ (List.mem_append_right _ (List.mem_append_left _ (List.mem_of_getElem? h)))))) g
theorem x_in6 {w : Cond} (i : Nat) (h : tables_1_6[i]? = some w) (g : goodWord w = true) : w ∈ x_tbl := x_inT (List.mem_append_right _ (List.mem_append_right _ (List.mem_append_right _ (List.mem_append_right _ (List.mem_append_right _ (List.mem_append_left _ (List.mem_of_getElem? h))))))) g
theorem x_in7 {w : Cond} (i : Nat) (h : tables_1_7[i]? = some w) (g : goodWord w = true) : w ∈ x_tbl := x_inT (List.mem_append_right _ (List.mem_append_right _ (List.mem_append_right _ (List.mem_append_right _ (List.mem_append_right _ (List.mem_append_right _ (List.mem_of_getElem? h))))))) g
theorem x_sub (ws : List Cond) (ps : List Nat) (hp : ps.map (fun i => lw_tbl[i]?) = ws.map some) (hg : ws.all goodWord = true) : ∀ w ∈ ws, w ∈ x_tbl := by
  intro w hw
  refine List.mem_filter.mpr ⟨?_, List.all_eq_true.mp hg w hw⟩
  have h1 : some w ∈ ws.map some := List.mem_map.mpr ⟨w, hw, rfl⟩
  rw [← hp] at h1
  obtain ⟨i, -, hi⟩ := List.mem_map.mp h1
  exact List.mem_of_getElem? hi
theorem x_good : ∀ w ∈ x_tbl, (w.onTables && w.keeps) = true ∨ ∃ ty, w = .arrayClass ty := fun w hw => good_of_word (List.mem_filter.mp hw).2
/-- a method: its name, code, number of locals, type of answer -/
abbrev xY : Type := MethodName × ByteArray × Nat × Option FieldType
/-- a method's listing -/
def x_okd (cc : ByteArray) (L : List (Nat × Instr × Nat)) : Bool := L.all (fun q => decide (decode cc q.1 = .ok q.2))
theorem x_d {cc : ByteArray} {L : List (Nat × Instr × Nat)} (h : x_okd cc L = true) (i : Nat) {pc len : Nat} {ins : Instr} (hi : L[i]? = some (pc, ins, len)) : decode cc pc = .ok (ins, len) := by
  have := List.all_eq_true.mp h _ (List.mem_of_getElem? hi)
  exact of_decide_eq_true this
def xF_PF : u_T := fun k => match k with
  | 0 => ("PaperFile", "text", "LPaperFile$Text;", true)
  | 1 => ("PaperFile", "parts", "LPaperFile$Parts;", true)
  | 2 => ("PaperFile", "reader", "LPaperFile$Reader;", true)
  | 3 => ("PaperFile", "opener", "LPaperFile$Opener;", true)
  | 4 => ("PaperFile", "writer", "LPaperFile$Writer;", true)
  | 5 => ("PaperFile", "decoder", "LPaperFile$Decoder;", true)
  | 6 => ("PaperFile", "walk", "LPaperFile$PageWalk;", true)
  | 7 => ("PaperFile", "book", "LPaperFile$Book;", false)
  | 8 => ("PaperFile", "otherBook", "LPaperFile$Book;", false)
  | 9 => ("PaperFile", "out", "LPaperFile$Pail;", false)
  | 10 => ("PaperFile", "otherOut", "LPaperFile$Pail;", false)
  | _ => ("PaperFile", "point", "I", false)
def xt_PF : Nat → FieldType := fun k => match k with
  | 0 => (.object "PaperFile$Text")
  | 1 => (.object "PaperFile$Parts")
  | 2 => (.object "PaperFile$Reader")
  | 3 => (.object "PaperFile$Opener")
  | 4 => (.object "PaperFile$Writer")
  | 5 => (.object "PaperFile$Decoder")
  | 6 => (.object "PaperFile$PageWalk")
  | 7 => (.object "PaperFile$Book")
  | 8 => (.object "PaperFile$Book")
  | 9 => (.object "PaperFile$Pail")
  | 10 => (.object "PaperFile$Pail")
  | _ => .int
theorem xn_PF : ∀ a, a < 12 → ∀ b, b < 12 → a ≠ b → (xF_PF a).2.1 ≠ (xF_PF b).2.1 := by decide +kernel
theorem xt_PF_ok : ∀ k, k < 12 → parseFieldDescriptor (xF_PF k).2.2.1 = some (xt_PF k) := by decide +kernel
set_option maxRecDepth 20000 in
theorem xi_PF : ∀ w ∈ u_ws "PaperFile" xF_PF 12, w ∈ x_tbl := x_sub _ [555, 557, 559, 561, 563, 565, 567, 569, 571, 573, 575, 577] (by decide +kernel) (by decide +kernel)
def xF_T : u_T := fun k => match k with
  | 0 => ("PaperFile$Text", "row", "[B", true)
  | 1 => ("PaperFile$Text", "regular", "[Z", true)
  | 2 => ("PaperFile$Text", "from", "I", false)
  | _ => ("PaperFile$Text", "to", "I", false)
def xt_T : Nat → FieldType := fun k => match k with
  | 0 => (.array .byte)
  | 1 => (.array .boolean)
  | 2 => .int
  | _ => .int
theorem xn_T : ∀ a, a < 4 → ∀ b, b < 4 → a ≠ b → (xF_T a).2.1 ≠ (xF_T b).2.1 := by decide +kernel
theorem xt_T_ok : ∀ k, k < 4 → parseFieldDescriptor (xF_T k).2.2.1 = some (xt_T k) := by decide +kernel
set_option maxRecDepth 20000 in
theorem xi_T : ∀ w ∈ u_ws "PaperFile$Text" xF_T 4, w ∈ x_tbl := x_sub _ [250, 252, 254, 256] (by decide +kernel) (by decide +kernel)
def xF_P : u_T := fun k => match k with
  | 0 => ("PaperFile$Parts", "kind", "[I", true)
  | 1 => ("PaperFile$Parts", "one", "[I", true)
  | 2 => ("PaperFile$Parts", "two", "[I", true)
  | 3 => ("PaperFile$Parts", "span", "[I", true)
  | 4 => ("PaperFile$Parts", "name", "[I", true)
  | 5 => ("PaperFile$Parts", "top", "I", false)
  | _ => ("PaperFile$Parts", "text", "LPaperFile$Text;", true)
def xt_P : Nat → FieldType := fun k => match k with
  | 0 => (.array .int)
  | 1 => (.array .int)
  | 2 => (.array .int)
  | 3 => (.array .int)
  | 4 => (.array .int)
  | 5 => .int
  | _ => (.object "PaperFile$Text")
theorem xn_P : ∀ a, a < 7 → ∀ b, b < 7 → a ≠ b → (xF_P a).2.1 ≠ (xF_P b).2.1 := by decide +kernel
theorem xt_P_ok : ∀ k, k < 7 → parseFieldDescriptor (xF_P k).2.2.1 = some (xt_P k) := by decide +kernel
set_option maxRecDepth 20000 in
theorem xi_P : ∀ w ∈ u_ws "PaperFile$Parts" xF_P 7, w ∈ x_tbl := x_sub _ [297, 299, 301, 303, 305, 307, 309] (by decide +kernel) (by decide +kernel)
def xF_R : u_T := fun k => match k with
  | 0 => ("PaperFile$Reader", "text", "LPaperFile$Text;", true)
  | _ => ("PaperFile$Reader", "parts", "LPaperFile$Parts;", true)
def xt_R : Nat → FieldType := fun k => match k with
  | 0 => (.object "PaperFile$Text")
  | _ => (.object "PaperFile$Parts")
theorem xn_R : ∀ a, a < 2 → ∀ b, b < 2 → a ≠ b → (xF_R a).2.1 ≠ (xF_R b).2.1 := by decide +kernel
theorem xt_R_ok : ∀ k, k < 2 → parseFieldDescriptor (xF_R k).2.2.1 = some (xt_R k) := by decide +kernel
set_option maxRecDepth 20000 in
theorem xi_R : ∀ w ∈ u_ws "PaperFile$Reader" xF_R 2, w ∈ x_tbl := x_sub _ [321, 323] (by decide +kernel) (by decide +kernel)
def xF_O : u_T := fun k => match k with
  | 0 => ("PaperFile$Opener", "text", "LPaperFile$Text;", true)
  | 1 => ("PaperFile$Opener", "parts", "LPaperFile$Parts;", true)
  | 2 => ("PaperFile$Opener", "reader", "LPaperFile$Reader;", true)
  | 3 => ("PaperFile$Opener", "places", "[I", true)
  | 4 => ("PaperFile$Opener", "table", "[I", true)
  | 5 => ("PaperFile$Opener", "place", "[I", true)
  | 6 => ("PaperFile$Opener", "stream", "[I", true)
  | 7 => ("PaperFile$Opener", "book", "LPaperFile$Book;", false)
  | 8 => ("PaperFile$Opener", "next", "I", false)
  | 9 => ("PaperFile$Opener", "more", "Z", false)
  | 10 => ("PaperFile$Opener", "highest", "I", false)
  | _ => ("PaperFile$Opener", "afterTrailerWord", "I", false)
def xt_O : Nat → FieldType := fun k => match k with
  | 0 => (.object "PaperFile$Text")
  | 1 => (.object "PaperFile$Parts")
  | 2 => (.object "PaperFile$Reader")
  | 3 => (.array .int)
  | 4 => (.array .int)
  | 5 => (.array .int)
  | 6 => (.array .int)
  | 7 => (.object "PaperFile$Book")
  | 8 => .int
  | 9 => .boolean
  | 10 => .int
  | _ => .int
theorem xn_O : ∀ a, a < 12 → ∀ b, b < 12 → a ≠ b → (xF_O a).2.1 ≠ (xF_O b).2.1 := by decide +kernel
theorem xt_O_ok : ∀ k, k < 12 → parseFieldDescriptor (xF_O k).2.2.1 = some (xt_O k) := by decide +kernel
set_option maxRecDepth 20000 in
theorem xi_O : ∀ w ∈ u_ws "PaperFile$Opener" xF_O 12, w ∈ x_tbl := x_sub _ [344, 346, 348, 350, 352, 354, 356, 358, 360, 362, 364, 366] (by decide +kernel) (by decide +kernel)
def xF_Wr : u_T := fun k => match k with
  | 0 => ("PaperFile$Writer", "text", "LPaperFile$Text;", true)
  | 1 => ("PaperFile$Writer", "parts", "LPaperFile$Parts;", true)
  | 2 => ("PaperFile$Writer", "place", "[I", true)
  | 3 => ("PaperFile$Writer", "book", "LPaperFile$Book;", false)
  | _ => ("PaperFile$Writer", "pail", "LPaperFile$Pail;", false)
def xt_Wr : Nat → FieldType := fun k => match k with
  | 0 => (.object "PaperFile$Text")
  | 1 => (.object "PaperFile$Parts")
  | 2 => (.array .int)
  | 3 => (.object "PaperFile$Book")
  | _ => (.object "PaperFile$Pail")
theorem xn_Wr : ∀ a, a < 5 → ∀ b, b < 5 → a ≠ b → (xF_Wr a).2.1 ≠ (xF_Wr b).2.1 := by decide +kernel
theorem xt_Wr_ok : ∀ k, k < 5 → parseFieldDescriptor (xF_Wr k).2.2.1 = some (xt_Wr k) := by decide +kernel
set_option maxRecDepth 20000 in
theorem xi_Wr : ∀ w ∈ u_ws "PaperFile$Writer" xF_Wr 5, w ∈ x_tbl := x_sub _ [380, 382, 384, 386, 388] (by decide +kernel) (by decide +kernel)
def xF_D : u_T := fun k => match k with
  | 0 => ("PaperFile$Decoder", "text", "LPaperFile$Text;", true)
  | 1 => ("PaperFile$Decoder", "parts", "LPaperFile$Parts;", true)
  | 2 => ("PaperFile$Decoder", "sink", "LPaperFile$Pail;", false)
  | 3 => ("PaperFile$Decoder", "otherSink", "LPaperFile$Pail;", false)
  | 4 => ("PaperFile$Decoder", "source", "[B", false)
  | 5 => ("PaperFile$Decoder", "from", "I", false)
  | _ => ("PaperFile$Decoder", "to", "I", false)
def xt_D : Nat → FieldType := fun k => match k with
  | 0 => (.object "PaperFile$Text")
  | 1 => (.object "PaperFile$Parts")
  | 2 => (.object "PaperFile$Pail")
  | 3 => (.object "PaperFile$Pail")
  | 4 => (.array .byte)
  | 5 => .int
  | _ => .int
theorem xn_D : ∀ a, a < 7 → ∀ b, b < 7 → a ≠ b → (xF_D a).2.1 ≠ (xF_D b).2.1 := by decide +kernel
theorem xt_D_ok : ∀ k, k < 7 → parseFieldDescriptor (xF_D k).2.2.1 = some (xt_D k) := by decide +kernel
set_option maxRecDepth 20000 in
theorem xi_D : ∀ w ∈ u_ws "PaperFile$Decoder" xF_D 7, w ∈ x_tbl := x_sub _ [433, 435, 437, 439, 441, 443, 445] (by decide +kernel) (by decide +kernel)
def xF_Pa : u_T := fun k => match k with
  | 0 => ("PaperFile$Pail", "row", "[B", true)
  | 1 => ("PaperFile$Pail", "size", "I", false)
  | 2 => ("PaperFile$Pail", "over", "Z", false)
  | _ => ("PaperFile$Pail", "limit", "I", false)
def xt_Pa : Nat → FieldType := fun k => match k with
  | 0 => (.array .byte)
  | 1 => .int
  | 2 => .boolean
  | _ => .int
theorem xn_Pa : ∀ a, a < 4 → ∀ b, b < 4 → a ≠ b → (xF_Pa a).2.1 ≠ (xF_Pa b).2.1 := by decide +kernel
theorem xt_Pa_ok : ∀ k, k < 4 → parseFieldDescriptor (xF_Pa k).2.2.1 = some (xt_Pa k) := by decide +kernel
set_option maxRecDepth 20000 in
theorem xi_Pa : ∀ w ∈ u_ws "PaperFile$Pail" xF_Pa 4, w ∈ x_tbl := x_sub _ [414, 416, 418, 420] (by decide +kernel) (by decide +kernel)
def xF_PW : u_T := fun k => match k with
  | 0 => ("PaperFile$PageWalk", "numbers", "[I", true)
  | 1 => ("PaperFile$PageWalk", "found", "I", false)
  | 2 => ("PaperFile$PageWalk", "seen", "[Z", true)
  | 3 => ("PaperFile$PageWalk", "parts", "LPaperFile$Parts;", true)
  | _ => ("PaperFile$PageWalk", "book", "LPaperFile$Book;", false)
def xt_PW : Nat → FieldType := fun k => match k with
  | 0 => (.array .int)
  | 1 => .int
  | 2 => (.array .boolean)
  | 3 => (.object "PaperFile$Parts")
  | _ => (.object "PaperFile$Book")
theorem xn_PW : ∀ a, a < 5 → ∀ b, b < 5 → a ≠ b → (xF_PW a).2.1 ≠ (xF_PW b).2.1 := by decide +kernel
theorem xt_PW_ok : ∀ k, k < 5 → parseFieldDescriptor (xF_PW k).2.2.1 = some (xt_PW k) := by decide +kernel
set_option maxRecDepth 20000 in
theorem xi_PW : ∀ w ∈ u_ws "PaperFile$PageWalk" xF_PW 5, w ∈ x_tbl := x_sub _ [461, 463, 465, 467, 469] (by decide +kernel) (by decide +kernel)
def xF_B : u_T := fun k => match k with
  | 0 => ("PaperFile$Book", "root", "[I", true)
  | 1 => ("PaperFile$Book", "generation", "[I", true)
  | 2 => ("PaperFile$Book", "used", "[Z", true)
  | 3 => ("PaperFile$Book", "changed", "[Z", true)
  | 4 => ("PaperFile$Book", "poured", "[Z", true)
  | 5 => ("PaperFile$Book", "size", "I", false)
  | 6 => ("PaperFile$Book", "tables", "I", false)
  | 7 => ("PaperFile$Book", "latest", "I", false)
  | 8 => ("PaperFile$Book", "trailer", "I", false)
  | 9 => ("PaperFile$Book", "from", "I", false)
  | 10 => ("PaperFile$Book", "to", "I", false)
  | _ => ("PaperFile$Book", "parts", "LPaperFile$Parts;", true)
def xt_B : Nat → FieldType := fun k => match k with
  | 0 => (.array .int)
  | 1 => (.array .int)
  | 2 => (.array .boolean)
  | 3 => (.array .boolean)
  | 4 => (.array .boolean)
  | 5 => .int
  | 6 => .int
  | 7 => .int
  | 8 => .int
  | 9 => .int
  | 10 => .int
  | _ => (.object "PaperFile$Parts")
theorem xn_B : ∀ a, a < 12 → ∀ b, b < 12 → a ≠ b → (xF_B a).2.1 ≠ (xF_B b).2.1 := by decide +kernel
theorem xt_B_ok : ∀ k, k < 12 → parseFieldDescriptor (xF_B k).2.2.1 = some (xt_B k) := by decide +kernel
set_option maxRecDepth 20000 in
theorem xi_B : ∀ w ∈ u_ws "PaperFile$Book" xF_B 12, w ∈ x_tbl := x_sub _ [516, 518, 520, 522, 524, 526, 528, 530, 532, 534, 536, 538] (by decide +kernel) (by decide +kernel)
def xF_M : u_T := fun k => match k with
  | 0 => ("PaperFileModel", "text", "[B", false)
  | 1 => ("PaperFileModel", "size", "I", false)
  | 2 => ("PaperFileModel", "at", "I", false)
  | 3 => ("PaperFileModel", "taken", "[B", true)
  | 4 => ("PaperFileModel", "tape", "[B", true)
  | 5 => ("PaperFileModel", "tapeMany", "I", false)
  | 6 => ("PaperFileModel", "file", "LPaperFileModel$Paper;", false)
  | 7 => ("PaperFileModel", "point", "LPaperFileModel$Part;", false)
  | 8 => ("PaperFileModel", "out", "[B", true)
  | 9 => ("PaperFileModel", "outMany", "I", false)
  | 10 => ("PaperFileModel", "older", "I", false)
  | 11 => ("PaperFileModel", "first", "[B", true)
  | 12 => ("PaperFileModel", "second", "[B", true)
  | 13 => ("PaperFileModel", "many", "I", false)
  | 14 => ("PaperFileModel", "page", "[B", true)
  | 15 => ("PaperFileModel", "written", "I", false)
  | 16 => ("PaperFileModel", "tooMany", "Z", false)
  | 17 => ("PaperFileModel", "spot", "[I", true)
  | 18 => ("PaperFileModel", "seen", "[Z", true)
  | 19 => ("PaperFileModel", "pageOf", "[I", true)
  | _ => ("PaperFileModel", "pageMany", "I", false)
def xt_M : Nat → FieldType := fun k => match k with
  | 0 => (.array .byte)
  | 1 => .int
  | 2 => .int
  | 3 => (.array .byte)
  | 4 => (.array .byte)
  | 5 => .int
  | 6 => (.object "PaperFileModel$Paper")
  | 7 => (.object "PaperFileModel$Part")
  | 8 => (.array .byte)
  | 9 => .int
  | 10 => .int
  | 11 => (.array .byte)
  | 12 => (.array .byte)
  | 13 => .int
  | 14 => (.array .byte)
  | 15 => .int
  | 16 => .boolean
  | 17 => (.array .int)
  | 18 => (.array .boolean)
  | 19 => (.array .int)
  | _ => .int
theorem xn_M : ∀ a, a < 21 → ∀ b, b < 21 → a ≠ b → (xF_M a).2.1 ≠ (xF_M b).2.1 := by decide +kernel
theorem xt_M_ok : ∀ k, k < 21 → parseFieldDescriptor (xF_M k).2.2.1 = some (xt_M k) := by decide +kernel
set_option maxRecDepth 20000 in
theorem xi_M : ∀ w ∈ u_ws "PaperFileModel" xF_M 21, w ∈ x_tbl := x_sub _ [1222, 1224, 1226, 1228, 1230, 1232, 1234, 1236, 1238, 1240, 1242, 1244, 1246, 1248, 1250, 1252, 1254, 1256, 1258, 1260, 1262] (by decide +kernel) (by decide +kernel)
def xF_MP : u_T := fun k => match k with
  | 0 => ("PaperFileModel$Paper", "bytes", "[B", false)
  | 1 => ("PaperFileModel$Paper", "tables", "I", false)
  | 2 => ("PaperFileModel$Paper", "latest", "I", false)
  | 3 => ("PaperFileModel$Paper", "trailer", "LPaperFileModel$Part;", false)
  | 4 => ("PaperFileModel$Paper", "is", "[I", true)
  | 5 => ("PaperFileModel$Paper", "generation", "[I", true)
  | 6 => ("PaperFileModel$Paper", "place", "[J", true)
  | 7 => ("PaperFileModel$Paper", "value", "[LPaperFileModel$Part;", true)
  | 8 => ("PaperFileModel$Paper", "changed", "[Z", true)
  | _ => ("PaperFileModel$Paper", "size", "I", false)
def xt_MP : Nat → FieldType := fun k => match k with
  | 0 => (.array .byte)
  | 1 => .int
  | 2 => .int
  | 3 => (.object "PaperFileModel$Part")
  | 4 => (.array .int)
  | 5 => (.array .int)
  | 6 => (.array .long)
  | 7 => (.array (.object "PaperFileModel$Part"))
  | 8 => (.array .boolean)
  | _ => .int
theorem xn_MP : ∀ a, a < 10 → ∀ b, b < 10 → a ≠ b → (xF_MP a).2.1 ≠ (xF_MP b).2.1 := by decide +kernel
theorem xt_MP_ok : ∀ k, k < 10 → parseFieldDescriptor (xF_MP k).2.2.1 = some (xt_MP k) := by decide +kernel
set_option maxRecDepth 20000 in
theorem xi_MP : ∀ w ∈ u_ws "PaperFileModel$Paper" xF_MP 10, w ∈ x_tbl := x_sub _ [1303, 1305, 1307, 1309, 1311, 1313, 1315, 1317, 1319, 1321] (by decide +kernel) (by decide +kernel)
def xF_MQ : u_T := fun k => match k with
  | 0 => ("PaperFileModel$Part", "kind", "I", true)
  | 1 => ("PaperFileModel$Part", "x", "I", false)
  | 2 => ("PaperFileModel$Part", "y", "I", false)
  | 3 => ("PaperFileModel$Part", "many", "I", false)
  | 4 => ("PaperFileModel$Part", "bytes", "[B", false)
  | 5 => ("PaperFileModel$Part", "item", "[LPaperFileModel$Part;", false)
  | _ => ("PaperFileModel$Part", "name", "[[B", false)
def xt_MQ : Nat → FieldType := fun k => match k with
  | 0 => .int
  | 1 => .int
  | 2 => .int
  | 3 => .int
  | 4 => (.array .byte)
  | 5 => (.array (.object "PaperFileModel$Part"))
  | _ => (.array (.array .byte))
theorem xn_MQ : ∀ a, a < 7 → ∀ b, b < 7 → a ≠ b → (xF_MQ a).2.1 ≠ (xF_MQ b).2.1 := by decide +kernel
theorem xt_MQ_ok : ∀ k, k < 7 → parseFieldDescriptor (xF_MQ k).2.2.1 = some (xt_MQ k) := by decide +kernel
set_option maxRecDepth 20000 in
theorem xi_MQ : ∀ w ∈ u_ws "PaperFileModel$Part" xF_MQ 7, w ∈ x_tbl := x_sub _ [1414, 1416, 1418, 1420, 1422, 1424, 1426] (by decide +kernel) (by decide +kernel)
abbrev x_cl : List vw_C := [("PaperFile", xF_PF, 12), ("PaperFile$Text", xF_T, 4), ("PaperFile$Parts", xF_P, 7), ("PaperFile$Reader", xF_R, 2), ("PaperFile$Opener", xF_O, 12), ("PaperFile$Writer", xF_Wr, 5), ("PaperFile$Decoder", xF_D, 7), ("PaperFile$Pail", xF_Pa, 4), ("PaperFile$PageWalk", xF_PW, 5), ("PaperFile$Book", xF_B, 12), ("PaperFileModel", xF_M, 21), ("PaperFileModel$Paper", xF_MP, 10), ("PaperFileModel$Part", xF_MQ, 7)]
def x_nM : List (String × Nat × MethodName × String) := [("PaperFile$Opener", 157, ⟨"PaperFile$Reader", "read", "(II)I"⟩, "PaperFile"), ("PaperFile$Text", 60, ⟨"PaperFile", "hexDigit", "(I)I"⟩, "PaperFile"), ("PaperFile$Decoder", 107, ⟨"PaperFile", "hexDigit", "(I)I"⟩, "PaperFile"), ("PaperFile", 218, ⟨"PaperFile$Reader", "read", "(II)I"⟩, "PaperFile"), ("PaperFileModel", 198, ⟨"PaperFileModel$Paper", "<init>", "()V"⟩, "PaperFileModel"), ("PaperFileModel$Part", 30, ⟨"PaperFileModel", "isLike", "([B[BII)Z"⟩, "PaperFileModel")]
def x_nF : List (String × Nat × String × String × String × String) := []
