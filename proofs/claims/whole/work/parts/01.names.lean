/-! names, by program (wip/printnames.py): the kinds of objects, the tables, the words -/
def T_FP : u_T := fun k => match k with
  | 0 => ("FaxPages", "file", "LFaxPages$Bytes;", true)
  | 1 => ("FaxPages", "bits", "LFaxPages$BitReader;", true)
  | 2 => ("FaxPages", "tags", "LFaxPages$Tags;", true)
  | 3 => ("FaxPages", "plain", "LFaxPages$Packing;", true)
  | 4 => ("FaxPages", "runs", "LFaxPages$Packing;", true)
  | 5 => ("FaxPages", "table", "LFaxPages$Packing;", true)
  | 6 => ("FaxPages", "g3", "LFaxPages$Packing;", true)
  | 7 => ("FaxPages", "g4", "LFaxPages$Packing;", true)
  | 8 => ("FaxPages", "stripPlaces", "[I", true)
  | 9 => ("FaxPages", "stripSizes", "[I", true)
  | 10 => ("FaxPages", "picture", "LFaxPages$Picture;", false)
  | 11 => ("FaxPages", "draft", "LFaxPages$Picture;", false)
  | 12 => ("FaxPages", "fileKnown", "Z", false)
  | 13 => ("FaxPages", "knownScheme", "I", false)
  | 14 => ("FaxPages", "knownMotorola", "Z", false)
  | 15 => ("FaxPages", "knownRows", "I", false)
  | _ => ("FaxPages", "knownStrips", "I", false)
def t_FP : Nat → FieldType := fun k => match k with
  | 0 => .object "FaxPages$Bytes"
  | 1 => .object "FaxPages$BitReader"
  | 2 => .object "FaxPages$Tags"
  | 3 => .object "FaxPages$Packing"
  | 4 => .object "FaxPages$Packing"
  | 5 => .object "FaxPages$Packing"
  | 6 => .object "FaxPages$Packing"
  | 7 => .object "FaxPages$Packing"
  | 8 => .array .int
  | 9 => .array .int
  | 10 => .object "FaxPages$Picture"
  | 11 => .object "FaxPages$Picture"
  | 12 => .boolean
  | 13 => .int
  | 14 => .boolean
  | 15 => .int
  | _ => .int
def T_BY : u_T := fun k => match k with
  | 0 => ("FaxPages$Bytes", "bytes", "[I", true)
  | 1 => ("FaxPages$Bytes", "used", "I", false)
  | 2 => ("FaxPages$Bytes", "motorola", "Z", false)
  | _ => ("FaxPages$Bytes", "freeBits", "I", false)
def t_BY : Nat → FieldType := fun k => match k with
  | 0 => .array .int
  | 1 => .int
  | 2 => .boolean
  | _ => .int
def T_BR : u_T := fun k => match k with
  | 0 => ("FaxPages$BitReader", "file", "LFaxPages$Bytes;", true)
  | 1 => ("FaxPages$BitReader", "next", "I", false)
  | _ => ("FaxPages$BitReader", "end", "I", false)
def t_BR : Nat → FieldType := fun k => match k with
  | 0 => .object "FaxPages$Bytes"
  | 1 => .int
  | _ => .int
def T_LI : u_T := fun k => match k with
  | 0 => ("FaxPages$Lines", "file", "LFaxPages$Bytes;", true)
  | 1 => ("FaxPages$Lines", "bits", "LFaxPages$BitReader;", true)
  | 2 => ("FaxPages$Lines", "whiteRuns", "LFaxPages$CodeTree;", true)
  | 3 => ("FaxPages$Lines", "blackRuns", "LFaxPages$CodeTree;", true)
  | _ => ("FaxPages$Lines", "modes", "LFaxPages$CodeTree;", true)
def t_LI : Nat → FieldType := fun k => match k with
  | 0 => .object "FaxPages$Bytes"
  | 1 => .object "FaxPages$BitReader"
  | 2 => .object "FaxPages$CodeTree"
  | 3 => .object "FaxPages$CodeTree"
  | _ => .object "FaxPages$CodeTree"
def T_CT : u_T := fun k => match k with
  | _ => ("FaxPages$CodeTree", "ways", "[I", true)
def t_CT : Nat → FieldType := fun k => match k with
  | _ => .array .int
def T_TG : u_T := fun k => match k with
  | 0 => ("FaxPages$Tags", "file", "LFaxPages$Bytes;", true)
  | 1 => ("FaxPages$Tags", "found", "[I", true)
  | 2 => ("FaxPages$Tags", "gray", "Z", false)
  | 3 => ("FaxPages$Tags", "width", "I", false)
  | 4 => ("FaxPages$Tags", "height", "I", false)
  | 5 => ("FaxPages$Tags", "scheme", "I", false)
  | 6 => ("FaxPages$Tags", "rows", "I", false)
  | _ => ("FaxPages$Tags", "strips", "I", false)
def t_TG : Nat → FieldType := fun k => match k with
  | 0 => .object "FaxPages$Bytes"
  | 1 => .array .int
  | 2 => .boolean
  | 3 => .int
  | 4 => .int
  | 5 => .int
  | 6 => .int
  | _ => .int
def T_PL : u_T := fun k => match k with
  | 0 => ("FaxPages$Plain", "file", "LFaxPages$Bytes;", true)
  | _ => ("FaxPages$Plain", "bits", "LFaxPages$BitReader;", true)
def t_PL : Nat → FieldType := fun k => match k with
  | 0 => .object "FaxPages$Bytes"
  | _ => .object "FaxPages$BitReader"
def T_RU : u_T := fun k => match k with
  | 0 => ("FaxPages$Runs", "file", "LFaxPages$Bytes;", true)
  | 1 => ("FaxPages$Runs", "bits", "LFaxPages$BitReader;", true)
  | _ => ("FaxPages$Runs", "row", "[I", true)
def t_RU : Nat → FieldType := fun k => match k with
  | 0 => .object "FaxPages$Bytes"
  | 1 => .object "FaxPages$BitReader"
  | _ => .array .int
def T_TA : u_T := fun k => match k with
  | 0 => ("FaxPages$Table", "file", "LFaxPages$Bytes;", true)
  | 1 => ("FaxPages$Table", "bits", "LFaxPages$BitReader;", true)
  | 2 => ("FaxPages$Table", "bytes", "[I", true)
  | 3 => ("FaxPages$Table", "longer", "[I", true)
  | 4 => ("FaxPages$Table", "nextLonger", "[I", true)
  | 5 => ("FaxPages$Table", "lastByte", "[I", true)
  | 6 => ("FaxPages$Table", "begin", "[I", true)
  | 7 => ("FaxPages$Table", "length", "[I", true)
  | 8 => ("FaxPages$Table", "written", "I", false)
  | _ => ("FaxPages$Table", "made", "I", false)
def t_TA : Nat → FieldType := fun k => match k with
  | 0 => .object "FaxPages$Bytes"
  | 1 => .object "FaxPages$BitReader"
  | 2 => .array .int
  | 3 => .array .int
  | 4 => .array .int
  | 5 => .array .int
  | 6 => .array .int
  | 7 => .array .int
  | 8 => .int
  | _ => .int
def T_FX : u_T := fun k => match k with
  | 0 => ("FaxPages$Fax", "marked", "Z", true)
  | 1 => ("FaxPages$Fax", "lines", "LFaxPages$Lines;", true)
  | 2 => ("FaxPages$Fax", "file", "LFaxPages$Bytes;", true)
  | _ => ("FaxPages$Fax", "bits", "LFaxPages$BitReader;", true)
def t_FX : Nat → FieldType := fun k => match k with
  | 0 => .boolean
  | 1 => .object "FaxPages$Lines"
  | 2 => .object "FaxPages$Bytes"
  | _ => .object "FaxPages$BitReader"
def T_PI : u_T := fun k => match k with
  | 0 => ("FaxPages$Picture", "pixels", "[I", true)
  | 1 => ("FaxPages$Picture", "gray", "Z", false)
  | 2 => ("FaxPages$Picture", "width", "I", false)
  | _ => ("FaxPages$Picture", "height", "I", false)
def t_PI : Nat → FieldType := fun k => match k with
  | 0 => .array .int
  | 1 => .boolean
  | 2 => .int
  | _ => .int
def T_MO : u_T := fun k => match k with
  | 0 => ("FaxPagesModel", "fault", "I", false)
  | 1 => ("FaxPagesModel", "gray", "Z", false)
  | 2 => ("FaxPagesModel", "width", "I", false)
  | 3 => ("FaxPagesModel", "height", "I", false)
  | 4 => ("FaxPagesModel", "pixels", "[I", true)
  | 5 => ("FaxPagesModel", "size", "I", false)
  | 6 => ("FaxPagesModel", "file", "[I", true)
  | 7 => ("FaxPagesModel", "lastScheme", "I", false)
  | 8 => ("FaxPagesModel", "lastOrder", "I", false)
  | 9 => ("FaxPagesModel", "lastRows", "I", false)
  | 10 => ("FaxPagesModel", "lastStrips", "I", false)
  | 11 => ("FaxPagesModel", "big", "Z", false)
  | 12 => ("FaxPagesModel", "scheme", "I", false)
  | 13 => ("FaxPagesModel", "rows", "I", false)
  | 14 => ("FaxPagesModel", "isGray", "Z", false)
  | 15 => ("FaxPagesModel", "wide", "I", false)
  | 16 => ("FaxPagesModel", "tall", "I", false)
  | 17 => ("FaxPagesModel", "fresh", "[I", true)
  | 18 => ("FaxPagesModel", "waiting", "I", false)
  | 19 => ("FaxPagesModel", "waitingCount", "I", false)
  | 20 => ("FaxPagesModel", "bit", "I", false)
  | 21 => ("FaxPagesModel", "bitEnd", "I", false)
  | 22 => ("FaxPagesModel", "bad", "Z", false)
  | 23 => ("FaxPagesModel", "codes", "[I", true)
  | 24 => ("FaxPagesModel", "now", "[I", true)
  | 25 => ("FaxPagesModel", "above", "[I", true)
  | 26 => ("FaxPagesModel", "strip", "[I", true)
  | 27 => ("FaxPagesModel", "stripCount", "I", false)
  | 28 => ("FaxPagesModel", "entries", "I", false)
  | 29 => ("FaxPagesModel", "begins", "[I", true)
  | 30 => ("FaxPagesModel", "ends", "[I", true)
  | 31 => ("FaxPagesModel", "places", "[I", true)
  | 32 => ("FaxPagesModel", "lengths", "[I", true)
  | 33 => ("FaxPagesModel", "has", "[Z", true)
  | 34 => ("FaxPagesModel", "types", "[I", true)
  | 35 => ("FaxPagesModel", "counts", "[J", true)
  | _ => ("FaxPagesModel", "values", "[J", true)
def t_MO : Nat → FieldType := fun k => match k with
  | 0 => .int
  | 1 => .boolean
  | 2 => .int
  | 3 => .int
  | 4 => .array .int
  | 5 => .int
  | 6 => .array .int
  | 7 => .int
  | 8 => .int
  | 9 => .int
  | 10 => .int
  | 11 => .boolean
  | 12 => .int
  | 13 => .int
  | 14 => .boolean
  | 15 => .int
  | 16 => .int
  | 17 => .array .int
  | 18 => .int
  | 19 => .int
  | 20 => .int
  | 21 => .int
  | 22 => .boolean
  | 23 => .array .int
  | 24 => .array .int
  | 25 => .array .int
  | 26 => .array .int
  | 27 => .int
  | 28 => .int
  | 29 => .array .int
  | 30 => .array .int
  | 31 => .array .int
  | 32 => .array .int
  | 33 => .array .boolean
  | 34 => .array .int
  | 35 => .array .long
  | _ => .array .long
abbrev fx_cl : List vw_C := [("FaxPages", T_FP, 17), ("FaxPages$Bytes", T_BY, 4), ("FaxPages$BitReader", T_BR, 3), ("FaxPages$Lines", T_LI, 5), ("FaxPages$CodeTree", T_CT, 1), ("FaxPages$Tags", T_TG, 8), ("FaxPages$Plain", T_PL, 2), ("FaxPages$Runs", T_RU, 3), ("FaxPages$Table", T_TA, 10), ("FaxPages$Fax", T_FX, 4), ("FaxPages$Picture", T_PI, 4), ("FaxPagesModel", T_MO, 37)]
def fx_kds : List (List Bool) := [[true, true, true, true, true, true, true, true, true, true, true, true, false, false, false, false, false], [true, false, false, false], [true, false, false], [true, true, true, true, true], [true], [true, true, false, false, false, false, false, false], [true, true], [true, true, true], [true, true, true, true, true, true, true, true, false, false], [false, true, true, true], [true, false, false, false], [false, false, false, false, true, false, true, false, false, false, false, false, false, false, false, false, false, true, false, false, false, false, false, true, true, true, true, false, false, true, true, true, true, true, true, true, true]]
def fx_kd (ci k : Nat) : Bool := (fx_kds.getD ci []).getD k false
def fx_nfs : List Nat := [17, 4, 3, 5, 1, 8, 2, 3, 10, 4, 4, 37]
def fx_nf (ci : Nat) : Nat := fx_nfs.getD ci 0
def fx_tNU : List Int := [256, 257, 258, 259, 262, 273, 278, 279, 292]
def fx_tWR : List Int := [309, 71, 23, 24, 27, 28, 30, 31, 51, 52, 39, 40, 72, 67, 116, 117, 106, 107, 167, 140, 136, 151, 131, 132, 168, 171, 147, 164, 152, 258, 259, 282, 283, 274, 275, 276, 277, 278, 279, 296, 297]
def fx_tBL : List Int := [1079, 10, 7, 6, 11, 19, 18, 35, 69, 68, 132, 133, 135, 260, 263, 536, 1047, 1048, 1032, 2151, 2152, 2156, 2103, 2088, 2071, 2072, 4298, 4299, 4300, 4301, 4200, 4201, 4202, 4203, 4306, 4307, 4308, 4309, 4310, 4311, 4204]
def fx_tMD : List Int := [130, 66, 10, 3, 11, 67, 131, 17, 9]
def fx_tabs : List (String × Nat × (Nat → Int)) := [("NUMBERS", 9, fun j => fx_tNU.getD j 0), ("WHITE_RUNS", 41, fun j => fx_tWR.getD j 0), ("BLACK_RUNS", 41, fun j => fx_tBL.getD j 0), ("MODES", 9, fun j => fx_tMD.getD j 0)]
/-- the words that a contract may take along -/
def fx_tb : List Cond := lw_tbl.filter goodWord
/-- words that hold on as the tables warm, but are told beside -/
def fx_isx : Cond → Bool
  | .fieldLinkNest .. | .methodLinkNest .. | .declares _ | .publicMethod _ | .unhidden .. | .castable .. => true
  | .interfaceMethod r o n d => Cond.faceAtom (.interfaceMethod r o n d)
  | _ => false
def fx_xw : List Cond := lw_tbl.filter fx_isx
theorem fx_good : ∀ w ∈ fx_tb, (w.onTables && w.keeps) = true ∨ ∃ ty, w = .arrayClass ty := fun _ hw => good_of_word (List.mem_filter.mp hw).2
theorem fx_in {w : Cond} (i : Nat) (h : tables_1[i]? = some w) (hg : goodWord w = true) : w ∈ fx_tb := List.mem_filter.mpr ⟨List.mem_append_right _ (List.mem_of_getElem? h), hg⟩
theorem fx_ix {w : Cond} (i : Nat) (h : tables_1[i]? = some w) (hg : fx_isx w = true) : w ∈ fx_xw := List.mem_filter.mpr ⟨List.mem_append_right _ (List.mem_of_getElem? h), hg⟩
theorem fx_is {y : MethodName} (i n : Nat) (h : lw_privs[i]? = some (y, n)) : Cond.selects y.cls y y ∈ fx_tb := List.mem_filter.mpr ⟨List.mem_append_left _ (List.mem_map.mpr ⟨(y, n), List.mem_of_getElem? h, rfl⟩), rfl⟩
theorem fx_isx_tab {w : Cond} (h : fx_isx w = true) : w.onTables = true := by
  cases w <;> first | rfl | (simp [fx_isx] at h)
theorem fx_xw_same (w : Cond) (hw : w ∈ fx_xw) (u U : State) (h : u.vm = U.vm) (hz : va_Nw w u) : va_Nw w U := va_Nw.same (fx_isx_tab (List.mem_filter.mp hw).2) h hz
theorem fx_xw_warm (w : Cond) (hw : w ∈ fx_xw) (s U : State) (hW : s.WarmedH U.vm) (hz : va_Nw w s) : va_Nw w U := by
  have hx := (List.mem_filter.mp hw).2
  have ht := fx_isx_tab hx
  have face : w.faceAtom = true → va_Nw w U := fun hf => va_tabs ht (rfl : (s.setVm U.vm).vm = U.vm) (Cond.faceAtom_setVm (args := #[]) hW.alike w hf hz)
  cases w <;> first | exact va_Nw.warmF hW hz | exact va_Nw.warmM hW hz | exact face rfl | exact face hx | (simp [fx_isx] at hx)
