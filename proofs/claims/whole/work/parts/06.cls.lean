/-! Facts of the tables, 3 (written by wip/gen/cls.py): the classes and their fields; links of fields, calls, classes, constants. -/
def FC0 : u_T := fun k => match k with
  | 0 => ("TarYard$Node", "name", "LTarYard$Row;", true)
  | 1 => ("TarYard$Node", "body", "LTarYard$Row;", true)
  | 2 => ("TarYard$Node", "kind", "I", false)
  | 3 => ("TarYard$Node", "dir", "I", false)
  | 4 => ("TarYard$Node", "file", "I", false)
  | 5 => ("TarYard$Node", "mode", "I", false)
  | 6 => ("TarYard$Node", "owner", "I", false)
  | _ => ("TarYard$Node", "time", "I", false)
def FT0 : Nat → FieldType := fun k => match k with
  | 0 => .object "TarYard$Row"
  | 1 => .object "TarYard$Row"
  | 2 => .int
  | 3 => .int
  | 4 => .int
  | 5 => .int
  | 6 => .int
  | _ => .int
theorem fcI0 : ∀ w ∈ u_ws "TarYard$Node" FC0 8, w ∈ lw_tbl := by
  have e : u_ws "TarYard$Node" FC0 8 = [225, 227, 229, 231, 233, 235, 237, 239].filterMap (fun i => lw_tbl[i]?) := by decide +kernel
  intro w hw
  rw [e] at hw
  obtain ⟨i, -, hi⟩ := List.mem_filterMap.mp hw
  exact List.mem_of_getElem? hi
theorem fcN0 : ∀ a, a < 8 → ∀ b, b < 8 → a ≠ b → (FC0 a).2.1 ≠ (FC0 b).2.1 := by decide +kernel
theorem fcT0 : ∀ k, k < 8 → parseFieldDescriptor (FC0 k).2.2.1 = some (FT0 k) := by decide +kernel
theorem fcD0 : ∀ k, k < 8 → defaultValue (FT0 k) = vp_V ((tD 0).map cv) k := by decide +kernel
def FC1 : u_T := fun k => match k with
  | 0 => ("TarYard$Reader", "tape", "LTarYard$Tape;", true)
  | 1 => ("TarYard$Reader", "path", "LTarYard$Row;", true)
  | 2 => ("TarYard$Reader", "target", "LTarYard$Row;", true)
  | 3 => ("TarYard$Reader", "block", "I", false)
  | 4 => ("TarYard$Reader", "from", "I", false)
  | 5 => ("TarYard$Reader", "mode", "J", false)
  | 6 => ("TarYard$Reader", "owner", "J", false)
  | 7 => ("TarYard$Reader", "time", "J", false)
  | 8 => ("TarYard$Reader", "length", "J", false)
  | 9 => ("TarYard$Reader", "kind", "I", false)
  | 10 => ("TarYard$Reader", "dir", "I", false)
  | 11 => ("TarYard$Reader", "nameFrom", "I", false)
  | 12 => ("TarYard$Reader", "nameTo", "I", false)
  | _ => ("TarYard$Reader", "file", "I", false)
def FT1 : Nat → FieldType := fun k => match k with
  | 0 => .object "TarYard$Tape"
  | 1 => .object "TarYard$Row"
  | 2 => .object "TarYard$Row"
  | 3 => .int
  | 4 => .int
  | 5 => .long
  | 6 => .long
  | 7 => .long
  | 8 => .long
  | 9 => .int
  | 10 => .int
  | 11 => .int
  | 12 => .int
  | _ => .int
theorem fcI1 : ∀ w ∈ u_ws "TarYard$Reader" FC1 14, w ∈ lw_tbl := by
  have e : u_ws "TarYard$Reader" FC1 14 = [149, 151, 153, 155, 157, 159, 161, 163, 165, 167, 169, 171, 173, 175].filterMap (fun i => lw_tbl[i]?) := by decide +kernel
  intro w hw
  rw [e] at hw
  obtain ⟨i, -, hi⟩ := List.mem_filterMap.mp hw
  exact List.mem_of_getElem? hi
theorem fcN1 : ∀ a, a < 14 → ∀ b, b < 14 → a ≠ b → (FC1 a).2.1 ≠ (FC1 b).2.1 := by decide +kernel
theorem fcT1 : ∀ k, k < 14 → parseFieldDescriptor (FC1 k).2.2.1 = some (FT1 k) := by decide +kernel
theorem fcD1 : ∀ k, k < 14 → defaultValue (FT1 k) = vp_V ((tD 1).map cv) k := by decide +kernel
def FC2 : u_T := fun k => match k with
  | 0 => ("TarYard$Row", "bytes", "[B", false)
  | _ => ("TarYard$Row", "length", "I", false)
def FT2 : Nat → FieldType := fun k => match k with
  | 0 => .array .byte
  | _ => .int
theorem fcI2 : ∀ w ∈ u_ws "TarYard$Row" FC2 2, w ∈ lw_tbl := by
  have e : u_ws "TarYard$Row" FC2 2 = [95, 97].filterMap (fun i => lw_tbl[i]?) := by decide +kernel
  intro w hw
  rw [e] at hw
  obtain ⟨i, -, hi⟩ := List.mem_filterMap.mp hw
  exact List.mem_of_getElem? hi
theorem fcN2 : ∀ a, a < 2 → ∀ b, b < 2 → a ≠ b → (FC2 a).2.1 ≠ (FC2 b).2.1 := by decide +kernel
theorem fcT2 : ∀ k, k < 2 → parseFieldDescriptor (FC2 k).2.2.1 = some (FT2 k) := by decide +kernel
theorem fcD2 : ∀ k, k < 2 → defaultValue (FT2 k) = vp_V ((tD 2).map cv) k := by decide +kernel
def FC3 : u_T := fun k => match k with
  | _ => ("TarYard$Tape", "bytes", "LTarYard$Row;", true)
def FT3 : Nat → FieldType := fun k => match k with
  | _ => .object "TarYard$Row"
theorem fcI3 : ∀ w ∈ u_ws "TarYard$Tape" FC3 1, w ∈ lw_tbl := by
  have e : u_ws "TarYard$Tape" FC3 1 = [105].filterMap (fun i => lw_tbl[i]?) := by decide +kernel
  intro w hw
  rw [e] at hw
  obtain ⟨i, -, hi⟩ := List.mem_filterMap.mp hw
  exact List.mem_of_getElem? hi
theorem fcN3 : ∀ a, a < 1 → ∀ b, b < 1 → a ≠ b → (FC3 a).2.1 ≠ (FC3 b).2.1 := by decide +kernel
theorem fcT3 : ∀ k, k < 1 → parseFieldDescriptor (FC3 k).2.2.1 = some (FT3 k) := by decide +kernel
theorem fcD3 : ∀ k, k < 1 → defaultValue (FT3 k) = vp_V ((tD 3).map cv) k := by decide +kernel
def FC4 : u_T := fun k => match k with
  | 0 => ("TarYard$Tree", "nodes", "[LTarYard$Node;", true)
  | 1 => ("TarYard$Tree", "count", "I", false)
  | _ => ("TarYard$Tree", "newNumbers", "[I", true)
def FT4 : Nat → FieldType := fun k => match k with
  | 0 => .array (.object "TarYard$Node")
  | 1 => .int
  | _ => .array .int
theorem fcI4 : ∀ w ∈ u_ws "TarYard$Tree" FC4 3, w ∈ lw_tbl := by
  have e : u_ws "TarYard$Tree" FC4 3 = [252, 254, 256].filterMap (fun i => lw_tbl[i]?) := by decide +kernel
  intro w hw
  rw [e] at hw
  obtain ⟨i, -, hi⟩ := List.mem_filterMap.mp hw
  exact List.mem_of_getElem? hi
theorem fcN4 : ∀ a, a < 3 → ∀ b, b < 3 → a ≠ b → (FC4 a).2.1 ≠ (FC4 b).2.1 := by decide +kernel
theorem fcT4 : ∀ k, k < 3 → parseFieldDescriptor (FC4 k).2.2.1 = some (FT4 k) := by decide +kernel
theorem fcD4 : ∀ k, k < 3 → defaultValue (FT4 k) = vp_V ((tD 4).map cv) k := by decide +kernel
def FC5 : u_T := fun k => match k with
  | _ => ("", "", "", false)
def FT5 : Nat → FieldType := fun k => match k with
  | _ => .int
theorem fcI5 : ∀ w ∈ u_ws "TarYard$Types" FC5 0, w ∈ lw_tbl := fun _ h => absurd h List.not_mem_nil
theorem fcN5 : ∀ a, a < 0 → ∀ b, b < 0 → a ≠ b → (FC5 a).2.1 ≠ (FC5 b).2.1 := by decide +kernel
theorem fcT5 : ∀ k, k < 0 → parseFieldDescriptor (FC5 k).2.2.1 = some (FT5 k) := by decide +kernel
theorem fcD5 : ∀ k, k < 0 → defaultValue (FT5 k) = vp_V ((tD 5).map cv) k := by decide +kernel
def FC6 : u_T := fun k => match k with
  | 0 => ("TarYard$Writer", "tape", "LTarYard$Tape;", true)
  | 1 => ("TarYard$Writer", "path", "LTarYard$Row;", true)
  | _ => ("TarYard$Writer", "block", "I", false)
def FT6 : Nat → FieldType := fun k => match k with
  | 0 => .object "TarYard$Tape"
  | 1 => .object "TarYard$Row"
  | _ => .int
theorem fcI6 : ∀ w ∈ u_ws "TarYard$Writer" FC6 3, w ∈ lw_tbl := by
  have e : u_ws "TarYard$Writer" FC6 3 = [119, 121, 123].filterMap (fun i => lw_tbl[i]?) := by decide +kernel
  intro w hw
  rw [e] at hw
  obtain ⟨i, -, hi⟩ := List.mem_filterMap.mp hw
  exact List.mem_of_getElem? hi
theorem fcN6 : ∀ a, a < 3 → ∀ b, b < 3 → a ≠ b → (FC6 a).2.1 ≠ (FC6 b).2.1 := by decide +kernel
theorem fcT6 : ∀ k, k < 3 → parseFieldDescriptor (FC6 k).2.2.1 = some (FT6 k) := by decide +kernel
theorem fcD6 : ∀ k, k < 3 → defaultValue (FT6 k) = vp_V ((tD 6).map cv) k := by decide +kernel
def FC7 : u_T := fun k => match k with
  | 0 => ("TarYard", "tape", "LTarYard$Tape;", true)
  | 1 => ("TarYard", "writer", "LTarYard$Writer;", true)
  | 2 => ("TarYard", "reader", "LTarYard$Reader;", true)
  | 3 => ("TarYard", "word", "LTarYard$Row;", true)
  | 4 => ("TarYard", "tree", "LTarYard$Tree;", false)
  | 5 => ("TarYard", "spare", "LTarYard$Tree;", false)
  | _ => ("TarYard", "faultPlace", "I", false)
def FT7 : Nat → FieldType := fun k => match k with
  | 0 => .object "TarYard$Tape"
  | 1 => .object "TarYard$Writer"
  | 2 => .object "TarYard$Reader"
  | 3 => .object "TarYard$Row"
  | 4 => .object "TarYard$Tree"
  | 5 => .object "TarYard$Tree"
  | _ => .int
theorem fcI7 : ∀ w ∈ u_ws "TarYard" FC7 7, w ∈ lw_tbl := by
  have e : u_ws "TarYard" FC7 7 = [266, 268, 270, 272, 274, 276, 278].filterMap (fun i => lw_tbl[i]?) := by decide +kernel
  intro w hw
  rw [e] at hw
  obtain ⟨i, -, hi⟩ := List.mem_filterMap.mp hw
  exact List.mem_of_getElem? hi
theorem fcN7 : ∀ a, a < 7 → ∀ b, b < 7 → a ≠ b → (FC7 a).2.1 ≠ (FC7 b).2.1 := by decide +kernel
theorem fcT7 : ∀ k, k < 7 → parseFieldDescriptor (FC7 k).2.2.1 = some (FT7 k) := by decide +kernel
theorem fcD7 : ∀ k, k < 7 → defaultValue (FT7 k) = vp_V ((tD 7).map cv) k := by decide +kernel
def FC8 : u_T := fun k => match k with
  | 0 => ("TarYardModel", "kinds", "[I", true)
  | 1 => ("TarYardModel", "places", "[I", true)
  | 2 => ("TarYardModel", "lengths", "[I", true)
  | 3 => ("TarYardModel", "modes", "[I", true)
  | 4 => ("TarYardModel", "owners", "[I", true)
  | 5 => ("TarYardModel", "times", "[I", true)
  | 6 => ("TarYardModel", "sizes", "[I", true)
  | 7 => ("TarYardModel", "links", "[I", true)
  | 8 => ("TarYardModel", "counts", "[I", true)
  | 9 => ("TarYardModel", "names", "[B", true)
  | 10 => ("TarYardModel", "bytes", "[B", true)
  | 11 => ("TarYardModel", "base", "I", false)
  | 12 => ("TarYardModel", "page", "[B", true)
  | 13 => ("TarYardModel", "pageSize", "I", false)
  | 14 => ("TarYardModel", "fault", "I", false)
  | 15 => ("TarYardModel", "way", "[B", true)
  | 16 => ("TarYardModel", "wayLength", "I", false)
  | 17 => ("TarYardModel", "lastBegin", "I", false)
  | 18 => ("TarYardModel", "lastLength", "I", false)
  | 19 => ("TarYardModel", "chain", "[I", true)
  | 20 => ("TarYardModel", "own", "[B", true)
  | 21 => ("TarYardModel", "order", "[I", true)
  | 22 => ("TarYardModel", "later", "[I", true)
  | 23 => ("TarYardModel", "open", "[I", true)
  | 24 => ("TarYardModel", "latest", "[I", true)
  | 25 => ("TarYardModel", "renumbered", "[I", true)
  | _ => ("TarYardModel", "thrown", "I", false)
def FT8 : Nat → FieldType := fun k => match k with
  | 0 => .array .int
  | 1 => .array .int
  | 2 => .array .int
  | 3 => .array .int
  | 4 => .array .int
  | 5 => .array .int
  | 6 => .array .int
  | 7 => .array .int
  | 8 => .array .int
  | 9 => .array .byte
  | 10 => .array .byte
  | 11 => .int
  | 12 => .array .byte
  | 13 => .int
  | 14 => .int
  | 15 => .array .byte
  | 16 => .int
  | 17 => .int
  | 18 => .int
  | 19 => .array .int
  | 20 => .array .byte
  | 21 => .array .int
  | 22 => .array .int
  | 23 => .array .int
  | 24 => .array .int
  | 25 => .array .int
  | _ => .int
theorem fcI8 : ∀ w ∈ u_ws "TarYardModel" FC8 27, w ∈ lw_tbl := by
  have e : u_ws "TarYardModel" FC8 27 = [862, 864, 866, 868, 870, 872, 874, 876, 878, 880, 882, 884, 886, 888, 890, 892, 894, 896, 898, 900, 902, 904, 906, 908, 910, 912, 914].filterMap (fun i => lw_tbl[i]?) := by decide +kernel
  intro w hw
  rw [e] at hw
  obtain ⟨i, -, hi⟩ := List.mem_filterMap.mp hw
  exact List.mem_of_getElem? hi
theorem fcN8 : ∀ a, a < 27 → ∀ b, b < 27 → a ≠ b → (FC8 a).2.1 ≠ (FC8 b).2.1 := by decide +kernel
theorem fcT8 : ∀ k, k < 27 → parseFieldDescriptor (FC8 k).2.2.1 = some (FT8 k) := by decide +kernel
theorem fcD8 : ∀ k, k < 27 → defaultValue (FT8 k) = vp_V ((tD 8).map cv) k := by decide +kernel
def vcl : List vw_C := [("TarYard$Node", FC0, 8), ("TarYard$Reader", FC1, 14), ("TarYard$Row", FC2, 2), ("TarYard$Tape", FC3, 1), ("TarYard$Tree", FC4, 3), ("TarYard$Tape", FC5, 0), ("TarYard$Writer", FC6, 3), ("TarYard", FC7, 7), ("TarYardModel", FC8, 27)]
def vcP (ci : Nat) (q : vw_C) : Prop := (0 < q.2.2 → q.1 = cNm ci) ∧ (∀ w ∈ u_ws q.1 q.2.1 q.2.2, w ∈ lw_tbl) ∧ (∀ a, a < q.2.2 → ∀ b, b < q.2.2 → a ≠ b → (q.2.1 a).2.1 ≠ (q.2.1 b).2.1) ∧ ∃ ty : Nat → FieldType, (∀ k, k < q.2.2 → parseFieldDescriptor (q.2.1 k).2.2.1 = some (ty k)) ∧ ∀ k, k < q.2.2 → defaultValue (ty k) = vp_V ((tD ci).map cv) k
theorem vcl_all : ∀ (ci : Nat) (q : vw_C), vcl[ci]? = some q → vcP ci q := by
  intro ci q h
  match ci, h with
  | 0, h => cases h; exact ⟨fun _ => rfl, fcI0, fcN0, FT0, fcT0, fcD0⟩
  | 1, h => cases h; exact ⟨fun _ => rfl, fcI1, fcN1, FT1, fcT1, fcD1⟩
  | 2, h => cases h; exact ⟨fun _ => rfl, fcI2, fcN2, FT2, fcT2, fcD2⟩
  | 3, h => cases h; exact ⟨fun _ => rfl, fcI3, fcN3, FT3, fcT3, fcD3⟩
  | 4, h => cases h; exact ⟨fun _ => rfl, fcI4, fcN4, FT4, fcT4, fcD4⟩
  | 5, h => cases h; exact ⟨fun h => absurd h (by decide), fcI5, fcN5, FT5, fcT5, fcD5⟩
  | 6, h => cases h; exact ⟨fun _ => rfl, fcI6, fcN6, FT6, fcT6, fcD6⟩
  | 7, h => cases h; exact ⟨fun _ => rfl, fcI7, fcN7, FT7, fcT7, fcD7⟩
  | 8, h => cases h; exact ⟨fun _ => rfl, fcI8, fcN8, FT8, fcT8, fcD8⟩
  | n + 9, h => simp [vcl] at h
def tagok (tag : Nat) (t : Option FieldType) : Bool := match tag, t with
  | 0, some .int => true
  | 1, some .long => true
  | 2, some (.object _) => true
  | 2, some (.array _) => true
  | _, _ => false
def tfB (c i p : Nat) (r : Nat × Nat × Nat × Bool) : Bool := match vcl[r.1]? with
  | none => false
  | some q => decide (r.2.1 < q.2.2) && (decide ((q.2.1 r.2.1).1 = q.1) && (decide ((q.2.1 r.2.1).2.2.2 = r.2.2.2) && (tagok r.2.2.1 (parseFieldDescriptor (q.2.1 r.2.1).2.2.1) && decide (lw_tbl[p]? = some (.fieldLink (cNm c) i q.1 (q.2.1 r.2.1).2.1 (q.2.1 r.2.1).2.2.1)))))
def tfl0 : List ((Nat × Nat × Nat × Nat × Bool) × Nat) := [((12, 0, 0, 2, true), 195), ((18, 0, 1, 2, true), 198), ((21, 0, 2, 0, false), 202), ((25, 0, 3, 0, false), 206), ((28, 0, 4, 0, false), 209), ((31, 0, 5, 0, false), 213), ((34, 0, 6, 0, false), 217), ((37, 0, 7, 0, false), 221), ((44, 2, 1, 0, false), 90)]
theorem tfe0 : tFl.getD 0 [] = tfl0.map (fun e => e.1) := rfl
theorem tfo0 : ∀ e ∈ tfl0, tfB 0 e.1.1 e.2 e.1.2 = true := by decide +kernel
def tfl1 : List ((Nat × Nat × Nat × Nat × Bool) × Nat) := [((12, 1, 1, 2, true), 135), ((18, 1, 2, 2, true), 136), ((21, 1, 3, 0, false), 137), ((25, 1, 4, 0, false), 139), ((28, 1, 5, 1, false), 140), ((32, 1, 6, 1, false), 141), ((35, 1, 7, 1, false), 142), ((38, 1, 8, 1, false), 143), ((41, 1, 9, 0, false), 144), ((44, 1, 10, 0, false), 145), ((47, 1, 11, 0, false), 146), ((50, 1, 12, 0, false), 147), ((53, 1, 13, 0, false), 148), ((56, 1, 0, 2, true), 134), ((71, 4, 1, 0, false), 249), ((129, 3, 0, 2, true), 103), ((148, 2, 1, 0, false), 93), ((190, 4, 0, 2, true), 245), ((194, 0, 5, 0, false), 216), ((198, 0, 6, 0, false), 220), ((200, 0, 7, 0, false), 224), ((202, 0, 1, 2, true), 201)]
theorem tfe1 : tFl.getD 1 [] = tfl1.map (fun e => e.1) := rfl
theorem tfo1 : ∀ e ∈ tfl1, tfB 1 e.1.1 e.2 e.1.2 = true := by decide +kernel
def tfl2 : List ((Nat × Nat × Nat × Nat × Bool) × Nat) := [((11, 2, 0, 2, false), 87), ((15, 2, 1, 0, false), 88)]
theorem tfe2 : tFl.getD 2 [] = tfl2.map (fun e => e.1) := rfl
theorem tfo2 : ∀ e ∈ tfl2, tfB 2 e.1.1 e.2 e.1.2 = true := by decide +kernel
def tfl3 : List ((Nat × Nat × Nat × Nat × Bool) × Nat) := [((12, 3, 0, 2, true), 101), ((18, 2, 1, 0, false), 89)]
theorem tfe3 : tFl.getD 3 [] = tfl3.map (fun e => e.1) := rfl
theorem tfo3 : ∀ e ∈ tfl3, tfB 3 e.1.1 e.2 e.1.2 = true := by decide +kernel
def tfl4 : List ((Nat × Nat × Nat × Nat × Bool) × Nat) := [((11, 4, 0, 2, true), 243), ((17, 4, 1, 0, false), 247), ((21, 4, 2, 2, true), 251), ((30, 0, 2, 0, false), 204), ((33, 0, 3, 0, false), 208), ((36, 0, 0, 2, true), 197), ((62, 0, 4, 0, false), 211), ((78, 2, 1, 0, false), 94)]
theorem tfe4 : tFl.getD 4 [] = tfl4.map (fun e => e.1) := rfl
theorem tfo4 : ∀ e ∈ tfl4, tfB 4 e.1.1 e.2 e.1.2 = true := by decide +kernel
def tfl5 : List ((Nat × Nat × Nat × Nat × Bool) × Nat) := []
theorem tfe5 : tFl.getD 5 [] = tfl5.map (fun e => e.1) := rfl
theorem tfo5 : ∀ e ∈ tfl5, tfB 5 e.1.1 e.2 e.1.2 = true := by decide +kernel
def tfl6 : List ((Nat × Nat × Nat × Nat × Bool) × Nat) := [((12, 6, 1, 2, true), 117), ((18, 6, 2, 0, false), 118), ((22, 6, 0, 2, true), 116), ((26, 4, 1, 0, false), 248), ((35, 4, 0, 2, true), 244), ((61, 0, 4, 0, false), 210), ((64, 2, 1, 0, false), 92), ((76, 3, 0, 2, true), 102), ((109, 0, 5, 0, false), 215), ((116, 0, 6, 0, false), 219), ((119, 0, 7, 0, false), 223), ((122, 0, 2, 0, false), 205), ((134, 0, 1, 2, true), 200)]
theorem tfe6 : tFl.getD 6 [] = tfl6.map (fun e => e.1) := rfl
theorem tfo6 : ∀ e ∈ tfl6, tfB 6 e.1.1 e.2 e.1.2 = true := by decide +kernel
def tfl7 : List ((Nat × Nat × Nat × Nat × Bool) × Nat) := [((12, 7, 0, 2, true), 259), ((21, 7, 1, 2, true), 260), ((28, 7, 2, 2, true), 261), ((35, 7, 3, 2, true), 262), ((42, 7, 4, 2, false), 263), ((46, 7, 5, 2, false), 264), ((49, 7, 6, 0, false), 265), ((81, 4, 1, 0, false), 250), ((101, 0, 0, 2, true), 196), ((106, 2, 1, 0, false), 91), ((113, 0, 3, 0, false), 207), ((118, 0, 2, 0, false), 203), ((131, 0, 1, 2, true), 199), ((147, 0, 5, 0, false), 214), ((150, 0, 6, 0, false), 218), ((153, 0, 7, 0, false), 222), ((182, 1, 3, 0, false), 138), ((185, 3, 0, 2, true), 104), ((204, 0, 4, 0, false), 212), ((218, 4, 0, 2, true), 246)]
theorem tfe7 : tFl.getD 7 [] = tfl7.map (fun e => e.1) := rfl
theorem tfo7 : ∀ e ∈ tfl7, tfB 7 e.1.1 e.2 e.1.2 = true := by decide +kernel
def tfl8 : List ((Nat × Nat × Nat × Nat × Bool) × Nat) := [((7, 8, 0, 2, true), 835), ((13, 8, 1, 2, true), 836), ((16, 8, 2, 2, true), 837), ((19, 8, 3, 2, true), 838), ((22, 8, 4, 2, true), 839), ((25, 8, 5, 2, true), 840), ((28, 8, 6, 2, true), 841), ((31, 8, 7, 2, true), 842), ((34, 8, 8, 2, true), 843), ((37, 8, 9, 2, true), 844), ((42, 8, 10, 2, true), 845), ((45, 8, 12, 2, true), 847), ((48, 8, 14, 0, false), 849), ((52, 8, 15, 2, true), 850), ((55, 8, 19, 2, true), 854), ((58, 8, 20, 2, true), 855), ((61, 8, 21, 2, true), 856), ((64, 8, 22, 2, true), 857), ((67, 8, 23, 2, true), 858), ((70, 8, 24, 2, true), 859), ((73, 8, 25, 2, true), 860), ((80, 8, 26, 0, false), 861), ((83, 8, 11, 0, false), 846), ((100, 8, 16, 0, false), 851), ((155, 8, 13, 0, false), 848), ((181, 8, 17, 0, false), 852), ((184, 8, 18, 0, false), 853)]
theorem tfe8 : tFl.getD 8 [] = tfl8.map (fun e => e.1) := rfl
theorem tfo8 : ∀ e ∈ tfl8, tfB 8 e.1.1 e.2 e.1.2 = true := by decide +kernel
def tfl9 : List ((Nat × Nat × Nat × Nat × Bool) × Nat) := []
theorem tfe9 : tFl.getD 9 [] = tfl9.map (fun e => e.1) := rfl
theorem tfo9 : ∀ e ∈ tfl9, tfB 9 e.1.1 e.2 e.1.2 = true := by decide +kernel
def tfl10 : List ((Nat × Nat × Nat × Nat × Bool) × Nat) := []
theorem tfe10 : tFl.getD 10 [] = tfl10.map (fun e => e.1) := rfl
theorem tfo10 : ∀ e ∈ tfl10, tfB 10 e.1.1 e.2 e.1.2 = true := by decide +kernel
theorem lookup_mem {α : Type} {l : List (Nat × α)} {k : Nat} {v : α} (h : l.lookup k = some v) : (k, v) ∈ l := by
  induction l with
  | nil => cases h
  | cons q l ih =>
    obtain ⟨a, b⟩ := q
    by_cases hk : k = a
    · subst hk
      simp [List.lookup] at h
      subst h
      exact List.mem_cons_self
    · rw [List.lookup_cons, show (k == a) = false by simpa using hk] at h
      exact List.mem_cons_of_mem _ (ih h)
theorem tF_ok {c i : Nat} {r : Nat × Nat × Nat × Bool} (h : tF c i = some r) : ∃ p, tfB c i p r = true := by
  have h1 := lookup_mem h
  match c, h1 with
  | 0, h1 =>
    rw [tfe0] at h1
    obtain ⟨e, he, hq⟩ := List.mem_map.mp h1
    have h2 := tfo0 e he
    rw [hq] at h2
    exact ⟨_, h2⟩
  | 1, h1 =>
    rw [tfe1] at h1
    obtain ⟨e, he, hq⟩ := List.mem_map.mp h1
    have h2 := tfo1 e he
    rw [hq] at h2
    exact ⟨_, h2⟩
  | 2, h1 =>
    rw [tfe2] at h1
    obtain ⟨e, he, hq⟩ := List.mem_map.mp h1
    have h2 := tfo2 e he
    rw [hq] at h2
    exact ⟨_, h2⟩
  | 3, h1 =>
    rw [tfe3] at h1
    obtain ⟨e, he, hq⟩ := List.mem_map.mp h1
    have h2 := tfo3 e he
    rw [hq] at h2
    exact ⟨_, h2⟩
  | 4, h1 =>
    rw [tfe4] at h1
    obtain ⟨e, he, hq⟩ := List.mem_map.mp h1
    have h2 := tfo4 e he
    rw [hq] at h2
    exact ⟨_, h2⟩
  | 5, h1 =>
    rw [tfe5] at h1
    obtain ⟨e, he, hq⟩ := List.mem_map.mp h1
    have h2 := tfo5 e he
    rw [hq] at h2
    exact ⟨_, h2⟩
  | 6, h1 =>
    rw [tfe6] at h1
    obtain ⟨e, he, hq⟩ := List.mem_map.mp h1
    have h2 := tfo6 e he
    rw [hq] at h2
    exact ⟨_, h2⟩
  | 7, h1 =>
    rw [tfe7] at h1
    obtain ⟨e, he, hq⟩ := List.mem_map.mp h1
    have h2 := tfo7 e he
    rw [hq] at h2
    exact ⟨_, h2⟩
  | 8, h1 =>
    rw [tfe8] at h1
    obtain ⟨e, he, hq⟩ := List.mem_map.mp h1
    have h2 := tfo8 e he
    rw [hq] at h2
    exact ⟨_, h2⟩
  | 9, h1 =>
    rw [tfe9] at h1
    obtain ⟨e, he, hq⟩ := List.mem_map.mp h1
    have h2 := tfo9 e he
    rw [hq] at h2
    exact ⟨_, h2⟩
  | 10, h1 =>
    rw [tfe10] at h1
    obtain ⟨e, he, hq⟩ := List.mem_map.mp h1
    have h2 := tfo10 e he
    rw [hq] at h2
    exact ⟨_, h2⟩
  | n + 11, h1 => exact absurd h1 (by simp [tFl])
theorem in_0 : yNd_init ∈ allY := List.mem_of_getElem? (i := 0) rfl
theorem in_1 : yNd_begin ∈ allY := List.mem_of_getElem? (i := 1) rfl
theorem in_2 : yNd_contentsLength ∈ allY := List.mem_of_getElem? (i := 2) rfl
theorem in_3 : yRd_init ∈ allY := List.mem_of_getElem? (i := 3) rfl
theorem in_4 : yRd_addText ∈ allY := List.mem_of_getElem? (i := 4) rfl
theorem in_5 : yRd_faultOfContents ∈ allY := List.mem_of_getElem? (i := 5) rfl
theorem in_6 : yRd_faultOfEntry ∈ allY := List.mem_of_getElem? (i := 6) rfl
theorem in_7 : yRd_isMarked ∈ allY := List.mem_of_getElem? (i := 7) rfl
theorem in_8 : yRd_takeEntry ∈ allY := List.mem_of_getElem? (i := 8) rfl
theorem in_9 : yRd_takeKind ∈ allY := List.mem_of_getElem? (i := 9) rfl
theorem in_10 : yRd_takeNumbers ∈ allY := List.mem_of_getElem? (i := 10) rfl
theorem in_11 : yRd_takePath ∈ allY := List.mem_of_getElem? (i := 11) rfl
theorem in_12 : yRd_takeTarget ∈ allY := List.mem_of_getElem? (i := 12) rfl
theorem in_13 : yRd_takeTree ∈ allY := List.mem_of_getElem? (i := 13) rfl
theorem in_14 : yRw_init ∈ allY := List.mem_of_getElem? (i := 14) rfl
theorem in_15 : yRw_addLetters ∈ allY := List.mem_of_getElem? (i := 15) rfl
theorem in_16 : yRw_at ∈ allY := List.mem_of_getElem? (i := 16) rfl
theorem in_17 : yRw_copySlice ∈ allY := List.mem_of_getElem? (i := 17) rfl
theorem in_18 : yRw_isNameOfAnyLength ∈ allY := List.mem_of_getElem? (i := 18) rfl
theorem in_19 : yRw_isSlice ∈ allY := List.mem_of_getElem? (i := 19) rfl
theorem in_20 : yRw_isTarget ∈ allY := List.mem_of_getElem? (i := 20) rfl
theorem in_21 : yRw_lastSlash ∈ allY := List.mem_of_getElem? (i := 21) rfl
theorem in_22 : yRw_order ∈ allY := List.mem_of_getElem? (i := 22) rfl
theorem in_23 : yRw_put ∈ allY := List.mem_of_getElem? (i := 23) rfl
theorem in_24 : yRw_putAll ∈ allY := List.mem_of_getElem? (i := 24) rfl
theorem in_25 : yRw_resize ∈ allY := List.mem_of_getElem? (i := 25) rfl
theorem in_26 : yTp_init ∈ allY := List.mem_of_getElem? (i := 26) rfl
theorem in_27 : yTp_blocksOf ∈ allY := List.mem_of_getElem? (i := 27) rfl
theorem in_28 : yTp_hasCheck ∈ allY := List.mem_of_getElem? (i := 28) rfl
theorem in_29 : yTp_hasMark ∈ allY := List.mem_of_getElem? (i := 29) rfl
theorem in_30 : yTp_isBlockOfZeros ∈ allY := List.mem_of_getElem? (i := 30) rfl
theorem in_31 : yTp_isZeros ∈ allY := List.mem_of_getElem? (i := 31) rfl
theorem in_32 : yTp_octal ∈ allY := List.mem_of_getElem? (i := 32) rfl
theorem in_33 : yTp_putCheck ∈ allY := List.mem_of_getElem? (i := 33) rfl
theorem in_34 : yTp_putMark ∈ allY := List.mem_of_getElem? (i := 34) rfl
theorem in_35 : yTp_putOctal ∈ allY := List.mem_of_getElem? (i := 35) rfl
theorem in_36 : yTp_sum ∈ allY := List.mem_of_getElem? (i := 36) rfl
theorem in_37 : yTp_wholeBlocks ∈ allY := List.mem_of_getElem? (i := 37) rfl
theorem in_38 : yTr_init ∈ allY := List.mem_of_getElem? (i := 38) rfl
theorem in_39 : yTr_add ∈ allY := List.mem_of_getElem? (i := 39) rfl
theorem in_40 : yTr_childNamed ∈ allY := List.mem_of_getElem? (i := 40) rfl
theorem in_41 : yTr_clear ∈ allY := List.mem_of_getElem? (i := 41) rfl
theorem in_42 : yTr_closeGaps ∈ allY := List.mem_of_getElem? (i := 42) rfl
theorem in_43 : yTr_comesBehind ∈ allY := List.mem_of_getElem? (i := 43) rfl
theorem in_44 : yTr_drop ∈ allY := List.mem_of_getElem? (i := 44) rfl
theorem in_45 : yTr_follower ∈ allY := List.mem_of_getElem? (i := 45) rfl
theorem in_46 : yTr_has ∈ allY := List.mem_of_getElem? (i := 46) rfl
theorem in_47 : yTr_isGone ∈ allY := List.mem_of_getElem? (i := 47) rfl
theorem in_48 : yTr_isOfKind ∈ allY := List.mem_of_getElem? (i := 48) rfl
theorem in_49 : yTr_longestPath ∈ allY := List.mem_of_getElem? (i := 49) rfl
theorem in_50 : yTr_lookUp ∈ allY := List.mem_of_getElem? (i := 50) rfl
theorem in_51 : yTr_newNumber ∈ allY := List.mem_of_getElem? (i := 51) rfl
theorem in_52 : yTr_nextChild ∈ allY := List.mem_of_getElem? (i := 52) rfl
theorem in_53 : yTr_pathLength ∈ allY := List.mem_of_getElem? (i := 53) rfl
theorem in_54 : yTr_spellPath ∈ allY := List.mem_of_getElem? (i := 54) rfl
theorem in_55 : yTt_kindOf ∈ allY := List.mem_of_getElem? (i := 55) rfl
theorem in_56 : yTt_typeOf ∈ allY := List.mem_of_getElem? (i := 56) rfl
theorem in_57 : yWr_init ∈ allY := List.mem_of_getElem? (i := 57) rfl
theorem in_58 : yWr_blocksFor ∈ allY := List.mem_of_getElem? (i := 58) rfl
theorem in_59 : yWr_cutOfPath ∈ allY := List.mem_of_getElem? (i := 59) rfl
theorem in_60 : yWr_isTellable ∈ allY := List.mem_of_getElem? (i := 60) rfl
theorem in_61 : yWr_putContents ∈ allY := List.mem_of_getElem? (i := 61) rfl
theorem in_62 : yWr_putEntries ∈ allY := List.mem_of_getElem? (i := 62) rfl
theorem in_63 : yWr_putHeader ∈ allY := List.mem_of_getElem? (i := 63) rfl
theorem in_64 : yWr_putPath ∈ allY := List.mem_of_getElem? (i := 64) rfl
theorem in_65 : yWr_putTree ∈ allY := List.mem_of_getElem? (i := 65) rfl
theorem in_66 : yTY_init ∈ allY := List.mem_of_getElem? (i := 66) rfl
theorem in_67 : yTY_alter ∈ allY := List.mem_of_getElem? (i := 67) rfl
theorem in_68 : yTY_check ∈ allY := List.mem_of_getElem? (i := 68) rfl
theorem in_69 : yTY_contents ∈ allY := List.mem_of_getElem? (i := 69) rfl
theorem in_70 : yTY_fill ∈ allY := List.mem_of_getElem? (i := 70) rfl
theorem in_71 : yTY_hand ∈ allY := List.mem_of_getElem? (i := 71) rfl
theorem in_72 : yTY_known ∈ allY := List.mem_of_getElem? (i := 72) rfl
theorem in_73 : yTY_make ∈ allY := List.mem_of_getElem? (i := 73) rfl
theorem in_74 : yTY_node ∈ allY := List.mem_of_getElem? (i := 74) rfl
theorem in_75 : yTY_part ∈ allY := List.mem_of_getElem? (i := 75) rfl
theorem in_76 : yTY_place ∈ allY := List.mem_of_getElem? (i := 76) rfl
theorem in_77 : yTY_read ∈ allY := List.mem_of_getElem? (i := 77) rfl
theorem in_78 : yTY_refuseName ∈ allY := List.mem_of_getElem? (i := 78) rfl
theorem in_79 : yTY_remove ∈ allY := List.mem_of_getElem? (i := 79) rfl
theorem in_80 : yTY_rename ∈ allY := List.mem_of_getElem? (i := 80) rfl
theorem in_81 : yTY_set ∈ allY := List.mem_of_getElem? (i := 81) rfl
theorem in_82 : yTY_size ∈ allY := List.mem_of_getElem? (i := 82) rfl
theorem in_83 : yTY_total ∈ allY := List.mem_of_getElem? (i := 83) rfl
theorem in_84 : yTY_write ∈ allY := List.mem_of_getElem? (i := 84) rfl
theorem in_85 : yMd_init ∈ allY := List.mem_of_getElem? (i := 85) rfl
theorem in_86 : yMd_add ∈ allY := List.mem_of_getElem? (i := 86) rfl
theorem in_87 : yMd_alter ∈ allY := List.mem_of_getElem? (i := 87) rfl
theorem in_88 : yMd_arrange ∈ allY := List.mem_of_getElem? (i := 88) rfl
theorem in_89 : yMd_blocksOf ∈ allY := List.mem_of_getElem? (i := 89) rfl
theorem in_90 : yMd_check ∈ allY := List.mem_of_getElem? (i := 90) rfl
theorem in_91 : yMd_clear ∈ allY := List.mem_of_getElem? (i := 91) rfl
theorem in_92 : yMd_compare ∈ allY := List.mem_of_getElem? (i := 92) rfl
theorem in_93 : yMd_contents ∈ allY := List.mem_of_getElem? (i := 93) rfl
theorem in_94 : yMd_copyIn ∈ allY := List.mem_of_getElem? (i := 94) rfl
theorem in_95 : yMd_count ∈ allY := List.mem_of_getElem? (i := 95) rfl
theorem in_96 : yMd_cutOf ∈ allY := List.mem_of_getElem? (i := 96) rfl
theorem in_97 : yMd_entry ∈ allY := List.mem_of_getElem? (i := 97) rfl
theorem in_98 : yMd_fails ∈ allY := List.mem_of_getElem? (i := 98) rfl
theorem in_99 : yMd_fill ∈ allY := List.mem_of_getElem? (i := 99) rfl
theorem in_100 : yMd_find ∈ allY := List.mem_of_getElem? (i := 100) rfl
theorem in_101 : yMd_firstFault ∈ allY := List.mem_of_getElem? (i := 101) rfl
theorem in_102 : yMd_hand ∈ allY := List.mem_of_getElem? (i := 102) rfl
theorem in_103 : yMd_head ∈ allY := List.mem_of_getElem? (i := 103) rfl
theorem in_104 : yMd_isCalled ∈ allY := List.mem_of_getElem? (i := 104) rfl
theorem in_105 : yMd_isLetter ∈ allY := List.mem_of_getElem? (i := 105) rfl
theorem in_106 : yMd_isName ∈ allY := List.mem_of_getElem? (i := 106) rfl
theorem in_107 : yMd_isNode ∈ allY := List.mem_of_getElem? (i := 107) rfl
theorem in_108 : yMd_isZero ∈ allY := List.mem_of_getElem? (i := 108) rfl
theorem in_109 : yMd_make ∈ allY := List.mem_of_getElem? (i := 109) rfl
theorem in_110 : yMd_markOf ∈ allY := List.mem_of_getElem? (i := 110) rfl
theorem in_111 : yMd_move ∈ allY := List.mem_of_getElem? (i := 111) rfl
theorem in_112 : yMd_next ∈ allY := List.mem_of_getElem? (i := 112) rfl
theorem in_113 : yMd_node ∈ allY := List.mem_of_getElem? (i := 113) rfl
theorem in_114 : yMd_number ∈ allY := List.mem_of_getElem? (i := 114) rfl
theorem in_115 : yMd_octal ∈ allY := List.mem_of_getElem? (i := 115) rfl
theorem in_116 : yMd_part ∈ allY := List.mem_of_getElem? (i := 116) rfl
theorem in_117 : yMd_place ∈ allY := List.mem_of_getElem? (i := 117) rfl
theorem in_118 : yMd_read ∈ allY := List.mem_of_getElem? (i := 118) rfl
theorem in_119 : yMd_remove ∈ allY := List.mem_of_getElem? (i := 119) rfl
theorem in_120 : yMd_rename ∈ allY := List.mem_of_getElem? (i := 120) rfl
theorem in_121 : yMd_set ∈ allY := List.mem_of_getElem? (i := 121) rfl
theorem in_122 : yMd_size ∈ allY := List.mem_of_getElem? (i := 122) rfl
theorem in_123 : yMd_spell ∈ allY := List.mem_of_getElem? (i := 123) rfl
theorem in_124 : yMd_sum ∈ allY := List.mem_of_getElem? (i := 124) rfl
theorem in_125 : yMd_tell ∈ allY := List.mem_of_getElem? (i := 125) rfl
theorem in_126 : yMd_textOf ∈ allY := List.mem_of_getElem? (i := 126) rfl
theorem in_127 : yMd_thrown ∈ allY := List.mem_of_getElem? (i := 127) rfl
theorem in_128 : yMd_total ∈ allY := List.mem_of_getElem? (i := 128) rfl
theorem in_129 : yMd_walk ∈ allY := List.mem_of_getElem? (i := 129) rfl
theorem in_130 : yMd_within ∈ allY := List.mem_of_getElem? (i := 130) rfl
theorem in_131 : yMd_write ∈ allY := List.mem_of_getElem? (i := 131) rfl
theorem in_132 : yLw_alter ∈ allY := List.mem_of_getElem? (i := 132) rfl
theorem in_133 : yLw_check ∈ allY := List.mem_of_getElem? (i := 133) rfl
theorem in_134 : yLw_contents ∈ allY := List.mem_of_getElem? (i := 134) rfl
theorem in_135 : yLw_fill ∈ allY := List.mem_of_getElem? (i := 135) rfl
theorem in_136 : yLw_law ∈ allY := List.mem_of_getElem? (i := 136) rfl
theorem in_137 : yLw_make ∈ allY := List.mem_of_getElem? (i := 137) rfl
theorem in_138 : yLw_node ∈ allY := List.mem_of_getElem? (i := 138) rfl
theorem in_139 : yLw_part ∈ allY := List.mem_of_getElem? (i := 139) rfl
theorem in_140 : yLw_remove ∈ allY := List.mem_of_getElem? (i := 140) rfl
theorem in_141 : yLw_rename ∈ allY := List.mem_of_getElem? (i := 141) rfl
theorem in_142 : yLw_set ∈ allY := List.mem_of_getElem? (i := 142) rfl
theorem in_143 : yLw_size ∈ allY := List.mem_of_getElem? (i := 143) rfl
theorem in_144 : yLw_total ∈ allY := List.mem_of_getElem? (i := 144) rfl
theorem in_145 : yLw_write ∈ allY := List.mem_of_getElem? (i := 145) rfl
theorem in_146 : yAr_copyOf ∈ allY := List.mem_of_getElem? (i := 146) rfl
def tmP (c i : Nat) (r : Nat × Nat × AY) : Prop := r.2.2 ∈ allY ∧ (r.1 = 0 → (mf r.2.2).1 = 0) ∧ (r.1 = 1 → (mf r.2.2).1 = 1) ∧ (r.1 = 2 → (mf r.2.2).1 = 2 ∨ (mf r.2.2).1 = 4) ∧ r.1 ≤ 2 ∧ r.2.1 = (mf r.2.2).2.2.2.2.2 ∧ ∃ p : Nat, lw_tbl[p]? = some (.methodLink (cNm c) i (nm r.2.2)) ∨ (r.1 = 1 ∧ lw_tbl[p]? = some (.methodLinkNest (cNm c) i (nm r.2.2) "TarYard"))
theorem tm_0_11 : tmP 0 11 (1, 0, yRw_init) := ⟨in_14, by decide +kernel, by decide +kernel, by decide +kernel, by decide +kernel, by decide +kernel, 194, Or.inr <| And.intro (by decide +kernel) (by decide +kernel)⟩
theorem tm_0_40 : tmP 0 40 (0, 1, yRw_resize) := ⟨in_25, by decide +kernel, by decide +kernel, by decide +kernel, by decide +kernel, by decide +kernel, 297, Or.inl (by decide +kernel)⟩
theorem tmq_0 : ∀ e ∈ tMl.getD 0 [], tmP 0 e.1 e.2 := List.forall_mem_cons.mpr ⟨tm_0_11, List.forall_mem_cons.mpr ⟨tm_0_40, fun _ h => absurd h List.not_mem_nil⟩⟩
theorem tm_1_11 : tmP 1 11 (1, 0, yRw_init) := ⟨in_14, by decide +kernel, by decide +kernel, by decide +kernel, by decide +kernel, by decide +kernel, 133, Or.inr <| And.intro (by decide +kernel) (by decide +kernel)⟩
theorem tm_1_60 : tmP 1 60 (0, 0, yTr_clear) := ⟨in_41, by decide +kernel, by decide +kernel, by decide +kernel, by decide +kernel, by decide +kernel, 289, Or.inl (by decide +kernel)⟩
theorem tm_1_65 : tmP 1 65 (0, 1, yTp_isBlockOfZeros) := ⟨in_30, by decide +kernel, by decide +kernel, by decide +kernel, by decide +kernel, by decide +kernel, 321, Or.inl (by decide +kernel)⟩
theorem tm_1_74 : tmP 1 74 (0, 1, yRd_faultOfEntry) := ⟨in_6, by decide +kernel, by decide +kernel, by decide +kernel, by decide +kernel, by decide +kernel, 337, Or.inl (by decide +kernel)⟩
theorem tm_1_78 : tmP 1 78 (0, 1, yRd_takeEntry) := ⟨in_8, by decide +kernel, by decide +kernel, by decide +kernel, by decide +kernel, by decide +kernel, 446, Or.inl (by decide +kernel)⟩
theorem tm_1_82 : tmP 1 82 (0, 0, yTp_wholeBlocks) := ⟨in_37, by decide +kernel, by decide +kernel, by decide +kernel, by decide +kernel, by decide +kernel, 341, Or.inl (by decide +kernel)⟩
theorem tm_1_86 : tmP 1 86 (0, 1, yTp_hasCheck) := ⟨in_28, by decide +kernel, by decide +kernel, by decide +kernel, by decide +kernel, by decide +kernel, 342, Or.inl (by decide +kernel)⟩
theorem tm_1_89 : tmP 1 89 (0, 0, yRd_isMarked) := ⟨in_7, by decide +kernel, by decide +kernel, by decide +kernel, by decide +kernel, by decide +kernel, 356, Or.inl (by decide +kernel)⟩
theorem tm_1_93 : tmP 1 93 (0, 0, yRd_takeNumbers) := ⟨in_10, by decide +kernel, by decide +kernel, by decide +kernel, by decide +kernel, by decide +kernel, 367, Or.inl (by decide +kernel)⟩
theorem tm_1_96 : tmP 1 96 (0, 0, yRd_takeKind) := ⟨in_9, by decide +kernel, by decide +kernel, by decide +kernel, by decide +kernel, by decide +kernel, 375, Or.inl (by decide +kernel)⟩
theorem tm_1_99 : tmP 1 99 (0, 1, yRd_takePath) := ⟨in_11, by decide +kernel, by decide +kernel, by decide +kernel, by decide +kernel, by decide +kernel, 383, Or.inl (by decide +kernel)⟩
theorem tm_1_103 : tmP 1 103 (0, 1, yRd_takeTarget) := ⟨in_12, by decide +kernel, by decide +kernel, by decide +kernel, by decide +kernel, by decide +kernel, 430, Or.inl (by decide +kernel)⟩
theorem tm_1_108 : tmP 1 108 (0, 1, yRd_faultOfContents) := ⟨in_5, by decide +kernel, by decide +kernel, by decide +kernel, by decide +kernel, by decide +kernel, 439, Or.inl (by decide +kernel)⟩
theorem tm_1_112 : tmP 1 112 (0, 1, yTp_hasMark) := ⟨in_29, by decide +kernel, by decide +kernel, by decide +kernel, by decide +kernel, by decide +kernel, 360, Or.inl (by decide +kernel)⟩
theorem tm_1_115 : tmP 1 115 (0, 2, yTp_isZeros) := ⟨in_31, by decide +kernel, by decide +kernel, by decide +kernel, by decide +kernel, by decide +kernel, 366, Or.inl (by decide +kernel)⟩
theorem tm_1_119 : tmP 1 119 (0, 2, yTp_octal) := ⟨in_32, by decide +kernel, by decide +kernel, by decide +kernel, by decide +kernel, by decide +kernel, 371, Or.inl (by decide +kernel)⟩
theorem tm_1_132 : tmP 1 132 (0, 1, yRw_at) := ⟨in_16, by decide +kernel, by decide +kernel, by decide +kernel, by decide +kernel, by decide +kernel, 379, Or.inl (by decide +kernel)⟩
theorem tm_1_135 : tmP 1 135 (2, 1, yTt_kindOf) := ⟨in_55, by decide +kernel, by decide +kernel, by decide +kernel, by decide +kernel, by decide +kernel, 380, Or.inl (by decide +kernel)⟩
theorem tm_1_140 : tmP 1 140 (0, 1, yRw_resize) := ⟨in_25, by decide +kernel, by decide +kernel, by decide +kernel, by decide +kernel, by decide +kernel, 387, Or.inl (by decide +kernel)⟩
theorem tm_1_144 : tmP 1 144 (0, 3, yRd_addText) := ⟨in_4, by decide +kernel, by decide +kernel, by decide +kernel, by decide +kernel, by decide +kernel, 388, Or.inl (by decide +kernel)⟩
theorem tm_1_152 : tmP 1 152 (0, 2, yRw_addLetters) := ⟨in_15, by decide +kernel, by decide +kernel, by decide +kernel, by decide +kernel, by decide +kernel, 397, Or.inl (by decide +kernel)⟩
theorem tm_1_156 : tmP 1 156 (0, 1, yRw_lastSlash) := ⟨in_21, by decide +kernel, by decide +kernel, by decide +kernel, by decide +kernel, by decide +kernel, 403, Or.inl (by decide +kernel)⟩
theorem tm_1_159 : tmP 1 159 (0, 2, yTr_lookUp) := ⟨in_50, by decide +kernel, by decide +kernel, by decide +kernel, by decide +kernel, by decide +kernel, 408, Or.inl (by decide +kernel)⟩
theorem tm_1_163 : tmP 1 163 (0, 2, yRw_isNameOfAnyLength) := ⟨in_18, by decide +kernel, by decide +kernel, by decide +kernel, by decide +kernel, by decide +kernel, 421, Or.inl (by decide +kernel)⟩
theorem tm_1_166 : tmP 1 166 (0, 2, yTr_isOfKind) := ⟨in_48, by decide +kernel, by decide +kernel, by decide +kernel, by decide +kernel, by decide +kernel, 425, Or.inl (by decide +kernel)⟩
theorem tm_1_169 : tmP 1 169 (0, 4, yTr_childNamed) := ⟨in_40, by decide +kernel, by decide +kernel, by decide +kernel, by decide +kernel, by decide +kernel, 429, Or.inl (by decide +kernel)⟩
theorem tm_1_173 : tmP 1 173 (0, 0, yRw_isTarget) := ⟨in_20, by decide +kernel, by decide +kernel, by decide +kernel, by decide +kernel, by decide +kernel, 434, Or.inl (by decide +kernel)⟩
theorem tm_1_176 : tmP 1 176 (0, 2, yRw_put) := ⟨in_23, by decide +kernel, by decide +kernel, by decide +kernel, by decide +kernel, by decide +kernel, 392, Or.inl (by decide +kernel)⟩
theorem tm_1_180 : tmP 1 180 (2, 1, yTp_blocksOf) := ⟨in_27, by decide +kernel, by decide +kernel, by decide +kernel, by decide +kernel, by decide +kernel, 443, Or.inl (by decide +kernel)⟩
theorem tm_1_183 : tmP 1 183 (0, 6, yTr_add) := ⟨in_39, by decide +kernel, by decide +kernel, by decide +kernel, by decide +kernel, by decide +kernel, 450, Or.inl (by decide +kernel)⟩
theorem tm_1_187 : tmP 1 187 (0, 1, yTr_has) := ⟨in_46, by decide +kernel, by decide +kernel, by decide +kernel, by decide +kernel, by decide +kernel, 458, Or.inl (by decide +kernel)⟩
theorem tm_1_205 : tmP 1 205 (0, 3, yRw_copySlice) := ⟨in_17, by decide +kernel, by decide +kernel, by decide +kernel, by decide +kernel, by decide +kernel, 462, Or.inl (by decide +kernel)⟩
theorem tmq_1 : ∀ e ∈ tMl.getD 1 [], tmP 1 e.1 e.2 := List.forall_mem_cons.mpr ⟨tm_1_11, List.forall_mem_cons.mpr ⟨tm_1_60, List.forall_mem_cons.mpr ⟨tm_1_65, List.forall_mem_cons.mpr ⟨tm_1_74, List.forall_mem_cons.mpr ⟨tm_1_78, List.forall_mem_cons.mpr ⟨tm_1_82, List.forall_mem_cons.mpr ⟨tm_1_86, List.forall_mem_cons.mpr ⟨tm_1_89, List.forall_mem_cons.mpr ⟨tm_1_93, List.forall_mem_cons.mpr ⟨tm_1_96, List.forall_mem_cons.mpr ⟨tm_1_99, List.forall_mem_cons.mpr ⟨tm_1_103, List.forall_mem_cons.mpr ⟨tm_1_108, List.forall_mem_cons.mpr ⟨tm_1_112, List.forall_mem_cons.mpr ⟨tm_1_115, List.forall_mem_cons.mpr ⟨tm_1_119, List.forall_mem_cons.mpr ⟨tm_1_132, List.forall_mem_cons.mpr ⟨tm_1_135, List.forall_mem_cons.mpr ⟨tm_1_140, List.forall_mem_cons.mpr ⟨tm_1_144, List.forall_mem_cons.mpr ⟨tm_1_152, List.forall_mem_cons.mpr ⟨tm_1_156, List.forall_mem_cons.mpr ⟨tm_1_159, List.forall_mem_cons.mpr ⟨tm_1_163, List.forall_mem_cons.mpr ⟨tm_1_166, List.forall_mem_cons.mpr ⟨tm_1_169, List.forall_mem_cons.mpr ⟨tm_1_173, List.forall_mem_cons.mpr ⟨tm_1_176, List.forall_mem_cons.mpr ⟨tm_1_180, List.forall_mem_cons.mpr ⟨tm_1_183, List.forall_mem_cons.mpr ⟨tm_1_187, List.forall_mem_cons.mpr ⟨tm_1_205, fun _ h => absurd h List.not_mem_nil⟩⟩⟩⟩⟩⟩⟩⟩⟩⟩⟩⟩⟩⟩⟩⟩⟩⟩⟩⟩⟩⟩⟩⟩⟩⟩⟩⟩⟩⟩⟩⟩
theorem tm_2_28 : tmP 2 28 (2, 2, yAr_copyOf) := ⟨in_146, by decide +kernel, by decide +kernel, by decide +kernel, by decide +kernel, by decide +kernel, 307, Or.inl (by decide +kernel)⟩
theorem tm_2_34 : tmP 2 34 (0, 1, yRw_resize) := ⟨in_25, by decide +kernel, by decide +kernel, by decide +kernel, by decide +kernel, by decide +kernel, 401, Or.inl (by decide +kernel)⟩
theorem tm_2_38 : tmP 2 38 (0, 2, yRw_put) := ⟨in_23, by decide +kernel, by decide +kernel, by decide +kernel, by decide +kernel, by decide +kernel, 402, Or.inl (by decide +kernel)⟩
theorem tm_2_42 : tmP 2 42 (0, 1, yRw_at) := ⟨in_16, by decide +kernel, by decide +kernel, by decide +kernel, by decide +kernel, by decide +kernel, 407, Or.inl (by decide +kernel)⟩
theorem tmq_2 : ∀ e ∈ tMl.getD 2 [], tmP 2 e.1 e.2 := List.forall_mem_cons.mpr ⟨tm_2_28, List.forall_mem_cons.mpr ⟨tm_2_34, List.forall_mem_cons.mpr ⟨tm_2_38, List.forall_mem_cons.mpr ⟨tm_2_42, fun _ h => absurd h List.not_mem_nil⟩⟩⟩⟩
theorem tm_3_11 : tmP 3 11 (1, 0, yRw_init) := ⟨in_14, by decide +kernel, by decide +kernel, by decide +kernel, by decide +kernel, by decide +kernel, 83, Or.inr <| And.intro (by decide +kernel) (by decide +kernel)⟩
theorem tm_3_22 : tmP 3 22 (0, 1, yRw_at) := ⟨in_16, by decide +kernel, by decide +kernel, by decide +kernel, by decide +kernel, by decide +kernel, 333, Or.inl (by decide +kernel)⟩
theorem tm_3_26 : tmP 3 26 (0, 0, yTp_wholeBlocks) := ⟨in_37, by decide +kernel, by decide +kernel, by decide +kernel, by decide +kernel, by decide +kernel, 325, Or.inl (by decide +kernel)⟩
theorem tm_3_30 : tmP 3 30 (0, 2, yTp_isZeros) := ⟨in_31, by decide +kernel, by decide +kernel, by decide +kernel, by decide +kernel, by decide +kernel, 329, Or.inl (by decide +kernel)⟩
theorem tm_3_34 : tmP 3 34 (0, 2, yRw_put) := ⟨in_23, by decide +kernel, by decide +kernel, by decide +kernel, by decide +kernel, by decide +kernel, 751, Or.inl (by decide +kernel)⟩
theorem tm_3_46 : tmP 3 46 (0, 1, yTp_sum) := ⟨in_36, by decide +kernel, by decide +kernel, by decide +kernel, by decide +kernel, by decide +kernel, 352, Or.inl (by decide +kernel)⟩
theorem tm_3_49 : tmP 3 49 (0, 3, yTp_putOctal) := ⟨in_35, by decide +kernel, by decide +kernel, by decide +kernel, by decide +kernel, by decide +kernel, 764, Or.inl (by decide +kernel)⟩
theorem tm_3_53 : tmP 3 53 (0, 2, yTp_octal) := ⟨in_32, by decide +kernel, by decide +kernel, by decide +kernel, by decide +kernel, by decide +kernel, 346, Or.inl (by decide +kernel)⟩
theorem tmq_3 : ∀ e ∈ tMl.getD 3 [], tmP 3 e.1 e.2 := List.forall_mem_cons.mpr ⟨tm_3_11, List.forall_mem_cons.mpr ⟨tm_3_22, List.forall_mem_cons.mpr ⟨tm_3_26, List.forall_mem_cons.mpr ⟨tm_3_30, List.forall_mem_cons.mpr ⟨tm_3_34, List.forall_mem_cons.mpr ⟨tm_3_46, List.forall_mem_cons.mpr ⟨tm_3_49, List.forall_mem_cons.mpr ⟨tm_3_53, fun _ h => absurd h List.not_mem_nil⟩⟩⟩⟩⟩⟩⟩⟩
theorem tm_4_25 : tmP 4 25 (1, 0, yNd_init) := ⟨in_0, by decide +kernel, by decide +kernel, by decide +kernel, by decide +kernel, by decide +kernel, 189, Or.inr <| And.intro (by decide +kernel) (by decide +kernel)⟩
theorem tm_4_26 : tmP 4 26 (0, 3, yNd_begin) := ⟨in_1, by decide +kernel, by decide +kernel, by decide +kernel, by decide +kernel, by decide +kernel, 293, Or.inl (by decide +kernel)⟩
theorem tm_4_40 : tmP 4 40 (0, 3, yRw_isSlice) := ⟨in_19, by decide +kernel, by decide +kernel, by decide +kernel, by decide +kernel, by decide +kernel, 417, Or.inl (by decide +kernel)⟩
theorem tm_4_46 : tmP 4 46 (0, 1, yRw_at) := ⟨in_16, by decide +kernel, by decide +kernel, by decide +kernel, by decide +kernel, by decide +kernel, 412, Or.inl (by decide +kernel)⟩
theorem tm_4_50 : tmP 4 50 (0, 4, yTr_childNamed) := ⟨in_40, by decide +kernel, by decide +kernel, by decide +kernel, by decide +kernel, by decide +kernel, 413, Or.inl (by decide +kernel)⟩
theorem tm_4_54 : tmP 4 54 (0, 3, yRw_copySlice) := ⟨in_17, by decide +kernel, by decide +kernel, by decide +kernel, by decide +kernel, by decide +kernel, 454, Or.inl (by decide +kernel)⟩
theorem tm_4_58 : tmP 4 58 (0, 1, yTr_isGone) := ⟨in_47, by decide +kernel, by decide +kernel, by decide +kernel, by decide +kernel, by decide +kernel, 639, Or.inl (by decide +kernel)⟩
theorem tm_4_65 : tmP 4 65 (0, 1, yTr_newNumber) := ⟨in_51, by decide +kernel, by decide +kernel, by decide +kernel, by decide +kernel, by decide +kernel, 644, Or.inl (by decide +kernel)⟩
theorem tm_4_68 : tmP 4 68 (0, 0, yTr_closeGaps) := ⟨in_42, by decide +kernel, by decide +kernel, by decide +kernel, by decide +kernel, by decide +kernel, 648, Or.inl (by decide +kernel)⟩
theorem tm_4_71 : tmP 4 71 (0, 1, yTr_has) := ⟨in_46, by decide +kernel, by decide +kernel, by decide +kernel, by decide +kernel, by decide +kernel, 643, Or.inl (by decide +kernel)⟩
theorem tm_4_74 : tmP 4 74 (0, 2, yTr_isOfKind) := ⟨in_48, by decide +kernel, by decide +kernel, by decide +kernel, by decide +kernel, by decide +kernel, 672, Or.inl (by decide +kernel)⟩
theorem tm_4_81 : tmP 4 81 (0, 1, yTr_pathLength) := ⟨in_53, by decide +kernel, by decide +kernel, by decide +kernel, by decide +kernel, by decide +kernel, 677, Or.inl (by decide +kernel)⟩
theorem tm_4_90 : tmP 4 90 (0, 1, yRw_resize) := ⟨in_25, by decide +kernel, by decide +kernel, by decide +kernel, by decide +kernel, by decide +kernel, 678, Or.inl (by decide +kernel)⟩
theorem tm_4_94 : tmP 4 94 (0, 2, yRw_put) := ⟨in_23, by decide +kernel, by decide +kernel, by decide +kernel, by decide +kernel, by decide +kernel, 679, Or.inl (by decide +kernel)⟩
theorem tm_4_98 : tmP 4 98 (0, 2, yRw_putAll) := ⟨in_24, by decide +kernel, by decide +kernel, by decide +kernel, by decide +kernel, by decide +kernel, 680, Or.inl (by decide +kernel)⟩
theorem tm_4_102 : tmP 4 102 (0, 2, yTr_nextChild) := ⟨in_52, by decide +kernel, by decide +kernel, by decide +kernel, by decide +kernel, by decide +kernel, 724, Or.inl (by decide +kernel)⟩
theorem tm_4_105 : tmP 4 105 (0, 2, yTr_comesBehind) := ⟨in_43, by decide +kernel, by decide +kernel, by decide +kernel, by decide +kernel, by decide +kernel, 728, Or.inl (by decide +kernel)⟩
theorem tm_4_108 : tmP 4 108 (0, 1, yRw_order) := ⟨in_22, by decide +kernel, by decide +kernel, by decide +kernel, by decide +kernel, by decide +kernel, 732, Or.inl (by decide +kernel)⟩
theorem tmq_4 : ∀ e ∈ tMl.getD 4 [], tmP 4 e.1 e.2 := List.forall_mem_cons.mpr ⟨tm_4_25, List.forall_mem_cons.mpr ⟨tm_4_26, List.forall_mem_cons.mpr ⟨tm_4_40, List.forall_mem_cons.mpr ⟨tm_4_46, List.forall_mem_cons.mpr ⟨tm_4_50, List.forall_mem_cons.mpr ⟨tm_4_54, List.forall_mem_cons.mpr ⟨tm_4_58, List.forall_mem_cons.mpr ⟨tm_4_65, List.forall_mem_cons.mpr ⟨tm_4_68, List.forall_mem_cons.mpr ⟨tm_4_71, List.forall_mem_cons.mpr ⟨tm_4_74, List.forall_mem_cons.mpr ⟨tm_4_81, List.forall_mem_cons.mpr ⟨tm_4_90, List.forall_mem_cons.mpr ⟨tm_4_94, List.forall_mem_cons.mpr ⟨tm_4_98, List.forall_mem_cons.mpr ⟨tm_4_102, List.forall_mem_cons.mpr ⟨tm_4_105, List.forall_mem_cons.mpr ⟨tm_4_108, fun _ h => absurd h List.not_mem_nil⟩⟩⟩⟩⟩⟩⟩⟩⟩⟩⟩⟩⟩⟩⟩⟩⟩⟩
theorem tmq_5 : ∀ e ∈ tMl.getD 5 [], tmP 5 e.1 e.2 := fun _ h => absurd h List.not_mem_nil
theorem tm_6_11 : tmP 6 11 (1, 0, yRw_init) := ⟨in_14, by decide +kernel, by decide +kernel, by decide +kernel, by decide +kernel, by decide +kernel, 115, Or.inr <| And.intro (by decide +kernel) (by decide +kernel)⟩
theorem tm_6_31 : tmP 6 31 (0, 2, yWr_isTellable) := ⟨in_60, by decide +kernel, by decide +kernel, by decide +kernel, by decide +kernel, by decide +kernel, 664, Or.inl (by decide +kernel)⟩
theorem tm_6_39 : tmP 6 39 (0, 0, yNd_contentsLength) := ⟨in_2, by decide +kernel, by decide +kernel, by decide +kernel, by decide +kernel, by decide +kernel, 690, Or.inl (by decide +kernel)⟩
theorem tm_6_45 : tmP 6 45 (2, 1, yTp_blocksOf) := ⟨in_27, by decide +kernel, by decide +kernel, by decide +kernel, by decide +kernel, by decide +kernel, 694, Or.inl (by decide +kernel)⟩
theorem tm_6_51 : tmP 6 51 (0, 1, yTr_pathLength) := ⟨in_53, by decide +kernel, by decide +kernel, by decide +kernel, by decide +kernel, by decide +kernel, 668, Or.inl (by decide +kernel)⟩
theorem tm_6_54 : tmP 6 54 (0, 2, yTr_spellPath) := ⟨in_54, by decide +kernel, by decide +kernel, by decide +kernel, by decide +kernel, by decide +kernel, 673, Or.inl (by decide +kernel)⟩
theorem tm_6_58 : tmP 6 58 (0, 0, yWr_cutOfPath) := ⟨in_59, by decide +kernel, by decide +kernel, by decide +kernel, by decide +kernel, by decide +kernel, 684, Or.inl (by decide +kernel)⟩
theorem tm_6_73 : tmP 6 73 (0, 1, yRw_at) := ⟨in_16, by decide +kernel, by decide +kernel, by decide +kernel, by decide +kernel, by decide +kernel, 689, Or.inl (by decide +kernel)⟩
theorem tm_6_79 : tmP 6 79 (0, 1, yRw_resize) := ⟨in_25, by decide +kernel, by decide +kernel, by decide +kernel, by decide +kernel, by decide +kernel, 715, Or.inl (by decide +kernel)⟩
theorem tm_6_83 : tmP 6 83 (0, 2, yWr_putEntries) := ⟨in_62, by decide +kernel, by decide +kernel, by decide +kernel, by decide +kernel, by decide +kernel, 716, Or.inl (by decide +kernel)⟩
theorem tm_6_87 : tmP 6 87 (0, 1, yTr_follower) := ⟨in_45, by decide +kernel, by decide +kernel, by decide +kernel, by decide +kernel, by decide +kernel, 720, Or.inl (by decide +kernel)⟩
theorem tm_6_90 : tmP 6 90 (0, 1, yTr_has) := ⟨in_46, by decide +kernel, by decide +kernel, by decide +kernel, by decide +kernel, by decide +kernel, 736, Or.inl (by decide +kernel)⟩
theorem tm_6_94 : tmP 6 94 (0, 2, yTr_isOfKind) := ⟨in_48, by decide +kernel, by decide +kernel, by decide +kernel, by decide +kernel, by decide +kernel, 737, Or.inl (by decide +kernel)⟩
theorem tm_6_98 : tmP 6 98 (0, 2, yWr_putHeader) := ⟨in_63, by decide +kernel, by decide +kernel, by decide +kernel, by decide +kernel, by decide +kernel, 738, Or.inl (by decide +kernel)⟩
theorem tm_6_102 : tmP 6 102 (0, 1, yWr_putContents) := ⟨in_61, by decide +kernel, by decide +kernel, by decide +kernel, by decide +kernel, by decide +kernel, 765, Or.inl (by decide +kernel)⟩
theorem tm_6_106 : tmP 6 106 (0, 1, yWr_putPath) := ⟨in_64, by decide +kernel, by decide +kernel, by decide +kernel, by decide +kernel, by decide +kernel, 742, Or.inl (by decide +kernel)⟩
theorem tm_6_112 : tmP 6 112 (0, 3, yTp_putOctal) := ⟨in_35, by decide +kernel, by decide +kernel, by decide +kernel, by decide +kernel, by decide +kernel, 747, Or.inl (by decide +kernel)⟩
theorem tm_6_125 : tmP 6 125 (2, 1, yTt_typeOf) := ⟨in_56, by decide +kernel, by decide +kernel, by decide +kernel, by decide +kernel, by decide +kernel, 752, Or.inl (by decide +kernel)⟩
theorem tm_6_130 : tmP 6 130 (0, 2, yRw_put) := ⟨in_23, by decide +kernel, by decide +kernel, by decide +kernel, by decide +kernel, by decide +kernel, 746, Or.inl (by decide +kernel)⟩
theorem tm_6_137 : tmP 6 137 (0, 2, yRw_putAll) := ⟨in_24, by decide +kernel, by decide +kernel, by decide +kernel, by decide +kernel, by decide +kernel, 755, Or.inl (by decide +kernel)⟩
theorem tm_6_140 : tmP 6 140 (0, 1, yTp_putMark) := ⟨in_34, by decide +kernel, by decide +kernel, by decide +kernel, by decide +kernel, by decide +kernel, 756, Or.inl (by decide +kernel)⟩
theorem tm_6_143 : tmP 6 143 (0, 1, yTp_putCheck) := ⟨in_33, by decide +kernel, by decide +kernel, by decide +kernel, by decide +kernel, by decide +kernel, 760, Or.inl (by decide +kernel)⟩
theorem tmq_6 : ∀ e ∈ tMl.getD 6 [], tmP 6 e.1 e.2 := List.forall_mem_cons.mpr ⟨tm_6_11, List.forall_mem_cons.mpr ⟨tm_6_31, List.forall_mem_cons.mpr ⟨tm_6_39, List.forall_mem_cons.mpr ⟨tm_6_45, List.forall_mem_cons.mpr ⟨tm_6_51, List.forall_mem_cons.mpr ⟨tm_6_54, List.forall_mem_cons.mpr ⟨tm_6_58, List.forall_mem_cons.mpr ⟨tm_6_73, List.forall_mem_cons.mpr ⟨tm_6_79, List.forall_mem_cons.mpr ⟨tm_6_83, List.forall_mem_cons.mpr ⟨tm_6_87, List.forall_mem_cons.mpr ⟨tm_6_90, List.forall_mem_cons.mpr ⟨tm_6_94, List.forall_mem_cons.mpr ⟨tm_6_98, List.forall_mem_cons.mpr ⟨tm_6_102, List.forall_mem_cons.mpr ⟨tm_6_106, List.forall_mem_cons.mpr ⟨tm_6_112, List.forall_mem_cons.mpr ⟨tm_6_125, List.forall_mem_cons.mpr ⟨tm_6_130, List.forall_mem_cons.mpr ⟨tm_6_137, List.forall_mem_cons.mpr ⟨tm_6_140, List.forall_mem_cons.mpr ⟨tm_6_143, fun _ h => absurd h List.not_mem_nil⟩⟩⟩⟩⟩⟩⟩⟩⟩⟩⟩⟩⟩⟩⟩⟩⟩⟩⟩⟩⟩⟩
theorem tm_7_11 : tmP 7 11 (1, 0, yTp_init) := ⟨in_26, by decide +kernel, by decide +kernel, by decide +kernel, by decide +kernel, by decide +kernel, 77, Or.inr <| And.intro (by decide +kernel) (by decide +kernel)⟩
theorem tm_7_18 : tmP 7 18 (1, 1, yWr_init) := ⟨in_57, by decide +kernel, by decide +kernel, by decide +kernel, by decide +kernel, by decide +kernel, 110, Or.inl (by decide +kernel)⟩
theorem tm_7_27 : tmP 7 27 (1, 1, yRd_init) := ⟨in_3, by decide +kernel, by decide +kernel, by decide +kernel, by decide +kernel, by decide +kernel, 128, Or.inl (by decide +kernel)⟩
theorem tm_7_34 : tmP 7 34 (1, 0, yRw_init) := ⟨in_14, by decide +kernel, by decide +kernel, by decide +kernel, by decide +kernel, by decide +kernel, 179, Or.inr <| And.intro (by decide +kernel) (by decide +kernel)⟩
theorem tm_7_41 : tmP 7 41 (1, 0, yTr_init) := ⟨in_38, by decide +kernel, by decide +kernel, by decide +kernel, by decide +kernel, by decide +kernel, 182, Or.inl (by decide +kernel)⟩
theorem tm_7_60 : tmP 7 60 (0, 2, yTr_isOfKind) := ⟨in_48, by decide +kernel, by decide +kernel, by decide +kernel, by decide +kernel, by decide +kernel, 548, Or.inl (by decide +kernel)⟩
theorem tm_7_68 : tmP 7 68 (0, 1, yRw_resize) := ⟨in_25, by decide +kernel, by decide +kernel, by decide +kernel, by decide +kernel, by decide +kernel, 551, Or.inl (by decide +kernel)⟩
theorem tm_7_72 : tmP 7 72 (0, 2, yRw_addLetters) := ⟨in_15, by decide +kernel, by decide +kernel, by decide +kernel, by decide +kernel, by decide +kernel, 552, Or.inl (by decide +kernel)⟩
theorem tm_7_76 : tmP 7 76 (0, 1, yTY_refuseName) := ⟨in_78, by decide +kernel, by decide +kernel, by decide +kernel, by decide +kernel, by decide +kernel, 553, Or.inl (by decide +kernel)⟩
theorem tm_7_89 : tmP 7 89 (0, 6, yTr_add) := ⟨in_39, by decide +kernel, by decide +kernel, by decide +kernel, by decide +kernel, by decide +kernel, 578, Or.inl (by decide +kernel)⟩
theorem tm_7_93 : tmP 7 93 (0, 1, yTY_known) := ⟨in_72, by decide +kernel, by decide +kernel, by decide +kernel, by decide +kernel, by decide +kernel, 586, Or.inl (by decide +kernel)⟩
theorem tm_7_109 : tmP 7 109 (0, 3, yRw_copySlice) := ⟨in_17, by decide +kernel, by decide +kernel, by decide +kernel, by decide +kernel, by decide +kernel, 594, Or.inl (by decide +kernel)⟩
theorem tm_7_125 : tmP 7 125 (0, 0, yRw_isTarget) := ⟨in_20, by decide +kernel, by decide +kernel, by decide +kernel, by decide +kernel, by decide +kernel, 605, Or.inl (by decide +kernel)⟩
theorem tm_7_140 : tmP 7 140 (0, 2, yRw_put) := ⟨in_23, by decide +kernel, by decide +kernel, by decide +kernel, by decide +kernel, by decide +kernel, 617, Or.inl (by decide +kernel)⟩
theorem tm_7_156 : tmP 7 156 (0, 1, yTr_has) := ⟨in_46, by decide +kernel, by decide +kernel, by decide +kernel, by decide +kernel, by decide +kernel, 590, Or.inl (by decide +kernel)⟩
theorem tm_7_162 : tmP 7 162 (0, 1, yTr_drop) := ⟨in_44, by decide +kernel, by decide +kernel, by decide +kernel, by decide +kernel, by decide +kernel, 635, Or.inl (by decide +kernel)⟩
theorem tm_7_166 : tmP 7 166 (0, 1, yWr_blocksFor) := ⟨in_58, by decide +kernel, by decide +kernel, by decide +kernel, by decide +kernel, by decide +kernel, 660, Or.inl (by decide +kernel)⟩
theorem tm_7_175 : tmP 7 175 (0, 2, yWr_putTree) := ⟨in_65, by decide +kernel, by decide +kernel, by decide +kernel, by decide +kernel, by decide +kernel, 711, Or.inl (by decide +kernel)⟩
theorem tm_7_179 : tmP 7 179 (0, 1, yRd_takeTree) := ⟨in_13, by decide +kernel, by decide +kernel, by decide +kernel, by decide +kernel, by decide +kernel, 285, Or.inl (by decide +kernel)⟩
theorem tm_7_188 : tmP 7 188 (0, 1, yRw_at) := ⟨in_16, by decide +kernel, by decide +kernel, by decide +kernel, by decide +kernel, by decide +kernel, 471, Or.inl (by decide +kernel)⟩
theorem tm_7_193 : tmP 7 193 (0, 0, yTp_wholeBlocks) := ⟨in_37, by decide +kernel, by decide +kernel, by decide +kernel, by decide +kernel, by decide +kernel, 784, Or.inl (by decide +kernel)⟩
theorem tm_7_199 : tmP 7 199 (0, 1, yTp_putCheck) := ⟨in_33, by decide +kernel, by decide +kernel, by decide +kernel, by decide +kernel, by decide +kernel, 786, Or.inl (by decide +kernel)⟩
theorem tm_7_211 : tmP 7 211 (0, 0, yTr_longestPath) := ⟨in_49, by decide +kernel, by decide +kernel, by decide +kernel, by decide +kernel, by decide +kernel, 818, Or.inl (by decide +kernel)⟩
theorem tm_7_222 : tmP 7 222 (0, 2, yRw_isNameOfAnyLength) := ⟨in_18, by decide +kernel, by decide +kernel, by decide +kernel, by decide +kernel, by decide +kernel, 557, Or.inl (by decide +kernel)⟩
theorem tm_7_227 : tmP 7 227 (0, 4, yTr_childNamed) := ⟨in_40, by decide +kernel, by decide +kernel, by decide +kernel, by decide +kernel, by decide +kernel, 559, Or.inl (by decide +kernel)⟩
theorem tmq_7 : ∀ e ∈ tMl.getD 7 [], tmP 7 e.1 e.2 := List.forall_mem_cons.mpr ⟨tm_7_11, List.forall_mem_cons.mpr ⟨tm_7_18, List.forall_mem_cons.mpr ⟨tm_7_27, List.forall_mem_cons.mpr ⟨tm_7_34, List.forall_mem_cons.mpr ⟨tm_7_41, List.forall_mem_cons.mpr ⟨tm_7_60, List.forall_mem_cons.mpr ⟨tm_7_68, List.forall_mem_cons.mpr ⟨tm_7_72, List.forall_mem_cons.mpr ⟨tm_7_76, List.forall_mem_cons.mpr ⟨tm_7_89, List.forall_mem_cons.mpr ⟨tm_7_93, List.forall_mem_cons.mpr ⟨tm_7_109, List.forall_mem_cons.mpr ⟨tm_7_125, List.forall_mem_cons.mpr ⟨tm_7_140, List.forall_mem_cons.mpr ⟨tm_7_156, List.forall_mem_cons.mpr ⟨tm_7_162, List.forall_mem_cons.mpr ⟨tm_7_166, List.forall_mem_cons.mpr ⟨tm_7_175, List.forall_mem_cons.mpr ⟨tm_7_179, List.forall_mem_cons.mpr ⟨tm_7_188, List.forall_mem_cons.mpr ⟨tm_7_193, List.forall_mem_cons.mpr ⟨tm_7_199, List.forall_mem_cons.mpr ⟨tm_7_211, List.forall_mem_cons.mpr ⟨tm_7_222, List.forall_mem_cons.mpr ⟨tm_7_227, fun _ h => absurd h List.not_mem_nil⟩⟩⟩⟩⟩⟩⟩⟩⟩⟩⟩⟩⟩⟩⟩⟩⟩⟩⟩⟩⟩⟩⟩⟩⟩
theorem tm_8_76 : tmP 8 76 (0, 1, yMd_clear) := ⟨in_91, by decide +kernel, by decide +kernel, by decide +kernel, by decide +kernel, by decide +kernel, 831, Or.inl (by decide +kernel)⟩
theorem tm_8_86 : tmP 8 86 (0, 0, yMd_count) := ⟨in_95, by decide +kernel, by decide +kernel, by decide +kernel, by decide +kernel, by decide +kernel, 932, Or.inl (by decide +kernel)⟩
theorem tm_8_90 : tmP 8 90 (2, 1, yMd_isLetter) := ⟨in_105, by decide +kernel, by decide +kernel, by decide +kernel, by decide +kernel, by decide +kernel, 941, Or.inl (by decide +kernel)⟩
theorem tm_8_94 : tmP 8 94 (0, 4, yMd_isCalled) := ⟨in_104, by decide +kernel, by decide +kernel, by decide +kernel, by decide +kernel, by decide +kernel, 951, Or.inl (by decide +kernel)⟩
theorem tm_8_103 : tmP 8 103 (2, 3, yMd_within) := ⟨in_130, by decide +kernel, by decide +kernel, by decide +kernel, by decide +kernel, by decide +kernel, 925, Or.inl (by decide +kernel)⟩
theorem tm_8_107 : tmP 8 107 (0, 1, yMd_isNode) := ⟨in_107, by decide +kernel, by decide +kernel, by decide +kernel, by decide +kernel, by decide +kernel, 928, Or.inl (by decide +kernel)⟩
theorem tm_8_110 : tmP 8 110 (0, 2, yMd_spell) := ⟨in_123, by decide +kernel, by decide +kernel, by decide +kernel, by decide +kernel, by decide +kernel, 936, Or.inl (by decide +kernel)⟩
theorem tm_8_114 : tmP 8 114 (2, 3, yMd_isName) := ⟨in_106, by decide +kernel, by decide +kernel, by decide +kernel, by decide +kernel, by decide +kernel, 944, Or.inl (by decide +kernel)⟩
theorem tm_8_118 : tmP 8 118 (0, 5, yMd_find) := ⟨in_100, by decide +kernel, by decide +kernel, by decide +kernel, by decide +kernel, by decide +kernel, 947, Or.inl (by decide +kernel)⟩
theorem tm_8_122 : tmP 8 122 (0, 2, yMd_fails) := ⟨in_98, by decide +kernel, by decide +kernel, by decide +kernel, by decide +kernel, by decide +kernel, 955, Or.inl (by decide +kernel)⟩
theorem tm_8_126 : tmP 8 126 (0, 6, yMd_add) := ⟨in_86, by decide +kernel, by decide +kernel, by decide +kernel, by decide +kernel, by decide +kernel, 959, Or.inl (by decide +kernel)⟩
theorem tm_8_131 : tmP 8 131 (0, 2, yMd_move) := ⟨in_111, by decide +kernel, by decide +kernel, by decide +kernel, by decide +kernel, by decide +kernel, 984, Or.inl (by decide +kernel)⟩
theorem tm_8_135 : tmP 8 135 (0, 2, yMd_compare) := ⟨in_92, by decide +kernel, by decide +kernel, by decide +kernel, by decide +kernel, by decide +kernel, 1000, Or.inl (by decide +kernel)⟩
theorem tm_8_139 : tmP 8 139 (0, 2, yMd_next) := ⟨in_112, by decide +kernel, by decide +kernel, by decide +kernel, by decide +kernel, by decide +kernel, 996, Or.inl (by decide +kernel)⟩
theorem tm_8_142 : tmP 8 142 (0, 0, yMd_arrange) := ⟨in_88, by decide +kernel, by decide +kernel, by decide +kernel, by decide +kernel, by decide +kernel, 992, Or.inl (by decide +kernel)⟩
theorem tm_8_145 : tmP 8 145 (0, 1, yMd_blocksOf) := ⟨in_89, by decide +kernel, by decide +kernel, by decide +kernel, by decide +kernel, by decide +kernel, 1004, Or.inl (by decide +kernel)⟩
theorem tm_8_149 : tmP 8 149 (0, 1, yMd_tell) := ⟨in_125, by decide +kernel, by decide +kernel, by decide +kernel, by decide +kernel, by decide +kernel, 1008, Or.inl (by decide +kernel)⟩
theorem tm_8_152 : tmP 8 152 (0, 0, yMd_cutOf) := ⟨in_96, by decide +kernel, by decide +kernel, by decide +kernel, by decide +kernel, by decide +kernel, 1012, Or.inl (by decide +kernel)⟩
theorem tm_8_158 : tmP 8 158 (0, 2, yMd_head) := ⟨in_103, by decide +kernel, by decide +kernel, by decide +kernel, by decide +kernel, by decide +kernel, 1016, Or.inl (by decide +kernel)⟩
theorem tm_8_165 : tmP 8 165 (0, 3, yMd_octal) := ⟨in_115, by decide +kernel, by decide +kernel, by decide +kernel, by decide +kernel, by decide +kernel, 1020, Or.inl (by decide +kernel)⟩
theorem tm_8_169 : tmP 8 169 (2, 1, yMd_markOf) := ⟨in_110, by decide +kernel, by decide +kernel, by decide +kernel, by decide +kernel, by decide +kernel, 1026, Or.inl (by decide +kernel)⟩
theorem tm_8_172 : tmP 8 172 (0, 1, yMd_sum) := ⟨in_124, by decide +kernel, by decide +kernel, by decide +kernel, by decide +kernel, by decide +kernel, 1029, Or.inl (by decide +kernel)⟩
theorem tm_8_177 : tmP 8 177 (0, 2, yMd_isZero) := ⟨in_108, by decide +kernel, by decide +kernel, by decide +kernel, by decide +kernel, by decide +kernel, 1037, Or.inl (by decide +kernel)⟩
theorem tm_8_187 : tmP 8 187 (0, 2, yMd_number) := ⟨in_114, by decide +kernel, by decide +kernel, by decide +kernel, by decide +kernel, by decide +kernel, 1049, Or.inl (by decide +kernel)⟩
theorem tm_8_195 : tmP 8 195 (0, 1, yMd_firstFault) := ⟨in_101, by decide +kernel, by decide +kernel, by decide +kernel, by decide +kernel, by decide +kernel, 1045, Or.inl (by decide +kernel)⟩
theorem tm_8_198 : tmP 8 198 (0, 2, yMd_textOf) := ⟨in_126, by decide +kernel, by decide +kernel, by decide +kernel, by decide +kernel, by decide +kernel, 1056, Or.inl (by decide +kernel)⟩
theorem tm_8_201 : tmP 8 201 (0, 2, yMd_copyIn) := ⟨in_94, by decide +kernel, by decide +kernel, by decide +kernel, by decide +kernel, by decide +kernel, 1060, Or.inl (by decide +kernel)⟩
theorem tm_8_204 : tmP 8 204 (0, 2, yMd_walk) := ⟨in_129, by decide +kernel, by decide +kernel, by decide +kernel, by decide +kernel, by decide +kernel, 1064, Or.inl (by decide +kernel)⟩
theorem tm_8_210 : tmP 8 210 (0, 2, yMd_entry) := ⟨in_97, by decide +kernel, by decide +kernel, by decide +kernel, by decide +kernel, by decide +kernel, 1041, Or.inl (by decide +kernel)⟩
theorem tmq_8 : ∀ e ∈ tMl.getD 8 [], tmP 8 e.1 e.2 := List.forall_mem_cons.mpr ⟨tm_8_76, List.forall_mem_cons.mpr ⟨tm_8_86, List.forall_mem_cons.mpr ⟨tm_8_90, List.forall_mem_cons.mpr ⟨tm_8_94, List.forall_mem_cons.mpr ⟨tm_8_103, List.forall_mem_cons.mpr ⟨tm_8_107, List.forall_mem_cons.mpr ⟨tm_8_110, List.forall_mem_cons.mpr ⟨tm_8_114, List.forall_mem_cons.mpr ⟨tm_8_118, List.forall_mem_cons.mpr ⟨tm_8_122, List.forall_mem_cons.mpr ⟨tm_8_126, List.forall_mem_cons.mpr ⟨tm_8_131, List.forall_mem_cons.mpr ⟨tm_8_135, List.forall_mem_cons.mpr ⟨tm_8_139, List.forall_mem_cons.mpr ⟨tm_8_142, List.forall_mem_cons.mpr ⟨tm_8_145, List.forall_mem_cons.mpr ⟨tm_8_149, List.forall_mem_cons.mpr ⟨tm_8_152, List.forall_mem_cons.mpr ⟨tm_8_158, List.forall_mem_cons.mpr ⟨tm_8_165, List.forall_mem_cons.mpr ⟨tm_8_169, List.forall_mem_cons.mpr ⟨tm_8_172, List.forall_mem_cons.mpr ⟨tm_8_177, List.forall_mem_cons.mpr ⟨tm_8_187, List.forall_mem_cons.mpr ⟨tm_8_195, List.forall_mem_cons.mpr ⟨tm_8_198, List.forall_mem_cons.mpr ⟨tm_8_201, List.forall_mem_cons.mpr ⟨tm_8_204, List.forall_mem_cons.mpr ⟨tm_8_210, fun _ h => absurd h List.not_mem_nil⟩⟩⟩⟩⟩⟩⟩⟩⟩⟩⟩⟩⟩⟩⟩⟩⟩⟩⟩⟩⟩⟩⟩⟩⟩⟩⟩⟩⟩
theorem tm_9_7 : tmP 9 7 (0, 5, yTY_make) := ⟨in_73, by decide +kernel, by decide +kernel, by decide +kernel, by decide +kernel, by decide +kernel, 477, Or.inl (by decide +kernel)⟩
theorem tm_9_17 : tmP 9 17 (0, 3, yTY_rename) := ⟨in_80, by decide +kernel, by decide +kernel, by decide +kernel, by decide +kernel, by decide +kernel, 582, Or.inl (by decide +kernel)⟩
theorem tm_9_21 : tmP 9 21 (0, 3, yTY_fill) := ⟨in_70, by decide +kernel, by decide +kernel, by decide +kernel, by decide +kernel, by decide +kernel, 599, Or.inl (by decide +kernel)⟩
theorem tm_9_24 : tmP 9 24 (0, 3, yTY_contents) := ⟨in_69, by decide +kernel, by decide +kernel, by decide +kernel, by decide +kernel, by decide +kernel, 611, Or.inl (by decide +kernel)⟩
theorem tm_9_28 : tmP 9 28 (0, 4, yTY_set) := ⟨in_81, by decide +kernel, by decide +kernel, by decide +kernel, by decide +kernel, by decide +kernel, 621, Or.inl (by decide +kernel)⟩
theorem tm_9_32 : tmP 9 32 (0, 1, yTY_remove) := ⟨in_79, by decide +kernel, by decide +kernel, by decide +kernel, by decide +kernel, by decide +kernel, 630, Or.inl (by decide +kernel)⟩
theorem tm_9_36 : tmP 9 36 (0, 0, yTY_write) := ⟨in_84, by decide +kernel, by decide +kernel, by decide +kernel, by decide +kernel, by decide +kernel, 656, Or.inl (by decide +kernel)⟩
theorem tm_9_42 : tmP 9 42 (0, 2, yTY_alter) := ⟨in_67, by decide +kernel, by decide +kernel, by decide +kernel, by decide +kernel, by decide +kernel, 772, Or.inl (by decide +kernel)⟩
theorem tm_9_46 : tmP 9 46 (0, 1, yTY_check) := ⟨in_68, by decide +kernel, by decide +kernel, by decide +kernel, by decide +kernel, by decide +kernel, 780, Or.inl (by decide +kernel)⟩
theorem tm_9_49 : tmP 9 49 (0, 1, yTY_size) := ⟨in_82, by decide +kernel, by decide +kernel, by decide +kernel, by decide +kernel, by decide +kernel, 790, Or.inl (by decide +kernel)⟩
theorem tm_9_53 : tmP 9 53 (0, 2, yTY_node) := ⟨in_74, by decide +kernel, by decide +kernel, by decide +kernel, by decide +kernel, by decide +kernel, 798, Or.inl (by decide +kernel)⟩
theorem tm_9_56 : tmP 9 56 (0, 3, yTY_part) := ⟨in_75, by decide +kernel, by decide +kernel, by decide +kernel, by decide +kernel, by decide +kernel, 806, Or.inl (by decide +kernel)⟩
theorem tm_9_60 : tmP 9 60 (0, 1, yTY_total) := ⟨in_83, by decide +kernel, by decide +kernel, by decide +kernel, by decide +kernel, by decide +kernel, 814, Or.inl (by decide +kernel)⟩
theorem tm_9_63 : tmP 9 63 (1, 0, yTY_init) := ⟨in_66, by decide +kernel, by decide +kernel, by decide +kernel, by decide +kernel, by decide +kernel, 69, Or.inl (by decide +kernel)⟩
theorem tm_9_66 : tmP 9 66 (1, 0, yMd_init) := ⟨in_85, by decide +kernel, by decide +kernel, by decide +kernel, by decide +kernel, by decide +kernel, 826, Or.inl (by decide +kernel)⟩
theorem tm_9_69 : tmP 9 69 (2, 7, yLw_make) := ⟨in_137, by decide +kernel, by decide +kernel, by decide +kernel, by decide +kernel, by decide +kernel, 472, Or.inl (by decide +kernel)⟩
theorem tm_9_74 : tmP 9 74 (0, 5, yMd_make) := ⟨in_109, by decide +kernel, by decide +kernel, by decide +kernel, by decide +kernel, by decide +kernel, 921, Or.inl (by decide +kernel)⟩
theorem tm_9_75 : tmP 9 75 (0, 0, yMd_thrown) := ⟨in_127, by decide +kernel, by decide +kernel, by decide +kernel, by decide +kernel, by decide +kernel, 917, Or.inl (by decide +kernel)⟩
theorem tm_9_78 : tmP 9 78 (2, 5, yLw_rename) := ⟨in_141, by decide +kernel, by decide +kernel, by decide +kernel, by decide +kernel, by decide +kernel, 579, Or.inl (by decide +kernel)⟩
theorem tm_9_81 : tmP 9 81 (0, 3, yMd_rename) := ⟨in_120, by decide +kernel, by decide +kernel, by decide +kernel, by decide +kernel, by decide +kernel, 963, Or.inl (by decide +kernel)⟩
theorem tm_9_82 : tmP 9 82 (2, 5, yLw_fill) := ⟨in_135, by decide +kernel, by decide +kernel, by decide +kernel, by decide +kernel, by decide +kernel, 596, Or.inl (by decide +kernel)⟩
theorem tm_9_84 : tmP 9 84 (0, 3, yMd_fill) := ⟨in_99, by decide +kernel, by decide +kernel, by decide +kernel, by decide +kernel, by decide +kernel, 967, Or.inl (by decide +kernel)⟩
theorem tm_9_85 : tmP 9 85 (2, 4, yLw_contents) := ⟨in_134, by decide +kernel, by decide +kernel, by decide +kernel, by decide +kernel, by decide +kernel, 608, Or.inl (by decide +kernel)⟩
theorem tm_9_88 : tmP 9 88 (0, 3, yMd_contents) := ⟨in_93, by decide +kernel, by decide +kernel, by decide +kernel, by decide +kernel, by decide +kernel, 971, Or.inl (by decide +kernel)⟩
theorem tm_9_89 : tmP 9 89 (2, 5, yLw_set) := ⟨in_142, by decide +kernel, by decide +kernel, by decide +kernel, by decide +kernel, by decide +kernel, 618, Or.inl (by decide +kernel)⟩
theorem tm_9_92 : tmP 9 92 (0, 4, yMd_set) := ⟨in_121, by decide +kernel, by decide +kernel, by decide +kernel, by decide +kernel, by decide +kernel, 975, Or.inl (by decide +kernel)⟩
theorem tm_9_93 : tmP 9 93 (2, 3, yLw_remove) := ⟨in_140, by decide +kernel, by decide +kernel, by decide +kernel, by decide +kernel, by decide +kernel, 627, Or.inl (by decide +kernel)⟩
theorem tm_9_96 : tmP 9 96 (0, 1, yMd_remove) := ⟨in_119, by decide +kernel, by decide +kernel, by decide +kernel, by decide +kernel, by decide +kernel, 980, Or.inl (by decide +kernel)⟩
theorem tm_9_97 : tmP 9 97 (2, 2, yLw_write) := ⟨in_145, by decide +kernel, by decide +kernel, by decide +kernel, by decide +kernel, by decide +kernel, 652, Or.inl (by decide +kernel)⟩
theorem tm_9_100 : tmP 9 100 (0, 0, yMd_write) := ⟨in_131, by decide +kernel, by decide +kernel, by decide +kernel, by decide +kernel, by decide +kernel, 988, Or.inl (by decide +kernel)⟩
theorem tm_9_101 : tmP 9 101 (0, 0, yTY_read) := ⟨in_77, by decide +kernel, by decide +kernel, by decide +kernel, by decide +kernel, by decide +kernel, 281, Or.inl (by decide +kernel)⟩
theorem tm_9_104 : tmP 9 104 (0, 0, yMd_read) := ⟨in_118, by decide +kernel, by decide +kernel, by decide +kernel, by decide +kernel, by decide +kernel, 1033, Or.inl (by decide +kernel)⟩
theorem tm_9_105 : tmP 9 105 (0, 0, yTY_place) := ⟨in_76, by decide +kernel, by decide +kernel, by decide +kernel, by decide +kernel, by decide +kernel, 463, Or.inl (by decide +kernel)⟩
theorem tm_9_108 : tmP 9 108 (0, 0, yMd_place) := ⟨in_117, by decide +kernel, by decide +kernel, by decide +kernel, by decide +kernel, by decide +kernel, 1069, Or.inl (by decide +kernel)⟩
theorem tm_9_109 : tmP 9 109 (2, 4, yLw_alter) := ⟨in_132, by decide +kernel, by decide +kernel, by decide +kernel, by decide +kernel, by decide +kernel, 769, Or.inl (by decide +kernel)⟩
theorem tm_9_112 : tmP 9 112 (0, 2, yMd_alter) := ⟨in_87, by decide +kernel, by decide +kernel, by decide +kernel, by decide +kernel, by decide +kernel, 1073, Or.inl (by decide +kernel)⟩
theorem tm_9_113 : tmP 9 113 (2, 3, yLw_check) := ⟨in_133, by decide +kernel, by decide +kernel, by decide +kernel, by decide +kernel, by decide +kernel, 777, Or.inl (by decide +kernel)⟩
theorem tm_9_115 : tmP 9 115 (0, 1, yMd_check) := ⟨in_90, by decide +kernel, by decide +kernel, by decide +kernel, by decide +kernel, by decide +kernel, 1077, Or.inl (by decide +kernel)⟩
theorem tm_9_116 : tmP 9 116 (2, 2, yLw_size) := ⟨in_143, by decide +kernel, by decide +kernel, by decide +kernel, by decide +kernel, by decide +kernel, 787, Or.inl (by decide +kernel)⟩
theorem tm_9_119 : tmP 9 119 (0, 1, yMd_size) := ⟨in_122, by decide +kernel, by decide +kernel, by decide +kernel, by decide +kernel, by decide +kernel, 1081, Or.inl (by decide +kernel)⟩
theorem tm_9_120 : tmP 9 120 (0, 1, yTY_hand) := ⟨in_71, by decide +kernel, by decide +kernel, by decide +kernel, by decide +kernel, by decide +kernel, 467, Or.inl (by decide +kernel)⟩
theorem tm_9_123 : tmP 9 123 (0, 1, yMd_hand) := ⟨in_102, by decide +kernel, by decide +kernel, by decide +kernel, by decide +kernel, by decide +kernel, 1085, Or.inl (by decide +kernel)⟩
theorem tm_9_124 : tmP 9 124 (2, 4, yLw_node) := ⟨in_138, by decide +kernel, by decide +kernel, by decide +kernel, by decide +kernel, by decide +kernel, 795, Or.inl (by decide +kernel)⟩
theorem tm_9_126 : tmP 9 126 (0, 2, yMd_node) := ⟨in_113, by decide +kernel, by decide +kernel, by decide +kernel, by decide +kernel, by decide +kernel, 1089, Or.inl (by decide +kernel)⟩
theorem tm_9_127 : tmP 9 127 (2, 5, yLw_part) := ⟨in_139, by decide +kernel, by decide +kernel, by decide +kernel, by decide +kernel, by decide +kernel, 803, Or.inl (by decide +kernel)⟩
theorem tm_9_130 : tmP 9 130 (0, 3, yMd_part) := ⟨in_116, by decide +kernel, by decide +kernel, by decide +kernel, by decide +kernel, by decide +kernel, 1093, Or.inl (by decide +kernel)⟩
theorem tm_9_131 : tmP 9 131 (2, 3, yLw_total) := ⟨in_144, by decide +kernel, by decide +kernel, by decide +kernel, by decide +kernel, by decide +kernel, 811, Or.inl (by decide +kernel)⟩
theorem tm_9_133 : tmP 9 133 (0, 1, yMd_total) := ⟨in_128, by decide +kernel, by decide +kernel, by decide +kernel, by decide +kernel, by decide +kernel, 1097, Or.inl (by decide +kernel)⟩
theorem tmq_9 : ∀ e ∈ tMl.getD 9 [], tmP 9 e.1 e.2 := List.forall_mem_cons.mpr ⟨tm_9_7, List.forall_mem_cons.mpr ⟨tm_9_17, List.forall_mem_cons.mpr ⟨tm_9_21, List.forall_mem_cons.mpr ⟨tm_9_24, List.forall_mem_cons.mpr ⟨tm_9_28, List.forall_mem_cons.mpr ⟨tm_9_32, List.forall_mem_cons.mpr ⟨tm_9_36, List.forall_mem_cons.mpr ⟨tm_9_42, List.forall_mem_cons.mpr ⟨tm_9_46, List.forall_mem_cons.mpr ⟨tm_9_49, List.forall_mem_cons.mpr ⟨tm_9_53, List.forall_mem_cons.mpr ⟨tm_9_56, List.forall_mem_cons.mpr ⟨tm_9_60, List.forall_mem_cons.mpr ⟨tm_9_63, List.forall_mem_cons.mpr ⟨tm_9_66, List.forall_mem_cons.mpr ⟨tm_9_69, List.forall_mem_cons.mpr ⟨tm_9_74, List.forall_mem_cons.mpr ⟨tm_9_75, List.forall_mem_cons.mpr ⟨tm_9_78, List.forall_mem_cons.mpr ⟨tm_9_81, List.forall_mem_cons.mpr ⟨tm_9_82, List.forall_mem_cons.mpr ⟨tm_9_84, List.forall_mem_cons.mpr ⟨tm_9_85, List.forall_mem_cons.mpr ⟨tm_9_88, List.forall_mem_cons.mpr ⟨tm_9_89, List.forall_mem_cons.mpr ⟨tm_9_92, List.forall_mem_cons.mpr ⟨tm_9_93, List.forall_mem_cons.mpr ⟨tm_9_96, List.forall_mem_cons.mpr ⟨tm_9_97, List.forall_mem_cons.mpr ⟨tm_9_100, List.forall_mem_cons.mpr ⟨tm_9_101, List.forall_mem_cons.mpr ⟨tm_9_104, List.forall_mem_cons.mpr ⟨tm_9_105, List.forall_mem_cons.mpr ⟨tm_9_108, List.forall_mem_cons.mpr ⟨tm_9_109, List.forall_mem_cons.mpr ⟨tm_9_112, List.forall_mem_cons.mpr ⟨tm_9_113, List.forall_mem_cons.mpr ⟨tm_9_115, List.forall_mem_cons.mpr ⟨tm_9_116, List.forall_mem_cons.mpr ⟨tm_9_119, List.forall_mem_cons.mpr ⟨tm_9_120, List.forall_mem_cons.mpr ⟨tm_9_123, List.forall_mem_cons.mpr ⟨tm_9_124, List.forall_mem_cons.mpr ⟨tm_9_126, List.forall_mem_cons.mpr ⟨tm_9_127, List.forall_mem_cons.mpr ⟨tm_9_130, List.forall_mem_cons.mpr ⟨tm_9_131, List.forall_mem_cons.mpr ⟨tm_9_133, fun _ h => absurd h List.not_mem_nil⟩⟩⟩⟩⟩⟩⟩⟩⟩⟩⟩⟩⟩⟩⟩⟩⟩⟩⟩⟩⟩⟩⟩⟩⟩⟩⟩⟩⟩⟩⟩⟩⟩⟩⟩⟩⟩⟩⟩⟩⟩⟩⟩⟩⟩⟩⟩⟩
theorem tmq_10 : ∀ e ∈ tMl.getD 10 [], tmP 10 e.1 e.2 := fun _ h => absurd h List.not_mem_nil
theorem tM_ok {c i : Nat} {r : Nat × Nat × AY} (h : tM c i = some r) : tmP c i r := by
  have h1 := lookup_mem h
  match c, h1 with
  | 0, h1 => exact tmq_0 _ h1
  | 1, h1 => exact tmq_1 _ h1
  | 2, h1 => exact tmq_2 _ h1
  | 3, h1 => exact tmq_3 _ h1
  | 4, h1 => exact tmq_4 _ h1
  | 5, h1 => exact tmq_5 _ h1
  | 6, h1 => exact tmq_6 _ h1
  | 7, h1 => exact tmq_7 _ h1
  | 8, h1 => exact tmq_8 _ h1
  | 9, h1 => exact tmq_9 _ h1
  | 10, h1 => exact tmq_10 _ h1
  | n + 11, h1 => exact absurd h1 (by simp [tMl])
def tbP (c i k : Nat) : Prop := (k = 0 ∧ ∃ p : Nat, lw_tbl[p]? = some (.methodLink (cNm c) i Lib.objectInit)) ∨ (k = 1 ∧ ∃ p : Nat, lw_tbl[p]? = some (.methodLink (cNm c) i Lib.Math.max.name)) ∨ (k = 2 ∧ ∃ p : Nat, lw_tbl[p]? = some (.methodLink (cNm c) i Lib.Math.min.name)) ∨ (k = 3 ∧ ∃ p : Nat, lw_tbl[p]? = some (.methodLink (cNm c) i arraycopyName))
theorem tb_0_3 : tbP 0 3 0 := Or.inl ⟨rfl, 192, by decide +kernel⟩
theorem tbq_0 : ∀ e ∈ tBl.getD 0 [], tbP 0 e.1 e.2 := List.forall_mem_cons.mpr ⟨tb_0_3, fun _ h => absurd h List.not_mem_nil⟩
theorem tb_1_3 : tbP 1 3 0 := Or.inl ⟨rfl, 131, by decide +kernel⟩
theorem tbq_1 : ∀ e ∈ tBl.getD 1 [], tbP 1 e.1 e.2 := List.forall_mem_cons.mpr ⟨tb_1_3, fun _ h => absurd h List.not_mem_nil⟩
theorem tb_2_3 : tbP 2 3 0 := Or.inl ⟨rfl, 86, by decide +kernel⟩
theorem tb_2_19 : tbP 2 19 2 := Or.inr <| Or.inr <| Or.inl ⟨rfl, 301, by decide +kernel⟩
theorem tb_2_25 : tbP 2 25 1 := Or.inr <| Or.inl ⟨rfl, 304, by decide +kernel⟩
theorem tbq_2 : ∀ e ∈ tBl.getD 2 [], tbP 2 e.1 e.2 := List.forall_mem_cons.mpr ⟨tb_2_3, List.forall_mem_cons.mpr ⟨tb_2_19, List.forall_mem_cons.mpr ⟨tb_2_25, fun _ h => absurd h List.not_mem_nil⟩⟩⟩
theorem tb_3_3 : tbP 3 3 0 := Or.inl ⟨rfl, 80, by decide +kernel⟩
theorem tbq_3 : ∀ e ∈ tBl.getD 3 [], tbP 3 e.1 e.2 := List.forall_mem_cons.mpr ⟨tb_3_3, fun _ h => absurd h List.not_mem_nil⟩
theorem tb_4_3 : tbP 4 3 0 := Or.inl ⟨rfl, 185, by decide +kernel⟩
theorem tb_4_84 : tbP 4 84 1 := Or.inr <| Or.inl ⟨rfl, 822, by decide +kernel⟩
theorem tbq_4 : ∀ e ∈ tBl.getD 4 [], tbP 4 e.1 e.2 := List.forall_mem_cons.mpr ⟨tb_4_3, List.forall_mem_cons.mpr ⟨tb_4_84, fun _ h => absurd h List.not_mem_nil⟩⟩
theorem tbq_5 : ∀ e ∈ tBl.getD 5 [], tbP 5 e.1 e.2 := fun _ h => absurd h List.not_mem_nil
theorem tb_6_3 : tbP 6 3 0 := Or.inl ⟨rfl, 113, by decide +kernel⟩
theorem tb_6_67 : tbP 6 67 1 := Or.inr <| Or.inl ⟨rfl, 688, by decide +kernel⟩
theorem tbq_6 : ∀ e ∈ tBl.getD 6 [], tbP 6 e.1 e.2 := List.forall_mem_cons.mpr ⟨tb_6_3, List.forall_mem_cons.mpr ⟨tb_6_67, fun _ h => absurd h List.not_mem_nil⟩⟩
theorem tb_7_3 : tbP 7 3 0 := Or.inl ⟨rfl, 72, by decide +kernel⟩
theorem tbq_7 : ∀ e ∈ tBl.getD 7 [], tbP 7 e.1 e.2 := List.forall_mem_cons.mpr ⟨tb_7_3, fun _ h => absurd h List.not_mem_nil⟩
theorem tb_8_1 : tbP 8 1 0 := Or.inl ⟨rfl, 829, by decide +kernel⟩
theorem tbq_8 : ∀ e ∈ tBl.getD 8 [], tbP 8 e.1 e.2 := List.forall_mem_cons.mpr ⟨tb_8_1, fun _ h => absurd h List.not_mem_nil⟩
theorem tbq_9 : ∀ e ∈ tBl.getD 9 [], tbP 9 e.1 e.2 := fun _ h => absurd h List.not_mem_nil
theorem tb_10_150 : tbP 10 150 3 := Or.inr <| Or.inr <| Or.inr <| ⟨rfl, 318, by decide +kernel⟩
theorem tb_10_304 : tbP 10 304 2 := Or.inr <| Or.inr <| Or.inl ⟨rfl, 317, by decide +kernel⟩
theorem tbq_10 : ∀ e ∈ tBl.getD 10 [], tbP 10 e.1 e.2 := List.forall_mem_cons.mpr ⟨tb_10_150, List.forall_mem_cons.mpr ⟨tb_10_304, fun _ h => absurd h List.not_mem_nil⟩⟩
theorem tB_ok {c i k : Nat} (h : tB c i = some k) : tbP c i k := by
  have h1 := lookup_mem h
  match c, h1 with
  | 0, h1 => exact tbq_0 _ h1
  | 1, h1 => exact tbq_1 _ h1
  | 2, h1 => exact tbq_2 _ h1
  | 3, h1 => exact tbq_3 _ h1
  | 4, h1 => exact tbq_4 _ h1
  | 5, h1 => exact tbq_5 _ h1
  | 6, h1 => exact tbq_6 _ h1
  | 7, h1 => exact tbq_7 _ h1
  | 8, h1 => exact tbq_8 _ h1
  | 9, h1 => exact tbq_9 _ h1
  | 10, h1 => exact tbq_10 _ h1
  | n + 11, h1 => exact absurd h1 (by simp [tBl])
theorem wp_oi : lw_tbl[73]? = some (.instanceMethod Lib.objectInit) := by decide +kernel
theorem wp_oc : lw_tbl[74]? = some (.code Lib.objectInit ⟨#[0xb1]⟩ 1 none) := by decide +kernel
theorem wp_maxs : lw_tbl[305]? = some (.static Lib.Math.max.name) := by decide +kernel
theorem wp_maxc : lw_tbl[306]? = some (.code Lib.Math.max.name Lib.Math.max.code 2 (some .int)) := by decide +kernel
theorem wp_mins : lw_tbl[302]? = some (.static Lib.Math.min.name) := by decide +kernel
theorem wp_minc : lw_tbl[303]? = some (.code Lib.Math.min.name Lib.Math.min.code 2 (some .int)) := by decide +kernel
theorem wp_mi : lw_tbl[61]? = some (.initialized "java/lang/Math") := by decide +kernel
theorem wp_as : lw_tbl[319]? = some (.static arraycopyName) := by decide +kernel
theorem wp_an : lw_tbl[320]? = some (.native arraycopyName) := by decide +kernel
theorem wp_ai : lw_tbl[63]? = some (.initialized "java/lang/System") := by decide +kernel
theorem ac_int : lw_tbl[242]? = some (.arrayClass .int) := by decide +kernel
theorem ac_byte : lw_tbl[100]? = some (.arrayClass .byte) := by decide +kernel
theorem ac_long : lw_tbl[1102]? = some (.arrayClass .long) := by decide +kernel
theorem ao_node : lw_tbl[187]? = some (.arrayOver (.object "TarYard$Node")) := by decide +kernel
theorem tS_w : ∃ p : Nat, lw_tbl[p]? = some (.fieldLink "TarYard$Tape" 42 "TarYard$Tape" "MARK" "[B") := ⟨364, by decide +kernel⟩
theorem tS_ok {c i : Nat} (h : tS c i = true) : c = 3 ∧ i = 42 := by
  unfold tS at h
  simpa using h
def tcP (c i ci : Nat) : Prop := ∃ (q : vw_C) (p1 p2 p3 : Nat), vcl[ci]? = some q ∧ lw_tbl[p1]? = some (.classLink (cNm c) i q.1) ∧ lw_tbl[p2]? = some (.instantiable q.1 q.2.2) ∧ lw_tbl[p3]? = some (.initialized q.1) ∧ (tD ci).length = q.2.2
theorem tc_0_9 : tcP 0 9 2 := ⟨("TarYard$Row", FC2, 2), 193, 82, 51, rfl, by decide +kernel, by decide +kernel, by decide +kernel, by decide +kernel⟩
theorem tcq_0 : ∀ e ∈ tCl.getD 0 [], tcP 0 e.1 e.2 := List.forall_mem_cons.mpr ⟨tc_0_9, fun _ h => absurd h List.not_mem_nil⟩
theorem tc_1_9 : tcP 1 9 2 := ⟨("TarYard$Row", FC2, 2), 132, 82, 51, rfl, by decide +kernel, by decide +kernel, by decide +kernel, by decide +kernel⟩
theorem tcq_1 : ∀ e ∈ tCl.getD 1 [], tcP 1 e.1 e.2 := List.forall_mem_cons.mpr ⟨tc_1_9, fun _ h => absurd h List.not_mem_nil⟩
theorem tcq_2 : ∀ e ∈ tCl.getD 2 [], tcP 2 e.1 e.2 := fun _ h => absurd h List.not_mem_nil
theorem tc_3_9 : tcP 3 9 2 := ⟨("TarYard$Row", FC2, 2), 81, 82, 51, rfl, by decide +kernel, by decide +kernel, by decide +kernel, by decide +kernel⟩
theorem tcq_3 : ∀ e ∈ tCl.getD 3 [], tcP 3 e.1 e.2 := List.forall_mem_cons.mpr ⟨tc_3_9, fun _ h => absurd h List.not_mem_nil⟩
theorem tc_4_9 : tcP 4 9 0 := ⟨("TarYard$Node", FC0, 8), 186, 188, 55, rfl, by decide +kernel, by decide +kernel, by decide +kernel, by decide +kernel⟩
theorem tcq_4 : ∀ e ∈ tCl.getD 4 [], tcP 4 e.1 e.2 := List.forall_mem_cons.mpr ⟨tc_4_9, fun _ h => absurd h List.not_mem_nil⟩
theorem tcq_5 : ∀ e ∈ tCl.getD 5 [], tcP 5 e.1 e.2 := fun _ h => absurd h List.not_mem_nil
theorem tc_6_9 : tcP 6 9 2 := ⟨("TarYard$Row", FC2, 2), 114, 82, 51, rfl, by decide +kernel, by decide +kernel, by decide +kernel, by decide +kernel⟩
theorem tcq_6 : ∀ e ∈ tCl.getD 6 [], tcP 6 e.1 e.2 := List.forall_mem_cons.mpr ⟨tc_6_9, fun _ h => absurd h List.not_mem_nil⟩
theorem tc_7_9 : tcP 7 9 3 := ⟨("TarYard$Tape", FC3, 1), 75, 76, 50, rfl, by decide +kernel, by decide +kernel, by decide +kernel, by decide +kernel⟩
theorem tc_7_16 : tcP 7 16 6 := ⟨("TarYard$Writer", FC6, 3), 108, 109, 52, rfl, by decide +kernel, by decide +kernel, by decide +kernel, by decide +kernel⟩
theorem tc_7_25 : tcP 7 25 1 := ⟨("TarYard$Reader", FC1, 14), 126, 127, 53, rfl, by decide +kernel, by decide +kernel, by decide +kernel, by decide +kernel⟩
theorem tc_7_32 : tcP 7 32 2 := ⟨("TarYard$Row", FC2, 2), 178, 82, 51, rfl, by decide +kernel, by decide +kernel, by decide +kernel, by decide +kernel⟩
theorem tc_7_39 : tcP 7 39 4 := ⟨("TarYard$Tree", FC4, 3), 180, 181, 54, rfl, by decide +kernel, by decide +kernel, by decide +kernel, by decide +kernel⟩
theorem tcq_7 : ∀ e ∈ tCl.getD 7 [], tcP 7 e.1 e.2 := List.forall_mem_cons.mpr ⟨tc_7_9, List.forall_mem_cons.mpr ⟨tc_7_16, List.forall_mem_cons.mpr ⟨tc_7_25, List.forall_mem_cons.mpr ⟨tc_7_32, List.forall_mem_cons.mpr ⟨tc_7_39, fun _ h => absurd h List.not_mem_nil⟩⟩⟩⟩⟩
theorem tcq_8 : ∀ e ∈ tCl.getD 8 [], tcP 8 e.1 e.2 := fun _ h => absurd h List.not_mem_nil
theorem tc_9_8 : tcP 9 8 7 := ⟨("TarYard", FC7, 7), 67, 68, 49, rfl, by decide +kernel, by decide +kernel, by decide +kernel, by decide +kernel⟩
theorem tc_9_64 : tcP 9 64 8 := ⟨("TarYardModel", FC8, 27), 824, 825, 56, rfl, by decide +kernel, by decide +kernel, by decide +kernel, by decide +kernel⟩
theorem tcq_9 : ∀ e ∈ tCl.getD 9 [], tcP 9 e.1 e.2 := List.forall_mem_cons.mpr ⟨tc_9_8, List.forall_mem_cons.mpr ⟨tc_9_64, fun _ h => absurd h List.not_mem_nil⟩⟩
theorem tcq_10 : ∀ e ∈ tCl.getD 10 [], tcP 10 e.1 e.2 := fun _ h => absurd h List.not_mem_nil
theorem tC_ok {c i ci : Nat} (h : tC c i = some ci) : tcP c i ci := by
  have h1 := lookup_mem h
  match c, h1 with
  | 0, h1 => exact tcq_0 _ h1
  | 1, h1 => exact tcq_1 _ h1
  | 2, h1 => exact tcq_2 _ h1
  | 3, h1 => exact tcq_3 _ h1
  | 4, h1 => exact tcq_4 _ h1
  | 5, h1 => exact tcq_5 _ h1
  | 6, h1 => exact tcq_6 _ h1
  | 7, h1 => exact tcq_7 _ h1
  | 8, h1 => exact tcq_8 _ h1
  | 9, h1 => exact tcq_9 _ h1
  | 10, h1 => exact tcq_10 _ h1
  | n + 11, h1 => exact absurd h1 (by simp [tCl])
def tiiP (c i : Nat) (v : Int) : Prop := r32 v ∧ ∃ p : Nat, lw_tbl[p]? = some (.constant (cNm c) i (Int32.ofInt v))
theorem tiiq_0 : ∀ e ∈ tIl.getD 0 [], tiiP 0 e.1 e.2 := fun _ h => absurd h List.not_mem_nil
theorem tiiq_1 : ∀ e ∈ tIl.getD 1 [], tiiP 1 e.1 e.2 := fun _ h => absurd h List.not_mem_nil
theorem tiiq_2 : ∀ e ∈ tIl.getD 2 [], tiiP 2 e.1 e.2 := fun _ h => absurd h List.not_mem_nil
theorem tiiq_3 : ∀ e ∈ tIl.getD 3 [], tiiP 3 e.1 e.2 := fun _ h => absurd h List.not_mem_nil
theorem tiiq_4 : ∀ e ∈ tIl.getD 4 [], tiiP 4 e.1 e.2 := fun _ h => absurd h List.not_mem_nil
theorem tiiq_5 : ∀ e ∈ tIl.getD 5 [], tiiP 5 e.1 e.2 := fun _ h => absurd h List.not_mem_nil
theorem tiiq_6 : ∀ e ∈ tIl.getD 6 [], tiiP 6 e.1 e.2 := fun _ h => absurd h List.not_mem_nil
theorem tii_7_144 : tiiP 7 144 2097151 := ⟨⟨by decide, by decide⟩, 625, by decide +kernel⟩
theorem tiiq_7 : ∀ e ∈ tIl.getD 7 [], tiiP 7 e.1 e.2 := List.forall_mem_cons.mpr ⟨tii_7_144, fun _ h => absurd h List.not_mem_nil⟩
theorem tii_8_41 : tiiP 8 41 120000 := ⟨⟨by decide, by decide⟩, 830, by decide +kernel⟩
theorem tii_8_130 : tiiP 8 130 2097151 := ⟨⟨by decide, by decide⟩, 979, by decide +kernel⟩
theorem tiiq_8 : ∀ e ∈ tIl.getD 8 [], tiiP 8 e.1 e.2 := List.forall_mem_cons.mpr ⟨tii_8_41, List.forall_mem_cons.mpr ⟨tii_8_130, fun _ h => absurd h List.not_mem_nil⟩⟩
theorem tiiq_9 : ∀ e ∈ tIl.getD 9 [], tiiP 9 e.1 e.2 := fun _ h => absurd h List.not_mem_nil
theorem tiiq_10 : ∀ e ∈ tIl.getD 10 [], tiiP 10 e.1 e.2 := fun _ h => absurd h List.not_mem_nil
theorem tI_ok {c i : Nat} {v : Int} (h : tI c i = some v) : tiiP c i v := by
  have h1 := lookup_mem h
  match c, h1 with
  | 0, h1 => exact tiiq_0 _ h1
  | 1, h1 => exact tiiq_1 _ h1
  | 2, h1 => exact tiiq_2 _ h1
  | 3, h1 => exact tiiq_3 _ h1
  | 4, h1 => exact tiiq_4 _ h1
  | 5, h1 => exact tiiq_5 _ h1
  | 6, h1 => exact tiiq_6 _ h1
  | 7, h1 => exact tiiq_7 _ h1
  | 8, h1 => exact tiiq_8 _ h1
  | 9, h1 => exact tiiq_9 _ h1
  | 10, h1 => exact tiiq_10 _ h1
  | n + 11, h1 => exact absurd h1 (by simp [tIl])
def tjjP (c i : Nat) (v : Int) : Prop := r64 v ∧ ∃ p : Nat, lw_tbl[p]? = some (.constantLong (cNm c) i (Int64.ofInt v))
theorem tjjq_0 : ∀ e ∈ tJl.getD 0 [], tjjP 0 e.1 e.2 := fun _ h => absurd h List.not_mem_nil
theorem tjj_1_106 : tjjP 1 106 2000 := ⟨⟨by decide, by decide⟩, 438, by decide +kernel⟩
theorem tjj_1_123 : tjjP 1 123 (-1) := ⟨⟨by decide, by decide⟩, 372, by decide +kernel⟩
theorem tjj_1_125 : tjjP 1 125 4095 := ⟨⟨by decide, by decide⟩, 373, by decide +kernel⟩
theorem tjj_1_127 : tjjP 1 127 2147483647 := ⟨⟨by decide, by decide⟩, 374, by decide +kernel⟩
theorem tjj_1_150 : tjjP 1 150 47 := ⟨⟨by decide, by decide⟩, 396, by decide +kernel⟩
theorem tjjq_1 : ∀ e ∈ tJl.getD 1 [], tjjP 1 e.1 e.2 := List.forall_mem_cons.mpr ⟨tjj_1_106, List.forall_mem_cons.mpr ⟨tjj_1_123, List.forall_mem_cons.mpr ⟨tjj_1_125, List.forall_mem_cons.mpr ⟨tjj_1_127, List.forall_mem_cons.mpr ⟨tjj_1_150, fun _ h => absurd h List.not_mem_nil⟩⟩⟩⟩⟩
theorem tjjq_2 : ∀ e ∈ tJl.getD 2 [], tjjP 2 e.1 e.2 := fun _ h => absurd h List.not_mem_nil
theorem tjj_3_38 : tjjP 3 38 (-1) := ⟨⟨by decide, by decide⟩, 350, by decide +kernel⟩
theorem tjj_3_40 : tjjP 3 40 8 := ⟨⟨by decide, by decide⟩, 351, by decide +kernel⟩
theorem tjjq_3 : ∀ e ∈ tJl.getD 3 [], tjjP 3 e.1 e.2 := List.forall_mem_cons.mpr ⟨tjj_3_38, List.forall_mem_cons.mpr ⟨tjj_3_40, fun _ h => absurd h List.not_mem_nil⟩⟩
theorem tjjq_4 : ∀ e ∈ tJl.getD 4 [], tjjP 4 e.1 e.2 := fun _ h => absurd h List.not_mem_nil
theorem tjjq_5 : ∀ e ∈ tJl.getD 5 [], tjjP 5 e.1 e.2 := fun _ h => absurd h List.not_mem_nil
theorem tjjq_6 : ∀ e ∈ tJl.getD 6 [], tjjP 6 e.1 e.2 := fun _ h => absurd h List.not_mem_nil
theorem tjjq_7 : ∀ e ∈ tJl.getD 7 [], tjjP 7 e.1 e.2 := fun _ h => absurd h List.not_mem_nil
theorem tjj_8_98 : tjjP 8 98 255 := ⟨⟨by decide, by decide⟩, 940, by decide +kernel⟩
theorem tjj_8_161 : tjjP 8 161 48 := ⟨⟨by decide, by decide⟩, 1024, by decide +kernel⟩
theorem tjj_8_163 : tjjP 8 163 8 := ⟨⟨by decide, by decide⟩, 1025, by decide +kernel⟩
theorem tjj_8_175 : tjjP 8 175 (-1) := ⟨⟨by decide, by decide⟩, 1053, by decide +kernel⟩
theorem tjj_8_191 : tjjP 8 191 4095 := ⟨⟨by decide, by decide⟩, 1054, by decide +kernel⟩
theorem tjj_8_193 : tjjP 8 193 2147483647 := ⟨⟨by decide, by decide⟩, 1055, by decide +kernel⟩
theorem tjj_8_208 : tjjP 8 208 2000 := ⟨⟨by decide, by decide⟩, 1068, by decide +kernel⟩
theorem tjjq_8 : ∀ e ∈ tJl.getD 8 [], tjjP 8 e.1 e.2 := List.forall_mem_cons.mpr ⟨tjj_8_98, List.forall_mem_cons.mpr ⟨tjj_8_161, List.forall_mem_cons.mpr ⟨tjj_8_163, List.forall_mem_cons.mpr ⟨tjj_8_175, List.forall_mem_cons.mpr ⟨tjj_8_191, List.forall_mem_cons.mpr ⟨tjj_8_193, List.forall_mem_cons.mpr ⟨tjj_8_208, fun _ h => absurd h List.not_mem_nil⟩⟩⟩⟩⟩⟩⟩
theorem tjj_9_67 : tjjP 9 67 4294967295 := ⟨⟨by decide, by decide⟩, 1101, by decide +kernel⟩
theorem tjjq_9 : ∀ e ∈ tJl.getD 9 [], tjjP 9 e.1 e.2 := List.forall_mem_cons.mpr ⟨tjj_9_67, fun _ h => absurd h List.not_mem_nil⟩
theorem tjjq_10 : ∀ e ∈ tJl.getD 10 [], tjjP 10 e.1 e.2 := fun _ h => absurd h List.not_mem_nil
theorem tJ_ok {c i : Nat} {v : Int} (h : tJ c i = some v) : tjjP c i v := by
  have h1 := lookup_mem h
  match c, h1 with
  | 0, h1 => exact tjjq_0 _ h1
  | 1, h1 => exact tjjq_1 _ h1
  | 2, h1 => exact tjjq_2 _ h1
  | 3, h1 => exact tjjq_3 _ h1
  | 4, h1 => exact tjjq_4 _ h1
  | 5, h1 => exact tjjq_5 _ h1
  | 6, h1 => exact tjjq_6 _ h1
  | 7, h1 => exact tjjq_7 _ h1
  | 8, h1 => exact tjjq_8 _ h1
  | 9, h1 => exact tjjq_9 _ h1
  | 10, h1 => exact tjjq_10 _ h1
  | n + 11, h1 => exact absurd h1 (by simp [tJl])
