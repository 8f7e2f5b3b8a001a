def R_Bands : String := "PacketHeads$Bands"
def F_Bands : u_T := fun k => match k with
  | 0 => ("PacketHeads$Bands", "base", "[I", true)
  | 1 => ("PacketHeads$Bands", "leaf", "[I", false)
  | 2 => ("PacketHeads$Bands", "above", "[I", false)
  | 3 => ("PacketHeads$Bands", "count", "I", false)
  | 4 => ("PacketHeads$Bands", "nodes", "I", false)
  | _ => ("PacketHeads$Bands", "style", "I", false)
def t_Bands : Nat → FieldType := fun k => match k with
  | 0 => .array .int
  | 1 => .array .int
  | 2 => .array .int
  | 3 => .int
  | 4 => .int
  | _ => .int
theorem n_Bands : ∀ a, a < 6 → ∀ b, b < 6 → a ≠ b → (F_Bands a).2.1 ≠ (F_Bands b).2.1 := by decide +kernel
theorem t_Bands_ok : ∀ k, k < 6 → parseFieldDescriptor (F_Bands k).2.2.1 = some (t_Bands k) := by decide +kernel
theorem il_Bands_0 : u_lay R_Bands F_Bands 0 ∈ TB := in_TB (List.mem_append_right _ (List.mem_of_getElem? (i := 61) (by decide +kernel))) (by decide +kernel)
theorem il_Bands_1 : u_lay R_Bands F_Bands 1 ∈ TB := in_TB (List.mem_append_right _ (List.mem_of_getElem? (i := 63) (by decide +kernel))) (by decide +kernel)
theorem il_Bands_2 : u_lay R_Bands F_Bands 2 ∈ TB := in_TB (List.mem_append_right _ (List.mem_of_getElem? (i := 65) (by decide +kernel))) (by decide +kernel)
theorem il_Bands_3 : u_lay R_Bands F_Bands 3 ∈ TB := in_TB (List.mem_append_right _ (List.mem_of_getElem? (i := 67) (by decide +kernel))) (by decide +kernel)
theorem il_Bands_4 : u_lay R_Bands F_Bands 4 ∈ TB := in_TB (List.mem_append_right _ (List.mem_of_getElem? (i := 69) (by decide +kernel))) (by decide +kernel)
theorem il_Bands_5 : u_lay R_Bands F_Bands 5 ∈ TB := in_TB (List.mem_append_right _ (List.mem_of_getElem? (i := 71) (by decide +kernel))) (by decide +kernel)
theorem i_Bands : ∀ w ∈ u_ws R_Bands F_Bands 6, w ∈ TB := by
  intro w hw
  obtain ⟨k, hk, rfl⟩ := List.mem_map.mp hw
  have hk := List.mem_range.mp hk
  rcases (show k = 0 ∨ k = 1 ∨ k = 2 ∨ k = 3 ∨ k = 4 ∨ k = 5 by omega) with rfl | rfl | rfl | rfl | rfl | rfl
  · exact il_Bands_0
  · exact il_Bands_1
  · exact il_Bands_2
  · exact il_Bands_3
  · exact il_Bands_4
  · exact il_Bands_5
theorem v_Bands : ∀ j, j < 6 → defaultValue (t_Bands j) = vp_V [.null, .null, .null, .int 0, .int 0, .int 0] j := by
  intro j hj
  rcases (show j = 0 ∨ j = 1 ∨ j = 2 ∨ j = 3 ∨ j = 4 ∨ j = 5 by omega) with rfl | rfl | rfl | rfl | rfl | rfl <;> rfl
def R_Side : String := "PacketHeads$Side"
def F_Side : u_T := fun k => match k with
  | 0 => ("PacketHeads$Side", "bands", "LPacketHeads$Bands;", true)
  | 1 => ("PacketHeads$Side", "in", "LPacketHeads$Trees;", true)
  | 2 => ("PacketHeads$Side", "out", "LPacketHeads$Trees;", true)
  | 3 => ("PacketHeads$Side", "width", "[I", false)
  | 4 => ("PacketHeads$Side", "all", "[I", false)
  | 5 => ("PacketHeads$Side", "now", "[I", false)
  | 6 => ("PacketHeads$Side", "from", "[I", false)
  | 7 => ("PacketHeads$Side", "pieces", "[I", false)
  | 8 => ("PacketHeads$Side", "told", "[I", false)
  | 9 => ("PacketHeads$Side", "lengths", "[I", false)
  | 10 => ("PacketHeads$Side", "lengthCount", "I", false)
  | _ => ("PacketHeads$Side", "layers", "I", false)
def t_Side : Nat → FieldType := fun k => match k with
  | 0 => .object "PacketHeads$Bands"
  | 1 => .object "PacketHeads$Trees"
  | 2 => .object "PacketHeads$Trees"
  | 3 => .array .int
  | 4 => .array .int
  | 5 => .array .int
  | 6 => .array .int
  | 7 => .array .int
  | 8 => .array .int
  | 9 => .array .int
  | 10 => .int
  | _ => .int
theorem n_Side : ∀ a, a < 12 → ∀ b, b < 12 → a ≠ b → (F_Side a).2.1 ≠ (F_Side b).2.1 := by decide +kernel
theorem t_Side_ok : ∀ k, k < 12 → parseFieldDescriptor (F_Side k).2.2.1 = some (t_Side k) := by decide +kernel
theorem il_Side_0 : u_lay R_Side F_Side 0 ∈ TB := in_TB (List.mem_append_right _ (List.mem_of_getElem? (i := 128) (by decide +kernel))) (by decide +kernel)
theorem il_Side_1 : u_lay R_Side F_Side 1 ∈ TB := in_TB (List.mem_append_right _ (List.mem_of_getElem? (i := 130) (by decide +kernel))) (by decide +kernel)
theorem il_Side_2 : u_lay R_Side F_Side 2 ∈ TB := in_TB (List.mem_append_right _ (List.mem_of_getElem? (i := 132) (by decide +kernel))) (by decide +kernel)
theorem il_Side_3 : u_lay R_Side F_Side 3 ∈ TB := in_TB (List.mem_append_right _ (List.mem_of_getElem? (i := 134) (by decide +kernel))) (by decide +kernel)
theorem il_Side_4 : u_lay R_Side F_Side 4 ∈ TB := in_TB (List.mem_append_right _ (List.mem_of_getElem? (i := 136) (by decide +kernel))) (by decide +kernel)
theorem il_Side_5 : u_lay R_Side F_Side 5 ∈ TB := in_TB (List.mem_append_right _ (List.mem_of_getElem? (i := 138) (by decide +kernel))) (by decide +kernel)
theorem il_Side_6 : u_lay R_Side F_Side 6 ∈ TB := in_TB (List.mem_append_right _ (List.mem_of_getElem? (i := 140) (by decide +kernel))) (by decide +kernel)
theorem il_Side_7 : u_lay R_Side F_Side 7 ∈ TB := in_TB (List.mem_append_right _ (List.mem_of_getElem? (i := 142) (by decide +kernel))) (by decide +kernel)
theorem il_Side_8 : u_lay R_Side F_Side 8 ∈ TB := in_TB (List.mem_append_right _ (List.mem_of_getElem? (i := 144) (by decide +kernel))) (by decide +kernel)
theorem il_Side_9 : u_lay R_Side F_Side 9 ∈ TB := in_TB (List.mem_append_right _ (List.mem_of_getElem? (i := 146) (by decide +kernel))) (by decide +kernel)
theorem il_Side_10 : u_lay R_Side F_Side 10 ∈ TB := in_TB (List.mem_append_right _ (List.mem_of_getElem? (i := 148) (by decide +kernel))) (by decide +kernel)
theorem il_Side_11 : u_lay R_Side F_Side 11 ∈ TB := in_TB (List.mem_append_right _ (List.mem_of_getElem? (i := 150) (by decide +kernel))) (by decide +kernel)
theorem i_Side : ∀ w ∈ u_ws R_Side F_Side 12, w ∈ TB := by
  intro w hw
  obtain ⟨k, hk, rfl⟩ := List.mem_map.mp hw
  have hk := List.mem_range.mp hk
  rcases (show k = 0 ∨ k = 1 ∨ k = 2 ∨ k = 3 ∨ k = 4 ∨ k = 5 ∨ k = 6 ∨ k = 7 ∨ k = 8 ∨ k = 9 ∨ k = 10 ∨ k = 11 by omega) with rfl | rfl | rfl | rfl | rfl | rfl | rfl | rfl | rfl | rfl | rfl | rfl
  · exact il_Side_0
  · exact il_Side_1
  · exact il_Side_2
  · exact il_Side_3
  · exact il_Side_4
  · exact il_Side_5
  · exact il_Side_6
  · exact il_Side_7
  · exact il_Side_8
  · exact il_Side_9
  · exact il_Side_10
  · exact il_Side_11
theorem v_Side : ∀ j, j < 12 → defaultValue (t_Side j) = vp_V [.null, .null, .null, .null, .null, .null, .null, .null, .null, .null, .int 0, .int 0] j := by
  intro j hj
  rcases (show j = 0 ∨ j = 1 ∨ j = 2 ∨ j = 3 ∨ j = 4 ∨ j = 5 ∨ j = 6 ∨ j = 7 ∨ j = 8 ∨ j = 9 ∨ j = 10 ∨ j = 11 by omega) with rfl | rfl | rfl | rfl | rfl | rfl | rfl | rfl | rfl | rfl | rfl | rfl <;> rfl
def R_Sink : String := "PacketHeads$Sink"
def F_Sink : u_T := fun k => match k with
  | 0 => ("PacketHeads$Sink", "store", "LPacketHeads$Store;", true)
  | 1 => ("PacketHeads$Sink", "gathered", "I", false)
  | _ => ("PacketHeads$Sink", "room", "I", false)
def t_Sink : Nat → FieldType := fun k => match k with
  | 0 => .object "PacketHeads$Store"
  | 1 => .int
  | _ => .int
theorem n_Sink : ∀ a, a < 3 → ∀ b, b < 3 → a ≠ b → (F_Sink a).2.1 ≠ (F_Sink b).2.1 := by decide +kernel
theorem t_Sink_ok : ∀ k, k < 3 → parseFieldDescriptor (F_Sink k).2.2.1 = some (t_Sink k) := by decide +kernel
theorem il_Sink_0 : u_lay R_Sink F_Sink 0 ∈ TB := in_TB (List.mem_append_right _ (List.mem_of_getElem? (i := 165) (by decide +kernel))) (by decide +kernel)
theorem il_Sink_1 : u_lay R_Sink F_Sink 1 ∈ TB := in_TB (List.mem_append_right _ (List.mem_of_getElem? (i := 167) (by decide +kernel))) (by decide +kernel)
theorem il_Sink_2 : u_lay R_Sink F_Sink 2 ∈ TB := in_TB (List.mem_append_right _ (List.mem_of_getElem? (i := 169) (by decide +kernel))) (by decide +kernel)
theorem i_Sink : ∀ w ∈ u_ws R_Sink F_Sink 3, w ∈ TB := by
  intro w hw
  obtain ⟨k, hk, rfl⟩ := List.mem_map.mp hw
  have hk := List.mem_range.mp hk
  rcases (show k = 0 ∨ k = 1 ∨ k = 2 by omega) with rfl | rfl | rfl
  · exact il_Sink_0
  · exact il_Sink_1
  · exact il_Sink_2
theorem v_Sink : ∀ j, j < 3 → defaultValue (t_Sink j) = vp_V [.null, .int 0, .int 0] j := by
  intro j hj
  rcases (show j = 0 ∨ j = 1 ∨ j = 2 by omega) with rfl | rfl | rfl <;> rfl
def R_Source : String := "PacketHeads$Source"
def F_Source : u_T := fun k => match k with
  | 0 => ("PacketHeads$Source", "store", "LPacketHeads$Store;", true)
  | 1 => ("PacketHeads$Source", "start", "I", false)
  | 2 => ("PacketHeads$Source", "next", "I", false)
  | 3 => ("PacketHeads$Source", "end", "I", false)
  | 4 => ("PacketHeads$Source", "latest", "I", false)
  | 5 => ("PacketHeads$Source", "left", "I", false)
  | _ => ("PacketHeads$Source", "lacking", "Z", false)
def t_Source : Nat → FieldType := fun k => match k with
  | 0 => .object "PacketHeads$Store"
  | 1 => .int
  | 2 => .int
  | 3 => .int
  | 4 => .int
  | 5 => .int
  | _ => .boolean
theorem n_Source : ∀ a, a < 7 → ∀ b, b < 7 → a ≠ b → (F_Source a).2.1 ≠ (F_Source b).2.1 := by decide +kernel
theorem t_Source_ok : ∀ k, k < 7 → parseFieldDescriptor (F_Source k).2.2.1 = some (t_Source k) := by decide +kernel
theorem il_Source_0 : u_lay R_Source F_Source 0 ∈ TB := in_TB (List.mem_append_right _ (List.mem_of_getElem? (i := 185) (by decide +kernel))) (by decide +kernel)
theorem il_Source_1 : u_lay R_Source F_Source 1 ∈ TB := in_TB (List.mem_append_right _ (List.mem_of_getElem? (i := 187) (by decide +kernel))) (by decide +kernel)
theorem il_Source_2 : u_lay R_Source F_Source 2 ∈ TB := in_TB (List.mem_append_right _ (List.mem_of_getElem? (i := 189) (by decide +kernel))) (by decide +kernel)
theorem il_Source_3 : u_lay R_Source F_Source 3 ∈ TB := in_TB (List.mem_append_right _ (List.mem_of_getElem? (i := 191) (by decide +kernel))) (by decide +kernel)
theorem il_Source_4 : u_lay R_Source F_Source 4 ∈ TB := in_TB (List.mem_append_right _ (List.mem_of_getElem? (i := 193) (by decide +kernel))) (by decide +kernel)
theorem il_Source_5 : u_lay R_Source F_Source 5 ∈ TB := in_TB (List.mem_append_right _ (List.mem_of_getElem? (i := 195) (by decide +kernel))) (by decide +kernel)
theorem il_Source_6 : u_lay R_Source F_Source 6 ∈ TB := in_TB (List.mem_append_right _ (List.mem_of_getElem? (i := 197) (by decide +kernel))) (by decide +kernel)
theorem i_Source : ∀ w ∈ u_ws R_Source F_Source 7, w ∈ TB := by
  intro w hw
  obtain ⟨k, hk, rfl⟩ := List.mem_map.mp hw
  have hk := List.mem_range.mp hk
  rcases (show k = 0 ∨ k = 1 ∨ k = 2 ∨ k = 3 ∨ k = 4 ∨ k = 5 ∨ k = 6 by omega) with rfl | rfl | rfl | rfl | rfl | rfl | rfl
  · exact il_Source_0
  · exact il_Source_1
  · exact il_Source_2
  · exact il_Source_3
  · exact il_Source_4
  · exact il_Source_5
  · exact il_Source_6
theorem v_Source : ∀ j, j < 7 → defaultValue (t_Source j) = vp_V [.null, .int 0, .int 0, .int 0, .int 0, .int 0, .int 0] j := by
  intro j hj
  rcases (show j = 0 ∨ j = 1 ∨ j = 2 ∨ j = 3 ∨ j = 4 ∨ j = 5 ∨ j = 6 by omega) with rfl | rfl | rfl | rfl | rfl | rfl | rfl <;> rfl
def R_Store : String := "PacketHeads$Store"
def F_Store : u_T := fun k => match k with
  | 0 => ("PacketHeads$Store", "row", "[B", false)
  | _ => ("PacketHeads$Store", "count", "I", false)
def t_Store : Nat → FieldType := fun k => match k with
  | 0 => .array .byte
  | _ => .int
theorem n_Store : ∀ a, a < 2 → ∀ b, b < 2 → a ≠ b → (F_Store a).2.1 ≠ (F_Store b).2.1 := by decide +kernel
theorem t_Store_ok : ∀ k, k < 2 → parseFieldDescriptor (F_Store k).2.2.1 = some (t_Store k) := by decide +kernel
theorem il_Store_0 : u_lay R_Store F_Store 0 ∈ TB := in_TB (List.mem_append_right _ (List.mem_of_getElem? (i := 37) (by decide +kernel))) (by decide +kernel)
theorem il_Store_1 : u_lay R_Store F_Store 1 ∈ TB := in_TB (List.mem_append_right _ (List.mem_of_getElem? (i := 39) (by decide +kernel))) (by decide +kernel)
theorem i_Store : ∀ w ∈ u_ws R_Store F_Store 2, w ∈ TB := by
  intro w hw
  obtain ⟨k, hk, rfl⟩ := List.mem_map.mp hw
  have hk := List.mem_range.mp hk
  rcases (show k = 0 ∨ k = 1 by omega) with rfl | rfl
  · exact il_Store_0
  · exact il_Store_1
theorem v_Store : ∀ j, j < 2 → defaultValue (t_Store j) = vp_V [.null, .int 0] j := by
  intro j hj
  rcases (show j = 0 ∨ j = 1 by omega) with rfl | rfl <;> rfl
def R_Trees : String := "PacketHeads$Trees"
def F_Trees : u_T := fun k => match k with
  | 0 => ("PacketHeads$Trees", "bands", "LPacketHeads$Bands;", true)
  | 1 => ("PacketHeads$Trees", "path", "[I", true)
  | 2 => ("PacketHeads$Trees", "number", "[I", false)
  | 3 => ("PacketHeads$Trees", "low", "[I", false)
  | _ => ("PacketHeads$Trees", "known", "[I", false)
def t_Trees : Nat → FieldType := fun k => match k with
  | 0 => .object "PacketHeads$Bands"
  | 1 => .array .int
  | 2 => .array .int
  | 3 => .array .int
  | _ => .array .int
theorem n_Trees : ∀ a, a < 5 → ∀ b, b < 5 → a ≠ b → (F_Trees a).2.1 ≠ (F_Trees b).2.1 := by decide +kernel
theorem t_Trees_ok : ∀ k, k < 5 → parseFieldDescriptor (F_Trees k).2.2.1 = some (t_Trees k) := by decide +kernel
theorem il_Trees_0 : u_lay R_Trees F_Trees 0 ∈ TB := in_TB (List.mem_append_right _ (List.mem_of_getElem? (i := 95) (by decide +kernel))) (by decide +kernel)
theorem il_Trees_1 : u_lay R_Trees F_Trees 1 ∈ TB := in_TB (List.mem_append_right _ (List.mem_of_getElem? (i := 97) (by decide +kernel))) (by decide +kernel)
theorem il_Trees_2 : u_lay R_Trees F_Trees 2 ∈ TB := in_TB (List.mem_append_right _ (List.mem_of_getElem? (i := 99) (by decide +kernel))) (by decide +kernel)
theorem il_Trees_3 : u_lay R_Trees F_Trees 3 ∈ TB := in_TB (List.mem_append_right _ (List.mem_of_getElem? (i := 101) (by decide +kernel))) (by decide +kernel)
theorem il_Trees_4 : u_lay R_Trees F_Trees 4 ∈ TB := in_TB (List.mem_append_right _ (List.mem_of_getElem? (i := 103) (by decide +kernel))) (by decide +kernel)
theorem i_Trees : ∀ w ∈ u_ws R_Trees F_Trees 5, w ∈ TB := by
  intro w hw
  obtain ⟨k, hk, rfl⟩ := List.mem_map.mp hw
  have hk := List.mem_range.mp hk
  rcases (show k = 0 ∨ k = 1 ∨ k = 2 ∨ k = 3 ∨ k = 4 by omega) with rfl | rfl | rfl | rfl | rfl
  · exact il_Trees_0
  · exact il_Trees_1
  · exact il_Trees_2
  · exact il_Trees_3
  · exact il_Trees_4
theorem v_Trees : ∀ j, j < 5 → defaultValue (t_Trees j) = vp_V [.null, .null, .null, .null, .null] j := by
  intro j hj
  rcases (show j = 0 ∨ j = 1 ∨ j = 2 ∨ j = 3 ∨ j = 4 by omega) with rfl | rfl | rfl | rfl | rfl <;> rfl
def R_PH : String := "PacketHeads"
def F_PH : u_T := fun k => match k with
  | 0 => ("PacketHeads", "store", "LPacketHeads$Store;", true)
  | 1 => ("PacketHeads", "bands", "LPacketHeads$Bands;", true)
  | 2 => ("PacketHeads", "writing", "LPacketHeads$Side;", true)
  | 3 => ("PacketHeads", "reading", "LPacketHeads$Side;", true)
  | 4 => ("PacketHeads", "sink", "LPacketHeads$Sink;", true)
  | 5 => ("PacketHeads", "source", "LPacketHeads$Source;", true)
  | _ => ("PacketHeads", "over", "Z", false)
def t_PH : Nat → FieldType := fun k => match k with
  | 0 => .object "PacketHeads$Store"
  | 1 => .object "PacketHeads$Bands"
  | 2 => .object "PacketHeads$Side"
  | 3 => .object "PacketHeads$Side"
  | 4 => .object "PacketHeads$Sink"
  | 5 => .object "PacketHeads$Source"
  | _ => .boolean
theorem n_PH : ∀ a, a < 7 → ∀ b, b < 7 → a ≠ b → (F_PH a).2.1 ≠ (F_PH b).2.1 := by decide +kernel
theorem t_PH_ok : ∀ k, k < 7 → parseFieldDescriptor (F_PH k).2.2.1 = some (t_PH k) := by decide +kernel
theorem il_PH_0 : u_lay R_PH F_PH 0 ∈ TB := in_TB (List.mem_append_right _ (List.mem_of_getElem? (i := 207) (by decide +kernel))) (by decide +kernel)
theorem il_PH_1 : u_lay R_PH F_PH 1 ∈ TB := in_TB (List.mem_append_right _ (List.mem_of_getElem? (i := 209) (by decide +kernel))) (by decide +kernel)
theorem il_PH_2 : u_lay R_PH F_PH 2 ∈ TB := in_TB (List.mem_append_right _ (List.mem_of_getElem? (i := 211) (by decide +kernel))) (by decide +kernel)
theorem il_PH_3 : u_lay R_PH F_PH 3 ∈ TB := in_TB (List.mem_append_right _ (List.mem_of_getElem? (i := 213) (by decide +kernel))) (by decide +kernel)
theorem il_PH_4 : u_lay R_PH F_PH 4 ∈ TB := in_TB (List.mem_append_right _ (List.mem_of_getElem? (i := 215) (by decide +kernel))) (by decide +kernel)
theorem il_PH_5 : u_lay R_PH F_PH 5 ∈ TB := in_TB (List.mem_append_right _ (List.mem_of_getElem? (i := 217) (by decide +kernel))) (by decide +kernel)
theorem il_PH_6 : u_lay R_PH F_PH 6 ∈ TB := in_TB (List.mem_append_right _ (List.mem_of_getElem? (i := 219) (by decide +kernel))) (by decide +kernel)
theorem i_PH : ∀ w ∈ u_ws R_PH F_PH 7, w ∈ TB := by
  intro w hw
  obtain ⟨k, hk, rfl⟩ := List.mem_map.mp hw
  have hk := List.mem_range.mp hk
  rcases (show k = 0 ∨ k = 1 ∨ k = 2 ∨ k = 3 ∨ k = 4 ∨ k = 5 ∨ k = 6 by omega) with rfl | rfl | rfl | rfl | rfl | rfl | rfl
  · exact il_PH_0
  · exact il_PH_1
  · exact il_PH_2
  · exact il_PH_3
  · exact il_PH_4
  · exact il_PH_5
  · exact il_PH_6
theorem v_PH : ∀ j, j < 7 → defaultValue (t_PH j) = vp_V [.null, .null, .null, .null, .null, .null, .int 0] j := by
  intro j hj
  rcases (show j = 0 ∨ j = 1 ∨ j = 2 ∨ j = 3 ∨ j = 4 ∨ j = 5 ∨ j = 6 by omega) with rfl | rfl | rfl | rfl | rfl | rfl | rfl <;> rfl
def R_Mo : String := "PacketHeadsModel"
def F_Mo : u_T := fun k => match k with
  | 0 => ("PacketHeadsModel", "thrown", "I", false)
  | 1 => ("PacketHeadsModel", "style", "I", false)
  | 2 => ("PacketHeadsModel", "bands", "I", false)
  | 3 => ("PacketHeadsModel", "wide", "[I", true)
  | 4 => ("PacketHeadsModel", "high", "[I", true)
  | 5 => ("PacketHeadsModel", "begins", "[I", true)
  | 6 => ("PacketHeadsModel", "size", "I", false)
  | 7 => ("PacketHeadsModel", "bytes", "[B", true)
  | 8 => ("PacketHeadsModel", "came", "[I", true)
  | 9 => ("PacketHeadsModel", "width", "[I", true)
  | 10 => ("PacketHeadsModel", "brings", "[I", true)
  | 11 => ("PacketHeadsModel", "first", "[I", true)
  | 12 => ("PacketHeadsModel", "missing", "[I", true)
  | 13 => ("PacketHeadsModel", "told", "[I", true)
  | 14 => ("PacketHeadsModel", "pieces", "I", false)
  | 15 => ("PacketHeadsModel", "owner", "[I", true)
  | 16 => ("PacketHeadsModel", "length", "[I", true)
  | 17 => ("PacketHeadsModel", "layers", "[I", true)
  | 18 => ("PacketHeadsModel", "over", "Z", false)
  | 19 => ("PacketHeadsModel", "low", "[I", true)
  | 20 => ("PacketHeadsModel", "known", "[Z", true)
  | 21 => ("PacketHeadsModel", "writing", "Z", false)
  | 22 => ("PacketHeadsModel", "begin", "I", false)
  | 23 => ("PacketHeadsModel", "end", "I", false)
  | 24 => ("PacketHeadsModel", "room", "I", false)
  | 25 => ("PacketHeadsModel", "wrong", "Z", false)
  | _ => ("PacketHeadsModel", "count", "I", false)
def t_Mo : Nat → FieldType := fun k => match k with
  | 0 => .int
  | 1 => .int
  | 2 => .int
  | 3 => .array .int
  | 4 => .array .int
  | 5 => .array .int
  | 6 => .int
  | 7 => .array .byte
  | 8 => .array .int
  | 9 => .array .int
  | 10 => .array .int
  | 11 => .array .int
  | 12 => .array .int
  | 13 => .array .int
  | 14 => .int
  | 15 => .array .int
  | 16 => .array .int
  | 17 => .array .int
  | 18 => .boolean
  | 19 => .array .int
  | 20 => .array .boolean
  | 21 => .boolean
  | 22 => .int
  | 23 => .int
  | 24 => .int
  | 25 => .boolean
  | _ => .int
theorem n_Mo : ∀ a, a < 27 → ∀ b, b < 27 → a ≠ b → (F_Mo a).2.1 ≠ (F_Mo b).2.1 := by decide +kernel
theorem t_Mo_ok : ∀ k, k < 27 → parseFieldDescriptor (F_Mo k).2.2.1 = some (t_Mo k) := by decide +kernel
theorem il_Mo_0 : u_lay R_Mo F_Mo 0 ∈ TB := in_TB (List.mem_append_right _ (List.mem_of_getElem? (i := 704) (by decide +kernel))) (by decide +kernel)
theorem il_Mo_1 : u_lay R_Mo F_Mo 1 ∈ TB := in_TB (List.mem_append_right _ (List.mem_of_getElem? (i := 706) (by decide +kernel))) (by decide +kernel)
theorem il_Mo_2 : u_lay R_Mo F_Mo 2 ∈ TB := in_TB (List.mem_append_right _ (List.mem_of_getElem? (i := 708) (by decide +kernel))) (by decide +kernel)
theorem il_Mo_3 : u_lay R_Mo F_Mo 3 ∈ TB := in_TB (List.mem_append_right _ (List.mem_of_getElem? (i := 710) (by decide +kernel))) (by decide +kernel)
theorem il_Mo_4 : u_lay R_Mo F_Mo 4 ∈ TB := in_TB (List.mem_append_right _ (List.mem_of_getElem? (i := 712) (by decide +kernel))) (by decide +kernel)
theorem il_Mo_5 : u_lay R_Mo F_Mo 5 ∈ TB := in_TB (List.mem_append_right _ (List.mem_of_getElem? (i := 714) (by decide +kernel))) (by decide +kernel)
theorem il_Mo_6 : u_lay R_Mo F_Mo 6 ∈ TB := in_TB (List.mem_append_right _ (List.mem_of_getElem? (i := 716) (by decide +kernel))) (by decide +kernel)
theorem il_Mo_7 : u_lay R_Mo F_Mo 7 ∈ TB := in_TB (List.mem_append_right _ (List.mem_of_getElem? (i := 718) (by decide +kernel))) (by decide +kernel)
theorem il_Mo_8 : u_lay R_Mo F_Mo 8 ∈ TB := in_TB (List.mem_append_right _ (List.mem_of_getElem? (i := 720) (by decide +kernel))) (by decide +kernel)
theorem il_Mo_9 : u_lay R_Mo F_Mo 9 ∈ TB := in_TB (List.mem_append_right _ (List.mem_of_getElem? (i := 722) (by decide +kernel))) (by decide +kernel)
theorem il_Mo_10 : u_lay R_Mo F_Mo 10 ∈ TB := in_TB (List.mem_append_right _ (List.mem_of_getElem? (i := 724) (by decide +kernel))) (by decide +kernel)
theorem il_Mo_11 : u_lay R_Mo F_Mo 11 ∈ TB := in_TB (List.mem_append_right _ (List.mem_of_getElem? (i := 726) (by decide +kernel))) (by decide +kernel)
theorem il_Mo_12 : u_lay R_Mo F_Mo 12 ∈ TB := in_TB (List.mem_append_right _ (List.mem_of_getElem? (i := 728) (by decide +kernel))) (by decide +kernel)
theorem il_Mo_13 : u_lay R_Mo F_Mo 13 ∈ TB := in_TB (List.mem_append_right _ (List.mem_of_getElem? (i := 730) (by decide +kernel))) (by decide +kernel)
theorem il_Mo_14 : u_lay R_Mo F_Mo 14 ∈ TB := in_TB (List.mem_append_right _ (List.mem_of_getElem? (i := 732) (by decide +kernel))) (by decide +kernel)
theorem il_Mo_15 : u_lay R_Mo F_Mo 15 ∈ TB := in_TB (List.mem_append_right _ (List.mem_of_getElem? (i := 734) (by decide +kernel))) (by decide +kernel)
theorem il_Mo_16 : u_lay R_Mo F_Mo 16 ∈ TB := in_TB (List.mem_append_right _ (List.mem_of_getElem? (i := 736) (by decide +kernel))) (by decide +kernel)
theorem il_Mo_17 : u_lay R_Mo F_Mo 17 ∈ TB := in_TB (List.mem_append_right _ (List.mem_of_getElem? (i := 738) (by decide +kernel))) (by decide +kernel)
theorem il_Mo_18 : u_lay R_Mo F_Mo 18 ∈ TB := in_TB (List.mem_append_right _ (List.mem_of_getElem? (i := 740) (by decide +kernel))) (by decide +kernel)
theorem il_Mo_19 : u_lay R_Mo F_Mo 19 ∈ TB := in_TB (List.mem_append_right _ (List.mem_of_getElem? (i := 742) (by decide +kernel))) (by decide +kernel)
theorem il_Mo_20 : u_lay R_Mo F_Mo 20 ∈ TB := in_TB (List.mem_append_right _ (List.mem_of_getElem? (i := 744) (by decide +kernel))) (by decide +kernel)
theorem il_Mo_21 : u_lay R_Mo F_Mo 21 ∈ TB := in_TB (List.mem_append_right _ (List.mem_of_getElem? (i := 746) (by decide +kernel))) (by decide +kernel)
theorem il_Mo_22 : u_lay R_Mo F_Mo 22 ∈ TB := in_TB (List.mem_append_right _ (List.mem_of_getElem? (i := 748) (by decide +kernel))) (by decide +kernel)
theorem il_Mo_23 : u_lay R_Mo F_Mo 23 ∈ TB := in_TB (List.mem_append_right _ (List.mem_of_getElem? (i := 750) (by decide +kernel))) (by decide +kernel)
theorem il_Mo_24 : u_lay R_Mo F_Mo 24 ∈ TB := in_TB (List.mem_append_right _ (List.mem_of_getElem? (i := 752) (by decide +kernel))) (by decide +kernel)
theorem il_Mo_25 : u_lay R_Mo F_Mo 25 ∈ TB := in_TB (List.mem_append_right _ (List.mem_of_getElem? (i := 754) (by decide +kernel))) (by decide +kernel)
theorem il_Mo_26 : u_lay R_Mo F_Mo 26 ∈ TB := in_TB (List.mem_append_right _ (List.mem_of_getElem? (i := 756) (by decide +kernel))) (by decide +kernel)
theorem i_Mo : ∀ w ∈ u_ws R_Mo F_Mo 27, w ∈ TB := by
  intro w hw
  obtain ⟨k, hk, rfl⟩ := List.mem_map.mp hw
  have hk := List.mem_range.mp hk
  rcases (show k = 0 ∨ k = 1 ∨ k = 2 ∨ k = 3 ∨ k = 4 ∨ k = 5 ∨ k = 6 ∨ k = 7 ∨ k = 8 ∨ k = 9 ∨ k = 10 ∨ k = 11 ∨ k = 12 ∨ k = 13 ∨ k = 14 ∨ k = 15 ∨ k = 16 ∨ k = 17 ∨ k = 18 ∨ k = 19 ∨ k = 20 ∨ k = 21 ∨ k = 22 ∨ k = 23 ∨ k = 24 ∨ k = 25 ∨ k = 26 by omega) with rfl | rfl | rfl | rfl | rfl | rfl | rfl | rfl | rfl | rfl | rfl | rfl | rfl | rfl | rfl | rfl | rfl | rfl | rfl | rfl | rfl | rfl | rfl | rfl | rfl | rfl | rfl
  · exact il_Mo_0
  · exact il_Mo_1
  · exact il_Mo_2
  · exact il_Mo_3
  · exact il_Mo_4
  · exact il_Mo_5
  · exact il_Mo_6
  · exact il_Mo_7
  · exact il_Mo_8
  · exact il_Mo_9
  · exact il_Mo_10
  · exact il_Mo_11
  · exact il_Mo_12
  · exact il_Mo_13
  · exact il_Mo_14
  · exact il_Mo_15
  · exact il_Mo_16
  · exact il_Mo_17
  · exact il_Mo_18
  · exact il_Mo_19
  · exact il_Mo_20
  · exact il_Mo_21
  · exact il_Mo_22
  · exact il_Mo_23
  · exact il_Mo_24
  · exact il_Mo_25
  · exact il_Mo_26
theorem v_Mo : ∀ j, j < 27 → defaultValue (t_Mo j) = vp_V [.int 0, .int 0, .int 0, .null, .null, .null, .int 0, .null, .null, .null, .null, .null, .null, .null, .int 0, .null, .null, .null, .int 0, .null, .null, .int 0, .int 0, .int 0, .int 0, .int 0, .int 0] j := by
  intro j hj
  rcases (show j = 0 ∨ j = 1 ∨ j = 2 ∨ j = 3 ∨ j = 4 ∨ j = 5 ∨ j = 6 ∨ j = 7 ∨ j = 8 ∨ j = 9 ∨ j = 10 ∨ j = 11 ∨ j = 12 ∨ j = 13 ∨ j = 14 ∨ j = 15 ∨ j = 16 ∨ j = 17 ∨ j = 18 ∨ j = 19 ∨ j = 20 ∨ j = 21 ∨ j = 22 ∨ j = 23 ∨ j = 24 ∨ j = 25 ∨ j = 26 by omega) with rfl | rfl | rfl | rfl | rfl | rfl | rfl | rfl | rfl | rfl | rfl | rfl | rfl | rfl | rfl | rfl | rfl | rfl | rfl | rfl | rfl | rfl | rfl | rfl | rfl | rfl | rfl <;> rfl
def R_Bits : String := "PacketHeads$Bits"
def R_Arr : String := "java/util/Arrays"
def R_Law : String := "PacketHeadsLaw"
abbrev classes : List vw_C := [(R_Bands, F_Bands, 6), (R_Side, F_Side, 12), (R_Sink, F_Sink, 3), (R_Source, F_Source, 7), (R_Store, F_Store, 2), (R_Trees, F_Trees, 5), (R_PH, F_PH, 7), (R_Mo, F_Mo, 27)]
