def R_L : String := "GroupLog$Log"
def T_L : u_T := fun k => match k with
  | 0 => ("GroupLog$Log", "before", "LGroupLog$Log;", true)
  | 1 => ("GroupLog$Log", "size", "I", true)
  | 2 => ("GroupLog$Log", "client", "I", true)
  | 3 => ("GroupLog$Log", "number", "I", true)
  | 4 => ("GroupLog$Log", "value", "I", true)
  | _ => ("GroupLog$Log", "total", "I", true)
def y_L : Nat → FieldType := fun k => match k with
  | 0 => .object "GroupLog$Log"
  | 1 => .int
  | 2 => .int
  | 3 => .int
  | 4 => .int
  | _ => .int
theorem nm_L : ∀ a, a < 6 → ∀ b, b < 6 → a ≠ b → (T_L a).2.1 ≠ (T_L b).2.1 := by decide +kernel
theorem ty_L : ∀ k, k < 6 → parseFieldDescriptor (T_L k).2.2.1 = some (y_L k) := by decide +kernel
theorem in_L : ∀ w ∈ u_ws R_L T_L 6, w ∈ TB := fun w hw => List.mem_filter.mpr ⟨(by decide +kernel : ∀ w ∈ u_ws R_L T_L 6, w ∈ lw_tbl) w hw, (by decide +kernel : ∀ w ∈ u_ws R_L T_L 6, goodWord w = true) w hw⟩
abbrev df_L : List Value := [.null, .int 0, .int 0, .int 0, .int 0, .int 0]
theorem dv_L : ∀ j, j < 6 → defaultValue (y_L j) = vp_V df_L j := by decide +kernel
def R_E : String := "GroupLog$Message"
def T_E : u_T := fun k => match k with
  | 0 => ("GroupLog$Message", "kind", "I", true)
  | 1 => ("GroupLog$Message", "sender", "I", true)
  | 2 => ("GroupLog$Message", "addressee", "I", true)
  | 3 => ("GroupLog$Message", "view", "I", true)
  | 4 => ("GroupLog$Message", "lastView", "I", true)
  | 5 => ("GroupLog$Message", "vector", "[I", true)
  | 6 => ("GroupLog$Message", "log", "LGroupLog$Log;", true)
  | _ => ("GroupLog$Message", "commit", "I", true)
def y_E : Nat → FieldType := fun k => match k with
  | 0 => .int
  | 1 => .int
  | 2 => .int
  | 3 => .int
  | 4 => .int
  | 5 => .array .int
  | 6 => .object "GroupLog$Log"
  | _ => .int
theorem nm_E : ∀ a, a < 8 → ∀ b, b < 8 → a ≠ b → (T_E a).2.1 ≠ (T_E b).2.1 := by decide +kernel
theorem ty_E : ∀ k, k < 8 → parseFieldDescriptor (T_E k).2.2.1 = some (y_E k) := by decide +kernel
theorem in_E : ∀ w ∈ u_ws R_E T_E 8, w ∈ TB := fun w hw => List.mem_filter.mpr ⟨(by decide +kernel : ∀ w ∈ u_ws R_E T_E 8, w ∈ lw_tbl) w hw, (by decide +kernel : ∀ w ∈ u_ws R_E T_E 8, goodWord w = true) w hw⟩
abbrev df_E : List Value := [.int 0, .int 0, .int 0, .int 0, .int 0, .null, .null, .int 0]
theorem dv_E : ∀ j, j < 8 → defaultValue (y_E j) = vp_V df_E j := by decide +kernel
def R_P : String := "GroupLog$Replica"
def T_P : u_T := fun k => match k with
  | 0 => ("GroupLog$Replica", "id", "I", true)
  | 1 => ("GroupLog$Replica", "status", "I", false)
  | 2 => ("GroupLog$Replica", "view", "I", false)
  | 3 => ("GroupLog$Replica", "lastView", "I", false)
  | 4 => ("GroupLog$Replica", "log", "LGroupLog$Log;", false)
  | 5 => ("GroupLog$Replica", "commit", "I", false)
  | 6 => ("GroupLog$Replica", "vector", "[I", false)
  | 7 => ("GroupLog$Replica", "acked", "[I", true)
  | 8 => ("GroupLog$Replica", "paperSent", "Z", false)
  | 9 => ("GroupLog$Replica", "votes", "[LGroupLog$Message;", true)
  | 10 => ("GroupLog$Replica", "papers", "[LGroupLog$Message;", true)
  | 11 => ("GroupLog$Replica", "responses", "[LGroupLog$Message;", true)
  | _ => ("GroupLog$Replica", "greatestNonce", "I", false)
def y_P : Nat → FieldType := fun k => match k with
  | 0 => .int
  | 1 => .int
  | 2 => .int
  | 3 => .int
  | 4 => .object "GroupLog$Log"
  | 5 => .int
  | 6 => .array .int
  | 7 => .array .int
  | 8 => .boolean
  | 9 => .array (.object "GroupLog$Message")
  | 10 => .array (.object "GroupLog$Message")
  | 11 => .array (.object "GroupLog$Message")
  | _ => .int
theorem nm_P : ∀ a, a < 13 → ∀ b, b < 13 → a ≠ b → (T_P a).2.1 ≠ (T_P b).2.1 := by decide +kernel
theorem ty_P : ∀ k, k < 13 → parseFieldDescriptor (T_P k).2.2.1 = some (y_P k) := by decide +kernel
theorem in_P : ∀ w ∈ u_ws R_P T_P 13, w ∈ TB := fun w hw => List.mem_filter.mpr ⟨(by decide +kernel : ∀ w ∈ u_ws R_P T_P 13, w ∈ lw_tbl) w hw, (by decide +kernel : ∀ w ∈ u_ws R_P T_P 13, goodWord w = true) w hw⟩
abbrev df_P : List Value := [.int 0, .int 0, .int 0, .int 0, .null, .int 0, .null, .null, .int 0, .null, .null, .null, .int 0]
theorem dv_P : ∀ j, j < 13 → defaultValue (y_P j) = vp_V df_P j := by decide +kernel
def R_G : String := "GroupLog"
def T_G : u_T := fun k => match k with
  | 0 => ("GroupLog", "replicaCount", "I", true)
  | 1 => ("GroupLog", "faults", "I", true)
  | 2 => ("GroupLog", "replicas", "[LGroupLog$Replica;", true)
  | 3 => ("GroupLog", "latestMessages", "[LGroupLog$Message;", true)
  | 4 => ("GroupLog", "sentCount", "I", false)
  | 5 => ("GroupLog", "latestNext", "I", false)
  | 6 => ("GroupLog", "clientNumber", "[I", true)
  | _ => ("GroupLog", "clientAnswer", "[I", true)
def y_G : Nat → FieldType := fun k => match k with
  | 0 => .int
  | 1 => .int
  | 2 => .array (.object "GroupLog$Replica")
  | 3 => .array (.object "GroupLog$Message")
  | 4 => .int
  | 5 => .int
  | 6 => .array .int
  | _ => .array .int
theorem nm_G : ∀ a, a < 8 → ∀ b, b < 8 → a ≠ b → (T_G a).2.1 ≠ (T_G b).2.1 := by decide +kernel
theorem ty_G : ∀ k, k < 8 → parseFieldDescriptor (T_G k).2.2.1 = some (y_G k) := by decide +kernel
theorem in_G : ∀ w ∈ u_ws R_G T_G 8, w ∈ TB := fun w hw => List.mem_filter.mpr ⟨(by decide +kernel : ∀ w ∈ u_ws R_G T_G 8, w ∈ lw_tbl) w hw, (by decide +kernel : ∀ w ∈ u_ws R_G T_G 8, goodWord w = true) w hw⟩
abbrev df_G : List Value := [.int 0, .int 0, .null, .null, .int 0, .int 0, .null, .null]
theorem dv_G : ∀ j, j < 8 → defaultValue (y_G j) = vp_V df_G j := by decide +kernel
def R_Q : String := "GroupLogModel"
def T_Q : u_T := fun k => match k with
  | 0 => ("GroupLogModel", "n", "I", true)
  | 1 => ("GroupLogModel", "f", "I", true)
  | 2 => ("GroupLogModel", "size", "[I", true)
  | 3 => ("GroupLogModel", "client", "[I", true)
  | 4 => ("GroupLogModel", "number", "[I", true)
  | 5 => ("GroupLogModel", "value", "[I", true)
  | 6 => ("GroupLogModel", "status", "[I", true)
  | 7 => ("GroupLogModel", "view", "[I", true)
  | 8 => ("GroupLogModel", "last", "[I", true)
  | 9 => ("GroupLogModel", "commit", "[I", true)
  | 10 => ("GroupLogModel", "vector", "[I", true)
  | 11 => ("GroupLogModel", "acked", "[I", true)
  | 12 => ("GroupLogModel", "paperSent", "[Z", true)
  | 13 => ("GroupLogModel", "nonces", "[I", true)
  | 14 => ("GroupLogModel", "vote", "[Z", true)
  | 15 => ("GroupLogModel", "voteMark", "[I", true)
  | 16 => ("GroupLogModel", "sheet", "[Z", true)
  | 17 => ("GroupLogModel", "sheetMark", "[I", true)
  | 18 => ("GroupLogModel", "sheetView", "[I", true)
  | 19 => ("GroupLogModel", "sheetLast", "[I", true)
  | 20 => ("GroupLogModel", "sheetCommit", "[I", true)
  | 21 => ("GroupLogModel", "from", "[I", true)
  | 22 => ("GroupLogModel", "to", "[I", true)
  | 23 => ("GroupLogModel", "kind", "[I", true)
  | 24 => ("GroupLogModel", "at", "[I", true)
  | 25 => ("GroupLogModel", "old", "[I", true)
  | 26 => ("GroupLogModel", "done", "[I", true)
  | 27 => ("GroupLogModel", "stamp", "[I", true)
  | 28 => ("GroupLogModel", "sent", "I", false)
  | 29 => ("GroupLogModel", "latest", "I", false)
  | 30 => ("GroupLogModel", "replyNumber", "[I", true)
  | _ => ("GroupLogModel", "reply", "[I", true)
def y_Q : Nat → FieldType := fun k => match k with
  | 0 => .int
  | 1 => .int
  | 2 => .array .int
  | 3 => .array .int
  | 4 => .array .int
  | 5 => .array .int
  | 6 => .array .int
  | 7 => .array .int
  | 8 => .array .int
  | 9 => .array .int
  | 10 => .array .int
  | 11 => .array .int
  | 12 => .array .boolean
  | 13 => .array .int
  | 14 => .array .boolean
  | 15 => .array .int
  | 16 => .array .boolean
  | 17 => .array .int
  | 18 => .array .int
  | 19 => .array .int
  | 20 => .array .int
  | 21 => .array .int
  | 22 => .array .int
  | 23 => .array .int
  | 24 => .array .int
  | 25 => .array .int
  | 26 => .array .int
  | 27 => .array .int
  | 28 => .int
  | 29 => .int
  | 30 => .array .int
  | _ => .array .int
theorem nm_Q : ∀ a, a < 32 → ∀ b, b < 32 → a ≠ b → (T_Q a).2.1 ≠ (T_Q b).2.1 := by decide +kernel
theorem ty_Q : ∀ k, k < 32 → parseFieldDescriptor (T_Q k).2.2.1 = some (y_Q k) := by decide +kernel
theorem in_Q : ∀ w ∈ u_ws R_Q T_Q 32, w ∈ TB := fun w hw => List.mem_filter.mpr ⟨(by decide +kernel : ∀ w ∈ u_ws R_Q T_Q 32, w ∈ lw_tbl) w hw, (by decide +kernel : ∀ w ∈ u_ws R_Q T_Q 32, goodWord w = true) w hw⟩
abbrev df_Q : List Value := [.int 0, .int 0, .null, .null, .null, .null, .null, .null, .null, .null, .null, .null, .null, .null, .null, .null, .null, .null, .null, .null, .null, .null, .null, .null, .null, .null, .null, .null, .int 0, .int 0, .null, .null]
theorem dv_Q : ∀ j, j < 32 → defaultValue (y_Q j) = vp_V df_Q j := by decide +kernel
abbrev Cl : List vw_C := [(R_L, T_L, 6), (R_E, T_E, 8), (R_P, T_P, 13), (R_G, T_G, 8), (R_Q, T_Q, 32)]
abbrev tysL (cid : Nat → ClassId) : List (ClassId × FieldType) := [(cid 0, .int), (cid 1, .boolean), (cid 2, .object "GroupLog$Message"), (cid 3, .object "GroupLog$Replica")]
theorem k_0 : Cond.selects "GroupLog" ⟨"GroupLog", "isReplica", "(I)Z"⟩ ⟨"GroupLog", "isReplica", "(I)Z"⟩ ∈ TB := List.mem_filter.mpr ⟨List.mem_of_getElem? (i := 0) (by decide +kernel), by decide +kernel⟩
theorem k_1 : Cond.selects "GroupLog" ⟨"GroupLog", "leads", "(LGroupLog$Replica;)Z"⟩ ⟨"GroupLog", "leads", "(LGroupLog$Replica;)Z"⟩ ∈ TB := List.mem_filter.mpr ⟨List.mem_of_getElem? (i := 1) (by decide +kernel), by decide +kernel⟩
theorem k_2 : Cond.selects "GroupLog" ⟨"GroupLog", "primaryOf", "(I)I"⟩ ⟨"GroupLog", "primaryOf", "(I)I"⟩ ∈ TB := List.mem_filter.mpr ⟨List.mem_of_getElem? (i := 2) (by decide +kernel), by decide +kernel⟩
theorem k_3 : Cond.selects "GroupLog" ⟨"GroupLog", "repeatAnswer", "(LGroupLog$Replica;LGroupLog$Log;)I"⟩ ⟨"GroupLog", "repeatAnswer", "(LGroupLog$Replica;LGroupLog$Log;)I"⟩ ∈ TB := List.mem_filter.mpr ⟨List.mem_of_getElem? (i := 3) (by decide +kernel), by decide +kernel⟩
theorem k_4 : Cond.selects "GroupLog" ⟨"GroupLog", "answerClient", "(LGroupLog$Log;)V"⟩ ⟨"GroupLog", "answerClient", "(LGroupLog$Log;)V"⟩ ∈ TB := List.mem_filter.mpr ⟨List.mem_of_getElem? (i := 4) (by decide +kernel), by decide +kernel⟩
theorem k_5 : Cond.selects "GroupLog" ⟨"GroupLog", "sendToAll", "(LGroupLog$Replica;I)V"⟩ ⟨"GroupLog", "sendToAll", "(LGroupLog$Replica;I)V"⟩ ∈ TB := List.mem_filter.mpr ⟨List.mem_of_getElem? (i := 5) (by decide +kernel), by decide +kernel⟩
theorem k_6 : Cond.selects "GroupLog" ⟨"GroupLog", "send", "(LGroupLog$Replica;II)V"⟩ ⟨"GroupLog", "send", "(LGroupLog$Replica;II)V"⟩ ∈ TB := List.mem_filter.mpr ⟨List.mem_of_getElem? (i := 6) (by decide +kernel), by decide +kernel⟩
theorem k_7 : Cond.selects "GroupLog" ⟨"GroupLog", "findMessage", "(I)LGroupLog$Message;"⟩ ⟨"GroupLog", "findMessage", "(I)LGroupLog$Message;"⟩ ∈ TB := List.mem_filter.mpr ⟨List.mem_of_getElem? (i := 7) (by decide +kernel), by decide +kernel⟩
theorem k_8 : Cond.selects "GroupLog" ⟨"GroupLog", "receive", "(LGroupLog$Message;)I"⟩ ⟨"GroupLog", "receive", "(LGroupLog$Message;)I"⟩ ∈ TB := List.mem_filter.mpr ⟨List.mem_of_getElem? (i := 8) (by decide +kernel), by decide +kernel⟩
theorem k_9 : Cond.selects "GroupLog$Replica" ⟨"GroupLog$Replica", "dropOutdated", "([LGroupLog$Message;)V"⟩ ⟨"GroupLog$Replica", "dropOutdated", "([LGroupLog$Message;)V"⟩ ∈ TB := List.mem_filter.mpr ⟨List.mem_of_getElem? (i := 9) (by decide +kernel), by decide +kernel⟩
theorem k_10 : Cond.selects "GroupLog" ⟨"GroupLog", "takePrepare", "(LGroupLog$Replica;LGroupLog$Message;)V"⟩ ⟨"GroupLog", "takePrepare", "(LGroupLog$Replica;LGroupLog$Message;)V"⟩ ∈ TB := List.mem_filter.mpr ⟨List.mem_of_getElem? (i := 10) (by decide +kernel), by decide +kernel⟩
theorem k_11 : Cond.selects "GroupLog" ⟨"GroupLog", "takeOk", "(LGroupLog$Replica;LGroupLog$Message;)V"⟩ ⟨"GroupLog", "takeOk", "(LGroupLog$Replica;LGroupLog$Message;)V"⟩ ∈ TB := List.mem_filter.mpr ⟨List.mem_of_getElem? (i := 11) (by decide +kernel), by decide +kernel⟩
theorem k_12 : Cond.selects "GroupLog$Replica" ⟨"GroupLog$Replica", "countAcked", "(I)I"⟩ ⟨"GroupLog$Replica", "countAcked", "(I)I"⟩ ∈ TB := List.mem_filter.mpr ⟨List.mem_of_getElem? (i := 12) (by decide +kernel), by decide +kernel⟩
theorem k_13 : Cond.selects "GroupLog" ⟨"GroupLog", "replyIfNormal", "(LGroupLog$Replica;LGroupLog$Message;I)V"⟩ ⟨"GroupLog", "replyIfNormal", "(LGroupLog$Replica;LGroupLog$Message;I)V"⟩ ∈ TB := List.mem_filter.mpr ⟨List.mem_of_getElem? (i := 13) (by decide +kernel), by decide +kernel⟩
theorem k_14 : Cond.selects "GroupLog" ⟨"GroupLog", "takeState", "(LGroupLog$Replica;LGroupLog$Message;)V"⟩ ⟨"GroupLog", "takeState", "(LGroupLog$Replica;LGroupLog$Message;)V"⟩ ∈ TB := List.mem_filter.mpr ⟨List.mem_of_getElem? (i := 14) (by decide +kernel), by decide +kernel⟩
theorem k_15 : Cond.selects "GroupLog" ⟨"GroupLog", "joinChange", "(LGroupLog$Replica;LGroupLog$Message;)Z"⟩ ⟨"GroupLog", "joinChange", "(LGroupLog$Replica;LGroupLog$Message;)Z"⟩ ∈ TB := List.mem_filter.mpr ⟨List.mem_of_getElem? (i := 15) (by decide +kernel), by decide +kernel⟩
theorem k_16 : Cond.selects "GroupLog" ⟨"GroupLog", "startChanging", "(LGroupLog$Replica;I)V"⟩ ⟨"GroupLog", "startChanging", "(LGroupLog$Replica;I)V"⟩ ∈ TB := List.mem_filter.mpr ⟨List.mem_of_getElem? (i := 16) (by decide +kernel), by decide +kernel⟩
theorem k_17 : Cond.selects "GroupLog" ⟨"GroupLog", "keepVote", "(LGroupLog$Replica;LGroupLog$Message;)V"⟩ ⟨"GroupLog", "keepVote", "(LGroupLog$Replica;LGroupLog$Message;)V"⟩ ∈ TB := List.mem_filter.mpr ⟨List.mem_of_getElem? (i := 17) (by decide +kernel), by decide +kernel⟩
theorem k_18 : Cond.selects "GroupLog" ⟨"GroupLog", "keepPaper", "(LGroupLog$Replica;LGroupLog$Message;)V"⟩ ⟨"GroupLog", "keepPaper", "(LGroupLog$Replica;LGroupLog$Message;)V"⟩ ∈ TB := List.mem_filter.mpr ⟨List.mem_of_getElem? (i := 18) (by decide +kernel), by decide +kernel⟩
theorem k_19 : Cond.selects "GroupLog" ⟨"GroupLog", "keepResponse", "(LGroupLog$Replica;LGroupLog$Message;)V"⟩ ⟨"GroupLog", "keepResponse", "(LGroupLog$Replica;LGroupLog$Message;)V"⟩ ∈ TB := List.mem_filter.mpr ⟨List.mem_of_getElem? (i := 19) (by decide +kernel), by decide +kernel⟩
theorem k_20 : Cond.selects "GroupLog" ⟨"GroupLog", "othersLost", "(LGroupLog$Replica;)I"⟩ ⟨"GroupLog", "othersLost", "(LGroupLog$Replica;)I"⟩ ∈ TB := List.mem_filter.mpr ⟨List.mem_of_getElem? (i := 20) (by decide +kernel), by decide +kernel⟩
theorem k_21 : Cond.selects "GroupLog" ⟨"GroupLog", "hasEntry", "(II)Z"⟩ ⟨"GroupLog", "hasEntry", "(II)Z"⟩ ∈ TB := List.mem_filter.mpr ⟨List.mem_of_getElem? (i := 21) (by decide +kernel), by decide +kernel⟩
theorem k_22 : Cond.selects "GroupLogModel" ⟨"GroupLogModel", "there", "(I)Z"⟩ ⟨"GroupLogModel", "there", "(I)Z"⟩ ∈ TB := List.mem_filter.mpr ⟨List.mem_of_getElem? (i := 22) (by decide +kernel), by decide +kernel⟩
theorem k_23 : Cond.selects "GroupLogModel" ⟨"GroupLogModel", "receive", "(I)I"⟩ ⟨"GroupLogModel", "receive", "(I)I"⟩ ∈ TB := List.mem_filter.mpr ⟨List.mem_of_getElem? (i := 23) (by decide +kernel), by decide +kernel⟩
theorem k_24 : Cond.selects "GroupLogModel" ⟨"GroupLogModel", "copy", "(II)V"⟩ ⟨"GroupLogModel", "copy", "(II)V"⟩ ∈ TB := List.mem_filter.mpr ⟨List.mem_of_getElem? (i := 24) (by decide +kernel), by decide +kernel⟩
theorem k_25 : Cond.selects "GroupLogModel" ⟨"GroupLogModel", "learn", "(I)V"⟩ ⟨"GroupLogModel", "learn", "(I)V"⟩ ∈ TB := List.mem_filter.mpr ⟨List.mem_of_getElem? (i := 25) (by decide +kernel), by decide +kernel⟩
theorem k_26 : Cond.selects "GroupLogModel" ⟨"GroupLogModel", "act", "(II)V"⟩ ⟨"GroupLogModel", "act", "(II)V"⟩ ∈ TB := List.mem_filter.mpr ⟨List.mem_of_getElem? (i := 26) (by decide +kernel), by decide +kernel⟩
theorem k_27 : Cond.selects "GroupLogModel" ⟨"GroupLogModel", "prepare", "(II)V"⟩ ⟨"GroupLogModel", "prepare", "(II)V"⟩ ∈ TB := List.mem_filter.mpr ⟨List.mem_of_getElem? (i := 27) (by decide +kernel), by decide +kernel⟩
theorem k_28 : Cond.selects "GroupLogModel" ⟨"GroupLogModel", "send", "(III)V"⟩ ⟨"GroupLogModel", "send", "(III)V"⟩ ∈ TB := List.mem_filter.mpr ⟨List.mem_of_getElem? (i := 28) (by decide +kernel), by decide +kernel⟩
theorem k_29 : Cond.selects "GroupLogModel" ⟨"GroupLogModel", "append", "(IIII)V"⟩ ⟨"GroupLogModel", "append", "(IIII)V"⟩ ∈ TB := List.mem_filter.mpr ⟨List.mem_of_getElem? (i := 29) (by decide +kernel), by decide +kernel⟩
theorem k_30 : Cond.selects "GroupLogModel" ⟨"GroupLogModel", "ok", "(II)V"⟩ ⟨"GroupLogModel", "ok", "(II)V"⟩ ∈ TB := List.mem_filter.mpr ⟨List.mem_of_getElem? (i := 30) (by decide +kernel), by decide +kernel⟩
theorem k_31 : Cond.selects "GroupLogModel" ⟨"GroupLogModel", "leads", "(I)Z"⟩ ⟨"GroupLogModel", "leads", "(I)Z"⟩ ∈ TB := List.mem_filter.mpr ⟨List.mem_of_getElem? (i := 31) (by decide +kernel), by decide +kernel⟩
theorem k_32 : Cond.selects "GroupLogModel" ⟨"GroupLogModel", "answerTo", "(II)V"⟩ ⟨"GroupLogModel", "answerTo", "(II)V"⟩ ∈ TB := List.mem_filter.mpr ⟨List.mem_of_getElem? (i := 32) (by decide +kernel), by decide +kernel⟩
theorem k_33 : Cond.selects "GroupLogModel" ⟨"GroupLogModel", "sum", "(II)I"⟩ ⟨"GroupLogModel", "sum", "(II)I"⟩ ∈ TB := List.mem_filter.mpr ⟨List.mem_of_getElem? (i := 33) (by decide +kernel), by decide +kernel⟩
theorem k_34 : Cond.selects "GroupLogModel" ⟨"GroupLogModel", "state", "(I)V"⟩ ⟨"GroupLogModel", "state", "(I)V"⟩ ∈ TB := List.mem_filter.mpr ⟨List.mem_of_getElem? (i := 34) (by decide +kernel), by decide +kernel⟩
theorem k_35 : Cond.selects "GroupLogModel" ⟨"GroupLogModel", "forget", "(I)V"⟩ ⟨"GroupLogModel", "forget", "(I)V"⟩ ∈ TB := List.mem_filter.mpr ⟨List.mem_of_getElem? (i := 35) (by decide +kernel), by decide +kernel⟩
theorem k_36 : Cond.selects "GroupLogModel" ⟨"GroupLogModel", "change", "(II)V"⟩ ⟨"GroupLogModel", "change", "(II)V"⟩ ∈ TB := List.mem_filter.mpr ⟨List.mem_of_getElem? (i := 36) (by decide +kernel), by decide +kernel⟩
theorem k_37 : Cond.selects "GroupLogModel" ⟨"GroupLogModel", "start", "(II)V"⟩ ⟨"GroupLogModel", "start", "(II)V"⟩ ∈ TB := List.mem_filter.mpr ⟨List.mem_of_getElem? (i := 37) (by decide +kernel), by decide +kernel⟩
theorem k_38 : Cond.selects "GroupLogModel" ⟨"GroupLogModel", "sendAll", "(II)V"⟩ ⟨"GroupLogModel", "sendAll", "(II)V"⟩ ∈ TB := List.mem_filter.mpr ⟨List.mem_of_getElem? (i := 38) (by decide +kernel), by decide +kernel⟩
theorem k_39 : Cond.selects "GroupLogModel" ⟨"GroupLogModel", "paper", "(II)V"⟩ ⟨"GroupLogModel", "paper", "(II)V"⟩ ∈ TB := List.mem_filter.mpr ⟨List.mem_of_getElem? (i := 39) (by decide +kernel), by decide +kernel⟩
theorem k_40 : Cond.selects "GroupLogModel" ⟨"GroupLogModel", "keep", "(II)I"⟩ ⟨"GroupLogModel", "keep", "(II)I"⟩ ∈ TB := List.mem_filter.mpr ⟨List.mem_of_getElem? (i := 40) (by decide +kernel), by decide +kernel⟩
theorem k_41 : Cond.selects "GroupLogModel" ⟨"GroupLogModel", "response", "(II)V"⟩ ⟨"GroupLogModel", "response", "(II)V"⟩ ∈ TB := List.mem_filter.mpr ⟨List.mem_of_getElem? (i := 41) (by decide +kernel), by decide +kernel⟩
theorem k_42 : Cond.selects "GroupLogModel" ⟨"GroupLogModel", "isReplica", "(I)Z"⟩ ⟨"GroupLogModel", "isReplica", "(I)Z"⟩ ∈ TB := List.mem_filter.mpr ⟨List.mem_of_getElem? (i := 42) (by decide +kernel), by decide +kernel⟩
theorem k_43 : Cond.selects "GroupLogModel" ⟨"GroupLogModel", "fresh", "(I)V"⟩ ⟨"GroupLogModel", "fresh", "(I)V"⟩ ∈ TB := List.mem_filter.mpr ⟨List.mem_of_getElem? (i := 43) (by decide +kernel), by decide +kernel⟩
theorem k_45 : (Jvm.Cond.initialized "GroupLog") ∈ TB := List.mem_filter.mpr ⟨List.mem_of_getElem? (i := 45) (by decide +kernel), by decide +kernel⟩
theorem k_46 : (Jvm.Cond.initialized "GroupLog$Replica") ∈ TB := List.mem_filter.mpr ⟨List.mem_of_getElem? (i := 46) (by decide +kernel), by decide +kernel⟩
theorem k_47 : (Jvm.Cond.initialized "GroupLog$Log") ∈ TB := List.mem_filter.mpr ⟨List.mem_of_getElem? (i := 47) (by decide +kernel), by decide +kernel⟩
theorem k_48 : (Jvm.Cond.initialized "GroupLogModel") ∈ TB := List.mem_filter.mpr ⟨List.mem_of_getElem? (i := 48) (by decide +kernel), by decide +kernel⟩
theorem k_49 : (Jvm.Cond.initialized "java/lang/Math") ∈ TB := List.mem_filter.mpr ⟨List.mem_of_getElem? (i := 49) (by decide +kernel), by decide +kernel⟩
theorem k_50 : (Jvm.Cond.initialized "GroupLog$Message") ∈ TB := List.mem_filter.mpr ⟨List.mem_of_getElem? (i := 50) (by decide +kernel), by decide +kernel⟩
theorem k_56 : (Jvm.Cond.methodLink "GroupLog" (1 : Nat) ({ cls := "java/lang/Object", name := "<init>", desc := "()V" } : Jvm.MethodName)) ∈ TB := List.mem_filter.mpr ⟨List.mem_of_getElem? (i := 56) (by decide +kernel), by decide +kernel⟩
theorem k_57 : (Jvm.Cond.instanceMethod ({ cls := "java/lang/Object", name := "<init>", desc := "()V" } : Jvm.MethodName)) ∈ TB := List.mem_filter.mpr ⟨List.mem_of_getElem? (i := 57) (by decide +kernel), by decide +kernel⟩
theorem k_58 : (Jvm.Cond.code ({ cls := "java/lang/Object", name := "<init>", desc := "()V" } : Jvm.MethodName) object_method_1_code (1 : Nat) (Option.none : Option Jvm.ClassFile.FieldType)) ∈ TB := List.mem_filter.mpr ⟨List.mem_of_getElem? (i := 58) (by decide +kernel), by decide +kernel⟩
theorem k_59 : (Jvm.Cond.classLink "GroupLog" (9 : Nat) "GroupLog$Message") ∈ TB := List.mem_filter.mpr ⟨List.mem_of_getElem? (i := 59) (by decide +kernel), by decide +kernel⟩
theorem k_61 : (Jvm.Cond.classLink "GroupLog" (35 : Nat) "GroupLog$Replica") ∈ TB := List.mem_filter.mpr ⟨List.mem_of_getElem? (i := 61) (by decide +kernel), by decide +kernel⟩
theorem k_63 : (Jvm.Cond.instantiable "GroupLog$Replica" (13 : Nat)) ∈ TB := List.mem_filter.mpr ⟨List.mem_of_getElem? (i := 63) (by decide +kernel), by decide +kernel⟩
theorem k_64 : (Jvm.Cond.methodLink "GroupLog" (41 : Nat) ({ cls := "GroupLog$Replica", name := "<init>", desc := "(II)V" } : Jvm.MethodName)) ∈ TB := List.mem_filter.mpr ⟨List.mem_of_getElem? (i := 64) (by decide +kernel), by decide +kernel⟩
theorem k_65 : (Jvm.Cond.instanceMethod ({ cls := "GroupLog$Replica", name := "<init>", desc := "(II)V" } : Jvm.MethodName)) ∈ TB := List.mem_filter.mpr ⟨List.mem_of_getElem? (i := 65) (by decide +kernel), by decide +kernel⟩
theorem k_66 : (Jvm.Cond.code ({ cls := "GroupLog$Replica", name := "<init>", desc := "(II)V" } : Jvm.MethodName) prog_4_method_1_code (3 : Nat) (Option.none : Option Jvm.ClassFile.FieldType)) ∈ TB := List.mem_filter.mpr ⟨List.mem_of_getElem? (i := 66) (by decide +kernel), by decide +kernel⟩
theorem k_67 : (Jvm.Cond.methodLink "GroupLog$Replica" (3 : Nat) ({ cls := "java/lang/Object", name := "<init>", desc := "()V" } : Jvm.MethodName)) ∈ TB := List.mem_filter.mpr ⟨List.mem_of_getElem? (i := 67) (by decide +kernel), by decide +kernel⟩
theorem k_68 : (Jvm.Cond.classLink "GroupLog$Replica" (21 : Nat) "GroupLog$Log") ∈ TB := List.mem_filter.mpr ⟨List.mem_of_getElem? (i := 68) (by decide +kernel), by decide +kernel⟩
theorem k_69 : (Jvm.Cond.instantiable "GroupLog$Log" (6 : Nat)) ∈ TB := List.mem_filter.mpr ⟨List.mem_of_getElem? (i := 69) (by decide +kernel), by decide +kernel⟩
theorem k_70 : (Jvm.Cond.methodLink "GroupLog$Replica" (23 : Nat) ({ cls := "GroupLog$Log", name := "<init>", desc := "()V" } : Jvm.MethodName)) ∈ TB := List.mem_filter.mpr ⟨List.mem_of_getElem? (i := 70) (by decide +kernel), by decide +kernel⟩
theorem k_71 : (Jvm.Cond.instanceMethod ({ cls := "GroupLog$Log", name := "<init>", desc := "()V" } : Jvm.MethodName)) ∈ TB := List.mem_filter.mpr ⟨List.mem_of_getElem? (i := 71) (by decide +kernel), by decide +kernel⟩
theorem k_72 : (Jvm.Cond.code ({ cls := "GroupLog$Log", name := "<init>", desc := "()V" } : Jvm.MethodName) prog_2_method_1_code (1 : Nat) (Option.none : Option Jvm.ClassFile.FieldType)) ∈ TB := List.mem_filter.mpr ⟨List.mem_of_getElem? (i := 72) (by decide +kernel), by decide +kernel⟩
theorem k_73 : (Jvm.Cond.methodLink "GroupLog$Log" (1 : Nat) ({ cls := "java/lang/Object", name := "<init>", desc := "()V" } : Jvm.MethodName)) ∈ TB := List.mem_filter.mpr ⟨List.mem_of_getElem? (i := 73) (by decide +kernel), by decide +kernel⟩
theorem k_74 : (Jvm.Cond.fieldLink "GroupLog$Log" (7 : Nat) "GroupLog$Log" "before" "LGroupLog$Log;") ∈ TB := List.mem_filter.mpr ⟨List.mem_of_getElem? (i := 74) (by decide +kernel), by decide +kernel⟩
theorem k_75 : (Jvm.Cond.fieldLink "GroupLog$Log" (13 : Nat) "GroupLog$Log" "size" "I") ∈ TB := List.mem_filter.mpr ⟨List.mem_of_getElem? (i := 75) (by decide +kernel), by decide +kernel⟩
theorem k_76 : (Jvm.Cond.fieldLink "GroupLog" (73 : Nat) "GroupLog$Log" "size" "I") ∈ TB := List.mem_filter.mpr ⟨List.mem_of_getElem? (i := 76) (by decide +kernel), by decide +kernel⟩
theorem k_77 : (Jvm.Cond.fieldLink "GroupLog$Replica" (89 : Nat) "GroupLog$Log" "size" "I") ∈ TB := List.mem_filter.mpr ⟨List.mem_of_getElem? (i := 77) (by decide +kernel), by decide +kernel⟩
theorem k_78 : (Jvm.Cond.fieldLink "GroupLog$Log" (17 : Nat) "GroupLog$Log" "client" "I") ∈ TB := List.mem_filter.mpr ⟨List.mem_of_getElem? (i := 78) (by decide +kernel), by decide +kernel⟩
theorem k_79 : (Jvm.Cond.fieldLink "GroupLog" (142 : Nat) "GroupLog$Log" "client" "I") ∈ TB := List.mem_filter.mpr ⟨List.mem_of_getElem? (i := 79) (by decide +kernel), by decide +kernel⟩
theorem k_80 : (Jvm.Cond.fieldLink "GroupLog$Log" (20 : Nat) "GroupLog$Log" "number" "I") ∈ TB := List.mem_filter.mpr ⟨List.mem_of_getElem? (i := 80) (by decide +kernel), by decide +kernel⟩
theorem k_81 : (Jvm.Cond.fieldLink "GroupLog" (139 : Nat) "GroupLog$Log" "number" "I") ∈ TB := List.mem_filter.mpr ⟨List.mem_of_getElem? (i := 81) (by decide +kernel), by decide +kernel⟩
theorem k_82 : (Jvm.Cond.fieldLink "GroupLog$Log" (23 : Nat) "GroupLog$Log" "value" "I") ∈ TB := List.mem_filter.mpr ⟨List.mem_of_getElem? (i := 82) (by decide +kernel), by decide +kernel⟩
theorem k_83 : (Jvm.Cond.fieldLink "GroupLog" (136 : Nat) "GroupLog$Log" "value" "I") ∈ TB := List.mem_filter.mpr ⟨List.mem_of_getElem? (i := 83) (by decide +kernel), by decide +kernel⟩
theorem k_84 : (Jvm.Cond.fieldLink "GroupLog$Log" (26 : Nat) "GroupLog$Log" "total" "I") ∈ TB := List.mem_filter.mpr ⟨List.mem_of_getElem? (i := 84) (by decide +kernel), by decide +kernel⟩
theorem k_85 : (Jvm.Cond.fieldLink "GroupLog" (145 : Nat) "GroupLog$Log" "total" "I") ∈ TB := List.mem_filter.mpr ⟨List.mem_of_getElem? (i := 85) (by decide +kernel), by decide +kernel⟩
theorem k_99 : (Jvm.Cond.arrayClass Jvm.ClassFile.FieldType.int) ∈ TB := List.mem_filter.mpr ⟨List.mem_of_getElem? (i := 99) (by decide +kernel), by decide +kernel⟩
theorem k_100 : (Jvm.Cond.classLink "GroupLog$Replica" (48 : Nat) "GroupLog$Message") ∈ TB := List.mem_filter.mpr ⟨List.mem_of_getElem? (i := 100) (by decide +kernel), by decide +kernel⟩
theorem k_101 : (Jvm.Cond.fieldLink "GroupLog$Message" (13 : Nat) "GroupLog$Replica" "id" "I") ∈ TB := List.mem_filter.mpr ⟨List.mem_of_getElem? (i := 101) (by decide +kernel), by decide +kernel⟩
theorem k_102 : (Jvm.Cond.fieldLink "GroupLog$Replica" (38 : Nat) "GroupLog$Replica" "id" "I") ∈ TB := List.mem_filter.mpr ⟨List.mem_of_getElem? (i := 102) (by decide +kernel), by decide +kernel⟩
theorem k_103 : (Jvm.Cond.fieldLink "GroupLog" (122 : Nat) "GroupLog$Replica" "id" "I") ∈ TB := List.mem_filter.mpr ⟨List.mem_of_getElem? (i := 103) (by decide +kernel), by decide +kernel⟩
theorem k_104 : (Jvm.Cond.fieldLink "GroupLog$Replica" (9 : Nat) "GroupLog$Replica" "status" "I") ∈ TB := List.mem_filter.mpr ⟨List.mem_of_getElem? (i := 104) (by decide +kernel), by decide +kernel⟩
theorem k_105 : (Jvm.Cond.fieldLink "GroupLog" (97 : Nat) "GroupLog$Replica" "status" "I") ∈ TB := List.mem_filter.mpr ⟨List.mem_of_getElem? (i := 105) (by decide +kernel), by decide +kernel⟩
theorem k_106 : (Jvm.Cond.fieldLink "GroupLog$Replica" (15 : Nat) "GroupLog$Replica" "view" "I") ∈ TB := List.mem_filter.mpr ⟨List.mem_of_getElem? (i := 106) (by decide +kernel), by decide +kernel⟩
theorem k_107 : (Jvm.Cond.fieldLink "GroupLog$Message" (24 : Nat) "GroupLog$Replica" "view" "I") ∈ TB := List.mem_filter.mpr ⟨List.mem_of_getElem? (i := 107) (by decide +kernel), by decide +kernel⟩
theorem k_108 : (Jvm.Cond.fieldLink "GroupLog" (100 : Nat) "GroupLog$Replica" "view" "I") ∈ TB := List.mem_filter.mpr ⟨List.mem_of_getElem? (i := 108) (by decide +kernel), by decide +kernel⟩
theorem k_109 : (Jvm.Cond.fieldLink "GroupLog$Replica" (18 : Nat) "GroupLog$Replica" "lastView" "I") ∈ TB := List.mem_filter.mpr ⟨List.mem_of_getElem? (i := 109) (by decide +kernel), by decide +kernel⟩
theorem k_110 : (Jvm.Cond.fieldLink "GroupLog$Message" (28 : Nat) "GroupLog$Replica" "lastView" "I") ∈ TB := List.mem_filter.mpr ⟨List.mem_of_getElem? (i := 110) (by decide +kernel), by decide +kernel⟩
theorem k_111 : (Jvm.Cond.fieldLink "GroupLog$Replica" (24 : Nat) "GroupLog$Replica" "log" "LGroupLog$Log;") ∈ TB := List.mem_filter.mpr ⟨List.mem_of_getElem? (i := 111) (by decide +kernel), by decide +kernel⟩
theorem k_112 : (Jvm.Cond.fieldLink "GroupLog$Message" (37 : Nat) "GroupLog$Replica" "log" "LGroupLog$Log;") ∈ TB := List.mem_filter.mpr ⟨List.mem_of_getElem? (i := 112) (by decide +kernel), by decide +kernel⟩
theorem k_113 : (Jvm.Cond.fieldLink "GroupLog" (55 : Nat) "GroupLog$Replica" "log" "LGroupLog$Log;") ∈ TB := List.mem_filter.mpr ⟨List.mem_of_getElem? (i := 113) (by decide +kernel), by decide +kernel⟩
theorem k_114 : (Jvm.Cond.fieldLink "GroupLog$Replica" (28 : Nat) "GroupLog$Replica" "commit" "I") ∈ TB := List.mem_filter.mpr ⟨List.mem_of_getElem? (i := 114) (by decide +kernel), by decide +kernel⟩
theorem k_115 : (Jvm.Cond.fieldLink "GroupLog$Message" (42 : Nat) "GroupLog$Replica" "commit" "I") ∈ TB := List.mem_filter.mpr ⟨List.mem_of_getElem? (i := 115) (by decide +kernel), by decide +kernel⟩
theorem k_116 : (Jvm.Cond.fieldLink "GroupLog" (125 : Nat) "GroupLog$Replica" "commit" "I") ∈ TB := List.mem_filter.mpr ⟨List.mem_of_getElem? (i := 116) (by decide +kernel), by decide +kernel⟩
theorem k_117 : (Jvm.Cond.fieldLink "GroupLog$Message" (32 : Nat) "GroupLog$Replica" "vector" "[I") ∈ TB := List.mem_filter.mpr ⟨List.mem_of_getElem? (i := 117) (by decide +kernel), by decide +kernel⟩
theorem k_118 : (Jvm.Cond.fieldLink "GroupLog$Replica" (41 : Nat) "GroupLog$Replica" "vector" "[I") ∈ TB := List.mem_filter.mpr ⟨List.mem_of_getElem? (i := 118) (by decide +kernel), by decide +kernel⟩
theorem k_119 : (Jvm.Cond.fieldLink "GroupLog" (119 : Nat) "GroupLog$Replica" "vector" "[I") ∈ TB := List.mem_filter.mpr ⟨List.mem_of_getElem? (i := 119) (by decide +kernel), by decide +kernel⟩
theorem k_120 : (Jvm.Cond.fieldLink "GroupLog$Replica" (45 : Nat) "GroupLog$Replica" "acked" "[I") ∈ TB := List.mem_filter.mpr ⟨List.mem_of_getElem? (i := 120) (by decide +kernel), by decide +kernel⟩
theorem k_121 : (Jvm.Cond.fieldLink "GroupLog" (220 : Nat) "GroupLog$Replica" "acked" "[I") ∈ TB := List.mem_filter.mpr ⟨List.mem_of_getElem? (i := 121) (by decide +kernel), by decide +kernel⟩
theorem k_122 : (Jvm.Cond.fieldLink "GroupLog$Replica" (31 : Nat) "GroupLog$Replica" "paperSent" "Z") ∈ TB := List.mem_filter.mpr ⟨List.mem_of_getElem? (i := 122) (by decide +kernel), by decide +kernel⟩
theorem k_123 : (Jvm.Cond.fieldLink "GroupLog" (233 : Nat) "GroupLog$Replica" "paperSent" "Z") ∈ TB := List.mem_filter.mpr ⟨List.mem_of_getElem? (i := 123) (by decide +kernel), by decide +kernel⟩
theorem k_124 : (Jvm.Cond.fieldLink "GroupLog$Replica" (50 : Nat) "GroupLog$Replica" "votes" "[LGroupLog$Message;") ∈ TB := List.mem_filter.mpr ⟨List.mem_of_getElem? (i := 124) (by decide +kernel), by decide +kernel⟩
theorem k_125 : (Jvm.Cond.fieldLink "GroupLog" (237 : Nat) "GroupLog$Replica" "votes" "[LGroupLog$Message;") ∈ TB := List.mem_filter.mpr ⟨List.mem_of_getElem? (i := 125) (by decide +kernel), by decide +kernel⟩
theorem k_126 : (Jvm.Cond.fieldLink "GroupLog$Replica" (54 : Nat) "GroupLog$Replica" "papers" "[LGroupLog$Message;") ∈ TB := List.mem_filter.mpr ⟨List.mem_of_getElem? (i := 126) (by decide +kernel), by decide +kernel⟩
theorem k_127 : (Jvm.Cond.fieldLink "GroupLog" (244 : Nat) "GroupLog$Replica" "papers" "[LGroupLog$Message;") ∈ TB := List.mem_filter.mpr ⟨List.mem_of_getElem? (i := 127) (by decide +kernel), by decide +kernel⟩
theorem k_128 : (Jvm.Cond.fieldLink "GroupLog$Replica" (57 : Nat) "GroupLog$Replica" "responses" "[LGroupLog$Message;") ∈ TB := List.mem_filter.mpr ⟨List.mem_of_getElem? (i := 128) (by decide +kernel), by decide +kernel⟩
theorem k_129 : (Jvm.Cond.fieldLink "GroupLog" (250 : Nat) "GroupLog$Replica" "responses" "[LGroupLog$Message;") ∈ TB := List.mem_filter.mpr ⟨List.mem_of_getElem? (i := 129) (by decide +kernel), by decide +kernel⟩
theorem k_130 : (Jvm.Cond.fieldLink "GroupLog$Replica" (35 : Nat) "GroupLog$Replica" "greatestNonce" "I") ∈ TB := List.mem_filter.mpr ⟨List.mem_of_getElem? (i := 130) (by decide +kernel), by decide +kernel⟩
theorem k_131 : (Jvm.Cond.fieldLink "GroupLog" (116 : Nat) "GroupLog$Replica" "greatestNonce" "I") ∈ TB := List.mem_filter.mpr ⟨List.mem_of_getElem? (i := 131) (by decide +kernel), by decide +kernel⟩
theorem k_159 : (Jvm.Cond.fieldLink "GroupLog" (29 : Nat) "GroupLog" "replicaCount" "I") ∈ TB := List.mem_filter.mpr ⟨List.mem_of_getElem? (i := 159) (by decide +kernel), by decide +kernel⟩
theorem k_160 : (Jvm.Cond.fieldLink "GroupLog" (32 : Nat) "GroupLog" "faults" "I") ∈ TB := List.mem_filter.mpr ⟨List.mem_of_getElem? (i := 160) (by decide +kernel), by decide +kernel⟩
theorem k_161 : (Jvm.Cond.fieldLink "GroupLog" (37 : Nat) "GroupLog" "replicas" "[LGroupLog$Replica;") ∈ TB := List.mem_filter.mpr ⟨List.mem_of_getElem? (i := 161) (by decide +kernel), by decide +kernel⟩
theorem k_162 : (Jvm.Cond.fieldLink "GroupLog" (11 : Nat) "GroupLog" "latestMessages" "[LGroupLog$Message;") ∈ TB := List.mem_filter.mpr ⟨List.mem_of_getElem? (i := 162) (by decide +kernel), by decide +kernel⟩
theorem k_163 : (Jvm.Cond.fieldLink "GroupLog" (15 : Nat) "GroupLog" "sentCount" "I") ∈ TB := List.mem_filter.mpr ⟨List.mem_of_getElem? (i := 163) (by decide +kernel), by decide +kernel⟩
theorem k_164 : (Jvm.Cond.fieldLink "GroupLog" (19 : Nat) "GroupLog" "latestNext" "I") ∈ TB := List.mem_filter.mpr ⟨List.mem_of_getElem? (i := 164) (by decide +kernel), by decide +kernel⟩
theorem k_165 : (Jvm.Cond.fieldLink "GroupLog" (22 : Nat) "GroupLog" "clientNumber" "[I") ∈ TB := List.mem_filter.mpr ⟨List.mem_of_getElem? (i := 165) (by decide +kernel), by decide +kernel⟩
theorem k_166 : (Jvm.Cond.fieldLink "GroupLog" (26 : Nat) "GroupLog" "clientAnswer" "[I") ∈ TB := List.mem_filter.mpr ⟨List.mem_of_getElem? (i := 166) (by decide +kernel), by decide +kernel⟩
theorem k_188 : (Jvm.Cond.methodLink "GroupLog" (44 : Nat) ({ cls := "GroupLog", name := "isReplica", desc := "(I)Z" } : Jvm.MethodName)) ∈ TB := List.mem_filter.mpr ⟨List.mem_of_getElem? (i := 188) (by decide +kernel), by decide +kernel⟩
theorem k_190 : (Jvm.Cond.instanceMethod ({ cls := "GroupLog", name := "isReplica", desc := "(I)Z" } : Jvm.MethodName)) ∈ TB := List.mem_filter.mpr ⟨List.mem_of_getElem? (i := 190) (by decide +kernel), by decide +kernel⟩
theorem k_191 : (Jvm.Cond.code ({ cls := "GroupLog", name := "isReplica", desc := "(I)Z" } : Jvm.MethodName) prog_1_method_21_code (2 : Nat) (Option.some Jvm.ClassFile.FieldType.boolean)) ∈ TB := List.mem_filter.mpr ⟨List.mem_of_getElem? (i := 191) (by decide +kernel), by decide +kernel⟩
theorem k_192 : (Jvm.Cond.methodLink "GroupLog" (48 : Nat) ({ cls := "GroupLog", name := "isClient", desc := "(I)Z" } : Jvm.MethodName)) ∈ TB := List.mem_filter.mpr ⟨List.mem_of_getElem? (i := 192) (by decide +kernel), by decide +kernel⟩
theorem k_193 : (Jvm.Cond.static ({ cls := "GroupLog", name := "isClient", desc := "(I)Z" } : Jvm.MethodName)) ∈ TB := List.mem_filter.mpr ⟨List.mem_of_getElem? (i := 193) (by decide +kernel), by decide +kernel⟩
theorem k_194 : (Jvm.Cond.code ({ cls := "GroupLog", name := "isClient", desc := "(I)Z" } : Jvm.MethodName) prog_1_method_22_code (1 : Nat) (Option.some Jvm.ClassFile.FieldType.boolean)) ∈ TB := List.mem_filter.mpr ⟨List.mem_of_getElem? (i := 194) (by decide +kernel), by decide +kernel⟩
theorem k_195 : (Jvm.Cond.methodLink "GroupLog" (51 : Nat) ({ cls := "GroupLog", name := "leads", desc := "(LGroupLog$Replica;)Z" } : Jvm.MethodName)) ∈ TB := List.mem_filter.mpr ⟨List.mem_of_getElem? (i := 195) (by decide +kernel), by decide +kernel⟩
theorem k_197 : (Jvm.Cond.instanceMethod ({ cls := "GroupLog", name := "leads", desc := "(LGroupLog$Replica;)Z" } : Jvm.MethodName)) ∈ TB := List.mem_filter.mpr ⟨List.mem_of_getElem? (i := 197) (by decide +kernel), by decide +kernel⟩
theorem k_198 : (Jvm.Cond.code ({ cls := "GroupLog", name := "leads", desc := "(LGroupLog$Replica;)Z" } : Jvm.MethodName) prog_1_method_25_code (2 : Nat) (Option.some Jvm.ClassFile.FieldType.boolean)) ∈ TB := List.mem_filter.mpr ⟨List.mem_of_getElem? (i := 198) (by decide +kernel), by decide +kernel⟩
theorem k_199 : (Jvm.Cond.methodLink "GroupLog" (161 : Nat) ({ cls := "GroupLog", name := "primaryOf", desc := "(I)I" } : Jvm.MethodName)) ∈ TB := List.mem_filter.mpr ⟨List.mem_of_getElem? (i := 199) (by decide +kernel), by decide +kernel⟩
theorem k_201 : (Jvm.Cond.instanceMethod ({ cls := "GroupLog", name := "primaryOf", desc := "(I)I" } : Jvm.MethodName)) ∈ TB := List.mem_filter.mpr ⟨List.mem_of_getElem? (i := 201) (by decide +kernel), by decide +kernel⟩
theorem k_202 : (Jvm.Cond.code ({ cls := "GroupLog", name := "primaryOf", desc := "(I)I" } : Jvm.MethodName) prog_1_method_24_code (2 : Nat) (Option.some Jvm.ClassFile.FieldType.int)) ∈ TB := List.mem_filter.mpr ⟨List.mem_of_getElem? (i := 202) (by decide +kernel), by decide +kernel⟩
theorem k_203 : (Jvm.Cond.methodLink "GroupLog" (158 : Nat) ({ cls := "java/lang/Math", name := "floorMod", desc := "(II)I" } : Jvm.MethodName)) ∈ TB := List.mem_filter.mpr ⟨List.mem_of_getElem? (i := 203) (by decide +kernel), by decide +kernel⟩
theorem k_204 : (Jvm.Cond.static ({ cls := "java/lang/Math", name := "floorMod", desc := "(II)I" } : Jvm.MethodName)) ∈ TB := List.mem_filter.mpr ⟨List.mem_of_getElem? (i := 204) (by decide +kernel), by decide +kernel⟩
theorem k_205 : (Jvm.Cond.code ({ cls := "java/lang/Math", name := "floorMod", desc := "(II)I" } : Jvm.MethodName) prog_8_method_50_code (3 : Nat) (Option.some Jvm.ClassFile.FieldType.int)) ∈ TB := List.mem_filter.mpr ⟨List.mem_of_getElem? (i := 205) (by decide +kernel), by decide +kernel⟩
theorem k_206 : (Jvm.Cond.methodLink "GroupLog" (59 : Nat) ({ cls := "GroupLog$Log", name := "greatestNumber", desc := "(I)I" } : Jvm.MethodName)) ∈ TB := List.mem_filter.mpr ⟨List.mem_of_getElem? (i := 206) (by decide +kernel), by decide +kernel⟩
theorem k_207 : (Jvm.Cond.instanceMethod ({ cls := "GroupLog$Log", name := "greatestNumber", desc := "(I)I" } : Jvm.MethodName)) ∈ TB := List.mem_filter.mpr ⟨List.mem_of_getElem? (i := 207) (by decide +kernel), by decide +kernel⟩
theorem k_208 : (Jvm.Cond.selects "GroupLog$Log" ({ cls := "GroupLog$Log", name := "greatestNumber", desc := "(I)I" } : Jvm.MethodName) ({ cls := "GroupLog$Log", name := "greatestNumber", desc := "(I)I" } : Jvm.MethodName)) ∈ TB := List.mem_filter.mpr ⟨List.mem_of_getElem? (i := 208) (by decide +kernel), by decide +kernel⟩
theorem k_209 : (Jvm.Cond.code ({ cls := "GroupLog$Log", name := "greatestNumber", desc := "(I)I" } : Jvm.MethodName) prog_2_method_4_code (4 : Nat) (Option.some Jvm.ClassFile.FieldType.int)) ∈ TB := List.mem_filter.mpr ⟨List.mem_of_getElem? (i := 209) (by decide +kernel), by decide +kernel⟩
theorem k_210 : (Jvm.Cond.methodLink "GroupLog$Log" (29 : Nat) ({ cls := "java/lang/Math", name := "max", desc := "(II)I" } : Jvm.MethodName)) ∈ TB := List.mem_filter.mpr ⟨List.mem_of_getElem? (i := 210) (by decide +kernel), by decide +kernel⟩
theorem k_211 : (Jvm.Cond.static ({ cls := "java/lang/Math", name := "max", desc := "(II)I" } : Jvm.MethodName)) ∈ TB := List.mem_filter.mpr ⟨List.mem_of_getElem? (i := 211) (by decide +kernel), by decide +kernel⟩
theorem k_212 : (Jvm.Cond.code ({ cls := "java/lang/Math", name := "max", desc := "(II)I" } : Jvm.MethodName) prog_8_method_65_code (2 : Nat) (Option.some Jvm.ClassFile.FieldType.int)) ∈ TB := List.mem_filter.mpr ⟨List.mem_of_getElem? (i := 212) (by decide +kernel), by decide +kernel⟩
theorem k_213 : (Jvm.Cond.methodLink "GroupLog" (65 : Nat) ({ cls := "GroupLog$Log", name := "find", desc := "(II)LGroupLog$Log;" } : Jvm.MethodName)) ∈ TB := List.mem_filter.mpr ⟨List.mem_of_getElem? (i := 213) (by decide +kernel), by decide +kernel⟩
theorem k_214 : (Jvm.Cond.instanceMethod ({ cls := "GroupLog$Log", name := "find", desc := "(II)LGroupLog$Log;" } : Jvm.MethodName)) ∈ TB := List.mem_filter.mpr ⟨List.mem_of_getElem? (i := 214) (by decide +kernel), by decide +kernel⟩
theorem k_215 : (Jvm.Cond.selects "GroupLog$Log" ({ cls := "GroupLog$Log", name := "find", desc := "(II)LGroupLog$Log;" } : Jvm.MethodName) ({ cls := "GroupLog$Log", name := "find", desc := "(II)LGroupLog$Log;" } : Jvm.MethodName)) ∈ TB := List.mem_filter.mpr ⟨List.mem_of_getElem? (i := 215) (by decide +kernel), by decide +kernel⟩
theorem k_216 : (Jvm.Cond.code ({ cls := "GroupLog$Log", name := "find", desc := "(II)LGroupLog$Log;" } : Jvm.MethodName) prog_2_method_5_code (4 : Nat) (Option.some (Jvm.ClassFile.FieldType.object "GroupLog$Log"))) ∈ TB := List.mem_filter.mpr ⟨List.mem_of_getElem? (i := 216) (by decide +kernel), by decide +kernel⟩
theorem k_217 : (Jvm.Cond.methodLink "GroupLog" (69 : Nat) ({ cls := "GroupLog", name := "repeatAnswer", desc := "(LGroupLog$Replica;LGroupLog$Log;)I" } : Jvm.MethodName)) ∈ TB := List.mem_filter.mpr ⟨List.mem_of_getElem? (i := 217) (by decide +kernel), by decide +kernel⟩
theorem k_219 : (Jvm.Cond.instanceMethod ({ cls := "GroupLog", name := "repeatAnswer", desc := "(LGroupLog$Replica;LGroupLog$Log;)I" } : Jvm.MethodName)) ∈ TB := List.mem_filter.mpr ⟨List.mem_of_getElem? (i := 219) (by decide +kernel), by decide +kernel⟩
theorem k_220 : (Jvm.Cond.code ({ cls := "GroupLog", name := "repeatAnswer", desc := "(LGroupLog$Replica;LGroupLog$Log;)I" } : Jvm.MethodName) prog_1_method_28_code (3 : Nat) (Option.some Jvm.ClassFile.FieldType.int)) ∈ TB := List.mem_filter.mpr ⟨List.mem_of_getElem? (i := 220) (by decide +kernel), by decide +kernel⟩
theorem k_221 : (Jvm.Cond.methodLink "GroupLog" (164 : Nat) ({ cls := "GroupLog", name := "answerClient", desc := "(LGroupLog$Log;)V" } : Jvm.MethodName)) ∈ TB := List.mem_filter.mpr ⟨List.mem_of_getElem? (i := 221) (by decide +kernel), by decide +kernel⟩
theorem k_223 : (Jvm.Cond.instanceMethod ({ cls := "GroupLog", name := "answerClient", desc := "(LGroupLog$Log;)V" } : Jvm.MethodName)) ∈ TB := List.mem_filter.mpr ⟨List.mem_of_getElem? (i := 223) (by decide +kernel), by decide +kernel⟩
theorem k_224 : (Jvm.Cond.code ({ cls := "GroupLog", name := "answerClient", desc := "(LGroupLog$Log;)V" } : Jvm.MethodName) prog_1_method_29_code (2 : Nat) (Option.none : Option Jvm.ClassFile.FieldType)) ∈ TB := List.mem_filter.mpr ⟨List.mem_of_getElem? (i := 224) (by decide +kernel), by decide +kernel⟩
theorem k_225 : (Jvm.Cond.classLink "GroupLog" (60 : Nat) "GroupLog$Log") ∈ TB := List.mem_filter.mpr ⟨List.mem_of_getElem? (i := 225) (by decide +kernel), by decide +kernel⟩
theorem k_226 : (Jvm.Cond.methodLink "GroupLog" (76 : Nat) ({ cls := "GroupLog$Log", name := "<init>", desc := "(LGroupLog$Log;III)V" } : Jvm.MethodName)) ∈ TB := List.mem_filter.mpr ⟨List.mem_of_getElem? (i := 226) (by decide +kernel), by decide +kernel⟩
theorem k_227 : (Jvm.Cond.instanceMethod ({ cls := "GroupLog$Log", name := "<init>", desc := "(LGroupLog$Log;III)V" } : Jvm.MethodName)) ∈ TB := List.mem_filter.mpr ⟨List.mem_of_getElem? (i := 227) (by decide +kernel), by decide +kernel⟩
theorem k_228 : (Jvm.Cond.code ({ cls := "GroupLog$Log", name := "<init>", desc := "(LGroupLog$Log;III)V" } : Jvm.MethodName) prog_2_method_2_code (5 : Nat) (Option.none : Option Jvm.ClassFile.FieldType)) ∈ TB := List.mem_filter.mpr ⟨List.mem_of_getElem? (i := 228) (by decide +kernel), by decide +kernel⟩
theorem k_229 : (Jvm.Cond.methodLink "GroupLog" (79 : Nat) ({ cls := "GroupLog", name := "sendToAll", desc := "(LGroupLog$Replica;I)V" } : Jvm.MethodName)) ∈ TB := List.mem_filter.mpr ⟨List.mem_of_getElem? (i := 229) (by decide +kernel), by decide +kernel⟩
theorem k_231 : (Jvm.Cond.instanceMethod ({ cls := "GroupLog", name := "sendToAll", desc := "(LGroupLog$Replica;I)V" } : Jvm.MethodName)) ∈ TB := List.mem_filter.mpr ⟨List.mem_of_getElem? (i := 231) (by decide +kernel), by decide +kernel⟩
theorem k_232 : (Jvm.Cond.code ({ cls := "GroupLog", name := "sendToAll", desc := "(LGroupLog$Replica;I)V" } : Jvm.MethodName) prog_1_method_32_code (4 : Nat) (Option.none : Option Jvm.ClassFile.FieldType)) ∈ TB := List.mem_filter.mpr ⟨List.mem_of_getElem? (i := 232) (by decide +kernel), by decide +kernel⟩
theorem k_233 : (Jvm.Cond.methodLink "GroupLog" (171 : Nat) ({ cls := "GroupLog", name := "send", desc := "(LGroupLog$Replica;II)V" } : Jvm.MethodName)) ∈ TB := List.mem_filter.mpr ⟨List.mem_of_getElem? (i := 233) (by decide +kernel), by decide +kernel⟩
theorem k_235 : (Jvm.Cond.instanceMethod ({ cls := "GroupLog", name := "send", desc := "(LGroupLog$Replica;II)V" } : Jvm.MethodName)) ∈ TB := List.mem_filter.mpr ⟨List.mem_of_getElem? (i := 235) (by decide +kernel), by decide +kernel⟩
theorem k_236 : (Jvm.Cond.code ({ cls := "GroupLog", name := "send", desc := "(LGroupLog$Replica;II)V" } : Jvm.MethodName) prog_1_method_31_code (4 : Nat) (Option.none : Option Jvm.ClassFile.FieldType)) ∈ TB := List.mem_filter.mpr ⟨List.mem_of_getElem? (i := 236) (by decide +kernel), by decide +kernel⟩
theorem k_237 : (Jvm.Cond.instantiable "GroupLog$Message" (8 : Nat)) ∈ TB := List.mem_filter.mpr ⟨List.mem_of_getElem? (i := 237) (by decide +kernel), by decide +kernel⟩
theorem k_238 : (Jvm.Cond.methodLink "GroupLog" (168 : Nat) ({ cls := "GroupLog$Message", name := "<init>", desc := "(LGroupLog$Replica;II)V" } : Jvm.MethodName)) ∈ TB := List.mem_filter.mpr ⟨List.mem_of_getElem? (i := 238) (by decide +kernel), by decide +kernel⟩
theorem k_239 : (Jvm.Cond.instanceMethod ({ cls := "GroupLog$Message", name := "<init>", desc := "(LGroupLog$Replica;II)V" } : Jvm.MethodName)) ∈ TB := List.mem_filter.mpr ⟨List.mem_of_getElem? (i := 239) (by decide +kernel), by decide +kernel⟩
theorem k_240 : (Jvm.Cond.code ({ cls := "GroupLog$Message", name := "<init>", desc := "(LGroupLog$Replica;II)V" } : Jvm.MethodName) prog_3_method_1_code (4 : Nat) (Option.none : Option Jvm.ClassFile.FieldType)) ∈ TB := List.mem_filter.mpr ⟨List.mem_of_getElem? (i := 240) (by decide +kernel), by decide +kernel⟩
theorem k_241 : (Jvm.Cond.methodLink "GroupLog$Message" (1 : Nat) ({ cls := "java/lang/Object", name := "<init>", desc := "()V" } : Jvm.MethodName)) ∈ TB := List.mem_filter.mpr ⟨List.mem_of_getElem? (i := 241) (by decide +kernel), by decide +kernel⟩
theorem k_242 : (Jvm.Cond.fieldLink "GroupLog$Message" (7 : Nat) "GroupLog$Message" "kind" "I") ∈ TB := List.mem_filter.mpr ⟨List.mem_of_getElem? (i := 242) (by decide +kernel), by decide +kernel⟩
theorem k_243 : (Jvm.Cond.fieldLink "GroupLog" (148 : Nat) "GroupLog$Message" "kind" "I") ∈ TB := List.mem_filter.mpr ⟨List.mem_of_getElem? (i := 243) (by decide +kernel), by decide +kernel⟩
theorem k_244 : (Jvm.Cond.fieldLink "GroupLog$Message" (18 : Nat) "GroupLog$Message" "sender" "I") ∈ TB := List.mem_filter.mpr ⟨List.mem_of_getElem? (i := 244) (by decide +kernel), by decide +kernel⟩
theorem k_245 : (Jvm.Cond.fieldLink "GroupLog" (151 : Nat) "GroupLog$Message" "sender" "I") ∈ TB := List.mem_filter.mpr ⟨List.mem_of_getElem? (i := 245) (by decide +kernel), by decide +kernel⟩
theorem k_246 : (Jvm.Cond.fieldLink "GroupLog$Message" (21 : Nat) "GroupLog$Message" "addressee" "I") ∈ TB := List.mem_filter.mpr ⟨List.mem_of_getElem? (i := 246) (by decide +kernel), by decide +kernel⟩
theorem k_247 : (Jvm.Cond.fieldLink "GroupLog" (154 : Nat) "GroupLog$Message" "addressee" "I") ∈ TB := List.mem_filter.mpr ⟨List.mem_of_getElem? (i := 247) (by decide +kernel), by decide +kernel⟩
theorem k_248 : (Jvm.Cond.fieldLink "GroupLog$Message" (27 : Nat) "GroupLog$Message" "view" "I") ∈ TB := List.mem_filter.mpr ⟨List.mem_of_getElem? (i := 248) (by decide +kernel), by decide +kernel⟩
theorem k_249 : (Jvm.Cond.fieldLink "GroupLog$Replica" (60 : Nat) "GroupLog$Message" "view" "I") ∈ TB := List.mem_filter.mpr ⟨List.mem_of_getElem? (i := 249) (by decide +kernel), by decide +kernel⟩
theorem k_250 : (Jvm.Cond.fieldLink "GroupLog" (157 : Nat) "GroupLog$Message" "view" "I") ∈ TB := List.mem_filter.mpr ⟨List.mem_of_getElem? (i := 250) (by decide +kernel), by decide +kernel⟩
theorem k_251 : (Jvm.Cond.fieldLink "GroupLog$Message" (31 : Nat) "GroupLog$Message" "lastView" "I") ∈ TB := List.mem_filter.mpr ⟨List.mem_of_getElem? (i := 251) (by decide +kernel), by decide +kernel⟩
theorem k_252 : (Jvm.Cond.fieldLink "GroupLog$Replica" (87 : Nat) "GroupLog$Message" "lastView" "I") ∈ TB := List.mem_filter.mpr ⟨List.mem_of_getElem? (i := 252) (by decide +kernel), by decide +kernel⟩
theorem k_253 : (Jvm.Cond.fieldLink "GroupLog$Message" (36 : Nat) "GroupLog$Message" "vector" "[I") ∈ TB := List.mem_filter.mpr ⟨List.mem_of_getElem? (i := 253) (by decide +kernel), by decide +kernel⟩
theorem k_254 : (Jvm.Cond.fieldLink "GroupLog$Replica" (82 : Nat) "GroupLog$Message" "vector" "[I") ∈ TB := List.mem_filter.mpr ⟨List.mem_of_getElem? (i := 254) (by decide +kernel), by decide +kernel⟩
theorem k_255 : (Jvm.Cond.fieldLink "GroupLog" (181 : Nat) "GroupLog$Message" "vector" "[I") ∈ TB := List.mem_filter.mpr ⟨List.mem_of_getElem? (i := 255) (by decide +kernel), by decide +kernel⟩
theorem k_256 : (Jvm.Cond.fieldLink "GroupLog$Message" (41 : Nat) "GroupLog$Message" "log" "LGroupLog$Log;") ∈ TB := List.mem_filter.mpr ⟨List.mem_of_getElem? (i := 256) (by decide +kernel), by decide +kernel⟩
theorem k_257 : (Jvm.Cond.fieldLink "GroupLog$Replica" (88 : Nat) "GroupLog$Message" "log" "LGroupLog$Log;") ∈ TB := List.mem_filter.mpr ⟨List.mem_of_getElem? (i := 257) (by decide +kernel), by decide +kernel⟩
theorem k_258 : (Jvm.Cond.fieldLink "GroupLog" (215 : Nat) "GroupLog$Message" "log" "LGroupLog$Log;") ∈ TB := List.mem_filter.mpr ⟨List.mem_of_getElem? (i := 258) (by decide +kernel), by decide +kernel⟩
theorem k_259 : (Jvm.Cond.fieldLink "GroupLog$Message" (45 : Nat) "GroupLog$Message" "commit" "I") ∈ TB := List.mem_filter.mpr ⟨List.mem_of_getElem? (i := 259) (by decide +kernel), by decide +kernel⟩
theorem k_260 : (Jvm.Cond.fieldLink "GroupLog$Replica" (92 : Nat) "GroupLog$Message" "commit" "I") ∈ TB := List.mem_filter.mpr ⟨List.mem_of_getElem? (i := 260) (by decide +kernel), by decide +kernel⟩
theorem k_261 : (Jvm.Cond.fieldLink "GroupLog" (216 : Nat) "GroupLog$Message" "commit" "I") ∈ TB := List.mem_filter.mpr ⟨List.mem_of_getElem? (i := 261) (by decide +kernel), by decide +kernel⟩
theorem k_283 : (Jvm.Cond.methodLink "GroupLog" (83 : Nat) ({ cls := "GroupLog", name := "findMessage", desc := "(I)LGroupLog$Message;" } : Jvm.MethodName)) ∈ TB := List.mem_filter.mpr ⟨List.mem_of_getElem? (i := 283) (by decide +kernel), by decide +kernel⟩
theorem k_285 : (Jvm.Cond.instanceMethod ({ cls := "GroupLog", name := "findMessage", desc := "(I)LGroupLog$Message;" } : Jvm.MethodName)) ∈ TB := List.mem_filter.mpr ⟨List.mem_of_getElem? (i := 285) (by decide +kernel), by decide +kernel⟩
theorem k_286 : (Jvm.Cond.code ({ cls := "GroupLog", name := "findMessage", desc := "(I)LGroupLog$Message;" } : Jvm.MethodName) prog_1_method_30_code (3 : Nat) (Option.some (Jvm.ClassFile.FieldType.object "GroupLog$Message"))) ∈ TB := List.mem_filter.mpr ⟨List.mem_of_getElem? (i := 286) (by decide +kernel), by decide +kernel⟩
theorem k_287 : (Jvm.Cond.methodLink "GroupLog" (87 : Nat) ({ cls := "GroupLog", name := "receive", desc := "(LGroupLog$Message;)I" } : Jvm.MethodName)) ∈ TB := List.mem_filter.mpr ⟨List.mem_of_getElem? (i := 287) (by decide +kernel), by decide +kernel⟩
theorem k_289 : (Jvm.Cond.instanceMethod ({ cls := "GroupLog", name := "receive", desc := "(LGroupLog$Message;)I" } : Jvm.MethodName)) ∈ TB := List.mem_filter.mpr ⟨List.mem_of_getElem? (i := 289) (by decide +kernel), by decide +kernel⟩
theorem k_290 : (Jvm.Cond.code ({ cls := "GroupLog", name := "receive", desc := "(LGroupLog$Message;)I" } : Jvm.MethodName) prog_1_method_33_code (3 : Nat) (Option.some Jvm.ClassFile.FieldType.int)) ∈ TB := List.mem_filter.mpr ⟨List.mem_of_getElem? (i := 290) (by decide +kernel), by decide +kernel⟩
theorem k_291 : (Jvm.Cond.methodLink "GroupLog" (174 : Nat) ({ cls := "GroupLog", name := "hears", desc := "(LGroupLog$Replica;LGroupLog$Message;)Z" } : Jvm.MethodName)) ∈ TB := List.mem_filter.mpr ⟨List.mem_of_getElem? (i := 291) (by decide +kernel), by decide +kernel⟩
theorem k_292 : (Jvm.Cond.static ({ cls := "GroupLog", name := "hears", desc := "(LGroupLog$Replica;LGroupLog$Message;)Z" } : Jvm.MethodName)) ∈ TB := List.mem_filter.mpr ⟨List.mem_of_getElem? (i := 292) (by decide +kernel), by decide +kernel⟩
theorem k_293 : (Jvm.Cond.code ({ cls := "GroupLog", name := "hears", desc := "(LGroupLog$Replica;LGroupLog$Message;)Z" } : Jvm.MethodName) prog_1_method_34_code (2 : Nat) (Option.some Jvm.ClassFile.FieldType.boolean)) ∈ TB := List.mem_filter.mpr ⟨List.mem_of_getElem? (i := 293) (by decide +kernel), by decide +kernel⟩
theorem k_294 : (Jvm.Cond.methodLink "GroupLog" (178 : Nat) ({ cls := "GroupLog", name := "isOutdated", desc := "(LGroupLog$Replica;LGroupLog$Message;)Z" } : Jvm.MethodName)) ∈ TB := List.mem_filter.mpr ⟨List.mem_of_getElem? (i := 294) (by decide +kernel), by decide +kernel⟩
theorem k_295 : (Jvm.Cond.static ({ cls := "GroupLog", name := "isOutdated", desc := "(LGroupLog$Replica;LGroupLog$Message;)Z" } : Jvm.MethodName)) ∈ TB := List.mem_filter.mpr ⟨List.mem_of_getElem? (i := 295) (by decide +kernel), by decide +kernel⟩
theorem k_296 : (Jvm.Cond.code ({ cls := "GroupLog", name := "isOutdated", desc := "(LGroupLog$Replica;LGroupLog$Message;)Z" } : Jvm.MethodName) prog_1_method_35_code (2 : Nat) (Option.some Jvm.ClassFile.FieldType.boolean)) ∈ TB := List.mem_filter.mpr ⟨List.mem_of_getElem? (i := 296) (by decide +kernel), by decide +kernel⟩
theorem k_297 : (Jvm.Cond.methodLink "GroupLog" (182 : Nat) ({ cls := "GroupLog$Replica", name := "raiseVector", desc := "([I)V" } : Jvm.MethodName)) ∈ TB := List.mem_filter.mpr ⟨List.mem_of_getElem? (i := 297) (by decide +kernel), by decide +kernel⟩
theorem k_298 : (Jvm.Cond.instanceMethod ({ cls := "GroupLog$Replica", name := "raiseVector", desc := "([I)V" } : Jvm.MethodName)) ∈ TB := List.mem_filter.mpr ⟨List.mem_of_getElem? (i := 298) (by decide +kernel), by decide +kernel⟩
theorem k_299 : (Jvm.Cond.selects "GroupLog$Replica" ({ cls := "GroupLog$Replica", name := "raiseVector", desc := "([I)V" } : Jvm.MethodName) ({ cls := "GroupLog$Replica", name := "raiseVector", desc := "([I)V" } : Jvm.MethodName)) ∈ TB := List.mem_filter.mpr ⟨List.mem_of_getElem? (i := 299) (by decide +kernel), by decide +kernel⟩
theorem k_300 : (Jvm.Cond.code ({ cls := "GroupLog$Replica", name := "raiseVector", desc := "([I)V" } : Jvm.MethodName) prog_4_method_7_code (4 : Nat) (Option.none : Option Jvm.ClassFile.FieldType)) ∈ TB := List.mem_filter.mpr ⟨List.mem_of_getElem? (i := 300) (by decide +kernel), by decide +kernel⟩
theorem k_301 : (Jvm.Cond.methodLink "GroupLog$Replica" (73 : Nat) ({ cls := "[I", name := "clone", desc := "()Ljava/lang/Object;" } : Jvm.MethodName)) ∈ TB := List.mem_filter.mpr ⟨List.mem_of_getElem? (i := 301) (by decide +kernel), by decide +kernel⟩
theorem k_302 : (Jvm.Cond.sameMethod "[I" "java/lang/Object" "clone" "()Ljava/lang/Object;") ∈ TB := List.mem_filter.mpr ⟨List.mem_of_getElem? (i := 302) (by decide +kernel), by decide +kernel⟩
theorem k_303 : (Jvm.Cond.native ({ cls := "java/lang/Object", name := "clone", desc := "()Ljava/lang/Object;" } : Jvm.MethodName)) ∈ TB := List.mem_filter.mpr ⟨List.mem_of_getElem? (i := 303) (by decide +kernel), by decide +kernel⟩
theorem k_304 : (Jvm.Cond.instanceMethod ({ cls := "java/lang/Object", name := "clone", desc := "()Ljava/lang/Object;" } : Jvm.MethodName)) ∈ TB := List.mem_filter.mpr ⟨List.mem_of_getElem? (i := 304) (by decide +kernel), by decide +kernel⟩
theorem k_305 : (Jvm.Cond.selects "[I" ({ cls := "[I", name := "clone", desc := "()Ljava/lang/Object;" } : Jvm.MethodName) ({ cls := "java/lang/Object", name := "clone", desc := "()Ljava/lang/Object;" } : Jvm.MethodName)) ∈ TB := List.mem_filter.mpr ⟨List.mem_of_getElem? (i := 305) (by decide +kernel), by decide +kernel⟩
theorem k_307 : (Jvm.Cond.classLink "GroupLog$Replica" (74 : Nat) "[I") ∈ TB := List.mem_filter.mpr ⟨List.mem_of_getElem? (i := 307) (by decide +kernel), by decide +kernel⟩
theorem k_308 : (Jvm.Cond.methodLink "GroupLog$Replica" (61 : Nat) ({ cls := "java/lang/Math", name := "max", desc := "(II)I" } : Jvm.MethodName)) ∈ TB := List.mem_filter.mpr ⟨List.mem_of_getElem? (i := 308) (by decide +kernel), by decide +kernel⟩
theorem k_309 : (Jvm.Cond.methodLink "GroupLog" (186 : Nat) ({ cls := "GroupLog$Replica", name := "forgetOutdated", desc := "()V" } : Jvm.MethodName)) ∈ TB := List.mem_filter.mpr ⟨List.mem_of_getElem? (i := 309) (by decide +kernel), by decide +kernel⟩
theorem k_310 : (Jvm.Cond.instanceMethod ({ cls := "GroupLog$Replica", name := "forgetOutdated", desc := "()V" } : Jvm.MethodName)) ∈ TB := List.mem_filter.mpr ⟨List.mem_of_getElem? (i := 310) (by decide +kernel), by decide +kernel⟩
theorem k_311 : (Jvm.Cond.selects "GroupLog$Replica" ({ cls := "GroupLog$Replica", name := "forgetOutdated", desc := "()V" } : Jvm.MethodName) ({ cls := "GroupLog$Replica", name := "forgetOutdated", desc := "()V" } : Jvm.MethodName)) ∈ TB := List.mem_filter.mpr ⟨List.mem_of_getElem? (i := 311) (by decide +kernel), by decide +kernel⟩
theorem k_312 : (Jvm.Cond.code ({ cls := "GroupLog$Replica", name := "forgetOutdated", desc := "()V" } : Jvm.MethodName) prog_4_method_8_code (1 : Nat) (Option.none : Option Jvm.ClassFile.FieldType)) ∈ TB := List.mem_filter.mpr ⟨List.mem_of_getElem? (i := 312) (by decide +kernel), by decide +kernel⟩
theorem k_313 : (Jvm.Cond.methodLink "GroupLog$Replica" (78 : Nat) ({ cls := "GroupLog$Replica", name := "dropOutdated", desc := "([LGroupLog$Message;)V" } : Jvm.MethodName)) ∈ TB := List.mem_filter.mpr ⟨List.mem_of_getElem? (i := 313) (by decide +kernel), by decide +kernel⟩
theorem k_315 : (Jvm.Cond.instanceMethod ({ cls := "GroupLog$Replica", name := "dropOutdated", desc := "([LGroupLog$Message;)V" } : Jvm.MethodName)) ∈ TB := List.mem_filter.mpr ⟨List.mem_of_getElem? (i := 315) (by decide +kernel), by decide +kernel⟩
theorem k_316 : (Jvm.Cond.code ({ cls := "GroupLog$Replica", name := "dropOutdated", desc := "([LGroupLog$Message;)V" } : Jvm.MethodName) prog_4_method_9_code (3 : Nat) (Option.none : Option Jvm.ClassFile.FieldType)) ∈ TB := List.mem_filter.mpr ⟨List.mem_of_getElem? (i := 316) (by decide +kernel), by decide +kernel⟩
theorem k_317 : (Jvm.Cond.methodLink "GroupLog" (189 : Nat) ({ cls := "GroupLog", name := "takePrepare", desc := "(LGroupLog$Replica;LGroupLog$Message;)V" } : Jvm.MethodName)) ∈ TB := List.mem_filter.mpr ⟨List.mem_of_getElem? (i := 317) (by decide +kernel), by decide +kernel⟩
theorem k_319 : (Jvm.Cond.instanceMethod ({ cls := "GroupLog", name := "takePrepare", desc := "(LGroupLog$Replica;LGroupLog$Message;)V" } : Jvm.MethodName)) ∈ TB := List.mem_filter.mpr ⟨List.mem_of_getElem? (i := 319) (by decide +kernel), by decide +kernel⟩
theorem k_320 : (Jvm.Cond.code ({ cls := "GroupLog", name := "takePrepare", desc := "(LGroupLog$Replica;LGroupLog$Message;)V" } : Jvm.MethodName) prog_1_method_37_code (4 : Nat) (Option.none : Option Jvm.ClassFile.FieldType)) ∈ TB := List.mem_filter.mpr ⟨List.mem_of_getElem? (i := 320) (by decide +kernel), by decide +kernel⟩
theorem k_321 : (Jvm.Cond.methodLink "GroupLog" (217 : Nat) ({ cls := "java/lang/Math", name := "min", desc := "(II)I" } : Jvm.MethodName)) ∈ TB := List.mem_filter.mpr ⟨List.mem_of_getElem? (i := 321) (by decide +kernel), by decide +kernel⟩
theorem k_322 : (Jvm.Cond.static ({ cls := "java/lang/Math", name := "min", desc := "(II)I" } : Jvm.MethodName)) ∈ TB := List.mem_filter.mpr ⟨List.mem_of_getElem? (i := 322) (by decide +kernel), by decide +kernel⟩
theorem k_323 : (Jvm.Cond.code ({ cls := "java/lang/Math", name := "min", desc := "(II)I" } : Jvm.MethodName) prog_8_method_69_code (2 : Nat) (Option.some Jvm.ClassFile.FieldType.int)) ∈ TB := List.mem_filter.mpr ⟨List.mem_of_getElem? (i := 323) (by decide +kernel), by decide +kernel⟩
theorem k_324 : (Jvm.Cond.methodLink "GroupLog" (91 : Nat) ({ cls := "java/lang/Math", name := "max", desc := "(II)I" } : Jvm.MethodName)) ∈ TB := List.mem_filter.mpr ⟨List.mem_of_getElem? (i := 324) (by decide +kernel), by decide +kernel⟩
theorem k_325 : (Jvm.Cond.methodLink "GroupLog" (193 : Nat) ({ cls := "GroupLog", name := "takeOk", desc := "(LGroupLog$Replica;LGroupLog$Message;)V" } : Jvm.MethodName)) ∈ TB := List.mem_filter.mpr ⟨List.mem_of_getElem? (i := 325) (by decide +kernel), by decide +kernel⟩
theorem k_327 : (Jvm.Cond.instanceMethod ({ cls := "GroupLog", name := "takeOk", desc := "(LGroupLog$Replica;LGroupLog$Message;)V" } : Jvm.MethodName)) ∈ TB := List.mem_filter.mpr ⟨List.mem_of_getElem? (i := 327) (by decide +kernel), by decide +kernel⟩
theorem k_328 : (Jvm.Cond.code ({ cls := "GroupLog", name := "takeOk", desc := "(LGroupLog$Replica;LGroupLog$Message;)V" } : Jvm.MethodName) prog_1_method_38_code (6 : Nat) (Option.none : Option Jvm.ClassFile.FieldType)) ∈ TB := List.mem_filter.mpr ⟨List.mem_of_getElem? (i := 328) (by decide +kernel), by decide +kernel⟩
theorem k_329 : (Jvm.Cond.methodLink "GroupLog" (223 : Nat) ({ cls := "GroupLog$Replica", name := "ackedBy", desc := "(I)I" } : Jvm.MethodName)) ∈ TB := List.mem_filter.mpr ⟨List.mem_of_getElem? (i := 329) (by decide +kernel), by decide +kernel⟩
theorem k_330 : (Jvm.Cond.instanceMethod ({ cls := "GroupLog$Replica", name := "ackedBy", desc := "(I)I" } : Jvm.MethodName)) ∈ TB := List.mem_filter.mpr ⟨List.mem_of_getElem? (i := 330) (by decide +kernel), by decide +kernel⟩
theorem k_331 : (Jvm.Cond.selects "GroupLog$Replica" ({ cls := "GroupLog$Replica", name := "ackedBy", desc := "(I)I" } : Jvm.MethodName) ({ cls := "GroupLog$Replica", name := "ackedBy", desc := "(I)I" } : Jvm.MethodName)) ∈ TB := List.mem_filter.mpr ⟨List.mem_of_getElem? (i := 331) (by decide +kernel), by decide +kernel⟩
theorem k_332 : (Jvm.Cond.code ({ cls := "GroupLog$Replica", name := "ackedBy", desc := "(I)I" } : Jvm.MethodName) prog_4_method_10_code (4 : Nat) (Option.some Jvm.ClassFile.FieldType.int)) ∈ TB := List.mem_filter.mpr ⟨List.mem_of_getElem? (i := 332) (by decide +kernel), by decide +kernel⟩
theorem k_333 : (Jvm.Cond.methodLink "GroupLog$Replica" (83 : Nat) ({ cls := "GroupLog$Replica", name := "countAcked", desc := "(I)I" } : Jvm.MethodName)) ∈ TB := List.mem_filter.mpr ⟨List.mem_of_getElem? (i := 333) (by decide +kernel), by decide +kernel⟩
theorem k_335 : (Jvm.Cond.instanceMethod ({ cls := "GroupLog$Replica", name := "countAcked", desc := "(I)I" } : Jvm.MethodName)) ∈ TB := List.mem_filter.mpr ⟨List.mem_of_getElem? (i := 335) (by decide +kernel), by decide +kernel⟩
theorem k_336 : (Jvm.Cond.code ({ cls := "GroupLog$Replica", name := "countAcked", desc := "(I)I" } : Jvm.MethodName) prog_4_method_11_code (4 : Nat) (Option.some Jvm.ClassFile.FieldType.int)) ∈ TB := List.mem_filter.mpr ⟨List.mem_of_getElem? (i := 336) (by decide +kernel), by decide +kernel⟩
theorem k_337 : (Jvm.Cond.methodLink "GroupLog" (132 : Nat) ({ cls := "GroupLog$Log", name := "firstEntries", desc := "(I)LGroupLog$Log;" } : Jvm.MethodName)) ∈ TB := List.mem_filter.mpr ⟨List.mem_of_getElem? (i := 337) (by decide +kernel), by decide +kernel⟩
theorem k_338 : (Jvm.Cond.instanceMethod ({ cls := "GroupLog$Log", name := "firstEntries", desc := "(I)LGroupLog$Log;" } : Jvm.MethodName)) ∈ TB := List.mem_filter.mpr ⟨List.mem_of_getElem? (i := 338) (by decide +kernel), by decide +kernel⟩
theorem k_339 : (Jvm.Cond.selects "GroupLog$Log" ({ cls := "GroupLog$Log", name := "firstEntries", desc := "(I)LGroupLog$Log;" } : Jvm.MethodName) ({ cls := "GroupLog$Log", name := "firstEntries", desc := "(I)LGroupLog$Log;" } : Jvm.MethodName)) ∈ TB := List.mem_filter.mpr ⟨List.mem_of_getElem? (i := 339) (by decide +kernel), by decide +kernel⟩
theorem k_340 : (Jvm.Cond.code ({ cls := "GroupLog$Log", name := "firstEntries", desc := "(I)LGroupLog$Log;" } : Jvm.MethodName) prog_2_method_3_code (3 : Nat) (Option.some (Jvm.ClassFile.FieldType.object "GroupLog$Log"))) ∈ TB := List.mem_filter.mpr ⟨List.mem_of_getElem? (i := 340) (by decide +kernel), by decide +kernel⟩
theorem k_341 : (Jvm.Cond.methodLink "GroupLog" (196 : Nat) ({ cls := "GroupLog", name := "replyIfNormal", desc := "(LGroupLog$Replica;LGroupLog$Message;I)V" } : Jvm.MethodName)) ∈ TB := List.mem_filter.mpr ⟨List.mem_of_getElem? (i := 341) (by decide +kernel), by decide +kernel⟩
theorem k_343 : (Jvm.Cond.instanceMethod ({ cls := "GroupLog", name := "replyIfNormal", desc := "(LGroupLog$Replica;LGroupLog$Message;I)V" } : Jvm.MethodName)) ∈ TB := List.mem_filter.mpr ⟨List.mem_of_getElem? (i := 343) (by decide +kernel), by decide +kernel⟩
theorem k_344 : (Jvm.Cond.code ({ cls := "GroupLog", name := "replyIfNormal", desc := "(LGroupLog$Replica;LGroupLog$Message;I)V" } : Jvm.MethodName) prog_1_method_36_code (4 : Nat) (Option.none : Option Jvm.ClassFile.FieldType)) ∈ TB := List.mem_filter.mpr ⟨List.mem_of_getElem? (i := 344) (by decide +kernel), by decide +kernel⟩
theorem k_345 : (Jvm.Cond.methodLink "GroupLog" (200 : Nat) ({ cls := "GroupLog", name := "takeState", desc := "(LGroupLog$Replica;LGroupLog$Message;)V" } : Jvm.MethodName)) ∈ TB := List.mem_filter.mpr ⟨List.mem_of_getElem? (i := 345) (by decide +kernel), by decide +kernel⟩
theorem k_347 : (Jvm.Cond.instanceMethod ({ cls := "GroupLog", name := "takeState", desc := "(LGroupLog$Replica;LGroupLog$Message;)V" } : Jvm.MethodName)) ∈ TB := List.mem_filter.mpr ⟨List.mem_of_getElem? (i := 347) (by decide +kernel), by decide +kernel⟩
theorem k_348 : (Jvm.Cond.code ({ cls := "GroupLog", name := "takeState", desc := "(LGroupLog$Replica;LGroupLog$Message;)V" } : Jvm.MethodName) prog_1_method_39_code (4 : Nat) (Option.none : Option Jvm.ClassFile.FieldType)) ∈ TB := List.mem_filter.mpr ⟨List.mem_of_getElem? (i := 348) (by decide +kernel), by decide +kernel⟩
theorem k_349 : (Jvm.Cond.methodLink "GroupLog" (226 : Nat) ({ cls := "GroupLog$Replica", name := "becomeNormal", desc := "(ILGroupLog$Log;I)V" } : Jvm.MethodName)) ∈ TB := List.mem_filter.mpr ⟨List.mem_of_getElem? (i := 349) (by decide +kernel), by decide +kernel⟩
theorem k_350 : (Jvm.Cond.instanceMethod ({ cls := "GroupLog$Replica", name := "becomeNormal", desc := "(ILGroupLog$Log;I)V" } : Jvm.MethodName)) ∈ TB := List.mem_filter.mpr ⟨List.mem_of_getElem? (i := 350) (by decide +kernel), by decide +kernel⟩
theorem k_351 : (Jvm.Cond.selects "GroupLog$Replica" ({ cls := "GroupLog$Replica", name := "becomeNormal", desc := "(ILGroupLog$Log;I)V" } : Jvm.MethodName) ({ cls := "GroupLog$Replica", name := "becomeNormal", desc := "(ILGroupLog$Log;I)V" } : Jvm.MethodName)) ∈ TB := List.mem_filter.mpr ⟨List.mem_of_getElem? (i := 351) (by decide +kernel), by decide +kernel⟩
theorem k_352 : (Jvm.Cond.code ({ cls := "GroupLog$Replica", name := "becomeNormal", desc := "(ILGroupLog$Log;I)V" } : Jvm.MethodName) prog_4_method_12_code (4 : Nat) (Option.none : Option Jvm.ClassFile.FieldType)) ∈ TB := List.mem_filter.mpr ⟨List.mem_of_getElem? (i := 352) (by decide +kernel), by decide +kernel⟩
theorem k_353 : (Jvm.Cond.methodLink "GroupLog$Replica" (70 : Nat) ({ cls := "GroupLog$Replica", name := "forgetKept", desc := "()V" } : Jvm.MethodName)) ∈ TB := List.mem_filter.mpr ⟨List.mem_of_getElem? (i := 353) (by decide +kernel), by decide +kernel⟩
theorem k_354 : (Jvm.Cond.instanceMethod ({ cls := "GroupLog$Replica", name := "forgetKept", desc := "()V" } : Jvm.MethodName)) ∈ TB := List.mem_filter.mpr ⟨List.mem_of_getElem? (i := 354) (by decide +kernel), by decide +kernel⟩
theorem k_355 : (Jvm.Cond.selects "GroupLog$Replica" ({ cls := "GroupLog$Replica", name := "forgetKept", desc := "()V" } : Jvm.MethodName) ({ cls := "GroupLog$Replica", name := "forgetKept", desc := "()V" } : Jvm.MethodName)) ∈ TB := List.mem_filter.mpr ⟨List.mem_of_getElem? (i := 355) (by decide +kernel), by decide +kernel⟩
theorem k_356 : (Jvm.Cond.code ({ cls := "GroupLog$Replica", name := "forgetKept", desc := "()V" } : Jvm.MethodName) prog_4_method_6_code (2 : Nat) (Option.none : Option Jvm.ClassFile.FieldType)) ∈ TB := List.mem_filter.mpr ⟨List.mem_of_getElem? (i := 356) (by decide +kernel), by decide +kernel⟩
theorem k_357 : (Jvm.Cond.methodLink "GroupLog" (203 : Nat) ({ cls := "GroupLog", name := "joinChange", desc := "(LGroupLog$Replica;LGroupLog$Message;)Z" } : Jvm.MethodName)) ∈ TB := List.mem_filter.mpr ⟨List.mem_of_getElem? (i := 357) (by decide +kernel), by decide +kernel⟩
theorem k_359 : (Jvm.Cond.instanceMethod ({ cls := "GroupLog", name := "joinChange", desc := "(LGroupLog$Replica;LGroupLog$Message;)Z" } : Jvm.MethodName)) ∈ TB := List.mem_filter.mpr ⟨List.mem_of_getElem? (i := 359) (by decide +kernel), by decide +kernel⟩
theorem k_360 : (Jvm.Cond.code ({ cls := "GroupLog", name := "joinChange", desc := "(LGroupLog$Replica;LGroupLog$Message;)Z" } : Jvm.MethodName) prog_1_method_41_code (3 : Nat) (Option.some Jvm.ClassFile.FieldType.boolean)) ∈ TB := List.mem_filter.mpr ⟨List.mem_of_getElem? (i := 360) (by decide +kernel), by decide +kernel⟩
theorem k_361 : (Jvm.Cond.methodLink "GroupLog" (103 : Nat) ({ cls := "GroupLog", name := "startChanging", desc := "(LGroupLog$Replica;I)V" } : Jvm.MethodName)) ∈ TB := List.mem_filter.mpr ⟨List.mem_of_getElem? (i := 361) (by decide +kernel), by decide +kernel⟩
theorem k_363 : (Jvm.Cond.instanceMethod ({ cls := "GroupLog", name := "startChanging", desc := "(LGroupLog$Replica;I)V" } : Jvm.MethodName)) ∈ TB := List.mem_filter.mpr ⟨List.mem_of_getElem? (i := 363) (by decide +kernel), by decide +kernel⟩
theorem k_364 : (Jvm.Cond.code ({ cls := "GroupLog", name := "startChanging", desc := "(LGroupLog$Replica;I)V" } : Jvm.MethodName) prog_1_method_40_code (3 : Nat) (Option.none : Option Jvm.ClassFile.FieldType)) ∈ TB := List.mem_filter.mpr ⟨List.mem_of_getElem? (i := 364) (by decide +kernel), by decide +kernel⟩
theorem k_365 : (Jvm.Cond.methodLink "GroupLog" (230 : Nat) ({ cls := "GroupLog$Replica", name := "forgetKept", desc := "()V" } : Jvm.MethodName)) ∈ TB := List.mem_filter.mpr ⟨List.mem_of_getElem? (i := 365) (by decide +kernel), by decide +kernel⟩
theorem k_366 : (Jvm.Cond.methodLink "GroupLog" (206 : Nat) ({ cls := "GroupLog", name := "keepVote", desc := "(LGroupLog$Replica;LGroupLog$Message;)V" } : Jvm.MethodName)) ∈ TB := List.mem_filter.mpr ⟨List.mem_of_getElem? (i := 366) (by decide +kernel), by decide +kernel⟩
theorem k_368 : (Jvm.Cond.instanceMethod ({ cls := "GroupLog", name := "keepVote", desc := "(LGroupLog$Replica;LGroupLog$Message;)V" } : Jvm.MethodName)) ∈ TB := List.mem_filter.mpr ⟨List.mem_of_getElem? (i := 368) (by decide +kernel), by decide +kernel⟩
theorem k_369 : (Jvm.Cond.code ({ cls := "GroupLog", name := "keepVote", desc := "(LGroupLog$Replica;LGroupLog$Message;)V" } : Jvm.MethodName) prog_1_method_42_code (4 : Nat) (Option.none : Option Jvm.ClassFile.FieldType)) ∈ TB := List.mem_filter.mpr ⟨List.mem_of_getElem? (i := 369) (by decide +kernel), by decide +kernel⟩
theorem k_370 : (Jvm.Cond.methodLink "GroupLog" (240 : Nat) ({ cls := "GroupLog$Replica", name := "count", desc := "([LGroupLog$Message;)I" } : Jvm.MethodName)) ∈ TB := List.mem_filter.mpr ⟨List.mem_of_getElem? (i := 370) (by decide +kernel), by decide +kernel⟩
theorem k_371 : (Jvm.Cond.static ({ cls := "GroupLog$Replica", name := "count", desc := "([LGroupLog$Message;)I" } : Jvm.MethodName)) ∈ TB := List.mem_filter.mpr ⟨List.mem_of_getElem? (i := 371) (by decide +kernel), by decide +kernel⟩
theorem k_372 : (Jvm.Cond.code ({ cls := "GroupLog$Replica", name := "count", desc := "([LGroupLog$Message;)I" } : Jvm.MethodName) prog_4_method_2_code (3 : Nat) (Option.some Jvm.ClassFile.FieldType.int)) ∈ TB := List.mem_filter.mpr ⟨List.mem_of_getElem? (i := 372) (by decide +kernel), by decide +kernel⟩
theorem k_373 : (Jvm.Cond.methodLink "GroupLog" (209 : Nat) ({ cls := "GroupLog", name := "keepPaper", desc := "(LGroupLog$Replica;LGroupLog$Message;)V" } : Jvm.MethodName)) ∈ TB := List.mem_filter.mpr ⟨List.mem_of_getElem? (i := 373) (by decide +kernel), by decide +kernel⟩
theorem k_375 : (Jvm.Cond.instanceMethod ({ cls := "GroupLog", name := "keepPaper", desc := "(LGroupLog$Replica;LGroupLog$Message;)V" } : Jvm.MethodName)) ∈ TB := List.mem_filter.mpr ⟨List.mem_of_getElem? (i := 375) (by decide +kernel), by decide +kernel⟩
theorem k_376 : (Jvm.Cond.code ({ cls := "GroupLog", name := "keepPaper", desc := "(LGroupLog$Replica;LGroupLog$Message;)V" } : Jvm.MethodName) prog_1_method_43_code (3 : Nat) (Option.none : Option Jvm.ClassFile.FieldType)) ∈ TB := List.mem_filter.mpr ⟨List.mem_of_getElem? (i := 376) (by decide +kernel), by decide +kernel⟩
theorem k_377 : (Jvm.Cond.methodLink "GroupLog" (247 : Nat) ({ cls := "GroupLog$Replica", name := "becomePrimary", desc := "()V" } : Jvm.MethodName)) ∈ TB := List.mem_filter.mpr ⟨List.mem_of_getElem? (i := 377) (by decide +kernel), by decide +kernel⟩
theorem k_378 : (Jvm.Cond.instanceMethod ({ cls := "GroupLog$Replica", name := "becomePrimary", desc := "()V" } : Jvm.MethodName)) ∈ TB := List.mem_filter.mpr ⟨List.mem_of_getElem? (i := 378) (by decide +kernel), by decide +kernel⟩
theorem k_379 : (Jvm.Cond.selects "GroupLog$Replica" ({ cls := "GroupLog$Replica", name := "becomePrimary", desc := "()V" } : Jvm.MethodName) ({ cls := "GroupLog$Replica", name := "becomePrimary", desc := "()V" } : Jvm.MethodName)) ∈ TB := List.mem_filter.mpr ⟨List.mem_of_getElem? (i := 379) (by decide +kernel), by decide +kernel⟩
theorem k_380 : (Jvm.Cond.code ({ cls := "GroupLog$Replica", name := "becomePrimary", desc := "()V" } : Jvm.MethodName) prog_4_method_13_code (7 : Nat) (Option.none : Option Jvm.ClassFile.FieldType)) ∈ TB := List.mem_filter.mpr ⟨List.mem_of_getElem? (i := 380) (by decide +kernel), by decide +kernel⟩
theorem k_381 : (Jvm.Cond.methodLink "GroupLog$Replica" (67 : Nat) ({ cls := "GroupLog$Replica", name := "forgetAcked", desc := "()V" } : Jvm.MethodName)) ∈ TB := List.mem_filter.mpr ⟨List.mem_of_getElem? (i := 381) (by decide +kernel), by decide +kernel⟩
theorem k_382 : (Jvm.Cond.instanceMethod ({ cls := "GroupLog$Replica", name := "forgetAcked", desc := "()V" } : Jvm.MethodName)) ∈ TB := List.mem_filter.mpr ⟨List.mem_of_getElem? (i := 382) (by decide +kernel), by decide +kernel⟩
theorem k_383 : (Jvm.Cond.selects "GroupLog$Replica" ({ cls := "GroupLog$Replica", name := "forgetAcked", desc := "()V" } : Jvm.MethodName) ({ cls := "GroupLog$Replica", name := "forgetAcked", desc := "()V" } : Jvm.MethodName)) ∈ TB := List.mem_filter.mpr ⟨List.mem_of_getElem? (i := 383) (by decide +kernel), by decide +kernel⟩
theorem k_384 : (Jvm.Cond.code ({ cls := "GroupLog$Replica", name := "forgetAcked", desc := "()V" } : Jvm.MethodName) prog_4_method_5_code (2 : Nat) (Option.none : Option Jvm.ClassFile.FieldType)) ∈ TB := List.mem_filter.mpr ⟨List.mem_of_getElem? (i := 384) (by decide +kernel), by decide +kernel⟩
theorem k_385 : (Jvm.Cond.methodLink "GroupLog$Replica" (93 : Nat) ({ cls := "GroupLog$Replica", name := "becomeNormal", desc := "(ILGroupLog$Log;I)V" } : Jvm.MethodName)) ∈ TB := List.mem_filter.mpr ⟨List.mem_of_getElem? (i := 385) (by decide +kernel), by decide +kernel⟩
theorem k_386 : (Jvm.Cond.methodLink "GroupLog" (212 : Nat) ({ cls := "GroupLog", name := "keepResponse", desc := "(LGroupLog$Replica;LGroupLog$Message;)V" } : Jvm.MethodName)) ∈ TB := List.mem_filter.mpr ⟨List.mem_of_getElem? (i := 386) (by decide +kernel), by decide +kernel⟩
theorem k_388 : (Jvm.Cond.instanceMethod ({ cls := "GroupLog", name := "keepResponse", desc := "(LGroupLog$Replica;LGroupLog$Message;)V" } : Jvm.MethodName)) ∈ TB := List.mem_filter.mpr ⟨List.mem_of_getElem? (i := 388) (by decide +kernel), by decide +kernel⟩
theorem k_389 : (Jvm.Cond.code ({ cls := "GroupLog", name := "keepResponse", desc := "(LGroupLog$Replica;LGroupLog$Message;)V" } : Jvm.MethodName) prog_1_method_44_code (5 : Nat) (Option.none : Option Jvm.ClassFile.FieldType)) ∈ TB := List.mem_filter.mpr ⟨List.mem_of_getElem? (i := 389) (by decide +kernel), by decide +kernel⟩
theorem k_390 : (Jvm.Cond.methodLink "GroupLog" (253 : Nat) ({ cls := "GroupLog$Replica", name := "greatestView", desc := "([LGroupLog$Message;)I" } : Jvm.MethodName)) ∈ TB := List.mem_filter.mpr ⟨List.mem_of_getElem? (i := 390) (by decide +kernel), by decide +kernel⟩
theorem k_391 : (Jvm.Cond.static ({ cls := "GroupLog$Replica", name := "greatestView", desc := "([LGroupLog$Message;)I" } : Jvm.MethodName)) ∈ TB := List.mem_filter.mpr ⟨List.mem_of_getElem? (i := 391) (by decide +kernel), by decide +kernel⟩
theorem k_392 : (Jvm.Cond.code ({ cls := "GroupLog$Replica", name := "greatestView", desc := "([LGroupLog$Message;)I" } : Jvm.MethodName) prog_4_method_3_code (3 : Nat) (Option.some Jvm.ClassFile.FieldType.int)) ∈ TB := List.mem_filter.mpr ⟨List.mem_of_getElem? (i := 392) (by decide +kernel), by decide +kernel⟩
theorem k_409 : (Jvm.Cond.methodLink "GroupLog" (106 : Nat) ({ cls := "GroupLog", name := "othersLost", desc := "(LGroupLog$Replica;)I" } : Jvm.MethodName)) ∈ TB := List.mem_filter.mpr ⟨List.mem_of_getElem? (i := 409) (by decide +kernel), by decide +kernel⟩
theorem k_411 : (Jvm.Cond.instanceMethod ({ cls := "GroupLog", name := "othersLost", desc := "(LGroupLog$Replica;)I" } : Jvm.MethodName)) ∈ TB := List.mem_filter.mpr ⟨List.mem_of_getElem? (i := 411) (by decide +kernel), by decide +kernel⟩
theorem k_412 : (Jvm.Cond.code ({ cls := "GroupLog", name := "othersLost", desc := "(LGroupLog$Replica;)I" } : Jvm.MethodName) prog_1_method_27_code (4 : Nat) (Option.some Jvm.ClassFile.FieldType.int)) ∈ TB := List.mem_filter.mpr ⟨List.mem_of_getElem? (i := 412) (by decide +kernel), by decide +kernel⟩
theorem k_413 : (Jvm.Cond.methodLink "GroupLog" (113 : Nat) ({ cls := "GroupLog", name := "isLost", desc := "(LGroupLog$Replica;)Z" } : Jvm.MethodName)) ∈ TB := List.mem_filter.mpr ⟨List.mem_of_getElem? (i := 413) (by decide +kernel), by decide +kernel⟩
theorem k_414 : (Jvm.Cond.static ({ cls := "GroupLog", name := "isLost", desc := "(LGroupLog$Replica;)Z" } : Jvm.MethodName)) ∈ TB := List.mem_filter.mpr ⟨List.mem_of_getElem? (i := 414) (by decide +kernel), by decide +kernel⟩
theorem k_415 : (Jvm.Cond.code ({ cls := "GroupLog", name := "isLost", desc := "(LGroupLog$Replica;)Z" } : Jvm.MethodName) prog_1_method_26_code (1 : Nat) (Option.some Jvm.ClassFile.FieldType.boolean)) ∈ TB := List.mem_filter.mpr ⟨List.mem_of_getElem? (i := 415) (by decide +kernel), by decide +kernel⟩
theorem k_416 : (Jvm.Cond.methodLink "GroupLog" (110 : Nat) ({ cls := "GroupLog$Replica", name := "forgetEverything", desc := "()V" } : Jvm.MethodName)) ∈ TB := List.mem_filter.mpr ⟨List.mem_of_getElem? (i := 416) (by decide +kernel), by decide +kernel⟩
theorem k_417 : (Jvm.Cond.instanceMethod ({ cls := "GroupLog$Replica", name := "forgetEverything", desc := "()V" } : Jvm.MethodName)) ∈ TB := List.mem_filter.mpr ⟨List.mem_of_getElem? (i := 417) (by decide +kernel), by decide +kernel⟩
theorem k_418 : (Jvm.Cond.selects "GroupLog$Replica" ({ cls := "GroupLog$Replica", name := "forgetEverything", desc := "()V" } : Jvm.MethodName) ({ cls := "GroupLog$Replica", name := "forgetEverything", desc := "()V" } : Jvm.MethodName)) ∈ TB := List.mem_filter.mpr ⟨List.mem_of_getElem? (i := 418) (by decide +kernel), by decide +kernel⟩
theorem k_419 : (Jvm.Cond.code ({ cls := "GroupLog$Replica", name := "forgetEverything", desc := "()V" } : Jvm.MethodName) prog_4_method_4_code (1 : Nat) (Option.none : Option Jvm.ClassFile.FieldType)) ∈ TB := List.mem_filter.mpr ⟨List.mem_of_getElem? (i := 419) (by decide +kernel), by decide +kernel⟩
theorem k_444 : (Jvm.Cond.methodLink "GroupLog" (128 : Nat) ({ cls := "GroupLog", name := "hasEntry", desc := "(II)Z" } : Jvm.MethodName)) ∈ TB := List.mem_filter.mpr ⟨List.mem_of_getElem? (i := 444) (by decide +kernel), by decide +kernel⟩
theorem k_446 : (Jvm.Cond.instanceMethod ({ cls := "GroupLog", name := "hasEntry", desc := "(II)Z" } : Jvm.MethodName)) ∈ TB := List.mem_filter.mpr ⟨List.mem_of_getElem? (i := 446) (by decide +kernel), by decide +kernel⟩
theorem k_447 : (Jvm.Cond.code ({ cls := "GroupLog", name := "hasEntry", desc := "(II)Z" } : Jvm.MethodName) prog_1_method_23_code (3 : Nat) (Option.some Jvm.ClassFile.FieldType.boolean)) ∈ TB := List.mem_filter.mpr ⟨List.mem_of_getElem? (i := 447) (by decide +kernel), by decide +kernel⟩
theorem k_484 : (Jvm.Cond.methodLink "GroupLogModel" (1 : Nat) ({ cls := "java/lang/Object", name := "<init>", desc := "()V" } : Jvm.MethodName)) ∈ TB := List.mem_filter.mpr ⟨List.mem_of_getElem? (i := 484) (by decide +kernel), by decide +kernel⟩
theorem k_485 : (Jvm.Cond.fieldLink "GroupLogModel" (99 : Nat) "GroupLogModel" "n" "I") ∈ TB := List.mem_filter.mpr ⟨List.mem_of_getElem? (i := 485) (by decide +kernel), by decide +kernel⟩
theorem k_486 : (Jvm.Cond.fieldLink "GroupLogModel" (102 : Nat) "GroupLogModel" "f" "I") ∈ TB := List.mem_filter.mpr ⟨List.mem_of_getElem? (i := 486) (by decide +kernel), by decide +kernel⟩
theorem k_487 : (Jvm.Cond.fieldLink "GroupLogModel" (7 : Nat) "GroupLogModel" "size" "[I") ∈ TB := List.mem_filter.mpr ⟨List.mem_of_getElem? (i := 487) (by decide +kernel), by decide +kernel⟩
theorem k_488 : (Jvm.Cond.fieldLink "GroupLogModel" (13 : Nat) "GroupLogModel" "client" "[I") ∈ TB := List.mem_filter.mpr ⟨List.mem_of_getElem? (i := 488) (by decide +kernel), by decide +kernel⟩
theorem k_489 : (Jvm.Cond.fieldLink "GroupLogModel" (16 : Nat) "GroupLogModel" "number" "[I") ∈ TB := List.mem_filter.mpr ⟨List.mem_of_getElem? (i := 489) (by decide +kernel), by decide +kernel⟩
theorem k_490 : (Jvm.Cond.fieldLink "GroupLogModel" (19 : Nat) "GroupLogModel" "value" "[I") ∈ TB := List.mem_filter.mpr ⟨List.mem_of_getElem? (i := 490) (by decide +kernel), by decide +kernel⟩
theorem k_491 : (Jvm.Cond.fieldLink "GroupLogModel" (22 : Nat) "GroupLogModel" "status" "[I") ∈ TB := List.mem_filter.mpr ⟨List.mem_of_getElem? (i := 491) (by decide +kernel), by decide +kernel⟩
theorem k_492 : (Jvm.Cond.fieldLink "GroupLogModel" (25 : Nat) "GroupLogModel" "view" "[I") ∈ TB := List.mem_filter.mpr ⟨List.mem_of_getElem? (i := 492) (by decide +kernel), by decide +kernel⟩
theorem k_493 : (Jvm.Cond.fieldLink "GroupLogModel" (28 : Nat) "GroupLogModel" "last" "[I") ∈ TB := List.mem_filter.mpr ⟨List.mem_of_getElem? (i := 493) (by decide +kernel), by decide +kernel⟩
theorem k_494 : (Jvm.Cond.fieldLink "GroupLogModel" (31 : Nat) "GroupLogModel" "commit" "[I") ∈ TB := List.mem_filter.mpr ⟨List.mem_of_getElem? (i := 494) (by decide +kernel), by decide +kernel⟩
theorem k_495 : (Jvm.Cond.fieldLink "GroupLogModel" (34 : Nat) "GroupLogModel" "vector" "[I") ∈ TB := List.mem_filter.mpr ⟨List.mem_of_getElem? (i := 495) (by decide +kernel), by decide +kernel⟩
theorem k_496 : (Jvm.Cond.fieldLink "GroupLogModel" (37 : Nat) "GroupLogModel" "acked" "[I") ∈ TB := List.mem_filter.mpr ⟨List.mem_of_getElem? (i := 496) (by decide +kernel), by decide +kernel⟩
theorem k_497 : (Jvm.Cond.fieldLink "GroupLogModel" (40 : Nat) "GroupLogModel" "paperSent" "[Z") ∈ TB := List.mem_filter.mpr ⟨List.mem_of_getElem? (i := 497) (by decide +kernel), by decide +kernel⟩
theorem k_498 : (Jvm.Cond.fieldLink "GroupLogModel" (44 : Nat) "GroupLogModel" "nonces" "[I") ∈ TB := List.mem_filter.mpr ⟨List.mem_of_getElem? (i := 498) (by decide +kernel), by decide +kernel⟩
theorem k_499 : (Jvm.Cond.fieldLink "GroupLogModel" (47 : Nat) "GroupLogModel" "vote" "[Z") ∈ TB := List.mem_filter.mpr ⟨List.mem_of_getElem? (i := 499) (by decide +kernel), by decide +kernel⟩
theorem k_500 : (Jvm.Cond.fieldLink "GroupLogModel" (50 : Nat) "GroupLogModel" "voteMark" "[I") ∈ TB := List.mem_filter.mpr ⟨List.mem_of_getElem? (i := 500) (by decide +kernel), by decide +kernel⟩
theorem k_501 : (Jvm.Cond.fieldLink "GroupLogModel" (53 : Nat) "GroupLogModel" "sheet" "[Z") ∈ TB := List.mem_filter.mpr ⟨List.mem_of_getElem? (i := 501) (by decide +kernel), by decide +kernel⟩
theorem k_502 : (Jvm.Cond.fieldLink "GroupLogModel" (56 : Nat) "GroupLogModel" "sheetMark" "[I") ∈ TB := List.mem_filter.mpr ⟨List.mem_of_getElem? (i := 502) (by decide +kernel), by decide +kernel⟩
theorem k_503 : (Jvm.Cond.fieldLink "GroupLogModel" (59 : Nat) "GroupLogModel" "sheetView" "[I") ∈ TB := List.mem_filter.mpr ⟨List.mem_of_getElem? (i := 503) (by decide +kernel), by decide +kernel⟩
theorem k_504 : (Jvm.Cond.fieldLink "GroupLogModel" (62 : Nat) "GroupLogModel" "sheetLast" "[I") ∈ TB := List.mem_filter.mpr ⟨List.mem_of_getElem? (i := 504) (by decide +kernel), by decide +kernel⟩
theorem k_505 : (Jvm.Cond.fieldLink "GroupLogModel" (65 : Nat) "GroupLogModel" "sheetCommit" "[I") ∈ TB := List.mem_filter.mpr ⟨List.mem_of_getElem? (i := 505) (by decide +kernel), by decide +kernel⟩
theorem k_506 : (Jvm.Cond.fieldLink "GroupLogModel" (68 : Nat) "GroupLogModel" "from" "[I") ∈ TB := List.mem_filter.mpr ⟨List.mem_of_getElem? (i := 506) (by decide +kernel), by decide +kernel⟩
theorem k_507 : (Jvm.Cond.fieldLink "GroupLogModel" (71 : Nat) "GroupLogModel" "to" "[I") ∈ TB := List.mem_filter.mpr ⟨List.mem_of_getElem? (i := 507) (by decide +kernel), by decide +kernel⟩
theorem k_508 : (Jvm.Cond.fieldLink "GroupLogModel" (74 : Nat) "GroupLogModel" "kind" "[I") ∈ TB := List.mem_filter.mpr ⟨List.mem_of_getElem? (i := 508) (by decide +kernel), by decide +kernel⟩
theorem k_509 : (Jvm.Cond.fieldLink "GroupLogModel" (77 : Nat) "GroupLogModel" "at" "[I") ∈ TB := List.mem_filter.mpr ⟨List.mem_of_getElem? (i := 509) (by decide +kernel), by decide +kernel⟩
theorem k_510 : (Jvm.Cond.fieldLink "GroupLogModel" (80 : Nat) "GroupLogModel" "old" "[I") ∈ TB := List.mem_filter.mpr ⟨List.mem_of_getElem? (i := 510) (by decide +kernel), by decide +kernel⟩
theorem k_511 : (Jvm.Cond.fieldLink "GroupLogModel" (83 : Nat) "GroupLogModel" "done" "[I") ∈ TB := List.mem_filter.mpr ⟨List.mem_of_getElem? (i := 511) (by decide +kernel), by decide +kernel⟩
theorem k_512 : (Jvm.Cond.fieldLink "GroupLogModel" (86 : Nat) "GroupLogModel" "stamp" "[I") ∈ TB := List.mem_filter.mpr ⟨List.mem_of_getElem? (i := 512) (by decide +kernel), by decide +kernel⟩
theorem k_513 : (Jvm.Cond.fieldLink "GroupLogModel" (113 : Nat) "GroupLogModel" "sent" "I") ∈ TB := List.mem_filter.mpr ⟨List.mem_of_getElem? (i := 513) (by decide +kernel), by decide +kernel⟩
theorem k_514 : (Jvm.Cond.fieldLink "GroupLogModel" (89 : Nat) "GroupLogModel" "latest" "I") ∈ TB := List.mem_filter.mpr ⟨List.mem_of_getElem? (i := 514) (by decide +kernel), by decide +kernel⟩
theorem k_515 : (Jvm.Cond.fieldLink "GroupLogModel" (93 : Nat) "GroupLogModel" "replyNumber" "[I") ∈ TB := List.mem_filter.mpr ⟨List.mem_of_getElem? (i := 515) (by decide +kernel), by decide +kernel⟩
theorem k_516 : (Jvm.Cond.fieldLink "GroupLogModel" (96 : Nat) "GroupLogModel" "reply" "[I") ∈ TB := List.mem_filter.mpr ⟨List.mem_of_getElem? (i := 516) (by decide +kernel), by decide +kernel⟩
theorem k_582 : (Jvm.Cond.arrayClass Jvm.ClassFile.FieldType.boolean) ∈ TB := List.mem_filter.mpr ⟨List.mem_of_getElem? (i := 582) (by decide +kernel), by decide +kernel⟩
theorem k_587 : (Jvm.Cond.methodLink "GroupLogModel" (127 : Nat) ({ cls := "GroupLogModel", name := "there", desc := "(I)Z" } : Jvm.MethodName)) ∈ TB := List.mem_filter.mpr ⟨List.mem_of_getElem? (i := 587) (by decide +kernel), by decide +kernel⟩
theorem k_589 : (Jvm.Cond.instanceMethod ({ cls := "GroupLogModel", name := "there", desc := "(I)Z" } : Jvm.MethodName)) ∈ TB := List.mem_filter.mpr ⟨List.mem_of_getElem? (i := 589) (by decide +kernel), by decide +kernel⟩
theorem k_590 : (Jvm.Cond.code ({ cls := "GroupLogModel", name := "there", desc := "(I)Z" } : Jvm.MethodName) prog_6_method_13_code (2 : Nat) (Option.some Jvm.ClassFile.FieldType.boolean)) ∈ TB := List.mem_filter.mpr ⟨List.mem_of_getElem? (i := 590) (by decide +kernel), by decide +kernel⟩
theorem k_591 : (Jvm.Cond.methodLink "GroupLogModel" (131 : Nat) ({ cls := "GroupLogModel", name := "receive", desc := "(I)I" } : Jvm.MethodName)) ∈ TB := List.mem_filter.mpr ⟨List.mem_of_getElem? (i := 591) (by decide +kernel), by decide +kernel⟩
theorem k_593 : (Jvm.Cond.instanceMethod ({ cls := "GroupLogModel", name := "receive", desc := "(I)I" } : Jvm.MethodName)) ∈ TB := List.mem_filter.mpr ⟨List.mem_of_getElem? (i := 593) (by decide +kernel), by decide +kernel⟩
theorem k_594 : (Jvm.Cond.code ({ cls := "GroupLogModel", name := "receive", desc := "(I)I" } : Jvm.MethodName) prog_6_method_16_code (6 : Nat) (Option.some Jvm.ClassFile.FieldType.int)) ∈ TB := List.mem_filter.mpr ⟨List.mem_of_getElem? (i := 594) (by decide +kernel), by decide +kernel⟩
theorem k_595 : (Jvm.Cond.methodLink "GroupLogModel" (116 : Nat) ({ cls := "GroupLogModel", name := "copy", desc := "(II)V" } : Jvm.MethodName)) ∈ TB := List.mem_filter.mpr ⟨List.mem_of_getElem? (i := 595) (by decide +kernel), by decide +kernel⟩
theorem k_597 : (Jvm.Cond.instanceMethod ({ cls := "GroupLogModel", name := "copy", desc := "(II)V" } : Jvm.MethodName)) ∈ TB := List.mem_filter.mpr ⟨List.mem_of_getElem? (i := 597) (by decide +kernel), by decide +kernel⟩
theorem k_598 : (Jvm.Cond.code ({ cls := "GroupLogModel", name := "copy", desc := "(II)V" } : Jvm.MethodName) prog_6_method_2_code (4 : Nat) (Option.none : Option Jvm.ClassFile.FieldType)) ∈ TB := List.mem_filter.mpr ⟨List.mem_of_getElem? (i := 598) (by decide +kernel), by decide +kernel⟩
theorem k_599 : (Jvm.Cond.methodLink "GroupLogModel" (135 : Nat) ({ cls := "GroupLogModel", name := "learn", desc := "(I)V" } : Jvm.MethodName)) ∈ TB := List.mem_filter.mpr ⟨List.mem_of_getElem? (i := 599) (by decide +kernel), by decide +kernel⟩
theorem k_601 : (Jvm.Cond.instanceMethod ({ cls := "GroupLogModel", name := "learn", desc := "(I)V" } : Jvm.MethodName)) ∈ TB := List.mem_filter.mpr ⟨List.mem_of_getElem? (i := 601) (by decide +kernel), by decide +kernel⟩
theorem k_602 : (Jvm.Cond.code ({ cls := "GroupLogModel", name := "learn", desc := "(I)V" } : Jvm.MethodName) prog_6_method_17_code (4 : Nat) (Option.none : Option Jvm.ClassFile.FieldType)) ∈ TB := List.mem_filter.mpr ⟨List.mem_of_getElem? (i := 602) (by decide +kernel), by decide +kernel⟩
theorem k_603 : (Jvm.Cond.methodLink "GroupLogModel" (138 : Nat) ({ cls := "GroupLogModel", name := "act", desc := "(II)V" } : Jvm.MethodName)) ∈ TB := List.mem_filter.mpr ⟨List.mem_of_getElem? (i := 603) (by decide +kernel), by decide +kernel⟩
theorem k_605 : (Jvm.Cond.instanceMethod ({ cls := "GroupLogModel", name := "act", desc := "(II)V" } : Jvm.MethodName)) ∈ TB := List.mem_filter.mpr ⟨List.mem_of_getElem? (i := 605) (by decide +kernel), by decide +kernel⟩
theorem k_606 : (Jvm.Cond.code ({ cls := "GroupLogModel", name := "act", desc := "(II)V" } : Jvm.MethodName) prog_6_method_18_code (3 : Nat) (Option.none : Option Jvm.ClassFile.FieldType)) ∈ TB := List.mem_filter.mpr ⟨List.mem_of_getElem? (i := 606) (by decide +kernel), by decide +kernel⟩
theorem k_607 : (Jvm.Cond.methodLink "GroupLogModel" (141 : Nat) ({ cls := "GroupLogModel", name := "prepare", desc := "(II)V" } : Jvm.MethodName)) ∈ TB := List.mem_filter.mpr ⟨List.mem_of_getElem? (i := 607) (by decide +kernel), by decide +kernel⟩
theorem k_609 : (Jvm.Cond.instanceMethod ({ cls := "GroupLogModel", name := "prepare", desc := "(II)V" } : Jvm.MethodName)) ∈ TB := List.mem_filter.mpr ⟨List.mem_of_getElem? (i := 609) (by decide +kernel), by decide +kernel⟩
theorem k_610 : (Jvm.Cond.code ({ cls := "GroupLogModel", name := "prepare", desc := "(II)V" } : Jvm.MethodName) prog_6_method_19_code (5 : Nat) (Option.none : Option Jvm.ClassFile.FieldType)) ∈ TB := List.mem_filter.mpr ⟨List.mem_of_getElem? (i := 610) (by decide +kernel), by decide +kernel⟩
theorem k_611 : (Jvm.Cond.methodLink "GroupLogModel" (120 : Nat) ({ cls := "GroupLogModel", name := "send", desc := "(III)V" } : Jvm.MethodName)) ∈ TB := List.mem_filter.mpr ⟨List.mem_of_getElem? (i := 611) (by decide +kernel), by decide +kernel⟩
theorem k_613 : (Jvm.Cond.instanceMethod ({ cls := "GroupLogModel", name := "send", desc := "(III)V" } : Jvm.MethodName)) ∈ TB := List.mem_filter.mpr ⟨List.mem_of_getElem? (i := 613) (by decide +kernel), by decide +kernel⟩
theorem k_614 : (Jvm.Cond.code ({ cls := "GroupLogModel", name := "send", desc := "(III)V" } : Jvm.MethodName) prog_6_method_10_code (6 : Nat) (Option.none : Option Jvm.ClassFile.FieldType)) ∈ TB := List.mem_filter.mpr ⟨List.mem_of_getElem? (i := 614) (by decide +kernel), by decide +kernel⟩
theorem k_615 : (Jvm.Cond.methodLink "GroupLogModel" (159 : Nat) ({ cls := "GroupLogModel", name := "append", desc := "(IIII)V" } : Jvm.MethodName)) ∈ TB := List.mem_filter.mpr ⟨List.mem_of_getElem? (i := 615) (by decide +kernel), by decide +kernel⟩
theorem k_617 : (Jvm.Cond.instanceMethod ({ cls := "GroupLogModel", name := "append", desc := "(IIII)V" } : Jvm.MethodName)) ∈ TB := List.mem_filter.mpr ⟨List.mem_of_getElem? (i := 617) (by decide +kernel), by decide +kernel⟩
theorem k_618 : (Jvm.Cond.code ({ cls := "GroupLogModel", name := "append", desc := "(IIII)V" } : Jvm.MethodName) prog_6_method_3_code (6 : Nat) (Option.none : Option Jvm.ClassFile.FieldType)) ∈ TB := List.mem_filter.mpr ⟨List.mem_of_getElem? (i := 618) (by decide +kernel), by decide +kernel⟩
theorem k_619 : (Jvm.Cond.methodLink "GroupLogModel" (144 : Nat) ({ cls := "GroupLogModel", name := "ok", desc := "(II)V" } : Jvm.MethodName)) ∈ TB := List.mem_filter.mpr ⟨List.mem_of_getElem? (i := 619) (by decide +kernel), by decide +kernel⟩
theorem k_621 : (Jvm.Cond.instanceMethod ({ cls := "GroupLogModel", name := "ok", desc := "(II)V" } : Jvm.MethodName)) ∈ TB := List.mem_filter.mpr ⟨List.mem_of_getElem? (i := 621) (by decide +kernel), by decide +kernel⟩
theorem k_622 : (Jvm.Cond.code ({ cls := "GroupLogModel", name := "ok", desc := "(II)V" } : Jvm.MethodName) prog_6_method_20_code (8 : Nat) (Option.none : Option Jvm.ClassFile.FieldType)) ∈ TB := List.mem_filter.mpr ⟨List.mem_of_getElem? (i := 622) (by decide +kernel), by decide +kernel⟩
theorem k_623 : (Jvm.Cond.methodLink "GroupLogModel" (163 : Nat) ({ cls := "GroupLogModel", name := "leads", desc := "(I)Z" } : Jvm.MethodName)) ∈ TB := List.mem_filter.mpr ⟨List.mem_of_getElem? (i := 623) (by decide +kernel), by decide +kernel⟩
theorem k_625 : (Jvm.Cond.instanceMethod ({ cls := "GroupLogModel", name := "leads", desc := "(I)Z" } : Jvm.MethodName)) ∈ TB := List.mem_filter.mpr ⟨List.mem_of_getElem? (i := 625) (by decide +kernel), by decide +kernel⟩
theorem k_626 : (Jvm.Cond.code ({ cls := "GroupLogModel", name := "leads", desc := "(I)Z" } : Jvm.MethodName) prog_6_method_7_code (2 : Nat) (Option.some Jvm.ClassFile.FieldType.boolean)) ∈ TB := List.mem_filter.mpr ⟨List.mem_of_getElem? (i := 626) (by decide +kernel), by decide +kernel⟩
theorem k_627 : (Jvm.Cond.methodLink "GroupLogModel" (166 : Nat) ({ cls := "GroupLogModel", name := "answerTo", desc := "(II)V" } : Jvm.MethodName)) ∈ TB := List.mem_filter.mpr ⟨List.mem_of_getElem? (i := 627) (by decide +kernel), by decide +kernel⟩
theorem k_629 : (Jvm.Cond.instanceMethod ({ cls := "GroupLogModel", name := "answerTo", desc := "(II)V" } : Jvm.MethodName)) ∈ TB := List.mem_filter.mpr ⟨List.mem_of_getElem? (i := 629) (by decide +kernel), by decide +kernel⟩
theorem k_630 : (Jvm.Cond.code ({ cls := "GroupLogModel", name := "answerTo", desc := "(II)V" } : Jvm.MethodName) prog_6_method_5_code (4 : Nat) (Option.none : Option Jvm.ClassFile.FieldType)) ∈ TB := List.mem_filter.mpr ⟨List.mem_of_getElem? (i := 630) (by decide +kernel), by decide +kernel⟩
theorem k_631 : (Jvm.Cond.methodLink "GroupLogModel" (105 : Nat) ({ cls := "GroupLogModel", name := "sum", desc := "(II)I" } : Jvm.MethodName)) ∈ TB := List.mem_filter.mpr ⟨List.mem_of_getElem? (i := 631) (by decide +kernel), by decide +kernel⟩
theorem k_633 : (Jvm.Cond.instanceMethod ({ cls := "GroupLogModel", name := "sum", desc := "(II)I" } : Jvm.MethodName)) ∈ TB := List.mem_filter.mpr ⟨List.mem_of_getElem? (i := 633) (by decide +kernel), by decide +kernel⟩
theorem k_634 : (Jvm.Cond.code ({ cls := "GroupLogModel", name := "sum", desc := "(II)I" } : Jvm.MethodName) prog_6_method_4_code (5 : Nat) (Option.some Jvm.ClassFile.FieldType.int)) ∈ TB := List.mem_filter.mpr ⟨List.mem_of_getElem? (i := 634) (by decide +kernel), by decide +kernel⟩
theorem k_635 : (Jvm.Cond.methodLink "GroupLogModel" (147 : Nat) ({ cls := "GroupLogModel", name := "state", desc := "(I)V" } : Jvm.MethodName)) ∈ TB := List.mem_filter.mpr ⟨List.mem_of_getElem? (i := 635) (by decide +kernel), by decide +kernel⟩
theorem k_637 : (Jvm.Cond.instanceMethod ({ cls := "GroupLogModel", name := "state", desc := "(I)V" } : Jvm.MethodName)) ∈ TB := List.mem_filter.mpr ⟨List.mem_of_getElem? (i := 637) (by decide +kernel), by decide +kernel⟩
theorem k_638 : (Jvm.Cond.code ({ cls := "GroupLogModel", name := "state", desc := "(I)V" } : Jvm.MethodName) prog_6_method_21_code (4 : Nat) (Option.none : Option Jvm.ClassFile.FieldType)) ∈ TB := List.mem_filter.mpr ⟨List.mem_of_getElem? (i := 638) (by decide +kernel), by decide +kernel⟩
theorem k_639 : (Jvm.Cond.methodLink "GroupLogModel" (109 : Nat) ({ cls := "GroupLogModel", name := "forget", desc := "(I)V" } : Jvm.MethodName)) ∈ TB := List.mem_filter.mpr ⟨List.mem_of_getElem? (i := 639) (by decide +kernel), by decide +kernel⟩
theorem k_641 : (Jvm.Cond.instanceMethod ({ cls := "GroupLogModel", name := "forget", desc := "(I)V" } : Jvm.MethodName)) ∈ TB := List.mem_filter.mpr ⟨List.mem_of_getElem? (i := 641) (by decide +kernel), by decide +kernel⟩
theorem k_642 : (Jvm.Cond.code ({ cls := "GroupLogModel", name := "forget", desc := "(I)V" } : Jvm.MethodName) prog_6_method_8_code (3 : Nat) (Option.none : Option Jvm.ClassFile.FieldType)) ∈ TB := List.mem_filter.mpr ⟨List.mem_of_getElem? (i := 642) (by decide +kernel), by decide +kernel⟩
theorem k_643 : (Jvm.Cond.methodLink "GroupLogModel" (150 : Nat) ({ cls := "GroupLogModel", name := "change", desc := "(II)V" } : Jvm.MethodName)) ∈ TB := List.mem_filter.mpr ⟨List.mem_of_getElem? (i := 643) (by decide +kernel), by decide +kernel⟩
theorem k_645 : (Jvm.Cond.instanceMethod ({ cls := "GroupLogModel", name := "change", desc := "(II)V" } : Jvm.MethodName)) ∈ TB := List.mem_filter.mpr ⟨List.mem_of_getElem? (i := 645) (by decide +kernel), by decide +kernel⟩
theorem k_646 : (Jvm.Cond.code ({ cls := "GroupLogModel", name := "change", desc := "(II)V" } : Jvm.MethodName) prog_6_method_22_code (6 : Nat) (Option.none : Option Jvm.ClassFile.FieldType)) ∈ TB := List.mem_filter.mpr ⟨List.mem_of_getElem? (i := 646) (by decide +kernel), by decide +kernel⟩
theorem k_647 : (Jvm.Cond.methodLink "GroupLogModel" (169 : Nat) ({ cls := "GroupLogModel", name := "start", desc := "(II)V" } : Jvm.MethodName)) ∈ TB := List.mem_filter.mpr ⟨List.mem_of_getElem? (i := 647) (by decide +kernel), by decide +kernel⟩
theorem k_649 : (Jvm.Cond.instanceMethod ({ cls := "GroupLogModel", name := "start", desc := "(II)V" } : Jvm.MethodName)) ∈ TB := List.mem_filter.mpr ⟨List.mem_of_getElem? (i := 649) (by decide +kernel), by decide +kernel⟩
theorem k_650 : (Jvm.Cond.code ({ cls := "GroupLogModel", name := "start", desc := "(II)V" } : Jvm.MethodName) prog_6_method_12_code (3 : Nat) (Option.none : Option Jvm.ClassFile.FieldType)) ∈ TB := List.mem_filter.mpr ⟨List.mem_of_getElem? (i := 650) (by decide +kernel), by decide +kernel⟩
theorem k_651 : (Jvm.Cond.methodLink "GroupLogModel" (124 : Nat) ({ cls := "GroupLogModel", name := "sendAll", desc := "(II)V" } : Jvm.MethodName)) ∈ TB := List.mem_filter.mpr ⟨List.mem_of_getElem? (i := 651) (by decide +kernel), by decide +kernel⟩
theorem k_653 : (Jvm.Cond.instanceMethod ({ cls := "GroupLogModel", name := "sendAll", desc := "(II)V" } : Jvm.MethodName)) ∈ TB := List.mem_filter.mpr ⟨List.mem_of_getElem? (i := 653) (by decide +kernel), by decide +kernel⟩
theorem k_654 : (Jvm.Cond.code ({ cls := "GroupLogModel", name := "sendAll", desc := "(II)V" } : Jvm.MethodName) prog_6_method_11_code (4 : Nat) (Option.none : Option Jvm.ClassFile.FieldType)) ∈ TB := List.mem_filter.mpr ⟨List.mem_of_getElem? (i := 654) (by decide +kernel), by decide +kernel⟩
theorem k_655 : (Jvm.Cond.methodLink "GroupLogModel" (153 : Nat) ({ cls := "GroupLogModel", name := "paper", desc := "(II)V" } : Jvm.MethodName)) ∈ TB := List.mem_filter.mpr ⟨List.mem_of_getElem? (i := 655) (by decide +kernel), by decide +kernel⟩
theorem k_657 : (Jvm.Cond.instanceMethod ({ cls := "GroupLogModel", name := "paper", desc := "(II)V" } : Jvm.MethodName)) ∈ TB := List.mem_filter.mpr ⟨List.mem_of_getElem? (i := 657) (by decide +kernel), by decide +kernel⟩
theorem k_658 : (Jvm.Cond.code ({ cls := "GroupLogModel", name := "paper", desc := "(II)V" } : Jvm.MethodName) prog_6_method_24_code (8 : Nat) (Option.none : Option Jvm.ClassFile.FieldType)) ∈ TB := List.mem_filter.mpr ⟨List.mem_of_getElem? (i := 658) (by decide +kernel), by decide +kernel⟩
theorem k_659 : (Jvm.Cond.methodLink "GroupLogModel" (172 : Nat) ({ cls := "GroupLogModel", name := "keep", desc := "(II)I" } : Jvm.MethodName)) ∈ TB := List.mem_filter.mpr ⟨List.mem_of_getElem? (i := 659) (by decide +kernel), by decide +kernel⟩
theorem k_661 : (Jvm.Cond.instanceMethod ({ cls := "GroupLogModel", name := "keep", desc := "(II)I" } : Jvm.MethodName)) ∈ TB := List.mem_filter.mpr ⟨List.mem_of_getElem? (i := 661) (by decide +kernel), by decide +kernel⟩
theorem k_662 : (Jvm.Cond.code ({ cls := "GroupLogModel", name := "keep", desc := "(II)I" } : Jvm.MethodName) prog_6_method_23_code (6 : Nat) (Option.some Jvm.ClassFile.FieldType.int)) ∈ TB := List.mem_filter.mpr ⟨List.mem_of_getElem? (i := 662) (by decide +kernel), by decide +kernel⟩
theorem k_663 : (Jvm.Cond.methodLink "GroupLogModel" (156 : Nat) ({ cls := "GroupLogModel", name := "response", desc := "(II)V" } : Jvm.MethodName)) ∈ TB := List.mem_filter.mpr ⟨List.mem_of_getElem? (i := 663) (by decide +kernel), by decide +kernel⟩
theorem k_665 : (Jvm.Cond.instanceMethod ({ cls := "GroupLogModel", name := "response", desc := "(II)V" } : Jvm.MethodName)) ∈ TB := List.mem_filter.mpr ⟨List.mem_of_getElem? (i := 665) (by decide +kernel), by decide +kernel⟩
theorem k_666 : (Jvm.Cond.code ({ cls := "GroupLogModel", name := "response", desc := "(II)V" } : Jvm.MethodName) prog_6_method_25_code (5 : Nat) (Option.none : Option Jvm.ClassFile.FieldType)) ∈ TB := List.mem_filter.mpr ⟨List.mem_of_getElem? (i := 666) (by decide +kernel), by decide +kernel⟩
theorem k_675 : (Jvm.Cond.methodLink "GroupLogModel" (175 : Nat) ({ cls := "GroupLogModel", name := "isReplica", desc := "(I)Z" } : Jvm.MethodName)) ∈ TB := List.mem_filter.mpr ⟨List.mem_of_getElem? (i := 675) (by decide +kernel), by decide +kernel⟩
theorem k_677 : (Jvm.Cond.instanceMethod ({ cls := "GroupLogModel", name := "isReplica", desc := "(I)Z" } : Jvm.MethodName)) ∈ TB := List.mem_filter.mpr ⟨List.mem_of_getElem? (i := 677) (by decide +kernel), by decide +kernel⟩
theorem k_678 : (Jvm.Cond.code ({ cls := "GroupLogModel", name := "isReplica", desc := "(I)Z" } : Jvm.MethodName) prog_6_method_6_code (2 : Nat) (Option.some Jvm.ClassFile.FieldType.boolean)) ∈ TB := List.mem_filter.mpr ⟨List.mem_of_getElem? (i := 678) (by decide +kernel), by decide +kernel⟩
theorem k_691 : (Jvm.Cond.methodLink "GroupLogModel" (178 : Nat) ({ cls := "GroupLogModel", name := "fresh", desc := "(I)V" } : Jvm.MethodName)) ∈ TB := List.mem_filter.mpr ⟨List.mem_of_getElem? (i := 691) (by decide +kernel), by decide +kernel⟩
theorem k_693 : (Jvm.Cond.instanceMethod ({ cls := "GroupLogModel", name := "fresh", desc := "(I)V" } : Jvm.MethodName)) ∈ TB := List.mem_filter.mpr ⟨List.mem_of_getElem? (i := 693) (by decide +kernel), by decide +kernel⟩
theorem k_694 : (Jvm.Cond.code ({ cls := "GroupLogModel", name := "fresh", desc := "(I)V" } : Jvm.MethodName) prog_6_method_9_code (3 : Nat) (Option.none : Option Jvm.ClassFile.FieldType)) ∈ TB := List.mem_filter.mpr ⟨List.mem_of_getElem? (i := 694) (by decide +kernel), by decide +kernel⟩
