def RX0 : String := "ToolPlex$Ask"
def TX0 : u_T := fun k => match k with
  | 0 => ("ToolPlex$Ask", "kind", "I", true)
  | 1 => ("ToolPlex$Ask", "file", "I", true)
  | 2 => ("ToolPlex$Ask", "letter", "I", true)
  | 3 => ("ToolPlex$Ask", "standing", "I", false)
  | _ => ("ToolPlex$Ask", "items", "LToolPlex$Items;", false)
def tyX0 : Nat → FieldType := fun k => match k with
  | 0 => .int
  | 1 => .int
  | 2 => .int
  | 3 => .int
  | _ => .object "ToolPlex$Items"
theorem nmX0 : ∀ a, a < 5 → ∀ b, b < 5 → a ≠ b → (TX0 a).2.1 ≠ (TX0 b).2.1 := by decide +kernel
theorem tyX0_ok : ∀ k, k < 5 → parseFieldDescriptor (TX0 k).2.2.1 = some (tyX0 k) := by decide +kernel
abbrev cX0_init : ByteArray := prog_2_method_1_code
def yX0_init : MethodName := ⟨RX0, "<init>", "(III)V"⟩
def RX1 : String := "ToolPlex$Channel"
def TX1 : u_T := fun k => match k with
  | _ => ("ToolPlex$Channel", "messages", "Ljava/util/ArrayList;", true)
def tyX1 : Nat → FieldType := fun k => match k with
  | _ => .object "java/util/ArrayList"
theorem nmX1 : ∀ a, a < 1 → ∀ b, b < 1 → a ≠ b → (TX1 a).2.1 ≠ (TX1 b).2.1 := by decide +kernel
theorem tyX1_ok : ∀ k, k < 1 → parseFieldDescriptor (TX1 k).2.2.1 = some (tyX1 k) := by decide +kernel
abbrev cX1_init : ByteArray := prog_3_method_1_code
def yX1_init : MethodName := ⟨RX1, "<init>", "()V"⟩
abbrev cX1_size : ByteArray := prog_3_method_2_code
def yX1_size : MethodName := ⟨RX1, "size", "()I"⟩
abbrev cX1_send : ByteArray := prog_3_method_3_code
def yX1_send : MethodName := ⟨RX1, "send", "(LToolPlex$Message;)V"⟩
abbrev cX1_takeFirst : ByteArray := prog_3_method_4_code
def yX1_takeFirst : MethodName := ⟨RX1, "takeFirst", "()LToolPlex$Message;"⟩
abbrev cX1_lose : ByteArray := prog_3_method_5_code
def yX1_lose : MethodName := ⟨RX1, "lose", "()I"⟩
def RX2 : String := "ToolPlex$Copy"
def TX2 : u_T := fun k => match k with
  | 0 => ("ToolPlex$Copy", "text", "LToolPlex$Text;", true)
  | 1 => ("ToolPlex$Copy", "first", "LToolPlex$Text;", true)
  | 2 => ("ToolPlex$Copy", "changes", "[I", false)
  | 3 => ("ToolPlex$Copy", "made", "I", false)
  | 4 => ("ToolPlex$Copy", "version", "I", false)
  | 5 => ("ToolPlex$Copy", "opened", "I", false)
  | _ => ("ToolPlex$Copy", "editor", "I", false)
def tyX2 : Nat → FieldType := fun k => match k with
  | 0 => .object "ToolPlex$Text"
  | 1 => .object "ToolPlex$Text"
  | 2 => .array .int
  | 3 => .int
  | 4 => .int
  | 5 => .int
  | _ => .int
theorem nmX2 : ∀ a, a < 7 → ∀ b, b < 7 → a ≠ b → (TX2 a).2.1 ≠ (TX2 b).2.1 := by decide +kernel
theorem tyX2_ok : ∀ k, k < 7 → parseFieldDescriptor (TX2 k).2.2.1 = some (tyX2 k) := by decide +kernel
abbrev cX2_init : ByteArray := prog_4_method_1_code
def yX2_init : MethodName := ⟨RX2, "<init>", "()V"⟩
abbrev cX2_isHere : ByteArray := prog_4_method_2_code
def yX2_isHere : MethodName := ⟨RX2, "isHere", "()Z"⟩
abbrev cX2_begin : ByteArray := prog_4_method_3_code
def yX2_begin : MethodName := ⟨RX2, "begin", "(ILToolPlex$Text;I)V"⟩
abbrev cX2_end : ByteArray := prog_4_method_4_code
def yX2_end : MethodName := ⟨RX2, "end", "()V"⟩
abbrev cX2_alter : ByteArray := prog_4_method_5_code
def yX2_alter : MethodName := ⟨RX2, "alter", "(LToolPlex$Message;)V"⟩
abbrev cX2_moveAlong : ByteArray := prog_4_method_6_code
def yX2_moveAlong : MethodName := ⟨RX2, "moveAlong", "(LToolPlex$Items;I)V"⟩
abbrev cX2_moveOn : ByteArray := prog_4_method_7_code
def yX2_moveOn : MethodName := ⟨RX2, "moveOn", "(LToolPlex$Items;)V"⟩
abbrev cX2_placeAfter : ByteArray := prog_4_method_8_code
def yX2_placeAfter : MethodName := ⟨RX2, "placeAfter", "(I)I"⟩
abbrev cX2_agreesWith : ByteArray := prog_4_method_9_code
def yX2_agreesWith : MethodName := ⟨RX2, "agreesWith", "(LToolPlex$Copy;LToolPlex$Text;)Z"⟩
def RX3 : String := "ToolPlex$Editor"
def TX3 : u_T := fun k => match k with
  | 0 => ("ToolPlex$Editor", "number", "I", true)
  | 1 => ("ToolPlex$Editor", "files", "LToolPlex$Files;", true)
  | 2 => ("ToolPlex$Editor", "out", "LToolPlex$Channel;", true)
  | 3 => ("ToolPlex$Editor", "copies", "[LToolPlex$Copy;", true)
  | 4 => ("ToolPlex$Editor", "nothing", "LToolPlex$Copy;", true)
  | 5 => ("ToolPlex$Editor", "faults", "[LToolPlex$Items;", true)
  | 6 => ("ToolPlex$Editor", "noFaults", "LToolPlex$Items;", true)
  | _ => ("ToolPlex$Editor", "asks", "Ljava/util/ArrayList;", true)
def tyX3 : Nat → FieldType := fun k => match k with
  | 0 => .int
  | 1 => .object "ToolPlex$Files"
  | 2 => .object "ToolPlex$Channel"
  | 3 => .array (.object "ToolPlex$Copy")
  | 4 => .object "ToolPlex$Copy"
  | 5 => .array (.object "ToolPlex$Items")
  | 6 => .object "ToolPlex$Items"
  | _ => .object "java/util/ArrayList"
theorem nmX3 : ∀ a, a < 8 → ∀ b, b < 8 → a ≠ b → (TX3 a).2.1 ≠ (TX3 b).2.1 := by decide +kernel
theorem tyX3_ok : ∀ k, k < 8 → parseFieldDescriptor (TX3 k).2.2.1 = some (tyX3 k) := by decide +kernel
abbrev cX3_init : ByteArray := prog_5_method_1_code
def yX3_init : MethodName := ⟨RX3, "<init>", "(ILToolPlex$Files;LToolPlex$Channel;)V"⟩
abbrev cX3_copyOf : ByteArray := prog_5_method_2_code
def yX3_copyOf : MethodName := ⟨RX3, "copyOf", "(I)LToolPlex$Copy;"⟩
abbrev cX3_faultsOf : ByteArray := prog_5_method_3_code
def yX3_faultsOf : MethodName := ⟨RX3, "faultsOf", "(I)LToolPlex$Items;"⟩
abbrev cX3_askAt : ByteArray := prog_5_method_4_code
def yX3_askAt : MethodName := ⟨RX3, "askAt", "(I)LToolPlex$Ask;"⟩
abbrev cX3_asked : ByteArray := prog_5_method_5_code
def yX3_asked : MethodName := ⟨RX3, "asked", "()I"⟩
abbrev cX3_send : ByteArray := prog_5_method_6_code
def yX3_send : MethodName := ⟨RX3, "send", "(LToolPlex$Message;I)V"⟩
abbrev cX3_begin : ByteArray := prog_5_method_7_code
def yX3_begin : MethodName := ⟨RX3, "begin", "(I)I"⟩
abbrev cX3_finish : ByteArray := prog_5_method_8_code
def yX3_finish : MethodName := ⟨RX3, "finish", "(I)V"⟩
abbrev cX3_alter : ByteArray := prog_5_method_9_code
def yX3_alter : MethodName := ⟨RX3, "alter", "(LToolPlex$Message;)I"⟩
abbrev cX3_replaceSpan : ByteArray := prog_5_method_10_code
def yX3_replaceSpan : MethodName := ⟨RX3, "replaceSpan", "(IIII)V"⟩
abbrev cX3_ask : ByteArray := prog_5_method_11_code
def yX3_ask : MethodName := ⟨RX3, "ask", "(LToolPlex$Message;)I"⟩
abbrev cX3_withdraw : ByteArray := prog_5_method_12_code
def yX3_withdraw : MethodName := ⟨RX3, "withdraw", "(ILToolPlex$Ask;)V"⟩
abbrev cX3_canApply : ByteArray := prog_5_method_13_code
def yX3_canApply : MethodName := ⟨RX3, "canApply", "(LToolPlex$Ask;)Z"⟩
abbrev cX3_applyRename : ByteArray := prog_5_method_14_code
def yX3_applyRename : MethodName := ⟨RX3, "applyRename", "(LToolPlex$Ask;)I"⟩
abbrev cX3_applyExtract : ByteArray := prog_5_method_15_code
def yX3_applyExtract : MethodName := ⟨RX3, "applyExtract", "(LToolPlex$Ask;)I"⟩
abbrev cX3_takeAnswer : ByteArray := prog_5_method_16_code
def yX3_takeAnswer : MethodName := ⟨RX3, "takeAnswer", "(LToolPlex$Message;)V"⟩
abbrev cX3_isLate : ByteArray := prog_5_method_17_code
def yX3_isLate : MethodName := ⟨RX3, "isLate", "(LToolPlex$Copy;I)Z"⟩
abbrev cX3_isCurrent : ByteArray := prog_5_method_18_code
def yX3_isCurrent : MethodName := ⟨RX3, "isCurrent", "(LToolPlex$Copy;ILToolPlex$Message;)Z"⟩
abbrev cX3_takeFaults : ByteArray := prog_5_method_19_code
def yX3_takeFaults : MethodName := ⟨RX3, "takeFaults", "(LToolPlex$Message;)V"⟩
abbrev cX3_tell : ByteArray := prog_5_method_20_code
def yX3_tell : MethodName := ⟨RX3, "tell", "(LToolPlex$Items;I)I"⟩
abbrev cX3_tokenNumber : ByteArray := prog_5_method_21_code
def yX3_tokenNumber : MethodName := ⟨RX3, "tokenNumber", "(LToolPlex$Ask;I)I"⟩
def RX4 : String := "ToolPlex$Files"
def TX4 : u_T := fun k => match k with
  | 0 => ("ToolPlex$Files", "names", "[C", true)
  | 1 => ("ToolPlex$Files", "languages", "[I", true)
  | 2 => ("ToolPlex$Files", "versions", "[I", true)
  | 3 => ("ToolPlex$Files", "holders", "[I", true)
  | 4 => ("ToolPlex$Files", "texts", "[LToolPlex$Text;", true)
  | 5 => ("ToolPlex$Files", "nothing", "LToolPlex$Text;", true)
  | _ => ("ToolPlex$Files", "count", "I", false)
def tyX4 : Nat → FieldType := fun k => match k with
  | 0 => .array .char
  | 1 => .array .int
  | 2 => .array .int
  | 3 => .array .int
  | 4 => .array (.object "ToolPlex$Text")
  | 5 => .object "ToolPlex$Text"
  | _ => .int
theorem nmX4 : ∀ a, a < 7 → ∀ b, b < 7 → a ≠ b → (TX4 a).2.1 ≠ (TX4 b).2.1 := by decide +kernel
theorem tyX4_ok : ∀ k, k < 7 → parseFieldDescriptor (TX4 k).2.2.1 = some (tyX4 k) := by decide +kernel
abbrev cX4_init : ByteArray := prog_6_method_1_code
def yX4_init : MethodName := ⟨RX4, "<init>", "()V"⟩
abbrev cX4_size : ByteArray := prog_6_method_2_code
def yX4_size : MethodName := ⟨RX4, "size", "()I"⟩
abbrev cX4_has : ByteArray := prog_6_method_3_code
def yX4_has : MethodName := ⟨RX4, "has", "(I)Z"⟩
abbrev cX4_isFull : ByteArray := prog_6_method_4_code
def yX4_isFull : MethodName := ⟨RX4, "isFull", "()Z"⟩
abbrev cX4_named : ByteArray := prog_6_method_5_code
def yX4_named : MethodName := ⟨RX4, "named", "(I)I"⟩
abbrev cX4_add : ByteArray := prog_6_method_6_code
def yX4_add : MethodName := ⟨RX4, "add", "(II)I"⟩
abbrev cX4_nameOf : ByteArray := prog_6_method_7_code
def yX4_nameOf : MethodName := ⟨RX4, "nameOf", "(I)C"⟩
abbrev cX4_rename : ByteArray := prog_6_method_8_code
def yX4_rename : MethodName := ⟨RX4, "rename", "(II)V"⟩
abbrev cX4_languageOf : ByteArray := prog_6_method_9_code
def yX4_languageOf : MethodName := ⟨RX4, "languageOf", "(I)I"⟩
abbrev cX4_versionOf : ByteArray := prog_6_method_10_code
def yX4_versionOf : MethodName := ⟨RX4, "versionOf", "(I)I"⟩
abbrev cX4_setVersion : ByteArray := prog_6_method_11_code
def yX4_setVersion : MethodName := ⟨RX4, "setVersion", "(II)V"⟩
abbrev cX4_holderOf : ByteArray := prog_6_method_12_code
def yX4_holderOf : MethodName := ⟨RX4, "holderOf", "(I)I"⟩
abbrev cX4_setHolder : ByteArray := prog_6_method_13_code
def yX4_setHolder : MethodName := ⟨RX4, "setHolder", "(II)V"⟩
abbrev cX4_isAnyHeld : ByteArray := prog_6_method_14_code
def yX4_isAnyHeld : MethodName := ⟨RX4, "isAnyHeld", "()Z"⟩
abbrev cX4_textOf : ByteArray := prog_6_method_15_code
def yX4_textOf : MethodName := ⟨RX4, "textOf", "(I)LToolPlex$Text;"⟩
def RX5 : String := "ToolPlex$Items"
def TX5 : u_T := fun k => match k with
  | 0 => ("ToolPlex$Items", "cells", "[I", false)
  | _ => ("ToolPlex$Items", "count", "I", false)
def tyX5 : Nat → FieldType := fun k => match k with
  | 0 => .array .int
  | _ => .int
theorem nmX5 : ∀ a, a < 2 → ∀ b, b < 2 → a ≠ b → (TX5 a).2.1 ≠ (TX5 b).2.1 := by decide +kernel
theorem tyX5_ok : ∀ k, k < 2 → parseFieldDescriptor (TX5 k).2.2.1 = some (tyX5 k) := by decide +kernel
abbrev cX5_init : ByteArray := prog_7_method_1_code
def yX5_init : MethodName := ⟨RX5, "<init>", "()V"⟩
abbrev cX5_size : ByteArray := prog_7_method_2_code
def yX5_size : MethodName := ⟨RX5, "size", "()I"⟩
abbrev cX5_clear : ByteArray := prog_7_method_3_code
def yX5_clear : MethodName := ⟨RX5, "clear", "()V"⟩
abbrev cX5_cell : ByteArray := prog_7_method_4_code
def yX5_cell : MethodName := ⟨RX5, "cell", "(II)I"⟩
abbrev cX5_fileAt : ByteArray := prog_7_method_5_code
def yX5_fileAt : MethodName := ⟨RX5, "fileAt", "(I)I"⟩
abbrev cX5_startAt : ByteArray := prog_7_method_6_code
def yX5_startAt : MethodName := ⟨RX5, "startAt", "(I)I"⟩
abbrev cX5_endAt : ByteArray := prog_7_method_7_code
def yX5_endAt : MethodName := ⟨RX5, "endAt", "(I)I"⟩
abbrev cX5_valueAt : ByteArray := prog_7_method_8_code
def yX5_valueAt : MethodName := ⟨RX5, "valueAt", "(I)I"⟩
abbrev cX5_add : ByteArray := prog_7_method_9_code
def yX5_add : MethodName := ⟨RX5, "add", "(IIII)V"⟩
abbrev cX5_insert : ByteArray := prog_7_method_10_code
def yX5_insert : MethodName := ⟨RX5, "insert", "(IIIII)V"⟩
abbrev cX5_insertSpan : ByteArray := prog_7_method_11_code
def yX5_insertSpan : MethodName := ⟨RX5, "insertSpan", "(IIII)V"⟩
abbrev cX5_insertApart : ByteArray := prog_7_method_12_code
def yX5_insertApart : MethodName := ⟨RX5, "insertApart", "(IIII)V"⟩
abbrev cX5_insertRun : ByteArray := prog_7_method_13_code
def yX5_insertRun : MethodName := ⟨RX5, "insertRun", "(LToolPlex$Text;III)V"⟩
abbrev cX5_move : ByteArray := prog_7_method_14_code
def yX5_move : MethodName := ⟨RX5, "move", "(III)V"⟩
abbrev cX5_isIn : ByteArray := prog_7_method_15_code
def yX5_isIn : MethodName := ⟨RX5, "isIn", "(I)Z"⟩
abbrev cX5_takeAll : ByteArray := prog_7_method_16_code
def yX5_takeAll : MethodName := ⟨RX5, "takeAll", "(LToolPlex$Items;)V"⟩
abbrev cX5_copied : ByteArray := prog_7_method_17_code
def yX5_copied : MethodName := ⟨RX5, "copied", "()LToolPlex$Items;"⟩
def RX6 : String := "ToolPlex$Message"
def TX6 : u_T := fun k => match k with
  | 0 => ("ToolPlex$Message", "kind", "I", true)
  | 1 => ("ToolPlex$Message", "file", "I", true)
  | 2 => ("ToolPlex$Message", "editor", "I", false)
  | 3 => ("ToolPlex$Message", "number", "I", false)
  | 4 => ("ToolPlex$Message", "asked", "I", false)
  | 5 => ("ToolPlex$Message", "version", "I", false)
  | 6 => ("ToolPlex$Message", "line", "I", false)
  | 7 => ("ToolPlex$Message", "unit", "I", false)
  | 8 => ("ToolPlex$Message", "toLine", "I", false)
  | 9 => ("ToolPlex$Message", "toUnit", "I", false)
  | 10 => ("ToolPlex$Message", "code", "I", false)
  | 11 => ("ToolPlex$Message", "id", "I", false)
  | 12 => ("ToolPlex$Message", "place", "I", false)
  | 13 => ("ToolPlex$Message", "standing", "I", false)
  | 14 => ("ToolPlex$Message", "text", "LToolPlex$Text;", false)
  | 15 => ("ToolPlex$Message", "items", "LToolPlex$Items;", false)
  | _ => ("ToolPlex$Message", "versions", "[I", false)
def tyX6 : Nat → FieldType := fun k => match k with
  | 0 => .int
  | 1 => .int
  | 2 => .int
  | 3 => .int
  | 4 => .int
  | 5 => .int
  | 6 => .int
  | 7 => .int
  | 8 => .int
  | 9 => .int
  | 10 => .int
  | 11 => .int
  | 12 => .int
  | 13 => .int
  | 14 => .object "ToolPlex$Text"
  | 15 => .object "ToolPlex$Items"
  | _ => .array .int
theorem nmX6 : ∀ a, a < 17 → ∀ b, b < 17 → a ≠ b → (TX6 a).2.1 ≠ (TX6 b).2.1 := by decide +kernel
theorem tyX6_ok : ∀ k, k < 17 → parseFieldDescriptor (TX6 k).2.2.1 = some (tyX6 k) := by decide +kernel
abbrev cX6_init : ByteArray := prog_8_method_1_code
def yX6_init : MethodName := ⟨RX6, "<init>", "(II)V"⟩
abbrev cX6_versionOf : ByteArray := prog_8_method_2_code
def yX6_versionOf : MethodName := ⟨RX6, "versionOf", "(I)I"⟩
def RX7 : String := "ToolPlex$Multiplexer"
def TX7 : u_T := fun k => match k with
  | 0 => ("ToolPlex$Multiplexer", "files", "LToolPlex$Files;", true)
  | 1 => ("ToolPlex$Multiplexer", "servers", "Ljava/util/ArrayList;", true)
  | 2 => ("ToolPlex$Multiplexer", "channels", "[LToolPlex$Channel;", true)
  | 3 => ("ToolPlex$Multiplexer", "copies", "[LToolPlex$Copy;", true)
  | 4 => ("ToolPlex$Multiplexer", "nothing", "LToolPlex$Copy;", true)
  | 5 => ("ToolPlex$Multiplexer", "taken", "[I", true)
  | 6 => ("ToolPlex$Multiplexer", "faults", "[LToolPlex$Items;", true)
  | 7 => ("ToolPlex$Multiplexer", "pending", "Ljava/util/ArrayList;", true)
  | 8 => ("ToolPlex$Multiplexer", "ids", "[I", true)
  | 9 => ("ToolPlex$Multiplexer", "nextId", "I", false)
  | 10 => ("ToolPlex$Multiplexer", "merged", "LToolPlex$Items;", true)
  | _ => ("ToolPlex$Multiplexer", "nowhere", "LToolPlex$Channel;", true)
def tyX7 : Nat → FieldType := fun k => match k with
  | 0 => .object "ToolPlex$Files"
  | 1 => .object "java/util/ArrayList"
  | 2 => .array (.object "ToolPlex$Channel")
  | 3 => .array (.object "ToolPlex$Copy")
  | 4 => .object "ToolPlex$Copy"
  | 5 => .array .int
  | 6 => .array (.object "ToolPlex$Items")
  | 7 => .object "java/util/ArrayList"
  | 8 => .array .int
  | 9 => .int
  | 10 => .object "ToolPlex$Items"
  | _ => .object "ToolPlex$Channel"
theorem nmX7 : ∀ a, a < 12 → ∀ b, b < 12 → a ≠ b → (TX7 a).2.1 ≠ (TX7 b).2.1 := by decide +kernel
theorem tyX7_ok : ∀ k, k < 12 → parseFieldDescriptor (TX7 k).2.2.1 = some (tyX7 k) := by decide +kernel
abbrev cX7_init : ByteArray := prog_9_method_1_code
def yX7_init : MethodName := ⟨RX7, "<init>", "(LToolPlex$Files;Ljava/util/ArrayList;[LToolPlex$Channel;)V"⟩
abbrev cX7_copyOf : ByteArray := prog_9_method_2_code
def yX7_copyOf : MethodName := ⟨RX7, "copyOf", "(I)LToolPlex$Copy;"⟩
abbrev cX7_hasCopies : ByteArray := prog_9_method_3_code
def yX7_hasCopies : MethodName := ⟨RX7, "hasCopies", "()Z"⟩
abbrev cX7_idCell : ByteArray := prog_9_method_4_code
def yX7_idCell : MethodName := ⟨RX7, "idCell", "(III)I"⟩
abbrev cX7_idOf : ByteArray := prog_9_method_5_code
def yX7_idOf : MethodName := ⟨RX7, "idOf", "(III)I"⟩
abbrev cX7_channelAt : ByteArray := prog_9_method_6_code
def yX7_channelAt : MethodName := ⟨RX7, "channelAt", "(I)LToolPlex$Channel;"⟩
abbrev cX7_takeFromEditor : ByteArray := prog_9_method_7_code
def yX7_takeFromEditor : MethodName := ⟨RX7, "takeFromEditor", "(LToolPlex$Message;)V"⟩
abbrev cX7_takeOpen : ByteArray := prog_9_method_8_code
def yX7_takeOpen : MethodName := ⟨RX7, "takeOpen", "(LToolPlex$Message;)V"⟩
abbrev cX7_takeChange : ByteArray := prog_9_method_9_code
def yX7_takeChange : MethodName := ⟨RX7, "takeChange", "(LToolPlex$Message;)V"⟩
abbrev cX7_takeClose : ByteArray := prog_9_method_10_code
def yX7_takeClose : MethodName := ⟨RX7, "takeClose", "(LToolPlex$Message;)V"⟩
abbrev cX7_dropFaults : ByteArray := prog_9_method_11_code
def yX7_dropFaults : MethodName := ⟨RX7, "dropFaults", "(I)V"⟩
abbrev cX7_passOn : ByteArray := prog_9_method_12_code
def yX7_passOn : MethodName := ⟨RX7, "passOn", "(LToolPlex$Message;)V"⟩
abbrev cX7_takeRequest : ByteArray := prog_9_method_13_code
def yX7_takeRequest : MethodName := ⟨RX7, "takeRequest", "(LToolPlex$Message;)V"⟩
abbrev cX7_askServer : ByteArray := prog_9_method_14_code
def yX7_askServer : MethodName := ⟨RX7, "askServer", "(LToolPlex$Pending;I)V"⟩
abbrev cX7_takeCancel : ByteArray := prog_9_method_15_code
def yX7_takeCancel : MethodName := ⟨RX7, "takeCancel", "(LToolPlex$Message;)V"⟩
abbrev cX7_dismiss : ByteArray := prog_9_method_16_code
def yX7_dismiss : MethodName := ⟨RX7, "dismiss", "(I)V"⟩
abbrev cX7_reply : ByteArray := prog_9_method_17_code
def yX7_reply : MethodName := ⟨RX7, "reply", "(LToolPlex$Message;I)LToolPlex$Message;"⟩
abbrev cX7_completedBy : ByteArray := prog_9_method_18_code
def yX7_completedBy : MethodName := ⟨RX7, "completedBy", "(ILToolPlex$Message;)LToolPlex$Pending;"⟩
abbrev cX7_miss : ByteArray := prog_9_method_19_code
def yX7_miss : MethodName := ⟨RX7, "miss", "(I)V"⟩
abbrev cX7_giveCopies : ByteArray := prog_9_method_20_code
def yX7_giveCopies : MethodName := ⟨RX7, "giveCopies", "(ILToolPlex$Server;)I"⟩
abbrev cX7_settle : ByteArray := prog_9_method_21_code
def yX7_settle : MethodName := ⟨RX7, "settle", "(LToolPlex$Pending;)V"⟩
abbrev cX7_mergeMoved : ByteArray := prog_9_method_22_code
def yX7_mergeMoved : MethodName := ⟨RX7, "mergeMoved", "(LToolPlex$Pending;LToolPlex$Copy;)V"⟩
abbrev cX7_mergeRuns : ByteArray := prog_9_method_23_code
def yX7_mergeRuns : MethodName := ⟨RX7, "mergeRuns", "(LToolPlex$Pending;LToolPlex$Text;)V"⟩
abbrev cX7_mergeLowest : ByteArray := prog_9_method_24_code
def yX7_mergeLowest : MethodName := ⟨RX7, "mergeLowest", "(LToolPlex$Pending;)Z"⟩
abbrev cX7_isCurrent : ByteArray := prog_9_method_25_code
def yX7_isCurrent : MethodName := ⟨RX7, "isCurrent", "(LToolPlex$Message;)Z"⟩
abbrev cX7_takeFaults : ByteArray := prog_9_method_26_code
def yX7_takeFaults : MethodName := ⟨RX7, "takeFaults", "(ILToolPlex$Message;)V"⟩
def RX8 : String := "ToolPlex$Pending"
def TX8 : u_T := fun k => match k with
  | 0 => ("ToolPlex$Pending", "question", "LToolPlex$Message;", true)
  | 1 => ("ToolPlex$Pending", "waits", "[Z", true)
  | _ => ("ToolPlex$Pending", "answers", "[LToolPlex$Message;", true)
def tyX8 : Nat → FieldType := fun k => match k with
  | 0 => .object "ToolPlex$Message"
  | 1 => .array .boolean
  | _ => .array (.object "ToolPlex$Message")
theorem nmX8 : ∀ a, a < 3 → ∀ b, b < 3 → a ≠ b → (TX8 a).2.1 ≠ (TX8 b).2.1 := by decide +kernel
theorem tyX8_ok : ∀ k, k < 3 → parseFieldDescriptor (TX8 k).2.2.1 = some (tyX8 k) := by decide +kernel
abbrev cX8_init : ByteArray := prog_10_method_1_code
def yX8_init : MethodName := ⟨RX8, "<init>", "(LToolPlex$Message;)V"⟩
abbrev cX8_waitsFor : ByteArray := prog_10_method_2_code
def yX8_waitsFor : MethodName := ⟨RX8, "waitsFor", "(I)Z"⟩
abbrev cX8_waitFor : ByteArray := prog_10_method_3_code
def yX8_waitFor : MethodName := ⟨RX8, "waitFor", "(I)V"⟩
abbrev cX8_note : ByteArray := prog_10_method_4_code
def yX8_note : MethodName := ⟨RX8, "note", "(ILToolPlex$Message;)V"⟩
abbrev cX8_isComplete : ByteArray := prog_10_method_5_code
def yX8_isComplete : MethodName := ⟨RX8, "isComplete", "()Z"⟩
abbrev cX8_answerOf : ByteArray := prog_10_method_6_code
def yX8_answerOf : MethodName := ⟨RX8, "answerOf", "(I)LToolPlex$Message;"⟩
def RX9 : String := "ToolPlex$Server"
def TX9 : u_T := fun k => match k with
  | 0 => ("ToolPlex$Server", "kinds", "I", true)
  | 1 => ("ToolPlex$Server", "languages", "I", true)
  | 2 => ("ToolPlex$Server", "style", "I", true)
  | 3 => ("ToolPlex$Server", "files", "LToolPlex$Files;", true)
  | 4 => ("ToolPlex$Server", "copies", "[LToolPlex$Copy;", true)
  | 5 => ("ToolPlex$Server", "nothing", "LToolPlex$Copy;", true)
  | 6 => ("ToolPlex$Server", "questions", "Ljava/util/ArrayList;", true)
  | 7 => ("ToolPlex$Server", "found", "LToolPlex$Items;", true)
  | _ => ("ToolPlex$Server", "up", "Z", false)
def tyX9 : Nat → FieldType := fun k => match k with
  | 0 => .int
  | 1 => .int
  | 2 => .int
  | 3 => .object "ToolPlex$Files"
  | 4 => .array (.object "ToolPlex$Copy")
  | 5 => .object "ToolPlex$Copy"
  | 6 => .object "java/util/ArrayList"
  | 7 => .object "ToolPlex$Items"
  | _ => .boolean
theorem nmX9 : ∀ a, a < 9 → ∀ b, b < 9 → a ≠ b → (TX9 a).2.1 ≠ (TX9 b).2.1 := by decide +kernel
theorem tyX9_ok : ∀ k, k < 9 → parseFieldDescriptor (TX9 k).2.2.1 = some (tyX9 k) := by decide +kernel
abbrev cX9_init : ByteArray := prog_11_method_1_code
def yX9_init : MethodName := ⟨RX9, "<init>", "(IIILToolPlex$Files;)V"⟩
abbrev cX9_copyOf : ByteArray := prog_11_method_2_code
def yX9_copyOf : MethodName := ⟨RX9, "copyOf", "(I)LToolPlex$Copy;"⟩
abbrev cX9_requests : ByteArray := prog_11_method_3_code
def yX9_requests : MethodName := ⟨RX9, "requests", "()I"⟩
abbrev cX9_speaks : ByteArray := prog_11_method_4_code
def yX9_speaks : MethodName := ⟨RX9, "speaks", "(I)Z"⟩
abbrev cX9_does : ByteArray := prog_11_method_5_code
def yX9_does : MethodName := ⟨RX9, "does", "(I)Z"⟩
abbrev cX9_fall : ByteArray := prog_11_method_6_code
def yX9_fall : MethodName := ⟨RX9, "fall", "()V"⟩
abbrev cX9_take : ByteArray := prog_11_method_7_code
def yX9_take : MethodName := ⟨RX9, "take", "(LToolPlex$Message;)V"⟩
abbrev cX9_takeChange : ByteArray := prog_11_method_8_code
def yX9_takeChange : MethodName := ⟨RX9, "takeChange", "(LToolPlex$Copy;LToolPlex$Message;)V"⟩
abbrev cX9_forget : ByteArray := prog_11_method_9_code
def yX9_forget : MethodName := ⟨RX9, "forget", "(I)V"⟩
abbrev cX9_answerTo : ByteArray := prog_11_method_10_code
def yX9_answerTo : MethodName := ⟨RX9, "answerTo", "(I)LToolPlex$Message;"⟩
abbrev cX9_find : ByteArray := prog_11_method_11_code
def yX9_find : MethodName := ⟨RX9, "find", "(LToolPlex$Message;LToolPlex$Text;)V"⟩
abbrev cX9_keepOne : ByteArray := prog_11_method_12_code
def yX9_keepOne : MethodName := ⟨RX9, "keepOne", "(IIII)V"⟩
abbrev cX9_findLonger : ByteArray := prog_11_method_13_code
def yX9_findLonger : MethodName := ⟨RX9, "findLonger", "(ILToolPlex$Text;II)V"⟩
abbrev cX9_findAll : ByteArray := prog_11_method_14_code
def yX9_findAll : MethodName := ⟨RX9, "findAll", "(ILToolPlex$Text;)V"⟩
abbrev cX9_findAlike : ByteArray := prog_11_method_15_code
def yX9_findAlike : MethodName := ⟨RX9, "findAlike", "(ILToolPlex$Text;LToolPlex$Text;II)V"⟩
abbrev cX9_findEverywhere : ByteArray := prog_11_method_16_code
def yX9_findEverywhere : MethodName := ⟨RX9, "findEverywhere", "(LToolPlex$Text;II)V"⟩
abbrev cX9_faultsOf : ByteArray := prog_11_method_17_code
def yX9_faultsOf : MethodName := ⟨RX9, "faultsOf", "(I)LToolPlex$Message;"⟩
def RX10 : String := "ToolPlex$Text"
def TX10 : u_T := fun k => match k with
  | 0 => ("ToolPlex$Text", "units", "[C", true)
  | _ => ("ToolPlex$Text", "length", "I", false)
def tyX10 : Nat → FieldType := fun k => match k with
  | 0 => .array .char
  | _ => .int
theorem nmX10 : ∀ a, a < 2 → ∀ b, b < 2 → a ≠ b → (TX10 a).2.1 ≠ (TX10 b).2.1 := by decide +kernel
theorem tyX10_ok : ∀ k, k < 2 → parseFieldDescriptor (TX10 k).2.2.1 = some (tyX10 k) := by decide +kernel
abbrev cX10_init : ByteArray := prog_12_method_1_code
def yX10_init : MethodName := ⟨RX10, "<init>", "()V"⟩
abbrev cX10_isLetter : ByteArray := prog_12_method_2_code
def yX10_isLetter : MethodName := ⟨RX10, "isLetter", "(I)Z"⟩
abbrev cX10_isDigit : ByteArray := prog_12_method_3_code
def yX10_isDigit : MethodName := ⟨RX10, "isDigit", "(I)Z"⟩
abbrev cX10_isFace : ByteArray := prog_12_method_4_code
def yX10_isFace : MethodName := ⟨RX10, "isFace", "(I)Z"⟩
abbrev cX10_isCharacter : ByteArray := prog_12_method_5_code
def yX10_isCharacter : MethodName := ⟨RX10, "isCharacter", "(I)Z"⟩
abbrev cX10_unitsOf : ByteArray := prog_12_method_6_code
def yX10_unitsOf : MethodName := ⟨RX10, "unitsOf", "(I)I"⟩
abbrev cX10_size : ByteArray := prog_12_method_7_code
def yX10_size : MethodName := ⟨RX10, "size", "()I"⟩
abbrev cX10_at : ByteArray := prog_12_method_8_code
def yX10_at : MethodName := ⟨RX10, "at", "(I)I"⟩
abbrev cX10_takeAll : ByteArray := prog_12_method_9_code
def yX10_takeAll : MethodName := ⟨RX10, "takeAll", "(LToolPlex$Text;)V"⟩
abbrev cX10_takePart : ByteArray := prog_12_method_10_code
def yX10_takePart : MethodName := ⟨RX10, "takePart", "(LToolPlex$Text;II)V"⟩
abbrev cX10_canReplace : ByteArray := prog_12_method_11_code
def yX10_canReplace : MethodName := ⟨RX10, "canReplace", "(III)Z"⟩
abbrev cX10_replace : ByteArray := prog_12_method_12_code
def yX10_replace : MethodName := ⟨RX10, "replace", "(III)V"⟩
abbrev cX10_isSame : ByteArray := prog_12_method_13_code
def yX10_isSame : MethodName := ⟨RX10, "isSame", "(LToolPlex$Text;)Z"⟩
abbrev cX10_placeOf : ByteArray := prog_12_method_14_code
def yX10_placeOf : MethodName := ⟨RX10, "placeOf", "(II)I"⟩
abbrev cX10_lineOf : ByteArray := prog_12_method_15_code
def yX10_lineOf : MethodName := ⟨RX10, "lineOf", "(I)I"⟩
abbrev cX10_lineStart : ByteArray := prog_12_method_16_code
def yX10_lineStart : MethodName := ⟨RX10, "lineStart", "(I)I"⟩
abbrev cX10_lineEnd : ByteArray := prog_12_method_17_code
def yX10_lineEnd : MethodName := ⟨RX10, "lineEnd", "(I)I"⟩
abbrev cX10_sortAt : ByteArray := prog_12_method_18_code
def yX10_sortAt : MethodName := ⟨RX10, "sortAt", "(I)I"⟩
abbrev cX10_tokenValue : ByteArray := prog_12_method_19_code
def yX10_tokenValue : MethodName := ⟨RX10, "tokenValue", "(I)I"⟩
abbrev cX10_nextRun : ByteArray := prog_12_method_20_code
def yX10_nextRun : MethodName := ⟨RX10, "nextRun", "(II)I"⟩
abbrev cX10_runEnd : ByteArray := prog_12_method_21_code
def yX10_runEnd : MethodName := ⟨RX10, "runEnd", "(I)I"⟩
abbrev cX10_runAt : ByteArray := prog_12_method_22_code
def yX10_runAt : MethodName := ⟨RX10, "runAt", "(II)I"⟩
abbrev cX10_alike : ByteArray := prog_12_method_23_code
def yX10_alike : MethodName := ⟨RX10, "alike", "(IILToolPlex$Text;II)Z"⟩
abbrev cX10_compareRuns : ByteArray := prog_12_method_24_code
def yX10_compareRuns : MethodName := ⟨RX10, "compareRuns", "(IIII)I"⟩
def RX11 : String := "ToolPlex"
def TX11 : u_T := fun k => match k with
  | 0 => ("ToolPlex", "files", "LToolPlex$Files;", true)
  | 1 => ("ToolPlex", "channels", "[LToolPlex$Channel;", true)
  | 2 => ("ToolPlex", "editors", "[LToolPlex$Editor;", true)
  | 3 => ("ToolPlex", "servers", "Ljava/util/ArrayList;", true)
  | 4 => ("ToolPlex", "multiplexer", "LToolPlex$Multiplexer;", true)
  | _ => ("ToolPlex", "scratch", "LToolPlex$Text;", true)
def tyX11 : Nat → FieldType := fun k => match k with
  | 0 => .object "ToolPlex$Files"
  | 1 => .array (.object "ToolPlex$Channel")
  | 2 => .array (.object "ToolPlex$Editor")
  | 3 => .object "java/util/ArrayList"
  | 4 => .object "ToolPlex$Multiplexer"
  | _ => .object "ToolPlex$Text"
theorem nmX11 : ∀ a, a < 6 → ∀ b, b < 6 → a ≠ b → (TX11 a).2.1 ≠ (TX11 b).2.1 := by decide +kernel
theorem tyX11_ok : ∀ k, k < 6 → parseFieldDescriptor (TX11 k).2.2.1 = some (tyX11 k) := by decide +kernel
abbrev cX11_init : ByteArray := prog_1_method_1_code
def yX11_init : MethodName := ⟨RX11, "<init>", "()V"⟩
abbrev cX11_file : ByteArray := prog_1_method_2_code
def yX11_file : MethodName := ⟨RX11, "file", "(II)I"⟩
abbrev cX11_store : ByteArray := prog_1_method_3_code
def yX11_store : MethodName := ⟨RX11, "store", "(II)I"⟩
abbrev cX11_server : ByteArray := prog_1_method_4_code
def yX11_server : MethodName := ⟨RX11, "server", "(III)I"⟩
abbrev cX11_name : ByteArray := prog_1_method_5_code
def yX11_name : MethodName := ⟨RX11, "name", "(I)C"⟩
abbrev cX11_open : ByteArray := prog_1_method_6_code
def yX11_open : MethodName := ⟨RX11, "open", "(II)I"⟩
abbrev cX11_close : ByteArray := prog_1_method_7_code
def yX11_close : MethodName := ⟨RX11, "close", "(II)V"⟩
abbrev cX11_change : ByteArray := prog_1_method_8_code
def yX11_change : MethodName := ⟨RX11, "change", "(IIIIIII)I"⟩
abbrev cX11_request : ByteArray := prog_1_method_9_code
def yX11_request : MethodName := ⟨RX11, "request", "(IIIIII)I"⟩
abbrev cX11_cancel : ByteArray := prog_1_method_10_code
def yX11_cancel : MethodName := ⟨RX11, "cancel", "(II)V"⟩
abbrev cX11_apply : ByteArray := prog_1_method_11_code
def yX11_apply : MethodName := ⟨RX11, "apply", "(II)I"⟩
abbrev cX11_answer : ByteArray := prog_1_method_12_code
def yX11_answer : MethodName := ⟨RX11, "answer", "(II)I"⟩
abbrev cX11_tellFaults : ByteArray := prog_1_method_13_code
def yX11_tellFaults : MethodName := ⟨RX11, "tellFaults", "(II)I"⟩
abbrev cX11_crash : ByteArray := prog_1_method_14_code
def yX11_crash : MethodName := ⟨RX11, "crash", "(I)I"⟩
abbrev cX11_start : ByteArray := prog_1_method_15_code
def yX11_start : MethodName := ⟨RX11, "start", "(I)I"⟩
abbrev cX11_deliver : ByteArray := prog_1_method_16_code
def yX11_deliver : MethodName := ⟨RX11, "deliver", "(I)I"⟩
abbrev cX11_deliverAll : ByteArray := prog_1_method_17_code
def yX11_deliverAll : MethodName := ⟨RX11, "deliverAll", "()I"⟩
abbrev cX11_waiting : ByteArray := prog_1_method_18_code
def yX11_waiting : MethodName := ⟨RX11, "waiting", "(I)I"⟩
abbrev cX11_version : ByteArray := prog_1_method_19_code
def yX11_version : MethodName := ⟨RX11, "version", "(II)I"⟩
abbrev cX11_unit : ByteArray := prog_1_method_20_code
def yX11_unit : MethodName := ⟨RX11, "unit", "(III)C"⟩
abbrev cX11_agree : ByteArray := prog_1_method_21_code
def yX11_agree : MethodName := ⟨RX11, "agree", "(I)Z"⟩
abbrev cX11_standing : ByteArray := prog_1_method_22_code
def yX11_standing : MethodName := ⟨RX11, "standing", "(II)I"⟩
abbrev cX11_item : ByteArray := prog_1_method_23_code
def yX11_item : MethodName := ⟨RX11, "item", "(III)I"⟩
abbrev cX11_value : ByteArray := prog_1_method_24_code
def yX11_value : MethodName := ⟨RX11, "value", "(III)I"⟩
abbrev cX11_token : ByteArray := prog_1_method_25_code
def yX11_token : MethodName := ⟨RX11, "token", "(III)I"⟩
abbrev cX11_id : ByteArray := prog_1_method_26_code
def yX11_id : MethodName := ⟨RX11, "id", "(III)I"⟩
abbrev cX11_faults : ByteArray := prog_1_method_27_code
def yX11_faults : MethodName := ⟨RX11, "faults", "(II)I"⟩
abbrev cX11_fault : ByteArray := prog_1_method_28_code
def yX11_fault : MethodName := ⟨RX11, "fault", "(III)I"⟩
abbrev cX11_editorAt : ByteArray := prog_1_method_29_code
def yX11_editorAt : MethodName := ⟨RX11, "editorAt", "(I)LToolPlex$Editor;"⟩
abbrev cX11_serverAt : ByteArray := prog_1_method_30_code
def yX11_serverAt : MethodName := ⟨RX11, "serverAt", "(I)LToolPlex$Server;"⟩
abbrev cX11_askAt : ByteArray := prog_1_method_31_code
def yX11_askAt : MethodName := ⟨RX11, "askAt", "(LToolPlex$Editor;I)LToolPlex$Ask;"⟩
abbrev cX11_copyFor : ByteArray := prog_1_method_32_code
def yX11_copyFor : MethodName := ⟨RX11, "copyFor", "(II)LToolPlex$Copy;"⟩
abbrev cX11_checkFile : ByteArray := prog_1_method_33_code
def yX11_checkFile : MethodName := ⟨RX11, "checkFile", "(I)V"⟩
abbrev cX11_checkChannel : ByteArray := prog_1_method_34_code
def yX11_checkChannel : MethodName := ⟨RX11, "checkChannel", "(I)V"⟩
abbrev cX11_checkItem : ByteArray := prog_1_method_35_code
def yX11_checkItem : MethodName := ⟨RX11, "checkItem", "(LToolPlex$Ask;I)V"⟩
abbrev cX11_checkCode : ByteArray := prog_1_method_36_code
def yX11_checkCode : MethodName := ⟨RX11, "checkCode", "(I)V"⟩
abbrev cX11_checkPosition : ByteArray := prog_1_method_37_code
def yX11_checkPosition : MethodName := ⟨RX11, "checkPosition", "(II)V"⟩
abbrev cX11_checkOpen : ByteArray := prog_1_method_38_code
def yX11_checkOpen : MethodName := ⟨RX11, "checkOpen", "(LToolPlex$Editor;I)V"⟩
abbrev cX11_isEdit : ByteArray := prog_1_method_39_code
def yX11_isEdit : MethodName := ⟨RX11, "isEdit", "(I)Z"⟩
abbrev cX11_isMoved : ByteArray := prog_1_method_40_code
def yX11_isMoved : MethodName := ⟨RX11, "isMoved", "(I)Z"⟩
abbrev cX11_send : ByteArray := prog_1_method_41_code
def yX11_send : MethodName := ⟨RX11, "send", "(ILToolPlex$Message;)V"⟩
abbrev cX11_lose : ByteArray := prog_1_method_42_code
def yX11_lose : MethodName := ⟨RX11, "lose", "(I)I"⟩
abbrev cX11_held : ByteArray := prog_1_method_43_code
def yX11_held : MethodName := ⟨RX11, "held", "(I)I"⟩
abbrev cX11_lowestChannel : ByteArray := prog_1_method_44_code
def yX11_lowestChannel : MethodName := ⟨RX11, "lowestChannel", "()I"⟩
abbrev cX11_pass : ByteArray := prog_1_method_45_code
def yX11_pass : MethodName := ⟨RX11, "pass", "(I)I"⟩
abbrev cX11_passToEditor : ByteArray := prog_1_method_46_code
def yX11_passToEditor : MethodName := ⟨RX11, "passToEditor", "(ILToolPlex$Message;)V"⟩
abbrev cX11_versionsOf : ByteArray := prog_1_method_47_code
def yX11_versionsOf : MethodName := ⟨RX11, "versionsOf", "([LToolPlex$Copy;)[I"⟩
def RX12 : String := "ToolPlexModel"
def TX12 : u_T := fun k => match k with
  | _ => ("", "", "", false)
def tyX12 : Nat → FieldType := fun k => match k with
  | _ => .int
theorem nmX12 : ∀ a, a < 0 → ∀ b, b < 0 → a ≠ b → (TX12 a).2.1 ≠ (TX12 b).2.1 := by decide +kernel
theorem tyX12_ok : ∀ k, k < 0 → parseFieldDescriptor (TX12 k).2.2.1 = some (tyX12 k) := by decide +kernel
def RJx145de : String := "java/io/Serializable"
def TJx145de : u_T := fun k => match k with
  | _ => ("", "", "", false)
def tyJx145de : Nat → FieldType := fun k => match k with
  | _ => .int
theorem nmJx145de : ∀ a, a < 0 → ∀ b, b < 0 → a ≠ b → (TJx145de a).2.1 ≠ (TJx145de b).2.1 := by decide +kernel
theorem tyJx145de_ok : ∀ k, k < 0 → parseFieldDescriptor (TJx145de k).2.2.1 = some (tyJx145de k) := by decide +kernel
def RJx8e188 : String := "java/lang/Cloneable"
def TJx8e188 : u_T := fun k => match k with
  | _ => ("", "", "", false)
def tyJx8e188 : Nat → FieldType := fun k => match k with
  | _ => .int
theorem nmJx8e188 : ∀ a, a < 0 → ∀ b, b < 0 → a ≠ b → (TJx8e188 a).2.1 ≠ (TJx8e188 b).2.1 := by decide +kernel
theorem tyJx8e188_ok : ∀ k, k < 0 → parseFieldDescriptor (TJx8e188 k).2.2.1 = some (tyJx8e188 k) := by decide +kernel
def RJxab1ab : String := "java/lang/Iterable"
def TJxab1ab : u_T := fun k => match k with
  | _ => ("", "", "", false)
def tyJxab1ab : Nat → FieldType := fun k => match k with
  | _ => .int
theorem nmJxab1ab : ∀ a, a < 0 → ∀ b, b < 0 → a ≠ b → (TJxab1ab a).2.1 ≠ (TJxab1ab b).2.1 := by decide +kernel
theorem tyJxab1ab_ok : ∀ k, k < 0 → parseFieldDescriptor (TJxab1ab k).2.2.1 = some (tyJxab1ab k) := by decide +kernel
def RJ9 : String := "java/lang/Math"
def TJ9 : u_T := fun k => match k with
  | _ => ("", "", "", false)
def tyJ9 : Nat → FieldType := fun k => match k with
  | _ => .int
theorem nmJ9 : ∀ a, a < 0 → ∀ b, b < 0 → a ≠ b → (TJ9 a).2.1 ≠ (TJ9 b).2.1 := by decide +kernel
theorem tyJ9_ok : ∀ k, k < 0 → parseFieldDescriptor (TJ9 k).2.2.1 = some (tyJ9 k) := by decide +kernel
abbrev cJ9_max_7cf53 : ByteArray := prog_22_method_65_code
def yJ9_max_7cf53 : MethodName := ⟨RJ9, "max", "(II)I"⟩
abbrev cJ9_min_7cf53 : ByteArray := prog_22_method_69_code
def yJ9_min_7cf53 : MethodName := ⟨RJ9, "min", "(II)I"⟩
def RJ0 : String := "java/lang/String"
def TJ0 : u_T := fun k => match k with
  | _ => ("", "", "", false)
def tyJ0 : Nat → FieldType := fun k => match k with
  | _ => .int
theorem nmJ0 : ∀ a, a < 0 → ∀ b, b < 0 → a ≠ b → (TJ0 a).2.1 ≠ (TJ0 b).2.1 := by decide +kernel
theorem tyJ0_ok : ∀ k, k < 0 → parseFieldDescriptor (TJ0 k).2.2.1 = some (tyJ0 k) := by decide +kernel
def RJ10 : String := "java/lang/System"
def TJ10 : u_T := fun k => match k with
  | _ => ("", "", "", false)
def tyJ10 : Nat → FieldType := fun k => match k with
  | _ => .int
theorem nmJ10 : ∀ a, a < 0 → ∀ b, b < 0 → a ≠ b → (TJ10 a).2.1 ≠ (TJ10 b).2.1 := by decide +kernel
theorem tyJ10_ok : ∀ k, k < 0 → parseFieldDescriptor (TJ10 k).2.2.1 = some (tyJ10 k) := by decide +kernel
def RJxa1e45 : String := "java/util/AbstractCollection"
def TJxa1e45 : u_T := fun k => match k with
  | _ => ("", "", "", false)
def tyJxa1e45 : Nat → FieldType := fun k => match k with
  | _ => .int
theorem nmJxa1e45 : ∀ a, a < 0 → ∀ b, b < 0 → a ≠ b → (TJxa1e45 a).2.1 ≠ (TJxa1e45 b).2.1 := by decide +kernel
theorem tyJxa1e45_ok : ∀ k, k < 0 → parseFieldDescriptor (TJxa1e45 k).2.2.1 = some (tyJxa1e45 k) := by decide +kernel
abbrev cJxa1e45_init_da8c8 : ByteArray := prog_27_method_1_code
def yJxa1e45_init_da8c8 : MethodName := ⟨RJxa1e45, "<init>", "()V"⟩
def RJxc12de : String := "java/util/AbstractList"
def TJxc12de : u_T := fun k => match k with
  | _ => ("", "", "", false)
def tyJxc12de : Nat → FieldType := fun k => match k with
  | _ => .int
theorem nmJxc12de : ∀ a, a < 0 → ∀ b, b < 0 → a ≠ b → (TJxc12de a).2.1 ≠ (TJxc12de b).2.1 := by decide +kernel
theorem tyJxc12de_ok : ∀ k, k < 0 → parseFieldDescriptor (TJxc12de k).2.2.1 = some (tyJxc12de k) := by decide +kernel
abbrev cJxc12de_init_da8c8 : ByteArray := prog_28_method_1_code
def yJxc12de_init_da8c8 : MethodName := ⟨RJxc12de, "<init>", "()V"⟩
def RJx4a65c : String := "java/util/ArrayList"
def TJx4a65c : u_T := fun k => match k with
  | 0 => ("java/util/AbstractList", "modCount", "I", false)
  | 1 => ("java/util/ArrayList", "elementData", "[Ljava/lang/Object;", false)
  | _ => ("java/util/ArrayList", "size", "I", false)
def tyJx4a65c : Nat → FieldType := fun k => match k with
  | 0 => .int
  | 1 => .array (.object "java/lang/Object")
  | _ => .int
theorem nmJx4a65c : ∀ a, a < 3 → ∀ b, b < 3 → a ≠ b → (TJx4a65c a).2.1 ≠ (TJx4a65c b).2.1 := by decide +kernel
theorem tyJx4a65c_ok : ∀ k, k < 3 → parseFieldDescriptor (TJx4a65c k).2.2.1 = some (tyJx4a65c k) := by decide +kernel
abbrev cJx4a65c_init_da8c8 : ByteArray := prog_29_method_2_code
def yJx4a65c_init_da8c8 : MethodName := ⟨RJx4a65c, "<init>", "()V"⟩
abbrev cJx4a65c_grow_92f84 : ByteArray := prog_29_method_6_code
def yJx4a65c_grow_92f84 : MethodName := ⟨RJx4a65c, "grow", "(I)[Ljava/lang/Object;"⟩
abbrev cJx4a65c_grow_d5877 : ByteArray := prog_29_method_7_code
def yJx4a65c_grow_d5877 : MethodName := ⟨RJx4a65c, "grow", "()[Ljava/lang/Object;"⟩
abbrev cJx4a65c_size_8abf5 : ByteArray := prog_29_method_8_code
def yJx4a65c_size_8abf5 : MethodName := ⟨RJx4a65c, "size", "()I"⟩
abbrev cJx4a65c_isEmpty_aae02 : ByteArray := prog_29_method_9_code
def yJx4a65c_isEmpty_aae02 : MethodName := ⟨RJx4a65c, "isEmpty", "()Z"⟩
abbrev cJx4a65c_elementData_915e3 : ByteArray := prog_29_method_18_code
def yJx4a65c_elementData_915e3 : MethodName := ⟨RJx4a65c, "elementData", "(I)Ljava/lang/Object;"⟩
abbrev cJx4a65c_get_915e3 : ByteArray := prog_29_method_20_code
def yJx4a65c_get_915e3 : MethodName := ⟨RJx4a65c, "get", "(I)Ljava/lang/Object;"⟩
abbrev cJx4a65c_add_72be8 : ByteArray := prog_29_method_24_code
def yJx4a65c_add_72be8 : MethodName := ⟨RJx4a65c, "add", "(Ljava/lang/Object;[Ljava/lang/Object;I)V"⟩
abbrev cJx4a65c_add_9ea2d : ByteArray := prog_29_method_25_code
def yJx4a65c_add_9ea2d : MethodName := ⟨RJx4a65c, "add", "(Ljava/lang/Object;)Z"⟩
abbrev cJx4a65c_remove_915e3 : ByteArray := prog_29_method_29_code
def yJx4a65c_remove_915e3 : MethodName := ⟨RJx4a65c, "remove", "(I)Ljava/lang/Object;"⟩
abbrev cJx4a65c_fastRemove_b59b0 : ByteArray := prog_29_method_39_code
def yJx4a65c_fastRemove_b59b0 : MethodName := ⟨RJx4a65c, "fastRemove", "([Ljava/lang/Object;I)V"⟩
abbrev cJx4a65c_clear_da8c8 : ByteArray := prog_29_method_40_code
def yJx4a65c_clear_da8c8 : MethodName := ⟨RJx4a65c, "clear", "()V"⟩
def RJ7 : String := "java/util/Arrays"
def TJ7 : u_T := fun k => match k with
  | _ => ("", "", "", false)
def tyJ7 : Nat → FieldType := fun k => match k with
  | _ => .int
theorem nmJ7 : ∀ a, a < 0 → ∀ b, b < 0 → a ≠ b → (TJ7 a).2.1 ≠ (TJ7 b).2.1 := by decide +kernel
theorem tyJ7_ok : ∀ k, k < 0 → parseFieldDescriptor (TJ7 k).2.2.1 = some (tyJ7 k) := by decide +kernel
abbrev cJ7_fill_53178 : ByteArray := prog_30_method_103_code
def yJ7_fill_53178 : MethodName := ⟨RJ7, "fill", "([II)V"⟩
abbrev cJ7_copyOf_1904c : ByteArray := prog_30_method_119_code
def yJ7_copyOf_1904c : MethodName := ⟨RJ7, "copyOf", "([Ljava/lang/Object;I)[Ljava/lang/Object;"⟩
abbrev cJ7_copyOf_6403c : ByteArray := prog_30_method_120_code
def yJ7_copyOf_6403c : MethodName := ⟨RJ7, "copyOf", "([Ljava/lang/Object;ILjava/lang/Class;)[Ljava/lang/Object;"⟩
abbrev cJ7_copyOf_59c91 : ByteArray := prog_30_method_123_code
def yJ7_copyOf_59c91 : MethodName := ⟨RJ7, "copyOf", "([II)[I"⟩
def RJx5ef63 : String := "java/util/Collection"
def TJx5ef63 : u_T := fun k => match k with
  | _ => ("", "", "", false)
def tyJx5ef63 : Nat → FieldType := fun k => match k with
  | _ => .int
theorem nmJx5ef63 : ∀ a, a < 0 → ∀ b, b < 0 → a ≠ b → (TJx5ef63 a).2.1 ≠ (TJx5ef63 b).2.1 := by decide +kernel
theorem tyJx5ef63_ok : ∀ k, k < 0 → parseFieldDescriptor (TJx5ef63 k).2.2.1 = some (tyJx5ef63 k) := by decide +kernel
def RJxbd725 : String := "java/util/List"
def TJxbd725 : u_T := fun k => match k with
  | _ => ("", "", "", false)
def tyJxbd725 : Nat → FieldType := fun k => match k with
  | _ => .int
theorem nmJxbd725 : ∀ a, a < 0 → ∀ b, b < 0 → a ≠ b → (TJxbd725 a).2.1 ≠ (TJxbd725 b).2.1 := by decide +kernel
theorem tyJxbd725_ok : ∀ k, k < 0 → parseFieldDescriptor (TJxbd725 k).2.2.1 = some (tyJxbd725 k) := by decide +kernel
def RJ15 : String := "java/util/Objects"
def TJ15 : u_T := fun k => match k with
  | _ => ("", "", "", false)
def tyJ15 : Nat → FieldType := fun k => match k with
  | _ => .int
theorem nmJ15 : ∀ a, a < 0 → ∀ b, b < 0 → a ≠ b → (TJ15 a).2.1 ≠ (TJ15 b).2.1 := by decide +kernel
theorem tyJ15_ok : ∀ k, k < 0 → parseFieldDescriptor (TJ15 k).2.2.1 = some (tyJ15 k) := by decide +kernel
abbrev cJ15_checkIndex_7cf53 : ByteArray := prog_33_method_17_code
def yJ15_checkIndex_7cf53 : MethodName := ⟨RJ15, "checkIndex", "(II)I"⟩
def RJxf0a74 : String := "java/util/RandomAccess"
def TJxf0a74 : u_T := fun k => match k with
  | _ => ("", "", "", false)
def tyJxf0a74 : Nat → FieldType := fun k => match k with
  | _ => .int
theorem nmJxf0a74 : ∀ a, a < 0 → ∀ b, b < 0 → a ≠ b → (TJxf0a74 a).2.1 ≠ (TJxf0a74 b).2.1 := by decide +kernel
theorem tyJxf0a74_ok : ∀ k, k < 0 → parseFieldDescriptor (TJxf0a74 k).2.2.1 = some (tyJxf0a74 k) := by decide +kernel
def RJxa66e6 : String := "java/util/SequencedCollection"
def TJxa66e6 : u_T := fun k => match k with
  | _ => ("", "", "", false)
def tyJxa66e6 : Nat → FieldType := fun k => match k with
  | _ => .int
theorem nmJxa66e6 : ∀ a, a < 0 → ∀ b, b < 0 → a ≠ b → (TJxa66e6 a).2.1 ≠ (TJxa66e6 b).2.1 := by decide +kernel
theorem tyJxa66e6_ok : ∀ k, k < 0 → parseFieldDescriptor (TJxa66e6 k).2.2.1 = some (tyJxa66e6 k) := by decide +kernel
def RJ8 : String := "jdk/internal/util/ArraysSupport"
def TJ8 : u_T := fun k => match k with
  | _ => ("", "", "", false)
def tyJ8 : Nat → FieldType := fun k => match k with
  | _ => .int
theorem nmJ8 : ∀ a, a < 0 → ∀ b, b < 0 → a ≠ b → (TJ8 a).2.1 ≠ (TJ8 b).2.1 := by decide +kernel
theorem tyJ8_ok : ∀ k, k < 0 → parseFieldDescriptor (TJ8 k).2.2.1 = some (tyJ8 k) := by decide +kernel
abbrev cJ8_newLength_cabcc : ByteArray := prog_36_method_27_code
def yJ8_newLength_cabcc : MethodName := ⟨RJ8, "newLength", "(III)I"⟩
abbrev cJ8_hugeLength_7cf53 : ByteArray := prog_36_method_28_code
def yJ8_hugeLength_7cf53 : MethodName := ⟨RJ8, "hugeLength", "(II)I"⟩
def RJ3 : String := "jdk/internal/util/Preconditions"
def TJ3 : u_T := fun k => match k with
  | _ => ("", "", "", false)
def tyJ3 : Nat → FieldType := fun k => match k with
  | _ => .int
theorem nmJ3 : ∀ a, a < 0 → ∀ b, b < 0 → a ≠ b → (TJ3 a).2.1 ≠ (TJ3 b).2.1 := by decide +kernel
theorem tyJ3_ok : ∀ k, k < 0 → parseFieldDescriptor (TJ3 k).2.2.1 = some (tyJ3 k) := by decide +kernel
abbrev cJ3_checkIndex_8e157 : ByteArray := prog_37_method_11_code
def yJ3_checkIndex_8e157 : MethodName := ⟨RJ3, "checkIndex", "(IILjava/util/function/BiFunction;)I"⟩
def RL : String := "ToolPlexLaw"
abbrev cL_part : ByteArray := method_2_code
def yL_part : MethodName := ⟨RL, "part", "([III)I"⟩
abbrev cL_closed : ByteArray := method_3_code
def yL_closed : MethodName := ⟨RL, "closed", "(LToolPlex;II)I"⟩
abbrev cL_cancelled : ByteArray := method_4_code
def yL_cancelled : MethodName := ⟨RL, "cancelled", "(LToolPlex;II)I"⟩
abbrev cL_does : ByteArray := method_5_code
def yL_does : MethodName := ⟨RL, "does", "(LToolPlex;IIIIIIII)I"⟩
abbrev cL_asks : ByteArray := method_6_code
def yL_asks : MethodName := ⟨RL, "asks", "(LToolPlex;IIII)I"⟩
abbrev cL_isLetter : ByteArray := method_7_code
def yL_isLetter : MethodName := ⟨RL, "isLetter", "(I)Z"⟩
abbrev cL_isDigit : ByteArray := method_8_code
def yL_isDigit : MethodName := ⟨RL, "isDigit", "(I)Z"⟩
abbrev cL_place : ByteArray := method_9_code
def yL_place : MethodName := ⟨RL, "place", "([III)I"⟩
abbrev cL_units : ByteArray := method_10_code
def yL_units : MethodName := ⟨RL, "units", "(I)I"⟩
abbrev cL_replaces : ByteArray := method_11_code
def yL_replaces : MethodName := ⟨RL, "replaces", "([IIII)V"⟩
abbrev cL_isText : ByteArray := method_12_code
def yL_isText : MethodName := ⟨RL, "isText", "(LToolPlex;II[I)Z"⟩
abbrev cL_areFiles : ByteArray := method_13_code
def yL_areFiles : MethodName := ⟨RL, "areFiles", "(LToolPlex;[I[I[I)Z"⟩
abbrev cL_areDelivered : ByteArray := method_14_code
def yL_areDelivered : MethodName := ⟨RL, "areDelivered", "(LToolPlex;[I[I[I)Z"⟩
abbrev cL_isBegin : ByteArray := method_15_code
def yL_isBegin : MethodName := ⟨RL, "isBegin", "([III)Z"⟩
abbrev cL_behind : ByteArray := method_16_code
def yL_behind : MethodName := ⟨RL, "behind", "([II)I"⟩
abbrev cL_runAt : ByteArray := method_17_code
def yL_runAt : MethodName := ⟨RL, "runAt", "([III)I"⟩
abbrev cL_areLike : ByteArray := method_18_code
def yL_areLike : MethodName := ⟨RL, "areLike", "([III)Z"⟩
abbrev cL_likes : ByteArray := method_19_code
def yL_likes : MethodName := ⟨RL, "likes", "([III)I"⟩
abbrev cL_item : ByteArray := method_20_code
def yL_item : MethodName := ⟨RL, "item", "([IIII)I"⟩
abbrev cL_isCompleted : ByteArray := method_21_code
def yL_isCompleted : MethodName := ⟨RL, "isCompleted", "(LToolPlex;[IIIIII)Z"⟩
abbrev cL_begins : ByteArray := method_22_code
def yL_begins : MethodName := ⟨RL, "begins", "([IIII)Z"⟩
abbrev cL_isFirstOf : ByteArray := method_23_code
def yL_isFirstOf : MethodName := ⟨RL, "isFirstOf", "([III)Z"⟩
abbrev cL_isAhead : ByteArray := method_24_code
def yL_isAhead : MethodName := ⟨RL, "isAhead", "([III)Z"⟩
abbrev cL_areTokens : ByteArray := method_25_code
def yL_areTokens : MethodName := ⟨RL, "areTokens", "(LToolPlex;[IIIII)Z"⟩
abbrev cL_isAnswered : ByteArray := method_26_code
def yL_isAnswered : MethodName := ⟨RL, "isAnswered", "(LToolPlex;[IIIIIII)Z"⟩
abbrev cL_isServed : ByteArray := method_27_code
def yL_isServed : MethodName := ⟨RL, "isServed", "(LToolPlex;[II[I[I[I)Z"⟩
abbrev cL_areFaults : ByteArray := method_28_code
def yL_areFaults : MethodName := ⟨RL, "areFaults", "(LToolPlex;[I[I[III)Z"⟩
abbrev cL_code : ByteArray := method_29_code
def yL_code : MethodName := ⟨RL, "code", "(I)I"⟩
abbrev cL_isChanged : ByteArray := method_30_code
def yL_isChanged : MethodName := ⟨RL, "isChanged", "(LToolPlex;[I[I[IIIIII)Z"⟩
abbrev cL_isDone : ByteArray := method_31_code
def yL_isDone : MethodName := ⟨RL, "isDone", "(LToolPlex;[II[I[I[I)Z"⟩
abbrev cL_law : ByteArray := code
def yL_law : MethodName := ⟨RL, "law", "([I)Z"⟩
abbrev vwCl : List vw_C := [(RJx4a65c, TJx4a65c, 3), (RX0, TX0, 5), (RX1, TX1, 1), (RX2, TX2, 7), (RX3, TX3, 8), (RX4, TX4, 7), (RX5, TX5, 2), (RX6, TX6, 17), (RX7, TX7, 12), (RX8, TX8, 3), (RX9, TX9, 9), (RX10, TX10, 2), (RX11, TX11, 6)]
