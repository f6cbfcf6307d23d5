/-! ===== BEGIN words of one list among another's, by their places ===== -/
theorem goodIn_r {big : List Cond} (ws : List Cond) (ps : List Nat) (hp : ws = ps.filterMap (fun i => big[i]?)) (h : ws.all goodWord = true) : GoodIn big ws := by
  intro w hw
  have h1 := List.all_eq_true.mp h w hw
  rw [hp] at hw
  obtain ⟨i, -, hi⟩ := List.mem_filterMap.mp hw
  have hm : w ∈ big := by first | exact List.mem_of_getElem? hi | exact List.getElem?_mem hi
  exact ⟨hm, good_of_word h1⟩
theorem goodIn_app {big a b : List Cond} (ha : GoodIn big a) (hb : GoodIn big b) : GoodIn big (a ++ b) := fun w h => (List.mem_append.mp h).elim (ha w) (hb w)
theorem goodIn_ca {big a b : List Cond} {c : Cond} (ha : GoodIn big (c :: a)) (hb : GoodIn big b) : GoodIn big (c :: (a ++ b)) := fun w h => (List.mem_cons.mp h).elim (fun e => ha w (List.mem_cons.mpr (Or.inl e))) (fun h => (List.mem_append.mp h).elim (fun h => ha w (List.mem_cons.mpr (Or.inr h))) (hb w))
theorem goodIn_sub {big ws : List Cond} (hm : ∀ w ∈ ws, w ∈ big) (h : ws.all goodWord = true) : GoodIn big ws := fun w hw => ⟨hm w hw, good_of_word (List.all_eq_true.mp h w hw)⟩
/-! ===== END ===== -/

/-! ===== BEGIN printed: names, fields, word lists, decode rows ===== -/
def RX0 : String := "TwinLog$Link"
def TX0 : u_T := fun k => match k with
  | 0 => ("TwinLog$Link", "slots", "[LTwinLog$Message;", true)
  | 1 => ("TwinLog$Link", "spare", "LTwinLog$Message;", false)
  | _ => ("TwinLog$Link", "count", "I", false)
def tyX0 : Nat → FieldType := fun k => match k with
  | 0 => .array (.object "TwinLog$Message")
  | 1 => .object "TwinLog$Message"
  | _ => .int
abbrev wsX00 : List Cond := u_ws RX0 TX0 3
theorem nmX0 : ∀ a, a < 3 → ∀ b, b < 3 → a ≠ b → (TX0 a).2.1 ≠ (TX0 b).2.1 := by decide +kernel
theorem tyX0_ok : ∀ k, k < 3 → parseFieldDescriptor (TX0 k).2.2.1 = some (tyX0 k) := by decide +kernel
abbrev cX0_init : ByteArray := prog_2_method_1_code
def yX0_init : MethodName := ⟨RX0, "<init>", "()V"⟩
abbrev cX0_isFull : ByteArray := prog_2_method_2_code
def yX0_isFull : MethodName := ⟨RX0, "isFull", "()Z"⟩
abbrev cX0_at : ByteArray := prog_2_method_3_code
def yX0_at : MethodName := ⟨RX0, "at", "(I)LTwinLog$Message;"⟩
abbrev cX0_send : ByteArray := prog_2_method_4_code
def yX0_send : MethodName := ⟨RX0, "send", "(ILTwinLog$Node;I)LTwinLog$Message;"⟩
abbrev cX0_take : ByteArray := prog_2_method_5_code
def yX0_take : MethodName := ⟨RX0, "take", "(I)LTwinLog$Message;"⟩
def RX1 : String := "TwinLog$Message"
def TX1 : u_T := fun k => match k with
  | 0 => ("TwinLog$Message", "kind", "I", false)
  | 1 => ("TwinLog$Message", "to", "I", false)
  | 2 => ("TwinLog$Message", "term", "I", false)
  | 3 => ("TwinLog$Message", "number", "I", false)
  | 4 => ("TwinLog$Message", "entryTerm", "I", false)
  | 5 => ("TwinLog$Message", "key", "I", false)
  | 6 => ("TwinLog$Message", "value", "I", false)
  | 7 => ("TwinLog$Message", "termBefore", "I", false)
  | _ => ("TwinLog$Message", "senderLength", "I", false)
def tyX1 : Nat → FieldType := fun k => match k with
  | 0 => .int
  | 1 => .int
  | 2 => .int
  | 3 => .int
  | 4 => .int
  | 5 => .int
  | 6 => .int
  | 7 => .int
  | _ => .int
abbrev wsX10 : List Cond := u_ws RX1 TX1 9
theorem nmX1 : ∀ a, a < 9 → ∀ b, b < 9 → a ≠ b → (TX1 a).2.1 ≠ (TX1 b).2.1 := by decide +kernel
theorem tyX1_ok : ∀ k, k < 9 → parseFieldDescriptor (TX1 k).2.2.1 = some (tyX1 k) := by decide +kernel
abbrev cX1_init : ByteArray := prog_3_method_1_code
def yX1_init : MethodName := ⟨RX1, "<init>", "()V"⟩
def RX2 : String := "TwinLog$Node"
def TX2 : u_T := fun k => match k with
  | 0 => ("TwinLog$Node", "number", "I", true)
  | 1 => ("TwinLog$Node", "terms", "[I", true)
  | 2 => ("TwinLog$Node", "keys", "[I", true)
  | 3 => ("TwinLog$Node", "values", "[I", true)
  | 4 => ("TwinLog$Node", "length", "I", false)
  | 5 => ("TwinLog$Node", "term", "I", false)
  | 6 => ("TwinLog$Node", "up", "Z", false)
  | 7 => ("TwinLog$Node", "primary", "Z", false)
  | 8 => ("TwinLog$Node", "agreed", "I", false)
  | 9 => ("TwinLog$Node", "fuseLeft", "I", false)
  | _ => ("TwinLog$Node", "writes", "I", false)
def tyX2 : Nat → FieldType := fun k => match k with
  | 0 => .int
  | 1 => .array .int
  | 2 => .array .int
  | 3 => .array .int
  | 4 => .int
  | 5 => .int
  | 6 => .boolean
  | 7 => .boolean
  | 8 => .int
  | 9 => .int
  | _ => .int
abbrev wsX20 : List Cond := u_ws RX2 TX2 11
theorem nmX2 : ∀ a, a < 11 → ∀ b, b < 11 → a ≠ b → (TX2 a).2.1 ≠ (TX2 b).2.1 := by decide +kernel
theorem tyX2_ok : ∀ k, k < 11 → parseFieldDescriptor (TX2 k).2.2.1 = some (tyX2 k) := by decide +kernel
abbrev cX2_init : ByteArray := prog_4_method_1_code
def yX2_init : MethodName := ⟨RX2, "<init>", "(IIZ)V"⟩
abbrev cX2_goDown : ByteArray := prog_4_method_2_code
def yX2_goDown : MethodName := ⟨RX2, "goDown", "()V"⟩
abbrev cX2_comeUp : ByteArray := prog_4_method_3_code
def yX2_comeUp : MethodName := ⟨RX2, "comeUp", "()V"⟩
abbrev cX2_startWrite : ByteArray := prog_4_method_4_code
def yX2_startWrite : MethodName := ⟨RX2, "startWrite", "()Z"⟩
abbrev cX2_append : ByteArray := prog_4_method_5_code
def yX2_append : MethodName := ⟨RX2, "append", "(III)Z"⟩
abbrev cX2_cutTo : ByteArray := prog_4_method_6_code
def yX2_cutTo : MethodName := ⟨RX2, "cutTo", "(I)Z"⟩
abbrev cX2_changeTerm : ByteArray := prog_4_method_7_code
def yX2_changeTerm : MethodName := ⟨RX2, "changeTerm", "(I)Z"⟩
abbrev cX2_follow : ByteArray := prog_4_method_8_code
def yX2_follow : MethodName := ⟨RX2, "follow", "(I)Z"⟩
abbrev cX2_nextOwnTerm : ByteArray := prog_4_method_9_code
def yX2_nextOwnTerm : MethodName := ⟨RX2, "nextOwnTerm", "()I"⟩
abbrev cX2_hasEntry : ByteArray := prog_4_method_10_code
def yX2_hasEntry : MethodName := ⟨RX2, "hasEntry", "(I)Z"⟩
abbrev cX2_hasEntryOfTerm : ByteArray := prog_4_method_11_code
def yX2_hasEntryOfTerm : MethodName := ⟨RX2, "hasEntryOfTerm", "(II)Z"⟩
abbrev cX2_isEntry : ByteArray := prog_4_method_12_code
def yX2_isEntry : MethodName := ⟨RX2, "isEntry", "(IIII)Z"⟩
def RX3 : String := "TwinLog"
def TX3 : u_T := fun k => match k with
  | 0 => ("TwinLog", "zero", "LTwinLog$Node;", true)
  | 1 => ("TwinLog", "one", "LTwinLog$Node;", true)
  | _ => ("TwinLog", "link", "LTwinLog$Link;", true)
def tyX3 : Nat → FieldType := fun k => match k with
  | 0 => .object "TwinLog$Node"
  | 1 => .object "TwinLog$Node"
  | _ => .object "TwinLog$Link"
abbrev wsX30 : List Cond := u_ws RX3 TX3 3
theorem nmX3 : ∀ a, a < 3 → ∀ b, b < 3 → a ≠ b → (TX3 a).2.1 ≠ (TX3 b).2.1 := by decide +kernel
theorem tyX3_ok : ∀ k, k < 3 → parseFieldDescriptor (TX3 k).2.2.1 = some (tyX3 k) := by decide +kernel
abbrev cX3_init : ByteArray := prog_1_method_1_code
def yX3_init : MethodName := ⟨RX3, "<init>", "()V"⟩
abbrev cX3_put : ByteArray := prog_1_method_2_code
def yX3_put : MethodName := ⟨RX3, "put", "(III)I"⟩
abbrev cX3_get : ByteArray := prog_1_method_3_code
def yX3_get : MethodName := ⟨RX3, "get", "(II)I"⟩
abbrev cX3_pump : ByteArray := prog_1_method_4_code
def yX3_pump : MethodName := ⟨RX3, "pump", "()I"⟩
abbrev cX3_drop : ByteArray := prog_1_method_5_code
def yX3_drop : MethodName := ⟨RX3, "drop", "(I)Z"⟩
abbrev cX3_fuse : ByteArray := prog_1_method_6_code
def yX3_fuse : MethodName := ⟨RX3, "fuse", "(II)I"⟩
abbrev cX3_crash : ByteArray := prog_1_method_7_code
def yX3_crash : MethodName := ⟨RX3, "crash", "(I)I"⟩
abbrev cX3_recover : ByteArray := prog_1_method_8_code
def yX3_recover : MethodName := ⟨RX3, "recover", "(I)I"⟩
abbrev cX3_promote : ByteArray := prog_1_method_9_code
def yX3_promote : MethodName := ⟨RX3, "promote", "(I)I"⟩
abbrev cX3_rejoin : ByteArray := prog_1_method_10_code
def yX3_rejoin : MethodName := ⟨RX3, "rejoin", "(I)I"⟩
abbrev cX3_told : ByteArray := prog_1_method_11_code
def yX3_told : MethodName := ⟨RX3, "told", "(II)I"⟩
abbrev cX3_entry : ByteArray := prog_1_method_12_code
def yX3_entry : MethodName := ⟨RX3, "entry", "(III)I"⟩
abbrev cX3_message : ByteArray := prog_1_method_13_code
def yX3_message : MethodName := ⟨RX3, "message", "(II)I"⟩
abbrev cX3_same : ByteArray := prog_1_method_14_code
def yX3_same : MethodName := ⟨RX3, "same", "()I"⟩
abbrev cX3_nodeOf : ByteArray := prog_1_method_15_code
def yX3_nodeOf : MethodName := ⟨RX3, "nodeOf", "(I)LTwinLog$Node;"⟩
abbrev cX3_isKey : ByteArray := prog_1_method_16_code
def yX3_isKey : MethodName := ⟨RX3, "isKey", "(I)Z"⟩
abbrev cX3_arrive : ByteArray := prog_1_method_17_code
def yX3_arrive : MethodName := ⟨RX3, "arrive", "(LTwinLog$Message;LTwinLog$Node;)Z"⟩
abbrev cX3_takeShip : ByteArray := prog_1_method_18_code
def yX3_takeShip : MethodName := ⟨RX3, "takeShip", "(LTwinLog$Message;LTwinLog$Node;)V"⟩
abbrev cX3_fitLog : ByteArray := prog_1_method_19_code
def yX3_fitLog : MethodName := ⟨RX3, "fitLog", "(LTwinLog$Message;LTwinLog$Node;)Z"⟩
abbrev cX3_takeAck : ByteArray := prog_1_method_20_code
def yX3_takeAck : MethodName := ⟨RX3, "takeAck", "(ILTwinLog$Node;)V"⟩
abbrev cX3_takeWant : ByteArray := prog_1_method_21_code
def yX3_takeWant : MethodName := ⟨RX3, "takeWant", "(ILTwinLog$Node;)V"⟩
abbrev cX3_ship : ByteArray := prog_1_method_22_code
def yX3_ship : MethodName := ⟨RX3, "ship", "(LTwinLog$Node;I)V"⟩
def RX4 : String := "TwinLogModel"
def TX4 : u_T := fun k => match k with
  | 0 => ("TwinLogModel", "terms", "[I", true)
  | 1 => ("TwinLogModel", "lengths", "[I", true)
  | 2 => ("TwinLogModel", "down", "[Z", true)
  | 3 => ("TwinLogModel", "primary", "[Z", true)
  | 4 => ("TwinLogModel", "agreed", "[I", true)
  | 5 => ("TwinLogModel", "fuses", "[I", true)
  | 6 => ("TwinLogModel", "writes", "[I", true)
  | 7 => ("TwinLogModel", "entryTerms", "[I", true)
  | 8 => ("TwinLogModel", "entryKeys", "[I", true)
  | 9 => ("TwinLogModel", "entryValues", "[I", true)
  | 10 => ("TwinLogModel", "messages", "[I", true)
  | 11 => ("TwinLogModel", "many", "I", false)
  | _ => ("TwinLogModel", "come", "[I", true)
def tyX4 : Nat → FieldType := fun k => match k with
  | 0 => .array .int
  | 1 => .array .int
  | 2 => .array .boolean
  | 3 => .array .boolean
  | 4 => .array .int
  | 5 => .array .int
  | 6 => .array .int
  | 7 => .array .int
  | 8 => .array .int
  | 9 => .array .int
  | 10 => .array .int
  | 11 => .int
  | _ => .array .int
abbrev wsX40 : List Cond := u_ws RX4 TX4 13
theorem nmX4 : ∀ a, a < 13 → ∀ b, b < 13 → a ≠ b → (TX4 a).2.1 ≠ (TX4 b).2.1 := by decide +kernel
theorem tyX4_ok : ∀ k, k < 13 → parseFieldDescriptor (TX4 k).2.2.1 = some (tyX4 k) := by decide +kernel
abbrev cX4_init : ByteArray := prog_6_method_1_code
def yX4_init : MethodName := ⟨RX4, "<init>", "()V"⟩
abbrev cX4_isNode : ByteArray := prog_6_method_2_code
def yX4_isNode : MethodName := ⟨RX4, "isNode", "(I)Z"⟩
abbrev cX4_writes : ByteArray := prog_6_method_3_code
def yX4_writes : MethodName := ⟨RX4, "writes", "(I)Z"⟩
abbrev cX4_putBehind : ByteArray := prog_6_method_4_code
def yX4_putBehind : MethodName := ⟨RX4, "putBehind", "(IIII)Z"⟩
abbrev cX4_cutTo : ByteArray := prog_6_method_5_code
def yX4_cutTo : MethodName := ⟨RX4, "cutTo", "(II)Z"⟩
abbrev cX4_becomeTerm : ByteArray := prog_6_method_6_code
def yX4_becomeTerm : MethodName := ⟨RX4, "becomeTerm", "(II)Z"⟩
abbrev cX4_send : ByteArray := prog_6_method_7_code
def yX4_send : MethodName := ⟨RX4, "send", "(III)V"⟩
abbrev cX4_remove : ByteArray := prog_6_method_8_code
def yX4_remove : MethodName := ⟨RX4, "remove", "(I)V"⟩
abbrev cX4_put : ByteArray := prog_6_method_9_code
def yX4_put : MethodName := ⟨RX4, "put", "(III)I"⟩
abbrev cX4_get : ByteArray := prog_6_method_10_code
def yX4_get : MethodName := ⟨RX4, "get", "(II)I"⟩
abbrev cX4_pump : ByteArray := prog_6_method_11_code
def yX4_pump : MethodName := ⟨RX4, "pump", "()I"⟩
abbrev cX4_shipIfThere : ByteArray := prog_6_method_12_code
def yX4_shipIfThere : MethodName := ⟨RX4, "shipIfThere", "(II)V"⟩
abbrev cX4_shipped : ByteArray := prog_6_method_13_code
def yX4_shipped : MethodName := ⟨RX4, "shipped", "(II)V"⟩
abbrev cX4_drop : ByteArray := prog_6_method_14_code
def yX4_drop : MethodName := ⟨RX4, "drop", "(I)Z"⟩
abbrev cX4_fuse : ByteArray := prog_6_method_15_code
def yX4_fuse : MethodName := ⟨RX4, "fuse", "(II)I"⟩
abbrev cX4_crash : ByteArray := prog_6_method_16_code
def yX4_crash : MethodName := ⟨RX4, "crash", "(I)I"⟩
abbrev cX4_recover : ByteArray := prog_6_method_17_code
def yX4_recover : MethodName := ⟨RX4, "recover", "(I)I"⟩
abbrev cX4_promote : ByteArray := prog_6_method_18_code
def yX4_promote : MethodName := ⟨RX4, "promote", "(I)I"⟩
abbrev cX4_rejoin : ByteArray := prog_6_method_19_code
def yX4_rejoin : MethodName := ⟨RX4, "rejoin", "(I)I"⟩
abbrev cX4_told : ByteArray := prog_6_method_20_code
def yX4_told : MethodName := ⟨RX4, "told", "(II)I"⟩
abbrev cX4_entry : ByteArray := prog_6_method_21_code
def yX4_entry : MethodName := ⟨RX4, "entry", "(III)I"⟩
abbrev cX4_message : ByteArray := prog_6_method_22_code
def yX4_message : MethodName := ⟨RX4, "message", "(II)I"⟩
abbrev cX4_same : ByteArray := prog_6_method_23_code
def yX4_same : MethodName := ⟨RX4, "same", "()I"⟩
def RJ9 : String := "java/lang/Math"
def TJ9 : u_T := fun k => match k with
  | _ => ("", "", "", false)
def tyJ9 : Nat → FieldType := fun k => match k with
  | _ => .int
abbrev wsJ90 : List Cond := u_ws RJ9 TJ9 0
theorem nmJ9 : ∀ a, a < 0 → ∀ b, b < 0 → a ≠ b → (TJ9 a).2.1 ≠ (TJ9 b).2.1 := by decide +kernel
theorem tyJ9_ok : ∀ k, k < 0 → parseFieldDescriptor (TJ9 k).2.2.1 = some (tyJ9 k) := by decide +kernel
abbrev cJ9_max_7cf53 : ByteArray := prog_7_method_65_code
def yJ9_max_7cf53 : MethodName := ⟨RJ9, "max", "(II)I"⟩
abbrev cJ9_min_7cf53 : ByteArray := prog_7_method_69_code
def yJ9_min_7cf53 : MethodName := ⟨RJ9, "min", "(II)I"⟩
def RL : String := "TwinLogLaw"
abbrev cL_law : ByteArray := code
def yL_law : MethodName := ⟨RL, "law", "([I)Z"⟩
def wsX1_init : List Cond := .code yX1_init cX1_init 1 none :: ([.methodLink RX1 1 objectInit, .instanceMethod objectInit, .code objectInit ⟨#[0xb1]⟩ 1 none])
def wsX0_init : List Cond := .code yX0_init cX0_init 2 none :: ([.methodLink RX0 3 objectInit, .instanceMethod objectInit, .code objectInit ⟨#[0xb1]⟩ 1 none, .classLink RX0 9 RX1, .fieldLink RX0 11 "TwinLog$Link" "slots" "[LTwinLog$Message;", .instantiable RX1 9, .initialized RX1, .fieldLink RX0 18 "TwinLog$Link" "spare" "LTwinLog$Message;", .instanceMethod yX1_init, .code yX1_init cX1_init 1 none, .methodLink RX1 1 objectInit] ++ wsX00 ++ wsX10)
def wsX0_isFull : List Cond := .code yX0_isFull cX0_isFull 1 (some .boolean) :: ([.fieldLink RX0 22 "TwinLog$Link" "count" "I"] ++ wsX00)
def wsX0_at : List Cond := .code yX0_at cX0_at 2 (some (.object "TwinLog$Message")) :: ([.fieldLink RX0 22 "TwinLog$Link" "count" "I", .fieldLink RX0 11 "TwinLog$Link" "slots" "[LTwinLog$Message;"] ++ wsX00)
def wsX0_send : List Cond := .code yX0_send cX0_send 5 (some (.object "TwinLog$Message")) :: ([.fieldLink RX0 11 "TwinLog$Link" "slots" "[LTwinLog$Message;", .fieldLink RX0 22 "TwinLog$Link" "count" "I", .fieldLink RX0 30 "TwinLog$Message" "kind" "I", .fieldLink RX0 33 "TwinLog$Node" "number" "I", .fieldLink RX0 38 "TwinLog$Message" "to" "I", .fieldLink RX0 41 "TwinLog$Node" "term" "I", .fieldLink RX0 44 "TwinLog$Message" "term" "I", .fieldLink RX0 45 "TwinLog$Message" "number" "I", .methodLink RX0 26 yX0_isFull, .instanceMethod yX0_isFull, .selects RX0 yX0_isFull yX0_isFull, .initialized RX0, .code yX0_isFull cX0_isFull 1 (some .boolean)] ++ wsX00 ++ wsX10 ++ wsX20)
def wsX0_take : List Cond := .code yX0_take cX0_take 4 (some (.object "TwinLog$Message")) :: ([.fieldLink RX0 22 "TwinLog$Link" "count" "I", .fieldLink RX0 11 "TwinLog$Link" "slots" "[LTwinLog$Message;", .fieldLink RX0 18 "TwinLog$Link" "spare" "LTwinLog$Message;", .methodLink RX0 46 yX0_at, .instanceMethod yX0_at, .selects RX0 yX0_at yX0_at, .initialized RX0, .code yX0_at cX0_at 2 (some (.object "TwinLog$Message"))] ++ wsX00)
def wsX2_init : List Cond := .code yX2_init cX2_init 4 none :: ([.methodLink RX2 3 objectInit, .instanceMethod objectInit, .code objectInit ⟨#[0xb1]⟩ 1 none, .fieldLink RX2 9 "TwinLog$Node" "number" "I", .fieldLink RX2 15 "TwinLog$Node" "term" "I", .fieldLink RX2 18 "TwinLog$Node" "primary" "Z", .arrayClass .int, .fieldLink RX2 22 "TwinLog$Node" "terms" "[I", .fieldLink RX2 26 "TwinLog$Node" "keys" "[I", .fieldLink RX2 29 "TwinLog$Node" "values" "[I", .fieldLink RX2 32 "TwinLog$Node" "up" "Z", .fieldLink RX2 35 "TwinLog$Node" "agreed" "I", .fieldLink RX2 38 "TwinLog$Node" "fuseLeft" "I"] ++ wsX20)
def wsX2_goDown : List Cond := .code yX2_goDown cX2_goDown 1 none :: ([.fieldLink RX2 32 "TwinLog$Node" "up" "Z", .fieldLink RX2 18 "TwinLog$Node" "primary" "Z", .fieldLink RX2 38 "TwinLog$Node" "fuseLeft" "I"] ++ wsX20)
def wsX2_comeUp : List Cond := .code yX2_comeUp cX2_comeUp 1 none :: ([.fieldLink RX2 32 "TwinLog$Node" "up" "Z", .fieldLink RX2 38 "TwinLog$Node" "fuseLeft" "I"] ++ wsX20)
def wsX2_startWrite : List Cond := .code yX2_startWrite cX2_startWrite 1 (some .boolean) :: ([.fieldLink RX2 38 "TwinLog$Node" "fuseLeft" "I", .fieldLink RX2 44 "TwinLog$Node" "writes" "I", .methodLink RX2 41 yX2_goDown, .instanceMethod yX2_goDown, .selects RX2 yX2_goDown yX2_goDown, .initialized RX2, .code yX2_goDown cX2_goDown 1 none, .fieldLink RX2 32 "TwinLog$Node" "up" "Z", .fieldLink RX2 18 "TwinLog$Node" "primary" "Z"] ++ wsX20)
def wsX2_append : List Cond := .code yX2_append cX2_append 4 (some .boolean) :: ([.fieldLink RX2 47 "TwinLog$Node" "length" "I", .fieldLink RX2 22 "TwinLog$Node" "terms" "[I", .fieldLink RX2 26 "TwinLog$Node" "keys" "[I", .fieldLink RX2 29 "TwinLog$Node" "values" "[I", .methodLink RX2 50 yX2_startWrite, .instanceMethod yX2_startWrite, .selects RX2 yX2_startWrite yX2_startWrite, .initialized RX2, .code yX2_startWrite cX2_startWrite 1 (some .boolean), .fieldLink RX2 38 "TwinLog$Node" "fuseLeft" "I", .fieldLink RX2 44 "TwinLog$Node" "writes" "I", .methodLink RX2 41 yX2_goDown, .instanceMethod yX2_goDown, .selects RX2 yX2_goDown yX2_goDown, .code yX2_goDown cX2_goDown 1 none, .fieldLink RX2 32 "TwinLog$Node" "up" "Z", .fieldLink RX2 18 "TwinLog$Node" "primary" "Z"] ++ wsX20)
def wsX2_cutTo : List Cond := .code yX2_cutTo cX2_cutTo 2 (some .boolean) :: ([.fieldLink RX2 47 "TwinLog$Node" "length" "I", .methodLink RX2 50 yX2_startWrite, .instanceMethod yX2_startWrite, .selects RX2 yX2_startWrite yX2_startWrite, .initialized RX2, .code yX2_startWrite cX2_startWrite 1 (some .boolean), .fieldLink RX2 38 "TwinLog$Node" "fuseLeft" "I", .fieldLink RX2 44 "TwinLog$Node" "writes" "I", .methodLink RX2 41 yX2_goDown, .instanceMethod yX2_goDown, .selects RX2 yX2_goDown yX2_goDown, .code yX2_goDown cX2_goDown 1 none, .fieldLink RX2 32 "TwinLog$Node" "up" "Z", .fieldLink RX2 18 "TwinLog$Node" "primary" "Z"] ++ wsX20)
def wsX2_changeTerm : List Cond := .code yX2_changeTerm cX2_changeTerm 2 (some .boolean) :: ([.fieldLink RX2 15 "TwinLog$Node" "term" "I", .methodLink RX2 50 yX2_startWrite, .instanceMethod yX2_startWrite, .selects RX2 yX2_startWrite yX2_startWrite, .initialized RX2, .code yX2_startWrite cX2_startWrite 1 (some .boolean), .fieldLink RX2 38 "TwinLog$Node" "fuseLeft" "I", .fieldLink RX2 44 "TwinLog$Node" "writes" "I", .methodLink RX2 41 yX2_goDown, .instanceMethod yX2_goDown, .selects RX2 yX2_goDown yX2_goDown, .code yX2_goDown cX2_goDown 1 none, .fieldLink RX2 32 "TwinLog$Node" "up" "Z", .fieldLink RX2 18 "TwinLog$Node" "primary" "Z"] ++ wsX20)
def wsX2_follow : List Cond := .code yX2_follow cX2_follow 2 (some .boolean) :: ([.fieldLink RX2 18 "TwinLog$Node" "primary" "Z", .methodLink RX2 54 yX2_changeTerm, .instanceMethod yX2_changeTerm, .selects RX2 yX2_changeTerm yX2_changeTerm, .initialized RX2, .code yX2_changeTerm cX2_changeTerm 2 (some .boolean), .fieldLink RX2 15 "TwinLog$Node" "term" "I", .methodLink RX2 50 yX2_startWrite, .instanceMethod yX2_startWrite, .selects RX2 yX2_startWrite yX2_startWrite, .code yX2_startWrite cX2_startWrite 1 (some .boolean), .fieldLink RX2 38 "TwinLog$Node" "fuseLeft" "I", .fieldLink RX2 44 "TwinLog$Node" "writes" "I", .methodLink RX2 41 yX2_goDown, .instanceMethod yX2_goDown, .selects RX2 yX2_goDown yX2_goDown, .code yX2_goDown cX2_goDown 1 none, .fieldLink RX2 32 "TwinLog$Node" "up" "Z"] ++ wsX20)
def wsX2_nextOwnTerm : List Cond := .code yX2_nextOwnTerm cX2_nextOwnTerm 1 (some .int) :: ([.fieldLink RX2 15 "TwinLog$Node" "term" "I", .fieldLink RX2 9 "TwinLog$Node" "number" "I"] ++ wsX20)
def wsX2_hasEntry : List Cond := .code yX2_hasEntry cX2_hasEntry 2 (some .boolean) :: ([.fieldLink RX2 47 "TwinLog$Node" "length" "I"] ++ wsX20)
def wsX2_hasEntryOfTerm : List Cond := .code yX2_hasEntryOfTerm cX2_hasEntryOfTerm 3 (some .boolean) :: ([.fieldLink RX2 22 "TwinLog$Node" "terms" "[I", .methodLink RX2 58 yX2_hasEntry, .instanceMethod yX2_hasEntry, .selects RX2 yX2_hasEntry yX2_hasEntry, .initialized RX2, .code yX2_hasEntry cX2_hasEntry 2 (some .boolean), .fieldLink RX2 47 "TwinLog$Node" "length" "I"] ++ wsX20)
def wsX2_isEntry : List Cond := .code yX2_isEntry cX2_isEntry 5 (some .boolean) :: ([.fieldLink RX2 26 "TwinLog$Node" "keys" "[I", .fieldLink RX2 29 "TwinLog$Node" "values" "[I", .methodLink RX2 61 yX2_hasEntryOfTerm, .instanceMethod yX2_hasEntryOfTerm, .selects RX2 yX2_hasEntryOfTerm yX2_hasEntryOfTerm, .initialized RX2, .code yX2_hasEntryOfTerm cX2_hasEntryOfTerm 3 (some .boolean), .fieldLink RX2 22 "TwinLog$Node" "terms" "[I", .methodLink RX2 58 yX2_hasEntry, .instanceMethod yX2_hasEntry, .selects RX2 yX2_hasEntry yX2_hasEntry, .code yX2_hasEntry cX2_hasEntry 2 (some .boolean), .fieldLink RX2 47 "TwinLog$Node" "length" "I"] ++ wsX20)
def wsX3_init_r1 : List Cond := [Cond.methodLink RX3 1 objectInit, Cond.instanceMethod objectInit, Cond.code objectInit ⟨#[0xb1]⟩ 1 none, Cond.classLink RX3 7 RX2, Cond.instantiable RX2 11, Cond.initialized RX2, Cond.fieldLink RX3 12 "TwinLog" "zero" "LTwinLog$Node;", Cond.fieldLink RX3 18 "TwinLog" "one" "LTwinLog$Node;", Cond.classLink RX3 21 RX0, Cond.instantiable RX0 3, Cond.initialized RX0, Cond.fieldLink RX3 24 "TwinLog" "link" "LTwinLog$Link;", Cond.methodLink RX3 9 yX2_init, Cond.instanceMethod yX2_init, Cond.code yX2_init cX2_init 4 none, Cond.methodLink RX2 3 objectInit, Cond.fieldLink RX2 9 "TwinLog$Node" "number" "I", Cond.fieldLink RX2 15 "TwinLog$Node" "term" "I", Cond.fieldLink RX2 18 "TwinLog$Node" "primary" "Z", Cond.arrayClass .int, Cond.fieldLink RX2 22 "TwinLog$Node" "terms" "[I", Cond.fieldLink RX2 26 "TwinLog$Node" "keys" "[I", Cond.fieldLink RX2 29 "TwinLog$Node" "values" "[I", Cond.fieldLink RX2 32 "TwinLog$Node" "up" "Z"]
def wsX3_init_r2 : List Cond := [Cond.fieldLink RX2 35 "TwinLog$Node" "agreed" "I", Cond.fieldLink RX2 38 "TwinLog$Node" "fuseLeft" "I", Cond.methodLink RX3 23 yX0_init, Cond.instanceMethod yX0_init, Cond.code yX0_init cX0_init 2 none, Cond.methodLink RX0 3 objectInit, Cond.classLink RX0 9 RX1, Cond.fieldLink RX0 11 "TwinLog$Link" "slots" "[LTwinLog$Message;", Cond.instantiable RX1 9, Cond.initialized RX1, Cond.fieldLink RX0 18 "TwinLog$Link" "spare" "LTwinLog$Message;", Cond.instanceMethod yX1_init, Cond.code yX1_init cX1_init 1 none, Cond.methodLink RX1 1 objectInit]
def wsX3_init : List Cond := .code yX3_init cX3_init 1 none :: ((wsX3_init_r1 ++ wsX3_init_r2) ++ wsX20 ++ wsX30 ++ wsX00 ++ wsX10)
def wsX3_nodeOf : List Cond := .code yX3_nodeOf cX3_nodeOf 2 (some (.object "TwinLog$Node")) :: ([.fieldLink RX3 12 "TwinLog" "zero" "LTwinLog$Node;", .fieldLink RX3 18 "TwinLog" "one" "LTwinLog$Node;"] ++ wsX30)
def wsX3_isKey : List Cond := .code yX3_isKey cX3_isKey 1 (some .boolean) :: ([])
def wsX3_ship_r1 : List Cond := [Cond.fieldLink RX3 24 "TwinLog" "link" "LTwinLog$Link;", Cond.fieldLink RX3 120 "TwinLog$Node" "terms" "[I", Cond.fieldLink RX3 164 "TwinLog$Message" "entryTerm" "I", Cond.fieldLink RX3 62 "TwinLog$Node" "keys" "[I", Cond.fieldLink RX3 167 "TwinLog$Message" "key" "I", Cond.fieldLink RX3 66 "TwinLog$Node" "values" "[I", Cond.fieldLink RX3 170 "TwinLog$Message" "value" "I", Cond.fieldLink RX3 151 "TwinLog$Message" "termBefore" "I", Cond.fieldLink RX3 43 "TwinLog$Node" "length" "I", Cond.fieldLink RX3 173 "TwinLog$Message" "senderLength" "I", Cond.methodLink RX3 117 yX2_hasEntry, Cond.instanceMethod yX2_hasEntry, Cond.selects RX2 yX2_hasEntry yX2_hasEntry, Cond.initialized RX2, Cond.code yX2_hasEntry cX2_hasEntry 2 (some .boolean), Cond.fieldLink RX2 47 "TwinLog$Node" "length" "I", Cond.methodLink RX3 110 yX0_send, Cond.instanceMethod yX0_send, Cond.selects RX0 yX0_send yX0_send, Cond.initialized RX0, Cond.code yX0_send cX0_send 5 (some (.object "TwinLog$Message")), Cond.fieldLink RX0 11 "TwinLog$Link" "slots" "[LTwinLog$Message;", Cond.fieldLink RX0 22 "TwinLog$Link" "count" "I", Cond.fieldLink RX0 30 "TwinLog$Message" "kind" "I"]
def wsX3_ship_r2 : List Cond := [Cond.fieldLink RX0 33 "TwinLog$Node" "number" "I", Cond.fieldLink RX0 38 "TwinLog$Message" "to" "I", Cond.fieldLink RX0 41 "TwinLog$Node" "term" "I", Cond.fieldLink RX0 44 "TwinLog$Message" "term" "I", Cond.fieldLink RX0 45 "TwinLog$Message" "number" "I", Cond.methodLink RX0 26 yX0_isFull, Cond.instanceMethod yX0_isFull, Cond.selects RX0 yX0_isFull yX0_isFull, Cond.code yX0_isFull cX0_isFull 1 (some .boolean)]
def wsX3_ship : List Cond := .code yX3_ship cX3_ship 4 none :: ((wsX3_ship_r1 ++ wsX3_ship_r2) ++ wsX30 ++ wsX20 ++ wsX10 ++ wsX00)
def wsX3_put_r1 : List Cond := [Cond.fieldLink RX3 36 "TwinLog$Node" "up" "Z", Cond.fieldLink RX3 40 "TwinLog$Node" "primary" "Z", Cond.fieldLink RX3 43 "TwinLog$Node" "length" "I", Cond.fieldLink RX3 24 "TwinLog" "link" "LTwinLog$Link;", Cond.fieldLink RX3 51 "TwinLog$Node" "term" "I", Cond.methodLink RX3 28 yX3_nodeOf, Cond.instanceMethod yX3_nodeOf, Cond.selects RX3 yX3_nodeOf yX3_nodeOf, Cond.initialized RX3, Cond.code yX3_nodeOf cX3_nodeOf 2 (some (.object "TwinLog$Node")), Cond.fieldLink RX3 12 "TwinLog" "zero" "LTwinLog$Node;", Cond.fieldLink RX3 18 "TwinLog" "one" "LTwinLog$Node;", Cond.methodLink RX3 32 yX3_isKey, Cond.static yX3_isKey, Cond.code yX3_isKey cX3_isKey 1 (some .boolean), Cond.methodLink RX3 47 yX0_isFull, Cond.instanceMethod yX0_isFull, Cond.selects RX0 yX0_isFull yX0_isFull, Cond.initialized RX0, Cond.code yX0_isFull cX0_isFull 1 (some .boolean), Cond.fieldLink RX0 22 "TwinLog$Link" "count" "I", Cond.methodLink RX3 54 yX2_append, Cond.instanceMethod yX2_append, Cond.selects RX2 yX2_append yX2_append]
def wsX3_put_r2 : List Cond := [Cond.initialized RX2, Cond.code yX2_append cX2_append 4 (some .boolean), Cond.fieldLink RX2 47 "TwinLog$Node" "length" "I", Cond.fieldLink RX2 22 "TwinLog$Node" "terms" "[I", Cond.fieldLink RX2 26 "TwinLog$Node" "keys" "[I", Cond.fieldLink RX2 29 "TwinLog$Node" "values" "[I", Cond.methodLink RX2 50 yX2_startWrite, Cond.instanceMethod yX2_startWrite, Cond.selects RX2 yX2_startWrite yX2_startWrite, Cond.code yX2_startWrite cX2_startWrite 1 (some .boolean), Cond.fieldLink RX2 38 "TwinLog$Node" "fuseLeft" "I", Cond.fieldLink RX2 44 "TwinLog$Node" "writes" "I", Cond.methodLink RX2 41 yX2_goDown, Cond.instanceMethod yX2_goDown, Cond.selects RX2 yX2_goDown yX2_goDown, Cond.code yX2_goDown cX2_goDown 1 none, Cond.fieldLink RX2 32 "TwinLog$Node" "up" "Z", Cond.fieldLink RX2 18 "TwinLog$Node" "primary" "Z", Cond.methodLink RX3 58 yX3_ship, Cond.instanceMethod yX3_ship, Cond.selects RX3 yX3_ship yX3_ship, Cond.code yX3_ship cX3_ship 4 none, Cond.fieldLink RX3 120 "TwinLog$Node" "terms" "[I", Cond.fieldLink RX3 164 "TwinLog$Message" "entryTerm" "I"]
def wsX3_put_r3 : List Cond := [Cond.fieldLink RX3 62 "TwinLog$Node" "keys" "[I", Cond.fieldLink RX3 167 "TwinLog$Message" "key" "I", Cond.fieldLink RX3 66 "TwinLog$Node" "values" "[I", Cond.fieldLink RX3 170 "TwinLog$Message" "value" "I", Cond.fieldLink RX3 151 "TwinLog$Message" "termBefore" "I", Cond.fieldLink RX3 173 "TwinLog$Message" "senderLength" "I", Cond.methodLink RX3 117 yX2_hasEntry, Cond.instanceMethod yX2_hasEntry, Cond.selects RX2 yX2_hasEntry yX2_hasEntry, Cond.code yX2_hasEntry cX2_hasEntry 2 (some .boolean), Cond.methodLink RX3 110 yX0_send, Cond.instanceMethod yX0_send, Cond.selects RX0 yX0_send yX0_send, Cond.code yX0_send cX0_send 5 (some (.object "TwinLog$Message")), Cond.fieldLink RX0 11 "TwinLog$Link" "slots" "[LTwinLog$Message;", Cond.fieldLink RX0 30 "TwinLog$Message" "kind" "I", Cond.fieldLink RX0 33 "TwinLog$Node" "number" "I", Cond.fieldLink RX0 38 "TwinLog$Message" "to" "I", Cond.fieldLink RX0 41 "TwinLog$Node" "term" "I", Cond.fieldLink RX0 44 "TwinLog$Message" "term" "I", Cond.fieldLink RX0 45 "TwinLog$Message" "number" "I", Cond.methodLink RX0 26 yX0_isFull]
def wsX3_put : List Cond := .code yX3_put cX3_put 6 (some .int) :: ((wsX3_put_r1 ++ (wsX3_put_r2 ++ wsX3_put_r3)) ++ wsX20 ++ wsX30 ++ wsX00 ++ wsX10)
def wsX3_get : List Cond := .code yX3_get cX3_get 5 (some .int) :: ([.fieldLink RX3 43 "TwinLog$Node" "length" "I", .fieldLink RX3 62 "TwinLog$Node" "keys" "[I", .fieldLink RX3 66 "TwinLog$Node" "values" "[I", .methodLink RX3 28 yX3_nodeOf, .instanceMethod yX3_nodeOf, .selects RX3 yX3_nodeOf yX3_nodeOf, .initialized RX3, .code yX3_nodeOf cX3_nodeOf 2 (some (.object "TwinLog$Node")), .fieldLink RX3 12 "TwinLog" "zero" "LTwinLog$Node;", .fieldLink RX3 18 "TwinLog" "one" "LTwinLog$Node;", .methodLink RX3 32 yX3_isKey, .static yX3_isKey, .code yX3_isKey cX3_isKey 1 (some .boolean)] ++ wsX20 ++ wsX30)
def wsX3_fitLog_r1 : List Cond := [Cond.fieldLink RX3 127 "TwinLog$Message" "number" "I", Cond.fieldLink RX3 164 "TwinLog$Message" "entryTerm" "I", Cond.fieldLink RX3 167 "TwinLog$Message" "key" "I", Cond.fieldLink RX3 170 "TwinLog$Message" "value" "I", Cond.fieldLink RX3 43 "TwinLog$Node" "length" "I", Cond.fieldLink RX3 173 "TwinLog$Message" "senderLength" "I", Cond.methodLink RX3 117 yX2_hasEntry, Cond.instanceMethod yX2_hasEntry, Cond.selects RX2 yX2_hasEntry yX2_hasEntry, Cond.initialized RX2, Cond.code yX2_hasEntry cX2_hasEntry 2 (some .boolean), Cond.fieldLink RX2 47 "TwinLog$Node" "length" "I", Cond.methodLink RX3 133 yX2_isEntry, Cond.instanceMethod yX2_isEntry, Cond.selects RX2 yX2_isEntry yX2_isEntry, Cond.code yX2_isEntry cX2_isEntry 5 (some .boolean), Cond.fieldLink RX2 26 "TwinLog$Node" "keys" "[I", Cond.fieldLink RX2 29 "TwinLog$Node" "values" "[I", Cond.methodLink RX2 61 yX2_hasEntryOfTerm, Cond.instanceMethod yX2_hasEntryOfTerm, Cond.selects RX2 yX2_hasEntryOfTerm yX2_hasEntryOfTerm, Cond.code yX2_hasEntryOfTerm cX2_hasEntryOfTerm 3 (some .boolean), Cond.fieldLink RX2 22 "TwinLog$Node" "terms" "[I", Cond.methodLink RX2 58 yX2_hasEntry]
def wsX3_fitLog_r2 : List Cond := [Cond.methodLink RX3 158 yX2_cutTo, Cond.instanceMethod yX2_cutTo, Cond.selects RX2 yX2_cutTo yX2_cutTo, Cond.code yX2_cutTo cX2_cutTo 2 (some .boolean), Cond.methodLink RX2 50 yX2_startWrite, Cond.instanceMethod yX2_startWrite, Cond.selects RX2 yX2_startWrite yX2_startWrite, Cond.code yX2_startWrite cX2_startWrite 1 (some .boolean), Cond.fieldLink RX2 38 "TwinLog$Node" "fuseLeft" "I", Cond.fieldLink RX2 44 "TwinLog$Node" "writes" "I", Cond.methodLink RX2 41 yX2_goDown, Cond.instanceMethod yX2_goDown, Cond.selects RX2 yX2_goDown yX2_goDown, Cond.code yX2_goDown cX2_goDown 1 none, Cond.fieldLink RX2 32 "TwinLog$Node" "up" "Z", Cond.fieldLink RX2 18 "TwinLog$Node" "primary" "Z", Cond.methodLink RX3 54 yX2_append, Cond.instanceMethod yX2_append, Cond.selects RX2 yX2_append yX2_append, Cond.code yX2_append cX2_append 4 (some .boolean)]
def wsX3_fitLog : List Cond := .code yX3_fitLog cX3_fitLog 4 (some .boolean) :: ((wsX3_fitLog_r1 ++ wsX3_fitLog_r2) ++ wsX10 ++ wsX20)
def wsX3_takeShip_r1 : List Cond := [Cond.fieldLink RX3 127 "TwinLog$Message" "number" "I", Cond.fieldLink RX3 43 "TwinLog$Node" "length" "I", Cond.fieldLink RX3 24 "TwinLog" "link" "LTwinLog$Link;", Cond.fieldLink RX3 151 "TwinLog$Message" "termBefore" "I", Cond.methodLink RX3 110 yX0_send, Cond.instanceMethod yX0_send, Cond.selects RX0 yX0_send yX0_send, Cond.initialized RX0, Cond.code yX0_send cX0_send 5 (some (.object "TwinLog$Message")), Cond.fieldLink RX0 11 "TwinLog$Link" "slots" "[LTwinLog$Message;", Cond.fieldLink RX0 22 "TwinLog$Link" "count" "I", Cond.fieldLink RX0 30 "TwinLog$Message" "kind" "I", Cond.fieldLink RX0 33 "TwinLog$Node" "number" "I", Cond.fieldLink RX0 38 "TwinLog$Message" "to" "I", Cond.fieldLink RX0 41 "TwinLog$Node" "term" "I", Cond.fieldLink RX0 44 "TwinLog$Message" "term" "I", Cond.fieldLink RX0 45 "TwinLog$Message" "number" "I", Cond.methodLink RX0 26 yX0_isFull, Cond.instanceMethod yX0_isFull, Cond.selects RX0 yX0_isFull yX0_isFull, Cond.code yX0_isFull cX0_isFull 1 (some .boolean), Cond.methodLink RX3 154 yX2_hasEntryOfTerm, Cond.instanceMethod yX2_hasEntryOfTerm, Cond.selects RX2 yX2_hasEntryOfTerm yX2_hasEntryOfTerm]
def wsX3_takeShip_r2 : List Cond := [Cond.initialized RX2, Cond.code yX2_hasEntryOfTerm cX2_hasEntryOfTerm 3 (some .boolean), Cond.fieldLink RX2 22 "TwinLog$Node" "terms" "[I", Cond.methodLink RX2 58 yX2_hasEntry, Cond.instanceMethod yX2_hasEntry, Cond.selects RX2 yX2_hasEntry yX2_hasEntry, Cond.code yX2_hasEntry cX2_hasEntry 2 (some .boolean), Cond.fieldLink RX2 47 "TwinLog$Node" "length" "I", Cond.methodLink RX3 158 yX2_cutTo, Cond.instanceMethod yX2_cutTo, Cond.selects RX2 yX2_cutTo yX2_cutTo, Cond.code yX2_cutTo cX2_cutTo 2 (some .boolean), Cond.methodLink RX2 50 yX2_startWrite, Cond.instanceMethod yX2_startWrite, Cond.selects RX2 yX2_startWrite yX2_startWrite, Cond.code yX2_startWrite cX2_startWrite 1 (some .boolean), Cond.fieldLink RX2 38 "TwinLog$Node" "fuseLeft" "I", Cond.fieldLink RX2 44 "TwinLog$Node" "writes" "I", Cond.methodLink RX2 41 yX2_goDown, Cond.instanceMethod yX2_goDown, Cond.selects RX2 yX2_goDown yX2_goDown, Cond.code yX2_goDown cX2_goDown 1 none, Cond.fieldLink RX2 32 "TwinLog$Node" "up" "Z", Cond.fieldLink RX2 18 "TwinLog$Node" "primary" "Z"]
def wsX3_takeShip_r3 : List Cond := [Cond.methodLink RX3 161 yX3_fitLog, Cond.static yX3_fitLog, Cond.initialized RX3, Cond.code yX3_fitLog cX3_fitLog 4 (some .boolean), Cond.fieldLink RX3 164 "TwinLog$Message" "entryTerm" "I", Cond.fieldLink RX3 167 "TwinLog$Message" "key" "I", Cond.fieldLink RX3 170 "TwinLog$Message" "value" "I", Cond.fieldLink RX3 173 "TwinLog$Message" "senderLength" "I", Cond.methodLink RX3 117 yX2_hasEntry, Cond.methodLink RX3 133 yX2_isEntry, Cond.instanceMethod yX2_isEntry, Cond.selects RX2 yX2_isEntry yX2_isEntry, Cond.code yX2_isEntry cX2_isEntry 5 (some .boolean), Cond.fieldLink RX2 26 "TwinLog$Node" "keys" "[I", Cond.fieldLink RX2 29 "TwinLog$Node" "values" "[I", Cond.methodLink RX2 61 yX2_hasEntryOfTerm, Cond.methodLink RX3 54 yX2_append, Cond.instanceMethod yX2_append, Cond.selects RX2 yX2_append yX2_append, Cond.code yX2_append cX2_append 4 (some .boolean)]
def wsX3_takeShip : List Cond := .code yX3_takeShip cX3_takeShip 4 none :: ((wsX3_takeShip_r1 ++ (wsX3_takeShip_r2 ++ wsX3_takeShip_r3)) ++ wsX10 ++ wsX20 ++ wsX30 ++ wsX00)
def wsX3_takeAck_r1 : List Cond := [Cond.fieldLink RX3 107 "TwinLog$Node" "agreed" "I", Cond.methodLink RX3 85 Lib.Math.max.name, Cond.static Lib.Math.max.name, Cond.initialized "java/lang/Math", Cond.code Lib.Math.max.name Lib.Math.max.code 2 (some .int), Cond.methodLink RX3 58 yX3_ship, Cond.instanceMethod yX3_ship, Cond.selects RX3 yX3_ship yX3_ship, Cond.initialized RX3, Cond.code yX3_ship cX3_ship 4 none, Cond.fieldLink RX3 24 "TwinLog" "link" "LTwinLog$Link;", Cond.fieldLink RX3 120 "TwinLog$Node" "terms" "[I", Cond.fieldLink RX3 164 "TwinLog$Message" "entryTerm" "I", Cond.fieldLink RX3 62 "TwinLog$Node" "keys" "[I", Cond.fieldLink RX3 167 "TwinLog$Message" "key" "I", Cond.fieldLink RX3 66 "TwinLog$Node" "values" "[I", Cond.fieldLink RX3 170 "TwinLog$Message" "value" "I", Cond.fieldLink RX3 151 "TwinLog$Message" "termBefore" "I", Cond.fieldLink RX3 43 "TwinLog$Node" "length" "I", Cond.fieldLink RX3 173 "TwinLog$Message" "senderLength" "I", Cond.methodLink RX3 117 yX2_hasEntry, Cond.instanceMethod yX2_hasEntry, Cond.selects RX2 yX2_hasEntry yX2_hasEntry, Cond.initialized RX2]
def wsX3_takeAck_r2 : List Cond := [Cond.code yX2_hasEntry cX2_hasEntry 2 (some .boolean), Cond.fieldLink RX2 47 "TwinLog$Node" "length" "I", Cond.methodLink RX3 110 yX0_send, Cond.instanceMethod yX0_send, Cond.selects RX0 yX0_send yX0_send, Cond.initialized RX0, Cond.code yX0_send cX0_send 5 (some (.object "TwinLog$Message")), Cond.fieldLink RX0 11 "TwinLog$Link" "slots" "[LTwinLog$Message;", Cond.fieldLink RX0 22 "TwinLog$Link" "count" "I", Cond.fieldLink RX0 30 "TwinLog$Message" "kind" "I", Cond.fieldLink RX0 33 "TwinLog$Node" "number" "I", Cond.fieldLink RX0 38 "TwinLog$Message" "to" "I", Cond.fieldLink RX0 41 "TwinLog$Node" "term" "I", Cond.fieldLink RX0 44 "TwinLog$Message" "term" "I", Cond.fieldLink RX0 45 "TwinLog$Message" "number" "I", Cond.methodLink RX0 26 yX0_isFull, Cond.instanceMethod yX0_isFull, Cond.selects RX0 yX0_isFull yX0_isFull, Cond.code yX0_isFull cX0_isFull 1 (some .boolean)]
def wsX3_takeAck : List Cond := .code yX3_takeAck cX3_takeAck 3 none :: ((wsX3_takeAck_r1 ++ wsX3_takeAck_r2) ++ wsX20 ++ wsX30 ++ wsX10 ++ wsX00)
def wsX3_takeWant_r1 : List Cond := [Cond.fieldLink RX3 43 "TwinLog$Node" "length" "I", Cond.methodLink RX3 130 Lib.Math.min.name, Cond.static Lib.Math.min.name, Cond.initialized "java/lang/Math", Cond.code Lib.Math.min.name Lib.Math.min.code 2 (some .int), Cond.methodLink RX3 58 yX3_ship, Cond.instanceMethod yX3_ship, Cond.selects RX3 yX3_ship yX3_ship, Cond.initialized RX3, Cond.code yX3_ship cX3_ship 4 none, Cond.fieldLink RX3 24 "TwinLog" "link" "LTwinLog$Link;", Cond.fieldLink RX3 120 "TwinLog$Node" "terms" "[I", Cond.fieldLink RX3 164 "TwinLog$Message" "entryTerm" "I", Cond.fieldLink RX3 62 "TwinLog$Node" "keys" "[I", Cond.fieldLink RX3 167 "TwinLog$Message" "key" "I", Cond.fieldLink RX3 66 "TwinLog$Node" "values" "[I", Cond.fieldLink RX3 170 "TwinLog$Message" "value" "I", Cond.fieldLink RX3 151 "TwinLog$Message" "termBefore" "I", Cond.fieldLink RX3 173 "TwinLog$Message" "senderLength" "I", Cond.methodLink RX3 117 yX2_hasEntry, Cond.instanceMethod yX2_hasEntry, Cond.selects RX2 yX2_hasEntry yX2_hasEntry, Cond.initialized RX2, Cond.code yX2_hasEntry cX2_hasEntry 2 (some .boolean)]
def wsX3_takeWant_r2 : List Cond := [Cond.fieldLink RX2 47 "TwinLog$Node" "length" "I", Cond.methodLink RX3 110 yX0_send, Cond.instanceMethod yX0_send, Cond.selects RX0 yX0_send yX0_send, Cond.initialized RX0, Cond.code yX0_send cX0_send 5 (some (.object "TwinLog$Message")), Cond.fieldLink RX0 11 "TwinLog$Link" "slots" "[LTwinLog$Message;", Cond.fieldLink RX0 22 "TwinLog$Link" "count" "I", Cond.fieldLink RX0 30 "TwinLog$Message" "kind" "I", Cond.fieldLink RX0 33 "TwinLog$Node" "number" "I", Cond.fieldLink RX0 38 "TwinLog$Message" "to" "I", Cond.fieldLink RX0 41 "TwinLog$Node" "term" "I", Cond.fieldLink RX0 44 "TwinLog$Message" "term" "I", Cond.fieldLink RX0 45 "TwinLog$Message" "number" "I", Cond.methodLink RX0 26 yX0_isFull, Cond.instanceMethod yX0_isFull, Cond.selects RX0 yX0_isFull yX0_isFull, Cond.code yX0_isFull cX0_isFull 1 (some .boolean)]
def wsX3_takeWant : List Cond := .code yX3_takeWant cX3_takeWant 3 none :: ((wsX3_takeWant_r1 ++ wsX3_takeWant_r2) ++ wsX20 ++ wsX30 ++ wsX10 ++ wsX00)
def wsX3_arrive_r1 : List Cond := [Cond.fieldLink RX3 126 "TwinLog$Message" "term" "I", Cond.fieldLink RX3 51 "TwinLog$Node" "term" "I", Cond.fieldLink RX3 78 "TwinLog$Message" "kind" "I", Cond.fieldLink RX3 24 "TwinLog" "link" "LTwinLog$Link;", Cond.fieldLink RX3 40 "TwinLog$Node" "primary" "Z", Cond.fieldLink RX3 127 "TwinLog$Message" "number" "I", Cond.methodLink RX3 110 yX0_send, Cond.instanceMethod yX0_send, Cond.selects RX0 yX0_send yX0_send, Cond.initialized RX0, Cond.code yX0_send cX0_send 5 (some (.object "TwinLog$Message")), Cond.fieldLink RX0 11 "TwinLog$Link" "slots" "[LTwinLog$Message;", Cond.fieldLink RX0 22 "TwinLog$Link" "count" "I", Cond.fieldLink RX0 30 "TwinLog$Message" "kind" "I", Cond.fieldLink RX0 33 "TwinLog$Node" "number" "I", Cond.fieldLink RX0 38 "TwinLog$Message" "to" "I", Cond.fieldLink RX0 41 "TwinLog$Node" "term" "I", Cond.fieldLink RX0 44 "TwinLog$Message" "term" "I", Cond.fieldLink RX0 45 "TwinLog$Message" "number" "I", Cond.methodLink RX0 26 yX0_isFull, Cond.instanceMethod yX0_isFull, Cond.selects RX0 yX0_isFull yX0_isFull, Cond.code yX0_isFull cX0_isFull 1 (some .boolean), Cond.methodLink RX3 137 yX2_follow]
def wsX3_arrive_r2 : List Cond := [Cond.instanceMethod yX2_follow, Cond.selects RX2 yX2_follow yX2_follow, Cond.initialized RX2, Cond.code yX2_follow cX2_follow 2 (some .boolean), Cond.fieldLink RX2 18 "TwinLog$Node" "primary" "Z", Cond.methodLink RX2 54 yX2_changeTerm, Cond.instanceMethod yX2_changeTerm, Cond.selects RX2 yX2_changeTerm yX2_changeTerm, Cond.code yX2_changeTerm cX2_changeTerm 2 (some .boolean), Cond.fieldLink RX2 15 "TwinLog$Node" "term" "I", Cond.methodLink RX2 50 yX2_startWrite, Cond.instanceMethod yX2_startWrite, Cond.selects RX2 yX2_startWrite yX2_startWrite, Cond.code yX2_startWrite cX2_startWrite 1 (some .boolean), Cond.fieldLink RX2 38 "TwinLog$Node" "fuseLeft" "I", Cond.fieldLink RX2 44 "TwinLog$Node" "writes" "I", Cond.methodLink RX2 41 yX2_goDown, Cond.instanceMethod yX2_goDown, Cond.selects RX2 yX2_goDown yX2_goDown, Cond.code yX2_goDown cX2_goDown 1 none, Cond.fieldLink RX2 32 "TwinLog$Node" "up" "Z", Cond.methodLink RX3 140 yX3_takeShip, Cond.instanceMethod yX3_takeShip, Cond.selects RX3 yX3_takeShip yX3_takeShip]
def wsX3_arrive_r3 : List Cond := [Cond.initialized RX3, Cond.code yX3_takeShip cX3_takeShip 4 none, Cond.fieldLink RX3 43 "TwinLog$Node" "length" "I", Cond.fieldLink RX3 151 "TwinLog$Message" "termBefore" "I", Cond.methodLink RX3 154 yX2_hasEntryOfTerm, Cond.instanceMethod yX2_hasEntryOfTerm, Cond.selects RX2 yX2_hasEntryOfTerm yX2_hasEntryOfTerm, Cond.code yX2_hasEntryOfTerm cX2_hasEntryOfTerm 3 (some .boolean), Cond.fieldLink RX2 22 "TwinLog$Node" "terms" "[I", Cond.methodLink RX2 58 yX2_hasEntry, Cond.instanceMethod yX2_hasEntry, Cond.selects RX2 yX2_hasEntry yX2_hasEntry, Cond.code yX2_hasEntry cX2_hasEntry 2 (some .boolean), Cond.fieldLink RX2 47 "TwinLog$Node" "length" "I", Cond.methodLink RX3 158 yX2_cutTo, Cond.instanceMethod yX2_cutTo, Cond.selects RX2 yX2_cutTo yX2_cutTo, Cond.code yX2_cutTo cX2_cutTo 2 (some .boolean), Cond.methodLink RX3 161 yX3_fitLog, Cond.static yX3_fitLog, Cond.code yX3_fitLog cX3_fitLog 4 (some .boolean), Cond.fieldLink RX3 164 "TwinLog$Message" "entryTerm" "I", Cond.fieldLink RX3 167 "TwinLog$Message" "key" "I", Cond.fieldLink RX3 170 "TwinLog$Message" "value" "I"]
def wsX3_arrive_r4 : List Cond := [Cond.fieldLink RX3 173 "TwinLog$Message" "senderLength" "I", Cond.methodLink RX3 117 yX2_hasEntry, Cond.methodLink RX3 133 yX2_isEntry, Cond.instanceMethod yX2_isEntry, Cond.selects RX2 yX2_isEntry yX2_isEntry, Cond.code yX2_isEntry cX2_isEntry 5 (some .boolean), Cond.fieldLink RX2 26 "TwinLog$Node" "keys" "[I", Cond.fieldLink RX2 29 "TwinLog$Node" "values" "[I", Cond.methodLink RX2 61 yX2_hasEntryOfTerm, Cond.methodLink RX3 54 yX2_append, Cond.instanceMethod yX2_append, Cond.selects RX2 yX2_append yX2_append, Cond.code yX2_append cX2_append 4 (some .boolean), Cond.methodLink RX3 144 yX3_takeAck, Cond.instanceMethod yX3_takeAck, Cond.selects RX3 yX3_takeAck yX3_takeAck, Cond.code yX3_takeAck cX3_takeAck 3 none, Cond.fieldLink RX3 107 "TwinLog$Node" "agreed" "I", Cond.methodLink RX3 85 Lib.Math.max.name, Cond.static Lib.Math.max.name, Cond.initialized "java/lang/Math", Cond.code Lib.Math.max.name Lib.Math.max.code 2 (some .int), Cond.methodLink RX3 58 yX3_ship, Cond.instanceMethod yX3_ship]
def wsX3_arrive_r5 : List Cond := [Cond.selects RX3 yX3_ship yX3_ship, Cond.code yX3_ship cX3_ship 4 none, Cond.fieldLink RX3 120 "TwinLog$Node" "terms" "[I", Cond.fieldLink RX3 62 "TwinLog$Node" "keys" "[I", Cond.fieldLink RX3 66 "TwinLog$Node" "values" "[I", Cond.methodLink RX3 148 yX3_takeWant, Cond.instanceMethod yX3_takeWant, Cond.selects RX3 yX3_takeWant yX3_takeWant, Cond.code yX3_takeWant cX3_takeWant 3 none, Cond.methodLink RX3 130 Lib.Math.min.name, Cond.static Lib.Math.min.name, Cond.code Lib.Math.min.name Lib.Math.min.code 2 (some .int)]
def wsX3_arrive : List Cond := .code yX3_arrive cX3_arrive 4 (some .boolean) :: ((wsX3_arrive_r1 ++ (wsX3_arrive_r2 ++ (wsX3_arrive_r3 ++ (wsX3_arrive_r4 ++ wsX3_arrive_r5)))) ++ wsX10 ++ wsX20 ++ wsX30 ++ wsX00)
def wsX3_pump_r1 : List Cond := [Cond.fieldLink RX3 24 "TwinLog" "link" "LTwinLog$Link;", Cond.fieldLink RX3 73 "TwinLog$Message" "to" "I", Cond.fieldLink RX3 12 "TwinLog" "zero" "LTwinLog$Node;", Cond.fieldLink RX3 18 "TwinLog" "one" "LTwinLog$Node;", Cond.fieldLink RX3 36 "TwinLog$Node" "up" "Z", Cond.fieldLink RX3 78 "TwinLog$Message" "kind" "I", Cond.methodLink RX3 69 yX0_take, Cond.instanceMethod yX0_take, Cond.selects RX0 yX0_take yX0_take, Cond.initialized RX0, Cond.code yX0_take cX0_take 4 (some (.object "TwinLog$Message")), Cond.fieldLink RX0 22 "TwinLog$Link" "count" "I", Cond.fieldLink RX0 11 "TwinLog$Link" "slots" "[LTwinLog$Message;", Cond.fieldLink RX0 18 "TwinLog$Link" "spare" "LTwinLog$Message;", Cond.methodLink RX0 46 yX0_at, Cond.instanceMethod yX0_at, Cond.selects RX0 yX0_at yX0_at, Cond.code yX0_at cX0_at 2 (some (.object "TwinLog$Message")), Cond.methodLink RX3 81 yX3_arrive, Cond.instanceMethod yX3_arrive, Cond.selects RX3 yX3_arrive yX3_arrive, Cond.initialized RX3, Cond.code yX3_arrive cX3_arrive 4 (some .boolean), Cond.fieldLink RX3 126 "TwinLog$Message" "term" "I"]
def wsX3_pump_r2 : List Cond := [Cond.fieldLink RX3 51 "TwinLog$Node" "term" "I", Cond.fieldLink RX3 40 "TwinLog$Node" "primary" "Z", Cond.fieldLink RX3 127 "TwinLog$Message" "number" "I", Cond.methodLink RX3 110 yX0_send, Cond.instanceMethod yX0_send, Cond.selects RX0 yX0_send yX0_send, Cond.code yX0_send cX0_send 5 (some (.object "TwinLog$Message")), Cond.fieldLink RX0 30 "TwinLog$Message" "kind" "I", Cond.fieldLink RX0 33 "TwinLog$Node" "number" "I", Cond.fieldLink RX0 38 "TwinLog$Message" "to" "I", Cond.fieldLink RX0 41 "TwinLog$Node" "term" "I", Cond.fieldLink RX0 44 "TwinLog$Message" "term" "I", Cond.fieldLink RX0 45 "TwinLog$Message" "number" "I", Cond.methodLink RX0 26 yX0_isFull, Cond.instanceMethod yX0_isFull, Cond.selects RX0 yX0_isFull yX0_isFull, Cond.code yX0_isFull cX0_isFull 1 (some .boolean), Cond.methodLink RX3 137 yX2_follow, Cond.instanceMethod yX2_follow, Cond.selects RX2 yX2_follow yX2_follow, Cond.initialized RX2, Cond.code yX2_follow cX2_follow 2 (some .boolean), Cond.fieldLink RX2 18 "TwinLog$Node" "primary" "Z", Cond.methodLink RX2 54 yX2_changeTerm]
def wsX3_pump_r3 : List Cond := [Cond.instanceMethod yX2_changeTerm, Cond.selects RX2 yX2_changeTerm yX2_changeTerm, Cond.code yX2_changeTerm cX2_changeTerm 2 (some .boolean), Cond.fieldLink RX2 15 "TwinLog$Node" "term" "I", Cond.methodLink RX2 50 yX2_startWrite, Cond.instanceMethod yX2_startWrite, Cond.selects RX2 yX2_startWrite yX2_startWrite, Cond.code yX2_startWrite cX2_startWrite 1 (some .boolean), Cond.fieldLink RX2 38 "TwinLog$Node" "fuseLeft" "I", Cond.fieldLink RX2 44 "TwinLog$Node" "writes" "I", Cond.methodLink RX2 41 yX2_goDown, Cond.instanceMethod yX2_goDown, Cond.selects RX2 yX2_goDown yX2_goDown, Cond.code yX2_goDown cX2_goDown 1 none, Cond.fieldLink RX2 32 "TwinLog$Node" "up" "Z", Cond.methodLink RX3 140 yX3_takeShip, Cond.instanceMethod yX3_takeShip, Cond.selects RX3 yX3_takeShip yX3_takeShip, Cond.code yX3_takeShip cX3_takeShip 4 none, Cond.fieldLink RX3 43 "TwinLog$Node" "length" "I", Cond.fieldLink RX3 151 "TwinLog$Message" "termBefore" "I", Cond.methodLink RX3 154 yX2_hasEntryOfTerm, Cond.instanceMethod yX2_hasEntryOfTerm, Cond.selects RX2 yX2_hasEntryOfTerm yX2_hasEntryOfTerm]
def wsX3_pump_r4 : List Cond := [Cond.code yX2_hasEntryOfTerm cX2_hasEntryOfTerm 3 (some .boolean), Cond.fieldLink RX2 22 "TwinLog$Node" "terms" "[I", Cond.methodLink RX2 58 yX2_hasEntry, Cond.instanceMethod yX2_hasEntry, Cond.selects RX2 yX2_hasEntry yX2_hasEntry, Cond.code yX2_hasEntry cX2_hasEntry 2 (some .boolean), Cond.fieldLink RX2 47 "TwinLog$Node" "length" "I", Cond.methodLink RX3 158 yX2_cutTo, Cond.instanceMethod yX2_cutTo, Cond.selects RX2 yX2_cutTo yX2_cutTo, Cond.code yX2_cutTo cX2_cutTo 2 (some .boolean), Cond.methodLink RX3 161 yX3_fitLog, Cond.static yX3_fitLog, Cond.code yX3_fitLog cX3_fitLog 4 (some .boolean), Cond.fieldLink RX3 164 "TwinLog$Message" "entryTerm" "I", Cond.fieldLink RX3 167 "TwinLog$Message" "key" "I", Cond.fieldLink RX3 170 "TwinLog$Message" "value" "I", Cond.fieldLink RX3 173 "TwinLog$Message" "senderLength" "I", Cond.methodLink RX3 117 yX2_hasEntry, Cond.methodLink RX3 133 yX2_isEntry, Cond.instanceMethod yX2_isEntry, Cond.selects RX2 yX2_isEntry yX2_isEntry, Cond.code yX2_isEntry cX2_isEntry 5 (some .boolean), Cond.fieldLink RX2 26 "TwinLog$Node" "keys" "[I"]
def wsX3_pump_r5 : List Cond := [Cond.fieldLink RX2 29 "TwinLog$Node" "values" "[I", Cond.methodLink RX2 61 yX2_hasEntryOfTerm, Cond.methodLink RX3 54 yX2_append, Cond.instanceMethod yX2_append, Cond.selects RX2 yX2_append yX2_append, Cond.code yX2_append cX2_append 4 (some .boolean), Cond.methodLink RX3 144 yX3_takeAck, Cond.instanceMethod yX3_takeAck, Cond.selects RX3 yX3_takeAck yX3_takeAck, Cond.code yX3_takeAck cX3_takeAck 3 none, Cond.fieldLink RX3 107 "TwinLog$Node" "agreed" "I", Cond.methodLink RX3 85 Lib.Math.max.name, Cond.static Lib.Math.max.name, Cond.initialized "java/lang/Math", Cond.code Lib.Math.max.name Lib.Math.max.code 2 (some .int), Cond.methodLink RX3 58 yX3_ship, Cond.instanceMethod yX3_ship, Cond.selects RX3 yX3_ship yX3_ship, Cond.code yX3_ship cX3_ship 4 none, Cond.fieldLink RX3 120 "TwinLog$Node" "terms" "[I", Cond.fieldLink RX3 62 "TwinLog$Node" "keys" "[I", Cond.fieldLink RX3 66 "TwinLog$Node" "values" "[I", Cond.methodLink RX3 148 yX3_takeWant, Cond.instanceMethod yX3_takeWant]
def wsX3_pump_r6 : List Cond := [Cond.selects RX3 yX3_takeWant yX3_takeWant, Cond.code yX3_takeWant cX3_takeWant 3 none, Cond.methodLink RX3 130 Lib.Math.min.name, Cond.static Lib.Math.min.name, Cond.code Lib.Math.min.name Lib.Math.min.code 2 (some .int)]
def wsX3_pump : List Cond := .code yX3_pump cX3_pump 3 (some .int) :: ((wsX3_pump_r1 ++ (wsX3_pump_r2 ++ (wsX3_pump_r3 ++ (wsX3_pump_r4 ++ (wsX3_pump_r5 ++ wsX3_pump_r6))))) ++ wsX30 ++ wsX10 ++ wsX20 ++ wsX00)
def wsX3_drop : List Cond := .code yX3_drop cX3_drop 2 (some .boolean) :: ([.fieldLink RX3 24 "TwinLog" "link" "LTwinLog$Link;", .methodLink RX3 69 yX0_take, .instanceMethod yX0_take, .selects RX0 yX0_take yX0_take, .initialized RX0, .code yX0_take cX0_take 4 (some (.object "TwinLog$Message")), .fieldLink RX0 22 "TwinLog$Link" "count" "I", .fieldLink RX0 11 "TwinLog$Link" "slots" "[LTwinLog$Message;", .fieldLink RX0 18 "TwinLog$Link" "spare" "LTwinLog$Message;", .methodLink RX0 46 yX0_at, .instanceMethod yX0_at, .selects RX0 yX0_at yX0_at, .code yX0_at cX0_at 2 (some (.object "TwinLog$Message"))] ++ wsX30 ++ wsX00)
def wsX3_fuse : List Cond := .code yX3_fuse cX3_fuse 4 (some .int) :: ([.methodLink RX3 85 Lib.Math.max.name, .static Lib.Math.max.name, .initialized "java/lang/Math", .code Lib.Math.max.name Lib.Math.max.code 2 (some .int), .fieldLink RX3 91 "TwinLog$Node" "fuseLeft" "I", .methodLink RX3 28 yX3_nodeOf, .instanceMethod yX3_nodeOf, .selects RX3 yX3_nodeOf yX3_nodeOf, .initialized RX3, .code yX3_nodeOf cX3_nodeOf 2 (some (.object "TwinLog$Node")), .fieldLink RX3 12 "TwinLog" "zero" "LTwinLog$Node;", .fieldLink RX3 18 "TwinLog" "one" "LTwinLog$Node;"] ++ wsX20 ++ wsX30)
def wsX3_crash : List Cond := .code yX3_crash cX3_crash 4 (some .int) :: ([.fieldLink RX3 36 "TwinLog$Node" "up" "Z", .methodLink RX3 28 yX3_nodeOf, .instanceMethod yX3_nodeOf, .selects RX3 yX3_nodeOf yX3_nodeOf, .initialized RX3, .code yX3_nodeOf cX3_nodeOf 2 (some (.object "TwinLog$Node")), .fieldLink RX3 12 "TwinLog" "zero" "LTwinLog$Node;", .fieldLink RX3 18 "TwinLog" "one" "LTwinLog$Node;", .methodLink RX3 94 yX2_goDown, .instanceMethod yX2_goDown, .selects RX2 yX2_goDown yX2_goDown, .initialized RX2, .code yX2_goDown cX2_goDown 1 none, .fieldLink RX2 32 "TwinLog$Node" "up" "Z", .fieldLink RX2 18 "TwinLog$Node" "primary" "Z", .fieldLink RX2 38 "TwinLog$Node" "fuseLeft" "I"] ++ wsX20 ++ wsX30)
def wsX3_recover : List Cond := .code yX3_recover cX3_recover 3 (some .int) :: ([.fieldLink RX3 36 "TwinLog$Node" "up" "Z", .fieldLink RX3 43 "TwinLog$Node" "length" "I", .methodLink RX3 28 yX3_nodeOf, .instanceMethod yX3_nodeOf, .selects RX3 yX3_nodeOf yX3_nodeOf, .initialized RX3, .code yX3_nodeOf cX3_nodeOf 2 (some (.object "TwinLog$Node")), .fieldLink RX3 12 "TwinLog" "zero" "LTwinLog$Node;", .fieldLink RX3 18 "TwinLog" "one" "LTwinLog$Node;", .methodLink RX3 97 yX2_comeUp, .instanceMethod yX2_comeUp, .selects RX2 yX2_comeUp yX2_comeUp, .initialized RX2, .code yX2_comeUp cX2_comeUp 1 none, .fieldLink RX2 32 "TwinLog$Node" "up" "Z", .fieldLink RX2 38 "TwinLog$Node" "fuseLeft" "I"] ++ wsX20 ++ wsX30)
def wsX3_promote_r1 : List Cond := [Cond.fieldLink RX3 36 "TwinLog$Node" "up" "Z", Cond.fieldLink RX3 40 "TwinLog$Node" "primary" "Z", Cond.fieldLink RX3 107 "TwinLog$Node" "agreed" "I", Cond.fieldLink RX3 51 "TwinLog$Node" "term" "I", Cond.methodLink RX3 28 yX3_nodeOf, Cond.instanceMethod yX3_nodeOf, Cond.selects RX3 yX3_nodeOf yX3_nodeOf, Cond.initialized RX3, Cond.code yX3_nodeOf cX3_nodeOf 2 (some (.object "TwinLog$Node")), Cond.fieldLink RX3 12 "TwinLog" "zero" "LTwinLog$Node;", Cond.fieldLink RX3 18 "TwinLog" "one" "LTwinLog$Node;", Cond.methodLink RX3 100 yX2_nextOwnTerm, Cond.instanceMethod yX2_nextOwnTerm, Cond.selects RX2 yX2_nextOwnTerm yX2_nextOwnTerm, Cond.initialized RX2, Cond.code yX2_nextOwnTerm cX2_nextOwnTerm 1 (some .int), Cond.fieldLink RX2 15 "TwinLog$Node" "term" "I", Cond.fieldLink RX2 9 "TwinLog$Node" "number" "I", Cond.methodLink RX3 104 yX2_changeTerm, Cond.instanceMethod yX2_changeTerm, Cond.selects RX2 yX2_changeTerm yX2_changeTerm, Cond.code yX2_changeTerm cX2_changeTerm 2 (some .boolean), Cond.methodLink RX2 50 yX2_startWrite, Cond.instanceMethod yX2_startWrite]
def wsX3_promote_r2 : List Cond := [Cond.selects RX2 yX2_startWrite yX2_startWrite, Cond.code yX2_startWrite cX2_startWrite 1 (some .boolean), Cond.fieldLink RX2 38 "TwinLog$Node" "fuseLeft" "I", Cond.fieldLink RX2 44 "TwinLog$Node" "writes" "I", Cond.methodLink RX2 41 yX2_goDown, Cond.instanceMethod yX2_goDown, Cond.selects RX2 yX2_goDown yX2_goDown, Cond.code yX2_goDown cX2_goDown 1 none, Cond.fieldLink RX2 32 "TwinLog$Node" "up" "Z", Cond.fieldLink RX2 18 "TwinLog$Node" "primary" "Z"]
def wsX3_promote : List Cond := .code yX3_promote cX3_promote 3 (some .int) :: ((wsX3_promote_r1 ++ wsX3_promote_r2) ++ wsX20 ++ wsX30)
def wsX3_rejoin_r1 : List Cond := [Cond.fieldLink RX3 36 "TwinLog$Node" "up" "Z", Cond.fieldLink RX3 40 "TwinLog$Node" "primary" "Z", Cond.fieldLink RX3 24 "TwinLog" "link" "LTwinLog$Link;", Cond.fieldLink RX3 43 "TwinLog$Node" "length" "I", Cond.methodLink RX3 28 yX3_nodeOf, Cond.instanceMethod yX3_nodeOf, Cond.selects RX3 yX3_nodeOf yX3_nodeOf, Cond.initialized RX3, Cond.code yX3_nodeOf cX3_nodeOf 2 (some (.object "TwinLog$Node")), Cond.fieldLink RX3 12 "TwinLog" "zero" "LTwinLog$Node;", Cond.fieldLink RX3 18 "TwinLog" "one" "LTwinLog$Node;", Cond.methodLink RX3 47 yX0_isFull, Cond.instanceMethod yX0_isFull, Cond.selects RX0 yX0_isFull yX0_isFull, Cond.initialized RX0, Cond.code yX0_isFull cX0_isFull 1 (some .boolean), Cond.fieldLink RX0 22 "TwinLog$Link" "count" "I", Cond.methodLink RX3 110 yX0_send, Cond.instanceMethod yX0_send, Cond.selects RX0 yX0_send yX0_send, Cond.code yX0_send cX0_send 5 (some (.object "TwinLog$Message")), Cond.fieldLink RX0 11 "TwinLog$Link" "slots" "[LTwinLog$Message;", Cond.fieldLink RX0 30 "TwinLog$Message" "kind" "I", Cond.fieldLink RX0 33 "TwinLog$Node" "number" "I"]
def wsX3_rejoin_r2 : List Cond := [Cond.fieldLink RX0 38 "TwinLog$Message" "to" "I", Cond.fieldLink RX0 41 "TwinLog$Node" "term" "I", Cond.fieldLink RX0 44 "TwinLog$Message" "term" "I", Cond.fieldLink RX0 45 "TwinLog$Message" "number" "I", Cond.methodLink RX0 26 yX0_isFull]
def wsX3_rejoin : List Cond := .code yX3_rejoin cX3_rejoin 3 (some .int) :: ((wsX3_rejoin_r1 ++ wsX3_rejoin_r2) ++ wsX20 ++ wsX30 ++ wsX00 ++ wsX10)
def wsX3_told : List Cond := .code yX3_told cX3_told 4 (some .int) :: ([.fieldLink RX3 51 "TwinLog$Node" "term" "I", .fieldLink RX3 43 "TwinLog$Node" "length" "I", .fieldLink RX3 36 "TwinLog$Node" "up" "Z", .fieldLink RX3 40 "TwinLog$Node" "primary" "Z", .fieldLink RX3 107 "TwinLog$Node" "agreed" "I", .fieldLink RX3 91 "TwinLog$Node" "fuseLeft" "I", .fieldLink RX3 114 "TwinLog$Node" "writes" "I", .methodLink RX3 28 yX3_nodeOf, .instanceMethod yX3_nodeOf, .selects RX3 yX3_nodeOf yX3_nodeOf, .initialized RX3, .code yX3_nodeOf cX3_nodeOf 2 (some (.object "TwinLog$Node")), .fieldLink RX3 12 "TwinLog" "zero" "LTwinLog$Node;", .fieldLink RX3 18 "TwinLog" "one" "LTwinLog$Node;"] ++ wsX20 ++ wsX30)
def wsX3_entry : List Cond := .code yX3_entry cX3_entry 5 (some .int) :: ([.fieldLink RX3 120 "TwinLog$Node" "terms" "[I", .fieldLink RX3 62 "TwinLog$Node" "keys" "[I", .fieldLink RX3 66 "TwinLog$Node" "values" "[I", .methodLink RX3 28 yX3_nodeOf, .instanceMethod yX3_nodeOf, .selects RX3 yX3_nodeOf yX3_nodeOf, .initialized RX3, .code yX3_nodeOf cX3_nodeOf 2 (some (.object "TwinLog$Node")), .fieldLink RX3 12 "TwinLog" "zero" "LTwinLog$Node;", .fieldLink RX3 18 "TwinLog" "one" "LTwinLog$Node;", .methodLink RX3 117 yX2_hasEntry, .instanceMethod yX2_hasEntry, .selects RX2 yX2_hasEntry yX2_hasEntry, .initialized RX2, .code yX2_hasEntry cX2_hasEntry 2 (some .boolean), .fieldLink RX2 47 "TwinLog$Node" "length" "I"] ++ wsX20 ++ wsX30)
def wsX3_message : List Cond := .code yX3_message cX3_message 4 (some .int) :: ([.fieldLink RX3 24 "TwinLog" "link" "LTwinLog$Link;", .fieldLink RX3 78 "TwinLog$Message" "kind" "I", .fieldLink RX3 73 "TwinLog$Message" "to" "I", .fieldLink RX3 126 "TwinLog$Message" "term" "I", .fieldLink RX3 127 "TwinLog$Message" "number" "I", .methodLink RX3 123 yX0_at, .instanceMethod yX0_at, .selects RX0 yX0_at yX0_at, .initialized RX0, .code yX0_at cX0_at 2 (some (.object "TwinLog$Message")), .fieldLink RX0 22 "TwinLog$Link" "count" "I", .fieldLink RX0 11 "TwinLog$Link" "slots" "[LTwinLog$Message;"] ++ wsX30 ++ wsX10 ++ wsX00)
def wsX3_same_r1 : List Cond := [Cond.fieldLink RX3 12 "TwinLog" "zero" "LTwinLog$Node;", Cond.fieldLink RX3 43 "TwinLog$Node" "length" "I", Cond.fieldLink RX3 18 "TwinLog" "one" "LTwinLog$Node;", Cond.methodLink RX3 130 Lib.Math.min.name, Cond.static Lib.Math.min.name, Cond.initialized "java/lang/Math", Cond.code Lib.Math.min.name Lib.Math.min.code 2 (some .int), Cond.fieldLink RX3 120 "TwinLog$Node" "terms" "[I", Cond.fieldLink RX3 62 "TwinLog$Node" "keys" "[I", Cond.fieldLink RX3 66 "TwinLog$Node" "values" "[I", Cond.methodLink RX3 133 yX2_isEntry, Cond.instanceMethod yX2_isEntry, Cond.selects RX2 yX2_isEntry yX2_isEntry, Cond.initialized RX2, Cond.code yX2_isEntry cX2_isEntry 5 (some .boolean), Cond.fieldLink RX2 26 "TwinLog$Node" "keys" "[I", Cond.fieldLink RX2 29 "TwinLog$Node" "values" "[I", Cond.methodLink RX2 61 yX2_hasEntryOfTerm, Cond.instanceMethod yX2_hasEntryOfTerm, Cond.selects RX2 yX2_hasEntryOfTerm yX2_hasEntryOfTerm, Cond.code yX2_hasEntryOfTerm cX2_hasEntryOfTerm 3 (some .boolean), Cond.fieldLink RX2 22 "TwinLog$Node" "terms" "[I", Cond.methodLink RX2 58 yX2_hasEntry, Cond.instanceMethod yX2_hasEntry]
def wsX3_same_r2 : List Cond := [Cond.selects RX2 yX2_hasEntry yX2_hasEntry, Cond.code yX2_hasEntry cX2_hasEntry 2 (some .boolean), Cond.fieldLink RX2 47 "TwinLog$Node" "length" "I"]
def wsX3_same : List Cond := .code yX3_same cX3_same 3 (some .int) :: ((wsX3_same_r1 ++ wsX3_same_r2) ++ wsX30 ++ wsX20)
def wsX4_init : List Cond := .code yX4_init cX4_init 1 none :: ([.methodLink RX4 1 objectInit, .instanceMethod objectInit, .code objectInit ⟨#[0xb1]⟩ 1 none, .arrayClass .int, .fieldLink RX4 7 "TwinLogModel" "terms" "[I", .fieldLink RX4 13 "TwinLogModel" "lengths" "[I", .arrayClass .boolean, .fieldLink RX4 16 "TwinLogModel" "down" "[Z", .fieldLink RX4 20 "TwinLogModel" "primary" "[Z", .fieldLink RX4 23 "TwinLogModel" "agreed" "[I", .fieldLink RX4 26 "TwinLogModel" "fuses" "[I", .fieldLink RX4 29 "TwinLogModel" "writes" "[I", .fieldLink RX4 32 "TwinLogModel" "entryTerms" "[I", .fieldLink RX4 35 "TwinLogModel" "entryKeys" "[I", .fieldLink RX4 38 "TwinLogModel" "entryValues" "[I", .fieldLink RX4 41 "TwinLogModel" "messages" "[I", .fieldLink RX4 44 "TwinLogModel" "come" "[I"] ++ wsX40)
def wsX4_isNode : List Cond := .code yX4_isNode cX4_isNode 1 (some .boolean) :: ([])
def wsX4_writes : List Cond := .code yX4_writes cX4_writes 2 (some .boolean) :: ([.fieldLink RX4 26 "TwinLogModel" "fuses" "[I", .fieldLink RX4 16 "TwinLogModel" "down" "[Z", .fieldLink RX4 20 "TwinLogModel" "primary" "[Z", .fieldLink RX4 29 "TwinLogModel" "writes" "[I"] ++ wsX40)
def wsX4_putBehind : List Cond := .code yX4_putBehind cX4_putBehind 6 (some .boolean) :: ([.fieldLink RX4 13 "TwinLogModel" "lengths" "[I", .fieldLink RX4 32 "TwinLogModel" "entryTerms" "[I", .fieldLink RX4 35 "TwinLogModel" "entryKeys" "[I", .fieldLink RX4 38 "TwinLogModel" "entryValues" "[I", .methodLink RX4 47 yX4_writes, .instanceMethod yX4_writes, .selects RX4 yX4_writes yX4_writes, .initialized RX4, .code yX4_writes cX4_writes 2 (some .boolean), .fieldLink RX4 26 "TwinLogModel" "fuses" "[I", .fieldLink RX4 16 "TwinLogModel" "down" "[Z", .fieldLink RX4 20 "TwinLogModel" "primary" "[Z", .fieldLink RX4 29 "TwinLogModel" "writes" "[I"] ++ wsX40)
def wsX4_cutTo : List Cond := .code yX4_cutTo cX4_cutTo 3 (some .boolean) :: ([.fieldLink RX4 13 "TwinLogModel" "lengths" "[I", .methodLink RX4 47 yX4_writes, .instanceMethod yX4_writes, .selects RX4 yX4_writes yX4_writes, .initialized RX4, .code yX4_writes cX4_writes 2 (some .boolean), .fieldLink RX4 26 "TwinLogModel" "fuses" "[I", .fieldLink RX4 16 "TwinLogModel" "down" "[Z", .fieldLink RX4 20 "TwinLogModel" "primary" "[Z", .fieldLink RX4 29 "TwinLogModel" "writes" "[I"] ++ wsX40)
def wsX4_becomeTerm : List Cond := .code yX4_becomeTerm cX4_becomeTerm 3 (some .boolean) :: ([.fieldLink RX4 7 "TwinLogModel" "terms" "[I", .methodLink RX4 47 yX4_writes, .instanceMethod yX4_writes, .selects RX4 yX4_writes yX4_writes, .initialized RX4, .code yX4_writes cX4_writes 2 (some .boolean), .fieldLink RX4 26 "TwinLogModel" "fuses" "[I", .fieldLink RX4 16 "TwinLogModel" "down" "[Z", .fieldLink RX4 20 "TwinLogModel" "primary" "[Z", .fieldLink RX4 29 "TwinLogModel" "writes" "[I"] ++ wsX40)
def wsX4_send : List Cond := .code yX4_send cX4_send 6 none :: ([.fieldLink RX4 50 "TwinLogModel" "many" "I", .fieldLink RX4 41 "TwinLogModel" "messages" "[I", .fieldLink RX4 7 "TwinLogModel" "terms" "[I", .fieldLink RX4 32 "TwinLogModel" "entryTerms" "[I", .fieldLink RX4 35 "TwinLogModel" "entryKeys" "[I", .fieldLink RX4 38 "TwinLogModel" "entryValues" "[I", .fieldLink RX4 13 "TwinLogModel" "lengths" "[I"] ++ wsX40)
def wsX4_remove : List Cond := .code yX4_remove cX4_remove 3 none :: ([.fieldLink RX4 50 "TwinLogModel" "many" "I", .fieldLink RX4 41 "TwinLogModel" "messages" "[I"] ++ wsX40)
def wsX4_put_r1 : List Cond := [Cond.fieldLink RX4 16 "TwinLogModel" "down" "[Z", Cond.fieldLink RX4 20 "TwinLogModel" "primary" "[Z", Cond.fieldLink RX4 13 "TwinLogModel" "lengths" "[I", Cond.fieldLink RX4 50 "TwinLogModel" "many" "I", Cond.fieldLink RX4 7 "TwinLogModel" "terms" "[I", Cond.methodLink RX4 54 yX4_isNode, Cond.static yX4_isNode, Cond.initialized RX4, Cond.code yX4_isNode cX4_isNode 1 (some .boolean), Cond.methodLink RX4 57 yX4_putBehind, Cond.instanceMethod yX4_putBehind, Cond.selects RX4 yX4_putBehind yX4_putBehind, Cond.code yX4_putBehind cX4_putBehind 6 (some .boolean), Cond.fieldLink RX4 32 "TwinLogModel" "entryTerms" "[I", Cond.fieldLink RX4 35 "TwinLogModel" "entryKeys" "[I", Cond.fieldLink RX4 38 "TwinLogModel" "entryValues" "[I", Cond.methodLink RX4 47 yX4_writes, Cond.instanceMethod yX4_writes, Cond.selects RX4 yX4_writes yX4_writes, Cond.code yX4_writes cX4_writes 2 (some .boolean), Cond.fieldLink RX4 26 "TwinLogModel" "fuses" "[I", Cond.fieldLink RX4 29 "TwinLogModel" "writes" "[I", Cond.methodLink RX4 61 yX4_send, Cond.instanceMethod yX4_send]
def wsX4_put_r2 : List Cond := [Cond.selects RX4 yX4_send yX4_send, Cond.code yX4_send cX4_send 6 none, Cond.fieldLink RX4 41 "TwinLogModel" "messages" "[I"]
def wsX4_put : List Cond := .code yX4_put cX4_put 4 (some .int) :: ((wsX4_put_r1 ++ wsX4_put_r2) ++ wsX40)
def wsX4_get : List Cond := .code yX4_get cX4_get 5 (some .int) :: ([.fieldLink RX4 13 "TwinLogModel" "lengths" "[I", .fieldLink RX4 35 "TwinLogModel" "entryKeys" "[I", .fieldLink RX4 38 "TwinLogModel" "entryValues" "[I", .methodLink RX4 54 yX4_isNode, .static yX4_isNode, .initialized RX4, .code yX4_isNode cX4_isNode 1 (some .boolean)] ++ wsX40)
def wsX4_shipped_r1 : List Cond := [Cond.fieldLink RX4 13 "TwinLogModel" "lengths" "[I", Cond.fieldLink RX4 32 "TwinLogModel" "entryTerms" "[I", Cond.fieldLink RX4 44 "TwinLogModel" "come" "[I", Cond.fieldLink RX4 35 "TwinLogModel" "entryKeys" "[I", Cond.fieldLink RX4 38 "TwinLogModel" "entryValues" "[I", Cond.methodLink RX4 61 yX4_send, Cond.instanceMethod yX4_send, Cond.selects RX4 yX4_send yX4_send, Cond.initialized RX4, Cond.code yX4_send cX4_send 6 none, Cond.fieldLink RX4 50 "TwinLogModel" "many" "I", Cond.fieldLink RX4 41 "TwinLogModel" "messages" "[I", Cond.fieldLink RX4 7 "TwinLogModel" "terms" "[I", Cond.methodLink RX4 80 yX4_cutTo, Cond.instanceMethod yX4_cutTo, Cond.selects RX4 yX4_cutTo yX4_cutTo, Cond.code yX4_cutTo cX4_cutTo 3 (some .boolean), Cond.methodLink RX4 47 yX4_writes, Cond.instanceMethod yX4_writes, Cond.selects RX4 yX4_writes yX4_writes, Cond.code yX4_writes cX4_writes 2 (some .boolean), Cond.fieldLink RX4 26 "TwinLogModel" "fuses" "[I", Cond.fieldLink RX4 16 "TwinLogModel" "down" "[Z", Cond.fieldLink RX4 20 "TwinLogModel" "primary" "[Z"]
def wsX4_shipped_r2 : List Cond := [Cond.fieldLink RX4 29 "TwinLogModel" "writes" "[I", Cond.methodLink RX4 57 yX4_putBehind, Cond.instanceMethod yX4_putBehind, Cond.selects RX4 yX4_putBehind yX4_putBehind, Cond.code yX4_putBehind cX4_putBehind 6 (some .boolean)]
def wsX4_shipped : List Cond := .code yX4_shipped cX4_shipped 4 none :: ((wsX4_shipped_r1 ++ wsX4_shipped_r2) ++ wsX40)
def wsX4_shipIfThere : List Cond := .code yX4_shipIfThere cX4_shipIfThere 3 none :: ([.fieldLink RX4 13 "TwinLogModel" "lengths" "[I", .methodLink RX4 61 yX4_send, .instanceMethod yX4_send, .selects RX4 yX4_send yX4_send, .initialized RX4, .code yX4_send cX4_send 6 none, .fieldLink RX4 50 "TwinLogModel" "many" "I", .fieldLink RX4 41 "TwinLogModel" "messages" "[I", .fieldLink RX4 7 "TwinLogModel" "terms" "[I", .fieldLink RX4 32 "TwinLogModel" "entryTerms" "[I", .fieldLink RX4 35 "TwinLogModel" "entryKeys" "[I", .fieldLink RX4 38 "TwinLogModel" "entryValues" "[I"] ++ wsX40)
def wsX4_pump_r1 : List Cond := [Cond.fieldLink RX4 50 "TwinLogModel" "many" "I", Cond.fieldLink RX4 44 "TwinLogModel" "come" "[I", Cond.fieldLink RX4 41 "TwinLogModel" "messages" "[I", Cond.fieldLink RX4 16 "TwinLogModel" "down" "[Z", Cond.fieldLink RX4 7 "TwinLogModel" "terms" "[I", Cond.fieldLink RX4 20 "TwinLogModel" "primary" "[Z", Cond.fieldLink RX4 23 "TwinLogModel" "agreed" "[I", Cond.fieldLink RX4 13 "TwinLogModel" "lengths" "[I", Cond.methodLink RX4 65 yX4_remove, Cond.instanceMethod yX4_remove, Cond.selects RX4 yX4_remove yX4_remove, Cond.initialized RX4, Cond.code yX4_remove cX4_remove 3 none, Cond.methodLink RX4 61 yX4_send, Cond.instanceMethod yX4_send, Cond.selects RX4 yX4_send yX4_send, Cond.code yX4_send cX4_send 6 none, Cond.fieldLink RX4 32 "TwinLogModel" "entryTerms" "[I", Cond.fieldLink RX4 35 "TwinLogModel" "entryKeys" "[I", Cond.fieldLink RX4 38 "TwinLogModel" "entryValues" "[I", Cond.methodLink RX4 69 yX4_becomeTerm, Cond.instanceMethod yX4_becomeTerm, Cond.selects RX4 yX4_becomeTerm yX4_becomeTerm, Cond.code yX4_becomeTerm cX4_becomeTerm 3 (some .boolean)]
def wsX4_pump_r2 : List Cond := [Cond.methodLink RX4 47 yX4_writes, Cond.instanceMethod yX4_writes, Cond.selects RX4 yX4_writes yX4_writes, Cond.code yX4_writes cX4_writes 2 (some .boolean), Cond.fieldLink RX4 26 "TwinLogModel" "fuses" "[I", Cond.fieldLink RX4 29 "TwinLogModel" "writes" "[I", Cond.methodLink RX4 73 yX4_shipped, Cond.instanceMethod yX4_shipped, Cond.selects RX4 yX4_shipped yX4_shipped, Cond.code yX4_shipped cX4_shipped 4 none, Cond.methodLink RX4 80 yX4_cutTo, Cond.instanceMethod yX4_cutTo, Cond.selects RX4 yX4_cutTo yX4_cutTo, Cond.code yX4_cutTo cX4_cutTo 3 (some .boolean), Cond.methodLink RX4 57 yX4_putBehind, Cond.instanceMethod yX4_putBehind, Cond.selects RX4 yX4_putBehind yX4_putBehind, Cond.code yX4_putBehind cX4_putBehind 6 (some .boolean), Cond.methodLink RX4 77 yX4_shipIfThere, Cond.instanceMethod yX4_shipIfThere, Cond.selects RX4 yX4_shipIfThere yX4_shipIfThere, Cond.code yX4_shipIfThere cX4_shipIfThere 3 none]
def wsX4_pump : List Cond := .code yX4_pump cX4_pump 2 (some .int) :: ((wsX4_pump_r1 ++ wsX4_pump_r2) ++ wsX40)
def wsX4_drop : List Cond := .code yX4_drop cX4_drop 2 (some .boolean) :: ([.fieldLink RX4 50 "TwinLogModel" "many" "I", .methodLink RX4 65 yX4_remove, .instanceMethod yX4_remove, .selects RX4 yX4_remove yX4_remove, .initialized RX4, .code yX4_remove cX4_remove 3 none, .fieldLink RX4 41 "TwinLogModel" "messages" "[I"] ++ wsX40)
def wsX4_fuse : List Cond := .code yX4_fuse cX4_fuse 3 (some .int) :: ([.fieldLink RX4 26 "TwinLogModel" "fuses" "[I", .methodLink RX4 54 yX4_isNode, .static yX4_isNode, .initialized RX4, .code yX4_isNode cX4_isNode 1 (some .boolean)] ++ wsX40)
def wsX4_crash : List Cond := .code yX4_crash cX4_crash 3 (some .int) :: ([.fieldLink RX4 16 "TwinLogModel" "down" "[Z", .fieldLink RX4 20 "TwinLogModel" "primary" "[Z", .fieldLink RX4 26 "TwinLogModel" "fuses" "[I", .methodLink RX4 54 yX4_isNode, .static yX4_isNode, .initialized RX4, .code yX4_isNode cX4_isNode 1 (some .boolean)] ++ wsX40)
def wsX4_recover : List Cond := .code yX4_recover cX4_recover 2 (some .int) :: ([.fieldLink RX4 16 "TwinLogModel" "down" "[Z", .fieldLink RX4 20 "TwinLogModel" "primary" "[Z", .fieldLink RX4 26 "TwinLogModel" "fuses" "[I", .fieldLink RX4 13 "TwinLogModel" "lengths" "[I", .methodLink RX4 54 yX4_isNode, .static yX4_isNode, .initialized RX4, .code yX4_isNode cX4_isNode 1 (some .boolean)] ++ wsX40)
def wsX4_promote : List Cond := .code yX4_promote cX4_promote 3 (some .int) :: ([.fieldLink RX4 16 "TwinLogModel" "down" "[Z", .fieldLink RX4 7 "TwinLogModel" "terms" "[I", .fieldLink RX4 20 "TwinLogModel" "primary" "[Z", .fieldLink RX4 23 "TwinLogModel" "agreed" "[I", .methodLink RX4 54 yX4_isNode, .static yX4_isNode, .initialized RX4, .code yX4_isNode cX4_isNode 1 (some .boolean), .methodLink RX4 69 yX4_becomeTerm, .instanceMethod yX4_becomeTerm, .selects RX4 yX4_becomeTerm yX4_becomeTerm, .code yX4_becomeTerm cX4_becomeTerm 3 (some .boolean), .methodLink RX4 47 yX4_writes, .instanceMethod yX4_writes, .selects RX4 yX4_writes yX4_writes, .code yX4_writes cX4_writes 2 (some .boolean), .fieldLink RX4 26 "TwinLogModel" "fuses" "[I", .fieldLink RX4 29 "TwinLogModel" "writes" "[I"] ++ wsX40)
def wsX4_rejoin : List Cond := .code yX4_rejoin cX4_rejoin 2 (some .int) :: ([.fieldLink RX4 16 "TwinLogModel" "down" "[Z", .fieldLink RX4 20 "TwinLogModel" "primary" "[Z", .fieldLink RX4 50 "TwinLogModel" "many" "I", .fieldLink RX4 13 "TwinLogModel" "lengths" "[I", .methodLink RX4 54 yX4_isNode, .static yX4_isNode, .initialized RX4, .code yX4_isNode cX4_isNode 1 (some .boolean), .methodLink RX4 61 yX4_send, .instanceMethod yX4_send, .selects RX4 yX4_send yX4_send, .code yX4_send cX4_send 6 none, .fieldLink RX4 41 "TwinLogModel" "messages" "[I", .fieldLink RX4 7 "TwinLogModel" "terms" "[I", .fieldLink RX4 32 "TwinLogModel" "entryTerms" "[I", .fieldLink RX4 35 "TwinLogModel" "entryKeys" "[I", .fieldLink RX4 38 "TwinLogModel" "entryValues" "[I"] ++ wsX40)
def wsX4_told : List Cond := .code yX4_told cX4_told 3 (some .int) :: ([.fieldLink RX4 7 "TwinLogModel" "terms" "[I", .fieldLink RX4 13 "TwinLogModel" "lengths" "[I", .fieldLink RX4 16 "TwinLogModel" "down" "[Z", .fieldLink RX4 20 "TwinLogModel" "primary" "[Z", .fieldLink RX4 23 "TwinLogModel" "agreed" "[I", .fieldLink RX4 26 "TwinLogModel" "fuses" "[I", .fieldLink RX4 29 "TwinLogModel" "writes" "[I", .methodLink RX4 54 yX4_isNode, .static yX4_isNode, .initialized RX4, .code yX4_isNode cX4_isNode 1 (some .boolean)] ++ wsX40)
def wsX4_entry : List Cond := .code yX4_entry cX4_entry 5 (some .int) :: ([.fieldLink RX4 13 "TwinLogModel" "lengths" "[I", .fieldLink RX4 32 "TwinLogModel" "entryTerms" "[I", .fieldLink RX4 35 "TwinLogModel" "entryKeys" "[I", .fieldLink RX4 38 "TwinLogModel" "entryValues" "[I", .methodLink RX4 54 yX4_isNode, .static yX4_isNode, .initialized RX4, .code yX4_isNode cX4_isNode 1 (some .boolean)] ++ wsX40)
def wsX4_message : List Cond := .code yX4_message cX4_message 3 (some .int) :: ([.fieldLink RX4 50 "TwinLogModel" "many" "I", .fieldLink RX4 41 "TwinLogModel" "messages" "[I"] ++ wsX40)
def wsX4_same : List Cond := .code yX4_same cX4_same 2 (some .int) :: ([.fieldLink RX4 13 "TwinLogModel" "lengths" "[I", .fieldLink RX4 32 "TwinLogModel" "entryTerms" "[I", .fieldLink RX4 35 "TwinLogModel" "entryKeys" "[I", .fieldLink RX4 38 "TwinLogModel" "entryValues" "[I"] ++ wsX40)
def wsJ9_max_7cf53 : List Cond := .code yJ9_max_7cf53 cJ9_max_7cf53 2 (some .int) :: ([])
def wsJ9_min_7cf53 : List Cond := .code yJ9_min_7cf53 cJ9_min_7cf53 2 (some .int) :: ([])
def wsL_law_r1 : List Cond := [Cond.classLink RL 7 RX3, Cond.instantiable RX3 3, Cond.initialized RX3, Cond.classLink RL 10 RX4, Cond.instantiable RX4 13, Cond.initialized RX4, Cond.methodLink RL 9 yX3_init, Cond.instanceMethod yX3_init, Cond.code yX3_init cX3_init 1 none, Cond.methodLink RX3 1 objectInit, Cond.instanceMethod objectInit, Cond.code objectInit ⟨#[0xb1]⟩ 1 none, Cond.classLink RX3 7 RX2, Cond.instantiable RX2 11, Cond.initialized RX2, Cond.fieldLink RX3 12 "TwinLog" "zero" "LTwinLog$Node;", Cond.fieldLink RX3 18 "TwinLog" "one" "LTwinLog$Node;", Cond.classLink RX3 21 RX0, Cond.instantiable RX0 3, Cond.initialized RX0, Cond.fieldLink RX3 24 "TwinLog" "link" "LTwinLog$Link;", Cond.methodLink RX3 9 yX2_init, Cond.instanceMethod yX2_init, Cond.code yX2_init cX2_init 4 none]
def wsL_law_r2 : List Cond := [Cond.methodLink RX2 3 objectInit, Cond.fieldLink RX2 9 "TwinLog$Node" "number" "I", Cond.fieldLink RX2 15 "TwinLog$Node" "term" "I", Cond.fieldLink RX2 18 "TwinLog$Node" "primary" "Z", Cond.arrayClass .int, Cond.fieldLink RX2 22 "TwinLog$Node" "terms" "[I", Cond.fieldLink RX2 26 "TwinLog$Node" "keys" "[I", Cond.fieldLink RX2 29 "TwinLog$Node" "values" "[I", Cond.fieldLink RX2 32 "TwinLog$Node" "up" "Z", Cond.fieldLink RX2 35 "TwinLog$Node" "agreed" "I", Cond.fieldLink RX2 38 "TwinLog$Node" "fuseLeft" "I", Cond.methodLink RX3 23 yX0_init, Cond.instanceMethod yX0_init, Cond.code yX0_init cX0_init 2 none, Cond.methodLink RX0 3 objectInit, Cond.classLink RX0 9 RX1, Cond.fieldLink RX0 11 "TwinLog$Link" "slots" "[LTwinLog$Message;", Cond.instantiable RX1 9, Cond.initialized RX1, Cond.fieldLink RX0 18 "TwinLog$Link" "spare" "LTwinLog$Message;", Cond.instanceMethod yX1_init, Cond.code yX1_init cX1_init 1 none, Cond.methodLink RX1 1 objectInit, Cond.methodLink RL 12 yX4_init]
def wsL_law_r3 : List Cond := [Cond.instanceMethod yX4_init, Cond.code yX4_init cX4_init 1 none, Cond.methodLink RX4 1 objectInit, Cond.fieldLink RX4 7 "TwinLogModel" "terms" "[I", Cond.fieldLink RX4 13 "TwinLogModel" "lengths" "[I", Cond.arrayClass .boolean, Cond.fieldLink RX4 16 "TwinLogModel" "down" "[Z", Cond.fieldLink RX4 20 "TwinLogModel" "primary" "[Z", Cond.fieldLink RX4 23 "TwinLogModel" "agreed" "[I", Cond.fieldLink RX4 26 "TwinLogModel" "fuses" "[I", Cond.fieldLink RX4 29 "TwinLogModel" "writes" "[I", Cond.fieldLink RX4 32 "TwinLogModel" "entryTerms" "[I", Cond.fieldLink RX4 35 "TwinLogModel" "entryKeys" "[I", Cond.fieldLink RX4 38 "TwinLogModel" "entryValues" "[I", Cond.fieldLink RX4 41 "TwinLogModel" "messages" "[I", Cond.fieldLink RX4 44 "TwinLogModel" "come" "[I", Cond.methodLink RL 13 yX3_put, Cond.instanceMethod yX3_put, Cond.selects RX3 yX3_put yX3_put, Cond.code yX3_put cX3_put 6 (some .int), Cond.fieldLink RX3 36 "TwinLog$Node" "up" "Z", Cond.fieldLink RX3 40 "TwinLog$Node" "primary" "Z", Cond.fieldLink RX3 43 "TwinLog$Node" "length" "I", Cond.fieldLink RX3 51 "TwinLog$Node" "term" "I"]
def wsL_law_r4 : List Cond := [Cond.methodLink RX3 28 yX3_nodeOf, Cond.instanceMethod yX3_nodeOf, Cond.selects RX3 yX3_nodeOf yX3_nodeOf, Cond.code yX3_nodeOf cX3_nodeOf 2 (some (.object "TwinLog$Node")), Cond.methodLink RX3 32 yX3_isKey, Cond.static yX3_isKey, Cond.code yX3_isKey cX3_isKey 1 (some .boolean), Cond.methodLink RX3 47 yX0_isFull, Cond.instanceMethod yX0_isFull, Cond.selects RX0 yX0_isFull yX0_isFull, Cond.code yX0_isFull cX0_isFull 1 (some .boolean), Cond.fieldLink RX0 22 "TwinLog$Link" "count" "I", Cond.methodLink RX3 54 yX2_append, Cond.instanceMethod yX2_append, Cond.selects RX2 yX2_append yX2_append, Cond.code yX2_append cX2_append 4 (some .boolean), Cond.fieldLink RX2 47 "TwinLog$Node" "length" "I", Cond.methodLink RX2 50 yX2_startWrite, Cond.instanceMethod yX2_startWrite, Cond.selects RX2 yX2_startWrite yX2_startWrite, Cond.code yX2_startWrite cX2_startWrite 1 (some .boolean), Cond.fieldLink RX2 44 "TwinLog$Node" "writes" "I", Cond.methodLink RX2 41 yX2_goDown, Cond.instanceMethod yX2_goDown]
def wsL_law_r5 : List Cond := [Cond.selects RX2 yX2_goDown yX2_goDown, Cond.code yX2_goDown cX2_goDown 1 none, Cond.methodLink RX3 58 yX3_ship, Cond.instanceMethod yX3_ship, Cond.selects RX3 yX3_ship yX3_ship, Cond.code yX3_ship cX3_ship 4 none, Cond.fieldLink RX3 120 "TwinLog$Node" "terms" "[I", Cond.fieldLink RX3 164 "TwinLog$Message" "entryTerm" "I", Cond.fieldLink RX3 62 "TwinLog$Node" "keys" "[I", Cond.fieldLink RX3 167 "TwinLog$Message" "key" "I", Cond.fieldLink RX3 66 "TwinLog$Node" "values" "[I", Cond.fieldLink RX3 170 "TwinLog$Message" "value" "I", Cond.fieldLink RX3 151 "TwinLog$Message" "termBefore" "I", Cond.fieldLink RX3 173 "TwinLog$Message" "senderLength" "I", Cond.methodLink RX3 117 yX2_hasEntry, Cond.instanceMethod yX2_hasEntry, Cond.selects RX2 yX2_hasEntry yX2_hasEntry, Cond.code yX2_hasEntry cX2_hasEntry 2 (some .boolean), Cond.methodLink RX3 110 yX0_send, Cond.instanceMethod yX0_send, Cond.selects RX0 yX0_send yX0_send, Cond.code yX0_send cX0_send 5 (some (.object "TwinLog$Message")), Cond.fieldLink RX0 30 "TwinLog$Message" "kind" "I", Cond.fieldLink RX0 33 "TwinLog$Node" "number" "I"]
def wsL_law_r6 : List Cond := [Cond.fieldLink RX0 38 "TwinLog$Message" "to" "I", Cond.fieldLink RX0 41 "TwinLog$Node" "term" "I", Cond.fieldLink RX0 44 "TwinLog$Message" "term" "I", Cond.fieldLink RX0 45 "TwinLog$Message" "number" "I", Cond.methodLink RX0 26 yX0_isFull, Cond.methodLink RL 17 yX4_put, Cond.instanceMethod yX4_put, Cond.selects RX4 yX4_put yX4_put, Cond.code yX4_put cX4_put 4 (some .int), Cond.fieldLink RX4 50 "TwinLogModel" "many" "I", Cond.methodLink RX4 54 yX4_isNode, Cond.static yX4_isNode, Cond.code yX4_isNode cX4_isNode 1 (some .boolean), Cond.methodLink RX4 57 yX4_putBehind, Cond.instanceMethod yX4_putBehind, Cond.selects RX4 yX4_putBehind yX4_putBehind, Cond.code yX4_putBehind cX4_putBehind 6 (some .boolean), Cond.methodLink RX4 47 yX4_writes, Cond.instanceMethod yX4_writes, Cond.selects RX4 yX4_writes yX4_writes, Cond.code yX4_writes cX4_writes 2 (some .boolean), Cond.methodLink RX4 61 yX4_send, Cond.instanceMethod yX4_send, Cond.selects RX4 yX4_send yX4_send]
def wsL_law_r7 : List Cond := [Cond.code yX4_send cX4_send 6 none, Cond.methodLink RL 18 yX3_get, Cond.instanceMethod yX3_get, Cond.selects RX3 yX3_get yX3_get, Cond.code yX3_get cX3_get 5 (some .int), Cond.methodLink RL 22 yX4_get, Cond.instanceMethod yX4_get, Cond.selects RX4 yX4_get yX4_get, Cond.code yX4_get cX4_get 5 (some .int), Cond.methodLink RL 23 yX3_pump, Cond.instanceMethod yX3_pump, Cond.selects RX3 yX3_pump yX3_pump, Cond.code yX3_pump cX3_pump 3 (some .int), Cond.fieldLink RX3 73 "TwinLog$Message" "to" "I", Cond.fieldLink RX3 78 "TwinLog$Message" "kind" "I", Cond.methodLink RX3 69 yX0_take, Cond.instanceMethod yX0_take, Cond.selects RX0 yX0_take yX0_take, Cond.code yX0_take cX0_take 4 (some (.object "TwinLog$Message")), Cond.methodLink RX0 46 yX0_at, Cond.instanceMethod yX0_at, Cond.selects RX0 yX0_at yX0_at, Cond.code yX0_at cX0_at 2 (some (.object "TwinLog$Message")), Cond.methodLink RX3 81 yX3_arrive]
def wsL_law_r8 : List Cond := [Cond.instanceMethod yX3_arrive, Cond.selects RX3 yX3_arrive yX3_arrive, Cond.code yX3_arrive cX3_arrive 4 (some .boolean), Cond.fieldLink RX3 126 "TwinLog$Message" "term" "I", Cond.fieldLink RX3 127 "TwinLog$Message" "number" "I", Cond.methodLink RX3 137 yX2_follow, Cond.instanceMethod yX2_follow, Cond.selects RX2 yX2_follow yX2_follow, Cond.code yX2_follow cX2_follow 2 (some .boolean), Cond.methodLink RX2 54 yX2_changeTerm, Cond.instanceMethod yX2_changeTerm, Cond.selects RX2 yX2_changeTerm yX2_changeTerm, Cond.code yX2_changeTerm cX2_changeTerm 2 (some .boolean), Cond.methodLink RX3 140 yX3_takeShip, Cond.instanceMethod yX3_takeShip, Cond.selects RX3 yX3_takeShip yX3_takeShip, Cond.code yX3_takeShip cX3_takeShip 4 none, Cond.methodLink RX3 154 yX2_hasEntryOfTerm, Cond.instanceMethod yX2_hasEntryOfTerm, Cond.selects RX2 yX2_hasEntryOfTerm yX2_hasEntryOfTerm, Cond.code yX2_hasEntryOfTerm cX2_hasEntryOfTerm 3 (some .boolean), Cond.methodLink RX2 58 yX2_hasEntry, Cond.methodLink RX3 158 yX2_cutTo, Cond.instanceMethod yX2_cutTo]
def wsL_law_r9 : List Cond := [Cond.selects RX2 yX2_cutTo yX2_cutTo, Cond.code yX2_cutTo cX2_cutTo 2 (some .boolean), Cond.methodLink RX3 161 yX3_fitLog, Cond.static yX3_fitLog, Cond.code yX3_fitLog cX3_fitLog 4 (some .boolean), Cond.methodLink RX3 133 yX2_isEntry, Cond.instanceMethod yX2_isEntry, Cond.selects RX2 yX2_isEntry yX2_isEntry, Cond.code yX2_isEntry cX2_isEntry 5 (some .boolean), Cond.methodLink RX2 61 yX2_hasEntryOfTerm, Cond.methodLink RX3 144 yX3_takeAck, Cond.instanceMethod yX3_takeAck, Cond.selects RX3 yX3_takeAck yX3_takeAck, Cond.code yX3_takeAck cX3_takeAck 3 none, Cond.fieldLink RX3 107 "TwinLog$Node" "agreed" "I", Cond.methodLink RX3 85 Lib.Math.max.name, Cond.static Lib.Math.max.name, Cond.initialized "java/lang/Math", Cond.code Lib.Math.max.name Lib.Math.max.code 2 (some .int), Cond.methodLink RX3 148 yX3_takeWant, Cond.instanceMethod yX3_takeWant, Cond.selects RX3 yX3_takeWant yX3_takeWant, Cond.code yX3_takeWant cX3_takeWant 3 none, Cond.methodLink RX3 130 Lib.Math.min.name]
def wsL_law_r10 : List Cond := [Cond.static Lib.Math.min.name, Cond.code Lib.Math.min.name Lib.Math.min.code 2 (some .int), Cond.methodLink RL 27 yX4_pump, Cond.instanceMethod yX4_pump, Cond.selects RX4 yX4_pump yX4_pump, Cond.code yX4_pump cX4_pump 2 (some .int), Cond.methodLink RX4 65 yX4_remove, Cond.instanceMethod yX4_remove, Cond.selects RX4 yX4_remove yX4_remove, Cond.code yX4_remove cX4_remove 3 none, Cond.methodLink RX4 69 yX4_becomeTerm, Cond.instanceMethod yX4_becomeTerm, Cond.selects RX4 yX4_becomeTerm yX4_becomeTerm, Cond.code yX4_becomeTerm cX4_becomeTerm 3 (some .boolean), Cond.methodLink RX4 73 yX4_shipped, Cond.instanceMethod yX4_shipped, Cond.selects RX4 yX4_shipped yX4_shipped, Cond.code yX4_shipped cX4_shipped 4 none, Cond.methodLink RX4 80 yX4_cutTo, Cond.instanceMethod yX4_cutTo, Cond.selects RX4 yX4_cutTo yX4_cutTo, Cond.code yX4_cutTo cX4_cutTo 3 (some .boolean), Cond.methodLink RX4 77 yX4_shipIfThere, Cond.instanceMethod yX4_shipIfThere]
def wsL_law_r11 : List Cond := [Cond.selects RX4 yX4_shipIfThere yX4_shipIfThere, Cond.code yX4_shipIfThere cX4_shipIfThere 3 none, Cond.methodLink RL 28 yX3_drop, Cond.instanceMethod yX3_drop, Cond.selects RX3 yX3_drop yX3_drop, Cond.code yX3_drop cX3_drop 2 (some .boolean), Cond.methodLink RL 32 yX4_drop, Cond.instanceMethod yX4_drop, Cond.selects RX4 yX4_drop yX4_drop, Cond.code yX4_drop cX4_drop 2 (some .boolean), Cond.methodLink RL 33 yX3_fuse, Cond.instanceMethod yX3_fuse, Cond.selects RX3 yX3_fuse yX3_fuse, Cond.code yX3_fuse cX3_fuse 4 (some .int), Cond.fieldLink RX3 91 "TwinLog$Node" "fuseLeft" "I", Cond.methodLink RL 36 yX4_fuse, Cond.instanceMethod yX4_fuse, Cond.selects RX4 yX4_fuse yX4_fuse, Cond.code yX4_fuse cX4_fuse 3 (some .int), Cond.methodLink RL 37 yX3_crash, Cond.instanceMethod yX3_crash, Cond.selects RX3 yX3_crash yX3_crash, Cond.code yX3_crash cX3_crash 4 (some .int), Cond.methodLink RX3 94 yX2_goDown]
def wsL_law_r12 : List Cond := [Cond.methodLink RL 41 yX4_crash, Cond.instanceMethod yX4_crash, Cond.selects RX4 yX4_crash yX4_crash, Cond.code yX4_crash cX4_crash 3 (some .int), Cond.methodLink RL 42 yX3_recover, Cond.instanceMethod yX3_recover, Cond.selects RX3 yX3_recover yX3_recover, Cond.code yX3_recover cX3_recover 3 (some .int), Cond.methodLink RX3 97 yX2_comeUp, Cond.instanceMethod yX2_comeUp, Cond.selects RX2 yX2_comeUp yX2_comeUp, Cond.code yX2_comeUp cX2_comeUp 1 none, Cond.methodLink RL 45 yX4_recover, Cond.instanceMethod yX4_recover, Cond.selects RX4 yX4_recover yX4_recover, Cond.code yX4_recover cX4_recover 2 (some .int), Cond.methodLink RL 46 yX3_promote, Cond.instanceMethod yX3_promote, Cond.selects RX3 yX3_promote yX3_promote, Cond.code yX3_promote cX3_promote 3 (some .int), Cond.methodLink RX3 100 yX2_nextOwnTerm, Cond.instanceMethod yX2_nextOwnTerm, Cond.selects RX2 yX2_nextOwnTerm yX2_nextOwnTerm, Cond.code yX2_nextOwnTerm cX2_nextOwnTerm 1 (some .int)]
def wsL_law_r13 : List Cond := [Cond.methodLink RX3 104 yX2_changeTerm, Cond.methodLink RL 49 yX4_promote, Cond.instanceMethod yX4_promote, Cond.selects RX4 yX4_promote yX4_promote, Cond.code yX4_promote cX4_promote 3 (some .int), Cond.methodLink RL 50 yX3_rejoin, Cond.instanceMethod yX3_rejoin, Cond.selects RX3 yX3_rejoin yX3_rejoin, Cond.code yX3_rejoin cX3_rejoin 3 (some .int), Cond.methodLink RL 53 yX4_rejoin, Cond.instanceMethod yX4_rejoin, Cond.selects RX4 yX4_rejoin yX4_rejoin, Cond.code yX4_rejoin cX4_rejoin 2 (some .int), Cond.methodLink RL 54 yX3_told, Cond.instanceMethod yX3_told, Cond.selects RX3 yX3_told yX3_told, Cond.code yX3_told cX3_told 4 (some .int), Cond.fieldLink RX3 114 "TwinLog$Node" "writes" "I", Cond.methodLink RL 57 yX4_told, Cond.instanceMethod yX4_told, Cond.selects RX4 yX4_told yX4_told, Cond.code yX4_told cX4_told 3 (some .int), Cond.methodLink RL 58 yX3_entry, Cond.instanceMethod yX3_entry]
def wsL_law_r14 : List Cond := [Cond.selects RX3 yX3_entry yX3_entry, Cond.code yX3_entry cX3_entry 5 (some .int), Cond.methodLink RL 61 yX4_entry, Cond.instanceMethod yX4_entry, Cond.selects RX4 yX4_entry yX4_entry, Cond.code yX4_entry cX4_entry 5 (some .int), Cond.methodLink RL 62 yX3_message, Cond.instanceMethod yX3_message, Cond.selects RX3 yX3_message yX3_message, Cond.code yX3_message cX3_message 4 (some .int), Cond.methodLink RX3 123 yX0_at, Cond.methodLink RL 65 yX4_message, Cond.instanceMethod yX4_message, Cond.selects RX4 yX4_message yX4_message, Cond.code yX4_message cX4_message 3 (some .int), Cond.methodLink RL 66 yX3_same, Cond.instanceMethod yX3_same, Cond.selects RX3 yX3_same yX3_same, Cond.code yX3_same cX3_same 3 (some .int), Cond.methodLink RL 69 yX4_same, Cond.instanceMethod yX4_same, Cond.selects RX4 yX4_same yX4_same, Cond.code yX4_same cX4_same 2 (some .int)]
def wsL_law : List Cond := (wsL_law_r1 ++ (wsL_law_r2 ++ (wsL_law_r3 ++ (wsL_law_r4 ++ (wsL_law_r5 ++ (wsL_law_r6 ++ (wsL_law_r7 ++ (wsL_law_r8 ++ (wsL_law_r9 ++ (wsL_law_r10 ++ (wsL_law_r11 ++ (wsL_law_r12 ++ (wsL_law_r13 ++ wsL_law_r14))))))))))))) ++ wsX30 ++ wsX40 ++ wsX20 ++ wsX00 ++ wsX10 ++ ([] : List Cond)
set_option maxRecDepth 20000 in
theorem wsL_law_r1_in : ∀ w ∈ wsL_law_r1, w ∈ lw_tbl := fun w h => (goodIn_p wsL_law_r1 [25, 28, 33] (by decide +kernel) (by decide +kernel) w h).1
set_option maxRecDepth 20000 in
theorem wsL_law_r2_in : ∀ w ∈ wsL_law_r2, w ∈ lw_tbl := fun w h => (goodIn_p wsL_law_r2 [86, 93] (by decide +kernel) (by decide +kernel) w h).1
set_option maxRecDepth 20000 in
theorem wsL_law_r3_in : ∀ w ∈ wsL_law_r3, w ∈ lw_tbl := fun w h => (goodIn_p wsL_law_r3 [305, 150] (by decide +kernel) (by decide +kernel) w h).1
set_option maxRecDepth 20000 in
theorem wsL_law_r4_in : ∀ w ∈ wsL_law_r4, w ∈ lw_tbl := fun w h => (goodIn_p wsL_law_r4 [154, 157, 161, 165, 169] (by decide +kernel) (by decide +kernel) w h).1
set_option maxRecDepth 20000 in
theorem wsL_law_r5_in : ∀ w ∈ wsL_law_r5, w ∈ lw_tbl := fun w h => (goodIn_p wsL_law_r5 [173, 177, 181, 185] (by decide +kernel) (by decide +kernel) w h).1
set_option maxRecDepth 20000 in
theorem wsL_law_r6_in : ∀ w ∈ wsL_law_r6, w ∈ lw_tbl := fun w h => (goodIn_p wsL_law_r6 [351, 354, 358, 362] (by decide +kernel) (by decide +kernel) w h).1
set_option maxRecDepth 20000 in
theorem wsL_law_r7_in : ∀ w ∈ wsL_law_r7, w ∈ lw_tbl := fun w h => (goodIn_p wsL_law_r7 [366, 190, 370, 194, 198, 202] (by decide +kernel) (by decide +kernel) w h).1
set_option maxRecDepth 20000 in
theorem wsL_law_r8_in : ∀ w ∈ wsL_law_r8, w ∈ lw_tbl := fun w h => (goodIn_p wsL_law_r8 [206, 210, 214, 218, 222] (by decide +kernel) (by decide +kernel) w h).1
set_option maxRecDepth 20000 in
theorem wsL_law_r9_in : ∀ w ∈ wsL_law_r9, w ∈ lw_tbl := fun w h => (goodIn_p wsL_law_r9 [227, 230, 234, 239, 242, 246] (by decide +kernel) (by decide +kernel) w h).1
set_option maxRecDepth 20000 in
theorem wsL_law_r10_in : ∀ w ∈ wsL_law_r10, w ∈ lw_tbl := fun w h => (goodIn_p wsL_law_r10 [249, 374, 378, 382, 386, 390] (by decide +kernel) (by decide +kernel) w h).1
set_option maxRecDepth 20000 in
theorem wsL_law_r11_in : ∀ w ∈ wsL_law_r11, w ∈ lw_tbl := fun w h => (goodIn_p wsL_law_r11 [394, 253, 398, 257, 402, 261] (by decide +kernel) (by decide +kernel) w h).1
set_option maxRecDepth 20000 in
theorem wsL_law_r12_in : ∀ w ∈ wsL_law_r12, w ∈ lw_tbl := fun w h => (goodIn_p wsL_law_r12 [406, 266, 270, 410, 274, 278] (by decide +kernel) (by decide +kernel) w h).1
set_option maxRecDepth 20000 in
theorem wsL_law_r13_in : ∀ w ∈ wsL_law_r13, w ∈ lw_tbl := fun w h => (goodIn_p wsL_law_r13 [414, 283, 418, 287, 422] (by decide +kernel) (by decide +kernel) w h).1
set_option maxRecDepth 20000 in
theorem wsL_law_r14_in : ∀ w ∈ wsL_law_r14, w ∈ lw_tbl := fun w h => (goodIn_p wsL_law_r14 [291, 426, 295, 430, 300, 434] (by decide +kernel) (by decide +kernel) w h).1
set_option maxRecDepth 20000 in
theorem wsX30_in : ∀ w ∈ wsX30, w ∈ lw_tbl := by decide +kernel
set_option maxRecDepth 20000 in
theorem wsX40_in : ∀ w ∈ wsX40, w ∈ lw_tbl := by decide +kernel
set_option maxRecDepth 20000 in
theorem wsX20_in : ∀ w ∈ wsX20, w ∈ lw_tbl := by decide +kernel
set_option maxRecDepth 20000 in
theorem wsX00_in : ∀ w ∈ wsX00, w ∈ lw_tbl := by decide +kernel
set_option maxRecDepth 20000 in
theorem wsX10_in : ∀ w ∈ wsX10, w ∈ lw_tbl := by decide +kernel
theorem wsL_law_in : ∀ w ∈ wsL_law, w ∈ lw_tbl := fun w h => by
  rcases List.mem_append.mp h with h | h
  rotate_left
  · exact absurd h List.not_mem_nil
  rcases List.mem_append.mp h with h | h
  rotate_left
  · exact wsX10_in w h
  rcases List.mem_append.mp h with h | h
  rotate_left
  · exact wsX00_in w h
  rcases List.mem_append.mp h with h | h
  rotate_left
  · exact wsX20_in w h
  rcases List.mem_append.mp h with h | h
  rotate_left
  · exact wsX40_in w h
  rcases List.mem_append.mp h with h | h
  rotate_left
  · exact wsX30_in w h
  rcases List.mem_append.mp h with h | h
  · exact wsL_law_r1_in w h
  rcases List.mem_append.mp h with h | h
  · exact wsL_law_r2_in w h
  rcases List.mem_append.mp h with h | h
  · exact wsL_law_r3_in w h
  rcases List.mem_append.mp h with h | h
  · exact wsL_law_r4_in w h
  rcases List.mem_append.mp h with h | h
  · exact wsL_law_r5_in w h
  rcases List.mem_append.mp h with h | h
  · exact wsL_law_r6_in w h
  rcases List.mem_append.mp h with h | h
  · exact wsL_law_r7_in w h
  rcases List.mem_append.mp h with h | h
  · exact wsL_law_r8_in w h
  rcases List.mem_append.mp h with h | h
  · exact wsL_law_r9_in w h
  rcases List.mem_append.mp h with h | h
  · exact wsL_law_r10_in w h
  rcases List.mem_append.mp h with h | h
  · exact wsL_law_r11_in w h
  rcases List.mem_append.mp h with h | h
  · exact wsL_law_r12_in w h
  rcases List.mem_append.mp h with h | h
  · exact wsL_law_r13_in w h
  exact wsL_law_r14_in w h
theorem inlX0 : ∀ w ∈ wsX00, w ∈ wsL_law := fun _ h => List.mem_append_left _ (List.mem_append_left _ (List.mem_append_right _ h))
theorem inX0 : ∀ w ∈ wsX00, w ∈ lw_tbl := fun w h => wsL_law_in w (inlX0 w h)
theorem inlX1 : ∀ w ∈ wsX10, w ∈ wsL_law := fun _ h => List.mem_append_left _ (List.mem_append_right _ h)
theorem inX1 : ∀ w ∈ wsX10, w ∈ lw_tbl := fun w h => wsL_law_in w (inlX1 w h)
theorem inlX2 : ∀ w ∈ wsX20, w ∈ wsL_law := fun _ h => List.mem_append_left _ (List.mem_append_left _ (List.mem_append_left _ (List.mem_append_right _ h)))
theorem inX2 : ∀ w ∈ wsX20, w ∈ lw_tbl := fun w h => wsL_law_in w (inlX2 w h)
theorem inlX3 : ∀ w ∈ wsX30, w ∈ wsL_law := fun _ h => List.mem_append_left _ (List.mem_append_left _ (List.mem_append_left _ (List.mem_append_left _ (List.mem_append_left _ (List.mem_append_right _ h)))))
theorem inX3 : ∀ w ∈ wsX30, w ∈ lw_tbl := fun w h => wsL_law_in w (inlX3 w h)
theorem inlX4 : ∀ w ∈ wsX40, w ∈ wsL_law := fun _ h => List.mem_append_left _ (List.mem_append_left _ (List.mem_append_left _ (List.mem_append_left _ (List.mem_append_right _ h))))
theorem inX4 : ∀ w ∈ wsX40, w ∈ lw_tbl := fun w h => wsL_law_in w (inlX4 w h)
theorem inJ9 : ∀ w ∈ wsJ90, w ∈ lw_tbl := by decide +kernel
set_option maxRecDepth 20000 in
theorem ggX0_init_X1_init : GoodIn wsX0_init wsX1_init := goodIn_r _ [10, 11, 2, 3] (by decide +kernel) (by decide +kernel)
set_option maxRecDepth 20000 in
theorem gX0_init_X1_init_n17 : GoodIn wsX0_init (wsX1_init) := ggX0_init_X1_init
theorem dX0_init_0 : decode cX0_init 0 = .ok (.aload_n 0, 1) := by decide +kernel
theorem dX0_init_1 : decode cX0_init 1 = .ok (.invokespecial 3, 3) := by decide +kernel
theorem dX0_init_4 : decode cX0_init 4 = .ok (.aload_n 0, 1) := by decide +kernel
theorem dX0_init_5 : decode cX0_init 5 = .ok (.bipush 16, 2) := by decide +kernel
theorem dX0_init_7 : decode cX0_init 7 = .ok (.anewarray 9, 3) := by decide +kernel
theorem dX0_init_10 : decode cX0_init 10 = .ok (.putfield 11, 3) := by decide +kernel
theorem dX0_init_13 : decode cX0_init 13 = .ok (.iconst 0, 1) := by decide +kernel
theorem dX0_init_14 : decode cX0_init 14 = .ok (.istore_n 1, 1) := by decide +kernel
theorem dX0_init_15 : decode cX0_init 15 = .ok (.iload_n 1, 1) := by decide +kernel
theorem dX0_init_16 : decode cX0_init 16 = .ok (.bipush 16, 2) := by decide +kernel
theorem dX0_init_18 : decode cX0_init 18 = .ok (.if_icmp .ge 22, 3) := by decide +kernel
theorem dX0_init_21 : decode cX0_init 21 = .ok (.aload_n 0, 1) := by decide +kernel
theorem dX0_init_22 : decode cX0_init 22 = .ok (.getfield 11, 3) := by decide +kernel
theorem dX0_init_25 : decode cX0_init 25 = .ok (.iload_n 1, 1) := by decide +kernel
theorem dX0_init_26 : decode cX0_init 26 = .ok (.new 9, 3) := by decide +kernel
theorem dX0_init_29 : decode cX0_init 29 = .ok (.dup, 1) := by decide +kernel
theorem dX0_init_30 : decode cX0_init 30 = .ok (.invokespecial 17, 3) := by decide +kernel
theorem dX0_init_33 : decode cX0_init 33 = .ok (.aastore, 1) := by decide +kernel
theorem dX0_init_34 : decode cX0_init 34 = .ok (.iinc 1 1, 3) := by decide +kernel
theorem dX0_init_37 : decode cX0_init 37 = .ok (.goto (-22), 3) := by decide +kernel
theorem dX0_init_40 : decode cX0_init 40 = .ok (.aload_n 0, 1) := by decide +kernel
theorem dX0_init_41 : decode cX0_init 41 = .ok (.new 9, 3) := by decide +kernel
theorem dX0_init_44 : decode cX0_init 44 = .ok (.dup, 1) := by decide +kernel
theorem dX0_init_45 : decode cX0_init 45 = .ok (.invokespecial 17, 3) := by decide +kernel
theorem dX0_init_48 : decode cX0_init 48 = .ok (.putfield 18, 3) := by decide +kernel
theorem dX0_init_51 : decode cX0_init 51 = .ok (.return_, 1) := by decide +kernel
theorem dX0_isFull_0 : decode cX0_isFull 0 = .ok (.aload_n 0, 1) := by decide +kernel
theorem dX0_isFull_1 : decode cX0_isFull 1 = .ok (.getfield 22, 3) := by decide +kernel
theorem dX0_isFull_4 : decode cX0_isFull 4 = .ok (.bipush 16, 2) := by decide +kernel
theorem dX0_isFull_6 : decode cX0_isFull 6 = .ok (.if_icmp .lt 7, 3) := by decide +kernel
theorem dX0_isFull_9 : decode cX0_isFull 9 = .ok (.iconst 1, 1) := by decide +kernel
theorem dX0_isFull_10 : decode cX0_isFull 10 = .ok (.goto 4, 3) := by decide +kernel
theorem dX0_isFull_13 : decode cX0_isFull 13 = .ok (.iconst 0, 1) := by decide +kernel
theorem dX0_isFull_14 : decode cX0_isFull 14 = .ok (.ireturn, 1) := by decide +kernel
theorem dX0_at_0 : decode cX0_at 0 = .ok (.iload_n 1, 1) := by decide +kernel
theorem dX0_at_1 : decode cX0_at 1 = .ok (.ifCond .lt 20, 3) := by decide +kernel
theorem dX0_at_4 : decode cX0_at 4 = .ok (.iload_n 1, 1) := by decide +kernel
theorem dX0_at_5 : decode cX0_at 5 = .ok (.aload_n 0, 1) := by decide +kernel
theorem dX0_at_6 : decode cX0_at 6 = .ok (.getfield 22, 3) := by decide +kernel
theorem dX0_at_9 : decode cX0_at 9 = .ok (.if_icmp .ge 12, 3) := by decide +kernel
theorem dX0_at_12 : decode cX0_at 12 = .ok (.aload_n 0, 1) := by decide +kernel
theorem dX0_at_13 : decode cX0_at 13 = .ok (.getfield 11, 3) := by decide +kernel
theorem dX0_at_16 : decode cX0_at 16 = .ok (.iload_n 1, 1) := by decide +kernel
theorem dX0_at_17 : decode cX0_at 17 = .ok (.aaload, 1) := by decide +kernel
theorem dX0_at_18 : decode cX0_at 18 = .ok (.goto 4, 3) := by decide +kernel
theorem dX0_at_21 : decode cX0_at 21 = .ok (.aconst_null, 1) := by decide +kernel
theorem dX0_at_22 : decode cX0_at 22 = .ok (.areturn, 1) := by decide +kernel
set_option maxRecDepth 20000 in
theorem ggX0_send_X0_isFull : GoodIn wsX0_send wsX0_isFull := goodIn_r _ [13, 2, 14, 15, 16] (by decide +kernel) (by decide +kernel)
set_option maxRecDepth 20000 in
theorem gX0_send_X0_isFull : GoodIn wsX0_send (wsV RX0 26 RX0 yX0_isFull wsX0_isFull) := goodIn_app (goodIn_of _ (by decide +kernel)) ggX0_send_X0_isFull
theorem dX0_send_0 : decode cX0_send 0 = .ok (.aload_n 0, 1) := by decide +kernel
theorem dX0_send_1 : decode cX0_send 1 = .ok (.invokevirtual 26, 3) := by decide +kernel
theorem dX0_send_4 : decode cX0_send 4 = .ok (.ifCond .eq 5, 3) := by decide +kernel
theorem dX0_send_7 : decode cX0_send 7 = .ok (.aconst_null, 1) := by decide +kernel
theorem dX0_send_8 : decode cX0_send 8 = .ok (.areturn, 1) := by decide +kernel
theorem dX0_send_9 : decode cX0_send 9 = .ok (.aload_n 0, 1) := by decide +kernel
theorem dX0_send_10 : decode cX0_send 10 = .ok (.getfield 11, 3) := by decide +kernel
theorem dX0_send_13 : decode cX0_send 13 = .ok (.aload_n 0, 1) := by decide +kernel
theorem dX0_send_14 : decode cX0_send 14 = .ok (.getfield 22, 3) := by decide +kernel
theorem dX0_send_17 : decode cX0_send 17 = .ok (.aaload, 1) := by decide +kernel
theorem dX0_send_18 : decode cX0_send 18 = .ok (.astore 4, 2) := by decide +kernel
theorem dX0_send_20 : decode cX0_send 20 = .ok (.aload_n 0, 1) := by decide +kernel
theorem dX0_send_21 : decode cX0_send 21 = .ok (.dup, 1) := by decide +kernel
theorem dX0_send_22 : decode cX0_send 22 = .ok (.getfield 22, 3) := by decide +kernel
theorem dX0_send_25 : decode cX0_send 25 = .ok (.iconst 1, 1) := by decide +kernel
theorem dX0_send_26 : decode cX0_send 26 = .ok (.iadd, 1) := by decide +kernel
theorem dX0_send_27 : decode cX0_send 27 = .ok (.putfield 22, 3) := by decide +kernel
theorem dX0_send_30 : decode cX0_send 30 = .ok (.aload 4, 2) := by decide +kernel
theorem dX0_send_32 : decode cX0_send 32 = .ok (.iload_n 1, 1) := by decide +kernel
theorem dX0_send_33 : decode cX0_send 33 = .ok (.putfield 30, 3) := by decide +kernel
theorem dX0_send_36 : decode cX0_send 36 = .ok (.aload 4, 2) := by decide +kernel
theorem dX0_send_38 : decode cX0_send 38 = .ok (.iconst 1, 1) := by decide +kernel
theorem dX0_send_39 : decode cX0_send 39 = .ok (.aload_n 2, 1) := by decide +kernel
theorem dX0_send_40 : decode cX0_send 40 = .ok (.getfield 33, 3) := by decide +kernel
theorem dX0_send_43 : decode cX0_send 43 = .ok (.isub, 1) := by decide +kernel
theorem dX0_send_44 : decode cX0_send 44 = .ok (.putfield 38, 3) := by decide +kernel
theorem dX0_send_47 : decode cX0_send 47 = .ok (.aload 4, 2) := by decide +kernel
theorem dX0_send_49 : decode cX0_send 49 = .ok (.aload_n 2, 1) := by decide +kernel
theorem dX0_send_50 : decode cX0_send 50 = .ok (.getfield 41, 3) := by decide +kernel
theorem dX0_send_53 : decode cX0_send 53 = .ok (.putfield 44, 3) := by decide +kernel
theorem dX0_send_56 : decode cX0_send 56 = .ok (.aload 4, 2) := by decide +kernel
theorem dX0_send_58 : decode cX0_send 58 = .ok (.iload_n 3, 1) := by decide +kernel
theorem dX0_send_59 : decode cX0_send 59 = .ok (.putfield 45, 3) := by decide +kernel
theorem dX0_send_62 : decode cX0_send 62 = .ok (.aload 4, 2) := by decide +kernel
theorem dX0_send_64 : decode cX0_send 64 = .ok (.areturn, 1) := by decide +kernel
set_option maxRecDepth 20000 in
theorem ggX0_take_X0_at : GoodIn wsX0_take wsX0_at := goodIn_r _ [8, 1, 2, 9, 10, 11] (by decide +kernel) (by decide +kernel)
set_option maxRecDepth 20000 in
theorem gX0_take_X0_at : GoodIn wsX0_take (wsV RX0 46 RX0 yX0_at wsX0_at) := goodIn_app (goodIn_of _ (by decide +kernel)) ggX0_take_X0_at
theorem dX0_take_0 : decode cX0_take 0 = .ok (.aload_n 0, 1) := by decide +kernel
theorem dX0_take_1 : decode cX0_take 1 = .ok (.iload_n 1, 1) := by decide +kernel
theorem dX0_take_2 : decode cX0_take 2 = .ok (.invokevirtual 46, 3) := by decide +kernel
theorem dX0_take_5 : decode cX0_take 5 = .ok (.astore_n 2, 1) := by decide +kernel
theorem dX0_take_6 : decode cX0_take 6 = .ok (.aload_n 2, 1) := by decide +kernel
theorem dX0_take_7 : decode cX0_take 7 = .ok (.ifnonnull 5, 3) := by decide +kernel
theorem dX0_take_10 : decode cX0_take 10 = .ok (.aconst_null, 1) := by decide +kernel
theorem dX0_take_11 : decode cX0_take 11 = .ok (.areturn, 1) := by decide +kernel
theorem dX0_take_12 : decode cX0_take 12 = .ok (.iload_n 1, 1) := by decide +kernel
theorem dX0_take_13 : decode cX0_take 13 = .ok (.istore_n 3, 1) := by decide +kernel
theorem dX0_take_14 : decode cX0_take 14 = .ok (.iload_n 3, 1) := by decide +kernel
theorem dX0_take_15 : decode cX0_take 15 = .ok (.aload_n 0, 1) := by decide +kernel
theorem dX0_take_16 : decode cX0_take 16 = .ok (.getfield 22, 3) := by decide +kernel
theorem dX0_take_19 : decode cX0_take 19 = .ok (.iconst 1, 1) := by decide +kernel
theorem dX0_take_20 : decode cX0_take 20 = .ok (.isub, 1) := by decide +kernel
theorem dX0_take_21 : decode cX0_take 21 = .ok (.if_icmp .ge 23, 3) := by decide +kernel
theorem dX0_take_24 : decode cX0_take 24 = .ok (.aload_n 0, 1) := by decide +kernel
theorem dX0_take_25 : decode cX0_take 25 = .ok (.getfield 11, 3) := by decide +kernel
theorem dX0_take_28 : decode cX0_take 28 = .ok (.iload_n 3, 1) := by decide +kernel
theorem dX0_take_29 : decode cX0_take 29 = .ok (.aload_n 0, 1) := by decide +kernel
theorem dX0_take_30 : decode cX0_take 30 = .ok (.getfield 11, 3) := by decide +kernel
theorem dX0_take_33 : decode cX0_take 33 = .ok (.iload_n 3, 1) := by decide +kernel
theorem dX0_take_34 : decode cX0_take 34 = .ok (.iconst 1, 1) := by decide +kernel
theorem dX0_take_35 : decode cX0_take 35 = .ok (.iadd, 1) := by decide +kernel
theorem dX0_take_36 : decode cX0_take 36 = .ok (.aaload, 1) := by decide +kernel
theorem dX0_take_37 : decode cX0_take 37 = .ok (.aastore, 1) := by decide +kernel
theorem dX0_take_38 : decode cX0_take 38 = .ok (.iinc 3 1, 3) := by decide +kernel
theorem dX0_take_41 : decode cX0_take 41 = .ok (.goto (-27), 3) := by decide +kernel
theorem dX0_take_44 : decode cX0_take 44 = .ok (.aload_n 0, 1) := by decide +kernel
theorem dX0_take_45 : decode cX0_take 45 = .ok (.dup, 1) := by decide +kernel
theorem dX0_take_46 : decode cX0_take 46 = .ok (.getfield 22, 3) := by decide +kernel
theorem dX0_take_49 : decode cX0_take 49 = .ok (.iconst 1, 1) := by decide +kernel
theorem dX0_take_50 : decode cX0_take 50 = .ok (.isub, 1) := by decide +kernel
theorem dX0_take_51 : decode cX0_take 51 = .ok (.putfield 22, 3) := by decide +kernel
theorem dX0_take_54 : decode cX0_take 54 = .ok (.aload_n 0, 1) := by decide +kernel
theorem dX0_take_55 : decode cX0_take 55 = .ok (.getfield 11, 3) := by decide +kernel
theorem dX0_take_58 : decode cX0_take 58 = .ok (.aload_n 0, 1) := by decide +kernel
theorem dX0_take_59 : decode cX0_take 59 = .ok (.getfield 22, 3) := by decide +kernel
theorem dX0_take_62 : decode cX0_take 62 = .ok (.aload_n 0, 1) := by decide +kernel
theorem dX0_take_63 : decode cX0_take 63 = .ok (.getfield 18, 3) := by decide +kernel
theorem dX0_take_66 : decode cX0_take 66 = .ok (.aastore, 1) := by decide +kernel
theorem dX0_take_67 : decode cX0_take 67 = .ok (.aload_n 0, 1) := by decide +kernel
theorem dX0_take_68 : decode cX0_take 68 = .ok (.aload_n 2, 1) := by decide +kernel
theorem dX0_take_69 : decode cX0_take 69 = .ok (.putfield 18, 3) := by decide +kernel
theorem dX0_take_72 : decode cX0_take 72 = .ok (.aload_n 2, 1) := by decide +kernel
theorem dX0_take_73 : decode cX0_take 73 = .ok (.areturn, 1) := by decide +kernel
theorem dX1_init_0 : decode cX1_init 0 = .ok (.aload_n 0, 1) := by decide +kernel
theorem dX1_init_1 : decode cX1_init 1 = .ok (.invokespecial 1, 3) := by decide +kernel
theorem dX1_init_4 : decode cX1_init 4 = .ok (.return_, 1) := by decide +kernel
theorem dX2_init_0 : decode cX2_init 0 = .ok (.aload_n 0, 1) := by decide +kernel
theorem dX2_init_1 : decode cX2_init 1 = .ok (.invokespecial 3, 3) := by decide +kernel
theorem dX2_init_4 : decode cX2_init 4 = .ok (.aload_n 0, 1) := by decide +kernel
theorem dX2_init_5 : decode cX2_init 5 = .ok (.iload_n 1, 1) := by decide +kernel
theorem dX2_init_6 : decode cX2_init 6 = .ok (.putfield 9, 3) := by decide +kernel
theorem dX2_init_9 : decode cX2_init 9 = .ok (.aload_n 0, 1) := by decide +kernel
theorem dX2_init_10 : decode cX2_init 10 = .ok (.iload_n 2, 1) := by decide +kernel
theorem dX2_init_11 : decode cX2_init 11 = .ok (.putfield 15, 3) := by decide +kernel
theorem dX2_init_14 : decode cX2_init 14 = .ok (.aload_n 0, 1) := by decide +kernel
theorem dX2_init_15 : decode cX2_init 15 = .ok (.iload_n 3, 1) := by decide +kernel
theorem dX2_init_16 : decode cX2_init 16 = .ok (.putfield 18, 3) := by decide +kernel
theorem dX2_init_19 : decode cX2_init 19 = .ok (.aload_n 0, 1) := by decide +kernel
theorem dX2_init_20 : decode cX2_init 20 = .ok (.bipush 64, 2) := by decide +kernel
theorem dX2_init_22 : decode cX2_init 22 = .ok (.newarray .int, 2) := by decide +kernel
theorem dX2_init_24 : decode cX2_init 24 = .ok (.putfield 22, 3) := by decide +kernel
theorem dX2_init_27 : decode cX2_init 27 = .ok (.aload_n 0, 1) := by decide +kernel
theorem dX2_init_28 : decode cX2_init 28 = .ok (.bipush 64, 2) := by decide +kernel
theorem dX2_init_30 : decode cX2_init 30 = .ok (.newarray .int, 2) := by decide +kernel
theorem dX2_init_32 : decode cX2_init 32 = .ok (.putfield 26, 3) := by decide +kernel
theorem dX2_init_35 : decode cX2_init 35 = .ok (.aload_n 0, 1) := by decide +kernel
theorem dX2_init_36 : decode cX2_init 36 = .ok (.bipush 64, 2) := by decide +kernel
theorem dX2_init_38 : decode cX2_init 38 = .ok (.newarray .int, 2) := by decide +kernel
theorem dX2_init_40 : decode cX2_init 40 = .ok (.putfield 29, 3) := by decide +kernel
theorem dX2_init_43 : decode cX2_init 43 = .ok (.aload_n 0, 1) := by decide +kernel
theorem dX2_init_44 : decode cX2_init 44 = .ok (.iconst 1, 1) := by decide +kernel
theorem dX2_init_45 : decode cX2_init 45 = .ok (.putfield 32, 3) := by decide +kernel
theorem dX2_init_48 : decode cX2_init 48 = .ok (.aload_n 0, 1) := by decide +kernel
theorem dX2_init_49 : decode cX2_init 49 = .ok (.iconst (-1), 1) := by decide +kernel
theorem dX2_init_50 : decode cX2_init 50 = .ok (.putfield 35, 3) := by decide +kernel
theorem dX2_init_53 : decode cX2_init 53 = .ok (.aload_n 0, 1) := by decide +kernel
theorem dX2_init_54 : decode cX2_init 54 = .ok (.iconst (-1), 1) := by decide +kernel
theorem dX2_init_55 : decode cX2_init 55 = .ok (.putfield 38, 3) := by decide +kernel
theorem dX2_init_58 : decode cX2_init 58 = .ok (.return_, 1) := by decide +kernel
theorem dX2_goDown_0 : decode cX2_goDown 0 = .ok (.aload_n 0, 1) := by decide +kernel
theorem dX2_goDown_1 : decode cX2_goDown 1 = .ok (.iconst 0, 1) := by decide +kernel
theorem dX2_goDown_2 : decode cX2_goDown 2 = .ok (.putfield 32, 3) := by decide +kernel
theorem dX2_goDown_5 : decode cX2_goDown 5 = .ok (.aload_n 0, 1) := by decide +kernel
theorem dX2_goDown_6 : decode cX2_goDown 6 = .ok (.iconst 0, 1) := by decide +kernel
theorem dX2_goDown_7 : decode cX2_goDown 7 = .ok (.putfield 18, 3) := by decide +kernel
theorem dX2_goDown_10 : decode cX2_goDown 10 = .ok (.aload_n 0, 1) := by decide +kernel
theorem dX2_goDown_11 : decode cX2_goDown 11 = .ok (.iconst (-1), 1) := by decide +kernel
theorem dX2_goDown_12 : decode cX2_goDown 12 = .ok (.putfield 38, 3) := by decide +kernel
theorem dX2_goDown_15 : decode cX2_goDown 15 = .ok (.return_, 1) := by decide +kernel
theorem dX2_comeUp_0 : decode cX2_comeUp 0 = .ok (.aload_n 0, 1) := by decide +kernel
theorem dX2_comeUp_1 : decode cX2_comeUp 1 = .ok (.iconst 1, 1) := by decide +kernel
theorem dX2_comeUp_2 : decode cX2_comeUp 2 = .ok (.putfield 32, 3) := by decide +kernel
theorem dX2_comeUp_5 : decode cX2_comeUp 5 = .ok (.aload_n 0, 1) := by decide +kernel
theorem dX2_comeUp_6 : decode cX2_comeUp 6 = .ok (.iconst (-1), 1) := by decide +kernel
theorem dX2_comeUp_7 : decode cX2_comeUp 7 = .ok (.putfield 38, 3) := by decide +kernel
theorem dX2_comeUp_10 : decode cX2_comeUp 10 = .ok (.return_, 1) := by decide +kernel
set_option maxRecDepth 20000 in
theorem ggX2_startWrite_X2_goDown : GoodIn wsX2_startWrite wsX2_goDown := goodIn_r _ [7, 8, 9, 1, 10, 11, 12, 13, 14, 15, 16, 17, 18, 19, 20] (by decide +kernel) (by decide +kernel)
set_option maxRecDepth 20000 in
theorem gX2_startWrite_X2_goDown : GoodIn wsX2_startWrite (wsV RX2 41 RX2 yX2_goDown wsX2_goDown) := goodIn_app (goodIn_of _ (by decide +kernel)) ggX2_startWrite_X2_goDown
theorem dX2_startWrite_0 : decode cX2_startWrite 0 = .ok (.aload_n 0, 1) := by decide +kernel
theorem dX2_startWrite_1 : decode cX2_startWrite 1 = .ok (.getfield 38, 3) := by decide +kernel
theorem dX2_startWrite_4 : decode cX2_startWrite 4 = .ok (.ifCond .ne 9, 3) := by decide +kernel
theorem dX2_startWrite_7 : decode cX2_startWrite 7 = .ok (.aload_n 0, 1) := by decide +kernel
theorem dX2_startWrite_8 : decode cX2_startWrite 8 = .ok (.invokevirtual 41, 3) := by decide +kernel
theorem dX2_startWrite_11 : decode cX2_startWrite 11 = .ok (.iconst 0, 1) := by decide +kernel
theorem dX2_startWrite_12 : decode cX2_startWrite 12 = .ok (.ireturn, 1) := by decide +kernel
theorem dX2_startWrite_13 : decode cX2_startWrite 13 = .ok (.aload_n 0, 1) := by decide +kernel
theorem dX2_startWrite_14 : decode cX2_startWrite 14 = .ok (.getfield 38, 3) := by decide +kernel
theorem dX2_startWrite_17 : decode cX2_startWrite 17 = .ok (.ifCond .le 13, 3) := by decide +kernel
theorem dX2_startWrite_20 : decode cX2_startWrite 20 = .ok (.aload_n 0, 1) := by decide +kernel
theorem dX2_startWrite_21 : decode cX2_startWrite 21 = .ok (.dup, 1) := by decide +kernel
theorem dX2_startWrite_22 : decode cX2_startWrite 22 = .ok (.getfield 38, 3) := by decide +kernel
theorem dX2_startWrite_25 : decode cX2_startWrite 25 = .ok (.iconst 1, 1) := by decide +kernel
theorem dX2_startWrite_26 : decode cX2_startWrite 26 = .ok (.isub, 1) := by decide +kernel
theorem dX2_startWrite_27 : decode cX2_startWrite 27 = .ok (.putfield 38, 3) := by decide +kernel
theorem dX2_startWrite_30 : decode cX2_startWrite 30 = .ok (.aload_n 0, 1) := by decide +kernel
theorem dX2_startWrite_31 : decode cX2_startWrite 31 = .ok (.dup, 1) := by decide +kernel
theorem dX2_startWrite_32 : decode cX2_startWrite 32 = .ok (.getfield 44, 3) := by decide +kernel
theorem dX2_startWrite_35 : decode cX2_startWrite 35 = .ok (.iconst 1, 1) := by decide +kernel
theorem dX2_startWrite_36 : decode cX2_startWrite 36 = .ok (.iadd, 1) := by decide +kernel
theorem dX2_startWrite_37 : decode cX2_startWrite 37 = .ok (.putfield 44, 3) := by decide +kernel
theorem dX2_startWrite_40 : decode cX2_startWrite 40 = .ok (.iconst 1, 1) := by decide +kernel
theorem dX2_startWrite_41 : decode cX2_startWrite 41 = .ok (.ireturn, 1) := by decide +kernel
set_option maxRecDepth 20000 in
theorem ggX2_append_X2_startWrite : GoodIn wsX2_append wsX2_startWrite := goodIn_r _ [9, 10, 11, 12, 13, 14, 8, 15, 16, 17, 18, 19, 20, 21, 22, 23, 24, 25, 26, 27, 28] (by decide +kernel) (by decide +kernel)
set_option maxRecDepth 20000 in
theorem gX2_append_X2_startWrite : GoodIn wsX2_append (wsV RX2 50 RX2 yX2_startWrite wsX2_startWrite) := goodIn_app (goodIn_of _ (by decide +kernel)) ggX2_append_X2_startWrite
theorem dX2_append_0 : decode cX2_append 0 = .ok (.aload_n 0, 1) := by decide +kernel
theorem dX2_append_1 : decode cX2_append 1 = .ok (.getfield 47, 3) := by decide +kernel
theorem dX2_append_4 : decode cX2_append 4 = .ok (.bipush 64, 2) := by decide +kernel
theorem dX2_append_6 : decode cX2_append 6 = .ok (.if_icmp .ge 10, 3) := by decide +kernel
theorem dX2_append_9 : decode cX2_append 9 = .ok (.aload_n 0, 1) := by decide +kernel
theorem dX2_append_10 : decode cX2_append 10 = .ok (.invokevirtual 50, 3) := by decide +kernel
theorem dX2_append_13 : decode cX2_append 13 = .ok (.ifCond .ne 5, 3) := by decide +kernel
theorem dX2_append_16 : decode cX2_append 16 = .ok (.iconst 0, 1) := by decide +kernel
theorem dX2_append_17 : decode cX2_append 17 = .ok (.ireturn, 1) := by decide +kernel
theorem dX2_append_18 : decode cX2_append 18 = .ok (.aload_n 0, 1) := by decide +kernel
theorem dX2_append_19 : decode cX2_append 19 = .ok (.getfield 22, 3) := by decide +kernel
theorem dX2_append_22 : decode cX2_append 22 = .ok (.aload_n 0, 1) := by decide +kernel
theorem dX2_append_23 : decode cX2_append 23 = .ok (.getfield 47, 3) := by decide +kernel
theorem dX2_append_26 : decode cX2_append 26 = .ok (.iload_n 1, 1) := by decide +kernel
theorem dX2_append_27 : decode cX2_append 27 = .ok (.iastore, 1) := by decide +kernel
theorem dX2_append_28 : decode cX2_append 28 = .ok (.aload_n 0, 1) := by decide +kernel
theorem dX2_append_29 : decode cX2_append 29 = .ok (.getfield 26, 3) := by decide +kernel
theorem dX2_append_32 : decode cX2_append 32 = .ok (.aload_n 0, 1) := by decide +kernel
theorem dX2_append_33 : decode cX2_append 33 = .ok (.getfield 47, 3) := by decide +kernel
theorem dX2_append_36 : decode cX2_append 36 = .ok (.iload_n 2, 1) := by decide +kernel
theorem dX2_append_37 : decode cX2_append 37 = .ok (.iastore, 1) := by decide +kernel
theorem dX2_append_38 : decode cX2_append 38 = .ok (.aload_n 0, 1) := by decide +kernel
theorem dX2_append_39 : decode cX2_append 39 = .ok (.getfield 29, 3) := by decide +kernel
theorem dX2_append_42 : decode cX2_append 42 = .ok (.aload_n 0, 1) := by decide +kernel
theorem dX2_append_43 : decode cX2_append 43 = .ok (.getfield 47, 3) := by decide +kernel
theorem dX2_append_46 : decode cX2_append 46 = .ok (.iload_n 3, 1) := by decide +kernel
theorem dX2_append_47 : decode cX2_append 47 = .ok (.iastore, 1) := by decide +kernel
theorem dX2_append_48 : decode cX2_append 48 = .ok (.aload_n 0, 1) := by decide +kernel
theorem dX2_append_49 : decode cX2_append 49 = .ok (.dup, 1) := by decide +kernel
theorem dX2_append_50 : decode cX2_append 50 = .ok (.getfield 47, 3) := by decide +kernel
theorem dX2_append_53 : decode cX2_append 53 = .ok (.iconst 1, 1) := by decide +kernel
theorem dX2_append_54 : decode cX2_append 54 = .ok (.iadd, 1) := by decide +kernel
theorem dX2_append_55 : decode cX2_append 55 = .ok (.putfield 47, 3) := by decide +kernel
theorem dX2_append_58 : decode cX2_append 58 = .ok (.iconst 1, 1) := by decide +kernel
theorem dX2_append_59 : decode cX2_append 59 = .ok (.ireturn, 1) := by decide +kernel
set_option maxRecDepth 20000 in
theorem ggX2_cutTo_X2_startWrite : GoodIn wsX2_cutTo wsX2_startWrite := goodIn_r _ [6, 7, 8, 9, 10, 11, 5, 12, 13, 14, 15, 16, 17, 18, 19, 20, 21, 22, 23, 24, 25] (by decide +kernel) (by decide +kernel)
set_option maxRecDepth 20000 in
theorem gX2_cutTo_X2_startWrite : GoodIn wsX2_cutTo (wsV RX2 50 RX2 yX2_startWrite wsX2_startWrite) := goodIn_app (goodIn_of _ (by decide +kernel)) ggX2_cutTo_X2_startWrite
theorem dX2_cutTo_0 : decode cX2_cutTo 0 = .ok (.aload_n 0, 1) := by decide +kernel
theorem dX2_cutTo_1 : decode cX2_cutTo 1 = .ok (.invokevirtual 50, 3) := by decide +kernel
theorem dX2_cutTo_4 : decode cX2_cutTo 4 = .ok (.ifCond .ne 5, 3) := by decide +kernel
theorem dX2_cutTo_7 : decode cX2_cutTo 7 = .ok (.iconst 0, 1) := by decide +kernel
theorem dX2_cutTo_8 : decode cX2_cutTo 8 = .ok (.ireturn, 1) := by decide +kernel
theorem dX2_cutTo_9 : decode cX2_cutTo 9 = .ok (.aload_n 0, 1) := by decide +kernel
theorem dX2_cutTo_10 : decode cX2_cutTo 10 = .ok (.iload_n 1, 1) := by decide +kernel
theorem dX2_cutTo_11 : decode cX2_cutTo 11 = .ok (.putfield 47, 3) := by decide +kernel
theorem dX2_cutTo_14 : decode cX2_cutTo 14 = .ok (.iconst 1, 1) := by decide +kernel
theorem dX2_cutTo_15 : decode cX2_cutTo 15 = .ok (.ireturn, 1) := by decide +kernel
set_option maxRecDepth 20000 in
theorem ggX2_changeTerm_X2_startWrite : GoodIn wsX2_changeTerm wsX2_startWrite := goodIn_r _ [6, 7, 8, 9, 10, 11, 5, 12, 13, 14, 15, 16, 17, 18, 19, 20, 21, 22, 23, 24, 25] (by decide +kernel) (by decide +kernel)
set_option maxRecDepth 20000 in
theorem gX2_changeTerm_X2_startWrite : GoodIn wsX2_changeTerm (wsV RX2 50 RX2 yX2_startWrite wsX2_startWrite) := goodIn_app (goodIn_of _ (by decide +kernel)) ggX2_changeTerm_X2_startWrite
theorem dX2_changeTerm_0 : decode cX2_changeTerm 0 = .ok (.aload_n 0, 1) := by decide +kernel
theorem dX2_changeTerm_1 : decode cX2_changeTerm 1 = .ok (.invokevirtual 50, 3) := by decide +kernel
theorem dX2_changeTerm_4 : decode cX2_changeTerm 4 = .ok (.ifCond .ne 5, 3) := by decide +kernel
theorem dX2_changeTerm_7 : decode cX2_changeTerm 7 = .ok (.iconst 0, 1) := by decide +kernel
theorem dX2_changeTerm_8 : decode cX2_changeTerm 8 = .ok (.ireturn, 1) := by decide +kernel
theorem dX2_changeTerm_9 : decode cX2_changeTerm 9 = .ok (.aload_n 0, 1) := by decide +kernel
theorem dX2_changeTerm_10 : decode cX2_changeTerm 10 = .ok (.iload_n 1, 1) := by decide +kernel
theorem dX2_changeTerm_11 : decode cX2_changeTerm 11 = .ok (.putfield 15, 3) := by decide +kernel
theorem dX2_changeTerm_14 : decode cX2_changeTerm 14 = .ok (.iconst 1, 1) := by decide +kernel
theorem dX2_changeTerm_15 : decode cX2_changeTerm 15 = .ok (.ireturn, 1) := by decide +kernel
set_option maxRecDepth 20000 in
theorem ggX2_follow_X2_changeTerm : GoodIn wsX2_follow wsX2_changeTerm := goodIn_r _ [6, 7, 8, 9, 10, 5, 11, 12, 13, 14, 15, 16, 17, 18, 1, 19, 20, 21, 22, 23, 24, 25, 26, 27, 28, 29] (by decide +kernel) (by decide +kernel)
set_option maxRecDepth 20000 in
theorem gX2_follow_X2_changeTerm : GoodIn wsX2_follow (wsV RX2 54 RX2 yX2_changeTerm wsX2_changeTerm) := goodIn_app (goodIn_of _ (by decide +kernel)) ggX2_follow_X2_changeTerm
theorem dX2_follow_0 : decode cX2_follow 0 = .ok (.aload_n 0, 1) := by decide +kernel
theorem dX2_follow_1 : decode cX2_follow 1 = .ok (.iload_n 1, 1) := by decide +kernel
theorem dX2_follow_2 : decode cX2_follow 2 = .ok (.invokevirtual 54, 3) := by decide +kernel
theorem dX2_follow_5 : decode cX2_follow 5 = .ok (.ifCond .ne 5, 3) := by decide +kernel
theorem dX2_follow_8 : decode cX2_follow 8 = .ok (.iconst 0, 1) := by decide +kernel
theorem dX2_follow_9 : decode cX2_follow 9 = .ok (.ireturn, 1) := by decide +kernel
theorem dX2_follow_10 : decode cX2_follow 10 = .ok (.aload_n 0, 1) := by decide +kernel
theorem dX2_follow_11 : decode cX2_follow 11 = .ok (.iconst 0, 1) := by decide +kernel
theorem dX2_follow_12 : decode cX2_follow 12 = .ok (.putfield 18, 3) := by decide +kernel
theorem dX2_follow_15 : decode cX2_follow 15 = .ok (.iconst 1, 1) := by decide +kernel
theorem dX2_follow_16 : decode cX2_follow 16 = .ok (.ireturn, 1) := by decide +kernel
theorem dX2_nextOwnTerm_0 : decode cX2_nextOwnTerm 0 = .ok (.aload_n 0, 1) := by decide +kernel
theorem dX2_nextOwnTerm_1 : decode cX2_nextOwnTerm 1 = .ok (.getfield 15, 3) := by decide +kernel
theorem dX2_nextOwnTerm_4 : decode cX2_nextOwnTerm 4 = .ok (.iconst 1, 1) := by decide +kernel
theorem dX2_nextOwnTerm_5 : decode cX2_nextOwnTerm 5 = .ok (.iadd, 1) := by decide +kernel
theorem dX2_nextOwnTerm_6 : decode cX2_nextOwnTerm 6 = .ok (.iconst 2, 1) := by decide +kernel
theorem dX2_nextOwnTerm_7 : decode cX2_nextOwnTerm 7 = .ok (.irem, 1) := by decide +kernel
theorem dX2_nextOwnTerm_8 : decode cX2_nextOwnTerm 8 = .ok (.aload_n 0, 1) := by decide +kernel
theorem dX2_nextOwnTerm_9 : decode cX2_nextOwnTerm 9 = .ok (.getfield 9, 3) := by decide +kernel
theorem dX2_nextOwnTerm_12 : decode cX2_nextOwnTerm 12 = .ok (.if_icmp .ne 12, 3) := by decide +kernel
theorem dX2_nextOwnTerm_15 : decode cX2_nextOwnTerm 15 = .ok (.aload_n 0, 1) := by decide +kernel
theorem dX2_nextOwnTerm_16 : decode cX2_nextOwnTerm 16 = .ok (.getfield 15, 3) := by decide +kernel
theorem dX2_nextOwnTerm_19 : decode cX2_nextOwnTerm 19 = .ok (.iconst 1, 1) := by decide +kernel
theorem dX2_nextOwnTerm_20 : decode cX2_nextOwnTerm 20 = .ok (.iadd, 1) := by decide +kernel
theorem dX2_nextOwnTerm_21 : decode cX2_nextOwnTerm 21 = .ok (.goto 9, 3) := by decide +kernel
theorem dX2_nextOwnTerm_24 : decode cX2_nextOwnTerm 24 = .ok (.aload_n 0, 1) := by decide +kernel
theorem dX2_nextOwnTerm_25 : decode cX2_nextOwnTerm 25 = .ok (.getfield 15, 3) := by decide +kernel
theorem dX2_nextOwnTerm_28 : decode cX2_nextOwnTerm 28 = .ok (.iconst 2, 1) := by decide +kernel
theorem dX2_nextOwnTerm_29 : decode cX2_nextOwnTerm 29 = .ok (.iadd, 1) := by decide +kernel
theorem dX2_nextOwnTerm_30 : decode cX2_nextOwnTerm 30 = .ok (.ireturn, 1) := by decide +kernel
theorem dX2_hasEntry_0 : decode cX2_hasEntry 0 = .ok (.iload_n 1, 1) := by decide +kernel
theorem dX2_hasEntry_1 : decode cX2_hasEntry 1 = .ok (.ifCond .lt 15, 3) := by decide +kernel
theorem dX2_hasEntry_4 : decode cX2_hasEntry 4 = .ok (.iload_n 1, 1) := by decide +kernel
theorem dX2_hasEntry_5 : decode cX2_hasEntry 5 = .ok (.aload_n 0, 1) := by decide +kernel
theorem dX2_hasEntry_6 : decode cX2_hasEntry 6 = .ok (.getfield 47, 3) := by decide +kernel
theorem dX2_hasEntry_9 : decode cX2_hasEntry 9 = .ok (.if_icmp .ge 7, 3) := by decide +kernel
theorem dX2_hasEntry_12 : decode cX2_hasEntry 12 = .ok (.iconst 1, 1) := by decide +kernel
theorem dX2_hasEntry_13 : decode cX2_hasEntry 13 = .ok (.goto 4, 3) := by decide +kernel
theorem dX2_hasEntry_16 : decode cX2_hasEntry 16 = .ok (.iconst 0, 1) := by decide +kernel
theorem dX2_hasEntry_17 : decode cX2_hasEntry 17 = .ok (.ireturn, 1) := by decide +kernel
set_option maxRecDepth 20000 in
theorem ggX2_hasEntryOfTerm_X2_hasEntry : GoodIn wsX2_hasEntryOfTerm wsX2_hasEntry := goodIn_r _ [6, 7, 8, 9, 10, 11, 12, 13, 14, 15, 16, 17, 18] (by decide +kernel) (by decide +kernel)
set_option maxRecDepth 20000 in
theorem gX2_hasEntryOfTerm_X2_hasEntry : GoodIn wsX2_hasEntryOfTerm (wsV RX2 58 RX2 yX2_hasEntry wsX2_hasEntry) := goodIn_app (goodIn_of _ (by decide +kernel)) ggX2_hasEntryOfTerm_X2_hasEntry
theorem dX2_hasEntryOfTerm_0 : decode cX2_hasEntryOfTerm 0 = .ok (.aload_n 0, 1) := by decide +kernel
theorem dX2_hasEntryOfTerm_1 : decode cX2_hasEntryOfTerm 1 = .ok (.iload_n 1, 1) := by decide +kernel
theorem dX2_hasEntryOfTerm_2 : decode cX2_hasEntryOfTerm 2 = .ok (.invokevirtual 58, 3) := by decide +kernel
theorem dX2_hasEntryOfTerm_5 : decode cX2_hasEntryOfTerm 5 = .ok (.ifCond .eq 17, 3) := by decide +kernel
theorem dX2_hasEntryOfTerm_8 : decode cX2_hasEntryOfTerm 8 = .ok (.aload_n 0, 1) := by decide +kernel
theorem dX2_hasEntryOfTerm_9 : decode cX2_hasEntryOfTerm 9 = .ok (.getfield 22, 3) := by decide +kernel
theorem dX2_hasEntryOfTerm_12 : decode cX2_hasEntryOfTerm 12 = .ok (.iload_n 1, 1) := by decide +kernel
theorem dX2_hasEntryOfTerm_13 : decode cX2_hasEntryOfTerm 13 = .ok (.iaload, 1) := by decide +kernel
theorem dX2_hasEntryOfTerm_14 : decode cX2_hasEntryOfTerm 14 = .ok (.iload_n 2, 1) := by decide +kernel
theorem dX2_hasEntryOfTerm_15 : decode cX2_hasEntryOfTerm 15 = .ok (.if_icmp .ne 7, 3) := by decide +kernel
theorem dX2_hasEntryOfTerm_18 : decode cX2_hasEntryOfTerm 18 = .ok (.iconst 1, 1) := by decide +kernel
theorem dX2_hasEntryOfTerm_19 : decode cX2_hasEntryOfTerm 19 = .ok (.goto 4, 3) := by decide +kernel
theorem dX2_hasEntryOfTerm_22 : decode cX2_hasEntryOfTerm 22 = .ok (.iconst 0, 1) := by decide +kernel
theorem dX2_hasEntryOfTerm_23 : decode cX2_hasEntryOfTerm 23 = .ok (.ireturn, 1) := by decide +kernel
set_option maxRecDepth 20000 in
theorem ggX2_isEntry_X2_hasEntryOfTerm : GoodIn wsX2_isEntry wsX2_hasEntryOfTerm := goodIn_r _ [7, 8, 9, 10, 11, 6, 12, 13, 14, 15, 16, 17, 18, 19, 20, 21, 22, 23, 24] (by decide +kernel) (by decide +kernel)
set_option maxRecDepth 20000 in
theorem gX2_isEntry_X2_hasEntryOfTerm : GoodIn wsX2_isEntry (wsV RX2 61 RX2 yX2_hasEntryOfTerm wsX2_hasEntryOfTerm) := goodIn_app (goodIn_of _ (by decide +kernel)) ggX2_isEntry_X2_hasEntryOfTerm
theorem dX2_isEntry_0 : decode cX2_isEntry 0 = .ok (.aload_n 0, 1) := by decide +kernel
theorem dX2_isEntry_1 : decode cX2_isEntry 1 = .ok (.iload_n 1, 1) := by decide +kernel
theorem dX2_isEntry_2 : decode cX2_isEntry 2 = .ok (.iload_n 2, 1) := by decide +kernel
theorem dX2_isEntry_3 : decode cX2_isEntry 3 = .ok (.invokevirtual 61, 3) := by decide +kernel
theorem dX2_isEntry_6 : decode cX2_isEntry 6 = .ok (.ifCond .eq 28, 3) := by decide +kernel
theorem dX2_isEntry_9 : decode cX2_isEntry 9 = .ok (.aload_n 0, 1) := by decide +kernel
theorem dX2_isEntry_10 : decode cX2_isEntry 10 = .ok (.getfield 26, 3) := by decide +kernel
theorem dX2_isEntry_13 : decode cX2_isEntry 13 = .ok (.iload_n 1, 1) := by decide +kernel
theorem dX2_isEntry_14 : decode cX2_isEntry 14 = .ok (.iaload, 1) := by decide +kernel
theorem dX2_isEntry_15 : decode cX2_isEntry 15 = .ok (.iload_n 3, 1) := by decide +kernel
theorem dX2_isEntry_16 : decode cX2_isEntry 16 = .ok (.if_icmp .ne 18, 3) := by decide +kernel
theorem dX2_isEntry_19 : decode cX2_isEntry 19 = .ok (.aload_n 0, 1) := by decide +kernel
theorem dX2_isEntry_20 : decode cX2_isEntry 20 = .ok (.getfield 29, 3) := by decide +kernel
theorem dX2_isEntry_23 : decode cX2_isEntry 23 = .ok (.iload_n 1, 1) := by decide +kernel
theorem dX2_isEntry_24 : decode cX2_isEntry 24 = .ok (.iaload, 1) := by decide +kernel
theorem dX2_isEntry_25 : decode cX2_isEntry 25 = .ok (.iload 4, 2) := by decide +kernel
theorem dX2_isEntry_27 : decode cX2_isEntry 27 = .ok (.if_icmp .ne 7, 3) := by decide +kernel
theorem dX2_isEntry_30 : decode cX2_isEntry 30 = .ok (.iconst 1, 1) := by decide +kernel
theorem dX2_isEntry_31 : decode cX2_isEntry 31 = .ok (.goto 4, 3) := by decide +kernel
theorem dX2_isEntry_34 : decode cX2_isEntry 34 = .ok (.iconst 0, 1) := by decide +kernel
theorem dX2_isEntry_35 : decode cX2_isEntry 35 = .ok (.ireturn, 1) := by decide +kernel
set_option maxRecDepth 20000 in
theorem ggX3_init_X2_init : GoodIn wsX3_init wsX2_init := goodIn_r _ [15, 16, 2, 3, 17, 18, 19, 20, 21, 22, 23, 24, 25, 26, 39, 40, 41, 42, 43, 44, 45, 46, 47, 48, 49] (by decide +kernel) (by decide +kernel)
set_option maxRecDepth 20000 in
theorem gX3_init_X2_init : GoodIn wsX3_init (wsX2_init) := ggX3_init_X2_init
set_option maxRecDepth 20000 in
theorem ggX3_init_X0_init : GoodIn wsX3_init wsX0_init := goodIn_r _ [29, 30, 2, 3, 31, 32, 33, 34, 35, 36, 37, 38, 53, 54, 55, 56, 57, 58, 59, 60, 61, 62, 63, 64] (by decide +kernel) (by decide +kernel)
set_option maxRecDepth 20000 in
theorem gX3_init_X0_init : GoodIn wsX3_init (wsX0_init) := ggX3_init_X0_init
theorem dX3_init_0 : decode cX3_init 0 = .ok (.aload_n 0, 1) := by decide +kernel
theorem dX3_init_1 : decode cX3_init 1 = .ok (.invokespecial 1, 3) := by decide +kernel
theorem dX3_init_4 : decode cX3_init 4 = .ok (.aload_n 0, 1) := by decide +kernel
theorem dX3_init_5 : decode cX3_init 5 = .ok (.new 7, 3) := by decide +kernel
theorem dX3_init_8 : decode cX3_init 8 = .ok (.dup, 1) := by decide +kernel
theorem dX3_init_9 : decode cX3_init 9 = .ok (.iconst 0, 1) := by decide +kernel
theorem dX3_init_10 : decode cX3_init 10 = .ok (.iconst 2, 1) := by decide +kernel
theorem dX3_init_11 : decode cX3_init 11 = .ok (.iconst 1, 1) := by decide +kernel
theorem dX3_init_12 : decode cX3_init 12 = .ok (.invokespecial 9, 3) := by decide +kernel
theorem dX3_init_15 : decode cX3_init 15 = .ok (.putfield 12, 3) := by decide +kernel
theorem dX3_init_18 : decode cX3_init 18 = .ok (.aload_n 0, 1) := by decide +kernel
theorem dX3_init_19 : decode cX3_init 19 = .ok (.new 7, 3) := by decide +kernel
theorem dX3_init_22 : decode cX3_init 22 = .ok (.dup, 1) := by decide +kernel
theorem dX3_init_23 : decode cX3_init 23 = .ok (.iconst 1, 1) := by decide +kernel
theorem dX3_init_24 : decode cX3_init 24 = .ok (.iconst 0, 1) := by decide +kernel
theorem dX3_init_25 : decode cX3_init 25 = .ok (.iconst 0, 1) := by decide +kernel
theorem dX3_init_26 : decode cX3_init 26 = .ok (.invokespecial 9, 3) := by decide +kernel
theorem dX3_init_29 : decode cX3_init 29 = .ok (.putfield 18, 3) := by decide +kernel
theorem dX3_init_32 : decode cX3_init 32 = .ok (.aload_n 0, 1) := by decide +kernel
theorem dX3_init_33 : decode cX3_init 33 = .ok (.new 21, 3) := by decide +kernel
theorem dX3_init_36 : decode cX3_init 36 = .ok (.dup, 1) := by decide +kernel
theorem dX3_init_37 : decode cX3_init 37 = .ok (.invokespecial 23, 3) := by decide +kernel
theorem dX3_init_40 : decode cX3_init 40 = .ok (.putfield 24, 3) := by decide +kernel
theorem dX3_init_43 : decode cX3_init 43 = .ok (.return_, 1) := by decide +kernel
set_option maxRecDepth 20000 in
theorem ggX3_put_X3_nodeOf : GoodIn wsX3_put wsX3_nodeOf := goodIn_r _ [10, 11, 12, 82, 83, 84] (by decide +kernel) (by decide +kernel)
set_option maxRecDepth 20000 in
theorem gX3_put_X3_nodeOf : GoodIn wsX3_put (wsV RX3 28 RX3 yX3_nodeOf wsX3_nodeOf) := goodIn_app (goodIn_of _ (by decide +kernel)) ggX3_put_X3_nodeOf
set_option maxRecDepth 20000 in
theorem ggX3_put_X3_isKey : GoodIn wsX3_put wsX3_isKey := goodIn_r _ [15] (by decide +kernel) (by decide +kernel)
set_option maxRecDepth 20000 in
theorem gX3_put_X3_isKey : GoodIn wsX3_put (va_wsS RX3 32 yX3_isKey wsX3_isKey) := goodIn_app (goodIn_of _ (by decide +kernel)) ggX3_put_X3_isKey
set_option maxRecDepth 20000 in
theorem ggX3_put_X0_isFull : GoodIn wsX3_put wsX0_isFull := goodIn_r _ [20, 21, 85, 86, 87] (by decide +kernel) (by decide +kernel)
set_option maxRecDepth 20000 in
theorem gX3_put_X0_isFull : GoodIn wsX3_put (wsV RX3 47 RX0 yX0_isFull wsX0_isFull) := goodIn_app (goodIn_of _ (by decide +kernel)) ggX3_put_X0_isFull
set_option maxRecDepth 20000 in
theorem ggX3_put_X2_append : GoodIn wsX3_put wsX2_append := goodIn_r _ [26, 27, 28, 29, 30, 31, 32, 33, 25, 34, 35, 36, 37, 38, 39, 40, 41, 42, 71, 72, 73, 74, 75, 76, 77, 78, 79, 80, 81] (by decide +kernel) (by decide +kernel)
set_option maxRecDepth 20000 in
theorem gX3_put_X2_append : GoodIn wsX3_put (wsV RX3 54 RX2 yX2_append wsX2_append) := goodIn_app (goodIn_of _ (by decide +kernel)) ggX3_put_X2_append
set_option maxRecDepth 20000 in
theorem ggX3_put_X3_ship : GoodIn wsX3_put wsX3_ship := goodIn_r _ [46, 4, 47, 48, 49, 50, 51, 52, 53, 3, 54, 55, 56, 57, 25, 58, 27, 59, 60, 61, 19, 62, 63, 21, 64, 65, 66, 67, 68, 69, 70, 17, 18, 20, 82, 83, 84, 71, 72, 73, 74, 75, 76, 77, 78, 79, 80, 81, 88, 89, 90, 91, 92, 93, 94, 95, 96, 85, 86, 87] (by decide +kernel) (by decide +kernel)
set_option maxRecDepth 20000 in
theorem gX3_put_X3_ship : GoodIn wsX3_put (wsV RX3 58 RX3 yX3_ship wsX3_ship) := goodIn_app (goodIn_of _ (by decide +kernel)) ggX3_put_X3_ship
theorem dX3_put_0 : decode cX3_put 0 = .ok (.aload_n 0, 1) := by decide +kernel
theorem dX3_put_1 : decode cX3_put 1 = .ok (.iload_n 1, 1) := by decide +kernel
theorem dX3_put_2 : decode cX3_put 2 = .ok (.invokevirtual 28, 3) := by decide +kernel
theorem dX3_put_5 : decode cX3_put 5 = .ok (.astore 4, 2) := by decide +kernel
theorem dX3_put_7 : decode cX3_put 7 = .ok (.aload 4, 2) := by decide +kernel
theorem dX3_put_9 : decode cX3_put 9 = .ok (.ifnull 10, 3) := by decide +kernel
theorem dX3_put_12 : decode cX3_put 12 = .ok (.iload_n 2, 1) := by decide +kernel
theorem dX3_put_13 : decode cX3_put 13 = .ok (.invokestatic 32, 3) := by decide +kernel
theorem dX3_put_16 : decode cX3_put 16 = .ok (.ifCond .ne 5, 3) := by decide +kernel
theorem dX3_put_19 : decode cX3_put 19 = .ok (.iconst (-1), 1) := by decide +kernel
theorem dX3_put_20 : decode cX3_put 20 = .ok (.ireturn, 1) := by decide +kernel
theorem dX3_put_21 : decode cX3_put 21 = .ok (.aload 4, 2) := by decide +kernel
theorem dX3_put_23 : decode cX3_put 23 = .ok (.getfield 36, 3) := by decide +kernel
theorem dX3_put_26 : decode cX3_put 26 = .ok (.ifCond .ne 6, 3) := by decide +kernel
theorem dX3_put_29 : decode cX3_put 29 = .ok (.bipush (-4), 2) := by decide +kernel
theorem dX3_put_31 : decode cX3_put 31 = .ok (.ireturn, 1) := by decide +kernel
theorem dX3_put_32 : decode cX3_put 32 = .ok (.aload 4, 2) := by decide +kernel
theorem dX3_put_34 : decode cX3_put 34 = .ok (.getfield 40, 3) := by decide +kernel
theorem dX3_put_37 : decode cX3_put 37 = .ok (.ifCond .ne 6, 3) := by decide +kernel
theorem dX3_put_40 : decode cX3_put 40 = .ok (.bipush (-2), 2) := by decide +kernel
theorem dX3_put_42 : decode cX3_put 42 = .ok (.ireturn, 1) := by decide +kernel
theorem dX3_put_43 : decode cX3_put 43 = .ok (.aload 4, 2) := by decide +kernel
theorem dX3_put_45 : decode cX3_put 45 = .ok (.getfield 43, 3) := by decide +kernel
theorem dX3_put_48 : decode cX3_put 48 = .ok (.bipush 64, 2) := by decide +kernel
theorem dX3_put_50 : decode cX3_put 50 = .ok (.if_icmp .ge 13, 3) := by decide +kernel
theorem dX3_put_53 : decode cX3_put 53 = .ok (.aload_n 0, 1) := by decide +kernel
theorem dX3_put_54 : decode cX3_put 54 = .ok (.getfield 24, 3) := by decide +kernel
theorem dX3_put_57 : decode cX3_put 57 = .ok (.invokevirtual 47, 3) := by decide +kernel
theorem dX3_put_60 : decode cX3_put 60 = .ok (.ifCond .eq 6, 3) := by decide +kernel
theorem dX3_put_63 : decode cX3_put 63 = .ok (.bipush (-3), 2) := by decide +kernel
theorem dX3_put_65 : decode cX3_put 65 = .ok (.ireturn, 1) := by decide +kernel
theorem dX3_put_66 : decode cX3_put 66 = .ok (.aload 4, 2) := by decide +kernel
theorem dX3_put_68 : decode cX3_put 68 = .ok (.getfield 43, 3) := by decide +kernel
theorem dX3_put_71 : decode cX3_put 71 = .ok (.istore 5, 2) := by decide +kernel
theorem dX3_put_73 : decode cX3_put 73 = .ok (.aload 4, 2) := by decide +kernel
theorem dX3_put_75 : decode cX3_put 75 = .ok (.aload 4, 2) := by decide +kernel
theorem dX3_put_77 : decode cX3_put 77 = .ok (.getfield 51, 3) := by decide +kernel
theorem dX3_put_80 : decode cX3_put 80 = .ok (.iload_n 2, 1) := by decide +kernel
theorem dX3_put_81 : decode cX3_put 81 = .ok (.iload_n 3, 1) := by decide +kernel
theorem dX3_put_82 : decode cX3_put 82 = .ok (.invokevirtual 54, 3) := by decide +kernel
theorem dX3_put_85 : decode cX3_put 85 = .ok (.ifCond .ne 6, 3) := by decide +kernel
theorem dX3_put_88 : decode cX3_put 88 = .ok (.bipush (-4), 2) := by decide +kernel
theorem dX3_put_90 : decode cX3_put 90 = .ok (.ireturn, 1) := by decide +kernel
theorem dX3_put_91 : decode cX3_put 91 = .ok (.aload_n 0, 1) := by decide +kernel
theorem dX3_put_92 : decode cX3_put 92 = .ok (.aload 4, 2) := by decide +kernel
theorem dX3_put_94 : decode cX3_put 94 = .ok (.iload 5, 2) := by decide +kernel
theorem dX3_put_96 : decode cX3_put 96 = .ok (.invokevirtual 58, 3) := by decide +kernel
theorem dX3_put_99 : decode cX3_put 99 = .ok (.iload 5, 2) := by decide +kernel
theorem dX3_put_101 : decode cX3_put 101 = .ok (.ireturn, 1) := by decide +kernel
set_option maxRecDepth 20000 in
theorem ggX3_get_X3_nodeOf : GoodIn wsX3_get wsX3_nodeOf := goodIn_r _ [8, 9, 10, 25, 26, 27] (by decide +kernel) (by decide +kernel)
set_option maxRecDepth 20000 in
theorem gX3_get_X3_nodeOf : GoodIn wsX3_get (wsV RX3 28 RX3 yX3_nodeOf wsX3_nodeOf) := goodIn_app (goodIn_of _ (by decide +kernel)) ggX3_get_X3_nodeOf
set_option maxRecDepth 20000 in
theorem ggX3_get_X3_isKey : GoodIn wsX3_get wsX3_isKey := goodIn_r _ [13] (by decide +kernel) (by decide +kernel)
set_option maxRecDepth 20000 in
theorem gX3_get_X3_isKey : GoodIn wsX3_get (va_wsS RX3 32 yX3_isKey wsX3_isKey) := goodIn_app (goodIn_of _ (by decide +kernel)) ggX3_get_X3_isKey
theorem dX3_get_0 : decode cX3_get 0 = .ok (.aload_n 0, 1) := by decide +kernel
theorem dX3_get_1 : decode cX3_get 1 = .ok (.iload_n 1, 1) := by decide +kernel
theorem dX3_get_2 : decode cX3_get 2 = .ok (.invokevirtual 28, 3) := by decide +kernel
theorem dX3_get_5 : decode cX3_get 5 = .ok (.astore_n 3, 1) := by decide +kernel
theorem dX3_get_6 : decode cX3_get 6 = .ok (.aload_n 3, 1) := by decide +kernel
theorem dX3_get_7 : decode cX3_get 7 = .ok (.ifnull 10, 3) := by decide +kernel
theorem dX3_get_10 : decode cX3_get 10 = .ok (.iload_n 2, 1) := by decide +kernel
theorem dX3_get_11 : decode cX3_get 11 = .ok (.invokestatic 32, 3) := by decide +kernel
theorem dX3_get_14 : decode cX3_get 14 = .ok (.ifCond .ne 5, 3) := by decide +kernel
theorem dX3_get_17 : decode cX3_get 17 = .ok (.iconst (-1), 1) := by decide +kernel
theorem dX3_get_18 : decode cX3_get 18 = .ok (.ireturn, 1) := by decide +kernel
theorem dX3_get_19 : decode cX3_get 19 = .ok (.aload_n 3, 1) := by decide +kernel
theorem dX3_get_20 : decode cX3_get 20 = .ok (.getfield 43, 3) := by decide +kernel
theorem dX3_get_23 : decode cX3_get 23 = .ok (.iconst 1, 1) := by decide +kernel
theorem dX3_get_24 : decode cX3_get 24 = .ok (.isub, 1) := by decide +kernel
theorem dX3_get_25 : decode cX3_get 25 = .ok (.istore 4, 2) := by decide +kernel
theorem dX3_get_27 : decode cX3_get 27 = .ok (.iload 4, 2) := by decide +kernel
theorem dX3_get_29 : decode cX3_get 29 = .ok (.ifCond .lt 28, 3) := by decide +kernel
theorem dX3_get_32 : decode cX3_get 32 = .ok (.aload_n 3, 1) := by decide +kernel
theorem dX3_get_33 : decode cX3_get 33 = .ok (.getfield 62, 3) := by decide +kernel
theorem dX3_get_36 : decode cX3_get 36 = .ok (.iload 4, 2) := by decide +kernel
theorem dX3_get_38 : decode cX3_get 38 = .ok (.iaload, 1) := by decide +kernel
theorem dX3_get_39 : decode cX3_get 39 = .ok (.iload_n 2, 1) := by decide +kernel
theorem dX3_get_40 : decode cX3_get 40 = .ok (.if_icmp .ne 11, 3) := by decide +kernel
theorem dX3_get_43 : decode cX3_get 43 = .ok (.aload_n 3, 1) := by decide +kernel
theorem dX3_get_44 : decode cX3_get 44 = .ok (.getfield 66, 3) := by decide +kernel
theorem dX3_get_47 : decode cX3_get 47 = .ok (.iload 4, 2) := by decide +kernel
theorem dX3_get_49 : decode cX3_get 49 = .ok (.iaload, 1) := by decide +kernel
theorem dX3_get_50 : decode cX3_get 50 = .ok (.ireturn, 1) := by decide +kernel
theorem dX3_get_51 : decode cX3_get 51 = .ok (.iinc 4 (-1), 3) := by decide +kernel
theorem dX3_get_54 : decode cX3_get 54 = .ok (.goto (-27), 3) := by decide +kernel
theorem dX3_get_57 : decode cX3_get 57 = .ok (.iconst 0, 1) := by decide +kernel
theorem dX3_get_58 : decode cX3_get 58 = .ok (.ireturn, 1) := by decide +kernel
set_option maxRecDepth 20000 in
theorem ggX3_pump_X0_take : GoodIn wsX3_pump wsX0_take := goodIn_r _ [11, 12, 13, 14, 15, 16, 17, 10, 18, 149, 150, 151] (by decide +kernel) (by decide +kernel)
set_option maxRecDepth 20000 in
theorem gX3_pump_X0_take : GoodIn wsX3_pump (wsV RX3 69 RX0 yX0_take wsX0_take) := goodIn_app (goodIn_of _ (by decide +kernel)) ggX3_pump_X0_take
set_option maxRecDepth 20000 in
theorem ggX3_pump_X3_arrive : GoodIn wsX3_pump wsX3_arrive := goodIn_r _ [23, 24, 25, 6, 1, 26, 27, 28, 29, 30, 10, 31, 13, 12, 32, 33, 34, 35, 36, 37, 38, 39, 40, 41, 42, 43, 44, 45, 46, 47, 48, 49, 50, 51, 52, 53, 54, 55, 56, 57, 58, 59, 60, 61, 62, 63, 64, 65, 66, 22, 67, 68, 69, 70, 71, 72, 73, 74, 75, 76, 77, 78, 79, 80, 81, 82, 83, 84, 85, 86, 87, 88, 89, 90, 91, 92, 93, 94, 95, 96, 97, 98, 99, 100, 101, 102, 103, 104, 105, 106, 107, 108, 109, 110, 111, 112, 113, 114, 115, 116, 117, 118, 119, 120, 121, 122, 123, 124, 125, 129, 130, 131, 132, 133, 134, 135, 136, 137, 138, 139, 140, 141, 142, 143, 144, 145, 146, 147, 148, 126, 127, 128, 149, 150, 151] (by decide +kernel) (by decide +kernel)
set_option maxRecDepth 20000 in
theorem gX3_pump_X3_arrive : GoodIn wsX3_pump (wsV RX3 81 RX3 yX3_arrive wsX3_arrive) := goodIn_app (goodIn_of _ (by decide +kernel)) ggX3_pump_X3_arrive
theorem dX3_pump_0 : decode cX3_pump 0 = .ok (.aload_n 0, 1) := by decide +kernel
theorem dX3_pump_1 : decode cX3_pump 1 = .ok (.getfield 24, 3) := by decide +kernel
theorem dX3_pump_4 : decode cX3_pump 4 = .ok (.iconst 0, 1) := by decide +kernel
theorem dX3_pump_5 : decode cX3_pump 5 = .ok (.invokevirtual 69, 3) := by decide +kernel
theorem dX3_pump_8 : decode cX3_pump 8 = .ok (.astore_n 1, 1) := by decide +kernel
theorem dX3_pump_9 : decode cX3_pump 9 = .ok (.aload_n 1, 1) := by decide +kernel
theorem dX3_pump_10 : decode cX3_pump 10 = .ok (.ifnonnull 5, 3) := by decide +kernel
theorem dX3_pump_13 : decode cX3_pump 13 = .ok (.iconst 0, 1) := by decide +kernel
theorem dX3_pump_14 : decode cX3_pump 14 = .ok (.ireturn, 1) := by decide +kernel
theorem dX3_pump_15 : decode cX3_pump 15 = .ok (.aload_n 1, 1) := by decide +kernel
theorem dX3_pump_16 : decode cX3_pump 16 = .ok (.getfield 73, 3) := by decide +kernel
theorem dX3_pump_19 : decode cX3_pump 19 = .ok (.ifCond .ne 10, 3) := by decide +kernel
theorem dX3_pump_22 : decode cX3_pump 22 = .ok (.aload_n 0, 1) := by decide +kernel
theorem dX3_pump_23 : decode cX3_pump 23 = .ok (.getfield 12, 3) := by decide +kernel
theorem dX3_pump_26 : decode cX3_pump 26 = .ok (.goto 7, 3) := by decide +kernel
theorem dX3_pump_29 : decode cX3_pump 29 = .ok (.aload_n 0, 1) := by decide +kernel
theorem dX3_pump_30 : decode cX3_pump 30 = .ok (.getfield 18, 3) := by decide +kernel
theorem dX3_pump_33 : decode cX3_pump 33 = .ok (.astore_n 2, 1) := by decide +kernel
theorem dX3_pump_34 : decode cX3_pump 34 = .ok (.aload_n 2, 1) := by decide +kernel
theorem dX3_pump_35 : decode cX3_pump 35 = .ok (.getfield 36, 3) := by decide +kernel
theorem dX3_pump_38 : decode cX3_pump 38 = .ok (.ifCond .ne 11, 3) := by decide +kernel
theorem dX3_pump_41 : decode cX3_pump 41 = .ok (.aload_n 1, 1) := by decide +kernel
theorem dX3_pump_42 : decode cX3_pump 42 = .ok (.getfield 78, 3) := by decide +kernel
theorem dX3_pump_45 : decode cX3_pump 45 = .ok (.bipush 10, 2) := by decide +kernel
theorem dX3_pump_47 : decode cX3_pump 47 = .ok (.iadd, 1) := by decide +kernel
theorem dX3_pump_48 : decode cX3_pump 48 = .ok (.ireturn, 1) := by decide +kernel
theorem dX3_pump_49 : decode cX3_pump 49 = .ok (.aload_n 0, 1) := by decide +kernel
theorem dX3_pump_50 : decode cX3_pump 50 = .ok (.aload_n 1, 1) := by decide +kernel
theorem dX3_pump_51 : decode cX3_pump 51 = .ok (.aload_n 2, 1) := by decide +kernel
theorem dX3_pump_52 : decode cX3_pump 52 = .ok (.invokevirtual 81, 3) := by decide +kernel
theorem dX3_pump_55 : decode cX3_pump 55 = .ok (.ifCond .eq 10, 3) := by decide +kernel
theorem dX3_pump_58 : decode cX3_pump 58 = .ok (.aload_n 1, 1) := by decide +kernel
theorem dX3_pump_59 : decode cX3_pump 59 = .ok (.getfield 78, 3) := by decide +kernel
theorem dX3_pump_62 : decode cX3_pump 62 = .ok (.goto 10, 3) := by decide +kernel
theorem dX3_pump_65 : decode cX3_pump 65 = .ok (.aload_n 1, 1) := by decide +kernel
theorem dX3_pump_66 : decode cX3_pump 66 = .ok (.getfield 78, 3) := by decide +kernel
theorem dX3_pump_69 : decode cX3_pump 69 = .ok (.bipush 20, 2) := by decide +kernel
theorem dX3_pump_71 : decode cX3_pump 71 = .ok (.iadd, 1) := by decide +kernel
theorem dX3_pump_72 : decode cX3_pump 72 = .ok (.ireturn, 1) := by decide +kernel
set_option maxRecDepth 20000 in
theorem ggX3_drop_X0_take : GoodIn wsX3_drop wsX0_take := goodIn_r _ [6, 7, 8, 9, 10, 11, 12, 5, 13, 17, 18, 19] (by decide +kernel) (by decide +kernel)
set_option maxRecDepth 20000 in
theorem gX3_drop_X0_take : GoodIn wsX3_drop (wsV RX3 69 RX0 yX0_take wsX0_take) := goodIn_app (goodIn_of _ (by decide +kernel)) ggX3_drop_X0_take
theorem dX3_drop_0 : decode cX3_drop 0 = .ok (.aload_n 0, 1) := by decide +kernel
theorem dX3_drop_1 : decode cX3_drop 1 = .ok (.getfield 24, 3) := by decide +kernel
theorem dX3_drop_4 : decode cX3_drop 4 = .ok (.iload_n 1, 1) := by decide +kernel
theorem dX3_drop_5 : decode cX3_drop 5 = .ok (.invokevirtual 69, 3) := by decide +kernel
theorem dX3_drop_8 : decode cX3_drop 8 = .ok (.ifnull 7, 3) := by decide +kernel
theorem dX3_drop_11 : decode cX3_drop 11 = .ok (.iconst 1, 1) := by decide +kernel
theorem dX3_drop_12 : decode cX3_drop 12 = .ok (.goto 4, 3) := by decide +kernel
theorem dX3_drop_15 : decode cX3_drop 15 = .ok (.iconst 0, 1) := by decide +kernel
theorem dX3_drop_16 : decode cX3_drop 16 = .ok (.ireturn, 1) := by decide +kernel
set_option maxRecDepth 20000 in
theorem ggX3_fuse_X3_nodeOf : GoodIn wsX3_fuse wsX3_nodeOf := goodIn_r _ [10, 11, 12, 24, 25, 26] (by decide +kernel) (by decide +kernel)
set_option maxRecDepth 20000 in
theorem gX3_fuse_X3_nodeOf : GoodIn wsX3_fuse (wsV RX3 28 RX3 yX3_nodeOf wsX3_nodeOf) := goodIn_app (goodIn_of _ (by decide +kernel)) ggX3_fuse_X3_nodeOf
theorem dX3_fuse_0 : decode cX3_fuse 0 = .ok (.aload_n 0, 1) := by decide +kernel
theorem dX3_fuse_1 : decode cX3_fuse 1 = .ok (.iload_n 1, 1) := by decide +kernel
theorem dX3_fuse_2 : decode cX3_fuse 2 = .ok (.invokevirtual 28, 3) := by decide +kernel
theorem dX3_fuse_5 : decode cX3_fuse 5 = .ok (.astore_n 3, 1) := by decide +kernel
theorem dX3_fuse_6 : decode cX3_fuse 6 = .ok (.aload_n 3, 1) := by decide +kernel
theorem dX3_fuse_7 : decode cX3_fuse 7 = .ok (.ifnonnull 5, 3) := by decide +kernel
theorem dX3_fuse_10 : decode cX3_fuse 10 = .ok (.iconst (-1), 1) := by decide +kernel
theorem dX3_fuse_11 : decode cX3_fuse 11 = .ok (.ireturn, 1) := by decide +kernel
theorem dX3_fuse_12 : decode cX3_fuse 12 = .ok (.aload_n 3, 1) := by decide +kernel
theorem dX3_fuse_13 : decode cX3_fuse 13 = .ok (.iload_n 2, 1) := by decide +kernel
theorem dX3_fuse_14 : decode cX3_fuse 14 = .ok (.iconst (-1), 1) := by decide +kernel
theorem dX3_fuse_15 : decode cX3_fuse 15 = .ok (.invokestatic 85, 3) := by decide +kernel
theorem dX3_fuse_18 : decode cX3_fuse 18 = .ok (.putfield 91, 3) := by decide +kernel
theorem dX3_fuse_21 : decode cX3_fuse 21 = .ok (.iconst 1, 1) := by decide +kernel
theorem dX3_fuse_22 : decode cX3_fuse 22 = .ok (.ireturn, 1) := by decide +kernel
set_option maxRecDepth 20000 in
theorem ggX3_crash_X3_nodeOf : GoodIn wsX3_crash wsX3_nodeOf := goodIn_r _ [6, 7, 8, 28, 29, 30] (by decide +kernel) (by decide +kernel)
set_option maxRecDepth 20000 in
theorem gX3_crash_X3_nodeOf : GoodIn wsX3_crash (wsV RX3 28 RX3 yX3_nodeOf wsX3_nodeOf) := goodIn_app (goodIn_of _ (by decide +kernel)) ggX3_crash_X3_nodeOf
set_option maxRecDepth 20000 in
theorem ggX3_crash_X2_goDown : GoodIn wsX3_crash wsX2_goDown := goodIn_r _ [13, 14, 15, 16, 17, 18, 19, 20, 21, 22, 23, 24, 25, 26, 27] (by decide +kernel) (by decide +kernel)
set_option maxRecDepth 20000 in
theorem gX3_crash_X2_goDown : GoodIn wsX3_crash (wsV RX3 94 RX2 yX2_goDown wsX2_goDown) := goodIn_app (goodIn_of _ (by decide +kernel)) ggX3_crash_X2_goDown
theorem dX3_crash_0 : decode cX3_crash 0 = .ok (.aload_n 0, 1) := by decide +kernel
