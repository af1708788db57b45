section
/-! ===== BEGIN words of one list among another's, by their places ===== -/
theorem goodIn_r {big : List Cond} (ws : List Cond) (ps : List Nat) (hp : ws = ps.filterMap (fun i => big[i]?)) (h : ws.all goodWord = true) : GoodIn big ws := by
  intro w hw
  have h1 := List.all_eq_true.mp h w hw
  rw [hp] at hw
  obtain ⟨i, -, hi⟩ := List.mem_filterMap.mp hw
  have hm : w ∈ big := by first | exact List.mem_of_getElem? hi | exact List.getElem?_mem hi
  exact ⟨hm, good_of_word h1⟩
theorem goodIn_app {big a b : List Cond} (ha : GoodIn big a) (hb : GoodIn big b) : GoodIn big (a ++ b) := fun w h => (List.mem_append.mp h).elim (ha w) (hb w)
theorem goodIn_ca {big a b : List Cond} {c : Cond} (ha : GoodIn big (c :: a)) (hb : GoodIn big b) : GoodIn big (c :: (a ++ b)) := fun w h => (List.mem_cons.mp h).elim (fun e => ha w (List.mem_cons.mpr (Or.inl e))) (fun h => (List.mem_append.mp h).elim (fun h => ha w (List.mem_cons.mpr (Or.inr h))) (hb w))
theorem goodIn_sub {big ws : List Cond} (hm : ∀ w ∈ ws, w ∈ big) (h : ws.all goodWord = true) : GoodIn big ws := fun w hw => ⟨hm w hw, good_of_word (List.all_eq_true.mp h w hw)⟩
/-! ===== END ===== -/

/-! ===== BEGIN printed: names, fields, word lists, decode rows ===== -/
def RX0 : String := "MainsWords$History"
def TX0 : u_T := fun k => match k with
  | 0 => ("MainsWords$History", "states", "[LMainsWords$Net;", true)
  | _ => ("MainsWords$History", "kept", "I", false)
def tyX0 : Nat → FieldType := fun k => match k with
  | 0 => .array (.object "MainsWords$Net")
  | _ => .int
abbrev wsX00 : List Cond := u_ws RX0 TX0 2
theorem nmX0 : ∀ a, a < 2 → ∀ b, b < 2 → a ≠ b → (TX0 a).2.1 ≠ (TX0 b).2.1 := by decide +kernel
theorem tyX0_ok : ∀ k, k < 2 → parseFieldDescriptor (TX0 k).2.2.1 = some (tyX0 k) := by decide +kernel
abbrev cX0_init : ByteArray := prog_2_method_1_code
def yX0_init : MethodName := ⟨RX0, "<init>", "()V"⟩
abbrev cX0_isEmpty : ByteArray := prog_2_method_2_code
def yX0_isEmpty : MethodName := ⟨RX0, "isEmpty", "()Z"⟩
abbrev cX0_keep : ByteArray := prog_2_method_3_code
def yX0_keep : MethodName := ⟨RX0, "keep", "(LMainsWords$Net;)V"⟩
abbrev cX0_dropOldest : ByteArray := prog_2_method_4_code
def yX0_dropOldest : MethodName := ⟨RX0, "dropOldest", "()V"⟩
abbrev cX0_takeBack : ByteArray := prog_2_method_5_code
def yX0_takeBack : MethodName := ⟨RX0, "takeBack", "(LMainsWords$Net;)V"⟩
def RX1 : String := "MainsWords$Lamp"
def TX1 : u_T := fun k => match k with
  | 0 => ("MainsWords$Thing", "number", "I", true)
  | 1 => ("MainsWords$Thing", "isPresent", "Z", false)
  | 2 => ("MainsWords$Thing", "wire", "I", false)
  | 3 => ("MainsWords$Lamp", "letter", "I", false)
  | 4 => ("MainsWords$Lamp", "unit", "I", false)
  | 5 => ("MainsWords$Lamp", "level", "I", false)
  | _ => ("MainsWords$Lamp", "isSelected", "Z", false)
def tyX1 : Nat → FieldType := fun k => match k with
  | 0 => .int
  | 1 => .boolean
  | 2 => .int
  | 3 => .int
  | 4 => .int
  | 5 => .int
  | _ => .boolean
abbrev wsX10 : List Cond := u_ws RX1 TX1 7
theorem nmX1 : ∀ a, a < 7 → ∀ b, b < 7 → a ≠ b → (TX1 a).2.1 ≠ (TX1 b).2.1 := by decide +kernel
theorem tyX1_ok : ∀ k, k < 7 → parseFieldDescriptor (TX1 k).2.2.1 = some (tyX1 k) := by decide +kernel
abbrev cX1_init : ByteArray := prog_3_method_1_code
def yX1_init : MethodName := ⟨RX1, "<init>", "(I)V"⟩
abbrev cX1_put : ByteArray := prog_3_method_2_code
def yX1_put : MethodName := ⟨RX1, "put", "(III)V"⟩
abbrev cX1_copyFrom : ByteArray := prog_3_method_3_code
def yX1_copyFrom : MethodName := ⟨RX1, "copyFrom", "(LMainsWords$Lamp;)V"⟩
abbrev cX1_isCalledBy : ByteArray := prog_3_method_4_code
def yX1_isCalledBy : MethodName := ⟨RX1, "isCalledBy", "(II)Z"⟩
abbrev cX1_obey : ByteArray := prog_3_method_5_code
def yX1_obey : MethodName := ⟨RX1, "obey", "(IZ)V"⟩
abbrev cX1_levelBy : ByteArray := prog_3_method_6_code
def yX1_levelBy : MethodName := ⟨RX1, "levelBy", "(I)I"⟩
def RX2 : String := "MainsWords$Machine"
def TX2 : u_T := fun k => match k with
  | 0 => ("MainsWords$Thing", "number", "I", true)
  | 1 => ("MainsWords$Thing", "isPresent", "Z", false)
  | 2 => ("MainsWords$Thing", "wire", "I", false)
  | 3 => ("MainsWords$Machine", "strength", "I", false)
  | 4 => ("MainsWords$Machine", "period", "I", false)
  | _ => ("MainsWords$Machine", "isOn", "Z", false)
def tyX2 : Nat → FieldType := fun k => match k with
  | 0 => .int
  | 1 => .boolean
  | 2 => .int
  | 3 => .int
  | 4 => .int
  | _ => .boolean
abbrev wsX20 : List Cond := u_ws RX2 TX2 6
theorem nmX2 : ∀ a, a < 6 → ∀ b, b < 6 → a ≠ b → (TX2 a).2.1 ≠ (TX2 b).2.1 := by decide +kernel
theorem tyX2_ok : ∀ k, k < 6 → parseFieldDescriptor (TX2 k).2.2.1 = some (tyX2 k) := by decide +kernel
abbrev cX2_init : ByteArray := prog_4_method_1_code
def yX2_init : MethodName := ⟨RX2, "<init>", "(I)V"⟩
abbrev cX2_put : ByteArray := prog_4_method_2_code
def yX2_put : MethodName := ⟨RX2, "put", "(III)V"⟩
abbrev cX2_copyFrom : ByteArray := prog_4_method_3_code
def yX2_copyFrom : MethodName := ⟨RX2, "copyFrom", "(LMainsWords$Machine;)V"⟩
abbrev cX2_makesNoiseAt : ByteArray := prog_4_method_4_code
def yX2_makesNoiseAt : MethodName := ⟨RX2, "makesNoiseAt", "(I)Z"⟩
def RX3 : String := "MainsWords$Net"
def TX3 : u_T := fun k => match k with
  | 0 => ("MainsWords$Net", "senders", "[LMainsWords$Sender;", true)
  | 1 => ("MainsWords$Net", "machines", "[LMainsWords$Machine;", true)
  | 2 => ("MainsWords$Net", "lamps", "[LMainsWords$Lamp;", true)
  | 3 => ("MainsWords$Net", "receivers", "[LMainsWords$Receiver;", true)
  | 4 => ("MainsWords$Net", "settings", "[I", true)
  | 5 => ("MainsWords$Net", "totals", "[I", true)
  | 6 => ("MainsWords$Net", "time", "I", false)
  | _ => ("MainsWords$Net", "heard", "[Z", true)
def tyX3 : Nat → FieldType := fun k => match k with
  | 0 => .array (.object "MainsWords$Sender")
  | 1 => .array (.object "MainsWords$Machine")
  | 2 => .array (.object "MainsWords$Lamp")
  | 3 => .array (.object "MainsWords$Receiver")
  | 4 => .array .int
  | 5 => .array .int
  | 6 => .int
  | _ => .array .boolean
abbrev wsX30 : List Cond := u_ws RX3 TX3 8
theorem nmX3 : ∀ a, a < 8 → ∀ b, b < 8 → a ≠ b → (TX3 a).2.1 ≠ (TX3 b).2.1 := by decide +kernel
theorem tyX3_ok : ∀ k, k < 8 → parseFieldDescriptor (TX3 k).2.2.1 = some (tyX3 k) := by decide +kernel
abbrev cX3_init : ByteArray := prog_5_method_1_code
def yX3_init : MethodName := ⟨RX3, "<init>", "()V"⟩
abbrev cX3_copyFrom : ByteArray := prog_5_method_2_code
def yX3_copyFrom : MethodName := ⟨RX3, "copyFrom", "(LMainsWords$Net;)V"⟩
abbrev cX3_thingsOf : ByteArray := prog_5_method_3_code
def yX3_thingsOf : MethodName := ⟨RX3, "thingsOf", "(I)[LMainsWords$Thing;"⟩
abbrev cX3_freeSender : ByteArray := prog_5_method_4_code
def yX3_freeSender : MethodName := ⟨RX3, "freeSender", "()LMainsWords$Sender;"⟩
abbrev cX3_senderAt : ByteArray := prog_5_method_5_code
def yX3_senderAt : MethodName := ⟨RX3, "senderAt", "(I)LMainsWords$Sender;"⟩
abbrev cX3_freeMachine : ByteArray := prog_5_method_6_code
def yX3_freeMachine : MethodName := ⟨RX3, "freeMachine", "()LMainsWords$Machine;"⟩
abbrev cX3_machineAt : ByteArray := prog_5_method_7_code
def yX3_machineAt : MethodName := ⟨RX3, "machineAt", "(I)LMainsWords$Machine;"⟩
abbrev cX3_freeLamp : ByteArray := prog_5_method_8_code
def yX3_freeLamp : MethodName := ⟨RX3, "freeLamp", "()LMainsWords$Lamp;"⟩
abbrev cX3_lampAt : ByteArray := prog_5_method_9_code
def yX3_lampAt : MethodName := ⟨RX3, "lampAt", "(I)LMainsWords$Lamp;"⟩
abbrev cX3_speakingSenders : ByteArray := prog_5_method_10_code
def yX3_speakingSenders : MethodName := ⟨RX3, "speakingSenders", "()I"⟩
abbrev cX3_queuedWords : ByteArray := prog_5_method_11_code
def yX3_queuedWords : MethodName := ⟨RX3, "queuedWords", "()I"⟩
abbrev cX3_litLamps : ByteArray := prog_5_method_12_code
def yX3_litLamps : MethodName := ⟨RX3, "litLamps", "()I"⟩
abbrev cX3_refusalOfWord : ByteArray := prog_5_method_13_code
def yX3_refusalOfWord : MethodName := ⟨RX3, "refusalOfWord", "(II)I"⟩
abbrev cX3_giveWord : ByteArray := prog_5_method_14_code
def yX3_giveWord : MethodName := ⟨RX3, "giveWord", "(II)I"⟩
abbrev cX3_lossBetween : ByteArray := prog_5_method_15_code
def yX3_lossBetween : MethodName := ⟨RX3, "lossBetween", "(II)I"⟩
abbrev cX3_letPass : ByteArray := prog_5_method_16_code
def yX3_letPass : MethodName := ⟨RX3, "letPass", "(I)I"⟩
abbrev cX3_beat : ByteArray := prog_5_method_17_code
def yX3_beat : MethodName := ⟨RX3, "beat", "()I"⟩
abbrev cX3_beginSpeaking : ByteArray := prog_5_method_18_code
def yX3_beginSpeaking : MethodName := ⟨RX3, "beginSpeaking", "()V"⟩
abbrev cX3_isQuietOn : ByteArray := prog_5_method_19_code
def yX3_isQuietOn : MethodName := ⟨RX3, "isQuietOn", "(I)Z"⟩
abbrev cX3_isHeardOn : ByteArray := prog_5_method_20_code
def yX3_isHeardOn : MethodName := ⟨RX3, "isHeardOn", "(I)Z"⟩
abbrev cX3_carryBits : ByteArray := prog_5_method_21_code
def yX3_carryBits : MethodName := ⟨RX3, "carryBits", "()V"⟩
abbrev cX3_spreadOne : ByteArray := prog_5_method_22_code
def yX3_spreadOne : MethodName := ⟨RX3, "spreadOne", "(II)V"⟩
abbrev cX3_moveSenders : ByteArray := prog_5_method_23_code
def yX3_moveSenders : MethodName := ⟨RX3, "moveSenders", "()V"⟩
abbrev cX3_takeBits : ByteArray := prog_5_method_24_code
def yX3_takeBits : MethodName := ⟨RX3, "takeBits", "()I"⟩
abbrev cX3_hearWord : ByteArray := prog_5_method_25_code
def yX3_hearWord : MethodName := ⟨RX3, "hearWord", "(ILMainsWords$Receiver;I)I"⟩
def RX4 : String := "MainsWords$Receiver"
def TX4 : u_T := fun k => match k with
  | 0 => ("MainsWords$Receiver", "reads", "Z", false)
  | 1 => ("MainsWords$Receiver", "latestBits", "I", false)
  | 2 => ("MainsWords$Receiver", "bitsRead", "I", false)
  | 3 => ("MainsWords$Receiver", "wordSoFar", "I", false)
  | 4 => ("MainsWords$Receiver", "lastWord", "I", false)
  | 5 => ("MainsWords$Receiver", "toldAt", "I", false)
  | _ => ("MainsWords$Receiver", "openLetters", "I", false)
def tyX4 : Nat → FieldType := fun k => match k with
  | 0 => .boolean
  | 1 => .int
  | 2 => .int
  | 3 => .int
  | 4 => .int
  | 5 => .int
  | _ => .int
abbrev wsX40 : List Cond := u_ws RX4 TX4 7
theorem nmX4 : ∀ a, a < 7 → ∀ b, b < 7 → a ≠ b → (TX4 a).2.1 ≠ (TX4 b).2.1 := by decide +kernel
theorem tyX4_ok : ∀ k, k < 7 → parseFieldDescriptor (TX4 k).2.2.1 = some (tyX4 k) := by decide +kernel
abbrev cX4_init : ByteArray := prog_6_method_1_code
def yX4_init : MethodName := ⟨RX4, "<init>", "()V"⟩
abbrev cX4_copyFrom : ByteArray := prog_6_method_2_code
def yX4_copyFrom : MethodName := ⟨RX4, "copyFrom", "(LMainsWords$Receiver;)V"⟩
abbrev cX4_isQuiet : ByteArray := prog_6_method_3_code
def yX4_isQuiet : MethodName := ⟨RX4, "isQuiet", "()Z"⟩
abbrev cX4_take : ByteArray := prog_6_method_4_code
def yX4_take : MethodName := ⟨RX4, "take", "(I)I"⟩
abbrev cX4_listen : ByteArray := prog_6_method_5_code
def yX4_listen : MethodName := ⟨RX4, "listen", "(I)I"⟩
abbrev cX4_read : ByteArray := prog_6_method_6_code
def yX4_read : MethodName := ⟨RX4, "read", "(I)I"⟩
abbrev cX4_listenAnew : ByteArray := prog_6_method_7_code
def yX4_listenAnew : MethodName := ⟨RX4, "listenAnew", "()V"⟩
abbrev cX4_tell : ByteArray := prog_6_method_8_code
def yX4_tell : MethodName := ⟨RX4, "tell", "(II)Z"⟩
abbrev cX4_isOpen : ByteArray := prog_6_method_9_code
def yX4_isOpen : MethodName := ⟨RX4, "isOpen", "(I)Z"⟩
abbrev cX4_setOpen : ByteArray := prog_6_method_10_code
def yX4_setOpen : MethodName := ⟨RX4, "setOpen", "(IZ)V"⟩
def RX5 : String := "MainsWords$Script"
def TX5 : u_T := fun k => match k with
  | 0 => ("MainsWords$Script", "signs", "[I", true)
  | _ => ("MainsWords$Script", "length", "I", false)
def tyX5 : Nat → FieldType := fun k => match k with
  | 0 => .array .int
  | _ => .int
abbrev wsX50 : List Cond := u_ws RX5 TX5 2
theorem nmX5 : ∀ a, a < 2 → ∀ b, b < 2 → a ≠ b → (TX5 a).2.1 ≠ (TX5 b).2.1 := by decide +kernel
theorem tyX5_ok : ∀ k, k < 2 → parseFieldDescriptor (TX5 k).2.2.1 = some (tyX5 k) := by decide +kernel
abbrev cX5_init : ByteArray := prog_7_method_1_code
def yX5_init : MethodName := ⟨RX5, "<init>", "()V"⟩
abbrev cX5_isFull : ByteArray := prog_7_method_2_code
def yX5_isFull : MethodName := ⟨RX5, "isFull", "()Z"⟩
abbrev cX5_add : ByteArray := prog_7_method_3_code
def yX5_add : MethodName := ⟨RX5, "add", "(I)V"⟩
abbrev cX5_signAt : ByteArray := prog_7_method_4_code
def yX5_signAt : MethodName := ⟨RX5, "signAt", "(I)I"⟩
abbrev cX5_firstFault : ByteArray := prog_7_method_5_code
def yX5_firstFault : MethodName := ⟨RX5, "firstFault", "()I"⟩
abbrev cX5_next : ByteArray := prog_7_method_6_code
def yX5_next : MethodName := ⟨RX5, "next", "(II)I"⟩
abbrev cX5_isDigit : ByteArray := prog_7_method_7_code
def yX5_isDigit : MethodName := ⟨RX5, "isDigit", "(I)Z"⟩
abbrev cX5_isSenderDigit : ByteArray := prog_7_method_8_code
def yX5_isSenderDigit : MethodName := ⟨RX5, "isSenderDigit", "(I)Z"⟩
abbrev cX5_isLetter : ByteArray := prog_7_method_9_code
def yX5_isLetter : MethodName := ⟨RX5, "isLetter", "(I)Z"⟩
abbrev cX5_codeOf : ByteArray := prog_7_method_10_code
def yX5_codeOf : MethodName := ⟨RX5, "codeOf", "(I)I"⟩
abbrev cX5_wordOf : ByteArray := prog_7_method_11_code
def yX5_wordOf : MethodName := ⟨RX5, "wordOf", "(II)I"⟩
abbrev cX5_beatsBehind : ByteArray := prog_7_method_12_code
def yX5_beatsBehind : MethodName := ⟨RX5, "beatsBehind", "(I)I"⟩
def RX6 : String := "MainsWords$Sender"
def TX6 : u_T := fun k => match k with
  | 0 => ("MainsWords$Thing", "number", "I", true)
  | 1 => ("MainsWords$Thing", "isPresent", "Z", false)
  | 2 => ("MainsWords$Thing", "wire", "I", false)
  | 3 => ("MainsWords$Sender", "queue", "[I", true)
  | 4 => ("MainsWords$Sender", "queueLength", "I", false)
  | 5 => ("MainsWords$Sender", "strength", "I", false)
  | 6 => ("MainsWords$Sender", "speaks", "Z", false)
  | 7 => ("MainsWords$Sender", "copy", "I", false)
  | 8 => ("MainsWords$Sender", "place", "I", false)
  | _ => ("MainsWords$Sender", "pause", "I", false)
def tyX6 : Nat → FieldType := fun k => match k with
  | 0 => .int
  | 1 => .boolean
  | 2 => .int
  | 3 => .array .int
  | 4 => .int
  | 5 => .int
  | 6 => .boolean
  | 7 => .int
  | 8 => .int
  | _ => .int
abbrev wsX60 : List Cond := u_ws RX6 TX6 10
theorem nmX6 : ∀ a, a < 10 → ∀ b, b < 10 → a ≠ b → (TX6 a).2.1 ≠ (TX6 b).2.1 := by decide +kernel
theorem tyX6_ok : ∀ k, k < 10 → parseFieldDescriptor (TX6 k).2.2.1 = some (tyX6 k) := by decide +kernel
abbrev cX6_init : ByteArray := prog_8_method_1_code
def yX6_init : MethodName := ⟨RX6, "<init>", "(I)V"⟩
abbrev cX6_put : ByteArray := prog_8_method_2_code
def yX6_put : MethodName := ⟨RX6, "put", "(II)V"⟩
abbrev cX6_copyFrom : ByteArray := prog_8_method_3_code
def yX6_copyFrom : MethodName := ⟨RX6, "copyFrom", "(LMainsWords$Sender;)V"⟩
abbrev cX6_isSpeaking : ByteArray := prog_8_method_4_code
def yX6_isSpeaking : MethodName := ⟨RX6, "isSpeaking", "()Z"⟩
abbrev cX6_isQueueFull : ByteArray := prog_8_method_5_code
def yX6_isQueueFull : MethodName := ⟨RX6, "isQueueFull", "()Z"⟩
abbrev cX6_addWord : ByteArray := prog_8_method_6_code
def yX6_addWord : MethodName := ⟨RX6, "addWord", "(I)V"⟩
abbrev cX6_wordAt : ByteArray := prog_8_method_7_code
def yX6_wordAt : MethodName := ⟨RX6, "wordAt", "(I)I"⟩
abbrev cX6_dropFirstWord : ByteArray := prog_8_method_8_code
def yX6_dropFirstWord : MethodName := ⟨RX6, "dropFirstWord", "()V"⟩
abbrev cX6_bitToSend : ByteArray := prog_8_method_9_code
def yX6_bitToSend : MethodName := ⟨RX6, "bitToSend", "()I"⟩
abbrev cX6_beginOrWait : ByteArray := prog_8_method_10_code
def yX6_beginOrWait : MethodName := ⟨RX6, "beginOrWait", "(Z)V"⟩
abbrev cX6_isDisturbedBy : ByteArray := prog_8_method_11_code
def yX6_isDisturbedBy : MethodName := ⟨RX6, "isDisturbedBy", "(Z)Z"⟩
abbrev cX6_giveWay : ByteArray := prog_8_method_12_code
def yX6_giveWay : MethodName := ⟨RX6, "giveWay", "()V"⟩
abbrev cX6_goOn : ByteArray := prog_8_method_13_code
def yX6_goOn : MethodName := ⟨RX6, "goOn", "(I)Z"⟩
def RX7 : String := "MainsWords$Thing"
def TX7 : u_T := fun k => match k with
  | _ => ("", "", "", false)
def tyX7 : Nat → FieldType := fun k => match k with
  | _ => .int
abbrev wsX70 : List Cond := u_ws RX7 TX7 0
theorem nmX7 : ∀ a, a < 0 → ∀ b, b < 0 → a ≠ b → (TX7 a).2.1 ≠ (TX7 b).2.1 := by decide +kernel
theorem tyX7_ok : ∀ k, k < 0 → parseFieldDescriptor (TX7 k).2.2.1 = some (tyX7 k) := by decide +kernel
abbrev cX7_init : ByteArray := prog_9_method_1_code
def yX7_init : MethodName := ⟨RX7, "<init>", "(I)V"⟩
abbrev cX7_copyThing : ByteArray := prog_9_method_2_code
def yX7_copyThing : MethodName := ⟨RX7, "copyThing", "(LMainsWords$Thing;)V"⟩
def RX8 : String := "MainsWords"
def TX8 : u_T := fun k => match k with
  | 0 => ("MainsWords", "now", "LMainsWords$Net;", true)
  | 1 => ("MainsWords", "ahead", "LMainsWords$Net;", true)
  | 2 => ("MainsWords", "snapshot", "LMainsWords$Net;", true)
  | 3 => ("MainsWords", "hasSnapshot", "Z", false)
  | 4 => ("MainsWords", "history", "LMainsWords$History;", true)
  | _ => ("MainsWords", "script", "LMainsWords$Script;", true)
def tyX8 : Nat → FieldType := fun k => match k with
  | 0 => .object "MainsWords$Net"
  | 1 => .object "MainsWords$Net"
  | 2 => .object "MainsWords$Net"
  | 3 => .boolean
  | 4 => .object "MainsWords$History"
  | _ => .object "MainsWords$Script"
abbrev wsX80 : List Cond := u_ws RX8 TX8 6
theorem nmX8 : ∀ a, a < 6 → ∀ b, b < 6 → a ≠ b → (TX8 a).2.1 ≠ (TX8 b).2.1 := by decide +kernel
theorem tyX8_ok : ∀ k, k < 6 → parseFieldDescriptor (TX8 k).2.2.1 = some (tyX8 k) := by decide +kernel
abbrev cX8_init : ByteArray := prog_1_method_1_code
def yX8_init : MethodName := ⟨RX8, "<init>", "()V"⟩
abbrev cX8_sender : ByteArray := prog_1_method_2_code
def yX8_sender : MethodName := ⟨RX8, "sender", "(II)I"⟩
abbrev cX8_machine : ByteArray := prog_1_method_3_code
def yX8_machine : MethodName := ⟨RX8, "machine", "(III)I"⟩
abbrev cX8_lamp : ByteArray := prog_1_method_4_code
def yX8_lamp : MethodName := ⟨RX8, "lamp", "(III)I"⟩
abbrev cX8_remove : ByteArray := prog_1_method_5_code
def yX8_remove : MethodName := ⟨RX8, "remove", "(II)I"⟩
abbrev cX8_say : ByteArray := prog_1_method_6_code
def yX8_say : MethodName := ⟨RX8, "say", "(II)I"⟩
abbrev cX8_run : ByteArray := prog_1_method_7_code
def yX8_run : MethodName := ⟨RX8, "run", "(IZ)I"⟩
abbrev cX8_set : ByteArray := prog_1_method_8_code
def yX8_set : MethodName := ⟨RX8, "set", "(II)I"⟩
abbrev cX8_pass : ByteArray := prog_1_method_9_code
def yX8_pass : MethodName := ⟨RX8, "pass", "(I)I"⟩
abbrev cX8_append : ByteArray := prog_1_method_10_code
def yX8_append : MethodName := ⟨RX8, "append", "(I)I"⟩
abbrev cX8_clearText : ByteArray := prog_1_method_11_code
def yX8_clearText : MethodName := ⟨RX8, "clearText", "()I"⟩
abbrev cX8_fault : ByteArray := prog_1_method_12_code
def yX8_fault : MethodName := ⟨RX8, "fault", "()I"⟩
abbrev cX8_perform : ByteArray := prog_1_method_13_code
def yX8_perform : MethodName := ⟨RX8, "perform", "()I"⟩
abbrev cX8_undo : ByteArray := prog_1_method_14_code
def yX8_undo : MethodName := ⟨RX8, "undo", "()I"⟩
abbrev cX8_save : ByteArray := prog_1_method_15_code
def yX8_save : MethodName := ⟨RX8, "save", "()I"⟩
abbrev cX8_restore : ByteArray := prog_1_method_16_code
def yX8_restore : MethodName := ⟨RX8, "restore", "()I"⟩
abbrev cX8_senderOf : ByteArray := prog_1_method_17_code
def yX8_senderOf : MethodName := ⟨RX8, "senderOf", "(II)I"⟩
abbrev cX8_queued : ByteArray := prog_1_method_18_code
def yX8_queued : MethodName := ⟨RX8, "queued", "(II)I"⟩
abbrev cX8_machineOf : ByteArray := prog_1_method_19_code
def yX8_machineOf : MethodName := ⟨RX8, "machineOf", "(II)I"⟩
abbrev cX8_lampOf : ByteArray := prog_1_method_20_code
def yX8_lampOf : MethodName := ⟨RX8, "lampOf", "(II)I"⟩
abbrev cX8_receiver : ByteArray := prog_1_method_21_code
def yX8_receiver : MethodName := ⟨RX8, "receiver", "(II)I"⟩
abbrev cX8_frame : ByteArray := prog_1_method_22_code
def yX8_frame : MethodName := ⟨RX8, "frame", "(II)I"⟩
abbrev cX8_loss : ByteArray := prog_1_method_23_code
def yX8_loss : MethodName := ⟨RX8, "loss", "(II)I"⟩
abbrev cX8_count : ByteArray := prog_1_method_24_code
def yX8_count : MethodName := ⟨RX8, "count", "(I)I"⟩
abbrev cX8_total : ByteArray := prog_1_method_25_code
def yX8_total : MethodName := ⟨RX8, "total", "(I)I"⟩
abbrev cX8_silentIn : ByteArray := prog_1_method_26_code
def yX8_silentIn : MethodName := ⟨RX8, "silentIn", "()I"⟩
abbrev cX8_levelIn : ByteArray := prog_1_method_27_code
def yX8_levelIn : MethodName := ⟨RX8, "levelIn", "(II)I"⟩
abbrev cX8_freshness : ByteArray := prog_1_method_28_code
def yX8_freshness : MethodName := ⟨RX8, "freshness", "()F"⟩
abbrev cX8_isWire : ByteArray := prog_1_method_29_code
def yX8_isWire : MethodName := ⟨RX8, "isWire", "(I)Z"⟩
abbrev cX8_isWord : ByteArray := prog_1_method_30_code
def yX8_isWord : MethodName := ⟨RX8, "isWord", "(I)Z"⟩
abbrev cX8_asNumber : ByteArray := prog_1_method_31_code
def yX8_asNumber : MethodName := ⟨RX8, "asNumber", "(Z)I"⟩
abbrev cX8_frameBit : ByteArray := prog_1_method_32_code
def yX8_frameBit : MethodName := ⟨RX8, "frameBit", "(II)I"⟩
abbrev cX8_firstFree : ByteArray := prog_1_method_33_code
def yX8_firstFree : MethodName := ⟨RX8, "firstFree", "([LMainsWords$Thing;)LMainsWords$Thing;"⟩
abbrev cX8_presentAt : ByteArray := prog_1_method_34_code
def yX8_presentAt : MethodName := ⟨RX8, "presentAt", "([LMainsWords$Thing;I)LMainsWords$Thing;"⟩
abbrev cX8_presentIn : ByteArray := prog_1_method_35_code
def yX8_presentIn : MethodName := ⟨RX8, "presentIn", "([LMainsWords$Thing;)I"⟩
abbrev cX8_copyRow : ByteArray := prog_1_method_36_code
def yX8_copyRow : MethodName := ⟨RX8, "copyRow", "([I[I)V"⟩
def RX9 : String := "MainsWordsModel"
def TX9 : u_T := fun k => match k with
  | 0 => ("MainsWordsModel", "s", "[I", true)
  | 1 => ("MainsWordsModel", "spare", "[I", true)
  | 2 => ("MainsWordsModel", "trial", "[I", true)
  | 3 => ("MainsWordsModel", "before", "[I", true)
  | 4 => ("MainsWordsModel", "saved", "[I", true)
  | 5 => ("MainsWordsModel", "heard", "[I", true)
  | 6 => ("MainsWordsModel", "bits", "[I", true)
  | 7 => ("MainsWordsModel", "begins", "[Z", true)
  | 8 => ("MainsWordsModel", "read", "[I", true)
  | 9 => ("MainsWordsModel", "text", "[C", true)
  | 10 => ("MainsWordsModel", "isSaved", "Z", false)
  | 11 => ("MainsWordsModel", "length", "I", false)
  | 12 => ("MainsWordsModel", "states", "I", false)
  | 13 => ("MainsWordsModel", "orders", "I", false)
  | _ => ("MainsWordsModel", "at", "I", false)
def tyX9 : Nat → FieldType := fun k => match k with
  | 0 => .array .int
  | 1 => .array .int
  | 2 => .array .int
  | 3 => .array .int
  | 4 => .array .int
  | 5 => .array .int
  | 6 => .array .int
  | 7 => .array .boolean
  | 8 => .array .int
  | 9 => .array .char
  | 10 => .boolean
  | 11 => .int
  | 12 => .int
  | 13 => .int
  | _ => .int
abbrev wsX90 : List Cond := u_ws RX9 TX9 15
theorem nmX9 : ∀ a, a < 15 → ∀ b, b < 15 → a ≠ b → (TX9 a).2.1 ≠ (TX9 b).2.1 := by decide +kernel
theorem tyX9_ok : ∀ k, k < 15 → parseFieldDescriptor (TX9 k).2.2.1 = some (tyX9 k) := by decide +kernel
abbrev cX9_init : ByteArray := prog_11_method_1_code
def yX9_init : MethodName := ⟨RX9, "<init>", "()V"⟩
abbrev cX9_in : ByteArray := prog_11_method_2_code
def yX9_in : MethodName := ⟨RX9, "in", "(III)Z"⟩
abbrev cX9_n : ByteArray := prog_11_method_3_code
def yX9_n : MethodName := ⟨RX9, "n", "(I)I"⟩
abbrev cX9_m : ByteArray := prog_11_method_4_code
def yX9_m : MethodName := ⟨RX9, "m", "(I)I"⟩
abbrev cX9_l : ByteArray := prog_11_method_5_code
def yX9_l : MethodName := ⟨RX9, "l", "(I)I"⟩
abbrev cX9_r : ByteArray := prog_11_method_6_code
def yX9_r : MethodName := ⟨RX9, "r", "(I)I"⟩
abbrev cX9_isWire : ByteArray := prog_11_method_7_code
def yX9_isWire : MethodName := ⟨RX9, "isWire", "(I)Z"⟩
abbrev cX9_isSender : ByteArray := prog_11_method_8_code
def yX9_isSender : MethodName := ⟨RX9, "isSender", "(I)Z"⟩
abbrev cX9_isMachine : ByteArray := prog_11_method_9_code
def yX9_isMachine : MethodName := ⟨RX9, "isMachine", "(I)Z"⟩
abbrev cX9_isLamp : ByteArray := prog_11_method_10_code
def yX9_isLamp : MethodName := ⟨RX9, "isLamp", "(I)Z"⟩
abbrev cX9_hold : ByteArray := prog_11_method_11_code
def yX9_hold : MethodName := ⟨RX9, "hold", "()V"⟩
abbrev cX9_recorded : ByteArray := prog_11_method_12_code
def yX9_recorded : MethodName := ⟨RX9, "recorded", "(I)I"⟩
abbrev cX9_keepTrial : ByteArray := prog_11_method_13_code
def yX9_keepTrial : MethodName := ⟨RX9, "keepTrial", "()V"⟩
abbrev cX9_putBack : ByteArray := prog_11_method_14_code
def yX9_putBack : MethodName := ⟨RX9, "putBack", "()V"⟩
abbrev cX9_frameBit : ByteArray := prog_11_method_15_code
def yX9_frameBit : MethodName := ⟨RX9, "frameBit", "(II)I"⟩
abbrev cX9_lossOf : ByteArray := prog_11_method_16_code
def yX9_lossOf : MethodName := ⟨RX9, "lossOf", "(II)I"⟩
abbrev cX9_bitOf : ByteArray := prog_11_method_17_code
def yX9_bitOf : MethodName := ⟨RX9, "bitOf", "(I)I"⟩
abbrev cX9_begin : ByteArray := prog_11_method_18_code
def yX9_begin : MethodName := ⟨RX9, "begin", "()V"⟩
abbrev cX9_sound : ByteArray := prog_11_method_19_code
def yX9_sound : MethodName := ⟨RX9, "sound", "(II)V"⟩
abbrev cX9_send : ByteArray := prog_11_method_20_code
def yX9_send : MethodName := ⟨RX9, "send", "()V"⟩
abbrev cX9_finish : ByteArray := prog_11_method_21_code
def yX9_finish : MethodName := ⟨RX9, "finish", "(I)V"⟩
abbrev cX9_goOn : ByteArray := prog_11_method_22_code
def yX9_goOn : MethodName := ⟨RX9, "goOn", "(I)V"⟩
abbrev cX9_isOf : ByteArray := prog_11_method_23_code
def yX9_isOf : MethodName := ⟨RX9, "isOf", "(III)Z"⟩
abbrev cX9_act : ByteArray := prog_11_method_24_code
def yX9_act : MethodName := ⟨RX9, "act", "(II)V"⟩
abbrev cX9_tell : ByteArray := prog_11_method_25_code
def yX9_tell : MethodName := ⟨RX9, "tell", "(II)V"⟩
abbrev cX9_listenAgain : ByteArray := prog_11_method_26_code
def yX9_listenAgain : MethodName := ⟨RX9, "listenAgain", "(I)V"⟩
abbrev cX9_take : ByteArray := prog_11_method_27_code
def yX9_take : MethodName := ⟨RX9, "take", "(I)V"⟩
abbrev cX9_beat : ByteArray := prog_11_method_28_code
def yX9_beat : MethodName := ⟨RX9, "beat", "()V"⟩
abbrev cX9_says : ByteArray := prog_11_method_29_code
def yX9_says : MethodName := ⟨RX9, "says", "(II)I"⟩
abbrev cX9_passes : ByteArray := prog_11_method_30_code
def yX9_passes : MethodName := ⟨RX9, "passes", "(I)I"⟩
abbrev cX9_free : ByteArray := prog_11_method_31_code
def yX9_free : MethodName := ⟨RX9, "free", "(III)I"⟩
abbrev cX9_put : ByteArray := prog_11_method_32_code
def yX9_put : MethodName := ⟨RX9, "put", "(IIIII)V"⟩
abbrev cX9_sender : ByteArray := prog_11_method_33_code
def yX9_sender : MethodName := ⟨RX9, "sender", "(II)I"⟩
abbrev cX9_machine : ByteArray := prog_11_method_34_code
def yX9_machine : MethodName := ⟨RX9, "machine", "(III)I"⟩
abbrev cX9_lamp : ByteArray := prog_11_method_35_code
def yX9_lamp : MethodName := ⟨RX9, "lamp", "(III)I"⟩
abbrev cX9_remove : ByteArray := prog_11_method_36_code
def yX9_remove : MethodName := ⟨RX9, "remove", "(II)I"⟩
abbrev cX9_say : ByteArray := prog_11_method_37_code
def yX9_say : MethodName := ⟨RX9, "say", "(II)I"⟩
abbrev cX9_run : ByteArray := prog_11_method_38_code
def yX9_run : MethodName := ⟨RX9, "run", "(IZ)I"⟩
abbrev cX9_set : ByteArray := prog_11_method_39_code
def yX9_set : MethodName := ⟨RX9, "set", "(II)I"⟩
abbrev cX9_pass : ByteArray := prog_11_method_40_code
def yX9_pass : MethodName := ⟨RX9, "pass", "(I)I"⟩
abbrev cX9_append : ByteArray := prog_11_method_41_code
def yX9_append : MethodName := ⟨RX9, "append", "(I)I"⟩
abbrev cX9_clearText : ByteArray := prog_11_method_42_code
def yX9_clearText : MethodName := ⟨RX9, "clearText", "()I"⟩
abbrev cX9_isSign : ByteArray := prog_11_method_43_code
def yX9_isSign : MethodName := ⟨RX9, "isSign", "(CC)Z"⟩
abbrev cX9_accepts : ByteArray := prog_11_method_44_code
def yX9_accepts : MethodName := ⟨RX9, "accepts", "(C)Z"⟩
abbrev cX9_code : ByteArray := prog_11_method_45_code
def yX9_code : MethodName := ⟨RX9, "code", "()I"⟩
abbrev cX9_word : ByteArray := prog_11_method_46_code
def yX9_word : MethodName := ⟨RX9, "word", "(I)Z"⟩
abbrev cX9_words : ByteArray := prog_11_method_47_code
def yX9_words : MethodName := ⟨RX9, "words", "()Z"⟩
abbrev cX9_beats : ByteArray := prog_11_method_48_code
def yX9_beats : MethodName := ⟨RX9, "beats", "()Z"⟩
abbrev cX9_part : ByteArray := prog_11_method_49_code
def yX9_part : MethodName := ⟨RX9, "part", "()Z"⟩
abbrev cX9_faultOf : ByteArray := prog_11_method_50_code
def yX9_faultOf : MethodName := ⟨RX9, "faultOf", "()I"⟩
abbrev cX9_fault : ByteArray := prog_11_method_51_code
def yX9_fault : MethodName := ⟨RX9, "fault", "()I"⟩
abbrev cX9_perform : ByteArray := prog_11_method_52_code
def yX9_perform : MethodName := ⟨RX9, "perform", "()I"⟩
abbrev cX9_undo : ByteArray := prog_11_method_53_code
def yX9_undo : MethodName := ⟨RX9, "undo", "()I"⟩
abbrev cX9_save : ByteArray := prog_11_method_54_code
def yX9_save : MethodName := ⟨RX9, "save", "()I"⟩
abbrev cX9_restore : ByteArray := prog_11_method_55_code
def yX9_restore : MethodName := ⟨RX9, "restore", "()I"⟩
abbrev cX9_senderOf : ByteArray := prog_11_method_56_code
def yX9_senderOf : MethodName := ⟨RX9, "senderOf", "(II)I"⟩
abbrev cX9_queued : ByteArray := prog_11_method_57_code
def yX9_queued : MethodName := ⟨RX9, "queued", "(II)I"⟩
abbrev cX9_machineOf : ByteArray := prog_11_method_58_code
def yX9_machineOf : MethodName := ⟨RX9, "machineOf", "(II)I"⟩
abbrev cX9_lampOf : ByteArray := prog_11_method_59_code
def yX9_lampOf : MethodName := ⟨RX9, "lampOf", "(II)I"⟩
abbrev cX9_receiver : ByteArray := prog_11_method_60_code
def yX9_receiver : MethodName := ⟨RX9, "receiver", "(II)I"⟩
abbrev cX9_frame : ByteArray := prog_11_method_61_code
def yX9_frame : MethodName := ⟨RX9, "frame", "(II)I"⟩
abbrev cX9_loss : ByteArray := prog_11_method_62_code
def yX9_loss : MethodName := ⟨RX9, "loss", "(II)I"⟩
abbrev cX9_ofSenders : ByteArray := prog_11_method_63_code
def yX9_ofSenders : MethodName := ⟨RX9, "ofSenders", "(I)I"⟩
abbrev cX9_ofLamps : ByteArray := prog_11_method_64_code
def yX9_ofLamps : MethodName := ⟨RX9, "ofLamps", "(I)I"⟩
abbrev cX9_count : ByteArray := prog_11_method_65_code
def yX9_count : MethodName := ⟨RX9, "count", "(I)I"⟩
abbrev cX9_total : ByteArray := prog_11_method_66_code
def yX9_total : MethodName := ⟨RX9, "total", "(I)I"⟩
abbrev cX9_silentIn : ByteArray := prog_11_method_67_code
def yX9_silentIn : MethodName := ⟨RX9, "silentIn", "()I"⟩
abbrev cX9_levelIn : ByteArray := prog_11_method_68_code
def yX9_levelIn : MethodName := ⟨RX9, "levelIn", "(II)I"⟩
abbrev cX9_freshness : ByteArray := prog_11_method_69_code
def yX9_freshness : MethodName := ⟨RX9, "freshness", "()F"⟩
def RL : String := "MainsWordsLaw"
abbrev cL_law : ByteArray := code
def yL_law : MethodName := ⟨RL, "law", "([I)Z"⟩
def wsX7_init : List Cond := .code yX7_init cX7_init 2 none :: ([.methodLink RX7 1 objectInit, .instanceMethod objectInit, .code objectInit ⟨#[0xb1]⟩ 1 none, .fieldLink RX7 7 "MainsWords$Thing" "isPresent" "Z", .fieldLink RX7 13 "MainsWords$Thing" "wire" "I", .fieldLink RX7 17 "MainsWords$Thing" "number" "I"] ++ wsX10 ++ wsX20 ++ wsX60)
def wsX6_init : List Cond := .code yX6_init cX6_init 2 none :: ([.arrayClass .int, .fieldLink RX6 9 "MainsWords$Sender" "queue" "[I", .fieldLink RX6 15 "MainsWords$Sender" "queueLength" "I", .fieldLink RX6 19 "MainsWords$Sender" "strength" "I", .fieldLink RX6 22 "MainsWords$Sender" "speaks" "Z", .fieldLink RX6 26 "MainsWords$Sender" "copy" "I", .fieldLink RX6 29 "MainsWords$Sender" "place" "I", .fieldLink RX6 32 "MainsWords$Sender" "pause" "I", .methodLink RX6 3 yX7_init, .instanceMethod yX7_init, .initialized RX7, .code yX7_init cX7_init 2 none, .methodLink RX7 1 objectInit, .instanceMethod objectInit, .code objectInit ⟨#[0xb1]⟩ 1 none, .fieldLink RX7 7 "MainsWords$Thing" "isPresent" "Z", .fieldLink RX7 13 "MainsWords$Thing" "wire" "I", .fieldLink RX7 17 "MainsWords$Thing" "number" "I"] ++ wsX60 ++ wsX10 ++ wsX20)
def wsX2_init : List Cond := .code yX2_init cX2_init 2 none :: ([.fieldLink RX2 9 "MainsWords$Machine" "strength" "I", .fieldLink RX2 15 "MainsWords$Machine" "period" "I", .fieldLink RX2 18 "MainsWords$Machine" "isOn" "Z", .methodLink RX2 3 yX7_init, .instanceMethod yX7_init, .initialized RX7, .code yX7_init cX7_init 2 none, .methodLink RX7 1 objectInit, .instanceMethod objectInit, .code objectInit ⟨#[0xb1]⟩ 1 none, .fieldLink RX7 7 "MainsWords$Thing" "isPresent" "Z", .fieldLink RX7 13 "MainsWords$Thing" "wire" "I", .fieldLink RX7 17 "MainsWords$Thing" "number" "I"] ++ wsX20 ++ wsX10 ++ wsX60)
def wsX1_init : List Cond := .code yX1_init cX1_init 2 none :: ([.fieldLink RX1 9 "MainsWords$Lamp" "letter" "I", .fieldLink RX1 15 "MainsWords$Lamp" "unit" "I", .fieldLink RX1 18 "MainsWords$Lamp" "level" "I", .fieldLink RX1 21 "MainsWords$Lamp" "isSelected" "Z", .methodLink RX1 3 yX7_init, .instanceMethod yX7_init, .initialized RX7, .code yX7_init cX7_init 2 none, .methodLink RX7 1 objectInit, .instanceMethod objectInit, .code objectInit ⟨#[0xb1]⟩ 1 none, .fieldLink RX7 7 "MainsWords$Thing" "isPresent" "Z", .fieldLink RX7 13 "MainsWords$Thing" "wire" "I", .fieldLink RX7 17 "MainsWords$Thing" "number" "I"] ++ wsX10 ++ wsX20 ++ wsX60)
def wsX4_init : List Cond := .code yX4_init cX4_init 1 none :: ([.methodLink RX4 3 objectInit, .instanceMethod objectInit, .code objectInit ⟨#[0xb1]⟩ 1 none, .fieldLink RX4 9 "MainsWords$Receiver" "reads" "Z", .fieldLink RX4 15 "MainsWords$Receiver" "latestBits" "I", .fieldLink RX4 19 "MainsWords$Receiver" "bitsRead" "I", .fieldLink RX4 22 "MainsWords$Receiver" "wordSoFar" "I", .fieldLink RX4 25 "MainsWords$Receiver" "lastWord" "I", .fieldLink RX4 28 "MainsWords$Receiver" "toldAt" "I", .fieldLink RX4 31 "MainsWords$Receiver" "openLetters" "I"] ++ wsX40)
def wsX3_init_r1 : List Cond := [Cond.methodLink RX3 3 objectInit, Cond.instanceMethod objectInit, Cond.code objectInit ⟨#[0xb1]⟩ 1 none, Cond.classLink RX3 9 RX6, Cond.fieldLink RX3 11 "MainsWords$Net" "senders" "[LMainsWords$Sender;", Cond.classLink RX3 17 RX2, Cond.fieldLink RX3 19 "MainsWords$Net" "machines" "[LMainsWords$Machine;", Cond.classLink RX3 23 RX1, Cond.fieldLink RX3 25 "MainsWords$Net" "lamps" "[LMainsWords$Lamp;", Cond.classLink RX3 29 RX4, Cond.fieldLink RX3 31 "MainsWords$Net" "receivers" "[LMainsWords$Receiver;", Cond.arrayClass .int, Cond.fieldLink RX3 35 "MainsWords$Net" "settings" "[I", Cond.fieldLink RX3 39 "MainsWords$Net" "totals" "[I", Cond.fieldLink RX3 42 "MainsWords$Net" "time" "I", Cond.arrayClass .boolean, Cond.fieldLink RX3 46 "MainsWords$Net" "heard" "[Z", Cond.instantiable RX6 10, Cond.initialized RX6, Cond.instantiable RX2 6, Cond.initialized RX2, Cond.instantiable RX1 7, Cond.initialized RX1, Cond.instantiable RX4 7]
def wsX3_init_r2 : List Cond := [Cond.initialized RX4, Cond.methodLink RX3 50 yX6_init, Cond.instanceMethod yX6_init, Cond.code yX6_init cX6_init 2 none, Cond.fieldLink RX6 9 "MainsWords$Sender" "queue" "[I", Cond.fieldLink RX6 15 "MainsWords$Sender" "queueLength" "I", Cond.fieldLink RX6 19 "MainsWords$Sender" "strength" "I", Cond.fieldLink RX6 22 "MainsWords$Sender" "speaks" "Z", Cond.fieldLink RX6 26 "MainsWords$Sender" "copy" "I", Cond.fieldLink RX6 29 "MainsWords$Sender" "place" "I", Cond.fieldLink RX6 32 "MainsWords$Sender" "pause" "I", Cond.methodLink RX6 3 yX7_init, Cond.instanceMethod yX7_init, Cond.initialized RX7, Cond.code yX7_init cX7_init 2 none, Cond.methodLink RX7 1 objectInit, Cond.fieldLink RX7 7 "MainsWords$Thing" "isPresent" "Z", Cond.fieldLink RX7 13 "MainsWords$Thing" "wire" "I", Cond.fieldLink RX7 17 "MainsWords$Thing" "number" "I", Cond.methodLink RX3 53 yX2_init, Cond.instanceMethod yX2_init, Cond.code yX2_init cX2_init 2 none, Cond.fieldLink RX2 9 "MainsWords$Machine" "strength" "I", Cond.fieldLink RX2 15 "MainsWords$Machine" "period" "I"]
def wsX3_init_r3 : List Cond := [Cond.fieldLink RX2 18 "MainsWords$Machine" "isOn" "Z", Cond.methodLink RX2 3 yX7_init, Cond.methodLink RX3 54 yX1_init, Cond.instanceMethod yX1_init, Cond.code yX1_init cX1_init 2 none, Cond.fieldLink RX1 9 "MainsWords$Lamp" "letter" "I", Cond.fieldLink RX1 15 "MainsWords$Lamp" "unit" "I", Cond.fieldLink RX1 18 "MainsWords$Lamp" "level" "I", Cond.fieldLink RX1 21 "MainsWords$Lamp" "isSelected" "Z", Cond.methodLink RX1 3 yX7_init, Cond.instanceMethod yX4_init, Cond.code yX4_init cX4_init 1 none, Cond.methodLink RX4 3 objectInit, Cond.fieldLink RX4 9 "MainsWords$Receiver" "reads" "Z", Cond.fieldLink RX4 15 "MainsWords$Receiver" "latestBits" "I", Cond.fieldLink RX4 19 "MainsWords$Receiver" "bitsRead" "I", Cond.fieldLink RX4 22 "MainsWords$Receiver" "wordSoFar" "I", Cond.fieldLink RX4 25 "MainsWords$Receiver" "lastWord" "I", Cond.fieldLink RX4 28 "MainsWords$Receiver" "toldAt" "I", Cond.fieldLink RX4 31 "MainsWords$Receiver" "openLetters" "I"]
def wsX3_init : List Cond := .code yX3_init cX3_init 2 none :: ((wsX3_init_r1 ++ (wsX3_init_r2 ++ wsX3_init_r3)) ++ wsX30 ++ wsX60 ++ wsX20 ++ wsX10 ++ wsX40)
def wsX0_init_r1 : List Cond := [Cond.methodLink RX0 3 objectInit, Cond.instanceMethod objectInit, Cond.code objectInit ⟨#[0xb1]⟩ 1 none, Cond.classLink RX0 9 RX3, Cond.fieldLink RX0 11 "MainsWords$History" "states" "[LMainsWords$Net;", Cond.fieldLink RX0 17 "MainsWords$History" "kept" "I", Cond.instantiable RX3 8, Cond.initialized RX3, Cond.methodLink RX0 21 yX3_init, Cond.instanceMethod yX3_init, Cond.code yX3_init cX3_init 2 none, Cond.methodLink RX3 3 objectInit, Cond.classLink RX3 9 RX6, Cond.fieldLink RX3 11 "MainsWords$Net" "senders" "[LMainsWords$Sender;", Cond.classLink RX3 17 RX2, Cond.fieldLink RX3 19 "MainsWords$Net" "machines" "[LMainsWords$Machine;", Cond.classLink RX3 23 RX1, Cond.fieldLink RX3 25 "MainsWords$Net" "lamps" "[LMainsWords$Lamp;", Cond.classLink RX3 29 RX4, Cond.fieldLink RX3 31 "MainsWords$Net" "receivers" "[LMainsWords$Receiver;", Cond.arrayClass .int, Cond.fieldLink RX3 35 "MainsWords$Net" "settings" "[I", Cond.fieldLink RX3 39 "MainsWords$Net" "totals" "[I", Cond.fieldLink RX3 42 "MainsWords$Net" "time" "I"]
def wsX0_init_r2 : List Cond := [Cond.arrayClass .boolean, Cond.fieldLink RX3 46 "MainsWords$Net" "heard" "[Z", Cond.instantiable RX6 10, Cond.initialized RX6, Cond.instantiable RX2 6, Cond.initialized RX2, Cond.instantiable RX1 7, Cond.initialized RX1, Cond.instantiable RX4 7, Cond.initialized RX4, Cond.methodLink RX3 50 yX6_init, Cond.instanceMethod yX6_init, Cond.code yX6_init cX6_init 2 none, Cond.fieldLink RX6 9 "MainsWords$Sender" "queue" "[I", Cond.fieldLink RX6 15 "MainsWords$Sender" "queueLength" "I", Cond.fieldLink RX6 19 "MainsWords$Sender" "strength" "I", Cond.fieldLink RX6 22 "MainsWords$Sender" "speaks" "Z", Cond.fieldLink RX6 26 "MainsWords$Sender" "copy" "I", Cond.fieldLink RX6 29 "MainsWords$Sender" "place" "I", Cond.fieldLink RX6 32 "MainsWords$Sender" "pause" "I", Cond.methodLink RX6 3 yX7_init, Cond.instanceMethod yX7_init, Cond.initialized RX7, Cond.code yX7_init cX7_init 2 none]
def wsX0_init_r3 : List Cond := [Cond.methodLink RX7 1 objectInit, Cond.fieldLink RX7 7 "MainsWords$Thing" "isPresent" "Z", Cond.fieldLink RX7 13 "MainsWords$Thing" "wire" "I", Cond.fieldLink RX7 17 "MainsWords$Thing" "number" "I", Cond.methodLink RX3 53 yX2_init, Cond.instanceMethod yX2_init, Cond.code yX2_init cX2_init 2 none, Cond.fieldLink RX2 9 "MainsWords$Machine" "strength" "I", Cond.fieldLink RX2 15 "MainsWords$Machine" "period" "I", Cond.fieldLink RX2 18 "MainsWords$Machine" "isOn" "Z", Cond.methodLink RX2 3 yX7_init, Cond.methodLink RX3 54 yX1_init, Cond.instanceMethod yX1_init, Cond.code yX1_init cX1_init 2 none, Cond.fieldLink RX1 9 "MainsWords$Lamp" "letter" "I", Cond.fieldLink RX1 15 "MainsWords$Lamp" "unit" "I", Cond.fieldLink RX1 18 "MainsWords$Lamp" "level" "I", Cond.fieldLink RX1 21 "MainsWords$Lamp" "isSelected" "Z", Cond.methodLink RX1 3 yX7_init, Cond.instanceMethod yX4_init, Cond.code yX4_init cX4_init 1 none, Cond.methodLink RX4 3 objectInit, Cond.fieldLink RX4 9 "MainsWords$Receiver" "reads" "Z", Cond.fieldLink RX4 15 "MainsWords$Receiver" "latestBits" "I"]
def wsX0_init_r4 : List Cond := [Cond.fieldLink RX4 19 "MainsWords$Receiver" "bitsRead" "I", Cond.fieldLink RX4 22 "MainsWords$Receiver" "wordSoFar" "I", Cond.fieldLink RX4 25 "MainsWords$Receiver" "lastWord" "I", Cond.fieldLink RX4 28 "MainsWords$Receiver" "toldAt" "I", Cond.fieldLink RX4 31 "MainsWords$Receiver" "openLetters" "I"]
def wsX0_init : List Cond := .code yX0_init cX0_init 2 none :: ((wsX0_init_r1 ++ (wsX0_init_r2 ++ (wsX0_init_r3 ++ wsX0_init_r4))) ++ wsX00 ++ wsX30 ++ wsX60 ++ wsX20 ++ wsX10 ++ wsX40)
def wsX0_isEmpty : List Cond := .code yX0_isEmpty cX0_isEmpty 1 (some .boolean) :: ([.fieldLink RX0 17 "MainsWords$History" "kept" "I"] ++ wsX00)
def wsX0_dropOldest : List Cond := .code yX0_dropOldest cX0_dropOldest 3 none :: ([.fieldLink RX0 11 "MainsWords$History" "states" "[LMainsWords$Net;", .fieldLink RX0 17 "MainsWords$History" "kept" "I"] ++ wsX00)
def wsX7_copyThing : List Cond := .code yX7_copyThing cX7_copyThing 2 none :: ([.fieldLink RX7 7 "MainsWords$Thing" "isPresent" "Z", .fieldLink RX7 13 "MainsWords$Thing" "wire" "I"] ++ wsX10 ++ wsX20 ++ wsX60)
def wsX8_copyRow : List Cond := .code yX8_copyRow cX8_copyRow 3 none :: ([])
def wsX6_copyFrom : List Cond := .code yX6_copyFrom cX6_copyFrom 2 none :: ([.fieldLink RX6 9 "MainsWords$Sender" "queue" "[I", .fieldLink RX6 15 "MainsWords$Sender" "queueLength" "I", .fieldLink RX6 19 "MainsWords$Sender" "strength" "I", .fieldLink RX6 22 "MainsWords$Sender" "speaks" "Z", .fieldLink RX6 26 "MainsWords$Sender" "copy" "I", .fieldLink RX6 29 "MainsWords$Sender" "place" "I", .fieldLink RX6 32 "MainsWords$Sender" "pause" "I", .methodLink RX6 41 ⟨"MainsWords$Sender", "copyThing", "(LMainsWords$Thing;)V"⟩, .sameMethod "MainsWords$Sender" "MainsWords$Thing" "copyThing" "(LMainsWords$Thing;)V", .selects RX6 ⟨"MainsWords$Sender", "copyThing", "(LMainsWords$Thing;)V"⟩ yX7_copyThing, .instanceMethod yX7_copyThing, .initialized RX7, .code yX7_copyThing cX7_copyThing 2 none, .fieldLink RX7 7 "MainsWords$Thing" "isPresent" "Z", .fieldLink RX7 13 "MainsWords$Thing" "wire" "I", .static yX8_copyRow, .initialized RX8, .code yX8_copyRow cX8_copyRow 3 none] ++ wsX60 ++ wsX10 ++ wsX20)
def wsX2_copyFrom : List Cond := .code yX2_copyFrom cX2_copyFrom 2 none :: ([.fieldLink RX2 9 "MainsWords$Machine" "strength" "I", .fieldLink RX2 15 "MainsWords$Machine" "period" "I", .fieldLink RX2 18 "MainsWords$Machine" "isOn" "Z", .methodLink RX2 28 ⟨"MainsWords$Machine", "copyThing", "(LMainsWords$Thing;)V"⟩, .sameMethod "MainsWords$Machine" "MainsWords$Thing" "copyThing" "(LMainsWords$Thing;)V", .selects RX2 ⟨"MainsWords$Machine", "copyThing", "(LMainsWords$Thing;)V"⟩ yX7_copyThing, .instanceMethod yX7_copyThing, .initialized RX7, .code yX7_copyThing cX7_copyThing 2 none, .fieldLink RX7 7 "MainsWords$Thing" "isPresent" "Z", .fieldLink RX7 13 "MainsWords$Thing" "wire" "I"] ++ wsX20 ++ wsX10 ++ wsX60)
def wsX1_copyFrom : List Cond := .code yX1_copyFrom cX1_copyFrom 2 none :: ([.fieldLink RX1 9 "MainsWords$Lamp" "letter" "I", .fieldLink RX1 15 "MainsWords$Lamp" "unit" "I", .fieldLink RX1 18 "MainsWords$Lamp" "level" "I", .fieldLink RX1 21 "MainsWords$Lamp" "isSelected" "Z", .methodLink RX1 31 ⟨"MainsWords$Lamp", "copyThing", "(LMainsWords$Thing;)V"⟩, .sameMethod "MainsWords$Lamp" "MainsWords$Thing" "copyThing" "(LMainsWords$Thing;)V", .selects RX1 ⟨"MainsWords$Lamp", "copyThing", "(LMainsWords$Thing;)V"⟩ yX7_copyThing, .instanceMethod yX7_copyThing, .initialized RX7, .code yX7_copyThing cX7_copyThing 2 none, .fieldLink RX7 7 "MainsWords$Thing" "isPresent" "Z", .fieldLink RX7 13 "MainsWords$Thing" "wire" "I"] ++ wsX10 ++ wsX20 ++ wsX60)
def wsX4_copyFrom : List Cond := .code yX4_copyFrom cX4_copyFrom 2 none :: ([.fieldLink RX4 9 "MainsWords$Receiver" "reads" "Z", .fieldLink RX4 15 "MainsWords$Receiver" "latestBits" "I", .fieldLink RX4 19 "MainsWords$Receiver" "bitsRead" "I", .fieldLink RX4 22 "MainsWords$Receiver" "wordSoFar" "I", .fieldLink RX4 25 "MainsWords$Receiver" "lastWord" "I", .fieldLink RX4 28 "MainsWords$Receiver" "toldAt" "I", .fieldLink RX4 31 "MainsWords$Receiver" "openLetters" "I"] ++ wsX40)
def wsX3_copyFrom_r1 : List Cond := [Cond.fieldLink RX3 11 "MainsWords$Net" "senders" "[LMainsWords$Sender;", Cond.fieldLink RX3 19 "MainsWords$Net" "machines" "[LMainsWords$Machine;", Cond.fieldLink RX3 25 "MainsWords$Net" "lamps" "[LMainsWords$Lamp;", Cond.fieldLink RX3 31 "MainsWords$Net" "receivers" "[LMainsWords$Receiver;", Cond.fieldLink RX3 35 "MainsWords$Net" "settings" "[I", Cond.fieldLink RX3 39 "MainsWords$Net" "totals" "[I", Cond.fieldLink RX3 42 "MainsWords$Net" "time" "I", Cond.methodLink RX3 56 yX6_copyFrom, Cond.instanceMethod yX6_copyFrom, Cond.selects RX6 yX6_copyFrom yX6_copyFrom, Cond.initialized RX6, Cond.code yX6_copyFrom cX6_copyFrom 2 none, Cond.fieldLink RX6 9 "MainsWords$Sender" "queue" "[I", Cond.fieldLink RX6 15 "MainsWords$Sender" "queueLength" "I", Cond.fieldLink RX6 19 "MainsWords$Sender" "strength" "I", Cond.fieldLink RX6 22 "MainsWords$Sender" "speaks" "Z", Cond.fieldLink RX6 26 "MainsWords$Sender" "copy" "I", Cond.fieldLink RX6 29 "MainsWords$Sender" "place" "I", Cond.fieldLink RX6 32 "MainsWords$Sender" "pause" "I", Cond.methodLink RX6 41 ⟨"MainsWords$Sender", "copyThing", "(LMainsWords$Thing;)V"⟩, Cond.sameMethod "MainsWords$Sender" "MainsWords$Thing" "copyThing" "(LMainsWords$Thing;)V", Cond.selects RX6 ⟨"MainsWords$Sender", "copyThing", "(LMainsWords$Thing;)V"⟩ yX7_copyThing, Cond.instanceMethod yX7_copyThing, Cond.initialized RX7]
def wsX3_copyFrom_r2 : List Cond := [Cond.code yX7_copyThing cX7_copyThing 2 none, Cond.fieldLink RX7 7 "MainsWords$Thing" "isPresent" "Z", Cond.fieldLink RX7 13 "MainsWords$Thing" "wire" "I", Cond.static yX8_copyRow, Cond.initialized RX8, Cond.code yX8_copyRow cX8_copyRow 3 none, Cond.methodLink RX3 60 yX2_copyFrom, Cond.instanceMethod yX2_copyFrom, Cond.selects RX2 yX2_copyFrom yX2_copyFrom, Cond.initialized RX2, Cond.code yX2_copyFrom cX2_copyFrom 2 none, Cond.fieldLink RX2 9 "MainsWords$Machine" "strength" "I", Cond.fieldLink RX2 15 "MainsWords$Machine" "period" "I", Cond.fieldLink RX2 18 "MainsWords$Machine" "isOn" "Z", Cond.methodLink RX2 28 ⟨"MainsWords$Machine", "copyThing", "(LMainsWords$Thing;)V"⟩, Cond.sameMethod "MainsWords$Machine" "MainsWords$Thing" "copyThing" "(LMainsWords$Thing;)V", Cond.selects RX2 ⟨"MainsWords$Machine", "copyThing", "(LMainsWords$Thing;)V"⟩ yX7_copyThing, Cond.methodLink RX3 63 yX1_copyFrom, Cond.instanceMethod yX1_copyFrom, Cond.selects RX1 yX1_copyFrom yX1_copyFrom, Cond.initialized RX1, Cond.code yX1_copyFrom cX1_copyFrom 2 none, Cond.fieldLink RX1 9 "MainsWords$Lamp" "letter" "I", Cond.fieldLink RX1 15 "MainsWords$Lamp" "unit" "I"]
def wsX3_copyFrom_r3 : List Cond := [Cond.fieldLink RX1 18 "MainsWords$Lamp" "level" "I", Cond.fieldLink RX1 21 "MainsWords$Lamp" "isSelected" "Z", Cond.methodLink RX1 31 ⟨"MainsWords$Lamp", "copyThing", "(LMainsWords$Thing;)V"⟩, Cond.sameMethod "MainsWords$Lamp" "MainsWords$Thing" "copyThing" "(LMainsWords$Thing;)V", Cond.selects RX1 ⟨"MainsWords$Lamp", "copyThing", "(LMainsWords$Thing;)V"⟩ yX7_copyThing, Cond.methodLink RX3 66 yX4_copyFrom, Cond.instanceMethod yX4_copyFrom, Cond.selects RX4 yX4_copyFrom yX4_copyFrom, Cond.initialized RX4, Cond.code yX4_copyFrom cX4_copyFrom 2 none, Cond.fieldLink RX4 9 "MainsWords$Receiver" "reads" "Z", Cond.fieldLink RX4 15 "MainsWords$Receiver" "latestBits" "I", Cond.fieldLink RX4 19 "MainsWords$Receiver" "bitsRead" "I", Cond.fieldLink RX4 22 "MainsWords$Receiver" "wordSoFar" "I", Cond.fieldLink RX4 25 "MainsWords$Receiver" "lastWord" "I", Cond.fieldLink RX4 28 "MainsWords$Receiver" "toldAt" "I", Cond.fieldLink RX4 31 "MainsWords$Receiver" "openLetters" "I"]
def wsX3_copyFrom : List Cond := .code yX3_copyFrom cX3_copyFrom 3 none :: ((wsX3_copyFrom_r1 ++ (wsX3_copyFrom_r2 ++ wsX3_copyFrom_r3)) ++ wsX30 ++ wsX60 ++ wsX10 ++ wsX20 ++ wsX40)
def wsX0_keep_r1 : List Cond := [Cond.fieldLink RX0 17 "MainsWords$History" "kept" "I", Cond.fieldLink RX0 11 "MainsWords$History" "states" "[LMainsWords$Net;", Cond.methodLink RX0 22 yX0_dropOldest, Cond.instanceMethod yX0_dropOldest, Cond.selects RX0 yX0_dropOldest yX0_dropOldest, Cond.initialized RX0, Cond.code yX0_dropOldest cX0_dropOldest 3 none, Cond.methodLink RX0 25 yX3_copyFrom, Cond.instanceMethod yX3_copyFrom, Cond.selects RX3 yX3_copyFrom yX3_copyFrom, Cond.initialized RX3, Cond.code yX3_copyFrom cX3_copyFrom 3 none, Cond.fieldLink RX3 11 "MainsWords$Net" "senders" "[LMainsWords$Sender;", Cond.fieldLink RX3 19 "MainsWords$Net" "machines" "[LMainsWords$Machine;", Cond.fieldLink RX3 25 "MainsWords$Net" "lamps" "[LMainsWords$Lamp;", Cond.fieldLink RX3 31 "MainsWords$Net" "receivers" "[LMainsWords$Receiver;", Cond.fieldLink RX3 35 "MainsWords$Net" "settings" "[I", Cond.fieldLink RX3 39 "MainsWords$Net" "totals" "[I", Cond.fieldLink RX3 42 "MainsWords$Net" "time" "I", Cond.methodLink RX3 56 yX6_copyFrom, Cond.instanceMethod yX6_copyFrom, Cond.selects RX6 yX6_copyFrom yX6_copyFrom, Cond.initialized RX6, Cond.code yX6_copyFrom cX6_copyFrom 2 none]
def wsX0_keep_r2 : List Cond := [Cond.fieldLink RX6 9 "MainsWords$Sender" "queue" "[I", Cond.fieldLink RX6 15 "MainsWords$Sender" "queueLength" "I", Cond.fieldLink RX6 19 "MainsWords$Sender" "strength" "I", Cond.fieldLink RX6 22 "MainsWords$Sender" "speaks" "Z", Cond.fieldLink RX6 26 "MainsWords$Sender" "copy" "I", Cond.fieldLink RX6 29 "MainsWords$Sender" "place" "I", Cond.fieldLink RX6 32 "MainsWords$Sender" "pause" "I", Cond.methodLink RX6 41 ⟨"MainsWords$Sender", "copyThing", "(LMainsWords$Thing;)V"⟩, Cond.sameMethod "MainsWords$Sender" "MainsWords$Thing" "copyThing" "(LMainsWords$Thing;)V", Cond.selects RX6 ⟨"MainsWords$Sender", "copyThing", "(LMainsWords$Thing;)V"⟩ yX7_copyThing, Cond.instanceMethod yX7_copyThing, Cond.initialized RX7, Cond.code yX7_copyThing cX7_copyThing 2 none, Cond.fieldLink RX7 7 "MainsWords$Thing" "isPresent" "Z", Cond.fieldLink RX7 13 "MainsWords$Thing" "wire" "I", Cond.static yX8_copyRow, Cond.initialized RX8, Cond.code yX8_copyRow cX8_copyRow 3 none, Cond.methodLink RX3 60 yX2_copyFrom, Cond.instanceMethod yX2_copyFrom, Cond.selects RX2 yX2_copyFrom yX2_copyFrom, Cond.initialized RX2, Cond.code yX2_copyFrom cX2_copyFrom 2 none, Cond.fieldLink RX2 9 "MainsWords$Machine" "strength" "I"]
def wsX0_keep_r3 : List Cond := [Cond.fieldLink RX2 15 "MainsWords$Machine" "period" "I", Cond.fieldLink RX2 18 "MainsWords$Machine" "isOn" "Z", Cond.methodLink RX2 28 ⟨"MainsWords$Machine", "copyThing", "(LMainsWords$Thing;)V"⟩, Cond.sameMethod "MainsWords$Machine" "MainsWords$Thing" "copyThing" "(LMainsWords$Thing;)V", Cond.selects RX2 ⟨"MainsWords$Machine", "copyThing", "(LMainsWords$Thing;)V"⟩ yX7_copyThing, Cond.methodLink RX3 63 yX1_copyFrom, Cond.instanceMethod yX1_copyFrom, Cond.selects RX1 yX1_copyFrom yX1_copyFrom, Cond.initialized RX1, Cond.code yX1_copyFrom cX1_copyFrom 2 none, Cond.fieldLink RX1 9 "MainsWords$Lamp" "letter" "I", Cond.fieldLink RX1 15 "MainsWords$Lamp" "unit" "I", Cond.fieldLink RX1 18 "MainsWords$Lamp" "level" "I", Cond.fieldLink RX1 21 "MainsWords$Lamp" "isSelected" "Z", Cond.methodLink RX1 31 ⟨"MainsWords$Lamp", "copyThing", "(LMainsWords$Thing;)V"⟩, Cond.sameMethod "MainsWords$Lamp" "MainsWords$Thing" "copyThing" "(LMainsWords$Thing;)V", Cond.selects RX1 ⟨"MainsWords$Lamp", "copyThing", "(LMainsWords$Thing;)V"⟩ yX7_copyThing, Cond.methodLink RX3 66 yX4_copyFrom, Cond.instanceMethod yX4_copyFrom, Cond.selects RX4 yX4_copyFrom yX4_copyFrom, Cond.initialized RX4, Cond.code yX4_copyFrom cX4_copyFrom 2 none, Cond.fieldLink RX4 9 "MainsWords$Receiver" "reads" "Z", Cond.fieldLink RX4 15 "MainsWords$Receiver" "latestBits" "I"]
def wsX0_keep_r4 : List Cond := [Cond.fieldLink RX4 19 "MainsWords$Receiver" "bitsRead" "I", Cond.fieldLink RX4 22 "MainsWords$Receiver" "wordSoFar" "I", Cond.fieldLink RX4 25 "MainsWords$Receiver" "lastWord" "I", Cond.fieldLink RX4 28 "MainsWords$Receiver" "toldAt" "I", Cond.fieldLink RX4 31 "MainsWords$Receiver" "openLetters" "I"]
def wsX0_keep : List Cond := .code yX0_keep cX0_keep 2 none :: ((wsX0_keep_r1 ++ (wsX0_keep_r2 ++ (wsX0_keep_r3 ++ wsX0_keep_r4))) ++ wsX00 ++ wsX30 ++ wsX60 ++ wsX10 ++ wsX20 ++ wsX40)
def wsX0_takeBack_r1 : List Cond := [Cond.fieldLink RX0 17 "MainsWords$History" "kept" "I", Cond.fieldLink RX0 11 "MainsWords$History" "states" "[LMainsWords$Net;", Cond.methodLink RX0 25 yX3_copyFrom, Cond.instanceMethod yX3_copyFrom, Cond.selects RX3 yX3_copyFrom yX3_copyFrom, Cond.initialized RX3, Cond.code yX3_copyFrom cX3_copyFrom 3 none, Cond.fieldLink RX3 11 "MainsWords$Net" "senders" "[LMainsWords$Sender;", Cond.fieldLink RX3 19 "MainsWords$Net" "machines" "[LMainsWords$Machine;", Cond.fieldLink RX3 25 "MainsWords$Net" "lamps" "[LMainsWords$Lamp;", Cond.fieldLink RX3 31 "MainsWords$Net" "receivers" "[LMainsWords$Receiver;", Cond.fieldLink RX3 35 "MainsWords$Net" "settings" "[I", Cond.fieldLink RX3 39 "MainsWords$Net" "totals" "[I", Cond.fieldLink RX3 42 "MainsWords$Net" "time" "I", Cond.methodLink RX3 56 yX6_copyFrom, Cond.instanceMethod yX6_copyFrom, Cond.selects RX6 yX6_copyFrom yX6_copyFrom, Cond.initialized RX6, Cond.code yX6_copyFrom cX6_copyFrom 2 none, Cond.fieldLink RX6 9 "MainsWords$Sender" "queue" "[I", Cond.fieldLink RX6 15 "MainsWords$Sender" "queueLength" "I", Cond.fieldLink RX6 19 "MainsWords$Sender" "strength" "I", Cond.fieldLink RX6 22 "MainsWords$Sender" "speaks" "Z", Cond.fieldLink RX6 26 "MainsWords$Sender" "copy" "I"]
def wsX0_takeBack_r2 : List Cond := [Cond.fieldLink RX6 29 "MainsWords$Sender" "place" "I", Cond.fieldLink RX6 32 "MainsWords$Sender" "pause" "I", Cond.methodLink RX6 41 ⟨"MainsWords$Sender", "copyThing", "(LMainsWords$Thing;)V"⟩, Cond.sameMethod "MainsWords$Sender" "MainsWords$Thing" "copyThing" "(LMainsWords$Thing;)V", Cond.selects RX6 ⟨"MainsWords$Sender", "copyThing", "(LMainsWords$Thing;)V"⟩ yX7_copyThing, Cond.instanceMethod yX7_copyThing, Cond.initialized RX7, Cond.code yX7_copyThing cX7_copyThing 2 none, Cond.fieldLink RX7 7 "MainsWords$Thing" "isPresent" "Z", Cond.fieldLink RX7 13 "MainsWords$Thing" "wire" "I", Cond.static yX8_copyRow, Cond.initialized RX8, Cond.code yX8_copyRow cX8_copyRow 3 none, Cond.methodLink RX3 60 yX2_copyFrom, Cond.instanceMethod yX2_copyFrom, Cond.selects RX2 yX2_copyFrom yX2_copyFrom, Cond.initialized RX2, Cond.code yX2_copyFrom cX2_copyFrom 2 none, Cond.fieldLink RX2 9 "MainsWords$Machine" "strength" "I", Cond.fieldLink RX2 15 "MainsWords$Machine" "period" "I", Cond.fieldLink RX2 18 "MainsWords$Machine" "isOn" "Z", Cond.methodLink RX2 28 ⟨"MainsWords$Machine", "copyThing", "(LMainsWords$Thing;)V"⟩, Cond.sameMethod "MainsWords$Machine" "MainsWords$Thing" "copyThing" "(LMainsWords$Thing;)V", Cond.selects RX2 ⟨"MainsWords$Machine", "copyThing", "(LMainsWords$Thing;)V"⟩ yX7_copyThing]
def wsX0_takeBack_r3 : List Cond := [Cond.methodLink RX3 63 yX1_copyFrom, Cond.instanceMethod yX1_copyFrom, Cond.selects RX1 yX1_copyFrom yX1_copyFrom, Cond.initialized RX1, Cond.code yX1_copyFrom cX1_copyFrom 2 none, Cond.fieldLink RX1 9 "MainsWords$Lamp" "letter" "I", Cond.fieldLink RX1 15 "MainsWords$Lamp" "unit" "I", Cond.fieldLink RX1 18 "MainsWords$Lamp" "level" "I", Cond.fieldLink RX1 21 "MainsWords$Lamp" "isSelected" "Z", Cond.methodLink RX1 31 ⟨"MainsWords$Lamp", "copyThing", "(LMainsWords$Thing;)V"⟩, Cond.sameMethod "MainsWords$Lamp" "MainsWords$Thing" "copyThing" "(LMainsWords$Thing;)V", Cond.selects RX1 ⟨"MainsWords$Lamp", "copyThing", "(LMainsWords$Thing;)V"⟩ yX7_copyThing, Cond.methodLink RX3 66 yX4_copyFrom, Cond.instanceMethod yX4_copyFrom, Cond.selects RX4 yX4_copyFrom yX4_copyFrom, Cond.initialized RX4, Cond.code yX4_copyFrom cX4_copyFrom 2 none, Cond.fieldLink RX4 9 "MainsWords$Receiver" "reads" "Z", Cond.fieldLink RX4 15 "MainsWords$Receiver" "latestBits" "I", Cond.fieldLink RX4 19 "MainsWords$Receiver" "bitsRead" "I", Cond.fieldLink RX4 22 "MainsWords$Receiver" "wordSoFar" "I", Cond.fieldLink RX4 25 "MainsWords$Receiver" "lastWord" "I", Cond.fieldLink RX4 28 "MainsWords$Receiver" "toldAt" "I", Cond.fieldLink RX4 31 "MainsWords$Receiver" "openLetters" "I"]
def wsX0_takeBack : List Cond := .code yX0_takeBack cX0_takeBack 2 none :: ((wsX0_takeBack_r1 ++ (wsX0_takeBack_r2 ++ wsX0_takeBack_r3)) ++ wsX00 ++ wsX30 ++ wsX60 ++ wsX10 ++ wsX20 ++ wsX40)
def wsX1_put : List Cond := .code yX1_put cX1_put 4 none :: ([.fieldLink RX1 25 "MainsWords$Lamp" "isPresent" "Z", .sameField "MainsWords$Lamp" "MainsWords$Thing" "isPresent" "Z", .fieldLink RX1 28 "MainsWords$Lamp" "wire" "I", .sameField "MainsWords$Lamp" "MainsWords$Thing" "wire" "I", .fieldLink RX1 9 "MainsWords$Lamp" "letter" "I", .fieldLink RX1 15 "MainsWords$Lamp" "unit" "I", .fieldLink RX1 18 "MainsWords$Lamp" "level" "I", .fieldLink RX1 21 "MainsWords$Lamp" "isSelected" "Z"] ++ wsX10 ++ wsX20 ++ wsX60)
def wsX1_isCalledBy : List Cond := .code yX1_isCalledBy cX1_isCalledBy 3 (some .boolean) :: ([.fieldLink RX1 25 "MainsWords$Lamp" "isPresent" "Z", .sameField "MainsWords$Lamp" "MainsWords$Thing" "isPresent" "Z", .fieldLink RX1 28 "MainsWords$Lamp" "wire" "I", .sameField "MainsWords$Lamp" "MainsWords$Thing" "wire" "I", .fieldLink RX1 9 "MainsWords$Lamp" "letter" "I"] ++ wsX10 ++ wsX20 ++ wsX60)
def wsX1_levelBy : List Cond := .code yX1_levelBy cX1_levelBy 2 (some .int) :: ([.fieldLink RX1 18 "MainsWords$Lamp" "level" "I"] ++ wsX10)
def wsX1_obey : List Cond := .code yX1_obey cX1_obey 3 none :: ([.fieldLink RX1 15 "MainsWords$Lamp" "unit" "I", .fieldLink RX1 21 "MainsWords$Lamp" "isSelected" "Z", .fieldLink RX1 18 "MainsWords$Lamp" "level" "I", .methodLink RX1 35 yX1_levelBy, .instanceMethod yX1_levelBy, .selects RX1 yX1_levelBy yX1_levelBy, .initialized RX1, .code yX1_levelBy cX1_levelBy 2 (some .int)] ++ wsX10)
def wsX2_put : List Cond := .code yX2_put cX2_put 4 none :: ([.fieldLink RX2 22 "MainsWords$Machine" "isPresent" "Z", .sameField "MainsWords$Machine" "MainsWords$Thing" "isPresent" "Z", .fieldLink RX2 25 "MainsWords$Machine" "wire" "I", .sameField "MainsWords$Machine" "MainsWords$Thing" "wire" "I", .fieldLink RX2 9 "MainsWords$Machine" "strength" "I", .fieldLink RX2 15 "MainsWords$Machine" "period" "I", .fieldLink RX2 18 "MainsWords$Machine" "isOn" "Z"] ++ wsX10 ++ wsX20 ++ wsX60)
def wsX2_makesNoiseAt : List Cond := .code yX2_makesNoiseAt cX2_makesNoiseAt 2 (some .boolean) :: ([.fieldLink RX2 22 "MainsWords$Machine" "isPresent" "Z", .sameField "MainsWords$Machine" "MainsWords$Thing" "isPresent" "Z", .fieldLink RX2 18 "MainsWords$Machine" "isOn" "Z", .fieldLink RX2 15 "MainsWords$Machine" "period" "I"] ++ wsX10 ++ wsX20 ++ wsX60)
def wsX3_thingsOf : List Cond := .code yX3_thingsOf cX3_thingsOf 2 (some (.array (.object "MainsWords$Thing"))) :: ([.fieldLink RX3 11 "MainsWords$Net" "senders" "[LMainsWords$Sender;", .fieldLink RX3 19 "MainsWords$Net" "machines" "[LMainsWords$Machine;", .fieldLink RX3 25 "MainsWords$Net" "lamps" "[LMainsWords$Lamp;"] ++ wsX30)
def wsX8_firstFree : List Cond := .code yX8_firstFree cX8_firstFree 5 (some (.object "MainsWords$Thing")) :: ([.fieldLink RX8 88 "MainsWords$Thing" "isPresent" "Z"] ++ wsX10 ++ wsX20 ++ wsX60)
def wsX3_freeSender : List Cond := .code yX3_freeSender cX3_freeSender 3 (some (.object "MainsWords$Sender")) :: ([.fieldLink RX3 11 "MainsWords$Net" "senders" "[LMainsWords$Sender;", .classLink RX3 9 "MainsWords$Sender", .static yX8_firstFree, .initialized RX8, .code yX8_firstFree cX8_firstFree 5 (some (.object "MainsWords$Thing")), .fieldLink RX8 88 "MainsWords$Thing" "isPresent" "Z"] ++ wsX30 ++ wsX10 ++ wsX20 ++ wsX60)
def wsX8_presentAt : List Cond := .code yX8_presentAt cX8_presentAt 2 (some (.object "MainsWords$Thing")) :: ([.fieldLink RX8 88 "MainsWords$Thing" "isPresent" "Z"] ++ wsX10 ++ wsX20 ++ wsX60)
def wsX3_senderAt : List Cond := .code yX3_senderAt cX3_senderAt 4 (some (.object "MainsWords$Sender")) :: ([.fieldLink RX3 11 "MainsWords$Net" "senders" "[LMainsWords$Sender;", .classLink RX3 9 "MainsWords$Sender", .static yX8_presentAt, .initialized RX8, .code yX8_presentAt cX8_presentAt 2 (some (.object "MainsWords$Thing")), .fieldLink RX8 88 "MainsWords$Thing" "isPresent" "Z"] ++ wsX30 ++ wsX10 ++ wsX20 ++ wsX60)
def wsX3_freeMachine : List Cond := .code yX3_freeMachine cX3_freeMachine 3 (some (.object "MainsWords$Machine")) :: ([.fieldLink RX3 19 "MainsWords$Net" "machines" "[LMainsWords$Machine;", .classLink RX3 17 "MainsWords$Machine", .static yX8_firstFree, .initialized RX8, .code yX8_firstFree cX8_firstFree 5 (some (.object "MainsWords$Thing")), .fieldLink RX8 88 "MainsWords$Thing" "isPresent" "Z"] ++ wsX30 ++ wsX10 ++ wsX20 ++ wsX60)
def wsX3_machineAt : List Cond := .code yX3_machineAt cX3_machineAt 4 (some (.object "MainsWords$Machine")) :: ([.fieldLink RX3 19 "MainsWords$Net" "machines" "[LMainsWords$Machine;", .classLink RX3 17 "MainsWords$Machine", .static yX8_presentAt, .initialized RX8, .code yX8_presentAt cX8_presentAt 2 (some (.object "MainsWords$Thing")), .fieldLink RX8 88 "MainsWords$Thing" "isPresent" "Z"] ++ wsX30 ++ wsX10 ++ wsX20 ++ wsX60)
def wsX3_freeLamp : List Cond := .code yX3_freeLamp cX3_freeLamp 3 (some (.object "MainsWords$Lamp")) :: ([.fieldLink RX3 25 "MainsWords$Net" "lamps" "[LMainsWords$Lamp;", .classLink RX3 23 "MainsWords$Lamp", .static yX8_firstFree, .initialized RX8, .code yX8_firstFree cX8_firstFree 5 (some (.object "MainsWords$Thing")), .fieldLink RX8 88 "MainsWords$Thing" "isPresent" "Z"] ++ wsX30 ++ wsX10 ++ wsX20 ++ wsX60)
def wsX3_lampAt : List Cond := .code yX3_lampAt cX3_lampAt 4 (some (.object "MainsWords$Lamp")) :: ([.fieldLink RX3 25 "MainsWords$Net" "lamps" "[LMainsWords$Lamp;", .classLink RX3 23 "MainsWords$Lamp", .static yX8_presentAt, .initialized RX8, .code yX8_presentAt cX8_presentAt 2 (some (.object "MainsWords$Thing")), .fieldLink RX8 88 "MainsWords$Thing" "isPresent" "Z"] ++ wsX30 ++ wsX10 ++ wsX20 ++ wsX60)
def wsX6_isSpeaking : List Cond := .code yX6_isSpeaking cX6_isSpeaking 1 (some .boolean) :: ([.fieldLink RX6 35 "MainsWords$Sender" "isPresent" "Z", .sameField "MainsWords$Sender" "MainsWords$Thing" "isPresent" "Z", .fieldLink RX6 22 "MainsWords$Sender" "speaks" "Z"] ++ wsX10 ++ wsX20 ++ wsX60)
def wsX8_asNumber : List Cond := .code yX8_asNumber cX8_asNumber 1 (some .int) :: ([])
def wsX3_speakingSenders : List Cond := .code yX3_speakingSenders cX3_speakingSenders 6 (some .int) :: ([.fieldLink RX3 11 "MainsWords$Net" "senders" "[LMainsWords$Sender;", .methodLink RX3 81 yX6_isSpeaking, .instanceMethod yX6_isSpeaking, .selects RX6 yX6_isSpeaking yX6_isSpeaking, .initialized RX6, .code yX6_isSpeaking cX6_isSpeaking 1 (some .boolean), .fieldLink RX6 35 "MainsWords$Sender" "isPresent" "Z", .sameField "MainsWords$Sender" "MainsWords$Thing" "isPresent" "Z", .fieldLink RX6 22 "MainsWords$Sender" "speaks" "Z", .static yX8_asNumber, .initialized RX8, .code yX8_asNumber cX8_asNumber 1 (some .int)] ++ wsX30 ++ wsX10 ++ wsX20 ++ wsX60)
def wsX3_queuedWords : List Cond := .code yX3_queuedWords cX3_queuedWords 6 (some .int) :: ([.fieldLink RX3 11 "MainsWords$Net" "senders" "[LMainsWords$Sender;", .fieldLink RX3 89 "MainsWords$Sender" "isPresent" "Z", .sameField "MainsWords$Sender" "MainsWords$Thing" "isPresent" "Z", .fieldLink RX3 93 "MainsWords$Sender" "queueLength" "I"] ++ wsX30 ++ wsX10 ++ wsX20 ++ wsX60)
def wsX3_litLamps : List Cond := .code yX3_litLamps cX3_litLamps 6 (some .int) :: ([.fieldLink RX3 25 "MainsWords$Net" "lamps" "[LMainsWords$Lamp;", .fieldLink RX3 96 "MainsWords$Lamp" "isPresent" "Z", .sameField "MainsWords$Lamp" "MainsWords$Thing" "isPresent" "Z", .fieldLink RX3 97 "MainsWords$Lamp" "level" "I", .static yX8_asNumber, .initialized RX8, .code yX8_asNumber cX8_asNumber 1 (some .int)] ++ wsX30 ++ wsX10 ++ wsX20 ++ wsX60)
def wsX8_isWord : List Cond := .code yX8_isWord cX8_isWord 1 (some .boolean) :: ([])
def wsX6_isQueueFull : List Cond := .code yX6_isQueueFull cX6_isQueueFull 1 (some .boolean) :: ([.fieldLink RX6 15 "MainsWords$Sender" "queueLength" "I", .fieldLink RX6 9 "MainsWords$Sender" "queue" "[I"] ++ wsX60)
def wsX3_refusalOfWord : List Cond := .code yX3_refusalOfWord cX3_refusalOfWord 4 (some .int) :: ([.methodLink RX3 100 yX3_senderAt, .instanceMethod yX3_senderAt, .selects RX3 yX3_senderAt yX3_senderAt, .initialized RX3, .code yX3_senderAt cX3_senderAt 4 (some (.object "MainsWords$Sender")), .fieldLink RX3 11 "MainsWords$Net" "senders" "[LMainsWords$Sender;", .classLink RX3 9 "MainsWords$Sender", .static yX8_presentAt, .initialized RX8, .code yX8_presentAt cX8_presentAt 2 (some (.object "MainsWords$Thing")), .fieldLink RX8 88 "MainsWords$Thing" "isPresent" "Z", .static yX8_isWord, .code yX8_isWord cX8_isWord 1 (some .boolean), .methodLink RX3 108 yX6_isQueueFull, .instanceMethod yX6_isQueueFull, .selects RX6 yX6_isQueueFull yX6_isQueueFull, .initialized RX6, .code yX6_isQueueFull cX6_isQueueFull 1 (some .boolean), .fieldLink RX6 15 "MainsWords$Sender" "queueLength" "I", .fieldLink RX6 9 "MainsWords$Sender" "queue" "[I"] ++ wsX30 ++ wsX10 ++ wsX20 ++ wsX60)
def wsX6_addWord : List Cond := .code yX6_addWord cX6_addWord 2 none :: ([.fieldLink RX6 15 "MainsWords$Sender" "queueLength" "I", .fieldLink RX6 9 "MainsWords$Sender" "queue" "[I"] ++ wsX60)
def wsX3_giveWord : List Cond := .code yX3_giveWord cX3_giveWord 4 (some .int) :: ([.fieldLink RX3 93 "MainsWords$Sender" "queueLength" "I", .methodLink RX3 100 yX3_senderAt, .instanceMethod yX3_senderAt, .selects RX3 yX3_senderAt yX3_senderAt, .initialized RX3, .code yX3_senderAt cX3_senderAt 4 (some (.object "MainsWords$Sender")), .fieldLink RX3 11 "MainsWords$Net" "senders" "[LMainsWords$Sender;", .classLink RX3 9 "MainsWords$Sender", .static yX8_presentAt, .initialized RX8, .code yX8_presentAt cX8_presentAt 2 (some (.object "MainsWords$Thing")), .fieldLink RX8 88 "MainsWords$Thing" "isPresent" "Z", .methodLink RX3 111 yX6_addWord, .instanceMethod yX6_addWord, .selects RX6 yX6_addWord yX6_addWord, .initialized RX6, .code yX6_addWord cX6_addWord 2 none, .fieldLink RX6 15 "MainsWords$Sender" "queueLength" "I", .fieldLink RX6 9 "MainsWords$Sender" "queue" "[I"] ++ wsX60 ++ wsX30 ++ wsX10 ++ wsX20)
def wsX3_lossBetween : List Cond := .code yX3_lossBetween cX3_lossBetween 5 (some .int) :: ([.fieldLink RX3 35 "MainsWords$Net" "settings" "[I"] ++ wsX30)
def wsX4_isQuiet : List Cond := .code yX4_isQuiet cX4_isQuiet 1 (some .boolean) :: ([.fieldLink RX4 9 "MainsWords$Receiver" "reads" "Z", .fieldLink RX4 15 "MainsWords$Receiver" "latestBits" "I"] ++ wsX40)
def wsX3_isQuietOn : List Cond := .code yX3_isQuietOn cX3_isQuietOn 2 (some .boolean) :: ([.fieldLink RX3 31 "MainsWords$Net" "receivers" "[LMainsWords$Receiver;", .methodLink RX3 140 yX4_isQuiet, .instanceMethod yX4_isQuiet, .selects RX4 yX4_isQuiet yX4_isQuiet, .initialized RX4, .code yX4_isQuiet cX4_isQuiet 1 (some .boolean), .fieldLink RX4 9 "MainsWords$Receiver" "reads" "Z", .fieldLink RX4 15 "MainsWords$Receiver" "latestBits" "I"] ++ wsX30 ++ wsX40)
def wsX6_beginOrWait : List Cond := .code yX6_beginOrWait cX6_beginOrWait 2 none :: ([.fieldLink RX6 22 "MainsWords$Sender" "speaks" "Z", .fieldLink RX6 32 "MainsWords$Sender" "pause" "I", .fieldLink RX6 15 "MainsWords$Sender" "queueLength" "I", .fieldLink RX6 26 "MainsWords$Sender" "copy" "I", .fieldLink RX6 29 "MainsWords$Sender" "place" "I"] ++ wsX60)
def wsX3_beginSpeaking_r1 : List Cond := [Cond.fieldLink RX3 11 "MainsWords$Net" "senders" "[LMainsWords$Sender;", Cond.fieldLink RX3 89 "MainsWords$Sender" "isPresent" "Z", Cond.sameField "MainsWords$Sender" "MainsWords$Thing" "isPresent" "Z", Cond.fieldLink RX3 130 "MainsWords$Sender" "wire" "I", Cond.sameField "MainsWords$Sender" "MainsWords$Thing" "wire" "I", Cond.methodLink RX3 133 yX3_isQuietOn, Cond.instanceMethod yX3_isQuietOn, Cond.selects RX3 yX3_isQuietOn yX3_isQuietOn, Cond.initialized RX3, Cond.code yX3_isQuietOn cX3_isQuietOn 2 (some .boolean), Cond.fieldLink RX3 31 "MainsWords$Net" "receivers" "[LMainsWords$Receiver;", Cond.methodLink RX3 140 yX4_isQuiet, Cond.instanceMethod yX4_isQuiet, Cond.selects RX4 yX4_isQuiet yX4_isQuiet, Cond.initialized RX4, Cond.code yX4_isQuiet cX4_isQuiet 1 (some .boolean), Cond.fieldLink RX4 9 "MainsWords$Receiver" "reads" "Z", Cond.fieldLink RX4 15 "MainsWords$Receiver" "latestBits" "I", Cond.methodLink RX3 136 yX6_beginOrWait, Cond.instanceMethod yX6_beginOrWait, Cond.selects RX6 yX6_beginOrWait yX6_beginOrWait, Cond.initialized RX6, Cond.code yX6_beginOrWait cX6_beginOrWait 2 none, Cond.fieldLink RX6 22 "MainsWords$Sender" "speaks" "Z"]
def wsX3_beginSpeaking_r2 : List Cond := [Cond.fieldLink RX6 32 "MainsWords$Sender" "pause" "I", Cond.fieldLink RX6 15 "MainsWords$Sender" "queueLength" "I", Cond.fieldLink RX6 26 "MainsWords$Sender" "copy" "I", Cond.fieldLink RX6 29 "MainsWords$Sender" "place" "I"]
def wsX3_beginSpeaking : List Cond := .code yX3_beginSpeaking cX3_beginSpeaking 5 none :: ((wsX3_beginSpeaking_r1 ++ wsX3_beginSpeaking_r2) ++ wsX30 ++ wsX10 ++ wsX20 ++ wsX60 ++ wsX40)
def wsX8_frameBit : List Cond := .code yX8_frameBit cX8_frameBit 4 (some .int) :: ([])
def wsX6_bitToSend : List Cond := .code yX6_bitToSend cX6_bitToSend 1 (some .int) :: ([.fieldLink RX6 29 "MainsWords$Sender" "place" "I", .fieldLink RX6 9 "MainsWords$Sender" "queue" "[I", .static yX8_frameBit, .initialized RX8, .code yX8_frameBit cX8_frameBit 4 (some .int)] ++ wsX60)
def wsX3_spreadOne : List Cond := .code yX3_spreadOne cX3_spreadOne 4 none :: ([.fieldLink RX3 46 "MainsWords$Net" "heard" "[Z", .fieldLink RX3 35 "MainsWords$Net" "settings" "[I", .methodLink RX3 158 yX3_lossBetween, .instanceMethod yX3_lossBetween, .selects RX3 yX3_lossBetween yX3_lossBetween, .initialized RX3, .code yX3_lossBetween cX3_lossBetween 5 (some .int)] ++ wsX30)
def wsX3_carryBits_r1 : List Cond := [Cond.fieldLink RX3 46 "MainsWords$Net" "heard" "[Z", Cond.fieldLink RX3 11 "MainsWords$Net" "senders" "[LMainsWords$Sender;", Cond.fieldLink RX3 130 "MainsWords$Sender" "wire" "I", Cond.sameField "MainsWords$Sender" "MainsWords$Thing" "wire" "I", Cond.fieldLink RX3 146 "MainsWords$Sender" "strength" "I", Cond.fieldLink RX3 19 "MainsWords$Net" "machines" "[LMainsWords$Machine;", Cond.fieldLink RX3 42 "MainsWords$Net" "time" "I", Cond.fieldLink RX3 156 "MainsWords$Machine" "wire" "I", Cond.sameField "MainsWords$Machine" "MainsWords$Thing" "wire" "I", Cond.fieldLink RX3 157 "MainsWords$Machine" "strength" "I", Cond.methodLink RX3 81 yX6_isSpeaking, Cond.instanceMethod yX6_isSpeaking, Cond.selects RX6 yX6_isSpeaking yX6_isSpeaking, Cond.initialized RX6, Cond.code yX6_isSpeaking cX6_isSpeaking 1 (some .boolean), Cond.fieldLink RX6 35 "MainsWords$Sender" "isPresent" "Z", Cond.sameField "MainsWords$Sender" "MainsWords$Thing" "isPresent" "Z", Cond.fieldLink RX6 22 "MainsWords$Sender" "speaks" "Z", Cond.methodLink RX3 143 yX6_bitToSend, Cond.instanceMethod yX6_bitToSend, Cond.selects RX6 yX6_bitToSend yX6_bitToSend, Cond.code yX6_bitToSend cX6_bitToSend 1 (some .int), Cond.fieldLink RX6 29 "MainsWords$Sender" "place" "I", Cond.fieldLink RX6 9 "MainsWords$Sender" "queue" "[I"]
def wsX3_carryBits_r2 : List Cond := [Cond.static yX8_frameBit, Cond.initialized RX8, Cond.code yX8_frameBit cX8_frameBit 4 (some .int), Cond.methodLink RX3 149 yX3_spreadOne, Cond.instanceMethod yX3_spreadOne, Cond.selects RX3 yX3_spreadOne yX3_spreadOne, Cond.initialized RX3, Cond.code yX3_spreadOne cX3_spreadOne 4 none, Cond.fieldLink RX3 35 "MainsWords$Net" "settings" "[I", Cond.methodLink RX3 158 yX3_lossBetween, Cond.instanceMethod yX3_lossBetween, Cond.selects RX3 yX3_lossBetween yX3_lossBetween, Cond.code yX3_lossBetween cX3_lossBetween 5 (some .int), Cond.methodLink RX3 153 yX2_makesNoiseAt, Cond.instanceMethod yX2_makesNoiseAt, Cond.selects RX2 yX2_makesNoiseAt yX2_makesNoiseAt, Cond.initialized RX2, Cond.code yX2_makesNoiseAt cX2_makesNoiseAt 2 (some .boolean), Cond.fieldLink RX2 22 "MainsWords$Machine" "isPresent" "Z", Cond.sameField "MainsWords$Machine" "MainsWords$Thing" "isPresent" "Z", Cond.fieldLink RX2 18 "MainsWords$Machine" "isOn" "Z", Cond.fieldLink RX2 15 "MainsWords$Machine" "period" "I"]
def wsX3_carryBits : List Cond := .code yX3_carryBits cX3_carryBits 5 none :: ((wsX3_carryBits_r1 ++ wsX3_carryBits_r2) ++ wsX30 ++ wsX10 ++ wsX20 ++ wsX60)
def wsX3_isHeardOn : List Cond := .code yX3_isHeardOn cX3_isHeardOn 2 (some .boolean) :: ([.fieldLink RX3 46 "MainsWords$Net" "heard" "[Z"] ++ wsX30)
def wsX6_isDisturbedBy : List Cond := .code yX6_isDisturbedBy cX6_isDisturbedBy 2 (some .boolean) :: ([.fieldLink RX6 29 "MainsWords$Sender" "place" "I", .methodLink RX6 53 yX6_bitToSend, .instanceMethod yX6_bitToSend, .selects RX6 yX6_bitToSend yX6_bitToSend, .initialized RX6, .code yX6_bitToSend cX6_bitToSend 1 (some .int), .fieldLink RX6 9 "MainsWords$Sender" "queue" "[I", .static yX8_frameBit, .initialized RX8, .code yX8_frameBit cX8_frameBit 4 (some .int)] ++ wsX60)
def wsX6_giveWay : List Cond := .code yX6_giveWay cX6_giveWay 1 none :: ([.fieldLink RX6 22 "MainsWords$Sender" "speaks" "Z", .fieldLink RX6 57 "MainsWords$Sender" "number" "I", .sameField "MainsWords$Sender" "MainsWords$Thing" "number" "I", .fieldLink RX6 32 "MainsWords$Sender" "pause" "I"] ++ wsX60 ++ wsX10 ++ wsX20)
def wsX6_dropFirstWord : List Cond := .code yX6_dropFirstWord cX6_dropFirstWord 2 none :: ([.fieldLink RX6 9 "MainsWords$Sender" "queue" "[I", .fieldLink RX6 15 "MainsWords$Sender" "queueLength" "I"] ++ wsX60)
def wsX6_goOn : List Cond := .code yX6_goOn cX6_goOn 2 (some .boolean) :: ([.fieldLink RX6 29 "MainsWords$Sender" "place" "I", .fieldLink RX6 26 "MainsWords$Sender" "copy" "I", .fieldLink RX6 22 "MainsWords$Sender" "speaks" "Z", .methodLink RX6 60 yX6_dropFirstWord, .instanceMethod yX6_dropFirstWord, .selects RX6 yX6_dropFirstWord yX6_dropFirstWord, .initialized RX6, .code yX6_dropFirstWord cX6_dropFirstWord 2 none, .fieldLink RX6 9 "MainsWords$Sender" "queue" "[I", .fieldLink RX6 15 "MainsWords$Sender" "queueLength" "I"] ++ wsX60)
def wsX3_moveSenders_r1 : List Cond := [Cond.fieldLink RX3 11 "MainsWords$Net" "senders" "[LMainsWords$Sender;", Cond.fieldLink RX3 130 "MainsWords$Sender" "wire" "I", Cond.sameField "MainsWords$Sender" "MainsWords$Thing" "wire" "I", Cond.fieldLink RX3 39 "MainsWords$Net" "totals" "[I", Cond.fieldLink RX3 35 "MainsWords$Net" "settings" "[I", Cond.methodLink RX3 81 yX6_isSpeaking, Cond.instanceMethod yX6_isSpeaking, Cond.selects RX6 yX6_isSpeaking yX6_isSpeaking, Cond.initialized RX6, Cond.code yX6_isSpeaking cX6_isSpeaking 1 (some .boolean), Cond.fieldLink RX6 35 "MainsWords$Sender" "isPresent" "Z", Cond.sameField "MainsWords$Sender" "MainsWords$Thing" "isPresent" "Z", Cond.fieldLink RX6 22 "MainsWords$Sender" "speaks" "Z", Cond.methodLink RX3 162 yX3_isHeardOn, Cond.instanceMethod yX3_isHeardOn, Cond.selects RX3 yX3_isHeardOn yX3_isHeardOn, Cond.initialized RX3, Cond.code yX3_isHeardOn cX3_isHeardOn 2 (some .boolean), Cond.fieldLink RX3 46 "MainsWords$Net" "heard" "[Z", Cond.methodLink RX3 165 yX6_isDisturbedBy, Cond.instanceMethod yX6_isDisturbedBy, Cond.selects RX6 yX6_isDisturbedBy yX6_isDisturbedBy, Cond.code yX6_isDisturbedBy cX6_isDisturbedBy 2 (some .boolean), Cond.fieldLink RX6 29 "MainsWords$Sender" "place" "I"]
def wsX3_moveSenders_r2 : List Cond := [Cond.methodLink RX6 53 yX6_bitToSend, Cond.instanceMethod yX6_bitToSend, Cond.selects RX6 yX6_bitToSend yX6_bitToSend, Cond.code yX6_bitToSend cX6_bitToSend 1 (some .int), Cond.fieldLink RX6 9 "MainsWords$Sender" "queue" "[I", Cond.static yX8_frameBit, Cond.initialized RX8, Cond.code yX8_frameBit cX8_frameBit 4 (some .int), Cond.methodLink RX3 169 yX6_giveWay, Cond.instanceMethod yX6_giveWay, Cond.selects RX6 yX6_giveWay yX6_giveWay, Cond.code yX6_giveWay cX6_giveWay 1 none, Cond.fieldLink RX6 57 "MainsWords$Sender" "number" "I", Cond.sameField "MainsWords$Sender" "MainsWords$Thing" "number" "I", Cond.fieldLink RX6 32 "MainsWords$Sender" "pause" "I", Cond.methodLink RX3 172 yX6_goOn, Cond.instanceMethod yX6_goOn, Cond.selects RX6 yX6_goOn yX6_goOn, Cond.code yX6_goOn cX6_goOn 2 (some .boolean), Cond.fieldLink RX6 26 "MainsWords$Sender" "copy" "I", Cond.methodLink RX6 60 yX6_dropFirstWord, Cond.instanceMethod yX6_dropFirstWord, Cond.selects RX6 yX6_dropFirstWord yX6_dropFirstWord, Cond.code yX6_dropFirstWord cX6_dropFirstWord 2 none]
def wsX3_moveSenders_r3 : List Cond := [Cond.fieldLink RX6 15 "MainsWords$Sender" "queueLength" "I"]
def wsX3_moveSenders : List Cond := .code yX3_moveSenders cX3_moveSenders 5 none :: ((wsX3_moveSenders_r1 ++ (wsX3_moveSenders_r2 ++ wsX3_moveSenders_r3)) ++ wsX30 ++ wsX10 ++ wsX20 ++ wsX60)
def wsX4_listenAnew : List Cond := .code yX4_listenAnew cX4_listenAnew 1 none :: ([.fieldLink RX4 9 "MainsWords$Receiver" "reads" "Z", .fieldLink RX4 15 "MainsWords$Receiver" "latestBits" "I"] ++ wsX40)
def wsX4_read : List Cond := .code yX4_read cX4_read 2 (some .int) :: ([.fieldLink RX4 19 "MainsWords$Receiver" "bitsRead" "I", .fieldLink RX4 22 "MainsWords$Receiver" "wordSoFar" "I", .methodLink RX4 41 yX4_listenAnew, .instanceMethod yX4_listenAnew, .selects RX4 yX4_listenAnew yX4_listenAnew, .initialized RX4, .code yX4_listenAnew cX4_listenAnew 1 none, .fieldLink RX4 9 "MainsWords$Receiver" "reads" "Z", .fieldLink RX4 15 "MainsWords$Receiver" "latestBits" "I"] ++ wsX40)
def wsX4_listen : List Cond := .code yX4_listen cX4_listen 2 (some .int) :: ([.fieldLink RX4 15 "MainsWords$Receiver" "latestBits" "I", .fieldLink RX4 9 "MainsWords$Receiver" "reads" "Z", .fieldLink RX4 19 "MainsWords$Receiver" "bitsRead" "I", .fieldLink RX4 22 "MainsWords$Receiver" "wordSoFar" "I"] ++ wsX40)
def wsX4_take : List Cond := .code yX4_take cX4_take 2 (some .int) :: ([.fieldLink RX4 9 "MainsWords$Receiver" "reads" "Z", .methodLink RX4 34 yX4_read, .instanceMethod yX4_read, .selects RX4 yX4_read yX4_read, .initialized RX4, .code yX4_read cX4_read 2 (some .int), .fieldLink RX4 19 "MainsWords$Receiver" "bitsRead" "I", .fieldLink RX4 22 "MainsWords$Receiver" "wordSoFar" "I", .methodLink RX4 41 yX4_listenAnew, .instanceMethod yX4_listenAnew, .selects RX4 yX4_listenAnew yX4_listenAnew, .code yX4_listenAnew cX4_listenAnew 1 none, .fieldLink RX4 15 "MainsWords$Receiver" "latestBits" "I", .methodLink RX4 38 yX4_listen, .instanceMethod yX4_listen, .selects RX4 yX4_listen yX4_listen, .code yX4_listen cX4_listen 2 (some .int)] ++ wsX40)
def wsX4_tell : List Cond := .code yX4_tell cX4_tell 4 (some .boolean) :: ([.fieldLink RX4 25 "MainsWords$Receiver" "lastWord" "I", .fieldLink RX4 28 "MainsWords$Receiver" "toldAt" "I"] ++ wsX40)
def wsX4_isOpen : List Cond := .code yX4_isOpen cX4_isOpen 2 (some .boolean) :: ([.fieldLink RX4 31 "MainsWords$Receiver" "openLetters" "I"] ++ wsX40)
def wsX4_setOpen : List Cond := .code yX4_setOpen cX4_setOpen 3 none :: ([.fieldLink RX4 31 "MainsWords$Receiver" "openLetters" "I"] ++ wsX40)
def wsX3_hearWord_r1 : List Cond := [Cond.fieldLink RX3 42 "MainsWords$Net" "time" "I", Cond.fieldLink RX3 39 "MainsWords$Net" "totals" "[I", Cond.fieldLink RX3 25 "MainsWords$Net" "lamps" "[LMainsWords$Lamp;", Cond.methodLink RX3 183 yX4_tell, Cond.instanceMethod yX4_tell, Cond.selects RX4 yX4_tell yX4_tell, Cond.initialized RX4, Cond.code yX4_tell cX4_tell 4 (some .boolean), Cond.fieldLink RX4 25 "MainsWords$Receiver" "lastWord" "I", Cond.fieldLink RX4 28 "MainsWords$Receiver" "toldAt" "I", Cond.methodLink RX3 187 yX1_isCalledBy, Cond.instanceMethod yX1_isCalledBy, Cond.selects RX1 yX1_isCalledBy yX1_isCalledBy, Cond.initialized RX1, Cond.code yX1_isCalledBy cX1_isCalledBy 3 (some .boolean), Cond.fieldLink RX1 25 "MainsWords$Lamp" "isPresent" "Z", Cond.sameField "MainsWords$Lamp" "MainsWords$Thing" "isPresent" "Z", Cond.fieldLink RX1 28 "MainsWords$Lamp" "wire" "I", Cond.sameField "MainsWords$Lamp" "MainsWords$Thing" "wire" "I", Cond.fieldLink RX1 9 "MainsWords$Lamp" "letter" "I", Cond.methodLink RX3 190 yX4_isOpen, Cond.instanceMethod yX4_isOpen, Cond.selects RX4 yX4_isOpen yX4_isOpen, Cond.code yX4_isOpen cX4_isOpen 2 (some .boolean)]
def wsX3_hearWord_r2 : List Cond := [Cond.fieldLink RX4 31 "MainsWords$Receiver" "openLetters" "I", Cond.methodLink RX3 193 yX1_obey, Cond.instanceMethod yX1_obey, Cond.selects RX1 yX1_obey yX1_obey, Cond.code yX1_obey cX1_obey 3 none, Cond.fieldLink RX1 15 "MainsWords$Lamp" "unit" "I", Cond.fieldLink RX1 21 "MainsWords$Lamp" "isSelected" "Z", Cond.fieldLink RX1 18 "MainsWords$Lamp" "level" "I", Cond.methodLink RX1 35 yX1_levelBy, Cond.instanceMethod yX1_levelBy, Cond.selects RX1 yX1_levelBy yX1_levelBy, Cond.code yX1_levelBy cX1_levelBy 2 (some .int), Cond.methodLink RX3 197 yX4_setOpen, Cond.instanceMethod yX4_setOpen, Cond.selects RX4 yX4_setOpen yX4_setOpen, Cond.code yX4_setOpen cX4_setOpen 3 none]
def wsX3_hearWord : List Cond := .code yX3_hearWord cX3_hearWord 10 (some .int) :: ((wsX3_hearWord_r1 ++ wsX3_hearWord_r2) ++ wsX30 ++ wsX40 ++ wsX10 ++ wsX20 ++ wsX60)
def wsX3_takeBits_r1 : List Cond := [Cond.fieldLink RX3 31 "MainsWords$Net" "receivers" "[LMainsWords$Receiver;", Cond.fieldLink RX3 39 "MainsWords$Net" "totals" "[I", Cond.methodLink RX3 162 yX3_isHeardOn, Cond.instanceMethod yX3_isHeardOn, Cond.selects RX3 yX3_isHeardOn yX3_isHeardOn, Cond.initialized RX3, Cond.code yX3_isHeardOn cX3_isHeardOn 2 (some .boolean), Cond.fieldLink RX3 46 "MainsWords$Net" "heard" "[Z", Cond.static yX8_asNumber, Cond.initialized RX8, Cond.code yX8_asNumber cX8_asNumber 1 (some .int), Cond.methodLink RX3 175 yX4_take, Cond.instanceMethod yX4_take, Cond.selects RX4 yX4_take yX4_take, Cond.initialized RX4, Cond.code yX4_take cX4_take 2 (some .int), Cond.fieldLink RX4 9 "MainsWords$Receiver" "reads" "Z", Cond.methodLink RX4 34 yX4_read, Cond.instanceMethod yX4_read, Cond.selects RX4 yX4_read yX4_read, Cond.code yX4_read cX4_read 2 (some .int), Cond.fieldLink RX4 19 "MainsWords$Receiver" "bitsRead" "I", Cond.fieldLink RX4 22 "MainsWords$Receiver" "wordSoFar" "I", Cond.methodLink RX4 41 yX4_listenAnew]
def wsX3_takeBits_r2 : List Cond := [Cond.instanceMethod yX4_listenAnew, Cond.selects RX4 yX4_listenAnew yX4_listenAnew, Cond.code yX4_listenAnew cX4_listenAnew 1 none, Cond.fieldLink RX4 15 "MainsWords$Receiver" "latestBits" "I", Cond.methodLink RX4 38 yX4_listen, Cond.instanceMethod yX4_listen, Cond.selects RX4 yX4_listen yX4_listen, Cond.code yX4_listen cX4_listen 2 (some .int), Cond.methodLink RX3 179 yX3_hearWord, Cond.instanceMethod yX3_hearWord, Cond.selects RX3 yX3_hearWord yX3_hearWord, Cond.code yX3_hearWord cX3_hearWord 10 (some .int), Cond.fieldLink RX3 42 "MainsWords$Net" "time" "I", Cond.fieldLink RX3 25 "MainsWords$Net" "lamps" "[LMainsWords$Lamp;", Cond.methodLink RX3 183 yX4_tell, Cond.instanceMethod yX4_tell, Cond.selects RX4 yX4_tell yX4_tell, Cond.code yX4_tell cX4_tell 4 (some .boolean), Cond.fieldLink RX4 25 "MainsWords$Receiver" "lastWord" "I", Cond.fieldLink RX4 28 "MainsWords$Receiver" "toldAt" "I", Cond.methodLink RX3 187 yX1_isCalledBy, Cond.instanceMethod yX1_isCalledBy, Cond.selects RX1 yX1_isCalledBy yX1_isCalledBy, Cond.initialized RX1]
def wsX3_takeBits_r3 : List Cond := [Cond.code yX1_isCalledBy cX1_isCalledBy 3 (some .boolean), Cond.fieldLink RX1 25 "MainsWords$Lamp" "isPresent" "Z", Cond.sameField "MainsWords$Lamp" "MainsWords$Thing" "isPresent" "Z", Cond.fieldLink RX1 28 "MainsWords$Lamp" "wire" "I", Cond.sameField "MainsWords$Lamp" "MainsWords$Thing" "wire" "I", Cond.fieldLink RX1 9 "MainsWords$Lamp" "letter" "I", Cond.methodLink RX3 190 yX4_isOpen, Cond.instanceMethod yX4_isOpen, Cond.selects RX4 yX4_isOpen yX4_isOpen, Cond.code yX4_isOpen cX4_isOpen 2 (some .boolean), Cond.fieldLink RX4 31 "MainsWords$Receiver" "openLetters" "I", Cond.methodLink RX3 193 yX1_obey, Cond.instanceMethod yX1_obey, Cond.selects RX1 yX1_obey yX1_obey, Cond.code yX1_obey cX1_obey 3 none, Cond.fieldLink RX1 15 "MainsWords$Lamp" "unit" "I", Cond.fieldLink RX1 21 "MainsWords$Lamp" "isSelected" "Z", Cond.fieldLink RX1 18 "MainsWords$Lamp" "level" "I", Cond.methodLink RX1 35 yX1_levelBy, Cond.instanceMethod yX1_levelBy, Cond.selects RX1 yX1_levelBy yX1_levelBy, Cond.code yX1_levelBy cX1_levelBy 2 (some .int), Cond.methodLink RX3 197 yX4_setOpen, Cond.instanceMethod yX4_setOpen]
def wsX3_takeBits_r4 : List Cond := [Cond.selects RX4 yX4_setOpen yX4_setOpen, Cond.code yX4_setOpen cX4_setOpen 3 none]
def wsX3_takeBits : List Cond := .code yX3_takeBits cX3_takeBits 4 (some .int) :: ((wsX3_takeBits_r1 ++ (wsX3_takeBits_r2 ++ (wsX3_takeBits_r3 ++ wsX3_takeBits_r4))) ++ wsX30 ++ wsX40 ++ wsX10 ++ wsX20 ++ wsX60)
def wsX3_beat_r1 : List Cond := [Cond.fieldLink RX3 42 "MainsWords$Net" "time" "I", Cond.methodLink RX3 118 yX3_beginSpeaking, Cond.instanceMethod yX3_beginSpeaking, Cond.selects RX3 yX3_beginSpeaking yX3_beginSpeaking, Cond.initialized RX3, Cond.code yX3_beginSpeaking cX3_beginSpeaking 5 none, Cond.fieldLink RX3 11 "MainsWords$Net" "senders" "[LMainsWords$Sender;", Cond.fieldLink RX3 89 "MainsWords$Sender" "isPresent" "Z", Cond.sameField "MainsWords$Sender" "MainsWords$Thing" "isPresent" "Z", Cond.fieldLink RX3 130 "MainsWords$Sender" "wire" "I", Cond.sameField "MainsWords$Sender" "MainsWords$Thing" "wire" "I", Cond.methodLink RX3 133 yX3_isQuietOn, Cond.instanceMethod yX3_isQuietOn, Cond.selects RX3 yX3_isQuietOn yX3_isQuietOn, Cond.code yX3_isQuietOn cX3_isQuietOn 2 (some .boolean), Cond.fieldLink RX3 31 "MainsWords$Net" "receivers" "[LMainsWords$Receiver;", Cond.methodLink RX3 140 yX4_isQuiet, Cond.instanceMethod yX4_isQuiet, Cond.selects RX4 yX4_isQuiet yX4_isQuiet, Cond.initialized RX4, Cond.code yX4_isQuiet cX4_isQuiet 1 (some .boolean), Cond.fieldLink RX4 9 "MainsWords$Receiver" "reads" "Z", Cond.fieldLink RX4 15 "MainsWords$Receiver" "latestBits" "I", Cond.methodLink RX3 136 yX6_beginOrWait]
def wsX3_beat_r2 : List Cond := [Cond.instanceMethod yX6_beginOrWait, Cond.selects RX6 yX6_beginOrWait yX6_beginOrWait, Cond.initialized RX6, Cond.code yX6_beginOrWait cX6_beginOrWait 2 none, Cond.fieldLink RX6 22 "MainsWords$Sender" "speaks" "Z", Cond.fieldLink RX6 32 "MainsWords$Sender" "pause" "I", Cond.fieldLink RX6 15 "MainsWords$Sender" "queueLength" "I", Cond.fieldLink RX6 26 "MainsWords$Sender" "copy" "I", Cond.fieldLink RX6 29 "MainsWords$Sender" "place" "I", Cond.methodLink RX3 121 yX3_carryBits, Cond.instanceMethod yX3_carryBits, Cond.selects RX3 yX3_carryBits yX3_carryBits, Cond.code yX3_carryBits cX3_carryBits 5 none, Cond.fieldLink RX3 46 "MainsWords$Net" "heard" "[Z", Cond.fieldLink RX3 146 "MainsWords$Sender" "strength" "I", Cond.fieldLink RX3 19 "MainsWords$Net" "machines" "[LMainsWords$Machine;", Cond.fieldLink RX3 156 "MainsWords$Machine" "wire" "I", Cond.sameField "MainsWords$Machine" "MainsWords$Thing" "wire" "I", Cond.fieldLink RX3 157 "MainsWords$Machine" "strength" "I", Cond.methodLink RX3 81 yX6_isSpeaking, Cond.instanceMethod yX6_isSpeaking, Cond.selects RX6 yX6_isSpeaking yX6_isSpeaking, Cond.code yX6_isSpeaking cX6_isSpeaking 1 (some .boolean), Cond.fieldLink RX6 35 "MainsWords$Sender" "isPresent" "Z"]
def wsX3_beat_r3 : List Cond := [Cond.methodLink RX3 143 yX6_bitToSend, Cond.instanceMethod yX6_bitToSend, Cond.selects RX6 yX6_bitToSend yX6_bitToSend, Cond.code yX6_bitToSend cX6_bitToSend 1 (some .int), Cond.fieldLink RX6 9 "MainsWords$Sender" "queue" "[I", Cond.static yX8_frameBit, Cond.initialized RX8, Cond.code yX8_frameBit cX8_frameBit 4 (some .int), Cond.methodLink RX3 149 yX3_spreadOne, Cond.instanceMethod yX3_spreadOne, Cond.selects RX3 yX3_spreadOne yX3_spreadOne, Cond.code yX3_spreadOne cX3_spreadOne 4 none, Cond.fieldLink RX3 35 "MainsWords$Net" "settings" "[I", Cond.methodLink RX3 158 yX3_lossBetween, Cond.instanceMethod yX3_lossBetween, Cond.selects RX3 yX3_lossBetween yX3_lossBetween, Cond.code yX3_lossBetween cX3_lossBetween 5 (some .int), Cond.methodLink RX3 153 yX2_makesNoiseAt, Cond.instanceMethod yX2_makesNoiseAt, Cond.selects RX2 yX2_makesNoiseAt yX2_makesNoiseAt, Cond.initialized RX2, Cond.code yX2_makesNoiseAt cX2_makesNoiseAt 2 (some .boolean), Cond.fieldLink RX2 22 "MainsWords$Machine" "isPresent" "Z", Cond.sameField "MainsWords$Machine" "MainsWords$Thing" "isPresent" "Z"]
def wsX3_beat_r4 : List Cond := [Cond.fieldLink RX2 18 "MainsWords$Machine" "isOn" "Z", Cond.fieldLink RX2 15 "MainsWords$Machine" "period" "I", Cond.methodLink RX3 124 yX3_moveSenders, Cond.instanceMethod yX3_moveSenders, Cond.selects RX3 yX3_moveSenders yX3_moveSenders, Cond.code yX3_moveSenders cX3_moveSenders 5 none, Cond.fieldLink RX3 39 "MainsWords$Net" "totals" "[I", Cond.methodLink RX3 162 yX3_isHeardOn, Cond.instanceMethod yX3_isHeardOn, Cond.selects RX3 yX3_isHeardOn yX3_isHeardOn, Cond.code yX3_isHeardOn cX3_isHeardOn 2 (some .boolean), Cond.methodLink RX3 165 yX6_isDisturbedBy, Cond.instanceMethod yX6_isDisturbedBy, Cond.selects RX6 yX6_isDisturbedBy yX6_isDisturbedBy, Cond.code yX6_isDisturbedBy cX6_isDisturbedBy 2 (some .boolean), Cond.methodLink RX6 53 yX6_bitToSend, Cond.methodLink RX3 169 yX6_giveWay, Cond.instanceMethod yX6_giveWay, Cond.selects RX6 yX6_giveWay yX6_giveWay, Cond.code yX6_giveWay cX6_giveWay 1 none, Cond.fieldLink RX6 57 "MainsWords$Sender" "number" "I", Cond.sameField "MainsWords$Sender" "MainsWords$Thing" "number" "I", Cond.methodLink RX3 172 yX6_goOn, Cond.instanceMethod yX6_goOn]
def wsX3_beat_r5 : List Cond := [Cond.selects RX6 yX6_goOn yX6_goOn, Cond.code yX6_goOn cX6_goOn 2 (some .boolean), Cond.methodLink RX6 60 yX6_dropFirstWord, Cond.instanceMethod yX6_dropFirstWord, Cond.selects RX6 yX6_dropFirstWord yX6_dropFirstWord, Cond.code yX6_dropFirstWord cX6_dropFirstWord 2 none, Cond.methodLink RX3 127 yX3_takeBits, Cond.instanceMethod yX3_takeBits, Cond.selects RX3 yX3_takeBits yX3_takeBits, Cond.code yX3_takeBits cX3_takeBits 4 (some .int), Cond.static yX8_asNumber, Cond.code yX8_asNumber cX8_asNumber 1 (some .int), Cond.methodLink RX3 175 yX4_take, Cond.instanceMethod yX4_take, Cond.selects RX4 yX4_take yX4_take, Cond.code yX4_take cX4_take 2 (some .int), Cond.methodLink RX4 34 yX4_read, Cond.instanceMethod yX4_read, Cond.selects RX4 yX4_read yX4_read, Cond.code yX4_read cX4_read 2 (some .int), Cond.fieldLink RX4 19 "MainsWords$Receiver" "bitsRead" "I", Cond.fieldLink RX4 22 "MainsWords$Receiver" "wordSoFar" "I", Cond.methodLink RX4 41 yX4_listenAnew, Cond.instanceMethod yX4_listenAnew]
def wsX3_beat_r6 : List Cond := [Cond.selects RX4 yX4_listenAnew yX4_listenAnew, Cond.code yX4_listenAnew cX4_listenAnew 1 none, Cond.methodLink RX4 38 yX4_listen, Cond.instanceMethod yX4_listen, Cond.selects RX4 yX4_listen yX4_listen, Cond.code yX4_listen cX4_listen 2 (some .int), Cond.methodLink RX3 179 yX3_hearWord, Cond.instanceMethod yX3_hearWord, Cond.selects RX3 yX3_hearWord yX3_hearWord, Cond.code yX3_hearWord cX3_hearWord 10 (some .int), Cond.fieldLink RX3 25 "MainsWords$Net" "lamps" "[LMainsWords$Lamp;", Cond.methodLink RX3 183 yX4_tell, Cond.instanceMethod yX4_tell, Cond.selects RX4 yX4_tell yX4_tell, Cond.code yX4_tell cX4_tell 4 (some .boolean), Cond.fieldLink RX4 25 "MainsWords$Receiver" "lastWord" "I", Cond.fieldLink RX4 28 "MainsWords$Receiver" "toldAt" "I", Cond.methodLink RX3 187 yX1_isCalledBy, Cond.instanceMethod yX1_isCalledBy, Cond.selects RX1 yX1_isCalledBy yX1_isCalledBy, Cond.initialized RX1, Cond.code yX1_isCalledBy cX1_isCalledBy 3 (some .boolean), Cond.fieldLink RX1 25 "MainsWords$Lamp" "isPresent" "Z", Cond.sameField "MainsWords$Lamp" "MainsWords$Thing" "isPresent" "Z"]
def wsX3_beat_r7 : List Cond := [Cond.fieldLink RX1 28 "MainsWords$Lamp" "wire" "I", Cond.sameField "MainsWords$Lamp" "MainsWords$Thing" "wire" "I", Cond.fieldLink RX1 9 "MainsWords$Lamp" "letter" "I", Cond.methodLink RX3 190 yX4_isOpen, Cond.instanceMethod yX4_isOpen, Cond.selects RX4 yX4_isOpen yX4_isOpen, Cond.code yX4_isOpen cX4_isOpen 2 (some .boolean), Cond.fieldLink RX4 31 "MainsWords$Receiver" "openLetters" "I", Cond.methodLink RX3 193 yX1_obey, Cond.instanceMethod yX1_obey, Cond.selects RX1 yX1_obey yX1_obey, Cond.code yX1_obey cX1_obey 3 none, Cond.fieldLink RX1 15 "MainsWords$Lamp" "unit" "I", Cond.fieldLink RX1 21 "MainsWords$Lamp" "isSelected" "Z", Cond.fieldLink RX1 18 "MainsWords$Lamp" "level" "I", Cond.methodLink RX1 35 yX1_levelBy, Cond.instanceMethod yX1_levelBy, Cond.selects RX1 yX1_levelBy yX1_levelBy, Cond.code yX1_levelBy cX1_levelBy 2 (some .int), Cond.methodLink RX3 197 yX4_setOpen, Cond.instanceMethod yX4_setOpen, Cond.selects RX4 yX4_setOpen yX4_setOpen, Cond.code yX4_setOpen cX4_setOpen 3 none]
def wsX3_beat : List Cond := .code yX3_beat cX3_beat 2 (some .int) :: ((wsX3_beat_r1 ++ (wsX3_beat_r2 ++ (wsX3_beat_r3 ++ (wsX3_beat_r4 ++ (wsX3_beat_r5 ++ (wsX3_beat_r6 ++ wsX3_beat_r7)))))) ++ wsX30 ++ wsX10 ++ wsX20 ++ wsX60 ++ wsX40)
def wsX3_letPass_r1 : List Cond := [Cond.methodLink RX3 114 yX3_beat, Cond.instanceMethod yX3_beat, Cond.selects RX3 yX3_beat yX3_beat, Cond.initialized RX3, Cond.code yX3_beat cX3_beat 2 (some .int), Cond.fieldLink RX3 42 "MainsWords$Net" "time" "I", Cond.methodLink RX3 118 yX3_beginSpeaking, Cond.instanceMethod yX3_beginSpeaking, Cond.selects RX3 yX3_beginSpeaking yX3_beginSpeaking, Cond.code yX3_beginSpeaking cX3_beginSpeaking 5 none, Cond.fieldLink RX3 11 "MainsWords$Net" "senders" "[LMainsWords$Sender;", Cond.fieldLink RX3 89 "MainsWords$Sender" "isPresent" "Z", Cond.sameField "MainsWords$Sender" "MainsWords$Thing" "isPresent" "Z", Cond.fieldLink RX3 130 "MainsWords$Sender" "wire" "I", Cond.sameField "MainsWords$Sender" "MainsWords$Thing" "wire" "I", Cond.methodLink RX3 133 yX3_isQuietOn, Cond.instanceMethod yX3_isQuietOn, Cond.selects RX3 yX3_isQuietOn yX3_isQuietOn, Cond.code yX3_isQuietOn cX3_isQuietOn 2 (some .boolean), Cond.fieldLink RX3 31 "MainsWords$Net" "receivers" "[LMainsWords$Receiver;", Cond.methodLink RX3 140 yX4_isQuiet, Cond.instanceMethod yX4_isQuiet, Cond.selects RX4 yX4_isQuiet yX4_isQuiet, Cond.initialized RX4]
def wsX3_letPass_r2 : List Cond := [Cond.code yX4_isQuiet cX4_isQuiet 1 (some .boolean), Cond.fieldLink RX4 9 "MainsWords$Receiver" "reads" "Z", Cond.fieldLink RX4 15 "MainsWords$Receiver" "latestBits" "I", Cond.methodLink RX3 136 yX6_beginOrWait, Cond.instanceMethod yX6_beginOrWait, Cond.selects RX6 yX6_beginOrWait yX6_beginOrWait, Cond.initialized RX6, Cond.code yX6_beginOrWait cX6_beginOrWait 2 none, Cond.fieldLink RX6 22 "MainsWords$Sender" "speaks" "Z", Cond.fieldLink RX6 32 "MainsWords$Sender" "pause" "I", Cond.fieldLink RX6 15 "MainsWords$Sender" "queueLength" "I", Cond.fieldLink RX6 26 "MainsWords$Sender" "copy" "I", Cond.fieldLink RX6 29 "MainsWords$Sender" "place" "I", Cond.methodLink RX3 121 yX3_carryBits, Cond.instanceMethod yX3_carryBits, Cond.selects RX3 yX3_carryBits yX3_carryBits, Cond.code yX3_carryBits cX3_carryBits 5 none, Cond.fieldLink RX3 46 "MainsWords$Net" "heard" "[Z", Cond.fieldLink RX3 146 "MainsWords$Sender" "strength" "I", Cond.fieldLink RX3 19 "MainsWords$Net" "machines" "[LMainsWords$Machine;", Cond.fieldLink RX3 156 "MainsWords$Machine" "wire" "I", Cond.sameField "MainsWords$Machine" "MainsWords$Thing" "wire" "I", Cond.fieldLink RX3 157 "MainsWords$Machine" "strength" "I", Cond.methodLink RX3 81 yX6_isSpeaking]
def wsX3_letPass_r3 : List Cond := [Cond.instanceMethod yX6_isSpeaking, Cond.selects RX6 yX6_isSpeaking yX6_isSpeaking, Cond.code yX6_isSpeaking cX6_isSpeaking 1 (some .boolean), Cond.fieldLink RX6 35 "MainsWords$Sender" "isPresent" "Z", Cond.methodLink RX3 143 yX6_bitToSend, Cond.instanceMethod yX6_bitToSend, Cond.selects RX6 yX6_bitToSend yX6_bitToSend, Cond.code yX6_bitToSend cX6_bitToSend 1 (some .int), Cond.fieldLink RX6 9 "MainsWords$Sender" "queue" "[I", Cond.static yX8_frameBit, Cond.initialized RX8, Cond.code yX8_frameBit cX8_frameBit 4 (some .int), Cond.methodLink RX3 149 yX3_spreadOne, Cond.instanceMethod yX3_spreadOne, Cond.selects RX3 yX3_spreadOne yX3_spreadOne, Cond.code yX3_spreadOne cX3_spreadOne 4 none, Cond.fieldLink RX3 35 "MainsWords$Net" "settings" "[I", Cond.methodLink RX3 158 yX3_lossBetween, Cond.instanceMethod yX3_lossBetween, Cond.selects RX3 yX3_lossBetween yX3_lossBetween, Cond.code yX3_lossBetween cX3_lossBetween 5 (some .int), Cond.methodLink RX3 153 yX2_makesNoiseAt, Cond.instanceMethod yX2_makesNoiseAt, Cond.selects RX2 yX2_makesNoiseAt yX2_makesNoiseAt]
def wsX3_letPass_r4 : List Cond := [Cond.initialized RX2, Cond.code yX2_makesNoiseAt cX2_makesNoiseAt 2 (some .boolean), Cond.fieldLink RX2 22 "MainsWords$Machine" "isPresent" "Z", Cond.sameField "MainsWords$Machine" "MainsWords$Thing" "isPresent" "Z", Cond.fieldLink RX2 18 "MainsWords$Machine" "isOn" "Z", Cond.fieldLink RX2 15 "MainsWords$Machine" "period" "I", Cond.methodLink RX3 124 yX3_moveSenders, Cond.instanceMethod yX3_moveSenders, Cond.selects RX3 yX3_moveSenders yX3_moveSenders, Cond.code yX3_moveSenders cX3_moveSenders 5 none, Cond.fieldLink RX3 39 "MainsWords$Net" "totals" "[I", Cond.methodLink RX3 162 yX3_isHeardOn, Cond.instanceMethod yX3_isHeardOn, Cond.selects RX3 yX3_isHeardOn yX3_isHeardOn, Cond.code yX3_isHeardOn cX3_isHeardOn 2 (some .boolean), Cond.methodLink RX3 165 yX6_isDisturbedBy, Cond.instanceMethod yX6_isDisturbedBy, Cond.selects RX6 yX6_isDisturbedBy yX6_isDisturbedBy, Cond.code yX6_isDisturbedBy cX6_isDisturbedBy 2 (some .boolean), Cond.methodLink RX6 53 yX6_bitToSend, Cond.methodLink RX3 169 yX6_giveWay, Cond.instanceMethod yX6_giveWay, Cond.selects RX6 yX6_giveWay yX6_giveWay, Cond.code yX6_giveWay cX6_giveWay 1 none]
def wsX3_letPass_r5 : List Cond := [Cond.fieldLink RX6 57 "MainsWords$Sender" "number" "I", Cond.sameField "MainsWords$Sender" "MainsWords$Thing" "number" "I", Cond.methodLink RX3 172 yX6_goOn, Cond.instanceMethod yX6_goOn, Cond.selects RX6 yX6_goOn yX6_goOn, Cond.code yX6_goOn cX6_goOn 2 (some .boolean), Cond.methodLink RX6 60 yX6_dropFirstWord, Cond.instanceMethod yX6_dropFirstWord, Cond.selects RX6 yX6_dropFirstWord yX6_dropFirstWord, Cond.code yX6_dropFirstWord cX6_dropFirstWord 2 none, Cond.methodLink RX3 127 yX3_takeBits, Cond.instanceMethod yX3_takeBits, Cond.selects RX3 yX3_takeBits yX3_takeBits, Cond.code yX3_takeBits cX3_takeBits 4 (some .int), Cond.static yX8_asNumber, Cond.code yX8_asNumber cX8_asNumber 1 (some .int), Cond.methodLink RX3 175 yX4_take, Cond.instanceMethod yX4_take, Cond.selects RX4 yX4_take yX4_take, Cond.code yX4_take cX4_take 2 (some .int), Cond.methodLink RX4 34 yX4_read, Cond.instanceMethod yX4_read, Cond.selects RX4 yX4_read yX4_read, Cond.code yX4_read cX4_read 2 (some .int)]
def wsX3_letPass_r6 : List Cond := [Cond.fieldLink RX4 19 "MainsWords$Receiver" "bitsRead" "I", Cond.fieldLink RX4 22 "MainsWords$Receiver" "wordSoFar" "I", Cond.methodLink RX4 41 yX4_listenAnew, Cond.instanceMethod yX4_listenAnew, Cond.selects RX4 yX4_listenAnew yX4_listenAnew, Cond.code yX4_listenAnew cX4_listenAnew 1 none, Cond.methodLink RX4 38 yX4_listen, Cond.instanceMethod yX4_listen, Cond.selects RX4 yX4_listen yX4_listen, Cond.code yX4_listen cX4_listen 2 (some .int), Cond.methodLink RX3 179 yX3_hearWord, Cond.instanceMethod yX3_hearWord, Cond.selects RX3 yX3_hearWord yX3_hearWord, Cond.code yX3_hearWord cX3_hearWord 10 (some .int), Cond.fieldLink RX3 25 "MainsWords$Net" "lamps" "[LMainsWords$Lamp;", Cond.methodLink RX3 183 yX4_tell, Cond.instanceMethod yX4_tell, Cond.selects RX4 yX4_tell yX4_tell, Cond.code yX4_tell cX4_tell 4 (some .boolean), Cond.fieldLink RX4 25 "MainsWords$Receiver" "lastWord" "I", Cond.fieldLink RX4 28 "MainsWords$Receiver" "toldAt" "I", Cond.methodLink RX3 187 yX1_isCalledBy, Cond.instanceMethod yX1_isCalledBy, Cond.selects RX1 yX1_isCalledBy yX1_isCalledBy]
def wsX3_letPass_r7 : List Cond := [Cond.initialized RX1, Cond.code yX1_isCalledBy cX1_isCalledBy 3 (some .boolean), Cond.fieldLink RX1 25 "MainsWords$Lamp" "isPresent" "Z", Cond.sameField "MainsWords$Lamp" "MainsWords$Thing" "isPresent" "Z", Cond.fieldLink RX1 28 "MainsWords$Lamp" "wire" "I", Cond.sameField "MainsWords$Lamp" "MainsWords$Thing" "wire" "I", Cond.fieldLink RX1 9 "MainsWords$Lamp" "letter" "I", Cond.methodLink RX3 190 yX4_isOpen, Cond.instanceMethod yX4_isOpen, Cond.selects RX4 yX4_isOpen yX4_isOpen, Cond.code yX4_isOpen cX4_isOpen 2 (some .boolean), Cond.fieldLink RX4 31 "MainsWords$Receiver" "openLetters" "I", Cond.methodLink RX3 193 yX1_obey, Cond.instanceMethod yX1_obey, Cond.selects RX1 yX1_obey yX1_obey, Cond.code yX1_obey cX1_obey 3 none, Cond.fieldLink RX1 15 "MainsWords$Lamp" "unit" "I", Cond.fieldLink RX1 21 "MainsWords$Lamp" "isSelected" "Z", Cond.fieldLink RX1 18 "MainsWords$Lamp" "level" "I", Cond.methodLink RX1 35 yX1_levelBy, Cond.instanceMethod yX1_levelBy, Cond.selects RX1 yX1_levelBy yX1_levelBy, Cond.code yX1_levelBy cX1_levelBy 2 (some .int), Cond.methodLink RX3 197 yX4_setOpen]
def wsX3_letPass_r8 : List Cond := [Cond.instanceMethod yX4_setOpen, Cond.selects RX4 yX4_setOpen yX4_setOpen, Cond.code yX4_setOpen cX4_setOpen 3 none]
def wsX3_letPass : List Cond := .code yX3_letPass cX3_letPass 4 (some .int) :: ((wsX3_letPass_r1 ++ (wsX3_letPass_r2 ++ (wsX3_letPass_r3 ++ (wsX3_letPass_r4 ++ (wsX3_letPass_r5 ++ (wsX3_letPass_r6 ++ (wsX3_letPass_r7 ++ wsX3_letPass_r8))))))) ++ wsX30 ++ wsX10 ++ wsX20 ++ wsX60 ++ wsX40)
def wsX5_init : List Cond := .code yX5_init cX5_init 1 none :: ([.methodLink RX5 3 objectInit, .instanceMethod objectInit, .code objectInit ⟨#[0xb1]⟩ 1 none, .arrayClass .int, .fieldLink RX5 9 "MainsWords$Script" "signs" "[I", .fieldLink RX5 15 "MainsWords$Script" "length" "I"] ++ wsX50)
def wsX5_isFull : List Cond := .code yX5_isFull cX5_isFull 1 (some .boolean) :: ([.fieldLink RX5 15 "MainsWords$Script" "length" "I", .fieldLink RX5 9 "MainsWords$Script" "signs" "[I"] ++ wsX50)
def wsX5_add : List Cond := .code yX5_add cX5_add 2 none :: ([.fieldLink RX5 15 "MainsWords$Script" "length" "I", .fieldLink RX5 9 "MainsWords$Script" "signs" "[I"] ++ wsX50)
def wsX5_signAt : List Cond := .code yX5_signAt cX5_signAt 2 (some .int) :: ([.fieldLink RX5 15 "MainsWords$Script" "length" "I", .fieldLink RX5 9 "MainsWords$Script" "signs" "[I"] ++ wsX50)
def wsX5_isDigit : List Cond := .code yX5_isDigit cX5_isDigit 1 (some .boolean) :: ([])
def wsX5_isSenderDigit : List Cond := .code yX5_isSenderDigit cX5_isSenderDigit 1 (some .boolean) :: ([.methodLink RX5 37 yX5_isDigit, .static yX5_isDigit, .initialized RX5, .code yX5_isDigit cX5_isDigit 1 (some .boolean)])
def wsX5_isLetter : List Cond := .code yX5_isLetter cX5_isLetter 1 (some .boolean) :: ([])
def wsX5_codeOf : List Cond := .code yX5_codeOf cX5_codeOf 1 (some .int) :: ([])
def wsX5_next : List Cond := .code yX5_next cX5_next 2 (some .int) :: ([.methodLink RX5 27 yX5_isSenderDigit, .static yX5_isSenderDigit, .initialized RX5, .code yX5_isSenderDigit cX5_isSenderDigit 1 (some .boolean), .methodLink RX5 37 yX5_isDigit, .static yX5_isDigit, .code yX5_isDigit cX5_isDigit 1 (some .boolean), .methodLink RX5 31 yX5_isLetter, .static yX5_isLetter, .code yX5_isLetter cX5_isLetter 1 (some .boolean), .methodLink RX5 34 yX5_codeOf, .static yX5_codeOf, .code yX5_codeOf cX5_codeOf 1 (some .int)])
def wsX5_firstFault : List Cond := .code yX5_firstFault cX5_firstFault 3 (some .int) :: ([.fieldLink RX5 15 "MainsWords$Script" "length" "I", .methodLink RX5 19 yX5_signAt, .instanceMethod yX5_signAt, .selects RX5 yX5_signAt yX5_signAt, .initialized RX5, .code yX5_signAt cX5_signAt 2 (some .int), .fieldLink RX5 9 "MainsWords$Script" "signs" "[I", .methodLink RX5 23 yX5_next, .static yX5_next, .code yX5_next cX5_next 2 (some .int), .methodLink RX5 27 yX5_isSenderDigit, .static yX5_isSenderDigit, .code yX5_isSenderDigit cX5_isSenderDigit 1 (some .boolean), .methodLink RX5 37 yX5_isDigit, .static yX5_isDigit, .code yX5_isDigit cX5_isDigit 1 (some .boolean), .methodLink RX5 31 yX5_isLetter, .static yX5_isLetter, .code yX5_isLetter cX5_isLetter 1 (some .boolean), .methodLink RX5 34 yX5_codeOf, .static yX5_codeOf, .code yX5_codeOf cX5_codeOf 1 (some .int)] ++ wsX50)
def wsX5_wordOf : List Cond := .code yX5_wordOf cX5_wordOf 2 (some .int) :: ([.methodLink RX5 34 yX5_codeOf, .static yX5_codeOf, .initialized RX5, .code yX5_codeOf cX5_codeOf 1 (some .int)])
def wsX5_beatsBehind : List Cond := .code yX5_beatsBehind cX5_beatsBehind 4 (some .int) :: ([.methodLink RX5 19 yX5_signAt, .instanceMethod yX5_signAt, .selects RX5 yX5_signAt yX5_signAt, .initialized RX5, .code yX5_signAt cX5_signAt 2 (some .int), .fieldLink RX5 15 "MainsWords$Script" "length" "I", .fieldLink RX5 9 "MainsWords$Script" "signs" "[I", .methodLink RX5 37 yX5_isDigit, .static yX5_isDigit, .code yX5_isDigit cX5_isDigit 1 (some .boolean)] ++ wsX50)
def wsX6_put : List Cond := .code yX6_put cX6_put 3 none :: ([.fieldLink RX6 35 "MainsWords$Sender" "isPresent" "Z", .sameField "MainsWords$Sender" "MainsWords$Thing" "isPresent" "Z", .fieldLink RX6 38 "MainsWords$Sender" "wire" "I", .sameField "MainsWords$Sender" "MainsWords$Thing" "wire" "I", .fieldLink RX6 19 "MainsWords$Sender" "strength" "I", .fieldLink RX6 15 "MainsWords$Sender" "queueLength" "I", .fieldLink RX6 22 "MainsWords$Sender" "speaks" "Z", .fieldLink RX6 26 "MainsWords$Sender" "copy" "I", .fieldLink RX6 29 "MainsWords$Sender" "place" "I", .fieldLink RX6 32 "MainsWords$Sender" "pause" "I"] ++ wsX10 ++ wsX20 ++ wsX60)
def wsX6_wordAt : List Cond := .code yX6_wordAt cX6_wordAt 2 (some .int) :: ([.fieldLink RX6 15 "MainsWords$Sender" "queueLength" "I", .fieldLink RX6 9 "MainsWords$Sender" "queue" "[I"] ++ wsX60)
def wsX8_init_r1 : List Cond := [Cond.methodLink RX8 1 objectInit, Cond.instanceMethod objectInit, Cond.code objectInit ⟨#[0xb1]⟩ 1 none, Cond.classLink RX8 7 RX3, Cond.instantiable RX3 8, Cond.initialized RX3, Cond.fieldLink RX8 10 "MainsWords" "now" "LMainsWords$Net;", Cond.fieldLink RX8 16 "MainsWords" "ahead" "LMainsWords$Net;", Cond.fieldLink RX8 19 "MainsWords" "snapshot" "LMainsWords$Net;", Cond.fieldLink RX8 22 "MainsWords" "hasSnapshot" "Z", Cond.classLink RX8 26 RX0, Cond.instantiable RX0 2, Cond.initialized RX0, Cond.fieldLink RX8 29 "MainsWords" "history" "LMainsWords$History;", Cond.classLink RX8 33 RX5, Cond.instantiable RX5 2, Cond.initialized RX5, Cond.fieldLink RX8 36 "MainsWords" "script" "LMainsWords$Script;", Cond.methodLink RX8 9 yX3_init, Cond.instanceMethod yX3_init, Cond.code yX3_init cX3_init 2 none, Cond.methodLink RX3 3 objectInit, Cond.classLink RX3 9 RX6, Cond.fieldLink RX3 11 "MainsWords$Net" "senders" "[LMainsWords$Sender;"]
def wsX8_init_r2 : List Cond := [Cond.classLink RX3 17 RX2, Cond.fieldLink RX3 19 "MainsWords$Net" "machines" "[LMainsWords$Machine;", Cond.classLink RX3 23 RX1, Cond.fieldLink RX3 25 "MainsWords$Net" "lamps" "[LMainsWords$Lamp;", Cond.classLink RX3 29 RX4, Cond.fieldLink RX3 31 "MainsWords$Net" "receivers" "[LMainsWords$Receiver;", Cond.arrayClass .int, Cond.fieldLink RX3 35 "MainsWords$Net" "settings" "[I", Cond.fieldLink RX3 39 "MainsWords$Net" "totals" "[I", Cond.fieldLink RX3 42 "MainsWords$Net" "time" "I", Cond.arrayClass .boolean, Cond.fieldLink RX3 46 "MainsWords$Net" "heard" "[Z", Cond.instantiable RX6 10, Cond.initialized RX6, Cond.instantiable RX2 6, Cond.initialized RX2, Cond.instantiable RX1 7, Cond.initialized RX1, Cond.instantiable RX4 7, Cond.initialized RX4, Cond.methodLink RX3 50 yX6_init, Cond.instanceMethod yX6_init, Cond.code yX6_init cX6_init 2 none, Cond.fieldLink RX6 9 "MainsWords$Sender" "queue" "[I"]
def wsX8_init_r3 : List Cond := [Cond.fieldLink RX6 15 "MainsWords$Sender" "queueLength" "I", Cond.fieldLink RX6 19 "MainsWords$Sender" "strength" "I", Cond.fieldLink RX6 22 "MainsWords$Sender" "speaks" "Z", Cond.fieldLink RX6 26 "MainsWords$Sender" "copy" "I", Cond.fieldLink RX6 29 "MainsWords$Sender" "place" "I", Cond.fieldLink RX6 32 "MainsWords$Sender" "pause" "I", Cond.methodLink RX6 3 yX7_init, Cond.instanceMethod yX7_init, Cond.initialized RX7, Cond.code yX7_init cX7_init 2 none, Cond.methodLink RX7 1 objectInit, Cond.fieldLink RX7 7 "MainsWords$Thing" "isPresent" "Z", Cond.fieldLink RX7 13 "MainsWords$Thing" "wire" "I", Cond.fieldLink RX7 17 "MainsWords$Thing" "number" "I", Cond.methodLink RX3 53 yX2_init, Cond.instanceMethod yX2_init, Cond.code yX2_init cX2_init 2 none, Cond.fieldLink RX2 9 "MainsWords$Machine" "strength" "I", Cond.fieldLink RX2 15 "MainsWords$Machine" "period" "I", Cond.fieldLink RX2 18 "MainsWords$Machine" "isOn" "Z", Cond.methodLink RX2 3 yX7_init, Cond.methodLink RX3 54 yX1_init, Cond.instanceMethod yX1_init, Cond.code yX1_init cX1_init 2 none]
def wsX8_init_r4 : List Cond := [Cond.fieldLink RX1 9 "MainsWords$Lamp" "letter" "I", Cond.fieldLink RX1 15 "MainsWords$Lamp" "unit" "I", Cond.fieldLink RX1 18 "MainsWords$Lamp" "level" "I", Cond.fieldLink RX1 21 "MainsWords$Lamp" "isSelected" "Z", Cond.methodLink RX1 3 yX7_init, Cond.instanceMethod yX4_init, Cond.code yX4_init cX4_init 1 none, Cond.methodLink RX4 3 objectInit, Cond.fieldLink RX4 9 "MainsWords$Receiver" "reads" "Z", Cond.fieldLink RX4 15 "MainsWords$Receiver" "latestBits" "I", Cond.fieldLink RX4 19 "MainsWords$Receiver" "bitsRead" "I", Cond.fieldLink RX4 22 "MainsWords$Receiver" "wordSoFar" "I", Cond.fieldLink RX4 25 "MainsWords$Receiver" "lastWord" "I", Cond.fieldLink RX4 28 "MainsWords$Receiver" "toldAt" "I", Cond.fieldLink RX4 31 "MainsWords$Receiver" "openLetters" "I", Cond.methodLink RX8 28 yX0_init, Cond.instanceMethod yX0_init, Cond.code yX0_init cX0_init 2 none, Cond.methodLink RX0 3 objectInit, Cond.classLink RX0 9 RX3, Cond.fieldLink RX0 11 "MainsWords$History" "states" "[LMainsWords$Net;", Cond.fieldLink RX0 17 "MainsWords$History" "kept" "I", Cond.methodLink RX0 21 yX3_init, Cond.instanceMethod yX5_init]
def wsX8_init_r5 : List Cond := [Cond.code yX5_init cX5_init 1 none, Cond.methodLink RX5 3 objectInit, Cond.fieldLink RX5 9 "MainsWords$Script" "signs" "[I", Cond.fieldLink RX5 15 "MainsWords$Script" "length" "I"]
def wsX8_init : List Cond := .code yX8_init cX8_init 1 none :: ((wsX8_init_r1 ++ (wsX8_init_r2 ++ (wsX8_init_r3 ++ (wsX8_init_r4 ++ wsX8_init_r5)))) ++ wsX30 ++ wsX80 ++ wsX00 ++ wsX50 ++ wsX60 ++ wsX20 ++ wsX10 ++ wsX40)
def wsX8_isWire : List Cond := .code yX8_isWire cX8_isWire 1 (some .boolean) :: ([])
def wsX8_sender_r1 : List Cond := [Cond.fieldLink RX8 10 "MainsWords" "now" "LMainsWords$Net;", Cond.fieldLink RX8 29 "MainsWords" "history" "LMainsWords$History;", Cond.fieldLink RX8 58 "MainsWords$Sender" "number" "I", Cond.sameField "MainsWords$Sender" "MainsWords$Thing" "number" "I", Cond.methodLink RX8 40 yX8_isWire, Cond.static yX8_isWire, Cond.initialized RX8, Cond.code yX8_isWire cX8_isWire 1 (some .boolean), Cond.methodLink RX8 44 yX3_freeSender, Cond.instanceMethod yX3_freeSender, Cond.selects RX3 yX3_freeSender yX3_freeSender, Cond.initialized RX3, Cond.code yX3_freeSender cX3_freeSender 3 (some (.object "MainsWords$Sender")), Cond.fieldLink RX3 11 "MainsWords$Net" "senders" "[LMainsWords$Sender;", Cond.classLink RX3 9 "MainsWords$Sender", Cond.static yX8_firstFree, Cond.code yX8_firstFree cX8_firstFree 5 (some (.object "MainsWords$Thing")), Cond.fieldLink RX8 88 "MainsWords$Thing" "isPresent" "Z", Cond.methodLink RX8 48 yX0_keep, Cond.instanceMethod yX0_keep, Cond.selects RX0 yX0_keep yX0_keep, Cond.initialized RX0, Cond.code yX0_keep cX0_keep 2 none, Cond.fieldLink RX0 17 "MainsWords$History" "kept" "I"]
def wsX8_sender_r2 : List Cond := [Cond.fieldLink RX0 11 "MainsWords$History" "states" "[LMainsWords$Net;", Cond.methodLink RX0 22 yX0_dropOldest, Cond.instanceMethod yX0_dropOldest, Cond.selects RX0 yX0_dropOldest yX0_dropOldest, Cond.code yX0_dropOldest cX0_dropOldest 3 none, Cond.methodLink RX0 25 yX3_copyFrom, Cond.instanceMethod yX3_copyFrom, Cond.selects RX3 yX3_copyFrom yX3_copyFrom, Cond.code yX3_copyFrom cX3_copyFrom 3 none, Cond.fieldLink RX3 19 "MainsWords$Net" "machines" "[LMainsWords$Machine;", Cond.fieldLink RX3 25 "MainsWords$Net" "lamps" "[LMainsWords$Lamp;", Cond.fieldLink RX3 31 "MainsWords$Net" "receivers" "[LMainsWords$Receiver;", Cond.fieldLink RX3 35 "MainsWords$Net" "settings" "[I", Cond.fieldLink RX3 39 "MainsWords$Net" "totals" "[I", Cond.fieldLink RX3 42 "MainsWords$Net" "time" "I", Cond.methodLink RX3 56 yX6_copyFrom, Cond.instanceMethod yX6_copyFrom, Cond.selects RX6 yX6_copyFrom yX6_copyFrom, Cond.initialized RX6, Cond.code yX6_copyFrom cX6_copyFrom 2 none, Cond.fieldLink RX6 9 "MainsWords$Sender" "queue" "[I", Cond.fieldLink RX6 15 "MainsWords$Sender" "queueLength" "I", Cond.fieldLink RX6 19 "MainsWords$Sender" "strength" "I", Cond.fieldLink RX6 22 "MainsWords$Sender" "speaks" "Z"]
def wsX8_sender_r3 : List Cond := [Cond.fieldLink RX6 26 "MainsWords$Sender" "copy" "I", Cond.fieldLink RX6 29 "MainsWords$Sender" "place" "I", Cond.fieldLink RX6 32 "MainsWords$Sender" "pause" "I", Cond.methodLink RX6 41 ⟨"MainsWords$Sender", "copyThing", "(LMainsWords$Thing;)V"⟩, Cond.sameMethod "MainsWords$Sender" "MainsWords$Thing" "copyThing" "(LMainsWords$Thing;)V", Cond.selects RX6 ⟨"MainsWords$Sender", "copyThing", "(LMainsWords$Thing;)V"⟩ yX7_copyThing, Cond.instanceMethod yX7_copyThing, Cond.initialized RX7, Cond.code yX7_copyThing cX7_copyThing 2 none, Cond.fieldLink RX7 7 "MainsWords$Thing" "isPresent" "Z", Cond.fieldLink RX7 13 "MainsWords$Thing" "wire" "I", Cond.static yX8_copyRow, Cond.code yX8_copyRow cX8_copyRow 3 none, Cond.methodLink RX3 60 yX2_copyFrom, Cond.instanceMethod yX2_copyFrom, Cond.selects RX2 yX2_copyFrom yX2_copyFrom, Cond.initialized RX2, Cond.code yX2_copyFrom cX2_copyFrom 2 none, Cond.fieldLink RX2 9 "MainsWords$Machine" "strength" "I", Cond.fieldLink RX2 15 "MainsWords$Machine" "period" "I", Cond.fieldLink RX2 18 "MainsWords$Machine" "isOn" "Z", Cond.methodLink RX2 28 ⟨"MainsWords$Machine", "copyThing", "(LMainsWords$Thing;)V"⟩, Cond.sameMethod "MainsWords$Machine" "MainsWords$Thing" "copyThing" "(LMainsWords$Thing;)V", Cond.selects RX2 ⟨"MainsWords$Machine", "copyThing", "(LMainsWords$Thing;)V"⟩ yX7_copyThing]
def wsX8_sender_r4 : List Cond := [Cond.methodLink RX3 63 yX1_copyFrom, Cond.instanceMethod yX1_copyFrom, Cond.selects RX1 yX1_copyFrom yX1_copyFrom, Cond.initialized RX1, Cond.code yX1_copyFrom cX1_copyFrom 2 none, Cond.fieldLink RX1 9 "MainsWords$Lamp" "letter" "I", Cond.fieldLink RX1 15 "MainsWords$Lamp" "unit" "I", Cond.fieldLink RX1 18 "MainsWords$Lamp" "level" "I", Cond.fieldLink RX1 21 "MainsWords$Lamp" "isSelected" "Z", Cond.methodLink RX1 31 ⟨"MainsWords$Lamp", "copyThing", "(LMainsWords$Thing;)V"⟩, Cond.sameMethod "MainsWords$Lamp" "MainsWords$Thing" "copyThing" "(LMainsWords$Thing;)V", Cond.selects RX1 ⟨"MainsWords$Lamp", "copyThing", "(LMainsWords$Thing;)V"⟩ yX7_copyThing, Cond.methodLink RX3 66 yX4_copyFrom, Cond.instanceMethod yX4_copyFrom, Cond.selects RX4 yX4_copyFrom yX4_copyFrom, Cond.initialized RX4, Cond.code yX4_copyFrom cX4_copyFrom 2 none, Cond.fieldLink RX4 9 "MainsWords$Receiver" "reads" "Z", Cond.fieldLink RX4 15 "MainsWords$Receiver" "latestBits" "I", Cond.fieldLink RX4 19 "MainsWords$Receiver" "bitsRead" "I", Cond.fieldLink RX4 22 "MainsWords$Receiver" "wordSoFar" "I", Cond.fieldLink RX4 25 "MainsWords$Receiver" "lastWord" "I", Cond.fieldLink RX4 28 "MainsWords$Receiver" "toldAt" "I", Cond.fieldLink RX4 31 "MainsWords$Receiver" "openLetters" "I"]
def wsX8_sender_r5 : List Cond := [Cond.methodLink RX8 52 yX6_put, Cond.instanceMethod yX6_put, Cond.selects RX6 yX6_put yX6_put, Cond.code yX6_put cX6_put 3 none, Cond.fieldLink RX6 35 "MainsWords$Sender" "isPresent" "Z", Cond.sameField "MainsWords$Sender" "MainsWords$Thing" "isPresent" "Z", Cond.fieldLink RX6 38 "MainsWords$Sender" "wire" "I", Cond.sameField "MainsWords$Sender" "MainsWords$Thing" "wire" "I"]
def wsX8_sender : List Cond := .code yX8_sender cX8_sender 4 (some .int) :: ((wsX8_sender_r1 ++ (wsX8_sender_r2 ++ (wsX8_sender_r3 ++ (wsX8_sender_r4 ++ wsX8_sender_r5)))) ++ wsX80 ++ wsX10 ++ wsX20 ++ wsX60 ++ wsX30 ++ wsX00 ++ wsX40)
def wsX8_machine_r1 : List Cond := [Cond.fieldLink RX8 10 "MainsWords" "now" "LMainsWords$Net;", Cond.fieldLink RX8 29 "MainsWords" "history" "LMainsWords$History;", Cond.fieldLink RX8 71 "MainsWords$Machine" "number" "I", Cond.sameField "MainsWords$Machine" "MainsWords$Thing" "number" "I", Cond.methodLink RX8 40 yX8_isWire, Cond.static yX8_isWire, Cond.initialized RX8, Cond.code yX8_isWire cX8_isWire 1 (some .boolean), Cond.methodLink RX8 62 yX3_freeMachine, Cond.instanceMethod yX3_freeMachine, Cond.selects RX3 yX3_freeMachine yX3_freeMachine, Cond.initialized RX3, Cond.code yX3_freeMachine cX3_freeMachine 3 (some (.object "MainsWords$Machine")), Cond.fieldLink RX3 19 "MainsWords$Net" "machines" "[LMainsWords$Machine;", Cond.classLink RX3 17 "MainsWords$Machine", Cond.static yX8_firstFree, Cond.code yX8_firstFree cX8_firstFree 5 (some (.object "MainsWords$Thing")), Cond.fieldLink RX8 88 "MainsWords$Thing" "isPresent" "Z", Cond.methodLink RX8 48 yX0_keep, Cond.instanceMethod yX0_keep, Cond.selects RX0 yX0_keep yX0_keep, Cond.initialized RX0, Cond.code yX0_keep cX0_keep 2 none, Cond.fieldLink RX0 17 "MainsWords$History" "kept" "I"]
def wsX8_machine_r2 : List Cond := [Cond.fieldLink RX0 11 "MainsWords$History" "states" "[LMainsWords$Net;", Cond.methodLink RX0 22 yX0_dropOldest, Cond.instanceMethod yX0_dropOldest, Cond.selects RX0 yX0_dropOldest yX0_dropOldest, Cond.code yX0_dropOldest cX0_dropOldest 3 none, Cond.methodLink RX0 25 yX3_copyFrom, Cond.instanceMethod yX3_copyFrom, Cond.selects RX3 yX3_copyFrom yX3_copyFrom, Cond.code yX3_copyFrom cX3_copyFrom 3 none, Cond.fieldLink RX3 11 "MainsWords$Net" "senders" "[LMainsWords$Sender;", Cond.fieldLink RX3 25 "MainsWords$Net" "lamps" "[LMainsWords$Lamp;", Cond.fieldLink RX3 31 "MainsWords$Net" "receivers" "[LMainsWords$Receiver;", Cond.fieldLink RX3 35 "MainsWords$Net" "settings" "[I", Cond.fieldLink RX3 39 "MainsWords$Net" "totals" "[I", Cond.fieldLink RX3 42 "MainsWords$Net" "time" "I", Cond.methodLink RX3 56 yX6_copyFrom, Cond.instanceMethod yX6_copyFrom, Cond.selects RX6 yX6_copyFrom yX6_copyFrom, Cond.initialized RX6, Cond.code yX6_copyFrom cX6_copyFrom 2 none, Cond.fieldLink RX6 9 "MainsWords$Sender" "queue" "[I", Cond.fieldLink RX6 15 "MainsWords$Sender" "queueLength" "I", Cond.fieldLink RX6 19 "MainsWords$Sender" "strength" "I", Cond.fieldLink RX6 22 "MainsWords$Sender" "speaks" "Z"]
def wsX8_machine_r3 : List Cond := [Cond.fieldLink RX6 26 "MainsWords$Sender" "copy" "I", Cond.fieldLink RX6 29 "MainsWords$Sender" "place" "I", Cond.fieldLink RX6 32 "MainsWords$Sender" "pause" "I", Cond.methodLink RX6 41 ⟨"MainsWords$Sender", "copyThing", "(LMainsWords$Thing;)V"⟩, Cond.sameMethod "MainsWords$Sender" "MainsWords$Thing" "copyThing" "(LMainsWords$Thing;)V", Cond.selects RX6 ⟨"MainsWords$Sender", "copyThing", "(LMainsWords$Thing;)V"⟩ yX7_copyThing, Cond.instanceMethod yX7_copyThing, Cond.initialized RX7, Cond.code yX7_copyThing cX7_copyThing 2 none, Cond.fieldLink RX7 7 "MainsWords$Thing" "isPresent" "Z", Cond.fieldLink RX7 13 "MainsWords$Thing" "wire" "I", Cond.static yX8_copyRow, Cond.code yX8_copyRow cX8_copyRow 3 none, Cond.methodLink RX3 60 yX2_copyFrom, Cond.instanceMethod yX2_copyFrom, Cond.selects RX2 yX2_copyFrom yX2_copyFrom, Cond.initialized RX2, Cond.code yX2_copyFrom cX2_copyFrom 2 none, Cond.fieldLink RX2 9 "MainsWords$Machine" "strength" "I", Cond.fieldLink RX2 15 "MainsWords$Machine" "period" "I", Cond.fieldLink RX2 18 "MainsWords$Machine" "isOn" "Z", Cond.methodLink RX2 28 ⟨"MainsWords$Machine", "copyThing", "(LMainsWords$Thing;)V"⟩, Cond.sameMethod "MainsWords$Machine" "MainsWords$Thing" "copyThing" "(LMainsWords$Thing;)V", Cond.selects RX2 ⟨"MainsWords$Machine", "copyThing", "(LMainsWords$Thing;)V"⟩ yX7_copyThing]
def wsX8_machine_r4 : List Cond := [Cond.methodLink RX3 63 yX1_copyFrom, Cond.instanceMethod yX1_copyFrom, Cond.selects RX1 yX1_copyFrom yX1_copyFrom, Cond.initialized RX1, Cond.code yX1_copyFrom cX1_copyFrom 2 none, Cond.fieldLink RX1 9 "MainsWords$Lamp" "letter" "I", Cond.fieldLink RX1 15 "MainsWords$Lamp" "unit" "I", Cond.fieldLink RX1 18 "MainsWords$Lamp" "level" "I", Cond.fieldLink RX1 21 "MainsWords$Lamp" "isSelected" "Z", Cond.methodLink RX1 31 ⟨"MainsWords$Lamp", "copyThing", "(LMainsWords$Thing;)V"⟩, Cond.sameMethod "MainsWords$Lamp" "MainsWords$Thing" "copyThing" "(LMainsWords$Thing;)V", Cond.selects RX1 ⟨"MainsWords$Lamp", "copyThing", "(LMainsWords$Thing;)V"⟩ yX7_copyThing, Cond.methodLink RX3 66 yX4_copyFrom, Cond.instanceMethod yX4_copyFrom, Cond.selects RX4 yX4_copyFrom yX4_copyFrom, Cond.initialized RX4, Cond.code yX4_copyFrom cX4_copyFrom 2 none, Cond.fieldLink RX4 9 "MainsWords$Receiver" "reads" "Z", Cond.fieldLink RX4 15 "MainsWords$Receiver" "latestBits" "I", Cond.fieldLink RX4 19 "MainsWords$Receiver" "bitsRead" "I", Cond.fieldLink RX4 22 "MainsWords$Receiver" "wordSoFar" "I", Cond.fieldLink RX4 25 "MainsWords$Receiver" "lastWord" "I", Cond.fieldLink RX4 28 "MainsWords$Receiver" "toldAt" "I", Cond.fieldLink RX4 31 "MainsWords$Receiver" "openLetters" "I"]
def wsX8_machine_r5 : List Cond := [Cond.methodLink RX8 66 yX2_put, Cond.instanceMethod yX2_put, Cond.selects RX2 yX2_put yX2_put, Cond.code yX2_put cX2_put 4 none, Cond.fieldLink RX2 22 "MainsWords$Machine" "isPresent" "Z", Cond.sameField "MainsWords$Machine" "MainsWords$Thing" "isPresent" "Z", Cond.fieldLink RX2 25 "MainsWords$Machine" "wire" "I", Cond.sameField "MainsWords$Machine" "MainsWords$Thing" "wire" "I"]
def wsX8_machine : List Cond := .code yX8_machine cX8_machine 5 (some .int) :: ((wsX8_machine_r1 ++ (wsX8_machine_r2 ++ (wsX8_machine_r3 ++ (wsX8_machine_r4 ++ wsX8_machine_r5)))) ++ wsX80 ++ wsX10 ++ wsX20 ++ wsX60 ++ wsX30 ++ wsX00 ++ wsX40)
def wsX8_lamp_r1 : List Cond := [Cond.fieldLink RX8 10 "MainsWords" "now" "LMainsWords$Net;", Cond.fieldLink RX8 29 "MainsWords" "history" "LMainsWords$History;", Cond.fieldLink RX8 79 "MainsWords$Lamp" "number" "I", Cond.sameField "MainsWords$Lamp" "MainsWords$Thing" "number" "I", Cond.methodLink RX8 40 yX8_isWire, Cond.static yX8_isWire, Cond.initialized RX8, Cond.code yX8_isWire cX8_isWire 1 (some .boolean), Cond.methodLink RX8 72 yX3_freeLamp, Cond.instanceMethod yX3_freeLamp, Cond.selects RX3 yX3_freeLamp yX3_freeLamp, Cond.initialized RX3, Cond.code yX3_freeLamp cX3_freeLamp 3 (some (.object "MainsWords$Lamp")), Cond.fieldLink RX3 25 "MainsWords$Net" "lamps" "[LMainsWords$Lamp;", Cond.classLink RX3 23 "MainsWords$Lamp", Cond.static yX8_firstFree, Cond.code yX8_firstFree cX8_firstFree 5 (some (.object "MainsWords$Thing")), Cond.fieldLink RX8 88 "MainsWords$Thing" "isPresent" "Z", Cond.methodLink RX8 48 yX0_keep, Cond.instanceMethod yX0_keep, Cond.selects RX0 yX0_keep yX0_keep, Cond.initialized RX0, Cond.code yX0_keep cX0_keep 2 none, Cond.fieldLink RX0 17 "MainsWords$History" "kept" "I"]
def wsX8_lamp_r2 : List Cond := [Cond.fieldLink RX0 11 "MainsWords$History" "states" "[LMainsWords$Net;", Cond.methodLink RX0 22 yX0_dropOldest, Cond.instanceMethod yX0_dropOldest, Cond.selects RX0 yX0_dropOldest yX0_dropOldest, Cond.code yX0_dropOldest cX0_dropOldest 3 none, Cond.methodLink RX0 25 yX3_copyFrom, Cond.instanceMethod yX3_copyFrom, Cond.selects RX3 yX3_copyFrom yX3_copyFrom, Cond.code yX3_copyFrom cX3_copyFrom 3 none, Cond.fieldLink RX3 11 "MainsWords$Net" "senders" "[LMainsWords$Sender;", Cond.fieldLink RX3 19 "MainsWords$Net" "machines" "[LMainsWords$Machine;", Cond.fieldLink RX3 31 "MainsWords$Net" "receivers" "[LMainsWords$Receiver;", Cond.fieldLink RX3 35 "MainsWords$Net" "settings" "[I", Cond.fieldLink RX3 39 "MainsWords$Net" "totals" "[I", Cond.fieldLink RX3 42 "MainsWords$Net" "time" "I", Cond.methodLink RX3 56 yX6_copyFrom, Cond.instanceMethod yX6_copyFrom, Cond.selects RX6 yX6_copyFrom yX6_copyFrom, Cond.initialized RX6, Cond.code yX6_copyFrom cX6_copyFrom 2 none, Cond.fieldLink RX6 9 "MainsWords$Sender" "queue" "[I", Cond.fieldLink RX6 15 "MainsWords$Sender" "queueLength" "I", Cond.fieldLink RX6 19 "MainsWords$Sender" "strength" "I", Cond.fieldLink RX6 22 "MainsWords$Sender" "speaks" "Z"]
def wsX8_lamp_r3 : List Cond := [Cond.fieldLink RX6 26 "MainsWords$Sender" "copy" "I", Cond.fieldLink RX6 29 "MainsWords$Sender" "place" "I", Cond.fieldLink RX6 32 "MainsWords$Sender" "pause" "I", Cond.methodLink RX6 41 ⟨"MainsWords$Sender", "copyThing", "(LMainsWords$Thing;)V"⟩, Cond.sameMethod "MainsWords$Sender" "MainsWords$Thing" "copyThing" "(LMainsWords$Thing;)V", Cond.selects RX6 ⟨"MainsWords$Sender", "copyThing", "(LMainsWords$Thing;)V"⟩ yX7_copyThing, Cond.instanceMethod yX7_copyThing, Cond.initialized RX7, Cond.code yX7_copyThing cX7_copyThing 2 none, Cond.fieldLink RX7 7 "MainsWords$Thing" "isPresent" "Z", Cond.fieldLink RX7 13 "MainsWords$Thing" "wire" "I", Cond.static yX8_copyRow, Cond.code yX8_copyRow cX8_copyRow 3 none, Cond.methodLink RX3 60 yX2_copyFrom, Cond.instanceMethod yX2_copyFrom, Cond.selects RX2 yX2_copyFrom yX2_copyFrom, Cond.initialized RX2, Cond.code yX2_copyFrom cX2_copyFrom 2 none, Cond.fieldLink RX2 9 "MainsWords$Machine" "strength" "I", Cond.fieldLink RX2 15 "MainsWords$Machine" "period" "I", Cond.fieldLink RX2 18 "MainsWords$Machine" "isOn" "Z", Cond.methodLink RX2 28 ⟨"MainsWords$Machine", "copyThing", "(LMainsWords$Thing;)V"⟩, Cond.sameMethod "MainsWords$Machine" "MainsWords$Thing" "copyThing" "(LMainsWords$Thing;)V", Cond.selects RX2 ⟨"MainsWords$Machine", "copyThing", "(LMainsWords$Thing;)V"⟩ yX7_copyThing]
def wsX8_lamp_r4 : List Cond := [Cond.methodLink RX3 63 yX1_copyFrom, Cond.instanceMethod yX1_copyFrom, Cond.selects RX1 yX1_copyFrom yX1_copyFrom, Cond.initialized RX1, Cond.code yX1_copyFrom cX1_copyFrom 2 none, Cond.fieldLink RX1 9 "MainsWords$Lamp" "letter" "I", Cond.fieldLink RX1 15 "MainsWords$Lamp" "unit" "I", Cond.fieldLink RX1 18 "MainsWords$Lamp" "level" "I", Cond.fieldLink RX1 21 "MainsWords$Lamp" "isSelected" "Z", Cond.methodLink RX1 31 ⟨"MainsWords$Lamp", "copyThing", "(LMainsWords$Thing;)V"⟩, Cond.sameMethod "MainsWords$Lamp" "MainsWords$Thing" "copyThing" "(LMainsWords$Thing;)V", Cond.selects RX1 ⟨"MainsWords$Lamp", "copyThing", "(LMainsWords$Thing;)V"⟩ yX7_copyThing, Cond.methodLink RX3 66 yX4_copyFrom, Cond.instanceMethod yX4_copyFrom, Cond.selects RX4 yX4_copyFrom yX4_copyFrom, Cond.initialized RX4, Cond.code yX4_copyFrom cX4_copyFrom 2 none, Cond.fieldLink RX4 9 "MainsWords$Receiver" "reads" "Z", Cond.fieldLink RX4 15 "MainsWords$Receiver" "latestBits" "I", Cond.fieldLink RX4 19 "MainsWords$Receiver" "bitsRead" "I", Cond.fieldLink RX4 22 "MainsWords$Receiver" "wordSoFar" "I", Cond.fieldLink RX4 25 "MainsWords$Receiver" "lastWord" "I", Cond.fieldLink RX4 28 "MainsWords$Receiver" "toldAt" "I", Cond.fieldLink RX4 31 "MainsWords$Receiver" "openLetters" "I"]
def wsX8_lamp_r5 : List Cond := [Cond.methodLink RX8 76 yX1_put, Cond.instanceMethod yX1_put, Cond.selects RX1 yX1_put yX1_put, Cond.code yX1_put cX1_put 4 none, Cond.fieldLink RX1 25 "MainsWords$Lamp" "isPresent" "Z", Cond.sameField "MainsWords$Lamp" "MainsWords$Thing" "isPresent" "Z", Cond.fieldLink RX1 28 "MainsWords$Lamp" "wire" "I", Cond.sameField "MainsWords$Lamp" "MainsWords$Thing" "wire" "I"]
def wsX8_lamp : List Cond := .code yX8_lamp cX8_lamp 5 (some .int) :: ((wsX8_lamp_r1 ++ (wsX8_lamp_r2 ++ (wsX8_lamp_r3 ++ (wsX8_lamp_r4 ++ wsX8_lamp_r5)))) ++ wsX80 ++ wsX10 ++ wsX20 ++ wsX60 ++ wsX30 ++ wsX00 ++ wsX40)
def wsX8_remove_r1 : List Cond := [Cond.fieldLink RX8 10 "MainsWords" "now" "LMainsWords$Net;", Cond.fieldLink RX8 29 "MainsWords" "history" "LMainsWords$History;", Cond.fieldLink RX8 88 "MainsWords$Thing" "isPresent" "Z", Cond.fieldLink RX8 93 "MainsWords$Thing" "wire" "I", Cond.methodLink RX8 80 yX3_thingsOf, Cond.instanceMethod yX3_thingsOf, Cond.selects RX3 yX3_thingsOf yX3_thingsOf, Cond.initialized RX3, Cond.code yX3_thingsOf cX3_thingsOf 2 (some (.array (.object "MainsWords$Thing"))), Cond.fieldLink RX3 11 "MainsWords$Net" "senders" "[LMainsWords$Sender;", Cond.fieldLink RX3 19 "MainsWords$Net" "machines" "[LMainsWords$Machine;", Cond.fieldLink RX3 25 "MainsWords$Net" "lamps" "[LMainsWords$Lamp;", Cond.methodLink RX8 84 yX8_presentAt, Cond.static yX8_presentAt, Cond.initialized RX8, Cond.code yX8_presentAt cX8_presentAt 2 (some (.object "MainsWords$Thing")), Cond.methodLink RX8 48 yX0_keep, Cond.instanceMethod yX0_keep, Cond.selects RX0 yX0_keep yX0_keep, Cond.initialized RX0, Cond.code yX0_keep cX0_keep 2 none, Cond.fieldLink RX0 17 "MainsWords$History" "kept" "I", Cond.fieldLink RX0 11 "MainsWords$History" "states" "[LMainsWords$Net;", Cond.methodLink RX0 22 yX0_dropOldest]
def wsX8_remove_r2 : List Cond := [Cond.instanceMethod yX0_dropOldest, Cond.selects RX0 yX0_dropOldest yX0_dropOldest, Cond.code yX0_dropOldest cX0_dropOldest 3 none, Cond.methodLink RX0 25 yX3_copyFrom, Cond.instanceMethod yX3_copyFrom, Cond.selects RX3 yX3_copyFrom yX3_copyFrom, Cond.code yX3_copyFrom cX3_copyFrom 3 none, Cond.fieldLink RX3 31 "MainsWords$Net" "receivers" "[LMainsWords$Receiver;", Cond.fieldLink RX3 35 "MainsWords$Net" "settings" "[I", Cond.fieldLink RX3 39 "MainsWords$Net" "totals" "[I", Cond.fieldLink RX3 42 "MainsWords$Net" "time" "I", Cond.methodLink RX3 56 yX6_copyFrom, Cond.instanceMethod yX6_copyFrom, Cond.selects RX6 yX6_copyFrom yX6_copyFrom, Cond.initialized RX6, Cond.code yX6_copyFrom cX6_copyFrom 2 none, Cond.fieldLink RX6 9 "MainsWords$Sender" "queue" "[I", Cond.fieldLink RX6 15 "MainsWords$Sender" "queueLength" "I", Cond.fieldLink RX6 19 "MainsWords$Sender" "strength" "I", Cond.fieldLink RX6 22 "MainsWords$Sender" "speaks" "Z", Cond.fieldLink RX6 26 "MainsWords$Sender" "copy" "I", Cond.fieldLink RX6 29 "MainsWords$Sender" "place" "I", Cond.fieldLink RX6 32 "MainsWords$Sender" "pause" "I", Cond.methodLink RX6 41 ⟨"MainsWords$Sender", "copyThing", "(LMainsWords$Thing;)V"⟩]
def wsX8_remove_r3 : List Cond := [Cond.sameMethod "MainsWords$Sender" "MainsWords$Thing" "copyThing" "(LMainsWords$Thing;)V", Cond.selects RX6 ⟨"MainsWords$Sender", "copyThing", "(LMainsWords$Thing;)V"⟩ yX7_copyThing, Cond.instanceMethod yX7_copyThing, Cond.initialized RX7, Cond.code yX7_copyThing cX7_copyThing 2 none, Cond.fieldLink RX7 7 "MainsWords$Thing" "isPresent" "Z", Cond.fieldLink RX7 13 "MainsWords$Thing" "wire" "I", Cond.static yX8_copyRow, Cond.code yX8_copyRow cX8_copyRow 3 none, Cond.methodLink RX3 60 yX2_copyFrom, Cond.instanceMethod yX2_copyFrom, Cond.selects RX2 yX2_copyFrom yX2_copyFrom, Cond.initialized RX2, Cond.code yX2_copyFrom cX2_copyFrom 2 none, Cond.fieldLink RX2 9 "MainsWords$Machine" "strength" "I", Cond.fieldLink RX2 15 "MainsWords$Machine" "period" "I", Cond.fieldLink RX2 18 "MainsWords$Machine" "isOn" "Z", Cond.methodLink RX2 28 ⟨"MainsWords$Machine", "copyThing", "(LMainsWords$Thing;)V"⟩, Cond.sameMethod "MainsWords$Machine" "MainsWords$Thing" "copyThing" "(LMainsWords$Thing;)V", Cond.selects RX2 ⟨"MainsWords$Machine", "copyThing", "(LMainsWords$Thing;)V"⟩ yX7_copyThing, Cond.methodLink RX3 63 yX1_copyFrom, Cond.instanceMethod yX1_copyFrom, Cond.selects RX1 yX1_copyFrom yX1_copyFrom, Cond.initialized RX1]
def wsX8_remove_r4 : List Cond := [Cond.code yX1_copyFrom cX1_copyFrom 2 none, Cond.fieldLink RX1 9 "MainsWords$Lamp" "letter" "I", Cond.fieldLink RX1 15 "MainsWords$Lamp" "unit" "I", Cond.fieldLink RX1 18 "MainsWords$Lamp" "level" "I", Cond.fieldLink RX1 21 "MainsWords$Lamp" "isSelected" "Z", Cond.methodLink RX1 31 ⟨"MainsWords$Lamp", "copyThing", "(LMainsWords$Thing;)V"⟩, Cond.sameMethod "MainsWords$Lamp" "MainsWords$Thing" "copyThing" "(LMainsWords$Thing;)V", Cond.selects RX1 ⟨"MainsWords$Lamp", "copyThing", "(LMainsWords$Thing;)V"⟩ yX7_copyThing, Cond.methodLink RX3 66 yX4_copyFrom, Cond.instanceMethod yX4_copyFrom, Cond.selects RX4 yX4_copyFrom yX4_copyFrom, Cond.initialized RX4, Cond.code yX4_copyFrom cX4_copyFrom 2 none, Cond.fieldLink RX4 9 "MainsWords$Receiver" "reads" "Z", Cond.fieldLink RX4 15 "MainsWords$Receiver" "latestBits" "I", Cond.fieldLink RX4 19 "MainsWords$Receiver" "bitsRead" "I", Cond.fieldLink RX4 22 "MainsWords$Receiver" "wordSoFar" "I", Cond.fieldLink RX4 25 "MainsWords$Receiver" "lastWord" "I", Cond.fieldLink RX4 28 "MainsWords$Receiver" "toldAt" "I", Cond.fieldLink RX4 31 "MainsWords$Receiver" "openLetters" "I"]
def wsX8_remove : List Cond := .code yX8_remove cX8_remove 5 (some .int) :: ((wsX8_remove_r1 ++ (wsX8_remove_r2 ++ (wsX8_remove_r3 ++ wsX8_remove_r4))) ++ wsX80 ++ wsX10 ++ wsX20 ++ wsX60 ++ wsX30 ++ wsX00 ++ wsX40)
def wsX8_say_r1 : List Cond := [Cond.fieldLink RX8 10 "MainsWords" "now" "LMainsWords$Net;", Cond.fieldLink RX8 29 "MainsWords" "history" "LMainsWords$History;", Cond.methodLink RX8 96 yX3_refusalOfWord, Cond.instanceMethod yX3_refusalOfWord, Cond.selects RX3 yX3_refusalOfWord yX3_refusalOfWord, Cond.initialized RX3, Cond.code yX3_refusalOfWord cX3_refusalOfWord 4 (some .int), Cond.methodLink RX3 100 yX3_senderAt, Cond.instanceMethod yX3_senderAt, Cond.selects RX3 yX3_senderAt yX3_senderAt, Cond.code yX3_senderAt cX3_senderAt 4 (some (.object "MainsWords$Sender")), Cond.fieldLink RX3 11 "MainsWords$Net" "senders" "[LMainsWords$Sender;", Cond.classLink RX3 9 "MainsWords$Sender", Cond.static yX8_presentAt, Cond.initialized RX8, Cond.code yX8_presentAt cX8_presentAt 2 (some (.object "MainsWords$Thing")), Cond.fieldLink RX8 88 "MainsWords$Thing" "isPresent" "Z", Cond.static yX8_isWord, Cond.code yX8_isWord cX8_isWord 1 (some .boolean), Cond.methodLink RX3 108 yX6_isQueueFull, Cond.instanceMethod yX6_isQueueFull, Cond.selects RX6 yX6_isQueueFull yX6_isQueueFull, Cond.initialized RX6, Cond.code yX6_isQueueFull cX6_isQueueFull 1 (some .boolean)]
def wsX8_say_r2 : List Cond := [Cond.fieldLink RX6 15 "MainsWords$Sender" "queueLength" "I", Cond.fieldLink RX6 9 "MainsWords$Sender" "queue" "[I", Cond.methodLink RX8 48 yX0_keep, Cond.instanceMethod yX0_keep, Cond.selects RX0 yX0_keep yX0_keep, Cond.initialized RX0, Cond.code yX0_keep cX0_keep 2 none, Cond.fieldLink RX0 17 "MainsWords$History" "kept" "I", Cond.fieldLink RX0 11 "MainsWords$History" "states" "[LMainsWords$Net;", Cond.methodLink RX0 22 yX0_dropOldest, Cond.instanceMethod yX0_dropOldest, Cond.selects RX0 yX0_dropOldest yX0_dropOldest, Cond.code yX0_dropOldest cX0_dropOldest 3 none, Cond.methodLink RX0 25 yX3_copyFrom, Cond.instanceMethod yX3_copyFrom, Cond.selects RX3 yX3_copyFrom yX3_copyFrom, Cond.code yX3_copyFrom cX3_copyFrom 3 none, Cond.fieldLink RX3 19 "MainsWords$Net" "machines" "[LMainsWords$Machine;", Cond.fieldLink RX3 25 "MainsWords$Net" "lamps" "[LMainsWords$Lamp;", Cond.fieldLink RX3 31 "MainsWords$Net" "receivers" "[LMainsWords$Receiver;", Cond.fieldLink RX3 35 "MainsWords$Net" "settings" "[I", Cond.fieldLink RX3 39 "MainsWords$Net" "totals" "[I", Cond.fieldLink RX3 42 "MainsWords$Net" "time" "I", Cond.methodLink RX3 56 yX6_copyFrom]
def wsX8_say_r3 : List Cond := [Cond.instanceMethod yX6_copyFrom, Cond.selects RX6 yX6_copyFrom yX6_copyFrom, Cond.code yX6_copyFrom cX6_copyFrom 2 none, Cond.fieldLink RX6 19 "MainsWords$Sender" "strength" "I", Cond.fieldLink RX6 22 "MainsWords$Sender" "speaks" "Z", Cond.fieldLink RX6 26 "MainsWords$Sender" "copy" "I", Cond.fieldLink RX6 29 "MainsWords$Sender" "place" "I", Cond.fieldLink RX6 32 "MainsWords$Sender" "pause" "I", Cond.methodLink RX6 41 ⟨"MainsWords$Sender", "copyThing", "(LMainsWords$Thing;)V"⟩, Cond.sameMethod "MainsWords$Sender" "MainsWords$Thing" "copyThing" "(LMainsWords$Thing;)V", Cond.selects RX6 ⟨"MainsWords$Sender", "copyThing", "(LMainsWords$Thing;)V"⟩ yX7_copyThing, Cond.instanceMethod yX7_copyThing, Cond.initialized RX7, Cond.code yX7_copyThing cX7_copyThing 2 none, Cond.fieldLink RX7 7 "MainsWords$Thing" "isPresent" "Z", Cond.fieldLink RX7 13 "MainsWords$Thing" "wire" "I", Cond.static yX8_copyRow, Cond.code yX8_copyRow cX8_copyRow 3 none, Cond.methodLink RX3 60 yX2_copyFrom, Cond.instanceMethod yX2_copyFrom, Cond.selects RX2 yX2_copyFrom yX2_copyFrom, Cond.initialized RX2, Cond.code yX2_copyFrom cX2_copyFrom 2 none, Cond.fieldLink RX2 9 "MainsWords$Machine" "strength" "I"]
def wsX8_say_r4 : List Cond := [Cond.fieldLink RX2 15 "MainsWords$Machine" "period" "I", Cond.fieldLink RX2 18 "MainsWords$Machine" "isOn" "Z", Cond.methodLink RX2 28 ⟨"MainsWords$Machine", "copyThing", "(LMainsWords$Thing;)V"⟩, Cond.sameMethod "MainsWords$Machine" "MainsWords$Thing" "copyThing" "(LMainsWords$Thing;)V", Cond.selects RX2 ⟨"MainsWords$Machine", "copyThing", "(LMainsWords$Thing;)V"⟩ yX7_copyThing, Cond.methodLink RX3 63 yX1_copyFrom, Cond.instanceMethod yX1_copyFrom, Cond.selects RX1 yX1_copyFrom yX1_copyFrom, Cond.initialized RX1, Cond.code yX1_copyFrom cX1_copyFrom 2 none, Cond.fieldLink RX1 9 "MainsWords$Lamp" "letter" "I", Cond.fieldLink RX1 15 "MainsWords$Lamp" "unit" "I", Cond.fieldLink RX1 18 "MainsWords$Lamp" "level" "I", Cond.fieldLink RX1 21 "MainsWords$Lamp" "isSelected" "Z", Cond.methodLink RX1 31 ⟨"MainsWords$Lamp", "copyThing", "(LMainsWords$Thing;)V"⟩, Cond.sameMethod "MainsWords$Lamp" "MainsWords$Thing" "copyThing" "(LMainsWords$Thing;)V", Cond.selects RX1 ⟨"MainsWords$Lamp", "copyThing", "(LMainsWords$Thing;)V"⟩ yX7_copyThing, Cond.methodLink RX3 66 yX4_copyFrom, Cond.instanceMethod yX4_copyFrom, Cond.selects RX4 yX4_copyFrom yX4_copyFrom, Cond.initialized RX4, Cond.code yX4_copyFrom cX4_copyFrom 2 none, Cond.fieldLink RX4 9 "MainsWords$Receiver" "reads" "Z", Cond.fieldLink RX4 15 "MainsWords$Receiver" "latestBits" "I"]
def wsX8_say_r5 : List Cond := [Cond.fieldLink RX4 19 "MainsWords$Receiver" "bitsRead" "I", Cond.fieldLink RX4 22 "MainsWords$Receiver" "wordSoFar" "I", Cond.fieldLink RX4 25 "MainsWords$Receiver" "lastWord" "I", Cond.fieldLink RX4 28 "MainsWords$Receiver" "toldAt" "I", Cond.fieldLink RX4 31 "MainsWords$Receiver" "openLetters" "I", Cond.methodLink RX8 100 yX3_giveWord, Cond.instanceMethod yX3_giveWord, Cond.selects RX3 yX3_giveWord yX3_giveWord, Cond.code yX3_giveWord cX3_giveWord 4 (some .int), Cond.fieldLink RX3 93 "MainsWords$Sender" "queueLength" "I", Cond.methodLink RX3 111 yX6_addWord, Cond.instanceMethod yX6_addWord, Cond.selects RX6 yX6_addWord yX6_addWord, Cond.code yX6_addWord cX6_addWord 2 none]
def wsX8_say : List Cond := .code yX8_say cX8_say 4 (some .int) :: ((wsX8_say_r1 ++ (wsX8_say_r2 ++ (wsX8_say_r3 ++ (wsX8_say_r4 ++ wsX8_say_r5)))) ++ wsX80 ++ wsX30 ++ wsX10 ++ wsX20 ++ wsX60 ++ wsX00 ++ wsX40)
def wsX8_run_r1 : List Cond := [Cond.fieldLink RX8 10 "MainsWords" "now" "LMainsWords$Net;", Cond.fieldLink RX8 29 "MainsWords" "history" "LMainsWords$History;", Cond.fieldLink RX8 107 "MainsWords$Machine" "isOn" "Z", Cond.methodLink RX8 103 yX3_machineAt, Cond.instanceMethod yX3_machineAt, Cond.selects RX3 yX3_machineAt yX3_machineAt, Cond.initialized RX3, Cond.code yX3_machineAt cX3_machineAt 4 (some (.object "MainsWords$Machine")), Cond.fieldLink RX3 19 "MainsWords$Net" "machines" "[LMainsWords$Machine;", Cond.classLink RX3 17 "MainsWords$Machine", Cond.static yX8_presentAt, Cond.initialized RX8, Cond.code yX8_presentAt cX8_presentAt 2 (some (.object "MainsWords$Thing")), Cond.fieldLink RX8 88 "MainsWords$Thing" "isPresent" "Z", Cond.methodLink RX8 48 yX0_keep, Cond.instanceMethod yX0_keep, Cond.selects RX0 yX0_keep yX0_keep, Cond.initialized RX0, Cond.code yX0_keep cX0_keep 2 none, Cond.fieldLink RX0 17 "MainsWords$History" "kept" "I", Cond.fieldLink RX0 11 "MainsWords$History" "states" "[LMainsWords$Net;", Cond.methodLink RX0 22 yX0_dropOldest, Cond.instanceMethod yX0_dropOldest, Cond.selects RX0 yX0_dropOldest yX0_dropOldest]
def wsX8_run_r2 : List Cond := [Cond.code yX0_dropOldest cX0_dropOldest 3 none, Cond.methodLink RX0 25 yX3_copyFrom, Cond.instanceMethod yX3_copyFrom, Cond.selects RX3 yX3_copyFrom yX3_copyFrom, Cond.code yX3_copyFrom cX3_copyFrom 3 none, Cond.fieldLink RX3 11 "MainsWords$Net" "senders" "[LMainsWords$Sender;", Cond.fieldLink RX3 25 "MainsWords$Net" "lamps" "[LMainsWords$Lamp;", Cond.fieldLink RX3 31 "MainsWords$Net" "receivers" "[LMainsWords$Receiver;", Cond.fieldLink RX3 35 "MainsWords$Net" "settings" "[I", Cond.fieldLink RX3 39 "MainsWords$Net" "totals" "[I", Cond.fieldLink RX3 42 "MainsWords$Net" "time" "I", Cond.methodLink RX3 56 yX6_copyFrom, Cond.instanceMethod yX6_copyFrom, Cond.selects RX6 yX6_copyFrom yX6_copyFrom, Cond.initialized RX6, Cond.code yX6_copyFrom cX6_copyFrom 2 none, Cond.fieldLink RX6 9 "MainsWords$Sender" "queue" "[I", Cond.fieldLink RX6 15 "MainsWords$Sender" "queueLength" "I", Cond.fieldLink RX6 19 "MainsWords$Sender" "strength" "I", Cond.fieldLink RX6 22 "MainsWords$Sender" "speaks" "Z", Cond.fieldLink RX6 26 "MainsWords$Sender" "copy" "I", Cond.fieldLink RX6 29 "MainsWords$Sender" "place" "I", Cond.fieldLink RX6 32 "MainsWords$Sender" "pause" "I", Cond.methodLink RX6 41 ⟨"MainsWords$Sender", "copyThing", "(LMainsWords$Thing;)V"⟩]
def wsX8_run_r3 : List Cond := [Cond.sameMethod "MainsWords$Sender" "MainsWords$Thing" "copyThing" "(LMainsWords$Thing;)V", Cond.selects RX6 ⟨"MainsWords$Sender", "copyThing", "(LMainsWords$Thing;)V"⟩ yX7_copyThing, Cond.instanceMethod yX7_copyThing, Cond.initialized RX7, Cond.code yX7_copyThing cX7_copyThing 2 none, Cond.fieldLink RX7 7 "MainsWords$Thing" "isPresent" "Z", Cond.fieldLink RX7 13 "MainsWords$Thing" "wire" "I", Cond.static yX8_copyRow, Cond.code yX8_copyRow cX8_copyRow 3 none, Cond.methodLink RX3 60 yX2_copyFrom, Cond.instanceMethod yX2_copyFrom, Cond.selects RX2 yX2_copyFrom yX2_copyFrom, Cond.initialized RX2, Cond.code yX2_copyFrom cX2_copyFrom 2 none, Cond.fieldLink RX2 9 "MainsWords$Machine" "strength" "I", Cond.fieldLink RX2 15 "MainsWords$Machine" "period" "I", Cond.fieldLink RX2 18 "MainsWords$Machine" "isOn" "Z", Cond.methodLink RX2 28 ⟨"MainsWords$Machine", "copyThing", "(LMainsWords$Thing;)V"⟩, Cond.sameMethod "MainsWords$Machine" "MainsWords$Thing" "copyThing" "(LMainsWords$Thing;)V", Cond.selects RX2 ⟨"MainsWords$Machine", "copyThing", "(LMainsWords$Thing;)V"⟩ yX7_copyThing, Cond.methodLink RX3 63 yX1_copyFrom, Cond.instanceMethod yX1_copyFrom, Cond.selects RX1 yX1_copyFrom yX1_copyFrom, Cond.initialized RX1]
def wsX8_run_r4 : List Cond := [Cond.code yX1_copyFrom cX1_copyFrom 2 none, Cond.fieldLink RX1 9 "MainsWords$Lamp" "letter" "I", Cond.fieldLink RX1 15 "MainsWords$Lamp" "unit" "I", Cond.fieldLink RX1 18 "MainsWords$Lamp" "level" "I", Cond.fieldLink RX1 21 "MainsWords$Lamp" "isSelected" "Z", Cond.methodLink RX1 31 ⟨"MainsWords$Lamp", "copyThing", "(LMainsWords$Thing;)V"⟩, Cond.sameMethod "MainsWords$Lamp" "MainsWords$Thing" "copyThing" "(LMainsWords$Thing;)V", Cond.selects RX1 ⟨"MainsWords$Lamp", "copyThing", "(LMainsWords$Thing;)V"⟩ yX7_copyThing, Cond.methodLink RX3 66 yX4_copyFrom, Cond.instanceMethod yX4_copyFrom, Cond.selects RX4 yX4_copyFrom yX4_copyFrom, Cond.initialized RX4, Cond.code yX4_copyFrom cX4_copyFrom 2 none, Cond.fieldLink RX4 9 "MainsWords$Receiver" "reads" "Z", Cond.fieldLink RX4 15 "MainsWords$Receiver" "latestBits" "I", Cond.fieldLink RX4 19 "MainsWords$Receiver" "bitsRead" "I", Cond.fieldLink RX4 22 "MainsWords$Receiver" "wordSoFar" "I", Cond.fieldLink RX4 25 "MainsWords$Receiver" "lastWord" "I", Cond.fieldLink RX4 28 "MainsWords$Receiver" "toldAt" "I", Cond.fieldLink RX4 31 "MainsWords$Receiver" "openLetters" "I", Cond.methodLink RX8 110 yX8_asNumber, Cond.static yX8_asNumber, Cond.code yX8_asNumber cX8_asNumber 1 (some .int)]
def wsX8_run : List Cond := .code yX8_run cX8_run 5 (some .int) :: ((wsX8_run_r1 ++ (wsX8_run_r2 ++ (wsX8_run_r3 ++ wsX8_run_r4))) ++ wsX80 ++ wsX20 ++ wsX30 ++ wsX10 ++ wsX60 ++ wsX00 ++ wsX40)
def wsX8_set_r1 : List Cond := [Cond.fieldLink RX8 114 "MainsWords" "LEAST_SETTING" "[I", Cond.fieldLink RX8 118 "MainsWords" "MOST_SETTING" "[I", Cond.fieldLink RX8 29 "MainsWords" "history" "LMainsWords$History;", Cond.fieldLink RX8 10 "MainsWords" "now" "LMainsWords$Net;", Cond.fieldLink RX8 121 "MainsWords$Net" "settings" "[I", Cond.methodLink RX8 48 yX0_keep, Cond.instanceMethod yX0_keep, Cond.selects RX0 yX0_keep yX0_keep, Cond.initialized RX0, Cond.code yX0_keep cX0_keep 2 none, Cond.fieldLink RX0 17 "MainsWords$History" "kept" "I", Cond.fieldLink RX0 11 "MainsWords$History" "states" "[LMainsWords$Net;", Cond.methodLink RX0 22 yX0_dropOldest, Cond.instanceMethod yX0_dropOldest, Cond.selects RX0 yX0_dropOldest yX0_dropOldest, Cond.code yX0_dropOldest cX0_dropOldest 3 none, Cond.methodLink RX0 25 yX3_copyFrom, Cond.instanceMethod yX3_copyFrom, Cond.selects RX3 yX3_copyFrom yX3_copyFrom, Cond.initialized RX3, Cond.code yX3_copyFrom cX3_copyFrom 3 none, Cond.fieldLink RX3 11 "MainsWords$Net" "senders" "[LMainsWords$Sender;", Cond.fieldLink RX3 19 "MainsWords$Net" "machines" "[LMainsWords$Machine;", Cond.fieldLink RX3 25 "MainsWords$Net" "lamps" "[LMainsWords$Lamp;"]
def wsX8_set_r2 : List Cond := [Cond.fieldLink RX3 31 "MainsWords$Net" "receivers" "[LMainsWords$Receiver;", Cond.fieldLink RX3 35 "MainsWords$Net" "settings" "[I", Cond.fieldLink RX3 39 "MainsWords$Net" "totals" "[I", Cond.fieldLink RX3 42 "MainsWords$Net" "time" "I", Cond.methodLink RX3 56 yX6_copyFrom, Cond.instanceMethod yX6_copyFrom, Cond.selects RX6 yX6_copyFrom yX6_copyFrom, Cond.initialized RX6, Cond.code yX6_copyFrom cX6_copyFrom 2 none, Cond.fieldLink RX6 9 "MainsWords$Sender" "queue" "[I", Cond.fieldLink RX6 15 "MainsWords$Sender" "queueLength" "I", Cond.fieldLink RX6 19 "MainsWords$Sender" "strength" "I", Cond.fieldLink RX6 22 "MainsWords$Sender" "speaks" "Z", Cond.fieldLink RX6 26 "MainsWords$Sender" "copy" "I", Cond.fieldLink RX6 29 "MainsWords$Sender" "place" "I", Cond.fieldLink RX6 32 "MainsWords$Sender" "pause" "I", Cond.methodLink RX6 41 ⟨"MainsWords$Sender", "copyThing", "(LMainsWords$Thing;)V"⟩, Cond.sameMethod "MainsWords$Sender" "MainsWords$Thing" "copyThing" "(LMainsWords$Thing;)V", Cond.selects RX6 ⟨"MainsWords$Sender", "copyThing", "(LMainsWords$Thing;)V"⟩ yX7_copyThing, Cond.instanceMethod yX7_copyThing, Cond.initialized RX7, Cond.code yX7_copyThing cX7_copyThing 2 none, Cond.fieldLink RX7 7 "MainsWords$Thing" "isPresent" "Z", Cond.fieldLink RX7 13 "MainsWords$Thing" "wire" "I"]
def wsX8_set_r3 : List Cond := [Cond.static yX8_copyRow, Cond.initialized RX8, Cond.code yX8_copyRow cX8_copyRow 3 none, Cond.methodLink RX3 60 yX2_copyFrom, Cond.instanceMethod yX2_copyFrom, Cond.selects RX2 yX2_copyFrom yX2_copyFrom, Cond.initialized RX2, Cond.code yX2_copyFrom cX2_copyFrom 2 none, Cond.fieldLink RX2 9 "MainsWords$Machine" "strength" "I", Cond.fieldLink RX2 15 "MainsWords$Machine" "period" "I", Cond.fieldLink RX2 18 "MainsWords$Machine" "isOn" "Z", Cond.methodLink RX2 28 ⟨"MainsWords$Machine", "copyThing", "(LMainsWords$Thing;)V"⟩, Cond.sameMethod "MainsWords$Machine" "MainsWords$Thing" "copyThing" "(LMainsWords$Thing;)V", Cond.selects RX2 ⟨"MainsWords$Machine", "copyThing", "(LMainsWords$Thing;)V"⟩ yX7_copyThing, Cond.methodLink RX3 63 yX1_copyFrom, Cond.instanceMethod yX1_copyFrom, Cond.selects RX1 yX1_copyFrom yX1_copyFrom, Cond.initialized RX1, Cond.code yX1_copyFrom cX1_copyFrom 2 none, Cond.fieldLink RX1 9 "MainsWords$Lamp" "letter" "I", Cond.fieldLink RX1 15 "MainsWords$Lamp" "unit" "I", Cond.fieldLink RX1 18 "MainsWords$Lamp" "level" "I", Cond.fieldLink RX1 21 "MainsWords$Lamp" "isSelected" "Z", Cond.methodLink RX1 31 ⟨"MainsWords$Lamp", "copyThing", "(LMainsWords$Thing;)V"⟩]
def wsX8_set_r4 : List Cond := [Cond.sameMethod "MainsWords$Lamp" "MainsWords$Thing" "copyThing" "(LMainsWords$Thing;)V", Cond.selects RX1 ⟨"MainsWords$Lamp", "copyThing", "(LMainsWords$Thing;)V"⟩ yX7_copyThing, Cond.methodLink RX3 66 yX4_copyFrom, Cond.instanceMethod yX4_copyFrom, Cond.selects RX4 yX4_copyFrom yX4_copyFrom, Cond.initialized RX4, Cond.code yX4_copyFrom cX4_copyFrom 2 none, Cond.fieldLink RX4 9 "MainsWords$Receiver" "reads" "Z", Cond.fieldLink RX4 15 "MainsWords$Receiver" "latestBits" "I", Cond.fieldLink RX4 19 "MainsWords$Receiver" "bitsRead" "I", Cond.fieldLink RX4 22 "MainsWords$Receiver" "wordSoFar" "I", Cond.fieldLink RX4 25 "MainsWords$Receiver" "lastWord" "I", Cond.fieldLink RX4 28 "MainsWords$Receiver" "toldAt" "I", Cond.fieldLink RX4 31 "MainsWords$Receiver" "openLetters" "I"]
def wsX8_set : List Cond := .code yX8_set cX8_set 4 (some .int) :: ((wsX8_set_r1 ++ (wsX8_set_r2 ++ (wsX8_set_r3 ++ wsX8_set_r4))) ++ wsX80 ++ wsX30 ++ wsX00 ++ wsX60 ++ wsX10 ++ wsX20 ++ wsX40)
def wsX8_pass_r1 : List Cond := [Cond.fieldLink RX8 29 "MainsWords" "history" "LMainsWords$History;", Cond.fieldLink RX8 10 "MainsWords" "now" "LMainsWords$Net;", Cond.methodLink RX8 48 yX0_keep, Cond.instanceMethod yX0_keep, Cond.selects RX0 yX0_keep yX0_keep, Cond.initialized RX0, Cond.code yX0_keep cX0_keep 2 none, Cond.fieldLink RX0 17 "MainsWords$History" "kept" "I", Cond.fieldLink RX0 11 "MainsWords$History" "states" "[LMainsWords$Net;", Cond.methodLink RX0 22 yX0_dropOldest, Cond.instanceMethod yX0_dropOldest, Cond.selects RX0 yX0_dropOldest yX0_dropOldest, Cond.code yX0_dropOldest cX0_dropOldest 3 none, Cond.methodLink RX0 25 yX3_copyFrom, Cond.instanceMethod yX3_copyFrom, Cond.selects RX3 yX3_copyFrom yX3_copyFrom, Cond.initialized RX3, Cond.code yX3_copyFrom cX3_copyFrom 3 none, Cond.fieldLink RX3 11 "MainsWords$Net" "senders" "[LMainsWords$Sender;", Cond.fieldLink RX3 19 "MainsWords$Net" "machines" "[LMainsWords$Machine;", Cond.fieldLink RX3 25 "MainsWords$Net" "lamps" "[LMainsWords$Lamp;", Cond.fieldLink RX3 31 "MainsWords$Net" "receivers" "[LMainsWords$Receiver;", Cond.fieldLink RX3 35 "MainsWords$Net" "settings" "[I", Cond.fieldLink RX3 39 "MainsWords$Net" "totals" "[I"]
def wsX8_pass_r2 : List Cond := [Cond.fieldLink RX3 42 "MainsWords$Net" "time" "I", Cond.methodLink RX3 56 yX6_copyFrom, Cond.instanceMethod yX6_copyFrom, Cond.selects RX6 yX6_copyFrom yX6_copyFrom, Cond.initialized RX6, Cond.code yX6_copyFrom cX6_copyFrom 2 none, Cond.fieldLink RX6 9 "MainsWords$Sender" "queue" "[I", Cond.fieldLink RX6 15 "MainsWords$Sender" "queueLength" "I", Cond.fieldLink RX6 19 "MainsWords$Sender" "strength" "I", Cond.fieldLink RX6 22 "MainsWords$Sender" "speaks" "Z", Cond.fieldLink RX6 26 "MainsWords$Sender" "copy" "I", Cond.fieldLink RX6 29 "MainsWords$Sender" "place" "I", Cond.fieldLink RX6 32 "MainsWords$Sender" "pause" "I", Cond.methodLink RX6 41 ⟨"MainsWords$Sender", "copyThing", "(LMainsWords$Thing;)V"⟩, Cond.sameMethod "MainsWords$Sender" "MainsWords$Thing" "copyThing" "(LMainsWords$Thing;)V", Cond.selects RX6 ⟨"MainsWords$Sender", "copyThing", "(LMainsWords$Thing;)V"⟩ yX7_copyThing, Cond.instanceMethod yX7_copyThing, Cond.initialized RX7, Cond.code yX7_copyThing cX7_copyThing 2 none, Cond.fieldLink RX7 7 "MainsWords$Thing" "isPresent" "Z", Cond.fieldLink RX7 13 "MainsWords$Thing" "wire" "I", Cond.static yX8_copyRow, Cond.initialized RX8, Cond.code yX8_copyRow cX8_copyRow 3 none]
def wsX8_pass_r3 : List Cond := [Cond.methodLink RX3 60 yX2_copyFrom, Cond.instanceMethod yX2_copyFrom, Cond.selects RX2 yX2_copyFrom yX2_copyFrom, Cond.initialized RX2, Cond.code yX2_copyFrom cX2_copyFrom 2 none, Cond.fieldLink RX2 9 "MainsWords$Machine" "strength" "I", Cond.fieldLink RX2 15 "MainsWords$Machine" "period" "I", Cond.fieldLink RX2 18 "MainsWords$Machine" "isOn" "Z", Cond.methodLink RX2 28 ⟨"MainsWords$Machine", "copyThing", "(LMainsWords$Thing;)V"⟩, Cond.sameMethod "MainsWords$Machine" "MainsWords$Thing" "copyThing" "(LMainsWords$Thing;)V", Cond.selects RX2 ⟨"MainsWords$Machine", "copyThing", "(LMainsWords$Thing;)V"⟩ yX7_copyThing, Cond.methodLink RX3 63 yX1_copyFrom, Cond.instanceMethod yX1_copyFrom, Cond.selects RX1 yX1_copyFrom yX1_copyFrom, Cond.initialized RX1, Cond.code yX1_copyFrom cX1_copyFrom 2 none, Cond.fieldLink RX1 9 "MainsWords$Lamp" "letter" "I", Cond.fieldLink RX1 15 "MainsWords$Lamp" "unit" "I", Cond.fieldLink RX1 18 "MainsWords$Lamp" "level" "I", Cond.fieldLink RX1 21 "MainsWords$Lamp" "isSelected" "Z", Cond.methodLink RX1 31 ⟨"MainsWords$Lamp", "copyThing", "(LMainsWords$Thing;)V"⟩, Cond.sameMethod "MainsWords$Lamp" "MainsWords$Thing" "copyThing" "(LMainsWords$Thing;)V", Cond.selects RX1 ⟨"MainsWords$Lamp", "copyThing", "(LMainsWords$Thing;)V"⟩ yX7_copyThing, Cond.methodLink RX3 66 yX4_copyFrom]
def wsX8_pass_r4 : List Cond := [Cond.instanceMethod yX4_copyFrom, Cond.selects RX4 yX4_copyFrom yX4_copyFrom, Cond.initialized RX4, Cond.code yX4_copyFrom cX4_copyFrom 2 none, Cond.fieldLink RX4 9 "MainsWords$Receiver" "reads" "Z", Cond.fieldLink RX4 15 "MainsWords$Receiver" "latestBits" "I", Cond.fieldLink RX4 19 "MainsWords$Receiver" "bitsRead" "I", Cond.fieldLink RX4 22 "MainsWords$Receiver" "wordSoFar" "I", Cond.fieldLink RX4 25 "MainsWords$Receiver" "lastWord" "I", Cond.fieldLink RX4 28 "MainsWords$Receiver" "toldAt" "I", Cond.fieldLink RX4 31 "MainsWords$Receiver" "openLetters" "I", Cond.methodLink RX8 124 yX3_letPass, Cond.instanceMethod yX3_letPass, Cond.selects RX3 yX3_letPass yX3_letPass, Cond.code yX3_letPass cX3_letPass 4 (some .int), Cond.methodLink RX3 114 yX3_beat, Cond.instanceMethod yX3_beat, Cond.selects RX3 yX3_beat yX3_beat, Cond.code yX3_beat cX3_beat 2 (some .int), Cond.methodLink RX3 118 yX3_beginSpeaking, Cond.instanceMethod yX3_beginSpeaking, Cond.selects RX3 yX3_beginSpeaking yX3_beginSpeaking, Cond.code yX3_beginSpeaking cX3_beginSpeaking 5 none, Cond.fieldLink RX3 89 "MainsWords$Sender" "isPresent" "Z"]
def wsX8_pass_r5 : List Cond := [Cond.sameField "MainsWords$Sender" "MainsWords$Thing" "isPresent" "Z", Cond.fieldLink RX3 130 "MainsWords$Sender" "wire" "I", Cond.sameField "MainsWords$Sender" "MainsWords$Thing" "wire" "I", Cond.methodLink RX3 133 yX3_isQuietOn, Cond.instanceMethod yX3_isQuietOn, Cond.selects RX3 yX3_isQuietOn yX3_isQuietOn, Cond.code yX3_isQuietOn cX3_isQuietOn 2 (some .boolean), Cond.methodLink RX3 140 yX4_isQuiet, Cond.instanceMethod yX4_isQuiet, Cond.selects RX4 yX4_isQuiet yX4_isQuiet, Cond.code yX4_isQuiet cX4_isQuiet 1 (some .boolean), Cond.methodLink RX3 136 yX6_beginOrWait, Cond.instanceMethod yX6_beginOrWait, Cond.selects RX6 yX6_beginOrWait yX6_beginOrWait, Cond.code yX6_beginOrWait cX6_beginOrWait 2 none, Cond.methodLink RX3 121 yX3_carryBits, Cond.instanceMethod yX3_carryBits, Cond.selects RX3 yX3_carryBits yX3_carryBits, Cond.code yX3_carryBits cX3_carryBits 5 none, Cond.fieldLink RX3 46 "MainsWords$Net" "heard" "[Z", Cond.fieldLink RX3 146 "MainsWords$Sender" "strength" "I", Cond.fieldLink RX3 156 "MainsWords$Machine" "wire" "I", Cond.sameField "MainsWords$Machine" "MainsWords$Thing" "wire" "I", Cond.fieldLink RX3 157 "MainsWords$Machine" "strength" "I"]
def wsX8_pass_r6 : List Cond := [Cond.methodLink RX3 81 yX6_isSpeaking, Cond.instanceMethod yX6_isSpeaking, Cond.selects RX6 yX6_isSpeaking yX6_isSpeaking, Cond.code yX6_isSpeaking cX6_isSpeaking 1 (some .boolean), Cond.fieldLink RX6 35 "MainsWords$Sender" "isPresent" "Z", Cond.methodLink RX3 143 yX6_bitToSend, Cond.instanceMethod yX6_bitToSend, Cond.selects RX6 yX6_bitToSend yX6_bitToSend, Cond.code yX6_bitToSend cX6_bitToSend 1 (some .int), Cond.static yX8_frameBit, Cond.code yX8_frameBit cX8_frameBit 4 (some .int), Cond.methodLink RX3 149 yX3_spreadOne, Cond.instanceMethod yX3_spreadOne, Cond.selects RX3 yX3_spreadOne yX3_spreadOne, Cond.code yX3_spreadOne cX3_spreadOne 4 none, Cond.methodLink RX3 158 yX3_lossBetween, Cond.instanceMethod yX3_lossBetween, Cond.selects RX3 yX3_lossBetween yX3_lossBetween, Cond.code yX3_lossBetween cX3_lossBetween 5 (some .int), Cond.methodLink RX3 153 yX2_makesNoiseAt, Cond.instanceMethod yX2_makesNoiseAt, Cond.selects RX2 yX2_makesNoiseAt yX2_makesNoiseAt, Cond.code yX2_makesNoiseAt cX2_makesNoiseAt 2 (some .boolean), Cond.fieldLink RX2 22 "MainsWords$Machine" "isPresent" "Z"]
def wsX8_pass_r7 : List Cond := [Cond.sameField "MainsWords$Machine" "MainsWords$Thing" "isPresent" "Z", Cond.methodLink RX3 124 yX3_moveSenders, Cond.instanceMethod yX3_moveSenders, Cond.selects RX3 yX3_moveSenders yX3_moveSenders, Cond.code yX3_moveSenders cX3_moveSenders 5 none, Cond.methodLink RX3 162 yX3_isHeardOn, Cond.instanceMethod yX3_isHeardOn, Cond.selects RX3 yX3_isHeardOn yX3_isHeardOn, Cond.code yX3_isHeardOn cX3_isHeardOn 2 (some .boolean), Cond.methodLink RX3 165 yX6_isDisturbedBy, Cond.instanceMethod yX6_isDisturbedBy, Cond.selects RX6 yX6_isDisturbedBy yX6_isDisturbedBy, Cond.code yX6_isDisturbedBy cX6_isDisturbedBy 2 (some .boolean), Cond.methodLink RX6 53 yX6_bitToSend, Cond.methodLink RX3 169 yX6_giveWay, Cond.instanceMethod yX6_giveWay, Cond.selects RX6 yX6_giveWay yX6_giveWay, Cond.code yX6_giveWay cX6_giveWay 1 none, Cond.fieldLink RX6 57 "MainsWords$Sender" "number" "I", Cond.sameField "MainsWords$Sender" "MainsWords$Thing" "number" "I", Cond.methodLink RX3 172 yX6_goOn, Cond.instanceMethod yX6_goOn, Cond.selects RX6 yX6_goOn yX6_goOn, Cond.code yX6_goOn cX6_goOn 2 (some .boolean)]
def wsX8_pass_r8 : List Cond := [Cond.methodLink RX6 60 yX6_dropFirstWord, Cond.instanceMethod yX6_dropFirstWord, Cond.selects RX6 yX6_dropFirstWord yX6_dropFirstWord, Cond.code yX6_dropFirstWord cX6_dropFirstWord 2 none, Cond.methodLink RX3 127 yX3_takeBits, Cond.instanceMethod yX3_takeBits, Cond.selects RX3 yX3_takeBits yX3_takeBits, Cond.code yX3_takeBits cX3_takeBits 4 (some .int), Cond.static yX8_asNumber, Cond.code yX8_asNumber cX8_asNumber 1 (some .int), Cond.methodLink RX3 175 yX4_take, Cond.instanceMethod yX4_take, Cond.selects RX4 yX4_take yX4_take, Cond.code yX4_take cX4_take 2 (some .int), Cond.methodLink RX4 34 yX4_read, Cond.instanceMethod yX4_read, Cond.selects RX4 yX4_read yX4_read, Cond.code yX4_read cX4_read 2 (some .int), Cond.methodLink RX4 41 yX4_listenAnew, Cond.instanceMethod yX4_listenAnew, Cond.selects RX4 yX4_listenAnew yX4_listenAnew, Cond.code yX4_listenAnew cX4_listenAnew 1 none, Cond.methodLink RX4 38 yX4_listen, Cond.instanceMethod yX4_listen]
def wsX8_pass_r9 : List Cond := [Cond.selects RX4 yX4_listen yX4_listen, Cond.code yX4_listen cX4_listen 2 (some .int), Cond.methodLink RX3 179 yX3_hearWord, Cond.instanceMethod yX3_hearWord, Cond.selects RX3 yX3_hearWord yX3_hearWord, Cond.code yX3_hearWord cX3_hearWord 10 (some .int), Cond.methodLink RX3 183 yX4_tell, Cond.instanceMethod yX4_tell, Cond.selects RX4 yX4_tell yX4_tell, Cond.code yX4_tell cX4_tell 4 (some .boolean), Cond.methodLink RX3 187 yX1_isCalledBy, Cond.instanceMethod yX1_isCalledBy, Cond.selects RX1 yX1_isCalledBy yX1_isCalledBy, Cond.code yX1_isCalledBy cX1_isCalledBy 3 (some .boolean), Cond.fieldLink RX1 25 "MainsWords$Lamp" "isPresent" "Z", Cond.sameField "MainsWords$Lamp" "MainsWords$Thing" "isPresent" "Z", Cond.fieldLink RX1 28 "MainsWords$Lamp" "wire" "I", Cond.sameField "MainsWords$Lamp" "MainsWords$Thing" "wire" "I", Cond.methodLink RX3 190 yX4_isOpen, Cond.instanceMethod yX4_isOpen, Cond.selects RX4 yX4_isOpen yX4_isOpen, Cond.code yX4_isOpen cX4_isOpen 2 (some .boolean), Cond.methodLink RX3 193 yX1_obey, Cond.instanceMethod yX1_obey]
def wsX8_pass_r10 : List Cond := [Cond.selects RX1 yX1_obey yX1_obey, Cond.code yX1_obey cX1_obey 3 none, Cond.methodLink RX1 35 yX1_levelBy, Cond.instanceMethod yX1_levelBy, Cond.selects RX1 yX1_levelBy yX1_levelBy, Cond.code yX1_levelBy cX1_levelBy 2 (some .int), Cond.methodLink RX3 197 yX4_setOpen, Cond.instanceMethod yX4_setOpen, Cond.selects RX4 yX4_setOpen yX4_setOpen, Cond.code yX4_setOpen cX4_setOpen 3 none]
def wsX8_pass : List Cond := .code yX8_pass cX8_pass 2 (some .int) :: ((wsX8_pass_r1 ++ (wsX8_pass_r2 ++ (wsX8_pass_r3 ++ (wsX8_pass_r4 ++ (wsX8_pass_r5 ++ (wsX8_pass_r6 ++ (wsX8_pass_r7 ++ (wsX8_pass_r8 ++ (wsX8_pass_r9 ++ wsX8_pass_r10))))))))) ++ wsX80 ++ wsX00 ++ wsX30 ++ wsX60 ++ wsX10 ++ wsX20 ++ wsX40)
def wsX8_append : List Cond := .code yX8_append cX8_append 2 (some .int) :: ([.fieldLink RX8 36 "MainsWords" "script" "LMainsWords$Script;", .fieldLink RX8 136 "MainsWords$Script" "length" "I", .methodLink RX8 128 yX5_isFull, .instanceMethod yX5_isFull, .selects RX5 yX5_isFull yX5_isFull, .initialized RX5, .code yX5_isFull cX5_isFull 1 (some .boolean), .fieldLink RX5 15 "MainsWords$Script" "length" "I", .fieldLink RX5 9 "MainsWords$Script" "signs" "[I", .methodLink RX8 132 yX5_add, .instanceMethod yX5_add, .selects RX5 yX5_add yX5_add, .code yX5_add cX5_add 2 none] ++ wsX80 ++ wsX50)
def wsX8_clearText : List Cond := .code yX8_clearText cX8_clearText 2 (some .int) :: ([.fieldLink RX8 36 "MainsWords" "script" "LMainsWords$Script;", .fieldLink RX8 136 "MainsWords$Script" "length" "I"] ++ wsX80 ++ wsX50)
def wsX8_fault_r1 : List Cond := [Cond.fieldLink RX8 36 "MainsWords" "script" "LMainsWords$Script;", Cond.methodLink RX8 139 yX5_firstFault, Cond.instanceMethod yX5_firstFault, Cond.selects RX5 yX5_firstFault yX5_firstFault, Cond.initialized RX5, Cond.code yX5_firstFault cX5_firstFault 3 (some .int), Cond.fieldLink RX5 15 "MainsWords$Script" "length" "I", Cond.methodLink RX5 19 yX5_signAt, Cond.instanceMethod yX5_signAt, Cond.selects RX5 yX5_signAt yX5_signAt, Cond.code yX5_signAt cX5_signAt 2 (some .int), Cond.fieldLink RX5 9 "MainsWords$Script" "signs" "[I", Cond.methodLink RX5 23 yX5_next, Cond.static yX5_next, Cond.code yX5_next cX5_next 2 (some .int), Cond.methodLink RX5 27 yX5_isSenderDigit, Cond.static yX5_isSenderDigit, Cond.code yX5_isSenderDigit cX5_isSenderDigit 1 (some .boolean), Cond.methodLink RX5 37 yX5_isDigit, Cond.static yX5_isDigit, Cond.code yX5_isDigit cX5_isDigit 1 (some .boolean), Cond.methodLink RX5 31 yX5_isLetter, Cond.static yX5_isLetter, Cond.code yX5_isLetter cX5_isLetter 1 (some .boolean)]
def wsX8_fault_r2 : List Cond := [Cond.methodLink RX5 34 yX5_codeOf, Cond.static yX5_codeOf, Cond.code yX5_codeOf cX5_codeOf 1 (some .int)]
def wsX8_fault : List Cond := .code yX8_fault cX8_fault 1 (some .int) :: ((wsX8_fault_r1 ++ wsX8_fault_r2) ++ wsX80 ++ wsX50)
def wsX8_perform_r1 : List Cond := [Cond.fieldLink RX8 36 "MainsWords" "script" "LMainsWords$Script;", Cond.fieldLink RX8 29 "MainsWords" "history" "LMainsWords$History;", Cond.fieldLink RX8 10 "MainsWords" "now" "LMainsWords$Net;", Cond.fieldLink RX8 136 "MainsWords$Script" "length" "I", Cond.methodLink RX8 139 yX5_firstFault, Cond.instanceMethod yX5_firstFault, Cond.selects RX5 yX5_firstFault yX5_firstFault, Cond.initialized RX5, Cond.code yX5_firstFault cX5_firstFault 3 (some .int), Cond.fieldLink RX5 15 "MainsWords$Script" "length" "I", Cond.methodLink RX5 19 yX5_signAt, Cond.instanceMethod yX5_signAt, Cond.selects RX5 yX5_signAt yX5_signAt, Cond.code yX5_signAt cX5_signAt 2 (some .int), Cond.fieldLink RX5 9 "MainsWords$Script" "signs" "[I", Cond.methodLink RX5 23 yX5_next, Cond.static yX5_next, Cond.code yX5_next cX5_next 2 (some .int), Cond.methodLink RX5 27 yX5_isSenderDigit, Cond.static yX5_isSenderDigit, Cond.code yX5_isSenderDigit cX5_isSenderDigit 1 (some .boolean), Cond.methodLink RX5 37 yX5_isDigit, Cond.static yX5_isDigit, Cond.code yX5_isDigit cX5_isDigit 1 (some .boolean)]
def wsX8_perform_r2 : List Cond := [Cond.methodLink RX5 31 yX5_isLetter, Cond.static yX5_isLetter, Cond.code yX5_isLetter cX5_isLetter 1 (some .boolean), Cond.methodLink RX5 34 yX5_codeOf, Cond.static yX5_codeOf, Cond.code yX5_codeOf cX5_codeOf 1 (some .int), Cond.methodLink RX8 48 yX0_keep, Cond.instanceMethod yX0_keep, Cond.selects RX0 yX0_keep yX0_keep, Cond.initialized RX0, Cond.code yX0_keep cX0_keep 2 none, Cond.fieldLink RX0 17 "MainsWords$History" "kept" "I", Cond.fieldLink RX0 11 "MainsWords$History" "states" "[LMainsWords$Net;", Cond.methodLink RX0 22 yX0_dropOldest, Cond.instanceMethod yX0_dropOldest, Cond.selects RX0 yX0_dropOldest yX0_dropOldest, Cond.code yX0_dropOldest cX0_dropOldest 3 none, Cond.methodLink RX0 25 yX3_copyFrom, Cond.instanceMethod yX3_copyFrom, Cond.selects RX3 yX3_copyFrom yX3_copyFrom, Cond.initialized RX3, Cond.code yX3_copyFrom cX3_copyFrom 3 none, Cond.fieldLink RX3 11 "MainsWords$Net" "senders" "[LMainsWords$Sender;", Cond.fieldLink RX3 19 "MainsWords$Net" "machines" "[LMainsWords$Machine;"]
def wsX8_perform_r3 : List Cond := [Cond.fieldLink RX3 25 "MainsWords$Net" "lamps" "[LMainsWords$Lamp;", Cond.fieldLink RX3 31 "MainsWords$Net" "receivers" "[LMainsWords$Receiver;", Cond.fieldLink RX3 35 "MainsWords$Net" "settings" "[I", Cond.fieldLink RX3 39 "MainsWords$Net" "totals" "[I", Cond.fieldLink RX3 42 "MainsWords$Net" "time" "I", Cond.methodLink RX3 56 yX6_copyFrom, Cond.instanceMethod yX6_copyFrom, Cond.selects RX6 yX6_copyFrom yX6_copyFrom, Cond.initialized RX6, Cond.code yX6_copyFrom cX6_copyFrom 2 none, Cond.fieldLink RX6 9 "MainsWords$Sender" "queue" "[I", Cond.fieldLink RX6 15 "MainsWords$Sender" "queueLength" "I", Cond.fieldLink RX6 19 "MainsWords$Sender" "strength" "I", Cond.fieldLink RX6 22 "MainsWords$Sender" "speaks" "Z", Cond.fieldLink RX6 26 "MainsWords$Sender" "copy" "I", Cond.fieldLink RX6 29 "MainsWords$Sender" "place" "I", Cond.fieldLink RX6 32 "MainsWords$Sender" "pause" "I", Cond.methodLink RX6 41 ⟨"MainsWords$Sender", "copyThing", "(LMainsWords$Thing;)V"⟩, Cond.sameMethod "MainsWords$Sender" "MainsWords$Thing" "copyThing" "(LMainsWords$Thing;)V", Cond.selects RX6 ⟨"MainsWords$Sender", "copyThing", "(LMainsWords$Thing;)V"⟩ yX7_copyThing, Cond.instanceMethod yX7_copyThing, Cond.initialized RX7, Cond.code yX7_copyThing cX7_copyThing 2 none, Cond.fieldLink RX7 7 "MainsWords$Thing" "isPresent" "Z"]
def wsX8_perform_r4 : List Cond := [Cond.fieldLink RX7 13 "MainsWords$Thing" "wire" "I", Cond.static yX8_copyRow, Cond.initialized RX8, Cond.code yX8_copyRow cX8_copyRow 3 none, Cond.methodLink RX3 60 yX2_copyFrom, Cond.instanceMethod yX2_copyFrom, Cond.selects RX2 yX2_copyFrom yX2_copyFrom, Cond.initialized RX2, Cond.code yX2_copyFrom cX2_copyFrom 2 none, Cond.fieldLink RX2 9 "MainsWords$Machine" "strength" "I", Cond.fieldLink RX2 15 "MainsWords$Machine" "period" "I", Cond.fieldLink RX2 18 "MainsWords$Machine" "isOn" "Z", Cond.methodLink RX2 28 ⟨"MainsWords$Machine", "copyThing", "(LMainsWords$Thing;)V"⟩, Cond.sameMethod "MainsWords$Machine" "MainsWords$Thing" "copyThing" "(LMainsWords$Thing;)V", Cond.selects RX2 ⟨"MainsWords$Machine", "copyThing", "(LMainsWords$Thing;)V"⟩ yX7_copyThing, Cond.methodLink RX3 63 yX1_copyFrom, Cond.instanceMethod yX1_copyFrom, Cond.selects RX1 yX1_copyFrom yX1_copyFrom, Cond.initialized RX1, Cond.code yX1_copyFrom cX1_copyFrom 2 none, Cond.fieldLink RX1 9 "MainsWords$Lamp" "letter" "I", Cond.fieldLink RX1 15 "MainsWords$Lamp" "unit" "I", Cond.fieldLink RX1 18 "MainsWords$Lamp" "level" "I", Cond.fieldLink RX1 21 "MainsWords$Lamp" "isSelected" "Z"]
def wsX8_perform_r5 : List Cond := [Cond.methodLink RX1 31 ⟨"MainsWords$Lamp", "copyThing", "(LMainsWords$Thing;)V"⟩, Cond.sameMethod "MainsWords$Lamp" "MainsWords$Thing" "copyThing" "(LMainsWords$Thing;)V", Cond.selects RX1 ⟨"MainsWords$Lamp", "copyThing", "(LMainsWords$Thing;)V"⟩ yX7_copyThing, Cond.methodLink RX3 66 yX4_copyFrom, Cond.instanceMethod yX4_copyFrom, Cond.selects RX4 yX4_copyFrom yX4_copyFrom, Cond.initialized RX4, Cond.code yX4_copyFrom cX4_copyFrom 2 none, Cond.fieldLink RX4 9 "MainsWords$Receiver" "reads" "Z", Cond.fieldLink RX4 15 "MainsWords$Receiver" "latestBits" "I", Cond.fieldLink RX4 19 "MainsWords$Receiver" "bitsRead" "I", Cond.fieldLink RX4 22 "MainsWords$Receiver" "wordSoFar" "I", Cond.fieldLink RX4 25 "MainsWords$Receiver" "lastWord" "I", Cond.fieldLink RX4 28 "MainsWords$Receiver" "toldAt" "I", Cond.fieldLink RX4 31 "MainsWords$Receiver" "openLetters" "I", Cond.methodLink RX8 143 yX5_signAt, Cond.methodLink RX8 146 yX5_beatsBehind, Cond.instanceMethod yX5_beatsBehind, Cond.selects RX5 yX5_beatsBehind yX5_beatsBehind, Cond.code yX5_beatsBehind cX5_beatsBehind 4 (some .int), Cond.methodLink RX8 124 yX3_letPass, Cond.instanceMethod yX3_letPass, Cond.selects RX3 yX3_letPass yX3_letPass, Cond.code yX3_letPass cX3_letPass 4 (some .int)]
def wsX8_perform_r6 : List Cond := [Cond.methodLink RX3 114 yX3_beat, Cond.instanceMethod yX3_beat, Cond.selects RX3 yX3_beat yX3_beat, Cond.code yX3_beat cX3_beat 2 (some .int), Cond.methodLink RX3 118 yX3_beginSpeaking, Cond.instanceMethod yX3_beginSpeaking, Cond.selects RX3 yX3_beginSpeaking yX3_beginSpeaking, Cond.code yX3_beginSpeaking cX3_beginSpeaking 5 none, Cond.fieldLink RX3 89 "MainsWords$Sender" "isPresent" "Z", Cond.sameField "MainsWords$Sender" "MainsWords$Thing" "isPresent" "Z", Cond.fieldLink RX3 130 "MainsWords$Sender" "wire" "I", Cond.sameField "MainsWords$Sender" "MainsWords$Thing" "wire" "I", Cond.methodLink RX3 133 yX3_isQuietOn, Cond.instanceMethod yX3_isQuietOn, Cond.selects RX3 yX3_isQuietOn yX3_isQuietOn, Cond.code yX3_isQuietOn cX3_isQuietOn 2 (some .boolean), Cond.methodLink RX3 140 yX4_isQuiet, Cond.instanceMethod yX4_isQuiet, Cond.selects RX4 yX4_isQuiet yX4_isQuiet, Cond.code yX4_isQuiet cX4_isQuiet 1 (some .boolean), Cond.methodLink RX3 136 yX6_beginOrWait, Cond.instanceMethod yX6_beginOrWait, Cond.selects RX6 yX6_beginOrWait yX6_beginOrWait, Cond.code yX6_beginOrWait cX6_beginOrWait 2 none]
def wsX8_perform_r7 : List Cond := [Cond.methodLink RX3 121 yX3_carryBits, Cond.instanceMethod yX3_carryBits, Cond.selects RX3 yX3_carryBits yX3_carryBits, Cond.code yX3_carryBits cX3_carryBits 5 none, Cond.fieldLink RX3 46 "MainsWords$Net" "heard" "[Z", Cond.fieldLink RX3 146 "MainsWords$Sender" "strength" "I", Cond.fieldLink RX3 156 "MainsWords$Machine" "wire" "I", Cond.sameField "MainsWords$Machine" "MainsWords$Thing" "wire" "I", Cond.fieldLink RX3 157 "MainsWords$Machine" "strength" "I", Cond.methodLink RX3 81 yX6_isSpeaking, Cond.instanceMethod yX6_isSpeaking, Cond.selects RX6 yX6_isSpeaking yX6_isSpeaking, Cond.code yX6_isSpeaking cX6_isSpeaking 1 (some .boolean), Cond.fieldLink RX6 35 "MainsWords$Sender" "isPresent" "Z", Cond.methodLink RX3 143 yX6_bitToSend, Cond.instanceMethod yX6_bitToSend, Cond.selects RX6 yX6_bitToSend yX6_bitToSend, Cond.code yX6_bitToSend cX6_bitToSend 1 (some .int), Cond.static yX8_frameBit, Cond.code yX8_frameBit cX8_frameBit 4 (some .int), Cond.methodLink RX3 149 yX3_spreadOne, Cond.instanceMethod yX3_spreadOne, Cond.selects RX3 yX3_spreadOne yX3_spreadOne, Cond.code yX3_spreadOne cX3_spreadOne 4 none]
def wsX8_perform_r8 : List Cond := [Cond.methodLink RX3 158 yX3_lossBetween, Cond.instanceMethod yX3_lossBetween, Cond.selects RX3 yX3_lossBetween yX3_lossBetween, Cond.code yX3_lossBetween cX3_lossBetween 5 (some .int), Cond.methodLink RX3 153 yX2_makesNoiseAt, Cond.instanceMethod yX2_makesNoiseAt, Cond.selects RX2 yX2_makesNoiseAt yX2_makesNoiseAt, Cond.code yX2_makesNoiseAt cX2_makesNoiseAt 2 (some .boolean), Cond.fieldLink RX2 22 "MainsWords$Machine" "isPresent" "Z", Cond.sameField "MainsWords$Machine" "MainsWords$Thing" "isPresent" "Z", Cond.methodLink RX3 124 yX3_moveSenders, Cond.instanceMethod yX3_moveSenders, Cond.selects RX3 yX3_moveSenders yX3_moveSenders, Cond.code yX3_moveSenders cX3_moveSenders 5 none, Cond.methodLink RX3 162 yX3_isHeardOn, Cond.instanceMethod yX3_isHeardOn, Cond.selects RX3 yX3_isHeardOn yX3_isHeardOn, Cond.code yX3_isHeardOn cX3_isHeardOn 2 (some .boolean), Cond.methodLink RX3 165 yX6_isDisturbedBy, Cond.instanceMethod yX6_isDisturbedBy, Cond.selects RX6 yX6_isDisturbedBy yX6_isDisturbedBy, Cond.code yX6_isDisturbedBy cX6_isDisturbedBy 2 (some .boolean), Cond.methodLink RX6 53 yX6_bitToSend, Cond.methodLink RX3 169 yX6_giveWay]
def wsX8_perform_r9 : List Cond := [Cond.instanceMethod yX6_giveWay, Cond.selects RX6 yX6_giveWay yX6_giveWay, Cond.code yX6_giveWay cX6_giveWay 1 none, Cond.fieldLink RX6 57 "MainsWords$Sender" "number" "I", Cond.sameField "MainsWords$Sender" "MainsWords$Thing" "number" "I", Cond.methodLink RX3 172 yX6_goOn, Cond.instanceMethod yX6_goOn, Cond.selects RX6 yX6_goOn yX6_goOn, Cond.code yX6_goOn cX6_goOn 2 (some .boolean), Cond.methodLink RX6 60 yX6_dropFirstWord, Cond.instanceMethod yX6_dropFirstWord, Cond.selects RX6 yX6_dropFirstWord yX6_dropFirstWord, Cond.code yX6_dropFirstWord cX6_dropFirstWord 2 none, Cond.methodLink RX3 127 yX3_takeBits, Cond.instanceMethod yX3_takeBits, Cond.selects RX3 yX3_takeBits yX3_takeBits, Cond.code yX3_takeBits cX3_takeBits 4 (some .int), Cond.static yX8_asNumber, Cond.code yX8_asNumber cX8_asNumber 1 (some .int), Cond.methodLink RX3 175 yX4_take, Cond.instanceMethod yX4_take, Cond.selects RX4 yX4_take yX4_take, Cond.code yX4_take cX4_take 2 (some .int), Cond.methodLink RX4 34 yX4_read]
def wsX8_perform_r10 : List Cond := [Cond.instanceMethod yX4_read, Cond.selects RX4 yX4_read yX4_read, Cond.code yX4_read cX4_read 2 (some .int), Cond.methodLink RX4 41 yX4_listenAnew, Cond.instanceMethod yX4_listenAnew, Cond.selects RX4 yX4_listenAnew yX4_listenAnew, Cond.code yX4_listenAnew cX4_listenAnew 1 none, Cond.methodLink RX4 38 yX4_listen, Cond.instanceMethod yX4_listen, Cond.selects RX4 yX4_listen yX4_listen, Cond.code yX4_listen cX4_listen 2 (some .int), Cond.methodLink RX3 179 yX3_hearWord, Cond.instanceMethod yX3_hearWord, Cond.selects RX3 yX3_hearWord yX3_hearWord, Cond.code yX3_hearWord cX3_hearWord 10 (some .int), Cond.methodLink RX3 183 yX4_tell, Cond.instanceMethod yX4_tell, Cond.selects RX4 yX4_tell yX4_tell, Cond.code yX4_tell cX4_tell 4 (some .boolean), Cond.methodLink RX3 187 yX1_isCalledBy, Cond.instanceMethod yX1_isCalledBy, Cond.selects RX1 yX1_isCalledBy yX1_isCalledBy, Cond.code yX1_isCalledBy cX1_isCalledBy 3 (some .boolean), Cond.fieldLink RX1 25 "MainsWords$Lamp" "isPresent" "Z"]
def wsX8_perform_r11 : List Cond := [Cond.sameField "MainsWords$Lamp" "MainsWords$Thing" "isPresent" "Z", Cond.fieldLink RX1 28 "MainsWords$Lamp" "wire" "I", Cond.sameField "MainsWords$Lamp" "MainsWords$Thing" "wire" "I", Cond.methodLink RX3 190 yX4_isOpen, Cond.instanceMethod yX4_isOpen, Cond.selects RX4 yX4_isOpen yX4_isOpen, Cond.code yX4_isOpen cX4_isOpen 2 (some .boolean), Cond.methodLink RX3 193 yX1_obey, Cond.instanceMethod yX1_obey, Cond.selects RX1 yX1_obey yX1_obey, Cond.code yX1_obey cX1_obey 3 none, Cond.methodLink RX1 35 yX1_levelBy, Cond.instanceMethod yX1_levelBy, Cond.selects RX1 yX1_levelBy yX1_levelBy, Cond.code yX1_levelBy cX1_levelBy 2 (some .int), Cond.methodLink RX3 197 yX4_setOpen, Cond.instanceMethod yX4_setOpen, Cond.selects RX4 yX4_setOpen yX4_setOpen, Cond.code yX4_setOpen cX4_setOpen 3 none, Cond.methodLink RX8 149 yX5_isLetter, Cond.methodLink RX8 152 yX5_wordOf, Cond.static yX5_wordOf, Cond.code yX5_wordOf cX5_wordOf 2 (some .int), Cond.methodLink RX8 96 yX3_refusalOfWord]
def wsX8_perform_r12 : List Cond := [Cond.instanceMethod yX3_refusalOfWord, Cond.selects RX3 yX3_refusalOfWord yX3_refusalOfWord, Cond.code yX3_refusalOfWord cX3_refusalOfWord 4 (some .int), Cond.methodLink RX3 100 yX3_senderAt, Cond.instanceMethod yX3_senderAt, Cond.selects RX3 yX3_senderAt yX3_senderAt, Cond.code yX3_senderAt cX3_senderAt 4 (some (.object "MainsWords$Sender")), Cond.classLink RX3 9 "MainsWords$Sender", Cond.static yX8_presentAt, Cond.code yX8_presentAt cX8_presentAt 2 (some (.object "MainsWords$Thing")), Cond.fieldLink RX8 88 "MainsWords$Thing" "isPresent" "Z", Cond.static yX8_isWord, Cond.code yX8_isWord cX8_isWord 1 (some .boolean), Cond.methodLink RX3 108 yX6_isQueueFull, Cond.instanceMethod yX6_isQueueFull, Cond.selects RX6 yX6_isQueueFull yX6_isQueueFull, Cond.code yX6_isQueueFull cX6_isQueueFull 1 (some .boolean), Cond.methodLink RX8 100 yX3_giveWord, Cond.instanceMethod yX3_giveWord, Cond.selects RX3 yX3_giveWord yX3_giveWord, Cond.code yX3_giveWord cX3_giveWord 4 (some .int), Cond.fieldLink RX3 93 "MainsWords$Sender" "queueLength" "I", Cond.methodLink RX3 111 yX6_addWord, Cond.instanceMethod yX6_addWord]
def wsX8_perform_r13 : List Cond := [Cond.selects RX6 yX6_addWord yX6_addWord, Cond.code yX6_addWord cX6_addWord 2 none]
def wsX8_perform : List Cond := .code yX8_perform cX8_perform 7 (some .int) :: ((wsX8_perform_r1 ++ (wsX8_perform_r2 ++ (wsX8_perform_r3 ++ (wsX8_perform_r4 ++ (wsX8_perform_r5 ++ (wsX8_perform_r6 ++ (wsX8_perform_r7 ++ (wsX8_perform_r8 ++ (wsX8_perform_r9 ++ (wsX8_perform_r10 ++ (wsX8_perform_r11 ++ (wsX8_perform_r12 ++ wsX8_perform_r13)))))))))))) ++ wsX80 ++ wsX50 ++ wsX00 ++ wsX30 ++ wsX60 ++ wsX10 ++ wsX20 ++ wsX40)
def wsX8_undo_r1 : List Cond := [Cond.fieldLink RX8 29 "MainsWords" "history" "LMainsWords$History;", Cond.fieldLink RX8 10 "MainsWords" "now" "LMainsWords$Net;", Cond.fieldLink RX8 161 "MainsWords$History" "kept" "I", Cond.methodLink RX8 155 yX0_isEmpty, Cond.instanceMethod yX0_isEmpty, Cond.selects RX0 yX0_isEmpty yX0_isEmpty, Cond.initialized RX0, Cond.code yX0_isEmpty cX0_isEmpty 1 (some .boolean), Cond.fieldLink RX0 17 "MainsWords$History" "kept" "I", Cond.methodLink RX8 158 yX0_takeBack, Cond.instanceMethod yX0_takeBack, Cond.selects RX0 yX0_takeBack yX0_takeBack, Cond.code yX0_takeBack cX0_takeBack 2 none, Cond.fieldLink RX0 11 "MainsWords$History" "states" "[LMainsWords$Net;", Cond.methodLink RX0 25 yX3_copyFrom, Cond.instanceMethod yX3_copyFrom, Cond.selects RX3 yX3_copyFrom yX3_copyFrom, Cond.initialized RX3, Cond.code yX3_copyFrom cX3_copyFrom 3 none, Cond.fieldLink RX3 11 "MainsWords$Net" "senders" "[LMainsWords$Sender;", Cond.fieldLink RX3 19 "MainsWords$Net" "machines" "[LMainsWords$Machine;", Cond.fieldLink RX3 25 "MainsWords$Net" "lamps" "[LMainsWords$Lamp;", Cond.fieldLink RX3 31 "MainsWords$Net" "receivers" "[LMainsWords$Receiver;", Cond.fieldLink RX3 35 "MainsWords$Net" "settings" "[I"]
def wsX8_undo_r2 : List Cond := [Cond.fieldLink RX3 39 "MainsWords$Net" "totals" "[I", Cond.fieldLink RX3 42 "MainsWords$Net" "time" "I", Cond.methodLink RX3 56 yX6_copyFrom, Cond.instanceMethod yX6_copyFrom, Cond.selects RX6 yX6_copyFrom yX6_copyFrom, Cond.initialized RX6, Cond.code yX6_copyFrom cX6_copyFrom 2 none, Cond.fieldLink RX6 9 "MainsWords$Sender" "queue" "[I", Cond.fieldLink RX6 15 "MainsWords$Sender" "queueLength" "I", Cond.fieldLink RX6 19 "MainsWords$Sender" "strength" "I", Cond.fieldLink RX6 22 "MainsWords$Sender" "speaks" "Z", Cond.fieldLink RX6 26 "MainsWords$Sender" "copy" "I", Cond.fieldLink RX6 29 "MainsWords$Sender" "place" "I", Cond.fieldLink RX6 32 "MainsWords$Sender" "pause" "I", Cond.methodLink RX6 41 ⟨"MainsWords$Sender", "copyThing", "(LMainsWords$Thing;)V"⟩, Cond.sameMethod "MainsWords$Sender" "MainsWords$Thing" "copyThing" "(LMainsWords$Thing;)V", Cond.selects RX6 ⟨"MainsWords$Sender", "copyThing", "(LMainsWords$Thing;)V"⟩ yX7_copyThing, Cond.instanceMethod yX7_copyThing, Cond.initialized RX7, Cond.code yX7_copyThing cX7_copyThing 2 none, Cond.fieldLink RX7 7 "MainsWords$Thing" "isPresent" "Z", Cond.fieldLink RX7 13 "MainsWords$Thing" "wire" "I", Cond.static yX8_copyRow, Cond.initialized RX8]
def wsX8_undo_r3 : List Cond := [Cond.code yX8_copyRow cX8_copyRow 3 none, Cond.methodLink RX3 60 yX2_copyFrom, Cond.instanceMethod yX2_copyFrom, Cond.selects RX2 yX2_copyFrom yX2_copyFrom, Cond.initialized RX2, Cond.code yX2_copyFrom cX2_copyFrom 2 none, Cond.fieldLink RX2 9 "MainsWords$Machine" "strength" "I", Cond.fieldLink RX2 15 "MainsWords$Machine" "period" "I", Cond.fieldLink RX2 18 "MainsWords$Machine" "isOn" "Z", Cond.methodLink RX2 28 ⟨"MainsWords$Machine", "copyThing", "(LMainsWords$Thing;)V"⟩, Cond.sameMethod "MainsWords$Machine" "MainsWords$Thing" "copyThing" "(LMainsWords$Thing;)V", Cond.selects RX2 ⟨"MainsWords$Machine", "copyThing", "(LMainsWords$Thing;)V"⟩ yX7_copyThing, Cond.methodLink RX3 63 yX1_copyFrom, Cond.instanceMethod yX1_copyFrom, Cond.selects RX1 yX1_copyFrom yX1_copyFrom, Cond.initialized RX1, Cond.code yX1_copyFrom cX1_copyFrom 2 none, Cond.fieldLink RX1 9 "MainsWords$Lamp" "letter" "I", Cond.fieldLink RX1 15 "MainsWords$Lamp" "unit" "I", Cond.fieldLink RX1 18 "MainsWords$Lamp" "level" "I", Cond.fieldLink RX1 21 "MainsWords$Lamp" "isSelected" "Z", Cond.methodLink RX1 31 ⟨"MainsWords$Lamp", "copyThing", "(LMainsWords$Thing;)V"⟩, Cond.sameMethod "MainsWords$Lamp" "MainsWords$Thing" "copyThing" "(LMainsWords$Thing;)V", Cond.selects RX1 ⟨"MainsWords$Lamp", "copyThing", "(LMainsWords$Thing;)V"⟩ yX7_copyThing]
def wsX8_undo_r4 : List Cond := [Cond.methodLink RX3 66 yX4_copyFrom, Cond.instanceMethod yX4_copyFrom, Cond.selects RX4 yX4_copyFrom yX4_copyFrom, Cond.initialized RX4, Cond.code yX4_copyFrom cX4_copyFrom 2 none, Cond.fieldLink RX4 9 "MainsWords$Receiver" "reads" "Z", Cond.fieldLink RX4 15 "MainsWords$Receiver" "latestBits" "I", Cond.fieldLink RX4 19 "MainsWords$Receiver" "bitsRead" "I", Cond.fieldLink RX4 22 "MainsWords$Receiver" "wordSoFar" "I", Cond.fieldLink RX4 25 "MainsWords$Receiver" "lastWord" "I", Cond.fieldLink RX4 28 "MainsWords$Receiver" "toldAt" "I", Cond.fieldLink RX4 31 "MainsWords$Receiver" "openLetters" "I"]
def wsX8_undo : List Cond := .code yX8_undo cX8_undo 1 (some .int) :: ((wsX8_undo_r1 ++ (wsX8_undo_r2 ++ (wsX8_undo_r3 ++ wsX8_undo_r4))) ++ wsX80 ++ wsX00 ++ wsX30 ++ wsX60 ++ wsX10 ++ wsX20 ++ wsX40)
def wsX8_save_r1 : List Cond := [Cond.fieldLink RX8 19 "MainsWords" "snapshot" "LMainsWords$Net;", Cond.fieldLink RX8 10 "MainsWords" "now" "LMainsWords$Net;", Cond.fieldLink RX8 22 "MainsWords" "hasSnapshot" "Z", Cond.fieldLink RX8 167 "MainsWords$Net" "time" "I", Cond.methodLink RX8 164 yX3_copyFrom, Cond.instanceMethod yX3_copyFrom, Cond.selects RX3 yX3_copyFrom yX3_copyFrom, Cond.initialized RX3, Cond.code yX3_copyFrom cX3_copyFrom 3 none, Cond.fieldLink RX3 11 "MainsWords$Net" "senders" "[LMainsWords$Sender;", Cond.fieldLink RX3 19 "MainsWords$Net" "machines" "[LMainsWords$Machine;", Cond.fieldLink RX3 25 "MainsWords$Net" "lamps" "[LMainsWords$Lamp;", Cond.fieldLink RX3 31 "MainsWords$Net" "receivers" "[LMainsWords$Receiver;", Cond.fieldLink RX3 35 "MainsWords$Net" "settings" "[I", Cond.fieldLink RX3 39 "MainsWords$Net" "totals" "[I", Cond.fieldLink RX3 42 "MainsWords$Net" "time" "I", Cond.methodLink RX3 56 yX6_copyFrom, Cond.instanceMethod yX6_copyFrom, Cond.selects RX6 yX6_copyFrom yX6_copyFrom, Cond.initialized RX6, Cond.code yX6_copyFrom cX6_copyFrom 2 none, Cond.fieldLink RX6 9 "MainsWords$Sender" "queue" "[I", Cond.fieldLink RX6 15 "MainsWords$Sender" "queueLength" "I", Cond.fieldLink RX6 19 "MainsWords$Sender" "strength" "I"]
def wsX8_save_r2 : List Cond := [Cond.fieldLink RX6 22 "MainsWords$Sender" "speaks" "Z", Cond.fieldLink RX6 26 "MainsWords$Sender" "copy" "I", Cond.fieldLink RX6 29 "MainsWords$Sender" "place" "I", Cond.fieldLink RX6 32 "MainsWords$Sender" "pause" "I", Cond.methodLink RX6 41 ⟨"MainsWords$Sender", "copyThing", "(LMainsWords$Thing;)V"⟩, Cond.sameMethod "MainsWords$Sender" "MainsWords$Thing" "copyThing" "(LMainsWords$Thing;)V", Cond.selects RX6 ⟨"MainsWords$Sender", "copyThing", "(LMainsWords$Thing;)V"⟩ yX7_copyThing, Cond.instanceMethod yX7_copyThing, Cond.initialized RX7, Cond.code yX7_copyThing cX7_copyThing 2 none, Cond.fieldLink RX7 7 "MainsWords$Thing" "isPresent" "Z", Cond.fieldLink RX7 13 "MainsWords$Thing" "wire" "I", Cond.static yX8_copyRow, Cond.initialized RX8, Cond.code yX8_copyRow cX8_copyRow 3 none, Cond.methodLink RX3 60 yX2_copyFrom, Cond.instanceMethod yX2_copyFrom, Cond.selects RX2 yX2_copyFrom yX2_copyFrom, Cond.initialized RX2, Cond.code yX2_copyFrom cX2_copyFrom 2 none, Cond.fieldLink RX2 9 "MainsWords$Machine" "strength" "I", Cond.fieldLink RX2 15 "MainsWords$Machine" "period" "I", Cond.fieldLink RX2 18 "MainsWords$Machine" "isOn" "Z", Cond.methodLink RX2 28 ⟨"MainsWords$Machine", "copyThing", "(LMainsWords$Thing;)V"⟩]
def wsX8_save_r3 : List Cond := [Cond.sameMethod "MainsWords$Machine" "MainsWords$Thing" "copyThing" "(LMainsWords$Thing;)V", Cond.selects RX2 ⟨"MainsWords$Machine", "copyThing", "(LMainsWords$Thing;)V"⟩ yX7_copyThing, Cond.methodLink RX3 63 yX1_copyFrom, Cond.instanceMethod yX1_copyFrom, Cond.selects RX1 yX1_copyFrom yX1_copyFrom, Cond.initialized RX1, Cond.code yX1_copyFrom cX1_copyFrom 2 none, Cond.fieldLink RX1 9 "MainsWords$Lamp" "letter" "I", Cond.fieldLink RX1 15 "MainsWords$Lamp" "unit" "I", Cond.fieldLink RX1 18 "MainsWords$Lamp" "level" "I", Cond.fieldLink RX1 21 "MainsWords$Lamp" "isSelected" "Z", Cond.methodLink RX1 31 ⟨"MainsWords$Lamp", "copyThing", "(LMainsWords$Thing;)V"⟩, Cond.sameMethod "MainsWords$Lamp" "MainsWords$Thing" "copyThing" "(LMainsWords$Thing;)V", Cond.selects RX1 ⟨"MainsWords$Lamp", "copyThing", "(LMainsWords$Thing;)V"⟩ yX7_copyThing, Cond.methodLink RX3 66 yX4_copyFrom, Cond.instanceMethod yX4_copyFrom, Cond.selects RX4 yX4_copyFrom yX4_copyFrom, Cond.initialized RX4, Cond.code yX4_copyFrom cX4_copyFrom 2 none, Cond.fieldLink RX4 9 "MainsWords$Receiver" "reads" "Z", Cond.fieldLink RX4 15 "MainsWords$Receiver" "latestBits" "I", Cond.fieldLink RX4 19 "MainsWords$Receiver" "bitsRead" "I", Cond.fieldLink RX4 22 "MainsWords$Receiver" "wordSoFar" "I", Cond.fieldLink RX4 25 "MainsWords$Receiver" "lastWord" "I"]
def wsX8_save_r4 : List Cond := [Cond.fieldLink RX4 28 "MainsWords$Receiver" "toldAt" "I", Cond.fieldLink RX4 31 "MainsWords$Receiver" "openLetters" "I"]
def wsX8_save : List Cond := .code yX8_save cX8_save 1 (some .int) :: ((wsX8_save_r1 ++ (wsX8_save_r2 ++ (wsX8_save_r3 ++ wsX8_save_r4))) ++ wsX80 ++ wsX30 ++ wsX60 ++ wsX10 ++ wsX20 ++ wsX40)
def wsX8_restore_r1 : List Cond := [Cond.fieldLink RX8 22 "MainsWords" "hasSnapshot" "Z", Cond.fieldLink RX8 29 "MainsWords" "history" "LMainsWords$History;", Cond.fieldLink RX8 10 "MainsWords" "now" "LMainsWords$Net;", Cond.fieldLink RX8 19 "MainsWords" "snapshot" "LMainsWords$Net;", Cond.fieldLink RX8 167 "MainsWords$Net" "time" "I", Cond.methodLink RX8 48 yX0_keep, Cond.instanceMethod yX0_keep, Cond.selects RX0 yX0_keep yX0_keep, Cond.initialized RX0, Cond.code yX0_keep cX0_keep 2 none, Cond.fieldLink RX0 17 "MainsWords$History" "kept" "I", Cond.fieldLink RX0 11 "MainsWords$History" "states" "[LMainsWords$Net;", Cond.methodLink RX0 22 yX0_dropOldest, Cond.instanceMethod yX0_dropOldest, Cond.selects RX0 yX0_dropOldest yX0_dropOldest, Cond.code yX0_dropOldest cX0_dropOldest 3 none, Cond.methodLink RX0 25 yX3_copyFrom, Cond.instanceMethod yX3_copyFrom, Cond.selects RX3 yX3_copyFrom yX3_copyFrom, Cond.initialized RX3, Cond.code yX3_copyFrom cX3_copyFrom 3 none, Cond.fieldLink RX3 11 "MainsWords$Net" "senders" "[LMainsWords$Sender;", Cond.fieldLink RX3 19 "MainsWords$Net" "machines" "[LMainsWords$Machine;", Cond.fieldLink RX3 25 "MainsWords$Net" "lamps" "[LMainsWords$Lamp;"]
def wsX8_restore_r2 : List Cond := [Cond.fieldLink RX3 31 "MainsWords$Net" "receivers" "[LMainsWords$Receiver;", Cond.fieldLink RX3 35 "MainsWords$Net" "settings" "[I", Cond.fieldLink RX3 39 "MainsWords$Net" "totals" "[I", Cond.fieldLink RX3 42 "MainsWords$Net" "time" "I", Cond.methodLink RX3 56 yX6_copyFrom, Cond.instanceMethod yX6_copyFrom, Cond.selects RX6 yX6_copyFrom yX6_copyFrom, Cond.initialized RX6, Cond.code yX6_copyFrom cX6_copyFrom 2 none, Cond.fieldLink RX6 9 "MainsWords$Sender" "queue" "[I", Cond.fieldLink RX6 15 "MainsWords$Sender" "queueLength" "I", Cond.fieldLink RX6 19 "MainsWords$Sender" "strength" "I", Cond.fieldLink RX6 22 "MainsWords$Sender" "speaks" "Z", Cond.fieldLink RX6 26 "MainsWords$Sender" "copy" "I", Cond.fieldLink RX6 29 "MainsWords$Sender" "place" "I", Cond.fieldLink RX6 32 "MainsWords$Sender" "pause" "I", Cond.methodLink RX6 41 ⟨"MainsWords$Sender", "copyThing", "(LMainsWords$Thing;)V"⟩, Cond.sameMethod "MainsWords$Sender" "MainsWords$Thing" "copyThing" "(LMainsWords$Thing;)V", Cond.selects RX6 ⟨"MainsWords$Sender", "copyThing", "(LMainsWords$Thing;)V"⟩ yX7_copyThing, Cond.instanceMethod yX7_copyThing, Cond.initialized RX7, Cond.code yX7_copyThing cX7_copyThing 2 none, Cond.fieldLink RX7 7 "MainsWords$Thing" "isPresent" "Z", Cond.fieldLink RX7 13 "MainsWords$Thing" "wire" "I"]
def wsX8_restore_r3 : List Cond := [Cond.static yX8_copyRow, Cond.initialized RX8, Cond.code yX8_copyRow cX8_copyRow 3 none, Cond.methodLink RX3 60 yX2_copyFrom, Cond.instanceMethod yX2_copyFrom, Cond.selects RX2 yX2_copyFrom yX2_copyFrom, Cond.initialized RX2, Cond.code yX2_copyFrom cX2_copyFrom 2 none, Cond.fieldLink RX2 9 "MainsWords$Machine" "strength" "I", Cond.fieldLink RX2 15 "MainsWords$Machine" "period" "I", Cond.fieldLink RX2 18 "MainsWords$Machine" "isOn" "Z", Cond.methodLink RX2 28 ⟨"MainsWords$Machine", "copyThing", "(LMainsWords$Thing;)V"⟩, Cond.sameMethod "MainsWords$Machine" "MainsWords$Thing" "copyThing" "(LMainsWords$Thing;)V", Cond.selects RX2 ⟨"MainsWords$Machine", "copyThing", "(LMainsWords$Thing;)V"⟩ yX7_copyThing, Cond.methodLink RX3 63 yX1_copyFrom, Cond.instanceMethod yX1_copyFrom, Cond.selects RX1 yX1_copyFrom yX1_copyFrom, Cond.initialized RX1, Cond.code yX1_copyFrom cX1_copyFrom 2 none, Cond.fieldLink RX1 9 "MainsWords$Lamp" "letter" "I", Cond.fieldLink RX1 15 "MainsWords$Lamp" "unit" "I", Cond.fieldLink RX1 18 "MainsWords$Lamp" "level" "I", Cond.fieldLink RX1 21 "MainsWords$Lamp" "isSelected" "Z", Cond.methodLink RX1 31 ⟨"MainsWords$Lamp", "copyThing", "(LMainsWords$Thing;)V"⟩]
def wsX8_restore_r4 : List Cond := [Cond.sameMethod "MainsWords$Lamp" "MainsWords$Thing" "copyThing" "(LMainsWords$Thing;)V", Cond.selects RX1 ⟨"MainsWords$Lamp", "copyThing", "(LMainsWords$Thing;)V"⟩ yX7_copyThing, Cond.methodLink RX3 66 yX4_copyFrom, Cond.instanceMethod yX4_copyFrom, Cond.selects RX4 yX4_copyFrom yX4_copyFrom, Cond.initialized RX4, Cond.code yX4_copyFrom cX4_copyFrom 2 none, Cond.fieldLink RX4 9 "MainsWords$Receiver" "reads" "Z", Cond.fieldLink RX4 15 "MainsWords$Receiver" "latestBits" "I", Cond.fieldLink RX4 19 "MainsWords$Receiver" "bitsRead" "I", Cond.fieldLink RX4 22 "MainsWords$Receiver" "wordSoFar" "I", Cond.fieldLink RX4 25 "MainsWords$Receiver" "lastWord" "I", Cond.fieldLink RX4 28 "MainsWords$Receiver" "toldAt" "I", Cond.fieldLink RX4 31 "MainsWords$Receiver" "openLetters" "I", Cond.methodLink RX8 164 yX3_copyFrom]
def wsX8_restore : List Cond := .code yX8_restore cX8_restore 1 (some .int) :: ((wsX8_restore_r1 ++ (wsX8_restore_r2 ++ (wsX8_restore_r3 ++ wsX8_restore_r4))) ++ wsX80 ++ wsX30 ++ wsX00 ++ wsX60 ++ wsX10 ++ wsX20 ++ wsX40)
def wsX8_senderOf_r1 : List Cond := [Cond.fieldLink RX8 10 "MainsWords" "now" "LMainsWords$Net;", Cond.fieldLink RX8 174 "MainsWords$Sender" "wire" "I", Cond.sameField "MainsWords$Sender" "MainsWords$Thing" "wire" "I", Cond.fieldLink RX8 175 "MainsWords$Sender" "strength" "I", Cond.fieldLink RX8 178 "MainsWords$Sender" "queueLength" "I", Cond.fieldLink RX8 181 "MainsWords$Sender" "speaks" "Z", Cond.fieldLink RX8 184 "MainsWords$Sender" "place" "I", Cond.fieldLink RX8 187 "MainsWords$Sender" "copy" "I", Cond.fieldLink RX8 190 "MainsWords$Sender" "pause" "I", Cond.methodLink RX8 170 yX3_senderAt, Cond.instanceMethod yX3_senderAt, Cond.selects RX3 yX3_senderAt yX3_senderAt, Cond.initialized RX3, Cond.code yX3_senderAt cX3_senderAt 4 (some (.object "MainsWords$Sender")), Cond.fieldLink RX3 11 "MainsWords$Net" "senders" "[LMainsWords$Sender;", Cond.classLink RX3 9 "MainsWords$Sender", Cond.static yX8_presentAt, Cond.initialized RX8, Cond.code yX8_presentAt cX8_presentAt 2 (some (.object "MainsWords$Thing")), Cond.fieldLink RX8 88 "MainsWords$Thing" "isPresent" "Z", Cond.methodLink RX8 193 yX6_bitToSend, Cond.instanceMethod yX6_bitToSend, Cond.selects RX6 yX6_bitToSend yX6_bitToSend, Cond.initialized RX6]
def wsX8_senderOf_r2 : List Cond := [Cond.code yX6_bitToSend cX6_bitToSend 1 (some .int), Cond.fieldLink RX6 29 "MainsWords$Sender" "place" "I", Cond.fieldLink RX6 9 "MainsWords$Sender" "queue" "[I", Cond.static yX8_frameBit, Cond.code yX8_frameBit cX8_frameBit 4 (some .int)]
def wsX8_senderOf : List Cond := .code yX8_senderOf cX8_senderOf 4 (some .int) :: ((wsX8_senderOf_r1 ++ wsX8_senderOf_r2) ++ wsX80 ++ wsX10 ++ wsX20 ++ wsX60 ++ wsX30)
def wsX8_queued : List Cond := .code yX8_queued cX8_queued 4 (some .int) :: ([.fieldLink RX8 10 "MainsWords" "now" "LMainsWords$Net;", .methodLink RX8 170 yX3_senderAt, .instanceMethod yX3_senderAt, .selects RX3 yX3_senderAt yX3_senderAt, .initialized RX3, .code yX3_senderAt cX3_senderAt 4 (some (.object "MainsWords$Sender")), .fieldLink RX3 11 "MainsWords$Net" "senders" "[LMainsWords$Sender;", .classLink RX3 9 "MainsWords$Sender", .static yX8_presentAt, .initialized RX8, .code yX8_presentAt cX8_presentAt 2 (some (.object "MainsWords$Thing")), .fieldLink RX8 88 "MainsWords$Thing" "isPresent" "Z", .methodLink RX8 196 yX6_wordAt, .instanceMethod yX6_wordAt, .selects RX6 yX6_wordAt yX6_wordAt, .initialized RX6, .code yX6_wordAt cX6_wordAt 2 (some .int), .fieldLink RX6 15 "MainsWords$Sender" "queueLength" "I", .fieldLink RX6 9 "MainsWords$Sender" "queue" "[I"] ++ wsX80 ++ wsX30 ++ wsX10 ++ wsX20 ++ wsX60)
def wsX8_machineOf : List Cond := .code yX8_machineOf cX8_machineOf 4 (some .int) :: ([.fieldLink RX8 10 "MainsWords" "now" "LMainsWords$Net;", .fieldLink RX8 199 "MainsWords$Machine" "wire" "I", .sameField "MainsWords$Machine" "MainsWords$Thing" "wire" "I", .fieldLink RX8 200 "MainsWords$Machine" "strength" "I", .fieldLink RX8 201 "MainsWords$Machine" "period" "I", .fieldLink RX8 107 "MainsWords$Machine" "isOn" "Z", .methodLink RX8 103 yX3_machineAt, .instanceMethod yX3_machineAt, .selects RX3 yX3_machineAt yX3_machineAt, .initialized RX3, .code yX3_machineAt cX3_machineAt 4 (some (.object "MainsWords$Machine")), .fieldLink RX3 19 "MainsWords$Net" "machines" "[LMainsWords$Machine;", .classLink RX3 17 "MainsWords$Machine", .static yX8_presentAt, .initialized RX8, .code yX8_presentAt cX8_presentAt 2 (some (.object "MainsWords$Thing")), .fieldLink RX8 88 "MainsWords$Thing" "isPresent" "Z", .methodLink RX8 110 yX8_asNumber, .static yX8_asNumber, .code yX8_asNumber cX8_asNumber 1 (some .int)] ++ wsX80 ++ wsX10 ++ wsX20 ++ wsX60 ++ wsX30)
def wsX8_lampOf : List Cond := .code yX8_lampOf cX8_lampOf 4 (some .int) :: ([.fieldLink RX8 10 "MainsWords" "now" "LMainsWords$Net;", .fieldLink RX8 208 "MainsWords$Lamp" "wire" "I", .sameField "MainsWords$Lamp" "MainsWords$Thing" "wire" "I", .fieldLink RX8 209 "MainsWords$Lamp" "letter" "I", .fieldLink RX8 212 "MainsWords$Lamp" "unit" "I", .fieldLink RX8 215 "MainsWords$Lamp" "level" "I", .fieldLink RX8 218 "MainsWords$Lamp" "isSelected" "Z", .methodLink RX8 204 yX3_lampAt, .instanceMethod yX3_lampAt, .selects RX3 yX3_lampAt yX3_lampAt, .initialized RX3, .code yX3_lampAt cX3_lampAt 4 (some (.object "MainsWords$Lamp")), .fieldLink RX3 25 "MainsWords$Net" "lamps" "[LMainsWords$Lamp;", .classLink RX3 23 "MainsWords$Lamp", .static yX8_presentAt, .initialized RX8, .code yX8_presentAt cX8_presentAt 2 (some (.object "MainsWords$Thing")), .fieldLink RX8 88 "MainsWords$Thing" "isPresent" "Z", .methodLink RX8 110 yX8_asNumber, .static yX8_asNumber, .code yX8_asNumber cX8_asNumber 1 (some .int)] ++ wsX80 ++ wsX10 ++ wsX20 ++ wsX60 ++ wsX30)
def wsX8_receiver : List Cond := .code yX8_receiver cX8_receiver 4 (some .int) :: ([.fieldLink RX8 10 "MainsWords" "now" "LMainsWords$Net;", .fieldLink RX8 221 "MainsWords$Net" "receivers" "[LMainsWords$Receiver;", .fieldLink RX8 225 "MainsWords$Receiver" "reads" "Z", .fieldLink RX8 230 "MainsWords$Receiver" "bitsRead" "I", .fieldLink RX8 233 "MainsWords$Receiver" "latestBits" "I", .fieldLink RX8 236 "MainsWords$Receiver" "lastWord" "I", .fieldLink RX8 167 "MainsWords$Net" "time" "I", .fieldLink RX8 239 "MainsWords$Receiver" "toldAt" "I", .fieldLink RX8 242 "MainsWords$Receiver" "openLetters" "I", .methodLink RX8 40 yX8_isWire, .static yX8_isWire, .initialized RX8, .code yX8_isWire cX8_isWire 1 (some .boolean)] ++ wsX80 ++ wsX30 ++ wsX40)
def wsX8_frame : List Cond := .code yX8_frame cX8_frame 3 (some .int) :: ([.methodLink RX8 245 yX8_isWord, .static yX8_isWord, .initialized RX8, .code yX8_isWord cX8_isWord 1 (some .boolean), .methodLink RX8 248 yX8_frameBit, .static yX8_frameBit, .code yX8_frameBit cX8_frameBit 4 (some .int)])
def wsX8_loss : List Cond := .code yX8_loss cX8_loss 3 (some .int) :: ([.fieldLink RX8 10 "MainsWords" "now" "LMainsWords$Net;", .methodLink RX8 40 yX8_isWire, .static yX8_isWire, .initialized RX8, .code yX8_isWire cX8_isWire 1 (some .boolean), .methodLink RX8 251 yX3_lossBetween, .instanceMethod yX3_lossBetween, .selects RX3 yX3_lossBetween yX3_lossBetween, .initialized RX3, .code yX3_lossBetween cX3_lossBetween 5 (some .int), .fieldLink RX3 35 "MainsWords$Net" "settings" "[I"] ++ wsX80 ++ wsX30)
def wsX8_presentIn : List Cond := .code yX8_presentIn cX8_presentIn 6 (some .int) :: ([.fieldLink RX8 88 "MainsWords$Thing" "isPresent" "Z", .methodLink RX8 110 yX8_asNumber, .static yX8_asNumber, .initialized RX8, .code yX8_asNumber cX8_asNumber 1 (some .int)] ++ wsX10 ++ wsX20 ++ wsX60)
def wsX8_count_r1 : List Cond := [Cond.fieldLink RX8 10 "MainsWords" "now" "LMainsWords$Net;", Cond.fieldLink RX8 167 "MainsWords$Net" "time" "I", Cond.fieldLink RX8 254 "MainsWords$Net" "senders" "[LMainsWords$Sender;", Cond.fieldLink RX8 262 "MainsWords$Net" "machines" "[LMainsWords$Machine;", Cond.fieldLink RX8 266 "MainsWords$Net" "lamps" "[LMainsWords$Lamp;", Cond.fieldLink RX8 121 "MainsWords$Net" "settings" "[I", Cond.fieldLink RX8 29 "MainsWords" "history" "LMainsWords$History;", Cond.fieldLink RX8 161 "MainsWords$History" "kept" "I", Cond.fieldLink RX8 36 "MainsWords" "script" "LMainsWords$Script;", Cond.fieldLink RX8 136 "MainsWords$Script" "length" "I", Cond.methodLink RX8 258 yX8_presentIn, Cond.static yX8_presentIn, Cond.initialized RX8, Cond.code yX8_presentIn cX8_presentIn 6 (some .int), Cond.fieldLink RX8 88 "MainsWords$Thing" "isPresent" "Z", Cond.methodLink RX8 110 yX8_asNumber, Cond.static yX8_asNumber, Cond.code yX8_asNumber cX8_asNumber 1 (some .int), Cond.methodLink RX8 270 yX3_speakingSenders, Cond.instanceMethod yX3_speakingSenders, Cond.selects RX3 yX3_speakingSenders yX3_speakingSenders, Cond.initialized RX3, Cond.code yX3_speakingSenders cX3_speakingSenders 6 (some .int), Cond.fieldLink RX3 11 "MainsWords$Net" "senders" "[LMainsWords$Sender;"]
def wsX8_count_r2 : List Cond := [Cond.methodLink RX3 81 yX6_isSpeaking, Cond.instanceMethod yX6_isSpeaking, Cond.selects RX6 yX6_isSpeaking yX6_isSpeaking, Cond.initialized RX6, Cond.code yX6_isSpeaking cX6_isSpeaking 1 (some .boolean), Cond.fieldLink RX6 35 "MainsWords$Sender" "isPresent" "Z", Cond.sameField "MainsWords$Sender" "MainsWords$Thing" "isPresent" "Z", Cond.fieldLink RX6 22 "MainsWords$Sender" "speaks" "Z", Cond.methodLink RX8 273 yX3_queuedWords, Cond.instanceMethod yX3_queuedWords, Cond.selects RX3 yX3_queuedWords yX3_queuedWords, Cond.code yX3_queuedWords cX3_queuedWords 6 (some .int), Cond.fieldLink RX3 89 "MainsWords$Sender" "isPresent" "Z", Cond.fieldLink RX3 93 "MainsWords$Sender" "queueLength" "I", Cond.methodLink RX8 276 yX3_litLamps, Cond.instanceMethod yX3_litLamps, Cond.selects RX3 yX3_litLamps yX3_litLamps, Cond.code yX3_litLamps cX3_litLamps 6 (some .int), Cond.fieldLink RX3 25 "MainsWords$Net" "lamps" "[LMainsWords$Lamp;", Cond.fieldLink RX3 96 "MainsWords$Lamp" "isPresent" "Z", Cond.sameField "MainsWords$Lamp" "MainsWords$Thing" "isPresent" "Z", Cond.fieldLink RX3 97 "MainsWords$Lamp" "level" "I"]
def wsX8_count : List Cond := .code yX8_count cX8_count 2 (some .int) :: ((wsX8_count_r1 ++ wsX8_count_r2) ++ wsX80 ++ wsX30 ++ wsX00 ++ wsX50 ++ wsX10 ++ wsX20 ++ wsX60)
def wsX8_total : List Cond := .code yX8_total cX8_total 2 (some .int) :: ([.fieldLink RX8 10 "MainsWords" "now" "LMainsWords$Net;", .fieldLink RX8 279 "MainsWords$Net" "totals" "[I"] ++ wsX80 ++ wsX30)
def wsX8_silentIn_r1 : List Cond := [Cond.fieldLink RX8 16 "MainsWords" "ahead" "LMainsWords$Net;", Cond.fieldLink RX8 10 "MainsWords" "now" "LMainsWords$Net;", Cond.methodLink RX8 164 yX3_copyFrom, Cond.instanceMethod yX3_copyFrom, Cond.selects RX3 yX3_copyFrom yX3_copyFrom, Cond.initialized RX3, Cond.code yX3_copyFrom cX3_copyFrom 3 none, Cond.fieldLink RX3 11 "MainsWords$Net" "senders" "[LMainsWords$Sender;", Cond.fieldLink RX3 19 "MainsWords$Net" "machines" "[LMainsWords$Machine;", Cond.fieldLink RX3 25 "MainsWords$Net" "lamps" "[LMainsWords$Lamp;", Cond.fieldLink RX3 31 "MainsWords$Net" "receivers" "[LMainsWords$Receiver;", Cond.fieldLink RX3 35 "MainsWords$Net" "settings" "[I", Cond.fieldLink RX3 39 "MainsWords$Net" "totals" "[I", Cond.fieldLink RX3 42 "MainsWords$Net" "time" "I", Cond.methodLink RX3 56 yX6_copyFrom, Cond.instanceMethod yX6_copyFrom, Cond.selects RX6 yX6_copyFrom yX6_copyFrom, Cond.initialized RX6, Cond.code yX6_copyFrom cX6_copyFrom 2 none, Cond.fieldLink RX6 9 "MainsWords$Sender" "queue" "[I", Cond.fieldLink RX6 15 "MainsWords$Sender" "queueLength" "I", Cond.fieldLink RX6 19 "MainsWords$Sender" "strength" "I", Cond.fieldLink RX6 22 "MainsWords$Sender" "speaks" "Z", Cond.fieldLink RX6 26 "MainsWords$Sender" "copy" "I"]
def wsX8_silentIn_r2 : List Cond := [Cond.fieldLink RX6 29 "MainsWords$Sender" "place" "I", Cond.fieldLink RX6 32 "MainsWords$Sender" "pause" "I", Cond.methodLink RX6 41 ⟨"MainsWords$Sender", "copyThing", "(LMainsWords$Thing;)V"⟩, Cond.sameMethod "MainsWords$Sender" "MainsWords$Thing" "copyThing" "(LMainsWords$Thing;)V", Cond.selects RX6 ⟨"MainsWords$Sender", "copyThing", "(LMainsWords$Thing;)V"⟩ yX7_copyThing, Cond.instanceMethod yX7_copyThing, Cond.initialized RX7, Cond.code yX7_copyThing cX7_copyThing 2 none, Cond.fieldLink RX7 7 "MainsWords$Thing" "isPresent" "Z", Cond.fieldLink RX7 13 "MainsWords$Thing" "wire" "I", Cond.static yX8_copyRow, Cond.initialized RX8, Cond.code yX8_copyRow cX8_copyRow 3 none, Cond.methodLink RX3 60 yX2_copyFrom, Cond.instanceMethod yX2_copyFrom, Cond.selects RX2 yX2_copyFrom yX2_copyFrom, Cond.initialized RX2, Cond.code yX2_copyFrom cX2_copyFrom 2 none, Cond.fieldLink RX2 9 "MainsWords$Machine" "strength" "I", Cond.fieldLink RX2 15 "MainsWords$Machine" "period" "I", Cond.fieldLink RX2 18 "MainsWords$Machine" "isOn" "Z", Cond.methodLink RX2 28 ⟨"MainsWords$Machine", "copyThing", "(LMainsWords$Thing;)V"⟩, Cond.sameMethod "MainsWords$Machine" "MainsWords$Thing" "copyThing" "(LMainsWords$Thing;)V", Cond.selects RX2 ⟨"MainsWords$Machine", "copyThing", "(LMainsWords$Thing;)V"⟩ yX7_copyThing]
def wsX8_silentIn_r3 : List Cond := [Cond.methodLink RX3 63 yX1_copyFrom, Cond.instanceMethod yX1_copyFrom, Cond.selects RX1 yX1_copyFrom yX1_copyFrom, Cond.initialized RX1, Cond.code yX1_copyFrom cX1_copyFrom 2 none, Cond.fieldLink RX1 9 "MainsWords$Lamp" "letter" "I", Cond.fieldLink RX1 15 "MainsWords$Lamp" "unit" "I", Cond.fieldLink RX1 18 "MainsWords$Lamp" "level" "I", Cond.fieldLink RX1 21 "MainsWords$Lamp" "isSelected" "Z", Cond.methodLink RX1 31 ⟨"MainsWords$Lamp", "copyThing", "(LMainsWords$Thing;)V"⟩, Cond.sameMethod "MainsWords$Lamp" "MainsWords$Thing" "copyThing" "(LMainsWords$Thing;)V", Cond.selects RX1 ⟨"MainsWords$Lamp", "copyThing", "(LMainsWords$Thing;)V"⟩ yX7_copyThing, Cond.methodLink RX3 66 yX4_copyFrom, Cond.instanceMethod yX4_copyFrom, Cond.selects RX4 yX4_copyFrom yX4_copyFrom, Cond.initialized RX4, Cond.code yX4_copyFrom cX4_copyFrom 2 none, Cond.fieldLink RX4 9 "MainsWords$Receiver" "reads" "Z", Cond.fieldLink RX4 15 "MainsWords$Receiver" "latestBits" "I", Cond.fieldLink RX4 19 "MainsWords$Receiver" "bitsRead" "I", Cond.fieldLink RX4 22 "MainsWords$Receiver" "wordSoFar" "I", Cond.fieldLink RX4 25 "MainsWords$Receiver" "lastWord" "I", Cond.fieldLink RX4 28 "MainsWords$Receiver" "toldAt" "I", Cond.fieldLink RX4 31 "MainsWords$Receiver" "openLetters" "I"]
def wsX8_silentIn_r4 : List Cond := [Cond.methodLink RX8 273 yX3_queuedWords, Cond.instanceMethod yX3_queuedWords, Cond.selects RX3 yX3_queuedWords yX3_queuedWords, Cond.code yX3_queuedWords cX3_queuedWords 6 (some .int), Cond.fieldLink RX3 89 "MainsWords$Sender" "isPresent" "Z", Cond.sameField "MainsWords$Sender" "MainsWords$Thing" "isPresent" "Z", Cond.fieldLink RX3 93 "MainsWords$Sender" "queueLength" "I", Cond.methodLink RX8 282 yX3_beat, Cond.instanceMethod yX3_beat, Cond.selects RX3 yX3_beat yX3_beat, Cond.code yX3_beat cX3_beat 2 (some .int), Cond.methodLink RX3 118 yX3_beginSpeaking, Cond.instanceMethod yX3_beginSpeaking, Cond.selects RX3 yX3_beginSpeaking yX3_beginSpeaking, Cond.code yX3_beginSpeaking cX3_beginSpeaking 5 none, Cond.fieldLink RX3 130 "MainsWords$Sender" "wire" "I", Cond.sameField "MainsWords$Sender" "MainsWords$Thing" "wire" "I", Cond.methodLink RX3 133 yX3_isQuietOn, Cond.instanceMethod yX3_isQuietOn, Cond.selects RX3 yX3_isQuietOn yX3_isQuietOn, Cond.code yX3_isQuietOn cX3_isQuietOn 2 (some .boolean), Cond.methodLink RX3 140 yX4_isQuiet, Cond.instanceMethod yX4_isQuiet, Cond.selects RX4 yX4_isQuiet yX4_isQuiet]
def wsX8_silentIn_r5 : List Cond := [Cond.code yX4_isQuiet cX4_isQuiet 1 (some .boolean), Cond.methodLink RX3 136 yX6_beginOrWait, Cond.instanceMethod yX6_beginOrWait, Cond.selects RX6 yX6_beginOrWait yX6_beginOrWait, Cond.code yX6_beginOrWait cX6_beginOrWait 2 none, Cond.methodLink RX3 121 yX3_carryBits, Cond.instanceMethod yX3_carryBits, Cond.selects RX3 yX3_carryBits yX3_carryBits, Cond.code yX3_carryBits cX3_carryBits 5 none, Cond.fieldLink RX3 46 "MainsWords$Net" "heard" "[Z", Cond.fieldLink RX3 146 "MainsWords$Sender" "strength" "I", Cond.fieldLink RX3 156 "MainsWords$Machine" "wire" "I", Cond.sameField "MainsWords$Machine" "MainsWords$Thing" "wire" "I", Cond.fieldLink RX3 157 "MainsWords$Machine" "strength" "I", Cond.methodLink RX3 81 yX6_isSpeaking, Cond.instanceMethod yX6_isSpeaking, Cond.selects RX6 yX6_isSpeaking yX6_isSpeaking, Cond.code yX6_isSpeaking cX6_isSpeaking 1 (some .boolean), Cond.fieldLink RX6 35 "MainsWords$Sender" "isPresent" "Z", Cond.methodLink RX3 143 yX6_bitToSend, Cond.instanceMethod yX6_bitToSend, Cond.selects RX6 yX6_bitToSend yX6_bitToSend, Cond.code yX6_bitToSend cX6_bitToSend 1 (some .int), Cond.static yX8_frameBit]
def wsX8_silentIn_r6 : List Cond := [Cond.code yX8_frameBit cX8_frameBit 4 (some .int), Cond.methodLink RX3 149 yX3_spreadOne, Cond.instanceMethod yX3_spreadOne, Cond.selects RX3 yX3_spreadOne yX3_spreadOne, Cond.code yX3_spreadOne cX3_spreadOne 4 none, Cond.methodLink RX3 158 yX3_lossBetween, Cond.instanceMethod yX3_lossBetween, Cond.selects RX3 yX3_lossBetween yX3_lossBetween, Cond.code yX3_lossBetween cX3_lossBetween 5 (some .int), Cond.methodLink RX3 153 yX2_makesNoiseAt, Cond.instanceMethod yX2_makesNoiseAt, Cond.selects RX2 yX2_makesNoiseAt yX2_makesNoiseAt, Cond.code yX2_makesNoiseAt cX2_makesNoiseAt 2 (some .boolean), Cond.fieldLink RX2 22 "MainsWords$Machine" "isPresent" "Z", Cond.sameField "MainsWords$Machine" "MainsWords$Thing" "isPresent" "Z", Cond.methodLink RX3 124 yX3_moveSenders, Cond.instanceMethod yX3_moveSenders, Cond.selects RX3 yX3_moveSenders yX3_moveSenders, Cond.code yX3_moveSenders cX3_moveSenders 5 none, Cond.methodLink RX3 162 yX3_isHeardOn, Cond.instanceMethod yX3_isHeardOn, Cond.selects RX3 yX3_isHeardOn yX3_isHeardOn, Cond.code yX3_isHeardOn cX3_isHeardOn 2 (some .boolean), Cond.methodLink RX3 165 yX6_isDisturbedBy]
def wsX8_silentIn_r7 : List Cond := [Cond.instanceMethod yX6_isDisturbedBy, Cond.selects RX6 yX6_isDisturbedBy yX6_isDisturbedBy, Cond.code yX6_isDisturbedBy cX6_isDisturbedBy 2 (some .boolean), Cond.methodLink RX6 53 yX6_bitToSend, Cond.methodLink RX3 169 yX6_giveWay, Cond.instanceMethod yX6_giveWay, Cond.selects RX6 yX6_giveWay yX6_giveWay, Cond.code yX6_giveWay cX6_giveWay 1 none, Cond.fieldLink RX6 57 "MainsWords$Sender" "number" "I", Cond.sameField "MainsWords$Sender" "MainsWords$Thing" "number" "I", Cond.methodLink RX3 172 yX6_goOn, Cond.instanceMethod yX6_goOn, Cond.selects RX6 yX6_goOn yX6_goOn, Cond.code yX6_goOn cX6_goOn 2 (some .boolean), Cond.methodLink RX6 60 yX6_dropFirstWord, Cond.instanceMethod yX6_dropFirstWord, Cond.selects RX6 yX6_dropFirstWord yX6_dropFirstWord, Cond.code yX6_dropFirstWord cX6_dropFirstWord 2 none, Cond.methodLink RX3 127 yX3_takeBits, Cond.instanceMethod yX3_takeBits, Cond.selects RX3 yX3_takeBits yX3_takeBits, Cond.code yX3_takeBits cX3_takeBits 4 (some .int), Cond.static yX8_asNumber, Cond.code yX8_asNumber cX8_asNumber 1 (some .int)]
def wsX8_silentIn_r8 : List Cond := [Cond.methodLink RX3 175 yX4_take, Cond.instanceMethod yX4_take, Cond.selects RX4 yX4_take yX4_take, Cond.code yX4_take cX4_take 2 (some .int), Cond.methodLink RX4 34 yX4_read, Cond.instanceMethod yX4_read, Cond.selects RX4 yX4_read yX4_read, Cond.code yX4_read cX4_read 2 (some .int), Cond.methodLink RX4 41 yX4_listenAnew, Cond.instanceMethod yX4_listenAnew, Cond.selects RX4 yX4_listenAnew yX4_listenAnew, Cond.code yX4_listenAnew cX4_listenAnew 1 none, Cond.methodLink RX4 38 yX4_listen, Cond.instanceMethod yX4_listen, Cond.selects RX4 yX4_listen yX4_listen, Cond.code yX4_listen cX4_listen 2 (some .int), Cond.methodLink RX3 179 yX3_hearWord, Cond.instanceMethod yX3_hearWord, Cond.selects RX3 yX3_hearWord yX3_hearWord, Cond.code yX3_hearWord cX3_hearWord 10 (some .int), Cond.methodLink RX3 183 yX4_tell, Cond.instanceMethod yX4_tell, Cond.selects RX4 yX4_tell yX4_tell, Cond.code yX4_tell cX4_tell 4 (some .boolean)]
def wsX8_silentIn_r9 : List Cond := [Cond.methodLink RX3 187 yX1_isCalledBy, Cond.instanceMethod yX1_isCalledBy, Cond.selects RX1 yX1_isCalledBy yX1_isCalledBy, Cond.code yX1_isCalledBy cX1_isCalledBy 3 (some .boolean), Cond.fieldLink RX1 25 "MainsWords$Lamp" "isPresent" "Z", Cond.sameField "MainsWords$Lamp" "MainsWords$Thing" "isPresent" "Z", Cond.fieldLink RX1 28 "MainsWords$Lamp" "wire" "I", Cond.sameField "MainsWords$Lamp" "MainsWords$Thing" "wire" "I", Cond.methodLink RX3 190 yX4_isOpen, Cond.instanceMethod yX4_isOpen, Cond.selects RX4 yX4_isOpen yX4_isOpen, Cond.code yX4_isOpen cX4_isOpen 2 (some .boolean), Cond.methodLink RX3 193 yX1_obey, Cond.instanceMethod yX1_obey, Cond.selects RX1 yX1_obey yX1_obey, Cond.code yX1_obey cX1_obey 3 none, Cond.methodLink RX1 35 yX1_levelBy, Cond.instanceMethod yX1_levelBy, Cond.selects RX1 yX1_levelBy yX1_levelBy, Cond.code yX1_levelBy cX1_levelBy 2 (some .int), Cond.methodLink RX3 197 yX4_setOpen, Cond.instanceMethod yX4_setOpen, Cond.selects RX4 yX4_setOpen yX4_setOpen, Cond.code yX4_setOpen cX4_setOpen 3 none]
def wsX8_silentIn : List Cond := .code yX8_silentIn cX8_silentIn 2 (some .int) :: ((wsX8_silentIn_r1 ++ (wsX8_silentIn_r2 ++ (wsX8_silentIn_r3 ++ (wsX8_silentIn_r4 ++ (wsX8_silentIn_r5 ++ (wsX8_silentIn_r6 ++ (wsX8_silentIn_r7 ++ (wsX8_silentIn_r8 ++ wsX8_silentIn_r9)))))))) ++ wsX80 ++ wsX30 ++ wsX60 ++ wsX10 ++ wsX20 ++ wsX40)
def wsX8_levelIn_r1 : List Cond := [Cond.fieldLink RX8 10 "MainsWords" "now" "LMainsWords$Net;", Cond.fieldLink RX8 16 "MainsWords" "ahead" "LMainsWords$Net;", Cond.fieldLink RX8 215 "MainsWords$Lamp" "level" "I", Cond.methodLink RX8 204 yX3_lampAt, Cond.instanceMethod yX3_lampAt, Cond.selects RX3 yX3_lampAt yX3_lampAt, Cond.initialized RX3, Cond.code yX3_lampAt cX3_lampAt 4 (some (.object "MainsWords$Lamp")), Cond.fieldLink RX3 25 "MainsWords$Net" "lamps" "[LMainsWords$Lamp;", Cond.classLink RX3 23 "MainsWords$Lamp", Cond.static yX8_presentAt, Cond.initialized RX8, Cond.code yX8_presentAt cX8_presentAt 2 (some (.object "MainsWords$Thing")), Cond.fieldLink RX8 88 "MainsWords$Thing" "isPresent" "Z", Cond.methodLink RX8 164 yX3_copyFrom, Cond.instanceMethod yX3_copyFrom, Cond.selects RX3 yX3_copyFrom yX3_copyFrom, Cond.code yX3_copyFrom cX3_copyFrom 3 none, Cond.fieldLink RX3 11 "MainsWords$Net" "senders" "[LMainsWords$Sender;", Cond.fieldLink RX3 19 "MainsWords$Net" "machines" "[LMainsWords$Machine;", Cond.fieldLink RX3 31 "MainsWords$Net" "receivers" "[LMainsWords$Receiver;", Cond.fieldLink RX3 35 "MainsWords$Net" "settings" "[I", Cond.fieldLink RX3 39 "MainsWords$Net" "totals" "[I", Cond.fieldLink RX3 42 "MainsWords$Net" "time" "I"]
def wsX8_levelIn_r2 : List Cond := [Cond.methodLink RX3 56 yX6_copyFrom, Cond.instanceMethod yX6_copyFrom, Cond.selects RX6 yX6_copyFrom yX6_copyFrom, Cond.initialized RX6, Cond.code yX6_copyFrom cX6_copyFrom 2 none, Cond.fieldLink RX6 9 "MainsWords$Sender" "queue" "[I", Cond.fieldLink RX6 15 "MainsWords$Sender" "queueLength" "I", Cond.fieldLink RX6 19 "MainsWords$Sender" "strength" "I", Cond.fieldLink RX6 22 "MainsWords$Sender" "speaks" "Z", Cond.fieldLink RX6 26 "MainsWords$Sender" "copy" "I", Cond.fieldLink RX6 29 "MainsWords$Sender" "place" "I", Cond.fieldLink RX6 32 "MainsWords$Sender" "pause" "I", Cond.methodLink RX6 41 ⟨"MainsWords$Sender", "copyThing", "(LMainsWords$Thing;)V"⟩, Cond.sameMethod "MainsWords$Sender" "MainsWords$Thing" "copyThing" "(LMainsWords$Thing;)V", Cond.selects RX6 ⟨"MainsWords$Sender", "copyThing", "(LMainsWords$Thing;)V"⟩ yX7_copyThing, Cond.instanceMethod yX7_copyThing, Cond.initialized RX7, Cond.code yX7_copyThing cX7_copyThing 2 none, Cond.fieldLink RX7 7 "MainsWords$Thing" "isPresent" "Z", Cond.fieldLink RX7 13 "MainsWords$Thing" "wire" "I", Cond.static yX8_copyRow, Cond.code yX8_copyRow cX8_copyRow 3 none, Cond.methodLink RX3 60 yX2_copyFrom, Cond.instanceMethod yX2_copyFrom]
def wsX8_levelIn_r3 : List Cond := [Cond.selects RX2 yX2_copyFrom yX2_copyFrom, Cond.initialized RX2, Cond.code yX2_copyFrom cX2_copyFrom 2 none, Cond.fieldLink RX2 9 "MainsWords$Machine" "strength" "I", Cond.fieldLink RX2 15 "MainsWords$Machine" "period" "I", Cond.fieldLink RX2 18 "MainsWords$Machine" "isOn" "Z", Cond.methodLink RX2 28 ⟨"MainsWords$Machine", "copyThing", "(LMainsWords$Thing;)V"⟩, Cond.sameMethod "MainsWords$Machine" "MainsWords$Thing" "copyThing" "(LMainsWords$Thing;)V", Cond.selects RX2 ⟨"MainsWords$Machine", "copyThing", "(LMainsWords$Thing;)V"⟩ yX7_copyThing, Cond.methodLink RX3 63 yX1_copyFrom, Cond.instanceMethod yX1_copyFrom, Cond.selects RX1 yX1_copyFrom yX1_copyFrom, Cond.initialized RX1, Cond.code yX1_copyFrom cX1_copyFrom 2 none, Cond.fieldLink RX1 9 "MainsWords$Lamp" "letter" "I", Cond.fieldLink RX1 15 "MainsWords$Lamp" "unit" "I", Cond.fieldLink RX1 18 "MainsWords$Lamp" "level" "I", Cond.fieldLink RX1 21 "MainsWords$Lamp" "isSelected" "Z", Cond.methodLink RX1 31 ⟨"MainsWords$Lamp", "copyThing", "(LMainsWords$Thing;)V"⟩, Cond.sameMethod "MainsWords$Lamp" "MainsWords$Thing" "copyThing" "(LMainsWords$Thing;)V", Cond.selects RX1 ⟨"MainsWords$Lamp", "copyThing", "(LMainsWords$Thing;)V"⟩ yX7_copyThing, Cond.methodLink RX3 66 yX4_copyFrom, Cond.instanceMethod yX4_copyFrom, Cond.selects RX4 yX4_copyFrom yX4_copyFrom]
def wsX8_levelIn_r4 : List Cond := [Cond.initialized RX4, Cond.code yX4_copyFrom cX4_copyFrom 2 none, Cond.fieldLink RX4 9 "MainsWords$Receiver" "reads" "Z", Cond.fieldLink RX4 15 "MainsWords$Receiver" "latestBits" "I", Cond.fieldLink RX4 19 "MainsWords$Receiver" "bitsRead" "I", Cond.fieldLink RX4 22 "MainsWords$Receiver" "wordSoFar" "I", Cond.fieldLink RX4 25 "MainsWords$Receiver" "lastWord" "I", Cond.fieldLink RX4 28 "MainsWords$Receiver" "toldAt" "I", Cond.fieldLink RX4 31 "MainsWords$Receiver" "openLetters" "I", Cond.methodLink RX8 124 yX3_letPass, Cond.instanceMethod yX3_letPass, Cond.selects RX3 yX3_letPass yX3_letPass, Cond.code yX3_letPass cX3_letPass 4 (some .int), Cond.methodLink RX3 114 yX3_beat, Cond.instanceMethod yX3_beat, Cond.selects RX3 yX3_beat yX3_beat, Cond.code yX3_beat cX3_beat 2 (some .int), Cond.methodLink RX3 118 yX3_beginSpeaking, Cond.instanceMethod yX3_beginSpeaking, Cond.selects RX3 yX3_beginSpeaking yX3_beginSpeaking, Cond.code yX3_beginSpeaking cX3_beginSpeaking 5 none, Cond.fieldLink RX3 89 "MainsWords$Sender" "isPresent" "Z", Cond.sameField "MainsWords$Sender" "MainsWords$Thing" "isPresent" "Z", Cond.fieldLink RX3 130 "MainsWords$Sender" "wire" "I"]
def wsX8_levelIn_r5 : List Cond := [Cond.sameField "MainsWords$Sender" "MainsWords$Thing" "wire" "I", Cond.methodLink RX3 133 yX3_isQuietOn, Cond.instanceMethod yX3_isQuietOn, Cond.selects RX3 yX3_isQuietOn yX3_isQuietOn, Cond.code yX3_isQuietOn cX3_isQuietOn 2 (some .boolean), Cond.methodLink RX3 140 yX4_isQuiet, Cond.instanceMethod yX4_isQuiet, Cond.selects RX4 yX4_isQuiet yX4_isQuiet, Cond.code yX4_isQuiet cX4_isQuiet 1 (some .boolean), Cond.methodLink RX3 136 yX6_beginOrWait, Cond.instanceMethod yX6_beginOrWait, Cond.selects RX6 yX6_beginOrWait yX6_beginOrWait, Cond.code yX6_beginOrWait cX6_beginOrWait 2 none, Cond.methodLink RX3 121 yX3_carryBits, Cond.instanceMethod yX3_carryBits, Cond.selects RX3 yX3_carryBits yX3_carryBits, Cond.code yX3_carryBits cX3_carryBits 5 none, Cond.fieldLink RX3 46 "MainsWords$Net" "heard" "[Z", Cond.fieldLink RX3 146 "MainsWords$Sender" "strength" "I", Cond.fieldLink RX3 156 "MainsWords$Machine" "wire" "I", Cond.sameField "MainsWords$Machine" "MainsWords$Thing" "wire" "I", Cond.fieldLink RX3 157 "MainsWords$Machine" "strength" "I", Cond.methodLink RX3 81 yX6_isSpeaking, Cond.instanceMethod yX6_isSpeaking]
def wsX8_levelIn_r6 : List Cond := [Cond.selects RX6 yX6_isSpeaking yX6_isSpeaking, Cond.code yX6_isSpeaking cX6_isSpeaking 1 (some .boolean), Cond.fieldLink RX6 35 "MainsWords$Sender" "isPresent" "Z", Cond.methodLink RX3 143 yX6_bitToSend, Cond.instanceMethod yX6_bitToSend, Cond.selects RX6 yX6_bitToSend yX6_bitToSend, Cond.code yX6_bitToSend cX6_bitToSend 1 (some .int), Cond.static yX8_frameBit, Cond.code yX8_frameBit cX8_frameBit 4 (some .int), Cond.methodLink RX3 149 yX3_spreadOne, Cond.instanceMethod yX3_spreadOne, Cond.selects RX3 yX3_spreadOne yX3_spreadOne, Cond.code yX3_spreadOne cX3_spreadOne 4 none, Cond.methodLink RX3 158 yX3_lossBetween, Cond.instanceMethod yX3_lossBetween, Cond.selects RX3 yX3_lossBetween yX3_lossBetween, Cond.code yX3_lossBetween cX3_lossBetween 5 (some .int), Cond.methodLink RX3 153 yX2_makesNoiseAt, Cond.instanceMethod yX2_makesNoiseAt, Cond.selects RX2 yX2_makesNoiseAt yX2_makesNoiseAt, Cond.code yX2_makesNoiseAt cX2_makesNoiseAt 2 (some .boolean), Cond.fieldLink RX2 22 "MainsWords$Machine" "isPresent" "Z", Cond.sameField "MainsWords$Machine" "MainsWords$Thing" "isPresent" "Z", Cond.methodLink RX3 124 yX3_moveSenders]
def wsX8_levelIn_r7 : List Cond := [Cond.instanceMethod yX3_moveSenders, Cond.selects RX3 yX3_moveSenders yX3_moveSenders, Cond.code yX3_moveSenders cX3_moveSenders 5 none, Cond.methodLink RX3 162 yX3_isHeardOn, Cond.instanceMethod yX3_isHeardOn, Cond.selects RX3 yX3_isHeardOn yX3_isHeardOn, Cond.code yX3_isHeardOn cX3_isHeardOn 2 (some .boolean), Cond.methodLink RX3 165 yX6_isDisturbedBy, Cond.instanceMethod yX6_isDisturbedBy, Cond.selects RX6 yX6_isDisturbedBy yX6_isDisturbedBy, Cond.code yX6_isDisturbedBy cX6_isDisturbedBy 2 (some .boolean), Cond.methodLink RX6 53 yX6_bitToSend, Cond.methodLink RX3 169 yX6_giveWay, Cond.instanceMethod yX6_giveWay, Cond.selects RX6 yX6_giveWay yX6_giveWay, Cond.code yX6_giveWay cX6_giveWay 1 none, Cond.fieldLink RX6 57 "MainsWords$Sender" "number" "I", Cond.sameField "MainsWords$Sender" "MainsWords$Thing" "number" "I", Cond.methodLink RX3 172 yX6_goOn, Cond.instanceMethod yX6_goOn, Cond.selects RX6 yX6_goOn yX6_goOn, Cond.code yX6_goOn cX6_goOn 2 (some .boolean), Cond.methodLink RX6 60 yX6_dropFirstWord, Cond.instanceMethod yX6_dropFirstWord]
def wsX8_levelIn_r8 : List Cond := [Cond.selects RX6 yX6_dropFirstWord yX6_dropFirstWord, Cond.code yX6_dropFirstWord cX6_dropFirstWord 2 none, Cond.methodLink RX3 127 yX3_takeBits, Cond.instanceMethod yX3_takeBits, Cond.selects RX3 yX3_takeBits yX3_takeBits, Cond.code yX3_takeBits cX3_takeBits 4 (some .int), Cond.static yX8_asNumber, Cond.code yX8_asNumber cX8_asNumber 1 (some .int), Cond.methodLink RX3 175 yX4_take, Cond.instanceMethod yX4_take, Cond.selects RX4 yX4_take yX4_take, Cond.code yX4_take cX4_take 2 (some .int), Cond.methodLink RX4 34 yX4_read, Cond.instanceMethod yX4_read, Cond.selects RX4 yX4_read yX4_read, Cond.code yX4_read cX4_read 2 (some .int), Cond.methodLink RX4 41 yX4_listenAnew, Cond.instanceMethod yX4_listenAnew, Cond.selects RX4 yX4_listenAnew yX4_listenAnew, Cond.code yX4_listenAnew cX4_listenAnew 1 none, Cond.methodLink RX4 38 yX4_listen, Cond.instanceMethod yX4_listen, Cond.selects RX4 yX4_listen yX4_listen, Cond.code yX4_listen cX4_listen 2 (some .int)]
def wsX8_levelIn_r9 : List Cond := [Cond.methodLink RX3 179 yX3_hearWord, Cond.instanceMethod yX3_hearWord, Cond.selects RX3 yX3_hearWord yX3_hearWord, Cond.code yX3_hearWord cX3_hearWord 10 (some .int), Cond.methodLink RX3 183 yX4_tell, Cond.instanceMethod yX4_tell, Cond.selects RX4 yX4_tell yX4_tell, Cond.code yX4_tell cX4_tell 4 (some .boolean), Cond.methodLink RX3 187 yX1_isCalledBy, Cond.instanceMethod yX1_isCalledBy, Cond.selects RX1 yX1_isCalledBy yX1_isCalledBy, Cond.code yX1_isCalledBy cX1_isCalledBy 3 (some .boolean), Cond.fieldLink RX1 25 "MainsWords$Lamp" "isPresent" "Z", Cond.sameField "MainsWords$Lamp" "MainsWords$Thing" "isPresent" "Z", Cond.fieldLink RX1 28 "MainsWords$Lamp" "wire" "I", Cond.sameField "MainsWords$Lamp" "MainsWords$Thing" "wire" "I", Cond.methodLink RX3 190 yX4_isOpen, Cond.instanceMethod yX4_isOpen, Cond.selects RX4 yX4_isOpen yX4_isOpen, Cond.code yX4_isOpen cX4_isOpen 2 (some .boolean), Cond.methodLink RX3 193 yX1_obey, Cond.instanceMethod yX1_obey, Cond.selects RX1 yX1_obey yX1_obey, Cond.code yX1_obey cX1_obey 3 none]
def wsX8_levelIn_r10 : List Cond := [Cond.methodLink RX1 35 yX1_levelBy, Cond.instanceMethod yX1_levelBy, Cond.selects RX1 yX1_levelBy yX1_levelBy, Cond.code yX1_levelBy cX1_levelBy 2 (some .int), Cond.methodLink RX3 197 yX4_setOpen, Cond.instanceMethod yX4_setOpen, Cond.selects RX4 yX4_setOpen yX4_setOpen, Cond.code yX4_setOpen cX4_setOpen 3 none]
def wsX8_levelIn : List Cond := .code yX8_levelIn cX8_levelIn 4 (some .int) :: ((wsX8_levelIn_r1 ++ (wsX8_levelIn_r2 ++ (wsX8_levelIn_r3 ++ (wsX8_levelIn_r4 ++ (wsX8_levelIn_r5 ++ (wsX8_levelIn_r6 ++ (wsX8_levelIn_r7 ++ (wsX8_levelIn_r8 ++ (wsX8_levelIn_r9 ++ wsX8_levelIn_r10))))))))) ++ wsX80 ++ wsX10 ++ wsX30 ++ wsX20 ++ wsX60 ++ wsX40)
def wsX8_freshness : List Cond := .code yX8_freshness cX8_freshness 2 (some .float) :: ([.fieldLink RX8 10 "MainsWords" "now" "LMainsWords$Net;", .fieldLink RX8 279 "MainsWords$Net" "totals" "[I"] ++ wsX80 ++ wsX30)
def wsX9_r : List Cond := .code yX9_r cX9_r 1 (some .int) :: ([])
def wsX9_init : List Cond := .code yX9_init cX9_init 2 none :: ([.methodLink RX9 1 objectInit, .instanceMethod objectInit, .code objectInit ⟨#[0xb1]⟩ 1 none, .arrayClass .int, .fieldLink RX9 7 "MainsWordsModel" "s" "[I", .fieldLink RX9 13 "MainsWordsModel" "spare" "[I", .fieldLink RX9 16 "MainsWordsModel" "trial" "[I", .fieldLink RX9 19 "MainsWordsModel" "before" "[I", .fieldLink RX9 22 "MainsWordsModel" "saved" "[I", .fieldLink RX9 25 "MainsWordsModel" "heard" "[I", .fieldLink RX9 28 "MainsWordsModel" "bits" "[I", .arrayClass .boolean, .fieldLink RX9 31 "MainsWordsModel" "begins" "[Z", .fieldLink RX9 35 "MainsWordsModel" "read" "[I", .arrayClass .char, .fieldLink RX9 38 "MainsWordsModel" "text" "[C", .methodLink RX9 42 yX9_r, .static yX9_r, .initialized RX9, .code yX9_r cX9_r 1 (some .int)] ++ wsX90)
def wsX9_in : List Cond := .code yX9_in cX9_in 3 (some .boolean) :: ([])
def wsX9_n : List Cond := .code yX9_n cX9_n 1 (some .int) :: ([])
def wsX9_m : List Cond := .code yX9_m cX9_m 1 (some .int) :: ([])
def wsX9_l : List Cond := .code yX9_l cX9_l 1 (some .int) :: ([])
def wsX9_isWire : List Cond := .code yX9_isWire cX9_isWire 1 (some .boolean) :: ([.methodLink RX9 46 yX9_in, .static yX9_in, .initialized RX9, .code yX9_in cX9_in 3 (some .boolean)])
def wsX9_isSender : List Cond := .code yX9_isSender cX9_isSender 2 (some .boolean) :: ([.fieldLink RX9 7 "MainsWordsModel" "s" "[I", .methodLink RX9 46 yX9_in, .static yX9_in, .initialized RX9, .code yX9_in cX9_in 3 (some .boolean), .methodLink RX9 50 yX9_n, .static yX9_n, .code yX9_n cX9_n 1 (some .int)] ++ wsX90)
def wsX9_isMachine : List Cond := .code yX9_isMachine cX9_isMachine 2 (some .boolean) :: ([.fieldLink RX9 7 "MainsWordsModel" "s" "[I", .methodLink RX9 46 yX9_in, .static yX9_in, .initialized RX9, .code yX9_in cX9_in 3 (some .boolean), .methodLink RX9 53 yX9_m, .static yX9_m, .code yX9_m cX9_m 1 (some .int)] ++ wsX90)
def wsX9_isLamp : List Cond := .code yX9_isLamp cX9_isLamp 2 (some .boolean) :: ([.fieldLink RX9 7 "MainsWordsModel" "s" "[I", .methodLink RX9 46 yX9_in, .static yX9_in, .initialized RX9, .code yX9_in cX9_in 3 (some .boolean), .methodLink RX9 56 yX9_l, .static yX9_l, .code yX9_l cX9_l 1 (some .int)] ++ wsX90)
def wsX9_hold : List Cond := .code yX9_hold cX9_hold 2 none :: ([.fieldLink RX9 13 "MainsWordsModel" "spare" "[I", .fieldLink RX9 7 "MainsWordsModel" "s" "[I"] ++ wsX90)
def wsX9_recorded : List Cond := .code yX9_recorded cX9_recorded 3 (some .int) :: ([.fieldLink RX9 59 "MainsWordsModel" "states" "I", .fieldLink RX9 19 "MainsWordsModel" "before" "[I", .fieldLink RX9 13 "MainsWordsModel" "spare" "[I"] ++ wsX90)
def wsX9_keepTrial : List Cond := .code yX9_keepTrial cX9_keepTrial 2 none :: ([.fieldLink RX9 16 "MainsWordsModel" "trial" "[I", .fieldLink RX9 7 "MainsWordsModel" "s" "[I"] ++ wsX90)
def wsX9_putBack : List Cond := .code yX9_putBack cX9_putBack 2 none :: ([.fieldLink RX9 7 "MainsWordsModel" "s" "[I", .fieldLink RX9 16 "MainsWordsModel" "trial" "[I"] ++ wsX90)
def wsX9_frameBit : List Cond := .code yX9_frameBit cX9_frameBit 3 (some .int) :: ([])
def wsX9_lossOf : List Cond := .code yX9_lossOf cX9_lossOf 4 (some .int) :: ([.fieldLink RX9 7 "MainsWordsModel" "s" "[I"] ++ wsX90)
def wsX9_bitOf : List Cond := .code yX9_bitOf cX9_bitOf 2 (some .int) :: ([.fieldLink RX9 7 "MainsWordsModel" "s" "[I", .methodLink RX9 50 yX9_n, .static yX9_n, .initialized RX9, .code yX9_n cX9_n 1 (some .int), .methodLink RX9 63 yX9_frameBit, .static yX9_frameBit, .code yX9_frameBit cX9_frameBit 3 (some .int)] ++ wsX90)
def wsX9_begin : List Cond := .code yX9_begin cX9_begin 5 none :: ([.fieldLink RX9 7 "MainsWordsModel" "s" "[I", .fieldLink RX9 31 "MainsWordsModel" "begins" "[Z", .methodLink RX9 50 yX9_n, .static yX9_n, .initialized RX9, .code yX9_n cX9_n 1 (some .int), .methodLink RX9 42 yX9_r, .static yX9_r, .code yX9_r cX9_r 1 (some .int), .methodLink RX9 67 yX9_isSender, .instanceMethod yX9_isSender, .selects RX9 yX9_isSender yX9_isSender, .code yX9_isSender cX9_isSender 2 (some .boolean), .methodLink RX9 46 yX9_in, .static yX9_in, .code yX9_in cX9_in 3 (some .boolean)] ++ wsX90)
def wsX9_sound : List Cond := .code yX9_sound cX9_sound 4 none :: ([.fieldLink RX9 25 "MainsWordsModel" "heard" "[I", .fieldLink RX9 7 "MainsWordsModel" "s" "[I", .methodLink RX9 71 yX9_lossOf, .instanceMethod yX9_lossOf, .selects RX9 yX9_lossOf yX9_lossOf, .initialized RX9, .code yX9_lossOf cX9_lossOf 4 (some .int)] ++ wsX90)
def wsX9_send_r1 : List Cond := [Cond.fieldLink RX9 25 "MainsWordsModel" "heard" "[I", Cond.fieldLink RX9 7 "MainsWordsModel" "s" "[I", Cond.fieldLink RX9 28 "MainsWordsModel" "bits" "[I", Cond.methodLink RX9 67 yX9_isSender, Cond.instanceMethod yX9_isSender, Cond.selects RX9 yX9_isSender yX9_isSender, Cond.initialized RX9, Cond.code yX9_isSender cX9_isSender 2 (some .boolean), Cond.methodLink RX9 46 yX9_in, Cond.static yX9_in, Cond.code yX9_in cX9_in 3 (some .boolean), Cond.methodLink RX9 50 yX9_n, Cond.static yX9_n, Cond.code yX9_n cX9_n 1 (some .int), Cond.methodLink RX9 74 yX9_bitOf, Cond.instanceMethod yX9_bitOf, Cond.selects RX9 yX9_bitOf yX9_bitOf, Cond.code yX9_bitOf cX9_bitOf 2 (some .int), Cond.methodLink RX9 63 yX9_frameBit, Cond.static yX9_frameBit, Cond.code yX9_frameBit cX9_frameBit 3 (some .int), Cond.methodLink RX9 77 yX9_sound, Cond.instanceMethod yX9_sound, Cond.selects RX9 yX9_sound yX9_sound]
def wsX9_send_r2 : List Cond := [Cond.code yX9_sound cX9_sound 4 none, Cond.methodLink RX9 71 yX9_lossOf, Cond.instanceMethod yX9_lossOf, Cond.selects RX9 yX9_lossOf yX9_lossOf, Cond.code yX9_lossOf cX9_lossOf 4 (some .int), Cond.methodLink RX9 53 yX9_m, Cond.static yX9_m, Cond.code yX9_m cX9_m 1 (some .int), Cond.methodLink RX9 81 yX9_isMachine, Cond.instanceMethod yX9_isMachine, Cond.selects RX9 yX9_isMachine yX9_isMachine, Cond.code yX9_isMachine cX9_isMachine 2 (some .boolean)]
def wsX9_send : List Cond := .code yX9_send cX9_send 3 none :: ((wsX9_send_r1 ++ wsX9_send_r2) ++ wsX90)
def wsX9_finish : List Cond := .code yX9_finish cX9_finish 3 none :: ([.fieldLink RX9 7 "MainsWordsModel" "s" "[I"] ++ wsX90)
def wsX9_goOn : List Cond := .code yX9_goOn cX9_goOn 3 none :: ([.fieldLink RX9 7 "MainsWordsModel" "s" "[I", .fieldLink RX9 28 "MainsWordsModel" "bits" "[I", .fieldLink RX9 25 "MainsWordsModel" "heard" "[I", .methodLink RX9 50 yX9_n, .static yX9_n, .initialized RX9, .code yX9_n cX9_n 1 (some .int), .methodLink RX9 84 yX9_finish, .instanceMethod yX9_finish, .selects RX9 yX9_finish yX9_finish, .code yX9_finish cX9_finish 3 none] ++ wsX90)
def wsX9_isOf : List Cond := .code yX9_isOf cX9_isOf 4 (some .boolean) :: ([.fieldLink RX9 7 "MainsWordsModel" "s" "[I", .methodLink RX9 88 yX9_isLamp, .instanceMethod yX9_isLamp, .selects RX9 yX9_isLamp yX9_isLamp, .initialized RX9, .code yX9_isLamp cX9_isLamp 2 (some .boolean), .methodLink RX9 46 yX9_in, .static yX9_in, .code yX9_in cX9_in 3 (some .boolean), .methodLink RX9 56 yX9_l, .static yX9_l, .code yX9_l cX9_l 1 (some .int)] ++ wsX90)
def wsX9_act : List Cond := .code yX9_act cX9_act 8 none :: ([.fieldLink RX9 7 "MainsWordsModel" "s" "[I", .methodLink RX9 42 yX9_r, .static yX9_r, .initialized RX9, .code yX9_r cX9_r 1 (some .int), .methodLink RX9 56 yX9_l, .static yX9_l, .code yX9_l cX9_l 1 (some .int), .methodLink RX9 91 yX9_isOf, .instanceMethod yX9_isOf, .selects RX9 yX9_isOf yX9_isOf, .code yX9_isOf cX9_isOf 4 (some .boolean), .methodLink RX9 88 yX9_isLamp, .instanceMethod yX9_isLamp, .selects RX9 yX9_isLamp yX9_isLamp, .code yX9_isLamp cX9_isLamp 2 (some .boolean), .methodLink RX9 46 yX9_in, .static yX9_in, .code yX9_in cX9_in 3 (some .boolean)] ++ wsX90)
def wsX9_tell : List Cond := .code yX9_tell cX9_tell 4 none :: ([.fieldLink RX9 7 "MainsWordsModel" "s" "[I", .methodLink RX9 42 yX9_r, .static yX9_r, .initialized RX9, .code yX9_r cX9_r 1 (some .int), .methodLink RX9 94 yX9_act, .instanceMethod yX9_act, .selects RX9 yX9_act yX9_act, .code yX9_act cX9_act 8 none, .methodLink RX9 56 yX9_l, .static yX9_l, .code yX9_l cX9_l 1 (some .int), .methodLink RX9 91 yX9_isOf, .instanceMethod yX9_isOf, .selects RX9 yX9_isOf yX9_isOf, .code yX9_isOf cX9_isOf 4 (some .boolean), .methodLink RX9 88 yX9_isLamp, .instanceMethod yX9_isLamp, .selects RX9 yX9_isLamp yX9_isLamp, .code yX9_isLamp cX9_isLamp 2 (some .boolean), .methodLink RX9 46 yX9_in, .static yX9_in, .code yX9_in cX9_in 3 (some .boolean)] ++ wsX90)
def wsX9_listenAgain : List Cond := .code yX9_listenAgain cX9_listenAgain 2 none :: ([.fieldLink RX9 7 "MainsWordsModel" "s" "[I"] ++ wsX90)
def wsX9_take_r1 : List Cond := [Cond.fieldLink RX9 7 "MainsWordsModel" "s" "[I", Cond.fieldLink RX9 25 "MainsWordsModel" "heard" "[I", Cond.methodLink RX9 42 yX9_r, Cond.static yX9_r, Cond.initialized RX9, Cond.code yX9_r cX9_r 1 (some .int), Cond.methodLink RX9 97 yX9_listenAgain, Cond.instanceMethod yX9_listenAgain, Cond.selects RX9 yX9_listenAgain yX9_listenAgain, Cond.code yX9_listenAgain cX9_listenAgain 2 none, Cond.methodLink RX9 100 yX9_tell, Cond.instanceMethod yX9_tell, Cond.selects RX9 yX9_tell yX9_tell, Cond.code yX9_tell cX9_tell 4 none, Cond.methodLink RX9 94 yX9_act, Cond.instanceMethod yX9_act, Cond.selects RX9 yX9_act yX9_act, Cond.code yX9_act cX9_act 8 none, Cond.methodLink RX9 56 yX9_l, Cond.static yX9_l, Cond.code yX9_l cX9_l 1 (some .int), Cond.methodLink RX9 91 yX9_isOf, Cond.instanceMethod yX9_isOf, Cond.selects RX9 yX9_isOf yX9_isOf]
def wsX9_take_r2 : List Cond := [Cond.code yX9_isOf cX9_isOf 4 (some .boolean), Cond.methodLink RX9 88 yX9_isLamp, Cond.instanceMethod yX9_isLamp, Cond.selects RX9 yX9_isLamp yX9_isLamp, Cond.code yX9_isLamp cX9_isLamp 2 (some .boolean), Cond.methodLink RX9 46 yX9_in, Cond.static yX9_in, Cond.code yX9_in cX9_in 3 (some .boolean)]
def wsX9_take : List Cond := .code yX9_take cX9_take 6 none :: ((wsX9_take_r1 ++ wsX9_take_r2) ++ wsX90)
def wsX9_beat_r1 : List Cond := [Cond.fieldLink RX9 7 "MainsWordsModel" "s" "[I", Cond.methodLink RX9 103 yX9_begin, Cond.instanceMethod yX9_begin, Cond.selects RX9 yX9_begin yX9_begin, Cond.initialized RX9, Cond.code yX9_begin cX9_begin 5 none, Cond.fieldLink RX9 31 "MainsWordsModel" "begins" "[Z", Cond.methodLink RX9 50 yX9_n, Cond.static yX9_n, Cond.code yX9_n cX9_n 1 (some .int), Cond.methodLink RX9 42 yX9_r, Cond.static yX9_r, Cond.code yX9_r cX9_r 1 (some .int), Cond.methodLink RX9 67 yX9_isSender, Cond.instanceMethod yX9_isSender, Cond.selects RX9 yX9_isSender yX9_isSender, Cond.code yX9_isSender cX9_isSender 2 (some .boolean), Cond.methodLink RX9 46 yX9_in, Cond.static yX9_in, Cond.code yX9_in cX9_in 3 (some .boolean), Cond.methodLink RX9 106 yX9_send, Cond.instanceMethod yX9_send, Cond.selects RX9 yX9_send yX9_send, Cond.code yX9_send cX9_send 3 none]
def wsX9_beat_r2 : List Cond := [Cond.fieldLink RX9 25 "MainsWordsModel" "heard" "[I", Cond.fieldLink RX9 28 "MainsWordsModel" "bits" "[I", Cond.methodLink RX9 74 yX9_bitOf, Cond.instanceMethod yX9_bitOf, Cond.selects RX9 yX9_bitOf yX9_bitOf, Cond.code yX9_bitOf cX9_bitOf 2 (some .int), Cond.methodLink RX9 63 yX9_frameBit, Cond.static yX9_frameBit, Cond.code yX9_frameBit cX9_frameBit 3 (some .int), Cond.methodLink RX9 77 yX9_sound, Cond.instanceMethod yX9_sound, Cond.selects RX9 yX9_sound yX9_sound, Cond.code yX9_sound cX9_sound 4 none, Cond.methodLink RX9 71 yX9_lossOf, Cond.instanceMethod yX9_lossOf, Cond.selects RX9 yX9_lossOf yX9_lossOf, Cond.code yX9_lossOf cX9_lossOf 4 (some .int), Cond.methodLink RX9 53 yX9_m, Cond.static yX9_m, Cond.code yX9_m cX9_m 1 (some .int), Cond.methodLink RX9 81 yX9_isMachine, Cond.instanceMethod yX9_isMachine, Cond.selects RX9 yX9_isMachine yX9_isMachine, Cond.code yX9_isMachine cX9_isMachine 2 (some .boolean)]
def wsX9_beat_r3 : List Cond := [Cond.methodLink RX9 109 yX9_goOn, Cond.instanceMethod yX9_goOn, Cond.selects RX9 yX9_goOn yX9_goOn, Cond.code yX9_goOn cX9_goOn 3 none, Cond.methodLink RX9 84 yX9_finish, Cond.instanceMethod yX9_finish, Cond.selects RX9 yX9_finish yX9_finish, Cond.code yX9_finish cX9_finish 3 none, Cond.methodLink RX9 112 yX9_take, Cond.instanceMethod yX9_take, Cond.selects RX9 yX9_take yX9_take, Cond.code yX9_take cX9_take 6 none, Cond.methodLink RX9 97 yX9_listenAgain, Cond.instanceMethod yX9_listenAgain, Cond.selects RX9 yX9_listenAgain yX9_listenAgain, Cond.code yX9_listenAgain cX9_listenAgain 2 none, Cond.methodLink RX9 100 yX9_tell, Cond.instanceMethod yX9_tell, Cond.selects RX9 yX9_tell yX9_tell, Cond.code yX9_tell cX9_tell 4 none, Cond.methodLink RX9 94 yX9_act, Cond.instanceMethod yX9_act, Cond.selects RX9 yX9_act yX9_act, Cond.code yX9_act cX9_act 8 none]
def wsX9_beat_r4 : List Cond := [Cond.methodLink RX9 56 yX9_l, Cond.static yX9_l, Cond.code yX9_l cX9_l 1 (some .int), Cond.methodLink RX9 91 yX9_isOf, Cond.instanceMethod yX9_isOf, Cond.selects RX9 yX9_isOf yX9_isOf, Cond.code yX9_isOf cX9_isOf 4 (some .boolean), Cond.methodLink RX9 88 yX9_isLamp, Cond.instanceMethod yX9_isLamp, Cond.selects RX9 yX9_isLamp yX9_isLamp, Cond.code yX9_isLamp cX9_isLamp 2 (some .boolean)]
def wsX9_beat : List Cond := .code yX9_beat cX9_beat 2 none :: ((wsX9_beat_r1 ++ (wsX9_beat_r2 ++ (wsX9_beat_r3 ++ wsX9_beat_r4))) ++ wsX90)
def wsX9_says : List Cond := .code yX9_says cX9_says 4 (some .int) :: ([.fieldLink RX9 7 "MainsWordsModel" "s" "[I", .methodLink RX9 67 yX9_isSender, .instanceMethod yX9_isSender, .selects RX9 yX9_isSender yX9_isSender, .initialized RX9, .code yX9_isSender cX9_isSender 2 (some .boolean), .methodLink RX9 46 yX9_in, .static yX9_in, .code yX9_in cX9_in 3 (some .boolean), .methodLink RX9 50 yX9_n, .static yX9_n, .code yX9_n cX9_n 1 (some .int)] ++ wsX90)
def wsX9_passes_r1 : List Cond := [Cond.fieldLink RX9 7 "MainsWordsModel" "s" "[I", Cond.methodLink RX9 46 yX9_in, Cond.static yX9_in, Cond.initialized RX9, Cond.code yX9_in cX9_in 3 (some .boolean), Cond.methodLink RX9 115 yX9_beat, Cond.instanceMethod yX9_beat, Cond.selects RX9 yX9_beat yX9_beat, Cond.code yX9_beat cX9_beat 2 none, Cond.methodLink RX9 103 yX9_begin, Cond.instanceMethod yX9_begin, Cond.selects RX9 yX9_begin yX9_begin, Cond.code yX9_begin cX9_begin 5 none, Cond.fieldLink RX9 31 "MainsWordsModel" "begins" "[Z", Cond.methodLink RX9 50 yX9_n, Cond.static yX9_n, Cond.code yX9_n cX9_n 1 (some .int), Cond.methodLink RX9 42 yX9_r, Cond.static yX9_r, Cond.code yX9_r cX9_r 1 (some .int), Cond.methodLink RX9 67 yX9_isSender, Cond.instanceMethod yX9_isSender, Cond.selects RX9 yX9_isSender yX9_isSender, Cond.code yX9_isSender cX9_isSender 2 (some .boolean)]
def wsX9_passes_r2 : List Cond := [Cond.methodLink RX9 106 yX9_send, Cond.instanceMethod yX9_send, Cond.selects RX9 yX9_send yX9_send, Cond.code yX9_send cX9_send 3 none, Cond.fieldLink RX9 25 "MainsWordsModel" "heard" "[I", Cond.fieldLink RX9 28 "MainsWordsModel" "bits" "[I", Cond.methodLink RX9 74 yX9_bitOf, Cond.instanceMethod yX9_bitOf, Cond.selects RX9 yX9_bitOf yX9_bitOf, Cond.code yX9_bitOf cX9_bitOf 2 (some .int), Cond.methodLink RX9 63 yX9_frameBit, Cond.static yX9_frameBit, Cond.code yX9_frameBit cX9_frameBit 3 (some .int), Cond.methodLink RX9 77 yX9_sound, Cond.instanceMethod yX9_sound, Cond.selects RX9 yX9_sound yX9_sound, Cond.code yX9_sound cX9_sound 4 none, Cond.methodLink RX9 71 yX9_lossOf, Cond.instanceMethod yX9_lossOf, Cond.selects RX9 yX9_lossOf yX9_lossOf, Cond.code yX9_lossOf cX9_lossOf 4 (some .int), Cond.methodLink RX9 53 yX9_m, Cond.static yX9_m, Cond.code yX9_m cX9_m 1 (some .int)]
def wsX9_passes_r3 : List Cond := [Cond.methodLink RX9 81 yX9_isMachine, Cond.instanceMethod yX9_isMachine, Cond.selects RX9 yX9_isMachine yX9_isMachine, Cond.code yX9_isMachine cX9_isMachine 2 (some .boolean), Cond.methodLink RX9 109 yX9_goOn, Cond.instanceMethod yX9_goOn, Cond.selects RX9 yX9_goOn yX9_goOn, Cond.code yX9_goOn cX9_goOn 3 none, Cond.methodLink RX9 84 yX9_finish, Cond.instanceMethod yX9_finish, Cond.selects RX9 yX9_finish yX9_finish, Cond.code yX9_finish cX9_finish 3 none, Cond.methodLink RX9 112 yX9_take, Cond.instanceMethod yX9_take, Cond.selects RX9 yX9_take yX9_take, Cond.code yX9_take cX9_take 6 none, Cond.methodLink RX9 97 yX9_listenAgain, Cond.instanceMethod yX9_listenAgain, Cond.selects RX9 yX9_listenAgain yX9_listenAgain, Cond.code yX9_listenAgain cX9_listenAgain 2 none, Cond.methodLink RX9 100 yX9_tell, Cond.instanceMethod yX9_tell, Cond.selects RX9 yX9_tell yX9_tell, Cond.code yX9_tell cX9_tell 4 none]
def wsX9_passes_r4 : List Cond := [Cond.methodLink RX9 94 yX9_act, Cond.instanceMethod yX9_act, Cond.selects RX9 yX9_act yX9_act, Cond.code yX9_act cX9_act 8 none, Cond.methodLink RX9 56 yX9_l, Cond.static yX9_l, Cond.code yX9_l cX9_l 1 (some .int), Cond.methodLink RX9 91 yX9_isOf, Cond.instanceMethod yX9_isOf, Cond.selects RX9 yX9_isOf yX9_isOf, Cond.code yX9_isOf cX9_isOf 4 (some .boolean), Cond.methodLink RX9 88 yX9_isLamp, Cond.instanceMethod yX9_isLamp, Cond.selects RX9 yX9_isLamp yX9_isLamp, Cond.code yX9_isLamp cX9_isLamp 2 (some .boolean)]
def wsX9_passes : List Cond := .code yX9_passes cX9_passes 4 (some .int) :: ((wsX9_passes_r1 ++ (wsX9_passes_r2 ++ (wsX9_passes_r3 ++ wsX9_passes_r4))) ++ wsX90)
def wsX9_free : List Cond := .code yX9_free cX9_free 5 (some .int) :: ([.fieldLink RX9 7 "MainsWordsModel" "s" "[I"] ++ wsX90)
def wsX9_put : List Cond := .code yX9_put cX9_put 7 none :: ([.fieldLink RX9 7 "MainsWordsModel" "s" "[I"] ++ wsX90)
def wsX9_sender_r1 : List Cond := [Cond.methodLink RX9 118 yX9_isWire, Cond.static yX9_isWire, Cond.initialized RX9, Cond.code yX9_isWire cX9_isWire 1 (some .boolean), Cond.methodLink RX9 46 yX9_in, Cond.static yX9_in, Cond.code yX9_in cX9_in 3 (some .boolean), Cond.methodLink RX9 121 yX9_free, Cond.instanceMethod yX9_free, Cond.selects RX9 yX9_free yX9_free, Cond.code yX9_free cX9_free 5 (some .int), Cond.fieldLink RX9 7 "MainsWordsModel" "s" "[I", Cond.methodLink RX9 125 yX9_hold, Cond.instanceMethod yX9_hold, Cond.selects RX9 yX9_hold yX9_hold, Cond.code yX9_hold cX9_hold 2 none, Cond.fieldLink RX9 13 "MainsWordsModel" "spare" "[I", Cond.methodLink RX9 50 yX9_n, Cond.static yX9_n, Cond.code yX9_n cX9_n 1 (some .int), Cond.methodLink RX9 128 yX9_put, Cond.instanceMethod yX9_put, Cond.selects RX9 yX9_put yX9_put, Cond.code yX9_put cX9_put 7 none]
def wsX9_sender_r2 : List Cond := [Cond.methodLink RX9 132 yX9_recorded, Cond.instanceMethod yX9_recorded, Cond.selects RX9 yX9_recorded yX9_recorded, Cond.code yX9_recorded cX9_recorded 3 (some .int), Cond.fieldLink RX9 59 "MainsWordsModel" "states" "I", Cond.fieldLink RX9 19 "MainsWordsModel" "before" "[I"]
def wsX9_sender : List Cond := .code yX9_sender cX9_sender 4 (some .int) :: ((wsX9_sender_r1 ++ wsX9_sender_r2) ++ wsX90)
def wsX9_machine_r1 : List Cond := [Cond.fieldLink RX9 7 "MainsWordsModel" "s" "[I", Cond.methodLink RX9 118 yX9_isWire, Cond.static yX9_isWire, Cond.initialized RX9, Cond.code yX9_isWire cX9_isWire 1 (some .boolean), Cond.methodLink RX9 46 yX9_in, Cond.static yX9_in, Cond.code yX9_in cX9_in 3 (some .boolean), Cond.methodLink RX9 121 yX9_free, Cond.instanceMethod yX9_free, Cond.selects RX9 yX9_free yX9_free, Cond.code yX9_free cX9_free 5 (some .int), Cond.methodLink RX9 125 yX9_hold, Cond.instanceMethod yX9_hold, Cond.selects RX9 yX9_hold yX9_hold, Cond.code yX9_hold cX9_hold 2 none, Cond.fieldLink RX9 13 "MainsWordsModel" "spare" "[I", Cond.methodLink RX9 53 yX9_m, Cond.static yX9_m, Cond.code yX9_m cX9_m 1 (some .int), Cond.methodLink RX9 128 yX9_put, Cond.instanceMethod yX9_put, Cond.selects RX9 yX9_put yX9_put, Cond.code yX9_put cX9_put 7 none]
def wsX9_machine_r2 : List Cond := [Cond.methodLink RX9 132 yX9_recorded, Cond.instanceMethod yX9_recorded, Cond.selects RX9 yX9_recorded yX9_recorded, Cond.code yX9_recorded cX9_recorded 3 (some .int), Cond.fieldLink RX9 59 "MainsWordsModel" "states" "I", Cond.fieldLink RX9 19 "MainsWordsModel" "before" "[I"]
def wsX9_machine : List Cond := .code yX9_machine cX9_machine 5 (some .int) :: ((wsX9_machine_r1 ++ wsX9_machine_r2) ++ wsX90)
def wsX9_lamp_r1 : List Cond := [Cond.methodLink RX9 118 yX9_isWire, Cond.static yX9_isWire, Cond.initialized RX9, Cond.code yX9_isWire cX9_isWire 1 (some .boolean), Cond.methodLink RX9 46 yX9_in, Cond.static yX9_in, Cond.code yX9_in cX9_in 3 (some .boolean), Cond.methodLink RX9 121 yX9_free, Cond.instanceMethod yX9_free, Cond.selects RX9 yX9_free yX9_free, Cond.code yX9_free cX9_free 5 (some .int), Cond.fieldLink RX9 7 "MainsWordsModel" "s" "[I", Cond.methodLink RX9 125 yX9_hold, Cond.instanceMethod yX9_hold, Cond.selects RX9 yX9_hold yX9_hold, Cond.code yX9_hold cX9_hold 2 none, Cond.fieldLink RX9 13 "MainsWordsModel" "spare" "[I", Cond.methodLink RX9 56 yX9_l, Cond.static yX9_l, Cond.code yX9_l cX9_l 1 (some .int), Cond.methodLink RX9 128 yX9_put, Cond.instanceMethod yX9_put, Cond.selects RX9 yX9_put yX9_put, Cond.code yX9_put cX9_put 7 none]
def wsX9_lamp_r2 : List Cond := [Cond.methodLink RX9 132 yX9_recorded, Cond.instanceMethod yX9_recorded, Cond.selects RX9 yX9_recorded yX9_recorded, Cond.code yX9_recorded cX9_recorded 3 (some .int), Cond.fieldLink RX9 59 "MainsWordsModel" "states" "I", Cond.fieldLink RX9 19 "MainsWordsModel" "before" "[I"]
def wsX9_lamp : List Cond := .code yX9_lamp cX9_lamp 5 (some .int) :: ((wsX9_lamp_r1 ++ wsX9_lamp_r2) ++ wsX90)
def wsX9_remove_r1 : List Cond := [Cond.fieldLink RX9 7 "MainsWordsModel" "s" "[I", Cond.methodLink RX9 46 yX9_in, Cond.static yX9_in, Cond.initialized RX9, Cond.code yX9_in cX9_in 3 (some .boolean), Cond.methodLink RX9 67 yX9_isSender, Cond.instanceMethod yX9_isSender, Cond.selects RX9 yX9_isSender yX9_isSender, Cond.code yX9_isSender cX9_isSender 2 (some .boolean), Cond.methodLink RX9 50 yX9_n, Cond.static yX9_n, Cond.code yX9_n cX9_n 1 (some .int), Cond.methodLink RX9 81 yX9_isMachine, Cond.instanceMethod yX9_isMachine, Cond.selects RX9 yX9_isMachine yX9_isMachine, Cond.code yX9_isMachine cX9_isMachine 2 (some .boolean), Cond.methodLink RX9 53 yX9_m, Cond.static yX9_m, Cond.code yX9_m cX9_m 1 (some .int), Cond.methodLink RX9 88 yX9_isLamp, Cond.instanceMethod yX9_isLamp, Cond.selects RX9 yX9_isLamp yX9_isLamp, Cond.code yX9_isLamp cX9_isLamp 2 (some .boolean), Cond.methodLink RX9 56 yX9_l]
def wsX9_remove_r2 : List Cond := [Cond.static yX9_l, Cond.code yX9_l cX9_l 1 (some .int), Cond.methodLink RX9 125 yX9_hold, Cond.instanceMethod yX9_hold, Cond.selects RX9 yX9_hold yX9_hold, Cond.code yX9_hold cX9_hold 2 none, Cond.fieldLink RX9 13 "MainsWordsModel" "spare" "[I", Cond.methodLink RX9 132 yX9_recorded, Cond.instanceMethod yX9_recorded, Cond.selects RX9 yX9_recorded yX9_recorded, Cond.code yX9_recorded cX9_recorded 3 (some .int), Cond.fieldLink RX9 59 "MainsWordsModel" "states" "I", Cond.fieldLink RX9 19 "MainsWordsModel" "before" "[I"]
def wsX9_remove : List Cond := .code yX9_remove cX9_remove 6 (some .int) :: ((wsX9_remove_r1 ++ wsX9_remove_r2) ++ wsX90)
def wsX9_say_r1 : List Cond := [Cond.methodLink RX9 125 yX9_hold, Cond.instanceMethod yX9_hold, Cond.selects RX9 yX9_hold yX9_hold, Cond.initialized RX9, Cond.code yX9_hold cX9_hold 2 none, Cond.fieldLink RX9 13 "MainsWordsModel" "spare" "[I", Cond.fieldLink RX9 7 "MainsWordsModel" "s" "[I", Cond.methodLink RX9 135 yX9_says, Cond.instanceMethod yX9_says, Cond.selects RX9 yX9_says yX9_says, Cond.code yX9_says cX9_says 4 (some .int), Cond.methodLink RX9 67 yX9_isSender, Cond.instanceMethod yX9_isSender, Cond.selects RX9 yX9_isSender yX9_isSender, Cond.code yX9_isSender cX9_isSender 2 (some .boolean), Cond.methodLink RX9 46 yX9_in, Cond.static yX9_in, Cond.code yX9_in cX9_in 3 (some .boolean), Cond.methodLink RX9 50 yX9_n, Cond.static yX9_n, Cond.code yX9_n cX9_n 1 (some .int), Cond.methodLink RX9 132 yX9_recorded, Cond.instanceMethod yX9_recorded, Cond.selects RX9 yX9_recorded yX9_recorded]
def wsX9_say_r2 : List Cond := [Cond.code yX9_recorded cX9_recorded 3 (some .int), Cond.fieldLink RX9 59 "MainsWordsModel" "states" "I", Cond.fieldLink RX9 19 "MainsWordsModel" "before" "[I"]
def wsX9_say : List Cond := .code yX9_say cX9_say 4 (some .int) :: ((wsX9_say_r1 ++ wsX9_say_r2) ++ wsX90)
def wsX9_run : List Cond := .code yX9_run cX9_run 4 (some .int) :: ([.fieldLink RX9 7 "MainsWordsModel" "s" "[I", .methodLink RX9 81 yX9_isMachine, .instanceMethod yX9_isMachine, .selects RX9 yX9_isMachine yX9_isMachine, .initialized RX9, .code yX9_isMachine cX9_isMachine 2 (some .boolean), .methodLink RX9 46 yX9_in, .static yX9_in, .code yX9_in cX9_in 3 (some .boolean), .methodLink RX9 53 yX9_m, .static yX9_m, .code yX9_m cX9_m 1 (some .int), .methodLink RX9 125 yX9_hold, .instanceMethod yX9_hold, .selects RX9 yX9_hold yX9_hold, .code yX9_hold cX9_hold 2 none, .fieldLink RX9 13 "MainsWordsModel" "spare" "[I", .methodLink RX9 132 yX9_recorded, .instanceMethod yX9_recorded, .selects RX9 yX9_recorded yX9_recorded, .code yX9_recorded cX9_recorded 3 (some .int), .fieldLink RX9 59 "MainsWordsModel" "states" "I", .fieldLink RX9 19 "MainsWordsModel" "before" "[I"] ++ wsX90)
def wsX9_set : List Cond := .code yX9_set cX9_set 4 (some .int) :: ([.fieldLink RX9 7 "MainsWordsModel" "s" "[I", .methodLink RX9 46 yX9_in, .static yX9_in, .initialized RX9, .code yX9_in cX9_in 3 (some .boolean), .methodLink RX9 125 yX9_hold, .instanceMethod yX9_hold, .selects RX9 yX9_hold yX9_hold, .code yX9_hold cX9_hold 2 none, .fieldLink RX9 13 "MainsWordsModel" "spare" "[I", .methodLink RX9 132 yX9_recorded, .instanceMethod yX9_recorded, .selects RX9 yX9_recorded yX9_recorded, .code yX9_recorded cX9_recorded 3 (some .int), .fieldLink RX9 59 "MainsWordsModel" "states" "I", .fieldLink RX9 19 "MainsWordsModel" "before" "[I"] ++ wsX90)
def wsX9_pass_r1 : List Cond := [Cond.methodLink RX9 125 yX9_hold, Cond.instanceMethod yX9_hold, Cond.selects RX9 yX9_hold yX9_hold, Cond.initialized RX9, Cond.code yX9_hold cX9_hold 2 none, Cond.fieldLink RX9 13 "MainsWordsModel" "spare" "[I", Cond.fieldLink RX9 7 "MainsWordsModel" "s" "[I", Cond.methodLink RX9 138 yX9_passes, Cond.instanceMethod yX9_passes, Cond.selects RX9 yX9_passes yX9_passes, Cond.code yX9_passes cX9_passes 4 (some .int), Cond.methodLink RX9 46 yX9_in, Cond.static yX9_in, Cond.code yX9_in cX9_in 3 (some .boolean), Cond.methodLink RX9 115 yX9_beat, Cond.instanceMethod yX9_beat, Cond.selects RX9 yX9_beat yX9_beat, Cond.code yX9_beat cX9_beat 2 none, Cond.methodLink RX9 103 yX9_begin, Cond.instanceMethod yX9_begin, Cond.selects RX9 yX9_begin yX9_begin, Cond.code yX9_begin cX9_begin 5 none, Cond.fieldLink RX9 31 "MainsWordsModel" "begins" "[Z", Cond.methodLink RX9 50 yX9_n]
def wsX9_pass_r2 : List Cond := [Cond.static yX9_n, Cond.code yX9_n cX9_n 1 (some .int), Cond.methodLink RX9 42 yX9_r, Cond.static yX9_r, Cond.code yX9_r cX9_r 1 (some .int), Cond.methodLink RX9 67 yX9_isSender, Cond.instanceMethod yX9_isSender, Cond.selects RX9 yX9_isSender yX9_isSender, Cond.code yX9_isSender cX9_isSender 2 (some .boolean), Cond.methodLink RX9 106 yX9_send, Cond.instanceMethod yX9_send, Cond.selects RX9 yX9_send yX9_send, Cond.code yX9_send cX9_send 3 none, Cond.fieldLink RX9 25 "MainsWordsModel" "heard" "[I", Cond.fieldLink RX9 28 "MainsWordsModel" "bits" "[I", Cond.methodLink RX9 74 yX9_bitOf, Cond.instanceMethod yX9_bitOf, Cond.selects RX9 yX9_bitOf yX9_bitOf, Cond.code yX9_bitOf cX9_bitOf 2 (some .int), Cond.methodLink RX9 63 yX9_frameBit, Cond.static yX9_frameBit, Cond.code yX9_frameBit cX9_frameBit 3 (some .int), Cond.methodLink RX9 77 yX9_sound, Cond.instanceMethod yX9_sound]
def wsX9_pass_r3 : List Cond := [Cond.selects RX9 yX9_sound yX9_sound, Cond.code yX9_sound cX9_sound 4 none, Cond.methodLink RX9 71 yX9_lossOf, Cond.instanceMethod yX9_lossOf, Cond.selects RX9 yX9_lossOf yX9_lossOf, Cond.code yX9_lossOf cX9_lossOf 4 (some .int), Cond.methodLink RX9 53 yX9_m, Cond.static yX9_m, Cond.code yX9_m cX9_m 1 (some .int), Cond.methodLink RX9 81 yX9_isMachine, Cond.instanceMethod yX9_isMachine, Cond.selects RX9 yX9_isMachine yX9_isMachine, Cond.code yX9_isMachine cX9_isMachine 2 (some .boolean), Cond.methodLink RX9 109 yX9_goOn, Cond.instanceMethod yX9_goOn, Cond.selects RX9 yX9_goOn yX9_goOn, Cond.code yX9_goOn cX9_goOn 3 none, Cond.methodLink RX9 84 yX9_finish, Cond.instanceMethod yX9_finish, Cond.selects RX9 yX9_finish yX9_finish, Cond.code yX9_finish cX9_finish 3 none, Cond.methodLink RX9 112 yX9_take, Cond.instanceMethod yX9_take, Cond.selects RX9 yX9_take yX9_take]
def wsX9_pass_r4 : List Cond := [Cond.code yX9_take cX9_take 6 none, Cond.methodLink RX9 97 yX9_listenAgain, Cond.instanceMethod yX9_listenAgain, Cond.selects RX9 yX9_listenAgain yX9_listenAgain, Cond.code yX9_listenAgain cX9_listenAgain 2 none, Cond.methodLink RX9 100 yX9_tell, Cond.instanceMethod yX9_tell, Cond.selects RX9 yX9_tell yX9_tell, Cond.code yX9_tell cX9_tell 4 none, Cond.methodLink RX9 94 yX9_act, Cond.instanceMethod yX9_act, Cond.selects RX9 yX9_act yX9_act, Cond.code yX9_act cX9_act 8 none, Cond.methodLink RX9 56 yX9_l, Cond.static yX9_l, Cond.code yX9_l cX9_l 1 (some .int), Cond.methodLink RX9 91 yX9_isOf, Cond.instanceMethod yX9_isOf, Cond.selects RX9 yX9_isOf yX9_isOf, Cond.code yX9_isOf cX9_isOf 4 (some .boolean), Cond.methodLink RX9 88 yX9_isLamp, Cond.instanceMethod yX9_isLamp, Cond.selects RX9 yX9_isLamp yX9_isLamp, Cond.code yX9_isLamp cX9_isLamp 2 (some .boolean)]
def wsX9_pass_r5 : List Cond := [Cond.methodLink RX9 132 yX9_recorded, Cond.instanceMethod yX9_recorded, Cond.selects RX9 yX9_recorded yX9_recorded, Cond.code yX9_recorded cX9_recorded 3 (some .int), Cond.fieldLink RX9 59 "MainsWordsModel" "states" "I", Cond.fieldLink RX9 19 "MainsWordsModel" "before" "[I"]
def wsX9_pass : List Cond := .code yX9_pass cX9_pass 3 (some .int) :: ((wsX9_pass_r1 ++ (wsX9_pass_r2 ++ (wsX9_pass_r3 ++ (wsX9_pass_r4 ++ wsX9_pass_r5)))) ++ wsX90)
def wsX9_append : List Cond := .code yX9_append cX9_append 2 (some .int) :: ([.fieldLink RX9 141 "MainsWordsModel" "length" "I", .fieldLink RX9 38 "MainsWordsModel" "text" "[C", .methodLink RX9 46 yX9_in, .static yX9_in, .initialized RX9, .code yX9_in cX9_in 3 (some .boolean)] ++ wsX90)
def wsX9_clearText : List Cond := .code yX9_clearText cX9_clearText 2 (some .int) :: ([.fieldLink RX9 141 "MainsWordsModel" "length" "I"] ++ wsX90)
def wsX9_isSign : List Cond := .code yX9_isSign cX9_isSign 3 (some .boolean) :: ([.fieldLink RX9 144 "MainsWordsModel" "at" "I", .fieldLink RX9 141 "MainsWordsModel" "length" "I", .fieldLink RX9 38 "MainsWordsModel" "text" "[C"] ++ wsX90)
def wsX9_accepts : List Cond := .code yX9_accepts cX9_accepts 3 (some .boolean) :: ([.fieldLink RX9 144 "MainsWordsModel" "at" "I", .methodLink RX9 147 yX9_isSign, .instanceMethod yX9_isSign, .selects RX9 yX9_isSign yX9_isSign, .initialized RX9, .code yX9_isSign cX9_isSign 3 (some .boolean), .fieldLink RX9 141 "MainsWordsModel" "length" "I", .fieldLink RX9 38 "MainsWordsModel" "text" "[C"] ++ wsX90)
def wsX9_code : List Cond := .code yX9_code cX9_code 2 (some .int) :: ([.fieldLink RX9 38 "MainsWordsModel" "text" "[C", .fieldLink RX9 144 "MainsWordsModel" "at" "I", .methodLink RX9 147 yX9_isSign, .instanceMethod yX9_isSign, .selects RX9 yX9_isSign yX9_isSign, .initialized RX9, .code yX9_isSign cX9_isSign 3 (some .boolean), .fieldLink RX9 141 "MainsWordsModel" "length" "I", .methodLink RX9 151 yX9_accepts, .instanceMethod yX9_accepts, .selects RX9 yX9_accepts yX9_accepts, .code yX9_accepts cX9_accepts 3 (some .boolean)] ++ wsX90)
def wsX9_word : List Cond := .code yX9_word cX9_word 4 (some .boolean) :: ([.fieldLink RX9 38 "MainsWordsModel" "text" "[C", .fieldLink RX9 144 "MainsWordsModel" "at" "I", .fieldLink RX9 35 "MainsWordsModel" "read" "[I", .fieldLink RX9 159 "MainsWordsModel" "orders" "I", .methodLink RX9 147 yX9_isSign, .instanceMethod yX9_isSign, .selects RX9 yX9_isSign yX9_isSign, .initialized RX9, .code yX9_isSign cX9_isSign 3 (some .boolean), .fieldLink RX9 141 "MainsWordsModel" "length" "I", .methodLink RX9 155 yX9_code, .instanceMethod yX9_code, .selects RX9 yX9_code yX9_code, .code yX9_code cX9_code 2 (some .int), .methodLink RX9 151 yX9_accepts, .instanceMethod yX9_accepts, .selects RX9 yX9_accepts yX9_accepts, .code yX9_accepts cX9_accepts 3 (some .boolean)] ++ wsX90)
def wsX9_words : List Cond := .code yX9_words cX9_words 3 (some .boolean) :: ([.fieldLink RX9 38 "MainsWordsModel" "text" "[C", .fieldLink RX9 144 "MainsWordsModel" "at" "I", .methodLink RX9 151 yX9_accepts, .instanceMethod yX9_accepts, .selects RX9 yX9_accepts yX9_accepts, .initialized RX9, .code yX9_accepts cX9_accepts 3 (some .boolean), .methodLink RX9 147 yX9_isSign, .instanceMethod yX9_isSign, .selects RX9 yX9_isSign yX9_isSign, .code yX9_isSign cX9_isSign 3 (some .boolean), .fieldLink RX9 141 "MainsWordsModel" "length" "I", .methodLink RX9 162 yX9_word, .instanceMethod yX9_word, .selects RX9 yX9_word yX9_word, .code yX9_word cX9_word 4 (some .boolean), .fieldLink RX9 35 "MainsWordsModel" "read" "[I", .fieldLink RX9 159 "MainsWordsModel" "orders" "I", .methodLink RX9 155 yX9_code, .instanceMethod yX9_code, .selects RX9 yX9_code yX9_code, .code yX9_code cX9_code 2 (some .int)] ++ wsX90)
def wsX9_beats : List Cond := .code yX9_beats cX9_beats 2 (some .boolean) :: ([.fieldLink RX9 38 "MainsWordsModel" "text" "[C", .fieldLink RX9 144 "MainsWordsModel" "at" "I", .fieldLink RX9 35 "MainsWordsModel" "read" "[I", .fieldLink RX9 159 "MainsWordsModel" "orders" "I", .methodLink RX9 147 yX9_isSign, .instanceMethod yX9_isSign, .selects RX9 yX9_isSign yX9_isSign, .initialized RX9, .code yX9_isSign cX9_isSign 3 (some .boolean), .fieldLink RX9 141 "MainsWordsModel" "length" "I"] ++ wsX90)
def wsX9_part_r1 : List Cond := [Cond.methodLink RX9 147 yX9_isSign, Cond.instanceMethod yX9_isSign, Cond.selects RX9 yX9_isSign yX9_isSign, Cond.initialized RX9, Cond.code yX9_isSign cX9_isSign 3 (some .boolean), Cond.fieldLink RX9 144 "MainsWordsModel" "at" "I", Cond.fieldLink RX9 141 "MainsWordsModel" "length" "I", Cond.fieldLink RX9 38 "MainsWordsModel" "text" "[C", Cond.methodLink RX9 165 yX9_words, Cond.instanceMethod yX9_words, Cond.selects RX9 yX9_words yX9_words, Cond.code yX9_words cX9_words 3 (some .boolean), Cond.methodLink RX9 151 yX9_accepts, Cond.instanceMethod yX9_accepts, Cond.selects RX9 yX9_accepts yX9_accepts, Cond.code yX9_accepts cX9_accepts 3 (some .boolean), Cond.methodLink RX9 162 yX9_word, Cond.instanceMethod yX9_word, Cond.selects RX9 yX9_word yX9_word, Cond.code yX9_word cX9_word 4 (some .boolean), Cond.fieldLink RX9 35 "MainsWordsModel" "read" "[I", Cond.fieldLink RX9 159 "MainsWordsModel" "orders" "I", Cond.methodLink RX9 155 yX9_code, Cond.instanceMethod yX9_code]
def wsX9_part_r2 : List Cond := [Cond.selects RX9 yX9_code yX9_code, Cond.code yX9_code cX9_code 2 (some .int), Cond.methodLink RX9 169 yX9_beats, Cond.instanceMethod yX9_beats, Cond.selects RX9 yX9_beats yX9_beats, Cond.code yX9_beats cX9_beats 2 (some .boolean)]
def wsX9_part : List Cond := .code yX9_part cX9_part 1 (some .boolean) :: ((wsX9_part_r1 ++ wsX9_part_r2) ++ wsX90)
def wsX9_faultOf_r1 : List Cond := [Cond.fieldLink RX9 144 "MainsWordsModel" "at" "I", Cond.fieldLink RX9 159 "MainsWordsModel" "orders" "I", Cond.fieldLink RX9 141 "MainsWordsModel" "length" "I", Cond.methodLink RX9 172 yX9_part, Cond.instanceMethod yX9_part, Cond.selects RX9 yX9_part yX9_part, Cond.initialized RX9, Cond.code yX9_part cX9_part 1 (some .boolean), Cond.methodLink RX9 147 yX9_isSign, Cond.instanceMethod yX9_isSign, Cond.selects RX9 yX9_isSign yX9_isSign, Cond.code yX9_isSign cX9_isSign 3 (some .boolean), Cond.fieldLink RX9 38 "MainsWordsModel" "text" "[C", Cond.methodLink RX9 165 yX9_words, Cond.instanceMethod yX9_words, Cond.selects RX9 yX9_words yX9_words, Cond.code yX9_words cX9_words 3 (some .boolean), Cond.methodLink RX9 151 yX9_accepts, Cond.instanceMethod yX9_accepts, Cond.selects RX9 yX9_accepts yX9_accepts, Cond.code yX9_accepts cX9_accepts 3 (some .boolean), Cond.methodLink RX9 162 yX9_word, Cond.instanceMethod yX9_word, Cond.selects RX9 yX9_word yX9_word]
def wsX9_faultOf_r2 : List Cond := [Cond.code yX9_word cX9_word 4 (some .boolean), Cond.fieldLink RX9 35 "MainsWordsModel" "read" "[I", Cond.methodLink RX9 155 yX9_code, Cond.instanceMethod yX9_code, Cond.selects RX9 yX9_code yX9_code, Cond.code yX9_code cX9_code 2 (some .int), Cond.methodLink RX9 169 yX9_beats, Cond.instanceMethod yX9_beats, Cond.selects RX9 yX9_beats yX9_beats, Cond.code yX9_beats cX9_beats 2 (some .boolean)]
def wsX9_faultOf : List Cond := .code yX9_faultOf cX9_faultOf 2 (some .int) :: ((wsX9_faultOf_r1 ++ wsX9_faultOf_r2) ++ wsX90)
def wsX9_fault_r1 : List Cond := [Cond.methodLink RX9 175 yX9_faultOf, Cond.instanceMethod yX9_faultOf, Cond.selects RX9 yX9_faultOf yX9_faultOf, Cond.initialized RX9, Cond.code yX9_faultOf cX9_faultOf 2 (some .int), Cond.fieldLink RX9 144 "MainsWordsModel" "at" "I", Cond.fieldLink RX9 159 "MainsWordsModel" "orders" "I", Cond.fieldLink RX9 141 "MainsWordsModel" "length" "I", Cond.methodLink RX9 172 yX9_part, Cond.instanceMethod yX9_part, Cond.selects RX9 yX9_part yX9_part, Cond.code yX9_part cX9_part 1 (some .boolean), Cond.methodLink RX9 147 yX9_isSign, Cond.instanceMethod yX9_isSign, Cond.selects RX9 yX9_isSign yX9_isSign, Cond.code yX9_isSign cX9_isSign 3 (some .boolean), Cond.fieldLink RX9 38 "MainsWordsModel" "text" "[C", Cond.methodLink RX9 165 yX9_words, Cond.instanceMethod yX9_words, Cond.selects RX9 yX9_words yX9_words, Cond.code yX9_words cX9_words 3 (some .boolean), Cond.methodLink RX9 151 yX9_accepts, Cond.instanceMethod yX9_accepts, Cond.selects RX9 yX9_accepts yX9_accepts]
def wsX9_fault_r2 : List Cond := [Cond.code yX9_accepts cX9_accepts 3 (some .boolean), Cond.methodLink RX9 162 yX9_word, Cond.instanceMethod yX9_word, Cond.selects RX9 yX9_word yX9_word, Cond.code yX9_word cX9_word 4 (some .boolean), Cond.fieldLink RX9 35 "MainsWordsModel" "read" "[I", Cond.methodLink RX9 155 yX9_code, Cond.instanceMethod yX9_code, Cond.selects RX9 yX9_code yX9_code, Cond.code yX9_code cX9_code 2 (some .int), Cond.methodLink RX9 169 yX9_beats, Cond.instanceMethod yX9_beats, Cond.selects RX9 yX9_beats yX9_beats, Cond.code yX9_beats cX9_beats 2 (some .boolean)]
def wsX9_fault : List Cond := .code yX9_fault cX9_fault 2 (some .int) :: ((wsX9_fault_r1 ++ wsX9_fault_r2) ++ wsX90)
def wsX9_perform_r1 : List Cond := [Cond.fieldLink RX9 159 "MainsWordsModel" "orders" "I", Cond.fieldLink RX9 35 "MainsWordsModel" "read" "[I", Cond.methodLink RX9 175 yX9_faultOf, Cond.instanceMethod yX9_faultOf, Cond.selects RX9 yX9_faultOf yX9_faultOf, Cond.initialized RX9, Cond.code yX9_faultOf cX9_faultOf 2 (some .int), Cond.fieldLink RX9 144 "MainsWordsModel" "at" "I", Cond.fieldLink RX9 141 "MainsWordsModel" "length" "I", Cond.methodLink RX9 172 yX9_part, Cond.instanceMethod yX9_part, Cond.selects RX9 yX9_part yX9_part, Cond.code yX9_part cX9_part 1 (some .boolean), Cond.methodLink RX9 147 yX9_isSign, Cond.instanceMethod yX9_isSign, Cond.selects RX9 yX9_isSign yX9_isSign, Cond.code yX9_isSign cX9_isSign 3 (some .boolean), Cond.fieldLink RX9 38 "MainsWordsModel" "text" "[C", Cond.methodLink RX9 165 yX9_words, Cond.instanceMethod yX9_words, Cond.selects RX9 yX9_words yX9_words, Cond.code yX9_words cX9_words 3 (some .boolean), Cond.methodLink RX9 151 yX9_accepts, Cond.instanceMethod yX9_accepts]
def wsX9_perform_r2 : List Cond := [Cond.selects RX9 yX9_accepts yX9_accepts, Cond.code yX9_accepts cX9_accepts 3 (some .boolean), Cond.methodLink RX9 162 yX9_word, Cond.instanceMethod yX9_word, Cond.selects RX9 yX9_word yX9_word, Cond.code yX9_word cX9_word 4 (some .boolean), Cond.methodLink RX9 155 yX9_code, Cond.instanceMethod yX9_code, Cond.selects RX9 yX9_code yX9_code, Cond.code yX9_code cX9_code 2 (some .int), Cond.methodLink RX9 169 yX9_beats, Cond.instanceMethod yX9_beats, Cond.selects RX9 yX9_beats yX9_beats, Cond.code yX9_beats cX9_beats 2 (some .boolean), Cond.methodLink RX9 125 yX9_hold, Cond.instanceMethod yX9_hold, Cond.selects RX9 yX9_hold yX9_hold, Cond.code yX9_hold cX9_hold 2 none, Cond.fieldLink RX9 13 "MainsWordsModel" "spare" "[I", Cond.fieldLink RX9 7 "MainsWordsModel" "s" "[I", Cond.methodLink RX9 138 yX9_passes, Cond.instanceMethod yX9_passes, Cond.selects RX9 yX9_passes yX9_passes, Cond.code yX9_passes cX9_passes 4 (some .int)]
def wsX9_perform_r3 : List Cond := [Cond.methodLink RX9 46 yX9_in, Cond.static yX9_in, Cond.code yX9_in cX9_in 3 (some .boolean), Cond.methodLink RX9 115 yX9_beat, Cond.instanceMethod yX9_beat, Cond.selects RX9 yX9_beat yX9_beat, Cond.code yX9_beat cX9_beat 2 none, Cond.methodLink RX9 103 yX9_begin, Cond.instanceMethod yX9_begin, Cond.selects RX9 yX9_begin yX9_begin, Cond.code yX9_begin cX9_begin 5 none, Cond.fieldLink RX9 31 "MainsWordsModel" "begins" "[Z", Cond.methodLink RX9 50 yX9_n, Cond.static yX9_n, Cond.code yX9_n cX9_n 1 (some .int), Cond.methodLink RX9 42 yX9_r, Cond.static yX9_r, Cond.code yX9_r cX9_r 1 (some .int), Cond.methodLink RX9 67 yX9_isSender, Cond.instanceMethod yX9_isSender, Cond.selects RX9 yX9_isSender yX9_isSender, Cond.code yX9_isSender cX9_isSender 2 (some .boolean), Cond.methodLink RX9 106 yX9_send, Cond.instanceMethod yX9_send]
def wsX9_perform_r4 : List Cond := [Cond.selects RX9 yX9_send yX9_send, Cond.code yX9_send cX9_send 3 none, Cond.fieldLink RX9 25 "MainsWordsModel" "heard" "[I", Cond.fieldLink RX9 28 "MainsWordsModel" "bits" "[I", Cond.methodLink RX9 74 yX9_bitOf, Cond.instanceMethod yX9_bitOf, Cond.selects RX9 yX9_bitOf yX9_bitOf, Cond.code yX9_bitOf cX9_bitOf 2 (some .int), Cond.methodLink RX9 63 yX9_frameBit, Cond.static yX9_frameBit, Cond.code yX9_frameBit cX9_frameBit 3 (some .int), Cond.methodLink RX9 77 yX9_sound, Cond.instanceMethod yX9_sound, Cond.selects RX9 yX9_sound yX9_sound, Cond.code yX9_sound cX9_sound 4 none, Cond.methodLink RX9 71 yX9_lossOf, Cond.instanceMethod yX9_lossOf, Cond.selects RX9 yX9_lossOf yX9_lossOf, Cond.code yX9_lossOf cX9_lossOf 4 (some .int), Cond.methodLink RX9 53 yX9_m, Cond.static yX9_m, Cond.code yX9_m cX9_m 1 (some .int), Cond.methodLink RX9 81 yX9_isMachine, Cond.instanceMethod yX9_isMachine]
def wsX9_perform_r5 : List Cond := [Cond.selects RX9 yX9_isMachine yX9_isMachine, Cond.code yX9_isMachine cX9_isMachine 2 (some .boolean), Cond.methodLink RX9 109 yX9_goOn, Cond.instanceMethod yX9_goOn, Cond.selects RX9 yX9_goOn yX9_goOn, Cond.code yX9_goOn cX9_goOn 3 none, Cond.methodLink RX9 84 yX9_finish, Cond.instanceMethod yX9_finish, Cond.selects RX9 yX9_finish yX9_finish, Cond.code yX9_finish cX9_finish 3 none, Cond.methodLink RX9 112 yX9_take, Cond.instanceMethod yX9_take, Cond.selects RX9 yX9_take yX9_take, Cond.code yX9_take cX9_take 6 none, Cond.methodLink RX9 97 yX9_listenAgain, Cond.instanceMethod yX9_listenAgain, Cond.selects RX9 yX9_listenAgain yX9_listenAgain, Cond.code yX9_listenAgain cX9_listenAgain 2 none, Cond.methodLink RX9 100 yX9_tell, Cond.instanceMethod yX9_tell, Cond.selects RX9 yX9_tell yX9_tell, Cond.code yX9_tell cX9_tell 4 none, Cond.methodLink RX9 94 yX9_act, Cond.instanceMethod yX9_act]
def wsX9_perform_r6 : List Cond := [Cond.selects RX9 yX9_act yX9_act, Cond.code yX9_act cX9_act 8 none, Cond.methodLink RX9 56 yX9_l, Cond.static yX9_l, Cond.code yX9_l cX9_l 1 (some .int), Cond.methodLink RX9 91 yX9_isOf, Cond.instanceMethod yX9_isOf, Cond.selects RX9 yX9_isOf yX9_isOf, Cond.code yX9_isOf cX9_isOf 4 (some .boolean), Cond.methodLink RX9 88 yX9_isLamp, Cond.instanceMethod yX9_isLamp, Cond.selects RX9 yX9_isLamp yX9_isLamp, Cond.code yX9_isLamp cX9_isLamp 2 (some .boolean), Cond.methodLink RX9 135 yX9_says, Cond.instanceMethod yX9_says, Cond.selects RX9 yX9_says yX9_says, Cond.code yX9_says cX9_says 4 (some .int), Cond.methodLink RX9 132 yX9_recorded, Cond.instanceMethod yX9_recorded, Cond.selects RX9 yX9_recorded yX9_recorded, Cond.code yX9_recorded cX9_recorded 3 (some .int), Cond.fieldLink RX9 59 "MainsWordsModel" "states" "I", Cond.fieldLink RX9 19 "MainsWordsModel" "before" "[I"]
def wsX9_perform : List Cond := .code yX9_perform cX9_perform 5 (some .int) :: ((wsX9_perform_r1 ++ (wsX9_perform_r2 ++ (wsX9_perform_r3 ++ (wsX9_perform_r4 ++ (wsX9_perform_r5 ++ wsX9_perform_r6))))) ++ wsX90)
def wsX9_undo : List Cond := .code yX9_undo cX9_undo 2 (some .int) :: ([.fieldLink RX9 59 "MainsWordsModel" "states" "I", .fieldLink RX9 7 "MainsWordsModel" "s" "[I", .fieldLink RX9 19 "MainsWordsModel" "before" "[I"] ++ wsX90)
def wsX9_save : List Cond := .code yX9_save cX9_save 2 (some .int) :: ([.fieldLink RX9 22 "MainsWordsModel" "saved" "[I", .fieldLink RX9 7 "MainsWordsModel" "s" "[I", .fieldLink RX9 178 "MainsWordsModel" "isSaved" "Z"] ++ wsX90)
def wsX9_restore : List Cond := .code yX9_restore cX9_restore 2 (some .int) :: ([.fieldLink RX9 178 "MainsWordsModel" "isSaved" "Z", .fieldLink RX9 7 "MainsWordsModel" "s" "[I", .fieldLink RX9 22 "MainsWordsModel" "saved" "[I", .methodLink RX9 125 yX9_hold, .instanceMethod yX9_hold, .selects RX9 yX9_hold yX9_hold, .initialized RX9, .code yX9_hold cX9_hold 2 none, .fieldLink RX9 13 "MainsWordsModel" "spare" "[I", .methodLink RX9 132 yX9_recorded, .instanceMethod yX9_recorded, .selects RX9 yX9_recorded yX9_recorded, .code yX9_recorded cX9_recorded 3 (some .int), .fieldLink RX9 59 "MainsWordsModel" "states" "I", .fieldLink RX9 19 "MainsWordsModel" "before" "[I"] ++ wsX90)
def wsX9_senderOf : List Cond := .code yX9_senderOf cX9_senderOf 5 (some .int) :: ([.fieldLink RX9 7 "MainsWordsModel" "s" "[I", .methodLink RX9 67 yX9_isSender, .instanceMethod yX9_isSender, .selects RX9 yX9_isSender yX9_isSender, .initialized RX9, .code yX9_isSender cX9_isSender 2 (some .boolean), .methodLink RX9 46 yX9_in, .static yX9_in, .code yX9_in cX9_in 3 (some .boolean), .methodLink RX9 50 yX9_n, .static yX9_n, .code yX9_n cX9_n 1 (some .int), .methodLink RX9 74 yX9_bitOf, .instanceMethod yX9_bitOf, .selects RX9 yX9_bitOf yX9_bitOf, .code yX9_bitOf cX9_bitOf 2 (some .int), .methodLink RX9 63 yX9_frameBit, .static yX9_frameBit, .code yX9_frameBit cX9_frameBit 3 (some .int)] ++ wsX90)
def wsX9_queued : List Cond := .code yX9_queued cX9_queued 3 (some .int) :: ([.fieldLink RX9 7 "MainsWordsModel" "s" "[I", .methodLink RX9 67 yX9_isSender, .instanceMethod yX9_isSender, .selects RX9 yX9_isSender yX9_isSender, .initialized RX9, .code yX9_isSender cX9_isSender 2 (some .boolean), .methodLink RX9 46 yX9_in, .static yX9_in, .code yX9_in cX9_in 3 (some .boolean), .methodLink RX9 50 yX9_n, .static yX9_n, .code yX9_n cX9_n 1 (some .int)] ++ wsX90)
def wsX9_machineOf : List Cond := .code yX9_machineOf cX9_machineOf 3 (some .int) :: ([.fieldLink RX9 7 "MainsWordsModel" "s" "[I", .methodLink RX9 81 yX9_isMachine, .instanceMethod yX9_isMachine, .selects RX9 yX9_isMachine yX9_isMachine, .initialized RX9, .code yX9_isMachine cX9_isMachine 2 (some .boolean), .methodLink RX9 46 yX9_in, .static yX9_in, .code yX9_in cX9_in 3 (some .boolean), .methodLink RX9 53 yX9_m, .static yX9_m, .code yX9_m cX9_m 1 (some .int)] ++ wsX90)
def wsX9_lampOf : List Cond := .code yX9_lampOf cX9_lampOf 3 (some .int) :: ([.fieldLink RX9 7 "MainsWordsModel" "s" "[I", .methodLink RX9 88 yX9_isLamp, .instanceMethod yX9_isLamp, .selects RX9 yX9_isLamp yX9_isLamp, .initialized RX9, .code yX9_isLamp cX9_isLamp 2 (some .boolean), .methodLink RX9 46 yX9_in, .static yX9_in, .code yX9_in cX9_in 3 (some .boolean), .methodLink RX9 56 yX9_l, .static yX9_l, .code yX9_l cX9_l 1 (some .int)] ++ wsX90)
def wsX9_receiver : List Cond := .code yX9_receiver cX9_receiver 4 (some .int) :: ([.fieldLink RX9 7 "MainsWordsModel" "s" "[I", .methodLink RX9 118 yX9_isWire, .static yX9_isWire, .initialized RX9, .code yX9_isWire cX9_isWire 1 (some .boolean), .methodLink RX9 46 yX9_in, .static yX9_in, .code yX9_in cX9_in 3 (some .boolean), .methodLink RX9 42 yX9_r, .static yX9_r, .code yX9_r cX9_r 1 (some .int)] ++ wsX90)
def wsX9_frame : List Cond := .code yX9_frame cX9_frame 3 (some .int) :: ([.methodLink RX9 46 yX9_in, .static yX9_in, .initialized RX9, .code yX9_in cX9_in 3 (some .boolean), .methodLink RX9 63 yX9_frameBit, .static yX9_frameBit, .code yX9_frameBit cX9_frameBit 3 (some .int)])
def wsX9_loss : List Cond := .code yX9_loss cX9_loss 3 (some .int) :: ([.methodLink RX9 118 yX9_isWire, .static yX9_isWire, .initialized RX9, .code yX9_isWire cX9_isWire 1 (some .boolean), .methodLink RX9 46 yX9_in, .static yX9_in, .code yX9_in cX9_in 3 (some .boolean), .methodLink RX9 71 yX9_lossOf, .instanceMethod yX9_lossOf, .selects RX9 yX9_lossOf yX9_lossOf, .code yX9_lossOf cX9_lossOf 4 (some .int), .fieldLink RX9 7 "MainsWordsModel" "s" "[I"] ++ wsX90)
def wsX9_ofSenders : List Cond := .code yX9_ofSenders cX9_ofSenders 4 (some .int) :: ([.fieldLink RX9 7 "MainsWordsModel" "s" "[I", .methodLink RX9 67 yX9_isSender, .instanceMethod yX9_isSender, .selects RX9 yX9_isSender yX9_isSender, .initialized RX9, .code yX9_isSender cX9_isSender 2 (some .boolean), .methodLink RX9 46 yX9_in, .static yX9_in, .code yX9_in cX9_in 3 (some .boolean), .methodLink RX9 50 yX9_n, .static yX9_n, .code yX9_n cX9_n 1 (some .int)] ++ wsX90)
def wsX9_ofLamps : List Cond := .code yX9_ofLamps cX9_ofLamps 4 (some .int) :: ([.fieldLink RX9 7 "MainsWordsModel" "s" "[I", .methodLink RX9 88 yX9_isLamp, .instanceMethod yX9_isLamp, .selects RX9 yX9_isLamp yX9_isLamp, .initialized RX9, .code yX9_isLamp cX9_isLamp 2 (some .boolean), .methodLink RX9 46 yX9_in, .static yX9_in, .code yX9_in cX9_in 3 (some .boolean), .methodLink RX9 56 yX9_l, .static yX9_l, .code yX9_l cX9_l 1 (some .int)] ++ wsX90)
def wsX9_count_r1 : List Cond := [Cond.fieldLink RX9 7 "MainsWordsModel" "s" "[I", Cond.fieldLink RX9 59 "MainsWordsModel" "states" "I", Cond.fieldLink RX9 141 "MainsWordsModel" "length" "I", Cond.methodLink RX9 182 yX9_ofSenders, Cond.instanceMethod yX9_ofSenders, Cond.selects RX9 yX9_ofSenders yX9_ofSenders, Cond.initialized RX9, Cond.code yX9_ofSenders cX9_ofSenders 4 (some .int), Cond.methodLink RX9 67 yX9_isSender, Cond.instanceMethod yX9_isSender, Cond.selects RX9 yX9_isSender yX9_isSender, Cond.code yX9_isSender cX9_isSender 2 (some .boolean), Cond.methodLink RX9 46 yX9_in, Cond.static yX9_in, Cond.code yX9_in cX9_in 3 (some .boolean), Cond.methodLink RX9 50 yX9_n, Cond.static yX9_n, Cond.code yX9_n cX9_n 1 (some .int), Cond.methodLink RX9 53 yX9_m, Cond.static yX9_m, Cond.code yX9_m cX9_m 1 (some .int), Cond.methodLink RX9 185 yX9_ofLamps, Cond.instanceMethod yX9_ofLamps, Cond.selects RX9 yX9_ofLamps yX9_ofLamps]
def wsX9_count_r2 : List Cond := [Cond.code yX9_ofLamps cX9_ofLamps 4 (some .int), Cond.methodLink RX9 88 yX9_isLamp, Cond.instanceMethod yX9_isLamp, Cond.selects RX9 yX9_isLamp yX9_isLamp, Cond.code yX9_isLamp cX9_isLamp 2 (some .boolean), Cond.methodLink RX9 56 yX9_l, Cond.static yX9_l, Cond.code yX9_l cX9_l 1 (some .int)]
def wsX9_count : List Cond := .code yX9_count cX9_count 2 (some .int) :: ((wsX9_count_r1 ++ wsX9_count_r2) ++ wsX90)
def wsX9_total : List Cond := .code yX9_total cX9_total 2 (some .int) :: ([.fieldLink RX9 7 "MainsWordsModel" "s" "[I", .methodLink RX9 46 yX9_in, .static yX9_in, .initialized RX9, .code yX9_in cX9_in 3 (some .boolean)] ++ wsX90)
def wsX9_silentIn_r1 : List Cond := [Cond.methodLink RX9 188 yX9_keepTrial, Cond.instanceMethod yX9_keepTrial, Cond.selects RX9 yX9_keepTrial yX9_keepTrial, Cond.initialized RX9, Cond.code yX9_keepTrial cX9_keepTrial 2 none, Cond.fieldLink RX9 16 "MainsWordsModel" "trial" "[I", Cond.fieldLink RX9 7 "MainsWordsModel" "s" "[I", Cond.methodLink RX9 182 yX9_ofSenders, Cond.instanceMethod yX9_ofSenders, Cond.selects RX9 yX9_ofSenders yX9_ofSenders, Cond.code yX9_ofSenders cX9_ofSenders 4 (some .int), Cond.methodLink RX9 67 yX9_isSender, Cond.instanceMethod yX9_isSender, Cond.selects RX9 yX9_isSender yX9_isSender, Cond.code yX9_isSender cX9_isSender 2 (some .boolean), Cond.methodLink RX9 46 yX9_in, Cond.static yX9_in, Cond.code yX9_in cX9_in 3 (some .boolean), Cond.methodLink RX9 50 yX9_n, Cond.static yX9_n, Cond.code yX9_n cX9_n 1 (some .int), Cond.methodLink RX9 115 yX9_beat, Cond.instanceMethod yX9_beat, Cond.selects RX9 yX9_beat yX9_beat]
def wsX9_silentIn_r2 : List Cond := [Cond.code yX9_beat cX9_beat 2 none, Cond.methodLink RX9 103 yX9_begin, Cond.instanceMethod yX9_begin, Cond.selects RX9 yX9_begin yX9_begin, Cond.code yX9_begin cX9_begin 5 none, Cond.fieldLink RX9 31 "MainsWordsModel" "begins" "[Z", Cond.methodLink RX9 42 yX9_r, Cond.static yX9_r, Cond.code yX9_r cX9_r 1 (some .int), Cond.methodLink RX9 106 yX9_send, Cond.instanceMethod yX9_send, Cond.selects RX9 yX9_send yX9_send, Cond.code yX9_send cX9_send 3 none, Cond.fieldLink RX9 25 "MainsWordsModel" "heard" "[I", Cond.fieldLink RX9 28 "MainsWordsModel" "bits" "[I", Cond.methodLink RX9 74 yX9_bitOf, Cond.instanceMethod yX9_bitOf, Cond.selects RX9 yX9_bitOf yX9_bitOf, Cond.code yX9_bitOf cX9_bitOf 2 (some .int), Cond.methodLink RX9 63 yX9_frameBit, Cond.static yX9_frameBit, Cond.code yX9_frameBit cX9_frameBit 3 (some .int), Cond.methodLink RX9 77 yX9_sound, Cond.instanceMethod yX9_sound]
def wsX9_silentIn_r3 : List Cond := [Cond.selects RX9 yX9_sound yX9_sound, Cond.code yX9_sound cX9_sound 4 none, Cond.methodLink RX9 71 yX9_lossOf, Cond.instanceMethod yX9_lossOf, Cond.selects RX9 yX9_lossOf yX9_lossOf, Cond.code yX9_lossOf cX9_lossOf 4 (some .int), Cond.methodLink RX9 53 yX9_m, Cond.static yX9_m, Cond.code yX9_m cX9_m 1 (some .int), Cond.methodLink RX9 81 yX9_isMachine, Cond.instanceMethod yX9_isMachine, Cond.selects RX9 yX9_isMachine yX9_isMachine, Cond.code yX9_isMachine cX9_isMachine 2 (some .boolean), Cond.methodLink RX9 109 yX9_goOn, Cond.instanceMethod yX9_goOn, Cond.selects RX9 yX9_goOn yX9_goOn, Cond.code yX9_goOn cX9_goOn 3 none, Cond.methodLink RX9 84 yX9_finish, Cond.instanceMethod yX9_finish, Cond.selects RX9 yX9_finish yX9_finish, Cond.code yX9_finish cX9_finish 3 none, Cond.methodLink RX9 112 yX9_take, Cond.instanceMethod yX9_take, Cond.selects RX9 yX9_take yX9_take]
def wsX9_silentIn_r4 : List Cond := [Cond.code yX9_take cX9_take 6 none, Cond.methodLink RX9 97 yX9_listenAgain, Cond.instanceMethod yX9_listenAgain, Cond.selects RX9 yX9_listenAgain yX9_listenAgain, Cond.code yX9_listenAgain cX9_listenAgain 2 none, Cond.methodLink RX9 100 yX9_tell, Cond.instanceMethod yX9_tell, Cond.selects RX9 yX9_tell yX9_tell, Cond.code yX9_tell cX9_tell 4 none, Cond.methodLink RX9 94 yX9_act, Cond.instanceMethod yX9_act, Cond.selects RX9 yX9_act yX9_act, Cond.code yX9_act cX9_act 8 none, Cond.methodLink RX9 56 yX9_l, Cond.static yX9_l, Cond.code yX9_l cX9_l 1 (some .int), Cond.methodLink RX9 91 yX9_isOf, Cond.instanceMethod yX9_isOf, Cond.selects RX9 yX9_isOf yX9_isOf, Cond.code yX9_isOf cX9_isOf 4 (some .boolean), Cond.methodLink RX9 88 yX9_isLamp, Cond.instanceMethod yX9_isLamp, Cond.selects RX9 yX9_isLamp yX9_isLamp, Cond.code yX9_isLamp cX9_isLamp 2 (some .boolean)]
def wsX9_silentIn_r5 : List Cond := [Cond.methodLink RX9 191 yX9_putBack, Cond.instanceMethod yX9_putBack, Cond.selects RX9 yX9_putBack yX9_putBack, Cond.code yX9_putBack cX9_putBack 2 none]
def wsX9_silentIn : List Cond := .code yX9_silentIn cX9_silentIn 3 (some .int) :: ((wsX9_silentIn_r1 ++ (wsX9_silentIn_r2 ++ (wsX9_silentIn_r3 ++ (wsX9_silentIn_r4 ++ wsX9_silentIn_r5)))) ++ wsX90)
def wsX9_levelIn_r1 : List Cond := [Cond.fieldLink RX9 7 "MainsWordsModel" "s" "[I", Cond.methodLink RX9 88 yX9_isLamp, Cond.instanceMethod yX9_isLamp, Cond.selects RX9 yX9_isLamp yX9_isLamp, Cond.initialized RX9, Cond.code yX9_isLamp cX9_isLamp 2 (some .boolean), Cond.methodLink RX9 46 yX9_in, Cond.static yX9_in, Cond.code yX9_in cX9_in 3 (some .boolean), Cond.methodLink RX9 56 yX9_l, Cond.static yX9_l, Cond.code yX9_l cX9_l 1 (some .int), Cond.methodLink RX9 188 yX9_keepTrial, Cond.instanceMethod yX9_keepTrial, Cond.selects RX9 yX9_keepTrial yX9_keepTrial, Cond.code yX9_keepTrial cX9_keepTrial 2 none, Cond.fieldLink RX9 16 "MainsWordsModel" "trial" "[I", Cond.methodLink RX9 115 yX9_beat, Cond.instanceMethod yX9_beat, Cond.selects RX9 yX9_beat yX9_beat, Cond.code yX9_beat cX9_beat 2 none, Cond.methodLink RX9 103 yX9_begin, Cond.instanceMethod yX9_begin, Cond.selects RX9 yX9_begin yX9_begin]
def wsX9_levelIn_r2 : List Cond := [Cond.code yX9_begin cX9_begin 5 none, Cond.fieldLink RX9 31 "MainsWordsModel" "begins" "[Z", Cond.methodLink RX9 50 yX9_n, Cond.static yX9_n, Cond.code yX9_n cX9_n 1 (some .int), Cond.methodLink RX9 42 yX9_r, Cond.static yX9_r, Cond.code yX9_r cX9_r 1 (some .int), Cond.methodLink RX9 67 yX9_isSender, Cond.instanceMethod yX9_isSender, Cond.selects RX9 yX9_isSender yX9_isSender, Cond.code yX9_isSender cX9_isSender 2 (some .boolean), Cond.methodLink RX9 106 yX9_send, Cond.instanceMethod yX9_send, Cond.selects RX9 yX9_send yX9_send, Cond.code yX9_send cX9_send 3 none, Cond.fieldLink RX9 25 "MainsWordsModel" "heard" "[I", Cond.fieldLink RX9 28 "MainsWordsModel" "bits" "[I", Cond.methodLink RX9 74 yX9_bitOf, Cond.instanceMethod yX9_bitOf, Cond.selects RX9 yX9_bitOf yX9_bitOf, Cond.code yX9_bitOf cX9_bitOf 2 (some .int), Cond.methodLink RX9 63 yX9_frameBit, Cond.static yX9_frameBit]
def wsX9_levelIn_r3 : List Cond := [Cond.code yX9_frameBit cX9_frameBit 3 (some .int), Cond.methodLink RX9 77 yX9_sound, Cond.instanceMethod yX9_sound, Cond.selects RX9 yX9_sound yX9_sound, Cond.code yX9_sound cX9_sound 4 none, Cond.methodLink RX9 71 yX9_lossOf, Cond.instanceMethod yX9_lossOf, Cond.selects RX9 yX9_lossOf yX9_lossOf, Cond.code yX9_lossOf cX9_lossOf 4 (some .int), Cond.methodLink RX9 53 yX9_m, Cond.static yX9_m, Cond.code yX9_m cX9_m 1 (some .int), Cond.methodLink RX9 81 yX9_isMachine, Cond.instanceMethod yX9_isMachine, Cond.selects RX9 yX9_isMachine yX9_isMachine, Cond.code yX9_isMachine cX9_isMachine 2 (some .boolean), Cond.methodLink RX9 109 yX9_goOn, Cond.instanceMethod yX9_goOn, Cond.selects RX9 yX9_goOn yX9_goOn, Cond.code yX9_goOn cX9_goOn 3 none, Cond.methodLink RX9 84 yX9_finish, Cond.instanceMethod yX9_finish, Cond.selects RX9 yX9_finish yX9_finish, Cond.code yX9_finish cX9_finish 3 none]
def wsX9_levelIn_r4 : List Cond := [Cond.methodLink RX9 112 yX9_take, Cond.instanceMethod yX9_take, Cond.selects RX9 yX9_take yX9_take, Cond.code yX9_take cX9_take 6 none, Cond.methodLink RX9 97 yX9_listenAgain, Cond.instanceMethod yX9_listenAgain, Cond.selects RX9 yX9_listenAgain yX9_listenAgain, Cond.code yX9_listenAgain cX9_listenAgain 2 none, Cond.methodLink RX9 100 yX9_tell, Cond.instanceMethod yX9_tell, Cond.selects RX9 yX9_tell yX9_tell, Cond.code yX9_tell cX9_tell 4 none, Cond.methodLink RX9 94 yX9_act, Cond.instanceMethod yX9_act, Cond.selects RX9 yX9_act yX9_act, Cond.code yX9_act cX9_act 8 none, Cond.methodLink RX9 91 yX9_isOf, Cond.instanceMethod yX9_isOf, Cond.selects RX9 yX9_isOf yX9_isOf, Cond.code yX9_isOf cX9_isOf 4 (some .boolean), Cond.methodLink RX9 191 yX9_putBack, Cond.instanceMethod yX9_putBack, Cond.selects RX9 yX9_putBack yX9_putBack, Cond.code yX9_putBack cX9_putBack 2 none]
def wsX9_levelIn : List Cond := .code yX9_levelIn cX9_levelIn 4 (some .int) :: ((wsX9_levelIn_r1 ++ (wsX9_levelIn_r2 ++ (wsX9_levelIn_r3 ++ wsX9_levelIn_r4))) ++ wsX90)
def wsX9_freshness : List Cond := .code yX9_freshness cX9_freshness 2 (some .float) :: ([.fieldLink RX9 7 "MainsWordsModel" "s" "[I"] ++ wsX90)
def wsL_law_r1 : List Cond := [Cond.classLink RL 7 RX8, Cond.instantiable RX8 6, Cond.initialized RX8, Cond.classLink RL 10 RX9, Cond.instantiable RX9 15, Cond.initialized RX9, Cond.methodLink RL 9 yX8_init, Cond.instanceMethod yX8_init, Cond.code yX8_init cX8_init 1 none, Cond.methodLink RX8 1 objectInit, Cond.instanceMethod objectInit, Cond.code objectInit ⟨#[0xb1]⟩ 1 none, Cond.classLink RX8 7 RX3, Cond.instantiable RX3 8, Cond.initialized RX3, Cond.fieldLink RX8 10 "MainsWords" "now" "LMainsWords$Net;", Cond.fieldLink RX8 16 "MainsWords" "ahead" "LMainsWords$Net;", Cond.fieldLink RX8 19 "MainsWords" "snapshot" "LMainsWords$Net;", Cond.fieldLink RX8 22 "MainsWords" "hasSnapshot" "Z", Cond.classLink RX8 26 RX0, Cond.instantiable RX0 2, Cond.initialized RX0, Cond.fieldLink RX8 29 "MainsWords" "history" "LMainsWords$History;", Cond.classLink RX8 33 RX5]
def wsL_law_r2 : List Cond := [Cond.instantiable RX5 2, Cond.initialized RX5, Cond.fieldLink RX8 36 "MainsWords" "script" "LMainsWords$Script;", Cond.methodLink RX8 9 yX3_init, Cond.instanceMethod yX3_init, Cond.code yX3_init cX3_init 2 none, Cond.methodLink RX3 3 objectInit, Cond.classLink RX3 9 RX6, Cond.fieldLink RX3 11 "MainsWords$Net" "senders" "[LMainsWords$Sender;", Cond.classLink RX3 17 RX2, Cond.fieldLink RX3 19 "MainsWords$Net" "machines" "[LMainsWords$Machine;", Cond.classLink RX3 23 RX1, Cond.fieldLink RX3 25 "MainsWords$Net" "lamps" "[LMainsWords$Lamp;", Cond.classLink RX3 29 RX4, Cond.fieldLink RX3 31 "MainsWords$Net" "receivers" "[LMainsWords$Receiver;", Cond.arrayClass .int, Cond.fieldLink RX3 35 "MainsWords$Net" "settings" "[I", Cond.fieldLink RX3 39 "MainsWords$Net" "totals" "[I", Cond.fieldLink RX3 42 "MainsWords$Net" "time" "I", Cond.arrayClass .boolean, Cond.fieldLink RX3 46 "MainsWords$Net" "heard" "[Z", Cond.instantiable RX6 10, Cond.initialized RX6, Cond.instantiable RX2 6]
def wsL_law_r3 : List Cond := [Cond.initialized RX2, Cond.instantiable RX1 7, Cond.initialized RX1, Cond.instantiable RX4 7, Cond.initialized RX4, Cond.methodLink RX3 50 yX6_init, Cond.instanceMethod yX6_init, Cond.code yX6_init cX6_init 2 none, Cond.fieldLink RX6 9 "MainsWords$Sender" "queue" "[I", Cond.fieldLink RX6 15 "MainsWords$Sender" "queueLength" "I", Cond.fieldLink RX6 19 "MainsWords$Sender" "strength" "I", Cond.fieldLink RX6 22 "MainsWords$Sender" "speaks" "Z", Cond.fieldLink RX6 26 "MainsWords$Sender" "copy" "I", Cond.fieldLink RX6 29 "MainsWords$Sender" "place" "I", Cond.fieldLink RX6 32 "MainsWords$Sender" "pause" "I", Cond.methodLink RX6 3 yX7_init, Cond.instanceMethod yX7_init, Cond.initialized RX7, Cond.code yX7_init cX7_init 2 none, Cond.methodLink RX7 1 objectInit, Cond.fieldLink RX7 7 "MainsWords$Thing" "isPresent" "Z", Cond.fieldLink RX7 13 "MainsWords$Thing" "wire" "I", Cond.fieldLink RX7 17 "MainsWords$Thing" "number" "I", Cond.methodLink RX3 53 yX2_init]
def wsL_law_r4 : List Cond := [Cond.instanceMethod yX2_init, Cond.code yX2_init cX2_init 2 none, Cond.fieldLink RX2 9 "MainsWords$Machine" "strength" "I", Cond.fieldLink RX2 15 "MainsWords$Machine" "period" "I", Cond.fieldLink RX2 18 "MainsWords$Machine" "isOn" "Z", Cond.methodLink RX2 3 yX7_init, Cond.methodLink RX3 54 yX1_init, Cond.instanceMethod yX1_init, Cond.code yX1_init cX1_init 2 none, Cond.fieldLink RX1 9 "MainsWords$Lamp" "letter" "I", Cond.fieldLink RX1 15 "MainsWords$Lamp" "unit" "I", Cond.fieldLink RX1 18 "MainsWords$Lamp" "level" "I", Cond.fieldLink RX1 21 "MainsWords$Lamp" "isSelected" "Z", Cond.methodLink RX1 3 yX7_init, Cond.instanceMethod yX4_init, Cond.code yX4_init cX4_init 1 none, Cond.methodLink RX4 3 objectInit, Cond.fieldLink RX4 9 "MainsWords$Receiver" "reads" "Z", Cond.fieldLink RX4 15 "MainsWords$Receiver" "latestBits" "I", Cond.fieldLink RX4 19 "MainsWords$Receiver" "bitsRead" "I", Cond.fieldLink RX4 22 "MainsWords$Receiver" "wordSoFar" "I", Cond.fieldLink RX4 25 "MainsWords$Receiver" "lastWord" "I", Cond.fieldLink RX4 28 "MainsWords$Receiver" "toldAt" "I", Cond.fieldLink RX4 31 "MainsWords$Receiver" "openLetters" "I"]
def wsL_law_r5 : List Cond := [Cond.methodLink RX8 28 yX0_init, Cond.instanceMethod yX0_init, Cond.code yX0_init cX0_init 2 none, Cond.methodLink RX0 3 objectInit, Cond.classLink RX0 9 RX3, Cond.fieldLink RX0 11 "MainsWords$History" "states" "[LMainsWords$Net;", Cond.fieldLink RX0 17 "MainsWords$History" "kept" "I", Cond.methodLink RX0 21 yX3_init, Cond.instanceMethod yX5_init, Cond.code yX5_init cX5_init 1 none, Cond.methodLink RX5 3 objectInit, Cond.fieldLink RX5 9 "MainsWords$Script" "signs" "[I", Cond.fieldLink RX5 15 "MainsWords$Script" "length" "I", Cond.methodLink RL 12 yX9_init, Cond.instanceMethod yX9_init, Cond.code yX9_init cX9_init 2 none, Cond.methodLink RX9 1 objectInit, Cond.fieldLink RX9 7 "MainsWordsModel" "s" "[I", Cond.fieldLink RX9 13 "MainsWordsModel" "spare" "[I", Cond.fieldLink RX9 16 "MainsWordsModel" "trial" "[I", Cond.fieldLink RX9 19 "MainsWordsModel" "before" "[I", Cond.fieldLink RX9 22 "MainsWordsModel" "saved" "[I", Cond.fieldLink RX9 25 "MainsWordsModel" "heard" "[I", Cond.fieldLink RX9 28 "MainsWordsModel" "bits" "[I"]
def wsL_law_r6 : List Cond := [Cond.fieldLink RX9 31 "MainsWordsModel" "begins" "[Z", Cond.fieldLink RX9 35 "MainsWordsModel" "read" "[I", Cond.arrayClass .char, Cond.fieldLink RX9 38 "MainsWordsModel" "text" "[C", Cond.methodLink RX9 42 yX9_r, Cond.static yX9_r, Cond.code yX9_r cX9_r 1 (some .int), Cond.methodLink RL 13 yX8_sender, Cond.instanceMethod yX8_sender, Cond.selects RX8 yX8_sender yX8_sender, Cond.code yX8_sender cX8_sender 4 (some .int), Cond.fieldLink RX8 58 "MainsWords$Sender" "number" "I", Cond.sameField "MainsWords$Sender" "MainsWords$Thing" "number" "I", Cond.methodLink RX8 40 yX8_isWire, Cond.static yX8_isWire, Cond.code yX8_isWire cX8_isWire 1 (some .boolean), Cond.methodLink RX8 44 yX3_freeSender, Cond.instanceMethod yX3_freeSender, Cond.selects RX3 yX3_freeSender yX3_freeSender, Cond.code yX3_freeSender cX3_freeSender 3 (some (.object "MainsWords$Sender")), Cond.classLink RX3 9 "MainsWords$Sender", Cond.static yX8_firstFree, Cond.code yX8_firstFree cX8_firstFree 5 (some (.object "MainsWords$Thing")), Cond.fieldLink RX8 88 "MainsWords$Thing" "isPresent" "Z"]
def wsL_law_r7 : List Cond := [Cond.methodLink RX8 48 yX0_keep, Cond.instanceMethod yX0_keep, Cond.selects RX0 yX0_keep yX0_keep, Cond.code yX0_keep cX0_keep 2 none, Cond.methodLink RX0 22 yX0_dropOldest, Cond.instanceMethod yX0_dropOldest, Cond.selects RX0 yX0_dropOldest yX0_dropOldest, Cond.code yX0_dropOldest cX0_dropOldest 3 none, Cond.methodLink RX0 25 yX3_copyFrom, Cond.instanceMethod yX3_copyFrom, Cond.selects RX3 yX3_copyFrom yX3_copyFrom, Cond.code yX3_copyFrom cX3_copyFrom 3 none, Cond.methodLink RX3 56 yX6_copyFrom, Cond.instanceMethod yX6_copyFrom, Cond.selects RX6 yX6_copyFrom yX6_copyFrom, Cond.code yX6_copyFrom cX6_copyFrom 2 none, Cond.methodLink RX6 41 ⟨"MainsWords$Sender", "copyThing", "(LMainsWords$Thing;)V"⟩, Cond.sameMethod "MainsWords$Sender" "MainsWords$Thing" "copyThing" "(LMainsWords$Thing;)V", Cond.selects RX6 ⟨"MainsWords$Sender", "copyThing", "(LMainsWords$Thing;)V"⟩ yX7_copyThing, Cond.instanceMethod yX7_copyThing, Cond.code yX7_copyThing cX7_copyThing 2 none, Cond.static yX8_copyRow, Cond.code yX8_copyRow cX8_copyRow 3 none, Cond.methodLink RX3 60 yX2_copyFrom]
def wsL_law_r8 : List Cond := [Cond.instanceMethod yX2_copyFrom, Cond.selects RX2 yX2_copyFrom yX2_copyFrom, Cond.code yX2_copyFrom cX2_copyFrom 2 none, Cond.methodLink RX2 28 ⟨"MainsWords$Machine", "copyThing", "(LMainsWords$Thing;)V"⟩, Cond.sameMethod "MainsWords$Machine" "MainsWords$Thing" "copyThing" "(LMainsWords$Thing;)V", Cond.selects RX2 ⟨"MainsWords$Machine", "copyThing", "(LMainsWords$Thing;)V"⟩ yX7_copyThing, Cond.methodLink RX3 63 yX1_copyFrom, Cond.instanceMethod yX1_copyFrom, Cond.selects RX1 yX1_copyFrom yX1_copyFrom, Cond.code yX1_copyFrom cX1_copyFrom 2 none, Cond.methodLink RX1 31 ⟨"MainsWords$Lamp", "copyThing", "(LMainsWords$Thing;)V"⟩, Cond.sameMethod "MainsWords$Lamp" "MainsWords$Thing" "copyThing" "(LMainsWords$Thing;)V", Cond.selects RX1 ⟨"MainsWords$Lamp", "copyThing", "(LMainsWords$Thing;)V"⟩ yX7_copyThing, Cond.methodLink RX3 66 yX4_copyFrom, Cond.instanceMethod yX4_copyFrom, Cond.selects RX4 yX4_copyFrom yX4_copyFrom, Cond.code yX4_copyFrom cX4_copyFrom 2 none, Cond.methodLink RX8 52 yX6_put, Cond.instanceMethod yX6_put, Cond.selects RX6 yX6_put yX6_put, Cond.code yX6_put cX6_put 3 none, Cond.fieldLink RX6 35 "MainsWords$Sender" "isPresent" "Z", Cond.sameField "MainsWords$Sender" "MainsWords$Thing" "isPresent" "Z", Cond.fieldLink RX6 38 "MainsWords$Sender" "wire" "I"]
def wsL_law_r9 : List Cond := [Cond.sameField "MainsWords$Sender" "MainsWords$Thing" "wire" "I", Cond.methodLink RL 17 yX9_sender, Cond.instanceMethod yX9_sender, Cond.selects RX9 yX9_sender yX9_sender, Cond.code yX9_sender cX9_sender 4 (some .int), Cond.methodLink RX9 118 yX9_isWire, Cond.static yX9_isWire, Cond.code yX9_isWire cX9_isWire 1 (some .boolean), Cond.methodLink RX9 46 yX9_in, Cond.static yX9_in, Cond.code yX9_in cX9_in 3 (some .boolean), Cond.methodLink RX9 121 yX9_free, Cond.instanceMethod yX9_free, Cond.selects RX9 yX9_free yX9_free, Cond.code yX9_free cX9_free 5 (some .int), Cond.methodLink RX9 125 yX9_hold, Cond.instanceMethod yX9_hold, Cond.selects RX9 yX9_hold yX9_hold, Cond.code yX9_hold cX9_hold 2 none, Cond.methodLink RX9 50 yX9_n, Cond.static yX9_n, Cond.code yX9_n cX9_n 1 (some .int), Cond.methodLink RX9 128 yX9_put, Cond.instanceMethod yX9_put]
def wsL_law_r10 : List Cond := [Cond.selects RX9 yX9_put yX9_put, Cond.code yX9_put cX9_put 7 none, Cond.methodLink RX9 132 yX9_recorded, Cond.instanceMethod yX9_recorded, Cond.selects RX9 yX9_recorded yX9_recorded, Cond.code yX9_recorded cX9_recorded 3 (some .int), Cond.fieldLink RX9 59 "MainsWordsModel" "states" "I", Cond.methodLink RL 18 yX8_machine, Cond.instanceMethod yX8_machine, Cond.selects RX8 yX8_machine yX8_machine, Cond.code yX8_machine cX8_machine 5 (some .int), Cond.fieldLink RX8 71 "MainsWords$Machine" "number" "I", Cond.sameField "MainsWords$Machine" "MainsWords$Thing" "number" "I", Cond.methodLink RX8 62 yX3_freeMachine, Cond.instanceMethod yX3_freeMachine, Cond.selects RX3 yX3_freeMachine yX3_freeMachine, Cond.code yX3_freeMachine cX3_freeMachine 3 (some (.object "MainsWords$Machine")), Cond.classLink RX3 17 "MainsWords$Machine", Cond.methodLink RX8 66 yX2_put, Cond.instanceMethod yX2_put, Cond.selects RX2 yX2_put yX2_put, Cond.code yX2_put cX2_put 4 none, Cond.fieldLink RX2 22 "MainsWords$Machine" "isPresent" "Z", Cond.sameField "MainsWords$Machine" "MainsWords$Thing" "isPresent" "Z"]
def wsL_law_r11 : List Cond := [Cond.fieldLink RX2 25 "MainsWords$Machine" "wire" "I", Cond.sameField "MainsWords$Machine" "MainsWords$Thing" "wire" "I", Cond.methodLink RL 22 yX9_machine, Cond.instanceMethod yX9_machine, Cond.selects RX9 yX9_machine yX9_machine, Cond.code yX9_machine cX9_machine 5 (some .int), Cond.methodLink RX9 53 yX9_m, Cond.static yX9_m, Cond.code yX9_m cX9_m 1 (some .int), Cond.methodLink RL 23 yX8_lamp, Cond.instanceMethod yX8_lamp, Cond.selects RX8 yX8_lamp yX8_lamp, Cond.code yX8_lamp cX8_lamp 5 (some .int), Cond.fieldLink RX8 79 "MainsWords$Lamp" "number" "I", Cond.sameField "MainsWords$Lamp" "MainsWords$Thing" "number" "I", Cond.methodLink RX8 72 yX3_freeLamp, Cond.instanceMethod yX3_freeLamp, Cond.selects RX3 yX3_freeLamp yX3_freeLamp, Cond.code yX3_freeLamp cX3_freeLamp 3 (some (.object "MainsWords$Lamp")), Cond.classLink RX3 23 "MainsWords$Lamp", Cond.methodLink RX8 76 yX1_put, Cond.instanceMethod yX1_put, Cond.selects RX1 yX1_put yX1_put, Cond.code yX1_put cX1_put 4 none]
def wsL_law_r12 : List Cond := [Cond.fieldLink RX1 25 "MainsWords$Lamp" "isPresent" "Z", Cond.sameField "MainsWords$Lamp" "MainsWords$Thing" "isPresent" "Z", Cond.fieldLink RX1 28 "MainsWords$Lamp" "wire" "I", Cond.sameField "MainsWords$Lamp" "MainsWords$Thing" "wire" "I", Cond.methodLink RL 26 yX9_lamp, Cond.instanceMethod yX9_lamp, Cond.selects RX9 yX9_lamp yX9_lamp, Cond.code yX9_lamp cX9_lamp 5 (some .int), Cond.methodLink RX9 56 yX9_l, Cond.static yX9_l, Cond.code yX9_l cX9_l 1 (some .int), Cond.methodLink RL 27 yX8_remove, Cond.instanceMethod yX8_remove, Cond.selects RX8 yX8_remove yX8_remove, Cond.code yX8_remove cX8_remove 5 (some .int), Cond.fieldLink RX8 93 "MainsWords$Thing" "wire" "I", Cond.methodLink RX8 80 yX3_thingsOf, Cond.instanceMethod yX3_thingsOf, Cond.selects RX3 yX3_thingsOf yX3_thingsOf, Cond.code yX3_thingsOf cX3_thingsOf 2 (some (.array (.object "MainsWords$Thing"))), Cond.methodLink RX8 84 yX8_presentAt, Cond.static yX8_presentAt, Cond.code yX8_presentAt cX8_presentAt 2 (some (.object "MainsWords$Thing")), Cond.methodLink RL 30 yX9_remove]
def wsL_law_r13 : List Cond := [Cond.instanceMethod yX9_remove, Cond.selects RX9 yX9_remove yX9_remove, Cond.code yX9_remove cX9_remove 6 (some .int), Cond.methodLink RX9 67 yX9_isSender, Cond.instanceMethod yX9_isSender, Cond.selects RX9 yX9_isSender yX9_isSender, Cond.code yX9_isSender cX9_isSender 2 (some .boolean), Cond.methodLink RX9 81 yX9_isMachine, Cond.instanceMethod yX9_isMachine, Cond.selects RX9 yX9_isMachine yX9_isMachine, Cond.code yX9_isMachine cX9_isMachine 2 (some .boolean), Cond.methodLink RX9 88 yX9_isLamp, Cond.instanceMethod yX9_isLamp, Cond.selects RX9 yX9_isLamp yX9_isLamp, Cond.code yX9_isLamp cX9_isLamp 2 (some .boolean), Cond.methodLink RL 31 yX8_say, Cond.instanceMethod yX8_say, Cond.selects RX8 yX8_say yX8_say, Cond.code yX8_say cX8_say 4 (some .int), Cond.methodLink RX8 96 yX3_refusalOfWord, Cond.instanceMethod yX3_refusalOfWord, Cond.selects RX3 yX3_refusalOfWord yX3_refusalOfWord, Cond.code yX3_refusalOfWord cX3_refusalOfWord 4 (some .int), Cond.methodLink RX3 100 yX3_senderAt]
def wsL_law_r14 : List Cond := [Cond.instanceMethod yX3_senderAt, Cond.selects RX3 yX3_senderAt yX3_senderAt, Cond.code yX3_senderAt cX3_senderAt 4 (some (.object "MainsWords$Sender")), Cond.static yX8_isWord, Cond.code yX8_isWord cX8_isWord 1 (some .boolean), Cond.methodLink RX3 108 yX6_isQueueFull, Cond.instanceMethod yX6_isQueueFull, Cond.selects RX6 yX6_isQueueFull yX6_isQueueFull, Cond.code yX6_isQueueFull cX6_isQueueFull 1 (some .boolean), Cond.methodLink RX8 100 yX3_giveWord, Cond.instanceMethod yX3_giveWord, Cond.selects RX3 yX3_giveWord yX3_giveWord, Cond.code yX3_giveWord cX3_giveWord 4 (some .int), Cond.fieldLink RX3 93 "MainsWords$Sender" "queueLength" "I", Cond.methodLink RX3 111 yX6_addWord, Cond.instanceMethod yX6_addWord, Cond.selects RX6 yX6_addWord yX6_addWord, Cond.code yX6_addWord cX6_addWord 2 none, Cond.methodLink RL 34 yX9_say, Cond.instanceMethod yX9_say, Cond.selects RX9 yX9_say yX9_say, Cond.code yX9_say cX9_say 4 (some .int), Cond.methodLink RX9 135 yX9_says, Cond.instanceMethod yX9_says]
def wsL_law_r15 : List Cond := [Cond.selects RX9 yX9_says yX9_says, Cond.code yX9_says cX9_says 4 (some .int), Cond.methodLink RL 35 yX8_run, Cond.instanceMethod yX8_run, Cond.selects RX8 yX8_run yX8_run, Cond.code yX8_run cX8_run 5 (some .int), Cond.fieldLink RX8 107 "MainsWords$Machine" "isOn" "Z", Cond.methodLink RX8 103 yX3_machineAt, Cond.instanceMethod yX3_machineAt, Cond.selects RX3 yX3_machineAt yX3_machineAt, Cond.code yX3_machineAt cX3_machineAt 4 (some (.object "MainsWords$Machine")), Cond.methodLink RX8 110 yX8_asNumber, Cond.static yX8_asNumber, Cond.code yX8_asNumber cX8_asNumber 1 (some .int), Cond.methodLink RL 39 yX9_run, Cond.instanceMethod yX9_run, Cond.selects RX9 yX9_run yX9_run, Cond.code yX9_run cX9_run 4 (some .int), Cond.methodLink RL 40 yX8_set, Cond.instanceMethod yX8_set, Cond.selects RX8 yX8_set yX8_set, Cond.code yX8_set cX8_set 4 (some .int), Cond.fieldLink RX8 114 "MainsWords" "LEAST_SETTING" "[I", Cond.fieldLink RX8 118 "MainsWords" "MOST_SETTING" "[I"]
def wsL_law_r16 : List Cond := [Cond.fieldLink RX8 121 "MainsWords$Net" "settings" "[I", Cond.methodLink RL 43 yX9_set, Cond.instanceMethod yX9_set, Cond.selects RX9 yX9_set yX9_set, Cond.code yX9_set cX9_set 4 (some .int), Cond.methodLink RL 44 yX8_pass, Cond.instanceMethod yX8_pass, Cond.selects RX8 yX8_pass yX8_pass, Cond.code yX8_pass cX8_pass 2 (some .int), Cond.methodLink RX8 124 yX3_letPass, Cond.instanceMethod yX3_letPass, Cond.selects RX3 yX3_letPass yX3_letPass, Cond.code yX3_letPass cX3_letPass 4 (some .int), Cond.methodLink RX3 114 yX3_beat, Cond.instanceMethod yX3_beat, Cond.selects RX3 yX3_beat yX3_beat, Cond.code yX3_beat cX3_beat 2 (some .int), Cond.methodLink RX3 118 yX3_beginSpeaking, Cond.instanceMethod yX3_beginSpeaking, Cond.selects RX3 yX3_beginSpeaking yX3_beginSpeaking, Cond.code yX3_beginSpeaking cX3_beginSpeaking 5 none, Cond.fieldLink RX3 89 "MainsWords$Sender" "isPresent" "Z", Cond.fieldLink RX3 130 "MainsWords$Sender" "wire" "I", Cond.methodLink RX3 133 yX3_isQuietOn]
def wsL_law_r17 : List Cond := [Cond.instanceMethod yX3_isQuietOn, Cond.selects RX3 yX3_isQuietOn yX3_isQuietOn, Cond.code yX3_isQuietOn cX3_isQuietOn 2 (some .boolean), Cond.methodLink RX3 140 yX4_isQuiet, Cond.instanceMethod yX4_isQuiet, Cond.selects RX4 yX4_isQuiet yX4_isQuiet, Cond.code yX4_isQuiet cX4_isQuiet 1 (some .boolean), Cond.methodLink RX3 136 yX6_beginOrWait, Cond.instanceMethod yX6_beginOrWait, Cond.selects RX6 yX6_beginOrWait yX6_beginOrWait, Cond.code yX6_beginOrWait cX6_beginOrWait 2 none, Cond.methodLink RX3 121 yX3_carryBits, Cond.instanceMethod yX3_carryBits, Cond.selects RX3 yX3_carryBits yX3_carryBits, Cond.code yX3_carryBits cX3_carryBits 5 none, Cond.fieldLink RX3 146 "MainsWords$Sender" "strength" "I", Cond.fieldLink RX3 156 "MainsWords$Machine" "wire" "I", Cond.fieldLink RX3 157 "MainsWords$Machine" "strength" "I", Cond.methodLink RX3 81 yX6_isSpeaking, Cond.instanceMethod yX6_isSpeaking, Cond.selects RX6 yX6_isSpeaking yX6_isSpeaking, Cond.code yX6_isSpeaking cX6_isSpeaking 1 (some .boolean), Cond.methodLink RX3 143 yX6_bitToSend, Cond.instanceMethod yX6_bitToSend]
def wsL_law_r18 : List Cond := [Cond.selects RX6 yX6_bitToSend yX6_bitToSend, Cond.code yX6_bitToSend cX6_bitToSend 1 (some .int), Cond.static yX8_frameBit, Cond.code yX8_frameBit cX8_frameBit 4 (some .int), Cond.methodLink RX3 149 yX3_spreadOne, Cond.instanceMethod yX3_spreadOne, Cond.selects RX3 yX3_spreadOne yX3_spreadOne, Cond.code yX3_spreadOne cX3_spreadOne 4 none, Cond.methodLink RX3 158 yX3_lossBetween, Cond.instanceMethod yX3_lossBetween, Cond.selects RX3 yX3_lossBetween yX3_lossBetween, Cond.code yX3_lossBetween cX3_lossBetween 5 (some .int), Cond.methodLink RX3 153 yX2_makesNoiseAt, Cond.instanceMethod yX2_makesNoiseAt, Cond.selects RX2 yX2_makesNoiseAt yX2_makesNoiseAt, Cond.code yX2_makesNoiseAt cX2_makesNoiseAt 2 (some .boolean), Cond.methodLink RX3 124 yX3_moveSenders, Cond.instanceMethod yX3_moveSenders, Cond.selects RX3 yX3_moveSenders yX3_moveSenders, Cond.code yX3_moveSenders cX3_moveSenders 5 none, Cond.methodLink RX3 162 yX3_isHeardOn, Cond.instanceMethod yX3_isHeardOn, Cond.selects RX3 yX3_isHeardOn yX3_isHeardOn, Cond.code yX3_isHeardOn cX3_isHeardOn 2 (some .boolean)]
def wsL_law_r19 : List Cond := [Cond.methodLink RX3 165 yX6_isDisturbedBy, Cond.instanceMethod yX6_isDisturbedBy, Cond.selects RX6 yX6_isDisturbedBy yX6_isDisturbedBy, Cond.code yX6_isDisturbedBy cX6_isDisturbedBy 2 (some .boolean), Cond.methodLink RX6 53 yX6_bitToSend, Cond.methodLink RX3 169 yX6_giveWay, Cond.instanceMethod yX6_giveWay, Cond.selects RX6 yX6_giveWay yX6_giveWay, Cond.code yX6_giveWay cX6_giveWay 1 none, Cond.fieldLink RX6 57 "MainsWords$Sender" "number" "I", Cond.methodLink RX3 172 yX6_goOn, Cond.instanceMethod yX6_goOn, Cond.selects RX6 yX6_goOn yX6_goOn, Cond.code yX6_goOn cX6_goOn 2 (some .boolean), Cond.methodLink RX6 60 yX6_dropFirstWord, Cond.instanceMethod yX6_dropFirstWord, Cond.selects RX6 yX6_dropFirstWord yX6_dropFirstWord, Cond.code yX6_dropFirstWord cX6_dropFirstWord 2 none, Cond.methodLink RX3 127 yX3_takeBits, Cond.instanceMethod yX3_takeBits, Cond.selects RX3 yX3_takeBits yX3_takeBits, Cond.code yX3_takeBits cX3_takeBits 4 (some .int), Cond.methodLink RX3 175 yX4_take, Cond.instanceMethod yX4_take]
def wsL_law_r20 : List Cond := [Cond.selects RX4 yX4_take yX4_take, Cond.code yX4_take cX4_take 2 (some .int), Cond.methodLink RX4 34 yX4_read, Cond.instanceMethod yX4_read, Cond.selects RX4 yX4_read yX4_read, Cond.code yX4_read cX4_read 2 (some .int), Cond.methodLink RX4 41 yX4_listenAnew, Cond.instanceMethod yX4_listenAnew, Cond.selects RX4 yX4_listenAnew yX4_listenAnew, Cond.code yX4_listenAnew cX4_listenAnew 1 none, Cond.methodLink RX4 38 yX4_listen, Cond.instanceMethod yX4_listen, Cond.selects RX4 yX4_listen yX4_listen, Cond.code yX4_listen cX4_listen 2 (some .int), Cond.methodLink RX3 179 yX3_hearWord, Cond.instanceMethod yX3_hearWord, Cond.selects RX3 yX3_hearWord yX3_hearWord, Cond.code yX3_hearWord cX3_hearWord 10 (some .int), Cond.methodLink RX3 183 yX4_tell, Cond.instanceMethod yX4_tell, Cond.selects RX4 yX4_tell yX4_tell, Cond.code yX4_tell cX4_tell 4 (some .boolean), Cond.methodLink RX3 187 yX1_isCalledBy, Cond.instanceMethod yX1_isCalledBy]
def wsL_law_r21 : List Cond := [Cond.selects RX1 yX1_isCalledBy yX1_isCalledBy, Cond.code yX1_isCalledBy cX1_isCalledBy 3 (some .boolean), Cond.methodLink RX3 190 yX4_isOpen, Cond.instanceMethod yX4_isOpen, Cond.selects RX4 yX4_isOpen yX4_isOpen, Cond.code yX4_isOpen cX4_isOpen 2 (some .boolean), Cond.methodLink RX3 193 yX1_obey, Cond.instanceMethod yX1_obey, Cond.selects RX1 yX1_obey yX1_obey, Cond.code yX1_obey cX1_obey 3 none, Cond.methodLink RX1 35 yX1_levelBy, Cond.instanceMethod yX1_levelBy, Cond.selects RX1 yX1_levelBy yX1_levelBy, Cond.code yX1_levelBy cX1_levelBy 2 (some .int), Cond.methodLink RX3 197 yX4_setOpen, Cond.instanceMethod yX4_setOpen, Cond.selects RX4 yX4_setOpen yX4_setOpen, Cond.code yX4_setOpen cX4_setOpen 3 none, Cond.methodLink RL 48 yX9_pass, Cond.instanceMethod yX9_pass, Cond.selects RX9 yX9_pass yX9_pass, Cond.code yX9_pass cX9_pass 3 (some .int), Cond.methodLink RX9 138 yX9_passes, Cond.instanceMethod yX9_passes]
def wsL_law_r22 : List Cond := [Cond.selects RX9 yX9_passes yX9_passes, Cond.code yX9_passes cX9_passes 4 (some .int), Cond.methodLink RX9 115 yX9_beat, Cond.instanceMethod yX9_beat, Cond.selects RX9 yX9_beat yX9_beat, Cond.code yX9_beat cX9_beat 2 none, Cond.methodLink RX9 103 yX9_begin, Cond.instanceMethod yX9_begin, Cond.selects RX9 yX9_begin yX9_begin, Cond.code yX9_begin cX9_begin 5 none, Cond.methodLink RX9 106 yX9_send, Cond.instanceMethod yX9_send, Cond.selects RX9 yX9_send yX9_send, Cond.code yX9_send cX9_send 3 none, Cond.methodLink RX9 74 yX9_bitOf, Cond.instanceMethod yX9_bitOf, Cond.selects RX9 yX9_bitOf yX9_bitOf, Cond.code yX9_bitOf cX9_bitOf 2 (some .int), Cond.methodLink RX9 63 yX9_frameBit, Cond.static yX9_frameBit, Cond.code yX9_frameBit cX9_frameBit 3 (some .int), Cond.methodLink RX9 77 yX9_sound, Cond.instanceMethod yX9_sound, Cond.selects RX9 yX9_sound yX9_sound]
def wsL_law_r23 : List Cond := [Cond.code yX9_sound cX9_sound 4 none, Cond.methodLink RX9 71 yX9_lossOf, Cond.instanceMethod yX9_lossOf, Cond.selects RX9 yX9_lossOf yX9_lossOf, Cond.code yX9_lossOf cX9_lossOf 4 (some .int), Cond.methodLink RX9 109 yX9_goOn, Cond.instanceMethod yX9_goOn, Cond.selects RX9 yX9_goOn yX9_goOn, Cond.code yX9_goOn cX9_goOn 3 none, Cond.methodLink RX9 84 yX9_finish, Cond.instanceMethod yX9_finish, Cond.selects RX9 yX9_finish yX9_finish, Cond.code yX9_finish cX9_finish 3 none, Cond.methodLink RX9 112 yX9_take, Cond.instanceMethod yX9_take, Cond.selects RX9 yX9_take yX9_take, Cond.code yX9_take cX9_take 6 none, Cond.methodLink RX9 97 yX9_listenAgain, Cond.instanceMethod yX9_listenAgain, Cond.selects RX9 yX9_listenAgain yX9_listenAgain, Cond.code yX9_listenAgain cX9_listenAgain 2 none, Cond.methodLink RX9 100 yX9_tell, Cond.instanceMethod yX9_tell, Cond.selects RX9 yX9_tell yX9_tell]
def wsL_law_r24 : List Cond := [Cond.code yX9_tell cX9_tell 4 none, Cond.methodLink RX9 94 yX9_act, Cond.instanceMethod yX9_act, Cond.selects RX9 yX9_act yX9_act, Cond.code yX9_act cX9_act 8 none, Cond.methodLink RX9 91 yX9_isOf, Cond.instanceMethod yX9_isOf, Cond.selects RX9 yX9_isOf yX9_isOf, Cond.code yX9_isOf cX9_isOf 4 (some .boolean), Cond.methodLink RL 49 yX8_append, Cond.instanceMethod yX8_append, Cond.selects RX8 yX8_append yX8_append, Cond.code yX8_append cX8_append 2 (some .int), Cond.fieldLink RX8 136 "MainsWords$Script" "length" "I", Cond.methodLink RX8 128 yX5_isFull, Cond.instanceMethod yX5_isFull, Cond.selects RX5 yX5_isFull yX5_isFull, Cond.code yX5_isFull cX5_isFull 1 (some .boolean), Cond.methodLink RX8 132 yX5_add, Cond.instanceMethod yX5_add, Cond.selects RX5 yX5_add yX5_add, Cond.code yX5_add cX5_add 2 none, Cond.methodLink RL 52 yX9_append, Cond.instanceMethod yX9_append]
def wsL_law_r25 : List Cond := [Cond.selects RX9 yX9_append yX9_append, Cond.code yX9_append cX9_append 2 (some .int), Cond.fieldLink RX9 141 "MainsWordsModel" "length" "I", Cond.methodLink RL 53 yX8_clearText, Cond.instanceMethod yX8_clearText, Cond.selects RX8 yX8_clearText yX8_clearText, Cond.code yX8_clearText cX8_clearText 2 (some .int), Cond.methodLink RL 57 yX9_clearText, Cond.instanceMethod yX9_clearText, Cond.selects RX9 yX9_clearText yX9_clearText, Cond.code yX9_clearText cX9_clearText 2 (some .int), Cond.methodLink RL 58 yX8_fault, Cond.instanceMethod yX8_fault, Cond.selects RX8 yX8_fault yX8_fault, Cond.code yX8_fault cX8_fault 1 (some .int), Cond.methodLink RX8 139 yX5_firstFault, Cond.instanceMethod yX5_firstFault, Cond.selects RX5 yX5_firstFault yX5_firstFault, Cond.code yX5_firstFault cX5_firstFault 3 (some .int), Cond.methodLink RX5 19 yX5_signAt, Cond.instanceMethod yX5_signAt, Cond.selects RX5 yX5_signAt yX5_signAt, Cond.code yX5_signAt cX5_signAt 2 (some .int), Cond.methodLink RX5 23 yX5_next]
def wsL_law_r26 : List Cond := [Cond.static yX5_next, Cond.code yX5_next cX5_next 2 (some .int), Cond.methodLink RX5 27 yX5_isSenderDigit, Cond.static yX5_isSenderDigit, Cond.code yX5_isSenderDigit cX5_isSenderDigit 1 (some .boolean), Cond.methodLink RX5 37 yX5_isDigit, Cond.static yX5_isDigit, Cond.code yX5_isDigit cX5_isDigit 1 (some .boolean), Cond.methodLink RX5 31 yX5_isLetter, Cond.static yX5_isLetter, Cond.code yX5_isLetter cX5_isLetter 1 (some .boolean), Cond.methodLink RX5 34 yX5_codeOf, Cond.static yX5_codeOf, Cond.code yX5_codeOf cX5_codeOf 1 (some .int), Cond.methodLink RL 61 yX9_fault, Cond.instanceMethod yX9_fault, Cond.selects RX9 yX9_fault yX9_fault, Cond.code yX9_fault cX9_fault 2 (some .int), Cond.methodLink RX9 175 yX9_faultOf, Cond.instanceMethod yX9_faultOf, Cond.selects RX9 yX9_faultOf yX9_faultOf, Cond.code yX9_faultOf cX9_faultOf 2 (some .int), Cond.fieldLink RX9 144 "MainsWordsModel" "at" "I", Cond.fieldLink RX9 159 "MainsWordsModel" "orders" "I"]
def wsL_law_r27 : List Cond := [Cond.methodLink RX9 172 yX9_part, Cond.instanceMethod yX9_part, Cond.selects RX9 yX9_part yX9_part, Cond.code yX9_part cX9_part 1 (some .boolean), Cond.methodLink RX9 147 yX9_isSign, Cond.instanceMethod yX9_isSign, Cond.selects RX9 yX9_isSign yX9_isSign, Cond.code yX9_isSign cX9_isSign 3 (some .boolean), Cond.methodLink RX9 165 yX9_words, Cond.instanceMethod yX9_words, Cond.selects RX9 yX9_words yX9_words, Cond.code yX9_words cX9_words 3 (some .boolean), Cond.methodLink RX9 151 yX9_accepts, Cond.instanceMethod yX9_accepts, Cond.selects RX9 yX9_accepts yX9_accepts, Cond.code yX9_accepts cX9_accepts 3 (some .boolean), Cond.methodLink RX9 162 yX9_word, Cond.instanceMethod yX9_word, Cond.selects RX9 yX9_word yX9_word, Cond.code yX9_word cX9_word 4 (some .boolean), Cond.methodLink RX9 155 yX9_code, Cond.instanceMethod yX9_code, Cond.selects RX9 yX9_code yX9_code, Cond.code yX9_code cX9_code 2 (some .int)]
def wsL_law_r28 : List Cond := [Cond.methodLink RX9 169 yX9_beats, Cond.instanceMethod yX9_beats, Cond.selects RX9 yX9_beats yX9_beats, Cond.code yX9_beats cX9_beats 2 (some .boolean), Cond.methodLink RL 62 yX8_perform, Cond.instanceMethod yX8_perform, Cond.selects RX8 yX8_perform yX8_perform, Cond.code yX8_perform cX8_perform 7 (some .int), Cond.methodLink RX8 143 yX5_signAt, Cond.methodLink RX8 146 yX5_beatsBehind, Cond.instanceMethod yX5_beatsBehind, Cond.selects RX5 yX5_beatsBehind yX5_beatsBehind, Cond.code yX5_beatsBehind cX5_beatsBehind 4 (some .int), Cond.methodLink RX8 149 yX5_isLetter, Cond.methodLink RX8 152 yX5_wordOf, Cond.static yX5_wordOf, Cond.code yX5_wordOf cX5_wordOf 2 (some .int), Cond.methodLink RL 65 yX9_perform, Cond.instanceMethod yX9_perform, Cond.selects RX9 yX9_perform yX9_perform, Cond.code yX9_perform cX9_perform 5 (some .int), Cond.methodLink RL 66 yX8_undo, Cond.instanceMethod yX8_undo, Cond.selects RX8 yX8_undo yX8_undo]
def wsL_law_r29 : List Cond := [Cond.code yX8_undo cX8_undo 1 (some .int), Cond.fieldLink RX8 161 "MainsWords$History" "kept" "I", Cond.methodLink RX8 155 yX0_isEmpty, Cond.instanceMethod yX0_isEmpty, Cond.selects RX0 yX0_isEmpty yX0_isEmpty, Cond.code yX0_isEmpty cX0_isEmpty 1 (some .boolean), Cond.methodLink RX8 158 yX0_takeBack, Cond.instanceMethod yX0_takeBack, Cond.selects RX0 yX0_takeBack yX0_takeBack, Cond.code yX0_takeBack cX0_takeBack 2 none, Cond.methodLink RL 69 yX9_undo, Cond.instanceMethod yX9_undo, Cond.selects RX9 yX9_undo yX9_undo, Cond.code yX9_undo cX9_undo 2 (some .int), Cond.methodLink RL 70 yX8_save, Cond.instanceMethod yX8_save, Cond.selects RX8 yX8_save yX8_save, Cond.code yX8_save cX8_save 1 (some .int), Cond.fieldLink RX8 167 "MainsWords$Net" "time" "I", Cond.methodLink RX8 164 yX3_copyFrom, Cond.methodLink RL 73 yX9_save, Cond.instanceMethod yX9_save, Cond.selects RX9 yX9_save yX9_save, Cond.code yX9_save cX9_save 2 (some .int)]
def wsL_law_r30 : List Cond := [Cond.fieldLink RX9 178 "MainsWordsModel" "isSaved" "Z", Cond.methodLink RL 74 yX8_restore, Cond.instanceMethod yX8_restore, Cond.selects RX8 yX8_restore yX8_restore, Cond.code yX8_restore cX8_restore 1 (some .int), Cond.methodLink RL 77 yX9_restore, Cond.instanceMethod yX9_restore, Cond.selects RX9 yX9_restore yX9_restore, Cond.code yX9_restore cX9_restore 2 (some .int), Cond.methodLink RL 78 yX8_senderOf, Cond.instanceMethod yX8_senderOf, Cond.selects RX8 yX8_senderOf yX8_senderOf, Cond.code yX8_senderOf cX8_senderOf 4 (some .int), Cond.fieldLink RX8 174 "MainsWords$Sender" "wire" "I", Cond.fieldLink RX8 175 "MainsWords$Sender" "strength" "I", Cond.fieldLink RX8 178 "MainsWords$Sender" "queueLength" "I", Cond.fieldLink RX8 181 "MainsWords$Sender" "speaks" "Z", Cond.fieldLink RX8 184 "MainsWords$Sender" "place" "I", Cond.fieldLink RX8 187 "MainsWords$Sender" "copy" "I", Cond.fieldLink RX8 190 "MainsWords$Sender" "pause" "I", Cond.methodLink RX8 170 yX3_senderAt, Cond.methodLink RX8 193 yX6_bitToSend, Cond.methodLink RL 81 yX9_senderOf, Cond.instanceMethod yX9_senderOf]
def wsL_law_r31 : List Cond := [Cond.selects RX9 yX9_senderOf yX9_senderOf, Cond.code yX9_senderOf cX9_senderOf 5 (some .int), Cond.methodLink RL 82 yX8_queued, Cond.instanceMethod yX8_queued, Cond.selects RX8 yX8_queued yX8_queued, Cond.code yX8_queued cX8_queued 4 (some .int), Cond.methodLink RX8 196 yX6_wordAt, Cond.instanceMethod yX6_wordAt, Cond.selects RX6 yX6_wordAt yX6_wordAt, Cond.code yX6_wordAt cX6_wordAt 2 (some .int), Cond.methodLink RL 85 yX9_queued, Cond.instanceMethod yX9_queued, Cond.selects RX9 yX9_queued yX9_queued, Cond.code yX9_queued cX9_queued 3 (some .int), Cond.methodLink RL 86 yX8_machineOf, Cond.instanceMethod yX8_machineOf, Cond.selects RX8 yX8_machineOf yX8_machineOf, Cond.code yX8_machineOf cX8_machineOf 4 (some .int), Cond.fieldLink RX8 199 "MainsWords$Machine" "wire" "I", Cond.fieldLink RX8 200 "MainsWords$Machine" "strength" "I", Cond.fieldLink RX8 201 "MainsWords$Machine" "period" "I", Cond.methodLink RL 89 yX9_machineOf, Cond.instanceMethod yX9_machineOf, Cond.selects RX9 yX9_machineOf yX9_machineOf]
def wsL_law_r32 : List Cond := [Cond.code yX9_machineOf cX9_machineOf 3 (some .int), Cond.methodLink RL 90 yX8_lampOf, Cond.instanceMethod yX8_lampOf, Cond.selects RX8 yX8_lampOf yX8_lampOf, Cond.code yX8_lampOf cX8_lampOf 4 (some .int), Cond.fieldLink RX8 208 "MainsWords$Lamp" "wire" "I", Cond.fieldLink RX8 209 "MainsWords$Lamp" "letter" "I", Cond.fieldLink RX8 212 "MainsWords$Lamp" "unit" "I", Cond.fieldLink RX8 215 "MainsWords$Lamp" "level" "I", Cond.fieldLink RX8 218 "MainsWords$Lamp" "isSelected" "Z", Cond.methodLink RX8 204 yX3_lampAt, Cond.instanceMethod yX3_lampAt, Cond.selects RX3 yX3_lampAt yX3_lampAt, Cond.code yX3_lampAt cX3_lampAt 4 (some (.object "MainsWords$Lamp")), Cond.methodLink RL 93 yX9_lampOf, Cond.instanceMethod yX9_lampOf, Cond.selects RX9 yX9_lampOf yX9_lampOf, Cond.code yX9_lampOf cX9_lampOf 3 (some .int), Cond.methodLink RL 94 yX8_receiver, Cond.instanceMethod yX8_receiver, Cond.selects RX8 yX8_receiver yX8_receiver, Cond.code yX8_receiver cX8_receiver 4 (some .int), Cond.fieldLink RX8 221 "MainsWords$Net" "receivers" "[LMainsWords$Receiver;", Cond.fieldLink RX8 225 "MainsWords$Receiver" "reads" "Z"]
def wsL_law_r33 : List Cond := [Cond.fieldLink RX8 230 "MainsWords$Receiver" "bitsRead" "I", Cond.fieldLink RX8 233 "MainsWords$Receiver" "latestBits" "I", Cond.fieldLink RX8 236 "MainsWords$Receiver" "lastWord" "I", Cond.fieldLink RX8 239 "MainsWords$Receiver" "toldAt" "I", Cond.fieldLink RX8 242 "MainsWords$Receiver" "openLetters" "I", Cond.methodLink RL 97 yX9_receiver, Cond.instanceMethod yX9_receiver, Cond.selects RX9 yX9_receiver yX9_receiver, Cond.code yX9_receiver cX9_receiver 4 (some .int), Cond.methodLink RL 98 yX8_frame, Cond.instanceMethod yX8_frame, Cond.selects RX8 yX8_frame yX8_frame, Cond.code yX8_frame cX8_frame 3 (some .int), Cond.methodLink RX8 245 yX8_isWord, Cond.methodLink RX8 248 yX8_frameBit, Cond.methodLink RL 101 yX9_frame, Cond.instanceMethod yX9_frame, Cond.selects RX9 yX9_frame yX9_frame, Cond.code yX9_frame cX9_frame 3 (some .int), Cond.methodLink RL 102 yX8_loss, Cond.instanceMethod yX8_loss, Cond.selects RX8 yX8_loss yX8_loss, Cond.code yX8_loss cX8_loss 3 (some .int), Cond.methodLink RX8 251 yX3_lossBetween]
def wsL_law_r34 : List Cond := [Cond.methodLink RL 105 yX9_loss, Cond.instanceMethod yX9_loss, Cond.selects RX9 yX9_loss yX9_loss, Cond.code yX9_loss cX9_loss 3 (some .int), Cond.methodLink RL 106 yX8_count, Cond.instanceMethod yX8_count, Cond.selects RX8 yX8_count yX8_count, Cond.code yX8_count cX8_count 2 (some .int), Cond.fieldLink RX8 254 "MainsWords$Net" "senders" "[LMainsWords$Sender;", Cond.fieldLink RX8 262 "MainsWords$Net" "machines" "[LMainsWords$Machine;", Cond.fieldLink RX8 266 "MainsWords$Net" "lamps" "[LMainsWords$Lamp;", Cond.methodLink RX8 258 yX8_presentIn, Cond.static yX8_presentIn, Cond.code yX8_presentIn cX8_presentIn 6 (some .int), Cond.methodLink RX8 270 yX3_speakingSenders, Cond.instanceMethod yX3_speakingSenders, Cond.selects RX3 yX3_speakingSenders yX3_speakingSenders, Cond.code yX3_speakingSenders cX3_speakingSenders 6 (some .int), Cond.methodLink RX8 273 yX3_queuedWords, Cond.instanceMethod yX3_queuedWords, Cond.selects RX3 yX3_queuedWords yX3_queuedWords, Cond.code yX3_queuedWords cX3_queuedWords 6 (some .int), Cond.methodLink RX8 276 yX3_litLamps, Cond.instanceMethod yX3_litLamps]
def wsL_law_r35 : List Cond := [Cond.selects RX3 yX3_litLamps yX3_litLamps, Cond.code yX3_litLamps cX3_litLamps 6 (some .int), Cond.fieldLink RX3 96 "MainsWords$Lamp" "isPresent" "Z", Cond.fieldLink RX3 97 "MainsWords$Lamp" "level" "I", Cond.methodLink RL 109 yX9_count, Cond.instanceMethod yX9_count, Cond.selects RX9 yX9_count yX9_count, Cond.code yX9_count cX9_count 2 (some .int), Cond.methodLink RX9 182 yX9_ofSenders, Cond.instanceMethod yX9_ofSenders, Cond.selects RX9 yX9_ofSenders yX9_ofSenders, Cond.code yX9_ofSenders cX9_ofSenders 4 (some .int), Cond.methodLink RX9 185 yX9_ofLamps, Cond.instanceMethod yX9_ofLamps, Cond.selects RX9 yX9_ofLamps yX9_ofLamps, Cond.code yX9_ofLamps cX9_ofLamps 4 (some .int), Cond.methodLink RL 110 yX8_total, Cond.instanceMethod yX8_total, Cond.selects RX8 yX8_total yX8_total, Cond.code yX8_total cX8_total 2 (some .int), Cond.fieldLink RX8 279 "MainsWords$Net" "totals" "[I", Cond.methodLink RL 113 yX9_total, Cond.instanceMethod yX9_total, Cond.selects RX9 yX9_total yX9_total]
def wsL_law_r36 : List Cond := [Cond.code yX9_total cX9_total 2 (some .int), Cond.methodLink RL 114 yX8_silentIn, Cond.instanceMethod yX8_silentIn, Cond.selects RX8 yX8_silentIn yX8_silentIn, Cond.code yX8_silentIn cX8_silentIn 2 (some .int), Cond.methodLink RX8 282 yX3_beat, Cond.methodLink RL 117 yX9_silentIn, Cond.instanceMethod yX9_silentIn, Cond.selects RX9 yX9_silentIn yX9_silentIn, Cond.code yX9_silentIn cX9_silentIn 3 (some .int), Cond.methodLink RX9 188 yX9_keepTrial, Cond.instanceMethod yX9_keepTrial, Cond.selects RX9 yX9_keepTrial yX9_keepTrial, Cond.code yX9_keepTrial cX9_keepTrial 2 none, Cond.methodLink RX9 191 yX9_putBack, Cond.instanceMethod yX9_putBack, Cond.selects RX9 yX9_putBack yX9_putBack, Cond.code yX9_putBack cX9_putBack 2 none, Cond.methodLink RL 118 yX8_levelIn, Cond.instanceMethod yX8_levelIn, Cond.selects RX8 yX8_levelIn yX8_levelIn, Cond.code yX8_levelIn cX8_levelIn 4 (some .int), Cond.methodLink RL 121 yX9_levelIn, Cond.instanceMethod yX9_levelIn]
def wsL_law_r37 : List Cond := [Cond.selects RX9 yX9_levelIn yX9_levelIn, Cond.code yX9_levelIn cX9_levelIn 4 (some .int), Cond.methodLink RL 122 yX8_freshness, Cond.instanceMethod yX8_freshness, Cond.selects RX8 yX8_freshness yX8_freshness, Cond.code yX8_freshness cX8_freshness 2 (some .float), Cond.methodLink RL 126 yX9_freshness, Cond.instanceMethod yX9_freshness, Cond.selects RX9 yX9_freshness yX9_freshness, Cond.code yX9_freshness cX9_freshness 2 (some .float)]
def wsL_law : List Cond := (wsL_law_r1 ++ (wsL_law_r2 ++ (wsL_law_r3 ++ (wsL_law_r4 ++ (wsL_law_r5 ++ (wsL_law_r6 ++ (wsL_law_r7 ++ (wsL_law_r8 ++ (wsL_law_r9 ++ (wsL_law_r10 ++ (wsL_law_r11 ++ (wsL_law_r12 ++ (wsL_law_r13 ++ (wsL_law_r14 ++ (wsL_law_r15 ++ (wsL_law_r16 ++ (wsL_law_r17 ++ (wsL_law_r18 ++ (wsL_law_r19 ++ (wsL_law_r20 ++ (wsL_law_r21 ++ (wsL_law_r22 ++ (wsL_law_r23 ++ (wsL_law_r24 ++ (wsL_law_r25 ++ (wsL_law_r26 ++ (wsL_law_r27 ++ (wsL_law_r28 ++ (wsL_law_r29 ++ (wsL_law_r30 ++ (wsL_law_r31 ++ (wsL_law_r32 ++ (wsL_law_r33 ++ (wsL_law_r34 ++ (wsL_law_r35 ++ (wsL_law_r36 ++ wsL_law_r37)))))))))))))))))))))))))))))))))))) ++ wsX80 ++ wsX90 ++ wsX30 ++ wsX00 ++ wsX50 ++ wsX60 ++ wsX20 ++ wsX10 ++ wsX40 ++ ([] : List Cond)
abbrev vwCl : List vw_C := [(RX0, TX0, 2), (RX1, TX1, 7), (RX2, TX2, 6), (RX3, TX3, 8), (RX4, TX4, 7), (RX5, TX5, 2), (RX6, TX6, 10), (RX8, TX8, 6), (RX9, TX9, 15)]
end
section
/-! THE V LAYER: the heap as a map, a method as a function on it (see NOTES.md). A cell of the map: an object (place in vwCl, fields), an array (place in tysL, length, contents). -/
abbrev CE : Type := (Nat × List Value) ⊕ (Nat × Nat × ((Nat → Int32) ⊕ (Nat → Option Nat)))
abbrev HP : Type := Nat → Option CE
/-- the map, and the heap's size -/
abbrev SG : Type := HP × Nat
abbrev DG : Type := va_G × (Nat → ClassId)
abbrev tysL : List FieldType := [.char, .int, .boolean, .object "MainsWords$Lamp", .object "MainsWords$Machine", .object "MainsWords$Net", .object "MainsWords$Receiver", .object "MainsWords$Sender"]
abbrev tysD (D : DG) : List (ClassId × FieldType) := [(D.2 0, .char), (D.2 1, .int), (D.2 2, .boolean), (D.2 3, .object "MainsWords$Lamp"), (D.2 4, .object "MainsWords$Machine"), (D.2 5, .object "MainsWords$Net"), (D.2 6, .object "MainsWords$Receiver"), (D.2 7, .object "MainsWords$Sender")]
def toE (D : DG) : CE → va_E
  | .inl o => .inr o
  | .inr (k, n, .inl f) => .inl (D.2 k, n, .inl f)
  | .inr (k, n, .inr g) => .inl (D.2 k, n, .inr (.inr (.inr (.inr g))))
def RP (D : DG) (z0 : Nat) (σ : SG) (H : Heap) : Prop := H.size = σ.2 ∧ ∀ (a : Nat) (e : CE), σ.1 a = some e → z0 ≤ a ∧ va_at D.1 vwCl (a, toE D e) H
def hup (hp : HP) (a : Nat) (e : CE) : HP := fun b => if b = a then some e else hp b
theorem RP.set {D : DG} {z0 : Nat} {σ : SG} {H H1 : Heap} {a : Nat} {e0 e : CE} (h : RP D z0 σ H) (h0 : σ.1 a = some e0) (he : va_at D.1 vwCl (a, toE D e) H1) (z : H1.size = H.size) (oq : ∀ q : Nat, q ≠ a → H1[q]? = H[q]?) : RP D z0 (hup σ.1 a e, σ.2) H1 := by
  refine ⟨z.trans h.1, fun b x hb => ?_⟩
  simp only [hup] at hb
  by_cases hba : b = a
  · rw [if_pos hba] at hb
    cases hb
    subst hba
    exact ⟨(h.2 b e0 h0).1, he⟩
  · rw [if_neg hba] at hb
    exact ⟨(h.2 b x hb).1, (h.2 b x hb).2.kept (oq b hba)⟩
theorem RP.new {D : DG} {z0 : Nat} {σ : SG} {H H1 : Heap} {e : CE} (h : RP D z0 σ H) (hz : z0 ≤ σ.2) (he : va_at D.1 vwCl (σ.2, toE D e) H1) (z : H1.size = σ.2 + 1) (oq : ∀ q : Nat, q < σ.2 → H1[q]? = H[q]?) : RP D z0 (hup σ.1 σ.2 e, σ.2 + 1) H1 := by
  refine ⟨z, fun b x hb => ?_⟩
  simp only [hup] at hb
  by_cases hba : b = σ.2
  · rw [if_pos hba] at hb
    cases hb
    subst hba
    exact ⟨hz, he⟩
  · rw [if_neg hba] at hb
    have h2 := h.2 b x hb
    exact ⟨h2.1, h2.2.kept (oq b (by rw [← h.1]; exact h2.2.lt))⟩
/-! what a run knows of the tables -/
abbrev nestL : List (String × Nat × MethodName × String) := [("MainsWords$Net", 55, ⟨"MainsWords$Receiver", "<init>", "()V"⟩, "MainsWords"), ("MainsWords", 35, ⟨"MainsWords$Script", "<init>", "()V"⟩, "MainsWords"), ("MainsWords$Net", 73, ⟨"MainsWords", "firstFree", "([LMainsWords$Thing;)LMainsWords$Thing;"⟩, "MainsWords"), ("MainsWords$Sender", 45, ⟨"MainsWords", "copyRow", "([I[I)V"⟩, "MainsWords"), ("MainsWords$Net", 69, ⟨"MainsWords", "copyRow", "([I[I)V"⟩, "MainsWords"), ("MainsWords$Net", 77, ⟨"MainsWords", "presentAt", "([LMainsWords$Thing;I)LMainsWords$Thing;"⟩, "MainsWords"), ("MainsWords$Net", 104, ⟨"MainsWords", "isWord", "(I)Z"⟩, "MainsWords"), ("MainsWords$Sender", 49, ⟨"MainsWords", "frameBit", "(II)I"⟩, "MainsWords"), ("MainsWords$Net", 85, ⟨"MainsWords", "asNumber", "(Z)I"⟩, "MainsWords")]
def nestC (q : String × Nat × MethodName × String) : Cond := .methodLinkNest q.1 q.2.1 q.2.2.1 q.2.2.2
abbrev aoL : List String := ["MainsWords$Lamp", "MainsWords$Machine", "MainsWords$Net", "MainsWords$Receiver", "MainsWords$Sender"]
/-- the tables: classes, array classes, nest mates' private members -/
def EN (D : DG) (U : State) : Prop := va_K D.1 vwCl (tysD D) U ∧ (∀ q ∈ nestL, va_Nw (nestC q) U) ∧ ∀ C ∈ aoL, va_AO C U
/-- the two static rows of the class, at the heap H -/
def lstV : Nat → Value := fun k => match k with | 0 => .int 0 | 1 => .int 0 | 2 => .int 1 | _ => .int 1
def mstV : Nat → Value := fun k => match k with | 0 => .int 9 | 1 => .int 9 | 2 => .int 9 | _ => .int 3
def SF (z0 : Nat) (U : State) (H : Heap) : Prop := ∃ t1 t2 : Nat, va_Z "MainsWords" "LEAST_SETTING" "[I" (.ref t1) (fun q => z0 ≤ q) U H ∧ va_Z "MainsWords" "MOST_SETTING" "[I" (.ref t2) (fun q => z0 ≤ q) U H ∧ va_T .int t1 4 lstV (fun q => z0 ≤ q) U H ∧ va_T .int t2 4 mstV (fun q => z0 ≤ q) U H
theorem EN.same {D : DG} {u U : State} (h : u.vm = U.vm) (hE : EN D u) : EN D U :=
  ⟨va_K.moved (by rw [h]; exact Vm.Alike.refl U.vm) hE.1, fun q hq => va_Nw.same (w := nestC q) rfl h (hE.2.1 q hq), fun C hC => va_AO.moved (by rw [h]; exact Vm.Alike.refl U.vm) (hE.2.2 C hC)⟩
theorem EN.warm {D : DG} {s U : State} (hW : s.WarmedH U.vm) (hE : EN D s) : EN D U :=
  ⟨va_K.moved hW.alike hE.1, fun q hq => va_Nw.warmM hW (hE.2.1 q hq), fun C hC => va_AO.moved hW.alike (hE.2.2 C hC)⟩
theorem SF.moved {z0 : Nat} {u U : State} {H : Heap} (hvm : u.vm.Alike U.vm) (h : SF z0 u H) : SF z0 U H := by
  obtain ⟨t1, t2, h1, h2, h3, h4⟩ := h
  exact ⟨t1, t2, h1.moved hvm, h2.moved hvm, h3.moved hvm, h4.moved hvm⟩
theorem SF.kept {z0 : Nat} {U : State} {H H1 : Heap} (h : SF z0 U H) (hq : ∀ a : Nat, a < H.size → ¬ z0 ≤ a → H1[a]? = H[a]?) : SF z0 U H1 := by
  obtain ⟨t1, t2, h1, h2, h3, h4⟩ := h
  exact ⟨t1, t2, h1.kept hq, h2.kept hq, h3.kept hq, h4.kept hq⟩
/-- a method's start and end -/
def PC (D : DG) (z0 : Nat) (av : List Value) (σ : SG) : Array Value → State → Prop := fun v U => v = av.toArray ∧ z0 ≤ σ.2 ∧ RP D z0 σ U.heap ∧ EN D U ∧ SF z0 U U.heap
def QC (D : DG) (z0 : Nat) (v : Option Value) (σ : SG) : Array Value → State → Outcome → State → Prop := fun _ st oc t => oc = .returned v ∧ z0 ≤ σ.2 ∧ RP D z0 σ t.heap ∧ va_F (fun q => z0 ≤ q) st t
theorem PC.blind {D : DG} {z0 : Nat} {av : List Value} {σ : SG} : FrameBlind (PC D z0 av σ) := fun a U g mk h =>
  ⟨h.1, h.2.1, h.2.2.1, EN.same (u := U) (U := U.calling g mk a) rfl h.2.2.2.1, SF.moved (u := U) (U := U.calling g mk a) (Vm.Alike.refl U.vm) h.2.2.2.2⟩
/-! locals as a list -/
def LVl (l : List (Option Value)) : List (Nat × Value) := (List.range l.length).filterMap (fun i => match l[i]? with | some (some v) => some (i, v) | _ => none)
theorem LVl_in {l : List (Option Value)} {i : Nat} {v : Value} : (i, v) ∈ LVl l ↔ l[i]? = some (some v) := by
  unfold LVl
  rw [List.mem_filterMap]
  constructor
  · rintro ⟨j, -, h⟩
    split at h
    next w hw => cases h; exact hw
    next => cases h
  · intro h
    refine ⟨i, List.mem_range.mpr (List.getElem?_eq_some_iff.mp h).1, ?_⟩
    rw [h]
def LV (arr : Array Slot) (nL : Nat) (l : List (Option Value)) : Prop := lv_has arr nL (LVl l) ∧ l.length = nL ∧ ∀ (i : Nat) (v : Value), l[i]? = some (some v) → v.category = 1
theorem LV.at {arr : Array Slot} {nL : Nat} {l : List (Option Value)} (h : LV arr nL l) {i : Nat} {v : Value} (hi : l[i]? = some (some v)) : arr[i]? = some (.val v) := h.1.2.2 (i, v) (LVl_in.mpr hi)
theorem LV.set {arr arr' : Array Slot} {nL : Nat} {l l' : List (Option Value)} {i : Nat} {v : Value} {lv' : List (Nat × Value)} (h : LV arr nL l) (hv : v.category = 1) (hs : l.set i (some v) = l') (hi : i < nL) (hl : (i, v) :: (LVl l).filter (fun q => !(q.1 == i) && !(q.1 + 1 == i && q.2.category == 2)) = lv') (h' : lv_has arr' nL lv') : LV arr' nL l' := by
  subst hs
  have key : ∀ (j : Nat) (w : Value), (l.set i (some v))[j]? = some (some w) → (j = i ∧ w = v) ∨ (j ≠ i ∧ l[j]? = some (some w)) := by
    intro j w hj
    by_cases hji : j = i
    · subst hji
      rw [List.getElem?_set_self (by rw [h.2.1]; exact hi)] at hj
      cases hj
      exact Or.inl ⟨rfl, rfl⟩
    · rw [List.getElem?_set_ne (Ne.symm hji)] at hj
      exact Or.inr ⟨hji, hj⟩
  refine ⟨⟨h'.1, h'.2.1, fun q hq => ?_⟩, by rw [List.length_set]; exact h.2.1, fun j w hj => ?_⟩
  · obtain ⟨j, w⟩ := q
    refine h'.2.2 (j, w) ?_
    rw [← hl]
    rcases key j w (LVl_in.mp hq) with ⟨rfl, rfl⟩ | ⟨h1, h2⟩
    · exact List.mem_cons_self
    · refine List.mem_cons_of_mem _ (List.mem_filter.mpr ⟨LVl_in.mpr h2, ?_⟩)
      have hc := h.2.2 j w h2
      simp [h1, hc]
  · rcases key j w hj with ⟨-, rfl⟩ | ⟨-, h2⟩
    · exact hv
    · exact h.2.2 j w h2
theorem va_rf_cat (r : Option Nat) : (va_rf r).category = 1 := by cases r <;> rfl
/-! THE JUDGEMENT. V .. pc l st σ K: whenever K = some (r, σ'), the method, at pc with the locals l and the stack st over the map σ, returns toV r over the map σ' -/
def VC (D : DG) (z0 : Nat) (own : String) (cc : ByteArray) (nL : Nat) (Ts : List Cond) (ret : Option FieldType) (ct : Bool) (p : Program) (s : State) (m : MethodId) (args : Array Value) (meth : Method) (c : Code) : Prop :=
  p.tables.exec = Jvm.exec ∧ c.code = cc ∧ c.maxLocals = nL ∧ s.vm.findClass own = some m.cls ∧ (∀ w ∈ Ts, w.before args s = true) ∧ meth.sig.returnType = ret ∧ meth.locks = false ∧ (ct = true → meth.name = "<init>") ∧ EN D s ∧ SF z0 s s.heap ∧ z0 ≤ s.heap.size
def V {α : Type} (D : DG) (z0 : Nat) (l : Launch) (own : String) (cc : ByteArray) (nL : Nat) (Ts : List Cond) (ret : Option FieldType) (rm : Room) (ct : Bool) (toV : α → Option Value) (pc : Nat) (ls : List (Option Value)) (st : List Value) (σ : SG) (cells slots : Nat) (K : Option (α × SG)) : Prop :=
  ∀ (p : Program) (e : Env) (s : State) (m : MethodId) (args : Array Value) (below : List Frame) (meth : Method) (c : Code) (H : Heap) (locs : List Loc) (arr : Array Slot) (r : α) (σ' : SG),
    VC D z0 own cc nL Ts ret ct p s m args meth c → z0 ≤ σ.2 → RP D z0 σ H → va_S (fun q => z0 ≤ q) s.heap H locs → LV arr nL ls → K = some (r, σ') →
    W p l e rm s m args below meth c H locs cells slots (MQ below (QC D z0 (toV r) σ') args s rm.cells rm.slots (fun q => z0 ≤ q)) (F0 m pc arr st)
/-- a method is what the function K says -/
def MT {α : Type} (D : DG) (z0 : Nat) (l : Launch) (y : MethodName) (ws : List Cond) (rm : Room) (toV : α → Option Value) (av : List Value) (σ : SG) (K : Option (α × SG)) : Prop :=
  ∀ (r : α) (σ' : SG), K = some (r, σ') → Met l y ws rm (PC D z0 av σ) (QC D z0 (toV r) σ') rm.cells rm.slots (fun q => z0 ≤ q)
theorem LV.entry {av : List Value} {n : Nat} (hn : av.length ≤ n) (hc : ∀ v ∈ av, v.category = 1) : LV ((lg_sl av ++ List.replicate (n - (lg_sl av).length) Slot.unset).toArray) n (av.map some ++ List.replicate (n - av.length) none) := by
  have e1 : ∀ av : List Value, (∀ v ∈ av, v.category = 1) → lg_sl av = av.map Slot.val := by
    intro av
    induction av with
    | nil => intro _; rfl
    | cons v vs ih =>
      intro h
      have h1 := h v List.mem_cons_self
      have h2 := ih (fun w hw => h w (List.mem_cons_of_mem _ hw))
      simp only [lg_sl, List.flatMap_cons] at h2 ⊢
      rw [h2, if_neg (by rw [h1]; decide)]
      rfl
  have hlen : (lg_sl av).length = av.length := by rw [e1 av hc, List.length_map]
  have h := lv_entry av (n := n) (by rw [hlen]; exact hn)
  refine ⟨⟨h.1, h.2.1, fun q hq => ?_⟩, by simp; omega, fun i v hi => ?_⟩
  · obtain ⟨i, v⟩ := q
    have hi := LVl_in.mp hq
    rw [e1 av hc]
    by_cases hl : i < av.length
    · rw [List.getElem?_append_left (by simpa using hl)] at hi
      simp only [List.getElem?_map, Option.map_eq_some_iff] at hi
      obtain ⟨w, hw, hw2⟩ := hi
      cases hw2
      show (List.map Slot.val av ++ _).toArray[i]? = _
      rw [List.getElem?_toArray, List.getElem?_append_left (by simpa using hl)]
      simp [hw]
    · rw [List.getElem?_append_right (by simpa using hl)] at hi
      simp [List.getElem?_replicate] at hi
  · by_cases hl : i < av.length
    · rw [List.getElem?_append_left (by simpa using hl)] at hi
      simp only [List.getElem?_map, Option.map_eq_some_iff] at hi
      obtain ⟨w, hw, hw2⟩ := hi
      cases hw2
      exact hc v (List.mem_of_getElem? hw)
    · rw [List.getElem?_append_right (by simpa using hl)] at hi
      simp [List.getElem?_replicate] at hi
theorem MT.of {α : Type} {D : DG} {z0 : Nat} {l : Launch} {y : MethodName} {own : String} {cc : ByteArray} {nL : Nat} {ws ws' : List Cond} {ret : Option FieldType} {rm : Room} {ct : Bool} {toV : α → Option Value} {av : List Value} {σ : SG} {K : Option (α × SG)}
    (hy : plainName y.cls = true) (hown : y.cls = own) (hw : ws = Cond.code y cc nL ret :: ws') (hct : ct = true → y.name = "<init>") (hn : av.length ≤ nL) (hc : ∀ v ∈ av, v.category = 1)
    (body : V D z0 l own cc nL ws ret rm ct toV 0 (av.map some ++ List.replicate (nL - av.length) none) [] σ 0 0 K) : MT D z0 l y ws rm toV av σ K := by
  intro r σ' hK
  refine Met.ofW (cc := cc) (maxL := nL) (ret := ret) hy hw ?_
  intro p e s m args below meth c s₁ B hml hv
  obtain ⟨rfl, hz, hR, hE, hS⟩ := hv
  rw [lg_entry_eq]
  refine body p e s m _ below meth c s.heap [] _ r σ' ⟨B.exec, B.bytes, hml, ?_, atoms_spec B.pre, B.returns, B.notSynchronized, fun h => ?_, hE, hS, by rw [hR.1]; exact hz⟩ hz hR va_S.rf (LV.entry hn hc) hK
  · rw [← hown]; exact findClass_of_methodNamed B.named
  · rw [(name_of_methodNamed B.named B.method).1]; exact hct h
section VROWS
variable {α : Type} {D : DG} {z0 : Nat} {l : Launch} {own : String} {cc : ByteArray} {nL : Nat} {Ts : List Cond} {ret : Option FieldType} {rm : Room} {ct : Bool} {toV : α → Option Value} {pc : Nat} {ls : List (Option Value)} {st : List Value} {σ : SG} {cells slots : Nat} {K : Option (α × SG)}
theorem V_none : V D z0 l own cc nL Ts ret rm ct toV pc ls st σ cells slots (none : Option (α × SG)) := by
  intro p e s m args below meth c H locs arr r σ' _ _ _ _ _ h
  cases h
theorem V.step {pc' : Nat} {st' : List Value} (h : ∀ {p : Program} {e : Env} {s : State} {m : MethodId} {args : Array Value} {below : List Frame} {meth : Method} {c : Code} {H : Heap} {locs : List Loc} {arr : Array Slot} {Q : State → Prop}, p.tables.exec = Jvm.exec → c.code = cc → LV arr nL ls → W p l e rm s m args below meth c H locs cells slots Q (F0 m pc' arr st') → W p l e rm s m args below meth c H locs cells slots Q (F0 m pc arr st))
    (k : V D z0 l own cc nL Ts ret rm ct toV pc' ls st' σ cells slots K) : V D z0 l own cc nL Ts ret rm ct toV pc ls st σ cells slots K := by
  intro p e s m args below meth c H locs arr r σ' C hz hR hS hL hK
  exact h C.1 C.2.1 hL (k p e s m args below meth c H locs arr r σ' C hz hR hS hL hK)
theorem V_iconst {n : Int} {v : Int32} (hd : decode cc pc = .ok (.iconst n, 1)) (hv : Int32.ofInt n = v) (k : V D z0 l own cc nL Ts ret rm ct toV (pc + 1) ls (.int v :: st) σ cells slots K) : V D z0 l own cc nL Ts ret rm ct toV pc ls st σ cells slots K :=
  V.step (fun hx hb _ w => lv_iconst hx hb hd hv w) k
theorem V_bipush {n : Int} {v : Int32} (hd : decode cc pc = .ok (.bipush n, 2)) (hv : (Int8.ofInt n).toInt32 = v) (k : V D z0 l own cc nL Ts ret rm ct toV (pc + 2) ls (.int v :: st) σ cells slots K) : V D z0 l own cc nL Ts ret rm ct toV pc ls st σ cells slots K :=
  V.step (fun hx hb _ w => lv_bipush hx hb hd hv w) k
theorem V_sipush {n : Int} {v : Int32} (hd : decode cc pc = .ok (.sipush n, 3)) (hv : (Int16.ofInt n).toInt32 = v) (k : V D z0 l own cc nL Ts ret rm ct toV (pc + 3) ls (.int v :: st) σ cells slots K) : V D z0 l own cc nL Ts ret rm ct toV pc ls st σ cells slots K :=
  V.step (fun hx hb _ w => lv_sipush hx hb hd hv w) k
theorem V_iload_n {i : Fin 4} {x : Int32} (hd : decode cc pc = .ok (.iload_n i, 1)) (hl : ls[(i : Nat)]? = some (some (.int x))) (k : V D z0 l own cc nL Ts ret rm ct toV (pc + 1) ls (.int x :: st) σ cells slots K) : V D z0 l own cc nL Ts ret rm ct toV pc ls st σ cells slots K :=
  V.step (fun hx hb hL w => lv_iload_n hx hb hd rfl (hL.at hl) w) k
theorem V_iload {i : Nat} {x : Int32} (hd : decode cc pc = .ok (.iload i, 2)) (hl : ls[i]? = some (some (.int x))) (k : V D z0 l own cc nL Ts ret rm ct toV (pc + 2) ls (.int x :: st) σ cells slots K) : V D z0 l own cc nL Ts ret rm ct toV pc ls st σ cells slots K :=
  V.step (fun hx hb hL w => lv_iload hx hb hd (hL.at hl) w) k
theorem V_aload_n {i : Fin 4} {x : Option Nat} (hd : decode cc pc = .ok (.aload_n i, 1)) (hl : ls[(i : Nat)]? = some (some (va_rf x))) (k : V D z0 l own cc nL Ts ret rm ct toV (pc + 1) ls (va_rf x :: st) σ cells slots K) : V D z0 l own cc nL Ts ret rm ct toV pc ls st σ cells slots K := by
  cases x with
  | none => exact V.step (fun hx hb hL w => lv_aload_nN hx hb hd rfl (hL.at hl) w) k
  | some a => exact V.step (fun hx hb hL w => lv_aload_n hx hb hd rfl (hL.at hl) w) k
theorem V_aload {i : Nat} {x : Option Nat} (hd : decode cc pc = .ok (.aload i, 2)) (hl : ls[i]? = some (some (va_rf x))) (k : V D z0 l own cc nL Ts ret rm ct toV (pc + 2) ls (va_rf x :: st) σ cells slots K) : V D z0 l own cc nL Ts ret rm ct toV pc ls st σ cells slots K := by
  cases x with
  | none => exact V.step (fun hx hb hL w => lv_aloadN hx hb hd (hL.at hl) w) k
  | some a => exact V.step (fun hx hb hL w => lv_aload hx hb hd (hL.at hl) w) k
theorem V.store {pc' i : Nat} {v : Value} {ls' : List (Option Value)} {st0 : List Value} (hv : v.category = 1) (hs : ls.set i (some v) = ls') (hi : i < nL)
    (h : ∀ {p : Program} {e : Env} {s : State} {m : MethodId} {args : Array Value} {below : List Frame} {meth : Method} {c : Code} {H : Heap} {locs : List Loc} {arr : Array Slot} {Q : State → Prop} (lv lv' : List (Nat × Value)), p.tables.exec = Jvm.exec → c.code = cc → lv_has arr nL lv → (i, v) :: lv.filter (fun q => !(q.1 == i) && !(q.1 + 1 == i && q.2.category == 2)) = lv' → (∀ arr' : Array Slot, lv_has arr' nL lv' → W p l e rm s m args below meth c H locs cells slots Q (F0 m pc' arr' st)) → W p l e rm s m args below meth c H locs cells slots Q (F0 m pc arr st0))
    (k : V D z0 l own cc nL Ts ret rm ct toV pc' ls' st σ cells slots K) : V D z0 l own cc nL Ts ret rm ct toV pc ls st0 σ cells slots K := by
  intro p e s m args below meth c H locs arr r σ' C hz hR hS hL hK
  exact h (LVl ls) _ C.1 C.2.1 hL.1 rfl (fun arr' h' => k p e s m args below meth c H locs arr' r σ' C hz hR hS (hL.set hv hs hi rfl h') hK)
theorem V_istore_n {i : Fin 4} {x : Int32} {ls' : List (Option Value)} (hd : decode cc pc = .ok (.istore_n i, 1)) (hi : (i : Nat) < nL) (hs : ls.set (i : Nat) (some (.int x)) = ls') (k : V D z0 l own cc nL Ts ret rm ct toV (pc + 1) ls' st σ cells slots K) : V D z0 l own cc nL Ts ret rm ct toV pc ls (.int x :: st) σ cells slots K :=
  V.store rfl hs hi (fun lv lv' hx hb h hl w => lv_istore_n hx hb hd rfl h hi hl w) k
theorem V_istore {i : Nat} {x : Int32} {ls' : List (Option Value)} (hd : decode cc pc = .ok (.istore i, 2)) (hi : i < nL) (hs : ls.set i (some (.int x)) = ls') (k : V D z0 l own cc nL Ts ret rm ct toV (pc + 2) ls' st σ cells slots K) : V D z0 l own cc nL Ts ret rm ct toV pc ls (.int x :: st) σ cells slots K :=
  V.store rfl hs hi (fun lv lv' hx hb h hl w => lv_istore hx hb hd h hi hl w) k
theorem V_astore_n {i : Fin 4} {x : Option Nat} {ls' : List (Option Value)} (hd : decode cc pc = .ok (.astore_n i, 1)) (hi : (i : Nat) < nL) (hs : ls.set (i : Nat) (some (va_rf x)) = ls') (k : V D z0 l own cc nL Ts ret rm ct toV (pc + 1) ls' st σ cells slots K) : V D z0 l own cc nL Ts ret rm ct toV pc ls (va_rf x :: st) σ cells slots K := by
  cases x with
  | none => exact V.store rfl hs hi (fun lv lv' hx hb h hl w => lv_astore_nN hx hb hd rfl h hi hl w) k
  | some a => exact V.store rfl hs hi (fun lv lv' hx hb h hl w => lv_astore_n hx hb hd rfl h hi hl w) k
theorem V_astore {i : Nat} {x : Option Nat} {ls' : List (Option Value)} (hd : decode cc pc = .ok (.astore i, 2)) (hi : i < nL) (hs : ls.set i (some (va_rf x)) = ls') (k : V D z0 l own cc nL Ts ret rm ct toV (pc + 2) ls' st σ cells slots K) : V D z0 l own cc nL Ts ret rm ct toV pc ls (va_rf x :: st) σ cells slots K := by
  cases x with
  | none => exact V.store rfl hs hi (fun lv lv' hx hb h hl w => lv_astoreN hx hb hd h hi hl w) k
  | some a => exact V.store rfl hs hi (fun lv lv' hx hb h hl w => lv_astore hx hb hd h hi hl w) k
theorem V_iinc {i : Nat} {n : Int} {x v : Int32} {ls' : List (Option Value)} (hd : decode cc pc = .ok (.iinc i n, 3)) (hl : ls[i]? = some (some (.int x))) (hv : x + Int32.ofInt n = v) (hi : i < nL) (hs : ls.set i (some (.int v)) = ls') (k : V D z0 l own cc nL Ts ret rm ct toV (pc + 3) ls' st σ cells slots K) : V D z0 l own cc nL Ts ret rm ct toV pc ls st σ cells slots K := by
  obtain ⟨j, hj⟩ := List.getElem?_of_mem (LVl_in.mpr hl)
  intro p e s m args below meth c H locs arr r σ' C hz hR hS hL hK
  exact lv_iinc C.1 C.2.1 hd hL.1 hj hv hi rfl (fun arr' h' => k p e s m args below meth c H locs arr' r σ' C hz hR hS (hL.set rfl hs hi rfl h') hK)
theorem V_iadd {x y : Int32} (hd : decode cc pc = .ok (.iadd, 1)) (k : V D z0 l own cc nL Ts ret rm ct toV (pc + 1) ls (.int (x + y) :: st) σ cells slots K) : V D z0 l own cc nL Ts ret rm ct toV pc ls (.int y :: .int x :: st) σ cells slots K :=
  V.step (fun hx hb _ w => lv_iadd hx hb hd w) k
theorem V_isub {x y : Int32} (hd : decode cc pc = .ok (.isub, 1)) (k : V D z0 l own cc nL Ts ret rm ct toV (pc + 1) ls (.int (x - y) :: st) σ cells slots K) : V D z0 l own cc nL Ts ret rm ct toV pc ls (.int y :: .int x :: st) σ cells slots K :=
  V.step (fun hx hb _ w => lv_isub hx hb hd w) k
theorem V_imul {x y : Int32} (hd : decode cc pc = .ok (.imul, 1)) (k : V D z0 l own cc nL Ts ret rm ct toV (pc + 1) ls (.int (x * y) :: st) σ cells slots K) : V D z0 l own cc nL Ts ret rm ct toV pc ls (.int y :: .int x :: st) σ cells slots K :=
  V.step (fun hx hb _ w => lv_imul hx hb hd w) k
theorem V_iand {x y : Int32} (hd : decode cc pc = .ok (.iand, 1)) (k : V D z0 l own cc nL Ts ret rm ct toV (pc + 1) ls (.int (x &&& y) :: st) σ cells slots K) : V D z0 l own cc nL Ts ret rm ct toV pc ls (.int y :: .int x :: st) σ cells slots K :=
  V.step (fun hx hb _ w => lv_iand hx hb hd w) k
theorem V_ior {x y : Int32} (hd : decode cc pc = .ok (.ior, 1)) (k : V D z0 l own cc nL Ts ret rm ct toV (pc + 1) ls (.int (x ||| y) :: st) σ cells slots K) : V D z0 l own cc nL Ts ret rm ct toV pc ls (.int y :: .int x :: st) σ cells slots K :=
  V.step (fun hx hb _ w => lv_ior hx hb hd w) k
theorem V_ixor {x y : Int32} (hd : decode cc pc = .ok (.ixor, 1)) (k : V D z0 l own cc nL Ts ret rm ct toV (pc + 1) ls (.int (x ^^^ y) :: st) σ cells slots K) : V D z0 l own cc nL Ts ret rm ct toV pc ls (.int y :: .int x :: st) σ cells slots K :=
  V.step (fun hx hb _ w => lv_ixor hx hb hd w) k
theorem V_ishl {x y : Int32} (hd : decode cc pc = .ok (.ishl, 1)) (k : V D z0 l own cc nL Ts ret rm ct toV (pc + 1) ls (.int (x <<< (y &&& 31)) :: st) σ cells slots K) : V D z0 l own cc nL Ts ret rm ct toV pc ls (.int y :: .int x :: st) σ cells slots K :=
  V.step (fun hx hb _ w => lv_ishl hx hb hd w) k
theorem V_ishr {x y : Int32} (hd : decode cc pc = .ok (.ishr, 1)) (k : V D z0 l own cc nL Ts ret rm ct toV (pc + 1) ls (.int (x >>> (y &&& 31)) :: st) σ cells slots K) : V D z0 l own cc nL Ts ret rm ct toV pc ls (.int y :: .int x :: st) σ cells slots K :=
  V.step (fun hx hb _ w => lv_ishr hx hb hd w) k
theorem V_i2c {x : Int32} (hd : decode cc pc = .ok (.i2c, 1)) (k : V D z0 l own cc nL Ts ret rm ct toV (pc + 1) ls (.int (x.toUInt32 % 65536).toInt32 :: st) σ cells slots K) : V D z0 l own cc nL Ts ret rm ct toV pc ls (.int x :: st) σ cells slots K :=
  V.step (fun hx hb _ w => lv_i2c hx hb hd rfl w) k
theorem V_i2f {x : Int32} (hd : decode cc pc = .ok (.i2f, 1)) (k : V D z0 l own cc nL Ts ret rm ct toV (pc + 1) ls (.float (FP.i2f x) :: st) σ cells slots K) : V D z0 l own cc nL Ts ret rm ct toV pc ls (.int x :: st) σ cells slots K :=
  V.step (fun hx hb _ w => lv_i2f hx hb hd w) k
theorem V_fconst0 (hd : decode cc pc = .ok (.fconst 0, 1)) (k : V D z0 l own cc nL Ts ret rm ct toV (pc + 1) ls (.float FP.fconst0 :: st) σ cells slots K) : V D z0 l own cc nL Ts ret rm ct toV pc ls st σ cells slots K :=
  V.step (fun hx hb _ w => lv_fconst0 hx hb hd w) k
/-- what divides: K is none where the divisor is 0 -/
theorem V_idiv {x y : Int32} (hd : decode cc pc = .ok (.idiv, 1)) (k : V D z0 l own cc nL Ts ret rm ct toV (pc + 1) ls (.int (x / y) :: st) σ cells slots K) : V D z0 l own cc nL Ts ret rm ct toV pc ls (.int y :: .int x :: st) σ cells slots (if y = 0 then none else K) := by
  split
  · exact V_none
  next h => exact V.step (fun hx hb _ w => lv_idiv hx hb hd h w) k
theorem V_irem {x y : Int32} (hd : decode cc pc = .ok (.irem, 1)) (k : V D z0 l own cc nL Ts ret rm ct toV (pc + 1) ls (.int (x - x / y * y) :: st) σ cells slots K) : V D z0 l own cc nL Ts ret rm ct toV pc ls (.int y :: .int x :: st) σ cells slots (if y = 0 then none else K) := by
  split
  · exact V_none
  next h => exact V.step (fun hx hb _ w => lv_irem hx hb hd h w) k
theorem V_dup {v : Value} (hd : decode cc pc = .ok (.dup, 1)) (hv : v.category = 1) (k : V D z0 l own cc nL Ts ret rm ct toV (pc + 1) ls (v :: v :: st) σ cells slots K) : V D z0 l own cc nL Ts ret rm ct toV pc ls (v :: st) σ cells slots K :=
  V.step (fun hx hb _ w => lv_dup hx hb hd hv w) k
theorem V_dup2 {v u : Value} (hd : decode cc pc = .ok (.dup2, 1)) (hv : v.category = 1) (hu : u.category = 1) (k : V D z0 l own cc nL Ts ret rm ct toV (pc + 1) ls (v :: u :: v :: u :: st) σ cells slots K) : V D z0 l own cc nL Ts ret rm ct toV pc ls (v :: u :: st) σ cells slots K :=
  V.step (fun hx hb _ w => lv_dup2_11 hx hb hd hv hu w) k
theorem V_pop {v : Value} (hd : decode cc pc = .ok (.pop, 1)) (hv : v.category = 1) (k : V D z0 l own cc nL Ts ret rm ct toV (pc + 1) ls st σ cells slots K) : V D z0 l own cc nL Ts ret rm ct toV pc ls (v :: st) σ cells slots K :=
  V.step (fun hx hb _ w => lv_pop hx hb hd hv w) k
theorem V_null (hd : decode cc pc = .ok (.aconst_null, 1)) (k : V D z0 l own cc nL Ts ret rm ct toV (pc + 1) ls (va_rf none :: st) σ cells slots K) : V D z0 l own cc nL Ts ret rm ct toV pc ls st σ cells slots K :=
  V.step (fun hx hb _ w => lv_null hx hb hd w) k
theorem V_goto {off : Int} {tgt : Nat} (hd : decode cc pc = .ok (.goto off, 3)) (ht : (pc : Int) + off = (tgt : Int)) (k : V D z0 l own cc nL Ts ret rm ct toV tgt ls st σ cells slots K) : V D z0 l own cc nL Ts ret rm ct toV pc ls st σ cells slots K :=
  V.step (fun hx hb _ w => lv_goto hx hb hd ht w) k
theorem V.br {P : Prop} [Decidable P] {st0 : List Value} {tgt nxt : Nat} {K1 K2 : Option (α × SG)}
    (h : ∀ {p : Program} {e : Env} {s : State} {m : MethodId} {args : Array Value} {below : List Frame} {meth : Method} {c : Code} {H : Heap} {locs : List Loc} {arr : Array Slot} {Q : State → Prop}, p.tables.exec = Jvm.exec → c.code = cc → (P → W p l e rm s m args below meth c H locs cells slots Q (F0 m tgt arr st)) → (¬ P → W p l e rm s m args below meth c H locs cells slots Q (F0 m nxt arr st)) → W p l e rm s m args below meth c H locs cells slots Q (F0 m pc arr st0))
    (k1 : P → V D z0 l own cc nL Ts ret rm ct toV tgt ls st σ cells slots K1) (k2 : ¬ P → V D z0 l own cc nL Ts ret rm ct toV nxt ls st σ cells slots K2) : V D z0 l own cc nL Ts ret rm ct toV pc ls st0 σ cells slots (if P then K1 else K2) := by
  intro p e s m args below meth c H locs arr r σ' C hz hR hS hL hK
  exact h C.1 C.2.1 (fun hP => k1 hP p e s m args below meth c H locs arr r σ' C hz hR hS hL (by rw [← hK, if_pos hP])) (fun hP => k2 hP p e s m args below meth c H locs arr r σ' C hz hR hS hL (by rw [← hK, if_neg hP]))
end VROWS
end
section
section VBR
variable {α : Type} {D : DG} {z0 : Nat} {l : Launch} {own : String} {cc : ByteArray} {nL : Nat} {Ts : List Cond} {ret : Option FieldType} {rm : Room} {ct : Bool} {toV : α → Option Value} {pc : Nat} {ls : List (Option Value)} {st : List Value} {σ : SG} {cells slots : Nat} {K K1 K2 : Option (α × SG)}
theorem V_if_eq {x : Int32} {off : Int} {tgt : Nat} (hd : decode cc pc = .ok (.ifCond .eq off, 3)) (ht : (pc : Int) + off = (tgt : Int)) (k1 : x = 0 → V D z0 l own cc nL Ts ret rm ct toV tgt ls st σ cells slots K1) (k2 : ¬ (x = 0) → V D z0 l own cc nL Ts ret rm ct toV (pc + 3) ls st σ cells slots K2) : V D z0 l own cc nL Ts ret rm ct toV pc ls (.int x :: st) σ cells slots (if x = 0 then K1 else K2) :=
  V.br (fun hx hb a b => lv_if_eq hx hb hd ht a b) k1 k2
theorem V_icmp_eq {x y : Int32} {off : Int} {tgt : Nat} (hd : decode cc pc = .ok (.if_icmp .eq off, 3)) (ht : (pc : Int) + off = (tgt : Int)) (k1 : x = y → V D z0 l own cc nL Ts ret rm ct toV tgt ls st σ cells slots K1) (k2 : ¬ (x = y) → V D z0 l own cc nL Ts ret rm ct toV (pc + 3) ls st σ cells slots K2) : V D z0 l own cc nL Ts ret rm ct toV pc ls (.int y :: .int x :: st) σ cells slots (if x = y then K1 else K2) :=
  V.br (fun hx hb a b => lv_icmp_eq hx hb hd ht a b) k1 k2
theorem V_if_ne {x : Int32} {off : Int} {tgt : Nat} (hd : decode cc pc = .ok (.ifCond .ne off, 3)) (ht : (pc : Int) + off = (tgt : Int)) (k1 : x = 0 → V D z0 l own cc nL Ts ret rm ct toV (pc + 3) ls st σ cells slots K1) (k2 : ¬ (x = 0) → V D z0 l own cc nL Ts ret rm ct toV tgt ls st σ cells slots K2) : V D z0 l own cc nL Ts ret rm ct toV pc ls (.int x :: st) σ cells slots (if x = 0 then K1 else K2) :=
  V.br (fun hx hb a b => lv_if_ne hx hb hd ht b a) k1 k2
theorem V_icmp_ne {x y : Int32} {off : Int} {tgt : Nat} (hd : decode cc pc = .ok (.if_icmp .ne off, 3)) (ht : (pc : Int) + off = (tgt : Int)) (k1 : x = y → V D z0 l own cc nL Ts ret rm ct toV (pc + 3) ls st σ cells slots K1) (k2 : ¬ (x = y) → V D z0 l own cc nL Ts ret rm ct toV tgt ls st σ cells slots K2) : V D z0 l own cc nL Ts ret rm ct toV pc ls (.int y :: .int x :: st) σ cells slots (if x = y then K1 else K2) :=
  V.br (fun hx hb a b => lv_icmp_ne hx hb hd ht b a) k1 k2
theorem V_if_lt {x : Int32} {off : Int} {tgt : Nat} (hd : decode cc pc = .ok (.ifCond .lt off, 3)) (ht : (pc : Int) + off = (tgt : Int)) (k1 : x < 0 → V D z0 l own cc nL Ts ret rm ct toV tgt ls st σ cells slots K1) (k2 : ¬ (x < 0) → V D z0 l own cc nL Ts ret rm ct toV (pc + 3) ls st σ cells slots K2) : V D z0 l own cc nL Ts ret rm ct toV pc ls (.int x :: st) σ cells slots (if x < 0 then K1 else K2) :=
  V.br (fun hx hb a b => lv_if_lt hx hb hd ht a b) k1 k2
theorem V_icmp_lt {x y : Int32} {off : Int} {tgt : Nat} (hd : decode cc pc = .ok (.if_icmp .lt off, 3)) (ht : (pc : Int) + off = (tgt : Int)) (k1 : x < y → V D z0 l own cc nL Ts ret rm ct toV tgt ls st σ cells slots K1) (k2 : ¬ (x < y) → V D z0 l own cc nL Ts ret rm ct toV (pc + 3) ls st σ cells slots K2) : V D z0 l own cc nL Ts ret rm ct toV pc ls (.int y :: .int x :: st) σ cells slots (if x < y then K1 else K2) :=
  V.br (fun hx hb a b => lv_icmp_lt hx hb hd ht a b) k1 k2
theorem V_if_ge {x : Int32} {off : Int} {tgt : Nat} (hd : decode cc pc = .ok (.ifCond .ge off, 3)) (ht : (pc : Int) + off = (tgt : Int)) (k1 : 0 ≤ x → V D z0 l own cc nL Ts ret rm ct toV tgt ls st σ cells slots K1) (k2 : ¬ (0 ≤ x) → V D z0 l own cc nL Ts ret rm ct toV (pc + 3) ls st σ cells slots K2) : V D z0 l own cc nL Ts ret rm ct toV pc ls (.int x :: st) σ cells slots (if 0 ≤ x then K1 else K2) :=
  V.br (fun hx hb a b => lv_if_ge hx hb hd ht a b) k1 k2
theorem V_icmp_ge {x y : Int32} {off : Int} {tgt : Nat} (hd : decode cc pc = .ok (.if_icmp .ge off, 3)) (ht : (pc : Int) + off = (tgt : Int)) (k1 : y ≤ x → V D z0 l own cc nL Ts ret rm ct toV tgt ls st σ cells slots K1) (k2 : ¬ (y ≤ x) → V D z0 l own cc nL Ts ret rm ct toV (pc + 3) ls st σ cells slots K2) : V D z0 l own cc nL Ts ret rm ct toV pc ls (.int y :: .int x :: st) σ cells slots (if y ≤ x then K1 else K2) :=
  V.br (fun hx hb a b => lv_icmp_ge hx hb hd ht a b) k1 k2
theorem V_if_gt {x : Int32} {off : Int} {tgt : Nat} (hd : decode cc pc = .ok (.ifCond .gt off, 3)) (ht : (pc : Int) + off = (tgt : Int)) (k1 : 0 < x → V D z0 l own cc nL Ts ret rm ct toV tgt ls st σ cells slots K1) (k2 : ¬ (0 < x) → V D z0 l own cc nL Ts ret rm ct toV (pc + 3) ls st σ cells slots K2) : V D z0 l own cc nL Ts ret rm ct toV pc ls (.int x :: st) σ cells slots (if 0 < x then K1 else K2) :=
  V.br (fun hx hb a b => lv_if_gt hx hb hd ht a b) k1 k2
theorem V_icmp_gt {x y : Int32} {off : Int} {tgt : Nat} (hd : decode cc pc = .ok (.if_icmp .gt off, 3)) (ht : (pc : Int) + off = (tgt : Int)) (k1 : y < x → V D z0 l own cc nL Ts ret rm ct toV tgt ls st σ cells slots K1) (k2 : ¬ (y < x) → V D z0 l own cc nL Ts ret rm ct toV (pc + 3) ls st σ cells slots K2) : V D z0 l own cc nL Ts ret rm ct toV pc ls (.int y :: .int x :: st) σ cells slots (if y < x then K1 else K2) :=
  V.br (fun hx hb a b => lv_icmp_gt hx hb hd ht a b) k1 k2
theorem V_if_le {x : Int32} {off : Int} {tgt : Nat} (hd : decode cc pc = .ok (.ifCond .le off, 3)) (ht : (pc : Int) + off = (tgt : Int)) (k1 : x ≤ 0 → V D z0 l own cc nL Ts ret rm ct toV tgt ls st σ cells slots K1) (k2 : ¬ (x ≤ 0) → V D z0 l own cc nL Ts ret rm ct toV (pc + 3) ls st σ cells slots K2) : V D z0 l own cc nL Ts ret rm ct toV pc ls (.int x :: st) σ cells slots (if x ≤ 0 then K1 else K2) :=
  V.br (fun hx hb a b => lv_if_le hx hb hd ht a b) k1 k2
theorem V_icmp_le {x y : Int32} {off : Int} {tgt : Nat} (hd : decode cc pc = .ok (.if_icmp .le off, 3)) (ht : (pc : Int) + off = (tgt : Int)) (k1 : x ≤ y → V D z0 l own cc nL Ts ret rm ct toV tgt ls st σ cells slots K1) (k2 : ¬ (x ≤ y) → V D z0 l own cc nL Ts ret rm ct toV (pc + 3) ls st σ cells slots K2) : V D z0 l own cc nL Ts ret rm ct toV pc ls (.int y :: .int x :: st) σ cells slots (if x ≤ y then K1 else K2) :=
  V.br (fun hx hb a b => lv_icmp_le hx hb hd ht a b) k1 k2
theorem V_ifnull {x : Option Nat} {off : Int} {tgt : Nat} (hd : decode cc pc = .ok (.ifnull off, 3)) (ht : (pc : Int) + off = (tgt : Int)) (k1 : x = none → V D z0 l own cc nL Ts ret rm ct toV tgt ls st σ cells slots K1) (k2 : ¬ (x = none) → V D z0 l own cc nL Ts ret rm ct toV (pc + 3) ls st σ cells slots K2) : V D z0 l own cc nL Ts ret rm ct toV pc ls (va_rf x :: st) σ cells slots (if x = none then K1 else K2) := by
  cases x with
  | none =>
    rw [if_pos rfl]
    exact V.step (fun hx hb _ w => lv_ifnullN hx hb hd ht w) (k1 rfl)
  | some a =>
    rw [if_neg (by simp)]
    exact V.step (fun hx hb _ w => lv_ifnull hx hb hd w) (k2 (by simp))
theorem V_ifnonnull {x : Option Nat} {off : Int} {tgt : Nat} (hd : decode cc pc = .ok (.ifnonnull off, 3)) (ht : (pc : Int) + off = (tgt : Int)) (k1 : x = none → V D z0 l own cc nL Ts ret rm ct toV (pc + 3) ls st σ cells slots K1) (k2 : ¬ (x = none) → V D z0 l own cc nL Ts ret rm ct toV tgt ls st σ cells slots K2) : V D z0 l own cc nL Ts ret rm ct toV pc ls (va_rf x :: st) σ cells slots (if x = none then K1 else K2) := by
  cases x with
  | none =>
    rw [if_pos rfl]
    exact V.step (fun hx hb _ w => lv_ifnonnullN hx hb hd w) (k1 rfl)
  | some a =>
    rw [if_neg (by simp)]
    exact V.step (fun hx hb _ w => lv_ifnonnull hx hb hd ht w) (k2 (by simp))
end VBR
/-! THE V LAYER, second text: what reads and writes the map -/
def sGetI (x : Option Nat) (ci j : Nat) (σ : SG) : Option Int32 := match x with
  | none => none
  | some a => match σ.1 a with
    | some (.inl (c, fs)) => if c = ci then (match fs[j]? with | some (.int v) => some v | _ => none) else none
    | _ => none
def sGetR (x : Option Nat) (ci j : Nat) (σ : SG) : Option (Option Nat) := match x with
  | none => none
  | some a => match σ.1 a with
    | some (.inl (c, fs)) => if c = ci then (match fs[j]? with | some (.ref b) => some (some b) | some .null => some none | _ => none) else none
    | _ => none
def sPutV (x : Option Nat) (ci j : Nat) (v : Value) (σ : SG) : Option SG := match x with
  | none => none
  | some a => match σ.1 a with
    | some (.inl (c, fs)) => if c = ci then (if j < fs.length then some (hup σ.1 a (.inl (c, fs.set j v)), σ.2) else none) else none
    | _ => none
def sPutI (x : Option Nat) (ci j : Nat) (v : Int32) (σ : SG) : Option SG := sPutV x ci j (.int v) σ
def sPutZ (x : Option Nat) (ci j : Nat) (v : Int32) (σ : SG) : Option SG := if v = 0 ∨ v = 1 then sPutV x ci j (.int v) σ else none
def sPutR (x : Option Nat) (ci j : Nat) (v : Option Nat) (σ : SG) : Option SG := sPutV x ci j (va_rf v) σ
/-- a field that the first class of the system's own declares, read of any of its subclasses (their places in vwCl) -/
def sGetIT (x : Option Nat) (cs : List Nat) (j : Nat) (σ : SG) : Option Int32 := match x with
  | none => none
  | some a => match σ.1 a with
    | some (.inl (c, fs)) => if c ∈ cs then (match fs[j]? with | some (.int v) => some v | _ => none) else none
    | _ => none
def sPutZT (x : Option Nat) (cs : List Nat) (j : Nat) (v : Int32) (σ : SG) : Option SG := match x with
  | none => none
  | some a => match σ.1 a with
    | some (.inl (c, fs)) => if c ∈ cs then (if v = 0 ∨ v = 1 then (if j < fs.length then some (hup σ.1 a (.inl (c, fs.set j (.int v))), σ.2) else none) else none) else none
    | _ => none
def sPutIT (x : Option Nat) (cs : List Nat) (j : Nat) (v : Int32) (σ : SG) : Option SG := match x with
  | none => none
  | some a => match σ.1 a with
    | some (.inl (c, fs)) => if c ∈ cs then (if j < fs.length then some (hup σ.1 a (.inl (c, fs.set j (.int v))), σ.2) else none) else none
    | _ => none
def sObj (x : Option Nat) (ci : Nat) (σ : SG) : Option Unit := match x with
  | none => none
  | some a => match σ.1 a with
    | some (.inl (c, _)) => if c = ci then some () else none
    | _ => none
def sInst (x : Option Nat) (ci : Nat) (σ : SG) : Option Int32 := match x with
  | none => some 0
  | some _ => (sObj x ci σ).bind fun _ => some 1
def sCast (x : Option Nat) (ci : Nat) (σ : SG) : Option Unit := match x with
  | none => some ()
  | some _ => sObj x ci σ
def sLen (x : Option Nat) (σ : SG) : Option Int32 := match x with
  | none => none
  | some a => match σ.1 a with
    | some (.inr (k, n, _)) => if k < 8 then some (Int32.ofNat n) else none
    | _ => none
def sAld (x : Option Nat) (k : Nat) (i : Int32) (σ : SG) : Option Int32 := match x with
  | none => none
  | some a => match σ.1 a with
    | some (.inr (k', n, .inl f)) => if k' = k then (if i < 0 ∨ n ≤ i.toNatClampNeg then none else some (f i.toNatClampNeg)) else none
    | _ => none
def sAst (x : Option Nat) (k : Nat) (i v : Int32) (σ : SG) : Option SG := match x with
  | none => none
  | some a => match σ.1 a with
    | some (.inr (k', n, .inl f)) => if k' = k then (if i < 0 ∨ n ≤ i.toNatClampNeg then none else some (hup σ.1 a (.inr (k', n, .inl (upd f i.toNatClampNeg v))), σ.2)) else none
    | _ => none
def sAldR (x : Option Nat) (i : Int32) (σ : SG) : Option (Option Nat) := match x with
  | none => none
  | some a => match σ.1 a with
    | some (.inr (k', n, .inr f)) => if 3 ≤ k' ∧ k' < 8 then (if i < 0 ∨ n ≤ i.toNatClampNeg then none else some (f i.toNatClampNeg)) else none
    | _ => none
/-- the class of which an array of references is -/
def kci : Nat → Nat
  | 3 => 1
  | 4 => 2
  | 5 => 3
  | 6 => 4
  | _ => 6
def sAstR (x : Option Nat) (i : Int32) (v : Option Nat) (σ : SG) : Option SG := match x with
  | none => none
  | some a => match σ.1 a with
    | some (.inr (k', n, .inr f)) => if 3 ≤ k' ∧ k' < 8 then (if i < 0 ∨ n ≤ i.toNatClampNeg then none else (sObj v (kci k') σ).bind fun _ => some (hup σ.1 a (.inr (k', n, .inr (va_up f i.toNatClampNeg v))), σ.2)) else none
    | _ => none
/-- what is made: the budget lim is the heap's size behind it at most -/
def sNew (lim : Nat) (e : CE) (σ : SG) : Option (Option Nat × SG) := if σ.2 + 1 ≤ lim then some (some σ.2, (hup σ.1 σ.2 e, σ.2 + 1)) else none
def sNewA (lim : Nat) (k : Nat) (n : Int32) (σ : SG) : Option (Option Nat × SG) := if n < 0 ∨ 800 < n.toNatClampNeg then none else sNew lim (.inr (k, n.toNatClampNeg, .inl (fun _ => 0))) σ
def sNewQ (lim : Nat) (k : Nat) (n : Int32) (σ : SG) : Option (Option Nat × SG) := if n < 0 ∨ 800 < n.toNatClampNeg then none else sNew lim (.inr (k, n.toNatClampNeg, .inr (fun _ => none))) σ
def sEnd (lim : Nat) (σ : SG) : Option (Unit × SG) := if σ.2 ≤ lim then some ((), σ) else none
def chkZ (v : Int32) (σ : SG) : Option (Int32 × SG) := if v = 0 ∨ v = 1 then some (v, σ) else none
def lstI (i : Int32) : Option Int32 := if i = 0 then some 0 else if i = 1 then some 0 else if i = 2 then some 1 else if i = 3 then some 1 else none
def mstI (i : Int32) : Option Int32 := if i = 0 then some 9 else if i = 1 then some 9 else if i = 2 then some 9 else if i = 3 then some 3 else none
def swK {β : Type} (x : Int32) : List (Int32 × Option β) → Option β → Option β
  | [], d => d
  | q :: r, d => if x = q.1 then q.2 else swK x r d
/-! the words behind a field's instruction, once for each -/
def FD (own : String) (idx : Nat) (Ts : List Cond) (ci j : Nat) : Prop := ∃ (C ref : String) (T : u_T) (N : Nat), vwCl[ci]? = some (C, T, N) ∧ (∀ w ∈ u_ws C T N, w ∈ Ts) ∧ j < N ∧ Cond.fieldLink own idx ref (T j).2.1 (T j).2.2.1 ∈ Ts ∧ (ref = (T j).1 ∨ Cond.sameField ref (T j).1 (T j).2.1 (T j).2.2.1 ∈ Ts)
def FW (own : String) (Ts : List Cond) (ci j : Nat) (ty : FieldType) (fin : Bool) : Prop := ∃ (C : String) (T : u_T) (N : Nat) (ty0 : Nat → FieldType), vwCl[ci]? = some (C, T, N) ∧ (∀ w ∈ u_ws C T N, w ∈ Ts) ∧ (∀ k, k < N → parseFieldDescriptor (T k).2.2.1 = some (ty0 k)) ∧ (∀ a, a < N → ∀ b, b < N → a ≠ b → (T a).2.1 ≠ (T b).2.1) ∧ (T j).2.2.2 = fin ∧ (fin = true → (T j).1 = own) ∧ parseFieldDescriptor (T j).2.2.1 = some ty
section VFIELD
variable {α : Type} {D : DG} {z0 : Nat} {l : Launch} {own : String} {cc : ByteArray} {nL : Nat} {Ts : List Cond} {ret : Option FieldType} {rm : Room} {ct : Bool} {toV : α → Option Value} {pc : Nat} {ls : List (Option Value)} {st : List Value} {σ : SG} {cells slots : Nat}
theorem V.getv {ci j idx : Nat} {a : Nat} {fs : List Value} {v : Value} {K : Option (α × SG)} (hF : FD own idx Ts ci j) (hd : decode cc pc = .ok (.getfield idx, 3)) (ha : σ.1 a = some (.inl (ci, fs))) (hv : fs[j]? = some v)
    (k : V D z0 l own cc nL Ts ret rm ct toV (pc + 3) ls (v :: st) σ cells slots K) : V D z0 l own cc nL Ts ret rm ct toV pc ls (.ref a :: st) σ cells slots K := by
  obtain ⟨C, ref, T, N, hc, hin, hj, hl, hsm⟩ := hF
  intro p e s m args below meth c H locs arr r σ' X hz hR hS hL hK
  obtain ⟨hx, hb, hml, hown, hts, hrt, hlk, hct, hE, hSF, hz0⟩ := id X
  have hP : va_P D.1 vwCl [(a, .inr (ci, fs))] H := by
    intro k q hk
    cases k with
    | zero => cases hk; exact (hR.2 a _ ha).2
    | succ k => simp at hk
  refine va_get hx hb hts hin hown hE.1 hP 0 rfl hc j hj (hts _ hl) (fun x hx => ?_) hv hd (k p e s m args below meth c H locs arr r σ' X hz hR hS hL hK)
  rcases hsm with h | h
  · rw [h]; exact hx
  · exact u_same (hts _ h) x hx
theorem V_getI {ci j idx : Nat} {x : Option Nat} {K : Int32 → Option (α × SG)} (hF : FD own idx Ts ci j) (hd : decode cc pc = .ok (.getfield idx, 3))
    (k : ∀ v : Int32, V D z0 l own cc nL Ts ret rm ct toV (pc + 3) ls (.int v :: st) σ cells slots (K v)) : V D z0 l own cc nL Ts ret rm ct toV pc ls (va_rf x :: st) σ cells slots ((sGetI x ci j σ).bind K) := by
  unfold sGetI
  split
  · exact V_none
  next a =>
    split
    next c fs ha =>
      split
      next hc =>
        subst hc
        split
        next v hv => exact V.getv hF hd ha hv (k v)
        · exact V_none
      · exact V_none
    · exact V_none
theorem V_getR {ci j idx : Nat} {x : Option Nat} {K : Option Nat → Option (α × SG)} (hF : FD own idx Ts ci j) (hd : decode cc pc = .ok (.getfield idx, 3))
    (k : ∀ v : Option Nat, V D z0 l own cc nL Ts ret rm ct toV (pc + 3) ls (va_rf v :: st) σ cells slots (K v)) : V D z0 l own cc nL Ts ret rm ct toV pc ls (va_rf x :: st) σ cells slots ((sGetR x ci j σ).bind K) := by
  unfold sGetR
  split
  · exact V_none
  next a =>
    split
    next c fs ha =>
      split
      next hc =>
        subst hc
        split
        next v hv => exact V.getv hF hd ha hv (k (some v))
        next hv => exact V.getv hF hd ha hv (k Option.none)
        · exact V_none
      · exact V_none
    · exact V_none
theorem V_getIT {cs : List Nat} {j idx : Nat} {x : Option Nat} {K : Int32 → Option (α × SG)} (hF : ∀ ci ∈ cs, FD own idx Ts ci j) (hd : decode cc pc = .ok (.getfield idx, 3))
    (k : ∀ v : Int32, V D z0 l own cc nL Ts ret rm ct toV (pc + 3) ls (.int v :: st) σ cells slots (K v)) : V D z0 l own cc nL Ts ret rm ct toV pc ls (va_rf x :: st) σ cells slots ((sGetIT x cs j σ).bind K) := by
  unfold sGetIT
  split
  · exact V_none
  next a =>
    split
    next c fs ha =>
      split
      next hc =>
        split
        next v hv => exact V.getv (hF c hc) hd ha hv (k v)
        · exact V_none
      · exact V_none
    · exact V_none
theorem V.putv {ci j idx : Nat} {a : Nat} {fs : List Value} {v : Value} {ty : FieldType} {K : Option (α × SG)} (hF : FD own idx Ts ci j) (hG : FW own Ts ci j ty false) (hd : decode cc pc = .ok (.putfield idx, 3)) (ha : σ.1 a = some (.inl (ci, fs))) (hl : j < fs.length) (hn : narrow ty v = v) (hfit : fits ty v = true)
    (k : V D z0 l own cc nL Ts ret rm ct toV (pc + 3) ls st (hup σ.1 a (.inl (ci, fs.set j v)), σ.2) cells slots K) : V D z0 l own cc nL Ts ret rm ct toV pc ls (v :: .ref a :: st) σ cells slots K := by
  obtain ⟨C, ref, T, N, hc, hin, hj, hlk, hsm⟩ := hF
  obtain ⟨C', T', N', ty0, hc', -, hty, hnm, hfin, -, hpd⟩ := hG
  cases hc.symm.trans hc'
  intro p e s m args below meth c H locs arr r σ' X hz hR hS hL hK
  obtain ⟨hx, hb, hml, hown, hts, hrt, hlk2, hct, hE, hSF, hz0⟩ := id X
  have hap := va_apart (own := own) hts hin ty0 hty hnm hE.1 hc
  obtain ⟨haz, rr, h1, cell, q1, q2, q3, q4⟩ := hR.2 a _ ha
  have hr : rr = (C, T, N) := Option.some.inj (h1.symm.trans hc)
  subst hr
  obtain ⟨hSl, hfc, kC, hkC, hkind⟩ := hE.1.1 ci _ hc
  obtain ⟨cf, kf, fi, f, hi, hsl⟩ := hSl j hj
  have hlay := hts _ (hin _ (u_in_lay hj))
  unfold u_lay at hlay
  rw [if_neg (by rw [hfin]; decide)] at hlay
  have hst := (u_facts hfc hkC (u_lays hts hin hj) hi).1
  have h6 := u_store hfc hkC hkind hlay hi hpd hn hfit
  have hi2 : s.fieldFound? ref (T j).2.1 (T j).2.2.1 = some (cf, kf, fi, f) := by
    rcases hsm with h | h
    · rw [h]; exact hi
    · exact u_same (hts _ h) _ hi
  refine W.putK hx hb (f := f) ⟨hown, hts _ hlk, ⟨_, _, _, hi2⟩, hst⟩ (by rw [q2]; exact h6) q1 q3 (by rw [hsl]; exact k2_hasslot (q4 j hj)) rfl rfl hd fun H' e1 e2 e3 => ?_
  rw [hsl] at e1 ⊢
  exact k p e s m args below meth c H' _ arr r σ' X hz (RP.set (σ := σ) hR ha ⟨_, hc, t_OB.to (V := updV (vp_V fs) j v) ⟨_, e1, q2, q3, t_set q4 hap hj v⟩ (fun i _ => vp_updV_set hl v i)⟩ e2 e3) (hS.put e2 e3 haz) hL hK
theorem V.putvF {ci j idx : Nat} {a : Nat} {fs : List Value} {v : Value} {ty : FieldType} {K : Option (α × SG)} (hF : FD own idx Ts ci j) (hG : FW own Ts ci j ty true) (hct : ct = true) (hd : decode cc pc = .ok (.putfield idx, 3)) (ha : σ.1 a = some (.inl (ci, fs))) (hl : j < fs.length) (hn : narrow ty v = v) (hfit : fits ty v = true)
    (k : V D z0 l own cc nL Ts ret rm ct toV (pc + 3) ls st (hup σ.1 a (.inl (ci, fs.set j v)), σ.2) cells slots K) : V D z0 l own cc nL Ts ret rm ct toV pc ls (v :: .ref a :: st) σ cells slots K := by
  obtain ⟨C, ref, T, N, hc, hin, hj, hlk, hsm⟩ := hF
  obtain ⟨C', T', N', ty0, hc', -, hty, hnm, hfin, hdecl, hpd⟩ := hG
  cases hc.symm.trans hc'
  intro p e s m args below meth c H locs arr r σ' X hz hR hS hL hK
  obtain ⟨hx, hb, hml, hown, hts, hrt, hlk2, hct2, hE, hSF, hz0⟩ := id X
  have hap := va_apart (own := own) hts hin ty0 hty hnm hE.1 hc
  obtain ⟨haz, rr, h1, cell, q1, q2, q3, q4⟩ := hR.2 a _ ha
  have hr : rr = (C, T, N) := Option.some.inj (h1.symm.trans hc)
  subst hr
  obtain ⟨hSl, hfc, kC, hkC, hkind⟩ := hE.1.1 ci _ hc
  obtain ⟨cf, kf, fi, f, hi, hsl⟩ := hSl j hj
  have hlay := hts _ (hin _ (u_in_lay hj))
  unfold u_lay at hlay
  rw [if_pos hfin] at hlay
  have hst := (u_facts hfc hkC (u_lays hts hin hj) hi).1
  have hcf : m.cls = cf := by
    obtain ⟨_, _, c', _, _, _, -, -, hf', -, -, -, hown2, -⟩ := Cond.laysFinal_spec hlay
    have e1 : c' = cf := by have := hi.symm.trans hf'; simp at this; exact this.1.symm
    rw [hdecl rfl] at hown2
    rw [← e1]; exact Option.some.inj (hown.symm.trans hown2)
  have h6 := u_fits hfc hkC hkind (Or.inr hlay) hi hpd hn hfit
  have hi2 : s.fieldFound? ref (T j).2.1 (T j).2.2.1 = some (cf, kf, fi, f) := by
    rcases hsm with h | h
    · rw [h]; exact hi
    · exact u_same (hts _ h) _ hi
  refine W.putFinK hx hb hown (hts _ hlk) hi2 hst hcf (hct2 hct) (by rw [q2]; exact h6) q1 q3 (by rw [hsl]; exact k2_hasslot (q4 j hj)) rfl rfl hd fun H' e1 e2 e3 => ?_
  rw [hsl] at e1 ⊢
  exact k p e s m args below meth c H' _ arr r σ' X hz (RP.set (σ := σ) hR ha ⟨_, hc, t_OB.to (V := updV (vp_V fs) j v) ⟨_, e1, q2, q3, t_set q4 hap hj v⟩ (fun i _ => vp_updV_set hl v i)⟩ e2 e3) (hS.put e2 e3 haz) hL hK
theorem V.put1 {ci j idx : Nat} {x : Option Nat} {v : Value} {ty : FieldType} {fin : Bool} {K : SG → Option (α × SG)} (hF : FD own idx Ts ci j) (hG : FW own Ts ci j ty fin) (hct : fin = true → ct = true) (hd : decode cc pc = .ok (.putfield idx, 3)) (hn : narrow ty v = v) (hfit : fits ty v = true)
    (k : ∀ σ1 : SG, σ1.2 = σ.2 → V D z0 l own cc nL Ts ret rm ct toV (pc + 3) ls st σ1 cells slots (K σ1)) : V D z0 l own cc nL Ts ret rm ct toV pc ls (v :: va_rf x :: st) σ cells slots ((sPutV x ci j v σ).bind K) := by
  unfold sPutV
  split
  · exact V_none
  next a =>
    split
    next c fs ha =>
      split
      next hc =>
        subst hc
        split
        next hl =>
          cases fin with
          | true => exact V.putvF hF hG (hct rfl) hd ha hl hn hfit (k _ rfl)
          | false => exact V.putv hF hG hd ha hl hn hfit (k _ rfl)
        · exact V_none
      · exact V_none
    · exact V_none
theorem V_putI {ci j idx : Nat} {x : Option Nat} {v : Int32} {fin : Bool} {K : SG → Option (α × SG)} (hF : FD own idx Ts ci j) (hG : FW own Ts ci j .int fin) (hct : fin = true → ct = true) (hd : decode cc pc = .ok (.putfield idx, 3))
    (k : ∀ σ1 : SG, σ1.2 = σ.2 → V D z0 l own cc nL Ts ret rm ct toV (pc + 3) ls st σ1 cells slots (K σ1)) : V D z0 l own cc nL Ts ret rm ct toV pc ls (.int v :: va_rf x :: st) σ cells slots ((sPutI x ci j v σ).bind K) :=
  V.put1 hF hG hct hd rfl rfl k
theorem V_putZ {ci j idx : Nat} {x : Option Nat} {v : Int32} {fin : Bool} {K : SG → Option (α × SG)} (hF : FD own idx Ts ci j) (hG : FW own Ts ci j .boolean fin) (hct : fin = true → ct = true) (hd : decode cc pc = .ok (.putfield idx, 3))
    (k : ∀ σ1 : SG, σ1.2 = σ.2 → V D z0 l own cc nL Ts ret rm ct toV (pc + 3) ls st σ1 cells slots (K σ1)) : V D z0 l own cc nL Ts ret rm ct toV pc ls (.int v :: va_rf x :: st) σ cells slots ((sPutZ x ci j v σ).bind K) := by
  unfold sPutZ
  split
  next h =>
    refine V.put1 hF hG hct hd ?_ ?_ k
    · rcases h with rfl | rfl <;> rfl
    · rcases h with rfl | rfl <;> rfl
  · exact V_none
theorem V_putO {ci j idx : Nat} {x v : Option Nat} {nm : String} {fin : Bool} {K : SG → Option (α × SG)} (hF : FD own idx Ts ci j) (hG : FW own Ts ci j (.object nm) fin) (hct : fin = true → ct = true) (hd : decode cc pc = .ok (.putfield idx, 3))
    (k : ∀ σ1 : SG, σ1.2 = σ.2 → V D z0 l own cc nL Ts ret rm ct toV (pc + 3) ls st σ1 cells slots (K σ1)) : V D z0 l own cc nL Ts ret rm ct toV pc ls (va_rf v :: va_rf x :: st) σ cells slots ((sPutR x ci j v σ).bind K) :=
  V.put1 hF hG hct hd (by cases v <;> rfl) (by cases v <;> rfl) k
theorem V_putA {ci j idx : Nat} {x v : Option Nat} {ty : FieldType} {fin : Bool} {K : SG → Option (α × SG)} (hF : FD own idx Ts ci j) (hG : FW own Ts ci j (.array ty) fin) (hct : fin = true → ct = true) (hd : decode cc pc = .ok (.putfield idx, 3))
    (k : ∀ σ1 : SG, σ1.2 = σ.2 → V D z0 l own cc nL Ts ret rm ct toV (pc + 3) ls st σ1 cells slots (K σ1)) : V D z0 l own cc nL Ts ret rm ct toV pc ls (va_rf v :: va_rf x :: st) σ cells slots ((sPutR x ci j v σ).bind K) :=
  V.put1 hF hG hct hd (by cases v <;> rfl) (by cases v <;> rfl) k
theorem V_putIT {cs : List Nat} {j idx : Nat} {x : Option Nat} {v : Int32} {K : SG → Option (α × SG)} (hF : ∀ ci ∈ cs, FD own idx Ts ci j ∧ FW own Ts ci j .int false) (hd : decode cc pc = .ok (.putfield idx, 3))
    (k : ∀ σ1 : SG, σ1.2 = σ.2 → V D z0 l own cc nL Ts ret rm ct toV (pc + 3) ls st σ1 cells slots (K σ1)) : V D z0 l own cc nL Ts ret rm ct toV pc ls (.int v :: va_rf x :: st) σ cells slots ((sPutIT x cs j v σ).bind K) := by
  unfold sPutIT
  split
  · exact V_none
  next a =>
    split
    next c fs ha =>
      split
      next hc =>
        split
        next hl => exact V.putv (hF c hc).1 (hF c hc).2 hd ha hl rfl rfl (k _ rfl)
        · exact V_none
      · exact V_none
    · exact V_none
theorem V_putZT {cs : List Nat} {j idx : Nat} {x : Option Nat} {v : Int32} {K : SG → Option (α × SG)} (hF : ∀ ci ∈ cs, FD own idx Ts ci j ∧ FW own Ts ci j .boolean false) (hd : decode cc pc = .ok (.putfield idx, 3))
    (k : ∀ σ1 : SG, σ1.2 = σ.2 → V D z0 l own cc nL Ts ret rm ct toV (pc + 3) ls st σ1 cells slots (K σ1)) : V D z0 l own cc nL Ts ret rm ct toV pc ls (.int v :: va_rf x :: st) σ cells slots ((sPutZT x cs j v σ).bind K) := by
  unfold sPutZT
  split
  · exact V_none
  next a =>
    split
    next c fs ha =>
      split
      next hc =>
        split
        next hv =>
          split
          next hl =>
            refine V.putv (hF c hc).1 (hF c hc).2 hd ha hl ?_ ?_ (k _ rfl)
            · rcases hv with rfl | rfl <;> rfl
            · rcases hv with rfl | rfl <;> rfl
          · exact V_none
        · exact V_none
      · exact V_none
    · exact V_none
end VFIELD
end
section
/-! THE V LAYER, third text: arrays, what is made, switches, calls, ends -/
section VARR
variable {α : Type} {D : DG} {z0 : Nat} {l : Launch} {own : String} {cc : ByteArray} {nL : Nat} {Ts : List Cond} {ret : Option FieldType} {rm : Room} {ct : Bool} {toV : α → Option Value} {pc : Nat} {ls : List (Option Value)} {st : List Value} {σ : SG} {cells slots : Nat}
theorem tysD_at (D : DG) {k : Nat} (hk : k < 8) : ∃ ty, (tysD D)[k]? = some (D.2 k, ty) := by
  match k, hk with
  | 0, _ => exact ⟨_, rfl⟩
  | 1, _ => exact ⟨_, rfl⟩
  | 2, _ => exact ⟨_, rfl⟩
  | 3, _ => exact ⟨_, rfl⟩
  | 4, _ => exact ⟨_, rfl⟩
  | 5, _ => exact ⟨_, rfl⟩
  | 6, _ => exact ⟨_, rfl⟩
  | 7, _ => exact ⟨_, rfl⟩
theorem tysD_ref (D : DG) {k : Nat} (h3 : 3 ≤ k) (hk : k < 8) : ∃ r : vw_C, vwCl[kci k]? = some r ∧ (tysD D)[k]? = some (D.2 k, .object r.1) := by
  match k, h3, hk with
  | 3, _, _ => exact ⟨_, rfl, rfl⟩
  | 4, _, _ => exact ⟨_, rfl, rfl⟩
  | 5, _, _ => exact ⟨_, rfl, rfl⟩
  | 6, _, _ => exact ⟨_, rfl, rfl⟩
  | 7, _, _ => exact ⟨_, rfl, rfl⟩
theorem RP.one {H : Heap} {a : Nat} {e : CE} (hR : RP D z0 σ H) (ha : σ.1 a = some e) : va_P D.1 vwCl [(a, toE D e)] H := by
  intro k q hk
  cases k with
  | zero => cases hk; exact (hR.2 a _ ha).2
  | succ k => simp at hk
theorem V_alen {x : Option Nat} {K : Int32 → Option (α × SG)} (hd : decode cc pc = .ok (.arraylength, 1))
    (k : ∀ v : Int32, V D z0 l own cc nL Ts ret rm ct toV (pc + 1) ls (.int v :: st) σ cells slots (K v)) : V D z0 l own cc nL Ts ret rm ct toV pc ls (va_rf x :: st) σ cells slots ((sLen x σ).bind K) := by
  unfold sLen
  split
  · exact V_none
  next a =>
    split
    next kk n c ha =>
      split
      next hk =>
        obtain ⟨ty, hty⟩ := tysD_at D hk
        intro p e s m args below meth cd H locs arr r σ' X hz hR hS hL hK
        obtain ⟨hx, hb, hml, hown, hts, hrt, hlk, hct, hE, hSF, hz0⟩ := id X
        have hP := hR.one ha
        have g := k (Int32.ofNat n) p e s m args below meth cd H locs arr r σ' X hz hR hS hL hK
        cases c with
        | inl f => exact va_alen (x := (n, .inl f)) hx hb hE.1 hP 0 kk rfl hty rfl hd g
        | inr f => exact va_alen (x := (n, .inr (.inr (.inr (.inr f))))) hx hb hE.1 hP 0 kk rfl hty rfl hd g
      · exact V_none
    · exact V_none
theorem V.ald {k0 : Nat} {x : Option Nat} {i : Int32} {K : Int32 → Option (α × SG)}
    (hrow : ∀ {p : Program} {e : Env} {s : State} {m : MethodId} {args : Array Value} {below : List Frame} {meth : Method} {c : Code} {H : Heap} {locs : List Loc} {arr : Array Slot} {Q : State → Prop} {a n : Nat} {f : Nat → Int32}, p.tables.exec = Jvm.exec → c.code = cc → va_K D.1 vwCl (tysD D) s → va_P D.1 vwCl [(a, .inl (D.2 k0, n, .inl f))] H → vp_in i n → W p l e rm s m args below meth c H locs cells slots Q (F0 m (pc + 1) arr (.int (f i.toNatClampNeg) :: st)) → W p l e rm s m args below meth c H locs cells slots Q (F0 m pc arr (.int i :: .ref a :: st)))
    (k : ∀ v : Int32, V D z0 l own cc nL Ts ret rm ct toV (pc + 1) ls (.int v :: st) σ cells slots (K v)) : V D z0 l own cc nL Ts ret rm ct toV pc ls (.int i :: va_rf x :: st) σ cells slots ((sAld x k0 i σ).bind K) := by
  unfold sAld
  split
  · exact V_none
  next a =>
    split
    next kk n f ha =>
      split
      next hk =>
        subst hk
        split
        · exact V_none
        next hin =>
          intro p e s m args below meth cd H locs arr r σ' X hz hR hS hL hK
          obtain ⟨hx, hb, hml, hown, hts, hrt, hlk, hct, hE, hSF, hz0⟩ := id X
          exact hrow hx hb hE.1 (hR.one ha) hin (k _ p e s m args below meth cd H locs arr r σ' X hz hR hS hL hK)
      · exact V_none
    · exact V_none
theorem V_iaload {x : Option Nat} {i : Int32} {K : Int32 → Option (α × SG)} (hd : decode cc pc = .ok (.iaload, 1))
    (k : ∀ v : Int32, V D z0 l own cc nL Ts ret rm ct toV (pc + 1) ls (.int v :: st) σ cells slots (K v)) : V D z0 l own cc nL Ts ret rm ct toV pc ls (.int i :: va_rf x :: st) σ cells slots ((sAld x 1 i σ).bind K) :=
  V.ald (fun hx hb hK hP hin w => va_iald hx hb hK hP 0 1 rfl rfl hin hd w) k
theorem V_zaload {x : Option Nat} {i : Int32} {K : Int32 → Option (α × SG)} (hd : decode cc pc = .ok (.baload, 1))
    (k : ∀ v : Int32, V D z0 l own cc nL Ts ret rm ct toV (pc + 1) ls (.int v :: st) σ cells slots (K v)) : V D z0 l own cc nL Ts ret rm ct toV pc ls (.int i :: va_rf x :: st) σ cells slots ((sAld x 2 i σ).bind K) :=
  V.ald (fun hx hb hK hP hin w => va_zald hx hb hK hP 0 2 rfl rfl hin hd w) k
theorem V_caload {x : Option Nat} {i : Int32} {K : Int32 → Option (α × SG)} (hd : decode cc pc = .ok (.caload, 1))
    (k : ∀ v : Int32, V D z0 l own cc nL Ts ret rm ct toV (pc + 1) ls (.int v :: st) σ cells slots (K v)) : V D z0 l own cc nL Ts ret rm ct toV pc ls (.int i :: va_rf x :: st) σ cells slots ((sAld x 0 i σ).bind K) :=
  V.ald (fun hx hb hK hP hin w => va_cald hx hb hK hP 0 0 rfl rfl hin hd w) k
theorem V.ast {k0 : Nat} {x : Option Nat} {i v w : Int32} {ty : FieldType} {K : SG → Option (α × SG)} (hnar : narrow ty (.int v) = .int w)
    (hrow : ∀ {p : Program} {e : Env} {s : State} {m : MethodId} {args : Array Value} {below : List Frame} {meth : Method} {c : Code} {H : Heap} {locs : List Loc} {arr : Array Slot} {Q : State → Prop} {a n : Nat} {f : Nat → Int32}, p.tables.exec = Jvm.exec → c.code = cc → va_K D.1 vwCl (tysD D) s → H[a]? = some (arrV (D.2 k0) n (fun j => .int (f j))) → vp_in i n → (∀ H' : Heap, H'[a]? = some ((arrV (D.2 k0) n (fun j => .int (f j))).setSlot i.toNatClampNeg (.int w)) → H'.size = H.size → (∀ q, q ≠ a → H'[q]? = H[q]?) → W p l e rm s m args below meth c H' (locs ++ [⟨a, i.toNatClampNeg⟩]) cells slots Q (F0 m (pc + 1) arr st)) → W p l e rm s m args below meth c H locs cells slots Q (F0 m pc arr (.int v :: .int i :: .ref a :: st)))
    (k : ∀ σ1 : SG, σ1.2 = σ.2 → V D z0 l own cc nL Ts ret rm ct toV (pc + 1) ls st σ1 cells slots (K σ1)) : V D z0 l own cc nL Ts ret rm ct toV pc ls (.int v :: .int i :: va_rf x :: st) σ cells slots ((sAst x k0 i w σ).bind K) := by
  unfold sAst
  split
  · exact V_none
  next a =>
    split
    next kk n f ha =>
      split
      next hk =>
        subst hk
        split
        · exact V_none
        next hin =>
          intro p e s m args below meth cd H locs arr r σ' X hz hR hS hL hK
          obtain ⟨hx, hb, hml, hown, hts, hrt, hlk, hct, hE, hSF, hz0⟩ := id X
          obtain ⟨haz, hat⟩ := hR.2 a _ ha
          refine hrow hx hb hE.1 hat hin (fun H' e1 z oq => ?_)
          refine k (hup σ.1 a (.inr (kk, n, .inl (upd f i.toNatClampNeg w))), σ.2) rfl p e s m args below meth cd H' _ arr r σ' X hz (RP.set (σ := σ) hR ha ?_ z oq) (hS.put z oq haz) hL hK
          show H'[a]? = some (vp_cell _ _)
          rw [e1, vp_cell_i, arrV_store]
          congr 2
          funext q
          by_cases hq : q = i.toNatClampNeg
          · subst hq
            simp [updV, upd]
          · simp [updV, upd, hq]
      · exact V_none
    · exact V_none
theorem V_iastore {x : Option Nat} {i v : Int32} {K : SG → Option (α × SG)} (hd : decode cc pc = .ok (.iastore, 1))
    (k : ∀ σ1 : SG, σ1.2 = σ.2 → V D z0 l own cc nL Ts ret rm ct toV (pc + 1) ls st σ1 cells slots (K σ1)) : V D z0 l own cc nL Ts ret rm ct toV pc ls (.int v :: .int i :: va_rf x :: st) σ cells slots ((sAst x 1 i v σ).bind K) :=
  V.ast (ty := .int) rfl (fun {p e s m args below meth c H locs arr Q a n f} hx hb hK hcell hin w => W.iast hx hb hcell ((hK.2 1 _ rfl).1 n (fun j => .int (f j))) (fun q => by cases q) (by rw [arrV_size]; exact hin) rfl rfl hd w) k
/-- a boolean row takes 0 and 1 alone -/
theorem V_zastore {x : Option Nat} {i v : Int32} {K : SG → Option (α × SG)} (hd : decode cc pc = .ok (.bastore, 1))
    (k : ∀ σ1 : SG, σ1.2 = σ.2 → V D z0 l own cc nL Ts ret rm ct toV (pc + 1) ls st σ1 cells slots (K σ1)) : V D z0 l own cc nL Ts ret rm ct toV pc ls (.int v :: .int i :: va_rf x :: st) σ cells slots ((sAst x 2 i (vp_nar .boolean v) σ).bind K) :=
  V.ast (ty := .boolean) (by rfl) (fun {p e s m args below meth c H locs arr Q a n f} hx hb hK hcell hin w => W.zast hx hb hcell ((hK.2 2 _ rfl).1 n (fun j => .int (f j))) (fun q => by cases q) (by rw [arrV_size]; exact hin) rfl rfl hd w) k
theorem V_castore {x : Option Nat} {i v : Int32} {K : SG → Option (α × SG)} (hd : decode cc pc = .ok (.castore, 1))
    (k : ∀ σ1 : SG, σ1.2 = σ.2 → V D z0 l own cc nL Ts ret rm ct toV (pc + 1) ls st σ1 cells slots (K σ1)) : V D z0 l own cc nL Ts ret rm ct toV pc ls (.int v :: .int i :: va_rf x :: st) σ cells slots ((sAst x 0 i (vp_nar .char v) σ).bind K) :=
  V.ast (ty := .char) (by rfl) (fun {p e s m args below meth c H locs arr Q a n f} hx hb hK hcell hin w => W.cast hx hb hcell ((hK.2 0 _ rfl).1 n (fun j => .int (f j))) (fun q => by cases q) (by rw [arrV_size]; exact hin) rfl rfl hd w) k
theorem V_aaload {x : Option Nat} {i : Int32} {K : Option Nat → Option (α × SG)} (hd : decode cc pc = .ok (.aaload, 1))
    (k : ∀ v : Option Nat, V D z0 l own cc nL Ts ret rm ct toV (pc + 1) ls (va_rf v :: st) σ cells slots (K v)) : V D z0 l own cc nL Ts ret rm ct toV pc ls (.int i :: va_rf x :: st) σ cells slots ((sAldR x i σ).bind K) := by
  unfold sAldR
  split
  · exact V_none
  next a =>
    split
    next kk n f ha =>
      split
      next hk =>
        split
        · exact V_none
        next hin =>
          obtain ⟨q, -, hq⟩ := tysD_ref D hk.1 hk.2
          intro p e s m args below meth cd H locs arr r σ' X hz hR hS hL hK
          obtain ⟨hx, hb, hml, hown, hts, hrt, hlk, hct, hE, hSF, hz0⟩ := id X
          exact va_aldq hx hb hE.1 (hR.one ha) 0 kk rfl hq hin hd (k _ p e s m args below meth cd H locs arr r σ' X hz hR hS hL hK)
      · exact V_none
    · exact V_none
theorem V.sobj {β : Type} {x : Option Nat} {ci : Nat} {K : Unit → Option β} {P : Option β → Prop} (h0 : P none) (h : ∀ a fs, x = some a → σ.1 a = some (.inl (ci, fs)) → P (K ())) : P ((sObj x ci σ).bind K) := by
  unfold sObj
  split
  · exact h0
  next a =>
    split
    next c fs ha =>
      split
      next hc =>
        subst hc
        exact h a fs rfl ha
      · exact h0
    · exact h0
theorem V_aastore {x v : Option Nat} {i : Int32} {K : SG → Option (α × SG)} (hd : decode cc pc = .ok (.aastore, 1))
    (k : ∀ σ1 : SG, σ1.2 = σ.2 → V D z0 l own cc nL Ts ret rm ct toV (pc + 1) ls st σ1 cells slots (K σ1)) : V D z0 l own cc nL Ts ret rm ct toV pc ls (va_rf v :: .int i :: va_rf x :: st) σ cells slots ((sAstR x i v σ).bind K) := by
  unfold sAstR
  split
  · exact V_none
  next a =>
    split
    next kk n f ha =>
      split
      next hk =>
        split
        · exact V_none
        next hin =>
          rw [Option.bind_assoc]
          refine V.sobj (σ := σ) (x := v) (ci := kci kk) (P := fun K => V D z0 l own cc nL Ts ret rm ct toV pc ls (va_rf v :: .int i :: va_rf (some a) :: st) σ cells slots K) V_none (fun va fs hv hva => ?_)
          subst hv
          obtain ⟨rr, hc, hq⟩ := tysD_ref D hk.1 hk.2
          intro p e s m args below meth cd H locs arr r σ' X hz hR hS hL hK
          obtain ⟨hx, hb, hml, hown, hts, hrt, hlk, hct, hE, hSF, hz0⟩ := id X
          have hlt : i.toNatClampNeg < n := Nat.not_le.mp fun q => hin (Or.inr q)
          have h0 : ¬ i < 0 := fun q => hin (Or.inl q)
          obtain ⟨-, r', hr', cellV, g1, g2, g3, -⟩ := hR.2 va _ hva
          have hcls := (hE.1.1 (kci kk) rr hc).2
          obtain ⟨kA, comp, k1, k2, k3, -⟩ := (hE.1.2 kk _ hq).2
          have hcomp : comp = D.1.1 (kci kk) := Option.some.inj (k3.symm.trans hcls.1)
          subst hcomp
          obtain ⟨kC, hkC, -⟩ := hcls.2
          obtain ⟨haz, hat⟩ := hR.2 a _ ha
          refine W.aast hx hb hat (fun q h => by cases h) (fun h => by cases h) k1 k2 rfl hkC ⟨h0, by show _ < (arrV _ _ _).slots.size; rw [arrV_size]; exact hlt⟩ g1 (fun q h => by rw [g3] at h; cases h) (by rw [g2]; exact hkC) (by rw [g2]; exact va_assign hcls) rfl rfl hd fun H1 e1 z oq => ?_
          refine k (hup σ.1 a (.inr (kk, n, .inr (va_up f i.toNatClampNeg (some va)))), σ.2) rfl p e s m args below meth cd H1 _ arr r σ' X hz (RP.set (σ := σ) hR ha ?_ z oq) (hS.put z oq haz) hL hK
          show H1[a]? = some (vp_cell _ _)
          rw [e1]
          show some ((vp_cell (D.2 kk) (n, .inr (.inr (.inr (.inr f))))).setSlot _ _) = _
          rw [vp_cell_q, vp_cell_q, arrV_store]
          congr 2
          funext q
          by_cases hq : q = i.toNatClampNeg
          · subst hq
            simp [updV, va_up, va_rf]
          · simp [updV, va_up, hq]
      · exact V_none
    · exact V_none
end VARR
section VNEW
variable {α : Type} {D : DG} {z0 szE : Nat} {l : Launch} {own : String} {cc : ByteArray} {nL : Nat} {Ts : List Cond} {ret : Option FieldType} {rm : Room} {ct : Bool} {toV : α → Option Value} {pc : Nat} {ls : List (Option Value)} {st : List Value} {σ : SG} {cells slots : Nat}
/-- what is counted: cells by the heap's size, slots by 800 a cell at most -/
def CB (rm : Room) (szE : Nat) (σ : SG) (cells slots : Nat) : Prop := cells + szE = σ.2 ∧ slots ≤ 800 * cells ∧ rm.slots = 800 * rm.cells
theorem CB.go {σ1 : SG} (h : CB rm szE σ cells slots) (e : σ1.2 = σ.2) : CB rm szE σ1 cells slots := ⟨by rw [e]; exact h.1, h.2⟩
theorem V_new {ci idx : Nat} {C : String} {T : u_T} {N lim : Nat} {ty0 : Nat → FieldType} {fs : List Value} {K : Option Nat × SG → Option (α × SG)} (hB : CB rm szE σ cells slots) (hlim : lim = szE + rm.cells) (hc : vwCl[ci]? = some (C, T, N)) (hin : ∀ w ∈ u_ws C T N, w ∈ Ts) (hty : ∀ k, k < N → parseFieldDescriptor (T k).2.2.1 = some (ty0 k)) (hcl : Cond.classLink own idx C ∈ Ts) (hinst : Cond.instantiable C N ∈ Ts) (hini : Cond.initialized C ∈ Ts) (hfs : ∀ j, j < N → defaultValue (ty0 j) = vp_V fs j) (hN : N ≤ 800) (hd : decode cc pc = .ok (.new idx, 3))
    (k : ∀ (q : Option Nat) (σ1 : SG) (c1 s1 : Nat), CB rm szE σ1 c1 s1 → V D z0 l own cc nL Ts ret rm ct toV (pc + 3) ls (va_rf q :: st) σ1 c1 s1 (K (q, σ1))) : V D z0 l own cc nL Ts ret rm ct toV pc ls st σ cells slots ((sNew lim (.inl (ci, fs)) σ).bind K) := by
  unfold sNew
  split
  next hl =>
    intro p e s m args below meth cd H locs arr r σ' X hz hR hS hL hK
    obtain ⟨hx, hb, hml, hown, hts, hrt, hlk, hct, hE, hSF, hz0⟩ := id X
    have hKn := hE.1.1 ci _ hc
    obtain ⟨b1, b2, b3⟩ := hB
    refine W.newcK hx hb hown (hts _ hcl) (hts _ hinst) (hts _ hini) rfl hd (by omega) (by rw [b3]; omega) hKn.2.1 hR.1 fun H1 kC hkC e1 z1 o1 => ?_
    refine k (some σ.2) (hup σ.1 σ.2 (.inl (ci, fs)), σ.2 + 1) _ _ ⟨by show _ = σ.2 + 1; omega, by omega, b3⟩ p e s m args below meth cd H1 locs arr r σ' X (Nat.le_succ_of_le hz) (RP.new hR hz ⟨_, hc, (u_born ty0 hts hin hKn hkC e1 hty).to hfs⟩ z1 o1) ⟨Nat.le_trans hS.1 (by rw [hR.1, z1]; omega), fun x h1 h2 => (o1 x (by rw [← hR.1]; exact Nat.lt_of_lt_of_le h1 hS.1)).trans (hS.2.1 x h1 h2), hS.2.2⟩ hL hK
  · exact V_none
theorem V_newA {k0 : Nat} {at0 : ArrayType} {ty : FieldType} {n : Int32} {lim : Nat} {K : Option Nat × SG → Option (α × SG)} (hB : CB rm szE σ cells slots) (hlim : lim = szE + rm.cells) (hat : newarray.typeOf at0 = ty) (hdv : defaultValue ty = .int 0) (hcb : componentBytes ty ≤ 8) (hk0 : (tysD D)[k0]? = some (D.2 k0, ty)) (hra : ∀ s cA, va_RA s cA ty = (s.vm.findClass ("[" ++ ty.toString) = some cA)) (har : Cond.arrayClass (newarray.typeOf at0) ∈ Ts) (hd : decode cc pc = .ok (.newarray at0, 2))
    (k : ∀ (q : Option Nat) (σ1 : SG) (c1 s1 : Nat), CB rm szE σ1 c1 s1 → V D z0 l own cc nL Ts ret rm ct toV (pc + 2) ls (va_rf q :: st) σ1 c1 s1 (K (q, σ1))) : V D z0 l own cc nL Ts ret rm ct toV pc ls (.int n :: st) σ cells slots ((sNewA lim k0 n σ).bind K) := by
  unfold sNewA
  split
  · exact V_none
  next hn =>
    unfold sNew
    split
    next hl =>
      subst hat
      intro p e s m args below meth cd H locs arr r σ' X hz hR hS hL hK
      obtain ⟨hx, hb, hml, hown, hts, hrt, hlk, hct, hE, hSF, hz0⟩ := id X
      obtain ⟨b1, b2, b3⟩ := hB
      have n0 : ¬ n < 0 := fun q => hn (Or.inl q)
      have n8 : n.toNatClampNeg ≤ 800 := Nat.not_lt.mp fun q => hn (Or.inr q)
      refine va_newaK hx hb (hts _ har) rfl hd rfl n0 rfl (Nat.le_trans (Nat.mul_le_mul n8 hcb) (by decide)) (by omega) (by rw [b3]; omega) hR.1 fun H1 cA e1 z1 o1 hAr hNm => ?_
      have hcA : cA = D.2 k0 := by
        have h2 := (hE.1.2 k0 _ hk0).2
        rw [hra] at h2
        exact Option.some.inj (hNm.symm.trans h2)
      subst hcA
      refine k (some σ.2) (hup σ.1 σ.2 (.inr (k0, n.toNatClampNeg, .inl (fun _ => 0))), σ.2 + 1) _ _ ⟨by show _ = σ.2 + 1; omega, by omega, b3⟩ p e s m args below meth cd H1 locs arr r σ' X (Nat.le_succ_of_le hz) (RP.new hR hz ?_ z1 o1) ⟨Nat.le_trans hS.1 (by rw [hR.1, z1]; omega), fun x h1 h2 => (o1 x (by rw [← hR.1]; exact Nat.lt_of_lt_of_le h1 hS.1)).trans (hS.2.1 x h1 h2), hS.2.2⟩ hL hK
      show H1[σ.2]? = some (vp_cell _ _)
      rw [e1, vp_cell_i, hdv]
    · exact V_none
theorem V_newQ {k0 idx : Nat} {C : String} {n : Int32} {lim : Nat} {K : Option Nat × SG → Option (α × SG)} (hB : CB rm szE σ cells slots) (hlim : lim = szE + rm.cells) (hk0 : (tysD D)[k0]? = some (D.2 k0, .object C)) (hao : C ∈ aoL) (hcl : Cond.classLink own idx C ∈ Ts) (hd : decode cc pc = .ok (.anewarray idx, 3))
    (k : ∀ (q : Option Nat) (σ1 : SG) (c1 s1 : Nat), CB rm szE σ1 c1 s1 → V D z0 l own cc nL Ts ret rm ct toV (pc + 3) ls (va_rf q :: st) σ1 c1 s1 (K (q, σ1))) : V D z0 l own cc nL Ts ret rm ct toV pc ls (.int n :: st) σ cells slots ((sNewQ lim k0 n σ).bind K) := by
  unfold sNewQ
  split
  · exact V_none
  next hn =>
    unfold sNew
    split
    next hl =>
      intro p e s m args below meth cd H locs arr r σ' X hz hR hS hL hK
      obtain ⟨hx, hb, hml, hown, hts, hrt, hlk, hct, hE, hSF, hz0⟩ := id X
      obtain ⟨b1, b2, b3⟩ := hB
      have n0 : ¬ n < 0 := fun q => hn (Or.inl q)
      have n8 : n.toNatClampNeg ≤ 800 := Nat.not_lt.mp fun q => hn (Or.inr q)
      refine W.anew hx hb hown (hts _ hcl) (va_AO.use (hE.2.2 C hao)) rfl hd rfl n0 (by omega) (by omega) (by rw [b3]; omega) fun cA kA comp f1 f2 f3 f4 => ?_
      generalize hH1 : H.push ({ cls := cA, slots := Array.replicate n.toNatClampNeg .null, vm := .none } : Cell) = H1
      have z1 : H1.size = H.size + 1 := by rw [← hH1, Array.size_push]
      have e1 : H1[H.size]? = some (arrV cA n.toNatClampNeg (fun _ => .null)) := by rw [← hH1, Array.getElem?_push_size, ← arrV_new]
      have o1 : ∀ q : Nat, q < H.size → H1[q]? = H[q]? := fun q hq => by rw [← hH1, Array.getElem?_push, if_neg (Nat.ne_of_lt hq)]
      have hcA : cA = D.2 k0 := by
        obtain ⟨_, _, _, _, _, h4⟩ := (hE.1.2 k0 _ hk0).2
        exact Option.some.inj (f1.symm.trans h4)
      subst hcA
      rw [hR.1] at z1 e1 o1
      have hg := k (some σ.2) (hup σ.1 σ.2 (.inr (k0, n.toNatClampNeg, .inr (fun _ => none))), σ.2 + 1) (cells + 1) (slots + n.toNatClampNeg) ⟨by show _ = σ.2 + 1; omega, by omega, b3⟩ p e s m args below meth cd H1 locs arr r σ' X (Nat.le_succ_of_le hz) (RP.new hR hz ?_ z1 o1) ⟨Nat.le_trans hS.1 (by rw [hR.1, z1]; omega), fun x h1 h2 => (o1 x (by rw [← hR.1]; exact Nat.lt_of_lt_of_le h1 hS.1)).trans (hS.2.1 x h1 h2), hS.2.2⟩ hL hK
      · rw [hR.1]
        exact hg
      · show H1[σ.2]? = some (vp_cell _ _)
        rw [e1, vp_cell_q]
        rfl
    · exact V_none
theorem V_sld {i : Fin 4} {x : Int32} {idx : Nat} {n : String} {f : Int32 → Option Int32} {K : Int32 → Option (α × SG)} (hx4 : (n = "LEAST_SETTING" ∧ f = lstI) ∨ (n = "MOST_SETTING" ∧ f = mstI)) (hl : Cond.fieldLink own idx "MainsWords" n "[I" ∈ Ts) (hd0 : decode cc pc = .ok (.getstatic idx, 3)) (hd1 : decode cc (pc + 3) = .ok (.iload_n i, 1)) (hd2 : decode cc (pc + 4) = .ok (.iaload, 1)) (hlo : ls[(i : Nat)]? = some (some (.int x)))
    (k : ∀ v : Int32, V D z0 l own cc nL Ts ret rm ct toV (pc + 5) ls (.int v :: st) σ cells slots (K v)) : V D z0 l own cc nL Ts ret rm ct toV pc ls st σ cells slots ((f x).bind K) := by
  intro p e s m args below meth cd H locs arr r σ' X hz hR hS hL hK
  obtain ⟨hx, hb, hml, hown, hts, hrt, hlk, hct, hE, hSF, hz0⟩ := id X
  obtain ⟨t1, t2, z1, z2, T1, T2⟩ := hSF
  have key : ∀ v, f x = some v → vp_in x 4 ∧ ∃ t, va_Z "MainsWords" n "[I" (.ref t) (fun q => z0 ≤ q) s s.heap ∧ ∃ g, va_T .int t 4 g (fun q => z0 ≤ q) s s.heap ∧ g x.toNatClampNeg = .int v := by
    intro v hv
    rcases hx4 with ⟨rfl, rfl⟩ | ⟨rfl, rfl⟩
    · unfold lstI at hv
      split at hv
      next h => subst h; cases hv; exact ⟨by unfold vp_in; decide, t1, z1, _, T1, rfl⟩
      split at hv
      next h => subst h; cases hv; exact ⟨by unfold vp_in; decide, t1, z1, _, T1, rfl⟩
      split at hv
      next h => subst h; cases hv; exact ⟨by unfold vp_in; decide, t1, z1, _, T1, rfl⟩
      split at hv
      next h => subst h; cases hv; exact ⟨by unfold vp_in; decide, t1, z1, _, T1, rfl⟩
      cases hv
    · unfold mstI at hv
      split at hv
      next h => subst h; cases hv; exact ⟨by unfold vp_in; decide, t2, z2, _, T2, rfl⟩
      split at hv
      next h => subst h; cases hv; exact ⟨by unfold vp_in; decide, t2, z2, _, T2, rfl⟩
      split at hv
      next h => subst h; cases hv; exact ⟨by unfold vp_in; decide, t2, z2, _, T2, rfl⟩
      split at hv
      next h => subst h; cases hv; exact ⟨by unfold vp_in; decide, t2, z2, _, T2, rfl⟩
      cases hv
  cases hf : f x with
  | none => rw [hf] at hK; cases hK
  | some v =>
    rw [hf] at hK
    obtain ⟨hin, t, hZ, g, hT, hgv⟩ := key v hf
    refine va_gets hx hb hZ hS hown (hts _ hl) (fun _ h => h) hd0 ?_
    refine lv_iload_n hx hb hd1 rfl (hL.at hlo) ?_
    exact va_ti hx hb hT hS hin hgv hd2 (k v p e s m args below meth cd H locs arr r σ' X hz hR hS hL hK)
end VNEW
end
section
/-! THE V LAYER, fourth text: casts, switches, calls, ends -/
section VCALL
variable {α β : Type} {D : DG} {z0 szE : Nat} {l : Launch} {own : String} {cc : ByteArray} {nL : Nat} {Ts : List Cond} {ret : Option FieldType} {rm : Room} {ct : Bool} {toV : α → Option Value} {pc : Nat} {ls : List (Option Value)} {st : List Value} {σ : SG} {cells slots : Nat}
theorem RP.cls {H : Heap} {a ci : Nat} {fs : List Value} {q : vw_C} {s : State} (hR : RP D z0 σ H) (hE : EN D s) (hc : vwCl[ci]? = some q) (ha : σ.1 a = some (.inl (ci, fs))) : ∃ cell : Cell, H[a]? = some cell ∧ cell.vm.isStatics = false ∧ s.vm.findClass q.1 = some cell.cls := by
  obtain ⟨-, q', h1, cell, g1, g2, g3, -⟩ := hR.2 a _ ha
  exact ⟨cell, g1, by rw [g3]; rfl, by rw [g2]; exact (hE.1.1 ci q hc).2.1⟩
theorem V_instof {ci idx : Nat} {x : Option Nat} {q : vw_C} {K : Int32 → Option (α × SG)} (hc : vwCl[ci]? = some q) (hl : Cond.classLink own idx q.1 ∈ Ts) (hd : decode cc pc = .ok (.instanceof idx, 3))
    (k : ∀ v : Int32, V D z0 l own cc nL Ts ret rm ct toV (pc + 3) ls (.int v :: st) σ cells slots (K v)) : V D z0 l own cc nL Ts ret rm ct toV pc ls (va_rf x :: st) σ cells slots ((sInst x ci σ).bind K) := by
  cases x with
  | none => exact V.step (fun hx hb _ w => lv_instN hx hb hd w) (k 0)
  | some a0 =>
    show V D z0 l own cc nL Ts ret rm ct toV pc ls (va_rf (some a0) :: st) σ cells slots (((sObj (some a0) ci σ).bind fun _ => some 1).bind K)
    rw [Option.bind_assoc]
    refine V.sobj (σ := σ) (x := some a0) (ci := ci) (P := fun K => V D z0 l own cc nL Ts ret rm ct toV pc ls (va_rf (some a0) :: st) σ cells slots K) V_none (fun a fs hv ha => ?_)
    cases hv
    intro p e s m args below meth cd H locs arr r σ' X hz hR hS hL hK
    obtain ⟨hx, hb, hml, hown, hts, hrt, hlk, hct, hE, hSF, hz0⟩ := id X
    exact va_instS hx hb hown (hts _ hl) (hE.1.1 ci q hc).2 (hR.cls hE hc ha) hd (k 1 p e s m args below meth cd H locs arr r σ' X hz hR hS hL hK)
theorem V_cast {ci idx : Nat} {x : Option Nat} {q : vw_C} {K : Unit → Option (α × SG)} (hc : vwCl[ci]? = some q) (hl : Cond.classLink own idx q.1 ∈ Ts) (hd : decode cc pc = .ok (.checkcast idx, 3))
    (k : V D z0 l own cc nL Ts ret rm ct toV (pc + 3) ls (va_rf x :: st) σ cells slots (K ())) : V D z0 l own cc nL Ts ret rm ct toV pc ls (va_rf x :: st) σ cells slots ((sCast x ci σ).bind K) := by
  cases x with
  | none => exact V.step (fun hx hb _ w => lv_castN hx hb hd w) k
  | some a0 =>
    show V D z0 l own cc nL Ts ret rm ct toV pc ls (va_rf (some a0) :: st) σ cells slots ((sObj (some a0) ci σ).bind K)
    refine V.sobj (σ := σ) (x := some a0) (ci := ci) (P := fun K => V D z0 l own cc nL Ts ret rm ct toV pc ls (va_rf (some a0) :: st) σ cells slots K) V_none (fun a fs hv ha => ?_)
    cases hv
    intro p e s m args below meth cd H locs arr r σ' X hz hR hS hL hK
    obtain ⟨hx, hb, hml, hown, hts, hrt, hlk, hct, hE, hSF, hz0⟩ := id X
    exact va_castS hx hb hown (hts _ hl) (hE.1.1 ci q hc).2 (hR.cls hE hc ha) hd (k p e s m args below meth cd H locs arr r σ' X hz hR hS hL hK)
/-! switches -/
def tbOk (pc : Nat) (lo hi : Int) (offs : Array Int) (tb : List (Int32 × Nat)) : Bool :=
  decide ((tb.length : Int) = hi - lo + 1) && (List.range tb.length).all (fun i => match tb[i]? with
    | some q => decide (q.1.toInt = lo + (i : Int)) && decide (offs[i]? = some ((q.2 : Int) - (pc : Int)))
    | none => false)
theorem tbOk_spec {pc : Nat} {lo hi : Int} {offs : Array Int} {tb : List (Int32 × Nat)} (h : tbOk pc lo hi offs tb = true) : (tb.length : Int) = hi - lo + 1 ∧ ∀ (i : Nat) (q : Int32 × Nat), tb[i]? = some q → q.1.toInt = lo + (i : Int) ∧ offs[i]? = some ((q.2 : Int) - (pc : Int)) := by
  simp only [tbOk, Bool.and_eq_true, decide_eq_true_eq] at h
  refine ⟨h.1, fun i q hq => ?_⟩
  have h2 := List.all_eq_true.mp h.2 i (List.mem_range.mpr (List.getElem?_eq_some_iff.mp hq).1)
  rw [hq] at h2
  simpa using h2
theorem swK_in {x : Int32} {ks : List (Int32 × Option β)} {d : Option β} {P : Option β → Prop} (h : ∀ q ∈ ks, x = q.1 → P q.2) (hd : (∀ q ∈ ks, ¬ x = q.1) → P d) : P (swK x ks d) := by
  induction ks with
  | nil => exact hd (fun q hq => by cases hq)
  | cons q r ih =>
    unfold swK
    split
    next hx => exact h q List.mem_cons_self hx
    next hx =>
      refine ih (fun q' hq' => h q' (List.mem_cons_of_mem _ hq')) (fun h2 => hd (fun q' hq' => ?_))
      rcases List.mem_cons.mp hq' with rfl | hq'
      · exact hx
      · exact h2 q' hq'
/-- tb: the values and where each goes; ks: what K is at each -/
theorem V_table {dflt lo hi : Int} {offs : Array Int} {len tgt : Nat} {x : Int32} {tb : List (Int32 × Nat)} {ks : List (Int32 × Option (α × SG))} {Kd : Option (α × SG)} (hd : decode cc pc = .ok (.tableswitch dflt lo hi offs, len)) (hok : tbOk pc lo hi offs tb = true) (hks : ks.map Prod.fst = tb.map Prod.fst) (ht : (pc : Int) + dflt = (tgt : Int))
    (k : ∀ q ∈ List.zip tb ks, V D z0 l own cc nL Ts ret rm ct toV q.1.2 ls st σ cells slots q.2.2) (kd : V D z0 l own cc nL Ts ret rm ct toV tgt ls st σ cells slots Kd) : V D z0 l own cc nL Ts ret rm ct toV pc ls (.int x :: st) σ cells slots (swK x ks Kd) := by
  obtain ⟨hlen, hat⟩ := tbOk_spec hok
  have hl2 : ks.length = tb.length := by rw [← List.length_map (f := Prod.fst), hks, List.length_map]
  refine swK_in (P := fun K => V D z0 l own cc nL Ts ret rm ct toV pc ls (.int x :: st) σ cells slots K) (fun q hq hx => ?_) (fun hno => ?_)
  · obtain ⟨i, hi⟩ := List.getElem?_of_mem hq
    have hil : i < tb.length := by rw [← hl2]; exact (List.getElem?_eq_some_iff.mp hi).1
    obtain ⟨t, ht1⟩ : ∃ t, tb[i]? = some t := ⟨tb[i], List.getElem?_eq_getElem hil⟩
    have hqt : q.1 = t.1 := by
      have e1 : (ks.map Prod.fst)[i]? = some q.1 := by rw [List.getElem?_map, hi]; rfl
      rw [hks, List.getElem?_map, ht1] at e1
      exact (Option.some.inj e1).symm
    obtain ⟨g1, g2⟩ := hat i t ht1
    have hmem : (t, q) ∈ List.zip tb ks := List.mem_of_getElem? (i := i) (by rw [List.getElem?_zip_eq_some]; exact ⟨ht1, hi⟩)
    have hxi : x.toInt = lo + (i : Int) := by rw [hx, hqt]; exact g1
    refine V.step (fun hx hb _ w => lv_tableIn (off := (t.2 : Int) - (pc : Int)) hx hb hd (by omega) (by omega) ?_ (by show (pc : Int) + ((t.2 : Int) - (pc : Int)) = (t.2 : Int); omega) w) (k _ hmem)
    rw [show (x.toInt - lo).toNat = i by omega]
    exact g2
  · refine V.step (fun hx hb _ w => lv_tableOut hx hb hd ?_ ht w) kd
    by_cases h1 : x.toInt < lo
    · exact Or.inl h1
    by_cases h2 : hi < x.toInt
    · exact Or.inr h2
    exfalso
    have hil : (x.toInt - lo).toNat < tb.length := by omega
    have ht1 : tb[(x.toInt - lo).toNat]? = some tb[(x.toInt - lo).toNat] := List.getElem?_eq_getElem hil
    obtain ⟨g1, -⟩ := hat _ _ ht1
    have hk1 : (x.toInt - lo).toNat < ks.length := by rw [hl2]; exact hil
    have hki : ks[(x.toInt - lo).toNat]? = some ks[(x.toInt - lo).toNat] := List.getElem?_eq_getElem hk1
    have hqt : ks[(x.toInt - lo).toNat].1 = tb[(x.toInt - lo).toNat].1 := by
      have e1 : (ks.map Prod.fst)[(x.toInt - lo).toNat]? = some ks[(x.toInt - lo).toNat].1 := by rw [List.getElem?_map, hki]; rfl
      rw [hks, List.getElem?_map, ht1] at e1
      exact (Option.some.inj e1).symm
    refine hno _ (List.mem_of_getElem? hki) ?_
    rw [hqt]
    exact Int32.toInt_inj.mp (by omega)
theorem V_lookup {dflt : Int} {ps : Array (Int × Int)} {len tgt : Nat} {x : Int32} {tb : List (Int32 × Nat)} {ks : List (Int32 × Option (α × SG))} {Kd : Option (α × SG)} (hd : decode cc pc = .ok (.lookupswitch dflt ps, len)) (hp : (ps.toList.zip (ps.toList.drop 1)).all (fun (a, next) => a.1 < next.1) = true) (hps : ps.toList = tb.map (fun q => (q.1.toInt, (q.2 : Int) - (pc : Int)))) (hks : ks.map Prod.fst = tb.map Prod.fst) (ht : (pc : Int) + dflt = (tgt : Int))
    (hin : ∀ q ∈ tb, Op.lookupswitch.offset ps.toList dflt q.1.toInt = (q.2 : Int) - (pc : Int)) (hout : (∀ q ∈ tb, ¬ x = q.1) → Op.lookupswitch.offset ps.toList dflt x.toInt = dflt)
    (k : ∀ q ∈ List.zip tb ks, V D z0 l own cc nL Ts ret rm ct toV q.1.2 ls st σ cells slots q.2.2) (kd : V D z0 l own cc nL Ts ret rm ct toV tgt ls st σ cells slots Kd) : V D z0 l own cc nL Ts ret rm ct toV pc ls (.int x :: st) σ cells slots (swK x ks Kd) := by
  have hl2 : ks.length = tb.length := by rw [← List.length_map (f := Prod.fst), hks, List.length_map]
  refine swK_in (P := fun K => V D z0 l own cc nL Ts ret rm ct toV pc ls (.int x :: st) σ cells slots K) (fun q hq hx => ?_) (fun hno => ?_)
  · obtain ⟨i, hi⟩ := List.getElem?_of_mem hq
    have hil : i < tb.length := by rw [← hl2]; exact (List.getElem?_eq_some_iff.mp hi).1
    obtain ⟨t, ht1⟩ : ∃ t, tb[i]? = some t := ⟨tb[i], List.getElem?_eq_getElem hil⟩
    have hqt : q.1 = t.1 := by
      have e1 : (ks.map Prod.fst)[i]? = some q.1 := by rw [List.getElem?_map, hi]; rfl
      rw [hks, List.getElem?_map, ht1] at e1
      exact (Option.some.inj e1).symm
    have hmem : (t, q) ∈ List.zip tb ks := List.mem_of_getElem? (i := i) (by rw [List.getElem?_zip_eq_some]; exact ⟨ht1, hi⟩)
    exact V.step (fun hx' hb _ w => lv_lookup (off := (t.2 : Int) - (pc : Int)) hx' hb hd hp (by rw [hx, hqt]; exact hin t (List.mem_of_getElem? ht1)) (by show (pc : Int) + ((t.2 : Int) - (pc : Int)) = (t.2 : Int); omega) w) (k _ hmem)
  · refine V.step (fun hx' hb _ w => lv_lookup (off := dflt) hx' hb hd hp (hout (fun q hq => ?_)) ht w) kd
    obtain ⟨i, hi⟩ := List.getElem?_of_mem hq
    have hil : i < ks.length := by rw [hl2]; exact (List.getElem?_eq_some_iff.mp hi).1
    have hki : ks[i]? = some ks[i] := List.getElem?_eq_getElem hil
    have hqt : ks[i].1 = q.1 := by
      have e1 : (ks.map Prod.fst)[i]? = some ks[i].1 := by rw [List.getElem?_map, hki]; rfl
      rw [hks, List.getElem?_map, hi] at e1
      exact (Option.some.inj e1).symm
    rw [← hqt]
    exact hno _ (List.mem_of_getElem? hki)
/-! calls -/
theorem V.call {toV' : β → Option Value} {F : Option (β × SG)} {K : β × SG → Option (α × SG)} {st0 stI : List Value} {c1 s1 : Nat}
    (hrun : ∀ {p : Program} {e : Env} {s : State} {m : MethodId} {args : Array Value} {below : List Frame} {meth : Method} {c : Code} {H : Heap} {locs : List Loc} {arr : Array Slot} (r' : β) (σ1 : SG), VC D z0 own cc nL Ts ret ct p s m args meth c → z0 ≤ σ.2 → RP D z0 σ H → va_S (fun q => z0 ≤ q) s.heap H locs → LV arr nL ls → F = some (r', σ1) → ∃ a, va_Run p l e rm s m args below meth c H locs cells slots c1 s1 (F0 m pc arr stI) st0 (QC D z0 (toV' r') σ1 a) (fun q => z0 ≤ q))
    (k : ∀ (r' : β) (σ1 : SG), F = some (r', σ1) → V D z0 l own cc nL Ts ret rm ct toV (pc + 3) ls ((toV' r').toList ++ st0) σ1 (cells + c1) (slots + s1) (K (r', σ1))) : V D z0 l own cc nL Ts ret rm ct toV pc ls stI σ cells slots (F.bind K) := by
  intro p e s m args below meth c H locs arr r σ' X hz hR hS hL hK
  cases hF : F with
  | none => rw [hF] at hK; cases hK
  | some q =>
    obtain ⟨r', σ1⟩ := q
    rw [hF] at hK
    obtain ⟨a, hr⟩ := hrun r' σ1 X hz hR hS hL hF
    intro T hT XT
    obtain ⟨v, st₀, t, T', L, h0, X', hLo, e1, e2, ⟨hv, hz1, hR1, hF1⟩, stp⟩ := hr T hT XT
    cases hv
    rw [← e1] at hR1
    have hF2 : H.size ≤ T'.heap.size ∧ ∀ q : Nat, q < H.size → ¬ z0 ≤ q → T'.heap[q]? = H[q]? := by
      rw [← h0, e1]; exact hF1
    have hS1 : va_S (fun q => z0 ≤ q) s.heap T'.heap (locs ++ L) := ⟨Nat.le_trans hS.1 hF2.1, fun q h1 h2 => by rw [hF2.2 q (Nat.lt_of_lt_of_le h1 hS.1) h2]; exact hS.2.1 q h1 h2, fun q hq => by
      rcases List.mem_append.mp hq with h | h
      · exact hS.2.2 q h
      · exact hLo q h⟩
    obtain ⟨t2, a1, b1⟩ := k r' σ1 hF p e s m args below meth c T'.heap (locs ++ L) arr r σ' X hz1 hR1 hS1 hL hK T' rfl X'
    exact ⟨t2, stp t2 a1, b1⟩
theorem PC.at {s : State} {H : Heap} {locs : List Loc} {av : List Value} (hz : z0 ≤ σ.2) (hR : RP D z0 σ H) (hE : EN D s) (hSF : SF z0 s s.heap) (hS : va_S (fun q => z0 ≤ q) s.heap H locs) : ∀ U : State, U.heap = H → s.WarmedH U.vm → PC D z0 av σ av.toArray U := by
  intro U hU hW
  refine ⟨rfl, hz, by rw [hU]; exact hR, hE.warm hW, ?_⟩
  rw [hU]
  exact (hSF.kept hS.2.1).moved hW.alike
theorem V_callV {toV' : β → Option Value} {y : MethodName} {ws ws' : List Cond} {rm' : Room} {bytes : ByteArray} {maxL idx n ci : Nat} {ret' : Option FieldType} {q : vw_C} {C : String} {x : Option Nat} {As st0 stI : List Value} {F : Option (β × SG)} {K : β × SG → Option (α × SG)}
    (hM : ∀ a, x = some a → MT D z0 l y ws rm' toV' (.ref a :: As) σ F) (hc : vwCl[ci]? = some q) (hC : q.1 = C) (hst : stI = As.reverse ++ va_rf x :: st0) (hsum : (st0.map fun v => v.category).sum ≤ 8) (hn : As.length = n)
    (hcw : ∀ (s : State) (args : Array Value), (∀ w ∈ Ts, w.before args s = true) → CallW rm s args own C idx y bytes maxL ret' ws rm' rm'.cells rm'.slots n) (hf : cells + rm'.cells ≤ rm.cells ∧ slots + rm'.slots ≤ rm.slots)
    (hd : decode cc pc = .ok (.invokevirtual idx, 3))
    (k : ∀ (r' : β) (σ1 : SG), F = some (r', σ1) → V D z0 l own cc nL Ts ret rm ct toV (pc + 3) ls ((toV' r').toList ++ st0) σ1 (cells + rm'.cells) (slots + rm'.slots) (K (r', σ1))) : V D z0 l own cc nL Ts ret rm ct toV pc ls stI σ cells slots ((sObj x ci σ).bind fun _ => F.bind K) := by
  refine V.sobj (σ := σ) (x := x) (ci := ci) (P := fun K => V D z0 l own cc nL Ts ret rm ct toV pc ls stI σ cells slots K) V_none (fun a fs hv ha => ?_)
  subst hv; subst hC; subst hst
  refine V.call (fun {p e s m args below meth c H locs arr} r' σ1 X hz hR hS hL hF => ?_) k
  obtain ⟨hx, hb, hml, hown, hts, hrt, hlk, hct, hE, hSF, hz0⟩ := id X
  exact ⟨_, va_runV (b := a) (As := As) (rest := st0) ⟨hx, hb, hml, hown, hts⟩ (hM a rfl r' σ1 hF) (hcw s args hts) ⟨PC.blind, hR.cls hE hc ha, PC.at hz hR hE hSF hS⟩ rfl hn hL.1.1 rfl (lv_room hsum) hd hf⟩
theorem V_callU {toV' : β → Option Value} {xm y : MethodName} {ws ws' : List Cond} {rm' : Room} {bytes : ByteArray} {maxL idx n ci : Nat} {ret' : Option FieldType} {q : vw_C} {C owner : String} {x : Option Nat} {As st0 stI : List Value} {F : Option (β × SG)} {K : β × SG → Option (α × SG)}
    (hM : ∀ a, x = some a → MT D z0 l y ws rm' toV' (.ref a :: As) σ F) (hc : vwCl[ci]? = some q) (hC : q.1 = C) (hst : stI = As.reverse ++ va_rf x :: st0) (hsum : (st0.map fun v => v.category).sum ≤ 8) (hn : As.length = n)
    (hcw : ∀ (s : State) (args : Array Value), (∀ w ∈ Ts, w.before args s = true) → va_CU rm s args own C owner idx xm y bytes maxL ret' ws rm' rm'.cells rm'.slots n) (hf : cells + rm'.cells ≤ rm.cells ∧ slots + rm'.slots ≤ rm.slots)
    (hd : decode cc pc = .ok (.invokevirtual idx, 3))
    (k : ∀ (r' : β) (σ1 : SG), F = some (r', σ1) → V D z0 l own cc nL Ts ret rm ct toV (pc + 3) ls ((toV' r').toList ++ st0) σ1 (cells + rm'.cells) (slots + rm'.slots) (K (r', σ1))) : V D z0 l own cc nL Ts ret rm ct toV pc ls stI σ cells slots ((sObj x ci σ).bind fun _ => F.bind K) := by
  refine V.sobj (σ := σ) (x := x) (ci := ci) (P := fun K => V D z0 l own cc nL Ts ret rm ct toV pc ls stI σ cells slots K) V_none (fun a fs hv ha => ?_)
  subst hv; subst hC; subst hst
  refine V.call (fun {p e s m args below meth c H locs arr} r' σ1 X hz hR hS hL hF => ?_) k
  obtain ⟨hx, hb, hml, hown, hts, hrt, hlk, hct, hE, hSF, hz0⟩ := id X
  exact ⟨_, va_runU (b := a) (As := As) (rest := st0) ⟨hx, hb, hml, hown, hts⟩ (hM a rfl r' σ1 hF) (hcw s args hts) ⟨PC.blind, hR.cls hE hc ha, PC.at hz hR hE hSF hS⟩ rfl hn hL.1.1 rfl (lv_room hsum) hd hf⟩
theorem V_callS {toV' : β → Option Value} {y : MethodName} {ws ws' : List Cond} {rm' : Room} {bytes : ByteArray} {maxL idx n : Nat} {ret' : Option FieldType} {As st0 stI : List Value} {F : Option (β × SG)} {K : β × SG → Option (α × SG)}
    (hM : MT D z0 l y ws rm' toV' As σ F) (hst : stI = As.reverse ++ st0) (hsum : (st0.map fun v => v.category).sum ≤ 8) (hn : As.length = n)
    (hcw : ∀ (s : State) (args : Array Value), (∀ w ∈ Ts, w.before args s = true) → CallB rm s args own idx y bytes maxL ret' ws rm' rm'.cells rm'.slots n ∧ (Cond.static y).before args s = true) (hf : cells + rm'.cells ≤ rm.cells ∧ slots + rm'.slots ≤ rm.slots)
    (hd : decode cc pc = .ok (.invokestatic idx, 3))
    (k : ∀ (r' : β) (σ1 : SG), F = some (r', σ1) → V D z0 l own cc nL Ts ret rm ct toV (pc + 3) ls ((toV' r').toList ++ st0) σ1 (cells + rm'.cells) (slots + rm'.slots) (K (r', σ1))) : V D z0 l own cc nL Ts ret rm ct toV pc ls stI σ cells slots (F.bind K) := by
  subst hst
  refine V.call (fun {p e s m args below meth c H locs arr} r' σ1 X hz hR hS hL hF => ?_) k
  obtain ⟨hx, hb, hml, hown, hts, hrt, hlk, hct, hE, hSF, hz0⟩ := id X
  exact ⟨_, va_runS (As := As) (rest := st0) ⟨hx, hb, hml, hown, hts⟩ (hM r' σ1 hF) (hcw s args hts) ⟨PC.blind, PC.at hz hR hE hSF hS⟩ rfl hn hL.1.1 rfl (lv_room hsum) hd hf⟩
theorem V_callSN {toV' : β → Option Value} {y : MethodName} {host : String} {ws ws' : List Cond} {rm' : Room} {bytes : ByteArray} {maxL idx n : Nat} {ret' : Option FieldType} {As st0 stI : List Value} {F : Option (β × SG)} {K : β × SG → Option (α × SG)}
    (hM : MT D z0 l y ws rm' toV' As σ F) (hst : stI = As.reverse ++ st0) (hsum : (st0.map fun v => v.category).sum ≤ 8) (hn : As.length = n) (hnest : (own, idx, y, host) ∈ nestL)
    (hcw : ∀ (s : State) (args : Array Value), (∀ w ∈ Ts, w.before args s = true) → va_Nw (.methodLinkNest own idx y host) s → va_CN rm s args own idx y host bytes maxL ret' ws rm' rm'.cells rm'.slots n ∧ (Cond.static y).before args s = true ∧ True) (hf : cells + rm'.cells ≤ rm.cells ∧ slots + rm'.slots ≤ rm.slots)
    (hd : decode cc pc = .ok (.invokestatic idx, 3))
    (k : ∀ (r' : β) (σ1 : SG), F = some (r', σ1) → V D z0 l own cc nL Ts ret rm ct toV (pc + 3) ls ((toV' r').toList ++ st0) σ1 (cells + rm'.cells) (slots + rm'.slots) (K (r', σ1))) : V D z0 l own cc nL Ts ret rm ct toV pc ls stI σ cells slots (F.bind K) := by
  subst hst
  refine V.call (fun {p e s m args below meth c H locs arr} r' σ1 X hz hR hS hL hF => ?_) k
  obtain ⟨hx, hb, hml, hown, hts, hrt, hlk, hct, hE, hSF, hz0⟩ := id X
  exact ⟨_, va_runSN (As := As) (rest := st0) ⟨hx, hb, hml, hown, hts⟩ (hM r' σ1 hF) (hcw s args hts (hE.2.1 _ hnest)) ⟨PC.blind, PC.at hz hR hE hSF hS⟩ rfl hn hL.1.1 rfl (lv_room hsum) hd hf⟩
theorem V_callI {toV' : β → Option Value} {y : MethodName} {ws ws' : List Cond} {rm' : Room} {bytes : ByteArray} {maxL idx n ci : Nat} {x : Option Nat} {As st0 stI : List Value} {F : Option (β × SG)} {K : β × SG → Option (α × SG)}
    (hM : ∀ a, x = some a → MT D z0 l y ws rm' toV' (.ref a :: As) σ F) (hst : stI = As.reverse ++ va_rf x :: st0) (hsum : (st0.map fun v => v.category).sum ≤ 8) (hn : As.length = n)
    (hcw : ∀ (s : State) (args : Array Value), (∀ w ∈ Ts, w.before args s = true) → CallB rm s args own idx y bytes maxL none ws rm' rm'.cells rm'.slots n ∧ y.name = "<init>" ∧ (Cond.instanceMethod y).before args s = true) (hf : cells + rm'.cells ≤ rm.cells ∧ slots + rm'.slots ≤ rm.slots)
    (hd : decode cc pc = .ok (.invokespecial idx, 3))
    (k : ∀ (r' : β) (σ1 : SG), F = some (r', σ1) → V D z0 l own cc nL Ts ret rm ct toV (pc + 3) ls ((toV' r').toList ++ st0) σ1 (cells + rm'.cells) (slots + rm'.slots) (K (r', σ1))) : V D z0 l own cc nL Ts ret rm ct toV pc ls stI σ cells slots ((sObj x ci σ).bind fun _ => F.bind K) := by
  refine V.sobj (σ := σ) (x := x) (ci := ci) (P := fun K => V D z0 l own cc nL Ts ret rm ct toV pc ls stI σ cells slots K) V_none (fun a fs hv ha => ?_)
  subst hv; subst hst
  refine V.call (fun {p e s m args below meth c H locs arr} r' σ1 X hz hR hS hL hF => ?_) k
  obtain ⟨hx, hb, hml, hown, hts, hrt, hlk, hct, hE, hSF, hz0⟩ := id X
  exact ⟨_, va_runI (b := a) (As := As) (rest := st0) ⟨hx, hb, hml, hown, hts⟩ (hM a rfl r' σ1 hF) (hcw s args hts) ⟨PC.blind, PC.at hz hR hE hSF hS⟩ rfl hn hL.1.1 rfl (lv_room hsum) hd hf⟩
theorem V_callIN {toV' : β → Option Value} {y : MethodName} {host : String} {ws ws' : List Cond} {rm' : Room} {bytes : ByteArray} {maxL idx n ci : Nat} {x : Option Nat} {As st0 stI : List Value} {F : Option (β × SG)} {K : β × SG → Option (α × SG)}
    (hM : ∀ a, x = some a → MT D z0 l y ws rm' toV' (.ref a :: As) σ F) (hst : stI = As.reverse ++ va_rf x :: st0) (hsum : (st0.map fun v => v.category).sum ≤ 8) (hn : As.length = n) (hnest : (own, idx, y, host) ∈ nestL)
    (hcw : ∀ (s : State) (args : Array Value), (∀ w ∈ Ts, w.before args s = true) → va_Nw (.methodLinkNest own idx y host) s → va_CN rm s args own idx y host bytes maxL none ws rm' rm'.cells rm'.slots n ∧ y.name = "<init>" ∧ (Cond.instanceMethod y).before args s = true) (hf : cells + rm'.cells ≤ rm.cells ∧ slots + rm'.slots ≤ rm.slots)
    (hd : decode cc pc = .ok (.invokespecial idx, 3))
    (k : ∀ (r' : β) (σ1 : SG), F = some (r', σ1) → V D z0 l own cc nL Ts ret rm ct toV (pc + 3) ls ((toV' r').toList ++ st0) σ1 (cells + rm'.cells) (slots + rm'.slots) (K (r', σ1))) : V D z0 l own cc nL Ts ret rm ct toV pc ls stI σ cells slots ((sObj x ci σ).bind fun _ => F.bind K) := by
  refine V.sobj (σ := σ) (x := x) (ci := ci) (P := fun K => V D z0 l own cc nL Ts ret rm ct toV pc ls stI σ cells slots K) V_none (fun a fs hv ha => ?_)
  subst hv; subst hst
  refine V.call (fun {p e s m args below meth c H locs arr} r' σ1 X hz hR hS hL hF => ?_) k
  obtain ⟨hx, hb, hml, hown, hts, hrt, hlk, hct, hE, hSF, hz0⟩ := id X
  exact ⟨_, va_runIN (b := a) (As := As) (rest := st0) ⟨hx, hb, hml, hown, hts⟩ (hM a rfl r' σ1 hF) (hcw s args hts (hE.2.1 _ hnest)) ⟨PC.blind, PC.at hz hR hE hSF hS⟩ rfl hn hL.1.1 rfl (lv_room hsum) hd hf⟩
theorem V_objinit {idx a : Nat} {st0 : List Value} {K : Option (α × SG)} (hlink : Cond.methodLink own idx Lib.objectInit ∈ Ts) (hinst : Cond.instanceMethod Lib.objectInit ∈ Ts) (hcode : Cond.code Lib.objectInit ⟨#[0xb1]⟩ 1 none ∈ Ts) (hfr : 1 ≤ rm.frames) (hlo : (st0.map fun v => v.category).sum + 12 ≤ rm.locals) (hd : decode cc pc = .ok (.invokespecial idx, 3))
    (k : V D z0 l own cc nL Ts ret rm ct toV (pc + 3) ls st0 σ cells slots K) : V D z0 l own cc nL Ts ret rm ct toV pc ls (va_rf (some a) :: st0) σ cells slots K := by
  intro p e s m args below meth cd H locs arr r σ' X hz hR hS hL hK
  obtain ⟨hx, hb, hml, hown, hts, hrt, hlk, hct, hE, hSF, hz0⟩ := id X
  refine W.objInit hx hb hown (hts _ hlink) (hts _ hinst) (hts _ hcode) rfl (by rw [hml]; exact hL.1.1) rfl hd hfr ?_ (k p e s m args below meth cd H locs arr r σ' X hz hR hS hL hK)
  have h0 : (F0 m pc arr (va_rf (some a) :: st0)).monitorRoom = 0 := rfl
  omega
/-! ends -/
theorem V_iret {v : Int32} {toV : Int32 → Option Value} (htv : ∀ x, toV x = some (.int x)) (hret : ret = some .int) (h1 : cells ≤ rm.cells) (h2 : slots ≤ rm.slots) (hd : decode cc pc = .ok (.ireturn, 1)) : V D z0 l own cc nL Ts ret rm ct toV pc ls [.int v] σ cells slots (some (v, σ)) := by
  intro p e s m args below meth cd H locs arr r σ' X hz hR hS hL hK
  cases hK
  obtain ⟨hx, hb, hml, hown, hts, hrt, hlk, hct, hE, hSF, hz0⟩ := id X
  refine W.widen h1 h2 ?_
  exact W.iret (v := v) hx hb (hrt.trans hret) (fun t ht hW => ⟨by rw [htv], hz, by rw [ht]; exact hR, hS.F ht⟩) hS.2.2 hd hlk
theorem V_zret {v : Int32} {toV : Int32 → Option Value} (htv : ∀ x, toV x = some (.int x)) (hret : ret = some .boolean) (h1 : cells ≤ rm.cells) (h2 : slots ≤ rm.slots) (hd : decode cc pc = .ok (.ireturn, 1)) : V D z0 l own cc nL Ts ret rm ct toV pc ls [.int v] σ cells slots (chkZ v σ) := by
  unfold chkZ
  split
  next h =>
    intro p e s m args below meth cd H locs arr r σ' X hz hR hS hL hK
    cases hK
    obtain ⟨hx, hb, hml, hown, hts, hrt, hlk, hct, hE, hSF, hz0⟩ := id X
    refine W.widen h1 h2 ?_
    refine W.zret (v := v) (ty := .boolean) hx hb (hrt.trans hret) ?_ (fun t ht hW => ⟨by rw [htv], hz, by rw [ht]; exact hR, hS.F ht⟩) hS.2.2 hd hlk
    rcases h with rfl | rfl <;> rfl
  · exact V_none
theorem V_aret {x : Option Nat} {rt : FieldType} {toV : Option Nat → Option Value} (htv : ∀ x, toV x = some (va_rf x)) (hret : ret = some rt) (hrt2 : (∃ n, rt = .object n) ∨ ∃ t, rt = .array t) (h1 : cells ≤ rm.cells) (h2 : slots ≤ rm.slots) (hd : decode cc pc = .ok (.areturn, 1)) : V D z0 l own cc nL Ts ret rm ct toV pc ls [va_rf x] σ cells slots (some (x, σ)) := by
  intro p e s m args below meth cd H locs arr r σ' X hz hR hS hL hK
  cases hK
  obtain ⟨hx, hb, hml, hown, hts, hrt, hlk, hct, hE, hSF, hz0⟩ := id X
  refine W.widen h1 h2 ?_
  exact W.aret (v := va_rf x) hx hb (hrt.trans hret) hrt2 (by cases x with | none => exact Or.inl rfl | some a => exact Or.inr ⟨a, rfl⟩) (fun t ht hW => ⟨by rw [htv], hz, by rw [ht]; exact hR, hS.F ht⟩) hS.2.2 hd hlk
theorem V_fret {v : UInt32} {toV : UInt32 → Option Value} (htv : ∀ x, toV x = some (.float x)) (hret : ret = some .float) (h1 : cells ≤ rm.cells) (h2 : slots ≤ rm.slots) (hd : decode cc pc = .ok (.freturn, 1)) : V D z0 l own cc nL Ts ret rm ct toV pc ls [.float v] σ cells slots (some (v, σ)) := by
  intro p e s m args below meth cd H locs arr r σ' X hz hR hS hL hK
  cases hK
  obtain ⟨hx, hb, hml, hown, hts, hrt, hlk, hct, hE, hSF, hz0⟩ := id X
  refine W.widen h1 h2 ?_
  exact W.fret (v := v) hx hb (hrt.trans hret) (fun t ht hW => ⟨by rw [htv], hz, by rw [ht]; exact hR, hS.F ht⟩) hS.2.2 hd hlk
theorem V_vret {toV : Unit → Option Value} (htv : ∀ x, toV x = none) (hret : ret = none) (h1 : cells ≤ rm.cells) (h2 : slots ≤ rm.slots) (hd : decode cc pc = .ok (.return_, 1)) : V D z0 l own cc nL Ts ret rm ct toV pc ls [] σ cells slots (some ((), σ)) := by
  intro p e s m args below meth cd H locs arr r σ' X hz hR hS hL hK
  cases hK
  obtain ⟨hx, hb, hml, hown, hts, hrt, hlk, hct, hE, hSF, hz0⟩ := id X
  refine W.widen h1 h2 ?_
  exact W.vret hx hb (hrt.trans hret) (fun t ht hW => ⟨by rw [htv], hz, by rw [ht]; exact hR, hS.F ht⟩) hS.2.2 hd hlk
/-- the end of a method that makes cells -/
theorem V_vretA {lim : Nat} {toV : Unit → Option Value} (hB : CB rm szE σ cells slots) (hlim : lim = szE + rm.cells) (htv : ∀ x, toV x = none) (hret : ret = none) (hd : decode cc pc = .ok (.return_, 1)) : V D z0 l own cc nL Ts ret rm ct toV pc ls [] σ cells slots (sEnd lim σ) := by
  unfold sEnd
  obtain ⟨b1, b2, b3⟩ := hB
  split
  next h => exact V_vret htv hret (by omega) (by rw [b3]; omega) hd
  · exact V_none
end VCALL
end
