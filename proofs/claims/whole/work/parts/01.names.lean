theorem goodIn_r {big : List Cond} (ws : List Cond) (ps : List Nat) (hp : ws = ps.filterMap (fun i => big[i]?)) (h : ws.all goodWord = true) : GoodIn big ws := by
  intro w hw
  have h1 := List.all_eq_true.mp h w hw
  rw [hp] at hw
  obtain ⟨i, -, hi⟩ := List.mem_filterMap.mp hw
  have hm : w ∈ big := by first | exact List.mem_of_getElem? hi | exact List.getElem?_mem hi
  exact ⟨hm, good_of_word h1⟩
theorem goodIn_app {big a b : List Cond} (ha : GoodIn big a) (hb : GoodIn big b) : GoodIn big (a ++ b) := fun w h => (List.mem_append.mp h).elim (ha w) (hb w)
theorem goodIn_ca {big a b : List Cond} {c : Cond} (ha : GoodIn big (c :: a)) (hb : GoodIn big b) : GoodIn big (c :: (a ++ b)) := fun w h => (List.mem_cons.mp h).elim (fun e => ha w (List.mem_cons.mpr (Or.inl e))) (fun h => (List.mem_append.mp h).elim (fun h => ha w (List.mem_cons.mpr (Or.inr h))) (hb w))
theorem goodIn_sub {big ws : List Cond} (hm : ∀ w ∈ ws, w ∈ big) (h : ws.all goodWord = true) : GoodIn big ws := fun w hw => ⟨hm w hw, good_of_word (List.all_eq_true.mp h w hw)⟩
/-! ===== BEGIN printed: names, fields, word lists, decode rows ===== -/
def RX0 : String := "MachineHall$Flow"
def TX0 : u_T := fun k => match k with
  | 0 => ("MachineHall$Flow", "nodes", "I", true)
  | 1 => ("MachineHall$Flow", "open", "[[I", true)
  | 2 => ("MachineHall$Flow", "cameFrom", "[I", true)
  | _ => ("MachineHall$Flow", "reached", "[I", true)
def tyX0 : Nat → FieldType := fun k => match k with
  | 0 => .int
  | 1 => .array (.array .int)
  | 2 => .array .int
  | _ => .array .int
abbrev wsX00 : List Cond := u_ws RX0 TX0 4
theorem nmX0 : ∀ a, a < 4 → ∀ b, b < 4 → a ≠ b → (TX0 a).2.1 ≠ (TX0 b).2.1 := by decide +kernel
theorem tyX0_ok : ∀ k, k < 4 → parseFieldDescriptor (TX0 k).2.2.1 = some (tyX0 k) := by decide +kernel
abbrev cX0_init : ByteArray := prog_2_method_1_code
def yX0_init : MethodName := ⟨RX0, "<init>", "(I)V"⟩
abbrev cX0_empty : ByteArray := prog_2_method_2_code
def yX0_empty : MethodName := ⟨RX0, "empty", "()V"⟩
abbrev cX0_pipe : ByteArray := prog_2_method_3_code
def yX0_pipe : MethodName := ⟨RX0, "pipe", "(III)V"⟩
abbrev cX0_push : ByteArray := prog_2_method_4_code
def yX0_push : MethodName := ⟨RX0, "push", "(III)I"⟩
abbrev cX0_settle : ByteArray := prog_2_method_5_code
def yX0_settle : MethodName := ⟨RX0, "settle", "(II)I"⟩
abbrev cX0_findWay : ByteArray := prog_2_method_6_code
def yX0_findWay : MethodName := ⟨RX0, "findWay", "(II)Z"⟩
abbrev cX0_send : ByteArray := prog_2_method_7_code
def yX0_send : MethodName := ⟨RX0, "send", "(III)I"⟩
def RX1 : String := "MachineHall$Hall"
def TX1 : u_T := fun k => match k with
  | 0 => ("MachineHall$Hall", "machines", "I", false)
  | 1 => ("MachineHall$Hall", "asks", "I", false)
  | 2 => ("MachineHall$Hall", "sizes", "[I", true)
  | 3 => ("MachineHall$Hall", "inRoom", "[I", true)
  | 4 => ("MachineHall$Hall", "ups", "I", false)
  | 5 => ("MachineHall$Hall", "needs", "[I", true)
  | 6 => ("MachineHall$Hall", "foes", "[I", true)
  | 7 => ("MachineHall$Hall", "ofHour", "[I", true)
  | 8 => ("MachineHall$Hall", "load", "[I", true)
  | 9 => ("MachineHall$Hall", "clash", "[Z", true)
  | 10 => ("MachineHall$Hall", "asked", "[Z", true)
  | 11 => ("MachineHall$Hall", "latest", "[I", true)
  | _ => ("MachineHall$Hall", "latestFor", "I", false)
def tyX1 : Nat → FieldType := fun k => match k with
  | 0 => .int
  | 1 => .int
  | 2 => .array .int
  | 3 => .array .int
  | 4 => .int
  | 5 => .array .int
  | 6 => .array .int
  | 7 => .array .int
  | 8 => .array .int
  | 9 => .array .boolean
  | 10 => .array .boolean
  | 11 => .array .int
  | _ => .int
abbrev wsX10 : List Cond := u_ws RX1 TX1 13
theorem nmX1 : ∀ a, a < 13 → ∀ b, b < 13 → a ≠ b → (TX1 a).2.1 ≠ (TX1 b).2.1 := by decide +kernel
theorem tyX1_ok : ∀ k, k < 13 → parseFieldDescriptor (TX1 k).2.2.1 = some (tyX1 k) := by decide +kernel
abbrev cX1_init : ByteArray := prog_3_method_1_code
def yX1_init : MethodName := ⟨RX1, "<init>", "()V"⟩
abbrev cX1_isFall : ByteArray := prog_3_method_2_code
def yX1_isFall : MethodName := ⟨RX1, "isFall", "(I)Z"⟩
abbrev cX1_hasMachine : ByteArray := prog_3_method_3_code
def yX1_hasMachine : MethodName := ⟨RX1, "hasMachine", "(I)Z"⟩
abbrev cX1_hasAsk : ByteArray := prog_3_method_4_code
def yX1_hasAsk : MethodName := ⟨RX1, "hasAsk", "(I)Z"⟩
abbrev cX1_isUp : ByteArray := prog_3_method_5_code
def yX1_isUp : MethodName := ⟨RX1, "isUp", "(I)Z"⟩
abbrev cX1_isAskOf : ByteArray := prog_3_method_6_code
def yX1_isAskOf : MethodName := ⟨RX1, "isAskOf", "(II)Z"⟩
abbrev cX1_areFoes : ByteArray := prog_3_method_7_code
def yX1_areFoes : MethodName := ⟨RX1, "areFoes", "(II)Z"⟩
abbrev cX1_addMachine : ByteArray := prog_3_method_8_code
def yX1_addMachine : MethodName := ⟨RX1, "addMachine", "(II)I"⟩
abbrev cX1_turn : ByteArray := prog_3_method_9_code
def yX1_turn : MethodName := ⟨RX1, "turn", "(I)V"⟩
abbrev cX1_addAsk : ByteArray := prog_3_method_10_code
def yX1_addAsk : MethodName := ⟨RX1, "addAsk", "(III)I"⟩
abbrev cX1_turnFoes : ByteArray := prog_3_method_11_code
def yX1_turnFoes : MethodName := ⟨RX1, "turnFoes", "(II)V"⟩
abbrev cX1_standing : ByteArray := prog_3_method_12_code
def yX1_standing : MethodName := ⟨RX1, "standing", "(I)I"⟩
abbrev cX1_sizeOf : ByteArray := prog_3_method_13_code
def yX1_sizeOf : MethodName := ⟨RX1, "sizeOf", "(I)I"⟩
abbrev cX1_holds : ByteArray := prog_3_method_14_code
def yX1_holds : MethodName := ⟨RX1, "holds", "(II)Z"⟩
abbrev cX1_layingOf : ByteArray := prog_3_method_15_code
def yX1_layingOf : MethodName := ⟨RX1, "layingOf", "(III)I"⟩
abbrev cX1_lacking : ByteArray := prog_3_method_16_code
def yX1_lacking : MethodName := ⟨RX1, "lacking", "(II)I"⟩
abbrev cX1_leftOver : ByteArray := prog_3_method_17_code
def yX1_leftOver : MethodName := ⟨RX1, "leftOver", "(II)I"⟩
abbrev cX1_firstUnfit : ByteArray := prog_3_method_18_code
def yX1_firstUnfit : MethodName := ⟨RX1, "firstUnfit", "(I)I"⟩
abbrev cX1_isLookedAt : ByteArray := prog_3_method_19_code
def yX1_isLookedAt : MethodName := ⟨RX1, "isLookedAt", "(II)Z"⟩
abbrev cX1_firstUnfitHour : ByteArray := prog_3_method_20_code
def yX1_firstUnfitHour : MethodName := ⟨RX1, "firstUnfitHour", "(II)I"⟩
abbrev cX1_markAsked : ByteArray := prog_3_method_21_code
def yX1_markAsked : MethodName := ⟨RX1, "markAsked", "(I)V"⟩
abbrev cX1_tally : ByteArray := prog_3_method_22_code
def yX1_tally : MethodName := ⟨RX1, "tally", "()V"⟩
abbrev cX1_findLatest : ByteArray := prog_3_method_23_code
def yX1_findLatest : MethodName := ⟨RX1, "findLatest", "(I)V"⟩
abbrev cX1_findWith : ByteArray := prog_3_method_24_code
def yX1_findWith : MethodName := ⟨RX1, "findWith", "(II)V"⟩
abbrev cX1_greatestOn : ByteArray := prog_3_method_25_code
def yX1_greatestOn : MethodName := ⟨RX1, "greatestOn", "(II)I"⟩
abbrev cX1_has : ByteArray := prog_3_method_26_code
def yX1_has : MethodName := ⟨RX1, "has", "(II)Z"⟩
def RX2 : String := "MachineHall$Market"
def TX2 : u_T := fun k => match k with
  | 0 => ("MachineHall$Market", "types", "I", false)
  | 1 => ("MachineHall$Market", "least", "I", false)
  | 2 => ("MachineHall$Market", "bought", "[[I", true)
  | 3 => ("MachineHall$Market", "owned", "I", false)
  | 4 => ("MachineHall$Market", "wants", "[I", true)
  | 5 => ("MachineHall$Market", "sizes", "[I", true)
  | 6 => ("MachineHall$Market", "leads", "[I", true)
  | 7 => ("MachineHall$Market", "powers", "[I", true)
  | 8 => ("MachineHall$Market", "prices", "[[I", true)
  | 9 => ("MachineHall$Market", "toPay", "[I", true)
  | 10 => ("MachineHall$Market", "oneMore", "[J", true)
  | _ => ("MachineHall$Market", "solved", "Z", false)
def tyX2 : Nat → FieldType := fun k => match k with
  | 0 => .int
  | 1 => .int
  | 2 => .array (.array .int)
  | 3 => .int
  | 4 => .array .int
  | 5 => .array .int
  | 6 => .array .int
  | 7 => .array .int
  | 8 => .array (.array .int)
  | 9 => .array .int
  | 10 => .array .long
  | _ => .boolean
abbrev wsX20 : List Cond := u_ws RX2 TX2 12
theorem nmX2 : ∀ a, a < 12 → ∀ b, b < 12 → a ≠ b → (TX2 a).2.1 ≠ (TX2 b).2.1 := by decide +kernel
theorem tyX2_ok : ∀ k, k < 12 → parseFieldDescriptor (TX2 k).2.2.1 = some (tyX2 k) := by decide +kernel
abbrev cX2_init : ByteArray := prog_4_method_1_code
def yX2_init : MethodName := ⟨RX2, "<init>", "()V"⟩
abbrev cX2_hasType : ByteArray := prog_4_method_2_code
def yX2_hasType : MethodName := ⟨RX2, "hasType", "(I)Z"⟩
abbrev cX2_isEnough : ByteArray := prog_4_method_3_code
def yX2_isEnough : MethodName := ⟨RX2, "isEnough", "()Z"⟩
abbrev cX2_want : ByteArray := prog_4_method_4_code
def yX2_want : MethodName := ⟨RX2, "want", "(LMachineHall$Sheets;I)V"⟩
abbrev cX2_own : ByteArray := prog_4_method_5_code
def yX2_own : MethodName := ⟨RX2, "own", "(I)V"⟩
abbrev cX2_addType : ByteArray := prog_4_method_6_code
def yX2_addType : MethodName := ⟨RX2, "addType", "(IIILMachineHall$Sheets;I)I"⟩
abbrev cX2_solve : ByteArray := prog_4_method_7_code
def yX2_solve : MethodName := ⟨RX2, "solve", "()V"⟩
abbrev cX2_offer : ByteArray := prog_4_method_8_code
def yX2_offer : MethodName := ⟨RX2, "offer", "(II)V"⟩
abbrev cX2_choose : ByteArray := prog_4_method_9_code
def yX2_choose : MethodName := ⟨RX2, "choose", "()V"⟩
abbrev cX2_mustBuy : ByteArray := prog_4_method_10_code
def yX2_mustBuy : MethodName := ⟨RX2, "mustBuy", "(III)Z"⟩
abbrev cX2_word : ByteArray := prog_4_method_11_code
def yX2_word : MethodName := ⟨RX2, "word", "(III)I"⟩
def RX3 : String := "MachineHall$Plan"
def TX3 : u_T := fun k => match k with
  | 0 => ("MachineHall$Plan", "batches", "I", false)
  | 1 => ("MachineHall$Plan", "unlaid", "I", false)
  | 2 => ("MachineHall$Plan", "parts", "[[I", true)
  | 3 => ("MachineHall$Plan", "works", "[I", true)
  | 4 => ("MachineHall$Plan", "froms", "[I", true)
  | 5 => ("MachineHall$Plan", "dues", "[I", true)
  | 6 => ("MachineHall$Plan", "mosts", "[I", true)
  | 7 => ("MachineHall$Plan", "flow", "LMachineHall$Flow;", true)
  | _ => ("MachineHall$Plan", "laidFor", "I", false)
def tyX3 : Nat → FieldType := fun k => match k with
  | 0 => .int
  | 1 => .int
  | 2 => .array (.array .int)
  | 3 => .array .int
  | 4 => .array .int
  | 5 => .array .int
  | 6 => .array .int
  | 7 => .object "MachineHall$Flow"
  | _ => .int
abbrev wsX30 : List Cond := u_ws RX3 TX3 9
theorem nmX3 : ∀ a, a < 9 → ∀ b, b < 9 → a ≠ b → (TX3 a).2.1 ≠ (TX3 b).2.1 := by decide +kernel
theorem tyX3_ok : ∀ k, k < 9 → parseFieldDescriptor (TX3 k).2.2.1 = some (tyX3 k) := by decide +kernel
abbrev cX3_init : ByteArray := prog_5_method_1_code
def yX3_init : MethodName := ⟨RX3, "<init>", "()V"⟩
abbrev cX3_hasBatch : ByteArray := prog_5_method_2_code
def yX3_hasBatch : MethodName := ⟨RX3, "hasBatch", "(I)Z"⟩
abbrev cX3_addBatch : ByteArray := prog_5_method_3_code
def yX3_addBatch : MethodName := ⟨RX3, "addBatch", "(IIII)I"⟩
abbrev cX3_forget : ByteArray := prog_5_method_4_code
def yX3_forget : MethodName := ⟨RX3, "forget", "()V"⟩
abbrev cX3_lay : ByteArray := prog_5_method_5_code
def yX3_lay : MethodName := ⟨RX3, "lay", "(LMachineHall$Hall;I)V"⟩
abbrev cX3_layPipes : ByteArray := prog_5_method_6_code
def yX3_layPipes : MethodName := ⟨RX3, "layPipes", "(LMachineHall$Hall;I)I"⟩
abbrev cX3_settleParts : ByteArray := prog_5_method_7_code
def yX3_settleParts : MethodName := ⟨RX3, "settleParts", "()V"⟩
def RX4 : String := "MachineHall$Sheets"
def TX4 : u_T := fun k => match k with
  | 0 => ("MachineHall$Sheets", "numbers", "[[J", true)
  | 1 => ("MachineHall$Sheets", "sorts", "[I", true)
  | _ => ("MachineHall$Sheets", "lengths", "[I", true)
def tyX4 : Nat → FieldType := fun k => match k with
  | 0 => .array (.array .long)
  | 1 => .array .int
  | _ => .array .int
abbrev wsX40 : List Cond := u_ws RX4 TX4 3
theorem nmX4 : ∀ a, a < 3 → ∀ b, b < 3 → a ≠ b → (TX4 a).2.1 ≠ (TX4 b).2.1 := by decide +kernel
theorem tyX4_ok : ∀ k, k < 3 → parseFieldDescriptor (TX4 k).2.2.1 = some (tyX4 k) := by decide +kernel
abbrev cX4_init : ByteArray := prog_6_method_1_code
def yX4_init : MethodName := ⟨RX4, "<init>", "()V"⟩
abbrev cX4_isNumber : ByteArray := prog_6_method_2_code
def yX4_isNumber : MethodName := ⟨RX4, "isNumber", "(I)Z"⟩
abbrev cX4_isMissing : ByteArray := prog_6_method_3_code
def yX4_isMissing : MethodName := ⟨RX4, "isMissing", "(I)Z"⟩
abbrev cX4_make : ByteArray := prog_6_method_4_code
def yX4_make : MethodName := ⟨RX4, "make", "(III)V"⟩
abbrev cX4_lose : ByteArray := prog_6_method_5_code
def yX4_lose : MethodName := ⟨RX4, "lose", "(I)V"⟩
abbrev cX4_at : ByteArray := prog_6_method_6_code
def yX4_at : MethodName := ⟨RX4, "at", "(II)J"⟩
abbrev cX4_put : ByteArray := prog_6_method_7_code
def yX4_put : MethodName := ⟨RX4, "put", "(IIJ)V"⟩
abbrev cX4_whyNoPlace : ByteArray := prog_6_method_8_code
def yX4_whyNoPlace : MethodName := ⟨RX4, "whyNoPlace", "(II)I"⟩
abbrev cX4_whyNotFirst : ByteArray := prog_6_method_9_code
def yX4_whyNotFirst : MethodName := ⟨RX4, "whyNotFirst", "(III)I"⟩
abbrev cX4_spans : ByteArray := prog_6_method_10_code
def yX4_spans : MethodName := ⟨RX4, "spans", "(III)Z"⟩
abbrev cX4_carry : ByteArray := prog_6_method_11_code
def yX4_carry : MethodName := ⟨RX4, "carry", "(IIIII)V"⟩
abbrev cX4_cut : ByteArray := prog_6_method_12_code
def yX4_cut : MethodName := ⟨RX4, "cut", "(JI)J"⟩
def RX5 : String := "MachineHall$Waiting"
def TX5 : u_T := fun k => match k with
  | 0 => ("MachineHall$Waiting", "greatest", "I", false)
  | 1 => ("MachineHall$Waiting", "together", "I", false)
  | 2 => ("MachineHall$Waiting", "came", "I", false)
  | 3 => ("MachineHall$Waiting", "waited", "I", false)
  | 4 => ("MachineHall$Waiting", "end", "I", false)
  | _ => ("MachineHall$Waiting", "freeAt", "[I", true)
def tyX5 : Nat → FieldType := fun k => match k with
  | 0 => .int
  | 1 => .int
  | 2 => .int
  | 3 => .int
  | 4 => .int
  | _ => .array .int
abbrev wsX50 : List Cond := u_ws RX5 TX5 6
theorem nmX5 : ∀ a, a < 6 → ∀ b, b < 6 → a ≠ b → (TX5 a).2.1 ≠ (TX5 b).2.1 := by decide +kernel
theorem tyX5_ok : ∀ k, k < 6 → parseFieldDescriptor (TX5 k).2.2.1 = some (tyX5 k) := by decide +kernel
abbrev cX5_init : ByteArray := prog_7_method_1_code
def yX5_init : MethodName := ⟨RX5, "<init>", "()V"⟩
abbrev cX5_serve : ByteArray := prog_7_method_2_code
def yX5_serve : MethodName := ⟨RX5, "serve", "(LMachineHall$Sheets;IIII)V"⟩
abbrev cX5_told : ByteArray := prog_7_method_3_code
def yX5_told : MethodName := ⟨RX5, "told", "(I)I"⟩
abbrev cX5_note : ByteArray := prog_7_method_4_code
def yX5_note : MethodName := ⟨RX5, "note", "(I)V"⟩
def RX6 : String := "MachineHall"
def TX6 : u_T := fun k => match k with
  | 0 => ("MachineHall", "sheets", "LMachineHall$Sheets;", true)
  | 1 => ("MachineHall", "hall", "LMachineHall$Hall;", true)
  | 2 => ("MachineHall", "plan", "LMachineHall$Plan;", true)
  | 3 => ("MachineHall", "waiting", "LMachineHall$Waiting;", true)
  | 4 => ("MachineHall", "market", "LMachineHall$Market;", true)
  | _ => ("MachineHall", "status", "I", false)
def tyX6 : Nat → FieldType := fun k => match k with
  | 0 => .object "MachineHall$Sheets"
  | 1 => .object "MachineHall$Hall"
  | 2 => .object "MachineHall$Plan"
  | 3 => .object "MachineHall$Waiting"
  | 4 => .object "MachineHall$Market"
  | _ => .int
abbrev wsX60 : List Cond := u_ws RX6 TX6 6
theorem nmX6 : ∀ a, a < 6 → ∀ b, b < 6 → a ≠ b → (TX6 a).2.1 ≠ (TX6 b).2.1 := by decide +kernel
theorem tyX6_ok : ∀ k, k < 6 → parseFieldDescriptor (TX6 k).2.2.1 = some (tyX6 k) := by decide +kernel
abbrev cX6_init : ByteArray := prog_1_method_1_code
def yX6_init : MethodName := ⟨RX6, "<init>", "()V"⟩
abbrev cX6_status : ByteArray := prog_1_method_2_code
def yX6_status : MethodName := ⟨RX6, "status", "()I"⟩
abbrev cX6_sheet : ByteArray := prog_1_method_3_code
def yX6_sheet : MethodName := ⟨RX6, "sheet", "(III)Z"⟩
abbrev cX6_write : ByteArray := prog_1_method_4_code
def yX6_write : MethodName := ⟨RX6, "write", "(IIJ)Z"⟩
abbrev cX6_read : ByteArray := prog_1_method_5_code
def yX6_read : MethodName := ⟨RX6, "read", "(II)J"⟩
abbrev cX6_drop : ByteArray := prog_1_method_6_code
def yX6_drop : MethodName := ⟨RX6, "drop", "(I)Z"⟩
abbrev cX6_copy : ByteArray := prog_1_method_7_code
def yX6_copy : MethodName := ⟨RX6, "copy", "(IIIII)Z"⟩
abbrev cX6_none : ByteArray := prog_1_method_8_code
def yX6_none : MethodName := ⟨RX6, "none", "()Z"⟩
abbrev cX6_machine : ByteArray := prog_1_method_9_code
def yX6_machine : MethodName := ⟨RX6, "machine", "(II)I"⟩
abbrev cX6_up : ByteArray := prog_1_method_10_code
def yX6_up : MethodName := ⟨RX6, "up", "(IZ)Z"⟩
abbrev cX6_ask : ByteArray := prog_1_method_11_code
def yX6_ask : MethodName := ⟨RX6, "ask", "(III)I"⟩
abbrev cX6_apart : ByteArray := prog_1_method_12_code
def yX6_apart : MethodName := ⟨RX6, "apart", "(IIZ)Z"⟩
abbrev cX6_count : ByteArray := prog_1_method_13_code
def yX6_count : MethodName := ⟨RX6, "count", "(I)I"⟩
abbrev cX6_fits : ByteArray := prog_1_method_14_code
def yX6_fits : MethodName := ⟨RX6, "fits", "(II)I"⟩
abbrev cX6_on : ByteArray := prog_1_method_15_code
def yX6_on : MethodName := ⟨RX6, "on", "(III)I"⟩
abbrev cX6_lack : ByteArray := prog_1_method_16_code
def yX6_lack : MethodName := ⟨RX6, "lack", "(II)I"⟩
abbrev cX6_left : ByteArray := prog_1_method_17_code
def yX6_left : MethodName := ⟨RX6, "left", "(II)I"⟩
abbrev cX6_enough : ByteArray := prog_1_method_18_code
def yX6_enough : MethodName := ⟨RX6, "enough", "(I)I"⟩
abbrev cX6_batch : ByteArray := prog_1_method_19_code
def yX6_batch : MethodName := ⟨RX6, "batch", "(IIII)I"⟩
abbrev cX6_rest : ByteArray := prog_1_method_20_code
def yX6_rest : MethodName := ⟨RX6, "rest", "(I)I"⟩
abbrev cX6_part : ByteArray := prog_1_method_21_code
def yX6_part : MethodName := ⟨RX6, "part", "(III)I"⟩
abbrev cX6_line : ByteArray := prog_1_method_22_code
def yX6_line : MethodName := ⟨RX6, "line", "(IIIII)I"⟩
abbrev cX6_hands : ByteArray := prog_1_method_23_code
def yX6_hands : MethodName := ⟨RX6, "hands", "(IIII)I"⟩
abbrev cX6_wanted : ByteArray := prog_1_method_24_code
def yX6_wanted : MethodName := ⟨RX6, "wanted", "(I)Z"⟩
abbrev cX6_have : ByteArray := prog_1_method_25_code
def yX6_have : MethodName := ⟨RX6, "have", "(I)Z"⟩
abbrev cX6_type : ByteArray := prog_1_method_26_code
def yX6_type : MethodName := ⟨RX6, "type", "(IIII)I"⟩
abbrev cX6_cheapest : ByteArray := prog_1_method_27_code
def yX6_cheapest : MethodName := ⟨RX6, "cheapest", "()I"⟩
abbrev cX6_buys : ByteArray := prog_1_method_28_code
def yX6_buys : MethodName := ⟨RX6, "buys", "(II)I"⟩
abbrev cX6_agree : ByteArray := prog_1_method_29_code
def yX6_agree : MethodName := ⟨RX6, "agree", "()Z"⟩
abbrev cX6_refuse : ByteArray := prog_1_method_30_code
def yX6_refuse : MethodName := ⟨RX6, "refuse", "(I)Z"⟩
abbrev cX6_answer : ByteArray := prog_1_method_31_code
def yX6_answer : MethodName := ⟨RX6, "answer", "(I)I"⟩
abbrev cX6_deny : ByteArray := prog_1_method_32_code
def yX6_deny : MethodName := ⟨RX6, "deny", "(I)I"⟩
abbrev cX6_within : ByteArray := prog_1_method_33_code
def yX6_within : MethodName := ⟨RX6, "within", "(JII)Z"⟩
abbrev cX6_isHour : ByteArray := prog_1_method_34_code
def yX6_isHour : MethodName := ⟨RX6, "isHour", "(I)Z"⟩
abbrev cX6_isMonth : ByteArray := prog_1_method_35_code
def yX6_isMonth : MethodName := ⟨RX6, "isMonth", "(I)Z"⟩
abbrev cX6_isLine : ByteArray := prog_1_method_36_code
def yX6_isLine : MethodName := ⟨RX6, "isLine", "(III)Z"⟩
def RX7 : String := "MachineHallModel"
def TX7 : u_T := fun k => match k with
  | 0 => ("MachineHallModel", "status", "I", false)
  | 1 => ("MachineHallModel", "sort", "[I", true)
  | 2 => ("MachineHallModel", "many", "[I", true)
  | 3 => ("MachineHallModel", "sheets", "[J", true)
  | 4 => ("MachineHallModel", "machines", "I", false)
  | 5 => ("MachineHallModel", "asks", "I", false)
  | 6 => ("MachineHallModel", "batches", "I", false)
  | 7 => ("MachineHallModel", "types", "I", false)
  | 8 => ("MachineHallModel", "size", "[I", true)
  | 9 => ("MachineHallModel", "room", "[I", true)
  | 10 => ("MachineHallModel", "isUp", "[Z", true)
  | 11 => ("MachineHallModel", "need", "[I", true)
  | 12 => ("MachineHallModel", "first", "[I", true)
  | 13 => ("MachineHallModel", "last", "[I", true)
  | 14 => ("MachineHallModel", "apart", "[I", true)
  | 15 => ("MachineHallModel", "needs", "[I", true)
  | 16 => ("MachineHallModel", "may", "[Z", true)
  | 17 => ("MachineHallModel", "can", "[Z", true)
  | 18 => ("MachineHallModel", "work", "[I", true)
  | 19 => ("MachineHallModel", "from", "[I", true)
  | 20 => ("MachineHallModel", "due", "[I", true)
  | 21 => ("MachineHallModel", "most", "[I", true)
  | 22 => ("MachineHallModel", "part", "[I", true)
  | 23 => ("MachineHallModel", "has", "[I", true)
  | 24 => ("MachineHallModel", "used", "[I", true)
  | 25 => ("MachineHallModel", "done", "[I", true)
  | 26 => ("MachineHallModel", "stays", "[Z", true)
  | 27 => ("MachineHallModel", "before", "[I", true)
  | 28 => ("MachineHallModel", "line", "[I", true)
  | 29 => ("MachineHallModel", "free", "[I", true)
  | 30 => ("MachineHallModel", "greatest", "I", false)
  | 31 => ("MachineHallModel", "together", "I", false)
  | 32 => ("MachineHallModel", "comes", "I", false)
  | 33 => ("MachineHallModel", "waiting", "I", false)
  | 34 => ("MachineHallModel", "end", "I", false)
  | 35 => ("MachineHallModel", "wanted", "[I", true)
  | 36 => ("MachineHallModel", "typeSize", "[I", true)
  | 37 => ("MachineHallModel", "lead", "[I", true)
  | 38 => ("MachineHallModel", "power", "[I", true)
  | 39 => ("MachineHallModel", "price", "[I", true)
  | 40 => ("MachineHallModel", "have", "I", false)
  | _ => ("MachineHallModel", "least", "[I", true)
def tyX7 : Nat → FieldType := fun k => match k with
  | 0 => .int
  | 1 => .array .int
  | 2 => .array .int
  | 3 => .array .long
  | 4 => .int
  | 5 => .int
  | 6 => .int
  | 7 => .int
  | 8 => .array .int
  | 9 => .array .int
  | 10 => .array .boolean
  | 11 => .array .int
  | 12 => .array .int
  | 13 => .array .int
  | 14 => .array .int
  | 15 => .array .int
  | 16 => .array .boolean
  | 17 => .array .boolean
  | 18 => .array .int
  | 19 => .array .int
  | 20 => .array .int
  | 21 => .array .int
  | 22 => .array .int
  | 23 => .array .int
  | 24 => .array .int
  | 25 => .array .int
  | 26 => .array .boolean
  | 27 => .array .int
  | 28 => .array .int
  | 29 => .array .int
  | 30 => .int
  | 31 => .int
  | 32 => .int
  | 33 => .int
  | 34 => .int
  | 35 => .array .int
  | 36 => .array .int
  | 37 => .array .int
  | 38 => .array .int
  | 39 => .array .int
  | 40 => .int
  | _ => .array .int
abbrev wsX70 : List Cond := u_ws RX7 TX7 42
theorem nmX7 : ∀ a, a < 42 → ∀ b, b < 42 → a ≠ b → (TX7 a).2.1 ≠ (TX7 b).2.1 := by decide +kernel
theorem tyX7_ok : ∀ k, k < 42 → parseFieldDescriptor (TX7 k).2.2.1 = some (tyX7 k) := by decide +kernel
abbrev cX7_init : ByteArray := prog_9_method_1_code
def yX7_init : MethodName := ⟨RX7, "<init>", "()V"⟩
abbrev cX7_status : ByteArray := prog_9_method_2_code
def yX7_status : MethodName := ⟨RX7, "status", "()I"⟩
abbrev cX7_is : ByteArray := prog_9_method_3_code
def yX7_is : MethodName := ⟨RX7, "is", "(I)Z"⟩
abbrev cX7_refuse : ByteArray := prog_9_method_4_code
def yX7_refuse : MethodName := ⟨RX7, "refuse", "(I)I"⟩
abbrev cX7_isSheet : ByteArray := prog_9_method_5_code
def yX7_isSheet : MethodName := ⟨RX7, "isSheet", "(I)Z"⟩
abbrev cX7_cut : ByteArray := prog_9_method_6_code
def yX7_cut : MethodName := ⟨RX7, "cut", "(JI)J"⟩
abbrev cX7_sheet : ByteArray := prog_9_method_7_code
def yX7_sheet : MethodName := ⟨RX7, "sheet", "(III)Z"⟩
abbrev cX7_wrong : ByteArray := prog_9_method_8_code
def yX7_wrong : MethodName := ⟨RX7, "wrong", "(II)I"⟩
abbrev cX7_write : ByteArray := prog_9_method_9_code
def yX7_write : MethodName := ⟨RX7, "write", "(IIJ)Z"⟩
abbrev cX7_read : ByteArray := prog_9_method_10_code
def yX7_read : MethodName := ⟨RX7, "read", "(II)J"⟩
abbrev cX7_copy : ByteArray := prog_9_method_11_code
def yX7_copy : MethodName := ⟨RX7, "copy", "(IIIII)Z"⟩
abbrev cX7_drop : ByteArray := prog_9_method_12_code
def yX7_drop : MethodName := ⟨RX7, "drop", "(I)Z"⟩
abbrev cX7_none : ByteArray := prog_9_method_13_code
def yX7_none : MethodName := ⟨RX7, "none", "()Z"⟩
abbrev cX7_wrongNumbers : ByteArray := prog_9_method_14_code
def yX7_wrongNumbers : MethodName := ⟨RX7, "wrongNumbers", "(IIJ)I"⟩
abbrev cX7_machine : ByteArray := prog_9_method_15_code
def yX7_machine : MethodName := ⟨RX7, "machine", "(II)I"⟩
abbrev cX7_up : ByteArray := prog_9_method_16_code
def yX7_up : MethodName := ⟨RX7, "up", "(IZ)Z"⟩
abbrev cX7_isAsk : ByteArray := prog_9_method_17_code
def yX7_isAsk : MethodName := ⟨RX7, "isAsk", "(I)Z"⟩
abbrev cX7_ask : ByteArray := prog_9_method_18_code
def yX7_ask : MethodName := ⟨RX7, "ask", "(III)I"⟩
abbrev cX7_apart : ByteArray := prog_9_method_19_code
def yX7_apart : MethodName := ⟨RX7, "apart", "(IIZ)Z"⟩
abbrev cX7_isHour : ByteArray := prog_9_method_20_code
def yX7_isHour : MethodName := ⟨RX7, "isHour", "(I)Z"⟩
abbrev cX7_isFall : ByteArray := prog_9_method_21_code
def yX7_isFall : MethodName := ⟨RX7, "isFall", "(I)Z"⟩
abbrev cX7_stands : ByteArray := prog_9_method_22_code
def yX7_stands : MethodName := ⟨RX7, "stands", "(II)Z"⟩
abbrev cX7_sizes : ByteArray := prog_9_method_23_code
def yX7_sizes : MethodName := ⟨RX7, "sizes", "(I)I"⟩
abbrev cX7_count : ByteArray := prog_9_method_24_code
def yX7_count : MethodName := ⟨RX7, "count", "(I)I"⟩
abbrev cX7_look : ByteArray := prog_9_method_25_code
def yX7_look : MethodName := ⟨RX7, "look", "(I)V"⟩
abbrev cX7_setOf : ByteArray := prog_9_method_26_code
def yX7_setOf : MethodName := ⟨RX7, "setOf", "(I)I"⟩
abbrev cX7_fits : ByteArray := prog_9_method_27_code
def yX7_fits : MethodName := ⟨RX7, "fits", "(II)I"⟩
abbrev cX7_on : ByteArray := prog_9_method_28_code
def yX7_on : MethodName := ⟨RX7, "on", "(III)I"⟩
abbrev cX7_lack : ByteArray := prog_9_method_29_code
def yX7_lack : MethodName := ⟨RX7, "lack", "(II)I"⟩
abbrev cX7_leftOf : ByteArray := prog_9_method_30_code
def yX7_leftOf : MethodName := ⟨RX7, "leftOf", "(II)I"⟩
abbrev cX7_left : ByteArray := prog_9_method_31_code
def yX7_left : MethodName := ⟨RX7, "left", "(II)I"⟩
abbrev cX7_enough : ByteArray := prog_9_method_32_code
def yX7_enough : MethodName := ⟨RX7, "enough", "(I)I"⟩
abbrev cX7_batch : ByteArray := prog_9_method_33_code
def yX7_batch : MethodName := ⟨RX7, "batch", "(IIII)I"⟩
abbrev cX7_isIn : ByteArray := prog_9_method_34_code
def yX7_isIn : MethodName := ⟨RX7, "isIn", "(II)Z"⟩
abbrev cX7_goes : ByteArray := prog_9_method_35_code
def yX7_goes : MethodName := ⟨RX7, "goes", "(II)I"⟩
abbrev cX7_moves : ByteArray := prog_9_method_36_code
def yX7_moves : MethodName := ⟨RX7, "moves", "(III)V"⟩
abbrev cX7_isWay : ByteArray := prog_9_method_37_code
def yX7_isWay : MethodName := ⟨RX7, "isWay", "(II)Z"⟩
abbrev cX7_goAlong : ByteArray := prog_9_method_38_code
def yX7_goAlong : MethodName := ⟨RX7, "goAlong", "(III)I"⟩
abbrev cX7_layIn : ByteArray := prog_9_method_39_code
def yX7_layIn : MethodName := ⟨RX7, "layIn", "(I)I"⟩
abbrev cX7_rest : ByteArray := prog_9_method_40_code
def yX7_rest : MethodName := ⟨RX7, "rest", "(I)I"⟩
abbrev cX7_part : ByteArray := prog_9_method_41_code
def yX7_part : MethodName := ⟨RX7, "part", "(III)I"⟩
abbrev cX7_step : ByteArray := prog_9_method_42_code
def yX7_step : MethodName := ⟨RX7, "step", "(IIII)V"⟩
abbrev cX7_line : ByteArray := prog_9_method_43_code
def yX7_line : MethodName := ⟨RX7, "line", "(IIIII)I"⟩
abbrev cX7_hands : ByteArray := prog_9_method_44_code
def yX7_hands : MethodName := ⟨RX7, "hands", "(IIII)I"⟩
abbrev cX7_wanted : ByteArray := prog_9_method_45_code
def yX7_wanted : MethodName := ⟨RX7, "wanted", "(I)Z"⟩
abbrev cX7_have : ByteArray := prog_9_method_46_code
def yX7_have : MethodName := ⟨RX7, "have", "(I)Z"⟩
abbrev cX7_type : ByteArray := prog_9_method_47_code
def yX7_type : MethodName := ⟨RX7, "type", "(IIII)I"⟩
abbrev cX7_at : ByteArray := prog_9_method_48_code
def yX7_at : MethodName := ⟨RX7, "at", "(III)I"⟩
abbrev cX7_takes : ByteArray := prog_9_method_49_code
def yX7_takes : MethodName := ⟨RX7, "takes", "(II)I"⟩
abbrev cX7_reckon : ByteArray := prog_9_method_50_code
def yX7_reckon : MethodName := ⟨RX7, "reckon", "()V"⟩
abbrev cX7_cheapest : ByteArray := prog_9_method_51_code
def yX7_cheapest : MethodName := ⟨RX7, "cheapest", "()I"⟩
abbrev cX7_buys : ByteArray := prog_9_method_52_code
def yX7_buys : MethodName := ⟨RX7, "buys", "(II)I"⟩
def RJ9 : String := "java/lang/Math"
def TJ9 : u_T := fun k => match k with
  | _ => ("", "", "", false)
def tyJ9 : Nat → FieldType := fun k => match k with
  | _ => .int
abbrev wsJ90 : List Cond := u_ws RJ9 TJ9 0
theorem nmJ9 : ∀ a, a < 0 → ∀ b, b < 0 → a ≠ b → (TJ9 a).2.1 ≠ (TJ9 b).2.1 := by decide +kernel
theorem tyJ9_ok : ∀ k, k < 0 → parseFieldDescriptor (TJ9 k).2.2.1 = some (tyJ9 k) := by decide +kernel
abbrev cJ9_max_7cf53 : ByteArray := prog_10_method_65_code
def yJ9_max_7cf53 : MethodName := ⟨RJ9, "max", "(II)I"⟩
abbrev cJ9_min_7cf53 : ByteArray := prog_10_method_69_code
def yJ9_min_7cf53 : MethodName := ⟨RJ9, "min", "(II)I"⟩
def RJ10 : String := "java/lang/System"
def TJ10 : u_T := fun k => match k with
  | _ => ("", "", "", false)
def tyJ10 : Nat → FieldType := fun k => match k with
  | _ => .int
abbrev wsJ100 : List Cond := u_ws RJ10 TJ10 0
theorem nmJ10 : ∀ a, a < 0 → ∀ b, b < 0 → a ≠ b → (TJ10 a).2.1 ≠ (TJ10 b).2.1 := by decide +kernel
theorem tyJ10_ok : ∀ k, k < 0 → parseFieldDescriptor (TJ10 k).2.2.1 = some (tyJ10 k) := by decide +kernel
def RJ7 : String := "java/util/Arrays"
def TJ7 : u_T := fun k => match k with
  | _ => ("", "", "", false)
def tyJ7 : Nat → FieldType := fun k => match k with
  | _ => .int
abbrev wsJ70 : List Cond := u_ws RJ7 TJ7 0
theorem nmJ7 : ∀ a, a < 0 → ∀ b, b < 0 → a ≠ b → (TJ7 a).2.1 ≠ (TJ7 b).2.1 := by decide +kernel
theorem tyJ7_ok : ∀ k, k < 0 → parseFieldDescriptor (TJ7 k).2.2.1 = some (tyJ7 k) := by decide +kernel
abbrev cJ7_rangeCheck_23922 : ByteArray := prog_12_method_30_code
def yJ7_rangeCheck_23922 : MethodName := ⟨RJ7, "rangeCheck", "(III)V"⟩
abbrev cJ7_fill_d0a16 : ByteArray := prog_12_method_101_code
def yJ7_fill_d0a16 : MethodName := ⟨RJ7, "fill", "([JJ)V"⟩
abbrev cJ7_fill_53178 : ByteArray := prog_12_method_103_code
def yJ7_fill_53178 : MethodName := ⟨RJ7, "fill", "([II)V"⟩
abbrev cJ7_fill_fda19 : ByteArray := prog_12_method_104_code
def yJ7_fill_fda19 : MethodName := ⟨RJ7, "fill", "([IIII)V"⟩
def RL : String := "MachineHallLaw"
abbrev cL_law : ByteArray := code
def yL_law : MethodName := ⟨RL, "law", "([I)Z"⟩
def wsX0_init : List Cond := .code yX0_init cX0_init 2 none :: ([.methodLink RX0 3 objectInit, .instanceMethod objectInit, .code objectInit ⟨#[0xb1]⟩ 1 none, .fieldLink RX0 9 "MachineHall$Flow" "nodes" "I", .classLink RX0 15 "[[I", .arrayClass .int, .fieldLink RX0 17 "MachineHall$Flow" "open" "[[I", .fieldLink RX0 20 "MachineHall$Flow" "cameFrom" "[I", .fieldLink RX0 24 "MachineHall$Flow" "reached" "[I"] ++ wsX00)
def wsJ7_fill_53178 : List Cond := .code yJ7_fill_53178 cJ7_fill_53178 4 none :: ([])
def wsX0_empty : List Cond := .code yX0_empty cX0_empty 2 none :: ([.fieldLink RX0 9 "MachineHall$Flow" "nodes" "I", .fieldLink RX0 17 "MachineHall$Flow" "open" "[[I", .methodLink RX0 27 yJ7_fill_53178, .static yJ7_fill_53178, .initialized RJ7, .code yJ7_fill_53178 cJ7_fill_53178 4 none] ++ wsX00)
def wsX0_pipe : List Cond := .code yX0_pipe cX0_pipe 4 none :: ([.fieldLink RX0 17 "MachineHall$Flow" "open" "[[I"] ++ wsX00)
def wsX0_findWay : List Cond := .code yX0_findWay cX0_findWay 7 (some .boolean) :: ([.fieldLink RX0 20 "MachineHall$Flow" "cameFrom" "[I", .fieldLink RX0 24 "MachineHall$Flow" "reached" "[I", .fieldLink RX0 9 "MachineHall$Flow" "nodes" "I", .fieldLink RX0 17 "MachineHall$Flow" "open" "[[I", .methodLink RX0 27 yJ7_fill_53178, .static yJ7_fill_53178, .initialized RJ7, .code yJ7_fill_53178 cJ7_fill_53178 4 none] ++ wsX00)
def wsX0_send : List Cond := .code yX0_send cX0_send 7 (some .int) :: ([.fieldLink RX0 9 "MachineHall$Flow" "nodes" "I", .fieldLink RX0 17 "MachineHall$Flow" "open" "[[I", .fieldLink RX0 20 "MachineHall$Flow" "cameFrom" "[I", .methodLink RX0 45 Lib.Math.min.name, .static Lib.Math.min.name, .initialized "java/lang/Math", .code Lib.Math.min.name Lib.Math.min.code 2 (some .int)] ++ wsX00)
def wsX0_push : List Cond := .code yX0_push cX0_push 6 (some .int) :: ([.constant RX0 33 (1000000), .methodLink RX0 34 yX0_findWay, .instanceMethod yX0_findWay, .selects RX0 yX0_findWay yX0_findWay, .initialized RX0, .code yX0_findWay cX0_findWay 7 (some .boolean), .fieldLink RX0 20 "MachineHall$Flow" "cameFrom" "[I", .fieldLink RX0 24 "MachineHall$Flow" "reached" "[I", .fieldLink RX0 9 "MachineHall$Flow" "nodes" "I", .fieldLink RX0 17 "MachineHall$Flow" "open" "[[I", .methodLink RX0 27 yJ7_fill_53178, .static yJ7_fill_53178, .initialized RJ7, .code yJ7_fill_53178 cJ7_fill_53178 4 none, .methodLink RX0 38 yX0_send, .instanceMethod yX0_send, .selects RX0 yX0_send yX0_send, .code yX0_send cX0_send 7 (some .int), .methodLink RX0 45 Lib.Math.min.name, .static Lib.Math.min.name, .initialized "java/lang/Math", .code Lib.Math.min.name Lib.Math.min.code 2 (some .int)] ++ wsX00)
def wsX0_settle_r1 : List Cond := [Cond.fieldLink RX0 17 "MachineHall$Flow" "open" "[[I", Cond.methodLink RX0 42 yX0_push, Cond.instanceMethod yX0_push, Cond.selects RX0 yX0_push yX0_push, Cond.initialized RX0, Cond.code yX0_push cX0_push 6 (some .int), Cond.constant RX0 33 (1000000), Cond.methodLink RX0 34 yX0_findWay, Cond.instanceMethod yX0_findWay, Cond.selects RX0 yX0_findWay yX0_findWay, Cond.code yX0_findWay cX0_findWay 7 (some .boolean), Cond.fieldLink RX0 20 "MachineHall$Flow" "cameFrom" "[I", Cond.fieldLink RX0 24 "MachineHall$Flow" "reached" "[I", Cond.fieldLink RX0 9 "MachineHall$Flow" "nodes" "I", Cond.methodLink RX0 27 yJ7_fill_53178, Cond.static yJ7_fill_53178, Cond.initialized RJ7, Cond.code yJ7_fill_53178 cJ7_fill_53178 4 none, Cond.methodLink RX0 38 yX0_send, Cond.instanceMethod yX0_send, Cond.selects RX0 yX0_send yX0_send, Cond.code yX0_send cX0_send 7 (some .int), Cond.methodLink RX0 45 Lib.Math.min.name, Cond.static Lib.Math.min.name]
def wsX0_settle_r2 : List Cond := [Cond.initialized "java/lang/Math", Cond.code Lib.Math.min.name Lib.Math.min.code 2 (some .int)]
def wsX0_settle : List Cond := .code yX0_settle cX0_settle 5 (some .int) :: ((wsX0_settle_r1 ++ wsX0_settle_r2) ++ wsX00)
def wsX1_init : List Cond := .code yX1_init cX1_init 1 none :: ([.methodLink RX1 5 objectInit, .instanceMethod objectInit, .code objectInit ⟨#[0xb1]⟩ 1 none, .arrayClass .int, .fieldLink RX1 11 "MachineHall$Hall" "sizes" "[I", .fieldLink RX1 15 "MachineHall$Hall" "inRoom" "[I", .fieldLink RX1 18 "MachineHall$Hall" "needs" "[I", .fieldLink RX1 21 "MachineHall$Hall" "foes" "[I", .fieldLink RX1 24 "MachineHall$Hall" "ofHour" "[I", .fieldLink RX1 27 "MachineHall$Hall" "load" "[I", .arrayClass .boolean, .fieldLink RX1 30 "MachineHall$Hall" "clash" "[Z", .fieldLink RX1 34 "MachineHall$Hall" "asked" "[Z", .fieldLink RX1 37 "MachineHall$Hall" "latest" "[I", .fieldLink RX1 40 "MachineHall$Hall" "latestFor" "I"] ++ wsX10)
def wsX6_within : List Cond := .code yX6_within cX6_within 4 (some .boolean) :: ([])
def wsX1_isFall : List Cond := .code yX1_isFall cX1_isFall 1 (some .boolean) :: ([.static yX6_within, .initialized RX6, .code yX6_within cX6_within 4 (some .boolean)])
def wsX1_hasMachine : List Cond := .code yX1_hasMachine cX1_hasMachine 2 (some .boolean) :: ([.fieldLink RX1 48 "MachineHall$Hall" "machines" "I", .static yX6_within, .initialized RX6, .code yX6_within cX6_within 4 (some .boolean)] ++ wsX10)
def wsX1_hasAsk : List Cond := .code yX1_hasAsk cX1_hasAsk 2 (some .boolean) :: ([.fieldLink RX1 51 "MachineHall$Hall" "asks" "I", .static yX6_within, .initialized RX6, .code yX6_within cX6_within 4 (some .boolean)] ++ wsX10)
def wsX1_has : List Cond := .code yX1_has cX1_has 2 (some .boolean) :: ([])
def wsX1_isUp : List Cond := .code yX1_isUp cX1_isUp 2 (some .boolean) :: ([.fieldLink RX1 54 "MachineHall$Hall" "ups" "I", .methodLink RX1 57 yX1_has, .static yX1_has, .initialized RX1, .code yX1_has cX1_has 2 (some .boolean)] ++ wsX10)
def wsX1_isAskOf : List Cond := .code yX1_isAskOf cX1_isAskOf 3 (some .boolean) :: ([.fieldLink RX1 24 "MachineHall$Hall" "ofHour" "[I", .methodLink RX1 57 yX1_has, .static yX1_has, .initialized RX1, .code yX1_has cX1_has 2 (some .boolean)] ++ wsX10)
def wsX1_areFoes : List Cond := .code yX1_areFoes cX1_areFoes 3 (some .boolean) :: ([.fieldLink RX1 21 "MachineHall$Hall" "foes" "[I", .methodLink RX1 57 yX1_has, .static yX1_has, .initialized RX1, .code yX1_has cX1_has 2 (some .boolean)] ++ wsX10)
def wsX1_addMachine : List Cond := .code yX1_addMachine cX1_addMachine 4 (some .int) :: ([.fieldLink RX1 48 "MachineHall$Hall" "machines" "I", .fieldLink RX1 11 "MachineHall$Hall" "sizes" "[I", .fieldLink RX1 15 "MachineHall$Hall" "inRoom" "[I", .fieldLink RX1 54 "MachineHall$Hall" "ups" "I"] ++ wsX10)
def wsX1_turn : List Cond := .code yX1_turn cX1_turn 2 none :: ([.fieldLink RX1 54 "MachineHall$Hall" "ups" "I"] ++ wsX10)
def wsX1_markAsked : List Cond := .code yX1_markAsked cX1_markAsked 3 none :: ([.fieldLink RX1 34 "MachineHall$Hall" "asked" "[Z"] ++ wsX10)
def wsX1_tally : List Cond := .code yX1_tally cX1_tally 4 none :: ([.fieldLink RX1 40 "MachineHall$Hall" "latestFor" "I", .fieldLink RX1 51 "MachineHall$Hall" "asks" "I", .fieldLink RX1 27 "MachineHall$Hall" "load" "[I", .fieldLink RX1 18 "MachineHall$Hall" "needs" "[I", .fieldLink RX1 30 "MachineHall$Hall" "clash" "[Z", .fieldLink RX1 21 "MachineHall$Hall" "foes" "[I"] ++ wsX10)
def wsX1_addAsk : List Cond := .code yX1_addAsk cX1_addAsk 6 (some .int) :: ([.fieldLink RX1 51 "MachineHall$Hall" "asks" "I", .fieldLink RX1 18 "MachineHall$Hall" "needs" "[I", .fieldLink RX1 24 "MachineHall$Hall" "ofHour" "[I", .methodLink RX1 61 yX1_markAsked, .instanceMethod yX1_markAsked, .selects RX1 yX1_markAsked yX1_markAsked, .initialized RX1, .code yX1_markAsked cX1_markAsked 3 none, .fieldLink RX1 34 "MachineHall$Hall" "asked" "[Z", .methodLink RX1 65 yX1_tally, .instanceMethod yX1_tally, .selects RX1 yX1_tally yX1_tally, .code yX1_tally cX1_tally 4 none, .fieldLink RX1 40 "MachineHall$Hall" "latestFor" "I", .fieldLink RX1 27 "MachineHall$Hall" "load" "[I", .fieldLink RX1 30 "MachineHall$Hall" "clash" "[Z", .fieldLink RX1 21 "MachineHall$Hall" "foes" "[I"] ++ wsX10)
def wsX1_turnFoes : List Cond := .code yX1_turnFoes cX1_turnFoes 3 none :: ([.fieldLink RX1 21 "MachineHall$Hall" "foes" "[I", .methodLink RX1 65 yX1_tally, .instanceMethod yX1_tally, .selects RX1 yX1_tally yX1_tally, .initialized RX1, .code yX1_tally cX1_tally 4 none, .fieldLink RX1 40 "MachineHall$Hall" "latestFor" "I", .fieldLink RX1 51 "MachineHall$Hall" "asks" "I", .fieldLink RX1 27 "MachineHall$Hall" "load" "[I", .fieldLink RX1 18 "MachineHall$Hall" "needs" "[I", .fieldLink RX1 30 "MachineHall$Hall" "clash" "[Z"] ++ wsX10)
def wsX1_standing : List Cond := .code yX1_standing cX1_standing 2 (some .int) :: ([.fieldLink RX1 54 "MachineHall$Hall" "ups" "I", .fieldLink RX1 15 "MachineHall$Hall" "inRoom" "[I"] ++ wsX10)
def wsX1_sizeOf : List Cond := .code yX1_sizeOf cX1_sizeOf 4 (some .int) :: ([.fieldLink RX1 48 "MachineHall$Hall" "machines" "I", .fieldLink RX1 11 "MachineHall$Hall" "sizes" "[I", .methodLink RX1 57 yX1_has, .static yX1_has, .initialized RX1, .code yX1_has cX1_has 2 (some .boolean)] ++ wsX10)
def wsX1_greatestOn : List Cond := .code yX1_greatestOn cX1_greatestOn 4 (some .int) :: ([.fieldLink RX1 27 "MachineHall$Hall" "load" "[I", .fieldLink RX1 11 "MachineHall$Hall" "sizes" "[I", .fieldLink RX1 30 "MachineHall$Hall" "clash" "[Z", .fieldLink RX1 37 "MachineHall$Hall" "latest" "[I"] ++ wsX10)
def wsX1_findWith : List Cond := .code yX1_findWith cX1_findWith 4 none :: ([.fieldLink RX1 51 "MachineHall$Hall" "asks" "I", .fieldLink RX1 37 "MachineHall$Hall" "latest" "[I", .fieldLink RX1 34 "MachineHall$Hall" "asked" "[Z", .fieldLink RX1 27 "MachineHall$Hall" "load" "[I", .methodLink RX1 71 yX1_greatestOn, .instanceMethod yX1_greatestOn, .selects RX1 yX1_greatestOn yX1_greatestOn, .initialized RX1, .code yX1_greatestOn cX1_greatestOn 4 (some .int), .fieldLink RX1 11 "MachineHall$Hall" "sizes" "[I", .fieldLink RX1 30 "MachineHall$Hall" "clash" "[Z"] ++ wsX10)
def wsX1_findLatest : List Cond := .code yX1_findLatest cX1_findLatest 4 none :: ([.fieldLink RX1 40 "MachineHall$Hall" "latestFor" "I", .fieldLink RX1 37 "MachineHall$Hall" "latest" "[I", .fieldLink RX1 48 "MachineHall$Hall" "machines" "I", .fieldLink RX1 11 "MachineHall$Hall" "sizes" "[I", .methodLink RX1 96 yJ7_fill_53178, .static yJ7_fill_53178, .initialized RJ7, .code yJ7_fill_53178 cJ7_fill_53178 4 none, .methodLink RX1 57 yX1_has, .static yX1_has, .initialized RX1, .code yX1_has cX1_has 2 (some .boolean), .methodLink RX1 102 yX1_findWith, .instanceMethod yX1_findWith, .selects RX1 yX1_findWith yX1_findWith, .code yX1_findWith cX1_findWith 4 none, .fieldLink RX1 51 "MachineHall$Hall" "asks" "I", .fieldLink RX1 34 "MachineHall$Hall" "asked" "[Z", .fieldLink RX1 27 "MachineHall$Hall" "load" "[I", .methodLink RX1 71 yX1_greatestOn, .instanceMethod yX1_greatestOn, .selects RX1 yX1_greatestOn yX1_greatestOn, .code yX1_greatestOn cX1_greatestOn 4 (some .int), .fieldLink RX1 30 "MachineHall$Hall" "clash" "[Z"] ++ wsX10)
def wsX1_holds_r1 : List Cond := [Cond.fieldLink RX1 37 "MachineHall$Hall" "latest" "[I", Cond.fieldLink RX1 24 "MachineHall$Hall" "ofHour" "[I", Cond.methodLink RX1 68 yX1_findLatest, Cond.instanceMethod yX1_findLatest, Cond.selects RX1 yX1_findLatest yX1_findLatest, Cond.initialized RX1, Cond.code yX1_findLatest cX1_findLatest 4 none, Cond.fieldLink RX1 40 "MachineHall$Hall" "latestFor" "I", Cond.fieldLink RX1 48 "MachineHall$Hall" "machines" "I", Cond.fieldLink RX1 11 "MachineHall$Hall" "sizes" "[I", Cond.methodLink RX1 96 yJ7_fill_53178, Cond.static yJ7_fill_53178, Cond.initialized RJ7, Cond.code yJ7_fill_53178 cJ7_fill_53178 4 none, Cond.methodLink RX1 57 yX1_has, Cond.static yX1_has, Cond.code yX1_has cX1_has 2 (some .boolean), Cond.methodLink RX1 102 yX1_findWith, Cond.instanceMethod yX1_findWith, Cond.selects RX1 yX1_findWith yX1_findWith, Cond.code yX1_findWith cX1_findWith 4 none, Cond.fieldLink RX1 51 "MachineHall$Hall" "asks" "I", Cond.fieldLink RX1 34 "MachineHall$Hall" "asked" "[Z", Cond.fieldLink RX1 27 "MachineHall$Hall" "load" "[I"]
def wsX1_holds_r2 : List Cond := [Cond.methodLink RX1 71 yX1_greatestOn, Cond.instanceMethod yX1_greatestOn, Cond.selects RX1 yX1_greatestOn yX1_greatestOn, Cond.code yX1_greatestOn cX1_greatestOn 4 (some .int), Cond.fieldLink RX1 30 "MachineHall$Hall" "clash" "[Z"]
def wsX1_holds : List Cond := .code yX1_holds cX1_holds 3 (some .boolean) :: ((wsX1_holds_r1 ++ wsX1_holds_r2) ++ wsX10)
def wsX1_layingOf_r1 : List Cond := [Cond.fieldLink RX1 24 "MachineHall$Hall" "ofHour" "[I", Cond.fieldLink RX1 48 "MachineHall$Hall" "machines" "I", Cond.methodLink RX1 68 yX1_findLatest, Cond.instanceMethod yX1_findLatest, Cond.selects RX1 yX1_findLatest yX1_findLatest, Cond.initialized RX1, Cond.code yX1_findLatest cX1_findLatest 4 none, Cond.fieldLink RX1 40 "MachineHall$Hall" "latestFor" "I", Cond.fieldLink RX1 37 "MachineHall$Hall" "latest" "[I", Cond.fieldLink RX1 11 "MachineHall$Hall" "sizes" "[I", Cond.methodLink RX1 96 yJ7_fill_53178, Cond.static yJ7_fill_53178, Cond.initialized RJ7, Cond.code yJ7_fill_53178 cJ7_fill_53178 4 none, Cond.methodLink RX1 57 yX1_has, Cond.static yX1_has, Cond.code yX1_has cX1_has 2 (some .boolean), Cond.methodLink RX1 102 yX1_findWith, Cond.instanceMethod yX1_findWith, Cond.selects RX1 yX1_findWith yX1_findWith, Cond.code yX1_findWith cX1_findWith 4 none, Cond.fieldLink RX1 51 "MachineHall$Hall" "asks" "I", Cond.fieldLink RX1 34 "MachineHall$Hall" "asked" "[Z", Cond.fieldLink RX1 27 "MachineHall$Hall" "load" "[I"]
def wsX1_layingOf_r2 : List Cond := [Cond.methodLink RX1 71 yX1_greatestOn, Cond.instanceMethod yX1_greatestOn, Cond.selects RX1 yX1_greatestOn yX1_greatestOn, Cond.code yX1_greatestOn cX1_greatestOn 4 (some .int), Cond.fieldLink RX1 30 "MachineHall$Hall" "clash" "[Z"]
def wsX1_layingOf : List Cond := .code yX1_layingOf cX1_layingOf 7 (some .int) :: ((wsX1_layingOf_r1 ++ wsX1_layingOf_r2) ++ wsX10)
def wsX1_lacking_r1 : List Cond := [Cond.fieldLink RX1 24 "MachineHall$Hall" "ofHour" "[I", Cond.fieldLink RX1 37 "MachineHall$Hall" "latest" "[I", Cond.fieldLink RX1 27 "MachineHall$Hall" "load" "[I", Cond.methodLink RX1 75 Lib.Math.max.name, Cond.static Lib.Math.max.name, Cond.initialized "java/lang/Math", Cond.code Lib.Math.max.name Lib.Math.max.code 2 (some .int), Cond.methodLink RX1 68 yX1_findLatest, Cond.instanceMethod yX1_findLatest, Cond.selects RX1 yX1_findLatest yX1_findLatest, Cond.initialized RX1, Cond.code yX1_findLatest cX1_findLatest 4 none, Cond.fieldLink RX1 40 "MachineHall$Hall" "latestFor" "I", Cond.fieldLink RX1 48 "MachineHall$Hall" "machines" "I", Cond.fieldLink RX1 11 "MachineHall$Hall" "sizes" "[I", Cond.methodLink RX1 96 yJ7_fill_53178, Cond.static yJ7_fill_53178, Cond.initialized RJ7, Cond.code yJ7_fill_53178 cJ7_fill_53178 4 none, Cond.methodLink RX1 57 yX1_has, Cond.static yX1_has, Cond.code yX1_has cX1_has 2 (some .boolean), Cond.methodLink RX1 102 yX1_findWith, Cond.instanceMethod yX1_findWith]
def wsX1_lacking_r2 : List Cond := [Cond.selects RX1 yX1_findWith yX1_findWith, Cond.code yX1_findWith cX1_findWith 4 none, Cond.fieldLink RX1 51 "MachineHall$Hall" "asks" "I", Cond.fieldLink RX1 34 "MachineHall$Hall" "asked" "[Z", Cond.methodLink RX1 71 yX1_greatestOn, Cond.instanceMethod yX1_greatestOn, Cond.selects RX1 yX1_greatestOn yX1_greatestOn, Cond.code yX1_greatestOn cX1_greatestOn 4 (some .int), Cond.fieldLink RX1 30 "MachineHall$Hall" "clash" "[Z"]
def wsX1_lacking : List Cond := .code yX1_lacking cX1_lacking 6 (some .int) :: ((wsX1_lacking_r1 ++ wsX1_lacking_r2) ++ wsX10)
def wsX1_leftOver_r1 : List Cond := [Cond.fieldLink RX1 24 "MachineHall$Hall" "ofHour" "[I", Cond.fieldLink RX1 37 "MachineHall$Hall" "latest" "[I", Cond.fieldLink RX1 27 "MachineHall$Hall" "load" "[I", Cond.methodLink RX1 68 yX1_findLatest, Cond.instanceMethod yX1_findLatest, Cond.selects RX1 yX1_findLatest yX1_findLatest, Cond.initialized RX1, Cond.code yX1_findLatest cX1_findLatest 4 none, Cond.fieldLink RX1 40 "MachineHall$Hall" "latestFor" "I", Cond.fieldLink RX1 48 "MachineHall$Hall" "machines" "I", Cond.fieldLink RX1 11 "MachineHall$Hall" "sizes" "[I", Cond.methodLink RX1 96 yJ7_fill_53178, Cond.static yJ7_fill_53178, Cond.initialized RJ7, Cond.code yJ7_fill_53178 cJ7_fill_53178 4 none, Cond.methodLink RX1 57 yX1_has, Cond.static yX1_has, Cond.code yX1_has cX1_has 2 (some .boolean), Cond.methodLink RX1 102 yX1_findWith, Cond.instanceMethod yX1_findWith, Cond.selects RX1 yX1_findWith yX1_findWith, Cond.code yX1_findWith cX1_findWith 4 none, Cond.fieldLink RX1 51 "MachineHall$Hall" "asks" "I", Cond.fieldLink RX1 34 "MachineHall$Hall" "asked" "[Z"]
def wsX1_leftOver_r2 : List Cond := [Cond.methodLink RX1 71 yX1_greatestOn, Cond.instanceMethod yX1_greatestOn, Cond.selects RX1 yX1_greatestOn yX1_greatestOn, Cond.code yX1_greatestOn cX1_greatestOn 4 (some .int), Cond.fieldLink RX1 30 "MachineHall$Hall" "clash" "[Z", Cond.methodLink RX1 80 yX1_sizeOf, Cond.instanceMethod yX1_sizeOf, Cond.selects RX1 yX1_sizeOf yX1_sizeOf, Cond.code yX1_sizeOf cX1_sizeOf 4 (some .int)]
def wsX1_leftOver : List Cond := .code yX1_leftOver cX1_leftOver 4 (some .int) :: ((wsX1_leftOver_r1 ++ wsX1_leftOver_r2) ++ wsX10)
def wsX1_isLookedAt : List Cond := .code yX1_isLookedAt cX1_isLookedAt 3 (some .boolean) :: ([.fieldLink RX1 48 "MachineHall$Hall" "machines" "I"] ++ wsX10)
def wsX1_firstUnfitHour_r1 : List Cond := [Cond.methodLink RX1 93 yX1_holds, Cond.instanceMethod yX1_holds, Cond.selects RX1 yX1_holds yX1_holds, Cond.initialized RX1, Cond.code yX1_holds cX1_holds 3 (some .boolean), Cond.fieldLink RX1 37 "MachineHall$Hall" "latest" "[I", Cond.fieldLink RX1 24 "MachineHall$Hall" "ofHour" "[I", Cond.methodLink RX1 68 yX1_findLatest, Cond.instanceMethod yX1_findLatest, Cond.selects RX1 yX1_findLatest yX1_findLatest, Cond.code yX1_findLatest cX1_findLatest 4 none, Cond.fieldLink RX1 40 "MachineHall$Hall" "latestFor" "I", Cond.fieldLink RX1 48 "MachineHall$Hall" "machines" "I", Cond.fieldLink RX1 11 "MachineHall$Hall" "sizes" "[I", Cond.methodLink RX1 96 yJ7_fill_53178, Cond.static yJ7_fill_53178, Cond.initialized RJ7, Cond.code yJ7_fill_53178 cJ7_fill_53178 4 none, Cond.methodLink RX1 57 yX1_has, Cond.static yX1_has, Cond.code yX1_has cX1_has 2 (some .boolean), Cond.methodLink RX1 102 yX1_findWith, Cond.instanceMethod yX1_findWith, Cond.selects RX1 yX1_findWith yX1_findWith]
def wsX1_firstUnfitHour_r2 : List Cond := [Cond.code yX1_findWith cX1_findWith 4 none, Cond.fieldLink RX1 51 "MachineHall$Hall" "asks" "I", Cond.fieldLink RX1 34 "MachineHall$Hall" "asked" "[Z", Cond.fieldLink RX1 27 "MachineHall$Hall" "load" "[I", Cond.methodLink RX1 71 yX1_greatestOn, Cond.instanceMethod yX1_greatestOn, Cond.selects RX1 yX1_greatestOn yX1_greatestOn, Cond.code yX1_greatestOn cX1_greatestOn 4 (some .int), Cond.fieldLink RX1 30 "MachineHall$Hall" "clash" "[Z"]
def wsX1_firstUnfitHour : List Cond := .code yX1_firstUnfitHour cX1_firstUnfitHour 4 (some .int) :: ((wsX1_firstUnfitHour_r1 ++ wsX1_firstUnfitHour_r2) ++ wsX10)
def wsX1_firstUnfit_r1 : List Cond := [Cond.methodLink RX1 84 yX1_isLookedAt, Cond.instanceMethod yX1_isLookedAt, Cond.selects RX1 yX1_isLookedAt yX1_isLookedAt, Cond.initialized RX1, Cond.code yX1_isLookedAt cX1_isLookedAt 3 (some .boolean), Cond.fieldLink RX1 48 "MachineHall$Hall" "machines" "I", Cond.methodLink RX1 87 yX1_standing, Cond.instanceMethod yX1_standing, Cond.selects RX1 yX1_standing yX1_standing, Cond.code yX1_standing cX1_standing 2 (some .int), Cond.fieldLink RX1 54 "MachineHall$Hall" "ups" "I", Cond.fieldLink RX1 15 "MachineHall$Hall" "inRoom" "[I", Cond.methodLink RX1 90 yX1_firstUnfitHour, Cond.instanceMethod yX1_firstUnfitHour, Cond.selects RX1 yX1_firstUnfitHour yX1_firstUnfitHour, Cond.code yX1_firstUnfitHour cX1_firstUnfitHour 4 (some .int), Cond.methodLink RX1 93 yX1_holds, Cond.instanceMethod yX1_holds, Cond.selects RX1 yX1_holds yX1_holds, Cond.code yX1_holds cX1_holds 3 (some .boolean), Cond.fieldLink RX1 37 "MachineHall$Hall" "latest" "[I", Cond.fieldLink RX1 24 "MachineHall$Hall" "ofHour" "[I", Cond.methodLink RX1 68 yX1_findLatest, Cond.instanceMethod yX1_findLatest]
def wsX1_firstUnfit_r2 : List Cond := [Cond.selects RX1 yX1_findLatest yX1_findLatest, Cond.code yX1_findLatest cX1_findLatest 4 none, Cond.fieldLink RX1 40 "MachineHall$Hall" "latestFor" "I", Cond.fieldLink RX1 11 "MachineHall$Hall" "sizes" "[I", Cond.methodLink RX1 96 yJ7_fill_53178, Cond.static yJ7_fill_53178, Cond.initialized RJ7, Cond.code yJ7_fill_53178 cJ7_fill_53178 4 none, Cond.methodLink RX1 57 yX1_has, Cond.static yX1_has, Cond.code yX1_has cX1_has 2 (some .boolean), Cond.methodLink RX1 102 yX1_findWith, Cond.instanceMethod yX1_findWith, Cond.selects RX1 yX1_findWith yX1_findWith, Cond.code yX1_findWith cX1_findWith 4 none, Cond.fieldLink RX1 51 "MachineHall$Hall" "asks" "I", Cond.fieldLink RX1 34 "MachineHall$Hall" "asked" "[Z", Cond.fieldLink RX1 27 "MachineHall$Hall" "load" "[I", Cond.methodLink RX1 71 yX1_greatestOn, Cond.instanceMethod yX1_greatestOn, Cond.selects RX1 yX1_greatestOn yX1_greatestOn, Cond.code yX1_greatestOn cX1_greatestOn 4 (some .int), Cond.fieldLink RX1 30 "MachineHall$Hall" "clash" "[Z"]
def wsX1_firstUnfit : List Cond := .code yX1_firstUnfit cX1_firstUnfit 6 (some .int) :: ((wsX1_firstUnfit_r1 ++ wsX1_firstUnfit_r2) ++ wsX10)
def wsX2_init : List Cond := .code yX2_init cX2_init 1 none :: ([.methodLink RX2 5 objectInit, .instanceMethod objectInit, .code objectInit ⟨#[0xb1]⟩ 1 none, .classLink RX2 11 "[[I", .arrayClass .int, .fieldLink RX2 13 "MachineHall$Market" "bought" "[[I", .fieldLink RX2 16 "MachineHall$Market" "wants" "[I", .fieldLink RX2 20 "MachineHall$Market" "sizes" "[I", .fieldLink RX2 23 "MachineHall$Market" "leads" "[I", .fieldLink RX2 26 "MachineHall$Market" "powers" "[I", .fieldLink RX2 29 "MachineHall$Market" "prices" "[[I", .fieldLink RX2 32 "MachineHall$Market" "toPay" "[I", .arrayClass .long, .fieldLink RX2 35 "MachineHall$Market" "oneMore" "[J"] ++ wsX20)
def wsX2_hasType : List Cond := .code yX2_hasType cX2_hasType 2 (some .boolean) :: ([.fieldLink RX2 39 "MachineHall$Market" "types" "I", .static yX6_within, .initialized RX6, .code yX6_within cX6_within 4 (some .boolean)] ++ wsX20)
def wsX2_isEnough : List Cond := .code yX2_isEnough cX2_isEnough 1 (some .boolean) :: ([.fieldLink RX2 47 "MachineHall$Market" "least" "I", .constant RX2 50 (1000000000)] ++ wsX20)
def wsX4_at : List Cond := .code yX4_at cX4_at 3 (some .long) :: ([.fieldLink RX4 13 "MachineHall$Sheets" "numbers" "[[J"] ++ wsX40)
def wsX2_want : List Cond := .code yX2_want cX2_want 4 none :: ([.fieldLink RX2 16 "MachineHall$Market" "wants" "[I", .fieldLink RX2 57 "MachineHall$Market" "solved" "Z", .methodLink RX2 51 yX4_at, .instanceMethod yX4_at, .selects RX4 yX4_at yX4_at, .initialized RX4, .code yX4_at cX4_at 3 (some .long), .fieldLink RX4 13 "MachineHall$Sheets" "numbers" "[[J"] ++ wsX20 ++ wsX40)
def wsX2_own : List Cond := .code yX2_own cX2_own 2 none :: ([.fieldLink RX2 61 "MachineHall$Market" "owned" "I", .fieldLink RX2 57 "MachineHall$Market" "solved" "Z"] ++ wsX20)
def wsX2_addType : List Cond := .code yX2_addType cX2_addType 8 (some .int) :: ([.fieldLink RX2 39 "MachineHall$Market" "types" "I", .fieldLink RX2 20 "MachineHall$Market" "sizes" "[I", .fieldLink RX2 23 "MachineHall$Market" "leads" "[I", .fieldLink RX2 26 "MachineHall$Market" "powers" "[I", .fieldLink RX2 29 "MachineHall$Market" "prices" "[[I", .fieldLink RX2 57 "MachineHall$Market" "solved" "Z", .methodLink RX2 51 yX4_at, .instanceMethod yX4_at, .selects RX4 yX4_at yX4_at, .initialized RX4, .code yX4_at cX4_at 3 (some .long), .fieldLink RX4 13 "MachineHall$Sheets" "numbers" "[[J"] ++ wsX20 ++ wsX40)
def wsJ7_fill_d0a16 : List Cond := .code yJ7_fill_d0a16 cJ7_fill_d0a16 5 none :: ([])
def wsJ7_rangeCheck_23922 : List Cond := .code yJ7_rangeCheck_23922 cJ7_rangeCheck_23922 3 none :: ([])
def wsJ7_fill_fda19 : List Cond := .code yJ7_fill_fda19 cJ7_fill_fda19 5 none :: ([.methodLink RJ7 13 yJ7_rangeCheck_23922, .static yJ7_rangeCheck_23922, .initialized RJ7, .code yJ7_rangeCheck_23922 cJ7_rangeCheck_23922 3 none])
def wsX2_word : List Cond := .code yX2_word cX2_word 3 (some .int) :: ([])
def wsX2_offer : List Cond := .code yX2_offer cX2_offer 6 none :: ([.fieldLink RX2 29 "MachineHall$Market" "prices" "[[I", .fieldLink RX2 23 "MachineHall$Market" "leads" "[I", .fieldLink RX2 26 "MachineHall$Market" "powers" "[I", .fieldLink RX2 32 "MachineHall$Market" "toPay" "[I", .fieldLink RX2 20 "MachineHall$Market" "sizes" "[I", .methodLink RX2 87 Lib.Math.min.name, .static Lib.Math.min.name, .initialized "java/lang/Math", .code Lib.Math.min.name Lib.Math.min.code 2 (some .int), .fieldLink RX2 35 "MachineHall$Market" "oneMore" "[J", .methodLink RX2 93 yX2_word, .static yX2_word, .initialized RX2, .code yX2_word cX2_word 3 (some .int)] ++ wsX20)
def wsX2_mustBuy : List Cond := .code yX2_mustBuy cX2_mustBuy 4 (some .boolean) :: ([.fieldLink RX2 35 "MachineHall$Market" "oneMore" "[J", .methodLink RX2 93 yX2_word, .static yX2_word, .initialized RX2, .code yX2_word cX2_word 3 (some .int)] ++ wsX20)
def wsX2_choose : List Cond := .code yX2_choose cX2_choose 5 none :: ([.fieldLink RX2 61 "MachineHall$Market" "owned" "I", .fieldLink RX2 39 "MachineHall$Market" "types" "I", .fieldLink RX2 20 "MachineHall$Market" "sizes" "[I", .methodLink RX2 87 Lib.Math.min.name, .static Lib.Math.min.name, .initialized "java/lang/Math", .code Lib.Math.min.name Lib.Math.min.code 2 (some .int), .fieldLink RX2 13 "MachineHall$Market" "bought" "[[I", .methodLink RX2 97 yX2_mustBuy, .instanceMethod yX2_mustBuy, .selects RX2 yX2_mustBuy yX2_mustBuy, .initialized RX2, .code yX2_mustBuy cX2_mustBuy 4 (some .boolean), .fieldLink RX2 35 "MachineHall$Market" "oneMore" "[J", .methodLink RX2 93 yX2_word, .static yX2_word, .code yX2_word cX2_word 3 (some .int)] ++ wsX20)
def wsX2_solve_r1 : List Cond := [Cond.fieldLink RX2 57 "MachineHall$Market" "solved" "Z", Cond.fieldLink RX2 32 "MachineHall$Market" "toPay" "[I", Cond.fieldLink RX2 35 "MachineHall$Market" "oneMore" "[J", Cond.fieldLink RX2 16 "MachineHall$Market" "wants" "[I", Cond.constant RX2 50 (1000000000), Cond.fieldLink RX2 39 "MachineHall$Market" "types" "I", Cond.fieldLink RX2 23 "MachineHall$Market" "leads" "[I", Cond.fieldLink RX2 61 "MachineHall$Market" "owned" "I", Cond.fieldLink RX2 47 "MachineHall$Market" "least" "I", Cond.methodLink RX2 64 yJ7_fill_53178, Cond.static yJ7_fill_53178, Cond.initialized RJ7, Cond.code yJ7_fill_53178 cJ7_fill_53178 4 none, Cond.methodLink RX2 70 yJ7_fill_d0a16, Cond.static yJ7_fill_d0a16, Cond.code yJ7_fill_d0a16 cJ7_fill_d0a16 5 none, Cond.methodLink RX2 73 yJ7_fill_fda19, Cond.static yJ7_fill_fda19, Cond.code yJ7_fill_fda19 cJ7_fill_fda19 5 none, Cond.methodLink RJ7 13 yJ7_rangeCheck_23922, Cond.static yJ7_rangeCheck_23922, Cond.code yJ7_rangeCheck_23922 cJ7_rangeCheck_23922 3 none, Cond.methodLink RX2 76 yX2_offer, Cond.instanceMethod yX2_offer]
def wsX2_solve_r2 : List Cond := [Cond.selects RX2 yX2_offer yX2_offer, Cond.initialized RX2, Cond.code yX2_offer cX2_offer 6 none, Cond.fieldLink RX2 29 "MachineHall$Market" "prices" "[[I", Cond.fieldLink RX2 26 "MachineHall$Market" "powers" "[I", Cond.fieldLink RX2 20 "MachineHall$Market" "sizes" "[I", Cond.methodLink RX2 87 Lib.Math.min.name, Cond.static Lib.Math.min.name, Cond.initialized "java/lang/Math", Cond.code Lib.Math.min.name Lib.Math.min.code 2 (some .int), Cond.methodLink RX2 93 yX2_word, Cond.static yX2_word, Cond.code yX2_word cX2_word 3 (some .int), Cond.methodLink RX2 80 yX2_isEnough, Cond.instanceMethod yX2_isEnough, Cond.selects RX2 yX2_isEnough yX2_isEnough, Cond.code yX2_isEnough cX2_isEnough 1 (some .boolean), Cond.methodLink RX2 84 yX2_choose, Cond.instanceMethod yX2_choose, Cond.selects RX2 yX2_choose yX2_choose, Cond.code yX2_choose cX2_choose 5 none, Cond.fieldLink RX2 13 "MachineHall$Market" "bought" "[[I", Cond.methodLink RX2 97 yX2_mustBuy, Cond.instanceMethod yX2_mustBuy]
def wsX2_solve_r3 : List Cond := [Cond.selects RX2 yX2_mustBuy yX2_mustBuy, Cond.code yX2_mustBuy cX2_mustBuy 4 (some .boolean)]
def wsX2_solve : List Cond := .code yX2_solve cX2_solve 3 none :: ((wsX2_solve_r1 ++ (wsX2_solve_r2 ++ wsX2_solve_r3)) ++ wsX20)
def wsX3_init : List Cond := .code yX3_init cX3_init 1 none :: ([.methodLink RX3 5 objectInit, .instanceMethod objectInit, .code objectInit ⟨#[0xb1]⟩ 1 none, .classLink RX3 11 "[[I", .arrayClass .int, .fieldLink RX3 13 "MachineHall$Plan" "parts" "[[I", .fieldLink RX3 16 "MachineHall$Plan" "works" "[I", .fieldLink RX3 20 "MachineHall$Plan" "froms" "[I", .fieldLink RX3 23 "MachineHall$Plan" "dues" "[I", .fieldLink RX3 26 "MachineHall$Plan" "mosts" "[I", .classLink RX3 29 RX0, .instantiable RX0 4, .initialized RX0, .fieldLink RX3 34 "MachineHall$Plan" "flow" "LMachineHall$Flow;", .fieldLink RX3 38 "MachineHall$Plan" "laidFor" "I", .methodLink RX3 31 yX0_init, .instanceMethod yX0_init, .code yX0_init cX0_init 2 none, .methodLink RX0 3 objectInit, .fieldLink RX0 9 "MachineHall$Flow" "nodes" "I", .classLink RX0 15 "[[I", .fieldLink RX0 17 "MachineHall$Flow" "open" "[[I", .fieldLink RX0 20 "MachineHall$Flow" "cameFrom" "[I", .fieldLink RX0 24 "MachineHall$Flow" "reached" "[I"] ++ wsX30 ++ wsX00)
def wsX3_hasBatch : List Cond := .code yX3_hasBatch cX3_hasBatch 2 (some .boolean) :: ([.fieldLink RX3 42 "MachineHall$Plan" "batches" "I", .static yX6_within, .initialized RX6, .code yX6_within cX6_within 4 (some .boolean)] ++ wsX30)
def wsX3_forget : List Cond := .code yX3_forget cX3_forget 1 none :: ([.fieldLink RX3 38 "MachineHall$Plan" "laidFor" "I"] ++ wsX30)
def wsX3_addBatch : List Cond := .code yX3_addBatch cX3_addBatch 6 (some .int) :: ([.fieldLink RX3 42 "MachineHall$Plan" "batches" "I", .fieldLink RX3 16 "MachineHall$Plan" "works" "[I", .fieldLink RX3 20 "MachineHall$Plan" "froms" "[I", .fieldLink RX3 23 "MachineHall$Plan" "dues" "[I", .fieldLink RX3 26 "MachineHall$Plan" "mosts" "[I", .methodLink RX3 49 yX3_forget, .instanceMethod yX3_forget, .selects RX3 yX3_forget yX3_forget, .initialized RX3, .code yX3_forget cX3_forget 1 none, .fieldLink RX3 38 "MachineHall$Plan" "laidFor" "I"] ++ wsX30)
def wsX3_layPipes_r1 : List Cond := [Cond.fieldLink RX3 34 "MachineHall$Plan" "flow" "LMachineHall$Flow;", Cond.fieldLink RX3 42 "MachineHall$Plan" "batches" "I", Cond.fieldLink RX3 16 "MachineHall$Plan" "works" "[I", Cond.fieldLink RX3 20 "MachineHall$Plan" "froms" "[I", Cond.fieldLink RX3 23 "MachineHall$Plan" "dues" "[I", Cond.fieldLink RX3 26 "MachineHall$Plan" "mosts" "[I", Cond.methodLink RX3 66 yX0_empty, Cond.instanceMethod yX0_empty, Cond.selects RX0 yX0_empty yX0_empty, Cond.initialized RX0, Cond.code yX0_empty cX0_empty 2 none, Cond.fieldLink RX0 9 "MachineHall$Flow" "nodes" "I", Cond.fieldLink RX0 17 "MachineHall$Flow" "open" "[[I", Cond.methodLink RX0 27 yJ7_fill_53178, Cond.static yJ7_fill_53178, Cond.initialized RJ7, Cond.code yJ7_fill_53178 cJ7_fill_53178 4 none, Cond.methodLink RX3 69 yX0_pipe, Cond.instanceMethod yX0_pipe, Cond.selects RX0 yX0_pipe yX0_pipe, Cond.code yX0_pipe cX0_pipe 4 none, Cond.methodLink RX3 73 yX1_leftOver, Cond.instanceMethod yX1_leftOver, Cond.selects RX1 yX1_leftOver yX1_leftOver]
def wsX3_layPipes_r2 : List Cond := [Cond.initialized RX1, Cond.code yX1_leftOver cX1_leftOver 4 (some .int), Cond.fieldLink RX1 24 "MachineHall$Hall" "ofHour" "[I", Cond.fieldLink RX1 37 "MachineHall$Hall" "latest" "[I", Cond.fieldLink RX1 27 "MachineHall$Hall" "load" "[I", Cond.methodLink RX1 68 yX1_findLatest, Cond.instanceMethod yX1_findLatest, Cond.selects RX1 yX1_findLatest yX1_findLatest, Cond.code yX1_findLatest cX1_findLatest 4 none, Cond.fieldLink RX1 40 "MachineHall$Hall" "latestFor" "I", Cond.fieldLink RX1 48 "MachineHall$Hall" "machines" "I", Cond.fieldLink RX1 11 "MachineHall$Hall" "sizes" "[I", Cond.methodLink RX1 96 yJ7_fill_53178, Cond.methodLink RX1 57 yX1_has, Cond.static yX1_has, Cond.code yX1_has cX1_has 2 (some .boolean), Cond.methodLink RX1 102 yX1_findWith, Cond.instanceMethod yX1_findWith, Cond.selects RX1 yX1_findWith yX1_findWith, Cond.code yX1_findWith cX1_findWith 4 none, Cond.fieldLink RX1 51 "MachineHall$Hall" "asks" "I", Cond.fieldLink RX1 34 "MachineHall$Hall" "asked" "[Z", Cond.methodLink RX1 71 yX1_greatestOn, Cond.instanceMethod yX1_greatestOn]
def wsX3_layPipes_r3 : List Cond := [Cond.selects RX1 yX1_greatestOn yX1_greatestOn, Cond.code yX1_greatestOn cX1_greatestOn 4 (some .int), Cond.fieldLink RX1 30 "MachineHall$Hall" "clash" "[Z", Cond.methodLink RX1 80 yX1_sizeOf, Cond.instanceMethod yX1_sizeOf, Cond.selects RX1 yX1_sizeOf yX1_sizeOf, Cond.code yX1_sizeOf cX1_sizeOf 4 (some .int)]
def wsX3_layPipes : List Cond := .code yX3_layPipes cX3_layPipes 6 (some .int) :: ((wsX3_layPipes_r1 ++ (wsX3_layPipes_r2 ++ wsX3_layPipes_r3)) ++ wsX30 ++ wsX00 ++ wsX10)
def wsX3_settleParts_r1 : List Cond := [Cond.fieldLink RX3 42 "MachineHall$Plan" "batches" "I", Cond.fieldLink RX3 20 "MachineHall$Plan" "froms" "[I", Cond.fieldLink RX3 23 "MachineHall$Plan" "dues" "[I", Cond.fieldLink RX3 13 "MachineHall$Plan" "parts" "[[I", Cond.fieldLink RX3 34 "MachineHall$Plan" "flow" "LMachineHall$Flow;", Cond.methodLink RX3 79 yX0_settle, Cond.instanceMethod yX0_settle, Cond.selects RX0 yX0_settle yX0_settle, Cond.initialized RX0, Cond.code yX0_settle cX0_settle 5 (some .int), Cond.fieldLink RX0 17 "MachineHall$Flow" "open" "[[I", Cond.methodLink RX0 42 yX0_push, Cond.instanceMethod yX0_push, Cond.selects RX0 yX0_push yX0_push, Cond.code yX0_push cX0_push 6 (some .int), Cond.constant RX0 33 (1000000), Cond.methodLink RX0 34 yX0_findWay, Cond.instanceMethod yX0_findWay, Cond.selects RX0 yX0_findWay yX0_findWay, Cond.code yX0_findWay cX0_findWay 7 (some .boolean), Cond.fieldLink RX0 20 "MachineHall$Flow" "cameFrom" "[I", Cond.fieldLink RX0 24 "MachineHall$Flow" "reached" "[I", Cond.fieldLink RX0 9 "MachineHall$Flow" "nodes" "I", Cond.methodLink RX0 27 yJ7_fill_53178]
def wsX3_settleParts_r2 : List Cond := [Cond.static yJ7_fill_53178, Cond.initialized RJ7, Cond.code yJ7_fill_53178 cJ7_fill_53178 4 none, Cond.methodLink RX0 38 yX0_send, Cond.instanceMethod yX0_send, Cond.selects RX0 yX0_send yX0_send, Cond.code yX0_send cX0_send 7 (some .int), Cond.methodLink RX0 45 Lib.Math.min.name, Cond.static Lib.Math.min.name, Cond.initialized "java/lang/Math", Cond.code Lib.Math.min.name Lib.Math.min.code 2 (some .int)]
def wsX3_settleParts : List Cond := .code yX3_settleParts cX3_settleParts 3 none :: ((wsX3_settleParts_r1 ++ wsX3_settleParts_r2) ++ wsX30 ++ wsX00)
def wsX3_lay_r1 : List Cond := [Cond.fieldLink RX3 38 "MachineHall$Plan" "laidFor" "I", Cond.fieldLink RX3 56 "MachineHall$Plan" "unlaid" "I", Cond.fieldLink RX3 34 "MachineHall$Plan" "flow" "LMachineHall$Flow;", Cond.methodLink RX3 52 yX3_layPipes, Cond.instanceMethod yX3_layPipes, Cond.selects RX3 yX3_layPipes yX3_layPipes, Cond.initialized RX3, Cond.code yX3_layPipes cX3_layPipes 6 (some .int), Cond.fieldLink RX3 42 "MachineHall$Plan" "batches" "I", Cond.fieldLink RX3 16 "MachineHall$Plan" "works" "[I", Cond.fieldLink RX3 20 "MachineHall$Plan" "froms" "[I", Cond.fieldLink RX3 23 "MachineHall$Plan" "dues" "[I", Cond.fieldLink RX3 26 "MachineHall$Plan" "mosts" "[I", Cond.methodLink RX3 66 yX0_empty, Cond.instanceMethod yX0_empty, Cond.selects RX0 yX0_empty yX0_empty, Cond.initialized RX0, Cond.code yX0_empty cX0_empty 2 none, Cond.fieldLink RX0 9 "MachineHall$Flow" "nodes" "I", Cond.fieldLink RX0 17 "MachineHall$Flow" "open" "[[I", Cond.methodLink RX0 27 yJ7_fill_53178, Cond.static yJ7_fill_53178, Cond.initialized RJ7, Cond.code yJ7_fill_53178 cJ7_fill_53178 4 none]
def wsX3_lay_r2 : List Cond := [Cond.methodLink RX3 69 yX0_pipe, Cond.instanceMethod yX0_pipe, Cond.selects RX0 yX0_pipe yX0_pipe, Cond.code yX0_pipe cX0_pipe 4 none, Cond.methodLink RX3 73 yX1_leftOver, Cond.instanceMethod yX1_leftOver, Cond.selects RX1 yX1_leftOver yX1_leftOver, Cond.initialized RX1, Cond.code yX1_leftOver cX1_leftOver 4 (some .int), Cond.fieldLink RX1 24 "MachineHall$Hall" "ofHour" "[I", Cond.fieldLink RX1 37 "MachineHall$Hall" "latest" "[I", Cond.fieldLink RX1 27 "MachineHall$Hall" "load" "[I", Cond.methodLink RX1 68 yX1_findLatest, Cond.instanceMethod yX1_findLatest, Cond.selects RX1 yX1_findLatest yX1_findLatest, Cond.code yX1_findLatest cX1_findLatest 4 none, Cond.fieldLink RX1 40 "MachineHall$Hall" "latestFor" "I", Cond.fieldLink RX1 48 "MachineHall$Hall" "machines" "I", Cond.fieldLink RX1 11 "MachineHall$Hall" "sizes" "[I", Cond.methodLink RX1 96 yJ7_fill_53178, Cond.methodLink RX1 57 yX1_has, Cond.static yX1_has, Cond.code yX1_has cX1_has 2 (some .boolean), Cond.methodLink RX1 102 yX1_findWith]
def wsX3_lay_r3 : List Cond := [Cond.instanceMethod yX1_findWith, Cond.selects RX1 yX1_findWith yX1_findWith, Cond.code yX1_findWith cX1_findWith 4 none, Cond.fieldLink RX1 51 "MachineHall$Hall" "asks" "I", Cond.fieldLink RX1 34 "MachineHall$Hall" "asked" "[Z", Cond.methodLink RX1 71 yX1_greatestOn, Cond.instanceMethod yX1_greatestOn, Cond.selects RX1 yX1_greatestOn yX1_greatestOn, Cond.code yX1_greatestOn cX1_greatestOn 4 (some .int), Cond.fieldLink RX1 30 "MachineHall$Hall" "clash" "[Z", Cond.methodLink RX1 80 yX1_sizeOf, Cond.instanceMethod yX1_sizeOf, Cond.selects RX1 yX1_sizeOf yX1_sizeOf, Cond.code yX1_sizeOf cX1_sizeOf 4 (some .int), Cond.methodLink RX3 59 yX0_push, Cond.instanceMethod yX0_push, Cond.selects RX0 yX0_push yX0_push, Cond.code yX0_push cX0_push 6 (some .int), Cond.constant RX0 33 (1000000), Cond.methodLink RX0 34 yX0_findWay, Cond.instanceMethod yX0_findWay, Cond.selects RX0 yX0_findWay yX0_findWay, Cond.code yX0_findWay cX0_findWay 7 (some .boolean), Cond.fieldLink RX0 20 "MachineHall$Flow" "cameFrom" "[I"]
def wsX3_lay_r4 : List Cond := [Cond.fieldLink RX0 24 "MachineHall$Flow" "reached" "[I", Cond.methodLink RX0 38 yX0_send, Cond.instanceMethod yX0_send, Cond.selects RX0 yX0_send yX0_send, Cond.code yX0_send cX0_send 7 (some .int), Cond.methodLink RX0 45 Lib.Math.min.name, Cond.static Lib.Math.min.name, Cond.initialized "java/lang/Math", Cond.code Lib.Math.min.name Lib.Math.min.code 2 (some .int), Cond.methodLink RX3 63 yX3_settleParts, Cond.instanceMethod yX3_settleParts, Cond.selects RX3 yX3_settleParts yX3_settleParts, Cond.code yX3_settleParts cX3_settleParts 3 none, Cond.fieldLink RX3 13 "MachineHall$Plan" "parts" "[[I", Cond.methodLink RX3 79 yX0_settle, Cond.instanceMethod yX0_settle, Cond.selects RX0 yX0_settle yX0_settle, Cond.code yX0_settle cX0_settle 5 (some .int), Cond.methodLink RX0 42 yX0_push]
def wsX3_lay : List Cond := .code yX3_lay cX3_lay 3 none :: ((wsX3_lay_r1 ++ (wsX3_lay_r2 ++ (wsX3_lay_r3 ++ wsX3_lay_r4))) ++ wsX30 ++ wsX00 ++ wsX10)
def wsX4_init : List Cond := .code yX4_init cX4_init 1 none :: ([.methodLink RX4 3 objectInit, .instanceMethod objectInit, .code objectInit ⟨#[0xb1]⟩ 1 none, .classLink RX4 11 "[[J", .arrayClass .long, .fieldLink RX4 13 "MachineHall$Sheets" "numbers" "[[J", .arrayClass .int, .fieldLink RX4 16 "MachineHall$Sheets" "sorts" "[I", .fieldLink RX4 20 "MachineHall$Sheets" "lengths" "[I", .methodLink RX4 23 yJ7_fill_53178, .static yJ7_fill_53178, .initialized RJ7, .code yJ7_fill_53178 cJ7_fill_53178 4 none] ++ wsX40)
def wsX4_isNumber : List Cond := .code yX4_isNumber cX4_isNumber 1 (some .boolean) :: ([.static yX6_within, .initialized RX6, .code yX6_within cX6_within 4 (some .boolean)])
def wsX4_isMissing : List Cond := .code yX4_isMissing cX4_isMissing 2 (some .boolean) :: ([.fieldLink RX4 20 "MachineHall$Sheets" "lengths" "[I"] ++ wsX40)
def wsX4_make : List Cond := .code yX4_make cX4_make 4 none :: ([.fieldLink RX4 13 "MachineHall$Sheets" "numbers" "[[J", .fieldLink RX4 16 "MachineHall$Sheets" "sorts" "[I", .fieldLink RX4 20 "MachineHall$Sheets" "lengths" "[I", .methodLink RX4 33 yJ7_fill_d0a16, .static yJ7_fill_d0a16, .initialized RJ7, .code yJ7_fill_d0a16 cJ7_fill_d0a16 5 none] ++ wsX40)
def wsX4_lose : List Cond := .code yX4_lose cX4_lose 2 none :: ([.fieldLink RX4 20 "MachineHall$Sheets" "lengths" "[I"] ++ wsX40)
def wsX4_cut : List Cond := .code yX4_cut cX4_cut 3 (some .long) :: ([])
def wsX4_put : List Cond := .code yX4_put cX4_put 5 none :: ([.fieldLink RX4 13 "MachineHall$Sheets" "numbers" "[[J", .fieldLink RX4 16 "MachineHall$Sheets" "sorts" "[I", .methodLink RX4 36 yX4_cut, .static yX4_cut, .initialized RX4, .code yX4_cut cX4_cut 3 (some .long)] ++ wsX40)
def wsX4_whyNoPlace : List Cond := .code yX4_whyNoPlace cX4_whyNoPlace 3 (some .int) :: ([.fieldLink RX4 20 "MachineHall$Sheets" "lengths" "[I", .methodLink RX4 40 yX4_isNumber, .static yX4_isNumber, .initialized RX4, .code yX4_isNumber cX4_isNumber 1 (some .boolean), .static yX6_within, .initialized RX6, .code yX6_within cX6_within 4 (some .boolean), .methodLink RX4 44 yX4_isMissing, .instanceMethod yX4_isMissing, .selects RX4 yX4_isMissing yX4_isMissing, .code yX4_isMissing cX4_isMissing 2 (some .boolean)] ++ wsX40)
def wsX4_whyNotFirst : List Cond := .code yX4_whyNotFirst cX4_whyNotFirst 5 (some .int) :: ([.fieldLink RX4 20 "MachineHall$Sheets" "lengths" "[I", .fieldLink RX4 13 "MachineHall$Sheets" "numbers" "[[J", .methodLink RX4 44 yX4_isMissing, .instanceMethod yX4_isMissing, .selects RX4 yX4_isMissing yX4_isMissing, .initialized RX4, .code yX4_isMissing cX4_isMissing 2 (some .boolean), .static yX6_within, .initialized RX6, .code yX6_within cX6_within 4 (some .boolean)] ++ wsX40)
def wsX4_spans : List Cond := .code yX4_spans cX4_spans 4 (some .boolean) :: ([.fieldLink RX4 20 "MachineHall$Sheets" "lengths" "[I"] ++ wsX40)
def wsX4_carry : List Cond := .code yX4_carry cX4_carry 7 none :: ([.fieldLink RX4 13 "MachineHall$Sheets" "numbers" "[[J", .methodLink RX4 47 arraycopyName, .native arraycopyName, .static arraycopyName, .initialized "java/lang/System", .methodLink RX4 53 yX4_put, .instanceMethod yX4_put, .selects RX4 yX4_put yX4_put, .initialized RX4, .code yX4_put cX4_put 5 none, .fieldLink RX4 16 "MachineHall$Sheets" "sorts" "[I", .methodLink RX4 36 yX4_cut, .static yX4_cut, .code yX4_cut cX4_cut 3 (some .long)] ++ wsX40)
def wsX5_init : List Cond := .code yX5_init cX5_init 1 none :: ([.methodLink RX5 1 objectInit, .instanceMethod objectInit, .code objectInit ⟨#[0xb1]⟩ 1 none, .arrayClass .int, .fieldLink RX5 9 "MachineHall$Waiting" "freeAt" "[I"] ++ wsX50)
def wsX5_note : List Cond := .code yX5_note cX5_note 2 none :: ([.fieldLink RX5 13 "MachineHall$Waiting" "greatest" "I", .methodLink RX5 41 Lib.Math.max.name, .static Lib.Math.max.name, .initialized "java/lang/Math", .code Lib.Math.max.name Lib.Math.max.code 2 (some .int), .fieldLink RX5 17 "MachineHall$Waiting" "together" "I", .fieldLink RX5 20 "MachineHall$Waiting" "came" "I", .fieldLink RX5 23 "MachineHall$Waiting" "waited" "I"] ++ wsX50)
def wsX5_serve_r1 : List Cond := [Cond.fieldLink RX5 13 "MachineHall$Waiting" "greatest" "I", Cond.fieldLink RX5 17 "MachineHall$Waiting" "together" "I", Cond.fieldLink RX5 20 "MachineHall$Waiting" "came" "I", Cond.fieldLink RX5 23 "MachineHall$Waiting" "waited" "I", Cond.fieldLink RX5 26 "MachineHall$Waiting" "end" "I", Cond.fieldLink RX5 9 "MachineHall$Waiting" "freeAt" "[I", Cond.methodLink RX5 41 Lib.Math.max.name, Cond.static Lib.Math.max.name, Cond.initialized "java/lang/Math", Cond.code Lib.Math.max.name Lib.Math.max.code 2 (some .int), Cond.methodLink RX5 29 yJ7_fill_53178, Cond.static yJ7_fill_53178, Cond.initialized RJ7, Cond.code yJ7_fill_53178 cJ7_fill_53178 4 none, Cond.methodLink RX5 35 yX4_at, Cond.instanceMethod yX4_at, Cond.selects RX4 yX4_at yX4_at, Cond.initialized RX4, Cond.code yX4_at cX4_at 3 (some .long), Cond.fieldLink RX4 13 "MachineHall$Sheets" "numbers" "[[J", Cond.methodLink RX5 47 yX5_note, Cond.instanceMethod yX5_note, Cond.selects RX5 yX5_note yX5_note, Cond.initialized RX5]
def wsX5_serve_r2 : List Cond := [Cond.code yX5_note cX5_note 2 none]
def wsX5_serve : List Cond := .code yX5_serve cX5_serve 12 none :: ((wsX5_serve_r1 ++ wsX5_serve_r2) ++ wsX50 ++ wsX40)
def wsX5_told : List Cond := .code yX5_told cX5_told 2 (some .int) :: ([.fieldLink RX5 13 "MachineHall$Waiting" "greatest" "I", .fieldLink RX5 17 "MachineHall$Waiting" "together" "I", .fieldLink RX5 20 "MachineHall$Waiting" "came" "I", .fieldLink RX5 23 "MachineHall$Waiting" "waited" "I", .fieldLink RX5 26 "MachineHall$Waiting" "end" "I"] ++ wsX50)
def wsX6_init_r1 : List Cond := [Cond.methodLink RX6 1 objectInit, Cond.instanceMethod objectInit, Cond.code objectInit ⟨#[0xb1]⟩ 1 none, Cond.classLink RX6 7 RX4, Cond.instantiable RX4 3, Cond.initialized RX4, Cond.fieldLink RX6 10 "MachineHall" "sheets" "LMachineHall$Sheets;", Cond.classLink RX6 16 RX1, Cond.instantiable RX1 13, Cond.initialized RX1, Cond.fieldLink RX6 19 "MachineHall" "hall" "LMachineHall$Hall;", Cond.classLink RX6 23 RX3, Cond.instantiable RX3 9, Cond.initialized RX3, Cond.fieldLink RX6 26 "MachineHall" "plan" "LMachineHall$Plan;", Cond.classLink RX6 30 RX5, Cond.instantiable RX5 6, Cond.initialized RX5, Cond.fieldLink RX6 33 "MachineHall" "waiting" "LMachineHall$Waiting;", Cond.classLink RX6 37 RX2, Cond.instantiable RX2 12, Cond.initialized RX2, Cond.fieldLink RX6 40 "MachineHall" "market" "LMachineHall$Market;", Cond.fieldLink RX6 44 "MachineHall" "status" "I"]
def wsX6_init_r2 : List Cond := [Cond.methodLink RX6 9 yX4_init, Cond.instanceMethod yX4_init, Cond.code yX4_init cX4_init 1 none, Cond.methodLink RX4 3 objectInit, Cond.classLink RX4 11 "[[J", Cond.arrayClass .long, Cond.fieldLink RX4 13 "MachineHall$Sheets" "numbers" "[[J", Cond.arrayClass .int, Cond.fieldLink RX4 16 "MachineHall$Sheets" "sorts" "[I", Cond.fieldLink RX4 20 "MachineHall$Sheets" "lengths" "[I", Cond.methodLink RX4 23 yJ7_fill_53178, Cond.static yJ7_fill_53178, Cond.initialized RJ7, Cond.code yJ7_fill_53178 cJ7_fill_53178 4 none, Cond.methodLink RX6 18 yX1_init, Cond.instanceMethod yX1_init, Cond.code yX1_init cX1_init 1 none, Cond.methodLink RX1 5 objectInit, Cond.fieldLink RX1 11 "MachineHall$Hall" "sizes" "[I", Cond.fieldLink RX1 15 "MachineHall$Hall" "inRoom" "[I", Cond.fieldLink RX1 18 "MachineHall$Hall" "needs" "[I", Cond.fieldLink RX1 21 "MachineHall$Hall" "foes" "[I", Cond.fieldLink RX1 24 "MachineHall$Hall" "ofHour" "[I", Cond.fieldLink RX1 27 "MachineHall$Hall" "load" "[I"]
def wsX6_init_r3 : List Cond := [Cond.arrayClass .boolean, Cond.fieldLink RX1 30 "MachineHall$Hall" "clash" "[Z", Cond.fieldLink RX1 34 "MachineHall$Hall" "asked" "[Z", Cond.fieldLink RX1 37 "MachineHall$Hall" "latest" "[I", Cond.fieldLink RX1 40 "MachineHall$Hall" "latestFor" "I", Cond.methodLink RX6 25 yX3_init, Cond.instanceMethod yX3_init, Cond.code yX3_init cX3_init 1 none, Cond.methodLink RX3 5 objectInit, Cond.classLink RX3 11 "[[I", Cond.fieldLink RX3 13 "MachineHall$Plan" "parts" "[[I", Cond.fieldLink RX3 16 "MachineHall$Plan" "works" "[I", Cond.fieldLink RX3 20 "MachineHall$Plan" "froms" "[I", Cond.fieldLink RX3 23 "MachineHall$Plan" "dues" "[I", Cond.fieldLink RX3 26 "MachineHall$Plan" "mosts" "[I", Cond.classLink RX3 29 RX0, Cond.instantiable RX0 4, Cond.initialized RX0, Cond.fieldLink RX3 34 "MachineHall$Plan" "flow" "LMachineHall$Flow;", Cond.fieldLink RX3 38 "MachineHall$Plan" "laidFor" "I", Cond.methodLink RX3 31 yX0_init, Cond.instanceMethod yX0_init, Cond.code yX0_init cX0_init 2 none, Cond.methodLink RX0 3 objectInit]
def wsX6_init_r4 : List Cond := [Cond.fieldLink RX0 9 "MachineHall$Flow" "nodes" "I", Cond.classLink RX0 15 "[[I", Cond.fieldLink RX0 17 "MachineHall$Flow" "open" "[[I", Cond.fieldLink RX0 20 "MachineHall$Flow" "cameFrom" "[I", Cond.fieldLink RX0 24 "MachineHall$Flow" "reached" "[I", Cond.methodLink RX6 32 yX5_init, Cond.instanceMethod yX5_init, Cond.code yX5_init cX5_init 1 none, Cond.methodLink RX5 1 objectInit, Cond.fieldLink RX5 9 "MachineHall$Waiting" "freeAt" "[I", Cond.methodLink RX6 39 yX2_init, Cond.instanceMethod yX2_init, Cond.code yX2_init cX2_init 1 none, Cond.methodLink RX2 5 objectInit, Cond.classLink RX2 11 "[[I", Cond.fieldLink RX2 13 "MachineHall$Market" "bought" "[[I", Cond.fieldLink RX2 16 "MachineHall$Market" "wants" "[I", Cond.fieldLink RX2 20 "MachineHall$Market" "sizes" "[I", Cond.fieldLink RX2 23 "MachineHall$Market" "leads" "[I", Cond.fieldLink RX2 26 "MachineHall$Market" "powers" "[I", Cond.fieldLink RX2 29 "MachineHall$Market" "prices" "[[I", Cond.fieldLink RX2 32 "MachineHall$Market" "toPay" "[I", Cond.fieldLink RX2 35 "MachineHall$Market" "oneMore" "[J"]
def wsX6_init : List Cond := .code yX6_init cX6_init 1 none :: ((wsX6_init_r1 ++ (wsX6_init_r2 ++ (wsX6_init_r3 ++ wsX6_init_r4))) ++ wsX40 ++ wsX60 ++ wsX10 ++ wsX30 ++ wsX50 ++ wsX20 ++ wsX00)
def wsX6_status : List Cond := .code yX6_status cX6_status 1 (some .int) :: ([.fieldLink RX6 44 "MachineHall" "status" "I"] ++ wsX60)
def wsX6_refuse : List Cond := .code yX6_refuse cX6_refuse 2 (some .boolean) :: ([.fieldLink RX6 44 "MachineHall" "status" "I"] ++ wsX60)
def wsX6_agree : List Cond := .code yX6_agree cX6_agree 1 (some .boolean) :: ([.fieldLink RX6 44 "MachineHall" "status" "I"] ++ wsX60)
def wsX6_sheet_r1 : List Cond := [Cond.fieldLink RX6 10 "MachineHall" "sheets" "LMachineHall$Sheets;", Cond.methodLink RX6 48 yX4_isNumber, Cond.static yX4_isNumber, Cond.initialized RX4, Cond.code yX4_isNumber cX4_isNumber 1 (some .boolean), Cond.static yX6_within, Cond.initialized RX6, Cond.code yX6_within cX6_within 4 (some .boolean), Cond.methodLink RX6 52 yX6_within, Cond.methodLink RX6 56 yX6_refuse, Cond.instanceMethod yX6_refuse, Cond.selects RX6 yX6_refuse yX6_refuse, Cond.code yX6_refuse cX6_refuse 2 (some .boolean), Cond.fieldLink RX6 44 "MachineHall" "status" "I", Cond.methodLink RX6 59 yX4_make, Cond.instanceMethod yX4_make, Cond.selects RX4 yX4_make yX4_make, Cond.code yX4_make cX4_make 4 none, Cond.fieldLink RX4 13 "MachineHall$Sheets" "numbers" "[[J", Cond.fieldLink RX4 16 "MachineHall$Sheets" "sorts" "[I", Cond.fieldLink RX4 20 "MachineHall$Sheets" "lengths" "[I", Cond.methodLink RX4 33 yJ7_fill_d0a16, Cond.static yJ7_fill_d0a16, Cond.initialized RJ7]
def wsX6_sheet_r2 : List Cond := [Cond.code yJ7_fill_d0a16 cJ7_fill_d0a16 5 none, Cond.methodLink RX6 63 yX6_agree, Cond.instanceMethod yX6_agree, Cond.selects RX6 yX6_agree yX6_agree, Cond.code yX6_agree cX6_agree 1 (some .boolean)]
def wsX6_sheet : List Cond := .code yX6_sheet cX6_sheet 4 (some .boolean) :: ((wsX6_sheet_r1 ++ wsX6_sheet_r2) ++ wsX60 ++ wsX40)
def wsX6_write_r1 : List Cond := [Cond.fieldLink RX6 10 "MachineHall" "sheets" "LMachineHall$Sheets;", Cond.methodLink RX6 67 yX4_whyNoPlace, Cond.instanceMethod yX4_whyNoPlace, Cond.selects RX4 yX4_whyNoPlace yX4_whyNoPlace, Cond.initialized RX4, Cond.code yX4_whyNoPlace cX4_whyNoPlace 3 (some .int), Cond.fieldLink RX4 20 "MachineHall$Sheets" "lengths" "[I", Cond.methodLink RX4 40 yX4_isNumber, Cond.static yX4_isNumber, Cond.code yX4_isNumber cX4_isNumber 1 (some .boolean), Cond.static yX6_within, Cond.initialized RX6, Cond.code yX6_within cX6_within 4 (some .boolean), Cond.methodLink RX4 44 yX4_isMissing, Cond.instanceMethod yX4_isMissing, Cond.selects RX4 yX4_isMissing yX4_isMissing, Cond.code yX4_isMissing cX4_isMissing 2 (some .boolean), Cond.methodLink RX6 56 yX6_refuse, Cond.instanceMethod yX6_refuse, Cond.selects RX6 yX6_refuse yX6_refuse, Cond.code yX6_refuse cX6_refuse 2 (some .boolean), Cond.fieldLink RX6 44 "MachineHall" "status" "I", Cond.methodLink RX6 71 yX4_put, Cond.instanceMethod yX4_put]
def wsX6_write_r2 : List Cond := [Cond.selects RX4 yX4_put yX4_put, Cond.code yX4_put cX4_put 5 none, Cond.fieldLink RX4 13 "MachineHall$Sheets" "numbers" "[[J", Cond.fieldLink RX4 16 "MachineHall$Sheets" "sorts" "[I", Cond.methodLink RX4 36 yX4_cut, Cond.static yX4_cut, Cond.code yX4_cut cX4_cut 3 (some .long), Cond.methodLink RX6 63 yX6_agree, Cond.instanceMethod yX6_agree, Cond.selects RX6 yX6_agree yX6_agree, Cond.code yX6_agree cX6_agree 1 (some .boolean)]
def wsX6_write : List Cond := .code yX6_write cX6_write 6 (some .boolean) :: ((wsX6_write_r1 ++ wsX6_write_r2) ++ wsX60 ++ wsX40)
def wsX6_deny : List Cond := .code yX6_deny cX6_deny 2 (some .int) :: ([.fieldLink RX6 44 "MachineHall" "status" "I"] ++ wsX60)
def wsX6_read_r1 : List Cond := [Cond.fieldLink RX6 10 "MachineHall" "sheets" "LMachineHall$Sheets;", Cond.fieldLink RX6 44 "MachineHall" "status" "I", Cond.methodLink RX6 67 yX4_whyNoPlace, Cond.instanceMethod yX4_whyNoPlace, Cond.selects RX4 yX4_whyNoPlace yX4_whyNoPlace, Cond.initialized RX4, Cond.code yX4_whyNoPlace cX4_whyNoPlace 3 (some .int), Cond.fieldLink RX4 20 "MachineHall$Sheets" "lengths" "[I", Cond.methodLink RX4 40 yX4_isNumber, Cond.static yX4_isNumber, Cond.code yX4_isNumber cX4_isNumber 1 (some .boolean), Cond.static yX6_within, Cond.initialized RX6, Cond.code yX6_within cX6_within 4 (some .boolean), Cond.methodLink RX4 44 yX4_isMissing, Cond.instanceMethod yX4_isMissing, Cond.selects RX4 yX4_isMissing yX4_isMissing, Cond.code yX4_isMissing cX4_isMissing 2 (some .boolean), Cond.methodLink RX6 75 yX6_deny, Cond.instanceMethod yX6_deny, Cond.selects RX6 yX6_deny yX6_deny, Cond.code yX6_deny cX6_deny 2 (some .int), Cond.methodLink RX6 79 yX4_at, Cond.instanceMethod yX4_at]
def wsX6_read_r2 : List Cond := [Cond.selects RX4 yX4_at yX4_at, Cond.code yX4_at cX4_at 3 (some .long), Cond.fieldLink RX4 13 "MachineHall$Sheets" "numbers" "[[J"]
def wsX6_read : List Cond := .code yX6_read cX6_read 4 (some .long) :: ((wsX6_read_r1 ++ wsX6_read_r2) ++ wsX60 ++ wsX40)
def wsX6_drop_r1 : List Cond := [Cond.fieldLink RX6 10 "MachineHall" "sheets" "LMachineHall$Sheets;", Cond.methodLink RX6 48 yX4_isNumber, Cond.static yX4_isNumber, Cond.initialized RX4, Cond.code yX4_isNumber cX4_isNumber 1 (some .boolean), Cond.static yX6_within, Cond.initialized RX6, Cond.code yX6_within cX6_within 4 (some .boolean), Cond.methodLink RX6 56 yX6_refuse, Cond.instanceMethod yX6_refuse, Cond.selects RX6 yX6_refuse yX6_refuse, Cond.code yX6_refuse cX6_refuse 2 (some .boolean), Cond.fieldLink RX6 44 "MachineHall" "status" "I", Cond.methodLink RX6 83 yX4_isMissing, Cond.instanceMethod yX4_isMissing, Cond.selects RX4 yX4_isMissing yX4_isMissing, Cond.code yX4_isMissing cX4_isMissing 2 (some .boolean), Cond.fieldLink RX4 20 "MachineHall$Sheets" "lengths" "[I", Cond.methodLink RX6 86 yX4_lose, Cond.instanceMethod yX4_lose, Cond.selects RX4 yX4_lose yX4_lose, Cond.code yX4_lose cX4_lose 2 none, Cond.methodLink RX6 63 yX6_agree, Cond.instanceMethod yX6_agree]
def wsX6_drop_r2 : List Cond := [Cond.selects RX6 yX6_agree yX6_agree, Cond.code yX6_agree cX6_agree 1 (some .boolean)]
def wsX6_drop : List Cond := .code yX6_drop cX6_drop 2 (some .boolean) :: ((wsX6_drop_r1 ++ wsX6_drop_r2) ++ wsX60 ++ wsX40)
def wsX6_copy_r1 : List Cond := [Cond.fieldLink RX6 10 "MachineHall" "sheets" "LMachineHall$Sheets;", Cond.methodLink RX6 48 yX4_isNumber, Cond.static yX4_isNumber, Cond.initialized RX4, Cond.code yX4_isNumber cX4_isNumber 1 (some .boolean), Cond.static yX6_within, Cond.initialized RX6, Cond.code yX6_within cX6_within 4 (some .boolean), Cond.methodLink RX6 56 yX6_refuse, Cond.instanceMethod yX6_refuse, Cond.selects RX6 yX6_refuse yX6_refuse, Cond.code yX6_refuse cX6_refuse 2 (some .boolean), Cond.fieldLink RX6 44 "MachineHall" "status" "I", Cond.methodLink RX6 83 yX4_isMissing, Cond.instanceMethod yX4_isMissing, Cond.selects RX4 yX4_isMissing yX4_isMissing, Cond.code yX4_isMissing cX4_isMissing 2 (some .boolean), Cond.fieldLink RX4 20 "MachineHall$Sheets" "lengths" "[I", Cond.methodLink RX6 90 yX4_spans, Cond.instanceMethod yX4_spans, Cond.selects RX4 yX4_spans yX4_spans, Cond.code yX4_spans cX4_spans 4 (some .boolean), Cond.methodLink RX6 94 yX4_carry, Cond.instanceMethod yX4_carry]
def wsX6_copy_r2 : List Cond := [Cond.selects RX4 yX4_carry yX4_carry, Cond.code yX4_carry cX4_carry 7 none, Cond.fieldLink RX4 13 "MachineHall$Sheets" "numbers" "[[J", Cond.methodLink RX4 47 arraycopyName, Cond.native arraycopyName, Cond.static arraycopyName, Cond.initialized "java/lang/System", Cond.methodLink RX4 53 yX4_put, Cond.instanceMethod yX4_put, Cond.selects RX4 yX4_put yX4_put, Cond.code yX4_put cX4_put 5 none, Cond.fieldLink RX4 16 "MachineHall$Sheets" "sorts" "[I", Cond.methodLink RX4 36 yX4_cut, Cond.static yX4_cut, Cond.code yX4_cut cX4_cut 3 (some .long), Cond.methodLink RX6 63 yX6_agree, Cond.instanceMethod yX6_agree, Cond.selects RX6 yX6_agree yX6_agree, Cond.code yX6_agree cX6_agree 1 (some .boolean)]
def wsX6_copy : List Cond := .code yX6_copy cX6_copy 6 (some .boolean) :: ((wsX6_copy_r1 ++ wsX6_copy_r2) ++ wsX60 ++ wsX40)
def wsX6_none : List Cond := .code yX6_none cX6_none 1 (some .boolean) :: ([.methodLink RX6 56 yX6_refuse, .instanceMethod yX6_refuse, .selects RX6 yX6_refuse yX6_refuse, .initialized RX6, .code yX6_refuse cX6_refuse 2 (some .boolean), .fieldLink RX6 44 "MachineHall" "status" "I"] ++ wsX60)
def wsX6_answer : List Cond := .code yX6_answer cX6_answer 2 (some .int) :: ([.fieldLink RX6 44 "MachineHall" "status" "I"] ++ wsX60)
def wsX6_machine : List Cond := .code yX6_machine cX6_machine 3 (some .int) :: ([.fieldLink RX6 19 "MachineHall" "hall" "LMachineHall$Hall;", .fieldLink RX6 98 "MachineHall$Hall" "machines" "I", .methodLink RX6 52 yX6_within, .static yX6_within, .initialized RX6, .code yX6_within cX6_within 4 (some .boolean), .methodLink RX6 75 yX6_deny, .instanceMethod yX6_deny, .selects RX6 yX6_deny yX6_deny, .code yX6_deny cX6_deny 2 (some .int), .fieldLink RX6 44 "MachineHall" "status" "I", .methodLink RX6 101 yX1_addMachine, .instanceMethod yX1_addMachine, .selects RX1 yX1_addMachine yX1_addMachine, .initialized RX1, .code yX1_addMachine cX1_addMachine 4 (some .int), .fieldLink RX1 48 "MachineHall$Hall" "machines" "I", .fieldLink RX1 11 "MachineHall$Hall" "sizes" "[I", .fieldLink RX1 15 "MachineHall$Hall" "inRoom" "[I", .fieldLink RX1 54 "MachineHall$Hall" "ups" "I", .methodLink RX6 104 yX6_answer, .instanceMethod yX6_answer, .selects RX6 yX6_answer yX6_answer, .code yX6_answer cX6_answer 2 (some .int)] ++ wsX60 ++ wsX10)
def wsX6_up_r1 : List Cond := [Cond.fieldLink RX6 19 "MachineHall" "hall" "LMachineHall$Hall;", Cond.methodLink RX6 107 yX1_hasMachine, Cond.instanceMethod yX1_hasMachine, Cond.selects RX1 yX1_hasMachine yX1_hasMachine, Cond.initialized RX1, Cond.code yX1_hasMachine cX1_hasMachine 2 (some .boolean), Cond.fieldLink RX1 48 "MachineHall$Hall" "machines" "I", Cond.static yX6_within, Cond.initialized RX6, Cond.code yX6_within cX6_within 4 (some .boolean), Cond.methodLink RX6 56 yX6_refuse, Cond.instanceMethod yX6_refuse, Cond.selects RX6 yX6_refuse yX6_refuse, Cond.code yX6_refuse cX6_refuse 2 (some .boolean), Cond.fieldLink RX6 44 "MachineHall" "status" "I", Cond.methodLink RX6 110 yX1_isUp, Cond.instanceMethod yX1_isUp, Cond.selects RX1 yX1_isUp yX1_isUp, Cond.code yX1_isUp cX1_isUp 2 (some .boolean), Cond.fieldLink RX1 54 "MachineHall$Hall" "ups" "I", Cond.methodLink RX1 57 yX1_has, Cond.static yX1_has, Cond.code yX1_has cX1_has 2 (some .boolean), Cond.methodLink RX6 113 yX1_turn]
def wsX6_up_r2 : List Cond := [Cond.instanceMethod yX1_turn, Cond.selects RX1 yX1_turn yX1_turn, Cond.code yX1_turn cX1_turn 2 none, Cond.methodLink RX6 63 yX6_agree, Cond.instanceMethod yX6_agree, Cond.selects RX6 yX6_agree yX6_agree, Cond.code yX6_agree cX6_agree 1 (some .boolean)]
def wsX6_up : List Cond := .code yX6_up cX6_up 3 (some .boolean) :: ((wsX6_up_r1 ++ wsX6_up_r2) ++ wsX60 ++ wsX10)
def wsX6_isHour : List Cond := .code yX6_isHour cX6_isHour 1 (some .boolean) :: ([.methodLink RX6 52 yX6_within, .static yX6_within, .initialized RX6, .code yX6_within cX6_within 4 (some .boolean)])
def wsX6_ask_r1 : List Cond := [Cond.fieldLink RX6 19 "MachineHall" "hall" "LMachineHall$Hall;", Cond.fieldLink RX6 119 "MachineHall$Hall" "asks" "I", Cond.fieldLink RX6 26 "MachineHall" "plan" "LMachineHall$Plan;", Cond.methodLink RX6 52 yX6_within, Cond.static yX6_within, Cond.initialized RX6, Cond.code yX6_within cX6_within 4 (some .boolean), Cond.methodLink RX6 116 yX6_isHour, Cond.static yX6_isHour, Cond.code yX6_isHour cX6_isHour 1 (some .boolean), Cond.methodLink RX6 75 yX6_deny, Cond.instanceMethod yX6_deny, Cond.selects RX6 yX6_deny yX6_deny, Cond.code yX6_deny cX6_deny 2 (some .int), Cond.fieldLink RX6 44 "MachineHall" "status" "I", Cond.methodLink RX6 122 yX3_forget, Cond.instanceMethod yX3_forget, Cond.selects RX3 yX3_forget yX3_forget, Cond.initialized RX3, Cond.code yX3_forget cX3_forget 1 none, Cond.fieldLink RX3 38 "MachineHall$Plan" "laidFor" "I", Cond.methodLink RX6 125 yX1_addAsk, Cond.instanceMethod yX1_addAsk, Cond.selects RX1 yX1_addAsk yX1_addAsk]
def wsX6_ask_r2 : List Cond := [Cond.initialized RX1, Cond.code yX1_addAsk cX1_addAsk 6 (some .int), Cond.fieldLink RX1 51 "MachineHall$Hall" "asks" "I", Cond.fieldLink RX1 18 "MachineHall$Hall" "needs" "[I", Cond.fieldLink RX1 24 "MachineHall$Hall" "ofHour" "[I", Cond.methodLink RX1 61 yX1_markAsked, Cond.instanceMethod yX1_markAsked, Cond.selects RX1 yX1_markAsked yX1_markAsked, Cond.code yX1_markAsked cX1_markAsked 3 none, Cond.fieldLink RX1 34 "MachineHall$Hall" "asked" "[Z", Cond.methodLink RX1 65 yX1_tally, Cond.instanceMethod yX1_tally, Cond.selects RX1 yX1_tally yX1_tally, Cond.code yX1_tally cX1_tally 4 none, Cond.fieldLink RX1 40 "MachineHall$Hall" "latestFor" "I", Cond.fieldLink RX1 27 "MachineHall$Hall" "load" "[I", Cond.fieldLink RX1 30 "MachineHall$Hall" "clash" "[Z", Cond.fieldLink RX1 21 "MachineHall$Hall" "foes" "[I", Cond.methodLink RX6 104 yX6_answer, Cond.instanceMethod yX6_answer, Cond.selects RX6 yX6_answer yX6_answer, Cond.code yX6_answer cX6_answer 2 (some .int)]
def wsX6_ask : List Cond := .code yX6_ask cX6_ask 4 (some .int) :: ((wsX6_ask_r1 ++ wsX6_ask_r2) ++ wsX60 ++ wsX10 ++ wsX30)
def wsX6_apart_r1 : List Cond := [Cond.fieldLink RX6 19 "MachineHall" "hall" "LMachineHall$Hall;", Cond.fieldLink RX6 26 "MachineHall" "plan" "LMachineHall$Plan;", Cond.methodLink RX6 129 yX1_hasAsk, Cond.instanceMethod yX1_hasAsk, Cond.selects RX1 yX1_hasAsk yX1_hasAsk, Cond.initialized RX1, Cond.code yX1_hasAsk cX1_hasAsk 2 (some .boolean), Cond.fieldLink RX1 51 "MachineHall$Hall" "asks" "I", Cond.static yX6_within, Cond.initialized RX6, Cond.code yX6_within cX6_within 4 (some .boolean), Cond.methodLink RX6 56 yX6_refuse, Cond.instanceMethod yX6_refuse, Cond.selects RX6 yX6_refuse yX6_refuse, Cond.code yX6_refuse cX6_refuse 2 (some .boolean), Cond.fieldLink RX6 44 "MachineHall" "status" "I", Cond.methodLink RX6 132 yX1_areFoes, Cond.instanceMethod yX1_areFoes, Cond.selects RX1 yX1_areFoes yX1_areFoes, Cond.code yX1_areFoes cX1_areFoes 3 (some .boolean), Cond.fieldLink RX1 21 "MachineHall$Hall" "foes" "[I", Cond.methodLink RX1 57 yX1_has, Cond.static yX1_has, Cond.code yX1_has cX1_has 2 (some .boolean)]
def wsX6_apart_r2 : List Cond := [Cond.methodLink RX6 122 yX3_forget, Cond.instanceMethod yX3_forget, Cond.selects RX3 yX3_forget yX3_forget, Cond.initialized RX3, Cond.code yX3_forget cX3_forget 1 none, Cond.fieldLink RX3 38 "MachineHall$Plan" "laidFor" "I", Cond.methodLink RX6 136 yX1_turnFoes, Cond.instanceMethod yX1_turnFoes, Cond.selects RX1 yX1_turnFoes yX1_turnFoes, Cond.code yX1_turnFoes cX1_turnFoes 3 none, Cond.methodLink RX1 65 yX1_tally, Cond.instanceMethod yX1_tally, Cond.selects RX1 yX1_tally yX1_tally, Cond.code yX1_tally cX1_tally 4 none, Cond.fieldLink RX1 40 "MachineHall$Hall" "latestFor" "I", Cond.fieldLink RX1 27 "MachineHall$Hall" "load" "[I", Cond.fieldLink RX1 18 "MachineHall$Hall" "needs" "[I", Cond.fieldLink RX1 30 "MachineHall$Hall" "clash" "[Z", Cond.methodLink RX6 63 yX6_agree, Cond.instanceMethod yX6_agree, Cond.selects RX6 yX6_agree yX6_agree, Cond.code yX6_agree cX6_agree 1 (some .boolean)]
def wsX6_apart : List Cond := .code yX6_apart cX6_apart 4 (some .boolean) :: ((wsX6_apart_r1 ++ wsX6_apart_r2) ++ wsX60 ++ wsX10 ++ wsX30)
def wsX6_count_r1 : List Cond := [Cond.fieldLink RX6 19 "MachineHall" "hall" "LMachineHall$Hall;", Cond.fieldLink RX6 98 "MachineHall$Hall" "machines" "I", Cond.fieldLink RX6 119 "MachineHall$Hall" "asks" "I", Cond.fieldLink RX6 26 "MachineHall" "plan" "LMachineHall$Plan;", Cond.fieldLink RX6 140 "MachineHall$Plan" "batches" "I", Cond.fieldLink RX6 40 "MachineHall" "market" "LMachineHall$Market;", Cond.fieldLink RX6 143 "MachineHall$Market" "types" "I", Cond.methodLink RX6 104 yX6_answer, Cond.instanceMethod yX6_answer, Cond.selects RX6 yX6_answer yX6_answer, Cond.initialized RX6, Cond.code yX6_answer cX6_answer 2 (some .int), Cond.fieldLink RX6 44 "MachineHall" "status" "I", Cond.methodLink RX6 146 yX1_standing, Cond.instanceMethod yX1_standing, Cond.selects RX1 yX1_standing yX1_standing, Cond.initialized RX1, Cond.code yX1_standing cX1_standing 2 (some .int), Cond.fieldLink RX1 54 "MachineHall$Hall" "ups" "I", Cond.fieldLink RX1 15 "MachineHall$Hall" "inRoom" "[I", Cond.methodLink RX6 149 yX1_sizeOf, Cond.instanceMethod yX1_sizeOf, Cond.selects RX1 yX1_sizeOf yX1_sizeOf, Cond.code yX1_sizeOf cX1_sizeOf 4 (some .int)]
def wsX6_count_r2 : List Cond := [Cond.fieldLink RX1 48 "MachineHall$Hall" "machines" "I", Cond.fieldLink RX1 11 "MachineHall$Hall" "sizes" "[I", Cond.methodLink RX1 57 yX1_has, Cond.static yX1_has, Cond.code yX1_has cX1_has 2 (some .boolean), Cond.methodLink RX6 75 yX6_deny, Cond.instanceMethod yX6_deny, Cond.selects RX6 yX6_deny yX6_deny, Cond.code yX6_deny cX6_deny 2 (some .int)]
def wsX6_count : List Cond := .code yX6_count cX6_count 2 (some .int) :: ((wsX6_count_r1 ++ wsX6_count_r2) ++ wsX60 ++ wsX10 ++ wsX30 ++ wsX20)
def wsX6_fits_r1 : List Cond := [Cond.fieldLink RX6 19 "MachineHall" "hall" "LMachineHall$Hall;", Cond.methodLink RX6 116 yX6_isHour, Cond.static yX6_isHour, Cond.initialized RX6, Cond.code yX6_isHour cX6_isHour 1 (some .boolean), Cond.methodLink RX6 52 yX6_within, Cond.static yX6_within, Cond.code yX6_within cX6_within 4 (some .boolean), Cond.methodLink RX6 152 yX1_isFall, Cond.static yX1_isFall, Cond.initialized RX1, Cond.code yX1_isFall cX1_isFall 1 (some .boolean), Cond.methodLink RX6 75 yX6_deny, Cond.instanceMethod yX6_deny, Cond.selects RX6 yX6_deny yX6_deny, Cond.code yX6_deny cX6_deny 2 (some .int), Cond.fieldLink RX6 44 "MachineHall" "status" "I", Cond.methodLink RX6 146 yX1_standing, Cond.instanceMethod yX1_standing, Cond.selects RX1 yX1_standing yX1_standing, Cond.code yX1_standing cX1_standing 2 (some .int), Cond.fieldLink RX1 54 "MachineHall$Hall" "ups" "I", Cond.fieldLink RX1 15 "MachineHall$Hall" "inRoom" "[I", Cond.methodLink RX6 155 yX1_holds]
def wsX6_fits_r2 : List Cond := [Cond.instanceMethod yX1_holds, Cond.selects RX1 yX1_holds yX1_holds, Cond.code yX1_holds cX1_holds 3 (some .boolean), Cond.fieldLink RX1 37 "MachineHall$Hall" "latest" "[I", Cond.fieldLink RX1 24 "MachineHall$Hall" "ofHour" "[I", Cond.methodLink RX1 68 yX1_findLatest, Cond.instanceMethod yX1_findLatest, Cond.selects RX1 yX1_findLatest yX1_findLatest, Cond.code yX1_findLatest cX1_findLatest 4 none, Cond.fieldLink RX1 40 "MachineHall$Hall" "latestFor" "I", Cond.fieldLink RX1 48 "MachineHall$Hall" "machines" "I", Cond.fieldLink RX1 11 "MachineHall$Hall" "sizes" "[I", Cond.methodLink RX1 96 yJ7_fill_53178, Cond.static yJ7_fill_53178, Cond.initialized RJ7, Cond.code yJ7_fill_53178 cJ7_fill_53178 4 none, Cond.methodLink RX1 57 yX1_has, Cond.static yX1_has, Cond.code yX1_has cX1_has 2 (some .boolean), Cond.methodLink RX1 102 yX1_findWith, Cond.instanceMethod yX1_findWith, Cond.selects RX1 yX1_findWith yX1_findWith, Cond.code yX1_findWith cX1_findWith 4 none, Cond.fieldLink RX1 51 "MachineHall$Hall" "asks" "I"]
def wsX6_fits_r3 : List Cond := [Cond.fieldLink RX1 34 "MachineHall$Hall" "asked" "[Z", Cond.fieldLink RX1 27 "MachineHall$Hall" "load" "[I", Cond.methodLink RX1 71 yX1_greatestOn, Cond.instanceMethod yX1_greatestOn, Cond.selects RX1 yX1_greatestOn yX1_greatestOn, Cond.code yX1_greatestOn cX1_greatestOn 4 (some .int), Cond.fieldLink RX1 30 "MachineHall$Hall" "clash" "[Z", Cond.methodLink RX6 104 yX6_answer, Cond.instanceMethod yX6_answer, Cond.selects RX6 yX6_answer yX6_answer, Cond.code yX6_answer cX6_answer 2 (some .int)]
def wsX6_fits : List Cond := .code yX6_fits cX6_fits 3 (some .int) :: ((wsX6_fits_r1 ++ (wsX6_fits_r2 ++ wsX6_fits_r3)) ++ wsX60 ++ wsX10)
def wsX6_on_r1 : List Cond := [Cond.fieldLink RX6 19 "MachineHall" "hall" "LMachineHall$Hall;", Cond.methodLink RX6 116 yX6_isHour, Cond.static yX6_isHour, Cond.initialized RX6, Cond.code yX6_isHour cX6_isHour 1 (some .boolean), Cond.methodLink RX6 52 yX6_within, Cond.static yX6_within, Cond.code yX6_within cX6_within 4 (some .boolean), Cond.methodLink RX6 152 yX1_isFall, Cond.static yX1_isFall, Cond.initialized RX1, Cond.code yX1_isFall cX1_isFall 1 (some .boolean), Cond.methodLink RX6 129 yX1_hasAsk, Cond.instanceMethod yX1_hasAsk, Cond.selects RX1 yX1_hasAsk yX1_hasAsk, Cond.code yX1_hasAsk cX1_hasAsk 2 (some .boolean), Cond.fieldLink RX1 51 "MachineHall$Hall" "asks" "I", Cond.methodLink RX6 158 yX1_isAskOf, Cond.instanceMethod yX1_isAskOf, Cond.selects RX1 yX1_isAskOf yX1_isAskOf, Cond.code yX1_isAskOf cX1_isAskOf 3 (some .boolean), Cond.fieldLink RX1 24 "MachineHall$Hall" "ofHour" "[I", Cond.methodLink RX1 57 yX1_has, Cond.static yX1_has]
def wsX6_on_r2 : List Cond := [Cond.code yX1_has cX1_has 2 (some .boolean), Cond.methodLink RX6 75 yX6_deny, Cond.instanceMethod yX6_deny, Cond.selects RX6 yX6_deny yX6_deny, Cond.code yX6_deny cX6_deny 2 (some .int), Cond.fieldLink RX6 44 "MachineHall" "status" "I", Cond.methodLink RX6 146 yX1_standing, Cond.instanceMethod yX1_standing, Cond.selects RX1 yX1_standing yX1_standing, Cond.code yX1_standing cX1_standing 2 (some .int), Cond.fieldLink RX1 54 "MachineHall$Hall" "ups" "I", Cond.fieldLink RX1 15 "MachineHall$Hall" "inRoom" "[I", Cond.methodLink RX6 155 yX1_holds, Cond.instanceMethod yX1_holds, Cond.selects RX1 yX1_holds yX1_holds, Cond.code yX1_holds cX1_holds 3 (some .boolean), Cond.fieldLink RX1 37 "MachineHall$Hall" "latest" "[I", Cond.methodLink RX1 68 yX1_findLatest, Cond.instanceMethod yX1_findLatest, Cond.selects RX1 yX1_findLatest yX1_findLatest, Cond.code yX1_findLatest cX1_findLatest 4 none, Cond.fieldLink RX1 40 "MachineHall$Hall" "latestFor" "I", Cond.fieldLink RX1 48 "MachineHall$Hall" "machines" "I", Cond.fieldLink RX1 11 "MachineHall$Hall" "sizes" "[I"]
def wsX6_on_r3 : List Cond := [Cond.methodLink RX1 96 yJ7_fill_53178, Cond.static yJ7_fill_53178, Cond.initialized RJ7, Cond.code yJ7_fill_53178 cJ7_fill_53178 4 none, Cond.methodLink RX1 102 yX1_findWith, Cond.instanceMethod yX1_findWith, Cond.selects RX1 yX1_findWith yX1_findWith, Cond.code yX1_findWith cX1_findWith 4 none, Cond.fieldLink RX1 34 "MachineHall$Hall" "asked" "[Z", Cond.fieldLink RX1 27 "MachineHall$Hall" "load" "[I", Cond.methodLink RX1 71 yX1_greatestOn, Cond.instanceMethod yX1_greatestOn, Cond.selects RX1 yX1_greatestOn yX1_greatestOn, Cond.code yX1_greatestOn cX1_greatestOn 4 (some .int), Cond.fieldLink RX1 30 "MachineHall$Hall" "clash" "[Z", Cond.methodLink RX6 161 yX1_layingOf, Cond.instanceMethod yX1_layingOf, Cond.selects RX1 yX1_layingOf yX1_layingOf, Cond.code yX1_layingOf cX1_layingOf 7 (some .int), Cond.methodLink RX6 104 yX6_answer, Cond.instanceMethod yX6_answer, Cond.selects RX6 yX6_answer yX6_answer, Cond.code yX6_answer cX6_answer 2 (some .int)]
def wsX6_on : List Cond := .code yX6_on cX6_on 4 (some .int) :: ((wsX6_on_r1 ++ (wsX6_on_r2 ++ wsX6_on_r3)) ++ wsX60 ++ wsX10)
def wsX6_lack_r1 : List Cond := [Cond.fieldLink RX6 19 "MachineHall" "hall" "LMachineHall$Hall;", Cond.methodLink RX6 116 yX6_isHour, Cond.static yX6_isHour, Cond.initialized RX6, Cond.code yX6_isHour cX6_isHour 1 (some .boolean), Cond.methodLink RX6 52 yX6_within, Cond.static yX6_within, Cond.code yX6_within cX6_within 4 (some .boolean), Cond.methodLink RX6 152 yX1_isFall, Cond.static yX1_isFall, Cond.initialized RX1, Cond.code yX1_isFall cX1_isFall 1 (some .boolean), Cond.methodLink RX6 75 yX6_deny, Cond.instanceMethod yX6_deny, Cond.selects RX6 yX6_deny yX6_deny, Cond.code yX6_deny cX6_deny 2 (some .int), Cond.fieldLink RX6 44 "MachineHall" "status" "I", Cond.methodLink RX6 146 yX1_standing, Cond.instanceMethod yX1_standing, Cond.selects RX1 yX1_standing yX1_standing, Cond.code yX1_standing cX1_standing 2 (some .int), Cond.fieldLink RX1 54 "MachineHall$Hall" "ups" "I", Cond.fieldLink RX1 15 "MachineHall$Hall" "inRoom" "[I", Cond.methodLink RX6 164 yX1_lacking]
def wsX6_lack_r2 : List Cond := [Cond.instanceMethod yX1_lacking, Cond.selects RX1 yX1_lacking yX1_lacking, Cond.code yX1_lacking cX1_lacking 6 (some .int), Cond.fieldLink RX1 24 "MachineHall$Hall" "ofHour" "[I", Cond.fieldLink RX1 37 "MachineHall$Hall" "latest" "[I", Cond.fieldLink RX1 27 "MachineHall$Hall" "load" "[I", Cond.methodLink RX1 75 Lib.Math.max.name, Cond.static Lib.Math.max.name, Cond.initialized "java/lang/Math", Cond.code Lib.Math.max.name Lib.Math.max.code 2 (some .int), Cond.methodLink RX1 68 yX1_findLatest, Cond.instanceMethod yX1_findLatest, Cond.selects RX1 yX1_findLatest yX1_findLatest, Cond.code yX1_findLatest cX1_findLatest 4 none, Cond.fieldLink RX1 40 "MachineHall$Hall" "latestFor" "I", Cond.fieldLink RX1 48 "MachineHall$Hall" "machines" "I", Cond.fieldLink RX1 11 "MachineHall$Hall" "sizes" "[I", Cond.methodLink RX1 96 yJ7_fill_53178, Cond.static yJ7_fill_53178, Cond.initialized RJ7, Cond.code yJ7_fill_53178 cJ7_fill_53178 4 none, Cond.methodLink RX1 57 yX1_has, Cond.static yX1_has, Cond.code yX1_has cX1_has 2 (some .boolean)]
def wsX6_lack_r3 : List Cond := [Cond.methodLink RX1 102 yX1_findWith, Cond.instanceMethod yX1_findWith, Cond.selects RX1 yX1_findWith yX1_findWith, Cond.code yX1_findWith cX1_findWith 4 none, Cond.fieldLink RX1 51 "MachineHall$Hall" "asks" "I", Cond.fieldLink RX1 34 "MachineHall$Hall" "asked" "[Z", Cond.methodLink RX1 71 yX1_greatestOn, Cond.instanceMethod yX1_greatestOn, Cond.selects RX1 yX1_greatestOn yX1_greatestOn, Cond.code yX1_greatestOn cX1_greatestOn 4 (some .int), Cond.fieldLink RX1 30 "MachineHall$Hall" "clash" "[Z", Cond.methodLink RX6 104 yX6_answer, Cond.instanceMethod yX6_answer, Cond.selects RX6 yX6_answer yX6_answer, Cond.code yX6_answer cX6_answer 2 (some .int)]
def wsX6_lack : List Cond := .code yX6_lack cX6_lack 3 (some .int) :: ((wsX6_lack_r1 ++ (wsX6_lack_r2 ++ wsX6_lack_r3)) ++ wsX60 ++ wsX10)
def wsX6_left_r1 : List Cond := [Cond.fieldLink RX6 19 "MachineHall" "hall" "LMachineHall$Hall;", Cond.methodLink RX6 116 yX6_isHour, Cond.static yX6_isHour, Cond.initialized RX6, Cond.code yX6_isHour cX6_isHour 1 (some .boolean), Cond.methodLink RX6 52 yX6_within, Cond.static yX6_within, Cond.code yX6_within cX6_within 4 (some .boolean), Cond.methodLink RX6 152 yX1_isFall, Cond.static yX1_isFall, Cond.initialized RX1, Cond.code yX1_isFall cX1_isFall 1 (some .boolean), Cond.methodLink RX6 75 yX6_deny, Cond.instanceMethod yX6_deny, Cond.selects RX6 yX6_deny yX6_deny, Cond.code yX6_deny cX6_deny 2 (some .int), Cond.fieldLink RX6 44 "MachineHall" "status" "I", Cond.methodLink RX6 146 yX1_standing, Cond.instanceMethod yX1_standing, Cond.selects RX1 yX1_standing yX1_standing, Cond.code yX1_standing cX1_standing 2 (some .int), Cond.fieldLink RX1 54 "MachineHall$Hall" "ups" "I", Cond.fieldLink RX1 15 "MachineHall$Hall" "inRoom" "[I", Cond.methodLink RX6 167 yX1_leftOver]
def wsX6_left_r2 : List Cond := [Cond.instanceMethod yX1_leftOver, Cond.selects RX1 yX1_leftOver yX1_leftOver, Cond.code yX1_leftOver cX1_leftOver 4 (some .int), Cond.fieldLink RX1 24 "MachineHall$Hall" "ofHour" "[I", Cond.fieldLink RX1 37 "MachineHall$Hall" "latest" "[I", Cond.fieldLink RX1 27 "MachineHall$Hall" "load" "[I", Cond.methodLink RX1 68 yX1_findLatest, Cond.instanceMethod yX1_findLatest, Cond.selects RX1 yX1_findLatest yX1_findLatest, Cond.code yX1_findLatest cX1_findLatest 4 none, Cond.fieldLink RX1 40 "MachineHall$Hall" "latestFor" "I", Cond.fieldLink RX1 48 "MachineHall$Hall" "machines" "I", Cond.fieldLink RX1 11 "MachineHall$Hall" "sizes" "[I", Cond.methodLink RX1 96 yJ7_fill_53178, Cond.static yJ7_fill_53178, Cond.initialized RJ7, Cond.code yJ7_fill_53178 cJ7_fill_53178 4 none, Cond.methodLink RX1 57 yX1_has, Cond.static yX1_has, Cond.code yX1_has cX1_has 2 (some .boolean), Cond.methodLink RX1 102 yX1_findWith, Cond.instanceMethod yX1_findWith, Cond.selects RX1 yX1_findWith yX1_findWith, Cond.code yX1_findWith cX1_findWith 4 none]
def wsX6_left_r3 : List Cond := [Cond.fieldLink RX1 51 "MachineHall$Hall" "asks" "I", Cond.fieldLink RX1 34 "MachineHall$Hall" "asked" "[Z", Cond.methodLink RX1 71 yX1_greatestOn, Cond.instanceMethod yX1_greatestOn, Cond.selects RX1 yX1_greatestOn yX1_greatestOn, Cond.code yX1_greatestOn cX1_greatestOn 4 (some .int), Cond.fieldLink RX1 30 "MachineHall$Hall" "clash" "[Z", Cond.methodLink RX1 80 yX1_sizeOf, Cond.instanceMethod yX1_sizeOf, Cond.selects RX1 yX1_sizeOf yX1_sizeOf, Cond.code yX1_sizeOf cX1_sizeOf 4 (some .int), Cond.methodLink RX6 104 yX6_answer, Cond.instanceMethod yX6_answer, Cond.selects RX6 yX6_answer yX6_answer, Cond.code yX6_answer cX6_answer 2 (some .int)]
def wsX6_left : List Cond := .code yX6_left cX6_left 3 (some .int) :: ((wsX6_left_r1 ++ (wsX6_left_r2 ++ wsX6_left_r3)) ++ wsX60 ++ wsX10)
def wsX6_enough_r1 : List Cond := [Cond.fieldLink RX6 19 "MachineHall" "hall" "LMachineHall$Hall;", Cond.methodLink RX6 52 yX6_within, Cond.static yX6_within, Cond.initialized RX6, Cond.code yX6_within cX6_within 4 (some .boolean), Cond.methodLink RX6 75 yX6_deny, Cond.instanceMethod yX6_deny, Cond.selects RX6 yX6_deny yX6_deny, Cond.code yX6_deny cX6_deny 2 (some .int), Cond.fieldLink RX6 44 "MachineHall" "status" "I", Cond.methodLink RX6 170 yX1_firstUnfit, Cond.instanceMethod yX1_firstUnfit, Cond.selects RX1 yX1_firstUnfit yX1_firstUnfit, Cond.initialized RX1, Cond.code yX1_firstUnfit cX1_firstUnfit 6 (some .int), Cond.methodLink RX1 84 yX1_isLookedAt, Cond.instanceMethod yX1_isLookedAt, Cond.selects RX1 yX1_isLookedAt yX1_isLookedAt, Cond.code yX1_isLookedAt cX1_isLookedAt 3 (some .boolean), Cond.fieldLink RX1 48 "MachineHall$Hall" "machines" "I", Cond.methodLink RX1 87 yX1_standing, Cond.instanceMethod yX1_standing, Cond.selects RX1 yX1_standing yX1_standing, Cond.code yX1_standing cX1_standing 2 (some .int)]
def wsX6_enough_r2 : List Cond := [Cond.fieldLink RX1 54 "MachineHall$Hall" "ups" "I", Cond.fieldLink RX1 15 "MachineHall$Hall" "inRoom" "[I", Cond.methodLink RX1 90 yX1_firstUnfitHour, Cond.instanceMethod yX1_firstUnfitHour, Cond.selects RX1 yX1_firstUnfitHour yX1_firstUnfitHour, Cond.code yX1_firstUnfitHour cX1_firstUnfitHour 4 (some .int), Cond.methodLink RX1 93 yX1_holds, Cond.instanceMethod yX1_holds, Cond.selects RX1 yX1_holds yX1_holds, Cond.code yX1_holds cX1_holds 3 (some .boolean), Cond.fieldLink RX1 37 "MachineHall$Hall" "latest" "[I", Cond.fieldLink RX1 24 "MachineHall$Hall" "ofHour" "[I", Cond.methodLink RX1 68 yX1_findLatest, Cond.instanceMethod yX1_findLatest, Cond.selects RX1 yX1_findLatest yX1_findLatest, Cond.code yX1_findLatest cX1_findLatest 4 none, Cond.fieldLink RX1 40 "MachineHall$Hall" "latestFor" "I", Cond.fieldLink RX1 11 "MachineHall$Hall" "sizes" "[I", Cond.methodLink RX1 96 yJ7_fill_53178, Cond.static yJ7_fill_53178, Cond.initialized RJ7, Cond.code yJ7_fill_53178 cJ7_fill_53178 4 none, Cond.methodLink RX1 57 yX1_has, Cond.static yX1_has]
def wsX6_enough_r3 : List Cond := [Cond.code yX1_has cX1_has 2 (some .boolean), Cond.methodLink RX1 102 yX1_findWith, Cond.instanceMethod yX1_findWith, Cond.selects RX1 yX1_findWith yX1_findWith, Cond.code yX1_findWith cX1_findWith 4 none, Cond.fieldLink RX1 51 "MachineHall$Hall" "asks" "I", Cond.fieldLink RX1 34 "MachineHall$Hall" "asked" "[Z", Cond.fieldLink RX1 27 "MachineHall$Hall" "load" "[I", Cond.methodLink RX1 71 yX1_greatestOn, Cond.instanceMethod yX1_greatestOn, Cond.selects RX1 yX1_greatestOn yX1_greatestOn, Cond.code yX1_greatestOn cX1_greatestOn 4 (some .int), Cond.fieldLink RX1 30 "MachineHall$Hall" "clash" "[Z", Cond.methodLink RX6 104 yX6_answer, Cond.instanceMethod yX6_answer, Cond.selects RX6 yX6_answer yX6_answer, Cond.code yX6_answer cX6_answer 2 (some .int)]
def wsX6_enough : List Cond := .code yX6_enough cX6_enough 2 (some .int) :: ((wsX6_enough_r1 ++ (wsX6_enough_r2 ++ wsX6_enough_r3)) ++ wsX60 ++ wsX10)
def wsX6_batch_r1 : List Cond := [Cond.fieldLink RX6 26 "MachineHall" "plan" "LMachineHall$Plan;", Cond.fieldLink RX6 140 "MachineHall$Plan" "batches" "I", Cond.methodLink RX6 52 yX6_within, Cond.static yX6_within, Cond.initialized RX6, Cond.code yX6_within cX6_within 4 (some .boolean), Cond.methodLink RX6 116 yX6_isHour, Cond.static yX6_isHour, Cond.code yX6_isHour cX6_isHour 1 (some .boolean), Cond.methodLink RX6 75 yX6_deny, Cond.instanceMethod yX6_deny, Cond.selects RX6 yX6_deny yX6_deny, Cond.code yX6_deny cX6_deny 2 (some .int), Cond.fieldLink RX6 44 "MachineHall" "status" "I", Cond.methodLink RX6 173 yX3_addBatch, Cond.instanceMethod yX3_addBatch, Cond.selects RX3 yX3_addBatch yX3_addBatch, Cond.initialized RX3, Cond.code yX3_addBatch cX3_addBatch 6 (some .int), Cond.fieldLink RX3 42 "MachineHall$Plan" "batches" "I", Cond.fieldLink RX3 16 "MachineHall$Plan" "works" "[I", Cond.fieldLink RX3 20 "MachineHall$Plan" "froms" "[I", Cond.fieldLink RX3 23 "MachineHall$Plan" "dues" "[I", Cond.fieldLink RX3 26 "MachineHall$Plan" "mosts" "[I"]
def wsX6_batch_r2 : List Cond := [Cond.methodLink RX3 49 yX3_forget, Cond.instanceMethod yX3_forget, Cond.selects RX3 yX3_forget yX3_forget, Cond.code yX3_forget cX3_forget 1 none, Cond.fieldLink RX3 38 "MachineHall$Plan" "laidFor" "I", Cond.methodLink RX6 104 yX6_answer, Cond.instanceMethod yX6_answer, Cond.selects RX6 yX6_answer yX6_answer, Cond.code yX6_answer cX6_answer 2 (some .int)]
def wsX6_batch : List Cond := .code yX6_batch cX6_batch 5 (some .int) :: ((wsX6_batch_r1 ++ wsX6_batch_r2) ++ wsX60 ++ wsX30)
def wsX6_rest_r1 : List Cond := [Cond.fieldLink RX6 26 "MachineHall" "plan" "LMachineHall$Plan;", Cond.fieldLink RX6 19 "MachineHall" "hall" "LMachineHall$Hall;", Cond.fieldLink RX6 181 "MachineHall$Plan" "unlaid" "I", Cond.methodLink RX6 152 yX1_isFall, Cond.static yX1_isFall, Cond.initialized RX1, Cond.code yX1_isFall cX1_isFall 1 (some .boolean), Cond.static yX6_within, Cond.initialized RX6, Cond.code yX6_within cX6_within 4 (some .boolean), Cond.methodLink RX6 75 yX6_deny, Cond.instanceMethod yX6_deny, Cond.selects RX6 yX6_deny yX6_deny, Cond.code yX6_deny cX6_deny 2 (some .int), Cond.fieldLink RX6 44 "MachineHall" "status" "I", Cond.methodLink RX6 146 yX1_standing, Cond.instanceMethod yX1_standing, Cond.selects RX1 yX1_standing yX1_standing, Cond.code yX1_standing cX1_standing 2 (some .int), Cond.fieldLink RX1 54 "MachineHall$Hall" "ups" "I", Cond.fieldLink RX1 15 "MachineHall$Hall" "inRoom" "[I", Cond.methodLink RX6 177 yX3_lay, Cond.instanceMethod yX3_lay, Cond.selects RX3 yX3_lay yX3_lay]
def wsX6_rest_r2 : List Cond := [Cond.initialized RX3, Cond.code yX3_lay cX3_lay 3 none, Cond.fieldLink RX3 38 "MachineHall$Plan" "laidFor" "I", Cond.fieldLink RX3 56 "MachineHall$Plan" "unlaid" "I", Cond.fieldLink RX3 34 "MachineHall$Plan" "flow" "LMachineHall$Flow;", Cond.methodLink RX3 52 yX3_layPipes, Cond.instanceMethod yX3_layPipes, Cond.selects RX3 yX3_layPipes yX3_layPipes, Cond.code yX3_layPipes cX3_layPipes 6 (some .int), Cond.fieldLink RX3 42 "MachineHall$Plan" "batches" "I", Cond.fieldLink RX3 16 "MachineHall$Plan" "works" "[I", Cond.fieldLink RX3 20 "MachineHall$Plan" "froms" "[I", Cond.fieldLink RX3 23 "MachineHall$Plan" "dues" "[I", Cond.fieldLink RX3 26 "MachineHall$Plan" "mosts" "[I", Cond.methodLink RX3 66 yX0_empty, Cond.instanceMethod yX0_empty, Cond.selects RX0 yX0_empty yX0_empty, Cond.initialized RX0, Cond.code yX0_empty cX0_empty 2 none, Cond.fieldLink RX0 9 "MachineHall$Flow" "nodes" "I", Cond.fieldLink RX0 17 "MachineHall$Flow" "open" "[[I", Cond.methodLink RX0 27 yJ7_fill_53178, Cond.static yJ7_fill_53178, Cond.initialized RJ7]
def wsX6_rest_r3 : List Cond := [Cond.code yJ7_fill_53178 cJ7_fill_53178 4 none, Cond.methodLink RX3 69 yX0_pipe, Cond.instanceMethod yX0_pipe, Cond.selects RX0 yX0_pipe yX0_pipe, Cond.code yX0_pipe cX0_pipe 4 none, Cond.methodLink RX3 73 yX1_leftOver, Cond.instanceMethod yX1_leftOver, Cond.selects RX1 yX1_leftOver yX1_leftOver, Cond.code yX1_leftOver cX1_leftOver 4 (some .int), Cond.fieldLink RX1 24 "MachineHall$Hall" "ofHour" "[I", Cond.fieldLink RX1 37 "MachineHall$Hall" "latest" "[I", Cond.fieldLink RX1 27 "MachineHall$Hall" "load" "[I", Cond.methodLink RX1 68 yX1_findLatest, Cond.instanceMethod yX1_findLatest, Cond.selects RX1 yX1_findLatest yX1_findLatest, Cond.code yX1_findLatest cX1_findLatest 4 none, Cond.fieldLink RX1 40 "MachineHall$Hall" "latestFor" "I", Cond.fieldLink RX1 48 "MachineHall$Hall" "machines" "I", Cond.fieldLink RX1 11 "MachineHall$Hall" "sizes" "[I", Cond.methodLink RX1 96 yJ7_fill_53178, Cond.methodLink RX1 57 yX1_has, Cond.static yX1_has, Cond.code yX1_has cX1_has 2 (some .boolean), Cond.methodLink RX1 102 yX1_findWith]
def wsX6_rest_r4 : List Cond := [Cond.instanceMethod yX1_findWith, Cond.selects RX1 yX1_findWith yX1_findWith, Cond.code yX1_findWith cX1_findWith 4 none, Cond.fieldLink RX1 51 "MachineHall$Hall" "asks" "I", Cond.fieldLink RX1 34 "MachineHall$Hall" "asked" "[Z", Cond.methodLink RX1 71 yX1_greatestOn, Cond.instanceMethod yX1_greatestOn, Cond.selects RX1 yX1_greatestOn yX1_greatestOn, Cond.code yX1_greatestOn cX1_greatestOn 4 (some .int), Cond.fieldLink RX1 30 "MachineHall$Hall" "clash" "[Z", Cond.methodLink RX1 80 yX1_sizeOf, Cond.instanceMethod yX1_sizeOf, Cond.selects RX1 yX1_sizeOf yX1_sizeOf, Cond.code yX1_sizeOf cX1_sizeOf 4 (some .int), Cond.methodLink RX3 59 yX0_push, Cond.instanceMethod yX0_push, Cond.selects RX0 yX0_push yX0_push, Cond.code yX0_push cX0_push 6 (some .int), Cond.constant RX0 33 (1000000), Cond.methodLink RX0 34 yX0_findWay, Cond.instanceMethod yX0_findWay, Cond.selects RX0 yX0_findWay yX0_findWay, Cond.code yX0_findWay cX0_findWay 7 (some .boolean), Cond.fieldLink RX0 20 "MachineHall$Flow" "cameFrom" "[I"]
def wsX6_rest_r5 : List Cond := [Cond.fieldLink RX0 24 "MachineHall$Flow" "reached" "[I", Cond.methodLink RX0 38 yX0_send, Cond.instanceMethod yX0_send, Cond.selects RX0 yX0_send yX0_send, Cond.code yX0_send cX0_send 7 (some .int), Cond.methodLink RX0 45 Lib.Math.min.name, Cond.static Lib.Math.min.name, Cond.initialized "java/lang/Math", Cond.code Lib.Math.min.name Lib.Math.min.code 2 (some .int), Cond.methodLink RX3 63 yX3_settleParts, Cond.instanceMethod yX3_settleParts, Cond.selects RX3 yX3_settleParts yX3_settleParts, Cond.code yX3_settleParts cX3_settleParts 3 none, Cond.fieldLink RX3 13 "MachineHall$Plan" "parts" "[[I", Cond.methodLink RX3 79 yX0_settle, Cond.instanceMethod yX0_settle, Cond.selects RX0 yX0_settle yX0_settle, Cond.code yX0_settle cX0_settle 5 (some .int), Cond.methodLink RX0 42 yX0_push, Cond.methodLink RX6 104 yX6_answer, Cond.instanceMethod yX6_answer, Cond.selects RX6 yX6_answer yX6_answer, Cond.code yX6_answer cX6_answer 2 (some .int)]
def wsX6_rest : List Cond := .code yX6_rest cX6_rest 2 (some .int) :: ((wsX6_rest_r1 ++ (wsX6_rest_r2 ++ (wsX6_rest_r3 ++ (wsX6_rest_r4 ++ wsX6_rest_r5)))) ++ wsX60 ++ wsX30 ++ wsX10 ++ wsX00)
def wsX6_part_r1 : List Cond := [Cond.fieldLink RX6 26 "MachineHall" "plan" "LMachineHall$Plan;", Cond.fieldLink RX6 19 "MachineHall" "hall" "LMachineHall$Hall;", Cond.fieldLink RX6 181 "MachineHall$Plan" "unlaid" "I", Cond.fieldLink RX6 187 "MachineHall$Plan" "parts" "[[I", Cond.methodLink RX6 152 yX1_isFall, Cond.static yX1_isFall, Cond.initialized RX1, Cond.code yX1_isFall cX1_isFall 1 (some .boolean), Cond.static yX6_within, Cond.initialized RX6, Cond.code yX6_within cX6_within 4 (some .boolean), Cond.methodLink RX6 184 yX3_hasBatch, Cond.instanceMethod yX3_hasBatch, Cond.selects RX3 yX3_hasBatch yX3_hasBatch, Cond.initialized RX3, Cond.code yX3_hasBatch cX3_hasBatch 2 (some .boolean), Cond.fieldLink RX3 42 "MachineHall$Plan" "batches" "I", Cond.methodLink RX6 116 yX6_isHour, Cond.static yX6_isHour, Cond.code yX6_isHour cX6_isHour 1 (some .boolean), Cond.methodLink RX6 52 yX6_within, Cond.methodLink RX6 75 yX6_deny, Cond.instanceMethod yX6_deny, Cond.selects RX6 yX6_deny yX6_deny]
def wsX6_part_r2 : List Cond := [Cond.code yX6_deny cX6_deny 2 (some .int), Cond.fieldLink RX6 44 "MachineHall" "status" "I", Cond.methodLink RX6 146 yX1_standing, Cond.instanceMethod yX1_standing, Cond.selects RX1 yX1_standing yX1_standing, Cond.code yX1_standing cX1_standing 2 (some .int), Cond.fieldLink RX1 54 "MachineHall$Hall" "ups" "I", Cond.fieldLink RX1 15 "MachineHall$Hall" "inRoom" "[I", Cond.methodLink RX6 177 yX3_lay, Cond.instanceMethod yX3_lay, Cond.selects RX3 yX3_lay yX3_lay, Cond.code yX3_lay cX3_lay 3 none, Cond.fieldLink RX3 38 "MachineHall$Plan" "laidFor" "I", Cond.fieldLink RX3 56 "MachineHall$Plan" "unlaid" "I", Cond.fieldLink RX3 34 "MachineHall$Plan" "flow" "LMachineHall$Flow;", Cond.methodLink RX3 52 yX3_layPipes, Cond.instanceMethod yX3_layPipes, Cond.selects RX3 yX3_layPipes yX3_layPipes, Cond.code yX3_layPipes cX3_layPipes 6 (some .int), Cond.fieldLink RX3 16 "MachineHall$Plan" "works" "[I", Cond.fieldLink RX3 20 "MachineHall$Plan" "froms" "[I", Cond.fieldLink RX3 23 "MachineHall$Plan" "dues" "[I", Cond.fieldLink RX3 26 "MachineHall$Plan" "mosts" "[I", Cond.methodLink RX3 66 yX0_empty]
def wsX6_part_r3 : List Cond := [Cond.instanceMethod yX0_empty, Cond.selects RX0 yX0_empty yX0_empty, Cond.initialized RX0, Cond.code yX0_empty cX0_empty 2 none, Cond.fieldLink RX0 9 "MachineHall$Flow" "nodes" "I", Cond.fieldLink RX0 17 "MachineHall$Flow" "open" "[[I", Cond.methodLink RX0 27 yJ7_fill_53178, Cond.static yJ7_fill_53178, Cond.initialized RJ7, Cond.code yJ7_fill_53178 cJ7_fill_53178 4 none, Cond.methodLink RX3 69 yX0_pipe, Cond.instanceMethod yX0_pipe, Cond.selects RX0 yX0_pipe yX0_pipe, Cond.code yX0_pipe cX0_pipe 4 none, Cond.methodLink RX3 73 yX1_leftOver, Cond.instanceMethod yX1_leftOver, Cond.selects RX1 yX1_leftOver yX1_leftOver, Cond.code yX1_leftOver cX1_leftOver 4 (some .int), Cond.fieldLink RX1 24 "MachineHall$Hall" "ofHour" "[I", Cond.fieldLink RX1 37 "MachineHall$Hall" "latest" "[I", Cond.fieldLink RX1 27 "MachineHall$Hall" "load" "[I", Cond.methodLink RX1 68 yX1_findLatest, Cond.instanceMethod yX1_findLatest, Cond.selects RX1 yX1_findLatest yX1_findLatest]
def wsX6_part_r4 : List Cond := [Cond.code yX1_findLatest cX1_findLatest 4 none, Cond.fieldLink RX1 40 "MachineHall$Hall" "latestFor" "I", Cond.fieldLink RX1 48 "MachineHall$Hall" "machines" "I", Cond.fieldLink RX1 11 "MachineHall$Hall" "sizes" "[I", Cond.methodLink RX1 96 yJ7_fill_53178, Cond.methodLink RX1 57 yX1_has, Cond.static yX1_has, Cond.code yX1_has cX1_has 2 (some .boolean), Cond.methodLink RX1 102 yX1_findWith, Cond.instanceMethod yX1_findWith, Cond.selects RX1 yX1_findWith yX1_findWith, Cond.code yX1_findWith cX1_findWith 4 none, Cond.fieldLink RX1 51 "MachineHall$Hall" "asks" "I", Cond.fieldLink RX1 34 "MachineHall$Hall" "asked" "[Z", Cond.methodLink RX1 71 yX1_greatestOn, Cond.instanceMethod yX1_greatestOn, Cond.selects RX1 yX1_greatestOn yX1_greatestOn, Cond.code yX1_greatestOn cX1_greatestOn 4 (some .int), Cond.fieldLink RX1 30 "MachineHall$Hall" "clash" "[Z", Cond.methodLink RX1 80 yX1_sizeOf, Cond.instanceMethod yX1_sizeOf, Cond.selects RX1 yX1_sizeOf yX1_sizeOf, Cond.code yX1_sizeOf cX1_sizeOf 4 (some .int), Cond.methodLink RX3 59 yX0_push]
def wsX6_part_r5 : List Cond := [Cond.instanceMethod yX0_push, Cond.selects RX0 yX0_push yX0_push, Cond.code yX0_push cX0_push 6 (some .int), Cond.constant RX0 33 (1000000), Cond.methodLink RX0 34 yX0_findWay, Cond.instanceMethod yX0_findWay, Cond.selects RX0 yX0_findWay yX0_findWay, Cond.code yX0_findWay cX0_findWay 7 (some .boolean), Cond.fieldLink RX0 20 "MachineHall$Flow" "cameFrom" "[I", Cond.fieldLink RX0 24 "MachineHall$Flow" "reached" "[I", Cond.methodLink RX0 38 yX0_send, Cond.instanceMethod yX0_send, Cond.selects RX0 yX0_send yX0_send, Cond.code yX0_send cX0_send 7 (some .int), Cond.methodLink RX0 45 Lib.Math.min.name, Cond.static Lib.Math.min.name, Cond.initialized "java/lang/Math", Cond.code Lib.Math.min.name Lib.Math.min.code 2 (some .int), Cond.methodLink RX3 63 yX3_settleParts, Cond.instanceMethod yX3_settleParts, Cond.selects RX3 yX3_settleParts yX3_settleParts, Cond.code yX3_settleParts cX3_settleParts 3 none, Cond.fieldLink RX3 13 "MachineHall$Plan" "parts" "[[I", Cond.methodLink RX3 79 yX0_settle]
def wsX6_part_r6 : List Cond := [Cond.instanceMethod yX0_settle, Cond.selects RX0 yX0_settle yX0_settle, Cond.code yX0_settle cX0_settle 5 (some .int), Cond.methodLink RX0 42 yX0_push, Cond.methodLink RX6 104 yX6_answer, Cond.instanceMethod yX6_answer, Cond.selects RX6 yX6_answer yX6_answer, Cond.code yX6_answer cX6_answer 2 (some .int)]
def wsX6_part : List Cond := .code yX6_part cX6_part 4 (some .int) :: ((wsX6_part_r1 ++ (wsX6_part_r2 ++ (wsX6_part_r3 ++ (wsX6_part_r4 ++ (wsX6_part_r5 ++ wsX6_part_r6))))) ++ wsX60 ++ wsX30 ++ wsX10 ++ wsX00)
def wsX6_isLine : List Cond := .code yX6_isLine cX6_isLine 3 (some .boolean) :: ([.methodLink RX6 48 yX4_isNumber, .static yX4_isNumber, .initialized RX4, .code yX4_isNumber cX4_isNumber 1 (some .boolean), .static yX6_within, .initialized RX6, .code yX6_within cX6_within 4 (some .boolean), .methodLink RX6 52 yX6_within])
def wsX6_line_r1 : List Cond := [Cond.fieldLink RX6 10 "MachineHall" "sheets" "LMachineHall$Sheets;", Cond.fieldLink RX6 33 "MachineHall" "waiting" "LMachineHall$Waiting;", Cond.methodLink RX6 191 yX6_isLine, Cond.static yX6_isLine, Cond.initialized RX6, Cond.code yX6_isLine cX6_isLine 3 (some .boolean), Cond.methodLink RX6 48 yX4_isNumber, Cond.static yX4_isNumber, Cond.initialized RX4, Cond.code yX4_isNumber cX4_isNumber 1 (some .boolean), Cond.static yX6_within, Cond.code yX6_within cX6_within 4 (some .boolean), Cond.methodLink RX6 52 yX6_within, Cond.methodLink RX6 75 yX6_deny, Cond.instanceMethod yX6_deny, Cond.selects RX6 yX6_deny yX6_deny, Cond.code yX6_deny cX6_deny 2 (some .int), Cond.fieldLink RX6 44 "MachineHall" "status" "I", Cond.methodLink RX6 194 yX4_whyNotFirst, Cond.instanceMethod yX4_whyNotFirst, Cond.selects RX4 yX4_whyNotFirst yX4_whyNotFirst, Cond.code yX4_whyNotFirst cX4_whyNotFirst 5 (some .int), Cond.fieldLink RX4 20 "MachineHall$Sheets" "lengths" "[I", Cond.fieldLink RX4 13 "MachineHall$Sheets" "numbers" "[[J"]
def wsX6_line_r2 : List Cond := [Cond.methodLink RX4 44 yX4_isMissing, Cond.instanceMethod yX4_isMissing, Cond.selects RX4 yX4_isMissing yX4_isMissing, Cond.code yX4_isMissing cX4_isMissing 2 (some .boolean), Cond.methodLink RX6 197 yX5_serve, Cond.instanceMethod yX5_serve, Cond.selects RX5 yX5_serve yX5_serve, Cond.initialized RX5, Cond.code yX5_serve cX5_serve 12 none, Cond.fieldLink RX5 13 "MachineHall$Waiting" "greatest" "I", Cond.fieldLink RX5 17 "MachineHall$Waiting" "together" "I", Cond.fieldLink RX5 20 "MachineHall$Waiting" "came" "I", Cond.fieldLink RX5 23 "MachineHall$Waiting" "waited" "I", Cond.fieldLink RX5 26 "MachineHall$Waiting" "end" "I", Cond.fieldLink RX5 9 "MachineHall$Waiting" "freeAt" "[I", Cond.methodLink RX5 41 Lib.Math.max.name, Cond.static Lib.Math.max.name, Cond.initialized "java/lang/Math", Cond.code Lib.Math.max.name Lib.Math.max.code 2 (some .int), Cond.methodLink RX5 29 yJ7_fill_53178, Cond.static yJ7_fill_53178, Cond.initialized RJ7, Cond.code yJ7_fill_53178 cJ7_fill_53178 4 none, Cond.methodLink RX5 35 yX4_at]
def wsX6_line_r3 : List Cond := [Cond.instanceMethod yX4_at, Cond.selects RX4 yX4_at yX4_at, Cond.code yX4_at cX4_at 3 (some .long), Cond.methodLink RX5 47 yX5_note, Cond.instanceMethod yX5_note, Cond.selects RX5 yX5_note yX5_note, Cond.code yX5_note cX5_note 2 none, Cond.methodLink RX6 201 yX5_told, Cond.instanceMethod yX5_told, Cond.selects RX5 yX5_told yX5_told, Cond.code yX5_told cX5_told 2 (some .int), Cond.methodLink RX6 104 yX6_answer, Cond.instanceMethod yX6_answer, Cond.selects RX6 yX6_answer yX6_answer, Cond.code yX6_answer cX6_answer 2 (some .int)]
def wsX6_line : List Cond := .code yX6_line cX6_line 7 (some .int) :: ((wsX6_line_r1 ++ (wsX6_line_r2 ++ wsX6_line_r3)) ++ wsX60 ++ wsX40 ++ wsX50)
def wsX6_hands_r1 : List Cond := [Cond.fieldLink RX6 10 "MachineHall" "sheets" "LMachineHall$Sheets;", Cond.fieldLink RX6 33 "MachineHall" "waiting" "LMachineHall$Waiting;", Cond.fieldLink RX6 204 "MachineHall$Waiting" "greatest" "I", Cond.methodLink RX6 191 yX6_isLine, Cond.static yX6_isLine, Cond.initialized RX6, Cond.code yX6_isLine cX6_isLine 3 (some .boolean), Cond.methodLink RX6 48 yX4_isNumber, Cond.static yX4_isNumber, Cond.initialized RX4, Cond.code yX4_isNumber cX4_isNumber 1 (some .boolean), Cond.static yX6_within, Cond.code yX6_within cX6_within 4 (some .boolean), Cond.methodLink RX6 52 yX6_within, Cond.methodLink RX6 75 yX6_deny, Cond.instanceMethod yX6_deny, Cond.selects RX6 yX6_deny yX6_deny, Cond.code yX6_deny cX6_deny 2 (some .int), Cond.fieldLink RX6 44 "MachineHall" "status" "I", Cond.methodLink RX6 194 yX4_whyNotFirst, Cond.instanceMethod yX4_whyNotFirst, Cond.selects RX4 yX4_whyNotFirst yX4_whyNotFirst, Cond.code yX4_whyNotFirst cX4_whyNotFirst 5 (some .int), Cond.fieldLink RX4 20 "MachineHall$Sheets" "lengths" "[I"]
def wsX6_hands_r2 : List Cond := [Cond.fieldLink RX4 13 "MachineHall$Sheets" "numbers" "[[J", Cond.methodLink RX4 44 yX4_isMissing, Cond.instanceMethod yX4_isMissing, Cond.selects RX4 yX4_isMissing yX4_isMissing, Cond.code yX4_isMissing cX4_isMissing 2 (some .boolean), Cond.methodLink RX6 197 yX5_serve, Cond.instanceMethod yX5_serve, Cond.selects RX5 yX5_serve yX5_serve, Cond.initialized RX5, Cond.code yX5_serve cX5_serve 12 none, Cond.fieldLink RX5 13 "MachineHall$Waiting" "greatest" "I", Cond.fieldLink RX5 17 "MachineHall$Waiting" "together" "I", Cond.fieldLink RX5 20 "MachineHall$Waiting" "came" "I", Cond.fieldLink RX5 23 "MachineHall$Waiting" "waited" "I", Cond.fieldLink RX5 26 "MachineHall$Waiting" "end" "I", Cond.fieldLink RX5 9 "MachineHall$Waiting" "freeAt" "[I", Cond.methodLink RX5 41 Lib.Math.max.name, Cond.static Lib.Math.max.name, Cond.initialized "java/lang/Math", Cond.code Lib.Math.max.name Lib.Math.max.code 2 (some .int), Cond.methodLink RX5 29 yJ7_fill_53178, Cond.static yJ7_fill_53178, Cond.initialized RJ7, Cond.code yJ7_fill_53178 cJ7_fill_53178 4 none]
def wsX6_hands_r3 : List Cond := [Cond.methodLink RX5 35 yX4_at, Cond.instanceMethod yX4_at, Cond.selects RX4 yX4_at yX4_at, Cond.code yX4_at cX4_at 3 (some .long), Cond.methodLink RX5 47 yX5_note, Cond.instanceMethod yX5_note, Cond.selects RX5 yX5_note yX5_note, Cond.code yX5_note cX5_note 2 none, Cond.methodLink RX6 104 yX6_answer, Cond.instanceMethod yX6_answer, Cond.selects RX6 yX6_answer yX6_answer, Cond.code yX6_answer cX6_answer 2 (some .int)]
def wsX6_hands : List Cond := .code yX6_hands cX6_hands 7 (some .int) :: ((wsX6_hands_r1 ++ (wsX6_hands_r2 ++ wsX6_hands_r3)) ++ wsX60 ++ wsX50 ++ wsX40)
def wsX6_wanted_r1 : List Cond := [Cond.fieldLink RX6 10 "MachineHall" "sheets" "LMachineHall$Sheets;", Cond.fieldLink RX6 40 "MachineHall" "market" "LMachineHall$Market;", Cond.methodLink RX6 48 yX4_isNumber, Cond.static yX4_isNumber, Cond.initialized RX4, Cond.code yX4_isNumber cX4_isNumber 1 (some .boolean), Cond.static yX6_within, Cond.initialized RX6, Cond.code yX6_within cX6_within 4 (some .boolean), Cond.methodLink RX6 56 yX6_refuse, Cond.instanceMethod yX6_refuse, Cond.selects RX6 yX6_refuse yX6_refuse, Cond.code yX6_refuse cX6_refuse 2 (some .boolean), Cond.fieldLink RX6 44 "MachineHall" "status" "I", Cond.methodLink RX6 194 yX4_whyNotFirst, Cond.instanceMethod yX4_whyNotFirst, Cond.selects RX4 yX4_whyNotFirst yX4_whyNotFirst, Cond.code yX4_whyNotFirst cX4_whyNotFirst 5 (some .int), Cond.fieldLink RX4 20 "MachineHall$Sheets" "lengths" "[I", Cond.fieldLink RX4 13 "MachineHall$Sheets" "numbers" "[[J", Cond.methodLink RX4 44 yX4_isMissing, Cond.instanceMethod yX4_isMissing, Cond.selects RX4 yX4_isMissing yX4_isMissing, Cond.code yX4_isMissing cX4_isMissing 2 (some .boolean)]
def wsX6_wanted_r2 : List Cond := [Cond.methodLink RX6 207 yX2_want, Cond.instanceMethod yX2_want, Cond.selects RX2 yX2_want yX2_want, Cond.initialized RX2, Cond.code yX2_want cX2_want 4 none, Cond.fieldLink RX2 16 "MachineHall$Market" "wants" "[I", Cond.fieldLink RX2 57 "MachineHall$Market" "solved" "Z", Cond.methodLink RX2 51 yX4_at, Cond.instanceMethod yX4_at, Cond.selects RX4 yX4_at yX4_at, Cond.code yX4_at cX4_at 3 (some .long), Cond.methodLink RX6 63 yX6_agree, Cond.instanceMethod yX6_agree, Cond.selects RX6 yX6_agree yX6_agree, Cond.code yX6_agree cX6_agree 1 (some .boolean)]
def wsX6_wanted : List Cond := .code yX6_wanted cX6_wanted 3 (some .boolean) :: ((wsX6_wanted_r1 ++ wsX6_wanted_r2) ++ wsX60 ++ wsX40 ++ wsX20)
def wsX6_have : List Cond := .code yX6_have cX6_have 2 (some .boolean) :: ([.fieldLink RX6 40 "MachineHall" "market" "LMachineHall$Market;", .methodLink RX6 52 yX6_within, .static yX6_within, .initialized RX6, .code yX6_within cX6_within 4 (some .boolean), .methodLink RX6 56 yX6_refuse, .instanceMethod yX6_refuse, .selects RX6 yX6_refuse yX6_refuse, .code yX6_refuse cX6_refuse 2 (some .boolean), .fieldLink RX6 44 "MachineHall" "status" "I", .methodLink RX6 211 yX2_own, .instanceMethod yX2_own, .selects RX2 yX2_own yX2_own, .initialized RX2, .code yX2_own cX2_own 2 none, .fieldLink RX2 61 "MachineHall$Market" "owned" "I", .fieldLink RX2 57 "MachineHall$Market" "solved" "Z", .methodLink RX6 63 yX6_agree, .instanceMethod yX6_agree, .selects RX6 yX6_agree yX6_agree, .code yX6_agree cX6_agree 1 (some .boolean)] ++ wsX60 ++ wsX20)
def wsX6_isMonth : List Cond := .code yX6_isMonth cX6_isMonth 1 (some .boolean) :: ([.methodLink RX6 52 yX6_within, .static yX6_within, .initialized RX6, .code yX6_within cX6_within 4 (some .boolean)])
def wsX6_type_r1 : List Cond := [Cond.fieldLink RX6 10 "MachineHall" "sheets" "LMachineHall$Sheets;", Cond.constant RX6 217 (100000), Cond.fieldLink RX6 40 "MachineHall" "market" "LMachineHall$Market;", Cond.fieldLink RX6 143 "MachineHall$Market" "types" "I", Cond.methodLink RX6 52 yX6_within, Cond.static yX6_within, Cond.initialized RX6, Cond.code yX6_within cX6_within 4 (some .boolean), Cond.methodLink RX6 214 yX6_isMonth, Cond.static yX6_isMonth, Cond.code yX6_isMonth cX6_isMonth 1 (some .boolean), Cond.methodLink RX6 48 yX4_isNumber, Cond.static yX4_isNumber, Cond.initialized RX4, Cond.code yX4_isNumber cX4_isNumber 1 (some .boolean), Cond.methodLink RX6 75 yX6_deny, Cond.instanceMethod yX6_deny, Cond.selects RX6 yX6_deny yX6_deny, Cond.code yX6_deny cX6_deny 2 (some .int), Cond.fieldLink RX6 44 "MachineHall" "status" "I", Cond.methodLink RX6 194 yX4_whyNotFirst, Cond.instanceMethod yX4_whyNotFirst, Cond.selects RX4 yX4_whyNotFirst yX4_whyNotFirst, Cond.code yX4_whyNotFirst cX4_whyNotFirst 5 (some .int)]
def wsX6_type_r2 : List Cond := [Cond.fieldLink RX4 20 "MachineHall$Sheets" "lengths" "[I", Cond.fieldLink RX4 13 "MachineHall$Sheets" "numbers" "[[J", Cond.methodLink RX4 44 yX4_isMissing, Cond.instanceMethod yX4_isMissing, Cond.selects RX4 yX4_isMissing yX4_isMissing, Cond.code yX4_isMissing cX4_isMissing 2 (some .boolean), Cond.methodLink RX6 218 yX2_addType, Cond.instanceMethod yX2_addType, Cond.selects RX2 yX2_addType yX2_addType, Cond.initialized RX2, Cond.code yX2_addType cX2_addType 8 (some .int), Cond.fieldLink RX2 39 "MachineHall$Market" "types" "I", Cond.fieldLink RX2 20 "MachineHall$Market" "sizes" "[I", Cond.fieldLink RX2 23 "MachineHall$Market" "leads" "[I", Cond.fieldLink RX2 26 "MachineHall$Market" "powers" "[I", Cond.fieldLink RX2 29 "MachineHall$Market" "prices" "[[I", Cond.fieldLink RX2 57 "MachineHall$Market" "solved" "Z", Cond.methodLink RX2 51 yX4_at, Cond.instanceMethod yX4_at, Cond.selects RX4 yX4_at yX4_at, Cond.code yX4_at cX4_at 3 (some .long), Cond.methodLink RX6 104 yX6_answer, Cond.instanceMethod yX6_answer, Cond.selects RX6 yX6_answer yX6_answer]
def wsX6_type_r3 : List Cond := [Cond.code yX6_answer cX6_answer 2 (some .int)]
def wsX6_type : List Cond := .code yX6_type cX6_type 6 (some .int) :: ((wsX6_type_r1 ++ (wsX6_type_r2 ++ wsX6_type_r3)) ++ wsX60 ++ wsX20 ++ wsX40)
def wsX6_cheapest_r1 : List Cond := [Cond.fieldLink RX6 40 "MachineHall" "market" "LMachineHall$Market;", Cond.fieldLink RX6 228 "MachineHall$Market" "least" "I", Cond.methodLink RX6 222 yX2_solve, Cond.instanceMethod yX2_solve, Cond.selects RX2 yX2_solve yX2_solve, Cond.initialized RX2, Cond.code yX2_solve cX2_solve 3 none, Cond.fieldLink RX2 57 "MachineHall$Market" "solved" "Z", Cond.fieldLink RX2 32 "MachineHall$Market" "toPay" "[I", Cond.fieldLink RX2 35 "MachineHall$Market" "oneMore" "[J", Cond.fieldLink RX2 16 "MachineHall$Market" "wants" "[I", Cond.constant RX2 50 (1000000000), Cond.fieldLink RX2 39 "MachineHall$Market" "types" "I", Cond.fieldLink RX2 23 "MachineHall$Market" "leads" "[I", Cond.fieldLink RX2 61 "MachineHall$Market" "owned" "I", Cond.fieldLink RX2 47 "MachineHall$Market" "least" "I", Cond.methodLink RX2 64 yJ7_fill_53178, Cond.static yJ7_fill_53178, Cond.initialized RJ7, Cond.code yJ7_fill_53178 cJ7_fill_53178 4 none, Cond.methodLink RX2 70 yJ7_fill_d0a16, Cond.static yJ7_fill_d0a16, Cond.code yJ7_fill_d0a16 cJ7_fill_d0a16 5 none, Cond.methodLink RX2 73 yJ7_fill_fda19]
def wsX6_cheapest_r2 : List Cond := [Cond.static yJ7_fill_fda19, Cond.code yJ7_fill_fda19 cJ7_fill_fda19 5 none, Cond.methodLink RJ7 13 yJ7_rangeCheck_23922, Cond.static yJ7_rangeCheck_23922, Cond.code yJ7_rangeCheck_23922 cJ7_rangeCheck_23922 3 none, Cond.methodLink RX2 76 yX2_offer, Cond.instanceMethod yX2_offer, Cond.selects RX2 yX2_offer yX2_offer, Cond.code yX2_offer cX2_offer 6 none, Cond.fieldLink RX2 29 "MachineHall$Market" "prices" "[[I", Cond.fieldLink RX2 26 "MachineHall$Market" "powers" "[I", Cond.fieldLink RX2 20 "MachineHall$Market" "sizes" "[I", Cond.methodLink RX2 87 Lib.Math.min.name, Cond.static Lib.Math.min.name, Cond.initialized "java/lang/Math", Cond.code Lib.Math.min.name Lib.Math.min.code 2 (some .int), Cond.methodLink RX2 93 yX2_word, Cond.static yX2_word, Cond.code yX2_word cX2_word 3 (some .int), Cond.methodLink RX2 80 yX2_isEnough, Cond.instanceMethod yX2_isEnough, Cond.selects RX2 yX2_isEnough yX2_isEnough, Cond.code yX2_isEnough cX2_isEnough 1 (some .boolean), Cond.methodLink RX2 84 yX2_choose]
def wsX6_cheapest_r3 : List Cond := [Cond.instanceMethod yX2_choose, Cond.selects RX2 yX2_choose yX2_choose, Cond.code yX2_choose cX2_choose 5 none, Cond.fieldLink RX2 13 "MachineHall$Market" "bought" "[[I", Cond.methodLink RX2 97 yX2_mustBuy, Cond.instanceMethod yX2_mustBuy, Cond.selects RX2 yX2_mustBuy yX2_mustBuy, Cond.code yX2_mustBuy cX2_mustBuy 4 (some .boolean), Cond.methodLink RX6 225 yX2_isEnough, Cond.methodLink RX6 104 yX6_answer, Cond.instanceMethod yX6_answer, Cond.selects RX6 yX6_answer yX6_answer, Cond.initialized RX6, Cond.code yX6_answer cX6_answer 2 (some .int), Cond.fieldLink RX6 44 "MachineHall" "status" "I", Cond.methodLink RX6 75 yX6_deny, Cond.instanceMethod yX6_deny, Cond.selects RX6 yX6_deny yX6_deny, Cond.code yX6_deny cX6_deny 2 (some .int)]
def wsX6_cheapest : List Cond := .code yX6_cheapest cX6_cheapest 1 (some .int) :: ((wsX6_cheapest_r1 ++ (wsX6_cheapest_r2 ++ wsX6_cheapest_r3)) ++ wsX60 ++ wsX20)
def wsX6_buys_r1 : List Cond := [Cond.fieldLink RX6 40 "MachineHall" "market" "LMachineHall$Market;", Cond.fieldLink RX6 234 "MachineHall$Market" "bought" "[[I", Cond.methodLink RX6 214 yX6_isMonth, Cond.static yX6_isMonth, Cond.initialized RX6, Cond.code yX6_isMonth cX6_isMonth 1 (some .boolean), Cond.methodLink RX6 52 yX6_within, Cond.static yX6_within, Cond.code yX6_within cX6_within 4 (some .boolean), Cond.methodLink RX6 231 yX2_hasType, Cond.instanceMethod yX2_hasType, Cond.selects RX2 yX2_hasType yX2_hasType, Cond.initialized RX2, Cond.code yX2_hasType cX2_hasType 2 (some .boolean), Cond.fieldLink RX2 39 "MachineHall$Market" "types" "I", Cond.methodLink RX6 75 yX6_deny, Cond.instanceMethod yX6_deny, Cond.selects RX6 yX6_deny yX6_deny, Cond.code yX6_deny cX6_deny 2 (some .int), Cond.fieldLink RX6 44 "MachineHall" "status" "I", Cond.methodLink RX6 222 yX2_solve, Cond.instanceMethod yX2_solve, Cond.selects RX2 yX2_solve yX2_solve, Cond.code yX2_solve cX2_solve 3 none]
def wsX6_buys_r2 : List Cond := [Cond.fieldLink RX2 57 "MachineHall$Market" "solved" "Z", Cond.fieldLink RX2 32 "MachineHall$Market" "toPay" "[I", Cond.fieldLink RX2 35 "MachineHall$Market" "oneMore" "[J", Cond.fieldLink RX2 16 "MachineHall$Market" "wants" "[I", Cond.constant RX2 50 (1000000000), Cond.fieldLink RX2 23 "MachineHall$Market" "leads" "[I", Cond.fieldLink RX2 61 "MachineHall$Market" "owned" "I", Cond.fieldLink RX2 47 "MachineHall$Market" "least" "I", Cond.methodLink RX2 64 yJ7_fill_53178, Cond.static yJ7_fill_53178, Cond.initialized RJ7, Cond.code yJ7_fill_53178 cJ7_fill_53178 4 none, Cond.methodLink RX2 70 yJ7_fill_d0a16, Cond.static yJ7_fill_d0a16, Cond.code yJ7_fill_d0a16 cJ7_fill_d0a16 5 none, Cond.methodLink RX2 73 yJ7_fill_fda19, Cond.static yJ7_fill_fda19, Cond.code yJ7_fill_fda19 cJ7_fill_fda19 5 none, Cond.methodLink RJ7 13 yJ7_rangeCheck_23922, Cond.static yJ7_rangeCheck_23922, Cond.code yJ7_rangeCheck_23922 cJ7_rangeCheck_23922 3 none, Cond.methodLink RX2 76 yX2_offer, Cond.instanceMethod yX2_offer, Cond.selects RX2 yX2_offer yX2_offer]
def wsX6_buys_r3 : List Cond := [Cond.code yX2_offer cX2_offer 6 none, Cond.fieldLink RX2 29 "MachineHall$Market" "prices" "[[I", Cond.fieldLink RX2 26 "MachineHall$Market" "powers" "[I", Cond.fieldLink RX2 20 "MachineHall$Market" "sizes" "[I", Cond.methodLink RX2 87 Lib.Math.min.name, Cond.static Lib.Math.min.name, Cond.initialized "java/lang/Math", Cond.code Lib.Math.min.name Lib.Math.min.code 2 (some .int), Cond.methodLink RX2 93 yX2_word, Cond.static yX2_word, Cond.code yX2_word cX2_word 3 (some .int), Cond.methodLink RX2 80 yX2_isEnough, Cond.instanceMethod yX2_isEnough, Cond.selects RX2 yX2_isEnough yX2_isEnough, Cond.code yX2_isEnough cX2_isEnough 1 (some .boolean), Cond.methodLink RX2 84 yX2_choose, Cond.instanceMethod yX2_choose, Cond.selects RX2 yX2_choose yX2_choose, Cond.code yX2_choose cX2_choose 5 none, Cond.fieldLink RX2 13 "MachineHall$Market" "bought" "[[I", Cond.methodLink RX2 97 yX2_mustBuy, Cond.instanceMethod yX2_mustBuy, Cond.selects RX2 yX2_mustBuy yX2_mustBuy, Cond.code yX2_mustBuy cX2_mustBuy 4 (some .boolean)]
def wsX6_buys_r4 : List Cond := [Cond.methodLink RX6 225 yX2_isEnough, Cond.methodLink RX6 104 yX6_answer, Cond.instanceMethod yX6_answer, Cond.selects RX6 yX6_answer yX6_answer, Cond.code yX6_answer cX6_answer 2 (some .int)]
def wsX6_buys : List Cond := .code yX6_buys cX6_buys 3 (some .int) :: ((wsX6_buys_r1 ++ (wsX6_buys_r2 ++ (wsX6_buys_r3 ++ wsX6_buys_r4))) ++ wsX60 ++ wsX20)
def wsX7_init_r1 : List Cond := [Cond.methodLink RX7 1 objectInit, Cond.instanceMethod objectInit, Cond.code objectInit ⟨#[0xb1]⟩ 1 none, Cond.arrayClass .int, Cond.fieldLink RX7 7 "MachineHallModel" "sort" "[I", Cond.fieldLink RX7 13 "MachineHallModel" "many" "[I", Cond.arrayClass .long, Cond.fieldLink RX7 16 "MachineHallModel" "sheets" "[J", Cond.fieldLink RX7 20 "MachineHallModel" "size" "[I", Cond.fieldLink RX7 23 "MachineHallModel" "room" "[I", Cond.arrayClass .boolean, Cond.fieldLink RX7 26 "MachineHallModel" "isUp" "[Z", Cond.fieldLink RX7 30 "MachineHallModel" "need" "[I", Cond.fieldLink RX7 33 "MachineHallModel" "first" "[I", Cond.fieldLink RX7 36 "MachineHallModel" "last" "[I", Cond.fieldLink RX7 39 "MachineHallModel" "apart" "[I", Cond.fieldLink RX7 42 "MachineHallModel" "needs" "[I", Cond.fieldLink RX7 45 "MachineHallModel" "may" "[Z", Cond.fieldLink RX7 48 "MachineHallModel" "can" "[Z", Cond.fieldLink RX7 51 "MachineHallModel" "work" "[I", Cond.fieldLink RX7 54 "MachineHallModel" "from" "[I", Cond.fieldLink RX7 57 "MachineHallModel" "due" "[I", Cond.fieldLink RX7 60 "MachineHallModel" "most" "[I", Cond.fieldLink RX7 63 "MachineHallModel" "part" "[I"]
def wsX7_init_r2 : List Cond := [Cond.fieldLink RX7 66 "MachineHallModel" "has" "[I", Cond.fieldLink RX7 69 "MachineHallModel" "used" "[I", Cond.fieldLink RX7 72 "MachineHallModel" "done" "[I", Cond.fieldLink RX7 75 "MachineHallModel" "stays" "[Z", Cond.fieldLink RX7 78 "MachineHallModel" "before" "[I", Cond.fieldLink RX7 81 "MachineHallModel" "line" "[I", Cond.fieldLink RX7 84 "MachineHallModel" "free" "[I", Cond.fieldLink RX7 87 "MachineHallModel" "wanted" "[I", Cond.fieldLink RX7 90 "MachineHallModel" "typeSize" "[I", Cond.fieldLink RX7 93 "MachineHallModel" "lead" "[I", Cond.fieldLink RX7 96 "MachineHallModel" "power" "[I", Cond.fieldLink RX7 99 "MachineHallModel" "price" "[I", Cond.fieldLink RX7 102 "MachineHallModel" "least" "[I"]
def wsX7_init : List Cond := .code yX7_init cX7_init 1 none :: ((wsX7_init_r1 ++ wsX7_init_r2) ++ wsX70)
def wsX7_status : List Cond := .code yX7_status cX7_status 1 (some .int) :: ([.fieldLink RX7 105 "MachineHallModel" "status" "I"] ++ wsX70)
def wsX7_is : List Cond := .code yX7_is cX7_is 2 (some .boolean) :: ([.fieldLink RX7 105 "MachineHallModel" "status" "I"] ++ wsX70)
def wsX7_refuse : List Cond := .code yX7_refuse cX7_refuse 2 (some .int) :: ([.fieldLink RX7 105 "MachineHallModel" "status" "I"] ++ wsX70)
def wsX7_isSheet : List Cond := .code yX7_isSheet cX7_isSheet 1 (some .boolean) :: ([])
def wsX7_cut : List Cond := .code yX7_cut cX7_cut 3 (some .long) :: ([])
def wsX7_sheet : List Cond := .code yX7_sheet cX7_sheet 5 (some .boolean) :: ([.fieldLink RX7 7 "MachineHallModel" "sort" "[I", .fieldLink RX7 13 "MachineHallModel" "many" "[I", .fieldLink RX7 16 "MachineHallModel" "sheets" "[J", .methodLink RX7 109 yX7_isSheet, .static yX7_isSheet, .initialized RX7, .code yX7_isSheet cX7_isSheet 1 (some .boolean), .methodLink RX7 113 yX7_is, .instanceMethod yX7_is, .selects RX7 yX7_is yX7_is, .code yX7_is cX7_is 2 (some .boolean), .fieldLink RX7 105 "MachineHallModel" "status" "I"] ++ wsX70)
def wsX7_wrong : List Cond := .code yX7_wrong cX7_wrong 3 (some .int) :: ([.fieldLink RX7 13 "MachineHallModel" "many" "[I", .methodLink RX7 109 yX7_isSheet, .static yX7_isSheet, .initialized RX7, .code yX7_isSheet cX7_isSheet 1 (some .boolean)] ++ wsX70)
def wsX7_write : List Cond := .code yX7_write cX7_write 6 (some .boolean) :: ([.fieldLink RX7 16 "MachineHallModel" "sheets" "[J", .fieldLink RX7 7 "MachineHallModel" "sort" "[I", .methodLink RX7 116 yX7_wrong, .instanceMethod yX7_wrong, .selects RX7 yX7_wrong yX7_wrong, .initialized RX7, .code yX7_wrong cX7_wrong 3 (some .int), .fieldLink RX7 13 "MachineHallModel" "many" "[I", .methodLink RX7 109 yX7_isSheet, .static yX7_isSheet, .code yX7_isSheet cX7_isSheet 1 (some .boolean), .methodLink RX7 120 yX7_cut, .static yX7_cut, .code yX7_cut cX7_cut 3 (some .long), .methodLink RX7 113 yX7_is, .instanceMethod yX7_is, .selects RX7 yX7_is yX7_is, .code yX7_is cX7_is 2 (some .boolean), .fieldLink RX7 105 "MachineHallModel" "status" "I"] ++ wsX70)
def wsX7_read : List Cond := .code yX7_read cX7_read 3 (some .long) :: ([.fieldLink RX7 105 "MachineHallModel" "status" "I", .constantLong RX7 124 (-1), .fieldLink RX7 16 "MachineHallModel" "sheets" "[J", .methodLink RX7 116 yX7_wrong, .instanceMethod yX7_wrong, .selects RX7 yX7_wrong yX7_wrong, .initialized RX7, .code yX7_wrong cX7_wrong 3 (some .int), .fieldLink RX7 13 "MachineHallModel" "many" "[I", .methodLink RX7 109 yX7_isSheet, .static yX7_isSheet, .code yX7_isSheet cX7_isSheet 1 (some .boolean)] ++ wsX70)
def wsX7_copy : List Cond := .code yX7_copy cX7_copy 8 (some .boolean) :: ([.fieldLink RX7 13 "MachineHallModel" "many" "[I", .fieldLink RX7 16 "MachineHallModel" "sheets" "[J", .fieldLink RX7 7 "MachineHallModel" "sort" "[I", .methodLink RX7 109 yX7_isSheet, .static yX7_isSheet, .initialized RX7, .code yX7_isSheet cX7_isSheet 1 (some .boolean), .methodLink RX7 113 yX7_is, .instanceMethod yX7_is, .selects RX7 yX7_is yX7_is, .code yX7_is cX7_is 2 (some .boolean), .fieldLink RX7 105 "MachineHallModel" "status" "I", .methodLink RX7 120 yX7_cut, .static yX7_cut, .code yX7_cut cX7_cut 3 (some .long)] ++ wsX70)
def wsX7_drop : List Cond := .code yX7_drop cX7_drop 2 (some .boolean) :: ([.fieldLink RX7 13 "MachineHallModel" "many" "[I", .methodLink RX7 109 yX7_isSheet, .static yX7_isSheet, .initialized RX7, .code yX7_isSheet cX7_isSheet 1 (some .boolean), .methodLink RX7 113 yX7_is, .instanceMethod yX7_is, .selects RX7 yX7_is yX7_is, .code yX7_is cX7_is 2 (some .boolean), .fieldLink RX7 105 "MachineHallModel" "status" "I"] ++ wsX70)
def wsX7_none : List Cond := .code yX7_none cX7_none 1 (some .boolean) :: ([.methodLink RX7 113 yX7_is, .instanceMethod yX7_is, .selects RX7 yX7_is yX7_is, .initialized RX7, .code yX7_is cX7_is 2 (some .boolean), .fieldLink RX7 105 "MachineHallModel" "status" "I"] ++ wsX70)
def wsX7_wrongNumbers : List Cond := .code yX7_wrongNumbers cX7_wrongNumbers 6 (some .int) :: ([.fieldLink RX7 13 "MachineHallModel" "many" "[I", .fieldLink RX7 16 "MachineHallModel" "sheets" "[J", .methodLink RX7 109 yX7_isSheet, .static yX7_isSheet, .initialized RX7, .code yX7_isSheet cX7_isSheet 1 (some .boolean)] ++ wsX70)
def wsX7_machine : List Cond := .code yX7_machine cX7_machine 3 (some .int) :: ([.fieldLink RX7 130 "MachineHallModel" "machines" "I", .fieldLink RX7 20 "MachineHallModel" "size" "[I", .fieldLink RX7 23 "MachineHallModel" "room" "[I", .fieldLink RX7 26 "MachineHallModel" "isUp" "[Z", .fieldLink RX7 105 "MachineHallModel" "status" "I", .methodLink RX7 126 yX7_refuse, .instanceMethod yX7_refuse, .selects RX7 yX7_refuse yX7_refuse, .initialized RX7, .code yX7_refuse cX7_refuse 2 (some .int)] ++ wsX70)
def wsX7_up : List Cond := .code yX7_up cX7_up 3 (some .boolean) :: ([.fieldLink RX7 130 "MachineHallModel" "machines" "I", .fieldLink RX7 26 "MachineHallModel" "isUp" "[Z", .methodLink RX7 113 yX7_is, .instanceMethod yX7_is, .selects RX7 yX7_is yX7_is, .initialized RX7, .code yX7_is cX7_is 2 (some .boolean), .fieldLink RX7 105 "MachineHallModel" "status" "I"] ++ wsX70)
def wsX7_isAsk : List Cond := .code yX7_isAsk cX7_isAsk 2 (some .boolean) :: ([.fieldLink RX7 133 "MachineHallModel" "asks" "I"] ++ wsX70)
def wsX7_ask : List Cond := .code yX7_ask cX7_ask 4 (some .int) :: ([.fieldLink RX7 133 "MachineHallModel" "asks" "I", .fieldLink RX7 30 "MachineHallModel" "need" "[I", .fieldLink RX7 33 "MachineHallModel" "first" "[I", .fieldLink RX7 36 "MachineHallModel" "last" "[I", .fieldLink RX7 39 "MachineHallModel" "apart" "[I", .fieldLink RX7 105 "MachineHallModel" "status" "I", .methodLink RX7 126 yX7_refuse, .instanceMethod yX7_refuse, .selects RX7 yX7_refuse yX7_refuse, .initialized RX7, .code yX7_refuse cX7_refuse 2 (some .int)] ++ wsX70)
def wsX7_apart : List Cond := .code yX7_apart cX7_apart 4 (some .boolean) :: ([.fieldLink RX7 39 "MachineHallModel" "apart" "[I", .methodLink RX7 136 yX7_isAsk, .instanceMethod yX7_isAsk, .selects RX7 yX7_isAsk yX7_isAsk, .initialized RX7, .code yX7_isAsk cX7_isAsk 2 (some .boolean), .fieldLink RX7 133 "MachineHallModel" "asks" "I", .methodLink RX7 113 yX7_is, .instanceMethod yX7_is, .selects RX7 yX7_is yX7_is, .code yX7_is cX7_is 2 (some .boolean), .fieldLink RX7 105 "MachineHallModel" "status" "I"] ++ wsX70)
def wsX7_isHour : List Cond := .code yX7_isHour cX7_isHour 1 (some .boolean) :: ([])
def wsX7_isFall : List Cond := .code yX7_isFall cX7_isFall 1 (some .boolean) :: ([])
def wsX7_stands : List Cond := .code yX7_stands cX7_stands 3 (some .boolean) :: ([.fieldLink RX7 26 "MachineHallModel" "isUp" "[Z", .fieldLink RX7 23 "MachineHallModel" "room" "[I"] ++ wsX70)
def wsX7_sizes : List Cond := .code yX7_sizes cX7_sizes 4 (some .int) :: ([.fieldLink RX7 130 "MachineHallModel" "machines" "I", .fieldLink RX7 20 "MachineHallModel" "size" "[I", .methodLink RX7 139 yX7_stands, .instanceMethod yX7_stands, .selects RX7 yX7_stands yX7_stands, .initialized RX7, .code yX7_stands cX7_stands 3 (some .boolean), .fieldLink RX7 26 "MachineHallModel" "isUp" "[Z", .fieldLink RX7 23 "MachineHallModel" "room" "[I"] ++ wsX70)
def wsX7_count : List Cond := .code yX7_count cX7_count 2 (some .int) :: ([.fieldLink RX7 105 "MachineHallModel" "status" "I", .fieldLink RX7 130 "MachineHallModel" "machines" "I", .fieldLink RX7 133 "MachineHallModel" "asks" "I", .fieldLink RX7 143 "MachineHallModel" "batches" "I", .fieldLink RX7 146 "MachineHallModel" "types" "I", .methodLink RX7 126 yX7_refuse, .instanceMethod yX7_refuse, .selects RX7 yX7_refuse yX7_refuse, .initialized RX7, .code yX7_refuse cX7_refuse 2 (some .int), .methodLink RX7 149 yX7_sizes, .instanceMethod yX7_sizes, .selects RX7 yX7_sizes yX7_sizes, .code yX7_sizes cX7_sizes 4 (some .int), .fieldLink RX7 20 "MachineHallModel" "size" "[I", .methodLink RX7 139 yX7_stands, .instanceMethod yX7_stands, .selects RX7 yX7_stands yX7_stands, .code yX7_stands cX7_stands 3 (some .boolean), .fieldLink RX7 26 "MachineHallModel" "isUp" "[Z", .fieldLink RX7 23 "MachineHallModel" "room" "[I"] ++ wsX70)
def wsX7_look : List Cond := .code yX7_look cX7_look 7 none :: ([.fieldLink RX7 133 "MachineHallModel" "asks" "I", .fieldLink RX7 42 "MachineHallModel" "needs" "[I", .fieldLink RX7 45 "MachineHallModel" "may" "[Z", .fieldLink RX7 30 "MachineHallModel" "need" "[I", .fieldLink RX7 39 "MachineHallModel" "apart" "[I", .fieldLink RX7 48 "MachineHallModel" "can" "[Z", .fieldLink RX7 130 "MachineHallModel" "machines" "I", .fieldLink RX7 20 "MachineHallModel" "size" "[I", .methodLink RX7 139 yX7_stands, .instanceMethod yX7_stands, .selects RX7 yX7_stands yX7_stands, .initialized RX7, .code yX7_stands cX7_stands 3 (some .boolean), .fieldLink RX7 26 "MachineHallModel" "isUp" "[Z", .fieldLink RX7 23 "MachineHallModel" "room" "[I"] ++ wsX70)
def wsX7_setOf : List Cond := .code yX7_setOf cX7_setOf 4 (some .int) :: ([.fieldLink RX7 133 "MachineHallModel" "asks" "I", .fieldLink RX7 33 "MachineHallModel" "first" "[I", .fieldLink RX7 36 "MachineHallModel" "last" "[I"] ++ wsX70)
def wsX7_fits_r1 : List Cond := [Cond.fieldLink RX7 105 "MachineHallModel" "status" "I", Cond.fieldLink RX7 48 "MachineHallModel" "can" "[Z", Cond.methodLink RX7 152 yX7_isHour, Cond.static yX7_isHour, Cond.initialized RX7, Cond.code yX7_isHour cX7_isHour 1 (some .boolean), Cond.methodLink RX7 155 yX7_isFall, Cond.static yX7_isFall, Cond.code yX7_isFall cX7_isFall 1 (some .boolean), Cond.methodLink RX7 126 yX7_refuse, Cond.instanceMethod yX7_refuse, Cond.selects RX7 yX7_refuse yX7_refuse, Cond.code yX7_refuse cX7_refuse 2 (some .int), Cond.methodLink RX7 158 yX7_look, Cond.instanceMethod yX7_look, Cond.selects RX7 yX7_look yX7_look, Cond.code yX7_look cX7_look 7 none, Cond.fieldLink RX7 133 "MachineHallModel" "asks" "I", Cond.fieldLink RX7 42 "MachineHallModel" "needs" "[I", Cond.fieldLink RX7 45 "MachineHallModel" "may" "[Z", Cond.fieldLink RX7 30 "MachineHallModel" "need" "[I", Cond.fieldLink RX7 39 "MachineHallModel" "apart" "[I", Cond.fieldLink RX7 130 "MachineHallModel" "machines" "I", Cond.fieldLink RX7 20 "MachineHallModel" "size" "[I"]
def wsX7_fits_r2 : List Cond := [Cond.methodLink RX7 139 yX7_stands, Cond.instanceMethod yX7_stands, Cond.selects RX7 yX7_stands yX7_stands, Cond.code yX7_stands cX7_stands 3 (some .boolean), Cond.fieldLink RX7 26 "MachineHallModel" "isUp" "[Z", Cond.fieldLink RX7 23 "MachineHallModel" "room" "[I", Cond.methodLink RX7 162 yX7_setOf, Cond.instanceMethod yX7_setOf, Cond.selects RX7 yX7_setOf yX7_setOf, Cond.code yX7_setOf cX7_setOf 4 (some .int), Cond.fieldLink RX7 33 "MachineHallModel" "first" "[I", Cond.fieldLink RX7 36 "MachineHallModel" "last" "[I"]
def wsX7_fits : List Cond := .code yX7_fits cX7_fits 3 (some .int) :: ((wsX7_fits_r1 ++ wsX7_fits_r2) ++ wsX70)
def wsX7_on_r1 : List Cond := [Cond.fieldLink RX7 48 "MachineHallModel" "can" "[Z", Cond.fieldLink RX7 105 "MachineHallModel" "status" "I", Cond.fieldLink RX7 130 "MachineHallModel" "machines" "I", Cond.fieldLink RX7 45 "MachineHallModel" "may" "[Z", Cond.fieldLink RX7 42 "MachineHallModel" "needs" "[I", Cond.fieldLink RX7 20 "MachineHallModel" "size" "[I", Cond.methodLink RX7 152 yX7_isHour, Cond.static yX7_isHour, Cond.initialized RX7, Cond.code yX7_isHour cX7_isHour 1 (some .boolean), Cond.methodLink RX7 155 yX7_isFall, Cond.static yX7_isFall, Cond.code yX7_isFall cX7_isFall 1 (some .boolean), Cond.methodLink RX7 136 yX7_isAsk, Cond.instanceMethod yX7_isAsk, Cond.selects RX7 yX7_isAsk yX7_isAsk, Cond.code yX7_isAsk cX7_isAsk 2 (some .boolean), Cond.fieldLink RX7 133 "MachineHallModel" "asks" "I", Cond.methodLink RX7 162 yX7_setOf, Cond.instanceMethod yX7_setOf, Cond.selects RX7 yX7_setOf yX7_setOf, Cond.code yX7_setOf cX7_setOf 4 (some .int), Cond.fieldLink RX7 33 "MachineHallModel" "first" "[I", Cond.fieldLink RX7 36 "MachineHallModel" "last" "[I"]
def wsX7_on_r2 : List Cond := [Cond.methodLink RX7 126 yX7_refuse, Cond.instanceMethod yX7_refuse, Cond.selects RX7 yX7_refuse yX7_refuse, Cond.code yX7_refuse cX7_refuse 2 (some .int), Cond.methodLink RX7 158 yX7_look, Cond.instanceMethod yX7_look, Cond.selects RX7 yX7_look yX7_look, Cond.code yX7_look cX7_look 7 none, Cond.fieldLink RX7 30 "MachineHallModel" "need" "[I", Cond.fieldLink RX7 39 "MachineHallModel" "apart" "[I", Cond.methodLink RX7 139 yX7_stands, Cond.instanceMethod yX7_stands, Cond.selects RX7 yX7_stands yX7_stands, Cond.code yX7_stands cX7_stands 3 (some .boolean), Cond.fieldLink RX7 26 "MachineHallModel" "isUp" "[Z", Cond.fieldLink RX7 23 "MachineHallModel" "room" "[I"]
def wsX7_on : List Cond := .code yX7_on cX7_on 7 (some .int) :: ((wsX7_on_r1 ++ wsX7_on_r2) ++ wsX70)
def wsX7_lack_r1 : List Cond := [Cond.fieldLink RX7 105 "MachineHallModel" "status" "I", Cond.fieldLink RX7 48 "MachineHallModel" "can" "[Z", Cond.fieldLink RX7 42 "MachineHallModel" "needs" "[I", Cond.methodLink RX7 152 yX7_isHour, Cond.static yX7_isHour, Cond.initialized RX7, Cond.code yX7_isHour cX7_isHour 1 (some .boolean), Cond.methodLink RX7 155 yX7_isFall, Cond.static yX7_isFall, Cond.code yX7_isFall cX7_isFall 1 (some .boolean), Cond.methodLink RX7 126 yX7_refuse, Cond.instanceMethod yX7_refuse, Cond.selects RX7 yX7_refuse yX7_refuse, Cond.code yX7_refuse cX7_refuse 2 (some .int), Cond.methodLink RX7 158 yX7_look, Cond.instanceMethod yX7_look, Cond.selects RX7 yX7_look yX7_look, Cond.code yX7_look cX7_look 7 none, Cond.fieldLink RX7 133 "MachineHallModel" "asks" "I", Cond.fieldLink RX7 45 "MachineHallModel" "may" "[Z", Cond.fieldLink RX7 30 "MachineHallModel" "need" "[I", Cond.fieldLink RX7 39 "MachineHallModel" "apart" "[I", Cond.fieldLink RX7 130 "MachineHallModel" "machines" "I", Cond.fieldLink RX7 20 "MachineHallModel" "size" "[I"]
def wsX7_lack_r2 : List Cond := [Cond.methodLink RX7 139 yX7_stands, Cond.instanceMethod yX7_stands, Cond.selects RX7 yX7_stands yX7_stands, Cond.code yX7_stands cX7_stands 3 (some .boolean), Cond.fieldLink RX7 26 "MachineHallModel" "isUp" "[Z", Cond.fieldLink RX7 23 "MachineHallModel" "room" "[I", Cond.methodLink RX7 162 yX7_setOf, Cond.instanceMethod yX7_setOf, Cond.selects RX7 yX7_setOf yX7_setOf, Cond.code yX7_setOf cX7_setOf 4 (some .int), Cond.fieldLink RX7 33 "MachineHallModel" "first" "[I", Cond.fieldLink RX7 36 "MachineHallModel" "last" "[I"]
def wsX7_lack : List Cond := .code yX7_lack cX7_lack 6 (some .int) :: ((wsX7_lack_r1 ++ wsX7_lack_r2) ++ wsX70)
def wsX7_leftOf : List Cond := .code yX7_leftOf cX7_leftOf 3 (some .int) :: ([.fieldLink RX7 48 "MachineHallModel" "can" "[Z", .fieldLink RX7 42 "MachineHallModel" "needs" "[I", .methodLink RX7 162 yX7_setOf, .instanceMethod yX7_setOf, .selects RX7 yX7_setOf yX7_setOf, .initialized RX7, .code yX7_setOf cX7_setOf 4 (some .int), .fieldLink RX7 133 "MachineHallModel" "asks" "I", .fieldLink RX7 33 "MachineHallModel" "first" "[I", .fieldLink RX7 36 "MachineHallModel" "last" "[I", .methodLink RX7 149 yX7_sizes, .instanceMethod yX7_sizes, .selects RX7 yX7_sizes yX7_sizes, .code yX7_sizes cX7_sizes 4 (some .int), .fieldLink RX7 130 "MachineHallModel" "machines" "I", .fieldLink RX7 20 "MachineHallModel" "size" "[I", .methodLink RX7 139 yX7_stands, .instanceMethod yX7_stands, .selects RX7 yX7_stands yX7_stands, .code yX7_stands cX7_stands 3 (some .boolean), .fieldLink RX7 26 "MachineHallModel" "isUp" "[Z", .fieldLink RX7 23 "MachineHallModel" "room" "[I"] ++ wsX70)
def wsX7_left_r1 : List Cond := [Cond.fieldLink RX7 105 "MachineHallModel" "status" "I", Cond.methodLink RX7 152 yX7_isHour, Cond.static yX7_isHour, Cond.initialized RX7, Cond.code yX7_isHour cX7_isHour 1 (some .boolean), Cond.methodLink RX7 155 yX7_isFall, Cond.static yX7_isFall, Cond.code yX7_isFall cX7_isFall 1 (some .boolean), Cond.methodLink RX7 126 yX7_refuse, Cond.instanceMethod yX7_refuse, Cond.selects RX7 yX7_refuse yX7_refuse, Cond.code yX7_refuse cX7_refuse 2 (some .int), Cond.methodLink RX7 158 yX7_look, Cond.instanceMethod yX7_look, Cond.selects RX7 yX7_look yX7_look, Cond.code yX7_look cX7_look 7 none, Cond.fieldLink RX7 133 "MachineHallModel" "asks" "I", Cond.fieldLink RX7 42 "MachineHallModel" "needs" "[I", Cond.fieldLink RX7 45 "MachineHallModel" "may" "[Z", Cond.fieldLink RX7 30 "MachineHallModel" "need" "[I", Cond.fieldLink RX7 39 "MachineHallModel" "apart" "[I", Cond.fieldLink RX7 48 "MachineHallModel" "can" "[Z", Cond.fieldLink RX7 130 "MachineHallModel" "machines" "I", Cond.fieldLink RX7 20 "MachineHallModel" "size" "[I"]
def wsX7_left_r2 : List Cond := [Cond.methodLink RX7 139 yX7_stands, Cond.instanceMethod yX7_stands, Cond.selects RX7 yX7_stands yX7_stands, Cond.code yX7_stands cX7_stands 3 (some .boolean), Cond.fieldLink RX7 26 "MachineHallModel" "isUp" "[Z", Cond.fieldLink RX7 23 "MachineHallModel" "room" "[I", Cond.methodLink RX7 165 yX7_leftOf, Cond.instanceMethod yX7_leftOf, Cond.selects RX7 yX7_leftOf yX7_leftOf, Cond.code yX7_leftOf cX7_leftOf 3 (some .int), Cond.methodLink RX7 162 yX7_setOf, Cond.instanceMethod yX7_setOf, Cond.selects RX7 yX7_setOf yX7_setOf, Cond.code yX7_setOf cX7_setOf 4 (some .int), Cond.fieldLink RX7 33 "MachineHallModel" "first" "[I", Cond.fieldLink RX7 36 "MachineHallModel" "last" "[I", Cond.methodLink RX7 149 yX7_sizes, Cond.instanceMethod yX7_sizes, Cond.selects RX7 yX7_sizes yX7_sizes, Cond.code yX7_sizes cX7_sizes 4 (some .int)]
def wsX7_left : List Cond := .code yX7_left cX7_left 3 (some .int) :: ((wsX7_left_r1 ++ wsX7_left_r2) ++ wsX70)
def wsX7_enough_r1 : List Cond := [Cond.fieldLink RX7 105 "MachineHallModel" "status" "I", Cond.fieldLink RX7 130 "MachineHallModel" "machines" "I", Cond.fieldLink RX7 48 "MachineHallModel" "can" "[Z", Cond.methodLink RX7 126 yX7_refuse, Cond.instanceMethod yX7_refuse, Cond.selects RX7 yX7_refuse yX7_refuse, Cond.initialized RX7, Cond.code yX7_refuse cX7_refuse 2 (some .int), Cond.methodLink RX7 158 yX7_look, Cond.instanceMethod yX7_look, Cond.selects RX7 yX7_look yX7_look, Cond.code yX7_look cX7_look 7 none, Cond.fieldLink RX7 133 "MachineHallModel" "asks" "I", Cond.fieldLink RX7 42 "MachineHallModel" "needs" "[I", Cond.fieldLink RX7 45 "MachineHallModel" "may" "[Z", Cond.fieldLink RX7 30 "MachineHallModel" "need" "[I", Cond.fieldLink RX7 39 "MachineHallModel" "apart" "[I", Cond.fieldLink RX7 20 "MachineHallModel" "size" "[I", Cond.methodLink RX7 139 yX7_stands, Cond.instanceMethod yX7_stands, Cond.selects RX7 yX7_stands yX7_stands, Cond.code yX7_stands cX7_stands 3 (some .boolean), Cond.fieldLink RX7 26 "MachineHallModel" "isUp" "[Z", Cond.fieldLink RX7 23 "MachineHallModel" "room" "[I"]
def wsX7_enough_r2 : List Cond := [Cond.methodLink RX7 162 yX7_setOf, Cond.instanceMethod yX7_setOf, Cond.selects RX7 yX7_setOf yX7_setOf, Cond.code yX7_setOf cX7_setOf 4 (some .int), Cond.fieldLink RX7 33 "MachineHallModel" "first" "[I", Cond.fieldLink RX7 36 "MachineHallModel" "last" "[I"]
def wsX7_enough : List Cond := .code yX7_enough cX7_enough 6 (some .int) :: ((wsX7_enough_r1 ++ wsX7_enough_r2) ++ wsX70)
def wsX7_batch : List Cond := .code yX7_batch cX7_batch 5 (some .int) :: ([.fieldLink RX7 143 "MachineHallModel" "batches" "I", .fieldLink RX7 51 "MachineHallModel" "work" "[I", .fieldLink RX7 54 "MachineHallModel" "from" "[I", .fieldLink RX7 57 "MachineHallModel" "due" "[I", .fieldLink RX7 60 "MachineHallModel" "most" "[I", .fieldLink RX7 105 "MachineHallModel" "status" "I", .methodLink RX7 126 yX7_refuse, .instanceMethod yX7_refuse, .selects RX7 yX7_refuse yX7_refuse, .initialized RX7, .code yX7_refuse cX7_refuse 2 (some .int)] ++ wsX70)
def wsX7_isIn : List Cond := .code yX7_isIn cX7_isIn 3 (some .boolean) :: ([.fieldLink RX7 54 "MachineHallModel" "from" "[I", .fieldLink RX7 57 "MachineHallModel" "due" "[I"] ++ wsX70)
def wsX7_goes : List Cond := .code yX7_goes cX7_goes 3 (some .int) :: ([.fieldLink RX7 143 "MachineHallModel" "batches" "I", .fieldLink RX7 51 "MachineHallModel" "work" "[I", .fieldLink RX7 72 "MachineHallModel" "done" "[I", .fieldLink RX7 75 "MachineHallModel" "stays" "[Z", .fieldLink RX7 60 "MachineHallModel" "most" "[I", .fieldLink RX7 63 "MachineHallModel" "part" "[I", .fieldLink RX7 66 "MachineHallModel" "has" "[I", .fieldLink RX7 69 "MachineHallModel" "used" "[I", .methodLink RX7 168 yX7_isIn, .instanceMethod yX7_isIn, .selects RX7 yX7_isIn yX7_isIn, .initialized RX7, .code yX7_isIn cX7_isIn 3 (some .boolean), .fieldLink RX7 54 "MachineHallModel" "from" "[I", .fieldLink RX7 57 "MachineHallModel" "due" "[I"] ++ wsX70)
def wsX7_moves : List Cond := .code yX7_moves cX7_moves 4 none :: ([.fieldLink RX7 72 "MachineHallModel" "done" "[I", .fieldLink RX7 63 "MachineHallModel" "part" "[I", .fieldLink RX7 69 "MachineHallModel" "used" "[I"] ++ wsX70)
def wsX7_isWay : List Cond := .code yX7_isWay cX7_isWay 6 (some .boolean) :: ([.fieldLink RX7 78 "MachineHallModel" "before" "[I", .fieldLink RX7 81 "MachineHallModel" "line" "[I", .methodLink RX7 171 yX7_goes, .instanceMethod yX7_goes, .selects RX7 yX7_goes yX7_goes, .initialized RX7, .code yX7_goes cX7_goes 3 (some .int), .fieldLink RX7 143 "MachineHallModel" "batches" "I", .fieldLink RX7 51 "MachineHallModel" "work" "[I", .fieldLink RX7 72 "MachineHallModel" "done" "[I", .fieldLink RX7 75 "MachineHallModel" "stays" "[Z", .fieldLink RX7 60 "MachineHallModel" "most" "[I", .fieldLink RX7 63 "MachineHallModel" "part" "[I", .fieldLink RX7 66 "MachineHallModel" "has" "[I", .fieldLink RX7 69 "MachineHallModel" "used" "[I", .methodLink RX7 168 yX7_isIn, .instanceMethod yX7_isIn, .selects RX7 yX7_isIn yX7_isIn, .code yX7_isIn cX7_isIn 3 (some .boolean), .fieldLink RX7 54 "MachineHallModel" "from" "[I", .fieldLink RX7 57 "MachineHallModel" "due" "[I"] ++ wsX70)
def wsX7_goAlong_r1 : List Cond := [Cond.fieldLink RX7 78 "MachineHallModel" "before" "[I", Cond.methodLink RX7 174 Lib.Math.min.name, Cond.static Lib.Math.min.name, Cond.initialized "java/lang/Math", Cond.code Lib.Math.min.name Lib.Math.min.code 2 (some .int), Cond.methodLink RX7 171 yX7_goes, Cond.instanceMethod yX7_goes, Cond.selects RX7 yX7_goes yX7_goes, Cond.initialized RX7, Cond.code yX7_goes cX7_goes 3 (some .int), Cond.fieldLink RX7 143 "MachineHallModel" "batches" "I", Cond.fieldLink RX7 51 "MachineHallModel" "work" "[I", Cond.fieldLink RX7 72 "MachineHallModel" "done" "[I", Cond.fieldLink RX7 75 "MachineHallModel" "stays" "[Z", Cond.fieldLink RX7 60 "MachineHallModel" "most" "[I", Cond.fieldLink RX7 63 "MachineHallModel" "part" "[I", Cond.fieldLink RX7 66 "MachineHallModel" "has" "[I", Cond.fieldLink RX7 69 "MachineHallModel" "used" "[I", Cond.methodLink RX7 168 yX7_isIn, Cond.instanceMethod yX7_isIn, Cond.selects RX7 yX7_isIn yX7_isIn, Cond.code yX7_isIn cX7_isIn 3 (some .boolean), Cond.fieldLink RX7 54 "MachineHallModel" "from" "[I", Cond.fieldLink RX7 57 "MachineHallModel" "due" "[I"]
def wsX7_goAlong_r2 : List Cond := [Cond.methodLink RX7 179 yX7_moves, Cond.instanceMethod yX7_moves, Cond.selects RX7 yX7_moves yX7_moves, Cond.code yX7_moves cX7_moves 4 none]
def wsX7_goAlong : List Cond := .code yX7_goAlong cX7_goAlong 6 (some .int) :: ((wsX7_goAlong_r1 ++ wsX7_goAlong_r2) ++ wsX70)
def wsX7_layIn_r1 : List Cond := [Cond.fieldLink RX7 66 "MachineHallModel" "has" "[I", Cond.fieldLink RX7 69 "MachineHallModel" "used" "[I", Cond.fieldLink RX7 63 "MachineHallModel" "part" "[I", Cond.fieldLink RX7 75 "MachineHallModel" "stays" "[Z", Cond.fieldLink RX7 143 "MachineHallModel" "batches" "I", Cond.fieldLink RX7 72 "MachineHallModel" "done" "[I", Cond.fieldLink RX7 51 "MachineHallModel" "work" "[I", Cond.methodLink RX7 158 yX7_look, Cond.instanceMethod yX7_look, Cond.selects RX7 yX7_look yX7_look, Cond.initialized RX7, Cond.code yX7_look cX7_look 7 none, Cond.fieldLink RX7 133 "MachineHallModel" "asks" "I", Cond.fieldLink RX7 42 "MachineHallModel" "needs" "[I", Cond.fieldLink RX7 45 "MachineHallModel" "may" "[Z", Cond.fieldLink RX7 30 "MachineHallModel" "need" "[I", Cond.fieldLink RX7 39 "MachineHallModel" "apart" "[I", Cond.fieldLink RX7 48 "MachineHallModel" "can" "[Z", Cond.fieldLink RX7 130 "MachineHallModel" "machines" "I", Cond.fieldLink RX7 20 "MachineHallModel" "size" "[I", Cond.methodLink RX7 139 yX7_stands, Cond.instanceMethod yX7_stands, Cond.selects RX7 yX7_stands yX7_stands, Cond.code yX7_stands cX7_stands 3 (some .boolean)]
def wsX7_layIn_r2 : List Cond := [Cond.fieldLink RX7 26 "MachineHallModel" "isUp" "[Z", Cond.fieldLink RX7 23 "MachineHallModel" "room" "[I", Cond.methodLink RX7 165 yX7_leftOf, Cond.instanceMethod yX7_leftOf, Cond.selects RX7 yX7_leftOf yX7_leftOf, Cond.code yX7_leftOf cX7_leftOf 3 (some .int), Cond.methodLink RX7 162 yX7_setOf, Cond.instanceMethod yX7_setOf, Cond.selects RX7 yX7_setOf yX7_setOf, Cond.code yX7_setOf cX7_setOf 4 (some .int), Cond.fieldLink RX7 33 "MachineHallModel" "first" "[I", Cond.fieldLink RX7 36 "MachineHallModel" "last" "[I", Cond.methodLink RX7 149 yX7_sizes, Cond.instanceMethod yX7_sizes, Cond.selects RX7 yX7_sizes yX7_sizes, Cond.code yX7_sizes cX7_sizes 4 (some .int), Cond.methodLink RX7 183 yX7_isWay, Cond.instanceMethod yX7_isWay, Cond.selects RX7 yX7_isWay yX7_isWay, Cond.code yX7_isWay cX7_isWay 6 (some .boolean), Cond.fieldLink RX7 78 "MachineHallModel" "before" "[I", Cond.fieldLink RX7 81 "MachineHallModel" "line" "[I", Cond.methodLink RX7 171 yX7_goes, Cond.instanceMethod yX7_goes]
def wsX7_layIn_r3 : List Cond := [Cond.selects RX7 yX7_goes yX7_goes, Cond.code yX7_goes cX7_goes 3 (some .int), Cond.fieldLink RX7 60 "MachineHallModel" "most" "[I", Cond.methodLink RX7 168 yX7_isIn, Cond.instanceMethod yX7_isIn, Cond.selects RX7 yX7_isIn yX7_isIn, Cond.code yX7_isIn cX7_isIn 3 (some .boolean), Cond.fieldLink RX7 54 "MachineHallModel" "from" "[I", Cond.fieldLink RX7 57 "MachineHallModel" "due" "[I", Cond.methodLink RX7 186 yX7_goAlong, Cond.instanceMethod yX7_goAlong, Cond.selects RX7 yX7_goAlong yX7_goAlong, Cond.code yX7_goAlong cX7_goAlong 6 (some .int), Cond.methodLink RX7 174 Lib.Math.min.name, Cond.static Lib.Math.min.name, Cond.initialized "java/lang/Math", Cond.code Lib.Math.min.name Lib.Math.min.code 2 (some .int), Cond.methodLink RX7 179 yX7_moves, Cond.instanceMethod yX7_moves, Cond.selects RX7 yX7_moves yX7_moves, Cond.code yX7_moves cX7_moves 4 none]
def wsX7_layIn : List Cond := .code yX7_layIn cX7_layIn 4 (some .int) :: ((wsX7_layIn_r1 ++ (wsX7_layIn_r2 ++ wsX7_layIn_r3)) ++ wsX70)
def wsX7_rest_r1 : List Cond := [Cond.fieldLink RX7 105 "MachineHallModel" "status" "I", Cond.methodLink RX7 155 yX7_isFall, Cond.static yX7_isFall, Cond.initialized RX7, Cond.code yX7_isFall cX7_isFall 1 (some .boolean), Cond.methodLink RX7 126 yX7_refuse, Cond.instanceMethod yX7_refuse, Cond.selects RX7 yX7_refuse yX7_refuse, Cond.code yX7_refuse cX7_refuse 2 (some .int), Cond.methodLink RX7 190 yX7_layIn, Cond.instanceMethod yX7_layIn, Cond.selects RX7 yX7_layIn yX7_layIn, Cond.code yX7_layIn cX7_layIn 4 (some .int), Cond.fieldLink RX7 66 "MachineHallModel" "has" "[I", Cond.fieldLink RX7 69 "MachineHallModel" "used" "[I", Cond.fieldLink RX7 63 "MachineHallModel" "part" "[I", Cond.fieldLink RX7 75 "MachineHallModel" "stays" "[Z", Cond.fieldLink RX7 143 "MachineHallModel" "batches" "I", Cond.fieldLink RX7 72 "MachineHallModel" "done" "[I", Cond.fieldLink RX7 51 "MachineHallModel" "work" "[I", Cond.methodLink RX7 158 yX7_look, Cond.instanceMethod yX7_look, Cond.selects RX7 yX7_look yX7_look, Cond.code yX7_look cX7_look 7 none]
def wsX7_rest_r2 : List Cond := [Cond.fieldLink RX7 133 "MachineHallModel" "asks" "I", Cond.fieldLink RX7 42 "MachineHallModel" "needs" "[I", Cond.fieldLink RX7 45 "MachineHallModel" "may" "[Z", Cond.fieldLink RX7 30 "MachineHallModel" "need" "[I", Cond.fieldLink RX7 39 "MachineHallModel" "apart" "[I", Cond.fieldLink RX7 48 "MachineHallModel" "can" "[Z", Cond.fieldLink RX7 130 "MachineHallModel" "machines" "I", Cond.fieldLink RX7 20 "MachineHallModel" "size" "[I", Cond.methodLink RX7 139 yX7_stands, Cond.instanceMethod yX7_stands, Cond.selects RX7 yX7_stands yX7_stands, Cond.code yX7_stands cX7_stands 3 (some .boolean), Cond.fieldLink RX7 26 "MachineHallModel" "isUp" "[Z", Cond.fieldLink RX7 23 "MachineHallModel" "room" "[I", Cond.methodLink RX7 165 yX7_leftOf, Cond.instanceMethod yX7_leftOf, Cond.selects RX7 yX7_leftOf yX7_leftOf, Cond.code yX7_leftOf cX7_leftOf 3 (some .int), Cond.methodLink RX7 162 yX7_setOf, Cond.instanceMethod yX7_setOf, Cond.selects RX7 yX7_setOf yX7_setOf, Cond.code yX7_setOf cX7_setOf 4 (some .int), Cond.fieldLink RX7 33 "MachineHallModel" "first" "[I", Cond.fieldLink RX7 36 "MachineHallModel" "last" "[I"]
def wsX7_rest_r3 : List Cond := [Cond.methodLink RX7 149 yX7_sizes, Cond.instanceMethod yX7_sizes, Cond.selects RX7 yX7_sizes yX7_sizes, Cond.code yX7_sizes cX7_sizes 4 (some .int), Cond.methodLink RX7 183 yX7_isWay, Cond.instanceMethod yX7_isWay, Cond.selects RX7 yX7_isWay yX7_isWay, Cond.code yX7_isWay cX7_isWay 6 (some .boolean), Cond.fieldLink RX7 78 "MachineHallModel" "before" "[I", Cond.fieldLink RX7 81 "MachineHallModel" "line" "[I", Cond.methodLink RX7 171 yX7_goes, Cond.instanceMethod yX7_goes, Cond.selects RX7 yX7_goes yX7_goes, Cond.code yX7_goes cX7_goes 3 (some .int), Cond.fieldLink RX7 60 "MachineHallModel" "most" "[I", Cond.methodLink RX7 168 yX7_isIn, Cond.instanceMethod yX7_isIn, Cond.selects RX7 yX7_isIn yX7_isIn, Cond.code yX7_isIn cX7_isIn 3 (some .boolean), Cond.fieldLink RX7 54 "MachineHallModel" "from" "[I", Cond.fieldLink RX7 57 "MachineHallModel" "due" "[I", Cond.methodLink RX7 186 yX7_goAlong, Cond.instanceMethod yX7_goAlong, Cond.selects RX7 yX7_goAlong yX7_goAlong]
def wsX7_rest_r4 : List Cond := [Cond.code yX7_goAlong cX7_goAlong 6 (some .int), Cond.methodLink RX7 174 Lib.Math.min.name, Cond.static Lib.Math.min.name, Cond.initialized "java/lang/Math", Cond.code Lib.Math.min.name Lib.Math.min.code 2 (some .int), Cond.methodLink RX7 179 yX7_moves, Cond.instanceMethod yX7_moves, Cond.selects RX7 yX7_moves yX7_moves, Cond.code yX7_moves cX7_moves 4 none]
def wsX7_rest : List Cond := .code yX7_rest cX7_rest 2 (some .int) :: ((wsX7_rest_r1 ++ (wsX7_rest_r2 ++ (wsX7_rest_r3 ++ wsX7_rest_r4))) ++ wsX70)
def wsX7_part_r1 : List Cond := [Cond.fieldLink RX7 143 "MachineHallModel" "batches" "I", Cond.fieldLink RX7 105 "MachineHallModel" "status" "I", Cond.fieldLink RX7 54 "MachineHallModel" "from" "[I", Cond.fieldLink RX7 57 "MachineHallModel" "due" "[I", Cond.fieldLink RX7 75 "MachineHallModel" "stays" "[Z", Cond.fieldLink RX7 63 "MachineHallModel" "part" "[I", Cond.fieldLink RX7 60 "MachineHallModel" "most" "[I", Cond.methodLink RX7 155 yX7_isFall, Cond.static yX7_isFall, Cond.initialized RX7, Cond.code yX7_isFall cX7_isFall 1 (some .boolean), Cond.methodLink RX7 152 yX7_isHour, Cond.static yX7_isHour, Cond.code yX7_isHour cX7_isHour 1 (some .boolean), Cond.methodLink RX7 126 yX7_refuse, Cond.instanceMethod yX7_refuse, Cond.selects RX7 yX7_refuse yX7_refuse, Cond.code yX7_refuse cX7_refuse 2 (some .int), Cond.methodLink RX7 190 yX7_layIn, Cond.instanceMethod yX7_layIn, Cond.selects RX7 yX7_layIn yX7_layIn, Cond.code yX7_layIn cX7_layIn 4 (some .int), Cond.fieldLink RX7 66 "MachineHallModel" "has" "[I", Cond.fieldLink RX7 69 "MachineHallModel" "used" "[I"]
def wsX7_part_r2 : List Cond := [Cond.fieldLink RX7 72 "MachineHallModel" "done" "[I", Cond.fieldLink RX7 51 "MachineHallModel" "work" "[I", Cond.methodLink RX7 158 yX7_look, Cond.instanceMethod yX7_look, Cond.selects RX7 yX7_look yX7_look, Cond.code yX7_look cX7_look 7 none, Cond.fieldLink RX7 133 "MachineHallModel" "asks" "I", Cond.fieldLink RX7 42 "MachineHallModel" "needs" "[I", Cond.fieldLink RX7 45 "MachineHallModel" "may" "[Z", Cond.fieldLink RX7 30 "MachineHallModel" "need" "[I", Cond.fieldLink RX7 39 "MachineHallModel" "apart" "[I", Cond.fieldLink RX7 48 "MachineHallModel" "can" "[Z", Cond.fieldLink RX7 130 "MachineHallModel" "machines" "I", Cond.fieldLink RX7 20 "MachineHallModel" "size" "[I", Cond.methodLink RX7 139 yX7_stands, Cond.instanceMethod yX7_stands, Cond.selects RX7 yX7_stands yX7_stands, Cond.code yX7_stands cX7_stands 3 (some .boolean), Cond.fieldLink RX7 26 "MachineHallModel" "isUp" "[Z", Cond.fieldLink RX7 23 "MachineHallModel" "room" "[I", Cond.methodLink RX7 165 yX7_leftOf, Cond.instanceMethod yX7_leftOf, Cond.selects RX7 yX7_leftOf yX7_leftOf, Cond.code yX7_leftOf cX7_leftOf 3 (some .int)]
def wsX7_part_r3 : List Cond := [Cond.methodLink RX7 162 yX7_setOf, Cond.instanceMethod yX7_setOf, Cond.selects RX7 yX7_setOf yX7_setOf, Cond.code yX7_setOf cX7_setOf 4 (some .int), Cond.fieldLink RX7 33 "MachineHallModel" "first" "[I", Cond.fieldLink RX7 36 "MachineHallModel" "last" "[I", Cond.methodLink RX7 149 yX7_sizes, Cond.instanceMethod yX7_sizes, Cond.selects RX7 yX7_sizes yX7_sizes, Cond.code yX7_sizes cX7_sizes 4 (some .int), Cond.methodLink RX7 183 yX7_isWay, Cond.instanceMethod yX7_isWay, Cond.selects RX7 yX7_isWay yX7_isWay, Cond.code yX7_isWay cX7_isWay 6 (some .boolean), Cond.fieldLink RX7 78 "MachineHallModel" "before" "[I", Cond.fieldLink RX7 81 "MachineHallModel" "line" "[I", Cond.methodLink RX7 171 yX7_goes, Cond.instanceMethod yX7_goes, Cond.selects RX7 yX7_goes yX7_goes, Cond.code yX7_goes cX7_goes 3 (some .int), Cond.methodLink RX7 168 yX7_isIn, Cond.instanceMethod yX7_isIn, Cond.selects RX7 yX7_isIn yX7_isIn, Cond.code yX7_isIn cX7_isIn 3 (some .boolean)]
def wsX7_part_r4 : List Cond := [Cond.methodLink RX7 186 yX7_goAlong, Cond.instanceMethod yX7_goAlong, Cond.selects RX7 yX7_goAlong yX7_goAlong, Cond.code yX7_goAlong cX7_goAlong 6 (some .int), Cond.methodLink RX7 174 Lib.Math.min.name, Cond.static Lib.Math.min.name, Cond.initialized "java/lang/Math", Cond.code Lib.Math.min.name Lib.Math.min.code 2 (some .int), Cond.methodLink RX7 179 yX7_moves, Cond.instanceMethod yX7_moves, Cond.selects RX7 yX7_moves yX7_moves, Cond.code yX7_moves cX7_moves 4 none]
def wsX7_part : List Cond := .code yX7_part cX7_part 8 (some .int) :: ((wsX7_part_r1 ++ (wsX7_part_r2 ++ (wsX7_part_r3 ++ wsX7_part_r4))) ++ wsX70)
def wsX7_step : List Cond := .code yX7_step cX7_step 9 none :: ([.fieldLink RX7 193 "MachineHallModel" "greatest" "I", .fieldLink RX7 196 "MachineHallModel" "together" "I", .fieldLink RX7 199 "MachineHallModel" "comes" "I", .fieldLink RX7 202 "MachineHallModel" "waiting" "I", .fieldLink RX7 205 "MachineHallModel" "end" "I", .fieldLink RX7 84 "MachineHallModel" "free" "[I", .fieldLink RX7 16 "MachineHallModel" "sheets" "[J", .methodLink RX7 208 Lib.Math.max.name, .static Lib.Math.max.name, .initialized "java/lang/Math", .code Lib.Math.max.name Lib.Math.max.code 2 (some .int)] ++ wsX70)
def wsX7_line_r1 : List Cond := [Cond.constantLong RX7 211 (100), Cond.fieldLink RX7 105 "MachineHallModel" "status" "I", Cond.fieldLink RX7 193 "MachineHallModel" "greatest" "I", Cond.fieldLink RX7 196 "MachineHallModel" "together" "I", Cond.fieldLink RX7 199 "MachineHallModel" "comes" "I", Cond.fieldLink RX7 202 "MachineHallModel" "waiting" "I", Cond.fieldLink RX7 205 "MachineHallModel" "end" "I", Cond.methodLink RX7 213 yX7_wrongNumbers, Cond.instanceMethod yX7_wrongNumbers, Cond.selects RX7 yX7_wrongNumbers yX7_wrongNumbers, Cond.initialized RX7, Cond.code yX7_wrongNumbers cX7_wrongNumbers 6 (some .int), Cond.fieldLink RX7 13 "MachineHallModel" "many" "[I", Cond.fieldLink RX7 16 "MachineHallModel" "sheets" "[J", Cond.methodLink RX7 109 yX7_isSheet, Cond.static yX7_isSheet, Cond.code yX7_isSheet cX7_isSheet 1 (some .boolean), Cond.methodLink RX7 126 yX7_refuse, Cond.instanceMethod yX7_refuse, Cond.selects RX7 yX7_refuse yX7_refuse, Cond.code yX7_refuse cX7_refuse 2 (some .int), Cond.methodLink RX7 217 yX7_step, Cond.instanceMethod yX7_step, Cond.selects RX7 yX7_step yX7_step]
def wsX7_line_r2 : List Cond := [Cond.code yX7_step cX7_step 9 none, Cond.fieldLink RX7 84 "MachineHallModel" "free" "[I", Cond.methodLink RX7 208 Lib.Math.max.name, Cond.static Lib.Math.max.name, Cond.initialized "java/lang/Math", Cond.code Lib.Math.max.name Lib.Math.max.code 2 (some .int)]
def wsX7_line : List Cond := .code yX7_line cX7_line 7 (some .int) :: ((wsX7_line_r1 ++ wsX7_line_r2) ++ wsX70)
def wsX7_hands_r1 : List Cond := [Cond.constantLong RX7 211 (100), Cond.fieldLink RX7 105 "MachineHallModel" "status" "I", Cond.fieldLink RX7 193 "MachineHallModel" "greatest" "I", Cond.methodLink RX7 213 yX7_wrongNumbers, Cond.instanceMethod yX7_wrongNumbers, Cond.selects RX7 yX7_wrongNumbers yX7_wrongNumbers, Cond.initialized RX7, Cond.code yX7_wrongNumbers cX7_wrongNumbers 6 (some .int), Cond.fieldLink RX7 13 "MachineHallModel" "many" "[I", Cond.fieldLink RX7 16 "MachineHallModel" "sheets" "[J", Cond.methodLink RX7 109 yX7_isSheet, Cond.static yX7_isSheet, Cond.code yX7_isSheet cX7_isSheet 1 (some .boolean), Cond.methodLink RX7 126 yX7_refuse, Cond.instanceMethod yX7_refuse, Cond.selects RX7 yX7_refuse yX7_refuse, Cond.code yX7_refuse cX7_refuse 2 (some .int), Cond.methodLink RX7 217 yX7_step, Cond.instanceMethod yX7_step, Cond.selects RX7 yX7_step yX7_step, Cond.code yX7_step cX7_step 9 none, Cond.fieldLink RX7 196 "MachineHallModel" "together" "I", Cond.fieldLink RX7 199 "MachineHallModel" "comes" "I", Cond.fieldLink RX7 202 "MachineHallModel" "waiting" "I"]
def wsX7_hands_r2 : List Cond := [Cond.fieldLink RX7 205 "MachineHallModel" "end" "I", Cond.fieldLink RX7 84 "MachineHallModel" "free" "[I", Cond.methodLink RX7 208 Lib.Math.max.name, Cond.static Lib.Math.max.name, Cond.initialized "java/lang/Math", Cond.code Lib.Math.max.name Lib.Math.max.code 2 (some .int)]
def wsX7_hands : List Cond := .code yX7_hands cX7_hands 7 (some .int) :: ((wsX7_hands_r1 ++ wsX7_hands_r2) ++ wsX70)
def wsX7_wanted : List Cond := .code yX7_wanted cX7_wanted 4 (some .boolean) :: ([.constantLong RX7 221 (500), .fieldLink RX7 87 "MachineHallModel" "wanted" "[I", .fieldLink RX7 16 "MachineHallModel" "sheets" "[J", .methodLink RX7 213 yX7_wrongNumbers, .instanceMethod yX7_wrongNumbers, .selects RX7 yX7_wrongNumbers yX7_wrongNumbers, .initialized RX7, .code yX7_wrongNumbers cX7_wrongNumbers 6 (some .int), .fieldLink RX7 13 "MachineHallModel" "many" "[I", .methodLink RX7 109 yX7_isSheet, .static yX7_isSheet, .code yX7_isSheet cX7_isSheet 1 (some .boolean), .methodLink RX7 113 yX7_is, .instanceMethod yX7_is, .selects RX7 yX7_is yX7_is, .code yX7_is cX7_is 2 (some .boolean), .fieldLink RX7 105 "MachineHallModel" "status" "I"] ++ wsX70)
def wsX7_have : List Cond := .code yX7_have cX7_have 2 (some .boolean) :: ([.fieldLink RX7 223 "MachineHallModel" "have" "I", .methodLink RX7 113 yX7_is, .instanceMethod yX7_is, .selects RX7 yX7_is yX7_is, .initialized RX7, .code yX7_is cX7_is 2 (some .boolean), .fieldLink RX7 105 "MachineHallModel" "status" "I"] ++ wsX70)
def wsX7_type : List Cond := .code yX7_type cX7_type 7 (some .int) :: ([.constantLong RX7 226 (100000), .fieldLink RX7 146 "MachineHallModel" "types" "I", .fieldLink RX7 90 "MachineHallModel" "typeSize" "[I", .fieldLink RX7 93 "MachineHallModel" "lead" "[I", .fieldLink RX7 96 "MachineHallModel" "power" "[I", .fieldLink RX7 99 "MachineHallModel" "price" "[I", .fieldLink RX7 16 "MachineHallModel" "sheets" "[J", .fieldLink RX7 105 "MachineHallModel" "status" "I", .methodLink RX7 213 yX7_wrongNumbers, .instanceMethod yX7_wrongNumbers, .selects RX7 yX7_wrongNumbers yX7_wrongNumbers, .initialized RX7, .code yX7_wrongNumbers cX7_wrongNumbers 6 (some .int), .fieldLink RX7 13 "MachineHallModel" "many" "[I", .methodLink RX7 109 yX7_isSheet, .static yX7_isSheet, .code yX7_isSheet cX7_isSheet 1 (some .boolean), .methodLink RX7 126 yX7_refuse, .instanceMethod yX7_refuse, .selects RX7 yX7_refuse yX7_refuse, .code yX7_refuse cX7_refuse 2 (some .int)] ++ wsX70)
def wsX7_at : List Cond := .code yX7_at cX7_at 3 (some .int) :: ([])
def wsX7_takes : List Cond := .code yX7_takes cX7_takes 3 (some .int) :: ([.fieldLink RX7 99 "MachineHallModel" "price" "[I", .fieldLink RX7 93 "MachineHallModel" "lead" "[I", .fieldLink RX7 96 "MachineHallModel" "power" "[I"] ++ wsX70)
def wsX7_reckon : List Cond := .code yX7_reckon cX7_reckon 6 none :: ([.fieldLink RX7 102 "MachineHallModel" "least" "[I", .fieldLink RX7 87 "MachineHallModel" "wanted" "[I", .constant RX7 231 (2000000000), .fieldLink RX7 146 "MachineHallModel" "types" "I", .fieldLink RX7 93 "MachineHallModel" "lead" "[I", .fieldLink RX7 90 "MachineHallModel" "typeSize" "[I", .methodLink RX7 174 Lib.Math.min.name, .static Lib.Math.min.name, .initialized "java/lang/Math", .code Lib.Math.min.name Lib.Math.min.code 2 (some .int), .methodLink RX7 228 yX7_at, .static yX7_at, .initialized RX7, .code yX7_at cX7_at 3 (some .int), .methodLink RX7 232 yX7_takes, .instanceMethod yX7_takes, .selects RX7 yX7_takes yX7_takes, .code yX7_takes cX7_takes 3 (some .int), .fieldLink RX7 99 "MachineHallModel" "price" "[I", .fieldLink RX7 96 "MachineHallModel" "power" "[I"] ++ wsX70)
def wsX7_cheapest_r1 : List Cond := [Cond.fieldLink RX7 102 "MachineHallModel" "least" "[I", Cond.fieldLink RX7 223 "MachineHallModel" "have" "I", Cond.constant RX7 231 (2000000000), Cond.fieldLink RX7 105 "MachineHallModel" "status" "I", Cond.methodLink RX7 235 yX7_reckon, Cond.instanceMethod yX7_reckon, Cond.selects RX7 yX7_reckon yX7_reckon, Cond.initialized RX7, Cond.code yX7_reckon cX7_reckon 6 none, Cond.fieldLink RX7 87 "MachineHallModel" "wanted" "[I", Cond.fieldLink RX7 146 "MachineHallModel" "types" "I", Cond.fieldLink RX7 93 "MachineHallModel" "lead" "[I", Cond.fieldLink RX7 90 "MachineHallModel" "typeSize" "[I", Cond.methodLink RX7 174 Lib.Math.min.name, Cond.static Lib.Math.min.name, Cond.initialized "java/lang/Math", Cond.code Lib.Math.min.name Lib.Math.min.code 2 (some .int), Cond.methodLink RX7 228 yX7_at, Cond.static yX7_at, Cond.code yX7_at cX7_at 3 (some .int), Cond.methodLink RX7 232 yX7_takes, Cond.instanceMethod yX7_takes, Cond.selects RX7 yX7_takes yX7_takes, Cond.code yX7_takes cX7_takes 3 (some .int)]
def wsX7_cheapest_r2 : List Cond := [Cond.fieldLink RX7 99 "MachineHallModel" "price" "[I", Cond.fieldLink RX7 96 "MachineHallModel" "power" "[I", Cond.methodLink RX7 126 yX7_refuse, Cond.instanceMethod yX7_refuse, Cond.selects RX7 yX7_refuse yX7_refuse, Cond.code yX7_refuse cX7_refuse 2 (some .int)]
def wsX7_cheapest : List Cond := .code yX7_cheapest cX7_cheapest 2 (some .int) :: ((wsX7_cheapest_r1 ++ wsX7_cheapest_r2) ++ wsX70)
def wsX7_buys_r1 : List Cond := [Cond.fieldLink RX7 146 "MachineHallModel" "types" "I", Cond.fieldLink RX7 102 "MachineHallModel" "least" "[I", Cond.fieldLink RX7 223 "MachineHallModel" "have" "I", Cond.constant RX7 231 (2000000000), Cond.fieldLink RX7 105 "MachineHallModel" "status" "I", Cond.fieldLink RX7 87 "MachineHallModel" "wanted" "[I", Cond.fieldLink RX7 90 "MachineHallModel" "typeSize" "[I", Cond.methodLink RX7 174 Lib.Math.min.name, Cond.static Lib.Math.min.name, Cond.initialized "java/lang/Math", Cond.code Lib.Math.min.name Lib.Math.min.code 2 (some .int), Cond.methodLink RX7 126 yX7_refuse, Cond.instanceMethod yX7_refuse, Cond.selects RX7 yX7_refuse yX7_refuse, Cond.initialized RX7, Cond.code yX7_refuse cX7_refuse 2 (some .int), Cond.methodLink RX7 235 yX7_reckon, Cond.instanceMethod yX7_reckon, Cond.selects RX7 yX7_reckon yX7_reckon, Cond.code yX7_reckon cX7_reckon 6 none, Cond.fieldLink RX7 93 "MachineHallModel" "lead" "[I", Cond.methodLink RX7 228 yX7_at, Cond.static yX7_at, Cond.code yX7_at cX7_at 3 (some .int)]
def wsX7_buys_r2 : List Cond := [Cond.methodLink RX7 232 yX7_takes, Cond.instanceMethod yX7_takes, Cond.selects RX7 yX7_takes yX7_takes, Cond.code yX7_takes cX7_takes 3 (some .int), Cond.fieldLink RX7 99 "MachineHallModel" "price" "[I", Cond.fieldLink RX7 96 "MachineHallModel" "power" "[I"]
def wsX7_buys : List Cond := .code yX7_buys cX7_buys 7 (some .int) :: ((wsX7_buys_r1 ++ wsX7_buys_r2) ++ wsX70)
def wsJ9_max_7cf53 : List Cond := .code yJ9_max_7cf53 cJ9_max_7cf53 2 (some .int) :: ([])
def wsJ9_min_7cf53 : List Cond := .code yJ9_min_7cf53 cJ9_min_7cf53 2 (some .int) :: ([])
def wsL_law_r1 : List Cond := [Cond.classLink RL 7 RX6, Cond.instantiable RX6 6, Cond.initialized RX6, Cond.classLink RL 10 RX7, Cond.instantiable RX7 42, Cond.initialized RX7, Cond.constantLong RL 23 (4294967295), Cond.methodLink RL 9 yX6_init, Cond.instanceMethod yX6_init, Cond.code yX6_init cX6_init 1 none, Cond.methodLink RX6 1 objectInit, Cond.instanceMethod objectInit, Cond.code objectInit ⟨#[0xb1]⟩ 1 none, Cond.classLink RX6 7 RX4, Cond.instantiable RX4 3, Cond.initialized RX4, Cond.fieldLink RX6 10 "MachineHall" "sheets" "LMachineHall$Sheets;", Cond.classLink RX6 16 RX1, Cond.instantiable RX1 13, Cond.initialized RX1, Cond.fieldLink RX6 19 "MachineHall" "hall" "LMachineHall$Hall;", Cond.classLink RX6 23 RX3, Cond.instantiable RX3 9, Cond.initialized RX3]
def wsL_law_r2 : List Cond := [Cond.fieldLink RX6 26 "MachineHall" "plan" "LMachineHall$Plan;", Cond.classLink RX6 30 RX5, Cond.instantiable RX5 6, Cond.initialized RX5, Cond.fieldLink RX6 33 "MachineHall" "waiting" "LMachineHall$Waiting;", Cond.classLink RX6 37 RX2, Cond.instantiable RX2 12, Cond.initialized RX2, Cond.fieldLink RX6 40 "MachineHall" "market" "LMachineHall$Market;", Cond.fieldLink RX6 44 "MachineHall" "status" "I", Cond.methodLink RX6 9 yX4_init, Cond.instanceMethod yX4_init, Cond.code yX4_init cX4_init 1 none, Cond.methodLink RX4 3 objectInit, Cond.classLink RX4 11 "[[J", Cond.arrayClass .long, Cond.fieldLink RX4 13 "MachineHall$Sheets" "numbers" "[[J", Cond.arrayClass .int, Cond.fieldLink RX4 16 "MachineHall$Sheets" "sorts" "[I", Cond.fieldLink RX4 20 "MachineHall$Sheets" "lengths" "[I", Cond.methodLink RX4 23 yJ7_fill_53178, Cond.static yJ7_fill_53178, Cond.initialized RJ7, Cond.code yJ7_fill_53178 cJ7_fill_53178 4 none]
def wsL_law_r3 : List Cond := [Cond.methodLink RX6 18 yX1_init, Cond.instanceMethod yX1_init, Cond.code yX1_init cX1_init 1 none, Cond.methodLink RX1 5 objectInit, Cond.fieldLink RX1 11 "MachineHall$Hall" "sizes" "[I", Cond.fieldLink RX1 15 "MachineHall$Hall" "inRoom" "[I", Cond.fieldLink RX1 18 "MachineHall$Hall" "needs" "[I", Cond.fieldLink RX1 21 "MachineHall$Hall" "foes" "[I", Cond.fieldLink RX1 24 "MachineHall$Hall" "ofHour" "[I", Cond.fieldLink RX1 27 "MachineHall$Hall" "load" "[I", Cond.arrayClass .boolean, Cond.fieldLink RX1 30 "MachineHall$Hall" "clash" "[Z", Cond.fieldLink RX1 34 "MachineHall$Hall" "asked" "[Z", Cond.fieldLink RX1 37 "MachineHall$Hall" "latest" "[I", Cond.fieldLink RX1 40 "MachineHall$Hall" "latestFor" "I", Cond.methodLink RX6 25 yX3_init, Cond.instanceMethod yX3_init, Cond.code yX3_init cX3_init 1 none, Cond.methodLink RX3 5 objectInit, Cond.classLink RX3 11 "[[I", Cond.fieldLink RX3 13 "MachineHall$Plan" "parts" "[[I", Cond.fieldLink RX3 16 "MachineHall$Plan" "works" "[I", Cond.fieldLink RX3 20 "MachineHall$Plan" "froms" "[I", Cond.fieldLink RX3 23 "MachineHall$Plan" "dues" "[I"]
def wsL_law_r4 : List Cond := [Cond.fieldLink RX3 26 "MachineHall$Plan" "mosts" "[I", Cond.classLink RX3 29 RX0, Cond.instantiable RX0 4, Cond.initialized RX0, Cond.fieldLink RX3 34 "MachineHall$Plan" "flow" "LMachineHall$Flow;", Cond.fieldLink RX3 38 "MachineHall$Plan" "laidFor" "I", Cond.methodLink RX3 31 yX0_init, Cond.instanceMethod yX0_init, Cond.code yX0_init cX0_init 2 none, Cond.methodLink RX0 3 objectInit, Cond.fieldLink RX0 9 "MachineHall$Flow" "nodes" "I", Cond.classLink RX0 15 "[[I", Cond.fieldLink RX0 17 "MachineHall$Flow" "open" "[[I", Cond.fieldLink RX0 20 "MachineHall$Flow" "cameFrom" "[I", Cond.fieldLink RX0 24 "MachineHall$Flow" "reached" "[I", Cond.methodLink RX6 32 yX5_init, Cond.instanceMethod yX5_init, Cond.code yX5_init cX5_init 1 none, Cond.methodLink RX5 1 objectInit, Cond.fieldLink RX5 9 "MachineHall$Waiting" "freeAt" "[I", Cond.methodLink RX6 39 yX2_init, Cond.instanceMethod yX2_init, Cond.code yX2_init cX2_init 1 none, Cond.methodLink RX2 5 objectInit]
def wsL_law_r5 : List Cond := [Cond.classLink RX2 11 "[[I", Cond.fieldLink RX2 13 "MachineHall$Market" "bought" "[[I", Cond.fieldLink RX2 16 "MachineHall$Market" "wants" "[I", Cond.fieldLink RX2 20 "MachineHall$Market" "sizes" "[I", Cond.fieldLink RX2 23 "MachineHall$Market" "leads" "[I", Cond.fieldLink RX2 26 "MachineHall$Market" "powers" "[I", Cond.fieldLink RX2 29 "MachineHall$Market" "prices" "[[I", Cond.fieldLink RX2 32 "MachineHall$Market" "toPay" "[I", Cond.fieldLink RX2 35 "MachineHall$Market" "oneMore" "[J", Cond.methodLink RL 12 yX7_init, Cond.instanceMethod yX7_init, Cond.code yX7_init cX7_init 1 none, Cond.methodLink RX7 1 objectInit, Cond.fieldLink RX7 7 "MachineHallModel" "sort" "[I", Cond.fieldLink RX7 13 "MachineHallModel" "many" "[I", Cond.fieldLink RX7 16 "MachineHallModel" "sheets" "[J", Cond.fieldLink RX7 20 "MachineHallModel" "size" "[I", Cond.fieldLink RX7 23 "MachineHallModel" "room" "[I", Cond.fieldLink RX7 26 "MachineHallModel" "isUp" "[Z", Cond.fieldLink RX7 30 "MachineHallModel" "need" "[I", Cond.fieldLink RX7 33 "MachineHallModel" "first" "[I", Cond.fieldLink RX7 36 "MachineHallModel" "last" "[I", Cond.fieldLink RX7 39 "MachineHallModel" "apart" "[I", Cond.fieldLink RX7 42 "MachineHallModel" "needs" "[I"]
def wsL_law_r6 : List Cond := [Cond.fieldLink RX7 45 "MachineHallModel" "may" "[Z", Cond.fieldLink RX7 48 "MachineHallModel" "can" "[Z", Cond.fieldLink RX7 51 "MachineHallModel" "work" "[I", Cond.fieldLink RX7 54 "MachineHallModel" "from" "[I", Cond.fieldLink RX7 57 "MachineHallModel" "due" "[I", Cond.fieldLink RX7 60 "MachineHallModel" "most" "[I", Cond.fieldLink RX7 63 "MachineHallModel" "part" "[I", Cond.fieldLink RX7 66 "MachineHallModel" "has" "[I", Cond.fieldLink RX7 69 "MachineHallModel" "used" "[I", Cond.fieldLink RX7 72 "MachineHallModel" "done" "[I", Cond.fieldLink RX7 75 "MachineHallModel" "stays" "[Z", Cond.fieldLink RX7 78 "MachineHallModel" "before" "[I", Cond.fieldLink RX7 81 "MachineHallModel" "line" "[I", Cond.fieldLink RX7 84 "MachineHallModel" "free" "[I", Cond.fieldLink RX7 87 "MachineHallModel" "wanted" "[I", Cond.fieldLink RX7 90 "MachineHallModel" "typeSize" "[I", Cond.fieldLink RX7 93 "MachineHallModel" "lead" "[I", Cond.fieldLink RX7 96 "MachineHallModel" "power" "[I", Cond.fieldLink RX7 99 "MachineHallModel" "price" "[I", Cond.fieldLink RX7 102 "MachineHallModel" "least" "[I", Cond.methodLink RL 13 yX6_status, Cond.instanceMethod yX6_status, Cond.selects RX6 yX6_status yX6_status, Cond.code yX6_status cX6_status 1 (some .int)]
def wsL_law_r7 : List Cond := [Cond.methodLink RL 17 yX7_status, Cond.instanceMethod yX7_status, Cond.selects RX7 yX7_status yX7_status, Cond.code yX7_status cX7_status 1 (some .int), Cond.fieldLink RX7 105 "MachineHallModel" "status" "I", Cond.methodLink RL 18 yX6_sheet, Cond.instanceMethod yX6_sheet, Cond.selects RX6 yX6_sheet yX6_sheet, Cond.code yX6_sheet cX6_sheet 4 (some .boolean), Cond.methodLink RX6 48 yX4_isNumber, Cond.static yX4_isNumber, Cond.code yX4_isNumber cX4_isNumber 1 (some .boolean), Cond.static yX6_within, Cond.code yX6_within cX6_within 4 (some .boolean), Cond.methodLink RX6 52 yX6_within, Cond.methodLink RX6 56 yX6_refuse, Cond.instanceMethod yX6_refuse, Cond.selects RX6 yX6_refuse yX6_refuse, Cond.code yX6_refuse cX6_refuse 2 (some .boolean), Cond.methodLink RX6 59 yX4_make, Cond.instanceMethod yX4_make, Cond.selects RX4 yX4_make yX4_make, Cond.code yX4_make cX4_make 4 none, Cond.methodLink RX4 33 yJ7_fill_d0a16]
def wsL_law_r8 : List Cond := [Cond.static yJ7_fill_d0a16, Cond.code yJ7_fill_d0a16 cJ7_fill_d0a16 5 none, Cond.methodLink RX6 63 yX6_agree, Cond.instanceMethod yX6_agree, Cond.selects RX6 yX6_agree yX6_agree, Cond.code yX6_agree cX6_agree 1 (some .boolean), Cond.methodLink RL 22 yX7_sheet, Cond.instanceMethod yX7_sheet, Cond.selects RX7 yX7_sheet yX7_sheet, Cond.code yX7_sheet cX7_sheet 5 (some .boolean), Cond.methodLink RX7 109 yX7_isSheet, Cond.static yX7_isSheet, Cond.code yX7_isSheet cX7_isSheet 1 (some .boolean), Cond.methodLink RX7 113 yX7_is, Cond.instanceMethod yX7_is, Cond.selects RX7 yX7_is yX7_is, Cond.code yX7_is cX7_is 2 (some .boolean), Cond.methodLink RL 25 yX6_write, Cond.instanceMethod yX6_write, Cond.selects RX6 yX6_write yX6_write, Cond.code yX6_write cX6_write 6 (some .boolean), Cond.methodLink RX6 67 yX4_whyNoPlace, Cond.instanceMethod yX4_whyNoPlace, Cond.selects RX4 yX4_whyNoPlace yX4_whyNoPlace]
def wsL_law_r9 : List Cond := [Cond.code yX4_whyNoPlace cX4_whyNoPlace 3 (some .int), Cond.methodLink RX4 40 yX4_isNumber, Cond.methodLink RX4 44 yX4_isMissing, Cond.instanceMethod yX4_isMissing, Cond.selects RX4 yX4_isMissing yX4_isMissing, Cond.code yX4_isMissing cX4_isMissing 2 (some .boolean), Cond.methodLink RX6 71 yX4_put, Cond.instanceMethod yX4_put, Cond.selects RX4 yX4_put yX4_put, Cond.code yX4_put cX4_put 5 none, Cond.methodLink RX4 36 yX4_cut, Cond.static yX4_cut, Cond.code yX4_cut cX4_cut 3 (some .long), Cond.methodLink RL 29 yX7_write, Cond.instanceMethod yX7_write, Cond.selects RX7 yX7_write yX7_write, Cond.code yX7_write cX7_write 6 (some .boolean), Cond.methodLink RX7 116 yX7_wrong, Cond.instanceMethod yX7_wrong, Cond.selects RX7 yX7_wrong yX7_wrong, Cond.code yX7_wrong cX7_wrong 3 (some .int), Cond.methodLink RX7 120 yX7_cut, Cond.static yX7_cut, Cond.code yX7_cut cX7_cut 3 (some .long)]
def wsL_law_r10 : List Cond := [Cond.methodLink RL 30 yX6_read, Cond.instanceMethod yX6_read, Cond.selects RX6 yX6_read yX6_read, Cond.code yX6_read cX6_read 4 (some .long), Cond.methodLink RX6 75 yX6_deny, Cond.instanceMethod yX6_deny, Cond.selects RX6 yX6_deny yX6_deny, Cond.code yX6_deny cX6_deny 2 (some .int), Cond.methodLink RX6 79 yX4_at, Cond.instanceMethod yX4_at, Cond.selects RX4 yX4_at yX4_at, Cond.code yX4_at cX4_at 3 (some .long), Cond.methodLink RL 34 yX7_read, Cond.instanceMethod yX7_read, Cond.selects RX7 yX7_read yX7_read, Cond.code yX7_read cX7_read 3 (some .long), Cond.constantLong RX7 124 (-1), Cond.methodLink RL 35 yX6_drop, Cond.instanceMethod yX6_drop, Cond.selects RX6 yX6_drop yX6_drop, Cond.code yX6_drop cX6_drop 2 (some .boolean), Cond.methodLink RX6 83 yX4_isMissing, Cond.methodLink RX6 86 yX4_lose, Cond.instanceMethod yX4_lose]
def wsL_law_r11 : List Cond := [Cond.selects RX4 yX4_lose yX4_lose, Cond.code yX4_lose cX4_lose 2 none, Cond.methodLink RL 39 yX7_drop, Cond.instanceMethod yX7_drop, Cond.selects RX7 yX7_drop yX7_drop, Cond.code yX7_drop cX7_drop 2 (some .boolean), Cond.methodLink RL 40 yX6_copy, Cond.instanceMethod yX6_copy, Cond.selects RX6 yX6_copy yX6_copy, Cond.code yX6_copy cX6_copy 6 (some .boolean), Cond.methodLink RX6 90 yX4_spans, Cond.instanceMethod yX4_spans, Cond.selects RX4 yX4_spans yX4_spans, Cond.code yX4_spans cX4_spans 4 (some .boolean), Cond.methodLink RX6 94 yX4_carry, Cond.instanceMethod yX4_carry, Cond.selects RX4 yX4_carry yX4_carry, Cond.code yX4_carry cX4_carry 7 none, Cond.methodLink RX4 47 arraycopyName, Cond.native arraycopyName, Cond.static arraycopyName, Cond.initialized "java/lang/System", Cond.methodLink RX4 53 yX4_put, Cond.methodLink RL 44 yX7_copy]
def wsL_law_r12 : List Cond := [Cond.instanceMethod yX7_copy, Cond.selects RX7 yX7_copy yX7_copy, Cond.code yX7_copy cX7_copy 8 (some .boolean), Cond.methodLink RL 45 yX6_none, Cond.instanceMethod yX6_none, Cond.selects RX6 yX6_none yX6_none, Cond.code yX6_none cX6_none 1 (some .boolean), Cond.methodLink RL 49 yX7_none, Cond.instanceMethod yX7_none, Cond.selects RX7 yX7_none yX7_none, Cond.code yX7_none cX7_none 1 (some .boolean), Cond.methodLink RL 50 yX6_machine, Cond.instanceMethod yX6_machine, Cond.selects RX6 yX6_machine yX6_machine, Cond.code yX6_machine cX6_machine 3 (some .int), Cond.fieldLink RX6 98 "MachineHall$Hall" "machines" "I", Cond.methodLink RX6 101 yX1_addMachine, Cond.instanceMethod yX1_addMachine, Cond.selects RX1 yX1_addMachine yX1_addMachine, Cond.code yX1_addMachine cX1_addMachine 4 (some .int), Cond.fieldLink RX1 48 "MachineHall$Hall" "machines" "I", Cond.fieldLink RX1 54 "MachineHall$Hall" "ups" "I", Cond.methodLink RX6 104 yX6_answer, Cond.instanceMethod yX6_answer]
def wsL_law_r13 : List Cond := [Cond.selects RX6 yX6_answer yX6_answer, Cond.code yX6_answer cX6_answer 2 (some .int), Cond.methodLink RL 54 yX7_machine, Cond.instanceMethod yX7_machine, Cond.selects RX7 yX7_machine yX7_machine, Cond.code yX7_machine cX7_machine 3 (some .int), Cond.fieldLink RX7 130 "MachineHallModel" "machines" "I", Cond.methodLink RX7 126 yX7_refuse, Cond.instanceMethod yX7_refuse, Cond.selects RX7 yX7_refuse yX7_refuse, Cond.code yX7_refuse cX7_refuse 2 (some .int), Cond.methodLink RL 55 yX6_up, Cond.instanceMethod yX6_up, Cond.selects RX6 yX6_up yX6_up, Cond.code yX6_up cX6_up 3 (some .boolean), Cond.methodLink RX6 107 yX1_hasMachine, Cond.instanceMethod yX1_hasMachine, Cond.selects RX1 yX1_hasMachine yX1_hasMachine, Cond.code yX1_hasMachine cX1_hasMachine 2 (some .boolean), Cond.methodLink RX6 110 yX1_isUp, Cond.instanceMethod yX1_isUp, Cond.selects RX1 yX1_isUp yX1_isUp, Cond.code yX1_isUp cX1_isUp 2 (some .boolean), Cond.methodLink RX1 57 yX1_has]
def wsL_law_r14 : List Cond := [Cond.static yX1_has, Cond.code yX1_has cX1_has 2 (some .boolean), Cond.methodLink RX6 113 yX1_turn, Cond.instanceMethod yX1_turn, Cond.selects RX1 yX1_turn yX1_turn, Cond.code yX1_turn cX1_turn 2 none, Cond.methodLink RL 59 yX7_up, Cond.instanceMethod yX7_up, Cond.selects RX7 yX7_up yX7_up, Cond.code yX7_up cX7_up 3 (some .boolean), Cond.methodLink RL 60 yX6_ask, Cond.instanceMethod yX6_ask, Cond.selects RX6 yX6_ask yX6_ask, Cond.code yX6_ask cX6_ask 4 (some .int), Cond.fieldLink RX6 119 "MachineHall$Hall" "asks" "I", Cond.methodLink RX6 116 yX6_isHour, Cond.static yX6_isHour, Cond.code yX6_isHour cX6_isHour 1 (some .boolean), Cond.methodLink RX6 122 yX3_forget, Cond.instanceMethod yX3_forget, Cond.selects RX3 yX3_forget yX3_forget, Cond.code yX3_forget cX3_forget 1 none, Cond.methodLink RX6 125 yX1_addAsk, Cond.instanceMethod yX1_addAsk]
def wsL_law_r15 : List Cond := [Cond.selects RX1 yX1_addAsk yX1_addAsk, Cond.code yX1_addAsk cX1_addAsk 6 (some .int), Cond.fieldLink RX1 51 "MachineHall$Hall" "asks" "I", Cond.methodLink RX1 61 yX1_markAsked, Cond.instanceMethod yX1_markAsked, Cond.selects RX1 yX1_markAsked yX1_markAsked, Cond.code yX1_markAsked cX1_markAsked 3 none, Cond.methodLink RX1 65 yX1_tally, Cond.instanceMethod yX1_tally, Cond.selects RX1 yX1_tally yX1_tally, Cond.code yX1_tally cX1_tally 4 none, Cond.methodLink RL 64 yX7_ask, Cond.instanceMethod yX7_ask, Cond.selects RX7 yX7_ask yX7_ask, Cond.code yX7_ask cX7_ask 4 (some .int), Cond.fieldLink RX7 133 "MachineHallModel" "asks" "I", Cond.methodLink RL 65 yX6_apart, Cond.instanceMethod yX6_apart, Cond.selects RX6 yX6_apart yX6_apart, Cond.code yX6_apart cX6_apart 4 (some .boolean), Cond.methodLink RX6 129 yX1_hasAsk, Cond.instanceMethod yX1_hasAsk, Cond.selects RX1 yX1_hasAsk yX1_hasAsk, Cond.code yX1_hasAsk cX1_hasAsk 2 (some .boolean)]
def wsL_law_r16 : List Cond := [Cond.methodLink RX6 132 yX1_areFoes, Cond.instanceMethod yX1_areFoes, Cond.selects RX1 yX1_areFoes yX1_areFoes, Cond.code yX1_areFoes cX1_areFoes 3 (some .boolean), Cond.methodLink RX6 136 yX1_turnFoes, Cond.instanceMethod yX1_turnFoes, Cond.selects RX1 yX1_turnFoes yX1_turnFoes, Cond.code yX1_turnFoes cX1_turnFoes 3 none, Cond.methodLink RL 69 yX7_apart, Cond.instanceMethod yX7_apart, Cond.selects RX7 yX7_apart yX7_apart, Cond.code yX7_apart cX7_apart 4 (some .boolean), Cond.methodLink RX7 136 yX7_isAsk, Cond.instanceMethod yX7_isAsk, Cond.selects RX7 yX7_isAsk yX7_isAsk, Cond.code yX7_isAsk cX7_isAsk 2 (some .boolean), Cond.methodLink RL 70 yX6_count, Cond.instanceMethod yX6_count, Cond.selects RX6 yX6_count yX6_count, Cond.code yX6_count cX6_count 2 (some .int), Cond.fieldLink RX6 140 "MachineHall$Plan" "batches" "I", Cond.fieldLink RX6 143 "MachineHall$Market" "types" "I", Cond.methodLink RX6 146 yX1_standing, Cond.instanceMethod yX1_standing]
def wsL_law_r17 : List Cond := [Cond.selects RX1 yX1_standing yX1_standing, Cond.code yX1_standing cX1_standing 2 (some .int), Cond.methodLink RX6 149 yX1_sizeOf, Cond.instanceMethod yX1_sizeOf, Cond.selects RX1 yX1_sizeOf yX1_sizeOf, Cond.code yX1_sizeOf cX1_sizeOf 4 (some .int), Cond.methodLink RL 74 yX7_count, Cond.instanceMethod yX7_count, Cond.selects RX7 yX7_count yX7_count, Cond.code yX7_count cX7_count 2 (some .int), Cond.fieldLink RX7 143 "MachineHallModel" "batches" "I", Cond.fieldLink RX7 146 "MachineHallModel" "types" "I", Cond.methodLink RX7 149 yX7_sizes, Cond.instanceMethod yX7_sizes, Cond.selects RX7 yX7_sizes yX7_sizes, Cond.code yX7_sizes cX7_sizes 4 (some .int), Cond.methodLink RX7 139 yX7_stands, Cond.instanceMethod yX7_stands, Cond.selects RX7 yX7_stands yX7_stands, Cond.code yX7_stands cX7_stands 3 (some .boolean), Cond.methodLink RL 75 yX6_fits, Cond.instanceMethod yX6_fits, Cond.selects RX6 yX6_fits yX6_fits, Cond.code yX6_fits cX6_fits 3 (some .int)]
def wsL_law_r18 : List Cond := [Cond.methodLink RX6 152 yX1_isFall, Cond.static yX1_isFall, Cond.code yX1_isFall cX1_isFall 1 (some .boolean), Cond.methodLink RX6 155 yX1_holds, Cond.instanceMethod yX1_holds, Cond.selects RX1 yX1_holds yX1_holds, Cond.code yX1_holds cX1_holds 3 (some .boolean), Cond.methodLink RX1 68 yX1_findLatest, Cond.instanceMethod yX1_findLatest, Cond.selects RX1 yX1_findLatest yX1_findLatest, Cond.code yX1_findLatest cX1_findLatest 4 none, Cond.methodLink RX1 96 yJ7_fill_53178, Cond.methodLink RX1 102 yX1_findWith, Cond.instanceMethod yX1_findWith, Cond.selects RX1 yX1_findWith yX1_findWith, Cond.code yX1_findWith cX1_findWith 4 none, Cond.methodLink RX1 71 yX1_greatestOn, Cond.instanceMethod yX1_greatestOn, Cond.selects RX1 yX1_greatestOn yX1_greatestOn, Cond.code yX1_greatestOn cX1_greatestOn 4 (some .int), Cond.methodLink RL 78 yX7_fits, Cond.instanceMethod yX7_fits, Cond.selects RX7 yX7_fits yX7_fits, Cond.code yX7_fits cX7_fits 3 (some .int)]
def wsL_law_r19 : List Cond := [Cond.methodLink RX7 152 yX7_isHour, Cond.static yX7_isHour, Cond.code yX7_isHour cX7_isHour 1 (some .boolean), Cond.methodLink RX7 155 yX7_isFall, Cond.static yX7_isFall, Cond.code yX7_isFall cX7_isFall 1 (some .boolean), Cond.methodLink RX7 158 yX7_look, Cond.instanceMethod yX7_look, Cond.selects RX7 yX7_look yX7_look, Cond.code yX7_look cX7_look 7 none, Cond.methodLink RX7 162 yX7_setOf, Cond.instanceMethod yX7_setOf, Cond.selects RX7 yX7_setOf yX7_setOf, Cond.code yX7_setOf cX7_setOf 4 (some .int), Cond.methodLink RL 79 yX6_on, Cond.instanceMethod yX6_on, Cond.selects RX6 yX6_on yX6_on, Cond.code yX6_on cX6_on 4 (some .int), Cond.methodLink RX6 158 yX1_isAskOf, Cond.instanceMethod yX1_isAskOf, Cond.selects RX1 yX1_isAskOf yX1_isAskOf, Cond.code yX1_isAskOf cX1_isAskOf 3 (some .boolean), Cond.methodLink RX6 161 yX1_layingOf, Cond.instanceMethod yX1_layingOf]
def wsL_law_r20 : List Cond := [Cond.selects RX1 yX1_layingOf yX1_layingOf, Cond.code yX1_layingOf cX1_layingOf 7 (some .int), Cond.methodLink RL 82 yX7_on, Cond.instanceMethod yX7_on, Cond.selects RX7 yX7_on yX7_on, Cond.code yX7_on cX7_on 7 (some .int), Cond.methodLink RL 83 yX6_lack, Cond.instanceMethod yX6_lack, Cond.selects RX6 yX6_lack yX6_lack, Cond.code yX6_lack cX6_lack 3 (some .int), Cond.methodLink RX6 164 yX1_lacking, Cond.instanceMethod yX1_lacking, Cond.selects RX1 yX1_lacking yX1_lacking, Cond.code yX1_lacking cX1_lacking 6 (some .int), Cond.methodLink RX1 75 Lib.Math.max.name, Cond.static Lib.Math.max.name, Cond.initialized "java/lang/Math", Cond.code Lib.Math.max.name Lib.Math.max.code 2 (some .int), Cond.methodLink RL 86 yX7_lack, Cond.instanceMethod yX7_lack, Cond.selects RX7 yX7_lack yX7_lack, Cond.code yX7_lack cX7_lack 6 (some .int), Cond.methodLink RL 87 yX6_left, Cond.instanceMethod yX6_left]
def wsL_law_r21 : List Cond := [Cond.selects RX6 yX6_left yX6_left, Cond.code yX6_left cX6_left 3 (some .int), Cond.methodLink RX6 167 yX1_leftOver, Cond.instanceMethod yX1_leftOver, Cond.selects RX1 yX1_leftOver yX1_leftOver, Cond.code yX1_leftOver cX1_leftOver 4 (some .int), Cond.methodLink RX1 80 yX1_sizeOf, Cond.methodLink RL 90 yX7_left, Cond.instanceMethod yX7_left, Cond.selects RX7 yX7_left yX7_left, Cond.code yX7_left cX7_left 3 (some .int), Cond.methodLink RX7 165 yX7_leftOf, Cond.instanceMethod yX7_leftOf, Cond.selects RX7 yX7_leftOf yX7_leftOf, Cond.code yX7_leftOf cX7_leftOf 3 (some .int), Cond.methodLink RL 91 yX6_enough, Cond.instanceMethod yX6_enough, Cond.selects RX6 yX6_enough yX6_enough, Cond.code yX6_enough cX6_enough 2 (some .int), Cond.methodLink RX6 170 yX1_firstUnfit, Cond.instanceMethod yX1_firstUnfit, Cond.selects RX1 yX1_firstUnfit yX1_firstUnfit, Cond.code yX1_firstUnfit cX1_firstUnfit 6 (some .int), Cond.methodLink RX1 84 yX1_isLookedAt]
def wsL_law_r22 : List Cond := [Cond.instanceMethod yX1_isLookedAt, Cond.selects RX1 yX1_isLookedAt yX1_isLookedAt, Cond.code yX1_isLookedAt cX1_isLookedAt 3 (some .boolean), Cond.methodLink RX1 87 yX1_standing, Cond.methodLink RX1 90 yX1_firstUnfitHour, Cond.instanceMethod yX1_firstUnfitHour, Cond.selects RX1 yX1_firstUnfitHour yX1_firstUnfitHour, Cond.code yX1_firstUnfitHour cX1_firstUnfitHour 4 (some .int), Cond.methodLink RX1 93 yX1_holds, Cond.methodLink RL 94 yX7_enough, Cond.instanceMethod yX7_enough, Cond.selects RX7 yX7_enough yX7_enough, Cond.code yX7_enough cX7_enough 6 (some .int), Cond.methodLink RL 95 yX6_batch, Cond.instanceMethod yX6_batch, Cond.selects RX6 yX6_batch yX6_batch, Cond.code yX6_batch cX6_batch 5 (some .int), Cond.methodLink RX6 173 yX3_addBatch, Cond.instanceMethod yX3_addBatch, Cond.selects RX3 yX3_addBatch yX3_addBatch, Cond.code yX3_addBatch cX3_addBatch 6 (some .int), Cond.fieldLink RX3 42 "MachineHall$Plan" "batches" "I", Cond.methodLink RX3 49 yX3_forget, Cond.methodLink RL 99 yX7_batch]
def wsL_law_r23 : List Cond := [Cond.instanceMethod yX7_batch, Cond.selects RX7 yX7_batch yX7_batch, Cond.code yX7_batch cX7_batch 5 (some .int), Cond.methodLink RL 100 yX6_rest, Cond.instanceMethod yX6_rest, Cond.selects RX6 yX6_rest yX6_rest, Cond.code yX6_rest cX6_rest 2 (some .int), Cond.fieldLink RX6 181 "MachineHall$Plan" "unlaid" "I", Cond.methodLink RX6 177 yX3_lay, Cond.instanceMethod yX3_lay, Cond.selects RX3 yX3_lay yX3_lay, Cond.code yX3_lay cX3_lay 3 none, Cond.fieldLink RX3 56 "MachineHall$Plan" "unlaid" "I", Cond.methodLink RX3 52 yX3_layPipes, Cond.instanceMethod yX3_layPipes, Cond.selects RX3 yX3_layPipes yX3_layPipes, Cond.code yX3_layPipes cX3_layPipes 6 (some .int), Cond.methodLink RX3 66 yX0_empty, Cond.instanceMethod yX0_empty, Cond.selects RX0 yX0_empty yX0_empty, Cond.code yX0_empty cX0_empty 2 none, Cond.methodLink RX0 27 yJ7_fill_53178, Cond.methodLink RX3 69 yX0_pipe, Cond.instanceMethod yX0_pipe]
def wsL_law_r24 : List Cond := [Cond.selects RX0 yX0_pipe yX0_pipe, Cond.code yX0_pipe cX0_pipe 4 none, Cond.methodLink RX3 73 yX1_leftOver, Cond.methodLink RX3 59 yX0_push, Cond.instanceMethod yX0_push, Cond.selects RX0 yX0_push yX0_push, Cond.code yX0_push cX0_push 6 (some .int), Cond.constant RX0 33 (1000000), Cond.methodLink RX0 34 yX0_findWay, Cond.instanceMethod yX0_findWay, Cond.selects RX0 yX0_findWay yX0_findWay, Cond.code yX0_findWay cX0_findWay 7 (some .boolean), Cond.methodLink RX0 38 yX0_send, Cond.instanceMethod yX0_send, Cond.selects RX0 yX0_send yX0_send, Cond.code yX0_send cX0_send 7 (some .int), Cond.methodLink RX0 45 Lib.Math.min.name, Cond.static Lib.Math.min.name, Cond.code Lib.Math.min.name Lib.Math.min.code 2 (some .int), Cond.methodLink RX3 63 yX3_settleParts, Cond.instanceMethod yX3_settleParts, Cond.selects RX3 yX3_settleParts yX3_settleParts, Cond.code yX3_settleParts cX3_settleParts 3 none, Cond.methodLink RX3 79 yX0_settle]
def wsL_law_r25 : List Cond := [Cond.instanceMethod yX0_settle, Cond.selects RX0 yX0_settle yX0_settle, Cond.code yX0_settle cX0_settle 5 (some .int), Cond.methodLink RX0 42 yX0_push, Cond.methodLink RL 103 yX7_rest, Cond.instanceMethod yX7_rest, Cond.selects RX7 yX7_rest yX7_rest, Cond.code yX7_rest cX7_rest 2 (some .int), Cond.methodLink RX7 190 yX7_layIn, Cond.instanceMethod yX7_layIn, Cond.selects RX7 yX7_layIn yX7_layIn, Cond.code yX7_layIn cX7_layIn 4 (some .int), Cond.methodLink RX7 183 yX7_isWay, Cond.instanceMethod yX7_isWay, Cond.selects RX7 yX7_isWay yX7_isWay, Cond.code yX7_isWay cX7_isWay 6 (some .boolean), Cond.methodLink RX7 171 yX7_goes, Cond.instanceMethod yX7_goes, Cond.selects RX7 yX7_goes yX7_goes, Cond.code yX7_goes cX7_goes 3 (some .int), Cond.methodLink RX7 168 yX7_isIn, Cond.instanceMethod yX7_isIn, Cond.selects RX7 yX7_isIn yX7_isIn, Cond.code yX7_isIn cX7_isIn 3 (some .boolean)]
def wsL_law_r26 : List Cond := [Cond.methodLink RX7 186 yX7_goAlong, Cond.instanceMethod yX7_goAlong, Cond.selects RX7 yX7_goAlong yX7_goAlong, Cond.code yX7_goAlong cX7_goAlong 6 (some .int), Cond.methodLink RX7 174 Lib.Math.min.name, Cond.methodLink RX7 179 yX7_moves, Cond.instanceMethod yX7_moves, Cond.selects RX7 yX7_moves yX7_moves, Cond.code yX7_moves cX7_moves 4 none, Cond.methodLink RL 104 yX6_part, Cond.instanceMethod yX6_part, Cond.selects RX6 yX6_part yX6_part, Cond.code yX6_part cX6_part 4 (some .int), Cond.fieldLink RX6 187 "MachineHall$Plan" "parts" "[[I", Cond.methodLink RX6 184 yX3_hasBatch, Cond.instanceMethod yX3_hasBatch, Cond.selects RX3 yX3_hasBatch yX3_hasBatch, Cond.code yX3_hasBatch cX3_hasBatch 2 (some .boolean), Cond.methodLink RL 107 yX7_part, Cond.instanceMethod yX7_part, Cond.selects RX7 yX7_part yX7_part, Cond.code yX7_part cX7_part 8 (some .int), Cond.methodLink RL 108 yX6_line, Cond.instanceMethod yX6_line]
def wsL_law_r27 : List Cond := [Cond.selects RX6 yX6_line yX6_line, Cond.code yX6_line cX6_line 7 (some .int), Cond.methodLink RX6 191 yX6_isLine, Cond.static yX6_isLine, Cond.code yX6_isLine cX6_isLine 3 (some .boolean), Cond.methodLink RX6 194 yX4_whyNotFirst, Cond.instanceMethod yX4_whyNotFirst, Cond.selects RX4 yX4_whyNotFirst yX4_whyNotFirst, Cond.code yX4_whyNotFirst cX4_whyNotFirst 5 (some .int), Cond.methodLink RX6 197 yX5_serve, Cond.instanceMethod yX5_serve, Cond.selects RX5 yX5_serve yX5_serve, Cond.code yX5_serve cX5_serve 12 none, Cond.fieldLink RX5 13 "MachineHall$Waiting" "greatest" "I", Cond.fieldLink RX5 17 "MachineHall$Waiting" "together" "I", Cond.fieldLink RX5 20 "MachineHall$Waiting" "came" "I", Cond.fieldLink RX5 23 "MachineHall$Waiting" "waited" "I", Cond.fieldLink RX5 26 "MachineHall$Waiting" "end" "I", Cond.methodLink RX5 41 Lib.Math.max.name, Cond.methodLink RX5 29 yJ7_fill_53178, Cond.methodLink RX5 35 yX4_at, Cond.methodLink RX5 47 yX5_note, Cond.instanceMethod yX5_note, Cond.selects RX5 yX5_note yX5_note]
def wsL_law_r28 : List Cond := [Cond.code yX5_note cX5_note 2 none, Cond.methodLink RX6 201 yX5_told, Cond.instanceMethod yX5_told, Cond.selects RX5 yX5_told yX5_told, Cond.code yX5_told cX5_told 2 (some .int), Cond.methodLink RL 112 yX7_line, Cond.instanceMethod yX7_line, Cond.selects RX7 yX7_line yX7_line, Cond.code yX7_line cX7_line 7 (some .int), Cond.constantLong RX7 211 (100), Cond.fieldLink RX7 193 "MachineHallModel" "greatest" "I", Cond.fieldLink RX7 196 "MachineHallModel" "together" "I", Cond.fieldLink RX7 199 "MachineHallModel" "comes" "I", Cond.fieldLink RX7 202 "MachineHallModel" "waiting" "I", Cond.fieldLink RX7 205 "MachineHallModel" "end" "I", Cond.methodLink RX7 213 yX7_wrongNumbers, Cond.instanceMethod yX7_wrongNumbers, Cond.selects RX7 yX7_wrongNumbers yX7_wrongNumbers, Cond.code yX7_wrongNumbers cX7_wrongNumbers 6 (some .int), Cond.methodLink RX7 217 yX7_step, Cond.instanceMethod yX7_step, Cond.selects RX7 yX7_step yX7_step, Cond.code yX7_step cX7_step 9 none, Cond.methodLink RX7 208 Lib.Math.max.name]
def wsL_law_r29 : List Cond := [Cond.methodLink RL 113 yX6_hands, Cond.instanceMethod yX6_hands, Cond.selects RX6 yX6_hands yX6_hands, Cond.code yX6_hands cX6_hands 7 (some .int), Cond.fieldLink RX6 204 "MachineHall$Waiting" "greatest" "I", Cond.methodLink RL 116 yX7_hands, Cond.instanceMethod yX7_hands, Cond.selects RX7 yX7_hands yX7_hands, Cond.code yX7_hands cX7_hands 7 (some .int), Cond.methodLink RL 117 yX6_wanted, Cond.instanceMethod yX6_wanted, Cond.selects RX6 yX6_wanted yX6_wanted, Cond.code yX6_wanted cX6_wanted 3 (some .boolean), Cond.methodLink RX6 207 yX2_want, Cond.instanceMethod yX2_want, Cond.selects RX2 yX2_want yX2_want, Cond.code yX2_want cX2_want 4 none, Cond.fieldLink RX2 57 "MachineHall$Market" "solved" "Z", Cond.methodLink RX2 51 yX4_at, Cond.methodLink RL 120 yX7_wanted, Cond.instanceMethod yX7_wanted, Cond.selects RX7 yX7_wanted yX7_wanted, Cond.code yX7_wanted cX7_wanted 4 (some .boolean), Cond.constantLong RX7 221 (500)]
def wsL_law_r30 : List Cond := [Cond.methodLink RL 121 yX6_have, Cond.instanceMethod yX6_have, Cond.selects RX6 yX6_have yX6_have, Cond.code yX6_have cX6_have 2 (some .boolean), Cond.methodLink RX6 211 yX2_own, Cond.instanceMethod yX2_own, Cond.selects RX2 yX2_own yX2_own, Cond.code yX2_own cX2_own 2 none, Cond.fieldLink RX2 61 "MachineHall$Market" "owned" "I", Cond.methodLink RL 124 yX7_have, Cond.instanceMethod yX7_have, Cond.selects RX7 yX7_have yX7_have, Cond.code yX7_have cX7_have 2 (some .boolean), Cond.fieldLink RX7 223 "MachineHallModel" "have" "I", Cond.methodLink RL 125 yX6_type, Cond.instanceMethod yX6_type, Cond.selects RX6 yX6_type yX6_type, Cond.code yX6_type cX6_type 6 (some .int), Cond.constant RX6 217 (100000), Cond.methodLink RX6 214 yX6_isMonth, Cond.static yX6_isMonth, Cond.code yX6_isMonth cX6_isMonth 1 (some .boolean), Cond.methodLink RX6 218 yX2_addType, Cond.instanceMethod yX2_addType]
def wsL_law_r31 : List Cond := [Cond.selects RX2 yX2_addType yX2_addType, Cond.code yX2_addType cX2_addType 8 (some .int), Cond.fieldLink RX2 39 "MachineHall$Market" "types" "I", Cond.methodLink RL 128 yX7_type, Cond.instanceMethod yX7_type, Cond.selects RX7 yX7_type yX7_type, Cond.code yX7_type cX7_type 7 (some .int), Cond.constantLong RX7 226 (100000), Cond.methodLink RL 129 yX6_cheapest, Cond.instanceMethod yX6_cheapest, Cond.selects RX6 yX6_cheapest yX6_cheapest, Cond.code yX6_cheapest cX6_cheapest 1 (some .int), Cond.fieldLink RX6 228 "MachineHall$Market" "least" "I", Cond.methodLink RX6 222 yX2_solve, Cond.instanceMethod yX2_solve, Cond.selects RX2 yX2_solve yX2_solve, Cond.code yX2_solve cX2_solve 3 none, Cond.constant RX2 50 (1000000000), Cond.fieldLink RX2 47 "MachineHall$Market" "least" "I", Cond.methodLink RX2 64 yJ7_fill_53178, Cond.methodLink RX2 70 yJ7_fill_d0a16, Cond.methodLink RX2 73 yJ7_fill_fda19, Cond.static yJ7_fill_fda19, Cond.code yJ7_fill_fda19 cJ7_fill_fda19 5 none]
def wsL_law_r32 : List Cond := [Cond.methodLink RJ7 13 yJ7_rangeCheck_23922, Cond.static yJ7_rangeCheck_23922, Cond.code yJ7_rangeCheck_23922 cJ7_rangeCheck_23922 3 none, Cond.methodLink RX2 76 yX2_offer, Cond.instanceMethod yX2_offer, Cond.selects RX2 yX2_offer yX2_offer, Cond.code yX2_offer cX2_offer 6 none, Cond.methodLink RX2 87 Lib.Math.min.name, Cond.methodLink RX2 93 yX2_word, Cond.static yX2_word, Cond.code yX2_word cX2_word 3 (some .int), Cond.methodLink RX2 80 yX2_isEnough, Cond.instanceMethod yX2_isEnough, Cond.selects RX2 yX2_isEnough yX2_isEnough, Cond.code yX2_isEnough cX2_isEnough 1 (some .boolean), Cond.methodLink RX2 84 yX2_choose, Cond.instanceMethod yX2_choose, Cond.selects RX2 yX2_choose yX2_choose, Cond.code yX2_choose cX2_choose 5 none, Cond.methodLink RX2 97 yX2_mustBuy, Cond.instanceMethod yX2_mustBuy, Cond.selects RX2 yX2_mustBuy yX2_mustBuy, Cond.code yX2_mustBuy cX2_mustBuy 4 (some .boolean), Cond.methodLink RX6 225 yX2_isEnough]
def wsL_law_r33 : List Cond := [Cond.methodLink RL 132 yX7_cheapest, Cond.instanceMethod yX7_cheapest, Cond.selects RX7 yX7_cheapest yX7_cheapest, Cond.code yX7_cheapest cX7_cheapest 2 (some .int), Cond.constant RX7 231 (2000000000), Cond.methodLink RX7 235 yX7_reckon, Cond.instanceMethod yX7_reckon, Cond.selects RX7 yX7_reckon yX7_reckon, Cond.code yX7_reckon cX7_reckon 6 none, Cond.methodLink RX7 228 yX7_at, Cond.static yX7_at, Cond.code yX7_at cX7_at 3 (some .int), Cond.methodLink RX7 232 yX7_takes, Cond.instanceMethod yX7_takes, Cond.selects RX7 yX7_takes yX7_takes, Cond.code yX7_takes cX7_takes 3 (some .int), Cond.methodLink RL 133 yX6_buys, Cond.instanceMethod yX6_buys, Cond.selects RX6 yX6_buys yX6_buys, Cond.code yX6_buys cX6_buys 3 (some .int), Cond.fieldLink RX6 234 "MachineHall$Market" "bought" "[[I", Cond.methodLink RX6 231 yX2_hasType, Cond.instanceMethod yX2_hasType, Cond.selects RX2 yX2_hasType yX2_hasType]
def wsL_law_r34 : List Cond := [Cond.code yX2_hasType cX2_hasType 2 (some .boolean), Cond.methodLink RL 136 yX7_buys, Cond.instanceMethod yX7_buys, Cond.selects RX7 yX7_buys yX7_buys, Cond.code yX7_buys cX7_buys 7 (some .int)]
def wsL_law : List Cond := (wsL_law_r1 ++ (wsL_law_r2 ++ (wsL_law_r3 ++ (wsL_law_r4 ++ (wsL_law_r5 ++ (wsL_law_r6 ++ (wsL_law_r7 ++ (wsL_law_r8 ++ (wsL_law_r9 ++ (wsL_law_r10 ++ (wsL_law_r11 ++ (wsL_law_r12 ++ (wsL_law_r13 ++ (wsL_law_r14 ++ (wsL_law_r15 ++ (wsL_law_r16 ++ (wsL_law_r17 ++ (wsL_law_r18 ++ (wsL_law_r19 ++ (wsL_law_r20 ++ (wsL_law_r21 ++ (wsL_law_r22 ++ (wsL_law_r23 ++ (wsL_law_r24 ++ (wsL_law_r25 ++ (wsL_law_r26 ++ (wsL_law_r27 ++ (wsL_law_r28 ++ (wsL_law_r29 ++ (wsL_law_r30 ++ (wsL_law_r31 ++ (wsL_law_r32 ++ (wsL_law_r33 ++ wsL_law_r34))))))))))))))))))))))))))))))))) ++ wsX60 ++ wsX70 ++ wsX40 ++ wsX10 ++ wsX30 ++ wsX50 ++ wsX20 ++ wsX00 ++ ([] : List Cond)
set_option maxRecDepth 20000 in
theorem wsL_law_in : ∀ w ∈ wsL_law, w ∈ lw_tbl := fun w h => (goodIn_p wsL_law [54, 57, 62, 68, 85, 134, 142, 193, 219, 704, 284, 836, 288, 291, 294, 299, 303, 306, 310, 840, 843, 847, 314, 318, 323, 327, 330, 851, 855, 858, 334, 338, 342, 862, 346, 351, 871, 355, 359, 363, 867, 371, 875, 375, 379, 383, 879, 883, 387, 391, 396, 399, 403, 887, 407, 410, 414, 418, 422, 426, 891, 430, 434, 438, 442, 895, 899, 446, 450, 454, 903, 907, 911, 458, 461, 465, 469, 474, 478, 915, 918, 921, 925, 929, 482, 486, 490, 933, 494, 498, 501, 937, 505, 509, 941, 945, 514, 518, 522, 527, 949, 532, 536, 953, 541, 545, 549, 553, 558, 563, 568, 572, 575, 579, 583, 957, 961, 965, 969, 973, 977, 982, 588, 592, 986, 597, 600, 604, 608, 615, 619, 990, 995, 999, 623, 1004, 627, 631, 1008, 636, 640, 1013, 644, 647, 652, 1017, 656, 660, 666, 669, 673, 677, 681, 685, 689, 1022, 1026, 1029, 1034, 694, 698, 1038] (by decide +kernel) (by decide +kernel) w h).1
theorem inlX0 : ∀ w ∈ wsX00, w ∈ wsL_law := fun _ h => List.mem_append_left _ (List.mem_append_right _ h)
theorem inX0 : ∀ w ∈ wsX00, w ∈ lw_tbl := fun w h => wsL_law_in w (inlX0 w h)
theorem inlX1 : ∀ w ∈ wsX10, w ∈ wsL_law := fun _ h => List.mem_append_left _ (List.mem_append_left _ (List.mem_append_left _ (List.mem_append_left _ (List.mem_append_left _ (List.mem_append_right _ h)))))
theorem inX1 : ∀ w ∈ wsX10, w ∈ lw_tbl := fun w h => wsL_law_in w (inlX1 w h)
theorem inlX2 : ∀ w ∈ wsX20, w ∈ wsL_law := fun _ h => List.mem_append_left _ (List.mem_append_left _ (List.mem_append_right _ h))
theorem inX2 : ∀ w ∈ wsX20, w ∈ lw_tbl := fun w h => wsL_law_in w (inlX2 w h)
theorem inlX3 : ∀ w ∈ wsX30, w ∈ wsL_law := fun _ h => List.mem_append_left _ (List.mem_append_left _ (List.mem_append_left _ (List.mem_append_left _ (List.mem_append_right _ h))))
theorem inX3 : ∀ w ∈ wsX30, w ∈ lw_tbl := fun w h => wsL_law_in w (inlX3 w h)
theorem inlX4 : ∀ w ∈ wsX40, w ∈ wsL_law := fun _ h => List.mem_append_left _ (List.mem_append_left _ (List.mem_append_left _ (List.mem_append_left _ (List.mem_append_left _ (List.mem_append_left _ (List.mem_append_right _ h))))))
theorem inX4 : ∀ w ∈ wsX40, w ∈ lw_tbl := fun w h => wsL_law_in w (inlX4 w h)
theorem inlX5 : ∀ w ∈ wsX50, w ∈ wsL_law := fun _ h => List.mem_append_left _ (List.mem_append_left _ (List.mem_append_left _ (List.mem_append_right _ h)))
theorem inX5 : ∀ w ∈ wsX50, w ∈ lw_tbl := fun w h => wsL_law_in w (inlX5 w h)
theorem inlX6 : ∀ w ∈ wsX60, w ∈ wsL_law := fun _ h => List.mem_append_left _ (List.mem_append_left _ (List.mem_append_left _ (List.mem_append_left _ (List.mem_append_left _ (List.mem_append_left _ (List.mem_append_left _ (List.mem_append_left _ (List.mem_append_right _ h))))))))
theorem inX6 : ∀ w ∈ wsX60, w ∈ lw_tbl := fun w h => wsL_law_in w (inlX6 w h)
theorem inlX7 : ∀ w ∈ wsX70, w ∈ wsL_law := fun _ h => List.mem_append_left _ (List.mem_append_left _ (List.mem_append_left _ (List.mem_append_left _ (List.mem_append_left _ (List.mem_append_left _ (List.mem_append_left _ (List.mem_append_right _ h)))))))
theorem inX7 : ∀ w ∈ wsX70, w ∈ lw_tbl := fun w h => wsL_law_in w (inlX7 w h)
theorem inJ9 : ∀ w ∈ wsJ90, w ∈ lw_tbl := by decide +kernel
theorem inJ10 : ∀ w ∈ wsJ100, w ∈ lw_tbl := by decide +kernel
theorem inJ7 : ∀ w ∈ wsJ70, w ∈ lw_tbl := by decide +kernel
theorem dX0_init_0 : decode cX0_init 0 = .ok (.aload_n 0, 1) := by decide +kernel
theorem dX0_init_1 : decode cX0_init 1 = .ok (.invokespecial 3, 3) := by decide +kernel
theorem dX0_init_4 : decode cX0_init 4 = .ok (.aload_n 0, 1) := by decide +kernel
theorem dX0_init_5 : decode cX0_init 5 = .ok (.iload_n 1, 1) := by decide +kernel
theorem dX0_init_6 : decode cX0_init 6 = .ok (.putfield 9, 3) := by decide +kernel
theorem dX0_init_9 : decode cX0_init 9 = .ok (.aload_n 0, 1) := by decide +kernel
theorem dX0_init_10 : decode cX0_init 10 = .ok (.iload_n 1, 1) := by decide +kernel
theorem dX0_init_11 : decode cX0_init 11 = .ok (.iload_n 1, 1) := by decide +kernel
theorem dX0_init_12 : decode cX0_init 12 = .ok (.multianewarray 15 2, 4) := by decide +kernel
theorem dX0_init_16 : decode cX0_init 16 = .ok (.putfield 17, 3) := by decide +kernel
theorem dX0_init_19 : decode cX0_init 19 = .ok (.aload_n 0, 1) := by decide +kernel
theorem dX0_init_20 : decode cX0_init 20 = .ok (.iload_n 1, 1) := by decide +kernel
theorem dX0_init_21 : decode cX0_init 21 = .ok (.newarray .int, 2) := by decide +kernel
theorem dX0_init_23 : decode cX0_init 23 = .ok (.putfield 20, 3) := by decide +kernel
theorem dX0_init_26 : decode cX0_init 26 = .ok (.aload_n 0, 1) := by decide +kernel
theorem dX0_init_27 : decode cX0_init 27 = .ok (.iload_n 1, 1) := by decide +kernel
theorem dX0_init_28 : decode cX0_init 28 = .ok (.newarray .int, 2) := by decide +kernel
theorem dX0_init_30 : decode cX0_init 30 = .ok (.putfield 24, 3) := by decide +kernel
theorem dX0_init_33 : decode cX0_init 33 = .ok (.return_, 1) := by decide +kernel
set_option maxRecDepth 20000 in
theorem ggX0_empty_J7_fill_53178 : GoodIn wsX0_empty wsJ7_fill_53178 := goodIn_r _ [6] (by decide +kernel) (by decide +kernel)
set_option maxRecDepth 20000 in
theorem gX0_empty_J7_fill_53178 : GoodIn wsX0_empty (va_wsS RX0 27 yJ7_fill_53178 wsJ7_fill_53178) := goodIn_app (goodIn_of _ (by decide +kernel)) ggX0_empty_J7_fill_53178
theorem dX0_empty_0 : decode cX0_empty 0 = .ok (.iconst 0, 1) := by decide +kernel
theorem dX0_empty_1 : decode cX0_empty 1 = .ok (.istore_n 1, 1) := by decide +kernel
theorem dX0_empty_2 : decode cX0_empty 2 = .ok (.iload_n 1, 1) := by decide +kernel
theorem dX0_empty_3 : decode cX0_empty 3 = .ok (.aload_n 0, 1) := by decide +kernel
theorem dX0_empty_4 : decode cX0_empty 4 = .ok (.getfield 9, 3) := by decide +kernel
theorem dX0_empty_7 : decode cX0_empty 7 = .ok (.if_icmp .ge 19, 3) := by decide +kernel
theorem dX0_empty_10 : decode cX0_empty 10 = .ok (.aload_n 0, 1) := by decide +kernel
theorem dX0_empty_11 : decode cX0_empty 11 = .ok (.getfield 17, 3) := by decide +kernel
theorem dX0_empty_14 : decode cX0_empty 14 = .ok (.iload_n 1, 1) := by decide +kernel
theorem dX0_empty_15 : decode cX0_empty 15 = .ok (.aaload, 1) := by decide +kernel
theorem dX0_empty_16 : decode cX0_empty 16 = .ok (.iconst 0, 1) := by decide +kernel
theorem dX0_empty_17 : decode cX0_empty 17 = .ok (.invokestatic 27, 3) := by decide +kernel
theorem dX0_empty_20 : decode cX0_empty 20 = .ok (.iinc 1 1, 3) := by decide +kernel
theorem dX0_empty_23 : decode cX0_empty 23 = .ok (.goto (-21), 3) := by decide +kernel
theorem dX0_empty_26 : decode cX0_empty 26 = .ok (.return_, 1) := by decide +kernel
theorem dX0_pipe_0 : decode cX0_pipe 0 = .ok (.aload_n 0, 1) := by decide +kernel
theorem dX0_pipe_1 : decode cX0_pipe 1 = .ok (.getfield 17, 3) := by decide +kernel
theorem dX0_pipe_4 : decode cX0_pipe 4 = .ok (.iload_n 1, 1) := by decide +kernel
theorem dX0_pipe_5 : decode cX0_pipe 5 = .ok (.aaload, 1) := by decide +kernel
theorem dX0_pipe_6 : decode cX0_pipe 6 = .ok (.iload_n 2, 1) := by decide +kernel
theorem dX0_pipe_7 : decode cX0_pipe 7 = .ok (.iload_n 3, 1) := by decide +kernel
theorem dX0_pipe_8 : decode cX0_pipe 8 = .ok (.iastore, 1) := by decide +kernel
theorem dX0_pipe_9 : decode cX0_pipe 9 = .ok (.return_, 1) := by decide +kernel
set_option maxRecDepth 20000 in
theorem ggX0_push_X0_findWay : GoodIn wsX0_push wsX0_findWay := goodIn_r _ [6, 7, 8, 9, 10, 11, 12, 13, 14, 23, 24, 25, 26] (by decide +kernel) (by decide +kernel)
set_option maxRecDepth 20000 in
theorem gX0_push_X0_findWay : GoodIn wsX0_push (wsV RX0 34 RX0 yX0_findWay wsX0_findWay) := goodIn_app (goodIn_of _ (by decide +kernel)) ggX0_push_X0_findWay
set_option maxRecDepth 20000 in
theorem ggX0_push_X0_send : GoodIn wsX0_push wsX0_send := goodIn_r _ [18, 9, 10, 7, 19, 20, 21, 22, 23, 24, 25, 26] (by decide +kernel) (by decide +kernel)
set_option maxRecDepth 20000 in
theorem gX0_push_X0_send : GoodIn wsX0_push (wsV RX0 38 RX0 yX0_send wsX0_send) := goodIn_app (goodIn_of _ (by decide +kernel)) ggX0_push_X0_send
theorem dX0_push_0 : decode cX0_push 0 = .ok (.iconst 0, 1) := by decide +kernel
theorem dX0_push_1 : decode cX0_push 1 = .ok (.istore 4, 2) := by decide +kernel
theorem dX0_push_3 : decode cX0_push 3 = .ok (.iconst 0, 1) := by decide +kernel
theorem dX0_push_4 : decode cX0_push 4 = .ok (.istore 5, 2) := by decide +kernel
theorem dX0_push_6 : decode cX0_push 6 = .ok (.iload 5, 2) := by decide +kernel
theorem dX0_push_8 : decode cX0_push 8 = .ok (.ldc 33, 2) := by decide +kernel
theorem dX0_push_10 : decode cX0_push 10 = .ok (.if_icmp .ge 39, 3) := by decide +kernel
theorem dX0_push_13 : decode cX0_push 13 = .ok (.iload 4, 2) := by decide +kernel
theorem dX0_push_15 : decode cX0_push 15 = .ok (.iload_n 3, 1) := by decide +kernel
theorem dX0_push_16 : decode cX0_push 16 = .ok (.if_icmp .ge 33, 3) := by decide +kernel
theorem dX0_push_19 : decode cX0_push 19 = .ok (.aload_n 0, 1) := by decide +kernel
theorem dX0_push_20 : decode cX0_push 20 = .ok (.iload_n 1, 1) := by decide +kernel
theorem dX0_push_21 : decode cX0_push 21 = .ok (.iload_n 2, 1) := by decide +kernel
theorem dX0_push_22 : decode cX0_push 22 = .ok (.invokevirtual 34, 3) := by decide +kernel
theorem dX0_push_25 : decode cX0_push 25 = .ok (.ifCond .eq 24, 3) := by decide +kernel
theorem dX0_push_28 : decode cX0_push 28 = .ok (.iload 4, 2) := by decide +kernel
theorem dX0_push_30 : decode cX0_push 30 = .ok (.aload_n 0, 1) := by decide +kernel
theorem dX0_push_31 : decode cX0_push 31 = .ok (.iload_n 1, 1) := by decide +kernel
theorem dX0_push_32 : decode cX0_push 32 = .ok (.iload_n 2, 1) := by decide +kernel
theorem dX0_push_33 : decode cX0_push 33 = .ok (.iload_n 3, 1) := by decide +kernel
theorem dX0_push_34 : decode cX0_push 34 = .ok (.iload 4, 2) := by decide +kernel
theorem dX0_push_36 : decode cX0_push 36 = .ok (.isub, 1) := by decide +kernel
theorem dX0_push_37 : decode cX0_push 37 = .ok (.invokevirtual 38, 3) := by decide +kernel
theorem dX0_push_40 : decode cX0_push 40 = .ok (.iadd, 1) := by decide +kernel
theorem dX0_push_41 : decode cX0_push 41 = .ok (.istore 4, 2) := by decide +kernel
theorem dX0_push_43 : decode cX0_push 43 = .ok (.iinc 5 1, 3) := by decide +kernel
theorem dX0_push_46 : decode cX0_push 46 = .ok (.goto (-40), 3) := by decide +kernel
theorem dX0_push_49 : decode cX0_push 49 = .ok (.iload 4, 2) := by decide +kernel
theorem dX0_push_51 : decode cX0_push 51 = .ok (.ireturn, 1) := by decide +kernel
set_option maxRecDepth 20000 in
theorem ggX0_settle_X0_push : GoodIn wsX0_settle wsX0_push := goodIn_r _ [6, 7, 8, 9, 10, 5, 11, 12, 13, 14, 1, 15, 16, 17, 18, 19, 20, 21, 22, 23, 24, 25, 26, 27, 28, 29, 30] (by decide +kernel) (by decide +kernel)
set_option maxRecDepth 20000 in
theorem gX0_settle_X0_push : GoodIn wsX0_settle (wsV RX0 42 RX0 yX0_push wsX0_push) := goodIn_app (goodIn_of _ (by decide +kernel)) ggX0_settle_X0_push
theorem dX0_settle_0 : decode cX0_settle 0 = .ok (.aload_n 0, 1) := by decide +kernel
theorem dX0_settle_1 : decode cX0_settle 1 = .ok (.getfield 17, 3) := by decide +kernel
theorem dX0_settle_4 : decode cX0_settle 4 = .ok (.iload_n 1, 1) := by decide +kernel
theorem dX0_settle_5 : decode cX0_settle 5 = .ok (.aaload, 1) := by decide +kernel
theorem dX0_settle_6 : decode cX0_settle 6 = .ok (.iload_n 2, 1) := by decide +kernel
theorem dX0_settle_7 : decode cX0_settle 7 = .ok (.iaload, 1) := by decide +kernel
theorem dX0_settle_8 : decode cX0_settle 8 = .ok (.istore_n 3, 1) := by decide +kernel
theorem dX0_settle_9 : decode cX0_settle 9 = .ok (.aload_n 0, 1) := by decide +kernel
theorem dX0_settle_10 : decode cX0_settle 10 = .ok (.getfield 17, 3) := by decide +kernel
theorem dX0_settle_13 : decode cX0_settle 13 = .ok (.iload_n 2, 1) := by decide +kernel
theorem dX0_settle_14 : decode cX0_settle 14 = .ok (.aaload, 1) := by decide +kernel
theorem dX0_settle_15 : decode cX0_settle 15 = .ok (.iload_n 1, 1) := by decide +kernel
theorem dX0_settle_16 : decode cX0_settle 16 = .ok (.iaload, 1) := by decide +kernel
theorem dX0_settle_17 : decode cX0_settle 17 = .ok (.istore 4, 2) := by decide +kernel
theorem dX0_settle_19 : decode cX0_settle 19 = .ok (.aload_n 0, 1) := by decide +kernel
theorem dX0_settle_20 : decode cX0_settle 20 = .ok (.getfield 17, 3) := by decide +kernel
theorem dX0_settle_23 : decode cX0_settle 23 = .ok (.iload_n 1, 1) := by decide +kernel
theorem dX0_settle_24 : decode cX0_settle 24 = .ok (.aaload, 1) := by decide +kernel
theorem dX0_settle_25 : decode cX0_settle 25 = .ok (.iload_n 2, 1) := by decide +kernel
theorem dX0_settle_26 : decode cX0_settle 26 = .ok (.iconst 0, 1) := by decide +kernel
theorem dX0_settle_27 : decode cX0_settle 27 = .ok (.iastore, 1) := by decide +kernel
theorem dX0_settle_28 : decode cX0_settle 28 = .ok (.aload_n 0, 1) := by decide +kernel
theorem dX0_settle_29 : decode cX0_settle 29 = .ok (.getfield 17, 3) := by decide +kernel
theorem dX0_settle_32 : decode cX0_settle 32 = .ok (.iload_n 2, 1) := by decide +kernel
theorem dX0_settle_33 : decode cX0_settle 33 = .ok (.aaload, 1) := by decide +kernel
theorem dX0_settle_34 : decode cX0_settle 34 = .ok (.iload_n 1, 1) := by decide +kernel
theorem dX0_settle_35 : decode cX0_settle 35 = .ok (.iconst 0, 1) := by decide +kernel
theorem dX0_settle_36 : decode cX0_settle 36 = .ok (.iastore, 1) := by decide +kernel
theorem dX0_settle_37 : decode cX0_settle 37 = .ok (.iload 4, 2) := by decide +kernel
theorem dX0_settle_39 : decode cX0_settle 39 = .ok (.aload_n 0, 1) := by decide +kernel
theorem dX0_settle_40 : decode cX0_settle 40 = .ok (.iload_n 2, 1) := by decide +kernel
theorem dX0_settle_41 : decode cX0_settle 41 = .ok (.iload_n 1, 1) := by decide +kernel
theorem dX0_settle_42 : decode cX0_settle 42 = .ok (.iload_n 3, 1) := by decide +kernel
theorem dX0_settle_43 : decode cX0_settle 43 = .ok (.invokevirtual 42, 3) := by decide +kernel
theorem dX0_settle_46 : decode cX0_settle 46 = .ok (.iadd, 1) := by decide +kernel
theorem dX0_settle_47 : decode cX0_settle 47 = .ok (.ireturn, 1) := by decide +kernel
set_option maxRecDepth 20000 in
theorem ggX0_findWay_J7_fill_53178 : GoodIn wsX0_findWay wsJ7_fill_53178 := goodIn_r _ [8] (by decide +kernel) (by decide +kernel)
set_option maxRecDepth 20000 in
theorem gX0_findWay_J7_fill_53178 : GoodIn wsX0_findWay (va_wsS RX0 27 yJ7_fill_53178 wsJ7_fill_53178) := goodIn_app (goodIn_of _ (by decide +kernel)) ggX0_findWay_J7_fill_53178
theorem dX0_findWay_0 : decode cX0_findWay 0 = .ok (.aload_n 0, 1) := by decide +kernel
theorem dX0_findWay_1 : decode cX0_findWay 1 = .ok (.getfield 20, 3) := by decide +kernel
theorem dX0_findWay_4 : decode cX0_findWay 4 = .ok (.iconst (-1), 1) := by decide +kernel
theorem dX0_findWay_5 : decode cX0_findWay 5 = .ok (.invokestatic 27, 3) := by decide +kernel
theorem dX0_findWay_8 : decode cX0_findWay 8 = .ok (.aload_n 0, 1) := by decide +kernel
theorem dX0_findWay_9 : decode cX0_findWay 9 = .ok (.getfield 20, 3) := by decide +kernel
theorem dX0_findWay_12 : decode cX0_findWay 12 = .ok (.iload_n 1, 1) := by decide +kernel
theorem dX0_findWay_13 : decode cX0_findWay 13 = .ok (.iload_n 1, 1) := by decide +kernel
theorem dX0_findWay_14 : decode cX0_findWay 14 = .ok (.iastore, 1) := by decide +kernel
theorem dX0_findWay_15 : decode cX0_findWay 15 = .ok (.aload_n 0, 1) := by decide +kernel
theorem dX0_findWay_16 : decode cX0_findWay 16 = .ok (.getfield 24, 3) := by decide +kernel
theorem dX0_findWay_19 : decode cX0_findWay 19 = .ok (.iconst 0, 1) := by decide +kernel
theorem dX0_findWay_20 : decode cX0_findWay 20 = .ok (.iload_n 1, 1) := by decide +kernel
theorem dX0_findWay_21 : decode cX0_findWay 21 = .ok (.iastore, 1) := by decide +kernel
theorem dX0_findWay_22 : decode cX0_findWay 22 = .ok (.iconst 1, 1) := by decide +kernel
theorem dX0_findWay_23 : decode cX0_findWay 23 = .ok (.istore_n 3, 1) := by decide +kernel
theorem dX0_findWay_24 : decode cX0_findWay 24 = .ok (.iconst 0, 1) := by decide +kernel
theorem dX0_findWay_25 : decode cX0_findWay 25 = .ok (.istore 4, 2) := by decide +kernel
theorem dX0_findWay_27 : decode cX0_findWay 27 = .ok (.iload 4, 2) := by decide +kernel
theorem dX0_findWay_29 : decode cX0_findWay 29 = .ok (.iload_n 3, 1) := by decide +kernel
theorem dX0_findWay_30 : decode cX0_findWay 30 = .ok (.if_icmp .ge 101, 3) := by decide +kernel
theorem dX0_findWay_33 : decode cX0_findWay 33 = .ok (.iload 4, 2) := by decide +kernel
theorem dX0_findWay_35 : decode cX0_findWay 35 = .ok (.aload_n 0, 1) := by decide +kernel
theorem dX0_findWay_36 : decode cX0_findWay 36 = .ok (.getfield 9, 3) := by decide +kernel
theorem dX0_findWay_39 : decode cX0_findWay 39 = .ok (.if_icmp .ge 92, 3) := by decide +kernel
theorem dX0_findWay_42 : decode cX0_findWay 42 = .ok (.aload_n 0, 1) := by decide +kernel
theorem dX0_findWay_43 : decode cX0_findWay 43 = .ok (.getfield 24, 3) := by decide +kernel
theorem dX0_findWay_46 : decode cX0_findWay 46 = .ok (.iload 4, 2) := by decide +kernel
theorem dX0_findWay_48 : decode cX0_findWay 48 = .ok (.iaload, 1) := by decide +kernel
theorem dX0_findWay_49 : decode cX0_findWay 49 = .ok (.istore 5, 2) := by decide +kernel
theorem dX0_findWay_51 : decode cX0_findWay 51 = .ok (.iconst 0, 1) := by decide +kernel
theorem dX0_findWay_52 : decode cX0_findWay 52 = .ok (.istore 6, 2) := by decide +kernel
theorem dX0_findWay_54 : decode cX0_findWay 54 = .ok (.iload 6, 2) := by decide +kernel
theorem dX0_findWay_56 : decode cX0_findWay 56 = .ok (.aload_n 0, 1) := by decide +kernel
theorem dX0_findWay_57 : decode cX0_findWay 57 = .ok (.getfield 9, 3) := by decide +kernel
theorem dX0_findWay_60 : decode cX0_findWay 60 = .ok (.if_icmp .ge 53, 3) := by decide +kernel
theorem dX0_findWay_63 : decode cX0_findWay 63 = .ok (.aload_n 0, 1) := by decide +kernel
theorem dX0_findWay_64 : decode cX0_findWay 64 = .ok (.getfield 17, 3) := by decide +kernel
theorem dX0_findWay_67 : decode cX0_findWay 67 = .ok (.iload 5, 2) := by decide +kernel
theorem dX0_findWay_69 : decode cX0_findWay 69 = .ok (.aaload, 1) := by decide +kernel
theorem dX0_findWay_70 : decode cX0_findWay 70 = .ok (.iload 6, 2) := by decide +kernel
theorem dX0_findWay_72 : decode cX0_findWay 72 = .ok (.iaload, 1) := by decide +kernel
theorem dX0_findWay_73 : decode cX0_findWay 73 = .ok (.ifCond .le 34, 3) := by decide +kernel
theorem dX0_findWay_76 : decode cX0_findWay 76 = .ok (.aload_n 0, 1) := by decide +kernel
theorem dX0_findWay_77 : decode cX0_findWay 77 = .ok (.getfield 20, 3) := by decide +kernel
theorem dX0_findWay_80 : decode cX0_findWay 80 = .ok (.iload 6, 2) := by decide +kernel
theorem dX0_findWay_82 : decode cX0_findWay 82 = .ok (.iaload, 1) := by decide +kernel
theorem dX0_findWay_83 : decode cX0_findWay 83 = .ok (.iconst (-1), 1) := by decide +kernel
theorem dX0_findWay_84 : decode cX0_findWay 84 = .ok (.if_icmp .ne 23, 3) := by decide +kernel
theorem dX0_findWay_87 : decode cX0_findWay 87 = .ok (.aload_n 0, 1) := by decide +kernel
theorem dX0_findWay_88 : decode cX0_findWay 88 = .ok (.getfield 20, 3) := by decide +kernel
theorem dX0_findWay_91 : decode cX0_findWay 91 = .ok (.iload 6, 2) := by decide +kernel
theorem dX0_findWay_93 : decode cX0_findWay 93 = .ok (.iload 5, 2) := by decide +kernel
theorem dX0_findWay_95 : decode cX0_findWay 95 = .ok (.iastore, 1) := by decide +kernel
theorem dX0_findWay_96 : decode cX0_findWay 96 = .ok (.aload_n 0, 1) := by decide +kernel
theorem dX0_findWay_97 : decode cX0_findWay 97 = .ok (.getfield 24, 3) := by decide +kernel
theorem dX0_findWay_100 : decode cX0_findWay 100 = .ok (.iload_n 3, 1) := by decide +kernel
theorem dX0_findWay_101 : decode cX0_findWay 101 = .ok (.iinc 3 1, 3) := by decide +kernel
theorem dX0_findWay_104 : decode cX0_findWay 104 = .ok (.iload 6, 2) := by decide +kernel
theorem dX0_findWay_106 : decode cX0_findWay 106 = .ok (.iastore, 1) := by decide +kernel
theorem dX0_findWay_107 : decode cX0_findWay 107 = .ok (.iinc 6 1, 3) := by decide +kernel
theorem dX0_findWay_110 : decode cX0_findWay 110 = .ok (.goto (-56), 3) := by decide +kernel
theorem dX0_findWay_113 : decode cX0_findWay 113 = .ok (.aload_n 0, 1) := by decide +kernel
theorem dX0_findWay_114 : decode cX0_findWay 114 = .ok (.getfield 20, 3) := by decide +kernel
theorem dX0_findWay_117 : decode cX0_findWay 117 = .ok (.iload_n 2, 1) := by decide +kernel
theorem dX0_findWay_118 : decode cX0_findWay 118 = .ok (.iaload, 1) := by decide +kernel
theorem dX0_findWay_119 : decode cX0_findWay 119 = .ok (.iconst (-1), 1) := by decide +kernel
theorem dX0_findWay_120 : decode cX0_findWay 120 = .ok (.if_icmp .eq 5, 3) := by decide +kernel
theorem dX0_findWay_123 : decode cX0_findWay 123 = .ok (.iconst 1, 1) := by decide +kernel
theorem dX0_findWay_124 : decode cX0_findWay 124 = .ok (.ireturn, 1) := by decide +kernel
theorem dX0_findWay_125 : decode cX0_findWay 125 = .ok (.iinc 4 1, 3) := by decide +kernel
theorem dX0_findWay_128 : decode cX0_findWay 128 = .ok (.goto (-101), 3) := by decide +kernel
theorem dX0_findWay_131 : decode cX0_findWay 131 = .ok (.iconst 0, 1) := by decide +kernel
theorem dX0_findWay_132 : decode cX0_findWay 132 = .ok (.ireturn, 1) := by decide +kernel
theorem dX0_send_0 : decode cX0_send 0 = .ok (.iload_n 3, 1) := by decide +kernel
theorem dX0_send_1 : decode cX0_send 1 = .ok (.istore 4, 2) := by decide +kernel
theorem dX0_send_3 : decode cX0_send 3 = .ok (.iload_n 2, 1) := by decide +kernel
theorem dX0_send_4 : decode cX0_send 4 = .ok (.istore 5, 2) := by decide +kernel
theorem dX0_send_6 : decode cX0_send 6 = .ok (.iconst 0, 1) := by decide +kernel
theorem dX0_send_7 : decode cX0_send 7 = .ok (.istore 6, 2) := by decide +kernel
theorem dX0_send_9 : decode cX0_send 9 = .ok (.iload 6, 2) := by decide +kernel
theorem dX0_send_11 : decode cX0_send 11 = .ok (.aload_n 0, 1) := by decide +kernel
theorem dX0_send_12 : decode cX0_send 12 = .ok (.getfield 9, 3) := by decide +kernel
theorem dX0_send_15 : decode cX0_send 15 = .ok (.if_icmp .ge 46, 3) := by decide +kernel
theorem dX0_send_18 : decode cX0_send 18 = .ok (.iload 5, 2) := by decide +kernel
theorem dX0_send_20 : decode cX0_send 20 = .ok (.iload_n 1, 1) := by decide +kernel
theorem dX0_send_21 : decode cX0_send 21 = .ok (.if_icmp .eq 40, 3) := by decide +kernel
theorem dX0_send_24 : decode cX0_send 24 = .ok (.iload 4, 2) := by decide +kernel
theorem dX0_send_26 : decode cX0_send 26 = .ok (.aload_n 0, 1) := by decide +kernel
theorem dX0_send_27 : decode cX0_send 27 = .ok (.getfield 17, 3) := by decide +kernel
theorem dX0_send_30 : decode cX0_send 30 = .ok (.aload_n 0, 1) := by decide +kernel
theorem dX0_send_31 : decode cX0_send 31 = .ok (.getfield 20, 3) := by decide +kernel
theorem dX0_send_34 : decode cX0_send 34 = .ok (.iload 5, 2) := by decide +kernel
theorem dX0_send_36 : decode cX0_send 36 = .ok (.iaload, 1) := by decide +kernel
theorem dX0_send_37 : decode cX0_send 37 = .ok (.aaload, 1) := by decide +kernel
theorem dX0_send_38 : decode cX0_send 38 = .ok (.iload 5, 2) := by decide +kernel
theorem dX0_send_40 : decode cX0_send 40 = .ok (.iaload, 1) := by decide +kernel
theorem dX0_send_41 : decode cX0_send 41 = .ok (.invokestatic 45, 3) := by decide +kernel
theorem dX0_send_44 : decode cX0_send 44 = .ok (.istore 4, 2) := by decide +kernel
theorem dX0_send_46 : decode cX0_send 46 = .ok (.aload_n 0, 1) := by decide +kernel
theorem dX0_send_47 : decode cX0_send 47 = .ok (.getfield 20, 3) := by decide +kernel
theorem dX0_send_50 : decode cX0_send 50 = .ok (.iload 5, 2) := by decide +kernel
theorem dX0_send_52 : decode cX0_send 52 = .ok (.iaload, 1) := by decide +kernel
theorem dX0_send_53 : decode cX0_send 53 = .ok (.istore 5, 2) := by decide +kernel
theorem dX0_send_55 : decode cX0_send 55 = .ok (.iinc 6 1, 3) := by decide +kernel
theorem dX0_send_58 : decode cX0_send 58 = .ok (.goto (-49), 3) := by decide +kernel
theorem dX0_send_61 : decode cX0_send 61 = .ok (.iload_n 2, 1) := by decide +kernel
theorem dX0_send_62 : decode cX0_send 62 = .ok (.istore 5, 2) := by decide +kernel
theorem dX0_send_64 : decode cX0_send 64 = .ok (.iconst 0, 1) := by decide +kernel
theorem dX0_send_65 : decode cX0_send 65 = .ok (.istore 6, 2) := by decide +kernel
theorem dX0_send_67 : decode cX0_send 67 = .ok (.iload 6, 2) := by decide +kernel
theorem dX0_send_69 : decode cX0_send 69 = .ok (.aload_n 0, 1) := by decide +kernel
theorem dX0_send_70 : decode cX0_send 70 = .ok (.getfield 9, 3) := by decide +kernel
theorem dX0_send_73 : decode cX0_send 73 = .ok (.if_icmp .ge 64, 3) := by decide +kernel
theorem dX0_send_76 : decode cX0_send 76 = .ok (.iload 5, 2) := by decide +kernel
theorem dX0_send_78 : decode cX0_send 78 = .ok (.iload_n 1, 1) := by decide +kernel
theorem dX0_send_79 : decode cX0_send 79 = .ok (.if_icmp .eq 58, 3) := by decide +kernel
theorem dX0_send_82 : decode cX0_send 82 = .ok (.aload_n 0, 1) := by decide +kernel
theorem dX0_send_83 : decode cX0_send 83 = .ok (.getfield 17, 3) := by decide +kernel
theorem dX0_send_86 : decode cX0_send 86 = .ok (.aload_n 0, 1) := by decide +kernel
theorem dX0_send_87 : decode cX0_send 87 = .ok (.getfield 20, 3) := by decide +kernel
theorem dX0_send_90 : decode cX0_send 90 = .ok (.iload 5, 2) := by decide +kernel
theorem dX0_send_92 : decode cX0_send 92 = .ok (.iaload, 1) := by decide +kernel
theorem dX0_send_93 : decode cX0_send 93 = .ok (.aaload, 1) := by decide +kernel
theorem dX0_send_94 : decode cX0_send 94 = .ok (.iload 5, 2) := by decide +kernel
theorem dX0_send_96 : decode cX0_send 96 = .ok (.dup2, 1) := by decide +kernel
theorem dX0_send_97 : decode cX0_send 97 = .ok (.iaload, 1) := by decide +kernel
theorem dX0_send_98 : decode cX0_send 98 = .ok (.iload 4, 2) := by decide +kernel
theorem dX0_send_100 : decode cX0_send 100 = .ok (.isub, 1) := by decide +kernel
theorem dX0_send_101 : decode cX0_send 101 = .ok (.iastore, 1) := by decide +kernel
theorem dX0_send_102 : decode cX0_send 102 = .ok (.aload_n 0, 1) := by decide +kernel
theorem dX0_send_103 : decode cX0_send 103 = .ok (.getfield 17, 3) := by decide +kernel
theorem dX0_send_106 : decode cX0_send 106 = .ok (.iload 5, 2) := by decide +kernel
theorem dX0_send_108 : decode cX0_send 108 = .ok (.aaload, 1) := by decide +kernel
theorem dX0_send_109 : decode cX0_send 109 = .ok (.aload_n 0, 1) := by decide +kernel
theorem dX0_send_110 : decode cX0_send 110 = .ok (.getfield 20, 3) := by decide +kernel
theorem dX0_send_113 : decode cX0_send 113 = .ok (.iload 5, 2) := by decide +kernel
theorem dX0_send_115 : decode cX0_send 115 = .ok (.iaload, 1) := by decide +kernel
theorem dX0_send_116 : decode cX0_send 116 = .ok (.dup2, 1) := by decide +kernel
theorem dX0_send_117 : decode cX0_send 117 = .ok (.iaload, 1) := by decide +kernel
theorem dX0_send_118 : decode cX0_send 118 = .ok (.iload 4, 2) := by decide +kernel
theorem dX0_send_120 : decode cX0_send 120 = .ok (.iadd, 1) := by decide +kernel
theorem dX0_send_121 : decode cX0_send 121 = .ok (.iastore, 1) := by decide +kernel
theorem dX0_send_122 : decode cX0_send 122 = .ok (.aload_n 0, 1) := by decide +kernel
theorem dX0_send_123 : decode cX0_send 123 = .ok (.getfield 20, 3) := by decide +kernel
theorem dX0_send_126 : decode cX0_send 126 = .ok (.iload 5, 2) := by decide +kernel
theorem dX0_send_128 : decode cX0_send 128 = .ok (.iaload, 1) := by decide +kernel
theorem dX0_send_129 : decode cX0_send 129 = .ok (.istore 5, 2) := by decide +kernel
theorem dX0_send_131 : decode cX0_send 131 = .ok (.iinc 6 1, 3) := by decide +kernel
theorem dX0_send_134 : decode cX0_send 134 = .ok (.goto (-67), 3) := by decide +kernel
theorem dX0_send_137 : decode cX0_send 137 = .ok (.iload 4, 2) := by decide +kernel
theorem dX0_send_139 : decode cX0_send 139 = .ok (.ireturn, 1) := by decide +kernel
theorem dX1_init_0 : decode cX1_init 0 = .ok (.aload_n 0, 1) := by decide +kernel
theorem dX1_init_1 : decode cX1_init 1 = .ok (.invokespecial 5, 3) := by decide +kernel
theorem dX1_init_4 : decode cX1_init 4 = .ok (.aload_n 0, 1) := by decide +kernel
theorem dX1_init_5 : decode cX1_init 5 = .ok (.bipush 12, 2) := by decide +kernel
theorem dX1_init_7 : decode cX1_init 7 = .ok (.newarray .int, 2) := by decide +kernel
theorem dX1_init_9 : decode cX1_init 9 = .ok (.putfield 11, 3) := by decide +kernel
theorem dX1_init_12 : decode cX1_init 12 = .ok (.aload_n 0, 1) := by decide +kernel
theorem dX1_init_13 : decode cX1_init 13 = .ok (.iconst 4, 1) := by decide +kernel
theorem dX1_init_14 : decode cX1_init 14 = .ok (.newarray .int, 2) := by decide +kernel
theorem dX1_init_16 : decode cX1_init 16 = .ok (.putfield 15, 3) := by decide +kernel
theorem dX1_init_19 : decode cX1_init 19 = .ok (.aload_n 0, 1) := by decide +kernel
theorem dX1_init_20 : decode cX1_init 20 = .ok (.bipush 10, 2) := by decide +kernel
theorem dX1_init_22 : decode cX1_init 22 = .ok (.newarray .int, 2) := by decide +kernel
theorem dX1_init_24 : decode cX1_init 24 = .ok (.putfield 18, 3) := by decide +kernel
theorem dX1_init_27 : decode cX1_init 27 = .ok (.aload_n 0, 1) := by decide +kernel
theorem dX1_init_28 : decode cX1_init 28 = .ok (.bipush 10, 2) := by decide +kernel
theorem dX1_init_30 : decode cX1_init 30 = .ok (.newarray .int, 2) := by decide +kernel
theorem dX1_init_32 : decode cX1_init 32 = .ok (.putfield 21, 3) := by decide +kernel
theorem dX1_init_35 : decode cX1_init 35 = .ok (.aload_n 0, 1) := by decide +kernel
theorem dX1_init_36 : decode cX1_init 36 = .ok (.bipush 24, 2) := by decide +kernel
theorem dX1_init_38 : decode cX1_init 38 = .ok (.newarray .int, 2) := by decide +kernel
theorem dX1_init_40 : decode cX1_init 40 = .ok (.putfield 24, 3) := by decide +kernel
theorem dX1_init_43 : decode cX1_init 43 = .ok (.aload_n 0, 1) := by decide +kernel
theorem dX1_init_44 : decode cX1_init 44 = .ok (.sipush 1024, 3) := by decide +kernel
theorem dX1_init_47 : decode cX1_init 47 = .ok (.newarray .int, 2) := by decide +kernel
theorem dX1_init_49 : decode cX1_init 49 = .ok (.putfield 27, 3) := by decide +kernel
theorem dX1_init_52 : decode cX1_init 52 = .ok (.aload_n 0, 1) := by decide +kernel
theorem dX1_init_53 : decode cX1_init 53 = .ok (.sipush 1024, 3) := by decide +kernel
theorem dX1_init_56 : decode cX1_init 56 = .ok (.newarray .boolean, 2) := by decide +kernel
theorem dX1_init_58 : decode cX1_init 58 = .ok (.putfield 30, 3) := by decide +kernel
theorem dX1_init_61 : decode cX1_init 61 = .ok (.aload_n 0, 1) := by decide +kernel
theorem dX1_init_62 : decode cX1_init 62 = .ok (.sipush 1024, 3) := by decide +kernel
theorem dX1_init_65 : decode cX1_init 65 = .ok (.newarray .boolean, 2) := by decide +kernel
theorem dX1_init_67 : decode cX1_init 67 = .ok (.putfield 34, 3) := by decide +kernel
theorem dX1_init_70 : decode cX1_init 70 = .ok (.aload_n 0, 1) := by decide +kernel
theorem dX1_init_71 : decode cX1_init 71 = .ok (.sipush 1024, 3) := by decide +kernel
theorem dX1_init_74 : decode cX1_init 74 = .ok (.newarray .int, 2) := by decide +kernel
theorem dX1_init_76 : decode cX1_init 76 = .ok (.putfield 37, 3) := by decide +kernel
theorem dX1_init_79 : decode cX1_init 79 = .ok (.aload_n 0, 1) := by decide +kernel
theorem dX1_init_80 : decode cX1_init 80 = .ok (.iconst (-1), 1) := by decide +kernel
theorem dX1_init_81 : decode cX1_init 81 = .ok (.putfield 40, 3) := by decide +kernel
theorem dX1_init_84 : decode cX1_init 84 = .ok (.return_, 1) := by decide +kernel
set_option maxRecDepth 20000 in
theorem ggX1_isFall_X6_within : GoodIn wsX1_isFall wsX6_within := goodIn_r _ [3] (by decide +kernel) (by decide +kernel)
set_option maxRecDepth 20000 in
theorem gX1_isFall_X6_within_n44 : GoodIn wsX1_isFall (wsX6_within) := ggX1_isFall_X6_within
theorem dX1_isFall_0 : decode cX1_isFall 0 = .ok (.iload_n 0, 1) := by decide +kernel
theorem dX1_isFall_1 : decode cX1_isFall 1 = .ok (.i2l, 1) := by decide +kernel
theorem dX1_isFall_2 : decode cX1_isFall 2 = .ok (.iconst 0, 1) := by decide +kernel
theorem dX1_isFall_3 : decode cX1_isFall 3 = .ok (.bipush 16, 2) := by decide +kernel
theorem dX1_isFall_5 : decode cX1_isFall 5 = .ok (.invokestatic 44, 3) := by decide +kernel
theorem dX1_isFall_8 : decode cX1_isFall 8 = .ok (.ireturn, 1) := by decide +kernel
set_option maxRecDepth 20000 in
theorem ggX1_hasMachine_X6_within : GoodIn wsX1_hasMachine wsX6_within := goodIn_r _ [4] (by decide +kernel) (by decide +kernel)
set_option maxRecDepth 20000 in
theorem gX1_hasMachine_X6_within_n44 : GoodIn wsX1_hasMachine (wsX6_within) := ggX1_hasMachine_X6_within
theorem dX1_hasMachine_0 : decode cX1_hasMachine 0 = .ok (.iload_n 1, 1) := by decide +kernel
theorem dX1_hasMachine_1 : decode cX1_hasMachine 1 = .ok (.i2l, 1) := by decide +kernel
theorem dX1_hasMachine_2 : decode cX1_hasMachine 2 = .ok (.iconst 0, 1) := by decide +kernel
theorem dX1_hasMachine_3 : decode cX1_hasMachine 3 = .ok (.aload_n 0, 1) := by decide +kernel
theorem dX1_hasMachine_4 : decode cX1_hasMachine 4 = .ok (.getfield 48, 3) := by decide +kernel
theorem dX1_hasMachine_7 : decode cX1_hasMachine 7 = .ok (.iconst 1, 1) := by decide +kernel
theorem dX1_hasMachine_8 : decode cX1_hasMachine 8 = .ok (.isub, 1) := by decide +kernel
theorem dX1_hasMachine_9 : decode cX1_hasMachine 9 = .ok (.invokestatic 44, 3) := by decide +kernel
theorem dX1_hasMachine_12 : decode cX1_hasMachine 12 = .ok (.ireturn, 1) := by decide +kernel
set_option maxRecDepth 20000 in
theorem ggX1_hasAsk_X6_within : GoodIn wsX1_hasAsk wsX6_within := goodIn_r _ [4] (by decide +kernel) (by decide +kernel)
set_option maxRecDepth 20000 in
theorem gX1_hasAsk_X6_within_n44 : GoodIn wsX1_hasAsk (wsX6_within) := ggX1_hasAsk_X6_within
theorem dX1_hasAsk_0 : decode cX1_hasAsk 0 = .ok (.iload_n 1, 1) := by decide +kernel
theorem dX1_hasAsk_1 : decode cX1_hasAsk 1 = .ok (.i2l, 1) := by decide +kernel
theorem dX1_hasAsk_2 : decode cX1_hasAsk 2 = .ok (.iconst 0, 1) := by decide +kernel
theorem dX1_hasAsk_3 : decode cX1_hasAsk 3 = .ok (.aload_n 0, 1) := by decide +kernel
theorem dX1_hasAsk_4 : decode cX1_hasAsk 4 = .ok (.getfield 51, 3) := by decide +kernel
theorem dX1_hasAsk_7 : decode cX1_hasAsk 7 = .ok (.iconst 1, 1) := by decide +kernel
theorem dX1_hasAsk_8 : decode cX1_hasAsk 8 = .ok (.isub, 1) := by decide +kernel
theorem dX1_hasAsk_9 : decode cX1_hasAsk 9 = .ok (.invokestatic 44, 3) := by decide +kernel
theorem dX1_hasAsk_12 : decode cX1_hasAsk 12 = .ok (.ireturn, 1) := by decide +kernel
set_option maxRecDepth 20000 in
theorem ggX1_isUp_X1_has : GoodIn wsX1_isUp wsX1_has := goodIn_r _ [5] (by decide +kernel) (by decide +kernel)
set_option maxRecDepth 20000 in
theorem gX1_isUp_X1_has : GoodIn wsX1_isUp (va_wsS RX1 57 yX1_has wsX1_has) := goodIn_app (goodIn_of _ (by decide +kernel)) ggX1_isUp_X1_has
theorem dX1_isUp_0 : decode cX1_isUp 0 = .ok (.aload_n 0, 1) := by decide +kernel
theorem dX1_isUp_1 : decode cX1_isUp 1 = .ok (.getfield 54, 3) := by decide +kernel
theorem dX1_isUp_4 : decode cX1_isUp 4 = .ok (.iload_n 1, 1) := by decide +kernel
theorem dX1_isUp_5 : decode cX1_isUp 5 = .ok (.invokestatic 57, 3) := by decide +kernel
theorem dX1_isUp_8 : decode cX1_isUp 8 = .ok (.ireturn, 1) := by decide +kernel
set_option maxRecDepth 20000 in
theorem ggX1_isAskOf_X1_has : GoodIn wsX1_isAskOf wsX1_has := goodIn_r _ [5] (by decide +kernel) (by decide +kernel)
set_option maxRecDepth 20000 in
theorem gX1_isAskOf_X1_has : GoodIn wsX1_isAskOf (va_wsS RX1 57 yX1_has wsX1_has) := goodIn_app (goodIn_of _ (by decide +kernel)) ggX1_isAskOf_X1_has
theorem dX1_isAskOf_0 : decode cX1_isAskOf 0 = .ok (.aload_n 0, 1) := by decide +kernel
theorem dX1_isAskOf_1 : decode cX1_isAskOf 1 = .ok (.getfield 24, 3) := by decide +kernel
theorem dX1_isAskOf_4 : decode cX1_isAskOf 4 = .ok (.iload_n 2, 1) := by decide +kernel
theorem dX1_isAskOf_5 : decode cX1_isAskOf 5 = .ok (.iaload, 1) := by decide +kernel
theorem dX1_isAskOf_6 : decode cX1_isAskOf 6 = .ok (.iload_n 1, 1) := by decide +kernel
theorem dX1_isAskOf_7 : decode cX1_isAskOf 7 = .ok (.invokestatic 57, 3) := by decide +kernel
theorem dX1_isAskOf_10 : decode cX1_isAskOf 10 = .ok (.ireturn, 1) := by decide +kernel
set_option maxRecDepth 20000 in
theorem ggX1_areFoes_X1_has : GoodIn wsX1_areFoes wsX1_has := goodIn_r _ [5] (by decide +kernel) (by decide +kernel)
set_option maxRecDepth 20000 in
theorem gX1_areFoes_X1_has : GoodIn wsX1_areFoes (va_wsS RX1 57 yX1_has wsX1_has) := goodIn_app (goodIn_of _ (by decide +kernel)) ggX1_areFoes_X1_has
theorem dX1_areFoes_0 : decode cX1_areFoes 0 = .ok (.aload_n 0, 1) := by decide +kernel
theorem dX1_areFoes_1 : decode cX1_areFoes 1 = .ok (.getfield 21, 3) := by decide +kernel
theorem dX1_areFoes_4 : decode cX1_areFoes 4 = .ok (.iload_n 1, 1) := by decide +kernel
theorem dX1_areFoes_5 : decode cX1_areFoes 5 = .ok (.iaload, 1) := by decide +kernel
theorem dX1_areFoes_6 : decode cX1_areFoes 6 = .ok (.iload_n 2, 1) := by decide +kernel
theorem dX1_areFoes_7 : decode cX1_areFoes 7 = .ok (.invokestatic 57, 3) := by decide +kernel
theorem dX1_areFoes_10 : decode cX1_areFoes 10 = .ok (.ireturn, 1) := by decide +kernel
theorem dX1_addMachine_0 : decode cX1_addMachine 0 = .ok (.aload_n 0, 1) := by decide +kernel
theorem dX1_addMachine_1 : decode cX1_addMachine 1 = .ok (.dup, 1) := by decide +kernel
theorem dX1_addMachine_2 : decode cX1_addMachine 2 = .ok (.getfield 48, 3) := by decide +kernel
theorem dX1_addMachine_5 : decode cX1_addMachine 5 = .ok (.dup_x1, 1) := by decide +kernel
theorem dX1_addMachine_6 : decode cX1_addMachine 6 = .ok (.iconst 1, 1) := by decide +kernel
theorem dX1_addMachine_7 : decode cX1_addMachine 7 = .ok (.iadd, 1) := by decide +kernel
theorem dX1_addMachine_8 : decode cX1_addMachine 8 = .ok (.putfield 48, 3) := by decide +kernel
theorem dX1_addMachine_11 : decode cX1_addMachine 11 = .ok (.istore_n 3, 1) := by decide +kernel
theorem dX1_addMachine_12 : decode cX1_addMachine 12 = .ok (.aload_n 0, 1) := by decide +kernel
theorem dX1_addMachine_13 : decode cX1_addMachine 13 = .ok (.getfield 11, 3) := by decide +kernel
theorem dX1_addMachine_16 : decode cX1_addMachine 16 = .ok (.iload_n 3, 1) := by decide +kernel
theorem dX1_addMachine_17 : decode cX1_addMachine 17 = .ok (.iload_n 1, 1) := by decide +kernel
theorem dX1_addMachine_18 : decode cX1_addMachine 18 = .ok (.iastore, 1) := by decide +kernel
theorem dX1_addMachine_19 : decode cX1_addMachine 19 = .ok (.aload_n 0, 1) := by decide +kernel
theorem dX1_addMachine_20 : decode cX1_addMachine 20 = .ok (.getfield 15, 3) := by decide +kernel
theorem dX1_addMachine_23 : decode cX1_addMachine 23 = .ok (.iload_n 2, 1) := by decide +kernel
theorem dX1_addMachine_24 : decode cX1_addMachine 24 = .ok (.dup2, 1) := by decide +kernel
theorem dX1_addMachine_25 : decode cX1_addMachine 25 = .ok (.iaload, 1) := by decide +kernel
theorem dX1_addMachine_26 : decode cX1_addMachine 26 = .ok (.iconst 1, 1) := by decide +kernel
theorem dX1_addMachine_27 : decode cX1_addMachine 27 = .ok (.iload_n 3, 1) := by decide +kernel
theorem dX1_addMachine_28 : decode cX1_addMachine 28 = .ok (.ishl, 1) := by decide +kernel
theorem dX1_addMachine_29 : decode cX1_addMachine 29 = .ok (.ior, 1) := by decide +kernel
theorem dX1_addMachine_30 : decode cX1_addMachine 30 = .ok (.iastore, 1) := by decide +kernel
theorem dX1_addMachine_31 : decode cX1_addMachine 31 = .ok (.aload_n 0, 1) := by decide +kernel
theorem dX1_addMachine_32 : decode cX1_addMachine 32 = .ok (.dup, 1) := by decide +kernel
theorem dX1_addMachine_33 : decode cX1_addMachine 33 = .ok (.getfield 54, 3) := by decide +kernel
theorem dX1_addMachine_36 : decode cX1_addMachine 36 = .ok (.iconst 1, 1) := by decide +kernel
theorem dX1_addMachine_37 : decode cX1_addMachine 37 = .ok (.iload_n 3, 1) := by decide +kernel
theorem dX1_addMachine_38 : decode cX1_addMachine 38 = .ok (.ishl, 1) := by decide +kernel
theorem dX1_addMachine_39 : decode cX1_addMachine 39 = .ok (.ior, 1) := by decide +kernel
theorem dX1_addMachine_40 : decode cX1_addMachine 40 = .ok (.putfield 54, 3) := by decide +kernel
theorem dX1_addMachine_43 : decode cX1_addMachine 43 = .ok (.iload_n 3, 1) := by decide +kernel
theorem dX1_addMachine_44 : decode cX1_addMachine 44 = .ok (.ireturn, 1) := by decide +kernel
theorem dX1_turn_0 : decode cX1_turn 0 = .ok (.aload_n 0, 1) := by decide +kernel
theorem dX1_turn_1 : decode cX1_turn 1 = .ok (.dup, 1) := by decide +kernel
theorem dX1_turn_2 : decode cX1_turn 2 = .ok (.getfield 54, 3) := by decide +kernel
theorem dX1_turn_5 : decode cX1_turn 5 = .ok (.iconst 1, 1) := by decide +kernel
theorem dX1_turn_6 : decode cX1_turn 6 = .ok (.iload_n 1, 1) := by decide +kernel
theorem dX1_turn_7 : decode cX1_turn 7 = .ok (.ishl, 1) := by decide +kernel
theorem dX1_turn_8 : decode cX1_turn 8 = .ok (.ixor, 1) := by decide +kernel
theorem dX1_turn_9 : decode cX1_turn 9 = .ok (.putfield 54, 3) := by decide +kernel
theorem dX1_turn_12 : decode cX1_turn 12 = .ok (.return_, 1) := by decide +kernel
set_option maxRecDepth 20000 in
theorem ggX1_addAsk_X1_markAsked : GoodIn wsX1_addAsk wsX1_markAsked := goodIn_r _ [8, 9, 18, 19, 20, 21, 22, 23, 24, 25, 26, 27, 28, 29, 30] (by decide +kernel) (by decide +kernel)
set_option maxRecDepth 20000 in
theorem gX1_addAsk_X1_markAsked : GoodIn wsX1_addAsk (wsV RX1 61 RX1 yX1_markAsked wsX1_markAsked) := goodIn_app (goodIn_of _ (by decide +kernel)) ggX1_addAsk_X1_markAsked
set_option maxRecDepth 20000 in
theorem ggX1_addAsk_X1_tally : GoodIn wsX1_addAsk wsX1_tally := goodIn_r _ [13, 14, 1, 15, 2, 16, 17, 18, 19, 20, 21, 22, 23, 24, 25, 26, 27, 28, 29, 30] (by decide +kernel) (by decide +kernel)
set_option maxRecDepth 20000 in
theorem gX1_addAsk_X1_tally : GoodIn wsX1_addAsk (wsV RX1 65 RX1 yX1_tally wsX1_tally) := goodIn_app (goodIn_of _ (by decide +kernel)) ggX1_addAsk_X1_tally
theorem dX1_addAsk_0 : decode cX1_addAsk 0 = .ok (.aload_n 0, 1) := by decide +kernel
theorem dX1_addAsk_1 : decode cX1_addAsk 1 = .ok (.dup, 1) := by decide +kernel
theorem dX1_addAsk_2 : decode cX1_addAsk 2 = .ok (.getfield 51, 3) := by decide +kernel
theorem dX1_addAsk_5 : decode cX1_addAsk 5 = .ok (.dup_x1, 1) := by decide +kernel
theorem dX1_addAsk_6 : decode cX1_addAsk 6 = .ok (.iconst 1, 1) := by decide +kernel
theorem dX1_addAsk_7 : decode cX1_addAsk 7 = .ok (.iadd, 1) := by decide +kernel
theorem dX1_addAsk_8 : decode cX1_addAsk 8 = .ok (.putfield 51, 3) := by decide +kernel
theorem dX1_addAsk_11 : decode cX1_addAsk 11 = .ok (.istore 4, 2) := by decide +kernel
theorem dX1_addAsk_13 : decode cX1_addAsk 13 = .ok (.aload_n 0, 1) := by decide +kernel
theorem dX1_addAsk_14 : decode cX1_addAsk 14 = .ok (.getfield 18, 3) := by decide +kernel
theorem dX1_addAsk_17 : decode cX1_addAsk 17 = .ok (.iload 4, 2) := by decide +kernel
theorem dX1_addAsk_19 : decode cX1_addAsk 19 = .ok (.iload_n 1, 1) := by decide +kernel
theorem dX1_addAsk_20 : decode cX1_addAsk 20 = .ok (.iastore, 1) := by decide +kernel
theorem dX1_addAsk_21 : decode cX1_addAsk 21 = .ok (.iload_n 2, 1) := by decide +kernel
theorem dX1_addAsk_22 : decode cX1_addAsk 22 = .ok (.istore 5, 2) := by decide +kernel
theorem dX1_addAsk_24 : decode cX1_addAsk 24 = .ok (.iload 5, 2) := by decide +kernel
theorem dX1_addAsk_26 : decode cX1_addAsk 26 = .ok (.iload_n 3, 1) := by decide +kernel
theorem dX1_addAsk_27 : decode cX1_addAsk 27 = .ok (.if_icmp .gt 34, 3) := by decide +kernel
theorem dX1_addAsk_30 : decode cX1_addAsk 30 = .ok (.aload_n 0, 1) := by decide +kernel
theorem dX1_addAsk_31 : decode cX1_addAsk 31 = .ok (.getfield 24, 3) := by decide +kernel
theorem dX1_addAsk_34 : decode cX1_addAsk 34 = .ok (.iload 5, 2) := by decide +kernel
theorem dX1_addAsk_36 : decode cX1_addAsk 36 = .ok (.dup2, 1) := by decide +kernel
theorem dX1_addAsk_37 : decode cX1_addAsk 37 = .ok (.iaload, 1) := by decide +kernel
theorem dX1_addAsk_38 : decode cX1_addAsk 38 = .ok (.iconst 1, 1) := by decide +kernel
theorem dX1_addAsk_39 : decode cX1_addAsk 39 = .ok (.iload 4, 2) := by decide +kernel
theorem dX1_addAsk_41 : decode cX1_addAsk 41 = .ok (.ishl, 1) := by decide +kernel
theorem dX1_addAsk_42 : decode cX1_addAsk 42 = .ok (.ior, 1) := by decide +kernel
theorem dX1_addAsk_43 : decode cX1_addAsk 43 = .ok (.iastore, 1) := by decide +kernel
theorem dX1_addAsk_44 : decode cX1_addAsk 44 = .ok (.aload_n 0, 1) := by decide +kernel
theorem dX1_addAsk_45 : decode cX1_addAsk 45 = .ok (.aload_n 0, 1) := by decide +kernel
theorem dX1_addAsk_46 : decode cX1_addAsk 46 = .ok (.getfield 24, 3) := by decide +kernel
theorem dX1_addAsk_49 : decode cX1_addAsk 49 = .ok (.iload 5, 2) := by decide +kernel
theorem dX1_addAsk_51 : decode cX1_addAsk 51 = .ok (.iaload, 1) := by decide +kernel
theorem dX1_addAsk_52 : decode cX1_addAsk 52 = .ok (.invokevirtual 61, 3) := by decide +kernel
theorem dX1_addAsk_55 : decode cX1_addAsk 55 = .ok (.iinc 5 1, 3) := by decide +kernel
theorem dX1_addAsk_58 : decode cX1_addAsk 58 = .ok (.goto (-34), 3) := by decide +kernel
theorem dX1_addAsk_61 : decode cX1_addAsk 61 = .ok (.aload_n 0, 1) := by decide +kernel
theorem dX1_addAsk_62 : decode cX1_addAsk 62 = .ok (.invokevirtual 65, 3) := by decide +kernel
theorem dX1_addAsk_65 : decode cX1_addAsk 65 = .ok (.iload 4, 2) := by decide +kernel
theorem dX1_addAsk_67 : decode cX1_addAsk 67 = .ok (.ireturn, 1) := by decide +kernel
set_option maxRecDepth 20000 in
theorem ggX1_turnFoes_X1_tally : GoodIn wsX1_turnFoes wsX1_tally := goodIn_r _ [6, 7, 8, 9, 10, 11, 1, 12, 13, 14, 15, 16, 17, 18, 19, 20, 21, 22, 23, 24] (by decide +kernel) (by decide +kernel)
set_option maxRecDepth 20000 in
theorem gX1_turnFoes_X1_tally : GoodIn wsX1_turnFoes (wsV RX1 65 RX1 yX1_tally wsX1_tally) := goodIn_app (goodIn_of _ (by decide +kernel)) ggX1_turnFoes_X1_tally
theorem dX1_turnFoes_0 : decode cX1_turnFoes 0 = .ok (.aload_n 0, 1) := by decide +kernel
theorem dX1_turnFoes_1 : decode cX1_turnFoes 1 = .ok (.getfield 21, 3) := by decide +kernel
theorem dX1_turnFoes_4 : decode cX1_turnFoes 4 = .ok (.iload_n 1, 1) := by decide +kernel
theorem dX1_turnFoes_5 : decode cX1_turnFoes 5 = .ok (.dup2, 1) := by decide +kernel
theorem dX1_turnFoes_6 : decode cX1_turnFoes 6 = .ok (.iaload, 1) := by decide +kernel
theorem dX1_turnFoes_7 : decode cX1_turnFoes 7 = .ok (.iconst 1, 1) := by decide +kernel
theorem dX1_turnFoes_8 : decode cX1_turnFoes 8 = .ok (.iload_n 2, 1) := by decide +kernel
theorem dX1_turnFoes_9 : decode cX1_turnFoes 9 = .ok (.ishl, 1) := by decide +kernel
theorem dX1_turnFoes_10 : decode cX1_turnFoes 10 = .ok (.ixor, 1) := by decide +kernel
theorem dX1_turnFoes_11 : decode cX1_turnFoes 11 = .ok (.iastore, 1) := by decide +kernel
theorem dX1_turnFoes_12 : decode cX1_turnFoes 12 = .ok (.aload_n 0, 1) := by decide +kernel
theorem dX1_turnFoes_13 : decode cX1_turnFoes 13 = .ok (.getfield 21, 3) := by decide +kernel
theorem dX1_turnFoes_16 : decode cX1_turnFoes 16 = .ok (.iload_n 2, 1) := by decide +kernel
theorem dX1_turnFoes_17 : decode cX1_turnFoes 17 = .ok (.dup2, 1) := by decide +kernel
theorem dX1_turnFoes_18 : decode cX1_turnFoes 18 = .ok (.iaload, 1) := by decide +kernel
theorem dX1_turnFoes_19 : decode cX1_turnFoes 19 = .ok (.iconst 1, 1) := by decide +kernel
theorem dX1_turnFoes_20 : decode cX1_turnFoes 20 = .ok (.iload_n 1, 1) := by decide +kernel
theorem dX1_turnFoes_21 : decode cX1_turnFoes 21 = .ok (.ishl, 1) := by decide +kernel
theorem dX1_turnFoes_22 : decode cX1_turnFoes 22 = .ok (.ixor, 1) := by decide +kernel
theorem dX1_turnFoes_23 : decode cX1_turnFoes 23 = .ok (.iastore, 1) := by decide +kernel
theorem dX1_turnFoes_24 : decode cX1_turnFoes 24 = .ok (.aload_n 0, 1) := by decide +kernel
theorem dX1_turnFoes_25 : decode cX1_turnFoes 25 = .ok (.invokevirtual 65, 3) := by decide +kernel
theorem dX1_turnFoes_28 : decode cX1_turnFoes 28 = .ok (.return_, 1) := by decide +kernel
theorem dX1_standing_0 : decode cX1_standing 0 = .ok (.iload_n 1, 1) := by decide +kernel
theorem dX1_standing_1 : decode cX1_standing 1 = .ok (.ifCond .ne 8, 3) := by decide +kernel
theorem dX1_standing_4 : decode cX1_standing 4 = .ok (.aload_n 0, 1) := by decide +kernel
theorem dX1_standing_5 : decode cX1_standing 5 = .ok (.getfield 54, 3) := by decide +kernel
theorem dX1_standing_8 : decode cX1_standing 8 = .ok (.ireturn, 1) := by decide +kernel
theorem dX1_standing_9 : decode cX1_standing 9 = .ok (.iload_n 1, 1) := by decide +kernel
theorem dX1_standing_10 : decode cX1_standing 10 = .ok (.bipush 12, 2) := by decide +kernel
theorem dX1_standing_12 : decode cX1_standing 12 = .ok (.if_icmp .gt 18, 3) := by decide +kernel
theorem dX1_standing_15 : decode cX1_standing 15 = .ok (.aload_n 0, 1) := by decide +kernel
theorem dX1_standing_16 : decode cX1_standing 16 = .ok (.getfield 54, 3) := by decide +kernel
theorem dX1_standing_19 : decode cX1_standing 19 = .ok (.iconst 1, 1) := by decide +kernel
theorem dX1_standing_20 : decode cX1_standing 20 = .ok (.iload_n 1, 1) := by decide +kernel
theorem dX1_standing_21 : decode cX1_standing 21 = .ok (.iconst 1, 1) := by decide +kernel
theorem dX1_standing_22 : decode cX1_standing 22 = .ok (.isub, 1) := by decide +kernel
theorem dX1_standing_23 : decode cX1_standing 23 = .ok (.ishl, 1) := by decide +kernel
theorem dX1_standing_24 : decode cX1_standing 24 = .ok (.iconst (-1), 1) := by decide +kernel
theorem dX1_standing_25 : decode cX1_standing 25 = .ok (.ixor, 1) := by decide +kernel
theorem dX1_standing_26 : decode cX1_standing 26 = .ok (.iand, 1) := by decide +kernel
theorem dX1_standing_27 : decode cX1_standing 27 = .ok (.goto 21, 3) := by decide +kernel
theorem dX1_standing_30 : decode cX1_standing 30 = .ok (.aload_n 0, 1) := by decide +kernel
theorem dX1_standing_31 : decode cX1_standing 31 = .ok (.getfield 54, 3) := by decide +kernel
theorem dX1_standing_34 : decode cX1_standing 34 = .ok (.aload_n 0, 1) := by decide +kernel
theorem dX1_standing_35 : decode cX1_standing 35 = .ok (.getfield 15, 3) := by decide +kernel
theorem dX1_standing_38 : decode cX1_standing 38 = .ok (.iload_n 1, 1) := by decide +kernel
theorem dX1_standing_39 : decode cX1_standing 39 = .ok (.bipush 12, 2) := by decide +kernel
theorem dX1_standing_41 : decode cX1_standing 41 = .ok (.isub, 1) := by decide +kernel
theorem dX1_standing_42 : decode cX1_standing 42 = .ok (.iconst 1, 1) := by decide +kernel
theorem dX1_standing_43 : decode cX1_standing 43 = .ok (.isub, 1) := by decide +kernel
theorem dX1_standing_44 : decode cX1_standing 44 = .ok (.iaload, 1) := by decide +kernel
theorem dX1_standing_45 : decode cX1_standing 45 = .ok (.iconst (-1), 1) := by decide +kernel
theorem dX1_standing_46 : decode cX1_standing 46 = .ok (.ixor, 1) := by decide +kernel
theorem dX1_standing_47 : decode cX1_standing 47 = .ok (.iand, 1) := by decide +kernel
theorem dX1_standing_48 : decode cX1_standing 48 = .ok (.ireturn, 1) := by decide +kernel
set_option maxRecDepth 20000 in
theorem ggX1_sizeOf_X1_has : GoodIn wsX1_sizeOf wsX1_has := goodIn_r _ [6] (by decide +kernel) (by decide +kernel)
set_option maxRecDepth 20000 in
theorem gX1_sizeOf_X1_has : GoodIn wsX1_sizeOf (va_wsS RX1 57 yX1_has wsX1_has) := goodIn_app (goodIn_of _ (by decide +kernel)) ggX1_sizeOf_X1_has
theorem dX1_sizeOf_0 : decode cX1_sizeOf 0 = .ok (.iconst 0, 1) := by decide +kernel
theorem dX1_sizeOf_1 : decode cX1_sizeOf 1 = .ok (.istore_n 2, 1) := by decide +kernel
theorem dX1_sizeOf_2 : decode cX1_sizeOf 2 = .ok (.iconst 0, 1) := by decide +kernel
theorem dX1_sizeOf_3 : decode cX1_sizeOf 3 = .ok (.istore_n 3, 1) := by decide +kernel
theorem dX1_sizeOf_4 : decode cX1_sizeOf 4 = .ok (.iload_n 3, 1) := by decide +kernel
theorem dX1_sizeOf_5 : decode cX1_sizeOf 5 = .ok (.aload_n 0, 1) := by decide +kernel
theorem dX1_sizeOf_6 : decode cX1_sizeOf 6 = .ok (.getfield 48, 3) := by decide +kernel
theorem dX1_sizeOf_9 : decode cX1_sizeOf 9 = .ok (.if_icmp .ge 30, 3) := by decide +kernel
theorem dX1_sizeOf_12 : decode cX1_sizeOf 12 = .ok (.iload_n 2, 1) := by decide +kernel
theorem dX1_sizeOf_13 : decode cX1_sizeOf 13 = .ok (.iload_n 1, 1) := by decide +kernel
theorem dX1_sizeOf_14 : decode cX1_sizeOf 14 = .ok (.iload_n 3, 1) := by decide +kernel
theorem dX1_sizeOf_15 : decode cX1_sizeOf 15 = .ok (.invokestatic 57, 3) := by decide +kernel
theorem dX1_sizeOf_18 : decode cX1_sizeOf 18 = .ok (.ifCond .eq 12, 3) := by decide +kernel
theorem dX1_sizeOf_21 : decode cX1_sizeOf 21 = .ok (.aload_n 0, 1) := by decide +kernel
theorem dX1_sizeOf_22 : decode cX1_sizeOf 22 = .ok (.getfield 11, 3) := by decide +kernel
theorem dX1_sizeOf_25 : decode cX1_sizeOf 25 = .ok (.iload_n 3, 1) := by decide +kernel
theorem dX1_sizeOf_26 : decode cX1_sizeOf 26 = .ok (.iaload, 1) := by decide +kernel
theorem dX1_sizeOf_27 : decode cX1_sizeOf 27 = .ok (.goto 4, 3) := by decide +kernel
theorem dX1_sizeOf_30 : decode cX1_sizeOf 30 = .ok (.iconst 0, 1) := by decide +kernel
theorem dX1_sizeOf_31 : decode cX1_sizeOf 31 = .ok (.iadd, 1) := by decide +kernel
theorem dX1_sizeOf_32 : decode cX1_sizeOf 32 = .ok (.istore_n 2, 1) := by decide +kernel
theorem dX1_sizeOf_33 : decode cX1_sizeOf 33 = .ok (.iinc 3 1, 3) := by decide +kernel
theorem dX1_sizeOf_36 : decode cX1_sizeOf 36 = .ok (.goto (-32), 3) := by decide +kernel
theorem dX1_sizeOf_39 : decode cX1_sizeOf 39 = .ok (.iload_n 2, 1) := by decide +kernel
theorem dX1_sizeOf_40 : decode cX1_sizeOf 40 = .ok (.ireturn, 1) := by decide +kernel
set_option maxRecDepth 20000 in
theorem ggX1_holds_X1_findLatest : GoodIn wsX1_holds wsX1_findLatest := goodIn_r _ [7, 8, 1, 9, 10, 11, 12, 13, 14, 15, 16, 6, 17, 18, 19, 20, 21, 22, 23, 24, 25, 26, 27, 28, 29, 30, 31, 32, 33, 34, 35, 36, 37, 38, 39, 40, 41, 42] (by decide +kernel) (by decide +kernel)
set_option maxRecDepth 20000 in
theorem gX1_holds_X1_findLatest : GoodIn wsX1_holds (wsV RX1 68 RX1 yX1_findLatest wsX1_findLatest) := goodIn_app (goodIn_of _ (by decide +kernel)) ggX1_holds_X1_findLatest
theorem dX1_holds_0 : decode cX1_holds 0 = .ok (.aload_n 0, 1) := by decide +kernel
theorem dX1_holds_1 : decode cX1_holds 1 = .ok (.iload_n 2, 1) := by decide +kernel
theorem dX1_holds_2 : decode cX1_holds 2 = .ok (.invokevirtual 68, 3) := by decide +kernel
theorem dX1_holds_5 : decode cX1_holds 5 = .ok (.aload_n 0, 1) := by decide +kernel
theorem dX1_holds_6 : decode cX1_holds 6 = .ok (.getfield 37, 3) := by decide +kernel
theorem dX1_holds_9 : decode cX1_holds 9 = .ok (.aload_n 0, 1) := by decide +kernel
theorem dX1_holds_10 : decode cX1_holds 10 = .ok (.getfield 24, 3) := by decide +kernel
theorem dX1_holds_13 : decode cX1_holds 13 = .ok (.iload_n 1, 1) := by decide +kernel
theorem dX1_holds_14 : decode cX1_holds 14 = .ok (.iaload, 1) := by decide +kernel
theorem dX1_holds_15 : decode cX1_holds 15 = .ok (.iaload, 1) := by decide +kernel
theorem dX1_holds_16 : decode cX1_holds 16 = .ok (.iconst (-1), 1) := by decide +kernel
theorem dX1_holds_17 : decode cX1_holds 17 = .ok (.if_icmp .eq 7, 3) := by decide +kernel
theorem dX1_holds_20 : decode cX1_holds 20 = .ok (.iconst 1, 1) := by decide +kernel
theorem dX1_holds_21 : decode cX1_holds 21 = .ok (.goto 4, 3) := by decide +kernel
theorem dX1_holds_24 : decode cX1_holds 24 = .ok (.iconst 0, 1) := by decide +kernel
theorem dX1_holds_25 : decode cX1_holds 25 = .ok (.ireturn, 1) := by decide +kernel
set_option maxRecDepth 20000 in
theorem ggX1_layingOf_X1_findLatest : GoodIn wsX1_layingOf wsX1_findLatest := goodIn_r _ [7, 8, 9, 2, 10, 11, 12, 13, 14, 15, 16, 6, 17, 18, 19, 20, 21, 22, 23, 24, 25, 26, 27, 28, 29, 30, 31, 32, 33, 34, 35, 36, 37, 38, 39, 40, 41, 42] (by decide +kernel) (by decide +kernel)
set_option maxRecDepth 20000 in
theorem gX1_layingOf_X1_findLatest : GoodIn wsX1_layingOf (wsV RX1 68 RX1 yX1_findLatest wsX1_findLatest) := goodIn_app (goodIn_of _ (by decide +kernel)) ggX1_layingOf_X1_findLatest
set_option maxRecDepth 20000 in
theorem ggX1_layingOf_X1_has : GoodIn wsX1_layingOf wsX1_has := goodIn_r _ [17] (by decide +kernel) (by decide +kernel)
set_option maxRecDepth 20000 in
theorem gX1_layingOf_X1_has : GoodIn wsX1_layingOf (va_wsS RX1 57 yX1_has wsX1_has) := goodIn_app (goodIn_of _ (by decide +kernel)) ggX1_layingOf_X1_has
set_option maxRecDepth 20000 in
theorem ggX1_layingOf_X1_greatestOn : GoodIn wsX1_layingOf wsX1_greatestOn := goodIn_r _ [28, 24, 10, 29, 9, 30, 31, 32, 33, 34, 35, 36, 37, 38, 39, 40, 41, 42] (by decide +kernel) (by decide +kernel)
set_option maxRecDepth 20000 in
theorem gX1_layingOf_X1_greatestOn : GoodIn wsX1_layingOf (wsV RX1 71 RX1 yX1_greatestOn wsX1_greatestOn) := goodIn_app (goodIn_of _ (by decide +kernel)) ggX1_layingOf_X1_greatestOn
theorem dX1_layingOf_0 : decode cX1_layingOf 0 = .ok (.aload_n 0, 1) := by decide +kernel
theorem dX1_layingOf_1 : decode cX1_layingOf 1 = .ok (.iload_n 2, 1) := by decide +kernel
theorem dX1_layingOf_2 : decode cX1_layingOf 2 = .ok (.invokevirtual 68, 3) := by decide +kernel
theorem dX1_layingOf_5 : decode cX1_layingOf 5 = .ok (.aload_n 0, 1) := by decide +kernel
theorem dX1_layingOf_6 : decode cX1_layingOf 6 = .ok (.getfield 24, 3) := by decide +kernel
theorem dX1_layingOf_9 : decode cX1_layingOf 9 = .ok (.iload_n 1, 1) := by decide +kernel
theorem dX1_layingOf_10 : decode cX1_layingOf 10 = .ok (.iaload, 1) := by decide +kernel
theorem dX1_layingOf_11 : decode cX1_layingOf 11 = .ok (.istore 4, 2) := by decide +kernel
theorem dX1_layingOf_13 : decode cX1_layingOf 13 = .ok (.iconst 0, 1) := by decide +kernel
theorem dX1_layingOf_14 : decode cX1_layingOf 14 = .ok (.istore 5, 2) := by decide +kernel
theorem dX1_layingOf_16 : decode cX1_layingOf 16 = .ok (.iload 5, 2) := by decide +kernel
theorem dX1_layingOf_18 : decode cX1_layingOf 18 = .ok (.aload_n 0, 1) := by decide +kernel
theorem dX1_layingOf_19 : decode cX1_layingOf 19 = .ok (.getfield 48, 3) := by decide +kernel
theorem dX1_layingOf_22 : decode cX1_layingOf 22 = .ok (.if_icmp .ge 47, 3) := by decide +kernel
theorem dX1_layingOf_25 : decode cX1_layingOf 25 = .ok (.iload_n 2, 1) := by decide +kernel
theorem dX1_layingOf_26 : decode cX1_layingOf 26 = .ok (.iload 5, 2) := by decide +kernel
theorem dX1_layingOf_28 : decode cX1_layingOf 28 = .ok (.invokestatic 57, 3) := by decide +kernel
theorem dX1_layingOf_31 : decode cX1_layingOf 31 = .ok (.ifCond .eq 32, 3) := by decide +kernel
theorem dX1_layingOf_34 : decode cX1_layingOf 34 = .ok (.aload_n 0, 1) := by decide +kernel
theorem dX1_layingOf_35 : decode cX1_layingOf 35 = .ok (.iload 5, 2) := by decide +kernel
theorem dX1_layingOf_37 : decode cX1_layingOf 37 = .ok (.iload 4, 2) := by decide +kernel
theorem dX1_layingOf_39 : decode cX1_layingOf 39 = .ok (.invokevirtual 71, 3) := by decide +kernel
theorem dX1_layingOf_42 : decode cX1_layingOf 42 = .ok (.istore 6, 2) := by decide +kernel
theorem dX1_layingOf_44 : decode cX1_layingOf 44 = .ok (.iload 6, 2) := by decide +kernel
theorem dX1_layingOf_46 : decode cX1_layingOf 46 = .ok (.iload_n 3, 1) := by decide +kernel
theorem dX1_layingOf_47 : decode cX1_layingOf 47 = .ok (.invokestatic 57, 3) := by decide +kernel
theorem dX1_layingOf_50 : decode cX1_layingOf 50 = .ok (.ifCond .eq 6, 3) := by decide +kernel
theorem dX1_layingOf_53 : decode cX1_layingOf 53 = .ok (.iload 5, 2) := by decide +kernel
theorem dX1_layingOf_55 : decode cX1_layingOf 55 = .ok (.ireturn, 1) := by decide +kernel
theorem dX1_layingOf_56 : decode cX1_layingOf 56 = .ok (.iload 4, 2) := by decide +kernel
theorem dX1_layingOf_58 : decode cX1_layingOf 58 = .ok (.iload 6, 2) := by decide +kernel
theorem dX1_layingOf_60 : decode cX1_layingOf 60 = .ok (.ixor, 1) := by decide +kernel
theorem dX1_layingOf_61 : decode cX1_layingOf 61 = .ok (.istore 4, 2) := by decide +kernel
theorem dX1_layingOf_63 : decode cX1_layingOf 63 = .ok (.iinc 5 1, 3) := by decide +kernel
theorem dX1_layingOf_66 : decode cX1_layingOf 66 = .ok (.goto (-50), 3) := by decide +kernel
theorem dX1_layingOf_69 : decode cX1_layingOf 69 = .ok (.iconst (-1), 1) := by decide +kernel
theorem dX1_layingOf_70 : decode cX1_layingOf 70 = .ok (.ireturn, 1) := by decide +kernel
set_option maxRecDepth 20000 in
theorem ggX1_lacking_X1_findLatest : GoodIn wsX1_lacking wsX1_findLatest := goodIn_r _ [12, 13, 2, 14, 15, 16, 17, 18, 19, 20, 21, 11, 22, 23, 24, 25, 26, 27, 28, 3, 29, 30, 31, 32, 33, 34, 35, 36, 37, 38, 39, 40, 41, 42, 43, 44, 45, 46] (by decide +kernel) (by decide +kernel)
set_option maxRecDepth 20000 in
theorem gX1_lacking_X1_findLatest : GoodIn wsX1_lacking (wsV RX1 68 RX1 yX1_findLatest wsX1_findLatest) := goodIn_app (goodIn_of _ (by decide +kernel)) ggX1_lacking_X1_findLatest
theorem dX1_lacking_0 : decode cX1_lacking 0 = .ok (.aload_n 0, 1) := by decide +kernel
theorem dX1_lacking_1 : decode cX1_lacking 1 = .ok (.iload_n 2, 1) := by decide +kernel
theorem dX1_lacking_2 : decode cX1_lacking 2 = .ok (.invokevirtual 68, 3) := by decide +kernel
theorem dX1_lacking_5 : decode cX1_lacking 5 = .ok (.aload_n 0, 1) := by decide +kernel
theorem dX1_lacking_6 : decode cX1_lacking 6 = .ok (.getfield 24, 3) := by decide +kernel
theorem dX1_lacking_9 : decode cX1_lacking 9 = .ok (.iload_n 1, 1) := by decide +kernel
theorem dX1_lacking_10 : decode cX1_lacking 10 = .ok (.iaload, 1) := by decide +kernel
theorem dX1_lacking_11 : decode cX1_lacking 11 = .ok (.istore_n 3, 1) := by decide +kernel
theorem dX1_lacking_12 : decode cX1_lacking 12 = .ok (.iconst 0, 1) := by decide +kernel
theorem dX1_lacking_13 : decode cX1_lacking 13 = .ok (.istore 4, 2) := by decide +kernel
theorem dX1_lacking_15 : decode cX1_lacking 15 = .ok (.iload_n 3, 1) := by decide +kernel
theorem dX1_lacking_16 : decode cX1_lacking 16 = .ok (.istore 5, 2) := by decide +kernel
theorem dX1_lacking_18 : decode cX1_lacking 18 = .ok (.iload 5, 2) := by decide +kernel
theorem dX1_lacking_20 : decode cX1_lacking 20 = .ok (.ifCond .le 39, 3) := by decide +kernel
theorem dX1_lacking_23 : decode cX1_lacking 23 = .ok (.aload_n 0, 1) := by decide +kernel
theorem dX1_lacking_24 : decode cX1_lacking 24 = .ok (.getfield 37, 3) := by decide +kernel
theorem dX1_lacking_27 : decode cX1_lacking 27 = .ok (.iload 5, 2) := by decide +kernel
theorem dX1_lacking_29 : decode cX1_lacking 29 = .ok (.iaload, 1) := by decide +kernel
theorem dX1_lacking_30 : decode cX1_lacking 30 = .ok (.iconst (-1), 1) := by decide +kernel
theorem dX1_lacking_31 : decode cX1_lacking 31 = .ok (.if_icmp .eq 17, 3) := by decide +kernel
theorem dX1_lacking_34 : decode cX1_lacking 34 = .ok (.iload 4, 2) := by decide +kernel
theorem dX1_lacking_36 : decode cX1_lacking 36 = .ok (.aload_n 0, 1) := by decide +kernel
theorem dX1_lacking_37 : decode cX1_lacking 37 = .ok (.getfield 27, 3) := by decide +kernel
theorem dX1_lacking_40 : decode cX1_lacking 40 = .ok (.iload 5, 2) := by decide +kernel
theorem dX1_lacking_42 : decode cX1_lacking 42 = .ok (.iaload, 1) := by decide +kernel
theorem dX1_lacking_43 : decode cX1_lacking 43 = .ok (.invokestatic 75, 3) := by decide +kernel
theorem dX1_lacking_46 : decode cX1_lacking 46 = .ok (.istore 4, 2) := by decide +kernel
theorem dX1_lacking_48 : decode cX1_lacking 48 = .ok (.iload 5, 2) := by decide +kernel
theorem dX1_lacking_50 : decode cX1_lacking 50 = .ok (.iconst 1, 1) := by decide +kernel
theorem dX1_lacking_51 : decode cX1_lacking 51 = .ok (.isub, 1) := by decide +kernel
theorem dX1_lacking_52 : decode cX1_lacking 52 = .ok (.iload_n 3, 1) := by decide +kernel
theorem dX1_lacking_53 : decode cX1_lacking 53 = .ok (.iand, 1) := by decide +kernel
theorem dX1_lacking_54 : decode cX1_lacking 54 = .ok (.istore 5, 2) := by decide +kernel
theorem dX1_lacking_56 : decode cX1_lacking 56 = .ok (.goto (-38), 3) := by decide +kernel
theorem dX1_lacking_59 : decode cX1_lacking 59 = .ok (.aload_n 0, 1) := by decide +kernel
theorem dX1_lacking_60 : decode cX1_lacking 60 = .ok (.getfield 27, 3) := by decide +kernel
theorem dX1_lacking_63 : decode cX1_lacking 63 = .ok (.iload_n 3, 1) := by decide +kernel
theorem dX1_lacking_64 : decode cX1_lacking 64 = .ok (.iaload, 1) := by decide +kernel
theorem dX1_lacking_65 : decode cX1_lacking 65 = .ok (.iload 4, 2) := by decide +kernel
theorem dX1_lacking_67 : decode cX1_lacking 67 = .ok (.isub, 1) := by decide +kernel
theorem dX1_lacking_68 : decode cX1_lacking 68 = .ok (.ireturn, 1) := by decide +kernel
set_option maxRecDepth 20000 in
theorem ggX1_leftOver_X1_findLatest : GoodIn wsX1_leftOver wsX1_findLatest := goodIn_r _ [8, 9, 2, 10, 11, 12, 13, 14, 15, 16, 17, 7, 18, 19, 20, 21, 22, 23, 24, 3, 25, 26, 27, 28, 29, 34, 35, 36, 37, 38, 39, 40, 41, 42, 43, 44, 45, 46] (by decide +kernel) (by decide +kernel)
set_option maxRecDepth 20000 in
theorem gX1_leftOver_X1_findLatest : GoodIn wsX1_leftOver (wsV RX1 68 RX1 yX1_findLatest wsX1_findLatest) := goodIn_app (goodIn_of _ (by decide +kernel)) ggX1_leftOver_X1_findLatest
set_option maxRecDepth 20000 in
theorem ggX1_leftOver_X1_sizeOf : GoodIn wsX1_leftOver wsX1_sizeOf := goodIn_r _ [33, 10, 11, 16, 17, 7, 18, 34, 35, 36, 37, 38, 39, 40, 41, 42, 43, 44, 45, 46] (by decide +kernel) (by decide +kernel)
set_option maxRecDepth 20000 in
theorem gX1_leftOver_X1_sizeOf : GoodIn wsX1_leftOver (wsV RX1 80 RX1 yX1_sizeOf wsX1_sizeOf) := goodIn_app (goodIn_of _ (by decide +kernel)) ggX1_leftOver_X1_sizeOf
theorem dX1_leftOver_0 : decode cX1_leftOver 0 = .ok (.aload_n 0, 1) := by decide +kernel
theorem dX1_leftOver_1 : decode cX1_leftOver 1 = .ok (.iload_n 2, 1) := by decide +kernel
theorem dX1_leftOver_2 : decode cX1_leftOver 2 = .ok (.invokevirtual 68, 3) := by decide +kernel
theorem dX1_leftOver_5 : decode cX1_leftOver 5 = .ok (.aload_n 0, 1) := by decide +kernel
theorem dX1_leftOver_6 : decode cX1_leftOver 6 = .ok (.getfield 24, 3) := by decide +kernel
theorem dX1_leftOver_9 : decode cX1_leftOver 9 = .ok (.iload_n 1, 1) := by decide +kernel
theorem dX1_leftOver_10 : decode cX1_leftOver 10 = .ok (.iaload, 1) := by decide +kernel
theorem dX1_leftOver_11 : decode cX1_leftOver 11 = .ok (.istore_n 3, 1) := by decide +kernel
theorem dX1_leftOver_12 : decode cX1_leftOver 12 = .ok (.aload_n 0, 1) := by decide +kernel
theorem dX1_leftOver_13 : decode cX1_leftOver 13 = .ok (.getfield 37, 3) := by decide +kernel
theorem dX1_leftOver_16 : decode cX1_leftOver 16 = .ok (.iload_n 3, 1) := by decide +kernel
theorem dX1_leftOver_17 : decode cX1_leftOver 17 = .ok (.iaload, 1) := by decide +kernel
theorem dX1_leftOver_18 : decode cX1_leftOver 18 = .ok (.iconst (-1), 1) := by decide +kernel
theorem dX1_leftOver_19 : decode cX1_leftOver 19 = .ok (.if_icmp .eq 18, 3) := by decide +kernel
theorem dX1_leftOver_22 : decode cX1_leftOver 22 = .ok (.aload_n 0, 1) := by decide +kernel
theorem dX1_leftOver_23 : decode cX1_leftOver 23 = .ok (.iload_n 2, 1) := by decide +kernel
theorem dX1_leftOver_24 : decode cX1_leftOver 24 = .ok (.invokevirtual 80, 3) := by decide +kernel
theorem dX1_leftOver_27 : decode cX1_leftOver 27 = .ok (.aload_n 0, 1) := by decide +kernel
theorem dX1_leftOver_28 : decode cX1_leftOver 28 = .ok (.getfield 27, 3) := by decide +kernel
theorem dX1_leftOver_31 : decode cX1_leftOver 31 = .ok (.iload_n 3, 1) := by decide +kernel
theorem dX1_leftOver_32 : decode cX1_leftOver 32 = .ok (.iaload, 1) := by decide +kernel
theorem dX1_leftOver_33 : decode cX1_leftOver 33 = .ok (.isub, 1) := by decide +kernel
theorem dX1_leftOver_34 : decode cX1_leftOver 34 = .ok (.goto 4, 3) := by decide +kernel
theorem dX1_leftOver_37 : decode cX1_leftOver 37 = .ok (.iconst 0, 1) := by decide +kernel
theorem dX1_leftOver_38 : decode cX1_leftOver 38 = .ok (.ireturn, 1) := by decide +kernel
set_option maxRecDepth 20000 in
theorem ggX1_firstUnfit_X1_isLookedAt : GoodIn wsX1_firstUnfit wsX1_isLookedAt := goodIn_r _ [5, 6, 48, 49, 50, 51, 52, 53, 54, 55, 56, 57, 58, 59, 60] (by decide +kernel) (by decide +kernel)
set_option maxRecDepth 20000 in
theorem gX1_firstUnfit_X1_isLookedAt : GoodIn wsX1_firstUnfit (wsV RX1 84 RX1 yX1_isLookedAt wsX1_isLookedAt) := goodIn_app (goodIn_of _ (by decide +kernel)) ggX1_firstUnfit_X1_isLookedAt
set_option maxRecDepth 20000 in
theorem ggX1_firstUnfit_X1_standing : GoodIn wsX1_firstUnfit wsX1_standing := goodIn_r _ [10, 11, 12, 48, 49, 50, 51, 52, 53, 54, 55, 56, 57, 58, 59, 60] (by decide +kernel) (by decide +kernel)
set_option maxRecDepth 20000 in
theorem gX1_firstUnfit_X1_standing : GoodIn wsX1_firstUnfit (wsV RX1 87 RX1 yX1_standing wsX1_standing) := goodIn_app (goodIn_of _ (by decide +kernel)) ggX1_firstUnfit_X1_standing
set_option maxRecDepth 20000 in
theorem ggX1_firstUnfit_X1_firstUnfitHour : GoodIn wsX1_firstUnfit wsX1_firstUnfitHour := goodIn_r _ [16, 17, 18, 19, 4, 20, 21, 22, 23, 24, 25, 26, 27, 6, 28, 29, 30, 31, 32, 33, 34, 35, 36, 37, 38, 39, 40, 41, 42, 43, 44, 45, 46, 47, 48, 49, 50, 51, 52, 53, 54, 55, 56, 57, 58, 59, 60] (by decide +kernel) (by decide +kernel)
set_option maxRecDepth 20000 in
theorem gX1_firstUnfit_X1_firstUnfitHour : GoodIn wsX1_firstUnfit (wsV RX1 90 RX1 yX1_firstUnfitHour wsX1_firstUnfitHour) := goodIn_app (goodIn_of _ (by decide +kernel)) ggX1_firstUnfit_X1_firstUnfitHour
theorem dX1_firstUnfit_0 : decode cX1_firstUnfit 0 = .ok (.bipush 24, 2) := by decide +kernel
theorem dX1_firstUnfit_2 : decode cX1_firstUnfit 2 = .ok (.istore_n 2, 1) := by decide +kernel
theorem dX1_firstUnfit_3 : decode cX1_firstUnfit 3 = .ok (.iconst 0, 1) := by decide +kernel
theorem dX1_firstUnfit_4 : decode cX1_firstUnfit 4 = .ok (.istore_n 3, 1) := by decide +kernel
theorem dX1_firstUnfit_5 : decode cX1_firstUnfit 5 = .ok (.iconst 0, 1) := by decide +kernel
theorem dX1_firstUnfit_6 : decode cX1_firstUnfit 6 = .ok (.istore 4, 2) := by decide +kernel
theorem dX1_firstUnfit_8 : decode cX1_firstUnfit 8 = .ok (.iload 4, 2) := by decide +kernel
theorem dX1_firstUnfit_10 : decode cX1_firstUnfit 10 = .ok (.bipush 17, 2) := by decide +kernel
theorem dX1_firstUnfit_12 : decode cX1_firstUnfit 12 = .ok (.if_icmp .ge 52, 3) := by decide +kernel
theorem dX1_firstUnfit_15 : decode cX1_firstUnfit 15 = .ok (.iload_n 2, 1) := by decide +kernel
theorem dX1_firstUnfit_16 : decode cX1_firstUnfit 16 = .ok (.ifCond .le 48, 3) := by decide +kernel
theorem dX1_firstUnfit_19 : decode cX1_firstUnfit 19 = .ok (.aload_n 0, 1) := by decide +kernel
theorem dX1_firstUnfit_20 : decode cX1_firstUnfit 20 = .ok (.iload 4, 2) := by decide +kernel
theorem dX1_firstUnfit_22 : decode cX1_firstUnfit 22 = .ok (.iload_n 1, 1) := by decide +kernel
theorem dX1_firstUnfit_23 : decode cX1_firstUnfit 23 = .ok (.invokevirtual 84, 3) := by decide +kernel
theorem dX1_firstUnfit_26 : decode cX1_firstUnfit 26 = .ok (.ifCond .eq 32, 3) := by decide +kernel
theorem dX1_firstUnfit_29 : decode cX1_firstUnfit 29 = .ok (.aload_n 0, 1) := by decide +kernel
theorem dX1_firstUnfit_30 : decode cX1_firstUnfit 30 = .ok (.aload_n 0, 1) := by decide +kernel
theorem dX1_firstUnfit_31 : decode cX1_firstUnfit 31 = .ok (.iload 4, 2) := by decide +kernel
theorem dX1_firstUnfit_33 : decode cX1_firstUnfit 33 = .ok (.invokevirtual 87, 3) := by decide +kernel
theorem dX1_firstUnfit_36 : decode cX1_firstUnfit 36 = .ok (.iload_n 2, 1) := by decide +kernel
theorem dX1_firstUnfit_37 : decode cX1_firstUnfit 37 = .ok (.invokevirtual 90, 3) := by decide +kernel
theorem dX1_firstUnfit_40 : decode cX1_firstUnfit 40 = .ok (.istore 5, 2) := by decide +kernel
theorem dX1_firstUnfit_42 : decode cX1_firstUnfit 42 = .ok (.iload 5, 2) := by decide +kernel
theorem dX1_firstUnfit_44 : decode cX1_firstUnfit 44 = .ok (.iload_n 2, 1) := by decide +kernel
theorem dX1_firstUnfit_45 : decode cX1_firstUnfit 45 = .ok (.if_icmp .ge 8, 3) := by decide +kernel
theorem dX1_firstUnfit_48 : decode cX1_firstUnfit 48 = .ok (.iload 4, 2) := by decide +kernel
theorem dX1_firstUnfit_50 : decode cX1_firstUnfit 50 = .ok (.goto 4, 3) := by decide +kernel
theorem dX1_firstUnfit_53 : decode cX1_firstUnfit 53 = .ok (.iload_n 3, 1) := by decide +kernel
theorem dX1_firstUnfit_54 : decode cX1_firstUnfit 54 = .ok (.istore_n 3, 1) := by decide +kernel
theorem dX1_firstUnfit_55 : decode cX1_firstUnfit 55 = .ok (.iload 5, 2) := by decide +kernel
theorem dX1_firstUnfit_57 : decode cX1_firstUnfit 57 = .ok (.istore_n 2, 1) := by decide +kernel
theorem dX1_firstUnfit_58 : decode cX1_firstUnfit 58 = .ok (.iinc 4 1, 3) := by decide +kernel
theorem dX1_firstUnfit_61 : decode cX1_firstUnfit 61 = .ok (.goto (-53), 3) := by decide +kernel
theorem dX1_firstUnfit_64 : decode cX1_firstUnfit 64 = .ok (.iload_n 2, 1) := by decide +kernel
theorem dX1_firstUnfit_65 : decode cX1_firstUnfit 65 = .ok (.bipush 24, 2) := by decide +kernel
theorem dX1_firstUnfit_67 : decode cX1_firstUnfit 67 = .ok (.if_icmp .ne 8, 3) := by decide +kernel
theorem dX1_firstUnfit_70 : decode cX1_firstUnfit 70 = .ok (.bipush (-2), 2) := by decide +kernel
theorem dX1_firstUnfit_72 : decode cX1_firstUnfit 72 = .ok (.goto 9, 3) := by decide +kernel
theorem dX1_firstUnfit_75 : decode cX1_firstUnfit 75 = .ok (.bipush 100, 2) := by decide +kernel
theorem dX1_firstUnfit_77 : decode cX1_firstUnfit 77 = .ok (.iload_n 2, 1) := by decide +kernel
theorem dX1_firstUnfit_78 : decode cX1_firstUnfit 78 = .ok (.imul, 1) := by decide +kernel
theorem dX1_firstUnfit_79 : decode cX1_firstUnfit 79 = .ok (.iload_n 3, 1) := by decide +kernel
theorem dX1_firstUnfit_80 : decode cX1_firstUnfit 80 = .ok (.iadd, 1) := by decide +kernel
theorem dX1_firstUnfit_81 : decode cX1_firstUnfit 81 = .ok (.ireturn, 1) := by decide +kernel
theorem dX1_isLookedAt_0 : decode cX1_isLookedAt 0 = .ok (.iload_n 1, 1) := by decide +kernel
theorem dX1_isLookedAt_1 : decode cX1_isLookedAt 1 = .ok (.bipush 12, 2) := by decide +kernel
theorem dX1_isLookedAt_3 : decode cX1_isLookedAt 3 = .ok (.if_icmp .le 14, 3) := by decide +kernel
theorem dX1_isLookedAt_6 : decode cX1_isLookedAt 6 = .ok (.iload_n 2, 1) := by decide +kernel
theorem dX1_isLookedAt_7 : decode cX1_isLookedAt 7 = .ok (.iconst 2, 1) := by decide +kernel
theorem dX1_isLookedAt_8 : decode cX1_isLookedAt 8 = .ok (.if_icmp .ne 7, 3) := by decide +kernel
theorem dX1_isLookedAt_11 : decode cX1_isLookedAt 11 = .ok (.iconst 1, 1) := by decide +kernel
theorem dX1_isLookedAt_12 : decode cX1_isLookedAt 12 = .ok (.goto 4, 3) := by decide +kernel
theorem dX1_isLookedAt_15 : decode cX1_isLookedAt 15 = .ok (.iconst 0, 1) := by decide +kernel
theorem dX1_isLookedAt_16 : decode cX1_isLookedAt 16 = .ok (.ireturn, 1) := by decide +kernel
theorem dX1_isLookedAt_17 : decode cX1_isLookedAt 17 = .ok (.iload_n 1, 1) := by decide +kernel
theorem dX1_isLookedAt_18 : decode cX1_isLookedAt 18 = .ok (.ifCond .eq 15, 3) := by decide +kernel
theorem dX1_isLookedAt_21 : decode cX1_isLookedAt 21 = .ok (.iload_n 2, 1) := by decide +kernel
theorem dX1_isLookedAt_22 : decode cX1_isLookedAt 22 = .ok (.ifCond .le 15, 3) := by decide +kernel
theorem dX1_isLookedAt_25 : decode cX1_isLookedAt 25 = .ok (.iload_n 1, 1) := by decide +kernel
theorem dX1_isLookedAt_26 : decode cX1_isLookedAt 26 = .ok (.aload_n 0, 1) := by decide +kernel
theorem dX1_isLookedAt_27 : decode cX1_isLookedAt 27 = .ok (.getfield 48, 3) := by decide +kernel
theorem dX1_isLookedAt_30 : decode cX1_isLookedAt 30 = .ok (.if_icmp .gt 7, 3) := by decide +kernel
theorem dX1_isLookedAt_33 : decode cX1_isLookedAt 33 = .ok (.iconst 1, 1) := by decide +kernel
theorem dX1_isLookedAt_34 : decode cX1_isLookedAt 34 = .ok (.goto 4, 3) := by decide +kernel
theorem dX1_isLookedAt_37 : decode cX1_isLookedAt 37 = .ok (.iconst 0, 1) := by decide +kernel
theorem dX1_isLookedAt_38 : decode cX1_isLookedAt 38 = .ok (.ireturn, 1) := by decide +kernel
set_option maxRecDepth 20000 in
theorem ggX1_firstUnfitHour_X1_holds : GoodIn wsX1_firstUnfitHour wsX1_holds := goodIn_r _ [5, 6, 7, 8, 9, 10, 4, 11, 12, 13, 14, 15, 16, 17, 18, 19, 20, 21, 22, 23, 24, 25, 26, 27, 28, 29, 30, 31, 32, 33, 34, 35, 36, 37, 38, 39, 40, 41, 42, 43, 44, 45, 46] (by decide +kernel) (by decide +kernel)
set_option maxRecDepth 20000 in
theorem gX1_firstUnfitHour_X1_holds : GoodIn wsX1_firstUnfitHour (wsV RX1 93 RX1 yX1_holds wsX1_holds) := goodIn_app (goodIn_of _ (by decide +kernel)) ggX1_firstUnfitHour_X1_holds
theorem dX1_firstUnfitHour_0 : decode cX1_firstUnfitHour 0 = .ok (.iconst 0, 1) := by decide +kernel
theorem dX1_firstUnfitHour_1 : decode cX1_firstUnfitHour 1 = .ok (.istore_n 3, 1) := by decide +kernel
theorem dX1_firstUnfitHour_2 : decode cX1_firstUnfitHour 2 = .ok (.iload_n 3, 1) := by decide +kernel
theorem dX1_firstUnfitHour_3 : decode cX1_firstUnfitHour 3 = .ok (.iload_n 2, 1) := by decide +kernel
theorem dX1_firstUnfitHour_4 : decode cX1_firstUnfitHour 4 = .ok (.if_icmp .ge 20, 3) := by decide +kernel
theorem dX1_firstUnfitHour_7 : decode cX1_firstUnfitHour 7 = .ok (.aload_n 0, 1) := by decide +kernel
theorem dX1_firstUnfitHour_8 : decode cX1_firstUnfitHour 8 = .ok (.iload_n 3, 1) := by decide +kernel
theorem dX1_firstUnfitHour_9 : decode cX1_firstUnfitHour 9 = .ok (.iload_n 1, 1) := by decide +kernel
theorem dX1_firstUnfitHour_10 : decode cX1_firstUnfitHour 10 = .ok (.invokevirtual 93, 3) := by decide +kernel
theorem dX1_firstUnfitHour_13 : decode cX1_firstUnfitHour 13 = .ok (.ifCond .ne 5, 3) := by decide +kernel
theorem dX1_firstUnfitHour_16 : decode cX1_firstUnfitHour 16 = .ok (.iload_n 3, 1) := by decide +kernel
theorem dX1_firstUnfitHour_17 : decode cX1_firstUnfitHour 17 = .ok (.ireturn, 1) := by decide +kernel
theorem dX1_firstUnfitHour_18 : decode cX1_firstUnfitHour 18 = .ok (.iinc 3 1, 3) := by decide +kernel
theorem dX1_firstUnfitHour_21 : decode cX1_firstUnfitHour 21 = .ok (.goto (-19), 3) := by decide +kernel
theorem dX1_firstUnfitHour_24 : decode cX1_firstUnfitHour 24 = .ok (.iload_n 2, 1) := by decide +kernel
theorem dX1_firstUnfitHour_25 : decode cX1_firstUnfitHour 25 = .ok (.ireturn, 1) := by decide +kernel
theorem dX1_markAsked_0 : decode cX1_markAsked 0 = .ok (.iload_n 1, 1) := by decide +kernel
theorem dX1_markAsked_1 : decode cX1_markAsked 1 = .ok (.istore_n 2, 1) := by decide +kernel
theorem dX1_markAsked_2 : decode cX1_markAsked 2 = .ok (.iload_n 2, 1) := by decide +kernel
theorem dX1_markAsked_3 : decode cX1_markAsked 3 = .ok (.ifCond .le 19, 3) := by decide +kernel
theorem dX1_markAsked_6 : decode cX1_markAsked 6 = .ok (.aload_n 0, 1) := by decide +kernel
theorem dX1_markAsked_7 : decode cX1_markAsked 7 = .ok (.getfield 34, 3) := by decide +kernel
theorem dX1_markAsked_10 : decode cX1_markAsked 10 = .ok (.iload_n 2, 1) := by decide +kernel
theorem dX1_markAsked_11 : decode cX1_markAsked 11 = .ok (.iconst 1, 1) := by decide +kernel
theorem dX1_markAsked_12 : decode cX1_markAsked 12 = .ok (.bastore, 1) := by decide +kernel
theorem dX1_markAsked_13 : decode cX1_markAsked 13 = .ok (.iload_n 2, 1) := by decide +kernel
theorem dX1_markAsked_14 : decode cX1_markAsked 14 = .ok (.iconst 1, 1) := by decide +kernel
theorem dX1_markAsked_15 : decode cX1_markAsked 15 = .ok (.isub, 1) := by decide +kernel
theorem dX1_markAsked_16 : decode cX1_markAsked 16 = .ok (.iload_n 1, 1) := by decide +kernel
theorem dX1_markAsked_17 : decode cX1_markAsked 17 = .ok (.iand, 1) := by decide +kernel
theorem dX1_markAsked_18 : decode cX1_markAsked 18 = .ok (.istore_n 2, 1) := by decide +kernel
theorem dX1_markAsked_19 : decode cX1_markAsked 19 = .ok (.goto (-17), 3) := by decide +kernel
theorem dX1_markAsked_22 : decode cX1_markAsked 22 = .ok (.return_, 1) := by decide +kernel
theorem dX1_tally_0 : decode cX1_tally 0 = .ok (.aload_n 0, 1) := by decide +kernel
theorem dX1_tally_1 : decode cX1_tally 1 = .ok (.iconst (-1), 1) := by decide +kernel
theorem dX1_tally_2 : decode cX1_tally 2 = .ok (.putfield 40, 3) := by decide +kernel
theorem dX1_tally_5 : decode cX1_tally 5 = .ok (.iconst 0, 1) := by decide +kernel
theorem dX1_tally_6 : decode cX1_tally 6 = .ok (.istore_n 1, 1) := by decide +kernel
theorem dX1_tally_7 : decode cX1_tally 7 = .ok (.iload_n 1, 1) := by decide +kernel
theorem dX1_tally_8 : decode cX1_tally 8 = .ok (.aload_n 0, 1) := by decide +kernel
theorem dX1_tally_9 : decode cX1_tally 9 = .ok (.getfield 51, 3) := by decide +kernel
theorem dX1_tally_12 : decode cX1_tally 12 = .ok (.if_icmp .ge 80, 3) := by decide +kernel
theorem dX1_tally_15 : decode cX1_tally 15 = .ok (.iconst 1, 1) := by decide +kernel
theorem dX1_tally_16 : decode cX1_tally 16 = .ok (.iload_n 1, 1) := by decide +kernel
theorem dX1_tally_17 : decode cX1_tally 17 = .ok (.ishl, 1) := by decide +kernel
theorem dX1_tally_18 : decode cX1_tally 18 = .ok (.istore_n 2, 1) := by decide +kernel
theorem dX1_tally_19 : decode cX1_tally 19 = .ok (.iconst 0, 1) := by decide +kernel
theorem dX1_tally_20 : decode cX1_tally 20 = .ok (.istore_n 3, 1) := by decide +kernel
theorem dX1_tally_21 : decode cX1_tally 21 = .ok (.iload_n 3, 1) := by decide +kernel
theorem dX1_tally_22 : decode cX1_tally 22 = .ok (.iload_n 2, 1) := by decide +kernel
theorem dX1_tally_23 : decode cX1_tally 23 = .ok (.if_icmp .ge 63, 3) := by decide +kernel
theorem dX1_tally_26 : decode cX1_tally 26 = .ok (.aload_n 0, 1) := by decide +kernel
theorem dX1_tally_27 : decode cX1_tally 27 = .ok (.getfield 27, 3) := by decide +kernel
theorem dX1_tally_30 : decode cX1_tally 30 = .ok (.iload_n 2, 1) := by decide +kernel
theorem dX1_tally_31 : decode cX1_tally 31 = .ok (.iload_n 3, 1) := by decide +kernel
theorem dX1_tally_32 : decode cX1_tally 32 = .ok (.ior, 1) := by decide +kernel
theorem dX1_tally_33 : decode cX1_tally 33 = .ok (.aload_n 0, 1) := by decide +kernel
theorem dX1_tally_34 : decode cX1_tally 34 = .ok (.getfield 27, 3) := by decide +kernel
theorem dX1_tally_37 : decode cX1_tally 37 = .ok (.iload_n 3, 1) := by decide +kernel
theorem dX1_tally_38 : decode cX1_tally 38 = .ok (.iaload, 1) := by decide +kernel
theorem dX1_tally_39 : decode cX1_tally 39 = .ok (.aload_n 0, 1) := by decide +kernel
theorem dX1_tally_40 : decode cX1_tally 40 = .ok (.getfield 18, 3) := by decide +kernel
theorem dX1_tally_43 : decode cX1_tally 43 = .ok (.iload_n 1, 1) := by decide +kernel
theorem dX1_tally_44 : decode cX1_tally 44 = .ok (.iaload, 1) := by decide +kernel
theorem dX1_tally_45 : decode cX1_tally 45 = .ok (.iadd, 1) := by decide +kernel
theorem dX1_tally_46 : decode cX1_tally 46 = .ok (.iastore, 1) := by decide +kernel
theorem dX1_tally_47 : decode cX1_tally 47 = .ok (.aload_n 0, 1) := by decide +kernel
theorem dX1_tally_48 : decode cX1_tally 48 = .ok (.getfield 30, 3) := by decide +kernel
theorem dX1_tally_51 : decode cX1_tally 51 = .ok (.iload_n 2, 1) := by decide +kernel
theorem dX1_tally_52 : decode cX1_tally 52 = .ok (.iload_n 3, 1) := by decide +kernel
theorem dX1_tally_53 : decode cX1_tally 53 = .ok (.ior, 1) := by decide +kernel
theorem dX1_tally_54 : decode cX1_tally 54 = .ok (.aload_n 0, 1) := by decide +kernel
theorem dX1_tally_55 : decode cX1_tally 55 = .ok (.getfield 30, 3) := by decide +kernel
theorem dX1_tally_58 : decode cX1_tally 58 = .ok (.iload_n 3, 1) := by decide +kernel
theorem dX1_tally_59 : decode cX1_tally 59 = .ok (.baload, 1) := by decide +kernel
theorem dX1_tally_60 : decode cX1_tally 60 = .ok (.ifCond .ne 14, 3) := by decide +kernel
theorem dX1_tally_63 : decode cX1_tally 63 = .ok (.aload_n 0, 1) := by decide +kernel
theorem dX1_tally_64 : decode cX1_tally 64 = .ok (.getfield 21, 3) := by decide +kernel
theorem dX1_tally_67 : decode cX1_tally 67 = .ok (.iload_n 1, 1) := by decide +kernel
theorem dX1_tally_68 : decode cX1_tally 68 = .ok (.iaload, 1) := by decide +kernel
theorem dX1_tally_69 : decode cX1_tally 69 = .ok (.iload_n 3, 1) := by decide +kernel
theorem dX1_tally_70 : decode cX1_tally 70 = .ok (.iand, 1) := by decide +kernel
theorem dX1_tally_71 : decode cX1_tally 71 = .ok (.ifCond .eq 7, 3) := by decide +kernel
theorem dX1_tally_74 : decode cX1_tally 74 = .ok (.iconst 1, 1) := by decide +kernel
theorem dX1_tally_75 : decode cX1_tally 75 = .ok (.goto 4, 3) := by decide +kernel
theorem dX1_tally_78 : decode cX1_tally 78 = .ok (.iconst 0, 1) := by decide +kernel
theorem dX1_tally_79 : decode cX1_tally 79 = .ok (.bastore, 1) := by decide +kernel
theorem dX1_tally_80 : decode cX1_tally 80 = .ok (.iinc 3 1, 3) := by decide +kernel
theorem dX1_tally_83 : decode cX1_tally 83 = .ok (.goto (-62), 3) := by decide +kernel
theorem dX1_tally_86 : decode cX1_tally 86 = .ok (.iinc 1 1, 3) := by decide +kernel
theorem dX1_tally_89 : decode cX1_tally 89 = .ok (.goto (-82), 3) := by decide +kernel
theorem dX1_tally_92 : decode cX1_tally 92 = .ok (.return_, 1) := by decide +kernel
set_option maxRecDepth 20000 in
theorem ggX1_findLatest_J7_fill_53178 : GoodIn wsX1_findLatest wsJ7_fill_53178 := goodIn_r _ [8] (by decide +kernel) (by decide +kernel)
set_option maxRecDepth 20000 in
theorem gX1_findLatest_J7_fill_53178 : GoodIn wsX1_findLatest (va_wsS RX1 96 yJ7_fill_53178 wsJ7_fill_53178) := goodIn_app (goodIn_of _ (by decide +kernel)) ggX1_findLatest_J7_fill_53178
set_option maxRecDepth 20000 in
theorem ggX1_findLatest_X1_has : GoodIn wsX1_findLatest wsX1_has := goodIn_r _ [12] (by decide +kernel) (by decide +kernel)
set_option maxRecDepth 20000 in
theorem gX1_findLatest_X1_has : GoodIn wsX1_findLatest (va_wsS RX1 57 yX1_has wsX1_has) := goodIn_app (goodIn_of _ (by decide +kernel)) ggX1_findLatest_X1_has
set_option maxRecDepth 20000 in
theorem ggX1_findLatest_X1_findWith : GoodIn wsX1_findLatest wsX1_findWith := goodIn_r _ [16, 17, 2, 18, 19, 20, 21, 22, 11, 23, 4, 24, 25, 26, 27, 28, 29, 30, 31, 32, 33, 34, 35, 36, 37] (by decide +kernel) (by decide +kernel)
set_option maxRecDepth 20000 in
theorem gX1_findLatest_X1_findWith : GoodIn wsX1_findLatest (wsV RX1 102 RX1 yX1_findWith wsX1_findWith) := goodIn_app (goodIn_of _ (by decide +kernel)) ggX1_findLatest_X1_findWith
theorem dX1_findLatest_0 : decode cX1_findLatest 0 = .ok (.aload_n 0, 1) := by decide +kernel
theorem dX1_findLatest_1 : decode cX1_findLatest 1 = .ok (.getfield 40, 3) := by decide +kernel
theorem dX1_findLatest_4 : decode cX1_findLatest 4 = .ok (.iload_n 1, 1) := by decide +kernel
theorem dX1_findLatest_5 : decode cX1_findLatest 5 = .ok (.if_icmp .ne 4, 3) := by decide +kernel
theorem dX1_findLatest_8 : decode cX1_findLatest 8 = .ok (.return_, 1) := by decide +kernel
theorem dX1_findLatest_9 : decode cX1_findLatest 9 = .ok (.aload_n 0, 1) := by decide +kernel
theorem dX1_findLatest_10 : decode cX1_findLatest 10 = .ok (.iload_n 1, 1) := by decide +kernel
theorem dX1_findLatest_11 : decode cX1_findLatest 11 = .ok (.putfield 40, 3) := by decide +kernel
theorem dX1_findLatest_14 : decode cX1_findLatest 14 = .ok (.aload_n 0, 1) := by decide +kernel
theorem dX1_findLatest_15 : decode cX1_findLatest 15 = .ok (.getfield 37, 3) := by decide +kernel
theorem dX1_findLatest_18 : decode cX1_findLatest 18 = .ok (.iconst (-1), 1) := by decide +kernel
theorem dX1_findLatest_19 : decode cX1_findLatest 19 = .ok (.invokestatic 96, 3) := by decide +kernel
theorem dX1_findLatest_22 : decode cX1_findLatest 22 = .ok (.aload_n 0, 1) := by decide +kernel
theorem dX1_findLatest_23 : decode cX1_findLatest 23 = .ok (.getfield 37, 3) := by decide +kernel
theorem dX1_findLatest_26 : decode cX1_findLatest 26 = .ok (.iconst 0, 1) := by decide +kernel
theorem dX1_findLatest_27 : decode cX1_findLatest 27 = .ok (.bipush 12, 2) := by decide +kernel
theorem dX1_findLatest_29 : decode cX1_findLatest 29 = .ok (.iastore, 1) := by decide +kernel
theorem dX1_findLatest_30 : decode cX1_findLatest 30 = .ok (.iconst 0, 1) := by decide +kernel
theorem dX1_findLatest_31 : decode cX1_findLatest 31 = .ok (.istore_n 2, 1) := by decide +kernel
theorem dX1_findLatest_32 : decode cX1_findLatest 32 = .ok (.aload_n 0, 1) := by decide +kernel
theorem dX1_findLatest_33 : decode cX1_findLatest 33 = .ok (.getfield 48, 3) := by decide +kernel
theorem dX1_findLatest_36 : decode cX1_findLatest 36 = .ok (.iconst 1, 1) := by decide +kernel
theorem dX1_findLatest_37 : decode cX1_findLatest 37 = .ok (.isub, 1) := by decide +kernel
theorem dX1_findLatest_38 : decode cX1_findLatest 38 = .ok (.istore_n 3, 1) := by decide +kernel
theorem dX1_findLatest_39 : decode cX1_findLatest 39 = .ok (.iload_n 3, 1) := by decide +kernel
theorem dX1_findLatest_40 : decode cX1_findLatest 40 = .ok (.ifCond .lt 32, 3) := by decide +kernel
theorem dX1_findLatest_43 : decode cX1_findLatest 43 = .ok (.iload_n 1, 1) := by decide +kernel
theorem dX1_findLatest_44 : decode cX1_findLatest 44 = .ok (.iload_n 3, 1) := by decide +kernel
theorem dX1_findLatest_45 : decode cX1_findLatest 45 = .ok (.invokestatic 57, 3) := by decide +kernel
theorem dX1_findLatest_48 : decode cX1_findLatest 48 = .ok (.ifCond .eq 18, 3) := by decide +kernel
theorem dX1_findLatest_51 : decode cX1_findLatest 51 = .ok (.iload_n 2, 1) := by decide +kernel
theorem dX1_findLatest_52 : decode cX1_findLatest 52 = .ok (.aload_n 0, 1) := by decide +kernel
theorem dX1_findLatest_53 : decode cX1_findLatest 53 = .ok (.getfield 11, 3) := by decide +kernel
theorem dX1_findLatest_56 : decode cX1_findLatest 56 = .ok (.iload_n 3, 1) := by decide +kernel
theorem dX1_findLatest_57 : decode cX1_findLatest 57 = .ok (.iaload, 1) := by decide +kernel
theorem dX1_findLatest_58 : decode cX1_findLatest 58 = .ok (.iadd, 1) := by decide +kernel
theorem dX1_findLatest_59 : decode cX1_findLatest 59 = .ok (.istore_n 2, 1) := by decide +kernel
theorem dX1_findLatest_60 : decode cX1_findLatest 60 = .ok (.aload_n 0, 1) := by decide +kernel
theorem dX1_findLatest_61 : decode cX1_findLatest 61 = .ok (.iload_n 3, 1) := by decide +kernel
theorem dX1_findLatest_62 : decode cX1_findLatest 62 = .ok (.iload_n 2, 1) := by decide +kernel
theorem dX1_findLatest_63 : decode cX1_findLatest 63 = .ok (.invokevirtual 102, 3) := by decide +kernel
theorem dX1_findLatest_66 : decode cX1_findLatest 66 = .ok (.iinc 3 (-1), 3) := by decide +kernel
theorem dX1_findLatest_69 : decode cX1_findLatest 69 = .ok (.goto (-30), 3) := by decide +kernel
theorem dX1_findLatest_72 : decode cX1_findLatest 72 = .ok (.return_, 1) := by decide +kernel
set_option maxRecDepth 20000 in
theorem ggX1_findWith_X1_greatestOn : GoodIn wsX1_findWith wsX1_greatestOn := goodIn_r _ [9, 4, 10, 11, 2, 12, 13, 14, 15, 16, 17, 18, 19, 20, 21, 22, 23, 24] (by decide +kernel) (by decide +kernel)
set_option maxRecDepth 20000 in
theorem gX1_findWith_X1_greatestOn : GoodIn wsX1_findWith (wsV RX1 71 RX1 yX1_greatestOn wsX1_greatestOn) := goodIn_app (goodIn_of _ (by decide +kernel)) ggX1_findWith_X1_greatestOn
theorem dX1_findWith_0 : decode cX1_findWith 0 = .ok (.iconst 1, 1) := by decide +kernel
theorem dX1_findWith_1 : decode cX1_findWith 1 = .ok (.istore_n 3, 1) := by decide +kernel
theorem dX1_findWith_2 : decode cX1_findWith 2 = .ok (.iload_n 3, 1) := by decide +kernel
theorem dX1_findWith_3 : decode cX1_findWith 3 = .ok (.iconst 1, 1) := by decide +kernel
theorem dX1_findWith_4 : decode cX1_findWith 4 = .ok (.aload_n 0, 1) := by decide +kernel
theorem dX1_findWith_5 : decode cX1_findWith 5 = .ok (.getfield 51, 3) := by decide +kernel
theorem dX1_findWith_8 : decode cX1_findWith 8 = .ok (.ishl, 1) := by decide +kernel
theorem dX1_findWith_9 : decode cX1_findWith 9 = .ok (.if_icmp .ge 54, 3) := by decide +kernel
theorem dX1_findWith_12 : decode cX1_findWith 12 = .ok (.aload_n 0, 1) := by decide +kernel
theorem dX1_findWith_13 : decode cX1_findWith 13 = .ok (.getfield 37, 3) := by decide +kernel
theorem dX1_findWith_16 : decode cX1_findWith 16 = .ok (.iload_n 3, 1) := by decide +kernel
theorem dX1_findWith_17 : decode cX1_findWith 17 = .ok (.iaload, 1) := by decide +kernel
theorem dX1_findWith_18 : decode cX1_findWith 18 = .ok (.iconst (-1), 1) := by decide +kernel
theorem dX1_findWith_19 : decode cX1_findWith 19 = .ok (.if_icmp .ne 38, 3) := by decide +kernel
theorem dX1_findWith_22 : decode cX1_findWith 22 = .ok (.aload_n 0, 1) := by decide +kernel
theorem dX1_findWith_23 : decode cX1_findWith 23 = .ok (.getfield 34, 3) := by decide +kernel
theorem dX1_findWith_26 : decode cX1_findWith 26 = .ok (.iload_n 3, 1) := by decide +kernel
theorem dX1_findWith_27 : decode cX1_findWith 27 = .ok (.baload, 1) := by decide +kernel
theorem dX1_findWith_28 : decode cX1_findWith 28 = .ok (.ifCond .eq 29, 3) := by decide +kernel
theorem dX1_findWith_31 : decode cX1_findWith 31 = .ok (.aload_n 0, 1) := by decide +kernel
theorem dX1_findWith_32 : decode cX1_findWith 32 = .ok (.getfield 27, 3) := by decide +kernel
theorem dX1_findWith_35 : decode cX1_findWith 35 = .ok (.iload_n 3, 1) := by decide +kernel
theorem dX1_findWith_36 : decode cX1_findWith 36 = .ok (.iaload, 1) := by decide +kernel
theorem dX1_findWith_37 : decode cX1_findWith 37 = .ok (.iload_n 2, 1) := by decide +kernel
theorem dX1_findWith_38 : decode cX1_findWith 38 = .ok (.if_icmp .gt 19, 3) := by decide +kernel
theorem dX1_findWith_41 : decode cX1_findWith 41 = .ok (.aload_n 0, 1) := by decide +kernel
theorem dX1_findWith_42 : decode cX1_findWith 42 = .ok (.iload_n 1, 1) := by decide +kernel
theorem dX1_findWith_43 : decode cX1_findWith 43 = .ok (.iload_n 3, 1) := by decide +kernel
theorem dX1_findWith_44 : decode cX1_findWith 44 = .ok (.invokevirtual 71, 3) := by decide +kernel
theorem dX1_findWith_47 : decode cX1_findWith 47 = .ok (.ifCond .le 10, 3) := by decide +kernel
theorem dX1_findWith_50 : decode cX1_findWith 50 = .ok (.aload_n 0, 1) := by decide +kernel
theorem dX1_findWith_51 : decode cX1_findWith 51 = .ok (.getfield 37, 3) := by decide +kernel
theorem dX1_findWith_54 : decode cX1_findWith 54 = .ok (.iload_n 3, 1) := by decide +kernel
theorem dX1_findWith_55 : decode cX1_findWith 55 = .ok (.iload_n 1, 1) := by decide +kernel
theorem dX1_findWith_56 : decode cX1_findWith 56 = .ok (.iastore, 1) := by decide +kernel
theorem dX1_findWith_57 : decode cX1_findWith 57 = .ok (.iinc 3 1, 3) := by decide +kernel
theorem dX1_findWith_60 : decode cX1_findWith 60 = .ok (.goto (-58), 3) := by decide +kernel
theorem dX1_findWith_63 : decode cX1_findWith 63 = .ok (.return_, 1) := by decide +kernel
theorem dX1_greatestOn_0 : decode cX1_greatestOn 0 = .ok (.iload_n 2, 1) := by decide +kernel
theorem dX1_greatestOn_1 : decode cX1_greatestOn 1 = .ok (.istore_n 3, 1) := by decide +kernel
theorem dX1_greatestOn_2 : decode cX1_greatestOn 2 = .ok (.iload_n 3, 1) := by decide +kernel
theorem dX1_greatestOn_3 : decode cX1_greatestOn 3 = .ok (.ifCond .le 50, 3) := by decide +kernel
theorem dX1_greatestOn_6 : decode cX1_greatestOn 6 = .ok (.aload_n 0, 1) := by decide +kernel
theorem dX1_greatestOn_7 : decode cX1_greatestOn 7 = .ok (.getfield 27, 3) := by decide +kernel
theorem dX1_greatestOn_10 : decode cX1_greatestOn 10 = .ok (.iload_n 3, 1) := by decide +kernel
theorem dX1_greatestOn_11 : decode cX1_greatestOn 11 = .ok (.iaload, 1) := by decide +kernel
theorem dX1_greatestOn_12 : decode cX1_greatestOn 12 = .ok (.aload_n 0, 1) := by decide +kernel
theorem dX1_greatestOn_13 : decode cX1_greatestOn 13 = .ok (.getfield 11, 3) := by decide +kernel
theorem dX1_greatestOn_16 : decode cX1_greatestOn 16 = .ok (.iload_n 1, 1) := by decide +kernel
theorem dX1_greatestOn_17 : decode cX1_greatestOn 17 = .ok (.iaload, 1) := by decide +kernel
theorem dX1_greatestOn_18 : decode cX1_greatestOn 18 = .ok (.if_icmp .gt 26, 3) := by decide +kernel
theorem dX1_greatestOn_21 : decode cX1_greatestOn 21 = .ok (.aload_n 0, 1) := by decide +kernel
theorem dX1_greatestOn_22 : decode cX1_greatestOn 22 = .ok (.getfield 30, 3) := by decide +kernel
theorem dX1_greatestOn_25 : decode cX1_greatestOn 25 = .ok (.iload_n 3, 1) := by decide +kernel
theorem dX1_greatestOn_26 : decode cX1_greatestOn 26 = .ok (.baload, 1) := by decide +kernel
theorem dX1_greatestOn_27 : decode cX1_greatestOn 27 = .ok (.ifCond .ne 17, 3) := by decide +kernel
theorem dX1_greatestOn_30 : decode cX1_greatestOn 30 = .ok (.aload_n 0, 1) := by decide +kernel
theorem dX1_greatestOn_31 : decode cX1_greatestOn 31 = .ok (.getfield 37, 3) := by decide +kernel
theorem dX1_greatestOn_34 : decode cX1_greatestOn 34 = .ok (.iload_n 2, 1) := by decide +kernel
theorem dX1_greatestOn_35 : decode cX1_greatestOn 35 = .ok (.iload_n 3, 1) := by decide +kernel
theorem dX1_greatestOn_36 : decode cX1_greatestOn 36 = .ok (.ixor, 1) := by decide +kernel
theorem dX1_greatestOn_37 : decode cX1_greatestOn 37 = .ok (.iaload, 1) := by decide +kernel
theorem dX1_greatestOn_38 : decode cX1_greatestOn 38 = .ok (.iload_n 1, 1) := by decide +kernel
theorem dX1_greatestOn_39 : decode cX1_greatestOn 39 = .ok (.if_icmp .le 5, 3) := by decide +kernel
theorem dX1_greatestOn_42 : decode cX1_greatestOn 42 = .ok (.iload_n 3, 1) := by decide +kernel
theorem dX1_greatestOn_43 : decode cX1_greatestOn 43 = .ok (.ireturn, 1) := by decide +kernel
theorem dX1_greatestOn_44 : decode cX1_greatestOn 44 = .ok (.iload_n 3, 1) := by decide +kernel
theorem dX1_greatestOn_45 : decode cX1_greatestOn 45 = .ok (.iconst 1, 1) := by decide +kernel
theorem dX1_greatestOn_46 : decode cX1_greatestOn 46 = .ok (.isub, 1) := by decide +kernel
theorem dX1_greatestOn_47 : decode cX1_greatestOn 47 = .ok (.iload_n 2, 1) := by decide +kernel
theorem dX1_greatestOn_48 : decode cX1_greatestOn 48 = .ok (.iand, 1) := by decide +kernel
theorem dX1_greatestOn_49 : decode cX1_greatestOn 49 = .ok (.istore_n 3, 1) := by decide +kernel
theorem dX1_greatestOn_50 : decode cX1_greatestOn 50 = .ok (.goto (-48), 3) := by decide +kernel
theorem dX1_greatestOn_53 : decode cX1_greatestOn 53 = .ok (.iconst 0, 1) := by decide +kernel
theorem dX1_greatestOn_54 : decode cX1_greatestOn 54 = .ok (.ireturn, 1) := by decide +kernel
theorem dX1_has_0 : decode cX1_has 0 = .ok (.iload_n 0, 1) := by decide +kernel
theorem dX1_has_1 : decode cX1_has 1 = .ok (.iload_n 1, 1) := by decide +kernel
theorem dX1_has_2 : decode cX1_has 2 = .ok (.ishr, 1) := by decide +kernel
theorem dX1_has_3 : decode cX1_has 3 = .ok (.iconst 1, 1) := by decide +kernel
theorem dX1_has_4 : decode cX1_has 4 = .ok (.iand, 1) := by decide +kernel
theorem dX1_has_5 : decode cX1_has 5 = .ok (.ifCond .eq 7, 3) := by decide +kernel
theorem dX1_has_8 : decode cX1_has 8 = .ok (.iconst 1, 1) := by decide +kernel
theorem dX1_has_9 : decode cX1_has 9 = .ok (.goto 4, 3) := by decide +kernel
theorem dX1_has_12 : decode cX1_has 12 = .ok (.iconst 0, 1) := by decide +kernel
theorem dX1_has_13 : decode cX1_has 13 = .ok (.ireturn, 1) := by decide +kernel
theorem dX2_init_0 : decode cX2_init 0 = .ok (.aload_n 0, 1) := by decide +kernel
theorem dX2_init_1 : decode cX2_init 1 = .ok (.invokespecial 5, 3) := by decide +kernel
theorem dX2_init_4 : decode cX2_init 4 = .ok (.aload_n 0, 1) := by decide +kernel
theorem dX2_init_5 : decode cX2_init 5 = .ok (.bipush 12, 2) := by decide +kernel
theorem dX2_init_7 : decode cX2_init 7 = .ok (.iconst 4, 1) := by decide +kernel
theorem dX2_init_8 : decode cX2_init 8 = .ok (.multianewarray 11 2, 4) := by decide +kernel
theorem dX2_init_12 : decode cX2_init 12 = .ok (.putfield 13, 3) := by decide +kernel
theorem dX2_init_15 : decode cX2_init 15 = .ok (.aload_n 0, 1) := by decide +kernel
theorem dX2_init_16 : decode cX2_init 16 = .ok (.bipush 12, 2) := by decide +kernel
theorem dX2_init_18 : decode cX2_init 18 = .ok (.newarray .int, 2) := by decide +kernel
theorem dX2_init_20 : decode cX2_init 20 = .ok (.putfield 16, 3) := by decide +kernel
theorem dX2_init_23 : decode cX2_init 23 = .ok (.aload_n 0, 1) := by decide +kernel
theorem dX2_init_24 : decode cX2_init 24 = .ok (.iconst 4, 1) := by decide +kernel
theorem dX2_init_25 : decode cX2_init 25 = .ok (.newarray .int, 2) := by decide +kernel
theorem dX2_init_27 : decode cX2_init 27 = .ok (.putfield 20, 3) := by decide +kernel
theorem dX2_init_30 : decode cX2_init 30 = .ok (.aload_n 0, 1) := by decide +kernel
theorem dX2_init_31 : decode cX2_init 31 = .ok (.iconst 4, 1) := by decide +kernel
theorem dX2_init_32 : decode cX2_init 32 = .ok (.newarray .int, 2) := by decide +kernel
theorem dX2_init_34 : decode cX2_init 34 = .ok (.putfield 23, 3) := by decide +kernel
theorem dX2_init_37 : decode cX2_init 37 = .ok (.aload_n 0, 1) := by decide +kernel
theorem dX2_init_38 : decode cX2_init 38 = .ok (.iconst 4, 1) := by decide +kernel
theorem dX2_init_39 : decode cX2_init 39 = .ok (.newarray .int, 2) := by decide +kernel
theorem dX2_init_41 : decode cX2_init 41 = .ok (.putfield 26, 3) := by decide +kernel
theorem dX2_init_44 : decode cX2_init 44 = .ok (.aload_n 0, 1) := by decide +kernel
theorem dX2_init_45 : decode cX2_init 45 = .ok (.iconst 4, 1) := by decide +kernel
theorem dX2_init_46 : decode cX2_init 46 = .ok (.bipush 12, 2) := by decide +kernel
theorem dX2_init_48 : decode cX2_init 48 = .ok (.multianewarray 11 2, 4) := by decide +kernel
theorem dX2_init_52 : decode cX2_init 52 = .ok (.putfield 29, 3) := by decide +kernel
theorem dX2_init_55 : decode cX2_init 55 = .ok (.aload_n 0, 1) := by decide +kernel
theorem dX2_init_56 : decode cX2_init 56 = .ok (.sipush 501, 3) := by decide +kernel
theorem dX2_init_59 : decode cX2_init 59 = .ok (.newarray .int, 2) := by decide +kernel
theorem dX2_init_61 : decode cX2_init 61 = .ok (.putfield 32, 3) := by decide +kernel
theorem dX2_init_64 : decode cX2_init 64 = .ok (.aload_n 0, 1) := by decide +kernel
theorem dX2_init_65 : decode cX2_init 65 = .ok (.sipush 384, 3) := by decide +kernel
theorem dX2_init_68 : decode cX2_init 68 = .ok (.newarray .long, 2) := by decide +kernel
theorem dX2_init_70 : decode cX2_init 70 = .ok (.putfield 35, 3) := by decide +kernel
theorem dX2_init_73 : decode cX2_init 73 = .ok (.return_, 1) := by decide +kernel
set_option maxRecDepth 20000 in
theorem ggX2_hasType_X6_within : GoodIn wsX2_hasType wsX6_within := goodIn_r _ [4] (by decide +kernel) (by decide +kernel)
set_option maxRecDepth 20000 in
theorem gX2_hasType_X6_within_n43 : GoodIn wsX2_hasType (wsX6_within) := ggX2_hasType_X6_within
theorem dX2_hasType_0 : decode cX2_hasType 0 = .ok (.iload_n 1, 1) := by decide +kernel
theorem dX2_hasType_1 : decode cX2_hasType 1 = .ok (.i2l, 1) := by decide +kernel
theorem dX2_hasType_2 : decode cX2_hasType 2 = .ok (.iconst 0, 1) := by decide +kernel
theorem dX2_hasType_3 : decode cX2_hasType 3 = .ok (.aload_n 0, 1) := by decide +kernel
theorem dX2_hasType_4 : decode cX2_hasType 4 = .ok (.getfield 39, 3) := by decide +kernel
theorem dX2_hasType_7 : decode cX2_hasType 7 = .ok (.iconst 1, 1) := by decide +kernel
theorem dX2_hasType_8 : decode cX2_hasType 8 = .ok (.isub, 1) := by decide +kernel
theorem dX2_hasType_9 : decode cX2_hasType 9 = .ok (.invokestatic 43, 3) := by decide +kernel
theorem dX2_hasType_12 : decode cX2_hasType 12 = .ok (.ireturn, 1) := by decide +kernel
theorem dX2_isEnough_0 : decode cX2_isEnough 0 = .ok (.aload_n 0, 1) := by decide +kernel
theorem dX2_isEnough_1 : decode cX2_isEnough 1 = .ok (.getfield 47, 3) := by decide +kernel
theorem dX2_isEnough_4 : decode cX2_isEnough 4 = .ok (.ldc 50, 2) := by decide +kernel
theorem dX2_isEnough_6 : decode cX2_isEnough 6 = .ok (.if_icmp .ge 7, 3) := by decide +kernel
theorem dX2_isEnough_9 : decode cX2_isEnough 9 = .ok (.iconst 1, 1) := by decide +kernel
theorem dX2_isEnough_10 : decode cX2_isEnough 10 = .ok (.goto 4, 3) := by decide +kernel
theorem dX2_isEnough_13 : decode cX2_isEnough 13 = .ok (.iconst 0, 1) := by decide +kernel
theorem dX2_isEnough_14 : decode cX2_isEnough 14 = .ok (.ireturn, 1) := by decide +kernel
set_option maxRecDepth 20000 in
theorem ggX2_want_X4_at : GoodIn wsX2_want wsX4_at := goodIn_r _ [7, 8, 21, 22, 23] (by decide +kernel) (by decide +kernel)
set_option maxRecDepth 20000 in
theorem gX2_want_X4_at : GoodIn wsX2_want (wsV RX2 51 RX4 yX4_at wsX4_at) := goodIn_app (goodIn_of _ (by decide +kernel)) ggX2_want_X4_at
theorem dX2_want_0 : decode cX2_want 0 = .ok (.iconst 0, 1) := by decide +kernel
theorem dX2_want_1 : decode cX2_want 1 = .ok (.istore_n 3, 1) := by decide +kernel
theorem dX2_want_2 : decode cX2_want 2 = .ok (.iload_n 3, 1) := by decide +kernel
theorem dX2_want_3 : decode cX2_want 3 = .ok (.bipush 12, 2) := by decide +kernel
theorem dX2_want_5 : decode cX2_want 5 = .ok (.if_icmp .ge 22, 3) := by decide +kernel
theorem dX2_want_8 : decode cX2_want 8 = .ok (.aload_n 0, 1) := by decide +kernel
theorem dX2_want_9 : decode cX2_want 9 = .ok (.getfield 16, 3) := by decide +kernel
theorem dX2_want_12 : decode cX2_want 12 = .ok (.iload_n 3, 1) := by decide +kernel
theorem dX2_want_13 : decode cX2_want 13 = .ok (.aload_n 1, 1) := by decide +kernel
theorem dX2_want_14 : decode cX2_want 14 = .ok (.iload_n 2, 1) := by decide +kernel
theorem dX2_want_15 : decode cX2_want 15 = .ok (.iload_n 3, 1) := by decide +kernel
theorem dX2_want_16 : decode cX2_want 16 = .ok (.invokevirtual 51, 3) := by decide +kernel
theorem dX2_want_19 : decode cX2_want 19 = .ok (.l2i, 1) := by decide +kernel
theorem dX2_want_20 : decode cX2_want 20 = .ok (.iastore, 1) := by decide +kernel
theorem dX2_want_21 : decode cX2_want 21 = .ok (.iinc 3 1, 3) := by decide +kernel
theorem dX2_want_24 : decode cX2_want 24 = .ok (.goto (-22), 3) := by decide +kernel
theorem dX2_want_27 : decode cX2_want 27 = .ok (.aload_n 0, 1) := by decide +kernel
theorem dX2_want_28 : decode cX2_want 28 = .ok (.iconst 0, 1) := by decide +kernel
theorem dX2_want_29 : decode cX2_want 29 = .ok (.putfield 57, 3) := by decide +kernel
theorem dX2_want_32 : decode cX2_want 32 = .ok (.return_, 1) := by decide +kernel
theorem dX2_own_0 : decode cX2_own 0 = .ok (.aload_n 0, 1) := by decide +kernel
theorem dX2_own_1 : decode cX2_own 1 = .ok (.iload_n 1, 1) := by decide +kernel
theorem dX2_own_2 : decode cX2_own 2 = .ok (.putfield 61, 3) := by decide +kernel
theorem dX2_own_5 : decode cX2_own 5 = .ok (.aload_n 0, 1) := by decide +kernel
theorem dX2_own_6 : decode cX2_own 6 = .ok (.iconst 0, 1) := by decide +kernel
theorem dX2_own_7 : decode cX2_own 7 = .ok (.putfield 57, 3) := by decide +kernel
theorem dX2_own_10 : decode cX2_own 10 = .ok (.return_, 1) := by decide +kernel
set_option maxRecDepth 20000 in
theorem ggX2_addType_X4_at : GoodIn wsX2_addType wsX4_at := goodIn_r _ [11, 12, 25, 26, 27] (by decide +kernel) (by decide +kernel)
set_option maxRecDepth 20000 in
theorem gX2_addType_X4_at : GoodIn wsX2_addType (wsV RX2 51 RX4 yX4_at wsX4_at) := goodIn_app (goodIn_of _ (by decide +kernel)) ggX2_addType_X4_at
theorem dX2_addType_0 : decode cX2_addType 0 = .ok (.aload_n 0, 1) := by decide +kernel
theorem dX2_addType_1 : decode cX2_addType 1 = .ok (.dup, 1) := by decide +kernel
theorem dX2_addType_2 : decode cX2_addType 2 = .ok (.getfield 39, 3) := by decide +kernel
theorem dX2_addType_5 : decode cX2_addType 5 = .ok (.dup_x1, 1) := by decide +kernel
theorem dX2_addType_6 : decode cX2_addType 6 = .ok (.iconst 1, 1) := by decide +kernel
theorem dX2_addType_7 : decode cX2_addType 7 = .ok (.iadd, 1) := by decide +kernel
theorem dX2_addType_8 : decode cX2_addType 8 = .ok (.putfield 39, 3) := by decide +kernel
theorem dX2_addType_11 : decode cX2_addType 11 = .ok (.istore 6, 2) := by decide +kernel
theorem dX2_addType_13 : decode cX2_addType 13 = .ok (.aload_n 0, 1) := by decide +kernel
theorem dX2_addType_14 : decode cX2_addType 14 = .ok (.getfield 20, 3) := by decide +kernel
theorem dX2_addType_17 : decode cX2_addType 17 = .ok (.iload 6, 2) := by decide +kernel
theorem dX2_addType_19 : decode cX2_addType 19 = .ok (.iload_n 1, 1) := by decide +kernel
theorem dX2_addType_20 : decode cX2_addType 20 = .ok (.iastore, 1) := by decide +kernel
theorem dX2_addType_21 : decode cX2_addType 21 = .ok (.aload_n 0, 1) := by decide +kernel
theorem dX2_addType_22 : decode cX2_addType 22 = .ok (.getfield 23, 3) := by decide +kernel
theorem dX2_addType_25 : decode cX2_addType 25 = .ok (.iload 6, 2) := by decide +kernel
theorem dX2_addType_27 : decode cX2_addType 27 = .ok (.iload_n 2, 1) := by decide +kernel
theorem dX2_addType_28 : decode cX2_addType 28 = .ok (.iastore, 1) := by decide +kernel
theorem dX2_addType_29 : decode cX2_addType 29 = .ok (.aload_n 0, 1) := by decide +kernel
theorem dX2_addType_30 : decode cX2_addType 30 = .ok (.getfield 26, 3) := by decide +kernel
theorem dX2_addType_33 : decode cX2_addType 33 = .ok (.iload 6, 2) := by decide +kernel
theorem dX2_addType_35 : decode cX2_addType 35 = .ok (.iload_n 3, 1) := by decide +kernel
theorem dX2_addType_36 : decode cX2_addType 36 = .ok (.iastore, 1) := by decide +kernel
theorem dX2_addType_37 : decode cX2_addType 37 = .ok (.iconst 0, 1) := by decide +kernel
theorem dX2_addType_38 : decode cX2_addType 38 = .ok (.istore 7, 2) := by decide +kernel
theorem dX2_addType_40 : decode cX2_addType 40 = .ok (.iload 7, 2) := by decide +kernel
theorem dX2_addType_42 : decode cX2_addType 42 = .ok (.bipush 12, 2) := by decide +kernel
theorem dX2_addType_44 : decode cX2_addType 44 = .ok (.if_icmp .ge 29, 3) := by decide +kernel
theorem dX2_addType_47 : decode cX2_addType 47 = .ok (.aload_n 0, 1) := by decide +kernel
theorem dX2_addType_48 : decode cX2_addType 48 = .ok (.getfield 29, 3) := by decide +kernel
theorem dX2_addType_51 : decode cX2_addType 51 = .ok (.iload 6, 2) := by decide +kernel
theorem dX2_addType_53 : decode cX2_addType 53 = .ok (.aaload, 1) := by decide +kernel
theorem dX2_addType_54 : decode cX2_addType 54 = .ok (.iload 7, 2) := by decide +kernel
theorem dX2_addType_56 : decode cX2_addType 56 = .ok (.aload 4, 2) := by decide +kernel
theorem dX2_addType_58 : decode cX2_addType 58 = .ok (.iload 5, 2) := by decide +kernel
theorem dX2_addType_60 : decode cX2_addType 60 = .ok (.iload 7, 2) := by decide +kernel
theorem dX2_addType_62 : decode cX2_addType 62 = .ok (.invokevirtual 51, 3) := by decide +kernel
theorem dX2_addType_65 : decode cX2_addType 65 = .ok (.l2i, 1) := by decide +kernel
theorem dX2_addType_66 : decode cX2_addType 66 = .ok (.iastore, 1) := by decide +kernel
theorem dX2_addType_67 : decode cX2_addType 67 = .ok (.iinc 7 1, 3) := by decide +kernel
theorem dX2_addType_70 : decode cX2_addType 70 = .ok (.goto (-30), 3) := by decide +kernel
theorem dX2_addType_73 : decode cX2_addType 73 = .ok (.aload_n 0, 1) := by decide +kernel
theorem dX2_addType_74 : decode cX2_addType 74 = .ok (.iconst 0, 1) := by decide +kernel
theorem dX2_addType_75 : decode cX2_addType 75 = .ok (.putfield 57, 3) := by decide +kernel
theorem dX2_addType_78 : decode cX2_addType 78 = .ok (.iload 6, 2) := by decide +kernel
theorem dX2_addType_80 : decode cX2_addType 80 = .ok (.ireturn, 1) := by decide +kernel
set_option maxRecDepth 20000 in
theorem ggX2_solve_J7_fill_53178 : GoodIn wsX2_solve wsJ7_fill_53178 := goodIn_r _ [13] (by decide +kernel) (by decide +kernel)
set_option maxRecDepth 20000 in
theorem gX2_solve_J7_fill_53178 : GoodIn wsX2_solve (va_wsS RX2 64 yJ7_fill_53178 wsJ7_fill_53178) := goodIn_app (goodIn_of _ (by decide +kernel)) ggX2_solve_J7_fill_53178
set_option maxRecDepth 20000 in
theorem ggX2_solve_J7_fill_d0a16 : GoodIn wsX2_solve wsJ7_fill_d0a16 := goodIn_r _ [16] (by decide +kernel) (by decide +kernel)
set_option maxRecDepth 20000 in
theorem gX2_solve_J7_fill_d0a16 : GoodIn wsX2_solve (va_wsS RX2 70 yJ7_fill_d0a16 wsJ7_fill_d0a16) := goodIn_app (goodIn_of _ (by decide +kernel)) ggX2_solve_J7_fill_d0a16
set_option maxRecDepth 20000 in
theorem ggX2_solve_J7_fill_fda19 : GoodIn wsX2_solve wsJ7_fill_fda19 := goodIn_r _ [19, 20, 21, 12, 22] (by decide +kernel) (by decide +kernel)
set_option maxRecDepth 20000 in
theorem gX2_solve_J7_fill_fda19 : GoodIn wsX2_solve (va_wsS RX2 73 yJ7_fill_fda19 wsJ7_fill_fda19) := goodIn_app (goodIn_of _ (by decide +kernel)) ggX2_solve_J7_fill_fda19
set_option maxRecDepth 20000 in
theorem ggX2_solve_X2_offer : GoodIn wsX2_solve wsX2_offer := goodIn_r _ [27, 28, 7, 29, 2, 30, 31, 32, 33, 34, 3, 35, 36, 26, 37, 51, 52, 53, 54, 55, 56, 57, 58, 59, 60, 61, 62] (by decide +kernel) (by decide +kernel)
set_option maxRecDepth 20000 in
theorem gX2_solve_X2_offer : GoodIn wsX2_solve (wsV RX2 76 RX2 yX2_offer wsX2_offer) := goodIn_app (goodIn_of _ (by decide +kernel)) ggX2_solve_X2_offer
set_option maxRecDepth 20000 in
theorem ggX2_solve_X2_isEnough : GoodIn wsX2_solve wsX2_isEnough := goodIn_r _ [41, 9, 5, 51, 52, 53, 54, 55, 56, 57, 58, 59, 60, 61, 62] (by decide +kernel) (by decide +kernel)
set_option maxRecDepth 20000 in
theorem gX2_solve_X2_isEnough : GoodIn wsX2_solve (wsV RX2 80 RX2 yX2_isEnough wsX2_isEnough) := goodIn_app (goodIn_of _ (by decide +kernel)) ggX2_solve_X2_isEnough
set_option maxRecDepth 20000 in
theorem ggX2_solve_X2_choose : GoodIn wsX2_solve wsX2_choose := goodIn_r _ [45, 8, 6, 30, 31, 32, 33, 34, 46, 47, 48, 49, 26, 50, 3, 35, 36, 37, 51, 52, 53, 54, 55, 56, 57, 58, 59, 60, 61, 62] (by decide +kernel) (by decide +kernel)
set_option maxRecDepth 20000 in
theorem gX2_solve_X2_choose : GoodIn wsX2_solve (wsV RX2 84 RX2 yX2_choose wsX2_choose) := goodIn_app (goodIn_of _ (by decide +kernel)) ggX2_solve_X2_choose
theorem dX2_solve_0 : decode cX2_solve 0 = .ok (.aload_n 0, 1) := by decide +kernel
theorem dX2_solve_1 : decode cX2_solve 1 = .ok (.getfield 57, 3) := by decide +kernel
theorem dX2_solve_4 : decode cX2_solve 4 = .ok (.ifCond .eq 4, 3) := by decide +kernel
theorem dX2_solve_7 : decode cX2_solve 7 = .ok (.return_, 1) := by decide +kernel
theorem dX2_solve_8 : decode cX2_solve 8 = .ok (.aload_n 0, 1) := by decide +kernel
theorem dX2_solve_9 : decode cX2_solve 9 = .ok (.iconst 1, 1) := by decide +kernel
theorem dX2_solve_10 : decode cX2_solve 10 = .ok (.putfield 57, 3) := by decide +kernel
theorem dX2_solve_13 : decode cX2_solve 13 = .ok (.aload_n 0, 1) := by decide +kernel
theorem dX2_solve_14 : decode cX2_solve 14 = .ok (.getfield 32, 3) := by decide +kernel
theorem dX2_solve_17 : decode cX2_solve 17 = .ok (.iconst 0, 1) := by decide +kernel
theorem dX2_solve_18 : decode cX2_solve 18 = .ok (.invokestatic 64, 3) := by decide +kernel
theorem dX2_solve_21 : decode cX2_solve 21 = .ok (.aload_n 0, 1) := by decide +kernel
theorem dX2_solve_22 : decode cX2_solve 22 = .ok (.getfield 35, 3) := by decide +kernel
theorem dX2_solve_25 : decode cX2_solve 25 = .ok (.lconst 0, 1) := by decide +kernel
theorem dX2_solve_26 : decode cX2_solve 26 = .ok (.invokestatic 70, 3) := by decide +kernel
theorem dX2_solve_29 : decode cX2_solve 29 = .ok (.bipush 11, 2) := by decide +kernel
theorem dX2_solve_31 : decode cX2_solve 31 = .ok (.istore_n 1, 1) := by decide +kernel
theorem dX2_solve_32 : decode cX2_solve 32 = .ok (.iload_n 1, 1) := by decide +kernel
theorem dX2_solve_33 : decode cX2_solve 33 = .ok (.ifCond .lt 58, 3) := by decide +kernel
theorem dX2_solve_36 : decode cX2_solve 36 = .ok (.aload_n 0, 1) := by decide +kernel
theorem dX2_solve_37 : decode cX2_solve 37 = .ok (.getfield 32, 3) := by decide +kernel
theorem dX2_solve_40 : decode cX2_solve 40 = .ok (.iconst 0, 1) := by decide +kernel
theorem dX2_solve_41 : decode cX2_solve 41 = .ok (.aload_n 0, 1) := by decide +kernel
theorem dX2_solve_42 : decode cX2_solve 42 = .ok (.getfield 16, 3) := by decide +kernel
theorem dX2_solve_45 : decode cX2_solve 45 = .ok (.iload_n 1, 1) := by decide +kernel
theorem dX2_solve_46 : decode cX2_solve 46 = .ok (.iaload, 1) := by decide +kernel
theorem dX2_solve_47 : decode cX2_solve 47 = .ok (.ldc 50, 2) := by decide +kernel
theorem dX2_solve_49 : decode cX2_solve 49 = .ok (.invokestatic 73, 3) := by decide +kernel
theorem dX2_solve_52 : decode cX2_solve 52 = .ok (.aload_n 0, 1) := by decide +kernel
theorem dX2_solve_53 : decode cX2_solve 53 = .ok (.getfield 39, 3) := by decide +kernel
theorem dX2_solve_56 : decode cX2_solve 56 = .ok (.iconst 1, 1) := by decide +kernel
theorem dX2_solve_57 : decode cX2_solve 57 = .ok (.isub, 1) := by decide +kernel
theorem dX2_solve_58 : decode cX2_solve 58 = .ok (.istore_n 2, 1) := by decide +kernel
theorem dX2_solve_59 : decode cX2_solve 59 = .ok (.iload_n 2, 1) := by decide +kernel
theorem dX2_solve_60 : decode cX2_solve 60 = .ok (.ifCond .lt 25, 3) := by decide +kernel
theorem dX2_solve_63 : decode cX2_solve 63 = .ok (.aload_n 0, 1) := by decide +kernel
theorem dX2_solve_64 : decode cX2_solve 64 = .ok (.getfield 23, 3) := by decide +kernel
theorem dX2_solve_67 : decode cX2_solve 67 = .ok (.iload_n 2, 1) := by decide +kernel
theorem dX2_solve_68 : decode cX2_solve 68 = .ok (.iaload, 1) := by decide +kernel
theorem dX2_solve_69 : decode cX2_solve 69 = .ok (.iload_n 1, 1) := by decide +kernel
theorem dX2_solve_70 : decode cX2_solve 70 = .ok (.if_icmp .gt 9, 3) := by decide +kernel
theorem dX2_solve_73 : decode cX2_solve 73 = .ok (.aload_n 0, 1) := by decide +kernel
theorem dX2_solve_74 : decode cX2_solve 74 = .ok (.iload_n 1, 1) := by decide +kernel
theorem dX2_solve_75 : decode cX2_solve 75 = .ok (.iload_n 2, 1) := by decide +kernel
theorem dX2_solve_76 : decode cX2_solve 76 = .ok (.invokevirtual 76, 3) := by decide +kernel
theorem dX2_solve_79 : decode cX2_solve 79 = .ok (.iinc 2 (-1), 3) := by decide +kernel
theorem dX2_solve_82 : decode cX2_solve 82 = .ok (.goto (-23), 3) := by decide +kernel
theorem dX2_solve_85 : decode cX2_solve 85 = .ok (.iinc 1 (-1), 3) := by decide +kernel
theorem dX2_solve_88 : decode cX2_solve 88 = .ok (.goto (-56), 3) := by decide +kernel
theorem dX2_solve_91 : decode cX2_solve 91 = .ok (.aload_n 0, 1) := by decide +kernel
theorem dX2_solve_92 : decode cX2_solve 92 = .ok (.aload_n 0, 1) := by decide +kernel
theorem dX2_solve_93 : decode cX2_solve 93 = .ok (.getfield 32, 3) := by decide +kernel
theorem dX2_solve_96 : decode cX2_solve 96 = .ok (.aload_n 0, 1) := by decide +kernel
theorem dX2_solve_97 : decode cX2_solve 97 = .ok (.getfield 61, 3) := by decide +kernel
theorem dX2_solve_100 : decode cX2_solve 100 = .ok (.iaload, 1) := by decide +kernel
theorem dX2_solve_101 : decode cX2_solve 101 = .ok (.putfield 47, 3) := by decide +kernel
theorem dX2_solve_104 : decode cX2_solve 104 = .ok (.aload_n 0, 1) := by decide +kernel
theorem dX2_solve_105 : decode cX2_solve 105 = .ok (.invokevirtual 80, 3) := by decide +kernel
theorem dX2_solve_108 : decode cX2_solve 108 = .ok (.ifCond .eq 7, 3) := by decide +kernel
theorem dX2_solve_111 : decode cX2_solve 111 = .ok (.aload_n 0, 1) := by decide +kernel
theorem dX2_solve_112 : decode cX2_solve 112 = .ok (.invokevirtual 84, 3) := by decide +kernel
theorem dX2_solve_115 : decode cX2_solve 115 = .ok (.return_, 1) := by decide +kernel
set_option maxRecDepth 20000 in
theorem ggX2_offer_X2_word : GoodIn wsX2_offer wsX2_word := goodIn_r _ [14] (by decide +kernel) (by decide +kernel)
set_option maxRecDepth 20000 in
theorem gX2_offer_X2_word : GoodIn wsX2_offer (va_wsS RX2 93 yX2_word wsX2_word) := goodIn_app (goodIn_of _ (by decide +kernel)) ggX2_offer_X2_word
theorem dX2_offer_0 : decode cX2_offer 0 = .ok (.aload_n 0, 1) := by decide +kernel
theorem dX2_offer_1 : decode cX2_offer 1 = .ok (.getfield 29, 3) := by decide +kernel
theorem dX2_offer_4 : decode cX2_offer 4 = .ok (.iload_n 2, 1) := by decide +kernel
theorem dX2_offer_5 : decode cX2_offer 5 = .ok (.aaload, 1) := by decide +kernel
theorem dX2_offer_6 : decode cX2_offer 6 = .ok (.iload_n 1, 1) := by decide +kernel
theorem dX2_offer_7 : decode cX2_offer 7 = .ok (.aload_n 0, 1) := by decide +kernel
theorem dX2_offer_8 : decode cX2_offer 8 = .ok (.getfield 23, 3) := by decide +kernel
theorem dX2_offer_11 : decode cX2_offer 11 = .ok (.iload_n 2, 1) := by decide +kernel
theorem dX2_offer_12 : decode cX2_offer 12 = .ok (.iaload, 1) := by decide +kernel
theorem dX2_offer_13 : decode cX2_offer 13 = .ok (.isub, 1) := by decide +kernel
theorem dX2_offer_14 : decode cX2_offer 14 = .ok (.iaload, 1) := by decide +kernel
theorem dX2_offer_15 : decode cX2_offer 15 = .ok (.aload_n 0, 1) := by decide +kernel
theorem dX2_offer_16 : decode cX2_offer 16 = .ok (.getfield 26, 3) := by decide +kernel
theorem dX2_offer_19 : decode cX2_offer 19 = .ok (.iload_n 2, 1) := by decide +kernel
theorem dX2_offer_20 : decode cX2_offer 20 = .ok (.iaload, 1) := by decide +kernel
theorem dX2_offer_21 : decode cX2_offer 21 = .ok (.bipush 12, 2) := by decide +kernel
theorem dX2_offer_23 : decode cX2_offer 23 = .ok (.iload_n 1, 1) := by decide +kernel
theorem dX2_offer_24 : decode cX2_offer 24 = .ok (.isub, 1) := by decide +kernel
theorem dX2_offer_25 : decode cX2_offer 25 = .ok (.imul, 1) := by decide +kernel
theorem dX2_offer_26 : decode cX2_offer 26 = .ok (.iadd, 1) := by decide +kernel
theorem dX2_offer_27 : decode cX2_offer 27 = .ok (.istore_n 3, 1) := by decide +kernel
theorem dX2_offer_28 : decode cX2_offer 28 = .ok (.sipush 499, 3) := by decide +kernel
theorem dX2_offer_31 : decode cX2_offer 31 = .ok (.istore 4, 2) := by decide +kernel
theorem dX2_offer_33 : decode cX2_offer 33 = .ok (.iload 4, 2) := by decide +kernel
theorem dX2_offer_35 : decode cX2_offer 35 = .ok (.ifCond .lt 76, 3) := by decide +kernel
theorem dX2_offer_38 : decode cX2_offer 38 = .ok (.iload_n 3, 1) := by decide +kernel
theorem dX2_offer_39 : decode cX2_offer 39 = .ok (.aload_n 0, 1) := by decide +kernel
theorem dX2_offer_40 : decode cX2_offer 40 = .ok (.getfield 32, 3) := by decide +kernel
theorem dX2_offer_43 : decode cX2_offer 43 = .ok (.sipush 500, 3) := by decide +kernel
theorem dX2_offer_46 : decode cX2_offer 46 = .ok (.iload 4, 2) := by decide +kernel
theorem dX2_offer_48 : decode cX2_offer 48 = .ok (.aload_n 0, 1) := by decide +kernel
theorem dX2_offer_49 : decode cX2_offer 49 = .ok (.getfield 20, 3) := by decide +kernel
theorem dX2_offer_52 : decode cX2_offer 52 = .ok (.iload_n 2, 1) := by decide +kernel
theorem dX2_offer_53 : decode cX2_offer 53 = .ok (.iaload, 1) := by decide +kernel
theorem dX2_offer_54 : decode cX2_offer 54 = .ok (.iadd, 1) := by decide +kernel
theorem dX2_offer_55 : decode cX2_offer 55 = .ok (.invokestatic 87, 3) := by decide +kernel
theorem dX2_offer_58 : decode cX2_offer 58 = .ok (.iaload, 1) := by decide +kernel
theorem dX2_offer_59 : decode cX2_offer 59 = .ok (.iadd, 1) := by decide +kernel
theorem dX2_offer_60 : decode cX2_offer 60 = .ok (.istore 5, 2) := by decide +kernel
theorem dX2_offer_62 : decode cX2_offer 62 = .ok (.iload 5, 2) := by decide +kernel
theorem dX2_offer_64 : decode cX2_offer 64 = .ok (.aload_n 0, 1) := by decide +kernel
theorem dX2_offer_65 : decode cX2_offer 65 = .ok (.getfield 32, 3) := by decide +kernel
theorem dX2_offer_68 : decode cX2_offer 68 = .ok (.iload 4, 2) := by decide +kernel
theorem dX2_offer_70 : decode cX2_offer 70 = .ok (.iaload, 1) := by decide +kernel
theorem dX2_offer_71 : decode cX2_offer 71 = .ok (.if_icmp .ge 34, 3) := by decide +kernel
theorem dX2_offer_74 : decode cX2_offer 74 = .ok (.aload_n 0, 1) := by decide +kernel
theorem dX2_offer_75 : decode cX2_offer 75 = .ok (.getfield 32, 3) := by decide +kernel
theorem dX2_offer_78 : decode cX2_offer 78 = .ok (.iload 4, 2) := by decide +kernel
theorem dX2_offer_80 : decode cX2_offer 80 = .ok (.iload 5, 2) := by decide +kernel
theorem dX2_offer_82 : decode cX2_offer 82 = .ok (.iastore, 1) := by decide +kernel
theorem dX2_offer_83 : decode cX2_offer 83 = .ok (.aload_n 0, 1) := by decide +kernel
theorem dX2_offer_84 : decode cX2_offer 84 = .ok (.getfield 35, 3) := by decide +kernel
theorem dX2_offer_87 : decode cX2_offer 87 = .ok (.iload_n 1, 1) := by decide +kernel
theorem dX2_offer_88 : decode cX2_offer 88 = .ok (.iload_n 2, 1) := by decide +kernel
theorem dX2_offer_89 : decode cX2_offer 89 = .ok (.iload 4, 2) := by decide +kernel
theorem dX2_offer_91 : decode cX2_offer 91 = .ok (.invokestatic 93, 3) := by decide +kernel
theorem dX2_offer_94 : decode cX2_offer 94 = .ok (.dup2, 1) := by decide +kernel
theorem dX2_offer_95 : decode cX2_offer 95 = .ok (.laload, 1) := by decide +kernel
theorem dX2_offer_96 : decode cX2_offer 96 = .ok (.lconst 1, 1) := by decide +kernel
theorem dX2_offer_97 : decode cX2_offer 97 = .ok (.iload 4, 2) := by decide +kernel
theorem dX2_offer_99 : decode cX2_offer 99 = .ok (.bipush 63, 2) := by decide +kernel
theorem dX2_offer_101 : decode cX2_offer 101 = .ok (.iand, 1) := by decide +kernel
theorem dX2_offer_102 : decode cX2_offer 102 = .ok (.lshl, 1) := by decide +kernel
theorem dX2_offer_103 : decode cX2_offer 103 = .ok (.lor, 1) := by decide +kernel
theorem dX2_offer_104 : decode cX2_offer 104 = .ok (.lastore, 1) := by decide +kernel
theorem dX2_offer_105 : decode cX2_offer 105 = .ok (.iinc 4 (-1), 3) := by decide +kernel
theorem dX2_offer_108 : decode cX2_offer 108 = .ok (.goto (-75), 3) := by decide +kernel
theorem dX2_offer_111 : decode cX2_offer 111 = .ok (.return_, 1) := by decide +kernel
set_option maxRecDepth 20000 in
theorem ggX2_choose_X2_mustBuy : GoodIn wsX2_choose wsX2_mustBuy := goodIn_r _ [13, 14, 15, 16, 12, 17, 18, 19, 20, 21, 22, 23, 24, 25, 26, 27, 28, 29] (by decide +kernel) (by decide +kernel)
set_option maxRecDepth 20000 in
theorem gX2_choose_X2_mustBuy : GoodIn wsX2_choose (wsV RX2 97 RX2 yX2_mustBuy wsX2_mustBuy) := goodIn_app (goodIn_of _ (by decide +kernel)) ggX2_choose_X2_mustBuy
theorem dX2_choose_0 : decode cX2_choose 0 = .ok (.aload_n 0, 1) := by decide +kernel
theorem dX2_choose_1 : decode cX2_choose 1 = .ok (.getfield 61, 3) := by decide +kernel
theorem dX2_choose_4 : decode cX2_choose 4 = .ok (.istore_n 1, 1) := by decide +kernel
theorem dX2_choose_5 : decode cX2_choose 5 = .ok (.iconst 0, 1) := by decide +kernel
theorem dX2_choose_6 : decode cX2_choose 6 = .ok (.istore_n 2, 1) := by decide +kernel
theorem dX2_choose_7 : decode cX2_choose 7 = .ok (.iload_n 2, 1) := by decide +kernel
theorem dX2_choose_8 : decode cX2_choose 8 = .ok (.bipush 12, 2) := by decide +kernel
theorem dX2_choose_10 : decode cX2_choose 10 = .ok (.if_icmp .ge 84, 3) := by decide +kernel
theorem dX2_choose_13 : decode cX2_choose 13 = .ok (.iconst 0, 1) := by decide +kernel
theorem dX2_choose_14 : decode cX2_choose 14 = .ok (.istore_n 3, 1) := by decide +kernel
theorem dX2_choose_15 : decode cX2_choose 15 = .ok (.iload_n 3, 1) := by decide +kernel
theorem dX2_choose_16 : decode cX2_choose 16 = .ok (.aload_n 0, 1) := by decide +kernel
theorem dX2_choose_17 : decode cX2_choose 17 = .ok (.getfield 39, 3) := by decide +kernel
theorem dX2_choose_20 : decode cX2_choose 20 = .ok (.if_icmp .ge 68, 3) := by decide +kernel
theorem dX2_choose_23 : decode cX2_choose 23 = .ok (.iconst 0, 1) := by decide +kernel
theorem dX2_choose_24 : decode cX2_choose 24 = .ok (.istore 4, 2) := by decide +kernel
theorem dX2_choose_26 : decode cX2_choose 26 = .ok (.iload 4, 2) := by decide +kernel
theorem dX2_choose_28 : decode cX2_choose 28 = .ok (.sipush 500, 3) := by decide +kernel
theorem dX2_choose_31 : decode cX2_choose 31 = .ok (.if_icmp .ge 41, 3) := by decide +kernel
theorem dX2_choose_34 : decode cX2_choose 34 = .ok (.iload_n 1, 1) := by decide +kernel
theorem dX2_choose_35 : decode cX2_choose 35 = .ok (.sipush 500, 3) := by decide +kernel
theorem dX2_choose_38 : decode cX2_choose 38 = .ok (.if_icmp .ge 34, 3) := by decide +kernel
theorem dX2_choose_41 : decode cX2_choose 41 = .ok (.aload_n 0, 1) := by decide +kernel
theorem dX2_choose_42 : decode cX2_choose 42 = .ok (.iload_n 2, 1) := by decide +kernel
theorem dX2_choose_43 : decode cX2_choose 43 = .ok (.iload_n 3, 1) := by decide +kernel
theorem dX2_choose_44 : decode cX2_choose 44 = .ok (.iload_n 1, 1) := by decide +kernel
theorem dX2_choose_45 : decode cX2_choose 45 = .ok (.invokevirtual 97, 3) := by decide +kernel
theorem dX2_choose_48 : decode cX2_choose 48 = .ok (.ifCond .eq 24, 3) := by decide +kernel
theorem dX2_choose_51 : decode cX2_choose 51 = .ok (.sipush 500, 3) := by decide +kernel
theorem dX2_choose_54 : decode cX2_choose 54 = .ok (.iload_n 1, 1) := by decide +kernel
theorem dX2_choose_55 : decode cX2_choose 55 = .ok (.aload_n 0, 1) := by decide +kernel
theorem dX2_choose_56 : decode cX2_choose 56 = .ok (.getfield 20, 3) := by decide +kernel
theorem dX2_choose_59 : decode cX2_choose 59 = .ok (.iload_n 3, 1) := by decide +kernel
theorem dX2_choose_60 : decode cX2_choose 60 = .ok (.iaload, 1) := by decide +kernel
theorem dX2_choose_61 : decode cX2_choose 61 = .ok (.iadd, 1) := by decide +kernel
theorem dX2_choose_62 : decode cX2_choose 62 = .ok (.invokestatic 87, 3) := by decide +kernel
theorem dX2_choose_65 : decode cX2_choose 65 = .ok (.istore_n 1, 1) := by decide +kernel
theorem dX2_choose_66 : decode cX2_choose 66 = .ok (.iinc 4 1, 3) := by decide +kernel
theorem dX2_choose_69 : decode cX2_choose 69 = .ok (.goto (-43), 3) := by decide +kernel
theorem dX2_choose_72 : decode cX2_choose 72 = .ok (.aload_n 0, 1) := by decide +kernel
theorem dX2_choose_73 : decode cX2_choose 73 = .ok (.getfield 13, 3) := by decide +kernel
theorem dX2_choose_76 : decode cX2_choose 76 = .ok (.iload_n 2, 1) := by decide +kernel
theorem dX2_choose_77 : decode cX2_choose 77 = .ok (.aaload, 1) := by decide +kernel
theorem dX2_choose_78 : decode cX2_choose 78 = .ok (.iload_n 3, 1) := by decide +kernel
theorem dX2_choose_79 : decode cX2_choose 79 = .ok (.iload 4, 2) := by decide +kernel
theorem dX2_choose_81 : decode cX2_choose 81 = .ok (.iastore, 1) := by decide +kernel
theorem dX2_choose_82 : decode cX2_choose 82 = .ok (.iinc 3 1, 3) := by decide +kernel
theorem dX2_choose_85 : decode cX2_choose 85 = .ok (.goto (-70), 3) := by decide +kernel
theorem dX2_choose_88 : decode cX2_choose 88 = .ok (.iinc 2 1, 3) := by decide +kernel
theorem dX2_choose_91 : decode cX2_choose 91 = .ok (.goto (-84), 3) := by decide +kernel
theorem dX2_choose_94 : decode cX2_choose 94 = .ok (.return_, 1) := by decide +kernel
set_option maxRecDepth 20000 in
theorem ggX2_mustBuy_X2_word : GoodIn wsX2_mustBuy wsX2_word := goodIn_r _ [5] (by decide +kernel) (by decide +kernel)
set_option maxRecDepth 20000 in
theorem gX2_mustBuy_X2_word : GoodIn wsX2_mustBuy (va_wsS RX2 93 yX2_word wsX2_word) := goodIn_app (goodIn_of _ (by decide +kernel)) ggX2_mustBuy_X2_word
theorem dX2_mustBuy_0 : decode cX2_mustBuy 0 = .ok (.aload_n 0, 1) := by decide +kernel
theorem dX2_mustBuy_1 : decode cX2_mustBuy 1 = .ok (.getfield 35, 3) := by decide +kernel
theorem dX2_mustBuy_4 : decode cX2_mustBuy 4 = .ok (.iload_n 1, 1) := by decide +kernel
theorem dX2_mustBuy_5 : decode cX2_mustBuy 5 = .ok (.iload_n 2, 1) := by decide +kernel
theorem dX2_mustBuy_6 : decode cX2_mustBuy 6 = .ok (.iload_n 3, 1) := by decide +kernel
theorem dX2_mustBuy_7 : decode cX2_mustBuy 7 = .ok (.invokestatic 93, 3) := by decide +kernel
theorem dX2_mustBuy_10 : decode cX2_mustBuy 10 = .ok (.laload, 1) := by decide +kernel
theorem dX2_mustBuy_11 : decode cX2_mustBuy 11 = .ok (.iload_n 3, 1) := by decide +kernel
theorem dX2_mustBuy_12 : decode cX2_mustBuy 12 = .ok (.bipush 63, 2) := by decide +kernel
theorem dX2_mustBuy_14 : decode cX2_mustBuy 14 = .ok (.iand, 1) := by decide +kernel
theorem dX2_mustBuy_15 : decode cX2_mustBuy 15 = .ok (.lushr, 1) := by decide +kernel
theorem dX2_mustBuy_16 : decode cX2_mustBuy 16 = .ok (.lconst 1, 1) := by decide +kernel
theorem dX2_mustBuy_17 : decode cX2_mustBuy 17 = .ok (.land, 1) := by decide +kernel
theorem dX2_mustBuy_18 : decode cX2_mustBuy 18 = .ok (.lconst 0, 1) := by decide +kernel
theorem dX2_mustBuy_19 : decode cX2_mustBuy 19 = .ok (.lcmp, 1) := by decide +kernel
theorem dX2_mustBuy_20 : decode cX2_mustBuy 20 = .ok (.ifCond .eq 7, 3) := by decide +kernel
theorem dX2_mustBuy_23 : decode cX2_mustBuy 23 = .ok (.iconst 1, 1) := by decide +kernel
theorem dX2_mustBuy_24 : decode cX2_mustBuy 24 = .ok (.goto 4, 3) := by decide +kernel
theorem dX2_mustBuy_27 : decode cX2_mustBuy 27 = .ok (.iconst 0, 1) := by decide +kernel
theorem dX2_mustBuy_28 : decode cX2_mustBuy 28 = .ok (.ireturn, 1) := by decide +kernel
theorem dX2_word_0 : decode cX2_word 0 = .ok (.iload_n 0, 1) := by decide +kernel
theorem dX2_word_1 : decode cX2_word 1 = .ok (.iconst 4, 1) := by decide +kernel
theorem dX2_word_2 : decode cX2_word 2 = .ok (.imul, 1) := by decide +kernel
theorem dX2_word_3 : decode cX2_word 3 = .ok (.iload_n 1, 1) := by decide +kernel
theorem dX2_word_4 : decode cX2_word 4 = .ok (.iadd, 1) := by decide +kernel
theorem dX2_word_5 : decode cX2_word 5 = .ok (.bipush 8, 2) := by decide +kernel
theorem dX2_word_7 : decode cX2_word 7 = .ok (.imul, 1) := by decide +kernel
theorem dX2_word_8 : decode cX2_word 8 = .ok (.iload_n 2, 1) := by decide +kernel
theorem dX2_word_9 : decode cX2_word 9 = .ok (.bipush 6, 2) := by decide +kernel
theorem dX2_word_11 : decode cX2_word 11 = .ok (.ishr, 1) := by decide +kernel
theorem dX2_word_12 : decode cX2_word 12 = .ok (.iadd, 1) := by decide +kernel
theorem dX2_word_13 : decode cX2_word 13 = .ok (.ireturn, 1) := by decide +kernel
set_option maxRecDepth 20000 in
theorem ggX3_init_X0_init : GoodIn wsX3_init wsX0_init := goodIn_r _ [18, 19, 2, 3, 20, 21, 5, 22, 23, 24, 34, 35, 36, 37] (by decide +kernel) (by decide +kernel)
set_option maxRecDepth 20000 in
theorem gX3_init_X0_init : GoodIn wsX3_init (wsX0_init) := ggX3_init_X0_init
theorem dX3_init_0 : decode cX3_init 0 = .ok (.aload_n 0, 1) := by decide +kernel
theorem dX3_init_1 : decode cX3_init 1 = .ok (.invokespecial 5, 3) := by decide +kernel
theorem dX3_init_4 : decode cX3_init 4 = .ok (.aload_n 0, 1) := by decide +kernel
theorem dX3_init_5 : decode cX3_init 5 = .ok (.bipush 8, 2) := by decide +kernel
theorem dX3_init_7 : decode cX3_init 7 = .ok (.bipush 24, 2) := by decide +kernel
theorem dX3_init_9 : decode cX3_init 9 = .ok (.multianewarray 11 2, 4) := by decide +kernel
theorem dX3_init_13 : decode cX3_init 13 = .ok (.putfield 13, 3) := by decide +kernel
theorem dX3_init_16 : decode cX3_init 16 = .ok (.aload_n 0, 1) := by decide +kernel
theorem dX3_init_17 : decode cX3_init 17 = .ok (.bipush 8, 2) := by decide +kernel
theorem dX3_init_19 : decode cX3_init 19 = .ok (.newarray .int, 2) := by decide +kernel
theorem dX3_init_21 : decode cX3_init 21 = .ok (.putfield 16, 3) := by decide +kernel
theorem dX3_init_24 : decode cX3_init 24 = .ok (.aload_n 0, 1) := by decide +kernel
theorem dX3_init_25 : decode cX3_init 25 = .ok (.bipush 8, 2) := by decide +kernel
theorem dX3_init_27 : decode cX3_init 27 = .ok (.newarray .int, 2) := by decide +kernel
theorem dX3_init_29 : decode cX3_init 29 = .ok (.putfield 20, 3) := by decide +kernel
theorem dX3_init_32 : decode cX3_init 32 = .ok (.aload_n 0, 1) := by decide +kernel
theorem dX3_init_33 : decode cX3_init 33 = .ok (.bipush 8, 2) := by decide +kernel
theorem dX3_init_35 : decode cX3_init 35 = .ok (.newarray .int, 2) := by decide +kernel
theorem dX3_init_37 : decode cX3_init 37 = .ok (.putfield 23, 3) := by decide +kernel
theorem dX3_init_40 : decode cX3_init 40 = .ok (.aload_n 0, 1) := by decide +kernel
theorem dX3_init_41 : decode cX3_init 41 = .ok (.bipush 8, 2) := by decide +kernel
theorem dX3_init_43 : decode cX3_init 43 = .ok (.newarray .int, 2) := by decide +kernel
theorem dX3_init_45 : decode cX3_init 45 = .ok (.putfield 26, 3) := by decide +kernel
theorem dX3_init_48 : decode cX3_init 48 = .ok (.aload_n 0, 1) := by decide +kernel
theorem dX3_init_49 : decode cX3_init 49 = .ok (.new 29, 3) := by decide +kernel
theorem dX3_init_52 : decode cX3_init 52 = .ok (.dup, 1) := by decide +kernel
theorem dX3_init_53 : decode cX3_init 53 = .ok (.bipush 34, 2) := by decide +kernel
theorem dX3_init_55 : decode cX3_init 55 = .ok (.invokespecial 31, 3) := by decide +kernel
theorem dX3_init_58 : decode cX3_init 58 = .ok (.putfield 34, 3) := by decide +kernel
theorem dX3_init_61 : decode cX3_init 61 = .ok (.aload_n 0, 1) := by decide +kernel
theorem dX3_init_62 : decode cX3_init 62 = .ok (.iconst (-1), 1) := by decide +kernel
theorem dX3_init_63 : decode cX3_init 63 = .ok (.putfield 38, 3) := by decide +kernel
theorem dX3_init_66 : decode cX3_init 66 = .ok (.return_, 1) := by decide +kernel
set_option maxRecDepth 20000 in
theorem ggX3_hasBatch_X6_within : GoodIn wsX3_hasBatch wsX6_within := goodIn_r _ [4] (by decide +kernel) (by decide +kernel)
set_option maxRecDepth 20000 in
theorem gX3_hasBatch_X6_within_n45 : GoodIn wsX3_hasBatch (wsX6_within) := ggX3_hasBatch_X6_within
theorem dX3_hasBatch_0 : decode cX3_hasBatch 0 = .ok (.iload_n 1, 1) := by decide +kernel
theorem dX3_hasBatch_1 : decode cX3_hasBatch 1 = .ok (.i2l, 1) := by decide +kernel
theorem dX3_hasBatch_2 : decode cX3_hasBatch 2 = .ok (.iconst 0, 1) := by decide +kernel
theorem dX3_hasBatch_3 : decode cX3_hasBatch 3 = .ok (.aload_n 0, 1) := by decide +kernel
theorem dX3_hasBatch_4 : decode cX3_hasBatch 4 = .ok (.getfield 42, 3) := by decide +kernel
theorem dX3_hasBatch_7 : decode cX3_hasBatch 7 = .ok (.iconst 1, 1) := by decide +kernel
theorem dX3_hasBatch_8 : decode cX3_hasBatch 8 = .ok (.isub, 1) := by decide +kernel
theorem dX3_hasBatch_9 : decode cX3_hasBatch 9 = .ok (.invokestatic 45, 3) := by decide +kernel
theorem dX3_hasBatch_12 : decode cX3_hasBatch 12 = .ok (.ireturn, 1) := by decide +kernel
set_option maxRecDepth 20000 in
theorem ggX3_addBatch_X3_forget : GoodIn wsX3_addBatch wsX3_forget := goodIn_r _ [10, 11, 12, 13, 14, 15, 16, 17, 18, 19, 20] (by decide +kernel) (by decide +kernel)
set_option maxRecDepth 20000 in
theorem gX3_addBatch_X3_forget : GoodIn wsX3_addBatch (wsV RX3 49 RX3 yX3_forget wsX3_forget) := goodIn_app (goodIn_of _ (by decide +kernel)) ggX3_addBatch_X3_forget
theorem dX3_addBatch_0 : decode cX3_addBatch 0 = .ok (.aload_n 0, 1) := by decide +kernel
theorem dX3_addBatch_1 : decode cX3_addBatch 1 = .ok (.dup, 1) := by decide +kernel
theorem dX3_addBatch_2 : decode cX3_addBatch 2 = .ok (.getfield 42, 3) := by decide +kernel
theorem dX3_addBatch_5 : decode cX3_addBatch 5 = .ok (.dup_x1, 1) := by decide +kernel
theorem dX3_addBatch_6 : decode cX3_addBatch 6 = .ok (.iconst 1, 1) := by decide +kernel
theorem dX3_addBatch_7 : decode cX3_addBatch 7 = .ok (.iadd, 1) := by decide +kernel
theorem dX3_addBatch_8 : decode cX3_addBatch 8 = .ok (.putfield 42, 3) := by decide +kernel
theorem dX3_addBatch_11 : decode cX3_addBatch 11 = .ok (.istore 5, 2) := by decide +kernel
theorem dX3_addBatch_13 : decode cX3_addBatch 13 = .ok (.aload_n 0, 1) := by decide +kernel
theorem dX3_addBatch_14 : decode cX3_addBatch 14 = .ok (.getfield 16, 3) := by decide +kernel
theorem dX3_addBatch_17 : decode cX3_addBatch 17 = .ok (.iload 5, 2) := by decide +kernel
theorem dX3_addBatch_19 : decode cX3_addBatch 19 = .ok (.iload_n 1, 1) := by decide +kernel
theorem dX3_addBatch_20 : decode cX3_addBatch 20 = .ok (.iastore, 1) := by decide +kernel
theorem dX3_addBatch_21 : decode cX3_addBatch 21 = .ok (.aload_n 0, 1) := by decide +kernel
theorem dX3_addBatch_22 : decode cX3_addBatch 22 = .ok (.getfield 20, 3) := by decide +kernel
theorem dX3_addBatch_25 : decode cX3_addBatch 25 = .ok (.iload 5, 2) := by decide +kernel
theorem dX3_addBatch_27 : decode cX3_addBatch 27 = .ok (.iload_n 2, 1) := by decide +kernel
theorem dX3_addBatch_28 : decode cX3_addBatch 28 = .ok (.iastore, 1) := by decide +kernel
theorem dX3_addBatch_29 : decode cX3_addBatch 29 = .ok (.aload_n 0, 1) := by decide +kernel
theorem dX3_addBatch_30 : decode cX3_addBatch 30 = .ok (.getfield 23, 3) := by decide +kernel
theorem dX3_addBatch_33 : decode cX3_addBatch 33 = .ok (.iload 5, 2) := by decide +kernel
theorem dX3_addBatch_35 : decode cX3_addBatch 35 = .ok (.iload_n 3, 1) := by decide +kernel
theorem dX3_addBatch_36 : decode cX3_addBatch 36 = .ok (.iastore, 1) := by decide +kernel
theorem dX3_addBatch_37 : decode cX3_addBatch 37 = .ok (.aload_n 0, 1) := by decide +kernel
theorem dX3_addBatch_38 : decode cX3_addBatch 38 = .ok (.getfield 26, 3) := by decide +kernel
theorem dX3_addBatch_41 : decode cX3_addBatch 41 = .ok (.iload 5, 2) := by decide +kernel
theorem dX3_addBatch_43 : decode cX3_addBatch 43 = .ok (.iload 4, 2) := by decide +kernel
theorem dX3_addBatch_45 : decode cX3_addBatch 45 = .ok (.iastore, 1) := by decide +kernel
theorem dX3_addBatch_46 : decode cX3_addBatch 46 = .ok (.aload_n 0, 1) := by decide +kernel
theorem dX3_addBatch_47 : decode cX3_addBatch 47 = .ok (.invokevirtual 49, 3) := by decide +kernel
theorem dX3_addBatch_50 : decode cX3_addBatch 50 = .ok (.iload 5, 2) := by decide +kernel
theorem dX3_addBatch_52 : decode cX3_addBatch 52 = .ok (.ireturn, 1) := by decide +kernel
theorem dX3_forget_0 : decode cX3_forget 0 = .ok (.aload_n 0, 1) := by decide +kernel
theorem dX3_forget_1 : decode cX3_forget 1 = .ok (.iconst (-1), 1) := by decide +kernel
theorem dX3_forget_2 : decode cX3_forget 2 = .ok (.putfield 38, 3) := by decide +kernel
theorem dX3_forget_5 : decode cX3_forget 5 = .ok (.return_, 1) := by decide +kernel
set_option maxRecDepth 20000 in
theorem ggX3_lay_X3_layPipes : GoodIn wsX3_lay wsX3_layPipes := goodIn_r _ [8, 3, 9, 10, 11, 12, 13, 14, 15, 16, 17, 18, 19, 20, 21, 22, 23, 24, 25, 26, 27, 28, 29, 30, 31, 32, 33, 34, 35, 36, 37, 38, 39, 40, 41, 42, 43, 44, 45, 46, 47, 48, 49, 50, 51, 52, 53, 54, 55, 56, 57, 58, 59, 60, 61, 62, 92, 93, 94, 95, 96, 97, 98, 99, 100, 101, 102, 103, 104, 105, 106, 107, 108, 109, 110, 111, 112, 113, 114, 115, 116, 117] (by decide +kernel) (by decide +kernel)
set_option maxRecDepth 20000 in
theorem gX3_lay_X3_layPipes : GoodIn wsX3_lay (wsV RX3 52 RX3 yX3_layPipes wsX3_layPipes) := goodIn_app (goodIn_of _ (by decide +kernel)) ggX3_lay_X3_layPipes
set_option maxRecDepth 20000 in
theorem ggX3_lay_X0_push : GoodIn wsX3_lay wsX0_push := goodIn_r _ [66, 67, 68, 69, 70, 17, 71, 72, 73, 19, 20, 21, 22, 23, 24, 74, 75, 76, 77, 78, 79, 80, 81, 101, 102, 103, 104] (by decide +kernel) (by decide +kernel)
set_option maxRecDepth 20000 in
theorem gX3_lay_X0_push : GoodIn wsX3_lay (wsV RX3 59 RX0 yX0_push wsX0_push) := goodIn_app (goodIn_of _ (by decide +kernel)) ggX3_lay_X0_push
set_option maxRecDepth 20000 in
theorem ggX3_lay_X3_settleParts : GoodIn wsX3_lay wsX3_settleParts := goodIn_r _ [85, 9, 11, 12, 86, 3, 87, 88, 89, 17, 90, 20, 91, 64, 65, 66, 67, 68, 69, 70, 71, 72, 73, 19, 21, 22, 23, 24, 74, 75, 76, 77, 78, 79, 80, 81, 92, 93, 94, 95, 96, 97, 98, 99, 100, 101, 102, 103, 104] (by decide +kernel) (by decide +kernel)
set_option maxRecDepth 20000 in
theorem gX3_lay_X3_settleParts : GoodIn wsX3_lay (wsV RX3 63 RX3 yX3_settleParts wsX3_settleParts) := goodIn_app (goodIn_of _ (by decide +kernel)) ggX3_lay_X3_settleParts
theorem dX3_lay_0 : decode cX3_lay 0 = .ok (.aload_n 0, 1) := by decide +kernel
theorem dX3_lay_1 : decode cX3_lay 1 = .ok (.getfield 38, 3) := by decide +kernel
theorem dX3_lay_4 : decode cX3_lay 4 = .ok (.iload_n 2, 1) := by decide +kernel
theorem dX3_lay_5 : decode cX3_lay 5 = .ok (.if_icmp .ne 4, 3) := by decide +kernel
theorem dX3_lay_8 : decode cX3_lay 8 = .ok (.return_, 1) := by decide +kernel
theorem dX3_lay_9 : decode cX3_lay 9 = .ok (.aload_n 0, 1) := by decide +kernel
theorem dX3_lay_10 : decode cX3_lay 10 = .ok (.iload_n 2, 1) := by decide +kernel
theorem dX3_lay_11 : decode cX3_lay 11 = .ok (.putfield 38, 3) := by decide +kernel
theorem dX3_lay_14 : decode cX3_lay 14 = .ok (.aload_n 0, 1) := by decide +kernel
theorem dX3_lay_15 : decode cX3_lay 15 = .ok (.aload_n 0, 1) := by decide +kernel
theorem dX3_lay_16 : decode cX3_lay 16 = .ok (.aload_n 1, 1) := by decide +kernel
theorem dX3_lay_17 : decode cX3_lay 17 = .ok (.iload_n 2, 1) := by decide +kernel
theorem dX3_lay_18 : decode cX3_lay 18 = .ok (.invokevirtual 52, 3) := by decide +kernel
theorem dX3_lay_21 : decode cX3_lay 21 = .ok (.putfield 56, 3) := by decide +kernel
theorem dX3_lay_24 : decode cX3_lay 24 = .ok (.aload_n 0, 1) := by decide +kernel
theorem dX3_lay_25 : decode cX3_lay 25 = .ok (.dup, 1) := by decide +kernel
theorem dX3_lay_26 : decode cX3_lay 26 = .ok (.getfield 56, 3) := by decide +kernel
theorem dX3_lay_29 : decode cX3_lay 29 = .ok (.aload_n 0, 1) := by decide +kernel
theorem dX3_lay_30 : decode cX3_lay 30 = .ok (.getfield 34, 3) := by decide +kernel
theorem dX3_lay_33 : decode cX3_lay 33 = .ok (.bipush 32, 2) := by decide +kernel
theorem dX3_lay_35 : decode cX3_lay 35 = .ok (.bipush 33, 2) := by decide +kernel
theorem dX3_lay_37 : decode cX3_lay 37 = .ok (.aload_n 0, 1) := by decide +kernel
theorem dX3_lay_38 : decode cX3_lay 38 = .ok (.getfield 56, 3) := by decide +kernel
theorem dX3_lay_41 : decode cX3_lay 41 = .ok (.invokevirtual 59, 3) := by decide +kernel
theorem dX3_lay_44 : decode cX3_lay 44 = .ok (.isub, 1) := by decide +kernel
theorem dX3_lay_45 : decode cX3_lay 45 = .ok (.putfield 56, 3) := by decide +kernel
theorem dX3_lay_48 : decode cX3_lay 48 = .ok (.aload_n 0, 1) := by decide +kernel
theorem dX3_lay_49 : decode cX3_lay 49 = .ok (.getfield 56, 3) := by decide +kernel
theorem dX3_lay_52 : decode cX3_lay 52 = .ok (.ifCond .ne 7, 3) := by decide +kernel
theorem dX3_lay_55 : decode cX3_lay 55 = .ok (.aload_n 0, 1) := by decide +kernel
theorem dX3_lay_56 : decode cX3_lay 56 = .ok (.invokevirtual 63, 3) := by decide +kernel
theorem dX3_lay_59 : decode cX3_lay 59 = .ok (.return_, 1) := by decide +kernel
set_option maxRecDepth 20000 in
theorem ggX3_layPipes_X0_empty : GoodIn wsX3_layPipes wsX0_empty := goodIn_r _ [11, 12, 13, 14, 15, 16, 17, 65, 66, 67, 68] (by decide +kernel) (by decide +kernel)
set_option maxRecDepth 20000 in
theorem gX3_layPipes_X0_empty : GoodIn wsX3_layPipes (wsV RX3 66 RX0 yX0_empty wsX0_empty) := goodIn_app (goodIn_of _ (by decide +kernel)) ggX3_layPipes_X0_empty
set_option maxRecDepth 20000 in
theorem ggX3_layPipes_X0_pipe : GoodIn wsX3_layPipes wsX0_pipe := goodIn_r _ [21, 13, 65, 66, 67, 68] (by decide +kernel) (by decide +kernel)
set_option maxRecDepth 20000 in
theorem gX3_layPipes_X0_pipe : GoodIn wsX3_layPipes (wsV RX3 69 RX0 yX0_pipe wsX0_pipe) := goodIn_app (goodIn_of _ (by decide +kernel)) ggX3_layPipes_X0_pipe
set_option maxRecDepth 20000 in
theorem ggX3_layPipes_X1_leftOver : GoodIn wsX3_layPipes wsX1_leftOver := goodIn_r _ [26, 27, 28, 29, 30, 31, 32, 25, 33, 34, 35, 36, 37, 15, 16, 17, 38, 39, 40, 41, 42, 43, 44, 45, 46, 47, 48, 49, 50, 51, 52, 53, 54, 55, 69, 70, 71, 72, 73, 74, 75, 76, 77, 78, 79, 80, 81] (by decide +kernel) (by decide +kernel)
set_option maxRecDepth 20000 in
theorem gX3_layPipes_X1_leftOver : GoodIn wsX3_layPipes (wsV RX3 73 RX1 yX1_leftOver wsX1_leftOver) := goodIn_app (goodIn_of _ (by decide +kernel)) ggX3_layPipes_X1_leftOver
theorem dX3_layPipes_0 : decode cX3_layPipes 0 = .ok (.iconst 0, 1) := by decide +kernel
theorem dX3_layPipes_1 : decode cX3_layPipes 1 = .ok (.istore_n 3, 1) := by decide +kernel
theorem dX3_layPipes_2 : decode cX3_layPipes 2 = .ok (.aload_n 0, 1) := by decide +kernel
theorem dX3_layPipes_3 : decode cX3_layPipes 3 = .ok (.getfield 34, 3) := by decide +kernel
theorem dX3_layPipes_6 : decode cX3_layPipes 6 = .ok (.invokevirtual 66, 3) := by decide +kernel
theorem dX3_layPipes_9 : decode cX3_layPipes 9 = .ok (.iconst 0, 1) := by decide +kernel
theorem dX3_layPipes_10 : decode cX3_layPipes 10 = .ok (.istore 4, 2) := by decide +kernel
theorem dX3_layPipes_12 : decode cX3_layPipes 12 = .ok (.iload 4, 2) := by decide +kernel
theorem dX3_layPipes_14 : decode cX3_layPipes 14 = .ok (.aload_n 0, 1) := by decide +kernel
theorem dX3_layPipes_15 : decode cX3_layPipes 15 = .ok (.getfield 42, 3) := by decide +kernel
theorem dX3_layPipes_18 : decode cX3_layPipes 18 = .ok (.if_icmp .ge 85, 3) := by decide +kernel
theorem dX3_layPipes_21 : decode cX3_layPipes 21 = .ok (.iload_n 3, 1) := by decide +kernel
theorem dX3_layPipes_22 : decode cX3_layPipes 22 = .ok (.aload_n 0, 1) := by decide +kernel
theorem dX3_layPipes_23 : decode cX3_layPipes 23 = .ok (.getfield 16, 3) := by decide +kernel
theorem dX3_layPipes_26 : decode cX3_layPipes 26 = .ok (.iload 4, 2) := by decide +kernel
theorem dX3_layPipes_28 : decode cX3_layPipes 28 = .ok (.iaload, 1) := by decide +kernel
theorem dX3_layPipes_29 : decode cX3_layPipes 29 = .ok (.iadd, 1) := by decide +kernel
theorem dX3_layPipes_30 : decode cX3_layPipes 30 = .ok (.istore_n 3, 1) := by decide +kernel
theorem dX3_layPipes_31 : decode cX3_layPipes 31 = .ok (.aload_n 0, 1) := by decide +kernel
theorem dX3_layPipes_32 : decode cX3_layPipes 32 = .ok (.getfield 34, 3) := by decide +kernel
theorem dX3_layPipes_35 : decode cX3_layPipes 35 = .ok (.bipush 32, 2) := by decide +kernel
theorem dX3_layPipes_37 : decode cX3_layPipes 37 = .ok (.iload 4, 2) := by decide +kernel
theorem dX3_layPipes_39 : decode cX3_layPipes 39 = .ok (.aload_n 0, 1) := by decide +kernel
theorem dX3_layPipes_40 : decode cX3_layPipes 40 = .ok (.getfield 16, 3) := by decide +kernel
theorem dX3_layPipes_43 : decode cX3_layPipes 43 = .ok (.iload 4, 2) := by decide +kernel
theorem dX3_layPipes_45 : decode cX3_layPipes 45 = .ok (.iaload, 1) := by decide +kernel
theorem dX3_layPipes_46 : decode cX3_layPipes 46 = .ok (.invokevirtual 69, 3) := by decide +kernel
theorem dX3_layPipes_49 : decode cX3_layPipes 49 = .ok (.aload_n 0, 1) := by decide +kernel
theorem dX3_layPipes_50 : decode cX3_layPipes 50 = .ok (.getfield 20, 3) := by decide +kernel
theorem dX3_layPipes_53 : decode cX3_layPipes 53 = .ok (.iload 4, 2) := by decide +kernel
theorem dX3_layPipes_55 : decode cX3_layPipes 55 = .ok (.iaload, 1) := by decide +kernel
theorem dX3_layPipes_56 : decode cX3_layPipes 56 = .ok (.istore 5, 2) := by decide +kernel
theorem dX3_layPipes_58 : decode cX3_layPipes 58 = .ok (.iload 5, 2) := by decide +kernel
theorem dX3_layPipes_60 : decode cX3_layPipes 60 = .ok (.aload_n 0, 1) := by decide +kernel
theorem dX3_layPipes_61 : decode cX3_layPipes 61 = .ok (.getfield 23, 3) := by decide +kernel
theorem dX3_layPipes_64 : decode cX3_layPipes 64 = .ok (.iload 4, 2) := by decide +kernel
theorem dX3_layPipes_66 : decode cX3_layPipes 66 = .ok (.iaload, 1) := by decide +kernel
theorem dX3_layPipes_67 : decode cX3_layPipes 67 = .ok (.if_icmp .ge 30, 3) := by decide +kernel
theorem dX3_layPipes_70 : decode cX3_layPipes 70 = .ok (.aload_n 0, 1) := by decide +kernel
theorem dX3_layPipes_71 : decode cX3_layPipes 71 = .ok (.getfield 34, 3) := by decide +kernel
theorem dX3_layPipes_74 : decode cX3_layPipes 74 = .ok (.iload 4, 2) := by decide +kernel
theorem dX3_layPipes_76 : decode cX3_layPipes 76 = .ok (.bipush 8, 2) := by decide +kernel
theorem dX3_layPipes_78 : decode cX3_layPipes 78 = .ok (.iload 5, 2) := by decide +kernel
theorem dX3_layPipes_80 : decode cX3_layPipes 80 = .ok (.iadd, 1) := by decide +kernel
theorem dX3_layPipes_81 : decode cX3_layPipes 81 = .ok (.aload_n 0, 1) := by decide +kernel
theorem dX3_layPipes_82 : decode cX3_layPipes 82 = .ok (.getfield 26, 3) := by decide +kernel
theorem dX3_layPipes_85 : decode cX3_layPipes 85 = .ok (.iload 4, 2) := by decide +kernel
theorem dX3_layPipes_87 : decode cX3_layPipes 87 = .ok (.iaload, 1) := by decide +kernel
theorem dX3_layPipes_88 : decode cX3_layPipes 88 = .ok (.invokevirtual 69, 3) := by decide +kernel
theorem dX3_layPipes_91 : decode cX3_layPipes 91 = .ok (.iinc 5 1, 3) := by decide +kernel
theorem dX3_layPipes_94 : decode cX3_layPipes 94 = .ok (.goto (-36), 3) := by decide +kernel
theorem dX3_layPipes_97 : decode cX3_layPipes 97 = .ok (.iinc 4 1, 3) := by decide +kernel
theorem dX3_layPipes_100 : decode cX3_layPipes 100 = .ok (.goto (-88), 3) := by decide +kernel
theorem dX3_layPipes_103 : decode cX3_layPipes 103 = .ok (.iconst 0, 1) := by decide +kernel
theorem dX3_layPipes_104 : decode cX3_layPipes 104 = .ok (.istore 4, 2) := by decide +kernel
theorem dX3_layPipes_106 : decode cX3_layPipes 106 = .ok (.iload 4, 2) := by decide +kernel
theorem dX3_layPipes_108 : decode cX3_layPipes 108 = .ok (.bipush 24, 2) := by decide +kernel
theorem dX3_layPipes_110 : decode cX3_layPipes 110 = .ok (.if_icmp .ge 30, 3) := by decide +kernel
theorem dX3_layPipes_113 : decode cX3_layPipes 113 = .ok (.aload_n 0, 1) := by decide +kernel
theorem dX3_layPipes_114 : decode cX3_layPipes 114 = .ok (.getfield 34, 3) := by decide +kernel
theorem dX3_layPipes_117 : decode cX3_layPipes 117 = .ok (.bipush 8, 2) := by decide +kernel
theorem dX3_layPipes_119 : decode cX3_layPipes 119 = .ok (.iload 4, 2) := by decide +kernel
theorem dX3_layPipes_121 : decode cX3_layPipes 121 = .ok (.iadd, 1) := by decide +kernel
theorem dX3_layPipes_122 : decode cX3_layPipes 122 = .ok (.bipush 33, 2) := by decide +kernel
theorem dX3_layPipes_124 : decode cX3_layPipes 124 = .ok (.aload_n 1, 1) := by decide +kernel
theorem dX3_layPipes_125 : decode cX3_layPipes 125 = .ok (.iload 4, 2) := by decide +kernel
theorem dX3_layPipes_127 : decode cX3_layPipes 127 = .ok (.iload_n 2, 1) := by decide +kernel
theorem dX3_layPipes_128 : decode cX3_layPipes 128 = .ok (.invokevirtual 73, 3) := by decide +kernel
theorem dX3_layPipes_131 : decode cX3_layPipes 131 = .ok (.invokevirtual 69, 3) := by decide +kernel
theorem dX3_layPipes_134 : decode cX3_layPipes 134 = .ok (.iinc 4 1, 3) := by decide +kernel
theorem dX3_layPipes_137 : decode cX3_layPipes 137 = .ok (.goto (-31), 3) := by decide +kernel
theorem dX3_layPipes_140 : decode cX3_layPipes 140 = .ok (.iload_n 3, 1) := by decide +kernel
theorem dX3_layPipes_141 : decode cX3_layPipes 141 = .ok (.ireturn, 1) := by decide +kernel
set_option maxRecDepth 20000 in
theorem ggX3_settleParts_X0_settle : GoodIn wsX3_settleParts wsX0_settle := goodIn_r _ [10, 11, 12, 13, 14, 9, 15, 16, 17, 18, 19, 20, 21, 22, 23, 24, 25, 26, 27, 28, 29, 30, 31, 32, 33, 34, 35, 45, 46, 47, 48] (by decide +kernel) (by decide +kernel)
set_option maxRecDepth 20000 in
theorem gX3_settleParts_X0_settle : GoodIn wsX3_settleParts (wsV RX3 79 RX0 yX0_settle wsX0_settle) := goodIn_app (goodIn_of _ (by decide +kernel)) ggX3_settleParts_X0_settle
theorem dX3_settleParts_0 : decode cX3_settleParts 0 = .ok (.iconst 0, 1) := by decide +kernel
theorem dX3_settleParts_1 : decode cX3_settleParts 1 = .ok (.istore_n 1, 1) := by decide +kernel
theorem dX3_settleParts_2 : decode cX3_settleParts 2 = .ok (.iload_n 1, 1) := by decide +kernel
theorem dX3_settleParts_3 : decode cX3_settleParts 3 = .ok (.aload_n 0, 1) := by decide +kernel
theorem dX3_settleParts_4 : decode cX3_settleParts 4 = .ok (.getfield 42, 3) := by decide +kernel
theorem dX3_settleParts_7 : decode cX3_settleParts 7 = .ok (.if_icmp .ge 52, 3) := by decide +kernel
theorem dX3_settleParts_10 : decode cX3_settleParts 10 = .ok (.aload_n 0, 1) := by decide +kernel
theorem dX3_settleParts_11 : decode cX3_settleParts 11 = .ok (.getfield 20, 3) := by decide +kernel
theorem dX3_settleParts_14 : decode cX3_settleParts 14 = .ok (.iload_n 1, 1) := by decide +kernel
theorem dX3_settleParts_15 : decode cX3_settleParts 15 = .ok (.iaload, 1) := by decide +kernel
theorem dX3_settleParts_16 : decode cX3_settleParts 16 = .ok (.istore_n 2, 1) := by decide +kernel
theorem dX3_settleParts_17 : decode cX3_settleParts 17 = .ok (.iload_n 2, 1) := by decide +kernel
theorem dX3_settleParts_18 : decode cX3_settleParts 18 = .ok (.aload_n 0, 1) := by decide +kernel
theorem dX3_settleParts_19 : decode cX3_settleParts 19 = .ok (.getfield 23, 3) := by decide +kernel
theorem dX3_settleParts_22 : decode cX3_settleParts 22 = .ok (.iload_n 1, 1) := by decide +kernel
theorem dX3_settleParts_23 : decode cX3_settleParts 23 = .ok (.iaload, 1) := by decide +kernel
theorem dX3_settleParts_24 : decode cX3_settleParts 24 = .ok (.if_icmp .ge 29, 3) := by decide +kernel
theorem dX3_settleParts_27 : decode cX3_settleParts 27 = .ok (.aload_n 0, 1) := by decide +kernel
theorem dX3_settleParts_28 : decode cX3_settleParts 28 = .ok (.getfield 13, 3) := by decide +kernel
theorem dX3_settleParts_31 : decode cX3_settleParts 31 = .ok (.iload_n 1, 1) := by decide +kernel
theorem dX3_settleParts_32 : decode cX3_settleParts 32 = .ok (.aaload, 1) := by decide +kernel
theorem dX3_settleParts_33 : decode cX3_settleParts 33 = .ok (.iload_n 2, 1) := by decide +kernel
theorem dX3_settleParts_34 : decode cX3_settleParts 34 = .ok (.aload_n 0, 1) := by decide +kernel
theorem dX3_settleParts_35 : decode cX3_settleParts 35 = .ok (.getfield 34, 3) := by decide +kernel
theorem dX3_settleParts_38 : decode cX3_settleParts 38 = .ok (.iload_n 1, 1) := by decide +kernel
theorem dX3_settleParts_39 : decode cX3_settleParts 39 = .ok (.bipush 8, 2) := by decide +kernel
theorem dX3_settleParts_41 : decode cX3_settleParts 41 = .ok (.iload_n 2, 1) := by decide +kernel
theorem dX3_settleParts_42 : decode cX3_settleParts 42 = .ok (.iadd, 1) := by decide +kernel
theorem dX3_settleParts_43 : decode cX3_settleParts 43 = .ok (.invokevirtual 79, 3) := by decide +kernel
theorem dX3_settleParts_46 : decode cX3_settleParts 46 = .ok (.iastore, 1) := by decide +kernel
theorem dX3_settleParts_47 : decode cX3_settleParts 47 = .ok (.iinc 2 1, 3) := by decide +kernel
theorem dX3_settleParts_50 : decode cX3_settleParts 50 = .ok (.goto (-33), 3) := by decide +kernel
theorem dX3_settleParts_53 : decode cX3_settleParts 53 = .ok (.iinc 1 1, 3) := by decide +kernel
theorem dX3_settleParts_56 : decode cX3_settleParts 56 = .ok (.goto (-54), 3) := by decide +kernel
theorem dX3_settleParts_59 : decode cX3_settleParts 59 = .ok (.return_, 1) := by decide +kernel
set_option maxRecDepth 20000 in
theorem ggX4_init_J7_fill_53178 : GoodIn wsX4_init wsJ7_fill_53178 := goodIn_r _ [13] (by decide +kernel) (by decide +kernel)
set_option maxRecDepth 20000 in
theorem gX4_init_J7_fill_53178 : GoodIn wsX4_init (va_wsS RX4 23 yJ7_fill_53178 wsJ7_fill_53178) := goodIn_app (goodIn_of _ (by decide +kernel)) ggX4_init_J7_fill_53178
theorem dX4_init_0 : decode cX4_init 0 = .ok (.aload_n 0, 1) := by decide +kernel
theorem dX4_init_1 : decode cX4_init 1 = .ok (.invokespecial 3, 3) := by decide +kernel
theorem dX4_init_4 : decode cX4_init 4 = .ok (.aload_n 0, 1) := by decide +kernel
theorem dX4_init_5 : decode cX4_init 5 = .ok (.bipush 6, 2) := by decide +kernel
theorem dX4_init_7 : decode cX4_init 7 = .ok (.bipush 64, 2) := by decide +kernel
theorem dX4_init_9 : decode cX4_init 9 = .ok (.multianewarray 11 2, 4) := by decide +kernel
theorem dX4_init_13 : decode cX4_init 13 = .ok (.putfield 13, 3) := by decide +kernel
theorem dX4_init_16 : decode cX4_init 16 = .ok (.aload_n 0, 1) := by decide +kernel
theorem dX4_init_17 : decode cX4_init 17 = .ok (.bipush 6, 2) := by decide +kernel
theorem dX4_init_19 : decode cX4_init 19 = .ok (.newarray .int, 2) := by decide +kernel
theorem dX4_init_21 : decode cX4_init 21 = .ok (.putfield 16, 3) := by decide +kernel
theorem dX4_init_24 : decode cX4_init 24 = .ok (.aload_n 0, 1) := by decide +kernel
theorem dX4_init_25 : decode cX4_init 25 = .ok (.bipush 6, 2) := by decide +kernel
theorem dX4_init_27 : decode cX4_init 27 = .ok (.newarray .int, 2) := by decide +kernel
theorem dX4_init_29 : decode cX4_init 29 = .ok (.putfield 20, 3) := by decide +kernel
theorem dX4_init_32 : decode cX4_init 32 = .ok (.aload_n 0, 1) := by decide +kernel
theorem dX4_init_33 : decode cX4_init 33 = .ok (.getfield 20, 3) := by decide +kernel
theorem dX4_init_36 : decode cX4_init 36 = .ok (.iconst (-1), 1) := by decide +kernel
theorem dX4_init_37 : decode cX4_init 37 = .ok (.invokestatic 23, 3) := by decide +kernel
theorem dX4_init_40 : decode cX4_init 40 = .ok (.return_, 1) := by decide +kernel
set_option maxRecDepth 20000 in
theorem ggX4_isNumber_X6_within : GoodIn wsX4_isNumber wsX6_within := goodIn_r _ [3] (by decide +kernel) (by decide +kernel)
set_option maxRecDepth 20000 in
theorem gX4_isNumber_X6_within_n29 : GoodIn wsX4_isNumber (wsX6_within) := ggX4_isNumber_X6_within
theorem dX4_isNumber_0 : decode cX4_isNumber 0 = .ok (.iload_n 0, 1) := by decide +kernel
theorem dX4_isNumber_1 : decode cX4_isNumber 1 = .ok (.i2l, 1) := by decide +kernel
theorem dX4_isNumber_2 : decode cX4_isNumber 2 = .ok (.iconst 0, 1) := by decide +kernel
theorem dX4_isNumber_3 : decode cX4_isNumber 3 = .ok (.iconst 5, 1) := by decide +kernel
theorem dX4_isNumber_4 : decode cX4_isNumber 4 = .ok (.invokestatic 29, 3) := by decide +kernel
theorem dX4_isNumber_7 : decode cX4_isNumber 7 = .ok (.ireturn, 1) := by decide +kernel
theorem dX4_isMissing_0 : decode cX4_isMissing 0 = .ok (.aload_n 0, 1) := by decide +kernel
theorem dX4_isMissing_1 : decode cX4_isMissing 1 = .ok (.getfield 20, 3) := by decide +kernel
theorem dX4_isMissing_4 : decode cX4_isMissing 4 = .ok (.iload_n 1, 1) := by decide +kernel
theorem dX4_isMissing_5 : decode cX4_isMissing 5 = .ok (.iaload, 1) := by decide +kernel
theorem dX4_isMissing_6 : decode cX4_isMissing 6 = .ok (.iconst (-1), 1) := by decide +kernel
theorem dX4_isMissing_7 : decode cX4_isMissing 7 = .ok (.if_icmp .ne 7, 3) := by decide +kernel
theorem dX4_isMissing_10 : decode cX4_isMissing 10 = .ok (.iconst 1, 1) := by decide +kernel
theorem dX4_isMissing_11 : decode cX4_isMissing 11 = .ok (.goto 4, 3) := by decide +kernel
theorem dX4_isMissing_14 : decode cX4_isMissing 14 = .ok (.iconst 0, 1) := by decide +kernel
theorem dX4_isMissing_15 : decode cX4_isMissing 15 = .ok (.ireturn, 1) := by decide +kernel
set_option maxRecDepth 20000 in
theorem ggX4_make_J7_fill_d0a16 : GoodIn wsX4_make wsJ7_fill_d0a16 := goodIn_r _ [7] (by decide +kernel) (by decide +kernel)
set_option maxRecDepth 20000 in
theorem gX4_make_J7_fill_d0a16 : GoodIn wsX4_make (va_wsS RX4 33 yJ7_fill_d0a16 wsJ7_fill_d0a16) := goodIn_app (goodIn_of _ (by decide +kernel)) ggX4_make_J7_fill_d0a16
theorem dX4_make_0 : decode cX4_make 0 = .ok (.aload_n 0, 1) := by decide +kernel
theorem dX4_make_1 : decode cX4_make 1 = .ok (.getfield 13, 3) := by decide +kernel
theorem dX4_make_4 : decode cX4_make 4 = .ok (.iload_n 1, 1) := by decide +kernel
theorem dX4_make_5 : decode cX4_make 5 = .ok (.aaload, 1) := by decide +kernel
theorem dX4_make_6 : decode cX4_make 6 = .ok (.lconst 0, 1) := by decide +kernel
theorem dX4_make_7 : decode cX4_make 7 = .ok (.invokestatic 33, 3) := by decide +kernel
theorem dX4_make_10 : decode cX4_make 10 = .ok (.aload_n 0, 1) := by decide +kernel
theorem dX4_make_11 : decode cX4_make 11 = .ok (.getfield 16, 3) := by decide +kernel
theorem dX4_make_14 : decode cX4_make 14 = .ok (.iload_n 1, 1) := by decide +kernel
theorem dX4_make_15 : decode cX4_make 15 = .ok (.iload_n 2, 1) := by decide +kernel
theorem dX4_make_16 : decode cX4_make 16 = .ok (.iastore, 1) := by decide +kernel
theorem dX4_make_17 : decode cX4_make 17 = .ok (.aload_n 0, 1) := by decide +kernel
theorem dX4_make_18 : decode cX4_make 18 = .ok (.getfield 20, 3) := by decide +kernel
theorem dX4_make_21 : decode cX4_make 21 = .ok (.iload_n 1, 1) := by decide +kernel
theorem dX4_make_22 : decode cX4_make 22 = .ok (.iload_n 3, 1) := by decide +kernel
theorem dX4_make_23 : decode cX4_make 23 = .ok (.iastore, 1) := by decide +kernel
theorem dX4_make_24 : decode cX4_make 24 = .ok (.return_, 1) := by decide +kernel
theorem dX4_lose_0 : decode cX4_lose 0 = .ok (.aload_n 0, 1) := by decide +kernel
theorem dX4_lose_1 : decode cX4_lose 1 = .ok (.getfield 20, 3) := by decide +kernel
theorem dX4_lose_4 : decode cX4_lose 4 = .ok (.iload_n 1, 1) := by decide +kernel
theorem dX4_lose_5 : decode cX4_lose 5 = .ok (.iconst (-1), 1) := by decide +kernel
theorem dX4_lose_6 : decode cX4_lose 6 = .ok (.iastore, 1) := by decide +kernel
theorem dX4_lose_7 : decode cX4_lose 7 = .ok (.return_, 1) := by decide +kernel
theorem dX4_at_0 : decode cX4_at 0 = .ok (.aload_n 0, 1) := by decide +kernel
theorem dX4_at_1 : decode cX4_at 1 = .ok (.getfield 13, 3) := by decide +kernel
theorem dX4_at_4 : decode cX4_at 4 = .ok (.iload_n 1, 1) := by decide +kernel
theorem dX4_at_5 : decode cX4_at 5 = .ok (.aaload, 1) := by decide +kernel
theorem dX4_at_6 : decode cX4_at 6 = .ok (.iload_n 2, 1) := by decide +kernel
theorem dX4_at_7 : decode cX4_at 7 = .ok (.laload, 1) := by decide +kernel
theorem dX4_at_8 : decode cX4_at 8 = .ok (.lreturn, 1) := by decide +kernel
set_option maxRecDepth 20000 in
theorem ggX4_put_X4_cut : GoodIn wsX4_put wsX4_cut := goodIn_r _ [6] (by decide +kernel) (by decide +kernel)
set_option maxRecDepth 20000 in
theorem gX4_put_X4_cut : GoodIn wsX4_put (va_wsS RX4 36 yX4_cut wsX4_cut) := goodIn_app (goodIn_of _ (by decide +kernel)) ggX4_put_X4_cut
theorem dX4_put_0 : decode cX4_put 0 = .ok (.aload_n 0, 1) := by decide +kernel
theorem dX4_put_1 : decode cX4_put 1 = .ok (.getfield 13, 3) := by decide +kernel
theorem dX4_put_4 : decode cX4_put 4 = .ok (.iload_n 1, 1) := by decide +kernel
theorem dX4_put_5 : decode cX4_put 5 = .ok (.aaload, 1) := by decide +kernel
theorem dX4_put_6 : decode cX4_put 6 = .ok (.iload_n 2, 1) := by decide +kernel
theorem dX4_put_7 : decode cX4_put 7 = .ok (.lload_n 3, 1) := by decide +kernel
theorem dX4_put_8 : decode cX4_put 8 = .ok (.aload_n 0, 1) := by decide +kernel
theorem dX4_put_9 : decode cX4_put 9 = .ok (.getfield 16, 3) := by decide +kernel
theorem dX4_put_12 : decode cX4_put 12 = .ok (.iload_n 1, 1) := by decide +kernel
theorem dX4_put_13 : decode cX4_put 13 = .ok (.iaload, 1) := by decide +kernel
theorem dX4_put_14 : decode cX4_put 14 = .ok (.invokestatic 36, 3) := by decide +kernel
theorem dX4_put_17 : decode cX4_put 17 = .ok (.lastore, 1) := by decide +kernel
theorem dX4_put_18 : decode cX4_put 18 = .ok (.return_, 1) := by decide +kernel
set_option maxRecDepth 20000 in
theorem ggX4_whyNoPlace_X4_isNumber : GoodIn wsX4_whyNoPlace wsX4_isNumber := goodIn_r _ [5, 6, 7, 8] (by decide +kernel) (by decide +kernel)
set_option maxRecDepth 20000 in
theorem gX4_whyNoPlace_X4_isNumber : GoodIn wsX4_whyNoPlace (va_wsS RX4 40 yX4_isNumber wsX4_isNumber) := goodIn_app (goodIn_of _ (by decide +kernel)) ggX4_whyNoPlace_X4_isNumber
set_option maxRecDepth 20000 in
theorem ggX4_whyNoPlace_X4_isMissing : GoodIn wsX4_whyNoPlace wsX4_isMissing := goodIn_r _ [12, 1, 13, 14, 15] (by decide +kernel) (by decide +kernel)
set_option maxRecDepth 20000 in
theorem gX4_whyNoPlace_X4_isMissing : GoodIn wsX4_whyNoPlace (wsV RX4 44 RX4 yX4_isMissing wsX4_isMissing) := goodIn_app (goodIn_of _ (by decide +kernel)) ggX4_whyNoPlace_X4_isMissing
set_option maxRecDepth 20000 in
theorem ggX4_whyNoPlace_X6_within : GoodIn wsX4_whyNoPlace wsX6_within := goodIn_r _ [8] (by decide +kernel) (by decide +kernel)
set_option maxRecDepth 20000 in
theorem gX4_whyNoPlace_X6_within_n29 : GoodIn wsX4_whyNoPlace (wsX6_within) := ggX4_whyNoPlace_X6_within
theorem dX4_whyNoPlace_0 : decode cX4_whyNoPlace 0 = .ok (.iload_n 1, 1) := by decide +kernel
theorem dX4_whyNoPlace_1 : decode cX4_whyNoPlace 1 = .ok (.invokestatic 40, 3) := by decide +kernel
theorem dX4_whyNoPlace_4 : decode cX4_whyNoPlace 4 = .ok (.ifCond .ne 5, 3) := by decide +kernel
theorem dX4_whyNoPlace_7 : decode cX4_whyNoPlace 7 = .ok (.iconst 1, 1) := by decide +kernel
theorem dX4_whyNoPlace_8 : decode cX4_whyNoPlace 8 = .ok (.ireturn, 1) := by decide +kernel
theorem dX4_whyNoPlace_9 : decode cX4_whyNoPlace 9 = .ok (.aload_n 0, 1) := by decide +kernel
theorem dX4_whyNoPlace_10 : decode cX4_whyNoPlace 10 = .ok (.iload_n 1, 1) := by decide +kernel
theorem dX4_whyNoPlace_11 : decode cX4_whyNoPlace 11 = .ok (.invokevirtual 44, 3) := by decide +kernel
theorem dX4_whyNoPlace_14 : decode cX4_whyNoPlace 14 = .ok (.ifCond .eq 5, 3) := by decide +kernel
theorem dX4_whyNoPlace_17 : decode cX4_whyNoPlace 17 = .ok (.iconst 2, 1) := by decide +kernel
theorem dX4_whyNoPlace_18 : decode cX4_whyNoPlace 18 = .ok (.ireturn, 1) := by decide +kernel
theorem dX4_whyNoPlace_19 : decode cX4_whyNoPlace 19 = .ok (.iload_n 2, 1) := by decide +kernel
theorem dX4_whyNoPlace_20 : decode cX4_whyNoPlace 20 = .ok (.i2l, 1) := by decide +kernel
theorem dX4_whyNoPlace_21 : decode cX4_whyNoPlace 21 = .ok (.iconst 0, 1) := by decide +kernel
theorem dX4_whyNoPlace_22 : decode cX4_whyNoPlace 22 = .ok (.aload_n 0, 1) := by decide +kernel
theorem dX4_whyNoPlace_23 : decode cX4_whyNoPlace 23 = .ok (.getfield 20, 3) := by decide +kernel
theorem dX4_whyNoPlace_26 : decode cX4_whyNoPlace 26 = .ok (.iload_n 1, 1) := by decide +kernel
theorem dX4_whyNoPlace_27 : decode cX4_whyNoPlace 27 = .ok (.iaload, 1) := by decide +kernel
theorem dX4_whyNoPlace_28 : decode cX4_whyNoPlace 28 = .ok (.iconst 1, 1) := by decide +kernel
theorem dX4_whyNoPlace_29 : decode cX4_whyNoPlace 29 = .ok (.isub, 1) := by decide +kernel
theorem dX4_whyNoPlace_30 : decode cX4_whyNoPlace 30 = .ok (.invokestatic 29, 3) := by decide +kernel
theorem dX4_whyNoPlace_33 : decode cX4_whyNoPlace 33 = .ok (.ifCond .eq 7, 3) := by decide +kernel
theorem dX4_whyNoPlace_36 : decode cX4_whyNoPlace 36 = .ok (.iconst 0, 1) := by decide +kernel
theorem dX4_whyNoPlace_37 : decode cX4_whyNoPlace 37 = .ok (.goto 4, 3) := by decide +kernel
theorem dX4_whyNoPlace_40 : decode cX4_whyNoPlace 40 = .ok (.iconst 3, 1) := by decide +kernel
theorem dX4_whyNoPlace_41 : decode cX4_whyNoPlace 41 = .ok (.ireturn, 1) := by decide +kernel
set_option maxRecDepth 20000 in
theorem ggX4_whyNotFirst_X4_isMissing : GoodIn wsX4_whyNotFirst wsX4_isMissing := goodIn_r _ [7, 1, 11, 12, 13] (by decide +kernel) (by decide +kernel)
set_option maxRecDepth 20000 in
theorem gX4_whyNotFirst_X4_isMissing : GoodIn wsX4_whyNotFirst (wsV RX4 44 RX4 yX4_isMissing wsX4_isMissing) := goodIn_app (goodIn_of _ (by decide +kernel)) ggX4_whyNotFirst_X4_isMissing
set_option maxRecDepth 20000 in
theorem ggX4_whyNotFirst_X6_within : GoodIn wsX4_whyNotFirst wsX6_within := goodIn_r _ [10] (by decide +kernel) (by decide +kernel)
set_option maxRecDepth 20000 in
theorem gX4_whyNotFirst_X6_within_n29 : GoodIn wsX4_whyNotFirst (wsX6_within) := ggX4_whyNotFirst_X6_within
theorem dX4_whyNotFirst_0 : decode cX4_whyNotFirst 0 = .ok (.aload_n 0, 1) := by decide +kernel
theorem dX4_whyNotFirst_1 : decode cX4_whyNotFirst 1 = .ok (.iload_n 1, 1) := by decide +kernel
theorem dX4_whyNotFirst_2 : decode cX4_whyNotFirst 2 = .ok (.invokevirtual 44, 3) := by decide +kernel
theorem dX4_whyNotFirst_5 : decode cX4_whyNotFirst 5 = .ok (.ifCond .eq 5, 3) := by decide +kernel
theorem dX4_whyNotFirst_8 : decode cX4_whyNotFirst 8 = .ok (.iconst 2, 1) := by decide +kernel
theorem dX4_whyNotFirst_9 : decode cX4_whyNotFirst 9 = .ok (.ireturn, 1) := by decide +kernel
theorem dX4_whyNotFirst_10 : decode cX4_whyNotFirst 10 = .ok (.iload_n 2, 1) := by decide +kernel
theorem dX4_whyNotFirst_11 : decode cX4_whyNotFirst 11 = .ok (.aload_n 0, 1) := by decide +kernel
theorem dX4_whyNotFirst_12 : decode cX4_whyNotFirst 12 = .ok (.getfield 20, 3) := by decide +kernel
theorem dX4_whyNotFirst_15 : decode cX4_whyNotFirst 15 = .ok (.iload_n 1, 1) := by decide +kernel
theorem dX4_whyNotFirst_16 : decode cX4_whyNotFirst 16 = .ok (.iaload, 1) := by decide +kernel
theorem dX4_whyNotFirst_17 : decode cX4_whyNotFirst 17 = .ok (.if_icmp .le 5, 3) := by decide +kernel
theorem dX4_whyNotFirst_20 : decode cX4_whyNotFirst 20 = .ok (.iconst 3, 1) := by decide +kernel
theorem dX4_whyNotFirst_21 : decode cX4_whyNotFirst 21 = .ok (.ireturn, 1) := by decide +kernel
theorem dX4_whyNotFirst_22 : decode cX4_whyNotFirst 22 = .ok (.iconst 0, 1) := by decide +kernel
theorem dX4_whyNotFirst_23 : decode cX4_whyNotFirst 23 = .ok (.istore 4, 2) := by decide +kernel
theorem dX4_whyNotFirst_25 : decode cX4_whyNotFirst 25 = .ok (.iload 4, 2) := by decide +kernel
theorem dX4_whyNotFirst_27 : decode cX4_whyNotFirst 27 = .ok (.iload_n 2, 1) := by decide +kernel
theorem dX4_whyNotFirst_28 : decode cX4_whyNotFirst 28 = .ok (.if_icmp .ge 28, 3) := by decide +kernel
theorem dX4_whyNotFirst_31 : decode cX4_whyNotFirst 31 = .ok (.aload_n 0, 1) := by decide +kernel
theorem dX4_whyNotFirst_32 : decode cX4_whyNotFirst 32 = .ok (.getfield 13, 3) := by decide +kernel
theorem dX4_whyNotFirst_35 : decode cX4_whyNotFirst 35 = .ok (.iload_n 1, 1) := by decide +kernel
theorem dX4_whyNotFirst_36 : decode cX4_whyNotFirst 36 = .ok (.aaload, 1) := by decide +kernel
theorem dX4_whyNotFirst_37 : decode cX4_whyNotFirst 37 = .ok (.iload 4, 2) := by decide +kernel
theorem dX4_whyNotFirst_39 : decode cX4_whyNotFirst 39 = .ok (.laload, 1) := by decide +kernel
theorem dX4_whyNotFirst_40 : decode cX4_whyNotFirst 40 = .ok (.iconst 0, 1) := by decide +kernel
theorem dX4_whyNotFirst_41 : decode cX4_whyNotFirst 41 = .ok (.iload_n 3, 1) := by decide +kernel
theorem dX4_whyNotFirst_42 : decode cX4_whyNotFirst 42 = .ok (.invokestatic 29, 3) := by decide +kernel
theorem dX4_whyNotFirst_45 : decode cX4_whyNotFirst 45 = .ok (.ifCond .ne 5, 3) := by decide +kernel
theorem dX4_whyNotFirst_48 : decode cX4_whyNotFirst 48 = .ok (.iconst 1, 1) := by decide +kernel
theorem dX4_whyNotFirst_49 : decode cX4_whyNotFirst 49 = .ok (.ireturn, 1) := by decide +kernel
theorem dX4_whyNotFirst_50 : decode cX4_whyNotFirst 50 = .ok (.iinc 4 1, 3) := by decide +kernel
theorem dX4_whyNotFirst_53 : decode cX4_whyNotFirst 53 = .ok (.goto (-28), 3) := by decide +kernel
theorem dX4_whyNotFirst_56 : decode cX4_whyNotFirst 56 = .ok (.iconst 0, 1) := by decide +kernel
theorem dX4_whyNotFirst_57 : decode cX4_whyNotFirst 57 = .ok (.ireturn, 1) := by decide +kernel
theorem dX4_spans_0 : decode cX4_spans 0 = .ok (.iload_n 2, 1) := by decide +kernel
theorem dX4_spans_1 : decode cX4_spans 1 = .ok (.i2l, 1) := by decide +kernel
theorem dX4_spans_2 : decode cX4_spans 2 = .ok (.iload_n 3, 1) := by decide +kernel
theorem dX4_spans_3 : decode cX4_spans 3 = .ok (.i2l, 1) := by decide +kernel
theorem dX4_spans_4 : decode cX4_spans 4 = .ok (.ladd, 1) := by decide +kernel
theorem dX4_spans_5 : decode cX4_spans 5 = .ok (.aload_n 0, 1) := by decide +kernel
theorem dX4_spans_6 : decode cX4_spans 6 = .ok (.getfield 20, 3) := by decide +kernel
theorem dX4_spans_9 : decode cX4_spans 9 = .ok (.iload_n 1, 1) := by decide +kernel
theorem dX4_spans_10 : decode cX4_spans 10 = .ok (.iaload, 1) := by decide +kernel
theorem dX4_spans_11 : decode cX4_spans 11 = .ok (.i2l, 1) := by decide +kernel
theorem dX4_spans_12 : decode cX4_spans 12 = .ok (.lcmp, 1) := by decide +kernel
theorem dX4_spans_13 : decode cX4_spans 13 = .ok (.ifCond .gt 7, 3) := by decide +kernel
theorem dX4_spans_16 : decode cX4_spans 16 = .ok (.iconst 1, 1) := by decide +kernel
theorem dX4_spans_17 : decode cX4_spans 17 = .ok (.goto 4, 3) := by decide +kernel
theorem dX4_spans_20 : decode cX4_spans 20 = .ok (.iconst 0, 1) := by decide +kernel
theorem dX4_spans_21 : decode cX4_spans 21 = .ok (.ireturn, 1) := by decide +kernel
set_option maxRecDepth 20000 in
theorem ggX4_carry_X4_put : GoodIn wsX4_carry wsX4_put := goodIn_r _ [10, 1, 11, 12, 13, 9, 14, 15, 16, 17] (by decide +kernel) (by decide +kernel)
set_option maxRecDepth 20000 in
theorem gX4_carry_X4_put : GoodIn wsX4_carry (wsV RX4 53 RX4 yX4_put wsX4_put) := goodIn_app (goodIn_of _ (by decide +kernel)) ggX4_carry_X4_put
theorem dX4_carry_0 : decode cX4_carry 0 = .ok (.aload_n 0, 1) := by decide +kernel
theorem dX4_carry_1 : decode cX4_carry 1 = .ok (.getfield 13, 3) := by decide +kernel
theorem dX4_carry_4 : decode cX4_carry 4 = .ok (.iload_n 1, 1) := by decide +kernel
theorem dX4_carry_5 : decode cX4_carry 5 = .ok (.aaload, 1) := by decide +kernel
theorem dX4_carry_6 : decode cX4_carry 6 = .ok (.iload_n 2, 1) := by decide +kernel
theorem dX4_carry_7 : decode cX4_carry 7 = .ok (.aload_n 0, 1) := by decide +kernel
theorem dX4_carry_8 : decode cX4_carry 8 = .ok (.getfield 13, 3) := by decide +kernel
theorem dX4_carry_11 : decode cX4_carry 11 = .ok (.iload_n 3, 1) := by decide +kernel
theorem dX4_carry_12 : decode cX4_carry 12 = .ok (.aaload, 1) := by decide +kernel
theorem dX4_carry_13 : decode cX4_carry 13 = .ok (.iload 4, 2) := by decide +kernel
theorem dX4_carry_15 : decode cX4_carry 15 = .ok (.iload 5, 2) := by decide +kernel
theorem dX4_carry_17 : decode cX4_carry 17 = .ok (.invokestatic 47, 3) := by decide +kernel
theorem dX4_carry_20 : decode cX4_carry 20 = .ok (.iload 4, 2) := by decide +kernel
theorem dX4_carry_22 : decode cX4_carry 22 = .ok (.istore 6, 2) := by decide +kernel
theorem dX4_carry_24 : decode cX4_carry 24 = .ok (.iload 6, 2) := by decide +kernel
theorem dX4_carry_26 : decode cX4_carry 26 = .ok (.iload 4, 2) := by decide +kernel
theorem dX4_carry_28 : decode cX4_carry 28 = .ok (.iload 5, 2) := by decide +kernel
theorem dX4_carry_30 : decode cX4_carry 30 = .ok (.iadd, 1) := by decide +kernel
theorem dX4_carry_31 : decode cX4_carry 31 = .ok (.if_icmp .ge 25, 3) := by decide +kernel
theorem dX4_carry_34 : decode cX4_carry 34 = .ok (.aload_n 0, 1) := by decide +kernel
theorem dX4_carry_35 : decode cX4_carry 35 = .ok (.iload_n 3, 1) := by decide +kernel
theorem dX4_carry_36 : decode cX4_carry 36 = .ok (.iload 6, 2) := by decide +kernel
theorem dX4_carry_38 : decode cX4_carry 38 = .ok (.aload_n 0, 1) := by decide +kernel
theorem dX4_carry_39 : decode cX4_carry 39 = .ok (.getfield 13, 3) := by decide +kernel
theorem dX4_carry_42 : decode cX4_carry 42 = .ok (.iload_n 3, 1) := by decide +kernel
theorem dX4_carry_43 : decode cX4_carry 43 = .ok (.aaload, 1) := by decide +kernel
theorem dX4_carry_44 : decode cX4_carry 44 = .ok (.iload 6, 2) := by decide +kernel
theorem dX4_carry_46 : decode cX4_carry 46 = .ok (.laload, 1) := by decide +kernel
theorem dX4_carry_47 : decode cX4_carry 47 = .ok (.invokevirtual 53, 3) := by decide +kernel
theorem dX4_carry_50 : decode cX4_carry 50 = .ok (.iinc 6 1, 3) := by decide +kernel
theorem dX4_carry_53 : decode cX4_carry 53 = .ok (.goto (-29), 3) := by decide +kernel
theorem dX4_carry_56 : decode cX4_carry 56 = .ok (.return_, 1) := by decide +kernel
theorem dX4_cut_0 : decode cX4_cut 0 = .ok (.iload_n 2, 1) := by decide +kernel
theorem dX4_cut_1 : decode cX4_cut 1 = .ok (.tableswitch 41 0 2 #[27, 32, 37], 27) := by decide +kernel
theorem dX4_cut_28 : decode cX4_cut 28 = .ok (.lload_n 0, 1) := by decide +kernel
theorem dX4_cut_29 : decode cX4_cut 29 = .ok (.l2i, 1) := by decide +kernel
theorem dX4_cut_30 : decode cX4_cut 30 = .ok (.i2b, 1) := by decide +kernel
theorem dX4_cut_31 : decode cX4_cut 31 = .ok (.i2l, 1) := by decide +kernel
theorem dX4_cut_32 : decode cX4_cut 32 = .ok (.lreturn, 1) := by decide +kernel
theorem dX4_cut_33 : decode cX4_cut 33 = .ok (.lload_n 0, 1) := by decide +kernel
theorem dX4_cut_34 : decode cX4_cut 34 = .ok (.l2i, 1) := by decide +kernel
theorem dX4_cut_35 : decode cX4_cut 35 = .ok (.i2s, 1) := by decide +kernel
theorem dX4_cut_36 : decode cX4_cut 36 = .ok (.i2l, 1) := by decide +kernel
theorem dX4_cut_37 : decode cX4_cut 37 = .ok (.lreturn, 1) := by decide +kernel
theorem dX4_cut_38 : decode cX4_cut 38 = .ok (.lload_n 0, 1) := by decide +kernel
theorem dX4_cut_39 : decode cX4_cut 39 = .ok (.l2i, 1) := by decide +kernel
theorem dX4_cut_40 : decode cX4_cut 40 = .ok (.i2l, 1) := by decide +kernel
theorem dX4_cut_41 : decode cX4_cut 41 = .ok (.lreturn, 1) := by decide +kernel
theorem dX4_cut_42 : decode cX4_cut 42 = .ok (.lload_n 0, 1) := by decide +kernel
theorem dX4_cut_43 : decode cX4_cut 43 = .ok (.lreturn, 1) := by decide +kernel
theorem dX5_init_0 : decode cX5_init 0 = .ok (.aload_n 0, 1) := by decide +kernel
theorem dX5_init_1 : decode cX5_init 1 = .ok (.invokespecial 1, 3) := by decide +kernel
theorem dX5_init_4 : decode cX5_init 4 = .ok (.aload_n 0, 1) := by decide +kernel
theorem dX5_init_5 : decode cX5_init 5 = .ok (.bipush 20, 2) := by decide +kernel
theorem dX5_init_7 : decode cX5_init 7 = .ok (.newarray .int, 2) := by decide +kernel
theorem dX5_init_9 : decode cX5_init 9 = .ok (.putfield 9, 3) := by decide +kernel
theorem dX5_init_12 : decode cX5_init 12 = .ok (.return_, 1) := by decide +kernel
set_option maxRecDepth 20000 in
theorem ggX5_serve_J7_fill_53178 : GoodIn wsX5_serve wsJ7_fill_53178 := goodIn_r _ [14] (by decide +kernel) (by decide +kernel)
set_option maxRecDepth 20000 in
theorem gX5_serve_J7_fill_53178 : GoodIn wsX5_serve (va_wsS RX5 29 yJ7_fill_53178 wsJ7_fill_53178) := goodIn_app (goodIn_of _ (by decide +kernel)) ggX5_serve_J7_fill_53178
set_option maxRecDepth 20000 in
theorem ggX5_serve_X4_at : GoodIn wsX5_serve wsX4_at := goodIn_r _ [19, 20, 32, 33, 34] (by decide +kernel) (by decide +kernel)
set_option maxRecDepth 20000 in
theorem gX5_serve_X4_at : GoodIn wsX5_serve (wsV RX5 35 RX4 yX4_at wsX4_at) := goodIn_app (goodIn_of _ (by decide +kernel)) ggX5_serve_X4_at
set_option maxRecDepth 20000 in
theorem ggX5_serve_X5_note : GoodIn wsX5_serve wsX5_note := goodIn_r _ [25, 1, 7, 8, 9, 10, 2, 3, 4, 26, 27, 28, 29, 30, 31] (by decide +kernel) (by decide +kernel)
set_option maxRecDepth 20000 in
theorem gX5_serve_X5_note : GoodIn wsX5_serve (wsV RX5 47 RX5 yX5_note wsX5_note) := goodIn_app (goodIn_of _ (by decide +kernel)) ggX5_serve_X5_note
theorem dX5_serve_0 : decode cX5_serve 0 = .ok (.aload_n 0, 1) := by decide +kernel
theorem dX5_serve_1 : decode cX5_serve 1 = .ok (.iconst 0, 1) := by decide +kernel
theorem dX5_serve_2 : decode cX5_serve 2 = .ok (.putfield 13, 3) := by decide +kernel
theorem dX5_serve_5 : decode cX5_serve 5 = .ok (.aload_n 0, 1) := by decide +kernel
theorem dX5_serve_6 : decode cX5_serve 6 = .ok (.iconst 0, 1) := by decide +kernel
theorem dX5_serve_7 : decode cX5_serve 7 = .ok (.putfield 17, 3) := by decide +kernel
theorem dX5_serve_10 : decode cX5_serve 10 = .ok (.aload_n 0, 1) := by decide +kernel
theorem dX5_serve_11 : decode cX5_serve 11 = .ok (.iconst 0, 1) := by decide +kernel
theorem dX5_serve_12 : decode cX5_serve 12 = .ok (.putfield 20, 3) := by decide +kernel
theorem dX5_serve_15 : decode cX5_serve 15 = .ok (.aload_n 0, 1) := by decide +kernel
theorem dX5_serve_16 : decode cX5_serve 16 = .ok (.iconst 0, 1) := by decide +kernel
theorem dX5_serve_17 : decode cX5_serve 17 = .ok (.putfield 23, 3) := by decide +kernel
theorem dX5_serve_20 : decode cX5_serve 20 = .ok (.aload_n 0, 1) := by decide +kernel
theorem dX5_serve_21 : decode cX5_serve 21 = .ok (.iconst 0, 1) := by decide +kernel
theorem dX5_serve_22 : decode cX5_serve 22 = .ok (.putfield 26, 3) := by decide +kernel
theorem dX5_serve_25 : decode cX5_serve 25 = .ok (.aload_n 0, 1) := by decide +kernel
theorem dX5_serve_26 : decode cX5_serve 26 = .ok (.getfield 9, 3) := by decide +kernel
theorem dX5_serve_29 : decode cX5_serve 29 = .ok (.iconst 0, 1) := by decide +kernel
theorem dX5_serve_30 : decode cX5_serve 30 = .ok (.invokestatic 29, 3) := by decide +kernel
theorem dX5_serve_33 : decode cX5_serve 33 = .ok (.iconst 0, 1) := by decide +kernel
theorem dX5_serve_34 : decode cX5_serve 34 = .ok (.istore 6, 2) := by decide +kernel
theorem dX5_serve_36 : decode cX5_serve 36 = .ok (.iconst 0, 1) := by decide +kernel
theorem dX5_serve_37 : decode cX5_serve 37 = .ok (.istore 7, 2) := by decide +kernel
theorem dX5_serve_39 : decode cX5_serve 39 = .ok (.iload 7, 2) := by decide +kernel
theorem dX5_serve_41 : decode cX5_serve 41 = .ok (.iload_n 3, 1) := by decide +kernel
theorem dX5_serve_42 : decode cX5_serve 42 = .ok (.if_icmp .ge 98, 3) := by decide +kernel
theorem dX5_serve_45 : decode cX5_serve 45 = .ok (.aload_n 1, 1) := by decide +kernel
theorem dX5_serve_46 : decode cX5_serve 46 = .ok (.iload_n 2, 1) := by decide +kernel
theorem dX5_serve_47 : decode cX5_serve 47 = .ok (.iload 7, 2) := by decide +kernel
theorem dX5_serve_49 : decode cX5_serve 49 = .ok (.invokevirtual 35, 3) := by decide +kernel
theorem dX5_serve_52 : decode cX5_serve 52 = .ok (.lstore 8, 2) := by decide +kernel
theorem dX5_serve_54 : decode cX5_serve 54 = .ok (.iconst 0, 1) := by decide +kernel
theorem dX5_serve_55 : decode cX5_serve 55 = .ok (.istore 10, 2) := by decide +kernel
theorem dX5_serve_57 : decode cX5_serve 57 = .ok (.iload 10, 2) := by decide +kernel
theorem dX5_serve_59 : decode cX5_serve 59 = .ok (.i2l, 1) := by decide +kernel
theorem dX5_serve_60 : decode cX5_serve 60 = .ok (.lload 8, 2) := by decide +kernel
theorem dX5_serve_62 : decode cX5_serve 62 = .ok (.lcmp, 1) := by decide +kernel
theorem dX5_serve_63 : decode cX5_serve 63 = .ok (.ifCond .ge 71, 3) := by decide +kernel
theorem dX5_serve_66 : decode cX5_serve 66 = .ok (.iload 7, 2) := by decide +kernel
theorem dX5_serve_68 : decode cX5_serve 68 = .ok (.aload_n 0, 1) := by decide +kernel
theorem dX5_serve_69 : decode cX5_serve 69 = .ok (.getfield 9, 3) := by decide +kernel
theorem dX5_serve_72 : decode cX5_serve 72 = .ok (.iload 6, 2) := by decide +kernel
theorem dX5_serve_74 : decode cX5_serve 74 = .ok (.iaload, 1) := by decide +kernel
theorem dX5_serve_75 : decode cX5_serve 75 = .ok (.invokestatic 41, 3) := by decide +kernel
theorem dX5_serve_78 : decode cX5_serve 78 = .ok (.istore 11, 2) := by decide +kernel
theorem dX5_serve_80 : decode cX5_serve 80 = .ok (.aload_n 0, 1) := by decide +kernel
theorem dX5_serve_81 : decode cX5_serve 81 = .ok (.iload 11, 2) := by decide +kernel
theorem dX5_serve_83 : decode cX5_serve 83 = .ok (.iload 7, 2) := by decide +kernel
theorem dX5_serve_85 : decode cX5_serve 85 = .ok (.isub, 1) := by decide +kernel
theorem dX5_serve_86 : decode cX5_serve 86 = .ok (.invokevirtual 47, 3) := by decide +kernel
theorem dX5_serve_89 : decode cX5_serve 89 = .ok (.aload_n 0, 1) := by decide +kernel
theorem dX5_serve_90 : decode cX5_serve 90 = .ok (.iload 11, 2) := by decide +kernel
theorem dX5_serve_92 : decode cX5_serve 92 = .ok (.iload 5, 2) := by decide +kernel
theorem dX5_serve_94 : decode cX5_serve 94 = .ok (.iadd, 1) := by decide +kernel
theorem dX5_serve_95 : decode cX5_serve 95 = .ok (.putfield 26, 3) := by decide +kernel
theorem dX5_serve_98 : decode cX5_serve 98 = .ok (.aload_n 0, 1) := by decide +kernel
theorem dX5_serve_99 : decode cX5_serve 99 = .ok (.getfield 9, 3) := by decide +kernel
theorem dX5_serve_102 : decode cX5_serve 102 = .ok (.iload 6, 2) := by decide +kernel
theorem dX5_serve_104 : decode cX5_serve 104 = .ok (.aload_n 0, 1) := by decide +kernel
theorem dX5_serve_105 : decode cX5_serve 105 = .ok (.getfield 26, 3) := by decide +kernel
theorem dX5_serve_108 : decode cX5_serve 108 = .ok (.iastore, 1) := by decide +kernel
theorem dX5_serve_109 : decode cX5_serve 109 = .ok (.iload 6, 2) := by decide +kernel
theorem dX5_serve_111 : decode cX5_serve 111 = .ok (.iconst 1, 1) := by decide +kernel
theorem dX5_serve_112 : decode cX5_serve 112 = .ok (.iadd, 1) := by decide +kernel
theorem dX5_serve_113 : decode cX5_serve 113 = .ok (.iload 4, 2) := by decide +kernel
theorem dX5_serve_115 : decode cX5_serve 115 = .ok (.if_icmp .ge 10, 3) := by decide +kernel
theorem dX5_serve_118 : decode cX5_serve 118 = .ok (.iload 6, 2) := by decide +kernel
theorem dX5_serve_120 : decode cX5_serve 120 = .ok (.iconst 1, 1) := by decide +kernel
theorem dX5_serve_121 : decode cX5_serve 121 = .ok (.iadd, 1) := by decide +kernel
theorem dX5_serve_122 : decode cX5_serve 122 = .ok (.goto 4, 3) := by decide +kernel
theorem dX5_serve_125 : decode cX5_serve 125 = .ok (.iconst 0, 1) := by decide +kernel
theorem dX5_serve_126 : decode cX5_serve 126 = .ok (.istore 6, 2) := by decide +kernel
theorem dX5_serve_128 : decode cX5_serve 128 = .ok (.iinc 10 1, 3) := by decide +kernel
theorem dX5_serve_131 : decode cX5_serve 131 = .ok (.goto (-74), 3) := by decide +kernel
theorem dX5_serve_134 : decode cX5_serve 134 = .ok (.iinc 7 1, 3) := by decide +kernel
theorem dX5_serve_137 : decode cX5_serve 137 = .ok (.goto (-98), 3) := by decide +kernel
theorem dX5_serve_140 : decode cX5_serve 140 = .ok (.return_, 1) := by decide +kernel
theorem dX5_told_0 : decode cX5_told 0 = .ok (.iload_n 1, 1) := by decide +kernel
theorem dX5_told_1 : decode cX5_told 1 = .ok (.tableswitch 51 0 3 #[31, 36, 41, 46], 31) := by decide +kernel
theorem dX5_told_32 : decode cX5_told 32 = .ok (.aload_n 0, 1) := by decide +kernel
theorem dX5_told_33 : decode cX5_told 33 = .ok (.getfield 13, 3) := by decide +kernel
theorem dX5_told_36 : decode cX5_told 36 = .ok (.ireturn, 1) := by decide +kernel
theorem dX5_told_37 : decode cX5_told 37 = .ok (.aload_n 0, 1) := by decide +kernel
theorem dX5_told_38 : decode cX5_told 38 = .ok (.getfield 17, 3) := by decide +kernel
theorem dX5_told_41 : decode cX5_told 41 = .ok (.ireturn, 1) := by decide +kernel
theorem dX5_told_42 : decode cX5_told 42 = .ok (.aload_n 0, 1) := by decide +kernel
theorem dX5_told_43 : decode cX5_told 43 = .ok (.getfield 20, 3) := by decide +kernel
theorem dX5_told_46 : decode cX5_told 46 = .ok (.ireturn, 1) := by decide +kernel
theorem dX5_told_47 : decode cX5_told 47 = .ok (.aload_n 0, 1) := by decide +kernel
theorem dX5_told_48 : decode cX5_told 48 = .ok (.getfield 23, 3) := by decide +kernel
theorem dX5_told_51 : decode cX5_told 51 = .ok (.ireturn, 1) := by decide +kernel
theorem dX5_told_52 : decode cX5_told 52 = .ok (.aload_n 0, 1) := by decide +kernel
theorem dX5_told_53 : decode cX5_told 53 = .ok (.getfield 26, 3) := by decide +kernel
theorem dX5_told_56 : decode cX5_told 56 = .ok (.ireturn, 1) := by decide +kernel
theorem dX5_note_0 : decode cX5_note 0 = .ok (.aload_n 0, 1) := by decide +kernel
theorem dX5_note_1 : decode cX5_note 1 = .ok (.aload_n 0, 1) := by decide +kernel
theorem dX5_note_2 : decode cX5_note 2 = .ok (.getfield 13, 3) := by decide +kernel
theorem dX5_note_5 : decode cX5_note 5 = .ok (.iload_n 1, 1) := by decide +kernel
theorem dX5_note_6 : decode cX5_note 6 = .ok (.invokestatic 41, 3) := by decide +kernel
theorem dX5_note_9 : decode cX5_note 9 = .ok (.putfield 13, 3) := by decide +kernel
theorem dX5_note_12 : decode cX5_note 12 = .ok (.aload_n 0, 1) := by decide +kernel
theorem dX5_note_13 : decode cX5_note 13 = .ok (.dup, 1) := by decide +kernel
theorem dX5_note_14 : decode cX5_note 14 = .ok (.getfield 17, 3) := by decide +kernel
theorem dX5_note_17 : decode cX5_note 17 = .ok (.iload_n 1, 1) := by decide +kernel
theorem dX5_note_18 : decode cX5_note 18 = .ok (.iadd, 1) := by decide +kernel
theorem dX5_note_19 : decode cX5_note 19 = .ok (.putfield 17, 3) := by decide +kernel
theorem dX5_note_22 : decode cX5_note 22 = .ok (.aload_n 0, 1) := by decide +kernel
theorem dX5_note_23 : decode cX5_note 23 = .ok (.dup, 1) := by decide +kernel
theorem dX5_note_24 : decode cX5_note 24 = .ok (.getfield 20, 3) := by decide +kernel
theorem dX5_note_27 : decode cX5_note 27 = .ok (.iconst 1, 1) := by decide +kernel
theorem dX5_note_28 : decode cX5_note 28 = .ok (.iadd, 1) := by decide +kernel
theorem dX5_note_29 : decode cX5_note 29 = .ok (.putfield 20, 3) := by decide +kernel
theorem dX5_note_32 : decode cX5_note 32 = .ok (.aload_n 0, 1) := by decide +kernel
theorem dX5_note_33 : decode cX5_note 33 = .ok (.dup, 1) := by decide +kernel
theorem dX5_note_34 : decode cX5_note 34 = .ok (.getfield 23, 3) := by decide +kernel
theorem dX5_note_37 : decode cX5_note 37 = .ok (.iload_n 1, 1) := by decide +kernel
theorem dX5_note_38 : decode cX5_note 38 = .ok (.ifCond .le 7, 3) := by decide +kernel
theorem dX5_note_41 : decode cX5_note 41 = .ok (.iconst 1, 1) := by decide +kernel
theorem dX5_note_42 : decode cX5_note 42 = .ok (.goto 4, 3) := by decide +kernel
theorem dX5_note_45 : decode cX5_note 45 = .ok (.iconst 0, 1) := by decide +kernel
theorem dX5_note_46 : decode cX5_note 46 = .ok (.iadd, 1) := by decide +kernel
theorem dX5_note_47 : decode cX5_note 47 = .ok (.putfield 23, 3) := by decide +kernel
theorem dX5_note_50 : decode cX5_note 50 = .ok (.return_, 1) := by decide +kernel
set_option maxRecDepth 20000 in
theorem ggX6_init_X4_init : GoodIn wsX6_init wsX4_init := goodIn_r _ [27, 28, 2, 3, 29, 30, 31, 32, 33, 34, 35, 36, 37, 38, 96, 97, 98] (by decide +kernel) (by decide +kernel)
set_option maxRecDepth 20000 in
theorem gX6_init_X4_init : GoodIn wsX6_init (wsX4_init) := ggX6_init_X4_init
set_option maxRecDepth 20000 in
theorem ggX6_init_X1_init : GoodIn wsX6_init wsX1_init := goodIn_r _ [41, 42, 2, 3, 32, 43, 44, 45, 46, 47, 48, 49, 50, 51, 52, 53, 105, 106, 107, 108, 109, 110, 111, 112, 113, 114, 115, 116, 117] (by decide +kernel) (by decide +kernel)
set_option maxRecDepth 20000 in
theorem gX6_init_X1_init : GoodIn wsX6_init (wsX1_init) := ggX6_init_X1_init
set_option maxRecDepth 20000 in
theorem ggX6_init_X3_init : GoodIn wsX6_init wsX3_init := goodIn_r _ [56, 57, 2, 3, 58, 32, 59, 60, 61, 62, 63, 64, 65, 66, 67, 68, 69, 70, 71, 72, 73, 74, 75, 76, 77, 118, 119, 120, 121, 122, 123, 124, 125, 126, 145, 146, 147, 148] (by decide +kernel) (by decide +kernel)
set_option maxRecDepth 20000 in
theorem gX6_init_X3_init : GoodIn wsX6_init (wsX3_init) := ggX6_init_X3_init
set_option maxRecDepth 20000 in
theorem ggX6_init_X5_init : GoodIn wsX6_init wsX5_init := goodIn_r _ [80, 81, 2, 3, 32, 82, 127, 128, 129, 130, 131, 132] (by decide +kernel) (by decide +kernel)
set_option maxRecDepth 20000 in
theorem gX6_init_X5_init : GoodIn wsX6_init (wsX5_init) := ggX6_init_X5_init
set_option maxRecDepth 20000 in
theorem ggX6_init_X2_init : GoodIn wsX6_init wsX2_init := goodIn_r _ [85, 86, 2, 3, 87, 32, 88, 89, 90, 91, 92, 93, 94, 30, 95, 133, 134, 135, 136, 137, 138, 139, 140, 141, 142, 143, 144] (by decide +kernel) (by decide +kernel)
set_option maxRecDepth 20000 in
theorem gX6_init_X2_init : GoodIn wsX6_init (wsX2_init) := ggX6_init_X2_init
theorem dX6_init_0 : decode cX6_init 0 = .ok (.aload_n 0, 1) := by decide +kernel
theorem dX6_init_1 : decode cX6_init 1 = .ok (.invokespecial 1, 3) := by decide +kernel
theorem dX6_init_4 : decode cX6_init 4 = .ok (.aload_n 0, 1) := by decide +kernel
theorem dX6_init_5 : decode cX6_init 5 = .ok (.new 7, 3) := by decide +kernel
theorem dX6_init_8 : decode cX6_init 8 = .ok (.dup, 1) := by decide +kernel
theorem dX6_init_9 : decode cX6_init 9 = .ok (.invokespecial 9, 3) := by decide +kernel
theorem dX6_init_12 : decode cX6_init 12 = .ok (.putfield 10, 3) := by decide +kernel
theorem dX6_init_15 : decode cX6_init 15 = .ok (.aload_n 0, 1) := by decide +kernel
theorem dX6_init_16 : decode cX6_init 16 = .ok (.new 16, 3) := by decide +kernel
theorem dX6_init_19 : decode cX6_init 19 = .ok (.dup, 1) := by decide +kernel
theorem dX6_init_20 : decode cX6_init 20 = .ok (.invokespecial 18, 3) := by decide +kernel
theorem dX6_init_23 : decode cX6_init 23 = .ok (.putfield 19, 3) := by decide +kernel
theorem dX6_init_26 : decode cX6_init 26 = .ok (.aload_n 0, 1) := by decide +kernel
theorem dX6_init_27 : decode cX6_init 27 = .ok (.new 23, 3) := by decide +kernel
theorem dX6_init_30 : decode cX6_init 30 = .ok (.dup, 1) := by decide +kernel
theorem dX6_init_31 : decode cX6_init 31 = .ok (.invokespecial 25, 3) := by decide +kernel
theorem dX6_init_34 : decode cX6_init 34 = .ok (.putfield 26, 3) := by decide +kernel
theorem dX6_init_37 : decode cX6_init 37 = .ok (.aload_n 0, 1) := by decide +kernel
theorem dX6_init_38 : decode cX6_init 38 = .ok (.new 30, 3) := by decide +kernel
theorem dX6_init_41 : decode cX6_init 41 = .ok (.dup, 1) := by decide +kernel
theorem dX6_init_42 : decode cX6_init 42 = .ok (.invokespecial 32, 3) := by decide +kernel
theorem dX6_init_45 : decode cX6_init 45 = .ok (.putfield 33, 3) := by decide +kernel
theorem dX6_init_48 : decode cX6_init 48 = .ok (.aload_n 0, 1) := by decide +kernel
theorem dX6_init_49 : decode cX6_init 49 = .ok (.new 37, 3) := by decide +kernel
theorem dX6_init_52 : decode cX6_init 52 = .ok (.dup, 1) := by decide +kernel
theorem dX6_init_53 : decode cX6_init 53 = .ok (.invokespecial 39, 3) := by decide +kernel
theorem dX6_init_56 : decode cX6_init 56 = .ok (.putfield 40, 3) := by decide +kernel
theorem dX6_init_59 : decode cX6_init 59 = .ok (.aload_n 0, 1) := by decide +kernel
theorem dX6_init_60 : decode cX6_init 60 = .ok (.iconst 0, 1) := by decide +kernel
theorem dX6_init_61 : decode cX6_init 61 = .ok (.putfield 44, 3) := by decide +kernel
theorem dX6_init_64 : decode cX6_init 64 = .ok (.return_, 1) := by decide +kernel
theorem dX6_status_0 : decode cX6_status 0 = .ok (.aload_n 0, 1) := by decide +kernel
theorem dX6_status_1 : decode cX6_status 1 = .ok (.getfield 44, 3) := by decide +kernel
theorem dX6_status_4 : decode cX6_status 4 = .ok (.ireturn, 1) := by decide +kernel
set_option maxRecDepth 20000 in
theorem ggX6_sheet_X4_isNumber : GoodIn wsX6_sheet wsX4_isNumber := goodIn_r _ [5, 6, 7, 8] (by decide +kernel) (by decide +kernel)
set_option maxRecDepth 20000 in
theorem gX6_sheet_X4_isNumber : GoodIn wsX6_sheet (va_wsS RX6 48 yX4_isNumber wsX4_isNumber) := goodIn_app (goodIn_of _ (by decide +kernel)) ggX6_sheet_X4_isNumber
set_option maxRecDepth 20000 in
theorem ggX6_sheet_X6_within : GoodIn wsX6_sheet wsX6_within := goodIn_r _ [8] (by decide +kernel) (by decide +kernel)
set_option maxRecDepth 20000 in
theorem gX6_sheet_X6_within : GoodIn wsX6_sheet (va_wsS RX6 52 yX6_within wsX6_within) := goodIn_app (goodIn_of _ (by decide +kernel)) ggX6_sheet_X6_within
set_option maxRecDepth 20000 in
theorem ggX6_sheet_X6_refuse : GoodIn wsX6_sheet wsX6_refuse := goodIn_r _ [13, 14, 30, 31, 32, 33, 34, 35] (by decide +kernel) (by decide +kernel)
set_option maxRecDepth 20000 in
theorem gX6_sheet_X6_refuse : GoodIn wsX6_sheet (wsV RX6 56 RX6 yX6_refuse wsX6_refuse) := goodIn_app (goodIn_of _ (by decide +kernel)) ggX6_sheet_X6_refuse
set_option maxRecDepth 20000 in
theorem ggX6_sheet_X4_make : GoodIn wsX6_sheet wsX4_make := goodIn_r _ [18, 19, 20, 21, 22, 23, 24, 25, 36, 37, 38] (by decide +kernel) (by decide +kernel)
set_option maxRecDepth 20000 in
theorem gX6_sheet_X4_make : GoodIn wsX6_sheet (wsV RX6 59 RX4 yX4_make wsX4_make) := goodIn_app (goodIn_of _ (by decide +kernel)) ggX6_sheet_X4_make
set_option maxRecDepth 20000 in
theorem ggX6_sheet_X6_agree : GoodIn wsX6_sheet wsX6_agree := goodIn_r _ [29, 14, 30, 31, 32, 33, 34, 35] (by decide +kernel) (by decide +kernel)
set_option maxRecDepth 20000 in
theorem gX6_sheet_X6_agree : GoodIn wsX6_sheet (wsV RX6 63 RX6 yX6_agree wsX6_agree) := goodIn_app (goodIn_of _ (by decide +kernel)) ggX6_sheet_X6_agree
theorem dX6_sheet_0 : decode cX6_sheet 0 = .ok (.iload_n 1, 1) := by decide +kernel
theorem dX6_sheet_1 : decode cX6_sheet 1 = .ok (.invokestatic 48, 3) := by decide +kernel
theorem dX6_sheet_4 : decode cX6_sheet 4 = .ok (.ifCond .eq 24, 3) := by decide +kernel
theorem dX6_sheet_7 : decode cX6_sheet 7 = .ok (.iload_n 2, 1) := by decide +kernel
theorem dX6_sheet_8 : decode cX6_sheet 8 = .ok (.i2l, 1) := by decide +kernel
theorem dX6_sheet_9 : decode cX6_sheet 9 = .ok (.iconst 0, 1) := by decide +kernel
theorem dX6_sheet_10 : decode cX6_sheet 10 = .ok (.iconst 3, 1) := by decide +kernel
theorem dX6_sheet_11 : decode cX6_sheet 11 = .ok (.invokestatic 52, 3) := by decide +kernel
theorem dX6_sheet_14 : decode cX6_sheet 14 = .ok (.ifCond .eq 14, 3) := by decide +kernel
theorem dX6_sheet_17 : decode cX6_sheet 17 = .ok (.iload_n 3, 1) := by decide +kernel
theorem dX6_sheet_18 : decode cX6_sheet 18 = .ok (.i2l, 1) := by decide +kernel
theorem dX6_sheet_19 : decode cX6_sheet 19 = .ok (.iconst 0, 1) := by decide +kernel
theorem dX6_sheet_20 : decode cX6_sheet 20 = .ok (.bipush 64, 2) := by decide +kernel
theorem dX6_sheet_22 : decode cX6_sheet 22 = .ok (.invokestatic 52, 3) := by decide +kernel
theorem dX6_sheet_25 : decode cX6_sheet 25 = .ok (.ifCond .ne 9, 3) := by decide +kernel
theorem dX6_sheet_28 : decode cX6_sheet 28 = .ok (.aload_n 0, 1) := by decide +kernel
theorem dX6_sheet_29 : decode cX6_sheet 29 = .ok (.iconst 1, 1) := by decide +kernel
theorem dX6_sheet_30 : decode cX6_sheet 30 = .ok (.invokevirtual 56, 3) := by decide +kernel
theorem dX6_sheet_33 : decode cX6_sheet 33 = .ok (.ireturn, 1) := by decide +kernel
theorem dX6_sheet_34 : decode cX6_sheet 34 = .ok (.aload_n 0, 1) := by decide +kernel
theorem dX6_sheet_35 : decode cX6_sheet 35 = .ok (.getfield 10, 3) := by decide +kernel
theorem dX6_sheet_38 : decode cX6_sheet 38 = .ok (.iload_n 1, 1) := by decide +kernel
theorem dX6_sheet_39 : decode cX6_sheet 39 = .ok (.iload_n 2, 1) := by decide +kernel
theorem dX6_sheet_40 : decode cX6_sheet 40 = .ok (.iload_n 3, 1) := by decide +kernel
theorem dX6_sheet_41 : decode cX6_sheet 41 = .ok (.invokevirtual 59, 3) := by decide +kernel
theorem dX6_sheet_44 : decode cX6_sheet 44 = .ok (.aload_n 0, 1) := by decide +kernel
theorem dX6_sheet_45 : decode cX6_sheet 45 = .ok (.invokevirtual 63, 3) := by decide +kernel
theorem dX6_sheet_48 : decode cX6_sheet 48 = .ok (.ireturn, 1) := by decide +kernel
set_option maxRecDepth 20000 in
theorem ggX6_write_X4_whyNoPlace : GoodIn wsX6_write wsX4_whyNoPlace := goodIn_r _ [6, 7, 8, 9, 5, 10, 11, 12, 13, 14, 15, 16, 17, 42, 43, 44] (by decide +kernel) (by decide +kernel)
set_option maxRecDepth 20000 in
theorem gX6_write_X4_whyNoPlace : GoodIn wsX6_write (wsV RX6 67 RX4 yX4_whyNoPlace wsX4_whyNoPlace) := goodIn_app (goodIn_of _ (by decide +kernel)) ggX6_write_X4_whyNoPlace
set_option maxRecDepth 20000 in
theorem ggX6_write_X6_refuse : GoodIn wsX6_write wsX6_refuse := goodIn_r _ [21, 22, 36, 37, 38, 39, 40, 41] (by decide +kernel) (by decide +kernel)
set_option maxRecDepth 20000 in
theorem gX6_write_X6_refuse : GoodIn wsX6_write (wsV RX6 56 RX6 yX6_refuse wsX6_refuse) := goodIn_app (goodIn_of _ (by decide +kernel)) ggX6_write_X6_refuse
set_option maxRecDepth 20000 in
theorem ggX6_write_X4_put : GoodIn wsX6_write wsX4_put := goodIn_r _ [26, 27, 28, 29, 30, 5, 31, 42, 43, 44] (by decide +kernel) (by decide +kernel)
set_option maxRecDepth 20000 in
theorem gX6_write_X4_put : GoodIn wsX6_write (wsV RX6 71 RX4 yX4_put wsX4_put) := goodIn_app (goodIn_of _ (by decide +kernel)) ggX6_write_X4_put
set_option maxRecDepth 20000 in
theorem ggX6_write_X6_agree : GoodIn wsX6_write wsX6_agree := goodIn_r _ [35, 22, 36, 37, 38, 39, 40, 41] (by decide +kernel) (by decide +kernel)
set_option maxRecDepth 20000 in
theorem gX6_write_X6_agree : GoodIn wsX6_write (wsV RX6 63 RX6 yX6_agree wsX6_agree) := goodIn_app (goodIn_of _ (by decide +kernel)) ggX6_write_X6_agree
theorem dX6_write_0 : decode cX6_write 0 = .ok (.aload_n 0, 1) := by decide +kernel
theorem dX6_write_1 : decode cX6_write 1 = .ok (.getfield 10, 3) := by decide +kernel
theorem dX6_write_4 : decode cX6_write 4 = .ok (.iload_n 1, 1) := by decide +kernel
theorem dX6_write_5 : decode cX6_write 5 = .ok (.iload_n 2, 1) := by decide +kernel
theorem dX6_write_6 : decode cX6_write 6 = .ok (.invokevirtual 67, 3) := by decide +kernel
theorem dX6_write_9 : decode cX6_write 9 = .ok (.istore 5, 2) := by decide +kernel
theorem dX6_write_11 : decode cX6_write 11 = .ok (.iload 5, 2) := by decide +kernel
theorem dX6_write_13 : decode cX6_write 13 = .ok (.ifCond .eq 10, 3) := by decide +kernel
theorem dX6_write_16 : decode cX6_write 16 = .ok (.aload_n 0, 1) := by decide +kernel
theorem dX6_write_17 : decode cX6_write 17 = .ok (.iload 5, 2) := by decide +kernel
theorem dX6_write_19 : decode cX6_write 19 = .ok (.invokevirtual 56, 3) := by decide +kernel
theorem dX6_write_22 : decode cX6_write 22 = .ok (.ireturn, 1) := by decide +kernel
theorem dX6_write_23 : decode cX6_write 23 = .ok (.aload_n 0, 1) := by decide +kernel
theorem dX6_write_24 : decode cX6_write 24 = .ok (.getfield 10, 3) := by decide +kernel
theorem dX6_write_27 : decode cX6_write 27 = .ok (.iload_n 1, 1) := by decide +kernel
theorem dX6_write_28 : decode cX6_write 28 = .ok (.iload_n 2, 1) := by decide +kernel
theorem dX6_write_29 : decode cX6_write 29 = .ok (.lload_n 3, 1) := by decide +kernel
theorem dX6_write_30 : decode cX6_write 30 = .ok (.invokevirtual 71, 3) := by decide +kernel
theorem dX6_write_33 : decode cX6_write 33 = .ok (.aload_n 0, 1) := by decide +kernel
theorem dX6_write_34 : decode cX6_write 34 = .ok (.invokevirtual 63, 3) := by decide +kernel
theorem dX6_write_37 : decode cX6_write 37 = .ok (.ireturn, 1) := by decide +kernel
set_option maxRecDepth 20000 in
theorem ggX6_read_X4_whyNoPlace : GoodIn wsX6_read wsX4_whyNoPlace := goodIn_r _ [7, 8, 9, 10, 6, 11, 12, 13, 14, 15, 16, 17, 18, 34, 35, 36] (by decide +kernel) (by decide +kernel)
set_option maxRecDepth 20000 in
theorem gX6_read_X4_whyNoPlace : GoodIn wsX6_read (wsV RX6 67 RX4 yX4_whyNoPlace wsX4_whyNoPlace) := goodIn_app (goodIn_of _ (by decide +kernel)) ggX6_read_X4_whyNoPlace
set_option maxRecDepth 20000 in
theorem ggX6_read_X6_deny : GoodIn wsX6_read wsX6_deny := goodIn_r _ [22, 2, 28, 29, 30, 31, 32, 33] (by decide +kernel) (by decide +kernel)
set_option maxRecDepth 20000 in
theorem gX6_read_X6_deny : GoodIn wsX6_read (wsV RX6 75 RX6 yX6_deny wsX6_deny) := goodIn_app (goodIn_of _ (by decide +kernel)) ggX6_read_X6_deny
set_option maxRecDepth 20000 in
theorem ggX6_read_X4_at : GoodIn wsX6_read wsX4_at := goodIn_r _ [26, 27, 34, 35, 36] (by decide +kernel) (by decide +kernel)
set_option maxRecDepth 20000 in
theorem gX6_read_X4_at : GoodIn wsX6_read (wsV RX6 79 RX4 yX4_at wsX4_at) := goodIn_app (goodIn_of _ (by decide +kernel)) ggX6_read_X4_at
theorem dX6_read_0 : decode cX6_read 0 = .ok (.aload_n 0, 1) := by decide +kernel
theorem dX6_read_1 : decode cX6_read 1 = .ok (.getfield 10, 3) := by decide +kernel
theorem dX6_read_4 : decode cX6_read 4 = .ok (.iload_n 1, 1) := by decide +kernel
theorem dX6_read_5 : decode cX6_read 5 = .ok (.iload_n 2, 1) := by decide +kernel
theorem dX6_read_6 : decode cX6_read 6 = .ok (.invokevirtual 67, 3) := by decide +kernel
theorem dX6_read_9 : decode cX6_read 9 = .ok (.istore_n 3, 1) := by decide +kernel
theorem dX6_read_10 : decode cX6_read 10 = .ok (.iload_n 3, 1) := by decide +kernel
theorem dX6_read_11 : decode cX6_read 11 = .ok (.ifCond .eq 10, 3) := by decide +kernel
theorem dX6_read_14 : decode cX6_read 14 = .ok (.aload_n 0, 1) := by decide +kernel
theorem dX6_read_15 : decode cX6_read 15 = .ok (.iload_n 3, 1) := by decide +kernel
theorem dX6_read_16 : decode cX6_read 16 = .ok (.invokevirtual 75, 3) := by decide +kernel
theorem dX6_read_19 : decode cX6_read 19 = .ok (.i2l, 1) := by decide +kernel
theorem dX6_read_20 : decode cX6_read 20 = .ok (.lreturn, 1) := by decide +kernel
theorem dX6_read_21 : decode cX6_read 21 = .ok (.aload_n 0, 1) := by decide +kernel
theorem dX6_read_22 : decode cX6_read 22 = .ok (.iconst 0, 1) := by decide +kernel
theorem dX6_read_23 : decode cX6_read 23 = .ok (.putfield 44, 3) := by decide +kernel
theorem dX6_read_26 : decode cX6_read 26 = .ok (.aload_n 0, 1) := by decide +kernel
theorem dX6_read_27 : decode cX6_read 27 = .ok (.getfield 10, 3) := by decide +kernel
theorem dX6_read_30 : decode cX6_read 30 = .ok (.iload_n 1, 1) := by decide +kernel
theorem dX6_read_31 : decode cX6_read 31 = .ok (.iload_n 2, 1) := by decide +kernel
theorem dX6_read_32 : decode cX6_read 32 = .ok (.invokevirtual 79, 3) := by decide +kernel
theorem dX6_read_35 : decode cX6_read 35 = .ok (.lreturn, 1) := by decide +kernel
set_option maxRecDepth 20000 in
theorem ggX6_drop_X4_isNumber : GoodIn wsX6_drop wsX4_isNumber := goodIn_r _ [5, 6, 7, 8] (by decide +kernel) (by decide +kernel)
set_option maxRecDepth 20000 in
theorem gX6_drop_X4_isNumber : GoodIn wsX6_drop (va_wsS RX6 48 yX4_isNumber wsX4_isNumber) := goodIn_app (goodIn_of _ (by decide +kernel)) ggX6_drop_X4_isNumber
set_option maxRecDepth 20000 in
theorem ggX6_drop_X6_refuse : GoodIn wsX6_drop wsX6_refuse := goodIn_r _ [12, 13, 27, 28, 29, 30, 31, 32] (by decide +kernel) (by decide +kernel)
set_option maxRecDepth 20000 in
theorem gX6_drop_X6_refuse : GoodIn wsX6_drop (wsV RX6 56 RX6 yX6_refuse wsX6_refuse) := goodIn_app (goodIn_of _ (by decide +kernel)) ggX6_drop_X6_refuse
set_option maxRecDepth 20000 in
theorem ggX6_drop_X4_isMissing : GoodIn wsX6_drop wsX4_isMissing := goodIn_r _ [17, 18, 33, 34, 35] (by decide +kernel) (by decide +kernel)
set_option maxRecDepth 20000 in
theorem gX6_drop_X4_isMissing : GoodIn wsX6_drop (wsV RX6 83 RX4 yX4_isMissing wsX4_isMissing) := goodIn_app (goodIn_of _ (by decide +kernel)) ggX6_drop_X4_isMissing
set_option maxRecDepth 20000 in
theorem ggX6_drop_X4_lose : GoodIn wsX6_drop wsX4_lose := goodIn_r _ [22, 18, 33, 34, 35] (by decide +kernel) (by decide +kernel)
set_option maxRecDepth 20000 in
theorem gX6_drop_X4_lose : GoodIn wsX6_drop (wsV RX6 86 RX4 yX4_lose wsX4_lose) := goodIn_app (goodIn_of _ (by decide +kernel)) ggX6_drop_X4_lose
set_option maxRecDepth 20000 in
theorem ggX6_drop_X6_agree : GoodIn wsX6_drop wsX6_agree := goodIn_r _ [26, 13, 27, 28, 29, 30, 31, 32] (by decide +kernel) (by decide +kernel)
set_option maxRecDepth 20000 in
theorem gX6_drop_X6_agree : GoodIn wsX6_drop (wsV RX6 63 RX6 yX6_agree wsX6_agree) := goodIn_app (goodIn_of _ (by decide +kernel)) ggX6_drop_X6_agree
theorem dX6_drop_0 : decode cX6_drop 0 = .ok (.iload_n 1, 1) := by decide +kernel
theorem dX6_drop_1 : decode cX6_drop 1 = .ok (.invokestatic 48, 3) := by decide +kernel
theorem dX6_drop_4 : decode cX6_drop 4 = .ok (.ifCond .ne 9, 3) := by decide +kernel
theorem dX6_drop_7 : decode cX6_drop 7 = .ok (.aload_n 0, 1) := by decide +kernel
theorem dX6_drop_8 : decode cX6_drop 8 = .ok (.iconst 1, 1) := by decide +kernel
theorem dX6_drop_9 : decode cX6_drop 9 = .ok (.invokevirtual 56, 3) := by decide +kernel
theorem dX6_drop_12 : decode cX6_drop 12 = .ok (.ireturn, 1) := by decide +kernel
theorem dX6_drop_13 : decode cX6_drop 13 = .ok (.aload_n 0, 1) := by decide +kernel
theorem dX6_drop_14 : decode cX6_drop 14 = .ok (.getfield 10, 3) := by decide +kernel
theorem dX6_drop_17 : decode cX6_drop 17 = .ok (.iload_n 1, 1) := by decide +kernel
theorem dX6_drop_18 : decode cX6_drop 18 = .ok (.invokevirtual 83, 3) := by decide +kernel
theorem dX6_drop_21 : decode cX6_drop 21 = .ok (.ifCond .eq 9, 3) := by decide +kernel
theorem dX6_drop_24 : decode cX6_drop 24 = .ok (.aload_n 0, 1) := by decide +kernel
theorem dX6_drop_25 : decode cX6_drop 25 = .ok (.iconst 2, 1) := by decide +kernel
theorem dX6_drop_26 : decode cX6_drop 26 = .ok (.invokevirtual 56, 3) := by decide +kernel
theorem dX6_drop_29 : decode cX6_drop 29 = .ok (.ireturn, 1) := by decide +kernel
theorem dX6_drop_30 : decode cX6_drop 30 = .ok (.aload_n 0, 1) := by decide +kernel
theorem dX6_drop_31 : decode cX6_drop 31 = .ok (.getfield 10, 3) := by decide +kernel
theorem dX6_drop_34 : decode cX6_drop 34 = .ok (.iload_n 1, 1) := by decide +kernel
theorem dX6_drop_35 : decode cX6_drop 35 = .ok (.invokevirtual 86, 3) := by decide +kernel
theorem dX6_drop_38 : decode cX6_drop 38 = .ok (.aload_n 0, 1) := by decide +kernel
theorem dX6_drop_39 : decode cX6_drop 39 = .ok (.invokevirtual 63, 3) := by decide +kernel
theorem dX6_drop_42 : decode cX6_drop 42 = .ok (.ireturn, 1) := by decide +kernel
set_option maxRecDepth 20000 in
theorem ggX6_copy_X4_isNumber : GoodIn wsX6_copy wsX4_isNumber := goodIn_r _ [5, 6, 7, 8] (by decide +kernel) (by decide +kernel)
set_option maxRecDepth 20000 in
theorem gX6_copy_X4_isNumber : GoodIn wsX6_copy (va_wsS RX6 48 yX4_isNumber wsX4_isNumber) := goodIn_app (goodIn_of _ (by decide +kernel)) ggX6_copy_X4_isNumber
set_option maxRecDepth 20000 in
theorem ggX6_copy_X6_refuse : GoodIn wsX6_copy wsX6_refuse := goodIn_r _ [12, 13, 44, 45, 46, 47, 48, 49] (by decide +kernel) (by decide +kernel)
set_option maxRecDepth 20000 in
theorem gX6_copy_X6_refuse : GoodIn wsX6_copy (wsV RX6 56 RX6 yX6_refuse wsX6_refuse) := goodIn_app (goodIn_of _ (by decide +kernel)) ggX6_copy_X6_refuse
set_option maxRecDepth 20000 in
theorem ggX6_copy_X4_isMissing : GoodIn wsX6_copy wsX4_isMissing := goodIn_r _ [17, 18, 50, 51, 52] (by decide +kernel) (by decide +kernel)
set_option maxRecDepth 20000 in
theorem gX6_copy_X4_isMissing : GoodIn wsX6_copy (wsV RX6 83 RX4 yX4_isMissing wsX4_isMissing) := goodIn_app (goodIn_of _ (by decide +kernel)) ggX6_copy_X4_isMissing
set_option maxRecDepth 20000 in
theorem ggX6_copy_X4_spans : GoodIn wsX6_copy wsX4_spans := goodIn_r _ [22, 18, 50, 51, 52] (by decide +kernel) (by decide +kernel)
set_option maxRecDepth 20000 in
theorem gX6_copy_X4_spans : GoodIn wsX6_copy (wsV RX6 90 RX4 yX4_spans wsX4_spans) := goodIn_app (goodIn_of _ (by decide +kernel)) ggX6_copy_X4_spans
set_option maxRecDepth 20000 in
theorem ggX6_copy_X4_carry : GoodIn wsX6_copy wsX4_carry := goodIn_r _ [26, 27, 28, 29, 30, 31, 32, 33, 34, 4, 35, 36, 37, 38, 39, 50, 51, 52] (by decide +kernel) (by decide +kernel)
set_option maxRecDepth 20000 in
theorem gX6_copy_X4_carry : GoodIn wsX6_copy (wsV RX6 94 RX4 yX4_carry wsX4_carry) := goodIn_app (goodIn_of _ (by decide +kernel)) ggX6_copy_X4_carry
set_option maxRecDepth 20000 in
theorem ggX6_copy_X6_agree : GoodIn wsX6_copy wsX6_agree := goodIn_r _ [43, 13, 44, 45, 46, 47, 48, 49] (by decide +kernel) (by decide +kernel)
set_option maxRecDepth 20000 in
theorem gX6_copy_X6_agree : GoodIn wsX6_copy (wsV RX6 63 RX6 yX6_agree wsX6_agree) := goodIn_app (goodIn_of _ (by decide +kernel)) ggX6_copy_X6_agree
theorem dX6_copy_0 : decode cX6_copy 0 = .ok (.iload_n 1, 1) := by decide +kernel
theorem dX6_copy_1 : decode cX6_copy 1 = .ok (.invokestatic 48, 3) := by decide +kernel
theorem dX6_copy_4 : decode cX6_copy 4 = .ok (.ifCond .eq 24, 3) := by decide +kernel
theorem dX6_copy_7 : decode cX6_copy 7 = .ok (.iload_n 3, 1) := by decide +kernel
theorem dX6_copy_8 : decode cX6_copy 8 = .ok (.invokestatic 48, 3) := by decide +kernel
theorem dX6_copy_11 : decode cX6_copy 11 = .ok (.ifCond .eq 17, 3) := by decide +kernel
theorem dX6_copy_14 : decode cX6_copy 14 = .ok (.iload_n 2, 1) := by decide +kernel
theorem dX6_copy_15 : decode cX6_copy 15 = .ok (.ifCond .lt 13, 3) := by decide +kernel
theorem dX6_copy_18 : decode cX6_copy 18 = .ok (.iload 4, 2) := by decide +kernel
theorem dX6_copy_20 : decode cX6_copy 20 = .ok (.ifCond .lt 8, 3) := by decide +kernel
theorem dX6_copy_23 : decode cX6_copy 23 = .ok (.iload 5, 2) := by decide +kernel
theorem dX6_copy_25 : decode cX6_copy 25 = .ok (.ifCond .ge 9, 3) := by decide +kernel
theorem dX6_copy_28 : decode cX6_copy 28 = .ok (.aload_n 0, 1) := by decide +kernel
theorem dX6_copy_29 : decode cX6_copy 29 = .ok (.iconst 1, 1) := by decide +kernel
theorem dX6_copy_30 : decode cX6_copy 30 = .ok (.invokevirtual 56, 3) := by decide +kernel
theorem dX6_copy_33 : decode cX6_copy 33 = .ok (.ireturn, 1) := by decide +kernel
theorem dX6_copy_34 : decode cX6_copy 34 = .ok (.aload_n 0, 1) := by decide +kernel
theorem dX6_copy_35 : decode cX6_copy 35 = .ok (.getfield 10, 3) := by decide +kernel
theorem dX6_copy_38 : decode cX6_copy 38 = .ok (.iload_n 1, 1) := by decide +kernel
theorem dX6_copy_39 : decode cX6_copy 39 = .ok (.invokevirtual 83, 3) := by decide +kernel
theorem dX6_copy_42 : decode cX6_copy 42 = .ok (.ifCond .ne 14, 3) := by decide +kernel
theorem dX6_copy_45 : decode cX6_copy 45 = .ok (.aload_n 0, 1) := by decide +kernel
theorem dX6_copy_46 : decode cX6_copy 46 = .ok (.getfield 10, 3) := by decide +kernel
theorem dX6_copy_49 : decode cX6_copy 49 = .ok (.iload_n 3, 1) := by decide +kernel
theorem dX6_copy_50 : decode cX6_copy 50 = .ok (.invokevirtual 83, 3) := by decide +kernel
theorem dX6_copy_53 : decode cX6_copy 53 = .ok (.ifCond .eq 9, 3) := by decide +kernel
theorem dX6_copy_56 : decode cX6_copy 56 = .ok (.aload_n 0, 1) := by decide +kernel
theorem dX6_copy_57 : decode cX6_copy 57 = .ok (.iconst 2, 1) := by decide +kernel
theorem dX6_copy_58 : decode cX6_copy 58 = .ok (.invokevirtual 56, 3) := by decide +kernel
theorem dX6_copy_61 : decode cX6_copy 61 = .ok (.ireturn, 1) := by decide +kernel
theorem dX6_copy_62 : decode cX6_copy 62 = .ok (.aload_n 0, 1) := by decide +kernel
theorem dX6_copy_63 : decode cX6_copy 63 = .ok (.getfield 10, 3) := by decide +kernel
theorem dX6_copy_66 : decode cX6_copy 66 = .ok (.iload_n 1, 1) := by decide +kernel
theorem dX6_copy_67 : decode cX6_copy 67 = .ok (.iload_n 2, 1) := by decide +kernel
theorem dX6_copy_68 : decode cX6_copy 68 = .ok (.iload 5, 2) := by decide +kernel
theorem dX6_copy_70 : decode cX6_copy 70 = .ok (.invokevirtual 90, 3) := by decide +kernel
theorem dX6_copy_73 : decode cX6_copy 73 = .ok (.ifCond .eq 18, 3) := by decide +kernel
theorem dX6_copy_76 : decode cX6_copy 76 = .ok (.aload_n 0, 1) := by decide +kernel
theorem dX6_copy_77 : decode cX6_copy 77 = .ok (.getfield 10, 3) := by decide +kernel
theorem dX6_copy_80 : decode cX6_copy 80 = .ok (.iload_n 3, 1) := by decide +kernel
theorem dX6_copy_81 : decode cX6_copy 81 = .ok (.iload 4, 2) := by decide +kernel
theorem dX6_copy_83 : decode cX6_copy 83 = .ok (.iload 5, 2) := by decide +kernel
theorem dX6_copy_85 : decode cX6_copy 85 = .ok (.invokevirtual 90, 3) := by decide +kernel
theorem dX6_copy_88 : decode cX6_copy 88 = .ok (.ifCond .ne 9, 3) := by decide +kernel
theorem dX6_copy_91 : decode cX6_copy 91 = .ok (.aload_n 0, 1) := by decide +kernel
theorem dX6_copy_92 : decode cX6_copy 92 = .ok (.iconst 3, 1) := by decide +kernel
theorem dX6_copy_93 : decode cX6_copy 93 = .ok (.invokevirtual 56, 3) := by decide +kernel
theorem dX6_copy_96 : decode cX6_copy 96 = .ok (.ireturn, 1) := by decide +kernel
theorem dX6_copy_97 : decode cX6_copy 97 = .ok (.aload_n 0, 1) := by decide +kernel
theorem dX6_copy_98 : decode cX6_copy 98 = .ok (.getfield 10, 3) := by decide +kernel
theorem dX6_copy_101 : decode cX6_copy 101 = .ok (.iload_n 1, 1) := by decide +kernel
theorem dX6_copy_102 : decode cX6_copy 102 = .ok (.iload_n 2, 1) := by decide +kernel
theorem dX6_copy_103 : decode cX6_copy 103 = .ok (.iload_n 3, 1) := by decide +kernel
theorem dX6_copy_104 : decode cX6_copy 104 = .ok (.iload 4, 2) := by decide +kernel
theorem dX6_copy_106 : decode cX6_copy 106 = .ok (.iload 5, 2) := by decide +kernel
theorem dX6_copy_108 : decode cX6_copy 108 = .ok (.invokevirtual 94, 3) := by decide +kernel
theorem dX6_copy_111 : decode cX6_copy 111 = .ok (.aload_n 0, 1) := by decide +kernel
theorem dX6_copy_112 : decode cX6_copy 112 = .ok (.invokevirtual 63, 3) := by decide +kernel
theorem dX6_copy_115 : decode cX6_copy 115 = .ok (.ireturn, 1) := by decide +kernel
set_option maxRecDepth 20000 in
theorem ggX6_none_X6_refuse : GoodIn wsX6_none wsX6_refuse := goodIn_r _ [5, 6, 7, 8, 9, 10, 11, 12] (by decide +kernel) (by decide +kernel)
set_option maxRecDepth 20000 in
theorem gX6_none_X6_refuse : GoodIn wsX6_none (wsV RX6 56 RX6 yX6_refuse wsX6_refuse) := goodIn_app (goodIn_of _ (by decide +kernel)) ggX6_none_X6_refuse
theorem dX6_none_0 : decode cX6_none 0 = .ok (.aload_n 0, 1) := by decide +kernel
theorem dX6_none_1 : decode cX6_none 1 = .ok (.bipush 8, 2) := by decide +kernel
theorem dX6_none_3 : decode cX6_none 3 = .ok (.invokevirtual 56, 3) := by decide +kernel
theorem dX6_none_6 : decode cX6_none 6 = .ok (.ireturn, 1) := by decide +kernel
set_option maxRecDepth 20000 in
theorem ggX6_machine_X6_within : GoodIn wsX6_machine wsX6_within := goodIn_r _ [6] (by decide +kernel) (by decide +kernel)
set_option maxRecDepth 20000 in
theorem gX6_machine_X6_within : GoodIn wsX6_machine (va_wsS RX6 52 yX6_within wsX6_within) := goodIn_app (goodIn_of _ (by decide +kernel)) ggX6_machine_X6_within
set_option maxRecDepth 20000 in
theorem ggX6_machine_X6_deny : GoodIn wsX6_machine wsX6_deny := goodIn_r _ [10, 11, 25, 26, 27, 28, 29, 30] (by decide +kernel) (by decide +kernel)
set_option maxRecDepth 20000 in
theorem gX6_machine_X6_deny : GoodIn wsX6_machine (wsV RX6 75 RX6 yX6_deny wsX6_deny) := goodIn_app (goodIn_of _ (by decide +kernel)) ggX6_machine_X6_deny
set_option maxRecDepth 20000 in
theorem ggX6_machine_X1_addMachine : GoodIn wsX6_machine wsX1_addMachine := goodIn_r _ [16, 17, 18, 19, 20, 31, 32, 33, 34, 35, 36, 37, 38, 39, 40, 41, 42, 43] (by decide +kernel) (by decide +kernel)
set_option maxRecDepth 20000 in
theorem gX6_machine_X1_addMachine : GoodIn wsX6_machine (wsV RX6 101 RX1 yX1_addMachine wsX1_addMachine) := goodIn_app (goodIn_of _ (by decide +kernel)) ggX6_machine_X1_addMachine
set_option maxRecDepth 20000 in
theorem ggX6_machine_X6_answer : GoodIn wsX6_machine wsX6_answer := goodIn_r _ [24, 11, 25, 26, 27, 28, 29, 30] (by decide +kernel) (by decide +kernel)
set_option maxRecDepth 20000 in
theorem gX6_machine_X6_answer : GoodIn wsX6_machine (wsV RX6 104 RX6 yX6_answer wsX6_answer) := goodIn_app (goodIn_of _ (by decide +kernel)) ggX6_machine_X6_answer
theorem dX6_machine_0 : decode cX6_machine 0 = .ok (.iload_n 1, 1) := by decide +kernel
theorem dX6_machine_1 : decode cX6_machine 1 = .ok (.i2l, 1) := by decide +kernel
theorem dX6_machine_2 : decode cX6_machine 2 = .ok (.iconst 1, 1) := by decide +kernel
theorem dX6_machine_3 : decode cX6_machine 3 = .ok (.bipush 100, 2) := by decide +kernel
theorem dX6_machine_5 : decode cX6_machine 5 = .ok (.invokestatic 52, 3) := by decide +kernel
theorem dX6_machine_8 : decode cX6_machine 8 = .ok (.ifCond .eq 13, 3) := by decide +kernel
theorem dX6_machine_11 : decode cX6_machine 11 = .ok (.iload_n 2, 1) := by decide +kernel
theorem dX6_machine_12 : decode cX6_machine 12 = .ok (.i2l, 1) := by decide +kernel
theorem dX6_machine_13 : decode cX6_machine 13 = .ok (.iconst 0, 1) := by decide +kernel
theorem dX6_machine_14 : decode cX6_machine 14 = .ok (.iconst 3, 1) := by decide +kernel
theorem dX6_machine_15 : decode cX6_machine 15 = .ok (.invokestatic 52, 3) := by decide +kernel
theorem dX6_machine_18 : decode cX6_machine 18 = .ok (.ifCond .ne 9, 3) := by decide +kernel
theorem dX6_machine_21 : decode cX6_machine 21 = .ok (.aload_n 0, 1) := by decide +kernel
theorem dX6_machine_22 : decode cX6_machine 22 = .ok (.iconst 1, 1) := by decide +kernel
theorem dX6_machine_23 : decode cX6_machine 23 = .ok (.invokevirtual 75, 3) := by decide +kernel
theorem dX6_machine_26 : decode cX6_machine 26 = .ok (.ireturn, 1) := by decide +kernel
theorem dX6_machine_27 : decode cX6_machine 27 = .ok (.aload_n 0, 1) := by decide +kernel
theorem dX6_machine_28 : decode cX6_machine 28 = .ok (.getfield 19, 3) := by decide +kernel
theorem dX6_machine_31 : decode cX6_machine 31 = .ok (.getfield 98, 3) := by decide +kernel
theorem dX6_machine_34 : decode cX6_machine 34 = .ok (.bipush 12, 2) := by decide +kernel
theorem dX6_machine_36 : decode cX6_machine 36 = .ok (.if_icmp .ne 9, 3) := by decide +kernel
theorem dX6_machine_39 : decode cX6_machine 39 = .ok (.aload_n 0, 1) := by decide +kernel
theorem dX6_machine_40 : decode cX6_machine 40 = .ok (.iconst 4, 1) := by decide +kernel
theorem dX6_machine_41 : decode cX6_machine 41 = .ok (.invokevirtual 75, 3) := by decide +kernel
theorem dX6_machine_44 : decode cX6_machine 44 = .ok (.ireturn, 1) := by decide +kernel
theorem dX6_machine_45 : decode cX6_machine 45 = .ok (.aload_n 0, 1) := by decide +kernel
theorem dX6_machine_46 : decode cX6_machine 46 = .ok (.aload_n 0, 1) := by decide +kernel
theorem dX6_machine_47 : decode cX6_machine 47 = .ok (.getfield 19, 3) := by decide +kernel
theorem dX6_machine_50 : decode cX6_machine 50 = .ok (.iload_n 1, 1) := by decide +kernel
theorem dX6_machine_51 : decode cX6_machine 51 = .ok (.iload_n 2, 1) := by decide +kernel
theorem dX6_machine_52 : decode cX6_machine 52 = .ok (.invokevirtual 101, 3) := by decide +kernel
theorem dX6_machine_55 : decode cX6_machine 55 = .ok (.invokevirtual 104, 3) := by decide +kernel
theorem dX6_machine_58 : decode cX6_machine 58 = .ok (.ireturn, 1) := by decide +kernel
set_option maxRecDepth 20000 in
theorem ggX6_up_X1_hasMachine : GoodIn wsX6_up wsX1_hasMachine := goodIn_r _ [6, 7, 8, 9, 10, 38, 39, 40, 41, 42, 43, 44, 45, 46, 47, 48, 49, 50] (by decide +kernel) (by decide +kernel)
set_option maxRecDepth 20000 in
theorem gX6_up_X1_hasMachine : GoodIn wsX6_up (wsV RX6 107 RX1 yX1_hasMachine wsX1_hasMachine) := goodIn_app (goodIn_of _ (by decide +kernel)) ggX6_up_X1_hasMachine
set_option maxRecDepth 20000 in
theorem ggX6_up_X6_refuse : GoodIn wsX6_up wsX6_refuse := goodIn_r _ [14, 15, 32, 33, 34, 35, 36, 37] (by decide +kernel) (by decide +kernel)
set_option maxRecDepth 20000 in
theorem gX6_up_X6_refuse : GoodIn wsX6_up (wsV RX6 56 RX6 yX6_refuse wsX6_refuse) := goodIn_app (goodIn_of _ (by decide +kernel)) ggX6_up_X6_refuse
set_option maxRecDepth 20000 in
theorem ggX6_up_X1_isUp : GoodIn wsX6_up wsX1_isUp := goodIn_r _ [19, 20, 21, 22, 5, 23, 38, 39, 40, 41, 42, 43, 44, 45, 46, 47, 48, 49, 50] (by decide +kernel) (by decide +kernel)
set_option maxRecDepth 20000 in
theorem gX6_up_X1_isUp : GoodIn wsX6_up (wsV RX6 110 RX1 yX1_isUp wsX1_isUp) := goodIn_app (goodIn_of _ (by decide +kernel)) ggX6_up_X1_isUp
set_option maxRecDepth 20000 in
theorem ggX6_up_X1_turn : GoodIn wsX6_up wsX1_turn := goodIn_r _ [27, 20, 38, 39, 40, 41, 42, 43, 44, 45, 46, 47, 48, 49, 50] (by decide +kernel) (by decide +kernel)
set_option maxRecDepth 20000 in
theorem gX6_up_X1_turn : GoodIn wsX6_up (wsV RX6 113 RX1 yX1_turn wsX1_turn) := goodIn_app (goodIn_of _ (by decide +kernel)) ggX6_up_X1_turn
set_option maxRecDepth 20000 in
theorem ggX6_up_X6_agree : GoodIn wsX6_up wsX6_agree := goodIn_r _ [31, 15, 32, 33, 34, 35, 36, 37] (by decide +kernel) (by decide +kernel)
set_option maxRecDepth 20000 in
theorem gX6_up_X6_agree : GoodIn wsX6_up (wsV RX6 63 RX6 yX6_agree wsX6_agree) := goodIn_app (goodIn_of _ (by decide +kernel)) ggX6_up_X6_agree
theorem dX6_up_0 : decode cX6_up 0 = .ok (.aload_n 0, 1) := by decide +kernel
theorem dX6_up_1 : decode cX6_up 1 = .ok (.getfield 19, 3) := by decide +kernel
theorem dX6_up_4 : decode cX6_up 4 = .ok (.iload_n 1, 1) := by decide +kernel
theorem dX6_up_5 : decode cX6_up 5 = .ok (.invokevirtual 107, 3) := by decide +kernel
theorem dX6_up_8 : decode cX6_up 8 = .ok (.ifCond .ne 9, 3) := by decide +kernel
theorem dX6_up_11 : decode cX6_up 11 = .ok (.aload_n 0, 1) := by decide +kernel
theorem dX6_up_12 : decode cX6_up 12 = .ok (.iconst 1, 1) := by decide +kernel
theorem dX6_up_13 : decode cX6_up 13 = .ok (.invokevirtual 56, 3) := by decide +kernel
theorem dX6_up_16 : decode cX6_up 16 = .ok (.ireturn, 1) := by decide +kernel
theorem dX6_up_17 : decode cX6_up 17 = .ok (.aload_n 0, 1) := by decide +kernel
theorem dX6_up_18 : decode cX6_up 18 = .ok (.getfield 19, 3) := by decide +kernel
theorem dX6_up_21 : decode cX6_up 21 = .ok (.iload_n 1, 1) := by decide +kernel
theorem dX6_up_22 : decode cX6_up 22 = .ok (.invokevirtual 110, 3) := by decide +kernel
theorem dX6_up_25 : decode cX6_up 25 = .ok (.iload_n 2, 1) := by decide +kernel
theorem dX6_up_26 : decode cX6_up 26 = .ok (.if_icmp .ne 9, 3) := by decide +kernel
theorem dX6_up_29 : decode cX6_up 29 = .ok (.aload_n 0, 1) := by decide +kernel
theorem dX6_up_30 : decode cX6_up 30 = .ok (.iconst 5, 1) := by decide +kernel
theorem dX6_up_31 : decode cX6_up 31 = .ok (.invokevirtual 56, 3) := by decide +kernel
theorem dX6_up_34 : decode cX6_up 34 = .ok (.ireturn, 1) := by decide +kernel
theorem dX6_up_35 : decode cX6_up 35 = .ok (.aload_n 0, 1) := by decide +kernel
theorem dX6_up_36 : decode cX6_up 36 = .ok (.getfield 19, 3) := by decide +kernel
theorem dX6_up_39 : decode cX6_up 39 = .ok (.iload_n 1, 1) := by decide +kernel
theorem dX6_up_40 : decode cX6_up 40 = .ok (.invokevirtual 113, 3) := by decide +kernel
theorem dX6_up_43 : decode cX6_up 43 = .ok (.aload_n 0, 1) := by decide +kernel
theorem dX6_up_44 : decode cX6_up 44 = .ok (.invokevirtual 63, 3) := by decide +kernel
theorem dX6_up_47 : decode cX6_up 47 = .ok (.ireturn, 1) := by decide +kernel
set_option maxRecDepth 20000 in
theorem ggX6_ask_X6_within : GoodIn wsX6_ask wsX6_within := goodIn_r _ [7] (by decide +kernel) (by decide +kernel)
set_option maxRecDepth 20000 in
theorem gX6_ask_X6_within : GoodIn wsX6_ask (va_wsS RX6 52 yX6_within wsX6_within) := goodIn_app (goodIn_of _ (by decide +kernel)) ggX6_ask_X6_within
set_option maxRecDepth 20000 in
theorem ggX6_ask_X6_isHour : GoodIn wsX6_ask wsX6_isHour := goodIn_r _ [10, 4, 5, 6, 7] (by decide +kernel) (by decide +kernel)
set_option maxRecDepth 20000 in
theorem gX6_ask_X6_isHour : GoodIn wsX6_ask (va_wsS RX6 116 yX6_isHour wsX6_isHour) := goodIn_app (goodIn_of _ (by decide +kernel)) ggX6_ask_X6_isHour
set_option maxRecDepth 20000 in
theorem ggX6_ask_X6_deny : GoodIn wsX6_ask wsX6_deny := goodIn_r _ [14, 15, 47, 48, 49, 50, 51, 52] (by decide +kernel) (by decide +kernel)
set_option maxRecDepth 20000 in
theorem gX6_ask_X6_deny : GoodIn wsX6_ask (wsV RX6 75 RX6 yX6_deny wsX6_deny) := goodIn_app (goodIn_of _ (by decide +kernel)) ggX6_ask_X6_deny
set_option maxRecDepth 20000 in
theorem ggX6_ask_X3_forget : GoodIn wsX6_ask wsX3_forget := goodIn_r _ [20, 21, 66, 67, 68, 69, 70, 71, 72, 73, 74] (by decide +kernel) (by decide +kernel)
set_option maxRecDepth 20000 in
theorem gX6_ask_X3_forget : GoodIn wsX6_ask (wsV RX6 122 RX3 yX3_forget wsX3_forget) := goodIn_app (goodIn_of _ (by decide +kernel)) ggX6_ask_X3_forget
set_option maxRecDepth 20000 in
theorem ggX6_ask_X1_addAsk : GoodIn wsX6_ask wsX1_addAsk := goodIn_r _ [26, 27, 28, 29, 30, 31, 32, 25, 33, 34, 35, 36, 37, 38, 39, 40, 41, 42, 53, 54, 55, 56, 57, 58, 59, 60, 61, 62, 63, 64, 65] (by decide +kernel) (by decide +kernel)
set_option maxRecDepth 20000 in
theorem gX6_ask_X1_addAsk : GoodIn wsX6_ask (wsV RX6 125 RX1 yX1_addAsk wsX1_addAsk) := goodIn_app (goodIn_of _ (by decide +kernel)) ggX6_ask_X1_addAsk
set_option maxRecDepth 20000 in
theorem ggX6_ask_X6_answer : GoodIn wsX6_ask wsX6_answer := goodIn_r _ [46, 15, 47, 48, 49, 50, 51, 52] (by decide +kernel) (by decide +kernel)
set_option maxRecDepth 20000 in
theorem gX6_ask_X6_answer : GoodIn wsX6_ask (wsV RX6 104 RX6 yX6_answer wsX6_answer) := goodIn_app (goodIn_of _ (by decide +kernel)) ggX6_ask_X6_answer
theorem dX6_ask_0 : decode cX6_ask 0 = .ok (.iload_n 1, 1) := by decide +kernel
theorem dX6_ask_1 : decode cX6_ask 1 = .ok (.i2l, 1) := by decide +kernel
theorem dX6_ask_2 : decode cX6_ask 2 = .ok (.iconst 1, 1) := by decide +kernel
theorem dX6_ask_3 : decode cX6_ask 3 = .ok (.bipush 100, 2) := by decide +kernel
theorem dX6_ask_5 : decode cX6_ask 5 = .ok (.invokestatic 52, 3) := by decide +kernel
theorem dX6_ask_8 : decode cX6_ask 8 = .ok (.ifCond .eq 22, 3) := by decide +kernel
theorem dX6_ask_11 : decode cX6_ask 11 = .ok (.iload_n 2, 1) := by decide +kernel
theorem dX6_ask_12 : decode cX6_ask 12 = .ok (.invokestatic 116, 3) := by decide +kernel
theorem dX6_ask_15 : decode cX6_ask 15 = .ok (.ifCond .eq 15, 3) := by decide +kernel
theorem dX6_ask_18 : decode cX6_ask 18 = .ok (.iload_n 3, 1) := by decide +kernel
theorem dX6_ask_19 : decode cX6_ask 19 = .ok (.invokestatic 116, 3) := by decide +kernel
theorem dX6_ask_22 : decode cX6_ask 22 = .ok (.ifCond .eq 8, 3) := by decide +kernel
theorem dX6_ask_25 : decode cX6_ask 25 = .ok (.iload_n 3, 1) := by decide +kernel
theorem dX6_ask_26 : decode cX6_ask 26 = .ok (.iload_n 2, 1) := by decide +kernel
theorem dX6_ask_27 : decode cX6_ask 27 = .ok (.if_icmp .ge 9, 3) := by decide +kernel
theorem dX6_ask_30 : decode cX6_ask 30 = .ok (.aload_n 0, 1) := by decide +kernel
theorem dX6_ask_31 : decode cX6_ask 31 = .ok (.iconst 1, 1) := by decide +kernel
theorem dX6_ask_32 : decode cX6_ask 32 = .ok (.invokevirtual 75, 3) := by decide +kernel
theorem dX6_ask_35 : decode cX6_ask 35 = .ok (.ireturn, 1) := by decide +kernel
theorem dX6_ask_36 : decode cX6_ask 36 = .ok (.aload_n 0, 1) := by decide +kernel
theorem dX6_ask_37 : decode cX6_ask 37 = .ok (.getfield 19, 3) := by decide +kernel
theorem dX6_ask_40 : decode cX6_ask 40 = .ok (.getfield 119, 3) := by decide +kernel
theorem dX6_ask_43 : decode cX6_ask 43 = .ok (.bipush 10, 2) := by decide +kernel
theorem dX6_ask_45 : decode cX6_ask 45 = .ok (.if_icmp .ne 9, 3) := by decide +kernel
theorem dX6_ask_48 : decode cX6_ask 48 = .ok (.aload_n 0, 1) := by decide +kernel
theorem dX6_ask_49 : decode cX6_ask 49 = .ok (.iconst 4, 1) := by decide +kernel
theorem dX6_ask_50 : decode cX6_ask 50 = .ok (.invokevirtual 75, 3) := by decide +kernel
theorem dX6_ask_53 : decode cX6_ask 53 = .ok (.ireturn, 1) := by decide +kernel
theorem dX6_ask_54 : decode cX6_ask 54 = .ok (.aload_n 0, 1) := by decide +kernel
theorem dX6_ask_55 : decode cX6_ask 55 = .ok (.getfield 26, 3) := by decide +kernel
theorem dX6_ask_58 : decode cX6_ask 58 = .ok (.invokevirtual 122, 3) := by decide +kernel
theorem dX6_ask_61 : decode cX6_ask 61 = .ok (.aload_n 0, 1) := by decide +kernel
theorem dX6_ask_62 : decode cX6_ask 62 = .ok (.aload_n 0, 1) := by decide +kernel
theorem dX6_ask_63 : decode cX6_ask 63 = .ok (.getfield 19, 3) := by decide +kernel
theorem dX6_ask_66 : decode cX6_ask 66 = .ok (.iload_n 1, 1) := by decide +kernel
theorem dX6_ask_67 : decode cX6_ask 67 = .ok (.iload_n 2, 1) := by decide +kernel
theorem dX6_ask_68 : decode cX6_ask 68 = .ok (.iload_n 3, 1) := by decide +kernel
theorem dX6_ask_69 : decode cX6_ask 69 = .ok (.invokevirtual 125, 3) := by decide +kernel
theorem dX6_ask_72 : decode cX6_ask 72 = .ok (.invokevirtual 104, 3) := by decide +kernel
theorem dX6_ask_75 : decode cX6_ask 75 = .ok (.ireturn, 1) := by decide +kernel
set_option maxRecDepth 20000 in
theorem ggX6_apart_X1_hasAsk : GoodIn wsX6_apart wsX1_hasAsk := goodIn_r _ [7, 8, 9, 10, 11, 53, 54, 55, 56, 57, 58, 59, 60, 61, 62, 63, 64, 65] (by decide +kernel) (by decide +kernel)
set_option maxRecDepth 20000 in
theorem gX6_apart_X1_hasAsk : GoodIn wsX6_apart (wsV RX6 129 RX1 yX1_hasAsk wsX1_hasAsk) := goodIn_app (goodIn_of _ (by decide +kernel)) ggX6_apart_X1_hasAsk
set_option maxRecDepth 20000 in
theorem ggX6_apart_X6_refuse : GoodIn wsX6_apart wsX6_refuse := goodIn_r _ [15, 16, 47, 48, 49, 50, 51, 52] (by decide +kernel) (by decide +kernel)
set_option maxRecDepth 20000 in
theorem gX6_apart_X6_refuse : GoodIn wsX6_apart (wsV RX6 56 RX6 yX6_refuse wsX6_refuse) := goodIn_app (goodIn_of _ (by decide +kernel)) ggX6_apart_X6_refuse
set_option maxRecDepth 20000 in
theorem ggX6_apart_X1_areFoes : GoodIn wsX6_apart wsX1_areFoes := goodIn_r _ [20, 21, 22, 23, 6, 24, 53, 54, 55, 56, 57, 58, 59, 60, 61, 62, 63, 64, 65] (by decide +kernel) (by decide +kernel)
set_option maxRecDepth 20000 in
theorem gX6_apart_X1_areFoes : GoodIn wsX6_apart (wsV RX6 132 RX1 yX1_areFoes wsX1_areFoes) := goodIn_app (goodIn_of _ (by decide +kernel)) ggX6_apart_X1_areFoes
set_option maxRecDepth 20000 in
theorem ggX6_apart_X3_forget : GoodIn wsX6_apart wsX3_forget := goodIn_r _ [29, 30, 66, 67, 68, 69, 70, 71, 72, 73, 74] (by decide +kernel) (by decide +kernel)
set_option maxRecDepth 20000 in
theorem gX6_apart_X3_forget : GoodIn wsX6_apart (wsV RX6 122 RX3 yX3_forget wsX3_forget) := goodIn_app (goodIn_of _ (by decide +kernel)) ggX6_apart_X3_forget
set_option maxRecDepth 20000 in
theorem ggX6_apart_X1_turnFoes : GoodIn wsX6_apart wsX1_turnFoes := goodIn_r _ [34, 21, 35, 36, 37, 6, 38, 39, 8, 40, 41, 42, 53, 54, 55, 56, 57, 58, 59, 60, 61, 62, 63, 64, 65] (by decide +kernel) (by decide +kernel)
set_option maxRecDepth 20000 in
theorem gX6_apart_X1_turnFoes : GoodIn wsX6_apart (wsV RX6 136 RX1 yX1_turnFoes wsX1_turnFoes) := goodIn_app (goodIn_of _ (by decide +kernel)) ggX6_apart_X1_turnFoes
set_option maxRecDepth 20000 in
theorem ggX6_apart_X6_agree : GoodIn wsX6_apart wsX6_agree := goodIn_r _ [46, 16, 47, 48, 49, 50, 51, 52] (by decide +kernel) (by decide +kernel)
set_option maxRecDepth 20000 in
theorem gX6_apart_X6_agree : GoodIn wsX6_apart (wsV RX6 63 RX6 yX6_agree wsX6_agree) := goodIn_app (goodIn_of _ (by decide +kernel)) ggX6_apart_X6_agree
theorem dX6_apart_0 : decode cX6_apart 0 = .ok (.aload_n 0, 1) := by decide +kernel
theorem dX6_apart_1 : decode cX6_apart 1 = .ok (.getfield 19, 3) := by decide +kernel
theorem dX6_apart_4 : decode cX6_apart 4 = .ok (.iload_n 1, 1) := by decide +kernel
theorem dX6_apart_5 : decode cX6_apart 5 = .ok (.invokevirtual 129, 3) := by decide +kernel
theorem dX6_apart_8 : decode cX6_apart 8 = .ok (.ifCond .eq 19, 3) := by decide +kernel
theorem dX6_apart_11 : decode cX6_apart 11 = .ok (.aload_n 0, 1) := by decide +kernel
theorem dX6_apart_12 : decode cX6_apart 12 = .ok (.getfield 19, 3) := by decide +kernel
theorem dX6_apart_15 : decode cX6_apart 15 = .ok (.iload_n 2, 1) := by decide +kernel
theorem dX6_apart_16 : decode cX6_apart 16 = .ok (.invokevirtual 129, 3) := by decide +kernel
theorem dX6_apart_19 : decode cX6_apart 19 = .ok (.ifCond .eq 8, 3) := by decide +kernel
theorem dX6_apart_22 : decode cX6_apart 22 = .ok (.iload_n 1, 1) := by decide +kernel
theorem dX6_apart_23 : decode cX6_apart 23 = .ok (.iload_n 2, 1) := by decide +kernel
theorem dX6_apart_24 : decode cX6_apart 24 = .ok (.if_icmp .ne 9, 3) := by decide +kernel
theorem dX6_apart_27 : decode cX6_apart 27 = .ok (.aload_n 0, 1) := by decide +kernel
theorem dX6_apart_28 : decode cX6_apart 28 = .ok (.iconst 1, 1) := by decide +kernel
theorem dX6_apart_29 : decode cX6_apart 29 = .ok (.invokevirtual 56, 3) := by decide +kernel
theorem dX6_apart_32 : decode cX6_apart 32 = .ok (.ireturn, 1) := by decide +kernel
theorem dX6_apart_33 : decode cX6_apart 33 = .ok (.aload_n 0, 1) := by decide +kernel
theorem dX6_apart_34 : decode cX6_apart 34 = .ok (.getfield 19, 3) := by decide +kernel
theorem dX6_apart_37 : decode cX6_apart 37 = .ok (.iload_n 1, 1) := by decide +kernel
theorem dX6_apart_38 : decode cX6_apart 38 = .ok (.iload_n 2, 1) := by decide +kernel
theorem dX6_apart_39 : decode cX6_apart 39 = .ok (.invokevirtual 132, 3) := by decide +kernel
theorem dX6_apart_42 : decode cX6_apart 42 = .ok (.iload_n 3, 1) := by decide +kernel
theorem dX6_apart_43 : decode cX6_apart 43 = .ok (.if_icmp .ne 9, 3) := by decide +kernel
theorem dX6_apart_46 : decode cX6_apart 46 = .ok (.aload_n 0, 1) := by decide +kernel
theorem dX6_apart_47 : decode cX6_apart 47 = .ok (.iconst 5, 1) := by decide +kernel
theorem dX6_apart_48 : decode cX6_apart 48 = .ok (.invokevirtual 56, 3) := by decide +kernel
theorem dX6_apart_51 : decode cX6_apart 51 = .ok (.ireturn, 1) := by decide +kernel
theorem dX6_apart_52 : decode cX6_apart 52 = .ok (.aload_n 0, 1) := by decide +kernel
theorem dX6_apart_53 : decode cX6_apart 53 = .ok (.getfield 26, 3) := by decide +kernel
theorem dX6_apart_56 : decode cX6_apart 56 = .ok (.invokevirtual 122, 3) := by decide +kernel
theorem dX6_apart_59 : decode cX6_apart 59 = .ok (.aload_n 0, 1) := by decide +kernel
theorem dX6_apart_60 : decode cX6_apart 60 = .ok (.getfield 19, 3) := by decide +kernel
theorem dX6_apart_63 : decode cX6_apart 63 = .ok (.iload_n 1, 1) := by decide +kernel
theorem dX6_apart_64 : decode cX6_apart 64 = .ok (.iload_n 2, 1) := by decide +kernel
theorem dX6_apart_65 : decode cX6_apart 65 = .ok (.invokevirtual 136, 3) := by decide +kernel
theorem dX6_apart_68 : decode cX6_apart 68 = .ok (.aload_n 0, 1) := by decide +kernel
theorem dX6_apart_69 : decode cX6_apart 69 = .ok (.invokevirtual 63, 3) := by decide +kernel
theorem dX6_apart_72 : decode cX6_apart 72 = .ok (.ireturn, 1) := by decide +kernel
set_option maxRecDepth 20000 in
theorem ggX6_count_X6_answer : GoodIn wsX6_count wsX6_answer := goodIn_r _ [12, 13, 34, 35, 36, 37, 38, 39] (by decide +kernel) (by decide +kernel)
set_option maxRecDepth 20000 in
theorem gX6_count_X6_answer : GoodIn wsX6_count (wsV RX6 104 RX6 yX6_answer wsX6_answer) := goodIn_app (goodIn_of _ (by decide +kernel)) ggX6_count_X6_answer
set_option maxRecDepth 20000 in
theorem ggX6_count_X1_standing : GoodIn wsX6_count wsX1_standing := goodIn_r _ [18, 19, 20, 40, 41, 42, 43, 44, 45, 46, 47, 48, 49, 50, 51, 52] (by decide +kernel) (by decide +kernel)
set_option maxRecDepth 20000 in
theorem gX6_count_X1_standing : GoodIn wsX6_count (wsV RX6 146 RX1 yX1_standing wsX1_standing) := goodIn_app (goodIn_of _ (by decide +kernel)) ggX6_count_X1_standing
set_option maxRecDepth 20000 in
theorem ggX6_count_X1_sizeOf : GoodIn wsX6_count wsX1_sizeOf := goodIn_r _ [24, 25, 26, 27, 28, 17, 29, 40, 41, 42, 43, 44, 45, 46, 47, 48, 49, 50, 51, 52] (by decide +kernel) (by decide +kernel)
set_option maxRecDepth 20000 in
theorem gX6_count_X1_sizeOf : GoodIn wsX6_count (wsV RX6 149 RX1 yX1_sizeOf wsX1_sizeOf) := goodIn_app (goodIn_of _ (by decide +kernel)) ggX6_count_X1_sizeOf
set_option maxRecDepth 20000 in
theorem ggX6_count_X6_deny : GoodIn wsX6_count wsX6_deny := goodIn_r _ [33, 13, 34, 35, 36, 37, 38, 39] (by decide +kernel) (by decide +kernel)
set_option maxRecDepth 20000 in
theorem gX6_count_X6_deny : GoodIn wsX6_count (wsV RX6 75 RX6 yX6_deny wsX6_deny) := goodIn_app (goodIn_of _ (by decide +kernel)) ggX6_count_X6_deny
theorem dX6_count_0 : decode cX6_count 0 = .ok (.iload_n 1, 1) := by decide +kernel
theorem dX6_count_1 : decode cX6_count 1 = .ok (.tableswitch 103 0 4 #[35, 47, 59, 71, 83], 35) := by decide +kernel
theorem dX6_count_36 : decode cX6_count 36 = .ok (.aload_n 0, 1) := by decide +kernel
theorem dX6_count_37 : decode cX6_count 37 = .ok (.aload_n 0, 1) := by decide +kernel
theorem dX6_count_38 : decode cX6_count 38 = .ok (.getfield 19, 3) := by decide +kernel
theorem dX6_count_41 : decode cX6_count 41 = .ok (.getfield 98, 3) := by decide +kernel
theorem dX6_count_44 : decode cX6_count 44 = .ok (.invokevirtual 104, 3) := by decide +kernel
theorem dX6_count_47 : decode cX6_count 47 = .ok (.ireturn, 1) := by decide +kernel
theorem dX6_count_48 : decode cX6_count 48 = .ok (.aload_n 0, 1) := by decide +kernel
theorem dX6_count_49 : decode cX6_count 49 = .ok (.aload_n 0, 1) := by decide +kernel
theorem dX6_count_50 : decode cX6_count 50 = .ok (.getfield 19, 3) := by decide +kernel
theorem dX6_count_53 : decode cX6_count 53 = .ok (.getfield 119, 3) := by decide +kernel
theorem dX6_count_56 : decode cX6_count 56 = .ok (.invokevirtual 104, 3) := by decide +kernel
theorem dX6_count_59 : decode cX6_count 59 = .ok (.ireturn, 1) := by decide +kernel
theorem dX6_count_60 : decode cX6_count 60 = .ok (.aload_n 0, 1) := by decide +kernel
theorem dX6_count_61 : decode cX6_count 61 = .ok (.aload_n 0, 1) := by decide +kernel
theorem dX6_count_62 : decode cX6_count 62 = .ok (.getfield 26, 3) := by decide +kernel
theorem dX6_count_65 : decode cX6_count 65 = .ok (.getfield 140, 3) := by decide +kernel
theorem dX6_count_68 : decode cX6_count 68 = .ok (.invokevirtual 104, 3) := by decide +kernel
theorem dX6_count_71 : decode cX6_count 71 = .ok (.ireturn, 1) := by decide +kernel
theorem dX6_count_72 : decode cX6_count 72 = .ok (.aload_n 0, 1) := by decide +kernel
theorem dX6_count_73 : decode cX6_count 73 = .ok (.aload_n 0, 1) := by decide +kernel
theorem dX6_count_74 : decode cX6_count 74 = .ok (.getfield 40, 3) := by decide +kernel
theorem dX6_count_77 : decode cX6_count 77 = .ok (.getfield 143, 3) := by decide +kernel
theorem dX6_count_80 : decode cX6_count 80 = .ok (.invokevirtual 104, 3) := by decide +kernel
theorem dX6_count_83 : decode cX6_count 83 = .ok (.ireturn, 1) := by decide +kernel
theorem dX6_count_84 : decode cX6_count 84 = .ok (.aload_n 0, 1) := by decide +kernel
theorem dX6_count_85 : decode cX6_count 85 = .ok (.aload_n 0, 1) := by decide +kernel
theorem dX6_count_86 : decode cX6_count 86 = .ok (.getfield 19, 3) := by decide +kernel
theorem dX6_count_89 : decode cX6_count 89 = .ok (.aload_n 0, 1) := by decide +kernel
theorem dX6_count_90 : decode cX6_count 90 = .ok (.getfield 19, 3) := by decide +kernel
theorem dX6_count_93 : decode cX6_count 93 = .ok (.iconst 0, 1) := by decide +kernel
theorem dX6_count_94 : decode cX6_count 94 = .ok (.invokevirtual 146, 3) := by decide +kernel
theorem dX6_count_97 : decode cX6_count 97 = .ok (.invokevirtual 149, 3) := by decide +kernel
theorem dX6_count_100 : decode cX6_count 100 = .ok (.invokevirtual 104, 3) := by decide +kernel
theorem dX6_count_103 : decode cX6_count 103 = .ok (.ireturn, 1) := by decide +kernel
theorem dX6_count_104 : decode cX6_count 104 = .ok (.aload_n 0, 1) := by decide +kernel
theorem dX6_count_105 : decode cX6_count 105 = .ok (.iconst 1, 1) := by decide +kernel
theorem dX6_count_106 : decode cX6_count 106 = .ok (.invokevirtual 75, 3) := by decide +kernel
theorem dX6_count_109 : decode cX6_count 109 = .ok (.ireturn, 1) := by decide +kernel
set_option maxRecDepth 20000 in
theorem ggX6_fits_X6_isHour : GoodIn wsX6_fits wsX6_isHour := goodIn_r _ [5, 6, 7, 4, 8] (by decide +kernel) (by decide +kernel)
set_option maxRecDepth 20000 in
theorem gX6_fits_X6_isHour : GoodIn wsX6_fits (va_wsS RX6 116 yX6_isHour wsX6_isHour) := goodIn_app (goodIn_of _ (by decide +kernel)) ggX6_fits_X6_isHour
set_option maxRecDepth 20000 in
theorem ggX6_fits_X1_isFall : GoodIn wsX6_fits wsX1_isFall := goodIn_r _ [12, 7, 4, 8] (by decide +kernel) (by decide +kernel)
set_option maxRecDepth 20000 in
theorem gX6_fits_X1_isFall : GoodIn wsX6_fits (va_wsS RX6 152 yX1_isFall wsX1_isFall) := goodIn_app (goodIn_of _ (by decide +kernel)) ggX6_fits_X1_isFall
set_option maxRecDepth 20000 in
theorem ggX6_fits_X6_deny : GoodIn wsX6_fits wsX6_deny := goodIn_r _ [16, 17, 60, 61, 62, 63, 64, 65] (by decide +kernel) (by decide +kernel)
set_option maxRecDepth 20000 in
theorem gX6_fits_X6_deny : GoodIn wsX6_fits (wsV RX6 75 RX6 yX6_deny wsX6_deny) := goodIn_app (goodIn_of _ (by decide +kernel)) ggX6_fits_X6_deny
set_option maxRecDepth 20000 in
theorem ggX6_fits_X1_standing : GoodIn wsX6_fits wsX1_standing := goodIn_r _ [21, 22, 23, 66, 67, 68, 69, 70, 71, 72, 73, 74, 75, 76, 77, 78] (by decide +kernel) (by decide +kernel)
set_option maxRecDepth 20000 in
theorem gX6_fits_X1_standing : GoodIn wsX6_fits (wsV RX6 146 RX1 yX1_standing wsX1_standing) := goodIn_app (goodIn_of _ (by decide +kernel)) ggX6_fits_X1_standing
set_option maxRecDepth 20000 in
theorem ggX6_fits_X1_holds : GoodIn wsX6_fits wsX1_holds := goodIn_r _ [27, 28, 29, 30, 31, 32, 11, 33, 34, 35, 36, 37, 38, 39, 40, 41, 42, 43, 44, 45, 46, 47, 48, 49, 50, 51, 52, 53, 54, 55, 66, 67, 68, 69, 70, 71, 72, 73, 74, 75, 76, 77, 78] (by decide +kernel) (by decide +kernel)
set_option maxRecDepth 20000 in
theorem gX6_fits_X1_holds : GoodIn wsX6_fits (wsV RX6 155 RX1 yX1_holds wsX1_holds) := goodIn_app (goodIn_of _ (by decide +kernel)) ggX6_fits_X1_holds
set_option maxRecDepth 20000 in
theorem ggX6_fits_X6_answer : GoodIn wsX6_fits wsX6_answer := goodIn_r _ [59, 17, 60, 61, 62, 63, 64, 65] (by decide +kernel) (by decide +kernel)
set_option maxRecDepth 20000 in
theorem gX6_fits_X6_answer : GoodIn wsX6_fits (wsV RX6 104 RX6 yX6_answer wsX6_answer) := goodIn_app (goodIn_of _ (by decide +kernel)) ggX6_fits_X6_answer
theorem dX6_fits_0 : decode cX6_fits 0 = .ok (.iload_n 1, 1) := by decide +kernel
theorem dX6_fits_1 : decode cX6_fits 1 = .ok (.invokestatic 116, 3) := by decide +kernel
theorem dX6_fits_4 : decode cX6_fits 4 = .ok (.ifCond .eq 10, 3) := by decide +kernel
theorem dX6_fits_7 : decode cX6_fits 7 = .ok (.iload_n 2, 1) := by decide +kernel
theorem dX6_fits_8 : decode cX6_fits 8 = .ok (.invokestatic 152, 3) := by decide +kernel
theorem dX6_fits_11 : decode cX6_fits 11 = .ok (.ifCond .ne 9, 3) := by decide +kernel
theorem dX6_fits_14 : decode cX6_fits 14 = .ok (.aload_n 0, 1) := by decide +kernel
theorem dX6_fits_15 : decode cX6_fits 15 = .ok (.iconst 1, 1) := by decide +kernel
theorem dX6_fits_16 : decode cX6_fits 16 = .ok (.invokevirtual 75, 3) := by decide +kernel
theorem dX6_fits_19 : decode cX6_fits 19 = .ok (.ireturn, 1) := by decide +kernel
theorem dX6_fits_20 : decode cX6_fits 20 = .ok (.aload_n 0, 1) := by decide +kernel
theorem dX6_fits_21 : decode cX6_fits 21 = .ok (.aload_n 0, 1) := by decide +kernel
theorem dX6_fits_22 : decode cX6_fits 22 = .ok (.getfield 19, 3) := by decide +kernel
theorem dX6_fits_25 : decode cX6_fits 25 = .ok (.iload_n 1, 1) := by decide +kernel
theorem dX6_fits_26 : decode cX6_fits 26 = .ok (.aload_n 0, 1) := by decide +kernel
theorem dX6_fits_27 : decode cX6_fits 27 = .ok (.getfield 19, 3) := by decide +kernel
theorem dX6_fits_30 : decode cX6_fits 30 = .ok (.iload_n 2, 1) := by decide +kernel
theorem dX6_fits_31 : decode cX6_fits 31 = .ok (.invokevirtual 146, 3) := by decide +kernel
theorem dX6_fits_34 : decode cX6_fits 34 = .ok (.invokevirtual 155, 3) := by decide +kernel
theorem dX6_fits_37 : decode cX6_fits 37 = .ok (.ifCond .eq 7, 3) := by decide +kernel
theorem dX6_fits_40 : decode cX6_fits 40 = .ok (.iconst 1, 1) := by decide +kernel
theorem dX6_fits_41 : decode cX6_fits 41 = .ok (.goto 4, 3) := by decide +kernel
theorem dX6_fits_44 : decode cX6_fits 44 = .ok (.iconst 0, 1) := by decide +kernel
theorem dX6_fits_45 : decode cX6_fits 45 = .ok (.invokevirtual 104, 3) := by decide +kernel
theorem dX6_fits_48 : decode cX6_fits 48 = .ok (.ireturn, 1) := by decide +kernel
set_option maxRecDepth 20000 in
theorem ggX6_on_X6_isHour : GoodIn wsX6_on wsX6_isHour := goodIn_r _ [5, 6, 7, 4, 8] (by decide +kernel) (by decide +kernel)
set_option maxRecDepth 20000 in
theorem gX6_on_X6_isHour : GoodIn wsX6_on (va_wsS RX6 116 yX6_isHour wsX6_isHour) := goodIn_app (goodIn_of _ (by decide +kernel)) ggX6_on_X6_isHour
set_option maxRecDepth 20000 in
theorem ggX6_on_X1_isFall : GoodIn wsX6_on wsX1_isFall := goodIn_r _ [12, 7, 4, 8] (by decide +kernel) (by decide +kernel)
set_option maxRecDepth 20000 in
theorem gX6_on_X1_isFall : GoodIn wsX6_on (va_wsS RX6 152 yX1_isFall wsX1_isFall) := goodIn_app (goodIn_of _ (by decide +kernel)) ggX6_on_X1_isFall
set_option maxRecDepth 20000 in
theorem ggX6_on_X1_hasAsk : GoodIn wsX6_on wsX1_hasAsk := goodIn_r _ [16, 17, 7, 4, 8, 78, 79, 80, 81, 82, 83, 84, 85, 86, 87, 88, 89, 90] (by decide +kernel) (by decide +kernel)
set_option maxRecDepth 20000 in
theorem gX6_on_X1_hasAsk : GoodIn wsX6_on (wsV RX6 129 RX1 yX1_hasAsk wsX1_hasAsk) := goodIn_app (goodIn_of _ (by decide +kernel)) ggX6_on_X1_hasAsk
set_option maxRecDepth 20000 in
theorem ggX6_on_X1_isAskOf : GoodIn wsX6_on wsX1_isAskOf := goodIn_r _ [21, 22, 23, 24, 11, 25, 78, 79, 80, 81, 82, 83, 84, 85, 86, 87, 88, 89, 90] (by decide +kernel) (by decide +kernel)
set_option maxRecDepth 20000 in
theorem gX6_on_X1_isAskOf : GoodIn wsX6_on (wsV RX6 158 RX1 yX1_isAskOf wsX1_isAskOf) := goodIn_app (goodIn_of _ (by decide +kernel)) ggX6_on_X1_isAskOf
set_option maxRecDepth 20000 in
theorem ggX6_on_X6_deny : GoodIn wsX6_on wsX6_deny := goodIn_r _ [29, 30, 72, 73, 74, 75, 76, 77] (by decide +kernel) (by decide +kernel)
set_option maxRecDepth 20000 in
theorem gX6_on_X6_deny : GoodIn wsX6_on (wsV RX6 75 RX6 yX6_deny wsX6_deny) := goodIn_app (goodIn_of _ (by decide +kernel)) ggX6_on_X6_deny
set_option maxRecDepth 20000 in
theorem ggX6_on_X1_standing : GoodIn wsX6_on wsX1_standing := goodIn_r _ [34, 35, 36, 78, 79, 80, 81, 82, 83, 84, 85, 86, 87, 88, 89, 90] (by decide +kernel) (by decide +kernel)
set_option maxRecDepth 20000 in
theorem gX6_on_X1_standing : GoodIn wsX6_on (wsV RX6 146 RX1 yX1_standing wsX1_standing) := goodIn_app (goodIn_of _ (by decide +kernel)) ggX6_on_X1_standing
set_option maxRecDepth 20000 in
theorem ggX6_on_X1_holds : GoodIn wsX6_on wsX1_holds := goodIn_r _ [40, 41, 22, 42, 43, 44, 11, 45, 46, 47, 48, 49, 50, 51, 52, 23, 24, 25, 53, 54, 55, 56, 17, 57, 58, 59, 60, 61, 62, 63, 78, 79, 80, 81, 82, 83, 84, 85, 86, 87, 88, 89, 90] (by decide +kernel) (by decide +kernel)
set_option maxRecDepth 20000 in
theorem gX6_on_X1_holds : GoodIn wsX6_on (wsV RX6 155 RX1 yX1_holds wsX1_holds) := goodIn_app (goodIn_of _ (by decide +kernel)) ggX6_on_X1_holds
set_option maxRecDepth 20000 in
theorem ggX6_on_X1_layingOf : GoodIn wsX6_on wsX1_layingOf := goodIn_r _ [67, 22, 47, 42, 43, 44, 11, 45, 46, 41, 48, 49, 50, 51, 52, 23, 24, 25, 53, 54, 55, 56, 17, 57, 58, 59, 60, 61, 62, 63, 78, 79, 80, 81, 82, 83, 84, 85, 86, 87, 88, 89, 90] (by decide +kernel) (by decide +kernel)
set_option maxRecDepth 20000 in
theorem gX6_on_X1_layingOf : GoodIn wsX6_on (wsV RX6 161 RX1 yX1_layingOf wsX1_layingOf) := goodIn_app (goodIn_of _ (by decide +kernel)) ggX6_on_X1_layingOf
set_option maxRecDepth 20000 in
theorem ggX6_on_X6_answer : GoodIn wsX6_on wsX6_answer := goodIn_r _ [71, 30, 72, 73, 74, 75, 76, 77] (by decide +kernel) (by decide +kernel)
set_option maxRecDepth 20000 in
theorem gX6_on_X6_answer : GoodIn wsX6_on (wsV RX6 104 RX6 yX6_answer wsX6_answer) := goodIn_app (goodIn_of _ (by decide +kernel)) ggX6_on_X6_answer
theorem dX6_on_0 : decode cX6_on 0 = .ok (.iload_n 1, 1) := by decide +kernel
theorem dX6_on_1 : decode cX6_on 1 = .ok (.invokestatic 116, 3) := by decide +kernel
theorem dX6_on_4 : decode cX6_on 4 = .ok (.ifCond .eq 33, 3) := by decide +kernel
theorem dX6_on_7 : decode cX6_on 7 = .ok (.iload_n 2, 1) := by decide +kernel
theorem dX6_on_8 : decode cX6_on 8 = .ok (.invokestatic 152, 3) := by decide +kernel
theorem dX6_on_11 : decode cX6_on 11 = .ok (.ifCond .eq 26, 3) := by decide +kernel
theorem dX6_on_14 : decode cX6_on 14 = .ok (.aload_n 0, 1) := by decide +kernel
theorem dX6_on_15 : decode cX6_on 15 = .ok (.getfield 19, 3) := by decide +kernel
theorem dX6_on_18 : decode cX6_on 18 = .ok (.iload_n 3, 1) := by decide +kernel
theorem dX6_on_19 : decode cX6_on 19 = .ok (.invokevirtual 129, 3) := by decide +kernel
theorem dX6_on_22 : decode cX6_on 22 = .ok (.ifCond .eq 15, 3) := by decide +kernel
theorem dX6_on_25 : decode cX6_on 25 = .ok (.aload_n 0, 1) := by decide +kernel
theorem dX6_on_26 : decode cX6_on 26 = .ok (.getfield 19, 3) := by decide +kernel
theorem dX6_on_29 : decode cX6_on 29 = .ok (.iload_n 3, 1) := by decide +kernel
theorem dX6_on_30 : decode cX6_on 30 = .ok (.iload_n 1, 1) := by decide +kernel
theorem dX6_on_31 : decode cX6_on 31 = .ok (.invokevirtual 158, 3) := by decide +kernel
theorem dX6_on_34 : decode cX6_on 34 = .ok (.ifCond .ne 9, 3) := by decide +kernel
theorem dX6_on_37 : decode cX6_on 37 = .ok (.aload_n 0, 1) := by decide +kernel
theorem dX6_on_38 : decode cX6_on 38 = .ok (.iconst 1, 1) := by decide +kernel
theorem dX6_on_39 : decode cX6_on 39 = .ok (.invokevirtual 75, 3) := by decide +kernel
theorem dX6_on_42 : decode cX6_on 42 = .ok (.ireturn, 1) := by decide +kernel
theorem dX6_on_43 : decode cX6_on 43 = .ok (.aload_n 0, 1) := by decide +kernel
theorem dX6_on_44 : decode cX6_on 44 = .ok (.getfield 19, 3) := by decide +kernel
theorem dX6_on_47 : decode cX6_on 47 = .ok (.iload_n 1, 1) := by decide +kernel
theorem dX6_on_48 : decode cX6_on 48 = .ok (.aload_n 0, 1) := by decide +kernel
theorem dX6_on_49 : decode cX6_on 49 = .ok (.getfield 19, 3) := by decide +kernel
theorem dX6_on_52 : decode cX6_on 52 = .ok (.iload_n 2, 1) := by decide +kernel
theorem dX6_on_53 : decode cX6_on 53 = .ok (.invokevirtual 146, 3) := by decide +kernel
theorem dX6_on_56 : decode cX6_on 56 = .ok (.invokevirtual 155, 3) := by decide +kernel
theorem dX6_on_59 : decode cX6_on 59 = .ok (.ifCond .ne 10, 3) := by decide +kernel
theorem dX6_on_62 : decode cX6_on 62 = .ok (.aload_n 0, 1) := by decide +kernel
theorem dX6_on_63 : decode cX6_on 63 = .ok (.bipush 6, 2) := by decide +kernel
theorem dX6_on_65 : decode cX6_on 65 = .ok (.invokevirtual 75, 3) := by decide +kernel
theorem dX6_on_68 : decode cX6_on 68 = .ok (.ireturn, 1) := by decide +kernel
theorem dX6_on_69 : decode cX6_on 69 = .ok (.aload_n 0, 1) := by decide +kernel
theorem dX6_on_70 : decode cX6_on 70 = .ok (.aload_n 0, 1) := by decide +kernel
theorem dX6_on_71 : decode cX6_on 71 = .ok (.getfield 19, 3) := by decide +kernel
theorem dX6_on_74 : decode cX6_on 74 = .ok (.iload_n 1, 1) := by decide +kernel
theorem dX6_on_75 : decode cX6_on 75 = .ok (.aload_n 0, 1) := by decide +kernel
theorem dX6_on_76 : decode cX6_on 76 = .ok (.getfield 19, 3) := by decide +kernel
theorem dX6_on_79 : decode cX6_on 79 = .ok (.iload_n 2, 1) := by decide +kernel
theorem dX6_on_80 : decode cX6_on 80 = .ok (.invokevirtual 146, 3) := by decide +kernel
theorem dX6_on_83 : decode cX6_on 83 = .ok (.iload_n 3, 1) := by decide +kernel
theorem dX6_on_84 : decode cX6_on 84 = .ok (.invokevirtual 161, 3) := by decide +kernel
theorem dX6_on_87 : decode cX6_on 87 = .ok (.invokevirtual 104, 3) := by decide +kernel
theorem dX6_on_90 : decode cX6_on 90 = .ok (.ireturn, 1) := by decide +kernel
set_option maxRecDepth 20000 in
theorem ggX6_lack_X6_isHour : GoodIn wsX6_lack wsX6_isHour := goodIn_r _ [5, 6, 7, 4, 8] (by decide +kernel) (by decide +kernel)
set_option maxRecDepth 20000 in
theorem gX6_lack_X6_isHour : GoodIn wsX6_lack (va_wsS RX6 116 yX6_isHour wsX6_isHour) := goodIn_app (goodIn_of _ (by decide +kernel)) ggX6_lack_X6_isHour
set_option maxRecDepth 20000 in
theorem ggX6_lack_X1_isFall : GoodIn wsX6_lack wsX1_isFall := goodIn_r _ [12, 7, 4, 8] (by decide +kernel) (by decide +kernel)
set_option maxRecDepth 20000 in
theorem gX6_lack_X1_isFall : GoodIn wsX6_lack (va_wsS RX6 152 yX1_isFall wsX1_isFall) := goodIn_app (goodIn_of _ (by decide +kernel)) ggX6_lack_X1_isFall
set_option maxRecDepth 20000 in
theorem ggX6_lack_X6_deny : GoodIn wsX6_lack wsX6_deny := goodIn_r _ [16, 17, 64, 65, 66, 67, 68, 69] (by decide +kernel) (by decide +kernel)
set_option maxRecDepth 20000 in
theorem gX6_lack_X6_deny : GoodIn wsX6_lack (wsV RX6 75 RX6 yX6_deny wsX6_deny) := goodIn_app (goodIn_of _ (by decide +kernel)) ggX6_lack_X6_deny
set_option maxRecDepth 20000 in
theorem ggX6_lack_X1_standing : GoodIn wsX6_lack wsX1_standing := goodIn_r _ [21, 22, 23, 70, 71, 72, 73, 74, 75, 76, 77, 78, 79, 80, 81, 82] (by decide +kernel) (by decide +kernel)
set_option maxRecDepth 20000 in
theorem gX6_lack_X1_standing : GoodIn wsX6_lack (wsV RX6 146 RX1 yX1_standing wsX1_standing) := goodIn_app (goodIn_of _ (by decide +kernel)) ggX6_lack_X1_standing
set_option maxRecDepth 20000 in
theorem ggX6_lack_X1_lacking : GoodIn wsX6_lack wsX1_lacking := goodIn_r _ [27, 28, 29, 30, 31, 32, 33, 34, 35, 36, 37, 11, 38, 39, 40, 41, 42, 43, 44, 45, 46, 47, 48, 49, 50, 51, 52, 53, 54, 55, 56, 57, 58, 59, 70, 71, 72, 73, 74, 75, 76, 77, 78, 79, 80, 81, 82] (by decide +kernel) (by decide +kernel)
set_option maxRecDepth 20000 in
theorem gX6_lack_X1_lacking : GoodIn wsX6_lack (wsV RX6 164 RX1 yX1_lacking wsX1_lacking) := goodIn_app (goodIn_of _ (by decide +kernel)) ggX6_lack_X1_lacking
set_option maxRecDepth 20000 in
theorem ggX6_lack_X6_answer : GoodIn wsX6_lack wsX6_answer := goodIn_r _ [63, 17, 64, 65, 66, 67, 68, 69] (by decide +kernel) (by decide +kernel)
set_option maxRecDepth 20000 in
theorem gX6_lack_X6_answer : GoodIn wsX6_lack (wsV RX6 104 RX6 yX6_answer wsX6_answer) := goodIn_app (goodIn_of _ (by decide +kernel)) ggX6_lack_X6_answer
theorem dX6_lack_0 : decode cX6_lack 0 = .ok (.iload_n 1, 1) := by decide +kernel
theorem dX6_lack_1 : decode cX6_lack 1 = .ok (.invokestatic 116, 3) := by decide +kernel
theorem dX6_lack_4 : decode cX6_lack 4 = .ok (.ifCond .eq 10, 3) := by decide +kernel
theorem dX6_lack_7 : decode cX6_lack 7 = .ok (.iload_n 2, 1) := by decide +kernel
theorem dX6_lack_8 : decode cX6_lack 8 = .ok (.invokestatic 152, 3) := by decide +kernel
theorem dX6_lack_11 : decode cX6_lack 11 = .ok (.ifCond .ne 9, 3) := by decide +kernel
theorem dX6_lack_14 : decode cX6_lack 14 = .ok (.aload_n 0, 1) := by decide +kernel
theorem dX6_lack_15 : decode cX6_lack 15 = .ok (.iconst 1, 1) := by decide +kernel
theorem dX6_lack_16 : decode cX6_lack 16 = .ok (.invokevirtual 75, 3) := by decide +kernel
theorem dX6_lack_19 : decode cX6_lack 19 = .ok (.ireturn, 1) := by decide +kernel
theorem dX6_lack_20 : decode cX6_lack 20 = .ok (.aload_n 0, 1) := by decide +kernel
theorem dX6_lack_21 : decode cX6_lack 21 = .ok (.aload_n 0, 1) := by decide +kernel
theorem dX6_lack_22 : decode cX6_lack 22 = .ok (.getfield 19, 3) := by decide +kernel
theorem dX6_lack_25 : decode cX6_lack 25 = .ok (.iload_n 1, 1) := by decide +kernel
theorem dX6_lack_26 : decode cX6_lack 26 = .ok (.aload_n 0, 1) := by decide +kernel
theorem dX6_lack_27 : decode cX6_lack 27 = .ok (.getfield 19, 3) := by decide +kernel
theorem dX6_lack_30 : decode cX6_lack 30 = .ok (.iload_n 2, 1) := by decide +kernel
theorem dX6_lack_31 : decode cX6_lack 31 = .ok (.invokevirtual 146, 3) := by decide +kernel
theorem dX6_lack_34 : decode cX6_lack 34 = .ok (.invokevirtual 164, 3) := by decide +kernel
theorem dX6_lack_37 : decode cX6_lack 37 = .ok (.invokevirtual 104, 3) := by decide +kernel
theorem dX6_lack_40 : decode cX6_lack 40 = .ok (.ireturn, 1) := by decide +kernel
set_option maxRecDepth 20000 in
theorem ggX6_left_X6_isHour : GoodIn wsX6_left wsX6_isHour := goodIn_r _ [5, 6, 7, 4, 8] (by decide +kernel) (by decide +kernel)
set_option maxRecDepth 20000 in
theorem gX6_left_X6_isHour : GoodIn wsX6_left (va_wsS RX6 116 yX6_isHour wsX6_isHour) := goodIn_app (goodIn_of _ (by decide +kernel)) ggX6_left_X6_isHour
set_option maxRecDepth 20000 in
theorem ggX6_left_X1_isFall : GoodIn wsX6_left wsX1_isFall := goodIn_r _ [12, 7, 4, 8] (by decide +kernel) (by decide +kernel)
set_option maxRecDepth 20000 in
theorem gX6_left_X1_isFall : GoodIn wsX6_left (va_wsS RX6 152 yX1_isFall wsX1_isFall) := goodIn_app (goodIn_of _ (by decide +kernel)) ggX6_left_X1_isFall
set_option maxRecDepth 20000 in
theorem ggX6_left_X6_deny : GoodIn wsX6_left wsX6_deny := goodIn_r _ [16, 17, 64, 65, 66, 67, 68, 69] (by decide +kernel) (by decide +kernel)
set_option maxRecDepth 20000 in
theorem gX6_left_X6_deny : GoodIn wsX6_left (wsV RX6 75 RX6 yX6_deny wsX6_deny) := goodIn_app (goodIn_of _ (by decide +kernel)) ggX6_left_X6_deny
set_option maxRecDepth 20000 in
theorem ggX6_left_X1_standing : GoodIn wsX6_left wsX1_standing := goodIn_r _ [21, 22, 23, 70, 71, 72, 73, 74, 75, 76, 77, 78, 79, 80, 81, 82] (by decide +kernel) (by decide +kernel)
set_option maxRecDepth 20000 in
theorem gX6_left_X1_standing : GoodIn wsX6_left (wsV RX6 146 RX1 yX1_standing wsX1_standing) := goodIn_app (goodIn_of _ (by decide +kernel)) ggX6_left_X1_standing
set_option maxRecDepth 20000 in
theorem ggX6_left_X1_leftOver : GoodIn wsX6_left wsX1_leftOver := goodIn_r _ [27, 28, 29, 30, 31, 32, 33, 11, 34, 35, 36, 37, 38, 39, 40, 41, 42, 43, 44, 45, 46, 47, 48, 49, 50, 51, 52, 53, 54, 55, 56, 57, 58, 59, 70, 71, 72, 73, 74, 75, 76, 77, 78, 79, 80, 81, 82] (by decide +kernel) (by decide +kernel)
set_option maxRecDepth 20000 in
theorem gX6_left_X1_leftOver : GoodIn wsX6_left (wsV RX6 167 RX1 yX1_leftOver wsX1_leftOver) := goodIn_app (goodIn_of _ (by decide +kernel)) ggX6_left_X1_leftOver
set_option maxRecDepth 20000 in
theorem ggX6_left_X6_answer : GoodIn wsX6_left wsX6_answer := goodIn_r _ [63, 17, 64, 65, 66, 67, 68, 69] (by decide +kernel) (by decide +kernel)
set_option maxRecDepth 20000 in
theorem gX6_left_X6_answer : GoodIn wsX6_left (wsV RX6 104 RX6 yX6_answer wsX6_answer) := goodIn_app (goodIn_of _ (by decide +kernel)) ggX6_left_X6_answer
theorem dX6_left_0 : decode cX6_left 0 = .ok (.iload_n 1, 1) := by decide +kernel
theorem dX6_left_1 : decode cX6_left 1 = .ok (.invokestatic 116, 3) := by decide +kernel
theorem dX6_left_4 : decode cX6_left 4 = .ok (.ifCond .eq 10, 3) := by decide +kernel
theorem dX6_left_7 : decode cX6_left 7 = .ok (.iload_n 2, 1) := by decide +kernel
theorem dX6_left_8 : decode cX6_left 8 = .ok (.invokestatic 152, 3) := by decide +kernel
theorem dX6_left_11 : decode cX6_left 11 = .ok (.ifCond .ne 9, 3) := by decide +kernel
theorem dX6_left_14 : decode cX6_left 14 = .ok (.aload_n 0, 1) := by decide +kernel
theorem dX6_left_15 : decode cX6_left 15 = .ok (.iconst 1, 1) := by decide +kernel
theorem dX6_left_16 : decode cX6_left 16 = .ok (.invokevirtual 75, 3) := by decide +kernel
theorem dX6_left_19 : decode cX6_left 19 = .ok (.ireturn, 1) := by decide +kernel
theorem dX6_left_20 : decode cX6_left 20 = .ok (.aload_n 0, 1) := by decide +kernel
theorem dX6_left_21 : decode cX6_left 21 = .ok (.aload_n 0, 1) := by decide +kernel
theorem dX6_left_22 : decode cX6_left 22 = .ok (.getfield 19, 3) := by decide +kernel
theorem dX6_left_25 : decode cX6_left 25 = .ok (.iload_n 1, 1) := by decide +kernel
theorem dX6_left_26 : decode cX6_left 26 = .ok (.aload_n 0, 1) := by decide +kernel
theorem dX6_left_27 : decode cX6_left 27 = .ok (.getfield 19, 3) := by decide +kernel
theorem dX6_left_30 : decode cX6_left 30 = .ok (.iload_n 2, 1) := by decide +kernel
theorem dX6_left_31 : decode cX6_left 31 = .ok (.invokevirtual 146, 3) := by decide +kernel
theorem dX6_left_34 : decode cX6_left 34 = .ok (.invokevirtual 167, 3) := by decide +kernel
theorem dX6_left_37 : decode cX6_left 37 = .ok (.invokevirtual 104, 3) := by decide +kernel
theorem dX6_left_40 : decode cX6_left 40 = .ok (.ireturn, 1) := by decide +kernel
set_option maxRecDepth 20000 in
theorem ggX6_enough_X6_within : GoodIn wsX6_enough wsX6_within := goodIn_r _ [5] (by decide +kernel) (by decide +kernel)
set_option maxRecDepth 20000 in
theorem gX6_enough_X6_within : GoodIn wsX6_enough (va_wsS RX6 52 yX6_within wsX6_within) := goodIn_app (goodIn_of _ (by decide +kernel)) ggX6_enough_X6_within
set_option maxRecDepth 20000 in
theorem ggX6_enough_X6_deny : GoodIn wsX6_enough wsX6_deny := goodIn_r _ [9, 10, 66, 67, 68, 69, 70, 71] (by decide +kernel) (by decide +kernel)
set_option maxRecDepth 20000 in
theorem gX6_enough_X6_deny : GoodIn wsX6_enough (wsV RX6 75 RX6 yX6_deny wsX6_deny) := goodIn_app (goodIn_of _ (by decide +kernel)) ggX6_enough_X6_deny
set_option maxRecDepth 20000 in
theorem ggX6_enough_X1_firstUnfit : GoodIn wsX6_enough wsX1_firstUnfit := goodIn_r _ [15, 16, 17, 18, 14, 19, 20, 21, 22, 23, 24, 25, 26, 27, 28, 29, 30, 31, 32, 33, 34, 35, 36, 37, 38, 39, 40, 41, 42, 43, 44, 45, 46, 47, 48, 49, 50, 51, 52, 53, 54, 55, 56, 57, 58, 59, 60, 61, 72, 73, 74, 75, 76, 77, 78, 79, 80, 81, 82, 83, 84] (by decide +kernel) (by decide +kernel)
set_option maxRecDepth 20000 in
theorem gX6_enough_X1_firstUnfit : GoodIn wsX6_enough (wsV RX6 170 RX1 yX1_firstUnfit wsX1_firstUnfit) := goodIn_app (goodIn_of _ (by decide +kernel)) ggX6_enough_X1_firstUnfit
set_option maxRecDepth 20000 in
theorem ggX6_enough_X6_answer : GoodIn wsX6_enough wsX6_answer := goodIn_r _ [65, 10, 66, 67, 68, 69, 70, 71] (by decide +kernel) (by decide +kernel)
set_option maxRecDepth 20000 in
theorem gX6_enough_X6_answer : GoodIn wsX6_enough (wsV RX6 104 RX6 yX6_answer wsX6_answer) := goodIn_app (goodIn_of _ (by decide +kernel)) ggX6_enough_X6_answer
theorem dX6_enough_0 : decode cX6_enough 0 = .ok (.iload_n 1, 1) := by decide +kernel
theorem dX6_enough_1 : decode cX6_enough 1 = .ok (.i2l, 1) := by decide +kernel
theorem dX6_enough_2 : decode cX6_enough 2 = .ok (.iconst 0, 1) := by decide +kernel
theorem dX6_enough_3 : decode cX6_enough 3 = .ok (.iconst 2, 1) := by decide +kernel
theorem dX6_enough_4 : decode cX6_enough 4 = .ok (.invokestatic 52, 3) := by decide +kernel
theorem dX6_enough_7 : decode cX6_enough 7 = .ok (.ifCond .ne 9, 3) := by decide +kernel
theorem dX6_enough_10 : decode cX6_enough 10 = .ok (.aload_n 0, 1) := by decide +kernel
theorem dX6_enough_11 : decode cX6_enough 11 = .ok (.iconst 1, 1) := by decide +kernel
theorem dX6_enough_12 : decode cX6_enough 12 = .ok (.invokevirtual 75, 3) := by decide +kernel
theorem dX6_enough_15 : decode cX6_enough 15 = .ok (.ireturn, 1) := by decide +kernel
theorem dX6_enough_16 : decode cX6_enough 16 = .ok (.aload_n 0, 1) := by decide +kernel
theorem dX6_enough_17 : decode cX6_enough 17 = .ok (.aload_n 0, 1) := by decide +kernel
theorem dX6_enough_18 : decode cX6_enough 18 = .ok (.getfield 19, 3) := by decide +kernel
theorem dX6_enough_21 : decode cX6_enough 21 = .ok (.iload_n 1, 1) := by decide +kernel
theorem dX6_enough_22 : decode cX6_enough 22 = .ok (.invokevirtual 170, 3) := by decide +kernel
theorem dX6_enough_25 : decode cX6_enough 25 = .ok (.invokevirtual 104, 3) := by decide +kernel
theorem dX6_enough_28 : decode cX6_enough 28 = .ok (.ireturn, 1) := by decide +kernel
set_option maxRecDepth 20000 in
theorem ggX6_batch_X6_within : GoodIn wsX6_batch wsX6_within := goodIn_r _ [6] (by decide +kernel) (by decide +kernel)
set_option maxRecDepth 20000 in
theorem gX6_batch_X6_within : GoodIn wsX6_batch (va_wsS RX6 52 yX6_within wsX6_within) := goodIn_app (goodIn_of _ (by decide +kernel)) ggX6_batch_X6_within
set_option maxRecDepth 20000 in
theorem ggX6_batch_X6_isHour : GoodIn wsX6_batch wsX6_isHour := goodIn_r _ [9, 3, 4, 5, 6] (by decide +kernel) (by decide +kernel)
set_option maxRecDepth 20000 in
theorem gX6_batch_X6_isHour : GoodIn wsX6_batch (va_wsS RX6 116 yX6_isHour wsX6_isHour) := goodIn_app (goodIn_of _ (by decide +kernel)) ggX6_batch_X6_isHour
set_option maxRecDepth 20000 in
theorem ggX6_batch_X6_deny : GoodIn wsX6_batch wsX6_deny := goodIn_r _ [13, 14, 34, 35, 36, 37, 38, 39] (by decide +kernel) (by decide +kernel)
set_option maxRecDepth 20000 in
theorem gX6_batch_X6_deny : GoodIn wsX6_batch (wsV RX6 75 RX6 yX6_deny wsX6_deny) := goodIn_app (goodIn_of _ (by decide +kernel)) ggX6_batch_X6_deny
set_option maxRecDepth 20000 in
theorem ggX6_batch_X3_addBatch : GoodIn wsX6_batch wsX3_addBatch := goodIn_r _ [19, 20, 21, 22, 23, 24, 25, 26, 27, 18, 28, 29, 40, 41, 42, 43, 44, 45, 46, 47, 48] (by decide +kernel) (by decide +kernel)
set_option maxRecDepth 20000 in
theorem gX6_batch_X3_addBatch : GoodIn wsX6_batch (wsV RX6 173 RX3 yX3_addBatch wsX3_addBatch) := goodIn_app (goodIn_of _ (by decide +kernel)) ggX6_batch_X3_addBatch
set_option maxRecDepth 20000 in
theorem ggX6_batch_X6_answer : GoodIn wsX6_batch wsX6_answer := goodIn_r _ [33, 14, 34, 35, 36, 37, 38, 39] (by decide +kernel) (by decide +kernel)
set_option maxRecDepth 20000 in
theorem gX6_batch_X6_answer : GoodIn wsX6_batch (wsV RX6 104 RX6 yX6_answer wsX6_answer) := goodIn_app (goodIn_of _ (by decide +kernel)) ggX6_batch_X6_answer
theorem dX6_batch_0 : decode cX6_batch 0 = .ok (.iload_n 1, 1) := by decide +kernel
theorem dX6_batch_1 : decode cX6_batch 1 = .ok (.i2l, 1) := by decide +kernel
theorem dX6_batch_2 : decode cX6_batch 2 = .ok (.iconst 1, 1) := by decide +kernel
theorem dX6_batch_3 : decode cX6_batch 3 = .ok (.sipush 10000, 3) := by decide +kernel
theorem dX6_batch_6 : decode cX6_batch 6 = .ok (.invokestatic 52, 3) := by decide +kernel
theorem dX6_batch_9 : decode cX6_batch 9 = .ok (.ifCond .eq 36, 3) := by decide +kernel
theorem dX6_batch_12 : decode cX6_batch 12 = .ok (.iload_n 2, 1) := by decide +kernel
theorem dX6_batch_13 : decode cX6_batch 13 = .ok (.invokestatic 116, 3) := by decide +kernel
theorem dX6_batch_16 : decode cX6_batch 16 = .ok (.ifCond .eq 29, 3) := by decide +kernel
theorem dX6_batch_19 : decode cX6_batch 19 = .ok (.iload_n 3, 1) := by decide +kernel
theorem dX6_batch_20 : decode cX6_batch 20 = .ok (.i2l, 1) := by decide +kernel
theorem dX6_batch_21 : decode cX6_batch 21 = .ok (.iload_n 2, 1) := by decide +kernel
theorem dX6_batch_22 : decode cX6_batch 22 = .ok (.iconst 1, 1) := by decide +kernel
theorem dX6_batch_23 : decode cX6_batch 23 = .ok (.iadd, 1) := by decide +kernel
theorem dX6_batch_24 : decode cX6_batch 24 = .ok (.bipush 24, 2) := by decide +kernel
theorem dX6_batch_26 : decode cX6_batch 26 = .ok (.invokestatic 52, 3) := by decide +kernel
theorem dX6_batch_29 : decode cX6_batch 29 = .ok (.ifCond .eq 16, 3) := by decide +kernel
theorem dX6_batch_32 : decode cX6_batch 32 = .ok (.iload 4, 2) := by decide +kernel
theorem dX6_batch_34 : decode cX6_batch 34 = .ok (.i2l, 1) := by decide +kernel
theorem dX6_batch_35 : decode cX6_batch 35 = .ok (.iconst 1, 1) := by decide +kernel
theorem dX6_batch_36 : decode cX6_batch 36 = .ok (.sipush 1000, 3) := by decide +kernel
theorem dX6_batch_39 : decode cX6_batch 39 = .ok (.invokestatic 52, 3) := by decide +kernel
theorem dX6_batch_42 : decode cX6_batch 42 = .ok (.ifCond .ne 9, 3) := by decide +kernel
theorem dX6_batch_45 : decode cX6_batch 45 = .ok (.aload_n 0, 1) := by decide +kernel
theorem dX6_batch_46 : decode cX6_batch 46 = .ok (.iconst 1, 1) := by decide +kernel
theorem dX6_batch_47 : decode cX6_batch 47 = .ok (.invokevirtual 75, 3) := by decide +kernel
theorem dX6_batch_50 : decode cX6_batch 50 = .ok (.ireturn, 1) := by decide +kernel
theorem dX6_batch_51 : decode cX6_batch 51 = .ok (.aload_n 0, 1) := by decide +kernel
theorem dX6_batch_52 : decode cX6_batch 52 = .ok (.getfield 26, 3) := by decide +kernel
theorem dX6_batch_55 : decode cX6_batch 55 = .ok (.getfield 140, 3) := by decide +kernel
theorem dX6_batch_58 : decode cX6_batch 58 = .ok (.bipush 8, 2) := by decide +kernel
theorem dX6_batch_60 : decode cX6_batch 60 = .ok (.if_icmp .ne 9, 3) := by decide +kernel
theorem dX6_batch_63 : decode cX6_batch 63 = .ok (.aload_n 0, 1) := by decide +kernel
theorem dX6_batch_64 : decode cX6_batch 64 = .ok (.iconst 4, 1) := by decide +kernel
theorem dX6_batch_65 : decode cX6_batch 65 = .ok (.invokevirtual 75, 3) := by decide +kernel
theorem dX6_batch_68 : decode cX6_batch 68 = .ok (.ireturn, 1) := by decide +kernel
theorem dX6_batch_69 : decode cX6_batch 69 = .ok (.aload_n 0, 1) := by decide +kernel
theorem dX6_batch_70 : decode cX6_batch 70 = .ok (.aload_n 0, 1) := by decide +kernel
theorem dX6_batch_71 : decode cX6_batch 71 = .ok (.getfield 26, 3) := by decide +kernel
theorem dX6_batch_74 : decode cX6_batch 74 = .ok (.iload_n 1, 1) := by decide +kernel
theorem dX6_batch_75 : decode cX6_batch 75 = .ok (.iload_n 2, 1) := by decide +kernel
theorem dX6_batch_76 : decode cX6_batch 76 = .ok (.iload_n 3, 1) := by decide +kernel
theorem dX6_batch_77 : decode cX6_batch 77 = .ok (.iload 4, 2) := by decide +kernel
theorem dX6_batch_79 : decode cX6_batch 79 = .ok (.invokevirtual 173, 3) := by decide +kernel
theorem dX6_batch_82 : decode cX6_batch 82 = .ok (.invokevirtual 104, 3) := by decide +kernel
theorem dX6_batch_85 : decode cX6_batch 85 = .ok (.ireturn, 1) := by decide +kernel
set_option maxRecDepth 20000 in
theorem ggX6_rest_X1_isFall : GoodIn wsX6_rest wsX1_isFall := goodIn_r _ [7, 8, 9, 10] (by decide +kernel) (by decide +kernel)
set_option maxRecDepth 20000 in
theorem gX6_rest_X1_isFall : GoodIn wsX6_rest (va_wsS RX6 152 yX1_isFall wsX1_isFall) := goodIn_app (goodIn_of _ (by decide +kernel)) ggX6_rest_X1_isFall
set_option maxRecDepth 20000 in
theorem ggX6_rest_X6_deny : GoodIn wsX6_rest wsX6_deny := goodIn_r _ [14, 15, 120, 121, 122, 123, 124, 125] (by decide +kernel) (by decide +kernel)
set_option maxRecDepth 20000 in
theorem gX6_rest_X6_deny : GoodIn wsX6_rest (wsV RX6 75 RX6 yX6_deny wsX6_deny) := goodIn_app (goodIn_of _ (by decide +kernel)) ggX6_rest_X6_deny
set_option maxRecDepth 20000 in
theorem ggX6_rest_X1_standing : GoodIn wsX6_rest wsX1_standing := goodIn_r _ [19, 20, 21, 135, 136, 137, 138, 139, 140, 141, 142, 143, 144, 145, 146, 147] (by decide +kernel) (by decide +kernel)
set_option maxRecDepth 20000 in
theorem gX6_rest_X1_standing : GoodIn wsX6_rest (wsV RX6 146 RX1 yX1_standing wsX1_standing) := goodIn_app (goodIn_of _ (by decide +kernel)) ggX6_rest_X1_standing
set_option maxRecDepth 20000 in
theorem ggX6_rest_X3_lay : GoodIn wsX6_rest wsX3_lay := goodIn_r _ [26, 27, 28, 29, 30, 31, 32, 25, 33, 34, 35, 36, 37, 38, 39, 40, 41, 42, 43, 44, 45, 46, 47, 48, 49, 50, 51, 52, 53, 54, 55, 56, 6, 57, 58, 59, 60, 61, 62, 63, 64, 65, 66, 67, 68, 69, 70, 71, 72, 73, 74, 75, 76, 77, 78, 79, 80, 81, 82, 83, 84, 85, 86, 87, 88, 89, 90, 91, 92, 93, 94, 95, 96, 97, 98, 99, 100, 101, 102, 103, 104, 105, 106, 107, 108, 109, 110, 111, 112, 113, 114, 115, 126, 127, 128, 129, 130, 131, 132, 133, 134, 148, 149, 150, 151, 135, 136, 137, 138, 139, 140, 141, 142, 143, 144, 145, 146, 147] (by decide +kernel) (by decide +kernel)
set_option maxRecDepth 20000 in
theorem gX6_rest_X3_lay : GoodIn wsX6_rest (wsV RX6 177 RX3 yX3_lay wsX3_lay) := goodIn_app (goodIn_of _ (by decide +kernel)) ggX6_rest_X3_lay
set_option maxRecDepth 20000 in
theorem ggX6_rest_X6_answer : GoodIn wsX6_rest wsX6_answer := goodIn_r _ [119, 15, 120, 121, 122, 123, 124, 125] (by decide +kernel) (by decide +kernel)
set_option maxRecDepth 20000 in
theorem gX6_rest_X6_answer : GoodIn wsX6_rest (wsV RX6 104 RX6 yX6_answer wsX6_answer) := goodIn_app (goodIn_of _ (by decide +kernel)) ggX6_rest_X6_answer
theorem dX6_rest_0 : decode cX6_rest 0 = .ok (.iload_n 1, 1) := by decide +kernel
theorem dX6_rest_1 : decode cX6_rest 1 = .ok (.invokestatic 152, 3) := by decide +kernel
theorem dX6_rest_4 : decode cX6_rest 4 = .ok (.ifCond .ne 9, 3) := by decide +kernel
theorem dX6_rest_7 : decode cX6_rest 7 = .ok (.aload_n 0, 1) := by decide +kernel
theorem dX6_rest_8 : decode cX6_rest 8 = .ok (.iconst 1, 1) := by decide +kernel
theorem dX6_rest_9 : decode cX6_rest 9 = .ok (.invokevirtual 75, 3) := by decide +kernel
theorem dX6_rest_12 : decode cX6_rest 12 = .ok (.ireturn, 1) := by decide +kernel
theorem dX6_rest_13 : decode cX6_rest 13 = .ok (.aload_n 0, 1) := by decide +kernel
theorem dX6_rest_14 : decode cX6_rest 14 = .ok (.getfield 26, 3) := by decide +kernel
theorem dX6_rest_17 : decode cX6_rest 17 = .ok (.aload_n 0, 1) := by decide +kernel
theorem dX6_rest_18 : decode cX6_rest 18 = .ok (.getfield 19, 3) := by decide +kernel
theorem dX6_rest_21 : decode cX6_rest 21 = .ok (.aload_n 0, 1) := by decide +kernel
theorem dX6_rest_22 : decode cX6_rest 22 = .ok (.getfield 19, 3) := by decide +kernel
theorem dX6_rest_25 : decode cX6_rest 25 = .ok (.iload_n 1, 1) := by decide +kernel
theorem dX6_rest_26 : decode cX6_rest 26 = .ok (.invokevirtual 146, 3) := by decide +kernel
theorem dX6_rest_29 : decode cX6_rest 29 = .ok (.invokevirtual 177, 3) := by decide +kernel
theorem dX6_rest_32 : decode cX6_rest 32 = .ok (.aload_n 0, 1) := by decide +kernel
theorem dX6_rest_33 : decode cX6_rest 33 = .ok (.aload_n 0, 1) := by decide +kernel
theorem dX6_rest_34 : decode cX6_rest 34 = .ok (.getfield 26, 3) := by decide +kernel
theorem dX6_rest_37 : decode cX6_rest 37 = .ok (.getfield 181, 3) := by decide +kernel
theorem dX6_rest_40 : decode cX6_rest 40 = .ok (.invokevirtual 104, 3) := by decide +kernel
theorem dX6_rest_43 : decode cX6_rest 43 = .ok (.ireturn, 1) := by decide +kernel
set_option maxRecDepth 20000 in
theorem ggX6_part_X1_isFall : GoodIn wsX6_part wsX1_isFall := goodIn_r _ [8, 9, 10, 11] (by decide +kernel) (by decide +kernel)
set_option maxRecDepth 20000 in
theorem gX6_part_X1_isFall : GoodIn wsX6_part (va_wsS RX6 152 yX1_isFall wsX1_isFall) := goodIn_app (goodIn_of _ (by decide +kernel)) ggX6_part_X1_isFall
set_option maxRecDepth 20000 in
theorem ggX6_part_X3_hasBatch : GoodIn wsX6_part wsX3_hasBatch := goodIn_r _ [16, 17, 9, 10, 11, 135, 136, 137, 138, 139, 140, 141, 142, 143] (by decide +kernel) (by decide +kernel)
set_option maxRecDepth 20000 in
theorem gX6_part_X3_hasBatch : GoodIn wsX6_part (wsV RX6 184 RX3 yX3_hasBatch wsX3_hasBatch) := goodIn_app (goodIn_of _ (by decide +kernel)) ggX6_part_X3_hasBatch
set_option maxRecDepth 20000 in
theorem ggX6_part_X6_isHour : GoodIn wsX6_part wsX6_isHour := goodIn_r _ [20, 21, 9, 10, 11] (by decide +kernel) (by decide +kernel)
set_option maxRecDepth 20000 in
theorem gX6_part_X6_isHour : GoodIn wsX6_part (va_wsS RX6 116 yX6_isHour wsX6_isHour) := goodIn_app (goodIn_of _ (by decide +kernel)) ggX6_part_X6_isHour
set_option maxRecDepth 20000 in
theorem ggX6_part_X6_deny : GoodIn wsX6_part wsX6_deny := goodIn_r _ [25, 26, 129, 130, 131, 132, 133, 134] (by decide +kernel) (by decide +kernel)
set_option maxRecDepth 20000 in
theorem gX6_part_X6_deny : GoodIn wsX6_part (wsV RX6 75 RX6 yX6_deny wsX6_deny) := goodIn_app (goodIn_of _ (by decide +kernel)) ggX6_part_X6_deny
set_option maxRecDepth 20000 in
theorem ggX6_part_X1_standing : GoodIn wsX6_part wsX1_standing := goodIn_r _ [30, 31, 32, 144, 145, 146, 147, 148, 149, 150, 151, 152, 153, 154, 155, 156] (by decide +kernel) (by decide +kernel)
set_option maxRecDepth 20000 in
theorem gX6_part_X1_standing : GoodIn wsX6_part (wsV RX6 146 RX1 yX1_standing wsX1_standing) := goodIn_app (goodIn_of _ (by decide +kernel)) ggX6_part_X1_standing
set_option maxRecDepth 20000 in
theorem ggX6_part_X3_lay : GoodIn wsX6_part wsX3_lay := goodIn_r _ [36, 37, 38, 39, 40, 41, 42, 15, 43, 17, 44, 45, 46, 47, 48, 49, 50, 51, 52, 53, 54, 55, 56, 57, 58, 59, 60, 61, 62, 63, 64, 65, 7, 66, 67, 68, 69, 70, 71, 72, 73, 74, 75, 76, 77, 78, 79, 80, 81, 82, 83, 84, 85, 86, 87, 88, 89, 90, 91, 92, 93, 94, 95, 96, 97, 98, 99, 100, 101, 102, 103, 104, 105, 106, 107, 108, 109, 110, 111, 112, 113, 114, 115, 116, 117, 118, 119, 120, 121, 122, 123, 124, 135, 136, 137, 138, 139, 140, 141, 142, 143, 157, 158, 159, 160, 144, 145, 146, 147, 148, 149, 150, 151, 152, 153, 154, 155, 156] (by decide +kernel) (by decide +kernel)
set_option maxRecDepth 20000 in
theorem gX6_part_X3_lay : GoodIn wsX6_part (wsV RX6 177 RX3 yX3_lay wsX3_lay) := goodIn_app (goodIn_of _ (by decide +kernel)) ggX6_part_X3_lay
set_option maxRecDepth 20000 in
theorem ggX6_part_X6_answer : GoodIn wsX6_part wsX6_answer := goodIn_r _ [128, 26, 129, 130, 131, 132, 133, 134] (by decide +kernel) (by decide +kernel)
set_option maxRecDepth 20000 in
theorem gX6_part_X6_answer : GoodIn wsX6_part (wsV RX6 104 RX6 yX6_answer wsX6_answer) := goodIn_app (goodIn_of _ (by decide +kernel)) ggX6_part_X6_answer
theorem dX6_part_0 : decode cX6_part 0 = .ok (.iload_n 1, 1) := by decide +kernel
theorem dX6_part_1 : decode cX6_part 1 = .ok (.invokestatic 152, 3) := by decide +kernel
theorem dX6_part_4 : decode cX6_part 4 = .ok (.ifCond .eq 21, 3) := by decide +kernel
theorem dX6_part_7 : decode cX6_part 7 = .ok (.aload_n 0, 1) := by decide +kernel
theorem dX6_part_8 : decode cX6_part 8 = .ok (.getfield 26, 3) := by decide +kernel
theorem dX6_part_11 : decode cX6_part 11 = .ok (.iload_n 2, 1) := by decide +kernel
theorem dX6_part_12 : decode cX6_part 12 = .ok (.invokevirtual 184, 3) := by decide +kernel
theorem dX6_part_15 : decode cX6_part 15 = .ok (.ifCond .eq 10, 3) := by decide +kernel
theorem dX6_part_18 : decode cX6_part 18 = .ok (.iload_n 3, 1) := by decide +kernel
theorem dX6_part_19 : decode cX6_part 19 = .ok (.invokestatic 116, 3) := by decide +kernel
theorem dX6_part_22 : decode cX6_part 22 = .ok (.ifCond .ne 9, 3) := by decide +kernel
theorem dX6_part_25 : decode cX6_part 25 = .ok (.aload_n 0, 1) := by decide +kernel
theorem dX6_part_26 : decode cX6_part 26 = .ok (.iconst 1, 1) := by decide +kernel
theorem dX6_part_27 : decode cX6_part 27 = .ok (.invokevirtual 75, 3) := by decide +kernel
theorem dX6_part_30 : decode cX6_part 30 = .ok (.ireturn, 1) := by decide +kernel
theorem dX6_part_31 : decode cX6_part 31 = .ok (.aload_n 0, 1) := by decide +kernel
theorem dX6_part_32 : decode cX6_part 32 = .ok (.getfield 26, 3) := by decide +kernel
theorem dX6_part_35 : decode cX6_part 35 = .ok (.aload_n 0, 1) := by decide +kernel
theorem dX6_part_36 : decode cX6_part 36 = .ok (.getfield 19, 3) := by decide +kernel
theorem dX6_part_39 : decode cX6_part 39 = .ok (.aload_n 0, 1) := by decide +kernel
theorem dX6_part_40 : decode cX6_part 40 = .ok (.getfield 19, 3) := by decide +kernel
theorem dX6_part_43 : decode cX6_part 43 = .ok (.iload_n 1, 1) := by decide +kernel
theorem dX6_part_44 : decode cX6_part 44 = .ok (.invokevirtual 146, 3) := by decide +kernel
theorem dX6_part_47 : decode cX6_part 47 = .ok (.invokevirtual 177, 3) := by decide +kernel
theorem dX6_part_50 : decode cX6_part 50 = .ok (.aload_n 0, 1) := by decide +kernel
theorem dX6_part_51 : decode cX6_part 51 = .ok (.getfield 26, 3) := by decide +kernel
theorem dX6_part_54 : decode cX6_part 54 = .ok (.getfield 181, 3) := by decide +kernel
theorem dX6_part_57 : decode cX6_part 57 = .ok (.ifCond .le 10, 3) := by decide +kernel
theorem dX6_part_60 : decode cX6_part 60 = .ok (.aload_n 0, 1) := by decide +kernel
theorem dX6_part_61 : decode cX6_part 61 = .ok (.bipush 7, 2) := by decide +kernel
theorem dX6_part_63 : decode cX6_part 63 = .ok (.invokevirtual 75, 3) := by decide +kernel
theorem dX6_part_66 : decode cX6_part 66 = .ok (.ireturn, 1) := by decide +kernel
theorem dX6_part_67 : decode cX6_part 67 = .ok (.aload_n 0, 1) := by decide +kernel
theorem dX6_part_68 : decode cX6_part 68 = .ok (.aload_n 0, 1) := by decide +kernel
theorem dX6_part_69 : decode cX6_part 69 = .ok (.getfield 26, 3) := by decide +kernel
theorem dX6_part_72 : decode cX6_part 72 = .ok (.getfield 187, 3) := by decide +kernel
theorem dX6_part_75 : decode cX6_part 75 = .ok (.iload_n 2, 1) := by decide +kernel
theorem dX6_part_76 : decode cX6_part 76 = .ok (.aaload, 1) := by decide +kernel
theorem dX6_part_77 : decode cX6_part 77 = .ok (.iload_n 3, 1) := by decide +kernel
theorem dX6_part_78 : decode cX6_part 78 = .ok (.iaload, 1) := by decide +kernel
theorem dX6_part_79 : decode cX6_part 79 = .ok (.invokevirtual 104, 3) := by decide +kernel
theorem dX6_part_82 : decode cX6_part 82 = .ok (.ireturn, 1) := by decide +kernel
set_option maxRecDepth 20000 in
theorem ggX6_line_X6_isLine : GoodIn wsX6_line wsX6_isLine := goodIn_r _ [6, 7, 8, 9, 10, 11, 5, 12, 13] (by decide +kernel) (by decide +kernel)
set_option maxRecDepth 20000 in
theorem gX6_line_X6_isLine : GoodIn wsX6_line (va_wsS RX6 191 yX6_isLine wsX6_isLine) := goodIn_app (goodIn_of _ (by decide +kernel)) ggX6_line_X6_isLine
set_option maxRecDepth 20000 in
theorem ggX6_line_X6_within : GoodIn wsX6_line wsX6_within := goodIn_r _ [12] (by decide +kernel) (by decide +kernel)
set_option maxRecDepth 20000 in
theorem gX6_line_X6_within : GoodIn wsX6_line (va_wsS RX6 52 yX6_within wsX6_within) := goodIn_app (goodIn_of _ (by decide +kernel)) ggX6_line_X6_within
set_option maxRecDepth 20000 in
theorem ggX6_line_X6_deny : GoodIn wsX6_line wsX6_deny := goodIn_r _ [17, 18, 64, 65, 66, 67, 68, 69] (by decide +kernel) (by decide +kernel)
set_option maxRecDepth 20000 in
theorem gX6_line_X6_deny : GoodIn wsX6_line (wsV RX6 75 RX6 yX6_deny wsX6_deny) := goodIn_app (goodIn_of _ (by decide +kernel)) ggX6_line_X6_deny
set_option maxRecDepth 20000 in
theorem ggX6_line_X4_whyNotFirst : GoodIn wsX6_line wsX4_whyNotFirst := goodIn_r _ [22, 23, 24, 25, 26, 27, 9, 28, 11, 5, 12, 70, 71, 72] (by decide +kernel) (by decide +kernel)
set_option maxRecDepth 20000 in
theorem gX6_line_X4_whyNotFirst : GoodIn wsX6_line (wsV RX6 194 RX4 yX4_whyNotFirst wsX4_whyNotFirst) := goodIn_app (goodIn_of _ (by decide +kernel)) ggX6_line_X4_whyNotFirst
set_option maxRecDepth 20000 in
theorem ggX6_line_X5_serve : GoodIn wsX6_line wsX5_serve := goodIn_r _ [33, 34, 35, 36, 37, 38, 39, 40, 41, 42, 43, 44, 45, 46, 47, 48, 49, 50, 9, 51, 24, 52, 53, 54, 32, 55, 73, 74, 75, 76, 77, 78, 70, 71, 72] (by decide +kernel) (by decide +kernel)
set_option maxRecDepth 20000 in
theorem gX6_line_X5_serve : GoodIn wsX6_line (wsV RX6 197 RX5 yX5_serve wsX5_serve) := goodIn_app (goodIn_of _ (by decide +kernel)) ggX6_line_X5_serve
set_option maxRecDepth 20000 in
theorem ggX6_line_X5_told : GoodIn wsX6_line wsX5_told := goodIn_r _ [59, 34, 35, 36, 37, 38, 73, 74, 75, 76, 77, 78] (by decide +kernel) (by decide +kernel)
set_option maxRecDepth 20000 in
theorem gX6_line_X5_told : GoodIn wsX6_line (wsV RX6 201 RX5 yX5_told wsX5_told) := goodIn_app (goodIn_of _ (by decide +kernel)) ggX6_line_X5_told
set_option maxRecDepth 20000 in
theorem ggX6_line_X6_answer : GoodIn wsX6_line wsX6_answer := goodIn_r _ [63, 18, 64, 65, 66, 67, 68, 69] (by decide +kernel) (by decide +kernel)
set_option maxRecDepth 20000 in
theorem gX6_line_X6_answer : GoodIn wsX6_line (wsV RX6 104 RX6 yX6_answer wsX6_answer) := goodIn_app (goodIn_of _ (by decide +kernel)) ggX6_line_X6_answer
theorem dX6_line_0 : decode cX6_line 0 = .ok (.iload_n 1, 1) := by decide +kernel
theorem dX6_line_1 : decode cX6_line 1 = .ok (.iload_n 2, 1) := by decide +kernel
theorem dX6_line_2 : decode cX6_line 2 = .ok (.iload 4, 2) := by decide +kernel
theorem dX6_line_4 : decode cX6_line 4 = .ok (.invokestatic 191, 3) := by decide +kernel
theorem dX6_line_7 : decode cX6_line 7 = .ok (.ifCond .eq 25, 3) := by decide +kernel
theorem dX6_line_10 : decode cX6_line 10 = .ok (.iload_n 3, 1) := by decide +kernel
theorem dX6_line_11 : decode cX6_line 11 = .ok (.i2l, 1) := by decide +kernel
theorem dX6_line_12 : decode cX6_line 12 = .ok (.iconst 1, 1) := by decide +kernel
theorem dX6_line_13 : decode cX6_line 13 = .ok (.bipush 20, 2) := by decide +kernel
theorem dX6_line_15 : decode cX6_line 15 = .ok (.invokestatic 52, 3) := by decide +kernel
theorem dX6_line_18 : decode cX6_line 18 = .ok (.ifCond .eq 14, 3) := by decide +kernel
theorem dX6_line_21 : decode cX6_line 21 = .ok (.iload 5, 2) := by decide +kernel
theorem dX6_line_23 : decode cX6_line 23 = .ok (.i2l, 1) := by decide +kernel
theorem dX6_line_24 : decode cX6_line 24 = .ok (.iconst 0, 1) := by decide +kernel
theorem dX6_line_25 : decode cX6_line 25 = .ok (.iconst 4, 1) := by decide +kernel
theorem dX6_line_26 : decode cX6_line 26 = .ok (.invokestatic 52, 3) := by decide +kernel
theorem dX6_line_29 : decode cX6_line 29 = .ok (.ifCond .ne 9, 3) := by decide +kernel
theorem dX6_line_32 : decode cX6_line 32 = .ok (.aload_n 0, 1) := by decide +kernel
theorem dX6_line_33 : decode cX6_line 33 = .ok (.iconst 1, 1) := by decide +kernel
theorem dX6_line_34 : decode cX6_line 34 = .ok (.invokevirtual 75, 3) := by decide +kernel
theorem dX6_line_37 : decode cX6_line 37 = .ok (.ireturn, 1) := by decide +kernel
theorem dX6_line_38 : decode cX6_line 38 = .ok (.aload_n 0, 1) := by decide +kernel
theorem dX6_line_39 : decode cX6_line 39 = .ok (.getfield 10, 3) := by decide +kernel
theorem dX6_line_42 : decode cX6_line 42 = .ok (.iload_n 1, 1) := by decide +kernel
theorem dX6_line_43 : decode cX6_line 43 = .ok (.iload_n 2, 1) := by decide +kernel
theorem dX6_line_44 : decode cX6_line 44 = .ok (.bipush 100, 2) := by decide +kernel
theorem dX6_line_46 : decode cX6_line 46 = .ok (.invokevirtual 194, 3) := by decide +kernel
theorem dX6_line_49 : decode cX6_line 49 = .ok (.istore 6, 2) := by decide +kernel
theorem dX6_line_51 : decode cX6_line 51 = .ok (.iload 6, 2) := by decide +kernel
theorem dX6_line_53 : decode cX6_line 53 = .ok (.ifCond .eq 10, 3) := by decide +kernel
theorem dX6_line_56 : decode cX6_line 56 = .ok (.aload_n 0, 1) := by decide +kernel
theorem dX6_line_57 : decode cX6_line 57 = .ok (.iload 6, 2) := by decide +kernel
theorem dX6_line_59 : decode cX6_line 59 = .ok (.invokevirtual 75, 3) := by decide +kernel
theorem dX6_line_62 : decode cX6_line 62 = .ok (.ireturn, 1) := by decide +kernel
theorem dX6_line_63 : decode cX6_line 63 = .ok (.aload_n 0, 1) := by decide +kernel
theorem dX6_line_64 : decode cX6_line 64 = .ok (.getfield 33, 3) := by decide +kernel
theorem dX6_line_67 : decode cX6_line 67 = .ok (.aload_n 0, 1) := by decide +kernel
theorem dX6_line_68 : decode cX6_line 68 = .ok (.getfield 10, 3) := by decide +kernel
theorem dX6_line_71 : decode cX6_line 71 = .ok (.iload_n 1, 1) := by decide +kernel
theorem dX6_line_72 : decode cX6_line 72 = .ok (.iload_n 2, 1) := by decide +kernel
theorem dX6_line_73 : decode cX6_line 73 = .ok (.iload_n 3, 1) := by decide +kernel
theorem dX6_line_74 : decode cX6_line 74 = .ok (.iload 4, 2) := by decide +kernel
theorem dX6_line_76 : decode cX6_line 76 = .ok (.invokevirtual 197, 3) := by decide +kernel
theorem dX6_line_79 : decode cX6_line 79 = .ok (.aload_n 0, 1) := by decide +kernel
theorem dX6_line_80 : decode cX6_line 80 = .ok (.aload_n 0, 1) := by decide +kernel
theorem dX6_line_81 : decode cX6_line 81 = .ok (.getfield 33, 3) := by decide +kernel
theorem dX6_line_84 : decode cX6_line 84 = .ok (.iload 5, 2) := by decide +kernel
theorem dX6_line_86 : decode cX6_line 86 = .ok (.invokevirtual 201, 3) := by decide +kernel
theorem dX6_line_89 : decode cX6_line 89 = .ok (.invokevirtual 104, 3) := by decide +kernel
theorem dX6_line_92 : decode cX6_line 92 = .ok (.ireturn, 1) := by decide +kernel
set_option maxRecDepth 20000 in
theorem ggX6_hands_X6_isLine : GoodIn wsX6_hands wsX6_isLine := goodIn_r _ [7, 8, 9, 10, 11, 12, 6, 13, 14] (by decide +kernel) (by decide +kernel)
set_option maxRecDepth 20000 in
theorem gX6_hands_X6_isLine : GoodIn wsX6_hands (va_wsS RX6 191 yX6_isLine wsX6_isLine) := goodIn_app (goodIn_of _ (by decide +kernel)) ggX6_hands_X6_isLine
set_option maxRecDepth 20000 in
theorem ggX6_hands_X6_within : GoodIn wsX6_hands wsX6_within := goodIn_r _ [13] (by decide +kernel) (by decide +kernel)
set_option maxRecDepth 20000 in
theorem gX6_hands_X6_within : GoodIn wsX6_hands (va_wsS RX6 52 yX6_within wsX6_within) := goodIn_app (goodIn_of _ (by decide +kernel)) ggX6_hands_X6_within
set_option maxRecDepth 20000 in
theorem ggX6_hands_X6_deny : GoodIn wsX6_hands wsX6_deny := goodIn_r _ [18, 19, 61, 62, 63, 64, 65, 66] (by decide +kernel) (by decide +kernel)
set_option maxRecDepth 20000 in
theorem gX6_hands_X6_deny : GoodIn wsX6_hands (wsV RX6 75 RX6 yX6_deny wsX6_deny) := goodIn_app (goodIn_of _ (by decide +kernel)) ggX6_hands_X6_deny
set_option maxRecDepth 20000 in
theorem ggX6_hands_X4_whyNotFirst : GoodIn wsX6_hands wsX4_whyNotFirst := goodIn_r _ [23, 24, 25, 26, 27, 28, 10, 29, 12, 6, 13, 73, 74, 75] (by decide +kernel) (by decide +kernel)
set_option maxRecDepth 20000 in
theorem gX6_hands_X4_whyNotFirst : GoodIn wsX6_hands (wsV RX6 194 RX4 yX4_whyNotFirst wsX4_whyNotFirst) := goodIn_app (goodIn_of _ (by decide +kernel)) ggX6_hands_X4_whyNotFirst
set_option maxRecDepth 20000 in
theorem ggX6_hands_X5_serve : GoodIn wsX6_hands wsX5_serve := goodIn_r _ [34, 35, 36, 37, 38, 39, 40, 41, 42, 43, 44, 45, 46, 47, 48, 49, 50, 51, 10, 52, 25, 53, 54, 55, 33, 56, 67, 68, 69, 70, 71, 72, 73, 74, 75] (by decide +kernel) (by decide +kernel)
set_option maxRecDepth 20000 in
theorem gX6_hands_X5_serve : GoodIn wsX6_hands (wsV RX6 197 RX5 yX5_serve wsX5_serve) := goodIn_app (goodIn_of _ (by decide +kernel)) ggX6_hands_X5_serve
set_option maxRecDepth 20000 in
theorem ggX6_hands_X6_answer : GoodIn wsX6_hands wsX6_answer := goodIn_r _ [60, 19, 61, 62, 63, 64, 65, 66] (by decide +kernel) (by decide +kernel)
set_option maxRecDepth 20000 in
theorem gX6_hands_X6_answer : GoodIn wsX6_hands (wsV RX6 104 RX6 yX6_answer wsX6_answer) := goodIn_app (goodIn_of _ (by decide +kernel)) ggX6_hands_X6_answer
theorem dX6_hands_0 : decode cX6_hands 0 = .ok (.iload_n 1, 1) := by decide +kernel
theorem dX6_hands_1 : decode cX6_hands 1 = .ok (.iload_n 2, 1) := by decide +kernel
theorem dX6_hands_2 : decode cX6_hands 2 = .ok (.iload_n 3, 1) := by decide +kernel
theorem dX6_hands_3 : decode cX6_hands 3 = .ok (.invokestatic 191, 3) := by decide +kernel
theorem dX6_hands_6 : decode cX6_hands 6 = .ok (.ifCond .eq 16, 3) := by decide +kernel
theorem dX6_hands_9 : decode cX6_hands 9 = .ok (.iload 4, 2) := by decide +kernel
theorem dX6_hands_11 : decode cX6_hands 11 = .ok (.i2l, 1) := by decide +kernel
theorem dX6_hands_12 : decode cX6_hands 12 = .ok (.iconst 0, 1) := by decide +kernel
theorem dX6_hands_13 : decode cX6_hands 13 = .ok (.sipush 10000, 3) := by decide +kernel
theorem dX6_hands_16 : decode cX6_hands 16 = .ok (.invokestatic 52, 3) := by decide +kernel
theorem dX6_hands_19 : decode cX6_hands 19 = .ok (.ifCond .ne 9, 3) := by decide +kernel
theorem dX6_hands_22 : decode cX6_hands 22 = .ok (.aload_n 0, 1) := by decide +kernel
theorem dX6_hands_23 : decode cX6_hands 23 = .ok (.iconst 1, 1) := by decide +kernel
theorem dX6_hands_24 : decode cX6_hands 24 = .ok (.invokevirtual 75, 3) := by decide +kernel
theorem dX6_hands_27 : decode cX6_hands 27 = .ok (.ireturn, 1) := by decide +kernel
theorem dX6_hands_28 : decode cX6_hands 28 = .ok (.aload_n 0, 1) := by decide +kernel
theorem dX6_hands_29 : decode cX6_hands 29 = .ok (.getfield 10, 3) := by decide +kernel
theorem dX6_hands_32 : decode cX6_hands 32 = .ok (.iload_n 1, 1) := by decide +kernel
theorem dX6_hands_33 : decode cX6_hands 33 = .ok (.iload_n 2, 1) := by decide +kernel
theorem dX6_hands_34 : decode cX6_hands 34 = .ok (.bipush 100, 2) := by decide +kernel
theorem dX6_hands_36 : decode cX6_hands 36 = .ok (.invokevirtual 194, 3) := by decide +kernel
theorem dX6_hands_39 : decode cX6_hands 39 = .ok (.istore 5, 2) := by decide +kernel
theorem dX6_hands_41 : decode cX6_hands 41 = .ok (.iload 5, 2) := by decide +kernel
theorem dX6_hands_43 : decode cX6_hands 43 = .ok (.ifCond .eq 10, 3) := by decide +kernel
theorem dX6_hands_46 : decode cX6_hands 46 = .ok (.aload_n 0, 1) := by decide +kernel
theorem dX6_hands_47 : decode cX6_hands 47 = .ok (.iload 5, 2) := by decide +kernel
theorem dX6_hands_49 : decode cX6_hands 49 = .ok (.invokevirtual 75, 3) := by decide +kernel
theorem dX6_hands_52 : decode cX6_hands 52 = .ok (.ireturn, 1) := by decide +kernel
theorem dX6_hands_53 : decode cX6_hands 53 = .ok (.iconst 1, 1) := by decide +kernel
theorem dX6_hands_54 : decode cX6_hands 54 = .ok (.istore 6, 2) := by decide +kernel
theorem dX6_hands_56 : decode cX6_hands 56 = .ok (.iload 6, 2) := by decide +kernel
theorem dX6_hands_58 : decode cX6_hands 58 = .ok (.bipush 20, 2) := by decide +kernel
theorem dX6_hands_60 : decode cX6_hands 60 = .ok (.if_icmp .gt 44, 3) := by decide +kernel
theorem dX6_hands_63 : decode cX6_hands 63 = .ok (.aload_n 0, 1) := by decide +kernel
theorem dX6_hands_64 : decode cX6_hands 64 = .ok (.getfield 33, 3) := by decide +kernel
theorem dX6_hands_67 : decode cX6_hands 67 = .ok (.aload_n 0, 1) := by decide +kernel
theorem dX6_hands_68 : decode cX6_hands 68 = .ok (.getfield 10, 3) := by decide +kernel
theorem dX6_hands_71 : decode cX6_hands 71 = .ok (.iload_n 1, 1) := by decide +kernel
theorem dX6_hands_72 : decode cX6_hands 72 = .ok (.iload_n 2, 1) := by decide +kernel
theorem dX6_hands_73 : decode cX6_hands 73 = .ok (.iload 6, 2) := by decide +kernel
theorem dX6_hands_75 : decode cX6_hands 75 = .ok (.iload_n 3, 1) := by decide +kernel
theorem dX6_hands_76 : decode cX6_hands 76 = .ok (.invokevirtual 197, 3) := by decide +kernel
theorem dX6_hands_79 : decode cX6_hands 79 = .ok (.aload_n 0, 1) := by decide +kernel
theorem dX6_hands_80 : decode cX6_hands 80 = .ok (.getfield 33, 3) := by decide +kernel
theorem dX6_hands_83 : decode cX6_hands 83 = .ok (.getfield 204, 3) := by decide +kernel
theorem dX6_hands_86 : decode cX6_hands 86 = .ok (.iload 4, 2) := by decide +kernel
theorem dX6_hands_88 : decode cX6_hands 88 = .ok (.if_icmp .gt 10, 3) := by decide +kernel
theorem dX6_hands_91 : decode cX6_hands 91 = .ok (.aload_n 0, 1) := by decide +kernel
theorem dX6_hands_92 : decode cX6_hands 92 = .ok (.iload 6, 2) := by decide +kernel
theorem dX6_hands_94 : decode cX6_hands 94 = .ok (.invokevirtual 104, 3) := by decide +kernel
theorem dX6_hands_97 : decode cX6_hands 97 = .ok (.ireturn, 1) := by decide +kernel
theorem dX6_hands_98 : decode cX6_hands 98 = .ok (.iinc 6 1, 3) := by decide +kernel
theorem dX6_hands_101 : decode cX6_hands 101 = .ok (.goto (-45), 3) := by decide +kernel
theorem dX6_hands_104 : decode cX6_hands 104 = .ok (.aload_n 0, 1) := by decide +kernel
theorem dX6_hands_105 : decode cX6_hands 105 = .ok (.bipush 7, 2) := by decide +kernel
theorem dX6_hands_107 : decode cX6_hands 107 = .ok (.invokevirtual 75, 3) := by decide +kernel
theorem dX6_hands_110 : decode cX6_hands 110 = .ok (.ireturn, 1) := by decide +kernel
set_option maxRecDepth 20000 in
theorem ggX6_wanted_X4_isNumber : GoodIn wsX6_wanted wsX4_isNumber := goodIn_r _ [6, 7, 8, 9] (by decide +kernel) (by decide +kernel)
set_option maxRecDepth 20000 in
theorem gX6_wanted_X4_isNumber : GoodIn wsX6_wanted (va_wsS RX6 48 yX4_isNumber wsX4_isNumber) := goodIn_app (goodIn_of _ (by decide +kernel)) ggX6_wanted_X4_isNumber
set_option maxRecDepth 20000 in
theorem ggX6_wanted_X6_refuse : GoodIn wsX6_wanted wsX6_refuse := goodIn_r _ [13, 14, 40, 41, 42, 43, 44, 45] (by decide +kernel) (by decide +kernel)
set_option maxRecDepth 20000 in
theorem gX6_wanted_X6_refuse : GoodIn wsX6_wanted (wsV RX6 56 RX6 yX6_refuse wsX6_refuse) := goodIn_app (goodIn_of _ (by decide +kernel)) ggX6_wanted_X6_refuse
set_option maxRecDepth 20000 in
theorem ggX6_wanted_X4_whyNotFirst : GoodIn wsX6_wanted wsX4_whyNotFirst := goodIn_r _ [18, 19, 20, 21, 22, 23, 5, 24, 7, 8, 9, 46, 47, 48] (by decide +kernel) (by decide +kernel)
set_option maxRecDepth 20000 in
theorem gX6_wanted_X4_whyNotFirst : GoodIn wsX6_wanted (wsV RX6 194 RX4 yX4_whyNotFirst wsX4_whyNotFirst) := goodIn_app (goodIn_of _ (by decide +kernel)) ggX6_wanted_X4_whyNotFirst
set_option maxRecDepth 20000 in
theorem ggX6_wanted_X2_want : GoodIn wsX6_wanted wsX2_want := goodIn_r _ [29, 30, 31, 32, 33, 34, 5, 35, 20, 49, 50, 51, 52, 53, 54, 55, 56, 57, 58, 59, 60, 46, 47, 48] (by decide +kernel) (by decide +kernel)
set_option maxRecDepth 20000 in
theorem gX6_wanted_X2_want : GoodIn wsX6_wanted (wsV RX6 207 RX2 yX2_want wsX2_want) := goodIn_app (goodIn_of _ (by decide +kernel)) ggX6_wanted_X2_want
set_option maxRecDepth 20000 in
theorem ggX6_wanted_X6_agree : GoodIn wsX6_wanted wsX6_agree := goodIn_r _ [39, 14, 40, 41, 42, 43, 44, 45] (by decide +kernel) (by decide +kernel)
set_option maxRecDepth 20000 in
theorem gX6_wanted_X6_agree : GoodIn wsX6_wanted (wsV RX6 63 RX6 yX6_agree wsX6_agree) := goodIn_app (goodIn_of _ (by decide +kernel)) ggX6_wanted_X6_agree
theorem dX6_wanted_0 : decode cX6_wanted 0 = .ok (.iload_n 1, 1) := by decide +kernel
theorem dX6_wanted_1 : decode cX6_wanted 1 = .ok (.invokestatic 48, 3) := by decide +kernel
theorem dX6_wanted_4 : decode cX6_wanted 4 = .ok (.ifCond .ne 9, 3) := by decide +kernel
theorem dX6_wanted_7 : decode cX6_wanted 7 = .ok (.aload_n 0, 1) := by decide +kernel
theorem dX6_wanted_8 : decode cX6_wanted 8 = .ok (.iconst 1, 1) := by decide +kernel
theorem dX6_wanted_9 : decode cX6_wanted 9 = .ok (.invokevirtual 56, 3) := by decide +kernel
theorem dX6_wanted_12 : decode cX6_wanted 12 = .ok (.ireturn, 1) := by decide +kernel
theorem dX6_wanted_13 : decode cX6_wanted 13 = .ok (.aload_n 0, 1) := by decide +kernel
theorem dX6_wanted_14 : decode cX6_wanted 14 = .ok (.getfield 10, 3) := by decide +kernel
theorem dX6_wanted_17 : decode cX6_wanted 17 = .ok (.iload_n 1, 1) := by decide +kernel
theorem dX6_wanted_18 : decode cX6_wanted 18 = .ok (.bipush 12, 2) := by decide +kernel
theorem dX6_wanted_20 : decode cX6_wanted 20 = .ok (.sipush 500, 3) := by decide +kernel
theorem dX6_wanted_23 : decode cX6_wanted 23 = .ok (.invokevirtual 194, 3) := by decide +kernel
theorem dX6_wanted_26 : decode cX6_wanted 26 = .ok (.istore_n 2, 1) := by decide +kernel
theorem dX6_wanted_27 : decode cX6_wanted 27 = .ok (.iload_n 2, 1) := by decide +kernel
theorem dX6_wanted_28 : decode cX6_wanted 28 = .ok (.ifCond .eq 9, 3) := by decide +kernel
theorem dX6_wanted_31 : decode cX6_wanted 31 = .ok (.aload_n 0, 1) := by decide +kernel
theorem dX6_wanted_32 : decode cX6_wanted 32 = .ok (.iload_n 2, 1) := by decide +kernel
theorem dX6_wanted_33 : decode cX6_wanted 33 = .ok (.invokevirtual 56, 3) := by decide +kernel
theorem dX6_wanted_36 : decode cX6_wanted 36 = .ok (.ireturn, 1) := by decide +kernel
theorem dX6_wanted_37 : decode cX6_wanted 37 = .ok (.aload_n 0, 1) := by decide +kernel
theorem dX6_wanted_38 : decode cX6_wanted 38 = .ok (.getfield 40, 3) := by decide +kernel
theorem dX6_wanted_41 : decode cX6_wanted 41 = .ok (.aload_n 0, 1) := by decide +kernel
theorem dX6_wanted_42 : decode cX6_wanted 42 = .ok (.getfield 10, 3) := by decide +kernel
theorem dX6_wanted_45 : decode cX6_wanted 45 = .ok (.iload_n 1, 1) := by decide +kernel
theorem dX6_wanted_46 : decode cX6_wanted 46 = .ok (.invokevirtual 207, 3) := by decide +kernel
theorem dX6_wanted_49 : decode cX6_wanted 49 = .ok (.aload_n 0, 1) := by decide +kernel
theorem dX6_wanted_50 : decode cX6_wanted 50 = .ok (.invokevirtual 63, 3) := by decide +kernel
theorem dX6_wanted_53 : decode cX6_wanted 53 = .ok (.ireturn, 1) := by decide +kernel
set_option maxRecDepth 20000 in
theorem ggX6_have_X6_within : GoodIn wsX6_have wsX6_within := goodIn_r _ [5] (by decide +kernel) (by decide +kernel)
set_option maxRecDepth 20000 in
theorem gX6_have_X6_within : GoodIn wsX6_have (va_wsS RX6 52 yX6_within wsX6_within) := goodIn_app (goodIn_of _ (by decide +kernel)) ggX6_have_X6_within
set_option maxRecDepth 20000 in
theorem ggX6_have_X6_refuse : GoodIn wsX6_have wsX6_refuse := goodIn_r _ [9, 10, 22, 23, 24, 25, 26, 27] (by decide +kernel) (by decide +kernel)
set_option maxRecDepth 20000 in
theorem gX6_have_X6_refuse : GoodIn wsX6_have (wsV RX6 56 RX6 yX6_refuse wsX6_refuse) := goodIn_app (goodIn_of _ (by decide +kernel)) ggX6_have_X6_refuse
set_option maxRecDepth 20000 in
theorem ggX6_have_X2_own : GoodIn wsX6_have wsX2_own := goodIn_r _ [15, 16, 17, 28, 29, 30, 31, 32, 33, 34, 35, 36, 37, 38, 39] (by decide +kernel) (by decide +kernel)
set_option maxRecDepth 20000 in
theorem gX6_have_X2_own : GoodIn wsX6_have (wsV RX6 211 RX2 yX2_own wsX2_own) := goodIn_app (goodIn_of _ (by decide +kernel)) ggX6_have_X2_own
set_option maxRecDepth 20000 in
theorem ggX6_have_X6_agree : GoodIn wsX6_have wsX6_agree := goodIn_r _ [21, 10, 22, 23, 24, 25, 26, 27] (by decide +kernel) (by decide +kernel)
set_option maxRecDepth 20000 in
theorem gX6_have_X6_agree : GoodIn wsX6_have (wsV RX6 63 RX6 yX6_agree wsX6_agree) := goodIn_app (goodIn_of _ (by decide +kernel)) ggX6_have_X6_agree
theorem dX6_have_0 : decode cX6_have 0 = .ok (.iload_n 1, 1) := by decide +kernel
theorem dX6_have_1 : decode cX6_have 1 = .ok (.i2l, 1) := by decide +kernel
theorem dX6_have_2 : decode cX6_have 2 = .ok (.iconst 0, 1) := by decide +kernel
theorem dX6_have_3 : decode cX6_have 3 = .ok (.sipush 500, 3) := by decide +kernel
theorem dX6_have_6 : decode cX6_have 6 = .ok (.invokestatic 52, 3) := by decide +kernel
theorem dX6_have_9 : decode cX6_have 9 = .ok (.ifCond .ne 9, 3) := by decide +kernel
theorem dX6_have_12 : decode cX6_have 12 = .ok (.aload_n 0, 1) := by decide +kernel
theorem dX6_have_13 : decode cX6_have 13 = .ok (.iconst 1, 1) := by decide +kernel
theorem dX6_have_14 : decode cX6_have 14 = .ok (.invokevirtual 56, 3) := by decide +kernel
theorem dX6_have_17 : decode cX6_have 17 = .ok (.ireturn, 1) := by decide +kernel
theorem dX6_have_18 : decode cX6_have 18 = .ok (.aload_n 0, 1) := by decide +kernel
theorem dX6_have_19 : decode cX6_have 19 = .ok (.getfield 40, 3) := by decide +kernel
theorem dX6_have_22 : decode cX6_have 22 = .ok (.iload_n 1, 1) := by decide +kernel
theorem dX6_have_23 : decode cX6_have 23 = .ok (.invokevirtual 211, 3) := by decide +kernel
theorem dX6_have_26 : decode cX6_have 26 = .ok (.aload_n 0, 1) := by decide +kernel
theorem dX6_have_27 : decode cX6_have 27 = .ok (.invokevirtual 63, 3) := by decide +kernel
theorem dX6_have_30 : decode cX6_have 30 = .ok (.ireturn, 1) := by decide +kernel
set_option maxRecDepth 20000 in
theorem ggX6_type_X6_within : GoodIn wsX6_type wsX6_within := goodIn_r _ [8] (by decide +kernel) (by decide +kernel)
set_option maxRecDepth 20000 in
theorem gX6_type_X6_within : GoodIn wsX6_type (va_wsS RX6 52 yX6_within wsX6_within) := goodIn_app (goodIn_of _ (by decide +kernel)) ggX6_type_X6_within
set_option maxRecDepth 20000 in
theorem ggX6_type_X6_isMonth : GoodIn wsX6_type wsX6_isMonth := goodIn_r _ [11, 5, 6, 7, 8] (by decide +kernel) (by decide +kernel)
set_option maxRecDepth 20000 in
theorem gX6_type_X6_isMonth : GoodIn wsX6_type (va_wsS RX6 214 yX6_isMonth wsX6_isMonth) := goodIn_app (goodIn_of _ (by decide +kernel)) ggX6_type_X6_isMonth
set_option maxRecDepth 20000 in
theorem ggX6_type_X4_isNumber : GoodIn wsX6_type wsX4_isNumber := goodIn_r _ [15, 6, 7, 8] (by decide +kernel) (by decide +kernel)
set_option maxRecDepth 20000 in
theorem gX6_type_X4_isNumber : GoodIn wsX6_type (va_wsS RX6 48 yX4_isNumber wsX4_isNumber) := goodIn_app (goodIn_of _ (by decide +kernel)) ggX6_type_X4_isNumber
set_option maxRecDepth 20000 in
theorem ggX6_type_X6_deny : GoodIn wsX6_type wsX6_deny := goodIn_r _ [19, 20, 50, 51, 52, 53, 54, 55] (by decide +kernel) (by decide +kernel)
set_option maxRecDepth 20000 in
theorem gX6_type_X6_deny : GoodIn wsX6_type (wsV RX6 75 RX6 yX6_deny wsX6_deny) := goodIn_app (goodIn_of _ (by decide +kernel)) ggX6_type_X6_deny
set_option maxRecDepth 20000 in
theorem ggX6_type_X4_whyNotFirst : GoodIn wsX6_type wsX4_whyNotFirst := goodIn_r _ [24, 25, 26, 27, 28, 29, 14, 30, 6, 7, 8, 68, 69, 70] (by decide +kernel) (by decide +kernel)
set_option maxRecDepth 20000 in
theorem gX6_type_X4_whyNotFirst : GoodIn wsX6_type (wsV RX6 194 RX4 yX4_whyNotFirst wsX4_whyNotFirst) := goodIn_app (goodIn_of _ (by decide +kernel)) ggX6_type_X4_whyNotFirst
set_option maxRecDepth 20000 in
theorem ggX6_type_X2_addType : GoodIn wsX6_type wsX2_addType := goodIn_r _ [35, 36, 37, 38, 39, 40, 41, 42, 43, 44, 14, 45, 26, 56, 57, 58, 59, 60, 61, 62, 63, 64, 65, 66, 67, 68, 69, 70] (by decide +kernel) (by decide +kernel)
set_option maxRecDepth 20000 in
theorem gX6_type_X2_addType : GoodIn wsX6_type (wsV RX6 218 RX2 yX2_addType wsX2_addType) := goodIn_app (goodIn_of _ (by decide +kernel)) ggX6_type_X2_addType
set_option maxRecDepth 20000 in
theorem ggX6_type_X6_answer : GoodIn wsX6_type wsX6_answer := goodIn_r _ [49, 20, 50, 51, 52, 53, 54, 55] (by decide +kernel) (by decide +kernel)
set_option maxRecDepth 20000 in
theorem gX6_type_X6_answer : GoodIn wsX6_type (wsV RX6 104 RX6 yX6_answer wsX6_answer) := goodIn_app (goodIn_of _ (by decide +kernel)) ggX6_type_X6_answer
theorem dX6_type_0 : decode cX6_type 0 = .ok (.iload_n 1, 1) := by decide +kernel
theorem dX6_type_1 : decode cX6_type 1 = .ok (.i2l, 1) := by decide +kernel
theorem dX6_type_2 : decode cX6_type 2 = .ok (.iconst 1, 1) := by decide +kernel
theorem dX6_type_3 : decode cX6_type 3 = .ok (.bipush 100, 2) := by decide +kernel
theorem dX6_type_5 : decode cX6_type 5 = .ok (.invokestatic 52, 3) := by decide +kernel
theorem dX6_type_8 : decode cX6_type 8 = .ok (.ifCond .eq 30, 3) := by decide +kernel
theorem dX6_type_11 : decode cX6_type 11 = .ok (.iload_n 2, 1) := by decide +kernel
theorem dX6_type_12 : decode cX6_type 12 = .ok (.invokestatic 214, 3) := by decide +kernel
theorem dX6_type_15 : decode cX6_type 15 = .ok (.ifCond .eq 23, 3) := by decide +kernel
theorem dX6_type_18 : decode cX6_type 18 = .ok (.iload_n 3, 1) := by decide +kernel
theorem dX6_type_19 : decode cX6_type 19 = .ok (.invokestatic 48, 3) := by decide +kernel
theorem dX6_type_22 : decode cX6_type 22 = .ok (.ifCond .eq 16, 3) := by decide +kernel
theorem dX6_type_25 : decode cX6_type 25 = .ok (.iload 4, 2) := by decide +kernel
theorem dX6_type_27 : decode cX6_type 27 = .ok (.i2l, 1) := by decide +kernel
theorem dX6_type_28 : decode cX6_type 28 = .ok (.iconst 0, 1) := by decide +kernel
theorem dX6_type_29 : decode cX6_type 29 = .ok (.sipush 1000, 3) := by decide +kernel
theorem dX6_type_32 : decode cX6_type 32 = .ok (.invokestatic 52, 3) := by decide +kernel
theorem dX6_type_35 : decode cX6_type 35 = .ok (.ifCond .ne 9, 3) := by decide +kernel
theorem dX6_type_38 : decode cX6_type 38 = .ok (.aload_n 0, 1) := by decide +kernel
theorem dX6_type_39 : decode cX6_type 39 = .ok (.iconst 1, 1) := by decide +kernel
theorem dX6_type_40 : decode cX6_type 40 = .ok (.invokevirtual 75, 3) := by decide +kernel
theorem dX6_type_43 : decode cX6_type 43 = .ok (.ireturn, 1) := by decide +kernel
theorem dX6_type_44 : decode cX6_type 44 = .ok (.aload_n 0, 1) := by decide +kernel
theorem dX6_type_45 : decode cX6_type 45 = .ok (.getfield 10, 3) := by decide +kernel
theorem dX6_type_48 : decode cX6_type 48 = .ok (.iload_n 3, 1) := by decide +kernel
theorem dX6_type_49 : decode cX6_type 49 = .ok (.bipush 12, 2) := by decide +kernel
theorem dX6_type_51 : decode cX6_type 51 = .ok (.ldc 217, 2) := by decide +kernel
theorem dX6_type_53 : decode cX6_type 53 = .ok (.invokevirtual 194, 3) := by decide +kernel
theorem dX6_type_56 : decode cX6_type 56 = .ok (.istore 5, 2) := by decide +kernel
theorem dX6_type_58 : decode cX6_type 58 = .ok (.iload 5, 2) := by decide +kernel
theorem dX6_type_60 : decode cX6_type 60 = .ok (.ifCond .eq 10, 3) := by decide +kernel
theorem dX6_type_63 : decode cX6_type 63 = .ok (.aload_n 0, 1) := by decide +kernel
theorem dX6_type_64 : decode cX6_type 64 = .ok (.iload 5, 2) := by decide +kernel
theorem dX6_type_66 : decode cX6_type 66 = .ok (.invokevirtual 75, 3) := by decide +kernel
theorem dX6_type_69 : decode cX6_type 69 = .ok (.ireturn, 1) := by decide +kernel
theorem dX6_type_70 : decode cX6_type 70 = .ok (.aload_n 0, 1) := by decide +kernel
theorem dX6_type_71 : decode cX6_type 71 = .ok (.getfield 40, 3) := by decide +kernel
theorem dX6_type_74 : decode cX6_type 74 = .ok (.getfield 143, 3) := by decide +kernel
theorem dX6_type_77 : decode cX6_type 77 = .ok (.iconst 4, 1) := by decide +kernel
theorem dX6_type_78 : decode cX6_type 78 = .ok (.if_icmp .ne 9, 3) := by decide +kernel
theorem dX6_type_81 : decode cX6_type 81 = .ok (.aload_n 0, 1) := by decide +kernel
theorem dX6_type_82 : decode cX6_type 82 = .ok (.iconst 4, 1) := by decide +kernel
theorem dX6_type_83 : decode cX6_type 83 = .ok (.invokevirtual 75, 3) := by decide +kernel
theorem dX6_type_86 : decode cX6_type 86 = .ok (.ireturn, 1) := by decide +kernel
theorem dX6_type_87 : decode cX6_type 87 = .ok (.aload_n 0, 1) := by decide +kernel
theorem dX6_type_88 : decode cX6_type 88 = .ok (.aload_n 0, 1) := by decide +kernel
theorem dX6_type_89 : decode cX6_type 89 = .ok (.getfield 40, 3) := by decide +kernel
theorem dX6_type_92 : decode cX6_type 92 = .ok (.iload_n 1, 1) := by decide +kernel
theorem dX6_type_93 : decode cX6_type 93 = .ok (.iload_n 2, 1) := by decide +kernel
theorem dX6_type_94 : decode cX6_type 94 = .ok (.iload 4, 2) := by decide +kernel
theorem dX6_type_96 : decode cX6_type 96 = .ok (.aload_n 0, 1) := by decide +kernel
theorem dX6_type_97 : decode cX6_type 97 = .ok (.getfield 10, 3) := by decide +kernel
theorem dX6_type_100 : decode cX6_type 100 = .ok (.iload_n 3, 1) := by decide +kernel
theorem dX6_type_101 : decode cX6_type 101 = .ok (.invokevirtual 218, 3) := by decide +kernel
theorem dX6_type_104 : decode cX6_type 104 = .ok (.invokevirtual 104, 3) := by decide +kernel
theorem dX6_type_107 : decode cX6_type 107 = .ok (.ireturn, 1) := by decide +kernel
set_option maxRecDepth 20000 in
theorem ggX6_cheapest_X2_solve : GoodIn wsX6_cheapest wsX2_solve := goodIn_r _ [7, 8, 9, 10, 11, 12, 13, 14, 15, 16, 17, 18, 19, 20, 21, 22, 23, 24, 25, 26, 27, 28, 29, 30, 31, 32, 6, 33, 34, 35, 36, 37, 38, 39, 40, 41, 42, 43, 44, 45, 46, 47, 48, 49, 50, 51, 52, 53, 54, 55, 56, 74, 75, 76, 77, 78, 79, 80, 81, 82, 83, 84, 85] (by decide +kernel) (by decide +kernel)
set_option maxRecDepth 20000 in
theorem gX6_cheapest_X2_solve : GoodIn wsX6_cheapest (wsV RX6 222 RX2 yX2_solve wsX2_solve) := goodIn_app (goodIn_of _ (by decide +kernel)) ggX6_cheapest_X2_solve
set_option maxRecDepth 20000 in
theorem ggX6_cheapest_X2_isEnough : GoodIn wsX6_cheapest wsX2_isEnough := goodIn_r _ [47, 16, 12, 74, 75, 76, 77, 78, 79, 80, 81, 82, 83, 84, 85] (by decide +kernel) (by decide +kernel)
set_option maxRecDepth 20000 in
theorem gX6_cheapest_X2_isEnough : GoodIn wsX6_cheapest (wsV RX6 225 RX2 yX2_isEnough wsX2_isEnough) := goodIn_app (goodIn_of _ (by decide +kernel)) ggX6_cheapest_X2_isEnough
set_option maxRecDepth 20000 in
theorem ggX6_cheapest_X6_answer : GoodIn wsX6_cheapest wsX6_answer := goodIn_r _ [62, 63, 68, 69, 70, 71, 72, 73] (by decide +kernel) (by decide +kernel)
set_option maxRecDepth 20000 in
theorem gX6_cheapest_X6_answer : GoodIn wsX6_cheapest (wsV RX6 104 RX6 yX6_answer wsX6_answer) := goodIn_app (goodIn_of _ (by decide +kernel)) ggX6_cheapest_X6_answer
set_option maxRecDepth 20000 in
theorem ggX6_cheapest_X6_deny : GoodIn wsX6_cheapest wsX6_deny := goodIn_r _ [67, 63, 68, 69, 70, 71, 72, 73] (by decide +kernel) (by decide +kernel)
set_option maxRecDepth 20000 in
theorem gX6_cheapest_X6_deny : GoodIn wsX6_cheapest (wsV RX6 75 RX6 yX6_deny wsX6_deny) := goodIn_app (goodIn_of _ (by decide +kernel)) ggX6_cheapest_X6_deny
theorem dX6_cheapest_0 : decode cX6_cheapest 0 = .ok (.aload_n 0, 1) := by decide +kernel
theorem dX6_cheapest_1 : decode cX6_cheapest 1 = .ok (.getfield 40, 3) := by decide +kernel
theorem dX6_cheapest_4 : decode cX6_cheapest 4 = .ok (.invokevirtual 222, 3) := by decide +kernel
theorem dX6_cheapest_7 : decode cX6_cheapest 7 = .ok (.aload_n 0, 1) := by decide +kernel
theorem dX6_cheapest_8 : decode cX6_cheapest 8 = .ok (.getfield 40, 3) := by decide +kernel
theorem dX6_cheapest_11 : decode cX6_cheapest 11 = .ok (.invokevirtual 225, 3) := by decide +kernel
theorem dX6_cheapest_14 : decode cX6_cheapest 14 = .ok (.ifCond .eq 17, 3) := by decide +kernel
theorem dX6_cheapest_17 : decode cX6_cheapest 17 = .ok (.aload_n 0, 1) := by decide +kernel
theorem dX6_cheapest_18 : decode cX6_cheapest 18 = .ok (.aload_n 0, 1) := by decide +kernel
theorem dX6_cheapest_19 : decode cX6_cheapest 19 = .ok (.getfield 40, 3) := by decide +kernel
theorem dX6_cheapest_22 : decode cX6_cheapest 22 = .ok (.getfield 228, 3) := by decide +kernel
theorem dX6_cheapest_25 : decode cX6_cheapest 25 = .ok (.invokevirtual 104, 3) := by decide +kernel
theorem dX6_cheapest_28 : decode cX6_cheapest 28 = .ok (.goto 9, 3) := by decide +kernel
theorem dX6_cheapest_31 : decode cX6_cheapest 31 = .ok (.aload_n 0, 1) := by decide +kernel
theorem dX6_cheapest_32 : decode cX6_cheapest 32 = .ok (.bipush 7, 2) := by decide +kernel
theorem dX6_cheapest_34 : decode cX6_cheapest 34 = .ok (.invokevirtual 75, 3) := by decide +kernel
theorem dX6_cheapest_37 : decode cX6_cheapest 37 = .ok (.ireturn, 1) := by decide +kernel
set_option maxRecDepth 20000 in
theorem ggX6_buys_X6_isMonth : GoodIn wsX6_buys wsX6_isMonth := goodIn_r _ [6, 7, 8, 5, 9] (by decide +kernel) (by decide +kernel)
set_option maxRecDepth 20000 in
theorem gX6_buys_X6_isMonth : GoodIn wsX6_buys (va_wsS RX6 214 yX6_isMonth wsX6_isMonth) := goodIn_app (goodIn_of _ (by decide +kernel)) ggX6_buys_X6_isMonth
set_option maxRecDepth 20000 in
theorem ggX6_buys_X2_hasType : GoodIn wsX6_buys wsX2_hasType := goodIn_r _ [14, 15, 8, 5, 9, 84, 85, 86, 87, 88, 89, 90, 91, 92, 93, 94, 95] (by decide +kernel) (by decide +kernel)
set_option maxRecDepth 20000 in
theorem gX6_buys_X2_hasType : GoodIn wsX6_buys (wsV RX6 231 RX2 yX2_hasType wsX2_hasType) := goodIn_app (goodIn_of _ (by decide +kernel)) ggX6_buys_X2_hasType
set_option maxRecDepth 20000 in
theorem ggX6_buys_X6_deny : GoodIn wsX6_buys wsX6_deny := goodIn_r _ [19, 20, 78, 79, 80, 81, 82, 83] (by decide +kernel) (by decide +kernel)
set_option maxRecDepth 20000 in
theorem gX6_buys_X6_deny : GoodIn wsX6_buys (wsV RX6 75 RX6 yX6_deny wsX6_deny) := goodIn_app (goodIn_of _ (by decide +kernel)) ggX6_buys_X6_deny
set_option maxRecDepth 20000 in
theorem ggX6_buys_X2_solve : GoodIn wsX6_buys wsX2_solve := goodIn_r _ [24, 25, 26, 27, 28, 29, 15, 30, 31, 32, 33, 34, 35, 36, 37, 38, 39, 40, 41, 42, 43, 44, 45, 46, 47, 48, 13, 49, 50, 51, 52, 53, 54, 55, 56, 57, 58, 59, 60, 61, 62, 63, 64, 65, 66, 67, 68, 69, 70, 71, 72, 84, 85, 86, 87, 88, 89, 90, 91, 92, 93, 94, 95] (by decide +kernel) (by decide +kernel)
set_option maxRecDepth 20000 in
theorem gX6_buys_X2_solve : GoodIn wsX6_buys (wsV RX6 222 RX2 yX2_solve wsX2_solve) := goodIn_app (goodIn_of _ (by decide +kernel)) ggX6_buys_X2_solve
set_option maxRecDepth 20000 in
theorem ggX6_buys_X2_isEnough : GoodIn wsX6_buys wsX2_isEnough := goodIn_r _ [63, 32, 29, 84, 85, 86, 87, 88, 89, 90, 91, 92, 93, 94, 95] (by decide +kernel) (by decide +kernel)
set_option maxRecDepth 20000 in
theorem gX6_buys_X2_isEnough : GoodIn wsX6_buys (wsV RX6 225 RX2 yX2_isEnough wsX2_isEnough) := goodIn_app (goodIn_of _ (by decide +kernel)) ggX6_buys_X2_isEnough
set_option maxRecDepth 20000 in
theorem ggX6_buys_X6_answer : GoodIn wsX6_buys wsX6_answer := goodIn_r _ [77, 20, 78, 79, 80, 81, 82, 83] (by decide +kernel) (by decide +kernel)
set_option maxRecDepth 20000 in
theorem gX6_buys_X6_answer : GoodIn wsX6_buys (wsV RX6 104 RX6 yX6_answer wsX6_answer) := goodIn_app (goodIn_of _ (by decide +kernel)) ggX6_buys_X6_answer
theorem dX6_buys_0 : decode cX6_buys 0 = .ok (.iload_n 1, 1) := by decide +kernel
theorem dX6_buys_1 : decode cX6_buys 1 = .ok (.invokestatic 214, 3) := by decide +kernel
theorem dX6_buys_4 : decode cX6_buys 4 = .ok (.ifCond .eq 14, 3) := by decide +kernel
theorem dX6_buys_7 : decode cX6_buys 7 = .ok (.aload_n 0, 1) := by decide +kernel
theorem dX6_buys_8 : decode cX6_buys 8 = .ok (.getfield 40, 3) := by decide +kernel
theorem dX6_buys_11 : decode cX6_buys 11 = .ok (.iload_n 2, 1) := by decide +kernel
theorem dX6_buys_12 : decode cX6_buys 12 = .ok (.invokevirtual 231, 3) := by decide +kernel
theorem dX6_buys_15 : decode cX6_buys 15 = .ok (.ifCond .ne 9, 3) := by decide +kernel
theorem dX6_buys_18 : decode cX6_buys 18 = .ok (.aload_n 0, 1) := by decide +kernel
theorem dX6_buys_19 : decode cX6_buys 19 = .ok (.iconst 1, 1) := by decide +kernel
theorem dX6_buys_20 : decode cX6_buys 20 = .ok (.invokevirtual 75, 3) := by decide +kernel
theorem dX6_buys_23 : decode cX6_buys 23 = .ok (.ireturn, 1) := by decide +kernel
theorem dX6_buys_24 : decode cX6_buys 24 = .ok (.aload_n 0, 1) := by decide +kernel
theorem dX6_buys_25 : decode cX6_buys 25 = .ok (.getfield 40, 3) := by decide +kernel
theorem dX6_buys_28 : decode cX6_buys 28 = .ok (.invokevirtual 222, 3) := by decide +kernel
theorem dX6_buys_31 : decode cX6_buys 31 = .ok (.aload_n 0, 1) := by decide +kernel
theorem dX6_buys_32 : decode cX6_buys 32 = .ok (.getfield 40, 3) := by decide +kernel
theorem dX6_buys_35 : decode cX6_buys 35 = .ok (.invokevirtual 225, 3) := by decide +kernel
theorem dX6_buys_38 : decode cX6_buys 38 = .ok (.ifCond .eq 21, 3) := by decide +kernel
theorem dX6_buys_41 : decode cX6_buys 41 = .ok (.aload_n 0, 1) := by decide +kernel
theorem dX6_buys_42 : decode cX6_buys 42 = .ok (.aload_n 0, 1) := by decide +kernel
theorem dX6_buys_43 : decode cX6_buys 43 = .ok (.getfield 40, 3) := by decide +kernel
theorem dX6_buys_46 : decode cX6_buys 46 = .ok (.getfield 234, 3) := by decide +kernel
theorem dX6_buys_49 : decode cX6_buys 49 = .ok (.iload_n 1, 1) := by decide +kernel
theorem dX6_buys_50 : decode cX6_buys 50 = .ok (.aaload, 1) := by decide +kernel
theorem dX6_buys_51 : decode cX6_buys 51 = .ok (.iload_n 2, 1) := by decide +kernel
theorem dX6_buys_52 : decode cX6_buys 52 = .ok (.iaload, 1) := by decide +kernel
theorem dX6_buys_53 : decode cX6_buys 53 = .ok (.invokevirtual 104, 3) := by decide +kernel
theorem dX6_buys_56 : decode cX6_buys 56 = .ok (.goto 9, 3) := by decide +kernel
theorem dX6_buys_59 : decode cX6_buys 59 = .ok (.aload_n 0, 1) := by decide +kernel
theorem dX6_buys_60 : decode cX6_buys 60 = .ok (.bipush 7, 2) := by decide +kernel
theorem dX6_buys_62 : decode cX6_buys 62 = .ok (.invokevirtual 75, 3) := by decide +kernel
theorem dX6_buys_65 : decode cX6_buys 65 = .ok (.ireturn, 1) := by decide +kernel
theorem dX6_agree_0 : decode cX6_agree 0 = .ok (.aload_n 0, 1) := by decide +kernel
theorem dX6_agree_1 : decode cX6_agree 1 = .ok (.iconst 0, 1) := by decide +kernel
theorem dX6_agree_2 : decode cX6_agree 2 = .ok (.putfield 44, 3) := by decide +kernel
theorem dX6_agree_5 : decode cX6_agree 5 = .ok (.iconst 1, 1) := by decide +kernel
theorem dX6_agree_6 : decode cX6_agree 6 = .ok (.ireturn, 1) := by decide +kernel
theorem dX6_refuse_0 : decode cX6_refuse 0 = .ok (.aload_n 0, 1) := by decide +kernel
theorem dX6_refuse_1 : decode cX6_refuse 1 = .ok (.iload_n 1, 1) := by decide +kernel
theorem dX6_refuse_2 : decode cX6_refuse 2 = .ok (.putfield 44, 3) := by decide +kernel
theorem dX6_refuse_5 : decode cX6_refuse 5 = .ok (.iconst 0, 1) := by decide +kernel
theorem dX6_refuse_6 : decode cX6_refuse 6 = .ok (.ireturn, 1) := by decide +kernel
theorem dX6_answer_0 : decode cX6_answer 0 = .ok (.aload_n 0, 1) := by decide +kernel
theorem dX6_answer_1 : decode cX6_answer 1 = .ok (.iconst 0, 1) := by decide +kernel
theorem dX6_answer_2 : decode cX6_answer 2 = .ok (.putfield 44, 3) := by decide +kernel
theorem dX6_answer_5 : decode cX6_answer 5 = .ok (.iload_n 1, 1) := by decide +kernel
theorem dX6_answer_6 : decode cX6_answer 6 = .ok (.ireturn, 1) := by decide +kernel
theorem dX6_deny_0 : decode cX6_deny 0 = .ok (.aload_n 0, 1) := by decide +kernel
theorem dX6_deny_1 : decode cX6_deny 1 = .ok (.iload_n 1, 1) := by decide +kernel
theorem dX6_deny_2 : decode cX6_deny 2 = .ok (.putfield 44, 3) := by decide +kernel
theorem dX6_deny_5 : decode cX6_deny 5 = .ok (.iconst (-1), 1) := by decide +kernel
theorem dX6_deny_6 : decode cX6_deny 6 = .ok (.ireturn, 1) := by decide +kernel
theorem dX6_within_0 : decode cX6_within 0 = .ok (.lload_n 0, 1) := by decide +kernel
theorem dX6_within_1 : decode cX6_within 1 = .ok (.iload_n 2, 1) := by decide +kernel
theorem dX6_within_2 : decode cX6_within 2 = .ok (.i2l, 1) := by decide +kernel
theorem dX6_within_3 : decode cX6_within 3 = .ok (.lcmp, 1) := by decide +kernel
theorem dX6_within_4 : decode cX6_within 4 = .ok (.ifCond .lt 14, 3) := by decide +kernel
theorem dX6_within_7 : decode cX6_within 7 = .ok (.lload_n 0, 1) := by decide +kernel
theorem dX6_within_8 : decode cX6_within 8 = .ok (.iload_n 3, 1) := by decide +kernel
theorem dX6_within_9 : decode cX6_within 9 = .ok (.i2l, 1) := by decide +kernel
theorem dX6_within_10 : decode cX6_within 10 = .ok (.lcmp, 1) := by decide +kernel
theorem dX6_within_11 : decode cX6_within 11 = .ok (.ifCond .gt 7, 3) := by decide +kernel
theorem dX6_within_14 : decode cX6_within 14 = .ok (.iconst 1, 1) := by decide +kernel
theorem dX6_within_15 : decode cX6_within 15 = .ok (.goto 4, 3) := by decide +kernel
theorem dX6_within_18 : decode cX6_within 18 = .ok (.iconst 0, 1) := by decide +kernel
theorem dX6_within_19 : decode cX6_within 19 = .ok (.ireturn, 1) := by decide +kernel
set_option maxRecDepth 20000 in
theorem ggX6_isHour_X6_within : GoodIn wsX6_isHour wsX6_within := goodIn_r _ [4] (by decide +kernel) (by decide +kernel)
set_option maxRecDepth 20000 in
theorem gX6_isHour_X6_within : GoodIn wsX6_isHour (va_wsS RX6 52 yX6_within wsX6_within) := goodIn_app (goodIn_of _ (by decide +kernel)) ggX6_isHour_X6_within
theorem dX6_isHour_0 : decode cX6_isHour 0 = .ok (.iload_n 0, 1) := by decide +kernel
theorem dX6_isHour_1 : decode cX6_isHour 1 = .ok (.i2l, 1) := by decide +kernel
theorem dX6_isHour_2 : decode cX6_isHour 2 = .ok (.iconst 0, 1) := by decide +kernel
theorem dX6_isHour_3 : decode cX6_isHour 3 = .ok (.bipush 23, 2) := by decide +kernel
theorem dX6_isHour_5 : decode cX6_isHour 5 = .ok (.invokestatic 52, 3) := by decide +kernel
theorem dX6_isHour_8 : decode cX6_isHour 8 = .ok (.ireturn, 1) := by decide +kernel
set_option maxRecDepth 20000 in
theorem ggX6_isMonth_X6_within : GoodIn wsX6_isMonth wsX6_within := goodIn_r _ [4] (by decide +kernel) (by decide +kernel)
set_option maxRecDepth 20000 in
theorem gX6_isMonth_X6_within : GoodIn wsX6_isMonth (va_wsS RX6 52 yX6_within wsX6_within) := goodIn_app (goodIn_of _ (by decide +kernel)) ggX6_isMonth_X6_within
theorem dX6_isMonth_0 : decode cX6_isMonth 0 = .ok (.iload_n 0, 1) := by decide +kernel
theorem dX6_isMonth_1 : decode cX6_isMonth 1 = .ok (.i2l, 1) := by decide +kernel
theorem dX6_isMonth_2 : decode cX6_isMonth 2 = .ok (.iconst 0, 1) := by decide +kernel
theorem dX6_isMonth_3 : decode cX6_isMonth 3 = .ok (.bipush 11, 2) := by decide +kernel
theorem dX6_isMonth_5 : decode cX6_isMonth 5 = .ok (.invokestatic 52, 3) := by decide +kernel
theorem dX6_isMonth_8 : decode cX6_isMonth 8 = .ok (.ireturn, 1) := by decide +kernel
set_option maxRecDepth 20000 in
theorem ggX6_isLine_X4_isNumber : GoodIn wsX6_isLine wsX4_isNumber := goodIn_r _ [4, 5, 6, 7] (by decide +kernel) (by decide +kernel)
set_option maxRecDepth 20000 in
theorem gX6_isLine_X4_isNumber : GoodIn wsX6_isLine (va_wsS RX6 48 yX4_isNumber wsX4_isNumber) := goodIn_app (goodIn_of _ (by decide +kernel)) ggX6_isLine_X4_isNumber
set_option maxRecDepth 20000 in
theorem ggX6_isLine_X6_within : GoodIn wsX6_isLine wsX6_within := goodIn_r _ [7] (by decide +kernel) (by decide +kernel)
set_option maxRecDepth 20000 in
theorem gX6_isLine_X6_within : GoodIn wsX6_isLine (va_wsS RX6 52 yX6_within wsX6_within) := goodIn_app (goodIn_of _ (by decide +kernel)) ggX6_isLine_X6_within
theorem dX6_isLine_0 : decode cX6_isLine 0 = .ok (.iload_n 0, 1) := by decide +kernel
theorem dX6_isLine_1 : decode cX6_isLine 1 = .ok (.invokestatic 48, 3) := by decide +kernel
theorem dX6_isLine_4 : decode cX6_isLine 4 = .ok (.ifCond .eq 29, 3) := by decide +kernel
theorem dX6_isLine_7 : decode cX6_isLine 7 = .ok (.iload_n 1, 1) := by decide +kernel
theorem dX6_isLine_8 : decode cX6_isLine 8 = .ok (.i2l, 1) := by decide +kernel
theorem dX6_isLine_9 : decode cX6_isLine 9 = .ok (.iconst 1, 1) := by decide +kernel
theorem dX6_isLine_10 : decode cX6_isLine 10 = .ok (.bipush 64, 2) := by decide +kernel
theorem dX6_isLine_12 : decode cX6_isLine 12 = .ok (.invokestatic 52, 3) := by decide +kernel
theorem dX6_isLine_15 : decode cX6_isLine 15 = .ok (.ifCond .eq 18, 3) := by decide +kernel
theorem dX6_isLine_18 : decode cX6_isLine 18 = .ok (.iload_n 2, 1) := by decide +kernel
theorem dX6_isLine_19 : decode cX6_isLine 19 = .ok (.i2l, 1) := by decide +kernel
theorem dX6_isLine_20 : decode cX6_isLine 20 = .ok (.iconst 1, 1) := by decide +kernel
theorem dX6_isLine_21 : decode cX6_isLine 21 = .ok (.bipush 100, 2) := by decide +kernel
theorem dX6_isLine_23 : decode cX6_isLine 23 = .ok (.invokestatic 52, 3) := by decide +kernel
theorem dX6_isLine_26 : decode cX6_isLine 26 = .ok (.ifCond .eq 7, 3) := by decide +kernel
theorem dX6_isLine_29 : decode cX6_isLine 29 = .ok (.iconst 1, 1) := by decide +kernel
theorem dX6_isLine_30 : decode cX6_isLine 30 = .ok (.goto 4, 3) := by decide +kernel
theorem dX6_isLine_33 : decode cX6_isLine 33 = .ok (.iconst 0, 1) := by decide +kernel
theorem dX6_isLine_34 : decode cX6_isLine 34 = .ok (.ireturn, 1) := by decide +kernel
theorem dX7_init_0 : decode cX7_init 0 = .ok (.aload_n 0, 1) := by decide +kernel
theorem dX7_init_1 : decode cX7_init 1 = .ok (.invokespecial 1, 3) := by decide +kernel
theorem dX7_init_4 : decode cX7_init 4 = .ok (.aload_n 0, 1) := by decide +kernel
theorem dX7_init_5 : decode cX7_init 5 = .ok (.bipush 6, 2) := by decide +kernel
theorem dX7_init_7 : decode cX7_init 7 = .ok (.newarray .int, 2) := by decide +kernel
theorem dX7_init_9 : decode cX7_init 9 = .ok (.putfield 7, 3) := by decide +kernel
theorem dX7_init_12 : decode cX7_init 12 = .ok (.aload_n 0, 1) := by decide +kernel
theorem dX7_init_13 : decode cX7_init 13 = .ok (.bipush 6, 2) := by decide +kernel
theorem dX7_init_15 : decode cX7_init 15 = .ok (.newarray .int, 2) := by decide +kernel
theorem dX7_init_17 : decode cX7_init 17 = .ok (.dup, 1) := by decide +kernel
theorem dX7_init_18 : decode cX7_init 18 = .ok (.iconst 0, 1) := by decide +kernel
theorem dX7_init_19 : decode cX7_init 19 = .ok (.iconst (-1), 1) := by decide +kernel
theorem dX7_init_20 : decode cX7_init 20 = .ok (.iastore, 1) := by decide +kernel
theorem dX7_init_21 : decode cX7_init 21 = .ok (.dup, 1) := by decide +kernel
theorem dX7_init_22 : decode cX7_init 22 = .ok (.iconst 1, 1) := by decide +kernel
theorem dX7_init_23 : decode cX7_init 23 = .ok (.iconst (-1), 1) := by decide +kernel
theorem dX7_init_24 : decode cX7_init 24 = .ok (.iastore, 1) := by decide +kernel
theorem dX7_init_25 : decode cX7_init 25 = .ok (.dup, 1) := by decide +kernel
theorem dX7_init_26 : decode cX7_init 26 = .ok (.iconst 2, 1) := by decide +kernel
theorem dX7_init_27 : decode cX7_init 27 = .ok (.iconst (-1), 1) := by decide +kernel
theorem dX7_init_28 : decode cX7_init 28 = .ok (.iastore, 1) := by decide +kernel
theorem dX7_init_29 : decode cX7_init 29 = .ok (.dup, 1) := by decide +kernel
theorem dX7_init_30 : decode cX7_init 30 = .ok (.iconst 3, 1) := by decide +kernel
theorem dX7_init_31 : decode cX7_init 31 = .ok (.iconst (-1), 1) := by decide +kernel
theorem dX7_init_32 : decode cX7_init 32 = .ok (.iastore, 1) := by decide +kernel
theorem dX7_init_33 : decode cX7_init 33 = .ok (.dup, 1) := by decide +kernel
theorem dX7_init_34 : decode cX7_init 34 = .ok (.iconst 4, 1) := by decide +kernel
theorem dX7_init_35 : decode cX7_init 35 = .ok (.iconst (-1), 1) := by decide +kernel
theorem dX7_init_36 : decode cX7_init 36 = .ok (.iastore, 1) := by decide +kernel
theorem dX7_init_37 : decode cX7_init 37 = .ok (.dup, 1) := by decide +kernel
theorem dX7_init_38 : decode cX7_init 38 = .ok (.iconst 5, 1) := by decide +kernel
theorem dX7_init_39 : decode cX7_init 39 = .ok (.iconst (-1), 1) := by decide +kernel
theorem dX7_init_40 : decode cX7_init 40 = .ok (.iastore, 1) := by decide +kernel
theorem dX7_init_41 : decode cX7_init 41 = .ok (.putfield 13, 3) := by decide +kernel
theorem dX7_init_44 : decode cX7_init 44 = .ok (.aload_n 0, 1) := by decide +kernel
theorem dX7_init_45 : decode cX7_init 45 = .ok (.sipush 384, 3) := by decide +kernel
theorem dX7_init_48 : decode cX7_init 48 = .ok (.newarray .long, 2) := by decide +kernel
theorem dX7_init_50 : decode cX7_init 50 = .ok (.putfield 16, 3) := by decide +kernel
theorem dX7_init_53 : decode cX7_init 53 = .ok (.aload_n 0, 1) := by decide +kernel
theorem dX7_init_54 : decode cX7_init 54 = .ok (.bipush 12, 2) := by decide +kernel
theorem dX7_init_56 : decode cX7_init 56 = .ok (.newarray .int, 2) := by decide +kernel
theorem dX7_init_58 : decode cX7_init 58 = .ok (.putfield 20, 3) := by decide +kernel
theorem dX7_init_61 : decode cX7_init 61 = .ok (.aload_n 0, 1) := by decide +kernel
theorem dX7_init_62 : decode cX7_init 62 = .ok (.bipush 12, 2) := by decide +kernel
theorem dX7_init_64 : decode cX7_init 64 = .ok (.newarray .int, 2) := by decide +kernel
theorem dX7_init_66 : decode cX7_init 66 = .ok (.putfield 23, 3) := by decide +kernel
theorem dX7_init_69 : decode cX7_init 69 = .ok (.aload_n 0, 1) := by decide +kernel
theorem dX7_init_70 : decode cX7_init 70 = .ok (.bipush 12, 2) := by decide +kernel
theorem dX7_init_72 : decode cX7_init 72 = .ok (.newarray .boolean, 2) := by decide +kernel
theorem dX7_init_74 : decode cX7_init 74 = .ok (.putfield 26, 3) := by decide +kernel
theorem dX7_init_77 : decode cX7_init 77 = .ok (.aload_n 0, 1) := by decide +kernel
theorem dX7_init_78 : decode cX7_init 78 = .ok (.bipush 10, 2) := by decide +kernel
theorem dX7_init_80 : decode cX7_init 80 = .ok (.newarray .int, 2) := by decide +kernel
theorem dX7_init_82 : decode cX7_init 82 = .ok (.putfield 30, 3) := by decide +kernel
theorem dX7_init_85 : decode cX7_init 85 = .ok (.aload_n 0, 1) := by decide +kernel
theorem dX7_init_86 : decode cX7_init 86 = .ok (.bipush 10, 2) := by decide +kernel
theorem dX7_init_88 : decode cX7_init 88 = .ok (.newarray .int, 2) := by decide +kernel
theorem dX7_init_90 : decode cX7_init 90 = .ok (.putfield 33, 3) := by decide +kernel
theorem dX7_init_93 : decode cX7_init 93 = .ok (.aload_n 0, 1) := by decide +kernel
theorem dX7_init_94 : decode cX7_init 94 = .ok (.bipush 10, 2) := by decide +kernel
theorem dX7_init_96 : decode cX7_init 96 = .ok (.newarray .int, 2) := by decide +kernel
theorem dX7_init_98 : decode cX7_init 98 = .ok (.putfield 36, 3) := by decide +kernel
theorem dX7_init_101 : decode cX7_init 101 = .ok (.aload_n 0, 1) := by decide +kernel
theorem dX7_init_102 : decode cX7_init 102 = .ok (.bipush 10, 2) := by decide +kernel
theorem dX7_init_104 : decode cX7_init 104 = .ok (.newarray .int, 2) := by decide +kernel
theorem dX7_init_106 : decode cX7_init 106 = .ok (.putfield 39, 3) := by decide +kernel
theorem dX7_init_109 : decode cX7_init 109 = .ok (.aload_n 0, 1) := by decide +kernel
theorem dX7_init_110 : decode cX7_init 110 = .ok (.sipush 1024, 3) := by decide +kernel
theorem dX7_init_113 : decode cX7_init 113 = .ok (.newarray .int, 2) := by decide +kernel
theorem dX7_init_115 : decode cX7_init 115 = .ok (.putfield 42, 3) := by decide +kernel
theorem dX7_init_118 : decode cX7_init 118 = .ok (.aload_n 0, 1) := by decide +kernel
theorem dX7_init_119 : decode cX7_init 119 = .ok (.sipush 1024, 3) := by decide +kernel
theorem dX7_init_122 : decode cX7_init 122 = .ok (.newarray .boolean, 2) := by decide +kernel
theorem dX7_init_124 : decode cX7_init 124 = .ok (.putfield 45, 3) := by decide +kernel
theorem dX7_init_127 : decode cX7_init 127 = .ok (.aload_n 0, 1) := by decide +kernel
theorem dX7_init_128 : decode cX7_init 128 = .ok (.sipush 13312, 3) := by decide +kernel
theorem dX7_init_131 : decode cX7_init 131 = .ok (.newarray .boolean, 2) := by decide +kernel
theorem dX7_init_133 : decode cX7_init 133 = .ok (.putfield 48, 3) := by decide +kernel
theorem dX7_init_136 : decode cX7_init 136 = .ok (.aload_n 0, 1) := by decide +kernel
theorem dX7_init_137 : decode cX7_init 137 = .ok (.bipush 8, 2) := by decide +kernel
theorem dX7_init_139 : decode cX7_init 139 = .ok (.newarray .int, 2) := by decide +kernel
theorem dX7_init_141 : decode cX7_init 141 = .ok (.putfield 51, 3) := by decide +kernel
theorem dX7_init_144 : decode cX7_init 144 = .ok (.aload_n 0, 1) := by decide +kernel
theorem dX7_init_145 : decode cX7_init 145 = .ok (.bipush 8, 2) := by decide +kernel
theorem dX7_init_147 : decode cX7_init 147 = .ok (.newarray .int, 2) := by decide +kernel
theorem dX7_init_149 : decode cX7_init 149 = .ok (.putfield 54, 3) := by decide +kernel
theorem dX7_init_152 : decode cX7_init 152 = .ok (.aload_n 0, 1) := by decide +kernel
theorem dX7_init_153 : decode cX7_init 153 = .ok (.bipush 8, 2) := by decide +kernel
theorem dX7_init_155 : decode cX7_init 155 = .ok (.newarray .int, 2) := by decide +kernel
theorem dX7_init_157 : decode cX7_init 157 = .ok (.putfield 57, 3) := by decide +kernel
theorem dX7_init_160 : decode cX7_init 160 = .ok (.aload_n 0, 1) := by decide +kernel
theorem dX7_init_161 : decode cX7_init 161 = .ok (.bipush 8, 2) := by decide +kernel
theorem dX7_init_163 : decode cX7_init 163 = .ok (.newarray .int, 2) := by decide +kernel
theorem dX7_init_165 : decode cX7_init 165 = .ok (.putfield 60, 3) := by decide +kernel
theorem dX7_init_168 : decode cX7_init 168 = .ok (.aload_n 0, 1) := by decide +kernel
theorem dX7_init_169 : decode cX7_init 169 = .ok (.sipush 192, 3) := by decide +kernel
theorem dX7_init_172 : decode cX7_init 172 = .ok (.newarray .int, 2) := by decide +kernel
theorem dX7_init_174 : decode cX7_init 174 = .ok (.putfield 63, 3) := by decide +kernel
theorem dX7_init_177 : decode cX7_init 177 = .ok (.aload_n 0, 1) := by decide +kernel
theorem dX7_init_178 : decode cX7_init 178 = .ok (.bipush 24, 2) := by decide +kernel
theorem dX7_init_180 : decode cX7_init 180 = .ok (.newarray .int, 2) := by decide +kernel
theorem dX7_init_182 : decode cX7_init 182 = .ok (.putfield 66, 3) := by decide +kernel
theorem dX7_init_185 : decode cX7_init 185 = .ok (.aload_n 0, 1) := by decide +kernel
theorem dX7_init_186 : decode cX7_init 186 = .ok (.bipush 24, 2) := by decide +kernel
theorem dX7_init_188 : decode cX7_init 188 = .ok (.newarray .int, 2) := by decide +kernel
theorem dX7_init_190 : decode cX7_init 190 = .ok (.putfield 69, 3) := by decide +kernel
theorem dX7_init_193 : decode cX7_init 193 = .ok (.aload_n 0, 1) := by decide +kernel
theorem dX7_init_194 : decode cX7_init 194 = .ok (.bipush 8, 2) := by decide +kernel
theorem dX7_init_196 : decode cX7_init 196 = .ok (.newarray .int, 2) := by decide +kernel
theorem dX7_init_198 : decode cX7_init 198 = .ok (.putfield 72, 3) := by decide +kernel
theorem dX7_init_201 : decode cX7_init 201 = .ok (.aload_n 0, 1) := by decide +kernel
theorem dX7_init_202 : decode cX7_init 202 = .ok (.sipush 192, 3) := by decide +kernel
theorem dX7_init_205 : decode cX7_init 205 = .ok (.newarray .boolean, 2) := by decide +kernel
theorem dX7_init_207 : decode cX7_init 207 = .ok (.putfield 75, 3) := by decide +kernel
theorem dX7_init_210 : decode cX7_init 210 = .ok (.aload_n 0, 1) := by decide +kernel
theorem dX7_init_211 : decode cX7_init 211 = .ok (.bipush 34, 2) := by decide +kernel
theorem dX7_init_213 : decode cX7_init 213 = .ok (.newarray .int, 2) := by decide +kernel
theorem dX7_init_215 : decode cX7_init 215 = .ok (.putfield 78, 3) := by decide +kernel
theorem dX7_init_218 : decode cX7_init 218 = .ok (.aload_n 0, 1) := by decide +kernel
theorem dX7_init_219 : decode cX7_init 219 = .ok (.bipush 34, 2) := by decide +kernel
theorem dX7_init_221 : decode cX7_init 221 = .ok (.newarray .int, 2) := by decide +kernel
theorem dX7_init_223 : decode cX7_init 223 = .ok (.putfield 81, 3) := by decide +kernel
theorem dX7_init_226 : decode cX7_init 226 = .ok (.aload_n 0, 1) := by decide +kernel
theorem dX7_init_227 : decode cX7_init 227 = .ok (.bipush 20, 2) := by decide +kernel
theorem dX7_init_229 : decode cX7_init 229 = .ok (.newarray .int, 2) := by decide +kernel
theorem dX7_init_231 : decode cX7_init 231 = .ok (.putfield 84, 3) := by decide +kernel
theorem dX7_init_234 : decode cX7_init 234 = .ok (.aload_n 0, 1) := by decide +kernel
theorem dX7_init_235 : decode cX7_init 235 = .ok (.bipush 12, 2) := by decide +kernel
theorem dX7_init_237 : decode cX7_init 237 = .ok (.newarray .int, 2) := by decide +kernel
theorem dX7_init_239 : decode cX7_init 239 = .ok (.putfield 87, 3) := by decide +kernel
theorem dX7_init_242 : decode cX7_init 242 = .ok (.aload_n 0, 1) := by decide +kernel
theorem dX7_init_243 : decode cX7_init 243 = .ok (.iconst 4, 1) := by decide +kernel
theorem dX7_init_244 : decode cX7_init 244 = .ok (.newarray .int, 2) := by decide +kernel
theorem dX7_init_246 : decode cX7_init 246 = .ok (.putfield 90, 3) := by decide +kernel
theorem dX7_init_249 : decode cX7_init 249 = .ok (.aload_n 0, 1) := by decide +kernel
theorem dX7_init_250 : decode cX7_init 250 = .ok (.iconst 4, 1) := by decide +kernel
theorem dX7_init_251 : decode cX7_init 251 = .ok (.newarray .int, 2) := by decide +kernel
theorem dX7_init_253 : decode cX7_init 253 = .ok (.putfield 93, 3) := by decide +kernel
theorem dX7_init_256 : decode cX7_init 256 = .ok (.aload_n 0, 1) := by decide +kernel
theorem dX7_init_257 : decode cX7_init 257 = .ok (.iconst 4, 1) := by decide +kernel
theorem dX7_init_258 : decode cX7_init 258 = .ok (.newarray .int, 2) := by decide +kernel
theorem dX7_init_260 : decode cX7_init 260 = .ok (.putfield 96, 3) := by decide +kernel
theorem dX7_init_263 : decode cX7_init 263 = .ok (.aload_n 0, 1) := by decide +kernel
theorem dX7_init_264 : decode cX7_init 264 = .ok (.bipush 48, 2) := by decide +kernel
theorem dX7_init_266 : decode cX7_init 266 = .ok (.newarray .int, 2) := by decide +kernel
theorem dX7_init_268 : decode cX7_init 268 = .ok (.putfield 99, 3) := by decide +kernel
theorem dX7_init_271 : decode cX7_init 271 = .ok (.aload_n 0, 1) := by decide +kernel
theorem dX7_init_272 : decode cX7_init 272 = .ok (.sipush 24549, 3) := by decide +kernel
theorem dX7_init_275 : decode cX7_init 275 = .ok (.newarray .int, 2) := by decide +kernel
theorem dX7_init_277 : decode cX7_init 277 = .ok (.putfield 102, 3) := by decide +kernel
theorem dX7_init_280 : decode cX7_init 280 = .ok (.return_, 1) := by decide +kernel
theorem dX7_status_0 : decode cX7_status 0 = .ok (.aload_n 0, 1) := by decide +kernel
theorem dX7_status_1 : decode cX7_status 1 = .ok (.getfield 105, 3) := by decide +kernel
theorem dX7_status_4 : decode cX7_status 4 = .ok (.ireturn, 1) := by decide +kernel
theorem dX7_is_0 : decode cX7_is 0 = .ok (.aload_n 0, 1) := by decide +kernel
theorem dX7_is_1 : decode cX7_is 1 = .ok (.iload_n 1, 1) := by decide +kernel
theorem dX7_is_2 : decode cX7_is 2 = .ok (.putfield 105, 3) := by decide +kernel
theorem dX7_is_5 : decode cX7_is 5 = .ok (.iload_n 1, 1) := by decide +kernel
theorem dX7_is_6 : decode cX7_is 6 = .ok (.ifCond .ne 7, 3) := by decide +kernel
theorem dX7_is_9 : decode cX7_is 9 = .ok (.iconst 1, 1) := by decide +kernel
theorem dX7_is_10 : decode cX7_is 10 = .ok (.goto 4, 3) := by decide +kernel
theorem dX7_is_13 : decode cX7_is 13 = .ok (.iconst 0, 1) := by decide +kernel
theorem dX7_is_14 : decode cX7_is 14 = .ok (.ireturn, 1) := by decide +kernel
theorem dX7_refuse_0 : decode cX7_refuse 0 = .ok (.aload_n 0, 1) := by decide +kernel
theorem dX7_refuse_1 : decode cX7_refuse 1 = .ok (.iload_n 1, 1) := by decide +kernel
theorem dX7_refuse_2 : decode cX7_refuse 2 = .ok (.putfield 105, 3) := by decide +kernel
theorem dX7_refuse_5 : decode cX7_refuse 5 = .ok (.iconst (-1), 1) := by decide +kernel
theorem dX7_refuse_6 : decode cX7_refuse 6 = .ok (.ireturn, 1) := by decide +kernel
theorem dX7_isSheet_0 : decode cX7_isSheet 0 = .ok (.iload_n 0, 1) := by decide +kernel
theorem dX7_isSheet_1 : decode cX7_isSheet 1 = .ok (.ifCond .lt 13, 3) := by decide +kernel
theorem dX7_isSheet_4 : decode cX7_isSheet 4 = .ok (.iload_n 0, 1) := by decide +kernel
theorem dX7_isSheet_5 : decode cX7_isSheet 5 = .ok (.bipush 6, 2) := by decide +kernel
theorem dX7_isSheet_7 : decode cX7_isSheet 7 = .ok (.if_icmp .ge 7, 3) := by decide +kernel
theorem dX7_isSheet_10 : decode cX7_isSheet 10 = .ok (.iconst 1, 1) := by decide +kernel
theorem dX7_isSheet_11 : decode cX7_isSheet 11 = .ok (.goto 4, 3) := by decide +kernel
theorem dX7_isSheet_14 : decode cX7_isSheet 14 = .ok (.iconst 0, 1) := by decide +kernel
theorem dX7_isSheet_15 : decode cX7_isSheet 15 = .ok (.ireturn, 1) := by decide +kernel
theorem dX7_cut_0 : decode cX7_cut 0 = .ok (.iload_n 2, 1) := by decide +kernel
theorem dX7_cut_1 : decode cX7_cut 1 = .ok (.ifCond .ne 10, 3) := by decide +kernel
theorem dX7_cut_4 : decode cX7_cut 4 = .ok (.lload_n 0, 1) := by decide +kernel
theorem dX7_cut_5 : decode cX7_cut 5 = .ok (.l2i, 1) := by decide +kernel
theorem dX7_cut_6 : decode cX7_cut 6 = .ok (.i2b, 1) := by decide +kernel
theorem dX7_cut_7 : decode cX7_cut 7 = .ok (.i2l, 1) := by decide +kernel
theorem dX7_cut_8 : decode cX7_cut 8 = .ok (.goto 27, 3) := by decide +kernel
theorem dX7_cut_11 : decode cX7_cut 11 = .ok (.iload_n 2, 1) := by decide +kernel
theorem dX7_cut_12 : decode cX7_cut 12 = .ok (.iconst 1, 1) := by decide +kernel
theorem dX7_cut_13 : decode cX7_cut 13 = .ok (.if_icmp .ne 10, 3) := by decide +kernel
theorem dX7_cut_16 : decode cX7_cut 16 = .ok (.lload_n 0, 1) := by decide +kernel
theorem dX7_cut_17 : decode cX7_cut 17 = .ok (.l2i, 1) := by decide +kernel
theorem dX7_cut_18 : decode cX7_cut 18 = .ok (.i2s, 1) := by decide +kernel
theorem dX7_cut_19 : decode cX7_cut 19 = .ok (.i2l, 1) := by decide +kernel
theorem dX7_cut_20 : decode cX7_cut 20 = .ok (.goto 15, 3) := by decide +kernel
theorem dX7_cut_23 : decode cX7_cut 23 = .ok (.iload_n 2, 1) := by decide +kernel
theorem dX7_cut_24 : decode cX7_cut 24 = .ok (.iconst 2, 1) := by decide +kernel
theorem dX7_cut_25 : decode cX7_cut 25 = .ok (.if_icmp .ne 9, 3) := by decide +kernel
theorem dX7_cut_28 : decode cX7_cut 28 = .ok (.lload_n 0, 1) := by decide +kernel
theorem dX7_cut_29 : decode cX7_cut 29 = .ok (.l2i, 1) := by decide +kernel
theorem dX7_cut_30 : decode cX7_cut 30 = .ok (.i2l, 1) := by decide +kernel
theorem dX7_cut_31 : decode cX7_cut 31 = .ok (.goto 4, 3) := by decide +kernel
theorem dX7_cut_34 : decode cX7_cut 34 = .ok (.lload_n 0, 1) := by decide +kernel
theorem dX7_cut_35 : decode cX7_cut 35 = .ok (.lreturn, 1) := by decide +kernel
set_option maxRecDepth 20000 in
theorem ggX7_sheet_X7_isSheet : GoodIn wsX7_sheet wsX7_isSheet := goodIn_r _ [7] (by decide +kernel) (by decide +kernel)
set_option maxRecDepth 20000 in
theorem gX7_sheet_X7_isSheet : GoodIn wsX7_sheet (va_wsS RX7 109 yX7_isSheet wsX7_isSheet) := goodIn_app (goodIn_of _ (by decide +kernel)) ggX7_sheet_X7_isSheet
set_option maxRecDepth 20000 in
theorem ggX7_sheet_X7_is : GoodIn wsX7_sheet wsX7_is := goodIn_r _ [11, 12, 13, 14, 15, 16, 17, 18, 19, 20, 21, 22, 23, 24, 25, 26, 27, 28, 29, 30, 31, 32, 33, 34, 35, 36, 37, 38, 39, 40, 41, 42, 43, 44, 45, 46, 47, 48, 49, 50, 51, 52, 53, 54] (by decide +kernel) (by decide +kernel)
set_option maxRecDepth 20000 in
theorem gX7_sheet_X7_is : GoodIn wsX7_sheet (wsV RX7 113 RX7 yX7_is wsX7_is) := goodIn_app (goodIn_of _ (by decide +kernel)) ggX7_sheet_X7_is
theorem dX7_sheet_0 : decode cX7_sheet 0 = .ok (.iload_n 1, 1) := by decide +kernel
theorem dX7_sheet_1 : decode cX7_sheet 1 = .ok (.invokestatic 109, 3) := by decide +kernel
theorem dX7_sheet_4 : decode cX7_sheet 4 = .ok (.ifCond .eq 22, 3) := by decide +kernel
theorem dX7_sheet_7 : decode cX7_sheet 7 = .ok (.iload_n 2, 1) := by decide +kernel
theorem dX7_sheet_8 : decode cX7_sheet 8 = .ok (.ifCond .lt 18, 3) := by decide +kernel
theorem dX7_sheet_11 : decode cX7_sheet 11 = .ok (.iload_n 2, 1) := by decide +kernel
theorem dX7_sheet_12 : decode cX7_sheet 12 = .ok (.iconst 3, 1) := by decide +kernel
theorem dX7_sheet_13 : decode cX7_sheet 13 = .ok (.if_icmp .gt 13, 3) := by decide +kernel
theorem dX7_sheet_16 : decode cX7_sheet 16 = .ok (.iload_n 3, 1) := by decide +kernel
theorem dX7_sheet_17 : decode cX7_sheet 17 = .ok (.ifCond .lt 9, 3) := by decide +kernel
theorem dX7_sheet_20 : decode cX7_sheet 20 = .ok (.iload_n 3, 1) := by decide +kernel
theorem dX7_sheet_21 : decode cX7_sheet 21 = .ok (.bipush 64, 2) := by decide +kernel
theorem dX7_sheet_23 : decode cX7_sheet 23 = .ok (.if_icmp .le 9, 3) := by decide +kernel
theorem dX7_sheet_26 : decode cX7_sheet 26 = .ok (.aload_n 0, 1) := by decide +kernel
theorem dX7_sheet_27 : decode cX7_sheet 27 = .ok (.iconst 1, 1) := by decide +kernel
theorem dX7_sheet_28 : decode cX7_sheet 28 = .ok (.invokevirtual 113, 3) := by decide +kernel
theorem dX7_sheet_31 : decode cX7_sheet 31 = .ok (.ireturn, 1) := by decide +kernel
theorem dX7_sheet_32 : decode cX7_sheet 32 = .ok (.aload_n 0, 1) := by decide +kernel
theorem dX7_sheet_33 : decode cX7_sheet 33 = .ok (.getfield 7, 3) := by decide +kernel
theorem dX7_sheet_36 : decode cX7_sheet 36 = .ok (.iload_n 1, 1) := by decide +kernel
theorem dX7_sheet_37 : decode cX7_sheet 37 = .ok (.iload_n 2, 1) := by decide +kernel
theorem dX7_sheet_38 : decode cX7_sheet 38 = .ok (.iastore, 1) := by decide +kernel
theorem dX7_sheet_39 : decode cX7_sheet 39 = .ok (.aload_n 0, 1) := by decide +kernel
theorem dX7_sheet_40 : decode cX7_sheet 40 = .ok (.getfield 13, 3) := by decide +kernel
theorem dX7_sheet_43 : decode cX7_sheet 43 = .ok (.iload_n 1, 1) := by decide +kernel
theorem dX7_sheet_44 : decode cX7_sheet 44 = .ok (.iload_n 3, 1) := by decide +kernel
theorem dX7_sheet_45 : decode cX7_sheet 45 = .ok (.iastore, 1) := by decide +kernel
theorem dX7_sheet_46 : decode cX7_sheet 46 = .ok (.iconst 0, 1) := by decide +kernel
theorem dX7_sheet_47 : decode cX7_sheet 47 = .ok (.istore 4, 2) := by decide +kernel
theorem dX7_sheet_49 : decode cX7_sheet 49 = .ok (.iload 4, 2) := by decide +kernel
theorem dX7_sheet_51 : decode cX7_sheet 51 = .ok (.iload_n 3, 1) := by decide +kernel
theorem dX7_sheet_52 : decode cX7_sheet 52 = .ok (.if_icmp .ge 22, 3) := by decide +kernel
theorem dX7_sheet_55 : decode cX7_sheet 55 = .ok (.aload_n 0, 1) := by decide +kernel
theorem dX7_sheet_56 : decode cX7_sheet 56 = .ok (.getfield 16, 3) := by decide +kernel
theorem dX7_sheet_59 : decode cX7_sheet 59 = .ok (.bipush 64, 2) := by decide +kernel
theorem dX7_sheet_61 : decode cX7_sheet 61 = .ok (.iload_n 1, 1) := by decide +kernel
theorem dX7_sheet_62 : decode cX7_sheet 62 = .ok (.imul, 1) := by decide +kernel
theorem dX7_sheet_63 : decode cX7_sheet 63 = .ok (.iload 4, 2) := by decide +kernel
theorem dX7_sheet_65 : decode cX7_sheet 65 = .ok (.iadd, 1) := by decide +kernel
theorem dX7_sheet_66 : decode cX7_sheet 66 = .ok (.lconst 0, 1) := by decide +kernel
theorem dX7_sheet_67 : decode cX7_sheet 67 = .ok (.lastore, 1) := by decide +kernel
theorem dX7_sheet_68 : decode cX7_sheet 68 = .ok (.iinc 4 1, 3) := by decide +kernel
theorem dX7_sheet_71 : decode cX7_sheet 71 = .ok (.goto (-22), 3) := by decide +kernel
theorem dX7_sheet_74 : decode cX7_sheet 74 = .ok (.aload_n 0, 1) := by decide +kernel
theorem dX7_sheet_75 : decode cX7_sheet 75 = .ok (.iconst 0, 1) := by decide +kernel
theorem dX7_sheet_76 : decode cX7_sheet 76 = .ok (.invokevirtual 113, 3) := by decide +kernel
theorem dX7_sheet_79 : decode cX7_sheet 79 = .ok (.ireturn, 1) := by decide +kernel
set_option maxRecDepth 20000 in
theorem ggX7_wrong_X7_isSheet : GoodIn wsX7_wrong wsX7_isSheet := goodIn_r _ [5] (by decide +kernel) (by decide +kernel)
set_option maxRecDepth 20000 in
theorem gX7_wrong_X7_isSheet : GoodIn wsX7_wrong (va_wsS RX7 109 yX7_isSheet wsX7_isSheet) := goodIn_app (goodIn_of _ (by decide +kernel)) ggX7_wrong_X7_isSheet
theorem dX7_wrong_0 : decode cX7_wrong 0 = .ok (.iload_n 1, 1) := by decide +kernel
theorem dX7_wrong_1 : decode cX7_wrong 1 = .ok (.invokestatic 109, 3) := by decide +kernel
theorem dX7_wrong_4 : decode cX7_wrong 4 = .ok (.ifCond .ne 7, 3) := by decide +kernel
theorem dX7_wrong_7 : decode cX7_wrong 7 = .ok (.iconst 1, 1) := by decide +kernel
theorem dX7_wrong_8 : decode cX7_wrong 8 = .ok (.goto 36, 3) := by decide +kernel
theorem dX7_wrong_11 : decode cX7_wrong 11 = .ok (.aload_n 0, 1) := by decide +kernel
theorem dX7_wrong_12 : decode cX7_wrong 12 = .ok (.getfield 13, 3) := by decide +kernel
theorem dX7_wrong_15 : decode cX7_wrong 15 = .ok (.iload_n 1, 1) := by decide +kernel
theorem dX7_wrong_16 : decode cX7_wrong 16 = .ok (.iaload, 1) := by decide +kernel
theorem dX7_wrong_17 : decode cX7_wrong 17 = .ok (.iconst (-1), 1) := by decide +kernel
theorem dX7_wrong_18 : decode cX7_wrong 18 = .ok (.if_icmp .ne 7, 3) := by decide +kernel
theorem dX7_wrong_21 : decode cX7_wrong 21 = .ok (.iconst 2, 1) := by decide +kernel
theorem dX7_wrong_22 : decode cX7_wrong 22 = .ok (.goto 22, 3) := by decide +kernel
theorem dX7_wrong_25 : decode cX7_wrong 25 = .ok (.iload_n 2, 1) := by decide +kernel
theorem dX7_wrong_26 : decode cX7_wrong 26 = .ok (.ifCond .lt 13, 3) := by decide +kernel
theorem dX7_wrong_29 : decode cX7_wrong 29 = .ok (.iload_n 2, 1) := by decide +kernel
theorem dX7_wrong_30 : decode cX7_wrong 30 = .ok (.aload_n 0, 1) := by decide +kernel
theorem dX7_wrong_31 : decode cX7_wrong 31 = .ok (.getfield 13, 3) := by decide +kernel
theorem dX7_wrong_34 : decode cX7_wrong 34 = .ok (.iload_n 1, 1) := by decide +kernel
theorem dX7_wrong_35 : decode cX7_wrong 35 = .ok (.iaload, 1) := by decide +kernel
theorem dX7_wrong_36 : decode cX7_wrong 36 = .ok (.if_icmp .lt 7, 3) := by decide +kernel
theorem dX7_wrong_39 : decode cX7_wrong 39 = .ok (.iconst 3, 1) := by decide +kernel
theorem dX7_wrong_40 : decode cX7_wrong 40 = .ok (.goto 4, 3) := by decide +kernel
theorem dX7_wrong_43 : decode cX7_wrong 43 = .ok (.iconst 0, 1) := by decide +kernel
theorem dX7_wrong_44 : decode cX7_wrong 44 = .ok (.ireturn, 1) := by decide +kernel
set_option maxRecDepth 20000 in
theorem ggX7_write_X7_wrong : GoodIn wsX7_write wsX7_wrong := goodIn_r _ [7, 8, 9, 10, 6, 11, 20, 21, 22, 23, 24, 25, 26, 27, 28, 29, 30, 31, 32, 33, 34, 35, 36, 37, 38, 39, 40, 41, 42, 43, 44, 45, 46, 47, 48, 49, 50, 51, 52, 53, 54, 55, 56, 57, 58, 59, 60, 61] (by decide +kernel) (by decide +kernel)
set_option maxRecDepth 20000 in
theorem gX7_write_X7_wrong : GoodIn wsX7_write (wsV RX7 116 RX7 yX7_wrong wsX7_wrong) := goodIn_app (goodIn_of _ (by decide +kernel)) ggX7_write_X7_wrong
set_option maxRecDepth 20000 in
theorem ggX7_write_X7_cut : GoodIn wsX7_write wsX7_cut := goodIn_r _ [14] (by decide +kernel) (by decide +kernel)
set_option maxRecDepth 20000 in
theorem gX7_write_X7_cut : GoodIn wsX7_write (va_wsS RX7 120 yX7_cut wsX7_cut) := goodIn_app (goodIn_of _ (by decide +kernel)) ggX7_write_X7_cut
set_option maxRecDepth 20000 in
theorem ggX7_write_X7_is : GoodIn wsX7_write wsX7_is := goodIn_r _ [18, 19, 20, 21, 22, 23, 24, 25, 26, 27, 28, 29, 30, 31, 32, 33, 34, 35, 36, 37, 38, 39, 40, 41, 42, 43, 44, 45, 46, 47, 48, 49, 50, 51, 52, 53, 54, 55, 56, 57, 58, 59, 60, 61] (by decide +kernel) (by decide +kernel)
set_option maxRecDepth 20000 in
theorem gX7_write_X7_is : GoodIn wsX7_write (wsV RX7 113 RX7 yX7_is wsX7_is) := goodIn_app (goodIn_of _ (by decide +kernel)) ggX7_write_X7_is
theorem dX7_write_0 : decode cX7_write 0 = .ok (.aload_n 0, 1) := by decide +kernel
theorem dX7_write_1 : decode cX7_write 1 = .ok (.iload_n 1, 1) := by decide +kernel
theorem dX7_write_2 : decode cX7_write 2 = .ok (.iload_n 2, 1) := by decide +kernel
theorem dX7_write_3 : decode cX7_write 3 = .ok (.invokevirtual 116, 3) := by decide +kernel
theorem dX7_write_6 : decode cX7_write 6 = .ok (.istore 5, 2) := by decide +kernel
theorem dX7_write_8 : decode cX7_write 8 = .ok (.iload 5, 2) := by decide +kernel
theorem dX7_write_10 : decode cX7_write 10 = .ok (.ifCond .ne 24, 3) := by decide +kernel
theorem dX7_write_13 : decode cX7_write 13 = .ok (.aload_n 0, 1) := by decide +kernel
theorem dX7_write_14 : decode cX7_write 14 = .ok (.getfield 16, 3) := by decide +kernel
theorem dX7_write_17 : decode cX7_write 17 = .ok (.bipush 64, 2) := by decide +kernel
theorem dX7_write_19 : decode cX7_write 19 = .ok (.iload_n 1, 1) := by decide +kernel
theorem dX7_write_20 : decode cX7_write 20 = .ok (.imul, 1) := by decide +kernel
theorem dX7_write_21 : decode cX7_write 21 = .ok (.iload_n 2, 1) := by decide +kernel
theorem dX7_write_22 : decode cX7_write 22 = .ok (.iadd, 1) := by decide +kernel
theorem dX7_write_23 : decode cX7_write 23 = .ok (.lload_n 3, 1) := by decide +kernel
theorem dX7_write_24 : decode cX7_write 24 = .ok (.aload_n 0, 1) := by decide +kernel
theorem dX7_write_25 : decode cX7_write 25 = .ok (.getfield 7, 3) := by decide +kernel
theorem dX7_write_28 : decode cX7_write 28 = .ok (.iload_n 1, 1) := by decide +kernel
theorem dX7_write_29 : decode cX7_write 29 = .ok (.iaload, 1) := by decide +kernel
theorem dX7_write_30 : decode cX7_write 30 = .ok (.invokestatic 120, 3) := by decide +kernel
theorem dX7_write_33 : decode cX7_write 33 = .ok (.lastore, 1) := by decide +kernel
theorem dX7_write_34 : decode cX7_write 34 = .ok (.aload_n 0, 1) := by decide +kernel
theorem dX7_write_35 : decode cX7_write 35 = .ok (.iload 5, 2) := by decide +kernel
theorem dX7_write_37 : decode cX7_write 37 = .ok (.invokevirtual 113, 3) := by decide +kernel
theorem dX7_write_40 : decode cX7_write 40 = .ok (.ireturn, 1) := by decide +kernel
set_option maxRecDepth 20000 in
theorem ggX7_read_X7_wrong : GoodIn wsX7_read wsX7_wrong := goodIn_r _ [8, 9, 10, 11, 7, 12, 13, 14, 15, 16, 17, 18, 19, 20, 21, 22, 23, 24, 25, 26, 27, 28, 29, 30, 31, 32, 33, 34, 35, 36, 37, 38, 39, 40, 41, 42, 43, 44, 45, 46, 47, 48, 49, 50, 51, 52, 53, 54] (by decide +kernel) (by decide +kernel)
set_option maxRecDepth 20000 in
theorem gX7_read_X7_wrong : GoodIn wsX7_read (wsV RX7 116 RX7 yX7_wrong wsX7_wrong) := goodIn_app (goodIn_of _ (by decide +kernel)) ggX7_read_X7_wrong
theorem dX7_read_0 : decode cX7_read 0 = .ok (.aload_n 0, 1) := by decide +kernel
theorem dX7_read_1 : decode cX7_read 1 = .ok (.aload_n 0, 1) := by decide +kernel
theorem dX7_read_2 : decode cX7_read 2 = .ok (.iload_n 1, 1) := by decide +kernel
theorem dX7_read_3 : decode cX7_read 3 = .ok (.iload_n 2, 1) := by decide +kernel
theorem dX7_read_4 : decode cX7_read 4 = .ok (.invokevirtual 116, 3) := by decide +kernel
theorem dX7_read_7 : decode cX7_read 7 = .ok (.putfield 105, 3) := by decide +kernel
theorem dX7_read_10 : decode cX7_read 10 = .ok (.aload_n 0, 1) := by decide +kernel
theorem dX7_read_11 : decode cX7_read 11 = .ok (.getfield 105, 3) := by decide +kernel
theorem dX7_read_14 : decode cX7_read 14 = .ok (.ifCond .le 9, 3) := by decide +kernel
theorem dX7_read_17 : decode cX7_read 17 = .ok (.ldc2_w 124, 3) := by decide +kernel
theorem dX7_read_20 : decode cX7_read 20 = .ok (.goto 14, 3) := by decide +kernel
theorem dX7_read_23 : decode cX7_read 23 = .ok (.aload_n 0, 1) := by decide +kernel
theorem dX7_read_24 : decode cX7_read 24 = .ok (.getfield 16, 3) := by decide +kernel
theorem dX7_read_27 : decode cX7_read 27 = .ok (.bipush 64, 2) := by decide +kernel
theorem dX7_read_29 : decode cX7_read 29 = .ok (.iload_n 1, 1) := by decide +kernel
theorem dX7_read_30 : decode cX7_read 30 = .ok (.imul, 1) := by decide +kernel
theorem dX7_read_31 : decode cX7_read 31 = .ok (.iload_n 2, 1) := by decide +kernel
theorem dX7_read_32 : decode cX7_read 32 = .ok (.iadd, 1) := by decide +kernel
theorem dX7_read_33 : decode cX7_read 33 = .ok (.laload, 1) := by decide +kernel
theorem dX7_read_34 : decode cX7_read 34 = .ok (.lreturn, 1) := by decide +kernel
set_option maxRecDepth 20000 in
theorem ggX7_copy_X7_isSheet : GoodIn wsX7_copy wsX7_isSheet := goodIn_r _ [7] (by decide +kernel) (by decide +kernel)
set_option maxRecDepth 20000 in
theorem gX7_copy_X7_isSheet : GoodIn wsX7_copy (va_wsS RX7 109 yX7_isSheet wsX7_isSheet) := goodIn_app (goodIn_of _ (by decide +kernel)) ggX7_copy_X7_isSheet
set_option maxRecDepth 20000 in
theorem ggX7_copy_X7_is : GoodIn wsX7_copy wsX7_is := goodIn_r _ [11, 12, 16, 17, 18, 19, 20, 21, 22, 23, 24, 25, 26, 27, 28, 29, 30, 31, 32, 33, 34, 35, 36, 37, 38, 39, 40, 41, 42, 43, 44, 45, 46, 47, 48, 49, 50, 51, 52, 53, 54, 55, 56, 57] (by decide +kernel) (by decide +kernel)
set_option maxRecDepth 20000 in
theorem gX7_copy_X7_is : GoodIn wsX7_copy (wsV RX7 113 RX7 yX7_is wsX7_is) := goodIn_app (goodIn_of _ (by decide +kernel)) ggX7_copy_X7_is
set_option maxRecDepth 20000 in
theorem ggX7_copy_X7_cut : GoodIn wsX7_copy wsX7_cut := goodIn_r _ [15] (by decide +kernel) (by decide +kernel)
set_option maxRecDepth 20000 in
theorem gX7_copy_X7_cut : GoodIn wsX7_copy (va_wsS RX7 120 yX7_cut wsX7_cut) := goodIn_app (goodIn_of _ (by decide +kernel)) ggX7_copy_X7_cut
theorem dX7_copy_0 : decode cX7_copy 0 = .ok (.iload_n 1, 1) := by decide +kernel
theorem dX7_copy_1 : decode cX7_copy 1 = .ok (.invokestatic 109, 3) := by decide +kernel
theorem dX7_copy_4 : decode cX7_copy 4 = .ok (.ifCond .eq 24, 3) := by decide +kernel
theorem dX7_copy_7 : decode cX7_copy 7 = .ok (.iload_n 3, 1) := by decide +kernel
theorem dX7_copy_8 : decode cX7_copy 8 = .ok (.invokestatic 109, 3) := by decide +kernel
theorem dX7_copy_11 : decode cX7_copy 11 = .ok (.ifCond .eq 17, 3) := by decide +kernel
theorem dX7_copy_14 : decode cX7_copy 14 = .ok (.iload_n 2, 1) := by decide +kernel
theorem dX7_copy_15 : decode cX7_copy 15 = .ok (.ifCond .lt 13, 3) := by decide +kernel
theorem dX7_copy_18 : decode cX7_copy 18 = .ok (.iload 4, 2) := by decide +kernel
theorem dX7_copy_20 : decode cX7_copy 20 = .ok (.ifCond .lt 8, 3) := by decide +kernel
theorem dX7_copy_23 : decode cX7_copy 23 = .ok (.iload 5, 2) := by decide +kernel
theorem dX7_copy_25 : decode cX7_copy 25 = .ok (.ifCond .ge 9, 3) := by decide +kernel
theorem dX7_copy_28 : decode cX7_copy 28 = .ok (.aload_n 0, 1) := by decide +kernel
theorem dX7_copy_29 : decode cX7_copy 29 = .ok (.iconst 1, 1) := by decide +kernel
theorem dX7_copy_30 : decode cX7_copy 30 = .ok (.invokevirtual 113, 3) := by decide +kernel
theorem dX7_copy_33 : decode cX7_copy 33 = .ok (.ireturn, 1) := by decide +kernel
theorem dX7_copy_34 : decode cX7_copy 34 = .ok (.aload_n 0, 1) := by decide +kernel
theorem dX7_copy_35 : decode cX7_copy 35 = .ok (.getfield 13, 3) := by decide +kernel
theorem dX7_copy_38 : decode cX7_copy 38 = .ok (.iload_n 1, 1) := by decide +kernel
theorem dX7_copy_39 : decode cX7_copy 39 = .ok (.iaload, 1) := by decide +kernel
theorem dX7_copy_40 : decode cX7_copy 40 = .ok (.iconst (-1), 1) := by decide +kernel
theorem dX7_copy_41 : decode cX7_copy 41 = .ok (.if_icmp .eq 13, 3) := by decide +kernel
theorem dX7_copy_44 : decode cX7_copy 44 = .ok (.aload_n 0, 1) := by decide +kernel
theorem dX7_copy_45 : decode cX7_copy 45 = .ok (.getfield 13, 3) := by decide +kernel
theorem dX7_copy_48 : decode cX7_copy 48 = .ok (.iload_n 3, 1) := by decide +kernel
theorem dX7_copy_49 : decode cX7_copy 49 = .ok (.iaload, 1) := by decide +kernel
theorem dX7_copy_50 : decode cX7_copy 50 = .ok (.iconst (-1), 1) := by decide +kernel
theorem dX7_copy_51 : decode cX7_copy 51 = .ok (.if_icmp .ne 9, 3) := by decide +kernel
theorem dX7_copy_54 : decode cX7_copy 54 = .ok (.aload_n 0, 1) := by decide +kernel
theorem dX7_copy_55 : decode cX7_copy 55 = .ok (.iconst 2, 1) := by decide +kernel
theorem dX7_copy_56 : decode cX7_copy 56 = .ok (.invokevirtual 113, 3) := by decide +kernel
theorem dX7_copy_59 : decode cX7_copy 59 = .ok (.ireturn, 1) := by decide +kernel
theorem dX7_copy_60 : decode cX7_copy 60 = .ok (.iload 5, 2) := by decide +kernel
theorem dX7_copy_62 : decode cX7_copy 62 = .ok (.aload_n 0, 1) := by decide +kernel
theorem dX7_copy_63 : decode cX7_copy 63 = .ok (.getfield 13, 3) := by decide +kernel
theorem dX7_copy_66 : decode cX7_copy 66 = .ok (.iload_n 1, 1) := by decide +kernel
theorem dX7_copy_67 : decode cX7_copy 67 = .ok (.iaload, 1) := by decide +kernel
theorem dX7_copy_68 : decode cX7_copy 68 = .ok (.iload_n 2, 1) := by decide +kernel
theorem dX7_copy_69 : decode cX7_copy 69 = .ok (.isub, 1) := by decide +kernel
theorem dX7_copy_70 : decode cX7_copy 70 = .ok (.if_icmp .gt 17, 3) := by decide +kernel
theorem dX7_copy_73 : decode cX7_copy 73 = .ok (.iload 5, 2) := by decide +kernel
theorem dX7_copy_75 : decode cX7_copy 75 = .ok (.aload_n 0, 1) := by decide +kernel
theorem dX7_copy_76 : decode cX7_copy 76 = .ok (.getfield 13, 3) := by decide +kernel
theorem dX7_copy_79 : decode cX7_copy 79 = .ok (.iload_n 3, 1) := by decide +kernel
theorem dX7_copy_80 : decode cX7_copy 80 = .ok (.iaload, 1) := by decide +kernel
theorem dX7_copy_81 : decode cX7_copy 81 = .ok (.iload 4, 2) := by decide +kernel
theorem dX7_copy_83 : decode cX7_copy 83 = .ok (.isub, 1) := by decide +kernel
theorem dX7_copy_84 : decode cX7_copy 84 = .ok (.if_icmp .le 9, 3) := by decide +kernel
theorem dX7_copy_87 : decode cX7_copy 87 = .ok (.aload_n 0, 1) := by decide +kernel
theorem dX7_copy_88 : decode cX7_copy 88 = .ok (.iconst 3, 1) := by decide +kernel
theorem dX7_copy_89 : decode cX7_copy 89 = .ok (.invokevirtual 113, 3) := by decide +kernel
theorem dX7_copy_92 : decode cX7_copy 92 = .ok (.ireturn, 1) := by decide +kernel
theorem dX7_copy_93 : decode cX7_copy 93 = .ok (.iconst 0, 1) := by decide +kernel
theorem dX7_copy_94 : decode cX7_copy 94 = .ok (.istore 6, 2) := by decide +kernel
theorem dX7_copy_96 : decode cX7_copy 96 = .ok (.iload 6, 2) := by decide +kernel
theorem dX7_copy_98 : decode cX7_copy 98 = .ok (.iload 5, 2) := by decide +kernel
theorem dX7_copy_100 : decode cX7_copy 100 = .ok (.if_icmp .ge 67, 3) := by decide +kernel
theorem dX7_copy_103 : decode cX7_copy 103 = .ok (.iload_n 2, 1) := by decide +kernel
theorem dX7_copy_104 : decode cX7_copy 104 = .ok (.iload 4, 2) := by decide +kernel
theorem dX7_copy_106 : decode cX7_copy 106 = .ok (.if_icmp .ge 13, 3) := by decide +kernel
theorem dX7_copy_109 : decode cX7_copy 109 = .ok (.iload 5, 2) := by decide +kernel
theorem dX7_copy_111 : decode cX7_copy 111 = .ok (.iconst 1, 1) := by decide +kernel
theorem dX7_copy_112 : decode cX7_copy 112 = .ok (.isub, 1) := by decide +kernel
theorem dX7_copy_113 : decode cX7_copy 113 = .ok (.iload 6, 2) := by decide +kernel
theorem dX7_copy_115 : decode cX7_copy 115 = .ok (.isub, 1) := by decide +kernel
theorem dX7_copy_116 : decode cX7_copy 116 = .ok (.goto 5, 3) := by decide +kernel
theorem dX7_copy_119 : decode cX7_copy 119 = .ok (.iload 6, 2) := by decide +kernel
theorem dX7_copy_121 : decode cX7_copy 121 = .ok (.istore 7, 2) := by decide +kernel
theorem dX7_copy_123 : decode cX7_copy 123 = .ok (.aload_n 0, 1) := by decide +kernel
theorem dX7_copy_124 : decode cX7_copy 124 = .ok (.getfield 16, 3) := by decide +kernel
theorem dX7_copy_127 : decode cX7_copy 127 = .ok (.bipush 64, 2) := by decide +kernel
theorem dX7_copy_129 : decode cX7_copy 129 = .ok (.iload_n 3, 1) := by decide +kernel
theorem dX7_copy_130 : decode cX7_copy 130 = .ok (.imul, 1) := by decide +kernel
theorem dX7_copy_131 : decode cX7_copy 131 = .ok (.iload 4, 2) := by decide +kernel
theorem dX7_copy_133 : decode cX7_copy 133 = .ok (.iadd, 1) := by decide +kernel
theorem dX7_copy_134 : decode cX7_copy 134 = .ok (.iload 7, 2) := by decide +kernel
theorem dX7_copy_136 : decode cX7_copy 136 = .ok (.iadd, 1) := by decide +kernel
theorem dX7_copy_137 : decode cX7_copy 137 = .ok (.aload_n 0, 1) := by decide +kernel
theorem dX7_copy_138 : decode cX7_copy 138 = .ok (.getfield 16, 3) := by decide +kernel
theorem dX7_copy_141 : decode cX7_copy 141 = .ok (.bipush 64, 2) := by decide +kernel
theorem dX7_copy_143 : decode cX7_copy 143 = .ok (.iload_n 1, 1) := by decide +kernel
theorem dX7_copy_144 : decode cX7_copy 144 = .ok (.imul, 1) := by decide +kernel
theorem dX7_copy_145 : decode cX7_copy 145 = .ok (.iload_n 2, 1) := by decide +kernel
theorem dX7_copy_146 : decode cX7_copy 146 = .ok (.iadd, 1) := by decide +kernel
theorem dX7_copy_147 : decode cX7_copy 147 = .ok (.iload 7, 2) := by decide +kernel
theorem dX7_copy_149 : decode cX7_copy 149 = .ok (.iadd, 1) := by decide +kernel
theorem dX7_copy_150 : decode cX7_copy 150 = .ok (.laload, 1) := by decide +kernel
theorem dX7_copy_151 : decode cX7_copy 151 = .ok (.aload_n 0, 1) := by decide +kernel
theorem dX7_copy_152 : decode cX7_copy 152 = .ok (.getfield 7, 3) := by decide +kernel
theorem dX7_copy_155 : decode cX7_copy 155 = .ok (.iload_n 3, 1) := by decide +kernel
theorem dX7_copy_156 : decode cX7_copy 156 = .ok (.iaload, 1) := by decide +kernel
theorem dX7_copy_157 : decode cX7_copy 157 = .ok (.invokestatic 120, 3) := by decide +kernel
theorem dX7_copy_160 : decode cX7_copy 160 = .ok (.lastore, 1) := by decide +kernel
theorem dX7_copy_161 : decode cX7_copy 161 = .ok (.iinc 6 1, 3) := by decide +kernel
theorem dX7_copy_164 : decode cX7_copy 164 = .ok (.goto (-68), 3) := by decide +kernel
theorem dX7_copy_167 : decode cX7_copy 167 = .ok (.aload_n 0, 1) := by decide +kernel
theorem dX7_copy_168 : decode cX7_copy 168 = .ok (.iconst 0, 1) := by decide +kernel
theorem dX7_copy_169 : decode cX7_copy 169 = .ok (.invokevirtual 113, 3) := by decide +kernel
theorem dX7_copy_172 : decode cX7_copy 172 = .ok (.ireturn, 1) := by decide +kernel
set_option maxRecDepth 20000 in
theorem ggX7_drop_X7_isSheet : GoodIn wsX7_drop wsX7_isSheet := goodIn_r _ [5] (by decide +kernel) (by decide +kernel)
set_option maxRecDepth 20000 in
theorem gX7_drop_X7_isSheet : GoodIn wsX7_drop (va_wsS RX7 109 yX7_isSheet wsX7_isSheet) := goodIn_app (goodIn_of _ (by decide +kernel)) ggX7_drop_X7_isSheet
set_option maxRecDepth 20000 in
theorem ggX7_drop_X7_is : GoodIn wsX7_drop wsX7_is := goodIn_r _ [9, 10, 11, 12, 13, 14, 15, 16, 17, 18, 19, 20, 21, 22, 23, 24, 25, 26, 27, 28, 29, 30, 31, 32, 33, 34, 35, 36, 37, 38, 39, 40, 41, 42, 43, 44, 45, 46, 47, 48, 49, 50, 51, 52] (by decide +kernel) (by decide +kernel)
set_option maxRecDepth 20000 in
theorem gX7_drop_X7_is : GoodIn wsX7_drop (wsV RX7 113 RX7 yX7_is wsX7_is) := goodIn_app (goodIn_of _ (by decide +kernel)) ggX7_drop_X7_is
theorem dX7_drop_0 : decode cX7_drop 0 = .ok (.iload_n 1, 1) := by decide +kernel
theorem dX7_drop_1 : decode cX7_drop 1 = .ok (.invokestatic 109, 3) := by decide +kernel
theorem dX7_drop_4 : decode cX7_drop 4 = .ok (.ifCond .ne 9, 3) := by decide +kernel
theorem dX7_drop_7 : decode cX7_drop 7 = .ok (.aload_n 0, 1) := by decide +kernel
theorem dX7_drop_8 : decode cX7_drop 8 = .ok (.iconst 1, 1) := by decide +kernel
theorem dX7_drop_9 : decode cX7_drop 9 = .ok (.invokevirtual 113, 3) := by decide +kernel
theorem dX7_drop_12 : decode cX7_drop 12 = .ok (.ireturn, 1) := by decide +kernel
theorem dX7_drop_13 : decode cX7_drop 13 = .ok (.aload_n 0, 1) := by decide +kernel
theorem dX7_drop_14 : decode cX7_drop 14 = .ok (.getfield 13, 3) := by decide +kernel
theorem dX7_drop_17 : decode cX7_drop 17 = .ok (.iload_n 1, 1) := by decide +kernel
theorem dX7_drop_18 : decode cX7_drop 18 = .ok (.iaload, 1) := by decide +kernel
theorem dX7_drop_19 : decode cX7_drop 19 = .ok (.iconst (-1), 1) := by decide +kernel
theorem dX7_drop_20 : decode cX7_drop 20 = .ok (.if_icmp .ne 9, 3) := by decide +kernel
theorem dX7_drop_23 : decode cX7_drop 23 = .ok (.aload_n 0, 1) := by decide +kernel
theorem dX7_drop_24 : decode cX7_drop 24 = .ok (.iconst 2, 1) := by decide +kernel
theorem dX7_drop_25 : decode cX7_drop 25 = .ok (.invokevirtual 113, 3) := by decide +kernel
theorem dX7_drop_28 : decode cX7_drop 28 = .ok (.ireturn, 1) := by decide +kernel
theorem dX7_drop_29 : decode cX7_drop 29 = .ok (.aload_n 0, 1) := by decide +kernel
theorem dX7_drop_30 : decode cX7_drop 30 = .ok (.getfield 13, 3) := by decide +kernel
theorem dX7_drop_33 : decode cX7_drop 33 = .ok (.iload_n 1, 1) := by decide +kernel
theorem dX7_drop_34 : decode cX7_drop 34 = .ok (.iconst (-1), 1) := by decide +kernel
theorem dX7_drop_35 : decode cX7_drop 35 = .ok (.iastore, 1) := by decide +kernel
theorem dX7_drop_36 : decode cX7_drop 36 = .ok (.aload_n 0, 1) := by decide +kernel
theorem dX7_drop_37 : decode cX7_drop 37 = .ok (.iconst 0, 1) := by decide +kernel
theorem dX7_drop_38 : decode cX7_drop 38 = .ok (.invokevirtual 113, 3) := by decide +kernel
theorem dX7_drop_41 : decode cX7_drop 41 = .ok (.ireturn, 1) := by decide +kernel
set_option maxRecDepth 20000 in
theorem ggX7_none_X7_is : GoodIn wsX7_none wsX7_is := goodIn_r _ [5, 6, 7, 8, 9, 10, 11, 12, 13, 14, 15, 16, 17, 18, 19, 20, 21, 22, 23, 24, 25, 26, 27, 28, 29, 30, 31, 32, 33, 34, 35, 36, 37, 38, 39, 40, 41, 42, 43, 44, 45, 46, 47, 48] (by decide +kernel) (by decide +kernel)
set_option maxRecDepth 20000 in
theorem gX7_none_X7_is : GoodIn wsX7_none (wsV RX7 113 RX7 yX7_is wsX7_is) := goodIn_app (goodIn_of _ (by decide +kernel)) ggX7_none_X7_is
theorem dX7_none_0 : decode cX7_none 0 = .ok (.aload_n 0, 1) := by decide +kernel
theorem dX7_none_1 : decode cX7_none 1 = .ok (.bipush 8, 2) := by decide +kernel
theorem dX7_none_3 : decode cX7_none 3 = .ok (.invokevirtual 113, 3) := by decide +kernel
theorem dX7_none_6 : decode cX7_none 6 = .ok (.ireturn, 1) := by decide +kernel
set_option maxRecDepth 20000 in
theorem ggX7_wrongNumbers_X7_isSheet : GoodIn wsX7_wrongNumbers wsX7_isSheet := goodIn_r _ [6] (by decide +kernel) (by decide +kernel)
set_option maxRecDepth 20000 in
theorem gX7_wrongNumbers_X7_isSheet : GoodIn wsX7_wrongNumbers (va_wsS RX7 109 yX7_isSheet wsX7_isSheet) := goodIn_app (goodIn_of _ (by decide +kernel)) ggX7_wrongNumbers_X7_isSheet
theorem dX7_wrongNumbers_0 : decode cX7_wrongNumbers 0 = .ok (.iload_n 1, 1) := by decide +kernel
theorem dX7_wrongNumbers_1 : decode cX7_wrongNumbers 1 = .ok (.invokestatic 109, 3) := by decide +kernel
theorem dX7_wrongNumbers_4 : decode cX7_wrongNumbers 4 = .ok (.ifCond .ne 5, 3) := by decide +kernel
theorem dX7_wrongNumbers_7 : decode cX7_wrongNumbers 7 = .ok (.iconst 1, 1) := by decide +kernel
theorem dX7_wrongNumbers_8 : decode cX7_wrongNumbers 8 = .ok (.ireturn, 1) := by decide +kernel
theorem dX7_wrongNumbers_9 : decode cX7_wrongNumbers 9 = .ok (.aload_n 0, 1) := by decide +kernel
theorem dX7_wrongNumbers_10 : decode cX7_wrongNumbers 10 = .ok (.getfield 13, 3) := by decide +kernel
theorem dX7_wrongNumbers_13 : decode cX7_wrongNumbers 13 = .ok (.iload_n 1, 1) := by decide +kernel
theorem dX7_wrongNumbers_14 : decode cX7_wrongNumbers 14 = .ok (.iaload, 1) := by decide +kernel
theorem dX7_wrongNumbers_15 : decode cX7_wrongNumbers 15 = .ok (.iconst (-1), 1) := by decide +kernel
theorem dX7_wrongNumbers_16 : decode cX7_wrongNumbers 16 = .ok (.if_icmp .ne 5, 3) := by decide +kernel
theorem dX7_wrongNumbers_19 : decode cX7_wrongNumbers 19 = .ok (.iconst 2, 1) := by decide +kernel
theorem dX7_wrongNumbers_20 : decode cX7_wrongNumbers 20 = .ok (.ireturn, 1) := by decide +kernel
theorem dX7_wrongNumbers_21 : decode cX7_wrongNumbers 21 = .ok (.aload_n 0, 1) := by decide +kernel
theorem dX7_wrongNumbers_22 : decode cX7_wrongNumbers 22 = .ok (.getfield 13, 3) := by decide +kernel
theorem dX7_wrongNumbers_25 : decode cX7_wrongNumbers 25 = .ok (.iload_n 1, 1) := by decide +kernel
theorem dX7_wrongNumbers_26 : decode cX7_wrongNumbers 26 = .ok (.iaload, 1) := by decide +kernel
theorem dX7_wrongNumbers_27 : decode cX7_wrongNumbers 27 = .ok (.iload_n 2, 1) := by decide +kernel
theorem dX7_wrongNumbers_28 : decode cX7_wrongNumbers 28 = .ok (.if_icmp .ge 5, 3) := by decide +kernel
theorem dX7_wrongNumbers_31 : decode cX7_wrongNumbers 31 = .ok (.iconst 3, 1) := by decide +kernel
theorem dX7_wrongNumbers_32 : decode cX7_wrongNumbers 32 = .ok (.ireturn, 1) := by decide +kernel
theorem dX7_wrongNumbers_33 : decode cX7_wrongNumbers 33 = .ok (.iconst 0, 1) := by decide +kernel
theorem dX7_wrongNumbers_34 : decode cX7_wrongNumbers 34 = .ok (.istore 5, 2) := by decide +kernel
theorem dX7_wrongNumbers_36 : decode cX7_wrongNumbers 36 = .ok (.iload 5, 2) := by decide +kernel
theorem dX7_wrongNumbers_38 : decode cX7_wrongNumbers 38 = .ok (.iload_n 2, 1) := by decide +kernel
theorem dX7_wrongNumbers_39 : decode cX7_wrongNumbers 39 = .ok (.if_icmp .ge 45, 3) := by decide +kernel
theorem dX7_wrongNumbers_42 : decode cX7_wrongNumbers 42 = .ok (.aload_n 0, 1) := by decide +kernel
theorem dX7_wrongNumbers_43 : decode cX7_wrongNumbers 43 = .ok (.getfield 16, 3) := by decide +kernel
theorem dX7_wrongNumbers_46 : decode cX7_wrongNumbers 46 = .ok (.bipush 64, 2) := by decide +kernel
theorem dX7_wrongNumbers_48 : decode cX7_wrongNumbers 48 = .ok (.iload_n 1, 1) := by decide +kernel
theorem dX7_wrongNumbers_49 : decode cX7_wrongNumbers 49 = .ok (.imul, 1) := by decide +kernel
theorem dX7_wrongNumbers_50 : decode cX7_wrongNumbers 50 = .ok (.iload 5, 2) := by decide +kernel
theorem dX7_wrongNumbers_52 : decode cX7_wrongNumbers 52 = .ok (.iadd, 1) := by decide +kernel
theorem dX7_wrongNumbers_53 : decode cX7_wrongNumbers 53 = .ok (.laload, 1) := by decide +kernel
theorem dX7_wrongNumbers_54 : decode cX7_wrongNumbers 54 = .ok (.lconst 0, 1) := by decide +kernel
theorem dX7_wrongNumbers_55 : decode cX7_wrongNumbers 55 = .ok (.lcmp, 1) := by decide +kernel
theorem dX7_wrongNumbers_56 : decode cX7_wrongNumbers 56 = .ok (.ifCond .lt 20, 3) := by decide +kernel
theorem dX7_wrongNumbers_59 : decode cX7_wrongNumbers 59 = .ok (.aload_n 0, 1) := by decide +kernel
theorem dX7_wrongNumbers_60 : decode cX7_wrongNumbers 60 = .ok (.getfield 16, 3) := by decide +kernel
theorem dX7_wrongNumbers_63 : decode cX7_wrongNumbers 63 = .ok (.bipush 64, 2) := by decide +kernel
theorem dX7_wrongNumbers_65 : decode cX7_wrongNumbers 65 = .ok (.iload_n 1, 1) := by decide +kernel
theorem dX7_wrongNumbers_66 : decode cX7_wrongNumbers 66 = .ok (.imul, 1) := by decide +kernel
theorem dX7_wrongNumbers_67 : decode cX7_wrongNumbers 67 = .ok (.iload 5, 2) := by decide +kernel
theorem dX7_wrongNumbers_69 : decode cX7_wrongNumbers 69 = .ok (.iadd, 1) := by decide +kernel
theorem dX7_wrongNumbers_70 : decode cX7_wrongNumbers 70 = .ok (.laload, 1) := by decide +kernel
theorem dX7_wrongNumbers_71 : decode cX7_wrongNumbers 71 = .ok (.lload_n 3, 1) := by decide +kernel
theorem dX7_wrongNumbers_72 : decode cX7_wrongNumbers 72 = .ok (.lcmp, 1) := by decide +kernel
theorem dX7_wrongNumbers_73 : decode cX7_wrongNumbers 73 = .ok (.ifCond .le 5, 3) := by decide +kernel
theorem dX7_wrongNumbers_76 : decode cX7_wrongNumbers 76 = .ok (.iconst 1, 1) := by decide +kernel
theorem dX7_wrongNumbers_77 : decode cX7_wrongNumbers 77 = .ok (.ireturn, 1) := by decide +kernel
theorem dX7_wrongNumbers_78 : decode cX7_wrongNumbers 78 = .ok (.iinc 5 1, 3) := by decide +kernel
theorem dX7_wrongNumbers_81 : decode cX7_wrongNumbers 81 = .ok (.goto (-45), 3) := by decide +kernel
theorem dX7_wrongNumbers_84 : decode cX7_wrongNumbers 84 = .ok (.iconst 0, 1) := by decide +kernel
theorem dX7_wrongNumbers_85 : decode cX7_wrongNumbers 85 = .ok (.ireturn, 1) := by decide +kernel
set_option maxRecDepth 20000 in
theorem ggX7_machine_X7_refuse : GoodIn wsX7_machine wsX7_refuse := goodIn_r _ [10, 5, 11, 12, 13, 14, 15, 16, 17, 18, 19, 20, 21, 22, 23, 24, 25, 26, 27, 28, 29, 30, 31, 32, 33, 34, 35, 36, 37, 38, 39, 40, 41, 42, 43, 44, 45, 46, 47, 48, 49, 50, 51, 52] (by decide +kernel) (by decide +kernel)
set_option maxRecDepth 20000 in
theorem gX7_machine_X7_refuse : GoodIn wsX7_machine (wsV RX7 126 RX7 yX7_refuse wsX7_refuse) := goodIn_app (goodIn_of _ (by decide +kernel)) ggX7_machine_X7_refuse
theorem dX7_machine_0 : decode cX7_machine 0 = .ok (.iload_n 1, 1) := by decide +kernel
theorem dX7_machine_1 : decode cX7_machine 1 = .ok (.iconst 1, 1) := by decide +kernel
theorem dX7_machine_2 : decode cX7_machine 2 = .ok (.if_icmp .lt 18, 3) := by decide +kernel
theorem dX7_machine_5 : decode cX7_machine 5 = .ok (.iload_n 1, 1) := by decide +kernel
theorem dX7_machine_6 : decode cX7_machine 6 = .ok (.bipush 100, 2) := by decide +kernel
theorem dX7_machine_8 : decode cX7_machine 8 = .ok (.if_icmp .gt 12, 3) := by decide +kernel
theorem dX7_machine_11 : decode cX7_machine 11 = .ok (.iload_n 2, 1) := by decide +kernel
theorem dX7_machine_12 : decode cX7_machine 12 = .ok (.ifCond .lt 8, 3) := by decide +kernel
theorem dX7_machine_15 : decode cX7_machine 15 = .ok (.iload_n 2, 1) := by decide +kernel
theorem dX7_machine_16 : decode cX7_machine 16 = .ok (.iconst 3, 1) := by decide +kernel
theorem dX7_machine_17 : decode cX7_machine 17 = .ok (.if_icmp .le 9, 3) := by decide +kernel
theorem dX7_machine_20 : decode cX7_machine 20 = .ok (.aload_n 0, 1) := by decide +kernel
theorem dX7_machine_21 : decode cX7_machine 21 = .ok (.iconst 1, 1) := by decide +kernel
theorem dX7_machine_22 : decode cX7_machine 22 = .ok (.invokevirtual 126, 3) := by decide +kernel
theorem dX7_machine_25 : decode cX7_machine 25 = .ok (.ireturn, 1) := by decide +kernel
theorem dX7_machine_26 : decode cX7_machine 26 = .ok (.aload_n 0, 1) := by decide +kernel
theorem dX7_machine_27 : decode cX7_machine 27 = .ok (.getfield 130, 3) := by decide +kernel
theorem dX7_machine_30 : decode cX7_machine 30 = .ok (.bipush 12, 2) := by decide +kernel
theorem dX7_machine_32 : decode cX7_machine 32 = .ok (.if_icmp .ne 9, 3) := by decide +kernel
theorem dX7_machine_35 : decode cX7_machine 35 = .ok (.aload_n 0, 1) := by decide +kernel
theorem dX7_machine_36 : decode cX7_machine 36 = .ok (.iconst 4, 1) := by decide +kernel
theorem dX7_machine_37 : decode cX7_machine 37 = .ok (.invokevirtual 126, 3) := by decide +kernel
theorem dX7_machine_40 : decode cX7_machine 40 = .ok (.ireturn, 1) := by decide +kernel
theorem dX7_machine_41 : decode cX7_machine 41 = .ok (.aload_n 0, 1) := by decide +kernel
theorem dX7_machine_42 : decode cX7_machine 42 = .ok (.getfield 20, 3) := by decide +kernel
theorem dX7_machine_45 : decode cX7_machine 45 = .ok (.aload_n 0, 1) := by decide +kernel
theorem dX7_machine_46 : decode cX7_machine 46 = .ok (.getfield 130, 3) := by decide +kernel
theorem dX7_machine_49 : decode cX7_machine 49 = .ok (.iload_n 1, 1) := by decide +kernel
theorem dX7_machine_50 : decode cX7_machine 50 = .ok (.iastore, 1) := by decide +kernel
theorem dX7_machine_51 : decode cX7_machine 51 = .ok (.aload_n 0, 1) := by decide +kernel
theorem dX7_machine_52 : decode cX7_machine 52 = .ok (.getfield 23, 3) := by decide +kernel
theorem dX7_machine_55 : decode cX7_machine 55 = .ok (.aload_n 0, 1) := by decide +kernel
theorem dX7_machine_56 : decode cX7_machine 56 = .ok (.getfield 130, 3) := by decide +kernel
theorem dX7_machine_59 : decode cX7_machine 59 = .ok (.iload_n 2, 1) := by decide +kernel
theorem dX7_machine_60 : decode cX7_machine 60 = .ok (.iastore, 1) := by decide +kernel
theorem dX7_machine_61 : decode cX7_machine 61 = .ok (.aload_n 0, 1) := by decide +kernel
theorem dX7_machine_62 : decode cX7_machine 62 = .ok (.getfield 26, 3) := by decide +kernel
theorem dX7_machine_65 : decode cX7_machine 65 = .ok (.aload_n 0, 1) := by decide +kernel
theorem dX7_machine_66 : decode cX7_machine 66 = .ok (.getfield 130, 3) := by decide +kernel
theorem dX7_machine_69 : decode cX7_machine 69 = .ok (.iconst 1, 1) := by decide +kernel
theorem dX7_machine_70 : decode cX7_machine 70 = .ok (.bastore, 1) := by decide +kernel
theorem dX7_machine_71 : decode cX7_machine 71 = .ok (.aload_n 0, 1) := by decide +kernel
theorem dX7_machine_72 : decode cX7_machine 72 = .ok (.dup, 1) := by decide +kernel
theorem dX7_machine_73 : decode cX7_machine 73 = .ok (.getfield 130, 3) := by decide +kernel
theorem dX7_machine_76 : decode cX7_machine 76 = .ok (.iconst 1, 1) := by decide +kernel
theorem dX7_machine_77 : decode cX7_machine 77 = .ok (.iadd, 1) := by decide +kernel
theorem dX7_machine_78 : decode cX7_machine 78 = .ok (.putfield 130, 3) := by decide +kernel
theorem dX7_machine_81 : decode cX7_machine 81 = .ok (.aload_n 0, 1) := by decide +kernel
theorem dX7_machine_82 : decode cX7_machine 82 = .ok (.iconst 0, 1) := by decide +kernel
theorem dX7_machine_83 : decode cX7_machine 83 = .ok (.putfield 105, 3) := by decide +kernel
theorem dX7_machine_86 : decode cX7_machine 86 = .ok (.aload_n 0, 1) := by decide +kernel
theorem dX7_machine_87 : decode cX7_machine 87 = .ok (.getfield 130, 3) := by decide +kernel
theorem dX7_machine_90 : decode cX7_machine 90 = .ok (.iconst 1, 1) := by decide +kernel
theorem dX7_machine_91 : decode cX7_machine 91 = .ok (.isub, 1) := by decide +kernel
theorem dX7_machine_92 : decode cX7_machine 92 = .ok (.ireturn, 1) := by decide +kernel
set_option maxRecDepth 20000 in
theorem ggX7_up_X7_is : GoodIn wsX7_up wsX7_is := goodIn_r _ [7, 8, 9, 10, 11, 12, 13, 14, 15, 16, 17, 18, 19, 20, 21, 22, 23, 24, 25, 26, 27, 28, 29, 30, 31, 32, 33, 34, 35, 36, 37, 38, 39, 40, 41, 42, 43, 44, 45, 46, 47, 48, 49, 50] (by decide +kernel) (by decide +kernel)
set_option maxRecDepth 20000 in
theorem gX7_up_X7_is : GoodIn wsX7_up (wsV RX7 113 RX7 yX7_is wsX7_is) := goodIn_app (goodIn_of _ (by decide +kernel)) ggX7_up_X7_is
theorem dX7_up_0 : decode cX7_up 0 = .ok (.iload_n 1, 1) := by decide +kernel
theorem dX7_up_1 : decode cX7_up 1 = .ok (.ifCond .lt 11, 3) := by decide +kernel
theorem dX7_up_4 : decode cX7_up 4 = .ok (.iload_n 1, 1) := by decide +kernel
theorem dX7_up_5 : decode cX7_up 5 = .ok (.aload_n 0, 1) := by decide +kernel
theorem dX7_up_6 : decode cX7_up 6 = .ok (.getfield 130, 3) := by decide +kernel
theorem dX7_up_9 : decode cX7_up 9 = .ok (.if_icmp .lt 9, 3) := by decide +kernel
theorem dX7_up_12 : decode cX7_up 12 = .ok (.aload_n 0, 1) := by decide +kernel
theorem dX7_up_13 : decode cX7_up 13 = .ok (.iconst 1, 1) := by decide +kernel
theorem dX7_up_14 : decode cX7_up 14 = .ok (.invokevirtual 113, 3) := by decide +kernel
theorem dX7_up_17 : decode cX7_up 17 = .ok (.ireturn, 1) := by decide +kernel
theorem dX7_up_18 : decode cX7_up 18 = .ok (.aload_n 0, 1) := by decide +kernel
theorem dX7_up_19 : decode cX7_up 19 = .ok (.getfield 26, 3) := by decide +kernel
theorem dX7_up_22 : decode cX7_up 22 = .ok (.iload_n 1, 1) := by decide +kernel
theorem dX7_up_23 : decode cX7_up 23 = .ok (.baload, 1) := by decide +kernel
theorem dX7_up_24 : decode cX7_up 24 = .ok (.iload_n 2, 1) := by decide +kernel
theorem dX7_up_25 : decode cX7_up 25 = .ok (.if_icmp .ne 9, 3) := by decide +kernel
theorem dX7_up_28 : decode cX7_up 28 = .ok (.aload_n 0, 1) := by decide +kernel
theorem dX7_up_29 : decode cX7_up 29 = .ok (.iconst 5, 1) := by decide +kernel
theorem dX7_up_30 : decode cX7_up 30 = .ok (.invokevirtual 113, 3) := by decide +kernel
theorem dX7_up_33 : decode cX7_up 33 = .ok (.ireturn, 1) := by decide +kernel
theorem dX7_up_34 : decode cX7_up 34 = .ok (.aload_n 0, 1) := by decide +kernel
theorem dX7_up_35 : decode cX7_up 35 = .ok (.getfield 26, 3) := by decide +kernel
theorem dX7_up_38 : decode cX7_up 38 = .ok (.iload_n 1, 1) := by decide +kernel
theorem dX7_up_39 : decode cX7_up 39 = .ok (.iload_n 2, 1) := by decide +kernel
theorem dX7_up_40 : decode cX7_up 40 = .ok (.bastore, 1) := by decide +kernel
theorem dX7_up_41 : decode cX7_up 41 = .ok (.aload_n 0, 1) := by decide +kernel
theorem dX7_up_42 : decode cX7_up 42 = .ok (.iconst 0, 1) := by decide +kernel
theorem dX7_up_43 : decode cX7_up 43 = .ok (.invokevirtual 113, 3) := by decide +kernel
theorem dX7_up_46 : decode cX7_up 46 = .ok (.ireturn, 1) := by decide +kernel
theorem dX7_isAsk_0 : decode cX7_isAsk 0 = .ok (.iload_n 1, 1) := by decide +kernel
theorem dX7_isAsk_1 : decode cX7_isAsk 1 = .ok (.ifCond .lt 15, 3) := by decide +kernel
theorem dX7_isAsk_4 : decode cX7_isAsk 4 = .ok (.iload_n 1, 1) := by decide +kernel
theorem dX7_isAsk_5 : decode cX7_isAsk 5 = .ok (.aload_n 0, 1) := by decide +kernel
theorem dX7_isAsk_6 : decode cX7_isAsk 6 = .ok (.getfield 133, 3) := by decide +kernel
theorem dX7_isAsk_9 : decode cX7_isAsk 9 = .ok (.if_icmp .ge 7, 3) := by decide +kernel
theorem dX7_isAsk_12 : decode cX7_isAsk 12 = .ok (.iconst 1, 1) := by decide +kernel
theorem dX7_isAsk_13 : decode cX7_isAsk 13 = .ok (.goto 4, 3) := by decide +kernel
theorem dX7_isAsk_16 : decode cX7_isAsk 16 = .ok (.iconst 0, 1) := by decide +kernel
theorem dX7_isAsk_17 : decode cX7_isAsk 17 = .ok (.ireturn, 1) := by decide +kernel
set_option maxRecDepth 20000 in
theorem ggX7_ask_X7_refuse : GoodIn wsX7_ask wsX7_refuse := goodIn_r _ [11, 6, 12, 13, 14, 15, 16, 17, 18, 19, 20, 21, 22, 23, 24, 25, 26, 27, 28, 29, 30, 31, 32, 33, 34, 35, 36, 37, 38, 39, 40, 41, 42, 43, 44, 45, 46, 47, 48, 49, 50, 51, 52, 53] (by decide +kernel) (by decide +kernel)
set_option maxRecDepth 20000 in
theorem gX7_ask_X7_refuse : GoodIn wsX7_ask (wsV RX7 126 RX7 yX7_refuse wsX7_refuse) := goodIn_app (goodIn_of _ (by decide +kernel)) ggX7_ask_X7_refuse
theorem dX7_ask_0 : decode cX7_ask 0 = .ok (.iload_n 1, 1) := by decide +kernel
theorem dX7_ask_1 : decode cX7_ask 1 = .ok (.iconst 1, 1) := by decide +kernel
theorem dX7_ask_2 : decode cX7_ask 2 = .ok (.if_icmp .lt 24, 3) := by decide +kernel
theorem dX7_ask_5 : decode cX7_ask 5 = .ok (.iload_n 1, 1) := by decide +kernel
theorem dX7_ask_6 : decode cX7_ask 6 = .ok (.bipush 100, 2) := by decide +kernel
theorem dX7_ask_8 : decode cX7_ask 8 = .ok (.if_icmp .gt 18, 3) := by decide +kernel
theorem dX7_ask_11 : decode cX7_ask 11 = .ok (.iload_n 2, 1) := by decide +kernel
theorem dX7_ask_12 : decode cX7_ask 12 = .ok (.ifCond .lt 14, 3) := by decide +kernel
theorem dX7_ask_15 : decode cX7_ask 15 = .ok (.iload_n 3, 1) := by decide +kernel
theorem dX7_ask_16 : decode cX7_ask 16 = .ok (.bipush 24, 2) := by decide +kernel
theorem dX7_ask_18 : decode cX7_ask 18 = .ok (.if_icmp .ge 8, 3) := by decide +kernel
theorem dX7_ask_21 : decode cX7_ask 21 = .ok (.iload_n 2, 1) := by decide +kernel
theorem dX7_ask_22 : decode cX7_ask 22 = .ok (.iload_n 3, 1) := by decide +kernel
theorem dX7_ask_23 : decode cX7_ask 23 = .ok (.if_icmp .le 9, 3) := by decide +kernel
theorem dX7_ask_26 : decode cX7_ask 26 = .ok (.aload_n 0, 1) := by decide +kernel
theorem dX7_ask_27 : decode cX7_ask 27 = .ok (.iconst 1, 1) := by decide +kernel
theorem dX7_ask_28 : decode cX7_ask 28 = .ok (.invokevirtual 126, 3) := by decide +kernel
theorem dX7_ask_31 : decode cX7_ask 31 = .ok (.ireturn, 1) := by decide +kernel
theorem dX7_ask_32 : decode cX7_ask 32 = .ok (.aload_n 0, 1) := by decide +kernel
theorem dX7_ask_33 : decode cX7_ask 33 = .ok (.getfield 133, 3) := by decide +kernel
theorem dX7_ask_36 : decode cX7_ask 36 = .ok (.bipush 10, 2) := by decide +kernel
theorem dX7_ask_38 : decode cX7_ask 38 = .ok (.if_icmp .ne 9, 3) := by decide +kernel
theorem dX7_ask_41 : decode cX7_ask 41 = .ok (.aload_n 0, 1) := by decide +kernel
theorem dX7_ask_42 : decode cX7_ask 42 = .ok (.iconst 4, 1) := by decide +kernel
theorem dX7_ask_43 : decode cX7_ask 43 = .ok (.invokevirtual 126, 3) := by decide +kernel
theorem dX7_ask_46 : decode cX7_ask 46 = .ok (.ireturn, 1) := by decide +kernel
theorem dX7_ask_47 : decode cX7_ask 47 = .ok (.aload_n 0, 1) := by decide +kernel
theorem dX7_ask_48 : decode cX7_ask 48 = .ok (.getfield 30, 3) := by decide +kernel
theorem dX7_ask_51 : decode cX7_ask 51 = .ok (.aload_n 0, 1) := by decide +kernel
theorem dX7_ask_52 : decode cX7_ask 52 = .ok (.getfield 133, 3) := by decide +kernel
theorem dX7_ask_55 : decode cX7_ask 55 = .ok (.iload_n 1, 1) := by decide +kernel
theorem dX7_ask_56 : decode cX7_ask 56 = .ok (.iastore, 1) := by decide +kernel
theorem dX7_ask_57 : decode cX7_ask 57 = .ok (.aload_n 0, 1) := by decide +kernel
theorem dX7_ask_58 : decode cX7_ask 58 = .ok (.getfield 33, 3) := by decide +kernel
theorem dX7_ask_61 : decode cX7_ask 61 = .ok (.aload_n 0, 1) := by decide +kernel
theorem dX7_ask_62 : decode cX7_ask 62 = .ok (.getfield 133, 3) := by decide +kernel
theorem dX7_ask_65 : decode cX7_ask 65 = .ok (.iload_n 2, 1) := by decide +kernel
theorem dX7_ask_66 : decode cX7_ask 66 = .ok (.iastore, 1) := by decide +kernel
theorem dX7_ask_67 : decode cX7_ask 67 = .ok (.aload_n 0, 1) := by decide +kernel
theorem dX7_ask_68 : decode cX7_ask 68 = .ok (.getfield 36, 3) := by decide +kernel
theorem dX7_ask_71 : decode cX7_ask 71 = .ok (.aload_n 0, 1) := by decide +kernel
theorem dX7_ask_72 : decode cX7_ask 72 = .ok (.getfield 133, 3) := by decide +kernel
theorem dX7_ask_75 : decode cX7_ask 75 = .ok (.iload_n 3, 1) := by decide +kernel
theorem dX7_ask_76 : decode cX7_ask 76 = .ok (.iastore, 1) := by decide +kernel
theorem dX7_ask_77 : decode cX7_ask 77 = .ok (.aload_n 0, 1) := by decide +kernel
theorem dX7_ask_78 : decode cX7_ask 78 = .ok (.getfield 39, 3) := by decide +kernel
theorem dX7_ask_81 : decode cX7_ask 81 = .ok (.aload_n 0, 1) := by decide +kernel
theorem dX7_ask_82 : decode cX7_ask 82 = .ok (.getfield 133, 3) := by decide +kernel
theorem dX7_ask_85 : decode cX7_ask 85 = .ok (.iconst 0, 1) := by decide +kernel
theorem dX7_ask_86 : decode cX7_ask 86 = .ok (.iastore, 1) := by decide +kernel
theorem dX7_ask_87 : decode cX7_ask 87 = .ok (.aload_n 0, 1) := by decide +kernel
theorem dX7_ask_88 : decode cX7_ask 88 = .ok (.dup, 1) := by decide +kernel
theorem dX7_ask_89 : decode cX7_ask 89 = .ok (.getfield 133, 3) := by decide +kernel
theorem dX7_ask_92 : decode cX7_ask 92 = .ok (.iconst 1, 1) := by decide +kernel
theorem dX7_ask_93 : decode cX7_ask 93 = .ok (.iadd, 1) := by decide +kernel
theorem dX7_ask_94 : decode cX7_ask 94 = .ok (.putfield 133, 3) := by decide +kernel
theorem dX7_ask_97 : decode cX7_ask 97 = .ok (.aload_n 0, 1) := by decide +kernel
theorem dX7_ask_98 : decode cX7_ask 98 = .ok (.iconst 0, 1) := by decide +kernel
theorem dX7_ask_99 : decode cX7_ask 99 = .ok (.putfield 105, 3) := by decide +kernel
theorem dX7_ask_102 : decode cX7_ask 102 = .ok (.aload_n 0, 1) := by decide +kernel
theorem dX7_ask_103 : decode cX7_ask 103 = .ok (.getfield 133, 3) := by decide +kernel
theorem dX7_ask_106 : decode cX7_ask 106 = .ok (.iconst 1, 1) := by decide +kernel
theorem dX7_ask_107 : decode cX7_ask 107 = .ok (.isub, 1) := by decide +kernel
theorem dX7_ask_108 : decode cX7_ask 108 = .ok (.ireturn, 1) := by decide +kernel
set_option maxRecDepth 20000 in
theorem ggX7_apart_X7_isAsk : GoodIn wsX7_apart wsX7_isAsk := goodIn_r _ [6, 7, 13, 14, 15, 16, 17, 18, 19, 20, 21, 22, 23, 24, 25, 26, 27, 28, 29, 30, 31, 32, 33, 34, 35, 36, 37, 38, 39, 40, 41, 42, 43, 44, 45, 46, 47, 48, 49, 50, 51, 52, 53, 54] (by decide +kernel) (by decide +kernel)
set_option maxRecDepth 20000 in
theorem gX7_apart_X7_isAsk : GoodIn wsX7_apart (wsV RX7 136 RX7 yX7_isAsk wsX7_isAsk) := goodIn_app (goodIn_of _ (by decide +kernel)) ggX7_apart_X7_isAsk
set_option maxRecDepth 20000 in
theorem ggX7_apart_X7_is : GoodIn wsX7_apart wsX7_is := goodIn_r _ [11, 12, 13, 14, 15, 16, 17, 18, 19, 20, 21, 22, 23, 24, 25, 26, 27, 28, 29, 30, 31, 32, 33, 34, 35, 36, 37, 38, 39, 40, 41, 42, 43, 44, 45, 46, 47, 48, 49, 50, 51, 52, 53, 54] (by decide +kernel) (by decide +kernel)
set_option maxRecDepth 20000 in
theorem gX7_apart_X7_is : GoodIn wsX7_apart (wsV RX7 113 RX7 yX7_is wsX7_is) := goodIn_app (goodIn_of _ (by decide +kernel)) ggX7_apart_X7_is
theorem dX7_apart_0 : decode cX7_apart 0 = .ok (.aload_n 0, 1) := by decide +kernel
theorem dX7_apart_1 : decode cX7_apart 1 = .ok (.iload_n 1, 1) := by decide +kernel
theorem dX7_apart_2 : decode cX7_apart 2 = .ok (.invokevirtual 136, 3) := by decide +kernel
theorem dX7_apart_5 : decode cX7_apart 5 = .ok (.ifCond .eq 16, 3) := by decide +kernel
theorem dX7_apart_8 : decode cX7_apart 8 = .ok (.aload_n 0, 1) := by decide +kernel
theorem dX7_apart_9 : decode cX7_apart 9 = .ok (.iload_n 2, 1) := by decide +kernel
theorem dX7_apart_10 : decode cX7_apart 10 = .ok (.invokevirtual 136, 3) := by decide +kernel
theorem dX7_apart_13 : decode cX7_apart 13 = .ok (.ifCond .eq 8, 3) := by decide +kernel
theorem dX7_apart_16 : decode cX7_apart 16 = .ok (.iload_n 1, 1) := by decide +kernel
theorem dX7_apart_17 : decode cX7_apart 17 = .ok (.iload_n 2, 1) := by decide +kernel
theorem dX7_apart_18 : decode cX7_apart 18 = .ok (.if_icmp .ne 9, 3) := by decide +kernel
theorem dX7_apart_21 : decode cX7_apart 21 = .ok (.aload_n 0, 1) := by decide +kernel
theorem dX7_apart_22 : decode cX7_apart 22 = .ok (.iconst 1, 1) := by decide +kernel
theorem dX7_apart_23 : decode cX7_apart 23 = .ok (.invokevirtual 113, 3) := by decide +kernel
theorem dX7_apart_26 : decode cX7_apart 26 = .ok (.ireturn, 1) := by decide +kernel
theorem dX7_apart_27 : decode cX7_apart 27 = .ok (.aload_n 0, 1) := by decide +kernel
theorem dX7_apart_28 : decode cX7_apart 28 = .ok (.getfield 39, 3) := by decide +kernel
theorem dX7_apart_31 : decode cX7_apart 31 = .ok (.iload_n 1, 1) := by decide +kernel
theorem dX7_apart_32 : decode cX7_apart 32 = .ok (.iaload, 1) := by decide +kernel
theorem dX7_apart_33 : decode cX7_apart 33 = .ok (.iload_n 2, 1) := by decide +kernel
theorem dX7_apart_34 : decode cX7_apart 34 = .ok (.ishr, 1) := by decide +kernel
theorem dX7_apart_35 : decode cX7_apart 35 = .ok (.iconst 1, 1) := by decide +kernel
theorem dX7_apart_36 : decode cX7_apart 36 = .ok (.iand, 1) := by decide +kernel
theorem dX7_apart_37 : decode cX7_apart 37 = .ok (.iconst 1, 1) := by decide +kernel
theorem dX7_apart_38 : decode cX7_apart 38 = .ok (.if_icmp .ne 7, 3) := by decide +kernel
theorem dX7_apart_41 : decode cX7_apart 41 = .ok (.iconst 1, 1) := by decide +kernel
theorem dX7_apart_42 : decode cX7_apart 42 = .ok (.goto 4, 3) := by decide +kernel
theorem dX7_apart_45 : decode cX7_apart 45 = .ok (.iconst 0, 1) := by decide +kernel
theorem dX7_apart_46 : decode cX7_apart 46 = .ok (.iload_n 3, 1) := by decide +kernel
theorem dX7_apart_47 : decode cX7_apart 47 = .ok (.if_icmp .ne 9, 3) := by decide +kernel
theorem dX7_apart_50 : decode cX7_apart 50 = .ok (.aload_n 0, 1) := by decide +kernel
theorem dX7_apart_51 : decode cX7_apart 51 = .ok (.iconst 5, 1) := by decide +kernel
theorem dX7_apart_52 : decode cX7_apart 52 = .ok (.invokevirtual 113, 3) := by decide +kernel
theorem dX7_apart_55 : decode cX7_apart 55 = .ok (.ireturn, 1) := by decide +kernel
theorem dX7_apart_56 : decode cX7_apart 56 = .ok (.aload_n 0, 1) := by decide +kernel
theorem dX7_apart_57 : decode cX7_apart 57 = .ok (.getfield 39, 3) := by decide +kernel
theorem dX7_apart_60 : decode cX7_apart 60 = .ok (.iload_n 1, 1) := by decide +kernel
theorem dX7_apart_61 : decode cX7_apart 61 = .ok (.dup2, 1) := by decide +kernel
theorem dX7_apart_62 : decode cX7_apart 62 = .ok (.iaload, 1) := by decide +kernel
theorem dX7_apart_63 : decode cX7_apart 63 = .ok (.iconst 1, 1) := by decide +kernel
theorem dX7_apart_64 : decode cX7_apart 64 = .ok (.iload_n 2, 1) := by decide +kernel
theorem dX7_apart_65 : decode cX7_apart 65 = .ok (.ishl, 1) := by decide +kernel
theorem dX7_apart_66 : decode cX7_apart 66 = .ok (.ixor, 1) := by decide +kernel
theorem dX7_apart_67 : decode cX7_apart 67 = .ok (.iastore, 1) := by decide +kernel
theorem dX7_apart_68 : decode cX7_apart 68 = .ok (.aload_n 0, 1) := by decide +kernel
theorem dX7_apart_69 : decode cX7_apart 69 = .ok (.getfield 39, 3) := by decide +kernel
theorem dX7_apart_72 : decode cX7_apart 72 = .ok (.iload_n 2, 1) := by decide +kernel
theorem dX7_apart_73 : decode cX7_apart 73 = .ok (.dup2, 1) := by decide +kernel
theorem dX7_apart_74 : decode cX7_apart 74 = .ok (.iaload, 1) := by decide +kernel
theorem dX7_apart_75 : decode cX7_apart 75 = .ok (.iconst 1, 1) := by decide +kernel
theorem dX7_apart_76 : decode cX7_apart 76 = .ok (.iload_n 1, 1) := by decide +kernel
theorem dX7_apart_77 : decode cX7_apart 77 = .ok (.ishl, 1) := by decide +kernel
theorem dX7_apart_78 : decode cX7_apart 78 = .ok (.ixor, 1) := by decide +kernel
theorem dX7_apart_79 : decode cX7_apart 79 = .ok (.iastore, 1) := by decide +kernel
theorem dX7_apart_80 : decode cX7_apart 80 = .ok (.aload_n 0, 1) := by decide +kernel
theorem dX7_apart_81 : decode cX7_apart 81 = .ok (.iconst 0, 1) := by decide +kernel
theorem dX7_apart_82 : decode cX7_apart 82 = .ok (.invokevirtual 113, 3) := by decide +kernel
theorem dX7_apart_85 : decode cX7_apart 85 = .ok (.ireturn, 1) := by decide +kernel
theorem dX7_isHour_0 : decode cX7_isHour 0 = .ok (.iload_n 0, 1) := by decide +kernel
theorem dX7_isHour_1 : decode cX7_isHour 1 = .ok (.ifCond .lt 13, 3) := by decide +kernel
theorem dX7_isHour_4 : decode cX7_isHour 4 = .ok (.iload_n 0, 1) := by decide +kernel
theorem dX7_isHour_5 : decode cX7_isHour 5 = .ok (.bipush 24, 2) := by decide +kernel
theorem dX7_isHour_7 : decode cX7_isHour 7 = .ok (.if_icmp .ge 7, 3) := by decide +kernel
theorem dX7_isHour_10 : decode cX7_isHour 10 = .ok (.iconst 1, 1) := by decide +kernel
theorem dX7_isHour_11 : decode cX7_isHour 11 = .ok (.goto 4, 3) := by decide +kernel
theorem dX7_isHour_14 : decode cX7_isHour 14 = .ok (.iconst 0, 1) := by decide +kernel
theorem dX7_isHour_15 : decode cX7_isHour 15 = .ok (.ireturn, 1) := by decide +kernel
theorem dX7_isFall_0 : decode cX7_isFall 0 = .ok (.iload_n 0, 1) := by decide +kernel
theorem dX7_isFall_1 : decode cX7_isFall 1 = .ok (.ifCond .lt 13, 3) := by decide +kernel
theorem dX7_isFall_4 : decode cX7_isFall 4 = .ok (.iload_n 0, 1) := by decide +kernel
theorem dX7_isFall_5 : decode cX7_isFall 5 = .ok (.bipush 17, 2) := by decide +kernel
theorem dX7_isFall_7 : decode cX7_isFall 7 = .ok (.if_icmp .ge 7, 3) := by decide +kernel
theorem dX7_isFall_10 : decode cX7_isFall 10 = .ok (.iconst 1, 1) := by decide +kernel
theorem dX7_isFall_11 : decode cX7_isFall 11 = .ok (.goto 4, 3) := by decide +kernel
theorem dX7_isFall_14 : decode cX7_isFall 14 = .ok (.iconst 0, 1) := by decide +kernel
theorem dX7_isFall_15 : decode cX7_isFall 15 = .ok (.ireturn, 1) := by decide +kernel
theorem dX7_stands_0 : decode cX7_stands 0 = .ok (.aload_n 0, 1) := by decide +kernel
theorem dX7_stands_1 : decode cX7_stands 1 = .ok (.getfield 26, 3) := by decide +kernel
theorem dX7_stands_4 : decode cX7_stands 4 = .ok (.iload_n 1, 1) := by decide +kernel
theorem dX7_stands_5 : decode cX7_stands 5 = .ok (.baload, 1) := by decide +kernel
theorem dX7_stands_6 : decode cX7_stands 6 = .ok (.ifCond .eq 44, 3) := by decide +kernel
theorem dX7_stands_9 : decode cX7_stands 9 = .ok (.iload_n 2, 1) := by decide +kernel
theorem dX7_stands_10 : decode cX7_stands 10 = .ok (.iconst 1, 1) := by decide +kernel
theorem dX7_stands_11 : decode cX7_stands 11 = .ok (.if_icmp .lt 16, 3) := by decide +kernel
theorem dX7_stands_14 : decode cX7_stands 14 = .ok (.iload_n 2, 1) := by decide +kernel
theorem dX7_stands_15 : decode cX7_stands 15 = .ok (.bipush 12, 2) := by decide +kernel
theorem dX7_stands_17 : decode cX7_stands 17 = .ok (.if_icmp .gt 10, 3) := by decide +kernel
theorem dX7_stands_20 : decode cX7_stands 20 = .ok (.iload_n 2, 1) := by decide +kernel
theorem dX7_stands_21 : decode cX7_stands 21 = .ok (.iconst 1, 1) := by decide +kernel
theorem dX7_stands_22 : decode cX7_stands 22 = .ok (.isub, 1) := by decide +kernel
theorem dX7_stands_23 : decode cX7_stands 23 = .ok (.iload_n 1, 1) := by decide +kernel
theorem dX7_stands_24 : decode cX7_stands 24 = .ok (.if_icmp .eq 26, 3) := by decide +kernel
theorem dX7_stands_27 : decode cX7_stands 27 = .ok (.iload_n 2, 1) := by decide +kernel
theorem dX7_stands_28 : decode cX7_stands 28 = .ok (.bipush 13, 2) := by decide +kernel
theorem dX7_stands_30 : decode cX7_stands 30 = .ok (.if_icmp .lt 16, 3) := by decide +kernel
theorem dX7_stands_33 : decode cX7_stands 33 = .ok (.iload_n 2, 1) := by decide +kernel
theorem dX7_stands_34 : decode cX7_stands 34 = .ok (.bipush 13, 2) := by decide +kernel
theorem dX7_stands_36 : decode cX7_stands 36 = .ok (.isub, 1) := by decide +kernel
theorem dX7_stands_37 : decode cX7_stands 37 = .ok (.aload_n 0, 1) := by decide +kernel
theorem dX7_stands_38 : decode cX7_stands 38 = .ok (.getfield 23, 3) := by decide +kernel
theorem dX7_stands_41 : decode cX7_stands 41 = .ok (.iload_n 1, 1) := by decide +kernel
theorem dX7_stands_42 : decode cX7_stands 42 = .ok (.iaload, 1) := by decide +kernel
theorem dX7_stands_43 : decode cX7_stands 43 = .ok (.if_icmp .eq 7, 3) := by decide +kernel
theorem dX7_stands_46 : decode cX7_stands 46 = .ok (.iconst 1, 1) := by decide +kernel
theorem dX7_stands_47 : decode cX7_stands 47 = .ok (.goto 4, 3) := by decide +kernel
theorem dX7_stands_50 : decode cX7_stands 50 = .ok (.iconst 0, 1) := by decide +kernel
theorem dX7_stands_51 : decode cX7_stands 51 = .ok (.ireturn, 1) := by decide +kernel
set_option maxRecDepth 20000 in
theorem ggX7_sizes_X7_stands : GoodIn wsX7_sizes wsX7_stands := goodIn_r _ [7, 8, 9, 10, 11, 12, 13, 14, 15, 16, 17, 18, 19, 20, 21, 22, 23, 24, 25, 26, 27, 28, 29, 30, 31, 32, 33, 34, 35, 36, 37, 38, 39, 40, 41, 42, 43, 44, 45, 46, 47, 48, 49, 50, 51] (by decide +kernel) (by decide +kernel)
set_option maxRecDepth 20000 in
theorem gX7_sizes_X7_stands : GoodIn wsX7_sizes (wsV RX7 139 RX7 yX7_stands wsX7_stands) := goodIn_app (goodIn_of _ (by decide +kernel)) ggX7_sizes_X7_stands
theorem dX7_sizes_0 : decode cX7_sizes 0 = .ok (.iconst 0, 1) := by decide +kernel
theorem dX7_sizes_1 : decode cX7_sizes 1 = .ok (.istore_n 2, 1) := by decide +kernel
theorem dX7_sizes_2 : decode cX7_sizes 2 = .ok (.iconst 0, 1) := by decide +kernel
theorem dX7_sizes_3 : decode cX7_sizes 3 = .ok (.istore_n 3, 1) := by decide +kernel
theorem dX7_sizes_4 : decode cX7_sizes 4 = .ok (.iload_n 3, 1) := by decide +kernel
theorem dX7_sizes_5 : decode cX7_sizes 5 = .ok (.aload_n 0, 1) := by decide +kernel
theorem dX7_sizes_6 : decode cX7_sizes 6 = .ok (.getfield 130, 3) := by decide +kernel
theorem dX7_sizes_9 : decode cX7_sizes 9 = .ok (.if_icmp .ge 31, 3) := by decide +kernel
theorem dX7_sizes_12 : decode cX7_sizes 12 = .ok (.iload_n 2, 1) := by decide +kernel
theorem dX7_sizes_13 : decode cX7_sizes 13 = .ok (.aload_n 0, 1) := by decide +kernel
theorem dX7_sizes_14 : decode cX7_sizes 14 = .ok (.iload_n 3, 1) := by decide +kernel
theorem dX7_sizes_15 : decode cX7_sizes 15 = .ok (.iload_n 1, 1) := by decide +kernel
theorem dX7_sizes_16 : decode cX7_sizes 16 = .ok (.invokevirtual 139, 3) := by decide +kernel
theorem dX7_sizes_19 : decode cX7_sizes 19 = .ok (.ifCond .eq 12, 3) := by decide +kernel
theorem dX7_sizes_22 : decode cX7_sizes 22 = .ok (.aload_n 0, 1) := by decide +kernel
theorem dX7_sizes_23 : decode cX7_sizes 23 = .ok (.getfield 20, 3) := by decide +kernel
theorem dX7_sizes_26 : decode cX7_sizes 26 = .ok (.iload_n 3, 1) := by decide +kernel
theorem dX7_sizes_27 : decode cX7_sizes 27 = .ok (.iaload, 1) := by decide +kernel
theorem dX7_sizes_28 : decode cX7_sizes 28 = .ok (.goto 4, 3) := by decide +kernel
theorem dX7_sizes_31 : decode cX7_sizes 31 = .ok (.iconst 0, 1) := by decide +kernel
theorem dX7_sizes_32 : decode cX7_sizes 32 = .ok (.iadd, 1) := by decide +kernel
theorem dX7_sizes_33 : decode cX7_sizes 33 = .ok (.istore_n 2, 1) := by decide +kernel
theorem dX7_sizes_34 : decode cX7_sizes 34 = .ok (.iinc 3 1, 3) := by decide +kernel
theorem dX7_sizes_37 : decode cX7_sizes 37 = .ok (.goto (-33), 3) := by decide +kernel
theorem dX7_sizes_40 : decode cX7_sizes 40 = .ok (.iload_n 2, 1) := by decide +kernel
theorem dX7_sizes_41 : decode cX7_sizes 41 = .ok (.ireturn, 1) := by decide +kernel
set_option maxRecDepth 20000 in
theorem ggX7_count_X7_refuse : GoodIn wsX7_count wsX7_refuse := goodIn_r _ [10, 1, 22, 23, 24, 25, 26, 27, 28, 29, 30, 31, 32, 33, 34, 35, 36, 37, 38, 39, 40, 41, 42, 43, 44, 45, 46, 47, 48, 49, 50, 51, 52, 53, 54, 55, 56, 57, 58, 59, 60, 61, 62, 63] (by decide +kernel) (by decide +kernel)
set_option maxRecDepth 20000 in
theorem gX7_count_X7_refuse : GoodIn wsX7_count (wsV RX7 126 RX7 yX7_refuse wsX7_refuse) := goodIn_app (goodIn_of _ (by decide +kernel)) ggX7_count_X7_refuse
set_option maxRecDepth 20000 in
theorem ggX7_count_X7_sizes : GoodIn wsX7_count wsX7_sizes := goodIn_r _ [14, 2, 15, 16, 17, 18, 9, 19, 20, 21, 22, 23, 24, 25, 26, 27, 28, 29, 30, 31, 32, 33, 34, 35, 36, 37, 38, 39, 40, 41, 42, 43, 44, 45, 46, 47, 48, 49, 50, 51, 52, 53, 54, 55, 56, 57, 58, 59, 60, 61, 62, 63] (by decide +kernel) (by decide +kernel)
set_option maxRecDepth 20000 in
theorem gX7_count_X7_sizes : GoodIn wsX7_count (wsV RX7 149 RX7 yX7_sizes wsX7_sizes) := goodIn_app (goodIn_of _ (by decide +kernel)) ggX7_count_X7_sizes
theorem dX7_count_0 : decode cX7_count 0 = .ok (.iload_n 1, 1) := by decide +kernel
theorem dX7_count_1 : decode cX7_count 1 = .ok (.ifCond .lt 8, 3) := by decide +kernel
theorem dX7_count_4 : decode cX7_count 4 = .ok (.iload_n 1, 1) := by decide +kernel
theorem dX7_count_5 : decode cX7_count 5 = .ok (.iconst 4, 1) := by decide +kernel
theorem dX7_count_6 : decode cX7_count 6 = .ok (.if_icmp .le 9, 3) := by decide +kernel
theorem dX7_count_9 : decode cX7_count 9 = .ok (.aload_n 0, 1) := by decide +kernel
theorem dX7_count_10 : decode cX7_count 10 = .ok (.iconst 1, 1) := by decide +kernel
theorem dX7_count_11 : decode cX7_count 11 = .ok (.invokevirtual 126, 3) := by decide +kernel
theorem dX7_count_14 : decode cX7_count 14 = .ok (.ireturn, 1) := by decide +kernel
theorem dX7_count_15 : decode cX7_count 15 = .ok (.aload_n 0, 1) := by decide +kernel
theorem dX7_count_16 : decode cX7_count 16 = .ok (.iconst 0, 1) := by decide +kernel
theorem dX7_count_17 : decode cX7_count 17 = .ok (.putfield 105, 3) := by decide +kernel
theorem dX7_count_20 : decode cX7_count 20 = .ok (.iload_n 1, 1) := by decide +kernel
theorem dX7_count_21 : decode cX7_count 21 = .ok (.ifCond .ne 10, 3) := by decide +kernel
theorem dX7_count_24 : decode cX7_count 24 = .ok (.aload_n 0, 1) := by decide +kernel
theorem dX7_count_25 : decode cX7_count 25 = .ok (.getfield 130, 3) := by decide +kernel
theorem dX7_count_28 : decode cX7_count 28 = .ok (.goto 44, 3) := by decide +kernel
theorem dX7_count_31 : decode cX7_count 31 = .ok (.iload_n 1, 1) := by decide +kernel
theorem dX7_count_32 : decode cX7_count 32 = .ok (.iconst 1, 1) := by decide +kernel
theorem dX7_count_33 : decode cX7_count 33 = .ok (.if_icmp .ne 10, 3) := by decide +kernel
theorem dX7_count_36 : decode cX7_count 36 = .ok (.aload_n 0, 1) := by decide +kernel
theorem dX7_count_37 : decode cX7_count 37 = .ok (.getfield 133, 3) := by decide +kernel
theorem dX7_count_40 : decode cX7_count 40 = .ok (.goto 32, 3) := by decide +kernel
theorem dX7_count_43 : decode cX7_count 43 = .ok (.iload_n 1, 1) := by decide +kernel
theorem dX7_count_44 : decode cX7_count 44 = .ok (.iconst 2, 1) := by decide +kernel
theorem dX7_count_45 : decode cX7_count 45 = .ok (.if_icmp .ne 10, 3) := by decide +kernel
theorem dX7_count_48 : decode cX7_count 48 = .ok (.aload_n 0, 1) := by decide +kernel
theorem dX7_count_49 : decode cX7_count 49 = .ok (.getfield 143, 3) := by decide +kernel
theorem dX7_count_52 : decode cX7_count 52 = .ok (.goto 20, 3) := by decide +kernel
theorem dX7_count_55 : decode cX7_count 55 = .ok (.iload_n 1, 1) := by decide +kernel
theorem dX7_count_56 : decode cX7_count 56 = .ok (.iconst 3, 1) := by decide +kernel
theorem dX7_count_57 : decode cX7_count 57 = .ok (.if_icmp .ne 10, 3) := by decide +kernel
theorem dX7_count_60 : decode cX7_count 60 = .ok (.aload_n 0, 1) := by decide +kernel
theorem dX7_count_61 : decode cX7_count 61 = .ok (.getfield 146, 3) := by decide +kernel
theorem dX7_count_64 : decode cX7_count 64 = .ok (.goto 8, 3) := by decide +kernel
theorem dX7_count_67 : decode cX7_count 67 = .ok (.aload_n 0, 1) := by decide +kernel
theorem dX7_count_68 : decode cX7_count 68 = .ok (.iconst 0, 1) := by decide +kernel
theorem dX7_count_69 : decode cX7_count 69 = .ok (.invokevirtual 149, 3) := by decide +kernel
theorem dX7_count_72 : decode cX7_count 72 = .ok (.ireturn, 1) := by decide +kernel
set_option maxRecDepth 20000 in
theorem ggX7_look_X7_stands : GoodIn wsX7_look wsX7_stands := goodIn_r _ [13, 14, 15, 16, 17, 18, 19, 20, 21, 22, 23, 24, 25, 26, 27, 28, 29, 30, 31, 32, 33, 34, 35, 36, 37, 38, 39, 40, 41, 42, 43, 44, 45, 46, 47, 48, 49, 50, 51, 52, 53, 54, 55, 56, 57] (by decide +kernel) (by decide +kernel)
set_option maxRecDepth 20000 in
theorem gX7_look_X7_stands : GoodIn wsX7_look (wsV RX7 139 RX7 yX7_stands wsX7_stands) := goodIn_app (goodIn_of _ (by decide +kernel)) ggX7_look_X7_stands
theorem dX7_look_0 : decode cX7_look 0 = .ok (.iconst 1, 1) := by decide +kernel
theorem dX7_look_1 : decode cX7_look 1 = .ok (.aload_n 0, 1) := by decide +kernel
theorem dX7_look_2 : decode cX7_look 2 = .ok (.getfield 133, 3) := by decide +kernel
theorem dX7_look_5 : decode cX7_look 5 = .ok (.ishl, 1) := by decide +kernel
theorem dX7_look_6 : decode cX7_look 6 = .ok (.istore_n 2, 1) := by decide +kernel
theorem dX7_look_7 : decode cX7_look 7 = .ok (.iconst 0, 1) := by decide +kernel
theorem dX7_look_8 : decode cX7_look 8 = .ok (.istore_n 3, 1) := by decide +kernel
theorem dX7_look_9 : decode cX7_look 9 = .ok (.iload_n 3, 1) := by decide +kernel
theorem dX7_look_10 : decode cX7_look 10 = .ok (.iload_n 2, 1) := by decide +kernel
theorem dX7_look_11 : decode cX7_look 11 = .ok (.if_icmp .ge 125, 3) := by decide +kernel
theorem dX7_look_14 : decode cX7_look 14 = .ok (.aload_n 0, 1) := by decide +kernel
theorem dX7_look_15 : decode cX7_look 15 = .ok (.getfield 42, 3) := by decide +kernel
theorem dX7_look_18 : decode cX7_look 18 = .ok (.iload_n 3, 1) := by decide +kernel
theorem dX7_look_19 : decode cX7_look 19 = .ok (.iconst 0, 1) := by decide +kernel
theorem dX7_look_20 : decode cX7_look 20 = .ok (.iastore, 1) := by decide +kernel
theorem dX7_look_21 : decode cX7_look 21 = .ok (.aload_n 0, 1) := by decide +kernel
theorem dX7_look_22 : decode cX7_look 22 = .ok (.getfield 45, 3) := by decide +kernel
theorem dX7_look_25 : decode cX7_look 25 = .ok (.iload_n 3, 1) := by decide +kernel
theorem dX7_look_26 : decode cX7_look 26 = .ok (.iconst 1, 1) := by decide +kernel
theorem dX7_look_27 : decode cX7_look 27 = .ok (.bastore, 1) := by decide +kernel
theorem dX7_look_28 : decode cX7_look 28 = .ok (.iconst 0, 1) := by decide +kernel
theorem dX7_look_29 : decode cX7_look 29 = .ok (.istore 4, 2) := by decide +kernel
theorem dX7_look_31 : decode cX7_look 31 = .ok (.iload 4, 2) := by decide +kernel
theorem dX7_look_33 : decode cX7_look 33 = .ok (.aload_n 0, 1) := by decide +kernel
theorem dX7_look_34 : decode cX7_look 34 = .ok (.getfield 133, 3) := by decide +kernel
theorem dX7_look_37 : decode cX7_look 37 = .ok (.if_icmp .ge 69, 3) := by decide +kernel
theorem dX7_look_40 : decode cX7_look 40 = .ok (.iload_n 3, 1) := by decide +kernel
theorem dX7_look_41 : decode cX7_look 41 = .ok (.iload 4, 2) := by decide +kernel
theorem dX7_look_43 : decode cX7_look 43 = .ok (.ishr, 1) := by decide +kernel
theorem dX7_look_44 : decode cX7_look 44 = .ok (.iconst 1, 1) := by decide +kernel
theorem dX7_look_45 : decode cX7_look 45 = .ok (.iand, 1) := by decide +kernel
theorem dX7_look_46 : decode cX7_look 46 = .ok (.ifCond .ne 6, 3) := by decide +kernel
theorem dX7_look_49 : decode cX7_look 49 = .ok (.goto 51, 3) := by decide +kernel
theorem dX7_look_52 : decode cX7_look 52 = .ok (.aload_n 0, 1) := by decide +kernel
theorem dX7_look_53 : decode cX7_look 53 = .ok (.getfield 42, 3) := by decide +kernel
theorem dX7_look_56 : decode cX7_look 56 = .ok (.iload_n 3, 1) := by decide +kernel
theorem dX7_look_57 : decode cX7_look 57 = .ok (.dup2, 1) := by decide +kernel
theorem dX7_look_58 : decode cX7_look 58 = .ok (.iaload, 1) := by decide +kernel
theorem dX7_look_59 : decode cX7_look 59 = .ok (.aload_n 0, 1) := by decide +kernel
theorem dX7_look_60 : decode cX7_look 60 = .ok (.getfield 30, 3) := by decide +kernel
theorem dX7_look_63 : decode cX7_look 63 = .ok (.iload 4, 2) := by decide +kernel
theorem dX7_look_65 : decode cX7_look 65 = .ok (.iaload, 1) := by decide +kernel
theorem dX7_look_66 : decode cX7_look 66 = .ok (.iadd, 1) := by decide +kernel
theorem dX7_look_67 : decode cX7_look 67 = .ok (.iastore, 1) := by decide +kernel
theorem dX7_look_68 : decode cX7_look 68 = .ok (.aload_n 0, 1) := by decide +kernel
theorem dX7_look_69 : decode cX7_look 69 = .ok (.getfield 45, 3) := by decide +kernel
theorem dX7_look_72 : decode cX7_look 72 = .ok (.iload_n 3, 1) := by decide +kernel
theorem dX7_look_73 : decode cX7_look 73 = .ok (.aload_n 0, 1) := by decide +kernel
theorem dX7_look_74 : decode cX7_look 74 = .ok (.getfield 45, 3) := by decide +kernel
theorem dX7_look_77 : decode cX7_look 77 = .ok (.iload_n 3, 1) := by decide +kernel
theorem dX7_look_78 : decode cX7_look 78 = .ok (.baload, 1) := by decide +kernel
theorem dX7_look_79 : decode cX7_look 79 = .ok (.ifCond .eq 19, 3) := by decide +kernel
theorem dX7_look_82 : decode cX7_look 82 = .ok (.iload_n 3, 1) := by decide +kernel
theorem dX7_look_83 : decode cX7_look 83 = .ok (.aload_n 0, 1) := by decide +kernel
theorem dX7_look_84 : decode cX7_look 84 = .ok (.getfield 39, 3) := by decide +kernel
theorem dX7_look_87 : decode cX7_look 87 = .ok (.iload 4, 2) := by decide +kernel
theorem dX7_look_89 : decode cX7_look 89 = .ok (.iaload, 1) := by decide +kernel
theorem dX7_look_90 : decode cX7_look 90 = .ok (.iand, 1) := by decide +kernel
theorem dX7_look_91 : decode cX7_look 91 = .ok (.ifCond .ne 7, 3) := by decide +kernel
theorem dX7_look_94 : decode cX7_look 94 = .ok (.iconst 1, 1) := by decide +kernel
theorem dX7_look_95 : decode cX7_look 95 = .ok (.goto 4, 3) := by decide +kernel
theorem dX7_look_98 : decode cX7_look 98 = .ok (.iconst 0, 1) := by decide +kernel
theorem dX7_look_99 : decode cX7_look 99 = .ok (.bastore, 1) := by decide +kernel
theorem dX7_look_100 : decode cX7_look 100 = .ok (.iinc 4 1, 3) := by decide +kernel
theorem dX7_look_103 : decode cX7_look 103 = .ok (.goto (-72), 3) := by decide +kernel
theorem dX7_look_106 : decode cX7_look 106 = .ok (.aload_n 0, 1) := by decide +kernel
theorem dX7_look_107 : decode cX7_look 107 = .ok (.getfield 48, 3) := by decide +kernel
theorem dX7_look_110 : decode cX7_look 110 = .ok (.sipush 1024, 3) := by decide +kernel
theorem dX7_look_113 : decode cX7_look 113 = .ok (.aload_n 0, 1) := by decide +kernel
theorem dX7_look_114 : decode cX7_look 114 = .ok (.getfield 130, 3) := by decide +kernel
theorem dX7_look_117 : decode cX7_look 117 = .ok (.imul, 1) := by decide +kernel
theorem dX7_look_118 : decode cX7_look 118 = .ok (.iload_n 3, 1) := by decide +kernel
theorem dX7_look_119 : decode cX7_look 119 = .ok (.iadd, 1) := by decide +kernel
theorem dX7_look_120 : decode cX7_look 120 = .ok (.iload_n 3, 1) := by decide +kernel
theorem dX7_look_121 : decode cX7_look 121 = .ok (.ifCond .ne 7, 3) := by decide +kernel
theorem dX7_look_124 : decode cX7_look 124 = .ok (.iconst 1, 1) := by decide +kernel
theorem dX7_look_125 : decode cX7_look 125 = .ok (.goto 4, 3) := by decide +kernel
theorem dX7_look_128 : decode cX7_look 128 = .ok (.iconst 0, 1) := by decide +kernel
theorem dX7_look_129 : decode cX7_look 129 = .ok (.bastore, 1) := by decide +kernel
theorem dX7_look_130 : decode cX7_look 130 = .ok (.iinc 3 1, 3) := by decide +kernel
theorem dX7_look_133 : decode cX7_look 133 = .ok (.goto (-124), 3) := by decide +kernel
theorem dX7_look_136 : decode cX7_look 136 = .ok (.aload_n 0, 1) := by decide +kernel
theorem dX7_look_137 : decode cX7_look 137 = .ok (.getfield 130, 3) := by decide +kernel
theorem dX7_look_140 : decode cX7_look 140 = .ok (.iconst 1, 1) := by decide +kernel
theorem dX7_look_141 : decode cX7_look 141 = .ok (.isub, 1) := by decide +kernel
theorem dX7_look_142 : decode cX7_look 142 = .ok (.istore_n 3, 1) := by decide +kernel
theorem dX7_look_143 : decode cX7_look 143 = .ok (.iload_n 3, 1) := by decide +kernel
theorem dX7_look_144 : decode cX7_look 144 = .ok (.ifCond .lt 145, 3) := by decide +kernel
theorem dX7_look_147 : decode cX7_look 147 = .ok (.iconst 0, 1) := by decide +kernel
theorem dX7_look_148 : decode cX7_look 148 = .ok (.istore 4, 2) := by decide +kernel
theorem dX7_look_150 : decode cX7_look 150 = .ok (.iload 4, 2) := by decide +kernel
theorem dX7_look_152 : decode cX7_look 152 = .ok (.iload_n 2, 1) := by decide +kernel
theorem dX7_look_153 : decode cX7_look 153 = .ok (.if_icmp .ge 130, 3) := by decide +kernel
theorem dX7_look_156 : decode cX7_look 156 = .ok (.aload_n 0, 1) := by decide +kernel
theorem dX7_look_157 : decode cX7_look 157 = .ok (.getfield 48, 3) := by decide +kernel
theorem dX7_look_160 : decode cX7_look 160 = .ok (.sipush 1024, 3) := by decide +kernel
theorem dX7_look_163 : decode cX7_look 163 = .ok (.iload_n 3, 1) := by decide +kernel
theorem dX7_look_164 : decode cX7_look 164 = .ok (.iconst 1, 1) := by decide +kernel
theorem dX7_look_165 : decode cX7_look 165 = .ok (.iadd, 1) := by decide +kernel
theorem dX7_look_166 : decode cX7_look 166 = .ok (.imul, 1) := by decide +kernel
theorem dX7_look_167 : decode cX7_look 167 = .ok (.iload 4, 2) := by decide +kernel
theorem dX7_look_169 : decode cX7_look 169 = .ok (.iadd, 1) := by decide +kernel
theorem dX7_look_170 : decode cX7_look 170 = .ok (.baload, 1) := by decide +kernel
theorem dX7_look_171 : decode cX7_look 171 = .ok (.istore 5, 2) := by decide +kernel
theorem dX7_look_173 : decode cX7_look 173 = .ok (.iload 4, 2) := by decide +kernel
theorem dX7_look_175 : decode cX7_look 175 = .ok (.istore 6, 2) := by decide +kernel
theorem dX7_look_177 : decode cX7_look 177 = .ok (.iload 6, 2) := by decide +kernel
theorem dX7_look_179 : decode cX7_look 179 = .ok (.ifCond .le 83, 3) := by decide +kernel
theorem dX7_look_182 : decode cX7_look 182 = .ok (.iload 5, 2) := by decide +kernel
theorem dX7_look_184 : decode cX7_look 184 = .ok (.ifCond .ne 78, 3) := by decide +kernel
theorem dX7_look_187 : decode cX7_look 187 = .ok (.aload_n 0, 1) := by decide +kernel
theorem dX7_look_188 : decode cX7_look 188 = .ok (.iload_n 3, 1) := by decide +kernel
theorem dX7_look_189 : decode cX7_look 189 = .ok (.iload_n 1, 1) := by decide +kernel
theorem dX7_look_190 : decode cX7_look 190 = .ok (.invokevirtual 139, 3) := by decide +kernel
theorem dX7_look_193 : decode cX7_look 193 = .ok (.ifCond .eq 69, 3) := by decide +kernel
theorem dX7_look_196 : decode cX7_look 196 = .ok (.aload_n 0, 1) := by decide +kernel
theorem dX7_look_197 : decode cX7_look 197 = .ok (.getfield 45, 3) := by decide +kernel
theorem dX7_look_200 : decode cX7_look 200 = .ok (.iload 6, 2) := by decide +kernel
theorem dX7_look_202 : decode cX7_look 202 = .ok (.baload, 1) := by decide +kernel
theorem dX7_look_203 : decode cX7_look 203 = .ok (.ifCond .eq 44, 3) := by decide +kernel
theorem dX7_look_206 : decode cX7_look 206 = .ok (.aload_n 0, 1) := by decide +kernel
theorem dX7_look_207 : decode cX7_look 207 = .ok (.getfield 42, 3) := by decide +kernel
theorem dX7_look_210 : decode cX7_look 210 = .ok (.iload 6, 2) := by decide +kernel
theorem dX7_look_212 : decode cX7_look 212 = .ok (.iaload, 1) := by decide +kernel
theorem dX7_look_213 : decode cX7_look 213 = .ok (.aload_n 0, 1) := by decide +kernel
theorem dX7_look_214 : decode cX7_look 214 = .ok (.getfield 20, 3) := by decide +kernel
theorem dX7_look_217 : decode cX7_look 217 = .ok (.iload_n 3, 1) := by decide +kernel
theorem dX7_look_218 : decode cX7_look 218 = .ok (.iaload, 1) := by decide +kernel
theorem dX7_look_219 : decode cX7_look 219 = .ok (.if_icmp .gt 28, 3) := by decide +kernel
theorem dX7_look_222 : decode cX7_look 222 = .ok (.aload_n 0, 1) := by decide +kernel
theorem dX7_look_223 : decode cX7_look 223 = .ok (.getfield 48, 3) := by decide +kernel
theorem dX7_look_226 : decode cX7_look 226 = .ok (.sipush 1024, 3) := by decide +kernel
theorem dX7_look_229 : decode cX7_look 229 = .ok (.iload_n 3, 1) := by decide +kernel
theorem dX7_look_230 : decode cX7_look 230 = .ok (.iconst 1, 1) := by decide +kernel
theorem dX7_look_231 : decode cX7_look 231 = .ok (.iadd, 1) := by decide +kernel
theorem dX7_look_232 : decode cX7_look 232 = .ok (.imul, 1) := by decide +kernel
theorem dX7_look_233 : decode cX7_look 233 = .ok (.iload 4, 2) := by decide +kernel
theorem dX7_look_235 : decode cX7_look 235 = .ok (.iload 6, 2) := by decide +kernel
theorem dX7_look_237 : decode cX7_look 237 = .ok (.ixor, 1) := by decide +kernel
theorem dX7_look_238 : decode cX7_look 238 = .ok (.iadd, 1) := by decide +kernel
theorem dX7_look_239 : decode cX7_look 239 = .ok (.baload, 1) := by decide +kernel
theorem dX7_look_240 : decode cX7_look 240 = .ok (.ifCond .eq 7, 3) := by decide +kernel
theorem dX7_look_243 : decode cX7_look 243 = .ok (.iconst 1, 1) := by decide +kernel
theorem dX7_look_244 : decode cX7_look 244 = .ok (.goto 4, 3) := by decide +kernel
theorem dX7_look_247 : decode cX7_look 247 = .ok (.iconst 0, 1) := by decide +kernel
theorem dX7_look_248 : decode cX7_look 248 = .ok (.istore 5, 2) := by decide +kernel
theorem dX7_look_250 : decode cX7_look 250 = .ok (.iload 6, 2) := by decide +kernel
theorem dX7_look_252 : decode cX7_look 252 = .ok (.iconst 1, 1) := by decide +kernel
theorem dX7_look_253 : decode cX7_look 253 = .ok (.isub, 1) := by decide +kernel
theorem dX7_look_254 : decode cX7_look 254 = .ok (.iload 4, 2) := by decide +kernel
theorem dX7_look_256 : decode cX7_look 256 = .ok (.iand, 1) := by decide +kernel
theorem dX7_look_257 : decode cX7_look 257 = .ok (.istore 6, 2) := by decide +kernel
theorem dX7_look_259 : decode cX7_look 259 = .ok (.goto (-82), 3) := by decide +kernel
theorem dX7_look_262 : decode cX7_look 262 = .ok (.aload_n 0, 1) := by decide +kernel
theorem dX7_look_263 : decode cX7_look 263 = .ok (.getfield 48, 3) := by decide +kernel
theorem dX7_look_266 : decode cX7_look 266 = .ok (.sipush 1024, 3) := by decide +kernel
theorem dX7_look_269 : decode cX7_look 269 = .ok (.iload_n 3, 1) := by decide +kernel
theorem dX7_look_270 : decode cX7_look 270 = .ok (.imul, 1) := by decide +kernel
theorem dX7_look_271 : decode cX7_look 271 = .ok (.iload 4, 2) := by decide +kernel
theorem dX7_look_273 : decode cX7_look 273 = .ok (.iadd, 1) := by decide +kernel
theorem dX7_look_274 : decode cX7_look 274 = .ok (.iload 5, 2) := by decide +kernel
theorem dX7_look_276 : decode cX7_look 276 = .ok (.bastore, 1) := by decide +kernel
theorem dX7_look_277 : decode cX7_look 277 = .ok (.iinc 4 1, 3) := by decide +kernel
theorem dX7_look_280 : decode cX7_look 280 = .ok (.goto (-130), 3) := by decide +kernel
theorem dX7_look_283 : decode cX7_look 283 = .ok (.iinc 3 (-1), 3) := by decide +kernel
theorem dX7_look_286 : decode cX7_look 286 = .ok (.goto (-143), 3) := by decide +kernel
theorem dX7_look_289 : decode cX7_look 289 = .ok (.return_, 1) := by decide +kernel
theorem dX7_setOf_0 : decode cX7_setOf 0 = .ok (.iconst 0, 1) := by decide +kernel
theorem dX7_setOf_1 : decode cX7_setOf 1 = .ok (.istore_n 2, 1) := by decide +kernel
theorem dX7_setOf_2 : decode cX7_setOf 2 = .ok (.iconst 0, 1) := by decide +kernel
theorem dX7_setOf_3 : decode cX7_setOf 3 = .ok (.istore_n 3, 1) := by decide +kernel
theorem dX7_setOf_4 : decode cX7_setOf 4 = .ok (.iload_n 3, 1) := by decide +kernel
theorem dX7_setOf_5 : decode cX7_setOf 5 = .ok (.aload_n 0, 1) := by decide +kernel
theorem dX7_setOf_6 : decode cX7_setOf 6 = .ok (.getfield 133, 3) := by decide +kernel
theorem dX7_setOf_9 : decode cX7_setOf 9 = .ok (.if_icmp .ge 35, 3) := by decide +kernel
theorem dX7_setOf_12 : decode cX7_setOf 12 = .ok (.aload_n 0, 1) := by decide +kernel
theorem dX7_setOf_13 : decode cX7_setOf 13 = .ok (.getfield 33, 3) := by decide +kernel
theorem dX7_setOf_16 : decode cX7_setOf 16 = .ok (.iload_n 3, 1) := by decide +kernel
theorem dX7_setOf_17 : decode cX7_setOf 17 = .ok (.iaload, 1) := by decide +kernel
theorem dX7_setOf_18 : decode cX7_setOf 18 = .ok (.iload_n 1, 1) := by decide +kernel
theorem dX7_setOf_19 : decode cX7_setOf 19 = .ok (.if_icmp .gt 19, 3) := by decide +kernel
theorem dX7_setOf_22 : decode cX7_setOf 22 = .ok (.iload_n 1, 1) := by decide +kernel
theorem dX7_setOf_23 : decode cX7_setOf 23 = .ok (.aload_n 0, 1) := by decide +kernel
theorem dX7_setOf_24 : decode cX7_setOf 24 = .ok (.getfield 36, 3) := by decide +kernel
theorem dX7_setOf_27 : decode cX7_setOf 27 = .ok (.iload_n 3, 1) := by decide +kernel
theorem dX7_setOf_28 : decode cX7_setOf 28 = .ok (.iaload, 1) := by decide +kernel
theorem dX7_setOf_29 : decode cX7_setOf 29 = .ok (.if_icmp .gt 9, 3) := by decide +kernel
theorem dX7_setOf_32 : decode cX7_setOf 32 = .ok (.iload_n 2, 1) := by decide +kernel
theorem dX7_setOf_33 : decode cX7_setOf 33 = .ok (.iconst 1, 1) := by decide +kernel
theorem dX7_setOf_34 : decode cX7_setOf 34 = .ok (.iload_n 3, 1) := by decide +kernel
theorem dX7_setOf_35 : decode cX7_setOf 35 = .ok (.ishl, 1) := by decide +kernel
theorem dX7_setOf_36 : decode cX7_setOf 36 = .ok (.ior, 1) := by decide +kernel
theorem dX7_setOf_37 : decode cX7_setOf 37 = .ok (.istore_n 2, 1) := by decide +kernel
theorem dX7_setOf_38 : decode cX7_setOf 38 = .ok (.iinc 3 1, 3) := by decide +kernel
theorem dX7_setOf_41 : decode cX7_setOf 41 = .ok (.goto (-37), 3) := by decide +kernel
theorem dX7_setOf_44 : decode cX7_setOf 44 = .ok (.iload_n 2, 1) := by decide +kernel
theorem dX7_setOf_45 : decode cX7_setOf 45 = .ok (.ireturn, 1) := by decide +kernel
set_option maxRecDepth 20000 in
theorem ggX7_fits_X7_isHour : GoodIn wsX7_fits wsX7_isHour := goodIn_r _ [6] (by decide +kernel) (by decide +kernel)
set_option maxRecDepth 20000 in
theorem gX7_fits_X7_isHour : GoodIn wsX7_fits (va_wsS RX7 152 yX7_isHour wsX7_isHour) := goodIn_app (goodIn_of _ (by decide +kernel)) ggX7_fits_X7_isHour
set_option maxRecDepth 20000 in
theorem ggX7_fits_X7_isFall : GoodIn wsX7_fits wsX7_isFall := goodIn_r _ [9] (by decide +kernel) (by decide +kernel)
set_option maxRecDepth 20000 in
theorem gX7_fits_X7_isFall : GoodIn wsX7_fits (va_wsS RX7 155 yX7_isFall wsX7_isFall) := goodIn_app (goodIn_of _ (by decide +kernel)) ggX7_fits_X7_isFall
set_option maxRecDepth 20000 in
theorem ggX7_fits_X7_refuse : GoodIn wsX7_fits wsX7_refuse := goodIn_r _ [13, 1, 37, 38, 39, 40, 41, 42, 43, 44, 45, 46, 47, 48, 49, 50, 51, 52, 53, 54, 55, 56, 57, 58, 59, 60, 61, 62, 63, 64, 65, 66, 67, 68, 69, 70, 71, 72, 73, 74, 75, 76, 77, 78] (by decide +kernel) (by decide +kernel)
set_option maxRecDepth 20000 in
theorem gX7_fits_X7_refuse : GoodIn wsX7_fits (wsV RX7 126 RX7 yX7_refuse wsX7_refuse) := goodIn_app (goodIn_of _ (by decide +kernel)) ggX7_fits_X7_refuse
set_option maxRecDepth 20000 in
theorem ggX7_fits_X7_look : GoodIn wsX7_fits wsX7_look := goodIn_r _ [17, 18, 19, 20, 21, 22, 2, 23, 24, 25, 26, 27, 5, 28, 29, 30, 37, 38, 39, 40, 41, 42, 43, 44, 45, 46, 47, 48, 49, 50, 51, 52, 53, 54, 55, 56, 57, 58, 59, 60, 61, 62, 63, 64, 65, 66, 67, 68, 69, 70, 71, 72, 73, 74, 75, 76, 77, 78] (by decide +kernel) (by decide +kernel)
set_option maxRecDepth 20000 in
theorem gX7_fits_X7_look : GoodIn wsX7_fits (wsV RX7 158 RX7 yX7_look wsX7_look) := goodIn_app (goodIn_of _ (by decide +kernel)) ggX7_fits_X7_look
set_option maxRecDepth 20000 in
theorem ggX7_fits_X7_setOf : GoodIn wsX7_fits wsX7_setOf := goodIn_r _ [34, 18, 35, 36, 37, 38, 39, 40, 41, 42, 43, 44, 45, 46, 47, 48, 49, 50, 51, 52, 53, 54, 55, 56, 57, 58, 59, 60, 61, 62, 63, 64, 65, 66, 67, 68, 69, 70, 71, 72, 73, 74, 75, 76, 77, 78] (by decide +kernel) (by decide +kernel)
set_option maxRecDepth 20000 in
theorem gX7_fits_X7_setOf : GoodIn wsX7_fits (wsV RX7 162 RX7 yX7_setOf wsX7_setOf) := goodIn_app (goodIn_of _ (by decide +kernel)) ggX7_fits_X7_setOf
theorem dX7_fits_0 : decode cX7_fits 0 = .ok (.iload_n 1, 1) := by decide +kernel
theorem dX7_fits_1 : decode cX7_fits 1 = .ok (.invokestatic 152, 3) := by decide +kernel
theorem dX7_fits_4 : decode cX7_fits 4 = .ok (.ifCond .eq 10, 3) := by decide +kernel
theorem dX7_fits_7 : decode cX7_fits 7 = .ok (.iload_n 2, 1) := by decide +kernel
theorem dX7_fits_8 : decode cX7_fits 8 = .ok (.invokestatic 155, 3) := by decide +kernel
theorem dX7_fits_11 : decode cX7_fits 11 = .ok (.ifCond .ne 9, 3) := by decide +kernel
theorem dX7_fits_14 : decode cX7_fits 14 = .ok (.aload_n 0, 1) := by decide +kernel
theorem dX7_fits_15 : decode cX7_fits 15 = .ok (.iconst 1, 1) := by decide +kernel
theorem dX7_fits_16 : decode cX7_fits 16 = .ok (.invokevirtual 126, 3) := by decide +kernel
theorem dX7_fits_19 : decode cX7_fits 19 = .ok (.ireturn, 1) := by decide +kernel
theorem dX7_fits_20 : decode cX7_fits 20 = .ok (.aload_n 0, 1) := by decide +kernel
theorem dX7_fits_21 : decode cX7_fits 21 = .ok (.iload_n 2, 1) := by decide +kernel
theorem dX7_fits_22 : decode cX7_fits 22 = .ok (.invokevirtual 158, 3) := by decide +kernel
theorem dX7_fits_25 : decode cX7_fits 25 = .ok (.aload_n 0, 1) := by decide +kernel
theorem dX7_fits_26 : decode cX7_fits 26 = .ok (.iconst 0, 1) := by decide +kernel
theorem dX7_fits_27 : decode cX7_fits 27 = .ok (.putfield 105, 3) := by decide +kernel
theorem dX7_fits_30 : decode cX7_fits 30 = .ok (.aload_n 0, 1) := by decide +kernel
theorem dX7_fits_31 : decode cX7_fits 31 = .ok (.getfield 48, 3) := by decide +kernel
theorem dX7_fits_34 : decode cX7_fits 34 = .ok (.aload_n 0, 1) := by decide +kernel
theorem dX7_fits_35 : decode cX7_fits 35 = .ok (.iload_n 1, 1) := by decide +kernel
theorem dX7_fits_36 : decode cX7_fits 36 = .ok (.invokevirtual 162, 3) := by decide +kernel
theorem dX7_fits_39 : decode cX7_fits 39 = .ok (.baload, 1) := by decide +kernel
theorem dX7_fits_40 : decode cX7_fits 40 = .ok (.ifCond .eq 7, 3) := by decide +kernel
theorem dX7_fits_43 : decode cX7_fits 43 = .ok (.iconst 1, 1) := by decide +kernel
theorem dX7_fits_44 : decode cX7_fits 44 = .ok (.goto 4, 3) := by decide +kernel
theorem dX7_fits_47 : decode cX7_fits 47 = .ok (.iconst 0, 1) := by decide +kernel
theorem dX7_fits_48 : decode cX7_fits 48 = .ok (.ireturn, 1) := by decide +kernel
set_option maxRecDepth 20000 in
theorem ggX7_on_X7_isHour : GoodIn wsX7_on wsX7_isHour := goodIn_r _ [10] (by decide +kernel) (by decide +kernel)
set_option maxRecDepth 20000 in
theorem gX7_on_X7_isHour : GoodIn wsX7_on (va_wsS RX7 152 yX7_isHour wsX7_isHour) := goodIn_app (goodIn_of _ (by decide +kernel)) ggX7_on_X7_isHour
set_option maxRecDepth 20000 in
theorem ggX7_on_X7_isFall : GoodIn wsX7_on wsX7_isFall := goodIn_r _ [13] (by decide +kernel) (by decide +kernel)
set_option maxRecDepth 20000 in
theorem gX7_on_X7_isFall : GoodIn wsX7_on (va_wsS RX7 155 yX7_isFall wsX7_isFall) := goodIn_app (goodIn_of _ (by decide +kernel)) ggX7_on_X7_isFall
set_option maxRecDepth 20000 in
theorem ggX7_on_X7_isAsk : GoodIn wsX7_on wsX7_isAsk := goodIn_r _ [17, 18, 41, 42, 43, 44, 45, 46, 47, 48, 49, 50, 51, 52, 53, 54, 55, 56, 57, 58, 59, 60, 61, 62, 63, 64, 65, 66, 67, 68, 69, 70, 71, 72, 73, 74, 75, 76, 77, 78, 79, 80, 81, 82] (by decide +kernel) (by decide +kernel)
set_option maxRecDepth 20000 in
theorem gX7_on_X7_isAsk : GoodIn wsX7_on (wsV RX7 136 RX7 yX7_isAsk wsX7_isAsk) := goodIn_app (goodIn_of _ (by decide +kernel)) ggX7_on_X7_isAsk
set_option maxRecDepth 20000 in
theorem ggX7_on_X7_setOf : GoodIn wsX7_on wsX7_setOf := goodIn_r _ [22, 18, 23, 24, 41, 42, 43, 44, 45, 46, 47, 48, 49, 50, 51, 52, 53, 54, 55, 56, 57, 58, 59, 60, 61, 62, 63, 64, 65, 66, 67, 68, 69, 70, 71, 72, 73, 74, 75, 76, 77, 78, 79, 80, 81, 82] (by decide +kernel) (by decide +kernel)
set_option maxRecDepth 20000 in
theorem gX7_on_X7_setOf : GoodIn wsX7_on (wsV RX7 162 RX7 yX7_setOf wsX7_setOf) := goodIn_app (goodIn_of _ (by decide +kernel)) ggX7_on_X7_setOf
set_option maxRecDepth 20000 in
theorem ggX7_on_X7_refuse : GoodIn wsX7_on wsX7_refuse := goodIn_r _ [28, 2, 41, 42, 43, 44, 45, 46, 47, 48, 49, 50, 51, 52, 53, 54, 55, 56, 57, 58, 59, 60, 61, 62, 63, 64, 65, 66, 67, 68, 69, 70, 71, 72, 73, 74, 75, 76, 77, 78, 79, 80, 81, 82] (by decide +kernel) (by decide +kernel)
set_option maxRecDepth 20000 in
theorem gX7_on_X7_refuse : GoodIn wsX7_on (wsV RX7 126 RX7 yX7_refuse wsX7_refuse) := goodIn_app (goodIn_of _ (by decide +kernel)) ggX7_on_X7_refuse
set_option maxRecDepth 20000 in
theorem ggX7_on_X7_look : GoodIn wsX7_on wsX7_look := goodIn_r _ [32, 18, 5, 4, 33, 34, 1, 3, 6, 35, 36, 37, 9, 38, 39, 40, 41, 42, 43, 44, 45, 46, 47, 48, 49, 50, 51, 52, 53, 54, 55, 56, 57, 58, 59, 60, 61, 62, 63, 64, 65, 66, 67, 68, 69, 70, 71, 72, 73, 74, 75, 76, 77, 78, 79, 80, 81, 82] (by decide +kernel) (by decide +kernel)
set_option maxRecDepth 20000 in
theorem gX7_on_X7_look : GoodIn wsX7_on (wsV RX7 158 RX7 yX7_look wsX7_look) := goodIn_app (goodIn_of _ (by decide +kernel)) ggX7_on_X7_look
set_option maxRecDepth 20000 in
theorem ggX7_on_X7_stands : GoodIn wsX7_on wsX7_stands := goodIn_r _ [38, 39, 40, 41, 42, 43, 44, 45, 46, 47, 48, 49, 50, 51, 52, 53, 54, 55, 56, 57, 58, 59, 60, 61, 62, 63, 64, 65, 66, 67, 68, 69, 70, 71, 72, 73, 74, 75, 76, 77, 78, 79, 80, 81, 82] (by decide +kernel) (by decide +kernel)
set_option maxRecDepth 20000 in
theorem gX7_on_X7_stands : GoodIn wsX7_on (wsV RX7 139 RX7 yX7_stands wsX7_stands) := goodIn_app (goodIn_of _ (by decide +kernel)) ggX7_on_X7_stands
theorem dX7_on_0 : decode cX7_on 0 = .ok (.iload_n 1, 1) := by decide +kernel
theorem dX7_on_1 : decode cX7_on 1 = .ok (.invokestatic 152, 3) := by decide +kernel
theorem dX7_on_4 : decode cX7_on 4 = .ok (.ifCond .eq 30, 3) := by decide +kernel
theorem dX7_on_7 : decode cX7_on 7 = .ok (.iload_n 2, 1) := by decide +kernel
theorem dX7_on_8 : decode cX7_on 8 = .ok (.invokestatic 155, 3) := by decide +kernel
theorem dX7_on_11 : decode cX7_on 11 = .ok (.ifCond .eq 23, 3) := by decide +kernel
theorem dX7_on_14 : decode cX7_on 14 = .ok (.aload_n 0, 1) := by decide +kernel
theorem dX7_on_15 : decode cX7_on 15 = .ok (.iload_n 3, 1) := by decide +kernel
theorem dX7_on_16 : decode cX7_on 16 = .ok (.invokevirtual 136, 3) := by decide +kernel
theorem dX7_on_19 : decode cX7_on 19 = .ok (.ifCond .eq 15, 3) := by decide +kernel
theorem dX7_on_22 : decode cX7_on 22 = .ok (.aload_n 0, 1) := by decide +kernel
theorem dX7_on_23 : decode cX7_on 23 = .ok (.iload_n 1, 1) := by decide +kernel
theorem dX7_on_24 : decode cX7_on 24 = .ok (.invokevirtual 162, 3) := by decide +kernel
theorem dX7_on_27 : decode cX7_on 27 = .ok (.iload_n 3, 1) := by decide +kernel
theorem dX7_on_28 : decode cX7_on 28 = .ok (.ishr, 1) := by decide +kernel
theorem dX7_on_29 : decode cX7_on 29 = .ok (.iconst 1, 1) := by decide +kernel
theorem dX7_on_30 : decode cX7_on 30 = .ok (.iand, 1) := by decide +kernel
theorem dX7_on_31 : decode cX7_on 31 = .ok (.ifCond .ne 9, 3) := by decide +kernel
theorem dX7_on_34 : decode cX7_on 34 = .ok (.aload_n 0, 1) := by decide +kernel
theorem dX7_on_35 : decode cX7_on 35 = .ok (.iconst 1, 1) := by decide +kernel
theorem dX7_on_36 : decode cX7_on 36 = .ok (.invokevirtual 126, 3) := by decide +kernel
theorem dX7_on_39 : decode cX7_on 39 = .ok (.ireturn, 1) := by decide +kernel
theorem dX7_on_40 : decode cX7_on 40 = .ok (.aload_n 0, 1) := by decide +kernel
theorem dX7_on_41 : decode cX7_on 41 = .ok (.iload_n 2, 1) := by decide +kernel
theorem dX7_on_42 : decode cX7_on 42 = .ok (.invokevirtual 158, 3) := by decide +kernel
theorem dX7_on_45 : decode cX7_on 45 = .ok (.aload_n 0, 1) := by decide +kernel
theorem dX7_on_46 : decode cX7_on 46 = .ok (.iload_n 1, 1) := by decide +kernel
theorem dX7_on_47 : decode cX7_on 47 = .ok (.invokevirtual 162, 3) := by decide +kernel
theorem dX7_on_50 : decode cX7_on 50 = .ok (.istore 4, 2) := by decide +kernel
theorem dX7_on_52 : decode cX7_on 52 = .ok (.aload_n 0, 1) := by decide +kernel
theorem dX7_on_53 : decode cX7_on 53 = .ok (.getfield 48, 3) := by decide +kernel
theorem dX7_on_56 : decode cX7_on 56 = .ok (.iload 4, 2) := by decide +kernel
theorem dX7_on_58 : decode cX7_on 58 = .ok (.baload, 1) := by decide +kernel
theorem dX7_on_59 : decode cX7_on 59 = .ok (.ifCond .ne 10, 3) := by decide +kernel
theorem dX7_on_62 : decode cX7_on 62 = .ok (.aload_n 0, 1) := by decide +kernel
theorem dX7_on_63 : decode cX7_on 63 = .ok (.bipush 6, 2) := by decide +kernel
theorem dX7_on_65 : decode cX7_on 65 = .ok (.invokevirtual 126, 3) := by decide +kernel
theorem dX7_on_68 : decode cX7_on 68 = .ok (.ireturn, 1) := by decide +kernel
theorem dX7_on_69 : decode cX7_on 69 = .ok (.aload_n 0, 1) := by decide +kernel
theorem dX7_on_70 : decode cX7_on 70 = .ok (.iconst 0, 1) := by decide +kernel
theorem dX7_on_71 : decode cX7_on 71 = .ok (.putfield 105, 3) := by decide +kernel
theorem dX7_on_74 : decode cX7_on 74 = .ok (.iconst 0, 1) := by decide +kernel
theorem dX7_on_75 : decode cX7_on 75 = .ok (.istore 5, 2) := by decide +kernel
theorem dX7_on_77 : decode cX7_on 77 = .ok (.iload 5, 2) := by decide +kernel
theorem dX7_on_79 : decode cX7_on 79 = .ok (.aload_n 0, 1) := by decide +kernel
theorem dX7_on_80 : decode cX7_on 80 = .ok (.getfield 130, 3) := by decide +kernel
theorem dX7_on_83 : decode cX7_on 83 = .ok (.if_icmp .ge 112, 3) := by decide +kernel
theorem dX7_on_86 : decode cX7_on 86 = .ok (.iload 4, 2) := by decide +kernel
theorem dX7_on_88 : decode cX7_on 88 = .ok (.istore 6, 2) := by decide +kernel
theorem dX7_on_90 : decode cX7_on 90 = .ok (.aload_n 0, 1) := by decide +kernel
theorem dX7_on_91 : decode cX7_on 91 = .ok (.iload 5, 2) := by decide +kernel
theorem dX7_on_93 : decode cX7_on 93 = .ok (.iload_n 2, 1) := by decide +kernel
theorem dX7_on_94 : decode cX7_on 94 = .ok (.invokevirtual 139, 3) := by decide +kernel
theorem dX7_on_97 : decode cX7_on 97 = .ok (.ifCond .ne 6, 3) := by decide +kernel
theorem dX7_on_100 : decode cX7_on 100 = .ok (.iconst 0, 1) := by decide +kernel
theorem dX7_on_101 : decode cX7_on 101 = .ok (.istore 6, 2) := by decide +kernel
theorem dX7_on_103 : decode cX7_on 103 = .ok (.iload 6, 2) := by decide +kernel
theorem dX7_on_105 : decode cX7_on 105 = .ok (.ifCond .le 64, 3) := by decide +kernel
theorem dX7_on_108 : decode cX7_on 108 = .ok (.aload_n 0, 1) := by decide +kernel
theorem dX7_on_109 : decode cX7_on 109 = .ok (.getfield 45, 3) := by decide +kernel
theorem dX7_on_112 : decode cX7_on 112 = .ok (.iload 6, 2) := by decide +kernel
theorem dX7_on_114 : decode cX7_on 114 = .ok (.baload, 1) := by decide +kernel
theorem dX7_on_115 : decode cX7_on 115 = .ok (.ifCond .eq 42, 3) := by decide +kernel
theorem dX7_on_118 : decode cX7_on 118 = .ok (.aload_n 0, 1) := by decide +kernel
theorem dX7_on_119 : decode cX7_on 119 = .ok (.getfield 42, 3) := by decide +kernel
theorem dX7_on_122 : decode cX7_on 122 = .ok (.iload 6, 2) := by decide +kernel
theorem dX7_on_124 : decode cX7_on 124 = .ok (.iaload, 1) := by decide +kernel
theorem dX7_on_125 : decode cX7_on 125 = .ok (.aload_n 0, 1) := by decide +kernel
theorem dX7_on_126 : decode cX7_on 126 = .ok (.getfield 20, 3) := by decide +kernel
theorem dX7_on_129 : decode cX7_on 129 = .ok (.iload 5, 2) := by decide +kernel
theorem dX7_on_131 : decode cX7_on 131 = .ok (.iaload, 1) := by decide +kernel
theorem dX7_on_132 : decode cX7_on 132 = .ok (.if_icmp .gt 25, 3) := by decide +kernel
theorem dX7_on_135 : decode cX7_on 135 = .ok (.aload_n 0, 1) := by decide +kernel
theorem dX7_on_136 : decode cX7_on 136 = .ok (.getfield 48, 3) := by decide +kernel
theorem dX7_on_139 : decode cX7_on 139 = .ok (.sipush 1024, 3) := by decide +kernel
theorem dX7_on_142 : decode cX7_on 142 = .ok (.iload 5, 2) := by decide +kernel
theorem dX7_on_144 : decode cX7_on 144 = .ok (.iconst 1, 1) := by decide +kernel
theorem dX7_on_145 : decode cX7_on 145 = .ok (.iadd, 1) := by decide +kernel
theorem dX7_on_146 : decode cX7_on 146 = .ok (.imul, 1) := by decide +kernel
theorem dX7_on_147 : decode cX7_on 147 = .ok (.iload 4, 2) := by decide +kernel
theorem dX7_on_149 : decode cX7_on 149 = .ok (.iload 6, 2) := by decide +kernel
theorem dX7_on_151 : decode cX7_on 151 = .ok (.ixor, 1) := by decide +kernel
theorem dX7_on_152 : decode cX7_on 152 = .ok (.iadd, 1) := by decide +kernel
theorem dX7_on_153 : decode cX7_on 153 = .ok (.baload, 1) := by decide +kernel
theorem dX7_on_154 : decode cX7_on 154 = .ok (.ifCond .ne 15, 3) := by decide +kernel
theorem dX7_on_157 : decode cX7_on 157 = .ok (.iload 6, 2) := by decide +kernel
theorem dX7_on_159 : decode cX7_on 159 = .ok (.iconst 1, 1) := by decide +kernel
theorem dX7_on_160 : decode cX7_on 160 = .ok (.isub, 1) := by decide +kernel
theorem dX7_on_161 : decode cX7_on 161 = .ok (.iload 4, 2) := by decide +kernel
theorem dX7_on_163 : decode cX7_on 163 = .ok (.iand, 1) := by decide +kernel
theorem dX7_on_164 : decode cX7_on 164 = .ok (.istore 6, 2) := by decide +kernel
theorem dX7_on_166 : decode cX7_on 166 = .ok (.goto (-63), 3) := by decide +kernel
theorem dX7_on_169 : decode cX7_on 169 = .ok (.iload 6, 2) := by decide +kernel
theorem dX7_on_171 : decode cX7_on 171 = .ok (.iload_n 3, 1) := by decide +kernel
theorem dX7_on_172 : decode cX7_on 172 = .ok (.ishr, 1) := by decide +kernel
theorem dX7_on_173 : decode cX7_on 173 = .ok (.iconst 1, 1) := by decide +kernel
theorem dX7_on_174 : decode cX7_on 174 = .ok (.iand, 1) := by decide +kernel
theorem dX7_on_175 : decode cX7_on 175 = .ok (.iconst 1, 1) := by decide +kernel
theorem dX7_on_176 : decode cX7_on 176 = .ok (.if_icmp .ne 6, 3) := by decide +kernel
theorem dX7_on_179 : decode cX7_on 179 = .ok (.iload 5, 2) := by decide +kernel
theorem dX7_on_181 : decode cX7_on 181 = .ok (.ireturn, 1) := by decide +kernel
theorem dX7_on_182 : decode cX7_on 182 = .ok (.iload 4, 2) := by decide +kernel
theorem dX7_on_184 : decode cX7_on 184 = .ok (.iload 6, 2) := by decide +kernel
theorem dX7_on_186 : decode cX7_on 186 = .ok (.ixor, 1) := by decide +kernel
theorem dX7_on_187 : decode cX7_on 187 = .ok (.istore 4, 2) := by decide +kernel
theorem dX7_on_189 : decode cX7_on 189 = .ok (.iinc 5 1, 3) := by decide +kernel
theorem dX7_on_192 : decode cX7_on 192 = .ok (.goto (-115), 3) := by decide +kernel
theorem dX7_on_195 : decode cX7_on 195 = .ok (.iconst (-1), 1) := by decide +kernel
theorem dX7_on_196 : decode cX7_on 196 = .ok (.ireturn, 1) := by decide +kernel
set_option maxRecDepth 20000 in
theorem ggX7_lack_X7_isHour : GoodIn wsX7_lack wsX7_isHour := goodIn_r _ [7] (by decide +kernel) (by decide +kernel)
set_option maxRecDepth 20000 in
theorem gX7_lack_X7_isHour : GoodIn wsX7_lack (va_wsS RX7 152 yX7_isHour wsX7_isHour) := goodIn_app (goodIn_of _ (by decide +kernel)) ggX7_lack_X7_isHour
set_option maxRecDepth 20000 in
theorem ggX7_lack_X7_isFall : GoodIn wsX7_lack wsX7_isFall := goodIn_r _ [10] (by decide +kernel) (by decide +kernel)
set_option maxRecDepth 20000 in
theorem gX7_lack_X7_isFall : GoodIn wsX7_lack (va_wsS RX7 155 yX7_isFall wsX7_isFall) := goodIn_app (goodIn_of _ (by decide +kernel)) ggX7_lack_X7_isFall
set_option maxRecDepth 20000 in
theorem ggX7_lack_X7_refuse : GoodIn wsX7_lack wsX7_refuse := goodIn_r _ [14, 1, 37, 38, 39, 40, 41, 42, 43, 44, 45, 46, 47, 48, 49, 50, 51, 52, 53, 54, 55, 56, 57, 58, 59, 60, 61, 62, 63, 64, 65, 66, 67, 68, 69, 70, 71, 72, 73, 74, 75, 76, 77, 78] (by decide +kernel) (by decide +kernel)
set_option maxRecDepth 20000 in
theorem gX7_lack_X7_refuse : GoodIn wsX7_lack (wsV RX7 126 RX7 yX7_refuse wsX7_refuse) := goodIn_app (goodIn_of _ (by decide +kernel)) ggX7_lack_X7_refuse
set_option maxRecDepth 20000 in
theorem ggX7_lack_X7_look : GoodIn wsX7_lack wsX7_look := goodIn_r _ [18, 19, 3, 20, 21, 22, 2, 23, 24, 25, 26, 27, 6, 28, 29, 30, 37, 38, 39, 40, 41, 42, 43, 44, 45, 46, 47, 48, 49, 50, 51, 52, 53, 54, 55, 56, 57, 58, 59, 60, 61, 62, 63, 64, 65, 66, 67, 68, 69, 70, 71, 72, 73, 74, 75, 76, 77, 78] (by decide +kernel) (by decide +kernel)
set_option maxRecDepth 20000 in
theorem gX7_lack_X7_look : GoodIn wsX7_lack (wsV RX7 158 RX7 yX7_look wsX7_look) := goodIn_app (goodIn_of _ (by decide +kernel)) ggX7_lack_X7_look
set_option maxRecDepth 20000 in
theorem ggX7_lack_X7_setOf : GoodIn wsX7_lack wsX7_setOf := goodIn_r _ [34, 19, 35, 36, 37, 38, 39, 40, 41, 42, 43, 44, 45, 46, 47, 48, 49, 50, 51, 52, 53, 54, 55, 56, 57, 58, 59, 60, 61, 62, 63, 64, 65, 66, 67, 68, 69, 70, 71, 72, 73, 74, 75, 76, 77, 78] (by decide +kernel) (by decide +kernel)
set_option maxRecDepth 20000 in
theorem gX7_lack_X7_setOf : GoodIn wsX7_lack (wsV RX7 162 RX7 yX7_setOf wsX7_setOf) := goodIn_app (goodIn_of _ (by decide +kernel)) ggX7_lack_X7_setOf
theorem dX7_lack_0 : decode cX7_lack 0 = .ok (.iload_n 1, 1) := by decide +kernel
theorem dX7_lack_1 : decode cX7_lack 1 = .ok (.invokestatic 152, 3) := by decide +kernel
theorem dX7_lack_4 : decode cX7_lack 4 = .ok (.ifCond .eq 10, 3) := by decide +kernel
theorem dX7_lack_7 : decode cX7_lack 7 = .ok (.iload_n 2, 1) := by decide +kernel
theorem dX7_lack_8 : decode cX7_lack 8 = .ok (.invokestatic 155, 3) := by decide +kernel
theorem dX7_lack_11 : decode cX7_lack 11 = .ok (.ifCond .ne 9, 3) := by decide +kernel
theorem dX7_lack_14 : decode cX7_lack 14 = .ok (.aload_n 0, 1) := by decide +kernel
theorem dX7_lack_15 : decode cX7_lack 15 = .ok (.iconst 1, 1) := by decide +kernel
theorem dX7_lack_16 : decode cX7_lack 16 = .ok (.invokevirtual 126, 3) := by decide +kernel
theorem dX7_lack_19 : decode cX7_lack 19 = .ok (.ireturn, 1) := by decide +kernel
theorem dX7_lack_20 : decode cX7_lack 20 = .ok (.aload_n 0, 1) := by decide +kernel
theorem dX7_lack_21 : decode cX7_lack 21 = .ok (.iload_n 2, 1) := by decide +kernel
theorem dX7_lack_22 : decode cX7_lack 22 = .ok (.invokevirtual 158, 3) := by decide +kernel
theorem dX7_lack_25 : decode cX7_lack 25 = .ok (.aload_n 0, 1) := by decide +kernel
theorem dX7_lack_26 : decode cX7_lack 26 = .ok (.iconst 0, 1) := by decide +kernel
theorem dX7_lack_27 : decode cX7_lack 27 = .ok (.putfield 105, 3) := by decide +kernel
theorem dX7_lack_30 : decode cX7_lack 30 = .ok (.aload_n 0, 1) := by decide +kernel
theorem dX7_lack_31 : decode cX7_lack 31 = .ok (.iload_n 1, 1) := by decide +kernel
theorem dX7_lack_32 : decode cX7_lack 32 = .ok (.invokevirtual 162, 3) := by decide +kernel
theorem dX7_lack_35 : decode cX7_lack 35 = .ok (.istore_n 3, 1) := by decide +kernel
theorem dX7_lack_36 : decode cX7_lack 36 = .ok (.iconst 0, 1) := by decide +kernel
theorem dX7_lack_37 : decode cX7_lack 37 = .ok (.istore 4, 2) := by decide +kernel
theorem dX7_lack_39 : decode cX7_lack 39 = .ok (.iconst 0, 1) := by decide +kernel
theorem dX7_lack_40 : decode cX7_lack 40 = .ok (.istore 5, 2) := by decide +kernel
theorem dX7_lack_42 : decode cX7_lack 42 = .ok (.iload 5, 2) := by decide +kernel
theorem dX7_lack_44 : decode cX7_lack 44 = .ok (.iload_n 3, 1) := by decide +kernel
theorem dX7_lack_45 : decode cX7_lack 45 = .ok (.if_icmp .gt 49, 3) := by decide +kernel
theorem dX7_lack_48 : decode cX7_lack 48 = .ok (.iload 5, 2) := by decide +kernel
theorem dX7_lack_50 : decode cX7_lack 50 = .ok (.iload_n 3, 1) := by decide +kernel
theorem dX7_lack_51 : decode cX7_lack 51 = .ok (.iand, 1) := by decide +kernel
theorem dX7_lack_52 : decode cX7_lack 52 = .ok (.iload 5, 2) := by decide +kernel
theorem dX7_lack_54 : decode cX7_lack 54 = .ok (.if_icmp .ne 34, 3) := by decide +kernel
theorem dX7_lack_57 : decode cX7_lack 57 = .ok (.aload_n 0, 1) := by decide +kernel
theorem dX7_lack_58 : decode cX7_lack 58 = .ok (.getfield 48, 3) := by decide +kernel
theorem dX7_lack_61 : decode cX7_lack 61 = .ok (.iload 5, 2) := by decide +kernel
theorem dX7_lack_63 : decode cX7_lack 63 = .ok (.baload, 1) := by decide +kernel
theorem dX7_lack_64 : decode cX7_lack 64 = .ok (.ifCond .eq 24, 3) := by decide +kernel
theorem dX7_lack_67 : decode cX7_lack 67 = .ok (.aload_n 0, 1) := by decide +kernel
theorem dX7_lack_68 : decode cX7_lack 68 = .ok (.getfield 42, 3) := by decide +kernel
theorem dX7_lack_71 : decode cX7_lack 71 = .ok (.iload 5, 2) := by decide +kernel
theorem dX7_lack_73 : decode cX7_lack 73 = .ok (.iaload, 1) := by decide +kernel
theorem dX7_lack_74 : decode cX7_lack 74 = .ok (.iload 4, 2) := by decide +kernel
theorem dX7_lack_76 : decode cX7_lack 76 = .ok (.if_icmp .le 12, 3) := by decide +kernel
theorem dX7_lack_79 : decode cX7_lack 79 = .ok (.aload_n 0, 1) := by decide +kernel
theorem dX7_lack_80 : decode cX7_lack 80 = .ok (.getfield 42, 3) := by decide +kernel
theorem dX7_lack_83 : decode cX7_lack 83 = .ok (.iload 5, 2) := by decide +kernel
theorem dX7_lack_85 : decode cX7_lack 85 = .ok (.iaload, 1) := by decide +kernel
theorem dX7_lack_86 : decode cX7_lack 86 = .ok (.istore 4, 2) := by decide +kernel
theorem dX7_lack_88 : decode cX7_lack 88 = .ok (.iinc 5 1, 3) := by decide +kernel
theorem dX7_lack_91 : decode cX7_lack 91 = .ok (.goto (-49), 3) := by decide +kernel
theorem dX7_lack_94 : decode cX7_lack 94 = .ok (.aload_n 0, 1) := by decide +kernel
theorem dX7_lack_95 : decode cX7_lack 95 = .ok (.getfield 42, 3) := by decide +kernel
theorem dX7_lack_98 : decode cX7_lack 98 = .ok (.iload_n 3, 1) := by decide +kernel
theorem dX7_lack_99 : decode cX7_lack 99 = .ok (.iaload, 1) := by decide +kernel
theorem dX7_lack_100 : decode cX7_lack 100 = .ok (.iload 4, 2) := by decide +kernel
theorem dX7_lack_102 : decode cX7_lack 102 = .ok (.isub, 1) := by decide +kernel
theorem dX7_lack_103 : decode cX7_lack 103 = .ok (.ireturn, 1) := by decide +kernel
set_option maxRecDepth 20000 in
theorem ggX7_leftOf_X7_setOf : GoodIn wsX7_leftOf wsX7_setOf := goodIn_r _ [7, 8, 9, 10, 23, 24, 25, 26, 27, 28, 29, 30, 31, 32, 33, 34, 35, 36, 37, 38, 39, 40, 41, 42, 43, 44, 45, 46, 47, 48, 49, 50, 51, 52, 53, 54, 55, 56, 57, 58, 59, 60, 61, 62, 63, 64] (by decide +kernel) (by decide +kernel)
set_option maxRecDepth 20000 in
theorem gX7_leftOf_X7_setOf : GoodIn wsX7_leftOf (wsV RX7 162 RX7 yX7_setOf wsX7_setOf) := goodIn_app (goodIn_of _ (by decide +kernel)) ggX7_leftOf_X7_setOf
set_option maxRecDepth 20000 in
theorem ggX7_leftOf_X7_sizes : GoodIn wsX7_leftOf wsX7_sizes := goodIn_r _ [14, 15, 16, 17, 18, 19, 6, 20, 21, 22, 23, 24, 25, 26, 27, 28, 29, 30, 31, 32, 33, 34, 35, 36, 37, 38, 39, 40, 41, 42, 43, 44, 45, 46, 47, 48, 49, 50, 51, 52, 53, 54, 55, 56, 57, 58, 59, 60, 61, 62, 63, 64] (by decide +kernel) (by decide +kernel)
set_option maxRecDepth 20000 in
theorem gX7_leftOf_X7_sizes : GoodIn wsX7_leftOf (wsV RX7 149 RX7 yX7_sizes wsX7_sizes) := goodIn_app (goodIn_of _ (by decide +kernel)) ggX7_leftOf_X7_sizes
theorem dX7_leftOf_0 : decode cX7_leftOf 0 = .ok (.aload_n 0, 1) := by decide +kernel
theorem dX7_leftOf_1 : decode cX7_leftOf 1 = .ok (.getfield 48, 3) := by decide +kernel
theorem dX7_leftOf_4 : decode cX7_leftOf 4 = .ok (.aload_n 0, 1) := by decide +kernel
theorem dX7_leftOf_5 : decode cX7_leftOf 5 = .ok (.iload_n 1, 1) := by decide +kernel
theorem dX7_leftOf_6 : decode cX7_leftOf 6 = .ok (.invokevirtual 162, 3) := by decide +kernel
theorem dX7_leftOf_9 : decode cX7_leftOf 9 = .ok (.baload, 1) := by decide +kernel
theorem dX7_leftOf_10 : decode cX7_leftOf 10 = .ok (.ifCond .eq 22, 3) := by decide +kernel
theorem dX7_leftOf_13 : decode cX7_leftOf 13 = .ok (.aload_n 0, 1) := by decide +kernel
theorem dX7_leftOf_14 : decode cX7_leftOf 14 = .ok (.iload_n 2, 1) := by decide +kernel
theorem dX7_leftOf_15 : decode cX7_leftOf 15 = .ok (.invokevirtual 149, 3) := by decide +kernel
theorem dX7_leftOf_18 : decode cX7_leftOf 18 = .ok (.aload_n 0, 1) := by decide +kernel
theorem dX7_leftOf_19 : decode cX7_leftOf 19 = .ok (.getfield 42, 3) := by decide +kernel
theorem dX7_leftOf_22 : decode cX7_leftOf 22 = .ok (.aload_n 0, 1) := by decide +kernel
theorem dX7_leftOf_23 : decode cX7_leftOf 23 = .ok (.iload_n 1, 1) := by decide +kernel
theorem dX7_leftOf_24 : decode cX7_leftOf 24 = .ok (.invokevirtual 162, 3) := by decide +kernel
theorem dX7_leftOf_27 : decode cX7_leftOf 27 = .ok (.iaload, 1) := by decide +kernel
theorem dX7_leftOf_28 : decode cX7_leftOf 28 = .ok (.isub, 1) := by decide +kernel
theorem dX7_leftOf_29 : decode cX7_leftOf 29 = .ok (.goto 4, 3) := by decide +kernel
theorem dX7_leftOf_32 : decode cX7_leftOf 32 = .ok (.iconst 0, 1) := by decide +kernel
theorem dX7_leftOf_33 : decode cX7_leftOf 33 = .ok (.ireturn, 1) := by decide +kernel
set_option maxRecDepth 20000 in
theorem ggX7_left_X7_isHour : GoodIn wsX7_left wsX7_isHour := goodIn_r _ [5] (by decide +kernel) (by decide +kernel)
set_option maxRecDepth 20000 in
theorem gX7_left_X7_isHour : GoodIn wsX7_left (va_wsS RX7 152 yX7_isHour wsX7_isHour) := goodIn_app (goodIn_of _ (by decide +kernel)) ggX7_left_X7_isHour
set_option maxRecDepth 20000 in
theorem ggX7_left_X7_isFall : GoodIn wsX7_left wsX7_isFall := goodIn_r _ [8] (by decide +kernel) (by decide +kernel)
set_option maxRecDepth 20000 in
theorem gX7_left_X7_isFall : GoodIn wsX7_left (va_wsS RX7 155 yX7_isFall wsX7_isFall) := goodIn_app (goodIn_of _ (by decide +kernel)) ggX7_left_X7_isFall
set_option maxRecDepth 20000 in
theorem ggX7_left_X7_refuse : GoodIn wsX7_left wsX7_refuse := goodIn_r _ [12, 1, 45, 46, 47, 48, 49, 50, 51, 52, 53, 54, 55, 56, 57, 58, 59, 60, 61, 62, 63, 64, 65, 66, 67, 68, 69, 70, 71, 72, 73, 74, 75, 76, 77, 78, 79, 80, 81, 82, 83, 84, 85, 86] (by decide +kernel) (by decide +kernel)
set_option maxRecDepth 20000 in
theorem gX7_left_X7_refuse : GoodIn wsX7_left (wsV RX7 126 RX7 yX7_refuse wsX7_refuse) := goodIn_app (goodIn_of _ (by decide +kernel)) ggX7_left_X7_refuse
set_option maxRecDepth 20000 in
theorem ggX7_left_X7_look : GoodIn wsX7_left wsX7_look := goodIn_r _ [16, 17, 18, 19, 20, 21, 22, 23, 24, 25, 26, 27, 4, 28, 29, 30, 45, 46, 47, 48, 49, 50, 51, 52, 53, 54, 55, 56, 57, 58, 59, 60, 61, 62, 63, 64, 65, 66, 67, 68, 69, 70, 71, 72, 73, 74, 75, 76, 77, 78, 79, 80, 81, 82, 83, 84, 85, 86] (by decide +kernel) (by decide +kernel)
set_option maxRecDepth 20000 in
theorem gX7_left_X7_look : GoodIn wsX7_left (wsV RX7 158 RX7 yX7_look wsX7_look) := goodIn_app (goodIn_of _ (by decide +kernel)) ggX7_left_X7_look
set_option maxRecDepth 20000 in
theorem ggX7_left_X7_leftOf : GoodIn wsX7_left wsX7_leftOf := goodIn_r _ [34, 22, 18, 35, 36, 37, 4, 38, 17, 39, 40, 41, 42, 43, 44, 23, 24, 25, 26, 27, 28, 29, 30, 45, 46, 47, 48, 49, 50, 51, 52, 53, 54, 55, 56, 57, 58, 59, 60, 61, 62, 63, 64, 65, 66, 67, 68, 69, 70, 71, 72, 73, 74, 75, 76, 77, 78, 79, 80, 81, 82, 83, 84, 85, 86] (by decide +kernel) (by decide +kernel)
set_option maxRecDepth 20000 in
theorem gX7_left_X7_leftOf : GoodIn wsX7_left (wsV RX7 165 RX7 yX7_leftOf wsX7_leftOf) := goodIn_app (goodIn_of _ (by decide +kernel)) ggX7_left_X7_leftOf
theorem dX7_left_0 : decode cX7_left 0 = .ok (.iload_n 1, 1) := by decide +kernel
theorem dX7_left_1 : decode cX7_left 1 = .ok (.invokestatic 152, 3) := by decide +kernel
theorem dX7_left_4 : decode cX7_left 4 = .ok (.ifCond .eq 10, 3) := by decide +kernel
theorem dX7_left_7 : decode cX7_left 7 = .ok (.iload_n 2, 1) := by decide +kernel
theorem dX7_left_8 : decode cX7_left 8 = .ok (.invokestatic 155, 3) := by decide +kernel
theorem dX7_left_11 : decode cX7_left 11 = .ok (.ifCond .ne 9, 3) := by decide +kernel
theorem dX7_left_14 : decode cX7_left 14 = .ok (.aload_n 0, 1) := by decide +kernel
theorem dX7_left_15 : decode cX7_left 15 = .ok (.iconst 1, 1) := by decide +kernel
theorem dX7_left_16 : decode cX7_left 16 = .ok (.invokevirtual 126, 3) := by decide +kernel
theorem dX7_left_19 : decode cX7_left 19 = .ok (.ireturn, 1) := by decide +kernel
theorem dX7_left_20 : decode cX7_left 20 = .ok (.aload_n 0, 1) := by decide +kernel
theorem dX7_left_21 : decode cX7_left 21 = .ok (.iload_n 2, 1) := by decide +kernel
theorem dX7_left_22 : decode cX7_left 22 = .ok (.invokevirtual 158, 3) := by decide +kernel
theorem dX7_left_25 : decode cX7_left 25 = .ok (.aload_n 0, 1) := by decide +kernel
theorem dX7_left_26 : decode cX7_left 26 = .ok (.iconst 0, 1) := by decide +kernel
theorem dX7_left_27 : decode cX7_left 27 = .ok (.putfield 105, 3) := by decide +kernel
theorem dX7_left_30 : decode cX7_left 30 = .ok (.aload_n 0, 1) := by decide +kernel
theorem dX7_left_31 : decode cX7_left 31 = .ok (.iload_n 1, 1) := by decide +kernel
theorem dX7_left_32 : decode cX7_left 32 = .ok (.iload_n 2, 1) := by decide +kernel
theorem dX7_left_33 : decode cX7_left 33 = .ok (.invokevirtual 165, 3) := by decide +kernel
theorem dX7_left_36 : decode cX7_left 36 = .ok (.ireturn, 1) := by decide +kernel
set_option maxRecDepth 20000 in
theorem ggX7_enough_X7_refuse : GoodIn wsX7_enough wsX7_refuse := goodIn_r _ [8, 1, 31, 32, 33, 34, 35, 36, 37, 38, 39, 40, 41, 42, 43, 44, 45, 46, 47, 48, 49, 50, 51, 52, 53, 54, 55, 56, 57, 58, 59, 60, 61, 62, 63, 64, 65, 66, 67, 68, 69, 70, 71, 72] (by decide +kernel) (by decide +kernel)
set_option maxRecDepth 20000 in
theorem gX7_enough_X7_refuse : GoodIn wsX7_enough (wsV RX7 126 RX7 yX7_refuse wsX7_refuse) := goodIn_app (goodIn_of _ (by decide +kernel)) ggX7_enough_X7_refuse
set_option maxRecDepth 20000 in
theorem ggX7_enough_X7_look : GoodIn wsX7_enough wsX7_look := goodIn_r _ [12, 13, 14, 15, 16, 17, 3, 2, 18, 19, 20, 21, 7, 22, 23, 24, 31, 32, 33, 34, 35, 36, 37, 38, 39, 40, 41, 42, 43, 44, 45, 46, 47, 48, 49, 50, 51, 52, 53, 54, 55, 56, 57, 58, 59, 60, 61, 62, 63, 64, 65, 66, 67, 68, 69, 70, 71, 72] (by decide +kernel) (by decide +kernel)
set_option maxRecDepth 20000 in
theorem gX7_enough_X7_look : GoodIn wsX7_enough (wsV RX7 158 RX7 yX7_look wsX7_look) := goodIn_app (goodIn_of _ (by decide +kernel)) ggX7_enough_X7_look
set_option maxRecDepth 20000 in
theorem ggX7_enough_X7_setOf : GoodIn wsX7_enough wsX7_setOf := goodIn_r _ [28, 13, 29, 30, 31, 32, 33, 34, 35, 36, 37, 38, 39, 40, 41, 42, 43, 44, 45, 46, 47, 48, 49, 50, 51, 52, 53, 54, 55, 56, 57, 58, 59, 60, 61, 62, 63, 64, 65, 66, 67, 68, 69, 70, 71, 72] (by decide +kernel) (by decide +kernel)
set_option maxRecDepth 20000 in
theorem gX7_enough_X7_setOf : GoodIn wsX7_enough (wsV RX7 162 RX7 yX7_setOf wsX7_setOf) := goodIn_app (goodIn_of _ (by decide +kernel)) ggX7_enough_X7_setOf
theorem dX7_enough_0 : decode cX7_enough 0 = .ok (.iload_n 1, 1) := by decide +kernel
theorem dX7_enough_1 : decode cX7_enough 1 = .ok (.ifCond .lt 8, 3) := by decide +kernel
theorem dX7_enough_4 : decode cX7_enough 4 = .ok (.iload_n 1, 1) := by decide +kernel
theorem dX7_enough_5 : decode cX7_enough 5 = .ok (.iconst 2, 1) := by decide +kernel
theorem dX7_enough_6 : decode cX7_enough 6 = .ok (.if_icmp .le 9, 3) := by decide +kernel
theorem dX7_enough_9 : decode cX7_enough 9 = .ok (.aload_n 0, 1) := by decide +kernel
theorem dX7_enough_10 : decode cX7_enough 10 = .ok (.iconst 1, 1) := by decide +kernel
theorem dX7_enough_11 : decode cX7_enough 11 = .ok (.invokevirtual 126, 3) := by decide +kernel
theorem dX7_enough_14 : decode cX7_enough 14 = .ok (.ireturn, 1) := by decide +kernel
theorem dX7_enough_15 : decode cX7_enough 15 = .ok (.aload_n 0, 1) := by decide +kernel
theorem dX7_enough_16 : decode cX7_enough 16 = .ok (.iconst 0, 1) := by decide +kernel
theorem dX7_enough_17 : decode cX7_enough 17 = .ok (.putfield 105, 3) := by decide +kernel
theorem dX7_enough_20 : decode cX7_enough 20 = .ok (.bipush 24, 2) := by decide +kernel
theorem dX7_enough_22 : decode cX7_enough 22 = .ok (.istore_n 2, 1) := by decide +kernel
theorem dX7_enough_23 : decode cX7_enough 23 = .ok (.iconst (-1), 1) := by decide +kernel
theorem dX7_enough_24 : decode cX7_enough 24 = .ok (.istore_n 3, 1) := by decide +kernel
theorem dX7_enough_25 : decode cX7_enough 25 = .ok (.iconst 0, 1) := by decide +kernel
theorem dX7_enough_26 : decode cX7_enough 26 = .ok (.istore 4, 2) := by decide +kernel
theorem dX7_enough_28 : decode cX7_enough 28 = .ok (.iload 4, 2) := by decide +kernel
theorem dX7_enough_30 : decode cX7_enough 30 = .ok (.bipush 17, 2) := by decide +kernel
theorem dX7_enough_32 : decode cX7_enough 32 = .ok (.if_icmp .ge 93, 3) := by decide +kernel
theorem dX7_enough_35 : decode cX7_enough 35 = .ok (.iload 4, 2) := by decide +kernel
theorem dX7_enough_37 : decode cX7_enough 37 = .ok (.ifCond .le 7, 3) := by decide +kernel
theorem dX7_enough_40 : decode cX7_enough 40 = .ok (.iload_n 1, 1) := by decide +kernel
theorem dX7_enough_41 : decode cX7_enough 41 = .ok (.ifCond .eq 78, 3) := by decide +kernel
theorem dX7_enough_44 : decode cX7_enough 44 = .ok (.iload 4, 2) := by decide +kernel
theorem dX7_enough_46 : decode cX7_enough 46 = .ok (.aload_n 0, 1) := by decide +kernel
theorem dX7_enough_47 : decode cX7_enough 47 = .ok (.getfield 130, 3) := by decide +kernel
theorem dX7_enough_50 : decode cX7_enough 50 = .ok (.if_icmp .le 10, 3) := by decide +kernel
theorem dX7_enough_53 : decode cX7_enough 53 = .ok (.iload 4, 2) := by decide +kernel
theorem dX7_enough_55 : decode cX7_enough 55 = .ok (.bipush 13, 2) := by decide +kernel
theorem dX7_enough_57 : decode cX7_enough 57 = .ok (.if_icmp .lt 62, 3) := by decide +kernel
theorem dX7_enough_60 : decode cX7_enough 60 = .ok (.iload 4, 2) := by decide +kernel
theorem dX7_enough_62 : decode cX7_enough 62 = .ok (.bipush 12, 2) := by decide +kernel
theorem dX7_enough_64 : decode cX7_enough 64 = .ok (.if_icmp .le 11, 3) := by decide +kernel
theorem dX7_enough_67 : decode cX7_enough 67 = .ok (.iload_n 1, 1) := by decide +kernel
theorem dX7_enough_68 : decode cX7_enough 68 = .ok (.iconst 2, 1) := by decide +kernel
theorem dX7_enough_69 : decode cX7_enough 69 = .ok (.if_icmp .ge 6, 3) := by decide +kernel
theorem dX7_enough_72 : decode cX7_enough 72 = .ok (.goto 47, 3) := by decide +kernel
theorem dX7_enough_75 : decode cX7_enough 75 = .ok (.aload_n 0, 1) := by decide +kernel
theorem dX7_enough_76 : decode cX7_enough 76 = .ok (.iload 4, 2) := by decide +kernel
theorem dX7_enough_78 : decode cX7_enough 78 = .ok (.invokevirtual 158, 3) := by decide +kernel
theorem dX7_enough_81 : decode cX7_enough 81 = .ok (.iconst 0, 1) := by decide +kernel
theorem dX7_enough_82 : decode cX7_enough 82 = .ok (.istore 5, 2) := by decide +kernel
theorem dX7_enough_84 : decode cX7_enough 84 = .ok (.iload 5, 2) := by decide +kernel
theorem dX7_enough_86 : decode cX7_enough 86 = .ok (.iload_n 2, 1) := by decide +kernel
theorem dX7_enough_87 : decode cX7_enough 87 = .ok (.if_icmp .ge 32, 3) := by decide +kernel
theorem dX7_enough_90 : decode cX7_enough 90 = .ok (.aload_n 0, 1) := by decide +kernel
theorem dX7_enough_91 : decode cX7_enough 91 = .ok (.getfield 48, 3) := by decide +kernel
theorem dX7_enough_94 : decode cX7_enough 94 = .ok (.aload_n 0, 1) := by decide +kernel
theorem dX7_enough_95 : decode cX7_enough 95 = .ok (.iload 5, 2) := by decide +kernel
theorem dX7_enough_97 : decode cX7_enough 97 = .ok (.invokevirtual 162, 3) := by decide +kernel
theorem dX7_enough_100 : decode cX7_enough 100 = .ok (.baload, 1) := by decide +kernel
theorem dX7_enough_101 : decode cX7_enough 101 = .ok (.ifCond .eq 6, 3) := by decide +kernel
theorem dX7_enough_104 : decode cX7_enough 104 = .ok (.goto 9, 3) := by decide +kernel
theorem dX7_enough_107 : decode cX7_enough 107 = .ok (.iload 5, 2) := by decide +kernel
theorem dX7_enough_109 : decode cX7_enough 109 = .ok (.istore_n 2, 1) := by decide +kernel
theorem dX7_enough_110 : decode cX7_enough 110 = .ok (.iload 4, 2) := by decide +kernel
theorem dX7_enough_112 : decode cX7_enough 112 = .ok (.istore_n 3, 1) := by decide +kernel
theorem dX7_enough_113 : decode cX7_enough 113 = .ok (.iinc 5 1, 3) := by decide +kernel
theorem dX7_enough_116 : decode cX7_enough 116 = .ok (.goto (-32), 3) := by decide +kernel
theorem dX7_enough_119 : decode cX7_enough 119 = .ok (.iinc 4 1, 3) := by decide +kernel
theorem dX7_enough_122 : decode cX7_enough 122 = .ok (.goto (-94), 3) := by decide +kernel
theorem dX7_enough_125 : decode cX7_enough 125 = .ok (.iload_n 2, 1) := by decide +kernel
theorem dX7_enough_126 : decode cX7_enough 126 = .ok (.bipush 24, 2) := by decide +kernel
theorem dX7_enough_128 : decode cX7_enough 128 = .ok (.if_icmp .ne 8, 3) := by decide +kernel
theorem dX7_enough_131 : decode cX7_enough 131 = .ok (.bipush (-2), 2) := by decide +kernel
theorem dX7_enough_133 : decode cX7_enough 133 = .ok (.goto 9, 3) := by decide +kernel
theorem dX7_enough_136 : decode cX7_enough 136 = .ok (.bipush 100, 2) := by decide +kernel
theorem dX7_enough_138 : decode cX7_enough 138 = .ok (.iload_n 2, 1) := by decide +kernel
theorem dX7_enough_139 : decode cX7_enough 139 = .ok (.imul, 1) := by decide +kernel
theorem dX7_enough_140 : decode cX7_enough 140 = .ok (.iload_n 3, 1) := by decide +kernel
theorem dX7_enough_141 : decode cX7_enough 141 = .ok (.iadd, 1) := by decide +kernel
theorem dX7_enough_142 : decode cX7_enough 142 = .ok (.ireturn, 1) := by decide +kernel
set_option maxRecDepth 20000 in
theorem ggX7_batch_X7_refuse : GoodIn wsX7_batch wsX7_refuse := goodIn_r _ [11, 6, 12, 13, 14, 15, 16, 17, 18, 19, 20, 21, 22, 23, 24, 25, 26, 27, 28, 29, 30, 31, 32, 33, 34, 35, 36, 37, 38, 39, 40, 41, 42, 43, 44, 45, 46, 47, 48, 49, 50, 51, 52, 53] (by decide +kernel) (by decide +kernel)
set_option maxRecDepth 20000 in
theorem gX7_batch_X7_refuse : GoodIn wsX7_batch (wsV RX7 126 RX7 yX7_refuse wsX7_refuse) := goodIn_app (goodIn_of _ (by decide +kernel)) ggX7_batch_X7_refuse
theorem dX7_batch_0 : decode cX7_batch 0 = .ok (.iload_n 1, 1) := by decide +kernel
theorem dX7_batch_1 : decode cX7_batch 1 = .ok (.iconst 1, 1) := by decide +kernel
theorem dX7_batch_2 : decode cX7_batch 2 = .ok (.if_icmp .lt 45, 3) := by decide +kernel
theorem dX7_batch_5 : decode cX7_batch 5 = .ok (.iload_n 1, 1) := by decide +kernel
theorem dX7_batch_6 : decode cX7_batch 6 = .ok (.sipush 10000, 3) := by decide +kernel
theorem dX7_batch_9 : decode cX7_batch 9 = .ok (.if_icmp .gt 38, 3) := by decide +kernel
theorem dX7_batch_12 : decode cX7_batch 12 = .ok (.iload_n 2, 1) := by decide +kernel
theorem dX7_batch_13 : decode cX7_batch 13 = .ok (.ifCond .lt 34, 3) := by decide +kernel
theorem dX7_batch_16 : decode cX7_batch 16 = .ok (.iload_n 2, 1) := by decide +kernel
theorem dX7_batch_17 : decode cX7_batch 17 = .ok (.bipush 24, 2) := by decide +kernel
theorem dX7_batch_19 : decode cX7_batch 19 = .ok (.if_icmp .ge 28, 3) := by decide +kernel
theorem dX7_batch_22 : decode cX7_batch 22 = .ok (.iload_n 3, 1) := by decide +kernel
theorem dX7_batch_23 : decode cX7_batch 23 = .ok (.iload_n 2, 1) := by decide +kernel
theorem dX7_batch_24 : decode cX7_batch 24 = .ok (.if_icmp .le 23, 3) := by decide +kernel
theorem dX7_batch_27 : decode cX7_batch 27 = .ok (.iload_n 3, 1) := by decide +kernel
theorem dX7_batch_28 : decode cX7_batch 28 = .ok (.bipush 24, 2) := by decide +kernel
theorem dX7_batch_30 : decode cX7_batch 30 = .ok (.if_icmp .gt 17, 3) := by decide +kernel
theorem dX7_batch_33 : decode cX7_batch 33 = .ok (.iload 4, 2) := by decide +kernel
theorem dX7_batch_35 : decode cX7_batch 35 = .ok (.iconst 1, 1) := by decide +kernel
theorem dX7_batch_36 : decode cX7_batch 36 = .ok (.if_icmp .lt 11, 3) := by decide +kernel
theorem dX7_batch_39 : decode cX7_batch 39 = .ok (.iload 4, 2) := by decide +kernel
theorem dX7_batch_41 : decode cX7_batch 41 = .ok (.sipush 1000, 3) := by decide +kernel
theorem dX7_batch_44 : decode cX7_batch 44 = .ok (.if_icmp .le 9, 3) := by decide +kernel
theorem dX7_batch_47 : decode cX7_batch 47 = .ok (.aload_n 0, 1) := by decide +kernel
theorem dX7_batch_48 : decode cX7_batch 48 = .ok (.iconst 1, 1) := by decide +kernel
theorem dX7_batch_49 : decode cX7_batch 49 = .ok (.invokevirtual 126, 3) := by decide +kernel
theorem dX7_batch_52 : decode cX7_batch 52 = .ok (.ireturn, 1) := by decide +kernel
theorem dX7_batch_53 : decode cX7_batch 53 = .ok (.aload_n 0, 1) := by decide +kernel
theorem dX7_batch_54 : decode cX7_batch 54 = .ok (.getfield 143, 3) := by decide +kernel
theorem dX7_batch_57 : decode cX7_batch 57 = .ok (.bipush 8, 2) := by decide +kernel
theorem dX7_batch_59 : decode cX7_batch 59 = .ok (.if_icmp .ne 9, 3) := by decide +kernel
theorem dX7_batch_62 : decode cX7_batch 62 = .ok (.aload_n 0, 1) := by decide +kernel
theorem dX7_batch_63 : decode cX7_batch 63 = .ok (.iconst 4, 1) := by decide +kernel
theorem dX7_batch_64 : decode cX7_batch 64 = .ok (.invokevirtual 126, 3) := by decide +kernel
theorem dX7_batch_67 : decode cX7_batch 67 = .ok (.ireturn, 1) := by decide +kernel
theorem dX7_batch_68 : decode cX7_batch 68 = .ok (.aload_n 0, 1) := by decide +kernel
theorem dX7_batch_69 : decode cX7_batch 69 = .ok (.getfield 51, 3) := by decide +kernel
theorem dX7_batch_72 : decode cX7_batch 72 = .ok (.aload_n 0, 1) := by decide +kernel
theorem dX7_batch_73 : decode cX7_batch 73 = .ok (.getfield 143, 3) := by decide +kernel
theorem dX7_batch_76 : decode cX7_batch 76 = .ok (.iload_n 1, 1) := by decide +kernel
theorem dX7_batch_77 : decode cX7_batch 77 = .ok (.iastore, 1) := by decide +kernel
theorem dX7_batch_78 : decode cX7_batch 78 = .ok (.aload_n 0, 1) := by decide +kernel
theorem dX7_batch_79 : decode cX7_batch 79 = .ok (.getfield 54, 3) := by decide +kernel
theorem dX7_batch_82 : decode cX7_batch 82 = .ok (.aload_n 0, 1) := by decide +kernel
theorem dX7_batch_83 : decode cX7_batch 83 = .ok (.getfield 143, 3) := by decide +kernel
theorem dX7_batch_86 : decode cX7_batch 86 = .ok (.iload_n 2, 1) := by decide +kernel
theorem dX7_batch_87 : decode cX7_batch 87 = .ok (.iastore, 1) := by decide +kernel
theorem dX7_batch_88 : decode cX7_batch 88 = .ok (.aload_n 0, 1) := by decide +kernel
theorem dX7_batch_89 : decode cX7_batch 89 = .ok (.getfield 57, 3) := by decide +kernel
theorem dX7_batch_92 : decode cX7_batch 92 = .ok (.aload_n 0, 1) := by decide +kernel
theorem dX7_batch_93 : decode cX7_batch 93 = .ok (.getfield 143, 3) := by decide +kernel
theorem dX7_batch_96 : decode cX7_batch 96 = .ok (.iload_n 3, 1) := by decide +kernel
theorem dX7_batch_97 : decode cX7_batch 97 = .ok (.iastore, 1) := by decide +kernel
theorem dX7_batch_98 : decode cX7_batch 98 = .ok (.aload_n 0, 1) := by decide +kernel
theorem dX7_batch_99 : decode cX7_batch 99 = .ok (.getfield 60, 3) := by decide +kernel
theorem dX7_batch_102 : decode cX7_batch 102 = .ok (.aload_n 0, 1) := by decide +kernel
theorem dX7_batch_103 : decode cX7_batch 103 = .ok (.getfield 143, 3) := by decide +kernel
theorem dX7_batch_106 : decode cX7_batch 106 = .ok (.iload 4, 2) := by decide +kernel
theorem dX7_batch_108 : decode cX7_batch 108 = .ok (.iastore, 1) := by decide +kernel
theorem dX7_batch_109 : decode cX7_batch 109 = .ok (.aload_n 0, 1) := by decide +kernel
theorem dX7_batch_110 : decode cX7_batch 110 = .ok (.dup, 1) := by decide +kernel
theorem dX7_batch_111 : decode cX7_batch 111 = .ok (.getfield 143, 3) := by decide +kernel
theorem dX7_batch_114 : decode cX7_batch 114 = .ok (.iconst 1, 1) := by decide +kernel
theorem dX7_batch_115 : decode cX7_batch 115 = .ok (.iadd, 1) := by decide +kernel
theorem dX7_batch_116 : decode cX7_batch 116 = .ok (.putfield 143, 3) := by decide +kernel
theorem dX7_batch_119 : decode cX7_batch 119 = .ok (.aload_n 0, 1) := by decide +kernel
theorem dX7_batch_120 : decode cX7_batch 120 = .ok (.iconst 0, 1) := by decide +kernel
theorem dX7_batch_121 : decode cX7_batch 121 = .ok (.putfield 105, 3) := by decide +kernel
theorem dX7_batch_124 : decode cX7_batch 124 = .ok (.aload_n 0, 1) := by decide +kernel
theorem dX7_batch_125 : decode cX7_batch 125 = .ok (.getfield 143, 3) := by decide +kernel
theorem dX7_batch_128 : decode cX7_batch 128 = .ok (.iconst 1, 1) := by decide +kernel
theorem dX7_batch_129 : decode cX7_batch 129 = .ok (.isub, 1) := by decide +kernel
theorem dX7_batch_130 : decode cX7_batch 130 = .ok (.ireturn, 1) := by decide +kernel
theorem dX7_isIn_0 : decode cX7_isIn 0 = .ok (.iload_n 2, 1) := by decide +kernel
theorem dX7_isIn_1 : decode cX7_isIn 1 = .ok (.aload_n 0, 1) := by decide +kernel
theorem dX7_isIn_2 : decode cX7_isIn 2 = .ok (.getfield 54, 3) := by decide +kernel
theorem dX7_isIn_5 : decode cX7_isIn 5 = .ok (.iload_n 1, 1) := by decide +kernel
theorem dX7_isIn_6 : decode cX7_isIn 6 = .ok (.iaload, 1) := by decide +kernel
theorem dX7_isIn_7 : decode cX7_isIn 7 = .ok (.if_icmp .lt 17, 3) := by decide +kernel
theorem dX7_isIn_10 : decode cX7_isIn 10 = .ok (.iload_n 2, 1) := by decide +kernel
theorem dX7_isIn_11 : decode cX7_isIn 11 = .ok (.aload_n 0, 1) := by decide +kernel
theorem dX7_isIn_12 : decode cX7_isIn 12 = .ok (.getfield 57, 3) := by decide +kernel
theorem dX7_isIn_15 : decode cX7_isIn 15 = .ok (.iload_n 1, 1) := by decide +kernel
theorem dX7_isIn_16 : decode cX7_isIn 16 = .ok (.iaload, 1) := by decide +kernel
theorem dX7_isIn_17 : decode cX7_isIn 17 = .ok (.if_icmp .ge 7, 3) := by decide +kernel
theorem dX7_isIn_20 : decode cX7_isIn 20 = .ok (.iconst 1, 1) := by decide +kernel
theorem dX7_isIn_21 : decode cX7_isIn 21 = .ok (.goto 4, 3) := by decide +kernel
theorem dX7_isIn_24 : decode cX7_isIn 24 = .ok (.iconst 0, 1) := by decide +kernel
theorem dX7_isIn_25 : decode cX7_isIn 25 = .ok (.ireturn, 1) := by decide +kernel
set_option maxRecDepth 20000 in
theorem ggX7_goes_X7_isIn : GoodIn wsX7_goes wsX7_isIn := goodIn_r _ [13, 14, 15, 16, 17, 18, 19, 20, 21, 22, 23, 24, 25, 26, 27, 28, 29, 30, 31, 32, 33, 34, 35, 36, 37, 38, 39, 40, 41, 42, 43, 44, 45, 46, 47, 48, 49, 50, 51, 52, 53, 54, 55, 56, 57] (by decide +kernel) (by decide +kernel)
set_option maxRecDepth 20000 in
theorem gX7_goes_X7_isIn : GoodIn wsX7_goes (wsV RX7 168 RX7 yX7_isIn wsX7_isIn) := goodIn_app (goodIn_of _ (by decide +kernel)) ggX7_goes_X7_isIn
theorem dX7_goes_0 : decode cX7_goes 0 = .ok (.iload_n 1, 1) := by decide +kernel
theorem dX7_goes_1 : decode cX7_goes 1 = .ok (.bipush 33, 2) := by decide +kernel
theorem dX7_goes_3 : decode cX7_goes 3 = .ok (.if_icmp .ne 29, 3) := by decide +kernel
theorem dX7_goes_6 : decode cX7_goes 6 = .ok (.iload_n 2, 1) := by decide +kernel
theorem dX7_goes_7 : decode cX7_goes 7 = .ok (.aload_n 0, 1) := by decide +kernel
theorem dX7_goes_8 : decode cX7_goes 8 = .ok (.getfield 143, 3) := by decide +kernel
theorem dX7_goes_11 : decode cX7_goes 11 = .ok (.if_icmp .ge 19, 3) := by decide +kernel
theorem dX7_goes_14 : decode cX7_goes 14 = .ok (.aload_n 0, 1) := by decide +kernel
theorem dX7_goes_15 : decode cX7_goes 15 = .ok (.getfield 51, 3) := by decide +kernel
theorem dX7_goes_18 : decode cX7_goes 18 = .ok (.iload_n 2, 1) := by decide +kernel
theorem dX7_goes_19 : decode cX7_goes 19 = .ok (.iaload, 1) := by decide +kernel
theorem dX7_goes_20 : decode cX7_goes 20 = .ok (.aload_n 0, 1) := by decide +kernel
theorem dX7_goes_21 : decode cX7_goes 21 = .ok (.getfield 72, 3) := by decide +kernel
theorem dX7_goes_24 : decode cX7_goes 24 = .ok (.iload_n 2, 1) := by decide +kernel
theorem dX7_goes_25 : decode cX7_goes 25 = .ok (.iaload, 1) := by decide +kernel
theorem dX7_goes_26 : decode cX7_goes 26 = .ok (.isub, 1) := by decide +kernel
theorem dX7_goes_27 : decode cX7_goes 27 = .ok (.goto 4, 3) := by decide +kernel
theorem dX7_goes_30 : decode cX7_goes 30 = .ok (.iconst 0, 1) := by decide +kernel
theorem dX7_goes_31 : decode cX7_goes 31 = .ok (.ireturn, 1) := by decide +kernel
theorem dX7_goes_32 : decode cX7_goes 32 = .ok (.iload_n 2, 1) := by decide +kernel
theorem dX7_goes_33 : decode cX7_goes 33 = .ok (.bipush 33, 2) := by decide +kernel
theorem dX7_goes_35 : decode cX7_goes 35 = .ok (.if_icmp .ne 5, 3) := by decide +kernel
theorem dX7_goes_38 : decode cX7_goes 38 = .ok (.iconst 0, 1) := by decide +kernel
theorem dX7_goes_39 : decode cX7_goes 39 = .ok (.ireturn, 1) := by decide +kernel
theorem dX7_goes_40 : decode cX7_goes 40 = .ok (.iload_n 1, 1) := by decide +kernel
theorem dX7_goes_41 : decode cX7_goes 41 = .ok (.bipush 8, 2) := by decide +kernel
theorem dX7_goes_43 : decode cX7_goes 43 = .ok (.if_icmp .ge 78, 3) := by decide +kernel
theorem dX7_goes_46 : decode cX7_goes 46 = .ok (.iload_n 2, 1) := by decide +kernel
theorem dX7_goes_47 : decode cX7_goes 47 = .ok (.bipush 8, 2) := by decide +kernel
theorem dX7_goes_49 : decode cX7_goes 49 = .ok (.if_icmp .lt 72, 3) := by decide +kernel
theorem dX7_goes_52 : decode cX7_goes 52 = .ok (.iload_n 2, 1) := by decide +kernel
theorem dX7_goes_53 : decode cX7_goes 53 = .ok (.bipush 32, 2) := by decide +kernel
theorem dX7_goes_55 : decode cX7_goes 55 = .ok (.if_icmp .ge 66, 3) := by decide +kernel
theorem dX7_goes_58 : decode cX7_goes 58 = .ok (.iload_n 1, 1) := by decide +kernel
theorem dX7_goes_59 : decode cX7_goes 59 = .ok (.aload_n 0, 1) := by decide +kernel
theorem dX7_goes_60 : decode cX7_goes 60 = .ok (.getfield 143, 3) := by decide +kernel
theorem dX7_goes_63 : decode cX7_goes 63 = .ok (.if_icmp .ge 56, 3) := by decide +kernel
theorem dX7_goes_66 : decode cX7_goes 66 = .ok (.aload_n 0, 1) := by decide +kernel
theorem dX7_goes_67 : decode cX7_goes 67 = .ok (.iload_n 1, 1) := by decide +kernel
theorem dX7_goes_68 : decode cX7_goes 68 = .ok (.iload_n 2, 1) := by decide +kernel
theorem dX7_goes_69 : decode cX7_goes 69 = .ok (.bipush 8, 2) := by decide +kernel
theorem dX7_goes_71 : decode cX7_goes 71 = .ok (.isub, 1) := by decide +kernel
theorem dX7_goes_72 : decode cX7_goes 72 = .ok (.invokevirtual 168, 3) := by decide +kernel
theorem dX7_goes_75 : decode cX7_goes 75 = .ok (.ifCond .eq 44, 3) := by decide +kernel
theorem dX7_goes_78 : decode cX7_goes 78 = .ok (.aload_n 0, 1) := by decide +kernel
theorem dX7_goes_79 : decode cX7_goes 79 = .ok (.getfield 75, 3) := by decide +kernel
theorem dX7_goes_82 : decode cX7_goes 82 = .ok (.bipush 24, 2) := by decide +kernel
theorem dX7_goes_84 : decode cX7_goes 84 = .ok (.iload_n 1, 1) := by decide +kernel
theorem dX7_goes_85 : decode cX7_goes 85 = .ok (.imul, 1) := by decide +kernel
theorem dX7_goes_86 : decode cX7_goes 86 = .ok (.iload_n 2, 1) := by decide +kernel
theorem dX7_goes_87 : decode cX7_goes 87 = .ok (.iadd, 1) := by decide +kernel
theorem dX7_goes_88 : decode cX7_goes 88 = .ok (.bipush 8, 2) := by decide +kernel
theorem dX7_goes_90 : decode cX7_goes 90 = .ok (.isub, 1) := by decide +kernel
theorem dX7_goes_91 : decode cX7_goes 91 = .ok (.baload, 1) := by decide +kernel
theorem dX7_goes_92 : decode cX7_goes 92 = .ok (.ifCond .ne 27, 3) := by decide +kernel
theorem dX7_goes_95 : decode cX7_goes 95 = .ok (.aload_n 0, 1) := by decide +kernel
theorem dX7_goes_96 : decode cX7_goes 96 = .ok (.getfield 60, 3) := by decide +kernel
theorem dX7_goes_99 : decode cX7_goes 99 = .ok (.iload_n 1, 1) := by decide +kernel
theorem dX7_goes_100 : decode cX7_goes 100 = .ok (.iaload, 1) := by decide +kernel
theorem dX7_goes_101 : decode cX7_goes 101 = .ok (.aload_n 0, 1) := by decide +kernel
theorem dX7_goes_102 : decode cX7_goes 102 = .ok (.getfield 63, 3) := by decide +kernel
theorem dX7_goes_105 : decode cX7_goes 105 = .ok (.bipush 24, 2) := by decide +kernel
theorem dX7_goes_107 : decode cX7_goes 107 = .ok (.iload_n 1, 1) := by decide +kernel
theorem dX7_goes_108 : decode cX7_goes 108 = .ok (.imul, 1) := by decide +kernel
theorem dX7_goes_109 : decode cX7_goes 109 = .ok (.iload_n 2, 1) := by decide +kernel
theorem dX7_goes_110 : decode cX7_goes 110 = .ok (.iadd, 1) := by decide +kernel
theorem dX7_goes_111 : decode cX7_goes 111 = .ok (.bipush 8, 2) := by decide +kernel
theorem dX7_goes_113 : decode cX7_goes 113 = .ok (.isub, 1) := by decide +kernel
theorem dX7_goes_114 : decode cX7_goes 114 = .ok (.iaload, 1) := by decide +kernel
theorem dX7_goes_115 : decode cX7_goes 115 = .ok (.isub, 1) := by decide +kernel
theorem dX7_goes_116 : decode cX7_goes 116 = .ok (.goto 4, 3) := by decide +kernel
theorem dX7_goes_119 : decode cX7_goes 119 = .ok (.iconst 0, 1) := by decide +kernel
theorem dX7_goes_120 : decode cX7_goes 120 = .ok (.ireturn, 1) := by decide +kernel
theorem dX7_goes_121 : decode cX7_goes 121 = .ok (.iload_n 1, 1) := by decide +kernel
theorem dX7_goes_122 : decode cX7_goes 122 = .ok (.bipush 8, 2) := by decide +kernel
theorem dX7_goes_124 : decode cX7_goes 124 = .ok (.if_icmp .lt 59, 3) := by decide +kernel
theorem dX7_goes_127 : decode cX7_goes 127 = .ok (.iload_n 1, 1) := by decide +kernel
theorem dX7_goes_128 : decode cX7_goes 128 = .ok (.bipush 32, 2) := by decide +kernel
theorem dX7_goes_130 : decode cX7_goes 130 = .ok (.if_icmp .ge 53, 3) := by decide +kernel
theorem dX7_goes_133 : decode cX7_goes 133 = .ok (.iload_n 2, 1) := by decide +kernel
theorem dX7_goes_134 : decode cX7_goes 134 = .ok (.bipush 8, 2) := by decide +kernel
theorem dX7_goes_136 : decode cX7_goes 136 = .ok (.if_icmp .ge 47, 3) := by decide +kernel
theorem dX7_goes_139 : decode cX7_goes 139 = .ok (.iload_n 2, 1) := by decide +kernel
theorem dX7_goes_140 : decode cX7_goes 140 = .ok (.aload_n 0, 1) := by decide +kernel
theorem dX7_goes_141 : decode cX7_goes 141 = .ok (.getfield 143, 3) := by decide +kernel
theorem dX7_goes_144 : decode cX7_goes 144 = .ok (.if_icmp .ge 37, 3) := by decide +kernel
theorem dX7_goes_147 : decode cX7_goes 147 = .ok (.aload_n 0, 1) := by decide +kernel
theorem dX7_goes_148 : decode cX7_goes 148 = .ok (.getfield 75, 3) := by decide +kernel
theorem dX7_goes_151 : decode cX7_goes 151 = .ok (.bipush 24, 2) := by decide +kernel
theorem dX7_goes_153 : decode cX7_goes 153 = .ok (.iload_n 2, 1) := by decide +kernel
theorem dX7_goes_154 : decode cX7_goes 154 = .ok (.imul, 1) := by decide +kernel
theorem dX7_goes_155 : decode cX7_goes 155 = .ok (.iload_n 1, 1) := by decide +kernel
theorem dX7_goes_156 : decode cX7_goes 156 = .ok (.iadd, 1) := by decide +kernel
theorem dX7_goes_157 : decode cX7_goes 157 = .ok (.bipush 8, 2) := by decide +kernel
theorem dX7_goes_159 : decode cX7_goes 159 = .ok (.isub, 1) := by decide +kernel
theorem dX7_goes_160 : decode cX7_goes 160 = .ok (.baload, 1) := by decide +kernel
theorem dX7_goes_161 : decode cX7_goes 161 = .ok (.ifCond .ne 20, 3) := by decide +kernel
theorem dX7_goes_164 : decode cX7_goes 164 = .ok (.aload_n 0, 1) := by decide +kernel
theorem dX7_goes_165 : decode cX7_goes 165 = .ok (.getfield 63, 3) := by decide +kernel
theorem dX7_goes_168 : decode cX7_goes 168 = .ok (.bipush 24, 2) := by decide +kernel
theorem dX7_goes_170 : decode cX7_goes 170 = .ok (.iload_n 2, 1) := by decide +kernel
theorem dX7_goes_171 : decode cX7_goes 171 = .ok (.imul, 1) := by decide +kernel
theorem dX7_goes_172 : decode cX7_goes 172 = .ok (.iload_n 1, 1) := by decide +kernel
theorem dX7_goes_173 : decode cX7_goes 173 = .ok (.iadd, 1) := by decide +kernel
theorem dX7_goes_174 : decode cX7_goes 174 = .ok (.bipush 8, 2) := by decide +kernel
theorem dX7_goes_176 : decode cX7_goes 176 = .ok (.isub, 1) := by decide +kernel
theorem dX7_goes_177 : decode cX7_goes 177 = .ok (.iaload, 1) := by decide +kernel
theorem dX7_goes_178 : decode cX7_goes 178 = .ok (.goto 4, 3) := by decide +kernel
theorem dX7_goes_181 : decode cX7_goes 181 = .ok (.iconst 0, 1) := by decide +kernel
theorem dX7_goes_182 : decode cX7_goes 182 = .ok (.ireturn, 1) := by decide +kernel
theorem dX7_goes_183 : decode cX7_goes 183 = .ok (.iload_n 1, 1) := by decide +kernel
theorem dX7_goes_184 : decode cX7_goes 184 = .ok (.bipush 8, 2) := by decide +kernel
theorem dX7_goes_186 : decode cX7_goes 186 = .ok (.if_icmp .lt 35, 3) := by decide +kernel
theorem dX7_goes_189 : decode cX7_goes 189 = .ok (.iload_n 1, 1) := by decide +kernel
theorem dX7_goes_190 : decode cX7_goes 190 = .ok (.bipush 32, 2) := by decide +kernel
theorem dX7_goes_192 : decode cX7_goes 192 = .ok (.if_icmp .ge 29, 3) := by decide +kernel
theorem dX7_goes_195 : decode cX7_goes 195 = .ok (.iload_n 2, 1) := by decide +kernel
theorem dX7_goes_196 : decode cX7_goes 196 = .ok (.bipush 32, 2) := by decide +kernel
theorem dX7_goes_198 : decode cX7_goes 198 = .ok (.if_icmp .ne 23, 3) := by decide +kernel
theorem dX7_goes_201 : decode cX7_goes 201 = .ok (.aload_n 0, 1) := by decide +kernel
theorem dX7_goes_202 : decode cX7_goes 202 = .ok (.getfield 66, 3) := by decide +kernel
theorem dX7_goes_205 : decode cX7_goes 205 = .ok (.iload_n 1, 1) := by decide +kernel
theorem dX7_goes_206 : decode cX7_goes 206 = .ok (.bipush 8, 2) := by decide +kernel
theorem dX7_goes_208 : decode cX7_goes 208 = .ok (.isub, 1) := by decide +kernel
theorem dX7_goes_209 : decode cX7_goes 209 = .ok (.iaload, 1) := by decide +kernel
theorem dX7_goes_210 : decode cX7_goes 210 = .ok (.aload_n 0, 1) := by decide +kernel
theorem dX7_goes_211 : decode cX7_goes 211 = .ok (.getfield 69, 3) := by decide +kernel
theorem dX7_goes_214 : decode cX7_goes 214 = .ok (.iload_n 1, 1) := by decide +kernel
theorem dX7_goes_215 : decode cX7_goes 215 = .ok (.bipush 8, 2) := by decide +kernel
theorem dX7_goes_217 : decode cX7_goes 217 = .ok (.isub, 1) := by decide +kernel
theorem dX7_goes_218 : decode cX7_goes 218 = .ok (.iaload, 1) := by decide +kernel
theorem dX7_goes_219 : decode cX7_goes 219 = .ok (.isub, 1) := by decide +kernel
theorem dX7_goes_220 : decode cX7_goes 220 = .ok (.ireturn, 1) := by decide +kernel
theorem dX7_goes_221 : decode cX7_goes 221 = .ok (.iload_n 1, 1) := by decide +kernel
theorem dX7_goes_222 : decode cX7_goes 222 = .ok (.bipush 32, 2) := by decide +kernel
theorem dX7_goes_224 : decode cX7_goes 224 = .ok (.if_icmp .ne 25, 3) := by decide +kernel
theorem dX7_goes_227 : decode cX7_goes 227 = .ok (.iload_n 2, 1) := by decide +kernel
theorem dX7_goes_228 : decode cX7_goes 228 = .ok (.bipush 8, 2) := by decide +kernel
theorem dX7_goes_230 : decode cX7_goes 230 = .ok (.if_icmp .lt 19, 3) := by decide +kernel
theorem dX7_goes_233 : decode cX7_goes 233 = .ok (.iload_n 2, 1) := by decide +kernel
theorem dX7_goes_234 : decode cX7_goes 234 = .ok (.bipush 32, 2) := by decide +kernel
theorem dX7_goes_236 : decode cX7_goes 236 = .ok (.if_icmp .ge 13, 3) := by decide +kernel
theorem dX7_goes_239 : decode cX7_goes 239 = .ok (.aload_n 0, 1) := by decide +kernel
theorem dX7_goes_240 : decode cX7_goes 240 = .ok (.getfield 69, 3) := by decide +kernel
theorem dX7_goes_243 : decode cX7_goes 243 = .ok (.iload_n 2, 1) := by decide +kernel
theorem dX7_goes_244 : decode cX7_goes 244 = .ok (.bipush 8, 2) := by decide +kernel
theorem dX7_goes_246 : decode cX7_goes 246 = .ok (.isub, 1) := by decide +kernel
theorem dX7_goes_247 : decode cX7_goes 247 = .ok (.iaload, 1) := by decide +kernel
theorem dX7_goes_248 : decode cX7_goes 248 = .ok (.ireturn, 1) := by decide +kernel
theorem dX7_goes_249 : decode cX7_goes 249 = .ok (.iconst 0, 1) := by decide +kernel
theorem dX7_goes_250 : decode cX7_goes 250 = .ok (.ireturn, 1) := by decide +kernel
theorem dX7_moves_0 : decode cX7_moves 0 = .ok (.iload_n 1, 1) := by decide +kernel
theorem dX7_moves_1 : decode cX7_moves 1 = .ok (.bipush 33, 2) := by decide +kernel
theorem dX7_moves_3 : decode cX7_moves 3 = .ok (.if_icmp .ne 16, 3) := by decide +kernel
theorem dX7_moves_6 : decode cX7_moves 6 = .ok (.aload_n 0, 1) := by decide +kernel
theorem dX7_moves_7 : decode cX7_moves 7 = .ok (.getfield 72, 3) := by decide +kernel
theorem dX7_moves_10 : decode cX7_moves 10 = .ok (.iload_n 2, 1) := by decide +kernel
theorem dX7_moves_11 : decode cX7_moves 11 = .ok (.dup2, 1) := by decide +kernel
theorem dX7_moves_12 : decode cX7_moves 12 = .ok (.iaload, 1) := by decide +kernel
theorem dX7_moves_13 : decode cX7_moves 13 = .ok (.iload_n 3, 1) := by decide +kernel
theorem dX7_moves_14 : decode cX7_moves 14 = .ok (.iadd, 1) := by decide +kernel
theorem dX7_moves_15 : decode cX7_moves 15 = .ok (.iastore, 1) := by decide +kernel
theorem dX7_moves_16 : decode cX7_moves 16 = .ok (.goto 92, 3) := by decide +kernel
theorem dX7_moves_19 : decode cX7_moves 19 = .ok (.iload_n 1, 1) := by decide +kernel
theorem dX7_moves_20 : decode cX7_moves 20 = .ok (.bipush 8, 2) := by decide +kernel
theorem dX7_moves_22 : decode cX7_moves 22 = .ok (.if_icmp .ge 24, 3) := by decide +kernel
theorem dX7_moves_25 : decode cX7_moves 25 = .ok (.aload_n 0, 1) := by decide +kernel
theorem dX7_moves_26 : decode cX7_moves 26 = .ok (.getfield 63, 3) := by decide +kernel
theorem dX7_moves_29 : decode cX7_moves 29 = .ok (.bipush 24, 2) := by decide +kernel
theorem dX7_moves_31 : decode cX7_moves 31 = .ok (.iload_n 1, 1) := by decide +kernel
theorem dX7_moves_32 : decode cX7_moves 32 = .ok (.imul, 1) := by decide +kernel
theorem dX7_moves_33 : decode cX7_moves 33 = .ok (.iload_n 2, 1) := by decide +kernel
theorem dX7_moves_34 : decode cX7_moves 34 = .ok (.iadd, 1) := by decide +kernel
theorem dX7_moves_35 : decode cX7_moves 35 = .ok (.bipush 8, 2) := by decide +kernel
theorem dX7_moves_37 : decode cX7_moves 37 = .ok (.isub, 1) := by decide +kernel
theorem dX7_moves_38 : decode cX7_moves 38 = .ok (.dup2, 1) := by decide +kernel
theorem dX7_moves_39 : decode cX7_moves 39 = .ok (.iaload, 1) := by decide +kernel
theorem dX7_moves_40 : decode cX7_moves 40 = .ok (.iload_n 3, 1) := by decide +kernel
theorem dX7_moves_41 : decode cX7_moves 41 = .ok (.iadd, 1) := by decide +kernel
theorem dX7_moves_42 : decode cX7_moves 42 = .ok (.iastore, 1) := by decide +kernel
theorem dX7_moves_43 : decode cX7_moves 43 = .ok (.goto 65, 3) := by decide +kernel
theorem dX7_moves_46 : decode cX7_moves 46 = .ok (.iload_n 2, 1) := by decide +kernel
theorem dX7_moves_47 : decode cX7_moves 47 = .ok (.bipush 8, 2) := by decide +kernel
theorem dX7_moves_49 : decode cX7_moves 49 = .ok (.if_icmp .ge 24, 3) := by decide +kernel
theorem dX7_moves_52 : decode cX7_moves 52 = .ok (.aload_n 0, 1) := by decide +kernel
theorem dX7_moves_53 : decode cX7_moves 53 = .ok (.getfield 63, 3) := by decide +kernel
theorem dX7_moves_56 : decode cX7_moves 56 = .ok (.bipush 24, 2) := by decide +kernel
theorem dX7_moves_58 : decode cX7_moves 58 = .ok (.iload_n 2, 1) := by decide +kernel
theorem dX7_moves_59 : decode cX7_moves 59 = .ok (.imul, 1) := by decide +kernel
theorem dX7_moves_60 : decode cX7_moves 60 = .ok (.iload_n 1, 1) := by decide +kernel
theorem dX7_moves_61 : decode cX7_moves 61 = .ok (.iadd, 1) := by decide +kernel
theorem dX7_moves_62 : decode cX7_moves 62 = .ok (.bipush 8, 2) := by decide +kernel
theorem dX7_moves_64 : decode cX7_moves 64 = .ok (.isub, 1) := by decide +kernel
theorem dX7_moves_65 : decode cX7_moves 65 = .ok (.dup2, 1) := by decide +kernel
theorem dX7_moves_66 : decode cX7_moves 66 = .ok (.iaload, 1) := by decide +kernel
theorem dX7_moves_67 : decode cX7_moves 67 = .ok (.iload_n 3, 1) := by decide +kernel
theorem dX7_moves_68 : decode cX7_moves 68 = .ok (.isub, 1) := by decide +kernel
theorem dX7_moves_69 : decode cX7_moves 69 = .ok (.iastore, 1) := by decide +kernel
theorem dX7_moves_70 : decode cX7_moves 70 = .ok (.goto 38, 3) := by decide +kernel
theorem dX7_moves_73 : decode cX7_moves 73 = .ok (.iload_n 2, 1) := by decide +kernel
theorem dX7_moves_74 : decode cX7_moves 74 = .ok (.bipush 32, 2) := by decide +kernel
theorem dX7_moves_76 : decode cX7_moves 76 = .ok (.if_icmp .ne 19, 3) := by decide +kernel
theorem dX7_moves_79 : decode cX7_moves 79 = .ok (.aload_n 0, 1) := by decide +kernel
theorem dX7_moves_80 : decode cX7_moves 80 = .ok (.getfield 69, 3) := by decide +kernel
theorem dX7_moves_83 : decode cX7_moves 83 = .ok (.iload_n 1, 1) := by decide +kernel
theorem dX7_moves_84 : decode cX7_moves 84 = .ok (.bipush 8, 2) := by decide +kernel
theorem dX7_moves_86 : decode cX7_moves 86 = .ok (.isub, 1) := by decide +kernel
theorem dX7_moves_87 : decode cX7_moves 87 = .ok (.dup2, 1) := by decide +kernel
theorem dX7_moves_88 : decode cX7_moves 88 = .ok (.iaload, 1) := by decide +kernel
theorem dX7_moves_89 : decode cX7_moves 89 = .ok (.iload_n 3, 1) := by decide +kernel
theorem dX7_moves_90 : decode cX7_moves 90 = .ok (.iadd, 1) := by decide +kernel
theorem dX7_moves_91 : decode cX7_moves 91 = .ok (.iastore, 1) := by decide +kernel
theorem dX7_moves_92 : decode cX7_moves 92 = .ok (.goto 16, 3) := by decide +kernel
theorem dX7_moves_95 : decode cX7_moves 95 = .ok (.aload_n 0, 1) := by decide +kernel
theorem dX7_moves_96 : decode cX7_moves 96 = .ok (.getfield 69, 3) := by decide +kernel
theorem dX7_moves_99 : decode cX7_moves 99 = .ok (.iload_n 2, 1) := by decide +kernel
theorem dX7_moves_100 : decode cX7_moves 100 = .ok (.bipush 8, 2) := by decide +kernel
theorem dX7_moves_102 : decode cX7_moves 102 = .ok (.isub, 1) := by decide +kernel
theorem dX7_moves_103 : decode cX7_moves 103 = .ok (.dup2, 1) := by decide +kernel
theorem dX7_moves_104 : decode cX7_moves 104 = .ok (.iaload, 1) := by decide +kernel
theorem dX7_moves_105 : decode cX7_moves 105 = .ok (.iload_n 3, 1) := by decide +kernel
theorem dX7_moves_106 : decode cX7_moves 106 = .ok (.isub, 1) := by decide +kernel
theorem dX7_moves_107 : decode cX7_moves 107 = .ok (.iastore, 1) := by decide +kernel
theorem dX7_moves_108 : decode cX7_moves 108 = .ok (.return_, 1) := by decide +kernel
set_option maxRecDepth 20000 in
theorem ggX7_isWay_X7_goes : GoodIn wsX7_isWay wsX7_goes := goodIn_r _ [7, 8, 9, 10, 11, 12, 13, 14, 15, 16, 17, 18, 6, 19, 20, 21, 22, 23, 24, 25, 26, 27, 28, 29, 30, 31, 32, 33, 34, 35, 36, 37, 38, 39, 40, 41, 42, 43, 44, 45, 46, 47, 48, 49, 50, 51, 52, 53, 54, 55, 56, 57, 58, 59, 60, 61, 62, 63] (by decide +kernel) (by decide +kernel)
set_option maxRecDepth 20000 in
theorem gX7_isWay_X7_goes : GoodIn wsX7_isWay (wsV RX7 171 RX7 yX7_goes wsX7_goes) := goodIn_app (goodIn_of _ (by decide +kernel)) ggX7_isWay_X7_goes
theorem dX7_isWay_0 : decode cX7_isWay 0 = .ok (.iconst 0, 1) := by decide +kernel
theorem dX7_isWay_1 : decode cX7_isWay 1 = .ok (.istore_n 3, 1) := by decide +kernel
theorem dX7_isWay_2 : decode cX7_isWay 2 = .ok (.iload_n 3, 1) := by decide +kernel
theorem dX7_isWay_3 : decode cX7_isWay 3 = .ok (.aload_n 0, 1) := by decide +kernel
theorem dX7_isWay_4 : decode cX7_isWay 4 = .ok (.getfield 78, 3) := by decide +kernel
theorem dX7_isWay_7 : decode cX7_isWay 7 = .ok (.arraylength, 1) := by decide +kernel
theorem dX7_isWay_8 : decode cX7_isWay 8 = .ok (.if_icmp .ge 16, 3) := by decide +kernel
theorem dX7_isWay_11 : decode cX7_isWay 11 = .ok (.aload_n 0, 1) := by decide +kernel
theorem dX7_isWay_12 : decode cX7_isWay 12 = .ok (.getfield 78, 3) := by decide +kernel
theorem dX7_isWay_15 : decode cX7_isWay 15 = .ok (.iload_n 3, 1) := by decide +kernel
theorem dX7_isWay_16 : decode cX7_isWay 16 = .ok (.iconst (-1), 1) := by decide +kernel
theorem dX7_isWay_17 : decode cX7_isWay 17 = .ok (.iastore, 1) := by decide +kernel
theorem dX7_isWay_18 : decode cX7_isWay 18 = .ok (.iinc 3 1, 3) := by decide +kernel
theorem dX7_isWay_21 : decode cX7_isWay 21 = .ok (.goto (-19), 3) := by decide +kernel
theorem dX7_isWay_24 : decode cX7_isWay 24 = .ok (.aload_n 0, 1) := by decide +kernel
theorem dX7_isWay_25 : decode cX7_isWay 25 = .ok (.getfield 78, 3) := by decide +kernel
theorem dX7_isWay_28 : decode cX7_isWay 28 = .ok (.iload_n 1, 1) := by decide +kernel
theorem dX7_isWay_29 : decode cX7_isWay 29 = .ok (.iload_n 1, 1) := by decide +kernel
theorem dX7_isWay_30 : decode cX7_isWay 30 = .ok (.iastore, 1) := by decide +kernel
theorem dX7_isWay_31 : decode cX7_isWay 31 = .ok (.aload_n 0, 1) := by decide +kernel
theorem dX7_isWay_32 : decode cX7_isWay 32 = .ok (.getfield 81, 3) := by decide +kernel
theorem dX7_isWay_35 : decode cX7_isWay 35 = .ok (.iconst 0, 1) := by decide +kernel
theorem dX7_isWay_36 : decode cX7_isWay 36 = .ok (.iload_n 1, 1) := by decide +kernel
theorem dX7_isWay_37 : decode cX7_isWay 37 = .ok (.iastore, 1) := by decide +kernel
theorem dX7_isWay_38 : decode cX7_isWay 38 = .ok (.iconst 1, 1) := by decide +kernel
theorem dX7_isWay_39 : decode cX7_isWay 39 = .ok (.istore_n 3, 1) := by decide +kernel
theorem dX7_isWay_40 : decode cX7_isWay 40 = .ok (.iconst 0, 1) := by decide +kernel
theorem dX7_isWay_41 : decode cX7_isWay 41 = .ok (.istore 4, 2) := by decide +kernel
theorem dX7_isWay_43 : decode cX7_isWay 43 = .ok (.iload 4, 2) := by decide +kernel
theorem dX7_isWay_45 : decode cX7_isWay 45 = .ok (.iload_n 3, 1) := by decide +kernel
theorem dX7_isWay_46 : decode cX7_isWay 46 = .ok (.if_icmp .ge 90, 3) := by decide +kernel
theorem dX7_isWay_49 : decode cX7_isWay 49 = .ok (.aload_n 0, 1) := by decide +kernel
theorem dX7_isWay_50 : decode cX7_isWay 50 = .ok (.getfield 78, 3) := by decide +kernel
theorem dX7_isWay_53 : decode cX7_isWay 53 = .ok (.iload_n 2, 1) := by decide +kernel
theorem dX7_isWay_54 : decode cX7_isWay 54 = .ok (.iaload, 1) := by decide +kernel
theorem dX7_isWay_55 : decode cX7_isWay 55 = .ok (.iconst (-1), 1) := by decide +kernel
theorem dX7_isWay_56 : decode cX7_isWay 56 = .ok (.if_icmp .ne 80, 3) := by decide +kernel
theorem dX7_isWay_59 : decode cX7_isWay 59 = .ok (.iconst 0, 1) := by decide +kernel
theorem dX7_isWay_60 : decode cX7_isWay 60 = .ok (.istore 5, 2) := by decide +kernel
theorem dX7_isWay_62 : decode cX7_isWay 62 = .ok (.iload 5, 2) := by decide +kernel
theorem dX7_isWay_64 : decode cX7_isWay 64 = .ok (.bipush 34, 2) := by decide +kernel
theorem dX7_isWay_66 : decode cX7_isWay 66 = .ok (.if_icmp .ge 64, 3) := by decide +kernel
theorem dX7_isWay_69 : decode cX7_isWay 69 = .ok (.aload_n 0, 1) := by decide +kernel
theorem dX7_isWay_70 : decode cX7_isWay 70 = .ok (.getfield 78, 3) := by decide +kernel
theorem dX7_isWay_73 : decode cX7_isWay 73 = .ok (.iload 5, 2) := by decide +kernel
theorem dX7_isWay_75 : decode cX7_isWay 75 = .ok (.iaload, 1) := by decide +kernel
theorem dX7_isWay_76 : decode cX7_isWay 76 = .ok (.iconst (-1), 1) := by decide +kernel
theorem dX7_isWay_77 : decode cX7_isWay 77 = .ok (.if_icmp .ne 47, 3) := by decide +kernel
theorem dX7_isWay_80 : decode cX7_isWay 80 = .ok (.aload_n 0, 1) := by decide +kernel
theorem dX7_isWay_81 : decode cX7_isWay 81 = .ok (.aload_n 0, 1) := by decide +kernel
theorem dX7_isWay_82 : decode cX7_isWay 82 = .ok (.getfield 81, 3) := by decide +kernel
theorem dX7_isWay_85 : decode cX7_isWay 85 = .ok (.iload 4, 2) := by decide +kernel
theorem dX7_isWay_87 : decode cX7_isWay 87 = .ok (.iaload, 1) := by decide +kernel
theorem dX7_isWay_88 : decode cX7_isWay 88 = .ok (.iload 5, 2) := by decide +kernel
theorem dX7_isWay_90 : decode cX7_isWay 90 = .ok (.invokevirtual 171, 3) := by decide +kernel
theorem dX7_isWay_93 : decode cX7_isWay 93 = .ok (.ifCond .ne 6, 3) := by decide +kernel
theorem dX7_isWay_96 : decode cX7_isWay 96 = .ok (.goto 28, 3) := by decide +kernel
theorem dX7_isWay_99 : decode cX7_isWay 99 = .ok (.aload_n 0, 1) := by decide +kernel
theorem dX7_isWay_100 : decode cX7_isWay 100 = .ok (.getfield 78, 3) := by decide +kernel
theorem dX7_isWay_103 : decode cX7_isWay 103 = .ok (.iload 5, 2) := by decide +kernel
theorem dX7_isWay_105 : decode cX7_isWay 105 = .ok (.aload_n 0, 1) := by decide +kernel
theorem dX7_isWay_106 : decode cX7_isWay 106 = .ok (.getfield 81, 3) := by decide +kernel
theorem dX7_isWay_109 : decode cX7_isWay 109 = .ok (.iload 4, 2) := by decide +kernel
theorem dX7_isWay_111 : decode cX7_isWay 111 = .ok (.iaload, 1) := by decide +kernel
theorem dX7_isWay_112 : decode cX7_isWay 112 = .ok (.iastore, 1) := by decide +kernel
theorem dX7_isWay_113 : decode cX7_isWay 113 = .ok (.aload_n 0, 1) := by decide +kernel
theorem dX7_isWay_114 : decode cX7_isWay 114 = .ok (.getfield 81, 3) := by decide +kernel
theorem dX7_isWay_117 : decode cX7_isWay 117 = .ok (.iload_n 3, 1) := by decide +kernel
theorem dX7_isWay_118 : decode cX7_isWay 118 = .ok (.iload 5, 2) := by decide +kernel
theorem dX7_isWay_120 : decode cX7_isWay 120 = .ok (.iastore, 1) := by decide +kernel
theorem dX7_isWay_121 : decode cX7_isWay 121 = .ok (.iinc 3 1, 3) := by decide +kernel
theorem dX7_isWay_124 : decode cX7_isWay 124 = .ok (.iinc 5 1, 3) := by decide +kernel
theorem dX7_isWay_127 : decode cX7_isWay 127 = .ok (.goto (-65), 3) := by decide +kernel
theorem dX7_isWay_130 : decode cX7_isWay 130 = .ok (.iinc 4 1, 3) := by decide +kernel
theorem dX7_isWay_133 : decode cX7_isWay 133 = .ok (.goto (-90), 3) := by decide +kernel
theorem dX7_isWay_136 : decode cX7_isWay 136 = .ok (.aload_n 0, 1) := by decide +kernel
theorem dX7_isWay_137 : decode cX7_isWay 137 = .ok (.getfield 78, 3) := by decide +kernel
theorem dX7_isWay_140 : decode cX7_isWay 140 = .ok (.iload_n 2, 1) := by decide +kernel
theorem dX7_isWay_141 : decode cX7_isWay 141 = .ok (.iaload, 1) := by decide +kernel
theorem dX7_isWay_142 : decode cX7_isWay 142 = .ok (.iconst (-1), 1) := by decide +kernel
theorem dX7_isWay_143 : decode cX7_isWay 143 = .ok (.if_icmp .eq 7, 3) := by decide +kernel
theorem dX7_isWay_146 : decode cX7_isWay 146 = .ok (.iconst 1, 1) := by decide +kernel
theorem dX7_isWay_147 : decode cX7_isWay 147 = .ok (.goto 4, 3) := by decide +kernel
theorem dX7_isWay_150 : decode cX7_isWay 150 = .ok (.iconst 0, 1) := by decide +kernel
theorem dX7_isWay_151 : decode cX7_isWay 151 = .ok (.ireturn, 1) := by decide +kernel
set_option maxRecDepth 20000 in
theorem ggX7_goAlong_X7_goes : GoodIn wsX7_goAlong wsX7_goes := goodIn_r _ [10, 11, 12, 13, 14, 15, 16, 17, 18, 19, 20, 21, 9, 22, 23, 24, 29, 30, 31, 32, 33, 34, 35, 36, 37, 38, 39, 40, 41, 42, 43, 44, 45, 46, 47, 48, 49, 50, 51, 52, 53, 54, 55, 56, 57, 58, 59, 60, 61, 62, 63, 64, 65, 66, 67, 68, 69, 70] (by decide +kernel) (by decide +kernel)
set_option maxRecDepth 20000 in
theorem gX7_goAlong_X7_goes : GoodIn wsX7_goAlong (wsV RX7 171 RX7 yX7_goes wsX7_goes) := goodIn_app (goodIn_of _ (by decide +kernel)) ggX7_goAlong_X7_goes
set_option maxRecDepth 20000 in
theorem ggX7_goAlong_X7_moves : GoodIn wsX7_goAlong wsX7_moves := goodIn_r _ [28, 13, 16, 18, 29, 30, 31, 32, 33, 34, 35, 36, 37, 38, 39, 40, 41, 42, 43, 44, 45, 46, 47, 48, 49, 50, 51, 52, 53, 54, 55, 56, 57, 58, 59, 60, 61, 62, 63, 64, 65, 66, 67, 68, 69, 70] (by decide +kernel) (by decide +kernel)
set_option maxRecDepth 20000 in
theorem gX7_goAlong_X7_moves : GoodIn wsX7_goAlong (wsV RX7 179 RX7 yX7_moves wsX7_moves) := goodIn_app (goodIn_of _ (by decide +kernel)) ggX7_goAlong_X7_moves
theorem dX7_goAlong_0 : decode cX7_goAlong 0 = .ok (.iload_n 3, 1) := by decide +kernel
theorem dX7_goAlong_1 : decode cX7_goAlong 1 = .ok (.istore 4, 2) := by decide +kernel
theorem dX7_goAlong_3 : decode cX7_goAlong 3 = .ok (.iload_n 2, 1) := by decide +kernel
theorem dX7_goAlong_4 : decode cX7_goAlong 4 = .ok (.istore 5, 2) := by decide +kernel
theorem dX7_goAlong_6 : decode cX7_goAlong 6 = .ok (.iload 5, 2) := by decide +kernel
theorem dX7_goAlong_8 : decode cX7_goAlong 8 = .ok (.iload_n 1, 1) := by decide +kernel
theorem dX7_goAlong_9 : decode cX7_goAlong 9 = .ok (.if_icmp .eq 35, 3) := by decide +kernel
theorem dX7_goAlong_12 : decode cX7_goAlong 12 = .ok (.iload 4, 2) := by decide +kernel
theorem dX7_goAlong_14 : decode cX7_goAlong 14 = .ok (.aload_n 0, 1) := by decide +kernel
theorem dX7_goAlong_15 : decode cX7_goAlong 15 = .ok (.aload_n 0, 1) := by decide +kernel
theorem dX7_goAlong_16 : decode cX7_goAlong 16 = .ok (.getfield 78, 3) := by decide +kernel
theorem dX7_goAlong_19 : decode cX7_goAlong 19 = .ok (.iload 5, 2) := by decide +kernel
theorem dX7_goAlong_21 : decode cX7_goAlong 21 = .ok (.iaload, 1) := by decide +kernel
theorem dX7_goAlong_22 : decode cX7_goAlong 22 = .ok (.iload 5, 2) := by decide +kernel
theorem dX7_goAlong_24 : decode cX7_goAlong 24 = .ok (.invokevirtual 171, 3) := by decide +kernel
theorem dX7_goAlong_27 : decode cX7_goAlong 27 = .ok (.invokestatic 174, 3) := by decide +kernel
theorem dX7_goAlong_30 : decode cX7_goAlong 30 = .ok (.istore 4, 2) := by decide +kernel
theorem dX7_goAlong_32 : decode cX7_goAlong 32 = .ok (.aload_n 0, 1) := by decide +kernel
theorem dX7_goAlong_33 : decode cX7_goAlong 33 = .ok (.getfield 78, 3) := by decide +kernel
theorem dX7_goAlong_36 : decode cX7_goAlong 36 = .ok (.iload 5, 2) := by decide +kernel
theorem dX7_goAlong_38 : decode cX7_goAlong 38 = .ok (.iaload, 1) := by decide +kernel
theorem dX7_goAlong_39 : decode cX7_goAlong 39 = .ok (.istore 5, 2) := by decide +kernel
theorem dX7_goAlong_41 : decode cX7_goAlong 41 = .ok (.goto (-35), 3) := by decide +kernel
theorem dX7_goAlong_44 : decode cX7_goAlong 44 = .ok (.iload_n 2, 1) := by decide +kernel
theorem dX7_goAlong_45 : decode cX7_goAlong 45 = .ok (.istore 5, 2) := by decide +kernel
theorem dX7_goAlong_47 : decode cX7_goAlong 47 = .ok (.iload 5, 2) := by decide +kernel
theorem dX7_goAlong_49 : decode cX7_goAlong 49 = .ok (.iload_n 1, 1) := by decide +kernel
theorem dX7_goAlong_50 : decode cX7_goAlong 50 = .ok (.if_icmp .eq 30, 3) := by decide +kernel
theorem dX7_goAlong_53 : decode cX7_goAlong 53 = .ok (.aload_n 0, 1) := by decide +kernel
theorem dX7_goAlong_54 : decode cX7_goAlong 54 = .ok (.aload_n 0, 1) := by decide +kernel
theorem dX7_goAlong_55 : decode cX7_goAlong 55 = .ok (.getfield 78, 3) := by decide +kernel
theorem dX7_goAlong_58 : decode cX7_goAlong 58 = .ok (.iload 5, 2) := by decide +kernel
theorem dX7_goAlong_60 : decode cX7_goAlong 60 = .ok (.iaload, 1) := by decide +kernel
theorem dX7_goAlong_61 : decode cX7_goAlong 61 = .ok (.iload 5, 2) := by decide +kernel
theorem dX7_goAlong_63 : decode cX7_goAlong 63 = .ok (.iload 4, 2) := by decide +kernel
theorem dX7_goAlong_65 : decode cX7_goAlong 65 = .ok (.invokevirtual 179, 3) := by decide +kernel
theorem dX7_goAlong_68 : decode cX7_goAlong 68 = .ok (.aload_n 0, 1) := by decide +kernel
theorem dX7_goAlong_69 : decode cX7_goAlong 69 = .ok (.getfield 78, 3) := by decide +kernel
theorem dX7_goAlong_72 : decode cX7_goAlong 72 = .ok (.iload 5, 2) := by decide +kernel
theorem dX7_goAlong_74 : decode cX7_goAlong 74 = .ok (.iaload, 1) := by decide +kernel
theorem dX7_goAlong_75 : decode cX7_goAlong 75 = .ok (.istore 5, 2) := by decide +kernel
theorem dX7_goAlong_77 : decode cX7_goAlong 77 = .ok (.goto (-30), 3) := by decide +kernel
theorem dX7_goAlong_80 : decode cX7_goAlong 80 = .ok (.iload 4, 2) := by decide +kernel
theorem dX7_goAlong_82 : decode cX7_goAlong 82 = .ok (.ireturn, 1) := by decide +kernel
set_option maxRecDepth 20000 in
theorem ggX7_layIn_X7_look : GoodIn wsX7_layIn wsX7_look := goodIn_r _ [12, 13, 14, 15, 16, 17, 18, 19, 20, 21, 22, 23, 11, 24, 25, 26, 70, 71, 72, 73, 74, 75, 76, 77, 78, 79, 80, 81, 82, 83, 84, 85, 86, 87, 88, 89, 90, 91, 92, 93, 94, 95, 96, 97, 98, 99, 100, 101, 102, 103, 104, 105, 106, 107, 108, 109, 110, 111] (by decide +kernel) (by decide +kernel)
set_option maxRecDepth 20000 in
theorem gX7_layIn_X7_look : GoodIn wsX7_layIn (wsV RX7 158 RX7 yX7_look wsX7_look) := goodIn_app (goodIn_of _ (by decide +kernel)) ggX7_layIn_X7_look
set_option maxRecDepth 20000 in
theorem ggX7_layIn_X7_leftOf : GoodIn wsX7_layIn wsX7_leftOf := goodIn_r _ [30, 18, 14, 31, 32, 33, 11, 34, 13, 35, 36, 37, 38, 39, 40, 19, 20, 21, 22, 23, 24, 25, 26, 70, 71, 72, 73, 74, 75, 76, 77, 78, 79, 80, 81, 82, 83, 84, 85, 86, 87, 88, 89, 90, 91, 92, 93, 94, 95, 96, 97, 98, 99, 100, 101, 102, 103, 104, 105, 106, 107, 108, 109, 110, 111] (by decide +kernel) (by decide +kernel)
set_option maxRecDepth 20000 in
theorem gX7_layIn_X7_leftOf : GoodIn wsX7_layIn (wsV RX7 165 RX7 yX7_leftOf wsX7_leftOf) := goodIn_app (goodIn_of _ (by decide +kernel)) ggX7_layIn_X7_leftOf
set_option maxRecDepth 20000 in
theorem ggX7_layIn_X7_isWay : GoodIn wsX7_layIn wsX7_isWay := goodIn_r _ [44, 45, 46, 47, 48, 49, 11, 50, 5, 7, 6, 4, 51, 3, 1, 2, 52, 53, 54, 55, 56, 57, 70, 71, 72, 73, 74, 75, 76, 77, 78, 79, 80, 81, 82, 83, 84, 85, 86, 87, 88, 89, 90, 91, 92, 93, 94, 95, 96, 97, 98, 99, 100, 101, 102, 103, 104, 105, 106, 107, 108, 109, 110, 111] (by decide +kernel) (by decide +kernel)
set_option maxRecDepth 20000 in
theorem gX7_layIn_X7_isWay : GoodIn wsX7_layIn (wsV RX7 183 RX7 yX7_isWay wsX7_isWay) := goodIn_app (goodIn_of _ (by decide +kernel)) ggX7_layIn_X7_isWay
set_option maxRecDepth 20000 in
theorem ggX7_layIn_X7_goAlong : GoodIn wsX7_layIn wsX7_goAlong := goodIn_r _ [61, 45, 62, 63, 64, 65, 47, 48, 49, 11, 50, 5, 7, 6, 4, 51, 3, 1, 2, 52, 53, 54, 55, 56, 57, 66, 67, 68, 69, 70, 71, 72, 73, 74, 75, 76, 77, 78, 79, 80, 81, 82, 83, 84, 85, 86, 87, 88, 89, 90, 91, 92, 93, 94, 95, 96, 97, 98, 99, 100, 101, 102, 103, 104, 105, 106, 107, 108, 109, 110, 111] (by decide +kernel) (by decide +kernel)
set_option maxRecDepth 20000 in
theorem gX7_layIn_X7_goAlong : GoodIn wsX7_layIn (wsV RX7 186 RX7 yX7_goAlong wsX7_goAlong) := goodIn_app (goodIn_of _ (by decide +kernel)) ggX7_layIn_X7_goAlong
theorem dX7_layIn_0 : decode cX7_layIn 0 = .ok (.aload_n 0, 1) := by decide +kernel
theorem dX7_layIn_1 : decode cX7_layIn 1 = .ok (.iload_n 1, 1) := by decide +kernel
theorem dX7_layIn_2 : decode cX7_layIn 2 = .ok (.invokevirtual 158, 3) := by decide +kernel
theorem dX7_layIn_5 : decode cX7_layIn 5 = .ok (.iconst 0, 1) := by decide +kernel
theorem dX7_layIn_6 : decode cX7_layIn 6 = .ok (.istore_n 2, 1) := by decide +kernel
theorem dX7_layIn_7 : decode cX7_layIn 7 = .ok (.iconst 0, 1) := by decide +kernel
theorem dX7_layIn_8 : decode cX7_layIn 8 = .ok (.istore_n 3, 1) := by decide +kernel
theorem dX7_layIn_9 : decode cX7_layIn 9 = .ok (.iload_n 3, 1) := by decide +kernel
theorem dX7_layIn_10 : decode cX7_layIn 10 = .ok (.bipush 24, 2) := by decide +kernel
theorem dX7_layIn_12 : decode cX7_layIn 12 = .ok (.if_icmp .ge 28, 3) := by decide +kernel
theorem dX7_layIn_15 : decode cX7_layIn 15 = .ok (.aload_n 0, 1) := by decide +kernel
theorem dX7_layIn_16 : decode cX7_layIn 16 = .ok (.getfield 66, 3) := by decide +kernel
theorem dX7_layIn_19 : decode cX7_layIn 19 = .ok (.iload_n 3, 1) := by decide +kernel
theorem dX7_layIn_20 : decode cX7_layIn 20 = .ok (.aload_n 0, 1) := by decide +kernel
theorem dX7_layIn_21 : decode cX7_layIn 21 = .ok (.iload_n 3, 1) := by decide +kernel
theorem dX7_layIn_22 : decode cX7_layIn 22 = .ok (.iload_n 1, 1) := by decide +kernel
theorem dX7_layIn_23 : decode cX7_layIn 23 = .ok (.invokevirtual 165, 3) := by decide +kernel
theorem dX7_layIn_26 : decode cX7_layIn 26 = .ok (.iastore, 1) := by decide +kernel
theorem dX7_layIn_27 : decode cX7_layIn 27 = .ok (.aload_n 0, 1) := by decide +kernel
theorem dX7_layIn_28 : decode cX7_layIn 28 = .ok (.getfield 69, 3) := by decide +kernel
theorem dX7_layIn_31 : decode cX7_layIn 31 = .ok (.iload_n 3, 1) := by decide +kernel
theorem dX7_layIn_32 : decode cX7_layIn 32 = .ok (.iconst 0, 1) := by decide +kernel
theorem dX7_layIn_33 : decode cX7_layIn 33 = .ok (.iastore, 1) := by decide +kernel
theorem dX7_layIn_34 : decode cX7_layIn 34 = .ok (.iinc 3 1, 3) := by decide +kernel
theorem dX7_layIn_37 : decode cX7_layIn 37 = .ok (.goto (-28), 3) := by decide +kernel
theorem dX7_layIn_40 : decode cX7_layIn 40 = .ok (.iconst 0, 1) := by decide +kernel
theorem dX7_layIn_41 : decode cX7_layIn 41 = .ok (.istore_n 3, 1) := by decide +kernel
theorem dX7_layIn_42 : decode cX7_layIn 42 = .ok (.iload_n 3, 1) := by decide +kernel
theorem dX7_layIn_43 : decode cX7_layIn 43 = .ok (.aload_n 0, 1) := by decide +kernel
theorem dX7_layIn_44 : decode cX7_layIn 44 = .ok (.getfield 63, 3) := by decide +kernel
theorem dX7_layIn_47 : decode cX7_layIn 47 = .ok (.arraylength, 1) := by decide +kernel
theorem dX7_layIn_48 : decode cX7_layIn 48 = .ok (.if_icmp .ge 23, 3) := by decide +kernel
theorem dX7_layIn_51 : decode cX7_layIn 51 = .ok (.aload_n 0, 1) := by decide +kernel
theorem dX7_layIn_52 : decode cX7_layIn 52 = .ok (.getfield 63, 3) := by decide +kernel
theorem dX7_layIn_55 : decode cX7_layIn 55 = .ok (.iload_n 3, 1) := by decide +kernel
theorem dX7_layIn_56 : decode cX7_layIn 56 = .ok (.iconst 0, 1) := by decide +kernel
theorem dX7_layIn_57 : decode cX7_layIn 57 = .ok (.iastore, 1) := by decide +kernel
theorem dX7_layIn_58 : decode cX7_layIn 58 = .ok (.aload_n 0, 1) := by decide +kernel
theorem dX7_layIn_59 : decode cX7_layIn 59 = .ok (.getfield 75, 3) := by decide +kernel
theorem dX7_layIn_62 : decode cX7_layIn 62 = .ok (.iload_n 3, 1) := by decide +kernel
theorem dX7_layIn_63 : decode cX7_layIn 63 = .ok (.iconst 0, 1) := by decide +kernel
theorem dX7_layIn_64 : decode cX7_layIn 64 = .ok (.bastore, 1) := by decide +kernel
theorem dX7_layIn_65 : decode cX7_layIn 65 = .ok (.iinc 3 1, 3) := by decide +kernel
theorem dX7_layIn_68 : decode cX7_layIn 68 = .ok (.goto (-26), 3) := by decide +kernel
theorem dX7_layIn_71 : decode cX7_layIn 71 = .ok (.iconst 0, 1) := by decide +kernel
theorem dX7_layIn_72 : decode cX7_layIn 72 = .ok (.istore_n 3, 1) := by decide +kernel
theorem dX7_layIn_73 : decode cX7_layIn 73 = .ok (.iload_n 3, 1) := by decide +kernel
theorem dX7_layIn_74 : decode cX7_layIn 74 = .ok (.aload_n 0, 1) := by decide +kernel
theorem dX7_layIn_75 : decode cX7_layIn 75 = .ok (.getfield 143, 3) := by decide +kernel
theorem dX7_layIn_78 : decode cX7_layIn 78 = .ok (.if_icmp .ge 25, 3) := by decide +kernel
theorem dX7_layIn_81 : decode cX7_layIn 81 = .ok (.aload_n 0, 1) := by decide +kernel
theorem dX7_layIn_82 : decode cX7_layIn 82 = .ok (.getfield 72, 3) := by decide +kernel
theorem dX7_layIn_85 : decode cX7_layIn 85 = .ok (.iload_n 3, 1) := by decide +kernel
theorem dX7_layIn_86 : decode cX7_layIn 86 = .ok (.iconst 0, 1) := by decide +kernel
theorem dX7_layIn_87 : decode cX7_layIn 87 = .ok (.iastore, 1) := by decide +kernel
theorem dX7_layIn_88 : decode cX7_layIn 88 = .ok (.iload_n 2, 1) := by decide +kernel
theorem dX7_layIn_89 : decode cX7_layIn 89 = .ok (.aload_n 0, 1) := by decide +kernel
theorem dX7_layIn_90 : decode cX7_layIn 90 = .ok (.getfield 51, 3) := by decide +kernel
theorem dX7_layIn_93 : decode cX7_layIn 93 = .ok (.iload_n 3, 1) := by decide +kernel
theorem dX7_layIn_94 : decode cX7_layIn 94 = .ok (.iaload, 1) := by decide +kernel
theorem dX7_layIn_95 : decode cX7_layIn 95 = .ok (.iadd, 1) := by decide +kernel
theorem dX7_layIn_96 : decode cX7_layIn 96 = .ok (.istore_n 2, 1) := by decide +kernel
theorem dX7_layIn_97 : decode cX7_layIn 97 = .ok (.iinc 3 1, 3) := by decide +kernel
theorem dX7_layIn_100 : decode cX7_layIn 100 = .ok (.goto (-27), 3) := by decide +kernel
theorem dX7_layIn_103 : decode cX7_layIn 103 = .ok (.aload_n 0, 1) := by decide +kernel
theorem dX7_layIn_104 : decode cX7_layIn 104 = .ok (.bipush 33, 2) := by decide +kernel
theorem dX7_layIn_106 : decode cX7_layIn 106 = .ok (.bipush 32, 2) := by decide +kernel
theorem dX7_layIn_108 : decode cX7_layIn 108 = .ok (.invokevirtual 183, 3) := by decide +kernel
theorem dX7_layIn_111 : decode cX7_layIn 111 = .ok (.ifCond .eq 20, 3) := by decide +kernel
theorem dX7_layIn_114 : decode cX7_layIn 114 = .ok (.iload_n 2, 1) := by decide +kernel
theorem dX7_layIn_115 : decode cX7_layIn 115 = .ok (.aload_n 0, 1) := by decide +kernel
theorem dX7_layIn_116 : decode cX7_layIn 116 = .ok (.bipush 33, 2) := by decide +kernel
theorem dX7_layIn_118 : decode cX7_layIn 118 = .ok (.bipush 32, 2) := by decide +kernel
theorem dX7_layIn_120 : decode cX7_layIn 120 = .ok (.sipush 10000, 3) := by decide +kernel
theorem dX7_layIn_123 : decode cX7_layIn 123 = .ok (.invokevirtual 186, 3) := by decide +kernel
theorem dX7_layIn_126 : decode cX7_layIn 126 = .ok (.isub, 1) := by decide +kernel
theorem dX7_layIn_127 : decode cX7_layIn 127 = .ok (.istore_n 2, 1) := by decide +kernel
theorem dX7_layIn_128 : decode cX7_layIn 128 = .ok (.goto (-25), 3) := by decide +kernel
theorem dX7_layIn_131 : decode cX7_layIn 131 = .ok (.iload_n 2, 1) := by decide +kernel
theorem dX7_layIn_132 : decode cX7_layIn 132 = .ok (.ireturn, 1) := by decide +kernel
set_option maxRecDepth 20000 in
theorem ggX7_rest_X7_isFall : GoodIn wsX7_rest wsX7_isFall := goodIn_r _ [5] (by decide +kernel) (by decide +kernel)
set_option maxRecDepth 20000 in
theorem gX7_rest_X7_isFall : GoodIn wsX7_rest (va_wsS RX7 155 yX7_isFall wsX7_isFall) := goodIn_app (goodIn_of _ (by decide +kernel)) ggX7_rest_X7_isFall
set_option maxRecDepth 20000 in
theorem ggX7_rest_X7_refuse : GoodIn wsX7_rest wsX7_refuse := goodIn_r _ [9, 1, 82, 83, 84, 85, 86, 87, 88, 89, 90, 91, 92, 93, 94, 95, 96, 97, 98, 99, 100, 101, 102, 103, 104, 105, 106, 107, 108, 109, 110, 111, 112, 113, 114, 115, 116, 117, 118, 119, 120, 121, 122, 123] (by decide +kernel) (by decide +kernel)
set_option maxRecDepth 20000 in
theorem gX7_rest_X7_refuse : GoodIn wsX7_rest (wsV RX7 126 RX7 yX7_refuse wsX7_refuse) := goodIn_app (goodIn_of _ (by decide +kernel)) ggX7_rest_X7_refuse
set_option maxRecDepth 20000 in
theorem ggX7_rest_X7_layIn : GoodIn wsX7_rest wsX7_layIn := goodIn_r _ [13, 14, 15, 16, 17, 18, 19, 20, 21, 22, 23, 4, 24, 25, 26, 27, 28, 29, 30, 31, 32, 33, 34, 35, 36, 37, 38, 39, 40, 41, 42, 43, 44, 45, 46, 47, 48, 49, 50, 51, 52, 53, 54, 55, 56, 57, 58, 59, 60, 61, 62, 63, 64, 65, 66, 67, 68, 69, 70, 71, 72, 73, 74, 75, 76, 77, 78, 79, 80, 81, 82, 83, 84, 85, 86, 87, 88, 89, 90, 91, 92, 93, 94, 95, 96, 97, 98, 99, 100, 101, 102, 103, 104, 105, 106, 107, 108, 109, 110, 111, 112, 113, 114, 115, 116, 117, 118, 119, 120, 121, 122, 123] (by decide +kernel) (by decide +kernel)
set_option maxRecDepth 20000 in
theorem gX7_rest_X7_layIn : GoodIn wsX7_rest (wsV RX7 190 RX7 yX7_layIn wsX7_layIn) := goodIn_app (goodIn_of _ (by decide +kernel)) ggX7_rest_X7_layIn
theorem dX7_rest_0 : decode cX7_rest 0 = .ok (.iload_n 1, 1) := by decide +kernel
theorem dX7_rest_1 : decode cX7_rest 1 = .ok (.invokestatic 155, 3) := by decide +kernel
theorem dX7_rest_4 : decode cX7_rest 4 = .ok (.ifCond .ne 9, 3) := by decide +kernel
theorem dX7_rest_7 : decode cX7_rest 7 = .ok (.aload_n 0, 1) := by decide +kernel
theorem dX7_rest_8 : decode cX7_rest 8 = .ok (.iconst 1, 1) := by decide +kernel
theorem dX7_rest_9 : decode cX7_rest 9 = .ok (.invokevirtual 126, 3) := by decide +kernel
theorem dX7_rest_12 : decode cX7_rest 12 = .ok (.ireturn, 1) := by decide +kernel
theorem dX7_rest_13 : decode cX7_rest 13 = .ok (.aload_n 0, 1) := by decide +kernel
theorem dX7_rest_14 : decode cX7_rest 14 = .ok (.iconst 0, 1) := by decide +kernel
theorem dX7_rest_15 : decode cX7_rest 15 = .ok (.putfield 105, 3) := by decide +kernel
theorem dX7_rest_18 : decode cX7_rest 18 = .ok (.aload_n 0, 1) := by decide +kernel
theorem dX7_rest_19 : decode cX7_rest 19 = .ok (.iload_n 1, 1) := by decide +kernel
theorem dX7_rest_20 : decode cX7_rest 20 = .ok (.invokevirtual 190, 3) := by decide +kernel
theorem dX7_rest_23 : decode cX7_rest 23 = .ok (.ireturn, 1) := by decide +kernel
set_option maxRecDepth 20000 in
theorem ggX7_part_X7_isFall : GoodIn wsX7_part wsX7_isFall := goodIn_r _ [11] (by decide +kernel) (by decide +kernel)
set_option maxRecDepth 20000 in
theorem gX7_part_X7_isFall : GoodIn wsX7_part (va_wsS RX7 155 yX7_isFall wsX7_isFall) := goodIn_app (goodIn_of _ (by decide +kernel)) ggX7_part_X7_isFall
set_option maxRecDepth 20000 in
theorem ggX7_part_X7_isHour : GoodIn wsX7_part wsX7_isHour := goodIn_r _ [14] (by decide +kernel) (by decide +kernel)
set_option maxRecDepth 20000 in
theorem gX7_part_X7_isHour : GoodIn wsX7_part (va_wsS RX7 152 yX7_isHour wsX7_isHour) := goodIn_app (goodIn_of _ (by decide +kernel)) ggX7_part_X7_isHour
set_option maxRecDepth 20000 in
theorem ggX7_part_X7_refuse : GoodIn wsX7_part wsX7_refuse := goodIn_r _ [18, 2, 85, 86, 87, 88, 89, 90, 91, 92, 93, 94, 95, 96, 97, 98, 99, 100, 101, 102, 103, 104, 105, 106, 107, 108, 109, 110, 111, 112, 113, 114, 115, 116, 117, 118, 119, 120, 121, 122, 123, 124, 125, 126] (by decide +kernel) (by decide +kernel)
set_option maxRecDepth 20000 in
theorem gX7_part_X7_refuse : GoodIn wsX7_part (wsV RX7 126 RX7 yX7_refuse wsX7_refuse) := goodIn_app (goodIn_of _ (by decide +kernel)) ggX7_part_X7_refuse
set_option maxRecDepth 20000 in
theorem ggX7_part_X7_layIn : GoodIn wsX7_part wsX7_layIn := goodIn_r _ [22, 23, 24, 6, 5, 1, 25, 26, 27, 28, 29, 10, 30, 31, 32, 33, 34, 35, 36, 37, 38, 39, 40, 41, 42, 43, 44, 45, 46, 47, 48, 49, 50, 51, 52, 53, 54, 55, 56, 57, 58, 59, 60, 61, 62, 63, 64, 65, 66, 67, 68, 7, 69, 70, 71, 72, 3, 4, 73, 74, 75, 76, 77, 78, 79, 80, 81, 82, 83, 84, 85, 86, 87, 88, 89, 90, 91, 92, 93, 94, 95, 96, 97, 98, 99, 100, 101, 102, 103, 104, 105, 106, 107, 108, 109, 110, 111, 112, 113, 114, 115, 116, 117, 118, 119, 120, 121, 122, 123, 124, 125, 126] (by decide +kernel) (by decide +kernel)
set_option maxRecDepth 20000 in
theorem gX7_part_X7_layIn : GoodIn wsX7_part (wsV RX7 190 RX7 yX7_layIn wsX7_layIn) := goodIn_app (goodIn_of _ (by decide +kernel)) ggX7_part_X7_layIn
set_option maxRecDepth 20000 in
theorem ggX7_part_X7_isWay : GoodIn wsX7_part wsX7_isWay := goodIn_r _ [62, 63, 64, 65, 66, 67, 10, 68, 1, 26, 25, 5, 7, 6, 23, 24, 69, 70, 71, 72, 3, 4, 85, 86, 87, 88, 89, 90, 91, 92, 93, 94, 95, 96, 97, 98, 99, 100, 101, 102, 103, 104, 105, 106, 107, 108, 109, 110, 111, 112, 113, 114, 115, 116, 117, 118, 119, 120, 121, 122, 123, 124, 125, 126] (by decide +kernel) (by decide +kernel)
set_option maxRecDepth 20000 in
theorem gX7_part_X7_isWay : GoodIn wsX7_part (wsV RX7 183 RX7 yX7_isWay wsX7_isWay) := goodIn_app (goodIn_of _ (by decide +kernel)) ggX7_part_X7_isWay
set_option maxRecDepth 20000 in
theorem ggX7_part_X7_goAlong : GoodIn wsX7_part wsX7_goAlong := goodIn_r _ [76, 63, 77, 78, 79, 80, 65, 66, 67, 10, 68, 1, 26, 25, 5, 7, 6, 23, 24, 69, 70, 71, 72, 3, 4, 81, 82, 83, 84, 85, 86, 87, 88, 89, 90, 91, 92, 93, 94, 95, 96, 97, 98, 99, 100, 101, 102, 103, 104, 105, 106, 107, 108, 109, 110, 111, 112, 113, 114, 115, 116, 117, 118, 119, 120, 121, 122, 123, 124, 125, 126] (by decide +kernel) (by decide +kernel)
set_option maxRecDepth 20000 in
theorem gX7_part_X7_goAlong : GoodIn wsX7_part (wsV RX7 186 RX7 yX7_goAlong wsX7_goAlong) := goodIn_app (goodIn_of _ (by decide +kernel)) ggX7_part_X7_goAlong
theorem dX7_part_0 : decode cX7_part 0 = .ok (.iload_n 1, 1) := by decide +kernel
theorem dX7_part_1 : decode cX7_part 1 = .ok (.invokestatic 155, 3) := by decide +kernel
theorem dX7_part_4 : decode cX7_part 4 = .ok (.ifCond .eq 22, 3) := by decide +kernel
theorem dX7_part_7 : decode cX7_part 7 = .ok (.iload_n 2, 1) := by decide +kernel
theorem dX7_part_8 : decode cX7_part 8 = .ok (.ifCond .lt 18, 3) := by decide +kernel
theorem dX7_part_11 : decode cX7_part 11 = .ok (.iload_n 2, 1) := by decide +kernel
theorem dX7_part_12 : decode cX7_part 12 = .ok (.aload_n 0, 1) := by decide +kernel
theorem dX7_part_13 : decode cX7_part 13 = .ok (.getfield 143, 3) := by decide +kernel
theorem dX7_part_16 : decode cX7_part 16 = .ok (.if_icmp .ge 10, 3) := by decide +kernel
theorem dX7_part_19 : decode cX7_part 19 = .ok (.iload_n 3, 1) := by decide +kernel
theorem dX7_part_20 : decode cX7_part 20 = .ok (.invokestatic 152, 3) := by decide +kernel
theorem dX7_part_23 : decode cX7_part 23 = .ok (.ifCond .ne 9, 3) := by decide +kernel
theorem dX7_part_26 : decode cX7_part 26 = .ok (.aload_n 0, 1) := by decide +kernel
theorem dX7_part_27 : decode cX7_part 27 = .ok (.iconst 1, 1) := by decide +kernel
theorem dX7_part_28 : decode cX7_part 28 = .ok (.invokevirtual 126, 3) := by decide +kernel
theorem dX7_part_31 : decode cX7_part 31 = .ok (.ireturn, 1) := by decide +kernel
theorem dX7_part_32 : decode cX7_part 32 = .ok (.aload_n 0, 1) := by decide +kernel
theorem dX7_part_33 : decode cX7_part 33 = .ok (.iload_n 1, 1) := by decide +kernel
theorem dX7_part_34 : decode cX7_part 34 = .ok (.invokevirtual 190, 3) := by decide +kernel
theorem dX7_part_37 : decode cX7_part 37 = .ok (.ifCond .le 10, 3) := by decide +kernel
theorem dX7_part_40 : decode cX7_part 40 = .ok (.aload_n 0, 1) := by decide +kernel
theorem dX7_part_41 : decode cX7_part 41 = .ok (.bipush 7, 2) := by decide +kernel
theorem dX7_part_43 : decode cX7_part 43 = .ok (.invokevirtual 126, 3) := by decide +kernel
theorem dX7_part_46 : decode cX7_part 46 = .ok (.ireturn, 1) := by decide +kernel
theorem dX7_part_47 : decode cX7_part 47 = .ok (.aload_n 0, 1) := by decide +kernel
theorem dX7_part_48 : decode cX7_part 48 = .ok (.iconst 0, 1) := by decide +kernel
theorem dX7_part_49 : decode cX7_part 49 = .ok (.putfield 105, 3) := by decide +kernel
theorem dX7_part_52 : decode cX7_part 52 = .ok (.iconst 0, 1) := by decide +kernel
theorem dX7_part_53 : decode cX7_part 53 = .ok (.istore 4, 2) := by decide +kernel
theorem dX7_part_55 : decode cX7_part 55 = .ok (.iload 4, 2) := by decide +kernel
theorem dX7_part_57 : decode cX7_part 57 = .ok (.iload_n 2, 1) := by decide +kernel
theorem dX7_part_58 : decode cX7_part 58 = .ok (.if_icmp .gt 128, 3) := by decide +kernel
theorem dX7_part_61 : decode cX7_part 61 = .ok (.aload_n 0, 1) := by decide +kernel
theorem dX7_part_62 : decode cX7_part 62 = .ok (.getfield 54, 3) := by decide +kernel
theorem dX7_part_65 : decode cX7_part 65 = .ok (.iload 4, 2) := by decide +kernel
theorem dX7_part_67 : decode cX7_part 67 = .ok (.iaload, 1) := by decide +kernel
theorem dX7_part_68 : decode cX7_part 68 = .ok (.istore 5, 2) := by decide +kernel
theorem dX7_part_70 : decode cX7_part 70 = .ok (.iload 5, 2) := by decide +kernel
theorem dX7_part_72 : decode cX7_part 72 = .ok (.aload_n 0, 1) := by decide +kernel
theorem dX7_part_73 : decode cX7_part 73 = .ok (.getfield 57, 3) := by decide +kernel
theorem dX7_part_76 : decode cX7_part 76 = .ok (.iload 4, 2) := by decide +kernel
theorem dX7_part_78 : decode cX7_part 78 = .ok (.iaload, 1) := by decide +kernel
theorem dX7_part_79 : decode cX7_part 79 = .ok (.if_icmp .ge 101, 3) := by decide +kernel
theorem dX7_part_82 : decode cX7_part 82 = .ok (.bipush 24, 2) := by decide +kernel
theorem dX7_part_84 : decode cX7_part 84 = .ok (.iload 4, 2) := by decide +kernel
theorem dX7_part_86 : decode cX7_part 86 = .ok (.imul, 1) := by decide +kernel
theorem dX7_part_87 : decode cX7_part 87 = .ok (.iload 5, 2) := by decide +kernel
theorem dX7_part_89 : decode cX7_part 89 = .ok (.iadd, 1) := by decide +kernel
theorem dX7_part_90 : decode cX7_part 90 = .ok (.istore 6, 2) := by decide +kernel
theorem dX7_part_92 : decode cX7_part 92 = .ok (.aload_n 0, 1) := by decide +kernel
theorem dX7_part_93 : decode cX7_part 93 = .ok (.getfield 75, 3) := by decide +kernel
theorem dX7_part_96 : decode cX7_part 96 = .ok (.iload 6, 2) := by decide +kernel
theorem dX7_part_98 : decode cX7_part 98 = .ok (.iconst 1, 1) := by decide +kernel
theorem dX7_part_99 : decode cX7_part 99 = .ok (.bastore, 1) := by decide +kernel
theorem dX7_part_100 : decode cX7_part 100 = .ok (.aload_n 0, 1) := by decide +kernel
theorem dX7_part_101 : decode cX7_part 101 = .ok (.getfield 63, 3) := by decide +kernel
theorem dX7_part_104 : decode cX7_part 104 = .ok (.iload 6, 2) := by decide +kernel
theorem dX7_part_106 : decode cX7_part 106 = .ok (.iaload, 1) := by decide +kernel
theorem dX7_part_107 : decode cX7_part 107 = .ok (.aload_n 0, 1) := by decide +kernel
theorem dX7_part_108 : decode cX7_part 108 = .ok (.getfield 60, 3) := by decide +kernel
theorem dX7_part_111 : decode cX7_part 111 = .ok (.iload 4, 2) := by decide +kernel
theorem dX7_part_113 : decode cX7_part 113 = .ok (.iaload, 1) := by decide +kernel
theorem dX7_part_114 : decode cX7_part 114 = .ok (.if_icmp .ge 60, 3) := by decide +kernel
theorem dX7_part_117 : decode cX7_part 117 = .ok (.aload_n 0, 1) := by decide +kernel
theorem dX7_part_118 : decode cX7_part 118 = .ok (.bipush 8, 2) := by decide +kernel
theorem dX7_part_120 : decode cX7_part 120 = .ok (.iload 5, 2) := by decide +kernel
theorem dX7_part_122 : decode cX7_part 122 = .ok (.iadd, 1) := by decide +kernel
theorem dX7_part_123 : decode cX7_part 123 = .ok (.iload 4, 2) := by decide +kernel
theorem dX7_part_125 : decode cX7_part 125 = .ok (.invokevirtual 183, 3) := by decide +kernel
theorem dX7_part_128 : decode cX7_part 128 = .ok (.ifCond .eq 46, 3) := by decide +kernel
theorem dX7_part_131 : decode cX7_part 131 = .ok (.aload_n 0, 1) := by decide +kernel
theorem dX7_part_132 : decode cX7_part 132 = .ok (.bipush 8, 2) := by decide +kernel
theorem dX7_part_134 : decode cX7_part 134 = .ok (.iload 5, 2) := by decide +kernel
theorem dX7_part_136 : decode cX7_part 136 = .ok (.iadd, 1) := by decide +kernel
theorem dX7_part_137 : decode cX7_part 137 = .ok (.iload 4, 2) := by decide +kernel
theorem dX7_part_139 : decode cX7_part 139 = .ok (.aload_n 0, 1) := by decide +kernel
theorem dX7_part_140 : decode cX7_part 140 = .ok (.getfield 60, 3) := by decide +kernel
theorem dX7_part_143 : decode cX7_part 143 = .ok (.iload 4, 2) := by decide +kernel
theorem dX7_part_145 : decode cX7_part 145 = .ok (.iaload, 1) := by decide +kernel
theorem dX7_part_146 : decode cX7_part 146 = .ok (.aload_n 0, 1) := by decide +kernel
theorem dX7_part_147 : decode cX7_part 147 = .ok (.getfield 63, 3) := by decide +kernel
theorem dX7_part_150 : decode cX7_part 150 = .ok (.iload 6, 2) := by decide +kernel
theorem dX7_part_152 : decode cX7_part 152 = .ok (.iaload, 1) := by decide +kernel
theorem dX7_part_153 : decode cX7_part 153 = .ok (.isub, 1) := by decide +kernel
theorem dX7_part_154 : decode cX7_part 154 = .ok (.invokevirtual 186, 3) := by decide +kernel
theorem dX7_part_157 : decode cX7_part 157 = .ok (.istore 7, 2) := by decide +kernel
theorem dX7_part_159 : decode cX7_part 159 = .ok (.aload_n 0, 1) := by decide +kernel
theorem dX7_part_160 : decode cX7_part 160 = .ok (.getfield 63, 3) := by decide +kernel
theorem dX7_part_163 : decode cX7_part 163 = .ok (.iload 6, 2) := by decide +kernel
theorem dX7_part_165 : decode cX7_part 165 = .ok (.dup2, 1) := by decide +kernel
theorem dX7_part_166 : decode cX7_part 166 = .ok (.iaload, 1) := by decide +kernel
theorem dX7_part_167 : decode cX7_part 167 = .ok (.iload 7, 2) := by decide +kernel
theorem dX7_part_169 : decode cX7_part 169 = .ok (.iadd, 1) := by decide +kernel
theorem dX7_part_170 : decode cX7_part 170 = .ok (.iastore, 1) := by decide +kernel
theorem dX7_part_171 : decode cX7_part 171 = .ok (.goto (-71), 3) := by decide +kernel
theorem dX7_part_174 : decode cX7_part 174 = .ok (.iinc 5 1, 3) := by decide +kernel
theorem dX7_part_177 : decode cX7_part 177 = .ok (.goto (-107), 3) := by decide +kernel
theorem dX7_part_180 : decode cX7_part 180 = .ok (.iinc 4 1, 3) := by decide +kernel
theorem dX7_part_183 : decode cX7_part 183 = .ok (.goto (-128), 3) := by decide +kernel
theorem dX7_part_186 : decode cX7_part 186 = .ok (.aload_n 0, 1) := by decide +kernel
theorem dX7_part_187 : decode cX7_part 187 = .ok (.getfield 63, 3) := by decide +kernel
theorem dX7_part_190 : decode cX7_part 190 = .ok (.bipush 24, 2) := by decide +kernel
theorem dX7_part_192 : decode cX7_part 192 = .ok (.iload_n 2, 1) := by decide +kernel
theorem dX7_part_193 : decode cX7_part 193 = .ok (.imul, 1) := by decide +kernel
theorem dX7_part_194 : decode cX7_part 194 = .ok (.iload_n 3, 1) := by decide +kernel
theorem dX7_part_195 : decode cX7_part 195 = .ok (.iadd, 1) := by decide +kernel
theorem dX7_part_196 : decode cX7_part 196 = .ok (.iaload, 1) := by decide +kernel
theorem dX7_part_197 : decode cX7_part 197 = .ok (.ireturn, 1) := by decide +kernel
theorem dX7_step_0 : decode cX7_step 0 = .ok (.aload_n 0, 1) := by decide +kernel
theorem dX7_step_1 : decode cX7_step 1 = .ok (.iconst 0, 1) := by decide +kernel
theorem dX7_step_2 : decode cX7_step 2 = .ok (.putfield 193, 3) := by decide +kernel
theorem dX7_step_5 : decode cX7_step 5 = .ok (.aload_n 0, 1) := by decide +kernel
theorem dX7_step_6 : decode cX7_step 6 = .ok (.iconst 0, 1) := by decide +kernel
theorem dX7_step_7 : decode cX7_step 7 = .ok (.putfield 196, 3) := by decide +kernel
theorem dX7_step_10 : decode cX7_step 10 = .ok (.aload_n 0, 1) := by decide +kernel
theorem dX7_step_11 : decode cX7_step 11 = .ok (.iconst 0, 1) := by decide +kernel
theorem dX7_step_12 : decode cX7_step 12 = .ok (.putfield 199, 3) := by decide +kernel
theorem dX7_step_15 : decode cX7_step 15 = .ok (.aload_n 0, 1) := by decide +kernel
theorem dX7_step_16 : decode cX7_step 16 = .ok (.iconst 0, 1) := by decide +kernel
theorem dX7_step_17 : decode cX7_step 17 = .ok (.putfield 202, 3) := by decide +kernel
theorem dX7_step_20 : decode cX7_step 20 = .ok (.aload_n 0, 1) := by decide +kernel
theorem dX7_step_21 : decode cX7_step 21 = .ok (.iconst 0, 1) := by decide +kernel
theorem dX7_step_22 : decode cX7_step 22 = .ok (.putfield 205, 3) := by decide +kernel
theorem dX7_step_25 : decode cX7_step 25 = .ok (.iconst 0, 1) := by decide +kernel
theorem dX7_step_26 : decode cX7_step 26 = .ok (.istore 5, 2) := by decide +kernel
theorem dX7_step_28 : decode cX7_step 28 = .ok (.iload 5, 2) := by decide +kernel
theorem dX7_step_30 : decode cX7_step 30 = .ok (.iload_n 3, 1) := by decide +kernel
theorem dX7_step_31 : decode cX7_step 31 = .ok (.if_icmp .ge 17, 3) := by decide +kernel
theorem dX7_step_34 : decode cX7_step 34 = .ok (.aload_n 0, 1) := by decide +kernel
theorem dX7_step_35 : decode cX7_step 35 = .ok (.getfield 84, 3) := by decide +kernel
theorem dX7_step_38 : decode cX7_step 38 = .ok (.iload 5, 2) := by decide +kernel
theorem dX7_step_40 : decode cX7_step 40 = .ok (.iconst 0, 1) := by decide +kernel
theorem dX7_step_41 : decode cX7_step 41 = .ok (.iastore, 1) := by decide +kernel
theorem dX7_step_42 : decode cX7_step 42 = .ok (.iinc 5 1, 3) := by decide +kernel
theorem dX7_step_45 : decode cX7_step 45 = .ok (.goto (-17), 3) := by decide +kernel
theorem dX7_step_48 : decode cX7_step 48 = .ok (.iconst 0, 1) := by decide +kernel
theorem dX7_step_49 : decode cX7_step 49 = .ok (.istore 5, 2) := by decide +kernel
theorem dX7_step_51 : decode cX7_step 51 = .ok (.iload 5, 2) := by decide +kernel
theorem dX7_step_53 : decode cX7_step 53 = .ok (.iload_n 2, 1) := by decide +kernel
theorem dX7_step_54 : decode cX7_step 54 = .ok (.if_icmp .ge 180, 3) := by decide +kernel
theorem dX7_step_57 : decode cX7_step 57 = .ok (.iconst 0, 1) := by decide +kernel
theorem dX7_step_58 : decode cX7_step 58 = .ok (.istore 6, 2) := by decide +kernel
theorem dX7_step_60 : decode cX7_step 60 = .ok (.iload 6, 2) := by decide +kernel
theorem dX7_step_62 : decode cX7_step 62 = .ok (.aload_n 0, 1) := by decide +kernel
theorem dX7_step_63 : decode cX7_step 63 = .ok (.getfield 16, 3) := by decide +kernel
theorem dX7_step_66 : decode cX7_step 66 = .ok (.bipush 64, 2) := by decide +kernel
theorem dX7_step_68 : decode cX7_step 68 = .ok (.iload_n 1, 1) := by decide +kernel
theorem dX7_step_69 : decode cX7_step 69 = .ok (.imul, 1) := by decide +kernel
theorem dX7_step_70 : decode cX7_step 70 = .ok (.iload 5, 2) := by decide +kernel
theorem dX7_step_72 : decode cX7_step 72 = .ok (.iadd, 1) := by decide +kernel
theorem dX7_step_73 : decode cX7_step 73 = .ok (.laload, 1) := by decide +kernel
theorem dX7_step_74 : decode cX7_step 74 = .ok (.l2i, 1) := by decide +kernel
theorem dX7_step_75 : decode cX7_step 75 = .ok (.if_icmp .ge 153, 3) := by decide +kernel
theorem dX7_step_78 : decode cX7_step 78 = .ok (.iconst 0, 1) := by decide +kernel
theorem dX7_step_79 : decode cX7_step 79 = .ok (.istore 7, 2) := by decide +kernel
theorem dX7_step_81 : decode cX7_step 81 = .ok (.iconst 1, 1) := by decide +kernel
theorem dX7_step_82 : decode cX7_step 82 = .ok (.istore 8, 2) := by decide +kernel
theorem dX7_step_84 : decode cX7_step 84 = .ok (.iload 8, 2) := by decide +kernel
theorem dX7_step_86 : decode cX7_step 86 = .ok (.iload_n 3, 1) := by decide +kernel
theorem dX7_step_87 : decode cX7_step 87 = .ok (.if_icmp .ge 30, 3) := by decide +kernel
theorem dX7_step_90 : decode cX7_step 90 = .ok (.aload_n 0, 1) := by decide +kernel
theorem dX7_step_91 : decode cX7_step 91 = .ok (.getfield 84, 3) := by decide +kernel
theorem dX7_step_94 : decode cX7_step 94 = .ok (.iload 8, 2) := by decide +kernel
theorem dX7_step_96 : decode cX7_step 96 = .ok (.iaload, 1) := by decide +kernel
theorem dX7_step_97 : decode cX7_step 97 = .ok (.aload_n 0, 1) := by decide +kernel
theorem dX7_step_98 : decode cX7_step 98 = .ok (.getfield 84, 3) := by decide +kernel
theorem dX7_step_101 : decode cX7_step 101 = .ok (.iload 7, 2) := by decide +kernel
theorem dX7_step_103 : decode cX7_step 103 = .ok (.iaload, 1) := by decide +kernel
theorem dX7_step_104 : decode cX7_step 104 = .ok (.if_icmp .ge 7, 3) := by decide +kernel
theorem dX7_step_107 : decode cX7_step 107 = .ok (.iload 8, 2) := by decide +kernel
theorem dX7_step_109 : decode cX7_step 109 = .ok (.istore 7, 2) := by decide +kernel
theorem dX7_step_111 : decode cX7_step 111 = .ok (.iinc 8 1, 3) := by decide +kernel
theorem dX7_step_114 : decode cX7_step 114 = .ok (.goto (-30), 3) := by decide +kernel
theorem dX7_step_117 : decode cX7_step 117 = .ok (.iload 5, 2) := by decide +kernel
theorem dX7_step_119 : decode cX7_step 119 = .ok (.aload_n 0, 1) := by decide +kernel
theorem dX7_step_120 : decode cX7_step 120 = .ok (.getfield 84, 3) := by decide +kernel
theorem dX7_step_123 : decode cX7_step 123 = .ok (.iload 7, 2) := by decide +kernel
theorem dX7_step_125 : decode cX7_step 125 = .ok (.iaload, 1) := by decide +kernel
theorem dX7_step_126 : decode cX7_step 126 = .ok (.invokestatic 208, 3) := by decide +kernel
theorem dX7_step_129 : decode cX7_step 129 = .ok (.istore 8, 2) := by decide +kernel
theorem dX7_step_131 : decode cX7_step 131 = .ok (.aload_n 0, 1) := by decide +kernel
theorem dX7_step_132 : decode cX7_step 132 = .ok (.getfield 84, 3) := by decide +kernel
theorem dX7_step_135 : decode cX7_step 135 = .ok (.iload 7, 2) := by decide +kernel
theorem dX7_step_137 : decode cX7_step 137 = .ok (.iload 8, 2) := by decide +kernel
theorem dX7_step_139 : decode cX7_step 139 = .ok (.iload 4, 2) := by decide +kernel
theorem dX7_step_141 : decode cX7_step 141 = .ok (.iadd, 1) := by decide +kernel
theorem dX7_step_142 : decode cX7_step 142 = .ok (.iastore, 1) := by decide +kernel
theorem dX7_step_143 : decode cX7_step 143 = .ok (.aload_n 0, 1) := by decide +kernel
theorem dX7_step_144 : decode cX7_step 144 = .ok (.dup, 1) := by decide +kernel
theorem dX7_step_145 : decode cX7_step 145 = .ok (.getfield 199, 3) := by decide +kernel
theorem dX7_step_148 : decode cX7_step 148 = .ok (.iconst 1, 1) := by decide +kernel
theorem dX7_step_149 : decode cX7_step 149 = .ok (.iadd, 1) := by decide +kernel
theorem dX7_step_150 : decode cX7_step 150 = .ok (.putfield 199, 3) := by decide +kernel
theorem dX7_step_153 : decode cX7_step 153 = .ok (.aload_n 0, 1) := by decide +kernel
theorem dX7_step_154 : decode cX7_step 154 = .ok (.dup, 1) := by decide +kernel
theorem dX7_step_155 : decode cX7_step 155 = .ok (.getfield 196, 3) := by decide +kernel
theorem dX7_step_158 : decode cX7_step 158 = .ok (.iload 8, 2) := by decide +kernel
theorem dX7_step_160 : decode cX7_step 160 = .ok (.iload 5, 2) := by decide +kernel
theorem dX7_step_162 : decode cX7_step 162 = .ok (.isub, 1) := by decide +kernel
theorem dX7_step_163 : decode cX7_step 163 = .ok (.iadd, 1) := by decide +kernel
theorem dX7_step_164 : decode cX7_step 164 = .ok (.putfield 196, 3) := by decide +kernel
theorem dX7_step_167 : decode cX7_step 167 = .ok (.aload_n 0, 1) := by decide +kernel
theorem dX7_step_168 : decode cX7_step 168 = .ok (.dup, 1) := by decide +kernel
theorem dX7_step_169 : decode cX7_step 169 = .ok (.getfield 202, 3) := by decide +kernel
theorem dX7_step_172 : decode cX7_step 172 = .ok (.iload 8, 2) := by decide +kernel
theorem dX7_step_174 : decode cX7_step 174 = .ok (.iload 5, 2) := by decide +kernel
theorem dX7_step_176 : decode cX7_step 176 = .ok (.if_icmp .le 7, 3) := by decide +kernel
theorem dX7_step_179 : decode cX7_step 179 = .ok (.iconst 1, 1) := by decide +kernel
theorem dX7_step_180 : decode cX7_step 180 = .ok (.goto 4, 3) := by decide +kernel
theorem dX7_step_183 : decode cX7_step 183 = .ok (.iconst 0, 1) := by decide +kernel
theorem dX7_step_184 : decode cX7_step 184 = .ok (.iadd, 1) := by decide +kernel
theorem dX7_step_185 : decode cX7_step 185 = .ok (.putfield 202, 3) := by decide +kernel
theorem dX7_step_188 : decode cX7_step 188 = .ok (.aload_n 0, 1) := by decide +kernel
theorem dX7_step_189 : decode cX7_step 189 = .ok (.aload_n 0, 1) := by decide +kernel
theorem dX7_step_190 : decode cX7_step 190 = .ok (.getfield 193, 3) := by decide +kernel
theorem dX7_step_193 : decode cX7_step 193 = .ok (.iload 8, 2) := by decide +kernel
theorem dX7_step_195 : decode cX7_step 195 = .ok (.iload 5, 2) := by decide +kernel
theorem dX7_step_197 : decode cX7_step 197 = .ok (.isub, 1) := by decide +kernel
theorem dX7_step_198 : decode cX7_step 198 = .ok (.invokestatic 208, 3) := by decide +kernel
theorem dX7_step_201 : decode cX7_step 201 = .ok (.putfield 193, 3) := by decide +kernel
theorem dX7_step_204 : decode cX7_step 204 = .ok (.aload_n 0, 1) := by decide +kernel
theorem dX7_step_205 : decode cX7_step 205 = .ok (.aload_n 0, 1) := by decide +kernel
theorem dX7_step_206 : decode cX7_step 206 = .ok (.getfield 205, 3) := by decide +kernel
theorem dX7_step_209 : decode cX7_step 209 = .ok (.aload_n 0, 1) := by decide +kernel
theorem dX7_step_210 : decode cX7_step 210 = .ok (.getfield 84, 3) := by decide +kernel
theorem dX7_step_213 : decode cX7_step 213 = .ok (.iload 7, 2) := by decide +kernel
theorem dX7_step_215 : decode cX7_step 215 = .ok (.iaload, 1) := by decide +kernel
theorem dX7_step_216 : decode cX7_step 216 = .ok (.invokestatic 208, 3) := by decide +kernel
theorem dX7_step_219 : decode cX7_step 219 = .ok (.putfield 205, 3) := by decide +kernel
theorem dX7_step_222 : decode cX7_step 222 = .ok (.iinc 6 1, 3) := by decide +kernel
theorem dX7_step_225 : decode cX7_step 225 = .ok (.goto (-165), 3) := by decide +kernel
theorem dX7_step_228 : decode cX7_step 228 = .ok (.iinc 5 1, 3) := by decide +kernel
theorem dX7_step_231 : decode cX7_step 231 = .ok (.goto (-180), 3) := by decide +kernel
theorem dX7_step_234 : decode cX7_step 234 = .ok (.return_, 1) := by decide +kernel
set_option maxRecDepth 20000 in
theorem ggX7_line_X7_wrongNumbers : GoodIn wsX7_line wsX7_wrongNumbers := goodIn_r _ [12, 13, 14, 15, 16, 11, 17, 31, 32, 33, 34, 35, 36, 37, 38, 39, 40, 41, 42, 43, 44, 45, 46, 47, 48, 49, 50, 51, 52, 53, 54, 55, 56, 57, 58, 59, 60, 61, 62, 63, 64, 65, 66, 67, 68, 69, 70, 71, 72] (by decide +kernel) (by decide +kernel)
set_option maxRecDepth 20000 in
theorem gX7_line_X7_wrongNumbers : GoodIn wsX7_line (wsV RX7 213 RX7 yX7_wrongNumbers wsX7_wrongNumbers) := goodIn_app (goodIn_of _ (by decide +kernel)) ggX7_line_X7_wrongNumbers
set_option maxRecDepth 20000 in
theorem ggX7_line_X7_refuse : GoodIn wsX7_line wsX7_refuse := goodIn_r _ [21, 2, 31, 32, 33, 34, 35, 36, 37, 38, 39, 40, 41, 42, 43, 44, 45, 46, 47, 48, 49, 50, 51, 52, 53, 54, 55, 56, 57, 58, 59, 60, 61, 62, 63, 64, 65, 66, 67, 68, 69, 70, 71, 72] (by decide +kernel) (by decide +kernel)
set_option maxRecDepth 20000 in
theorem gX7_line_X7_refuse : GoodIn wsX7_line (wsV RX7 126 RX7 yX7_refuse wsX7_refuse) := goodIn_app (goodIn_of _ (by decide +kernel)) ggX7_line_X7_refuse
set_option maxRecDepth 20000 in
theorem ggX7_line_X7_step : GoodIn wsX7_line wsX7_step := goodIn_r _ [25, 3, 4, 5, 6, 7, 26, 14, 27, 28, 29, 30, 31, 32, 33, 34, 35, 36, 37, 38, 39, 40, 41, 42, 43, 44, 45, 46, 47, 48, 49, 50, 51, 52, 53, 54, 55, 56, 57, 58, 59, 60, 61, 62, 63, 64, 65, 66, 67, 68, 69, 70, 71, 72] (by decide +kernel) (by decide +kernel)
set_option maxRecDepth 20000 in
theorem gX7_line_X7_step : GoodIn wsX7_line (wsV RX7 217 RX7 yX7_step wsX7_step) := goodIn_app (goodIn_of _ (by decide +kernel)) ggX7_line_X7_step
theorem dX7_line_0 : decode cX7_line 0 = .ok (.iload_n 2, 1) := by decide +kernel
theorem dX7_line_1 : decode cX7_line 1 = .ok (.iconst 1, 1) := by decide +kernel
theorem dX7_line_2 : decode cX7_line 2 = .ok (.if_icmp .lt 44, 3) := by decide +kernel
theorem dX7_line_5 : decode cX7_line 5 = .ok (.iload_n 2, 1) := by decide +kernel
theorem dX7_line_6 : decode cX7_line 6 = .ok (.bipush 64, 2) := by decide +kernel
theorem dX7_line_8 : decode cX7_line 8 = .ok (.if_icmp .gt 38, 3) := by decide +kernel
theorem dX7_line_11 : decode cX7_line 11 = .ok (.iload_n 3, 1) := by decide +kernel
theorem dX7_line_12 : decode cX7_line 12 = .ok (.iconst 1, 1) := by decide +kernel
theorem dX7_line_13 : decode cX7_line 13 = .ok (.if_icmp .lt 33, 3) := by decide +kernel
theorem dX7_line_16 : decode cX7_line 16 = .ok (.iload_n 3, 1) := by decide +kernel
theorem dX7_line_17 : decode cX7_line 17 = .ok (.bipush 20, 2) := by decide +kernel
theorem dX7_line_19 : decode cX7_line 19 = .ok (.if_icmp .gt 27, 3) := by decide +kernel
theorem dX7_line_22 : decode cX7_line 22 = .ok (.iload 4, 2) := by decide +kernel
theorem dX7_line_24 : decode cX7_line 24 = .ok (.iconst 1, 1) := by decide +kernel
theorem dX7_line_25 : decode cX7_line 25 = .ok (.if_icmp .lt 21, 3) := by decide +kernel
theorem dX7_line_28 : decode cX7_line 28 = .ok (.iload 4, 2) := by decide +kernel
theorem dX7_line_30 : decode cX7_line 30 = .ok (.bipush 100, 2) := by decide +kernel
theorem dX7_line_32 : decode cX7_line 32 = .ok (.if_icmp .gt 14, 3) := by decide +kernel
theorem dX7_line_35 : decode cX7_line 35 = .ok (.iload 5, 2) := by decide +kernel
theorem dX7_line_37 : decode cX7_line 37 = .ok (.ifCond .lt 9, 3) := by decide +kernel
theorem dX7_line_40 : decode cX7_line 40 = .ok (.iload 5, 2) := by decide +kernel
theorem dX7_line_42 : decode cX7_line 42 = .ok (.iconst 4, 1) := by decide +kernel
theorem dX7_line_43 : decode cX7_line 43 = .ok (.if_icmp .le 7, 3) := by decide +kernel
theorem dX7_line_46 : decode cX7_line 46 = .ok (.iconst 1, 1) := by decide +kernel
theorem dX7_line_47 : decode cX7_line 47 = .ok (.goto 12, 3) := by decide +kernel
theorem dX7_line_50 : decode cX7_line 50 = .ok (.aload_n 0, 1) := by decide +kernel
theorem dX7_line_51 : decode cX7_line 51 = .ok (.iload_n 1, 1) := by decide +kernel
theorem dX7_line_52 : decode cX7_line 52 = .ok (.iload_n 2, 1) := by decide +kernel
theorem dX7_line_53 : decode cX7_line 53 = .ok (.ldc2_w 211, 3) := by decide +kernel
theorem dX7_line_56 : decode cX7_line 56 = .ok (.invokevirtual 213, 3) := by decide +kernel
theorem dX7_line_59 : decode cX7_line 59 = .ok (.istore 6, 2) := by decide +kernel
theorem dX7_line_61 : decode cX7_line 61 = .ok (.iload 6, 2) := by decide +kernel
theorem dX7_line_63 : decode cX7_line 63 = .ok (.ifCond .le 10, 3) := by decide +kernel
theorem dX7_line_66 : decode cX7_line 66 = .ok (.aload_n 0, 1) := by decide +kernel
theorem dX7_line_67 : decode cX7_line 67 = .ok (.iload 6, 2) := by decide +kernel
theorem dX7_line_69 : decode cX7_line 69 = .ok (.invokevirtual 126, 3) := by decide +kernel
theorem dX7_line_72 : decode cX7_line 72 = .ok (.ireturn, 1) := by decide +kernel
theorem dX7_line_73 : decode cX7_line 73 = .ok (.aload_n 0, 1) := by decide +kernel
theorem dX7_line_74 : decode cX7_line 74 = .ok (.iload_n 1, 1) := by decide +kernel
theorem dX7_line_75 : decode cX7_line 75 = .ok (.iload_n 2, 1) := by decide +kernel
theorem dX7_line_76 : decode cX7_line 76 = .ok (.iload_n 3, 1) := by decide +kernel
theorem dX7_line_77 : decode cX7_line 77 = .ok (.iload 4, 2) := by decide +kernel
theorem dX7_line_79 : decode cX7_line 79 = .ok (.invokevirtual 217, 3) := by decide +kernel
theorem dX7_line_82 : decode cX7_line 82 = .ok (.aload_n 0, 1) := by decide +kernel
theorem dX7_line_83 : decode cX7_line 83 = .ok (.iconst 0, 1) := by decide +kernel
theorem dX7_line_84 : decode cX7_line 84 = .ok (.putfield 105, 3) := by decide +kernel
theorem dX7_line_87 : decode cX7_line 87 = .ok (.iload 5, 2) := by decide +kernel
theorem dX7_line_89 : decode cX7_line 89 = .ok (.ifCond .ne 10, 3) := by decide +kernel
theorem dX7_line_92 : decode cX7_line 92 = .ok (.aload_n 0, 1) := by decide +kernel
theorem dX7_line_93 : decode cX7_line 93 = .ok (.getfield 193, 3) := by decide +kernel
theorem dX7_line_96 : decode cX7_line 96 = .ok (.goto 46, 3) := by decide +kernel
theorem dX7_line_99 : decode cX7_line 99 = .ok (.iload 5, 2) := by decide +kernel
theorem dX7_line_101 : decode cX7_line 101 = .ok (.iconst 1, 1) := by decide +kernel
theorem dX7_line_102 : decode cX7_line 102 = .ok (.if_icmp .ne 10, 3) := by decide +kernel
theorem dX7_line_105 : decode cX7_line 105 = .ok (.aload_n 0, 1) := by decide +kernel
theorem dX7_line_106 : decode cX7_line 106 = .ok (.getfield 196, 3) := by decide +kernel
theorem dX7_line_109 : decode cX7_line 109 = .ok (.goto 33, 3) := by decide +kernel
theorem dX7_line_112 : decode cX7_line 112 = .ok (.iload 5, 2) := by decide +kernel
theorem dX7_line_114 : decode cX7_line 114 = .ok (.iconst 2, 1) := by decide +kernel
theorem dX7_line_115 : decode cX7_line 115 = .ok (.if_icmp .ne 10, 3) := by decide +kernel
theorem dX7_line_118 : decode cX7_line 118 = .ok (.aload_n 0, 1) := by decide +kernel
theorem dX7_line_119 : decode cX7_line 119 = .ok (.getfield 199, 3) := by decide +kernel
theorem dX7_line_122 : decode cX7_line 122 = .ok (.goto 20, 3) := by decide +kernel
theorem dX7_line_125 : decode cX7_line 125 = .ok (.iload 5, 2) := by decide +kernel
theorem dX7_line_127 : decode cX7_line 127 = .ok (.iconst 3, 1) := by decide +kernel
theorem dX7_line_128 : decode cX7_line 128 = .ok (.if_icmp .ne 10, 3) := by decide +kernel
theorem dX7_line_131 : decode cX7_line 131 = .ok (.aload_n 0, 1) := by decide +kernel
theorem dX7_line_132 : decode cX7_line 132 = .ok (.getfield 202, 3) := by decide +kernel
theorem dX7_line_135 : decode cX7_line 135 = .ok (.goto 7, 3) := by decide +kernel
theorem dX7_line_138 : decode cX7_line 138 = .ok (.aload_n 0, 1) := by decide +kernel
theorem dX7_line_139 : decode cX7_line 139 = .ok (.getfield 205, 3) := by decide +kernel
theorem dX7_line_142 : decode cX7_line 142 = .ok (.ireturn, 1) := by decide +kernel
set_option maxRecDepth 20000 in
theorem ggX7_hands_X7_wrongNumbers : GoodIn wsX7_hands wsX7_wrongNumbers := goodIn_r _ [8, 9, 10, 11, 12, 7, 13, 31, 32, 33, 34, 35, 36, 37, 38, 39, 40, 41, 42, 43, 44, 45, 46, 47, 48, 49, 50, 51, 52, 53, 54, 55, 56, 57, 58, 59, 60, 61, 62, 63, 64, 65, 66, 67, 68, 69, 70, 71, 72] (by decide +kernel) (by decide +kernel)
set_option maxRecDepth 20000 in
theorem gX7_hands_X7_wrongNumbers : GoodIn wsX7_hands (wsV RX7 213 RX7 yX7_wrongNumbers wsX7_wrongNumbers) := goodIn_app (goodIn_of _ (by decide +kernel)) ggX7_hands_X7_wrongNumbers
set_option maxRecDepth 20000 in
theorem ggX7_hands_X7_refuse : GoodIn wsX7_hands wsX7_refuse := goodIn_r _ [17, 2, 31, 32, 33, 34, 35, 36, 37, 38, 39, 40, 41, 42, 43, 44, 45, 46, 47, 48, 49, 50, 51, 52, 53, 54, 55, 56, 57, 58, 59, 60, 61, 62, 63, 64, 65, 66, 67, 68, 69, 70, 71, 72] (by decide +kernel) (by decide +kernel)
set_option maxRecDepth 20000 in
theorem gX7_hands_X7_refuse : GoodIn wsX7_hands (wsV RX7 126 RX7 yX7_refuse wsX7_refuse) := goodIn_app (goodIn_of _ (by decide +kernel)) ggX7_hands_X7_refuse
set_option maxRecDepth 20000 in
theorem ggX7_hands_X7_step : GoodIn wsX7_hands wsX7_step := goodIn_r _ [21, 3, 22, 23, 24, 25, 26, 10, 27, 28, 29, 30, 31, 32, 33, 34, 35, 36, 37, 38, 39, 40, 41, 42, 43, 44, 45, 46, 47, 48, 49, 50, 51, 52, 53, 54, 55, 56, 57, 58, 59, 60, 61, 62, 63, 64, 65, 66, 67, 68, 69, 70, 71, 72] (by decide +kernel) (by decide +kernel)
set_option maxRecDepth 20000 in
theorem gX7_hands_X7_step : GoodIn wsX7_hands (wsV RX7 217 RX7 yX7_step wsX7_step) := goodIn_app (goodIn_of _ (by decide +kernel)) ggX7_hands_X7_step
theorem dX7_hands_0 : decode cX7_hands 0 = .ok (.iload_n 2, 1) := by decide +kernel
theorem dX7_hands_1 : decode cX7_hands 1 = .ok (.iconst 1, 1) := by decide +kernel
theorem dX7_hands_2 : decode cX7_hands 2 = .ok (.if_icmp .lt 33, 3) := by decide +kernel
theorem dX7_hands_5 : decode cX7_hands 5 = .ok (.iload_n 2, 1) := by decide +kernel
theorem dX7_hands_6 : decode cX7_hands 6 = .ok (.bipush 64, 2) := by decide +kernel
theorem dX7_hands_8 : decode cX7_hands 8 = .ok (.if_icmp .gt 27, 3) := by decide +kernel
theorem dX7_hands_11 : decode cX7_hands 11 = .ok (.iload_n 3, 1) := by decide +kernel
theorem dX7_hands_12 : decode cX7_hands 12 = .ok (.iconst 1, 1) := by decide +kernel
theorem dX7_hands_13 : decode cX7_hands 13 = .ok (.if_icmp .lt 22, 3) := by decide +kernel
theorem dX7_hands_16 : decode cX7_hands 16 = .ok (.iload_n 3, 1) := by decide +kernel
theorem dX7_hands_17 : decode cX7_hands 17 = .ok (.bipush 100, 2) := by decide +kernel
theorem dX7_hands_19 : decode cX7_hands 19 = .ok (.if_icmp .gt 16, 3) := by decide +kernel
theorem dX7_hands_22 : decode cX7_hands 22 = .ok (.iload 4, 2) := by decide +kernel
theorem dX7_hands_24 : decode cX7_hands 24 = .ok (.ifCond .lt 11, 3) := by decide +kernel
theorem dX7_hands_27 : decode cX7_hands 27 = .ok (.iload 4, 2) := by decide +kernel
theorem dX7_hands_29 : decode cX7_hands 29 = .ok (.sipush 10000, 3) := by decide +kernel
theorem dX7_hands_32 : decode cX7_hands 32 = .ok (.if_icmp .le 7, 3) := by decide +kernel
theorem dX7_hands_35 : decode cX7_hands 35 = .ok (.iconst 1, 1) := by decide +kernel
theorem dX7_hands_36 : decode cX7_hands 36 = .ok (.goto 12, 3) := by decide +kernel
theorem dX7_hands_39 : decode cX7_hands 39 = .ok (.aload_n 0, 1) := by decide +kernel
theorem dX7_hands_40 : decode cX7_hands 40 = .ok (.iload_n 1, 1) := by decide +kernel
theorem dX7_hands_41 : decode cX7_hands 41 = .ok (.iload_n 2, 1) := by decide +kernel
theorem dX7_hands_42 : decode cX7_hands 42 = .ok (.ldc2_w 211, 3) := by decide +kernel
theorem dX7_hands_45 : decode cX7_hands 45 = .ok (.invokevirtual 213, 3) := by decide +kernel
theorem dX7_hands_48 : decode cX7_hands 48 = .ok (.istore 5, 2) := by decide +kernel
theorem dX7_hands_50 : decode cX7_hands 50 = .ok (.iload 5, 2) := by decide +kernel
theorem dX7_hands_52 : decode cX7_hands 52 = .ok (.ifCond .le 10, 3) := by decide +kernel
theorem dX7_hands_55 : decode cX7_hands 55 = .ok (.aload_n 0, 1) := by decide +kernel
theorem dX7_hands_56 : decode cX7_hands 56 = .ok (.iload 5, 2) := by decide +kernel
theorem dX7_hands_58 : decode cX7_hands 58 = .ok (.invokevirtual 126, 3) := by decide +kernel
theorem dX7_hands_61 : decode cX7_hands 61 = .ok (.ireturn, 1) := by decide +kernel
theorem dX7_hands_62 : decode cX7_hands 62 = .ok (.aload_n 0, 1) := by decide +kernel
theorem dX7_hands_63 : decode cX7_hands 63 = .ok (.iconst 0, 1) := by decide +kernel
theorem dX7_hands_64 : decode cX7_hands 64 = .ok (.putfield 105, 3) := by decide +kernel
theorem dX7_hands_67 : decode cX7_hands 67 = .ok (.iconst 1, 1) := by decide +kernel
theorem dX7_hands_68 : decode cX7_hands 68 = .ok (.istore 6, 2) := by decide +kernel
theorem dX7_hands_70 : decode cX7_hands 70 = .ok (.iload 6, 2) := by decide +kernel
theorem dX7_hands_72 : decode cX7_hands 72 = .ok (.bipush 20, 2) := by decide +kernel
theorem dX7_hands_74 : decode cX7_hands 74 = .ok (.if_icmp .gt 30, 3) := by decide +kernel
theorem dX7_hands_77 : decode cX7_hands 77 = .ok (.aload_n 0, 1) := by decide +kernel
theorem dX7_hands_78 : decode cX7_hands 78 = .ok (.iload_n 1, 1) := by decide +kernel
theorem dX7_hands_79 : decode cX7_hands 79 = .ok (.iload_n 2, 1) := by decide +kernel
theorem dX7_hands_80 : decode cX7_hands 80 = .ok (.iload 6, 2) := by decide +kernel
theorem dX7_hands_82 : decode cX7_hands 82 = .ok (.iload_n 3, 1) := by decide +kernel
theorem dX7_hands_83 : decode cX7_hands 83 = .ok (.invokevirtual 217, 3) := by decide +kernel
theorem dX7_hands_86 : decode cX7_hands 86 = .ok (.aload_n 0, 1) := by decide +kernel
theorem dX7_hands_87 : decode cX7_hands 87 = .ok (.getfield 193, 3) := by decide +kernel
theorem dX7_hands_90 : decode cX7_hands 90 = .ok (.iload 4, 2) := by decide +kernel
theorem dX7_hands_92 : decode cX7_hands 92 = .ok (.if_icmp .gt 6, 3) := by decide +kernel
theorem dX7_hands_95 : decode cX7_hands 95 = .ok (.iload 6, 2) := by decide +kernel
theorem dX7_hands_97 : decode cX7_hands 97 = .ok (.ireturn, 1) := by decide +kernel
theorem dX7_hands_98 : decode cX7_hands 98 = .ok (.iinc 6 1, 3) := by decide +kernel
theorem dX7_hands_101 : decode cX7_hands 101 = .ok (.goto (-31), 3) := by decide +kernel
theorem dX7_hands_104 : decode cX7_hands 104 = .ok (.aload_n 0, 1) := by decide +kernel
theorem dX7_hands_105 : decode cX7_hands 105 = .ok (.bipush 7, 2) := by decide +kernel
theorem dX7_hands_107 : decode cX7_hands 107 = .ok (.invokevirtual 126, 3) := by decide +kernel
theorem dX7_hands_110 : decode cX7_hands 110 = .ok (.ireturn, 1) := by decide +kernel
set_option maxRecDepth 20000 in
theorem ggX7_wanted_X7_wrongNumbers : GoodIn wsX7_wanted wsX7_wrongNumbers := goodIn_r _ [8, 9, 3, 10, 11, 7, 12, 18, 19, 20, 21, 22, 23, 24, 25, 26, 27, 28, 29, 30, 31, 32, 33, 34, 35, 36, 37, 38, 39, 40, 41, 42, 43, 44, 45, 46, 47, 48, 49, 50, 51, 52, 53, 54, 55, 56, 57, 58, 59] (by decide +kernel) (by decide +kernel)
set_option maxRecDepth 20000 in
theorem gX7_wanted_X7_wrongNumbers : GoodIn wsX7_wanted (wsV RX7 213 RX7 yX7_wrongNumbers wsX7_wrongNumbers) := goodIn_app (goodIn_of _ (by decide +kernel)) ggX7_wanted_X7_wrongNumbers
set_option maxRecDepth 20000 in
theorem ggX7_wanted_X7_is : GoodIn wsX7_wanted wsX7_is := goodIn_r _ [16, 17, 18, 19, 20, 21, 22, 23, 24, 25, 26, 27, 28, 29, 30, 31, 32, 33, 34, 35, 36, 37, 38, 39, 40, 41, 42, 43, 44, 45, 46, 47, 48, 49, 50, 51, 52, 53, 54, 55, 56, 57, 58, 59] (by decide +kernel) (by decide +kernel)
set_option maxRecDepth 20000 in
theorem gX7_wanted_X7_is : GoodIn wsX7_wanted (wsV RX7 113 RX7 yX7_is wsX7_is) := goodIn_app (goodIn_of _ (by decide +kernel)) ggX7_wanted_X7_is
theorem dX7_wanted_0 : decode cX7_wanted 0 = .ok (.aload_n 0, 1) := by decide +kernel
theorem dX7_wanted_1 : decode cX7_wanted 1 = .ok (.iload_n 1, 1) := by decide +kernel
theorem dX7_wanted_2 : decode cX7_wanted 2 = .ok (.bipush 12, 2) := by decide +kernel
theorem dX7_wanted_4 : decode cX7_wanted 4 = .ok (.ldc2_w 221, 3) := by decide +kernel
theorem dX7_wanted_7 : decode cX7_wanted 7 = .ok (.invokevirtual 213, 3) := by decide +kernel
theorem dX7_wanted_10 : decode cX7_wanted 10 = .ok (.istore_n 2, 1) := by decide +kernel
theorem dX7_wanted_11 : decode cX7_wanted 11 = .ok (.iload_n 2, 1) := by decide +kernel
theorem dX7_wanted_12 : decode cX7_wanted 12 = .ok (.ifCond .le 9, 3) := by decide +kernel
theorem dX7_wanted_15 : decode cX7_wanted 15 = .ok (.aload_n 0, 1) := by decide +kernel
theorem dX7_wanted_16 : decode cX7_wanted 16 = .ok (.iload_n 2, 1) := by decide +kernel
theorem dX7_wanted_17 : decode cX7_wanted 17 = .ok (.invokevirtual 113, 3) := by decide +kernel
theorem dX7_wanted_20 : decode cX7_wanted 20 = .ok (.ireturn, 1) := by decide +kernel
theorem dX7_wanted_21 : decode cX7_wanted 21 = .ok (.iconst 0, 1) := by decide +kernel
theorem dX7_wanted_22 : decode cX7_wanted 22 = .ok (.istore_n 3, 1) := by decide +kernel
theorem dX7_wanted_23 : decode cX7_wanted 23 = .ok (.iload_n 3, 1) := by decide +kernel
theorem dX7_wanted_24 : decode cX7_wanted 24 = .ok (.bipush 12, 2) := by decide +kernel
theorem dX7_wanted_26 : decode cX7_wanted 26 = .ok (.if_icmp .ge 27, 3) := by decide +kernel
theorem dX7_wanted_29 : decode cX7_wanted 29 = .ok (.aload_n 0, 1) := by decide +kernel
theorem dX7_wanted_30 : decode cX7_wanted 30 = .ok (.getfield 87, 3) := by decide +kernel
theorem dX7_wanted_33 : decode cX7_wanted 33 = .ok (.iload_n 3, 1) := by decide +kernel
theorem dX7_wanted_34 : decode cX7_wanted 34 = .ok (.aload_n 0, 1) := by decide +kernel
theorem dX7_wanted_35 : decode cX7_wanted 35 = .ok (.getfield 16, 3) := by decide +kernel
theorem dX7_wanted_38 : decode cX7_wanted 38 = .ok (.bipush 64, 2) := by decide +kernel
theorem dX7_wanted_40 : decode cX7_wanted 40 = .ok (.iload_n 1, 1) := by decide +kernel
theorem dX7_wanted_41 : decode cX7_wanted 41 = .ok (.imul, 1) := by decide +kernel
theorem dX7_wanted_42 : decode cX7_wanted 42 = .ok (.iload_n 3, 1) := by decide +kernel
theorem dX7_wanted_43 : decode cX7_wanted 43 = .ok (.iadd, 1) := by decide +kernel
theorem dX7_wanted_44 : decode cX7_wanted 44 = .ok (.laload, 1) := by decide +kernel
theorem dX7_wanted_45 : decode cX7_wanted 45 = .ok (.l2i, 1) := by decide +kernel
theorem dX7_wanted_46 : decode cX7_wanted 46 = .ok (.iastore, 1) := by decide +kernel
theorem dX7_wanted_47 : decode cX7_wanted 47 = .ok (.iinc 3 1, 3) := by decide +kernel
theorem dX7_wanted_50 : decode cX7_wanted 50 = .ok (.goto (-27), 3) := by decide +kernel
theorem dX7_wanted_53 : decode cX7_wanted 53 = .ok (.aload_n 0, 1) := by decide +kernel
theorem dX7_wanted_54 : decode cX7_wanted 54 = .ok (.iconst 0, 1) := by decide +kernel
theorem dX7_wanted_55 : decode cX7_wanted 55 = .ok (.invokevirtual 113, 3) := by decide +kernel
theorem dX7_wanted_58 : decode cX7_wanted 58 = .ok (.ireturn, 1) := by decide +kernel
set_option maxRecDepth 20000 in
theorem ggX7_have_X7_is : GoodIn wsX7_have wsX7_is := goodIn_r _ [6, 7, 8, 9, 10, 11, 12, 13, 14, 15, 16, 17, 18, 19, 20, 21, 22, 23, 24, 25, 26, 27, 28, 29, 30, 31, 32, 33, 34, 35, 36, 37, 38, 39, 40, 41, 42, 43, 44, 45, 46, 47, 48, 49] (by decide +kernel) (by decide +kernel)
set_option maxRecDepth 20000 in
theorem gX7_have_X7_is : GoodIn wsX7_have (wsV RX7 113 RX7 yX7_is wsX7_is) := goodIn_app (goodIn_of _ (by decide +kernel)) ggX7_have_X7_is
theorem dX7_have_0 : decode cX7_have 0 = .ok (.iload_n 1, 1) := by decide +kernel
theorem dX7_have_1 : decode cX7_have 1 = .ok (.ifCond .lt 10, 3) := by decide +kernel
theorem dX7_have_4 : decode cX7_have 4 = .ok (.iload_n 1, 1) := by decide +kernel
theorem dX7_have_5 : decode cX7_have 5 = .ok (.sipush 500, 3) := by decide +kernel
theorem dX7_have_8 : decode cX7_have 8 = .ok (.if_icmp .le 9, 3) := by decide +kernel
theorem dX7_have_11 : decode cX7_have 11 = .ok (.aload_n 0, 1) := by decide +kernel
theorem dX7_have_12 : decode cX7_have 12 = .ok (.iconst 1, 1) := by decide +kernel
theorem dX7_have_13 : decode cX7_have 13 = .ok (.invokevirtual 113, 3) := by decide +kernel
theorem dX7_have_16 : decode cX7_have 16 = .ok (.ireturn, 1) := by decide +kernel
theorem dX7_have_17 : decode cX7_have 17 = .ok (.aload_n 0, 1) := by decide +kernel
theorem dX7_have_18 : decode cX7_have 18 = .ok (.iload_n 1, 1) := by decide +kernel
theorem dX7_have_19 : decode cX7_have 19 = .ok (.putfield 223, 3) := by decide +kernel
theorem dX7_have_22 : decode cX7_have 22 = .ok (.aload_n 0, 1) := by decide +kernel
theorem dX7_have_23 : decode cX7_have 23 = .ok (.iconst 0, 1) := by decide +kernel
theorem dX7_have_24 : decode cX7_have 24 = .ok (.invokevirtual 113, 3) := by decide +kernel
theorem dX7_have_27 : decode cX7_have 27 = .ok (.ireturn, 1) := by decide +kernel
set_option maxRecDepth 20000 in
theorem ggX7_type_X7_wrongNumbers : GoodIn wsX7_type wsX7_wrongNumbers := goodIn_r _ [13, 14, 7, 15, 16, 12, 17, 22, 23, 24, 25, 26, 27, 28, 29, 30, 31, 32, 33, 34, 35, 36, 37, 38, 39, 40, 41, 42, 43, 44, 45, 46, 47, 48, 49, 50, 51, 52, 53, 54, 55, 56, 57, 58, 59, 60, 61, 62, 63] (by decide +kernel) (by decide +kernel)
set_option maxRecDepth 20000 in
theorem gX7_type_X7_wrongNumbers : GoodIn wsX7_type (wsV RX7 213 RX7 yX7_wrongNumbers wsX7_wrongNumbers) := goodIn_app (goodIn_of _ (by decide +kernel)) ggX7_type_X7_wrongNumbers
set_option maxRecDepth 20000 in
theorem ggX7_type_X7_refuse : GoodIn wsX7_type wsX7_refuse := goodIn_r _ [21, 8, 22, 23, 24, 25, 26, 27, 28, 29, 30, 31, 32, 33, 34, 35, 36, 37, 38, 39, 40, 41, 42, 43, 44, 45, 46, 47, 48, 49, 50, 51, 52, 53, 54, 55, 56, 57, 58, 59, 60, 61, 62, 63] (by decide +kernel) (by decide +kernel)
set_option maxRecDepth 20000 in
theorem gX7_type_X7_refuse : GoodIn wsX7_type (wsV RX7 126 RX7 yX7_refuse wsX7_refuse) := goodIn_app (goodIn_of _ (by decide +kernel)) ggX7_type_X7_refuse
theorem dX7_type_0 : decode cX7_type 0 = .ok (.iload_n 1, 1) := by decide +kernel
theorem dX7_type_1 : decode cX7_type 1 = .ok (.iconst 1, 1) := by decide +kernel
theorem dX7_type_2 : decode cX7_type 2 = .ok (.if_icmp .lt 32, 3) := by decide +kernel
theorem dX7_type_5 : decode cX7_type 5 = .ok (.iload_n 1, 1) := by decide +kernel
theorem dX7_type_6 : decode cX7_type 6 = .ok (.bipush 100, 2) := by decide +kernel
theorem dX7_type_8 : decode cX7_type 8 = .ok (.if_icmp .gt 26, 3) := by decide +kernel
theorem dX7_type_11 : decode cX7_type 11 = .ok (.iload_n 2, 1) := by decide +kernel
theorem dX7_type_12 : decode cX7_type 12 = .ok (.ifCond .lt 22, 3) := by decide +kernel
theorem dX7_type_15 : decode cX7_type 15 = .ok (.iload_n 2, 1) := by decide +kernel
theorem dX7_type_16 : decode cX7_type 16 = .ok (.bipush 11, 2) := by decide +kernel
theorem dX7_type_18 : decode cX7_type 18 = .ok (.if_icmp .gt 16, 3) := by decide +kernel
theorem dX7_type_21 : decode cX7_type 21 = .ok (.iload 4, 2) := by decide +kernel
theorem dX7_type_23 : decode cX7_type 23 = .ok (.ifCond .lt 11, 3) := by decide +kernel
theorem dX7_type_26 : decode cX7_type 26 = .ok (.iload 4, 2) := by decide +kernel
theorem dX7_type_28 : decode cX7_type 28 = .ok (.sipush 1000, 3) := by decide +kernel
theorem dX7_type_31 : decode cX7_type 31 = .ok (.if_icmp .le 7, 3) := by decide +kernel
theorem dX7_type_34 : decode cX7_type 34 = .ok (.iconst 1, 1) := by decide +kernel
theorem dX7_type_35 : decode cX7_type 35 = .ok (.goto 13, 3) := by decide +kernel
theorem dX7_type_38 : decode cX7_type 38 = .ok (.aload_n 0, 1) := by decide +kernel
theorem dX7_type_39 : decode cX7_type 39 = .ok (.iload_n 3, 1) := by decide +kernel
theorem dX7_type_40 : decode cX7_type 40 = .ok (.bipush 12, 2) := by decide +kernel
theorem dX7_type_42 : decode cX7_type 42 = .ok (.ldc2_w 226, 3) := by decide +kernel
theorem dX7_type_45 : decode cX7_type 45 = .ok (.invokevirtual 213, 3) := by decide +kernel
theorem dX7_type_48 : decode cX7_type 48 = .ok (.istore 5, 2) := by decide +kernel
theorem dX7_type_50 : decode cX7_type 50 = .ok (.iload 5, 2) := by decide +kernel
theorem dX7_type_52 : decode cX7_type 52 = .ok (.ifCond .ne 14, 3) := by decide +kernel
theorem dX7_type_55 : decode cX7_type 55 = .ok (.aload_n 0, 1) := by decide +kernel
theorem dX7_type_56 : decode cX7_type 56 = .ok (.getfield 146, 3) := by decide +kernel
theorem dX7_type_59 : decode cX7_type 59 = .ok (.iconst 4, 1) := by decide +kernel
theorem dX7_type_60 : decode cX7_type 60 = .ok (.if_icmp .ne 6, 3) := by decide +kernel
theorem dX7_type_63 : decode cX7_type 63 = .ok (.iconst 4, 1) := by decide +kernel
theorem dX7_type_64 : decode cX7_type 64 = .ok (.istore 5, 2) := by decide +kernel
theorem dX7_type_66 : decode cX7_type 66 = .ok (.iload 5, 2) := by decide +kernel
theorem dX7_type_68 : decode cX7_type 68 = .ok (.ifCond .le 10, 3) := by decide +kernel
theorem dX7_type_71 : decode cX7_type 71 = .ok (.aload_n 0, 1) := by decide +kernel
theorem dX7_type_72 : decode cX7_type 72 = .ok (.iload 5, 2) := by decide +kernel
theorem dX7_type_74 : decode cX7_type 74 = .ok (.invokevirtual 126, 3) := by decide +kernel
theorem dX7_type_77 : decode cX7_type 77 = .ok (.ireturn, 1) := by decide +kernel
theorem dX7_type_78 : decode cX7_type 78 = .ok (.aload_n 0, 1) := by decide +kernel
theorem dX7_type_79 : decode cX7_type 79 = .ok (.getfield 90, 3) := by decide +kernel
theorem dX7_type_82 : decode cX7_type 82 = .ok (.aload_n 0, 1) := by decide +kernel
theorem dX7_type_83 : decode cX7_type 83 = .ok (.getfield 146, 3) := by decide +kernel
theorem dX7_type_86 : decode cX7_type 86 = .ok (.iload_n 1, 1) := by decide +kernel
theorem dX7_type_87 : decode cX7_type 87 = .ok (.iastore, 1) := by decide +kernel
theorem dX7_type_88 : decode cX7_type 88 = .ok (.aload_n 0, 1) := by decide +kernel
theorem dX7_type_89 : decode cX7_type 89 = .ok (.getfield 93, 3) := by decide +kernel
theorem dX7_type_92 : decode cX7_type 92 = .ok (.aload_n 0, 1) := by decide +kernel
theorem dX7_type_93 : decode cX7_type 93 = .ok (.getfield 146, 3) := by decide +kernel
theorem dX7_type_96 : decode cX7_type 96 = .ok (.iload_n 2, 1) := by decide +kernel
theorem dX7_type_97 : decode cX7_type 97 = .ok (.iastore, 1) := by decide +kernel
theorem dX7_type_98 : decode cX7_type 98 = .ok (.aload_n 0, 1) := by decide +kernel
theorem dX7_type_99 : decode cX7_type 99 = .ok (.getfield 96, 3) := by decide +kernel
theorem dX7_type_102 : decode cX7_type 102 = .ok (.aload_n 0, 1) := by decide +kernel
theorem dX7_type_103 : decode cX7_type 103 = .ok (.getfield 146, 3) := by decide +kernel
theorem dX7_type_106 : decode cX7_type 106 = .ok (.iload 4, 2) := by decide +kernel
theorem dX7_type_108 : decode cX7_type 108 = .ok (.iastore, 1) := by decide +kernel
theorem dX7_type_109 : decode cX7_type 109 = .ok (.iconst 0, 1) := by decide +kernel
theorem dX7_type_110 : decode cX7_type 110 = .ok (.istore 6, 2) := by decide +kernel
theorem dX7_type_112 : decode cX7_type 112 = .ok (.iload 6, 2) := by decide +kernel
theorem dX7_type_114 : decode cX7_type 114 = .ok (.bipush 12, 2) := by decide +kernel
theorem dX7_type_116 : decode cX7_type 116 = .ok (.if_icmp .ge 37, 3) := by decide +kernel
theorem dX7_type_119 : decode cX7_type 119 = .ok (.aload_n 0, 1) := by decide +kernel
theorem dX7_type_120 : decode cX7_type 120 = .ok (.getfield 99, 3) := by decide +kernel
theorem dX7_type_123 : decode cX7_type 123 = .ok (.bipush 12, 2) := by decide +kernel
theorem dX7_type_125 : decode cX7_type 125 = .ok (.aload_n 0, 1) := by decide +kernel
theorem dX7_type_126 : decode cX7_type 126 = .ok (.getfield 146, 3) := by decide +kernel
theorem dX7_type_129 : decode cX7_type 129 = .ok (.imul, 1) := by decide +kernel
theorem dX7_type_130 : decode cX7_type 130 = .ok (.iload 6, 2) := by decide +kernel
theorem dX7_type_132 : decode cX7_type 132 = .ok (.iadd, 1) := by decide +kernel
theorem dX7_type_133 : decode cX7_type 133 = .ok (.aload_n 0, 1) := by decide +kernel
theorem dX7_type_134 : decode cX7_type 134 = .ok (.getfield 16, 3) := by decide +kernel
theorem dX7_type_137 : decode cX7_type 137 = .ok (.bipush 64, 2) := by decide +kernel
theorem dX7_type_139 : decode cX7_type 139 = .ok (.iload_n 3, 1) := by decide +kernel
theorem dX7_type_140 : decode cX7_type 140 = .ok (.imul, 1) := by decide +kernel
theorem dX7_type_141 : decode cX7_type 141 = .ok (.iload 6, 2) := by decide +kernel
theorem dX7_type_143 : decode cX7_type 143 = .ok (.iadd, 1) := by decide +kernel
theorem dX7_type_144 : decode cX7_type 144 = .ok (.laload, 1) := by decide +kernel
theorem dX7_type_145 : decode cX7_type 145 = .ok (.l2i, 1) := by decide +kernel
theorem dX7_type_146 : decode cX7_type 146 = .ok (.iastore, 1) := by decide +kernel
theorem dX7_type_147 : decode cX7_type 147 = .ok (.iinc 6 1, 3) := by decide +kernel
theorem dX7_type_150 : decode cX7_type 150 = .ok (.goto (-38), 3) := by decide +kernel
theorem dX7_type_153 : decode cX7_type 153 = .ok (.aload_n 0, 1) := by decide +kernel
theorem dX7_type_154 : decode cX7_type 154 = .ok (.dup, 1) := by decide +kernel
theorem dX7_type_155 : decode cX7_type 155 = .ok (.getfield 146, 3) := by decide +kernel
theorem dX7_type_158 : decode cX7_type 158 = .ok (.iconst 1, 1) := by decide +kernel
theorem dX7_type_159 : decode cX7_type 159 = .ok (.iadd, 1) := by decide +kernel
theorem dX7_type_160 : decode cX7_type 160 = .ok (.putfield 146, 3) := by decide +kernel
theorem dX7_type_163 : decode cX7_type 163 = .ok (.aload_n 0, 1) := by decide +kernel
theorem dX7_type_164 : decode cX7_type 164 = .ok (.iconst 0, 1) := by decide +kernel
theorem dX7_type_165 : decode cX7_type 165 = .ok (.putfield 105, 3) := by decide +kernel
theorem dX7_type_168 : decode cX7_type 168 = .ok (.aload_n 0, 1) := by decide +kernel
theorem dX7_type_169 : decode cX7_type 169 = .ok (.getfield 146, 3) := by decide +kernel
theorem dX7_type_172 : decode cX7_type 172 = .ok (.iconst 1, 1) := by decide +kernel
theorem dX7_type_173 : decode cX7_type 173 = .ok (.isub, 1) := by decide +kernel
theorem dX7_type_174 : decode cX7_type 174 = .ok (.ireturn, 1) := by decide +kernel
theorem dX7_at_0 : decode cX7_at 0 = .ok (.sipush 501, 3) := by decide +kernel
theorem dX7_at_3 : decode cX7_at 3 = .ok (.iconst 4, 1) := by decide +kernel
theorem dX7_at_4 : decode cX7_at 4 = .ok (.iload_n 0, 1) := by decide +kernel
theorem dX7_at_5 : decode cX7_at 5 = .ok (.imul, 1) := by decide +kernel
theorem dX7_at_6 : decode cX7_at 6 = .ok (.iload_n 1, 1) := by decide +kernel
theorem dX7_at_7 : decode cX7_at 7 = .ok (.iadd, 1) := by decide +kernel
theorem dX7_at_8 : decode cX7_at 8 = .ok (.imul, 1) := by decide +kernel
theorem dX7_at_9 : decode cX7_at 9 = .ok (.iload_n 2, 1) := by decide +kernel
theorem dX7_at_10 : decode cX7_at 10 = .ok (.iadd, 1) := by decide +kernel
theorem dX7_at_11 : decode cX7_at 11 = .ok (.ireturn, 1) := by decide +kernel
theorem dX7_takes_0 : decode cX7_takes 0 = .ok (.aload_n 0, 1) := by decide +kernel
theorem dX7_takes_1 : decode cX7_takes 1 = .ok (.getfield 99, 3) := by decide +kernel
theorem dX7_takes_4 : decode cX7_takes 4 = .ok (.bipush 12, 2) := by decide +kernel
theorem dX7_takes_6 : decode cX7_takes 6 = .ok (.iload_n 1, 1) := by decide +kernel
theorem dX7_takes_7 : decode cX7_takes 7 = .ok (.imul, 1) := by decide +kernel
theorem dX7_takes_8 : decode cX7_takes 8 = .ok (.iload_n 2, 1) := by decide +kernel
theorem dX7_takes_9 : decode cX7_takes 9 = .ok (.iadd, 1) := by decide +kernel
theorem dX7_takes_10 : decode cX7_takes 10 = .ok (.aload_n 0, 1) := by decide +kernel
theorem dX7_takes_11 : decode cX7_takes 11 = .ok (.getfield 93, 3) := by decide +kernel
theorem dX7_takes_14 : decode cX7_takes 14 = .ok (.iload_n 1, 1) := by decide +kernel
theorem dX7_takes_15 : decode cX7_takes 15 = .ok (.iaload, 1) := by decide +kernel
theorem dX7_takes_16 : decode cX7_takes 16 = .ok (.isub, 1) := by decide +kernel
theorem dX7_takes_17 : decode cX7_takes 17 = .ok (.iaload, 1) := by decide +kernel
theorem dX7_takes_18 : decode cX7_takes 18 = .ok (.aload_n 0, 1) := by decide +kernel
theorem dX7_takes_19 : decode cX7_takes 19 = .ok (.getfield 96, 3) := by decide +kernel
theorem dX7_takes_22 : decode cX7_takes 22 = .ok (.iload_n 1, 1) := by decide +kernel
theorem dX7_takes_23 : decode cX7_takes 23 = .ok (.iaload, 1) := by decide +kernel
theorem dX7_takes_24 : decode cX7_takes 24 = .ok (.bipush 12, 2) := by decide +kernel
theorem dX7_takes_26 : decode cX7_takes 26 = .ok (.iload_n 2, 1) := by decide +kernel
theorem dX7_takes_27 : decode cX7_takes 27 = .ok (.isub, 1) := by decide +kernel
theorem dX7_takes_28 : decode cX7_takes 28 = .ok (.imul, 1) := by decide +kernel
theorem dX7_takes_29 : decode cX7_takes 29 = .ok (.iadd, 1) := by decide +kernel
theorem dX7_takes_30 : decode cX7_takes 30 = .ok (.ireturn, 1) := by decide +kernel
set_option maxRecDepth 20000 in
theorem ggX7_reckon_X7_at : GoodIn wsX7_reckon wsX7_at := goodIn_r _ [14] (by decide +kernel) (by decide +kernel)
set_option maxRecDepth 20000 in
theorem gX7_reckon_X7_at : GoodIn wsX7_reckon (va_wsS RX7 228 yX7_at wsX7_at) := goodIn_app (goodIn_of _ (by decide +kernel)) ggX7_reckon_X7_at
set_option maxRecDepth 20000 in
theorem ggX7_reckon_X7_takes : GoodIn wsX7_reckon wsX7_takes := goodIn_r _ [18, 19, 5, 20, 21, 22, 23, 24, 25, 26, 27, 28, 29, 30, 31, 32, 33, 34, 35, 36, 37, 38, 39, 40, 41, 42, 43, 44, 45, 46, 47, 48, 49, 50, 51, 52, 53, 54, 55, 56, 57, 58, 59, 60, 61, 62] (by decide +kernel) (by decide +kernel)
set_option maxRecDepth 20000 in
theorem gX7_reckon_X7_takes : GoodIn wsX7_reckon (wsV RX7 232 RX7 yX7_takes wsX7_takes) := goodIn_app (goodIn_of _ (by decide +kernel)) ggX7_reckon_X7_takes
theorem dX7_reckon_0 : decode cX7_reckon 0 = .ok (.iconst 0, 1) := by decide +kernel
theorem dX7_reckon_1 : decode cX7_reckon 1 = .ok (.istore_n 1, 1) := by decide +kernel
theorem dX7_reckon_2 : decode cX7_reckon 2 = .ok (.iload_n 1, 1) := by decide +kernel
theorem dX7_reckon_3 : decode cX7_reckon 3 = .ok (.sipush 500, 3) := by decide +kernel
theorem dX7_reckon_6 : decode cX7_reckon 6 = .ok (.if_icmp .gt 22, 3) := by decide +kernel
theorem dX7_reckon_9 : decode cX7_reckon 9 = .ok (.aload_n 0, 1) := by decide +kernel
theorem dX7_reckon_10 : decode cX7_reckon 10 = .ok (.getfield 102, 3) := by decide +kernel
theorem dX7_reckon_13 : decode cX7_reckon 13 = .ok (.bipush 12, 2) := by decide +kernel
theorem dX7_reckon_15 : decode cX7_reckon 15 = .ok (.iconst 0, 1) := by decide +kernel
theorem dX7_reckon_16 : decode cX7_reckon 16 = .ok (.iload_n 1, 1) := by decide +kernel
theorem dX7_reckon_17 : decode cX7_reckon 17 = .ok (.invokestatic 228, 3) := by decide +kernel
theorem dX7_reckon_20 : decode cX7_reckon 20 = .ok (.iconst 0, 1) := by decide +kernel
theorem dX7_reckon_21 : decode cX7_reckon 21 = .ok (.iastore, 1) := by decide +kernel
theorem dX7_reckon_22 : decode cX7_reckon 22 = .ok (.iinc 1 1, 3) := by decide +kernel
theorem dX7_reckon_25 : decode cX7_reckon 25 = .ok (.goto (-23), 3) := by decide +kernel
theorem dX7_reckon_28 : decode cX7_reckon 28 = .ok (.bipush 11, 2) := by decide +kernel
theorem dX7_reckon_30 : decode cX7_reckon 30 = .ok (.istore_n 1, 1) := by decide +kernel
theorem dX7_reckon_31 : decode cX7_reckon 31 = .ok (.iload_n 1, 1) := by decide +kernel
theorem dX7_reckon_32 : decode cX7_reckon 32 = .ok (.ifCond .lt 173, 3) := by decide +kernel
theorem dX7_reckon_35 : decode cX7_reckon 35 = .ok (.iconst 3, 1) := by decide +kernel
theorem dX7_reckon_36 : decode cX7_reckon 36 = .ok (.istore_n 2, 1) := by decide +kernel
theorem dX7_reckon_37 : decode cX7_reckon 37 = .ok (.iload_n 2, 1) := by decide +kernel
theorem dX7_reckon_38 : decode cX7_reckon 38 = .ok (.ifCond .lt 161, 3) := by decide +kernel
theorem dX7_reckon_41 : decode cX7_reckon 41 = .ok (.sipush 500, 3) := by decide +kernel
theorem dX7_reckon_44 : decode cX7_reckon 44 = .ok (.istore_n 3, 1) := by decide +kernel
theorem dX7_reckon_45 : decode cX7_reckon 45 = .ok (.iload_n 3, 1) := by decide +kernel
theorem dX7_reckon_46 : decode cX7_reckon 46 = .ok (.ifCond .lt 147, 3) := by decide +kernel
theorem dX7_reckon_49 : decode cX7_reckon 49 = .ok (.iload_n 2, 1) := by decide +kernel
theorem dX7_reckon_50 : decode cX7_reckon 50 = .ok (.iconst 3, 1) := by decide +kernel
theorem dX7_reckon_51 : decode cX7_reckon 51 = .ok (.if_icmp .ge 19, 3) := by decide +kernel
theorem dX7_reckon_54 : decode cX7_reckon 54 = .ok (.aload_n 0, 1) := by decide +kernel
theorem dX7_reckon_55 : decode cX7_reckon 55 = .ok (.getfield 102, 3) := by decide +kernel
theorem dX7_reckon_58 : decode cX7_reckon 58 = .ok (.iload_n 1, 1) := by decide +kernel
theorem dX7_reckon_59 : decode cX7_reckon 59 = .ok (.iload_n 2, 1) := by decide +kernel
theorem dX7_reckon_60 : decode cX7_reckon 60 = .ok (.iconst 1, 1) := by decide +kernel
theorem dX7_reckon_61 : decode cX7_reckon 61 = .ok (.iadd, 1) := by decide +kernel
theorem dX7_reckon_62 : decode cX7_reckon 62 = .ok (.iload_n 3, 1) := by decide +kernel
theorem dX7_reckon_63 : decode cX7_reckon 63 = .ok (.invokestatic 228, 3) := by decide +kernel
theorem dX7_reckon_66 : decode cX7_reckon 66 = .ok (.iaload, 1) := by decide +kernel
theorem dX7_reckon_67 : decode cX7_reckon 67 = .ok (.goto 31, 3) := by decide +kernel
theorem dX7_reckon_70 : decode cX7_reckon 70 = .ok (.iload_n 3, 1) := by decide +kernel
theorem dX7_reckon_71 : decode cX7_reckon 71 = .ok (.aload_n 0, 1) := by decide +kernel
theorem dX7_reckon_72 : decode cX7_reckon 72 = .ok (.getfield 87, 3) := by decide +kernel
theorem dX7_reckon_75 : decode cX7_reckon 75 = .ok (.iload_n 1, 1) := by decide +kernel
theorem dX7_reckon_76 : decode cX7_reckon 76 = .ok (.iaload, 1) := by decide +kernel
theorem dX7_reckon_77 : decode cX7_reckon 77 = .ok (.if_icmp .lt 19, 3) := by decide +kernel
theorem dX7_reckon_80 : decode cX7_reckon 80 = .ok (.aload_n 0, 1) := by decide +kernel
theorem dX7_reckon_81 : decode cX7_reckon 81 = .ok (.getfield 102, 3) := by decide +kernel
theorem dX7_reckon_84 : decode cX7_reckon 84 = .ok (.iload_n 1, 1) := by decide +kernel
theorem dX7_reckon_85 : decode cX7_reckon 85 = .ok (.iconst 1, 1) := by decide +kernel
theorem dX7_reckon_86 : decode cX7_reckon 86 = .ok (.iadd, 1) := by decide +kernel
theorem dX7_reckon_87 : decode cX7_reckon 87 = .ok (.iconst 0, 1) := by decide +kernel
theorem dX7_reckon_88 : decode cX7_reckon 88 = .ok (.iload_n 3, 1) := by decide +kernel
theorem dX7_reckon_89 : decode cX7_reckon 89 = .ok (.invokestatic 228, 3) := by decide +kernel
theorem dX7_reckon_92 : decode cX7_reckon 92 = .ok (.iaload, 1) := by decide +kernel
theorem dX7_reckon_93 : decode cX7_reckon 93 = .ok (.goto 5, 3) := by decide +kernel
theorem dX7_reckon_96 : decode cX7_reckon 96 = .ok (.ldc 231, 2) := by decide +kernel
theorem dX7_reckon_98 : decode cX7_reckon 98 = .ok (.istore 4, 2) := by decide +kernel
theorem dX7_reckon_100 : decode cX7_reckon 100 = .ok (.iload_n 2, 1) := by decide +kernel
theorem dX7_reckon_101 : decode cX7_reckon 101 = .ok (.aload_n 0, 1) := by decide +kernel
theorem dX7_reckon_102 : decode cX7_reckon 102 = .ok (.getfield 146, 3) := by decide +kernel
theorem dX7_reckon_105 : decode cX7_reckon 105 = .ok (.if_icmp .ge 69, 3) := by decide +kernel
theorem dX7_reckon_108 : decode cX7_reckon 108 = .ok (.iload_n 1, 1) := by decide +kernel
theorem dX7_reckon_109 : decode cX7_reckon 109 = .ok (.aload_n 0, 1) := by decide +kernel
theorem dX7_reckon_110 : decode cX7_reckon 110 = .ok (.getfield 93, 3) := by decide +kernel
theorem dX7_reckon_113 : decode cX7_reckon 113 = .ok (.iload_n 2, 1) := by decide +kernel
theorem dX7_reckon_114 : decode cX7_reckon 114 = .ok (.iaload, 1) := by decide +kernel
theorem dX7_reckon_115 : decode cX7_reckon 115 = .ok (.if_icmp .lt 59, 3) := by decide +kernel
theorem dX7_reckon_118 : decode cX7_reckon 118 = .ok (.iload_n 3, 1) := by decide +kernel
theorem dX7_reckon_119 : decode cX7_reckon 119 = .ok (.sipush 500, 3) := by decide +kernel
theorem dX7_reckon_122 : decode cX7_reckon 122 = .ok (.if_icmp .ge 52, 3) := by decide +kernel
theorem dX7_reckon_125 : decode cX7_reckon 125 = .ok (.aload_n 0, 1) := by decide +kernel
theorem dX7_reckon_126 : decode cX7_reckon 126 = .ok (.getfield 102, 3) := by decide +kernel
theorem dX7_reckon_129 : decode cX7_reckon 129 = .ok (.iload_n 1, 1) := by decide +kernel
theorem dX7_reckon_130 : decode cX7_reckon 130 = .ok (.iload_n 2, 1) := by decide +kernel
theorem dX7_reckon_131 : decode cX7_reckon 131 = .ok (.sipush 500, 3) := by decide +kernel
theorem dX7_reckon_134 : decode cX7_reckon 134 = .ok (.iload_n 3, 1) := by decide +kernel
theorem dX7_reckon_135 : decode cX7_reckon 135 = .ok (.aload_n 0, 1) := by decide +kernel
theorem dX7_reckon_136 : decode cX7_reckon 136 = .ok (.getfield 90, 3) := by decide +kernel
theorem dX7_reckon_139 : decode cX7_reckon 139 = .ok (.iload_n 2, 1) := by decide +kernel
theorem dX7_reckon_140 : decode cX7_reckon 140 = .ok (.iaload, 1) := by decide +kernel
theorem dX7_reckon_141 : decode cX7_reckon 141 = .ok (.iadd, 1) := by decide +kernel
theorem dX7_reckon_142 : decode cX7_reckon 142 = .ok (.invokestatic 174, 3) := by decide +kernel
theorem dX7_reckon_145 : decode cX7_reckon 145 = .ok (.invokestatic 228, 3) := by decide +kernel
theorem dX7_reckon_148 : decode cX7_reckon 148 = .ok (.iaload, 1) := by decide +kernel
theorem dX7_reckon_149 : decode cX7_reckon 149 = .ok (.istore 5, 2) := by decide +kernel
theorem dX7_reckon_151 : decode cX7_reckon 151 = .ok (.iload 5, 2) := by decide +kernel
theorem dX7_reckon_153 : decode cX7_reckon 153 = .ok (.ldc 231, 2) := by decide +kernel
theorem dX7_reckon_155 : decode cX7_reckon 155 = .ok (.if_icmp .ge 19, 3) := by decide +kernel
theorem dX7_reckon_158 : decode cX7_reckon 158 = .ok (.iload 4, 2) := by decide +kernel
theorem dX7_reckon_160 : decode cX7_reckon 160 = .ok (.iload 5, 2) := by decide +kernel
theorem dX7_reckon_162 : decode cX7_reckon 162 = .ok (.aload_n 0, 1) := by decide +kernel
theorem dX7_reckon_163 : decode cX7_reckon 163 = .ok (.iload_n 2, 1) := by decide +kernel
theorem dX7_reckon_164 : decode cX7_reckon 164 = .ok (.iload_n 1, 1) := by decide +kernel
theorem dX7_reckon_165 : decode cX7_reckon 165 = .ok (.invokevirtual 232, 3) := by decide +kernel
theorem dX7_reckon_168 : decode cX7_reckon 168 = .ok (.iadd, 1) := by decide +kernel
theorem dX7_reckon_169 : decode cX7_reckon 169 = .ok (.invokestatic 174, 3) := by decide +kernel
theorem dX7_reckon_172 : decode cX7_reckon 172 = .ok (.istore 4, 2) := by decide +kernel
theorem dX7_reckon_174 : decode cX7_reckon 174 = .ok (.aload_n 0, 1) := by decide +kernel
theorem dX7_reckon_175 : decode cX7_reckon 175 = .ok (.getfield 102, 3) := by decide +kernel
theorem dX7_reckon_178 : decode cX7_reckon 178 = .ok (.iload_n 1, 1) := by decide +kernel
theorem dX7_reckon_179 : decode cX7_reckon 179 = .ok (.iload_n 2, 1) := by decide +kernel
theorem dX7_reckon_180 : decode cX7_reckon 180 = .ok (.iload_n 3, 1) := by decide +kernel
theorem dX7_reckon_181 : decode cX7_reckon 181 = .ok (.invokestatic 228, 3) := by decide +kernel
theorem dX7_reckon_184 : decode cX7_reckon 184 = .ok (.iload 4, 2) := by decide +kernel
theorem dX7_reckon_186 : decode cX7_reckon 186 = .ok (.iastore, 1) := by decide +kernel
theorem dX7_reckon_187 : decode cX7_reckon 187 = .ok (.iinc 3 (-1), 3) := by decide +kernel
theorem dX7_reckon_190 : decode cX7_reckon 190 = .ok (.goto (-145), 3) := by decide +kernel
theorem dX7_reckon_193 : decode cX7_reckon 193 = .ok (.iinc 2 (-1), 3) := by decide +kernel
theorem dX7_reckon_196 : decode cX7_reckon 196 = .ok (.goto (-159), 3) := by decide +kernel
theorem dX7_reckon_199 : decode cX7_reckon 199 = .ok (.iinc 1 (-1), 3) := by decide +kernel
theorem dX7_reckon_202 : decode cX7_reckon 202 = .ok (.goto (-171), 3) := by decide +kernel
theorem dX7_reckon_205 : decode cX7_reckon 205 = .ok (.return_, 1) := by decide +kernel
set_option maxRecDepth 20000 in
theorem ggX7_cheapest_X7_reckon : GoodIn wsX7_cheapest wsX7_reckon := goodIn_r _ [9, 1, 10, 3, 11, 12, 13, 14, 15, 16, 17, 18, 19, 8, 20, 21, 22, 23, 24, 25, 26, 31, 32, 33, 34, 35, 36, 37, 38, 39, 40, 41, 42, 43, 44, 45, 46, 47, 48, 49, 50, 51, 52, 53, 54, 55, 56, 57, 58, 59, 60, 61, 62, 63, 64, 65, 66, 67, 68, 69, 70, 71, 72] (by decide +kernel) (by decide +kernel)
set_option maxRecDepth 20000 in
theorem gX7_cheapest_X7_reckon : GoodIn wsX7_cheapest (wsV RX7 235 RX7 yX7_reckon wsX7_reckon) := goodIn_app (goodIn_of _ (by decide +kernel)) ggX7_cheapest_X7_reckon
set_option maxRecDepth 20000 in
theorem ggX7_cheapest_X7_at : GoodIn wsX7_cheapest wsX7_at := goodIn_r _ [20] (by decide +kernel) (by decide +kernel)
set_option maxRecDepth 20000 in
theorem gX7_cheapest_X7_at : GoodIn wsX7_cheapest (va_wsS RX7 228 yX7_at wsX7_at) := goodIn_app (goodIn_of _ (by decide +kernel)) ggX7_cheapest_X7_at
set_option maxRecDepth 20000 in
theorem ggX7_cheapest_X7_refuse : GoodIn wsX7_cheapest wsX7_refuse := goodIn_r _ [30, 4, 31, 32, 33, 34, 35, 36, 37, 38, 39, 40, 41, 42, 43, 44, 45, 46, 47, 48, 49, 50, 51, 52, 53, 54, 55, 56, 57, 58, 59, 60, 61, 62, 63, 64, 65, 66, 67, 68, 69, 70, 71, 72] (by decide +kernel) (by decide +kernel)
set_option maxRecDepth 20000 in
theorem gX7_cheapest_X7_refuse : GoodIn wsX7_cheapest (wsV RX7 126 RX7 yX7_refuse wsX7_refuse) := goodIn_app (goodIn_of _ (by decide +kernel)) ggX7_cheapest_X7_refuse
theorem dX7_cheapest_0 : decode cX7_cheapest 0 = .ok (.aload_n 0, 1) := by decide +kernel
theorem dX7_cheapest_1 : decode cX7_cheapest 1 = .ok (.invokevirtual 235, 3) := by decide +kernel
theorem dX7_cheapest_4 : decode cX7_cheapest 4 = .ok (.aload_n 0, 1) := by decide +kernel
theorem dX7_cheapest_5 : decode cX7_cheapest 5 = .ok (.getfield 102, 3) := by decide +kernel
theorem dX7_cheapest_8 : decode cX7_cheapest 8 = .ok (.iconst 0, 1) := by decide +kernel
theorem dX7_cheapest_9 : decode cX7_cheapest 9 = .ok (.iconst 0, 1) := by decide +kernel
theorem dX7_cheapest_10 : decode cX7_cheapest 10 = .ok (.aload_n 0, 1) := by decide +kernel
theorem dX7_cheapest_11 : decode cX7_cheapest 11 = .ok (.getfield 223, 3) := by decide +kernel
theorem dX7_cheapest_14 : decode cX7_cheapest 14 = .ok (.invokestatic 228, 3) := by decide +kernel
theorem dX7_cheapest_17 : decode cX7_cheapest 17 = .ok (.iaload, 1) := by decide +kernel
theorem dX7_cheapest_18 : decode cX7_cheapest 18 = .ok (.istore_n 1, 1) := by decide +kernel
theorem dX7_cheapest_19 : decode cX7_cheapest 19 = .ok (.iload_n 1, 1) := by decide +kernel
theorem dX7_cheapest_20 : decode cX7_cheapest 20 = .ok (.ldc 231, 2) := by decide +kernel
theorem dX7_cheapest_22 : decode cX7_cheapest 22 = .ok (.if_icmp .ne 10, 3) := by decide +kernel
theorem dX7_cheapest_25 : decode cX7_cheapest 25 = .ok (.aload_n 0, 1) := by decide +kernel
theorem dX7_cheapest_26 : decode cX7_cheapest 26 = .ok (.bipush 7, 2) := by decide +kernel
theorem dX7_cheapest_28 : decode cX7_cheapest 28 = .ok (.invokevirtual 126, 3) := by decide +kernel
theorem dX7_cheapest_31 : decode cX7_cheapest 31 = .ok (.ireturn, 1) := by decide +kernel
theorem dX7_cheapest_32 : decode cX7_cheapest 32 = .ok (.aload_n 0, 1) := by decide +kernel
theorem dX7_cheapest_33 : decode cX7_cheapest 33 = .ok (.iconst 0, 1) := by decide +kernel
theorem dX7_cheapest_34 : decode cX7_cheapest 34 = .ok (.putfield 105, 3) := by decide +kernel
theorem dX7_cheapest_37 : decode cX7_cheapest 37 = .ok (.iload_n 1, 1) := by decide +kernel
theorem dX7_cheapest_38 : decode cX7_cheapest 38 = .ok (.ireturn, 1) := by decide +kernel
set_option maxRecDepth 20000 in
theorem ggX7_buys_X7_refuse : GoodIn wsX7_buys wsX7_refuse := goodIn_r _ [16, 5, 31, 32, 33, 34, 35, 36, 37, 38, 39, 40, 41, 42, 43, 44, 45, 46, 47, 48, 49, 50, 51, 52, 53, 54, 55, 56, 57, 58, 59, 60, 61, 62, 63, 64, 65, 66, 67, 68, 69, 70, 71, 72] (by decide +kernel) (by decide +kernel)
set_option maxRecDepth 20000 in
theorem gX7_buys_X7_refuse : GoodIn wsX7_buys (wsV RX7 126 RX7 yX7_refuse wsX7_refuse) := goodIn_app (goodIn_of _ (by decide +kernel)) ggX7_buys_X7_refuse
set_option maxRecDepth 20000 in
theorem ggX7_buys_X7_reckon : GoodIn wsX7_buys wsX7_reckon := goodIn_r _ [20, 2, 6, 4, 1, 21, 7, 8, 9, 10, 11, 22, 23, 15, 24, 25, 26, 27, 28, 29, 30, 31, 32, 33, 34, 35, 36, 37, 38, 39, 40, 41, 42, 43, 44, 45, 46, 47, 48, 49, 50, 51, 52, 53, 54, 55, 56, 57, 58, 59, 60, 61, 62, 63, 64, 65, 66, 67, 68, 69, 70, 71, 72] (by decide +kernel) (by decide +kernel)
set_option maxRecDepth 20000 in
theorem gX7_buys_X7_reckon : GoodIn wsX7_buys (wsV RX7 235 RX7 yX7_reckon wsX7_reckon) := goodIn_app (goodIn_of _ (by decide +kernel)) ggX7_buys_X7_reckon
set_option maxRecDepth 20000 in
theorem ggX7_buys_X7_at : GoodIn wsX7_buys wsX7_at := goodIn_r _ [24] (by decide +kernel) (by decide +kernel)
set_option maxRecDepth 20000 in
theorem gX7_buys_X7_at : GoodIn wsX7_buys (va_wsS RX7 228 yX7_at wsX7_at) := goodIn_app (goodIn_of _ (by decide +kernel)) ggX7_buys_X7_at
theorem dX7_buys_0 : decode cX7_buys 0 = .ok (.iload_n 1, 1) := by decide +kernel
theorem dX7_buys_1 : decode cX7_buys 1 = .ok (.ifCond .lt 21, 3) := by decide +kernel
theorem dX7_buys_4 : decode cX7_buys 4 = .ok (.iload_n 1, 1) := by decide +kernel
theorem dX7_buys_5 : decode cX7_buys 5 = .ok (.bipush 12, 2) := by decide +kernel
theorem dX7_buys_7 : decode cX7_buys 7 = .ok (.if_icmp .ge 15, 3) := by decide +kernel
theorem dX7_buys_10 : decode cX7_buys 10 = .ok (.iload_n 2, 1) := by decide +kernel
theorem dX7_buys_11 : decode cX7_buys 11 = .ok (.ifCond .lt 11, 3) := by decide +kernel
theorem dX7_buys_14 : decode cX7_buys 14 = .ok (.iload_n 2, 1) := by decide +kernel
theorem dX7_buys_15 : decode cX7_buys 15 = .ok (.aload_n 0, 1) := by decide +kernel
theorem dX7_buys_16 : decode cX7_buys 16 = .ok (.getfield 146, 3) := by decide +kernel
theorem dX7_buys_19 : decode cX7_buys 19 = .ok (.if_icmp .lt 9, 3) := by decide +kernel
theorem dX7_buys_22 : decode cX7_buys 22 = .ok (.aload_n 0, 1) := by decide +kernel
theorem dX7_buys_23 : decode cX7_buys 23 = .ok (.iconst 1, 1) := by decide +kernel
theorem dX7_buys_24 : decode cX7_buys 24 = .ok (.invokevirtual 126, 3) := by decide +kernel
theorem dX7_buys_27 : decode cX7_buys 27 = .ok (.ireturn, 1) := by decide +kernel
theorem dX7_buys_28 : decode cX7_buys 28 = .ok (.aload_n 0, 1) := by decide +kernel
theorem dX7_buys_29 : decode cX7_buys 29 = .ok (.invokevirtual 235, 3) := by decide +kernel
theorem dX7_buys_32 : decode cX7_buys 32 = .ok (.aload_n 0, 1) := by decide +kernel
theorem dX7_buys_33 : decode cX7_buys 33 = .ok (.getfield 102, 3) := by decide +kernel
theorem dX7_buys_36 : decode cX7_buys 36 = .ok (.iconst 0, 1) := by decide +kernel
theorem dX7_buys_37 : decode cX7_buys 37 = .ok (.iconst 0, 1) := by decide +kernel
theorem dX7_buys_38 : decode cX7_buys 38 = .ok (.aload_n 0, 1) := by decide +kernel
theorem dX7_buys_39 : decode cX7_buys 39 = .ok (.getfield 223, 3) := by decide +kernel
theorem dX7_buys_42 : decode cX7_buys 42 = .ok (.invokestatic 228, 3) := by decide +kernel
theorem dX7_buys_45 : decode cX7_buys 45 = .ok (.iaload, 1) := by decide +kernel
theorem dX7_buys_46 : decode cX7_buys 46 = .ok (.ldc 231, 2) := by decide +kernel
theorem dX7_buys_48 : decode cX7_buys 48 = .ok (.if_icmp .ne 10, 3) := by decide +kernel
theorem dX7_buys_51 : decode cX7_buys 51 = .ok (.aload_n 0, 1) := by decide +kernel
theorem dX7_buys_52 : decode cX7_buys 52 = .ok (.bipush 7, 2) := by decide +kernel
theorem dX7_buys_54 : decode cX7_buys 54 = .ok (.invokevirtual 126, 3) := by decide +kernel
theorem dX7_buys_57 : decode cX7_buys 57 = .ok (.ireturn, 1) := by decide +kernel
theorem dX7_buys_58 : decode cX7_buys 58 = .ok (.aload_n 0, 1) := by decide +kernel
theorem dX7_buys_59 : decode cX7_buys 59 = .ok (.iconst 0, 1) := by decide +kernel
theorem dX7_buys_60 : decode cX7_buys 60 = .ok (.putfield 105, 3) := by decide +kernel
theorem dX7_buys_63 : decode cX7_buys 63 = .ok (.aload_n 0, 1) := by decide +kernel
theorem dX7_buys_64 : decode cX7_buys 64 = .ok (.getfield 223, 3) := by decide +kernel
theorem dX7_buys_67 : decode cX7_buys 67 = .ok (.istore_n 3, 1) := by decide +kernel
theorem dX7_buys_68 : decode cX7_buys 68 = .ok (.iconst 0, 1) := by decide +kernel
theorem dX7_buys_69 : decode cX7_buys 69 = .ok (.istore 4, 2) := by decide +kernel
theorem dX7_buys_71 : decode cX7_buys 71 = .ok (.iload 4, 2) := by decide +kernel
theorem dX7_buys_73 : decode cX7_buys 73 = .ok (.bipush 12, 2) := by decide +kernel
theorem dX7_buys_75 : decode cX7_buys 75 = .ok (.if_icmp .ge 134, 3) := by decide +kernel
theorem dX7_buys_78 : decode cX7_buys 78 = .ok (.iconst 0, 1) := by decide +kernel
theorem dX7_buys_79 : decode cX7_buys 79 = .ok (.istore 5, 2) := by decide +kernel
theorem dX7_buys_81 : decode cX7_buys 81 = .ok (.iload 5, 2) := by decide +kernel
theorem dX7_buys_83 : decode cX7_buys 83 = .ok (.iconst 4, 1) := by decide +kernel
theorem dX7_buys_84 : decode cX7_buys 84 = .ok (.if_icmp .ge 119, 3) := by decide +kernel
theorem dX7_buys_87 : decode cX7_buys 87 = .ok (.iconst 0, 1) := by decide +kernel
theorem dX7_buys_88 : decode cX7_buys 88 = .ok (.istore 6, 2) := by decide +kernel
theorem dX7_buys_90 : decode cX7_buys 90 = .ok (.aload_n 0, 1) := by decide +kernel
theorem dX7_buys_91 : decode cX7_buys 91 = .ok (.getfield 102, 3) := by decide +kernel
theorem dX7_buys_94 : decode cX7_buys 94 = .ok (.iload 4, 2) := by decide +kernel
theorem dX7_buys_96 : decode cX7_buys 96 = .ok (.iload 5, 2) := by decide +kernel
theorem dX7_buys_98 : decode cX7_buys 98 = .ok (.iload_n 3, 1) := by decide +kernel
theorem dX7_buys_99 : decode cX7_buys 99 = .ok (.invokestatic 228, 3) := by decide +kernel
theorem dX7_buys_102 : decode cX7_buys 102 = .ok (.iaload, 1) := by decide +kernel
theorem dX7_buys_103 : decode cX7_buys 103 = .ok (.iload 5, 2) := by decide +kernel
theorem dX7_buys_105 : decode cX7_buys 105 = .ok (.iconst 3, 1) := by decide +kernel
theorem dX7_buys_106 : decode cX7_buys 106 = .ok (.if_icmp .ge 21, 3) := by decide +kernel
theorem dX7_buys_109 : decode cX7_buys 109 = .ok (.aload_n 0, 1) := by decide +kernel
theorem dX7_buys_110 : decode cX7_buys 110 = .ok (.getfield 102, 3) := by decide +kernel
theorem dX7_buys_113 : decode cX7_buys 113 = .ok (.iload 4, 2) := by decide +kernel
theorem dX7_buys_115 : decode cX7_buys 115 = .ok (.iload 5, 2) := by decide +kernel
theorem dX7_buys_117 : decode cX7_buys 117 = .ok (.iconst 1, 1) := by decide +kernel
theorem dX7_buys_118 : decode cX7_buys 118 = .ok (.iadd, 1) := by decide +kernel
theorem dX7_buys_119 : decode cX7_buys 119 = .ok (.iload_n 3, 1) := by decide +kernel
theorem dX7_buys_120 : decode cX7_buys 120 = .ok (.invokestatic 228, 3) := by decide +kernel
theorem dX7_buys_123 : decode cX7_buys 123 = .ok (.iaload, 1) := by decide +kernel
theorem dX7_buys_124 : decode cX7_buys 124 = .ok (.goto 33, 3) := by decide +kernel
theorem dX7_buys_127 : decode cX7_buys 127 = .ok (.iload_n 3, 1) := by decide +kernel
theorem dX7_buys_128 : decode cX7_buys 128 = .ok (.aload_n 0, 1) := by decide +kernel
theorem dX7_buys_129 : decode cX7_buys 129 = .ok (.getfield 87, 3) := by decide +kernel
theorem dX7_buys_132 : decode cX7_buys 132 = .ok (.iload 4, 2) := by decide +kernel
theorem dX7_buys_134 : decode cX7_buys 134 = .ok (.iaload, 1) := by decide +kernel
theorem dX7_buys_135 : decode cX7_buys 135 = .ok (.if_icmp .lt 20, 3) := by decide +kernel
theorem dX7_buys_138 : decode cX7_buys 138 = .ok (.aload_n 0, 1) := by decide +kernel
theorem dX7_buys_139 : decode cX7_buys 139 = .ok (.getfield 102, 3) := by decide +kernel
theorem dX7_buys_142 : decode cX7_buys 142 = .ok (.iload 4, 2) := by decide +kernel
theorem dX7_buys_144 : decode cX7_buys 144 = .ok (.iconst 1, 1) := by decide +kernel
theorem dX7_buys_145 : decode cX7_buys 145 = .ok (.iadd, 1) := by decide +kernel
theorem dX7_buys_146 : decode cX7_buys 146 = .ok (.iconst 0, 1) := by decide +kernel
theorem dX7_buys_147 : decode cX7_buys 147 = .ok (.iload_n 3, 1) := by decide +kernel
theorem dX7_buys_148 : decode cX7_buys 148 = .ok (.invokestatic 228, 3) := by decide +kernel
theorem dX7_buys_151 : decode cX7_buys 151 = .ok (.iaload, 1) := by decide +kernel
theorem dX7_buys_152 : decode cX7_buys 152 = .ok (.goto 5, 3) := by decide +kernel
theorem dX7_buys_155 : decode cX7_buys 155 = .ok (.ldc 231, 2) := by decide +kernel
theorem dX7_buys_157 : decode cX7_buys 157 = .ok (.if_icmp .ge 25, 3) := by decide +kernel
theorem dX7_buys_160 : decode cX7_buys 160 = .ok (.sipush 500, 3) := by decide +kernel
theorem dX7_buys_163 : decode cX7_buys 163 = .ok (.iload_n 3, 1) := by decide +kernel
theorem dX7_buys_164 : decode cX7_buys 164 = .ok (.aload_n 0, 1) := by decide +kernel
theorem dX7_buys_165 : decode cX7_buys 165 = .ok (.getfield 90, 3) := by decide +kernel
theorem dX7_buys_168 : decode cX7_buys 168 = .ok (.iload 5, 2) := by decide +kernel
theorem dX7_buys_170 : decode cX7_buys 170 = .ok (.iaload, 1) := by decide +kernel
theorem dX7_buys_171 : decode cX7_buys 171 = .ok (.iadd, 1) := by decide +kernel
theorem dX7_buys_172 : decode cX7_buys 172 = .ok (.invokestatic 174, 3) := by decide +kernel
theorem dX7_buys_175 : decode cX7_buys 175 = .ok (.istore_n 3, 1) := by decide +kernel
theorem dX7_buys_176 : decode cX7_buys 176 = .ok (.iinc 6 1, 3) := by decide +kernel
theorem dX7_buys_179 : decode cX7_buys 179 = .ok (.goto (-89), 3) := by decide +kernel
theorem dX7_buys_182 : decode cX7_buys 182 = .ok (.iload 4, 2) := by decide +kernel
theorem dX7_buys_184 : decode cX7_buys 184 = .ok (.iload_n 1, 1) := by decide +kernel
theorem dX7_buys_185 : decode cX7_buys 185 = .ok (.if_icmp .ne 12, 3) := by decide +kernel
theorem dX7_buys_188 : decode cX7_buys 188 = .ok (.iload 5, 2) := by decide +kernel
theorem dX7_buys_190 : decode cX7_buys 190 = .ok (.iload_n 2, 1) := by decide +kernel
theorem dX7_buys_191 : decode cX7_buys 191 = .ok (.if_icmp .ne 6, 3) := by decide +kernel
theorem dX7_buys_194 : decode cX7_buys 194 = .ok (.iload 6, 2) := by decide +kernel
theorem dX7_buys_196 : decode cX7_buys 196 = .ok (.ireturn, 1) := by decide +kernel
theorem dX7_buys_197 : decode cX7_buys 197 = .ok (.iinc 5 1, 3) := by decide +kernel
theorem dX7_buys_200 : decode cX7_buys 200 = .ok (.goto (-119), 3) := by decide +kernel
theorem dX7_buys_203 : decode cX7_buys 203 = .ok (.iinc 4 1, 3) := by decide +kernel
theorem dX7_buys_206 : decode cX7_buys 206 = .ok (.goto (-135), 3) := by decide +kernel
theorem dX7_buys_209 : decode cX7_buys 209 = .ok (.iconst (-1), 1) := by decide +kernel
theorem dX7_buys_210 : decode cX7_buys 210 = .ok (.ireturn, 1) := by decide +kernel
theorem dJ9_max_7cf53_0 : decode cJ9_max_7cf53 0 = .ok (.iload_n 0, 1) := by decide +kernel
theorem dJ9_max_7cf53_1 : decode cJ9_max_7cf53 1 = .ok (.iload_n 1, 1) := by decide +kernel
theorem dJ9_max_7cf53_2 : decode cJ9_max_7cf53 2 = .ok (.if_icmp .lt 7, 3) := by decide +kernel
theorem dJ9_max_7cf53_5 : decode cJ9_max_7cf53 5 = .ok (.iload_n 0, 1) := by decide +kernel
theorem dJ9_max_7cf53_6 : decode cJ9_max_7cf53 6 = .ok (.goto 4, 3) := by decide +kernel
theorem dJ9_max_7cf53_9 : decode cJ9_max_7cf53 9 = .ok (.iload_n 1, 1) := by decide +kernel
theorem dJ9_max_7cf53_10 : decode cJ9_max_7cf53 10 = .ok (.ireturn, 1) := by decide +kernel
theorem dJ9_min_7cf53_0 : decode cJ9_min_7cf53 0 = .ok (.iload_n 0, 1) := by decide +kernel
theorem dJ9_min_7cf53_1 : decode cJ9_min_7cf53 1 = .ok (.iload_n 1, 1) := by decide +kernel
theorem dJ9_min_7cf53_2 : decode cJ9_min_7cf53 2 = .ok (.if_icmp .gt 7, 3) := by decide +kernel
theorem dJ9_min_7cf53_5 : decode cJ9_min_7cf53 5 = .ok (.iload_n 0, 1) := by decide +kernel
theorem dJ9_min_7cf53_6 : decode cJ9_min_7cf53 6 = .ok (.goto 4, 3) := by decide +kernel
theorem dJ9_min_7cf53_9 : decode cJ9_min_7cf53 9 = .ok (.iload_n 1, 1) := by decide +kernel
theorem dJ9_min_7cf53_10 : decode cJ9_min_7cf53 10 = .ok (.ireturn, 1) := by decide +kernel
theorem dJ7_rangeCheck_23922_0 : decode cJ7_rangeCheck_23922 0 = .ok (.iload_n 1, 1) := by decide +kernel
theorem dJ7_rangeCheck_23922_1 : decode cJ7_rangeCheck_23922 1 = .ok (.iload_n 2, 1) := by decide +kernel
theorem dJ7_rangeCheck_23922_2 : decode cJ7_rangeCheck_23922 2 = .ok (.if_icmp .le 44, 3) := by decide +kernel
theorem dJ7_rangeCheck_23922_5 : decode cJ7_rangeCheck_23922 5 = .ok (.new 43, 3) := by decide +kernel
theorem dJ7_rangeCheck_23922_8 : decode cJ7_rangeCheck_23922 8 = .ok (.dup, 1) := by decide +kernel
theorem dJ7_rangeCheck_23922_9 : decode cJ7_rangeCheck_23922 9 = .ok (.new 45, 3) := by decide +kernel
theorem dJ7_rangeCheck_23922_12 : decode cJ7_rangeCheck_23922 12 = .ok (.dup, 1) := by decide +kernel
theorem dJ7_rangeCheck_23922_13 : decode cJ7_rangeCheck_23922 13 = .ok (.invokespecial 47, 3) := by decide +kernel
theorem dJ7_rangeCheck_23922_16 : decode cJ7_rangeCheck_23922 16 = .ok (.ldc 48, 2) := by decide +kernel
theorem dJ7_rangeCheck_23922_18 : decode cJ7_rangeCheck_23922 18 = .ok (.invokevirtual 50, 3) := by decide +kernel
theorem dJ7_rangeCheck_23922_21 : decode cJ7_rangeCheck_23922 21 = .ok (.iload_n 1, 1) := by decide +kernel
theorem dJ7_rangeCheck_23922_22 : decode cJ7_rangeCheck_23922 22 = .ok (.invokevirtual 54, 3) := by decide +kernel
theorem dJ7_rangeCheck_23922_25 : decode cJ7_rangeCheck_23922 25 = .ok (.ldc 57, 2) := by decide +kernel
theorem dJ7_rangeCheck_23922_27 : decode cJ7_rangeCheck_23922 27 = .ok (.invokevirtual 50, 3) := by decide +kernel
theorem dJ7_rangeCheck_23922_30 : decode cJ7_rangeCheck_23922 30 = .ok (.iload_n 2, 1) := by decide +kernel
theorem dJ7_rangeCheck_23922_31 : decode cJ7_rangeCheck_23922 31 = .ok (.invokevirtual 54, 3) := by decide +kernel
theorem dJ7_rangeCheck_23922_34 : decode cJ7_rangeCheck_23922 34 = .ok (.ldc 59, 2) := by decide +kernel
theorem dJ7_rangeCheck_23922_36 : decode cJ7_rangeCheck_23922 36 = .ok (.invokevirtual 50, 3) := by decide +kernel
theorem dJ7_rangeCheck_23922_39 : decode cJ7_rangeCheck_23922 39 = .ok (.invokevirtual 61, 3) := by decide +kernel
theorem dJ7_rangeCheck_23922_42 : decode cJ7_rangeCheck_23922 42 = .ok (.invokespecial 65, 3) := by decide +kernel
theorem dJ7_rangeCheck_23922_45 : decode cJ7_rangeCheck_23922 45 = .ok (.athrow, 1) := by decide +kernel
theorem dJ7_rangeCheck_23922_46 : decode cJ7_rangeCheck_23922 46 = .ok (.iload_n 1, 1) := by decide +kernel
theorem dJ7_rangeCheck_23922_47 : decode cJ7_rangeCheck_23922 47 = .ok (.ifCond .ge 12, 3) := by decide +kernel
theorem dJ7_rangeCheck_23922_50 : decode cJ7_rangeCheck_23922 50 = .ok (.new 68, 3) := by decide +kernel
theorem dJ7_rangeCheck_23922_53 : decode cJ7_rangeCheck_23922 53 = .ok (.dup, 1) := by decide +kernel
theorem dJ7_rangeCheck_23922_54 : decode cJ7_rangeCheck_23922 54 = .ok (.iload_n 1, 1) := by decide +kernel
theorem dJ7_rangeCheck_23922_55 : decode cJ7_rangeCheck_23922 55 = .ok (.invokespecial 70, 3) := by decide +kernel
theorem dJ7_rangeCheck_23922_58 : decode cJ7_rangeCheck_23922 58 = .ok (.athrow, 1) := by decide +kernel
theorem dJ7_rangeCheck_23922_59 : decode cJ7_rangeCheck_23922 59 = .ok (.iload_n 2, 1) := by decide +kernel
theorem dJ7_rangeCheck_23922_60 : decode cJ7_rangeCheck_23922 60 = .ok (.iload_n 0, 1) := by decide +kernel
theorem dJ7_rangeCheck_23922_61 : decode cJ7_rangeCheck_23922 61 = .ok (.if_icmp .le 12, 3) := by decide +kernel
theorem dJ7_rangeCheck_23922_64 : decode cJ7_rangeCheck_23922 64 = .ok (.new 68, 3) := by decide +kernel
theorem dJ7_rangeCheck_23922_67 : decode cJ7_rangeCheck_23922 67 = .ok (.dup, 1) := by decide +kernel
theorem dJ7_rangeCheck_23922_68 : decode cJ7_rangeCheck_23922 68 = .ok (.iload_n 2, 1) := by decide +kernel
theorem dJ7_rangeCheck_23922_69 : decode cJ7_rangeCheck_23922 69 = .ok (.invokespecial 70, 3) := by decide +kernel
theorem dJ7_rangeCheck_23922_72 : decode cJ7_rangeCheck_23922 72 = .ok (.athrow, 1) := by decide +kernel
theorem dJ7_rangeCheck_23922_73 : decode cJ7_rangeCheck_23922 73 = .ok (.return_, 1) := by decide +kernel
theorem dJ7_fill_d0a16_0 : decode cJ7_fill_d0a16 0 = .ok (.iconst 0, 1) := by decide +kernel
theorem dJ7_fill_d0a16_1 : decode cJ7_fill_d0a16 1 = .ok (.istore_n 3, 1) := by decide +kernel
theorem dJ7_fill_d0a16_2 : decode cJ7_fill_d0a16 2 = .ok (.aload_n 0, 1) := by decide +kernel
theorem dJ7_fill_d0a16_3 : decode cJ7_fill_d0a16 3 = .ok (.arraylength, 1) := by decide +kernel
theorem dJ7_fill_d0a16_4 : decode cJ7_fill_d0a16 4 = .ok (.istore 4, 2) := by decide +kernel
theorem dJ7_fill_d0a16_6 : decode cJ7_fill_d0a16 6 = .ok (.iload_n 3, 1) := by decide +kernel
theorem dJ7_fill_d0a16_7 : decode cJ7_fill_d0a16 7 = .ok (.iload 4, 2) := by decide +kernel
theorem dJ7_fill_d0a16_9 : decode cJ7_fill_d0a16 9 = .ok (.if_icmp .ge 13, 3) := by decide +kernel
theorem dJ7_fill_d0a16_12 : decode cJ7_fill_d0a16 12 = .ok (.aload_n 0, 1) := by decide +kernel
theorem dJ7_fill_d0a16_13 : decode cJ7_fill_d0a16 13 = .ok (.iload_n 3, 1) := by decide +kernel
theorem dJ7_fill_d0a16_14 : decode cJ7_fill_d0a16 14 = .ok (.lload_n 1, 1) := by decide +kernel
theorem dJ7_fill_d0a16_15 : decode cJ7_fill_d0a16 15 = .ok (.lastore, 1) := by decide +kernel
theorem dJ7_fill_d0a16_16 : decode cJ7_fill_d0a16 16 = .ok (.iinc 3 1, 3) := by decide +kernel
theorem dJ7_fill_d0a16_19 : decode cJ7_fill_d0a16 19 = .ok (.goto (-13), 3) := by decide +kernel
theorem dJ7_fill_d0a16_22 : decode cJ7_fill_d0a16 22 = .ok (.return_, 1) := by decide +kernel
theorem dJ7_fill_53178_0 : decode cJ7_fill_53178 0 = .ok (.iconst 0, 1) := by decide +kernel
theorem dJ7_fill_53178_1 : decode cJ7_fill_53178 1 = .ok (.istore_n 2, 1) := by decide +kernel
theorem dJ7_fill_53178_2 : decode cJ7_fill_53178 2 = .ok (.aload_n 0, 1) := by decide +kernel
theorem dJ7_fill_53178_3 : decode cJ7_fill_53178 3 = .ok (.arraylength, 1) := by decide +kernel
theorem dJ7_fill_53178_4 : decode cJ7_fill_53178 4 = .ok (.istore_n 3, 1) := by decide +kernel
theorem dJ7_fill_53178_5 : decode cJ7_fill_53178 5 = .ok (.iload_n 2, 1) := by decide +kernel
theorem dJ7_fill_53178_6 : decode cJ7_fill_53178 6 = .ok (.iload_n 3, 1) := by decide +kernel
theorem dJ7_fill_53178_7 : decode cJ7_fill_53178 7 = .ok (.if_icmp .ge 13, 3) := by decide +kernel
theorem dJ7_fill_53178_10 : decode cJ7_fill_53178 10 = .ok (.aload_n 0, 1) := by decide +kernel
theorem dJ7_fill_53178_11 : decode cJ7_fill_53178 11 = .ok (.iload_n 2, 1) := by decide +kernel
theorem dJ7_fill_53178_12 : decode cJ7_fill_53178 12 = .ok (.iload_n 1, 1) := by decide +kernel
theorem dJ7_fill_53178_13 : decode cJ7_fill_53178 13 = .ok (.iastore, 1) := by decide +kernel
theorem dJ7_fill_53178_14 : decode cJ7_fill_53178 14 = .ok (.iinc 2 1, 3) := by decide +kernel
theorem dJ7_fill_53178_17 : decode cJ7_fill_53178 17 = .ok (.goto (-12), 3) := by decide +kernel
theorem dJ7_fill_53178_20 : decode cJ7_fill_53178 20 = .ok (.return_, 1) := by decide +kernel
set_option maxRecDepth 20000 in
theorem ggJ7_fill_fda19_J7_rangeCheck_23922 : GoodIn wsJ7_fill_fda19 wsJ7_rangeCheck_23922 := goodIn_r _ [4] (by decide +kernel) (by decide +kernel)
set_option maxRecDepth 20000 in
theorem gJ7_fill_fda19_J7_rangeCheck_23922 : GoodIn wsJ7_fill_fda19 (va_wsS RJ7 13 yJ7_rangeCheck_23922 wsJ7_rangeCheck_23922) := goodIn_app (goodIn_of _ (by decide +kernel)) ggJ7_fill_fda19_J7_rangeCheck_23922
theorem dJ7_fill_fda19_0 : decode cJ7_fill_fda19 0 = .ok (.aload_n 0, 1) := by decide +kernel
theorem dJ7_fill_fda19_1 : decode cJ7_fill_fda19 1 = .ok (.arraylength, 1) := by decide +kernel
theorem dJ7_fill_fda19_2 : decode cJ7_fill_fda19 2 = .ok (.iload_n 1, 1) := by decide +kernel
theorem dJ7_fill_fda19_3 : decode cJ7_fill_fda19 3 = .ok (.iload_n 2, 1) := by decide +kernel
theorem dJ7_fill_fda19_4 : decode cJ7_fill_fda19 4 = .ok (.invokestatic 13, 3) := by decide +kernel
theorem dJ7_fill_fda19_7 : decode cJ7_fill_fda19 7 = .ok (.iload_n 1, 1) := by decide +kernel
theorem dJ7_fill_fda19_8 : decode cJ7_fill_fda19 8 = .ok (.istore 4, 2) := by decide +kernel
theorem dJ7_fill_fda19_10 : decode cJ7_fill_fda19 10 = .ok (.iload 4, 2) := by decide +kernel
theorem dJ7_fill_fda19_12 : decode cJ7_fill_fda19 12 = .ok (.iload_n 2, 1) := by decide +kernel
theorem dJ7_fill_fda19_13 : decode cJ7_fill_fda19 13 = .ok (.if_icmp .ge 14, 3) := by decide +kernel
theorem dJ7_fill_fda19_16 : decode cJ7_fill_fda19 16 = .ok (.aload_n 0, 1) := by decide +kernel
theorem dJ7_fill_fda19_17 : decode cJ7_fill_fda19 17 = .ok (.iload 4, 2) := by decide +kernel
theorem dJ7_fill_fda19_19 : decode cJ7_fill_fda19 19 = .ok (.iload_n 3, 1) := by decide +kernel
theorem dJ7_fill_fda19_20 : decode cJ7_fill_fda19 20 = .ok (.iastore, 1) := by decide +kernel
theorem dJ7_fill_fda19_21 : decode cJ7_fill_fda19 21 = .ok (.iinc 4 1, 3) := by decide +kernel
theorem dJ7_fill_fda19_24 : decode cJ7_fill_fda19 24 = .ok (.goto (-14), 3) := by decide +kernel
theorem dJ7_fill_fda19_27 : decode cJ7_fill_fda19 27 = .ok (.return_, 1) := by decide +kernel
set_option maxRecDepth 20000 in
theorem ggL_law_X6_init : GoodIn wsL_law wsX6_init := goodIn_r _ [9, 10, 11, 12, 13, 14, 15, 16, 17, 18, 19, 20, 21, 22, 23, 24, 25, 26, 27, 28, 29, 30, 31, 32, 33, 34, 35, 36, 37, 38, 39, 40, 41, 42, 43, 44, 45, 46, 47, 48, 49, 50, 51, 52, 53, 54, 55, 56, 57, 58, 59, 60, 61, 62, 63, 64, 65, 66, 67, 68, 69, 70, 71, 72, 73, 74, 75, 76, 77, 78, 79, 80, 81, 82, 83, 84, 85, 86, 87, 88, 89, 90, 91, 92, 93, 94, 95, 96, 97, 98, 99, 100, 101, 102, 103, 104, 845, 846, 847, 797, 798, 799, 800, 801, 802, 848, 849, 850, 851, 852, 853, 854, 855, 856, 857, 858, 859, 860, 861, 862, 863, 864, 865, 866, 867, 868, 869, 870, 871, 872, 873, 874, 875, 876, 877, 878, 879, 880, 881, 882, 883, 884, 885, 886, 887, 888, 889, 890, 891] (by decide +kernel) (by decide +kernel)
set_option maxRecDepth 20000 in
theorem gL_law_X6_init : GoodIn wsL_law (wsX6_init) := ggL_law_X6_init
set_option maxRecDepth 20000 in
theorem ggL_law_X7_init : GoodIn wsL_law wsX7_init := goodIn_r _ [107, 108, 11, 12, 41, 109, 110, 39, 111, 112, 113, 58, 114, 115, 116, 117, 118, 119, 120, 121, 122, 123, 124, 125, 126, 127, 128, 129, 130, 131, 132, 133, 134, 135, 136, 137, 138, 139, 803, 804, 805, 806, 807, 808, 809, 810, 811, 812, 813, 814, 815, 816, 817, 818, 819, 820, 821, 822, 823, 824, 825, 826, 827, 828, 829, 830, 831, 832, 833, 834, 835, 836, 837, 838, 839, 840, 841, 842, 843, 844] (by decide +kernel) (by decide +kernel)
set_option maxRecDepth 20000 in
theorem gL_law_X7_init : GoodIn wsL_law (wsX7_init) := ggL_law_X7_init
set_option maxRecDepth 20000 in
theorem ggL_law_X6_status : GoodIn wsL_law wsX6_status := goodIn_r _ [143, 33, 797, 798, 799, 800, 801, 802] (by decide +kernel) (by decide +kernel)
set_option maxRecDepth 20000 in
theorem gL_law_X6_status : GoodIn wsL_law (wsV RL 13 RX6 yX6_status wsX6_status) := goodIn_app (goodIn_of _ (by decide +kernel)) ggL_law_X6_status
set_option maxRecDepth 20000 in
theorem ggL_law_X7_status : GoodIn wsL_law wsX7_status := goodIn_r _ [147, 148, 803, 804, 805, 806, 807, 808, 809, 810, 811, 812, 813, 814, 815, 816, 817, 818, 819, 820, 821, 822, 823, 824, 825, 826, 827, 828, 829, 830, 831, 832, 833, 834, 835, 836, 837, 838, 839, 840, 841, 842, 843, 844] (by decide +kernel) (by decide +kernel)
set_option maxRecDepth 20000 in
theorem gL_law_X7_status : GoodIn wsL_law (wsV RL 17 RX7 yX7_status wsX7_status) := goodIn_app (goodIn_of _ (by decide +kernel)) ggL_law_X7_status
set_option maxRecDepth 20000 in
theorem ggL_law_X6_sheet : GoodIn wsL_law wsX6_sheet := goodIn_r _ [152, 16, 153, 154, 15, 155, 156, 2, 157, 158, 159, 160, 161, 162, 33, 163, 164, 165, 166, 40, 42, 43, 167, 168, 46, 169, 170, 171, 172, 173, 797, 798, 799, 800, 801, 802, 845, 846, 847] (by decide +kernel) (by decide +kernel)
set_option maxRecDepth 20000 in
theorem gL_law_X6_sheet : GoodIn wsL_law (wsV RL 18 RX6 yX6_sheet wsX6_sheet) := goodIn_app (goodIn_of _ (by decide +kernel)) ggL_law_X6_sheet
set_option maxRecDepth 20000 in
theorem ggL_law_X7_sheet : GoodIn wsL_law wsX7_sheet := goodIn_r _ [177, 109, 110, 111, 178, 179, 5, 180, 181, 182, 183, 184, 148, 803, 804, 805, 806, 807, 808, 809, 810, 811, 812, 813, 814, 815, 816, 817, 818, 819, 820, 821, 822, 823, 824, 825, 826, 827, 828, 829, 830, 831, 832, 833, 834, 835, 836, 837, 838, 839, 840, 841, 842, 843, 844] (by decide +kernel) (by decide +kernel)
set_option maxRecDepth 20000 in
theorem gL_law_X7_sheet : GoodIn wsL_law (wsV RL 22 RX7 yX7_sheet wsX7_sheet) := goodIn_app (goodIn_of _ (by decide +kernel)) ggL_law_X7_sheet
set_option maxRecDepth 20000 in
theorem ggL_law_X6_write : GoodIn wsL_law wsX6_write := goodIn_r _ [188, 16, 189, 190, 191, 15, 192, 43, 193, 154, 155, 156, 2, 157, 194, 195, 196, 197, 159, 160, 161, 162, 33, 198, 199, 200, 201, 40, 42, 202, 203, 204, 170, 171, 172, 173, 797, 798, 799, 800, 801, 802, 845, 846, 847] (by decide +kernel) (by decide +kernel)
set_option maxRecDepth 20000 in
theorem gL_law_X6_write : GoodIn wsL_law (wsV RL 25 RX6 yX6_write wsX6_write) := goodIn_app (goodIn_of _ (by decide +kernel)) ggL_law_X6_write
set_option maxRecDepth 20000 in
theorem ggL_law_X7_write : GoodIn wsL_law wsX7_write := goodIn_r _ [208, 111, 109, 209, 210, 211, 5, 212, 110, 178, 179, 180, 213, 214, 215, 181, 182, 183, 184, 148, 803, 804, 805, 806, 807, 808, 809, 810, 811, 812, 813, 814, 815, 816, 817, 818, 819, 820, 821, 822, 823, 824, 825, 826, 827, 828, 829, 830, 831, 832, 833, 834, 835, 836, 837, 838, 839, 840, 841, 842, 843, 844] (by decide +kernel) (by decide +kernel)
set_option maxRecDepth 20000 in
theorem gL_law_X7_write : GoodIn wsL_law (wsV RL 29 RX7 yX7_write wsX7_write) := goodIn_app (goodIn_of _ (by decide +kernel)) ggL_law_X7_write
set_option maxRecDepth 20000 in
theorem ggL_law_X6_read : GoodIn wsL_law wsX6_read := goodIn_r _ [219, 16, 33, 189, 190, 191, 15, 192, 43, 193, 154, 155, 156, 2, 157, 194, 195, 196, 197, 220, 221, 222, 223, 224, 225, 226, 227, 40, 797, 798, 799, 800, 801, 802, 845, 846, 847] (by decide +kernel) (by decide +kernel)
set_option maxRecDepth 20000 in
theorem gL_law_X6_read : GoodIn wsL_law (wsV RL 30 RX6 yX6_read wsX6_read) := goodIn_app (goodIn_of _ (by decide +kernel)) ggL_law_X6_read
set_option maxRecDepth 20000 in
theorem ggL_law_X7_read : GoodIn wsL_law wsX7_read := goodIn_r _ [231, 148, 232, 111, 209, 210, 211, 5, 212, 110, 178, 179, 180, 803, 804, 805, 806, 807, 808, 809, 810, 811, 812, 813, 814, 815, 816, 817, 818, 819, 820, 821, 822, 823, 824, 825, 826, 827, 828, 829, 830, 831, 832, 833, 834, 835, 836, 837, 838, 839, 840, 841, 842, 843, 844] (by decide +kernel) (by decide +kernel)
set_option maxRecDepth 20000 in
theorem gL_law_X7_read : GoodIn wsL_law (wsV RL 34 RX7 yX7_read wsX7_read) := goodIn_app (goodIn_of _ (by decide +kernel)) ggL_law_X7_read
set_option maxRecDepth 20000 in
theorem ggL_law_X6_drop : GoodIn wsL_law wsX6_drop := goodIn_r _ [236, 16, 153, 154, 15, 155, 156, 2, 157, 159, 160, 161, 162, 33, 237, 195, 196, 197, 43, 238, 239, 240, 241, 170, 171, 172, 173, 797, 798, 799, 800, 801, 802, 845, 846, 847] (by decide +kernel) (by decide +kernel)
set_option maxRecDepth 20000 in
theorem gL_law_X6_drop : GoodIn wsL_law (wsV RL 35 RX6 yX6_drop wsX6_drop) := goodIn_app (goodIn_of _ (by decide +kernel)) ggL_law_X6_drop
set_option maxRecDepth 20000 in
theorem ggL_law_X7_drop : GoodIn wsL_law wsX7_drop := goodIn_r _ [245, 110, 178, 179, 5, 180, 181, 182, 183, 184, 148, 803, 804, 805, 806, 807, 808, 809, 810, 811, 812, 813, 814, 815, 816, 817, 818, 819, 820, 821, 822, 823, 824, 825, 826, 827, 828, 829, 830, 831, 832, 833, 834, 835, 836, 837, 838, 839, 840, 841, 842, 843, 844] (by decide +kernel) (by decide +kernel)
set_option maxRecDepth 20000 in
theorem gL_law_X7_drop : GoodIn wsL_law (wsV RL 39 RX7 yX7_drop wsX7_drop) := goodIn_app (goodIn_of _ (by decide +kernel)) ggL_law_X7_drop
set_option maxRecDepth 20000 in
theorem ggL_law_X6_copy : GoodIn wsL_law wsX6_copy := goodIn_r _ [249, 16, 153, 154, 15, 155, 156, 2, 157, 159, 160, 161, 162, 33, 237, 195, 196, 197, 43, 250, 251, 252, 253, 254, 255, 256, 257, 40, 258, 259, 260, 261, 262, 199, 200, 201, 42, 202, 203, 204, 170, 171, 172, 173, 797, 798, 799, 800, 801, 802, 845, 846, 847] (by decide +kernel) (by decide +kernel)
set_option maxRecDepth 20000 in
theorem gL_law_X6_copy : GoodIn wsL_law (wsV RL 40 RX6 yX6_copy wsX6_copy) := goodIn_app (goodIn_of _ (by decide +kernel)) ggL_law_X6_copy
set_option maxRecDepth 20000 in
theorem ggL_law_X7_copy : GoodIn wsL_law wsX7_copy := goodIn_r _ [266, 110, 111, 109, 178, 179, 5, 180, 181, 182, 183, 184, 148, 213, 214, 215, 803, 804, 805, 806, 807, 808, 809, 810, 811, 812, 813, 814, 815, 816, 817, 818, 819, 820, 821, 822, 823, 824, 825, 826, 827, 828, 829, 830, 831, 832, 833, 834, 835, 836, 837, 838, 839, 840, 841, 842, 843, 844] (by decide +kernel) (by decide +kernel)
set_option maxRecDepth 20000 in
theorem gL_law_X7_copy : GoodIn wsL_law (wsV RL 44 RX7 yX7_copy wsX7_copy) := goodIn_app (goodIn_of _ (by decide +kernel)) ggL_law_X7_copy
set_option maxRecDepth 20000 in
theorem ggL_law_X6_none : GoodIn wsL_law wsX6_none := goodIn_r _ [270, 159, 160, 161, 2, 162, 33, 797, 798, 799, 800, 801, 802] (by decide +kernel) (by decide +kernel)
set_option maxRecDepth 20000 in
theorem gL_law_X6_none : GoodIn wsL_law (wsV RL 45 RX6 yX6_none wsX6_none) := goodIn_app (goodIn_of _ (by decide +kernel)) ggL_law_X6_none
set_option maxRecDepth 20000 in
theorem ggL_law_X7_none : GoodIn wsL_law wsX7_none := goodIn_r _ [274, 181, 182, 183, 5, 184, 148, 803, 804, 805, 806, 807, 808, 809, 810, 811, 812, 813, 814, 815, 816, 817, 818, 819, 820, 821, 822, 823, 824, 825, 826, 827, 828, 829, 830, 831, 832, 833, 834, 835, 836, 837, 838, 839, 840, 841, 842, 843, 844] (by decide +kernel) (by decide +kernel)
set_option maxRecDepth 20000 in
theorem gL_law_X7_none : GoodIn wsL_law (wsV RL 49 RX7 yX7_none wsX7_none) := goodIn_app (goodIn_of _ (by decide +kernel)) ggL_law_X7_none
set_option maxRecDepth 20000 in
theorem ggL_law_X6_machine : GoodIn wsL_law wsX6_machine := goodIn_r _ [278, 20, 279, 158, 156, 2, 157, 220, 221, 222, 223, 33, 280, 281, 282, 19, 283, 284, 52, 53, 285, 286, 287, 288, 289, 797, 798, 799, 800, 801, 802, 848, 849, 850, 851, 852, 853, 854, 855, 856, 857, 858, 859, 860] (by decide +kernel) (by decide +kernel)
set_option maxRecDepth 20000 in
theorem gL_law_X6_machine : GoodIn wsL_law (wsV RL 50 RX6 yX6_machine wsX6_machine) := goodIn_app (goodIn_of _ (by decide +kernel)) ggL_law_X6_machine
set_option maxRecDepth 20000 in
theorem ggL_law_X7_machine : GoodIn wsL_law wsX7_machine := goodIn_r _ [293, 294, 112, 113, 114, 148, 295, 296, 297, 5, 298, 803, 804, 805, 806, 807, 808, 809, 810, 811, 812, 813, 814, 815, 816, 817, 818, 819, 820, 821, 822, 823, 824, 825, 826, 827, 828, 829, 830, 831, 832, 833, 834, 835, 836, 837, 838, 839, 840, 841, 842, 843, 844] (by decide +kernel) (by decide +kernel)
set_option maxRecDepth 20000 in
theorem gL_law_X7_machine : GoodIn wsL_law (wsV RL 54 RX7 yX7_machine wsX7_machine) := goodIn_app (goodIn_of _ (by decide +kernel)) ggL_law_X7_machine
set_option maxRecDepth 20000 in
theorem ggL_law_X6_up : GoodIn wsL_law wsX6_up := goodIn_r _ [302, 20, 303, 304, 305, 19, 306, 284, 156, 2, 157, 159, 160, 161, 162, 33, 307, 308, 309, 310, 285, 311, 312, 313, 314, 315, 316, 317, 170, 171, 172, 173, 797, 798, 799, 800, 801, 802, 848, 849, 850, 851, 852, 853, 854, 855, 856, 857, 858, 859, 860] (by decide +kernel) (by decide +kernel)
set_option maxRecDepth 20000 in
theorem gL_law_X6_up : GoodIn wsL_law (wsV RL 55 RX6 yX6_up wsX6_up) := goodIn_app (goodIn_of _ (by decide +kernel)) ggL_law_X6_up
set_option maxRecDepth 20000 in
theorem ggL_law_X7_up : GoodIn wsL_law wsX7_up := goodIn_r _ [321, 294, 114, 181, 182, 183, 5, 184, 148, 803, 804, 805, 806, 807, 808, 809, 810, 811, 812, 813, 814, 815, 816, 817, 818, 819, 820, 821, 822, 823, 824, 825, 826, 827, 828, 829, 830, 831, 832, 833, 834, 835, 836, 837, 838, 839, 840, 841, 842, 843, 844] (by decide +kernel) (by decide +kernel)
set_option maxRecDepth 20000 in
theorem gL_law_X7_up : GoodIn wsL_law (wsV RL 59 RX7 yX7_up wsX7_up) := goodIn_app (goodIn_of _ (by decide +kernel)) ggL_law_X7_up
set_option maxRecDepth 20000 in
theorem ggL_law_X6_ask : GoodIn wsL_law wsX6_ask := goodIn_r _ [325, 20, 326, 24, 158, 156, 2, 157, 327, 328, 329, 220, 221, 222, 223, 33, 330, 331, 332, 23, 333, 77, 334, 335, 336, 19, 337, 338, 54, 56, 339, 340, 341, 342, 60, 343, 344, 345, 346, 62, 57, 59, 55, 286, 287, 288, 289, 797, 798, 799, 800, 801, 802, 848, 849, 850, 851, 852, 853, 854, 855, 856, 857, 858, 859, 860, 861, 862, 863, 864, 865, 866, 867, 868, 869] (by decide +kernel) (by decide +kernel)
set_option maxRecDepth 20000 in
theorem gL_law_X6_ask : GoodIn wsL_law (wsV RL 60 RX6 yX6_ask wsX6_ask) := goodIn_app (goodIn_of _ (by decide +kernel)) ggL_law_X6_ask
set_option maxRecDepth 20000 in
theorem ggL_law_X7_ask : GoodIn wsL_law wsX7_ask := goodIn_r _ [350, 351, 115, 116, 117, 118, 148, 295, 296, 297, 5, 298, 803, 804, 805, 806, 807, 808, 809, 810, 811, 812, 813, 814, 815, 816, 817, 818, 819, 820, 821, 822, 823, 824, 825, 826, 827, 828, 829, 830, 831, 832, 833, 834, 835, 836, 837, 838, 839, 840, 841, 842, 843, 844] (by decide +kernel) (by decide +kernel)
set_option maxRecDepth 20000 in
theorem gL_law_X7_ask : GoodIn wsL_law (wsV RL 64 RX7 yX7_ask wsX7_ask) := goodIn_app (goodIn_of _ (by decide +kernel)) ggL_law_X7_ask
set_option maxRecDepth 20000 in
theorem ggL_law_X6_apart : GoodIn wsL_law wsX6_apart := goodIn_r _ [355, 20, 24, 356, 357, 358, 19, 359, 338, 156, 2, 157, 159, 160, 161, 162, 33, 360, 361, 362, 363, 55, 311, 312, 313, 330, 331, 332, 23, 333, 77, 364, 365, 366, 367, 343, 344, 345, 346, 62, 57, 54, 59, 170, 171, 172, 173, 797, 798, 799, 800, 801, 802, 848, 849, 850, 851, 852, 853, 854, 855, 856, 857, 858, 859, 860, 861, 862, 863, 864, 865, 866, 867, 868, 869] (by decide +kernel) (by decide +kernel)
set_option maxRecDepth 20000 in
theorem gL_law_X6_apart : GoodIn wsL_law (wsV RL 65 RX6 yX6_apart wsX6_apart) := goodIn_app (goodIn_of _ (by decide +kernel)) ggL_law_X6_apart
set_option maxRecDepth 20000 in
theorem ggL_law_X7_apart : GoodIn wsL_law wsX7_apart := goodIn_r _ [371, 118, 372, 373, 374, 5, 375, 351, 181, 182, 183, 184, 148, 803, 804, 805, 806, 807, 808, 809, 810, 811, 812, 813, 814, 815, 816, 817, 818, 819, 820, 821, 822, 823, 824, 825, 826, 827, 828, 829, 830, 831, 832, 833, 834, 835, 836, 837, 838, 839, 840, 841, 842, 843, 844] (by decide +kernel) (by decide +kernel)
set_option maxRecDepth 20000 in
theorem gL_law_X7_apart : GoodIn wsL_law (wsV RL 69 RX7 yX7_apart wsX7_apart) := goodIn_app (goodIn_of _ (by decide +kernel)) ggL_law_X7_apart
set_option maxRecDepth 20000 in
theorem ggL_law_X6_count : GoodIn wsL_law wsX6_count := goodIn_r _ [379, 20, 279, 326, 24, 380, 32, 381, 286, 287, 288, 2, 289, 33, 382, 383, 384, 19, 385, 285, 53, 386, 387, 388, 389, 284, 52, 311, 312, 313, 220, 221, 222, 223, 797, 798, 799, 800, 801, 802, 848, 849, 850, 851, 852, 853, 854, 855, 856, 857, 858, 859, 860, 861, 862, 863, 864, 865, 866, 867, 868, 869, 876, 877, 878, 879, 880, 881, 882, 883, 884, 885, 886, 887] (by decide +kernel) (by decide +kernel)
set_option maxRecDepth 20000 in
theorem gL_law_X6_count : GoodIn wsL_law (wsV RL 70 RX6 yX6_count wsX6_count) := goodIn_app (goodIn_of _ (by decide +kernel)) ggL_law_X6_count
set_option maxRecDepth 20000 in
theorem ggL_law_X7_count : GoodIn wsL_law wsX7_count := goodIn_r _ [393, 148, 294, 351, 394, 395, 295, 296, 297, 5, 298, 396, 397, 398, 399, 112, 400, 401, 402, 403, 114, 113, 803, 804, 805, 806, 807, 808, 809, 810, 811, 812, 813, 814, 815, 816, 817, 818, 819, 820, 821, 822, 823, 824, 825, 826, 827, 828, 829, 830, 831, 832, 833, 834, 835, 836, 837, 838, 839, 840, 841, 842, 843, 844] (by decide +kernel) (by decide +kernel)
set_option maxRecDepth 20000 in
theorem gL_law_X7_count : GoodIn wsL_law (wsV RL 74 RX7 yX7_count wsX7_count) := goodIn_app (goodIn_of _ (by decide +kernel)) ggL_law_X7_count
set_option maxRecDepth 20000 in
theorem ggL_law_X6_fits : GoodIn wsL_law wsX6_fits := goodIn_r _ [407, 20, 327, 328, 2, 329, 158, 156, 157, 408, 409, 19, 410, 220, 221, 222, 223, 33, 382, 383, 384, 385, 285, 53, 411, 412, 413, 414, 61, 56, 415, 416, 417, 418, 62, 284, 52, 419, 45, 46, 47, 311, 312, 313, 420, 421, 422, 423, 338, 60, 57, 424, 425, 426, 427, 59, 286, 287, 288, 289, 797, 798, 799, 800, 801, 802, 848, 849, 850, 851, 852, 853, 854, 855, 856, 857, 858, 859, 860] (by decide +kernel) (by decide +kernel)
set_option maxRecDepth 20000 in
theorem gL_law_X6_fits : GoodIn wsL_law (wsV RL 75 RX6 yX6_fits wsX6_fits) := goodIn_app (goodIn_of _ (by decide +kernel)) ggL_law_X6_fits
set_option maxRecDepth 20000 in
theorem ggL_law_X7_fits : GoodIn wsL_law wsX7_fits := goodIn_r _ [431, 148, 121, 432, 433, 5, 434, 435, 436, 437, 295, 296, 297, 298, 438, 439, 440, 441, 351, 119, 120, 115, 118, 294, 112, 400, 401, 402, 403, 114, 113, 442, 443, 444, 445, 116, 117, 803, 804, 805, 806, 807, 808, 809, 810, 811, 812, 813, 814, 815, 816, 817, 818, 819, 820, 821, 822, 823, 824, 825, 826, 827, 828, 829, 830, 831, 832, 833, 834, 835, 836, 837, 838, 839, 840, 841, 842, 843, 844] (by decide +kernel) (by decide +kernel)
set_option maxRecDepth 20000 in
theorem gL_law_X7_fits : GoodIn wsL_law (wsV RL 78 RX7 yX7_fits wsX7_fits) := goodIn_app (goodIn_of _ (by decide +kernel)) ggL_law_X7_fits
set_option maxRecDepth 20000 in
theorem ggL_law_X6_on : GoodIn wsL_law wsX6_on := goodIn_r _ [449, 20, 327, 328, 2, 329, 158, 156, 157, 408, 409, 19, 410, 356, 357, 358, 359, 338, 450, 451, 452, 453, 56, 311, 312, 313, 220, 221, 222, 223, 33, 382, 383, 384, 385, 285, 53, 411, 412, 413, 414, 61, 415, 416, 417, 418, 62, 284, 52, 419, 45, 46, 47, 420, 421, 422, 423, 60, 57, 424, 425, 426, 427, 59, 454, 455, 456, 457, 286, 287, 288, 289, 797, 798, 799, 800, 801, 802, 848, 849, 850, 851, 852, 853, 854, 855, 856, 857, 858, 859, 860] (by decide +kernel) (by decide +kernel)
set_option maxRecDepth 20000 in
theorem gL_law_X6_on : GoodIn wsL_law (wsV RL 79 RX6 yX6_on wsX6_on) := goodIn_app (goodIn_of _ (by decide +kernel)) ggL_law_X6_on
set_option maxRecDepth 20000 in
theorem ggL_law_X7_on : GoodIn wsL_law wsX7_on := goodIn_r _ [461, 121, 148, 294, 120, 119, 112, 432, 433, 5, 434, 435, 436, 437, 372, 373, 374, 375, 351, 442, 443, 444, 445, 116, 117, 295, 296, 297, 298, 438, 439, 440, 441, 115, 118, 400, 401, 402, 403, 114, 113, 803, 804, 805, 806, 807, 808, 809, 810, 811, 812, 813, 814, 815, 816, 817, 818, 819, 820, 821, 822, 823, 824, 825, 826, 827, 828, 829, 830, 831, 832, 833, 834, 835, 836, 837, 838, 839, 840, 841, 842, 843, 844] (by decide +kernel) (by decide +kernel)
set_option maxRecDepth 20000 in
theorem gL_law_X7_on : GoodIn wsL_law (wsV RL 82 RX7 yX7_on wsX7_on) := goodIn_app (goodIn_of _ (by decide +kernel)) ggL_law_X7_on
set_option maxRecDepth 20000 in
theorem ggL_law_X6_lack : GoodIn wsL_law wsX6_lack := goodIn_r _ [465, 20, 327, 328, 2, 329, 158, 156, 157, 408, 409, 19, 410, 220, 221, 222, 223, 33, 382, 383, 384, 385, 285, 53, 466, 467, 468, 469, 56, 61, 57, 470, 471, 472, 473, 415, 416, 417, 418, 62, 284, 52, 419, 45, 46, 47, 311, 312, 313, 420, 421, 422, 423, 338, 60, 424, 425, 426, 427, 59, 286, 287, 288, 289, 797, 798, 799, 800, 801, 802, 848, 849, 850, 851, 852, 853, 854, 855, 856, 857, 858, 859, 860] (by decide +kernel) (by decide +kernel)
set_option maxRecDepth 20000 in
theorem gL_law_X6_lack : GoodIn wsL_law (wsV RL 83 RX6 yX6_lack wsX6_lack) := goodIn_app (goodIn_of _ (by decide +kernel)) ggL_law_X6_lack
set_option maxRecDepth 20000 in
theorem ggL_law_X7_lack : GoodIn wsL_law wsX7_lack := goodIn_r _ [477, 148, 121, 119, 432, 433, 5, 434, 435, 436, 437, 295, 296, 297, 298, 438, 439, 440, 441, 351, 120, 115, 118, 294, 112, 400, 401, 402, 403, 114, 113, 442, 443, 444, 445, 116, 117, 803, 804, 805, 806, 807, 808, 809, 810, 811, 812, 813, 814, 815, 816, 817, 818, 819, 820, 821, 822, 823, 824, 825, 826, 827, 828, 829, 830, 831, 832, 833, 834, 835, 836, 837, 838, 839, 840, 841, 842, 843, 844] (by decide +kernel) (by decide +kernel)
set_option maxRecDepth 20000 in
theorem gL_law_X7_lack : GoodIn wsL_law (wsV RL 86 RX7 yX7_lack wsX7_lack) := goodIn_app (goodIn_of _ (by decide +kernel)) ggL_law_X7_lack
set_option maxRecDepth 20000 in
theorem ggL_law_X6_left : GoodIn wsL_law wsX6_left := goodIn_r _ [481, 20, 327, 328, 2, 329, 158, 156, 157, 408, 409, 19, 410, 220, 221, 222, 223, 33, 382, 383, 384, 385, 285, 53, 482, 483, 484, 485, 56, 61, 57, 415, 416, 417, 418, 62, 284, 52, 419, 45, 46, 47, 311, 312, 313, 420, 421, 422, 423, 338, 60, 424, 425, 426, 427, 59, 486, 387, 388, 389, 286, 287, 288, 289, 797, 798, 799, 800, 801, 802, 848, 849, 850, 851, 852, 853, 854, 855, 856, 857, 858, 859, 860] (by decide +kernel) (by decide +kernel)
set_option maxRecDepth 20000 in
theorem gL_law_X6_left : GoodIn wsL_law (wsV RL 87 RX6 yX6_left wsX6_left) := goodIn_app (goodIn_of _ (by decide +kernel)) ggL_law_X6_left
set_option maxRecDepth 20000 in
theorem ggL_law_X7_left : GoodIn wsL_law wsX7_left := goodIn_r _ [490, 148, 432, 433, 5, 434, 435, 436, 437, 295, 296, 297, 298, 438, 439, 440, 441, 351, 119, 120, 115, 118, 121, 294, 112, 400, 401, 402, 403, 114, 113, 491, 492, 493, 494, 442, 443, 444, 445, 116, 117, 396, 397, 398, 399, 803, 804, 805, 806, 807, 808, 809, 810, 811, 812, 813, 814, 815, 816, 817, 818, 819, 820, 821, 822, 823, 824, 825, 826, 827, 828, 829, 830, 831, 832, 833, 834, 835, 836, 837, 838, 839, 840, 841, 842, 843, 844] (by decide +kernel) (by decide +kernel)
set_option maxRecDepth 20000 in
theorem gL_law_X7_left : GoodIn wsL_law (wsV RL 90 RX7 yX7_left wsX7_left) := goodIn_app (goodIn_of _ (by decide +kernel)) ggL_law_X7_left
set_option maxRecDepth 20000 in
theorem ggL_law_X6_enough : GoodIn wsL_law wsX6_enough := goodIn_r _ [498, 20, 158, 156, 2, 157, 220, 221, 222, 223, 33, 499, 500, 501, 19, 502, 503, 504, 505, 506, 284, 507, 383, 384, 385, 285, 53, 508, 509, 510, 511, 512, 412, 413, 414, 61, 56, 415, 416, 417, 418, 62, 52, 419, 45, 46, 47, 311, 312, 313, 420, 421, 422, 423, 338, 60, 57, 424, 425, 426, 427, 59, 286, 287, 288, 289, 797, 798, 799, 800, 801, 802, 848, 849, 850, 851, 852, 853, 854, 855, 856, 857, 858, 859, 860] (by decide +kernel) (by decide +kernel)
set_option maxRecDepth 20000 in
theorem gL_law_X6_enough : GoodIn wsL_law (wsV RL 91 RX6 yX6_enough wsX6_enough) := goodIn_app (goodIn_of _ (by decide +kernel)) ggL_law_X6_enough
set_option maxRecDepth 20000 in
theorem ggL_law_X7_enough : GoodIn wsL_law wsX7_enough := goodIn_r _ [516, 148, 294, 121, 295, 296, 297, 5, 298, 438, 439, 440, 441, 351, 119, 120, 115, 118, 112, 400, 401, 402, 403, 114, 113, 442, 443, 444, 445, 116, 117, 803, 804, 805, 806, 807, 808, 809, 810, 811, 812, 813, 814, 815, 816, 817, 818, 819, 820, 821, 822, 823, 824, 825, 826, 827, 828, 829, 830, 831, 832, 833, 834, 835, 836, 837, 838, 839, 840, 841, 842, 843, 844] (by decide +kernel) (by decide +kernel)
set_option maxRecDepth 20000 in
theorem gL_law_X7_enough : GoodIn wsL_law (wsV RL 94 RX7 yX7_enough wsX7_enough) := goodIn_app (goodIn_of _ (by decide +kernel)) ggL_law_X7_enough
set_option maxRecDepth 20000 in
theorem ggL_law_X6_batch : GoodIn wsL_law wsX6_batch := goodIn_r _ [520, 24, 380, 158, 156, 2, 157, 327, 328, 329, 220, 221, 222, 223, 33, 521, 522, 523, 23, 524, 525, 69, 70, 71, 72, 526, 331, 332, 333, 77, 286, 287, 288, 289, 797, 798, 799, 800, 801, 802, 861, 862, 863, 864, 865, 866, 867, 868, 869] (by decide +kernel) (by decide +kernel)
set_option maxRecDepth 20000 in
theorem gL_law_X6_batch : GoodIn wsL_law (wsV RL 95 RX6 yX6_batch wsX6_batch) := goodIn_app (goodIn_of _ (by decide +kernel)) ggL_law_X6_batch
set_option maxRecDepth 20000 in
theorem ggL_law_X7_batch : GoodIn wsL_law wsX7_batch := goodIn_r _ [530, 394, 122, 123, 124, 125, 148, 295, 296, 297, 5, 298, 803, 804, 805, 806, 807, 808, 809, 810, 811, 812, 813, 814, 815, 816, 817, 818, 819, 820, 821, 822, 823, 824, 825, 826, 827, 828, 829, 830, 831, 832, 833, 834, 835, 836, 837, 838, 839, 840, 841, 842, 843, 844] (by decide +kernel) (by decide +kernel)
set_option maxRecDepth 20000 in
theorem gL_law_X7_batch : GoodIn wsL_law (wsV RL 99 RX7 yX7_batch wsX7_batch) := goodIn_app (goodIn_of _ (by decide +kernel)) ggL_law_X7_batch
set_option maxRecDepth 20000 in
theorem ggL_law_X6_rest : GoodIn wsL_law wsX6_rest := goodIn_r _ [534, 24, 20, 535, 408, 409, 19, 410, 156, 2, 157, 220, 221, 222, 223, 33, 382, 383, 384, 385, 285, 53, 536, 537, 538, 23, 539, 77, 540, 76, 541, 542, 543, 544, 525, 69, 70, 71, 72, 545, 546, 547, 75, 548, 82, 84, 549, 45, 46, 47, 550, 551, 552, 553, 554, 483, 484, 485, 56, 61, 57, 415, 416, 417, 418, 62, 284, 52, 419, 311, 312, 313, 420, 421, 422, 423, 338, 60, 424, 425, 426, 427, 59, 486, 387, 388, 389, 555, 556, 557, 558, 559, 560, 561, 562, 563, 85, 86, 564, 565, 566, 567, 568, 569, 472, 570, 571, 572, 573, 574, 68, 575, 576, 577, 578, 579, 286, 287, 288, 289, 797, 798, 799, 800, 801, 802, 861, 862, 863, 864, 865, 866, 867, 868, 869, 848, 849, 850, 851, 852, 853, 854, 855, 856, 857, 858, 859, 860, 888, 889, 890, 891] (by decide +kernel) (by decide +kernel)
set_option maxRecDepth 20000 in
theorem gL_law_X6_rest : GoodIn wsL_law (wsV RL 100 RX6 yX6_rest wsX6_rest) := goodIn_app (goodIn_of _ (by decide +kernel)) ggL_law_X6_rest
set_option maxRecDepth 20000 in
theorem ggL_law_X7_rest : GoodIn wsL_law wsX7_rest := goodIn_r _ [583, 148, 435, 436, 5, 437, 295, 296, 297, 298, 584, 585, 586, 587, 127, 128, 126, 130, 394, 129, 122, 438, 439, 440, 441, 351, 119, 120, 115, 118, 121, 294, 112, 400, 401, 402, 403, 114, 113, 491, 492, 493, 494, 442, 443, 444, 445, 116, 117, 396, 397, 398, 399, 588, 589, 590, 591, 131, 132, 592, 593, 594, 595, 125, 596, 597, 598, 599, 123, 124, 600, 601, 602, 603, 604, 569, 472, 570, 605, 606, 607, 608, 803, 804, 805, 806, 807, 808, 809, 810, 811, 812, 813, 814, 815, 816, 817, 818, 819, 820, 821, 822, 823, 824, 825, 826, 827, 828, 829, 830, 831, 832, 833, 834, 835, 836, 837, 838, 839, 840, 841, 842, 843, 844] (by decide +kernel) (by decide +kernel)
set_option maxRecDepth 20000 in
theorem gL_law_X7_rest : GoodIn wsL_law (wsV RL 103 RX7 yX7_rest wsX7_rest) := goodIn_app (goodIn_of _ (by decide +kernel)) ggL_law_X7_rest
set_option maxRecDepth 20000 in
theorem ggL_law_X6_part : GoodIn wsL_law wsX6_part := goodIn_r _ [612, 24, 20, 535, 613, 408, 409, 19, 410, 156, 2, 157, 614, 615, 616, 23, 617, 525, 327, 328, 329, 158, 220, 221, 222, 223, 33, 382, 383, 384, 385, 285, 53, 536, 537, 538, 539, 77, 540, 76, 541, 542, 543, 544, 69, 70, 71, 72, 545, 546, 547, 75, 548, 82, 84, 549, 45, 46, 47, 550, 551, 552, 553, 554, 483, 484, 485, 56, 61, 57, 415, 416, 417, 418, 62, 284, 52, 419, 311, 312, 313, 420, 421, 422, 423, 338, 60, 424, 425, 426, 427, 59, 486, 387, 388, 389, 555, 556, 557, 558, 559, 560, 561, 562, 563, 85, 86, 564, 565, 566, 567, 568, 569, 472, 570, 571, 572, 573, 574, 68, 575, 576, 577, 578, 579, 286, 287, 288, 289, 797, 798, 799, 800, 801, 802, 861, 862, 863, 864, 865, 866, 867, 868, 869, 848, 849, 850, 851, 852, 853, 854, 855, 856, 857, 858, 859, 860, 888, 889, 890, 891] (by decide +kernel) (by decide +kernel)
set_option maxRecDepth 20000 in
theorem gL_law_X6_part : GoodIn wsL_law (wsV RL 104 RX6 yX6_part wsX6_part) := goodIn_app (goodIn_of _ (by decide +kernel)) ggL_law_X6_part
set_option maxRecDepth 20000 in
theorem ggL_law_X7_part : GoodIn wsL_law wsX7_part := goodIn_r _ [621, 394, 148, 123, 124, 130, 126, 125, 435, 436, 5, 437, 432, 433, 434, 295, 296, 297, 298, 584, 585, 586, 587, 127, 128, 129, 122, 438, 439, 440, 441, 351, 119, 120, 115, 118, 121, 294, 112, 400, 401, 402, 403, 114, 113, 491, 492, 493, 494, 442, 443, 444, 445, 116, 117, 396, 397, 398, 399, 588, 589, 590, 591, 131, 132, 592, 593, 594, 595, 596, 597, 598, 599, 600, 601, 602, 603, 604, 569, 472, 570, 605, 606, 607, 608, 803, 804, 805, 806, 807, 808, 809, 810, 811, 812, 813, 814, 815, 816, 817, 818, 819, 820, 821, 822, 823, 824, 825, 826, 827, 828, 829, 830, 831, 832, 833, 834, 835, 836, 837, 838, 839, 840, 841, 842, 843, 844] (by decide +kernel) (by decide +kernel)
set_option maxRecDepth 20000 in
theorem gL_law_X7_part : GoodIn wsL_law (wsV RL 107 RX7 yX7_part wsX7_part) := goodIn_app (goodIn_of _ (by decide +kernel)) ggL_law_X7_part
set_option maxRecDepth 20000 in
theorem ggL_law_X6_line : GoodIn wsL_law wsX6_line := goodIn_r _ [625, 16, 28, 626, 627, 2, 628, 153, 154, 15, 155, 156, 157, 158, 220, 221, 222, 223, 33, 629, 630, 631, 632, 43, 40, 194, 195, 196, 197, 633, 634, 635, 27, 636, 637, 638, 639, 640, 641, 91, 642, 471, 472, 473, 643, 45, 46, 47, 644, 225, 226, 227, 645, 646, 647, 648, 649, 650, 651, 652, 286, 287, 288, 289, 797, 798, 799, 800, 801, 802, 845, 846, 847, 870, 871, 872, 873, 874, 875] (by decide +kernel) (by decide +kernel)
set_option maxRecDepth 20000 in
theorem gL_law_X6_line : GoodIn wsL_law (wsV RL 108 RX6 yX6_line wsX6_line) := goodIn_app (goodIn_of _ (by decide +kernel)) ggL_law_X6_line
set_option maxRecDepth 20000 in
theorem ggL_law_X7_line : GoodIn wsL_law wsX7_line := goodIn_r _ [656, 657, 148, 658, 659, 660, 661, 662, 663, 664, 665, 5, 666, 110, 111, 178, 179, 180, 295, 296, 297, 298, 667, 668, 669, 670, 133, 671, 471, 472, 473, 803, 804, 805, 806, 807, 808, 809, 810, 811, 812, 813, 814, 815, 816, 817, 818, 819, 820, 821, 822, 823, 824, 825, 826, 827, 828, 829, 830, 831, 832, 833, 834, 835, 836, 837, 838, 839, 840, 841, 842, 843, 844] (by decide +kernel) (by decide +kernel)
set_option maxRecDepth 20000 in
theorem gL_law_X7_line : GoodIn wsL_law (wsV RL 112 RX7 yX7_line wsX7_line) := goodIn_app (goodIn_of _ (by decide +kernel)) ggL_law_X7_line
set_option maxRecDepth 20000 in
theorem ggL_law_X6_hands : GoodIn wsL_law wsX6_hands := goodIn_r _ [675, 16, 28, 676, 626, 627, 2, 628, 153, 154, 15, 155, 156, 157, 158, 220, 221, 222, 223, 33, 629, 630, 631, 632, 43, 40, 194, 195, 196, 197, 633, 634, 635, 27, 636, 637, 638, 639, 640, 641, 91, 642, 471, 472, 473, 643, 45, 46, 47, 644, 225, 226, 227, 645, 646, 647, 648, 286, 287, 288, 289, 797, 798, 799, 800, 801, 802, 870, 871, 872, 873, 874, 875, 845, 846, 847] (by decide +kernel) (by decide +kernel)
set_option maxRecDepth 20000 in
theorem gL_law_X6_hands : GoodIn wsL_law (wsV RL 113 RX6 yX6_hands wsX6_hands) := goodIn_app (goodIn_of _ (by decide +kernel)) ggL_law_X6_hands
set_option maxRecDepth 20000 in
theorem ggL_law_X7_hands : GoodIn wsL_law wsX7_hands := goodIn_r _ [680, 657, 148, 658, 663, 664, 665, 5, 666, 110, 111, 178, 179, 180, 295, 296, 297, 298, 667, 668, 669, 670, 659, 660, 661, 662, 133, 671, 471, 472, 473, 803, 804, 805, 806, 807, 808, 809, 810, 811, 812, 813, 814, 815, 816, 817, 818, 819, 820, 821, 822, 823, 824, 825, 826, 827, 828, 829, 830, 831, 832, 833, 834, 835, 836, 837, 838, 839, 840, 841, 842, 843, 844] (by decide +kernel) (by decide +kernel)
set_option maxRecDepth 20000 in
theorem gL_law_X7_hands : GoodIn wsL_law (wsV RL 116 RX7 yX7_hands wsX7_hands) := goodIn_app (goodIn_of _ (by decide +kernel)) ggL_law_X7_hands
set_option maxRecDepth 20000 in
theorem ggL_law_X6_wanted : GoodIn wsL_law wsX6_wanted := goodIn_r _ [684, 16, 32, 153, 154, 15, 155, 156, 2, 157, 159, 160, 161, 162, 33, 629, 630, 631, 632, 43, 40, 194, 195, 196, 197, 685, 686, 687, 31, 688, 98, 689, 690, 225, 226, 227, 170, 171, 172, 173, 797, 798, 799, 800, 801, 802, 845, 846, 847, 876, 877, 878, 879, 880, 881, 882, 883, 884, 885, 886, 887] (by decide +kernel) (by decide +kernel)
set_option maxRecDepth 20000 in
theorem gL_law_X6_wanted : GoodIn wsL_law (wsV RL 117 RX6 yX6_wanted wsX6_wanted) := goodIn_app (goodIn_of _ (by decide +kernel)) ggL_law_X6_wanted
set_option maxRecDepth 20000 in
theorem ggL_law_X7_wanted : GoodIn wsL_law wsX7_wanted := goodIn_r _ [694, 695, 134, 111, 663, 664, 665, 5, 666, 110, 178, 179, 180, 181, 182, 183, 184, 148, 803, 804, 805, 806, 807, 808, 809, 810, 811, 812, 813, 814, 815, 816, 817, 818, 819, 820, 821, 822, 823, 824, 825, 826, 827, 828, 829, 830, 831, 832, 833, 834, 835, 836, 837, 838, 839, 840, 841, 842, 843, 844] (by decide +kernel) (by decide +kernel)
set_option maxRecDepth 20000 in
theorem gL_law_X7_wanted : GoodIn wsL_law (wsV RL 120 RX7 yX7_wanted wsX7_wanted) := goodIn_app (goodIn_of _ (by decide +kernel)) ggL_law_X7_wanted
set_option maxRecDepth 20000 in
theorem ggL_law_X6_have : GoodIn wsL_law wsX6_have := goodIn_r _ [699, 32, 158, 156, 2, 157, 159, 160, 161, 162, 33, 700, 701, 702, 31, 703, 704, 689, 170, 171, 172, 173, 797, 798, 799, 800, 801, 802, 876, 877, 878, 879, 880, 881, 882, 883, 884, 885, 886, 887] (by decide +kernel) (by decide +kernel)
set_option maxRecDepth 20000 in
theorem gL_law_X6_have : GoodIn wsL_law (wsV RL 121 RX6 yX6_have wsX6_have) := goodIn_app (goodIn_of _ (by decide +kernel)) ggL_law_X6_have
set_option maxRecDepth 20000 in
theorem ggL_law_X7_have : GoodIn wsL_law wsX7_have := goodIn_r _ [708, 709, 181, 182, 183, 5, 184, 148, 803, 804, 805, 806, 807, 808, 809, 810, 811, 812, 813, 814, 815, 816, 817, 818, 819, 820, 821, 822, 823, 824, 825, 826, 827, 828, 829, 830, 831, 832, 833, 834, 835, 836, 837, 838, 839, 840, 841, 842, 843, 844] (by decide +kernel) (by decide +kernel)
set_option maxRecDepth 20000 in
theorem gL_law_X7_have : GoodIn wsL_law (wsV RL 124 RX7 yX7_have wsX7_have) := goodIn_app (goodIn_of _ (by decide +kernel)) ggL_law_X7_have
set_option maxRecDepth 20000 in
theorem ggL_law_X6_type : GoodIn wsL_law wsX6_type := goodIn_r _ [713, 16, 714, 32, 381, 158, 156, 2, 157, 715, 716, 717, 153, 154, 15, 155, 220, 221, 222, 223, 33, 629, 630, 631, 632, 43, 40, 194, 195, 196, 197, 718, 719, 720, 31, 721, 722, 99, 100, 101, 102, 689, 690, 225, 226, 227, 286, 287, 288, 289, 797, 798, 799, 800, 801, 802, 876, 877, 878, 879, 880, 881, 882, 883, 884, 885, 886, 887, 845, 846, 847] (by decide +kernel) (by decide +kernel)
set_option maxRecDepth 20000 in
theorem gL_law_X6_type : GoodIn wsL_law (wsV RL 125 RX6 yX6_type wsX6_type) := goodIn_app (goodIn_of _ (by decide +kernel)) ggL_law_X6_type
set_option maxRecDepth 20000 in
theorem ggL_law_X7_type : GoodIn wsL_law wsX7_type := goodIn_r _ [726, 727, 395, 135, 136, 137, 138, 111, 148, 663, 664, 665, 5, 666, 110, 178, 179, 180, 295, 296, 297, 298, 803, 804, 805, 806, 807, 808, 809, 810, 811, 812, 813, 814, 815, 816, 817, 818, 819, 820, 821, 822, 823, 824, 825, 826, 827, 828, 829, 830, 831, 832, 833, 834, 835, 836, 837, 838, 839, 840, 841, 842, 843, 844] (by decide +kernel) (by decide +kernel)
set_option maxRecDepth 20000 in
theorem gL_law_X7_type : GoodIn wsL_law (wsV RL 128 RX7 yX7_type wsX7_type) := goodIn_app (goodIn_of _ (by decide +kernel)) ggL_law_X7_type
set_option maxRecDepth 20000 in
theorem ggL_law_X6_cheapest : GoodIn wsL_law wsX6_cheapest := goodIn_r _ [731, 32, 732, 733, 734, 735, 31, 736, 689, 103, 104, 98, 737, 722, 100, 704, 738, 739, 45, 46, 47, 740, 168, 169, 741, 742, 743, 744, 745, 746, 747, 748, 749, 750, 102, 101, 99, 751, 569, 472, 570, 752, 753, 754, 755, 756, 757, 758, 759, 760, 761, 762, 97, 763, 764, 765, 766, 767, 286, 287, 288, 2, 289, 33, 220, 221, 222, 223, 797, 798, 799, 800, 801, 802, 876, 877, 878, 879, 880, 881, 882, 883, 884, 885, 886, 887] (by decide +kernel) (by decide +kernel)
set_option maxRecDepth 20000 in
theorem gL_law_X6_cheapest : GoodIn wsL_law (wsV RL 129 RX6 yX6_cheapest wsX6_cheapest) := goodIn_app (goodIn_of _ (by decide +kernel)) ggL_law_X6_cheapest
set_option maxRecDepth 20000 in
theorem ggL_law_X7_cheapest : GoodIn wsL_law wsX7_cheapest := goodIn_r _ [771, 139, 709, 772, 148, 773, 774, 775, 5, 776, 134, 395, 136, 135, 604, 569, 472, 570, 777, 778, 779, 780, 781, 782, 783, 138, 137, 295, 296, 297, 298, 803, 804, 805, 806, 807, 808, 809, 810, 811, 812, 813, 814, 815, 816, 817, 818, 819, 820, 821, 822, 823, 824, 825, 826, 827, 828, 829, 830, 831, 832, 833, 834, 835, 836, 837, 838, 839, 840, 841, 842, 843, 844] (by decide +kernel) (by decide +kernel)
set_option maxRecDepth 20000 in
theorem gL_law_X7_cheapest : GoodIn wsL_law (wsV RL 132 RX7 yX7_cheapest wsX7_cheapest) := goodIn_app (goodIn_of _ (by decide +kernel)) ggL_law_X7_cheapest
set_option maxRecDepth 20000 in
theorem ggL_law_X6_buys : GoodIn wsL_law wsX6_buys := goodIn_r _ [787, 32, 788, 715, 716, 2, 717, 158, 156, 157, 789, 790, 791, 31, 792, 722, 220, 221, 222, 223, 33, 733, 734, 735, 736, 689, 103, 104, 98, 737, 100, 704, 738, 739, 45, 46, 47, 740, 168, 169, 741, 742, 743, 744, 745, 746, 747, 748, 749, 750, 102, 101, 99, 751, 569, 472, 570, 752, 753, 754, 755, 756, 757, 758, 759, 760, 761, 762, 97, 763, 764, 765, 766, 767, 286, 287, 288, 289, 797, 798, 799, 800, 801, 802, 876, 877, 878, 879, 880, 881, 882, 883, 884, 885, 886, 887] (by decide +kernel) (by decide +kernel)
set_option maxRecDepth 20000 in
theorem gL_law_X6_buys : GoodIn wsL_law (wsV RL 133 RX6 yX6_buys wsX6_buys) := goodIn_app (goodIn_of _ (by decide +kernel)) ggL_law_X6_buys
set_option maxRecDepth 20000 in
theorem ggL_law_X7_buys : GoodIn wsL_law wsX7_buys := goodIn_r _ [796, 395, 139, 709, 772, 148, 134, 135, 604, 569, 472, 570, 295, 296, 297, 5, 298, 773, 774, 775, 776, 136, 777, 778, 779, 780, 781, 782, 783, 138, 137, 803, 804, 805, 806, 807, 808, 809, 810, 811, 812, 813, 814, 815, 816, 817, 818, 819, 820, 821, 822, 823, 824, 825, 826, 827, 828, 829, 830, 831, 832, 833, 834, 835, 836, 837, 838, 839, 840, 841, 842, 843, 844] (by decide +kernel) (by decide +kernel)
set_option maxRecDepth 20000 in
theorem gL_law_X7_buys : GoodIn wsL_law (wsV RL 136 RX7 yX7_buys wsX7_buys) := goodIn_app (goodIn_of _ (by decide +kernel)) ggL_law_X7_buys
theorem dL_law_0 : decode cL_law 0 = .ok (.new 7, 3) := by decide +kernel
theorem dL_law_3 : decode cL_law 3 = .ok (.dup, 1) := by decide +kernel
theorem dL_law_4 : decode cL_law 4 = .ok (.invokespecial 9, 3) := by decide +kernel
theorem dL_law_7 : decode cL_law 7 = .ok (.astore_n 1, 1) := by decide +kernel
theorem dL_law_8 : decode cL_law 8 = .ok (.new 10, 3) := by decide +kernel
theorem dL_law_11 : decode cL_law 11 = .ok (.dup, 1) := by decide +kernel
theorem dL_law_12 : decode cL_law 12 = .ok (.invokespecial 12, 3) := by decide +kernel
theorem dL_law_15 : decode cL_law 15 = .ok (.astore_n 2, 1) := by decide +kernel
theorem dL_law_16 : decode cL_law 16 = .ok (.iconst 0, 1) := by decide +kernel
theorem dL_law_17 : decode cL_law 17 = .ok (.istore_n 3, 1) := by decide +kernel
theorem dL_law_18 : decode cL_law 18 = .ok (.iload_n 3, 1) := by decide +kernel
theorem dL_law_19 : decode cL_law 19 = .ok (.aload_n 0, 1) := by decide +kernel
theorem dL_law_20 : decode cL_law 20 = .ok (.arraylength, 1) := by decide +kernel
theorem dL_law_21 : decode cL_law 21 = .ok (.bipush 6, 2) := by decide +kernel
theorem dL_law_23 : decode cL_law 23 = .ok (.isub, 1) := by decide +kernel
theorem dL_law_24 : decode cL_law 24 = .ok (.if_icmp .gt 1152, 3) := by decide +kernel
theorem dL_law_27 : decode cL_law 27 = .ok (.aload_n 0, 1) := by decide +kernel
theorem dL_law_28 : decode cL_law 28 = .ok (.iload_n 3, 1) := by decide +kernel
theorem dL_law_29 : decode cL_law 29 = .ok (.iaload, 1) := by decide +kernel
theorem dL_law_30 : decode cL_law 30 = .ok (.bipush 31, 2) := by decide +kernel
theorem dL_law_32 : decode cL_law 32 = .ok (.iand, 1) := by decide +kernel
theorem dL_law_33 : decode cL_law 33 = .ok (.tableswitch 1137 0 26 #[123, 136, 179, 252, 286, 309, 372, 385, 418, 467, 510, 569, 592, 625, 668, 701, 734, 757, 810, 833, 876, 939, 992, 1015, 1038, 1091, 1104], 123) := by decide +kernel
theorem dL_law_156 : decode cL_law 156 = .ok (.aload_n 1, 1) := by decide +kernel
theorem dL_law_157 : decode cL_law 157 = .ok (.invokevirtual 13, 3) := by decide +kernel
theorem dL_law_160 : decode cL_law 160 = .ok (.aload_n 2, 1) := by decide +kernel
theorem dL_law_161 : decode cL_law 161 = .ok (.invokevirtual 17, 3) := by decide +kernel
theorem dL_law_164 : decode cL_law 164 = .ok (.if_icmp .eq 1006, 3) := by decide +kernel
theorem dL_law_167 : decode cL_law 167 = .ok (.iconst 0, 1) := by decide +kernel
theorem dL_law_168 : decode cL_law 168 = .ok (.ireturn, 1) := by decide +kernel
theorem dL_law_169 : decode cL_law 169 = .ok (.aload_n 1, 1) := by decide +kernel
theorem dL_law_170 : decode cL_law 170 = .ok (.aload_n 0, 1) := by decide +kernel
theorem dL_law_171 : decode cL_law 171 = .ok (.iload_n 3, 1) := by decide +kernel
theorem dL_law_172 : decode cL_law 172 = .ok (.iconst 1, 1) := by decide +kernel
theorem dL_law_173 : decode cL_law 173 = .ok (.iadd, 1) := by decide +kernel
theorem dL_law_174 : decode cL_law 174 = .ok (.iaload, 1) := by decide +kernel
theorem dL_law_175 : decode cL_law 175 = .ok (.aload_n 0, 1) := by decide +kernel
theorem dL_law_176 : decode cL_law 176 = .ok (.iload_n 3, 1) := by decide +kernel
theorem dL_law_177 : decode cL_law 177 = .ok (.iconst 2, 1) := by decide +kernel
theorem dL_law_178 : decode cL_law 178 = .ok (.iadd, 1) := by decide +kernel
theorem dL_law_179 : decode cL_law 179 = .ok (.iaload, 1) := by decide +kernel
theorem dL_law_180 : decode cL_law 180 = .ok (.aload_n 0, 1) := by decide +kernel
theorem dL_law_181 : decode cL_law 181 = .ok (.iload_n 3, 1) := by decide +kernel
theorem dL_law_182 : decode cL_law 182 = .ok (.iconst 3, 1) := by decide +kernel
theorem dL_law_183 : decode cL_law 183 = .ok (.iadd, 1) := by decide +kernel
theorem dL_law_184 : decode cL_law 184 = .ok (.iaload, 1) := by decide +kernel
theorem dL_law_185 : decode cL_law 185 = .ok (.invokevirtual 18, 3) := by decide +kernel
theorem dL_law_188 : decode cL_law 188 = .ok (.aload_n 2, 1) := by decide +kernel
theorem dL_law_189 : decode cL_law 189 = .ok (.aload_n 0, 1) := by decide +kernel
theorem dL_law_190 : decode cL_law 190 = .ok (.iload_n 3, 1) := by decide +kernel
theorem dL_law_191 : decode cL_law 191 = .ok (.iconst 1, 1) := by decide +kernel
theorem dL_law_192 : decode cL_law 192 = .ok (.iadd, 1) := by decide +kernel
theorem dL_law_193 : decode cL_law 193 = .ok (.iaload, 1) := by decide +kernel
theorem dL_law_194 : decode cL_law 194 = .ok (.aload_n 0, 1) := by decide +kernel
theorem dL_law_195 : decode cL_law 195 = .ok (.iload_n 3, 1) := by decide +kernel
theorem dL_law_196 : decode cL_law 196 = .ok (.iconst 2, 1) := by decide +kernel
theorem dL_law_197 : decode cL_law 197 = .ok (.iadd, 1) := by decide +kernel
theorem dL_law_198 : decode cL_law 198 = .ok (.iaload, 1) := by decide +kernel
theorem dL_law_199 : decode cL_law 199 = .ok (.aload_n 0, 1) := by decide +kernel
theorem dL_law_200 : decode cL_law 200 = .ok (.iload_n 3, 1) := by decide +kernel
theorem dL_law_201 : decode cL_law 201 = .ok (.iconst 3, 1) := by decide +kernel
theorem dL_law_202 : decode cL_law 202 = .ok (.iadd, 1) := by decide +kernel
theorem dL_law_203 : decode cL_law 203 = .ok (.iaload, 1) := by decide +kernel
theorem dL_law_204 : decode cL_law 204 = .ok (.invokevirtual 22, 3) := by decide +kernel
theorem dL_law_207 : decode cL_law 207 = .ok (.if_icmp .eq 963, 3) := by decide +kernel
theorem dL_law_210 : decode cL_law 210 = .ok (.iconst 0, 1) := by decide +kernel
theorem dL_law_211 : decode cL_law 211 = .ok (.ireturn, 1) := by decide +kernel
theorem dL_law_212 : decode cL_law 212 = .ok (.aload_n 1, 1) := by decide +kernel
theorem dL_law_213 : decode cL_law 213 = .ok (.aload_n 0, 1) := by decide +kernel
theorem dL_law_214 : decode cL_law 214 = .ok (.iload_n 3, 1) := by decide +kernel
theorem dL_law_215 : decode cL_law 215 = .ok (.iconst 1, 1) := by decide +kernel
theorem dL_law_216 : decode cL_law 216 = .ok (.iadd, 1) := by decide +kernel
theorem dL_law_217 : decode cL_law 217 = .ok (.iaload, 1) := by decide +kernel
theorem dL_law_218 : decode cL_law 218 = .ok (.aload_n 0, 1) := by decide +kernel
theorem dL_law_219 : decode cL_law 219 = .ok (.iload_n 3, 1) := by decide +kernel
theorem dL_law_220 : decode cL_law 220 = .ok (.iconst 2, 1) := by decide +kernel
theorem dL_law_221 : decode cL_law 221 = .ok (.iadd, 1) := by decide +kernel
theorem dL_law_222 : decode cL_law 222 = .ok (.iaload, 1) := by decide +kernel
theorem dL_law_223 : decode cL_law 223 = .ok (.aload_n 0, 1) := by decide +kernel
theorem dL_law_224 : decode cL_law 224 = .ok (.iload_n 3, 1) := by decide +kernel
theorem dL_law_225 : decode cL_law 225 = .ok (.iconst 3, 1) := by decide +kernel
theorem dL_law_226 : decode cL_law 226 = .ok (.iadd, 1) := by decide +kernel
theorem dL_law_227 : decode cL_law 227 = .ok (.iaload, 1) := by decide +kernel
theorem dL_law_228 : decode cL_law 228 = .ok (.i2l, 1) := by decide +kernel
theorem dL_law_229 : decode cL_law 229 = .ok (.bipush 32, 2) := by decide +kernel
theorem dL_law_231 : decode cL_law 231 = .ok (.lshl, 1) := by decide +kernel
theorem dL_law_232 : decode cL_law 232 = .ok (.aload_n 0, 1) := by decide +kernel
theorem dL_law_233 : decode cL_law 233 = .ok (.iload_n 3, 1) := by decide +kernel
theorem dL_law_234 : decode cL_law 234 = .ok (.iconst 4, 1) := by decide +kernel
theorem dL_law_235 : decode cL_law 235 = .ok (.iadd, 1) := by decide +kernel
theorem dL_law_236 : decode cL_law 236 = .ok (.iaload, 1) := by decide +kernel
theorem dL_law_237 : decode cL_law 237 = .ok (.i2l, 1) := by decide +kernel
theorem dL_law_238 : decode cL_law 238 = .ok (.ldc2_w 23, 3) := by decide +kernel
theorem dL_law_241 : decode cL_law 241 = .ok (.land, 1) := by decide +kernel
theorem dL_law_242 : decode cL_law 242 = .ok (.lor, 1) := by decide +kernel
theorem dL_law_243 : decode cL_law 243 = .ok (.invokevirtual 25, 3) := by decide +kernel
theorem dL_law_246 : decode cL_law 246 = .ok (.aload_n 2, 1) := by decide +kernel
theorem dL_law_247 : decode cL_law 247 = .ok (.aload_n 0, 1) := by decide +kernel
theorem dL_law_248 : decode cL_law 248 = .ok (.iload_n 3, 1) := by decide +kernel
theorem dL_law_249 : decode cL_law 249 = .ok (.iconst 1, 1) := by decide +kernel
theorem dL_law_250 : decode cL_law 250 = .ok (.iadd, 1) := by decide +kernel
theorem dL_law_251 : decode cL_law 251 = .ok (.iaload, 1) := by decide +kernel
theorem dL_law_252 : decode cL_law 252 = .ok (.aload_n 0, 1) := by decide +kernel
theorem dL_law_253 : decode cL_law 253 = .ok (.iload_n 3, 1) := by decide +kernel
theorem dL_law_254 : decode cL_law 254 = .ok (.iconst 2, 1) := by decide +kernel
theorem dL_law_255 : decode cL_law 255 = .ok (.iadd, 1) := by decide +kernel
theorem dL_law_256 : decode cL_law 256 = .ok (.iaload, 1) := by decide +kernel
theorem dL_law_257 : decode cL_law 257 = .ok (.aload_n 0, 1) := by decide +kernel
theorem dL_law_258 : decode cL_law 258 = .ok (.iload_n 3, 1) := by decide +kernel
theorem dL_law_259 : decode cL_law 259 = .ok (.iconst 3, 1) := by decide +kernel
theorem dL_law_260 : decode cL_law 260 = .ok (.iadd, 1) := by decide +kernel
theorem dL_law_261 : decode cL_law 261 = .ok (.iaload, 1) := by decide +kernel
theorem dL_law_262 : decode cL_law 262 = .ok (.i2l, 1) := by decide +kernel
theorem dL_law_263 : decode cL_law 263 = .ok (.bipush 32, 2) := by decide +kernel
theorem dL_law_265 : decode cL_law 265 = .ok (.lshl, 1) := by decide +kernel
theorem dL_law_266 : decode cL_law 266 = .ok (.aload_n 0, 1) := by decide +kernel
theorem dL_law_267 : decode cL_law 267 = .ok (.iload_n 3, 1) := by decide +kernel
theorem dL_law_268 : decode cL_law 268 = .ok (.iconst 4, 1) := by decide +kernel
theorem dL_law_269 : decode cL_law 269 = .ok (.iadd, 1) := by decide +kernel
theorem dL_law_270 : decode cL_law 270 = .ok (.iaload, 1) := by decide +kernel
theorem dL_law_271 : decode cL_law 271 = .ok (.i2l, 1) := by decide +kernel
theorem dL_law_272 : decode cL_law 272 = .ok (.ldc2_w 23, 3) := by decide +kernel
theorem dL_law_275 : decode cL_law 275 = .ok (.land, 1) := by decide +kernel
theorem dL_law_276 : decode cL_law 276 = .ok (.lor, 1) := by decide +kernel
theorem dL_law_277 : decode cL_law 277 = .ok (.invokevirtual 29, 3) := by decide +kernel
theorem dL_law_280 : decode cL_law 280 = .ok (.if_icmp .eq 890, 3) := by decide +kernel
theorem dL_law_283 : decode cL_law 283 = .ok (.iconst 0, 1) := by decide +kernel
theorem dL_law_284 : decode cL_law 284 = .ok (.ireturn, 1) := by decide +kernel
theorem dL_law_285 : decode cL_law 285 = .ok (.aload_n 1, 1) := by decide +kernel
theorem dL_law_286 : decode cL_law 286 = .ok (.aload_n 0, 1) := by decide +kernel
theorem dL_law_287 : decode cL_law 287 = .ok (.iload_n 3, 1) := by decide +kernel
theorem dL_law_288 : decode cL_law 288 = .ok (.iconst 1, 1) := by decide +kernel
theorem dL_law_289 : decode cL_law 289 = .ok (.iadd, 1) := by decide +kernel
theorem dL_law_290 : decode cL_law 290 = .ok (.iaload, 1) := by decide +kernel
theorem dL_law_291 : decode cL_law 291 = .ok (.aload_n 0, 1) := by decide +kernel
theorem dL_law_292 : decode cL_law 292 = .ok (.iload_n 3, 1) := by decide +kernel
theorem dL_law_293 : decode cL_law 293 = .ok (.iconst 2, 1) := by decide +kernel
theorem dL_law_294 : decode cL_law 294 = .ok (.iadd, 1) := by decide +kernel
theorem dL_law_295 : decode cL_law 295 = .ok (.iaload, 1) := by decide +kernel
theorem dL_law_296 : decode cL_law 296 = .ok (.invokevirtual 30, 3) := by decide +kernel
theorem dL_law_299 : decode cL_law 299 = .ok (.aload_n 2, 1) := by decide +kernel
theorem dL_law_300 : decode cL_law 300 = .ok (.aload_n 0, 1) := by decide +kernel
theorem dL_law_301 : decode cL_law 301 = .ok (.iload_n 3, 1) := by decide +kernel
theorem dL_law_302 : decode cL_law 302 = .ok (.iconst 1, 1) := by decide +kernel
theorem dL_law_303 : decode cL_law 303 = .ok (.iadd, 1) := by decide +kernel
theorem dL_law_304 : decode cL_law 304 = .ok (.iaload, 1) := by decide +kernel
theorem dL_law_305 : decode cL_law 305 = .ok (.aload_n 0, 1) := by decide +kernel
theorem dL_law_306 : decode cL_law 306 = .ok (.iload_n 3, 1) := by decide +kernel
theorem dL_law_307 : decode cL_law 307 = .ok (.iconst 2, 1) := by decide +kernel
theorem dL_law_308 : decode cL_law 308 = .ok (.iadd, 1) := by decide +kernel
theorem dL_law_309 : decode cL_law 309 = .ok (.iaload, 1) := by decide +kernel
theorem dL_law_310 : decode cL_law 310 = .ok (.invokevirtual 34, 3) := by decide +kernel
theorem dL_law_313 : decode cL_law 313 = .ok (.lcmp, 1) := by decide +kernel
theorem dL_law_314 : decode cL_law 314 = .ok (.ifCond .eq 856, 3) := by decide +kernel
theorem dL_law_317 : decode cL_law 317 = .ok (.iconst 0, 1) := by decide +kernel
theorem dL_law_318 : decode cL_law 318 = .ok (.ireturn, 1) := by decide +kernel
theorem dL_law_319 : decode cL_law 319 = .ok (.aload_n 1, 1) := by decide +kernel
theorem dL_law_320 : decode cL_law 320 = .ok (.aload_n 0, 1) := by decide +kernel
theorem dL_law_321 : decode cL_law 321 = .ok (.iload_n 3, 1) := by decide +kernel
theorem dL_law_322 : decode cL_law 322 = .ok (.iconst 1, 1) := by decide +kernel
theorem dL_law_323 : decode cL_law 323 = .ok (.iadd, 1) := by decide +kernel
theorem dL_law_324 : decode cL_law 324 = .ok (.iaload, 1) := by decide +kernel
theorem dL_law_325 : decode cL_law 325 = .ok (.invokevirtual 35, 3) := by decide +kernel
theorem dL_law_328 : decode cL_law 328 = .ok (.aload_n 2, 1) := by decide +kernel
theorem dL_law_329 : decode cL_law 329 = .ok (.aload_n 0, 1) := by decide +kernel
theorem dL_law_330 : decode cL_law 330 = .ok (.iload_n 3, 1) := by decide +kernel
theorem dL_law_331 : decode cL_law 331 = .ok (.iconst 1, 1) := by decide +kernel
theorem dL_law_332 : decode cL_law 332 = .ok (.iadd, 1) := by decide +kernel
theorem dL_law_333 : decode cL_law 333 = .ok (.iaload, 1) := by decide +kernel
theorem dL_law_334 : decode cL_law 334 = .ok (.invokevirtual 39, 3) := by decide +kernel
theorem dL_law_337 : decode cL_law 337 = .ok (.if_icmp .eq 833, 3) := by decide +kernel
theorem dL_law_340 : decode cL_law 340 = .ok (.iconst 0, 1) := by decide +kernel
theorem dL_law_341 : decode cL_law 341 = .ok (.ireturn, 1) := by decide +kernel
theorem dL_law_342 : decode cL_law 342 = .ok (.aload_n 1, 1) := by decide +kernel
theorem dL_law_343 : decode cL_law 343 = .ok (.aload_n 0, 1) := by decide +kernel
theorem dL_law_344 : decode cL_law 344 = .ok (.iload_n 3, 1) := by decide +kernel
theorem dL_law_345 : decode cL_law 345 = .ok (.iconst 1, 1) := by decide +kernel
theorem dL_law_346 : decode cL_law 346 = .ok (.iadd, 1) := by decide +kernel
theorem dL_law_347 : decode cL_law 347 = .ok (.iaload, 1) := by decide +kernel
theorem dL_law_348 : decode cL_law 348 = .ok (.aload_n 0, 1) := by decide +kernel
theorem dL_law_349 : decode cL_law 349 = .ok (.iload_n 3, 1) := by decide +kernel
theorem dL_law_350 : decode cL_law 350 = .ok (.iconst 2, 1) := by decide +kernel
theorem dL_law_351 : decode cL_law 351 = .ok (.iadd, 1) := by decide +kernel
theorem dL_law_352 : decode cL_law 352 = .ok (.iaload, 1) := by decide +kernel
theorem dL_law_353 : decode cL_law 353 = .ok (.aload_n 0, 1) := by decide +kernel
theorem dL_law_354 : decode cL_law 354 = .ok (.iload_n 3, 1) := by decide +kernel
theorem dL_law_355 : decode cL_law 355 = .ok (.iconst 3, 1) := by decide +kernel
theorem dL_law_356 : decode cL_law 356 = .ok (.iadd, 1) := by decide +kernel
theorem dL_law_357 : decode cL_law 357 = .ok (.iaload, 1) := by decide +kernel
theorem dL_law_358 : decode cL_law 358 = .ok (.aload_n 0, 1) := by decide +kernel
theorem dL_law_359 : decode cL_law 359 = .ok (.iload_n 3, 1) := by decide +kernel
theorem dL_law_360 : decode cL_law 360 = .ok (.iconst 4, 1) := by decide +kernel
theorem dL_law_361 : decode cL_law 361 = .ok (.iadd, 1) := by decide +kernel
theorem dL_law_362 : decode cL_law 362 = .ok (.iaload, 1) := by decide +kernel
theorem dL_law_363 : decode cL_law 363 = .ok (.aload_n 0, 1) := by decide +kernel
theorem dL_law_364 : decode cL_law 364 = .ok (.iload_n 3, 1) := by decide +kernel
theorem dL_law_365 : decode cL_law 365 = .ok (.iconst 5, 1) := by decide +kernel
theorem dL_law_366 : decode cL_law 366 = .ok (.iadd, 1) := by decide +kernel
theorem dL_law_367 : decode cL_law 367 = .ok (.iaload, 1) := by decide +kernel
theorem dL_law_368 : decode cL_law 368 = .ok (.invokevirtual 40, 3) := by decide +kernel
theorem dL_law_371 : decode cL_law 371 = .ok (.aload_n 2, 1) := by decide +kernel
theorem dL_law_372 : decode cL_law 372 = .ok (.aload_n 0, 1) := by decide +kernel
theorem dL_law_373 : decode cL_law 373 = .ok (.iload_n 3, 1) := by decide +kernel
theorem dL_law_374 : decode cL_law 374 = .ok (.iconst 1, 1) := by decide +kernel
theorem dL_law_375 : decode cL_law 375 = .ok (.iadd, 1) := by decide +kernel
theorem dL_law_376 : decode cL_law 376 = .ok (.iaload, 1) := by decide +kernel
theorem dL_law_377 : decode cL_law 377 = .ok (.aload_n 0, 1) := by decide +kernel
theorem dL_law_378 : decode cL_law 378 = .ok (.iload_n 3, 1) := by decide +kernel
theorem dL_law_379 : decode cL_law 379 = .ok (.iconst 2, 1) := by decide +kernel
theorem dL_law_380 : decode cL_law 380 = .ok (.iadd, 1) := by decide +kernel
theorem dL_law_381 : decode cL_law 381 = .ok (.iaload, 1) := by decide +kernel
theorem dL_law_382 : decode cL_law 382 = .ok (.aload_n 0, 1) := by decide +kernel
theorem dL_law_383 : decode cL_law 383 = .ok (.iload_n 3, 1) := by decide +kernel
theorem dL_law_384 : decode cL_law 384 = .ok (.iconst 3, 1) := by decide +kernel
theorem dL_law_385 : decode cL_law 385 = .ok (.iadd, 1) := by decide +kernel
theorem dL_law_386 : decode cL_law 386 = .ok (.iaload, 1) := by decide +kernel
theorem dL_law_387 : decode cL_law 387 = .ok (.aload_n 0, 1) := by decide +kernel
theorem dL_law_388 : decode cL_law 388 = .ok (.iload_n 3, 1) := by decide +kernel
theorem dL_law_389 : decode cL_law 389 = .ok (.iconst 4, 1) := by decide +kernel
theorem dL_law_390 : decode cL_law 390 = .ok (.iadd, 1) := by decide +kernel
theorem dL_law_391 : decode cL_law 391 = .ok (.iaload, 1) := by decide +kernel
theorem dL_law_392 : decode cL_law 392 = .ok (.aload_n 0, 1) := by decide +kernel
theorem dL_law_393 : decode cL_law 393 = .ok (.iload_n 3, 1) := by decide +kernel
theorem dL_law_394 : decode cL_law 394 = .ok (.iconst 5, 1) := by decide +kernel
theorem dL_law_395 : decode cL_law 395 = .ok (.iadd, 1) := by decide +kernel
theorem dL_law_396 : decode cL_law 396 = .ok (.iaload, 1) := by decide +kernel
theorem dL_law_397 : decode cL_law 397 = .ok (.invokevirtual 44, 3) := by decide +kernel
theorem dL_law_400 : decode cL_law 400 = .ok (.if_icmp .eq 770, 3) := by decide +kernel
theorem dL_law_403 : decode cL_law 403 = .ok (.iconst 0, 1) := by decide +kernel
theorem dL_law_404 : decode cL_law 404 = .ok (.ireturn, 1) := by decide +kernel
theorem dL_law_405 : decode cL_law 405 = .ok (.aload_n 1, 1) := by decide +kernel
theorem dL_law_406 : decode cL_law 406 = .ok (.invokevirtual 45, 3) := by decide +kernel
theorem dL_law_409 : decode cL_law 409 = .ok (.aload_n 2, 1) := by decide +kernel
theorem dL_law_410 : decode cL_law 410 = .ok (.invokevirtual 49, 3) := by decide +kernel
theorem dL_law_413 : decode cL_law 413 = .ok (.if_icmp .eq 757, 3) := by decide +kernel
theorem dL_law_416 : decode cL_law 416 = .ok (.iconst 0, 1) := by decide +kernel
theorem dL_law_417 : decode cL_law 417 = .ok (.ireturn, 1) := by decide +kernel
theorem dL_law_418 : decode cL_law 418 = .ok (.aload_n 1, 1) := by decide +kernel
theorem dL_law_419 : decode cL_law 419 = .ok (.aload_n 0, 1) := by decide +kernel
theorem dL_law_420 : decode cL_law 420 = .ok (.iload_n 3, 1) := by decide +kernel
theorem dL_law_421 : decode cL_law 421 = .ok (.iconst 1, 1) := by decide +kernel
theorem dL_law_422 : decode cL_law 422 = .ok (.iadd, 1) := by decide +kernel
theorem dL_law_423 : decode cL_law 423 = .ok (.iaload, 1) := by decide +kernel
theorem dL_law_424 : decode cL_law 424 = .ok (.aload_n 0, 1) := by decide +kernel
theorem dL_law_425 : decode cL_law 425 = .ok (.iload_n 3, 1) := by decide +kernel
theorem dL_law_426 : decode cL_law 426 = .ok (.iconst 2, 1) := by decide +kernel
theorem dL_law_427 : decode cL_law 427 = .ok (.iadd, 1) := by decide +kernel
theorem dL_law_428 : decode cL_law 428 = .ok (.iaload, 1) := by decide +kernel
theorem dL_law_429 : decode cL_law 429 = .ok (.invokevirtual 50, 3) := by decide +kernel
theorem dL_law_432 : decode cL_law 432 = .ok (.aload_n 2, 1) := by decide +kernel
theorem dL_law_433 : decode cL_law 433 = .ok (.aload_n 0, 1) := by decide +kernel
theorem dL_law_434 : decode cL_law 434 = .ok (.iload_n 3, 1) := by decide +kernel
theorem dL_law_435 : decode cL_law 435 = .ok (.iconst 1, 1) := by decide +kernel
theorem dL_law_436 : decode cL_law 436 = .ok (.iadd, 1) := by decide +kernel
theorem dL_law_437 : decode cL_law 437 = .ok (.iaload, 1) := by decide +kernel
theorem dL_law_438 : decode cL_law 438 = .ok (.aload_n 0, 1) := by decide +kernel
theorem dL_law_439 : decode cL_law 439 = .ok (.iload_n 3, 1) := by decide +kernel
theorem dL_law_440 : decode cL_law 440 = .ok (.iconst 2, 1) := by decide +kernel
theorem dL_law_441 : decode cL_law 441 = .ok (.iadd, 1) := by decide +kernel
theorem dL_law_442 : decode cL_law 442 = .ok (.iaload, 1) := by decide +kernel
theorem dL_law_443 : decode cL_law 443 = .ok (.invokevirtual 54, 3) := by decide +kernel
theorem dL_law_446 : decode cL_law 446 = .ok (.if_icmp .eq 724, 3) := by decide +kernel
theorem dL_law_449 : decode cL_law 449 = .ok (.iconst 0, 1) := by decide +kernel
theorem dL_law_450 : decode cL_law 450 = .ok (.ireturn, 1) := by decide +kernel
theorem dL_law_451 : decode cL_law 451 = .ok (.aload_n 1, 1) := by decide +kernel
theorem dL_law_452 : decode cL_law 452 = .ok (.aload_n 0, 1) := by decide +kernel
theorem dL_law_453 : decode cL_law 453 = .ok (.iload_n 3, 1) := by decide +kernel
theorem dL_law_454 : decode cL_law 454 = .ok (.iconst 1, 1) := by decide +kernel
theorem dL_law_455 : decode cL_law 455 = .ok (.iadd, 1) := by decide +kernel
theorem dL_law_456 : decode cL_law 456 = .ok (.iaload, 1) := by decide +kernel
theorem dL_law_457 : decode cL_law 457 = .ok (.aload_n 0, 1) := by decide +kernel
theorem dL_law_458 : decode cL_law 458 = .ok (.iload_n 3, 1) := by decide +kernel
theorem dL_law_459 : decode cL_law 459 = .ok (.iconst 2, 1) := by decide +kernel
theorem dL_law_460 : decode cL_law 460 = .ok (.iadd, 1) := by decide +kernel
theorem dL_law_461 : decode cL_law 461 = .ok (.iaload, 1) := by decide +kernel
theorem dL_law_462 : decode cL_law 462 = .ok (.ifCond .eq 7, 3) := by decide +kernel
theorem dL_law_465 : decode cL_law 465 = .ok (.iconst 1, 1) := by decide +kernel
theorem dL_law_466 : decode cL_law 466 = .ok (.goto 4, 3) := by decide +kernel
theorem dL_law_469 : decode cL_law 469 = .ok (.iconst 0, 1) := by decide +kernel
theorem dL_law_470 : decode cL_law 470 = .ok (.invokevirtual 55, 3) := by decide +kernel
theorem dL_law_473 : decode cL_law 473 = .ok (.aload_n 2, 1) := by decide +kernel
theorem dL_law_474 : decode cL_law 474 = .ok (.aload_n 0, 1) := by decide +kernel
theorem dL_law_475 : decode cL_law 475 = .ok (.iload_n 3, 1) := by decide +kernel
theorem dL_law_476 : decode cL_law 476 = .ok (.iconst 1, 1) := by decide +kernel
theorem dL_law_477 : decode cL_law 477 = .ok (.iadd, 1) := by decide +kernel
theorem dL_law_478 : decode cL_law 478 = .ok (.iaload, 1) := by decide +kernel
theorem dL_law_479 : decode cL_law 479 = .ok (.aload_n 0, 1) := by decide +kernel
theorem dL_law_480 : decode cL_law 480 = .ok (.iload_n 3, 1) := by decide +kernel
theorem dL_law_481 : decode cL_law 481 = .ok (.iconst 2, 1) := by decide +kernel
theorem dL_law_482 : decode cL_law 482 = .ok (.iadd, 1) := by decide +kernel
theorem dL_law_483 : decode cL_law 483 = .ok (.iaload, 1) := by decide +kernel
theorem dL_law_484 : decode cL_law 484 = .ok (.ifCond .eq 7, 3) := by decide +kernel
theorem dL_law_487 : decode cL_law 487 = .ok (.iconst 1, 1) := by decide +kernel
theorem dL_law_488 : decode cL_law 488 = .ok (.goto 4, 3) := by decide +kernel
theorem dL_law_491 : decode cL_law 491 = .ok (.iconst 0, 1) := by decide +kernel
theorem dL_law_492 : decode cL_law 492 = .ok (.invokevirtual 59, 3) := by decide +kernel
theorem dL_law_495 : decode cL_law 495 = .ok (.if_icmp .eq 675, 3) := by decide +kernel
theorem dL_law_498 : decode cL_law 498 = .ok (.iconst 0, 1) := by decide +kernel
theorem dL_law_499 : decode cL_law 499 = .ok (.ireturn, 1) := by decide +kernel
theorem dL_law_500 : decode cL_law 500 = .ok (.aload_n 1, 1) := by decide +kernel
theorem dL_law_501 : decode cL_law 501 = .ok (.aload_n 0, 1) := by decide +kernel
theorem dL_law_502 : decode cL_law 502 = .ok (.iload_n 3, 1) := by decide +kernel
theorem dL_law_503 : decode cL_law 503 = .ok (.iconst 1, 1) := by decide +kernel
theorem dL_law_504 : decode cL_law 504 = .ok (.iadd, 1) := by decide +kernel
theorem dL_law_505 : decode cL_law 505 = .ok (.iaload, 1) := by decide +kernel
theorem dL_law_506 : decode cL_law 506 = .ok (.aload_n 0, 1) := by decide +kernel
theorem dL_law_507 : decode cL_law 507 = .ok (.iload_n 3, 1) := by decide +kernel
theorem dL_law_508 : decode cL_law 508 = .ok (.iconst 2, 1) := by decide +kernel
theorem dL_law_509 : decode cL_law 509 = .ok (.iadd, 1) := by decide +kernel
theorem dL_law_510 : decode cL_law 510 = .ok (.iaload, 1) := by decide +kernel
theorem dL_law_511 : decode cL_law 511 = .ok (.aload_n 0, 1) := by decide +kernel
theorem dL_law_512 : decode cL_law 512 = .ok (.iload_n 3, 1) := by decide +kernel
theorem dL_law_513 : decode cL_law 513 = .ok (.iconst 3, 1) := by decide +kernel
theorem dL_law_514 : decode cL_law 514 = .ok (.iadd, 1) := by decide +kernel
theorem dL_law_515 : decode cL_law 515 = .ok (.iaload, 1) := by decide +kernel
theorem dL_law_516 : decode cL_law 516 = .ok (.invokevirtual 60, 3) := by decide +kernel
theorem dL_law_519 : decode cL_law 519 = .ok (.aload_n 2, 1) := by decide +kernel
theorem dL_law_520 : decode cL_law 520 = .ok (.aload_n 0, 1) := by decide +kernel
theorem dL_law_521 : decode cL_law 521 = .ok (.iload_n 3, 1) := by decide +kernel
theorem dL_law_522 : decode cL_law 522 = .ok (.iconst 1, 1) := by decide +kernel
theorem dL_law_523 : decode cL_law 523 = .ok (.iadd, 1) := by decide +kernel
theorem dL_law_524 : decode cL_law 524 = .ok (.iaload, 1) := by decide +kernel
theorem dL_law_525 : decode cL_law 525 = .ok (.aload_n 0, 1) := by decide +kernel
theorem dL_law_526 : decode cL_law 526 = .ok (.iload_n 3, 1) := by decide +kernel
theorem dL_law_527 : decode cL_law 527 = .ok (.iconst 2, 1) := by decide +kernel
theorem dL_law_528 : decode cL_law 528 = .ok (.iadd, 1) := by decide +kernel
theorem dL_law_529 : decode cL_law 529 = .ok (.iaload, 1) := by decide +kernel
theorem dL_law_530 : decode cL_law 530 = .ok (.aload_n 0, 1) := by decide +kernel
theorem dL_law_531 : decode cL_law 531 = .ok (.iload_n 3, 1) := by decide +kernel
theorem dL_law_532 : decode cL_law 532 = .ok (.iconst 3, 1) := by decide +kernel
theorem dL_law_533 : decode cL_law 533 = .ok (.iadd, 1) := by decide +kernel
theorem dL_law_534 : decode cL_law 534 = .ok (.iaload, 1) := by decide +kernel
theorem dL_law_535 : decode cL_law 535 = .ok (.invokevirtual 64, 3) := by decide +kernel
theorem dL_law_538 : decode cL_law 538 = .ok (.if_icmp .eq 632, 3) := by decide +kernel
theorem dL_law_541 : decode cL_law 541 = .ok (.iconst 0, 1) := by decide +kernel
theorem dL_law_542 : decode cL_law 542 = .ok (.ireturn, 1) := by decide +kernel
theorem dL_law_543 : decode cL_law 543 = .ok (.aload_n 1, 1) := by decide +kernel
theorem dL_law_544 : decode cL_law 544 = .ok (.aload_n 0, 1) := by decide +kernel
theorem dL_law_545 : decode cL_law 545 = .ok (.iload_n 3, 1) := by decide +kernel
theorem dL_law_546 : decode cL_law 546 = .ok (.iconst 1, 1) := by decide +kernel
theorem dL_law_547 : decode cL_law 547 = .ok (.iadd, 1) := by decide +kernel
theorem dL_law_548 : decode cL_law 548 = .ok (.iaload, 1) := by decide +kernel
theorem dL_law_549 : decode cL_law 549 = .ok (.aload_n 0, 1) := by decide +kernel
theorem dL_law_550 : decode cL_law 550 = .ok (.iload_n 3, 1) := by decide +kernel
theorem dL_law_551 : decode cL_law 551 = .ok (.iconst 2, 1) := by decide +kernel
theorem dL_law_552 : decode cL_law 552 = .ok (.iadd, 1) := by decide +kernel
theorem dL_law_553 : decode cL_law 553 = .ok (.iaload, 1) := by decide +kernel
theorem dL_law_554 : decode cL_law 554 = .ok (.aload_n 0, 1) := by decide +kernel
theorem dL_law_555 : decode cL_law 555 = .ok (.iload_n 3, 1) := by decide +kernel
theorem dL_law_556 : decode cL_law 556 = .ok (.iconst 3, 1) := by decide +kernel
theorem dL_law_557 : decode cL_law 557 = .ok (.iadd, 1) := by decide +kernel
theorem dL_law_558 : decode cL_law 558 = .ok (.iaload, 1) := by decide +kernel
theorem dL_law_559 : decode cL_law 559 = .ok (.ifCond .eq 7, 3) := by decide +kernel
theorem dL_law_562 : decode cL_law 562 = .ok (.iconst 1, 1) := by decide +kernel
theorem dL_law_563 : decode cL_law 563 = .ok (.goto 4, 3) := by decide +kernel
theorem dL_law_566 : decode cL_law 566 = .ok (.iconst 0, 1) := by decide +kernel
theorem dL_law_567 : decode cL_law 567 = .ok (.invokevirtual 65, 3) := by decide +kernel
theorem dL_law_570 : decode cL_law 570 = .ok (.aload_n 2, 1) := by decide +kernel
theorem dL_law_571 : decode cL_law 571 = .ok (.aload_n 0, 1) := by decide +kernel
theorem dL_law_572 : decode cL_law 572 = .ok (.iload_n 3, 1) := by decide +kernel
theorem dL_law_573 : decode cL_law 573 = .ok (.iconst 1, 1) := by decide +kernel
theorem dL_law_574 : decode cL_law 574 = .ok (.iadd, 1) := by decide +kernel
theorem dL_law_575 : decode cL_law 575 = .ok (.iaload, 1) := by decide +kernel
theorem dL_law_576 : decode cL_law 576 = .ok (.aload_n 0, 1) := by decide +kernel
theorem dL_law_577 : decode cL_law 577 = .ok (.iload_n 3, 1) := by decide +kernel
theorem dL_law_578 : decode cL_law 578 = .ok (.iconst 2, 1) := by decide +kernel
theorem dL_law_579 : decode cL_law 579 = .ok (.iadd, 1) := by decide +kernel
theorem dL_law_580 : decode cL_law 580 = .ok (.iaload, 1) := by decide +kernel
theorem dL_law_581 : decode cL_law 581 = .ok (.aload_n 0, 1) := by decide +kernel
theorem dL_law_582 : decode cL_law 582 = .ok (.iload_n 3, 1) := by decide +kernel
theorem dL_law_583 : decode cL_law 583 = .ok (.iconst 3, 1) := by decide +kernel
theorem dL_law_584 : decode cL_law 584 = .ok (.iadd, 1) := by decide +kernel
theorem dL_law_585 : decode cL_law 585 = .ok (.iaload, 1) := by decide +kernel
theorem dL_law_586 : decode cL_law 586 = .ok (.ifCond .eq 7, 3) := by decide +kernel
theorem dL_law_589 : decode cL_law 589 = .ok (.iconst 1, 1) := by decide +kernel
theorem dL_law_590 : decode cL_law 590 = .ok (.goto 4, 3) := by decide +kernel
theorem dL_law_593 : decode cL_law 593 = .ok (.iconst 0, 1) := by decide +kernel
theorem dL_law_594 : decode cL_law 594 = .ok (.invokevirtual 69, 3) := by decide +kernel
theorem dL_law_597 : decode cL_law 597 = .ok (.if_icmp .eq 573, 3) := by decide +kernel
theorem dL_law_600 : decode cL_law 600 = .ok (.iconst 0, 1) := by decide +kernel
theorem dL_law_601 : decode cL_law 601 = .ok (.ireturn, 1) := by decide +kernel
theorem dL_law_602 : decode cL_law 602 = .ok (.aload_n 1, 1) := by decide +kernel
theorem dL_law_603 : decode cL_law 603 = .ok (.aload_n 0, 1) := by decide +kernel
theorem dL_law_604 : decode cL_law 604 = .ok (.iload_n 3, 1) := by decide +kernel
theorem dL_law_605 : decode cL_law 605 = .ok (.iconst 1, 1) := by decide +kernel
theorem dL_law_606 : decode cL_law 606 = .ok (.iadd, 1) := by decide +kernel
theorem dL_law_607 : decode cL_law 607 = .ok (.iaload, 1) := by decide +kernel
theorem dL_law_608 : decode cL_law 608 = .ok (.invokevirtual 70, 3) := by decide +kernel
theorem dL_law_611 : decode cL_law 611 = .ok (.aload_n 2, 1) := by decide +kernel
theorem dL_law_612 : decode cL_law 612 = .ok (.aload_n 0, 1) := by decide +kernel
theorem dL_law_613 : decode cL_law 613 = .ok (.iload_n 3, 1) := by decide +kernel
theorem dL_law_614 : decode cL_law 614 = .ok (.iconst 1, 1) := by decide +kernel
theorem dL_law_615 : decode cL_law 615 = .ok (.iadd, 1) := by decide +kernel
theorem dL_law_616 : decode cL_law 616 = .ok (.iaload, 1) := by decide +kernel
theorem dL_law_617 : decode cL_law 617 = .ok (.invokevirtual 74, 3) := by decide +kernel
theorem dL_law_620 : decode cL_law 620 = .ok (.if_icmp .eq 550, 3) := by decide +kernel
theorem dL_law_623 : decode cL_law 623 = .ok (.iconst 0, 1) := by decide +kernel
theorem dL_law_624 : decode cL_law 624 = .ok (.ireturn, 1) := by decide +kernel
theorem dL_law_625 : decode cL_law 625 = .ok (.aload_n 1, 1) := by decide +kernel
theorem dL_law_626 : decode cL_law 626 = .ok (.aload_n 0, 1) := by decide +kernel
theorem dL_law_627 : decode cL_law 627 = .ok (.iload_n 3, 1) := by decide +kernel
theorem dL_law_628 : decode cL_law 628 = .ok (.iconst 1, 1) := by decide +kernel
theorem dL_law_629 : decode cL_law 629 = .ok (.iadd, 1) := by decide +kernel
theorem dL_law_630 : decode cL_law 630 = .ok (.iaload, 1) := by decide +kernel
theorem dL_law_631 : decode cL_law 631 = .ok (.aload_n 0, 1) := by decide +kernel
theorem dL_law_632 : decode cL_law 632 = .ok (.iload_n 3, 1) := by decide +kernel
theorem dL_law_633 : decode cL_law 633 = .ok (.iconst 2, 1) := by decide +kernel
theorem dL_law_634 : decode cL_law 634 = .ok (.iadd, 1) := by decide +kernel
theorem dL_law_635 : decode cL_law 635 = .ok (.iaload, 1) := by decide +kernel
theorem dL_law_636 : decode cL_law 636 = .ok (.invokevirtual 75, 3) := by decide +kernel
theorem dL_law_639 : decode cL_law 639 = .ok (.aload_n 2, 1) := by decide +kernel
theorem dL_law_640 : decode cL_law 640 = .ok (.aload_n 0, 1) := by decide +kernel
theorem dL_law_641 : decode cL_law 641 = .ok (.iload_n 3, 1) := by decide +kernel
theorem dL_law_642 : decode cL_law 642 = .ok (.iconst 1, 1) := by decide +kernel
theorem dL_law_643 : decode cL_law 643 = .ok (.iadd, 1) := by decide +kernel
theorem dL_law_644 : decode cL_law 644 = .ok (.iaload, 1) := by decide +kernel
theorem dL_law_645 : decode cL_law 645 = .ok (.aload_n 0, 1) := by decide +kernel
theorem dL_law_646 : decode cL_law 646 = .ok (.iload_n 3, 1) := by decide +kernel
theorem dL_law_647 : decode cL_law 647 = .ok (.iconst 2, 1) := by decide +kernel
theorem dL_law_648 : decode cL_law 648 = .ok (.iadd, 1) := by decide +kernel
theorem dL_law_649 : decode cL_law 649 = .ok (.iaload, 1) := by decide +kernel
theorem dL_law_650 : decode cL_law 650 = .ok (.invokevirtual 78, 3) := by decide +kernel
theorem dL_law_653 : decode cL_law 653 = .ok (.if_icmp .eq 517, 3) := by decide +kernel
theorem dL_law_656 : decode cL_law 656 = .ok (.iconst 0, 1) := by decide +kernel
theorem dL_law_657 : decode cL_law 657 = .ok (.ireturn, 1) := by decide +kernel
theorem dL_law_658 : decode cL_law 658 = .ok (.aload_n 1, 1) := by decide +kernel
theorem dL_law_659 : decode cL_law 659 = .ok (.aload_n 0, 1) := by decide +kernel
theorem dL_law_660 : decode cL_law 660 = .ok (.iload_n 3, 1) := by decide +kernel
theorem dL_law_661 : decode cL_law 661 = .ok (.iconst 1, 1) := by decide +kernel
theorem dL_law_662 : decode cL_law 662 = .ok (.iadd, 1) := by decide +kernel
theorem dL_law_663 : decode cL_law 663 = .ok (.iaload, 1) := by decide +kernel
theorem dL_law_664 : decode cL_law 664 = .ok (.aload_n 0, 1) := by decide +kernel
theorem dL_law_665 : decode cL_law 665 = .ok (.iload_n 3, 1) := by decide +kernel
theorem dL_law_666 : decode cL_law 666 = .ok (.iconst 2, 1) := by decide +kernel
theorem dL_law_667 : decode cL_law 667 = .ok (.iadd, 1) := by decide +kernel
theorem dL_law_668 : decode cL_law 668 = .ok (.iaload, 1) := by decide +kernel
theorem dL_law_669 : decode cL_law 669 = .ok (.aload_n 0, 1) := by decide +kernel
theorem dL_law_670 : decode cL_law 670 = .ok (.iload_n 3, 1) := by decide +kernel
theorem dL_law_671 : decode cL_law 671 = .ok (.iconst 3, 1) := by decide +kernel
theorem dL_law_672 : decode cL_law 672 = .ok (.iadd, 1) := by decide +kernel
theorem dL_law_673 : decode cL_law 673 = .ok (.iaload, 1) := by decide +kernel
theorem dL_law_674 : decode cL_law 674 = .ok (.invokevirtual 79, 3) := by decide +kernel
theorem dL_law_677 : decode cL_law 677 = .ok (.aload_n 2, 1) := by decide +kernel
theorem dL_law_678 : decode cL_law 678 = .ok (.aload_n 0, 1) := by decide +kernel
theorem dL_law_679 : decode cL_law 679 = .ok (.iload_n 3, 1) := by decide +kernel
theorem dL_law_680 : decode cL_law 680 = .ok (.iconst 1, 1) := by decide +kernel
theorem dL_law_681 : decode cL_law 681 = .ok (.iadd, 1) := by decide +kernel
theorem dL_law_682 : decode cL_law 682 = .ok (.iaload, 1) := by decide +kernel
theorem dL_law_683 : decode cL_law 683 = .ok (.aload_n 0, 1) := by decide +kernel
theorem dL_law_684 : decode cL_law 684 = .ok (.iload_n 3, 1) := by decide +kernel
theorem dL_law_685 : decode cL_law 685 = .ok (.iconst 2, 1) := by decide +kernel
theorem dL_law_686 : decode cL_law 686 = .ok (.iadd, 1) := by decide +kernel
theorem dL_law_687 : decode cL_law 687 = .ok (.iaload, 1) := by decide +kernel
theorem dL_law_688 : decode cL_law 688 = .ok (.aload_n 0, 1) := by decide +kernel
theorem dL_law_689 : decode cL_law 689 = .ok (.iload_n 3, 1) := by decide +kernel
theorem dL_law_690 : decode cL_law 690 = .ok (.iconst 3, 1) := by decide +kernel
theorem dL_law_691 : decode cL_law 691 = .ok (.iadd, 1) := by decide +kernel
theorem dL_law_692 : decode cL_law 692 = .ok (.iaload, 1) := by decide +kernel
theorem dL_law_693 : decode cL_law 693 = .ok (.invokevirtual 82, 3) := by decide +kernel
theorem dL_law_696 : decode cL_law 696 = .ok (.if_icmp .eq 474, 3) := by decide +kernel
theorem dL_law_699 : decode cL_law 699 = .ok (.iconst 0, 1) := by decide +kernel
theorem dL_law_700 : decode cL_law 700 = .ok (.ireturn, 1) := by decide +kernel
theorem dL_law_701 : decode cL_law 701 = .ok (.aload_n 1, 1) := by decide +kernel
theorem dL_law_702 : decode cL_law 702 = .ok (.aload_n 0, 1) := by decide +kernel
theorem dL_law_703 : decode cL_law 703 = .ok (.iload_n 3, 1) := by decide +kernel
theorem dL_law_704 : decode cL_law 704 = .ok (.iconst 1, 1) := by decide +kernel
theorem dL_law_705 : decode cL_law 705 = .ok (.iadd, 1) := by decide +kernel
theorem dL_law_706 : decode cL_law 706 = .ok (.iaload, 1) := by decide +kernel
theorem dL_law_707 : decode cL_law 707 = .ok (.aload_n 0, 1) := by decide +kernel
theorem dL_law_708 : decode cL_law 708 = .ok (.iload_n 3, 1) := by decide +kernel
theorem dL_law_709 : decode cL_law 709 = .ok (.iconst 2, 1) := by decide +kernel
theorem dL_law_710 : decode cL_law 710 = .ok (.iadd, 1) := by decide +kernel
theorem dL_law_711 : decode cL_law 711 = .ok (.iaload, 1) := by decide +kernel
theorem dL_law_712 : decode cL_law 712 = .ok (.invokevirtual 83, 3) := by decide +kernel
theorem dL_law_715 : decode cL_law 715 = .ok (.aload_n 2, 1) := by decide +kernel
theorem dL_law_716 : decode cL_law 716 = .ok (.aload_n 0, 1) := by decide +kernel
theorem dL_law_717 : decode cL_law 717 = .ok (.iload_n 3, 1) := by decide +kernel
theorem dL_law_718 : decode cL_law 718 = .ok (.iconst 1, 1) := by decide +kernel
theorem dL_law_719 : decode cL_law 719 = .ok (.iadd, 1) := by decide +kernel
theorem dL_law_720 : decode cL_law 720 = .ok (.iaload, 1) := by decide +kernel
theorem dL_law_721 : decode cL_law 721 = .ok (.aload_n 0, 1) := by decide +kernel
theorem dL_law_722 : decode cL_law 722 = .ok (.iload_n 3, 1) := by decide +kernel
theorem dL_law_723 : decode cL_law 723 = .ok (.iconst 2, 1) := by decide +kernel
theorem dL_law_724 : decode cL_law 724 = .ok (.iadd, 1) := by decide +kernel
theorem dL_law_725 : decode cL_law 725 = .ok (.iaload, 1) := by decide +kernel
theorem dL_law_726 : decode cL_law 726 = .ok (.invokevirtual 86, 3) := by decide +kernel
theorem dL_law_729 : decode cL_law 729 = .ok (.if_icmp .eq 441, 3) := by decide +kernel
theorem dL_law_732 : decode cL_law 732 = .ok (.iconst 0, 1) := by decide +kernel
theorem dL_law_733 : decode cL_law 733 = .ok (.ireturn, 1) := by decide +kernel
theorem dL_law_734 : decode cL_law 734 = .ok (.aload_n 1, 1) := by decide +kernel
theorem dL_law_735 : decode cL_law 735 = .ok (.aload_n 0, 1) := by decide +kernel
theorem dL_law_736 : decode cL_law 736 = .ok (.iload_n 3, 1) := by decide +kernel
theorem dL_law_737 : decode cL_law 737 = .ok (.iconst 1, 1) := by decide +kernel
theorem dL_law_738 : decode cL_law 738 = .ok (.iadd, 1) := by decide +kernel
theorem dL_law_739 : decode cL_law 739 = .ok (.iaload, 1) := by decide +kernel
theorem dL_law_740 : decode cL_law 740 = .ok (.aload_n 0, 1) := by decide +kernel
theorem dL_law_741 : decode cL_law 741 = .ok (.iload_n 3, 1) := by decide +kernel
theorem dL_law_742 : decode cL_law 742 = .ok (.iconst 2, 1) := by decide +kernel
theorem dL_law_743 : decode cL_law 743 = .ok (.iadd, 1) := by decide +kernel
theorem dL_law_744 : decode cL_law 744 = .ok (.iaload, 1) := by decide +kernel
theorem dL_law_745 : decode cL_law 745 = .ok (.invokevirtual 87, 3) := by decide +kernel
theorem dL_law_748 : decode cL_law 748 = .ok (.aload_n 2, 1) := by decide +kernel
theorem dL_law_749 : decode cL_law 749 = .ok (.aload_n 0, 1) := by decide +kernel
theorem dL_law_750 : decode cL_law 750 = .ok (.iload_n 3, 1) := by decide +kernel
theorem dL_law_751 : decode cL_law 751 = .ok (.iconst 1, 1) := by decide +kernel
theorem dL_law_752 : decode cL_law 752 = .ok (.iadd, 1) := by decide +kernel
theorem dL_law_753 : decode cL_law 753 = .ok (.iaload, 1) := by decide +kernel
theorem dL_law_754 : decode cL_law 754 = .ok (.aload_n 0, 1) := by decide +kernel
theorem dL_law_755 : decode cL_law 755 = .ok (.iload_n 3, 1) := by decide +kernel
theorem dL_law_756 : decode cL_law 756 = .ok (.iconst 2, 1) := by decide +kernel
theorem dL_law_757 : decode cL_law 757 = .ok (.iadd, 1) := by decide +kernel
theorem dL_law_758 : decode cL_law 758 = .ok (.iaload, 1) := by decide +kernel
theorem dL_law_759 : decode cL_law 759 = .ok (.invokevirtual 90, 3) := by decide +kernel
theorem dL_law_762 : decode cL_law 762 = .ok (.if_icmp .eq 408, 3) := by decide +kernel
theorem dL_law_765 : decode cL_law 765 = .ok (.iconst 0, 1) := by decide +kernel
theorem dL_law_766 : decode cL_law 766 = .ok (.ireturn, 1) := by decide +kernel
theorem dL_law_767 : decode cL_law 767 = .ok (.aload_n 1, 1) := by decide +kernel
theorem dL_law_768 : decode cL_law 768 = .ok (.aload_n 0, 1) := by decide +kernel
theorem dL_law_769 : decode cL_law 769 = .ok (.iload_n 3, 1) := by decide +kernel
theorem dL_law_770 : decode cL_law 770 = .ok (.iconst 1, 1) := by decide +kernel
theorem dL_law_771 : decode cL_law 771 = .ok (.iadd, 1) := by decide +kernel
theorem dL_law_772 : decode cL_law 772 = .ok (.iaload, 1) := by decide +kernel
theorem dL_law_773 : decode cL_law 773 = .ok (.invokevirtual 91, 3) := by decide +kernel
theorem dL_law_776 : decode cL_law 776 = .ok (.aload_n 2, 1) := by decide +kernel
theorem dL_law_777 : decode cL_law 777 = .ok (.aload_n 0, 1) := by decide +kernel
theorem dL_law_778 : decode cL_law 778 = .ok (.iload_n 3, 1) := by decide +kernel
theorem dL_law_779 : decode cL_law 779 = .ok (.iconst 1, 1) := by decide +kernel
theorem dL_law_780 : decode cL_law 780 = .ok (.iadd, 1) := by decide +kernel
theorem dL_law_781 : decode cL_law 781 = .ok (.iaload, 1) := by decide +kernel
theorem dL_law_782 : decode cL_law 782 = .ok (.invokevirtual 94, 3) := by decide +kernel
theorem dL_law_785 : decode cL_law 785 = .ok (.if_icmp .eq 385, 3) := by decide +kernel
theorem dL_law_788 : decode cL_law 788 = .ok (.iconst 0, 1) := by decide +kernel
theorem dL_law_789 : decode cL_law 789 = .ok (.ireturn, 1) := by decide +kernel
theorem dL_law_790 : decode cL_law 790 = .ok (.aload_n 1, 1) := by decide +kernel
theorem dL_law_791 : decode cL_law 791 = .ok (.aload_n 0, 1) := by decide +kernel
theorem dL_law_792 : decode cL_law 792 = .ok (.iload_n 3, 1) := by decide +kernel
theorem dL_law_793 : decode cL_law 793 = .ok (.iconst 1, 1) := by decide +kernel
theorem dL_law_794 : decode cL_law 794 = .ok (.iadd, 1) := by decide +kernel
theorem dL_law_795 : decode cL_law 795 = .ok (.iaload, 1) := by decide +kernel
theorem dL_law_796 : decode cL_law 796 = .ok (.aload_n 0, 1) := by decide +kernel
theorem dL_law_797 : decode cL_law 797 = .ok (.iload_n 3, 1) := by decide +kernel
theorem dL_law_798 : decode cL_law 798 = .ok (.iconst 2, 1) := by decide +kernel
theorem dL_law_799 : decode cL_law 799 = .ok (.iadd, 1) := by decide +kernel
theorem dL_law_800 : decode cL_law 800 = .ok (.iaload, 1) := by decide +kernel
theorem dL_law_801 : decode cL_law 801 = .ok (.aload_n 0, 1) := by decide +kernel
theorem dL_law_802 : decode cL_law 802 = .ok (.iload_n 3, 1) := by decide +kernel
theorem dL_law_803 : decode cL_law 803 = .ok (.iconst 3, 1) := by decide +kernel
theorem dL_law_804 : decode cL_law 804 = .ok (.iadd, 1) := by decide +kernel
theorem dL_law_805 : decode cL_law 805 = .ok (.iaload, 1) := by decide +kernel
theorem dL_law_806 : decode cL_law 806 = .ok (.aload_n 0, 1) := by decide +kernel
theorem dL_law_807 : decode cL_law 807 = .ok (.iload_n 3, 1) := by decide +kernel
theorem dL_law_808 : decode cL_law 808 = .ok (.iconst 4, 1) := by decide +kernel
theorem dL_law_809 : decode cL_law 809 = .ok (.iadd, 1) := by decide +kernel
theorem dL_law_810 : decode cL_law 810 = .ok (.iaload, 1) := by decide +kernel
theorem dL_law_811 : decode cL_law 811 = .ok (.invokevirtual 95, 3) := by decide +kernel
theorem dL_law_814 : decode cL_law 814 = .ok (.aload_n 2, 1) := by decide +kernel
theorem dL_law_815 : decode cL_law 815 = .ok (.aload_n 0, 1) := by decide +kernel
theorem dL_law_816 : decode cL_law 816 = .ok (.iload_n 3, 1) := by decide +kernel
theorem dL_law_817 : decode cL_law 817 = .ok (.iconst 1, 1) := by decide +kernel
theorem dL_law_818 : decode cL_law 818 = .ok (.iadd, 1) := by decide +kernel
theorem dL_law_819 : decode cL_law 819 = .ok (.iaload, 1) := by decide +kernel
theorem dL_law_820 : decode cL_law 820 = .ok (.aload_n 0, 1) := by decide +kernel
theorem dL_law_821 : decode cL_law 821 = .ok (.iload_n 3, 1) := by decide +kernel
theorem dL_law_822 : decode cL_law 822 = .ok (.iconst 2, 1) := by decide +kernel
theorem dL_law_823 : decode cL_law 823 = .ok (.iadd, 1) := by decide +kernel
theorem dL_law_824 : decode cL_law 824 = .ok (.iaload, 1) := by decide +kernel
theorem dL_law_825 : decode cL_law 825 = .ok (.aload_n 0, 1) := by decide +kernel
theorem dL_law_826 : decode cL_law 826 = .ok (.iload_n 3, 1) := by decide +kernel
theorem dL_law_827 : decode cL_law 827 = .ok (.iconst 3, 1) := by decide +kernel
theorem dL_law_828 : decode cL_law 828 = .ok (.iadd, 1) := by decide +kernel
theorem dL_law_829 : decode cL_law 829 = .ok (.iaload, 1) := by decide +kernel
theorem dL_law_830 : decode cL_law 830 = .ok (.aload_n 0, 1) := by decide +kernel
theorem dL_law_831 : decode cL_law 831 = .ok (.iload_n 3, 1) := by decide +kernel
theorem dL_law_832 : decode cL_law 832 = .ok (.iconst 4, 1) := by decide +kernel
theorem dL_law_833 : decode cL_law 833 = .ok (.iadd, 1) := by decide +kernel
theorem dL_law_834 : decode cL_law 834 = .ok (.iaload, 1) := by decide +kernel
theorem dL_law_835 : decode cL_law 835 = .ok (.invokevirtual 99, 3) := by decide +kernel
theorem dL_law_838 : decode cL_law 838 = .ok (.if_icmp .eq 332, 3) := by decide +kernel
theorem dL_law_841 : decode cL_law 841 = .ok (.iconst 0, 1) := by decide +kernel
theorem dL_law_842 : decode cL_law 842 = .ok (.ireturn, 1) := by decide +kernel
theorem dL_law_843 : decode cL_law 843 = .ok (.aload_n 1, 1) := by decide +kernel
theorem dL_law_844 : decode cL_law 844 = .ok (.aload_n 0, 1) := by decide +kernel
theorem dL_law_845 : decode cL_law 845 = .ok (.iload_n 3, 1) := by decide +kernel
theorem dL_law_846 : decode cL_law 846 = .ok (.iconst 1, 1) := by decide +kernel
theorem dL_law_847 : decode cL_law 847 = .ok (.iadd, 1) := by decide +kernel
theorem dL_law_848 : decode cL_law 848 = .ok (.iaload, 1) := by decide +kernel
theorem dL_law_849 : decode cL_law 849 = .ok (.invokevirtual 100, 3) := by decide +kernel
theorem dL_law_852 : decode cL_law 852 = .ok (.aload_n 2, 1) := by decide +kernel
theorem dL_law_853 : decode cL_law 853 = .ok (.aload_n 0, 1) := by decide +kernel
theorem dL_law_854 : decode cL_law 854 = .ok (.iload_n 3, 1) := by decide +kernel
theorem dL_law_855 : decode cL_law 855 = .ok (.iconst 1, 1) := by decide +kernel
theorem dL_law_856 : decode cL_law 856 = .ok (.iadd, 1) := by decide +kernel
theorem dL_law_857 : decode cL_law 857 = .ok (.iaload, 1) := by decide +kernel
theorem dL_law_858 : decode cL_law 858 = .ok (.invokevirtual 103, 3) := by decide +kernel
theorem dL_law_861 : decode cL_law 861 = .ok (.if_icmp .eq 309, 3) := by decide +kernel
theorem dL_law_864 : decode cL_law 864 = .ok (.iconst 0, 1) := by decide +kernel
theorem dL_law_865 : decode cL_law 865 = .ok (.ireturn, 1) := by decide +kernel
theorem dL_law_866 : decode cL_law 866 = .ok (.aload_n 1, 1) := by decide +kernel
theorem dL_law_867 : decode cL_law 867 = .ok (.aload_n 0, 1) := by decide +kernel
theorem dL_law_868 : decode cL_law 868 = .ok (.iload_n 3, 1) := by decide +kernel
theorem dL_law_869 : decode cL_law 869 = .ok (.iconst 1, 1) := by decide +kernel
theorem dL_law_870 : decode cL_law 870 = .ok (.iadd, 1) := by decide +kernel
theorem dL_law_871 : decode cL_law 871 = .ok (.iaload, 1) := by decide +kernel
theorem dL_law_872 : decode cL_law 872 = .ok (.aload_n 0, 1) := by decide +kernel
theorem dL_law_873 : decode cL_law 873 = .ok (.iload_n 3, 1) := by decide +kernel
theorem dL_law_874 : decode cL_law 874 = .ok (.iconst 2, 1) := by decide +kernel
theorem dL_law_875 : decode cL_law 875 = .ok (.iadd, 1) := by decide +kernel
theorem dL_law_876 : decode cL_law 876 = .ok (.iaload, 1) := by decide +kernel
theorem dL_law_877 : decode cL_law 877 = .ok (.aload_n 0, 1) := by decide +kernel
theorem dL_law_878 : decode cL_law 878 = .ok (.iload_n 3, 1) := by decide +kernel
theorem dL_law_879 : decode cL_law 879 = .ok (.iconst 3, 1) := by decide +kernel
theorem dL_law_880 : decode cL_law 880 = .ok (.iadd, 1) := by decide +kernel
theorem dL_law_881 : decode cL_law 881 = .ok (.iaload, 1) := by decide +kernel
theorem dL_law_882 : decode cL_law 882 = .ok (.invokevirtual 104, 3) := by decide +kernel
theorem dL_law_885 : decode cL_law 885 = .ok (.aload_n 2, 1) := by decide +kernel
theorem dL_law_886 : decode cL_law 886 = .ok (.aload_n 0, 1) := by decide +kernel
theorem dL_law_887 : decode cL_law 887 = .ok (.iload_n 3, 1) := by decide +kernel
theorem dL_law_888 : decode cL_law 888 = .ok (.iconst 1, 1) := by decide +kernel
theorem dL_law_889 : decode cL_law 889 = .ok (.iadd, 1) := by decide +kernel
theorem dL_law_890 : decode cL_law 890 = .ok (.iaload, 1) := by decide +kernel
theorem dL_law_891 : decode cL_law 891 = .ok (.aload_n 0, 1) := by decide +kernel
theorem dL_law_892 : decode cL_law 892 = .ok (.iload_n 3, 1) := by decide +kernel
theorem dL_law_893 : decode cL_law 893 = .ok (.iconst 2, 1) := by decide +kernel
theorem dL_law_894 : decode cL_law 894 = .ok (.iadd, 1) := by decide +kernel
theorem dL_law_895 : decode cL_law 895 = .ok (.iaload, 1) := by decide +kernel
theorem dL_law_896 : decode cL_law 896 = .ok (.aload_n 0, 1) := by decide +kernel
theorem dL_law_897 : decode cL_law 897 = .ok (.iload_n 3, 1) := by decide +kernel
theorem dL_law_898 : decode cL_law 898 = .ok (.iconst 3, 1) := by decide +kernel
theorem dL_law_899 : decode cL_law 899 = .ok (.iadd, 1) := by decide +kernel
theorem dL_law_900 : decode cL_law 900 = .ok (.iaload, 1) := by decide +kernel
theorem dL_law_901 : decode cL_law 901 = .ok (.invokevirtual 107, 3) := by decide +kernel
theorem dL_law_904 : decode cL_law 904 = .ok (.if_icmp .eq 266, 3) := by decide +kernel
theorem dL_law_907 : decode cL_law 907 = .ok (.iconst 0, 1) := by decide +kernel
theorem dL_law_908 : decode cL_law 908 = .ok (.ireturn, 1) := by decide +kernel
theorem dL_law_909 : decode cL_law 909 = .ok (.aload_n 1, 1) := by decide +kernel
theorem dL_law_910 : decode cL_law 910 = .ok (.aload_n 0, 1) := by decide +kernel
theorem dL_law_911 : decode cL_law 911 = .ok (.iload_n 3, 1) := by decide +kernel
theorem dL_law_912 : decode cL_law 912 = .ok (.iconst 1, 1) := by decide +kernel
theorem dL_law_913 : decode cL_law 913 = .ok (.iadd, 1) := by decide +kernel
theorem dL_law_914 : decode cL_law 914 = .ok (.iaload, 1) := by decide +kernel
theorem dL_law_915 : decode cL_law 915 = .ok (.aload_n 0, 1) := by decide +kernel
theorem dL_law_916 : decode cL_law 916 = .ok (.iload_n 3, 1) := by decide +kernel
theorem dL_law_917 : decode cL_law 917 = .ok (.iconst 2, 1) := by decide +kernel
theorem dL_law_918 : decode cL_law 918 = .ok (.iadd, 1) := by decide +kernel
theorem dL_law_919 : decode cL_law 919 = .ok (.iaload, 1) := by decide +kernel
theorem dL_law_920 : decode cL_law 920 = .ok (.aload_n 0, 1) := by decide +kernel
theorem dL_law_921 : decode cL_law 921 = .ok (.iload_n 3, 1) := by decide +kernel
theorem dL_law_922 : decode cL_law 922 = .ok (.iconst 3, 1) := by decide +kernel
theorem dL_law_923 : decode cL_law 923 = .ok (.iadd, 1) := by decide +kernel
theorem dL_law_924 : decode cL_law 924 = .ok (.iaload, 1) := by decide +kernel
theorem dL_law_925 : decode cL_law 925 = .ok (.aload_n 0, 1) := by decide +kernel
theorem dL_law_926 : decode cL_law 926 = .ok (.iload_n 3, 1) := by decide +kernel
theorem dL_law_927 : decode cL_law 927 = .ok (.iconst 4, 1) := by decide +kernel
theorem dL_law_928 : decode cL_law 928 = .ok (.iadd, 1) := by decide +kernel
theorem dL_law_929 : decode cL_law 929 = .ok (.iaload, 1) := by decide +kernel
theorem dL_law_930 : decode cL_law 930 = .ok (.aload_n 0, 1) := by decide +kernel
theorem dL_law_931 : decode cL_law 931 = .ok (.iload_n 3, 1) := by decide +kernel
theorem dL_law_932 : decode cL_law 932 = .ok (.iconst 5, 1) := by decide +kernel
theorem dL_law_933 : decode cL_law 933 = .ok (.iadd, 1) := by decide +kernel
theorem dL_law_934 : decode cL_law 934 = .ok (.iaload, 1) := by decide +kernel
theorem dL_law_935 : decode cL_law 935 = .ok (.invokevirtual 108, 3) := by decide +kernel
theorem dL_law_938 : decode cL_law 938 = .ok (.aload_n 2, 1) := by decide +kernel
theorem dL_law_939 : decode cL_law 939 = .ok (.aload_n 0, 1) := by decide +kernel
theorem dL_law_940 : decode cL_law 940 = .ok (.iload_n 3, 1) := by decide +kernel
theorem dL_law_941 : decode cL_law 941 = .ok (.iconst 1, 1) := by decide +kernel
theorem dL_law_942 : decode cL_law 942 = .ok (.iadd, 1) := by decide +kernel
theorem dL_law_943 : decode cL_law 943 = .ok (.iaload, 1) := by decide +kernel
theorem dL_law_944 : decode cL_law 944 = .ok (.aload_n 0, 1) := by decide +kernel
theorem dL_law_945 : decode cL_law 945 = .ok (.iload_n 3, 1) := by decide +kernel
theorem dL_law_946 : decode cL_law 946 = .ok (.iconst 2, 1) := by decide +kernel
theorem dL_law_947 : decode cL_law 947 = .ok (.iadd, 1) := by decide +kernel
theorem dL_law_948 : decode cL_law 948 = .ok (.iaload, 1) := by decide +kernel
theorem dL_law_949 : decode cL_law 949 = .ok (.aload_n 0, 1) := by decide +kernel
theorem dL_law_950 : decode cL_law 950 = .ok (.iload_n 3, 1) := by decide +kernel
theorem dL_law_951 : decode cL_law 951 = .ok (.iconst 3, 1) := by decide +kernel
theorem dL_law_952 : decode cL_law 952 = .ok (.iadd, 1) := by decide +kernel
theorem dL_law_953 : decode cL_law 953 = .ok (.iaload, 1) := by decide +kernel
theorem dL_law_954 : decode cL_law 954 = .ok (.aload_n 0, 1) := by decide +kernel
theorem dL_law_955 : decode cL_law 955 = .ok (.iload_n 3, 1) := by decide +kernel
theorem dL_law_956 : decode cL_law 956 = .ok (.iconst 4, 1) := by decide +kernel
theorem dL_law_957 : decode cL_law 957 = .ok (.iadd, 1) := by decide +kernel
theorem dL_law_958 : decode cL_law 958 = .ok (.iaload, 1) := by decide +kernel
theorem dL_law_959 : decode cL_law 959 = .ok (.aload_n 0, 1) := by decide +kernel
theorem dL_law_960 : decode cL_law 960 = .ok (.iload_n 3, 1) := by decide +kernel
theorem dL_law_961 : decode cL_law 961 = .ok (.iconst 5, 1) := by decide +kernel
theorem dL_law_962 : decode cL_law 962 = .ok (.iadd, 1) := by decide +kernel
theorem dL_law_963 : decode cL_law 963 = .ok (.iaload, 1) := by decide +kernel
theorem dL_law_964 : decode cL_law 964 = .ok (.invokevirtual 112, 3) := by decide +kernel
theorem dL_law_967 : decode cL_law 967 = .ok (.if_icmp .eq 203, 3) := by decide +kernel
theorem dL_law_970 : decode cL_law 970 = .ok (.iconst 0, 1) := by decide +kernel
theorem dL_law_971 : decode cL_law 971 = .ok (.ireturn, 1) := by decide +kernel
theorem dL_law_972 : decode cL_law 972 = .ok (.aload_n 1, 1) := by decide +kernel
theorem dL_law_973 : decode cL_law 973 = .ok (.aload_n 0, 1) := by decide +kernel
theorem dL_law_974 : decode cL_law 974 = .ok (.iload_n 3, 1) := by decide +kernel
theorem dL_law_975 : decode cL_law 975 = .ok (.iconst 1, 1) := by decide +kernel
theorem dL_law_976 : decode cL_law 976 = .ok (.iadd, 1) := by decide +kernel
theorem dL_law_977 : decode cL_law 977 = .ok (.iaload, 1) := by decide +kernel
theorem dL_law_978 : decode cL_law 978 = .ok (.aload_n 0, 1) := by decide +kernel
theorem dL_law_979 : decode cL_law 979 = .ok (.iload_n 3, 1) := by decide +kernel
theorem dL_law_980 : decode cL_law 980 = .ok (.iconst 2, 1) := by decide +kernel
theorem dL_law_981 : decode cL_law 981 = .ok (.iadd, 1) := by decide +kernel
theorem dL_law_982 : decode cL_law 982 = .ok (.iaload, 1) := by decide +kernel
theorem dL_law_983 : decode cL_law 983 = .ok (.aload_n 0, 1) := by decide +kernel
theorem dL_law_984 : decode cL_law 984 = .ok (.iload_n 3, 1) := by decide +kernel
theorem dL_law_985 : decode cL_law 985 = .ok (.iconst 3, 1) := by decide +kernel
theorem dL_law_986 : decode cL_law 986 = .ok (.iadd, 1) := by decide +kernel
theorem dL_law_987 : decode cL_law 987 = .ok (.iaload, 1) := by decide +kernel
theorem dL_law_988 : decode cL_law 988 = .ok (.aload_n 0, 1) := by decide +kernel
theorem dL_law_989 : decode cL_law 989 = .ok (.iload_n 3, 1) := by decide +kernel
theorem dL_law_990 : decode cL_law 990 = .ok (.iconst 4, 1) := by decide +kernel
theorem dL_law_991 : decode cL_law 991 = .ok (.iadd, 1) := by decide +kernel
theorem dL_law_992 : decode cL_law 992 = .ok (.iaload, 1) := by decide +kernel
theorem dL_law_993 : decode cL_law 993 = .ok (.invokevirtual 113, 3) := by decide +kernel
theorem dL_law_996 : decode cL_law 996 = .ok (.aload_n 2, 1) := by decide +kernel
theorem dL_law_997 : decode cL_law 997 = .ok (.aload_n 0, 1) := by decide +kernel
theorem dL_law_998 : decode cL_law 998 = .ok (.iload_n 3, 1) := by decide +kernel
theorem dL_law_999 : decode cL_law 999 = .ok (.iconst 1, 1) := by decide +kernel
theorem dL_law_1000 : decode cL_law 1000 = .ok (.iadd, 1) := by decide +kernel
theorem dL_law_1001 : decode cL_law 1001 = .ok (.iaload, 1) := by decide +kernel
theorem dL_law_1002 : decode cL_law 1002 = .ok (.aload_n 0, 1) := by decide +kernel
theorem dL_law_1003 : decode cL_law 1003 = .ok (.iload_n 3, 1) := by decide +kernel
theorem dL_law_1004 : decode cL_law 1004 = .ok (.iconst 2, 1) := by decide +kernel
theorem dL_law_1005 : decode cL_law 1005 = .ok (.iadd, 1) := by decide +kernel
theorem dL_law_1006 : decode cL_law 1006 = .ok (.iaload, 1) := by decide +kernel
theorem dL_law_1007 : decode cL_law 1007 = .ok (.aload_n 0, 1) := by decide +kernel
theorem dL_law_1008 : decode cL_law 1008 = .ok (.iload_n 3, 1) := by decide +kernel
theorem dL_law_1009 : decode cL_law 1009 = .ok (.iconst 3, 1) := by decide +kernel
theorem dL_law_1010 : decode cL_law 1010 = .ok (.iadd, 1) := by decide +kernel
theorem dL_law_1011 : decode cL_law 1011 = .ok (.iaload, 1) := by decide +kernel
theorem dL_law_1012 : decode cL_law 1012 = .ok (.aload_n 0, 1) := by decide +kernel
theorem dL_law_1013 : decode cL_law 1013 = .ok (.iload_n 3, 1) := by decide +kernel
theorem dL_law_1014 : decode cL_law 1014 = .ok (.iconst 4, 1) := by decide +kernel
theorem dL_law_1015 : decode cL_law 1015 = .ok (.iadd, 1) := by decide +kernel
theorem dL_law_1016 : decode cL_law 1016 = .ok (.iaload, 1) := by decide +kernel
theorem dL_law_1017 : decode cL_law 1017 = .ok (.invokevirtual 116, 3) := by decide +kernel
theorem dL_law_1020 : decode cL_law 1020 = .ok (.if_icmp .eq 150, 3) := by decide +kernel
theorem dL_law_1023 : decode cL_law 1023 = .ok (.iconst 0, 1) := by decide +kernel
theorem dL_law_1024 : decode cL_law 1024 = .ok (.ireturn, 1) := by decide +kernel
theorem dL_law_1025 : decode cL_law 1025 = .ok (.aload_n 1, 1) := by decide +kernel
theorem dL_law_1026 : decode cL_law 1026 = .ok (.aload_n 0, 1) := by decide +kernel
theorem dL_law_1027 : decode cL_law 1027 = .ok (.iload_n 3, 1) := by decide +kernel
theorem dL_law_1028 : decode cL_law 1028 = .ok (.iconst 1, 1) := by decide +kernel
theorem dL_law_1029 : decode cL_law 1029 = .ok (.iadd, 1) := by decide +kernel
theorem dL_law_1030 : decode cL_law 1030 = .ok (.iaload, 1) := by decide +kernel
theorem dL_law_1031 : decode cL_law 1031 = .ok (.invokevirtual 117, 3) := by decide +kernel
theorem dL_law_1034 : decode cL_law 1034 = .ok (.aload_n 2, 1) := by decide +kernel
theorem dL_law_1035 : decode cL_law 1035 = .ok (.aload_n 0, 1) := by decide +kernel
theorem dL_law_1036 : decode cL_law 1036 = .ok (.iload_n 3, 1) := by decide +kernel
theorem dL_law_1037 : decode cL_law 1037 = .ok (.iconst 1, 1) := by decide +kernel
theorem dL_law_1038 : decode cL_law 1038 = .ok (.iadd, 1) := by decide +kernel
theorem dL_law_1039 : decode cL_law 1039 = .ok (.iaload, 1) := by decide +kernel
theorem dL_law_1040 : decode cL_law 1040 = .ok (.invokevirtual 120, 3) := by decide +kernel
theorem dL_law_1043 : decode cL_law 1043 = .ok (.if_icmp .eq 127, 3) := by decide +kernel
theorem dL_law_1046 : decode cL_law 1046 = .ok (.iconst 0, 1) := by decide +kernel
theorem dL_law_1047 : decode cL_law 1047 = .ok (.ireturn, 1) := by decide +kernel
theorem dL_law_1048 : decode cL_law 1048 = .ok (.aload_n 1, 1) := by decide +kernel
theorem dL_law_1049 : decode cL_law 1049 = .ok (.aload_n 0, 1) := by decide +kernel
theorem dL_law_1050 : decode cL_law 1050 = .ok (.iload_n 3, 1) := by decide +kernel
theorem dL_law_1051 : decode cL_law 1051 = .ok (.iconst 1, 1) := by decide +kernel
theorem dL_law_1052 : decode cL_law 1052 = .ok (.iadd, 1) := by decide +kernel
theorem dL_law_1053 : decode cL_law 1053 = .ok (.iaload, 1) := by decide +kernel
theorem dL_law_1054 : decode cL_law 1054 = .ok (.invokevirtual 121, 3) := by decide +kernel
theorem dL_law_1057 : decode cL_law 1057 = .ok (.aload_n 2, 1) := by decide +kernel
theorem dL_law_1058 : decode cL_law 1058 = .ok (.aload_n 0, 1) := by decide +kernel
theorem dL_law_1059 : decode cL_law 1059 = .ok (.iload_n 3, 1) := by decide +kernel
theorem dL_law_1060 : decode cL_law 1060 = .ok (.iconst 1, 1) := by decide +kernel
theorem dL_law_1061 : decode cL_law 1061 = .ok (.iadd, 1) := by decide +kernel
theorem dL_law_1062 : decode cL_law 1062 = .ok (.iaload, 1) := by decide +kernel
theorem dL_law_1063 : decode cL_law 1063 = .ok (.invokevirtual 124, 3) := by decide +kernel
theorem dL_law_1066 : decode cL_law 1066 = .ok (.if_icmp .eq 104, 3) := by decide +kernel
theorem dL_law_1069 : decode cL_law 1069 = .ok (.iconst 0, 1) := by decide +kernel
theorem dL_law_1070 : decode cL_law 1070 = .ok (.ireturn, 1) := by decide +kernel
theorem dL_law_1071 : decode cL_law 1071 = .ok (.aload_n 1, 1) := by decide +kernel
theorem dL_law_1072 : decode cL_law 1072 = .ok (.aload_n 0, 1) := by decide +kernel
theorem dL_law_1073 : decode cL_law 1073 = .ok (.iload_n 3, 1) := by decide +kernel
theorem dL_law_1074 : decode cL_law 1074 = .ok (.iconst 1, 1) := by decide +kernel
theorem dL_law_1075 : decode cL_law 1075 = .ok (.iadd, 1) := by decide +kernel
theorem dL_law_1076 : decode cL_law 1076 = .ok (.iaload, 1) := by decide +kernel
theorem dL_law_1077 : decode cL_law 1077 = .ok (.aload_n 0, 1) := by decide +kernel
theorem dL_law_1078 : decode cL_law 1078 = .ok (.iload_n 3, 1) := by decide +kernel
theorem dL_law_1079 : decode cL_law 1079 = .ok (.iconst 2, 1) := by decide +kernel
theorem dL_law_1080 : decode cL_law 1080 = .ok (.iadd, 1) := by decide +kernel
theorem dL_law_1081 : decode cL_law 1081 = .ok (.iaload, 1) := by decide +kernel
theorem dL_law_1082 : decode cL_law 1082 = .ok (.aload_n 0, 1) := by decide +kernel
theorem dL_law_1083 : decode cL_law 1083 = .ok (.iload_n 3, 1) := by decide +kernel
theorem dL_law_1084 : decode cL_law 1084 = .ok (.iconst 3, 1) := by decide +kernel
theorem dL_law_1085 : decode cL_law 1085 = .ok (.iadd, 1) := by decide +kernel
theorem dL_law_1086 : decode cL_law 1086 = .ok (.iaload, 1) := by decide +kernel
theorem dL_law_1087 : decode cL_law 1087 = .ok (.aload_n 0, 1) := by decide +kernel
theorem dL_law_1088 : decode cL_law 1088 = .ok (.iload_n 3, 1) := by decide +kernel
theorem dL_law_1089 : decode cL_law 1089 = .ok (.iconst 4, 1) := by decide +kernel
theorem dL_law_1090 : decode cL_law 1090 = .ok (.iadd, 1) := by decide +kernel
theorem dL_law_1091 : decode cL_law 1091 = .ok (.iaload, 1) := by decide +kernel
theorem dL_law_1092 : decode cL_law 1092 = .ok (.invokevirtual 125, 3) := by decide +kernel
theorem dL_law_1095 : decode cL_law 1095 = .ok (.aload_n 2, 1) := by decide +kernel
theorem dL_law_1096 : decode cL_law 1096 = .ok (.aload_n 0, 1) := by decide +kernel
theorem dL_law_1097 : decode cL_law 1097 = .ok (.iload_n 3, 1) := by decide +kernel
theorem dL_law_1098 : decode cL_law 1098 = .ok (.iconst 1, 1) := by decide +kernel
theorem dL_law_1099 : decode cL_law 1099 = .ok (.iadd, 1) := by decide +kernel
theorem dL_law_1100 : decode cL_law 1100 = .ok (.iaload, 1) := by decide +kernel
theorem dL_law_1101 : decode cL_law 1101 = .ok (.aload_n 0, 1) := by decide +kernel
theorem dL_law_1102 : decode cL_law 1102 = .ok (.iload_n 3, 1) := by decide +kernel
theorem dL_law_1103 : decode cL_law 1103 = .ok (.iconst 2, 1) := by decide +kernel
theorem dL_law_1104 : decode cL_law 1104 = .ok (.iadd, 1) := by decide +kernel
theorem dL_law_1105 : decode cL_law 1105 = .ok (.iaload, 1) := by decide +kernel
theorem dL_law_1106 : decode cL_law 1106 = .ok (.aload_n 0, 1) := by decide +kernel
theorem dL_law_1107 : decode cL_law 1107 = .ok (.iload_n 3, 1) := by decide +kernel
theorem dL_law_1108 : decode cL_law 1108 = .ok (.iconst 3, 1) := by decide +kernel
theorem dL_law_1109 : decode cL_law 1109 = .ok (.iadd, 1) := by decide +kernel
theorem dL_law_1110 : decode cL_law 1110 = .ok (.iaload, 1) := by decide +kernel
theorem dL_law_1111 : decode cL_law 1111 = .ok (.aload_n 0, 1) := by decide +kernel
theorem dL_law_1112 : decode cL_law 1112 = .ok (.iload_n 3, 1) := by decide +kernel
theorem dL_law_1113 : decode cL_law 1113 = .ok (.iconst 4, 1) := by decide +kernel
theorem dL_law_1114 : decode cL_law 1114 = .ok (.iadd, 1) := by decide +kernel
theorem dL_law_1115 : decode cL_law 1115 = .ok (.iaload, 1) := by decide +kernel
theorem dL_law_1116 : decode cL_law 1116 = .ok (.invokevirtual 128, 3) := by decide +kernel
theorem dL_law_1119 : decode cL_law 1119 = .ok (.if_icmp .eq 51, 3) := by decide +kernel
theorem dL_law_1122 : decode cL_law 1122 = .ok (.iconst 0, 1) := by decide +kernel
theorem dL_law_1123 : decode cL_law 1123 = .ok (.ireturn, 1) := by decide +kernel
theorem dL_law_1124 : decode cL_law 1124 = .ok (.aload_n 1, 1) := by decide +kernel
theorem dL_law_1125 : decode cL_law 1125 = .ok (.invokevirtual 129, 3) := by decide +kernel
theorem dL_law_1128 : decode cL_law 1128 = .ok (.aload_n 2, 1) := by decide +kernel
theorem dL_law_1129 : decode cL_law 1129 = .ok (.invokevirtual 132, 3) := by decide +kernel
theorem dL_law_1132 : decode cL_law 1132 = .ok (.if_icmp .eq 38, 3) := by decide +kernel
theorem dL_law_1135 : decode cL_law 1135 = .ok (.iconst 0, 1) := by decide +kernel
theorem dL_law_1136 : decode cL_law 1136 = .ok (.ireturn, 1) := by decide +kernel
theorem dL_law_1137 : decode cL_law 1137 = .ok (.aload_n 1, 1) := by decide +kernel
theorem dL_law_1138 : decode cL_law 1138 = .ok (.aload_n 0, 1) := by decide +kernel
theorem dL_law_1139 : decode cL_law 1139 = .ok (.iload_n 3, 1) := by decide +kernel
theorem dL_law_1140 : decode cL_law 1140 = .ok (.iconst 1, 1) := by decide +kernel
theorem dL_law_1141 : decode cL_law 1141 = .ok (.iadd, 1) := by decide +kernel
theorem dL_law_1142 : decode cL_law 1142 = .ok (.iaload, 1) := by decide +kernel
theorem dL_law_1143 : decode cL_law 1143 = .ok (.aload_n 0, 1) := by decide +kernel
theorem dL_law_1144 : decode cL_law 1144 = .ok (.iload_n 3, 1) := by decide +kernel
theorem dL_law_1145 : decode cL_law 1145 = .ok (.iconst 2, 1) := by decide +kernel
theorem dL_law_1146 : decode cL_law 1146 = .ok (.iadd, 1) := by decide +kernel
theorem dL_law_1147 : decode cL_law 1147 = .ok (.iaload, 1) := by decide +kernel
theorem dL_law_1148 : decode cL_law 1148 = .ok (.invokevirtual 133, 3) := by decide +kernel
theorem dL_law_1151 : decode cL_law 1151 = .ok (.aload_n 2, 1) := by decide +kernel
theorem dL_law_1152 : decode cL_law 1152 = .ok (.aload_n 0, 1) := by decide +kernel
theorem dL_law_1153 : decode cL_law 1153 = .ok (.iload_n 3, 1) := by decide +kernel
theorem dL_law_1154 : decode cL_law 1154 = .ok (.iconst 1, 1) := by decide +kernel
theorem dL_law_1155 : decode cL_law 1155 = .ok (.iadd, 1) := by decide +kernel
theorem dL_law_1156 : decode cL_law 1156 = .ok (.iaload, 1) := by decide +kernel
theorem dL_law_1157 : decode cL_law 1157 = .ok (.aload_n 0, 1) := by decide +kernel
theorem dL_law_1158 : decode cL_law 1158 = .ok (.iload_n 3, 1) := by decide +kernel
theorem dL_law_1159 : decode cL_law 1159 = .ok (.iconst 2, 1) := by decide +kernel
theorem dL_law_1160 : decode cL_law 1160 = .ok (.iadd, 1) := by decide +kernel
theorem dL_law_1161 : decode cL_law 1161 = .ok (.iaload, 1) := by decide +kernel
theorem dL_law_1162 : decode cL_law 1162 = .ok (.invokevirtual 136, 3) := by decide +kernel
theorem dL_law_1165 : decode cL_law 1165 = .ok (.if_icmp .eq 5, 3) := by decide +kernel
theorem dL_law_1168 : decode cL_law 1168 = .ok (.iconst 0, 1) := by decide +kernel
theorem dL_law_1169 : decode cL_law 1169 = .ok (.ireturn, 1) := by decide +kernel
theorem dL_law_1170 : decode cL_law 1170 = .ok (.iinc 3 6, 3) := by decide +kernel
theorem dL_law_1173 : decode cL_law 1173 = .ok (.goto (-1155), 3) := by decide +kernel
theorem dL_law_1176 : decode cL_law 1176 = .ok (.iconst 1, 1) := by decide +kernel
theorem dL_law_1177 : decode cL_law 1177 = .ok (.ireturn, 1) := by decide +kernel
abbrev vwCl : List vw_C := [(RX0, TX0, 4), (RX1, TX1, 13), (RX2, TX2, 12), (RX3, TX3, 9), (RX4, TX4, 3), (RX5, TX5, 6), (RX6, TX6, 6), (RX7, TX7, 42)]
