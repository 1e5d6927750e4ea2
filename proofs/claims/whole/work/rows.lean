section
theorem goodIn_r {big : List Cond} (ws : List Cond) (ps : List Nat) (hp : ws = ps.filterMap (fun i => big[i]?)) (h : ws.all goodWord = true) : GoodIn big ws := by
  intro w hw
  have h1 := List.all_eq_true.mp h w hw
  rw [hp] at hw
  obtain ⟨i, -, hi⟩ := List.mem_filterMap.mp hw
  have hm : w ∈ big := by first | exact List.mem_of_getElem? hi | exact List.getElem?_mem hi
  exact ⟨hm, good_of_word h1⟩
theorem goodIn_app {big a b : List Cond} (ha : GoodIn big a) (hb : GoodIn big b) : GoodIn big (a ++ b) := fun w h => (List.mem_append.mp h).elim (ha w) (hb w)
theorem goodIn_ca {big a b : List Cond} {c : Cond} (ha : GoodIn big (c :: a)) (hb : GoodIn big b) : GoodIn big (c :: (a ++ b)) := fun w h => (List.mem_cons.mp h).elim (fun e => ha w (List.mem_cons.mpr (Or.inl e))) (fun h => (List.mem_append.mp h).elim (fun h => ha w (List.mem_cons.mpr (Or.inr h))) (hb w))
theorem goodIn_sub {big ws : List Cond} (hm : ∀ w ∈ ws, w ∈ big) (h : ws.all goodWord = true) : GoodIn big ws := fun w hw => ⟨hm w hw, good_of_word (List.all_eq_true.mp h w hw)⟩
def RX0 : String := "MachineHall$Flow"
def TX0 : u_T := fun k => match k with
  | 0 => ("MachineHall$Flow", "nodes", "I", true)
  | 1 => ("MachineHall$Flow", "open", "[[I", true)
  | 2 => ("MachineHall$Flow", "cameFrom", "[I", true)
  | _ => ("MachineHall$Flow", "reached", "[I", true)
def tyX0 : Nat → FieldType := fun k => match k with
  | 0 => .int
  | 1 => .array (.array .int)
  | 2 => .array .int
  | _ => .array .int
abbrev wsX00 : List Cond := u_ws RX0 TX0 4
theorem nmX0 : ∀ a, a < 4 → ∀ b, b < 4 → a ≠ b → (TX0 a).2.1 ≠ (TX0 b).2.1 := by decide +kernel
theorem tyX0_ok : ∀ k, k < 4 → parseFieldDescriptor (TX0 k).2.2.1 = some (tyX0 k) := by decide +kernel
abbrev cX0_init : ByteArray := prog_2_method_1_code
def yX0_init : MethodName := ⟨RX0, "<init>", "(I)V"⟩
abbrev cX0_empty : ByteArray := prog_2_method_2_code
def yX0_empty : MethodName := ⟨RX0, "empty", "()V"⟩
abbrev cX0_pipe : ByteArray := prog_2_method_3_code
def yX0_pipe : MethodName := ⟨RX0, "pipe", "(III)V"⟩
abbrev cX0_push : ByteArray := prog_2_method_4_code
def yX0_push : MethodName := ⟨RX0, "push", "(III)I"⟩
abbrev cX0_settle : ByteArray := prog_2_method_5_code
def yX0_settle : MethodName := ⟨RX0, "settle", "(II)I"⟩
abbrev cX0_findWay : ByteArray := prog_2_method_6_code
def yX0_findWay : MethodName := ⟨RX0, "findWay", "(II)Z"⟩
abbrev cX0_send : ByteArray := prog_2_method_7_code
def yX0_send : MethodName := ⟨RX0, "send", "(III)I"⟩
def RX1 : String := "MachineHall$Hall"
def TX1 : u_T := fun k => match k with
  | 0 => ("MachineHall$Hall", "machines", "I", false)
  | 1 => ("MachineHall$Hall", "asks", "I", false)
  | 2 => ("MachineHall$Hall", "sizes", "[I", true)
  | 3 => ("MachineHall$Hall", "inRoom", "[I", true)
  | 4 => ("MachineHall$Hall", "ups", "I", false)
  | 5 => ("MachineHall$Hall", "needs", "[I", true)
  | 6 => ("MachineHall$Hall", "foes", "[I", true)
  | 7 => ("MachineHall$Hall", "ofHour", "[I", true)
  | 8 => ("MachineHall$Hall", "load", "[I", true)
  | 9 => ("MachineHall$Hall", "clash", "[Z", true)
  | 10 => ("MachineHall$Hall", "asked", "[Z", true)
  | 11 => ("MachineHall$Hall", "latest", "[I", true)
  | _ => ("MachineHall$Hall", "latestFor", "I", false)
def tyX1 : Nat → FieldType := fun k => match k with
  | 0 => .int
  | 1 => .int
  | 2 => .array .int
  | 3 => .array .int
  | 4 => .int
  | 5 => .array .int
  | 6 => .array .int
  | 7 => .array .int
  | 8 => .array .int
  | 9 => .array .boolean
  | 10 => .array .boolean
  | 11 => .array .int
  | _ => .int
abbrev wsX10 : List Cond := u_ws RX1 TX1 13
theorem nmX1 : ∀ a, a < 13 → ∀ b, b < 13 → a ≠ b → (TX1 a).2.1 ≠ (TX1 b).2.1 := by decide +kernel
theorem tyX1_ok : ∀ k, k < 13 → parseFieldDescriptor (TX1 k).2.2.1 = some (tyX1 k) := by decide +kernel
abbrev cX1_init : ByteArray := prog_3_method_1_code
def yX1_init : MethodName := ⟨RX1, "<init>", "()V"⟩
abbrev cX1_isFall : ByteArray := prog_3_method_2_code
def yX1_isFall : MethodName := ⟨RX1, "isFall", "(I)Z"⟩
abbrev cX1_hasMachine : ByteArray := prog_3_method_3_code
def yX1_hasMachine : MethodName := ⟨RX1, "hasMachine", "(I)Z"⟩
abbrev cX1_hasAsk : ByteArray := prog_3_method_4_code
def yX1_hasAsk : MethodName := ⟨RX1, "hasAsk", "(I)Z"⟩
abbrev cX1_isUp : ByteArray := prog_3_method_5_code
def yX1_isUp : MethodName := ⟨RX1, "isUp", "(I)Z"⟩
abbrev cX1_isAskOf : ByteArray := prog_3_method_6_code
def yX1_isAskOf : MethodName := ⟨RX1, "isAskOf", "(II)Z"⟩
abbrev cX1_areFoes : ByteArray := prog_3_method_7_code
def yX1_areFoes : MethodName := ⟨RX1, "areFoes", "(II)Z"⟩
abbrev cX1_addMachine : ByteArray := prog_3_method_8_code
def yX1_addMachine : MethodName := ⟨RX1, "addMachine", "(II)I"⟩
abbrev cX1_turn : ByteArray := prog_3_method_9_code
def yX1_turn : MethodName := ⟨RX1, "turn", "(I)V"⟩
abbrev cX1_addAsk : ByteArray := prog_3_method_10_code
def yX1_addAsk : MethodName := ⟨RX1, "addAsk", "(III)I"⟩
abbrev cX1_turnFoes : ByteArray := prog_3_method_11_code
def yX1_turnFoes : MethodName := ⟨RX1, "turnFoes", "(II)V"⟩
abbrev cX1_standing : ByteArray := prog_3_method_12_code
def yX1_standing : MethodName := ⟨RX1, "standing", "(I)I"⟩
abbrev cX1_sizeOf : ByteArray := prog_3_method_13_code
def yX1_sizeOf : MethodName := ⟨RX1, "sizeOf", "(I)I"⟩
abbrev cX1_holds : ByteArray := prog_3_method_14_code
def yX1_holds : MethodName := ⟨RX1, "holds", "(II)Z"⟩
abbrev cX1_layingOf : ByteArray := prog_3_method_15_code
def yX1_layingOf : MethodName := ⟨RX1, "layingOf", "(III)I"⟩
abbrev cX1_lacking : ByteArray := prog_3_method_16_code
def yX1_lacking : MethodName := ⟨RX1, "lacking", "(II)I"⟩
abbrev cX1_leftOver : ByteArray := prog_3_method_17_code
def yX1_leftOver : MethodName := ⟨RX1, "leftOver", "(II)I"⟩
abbrev cX1_firstUnfit : ByteArray := prog_3_method_18_code
def yX1_firstUnfit : MethodName := ⟨RX1, "firstUnfit", "(I)I"⟩
abbrev cX1_isLookedAt : ByteArray := prog_3_method_19_code
def yX1_isLookedAt : MethodName := ⟨RX1, "isLookedAt", "(II)Z"⟩
abbrev cX1_firstUnfitHour : ByteArray := prog_3_method_20_code
def yX1_firstUnfitHour : MethodName := ⟨RX1, "firstUnfitHour", "(II)I"⟩
abbrev cX1_markAsked : ByteArray := prog_3_method_21_code
def yX1_markAsked : MethodName := ⟨RX1, "markAsked", "(I)V"⟩
abbrev cX1_tally : ByteArray := prog_3_method_22_code
def yX1_tally : MethodName := ⟨RX1, "tally", "()V"⟩
abbrev cX1_findLatest : ByteArray := prog_3_method_23_code
def yX1_findLatest : MethodName := ⟨RX1, "findLatest", "(I)V"⟩
abbrev cX1_findWith : ByteArray := prog_3_method_24_code
def yX1_findWith : MethodName := ⟨RX1, "findWith", "(II)V"⟩
abbrev cX1_greatestOn : ByteArray := prog_3_method_25_code
def yX1_greatestOn : MethodName := ⟨RX1, "greatestOn", "(II)I"⟩
abbrev cX1_has : ByteArray := prog_3_method_26_code
def yX1_has : MethodName := ⟨RX1, "has", "(II)Z"⟩
def RX2 : String := "MachineHall$Market"
def TX2 : u_T := fun k => match k with
  | 0 => ("MachineHall$Market", "types", "I", false)
  | 1 => ("MachineHall$Market", "least", "I", false)
  | 2 => ("MachineHall$Market", "bought", "[[I", true)
  | 3 => ("MachineHall$Market", "owned", "I", false)
  | 4 => ("MachineHall$Market", "wants", "[I", true)
  | 5 => ("MachineHall$Market", "sizes", "[I", true)
  | 6 => ("MachineHall$Market", "leads", "[I", true)
  | 7 => ("MachineHall$Market", "powers", "[I", true)
  | 8 => ("MachineHall$Market", "prices", "[[I", true)
  | 9 => ("MachineHall$Market", "toPay", "[I", true)
  | 10 => ("MachineHall$Market", "oneMore", "[J", true)
  | _ => ("MachineHall$Market", "solved", "Z", false)
def tyX2 : Nat → FieldType := fun k => match k with
  | 0 => .int
  | 1 => .int
  | 2 => .array (.array .int)
  | 3 => .int
  | 4 => .array .int
  | 5 => .array .int
  | 6 => .array .int
  | 7 => .array .int
  | 8 => .array (.array .int)
  | 9 => .array .int
  | 10 => .array .long
  | _ => .boolean
abbrev wsX20 : List Cond := u_ws RX2 TX2 12
theorem nmX2 : ∀ a, a < 12 → ∀ b, b < 12 → a ≠ b → (TX2 a).2.1 ≠ (TX2 b).2.1 := by decide +kernel
theorem tyX2_ok : ∀ k, k < 12 → parseFieldDescriptor (TX2 k).2.2.1 = some (tyX2 k) := by decide +kernel
abbrev cX2_init : ByteArray := prog_4_method_1_code
def yX2_init : MethodName := ⟨RX2, "<init>", "()V"⟩
abbrev cX2_hasType : ByteArray := prog_4_method_2_code
def yX2_hasType : MethodName := ⟨RX2, "hasType", "(I)Z"⟩
abbrev cX2_isEnough : ByteArray := prog_4_method_3_code
def yX2_isEnough : MethodName := ⟨RX2, "isEnough", "()Z"⟩
abbrev cX2_want : ByteArray := prog_4_method_4_code
def yX2_want : MethodName := ⟨RX2, "want", "(LMachineHall$Sheets;I)V"⟩
abbrev cX2_own : ByteArray := prog_4_method_5_code
def yX2_own : MethodName := ⟨RX2, "own", "(I)V"⟩
abbrev cX2_addType : ByteArray := prog_4_method_6_code
def yX2_addType : MethodName := ⟨RX2, "addType", "(IIILMachineHall$Sheets;I)I"⟩
abbrev cX2_solve : ByteArray := prog_4_method_7_code
def yX2_solve : MethodName := ⟨RX2, "solve", "()V"⟩
abbrev cX2_offer : ByteArray := prog_4_method_8_code
def yX2_offer : MethodName := ⟨RX2, "offer", "(II)V"⟩
abbrev cX2_choose : ByteArray := prog_4_method_9_code
def yX2_choose : MethodName := ⟨RX2, "choose", "()V"⟩
abbrev cX2_mustBuy : ByteArray := prog_4_method_10_code
def yX2_mustBuy : MethodName := ⟨RX2, "mustBuy", "(III)Z"⟩
abbrev cX2_word : ByteArray := prog_4_method_11_code
def yX2_word : MethodName := ⟨RX2, "word", "(III)I"⟩
def RX3 : String := "MachineHall$Plan"
def TX3 : u_T := fun k => match k with
  | 0 => ("MachineHall$Plan", "batches", "I", false)
  | 1 => ("MachineHall$Plan", "unlaid", "I", false)
  | 2 => ("MachineHall$Plan", "parts", "[[I", true)
  | 3 => ("MachineHall$Plan", "works", "[I", true)
  | 4 => ("MachineHall$Plan", "froms", "[I", true)
  | 5 => ("MachineHall$Plan", "dues", "[I", true)
  | 6 => ("MachineHall$Plan", "mosts", "[I", true)
  | 7 => ("MachineHall$Plan", "flow", "LMachineHall$Flow;", true)
  | _ => ("MachineHall$Plan", "laidFor", "I", false)
def tyX3 : Nat → FieldType := fun k => match k with
  | 0 => .int
  | 1 => .int
  | 2 => .array (.array .int)
  | 3 => .array .int
  | 4 => .array .int
  | 5 => .array .int
  | 6 => .array .int
  | 7 => .object "MachineHall$Flow"
  | _ => .int
abbrev wsX30 : List Cond := u_ws RX3 TX3 9
theorem nmX3 : ∀ a, a < 9 → ∀ b, b < 9 → a ≠ b → (TX3 a).2.1 ≠ (TX3 b).2.1 := by decide +kernel
theorem tyX3_ok : ∀ k, k < 9 → parseFieldDescriptor (TX3 k).2.2.1 = some (tyX3 k) := by decide +kernel
abbrev cX3_init : ByteArray := prog_5_method_1_code
def yX3_init : MethodName := ⟨RX3, "<init>", "()V"⟩
abbrev cX3_hasBatch : ByteArray := prog_5_method_2_code
def yX3_hasBatch : MethodName := ⟨RX3, "hasBatch", "(I)Z"⟩
abbrev cX3_addBatch : ByteArray := prog_5_method_3_code
def yX3_addBatch : MethodName := ⟨RX3, "addBatch", "(IIII)I"⟩
abbrev cX3_forget : ByteArray := prog_5_method_4_code
def yX3_forget : MethodName := ⟨RX3, "forget", "()V"⟩
abbrev cX3_lay : ByteArray := prog_5_method_5_code
def yX3_lay : MethodName := ⟨RX3, "lay", "(LMachineHall$Hall;I)V"⟩
abbrev cX3_layPipes : ByteArray := prog_5_method_6_code
def yX3_layPipes : MethodName := ⟨RX3, "layPipes", "(LMachineHall$Hall;I)I"⟩
abbrev cX3_settleParts : ByteArray := prog_5_method_7_code
def yX3_settleParts : MethodName := ⟨RX3, "settleParts", "()V"⟩
def RX4 : String := "MachineHall$Sheets"
def TX4 : u_T := fun k => match k with
  | 0 => ("MachineHall$Sheets", "numbers", "[[J", true)
  | 1 => ("MachineHall$Sheets", "sorts", "[I", true)
  | _ => ("MachineHall$Sheets", "lengths", "[I", true)
def tyX4 : Nat → FieldType := fun k => match k with
  | 0 => .array (.array .long)
  | 1 => .array .int
  | _ => .array .int
abbrev wsX40 : List Cond := u_ws RX4 TX4 3
theorem nmX4 : ∀ a, a < 3 → ∀ b, b < 3 → a ≠ b → (TX4 a).2.1 ≠ (TX4 b).2.1 := by decide +kernel
theorem tyX4_ok : ∀ k, k < 3 → parseFieldDescriptor (TX4 k).2.2.1 = some (tyX4 k) := by decide +kernel
abbrev cX4_init : ByteArray := prog_6_method_1_code
def yX4_init : MethodName := ⟨RX4, "<init>", "()V"⟩
abbrev cX4_isNumber : ByteArray := prog_6_method_2_code
def yX4_isNumber : MethodName := ⟨RX4, "isNumber", "(I)Z"⟩
abbrev cX4_isMissing : ByteArray := prog_6_method_3_code
def yX4_isMissing : MethodName := ⟨RX4, "isMissing", "(I)Z"⟩
abbrev cX4_make : ByteArray := prog_6_method_4_code
def yX4_make : MethodName := ⟨RX4, "make", "(III)V"⟩
abbrev cX4_lose : ByteArray := prog_6_method_5_code
def yX4_lose : MethodName := ⟨RX4, "lose", "(I)V"⟩
abbrev cX4_at : ByteArray := prog_6_method_6_code
def yX4_at : MethodName := ⟨RX4, "at", "(II)J"⟩
abbrev cX4_put : ByteArray := prog_6_method_7_code
def yX4_put : MethodName := ⟨RX4, "put", "(IIJ)V"⟩
abbrev cX4_whyNoPlace : ByteArray := prog_6_method_8_code
def yX4_whyNoPlace : MethodName := ⟨RX4, "whyNoPlace", "(II)I"⟩
abbrev cX4_whyNotFirst : ByteArray := prog_6_method_9_code
def yX4_whyNotFirst : MethodName := ⟨RX4, "whyNotFirst", "(III)I"⟩
abbrev cX4_spans : ByteArray := prog_6_method_10_code
def yX4_spans : MethodName := ⟨RX4, "spans", "(III)Z"⟩
abbrev cX4_carry : ByteArray := prog_6_method_11_code
def yX4_carry : MethodName := ⟨RX4, "carry", "(IIIII)V"⟩
abbrev cX4_cut : ByteArray := prog_6_method_12_code
def yX4_cut : MethodName := ⟨RX4, "cut", "(JI)J"⟩
def RX5 : String := "MachineHall$Waiting"
def TX5 : u_T := fun k => match k with
  | 0 => ("MachineHall$Waiting", "greatest", "I", false)
  | 1 => ("MachineHall$Waiting", "together", "I", false)
  | 2 => ("MachineHall$Waiting", "came", "I", false)
  | 3 => ("MachineHall$Waiting", "waited", "I", false)
  | 4 => ("MachineHall$Waiting", "end", "I", false)
  | _ => ("MachineHall$Waiting", "freeAt", "[I", true)
def tyX5 : Nat → FieldType := fun k => match k with
  | 0 => .int
  | 1 => .int
  | 2 => .int
  | 3 => .int
  | 4 => .int
  | _ => .array .int
abbrev wsX50 : List Cond := u_ws RX5 TX5 6
theorem nmX5 : ∀ a, a < 6 → ∀ b, b < 6 → a ≠ b → (TX5 a).2.1 ≠ (TX5 b).2.1 := by decide +kernel
theorem tyX5_ok : ∀ k, k < 6 → parseFieldDescriptor (TX5 k).2.2.1 = some (tyX5 k) := by decide +kernel
abbrev cX5_init : ByteArray := prog_7_method_1_code
def yX5_init : MethodName := ⟨RX5, "<init>", "()V"⟩
abbrev cX5_serve : ByteArray := prog_7_method_2_code
def yX5_serve : MethodName := ⟨RX5, "serve", "(LMachineHall$Sheets;IIII)V"⟩
abbrev cX5_told : ByteArray := prog_7_method_3_code
def yX5_told : MethodName := ⟨RX5, "told", "(I)I"⟩
abbrev cX5_note : ByteArray := prog_7_method_4_code
def yX5_note : MethodName := ⟨RX5, "note", "(I)V"⟩
def RX6 : String := "MachineHall"
def TX6 : u_T := fun k => match k with
  | 0 => ("MachineHall", "sheets", "LMachineHall$Sheets;", true)
  | 1 => ("MachineHall", "hall", "LMachineHall$Hall;", true)
  | 2 => ("MachineHall", "plan", "LMachineHall$Plan;", true)
  | 3 => ("MachineHall", "waiting", "LMachineHall$Waiting;", true)
  | 4 => ("MachineHall", "market", "LMachineHall$Market;", true)
  | _ => ("MachineHall", "status", "I", false)
def tyX6 : Nat → FieldType := fun k => match k with
  | 0 => .object "MachineHall$Sheets"
  | 1 => .object "MachineHall$Hall"
  | 2 => .object "MachineHall$Plan"
  | 3 => .object "MachineHall$Waiting"
  | 4 => .object "MachineHall$Market"
  | _ => .int
abbrev wsX60 : List Cond := u_ws RX6 TX6 6
theorem nmX6 : ∀ a, a < 6 → ∀ b, b < 6 → a ≠ b → (TX6 a).2.1 ≠ (TX6 b).2.1 := by decide +kernel
theorem tyX6_ok : ∀ k, k < 6 → parseFieldDescriptor (TX6 k).2.2.1 = some (tyX6 k) := by decide +kernel
abbrev cX6_init : ByteArray := prog_1_method_1_code
def yX6_init : MethodName := ⟨RX6, "<init>", "()V"⟩
abbrev cX6_status : ByteArray := prog_1_method_2_code
def yX6_status : MethodName := ⟨RX6, "status", "()I"⟩
abbrev cX6_sheet : ByteArray := prog_1_method_3_code
def yX6_sheet : MethodName := ⟨RX6, "sheet", "(III)Z"⟩
abbrev cX6_write : ByteArray := prog_1_method_4_code
def yX6_write : MethodName := ⟨RX6, "write", "(IIJ)Z"⟩
abbrev cX6_read : ByteArray := prog_1_method_5_code
def yX6_read : MethodName := ⟨RX6, "read", "(II)J"⟩
abbrev cX6_drop : ByteArray := prog_1_method_6_code
def yX6_drop : MethodName := ⟨RX6, "drop", "(I)Z"⟩
abbrev cX6_copy : ByteArray := prog_1_method_7_code
def yX6_copy : MethodName := ⟨RX6, "copy", "(IIIII)Z"⟩
abbrev cX6_none : ByteArray := prog_1_method_8_code
def yX6_none : MethodName := ⟨RX6, "none", "()Z"⟩
abbrev cX6_machine : ByteArray := prog_1_method_9_code
def yX6_machine : MethodName := ⟨RX6, "machine", "(II)I"⟩
abbrev cX6_up : ByteArray := prog_1_method_10_code
def yX6_up : MethodName := ⟨RX6, "up", "(IZ)Z"⟩
abbrev cX6_ask : ByteArray := prog_1_method_11_code
def yX6_ask : MethodName := ⟨RX6, "ask", "(III)I"⟩
abbrev cX6_apart : ByteArray := prog_1_method_12_code
def yX6_apart : MethodName := ⟨RX6, "apart", "(IIZ)Z"⟩
abbrev cX6_count : ByteArray := prog_1_method_13_code
def yX6_count : MethodName := ⟨RX6, "count", "(I)I"⟩
abbrev cX6_fits : ByteArray := prog_1_method_14_code
def yX6_fits : MethodName := ⟨RX6, "fits", "(II)I"⟩
abbrev cX6_on : ByteArray := prog_1_method_15_code
def yX6_on : MethodName := ⟨RX6, "on", "(III)I"⟩
abbrev cX6_lack : ByteArray := prog_1_method_16_code
def yX6_lack : MethodName := ⟨RX6, "lack", "(II)I"⟩
abbrev cX6_left : ByteArray := prog_1_method_17_code
def yX6_left : MethodName := ⟨RX6, "left", "(II)I"⟩
abbrev cX6_enough : ByteArray := prog_1_method_18_code
def yX6_enough : MethodName := ⟨RX6, "enough", "(I)I"⟩
abbrev cX6_batch : ByteArray := prog_1_method_19_code
def yX6_batch : MethodName := ⟨RX6, "batch", "(IIII)I"⟩
abbrev cX6_rest : ByteArray := prog_1_method_20_code
def yX6_rest : MethodName := ⟨RX6, "rest", "(I)I"⟩
abbrev cX6_part : ByteArray := prog_1_method_21_code
def yX6_part : MethodName := ⟨RX6, "part", "(III)I"⟩
abbrev cX6_line : ByteArray := prog_1_method_22_code
def yX6_line : MethodName := ⟨RX6, "line", "(IIIII)I"⟩
abbrev cX6_hands : ByteArray := prog_1_method_23_code
def yX6_hands : MethodName := ⟨RX6, "hands", "(IIII)I"⟩
abbrev cX6_wanted : ByteArray := prog_1_method_24_code
def yX6_wanted : MethodName := ⟨RX6, "wanted", "(I)Z"⟩
abbrev cX6_have : ByteArray := prog_1_method_25_code
def yX6_have : MethodName := ⟨RX6, "have", "(I)Z"⟩
abbrev cX6_type : ByteArray := prog_1_method_26_code
def yX6_type : MethodName := ⟨RX6, "type", "(IIII)I"⟩
abbrev cX6_cheapest : ByteArray := prog_1_method_27_code
def yX6_cheapest : MethodName := ⟨RX6, "cheapest", "()I"⟩
abbrev cX6_buys : ByteArray := prog_1_method_28_code
def yX6_buys : MethodName := ⟨RX6, "buys", "(II)I"⟩
abbrev cX6_agree : ByteArray := prog_1_method_29_code
def yX6_agree : MethodName := ⟨RX6, "agree", "()Z"⟩
abbrev cX6_refuse : ByteArray := prog_1_method_30_code
def yX6_refuse : MethodName := ⟨RX6, "refuse", "(I)Z"⟩
abbrev cX6_answer : ByteArray := prog_1_method_31_code
def yX6_answer : MethodName := ⟨RX6, "answer", "(I)I"⟩
abbrev cX6_deny : ByteArray := prog_1_method_32_code
def yX6_deny : MethodName := ⟨RX6, "deny", "(I)I"⟩
abbrev cX6_within : ByteArray := prog_1_method_33_code
def yX6_within : MethodName := ⟨RX6, "within", "(JII)Z"⟩
abbrev cX6_isHour : ByteArray := prog_1_method_34_code
def yX6_isHour : MethodName := ⟨RX6, "isHour", "(I)Z"⟩
abbrev cX6_isMonth : ByteArray := prog_1_method_35_code
def yX6_isMonth : MethodName := ⟨RX6, "isMonth", "(I)Z"⟩
abbrev cX6_isLine : ByteArray := prog_1_method_36_code
def yX6_isLine : MethodName := ⟨RX6, "isLine", "(III)Z"⟩
def RX7 : String := "MachineHallModel"
def TX7 : u_T := fun k => match k with
  | 0 => ("MachineHallModel", "status", "I", false)
  | 1 => ("MachineHallModel", "sort", "[I", true)
  | 2 => ("MachineHallModel", "many", "[I", true)
  | 3 => ("MachineHallModel", "sheets", "[J", true)
  | 4 => ("MachineHallModel", "machines", "I", false)
  | 5 => ("MachineHallModel", "asks", "I", false)
  | 6 => ("MachineHallModel", "batches", "I", false)
  | 7 => ("MachineHallModel", "types", "I", false)
  | 8 => ("MachineHallModel", "size", "[I", true)
  | 9 => ("MachineHallModel", "room", "[I", true)
  | 10 => ("MachineHallModel", "isUp", "[Z", true)
  | 11 => ("MachineHallModel", "need", "[I", true)
  | 12 => ("MachineHallModel", "first", "[I", true)
  | 13 => ("MachineHallModel", "last", "[I", true)
  | 14 => ("MachineHallModel", "apart", "[I", true)
  | 15 => ("MachineHallModel", "needs", "[I", true)
  | 16 => ("MachineHallModel", "may", "[Z", true)
  | 17 => ("MachineHallModel", "can", "[Z", true)
  | 18 => ("MachineHallModel", "work", "[I", true)
  | 19 => ("MachineHallModel", "from", "[I", true)
  | 20 => ("MachineHallModel", "due", "[I", true)
  | 21 => ("MachineHallModel", "most", "[I", true)
  | 22 => ("MachineHallModel", "part", "[I", true)
  | 23 => ("MachineHallModel", "has", "[I", true)
  | 24 => ("MachineHallModel", "used", "[I", true)
  | 25 => ("MachineHallModel", "done", "[I", true)
  | 26 => ("MachineHallModel", "stays", "[Z", true)
  | 27 => ("MachineHallModel", "before", "[I", true)
  | 28 => ("MachineHallModel", "line", "[I", true)
  | 29 => ("MachineHallModel", "free", "[I", true)
  | 30 => ("MachineHallModel", "greatest", "I", false)
  | 31 => ("MachineHallModel", "together", "I", false)
  | 32 => ("MachineHallModel", "comes", "I", false)
  | 33 => ("MachineHallModel", "waiting", "I", false)
  | 34 => ("MachineHallModel", "end", "I", false)
  | 35 => ("MachineHallModel", "wanted", "[I", true)
  | 36 => ("MachineHallModel", "typeSize", "[I", true)
  | 37 => ("MachineHallModel", "lead", "[I", true)
  | 38 => ("MachineHallModel", "power", "[I", true)
  | 39 => ("MachineHallModel", "price", "[I", true)
  | 40 => ("MachineHallModel", "have", "I", false)
  | _ => ("MachineHallModel", "least", "[I", true)
def tyX7 : Nat → FieldType := fun k => match k with
  | 0 => .int
  | 1 => .array .int
  | 2 => .array .int
  | 3 => .array .long
  | 4 => .int
  | 5 => .int
  | 6 => .int
  | 7 => .int
  | 8 => .array .int
  | 9 => .array .int
  | 10 => .array .boolean
  | 11 => .array .int
  | 12 => .array .int
  | 13 => .array .int
  | 14 => .array .int
  | 15 => .array .int
  | 16 => .array .boolean
  | 17 => .array .boolean
  | 18 => .array .int
  | 19 => .array .int
  | 20 => .array .int
  | 21 => .array .int
  | 22 => .array .int
  | 23 => .array .int
  | 24 => .array .int
  | 25 => .array .int
  | 26 => .array .boolean
  | 27 => .array .int
  | 28 => .array .int
  | 29 => .array .int
  | 30 => .int
  | 31 => .int
  | 32 => .int
  | 33 => .int
  | 34 => .int
  | 35 => .array .int
  | 36 => .array .int
  | 37 => .array .int
  | 38 => .array .int
  | 39 => .array .int
  | 40 => .int
  | _ => .array .int
abbrev wsX70 : List Cond := u_ws RX7 TX7 42
theorem nmX7 : ∀ a, a < 42 → ∀ b, b < 42 → a ≠ b → (TX7 a).2.1 ≠ (TX7 b).2.1 := by decide +kernel
theorem tyX7_ok : ∀ k, k < 42 → parseFieldDescriptor (TX7 k).2.2.1 = some (tyX7 k) := by decide +kernel
abbrev cX7_init : ByteArray := prog_9_method_1_code
def yX7_init : MethodName := ⟨RX7, "<init>", "()V"⟩
abbrev cX7_status : ByteArray := prog_9_method_2_code
def yX7_status : MethodName := ⟨RX7, "status", "()I"⟩
abbrev cX7_is : ByteArray := prog_9_method_3_code
def yX7_is : MethodName := ⟨RX7, "is", "(I)Z"⟩
abbrev cX7_refuse : ByteArray := prog_9_method_4_code
def yX7_refuse : MethodName := ⟨RX7, "refuse", "(I)I"⟩
abbrev cX7_isSheet : ByteArray := prog_9_method_5_code
def yX7_isSheet : MethodName := ⟨RX7, "isSheet", "(I)Z"⟩
abbrev cX7_cut : ByteArray := prog_9_method_6_code
def yX7_cut : MethodName := ⟨RX7, "cut", "(JI)J"⟩
abbrev cX7_sheet : ByteArray := prog_9_method_7_code
def yX7_sheet : MethodName := ⟨RX7, "sheet", "(III)Z"⟩
abbrev cX7_wrong : ByteArray := prog_9_method_8_code
def yX7_wrong : MethodName := ⟨RX7, "wrong", "(II)I"⟩
abbrev cX7_write : ByteArray := prog_9_method_9_code
def yX7_write : MethodName := ⟨RX7, "write", "(IIJ)Z"⟩
abbrev cX7_read : ByteArray := prog_9_method_10_code
def yX7_read : MethodName := ⟨RX7, "read", "(II)J"⟩
abbrev cX7_copy : ByteArray := prog_9_method_11_code
def yX7_copy : MethodName := ⟨RX7, "copy", "(IIIII)Z"⟩
abbrev cX7_drop : ByteArray := prog_9_method_12_code
def yX7_drop : MethodName := ⟨RX7, "drop", "(I)Z"⟩
abbrev cX7_none : ByteArray := prog_9_method_13_code
def yX7_none : MethodName := ⟨RX7, "none", "()Z"⟩
abbrev cX7_wrongNumbers : ByteArray := prog_9_method_14_code
def yX7_wrongNumbers : MethodName := ⟨RX7, "wrongNumbers", "(IIJ)I"⟩
abbrev cX7_machine : ByteArray := prog_9_method_15_code
def yX7_machine : MethodName := ⟨RX7, "machine", "(II)I"⟩
abbrev cX7_up : ByteArray := prog_9_method_16_code
def yX7_up : MethodName := ⟨RX7, "up", "(IZ)Z"⟩
abbrev cX7_isAsk : ByteArray := prog_9_method_17_code
def yX7_isAsk : MethodName := ⟨RX7, "isAsk", "(I)Z"⟩
abbrev cX7_ask : ByteArray := prog_9_method_18_code
def yX7_ask : MethodName := ⟨RX7, "ask", "(III)I"⟩
abbrev cX7_apart : ByteArray := prog_9_method_19_code
def yX7_apart : MethodName := ⟨RX7, "apart", "(IIZ)Z"⟩
abbrev cX7_isHour : ByteArray := prog_9_method_20_code
def yX7_isHour : MethodName := ⟨RX7, "isHour", "(I)Z"⟩
abbrev cX7_isFall : ByteArray := prog_9_method_21_code
def yX7_isFall : MethodName := ⟨RX7, "isFall", "(I)Z"⟩
abbrev cX7_stands : ByteArray := prog_9_method_22_code
def yX7_stands : MethodName := ⟨RX7, "stands", "(II)Z"⟩
abbrev cX7_sizes : ByteArray := prog_9_method_23_code
def yX7_sizes : MethodName := ⟨RX7, "sizes", "(I)I"⟩
abbrev cX7_count : ByteArray := prog_9_method_24_code
def yX7_count : MethodName := ⟨RX7, "count", "(I)I"⟩
abbrev cX7_look : ByteArray := prog_9_method_25_code
def yX7_look : MethodName := ⟨RX7, "look", "(I)V"⟩
abbrev cX7_setOf : ByteArray := prog_9_method_26_code
def yX7_setOf : MethodName := ⟨RX7, "setOf", "(I)I"⟩
abbrev cX7_fits : ByteArray := prog_9_method_27_code
def yX7_fits : MethodName := ⟨RX7, "fits", "(II)I"⟩
abbrev cX7_on : ByteArray := prog_9_method_28_code
def yX7_on : MethodName := ⟨RX7, "on", "(III)I"⟩
abbrev cX7_lack : ByteArray := prog_9_method_29_code
def yX7_lack : MethodName := ⟨RX7, "lack", "(II)I"⟩
abbrev cX7_leftOf : ByteArray := prog_9_method_30_code
def yX7_leftOf : MethodName := ⟨RX7, "leftOf", "(II)I"⟩
abbrev cX7_left : ByteArray := prog_9_method_31_code
def yX7_left : MethodName := ⟨RX7, "left", "(II)I"⟩
abbrev cX7_enough : ByteArray := prog_9_method_32_code
def yX7_enough : MethodName := ⟨RX7, "enough", "(I)I"⟩
abbrev cX7_batch : ByteArray := prog_9_method_33_code
def yX7_batch : MethodName := ⟨RX7, "batch", "(IIII)I"⟩
abbrev cX7_isIn : ByteArray := prog_9_method_34_code
def yX7_isIn : MethodName := ⟨RX7, "isIn", "(II)Z"⟩
abbrev cX7_goes : ByteArray := prog_9_method_35_code
def yX7_goes : MethodName := ⟨RX7, "goes", "(II)I"⟩
abbrev cX7_moves : ByteArray := prog_9_method_36_code
def yX7_moves : MethodName := ⟨RX7, "moves", "(III)V"⟩
abbrev cX7_isWay : ByteArray := prog_9_method_37_code
def yX7_isWay : MethodName := ⟨RX7, "isWay", "(II)Z"⟩
abbrev cX7_goAlong : ByteArray := prog_9_method_38_code
def yX7_goAlong : MethodName := ⟨RX7, "goAlong", "(III)I"⟩
abbrev cX7_layIn : ByteArray := prog_9_method_39_code
def yX7_layIn : MethodName := ⟨RX7, "layIn", "(I)I"⟩
abbrev cX7_rest : ByteArray := prog_9_method_40_code
def yX7_rest : MethodName := ⟨RX7, "rest", "(I)I"⟩
abbrev cX7_part : ByteArray := prog_9_method_41_code
def yX7_part : MethodName := ⟨RX7, "part", "(III)I"⟩
abbrev cX7_step : ByteArray := prog_9_method_42_code
def yX7_step : MethodName := ⟨RX7, "step", "(IIII)V"⟩
abbrev cX7_line : ByteArray := prog_9_method_43_code
def yX7_line : MethodName := ⟨RX7, "line", "(IIIII)I"⟩
abbrev cX7_hands : ByteArray := prog_9_method_44_code
def yX7_hands : MethodName := ⟨RX7, "hands", "(IIII)I"⟩
abbrev cX7_wanted : ByteArray := prog_9_method_45_code
def yX7_wanted : MethodName := ⟨RX7, "wanted", "(I)Z"⟩
abbrev cX7_have : ByteArray := prog_9_method_46_code
def yX7_have : MethodName := ⟨RX7, "have", "(I)Z"⟩
abbrev cX7_type : ByteArray := prog_9_method_47_code
def yX7_type : MethodName := ⟨RX7, "type", "(IIII)I"⟩
abbrev cX7_at : ByteArray := prog_9_method_48_code
def yX7_at : MethodName := ⟨RX7, "at", "(III)I"⟩
abbrev cX7_takes : ByteArray := prog_9_method_49_code
def yX7_takes : MethodName := ⟨RX7, "takes", "(II)I"⟩
abbrev cX7_reckon : ByteArray := prog_9_method_50_code
def yX7_reckon : MethodName := ⟨RX7, "reckon", "()V"⟩
abbrev cX7_cheapest : ByteArray := prog_9_method_51_code
def yX7_cheapest : MethodName := ⟨RX7, "cheapest", "()I"⟩
abbrev cX7_buys : ByteArray := prog_9_method_52_code
def yX7_buys : MethodName := ⟨RX7, "buys", "(II)I"⟩
def RJ9 : String := "java/lang/Math"
def TJ9 : u_T := fun k => match k with
  | _ => ("", "", "", false)
def tyJ9 : Nat → FieldType := fun k => match k with
  | _ => .int
abbrev wsJ90 : List Cond := u_ws RJ9 TJ9 0
theorem nmJ9 : ∀ a, a < 0 → ∀ b, b < 0 → a ≠ b → (TJ9 a).2.1 ≠ (TJ9 b).2.1 := by decide +kernel
theorem tyJ9_ok : ∀ k, k < 0 → parseFieldDescriptor (TJ9 k).2.2.1 = some (tyJ9 k) := by decide +kernel
abbrev cJ9_max_7cf53 : ByteArray := prog_10_method_65_code
def yJ9_max_7cf53 : MethodName := ⟨RJ9, "max", "(II)I"⟩
abbrev cJ9_min_7cf53 : ByteArray := prog_10_method_69_code
def yJ9_min_7cf53 : MethodName := ⟨RJ9, "min", "(II)I"⟩
def RJ10 : String := "java/lang/System"
def TJ10 : u_T := fun k => match k with
  | _ => ("", "", "", false)
def tyJ10 : Nat → FieldType := fun k => match k with
  | _ => .int
abbrev wsJ100 : List Cond := u_ws RJ10 TJ10 0
theorem nmJ10 : ∀ a, a < 0 → ∀ b, b < 0 → a ≠ b → (TJ10 a).2.1 ≠ (TJ10 b).2.1 := by decide +kernel
theorem tyJ10_ok : ∀ k, k < 0 → parseFieldDescriptor (TJ10 k).2.2.1 = some (tyJ10 k) := by decide +kernel
def RJ7 : String := "java/util/Arrays"
def TJ7 : u_T := fun k => match k with
  | _ => ("", "", "", false)
def tyJ7 : Nat → FieldType := fun k => match k with
  | _ => .int
abbrev wsJ70 : List Cond := u_ws RJ7 TJ7 0
theorem nmJ7 : ∀ a, a < 0 → ∀ b, b < 0 → a ≠ b → (TJ7 a).2.1 ≠ (TJ7 b).2.1 := by decide +kernel
theorem tyJ7_ok : ∀ k, k < 0 → parseFieldDescriptor (TJ7 k).2.2.1 = some (tyJ7 k) := by decide +kernel
abbrev cJ7_rangeCheck_23922 : ByteArray := prog_12_method_30_code
def yJ7_rangeCheck_23922 : MethodName := ⟨RJ7, "rangeCheck", "(III)V"⟩
abbrev cJ7_fill_d0a16 : ByteArray := prog_12_method_101_code
def yJ7_fill_d0a16 : MethodName := ⟨RJ7, "fill", "([JJ)V"⟩
abbrev cJ7_fill_53178 : ByteArray := prog_12_method_103_code
def yJ7_fill_53178 : MethodName := ⟨RJ7, "fill", "([II)V"⟩
abbrev cJ7_fill_fda19 : ByteArray := prog_12_method_104_code
def yJ7_fill_fda19 : MethodName := ⟨RJ7, "fill", "([IIII)V"⟩
def RL : String := "MachineHallLaw"
abbrev cL_law : ByteArray := code
def yL_law : MethodName := ⟨RL, "law", "([I)Z"⟩
def wsX0_init : List Cond := .code yX0_init cX0_init 2 none :: ([.methodLink RX0 3 objectInit, .instanceMethod objectInit, .code objectInit ⟨#[0xb1]⟩ 1 none, .fieldLink RX0 9 "MachineHall$Flow" "nodes" "I", .classLink RX0 15 "[[I", .arrayClass .int, .fieldLink RX0 17 "MachineHall$Flow" "open" "[[I", .fieldLink RX0 20 "MachineHall$Flow" "cameFrom" "[I", .fieldLink RX0 24 "MachineHall$Flow" "reached" "[I"] ++ wsX00)
def wsJ7_fill_53178 : List Cond := .code yJ7_fill_53178 cJ7_fill_53178 4 none :: ([])
def wsX0_empty : List Cond := .code yX0_empty cX0_empty 2 none :: ([.fieldLink RX0 9 "MachineHall$Flow" "nodes" "I", .fieldLink RX0 17 "MachineHall$Flow" "open" "[[I", .methodLink RX0 27 yJ7_fill_53178, .static yJ7_fill_53178, .initialized RJ7, .code yJ7_fill_53178 cJ7_fill_53178 4 none] ++ wsX00)
def wsX0_pipe : List Cond := .code yX0_pipe cX0_pipe 4 none :: ([.fieldLink RX0 17 "MachineHall$Flow" "open" "[[I"] ++ wsX00)
def wsX0_findWay : List Cond := .code yX0_findWay cX0_findWay 7 (some .boolean) :: ([.fieldLink RX0 20 "MachineHall$Flow" "cameFrom" "[I", .fieldLink RX0 24 "MachineHall$Flow" "reached" "[I", .fieldLink RX0 9 "MachineHall$Flow" "nodes" "I", .fieldLink RX0 17 "MachineHall$Flow" "open" "[[I", .methodLink RX0 27 yJ7_fill_53178, .static yJ7_fill_53178, .initialized RJ7, .code yJ7_fill_53178 cJ7_fill_53178 4 none] ++ wsX00)
def wsX0_send : List Cond := .code yX0_send cX0_send 7 (some .int) :: ([.fieldLink RX0 9 "MachineHall$Flow" "nodes" "I", .fieldLink RX0 17 "MachineHall$Flow" "open" "[[I", .fieldLink RX0 20 "MachineHall$Flow" "cameFrom" "[I", .methodLink RX0 45 Lib.Math.min.name, .static Lib.Math.min.name, .initialized "java/lang/Math", .code Lib.Math.min.name Lib.Math.min.code 2 (some .int)] ++ wsX00)
def wsX0_push : List Cond := .code yX0_push cX0_push 6 (some .int) :: ([.constant RX0 33 (1000000), .methodLink RX0 34 yX0_findWay, .instanceMethod yX0_findWay, .selects RX0 yX0_findWay yX0_findWay, .initialized RX0, .code yX0_findWay cX0_findWay 7 (some .boolean), .fieldLink RX0 20 "MachineHall$Flow" "cameFrom" "[I", .fieldLink RX0 24 "MachineHall$Flow" "reached" "[I", .fieldLink RX0 9 "MachineHall$Flow" "nodes" "I", .fieldLink RX0 17 "MachineHall$Flow" "open" "[[I", .methodLink RX0 27 yJ7_fill_53178, .static yJ7_fill_53178, .initialized RJ7, .code yJ7_fill_53178 cJ7_fill_53178 4 none, .methodLink RX0 38 yX0_send, .instanceMethod yX0_send, .selects RX0 yX0_send yX0_send, .code yX0_send cX0_send 7 (some .int), .methodLink RX0 45 Lib.Math.min.name, .static Lib.Math.min.name, .initialized "java/lang/Math", .code Lib.Math.min.name Lib.Math.min.code 2 (some .int)] ++ wsX00)
def wsX0_settle_r1 : List Cond := [Cond.fieldLink RX0 17 "MachineHall$Flow" "open" "[[I", Cond.methodLink RX0 42 yX0_push, Cond.instanceMethod yX0_push, Cond.selects RX0 yX0_push yX0_push, Cond.initialized RX0, Cond.code yX0_push cX0_push 6 (some .int), Cond.constant RX0 33 (1000000), Cond.methodLink RX0 34 yX0_findWay, Cond.instanceMethod yX0_findWay, Cond.selects RX0 yX0_findWay yX0_findWay, Cond.code yX0_findWay cX0_findWay 7 (some .boolean), Cond.fieldLink RX0 20 "MachineHall$Flow" "cameFrom" "[I", Cond.fieldLink RX0 24 "MachineHall$Flow" "reached" "[I", Cond.fieldLink RX0 9 "MachineHall$Flow" "nodes" "I", Cond.methodLink RX0 27 yJ7_fill_53178, Cond.static yJ7_fill_53178, Cond.initialized RJ7, Cond.code yJ7_fill_53178 cJ7_fill_53178 4 none, Cond.methodLink RX0 38 yX0_send, Cond.instanceMethod yX0_send, Cond.selects RX0 yX0_send yX0_send, Cond.code yX0_send cX0_send 7 (some .int), Cond.methodLink RX0 45 Lib.Math.min.name, Cond.static Lib.Math.min.name]
def wsX0_settle_r2 : List Cond := [Cond.initialized "java/lang/Math", Cond.code Lib.Math.min.name Lib.Math.min.code 2 (some .int)]
def wsX0_settle : List Cond := .code yX0_settle cX0_settle 5 (some .int) :: ((wsX0_settle_r1 ++ wsX0_settle_r2) ++ wsX00)
def wsX1_init : List Cond := .code yX1_init cX1_init 1 none :: ([.methodLink RX1 5 objectInit, .instanceMethod objectInit, .code objectInit ⟨#[0xb1]⟩ 1 none, .arrayClass .int, .fieldLink RX1 11 "MachineHall$Hall" "sizes" "[I", .fieldLink RX1 15 "MachineHall$Hall" "inRoom" "[I", .fieldLink RX1 18 "MachineHall$Hall" "needs" "[I", .fieldLink RX1 21 "MachineHall$Hall" "foes" "[I", .fieldLink RX1 24 "MachineHall$Hall" "ofHour" "[I", .fieldLink RX1 27 "MachineHall$Hall" "load" "[I", .arrayClass .boolean, .fieldLink RX1 30 "MachineHall$Hall" "clash" "[Z", .fieldLink RX1 34 "MachineHall$Hall" "asked" "[Z", .fieldLink RX1 37 "MachineHall$Hall" "latest" "[I", .fieldLink RX1 40 "MachineHall$Hall" "latestFor" "I"] ++ wsX10)
def wsX6_within : List Cond := .code yX6_within cX6_within 4 (some .boolean) :: ([])
def wsX1_isFall : List Cond := .code yX1_isFall cX1_isFall 1 (some .boolean) :: ([.static yX6_within, .initialized RX6, .code yX6_within cX6_within 4 (some .boolean)])
def wsX1_hasMachine : List Cond := .code yX1_hasMachine cX1_hasMachine 2 (some .boolean) :: ([.fieldLink RX1 48 "MachineHall$Hall" "machines" "I", .static yX6_within, .initialized RX6, .code yX6_within cX6_within 4 (some .boolean)] ++ wsX10)
def wsX1_hasAsk : List Cond := .code yX1_hasAsk cX1_hasAsk 2 (some .boolean) :: ([.fieldLink RX1 51 "MachineHall$Hall" "asks" "I", .static yX6_within, .initialized RX6, .code yX6_within cX6_within 4 (some .boolean)] ++ wsX10)
def wsX1_has : List Cond := .code yX1_has cX1_has 2 (some .boolean) :: ([])
def wsX1_isUp : List Cond := .code yX1_isUp cX1_isUp 2 (some .boolean) :: ([.fieldLink RX1 54 "MachineHall$Hall" "ups" "I", .methodLink RX1 57 yX1_has, .static yX1_has, .initialized RX1, .code yX1_has cX1_has 2 (some .boolean)] ++ wsX10)
def wsX1_isAskOf : List Cond := .code yX1_isAskOf cX1_isAskOf 3 (some .boolean) :: ([.fieldLink RX1 24 "MachineHall$Hall" "ofHour" "[I", .methodLink RX1 57 yX1_has, .static yX1_has, .initialized RX1, .code yX1_has cX1_has 2 (some .boolean)] ++ wsX10)
def wsX1_areFoes : List Cond := .code yX1_areFoes cX1_areFoes 3 (some .boolean) :: ([.fieldLink RX1 21 "MachineHall$Hall" "foes" "[I", .methodLink RX1 57 yX1_has, .static yX1_has, .initialized RX1, .code yX1_has cX1_has 2 (some .boolean)] ++ wsX10)
def wsX1_addMachine : List Cond := .code yX1_addMachine cX1_addMachine 4 (some .int) :: ([.fieldLink RX1 48 "MachineHall$Hall" "machines" "I", .fieldLink RX1 11 "MachineHall$Hall" "sizes" "[I", .fieldLink RX1 15 "MachineHall$Hall" "inRoom" "[I", .fieldLink RX1 54 "MachineHall$Hall" "ups" "I"] ++ wsX10)
def wsX1_turn : List Cond := .code yX1_turn cX1_turn 2 none :: ([.fieldLink RX1 54 "MachineHall$Hall" "ups" "I"] ++ wsX10)
def wsX1_markAsked : List Cond := .code yX1_markAsked cX1_markAsked 3 none :: ([.fieldLink RX1 34 "MachineHall$Hall" "asked" "[Z"] ++ wsX10)
def wsX1_tally : List Cond := .code yX1_tally cX1_tally 4 none :: ([.fieldLink RX1 40 "MachineHall$Hall" "latestFor" "I", .fieldLink RX1 51 "MachineHall$Hall" "asks" "I", .fieldLink RX1 27 "MachineHall$Hall" "load" "[I", .fieldLink RX1 18 "MachineHall$Hall" "needs" "[I", .fieldLink RX1 30 "MachineHall$Hall" "clash" "[Z", .fieldLink RX1 21 "MachineHall$Hall" "foes" "[I"] ++ wsX10)
def wsX1_addAsk : List Cond := .code yX1_addAsk cX1_addAsk 6 (some .int) :: ([.fieldLink RX1 51 "MachineHall$Hall" "asks" "I", .fieldLink RX1 18 "MachineHall$Hall" "needs" "[I", .fieldLink RX1 24 "MachineHall$Hall" "ofHour" "[I", .methodLink RX1 61 yX1_markAsked, .instanceMethod yX1_markAsked, .selects RX1 yX1_markAsked yX1_markAsked, .initialized RX1, .code yX1_markAsked cX1_markAsked 3 none, .fieldLink RX1 34 "MachineHall$Hall" "asked" "[Z", .methodLink RX1 65 yX1_tally, .instanceMethod yX1_tally, .selects RX1 yX1_tally yX1_tally, .code yX1_tally cX1_tally 4 none, .fieldLink RX1 40 "MachineHall$Hall" "latestFor" "I", .fieldLink RX1 27 "MachineHall$Hall" "load" "[I", .fieldLink RX1 30 "MachineHall$Hall" "clash" "[Z", .fieldLink RX1 21 "MachineHall$Hall" "foes" "[I"] ++ wsX10)
def wsX1_turnFoes : List Cond := .code yX1_turnFoes cX1_turnFoes 3 none :: ([.fieldLink RX1 21 "MachineHall$Hall" "foes" "[I", .methodLink RX1 65 yX1_tally, .instanceMethod yX1_tally, .selects RX1 yX1_tally yX1_tally, .initialized RX1, .code yX1_tally cX1_tally 4 none, .fieldLink RX1 40 "MachineHall$Hall" "latestFor" "I", .fieldLink RX1 51 "MachineHall$Hall" "asks" "I", .fieldLink RX1 27 "MachineHall$Hall" "load" "[I", .fieldLink RX1 18 "MachineHall$Hall" "needs" "[I", .fieldLink RX1 30 "MachineHall$Hall" "clash" "[Z"] ++ wsX10)
def wsX1_standing : List Cond := .code yX1_standing cX1_standing 2 (some .int) :: ([.fieldLink RX1 54 "MachineHall$Hall" "ups" "I", .fieldLink RX1 15 "MachineHall$Hall" "inRoom" "[I"] ++ wsX10)
def wsX1_sizeOf : List Cond := .code yX1_sizeOf cX1_sizeOf 4 (some .int) :: ([.fieldLink RX1 48 "MachineHall$Hall" "machines" "I", .fieldLink RX1 11 "MachineHall$Hall" "sizes" "[I", .methodLink RX1 57 yX1_has, .static yX1_has, .initialized RX1, .code yX1_has cX1_has 2 (some .boolean)] ++ wsX10)
def wsX1_greatestOn : List Cond := .code yX1_greatestOn cX1_greatestOn 4 (some .int) :: ([.fieldLink RX1 27 "MachineHall$Hall" "load" "[I", .fieldLink RX1 11 "MachineHall$Hall" "sizes" "[I", .fieldLink RX1 30 "MachineHall$Hall" "clash" "[Z", .fieldLink RX1 37 "MachineHall$Hall" "latest" "[I"] ++ wsX10)
def wsX1_findWith : List Cond := .code yX1_findWith cX1_findWith 4 none :: ([.fieldLink RX1 51 "MachineHall$Hall" "asks" "I", .fieldLink RX1 37 "MachineHall$Hall" "latest" "[I", .fieldLink RX1 34 "MachineHall$Hall" "asked" "[Z", .fieldLink RX1 27 "MachineHall$Hall" "load" "[I", .methodLink RX1 71 yX1_greatestOn, .instanceMethod yX1_greatestOn, .selects RX1 yX1_greatestOn yX1_greatestOn, .initialized RX1, .code yX1_greatestOn cX1_greatestOn 4 (some .int), .fieldLink RX1 11 "MachineHall$Hall" "sizes" "[I", .fieldLink RX1 30 "MachineHall$Hall" "clash" "[Z"] ++ wsX10)
def wsX1_findLatest : List Cond := .code yX1_findLatest cX1_findLatest 4 none :: ([.fieldLink RX1 40 "MachineHall$Hall" "latestFor" "I", .fieldLink RX1 37 "MachineHall$Hall" "latest" "[I", .fieldLink RX1 48 "MachineHall$Hall" "machines" "I", .fieldLink RX1 11 "MachineHall$Hall" "sizes" "[I", .methodLink RX1 96 yJ7_fill_53178, .static yJ7_fill_53178, .initialized RJ7, .code yJ7_fill_53178 cJ7_fill_53178 4 none, .methodLink RX1 57 yX1_has, .static yX1_has, .initialized RX1, .code yX1_has cX1_has 2 (some .boolean), .methodLink RX1 102 yX1_findWith, .instanceMethod yX1_findWith, .selects RX1 yX1_findWith yX1_findWith, .code yX1_findWith cX1_findWith 4 none, .fieldLink RX1 51 "MachineHall$Hall" "asks" "I", .fieldLink RX1 34 "MachineHall$Hall" "asked" "[Z", .fieldLink RX1 27 "MachineHall$Hall" "load" "[I", .methodLink RX1 71 yX1_greatestOn, .instanceMethod yX1_greatestOn, .selects RX1 yX1_greatestOn yX1_greatestOn, .code yX1_greatestOn cX1_greatestOn 4 (some .int), .fieldLink RX1 30 "MachineHall$Hall" "clash" "[Z"] ++ wsX10)
def wsX1_holds_r1 : List Cond := [Cond.fieldLink RX1 37 "MachineHall$Hall" "latest" "[I", Cond.fieldLink RX1 24 "MachineHall$Hall" "ofHour" "[I", Cond.methodLink RX1 68 yX1_findLatest, Cond.instanceMethod yX1_findLatest, Cond.selects RX1 yX1_findLatest yX1_findLatest, Cond.initialized RX1, Cond.code yX1_findLatest cX1_findLatest 4 none, Cond.fieldLink RX1 40 "MachineHall$Hall" "latestFor" "I", Cond.fieldLink RX1 48 "MachineHall$Hall" "machines" "I", Cond.fieldLink RX1 11 "MachineHall$Hall" "sizes" "[I", Cond.methodLink RX1 96 yJ7_fill_53178, Cond.static yJ7_fill_53178, Cond.initialized RJ7, Cond.code yJ7_fill_53178 cJ7_fill_53178 4 none, Cond.methodLink RX1 57 yX1_has, Cond.static yX1_has, Cond.code yX1_has cX1_has 2 (some .boolean), Cond.methodLink RX1 102 yX1_findWith, Cond.instanceMethod yX1_findWith, Cond.selects RX1 yX1_findWith yX1_findWith, Cond.code yX1_findWith cX1_findWith 4 none, Cond.fieldLink RX1 51 "MachineHall$Hall" "asks" "I", Cond.fieldLink RX1 34 "MachineHall$Hall" "asked" "[Z", Cond.fieldLink RX1 27 "MachineHall$Hall" "load" "[I"]
def wsX1_holds_r2 : List Cond := [Cond.methodLink RX1 71 yX1_greatestOn, Cond.instanceMethod yX1_greatestOn, Cond.selects RX1 yX1_greatestOn yX1_greatestOn, Cond.code yX1_greatestOn cX1_greatestOn 4 (some .int), Cond.fieldLink RX1 30 "MachineHall$Hall" "clash" "[Z"]
def wsX1_holds : List Cond := .code yX1_holds cX1_holds 3 (some .boolean) :: ((wsX1_holds_r1 ++ wsX1_holds_r2) ++ wsX10)
def wsX1_layingOf_r1 : List Cond := [Cond.fieldLink RX1 24 "MachineHall$Hall" "ofHour" "[I", Cond.fieldLink RX1 48 "MachineHall$Hall" "machines" "I", Cond.methodLink RX1 68 yX1_findLatest, Cond.instanceMethod yX1_findLatest, Cond.selects RX1 yX1_findLatest yX1_findLatest, Cond.initialized RX1, Cond.code yX1_findLatest cX1_findLatest 4 none, Cond.fieldLink RX1 40 "MachineHall$Hall" "latestFor" "I", Cond.fieldLink RX1 37 "MachineHall$Hall" "latest" "[I", Cond.fieldLink RX1 11 "MachineHall$Hall" "sizes" "[I", Cond.methodLink RX1 96 yJ7_fill_53178, Cond.static yJ7_fill_53178, Cond.initialized RJ7, Cond.code yJ7_fill_53178 cJ7_fill_53178 4 none, Cond.methodLink RX1 57 yX1_has, Cond.static yX1_has, Cond.code yX1_has cX1_has 2 (some .boolean), Cond.methodLink RX1 102 yX1_findWith, Cond.instanceMethod yX1_findWith, Cond.selects RX1 yX1_findWith yX1_findWith, Cond.code yX1_findWith cX1_findWith 4 none, Cond.fieldLink RX1 51 "MachineHall$Hall" "asks" "I", Cond.fieldLink RX1 34 "MachineHall$Hall" "asked" "[Z", Cond.fieldLink RX1 27 "MachineHall$Hall" "load" "[I"]
def wsX1_layingOf_r2 : List Cond := [Cond.methodLink RX1 71 yX1_greatestOn, Cond.instanceMethod yX1_greatestOn, Cond.selects RX1 yX1_greatestOn yX1_greatestOn, Cond.code yX1_greatestOn cX1_greatestOn 4 (some .int), Cond.fieldLink RX1 30 "MachineHall$Hall" "clash" "[Z"]
def wsX1_layingOf : List Cond := .code yX1_layingOf cX1_layingOf 7 (some .int) :: ((wsX1_layingOf_r1 ++ wsX1_layingOf_r2) ++ wsX10)
def wsX1_lacking_r1 : List Cond := [Cond.fieldLink RX1 24 "MachineHall$Hall" "ofHour" "[I", Cond.fieldLink RX1 37 "MachineHall$Hall" "latest" "[I", Cond.fieldLink RX1 27 "MachineHall$Hall" "load" "[I", Cond.methodLink RX1 75 Lib.Math.max.name, Cond.static Lib.Math.max.name, Cond.initialized "java/lang/Math", Cond.code Lib.Math.max.name Lib.Math.max.code 2 (some .int), Cond.methodLink RX1 68 yX1_findLatest, Cond.instanceMethod yX1_findLatest, Cond.selects RX1 yX1_findLatest yX1_findLatest, Cond.initialized RX1, Cond.code yX1_findLatest cX1_findLatest 4 none, Cond.fieldLink RX1 40 "MachineHall$Hall" "latestFor" "I", Cond.fieldLink RX1 48 "MachineHall$Hall" "machines" "I", Cond.fieldLink RX1 11 "MachineHall$Hall" "sizes" "[I", Cond.methodLink RX1 96 yJ7_fill_53178, Cond.static yJ7_fill_53178, Cond.initialized RJ7, Cond.code yJ7_fill_53178 cJ7_fill_53178 4 none, Cond.methodLink RX1 57 yX1_has, Cond.static yX1_has, Cond.code yX1_has cX1_has 2 (some .boolean), Cond.methodLink RX1 102 yX1_findWith, Cond.instanceMethod yX1_findWith]
def wsX1_lacking_r2 : List Cond := [Cond.selects RX1 yX1_findWith yX1_findWith, Cond.code yX1_findWith cX1_findWith 4 none, Cond.fieldLink RX1 51 "MachineHall$Hall" "asks" "I", Cond.fieldLink RX1 34 "MachineHall$Hall" "asked" "[Z", Cond.methodLink RX1 71 yX1_greatestOn, Cond.instanceMethod yX1_greatestOn, Cond.selects RX1 yX1_greatestOn yX1_greatestOn, Cond.code yX1_greatestOn cX1_greatestOn 4 (some .int), Cond.fieldLink RX1 30 "MachineHall$Hall" "clash" "[Z"]
def wsX1_lacking : List Cond := .code yX1_lacking cX1_lacking 6 (some .int) :: ((wsX1_lacking_r1 ++ wsX1_lacking_r2) ++ wsX10)
def wsX1_leftOver_r1 : List Cond := [Cond.fieldLink RX1 24 "MachineHall$Hall" "ofHour" "[I", Cond.fieldLink RX1 37 "MachineHall$Hall" "latest" "[I", Cond.fieldLink RX1 27 "MachineHall$Hall" "load" "[I", Cond.methodLink RX1 68 yX1_findLatest, Cond.instanceMethod yX1_findLatest, Cond.selects RX1 yX1_findLatest yX1_findLatest, Cond.initialized RX1, Cond.code yX1_findLatest cX1_findLatest 4 none, Cond.fieldLink RX1 40 "MachineHall$Hall" "latestFor" "I", Cond.fieldLink RX1 48 "MachineHall$Hall" "machines" "I", Cond.fieldLink RX1 11 "MachineHall$Hall" "sizes" "[I", Cond.methodLink RX1 96 yJ7_fill_53178, Cond.static yJ7_fill_53178, Cond.initialized RJ7, Cond.code yJ7_fill_53178 cJ7_fill_53178 4 none, Cond.methodLink RX1 57 yX1_has, Cond.static yX1_has, Cond.code yX1_has cX1_has 2 (some .boolean), Cond.methodLink RX1 102 yX1_findWith, Cond.instanceMethod yX1_findWith, Cond.selects RX1 yX1_findWith yX1_findWith, Cond.code yX1_findWith cX1_findWith 4 none, Cond.fieldLink RX1 51 "MachineHall$Hall" "asks" "I", Cond.fieldLink RX1 34 "MachineHall$Hall" "asked" "[Z"]
def wsX1_leftOver_r2 : List Cond := [Cond.methodLink RX1 71 yX1_greatestOn, Cond.instanceMethod yX1_greatestOn, Cond.selects RX1 yX1_greatestOn yX1_greatestOn, Cond.code yX1_greatestOn cX1_greatestOn 4 (some .int), Cond.fieldLink RX1 30 "MachineHall$Hall" "clash" "[Z", Cond.methodLink RX1 80 yX1_sizeOf, Cond.instanceMethod yX1_sizeOf, Cond.selects RX1 yX1_sizeOf yX1_sizeOf, Cond.code yX1_sizeOf cX1_sizeOf 4 (some .int)]
def wsX1_leftOver : List Cond := .code yX1_leftOver cX1_leftOver 4 (some .int) :: ((wsX1_leftOver_r1 ++ wsX1_leftOver_r2) ++ wsX10)
def wsX1_isLookedAt : List Cond := .code yX1_isLookedAt cX1_isLookedAt 3 (some .boolean) :: ([.fieldLink RX1 48 "MachineHall$Hall" "machines" "I"] ++ wsX10)
def wsX1_firstUnfitHour_r1 : List Cond := [Cond.methodLink RX1 93 yX1_holds, Cond.instanceMethod yX1_holds, Cond.selects RX1 yX1_holds yX1_holds, Cond.initialized RX1, Cond.code yX1_holds cX1_holds 3 (some .boolean), Cond.fieldLink RX1 37 "MachineHall$Hall" "latest" "[I", Cond.fieldLink RX1 24 "MachineHall$Hall" "ofHour" "[I", Cond.methodLink RX1 68 yX1_findLatest, Cond.instanceMethod yX1_findLatest, Cond.selects RX1 yX1_findLatest yX1_findLatest, Cond.code yX1_findLatest cX1_findLatest 4 none, Cond.fieldLink RX1 40 "MachineHall$Hall" "latestFor" "I", Cond.fieldLink RX1 48 "MachineHall$Hall" "machines" "I", Cond.fieldLink RX1 11 "MachineHall$Hall" "sizes" "[I", Cond.methodLink RX1 96 yJ7_fill_53178, Cond.static yJ7_fill_53178, Cond.initialized RJ7, Cond.code yJ7_fill_53178 cJ7_fill_53178 4 none, Cond.methodLink RX1 57 yX1_has, Cond.static yX1_has, Cond.code yX1_has cX1_has 2 (some .boolean), Cond.methodLink RX1 102 yX1_findWith, Cond.instanceMethod yX1_findWith, Cond.selects RX1 yX1_findWith yX1_findWith]
def wsX1_firstUnfitHour_r2 : List Cond := [Cond.code yX1_findWith cX1_findWith 4 none, Cond.fieldLink RX1 51 "MachineHall$Hall" "asks" "I", Cond.fieldLink RX1 34 "MachineHall$Hall" "asked" "[Z", Cond.fieldLink RX1 27 "MachineHall$Hall" "load" "[I", Cond.methodLink RX1 71 yX1_greatestOn, Cond.instanceMethod yX1_greatestOn, Cond.selects RX1 yX1_greatestOn yX1_greatestOn, Cond.code yX1_greatestOn cX1_greatestOn 4 (some .int), Cond.fieldLink RX1 30 "MachineHall$Hall" "clash" "[Z"]
def wsX1_firstUnfitHour : List Cond := .code yX1_firstUnfitHour cX1_firstUnfitHour 4 (some .int) :: ((wsX1_firstUnfitHour_r1 ++ wsX1_firstUnfitHour_r2) ++ wsX10)
def wsX1_firstUnfit_r1 : List Cond := [Cond.methodLink RX1 84 yX1_isLookedAt, Cond.instanceMethod yX1_isLookedAt, Cond.selects RX1 yX1_isLookedAt yX1_isLookedAt, Cond.initialized RX1, Cond.code yX1_isLookedAt cX1_isLookedAt 3 (some .boolean), Cond.fieldLink RX1 48 "MachineHall$Hall" "machines" "I", Cond.methodLink RX1 87 yX1_standing, Cond.instanceMethod yX1_standing, Cond.selects RX1 yX1_standing yX1_standing, Cond.code yX1_standing cX1_standing 2 (some .int), Cond.fieldLink RX1 54 "MachineHall$Hall" "ups" "I", Cond.fieldLink RX1 15 "MachineHall$Hall" "inRoom" "[I", Cond.methodLink RX1 90 yX1_firstUnfitHour, Cond.instanceMethod yX1_firstUnfitHour, Cond.selects RX1 yX1_firstUnfitHour yX1_firstUnfitHour, Cond.code yX1_firstUnfitHour cX1_firstUnfitHour 4 (some .int), Cond.methodLink RX1 93 yX1_holds, Cond.instanceMethod yX1_holds, Cond.selects RX1 yX1_holds yX1_holds, Cond.code yX1_holds cX1_holds 3 (some .boolean), Cond.fieldLink RX1 37 "MachineHall$Hall" "latest" "[I", Cond.fieldLink RX1 24 "MachineHall$Hall" "ofHour" "[I", Cond.methodLink RX1 68 yX1_findLatest, Cond.instanceMethod yX1_findLatest]
def wsX1_firstUnfit_r2 : List Cond := [Cond.selects RX1 yX1_findLatest yX1_findLatest, Cond.code yX1_findLatest cX1_findLatest 4 none, Cond.fieldLink RX1 40 "MachineHall$Hall" "latestFor" "I", Cond.fieldLink RX1 11 "MachineHall$Hall" "sizes" "[I", Cond.methodLink RX1 96 yJ7_fill_53178, Cond.static yJ7_fill_53178, Cond.initialized RJ7, Cond.code yJ7_fill_53178 cJ7_fill_53178 4 none, Cond.methodLink RX1 57 yX1_has, Cond.static yX1_has, Cond.code yX1_has cX1_has 2 (some .boolean), Cond.methodLink RX1 102 yX1_findWith, Cond.instanceMethod yX1_findWith, Cond.selects RX1 yX1_findWith yX1_findWith, Cond.code yX1_findWith cX1_findWith 4 none, Cond.fieldLink RX1 51 "MachineHall$Hall" "asks" "I", Cond.fieldLink RX1 34 "MachineHall$Hall" "asked" "[Z", Cond.fieldLink RX1 27 "MachineHall$Hall" "load" "[I", Cond.methodLink RX1 71 yX1_greatestOn, Cond.instanceMethod yX1_greatestOn, Cond.selects RX1 yX1_greatestOn yX1_greatestOn, Cond.code yX1_greatestOn cX1_greatestOn 4 (some .int), Cond.fieldLink RX1 30 "MachineHall$Hall" "clash" "[Z"]
def wsX1_firstUnfit : List Cond := .code yX1_firstUnfit cX1_firstUnfit 6 (some .int) :: ((wsX1_firstUnfit_r1 ++ wsX1_firstUnfit_r2) ++ wsX10)
def wsX2_init : List Cond := .code yX2_init cX2_init 1 none :: ([.methodLink RX2 5 objectInit, .instanceMethod objectInit, .code objectInit ⟨#[0xb1]⟩ 1 none, .classLink RX2 11 "[[I", .arrayClass .int, .fieldLink RX2 13 "MachineHall$Market" "bought" "[[I", .fieldLink RX2 16 "MachineHall$Market" "wants" "[I", .fieldLink RX2 20 "MachineHall$Market" "sizes" "[I", .fieldLink RX2 23 "MachineHall$Market" "leads" "[I", .fieldLink RX2 26 "MachineHall$Market" "powers" "[I", .fieldLink RX2 29 "MachineHall$Market" "prices" "[[I", .fieldLink RX2 32 "MachineHall$Market" "toPay" "[I", .arrayClass .long, .fieldLink RX2 35 "MachineHall$Market" "oneMore" "[J"] ++ wsX20)
def wsX2_hasType : List Cond := .code yX2_hasType cX2_hasType 2 (some .boolean) :: ([.fieldLink RX2 39 "MachineHall$Market" "types" "I", .static yX6_within, .initialized RX6, .code yX6_within cX6_within 4 (some .boolean)] ++ wsX20)
def wsX2_isEnough : List Cond := .code yX2_isEnough cX2_isEnough 1 (some .boolean) :: ([.fieldLink RX2 47 "MachineHall$Market" "least" "I", .constant RX2 50 (1000000000)] ++ wsX20)
def wsX4_at : List Cond := .code yX4_at cX4_at 3 (some .long) :: ([.fieldLink RX4 13 "MachineHall$Sheets" "numbers" "[[J"] ++ wsX40)
def wsX2_want : List Cond := .code yX2_want cX2_want 4 none :: ([.fieldLink RX2 16 "MachineHall$Market" "wants" "[I", .fieldLink RX2 57 "MachineHall$Market" "solved" "Z", .methodLink RX2 51 yX4_at, .instanceMethod yX4_at, .selects RX4 yX4_at yX4_at, .initialized RX4, .code yX4_at cX4_at 3 (some .long), .fieldLink RX4 13 "MachineHall$Sheets" "numbers" "[[J"] ++ wsX20 ++ wsX40)
def wsX2_own : List Cond := .code yX2_own cX2_own 2 none :: ([.fieldLink RX2 61 "MachineHall$Market" "owned" "I", .fieldLink RX2 57 "MachineHall$Market" "solved" "Z"] ++ wsX20)
def wsX2_addType : List Cond := .code yX2_addType cX2_addType 8 (some .int) :: ([.fieldLink RX2 39 "MachineHall$Market" "types" "I", .fieldLink RX2 20 "MachineHall$Market" "sizes" "[I", .fieldLink RX2 23 "MachineHall$Market" "leads" "[I", .fieldLink RX2 26 "MachineHall$Market" "powers" "[I", .fieldLink RX2 29 "MachineHall$Market" "prices" "[[I", .fieldLink RX2 57 "MachineHall$Market" "solved" "Z", .methodLink RX2 51 yX4_at, .instanceMethod yX4_at, .selects RX4 yX4_at yX4_at, .initialized RX4, .code yX4_at cX4_at 3 (some .long), .fieldLink RX4 13 "MachineHall$Sheets" "numbers" "[[J"] ++ wsX20 ++ wsX40)
def wsJ7_fill_d0a16 : List Cond := .code yJ7_fill_d0a16 cJ7_fill_d0a16 5 none :: ([])
def wsJ7_rangeCheck_23922 : List Cond := .code yJ7_rangeCheck_23922 cJ7_rangeCheck_23922 3 none :: ([])
def wsJ7_fill_fda19 : List Cond := .code yJ7_fill_fda19 cJ7_fill_fda19 5 none :: ([.methodLink RJ7 13 yJ7_rangeCheck_23922, .static yJ7_rangeCheck_23922, .initialized RJ7, .code yJ7_rangeCheck_23922 cJ7_rangeCheck_23922 3 none])
def wsX2_word : List Cond := .code yX2_word cX2_word 3 (some .int) :: ([])
def wsX2_offer : List Cond := .code yX2_offer cX2_offer 6 none :: ([.fieldLink RX2 29 "MachineHall$Market" "prices" "[[I", .fieldLink RX2 23 "MachineHall$Market" "leads" "[I", .fieldLink RX2 26 "MachineHall$Market" "powers" "[I", .fieldLink RX2 32 "MachineHall$Market" "toPay" "[I", .fieldLink RX2 20 "MachineHall$Market" "sizes" "[I", .methodLink RX2 87 Lib.Math.min.name, .static Lib.Math.min.name, .initialized "java/lang/Math", .code Lib.Math.min.name Lib.Math.min.code 2 (some .int), .fieldLink RX2 35 "MachineHall$Market" "oneMore" "[J", .methodLink RX2 93 yX2_word, .static yX2_word, .initialized RX2, .code yX2_word cX2_word 3 (some .int)] ++ wsX20)
def wsX2_mustBuy : List Cond := .code yX2_mustBuy cX2_mustBuy 4 (some .boolean) :: ([.fieldLink RX2 35 "MachineHall$Market" "oneMore" "[J", .methodLink RX2 93 yX2_word, .static yX2_word, .initialized RX2, .code yX2_word cX2_word 3 (some .int)] ++ wsX20)
def wsX2_choose : List Cond := .code yX2_choose cX2_choose 5 none :: ([.fieldLink RX2 61 "MachineHall$Market" "owned" "I", .fieldLink RX2 39 "MachineHall$Market" "types" "I", .fieldLink RX2 20 "MachineHall$Market" "sizes" "[I", .methodLink RX2 87 Lib.Math.min.name, .static Lib.Math.min.name, .initialized "java/lang/Math", .code Lib.Math.min.name Lib.Math.min.code 2 (some .int), .fieldLink RX2 13 "MachineHall$Market" "bought" "[[I", .methodLink RX2 97 yX2_mustBuy, .instanceMethod yX2_mustBuy, .selects RX2 yX2_mustBuy yX2_mustBuy, .initialized RX2, .code yX2_mustBuy cX2_mustBuy 4 (some .boolean), .fieldLink RX2 35 "MachineHall$Market" "oneMore" "[J", .methodLink RX2 93 yX2_word, .static yX2_word, .code yX2_word cX2_word 3 (some .int)] ++ wsX20)
def wsX2_solve_r1 : List Cond := [Cond.fieldLink RX2 57 "MachineHall$Market" "solved" "Z", Cond.fieldLink RX2 32 "MachineHall$Market" "toPay" "[I", Cond.fieldLink RX2 35 "MachineHall$Market" "oneMore" "[J", Cond.fieldLink RX2 16 "MachineHall$Market" "wants" "[I", Cond.constant RX2 50 (1000000000), Cond.fieldLink RX2 39 "MachineHall$Market" "types" "I", Cond.fieldLink RX2 23 "MachineHall$Market" "leads" "[I", Cond.fieldLink RX2 61 "MachineHall$Market" "owned" "I", Cond.fieldLink RX2 47 "MachineHall$Market" "least" "I", Cond.methodLink RX2 64 yJ7_fill_53178, Cond.static yJ7_fill_53178, Cond.initialized RJ7, Cond.code yJ7_fill_53178 cJ7_fill_53178 4 none, Cond.methodLink RX2 70 yJ7_fill_d0a16, Cond.static yJ7_fill_d0a16, Cond.code yJ7_fill_d0a16 cJ7_fill_d0a16 5 none, Cond.methodLink RX2 73 yJ7_fill_fda19, Cond.static yJ7_fill_fda19, Cond.code yJ7_fill_fda19 cJ7_fill_fda19 5 none, Cond.methodLink RJ7 13 yJ7_rangeCheck_23922, Cond.static yJ7_rangeCheck_23922, Cond.code yJ7_rangeCheck_23922 cJ7_rangeCheck_23922 3 none, Cond.methodLink RX2 76 yX2_offer, Cond.instanceMethod yX2_offer]
def wsX2_solve_r2 : List Cond := [Cond.selects RX2 yX2_offer yX2_offer, Cond.initialized RX2, Cond.code yX2_offer cX2_offer 6 none, Cond.fieldLink RX2 29 "MachineHall$Market" "prices" "[[I", Cond.fieldLink RX2 26 "MachineHall$Market" "powers" "[I", Cond.fieldLink RX2 20 "MachineHall$Market" "sizes" "[I", Cond.methodLink RX2 87 Lib.Math.min.name, Cond.static Lib.Math.min.name, Cond.initialized "java/lang/Math", Cond.code Lib.Math.min.name Lib.Math.min.code 2 (some .int), Cond.methodLink RX2 93 yX2_word, Cond.static yX2_word, Cond.code yX2_word cX2_word 3 (some .int), Cond.methodLink RX2 80 yX2_isEnough, Cond.instanceMethod yX2_isEnough, Cond.selects RX2 yX2_isEnough yX2_isEnough, Cond.code yX2_isEnough cX2_isEnough 1 (some .boolean), Cond.methodLink RX2 84 yX2_choose, Cond.instanceMethod yX2_choose, Cond.selects RX2 yX2_choose yX2_choose, Cond.code yX2_choose cX2_choose 5 none, Cond.fieldLink RX2 13 "MachineHall$Market" "bought" "[[I", Cond.methodLink RX2 97 yX2_mustBuy, Cond.instanceMethod yX2_mustBuy]
def wsX2_solve_r3 : List Cond := [Cond.selects RX2 yX2_mustBuy yX2_mustBuy, Cond.code yX2_mustBuy cX2_mustBuy 4 (some .boolean)]
def wsX2_solve : List Cond := .code yX2_solve cX2_solve 3 none :: ((wsX2_solve_r1 ++ (wsX2_solve_r2 ++ wsX2_solve_r3)) ++ wsX20)
def wsX3_init : List Cond := .code yX3_init cX3_init 1 none :: ([.methodLink RX3 5 objectInit, .instanceMethod objectInit, .code objectInit ⟨#[0xb1]⟩ 1 none, .classLink RX3 11 "[[I", .arrayClass .int, .fieldLink RX3 13 "MachineHall$Plan" "parts" "[[I", .fieldLink RX3 16 "MachineHall$Plan" "works" "[I", .fieldLink RX3 20 "MachineHall$Plan" "froms" "[I", .fieldLink RX3 23 "MachineHall$Plan" "dues" "[I", .fieldLink RX3 26 "MachineHall$Plan" "mosts" "[I", .classLink RX3 29 RX0, .instantiable RX0 4, .initialized RX0, .fieldLink RX3 34 "MachineHall$Plan" "flow" "LMachineHall$Flow;", .fieldLink RX3 38 "MachineHall$Plan" "laidFor" "I", .methodLink RX3 31 yX0_init, .instanceMethod yX0_init, .code yX0_init cX0_init 2 none, .methodLink RX0 3 objectInit, .fieldLink RX0 9 "MachineHall$Flow" "nodes" "I", .classLink RX0 15 "[[I", .fieldLink RX0 17 "MachineHall$Flow" "open" "[[I", .fieldLink RX0 20 "MachineHall$Flow" "cameFrom" "[I", .fieldLink RX0 24 "MachineHall$Flow" "reached" "[I"] ++ wsX30 ++ wsX00)
def wsX3_hasBatch : List Cond := .code yX3_hasBatch cX3_hasBatch 2 (some .boolean) :: ([.fieldLink RX3 42 "MachineHall$Plan" "batches" "I", .static yX6_within, .initialized RX6, .code yX6_within cX6_within 4 (some .boolean)] ++ wsX30)
def wsX3_forget : List Cond := .code yX3_forget cX3_forget 1 none :: ([.fieldLink RX3 38 "MachineHall$Plan" "laidFor" "I"] ++ wsX30)
def wsX3_addBatch : List Cond := .code yX3_addBatch cX3_addBatch 6 (some .int) :: ([.fieldLink RX3 42 "MachineHall$Plan" "batches" "I", .fieldLink RX3 16 "MachineHall$Plan" "works" "[I", .fieldLink RX3 20 "MachineHall$Plan" "froms" "[I", .fieldLink RX3 23 "MachineHall$Plan" "dues" "[I", .fieldLink RX3 26 "MachineHall$Plan" "mosts" "[I", .methodLink RX3 49 yX3_forget, .instanceMethod yX3_forget, .selects RX3 yX3_forget yX3_forget, .initialized RX3, .code yX3_forget cX3_forget 1 none, .fieldLink RX3 38 "MachineHall$Plan" "laidFor" "I"] ++ wsX30)
def wsX3_layPipes_r1 : List Cond := [Cond.fieldLink RX3 34 "MachineHall$Plan" "flow" "LMachineHall$Flow;", Cond.fieldLink RX3 42 "MachineHall$Plan" "batches" "I", Cond.fieldLink RX3 16 "MachineHall$Plan" "works" "[I", Cond.fieldLink RX3 20 "MachineHall$Plan" "froms" "[I", Cond.fieldLink RX3 23 "MachineHall$Plan" "dues" "[I", Cond.fieldLink RX3 26 "MachineHall$Plan" "mosts" "[I", Cond.methodLink RX3 66 yX0_empty, Cond.instanceMethod yX0_empty, Cond.selects RX0 yX0_empty yX0_empty, Cond.initialized RX0, Cond.code yX0_empty cX0_empty 2 none, Cond.fieldLink RX0 9 "MachineHall$Flow" "nodes" "I", Cond.fieldLink RX0 17 "MachineHall$Flow" "open" "[[I", Cond.methodLink RX0 27 yJ7_fill_53178, Cond.static yJ7_fill_53178, Cond.initialized RJ7, Cond.code yJ7_fill_53178 cJ7_fill_53178 4 none, Cond.methodLink RX3 69 yX0_pipe, Cond.instanceMethod yX0_pipe, Cond.selects RX0 yX0_pipe yX0_pipe, Cond.code yX0_pipe cX0_pipe 4 none, Cond.methodLink RX3 73 yX1_leftOver, Cond.instanceMethod yX1_leftOver, Cond.selects RX1 yX1_leftOver yX1_leftOver]
def wsX3_layPipes_r2 : List Cond := [Cond.initialized RX1, Cond.code yX1_leftOver cX1_leftOver 4 (some .int), Cond.fieldLink RX1 24 "MachineHall$Hall" "ofHour" "[I", Cond.fieldLink RX1 37 "MachineHall$Hall" "latest" "[I", Cond.fieldLink RX1 27 "MachineHall$Hall" "load" "[I", Cond.methodLink RX1 68 yX1_findLatest, Cond.instanceMethod yX1_findLatest, Cond.selects RX1 yX1_findLatest yX1_findLatest, Cond.code yX1_findLatest cX1_findLatest 4 none, Cond.fieldLink RX1 40 "MachineHall$Hall" "latestFor" "I", Cond.fieldLink RX1 48 "MachineHall$Hall" "machines" "I", Cond.fieldLink RX1 11 "MachineHall$Hall" "sizes" "[I", Cond.methodLink RX1 96 yJ7_fill_53178, Cond.methodLink RX1 57 yX1_has, Cond.static yX1_has, Cond.code yX1_has cX1_has 2 (some .boolean), Cond.methodLink RX1 102 yX1_findWith, Cond.instanceMethod yX1_findWith, Cond.selects RX1 yX1_findWith yX1_findWith, Cond.code yX1_findWith cX1_findWith 4 none, Cond.fieldLink RX1 51 "MachineHall$Hall" "asks" "I", Cond.fieldLink RX1 34 "MachineHall$Hall" "asked" "[Z", Cond.methodLink RX1 71 yX1_greatestOn, Cond.instanceMethod yX1_greatestOn]
def wsX3_layPipes_r3 : List Cond := [Cond.selects RX1 yX1_greatestOn yX1_greatestOn, Cond.code yX1_greatestOn cX1_greatestOn 4 (some .int), Cond.fieldLink RX1 30 "MachineHall$Hall" "clash" "[Z", Cond.methodLink RX1 80 yX1_sizeOf, Cond.instanceMethod yX1_sizeOf, Cond.selects RX1 yX1_sizeOf yX1_sizeOf, Cond.code yX1_sizeOf cX1_sizeOf 4 (some .int)]
def wsX3_layPipes : List Cond := .code yX3_layPipes cX3_layPipes 6 (some .int) :: ((wsX3_layPipes_r1 ++ (wsX3_layPipes_r2 ++ wsX3_layPipes_r3)) ++ wsX30 ++ wsX00 ++ wsX10)
def wsX3_settleParts_r1 : List Cond := [Cond.fieldLink RX3 42 "MachineHall$Plan" "batches" "I", Cond.fieldLink RX3 20 "MachineHall$Plan" "froms" "[I", Cond.fieldLink RX3 23 "MachineHall$Plan" "dues" "[I", Cond.fieldLink RX3 13 "MachineHall$Plan" "parts" "[[I", Cond.fieldLink RX3 34 "MachineHall$Plan" "flow" "LMachineHall$Flow;", Cond.methodLink RX3 79 yX0_settle, Cond.instanceMethod yX0_settle, Cond.selects RX0 yX0_settle yX0_settle, Cond.initialized RX0, Cond.code yX0_settle cX0_settle 5 (some .int), Cond.fieldLink RX0 17 "MachineHall$Flow" "open" "[[I", Cond.methodLink RX0 42 yX0_push, Cond.instanceMethod yX0_push, Cond.selects RX0 yX0_push yX0_push, Cond.code yX0_push cX0_push 6 (some .int), Cond.constant RX0 33 (1000000), Cond.methodLink RX0 34 yX0_findWay, Cond.instanceMethod yX0_findWay, Cond.selects RX0 yX0_findWay yX0_findWay, Cond.code yX0_findWay cX0_findWay 7 (some .boolean), Cond.fieldLink RX0 20 "MachineHall$Flow" "cameFrom" "[I", Cond.fieldLink RX0 24 "MachineHall$Flow" "reached" "[I", Cond.fieldLink RX0 9 "MachineHall$Flow" "nodes" "I", Cond.methodLink RX0 27 yJ7_fill_53178]
def wsX3_settleParts_r2 : List Cond := [Cond.static yJ7_fill_53178, Cond.initialized RJ7, Cond.code yJ7_fill_53178 cJ7_fill_53178 4 none, Cond.methodLink RX0 38 yX0_send, Cond.instanceMethod yX0_send, Cond.selects RX0 yX0_send yX0_send, Cond.code yX0_send cX0_send 7 (some .int), Cond.methodLink RX0 45 Lib.Math.min.name, Cond.static Lib.Math.min.name, Cond.initialized "java/lang/Math", Cond.code Lib.Math.min.name Lib.Math.min.code 2 (some .int)]
def wsX3_settleParts : List Cond := .code yX3_settleParts cX3_settleParts 3 none :: ((wsX3_settleParts_r1 ++ wsX3_settleParts_r2) ++ wsX30 ++ wsX00)
def wsX3_lay_r1 : List Cond := [Cond.fieldLink RX3 38 "MachineHall$Plan" "laidFor" "I", Cond.fieldLink RX3 56 "MachineHall$Plan" "unlaid" "I", Cond.fieldLink RX3 34 "MachineHall$Plan" "flow" "LMachineHall$Flow;", Cond.methodLink RX3 52 yX3_layPipes, Cond.instanceMethod yX3_layPipes, Cond.selects RX3 yX3_layPipes yX3_layPipes, Cond.initialized RX3, Cond.code yX3_layPipes cX3_layPipes 6 (some .int), Cond.fieldLink RX3 42 "MachineHall$Plan" "batches" "I", Cond.fieldLink RX3 16 "MachineHall$Plan" "works" "[I", Cond.fieldLink RX3 20 "MachineHall$Plan" "froms" "[I", Cond.fieldLink RX3 23 "MachineHall$Plan" "dues" "[I", Cond.fieldLink RX3 26 "MachineHall$Plan" "mosts" "[I", Cond.methodLink RX3 66 yX0_empty, Cond.instanceMethod yX0_empty, Cond.selects RX0 yX0_empty yX0_empty, Cond.initialized RX0, Cond.code yX0_empty cX0_empty 2 none, Cond.fieldLink RX0 9 "MachineHall$Flow" "nodes" "I", Cond.fieldLink RX0 17 "MachineHall$Flow" "open" "[[I", Cond.methodLink RX0 27 yJ7_fill_53178, Cond.static yJ7_fill_53178, Cond.initialized RJ7, Cond.code yJ7_fill_53178 cJ7_fill_53178 4 none]
def wsX3_lay_r2 : List Cond := [Cond.methodLink RX3 69 yX0_pipe, Cond.instanceMethod yX0_pipe, Cond.selects RX0 yX0_pipe yX0_pipe, Cond.code yX0_pipe cX0_pipe 4 none, Cond.methodLink RX3 73 yX1_leftOver, Cond.instanceMethod yX1_leftOver, Cond.selects RX1 yX1_leftOver yX1_leftOver, Cond.initialized RX1, Cond.code yX1_leftOver cX1_leftOver 4 (some .int), Cond.fieldLink RX1 24 "MachineHall$Hall" "ofHour" "[I", Cond.fieldLink RX1 37 "MachineHall$Hall" "latest" "[I", Cond.fieldLink RX1 27 "MachineHall$Hall" "load" "[I", Cond.methodLink RX1 68 yX1_findLatest, Cond.instanceMethod yX1_findLatest, Cond.selects RX1 yX1_findLatest yX1_findLatest, Cond.code yX1_findLatest cX1_findLatest 4 none, Cond.fieldLink RX1 40 "MachineHall$Hall" "latestFor" "I", Cond.fieldLink RX1 48 "MachineHall$Hall" "machines" "I", Cond.fieldLink RX1 11 "MachineHall$Hall" "sizes" "[I", Cond.methodLink RX1 96 yJ7_fill_53178, Cond.methodLink RX1 57 yX1_has, Cond.static yX1_has, Cond.code yX1_has cX1_has 2 (some .boolean), Cond.methodLink RX1 102 yX1_findWith]
def wsX3_lay_r3 : List Cond := [Cond.instanceMethod yX1_findWith, Cond.selects RX1 yX1_findWith yX1_findWith, Cond.code yX1_findWith cX1_findWith 4 none, Cond.fieldLink RX1 51 "MachineHall$Hall" "asks" "I", Cond.fieldLink RX1 34 "MachineHall$Hall" "asked" "[Z", Cond.methodLink RX1 71 yX1_greatestOn, Cond.instanceMethod yX1_greatestOn, Cond.selects RX1 yX1_greatestOn yX1_greatestOn, Cond.code yX1_greatestOn cX1_greatestOn 4 (some .int), Cond.fieldLink RX1 30 "MachineHall$Hall" "clash" "[Z", Cond.methodLink RX1 80 yX1_sizeOf, Cond.instanceMethod yX1_sizeOf, Cond.selects RX1 yX1_sizeOf yX1_sizeOf, Cond.code yX1_sizeOf cX1_sizeOf 4 (some .int), Cond.methodLink RX3 59 yX0_push, Cond.instanceMethod yX0_push, Cond.selects RX0 yX0_push yX0_push, Cond.code yX0_push cX0_push 6 (some .int), Cond.constant RX0 33 (1000000), Cond.methodLink RX0 34 yX0_findWay, Cond.instanceMethod yX0_findWay, Cond.selects RX0 yX0_findWay yX0_findWay, Cond.code yX0_findWay cX0_findWay 7 (some .boolean), Cond.fieldLink RX0 20 "MachineHall$Flow" "cameFrom" "[I"]
def wsX3_lay_r4 : List Cond := [Cond.fieldLink RX0 24 "MachineHall$Flow" "reached" "[I", Cond.methodLink RX0 38 yX0_send, Cond.instanceMethod yX0_send, Cond.selects RX0 yX0_send yX0_send, Cond.code yX0_send cX0_send 7 (some .int), Cond.methodLink RX0 45 Lib.Math.min.name, Cond.static Lib.Math.min.name, Cond.initialized "java/lang/Math", Cond.code Lib.Math.min.name Lib.Math.min.code 2 (some .int), Cond.methodLink RX3 63 yX3_settleParts, Cond.instanceMethod yX3_settleParts, Cond.selects RX3 yX3_settleParts yX3_settleParts, Cond.code yX3_settleParts cX3_settleParts 3 none, Cond.fieldLink RX3 13 "MachineHall$Plan" "parts" "[[I", Cond.methodLink RX3 79 yX0_settle, Cond.instanceMethod yX0_settle, Cond.selects RX0 yX0_settle yX0_settle, Cond.code yX0_settle cX0_settle 5 (some .int), Cond.methodLink RX0 42 yX0_push]
def wsX3_lay : List Cond := .code yX3_lay cX3_lay 3 none :: ((wsX3_lay_r1 ++ (wsX3_lay_r2 ++ (wsX3_lay_r3 ++ wsX3_lay_r4))) ++ wsX30 ++ wsX00 ++ wsX10)
def wsX4_init : List Cond := .code yX4_init cX4_init 1 none :: ([.methodLink RX4 3 objectInit, .instanceMethod objectInit, .code objectInit ⟨#[0xb1]⟩ 1 none, .classLink RX4 11 "[[J", .arrayClass .long, .fieldLink RX4 13 "MachineHall$Sheets" "numbers" "[[J", .arrayClass .int, .fieldLink RX4 16 "MachineHall$Sheets" "sorts" "[I", .fieldLink RX4 20 "MachineHall$Sheets" "lengths" "[I", .methodLink RX4 23 yJ7_fill_53178, .static yJ7_fill_53178, .initialized RJ7, .code yJ7_fill_53178 cJ7_fill_53178 4 none] ++ wsX40)
def wsX4_isNumber : List Cond := .code yX4_isNumber cX4_isNumber 1 (some .boolean) :: ([.static yX6_within, .initialized RX6, .code yX6_within cX6_within 4 (some .boolean)])
def wsX4_isMissing : List Cond := .code yX4_isMissing cX4_isMissing 2 (some .boolean) :: ([.fieldLink RX4 20 "MachineHall$Sheets" "lengths" "[I"] ++ wsX40)
def wsX4_make : List Cond := .code yX4_make cX4_make 4 none :: ([.fieldLink RX4 13 "MachineHall$Sheets" "numbers" "[[J", .fieldLink RX4 16 "MachineHall$Sheets" "sorts" "[I", .fieldLink RX4 20 "MachineHall$Sheets" "lengths" "[I", .methodLink RX4 33 yJ7_fill_d0a16, .static yJ7_fill_d0a16, .initialized RJ7, .code yJ7_fill_d0a16 cJ7_fill_d0a16 5 none] ++ wsX40)
def wsX4_lose : List Cond := .code yX4_lose cX4_lose 2 none :: ([.fieldLink RX4 20 "MachineHall$Sheets" "lengths" "[I"] ++ wsX40)
def wsX4_cut : List Cond := .code yX4_cut cX4_cut 3 (some .long) :: ([])
def wsX4_put : List Cond := .code yX4_put cX4_put 5 none :: ([.fieldLink RX4 13 "MachineHall$Sheets" "numbers" "[[J", .fieldLink RX4 16 "MachineHall$Sheets" "sorts" "[I", .methodLink RX4 36 yX4_cut, .static yX4_cut, .initialized RX4, .code yX4_cut cX4_cut 3 (some .long)] ++ wsX40)
def wsX4_whyNoPlace : List Cond := .code yX4_whyNoPlace cX4_whyNoPlace 3 (some .int) :: ([.fieldLink RX4 20 "MachineHall$Sheets" "lengths" "[I", .methodLink RX4 40 yX4_isNumber, .static yX4_isNumber, .initialized RX4, .code yX4_isNumber cX4_isNumber 1 (some .boolean), .static yX6_within, .initialized RX6, .code yX6_within cX6_within 4 (some .boolean), .methodLink RX4 44 yX4_isMissing, .instanceMethod yX4_isMissing, .selects RX4 yX4_isMissing yX4_isMissing, .code yX4_isMissing cX4_isMissing 2 (some .boolean)] ++ wsX40)
def wsX4_whyNotFirst : List Cond := .code yX4_whyNotFirst cX4_whyNotFirst 5 (some .int) :: ([.fieldLink RX4 20 "MachineHall$Sheets" "lengths" "[I", .fieldLink RX4 13 "MachineHall$Sheets" "numbers" "[[J", .methodLink RX4 44 yX4_isMissing, .instanceMethod yX4_isMissing, .selects RX4 yX4_isMissing yX4_isMissing, .initialized RX4, .code yX4_isMissing cX4_isMissing 2 (some .boolean), .static yX6_within, .initialized RX6, .code yX6_within cX6_within 4 (some .boolean)] ++ wsX40)
def wsX4_spans : List Cond := .code yX4_spans cX4_spans 4 (some .boolean) :: ([.fieldLink RX4 20 "MachineHall$Sheets" "lengths" "[I"] ++ wsX40)
def wsX4_carry : List Cond := .code yX4_carry cX4_carry 7 none :: ([.fieldLink RX4 13 "MachineHall$Sheets" "numbers" "[[J", .methodLink RX4 47 arraycopyName, .native arraycopyName, .static arraycopyName, .initialized "java/lang/System", .methodLink RX4 53 yX4_put, .instanceMethod yX4_put, .selects RX4 yX4_put yX4_put, .initialized RX4, .code yX4_put cX4_put 5 none, .fieldLink RX4 16 "MachineHall$Sheets" "sorts" "[I", .methodLink RX4 36 yX4_cut, .static yX4_cut, .code yX4_cut cX4_cut 3 (some .long)] ++ wsX40)
def wsX5_init : List Cond := .code yX5_init cX5_init 1 none :: ([.methodLink RX5 1 objectInit, .instanceMethod objectInit, .code objectInit ⟨#[0xb1]⟩ 1 none, .arrayClass .int, .fieldLink RX5 9 "MachineHall$Waiting" "freeAt" "[I"] ++ wsX50)
def wsX5_note : List Cond := .code yX5_note cX5_note 2 none :: ([.fieldLink RX5 13 "MachineHall$Waiting" "greatest" "I", .methodLink RX5 41 Lib.Math.max.name, .static Lib.Math.max.name, .initialized "java/lang/Math", .code Lib.Math.max.name Lib.Math.max.code 2 (some .int), .fieldLink RX5 17 "MachineHall$Waiting" "together" "I", .fieldLink RX5 20 "MachineHall$Waiting" "came" "I", .fieldLink RX5 23 "MachineHall$Waiting" "waited" "I"] ++ wsX50)
def wsX5_serve_r1 : List Cond := [Cond.fieldLink RX5 13 "MachineHall$Waiting" "greatest" "I", Cond.fieldLink RX5 17 "MachineHall$Waiting" "together" "I", Cond.fieldLink RX5 20 "MachineHall$Waiting" "came" "I", Cond.fieldLink RX5 23 "MachineHall$Waiting" "waited" "I", Cond.fieldLink RX5 26 "MachineHall$Waiting" "end" "I", Cond.fieldLink RX5 9 "MachineHall$Waiting" "freeAt" "[I", Cond.methodLink RX5 41 Lib.Math.max.name, Cond.static Lib.Math.max.name, Cond.initialized "java/lang/Math", Cond.code Lib.Math.max.name Lib.Math.max.code 2 (some .int), Cond.methodLink RX5 29 yJ7_fill_53178, Cond.static yJ7_fill_53178, Cond.initialized RJ7, Cond.code yJ7_fill_53178 cJ7_fill_53178 4 none, Cond.methodLink RX5 35 yX4_at, Cond.instanceMethod yX4_at, Cond.selects RX4 yX4_at yX4_at, Cond.initialized RX4, Cond.code yX4_at cX4_at 3 (some .long), Cond.fieldLink RX4 13 "MachineHall$Sheets" "numbers" "[[J", Cond.methodLink RX5 47 yX5_note, Cond.instanceMethod yX5_note, Cond.selects RX5 yX5_note yX5_note, Cond.initialized RX5]
def wsX5_serve_r2 : List Cond := [Cond.code yX5_note cX5_note 2 none]
def wsX5_serve : List Cond := .code yX5_serve cX5_serve 12 none :: ((wsX5_serve_r1 ++ wsX5_serve_r2) ++ wsX50 ++ wsX40)
def wsX5_told : List Cond := .code yX5_told cX5_told 2 (some .int) :: ([.fieldLink RX5 13 "MachineHall$Waiting" "greatest" "I", .fieldLink RX5 17 "MachineHall$Waiting" "together" "I", .fieldLink RX5 20 "MachineHall$Waiting" "came" "I", .fieldLink RX5 23 "MachineHall$Waiting" "waited" "I", .fieldLink RX5 26 "MachineHall$Waiting" "end" "I"] ++ wsX50)
def wsX6_init_r1 : List Cond := [Cond.methodLink RX6 1 objectInit, Cond.instanceMethod objectInit, Cond.code objectInit ⟨#[0xb1]⟩ 1 none, Cond.classLink RX6 7 RX4, Cond.instantiable RX4 3, Cond.initialized RX4, Cond.fieldLink RX6 10 "MachineHall" "sheets" "LMachineHall$Sheets;", Cond.classLink RX6 16 RX1, Cond.instantiable RX1 13, Cond.initialized RX1, Cond.fieldLink RX6 19 "MachineHall" "hall" "LMachineHall$Hall;", Cond.classLink RX6 23 RX3, Cond.instantiable RX3 9, Cond.initialized RX3, Cond.fieldLink RX6 26 "MachineHall" "plan" "LMachineHall$Plan;", Cond.classLink RX6 30 RX5, Cond.instantiable RX5 6, Cond.initialized RX5, Cond.fieldLink RX6 33 "MachineHall" "waiting" "LMachineHall$Waiting;", Cond.classLink RX6 37 RX2, Cond.instantiable RX2 12, Cond.initialized RX2, Cond.fieldLink RX6 40 "MachineHall" "market" "LMachineHall$Market;", Cond.fieldLink RX6 44 "MachineHall" "status" "I"]
def wsX6_init_r2 : List Cond := [Cond.methodLink RX6 9 yX4_init, Cond.instanceMethod yX4_init, Cond.code yX4_init cX4_init 1 none, Cond.methodLink RX4 3 objectInit, Cond.classLink RX4 11 "[[J", Cond.arrayClass .long, Cond.fieldLink RX4 13 "MachineHall$Sheets" "numbers" "[[J", Cond.arrayClass .int, Cond.fieldLink RX4 16 "MachineHall$Sheets" "sorts" "[I", Cond.fieldLink RX4 20 "MachineHall$Sheets" "lengths" "[I", Cond.methodLink RX4 23 yJ7_fill_53178, Cond.static yJ7_fill_53178, Cond.initialized RJ7, Cond.code yJ7_fill_53178 cJ7_fill_53178 4 none, Cond.methodLink RX6 18 yX1_init, Cond.instanceMethod yX1_init, Cond.code yX1_init cX1_init 1 none, Cond.methodLink RX1 5 objectInit, Cond.fieldLink RX1 11 "MachineHall$Hall" "sizes" "[I", Cond.fieldLink RX1 15 "MachineHall$Hall" "inRoom" "[I", Cond.fieldLink RX1 18 "MachineHall$Hall" "needs" "[I", Cond.fieldLink RX1 21 "MachineHall$Hall" "foes" "[I", Cond.fieldLink RX1 24 "MachineHall$Hall" "ofHour" "[I", Cond.fieldLink RX1 27 "MachineHall$Hall" "load" "[I"]
def wsX6_init_r3 : List Cond := [Cond.arrayClass .boolean, Cond.fieldLink RX1 30 "MachineHall$Hall" "clash" "[Z", Cond.fieldLink RX1 34 "MachineHall$Hall" "asked" "[Z", Cond.fieldLink RX1 37 "MachineHall$Hall" "latest" "[I", Cond.fieldLink RX1 40 "MachineHall$Hall" "latestFor" "I", Cond.methodLink RX6 25 yX3_init, Cond.instanceMethod yX3_init, Cond.code yX3_init cX3_init 1 none, Cond.methodLink RX3 5 objectInit, Cond.classLink RX3 11 "[[I", Cond.fieldLink RX3 13 "MachineHall$Plan" "parts" "[[I", Cond.fieldLink RX3 16 "MachineHall$Plan" "works" "[I", Cond.fieldLink RX3 20 "MachineHall$Plan" "froms" "[I", Cond.fieldLink RX3 23 "MachineHall$Plan" "dues" "[I", Cond.fieldLink RX3 26 "MachineHall$Plan" "mosts" "[I", Cond.classLink RX3 29 RX0, Cond.instantiable RX0 4, Cond.initialized RX0, Cond.fieldLink RX3 34 "MachineHall$Plan" "flow" "LMachineHall$Flow;", Cond.fieldLink RX3 38 "MachineHall$Plan" "laidFor" "I", Cond.methodLink RX3 31 yX0_init, Cond.instanceMethod yX0_init, Cond.code yX0_init cX0_init 2 none, Cond.methodLink RX0 3 objectInit]
def wsX6_init_r4 : List Cond := [Cond.fieldLink RX0 9 "MachineHall$Flow" "nodes" "I", Cond.classLink RX0 15 "[[I", Cond.fieldLink RX0 17 "MachineHall$Flow" "open" "[[I", Cond.fieldLink RX0 20 "MachineHall$Flow" "cameFrom" "[I", Cond.fieldLink RX0 24 "MachineHall$Flow" "reached" "[I", Cond.methodLink RX6 32 yX5_init, Cond.instanceMethod yX5_init, Cond.code yX5_init cX5_init 1 none, Cond.methodLink RX5 1 objectInit, Cond.fieldLink RX5 9 "MachineHall$Waiting" "freeAt" "[I", Cond.methodLink RX6 39 yX2_init, Cond.instanceMethod yX2_init, Cond.code yX2_init cX2_init 1 none, Cond.methodLink RX2 5 objectInit, Cond.classLink RX2 11 "[[I", Cond.fieldLink RX2 13 "MachineHall$Market" "bought" "[[I", Cond.fieldLink RX2 16 "MachineHall$Market" "wants" "[I", Cond.fieldLink RX2 20 "MachineHall$Market" "sizes" "[I", Cond.fieldLink RX2 23 "MachineHall$Market" "leads" "[I", Cond.fieldLink RX2 26 "MachineHall$Market" "powers" "[I", Cond.fieldLink RX2 29 "MachineHall$Market" "prices" "[[I", Cond.fieldLink RX2 32 "MachineHall$Market" "toPay" "[I", Cond.fieldLink RX2 35 "MachineHall$Market" "oneMore" "[J"]
def wsX6_init : List Cond := .code yX6_init cX6_init 1 none :: ((wsX6_init_r1 ++ (wsX6_init_r2 ++ (wsX6_init_r3 ++ wsX6_init_r4))) ++ wsX40 ++ wsX60 ++ wsX10 ++ wsX30 ++ wsX50 ++ wsX20 ++ wsX00)
def wsX6_status : List Cond := .code yX6_status cX6_status 1 (some .int) :: ([.fieldLink RX6 44 "MachineHall" "status" "I"] ++ wsX60)
def wsX6_refuse : List Cond := .code yX6_refuse cX6_refuse 2 (some .boolean) :: ([.fieldLink RX6 44 "MachineHall" "status" "I"] ++ wsX60)
def wsX6_agree : List Cond := .code yX6_agree cX6_agree 1 (some .boolean) :: ([.fieldLink RX6 44 "MachineHall" "status" "I"] ++ wsX60)
def wsX6_sheet_r1 : List Cond := [Cond.fieldLink RX6 10 "MachineHall" "sheets" "LMachineHall$Sheets;", Cond.methodLink RX6 48 yX4_isNumber, Cond.static yX4_isNumber, Cond.initialized RX4, Cond.code yX4_isNumber cX4_isNumber 1 (some .boolean), Cond.static yX6_within, Cond.initialized RX6, Cond.code yX6_within cX6_within 4 (some .boolean), Cond.methodLink RX6 52 yX6_within, Cond.methodLink RX6 56 yX6_refuse, Cond.instanceMethod yX6_refuse, Cond.selects RX6 yX6_refuse yX6_refuse, Cond.code yX6_refuse cX6_refuse 2 (some .boolean), Cond.fieldLink RX6 44 "MachineHall" "status" "I", Cond.methodLink RX6 59 yX4_make, Cond.instanceMethod yX4_make, Cond.selects RX4 yX4_make yX4_make, Cond.code yX4_make cX4_make 4 none, Cond.fieldLink RX4 13 "MachineHall$Sheets" "numbers" "[[J", Cond.fieldLink RX4 16 "MachineHall$Sheets" "sorts" "[I", Cond.fieldLink RX4 20 "MachineHall$Sheets" "lengths" "[I", Cond.methodLink RX4 33 yJ7_fill_d0a16, Cond.static yJ7_fill_d0a16, Cond.initialized RJ7]
def wsX6_sheet_r2 : List Cond := [Cond.code yJ7_fill_d0a16 cJ7_fill_d0a16 5 none, Cond.methodLink RX6 63 yX6_agree, Cond.instanceMethod yX6_agree, Cond.selects RX6 yX6_agree yX6_agree, Cond.code yX6_agree cX6_agree 1 (some .boolean)]
def wsX6_sheet : List Cond := .code yX6_sheet cX6_sheet 4 (some .boolean) :: ((wsX6_sheet_r1 ++ wsX6_sheet_r2) ++ wsX60 ++ wsX40)
def wsX6_write_r1 : List Cond := [Cond.fieldLink RX6 10 "MachineHall" "sheets" "LMachineHall$Sheets;", Cond.methodLink RX6 67 yX4_whyNoPlace, Cond.instanceMethod yX4_whyNoPlace, Cond.selects RX4 yX4_whyNoPlace yX4_whyNoPlace, Cond.initialized RX4, Cond.code yX4_whyNoPlace cX4_whyNoPlace 3 (some .int), Cond.fieldLink RX4 20 "MachineHall$Sheets" "lengths" "[I", Cond.methodLink RX4 40 yX4_isNumber, Cond.static yX4_isNumber, Cond.code yX4_isNumber cX4_isNumber 1 (some .boolean), Cond.static yX6_within, Cond.initialized RX6, Cond.code yX6_within cX6_within 4 (some .boolean), Cond.methodLink RX4 44 yX4_isMissing, Cond.instanceMethod yX4_isMissing, Cond.selects RX4 yX4_isMissing yX4_isMissing, Cond.code yX4_isMissing cX4_isMissing 2 (some .boolean), Cond.methodLink RX6 56 yX6_refuse, Cond.instanceMethod yX6_refuse, Cond.selects RX6 yX6_refuse yX6_refuse, Cond.code yX6_refuse cX6_refuse 2 (some .boolean), Cond.fieldLink RX6 44 "MachineHall" "status" "I", Cond.methodLink RX6 71 yX4_put, Cond.instanceMethod yX4_put]
def wsX6_write_r2 : List Cond := [Cond.selects RX4 yX4_put yX4_put, Cond.code yX4_put cX4_put 5 none, Cond.fieldLink RX4 13 "MachineHall$Sheets" "numbers" "[[J", Cond.fieldLink RX4 16 "MachineHall$Sheets" "sorts" "[I", Cond.methodLink RX4 36 yX4_cut, Cond.static yX4_cut, Cond.code yX4_cut cX4_cut 3 (some .long), Cond.methodLink RX6 63 yX6_agree, Cond.instanceMethod yX6_agree, Cond.selects RX6 yX6_agree yX6_agree, Cond.code yX6_agree cX6_agree 1 (some .boolean)]
def wsX6_write : List Cond := .code yX6_write cX6_write 6 (some .boolean) :: ((wsX6_write_r1 ++ wsX6_write_r2) ++ wsX60 ++ wsX40)
def wsX6_deny : List Cond := .code yX6_deny cX6_deny 2 (some .int) :: ([.fieldLink RX6 44 "MachineHall" "status" "I"] ++ wsX60)
def wsX6_read_r1 : List Cond := [Cond.fieldLink RX6 10 "MachineHall" "sheets" "LMachineHall$Sheets;", Cond.fieldLink RX6 44 "MachineHall" "status" "I", Cond.methodLink RX6 67 yX4_whyNoPlace, Cond.instanceMethod yX4_whyNoPlace, Cond.selects RX4 yX4_whyNoPlace yX4_whyNoPlace, Cond.initialized RX4, Cond.code yX4_whyNoPlace cX4_whyNoPlace 3 (some .int), Cond.fieldLink RX4 20 "MachineHall$Sheets" "lengths" "[I", Cond.methodLink RX4 40 yX4_isNumber, Cond.static yX4_isNumber, Cond.code yX4_isNumber cX4_isNumber 1 (some .boolean), Cond.static yX6_within, Cond.initialized RX6, Cond.code yX6_within cX6_within 4 (some .boolean), Cond.methodLink RX4 44 yX4_isMissing, Cond.instanceMethod yX4_isMissing, Cond.selects RX4 yX4_isMissing yX4_isMissing, Cond.code yX4_isMissing cX4_isMissing 2 (some .boolean), Cond.methodLink RX6 75 yX6_deny, Cond.instanceMethod yX6_deny, Cond.selects RX6 yX6_deny yX6_deny, Cond.code yX6_deny cX6_deny 2 (some .int), Cond.methodLink RX6 79 yX4_at, Cond.instanceMethod yX4_at]
def wsX6_read_r2 : List Cond := [Cond.selects RX4 yX4_at yX4_at, Cond.code yX4_at cX4_at 3 (some .long), Cond.fieldLink RX4 13 "MachineHall$Sheets" "numbers" "[[J"]
def wsX6_read : List Cond := .code yX6_read cX6_read 4 (some .long) :: ((wsX6_read_r1 ++ wsX6_read_r2) ++ wsX60 ++ wsX40)
def wsX6_drop_r1 : List Cond := [Cond.fieldLink RX6 10 "MachineHall" "sheets" "LMachineHall$Sheets;", Cond.methodLink RX6 48 yX4_isNumber, Cond.static yX4_isNumber, Cond.initialized RX4, Cond.code yX4_isNumber cX4_isNumber 1 (some .boolean), Cond.static yX6_within, Cond.initialized RX6, Cond.code yX6_within cX6_within 4 (some .boolean), Cond.methodLink RX6 56 yX6_refuse, Cond.instanceMethod yX6_refuse, Cond.selects RX6 yX6_refuse yX6_refuse, Cond.code yX6_refuse cX6_refuse 2 (some .boolean), Cond.fieldLink RX6 44 "MachineHall" "status" "I", Cond.methodLink RX6 83 yX4_isMissing, Cond.instanceMethod yX4_isMissing, Cond.selects RX4 yX4_isMissing yX4_isMissing, Cond.code yX4_isMissing cX4_isMissing 2 (some .boolean), Cond.fieldLink RX4 20 "MachineHall$Sheets" "lengths" "[I", Cond.methodLink RX6 86 yX4_lose, Cond.instanceMethod yX4_lose, Cond.selects RX4 yX4_lose yX4_lose, Cond.code yX4_lose cX4_lose 2 none, Cond.methodLink RX6 63 yX6_agree, Cond.instanceMethod yX6_agree]
def wsX6_drop_r2 : List Cond := [Cond.selects RX6 yX6_agree yX6_agree, Cond.code yX6_agree cX6_agree 1 (some .boolean)]
def wsX6_drop : List Cond := .code yX6_drop cX6_drop 2 (some .boolean) :: ((wsX6_drop_r1 ++ wsX6_drop_r2) ++ wsX60 ++ wsX40)
def wsX6_copy_r1 : List Cond := [Cond.fieldLink RX6 10 "MachineHall" "sheets" "LMachineHall$Sheets;", Cond.methodLink RX6 48 yX4_isNumber, Cond.static yX4_isNumber, Cond.initialized RX4, Cond.code yX4_isNumber cX4_isNumber 1 (some .boolean), Cond.static yX6_within, Cond.initialized RX6, Cond.code yX6_within cX6_within 4 (some .boolean), Cond.methodLink RX6 56 yX6_refuse, Cond.instanceMethod yX6_refuse, Cond.selects RX6 yX6_refuse yX6_refuse, Cond.code yX6_refuse cX6_refuse 2 (some .boolean), Cond.fieldLink RX6 44 "MachineHall" "status" "I", Cond.methodLink RX6 83 yX4_isMissing, Cond.instanceMethod yX4_isMissing, Cond.selects RX4 yX4_isMissing yX4_isMissing, Cond.code yX4_isMissing cX4_isMissing 2 (some .boolean), Cond.fieldLink RX4 20 "MachineHall$Sheets" "lengths" "[I", Cond.methodLink RX6 90 yX4_spans, Cond.instanceMethod yX4_spans, Cond.selects RX4 yX4_spans yX4_spans, Cond.code yX4_spans cX4_spans 4 (some .boolean), Cond.methodLink RX6 94 yX4_carry, Cond.instanceMethod yX4_carry]
def wsX6_copy_r2 : List Cond := [Cond.selects RX4 yX4_carry yX4_carry, Cond.code yX4_carry cX4_carry 7 none, Cond.fieldLink RX4 13 "MachineHall$Sheets" "numbers" "[[J", Cond.methodLink RX4 47 arraycopyName, Cond.native arraycopyName, Cond.static arraycopyName, Cond.initialized "java/lang/System", Cond.methodLink RX4 53 yX4_put, Cond.instanceMethod yX4_put, Cond.selects RX4 yX4_put yX4_put, Cond.code yX4_put cX4_put 5 none, Cond.fieldLink RX4 16 "MachineHall$Sheets" "sorts" "[I", Cond.methodLink RX4 36 yX4_cut, Cond.static yX4_cut, Cond.code yX4_cut cX4_cut 3 (some .long), Cond.methodLink RX6 63 yX6_agree, Cond.instanceMethod yX6_agree, Cond.selects RX6 yX6_agree yX6_agree, Cond.code yX6_agree cX6_agree 1 (some .boolean)]
def wsX6_copy : List Cond := .code yX6_copy cX6_copy 6 (some .boolean) :: ((wsX6_copy_r1 ++ wsX6_copy_r2) ++ wsX60 ++ wsX40)
def wsX6_none : List Cond := .code yX6_none cX6_none 1 (some .boolean) :: ([.methodLink RX6 56 yX6_refuse, .instanceMethod yX6_refuse, .selects RX6 yX6_refuse yX6_refuse, .initialized RX6, .code yX6_refuse cX6_refuse 2 (some .boolean), .fieldLink RX6 44 "MachineHall" "status" "I"] ++ wsX60)
def wsX6_answer : List Cond := .code yX6_answer cX6_answer 2 (some .int) :: ([.fieldLink RX6 44 "MachineHall" "status" "I"] ++ wsX60)
def wsX6_machine : List Cond := .code yX6_machine cX6_machine 3 (some .int) :: ([.fieldLink RX6 19 "MachineHall" "hall" "LMachineHall$Hall;", .fieldLink RX6 98 "MachineHall$Hall" "machines" "I", .methodLink RX6 52 yX6_within, .static yX6_within, .initialized RX6, .code yX6_within cX6_within 4 (some .boolean), .methodLink RX6 75 yX6_deny, .instanceMethod yX6_deny, .selects RX6 yX6_deny yX6_deny, .code yX6_deny cX6_deny 2 (some .int), .fieldLink RX6 44 "MachineHall" "status" "I", .methodLink RX6 101 yX1_addMachine, .instanceMethod yX1_addMachine, .selects RX1 yX1_addMachine yX1_addMachine, .initialized RX1, .code yX1_addMachine cX1_addMachine 4 (some .int), .fieldLink RX1 48 "MachineHall$Hall" "machines" "I", .fieldLink RX1 11 "MachineHall$Hall" "sizes" "[I", .fieldLink RX1 15 "MachineHall$Hall" "inRoom" "[I", .fieldLink RX1 54 "MachineHall$Hall" "ups" "I", .methodLink RX6 104 yX6_answer, .instanceMethod yX6_answer, .selects RX6 yX6_answer yX6_answer, .code yX6_answer cX6_answer 2 (some .int)] ++ wsX60 ++ wsX10)
def wsX6_up_r1 : List Cond := [Cond.fieldLink RX6 19 "MachineHall" "hall" "LMachineHall$Hall;", Cond.methodLink RX6 107 yX1_hasMachine, Cond.instanceMethod yX1_hasMachine, Cond.selects RX1 yX1_hasMachine yX1_hasMachine, Cond.initialized RX1, Cond.code yX1_hasMachine cX1_hasMachine 2 (some .boolean), Cond.fieldLink RX1 48 "MachineHall$Hall" "machines" "I", Cond.static yX6_within, Cond.initialized RX6, Cond.code yX6_within cX6_within 4 (some .boolean), Cond.methodLink RX6 56 yX6_refuse, Cond.instanceMethod yX6_refuse, Cond.selects RX6 yX6_refuse yX6_refuse, Cond.code yX6_refuse cX6_refuse 2 (some .boolean), Cond.fieldLink RX6 44 "MachineHall" "status" "I", Cond.methodLink RX6 110 yX1_isUp, Cond.instanceMethod yX1_isUp, Cond.selects RX1 yX1_isUp yX1_isUp, Cond.code yX1_isUp cX1_isUp 2 (some .boolean), Cond.fieldLink RX1 54 "MachineHall$Hall" "ups" "I", Cond.methodLink RX1 57 yX1_has, Cond.static yX1_has, Cond.code yX1_has cX1_has 2 (some .boolean), Cond.methodLink RX6 113 yX1_turn]
def wsX6_up_r2 : List Cond := [Cond.instanceMethod yX1_turn, Cond.selects RX1 yX1_turn yX1_turn, Cond.code yX1_turn cX1_turn 2 none, Cond.methodLink RX6 63 yX6_agree, Cond.instanceMethod yX6_agree, Cond.selects RX6 yX6_agree yX6_agree, Cond.code yX6_agree cX6_agree 1 (some .boolean)]
def wsX6_up : List Cond := .code yX6_up cX6_up 3 (some .boolean) :: ((wsX6_up_r1 ++ wsX6_up_r2) ++ wsX60 ++ wsX10)
def wsX6_isHour : List Cond := .code yX6_isHour cX6_isHour 1 (some .boolean) :: ([.methodLink RX6 52 yX6_within, .static yX6_within, .initialized RX6, .code yX6_within cX6_within 4 (some .boolean)])
def wsX6_ask_r1 : List Cond := [Cond.fieldLink RX6 19 "MachineHall" "hall" "LMachineHall$Hall;", Cond.fieldLink RX6 119 "MachineHall$Hall" "asks" "I", Cond.fieldLink RX6 26 "MachineHall" "plan" "LMachineHall$Plan;", Cond.methodLink RX6 52 yX6_within, Cond.static yX6_within, Cond.initialized RX6, Cond.code yX6_within cX6_within 4 (some .boolean), Cond.methodLink RX6 116 yX6_isHour, Cond.static yX6_isHour, Cond.code yX6_isHour cX6_isHour 1 (some .boolean), Cond.methodLink RX6 75 yX6_deny, Cond.instanceMethod yX6_deny, Cond.selects RX6 yX6_deny yX6_deny, Cond.code yX6_deny cX6_deny 2 (some .int), Cond.fieldLink RX6 44 "MachineHall" "status" "I", Cond.methodLink RX6 122 yX3_forget, Cond.instanceMethod yX3_forget, Cond.selects RX3 yX3_forget yX3_forget, Cond.initialized RX3, Cond.code yX3_forget cX3_forget 1 none, Cond.fieldLink RX3 38 "MachineHall$Plan" "laidFor" "I", Cond.methodLink RX6 125 yX1_addAsk, Cond.instanceMethod yX1_addAsk, Cond.selects RX1 yX1_addAsk yX1_addAsk]
def wsX6_ask_r2 : List Cond := [Cond.initialized RX1, Cond.code yX1_addAsk cX1_addAsk 6 (some .int), Cond.fieldLink RX1 51 "MachineHall$Hall" "asks" "I", Cond.fieldLink RX1 18 "MachineHall$Hall" "needs" "[I", Cond.fieldLink RX1 24 "MachineHall$Hall" "ofHour" "[I", Cond.methodLink RX1 61 yX1_markAsked, Cond.instanceMethod yX1_markAsked, Cond.selects RX1 yX1_markAsked yX1_markAsked, Cond.code yX1_markAsked cX1_markAsked 3 none, Cond.fieldLink RX1 34 "MachineHall$Hall" "asked" "[Z", Cond.methodLink RX1 65 yX1_tally, Cond.instanceMethod yX1_tally, Cond.selects RX1 yX1_tally yX1_tally, Cond.code yX1_tally cX1_tally 4 none, Cond.fieldLink RX1 40 "MachineHall$Hall" "latestFor" "I", Cond.fieldLink RX1 27 "MachineHall$Hall" "load" "[I", Cond.fieldLink RX1 30 "MachineHall$Hall" "clash" "[Z", Cond.fieldLink RX1 21 "MachineHall$Hall" "foes" "[I", Cond.methodLink RX6 104 yX6_answer, Cond.instanceMethod yX6_answer, Cond.selects RX6 yX6_answer yX6_answer, Cond.code yX6_answer cX6_answer 2 (some .int)]
def wsX6_ask : List Cond := .code yX6_ask cX6_ask 4 (some .int) :: ((wsX6_ask_r1 ++ wsX6_ask_r2) ++ wsX60 ++ wsX10 ++ wsX30)
def wsX6_apart_r1 : List Cond := [Cond.fieldLink RX6 19 "MachineHall" "hall" "LMachineHall$Hall;", Cond.fieldLink RX6 26 "MachineHall" "plan" "LMachineHall$Plan;", Cond.methodLink RX6 129 yX1_hasAsk, Cond.instanceMethod yX1_hasAsk, Cond.selects RX1 yX1_hasAsk yX1_hasAsk, Cond.initialized RX1, Cond.code yX1_hasAsk cX1_hasAsk 2 (some .boolean), Cond.fieldLink RX1 51 "MachineHall$Hall" "asks" "I", Cond.static yX6_within, Cond.initialized RX6, Cond.code yX6_within cX6_within 4 (some .boolean), Cond.methodLink RX6 56 yX6_refuse, Cond.instanceMethod yX6_refuse, Cond.selects RX6 yX6_refuse yX6_refuse, Cond.code yX6_refuse cX6_refuse 2 (some .boolean), Cond.fieldLink RX6 44 "MachineHall" "status" "I", Cond.methodLink RX6 132 yX1_areFoes, Cond.instanceMethod yX1_areFoes, Cond.selects RX1 yX1_areFoes yX1_areFoes, Cond.code yX1_areFoes cX1_areFoes 3 (some .boolean), Cond.fieldLink RX1 21 "MachineHall$Hall" "foes" "[I", Cond.methodLink RX1 57 yX1_has, Cond.static yX1_has, Cond.code yX1_has cX1_has 2 (some .boolean)]
def wsX6_apart_r2 : List Cond := [Cond.methodLink RX6 122 yX3_forget, Cond.instanceMethod yX3_forget, Cond.selects RX3 yX3_forget yX3_forget, Cond.initialized RX3, Cond.code yX3_forget cX3_forget 1 none, Cond.fieldLink RX3 38 "MachineHall$Plan" "laidFor" "I", Cond.methodLink RX6 136 yX1_turnFoes, Cond.instanceMethod yX1_turnFoes, Cond.selects RX1 yX1_turnFoes yX1_turnFoes, Cond.code yX1_turnFoes cX1_turnFoes 3 none, Cond.methodLink RX1 65 yX1_tally, Cond.instanceMethod yX1_tally, Cond.selects RX1 yX1_tally yX1_tally, Cond.code yX1_tally cX1_tally 4 none, Cond.fieldLink RX1 40 "MachineHall$Hall" "latestFor" "I", Cond.fieldLink RX1 27 "MachineHall$Hall" "load" "[I", Cond.fieldLink RX1 18 "MachineHall$Hall" "needs" "[I", Cond.fieldLink RX1 30 "MachineHall$Hall" "clash" "[Z", Cond.methodLink RX6 63 yX6_agree, Cond.instanceMethod yX6_agree, Cond.selects RX6 yX6_agree yX6_agree, Cond.code yX6_agree cX6_agree 1 (some .boolean)]
def wsX6_apart : List Cond := .code yX6_apart cX6_apart 4 (some .boolean) :: ((wsX6_apart_r1 ++ wsX6_apart_r2) ++ wsX60 ++ wsX10 ++ wsX30)
def wsX6_count_r1 : List Cond := [Cond.fieldLink RX6 19 "MachineHall" "hall" "LMachineHall$Hall;", Cond.fieldLink RX6 98 "MachineHall$Hall" "machines" "I", Cond.fieldLink RX6 119 "MachineHall$Hall" "asks" "I", Cond.fieldLink RX6 26 "MachineHall" "plan" "LMachineHall$Plan;", Cond.fieldLink RX6 140 "MachineHall$Plan" "batches" "I", Cond.fieldLink RX6 40 "MachineHall" "market" "LMachineHall$Market;", Cond.fieldLink RX6 143 "MachineHall$Market" "types" "I", Cond.methodLink RX6 104 yX6_answer, Cond.instanceMethod yX6_answer, Cond.selects RX6 yX6_answer yX6_answer, Cond.initialized RX6, Cond.code yX6_answer cX6_answer 2 (some .int), Cond.fieldLink RX6 44 "MachineHall" "status" "I", Cond.methodLink RX6 146 yX1_standing, Cond.instanceMethod yX1_standing, Cond.selects RX1 yX1_standing yX1_standing, Cond.initialized RX1, Cond.code yX1_standing cX1_standing 2 (some .int), Cond.fieldLink RX1 54 "MachineHall$Hall" "ups" "I", Cond.fieldLink RX1 15 "MachineHall$Hall" "inRoom" "[I", Cond.methodLink RX6 149 yX1_sizeOf, Cond.instanceMethod yX1_sizeOf, Cond.selects RX1 yX1_sizeOf yX1_sizeOf, Cond.code yX1_sizeOf cX1_sizeOf 4 (some .int)]
def wsX6_count_r2 : List Cond := [Cond.fieldLink RX1 48 "MachineHall$Hall" "machines" "I", Cond.fieldLink RX1 11 "MachineHall$Hall" "sizes" "[I", Cond.methodLink RX1 57 yX1_has, Cond.static yX1_has, Cond.code yX1_has cX1_has 2 (some .boolean), Cond.methodLink RX6 75 yX6_deny, Cond.instanceMethod yX6_deny, Cond.selects RX6 yX6_deny yX6_deny, Cond.code yX6_deny cX6_deny 2 (some .int)]
def wsX6_count : List Cond := .code yX6_count cX6_count 2 (some .int) :: ((wsX6_count_r1 ++ wsX6_count_r2) ++ wsX60 ++ wsX10 ++ wsX30 ++ wsX20)
def wsX6_fits_r1 : List Cond := [Cond.fieldLink RX6 19 "MachineHall" "hall" "LMachineHall$Hall;", Cond.methodLink RX6 116 yX6_isHour, Cond.static yX6_isHour, Cond.initialized RX6, Cond.code yX6_isHour cX6_isHour 1 (some .boolean), Cond.methodLink RX6 52 yX6_within, Cond.static yX6_within, Cond.code yX6_within cX6_within 4 (some .boolean), Cond.methodLink RX6 152 yX1_isFall, Cond.static yX1_isFall, Cond.initialized RX1, Cond.code yX1_isFall cX1_isFall 1 (some .boolean), Cond.methodLink RX6 75 yX6_deny, Cond.instanceMethod yX6_deny, Cond.selects RX6 yX6_deny yX6_deny, Cond.code yX6_deny cX6_deny 2 (some .int), Cond.fieldLink RX6 44 "MachineHall" "status" "I", Cond.methodLink RX6 146 yX1_standing, Cond.instanceMethod yX1_standing, Cond.selects RX1 yX1_standing yX1_standing, Cond.code yX1_standing cX1_standing 2 (some .int), Cond.fieldLink RX1 54 "MachineHall$Hall" "ups" "I", Cond.fieldLink RX1 15 "MachineHall$Hall" "inRoom" "[I", Cond.methodLink RX6 155 yX1_holds]
def wsX6_fits_r2 : List Cond := [Cond.instanceMethod yX1_holds, Cond.selects RX1 yX1_holds yX1_holds, Cond.code yX1_holds cX1_holds 3 (some .boolean), Cond.fieldLink RX1 37 "MachineHall$Hall" "latest" "[I", Cond.fieldLink RX1 24 "MachineHall$Hall" "ofHour" "[I", Cond.methodLink RX1 68 yX1_findLatest, Cond.instanceMethod yX1_findLatest, Cond.selects RX1 yX1_findLatest yX1_findLatest, Cond.code yX1_findLatest cX1_findLatest 4 none, Cond.fieldLink RX1 40 "MachineHall$Hall" "latestFor" "I", Cond.fieldLink RX1 48 "MachineHall$Hall" "machines" "I", Cond.fieldLink RX1 11 "MachineHall$Hall" "sizes" "[I", Cond.methodLink RX1 96 yJ7_fill_53178, Cond.static yJ7_fill_53178, Cond.initialized RJ7, Cond.code yJ7_fill_53178 cJ7_fill_53178 4 none, Cond.methodLink RX1 57 yX1_has, Cond.static yX1_has, Cond.code yX1_has cX1_has 2 (some .boolean), Cond.methodLink RX1 102 yX1_findWith, Cond.instanceMethod yX1_findWith, Cond.selects RX1 yX1_findWith yX1_findWith, Cond.code yX1_findWith cX1_findWith 4 none, Cond.fieldLink RX1 51 "MachineHall$Hall" "asks" "I"]
def wsX6_fits_r3 : List Cond := [Cond.fieldLink RX1 34 "MachineHall$Hall" "asked" "[Z", Cond.fieldLink RX1 27 "MachineHall$Hall" "load" "[I", Cond.methodLink RX1 71 yX1_greatestOn, Cond.instanceMethod yX1_greatestOn, Cond.selects RX1 yX1_greatestOn yX1_greatestOn, Cond.code yX1_greatestOn cX1_greatestOn 4 (some .int), Cond.fieldLink RX1 30 "MachineHall$Hall" "clash" "[Z", Cond.methodLink RX6 104 yX6_answer, Cond.instanceMethod yX6_answer, Cond.selects RX6 yX6_answer yX6_answer, Cond.code yX6_answer cX6_answer 2 (some .int)]
def wsX6_fits : List Cond := .code yX6_fits cX6_fits 3 (some .int) :: ((wsX6_fits_r1 ++ (wsX6_fits_r2 ++ wsX6_fits_r3)) ++ wsX60 ++ wsX10)
def wsX6_on_r1 : List Cond := [Cond.fieldLink RX6 19 "MachineHall" "hall" "LMachineHall$Hall;", Cond.methodLink RX6 116 yX6_isHour, Cond.static yX6_isHour, Cond.initialized RX6, Cond.code yX6_isHour cX6_isHour 1 (some .boolean), Cond.methodLink RX6 52 yX6_within, Cond.static yX6_within, Cond.code yX6_within cX6_within 4 (some .boolean), Cond.methodLink RX6 152 yX1_isFall, Cond.static yX1_isFall, Cond.initialized RX1, Cond.code yX1_isFall cX1_isFall 1 (some .boolean), Cond.methodLink RX6 129 yX1_hasAsk, Cond.instanceMethod yX1_hasAsk, Cond.selects RX1 yX1_hasAsk yX1_hasAsk, Cond.code yX1_hasAsk cX1_hasAsk 2 (some .boolean), Cond.fieldLink RX1 51 "MachineHall$Hall" "asks" "I", Cond.methodLink RX6 158 yX1_isAskOf, Cond.instanceMethod yX1_isAskOf, Cond.selects RX1 yX1_isAskOf yX1_isAskOf, Cond.code yX1_isAskOf cX1_isAskOf 3 (some .boolean), Cond.fieldLink RX1 24 "MachineHall$Hall" "ofHour" "[I", Cond.methodLink RX1 57 yX1_has, Cond.static yX1_has]
def wsX6_on_r2 : List Cond := [Cond.code yX1_has cX1_has 2 (some .boolean), Cond.methodLink RX6 75 yX6_deny, Cond.instanceMethod yX6_deny, Cond.selects RX6 yX6_deny yX6_deny, Cond.code yX6_deny cX6_deny 2 (some .int), Cond.fieldLink RX6 44 "MachineHall" "status" "I", Cond.methodLink RX6 146 yX1_standing, Cond.instanceMethod yX1_standing, Cond.selects RX1 yX1_standing yX1_standing, Cond.code yX1_standing cX1_standing 2 (some .int), Cond.fieldLink RX1 54 "MachineHall$Hall" "ups" "I", Cond.fieldLink RX1 15 "MachineHall$Hall" "inRoom" "[I", Cond.methodLink RX6 155 yX1_holds, Cond.instanceMethod yX1_holds, Cond.selects RX1 yX1_holds yX1_holds, Cond.code yX1_holds cX1_holds 3 (some .boolean), Cond.fieldLink RX1 37 "MachineHall$Hall" "latest" "[I", Cond.methodLink RX1 68 yX1_findLatest, Cond.instanceMethod yX1_findLatest, Cond.selects RX1 yX1_findLatest yX1_findLatest, Cond.code yX1_findLatest cX1_findLatest 4 none, Cond.fieldLink RX1 40 "MachineHall$Hall" "latestFor" "I", Cond.fieldLink RX1 48 "MachineHall$Hall" "machines" "I", Cond.fieldLink RX1 11 "MachineHall$Hall" "sizes" "[I"]
def wsX6_on_r3 : List Cond := [Cond.methodLink RX1 96 yJ7_fill_53178, Cond.static yJ7_fill_53178, Cond.initialized RJ7, Cond.code yJ7_fill_53178 cJ7_fill_53178 4 none, Cond.methodLink RX1 102 yX1_findWith, Cond.instanceMethod yX1_findWith, Cond.selects RX1 yX1_findWith yX1_findWith, Cond.code yX1_findWith cX1_findWith 4 none, Cond.fieldLink RX1 34 "MachineHall$Hall" "asked" "[Z", Cond.fieldLink RX1 27 "MachineHall$Hall" "load" "[I", Cond.methodLink RX1 71 yX1_greatestOn, Cond.instanceMethod yX1_greatestOn, Cond.selects RX1 yX1_greatestOn yX1_greatestOn, Cond.code yX1_greatestOn cX1_greatestOn 4 (some .int), Cond.fieldLink RX1 30 "MachineHall$Hall" "clash" "[Z", Cond.methodLink RX6 161 yX1_layingOf, Cond.instanceMethod yX1_layingOf, Cond.selects RX1 yX1_layingOf yX1_layingOf, Cond.code yX1_layingOf cX1_layingOf 7 (some .int), Cond.methodLink RX6 104 yX6_answer, Cond.instanceMethod yX6_answer, Cond.selects RX6 yX6_answer yX6_answer, Cond.code yX6_answer cX6_answer 2 (some .int)]
def wsX6_on : List Cond := .code yX6_on cX6_on 4 (some .int) :: ((wsX6_on_r1 ++ (wsX6_on_r2 ++ wsX6_on_r3)) ++ wsX60 ++ wsX10)
def wsX6_lack_r1 : List Cond := [Cond.fieldLink RX6 19 "MachineHall" "hall" "LMachineHall$Hall;", Cond.methodLink RX6 116 yX6_isHour, Cond.static yX6_isHour, Cond.initialized RX6, Cond.code yX6_isHour cX6_isHour 1 (some .boolean), Cond.methodLink RX6 52 yX6_within, Cond.static yX6_within, Cond.code yX6_within cX6_within 4 (some .boolean), Cond.methodLink RX6 152 yX1_isFall, Cond.static yX1_isFall, Cond.initialized RX1, Cond.code yX1_isFall cX1_isFall 1 (some .boolean), Cond.methodLink RX6 75 yX6_deny, Cond.instanceMethod yX6_deny, Cond.selects RX6 yX6_deny yX6_deny, Cond.code yX6_deny cX6_deny 2 (some .int), Cond.fieldLink RX6 44 "MachineHall" "status" "I", Cond.methodLink RX6 146 yX1_standing, Cond.instanceMethod yX1_standing, Cond.selects RX1 yX1_standing yX1_standing, Cond.code yX1_standing cX1_standing 2 (some .int), Cond.fieldLink RX1 54 "MachineHall$Hall" "ups" "I", Cond.fieldLink RX1 15 "MachineHall$Hall" "inRoom" "[I", Cond.methodLink RX6 164 yX1_lacking]
def wsX6_lack_r2 : List Cond := [Cond.instanceMethod yX1_lacking, Cond.selects RX1 yX1_lacking yX1_lacking, Cond.code yX1_lacking cX1_lacking 6 (some .int), Cond.fieldLink RX1 24 "MachineHall$Hall" "ofHour" "[I", Cond.fieldLink RX1 37 "MachineHall$Hall" "latest" "[I", Cond.fieldLink RX1 27 "MachineHall$Hall" "load" "[I", Cond.methodLink RX1 75 Lib.Math.max.name, Cond.static Lib.Math.max.name, Cond.initialized "java/lang/Math", Cond.code Lib.Math.max.name Lib.Math.max.code 2 (some .int), Cond.methodLink RX1 68 yX1_findLatest, Cond.instanceMethod yX1_findLatest, Cond.selects RX1 yX1_findLatest yX1_findLatest, Cond.code yX1_findLatest cX1_findLatest 4 none, Cond.fieldLink RX1 40 "MachineHall$Hall" "latestFor" "I", Cond.fieldLink RX1 48 "MachineHall$Hall" "machines" "I", Cond.fieldLink RX1 11 "MachineHall$Hall" "sizes" "[I", Cond.methodLink RX1 96 yJ7_fill_53178, Cond.static yJ7_fill_53178, Cond.initialized RJ7, Cond.code yJ7_fill_53178 cJ7_fill_53178 4 none, Cond.methodLink RX1 57 yX1_has, Cond.static yX1_has, Cond.code yX1_has cX1_has 2 (some .boolean)]
def wsX6_lack_r3 : List Cond := [Cond.methodLink RX1 102 yX1_findWith, Cond.instanceMethod yX1_findWith, Cond.selects RX1 yX1_findWith yX1_findWith, Cond.code yX1_findWith cX1_findWith 4 none, Cond.fieldLink RX1 51 "MachineHall$Hall" "asks" "I", Cond.fieldLink RX1 34 "MachineHall$Hall" "asked" "[Z", Cond.methodLink RX1 71 yX1_greatestOn, Cond.instanceMethod yX1_greatestOn, Cond.selects RX1 yX1_greatestOn yX1_greatestOn, Cond.code yX1_greatestOn cX1_greatestOn 4 (some .int), Cond.fieldLink RX1 30 "MachineHall$Hall" "clash" "[Z", Cond.methodLink RX6 104 yX6_answer, Cond.instanceMethod yX6_answer, Cond.selects RX6 yX6_answer yX6_answer, Cond.code yX6_answer cX6_answer 2 (some .int)]
def wsX6_lack : List Cond := .code yX6_lack cX6_lack 3 (some .int) :: ((wsX6_lack_r1 ++ (wsX6_lack_r2 ++ wsX6_lack_r3)) ++ wsX60 ++ wsX10)
def wsX6_left_r1 : List Cond := [Cond.fieldLink RX6 19 "MachineHall" "hall" "LMachineHall$Hall;", Cond.methodLink RX6 116 yX6_isHour, Cond.static yX6_isHour, Cond.initialized RX6, Cond.code yX6_isHour cX6_isHour 1 (some .boolean), Cond.methodLink RX6 52 yX6_within, Cond.static yX6_within, Cond.code yX6_within cX6_within 4 (some .boolean), Cond.methodLink RX6 152 yX1_isFall, Cond.static yX1_isFall, Cond.initialized RX1, Cond.code yX1_isFall cX1_isFall 1 (some .boolean), Cond.methodLink RX6 75 yX6_deny, Cond.instanceMethod yX6_deny, Cond.selects RX6 yX6_deny yX6_deny, Cond.code yX6_deny cX6_deny 2 (some .int), Cond.fieldLink RX6 44 "MachineHall" "status" "I", Cond.methodLink RX6 146 yX1_standing, Cond.instanceMethod yX1_standing, Cond.selects RX1 yX1_standing yX1_standing, Cond.code yX1_standing cX1_standing 2 (some .int), Cond.fieldLink RX1 54 "MachineHall$Hall" "ups" "I", Cond.fieldLink RX1 15 "MachineHall$Hall" "inRoom" "[I", Cond.methodLink RX6 167 yX1_leftOver]
def wsX6_left_r2 : List Cond := [Cond.instanceMethod yX1_leftOver, Cond.selects RX1 yX1_leftOver yX1_leftOver, Cond.code yX1_leftOver cX1_leftOver 4 (some .int), Cond.fieldLink RX1 24 "MachineHall$Hall" "ofHour" "[I", Cond.fieldLink RX1 37 "MachineHall$Hall" "latest" "[I", Cond.fieldLink RX1 27 "MachineHall$Hall" "load" "[I", Cond.methodLink RX1 68 yX1_findLatest, Cond.instanceMethod yX1_findLatest, Cond.selects RX1 yX1_findLatest yX1_findLatest, Cond.code yX1_findLatest cX1_findLatest 4 none, Cond.fieldLink RX1 40 "MachineHall$Hall" "latestFor" "I", Cond.fieldLink RX1 48 "MachineHall$Hall" "machines" "I", Cond.fieldLink RX1 11 "MachineHall$Hall" "sizes" "[I", Cond.methodLink RX1 96 yJ7_fill_53178, Cond.static yJ7_fill_53178, Cond.initialized RJ7, Cond.code yJ7_fill_53178 cJ7_fill_53178 4 none, Cond.methodLink RX1 57 yX1_has, Cond.static yX1_has, Cond.code yX1_has cX1_has 2 (some .boolean), Cond.methodLink RX1 102 yX1_findWith, Cond.instanceMethod yX1_findWith, Cond.selects RX1 yX1_findWith yX1_findWith, Cond.code yX1_findWith cX1_findWith 4 none]
def wsX6_left_r3 : List Cond := [Cond.fieldLink RX1 51 "MachineHall$Hall" "asks" "I", Cond.fieldLink RX1 34 "MachineHall$Hall" "asked" "[Z", Cond.methodLink RX1 71 yX1_greatestOn, Cond.instanceMethod yX1_greatestOn, Cond.selects RX1 yX1_greatestOn yX1_greatestOn, Cond.code yX1_greatestOn cX1_greatestOn 4 (some .int), Cond.fieldLink RX1 30 "MachineHall$Hall" "clash" "[Z", Cond.methodLink RX1 80 yX1_sizeOf, Cond.instanceMethod yX1_sizeOf, Cond.selects RX1 yX1_sizeOf yX1_sizeOf, Cond.code yX1_sizeOf cX1_sizeOf 4 (some .int), Cond.methodLink RX6 104 yX6_answer, Cond.instanceMethod yX6_answer, Cond.selects RX6 yX6_answer yX6_answer, Cond.code yX6_answer cX6_answer 2 (some .int)]
def wsX6_left : List Cond := .code yX6_left cX6_left 3 (some .int) :: ((wsX6_left_r1 ++ (wsX6_left_r2 ++ wsX6_left_r3)) ++ wsX60 ++ wsX10)
def wsX6_enough_r1 : List Cond := [Cond.fieldLink RX6 19 "MachineHall" "hall" "LMachineHall$Hall;", Cond.methodLink RX6 52 yX6_within, Cond.static yX6_within, Cond.initialized RX6, Cond.code yX6_within cX6_within 4 (some .boolean), Cond.methodLink RX6 75 yX6_deny, Cond.instanceMethod yX6_deny, Cond.selects RX6 yX6_deny yX6_deny, Cond.code yX6_deny cX6_deny 2 (some .int), Cond.fieldLink RX6 44 "MachineHall" "status" "I", Cond.methodLink RX6 170 yX1_firstUnfit, Cond.instanceMethod yX1_firstUnfit, Cond.selects RX1 yX1_firstUnfit yX1_firstUnfit, Cond.initialized RX1, Cond.code yX1_firstUnfit cX1_firstUnfit 6 (some .int), Cond.methodLink RX1 84 yX1_isLookedAt, Cond.instanceMethod yX1_isLookedAt, Cond.selects RX1 yX1_isLookedAt yX1_isLookedAt, Cond.code yX1_isLookedAt cX1_isLookedAt 3 (some .boolean), Cond.fieldLink RX1 48 "MachineHall$Hall" "machines" "I", Cond.methodLink RX1 87 yX1_standing, Cond.instanceMethod yX1_standing, Cond.selects RX1 yX1_standing yX1_standing, Cond.code yX1_standing cX1_standing 2 (some .int)]
def wsX6_enough_r2 : List Cond := [Cond.fieldLink RX1 54 "MachineHall$Hall" "ups" "I", Cond.fieldLink RX1 15 "MachineHall$Hall" "inRoom" "[I", Cond.methodLink RX1 90 yX1_firstUnfitHour, Cond.instanceMethod yX1_firstUnfitHour, Cond.selects RX1 yX1_firstUnfitHour yX1_firstUnfitHour, Cond.code yX1_firstUnfitHour cX1_firstUnfitHour 4 (some .int), Cond.methodLink RX1 93 yX1_holds, Cond.instanceMethod yX1_holds, Cond.selects RX1 yX1_holds yX1_holds, Cond.code yX1_holds cX1_holds 3 (some .boolean), Cond.fieldLink RX1 37 "MachineHall$Hall" "latest" "[I", Cond.fieldLink RX1 24 "MachineHall$Hall" "ofHour" "[I", Cond.methodLink RX1 68 yX1_findLatest, Cond.instanceMethod yX1_findLatest, Cond.selects RX1 yX1_findLatest yX1_findLatest, Cond.code yX1_findLatest cX1_findLatest 4 none, Cond.fieldLink RX1 40 "MachineHall$Hall" "latestFor" "I", Cond.fieldLink RX1 11 "MachineHall$Hall" "sizes" "[I", Cond.methodLink RX1 96 yJ7_fill_53178, Cond.static yJ7_fill_53178, Cond.initialized RJ7, Cond.code yJ7_fill_53178 cJ7_fill_53178 4 none, Cond.methodLink RX1 57 yX1_has, Cond.static yX1_has]
def wsX6_enough_r3 : List Cond := [Cond.code yX1_has cX1_has 2 (some .boolean), Cond.methodLink RX1 102 yX1_findWith, Cond.instanceMethod yX1_findWith, Cond.selects RX1 yX1_findWith yX1_findWith, Cond.code yX1_findWith cX1_findWith 4 none, Cond.fieldLink RX1 51 "MachineHall$Hall" "asks" "I", Cond.fieldLink RX1 34 "MachineHall$Hall" "asked" "[Z", Cond.fieldLink RX1 27 "MachineHall$Hall" "load" "[I", Cond.methodLink RX1 71 yX1_greatestOn, Cond.instanceMethod yX1_greatestOn, Cond.selects RX1 yX1_greatestOn yX1_greatestOn, Cond.code yX1_greatestOn cX1_greatestOn 4 (some .int), Cond.fieldLink RX1 30 "MachineHall$Hall" "clash" "[Z", Cond.methodLink RX6 104 yX6_answer, Cond.instanceMethod yX6_answer, Cond.selects RX6 yX6_answer yX6_answer, Cond.code yX6_answer cX6_answer 2 (some .int)]
def wsX6_enough : List Cond := .code yX6_enough cX6_enough 2 (some .int) :: ((wsX6_enough_r1 ++ (wsX6_enough_r2 ++ wsX6_enough_r3)) ++ wsX60 ++ wsX10)
def wsX6_batch_r1 : List Cond := [Cond.fieldLink RX6 26 "MachineHall" "plan" "LMachineHall$Plan;", Cond.fieldLink RX6 140 "MachineHall$Plan" "batches" "I", Cond.methodLink RX6 52 yX6_within, Cond.static yX6_within, Cond.initialized RX6, Cond.code yX6_within cX6_within 4 (some .boolean), Cond.methodLink RX6 116 yX6_isHour, Cond.static yX6_isHour, Cond.code yX6_isHour cX6_isHour 1 (some .boolean), Cond.methodLink RX6 75 yX6_deny, Cond.instanceMethod yX6_deny, Cond.selects RX6 yX6_deny yX6_deny, Cond.code yX6_deny cX6_deny 2 (some .int), Cond.fieldLink RX6 44 "MachineHall" "status" "I", Cond.methodLink RX6 173 yX3_addBatch, Cond.instanceMethod yX3_addBatch, Cond.selects RX3 yX3_addBatch yX3_addBatch, Cond.initialized RX3, Cond.code yX3_addBatch cX3_addBatch 6 (some .int), Cond.fieldLink RX3 42 "MachineHall$Plan" "batches" "I", Cond.fieldLink RX3 16 "MachineHall$Plan" "works" "[I", Cond.fieldLink RX3 20 "MachineHall$Plan" "froms" "[I", Cond.fieldLink RX3 23 "MachineHall$Plan" "dues" "[I", Cond.fieldLink RX3 26 "MachineHall$Plan" "mosts" "[I"]
def wsX6_batch_r2 : List Cond := [Cond.methodLink RX3 49 yX3_forget, Cond.instanceMethod yX3_forget, Cond.selects RX3 yX3_forget yX3_forget, Cond.code yX3_forget cX3_forget 1 none, Cond.fieldLink RX3 38 "MachineHall$Plan" "laidFor" "I", Cond.methodLink RX6 104 yX6_answer, Cond.instanceMethod yX6_answer, Cond.selects RX6 yX6_answer yX6_answer, Cond.code yX6_answer cX6_answer 2 (some .int)]
def wsX6_batch : List Cond := .code yX6_batch cX6_batch 5 (some .int) :: ((wsX6_batch_r1 ++ wsX6_batch_r2) ++ wsX60 ++ wsX30)
def wsX6_rest_r1 : List Cond := [Cond.fieldLink RX6 26 "MachineHall" "plan" "LMachineHall$Plan;", Cond.fieldLink RX6 19 "MachineHall" "hall" "LMachineHall$Hall;", Cond.fieldLink RX6 181 "MachineHall$Plan" "unlaid" "I", Cond.methodLink RX6 152 yX1_isFall, Cond.static yX1_isFall, Cond.initialized RX1, Cond.code yX1_isFall cX1_isFall 1 (some .boolean), Cond.static yX6_within, Cond.initialized RX6, Cond.code yX6_within cX6_within 4 (some .boolean), Cond.methodLink RX6 75 yX6_deny, Cond.instanceMethod yX6_deny, Cond.selects RX6 yX6_deny yX6_deny, Cond.code yX6_deny cX6_deny 2 (some .int), Cond.fieldLink RX6 44 "MachineHall" "status" "I", Cond.methodLink RX6 146 yX1_standing, Cond.instanceMethod yX1_standing, Cond.selects RX1 yX1_standing yX1_standing, Cond.code yX1_standing cX1_standing 2 (some .int), Cond.fieldLink RX1 54 "MachineHall$Hall" "ups" "I", Cond.fieldLink RX1 15 "MachineHall$Hall" "inRoom" "[I", Cond.methodLink RX6 177 yX3_lay, Cond.instanceMethod yX3_lay, Cond.selects RX3 yX3_lay yX3_lay]
def wsX6_rest_r2 : List Cond := [Cond.initialized RX3, Cond.code yX3_lay cX3_lay 3 none, Cond.fieldLink RX3 38 "MachineHall$Plan" "laidFor" "I", Cond.fieldLink RX3 56 "MachineHall$Plan" "unlaid" "I", Cond.fieldLink RX3 34 "MachineHall$Plan" "flow" "LMachineHall$Flow;", Cond.methodLink RX3 52 yX3_layPipes, Cond.instanceMethod yX3_layPipes, Cond.selects RX3 yX3_layPipes yX3_layPipes, Cond.code yX3_layPipes cX3_layPipes 6 (some .int), Cond.fieldLink RX3 42 "MachineHall$Plan" "batches" "I", Cond.fieldLink RX3 16 "MachineHall$Plan" "works" "[I", Cond.fieldLink RX3 20 "MachineHall$Plan" "froms" "[I", Cond.fieldLink RX3 23 "MachineHall$Plan" "dues" "[I", Cond.fieldLink RX3 26 "MachineHall$Plan" "mosts" "[I", Cond.methodLink RX3 66 yX0_empty, Cond.instanceMethod yX0_empty, Cond.selects RX0 yX0_empty yX0_empty, Cond.initialized RX0, Cond.code yX0_empty cX0_empty 2 none, Cond.fieldLink RX0 9 "MachineHall$Flow" "nodes" "I", Cond.fieldLink RX0 17 "MachineHall$Flow" "open" "[[I", Cond.methodLink RX0 27 yJ7_fill_53178, Cond.static yJ7_fill_53178, Cond.initialized RJ7]
def wsX6_rest_r3 : List Cond := [Cond.code yJ7_fill_53178 cJ7_fill_53178 4 none, Cond.methodLink RX3 69 yX0_pipe, Cond.instanceMethod yX0_pipe, Cond.selects RX0 yX0_pipe yX0_pipe, Cond.code yX0_pipe cX0_pipe 4 none, Cond.methodLink RX3 73 yX1_leftOver, Cond.instanceMethod yX1_leftOver, Cond.selects RX1 yX1_leftOver yX1_leftOver, Cond.code yX1_leftOver cX1_leftOver 4 (some .int), Cond.fieldLink RX1 24 "MachineHall$Hall" "ofHour" "[I", Cond.fieldLink RX1 37 "MachineHall$Hall" "latest" "[I", Cond.fieldLink RX1 27 "MachineHall$Hall" "load" "[I", Cond.methodLink RX1 68 yX1_findLatest, Cond.instanceMethod yX1_findLatest, Cond.selects RX1 yX1_findLatest yX1_findLatest, Cond.code yX1_findLatest cX1_findLatest 4 none, Cond.fieldLink RX1 40 "MachineHall$Hall" "latestFor" "I", Cond.fieldLink RX1 48 "MachineHall$Hall" "machines" "I", Cond.fieldLink RX1 11 "MachineHall$Hall" "sizes" "[I", Cond.methodLink RX1 96 yJ7_fill_53178, Cond.methodLink RX1 57 yX1_has, Cond.static yX1_has, Cond.code yX1_has cX1_has 2 (some .boolean), Cond.methodLink RX1 102 yX1_findWith]
def wsX6_rest_r4 : List Cond := [Cond.instanceMethod yX1_findWith, Cond.selects RX1 yX1_findWith yX1_findWith, Cond.code yX1_findWith cX1_findWith 4 none, Cond.fieldLink RX1 51 "MachineHall$Hall" "asks" "I", Cond.fieldLink RX1 34 "MachineHall$Hall" "asked" "[Z", Cond.methodLink RX1 71 yX1_greatestOn, Cond.instanceMethod yX1_greatestOn, Cond.selects RX1 yX1_greatestOn yX1_greatestOn, Cond.code yX1_greatestOn cX1_greatestOn 4 (some .int), Cond.fieldLink RX1 30 "MachineHall$Hall" "clash" "[Z", Cond.methodLink RX1 80 yX1_sizeOf, Cond.instanceMethod yX1_sizeOf, Cond.selects RX1 yX1_sizeOf yX1_sizeOf, Cond.code yX1_sizeOf cX1_sizeOf 4 (some .int), Cond.methodLink RX3 59 yX0_push, Cond.instanceMethod yX0_push, Cond.selects RX0 yX0_push yX0_push, Cond.code yX0_push cX0_push 6 (some .int), Cond.constant RX0 33 (1000000), Cond.methodLink RX0 34 yX0_findWay, Cond.instanceMethod yX0_findWay, Cond.selects RX0 yX0_findWay yX0_findWay, Cond.code yX0_findWay cX0_findWay 7 (some .boolean), Cond.fieldLink RX0 20 "MachineHall$Flow" "cameFrom" "[I"]
def wsX6_rest_r5 : List Cond := [Cond.fieldLink RX0 24 "MachineHall$Flow" "reached" "[I", Cond.methodLink RX0 38 yX0_send, Cond.instanceMethod yX0_send, Cond.selects RX0 yX0_send yX0_send, Cond.code yX0_send cX0_send 7 (some .int), Cond.methodLink RX0 45 Lib.Math.min.name, Cond.static Lib.Math.min.name, Cond.initialized "java/lang/Math", Cond.code Lib.Math.min.name Lib.Math.min.code 2 (some .int), Cond.methodLink RX3 63 yX3_settleParts, Cond.instanceMethod yX3_settleParts, Cond.selects RX3 yX3_settleParts yX3_settleParts, Cond.code yX3_settleParts cX3_settleParts 3 none, Cond.fieldLink RX3 13 "MachineHall$Plan" "parts" "[[I", Cond.methodLink RX3 79 yX0_settle, Cond.instanceMethod yX0_settle, Cond.selects RX0 yX0_settle yX0_settle, Cond.code yX0_settle cX0_settle 5 (some .int), Cond.methodLink RX0 42 yX0_push, Cond.methodLink RX6 104 yX6_answer, Cond.instanceMethod yX6_answer, Cond.selects RX6 yX6_answer yX6_answer, Cond.code yX6_answer cX6_answer 2 (some .int)]
def wsX6_rest : List Cond := .code yX6_rest cX6_rest 2 (some .int) :: ((wsX6_rest_r1 ++ (wsX6_rest_r2 ++ (wsX6_rest_r3 ++ (wsX6_rest_r4 ++ wsX6_rest_r5)))) ++ wsX60 ++ wsX30 ++ wsX10 ++ wsX00)
def wsX6_part_r1 : List Cond := [Cond.fieldLink RX6 26 "MachineHall" "plan" "LMachineHall$Plan;", Cond.fieldLink RX6 19 "MachineHall" "hall" "LMachineHall$Hall;", Cond.fieldLink RX6 181 "MachineHall$Plan" "unlaid" "I", Cond.fieldLink RX6 187 "MachineHall$Plan" "parts" "[[I", Cond.methodLink RX6 152 yX1_isFall, Cond.static yX1_isFall, Cond.initialized RX1, Cond.code yX1_isFall cX1_isFall 1 (some .boolean), Cond.static yX6_within, Cond.initialized RX6, Cond.code yX6_within cX6_within 4 (some .boolean), Cond.methodLink RX6 184 yX3_hasBatch, Cond.instanceMethod yX3_hasBatch, Cond.selects RX3 yX3_hasBatch yX3_hasBatch, Cond.initialized RX3, Cond.code yX3_hasBatch cX3_hasBatch 2 (some .boolean), Cond.fieldLink RX3 42 "MachineHall$Plan" "batches" "I", Cond.methodLink RX6 116 yX6_isHour, Cond.static yX6_isHour, Cond.code yX6_isHour cX6_isHour 1 (some .boolean), Cond.methodLink RX6 52 yX6_within, Cond.methodLink RX6 75 yX6_deny, Cond.instanceMethod yX6_deny, Cond.selects RX6 yX6_deny yX6_deny]
def wsX6_part_r2 : List Cond := [Cond.code yX6_deny cX6_deny 2 (some .int), Cond.fieldLink RX6 44 "MachineHall" "status" "I", Cond.methodLink RX6 146 yX1_standing, Cond.instanceMethod yX1_standing, Cond.selects RX1 yX1_standing yX1_standing, Cond.code yX1_standing cX1_standing 2 (some .int), Cond.fieldLink RX1 54 "MachineHall$Hall" "ups" "I", Cond.fieldLink RX1 15 "MachineHall$Hall" "inRoom" "[I", Cond.methodLink RX6 177 yX3_lay, Cond.instanceMethod yX3_lay, Cond.selects RX3 yX3_lay yX3_lay, Cond.code yX3_lay cX3_lay 3 none, Cond.fieldLink RX3 38 "MachineHall$Plan" "laidFor" "I", Cond.fieldLink RX3 56 "MachineHall$Plan" "unlaid" "I", Cond.fieldLink RX3 34 "MachineHall$Plan" "flow" "LMachineHall$Flow;", Cond.methodLink RX3 52 yX3_layPipes, Cond.instanceMethod yX3_layPipes, Cond.selects RX3 yX3_layPipes yX3_layPipes, Cond.code yX3_layPipes cX3_layPipes 6 (some .int), Cond.fieldLink RX3 16 "MachineHall$Plan" "works" "[I", Cond.fieldLink RX3 20 "MachineHall$Plan" "froms" "[I", Cond.fieldLink RX3 23 "MachineHall$Plan" "dues" "[I", Cond.fieldLink RX3 26 "MachineHall$Plan" "mosts" "[I", Cond.methodLink RX3 66 yX0_empty]
def wsX6_part_r3 : List Cond := [Cond.instanceMethod yX0_empty, Cond.selects RX0 yX0_empty yX0_empty, Cond.initialized RX0, Cond.code yX0_empty cX0_empty 2 none, Cond.fieldLink RX0 9 "MachineHall$Flow" "nodes" "I", Cond.fieldLink RX0 17 "MachineHall$Flow" "open" "[[I", Cond.methodLink RX0 27 yJ7_fill_53178, Cond.static yJ7_fill_53178, Cond.initialized RJ7, Cond.code yJ7_fill_53178 cJ7_fill_53178 4 none, Cond.methodLink RX3 69 yX0_pipe, Cond.instanceMethod yX0_pipe, Cond.selects RX0 yX0_pipe yX0_pipe, Cond.code yX0_pipe cX0_pipe 4 none, Cond.methodLink RX3 73 yX1_leftOver, Cond.instanceMethod yX1_leftOver, Cond.selects RX1 yX1_leftOver yX1_leftOver, Cond.code yX1_leftOver cX1_leftOver 4 (some .int), Cond.fieldLink RX1 24 "MachineHall$Hall" "ofHour" "[I", Cond.fieldLink RX1 37 "MachineHall$Hall" "latest" "[I", Cond.fieldLink RX1 27 "MachineHall$Hall" "load" "[I", Cond.methodLink RX1 68 yX1_findLatest, Cond.instanceMethod yX1_findLatest, Cond.selects RX1 yX1_findLatest yX1_findLatest]
def wsX6_part_r4 : List Cond := [Cond.code yX1_findLatest cX1_findLatest 4 none, Cond.fieldLink RX1 40 "MachineHall$Hall" "latestFor" "I", Cond.fieldLink RX1 48 "MachineHall$Hall" "machines" "I", Cond.fieldLink RX1 11 "MachineHall$Hall" "sizes" "[I", Cond.methodLink RX1 96 yJ7_fill_53178, Cond.methodLink RX1 57 yX1_has, Cond.static yX1_has, Cond.code yX1_has cX1_has 2 (some .boolean), Cond.methodLink RX1 102 yX1_findWith, Cond.instanceMethod yX1_findWith, Cond.selects RX1 yX1_findWith yX1_findWith, Cond.code yX1_findWith cX1_findWith 4 none, Cond.fieldLink RX1 51 "MachineHall$Hall" "asks" "I", Cond.fieldLink RX1 34 "MachineHall$Hall" "asked" "[Z", Cond.methodLink RX1 71 yX1_greatestOn, Cond.instanceMethod yX1_greatestOn, Cond.selects RX1 yX1_greatestOn yX1_greatestOn, Cond.code yX1_greatestOn cX1_greatestOn 4 (some .int), Cond.fieldLink RX1 30 "MachineHall$Hall" "clash" "[Z", Cond.methodLink RX1 80 yX1_sizeOf, Cond.instanceMethod yX1_sizeOf, Cond.selects RX1 yX1_sizeOf yX1_sizeOf, Cond.code yX1_sizeOf cX1_sizeOf 4 (some .int), Cond.methodLink RX3 59 yX0_push]
def wsX6_part_r5 : List Cond := [Cond.instanceMethod yX0_push, Cond.selects RX0 yX0_push yX0_push, Cond.code yX0_push cX0_push 6 (some .int), Cond.constant RX0 33 (1000000), Cond.methodLink RX0 34 yX0_findWay, Cond.instanceMethod yX0_findWay, Cond.selects RX0 yX0_findWay yX0_findWay, Cond.code yX0_findWay cX0_findWay 7 (some .boolean), Cond.fieldLink RX0 20 "MachineHall$Flow" "cameFrom" "[I", Cond.fieldLink RX0 24 "MachineHall$Flow" "reached" "[I", Cond.methodLink RX0 38 yX0_send, Cond.instanceMethod yX0_send, Cond.selects RX0 yX0_send yX0_send, Cond.code yX0_send cX0_send 7 (some .int), Cond.methodLink RX0 45 Lib.Math.min.name, Cond.static Lib.Math.min.name, Cond.initialized "java/lang/Math", Cond.code Lib.Math.min.name Lib.Math.min.code 2 (some .int), Cond.methodLink RX3 63 yX3_settleParts, Cond.instanceMethod yX3_settleParts, Cond.selects RX3 yX3_settleParts yX3_settleParts, Cond.code yX3_settleParts cX3_settleParts 3 none, Cond.fieldLink RX3 13 "MachineHall$Plan" "parts" "[[I", Cond.methodLink RX3 79 yX0_settle]
def wsX6_part_r6 : List Cond := [Cond.instanceMethod yX0_settle, Cond.selects RX0 yX0_settle yX0_settle, Cond.code yX0_settle cX0_settle 5 (some .int), Cond.methodLink RX0 42 yX0_push, Cond.methodLink RX6 104 yX6_answer, Cond.instanceMethod yX6_answer, Cond.selects RX6 yX6_answer yX6_answer, Cond.code yX6_answer cX6_answer 2 (some .int)]
def wsX6_part : List Cond := .code yX6_part cX6_part 4 (some .int) :: ((wsX6_part_r1 ++ (wsX6_part_r2 ++ (wsX6_part_r3 ++ (wsX6_part_r4 ++ (wsX6_part_r5 ++ wsX6_part_r6))))) ++ wsX60 ++ wsX30 ++ wsX10 ++ wsX00)
def wsX6_isLine : List Cond := .code yX6_isLine cX6_isLine 3 (some .boolean) :: ([.methodLink RX6 48 yX4_isNumber, .static yX4_isNumber, .initialized RX4, .code yX4_isNumber cX4_isNumber 1 (some .boolean), .static yX6_within, .initialized RX6, .code yX6_within cX6_within 4 (some .boolean), .methodLink RX6 52 yX6_within])
def wsX6_line_r1 : List Cond := [Cond.fieldLink RX6 10 "MachineHall" "sheets" "LMachineHall$Sheets;", Cond.fieldLink RX6 33 "MachineHall" "waiting" "LMachineHall$Waiting;", Cond.methodLink RX6 191 yX6_isLine, Cond.static yX6_isLine, Cond.initialized RX6, Cond.code yX6_isLine cX6_isLine 3 (some .boolean), Cond.methodLink RX6 48 yX4_isNumber, Cond.static yX4_isNumber, Cond.initialized RX4, Cond.code yX4_isNumber cX4_isNumber 1 (some .boolean), Cond.static yX6_within, Cond.code yX6_within cX6_within 4 (some .boolean), Cond.methodLink RX6 52 yX6_within, Cond.methodLink RX6 75 yX6_deny, Cond.instanceMethod yX6_deny, Cond.selects RX6 yX6_deny yX6_deny, Cond.code yX6_deny cX6_deny 2 (some .int), Cond.fieldLink RX6 44 "MachineHall" "status" "I", Cond.methodLink RX6 194 yX4_whyNotFirst, Cond.instanceMethod yX4_whyNotFirst, Cond.selects RX4 yX4_whyNotFirst yX4_whyNotFirst, Cond.code yX4_whyNotFirst cX4_whyNotFirst 5 (some .int), Cond.fieldLink RX4 20 "MachineHall$Sheets" "lengths" "[I", Cond.fieldLink RX4 13 "MachineHall$Sheets" "numbers" "[[J"]
def wsX6_line_r2 : List Cond := [Cond.methodLink RX4 44 yX4_isMissing, Cond.instanceMethod yX4_isMissing, Cond.selects RX4 yX4_isMissing yX4_isMissing, Cond.code yX4_isMissing cX4_isMissing 2 (some .boolean), Cond.methodLink RX6 197 yX5_serve, Cond.instanceMethod yX5_serve, Cond.selects RX5 yX5_serve yX5_serve, Cond.initialized RX5, Cond.code yX5_serve cX5_serve 12 none, Cond.fieldLink RX5 13 "MachineHall$Waiting" "greatest" "I", Cond.fieldLink RX5 17 "MachineHall$Waiting" "together" "I", Cond.fieldLink RX5 20 "MachineHall$Waiting" "came" "I", Cond.fieldLink RX5 23 "MachineHall$Waiting" "waited" "I", Cond.fieldLink RX5 26 "MachineHall$Waiting" "end" "I", Cond.fieldLink RX5 9 "MachineHall$Waiting" "freeAt" "[I", Cond.methodLink RX5 41 Lib.Math.max.name, Cond.static Lib.Math.max.name, Cond.initialized "java/lang/Math", Cond.code Lib.Math.max.name Lib.Math.max.code 2 (some .int), Cond.methodLink RX5 29 yJ7_fill_53178, Cond.static yJ7_fill_53178, Cond.initialized RJ7, Cond.code yJ7_fill_53178 cJ7_fill_53178 4 none, Cond.methodLink RX5 35 yX4_at]
def wsX6_line_r3 : List Cond := [Cond.instanceMethod yX4_at, Cond.selects RX4 yX4_at yX4_at, Cond.code yX4_at cX4_at 3 (some .long), Cond.methodLink RX5 47 yX5_note, Cond.instanceMethod yX5_note, Cond.selects RX5 yX5_note yX5_note, Cond.code yX5_note cX5_note 2 none, Cond.methodLink RX6 201 yX5_told, Cond.instanceMethod yX5_told, Cond.selects RX5 yX5_told yX5_told, Cond.code yX5_told cX5_told 2 (some .int), Cond.methodLink RX6 104 yX6_answer, Cond.instanceMethod yX6_answer, Cond.selects RX6 yX6_answer yX6_answer, Cond.code yX6_answer cX6_answer 2 (some .int)]
def wsX6_line : List Cond := .code yX6_line cX6_line 7 (some .int) :: ((wsX6_line_r1 ++ (wsX6_line_r2 ++ wsX6_line_r3)) ++ wsX60 ++ wsX40 ++ wsX50)
def wsX6_hands_r1 : List Cond := [Cond.fieldLink RX6 10 "MachineHall" "sheets" "LMachineHall$Sheets;", Cond.fieldLink RX6 33 "MachineHall" "waiting" "LMachineHall$Waiting;", Cond.fieldLink RX6 204 "MachineHall$Waiting" "greatest" "I", Cond.methodLink RX6 191 yX6_isLine, Cond.static yX6_isLine, Cond.initialized RX6, Cond.code yX6_isLine cX6_isLine 3 (some .boolean), Cond.methodLink RX6 48 yX4_isNumber, Cond.static yX4_isNumber, Cond.initialized RX4, Cond.code yX4_isNumber cX4_isNumber 1 (some .boolean), Cond.static yX6_within, Cond.code yX6_within cX6_within 4 (some .boolean), Cond.methodLink RX6 52 yX6_within, Cond.methodLink RX6 75 yX6_deny, Cond.instanceMethod yX6_deny, Cond.selects RX6 yX6_deny yX6_deny, Cond.code yX6_deny cX6_deny 2 (some .int), Cond.fieldLink RX6 44 "MachineHall" "status" "I", Cond.methodLink RX6 194 yX4_whyNotFirst, Cond.instanceMethod yX4_whyNotFirst, Cond.selects RX4 yX4_whyNotFirst yX4_whyNotFirst, Cond.code yX4_whyNotFirst cX4_whyNotFirst 5 (some .int), Cond.fieldLink RX4 20 "MachineHall$Sheets" "lengths" "[I"]
def wsX6_hands_r2 : List Cond := [Cond.fieldLink RX4 13 "MachineHall$Sheets" "numbers" "[[J", Cond.methodLink RX4 44 yX4_isMissing, Cond.instanceMethod yX4_isMissing, Cond.selects RX4 yX4_isMissing yX4_isMissing, Cond.code yX4_isMissing cX4_isMissing 2 (some .boolean), Cond.methodLink RX6 197 yX5_serve, Cond.instanceMethod yX5_serve, Cond.selects RX5 yX5_serve yX5_serve, Cond.initialized RX5, Cond.code yX5_serve cX5_serve 12 none, Cond.fieldLink RX5 13 "MachineHall$Waiting" "greatest" "I", Cond.fieldLink RX5 17 "MachineHall$Waiting" "together" "I", Cond.fieldLink RX5 20 "MachineHall$Waiting" "came" "I", Cond.fieldLink RX5 23 "MachineHall$Waiting" "waited" "I", Cond.fieldLink RX5 26 "MachineHall$Waiting" "end" "I", Cond.fieldLink RX5 9 "MachineHall$Waiting" "freeAt" "[I", Cond.methodLink RX5 41 Lib.Math.max.name, Cond.static Lib.Math.max.name, Cond.initialized "java/lang/Math", Cond.code Lib.Math.max.name Lib.Math.max.code 2 (some .int), Cond.methodLink RX5 29 yJ7_fill_53178, Cond.static yJ7_fill_53178, Cond.initialized RJ7, Cond.code yJ7_fill_53178 cJ7_fill_53178 4 none]
def wsX6_hands_r3 : List Cond := [Cond.methodLink RX5 35 yX4_at, Cond.instanceMethod yX4_at, Cond.selects RX4 yX4_at yX4_at, Cond.code yX4_at cX4_at 3 (some .long), Cond.methodLink RX5 47 yX5_note, Cond.instanceMethod yX5_note, Cond.selects RX5 yX5_note yX5_note, Cond.code yX5_note cX5_note 2 none, Cond.methodLink RX6 104 yX6_answer, Cond.instanceMethod yX6_answer, Cond.selects RX6 yX6_answer yX6_answer, Cond.code yX6_answer cX6_answer 2 (some .int)]
def wsX6_hands : List Cond := .code yX6_hands cX6_hands 7 (some .int) :: ((wsX6_hands_r1 ++ (wsX6_hands_r2 ++ wsX6_hands_r3)) ++ wsX60 ++ wsX50 ++ wsX40)
def wsX6_wanted_r1 : List Cond := [Cond.fieldLink RX6 10 "MachineHall" "sheets" "LMachineHall$Sheets;", Cond.fieldLink RX6 40 "MachineHall" "market" "LMachineHall$Market;", Cond.methodLink RX6 48 yX4_isNumber, Cond.static yX4_isNumber, Cond.initialized RX4, Cond.code yX4_isNumber cX4_isNumber 1 (some .boolean), Cond.static yX6_within, Cond.initialized RX6, Cond.code yX6_within cX6_within 4 (some .boolean), Cond.methodLink RX6 56 yX6_refuse, Cond.instanceMethod yX6_refuse, Cond.selects RX6 yX6_refuse yX6_refuse, Cond.code yX6_refuse cX6_refuse 2 (some .boolean), Cond.fieldLink RX6 44 "MachineHall" "status" "I", Cond.methodLink RX6 194 yX4_whyNotFirst, Cond.instanceMethod yX4_whyNotFirst, Cond.selects RX4 yX4_whyNotFirst yX4_whyNotFirst, Cond.code yX4_whyNotFirst cX4_whyNotFirst 5 (some .int), Cond.fieldLink RX4 20 "MachineHall$Sheets" "lengths" "[I", Cond.fieldLink RX4 13 "MachineHall$Sheets" "numbers" "[[J", Cond.methodLink RX4 44 yX4_isMissing, Cond.instanceMethod yX4_isMissing, Cond.selects RX4 yX4_isMissing yX4_isMissing, Cond.code yX4_isMissing cX4_isMissing 2 (some .boolean)]
def wsX6_wanted_r2 : List Cond := [Cond.methodLink RX6 207 yX2_want, Cond.instanceMethod yX2_want, Cond.selects RX2 yX2_want yX2_want, Cond.initialized RX2, Cond.code yX2_want cX2_want 4 none, Cond.fieldLink RX2 16 "MachineHall$Market" "wants" "[I", Cond.fieldLink RX2 57 "MachineHall$Market" "solved" "Z", Cond.methodLink RX2 51 yX4_at, Cond.instanceMethod yX4_at, Cond.selects RX4 yX4_at yX4_at, Cond.code yX4_at cX4_at 3 (some .long), Cond.methodLink RX6 63 yX6_agree, Cond.instanceMethod yX6_agree, Cond.selects RX6 yX6_agree yX6_agree, Cond.code yX6_agree cX6_agree 1 (some .boolean)]
def wsX6_wanted : List Cond := .code yX6_wanted cX6_wanted 3 (some .boolean) :: ((wsX6_wanted_r1 ++ wsX6_wanted_r2) ++ wsX60 ++ wsX40 ++ wsX20)
def wsX6_have : List Cond := .code yX6_have cX6_have 2 (some .boolean) :: ([.fieldLink RX6 40 "MachineHall" "market" "LMachineHall$Market;", .methodLink RX6 52 yX6_within, .static yX6_within, .initialized RX6, .code yX6_within cX6_within 4 (some .boolean), .methodLink RX6 56 yX6_refuse, .instanceMethod yX6_refuse, .selects RX6 yX6_refuse yX6_refuse, .code yX6_refuse cX6_refuse 2 (some .boolean), .fieldLink RX6 44 "MachineHall" "status" "I", .methodLink RX6 211 yX2_own, .instanceMethod yX2_own, .selects RX2 yX2_own yX2_own, .initialized RX2, .code yX2_own cX2_own 2 none, .fieldLink RX2 61 "MachineHall$Market" "owned" "I", .fieldLink RX2 57 "MachineHall$Market" "solved" "Z", .methodLink RX6 63 yX6_agree, .instanceMethod yX6_agree, .selects RX6 yX6_agree yX6_agree, .code yX6_agree cX6_agree 1 (some .boolean)] ++ wsX60 ++ wsX20)
def wsX6_isMonth : List Cond := .code yX6_isMonth cX6_isMonth 1 (some .boolean) :: ([.methodLink RX6 52 yX6_within, .static yX6_within, .initialized RX6, .code yX6_within cX6_within 4 (some .boolean)])
def wsX6_type_r1 : List Cond := [Cond.fieldLink RX6 10 "MachineHall" "sheets" "LMachineHall$Sheets;", Cond.constant RX6 217 (100000), Cond.fieldLink RX6 40 "MachineHall" "market" "LMachineHall$Market;", Cond.fieldLink RX6 143 "MachineHall$Market" "types" "I", Cond.methodLink RX6 52 yX6_within, Cond.static yX6_within, Cond.initialized RX6, Cond.code yX6_within cX6_within 4 (some .boolean), Cond.methodLink RX6 214 yX6_isMonth, Cond.static yX6_isMonth, Cond.code yX6_isMonth cX6_isMonth 1 (some .boolean), Cond.methodLink RX6 48 yX4_isNumber, Cond.static yX4_isNumber, Cond.initialized RX4, Cond.code yX4_isNumber cX4_isNumber 1 (some .boolean), Cond.methodLink RX6 75 yX6_deny, Cond.instanceMethod yX6_deny, Cond.selects RX6 yX6_deny yX6_deny, Cond.code yX6_deny cX6_deny 2 (some .int), Cond.fieldLink RX6 44 "MachineHall" "status" "I", Cond.methodLink RX6 194 yX4_whyNotFirst, Cond.instanceMethod yX4_whyNotFirst, Cond.selects RX4 yX4_whyNotFirst yX4_whyNotFirst, Cond.code yX4_whyNotFirst cX4_whyNotFirst 5 (some .int)]
def wsX6_type_r2 : List Cond := [Cond.fieldLink RX4 20 "MachineHall$Sheets" "lengths" "[I", Cond.fieldLink RX4 13 "MachineHall$Sheets" "numbers" "[[J", Cond.methodLink RX4 44 yX4_isMissing, Cond.instanceMethod yX4_isMissing, Cond.selects RX4 yX4_isMissing yX4_isMissing, Cond.code yX4_isMissing cX4_isMissing 2 (some .boolean), Cond.methodLink RX6 218 yX2_addType, Cond.instanceMethod yX2_addType, Cond.selects RX2 yX2_addType yX2_addType, Cond.initialized RX2, Cond.code yX2_addType cX2_addType 8 (some .int), Cond.fieldLink RX2 39 "MachineHall$Market" "types" "I", Cond.fieldLink RX2 20 "MachineHall$Market" "sizes" "[I", Cond.fieldLink RX2 23 "MachineHall$Market" "leads" "[I", Cond.fieldLink RX2 26 "MachineHall$Market" "powers" "[I", Cond.fieldLink RX2 29 "MachineHall$Market" "prices" "[[I", Cond.fieldLink RX2 57 "MachineHall$Market" "solved" "Z", Cond.methodLink RX2 51 yX4_at, Cond.instanceMethod yX4_at, Cond.selects RX4 yX4_at yX4_at, Cond.code yX4_at cX4_at 3 (some .long), Cond.methodLink RX6 104 yX6_answer, Cond.instanceMethod yX6_answer, Cond.selects RX6 yX6_answer yX6_answer]
def wsX6_type_r3 : List Cond := [Cond.code yX6_answer cX6_answer 2 (some .int)]
def wsX6_type : List Cond := .code yX6_type cX6_type 6 (some .int) :: ((wsX6_type_r1 ++ (wsX6_type_r2 ++ wsX6_type_r3)) ++ wsX60 ++ wsX20 ++ wsX40)
def wsX6_cheapest_r1 : List Cond := [Cond.fieldLink RX6 40 "MachineHall" "market" "LMachineHall$Market;", Cond.fieldLink RX6 228 "MachineHall$Market" "least" "I", Cond.methodLink RX6 222 yX2_solve, Cond.instanceMethod yX2_solve, Cond.selects RX2 yX2_solve yX2_solve, Cond.initialized RX2, Cond.code yX2_solve cX2_solve 3 none, Cond.fieldLink RX2 57 "MachineHall$Market" "solved" "Z", Cond.fieldLink RX2 32 "MachineHall$Market" "toPay" "[I", Cond.fieldLink RX2 35 "MachineHall$Market" "oneMore" "[J", Cond.fieldLink RX2 16 "MachineHall$Market" "wants" "[I", Cond.constant RX2 50 (1000000000), Cond.fieldLink RX2 39 "MachineHall$Market" "types" "I", Cond.fieldLink RX2 23 "MachineHall$Market" "leads" "[I", Cond.fieldLink RX2 61 "MachineHall$Market" "owned" "I", Cond.fieldLink RX2 47 "MachineHall$Market" "least" "I", Cond.methodLink RX2 64 yJ7_fill_53178, Cond.static yJ7_fill_53178, Cond.initialized RJ7, Cond.code yJ7_fill_53178 cJ7_fill_53178 4 none, Cond.methodLink RX2 70 yJ7_fill_d0a16, Cond.static yJ7_fill_d0a16, Cond.code yJ7_fill_d0a16 cJ7_fill_d0a16 5 none, Cond.methodLink RX2 73 yJ7_fill_fda19]
def wsX6_cheapest_r2 : List Cond := [Cond.static yJ7_fill_fda19, Cond.code yJ7_fill_fda19 cJ7_fill_fda19 5 none, Cond.methodLink RJ7 13 yJ7_rangeCheck_23922, Cond.static yJ7_rangeCheck_23922, Cond.code yJ7_rangeCheck_23922 cJ7_rangeCheck_23922 3 none, Cond.methodLink RX2 76 yX2_offer, Cond.instanceMethod yX2_offer, Cond.selects RX2 yX2_offer yX2_offer, Cond.code yX2_offer cX2_offer 6 none, Cond.fieldLink RX2 29 "MachineHall$Market" "prices" "[[I", Cond.fieldLink RX2 26 "MachineHall$Market" "powers" "[I", Cond.fieldLink RX2 20 "MachineHall$Market" "sizes" "[I", Cond.methodLink RX2 87 Lib.Math.min.name, Cond.static Lib.Math.min.name, Cond.initialized "java/lang/Math", Cond.code Lib.Math.min.name Lib.Math.min.code 2 (some .int), Cond.methodLink RX2 93 yX2_word, Cond.static yX2_word, Cond.code yX2_word cX2_word 3 (some .int), Cond.methodLink RX2 80 yX2_isEnough, Cond.instanceMethod yX2_isEnough, Cond.selects RX2 yX2_isEnough yX2_isEnough, Cond.code yX2_isEnough cX2_isEnough 1 (some .boolean), Cond.methodLink RX2 84 yX2_choose]
def wsX6_cheapest_r3 : List Cond := [Cond.instanceMethod yX2_choose, Cond.selects RX2 yX2_choose yX2_choose, Cond.code yX2_choose cX2_choose 5 none, Cond.fieldLink RX2 13 "MachineHall$Market" "bought" "[[I", Cond.methodLink RX2 97 yX2_mustBuy, Cond.instanceMethod yX2_mustBuy, Cond.selects RX2 yX2_mustBuy yX2_mustBuy, Cond.code yX2_mustBuy cX2_mustBuy 4 (some .boolean), Cond.methodLink RX6 225 yX2_isEnough, Cond.methodLink RX6 104 yX6_answer, Cond.instanceMethod yX6_answer, Cond.selects RX6 yX6_answer yX6_answer, Cond.initialized RX6, Cond.code yX6_answer cX6_answer 2 (some .int), Cond.fieldLink RX6 44 "MachineHall" "status" "I", Cond.methodLink RX6 75 yX6_deny, Cond.instanceMethod yX6_deny, Cond.selects RX6 yX6_deny yX6_deny, Cond.code yX6_deny cX6_deny 2 (some .int)]
def wsX6_cheapest : List Cond := .code yX6_cheapest cX6_cheapest 1 (some .int) :: ((wsX6_cheapest_r1 ++ (wsX6_cheapest_r2 ++ wsX6_cheapest_r3)) ++ wsX60 ++ wsX20)
def wsX6_buys_r1 : List Cond := [Cond.fieldLink RX6 40 "MachineHall" "market" "LMachineHall$Market;", Cond.fieldLink RX6 234 "MachineHall$Market" "bought" "[[I", Cond.methodLink RX6 214 yX6_isMonth, Cond.static yX6_isMonth, Cond.initialized RX6, Cond.code yX6_isMonth cX6_isMonth 1 (some .boolean), Cond.methodLink RX6 52 yX6_within, Cond.static yX6_within, Cond.code yX6_within cX6_within 4 (some .boolean), Cond.methodLink RX6 231 yX2_hasType, Cond.instanceMethod yX2_hasType, Cond.selects RX2 yX2_hasType yX2_hasType, Cond.initialized RX2, Cond.code yX2_hasType cX2_hasType 2 (some .boolean), Cond.fieldLink RX2 39 "MachineHall$Market" "types" "I", Cond.methodLink RX6 75 yX6_deny, Cond.instanceMethod yX6_deny, Cond.selects RX6 yX6_deny yX6_deny, Cond.code yX6_deny cX6_deny 2 (some .int), Cond.fieldLink RX6 44 "MachineHall" "status" "I", Cond.methodLink RX6 222 yX2_solve, Cond.instanceMethod yX2_solve, Cond.selects RX2 yX2_solve yX2_solve, Cond.code yX2_solve cX2_solve 3 none]
def wsX6_buys_r2 : List Cond := [Cond.fieldLink RX2 57 "MachineHall$Market" "solved" "Z", Cond.fieldLink RX2 32 "MachineHall$Market" "toPay" "[I", Cond.fieldLink RX2 35 "MachineHall$Market" "oneMore" "[J", Cond.fieldLink RX2 16 "MachineHall$Market" "wants" "[I", Cond.constant RX2 50 (1000000000), Cond.fieldLink RX2 23 "MachineHall$Market" "leads" "[I", Cond.fieldLink RX2 61 "MachineHall$Market" "owned" "I", Cond.fieldLink RX2 47 "MachineHall$Market" "least" "I", Cond.methodLink RX2 64 yJ7_fill_53178, Cond.static yJ7_fill_53178, Cond.initialized RJ7, Cond.code yJ7_fill_53178 cJ7_fill_53178 4 none, Cond.methodLink RX2 70 yJ7_fill_d0a16, Cond.static yJ7_fill_d0a16, Cond.code yJ7_fill_d0a16 cJ7_fill_d0a16 5 none, Cond.methodLink RX2 73 yJ7_fill_fda19, Cond.static yJ7_fill_fda19, Cond.code yJ7_fill_fda19 cJ7_fill_fda19 5 none, Cond.methodLink RJ7 13 yJ7_rangeCheck_23922, Cond.static yJ7_rangeCheck_23922, Cond.code yJ7_rangeCheck_23922 cJ7_rangeCheck_23922 3 none, Cond.methodLink RX2 76 yX2_offer, Cond.instanceMethod yX2_offer, Cond.selects RX2 yX2_offer yX2_offer]
def wsX6_buys_r3 : List Cond := [Cond.code yX2_offer cX2_offer 6 none, Cond.fieldLink RX2 29 "MachineHall$Market" "prices" "[[I", Cond.fieldLink RX2 26 "MachineHall$Market" "powers" "[I", Cond.fieldLink RX2 20 "MachineHall$Market" "sizes" "[I", Cond.methodLink RX2 87 Lib.Math.min.name, Cond.static Lib.Math.min.name, Cond.initialized "java/lang/Math", Cond.code Lib.Math.min.name Lib.Math.min.code 2 (some .int), Cond.methodLink RX2 93 yX2_word, Cond.static yX2_word, Cond.code yX2_word cX2_word 3 (some .int), Cond.methodLink RX2 80 yX2_isEnough, Cond.instanceMethod yX2_isEnough, Cond.selects RX2 yX2_isEnough yX2_isEnough, Cond.code yX2_isEnough cX2_isEnough 1 (some .boolean), Cond.methodLink RX2 84 yX2_choose, Cond.instanceMethod yX2_choose, Cond.selects RX2 yX2_choose yX2_choose, Cond.code yX2_choose cX2_choose 5 none, Cond.fieldLink RX2 13 "MachineHall$Market" "bought" "[[I", Cond.methodLink RX2 97 yX2_mustBuy, Cond.instanceMethod yX2_mustBuy, Cond.selects RX2 yX2_mustBuy yX2_mustBuy, Cond.code yX2_mustBuy cX2_mustBuy 4 (some .boolean)]
def wsX6_buys_r4 : List Cond := [Cond.methodLink RX6 225 yX2_isEnough, Cond.methodLink RX6 104 yX6_answer, Cond.instanceMethod yX6_answer, Cond.selects RX6 yX6_answer yX6_answer, Cond.code yX6_answer cX6_answer 2 (some .int)]
def wsX6_buys : List Cond := .code yX6_buys cX6_buys 3 (some .int) :: ((wsX6_buys_r1 ++ (wsX6_buys_r2 ++ (wsX6_buys_r3 ++ wsX6_buys_r4))) ++ wsX60 ++ wsX20)
def wsX7_init_r1 : List Cond := [Cond.methodLink RX7 1 objectInit, Cond.instanceMethod objectInit, Cond.code objectInit ⟨#[0xb1]⟩ 1 none, Cond.arrayClass .int, Cond.fieldLink RX7 7 "MachineHallModel" "sort" "[I", Cond.fieldLink RX7 13 "MachineHallModel" "many" "[I", Cond.arrayClass .long, Cond.fieldLink RX7 16 "MachineHallModel" "sheets" "[J", Cond.fieldLink RX7 20 "MachineHallModel" "size" "[I", Cond.fieldLink RX7 23 "MachineHallModel" "room" "[I", Cond.arrayClass .boolean, Cond.fieldLink RX7 26 "MachineHallModel" "isUp" "[Z", Cond.fieldLink RX7 30 "MachineHallModel" "need" "[I", Cond.fieldLink RX7 33 "MachineHallModel" "first" "[I", Cond.fieldLink RX7 36 "MachineHallModel" "last" "[I", Cond.fieldLink RX7 39 "MachineHallModel" "apart" "[I", Cond.fieldLink RX7 42 "MachineHallModel" "needs" "[I", Cond.fieldLink RX7 45 "MachineHallModel" "may" "[Z", Cond.fieldLink RX7 48 "MachineHallModel" "can" "[Z", Cond.fieldLink RX7 51 "MachineHallModel" "work" "[I", Cond.fieldLink RX7 54 "MachineHallModel" "from" "[I", Cond.fieldLink RX7 57 "MachineHallModel" "due" "[I", Cond.fieldLink RX7 60 "MachineHallModel" "most" "[I", Cond.fieldLink RX7 63 "MachineHallModel" "part" "[I"]
def wsX7_init_r2 : List Cond := [Cond.fieldLink RX7 66 "MachineHallModel" "has" "[I", Cond.fieldLink RX7 69 "MachineHallModel" "used" "[I", Cond.fieldLink RX7 72 "MachineHallModel" "done" "[I", Cond.fieldLink RX7 75 "MachineHallModel" "stays" "[Z", Cond.fieldLink RX7 78 "MachineHallModel" "before" "[I", Cond.fieldLink RX7 81 "MachineHallModel" "line" "[I", Cond.fieldLink RX7 84 "MachineHallModel" "free" "[I", Cond.fieldLink RX7 87 "MachineHallModel" "wanted" "[I", Cond.fieldLink RX7 90 "MachineHallModel" "typeSize" "[I", Cond.fieldLink RX7 93 "MachineHallModel" "lead" "[I", Cond.fieldLink RX7 96 "MachineHallModel" "power" "[I", Cond.fieldLink RX7 99 "MachineHallModel" "price" "[I", Cond.fieldLink RX7 102 "MachineHallModel" "least" "[I"]
def wsX7_init : List Cond := .code yX7_init cX7_init 1 none :: ((wsX7_init_r1 ++ wsX7_init_r2) ++ wsX70)
def wsX7_status : List Cond := .code yX7_status cX7_status 1 (some .int) :: ([.fieldLink RX7 105 "MachineHallModel" "status" "I"] ++ wsX70)
def wsX7_is : List Cond := .code yX7_is cX7_is 2 (some .boolean) :: ([.fieldLink RX7 105 "MachineHallModel" "status" "I"] ++ wsX70)
def wsX7_refuse : List Cond := .code yX7_refuse cX7_refuse 2 (some .int) :: ([.fieldLink RX7 105 "MachineHallModel" "status" "I"] ++ wsX70)
def wsX7_isSheet : List Cond := .code yX7_isSheet cX7_isSheet 1 (some .boolean) :: ([])
def wsX7_cut : List Cond := .code yX7_cut cX7_cut 3 (some .long) :: ([])
def wsX7_sheet : List Cond := .code yX7_sheet cX7_sheet 5 (some .boolean) :: ([.fieldLink RX7 7 "MachineHallModel" "sort" "[I", .fieldLink RX7 13 "MachineHallModel" "many" "[I", .fieldLink RX7 16 "MachineHallModel" "sheets" "[J", .methodLink RX7 109 yX7_isSheet, .static yX7_isSheet, .initialized RX7, .code yX7_isSheet cX7_isSheet 1 (some .boolean), .methodLink RX7 113 yX7_is, .instanceMethod yX7_is, .selects RX7 yX7_is yX7_is, .code yX7_is cX7_is 2 (some .boolean), .fieldLink RX7 105 "MachineHallModel" "status" "I"] ++ wsX70)
def wsX7_wrong : List Cond := .code yX7_wrong cX7_wrong 3 (some .int) :: ([.fieldLink RX7 13 "MachineHallModel" "many" "[I", .methodLink RX7 109 yX7_isSheet, .static yX7_isSheet, .initialized RX7, .code yX7_isSheet cX7_isSheet 1 (some .boolean)] ++ wsX70)
def wsX7_write : List Cond := .code yX7_write cX7_write 6 (some .boolean) :: ([.fieldLink RX7 16 "MachineHallModel" "sheets" "[J", .fieldLink RX7 7 "MachineHallModel" "sort" "[I", .methodLink RX7 116 yX7_wrong, .instanceMethod yX7_wrong, .selects RX7 yX7_wrong yX7_wrong, .initialized RX7, .code yX7_wrong cX7_wrong 3 (some .int), .fieldLink RX7 13 "MachineHallModel" "many" "[I", .methodLink RX7 109 yX7_isSheet, .static yX7_isSheet, .code yX7_isSheet cX7_isSheet 1 (some .boolean), .methodLink RX7 120 yX7_cut, .static yX7_cut, .code yX7_cut cX7_cut 3 (some .long), .methodLink RX7 113 yX7_is, .instanceMethod yX7_is, .selects RX7 yX7_is yX7_is, .code yX7_is cX7_is 2 (some .boolean), .fieldLink RX7 105 "MachineHallModel" "status" "I"] ++ wsX70)
def wsX7_read : List Cond := .code yX7_read cX7_read 3 (some .long) :: ([.fieldLink RX7 105 "MachineHallModel" "status" "I", .constantLong RX7 124 (-1), .fieldLink RX7 16 "MachineHallModel" "sheets" "[J", .methodLink RX7 116 yX7_wrong, .instanceMethod yX7_wrong, .selects RX7 yX7_wrong yX7_wrong, .initialized RX7, .code yX7_wrong cX7_wrong 3 (some .int), .fieldLink RX7 13 "MachineHallModel" "many" "[I", .methodLink RX7 109 yX7_isSheet, .static yX7_isSheet, .code yX7_isSheet cX7_isSheet 1 (some .boolean)] ++ wsX70)
def wsX7_copy : List Cond := .code yX7_copy cX7_copy 8 (some .boolean) :: ([.fieldLink RX7 13 "MachineHallModel" "many" "[I", .fieldLink RX7 16 "MachineHallModel" "sheets" "[J", .fieldLink RX7 7 "MachineHallModel" "sort" "[I", .methodLink RX7 109 yX7_isSheet, .static yX7_isSheet, .initialized RX7, .code yX7_isSheet cX7_isSheet 1 (some .boolean), .methodLink RX7 113 yX7_is, .instanceMethod yX7_is, .selects RX7 yX7_is yX7_is, .code yX7_is cX7_is 2 (some .boolean), .fieldLink RX7 105 "MachineHallModel" "status" "I", .methodLink RX7 120 yX7_cut, .static yX7_cut, .code yX7_cut cX7_cut 3 (some .long)] ++ wsX70)
def wsX7_drop : List Cond := .code yX7_drop cX7_drop 2 (some .boolean) :: ([.fieldLink RX7 13 "MachineHallModel" "many" "[I", .methodLink RX7 109 yX7_isSheet, .static yX7_isSheet, .initialized RX7, .code yX7_isSheet cX7_isSheet 1 (some .boolean), .methodLink RX7 113 yX7_is, .instanceMethod yX7_is, .selects RX7 yX7_is yX7_is, .code yX7_is cX7_is 2 (some .boolean), .fieldLink RX7 105 "MachineHallModel" "status" "I"] ++ wsX70)
def wsX7_none : List Cond := .code yX7_none cX7_none 1 (some .boolean) :: ([.methodLink RX7 113 yX7_is, .instanceMethod yX7_is, .selects RX7 yX7_is yX7_is, .initialized RX7, .code yX7_is cX7_is 2 (some .boolean), .fieldLink RX7 105 "MachineHallModel" "status" "I"] ++ wsX70)
def wsX7_wrongNumbers : List Cond := .code yX7_wrongNumbers cX7_wrongNumbers 6 (some .int) :: ([.fieldLink RX7 13 "MachineHallModel" "many" "[I", .fieldLink RX7 16 "MachineHallModel" "sheets" "[J", .methodLink RX7 109 yX7_isSheet, .static yX7_isSheet, .initialized RX7, .code yX7_isSheet cX7_isSheet 1 (some .boolean)] ++ wsX70)
def wsX7_machine : List Cond := .code yX7_machine cX7_machine 3 (some .int) :: ([.fieldLink RX7 130 "MachineHallModel" "machines" "I", .fieldLink RX7 20 "MachineHallModel" "size" "[I", .fieldLink RX7 23 "MachineHallModel" "room" "[I", .fieldLink RX7 26 "MachineHallModel" "isUp" "[Z", .fieldLink RX7 105 "MachineHallModel" "status" "I", .methodLink RX7 126 yX7_refuse, .instanceMethod yX7_refuse, .selects RX7 yX7_refuse yX7_refuse, .initialized RX7, .code yX7_refuse cX7_refuse 2 (some .int)] ++ wsX70)
def wsX7_up : List Cond := .code yX7_up cX7_up 3 (some .boolean) :: ([.fieldLink RX7 130 "MachineHallModel" "machines" "I", .fieldLink RX7 26 "MachineHallModel" "isUp" "[Z", .methodLink RX7 113 yX7_is, .instanceMethod yX7_is, .selects RX7 yX7_is yX7_is, .initialized RX7, .code yX7_is cX7_is 2 (some .boolean), .fieldLink RX7 105 "MachineHallModel" "status" "I"] ++ wsX70)
def wsX7_isAsk : List Cond := .code yX7_isAsk cX7_isAsk 2 (some .boolean) :: ([.fieldLink RX7 133 "MachineHallModel" "asks" "I"] ++ wsX70)
def wsX7_ask : List Cond := .code yX7_ask cX7_ask 4 (some .int) :: ([.fieldLink RX7 133 "MachineHallModel" "asks" "I", .fieldLink RX7 30 "MachineHallModel" "need" "[I", .fieldLink RX7 33 "MachineHallModel" "first" "[I", .fieldLink RX7 36 "MachineHallModel" "last" "[I", .fieldLink RX7 39 "MachineHallModel" "apart" "[I", .fieldLink RX7 105 "MachineHallModel" "status" "I", .methodLink RX7 126 yX7_refuse, .instanceMethod yX7_refuse, .selects RX7 yX7_refuse yX7_refuse, .initialized RX7, .code yX7_refuse cX7_refuse 2 (some .int)] ++ wsX70)
def wsX7_apart : List Cond := .code yX7_apart cX7_apart 4 (some .boolean) :: ([.fieldLink RX7 39 "MachineHallModel" "apart" "[I", .methodLink RX7 136 yX7_isAsk, .instanceMethod yX7_isAsk, .selects RX7 yX7_isAsk yX7_isAsk, .initialized RX7, .code yX7_isAsk cX7_isAsk 2 (some .boolean), .fieldLink RX7 133 "MachineHallModel" "asks" "I", .methodLink RX7 113 yX7_is, .instanceMethod yX7_is, .selects RX7 yX7_is yX7_is, .code yX7_is cX7_is 2 (some .boolean), .fieldLink RX7 105 "MachineHallModel" "status" "I"] ++ wsX70)
def wsX7_isHour : List Cond := .code yX7_isHour cX7_isHour 1 (some .boolean) :: ([])
def wsX7_isFall : List Cond := .code yX7_isFall cX7_isFall 1 (some .boolean) :: ([])
def wsX7_stands : List Cond := .code yX7_stands cX7_stands 3 (some .boolean) :: ([.fieldLink RX7 26 "MachineHallModel" "isUp" "[Z", .fieldLink RX7 23 "MachineHallModel" "room" "[I"] ++ wsX70)
def wsX7_sizes : List Cond := .code yX7_sizes cX7_sizes 4 (some .int) :: ([.fieldLink RX7 130 "MachineHallModel" "machines" "I", .fieldLink RX7 20 "MachineHallModel" "size" "[I", .methodLink RX7 139 yX7_stands, .instanceMethod yX7_stands, .selects RX7 yX7_stands yX7_stands, .initialized RX7, .code yX7_stands cX7_stands 3 (some .boolean), .fieldLink RX7 26 "MachineHallModel" "isUp" "[Z", .fieldLink RX7 23 "MachineHallModel" "room" "[I"] ++ wsX70)
def wsX7_count : List Cond := .code yX7_count cX7_count 2 (some .int) :: ([.fieldLink RX7 105 "MachineHallModel" "status" "I", .fieldLink RX7 130 "MachineHallModel" "machines" "I", .fieldLink RX7 133 "MachineHallModel" "asks" "I", .fieldLink RX7 143 "MachineHallModel" "batches" "I", .fieldLink RX7 146 "MachineHallModel" "types" "I", .methodLink RX7 126 yX7_refuse, .instanceMethod yX7_refuse, .selects RX7 yX7_refuse yX7_refuse, .initialized RX7, .code yX7_refuse cX7_refuse 2 (some .int), .methodLink RX7 149 yX7_sizes, .instanceMethod yX7_sizes, .selects RX7 yX7_sizes yX7_sizes, .code yX7_sizes cX7_sizes 4 (some .int), .fieldLink RX7 20 "MachineHallModel" "size" "[I", .methodLink RX7 139 yX7_stands, .instanceMethod yX7_stands, .selects RX7 yX7_stands yX7_stands, .code yX7_stands cX7_stands 3 (some .boolean), .fieldLink RX7 26 "MachineHallModel" "isUp" "[Z", .fieldLink RX7 23 "MachineHallModel" "room" "[I"] ++ wsX70)
def wsX7_look : List Cond := .code yX7_look cX7_look 7 none :: ([.fieldLink RX7 133 "MachineHallModel" "asks" "I", .fieldLink RX7 42 "MachineHallModel" "needs" "[I", .fieldLink RX7 45 "MachineHallModel" "may" "[Z", .fieldLink RX7 30 "MachineHallModel" "need" "[I", .fieldLink RX7 39 "MachineHallModel" "apart" "[I", .fieldLink RX7 48 "MachineHallModel" "can" "[Z", .fieldLink RX7 130 "MachineHallModel" "machines" "I", .fieldLink RX7 20 "MachineHallModel" "size" "[I", .methodLink RX7 139 yX7_stands, .instanceMethod yX7_stands, .selects RX7 yX7_stands yX7_stands, .initialized RX7, .code yX7_stands cX7_stands 3 (some .boolean), .fieldLink RX7 26 "MachineHallModel" "isUp" "[Z", .fieldLink RX7 23 "MachineHallModel" "room" "[I"] ++ wsX70)
def wsX7_setOf : List Cond := .code yX7_setOf cX7_setOf 4 (some .int) :: ([.fieldLink RX7 133 "MachineHallModel" "asks" "I", .fieldLink RX7 33 "MachineHallModel" "first" "[I", .fieldLink RX7 36 "MachineHallModel" "last" "[I"] ++ wsX70)
def wsX7_fits_r1 : List Cond := [Cond.fieldLink RX7 105 "MachineHallModel" "status" "I", Cond.fieldLink RX7 48 "MachineHallModel" "can" "[Z", Cond.methodLink RX7 152 yX7_isHour, Cond.static yX7_isHour, Cond.initialized RX7, Cond.code yX7_isHour cX7_isHour 1 (some .boolean), Cond.methodLink RX7 155 yX7_isFall, Cond.static yX7_isFall, Cond.code yX7_isFall cX7_isFall 1 (some .boolean), Cond.methodLink RX7 126 yX7_refuse, Cond.instanceMethod yX7_refuse, Cond.selects RX7 yX7_refuse yX7_refuse, Cond.code yX7_refuse cX7_refuse 2 (some .int), Cond.methodLink RX7 158 yX7_look, Cond.instanceMethod yX7_look, Cond.selects RX7 yX7_look yX7_look, Cond.code yX7_look cX7_look 7 none, Cond.fieldLink RX7 133 "MachineHallModel" "asks" "I", Cond.fieldLink RX7 42 "MachineHallModel" "needs" "[I", Cond.fieldLink RX7 45 "MachineHallModel" "may" "[Z", Cond.fieldLink RX7 30 "MachineHallModel" "need" "[I", Cond.fieldLink RX7 39 "MachineHallModel" "apart" "[I", Cond.fieldLink RX7 130 "MachineHallModel" "machines" "I", Cond.fieldLink RX7 20 "MachineHallModel" "size" "[I"]
def wsX7_fits_r2 : List Cond := [Cond.methodLink RX7 139 yX7_stands, Cond.instanceMethod yX7_stands, Cond.selects RX7 yX7_stands yX7_stands, Cond.code yX7_stands cX7_stands 3 (some .boolean), Cond.fieldLink RX7 26 "MachineHallModel" "isUp" "[Z", Cond.fieldLink RX7 23 "MachineHallModel" "room" "[I", Cond.methodLink RX7 162 yX7_setOf, Cond.instanceMethod yX7_setOf, Cond.selects RX7 yX7_setOf yX7_setOf, Cond.code yX7_setOf cX7_setOf 4 (some .int), Cond.fieldLink RX7 33 "MachineHallModel" "first" "[I", Cond.fieldLink RX7 36 "MachineHallModel" "last" "[I"]
def wsX7_fits : List Cond := .code yX7_fits cX7_fits 3 (some .int) :: ((wsX7_fits_r1 ++ wsX7_fits_r2) ++ wsX70)
def wsX7_on_r1 : List Cond := [Cond.fieldLink RX7 48 "MachineHallModel" "can" "[Z", Cond.fieldLink RX7 105 "MachineHallModel" "status" "I", Cond.fieldLink RX7 130 "MachineHallModel" "machines" "I", Cond.fieldLink RX7 45 "MachineHallModel" "may" "[Z", Cond.fieldLink RX7 42 "MachineHallModel" "needs" "[I", Cond.fieldLink RX7 20 "MachineHallModel" "size" "[I", Cond.methodLink RX7 152 yX7_isHour, Cond.static yX7_isHour, Cond.initialized RX7, Cond.code yX7_isHour cX7_isHour 1 (some .boolean), Cond.methodLink RX7 155 yX7_isFall, Cond.static yX7_isFall, Cond.code yX7_isFall cX7_isFall 1 (some .boolean), Cond.methodLink RX7 136 yX7_isAsk, Cond.instanceMethod yX7_isAsk, Cond.selects RX7 yX7_isAsk yX7_isAsk, Cond.code yX7_isAsk cX7_isAsk 2 (some .boolean), Cond.fieldLink RX7 133 "MachineHallModel" "asks" "I", Cond.methodLink RX7 162 yX7_setOf, Cond.instanceMethod yX7_setOf, Cond.selects RX7 yX7_setOf yX7_setOf, Cond.code yX7_setOf cX7_setOf 4 (some .int), Cond.fieldLink RX7 33 "MachineHallModel" "first" "[I", Cond.fieldLink RX7 36 "MachineHallModel" "last" "[I"]
def wsX7_on_r2 : List Cond := [Cond.methodLink RX7 126 yX7_refuse, Cond.instanceMethod yX7_refuse, Cond.selects RX7 yX7_refuse yX7_refuse, Cond.code yX7_refuse cX7_refuse 2 (some .int), Cond.methodLink RX7 158 yX7_look, Cond.instanceMethod yX7_look, Cond.selects RX7 yX7_look yX7_look, Cond.code yX7_look cX7_look 7 none, Cond.fieldLink RX7 30 "MachineHallModel" "need" "[I", Cond.fieldLink RX7 39 "MachineHallModel" "apart" "[I", Cond.methodLink RX7 139 yX7_stands, Cond.instanceMethod yX7_stands, Cond.selects RX7 yX7_stands yX7_stands, Cond.code yX7_stands cX7_stands 3 (some .boolean), Cond.fieldLink RX7 26 "MachineHallModel" "isUp" "[Z", Cond.fieldLink RX7 23 "MachineHallModel" "room" "[I"]
def wsX7_on : List Cond := .code yX7_on cX7_on 7 (some .int) :: ((wsX7_on_r1 ++ wsX7_on_r2) ++ wsX70)
def wsX7_lack_r1 : List Cond := [Cond.fieldLink RX7 105 "MachineHallModel" "status" "I", Cond.fieldLink RX7 48 "MachineHallModel" "can" "[Z", Cond.fieldLink RX7 42 "MachineHallModel" "needs" "[I", Cond.methodLink RX7 152 yX7_isHour, Cond.static yX7_isHour, Cond.initialized RX7, Cond.code yX7_isHour cX7_isHour 1 (some .boolean), Cond.methodLink RX7 155 yX7_isFall, Cond.static yX7_isFall, Cond.code yX7_isFall cX7_isFall 1 (some .boolean), Cond.methodLink RX7 126 yX7_refuse, Cond.instanceMethod yX7_refuse, Cond.selects RX7 yX7_refuse yX7_refuse, Cond.code yX7_refuse cX7_refuse 2 (some .int), Cond.methodLink RX7 158 yX7_look, Cond.instanceMethod yX7_look, Cond.selects RX7 yX7_look yX7_look, Cond.code yX7_look cX7_look 7 none, Cond.fieldLink RX7 133 "MachineHallModel" "asks" "I", Cond.fieldLink RX7 45 "MachineHallModel" "may" "[Z", Cond.fieldLink RX7 30 "MachineHallModel" "need" "[I", Cond.fieldLink RX7 39 "MachineHallModel" "apart" "[I", Cond.fieldLink RX7 130 "MachineHallModel" "machines" "I", Cond.fieldLink RX7 20 "MachineHallModel" "size" "[I"]
def wsX7_lack_r2 : List Cond := [Cond.methodLink RX7 139 yX7_stands, Cond.instanceMethod yX7_stands, Cond.selects RX7 yX7_stands yX7_stands, Cond.code yX7_stands cX7_stands 3 (some .boolean), Cond.fieldLink RX7 26 "MachineHallModel" "isUp" "[Z", Cond.fieldLink RX7 23 "MachineHallModel" "room" "[I", Cond.methodLink RX7 162 yX7_setOf, Cond.instanceMethod yX7_setOf, Cond.selects RX7 yX7_setOf yX7_setOf, Cond.code yX7_setOf cX7_setOf 4 (some .int), Cond.fieldLink RX7 33 "MachineHallModel" "first" "[I", Cond.fieldLink RX7 36 "MachineHallModel" "last" "[I"]
def wsX7_lack : List Cond := .code yX7_lack cX7_lack 6 (some .int) :: ((wsX7_lack_r1 ++ wsX7_lack_r2) ++ wsX70)
def wsX7_leftOf : List Cond := .code yX7_leftOf cX7_leftOf 3 (some .int) :: ([.fieldLink RX7 48 "MachineHallModel" "can" "[Z", .fieldLink RX7 42 "MachineHallModel" "needs" "[I", .methodLink RX7 162 yX7_setOf, .instanceMethod yX7_setOf, .selects RX7 yX7_setOf yX7_setOf, .initialized RX7, .code yX7_setOf cX7_setOf 4 (some .int), .fieldLink RX7 133 "MachineHallModel" "asks" "I", .fieldLink RX7 33 "MachineHallModel" "first" "[I", .fieldLink RX7 36 "MachineHallModel" "last" "[I", .methodLink RX7 149 yX7_sizes, .instanceMethod yX7_sizes, .selects RX7 yX7_sizes yX7_sizes, .code yX7_sizes cX7_sizes 4 (some .int), .fieldLink RX7 130 "MachineHallModel" "machines" "I", .fieldLink RX7 20 "MachineHallModel" "size" "[I", .methodLink RX7 139 yX7_stands, .instanceMethod yX7_stands, .selects RX7 yX7_stands yX7_stands, .code yX7_stands cX7_stands 3 (some .boolean), .fieldLink RX7 26 "MachineHallModel" "isUp" "[Z", .fieldLink RX7 23 "MachineHallModel" "room" "[I"] ++ wsX70)
def wsX7_left_r1 : List Cond := [Cond.fieldLink RX7 105 "MachineHallModel" "status" "I", Cond.methodLink RX7 152 yX7_isHour, Cond.static yX7_isHour, Cond.initialized RX7, Cond.code yX7_isHour cX7_isHour 1 (some .boolean), Cond.methodLink RX7 155 yX7_isFall, Cond.static yX7_isFall, Cond.code yX7_isFall cX7_isFall 1 (some .boolean), Cond.methodLink RX7 126 yX7_refuse, Cond.instanceMethod yX7_refuse, Cond.selects RX7 yX7_refuse yX7_refuse, Cond.code yX7_refuse cX7_refuse 2 (some .int), Cond.methodLink RX7 158 yX7_look, Cond.instanceMethod yX7_look, Cond.selects RX7 yX7_look yX7_look, Cond.code yX7_look cX7_look 7 none, Cond.fieldLink RX7 133 "MachineHallModel" "asks" "I", Cond.fieldLink RX7 42 "MachineHallModel" "needs" "[I", Cond.fieldLink RX7 45 "MachineHallModel" "may" "[Z", Cond.fieldLink RX7 30 "MachineHallModel" "need" "[I", Cond.fieldLink RX7 39 "MachineHallModel" "apart" "[I", Cond.fieldLink RX7 48 "MachineHallModel" "can" "[Z", Cond.fieldLink RX7 130 "MachineHallModel" "machines" "I", Cond.fieldLink RX7 20 "MachineHallModel" "size" "[I"]
def wsX7_left_r2 : List Cond := [Cond.methodLink RX7 139 yX7_stands, Cond.instanceMethod yX7_stands, Cond.selects RX7 yX7_stands yX7_stands, Cond.code yX7_stands cX7_stands 3 (some .boolean), Cond.fieldLink RX7 26 "MachineHallModel" "isUp" "[Z", Cond.fieldLink RX7 23 "MachineHallModel" "room" "[I", Cond.methodLink RX7 165 yX7_leftOf, Cond.instanceMethod yX7_leftOf, Cond.selects RX7 yX7_leftOf yX7_leftOf, Cond.code yX7_leftOf cX7_leftOf 3 (some .int), Cond.methodLink RX7 162 yX7_setOf, Cond.instanceMethod yX7_setOf, Cond.selects RX7 yX7_setOf yX7_setOf, Cond.code yX7_setOf cX7_setOf 4 (some .int), Cond.fieldLink RX7 33 "MachineHallModel" "first" "[I", Cond.fieldLink RX7 36 "MachineHallModel" "last" "[I", Cond.methodLink RX7 149 yX7_sizes, Cond.instanceMethod yX7_sizes, Cond.selects RX7 yX7_sizes yX7_sizes, Cond.code yX7_sizes cX7_sizes 4 (some .int)]
def wsX7_left : List Cond := .code yX7_left cX7_left 3 (some .int) :: ((wsX7_left_r1 ++ wsX7_left_r2) ++ wsX70)
def wsX7_enough_r1 : List Cond := [Cond.fieldLink RX7 105 "MachineHallModel" "status" "I", Cond.fieldLink RX7 130 "MachineHallModel" "machines" "I", Cond.fieldLink RX7 48 "MachineHallModel" "can" "[Z", Cond.methodLink RX7 126 yX7_refuse, Cond.instanceMethod yX7_refuse, Cond.selects RX7 yX7_refuse yX7_refuse, Cond.initialized RX7, Cond.code yX7_refuse cX7_refuse 2 (some .int), Cond.methodLink RX7 158 yX7_look, Cond.instanceMethod yX7_look, Cond.selects RX7 yX7_look yX7_look, Cond.code yX7_look cX7_look 7 none, Cond.fieldLink RX7 133 "MachineHallModel" "asks" "I", Cond.fieldLink RX7 42 "MachineHallModel" "needs" "[I", Cond.fieldLink RX7 45 "MachineHallModel" "may" "[Z", Cond.fieldLink RX7 30 "MachineHallModel" "need" "[I", Cond.fieldLink RX7 39 "MachineHallModel" "apart" "[I", Cond.fieldLink RX7 20 "MachineHallModel" "size" "[I", Cond.methodLink RX7 139 yX7_stands, Cond.instanceMethod yX7_stands, Cond.selects RX7 yX7_stands yX7_stands, Cond.code yX7_stands cX7_stands 3 (some .boolean), Cond.fieldLink RX7 26 "MachineHallModel" "isUp" "[Z", Cond.fieldLink RX7 23 "MachineHallModel" "room" "[I"]
def wsX7_enough_r2 : List Cond := [Cond.methodLink RX7 162 yX7_setOf, Cond.instanceMethod yX7_setOf, Cond.selects RX7 yX7_setOf yX7_setOf, Cond.code yX7_setOf cX7_setOf 4 (some .int), Cond.fieldLink RX7 33 "MachineHallModel" "first" "[I", Cond.fieldLink RX7 36 "MachineHallModel" "last" "[I"]
def wsX7_enough : List Cond := .code yX7_enough cX7_enough 6 (some .int) :: ((wsX7_enough_r1 ++ wsX7_enough_r2) ++ wsX70)
def wsX7_batch : List Cond := .code yX7_batch cX7_batch 5 (some .int) :: ([.fieldLink RX7 143 "MachineHallModel" "batches" "I", .fieldLink RX7 51 "MachineHallModel" "work" "[I", .fieldLink RX7 54 "MachineHallModel" "from" "[I", .fieldLink RX7 57 "MachineHallModel" "due" "[I", .fieldLink RX7 60 "MachineHallModel" "most" "[I", .fieldLink RX7 105 "MachineHallModel" "status" "I", .methodLink RX7 126 yX7_refuse, .instanceMethod yX7_refuse, .selects RX7 yX7_refuse yX7_refuse, .initialized RX7, .code yX7_refuse cX7_refuse 2 (some .int)] ++ wsX70)
def wsX7_isIn : List Cond := .code yX7_isIn cX7_isIn 3 (some .boolean) :: ([.fieldLink RX7 54 "MachineHallModel" "from" "[I", .fieldLink RX7 57 "MachineHallModel" "due" "[I"] ++ wsX70)
def wsX7_goes : List Cond := .code yX7_goes cX7_goes 3 (some .int) :: ([.fieldLink RX7 143 "MachineHallModel" "batches" "I", .fieldLink RX7 51 "MachineHallModel" "work" "[I", .fieldLink RX7 72 "MachineHallModel" "done" "[I", .fieldLink RX7 75 "MachineHallModel" "stays" "[Z", .fieldLink RX7 60 "MachineHallModel" "most" "[I", .fieldLink RX7 63 "MachineHallModel" "part" "[I", .fieldLink RX7 66 "MachineHallModel" "has" "[I", .fieldLink RX7 69 "MachineHallModel" "used" "[I", .methodLink RX7 168 yX7_isIn, .instanceMethod yX7_isIn, .selects RX7 yX7_isIn yX7_isIn, .initialized RX7, .code yX7_isIn cX7_isIn 3 (some .boolean), .fieldLink RX7 54 "MachineHallModel" "from" "[I", .fieldLink RX7 57 "MachineHallModel" "due" "[I"] ++ wsX70)
def wsX7_moves : List Cond := .code yX7_moves cX7_moves 4 none :: ([.fieldLink RX7 72 "MachineHallModel" "done" "[I", .fieldLink RX7 63 "MachineHallModel" "part" "[I", .fieldLink RX7 69 "MachineHallModel" "used" "[I"] ++ wsX70)
def wsX7_isWay : List Cond := .code yX7_isWay cX7_isWay 6 (some .boolean) :: ([.fieldLink RX7 78 "MachineHallModel" "before" "[I", .fieldLink RX7 81 "MachineHallModel" "line" "[I", .methodLink RX7 171 yX7_goes, .instanceMethod yX7_goes, .selects RX7 yX7_goes yX7_goes, .initialized RX7, .code yX7_goes cX7_goes 3 (some .int), .fieldLink RX7 143 "MachineHallModel" "batches" "I", .fieldLink RX7 51 "MachineHallModel" "work" "[I", .fieldLink RX7 72 "MachineHallModel" "done" "[I", .fieldLink RX7 75 "MachineHallModel" "stays" "[Z", .fieldLink RX7 60 "MachineHallModel" "most" "[I", .fieldLink RX7 63 "MachineHallModel" "part" "[I", .fieldLink RX7 66 "MachineHallModel" "has" "[I", .fieldLink RX7 69 "MachineHallModel" "used" "[I", .methodLink RX7 168 yX7_isIn, .instanceMethod yX7_isIn, .selects RX7 yX7_isIn yX7_isIn, .code yX7_isIn cX7_isIn 3 (some .boolean), .fieldLink RX7 54 "MachineHallModel" "from" "[I", .fieldLink RX7 57 "MachineHallModel" "due" "[I"] ++ wsX70)
def wsX7_goAlong_r1 : List Cond := [Cond.fieldLink RX7 78 "MachineHallModel" "before" "[I", Cond.methodLink RX7 174 Lib.Math.min.name, Cond.static Lib.Math.min.name, Cond.initialized "java/lang/Math", Cond.code Lib.Math.min.name Lib.Math.min.code 2 (some .int), Cond.methodLink RX7 171 yX7_goes, Cond.instanceMethod yX7_goes, Cond.selects RX7 yX7_goes yX7_goes, Cond.initialized RX7, Cond.code yX7_goes cX7_goes 3 (some .int), Cond.fieldLink RX7 143 "MachineHallModel" "batches" "I", Cond.fieldLink RX7 51 "MachineHallModel" "work" "[I", Cond.fieldLink RX7 72 "MachineHallModel" "done" "[I", Cond.fieldLink RX7 75 "MachineHallModel" "stays" "[Z", Cond.fieldLink RX7 60 "MachineHallModel" "most" "[I", Cond.fieldLink RX7 63 "MachineHallModel" "part" "[I", Cond.fieldLink RX7 66 "MachineHallModel" "has" "[I", Cond.fieldLink RX7 69 "MachineHallModel" "used" "[I", Cond.methodLink RX7 168 yX7_isIn, Cond.instanceMethod yX7_isIn, Cond.selects RX7 yX7_isIn yX7_isIn, Cond.code yX7_isIn cX7_isIn 3 (some .boolean), Cond.fieldLink RX7 54 "MachineHallModel" "from" "[I", Cond.fieldLink RX7 57 "MachineHallModel" "due" "[I"]
def wsX7_goAlong_r2 : List Cond := [Cond.methodLink RX7 179 yX7_moves, Cond.instanceMethod yX7_moves, Cond.selects RX7 yX7_moves yX7_moves, Cond.code yX7_moves cX7_moves 4 none]
def wsX7_goAlong : List Cond := .code yX7_goAlong cX7_goAlong 6 (some .int) :: ((wsX7_goAlong_r1 ++ wsX7_goAlong_r2) ++ wsX70)
def wsX7_layIn_r1 : List Cond := [Cond.fieldLink RX7 66 "MachineHallModel" "has" "[I", Cond.fieldLink RX7 69 "MachineHallModel" "used" "[I", Cond.fieldLink RX7 63 "MachineHallModel" "part" "[I", Cond.fieldLink RX7 75 "MachineHallModel" "stays" "[Z", Cond.fieldLink RX7 143 "MachineHallModel" "batches" "I", Cond.fieldLink RX7 72 "MachineHallModel" "done" "[I", Cond.fieldLink RX7 51 "MachineHallModel" "work" "[I", Cond.methodLink RX7 158 yX7_look, Cond.instanceMethod yX7_look, Cond.selects RX7 yX7_look yX7_look, Cond.initialized RX7, Cond.code yX7_look cX7_look 7 none, Cond.fieldLink RX7 133 "MachineHallModel" "asks" "I", Cond.fieldLink RX7 42 "MachineHallModel" "needs" "[I", Cond.fieldLink RX7 45 "MachineHallModel" "may" "[Z", Cond.fieldLink RX7 30 "MachineHallModel" "need" "[I", Cond.fieldLink RX7 39 "MachineHallModel" "apart" "[I", Cond.fieldLink RX7 48 "MachineHallModel" "can" "[Z", Cond.fieldLink RX7 130 "MachineHallModel" "machines" "I", Cond.fieldLink RX7 20 "MachineHallModel" "size" "[I", Cond.methodLink RX7 139 yX7_stands, Cond.instanceMethod yX7_stands, Cond.selects RX7 yX7_stands yX7_stands, Cond.code yX7_stands cX7_stands 3 (some .boolean)]
def wsX7_layIn_r2 : List Cond := [Cond.fieldLink RX7 26 "MachineHallModel" "isUp" "[Z", Cond.fieldLink RX7 23 "MachineHallModel" "room" "[I", Cond.methodLink RX7 165 yX7_leftOf, Cond.instanceMethod yX7_leftOf, Cond.selects RX7 yX7_leftOf yX7_leftOf, Cond.code yX7_leftOf cX7_leftOf 3 (some .int), Cond.methodLink RX7 162 yX7_setOf, Cond.instanceMethod yX7_setOf, Cond.selects RX7 yX7_setOf yX7_setOf, Cond.code yX7_setOf cX7_setOf 4 (some .int), Cond.fieldLink RX7 33 "MachineHallModel" "first" "[I", Cond.fieldLink RX7 36 "MachineHallModel" "last" "[I", Cond.methodLink RX7 149 yX7_sizes, Cond.instanceMethod yX7_sizes, Cond.selects RX7 yX7_sizes yX7_sizes, Cond.code yX7_sizes cX7_sizes 4 (some .int), Cond.methodLink RX7 183 yX7_isWay, Cond.instanceMethod yX7_isWay, Cond.selects RX7 yX7_isWay yX7_isWay, Cond.code yX7_isWay cX7_isWay 6 (some .boolean), Cond.fieldLink RX7 78 "MachineHallModel" "before" "[I", Cond.fieldLink RX7 81 "MachineHallModel" "line" "[I", Cond.methodLink RX7 171 yX7_goes, Cond.instanceMethod yX7_goes]
def wsX7_layIn_r3 : List Cond := [Cond.selects RX7 yX7_goes yX7_goes, Cond.code yX7_goes cX7_goes 3 (some .int), Cond.fieldLink RX7 60 "MachineHallModel" "most" "[I", Cond.methodLink RX7 168 yX7_isIn, Cond.instanceMethod yX7_isIn, Cond.selects RX7 yX7_isIn yX7_isIn, Cond.code yX7_isIn cX7_isIn 3 (some .boolean), Cond.fieldLink RX7 54 "MachineHallModel" "from" "[I", Cond.fieldLink RX7 57 "MachineHallModel" "due" "[I", Cond.methodLink RX7 186 yX7_goAlong, Cond.instanceMethod yX7_goAlong, Cond.selects RX7 yX7_goAlong yX7_goAlong, Cond.code yX7_goAlong cX7_goAlong 6 (some .int), Cond.methodLink RX7 174 Lib.Math.min.name, Cond.static Lib.Math.min.name, Cond.initialized "java/lang/Math", Cond.code Lib.Math.min.name Lib.Math.min.code 2 (some .int), Cond.methodLink RX7 179 yX7_moves, Cond.instanceMethod yX7_moves, Cond.selects RX7 yX7_moves yX7_moves, Cond.code yX7_moves cX7_moves 4 none]
def wsX7_layIn : List Cond := .code yX7_layIn cX7_layIn 4 (some .int) :: ((wsX7_layIn_r1 ++ (wsX7_layIn_r2 ++ wsX7_layIn_r3)) ++ wsX70)
def wsX7_rest_r1 : List Cond := [Cond.fieldLink RX7 105 "MachineHallModel" "status" "I", Cond.methodLink RX7 155 yX7_isFall, Cond.static yX7_isFall, Cond.initialized RX7, Cond.code yX7_isFall cX7_isFall 1 (some .boolean), Cond.methodLink RX7 126 yX7_refuse, Cond.instanceMethod yX7_refuse, Cond.selects RX7 yX7_refuse yX7_refuse, Cond.code yX7_refuse cX7_refuse 2 (some .int), Cond.methodLink RX7 190 yX7_layIn, Cond.instanceMethod yX7_layIn, Cond.selects RX7 yX7_layIn yX7_layIn, Cond.code yX7_layIn cX7_layIn 4 (some .int), Cond.fieldLink RX7 66 "MachineHallModel" "has" "[I", Cond.fieldLink RX7 69 "MachineHallModel" "used" "[I", Cond.fieldLink RX7 63 "MachineHallModel" "part" "[I", Cond.fieldLink RX7 75 "MachineHallModel" "stays" "[Z", Cond.fieldLink RX7 143 "MachineHallModel" "batches" "I", Cond.fieldLink RX7 72 "MachineHallModel" "done" "[I", Cond.fieldLink RX7 51 "MachineHallModel" "work" "[I", Cond.methodLink RX7 158 yX7_look, Cond.instanceMethod yX7_look, Cond.selects RX7 yX7_look yX7_look, Cond.code yX7_look cX7_look 7 none]
def wsX7_rest_r2 : List Cond := [Cond.fieldLink RX7 133 "MachineHallModel" "asks" "I", Cond.fieldLink RX7 42 "MachineHallModel" "needs" "[I", Cond.fieldLink RX7 45 "MachineHallModel" "may" "[Z", Cond.fieldLink RX7 30 "MachineHallModel" "need" "[I", Cond.fieldLink RX7 39 "MachineHallModel" "apart" "[I", Cond.fieldLink RX7 48 "MachineHallModel" "can" "[Z", Cond.fieldLink RX7 130 "MachineHallModel" "machines" "I", Cond.fieldLink RX7 20 "MachineHallModel" "size" "[I", Cond.methodLink RX7 139 yX7_stands, Cond.instanceMethod yX7_stands, Cond.selects RX7 yX7_stands yX7_stands, Cond.code yX7_stands cX7_stands 3 (some .boolean), Cond.fieldLink RX7 26 "MachineHallModel" "isUp" "[Z", Cond.fieldLink RX7 23 "MachineHallModel" "room" "[I", Cond.methodLink RX7 165 yX7_leftOf, Cond.instanceMethod yX7_leftOf, Cond.selects RX7 yX7_leftOf yX7_leftOf, Cond.code yX7_leftOf cX7_leftOf 3 (some .int), Cond.methodLink RX7 162 yX7_setOf, Cond.instanceMethod yX7_setOf, Cond.selects RX7 yX7_setOf yX7_setOf, Cond.code yX7_setOf cX7_setOf 4 (some .int), Cond.fieldLink RX7 33 "MachineHallModel" "first" "[I", Cond.fieldLink RX7 36 "MachineHallModel" "last" "[I"]
def wsX7_rest_r3 : List Cond := [Cond.methodLink RX7 149 yX7_sizes, Cond.instanceMethod yX7_sizes, Cond.selects RX7 yX7_sizes yX7_sizes, Cond.code yX7_sizes cX7_sizes 4 (some .int), Cond.methodLink RX7 183 yX7_isWay, Cond.instanceMethod yX7_isWay, Cond.selects RX7 yX7_isWay yX7_isWay, Cond.code yX7_isWay cX7_isWay 6 (some .boolean), Cond.fieldLink RX7 78 "MachineHallModel" "before" "[I", Cond.fieldLink RX7 81 "MachineHallModel" "line" "[I", Cond.methodLink RX7 171 yX7_goes, Cond.instanceMethod yX7_goes, Cond.selects RX7 yX7_goes yX7_goes, Cond.code yX7_goes cX7_goes 3 (some .int), Cond.fieldLink RX7 60 "MachineHallModel" "most" "[I", Cond.methodLink RX7 168 yX7_isIn, Cond.instanceMethod yX7_isIn, Cond.selects RX7 yX7_isIn yX7_isIn, Cond.code yX7_isIn cX7_isIn 3 (some .boolean), Cond.fieldLink RX7 54 "MachineHallModel" "from" "[I", Cond.fieldLink RX7 57 "MachineHallModel" "due" "[I", Cond.methodLink RX7 186 yX7_goAlong, Cond.instanceMethod yX7_goAlong, Cond.selects RX7 yX7_goAlong yX7_goAlong]
def wsX7_rest_r4 : List Cond := [Cond.code yX7_goAlong cX7_goAlong 6 (some .int), Cond.methodLink RX7 174 Lib.Math.min.name, Cond.static Lib.Math.min.name, Cond.initialized "java/lang/Math", Cond.code Lib.Math.min.name Lib.Math.min.code 2 (some .int), Cond.methodLink RX7 179 yX7_moves, Cond.instanceMethod yX7_moves, Cond.selects RX7 yX7_moves yX7_moves, Cond.code yX7_moves cX7_moves 4 none]
def wsX7_rest : List Cond := .code yX7_rest cX7_rest 2 (some .int) :: ((wsX7_rest_r1 ++ (wsX7_rest_r2 ++ (wsX7_rest_r3 ++ wsX7_rest_r4))) ++ wsX70)
def wsX7_part_r1 : List Cond := [Cond.fieldLink RX7 143 "MachineHallModel" "batches" "I", Cond.fieldLink RX7 105 "MachineHallModel" "status" "I", Cond.fieldLink RX7 54 "MachineHallModel" "from" "[I", Cond.fieldLink RX7 57 "MachineHallModel" "due" "[I", Cond.fieldLink RX7 75 "MachineHallModel" "stays" "[Z", Cond.fieldLink RX7 63 "MachineHallModel" "part" "[I", Cond.fieldLink RX7 60 "MachineHallModel" "most" "[I", Cond.methodLink RX7 155 yX7_isFall, Cond.static yX7_isFall, Cond.initialized RX7, Cond.code yX7_isFall cX7_isFall 1 (some .boolean), Cond.methodLink RX7 152 yX7_isHour, Cond.static yX7_isHour, Cond.code yX7_isHour cX7_isHour 1 (some .boolean), Cond.methodLink RX7 126 yX7_refuse, Cond.instanceMethod yX7_refuse, Cond.selects RX7 yX7_refuse yX7_refuse, Cond.code yX7_refuse cX7_refuse 2 (some .int), Cond.methodLink RX7 190 yX7_layIn, Cond.instanceMethod yX7_layIn, Cond.selects RX7 yX7_layIn yX7_layIn, Cond.code yX7_layIn cX7_layIn 4 (some .int), Cond.fieldLink RX7 66 "MachineHallModel" "has" "[I", Cond.fieldLink RX7 69 "MachineHallModel" "used" "[I"]
def wsX7_part_r2 : List Cond := [Cond.fieldLink RX7 72 "MachineHallModel" "done" "[I", Cond.fieldLink RX7 51 "MachineHallModel" "work" "[I", Cond.methodLink RX7 158 yX7_look, Cond.instanceMethod yX7_look, Cond.selects RX7 yX7_look yX7_look, Cond.code yX7_look cX7_look 7 none, Cond.fieldLink RX7 133 "MachineHallModel" "asks" "I", Cond.fieldLink RX7 42 "MachineHallModel" "needs" "[I", Cond.fieldLink RX7 45 "MachineHallModel" "may" "[Z", Cond.fieldLink RX7 30 "MachineHallModel" "need" "[I", Cond.fieldLink RX7 39 "MachineHallModel" "apart" "[I", Cond.fieldLink RX7 48 "MachineHallModel" "can" "[Z", Cond.fieldLink RX7 130 "MachineHallModel" "machines" "I", Cond.fieldLink RX7 20 "MachineHallModel" "size" "[I", Cond.methodLink RX7 139 yX7_stands, Cond.instanceMethod yX7_stands, Cond.selects RX7 yX7_stands yX7_stands, Cond.code yX7_stands cX7_stands 3 (some .boolean), Cond.fieldLink RX7 26 "MachineHallModel" "isUp" "[Z", Cond.fieldLink RX7 23 "MachineHallModel" "room" "[I", Cond.methodLink RX7 165 yX7_leftOf, Cond.instanceMethod yX7_leftOf, Cond.selects RX7 yX7_leftOf yX7_leftOf, Cond.code yX7_leftOf cX7_leftOf 3 (some .int)]
def wsX7_part_r3 : List Cond := [Cond.methodLink RX7 162 yX7_setOf, Cond.instanceMethod yX7_setOf, Cond.selects RX7 yX7_setOf yX7_setOf, Cond.code yX7_setOf cX7_setOf 4 (some .int), Cond.fieldLink RX7 33 "MachineHallModel" "first" "[I", Cond.fieldLink RX7 36 "MachineHallModel" "last" "[I", Cond.methodLink RX7 149 yX7_sizes, Cond.instanceMethod yX7_sizes, Cond.selects RX7 yX7_sizes yX7_sizes, Cond.code yX7_sizes cX7_sizes 4 (some .int), Cond.methodLink RX7 183 yX7_isWay, Cond.instanceMethod yX7_isWay, Cond.selects RX7 yX7_isWay yX7_isWay, Cond.code yX7_isWay cX7_isWay 6 (some .boolean), Cond.fieldLink RX7 78 "MachineHallModel" "before" "[I", Cond.fieldLink RX7 81 "MachineHallModel" "line" "[I", Cond.methodLink RX7 171 yX7_goes, Cond.instanceMethod yX7_goes, Cond.selects RX7 yX7_goes yX7_goes, Cond.code yX7_goes cX7_goes 3 (some .int), Cond.methodLink RX7 168 yX7_isIn, Cond.instanceMethod yX7_isIn, Cond.selects RX7 yX7_isIn yX7_isIn, Cond.code yX7_isIn cX7_isIn 3 (some .boolean)]
def wsX7_part_r4 : List Cond := [Cond.methodLink RX7 186 yX7_goAlong, Cond.instanceMethod yX7_goAlong, Cond.selects RX7 yX7_goAlong yX7_goAlong, Cond.code yX7_goAlong cX7_goAlong 6 (some .int), Cond.methodLink RX7 174 Lib.Math.min.name, Cond.static Lib.Math.min.name, Cond.initialized "java/lang/Math", Cond.code Lib.Math.min.name Lib.Math.min.code 2 (some .int), Cond.methodLink RX7 179 yX7_moves, Cond.instanceMethod yX7_moves, Cond.selects RX7 yX7_moves yX7_moves, Cond.code yX7_moves cX7_moves 4 none]
def wsX7_part : List Cond := .code yX7_part cX7_part 8 (some .int) :: ((wsX7_part_r1 ++ (wsX7_part_r2 ++ (wsX7_part_r3 ++ wsX7_part_r4))) ++ wsX70)
def wsX7_step : List Cond := .code yX7_step cX7_step 9 none :: ([.fieldLink RX7 193 "MachineHallModel" "greatest" "I", .fieldLink RX7 196 "MachineHallModel" "together" "I", .fieldLink RX7 199 "MachineHallModel" "comes" "I", .fieldLink RX7 202 "MachineHallModel" "waiting" "I", .fieldLink RX7 205 "MachineHallModel" "end" "I", .fieldLink RX7 84 "MachineHallModel" "free" "[I", .fieldLink RX7 16 "MachineHallModel" "sheets" "[J", .methodLink RX7 208 Lib.Math.max.name, .static Lib.Math.max.name, .initialized "java/lang/Math", .code Lib.Math.max.name Lib.Math.max.code 2 (some .int)] ++ wsX70)
def wsX7_line_r1 : List Cond := [Cond.constantLong RX7 211 (100), Cond.fieldLink RX7 105 "MachineHallModel" "status" "I", Cond.fieldLink RX7 193 "MachineHallModel" "greatest" "I", Cond.fieldLink RX7 196 "MachineHallModel" "together" "I", Cond.fieldLink RX7 199 "MachineHallModel" "comes" "I", Cond.fieldLink RX7 202 "MachineHallModel" "waiting" "I", Cond.fieldLink RX7 205 "MachineHallModel" "end" "I", Cond.methodLink RX7 213 yX7_wrongNumbers, Cond.instanceMethod yX7_wrongNumbers, Cond.selects RX7 yX7_wrongNumbers yX7_wrongNumbers, Cond.initialized RX7, Cond.code yX7_wrongNumbers cX7_wrongNumbers 6 (some .int), Cond.fieldLink RX7 13 "MachineHallModel" "many" "[I", Cond.fieldLink RX7 16 "MachineHallModel" "sheets" "[J", Cond.methodLink RX7 109 yX7_isSheet, Cond.static yX7_isSheet, Cond.code yX7_isSheet cX7_isSheet 1 (some .boolean), Cond.methodLink RX7 126 yX7_refuse, Cond.instanceMethod yX7_refuse, Cond.selects RX7 yX7_refuse yX7_refuse, Cond.code yX7_refuse cX7_refuse 2 (some .int), Cond.methodLink RX7 217 yX7_step, Cond.instanceMethod yX7_step, Cond.selects RX7 yX7_step yX7_step]
def wsX7_line_r2 : List Cond := [Cond.code yX7_step cX7_step 9 none, Cond.fieldLink RX7 84 "MachineHallModel" "free" "[I", Cond.methodLink RX7 208 Lib.Math.max.name, Cond.static Lib.Math.max.name, Cond.initialized "java/lang/Math", Cond.code Lib.Math.max.name Lib.Math.max.code 2 (some .int)]
def wsX7_line : List Cond := .code yX7_line cX7_line 7 (some .int) :: ((wsX7_line_r1 ++ wsX7_line_r2) ++ wsX70)
def wsX7_hands_r1 : List Cond := [Cond.constantLong RX7 211 (100), Cond.fieldLink RX7 105 "MachineHallModel" "status" "I", Cond.fieldLink RX7 193 "MachineHallModel" "greatest" "I", Cond.methodLink RX7 213 yX7_wrongNumbers, Cond.instanceMethod yX7_wrongNumbers, Cond.selects RX7 yX7_wrongNumbers yX7_wrongNumbers, Cond.initialized RX7, Cond.code yX7_wrongNumbers cX7_wrongNumbers 6 (some .int), Cond.fieldLink RX7 13 "MachineHallModel" "many" "[I", Cond.fieldLink RX7 16 "MachineHallModel" "sheets" "[J", Cond.methodLink RX7 109 yX7_isSheet, Cond.static yX7_isSheet, Cond.code yX7_isSheet cX7_isSheet 1 (some .boolean), Cond.methodLink RX7 126 yX7_refuse, Cond.instanceMethod yX7_refuse, Cond.selects RX7 yX7_refuse yX7_refuse, Cond.code yX7_refuse cX7_refuse 2 (some .int), Cond.methodLink RX7 217 yX7_step, Cond.instanceMethod yX7_step, Cond.selects RX7 yX7_step yX7_step, Cond.code yX7_step cX7_step 9 none, Cond.fieldLink RX7 196 "MachineHallModel" "together" "I", Cond.fieldLink RX7 199 "MachineHallModel" "comes" "I", Cond.fieldLink RX7 202 "MachineHallModel" "waiting" "I"]
def wsX7_hands_r2 : List Cond := [Cond.fieldLink RX7 205 "MachineHallModel" "end" "I", Cond.fieldLink RX7 84 "MachineHallModel" "free" "[I", Cond.methodLink RX7 208 Lib.Math.max.name, Cond.static Lib.Math.max.name, Cond.initialized "java/lang/Math", Cond.code Lib.Math.max.name Lib.Math.max.code 2 (some .int)]
def wsX7_hands : List Cond := .code yX7_hands cX7_hands 7 (some .int) :: ((wsX7_hands_r1 ++ wsX7_hands_r2) ++ wsX70)
def wsX7_wanted : List Cond := .code yX7_wanted cX7_wanted 4 (some .boolean) :: ([.constantLong RX7 221 (500), .fieldLink RX7 87 "MachineHallModel" "wanted" "[I", .fieldLink RX7 16 "MachineHallModel" "sheets" "[J", .methodLink RX7 213 yX7_wrongNumbers, .instanceMethod yX7_wrongNumbers, .selects RX7 yX7_wrongNumbers yX7_wrongNumbers, .initialized RX7, .code yX7_wrongNumbers cX7_wrongNumbers 6 (some .int), .fieldLink RX7 13 "MachineHallModel" "many" "[I", .methodLink RX7 109 yX7_isSheet, .static yX7_isSheet, .code yX7_isSheet cX7_isSheet 1 (some .boolean), .methodLink RX7 113 yX7_is, .instanceMethod yX7_is, .selects RX7 yX7_is yX7_is, .code yX7_is cX7_is 2 (some .boolean), .fieldLink RX7 105 "MachineHallModel" "status" "I"] ++ wsX70)
def wsX7_have : List Cond := .code yX7_have cX7_have 2 (some .boolean) :: ([.fieldLink RX7 223 "MachineHallModel" "have" "I", .methodLink RX7 113 yX7_is, .instanceMethod yX7_is, .selects RX7 yX7_is yX7_is, .initialized RX7, .code yX7_is cX7_is 2 (some .boolean), .fieldLink RX7 105 "MachineHallModel" "status" "I"] ++ wsX70)
def wsX7_type : List Cond := .code yX7_type cX7_type 7 (some .int) :: ([.constantLong RX7 226 (100000), .fieldLink RX7 146 "MachineHallModel" "types" "I", .fieldLink RX7 90 "MachineHallModel" "typeSize" "[I", .fieldLink RX7 93 "MachineHallModel" "lead" "[I", .fieldLink RX7 96 "MachineHallModel" "power" "[I", .fieldLink RX7 99 "MachineHallModel" "price" "[I", .fieldLink RX7 16 "MachineHallModel" "sheets" "[J", .fieldLink RX7 105 "MachineHallModel" "status" "I", .methodLink RX7 213 yX7_wrongNumbers, .instanceMethod yX7_wrongNumbers, .selects RX7 yX7_wrongNumbers yX7_wrongNumbers, .initialized RX7, .code yX7_wrongNumbers cX7_wrongNumbers 6 (some .int), .fieldLink RX7 13 "MachineHallModel" "many" "[I", .methodLink RX7 109 yX7_isSheet, .static yX7_isSheet, .code yX7_isSheet cX7_isSheet 1 (some .boolean), .methodLink RX7 126 yX7_refuse, .instanceMethod yX7_refuse, .selects RX7 yX7_refuse yX7_refuse, .code yX7_refuse cX7_refuse 2 (some .int)] ++ wsX70)
def wsX7_at : List Cond := .code yX7_at cX7_at 3 (some .int) :: ([])
def wsX7_takes : List Cond := .code yX7_takes cX7_takes 3 (some .int) :: ([.fieldLink RX7 99 "MachineHallModel" "price" "[I", .fieldLink RX7 93 "MachineHallModel" "lead" "[I", .fieldLink RX7 96 "MachineHallModel" "power" "[I"] ++ wsX70)
def wsX7_reckon : List Cond := .code yX7_reckon cX7_reckon 6 none :: ([.fieldLink RX7 102 "MachineHallModel" "least" "[I", .fieldLink RX7 87 "MachineHallModel" "wanted" "[I", .constant RX7 231 (2000000000), .fieldLink RX7 146 "MachineHallModel" "types" "I", .fieldLink RX7 93 "MachineHallModel" "lead" "[I", .fieldLink RX7 90 "MachineHallModel" "typeSize" "[I", .methodLink RX7 174 Lib.Math.min.name, .static Lib.Math.min.name, .initialized "java/lang/Math", .code Lib.Math.min.name Lib.Math.min.code 2 (some .int), .methodLink RX7 228 yX7_at, .static yX7_at, .initialized RX7, .code yX7_at cX7_at 3 (some .int), .methodLink RX7 232 yX7_takes, .instanceMethod yX7_takes, .selects RX7 yX7_takes yX7_takes, .code yX7_takes cX7_takes 3 (some .int), .fieldLink RX7 99 "MachineHallModel" "price" "[I", .fieldLink RX7 96 "MachineHallModel" "power" "[I"] ++ wsX70)
def wsX7_cheapest_r1 : List Cond := [Cond.fieldLink RX7 102 "MachineHallModel" "least" "[I", Cond.fieldLink RX7 223 "MachineHallModel" "have" "I", Cond.constant RX7 231 (2000000000), Cond.fieldLink RX7 105 "MachineHallModel" "status" "I", Cond.methodLink RX7 235 yX7_reckon, Cond.instanceMethod yX7_reckon, Cond.selects RX7 yX7_reckon yX7_reckon, Cond.initialized RX7, Cond.code yX7_reckon cX7_reckon 6 none, Cond.fieldLink RX7 87 "MachineHallModel" "wanted" "[I", Cond.fieldLink RX7 146 "MachineHallModel" "types" "I", Cond.fieldLink RX7 93 "MachineHallModel" "lead" "[I", Cond.fieldLink RX7 90 "MachineHallModel" "typeSize" "[I", Cond.methodLink RX7 174 Lib.Math.min.name, Cond.static Lib.Math.min.name, Cond.initialized "java/lang/Math", Cond.code Lib.Math.min.name Lib.Math.min.code 2 (some .int), Cond.methodLink RX7 228 yX7_at, Cond.static yX7_at, Cond.code yX7_at cX7_at 3 (some .int), Cond.methodLink RX7 232 yX7_takes, Cond.instanceMethod yX7_takes, Cond.selects RX7 yX7_takes yX7_takes, Cond.code yX7_takes cX7_takes 3 (some .int)]
def wsX7_cheapest_r2 : List Cond := [Cond.fieldLink RX7 99 "MachineHallModel" "price" "[I", Cond.fieldLink RX7 96 "MachineHallModel" "power" "[I", Cond.methodLink RX7 126 yX7_refuse, Cond.instanceMethod yX7_refuse, Cond.selects RX7 yX7_refuse yX7_refuse, Cond.code yX7_refuse cX7_refuse 2 (some .int)]
def wsX7_cheapest : List Cond := .code yX7_cheapest cX7_cheapest 2 (some .int) :: ((wsX7_cheapest_r1 ++ wsX7_cheapest_r2) ++ wsX70)
def wsX7_buys_r1 : List Cond := [Cond.fieldLink RX7 146 "MachineHallModel" "types" "I", Cond.fieldLink RX7 102 "MachineHallModel" "least" "[I", Cond.fieldLink RX7 223 "MachineHallModel" "have" "I", Cond.constant RX7 231 (2000000000), Cond.fieldLink RX7 105 "MachineHallModel" "status" "I", Cond.fieldLink RX7 87 "MachineHallModel" "wanted" "[I", Cond.fieldLink RX7 90 "MachineHallModel" "typeSize" "[I", Cond.methodLink RX7 174 Lib.Math.min.name, Cond.static Lib.Math.min.name, Cond.initialized "java/lang/Math", Cond.code Lib.Math.min.name Lib.Math.min.code 2 (some .int), Cond.methodLink RX7 126 yX7_refuse, Cond.instanceMethod yX7_refuse, Cond.selects RX7 yX7_refuse yX7_refuse, Cond.initialized RX7, Cond.code yX7_refuse cX7_refuse 2 (some .int), Cond.methodLink RX7 235 yX7_reckon, Cond.instanceMethod yX7_reckon, Cond.selects RX7 yX7_reckon yX7_reckon, Cond.code yX7_reckon cX7_reckon 6 none, Cond.fieldLink RX7 93 "MachineHallModel" "lead" "[I", Cond.methodLink RX7 228 yX7_at, Cond.static yX7_at, Cond.code yX7_at cX7_at 3 (some .int)]
def wsX7_buys_r2 : List Cond := [Cond.methodLink RX7 232 yX7_takes, Cond.instanceMethod yX7_takes, Cond.selects RX7 yX7_takes yX7_takes, Cond.code yX7_takes cX7_takes 3 (some .int), Cond.fieldLink RX7 99 "MachineHallModel" "price" "[I", Cond.fieldLink RX7 96 "MachineHallModel" "power" "[I"]
def wsX7_buys : List Cond := .code yX7_buys cX7_buys 7 (some .int) :: ((wsX7_buys_r1 ++ wsX7_buys_r2) ++ wsX70)
def wsJ9_max_7cf53 : List Cond := .code yJ9_max_7cf53 cJ9_max_7cf53 2 (some .int) :: ([])
def wsJ9_min_7cf53 : List Cond := .code yJ9_min_7cf53 cJ9_min_7cf53 2 (some .int) :: ([])
abbrev vwCl : List vw_C := [(RX0, TX0, 4), (RX1, TX1, 13), (RX2, TX2, 12), (RX3, TX3, 9), (RX4, TX4, 3), (RX5, TX5, 6), (RX6, TX6, 6), (RX7, TX7, 42)]
end
section
/-! MEMORY: cell k at place j holds an int (or a boolean) M.1 k j, or a long M.2 k j; an object's int field is a place of its cell -/
abbrev Mem : Type := (Nat → Nat → Int32) × (Nat → Nat → Int64)
abbrev LayC : Type := Nat × Nat × Nat × List (Option Nat)
abbrev Lay : Type := List LayC
def sA (M : Mem) (k j : Nat) (v : Int32) : Mem := (fun k' => if k' = k then upd (M.1 k) j v else M.1 k', M.2)
def sB (M : Mem) (k j : Nat) (v : Int64) : Mem := (M.1, fun k' => if k' = k then vp_updL (M.2 k) j v else M.2 k')
def sAr (M : Mem) (k : Nat) (f : Nat → Int32) : Mem := (fun k' => if k' = k then f else M.1 k', M.2)
def sBr (M : Mem) (k : Nat) (f : Nat → Int64) : Mem := (M.1, fun k' => if k' = k then f else M.2 k')
def jmax (x y : Int32) : Int32 := if x < y then y else x
def jmin (x y : Int32) : Int32 := if y < x then y else x
def jushrL (x : Int64) (y : Int32) : Int64 := (x.toUInt64 >>> (y.toInt64.toUInt64 &&& Int64.toUInt64 63)).toInt64
def jshlL (x : Int64) (y : Int32) : Int64 := x <<< (y.toInt64 &&& 63)
def zb (v : Int32) : Prop := narrow .boolean (.int v) = .int v
/-! THE WORLD of a layout: kinds 0 object (class, -, slots), 1 int[], 2 boolean[], 3 long[] (length), 4 int[][], 5 long[][] (length, first row's cell) -/
def slotV (σ : Nat → Nat) (f : Nat → Int32) (sl : List (Option Nat)) (j : Nat) : Value := match sl[j]? with
  | some (some r) => .ref (σ r)
  | _ => .int (f j)
def flds (σ : Nat → Nat) (f : Nat → Int32) (sl : List (Option Nat)) : List Value := (List.range sl.length).map (slotV σ f sl)
def cellOf (T : Nat → ClassId) (σ : Nat → Nat) (M : Mem) (k : Nat) (c : LayC) : va_E :=
  if c.1 = 0 then .inr (c.2.1, flds σ (M.1 k) c.2.2.2)
  else if c.1 = 1 then .inl (T 1, c.2.1, .inl (M.1 k))
  else if c.1 = 2 then .inl (T 2, c.2.1, .inl (M.1 k))
  else if c.1 = 3 then .inl (T 3, c.2.1, .inr (.inl (M.2 k)))
  else .inl (T c.1, c.2.1, .inr (.inr (.inr (.inr (fun i => if i < c.2.1 then some (σ (c.2.2.1 + i)) else none)))))
def tyT (T : Nat → ClassId) : List (ClassId × FieldType) := [(T 1, .int), (T 2, .boolean), (T 3, .long), (T 4, .array .int), (T 5, .array .long)]
def wd (T : Nat → ClassId) (L : Lay) (σ : Nat → Nat) (M : Mem) : va_W := (List.range L.length).map (fun k => (σ k, cellOf T σ M k (L.getD k (0, 0, 0, []))))
theorem wd_len {T : Nat → ClassId} {σ : Nat → Nat} {L : Lay} {M : Mem} : (wd T L σ M).length = L.length := by simp [wd]
theorem wd_get {T : Nat → ClassId} {σ : Nat → Nat} {L : Lay} {M : Mem} {k : Nat} {c : LayC} (h : L[k]? = some c) : (wd T L σ M)[k]? = some (σ k, cellOf T σ M k c) := by
  have hk : k < L.length := (List.getElem?_eq_some_iff.mp h).1
  unfold wd
  rw [List.getElem?_map, List.getElem?_range hk]
  simp [List.getD_eq_getElem?_getD, h]
theorem wd_in {T : Nat → ClassId} {σ : Nat → Nat} {L : Lay} {M : Mem} {k : Nat} {q : Nat × va_E} (h : (wd T L σ M)[k]? = some q) : k < L.length ∧ q.1 = σ k := by
  have hk : k < L.length := by
    have := (List.getElem?_eq_some_iff.mp h).1
    rwa [wd_len] at this
  unfold wd at h
  rw [List.getElem?_map, List.getElem?_range hk] at h
  cases h
  exact ⟨hk, rfl⟩
theorem cellOf_congr {T : Nat → ClassId} {σ : Nat → Nat} {M M' : Mem} {k : Nat} {c : LayC} (h1 : M'.1 k = M.1 k) (h2 : M'.2 k = M.2 k) : cellOf T σ M' k c = cellOf T σ M k c := by
  unfold cellOf
  rw [h1, h2]
theorem wd_set {T : Nat → ClassId} {σ : Nat → Nat} {L : Lay} {M M' : Mem} {k : Nat} {c : LayC} {e : va_E} (h : L[k]? = some c) (h1 : ∀ k', k' ≠ k → M'.1 k' = M.1 k') (h2 : ∀ k', k' ≠ k → M'.2 k' = M.2 k') (he : cellOf T σ M' k c = e) : (wd T L σ M).set k (σ k, e) = wd T L σ M' := by
  have hk : k < L.length := (List.getElem?_eq_some_iff.mp h).1
  apply List.ext_getElem?
  intro j
  by_cases hj : j = k
  · subst hj
    rw [List.getElem?_set_self (by rw [wd_len]; exact hk), wd_get h, he]
  · rw [List.getElem?_set_ne (Ne.symm hj)]
    unfold wd
    rw [List.getElem?_map, List.getElem?_map]
    by_cases hl : j < L.length
    · rw [List.getElem?_range hl]
      simp only [Option.map_some]
      rw [cellOf_congr (h1 j hj) (h2 j hj)]
    · rw [List.getElem?_eq_none (by rw [List.length_range]; omega)]
      rfl
theorem wd_D {A : Nat → Prop} {T : Nat → ClassId} {σ : Nat → Nat} {L : Lay} {M M' : Mem} (h : va_D A (wd T L σ M)) : va_D A (wd T L σ M') := by
  have key : ∀ (k : Nat) (q : Nat × va_E), (wd T L σ M')[k]? = some q → ∃ q0, (wd T L σ M)[k]? = some q0 ∧ q0.1 = q.1 := by
    intro k q hq
    obtain ⟨hk, hq1⟩ := wd_in hq
    have hc : L[k]? = some L[k] := List.getElem?_eq_getElem hk
    exact ⟨_, wd_get hc, hq1.symm⟩
  refine ⟨fun i j x y hi hj hxy => ?_, fun k q hk => ?_⟩
  · obtain ⟨x0, h1, h2⟩ := key i x hi
    obtain ⟨y0, h3, h4⟩ := key j y hj
    exact h.1 i j x0 y0 h1 h3 (h2.trans (hxy.trans h4.symm))
  · obtain ⟨q0, h1, h2⟩ := key k q hk
    rw [← h2]
    exact h.2 k q0 h1
theorem flds_get {σ : Nat → Nat} {f : Nat → Int32} {sl : List (Option Nat)} {j : Nat} (h : j < sl.length) : (flds σ f sl)[j]? = some (slotV σ f sl j) := by
  unfold flds
  rw [List.getElem?_map, List.getElem?_range h]
  rfl
theorem flds_len {σ : Nat → Nat} {f : Nat → Int32} {sl : List (Option Nat)} : (flds σ f sl).length = sl.length := by simp [flds]
theorem slotV_i {σ : Nat → Nat} {f : Nat → Int32} {sl : List (Option Nat)} {j : Nat} (h : sl[j]? = some none) : slotV σ f sl j = .int (f j) := by
  unfold slotV
  rw [h]
theorem slotV_r {σ : Nat → Nat} {f : Nat → Int32} {sl : List (Option Nat)} {j r : Nat} (h : sl[j]? = some (some r)) : slotV σ f sl j = .ref (σ r) := by
  unfold slotV
  rw [h]
theorem flds_set {σ : Nat → Nat} {f : Nat → Int32} {sl : List (Option Nat)} {j : Nat} {v : Int32} (h : sl[j]? = some none) : flds σ (upd f j v) sl = (flds σ f sl).set j (.int v) := by
  have hj : j < sl.length := (List.getElem?_eq_some_iff.mp h).1
  apply List.ext_getElem?
  intro i
  by_cases hi : i = j
  · subst hi
    rw [List.getElem?_set_self (by rw [flds_len]; exact hj), flds_get hj, slotV_i h]
    simp [upd]
  · rw [List.getElem?_set_ne (Ne.symm hi)]
    unfold flds
    rw [List.getElem?_map, List.getElem?_map]
    by_cases hl : i < sl.length
    · rw [List.getElem?_range hl]
      simp only [Option.map_some]
      have e : slotV σ (upd f j v) sl i = slotV σ f sl i := by simp only [slotV, upd, if_neg hi]
      rw [e]
    · rw [List.getElem?_eq_none (by rw [List.length_range]; omega)]
      rfl
theorem sA_1 {M : Mem} {k j : Nat} {v : Int32} (k' : Nat) (h : k' ≠ k) : (sA M k j v).1 k' = M.1 k' := if_neg h
theorem sA_s {M : Mem} {k j : Nat} {v : Int32} : (sA M k j v).1 k = upd (M.1 k) j v := if_pos rfl
theorem sB_s {M : Mem} {k j : Nat} {v : Int64} : (sB M k j v).2 k = vp_updL (M.2 k) j v := if_pos rfl
theorem sB_1 {M : Mem} {k j : Nat} {v : Int64} (k' : Nat) (h : k' ≠ k) : (sB M k j v).2 k' = M.2 k' := if_neg h

theorem cell_o {T : Nat → ClassId} {σ : Nat → Nat} {M : Mem} {k ci b : Nat} {sl : List (Option Nat)} : cellOf T σ M k (0, ci, b, sl) = .inr (ci, flds σ (M.1 k) sl) := by simp [cellOf]
theorem cell_i {T : Nat → ClassId} {σ : Nat → Nat} {M : Mem} {k n b : Nat} {sl : List (Option Nat)} : cellOf T σ M k (1, n, b, sl) = .inl (T 1, n, .inl (M.1 k)) := by simp [cellOf]
theorem cell_z {T : Nat → ClassId} {σ : Nat → Nat} {M : Mem} {k n b : Nat} {sl : List (Option Nat)} : cellOf T σ M k (2, n, b, sl) = .inl (T 2, n, .inl (M.1 k)) := by simp [cellOf]
theorem cell_l {T : Nat → ClassId} {σ : Nat → Nat} {M : Mem} {k n b : Nat} {sl : List (Option Nat)} : cellOf T σ M k (3, n, b, sl) = .inl (T 3, n, .inr (.inl (M.2 k))) := by simp [cellOf]
theorem cell_q {T : Nat → ClassId} {σ : Nat → Nat} {M : Mem} {k t n b : Nat} {sl : List (Option Nat)} : cellOf T σ M k (t + 4, n, b, sl) = .inl (T (t + 4), n, .inr (.inr (.inr (.inr (fun i => if i < n then some (σ (b + i)) else none))))) := by
  unfold cellOf
  rw [if_neg (show ¬ t + 4 = 0 by omega), if_neg (show ¬ t + 4 = 1 by omega), if_neg (show ¬ t + 4 = 2 by omega), if_neg (show ¬ t + 4 = 3 by omega)]
theorem vp_lt {x : Int32} {n : Nat} (h : vp_in x n) : x.toNatClampNeg < n := Nat.not_le.mp fun q => h (Or.inr q)
/-- the four links of nest mates -/
def NW (U : State) : Prop := va_Nw (.methodLinkNest RX4 29 yX6_within RX6) U ∧ va_Nw (.methodLinkNest RX1 44 yX6_within RX6) U ∧ va_Nw (.methodLinkNest RX3 45 yX6_within RX6) U ∧ va_Nw (.methodLinkNest RX2 43 yX6_within RX6) U
theorem NW.same {u U : State} (h : u.vm = U.vm) (hN : NW u) : NW U := ⟨va_Nw.same rfl h hN.1, va_Nw.same rfl h hN.2.1, va_Nw.same rfl h hN.2.2.1, va_Nw.same rfl h hN.2.2.2⟩
theorem NW.warm {s U : State} (h : s.WarmedH U.vm) (hN : NW s) : NW U := ⟨va_Nw.warmM h hN.1, va_Nw.warmM h hN.2.1, va_Nw.warmM h hN.2.2.1, va_Nw.warmM h hN.2.2.2⟩
/-- the world stands in the heap H, and since H0 nothing outside A has changed -/
def Wd (D : va_G) (T : Nat → ClassId) (L : Lay) (σ : Nat → Nat) (M : Mem) (A : Nat → Prop) (s : State) (H0 H : Heap) (locs : List Loc) : Prop :=
  va_K D vwCl (tyT T) s ∧ va_P D vwCl (wd T L σ M) H ∧ va_D A (wd T L σ M) ∧ va_S A H0 H locs ∧ NW s
def fA (L : Lay) (σ : Nat → Nat) : Nat → Prop := fun q => ∃ k, k < L.length ∧ q = σ k
def preW (D : va_G) (T : Nat → ClassId) (L : Lay) (σ : Nat → Nat) (av : List Value) (M : Mem) : Array Value → State → Prop :=
  va_Pc av (fun U => va_P D vwCl (wd T L σ M) U.heap ∧ va_K D vwCl (tyT T) U ∧ va_D (fun _ => True) (wd T L σ M) ∧ NW U)
def endW (D : va_G) (T : Nat → ClassId) (L : Lay) (σ : Nat → Nat) : Mem → State → Prop := fun M t => va_P D vwCl (wd T L σ M) t.heap ∧ va_K D vwCl (tyT T) t
abbrev postI (D : va_G) (T : Nat → ClassId) (L : Lay) (σ : Nat → Nat) (post : Int32 → Mem → Prop) := va_Qi post (endW D T L σ) (fA L σ)
abbrev postL (D : va_G) (T : Nat → ClassId) (L : Lay) (σ : Nat → Nat) (post : Int64 → Mem → Prop) := va_Ql post (endW D T L σ) (fA L σ)
abbrev postV (D : va_G) (T : Nat → ClassId) (L : Lay) (σ : Nat → Nat) (post : Mem → Prop) := va_Qv post (endW D T L σ) (fA L σ)
theorem preW_blind {D : va_G} {T : Nat → ClassId} {L : Lay} {σ : Nat → Nat} {av : List Value} {M : Mem} : FrameBlind (preW D T L σ av M) := fun a U g mk q => by
  obtain ⟨q0, qP, qK, qD, qN⟩ := q
  exact ⟨q0, qP, va_K.moved (u := U) (U := U.calling g mk a) (Vm.Alike.refl U.vm) qK, qD, NW.same (U := U.calling g mk a) rfl qN⟩
theorem fA_in {A : Nat → Prop} {T : Nat → ClassId} {L : Lay} {σ : Nat → Nat} {M : Mem} (h : va_D A (wd T L σ M)) (q : Nat) (hq : fA L σ q) : A q := by
  obtain ⟨k, hk, rfl⟩ := hq
  exact h.2 k _ (wd_get (List.getElem?_eq_getElem hk))
theorem fA_self {A : Nat → Prop} {T : Nat → ClassId} {L : Lay} {σ : Nat → Nat} {M : Mem} (h : va_D A (wd T L σ M)) : va_D (fA L σ) (wd T L σ M) := ⟨h.1, fun k q hq => ⟨k, (wd_in hq).1, (wd_in hq).2⟩⟩
section RR
variable {p : Program} {l : Launch} {e : Env} {R : Room} {s : State} {m : MethodId} {args : Array Value} {below : List Frame} {meth : Method} {c : Code} {H H0 : Heap} {locs : List Loc} {cells slots : Nat} {Q : State → Prop}
variable {cc : ByteArray} {pc nL : Nat} {ls : Array Slot} {rest st : List Value} {own : String} {Ts : List Cond} {D : va_G} {T : Nat → ClassId} {L : Lay} {σ : Nat → Nat} {M : Mem} {A : Nat → Prop}
theorem r_getI (S : CallFix p m c cc nL s args Ts own) (hW : Wd D T L σ M A s H0 H locs) {C : String} {TX : u_T} {N ci k j b index : Nat} {sl : List (Option Nat)} (hin : ∀ w ∈ u_ws C TX N, w ∈ Ts) (hc : vwCl[ci]? = some (C, TX, N)) (hlink : (Cond.fieldLink own index C (TX j).2.1 (TX j).2.2.1).before args s = true) (hr : (TX j).1 = C) (hk : L[k]? = some (0, ci, b, sl)) (hj : j < N) (hs : sl[j]? = some none) (hdg : decode cc pc = .ok (.getfield index, 3))
    (kk : W p l e R s m args below meth c H locs cells slots Q (F0 m (pc + 3) ls (.int (M.1 k j) :: rest))) : W p l e R s m args below meth c H locs cells slots Q (F0 m pc ls (.ref (σ k) :: rest)) := by
  obtain ⟨hK, hP, hD, hS, hN⟩ := hW
  exact va_get (v := .int (M.1 k j)) S.1 S.2.1 S.2.2.2.2 hin S.2.2.2.1 hK hP k (by rw [← cell_o]; exact wd_get hk) hc j hj hlink (fun x h => by rw [← hr]; exact h) (by rw [flds_get (List.getElem?_eq_some_iff.mp hs).1, slotV_i hs]) hdg kk
theorem r_getR (S : CallFix p m c cc nL s args Ts own) (hW : Wd D T L σ M A s H0 H locs) {C : String} {TX : u_T} {N ci k j b r index : Nat} {sl : List (Option Nat)} (hin : ∀ w ∈ u_ws C TX N, w ∈ Ts) (hc : vwCl[ci]? = some (C, TX, N)) (hlink : (Cond.fieldLink own index C (TX j).2.1 (TX j).2.2.1).before args s = true) (hr : (TX j).1 = C) (hk : L[k]? = some (0, ci, b, sl)) (hj : j < N) (hs : sl[j]? = some (some r)) (hdg : decode cc pc = .ok (.getfield index, 3))
    (kk : W p l e R s m args below meth c H locs cells slots Q (F0 m (pc + 3) ls (.ref (σ r) :: rest))) : W p l e R s m args below meth c H locs cells slots Q (F0 m pc ls (.ref (σ k) :: rest)) := by
  obtain ⟨hK, hP, hD, hS, hN⟩ := hW
  exact va_get (v := .ref (σ r)) S.1 S.2.1 S.2.2.2.2 hin S.2.2.2.1 hK hP k (by rw [← cell_o]; exact wd_get hk) hc j hj hlink (fun x h => by rw [← hr]; exact h) (by rw [flds_get (List.getElem?_eq_some_iff.mp hs).1, slotV_r hs]) hdg kk
theorem r_putI (S : CallFix p m c cc nL s args Ts own) (hW : Wd D T L σ M A s H0 H locs) {C : String} {TX : u_T} {N ci k j b index : Nat} {sl : List (Option Nat)} (hin : ∀ w ∈ u_ws C TX N, w ∈ Ts) (hc : vwCl[ci]? = some (C, TX, N)) (hlink : (Cond.fieldLink own index C (TX j).2.1 (TX j).2.2.1).before args s = true) (hr : (TX j).1 = C) (hk : L[k]? = some (0, ci, b, sl)) (hj : j < N) (hs : sl[j]? = some none)
    (ty0 : Nat → FieldType) (hty : ∀ k, k < N → parseFieldDescriptor (TX k).2.2.1 = some (ty0 k)) (hnm : ∀ a, a < N → ∀ b, b < N → a ≠ b → (TX a).2.1 ≠ (TX b).2.1) (hfin : (TX j).2.2.2 = false) {x : Int32} (hn : narrow (ty0 j) (.int x) = .int x) (hfit : fits (ty0 j) (.int x) = true) (hdg : decode cc pc = .ok (.putfield index, 3))
    (kk : ∀ (M1 : Mem) (H1 : Heap) (locs1 : List Loc), M1 = sA M k j x → Wd D T L σ M1 A s H0 H1 locs1 → W p l e R s m args below meth c H1 locs1 cells slots Q (F0 m (pc + 3) ls rest)) : W p l e R s m args below meth c H locs cells slots Q (F0 m pc ls (.int x :: .ref (σ k) :: rest)) := by
  obtain ⟨hK, hP, hD, hS, hN⟩ := hW
  have hjl : j < sl.length := (List.getElem?_eq_some_iff.mp hs).1
  have hE : (wd T L σ M).set k (σ k, .inr (ci, (flds σ (M.1 k) sl).set j (.int x))) = wd T L σ (sA M k j x) := wd_set hk (fun k' h => sA_1 k' h) (fun _ _ => rfl) (by rw [cell_o, sA_s, flds_set hs])
  refine va_put (v := .int x) S.1 S.2.1 S.2.2.2.2 hin ty0 hty hnm S.2.2.2.1 hK hP hD hS k (by rw [← cell_o]; exact wd_get hk) hc j hj hlink (fun x h => by rw [← hr]; exact h) hfin (hty j hj) hn hfit (by rw [flds_len]; exact hjl) hdg (fun H1 locs1 hP1 hD1 hS1 => ?_)
  rw [hE] at hP1 hD1
  exact kk _ H1 locs1 rfl ⟨hK, hP1, hD1, hS1, hN⟩
theorem r_iald (S : CallFix p m c cc nL s args Ts own) (hW : Wd D T L σ M A s H0 H locs) {k n b : Nat} {sl : List (Option Nat)} {i : Int32} (hk : L[k]? = some (1, n, b, sl)) (hin : vp_in i n) (hdg : decode cc pc = .ok (.iaload, 1))
    (kk : W p l e R s m args below meth c H locs cells slots Q (F0 m (pc + 1) ls (.int (M.1 k i.toNatClampNeg) :: rest))) : W p l e R s m args below meth c H locs cells slots Q (F0 m pc ls (.int i :: .ref (σ k) :: rest)) := by
  obtain ⟨hK, hP, hD, hS, hN⟩ := hW
  exact va_iald S.1 S.2.1 hK hP k 0 (by rw [← cell_i]; exact wd_get hk) rfl hin hdg kk
theorem r_zald (S : CallFix p m c cc nL s args Ts own) (hW : Wd D T L σ M A s H0 H locs) {k n b : Nat} {sl : List (Option Nat)} {i : Int32} (hk : L[k]? = some (2, n, b, sl)) (hin : vp_in i n) (hdg : decode cc pc = .ok (.baload, 1))
    (kk : W p l e R s m args below meth c H locs cells slots Q (F0 m (pc + 1) ls (.int (M.1 k i.toNatClampNeg) :: rest))) : W p l e R s m args below meth c H locs cells slots Q (F0 m pc ls (.int i :: .ref (σ k) :: rest)) := by
  obtain ⟨hK, hP, hD, hS, hN⟩ := hW
  exact va_zald S.1 S.2.1 hK hP k 1 (by rw [← cell_z]; exact wd_get hk) rfl hin hdg kk
theorem r_lald (S : CallFix p m c cc nL s args Ts own) (hW : Wd D T L σ M A s H0 H locs) {k n b : Nat} {sl : List (Option Nat)} {i : Int32} (hk : L[k]? = some (3, n, b, sl)) (hin : vp_in i n) (hdg : decode cc pc = .ok (.laload, 1))
    (kk : W p l e R s m args below meth c H locs cells slots Q (F0 m (pc + 1) ls (.long (M.2 k i.toNatClampNeg) :: rest))) : W p l e R s m args below meth c H locs cells slots Q (F0 m pc ls (.int i :: .ref (σ k) :: rest)) := by
  obtain ⟨hK, hP, hD, hS, hN⟩ := hW
  exact va_lald S.1 S.2.1 hK hP k 2 (by rw [← cell_l]; exact wd_get hk) rfl hin hdg kk
theorem r_iast (S : CallFix p m c cc nL s args Ts own) (hW : Wd D T L σ M A s H0 H locs) {k n b : Nat} {sl : List (Option Nat)} {i x : Int32} (hk : L[k]? = some (1, n, b, sl)) (hin : vp_in i n) (hdg : decode cc pc = .ok (.iastore, 1))
    (kk : ∀ (M1 : Mem) (H1 : Heap) (locs1 : List Loc), M1 = sA M k i.toNatClampNeg x → Wd D T L σ M1 A s H0 H1 locs1 → W p l e R s m args below meth c H1 locs1 cells slots Q (F0 m (pc + 1) ls rest)) : W p l e R s m args below meth c H locs cells slots Q (F0 m pc ls (.int x :: .int i :: .ref (σ k) :: rest)) := by
  obtain ⟨hK, hP, hD, hS, hN⟩ := hW
  refine va_iast S.1 S.2.1 hK hP hD hS k 0 (by rw [← cell_i]; exact wd_get hk) rfl hin hdg (fun H1 locs1 hP1 hD1 hS1 => ?_)
  rw [wd_set (M := M) (M' := sA M k i.toNatClampNeg x) hk (fun k' h => sA_1 k' h) (fun _ _ => rfl) (by rw [cell_i, sA_s])] at hP1 hD1
  exact kk _ H1 locs1 rfl ⟨hK, hP1, hD1, hS1, hN⟩
theorem r_zast (S : CallFix p m c cc nL s args Ts own) (hW : Wd D T L σ M A s H0 H locs) {k n b : Nat} {sl : List (Option Nat)} {i x : Int32} (hk : L[k]? = some (2, n, b, sl)) (hin : vp_in i n) (hdg : decode cc pc = .ok (.bastore, 1))
    (kk : ∀ (M1 : Mem) (H1 : Heap) (locs1 : List Loc), M1 = sA M k i.toNatClampNeg (vp_nar .boolean x) → Wd D T L σ M1 A s H0 H1 locs1 → W p l e R s m args below meth c H1 locs1 cells slots Q (F0 m (pc + 1) ls rest)) : W p l e R s m args below meth c H locs cells slots Q (F0 m pc ls (.int x :: .int i :: .ref (σ k) :: rest)) := by
  obtain ⟨hK, hP, hD, hS, hN⟩ := hW
  refine va_zast S.1 S.2.1 hK hP hD hS k 1 (by rw [← cell_z]; exact wd_get hk) rfl hin hdg (fun H1 locs1 hP1 hD1 hS1 => ?_)
  rw [wd_set (M := M) (M' := sA M k i.toNatClampNeg (vp_nar .boolean x)) hk (fun k' h => sA_1 k' h) (fun _ _ => rfl) (by rw [cell_z, sA_s])] at hP1 hD1
  exact kk _ H1 locs1 rfl ⟨hK, hP1, hD1, hS1, hN⟩
theorem r_last (S : CallFix p m c cc nL s args Ts own) (hW : Wd D T L σ M A s H0 H locs) {k n b : Nat} {sl : List (Option Nat)} {i : Int32} {x : Int64} (hk : L[k]? = some (3, n, b, sl)) (hin : vp_in i n) (hdg : decode cc pc = .ok (.lastore, 1))
    (kk : ∀ (M1 : Mem) (H1 : Heap) (locs1 : List Loc), M1 = sB M k i.toNatClampNeg x → Wd D T L σ M1 A s H0 H1 locs1 → W p l e R s m args below meth c H1 locs1 cells slots Q (F0 m (pc + 1) ls rest)) : W p l e R s m args below meth c H locs cells slots Q (F0 m pc ls (.long x :: .int i :: .ref (σ k) :: rest)) := by
  obtain ⟨hK, hP, hD, hS, hN⟩ := hW
  refine va_last S.1 S.2.1 hK hP hD hS k 2 (by rw [← cell_l]; exact wd_get hk) rfl hin hdg (fun H1 locs1 hP1 hD1 hS1 => ?_)
  rw [wd_set (M := M) (M' := sB M k i.toNatClampNeg x) hk (fun _ _ => rfl) (fun k' h => sB_1 k' h) (by rw [cell_l, sB_s])] at hP1 hD1
  exact kk _ H1 locs1 rfl ⟨hK, hP1, hD1, hS1, hN⟩
theorem r_aald (S : CallFix p m c cc nL s args Ts own) (hW : Wd D T L σ M A s H0 H locs) {k t n b : Nat} {sl : List (Option Nat)} {i : Int32} (hk : L[k]? = some (t + 4, n, b, sl)) (ht : t < 2) (hin : vp_in i n) (hdg : decode cc pc = .ok (.aaload, 1))
    (kk : W p l e R s m args below meth c H locs cells slots Q (F0 m (pc + 1) ls (.ref (σ (b + i.toNatClampNeg)) :: rest))) : W p l e R s m args below meth c H locs cells slots Q (F0 m pc ls (.int i :: .ref (σ k) :: rest)) := by
  obtain ⟨hK, hP, hD, hS, hN⟩ := hW
  have hlt := vp_lt hin
  have ha := hP k (σ k, cellOf T σ M k (t + 4, n, b, sl)) (wd_get hk)
  rw [cell_q] at ha
  have hv : va_rf (if i.toNatClampNeg < n then some (σ (b + i.toNatClampNeg)) else none) = .ref (σ (b + i.toNatClampNeg)) := by rw [if_pos hlt]; rfl
  have hty : ∃ ty : FieldType, (tyT T)[t + 3]? = some (T (t + 4), ty) ∧ ty.isReference = true := by
    rcases (show t = 0 ∨ t = 1 by omega) with rfl | rfl
    · exact ⟨.array .int, rfl, rfl⟩
    · exact ⟨.array .long, rfl, rfl⟩
  obtain ⟨ty, h1, h2⟩ := hty
  rw [← hv] at kk
  exact W.aald (v := va_rf (if i.toNatClampNeg < n then some (σ (b + i.toNatClampNeg)) else none)) (ty := ty) S.1 S.2.1 ha ((hK.2 (t + 3) _ h1).1 n (fun j => va_rf (if j < n then some (σ (b + j)) else none))) h2 (fun q => by cases q) (by show ¬ (i < 0 ∨ (arrV _ _ _).slots.size ≤ _); rw [arrV_size]; exact hin) (by show (arrV _ _ _).slots[_]? = _; rw [arrV_read _ _ hlt]) rfl rfl hdg kk
theorem r_alenI (S : CallFix p m c cc nL s args Ts own) (hW : Wd D T L σ M A s H0 H locs) {k n b : Nat} {sl : List (Option Nat)} (hk : L[k]? = some (1, n, b, sl)) (hdg : decode cc pc = .ok (.arraylength, 1))
    (kk : W p l e R s m args below meth c H locs cells slots Q (F0 m (pc + 1) ls (.int (nI n) :: rest))) : W p l e R s m args below meth c H locs cells slots Q (F0 m pc ls (.ref (σ k) :: rest)) := by
  obtain ⟨hK, hP, hD, hS, hN⟩ := hW
  exact va_alen (x := (n, .inl (M.1 k))) (v := nI n) S.1 S.2.1 hK hP k 0 (by rw [← cell_i]; exact wd_get hk) (ty := .int) rfl rfl hdg kk
theorem r_alenZ (S : CallFix p m c cc nL s args Ts own) (hW : Wd D T L σ M A s H0 H locs) {k n b : Nat} {sl : List (Option Nat)} (hk : L[k]? = some (2, n, b, sl)) (hdg : decode cc pc = .ok (.arraylength, 1))
    (kk : W p l e R s m args below meth c H locs cells slots Q (F0 m (pc + 1) ls (.int (nI n) :: rest))) : W p l e R s m args below meth c H locs cells slots Q (F0 m pc ls (.ref (σ k) :: rest)) := by
  obtain ⟨hK, hP, hD, hS, hN⟩ := hW
  exact va_alen (x := (n, .inl (M.1 k))) (v := nI n) S.1 S.2.1 hK hP k 1 (by rw [← cell_z]; exact wd_get hk) (ty := .boolean) rfl rfl hdg kk
theorem r_alenL (S : CallFix p m c cc nL s args Ts own) (hW : Wd D T L σ M A s H0 H locs) {k n b : Nat} {sl : List (Option Nat)} (hk : L[k]? = some (3, n, b, sl)) (hdg : decode cc pc = .ok (.arraylength, 1))
    (kk : W p l e R s m args below meth c H locs cells slots Q (F0 m (pc + 1) ls (.int (nI n) :: rest))) : W p l e R s m args below meth c H locs cells slots Q (F0 m pc ls (.ref (σ k) :: rest)) := by
  obtain ⟨hK, hP, hD, hS, hN⟩ := hW
  exact va_alen (x := (n, .inr (.inl (M.2 k)))) (v := nI n) S.1 S.2.1 hK hP k 2 (by rw [← cell_l]; exact wd_get hk) (ty := .long) rfl rfl hdg kk
theorem r_max (S : CallFix p m c cc nL s args Ts own) (hl : ls.size = nL) {index : Nat} (hlink : (Cond.methodLink own index Lib.Math.max.name).before args s = true) (hstat : (Cond.static Lib.Math.max.name).before args s = true) (hini : (Cond.initialized "java/lang/Math").before args s = true) (hcode : (Cond.code Lib.Math.max.name Lib.Math.max.code 2 (some .int)).before args s = true)
    (hframes : 1 ≤ R.frames) (hlocals : (rest.map fun v => v.category).sum + 13 ≤ R.locals) (hc : cells ≤ R.cells) (hs : slots ≤ R.slots) {x y : Int32} (hdg : decode cc pc = .ok (.invokestatic index, 3))
    (kk : W p l e R s m args below meth c H locs cells slots Q (F0 m (pc + 3) ls (.int (jmax x y) :: rest))) : W p l e R s m args below meth c H locs cells slots Q (F0 m pc ls (.int y :: .int x :: rest)) :=
  va_mmax S.1 S.2.1 (S.2.2.1.trans hl.symm) S.2.2.2.1 hlink hstat hini hcode hframes hlocals hc hs hdg kk
theorem r_min (S : CallFix p m c cc nL s args Ts own) (hl : ls.size = nL) {index : Nat} (hlink : (Cond.methodLink own index Lib.Math.min.name).before args s = true) (hstat : (Cond.static Lib.Math.min.name).before args s = true) (hini : (Cond.initialized "java/lang/Math").before args s = true) (hcode : (Cond.code Lib.Math.min.name Lib.Math.min.code 2 (some .int)).before args s = true)
    (hframes : 1 ≤ R.frames) (hlocals : (rest.map fun v => v.category).sum + 13 ≤ R.locals) (hc : cells ≤ R.cells) (hs : slots ≤ R.slots) {x y : Int32} (hdg : decode cc pc = .ok (.invokestatic index, 3))
    (kk : W p l e R s m args below meth c H locs cells slots Q (F0 m (pc + 3) ls (.int (jmin x y) :: rest))) : W p l e R s m args below meth c H locs cells slots Q (F0 m pc ls (.int y :: .int x :: rest)) :=
  va_mmin S.1 S.2.1 (S.2.2.1.trans hl.symm) S.2.2.2.1 hlink hstat hini hcode hframes hlocals hc hs hdg kk
theorem sBr_s {M : Mem} {k : Nat} {f : Nat → Int64} : (sBr M k f).2 k = f := if_pos rfl
theorem sBr_1 {M : Mem} {k : Nat} {f : Nat → Int64} (k' : Nat) (h : k' ≠ k) : (sBr M k f).2 k' = M.2 k' := if_neg h
theorem r_acopy (S : CallFix p m c cc nL s args Ts own) (hl : ls.size = nL) (hW : Wd D T L σ M A s H0 H locs) {index k0 k1 n0 n1 b0 b1 : Nat} {sl0 sl1 : List (Option Nat)} {sp dp n : Int32} (hlink : (Cond.methodLink own index arraycopyName).before args s = true) (hnat : (Cond.native arraycopyName).before args s = true) (hstat : (Cond.static arraycopyName).before args s = true) (hini : (Cond.initialized "java/lang/System").before args s = true)
    (hk0 : L[k0]? = some (3, n0, b0, sl0)) (hk1 : L[k1]? = some (3, n1, b1, sl1)) (hb : ¬ sp < 0 ∧ ¬ dp < 0 ∧ ¬ n < 0 ∧ sp.toNatClampNeg + n.toNatClampNeg ≤ n0 ∧ dp.toNatClampNeg + n.toNatClampNeg ≤ n1)
    (hframes : 1 ≤ R.frames) (hlocals : (rest.map fun v => v.category).sum + (nativeFrameWords "java/lang/System" "arraycopy" 5 + 11) ≤ R.locals) (hdg : decode cc pc = .ok (.invokestatic index, 3))
    (kk : ∀ (M1 : Mem) (H1 : Heap) (locs1 : List Loc), M1 = sBr M k1 (va_cpy (M.2 k0) (M.2 k1) sp.toNatClampNeg dp.toNatClampNeg n.toNatClampNeg) → Wd D T L σ M1 A s H0 H1 locs1 → W p l e R s m args below meth c H1 locs1 cells slots Q (F0 m (pc + 3) ls rest)) : W p l e R s m args below meth c H locs cells slots Q (F0 m pc ls (.int n :: .int dp :: .ref (σ k1) :: .int sp :: .ref (σ k0) :: rest)) := by
  obtain ⟨hK, hP, hD, hS, hN⟩ := hW
  refine va_copyl S.1 S.2.1 (S.2.2.1.trans hl.symm) S.2.2.2.1 hlink hnat hstat hini hK hP hD hS k0 k1 2 2 (ty := .long) (by rw [← cell_l]; exact wd_get hk0) (by rw [← cell_l]; exact wd_get hk1) rfl rfl rfl hb.1 hb.2.1 hb.2.2.1 hb.2.2.2.1 hb.2.2.2.2 (fun _ _ => rfl) hframes hlocals hdg (fun H1 locs1 hP1 hD1 hS1 => ?_)
  rw [wd_set (M := M) (M' := sBr M k1 (va_cpy (M.2 k0) (M.2 k1) sp.toNatClampNeg dp.toNatClampNeg n.toNatClampNeg)) hk1 (fun _ _ => rfl) (fun k' h => sBr_1 k' h) (by rw [cell_l, sBr_s])] at hP1 hD1
  exact kk _ H1 locs1 rfl ⟨hK, hP1, hD1, hS1, hN⟩
end RR
section RC
variable {p : Program} {l : Launch} {e : Env} {R : Room} {s : State} {m : MethodId} {args a : Array Value} {below : List Frame} {meth : Method} {c : Code} {H H0 : Heap} {locs : List Loc} {cells slots : Nat} {Q : State → Prop}
variable {cc : ByteArray} {pc nL : Nat} {ls : Array Slot} {rest st As : List Value} {own C : String} {Ts : List Cond} {D : va_G} {T : Nat → ClassId} {L : Lay} {σ : Nat → Nat} {M : Mem} {A : Nat → Prop}
variable {y : MethodName} {ws : List Cond} {rm : Room} {bytes : ByteArray} {maxL n index : Nat} {ret : Option FieldType} {Qc : Array Value → State → Outcome → State → Prop}
theorem r_runV (S : CallFix p m c cc nL s args Ts own) (hW : Wd D T L σ M A s H0 H locs) {TX : u_T} {N ci k b : Nat} {sl : List (Option Nat)} (hM : Met l y ws rm (preW D T L σ (.ref (σ k) :: As) M) Qc 0 0 (fA L σ)) (cw : CallW R s args own C index y bytes maxL ret ws rm 0 0 n) (hc : vwCl[ci]? = some (C, TX, N)) (hk : L[k]? = some (0, ci, b, sl))
    (hn : As.length = n) (hls : ls.size = nL) (hst : st = As.reverse ++ .ref (σ k) :: rest) (hcat : (rest.map fun v => v.category).sum ≤ 8) (hdg : decode cc pc = .ok (.invokevirtual index, 3)) (hf : cells ≤ R.cells ∧ slots ≤ R.slots) :
    va_Run p l e R s m args below meth c H locs cells slots 0 0 (F0 m pc ls st) rest (Qc (Value.ref (σ k) :: As).toArray) (fA L σ) := by
  obtain ⟨hK, hP, hD, hS, hN⟩ := hW
  have hq : (wd T L σ M)[k]? = some (σ k, .inr (ci, flds σ (M.1 k) sl)) := by rw [← cell_o]; exact wd_get hk
  exact va_runV S hM cw ⟨preW_blind, va_recv hK hP hc hq, fun U hU hWm => ⟨rfl, by rw [hU]; exact hP, va_K.moved hWm.alike hK, hD.weaken (fun _ _ _ _ => trivial), NW.warm hWm hN⟩⟩ rfl hn hls hst (lv_room hcat) hdg hf
theorem r_runS (S : CallFix p m c cc nL s args Ts own) (hW : Wd D T L σ M A s H0 H locs) (hM : Met l y ws rm (preW D T L σ As M) Qc 0 0 (fA L σ)) (cw : CallB R s args own index y bytes maxL ret ws rm 0 0 n ∧ (Cond.static y).before args s = true)
    (hn : As.length = n) (hls : ls.size = nL) (hst : st = As.reverse ++ rest) (hcat : (rest.map fun v => v.category).sum ≤ 8) (hdg : decode cc pc = .ok (.invokestatic index, 3)) (hf : cells ≤ R.cells ∧ slots ≤ R.slots) :
    va_Run p l e R s m args below meth c H locs cells slots 0 0 (F0 m pc ls st) rest (Qc As.toArray) (fA L σ) := by
  obtain ⟨hK, hP, hD, hS, hN⟩ := hW
  exact va_runS S hM cw ⟨preW_blind, fun U hU hWm => ⟨rfl, by rw [hU]; exact hP, va_K.moved hWm.alike hK, hD.weaken (fun _ _ _ _ => trivial), NW.warm hWm hN⟩⟩ rfl hn hls hst (lv_room hcat) hdg hf
theorem r_runN (S : CallFix p m c cc nL s args Ts own) (hW : Wd D T L σ M A s H0 H locs) {host : String} (hM : Met l y ws rm (preW D T L σ As M) Qc 0 0 (fA L σ)) (cw : va_CN R s args own index y host bytes maxL ret ws rm 0 0 n) (hstat : (Cond.static y).before args s = true)
    (hn : As.length = n) (hls : ls.size = nL) (hst : st = As.reverse ++ rest) (hcat : (rest.map fun v => v.category).sum ≤ 8) (hdg : decode cc pc = .ok (.invokestatic index, 3)) (hf : cells ≤ R.cells ∧ slots ≤ R.slots) :
    va_Run p l e R s m args below meth c H locs cells slots 0 0 (F0 m pc ls st) rest (Qc As.toArray) (fA L σ) := by
  obtain ⟨hK, hP, hD, hS, hN⟩ := hW
  exact va_runSN S hM ⟨cw, hstat, trivial⟩ ⟨preW_blind, fun U hU hWm => ⟨rfl, by rw [hU]; exact hP, va_K.moved hWm.alike hK, hD.weaken (fun _ _ _ _ => trivial), NW.warm hWm hN⟩⟩ rfl hn hls hst (lv_room hcat) hdg hf
theorem r_goI {post : Int32 → Mem → Prop} (hr : va_Run p l e R s m args below meth c H locs cells slots 0 0 (F0 m pc ls st) rest (postI D T L σ post a) (fA L σ)) (hW : Wd D T L σ M A s H0 H locs)
    (kk : ∀ (r : Int32) (M1 : Mem) (H1 : Heap) (locs1 : List Loc), post r M1 → Wd D T L σ M1 A s H0 H1 locs1 → W p l e R s m args below meth c H1 locs1 cells slots Q (F0 m (pc + 3) ls (.int r :: rest))) : W p l e R s m args below meth c H locs cells slots Q (F0 m pc ls st) := by
  obtain ⟨hK, hP, hD, hS, hN⟩ := hW
  refine va_calli hr hS (fun q _ h => fA_in hD q h) (fun q h => fA_in hD q h) (fun r M1 t H1 locs1 ht hvm hp hB hz hk hS1 => ?_)
  obtain ⟨hP1, hK1⟩ := hB
  rw [ht] at hP1
  exact kk r M1 H1 locs1 hp ⟨hK, hP1, wd_D hD, hS1, hN⟩
theorem r_goL {post : Int64 → Mem → Prop} (hr : va_Run p l e R s m args below meth c H locs cells slots 0 0 (F0 m pc ls st) rest (postL D T L σ post a) (fA L σ)) (hW : Wd D T L σ M A s H0 H locs)
    (kk : ∀ (r : Int64) (M1 : Mem) (H1 : Heap) (locs1 : List Loc), post r M1 → Wd D T L σ M1 A s H0 H1 locs1 → W p l e R s m args below meth c H1 locs1 cells slots Q (F0 m (pc + 3) ls (.long r :: rest))) : W p l e R s m args below meth c H locs cells slots Q (F0 m pc ls st) := by
  obtain ⟨hK, hP, hD, hS, hN⟩ := hW
  refine va_calll hr hS (fun q _ h => fA_in hD q h) (fun q h => fA_in hD q h) (fun r M1 t H1 locs1 ht hvm hp hB hz hk hS1 => ?_)
  obtain ⟨hP1, hK1⟩ := hB
  rw [ht] at hP1
  exact kk r M1 H1 locs1 hp ⟨hK, hP1, wd_D hD, hS1, hN⟩
theorem r_goV {post : Mem → Prop} (hr : va_Run p l e R s m args below meth c H locs cells slots 0 0 (F0 m pc ls st) rest (postV D T L σ post a) (fA L σ)) (hW : Wd D T L σ M A s H0 H locs)
    (kk : ∀ (M1 : Mem) (H1 : Heap) (locs1 : List Loc), post M1 → Wd D T L σ M1 A s H0 H1 locs1 → W p l e R s m args below meth c H1 locs1 cells slots Q (F0 m (pc + 3) ls rest)) : W p l e R s m args below meth c H locs cells slots Q (F0 m pc ls st) := by
  obtain ⟨hK, hP, hD, hS, hN⟩ := hW
  refine va_callv hr hS (fun q _ h => fA_in hD q h) (fun q h => fA_in hD q h) (fun M1 t H1 locs1 ht hvm hp hB hz hk hS1 => ?_)
  obtain ⟨hP1, hK1⟩ := hB
  rw [ht] at hP1
  exact kk M1 H1 locs1 hp ⟨hK, hP1, wd_D hD, hS1, hN⟩
theorem r_iret {post : Int32 → Mem → Prop} {v : Int32} (S : CallFix p m c cc nL s args Ts own) (hr : meth.sig.returnType = some .int) (hlk : meth.locks = false) (hW : Wd D T L σ M (fA L σ) s s.heap H locs) (h : post v M) (hdg : decode cc pc = .ok (.ireturn, 1)) :
    W p l e R s m args below meth c H locs cells slots (MQ below (postI D T L σ post) args s cells slots (fA L σ)) (F0 m pc ls [.int v]) :=
  W.iret S.1 S.2.1 hr (fun t ht hWm => ⟨⟨v, M, rfl, h, by rw [ht]; exact hW.2.1, va_K.moved hWm.alike hW.1⟩, hW.2.2.2.1.F ht⟩) hW.2.2.2.1.2.2 hdg hlk
theorem r_zret {post : Int32 → Mem → Prop} {v : Int32} (S : CallFix p m c cc nL s args Ts own) (hr : meth.sig.returnType = some .boolean) (hlk : meth.locks = false) (hW : Wd D T L σ M (fA L σ) s s.heap H locs) (hz : zb v) (h : post v M) (hdg : decode cc pc = .ok (.ireturn, 1)) :
    W p l e R s m args below meth c H locs cells slots (MQ below (postI D T L σ post) args s cells slots (fA L σ)) (F0 m pc ls [.int v]) :=
  W.zret S.1 S.2.1 hr hz (fun t ht hWm => ⟨⟨v, M, rfl, h, by rw [ht]; exact hW.2.1, va_K.moved hWm.alike hW.1⟩, hW.2.2.2.1.F ht⟩) hW.2.2.2.1.2.2 hdg hlk
theorem r_lret {post : Int64 → Mem → Prop} {v : Int64} (S : CallFix p m c cc nL s args Ts own) (hr : meth.sig.returnType = some .long) (hlk : meth.locks = false) (hW : Wd D T L σ M (fA L σ) s s.heap H locs) (h : post v M) (hdg : decode cc pc = .ok (.lreturn, 1)) :
    W p l e R s m args below meth c H locs cells slots (MQ below (postL D T L σ post) args s cells slots (fA L σ)) (F0 m pc ls [.long v]) :=
  W.lret S.1 S.2.1 hr (fun t ht hWm => ⟨⟨v, M, rfl, h, by rw [ht]; exact hW.2.1, va_K.moved hWm.alike hW.1⟩, hW.2.2.2.1.F ht⟩) hW.2.2.2.1.2.2 hdg hlk
theorem r_vret {post : Mem → Prop} (S : CallFix p m c cc nL s args Ts own) (hr : meth.sig.returnType = none) (hlk : meth.locks = false) (hW : Wd D T L σ M (fA L σ) s s.heap H locs) (h : post M) (hdg : decode cc pc = .ok (.return_, 1)) :
    W p l e R s m args below meth c H locs cells slots (MQ below (postV D T L σ post) args s cells slots (fA L σ)) (F0 m pc ls []) :=
  W.vret S.1 S.2.1 hr (fun t ht hWm => ⟨⟨M, rfl, h, by rw [ht]; exact hW.2.1, va_K.moved hWm.alike hW.1⟩, hW.2.2.2.1.F ht⟩) hW.2.2.2.1.2.2 hdg hlk
theorem r_ts {hi dflt : Int} {offs : Array Int} {len : Nat} {x : Int32} (S : CallFix p m c cc nL s args Ts own) (hdg : decode cc pc = .ok (.tableswitch dflt 0 hi offs, len)) (hsz : hi < offs.size)
    (kin : ∀ (k : Nat) (off : Int), offs[k]? = some off → x.toInt = k → W p l e R s m args below meth c H locs cells slots Q (F0 m ((pc : Int) + off).toNat ls rest)) (hoff : ∀ o ∈ offs, 0 ≤ (pc : Int) + o) (hdf : 0 ≤ (pc : Int) + dflt)
    (kout : (x.toInt < 0 ∨ hi < x.toInt) → W p l e R s m args below meth c H locs cells slots Q (F0 m ((pc : Int) + dflt).toNat ls rest)) : W p l e R s m args below meth c H locs cells slots Q (F0 m pc ls (.int x :: rest)) := by
  by_cases h1 : x.toInt < 0
  · exact lv_tableOut S.1 S.2.1 hdg (Or.inl h1) (by omega) (kout (Or.inl h1))
  · by_cases h2 : hi < x.toInt
    · exact lv_tableOut S.1 S.2.1 hdg (Or.inr h2) (by omega) (kout (Or.inr h2))
    · have hlt : x.toInt.toNat < offs.size := by omega
      have ho : offs[x.toInt.toNat]? = some offs[x.toInt.toNat] := Array.getElem?_eq_getElem hlt
      have hp := hoff _ (Array.getElem_mem hlt)
      exact lv_tableIn S.1 S.2.1 hdg h1 h2 (by rw [Int.sub_zero]; exact ho) (by omega) (kin _ _ ho (by omega))
end RC
theorem m_of {y : MethodName} {ws ws' : List Cond} {rm : Room} {cc : ByteArray} {maxL : Nat} {ret : Option FieldType} {own : String} {l : Launch} {D : va_G} {T : Nat → ClassId} {L : Lay} {σ : Nat → Nat} {M : Mem} {av : List Value} {Qc : Array Value → State → Outcome → State → Prop} (hy : plainName y.cls = true) (hw : ws = Cond.code y cc maxL ret :: ws') (hown : y.cls = own) (hlen : (lg_sl av).length ≤ maxL)
    (body : ∀ (p : Program) (e : Env) (s : State) (m : MethodId) (args : Array Value) (below : List Frame) (meth : Method) (c : Code) (H : Heap) (ls : Array Slot) (locs : List Loc), CallFix p m c cc maxL s args ws own → meth.sig.returnType = ret → meth.locks = false → lv_has ls maxL (lv_args 0 av) → Wd D T L σ M (fA L σ) s s.heap H locs →
      W p l e rm s m args below meth c H locs 0 0 (MQ below Qc args s 0 0 (fA L σ)) (F0 m 0 ls [])) : Met l y ws rm (preW D T L σ av M) Qc 0 0 (fA L σ) := by
  refine Met.ofW (cc := cc) (maxL := maxL) (ret := ret) hy hw ?_
  intro p e s m args below meth c s₁ B hml hv
  obtain ⟨rfl, hP, hK, hD, hN⟩ := hv
  have hts := atoms_spec (ws := ws) B.pre
  have hf : s.vm.findClass own = some m.cls := by rw [← hown]; exact findClass_of_methodNamed B.named
  have hl := lv_entry av (n := maxL) hlen
  rw [lg_entry_eq]
  exact body p e s m _ below meth c s.heap _ [] ⟨B.exec, B.bytes, hml, hf, hts⟩ B.returns B.notSynchronized hl ⟨hK, hP, fA_self hD, va_S.rf, hN⟩
/-- what holds at a cut point of a method: from the world M, with these locals and this stack, the method comes to its end -/
def WW (p : Program) (l : Launch) (e : Env) (R : Room) (s : State) (m : MethodId) (args : Array Value) (below : List Frame) (meth : Method) (c : Code) (D : va_G) (T : Nat → ClassId) (L : Lay) (σ : Nat → Nat) (nL : Nat) (Q : State → Prop) (pc : Nat) (lv : List (Nat × Value)) (st : List Value) (M : Mem) : Prop :=
  ∀ (H : Heap) (locs : List Loc) (ls : Array Slot), Wd D T L σ M (fA L σ) s s.heap H locs → lv_has ls nL lv → W p l e R s m args below meth c H locs 0 0 Q (F0 m pc ls st)
end
section
/-! MAKING: the rows of the constructors, over worlds that are lists; new arrays are of the classes that T names -/
def AO (U : State) : Prop := (Cond.arrayOver (.array .int)).before #[] U = true ∧ (Cond.arrayOver (.array .long)).before #[] U = true
theorem AO.moved {u U : State} (h : u.vm.Alike U.vm) (hZ : AO u) : AO U := ⟨arrayOver_alikeB h hZ.1, arrayOver_alikeB h hZ.2⟩
theorem AO.use_i {U : State} {a : Array Value} (hZ : AO U) : (Cond.arrayOver (.array .int)).before a U = true := arrayOver_alikeB (Vm.Alike.refl U.vm) hZ.1
theorem AO.use_l {U : State} {a : Array Value} (hZ : AO U) : (Cond.arrayOver (.array .long)).before a U = true := arrayOver_alikeB (Vm.Alike.refl U.vm) hZ.2
theorem n_outer (c : ClassId) (N h0 : Nat) : ∀ i : Nat, i ≤ N → Jvm.Free.Multi.outerC c N h0 i = arrV c N (fun j => va_rf (if j < i then some (h0 + 1 + j) else none))
  | 0, _ => by
    show ({ cls := c, slots := Array.replicate N .null, vm := .none } : Cell) = _
    rw [arrV_new]
    refine congrArg (arrV c N) (funext fun j => ?_)
    rw [if_neg (Nat.not_lt_zero j)]
    rfl
  | i + 1, h => by
    show (Jvm.Free.Multi.outerC c N h0 i).setSlot i (.ref (h0 + 1 + i)) = _
    rw [n_outer c N h0 i (by omega), arrV_store]
    refine congrArg (arrV c N) (funext fun j => ?_)
    unfold updV
    by_cases e : j = i
    · rw [if_pos e, if_pos (by omega), e]
      rfl
    · rw [if_neg e]
      show va_rf (if j < i then some (h0 + 1 + j) else none) = _
      by_cases h2 : j < i
      · rw [if_pos h2, if_pos (by omega)]
      · rw [if_neg h2, if_neg (by omega)]
theorem n_news {A : Nat → Prop} {ws ws' : va_W} {n0 : Nat} (hD : va_D A ws) (hlt : ∀ (k : Nat) (x : Nat × va_E), ws[k]? = some x → x.1 < n0) (hnew : ∀ (k : Nat) (x : Nat × va_E), ws'[k]? = some x → x.1 = n0 + k) (hA : ∀ q, n0 ≤ q → A q) : va_D A (ws ++ ws') := by
  refine hD.app ⟨fun i j x y hi hj hxy => ?_, fun k x hk => hA _ (by rw [hnew k x hk]; omega)⟩ (fun i j x y hi hj hxy => ?_)
  · have := hnew i x hi
    have := hnew j y hj
    omega
  · have := hlt i x hi
    have := hnew j y hj
    omega
/-- the rows of a new grid, behind its outer array -/
def gridW (ro ri : ClassId) (N q : Nat) (z : vp_A) : va_W := (q, .inl (ro, N, .inr (.inr (.inr (.inr (fun i => if i < N then some (q + 1 + i) else none)))))) :: (List.range N).map (fun i => (q + 1 + i, .inl (ri, z)))
theorem gridW_at {ro ri : ClassId} {N q : Nat} {z : vp_A} {k : Nat} {x : Nat × va_E} (h : (gridW ro ri N q z)[k]? = some x) : x.1 = q + k ∧ ((k = 0 ∧ x.2 = .inl (ro, N, .inr (.inr (.inr (.inr (fun i => if i < N then some (q + 1 + i) else none)))))) ∨ ∃ i, k = i + 1 ∧ i < N ∧ x.2 = .inl (ri, z)) := by
  unfold gridW at h
  cases k with
  | zero => rw [List.getElem?_cons_zero] at h; cases h; exact ⟨rfl, Or.inl ⟨rfl, rfl⟩⟩
  | succ k =>
    rw [List.getElem?_cons_succ, List.getElem?_map] at h
    by_cases hk : k < N
    · rw [List.getElem?_range hk] at h
      cases h
      exact ⟨by show q + 1 + k = q + (k + 1); omega, Or.inr ⟨k, rfl, hk, rfl⟩⟩
    · rw [List.getElem?_eq_none (by rw [List.length_range]; omega)] at h
      cases h
section NN
variable {p : Program} {l : Launch} {e : Env} {R : Room} {s : State} {m : MethodId} {args : Array Value} {below : List Frame} {meth : Method} {c : Code} {H H0 : Heap} {locs : List Loc} {cells slots : Nat} {Q : State → Prop}
variable {cc : ByteArray} {pc nL : Nat} {ls : Array Slot} {rest : List Value} {own : String} {Ts : List Cond} {D : va_G} {T : Nat → ClassId} {A : Nat → Prop} {ws : va_W}
theorem n_newa (S : CallFix p m c cc nL s args Ts own) (hK : va_K D vwCl (tyT T) s) (hP : va_P D vwCl ws H) (hD : va_D A ws) (hS : va_S A H0 H locs) (hA : ∀ q, H0.size ≤ q → A q) {atype : ArrayType} {ty : FieldType} (j : Nat) (harr : (Cond.arrayClass (newarray.typeOf atype)).before args s = true) (hty : newarray.typeOf atype = ty) (hu : ∀ cA, va_RA s cA ty → cA = T j)
    {n : Int32} {N' : Nat} {a0 : vp_A} (ha : ∀ cA : ClassId, vp_cell cA a0 = arrV cA N' (fun _ => defaultValue ty)) (hn : ¬ n < 0) (hN : n.toNatClampNeg = N') (hbytes : N' * componentBytes ty ≤ 536870912) (hcells : cells + 1 ≤ R.cells) (hslots : slots + N' ≤ R.slots) (hdg : decode cc pc = .ok (.newarray atype, 2))
    (kk : ∀ (q : Nat) (H1 : Heap), va_P D vwCl (ws ++ [(q, .inl (T j, a0))]) H1 → va_D A (ws ++ [(q, .inl (T j, a0))]) → va_S A H0 H1 locs →
      W p l e R s m args below meth c H1 locs (cells + 1) (slots + N') Q (F0 m (pc + 2) ls (.ref q :: rest))) : W p l e R s m args below meth c H locs cells slots Q (F0 m pc ls (.int n :: rest)) := by
  refine va_newa S.1 S.2.1 harr hty hK hP hD hS hA ha hn hN hbytes hcells hslots hdg (fun q cA H1 hK1 hP1 hD1 hS1 => ?_)
  have e1 := hu cA (hK1.2 5 (cA, ty) rfl).2
  subst e1
  exact kk q H1 hP1 hD1 hS1
theorem n_mna (S : CallFix p m c cc nL s args Ts own) (hP : va_P D vwCl ws H) (hD : va_D A ws) (hS : va_S A H0 H locs) (hA : ∀ q, H0.size ≤ q → A q) {index : Nat} {ty : FieldType} {ro ri : ClassId} (hclink : (Cond.classLink own index ("[" ++ (FieldType.array ty).toString)).before args s = true) (hover : (Cond.arrayOver (.array ty)).before args s = true) (harr : (Cond.arrayClass ty).before args s = true)
    (hro : s.vm.findClass ("[" ++ (FieldType.array ty).toString) = some ro) (hri : s.vm.findClass (FieldType.array ty).toString = some ri) {n k : Int32} {N' K' : Nat} {z : vp_A} (hn : ¬ n < 0) (hk : ¬ k < 0) (hN : n.toNatClampNeg = N') (hM : k.toNatClampNeg = K')
    (hb1 : N' * 4 ≤ 536870912) (hb2 : K' * componentBytes ty ≤ 536870912) (hb3 : K' ≤ 536870912) (hdf : fits ty (defaultValue ty) = true) (hdd : (defaultValue ty).isDefault = true) (hcells : cells + (1 + N') ≤ R.cells) (hslots : slots + (N' + N' * K') ≤ R.slots) (hz : ∀ c : ClassId, Jvm.Free.Multi.innerC c K' (defaultValue ty) = vp_cell c z) (hdg : decode cc pc = .ok (.multianewarray index 2, 4))
    (kk : ∀ (q : Nat) (H1 : Heap), va_P D vwCl (ws ++ gridW ro ri N' q z) H1 → va_D A (ws ++ gridW ro ri N' q z) → va_S A H0 H1 locs →
      W p l e R s m args below meth c H1 locs (cells + 1 + N') (slots + N' + N' * K') Q (F0 m (pc + 4) ls (.ref q :: rest))) : W p l e R s m args below meth c H locs cells slots Q (F0 m pc ls (.int k :: .int n :: rest)) := by
  subst hN
  subst hM
  intro T0 hT Xs
  obtain ⟨vm₁, cA, comp, -, fA, fC, -, -, X', step⟩ := Xs.multianewarray2F S.1 S.2.2.2.1 hclink hover harr (g := F0 m pc ls (.int k :: .int n :: rest)) rfl (by rw [S.2.1]; exact hdg) rfl hn hk hb1 hb2 hb3 hdf hdd hcells hslots
  cases Option.some.inj (hro.symm.trans fA)
  cases Option.some.inj (hri.symm.trans fC)
  generalize hF : Jvm.Free.Multi.fill (T0.setVm vm₁) ro ri n.toNatClampNeg k.toNatClampNeg (defaultValue ty) n.toNatClampNeg = F at X' step
  have hTh : (T0.setVm vm₁).heap = H := hT
  obtain ⟨f1, f2, -, -⟩ := Jvm.Free.Multi.fill_facts (T0.setVm vm₁) ro ri n.toNatClampNeg k.toNatClampNeg (defaultValue ty) n.toNatClampNeg
  rw [hF, hTh] at f1 f2
  have hold : ∀ x : Nat, x < H.size → F.heap[x]? = H[x]? := fun x hx => by
    have h9 := Jvm.Free.Multi.fill_old (T0.setVm vm₁) ro ri n.toNatClampNeg k.toNatClampNeg (defaultValue ty) (a := x) (by rw [hTh]; exact hx) n.toNatClampNeg
    rw [hF, hTh] at h9
    exact h9
  have hrow : ∀ j : Nat, j < n.toNatClampNeg → F.heap[H.size + 1 + j]? = some (vp_cell ri z) := fun j hj => by
    have h9 := Jvm.Free.Multi.fill_inner (T0.setVm vm₁) ro ri n.toNatClampNeg k.toNatClampNeg (defaultValue ty) n.toNatClampNeg j hj
    rw [hF, hTh, hz] at h9
    exact h9
  rw [n_outer ro n.toNatClampNeg H.size n.toNatClampNeg (Nat.le_refl _)] at f2
  have hlt : ∀ (k9 : Nat) (x : Nat × va_E), ws[k9]? = some x → x.1 < H.size := fun k9 x hx => (hP k9 x hx).lt
  have hP1 : va_P D vwCl (ws ++ gridW ro ri n.toNatClampNeg H.size z) F.heap := va_P.app (hP.kept (fun k9 x hx => hold x.1 (hlt k9 x hx))) (fun k9 x hx => by
    obtain ⟨ha, h2 | ⟨i, h3, h4, h5⟩⟩ := gridW_at hx
    · obtain ⟨a9, e9⟩ := x
      obtain ⟨h6, h7⟩ := h2
      have ha2 : a9 = H.size := by rw [h6] at ha; exact ha
      have h7' : e9 = _ := h7
      subst ha2
      subst h7'
      exact f2
    · obtain ⟨a9, e9⟩ := x
      have ha2 : a9 = H.size + 1 + i := by
        have ha' : a9 = H.size + k9 := ha
        omega
      have h7' : e9 = _ := h5
      subst ha2
      subst h7'
      exact hrow i h4)
  have hD1 : va_D A (ws ++ gridW ro ri n.toNatClampNeg H.size z) := n_news hD hlt (fun k9 x hx => (gridW_at hx).1) (fun q hq => hA q (Nat.le_trans hS.1 hq))
  obtain ⟨t, a1, b1⟩ := kk H.size F.heap hP1 hD1 ⟨by rw [f1]; have := hS.1; omega, fun x h1 h2 => (hold x (Nat.lt_of_lt_of_le h1 hS.1)).trans (hS.2.1 x h1 h2), hS.2.2⟩ F rfl X'
  refine ⟨t, step t ?_, b1⟩
  have e9 : T0.heap.size = H.size := by rw [hT]
  rw [e9]
  exact a1
end NN
/-- behind a call on the last cells of a list: what came back stands in their place -/
theorem n_join {D : va_G} {cl : List vw_C} {A0 : Nat → Prop} {w0 wc w1 : va_W} {H H1 : Heap} (hP : va_P D cl (w0 ++ wc) H) (hD : va_D A0 (w0 ++ wc)) (hk : ∀ q : Nat, q < H.size → ¬ va_A wc H.size q → H1[q]? = H[q]?) (hF : ∀ q, va_A wc H.size q → A0 q) (hP1 : va_P D cl w1 H1) (hD1 : va_D (va_A wc H.size) w1) : va_P D cl (w0 ++ w1) H1 ∧ va_D A0 (w0 ++ w1) := by
  have a1 : ∀ (k : Nat) (q : Nat × va_E), w0[k]? = some q → (w0 ++ wc)[k]? = some q := fun k q h => by rw [List.getElem?_append_left (List.getElem?_eq_some_iff.mp h).1]; exact h
  have a2 : ∀ (k : Nat) (q : Nat × va_E), wc[k]? = some q → (w0 ++ wc)[w0.length + k]? = some q := fun k q h => by rw [List.getElem?_append_right (by omega), Nat.add_sub_cancel_left]; exact h
  have apart : ∀ (k : Nat) (q : Nat × va_E), w0[k]? = some q → q.1 < H.size ∧ ¬ va_A wc H.size q.1 := by
    intro k q hq
    have hl := (hP k q (a1 k q hq)).lt
    refine ⟨hl, fun h => ?_⟩
    rcases h with ⟨k2, e, h⟩ | h
    · have hij := hD.1 k (w0.length + k2) q (q.1, e) (a1 k q hq) (a2 k2 _ h) rfl
      have := (List.getElem?_eq_some_iff.mp hq).1
      omega
    · omega
  refine ⟨va_P.app (fun k q hq => (hP k q (a1 k q hq)).kept (hk q.1 (apart k q hq).1 (apart k q hq).2)) hP1, va_D.app ⟨fun i j x y hi hj hxy => hD.1 i j x y (a1 i x hi) (a1 j y hj) hxy, fun k q hq => hD.2 k q (a1 k q hq)⟩ (hD1.weaken (fun k q _ h => hF q.1 h)) (fun i j x y hx hy hxy => ?_)⟩
  exact (apart i x hx).2 (by rw [hxy]; exact hD1.2 j y hy)
theorem n_sub {D : va_G} {cl : List vw_C} {w0 wc : va_W} {H : Heap} (hP : va_P D cl (w0 ++ wc) H) : va_P D cl wc H := fun k q h => hP (w0.length + k) q (by rw [List.getElem?_append_right (by omega), Nat.add_sub_cancel_left]; exact h)
theorem n_subD {A : Nat → Prop} {w0 wc : va_W} (hD : va_D A (w0 ++ wc)) : va_D A wc := by
  have a2 : ∀ (k : Nat) (q : Nat × va_E), wc[k]? = some q → (w0 ++ wc)[w0.length + k]? = some q := fun k q h => by rw [List.getElem?_append_right (by omega), Nat.add_sub_cancel_left]; exact h
  exact ⟨fun i j x y hi hj hxy => by have := hD.1 _ _ x y (a2 i x hi) (a2 j y hj) hxy; omega, fun k q h => hD.2 _ q (a2 k q h)⟩
theorem n_free {A0 : Nat → Prop} {w0 wc : va_W} {H0 H : Heap} {locs : List Loc} (hD : va_D A0 (w0 ++ wc)) (hS : va_S A0 H0 H locs) (hA : ∀ q, H0.size ≤ q → A0 q) : ∀ q, va_A wc H.size q → A0 q := by
  intro q h
  rcases h with ⟨k, e, h⟩ | h
  · exact (n_subD hD).2 k (q, e) h
  · exact hA q (Nat.le_trans hS.1 h)

/-! LAYOUTS GLUED: a sublayout stands behind another one, its own references moved -/
def shc (n : Nat) (c : LayC) : LayC := (c.1, c.2.1, if 4 ≤ c.1 then c.2.2.1 + n else c.2.2.1, c.2.2.2.map (fun o => o.map (· + n)))
def shL (n : Nat) (L : Lay) : Lay := L.map (shc n)
def glue {α : Type} (n : Nat) (f g : Nat → α) : Nat → α := fun k => if k < n then f k else g (k - n)
def glueM (n : Nat) (M N : Mem) : Mem := (glue n M.1 N.1, glue n M.2 N.2)
theorem glue_lo {α : Type} {n k : Nat} {f g : Nat → α} (h : k < n) : glue n f g k = f k := if_pos h
theorem glue_hi {α : Type} {n k : Nat} {f g : Nat → α} : glue n f g (n + k) = g k := by
  unfold glue
  rw [if_neg (by omega), Nat.add_sub_cancel_left]
theorem flds_sh {σ : Nat → Nat} {f : Nat → Int32} {n : Nat} {sl : List (Option Nat)} : flds σ f (sl.map (fun o => o.map (· + n))) = flds (fun k => σ (n + k)) f sl := by
  unfold flds
  rw [List.length_map]
  apply List.map_congr_left
  intro j _
  unfold slotV
  rw [List.getElem?_map]
  cases sl[j]? with
  | none => rfl
  | some o =>
    cases o with
    | none => rfl
    | some r => show Value.ref (σ (r + n)) = Value.ref (σ (n + r)); rw [Nat.add_comm]
theorem cell_sh {T : Nat → ClassId} {σ : Nat → Nat} {M : Mem} {n k : Nat} {c : LayC} : cellOf T σ M (n + k) (shc n c) = cellOf T (fun k => σ (n + k)) (fun k => M.1 (n + k), fun k => M.2 (n + k)) k c := by
  obtain ⟨c1, c2, c3, c4⟩ := c
  unfold cellOf shc
  dsimp only
  by_cases h0 : c1 = 0
  · rw [if_pos h0, if_pos h0, flds_sh]
  · rw [if_neg h0, if_neg h0]
    by_cases h1 : c1 = 1
    · rw [if_pos h1, if_pos h1]
    · rw [if_neg h1, if_neg h1]
      by_cases h2 : c1 = 2
      · rw [if_pos h2, if_pos h2]
      · rw [if_neg h2, if_neg h2]
        by_cases h3 : c1 = 3
        · rw [if_pos h3, if_pos h3]
        · rw [if_neg h3, if_neg h3, if_pos (show 4 ≤ c1 by omega)]
          have e : (fun i => if i < c2 then some (σ (c3 + n + i)) else none) = (fun i => if i < c2 then some (σ (n + (c3 + i))) else none) := by
            funext i
            rw [show c3 + n + i = n + (c3 + i) by omega]
          rw [e]
theorem wd_app {T : Nat → ClassId} {σ : Nat → Nat} {M : Mem} {La Lb : Lay} {n : Nat} (hn : La.length = n) : wd T (La ++ shL n Lb) σ M = wd T La σ M ++ wd T Lb (fun k => σ (n + k)) (fun k => M.1 (n + k), fun k => M.2 (n + k)) := by
  subst hn
  apply List.ext_getElem?
  intro j
  by_cases hj : j < La.length
  · have h1 : (La ++ shL La.length Lb)[j]? = some La[j] := by rw [List.getElem?_append_left hj, List.getElem?_eq_getElem hj]
    rw [wd_get h1, List.getElem?_append_left (by rw [wd_len]; exact hj), wd_get (List.getElem?_eq_getElem hj)]
  · obtain ⟨k, rfl⟩ : ∃ k, j = La.length + k := ⟨j - La.length, by omega⟩
    rw [List.getElem?_append_right (by rw [wd_len]; omega), wd_len, Nat.add_sub_cancel_left]
    by_cases hk : k < Lb.length
    · have h1 : (La ++ shL La.length Lb)[La.length + k]? = some (shc La.length Lb[k]) := by
        rw [List.getElem?_append_right (by omega), Nat.add_sub_cancel_left, shL, List.getElem?_map, List.getElem?_eq_getElem hk]
        rfl
      rw [wd_get h1, wd_get (List.getElem?_eq_getElem hk), cell_sh]
    · rw [List.getElem?_eq_none (by rw [wd_len, List.length_append, shL, List.length_map]; omega), List.getElem?_eq_none (by rw [wd_len]; omega)]
theorem wd_glue {T : Nat → ClassId} {σ τ : Nat → Nat} {M N : Mem} {La Lb : Lay} {n : Nat} (hn : La.length = n) : wd T (La ++ shL n Lb) (glue n σ τ) (glueM n M N) = wd T La (glue n σ τ) (glueM n M N) ++ wd T Lb τ N := by
  rw [wd_app hn]
  have e1 : (fun k => glue n σ τ (n + k)) = τ := funext fun k => glue_hi
  have e2 : (fun k => (glueM n M N).1 (n + k)) = N.1 := funext fun k => glue_hi
  have e3 : (fun k => (glueM n M N).2 (n + k)) = N.2 := funext fun k => glue_hi
  rw [e1, e2, e3]
/-- the rows of a grid under a table of addresses -/
theorem n_grid {ro ri : ClassId} {N q b : Nat} {z : vp_A} {σ : Nat → Nat} (h0 : ∀ i, i < N → σ (b + i) = q + 1 + i) : gridW ro ri N q z = (q, .inl (ro, N, .inr (.inr (.inr (.inr (fun i => if i < N then some (σ (b + i)) else none)))))) :: (List.range N).map (fun i => (σ (b + i), .inl (ri, z))) := by
  unfold gridW
  have e1 : (fun i => if i < N then some (q + 1 + i) else none) = (fun i => if i < N then some (σ (b + i)) else none) := by
    funext i
    by_cases h : i < N
    · rw [if_pos h, if_pos h, h0 i h]
    · rw [if_neg h, if_neg h]
  have e2 : (List.range N).map (fun i => (q + 1 + i, (.inl (ri, z) : va_E))) = (List.range N).map (fun i => (σ (b + i), .inl (ri, z))) := by
    apply List.map_congr_left
    intro i hi
    rw [h0 i (List.mem_range.mp hi)]
  rw [e1, e2]
def Z0 : Mem := (fun _ _ => 0, fun _ _ => 0)
/-! THE CONTRACT OF A CONSTRUCTOR: one object at first, a whole layout behind it -/
def preN (D : va_G) (T : Nat → ClassId) (av : List Value) (x : Nat × va_E) (sz : Nat) : Array Value → State → Prop :=
  va_Pc av (fun U => U.heap.size = sz ∧ va_P D vwCl [x] U.heap ∧ va_K D vwCl (tyT T) U ∧ va_D (fun _ => True) [x] ∧ NW U ∧ AO U)
def postN (D : va_G) (T : Nat → ClassId) (L : Lay) (M : Mem) (x : Nat × va_E) (sz : Nat) : Array Value → State → Outcome → State → Prop :=
  va_Qv (fun σ : Nat → Nat => σ 0 = x.1) (fun σ t => va_P D vwCl (wd T L σ M) t.heap ∧ va_D (va_A [x] sz) (wd T L σ M)) (va_A [x] sz)
theorem preN_blind {D : va_G} {T : Nat → ClassId} {av : List Value} {x : Nat × va_E} {sz : Nat} : FrameBlind (preN D T av x sz) := fun a U g mk q => by
  obtain ⟨q0, qz, qP, qK, qD, qN, qO⟩ := q
  exact ⟨q0, qz, qP, va_K.moved (u := U) (U := U.calling g mk a) (Vm.Alike.refl U.vm) qK, qD, NW.same (U := U.calling g mk a) rfl qN, AO.moved (U := U.calling g mk a) (Vm.Alike.refl U.vm) qO⟩
theorem n_of {y : MethodName} {ws ws' : List Cond} {rm : Room} {cc : ByteArray} {maxL mc ms : Nat} {own : String} {l : Launch} {D : va_G} {T : Nat → ClassId} {av : List Value} {x : Nat × va_E} {sz : Nat} {Qc : Array Value → State → Outcome → State → Prop} (hy : plainName y.cls = true) (hw : ws = Cond.code y cc maxL none :: ws') (hown : y.cls = own) (hyn : y.name = "<init>") (hlen : (lg_sl av).length ≤ maxL)
    (body : ∀ (p : Program) (e : Env) (s : State) (m : MethodId) (args : Array Value) (below : List Frame) (meth : Method) (c : Code) (H : Heap) (ls : Array Slot) (locs : List Loc) (A : Nat → Prop), CallFix p m c cc maxL s args ws own → meth.sig.returnType = none → meth.locks = false → meth.name = "<init>" → lv_has ls maxL (lv_args 0 av) → s.heap.size = sz → A = va_A [x] sz → (∀ q, s.heap.size ≤ q → A q) → va_K D vwCl (tyT T) s → va_P D vwCl [x] H → va_D A [x] → va_S A s.heap H locs → NW s → AO s →
      W p l e rm s m args below meth c H locs 0 0 (MQ below Qc args s mc ms A) (F0 m 0 ls [])) : Met l y ws rm (preN D T av x sz) Qc mc ms (va_A [x] sz) := by
  refine Met.ofW (cc := cc) (maxL := maxL) (ret := none) hy hw ?_
  intro p e s m args below meth c s₁ B hml hv
  obtain ⟨rfl, hz, hP, hK, hD, hN, hO⟩ := hv
  have hts := atoms_spec (ws := ws) B.pre
  have hf : s.vm.findClass own = some m.cls := by rw [← hown]; exact findClass_of_methodNamed B.named
  have hin : meth.name = "<init>" := by rw [← hyn]; exact (name_of_methodNamed B.named B.method).1
  have hl := lv_entry av (n := maxL) hlen
  rw [lg_entry_eq]
  exact body p e s m _ below meth c s.heap _ [] _ ⟨B.exec, B.bytes, hml, hf, hts⟩ B.returns B.notSynchronized hin hl hz rfl (fun q h => Or.inr (by rw [← hz]; exact h)) hK hP hD.self va_S.rf hN hO
section NI
variable {p : Program} {l : Launch} {e : Env} {R : Room} {s : State} {m : MethodId} {args a : Array Value} {below : List Frame} {meth : Method} {c : Code} {H H0 : Heap} {locs : List Loc} {cells slots : Nat} {Q : State → Prop}
variable {cc : ByteArray} {pc nL : Nat} {ls : Array Slot} {rest st : List Value} {own : String} {Ts : List Cond} {D : va_G} {T : Nat → ClassId} {A : Nat → Prop} {tl w0 : va_W} {h0 : Nat}
theorem n_put (S : CallFix p m c cc nL s args Ts own) (hK : va_K D vwCl (tyT T) s) {C : String} {TX : u_T} {N ci : Nat} {fs : List Value} (hP : va_P D vwCl ((h0, .inr (ci, fs)) :: tl) H) (hD : va_D A ((h0, .inr (ci, fs)) :: tl)) (hS : va_S A H0 H locs) (k : Nat) {index : Nat} (hin : ∀ w ∈ u_ws C TX N, w ∈ Ts) (hc : vwCl[ci]? = some (C, TX, N)) (hlink : (Cond.fieldLink own index C (TX k).2.1 (TX k).2.2.1).before args s = true) (hr : (TX k).1 = C) (hk : k < N)
    (ty0 : Nat → FieldType) (hty : ∀ k, k < N → parseFieldDescriptor (TX k).2.2.1 = some (ty0 k)) (hnm : ∀ a, a < N → ∀ b, b < N → a ≠ b → (TX a).2.1 ≠ (TX b).2.1) (hfin : (TX k).2.2.2 = false ∨ (meth.name = "<init>" ∧ C = own)) {v : Value} (hn : narrow (ty0 k) v = v) (hfit : fits (ty0 k) v = true) (hl : k < fs.length) (hdg : decode cc pc = .ok (.putfield index, 3))
    (kk : ∀ (H1 : Heap) (locs1 : List Loc), va_P D vwCl ((h0, .inr (ci, fs.set k v)) :: tl) H1 → va_D A ((h0, .inr (ci, fs.set k v)) :: tl) → va_S A H0 H1 locs1 → W p l e R s m args below meth c H1 locs1 cells slots Q (F0 m (pc + 3) ls rest)) : W p l e R s m args below meth c H locs cells slots Q (F0 m pc ls (v :: .ref h0 :: rest)) := by
  by_cases hf : (TX k).2.2.2 = false
  · exact va_put S.1 S.2.1 S.2.2.2.2 hin ty0 hty hnm S.2.2.2.1 hK hP hD hS 0 rfl hc k hk hlink (fun x h => by rw [← hr]; exact h) hf (hty k hk) hn hfit hl hdg (fun H1 locs1 hP1 hD1 hS1 => kk H1 locs1 hP1 hD1 hS1)
  · obtain ⟨h1, h2⟩ := hfin.resolve_left hf
    exact va_putF S.1 S.2.1 S.2.2.2.2 hin ty0 hty hnm S.2.2.2.1 hK hP hD hS 0 rfl hc k hk hlink (fun x h => by rw [← hr]; exact h) (by cases hq : (TX k).2.2.2 with
      | true => rfl
      | false => exact absurd hq hf) h1 (hr.trans h2) (hty k hk) hn hfit hl hdg (fun H1 locs1 hP1 hD1 hS1 => kk H1 locs1 hP1 hD1 hS1)
theorem n_callI (S : CallFix p m c cc nL s args Ts own) (hK : va_K D vwCl (tyT T) s) (hN : NW s) (hO : AO s) {x : Nat × va_E} (hP : va_P D vwCl (w0 ++ [x]) H) (hD : va_D A (w0 ++ [x])) (hS : va_S A H0 H locs) (hA : ∀ q, H0.size ≤ q → A q) {y : MethodName} {ws : List Cond} {rm : Room} {bytes : ByteArray} {maxL n index mc ms : Nat} {As : List Value} {L : Lay} {M : Mem}
    (hM : Met l y ws rm (preN D T (.ref x.1 :: As) x H.size) (postN D T L M x H.size) mc ms (va_A [x] H.size)) (cw : CallB R s args own index y bytes maxL none ws rm mc ms n ∧ y.name = "<init>" ∧ (Cond.instanceMethod y).before args s = true)
    (hn : As.length = n) (hls : ls.size = nL) (hst : st = As.reverse ++ .ref x.1 :: rest) (hcat : (rest.map fun v => v.category).sum ≤ 8) (hdg : decode cc pc = .ok (.invokespecial index, 3)) (hf : cells + mc ≤ R.cells ∧ slots + ms ≤ R.slots)
    (kk : ∀ (σ : Nat → Nat) (H1 : Heap) (locs1 : List Loc), σ 0 = x.1 → va_P D vwCl (w0 ++ wd T L σ M) H1 → va_D A (w0 ++ wd T L σ M) → va_S A H0 H1 locs1 → W p l e R s m args below meth c H1 locs1 (cells + mc) (slots + ms) Q (F0 m (pc + 3) ls rest)) : W p l e R s m args below meth c H locs cells slots Q (F0 m pc ls st) := by
  have hF := n_free hD hS hA
  have hPc := n_sub hP
  have hDc := n_subD hD
  refine va_callv (va_runI S hM cw ⟨preN_blind, fun U hU hWm => ⟨rfl, by rw [hU], by rw [hU]; exact hPc, va_K.moved hWm.alike hK, hDc.weaken (fun _ _ _ _ => trivial), NW.warm hWm hN, AO.moved hWm.alike hO⟩⟩ rfl hn hls hst (lv_room hcat) hdg hf) hS (fun q _ h => hF q h) hF (fun σ t H1 locs1 ht hvm hp hB hz hk hS1 => ?_)
  obtain ⟨hP1, hD1⟩ := hB
  rw [ht] at hP1
  obtain ⟨g1, g2⟩ := n_join hP hD hk hF hP1 hD1
  exact kk σ H1 locs1 hp g1 g2 hS1
theorem n_vret {L : Lay} {M : Mem} {x : Nat × va_E} {ws : va_W} {sz : Nat} (S : CallFix p m c cc nL s args Ts own) (hr : meth.sig.returnType = none) (hlk : meth.locks = false) (hAe : A = va_A [x] sz) (hP : va_P D vwCl ws H) (hD : va_D A ws) (hS : va_S A s.heap H locs) (σ : Nat → Nat) (h0 : σ 0 = x.1) (he : ws = wd T L σ M) (hdg : decode cc pc = .ok (.return_, 1)) :
    W p l e R s m args below meth c H locs cells slots (MQ below (postN D T L M x sz) args s cells slots A) (F0 m pc ls []) := by
  subst he
  subst hAe
  exact W.vret S.1 S.2.1 hr (fun t ht hWm => ⟨⟨σ, rfl, h0, by rw [ht]; exact hP, hD⟩, hS.F ht⟩) hS.2.2 hdg hlk
end NI
/-! A CALL, AND WHAT STAYS: the rows of a call that also say that all else is unchanged -/
section RD
variable {p : Program} {l : Launch} {e : Env} {R : Room} {s : State} {m : MethodId} {args a : Array Value} {below : List Frame} {meth : Method} {c : Code} {H H0 : Heap} {locs : List Loc} {cells slots : Nat} {Q : State → Prop}
variable {pc : Nat} {ls : Array Slot} {rest st : List Value} {D : va_G} {T : Nat → ClassId} {L : Lay} {σ : Nat → Nat} {M : Mem} {A : Nat → Prop}
theorem r_goI2 {post : Int32 → Mem → Prop} (hr : va_Run p l e R s m args below meth c H locs cells slots 0 0 (F0 m pc ls st) rest (postI D T L σ post a) (fA L σ)) (hW : Wd D T L σ M A s H0 H locs)
    (kk : ∀ (r : Int32) (M1 : Mem) (H1 : Heap) (locs1 : List Loc), post r M1 → Wd D T L σ M1 A s H0 H1 locs1 → (∀ q : Nat, q < H.size → ¬ fA L σ q → H1[q]? = H[q]?) → W p l e R s m args below meth c H1 locs1 cells slots Q (F0 m (pc + 3) ls (.int r :: rest))) : W p l e R s m args below meth c H locs cells slots Q (F0 m pc ls st) := by
  obtain ⟨hK, hP, hD, hS, hN⟩ := hW
  refine va_calli hr hS (fun q _ h => fA_in hD q h) (fun q h => fA_in hD q h) (fun r M1 t H1 locs1 ht hvm hp hB hz hk hS1 => ?_)
  obtain ⟨hP1, hK1⟩ := hB
  rw [ht] at hP1
  exact kk r M1 H1 locs1 hp ⟨hK, hP1, wd_D hD, hS1, hN⟩ hk
theorem r_goL2 {post : Int64 → Mem → Prop} (hr : va_Run p l e R s m args below meth c H locs cells slots 0 0 (F0 m pc ls st) rest (postL D T L σ post a) (fA L σ)) (hW : Wd D T L σ M A s H0 H locs)
    (kk : ∀ (r : Int64) (M1 : Mem) (H1 : Heap) (locs1 : List Loc), post r M1 → Wd D T L σ M1 A s H0 H1 locs1 → (∀ q : Nat, q < H.size → ¬ fA L σ q → H1[q]? = H[q]?) → W p l e R s m args below meth c H1 locs1 cells slots Q (F0 m (pc + 3) ls (.long r :: rest))) : W p l e R s m args below meth c H locs cells slots Q (F0 m pc ls st) := by
  obtain ⟨hK, hP, hD, hS, hN⟩ := hW
  refine va_calll hr hS (fun q _ h => fA_in hD q h) (fun q h => fA_in hD q h) (fun r M1 t H1 locs1 ht hvm hp hB hz hk hS1 => ?_)
  obtain ⟨hP1, hK1⟩ := hB
  rw [ht] at hP1
  exact kk r M1 H1 locs1 hp ⟨hK, hP1, wd_D hD, hS1, hN⟩ hk
theorem r_goV2 {post : Mem → Prop} (hr : va_Run p l e R s m args below meth c H locs cells slots 0 0 (F0 m pc ls st) rest (postV D T L σ post a) (fA L σ)) (hW : Wd D T L σ M A s H0 H locs)
    (kk : ∀ (M1 : Mem) (H1 : Heap) (locs1 : List Loc), post M1 → Wd D T L σ M1 A s H0 H1 locs1 → (∀ q : Nat, q < H.size → ¬ fA L σ q → H1[q]? = H[q]?) → W p l e R s m args below meth c H1 locs1 cells slots Q (F0 m (pc + 3) ls rest)) : W p l e R s m args below meth c H locs cells slots Q (F0 m pc ls st) := by
  obtain ⟨hK, hP, hD, hS, hN⟩ := hW
  refine va_callv hr hS (fun q _ h => fA_in hD q h) (fun q h => fA_in hD q h) (fun M1 t H1 locs1 ht hvm hp hB hz hk hS1 => ?_)
  obtain ⟨hP1, hK1⟩ := hB
  rw [ht] at hP1
  exact kk M1 H1 locs1 hp ⟨hK, hP1, wd_D hD, hS1, hN⟩ hk
/-- the other world stays -/
theorem keepW {L2 : Lay} {τ : Nat → Nat} {M1 N : Mem} {H1 : Heap} {locs1 : List Loc} (hV : Wd D T L2 τ N A s H0 H locs) (hW : Wd D T L σ M1 A s H0 H1 locs1) (hk : ∀ q : Nat, q < H.size → ¬ fA L σ q → H1[q]? = H[q]?) (hd : ∀ i, i < L.length → ∀ j, j < L2.length → σ i ≠ τ j) : Wd D T L2 τ N A s H0 H1 locs1 :=
  ⟨hV.1, hV.2.1.kept (fun k q hq => hk q.1 ((hV.2.1 k q hq).lt) (fun h => by
    obtain ⟨i, hi, e⟩ := h
    obtain ⟨hj, e2⟩ := wd_in hq
    exact hd i hi k hj (e.symm.trans e2))), hV.2.2.1, hW.2.2.2.1, hV.2.2.2.2⟩
end RD
end
