section
theorem goodIn_r {big : List Cond} (ws : List Cond) (ps : List Nat) (hp : ws = ps.filterMap (fun i => big[i]?)) (h : ws.all goodWord = true) : GoodIn big ws := by
  intro w hw
  have h1 := List.all_eq_true.mp h w hw
  rw [hp] at hw
  obtain ⟨i, -, hi⟩ := List.mem_filterMap.mp hw
  have hm : w ∈ big := by first | exact List.mem_of_getElem? hi | exact List.getElem?_mem hi
  exact ⟨hm, good_of_word h1⟩
theorem goodIn_app {big a b : List Cond} (ha : GoodIn big a) (hb : GoodIn big b) : GoodIn big (a ++ b) := fun w h => (List.mem_append.mp h).elim (ha w) (hb w)
theorem goodIn_ca {big a b : List Cond} {c : Cond} (ha : GoodIn big (c :: a)) (hb : GoodIn big b) : GoodIn big (c :: (a ++ b)) := fun w h => (List.mem_cons.mp h).elim (fun e => ha w (List.mem_cons.mpr (Or.inl e))) (fun h => (List.mem_append.mp h).elim (fun h => ha w (List.mem_cons.mpr (Or.inr h))) (hb w))
theorem goodIn_sub {big ws : List Cond} (hm : ∀ w ∈ ws, w ∈ big) (h : ws.all goodWord = true) : GoodIn big ws := fun w hw => ⟨hm w hw, good_of_word (List.all_eq_true.mp h w hw)⟩
def RX0 : String := "MachineHall$Flow"
def TX0 : u_T := fun k => match k with
  | 0 => ("MachineHall$Flow", "nodes", "I", true)
  | 1 => ("MachineHall$Flow", "open", "[[I", true)
  | 2 => ("MachineHall$Flow", "cameFrom", "[I", true)
  | _ => ("MachineHall$Flow", "reached", "[I", true)
def tyX0 : Nat → FieldType := fun k => match k with
  | 0 => .int
  | 1 => .array (.array .int)
  | 2 => .array .int
  | _ => .array .int
abbrev wsX00 : List Cond := u_ws RX0 TX0 4
theorem nmX0 : ∀ a, a < 4 → ∀ b, b < 4 → a ≠ b → (TX0 a).2.1 ≠ (TX0 b).2.1 := by decide +kernel
theorem tyX0_ok : ∀ k, k < 4 → parseFieldDescriptor (TX0 k).2.2.1 = some (tyX0 k) := by decide +kernel
abbrev cX0_init : ByteArray := prog_2_method_1_code
def yX0_init : MethodName := ⟨RX0, "<init>", "(I)V"⟩
abbrev cX0_empty : ByteArray := prog_2_method_2_code
def yX0_empty : MethodName := ⟨RX0, "empty", "()V"⟩
abbrev cX0_pipe : ByteArray := prog_2_method_3_code
def yX0_pipe : MethodName := ⟨RX0, "pipe", "(III)V"⟩
abbrev cX0_push : ByteArray := prog_2_method_4_code
def yX0_push : MethodName := ⟨RX0, "push", "(III)I"⟩
abbrev cX0_settle : ByteArray := prog_2_method_5_code
def yX0_settle : MethodName := ⟨RX0, "settle", "(II)I"⟩
abbrev cX0_findWay : ByteArray := prog_2_method_6_code
def yX0_findWay : MethodName := ⟨RX0, "findWay", "(II)Z"⟩
abbrev cX0_send : ByteArray := prog_2_method_7_code
def yX0_send : MethodName := ⟨RX0, "send", "(III)I"⟩
def RX1 : String := "MachineHall$Hall"
def TX1 : u_T := fun k => match k with
  | 0 => ("MachineHall$Hall", "machines", "I", false)
  | 1 => ("MachineHall$Hall", "asks", "I", false)
  | 2 => ("MachineHall$Hall", "sizes", "[I", true)
  | 3 => ("MachineHall$Hall", "inRoom", "[I", true)
  | 4 => ("MachineHall$Hall", "ups", "I", false)
  | 5 => ("MachineHall$Hall", "needs", "[I", true)
  | 6 => ("MachineHall$Hall", "foes", "[I", true)
  | 7 => ("MachineHall$Hall", "ofHour", "[I", true)
  | 8 => ("MachineHall$Hall", "load", "[I", true)
  | 9 => ("MachineHall$Hall", "clash", "[Z", true)
  | 10 => ("MachineHall$Hall", "asked", "[Z", true)
  | 11 => ("MachineHall$Hall", "latest", "[I", true)
  | _ => ("MachineHall$Hall", "latestFor", "I", false)
def tyX1 : Nat → FieldType := fun k => match k with
  | 0 => .int
  | 1 => .int
  | 2 => .array .int
  | 3 => .array .int
  | 4 => .int
  | 5 => .array .int
  | 6 => .array .int
  | 7 => .array .int
  | 8 => .array .int
  | 9 => .array .boolean
  | 10 => .array .boolean
  | 11 => .array .int
  | _ => .int
abbrev wsX10 : List Cond := u_ws RX1 TX1 13
theorem nmX1 : ∀ a, a < 13 → ∀ b, b < 13 → a ≠ b → (TX1 a).2.1 ≠ (TX1 b).2.1 := by decide +kernel
theorem tyX1_ok : ∀ k, k < 13 → parseFieldDescriptor (TX1 k).2.2.1 = some (tyX1 k) := by decide +kernel
abbrev cX1_init : ByteArray := prog_3_method_1_code
def yX1_init : MethodName := ⟨RX1, "<init>", "()V"⟩
abbrev cX1_isFall : ByteArray := prog_3_method_2_code
def yX1_isFall : MethodName := ⟨RX1, "isFall", "(I)Z"⟩
abbrev cX1_hasMachine : ByteArray := prog_3_method_3_code
def yX1_hasMachine : MethodName := ⟨RX1, "hasMachine", "(I)Z"⟩
abbrev cX1_hasAsk : ByteArray := prog_3_method_4_code
def yX1_hasAsk : MethodName := ⟨RX1, "hasAsk", "(I)Z"⟩
abbrev cX1_isUp : ByteArray := prog_3_method_5_code
def yX1_isUp : MethodName := ⟨RX1, "isUp", "(I)Z"⟩
abbrev cX1_isAskOf : ByteArray := prog_3_method_6_code
def yX1_isAskOf : MethodName := ⟨RX1, "isAskOf", "(II)Z"⟩
abbrev cX1_areFoes : ByteArray := prog_3_method_7_code
def yX1_areFoes : MethodName := ⟨RX1, "areFoes", "(II)Z"⟩
abbrev cX1_addMachine : ByteArray := prog_3_method_8_code
def yX1_addMachine : MethodName := ⟨RX1, "addMachine", "(II)I"⟩
abbrev cX1_turn : ByteArray := prog_3_method_9_code
def yX1_turn : MethodName := ⟨RX1, "turn", "(I)V"⟩
abbrev cX1_addAsk : ByteArray := prog_3_method_10_code
def yX1_addAsk : MethodName := ⟨RX1, "addAsk", "(III)I"⟩
abbrev cX1_turnFoes : ByteArray := prog_3_method_11_code
def yX1_turnFoes : MethodName := ⟨RX1, "turnFoes", "(II)V"⟩
abbrev cX1_standing : ByteArray := prog_3_method_12_code
def yX1_standing : MethodName := ⟨RX1, "standing", "(I)I"⟩
abbrev cX1_sizeOf : ByteArray := prog_3_method_13_code
def yX1_sizeOf : MethodName := ⟨RX1, "sizeOf", "(I)I"⟩
abbrev cX1_holds : ByteArray := prog_3_method_14_code
def yX1_holds : MethodName := ⟨RX1, "holds", "(II)Z"⟩
abbrev cX1_layingOf : ByteArray := prog_3_method_15_code
def yX1_layingOf : MethodName := ⟨RX1, "layingOf", "(III)I"⟩
abbrev cX1_lacking : ByteArray := prog_3_method_16_code
def yX1_lacking : MethodName := ⟨RX1, "lacking", "(II)I"⟩
abbrev cX1_leftOver : ByteArray := prog_3_method_17_code
def yX1_leftOver : MethodName := ⟨RX1, "leftOver", "(II)I"⟩
abbrev cX1_firstUnfit : ByteArray := prog_3_method_18_code
def yX1_firstUnfit : MethodName := ⟨RX1, "firstUnfit", "(I)I"⟩
abbrev cX1_isLookedAt : ByteArray := prog_3_method_19_code
def yX1_isLookedAt : MethodName := ⟨RX1, "isLookedAt", "(II)Z"⟩
abbrev cX1_firstUnfitHour : ByteArray := prog_3_method_20_code
def yX1_firstUnfitHour : MethodName := ⟨RX1, "firstUnfitHour", "(II)I"⟩
abbrev cX1_markAsked : ByteArray := prog_3_method_21_code
def yX1_markAsked : MethodName := ⟨RX1, "markAsked", "(I)V"⟩
abbrev cX1_tally : ByteArray := prog_3_method_22_code
def yX1_tally : MethodName := ⟨RX1, "tally", "()V"⟩
abbrev cX1_findLatest : ByteArray := prog_3_method_23_code
def yX1_findLatest : MethodName := ⟨RX1, "findLatest", "(I)V"⟩
abbrev cX1_findWith : ByteArray := prog_3_method_24_code
def yX1_findWith : MethodName := ⟨RX1, "findWith", "(II)V"⟩
abbrev cX1_greatestOn : ByteArray := prog_3_method_25_code
def yX1_greatestOn : MethodName := ⟨RX1, "greatestOn", "(II)I"⟩
abbrev cX1_has : ByteArray := prog_3_method_26_code
def yX1_has : MethodName := ⟨RX1, "has", "(II)Z"⟩
def RX2 : String := "MachineHall$Market"
def TX2 : u_T := fun k => match k with
  | 0 => ("MachineHall$Market", "types", "I", false)
  | 1 => ("MachineHall$Market", "least", "I", false)
  | 2 => ("MachineHall$Market", "bought", "[[I", true)
  | 3 => ("MachineHall$Market", "owned", "I", false)
  | 4 => ("MachineHall$Market", "wants", "[I", true)
  | 5 => ("MachineHall$Market", "sizes", "[I", true)
  | 6 => ("MachineHall$Market", "leads", "[I", true)
  | 7 => ("MachineHall$Market", "powers", "[I", true)
  | 8 => ("MachineHall$Market", "prices", "[[I", true)
  | 9 => ("MachineHall$Market", "toPay", "[I", true)
  | 10 => ("MachineHall$Market", "oneMore", "[J", true)
  | _ => ("MachineHall$Market", "solved", "Z", false)
def tyX2 : Nat → FieldType := fun k => match k with
  | 0 => .int
  | 1 => .int
  | 2 => .array (.array .int)
  | 3 => .int
  | 4 => .array .int
  | 5 => .array .int
  | 6 => .array .int
  | 7 => .array .int
  | 8 => .array (.array .int)
  | 9 => .array .int
  | 10 => .array .long
  | _ => .boolean
abbrev wsX20 : List Cond := u_ws RX2 TX2 12
theorem nmX2 : ∀ a, a < 12 → ∀ b, b < 12 → a ≠ b → (TX2 a).2.1 ≠ (TX2 b).2.1 := by decide +kernel
theorem tyX2_ok : ∀ k, k < 12 → parseFieldDescriptor (TX2 k).2.2.1 = some (tyX2 k) := by decide +kernel
abbrev cX2_init : ByteArray := prog_4_method_1_code
def yX2_init : MethodName := ⟨RX2, "<init>", "()V"⟩
abbrev cX2_hasType : ByteArray := prog_4_method_2_code
def yX2_hasType : MethodName := ⟨RX2, "hasType", "(I)Z"⟩
abbrev cX2_isEnough : ByteArray := prog_4_method_3_code
def yX2_isEnough : MethodName := ⟨RX2, "isEnough", "()Z"⟩
abbrev cX2_want : ByteArray := prog_4_method_4_code
def yX2_want : MethodName := ⟨RX2, "want", "(LMachineHall$Sheets;I)V"⟩
abbrev cX2_own : ByteArray := prog_4_method_5_code
def yX2_own : MethodName := ⟨RX2, "own", "(I)V"⟩
abbrev cX2_addType : ByteArray := prog_4_method_6_code
def yX2_addType : MethodName := ⟨RX2, "addType", "(IIILMachineHall$Sheets;I)I"⟩
abbrev cX2_solve : ByteArray := prog_4_method_7_code
def yX2_solve : MethodName := ⟨RX2, "solve", "()V"⟩
abbrev cX2_offer : ByteArray := prog_4_method_8_code
def yX2_offer : MethodName := ⟨RX2, "offer", "(II)V"⟩
abbrev cX2_choose : ByteArray := prog_4_method_9_code
def yX2_choose : MethodName := ⟨RX2, "choose", "()V"⟩
abbrev cX2_mustBuy : ByteArray := prog_4_method_10_code
def yX2_mustBuy : MethodName := ⟨RX2, "mustBuy", "(III)Z"⟩
abbrev cX2_word : ByteArray := prog_4_method_11_code
def yX2_word : MethodName := ⟨RX2, "word", "(III)I"⟩
def RX3 : String := "MachineHall$Plan"
def TX3 : u_T := fun k => match k with
  | 0 => ("MachineHall$Plan", "batches", "I", false)
  | 1 => ("MachineHall$Plan", "unlaid", "I", false)
  | 2 => ("MachineHall$Plan", "parts", "[[I", true)
  | 3 => ("MachineHall$Plan", "works", "[I", true)
  | 4 => ("MachineHall$Plan", "froms", "[I", true)
  | 5 => ("MachineHall$Plan", "dues", "[I", true)
  | 6 => ("MachineHall$Plan", "mosts", "[I", true)
  | 7 => ("MachineHall$Plan", "flow", "LMachineHall$Flow;", true)
  | _ => ("MachineHall$Plan", "laidFor", "I", false)
def tyX3 : Nat → FieldType := fun k => match k with
  | 0 => .int
  | 1 => .int
  | 2 => .array (.array .int)
  | 3 => .array .int
  | 4 => .array .int
  | 5 => .array .int
  | 6 => .array .int
  | 7 => .object "MachineHall$Flow"
  | _ => .int
abbrev wsX30 : List Cond := u_ws RX3 TX3 9
theorem nmX3 : ∀ a, a < 9 → ∀ b, b < 9 → a ≠ b → (TX3 a).2.1 ≠ (TX3 b).2.1 := by decide +kernel
theorem tyX3_ok : ∀ k, k < 9 → parseFieldDescriptor (TX3 k).2.2.1 = some (tyX3 k) := by decide +kernel
abbrev cX3_init : ByteArray := prog_5_method_1_code
def yX3_init : MethodName := ⟨RX3, "<init>", "()V"⟩
abbrev cX3_hasBatch : ByteArray := prog_5_method_2_code
def yX3_hasBatch : MethodName := ⟨RX3, "hasBatch", "(I)Z"⟩
abbrev cX3_addBatch : ByteArray := prog_5_method_3_code
def yX3_addBatch : MethodName := ⟨RX3, "addBatch", "(IIII)I"⟩
abbrev cX3_forget : ByteArray := prog_5_method_4_code
def yX3_forget : MethodName := ⟨RX3, "forget", "()V"⟩
abbrev cX3_lay : ByteArray := prog_5_method_5_code
def yX3_lay : MethodName := ⟨RX3, "lay", "(LMachineHall$Hall;I)V"⟩
abbrev cX3_layPipes : ByteArray := prog_5_method_6_code
def yX3_layPipes : MethodName := ⟨RX3, "layPipes", "(LMachineHall$Hall;I)I"⟩
abbrev cX3_settleParts : ByteArray := prog_5_method_7_code
def yX3_settleParts : MethodName := ⟨RX3, "settleParts", "()V"⟩
def RX4 : String := "MachineHall$Sheets"
def TX4 : u_T := fun k => match k with
  | 0 => ("MachineHall$Sheets", "numbers", "[[J", true)
  | 1 => ("MachineHall$Sheets", "sorts", "[I", true)
  | _ => ("MachineHall$Sheets", "lengths", "[I", true)
def tyX4 : Nat → FieldType := fun k => match k with
  | 0 => .array (.array .long)
  | 1 => .array .int
  | _ => .array .int
abbrev wsX40 : List Cond := u_ws RX4 TX4 3
theorem nmX4 : ∀ a, a < 3 → ∀ b, b < 3 → a ≠ b → (TX4 a).2.1 ≠ (TX4 b).2.1 := by decide +kernel
theorem tyX4_ok : ∀ k, k < 3 → parseFieldDescriptor (TX4 k).2.2.1 = some (tyX4 k) := by decide +kernel
abbrev cX4_init : ByteArray := prog_6_method_1_code
def yX4_init : MethodName := ⟨RX4, "<init>", "()V"⟩
abbrev cX4_isNumber : ByteArray := prog_6_method_2_code
def yX4_isNumber : MethodName := ⟨RX4, "isNumber", "(I)Z"⟩
abbrev cX4_isMissing : ByteArray := prog_6_method_3_code
def yX4_isMissing : MethodName := ⟨RX4, "isMissing", "(I)Z"⟩
abbrev cX4_make : ByteArray := prog_6_method_4_code
def yX4_make : MethodName := ⟨RX4, "make", "(III)V"⟩
abbrev cX4_lose : ByteArray := prog_6_method_5_code
def yX4_lose : MethodName := ⟨RX4, "lose", "(I)V"⟩
abbrev cX4_at : ByteArray := prog_6_method_6_code
def yX4_at : MethodName := ⟨RX4, "at", "(II)J"⟩
abbrev cX4_put : ByteArray := prog_6_method_7_code
def yX4_put : MethodName := ⟨RX4, "put", "(IIJ)V"⟩
abbrev cX4_whyNoPlace : ByteArray := prog_6_method_8_code
def yX4_whyNoPlace : MethodName := ⟨RX4, "whyNoPlace", "(II)I"⟩
abbrev cX4_whyNotFirst : ByteArray := prog_6_method_9_code
def yX4_whyNotFirst : MethodName := ⟨RX4, "whyNotFirst", "(III)I"⟩
abbrev cX4_spans : ByteArray := prog_6_method_10_code
def yX4_spans : MethodName := ⟨RX4, "spans", "(III)Z"⟩
abbrev cX4_carry : ByteArray := prog_6_method_11_code
def yX4_carry : MethodName := ⟨RX4, "carry", "(IIIII)V"⟩
abbrev cX4_cut : ByteArray := prog_6_method_12_code
def yX4_cut : MethodName := ⟨RX4, "cut", "(JI)J"⟩
def RX5 : String := "MachineHall$Waiting"
def TX5 : u_T := fun k => match k with
  | 0 => ("MachineHall$Waiting", "greatest", "I", false)
  | 1 => ("MachineHall$Waiting", "together", "I", false)
  | 2 => ("MachineHall$Waiting", "came", "I", false)
  | 3 => ("MachineHall$Waiting", "waited", "I", false)
  | 4 => ("MachineHall$Waiting", "end", "I", false)
  | _ => ("MachineHall$Waiting", "freeAt", "[I", true)
def tyX5 : Nat → FieldType := fun k => match k with
  | 0 => .int
  | 1 => .int
  | 2 => .int
  | 3 => .int
  | 4 => .int
  | _ => .array .int
abbrev wsX50 : List Cond := u_ws RX5 TX5 6
theorem nmX5 : ∀ a, a < 6 → ∀ b, b < 6 → a ≠ b → (TX5 a).2.1 ≠ (TX5 b).2.1 := by decide +kernel
theorem tyX5_ok : ∀ k, k < 6 → parseFieldDescriptor (TX5 k).2.2.1 = some (tyX5 k) := by decide +kernel
abbrev cX5_init : ByteArray := prog_7_method_1_code
def yX5_init : MethodName := ⟨RX5, "<init>", "()V"⟩
abbrev cX5_serve : ByteArray := prog_7_method_2_code
def yX5_serve : MethodName := ⟨RX5, "serve", "(LMachineHall$Sheets;IIII)V"⟩
abbrev cX5_told : ByteArray := prog_7_method_3_code
def yX5_told : MethodName := ⟨RX5, "told", "(I)I"⟩
abbrev cX5_note : ByteArray := prog_7_method_4_code
def yX5_note : MethodName := ⟨RX5, "note", "(I)V"⟩
def RX6 : String := "MachineHall"
def TX6 : u_T := fun k => match k with
  | 0 => ("MachineHall", "sheets", "LMachineHall$Sheets;", true)
  | 1 => ("MachineHall", "hall", "LMachineHall$Hall;", true)
  | 2 => ("MachineHall", "plan", "LMachineHall$Plan;", true)
  | 3 => ("MachineHall", "waiting", "LMachineHall$Waiting;", true)
  | 4 => ("MachineHall", "market", "LMachineHall$Market;", true)
  | _ => ("MachineHall", "status", "I", false)
def tyX6 : Nat → FieldType := fun k => match k with
  | 0 => .object "MachineHall$Sheets"
  | 1 => .object "MachineHall$Hall"
  | 2 => .object "MachineHall$Plan"
  | 3 => .object "MachineHall$Waiting"
  | 4 => .object "MachineHall$Market"
  | _ => .int
abbrev wsX60 : List Cond := u_ws RX6 TX6 6
theorem nmX6 : ∀ a, a < 6 → ∀ b, b < 6 → a ≠ b → (TX6 a).2.1 ≠ (TX6 b).2.1 := by decide +kernel
theorem tyX6_ok : ∀ k, k < 6 → parseFieldDescriptor (TX6 k).2.2.1 = some (tyX6 k) := by decide +kernel
abbrev cX6_init : ByteArray := prog_1_method_1_code
def yX6_init : MethodName := ⟨RX6, "<init>", "()V"⟩
abbrev cX6_status : ByteArray := prog_1_method_2_code
def yX6_status : MethodName := ⟨RX6, "status", "()I"⟩
abbrev cX6_sheet : ByteArray := prog_1_method_3_code
def yX6_sheet : MethodName := ⟨RX6, "sheet", "(III)Z"⟩
abbrev cX6_write : ByteArray := prog_1_method_4_code
def yX6_write : MethodName := ⟨RX6, "write", "(IIJ)Z"⟩
abbrev cX6_read : ByteArray := prog_1_method_5_code
def yX6_read : MethodName := ⟨RX6, "read", "(II)J"⟩
abbrev cX6_drop : ByteArray := prog_1_method_6_code
def yX6_drop : MethodName := ⟨RX6, "drop", "(I)Z"⟩
abbrev cX6_copy : ByteArray := prog_1_method_7_code
def yX6_copy : MethodName := ⟨RX6, "copy", "(IIIII)Z"⟩
abbrev cX6_none : ByteArray := prog_1_method_8_code
def yX6_none : MethodName := ⟨RX6, "none", "()Z"⟩
abbrev cX6_machine : ByteArray := prog_1_method_9_code
def yX6_machine : MethodName := ⟨RX6, "machine", "(II)I"⟩
abbrev cX6_up : ByteArray := prog_1_method_10_code
def yX6_up : MethodName := ⟨RX6, "up", "(IZ)Z"⟩
abbrev cX6_ask : ByteArray := prog_1_method_11_code
def yX6_ask : MethodName := ⟨RX6, "ask", "(III)I"⟩
abbrev cX6_apart : ByteArray := prog_1_method_12_code
def yX6_apart : MethodName := ⟨RX6, "apart", "(IIZ)Z"⟩
abbrev cX6_count : ByteArray := prog_1_method_13_code
def yX6_count : MethodName := ⟨RX6, "count", "(I)I"⟩
abbrev cX6_fits : ByteArray := prog_1_method_14_code
def yX6_fits : MethodName := ⟨RX6, "fits", "(II)I"⟩
abbrev cX6_on : ByteArray := prog_1_method_15_code
def yX6_on : MethodName := ⟨RX6, "on", "(III)I"⟩
abbrev cX6_lack : ByteArray := prog_1_method_16_code
def yX6_lack : MethodName := ⟨RX6, "lack", "(II)I"⟩
abbrev cX6_left : ByteArray := prog_1_method_17_code
def yX6_left : MethodName := ⟨RX6, "left", "(II)I"⟩
abbrev cX6_enough : ByteArray := prog_1_method_18_code
def yX6_enough : MethodName := ⟨RX6, "enough", "(I)I"⟩
abbrev cX6_batch : ByteArray := prog_1_method_19_code
def yX6_batch : MethodName := ⟨RX6, "batch", "(IIII)I"⟩
abbrev cX6_rest : ByteArray := prog_1_method_20_code
def yX6_rest : MethodName := ⟨RX6, "rest", "(I)I"⟩
abbrev cX6_part : ByteArray := prog_1_method_21_code
def yX6_part : MethodName := ⟨RX6, "part", "(III)I"⟩
abbrev cX6_line : ByteArray := prog_1_method_22_code
def yX6_line : MethodName := ⟨RX6, "line", "(IIIII)I"⟩
abbrev cX6_hands : ByteArray := prog_1_method_23_code
def yX6_hands : MethodName := ⟨RX6, "hands", "(IIII)I"⟩
abbrev cX6_wanted : ByteArray := prog_1_method_24_code
def yX6_wanted : MethodName := ⟨RX6, "wanted", "(I)Z"⟩
abbrev cX6_have : ByteArray := prog_1_method_25_code
def yX6_have : MethodName := ⟨RX6, "have", "(I)Z"⟩
abbrev cX6_type : ByteArray := prog_1_method_26_code
def yX6_type : MethodName := ⟨RX6, "type", "(IIII)I"⟩
abbrev cX6_cheapest : ByteArray := prog_1_method_27_code
def yX6_cheapest : MethodName := ⟨RX6, "cheapest", "()I"⟩
abbrev cX6_buys : ByteArray := prog_1_method_28_code
def yX6_buys : MethodName := ⟨RX6, "buys", "(II)I"⟩
abbrev cX6_agree : ByteArray := prog_1_method_29_code
def yX6_agree : MethodName := ⟨RX6, "agree", "()Z"⟩
abbrev cX6_refuse : ByteArray := prog_1_method_30_code
def yX6_refuse : MethodName := ⟨RX6, "refuse", "(I)Z"⟩
abbrev cX6_answer : ByteArray := prog_1_method_31_code
def yX6_answer : MethodName := ⟨RX6, "answer", "(I)I"⟩
abbrev cX6_deny : ByteArray := prog_1_method_32_code
def yX6_deny : MethodName := ⟨RX6, "deny", "(I)I"⟩
abbrev cX6_within : ByteArray := prog_1_method_33_code
def yX6_within : MethodName := ⟨RX6, "within", "(JII)Z"⟩
abbrev cX6_isHour : ByteArray := prog_1_method_34_code
def yX6_isHour : MethodName := ⟨RX6, "isHour", "(I)Z"⟩
abbrev cX6_isMonth : ByteArray := prog_1_method_35_code
def yX6_isMonth : MethodName := ⟨RX6, "isMonth", "(I)Z"⟩
abbrev cX6_isLine : ByteArray := prog_1_method_36_code
def yX6_isLine : MethodName := ⟨RX6, "isLine", "(III)Z"⟩
def RX7 : String := "MachineHallModel"
def TX7 : u_T := fun k => match k with
  | 0 => ("MachineHallModel", "status", "I", false)
  | 1 => ("MachineHallModel", "sort", "[I", true)
  | 2 => ("MachineHallModel", "many", "[I", true)
  | 3 => ("MachineHallModel", "sheets", "[J", true)
  | 4 => ("MachineHallModel", "machines", "I", false)
  | 5 => ("MachineHallModel", "asks", "I", false)
  | 6 => ("MachineHallModel", "batches", "I", false)
  | 7 => ("MachineHallModel", "types", "I", false)
  | 8 => ("MachineHallModel", "size", "[I", true)
  | 9 => ("MachineHallModel", "room", "[I", true)
  | 10 => ("MachineHallModel", "isUp", "[Z", true)
  | 11 => ("MachineHallModel", "need", "[I", true)
  | 12 => ("MachineHallModel", "first", "[I", true)
  | 13 => ("MachineHallModel", "last", "[I", true)
  | 14 => ("MachineHallModel", "apart", "[I", true)
  | 15 => ("MachineHallModel", "needs", "[I", true)
  | 16 => ("MachineHallModel", "may", "[Z", true)
  | 17 => ("MachineHallModel", "can", "[Z", true)
  | 18 => ("MachineHallModel", "work", "[I", true)
  | 19 => ("MachineHallModel", "from", "[I", true)
  | 20 => ("MachineHallModel", "due", "[I", true)
  | 21 => ("MachineHallModel", "most", "[I", true)
  | 22 => ("MachineHallModel", "part", "[I", true)
  | 23 => ("MachineHallModel", "has", "[I", true)
  | 24 => ("MachineHallModel", "used", "[I", true)
  | 25 => ("MachineHallModel", "done", "[I", true)
  | 26 => ("MachineHallModel", "stays", "[Z", true)
  | 27 => ("MachineHallModel", "before", "[I", true)
  | 28 => ("MachineHallModel", "line", "[I", true)
  | 29 => ("MachineHallModel", "free", "[I", true)
  | 30 => ("MachineHallModel", "greatest", "I", false)
  | 31 => ("MachineHallModel", "together", "I", false)
  | 32 => ("MachineHallModel", "comes", "I", false)
  | 33 => ("MachineHallModel", "waiting", "I", false)
  | 34 => ("MachineHallModel", "end", "I", false)
  | 35 => ("MachineHallModel", "wanted", "[I", true)
  | 36 => ("MachineHallModel", "typeSize", "[I", true)
  | 37 => ("MachineHallModel", "lead", "[I", true)
  | 38 => ("MachineHallModel", "power", "[I", true)
  | 39 => ("MachineHallModel", "price", "[I", true)
  | 40 => ("MachineHallModel", "have", "I", false)
  | _ => ("MachineHallModel", "least", "[I", true)
def tyX7 : Nat → FieldType := fun k => match k with
  | 0 => .int
  | 1 => .array .int
  | 2 => .array .int
  | 3 => .array .long
  | 4 => .int
  | 5 => .int
  | 6 => .int
  | 7 => .int
  | 8 => .array .int
  | 9 => .array .int
  | 10 => .array .boolean
  | 11 => .array .int
  | 12 => .array .int
  | 13 => .array .int
  | 14 => .array .int
  | 15 => .array .int
  | 16 => .array .boolean
  | 17 => .array .boolean
  | 18 => .array .int
  | 19 => .array .int
  | 20 => .array .int
  | 21 => .array .int
  | 22 => .array .int
  | 23 => .array .int
  | 24 => .array .int
  | 25 => .array .int
  | 26 => .array .boolean
  | 27 => .array .int
  | 28 => .array .int
  | 29 => .array .int
  | 30 => .int
  | 31 => .int
  | 32 => .int
  | 33 => .int
  | 34 => .int
  | 35 => .array .int
  | 36 => .array .int
  | 37 => .array .int
  | 38 => .array .int
  | 39 => .array .int
  | 40 => .int
  | _ => .array .int
abbrev wsX70 : List Cond := u_ws RX7 TX7 42
theorem nmX7 : ∀ a, a < 42 → ∀ b, b < 42 → a ≠ b → (TX7 a).2.1 ≠ (TX7 b).2.1 := by decide +kernel
theorem tyX7_ok : ∀ k, k < 42 → parseFieldDescriptor (TX7 k).2.2.1 = some (tyX7 k) := by decide +kernel
abbrev cX7_init : ByteArray := prog_9_method_1_code
def yX7_init : MethodName := ⟨RX7, "<init>", "()V"⟩
abbrev cX7_status : ByteArray := prog_9_method_2_code
def yX7_status : MethodName := ⟨RX7, "status", "()I"⟩
abbrev cX7_is : ByteArray := prog_9_method_3_code
def yX7_is : MethodName := ⟨RX7, "is", "(I)Z"⟩
abbrev cX7_refuse : ByteArray := prog_9_method_4_code
def yX7_refuse : MethodName := ⟨RX7, "refuse", "(I)I"⟩
abbrev cX7_isSheet : ByteArray := prog_9_method_5_code
def yX7_isSheet : MethodName := ⟨RX7, "isSheet", "(I)Z"⟩
abbrev cX7_cut : ByteArray := prog_9_method_6_code
def yX7_cut : MethodName := ⟨RX7, "cut", "(JI)J"⟩
abbrev cX7_sheet : ByteArray := prog_9_method_7_code
def yX7_sheet : MethodName := ⟨RX7, "sheet", "(III)Z"⟩
abbrev cX7_wrong : ByteArray := prog_9_method_8_code
def yX7_wrong : MethodName := ⟨RX7, "wrong", "(II)I"⟩
abbrev cX7_write : ByteArray := prog_9_method_9_code
def yX7_write : MethodName := ⟨RX7, "write", "(IIJ)Z"⟩
abbrev cX7_read : ByteArray := prog_9_method_10_code
def yX7_read : MethodName := ⟨RX7, "read", "(II)J"⟩
abbrev cX7_copy : ByteArray := prog_9_method_11_code
def yX7_copy : MethodName := ⟨RX7, "copy", "(IIIII)Z"⟩
abbrev cX7_drop : ByteArray := prog_9_method_12_code
def yX7_drop : MethodName := ⟨RX7, "drop", "(I)Z"⟩
abbrev cX7_none : ByteArray := prog_9_method_13_code
def yX7_none : MethodName := ⟨RX7, "none", "()Z"⟩
abbrev cX7_wrongNumbers : ByteArray := prog_9_method_14_code
def yX7_wrongNumbers : MethodName := ⟨RX7, "wrongNumbers", "(IIJ)I"⟩
abbrev cX7_machine : ByteArray := prog_9_method_15_code
def yX7_machine : MethodName := ⟨RX7, "machine", "(II)I"⟩
abbrev cX7_up : ByteArray := prog_9_method_16_code
def yX7_up : MethodName := ⟨RX7, "up", "(IZ)Z"⟩
abbrev cX7_isAsk : ByteArray := prog_9_method_17_code
def yX7_isAsk : MethodName := ⟨RX7, "isAsk", "(I)Z"⟩
abbrev cX7_ask : ByteArray := prog_9_method_18_code
def yX7_ask : MethodName := ⟨RX7, "ask", "(III)I"⟩
abbrev cX7_apart : ByteArray := prog_9_method_19_code
def yX7_apart : MethodName := ⟨RX7, "apart", "(IIZ)Z"⟩
abbrev cX7_isHour : ByteArray := prog_9_method_20_code
def yX7_isHour : MethodName := ⟨RX7, "isHour", "(I)Z"⟩
abbrev cX7_isFall : ByteArray := prog_9_method_21_code
def yX7_isFall : MethodName := ⟨RX7, "isFall", "(I)Z"⟩
abbrev cX7_stands : ByteArray := prog_9_method_22_code
def yX7_stands : MethodName := ⟨RX7, "stands", "(II)Z"⟩
abbrev cX7_sizes : ByteArray := prog_9_method_23_code
def yX7_sizes : MethodName := ⟨RX7, "sizes", "(I)I"⟩
abbrev cX7_count : ByteArray := prog_9_method_24_code
def yX7_count : MethodName := ⟨RX7, "count", "(I)I"⟩
abbrev cX7_look : ByteArray := prog_9_method_25_code
def yX7_look : MethodName := ⟨RX7, "look", "(I)V"⟩
abbrev cX7_setOf : ByteArray := prog_9_method_26_code
def yX7_setOf : MethodName := ⟨RX7, "setOf", "(I)I"⟩
abbrev cX7_fits : ByteArray := prog_9_method_27_code
def yX7_fits : MethodName := ⟨RX7, "fits", "(II)I"⟩
abbrev cX7_on : ByteArray := prog_9_method_28_code
def yX7_on : MethodName := ⟨RX7, "on", "(III)I"⟩
abbrev cX7_lack : ByteArray := prog_9_method_29_code
def yX7_lack : MethodName := ⟨RX7, "lack", "(II)I"⟩
abbrev cX7_leftOf : ByteArray := prog_9_method_30_code
def yX7_leftOf : MethodName := ⟨RX7, "leftOf", "(II)I"⟩
abbrev cX7_left : ByteArray := prog_9_method_31_code
def yX7_left : MethodName := ⟨RX7, "left", "(II)I"⟩
abbrev cX7_enough : ByteArray := prog_9_method_32_code
def yX7_enough : MethodName := ⟨RX7, "enough", "(I)I"⟩
abbrev cX7_batch : ByteArray := prog_9_method_33_code
def yX7_batch : MethodName := ⟨RX7, "batch", "(IIII)I"⟩
abbrev cX7_isIn : ByteArray := prog_9_method_34_code
def yX7_isIn : MethodName := ⟨RX7, "isIn", "(II)Z"⟩
abbrev cX7_goes : ByteArray := prog_9_method_35_code
def yX7_goes : MethodName := ⟨RX7, "goes", "(II)I"⟩
abbrev cX7_moves : ByteArray := prog_9_method_36_code
def yX7_moves : MethodName := ⟨RX7, "moves", "(III)V"⟩
abbrev cX7_isWay : ByteArray := prog_9_method_37_code
def yX7_isWay : MethodName := ⟨RX7, "isWay", "(II)Z"⟩
abbrev cX7_goAlong : ByteArray := prog_9_method_38_code
def yX7_goAlong : MethodName := ⟨RX7, "goAlong", "(III)I"⟩
abbrev cX7_layIn : ByteArray := prog_9_method_39_code
def yX7_layIn : MethodName := ⟨RX7, "layIn", "(I)I"⟩
abbrev cX7_rest : ByteArray := prog_9_method_40_code
def yX7_rest : MethodName := ⟨RX7, "rest", "(I)I"⟩
abbrev cX7_part : ByteArray := prog_9_method_41_code
def yX7_part : MethodName := ⟨RX7, "part", "(III)I"⟩
abbrev cX7_step : ByteArray := prog_9_method_42_code
def yX7_step : MethodName := ⟨RX7, "step", "(IIII)V"⟩
abbrev cX7_line : ByteArray := prog_9_method_43_code
def yX7_line : MethodName := ⟨RX7, "line", "(IIIII)I"⟩
abbrev cX7_hands : ByteArray := prog_9_method_44_code
def yX7_hands : MethodName := ⟨RX7, "hands", "(IIII)I"⟩
abbrev cX7_wanted : ByteArray := prog_9_method_45_code
def yX7_wanted : MethodName := ⟨RX7, "wanted", "(I)Z"⟩
abbrev cX7_have : ByteArray := prog_9_method_46_code
def yX7_have : MethodName := ⟨RX7, "have", "(I)Z"⟩
abbrev cX7_type : ByteArray := prog_9_method_47_code
def yX7_type : MethodName := ⟨RX7, "type", "(IIII)I"⟩
abbrev cX7_at : ByteArray := prog_9_method_48_code
def yX7_at : MethodName := ⟨RX7, "at", "(III)I"⟩
abbrev cX7_takes : ByteArray := prog_9_method_49_code
def yX7_takes : MethodName := ⟨RX7, "takes", "(II)I"⟩
abbrev cX7_reckon : ByteArray := prog_9_method_50_code
def yX7_reckon : MethodName := ⟨RX7, "reckon", "()V"⟩
abbrev cX7_cheapest : ByteArray := prog_9_method_51_code
def yX7_cheapest : MethodName := ⟨RX7, "cheapest", "()I"⟩
abbrev cX7_buys : ByteArray := prog_9_method_52_code
def yX7_buys : MethodName := ⟨RX7, "buys", "(II)I"⟩
def RJ9 : String := "java/lang/Math"
def TJ9 : u_T := fun k => match k with
  | _ => ("", "", "", false)
def tyJ9 : Nat → FieldType := fun k => match k with
  | _ => .int
abbrev wsJ90 : List Cond := u_ws RJ9 TJ9 0
theorem nmJ9 : ∀ a, a < 0 → ∀ b, b < 0 → a ≠ b → (TJ9 a).2.1 ≠ (TJ9 b).2.1 := by decide +kernel
theorem tyJ9_ok : ∀ k, k < 0 → parseFieldDescriptor (TJ9 k).2.2.1 = some (tyJ9 k) := by decide +kernel
abbrev cJ9_max_7cf53 : ByteArray := prog_10_method_65_code
def yJ9_max_7cf53 : MethodName := ⟨RJ9, "max", "(II)I"⟩
abbrev cJ9_min_7cf53 : ByteArray := prog_10_method_69_code
def yJ9_min_7cf53 : MethodName := ⟨RJ9, "min", "(II)I"⟩
def RJ10 : String := "java/lang/System"
def TJ10 : u_T := fun k => match k with
  | _ => ("", "", "", false)
def tyJ10 : Nat → FieldType := fun k => match k with
  | _ => .int
abbrev wsJ100 : List Cond := u_ws RJ10 TJ10 0
theorem nmJ10 : ∀ a, a < 0 → ∀ b, b < 0 → a ≠ b → (TJ10 a).2.1 ≠ (TJ10 b).2.1 := by decide +kernel
theorem tyJ10_ok : ∀ k, k < 0 → parseFieldDescriptor (TJ10 k).2.2.1 = some (tyJ10 k) := by decide +kernel
def RJ7 : String := "java/util/Arrays"
def TJ7 : u_T := fun k => match k with
  | _ => ("", "", "", false)
def tyJ7 : Nat → FieldType := fun k => match k with
  | _ => .int
abbrev wsJ70 : List Cond := u_ws RJ7 TJ7 0
theorem nmJ7 : ∀ a, a < 0 → ∀ b, b < 0 → a ≠ b → (TJ7 a).2.1 ≠ (TJ7 b).2.1 := by decide +kernel
theorem tyJ7_ok : ∀ k, k < 0 → parseFieldDescriptor (TJ7 k).2.2.1 = some (tyJ7 k) := by decide +kernel
abbrev cJ7_rangeCheck_23922 : ByteArray := prog_12_method_30_code
def yJ7_rangeCheck_23922 : MethodName := ⟨RJ7, "rangeCheck", "(III)V"⟩
abbrev cJ7_fill_d0a16 : ByteArray := prog_12_method_101_code
def yJ7_fill_d0a16 : MethodName := ⟨RJ7, "fill", "([JJ)V"⟩
abbrev cJ7_fill_53178 : ByteArray := prog_12_method_103_code
def yJ7_fill_53178 : MethodName := ⟨RJ7, "fill", "([II)V"⟩
abbrev cJ7_fill_fda19 : ByteArray := prog_12_method_104_code
def yJ7_fill_fda19 : MethodName := ⟨RJ7, "fill", "([IIII)V"⟩
def RL : String := "MachineHallLaw"
abbrev cL_law : ByteArray := code
def yL_law : MethodName := ⟨RL, "law", "([I)Z"⟩
def wsX0_init : List Cond := .code yX0_init cX0_init 2 none :: ([.methodLink RX0 3 objectInit, .instanceMethod objectInit, .code objectInit ⟨#[0xb1]⟩ 1 none, .fieldLink RX0 9 "MachineHall$Flow" "nodes" "I", .classLink RX0 15 "[[I", .arrayClass .int, .fieldLink RX0 17 "MachineHall$Flow" "open" "[[I", .fieldLink RX0 20 "MachineHall$Flow" "cameFrom" "[I", .fieldLink RX0 24 "MachineHall$Flow" "reached" "[I"] ++ wsX00)
def wsJ7_fill_53178 : List Cond := .code yJ7_fill_53178 cJ7_fill_53178 4 none :: ([])
def wsX0_empty : List Cond := .code yX0_empty cX0_empty 2 none :: ([.fieldLink RX0 9 "MachineHall$Flow" "nodes" "I", .fieldLink RX0 17 "MachineHall$Flow" "open" "[[I", .methodLink RX0 27 yJ7_fill_53178, .static yJ7_fill_53178, .initialized RJ7, .code yJ7_fill_53178 cJ7_fill_53178 4 none] ++ wsX00)
def wsX0_pipe : List Cond := .code yX0_pipe cX0_pipe 4 none :: ([.fieldLink RX0 17 "MachineHall$Flow" "open" "[[I"] ++ wsX00)
def wsX0_findWay : List Cond := .code yX0_findWay cX0_findWay 7 (some .boolean) :: ([.fieldLink RX0 20 "MachineHall$Flow" "cameFrom" "[I", .fieldLink RX0 24 "MachineHall$Flow" "reached" "[I", .fieldLink RX0 9 "MachineHall$Flow" "nodes" "I", .fieldLink RX0 17 "MachineHall$Flow" "open" "[[I", .methodLink RX0 27 yJ7_fill_53178, .static yJ7_fill_53178, .initialized RJ7, .code yJ7_fill_53178 cJ7_fill_53178 4 none] ++ wsX00)
def wsX0_send : List Cond := .code yX0_send cX0_send 7 (some .int) :: ([.fieldLink RX0 9 "MachineHall$Flow" "nodes" "I", .fieldLink RX0 17 "MachineHall$Flow" "open" "[[I", .fieldLink RX0 20 "MachineHall$Flow" "cameFrom" "[I", .methodLink RX0 45 Lib.Math.min.name, .static Lib.Math.min.name, .initialized "java/lang/Math", .code Lib.Math.min.name Lib.Math.min.code 2 (some .int)] ++ wsX00)
def wsX0_push : List Cond := .code yX0_push cX0_push 6 (some .int) :: ([.constant RX0 33 (1000000), .methodLink RX0 34 yX0_findWay, .instanceMethod yX0_findWay, .selects RX0 yX0_findWay yX0_findWay, .initialized RX0, .code yX0_findWay cX0_findWay 7 (some .boolean), .fieldLink RX0 20 "MachineHall$Flow" "cameFrom" "[I", .fieldLink RX0 24 "MachineHall$Flow" "reached" "[I", .fieldLink RX0 9 "MachineHall$Flow" "nodes" "I", .fieldLink RX0 17 "MachineHall$Flow" "open" "[[I", .methodLink RX0 27 yJ7_fill_53178, .static yJ7_fill_53178, .initialized RJ7, .code yJ7_fill_53178 cJ7_fill_53178 4 none, .methodLink RX0 38 yX0_send, .instanceMethod yX0_send, .selects RX0 yX0_send yX0_send, .code yX0_send cX0_send 7 (some .int), .methodLink RX0 45 Lib.Math.min.name, .static Lib.Math.min.name, .initialized "java/lang/Math", .code Lib.Math.min.name Lib.Math.min.code 2 (some .int)] ++ wsX00)
def wsX0_settle_r1 : List Cond := [Cond.fieldLink RX0 17 "MachineHall$Flow" "open" "[[I", Cond.methodLink RX0 42 yX0_push, Cond.instanceMethod yX0_push, Cond.selects RX0 yX0_push yX0_push, Cond.initialized RX0, Cond.code yX0_push cX0_push 6 (some .int), Cond.constant RX0 33 (1000000), Cond.methodLink RX0 34 yX0_findWay, Cond.instanceMethod yX0_findWay, Cond.selects RX0 yX0_findWay yX0_findWay, Cond.code yX0_findWay cX0_findWay 7 (some .boolean), Cond.fieldLink RX0 20 "MachineHall$Flow" "cameFrom" "[I", Cond.fieldLink RX0 24 "MachineHall$Flow" "reached" "[I", Cond.fieldLink RX0 9 "MachineHall$Flow" "nodes" "I", Cond.methodLink RX0 27 yJ7_fill_53178, Cond.static yJ7_fill_53178, Cond.initialized RJ7, Cond.code yJ7_fill_53178 cJ7_fill_53178 4 none, Cond.methodLink RX0 38 yX0_send, Cond.instanceMethod yX0_send, Cond.selects RX0 yX0_send yX0_send, Cond.code yX0_send cX0_send 7 (some .int), Cond.methodLink RX0 45 Lib.Math.min.name, Cond.static Lib.Math.min.name]
def wsX0_settle_r2 : List Cond := [Cond.initialized "java/lang/Math", Cond.code Lib.Math.min.name Lib.Math.min.code 2 (some .int)]
def wsX0_settle : List Cond := .code yX0_settle cX0_settle 5 (some .int) :: ((wsX0_settle_r1 ++ wsX0_settle_r2) ++ wsX00)
def wsX1_init : List Cond := .code yX1_init cX1_init 1 none :: ([.methodLink RX1 5 objectInit, .instanceMethod objectInit, .code objectInit ⟨#[0xb1]⟩ 1 none, .arrayClass .int, .fieldLink RX1 11 "MachineHall$Hall" "sizes" "[I", .fieldLink RX1 15 "MachineHall$Hall" "inRoom" "[I", .fieldLink RX1 18 "MachineHall$Hall" "needs" "[I", .fieldLink RX1 21 "MachineHall$Hall" "foes" "[I", .fieldLink RX1 24 "MachineHall$Hall" "ofHour" "[I", .fieldLink RX1 27 "MachineHall$Hall" "load" "[I", .arrayClass .boolean, .fieldLink RX1 30 "MachineHall$Hall" "clash" "[Z", .fieldLink RX1 34 "MachineHall$Hall" "asked" "[Z", .fieldLink RX1 37 "MachineHall$Hall" "latest" "[I", .fieldLink RX1 40 "MachineHall$Hall" "latestFor" "I"] ++ wsX10)
def wsX6_within : List Cond := .code yX6_within cX6_within 4 (some .boolean) :: ([])
def wsX1_isFall : List Cond := .code yX1_isFall cX1_isFall 1 (some .boolean) :: ([.static yX6_within, .initialized RX6, .code yX6_within cX6_within 4 (some .boolean)])
def wsX1_hasMachine : List Cond := .code yX1_hasMachine cX1_hasMachine 2 (some .boolean) :: ([.fieldLink RX1 48 "MachineHall$Hall" "machines" "I", .static yX6_within, .initialized RX6, .code yX6_within cX6_within 4 (some .boolean)] ++ wsX10)
def wsX1_hasAsk : List Cond := .code yX1_hasAsk cX1_hasAsk 2 (some .boolean) :: ([.fieldLink RX1 51 "MachineHall$Hall" "asks" "I", .static yX6_within, .initialized RX6, .code yX6_within cX6_within 4 (some .boolean)] ++ wsX10)
def wsX1_has : List Cond := .code yX1_has cX1_has 2 (some .boolean) :: ([])
def wsX1_isUp : List Cond := .code yX1_isUp cX1_isUp 2 (some .boolean) :: ([.fieldLink RX1 54 "MachineHall$Hall" "ups" "I", .methodLink RX1 57 yX1_has, .static yX1_has, .initialized RX1, .code yX1_has cX1_has 2 (some .boolean)] ++ wsX10)
def wsX1_isAskOf : List Cond := .code yX1_isAskOf cX1_isAskOf 3 (some .boolean) :: ([.fieldLink RX1 24 "MachineHall$Hall" "ofHour" "[I", .methodLink RX1 57 yX1_has, .static yX1_has, .initialized RX1, .code yX1_has cX1_has 2 (some .boolean)] ++ wsX10)
def wsX1_areFoes : List Cond := .code yX1_areFoes cX1_areFoes 3 (some .boolean) :: ([.fieldLink RX1 21 "MachineHall$Hall" "foes" "[I", .methodLink RX1 57 yX1_has, .static yX1_has, .initialized RX1, .code yX1_has cX1_has 2 (some .boolean)] ++ wsX10)
def wsX1_addMachine : List Cond := .code yX1_addMachine cX1_addMachine 4 (some .int) :: ([.fieldLink RX1 48 "MachineHall$Hall" "machines" "I", .fieldLink RX1 11 "MachineHall$Hall" "sizes" "[I", .fieldLink RX1 15 "MachineHall$Hall" "inRoom" "[I", .fieldLink RX1 54 "MachineHall$Hall" "ups" "I"] ++ wsX10)
def wsX1_turn : List Cond := .code yX1_turn cX1_turn 2 none :: ([.fieldLink RX1 54 "MachineHall$Hall" "ups" "I"] ++ wsX10)
def wsX1_markAsked : List Cond := .code yX1_markAsked cX1_markAsked 3 none :: ([.fieldLink RX1 34 "MachineHall$Hall" "asked" "[Z"] ++ wsX10)
def wsX1_tally : List Cond := .code yX1_tally cX1_tally 4 none :: ([.fieldLink RX1 40 "MachineHall$Hall" "latestFor" "I", .fieldLink RX1 51 "MachineHall$Hall" "asks" "I", .fieldLink RX1 27 "MachineHall$Hall" "load" "[I", .fieldLink RX1 18 "MachineHall$Hall" "needs" "[I", .fieldLink RX1 30 "MachineHall$Hall" "clash" "[Z", .fieldLink RX1 21 "MachineHall$Hall" "foes" "[I"] ++ wsX10)
def wsX1_addAsk : List Cond := .code yX1_addAsk cX1_addAsk 6 (some .int) :: ([.fieldLink RX1 51 "MachineHall$Hall" "asks" "I", .fieldLink RX1 18 "MachineHall$Hall" "needs" "[I", .fieldLink RX1 24 "MachineHall$Hall" "ofHour" "[I", .methodLink RX1 61 yX1_markAsked, .instanceMethod yX1_markAsked, .selects RX1 yX1_markAsked yX1_markAsked, .initialized RX1, .code yX1_markAsked cX1_markAsked 3 none, .fieldLink RX1 34 "MachineHall$Hall" "asked" "[Z", .methodLink RX1 65 yX1_tally, .instanceMethod yX1_tally, .selects RX1 yX1_tally yX1_tally, .code yX1_tally cX1_tally 4 none, .fieldLink RX1 40 "MachineHall$Hall" "latestFor" "I", .fieldLink RX1 27 "MachineHall$Hall" "load" "[I", .fieldLink RX1 30 "MachineHall$Hall" "clash" "[Z", .fieldLink RX1 21 "MachineHall$Hall" "foes" "[I"] ++ wsX10)
def wsX1_turnFoes : List Cond := .code yX1_turnFoes cX1_turnFoes 3 none :: ([.fieldLink RX1 21 "MachineHall$Hall" "foes" "[I", .methodLink RX1 65 yX1_tally, .instanceMethod yX1_tally, .selects RX1 yX1_tally yX1_tally, .initialized RX1, .code yX1_tally cX1_tally 4 none, .fieldLink RX1 40 "MachineHall$Hall" "latestFor" "I", .fieldLink RX1 51 "MachineHall$Hall" "asks" "I", .fieldLink RX1 27 "MachineHall$Hall" "load" "[I", .fieldLink RX1 18 "MachineHall$Hall" "needs" "[I", .fieldLink RX1 30 "MachineHall$Hall" "clash" "[Z"] ++ wsX10)
def wsX1_standing : List Cond := .code yX1_standing cX1_standing 2 (some .int) :: ([.fieldLink RX1 54 "MachineHall$Hall" "ups" "I", .fieldLink RX1 15 "MachineHall$Hall" "inRoom" "[I"] ++ wsX10)
def wsX1_sizeOf : List Cond := .code yX1_sizeOf cX1_sizeOf 4 (some .int) :: ([.fieldLink RX1 48 "MachineHall$Hall" "machines" "I", .fieldLink RX1 11 "MachineHall$Hall" "sizes" "[I", .methodLink RX1 57 yX1_has, .static yX1_has, .initialized RX1, .code yX1_has cX1_has 2 (some .boolean)] ++ wsX10)
def wsX1_greatestOn : List Cond := .code yX1_greatestOn cX1_greatestOn 4 (some .int) :: ([.fieldLink RX1 27 "MachineHall$Hall" "load" "[I", .fieldLink RX1 11 "MachineHall$Hall" "sizes" "[I", .fieldLink RX1 30 "MachineHall$Hall" "clash" "[Z", .fieldLink RX1 37 "MachineHall$Hall" "latest" "[I"] ++ wsX10)
def wsX1_findWith : List Cond := .code yX1_findWith cX1_findWith 4 none :: ([.fieldLink RX1 51 "MachineHall$Hall" "asks" "I", .fieldLink RX1 37 "MachineHall$Hall" "latest" "[I", .fieldLink RX1 34 "MachineHall$Hall" "asked" "[Z", .fieldLink RX1 27 "MachineHall$Hall" "load" "[I", .methodLink RX1 71 yX1_greatestOn, .instanceMethod yX1_greatestOn, .selects RX1 yX1_greatestOn yX1_greatestOn, .initialized RX1, .code yX1_greatestOn cX1_greatestOn 4 (some .int), .fieldLink RX1 11 "MachineHall$Hall" "sizes" "[I", .fieldLink RX1 30 "MachineHall$Hall" "clash" "[Z"] ++ wsX10)
def wsX1_findLatest : List Cond := .code yX1_findLatest cX1_findLatest 4 none :: ([.fieldLink RX1 40 "MachineHall$Hall" "latestFor" "I", .fieldLink RX1 37 "MachineHall$Hall" "latest" "[I", .fieldLink RX1 48 "MachineHall$Hall" "machines" "I", .fieldLink RX1 11 "MachineHall$Hall" "sizes" "[I", .methodLink RX1 96 yJ7_fill_53178, .static yJ7_fill_53178, .initialized RJ7, .code yJ7_fill_53178 cJ7_fill_53178 4 none, .methodLink RX1 57 yX1_has, .static yX1_has, .initialized RX1, .code yX1_has cX1_has 2 (some .boolean), .methodLink RX1 102 yX1_findWith, .instanceMethod yX1_findWith, .selects RX1 yX1_findWith yX1_findWith, .code yX1_findWith cX1_findWith 4 none, .fieldLink RX1 51 "MachineHall$Hall" "asks" "I", .fieldLink RX1 34 "MachineHall$Hall" "asked" "[Z", .fieldLink RX1 27 "MachineHall$Hall" "load" "[I", .methodLink RX1 71 yX1_greatestOn, .instanceMethod yX1_greatestOn, .selects RX1 yX1_greatestOn yX1_greatestOn, .code yX1_greatestOn cX1_greatestOn 4 (some .int), .fieldLink RX1 30 "MachineHall$Hall" "clash" "[Z"] ++ wsX10)
def wsX1_holds_r1 : List Cond := [Cond.fieldLink RX1 37 "MachineHall$Hall" "latest" "[I", Cond.fieldLink RX1 24 "MachineHall$Hall" "ofHour" "[I", Cond.methodLink RX1 68 yX1_findLatest, Cond.instanceMethod yX1_findLatest, Cond.selects RX1 yX1_findLatest yX1_findLatest, Cond.initialized RX1, Cond.code yX1_findLatest cX1_findLatest 4 none, Cond.fieldLink RX1 40 "MachineHall$Hall" "latestFor" "I", Cond.fieldLink RX1 48 "MachineHall$Hall" "machines" "I", Cond.fieldLink RX1 11 "MachineHall$Hall" "sizes" "[I", Cond.methodLink RX1 96 yJ7_fill_53178, Cond.static yJ7_fill_53178, Cond.initialized RJ7, Cond.code yJ7_fill_53178 cJ7_fill_53178 4 none, Cond.methodLink RX1 57 yX1_has, Cond.static yX1_has, Cond.code yX1_has cX1_has 2 (some .boolean), Cond.methodLink RX1 102 yX1_findWith, Cond.instanceMethod yX1_findWith, Cond.selects RX1 yX1_findWith yX1_findWith, Cond.code yX1_findWith cX1_findWith 4 none, Cond.fieldLink RX1 51 "MachineHall$Hall" "asks" "I", Cond.fieldLink RX1 34 "MachineHall$Hall" "asked" "[Z", Cond.fieldLink RX1 27 "MachineHall$Hall" "load" "[I"]
def wsX1_holds_r2 : List Cond := [Cond.methodLink RX1 71 yX1_greatestOn, Cond.instanceMethod yX1_greatestOn, Cond.selects RX1 yX1_greatestOn yX1_greatestOn, Cond.code yX1_greatestOn cX1_greatestOn 4 (some .int), Cond.fieldLink RX1 30 "MachineHall$Hall" "clash" "[Z"]
def wsX1_holds : List Cond := .code yX1_holds cX1_holds 3 (some .boolean) :: ((wsX1_holds_r1 ++ wsX1_holds_r2) ++ wsX10)
def wsX1_layingOf_r1 : List Cond := [Cond.fieldLink RX1 24 "MachineHall$Hall" "ofHour" "[I", Cond.fieldLink RX1 48 "MachineHall$Hall" "machines" "I", Cond.methodLink RX1 68 yX1_findLatest, Cond.instanceMethod yX1_findLatest, Cond.selects RX1 yX1_findLatest yX1_findLatest, Cond.initialized RX1, Cond.code yX1_findLatest cX1_findLatest 4 none, Cond.fieldLink RX1 40 "MachineHall$Hall" "latestFor" "I", Cond.fieldLink RX1 37 "MachineHall$Hall" "latest" "[I", Cond.fieldLink RX1 11 "MachineHall$Hall" "sizes" "[I", Cond.methodLink RX1 96 yJ7_fill_53178, Cond.static yJ7_fill_53178, Cond.initialized RJ7, Cond.code yJ7_fill_53178 cJ7_fill_53178 4 none, Cond.methodLink RX1 57 yX1_has, Cond.static yX1_has, Cond.code yX1_has cX1_has 2 (some .boolean), Cond.methodLink RX1 102 yX1_findWith, Cond.instanceMethod yX1_findWith, Cond.selects RX1 yX1_findWith yX1_findWith, Cond.code yX1_findWith cX1_findWith 4 none, Cond.fieldLink RX1 51 "MachineHall$Hall" "asks" "I", Cond.fieldLink RX1 34 "MachineHall$Hall" "asked" "[Z", Cond.fieldLink RX1 27 "MachineHall$Hall" "load" "[I"]
def wsX1_layingOf_r2 : List Cond := [Cond.methodLink RX1 71 yX1_greatestOn, Cond.instanceMethod yX1_greatestOn, Cond.selects RX1 yX1_greatestOn yX1_greatestOn, Cond.code yX1_greatestOn cX1_greatestOn 4 (some .int), Cond.fieldLink RX1 30 "MachineHall$Hall" "clash" "[Z"]
def wsX1_layingOf : List Cond := .code yX1_layingOf cX1_layingOf 7 (some .int) :: ((wsX1_layingOf_r1 ++ wsX1_layingOf_r2) ++ wsX10)
def wsX1_lacking_r1 : List Cond := [Cond.fieldLink RX1 24 "MachineHall$Hall" "ofHour" "[I", Cond.fieldLink RX1 37 "MachineHall$Hall" "latest" "[I", Cond.fieldLink RX1 27 "MachineHall$Hall" "load" "[I", Cond.methodLink RX1 75 Lib.Math.max.name, Cond.static Lib.Math.max.name, Cond.initialized "java/lang/Math", Cond.code Lib.Math.max.name Lib.Math.max.code 2 (some .int), Cond.methodLink RX1 68 yX1_findLatest, Cond.instanceMethod yX1_findLatest, Cond.selects RX1 yX1_findLatest yX1_findLatest, Cond.initialized RX1, Cond.code yX1_findLatest cX1_findLatest 4 none, Cond.fieldLink RX1 40 "MachineHall$Hall" "latestFor" "I", Cond.fieldLink RX1 48 "MachineHall$Hall" "machines" "I", Cond.fieldLink RX1 11 "MachineHall$Hall" "sizes" "[I", Cond.methodLink RX1 96 yJ7_fill_53178, Cond.static yJ7_fill_53178, Cond.initialized RJ7, Cond.code yJ7_fill_53178 cJ7_fill_53178 4 none, Cond.methodLink RX1 57 yX1_has, Cond.static yX1_has, Cond.code yX1_has cX1_has 2 (some .boolean), Cond.methodLink RX1 102 yX1_findWith, Cond.instanceMethod yX1_findWith]
def wsX1_lacking_r2 : List Cond := [Cond.selects RX1 yX1_findWith yX1_findWith, Cond.code yX1_findWith cX1_findWith 4 none, Cond.fieldLink RX1 51 "MachineHall$Hall" "asks" "I", Cond.fieldLink RX1 34 "MachineHall$Hall" "asked" "[Z", Cond.methodLink RX1 71 yX1_greatestOn, Cond.instanceMethod yX1_greatestOn, Cond.selects RX1 yX1_greatestOn yX1_greatestOn, Cond.code yX1_greatestOn cX1_greatestOn 4 (some .int), Cond.fieldLink RX1 30 "MachineHall$Hall" "clash" "[Z"]
def wsX1_lacking : List Cond := .code yX1_lacking cX1_lacking 6 (some .int) :: ((wsX1_lacking_r1 ++ wsX1_lacking_r2) ++ wsX10)
def wsX1_leftOver_r1 : List Cond := [Cond.fieldLink RX1 24 "MachineHall$Hall" "ofHour" "[I", Cond.fieldLink RX1 37 "MachineHall$Hall" "latest" "[I", Cond.fieldLink RX1 27 "MachineHall$Hall" "load" "[I", Cond.methodLink RX1 68 yX1_findLatest, Cond.instanceMethod yX1_findLatest, Cond.selects RX1 yX1_findLatest yX1_findLatest, Cond.initialized RX1, Cond.code yX1_findLatest cX1_findLatest 4 none, Cond.fieldLink RX1 40 "MachineHall$Hall" "latestFor" "I", Cond.fieldLink RX1 48 "MachineHall$Hall" "machines" "I", Cond.fieldLink RX1 11 "MachineHall$Hall" "sizes" "[I", Cond.methodLink RX1 96 yJ7_fill_53178, Cond.static yJ7_fill_53178, Cond.initialized RJ7, Cond.code yJ7_fill_53178 cJ7_fill_53178 4 none, Cond.methodLink RX1 57 yX1_has, Cond.static yX1_has, Cond.code yX1_has cX1_has 2 (some .boolean), Cond.methodLink RX1 102 yX1_findWith, Cond.instanceMethod yX1_findWith, Cond.selects RX1 yX1_findWith yX1_findWith, Cond.code yX1_findWith cX1_findWith 4 none, Cond.fieldLink RX1 51 "MachineHall$Hall" "asks" "I", Cond.fieldLink RX1 34 "MachineHall$Hall" "asked" "[Z"]
def wsX1_leftOver_r2 : List Cond := [Cond.methodLink RX1 71 yX1_greatestOn, Cond.instanceMethod yX1_greatestOn, Cond.selects RX1 yX1_greatestOn yX1_greatestOn, Cond.code yX1_greatestOn cX1_greatestOn 4 (some .int), Cond.fieldLink RX1 30 "MachineHall$Hall" "clash" "[Z", Cond.methodLink RX1 80 yX1_sizeOf, Cond.instanceMethod yX1_sizeOf, Cond.selects RX1 yX1_sizeOf yX1_sizeOf, Cond.code yX1_sizeOf cX1_sizeOf 4 (some .int)]
def wsX1_leftOver : List Cond := .code yX1_leftOver cX1_leftOver 4 (some .int) :: ((wsX1_leftOver_r1 ++ wsX1_leftOver_r2) ++ wsX10)
def wsX1_isLookedAt : List Cond := .code yX1_isLookedAt cX1_isLookedAt 3 (some .boolean) :: ([.fieldLink RX1 48 "MachineHall$Hall" "machines" "I"] ++ wsX10)
def wsX1_firstUnfitHour_r1 : List Cond := [Cond.methodLink RX1 93 yX1_holds, Cond.instanceMethod yX1_holds, Cond.selects RX1 yX1_holds yX1_holds, Cond.initialized RX1, Cond.code yX1_holds cX1_holds 3 (some .boolean), Cond.fieldLink RX1 37 "MachineHall$Hall" "latest" "[I", Cond.fieldLink RX1 24 "MachineHall$Hall" "ofHour" "[I", Cond.methodLink RX1 68 yX1_findLatest, Cond.instanceMethod yX1_findLatest, Cond.selects RX1 yX1_findLatest yX1_findLatest, Cond.code yX1_findLatest cX1_findLatest 4 none, Cond.fieldLink RX1 40 "MachineHall$Hall" "latestFor" "I", Cond.fieldLink RX1 48 "MachineHall$Hall" "machines" "I", Cond.fieldLink RX1 11 "MachineHall$Hall" "sizes" "[I", Cond.methodLink RX1 96 yJ7_fill_53178, Cond.static yJ7_fill_53178, Cond.initialized RJ7, Cond.code yJ7_fill_53178 cJ7_fill_53178 4 none, Cond.methodLink RX1 57 yX1_has, Cond.static yX1_has, Cond.code yX1_has cX1_has 2 (some .boolean), Cond.methodLink RX1 102 yX1_findWith, Cond.instanceMethod yX1_findWith, Cond.selects RX1 yX1_findWith yX1_findWith]
def wsX1_firstUnfitHour_r2 : List Cond := [Cond.code yX1_findWith cX1_findWith 4 none, Cond.fieldLink RX1 51 "MachineHall$Hall" "asks" "I", Cond.fieldLink RX1 34 "MachineHall$Hall" "asked" "[Z", Cond.fieldLink RX1 27 "MachineHall$Hall" "load" "[I", Cond.methodLink RX1 71 yX1_greatestOn, Cond.instanceMethod yX1_greatestOn, Cond.selects RX1 yX1_greatestOn yX1_greatestOn, Cond.code yX1_greatestOn cX1_greatestOn 4 (some .int), Cond.fieldLink RX1 30 "MachineHall$Hall" "clash" "[Z"]
def wsX1_firstUnfitHour : List Cond := .code yX1_firstUnfitHour cX1_firstUnfitHour 4 (some .int) :: ((wsX1_firstUnfitHour_r1 ++ wsX1_firstUnfitHour_r2) ++ wsX10)
def wsX1_firstUnfit_r1 : List Cond := [Cond.methodLink RX1 84 yX1_isLookedAt, Cond.instanceMethod yX1_isLookedAt, Cond.selects RX1 yX1_isLookedAt yX1_isLookedAt, Cond.initialized RX1, Cond.code yX1_isLookedAt cX1_isLookedAt 3 (some .boolean), Cond.fieldLink RX1 48 "MachineHall$Hall" "machines" "I", Cond.methodLink RX1 87 yX1_standing, Cond.instanceMethod yX1_standing, Cond.selects RX1 yX1_standing yX1_standing, Cond.code yX1_standing cX1_standing 2 (some .int), Cond.fieldLink RX1 54 "MachineHall$Hall" "ups" "I", Cond.fieldLink RX1 15 "MachineHall$Hall" "inRoom" "[I", Cond.methodLink RX1 90 yX1_firstUnfitHour, Cond.instanceMethod yX1_firstUnfitHour, Cond.selects RX1 yX1_firstUnfitHour yX1_firstUnfitHour, Cond.code yX1_firstUnfitHour cX1_firstUnfitHour 4 (some .int), Cond.methodLink RX1 93 yX1_holds, Cond.instanceMethod yX1_holds, Cond.selects RX1 yX1_holds yX1_holds, Cond.code yX1_holds cX1_holds 3 (some .boolean), Cond.fieldLink RX1 37 "MachineHall$Hall" "latest" "[I", Cond.fieldLink RX1 24 "MachineHall$Hall" "ofHour" "[I", Cond.methodLink RX1 68 yX1_findLatest, Cond.instanceMethod yX1_findLatest]
def wsX1_firstUnfit_r2 : List Cond := [Cond.selects RX1 yX1_findLatest yX1_findLatest, Cond.code yX1_findLatest cX1_findLatest 4 none, Cond.fieldLink RX1 40 "MachineHall$Hall" "latestFor" "I", Cond.fieldLink RX1 11 "MachineHall$Hall" "sizes" "[I", Cond.methodLink RX1 96 yJ7_fill_53178, Cond.static yJ7_fill_53178, Cond.initialized RJ7, Cond.code yJ7_fill_53178 cJ7_fill_53178 4 none, Cond.methodLink RX1 57 yX1_has, Cond.static yX1_has, Cond.code yX1_has cX1_has 2 (some .boolean), Cond.methodLink RX1 102 yX1_findWith, Cond.instanceMethod yX1_findWith, Cond.selects RX1 yX1_findWith yX1_findWith, Cond.code yX1_findWith cX1_findWith 4 none, Cond.fieldLink RX1 51 "MachineHall$Hall" "asks" "I", Cond.fieldLink RX1 34 "MachineHall$Hall" "asked" "[Z", Cond.fieldLink RX1 27 "MachineHall$Hall" "load" "[I", Cond.methodLink RX1 71 yX1_greatestOn, Cond.instanceMethod yX1_greatestOn, Cond.selects RX1 yX1_greatestOn yX1_greatestOn, Cond.code yX1_greatestOn cX1_greatestOn 4 (some .int), Cond.fieldLink RX1 30 "MachineHall$Hall" "clash" "[Z"]
def wsX1_firstUnfit : List Cond := .code yX1_firstUnfit cX1_firstUnfit 6 (some .int) :: ((wsX1_firstUnfit_r1 ++ wsX1_firstUnfit_r2) ++ wsX10)
def wsX2_init : List Cond := .code yX2_init cX2_init 1 none :: ([.methodLink RX2 5 objectInit, .instanceMethod objectInit, .code objectInit ⟨#[0xb1]⟩ 1 none, .classLink RX2 11 "[[I", .arrayClass .int, .fieldLink RX2 13 "MachineHall$Market" "bought" "[[I", .fieldLink RX2 16 "MachineHall$Market" "wants" "[I", .fieldLink RX2 20 "MachineHall$Market" "sizes" "[I", .fieldLink RX2 23 "MachineHall$Market" "leads" "[I", .fieldLink RX2 26 "MachineHall$Market" "powers" "[I", .fieldLink RX2 29 "MachineHall$Market" "prices" "[[I", .fieldLink RX2 32 "MachineHall$Market" "toPay" "[I", .arrayClass .long, .fieldLink RX2 35 "MachineHall$Market" "oneMore" "[J"] ++ wsX20)
def wsX2_hasType : List Cond := .code yX2_hasType cX2_hasType 2 (some .boolean) :: ([.fieldLink RX2 39 "MachineHall$Market" "types" "I", .static yX6_within, .initialized RX6, .code yX6_within cX6_within 4 (some .boolean)] ++ wsX20)
def wsX2_isEnough : List Cond := .code yX2_isEnough cX2_isEnough 1 (some .boolean) :: ([.fieldLink RX2 47 "MachineHall$Market" "least" "I", .constant RX2 50 (1000000000)] ++ wsX20)
def wsX4_at : List Cond := .code yX4_at cX4_at 3 (some .long) :: ([.fieldLink RX4 13 "MachineHall$Sheets" "numbers" "[[J"] ++ wsX40)
def wsX2_want : List Cond := .code yX2_want cX2_want 4 none :: ([.fieldLink RX2 16 "MachineHall$Market" "wants" "[I", .fieldLink RX2 57 "MachineHall$Market" "solved" "Z", .methodLink RX2 51 yX4_at, .instanceMethod yX4_at, .selects RX4 yX4_at yX4_at, .initialized RX4, .code yX4_at cX4_at 3 (some .long), .fieldLink RX4 13 "MachineHall$Sheets" "numbers" "[[J"] ++ wsX20 ++ wsX40)
def wsX2_own : List Cond := .code yX2_own cX2_own 2 none :: ([.fieldLink RX2 61 "MachineHall$Market" "owned" "I", .fieldLink RX2 57 "MachineHall$Market" "solved" "Z"] ++ wsX20)
def wsX2_addType : List Cond := .code yX2_addType cX2_addType 8 (some .int) :: ([.fieldLink RX2 39 "MachineHall$Market" "types" "I", .fieldLink RX2 20 "MachineHall$Market" "sizes" "[I", .fieldLink RX2 23 "MachineHall$Market" "leads" "[I", .fieldLink RX2 26 "MachineHall$Market" "powers" "[I", .fieldLink RX2 29 "MachineHall$Market" "prices" "[[I", .fieldLink RX2 57 "MachineHall$Market" "solved" "Z", .methodLink RX2 51 yX4_at, .instanceMethod yX4_at, .selects RX4 yX4_at yX4_at, .initialized RX4, .code yX4_at cX4_at 3 (some .long), .fieldLink RX4 13 "MachineHall$Sheets" "numbers" "[[J"] ++ wsX20 ++ wsX40)
def wsJ7_fill_d0a16 : List Cond := .code yJ7_fill_d0a16 cJ7_fill_d0a16 5 none :: ([])
def wsJ7_rangeCheck_23922 : List Cond := .code yJ7_rangeCheck_23922 cJ7_rangeCheck_23922 3 none :: ([])
def wsJ7_fill_fda19 : List Cond := .code yJ7_fill_fda19 cJ7_fill_fda19 5 none :: ([.methodLink RJ7 13 yJ7_rangeCheck_23922, .static yJ7_rangeCheck_23922, .initialized RJ7, .code yJ7_rangeCheck_23922 cJ7_rangeCheck_23922 3 none])
def wsX2_word : List Cond := .code yX2_word cX2_word 3 (some .int) :: ([])
def wsX2_offer : List Cond := .code yX2_offer cX2_offer 6 none :: ([.fieldLink RX2 29 "MachineHall$Market" "prices" "[[I", .fieldLink RX2 23 "MachineHall$Market" "leads" "[I", .fieldLink RX2 26 "MachineHall$Market" "powers" "[I", .fieldLink RX2 32 "MachineHall$Market" "toPay" "[I", .fieldLink RX2 20 "MachineHall$Market" "sizes" "[I", .methodLink RX2 87 Lib.Math.min.name, .static Lib.Math.min.name, .initialized "java/lang/Math", .code Lib.Math.min.name Lib.Math.min.code 2 (some .int), .fieldLink RX2 35 "MachineHall$Market" "oneMore" "[J", .methodLink RX2 93 yX2_word, .static yX2_word, .initialized RX2, .code yX2_word cX2_word 3 (some .int)] ++ wsX20)
def wsX2_mustBuy : List Cond := .code yX2_mustBuy cX2_mustBuy 4 (some .boolean) :: ([.fieldLink RX2 35 "MachineHall$Market" "oneMore" "[J", .methodLink RX2 93 yX2_word, .static yX2_word, .initialized RX2, .code yX2_word cX2_word 3 (some .int)] ++ wsX20)
def wsX2_choose : List Cond := .code yX2_choose cX2_choose 5 none :: ([.fieldLink RX2 61 "MachineHall$Market" "owned" "I", .fieldLink RX2 39 "MachineHall$Market" "types" "I", .fieldLink RX2 20 "MachineHall$Market" "sizes" "[I", .methodLink RX2 87 Lib.Math.min.name, .static Lib.Math.min.name, .initialized "java/lang/Math", .code Lib.Math.min.name Lib.Math.min.code 2 (some .int), .fieldLink RX2 13 "MachineHall$Market" "bought" "[[I", .methodLink RX2 97 yX2_mustBuy, .instanceMethod yX2_mustBuy, .selects RX2 yX2_mustBuy yX2_mustBuy, .initialized RX2, .code yX2_mustBuy cX2_mustBuy 4 (some .boolean), .fieldLink RX2 35 "MachineHall$Market" "oneMore" "[J", .methodLink RX2 93 yX2_word, .static yX2_word, .code yX2_word cX2_word 3 (some .int)] ++ wsX20)
def wsX2_solve_r1 : List Cond := [Cond.fieldLink RX2 57 "MachineHall$Market" "solved" "Z", Cond.fieldLink RX2 32 "MachineHall$Market" "toPay" "[I", Cond.fieldLink RX2 35 "MachineHall$Market" "oneMore" "[J", Cond.fieldLink RX2 16 "MachineHall$Market" "wants" "[I", Cond.constant RX2 50 (1000000000), Cond.fieldLink RX2 39 "MachineHall$Market" "types" "I", Cond.fieldLink RX2 23 "MachineHall$Market" "leads" "[I", Cond.fieldLink RX2 61 "MachineHall$Market" "owned" "I", Cond.fieldLink RX2 47 "MachineHall$Market" "least" "I", Cond.methodLink RX2 64 yJ7_fill_53178, Cond.static yJ7_fill_53178, Cond.initialized RJ7, Cond.code yJ7_fill_53178 cJ7_fill_53178 4 none, Cond.methodLink RX2 70 yJ7_fill_d0a16, Cond.static yJ7_fill_d0a16, Cond.code yJ7_fill_d0a16 cJ7_fill_d0a16 5 none, Cond.methodLink RX2 73 yJ7_fill_fda19, Cond.static yJ7_fill_fda19, Cond.code yJ7_fill_fda19 cJ7_fill_fda19 5 none, Cond.methodLink RJ7 13 yJ7_rangeCheck_23922, Cond.static yJ7_rangeCheck_23922, Cond.code yJ7_rangeCheck_23922 cJ7_rangeCheck_23922 3 none, Cond.methodLink RX2 76 yX2_offer, Cond.instanceMethod yX2_offer]
def wsX2_solve_r2 : List Cond := [Cond.selects RX2 yX2_offer yX2_offer, Cond.initialized RX2, Cond.code yX2_offer cX2_offer 6 none, Cond.fieldLink RX2 29 "MachineHall$Market" "prices" "[[I", Cond.fieldLink RX2 26 "MachineHall$Market" "powers" "[I", Cond.fieldLink RX2 20 "MachineHall$Market" "sizes" "[I", Cond.methodLink RX2 87 Lib.Math.min.name, Cond.static Lib.Math.min.name, Cond.initialized "java/lang/Math", Cond.code Lib.Math.min.name Lib.Math.min.code 2 (some .int), Cond.methodLink RX2 93 yX2_word, Cond.static yX2_word, Cond.code yX2_word cX2_word 3 (some .int), Cond.methodLink RX2 80 yX2_isEnough, Cond.instanceMethod yX2_isEnough, Cond.selects RX2 yX2_isEnough yX2_isEnough, Cond.code yX2_isEnough cX2_isEnough 1 (some .boolean), Cond.methodLink RX2 84 yX2_choose, Cond.instanceMethod yX2_choose, Cond.selects RX2 yX2_choose yX2_choose, Cond.code yX2_choose cX2_choose 5 none, Cond.fieldLink RX2 13 "MachineHall$Market" "bought" "[[I", Cond.methodLink RX2 97 yX2_mustBuy, Cond.instanceMethod yX2_mustBuy]
def wsX2_solve_r3 : List Cond := [Cond.selects RX2 yX2_mustBuy yX2_mustBuy, Cond.code yX2_mustBuy cX2_mustBuy 4 (some .boolean)]
def wsX2_solve : List Cond := .code yX2_solve cX2_solve 3 none :: ((wsX2_solve_r1 ++ (wsX2_solve_r2 ++ wsX2_solve_r3)) ++ wsX20)
def wsX3_init : List Cond := .code yX3_init cX3_init 1 none :: ([.methodLink RX3 5 objectInit, .instanceMethod objectInit, .code objectInit ⟨#[0xb1]⟩ 1 none, .classLink RX3 11 "[[I", .arrayClass .int, .fieldLink RX3 13 "MachineHall$Plan" "parts" "[[I", .fieldLink RX3 16 "MachineHall$Plan" "works" "[I", .fieldLink RX3 20 "MachineHall$Plan" "froms" "[I", .fieldLink RX3 23 "MachineHall$Plan" "dues" "[I", .fieldLink RX3 26 "MachineHall$Plan" "mosts" "[I", .classLink RX3 29 RX0, .instantiable RX0 4, .initialized RX0, .fieldLink RX3 34 "MachineHall$Plan" "flow" "LMachineHall$Flow;", .fieldLink RX3 38 "MachineHall$Plan" "laidFor" "I", .methodLink RX3 31 yX0_init, .instanceMethod yX0_init, .code yX0_init cX0_init 2 none, .methodLink RX0 3 objectInit, .fieldLink RX0 9 "MachineHall$Flow" "nodes" "I", .classLink RX0 15 "[[I", .fieldLink RX0 17 "MachineHall$Flow" "open" "[[I", .fieldLink RX0 20 "MachineHall$Flow" "cameFrom" "[I", .fieldLink RX0 24 "MachineHall$Flow" "reached" "[I"] ++ wsX30 ++ wsX00)
def wsX3_hasBatch : List Cond := .code yX3_hasBatch cX3_hasBatch 2 (some .boolean) :: ([.fieldLink RX3 42 "MachineHall$Plan" "batches" "I", .static yX6_within, .initialized RX6, .code yX6_within cX6_within 4 (some .boolean)] ++ wsX30)
def wsX3_forget : List Cond := .code yX3_forget cX3_forget 1 none :: ([.fieldLink RX3 38 "MachineHall$Plan" "laidFor" "I"] ++ wsX30)
def wsX3_addBatch : List Cond := .code yX3_addBatch cX3_addBatch 6 (some .int) :: ([.fieldLink RX3 42 "MachineHall$Plan" "batches" "I", .fieldLink RX3 16 "MachineHall$Plan" "works" "[I", .fieldLink RX3 20 "MachineHall$Plan" "froms" "[I", .fieldLink RX3 23 "MachineHall$Plan" "dues" "[I", .fieldLink RX3 26 "MachineHall$Plan" "mosts" "[I", .methodLink RX3 49 yX3_forget, .instanceMethod yX3_forget, .selects RX3 yX3_forget yX3_forget, .initialized RX3, .code yX3_forget cX3_forget 1 none, .fieldLink RX3 38 "MachineHall$Plan" "laidFor" "I"] ++ wsX30)
def wsX3_layPipes_r1 : List Cond := [Cond.fieldLink RX3 34 "MachineHall$Plan" "flow" "LMachineHall$Flow;", Cond.fieldLink RX3 42 "MachineHall$Plan" "batches" "I", Cond.fieldLink RX3 16 "MachineHall$Plan" "works" "[I", Cond.fieldLink RX3 20 "MachineHall$Plan" "froms" "[I", Cond.fieldLink RX3 23 "MachineHall$Plan" "dues" "[I", Cond.fieldLink RX3 26 "MachineHall$Plan" "mosts" "[I", Cond.methodLink RX3 66 yX0_empty, Cond.instanceMethod yX0_empty, Cond.selects RX0 yX0_empty yX0_empty, Cond.initialized RX0, Cond.code yX0_empty cX0_empty 2 none, Cond.fieldLink RX0 9 "MachineHall$Flow" "nodes" "I", Cond.fieldLink RX0 17 "MachineHall$Flow" "open" "[[I", Cond.methodLink RX0 27 yJ7_fill_53178, Cond.static yJ7_fill_53178, Cond.initialized RJ7, Cond.code yJ7_fill_53178 cJ7_fill_53178 4 none, Cond.methodLink RX3 69 yX0_pipe, Cond.instanceMethod yX0_pipe, Cond.selects RX0 yX0_pipe yX0_pipe, Cond.code yX0_pipe cX0_pipe 4 none, Cond.methodLink RX3 73 yX1_leftOver, Cond.instanceMethod yX1_leftOver, Cond.selects RX1 yX1_leftOver yX1_leftOver]
def wsX3_layPipes_r2 : List Cond := [Cond.initialized RX1, Cond.code yX1_leftOver cX1_leftOver 4 (some .int), Cond.fieldLink RX1 24 "MachineHall$Hall" "ofHour" "[I", Cond.fieldLink RX1 37 "MachineHall$Hall" "latest" "[I", Cond.fieldLink RX1 27 "MachineHall$Hall" "load" "[I", Cond.methodLink RX1 68 yX1_findLatest, Cond.instanceMethod yX1_findLatest, Cond.selects RX1 yX1_findLatest yX1_findLatest, Cond.code yX1_findLatest cX1_findLatest 4 none, Cond.fieldLink RX1 40 "MachineHall$Hall" "latestFor" "I", Cond.fieldLink RX1 48 "MachineHall$Hall" "machines" "I", Cond.fieldLink RX1 11 "MachineHall$Hall" "sizes" "[I", Cond.methodLink RX1 96 yJ7_fill_53178, Cond.methodLink RX1 57 yX1_has, Cond.static yX1_has, Cond.code yX1_has cX1_has 2 (some .boolean), Cond.methodLink RX1 102 yX1_findWith, Cond.instanceMethod yX1_findWith, Cond.selects RX1 yX1_findWith yX1_findWith, Cond.code yX1_findWith cX1_findWith 4 none, Cond.fieldLink RX1 51 "MachineHall$Hall" "asks" "I", Cond.fieldLink RX1 34 "MachineHall$Hall" "asked" "[Z", Cond.methodLink RX1 71 yX1_greatestOn, Cond.instanceMethod yX1_greatestOn]
def wsX3_layPipes_r3 : List Cond := [Cond.selects RX1 yX1_greatestOn yX1_greatestOn, Cond.code yX1_greatestOn cX1_greatestOn 4 (some .int), Cond.fieldLink RX1 30 "MachineHall$Hall" "clash" "[Z", Cond.methodLink RX1 80 yX1_sizeOf, Cond.instanceMethod yX1_sizeOf, Cond.selects RX1 yX1_sizeOf yX1_sizeOf, Cond.code yX1_sizeOf cX1_sizeOf 4 (some .int)]
def wsX3_layPipes : List Cond := .code yX3_layPipes cX3_layPipes 6 (some .int) :: ((wsX3_layPipes_r1 ++ (wsX3_layPipes_r2 ++ wsX3_layPipes_r3)) ++ wsX30 ++ wsX00 ++ wsX10)
def wsX3_settleParts_r1 : List Cond := [Cond.fieldLink RX3 42 "MachineHall$Plan" "batches" "I", Cond.fieldLink RX3 20 "MachineHall$Plan" "froms" "[I", Cond.fieldLink RX3 23 "MachineHall$Plan" "dues" "[I", Cond.fieldLink RX3 13 "MachineHall$Plan" "parts" "[[I", Cond.fieldLink RX3 34 "MachineHall$Plan" "flow" "LMachineHall$Flow;", Cond.methodLink RX3 79 yX0_settle, Cond.instanceMethod yX0_settle, Cond.selects RX0 yX0_settle yX0_settle, Cond.initialized RX0, Cond.code yX0_settle cX0_settle 5 (some .int), Cond.fieldLink RX0 17 "MachineHall$Flow" "open" "[[I", Cond.methodLink RX0 42 yX0_push, Cond.instanceMethod yX0_push, Cond.selects RX0 yX0_push yX0_push, Cond.code yX0_push cX0_push 6 (some .int), Cond.constant RX0 33 (1000000), Cond.methodLink RX0 34 yX0_findWay, Cond.instanceMethod yX0_findWay, Cond.selects RX0 yX0_findWay yX0_findWay, Cond.code yX0_findWay cX0_findWay 7 (some .boolean), Cond.fieldLink RX0 20 "MachineHall$Flow" "cameFrom" "[I", Cond.fieldLink RX0 24 "MachineHall$Flow" "reached" "[I", Cond.fieldLink RX0 9 "MachineHall$Flow" "nodes" "I", Cond.methodLink RX0 27 yJ7_fill_53178]
def wsX3_settleParts_r2 : List Cond := [Cond.static yJ7_fill_53178, Cond.initialized RJ7, Cond.code yJ7_fill_53178 cJ7_fill_53178 4 none, Cond.methodLink RX0 38 yX0_send, Cond.instanceMethod yX0_send, Cond.selects RX0 yX0_send yX0_send, Cond.code yX0_send cX0_send 7 (some .int), Cond.methodLink RX0 45 Lib.Math.min.name, Cond.static Lib.Math.min.name, Cond.initialized "java/lang/Math", Cond.code Lib.Math.min.name Lib.Math.min.code 2 (some .int)]
def wsX3_settleParts : List Cond := .code yX3_settleParts cX3_settleParts 3 none :: ((wsX3_settleParts_r1 ++ wsX3_settleParts_r2) ++ wsX30 ++ wsX00)
def wsX3_lay_r1 : List Cond := [Cond.fieldLink RX3 38 "MachineHall$Plan" "laidFor" "I", Cond.fieldLink RX3 56 "MachineHall$Plan" "unlaid" "I", Cond.fieldLink RX3 34 "MachineHall$Plan" "flow" "LMachineHall$Flow;", Cond.methodLink RX3 52 yX3_layPipes, Cond.instanceMethod yX3_layPipes, Cond.selects RX3 yX3_layPipes yX3_layPipes, Cond.initialized RX3, Cond.code yX3_layPipes cX3_layPipes 6 (some .int), Cond.fieldLink RX3 42 "MachineHall$Plan" "batches" "I", Cond.fieldLink RX3 16 "MachineHall$Plan" "works" "[I", Cond.fieldLink RX3 20 "MachineHall$Plan" "froms" "[I", Cond.fieldLink RX3 23 "MachineHall$Plan" "dues" "[I", Cond.fieldLink RX3 26 "MachineHall$Plan" "mosts" "[I", Cond.methodLink RX3 66 yX0_empty, Cond.instanceMethod yX0_empty, Cond.selects RX0 yX0_empty yX0_empty, Cond.initialized RX0, Cond.code yX0_empty cX0_empty 2 none, Cond.fieldLink RX0 9 "MachineHall$Flow" "nodes" "I", Cond.fieldLink RX0 17 "MachineHall$Flow" "open" "[[I", Cond.methodLink RX0 27 yJ7_fill_53178, Cond.static yJ7_fill_53178, Cond.initialized RJ7, Cond.code yJ7_fill_53178 cJ7_fill_53178 4 none]
def wsX3_lay_r2 : List Cond := [Cond.methodLink RX3 69 yX0_pipe, Cond.instanceMethod yX0_pipe, Cond.selects RX0 yX0_pipe yX0_pipe, Cond.code yX0_pipe cX0_pipe 4 none, Cond.methodLink RX3 73 yX1_leftOver, Cond.instanceMethod yX1_leftOver, Cond.selects RX1 yX1_leftOver yX1_leftOver, Cond.initialized RX1, Cond.code yX1_leftOver cX1_leftOver 4 (some .int), Cond.fieldLink RX1 24 "MachineHall$Hall" "ofHour" "[I", Cond.fieldLink RX1 37 "MachineHall$Hall" "latest" "[I", Cond.fieldLink RX1 27 "MachineHall$Hall" "load" "[I", Cond.methodLink RX1 68 yX1_findLatest, Cond.instanceMethod yX1_findLatest, Cond.selects RX1 yX1_findLatest yX1_findLatest, Cond.code yX1_findLatest cX1_findLatest 4 none, Cond.fieldLink RX1 40 "MachineHall$Hall" "latestFor" "I", Cond.fieldLink RX1 48 "MachineHall$Hall" "machines" "I", Cond.fieldLink RX1 11 "MachineHall$Hall" "sizes" "[I", Cond.methodLink RX1 96 yJ7_fill_53178, Cond.methodLink RX1 57 yX1_has, Cond.static yX1_has, Cond.code yX1_has cX1_has 2 (some .boolean), Cond.methodLink RX1 102 yX1_findWith]
def wsX3_lay_r3 : List Cond := [Cond.instanceMethod yX1_findWith, Cond.selects RX1 yX1_findWith yX1_findWith, Cond.code yX1_findWith cX1_findWith 4 none, Cond.fieldLink RX1 51 "MachineHall$Hall" "asks" "I", Cond.fieldLink RX1 34 "MachineHall$Hall" "asked" "[Z", Cond.methodLink RX1 71 yX1_greatestOn, Cond.instanceMethod yX1_greatestOn, Cond.selects RX1 yX1_greatestOn yX1_greatestOn, Cond.code yX1_greatestOn cX1_greatestOn 4 (some .int), Cond.fieldLink RX1 30 "MachineHall$Hall" "clash" "[Z", Cond.methodLink RX1 80 yX1_sizeOf, Cond.instanceMethod yX1_sizeOf, Cond.selects RX1 yX1_sizeOf yX1_sizeOf, Cond.code yX1_sizeOf cX1_sizeOf 4 (some .int), Cond.methodLink RX3 59 yX0_push, Cond.instanceMethod yX0_push, Cond.selects RX0 yX0_push yX0_push, Cond.code yX0_push cX0_push 6 (some .int), Cond.constant RX0 33 (1000000), Cond.methodLink RX0 34 yX0_findWay, Cond.instanceMethod yX0_findWay, Cond.selects RX0 yX0_findWay yX0_findWay, Cond.code yX0_findWay cX0_findWay 7 (some .boolean), Cond.fieldLink RX0 20 "MachineHall$Flow" "cameFrom" "[I"]
def wsX3_lay_r4 : List Cond := [Cond.fieldLink RX0 24 "MachineHall$Flow" "reached" "[I", Cond.methodLink RX0 38 yX0_send, Cond.instanceMethod yX0_send, Cond.selects RX0 yX0_send yX0_send, Cond.code yX0_send cX0_send 7 (some .int), Cond.methodLink RX0 45 Lib.Math.min.name, Cond.static Lib.Math.min.name, Cond.initialized "java/lang/Math", Cond.code Lib.Math.min.name Lib.Math.min.code 2 (some .int), Cond.methodLink RX3 63 yX3_settleParts, Cond.instanceMethod yX3_settleParts, Cond.selects RX3 yX3_settleParts yX3_settleParts, Cond.code yX3_settleParts cX3_settleParts 3 none, Cond.fieldLink RX3 13 "MachineHall$Plan" "parts" "[[I", Cond.methodLink RX3 79 yX0_settle, Cond.instanceMethod yX0_settle, Cond.selects RX0 yX0_settle yX0_settle, Cond.code yX0_settle cX0_settle 5 (some .int), Cond.methodLink RX0 42 yX0_push]
def wsX3_lay : List Cond := .code yX3_lay cX3_lay 3 none :: ((wsX3_lay_r1 ++ (wsX3_lay_r2 ++ (wsX3_lay_r3 ++ wsX3_lay_r4))) ++ wsX30 ++ wsX00 ++ wsX10)
def wsX4_init : List Cond := .code yX4_init cX4_init 1 none :: ([.methodLink RX4 3 objectInit, .instanceMethod objectInit, .code objectInit ⟨#[0xb1]⟩ 1 none, .classLink RX4 11 "[[J", .arrayClass .long, .fieldLink RX4 13 "MachineHall$Sheets" "numbers" "[[J", .arrayClass .int, .fieldLink RX4 16 "MachineHall$Sheets" "sorts" "[I", .fieldLink RX4 20 "MachineHall$Sheets" "lengths" "[I", .methodLink RX4 23 yJ7_fill_53178, .static yJ7_fill_53178, .initialized RJ7, .code yJ7_fill_53178 cJ7_fill_53178 4 none] ++ wsX40)
def wsX4_isNumber : List Cond := .code yX4_isNumber cX4_isNumber 1 (some .boolean) :: ([.static yX6_within, .initialized RX6, .code yX6_within cX6_within 4 (some .boolean)])
def wsX4_isMissing : List Cond := .code yX4_isMissing cX4_isMissing 2 (some .boolean) :: ([.fieldLink RX4 20 "MachineHall$Sheets" "lengths" "[I"] ++ wsX40)
def wsX4_make : List Cond := .code yX4_make cX4_make 4 none :: ([.fieldLink RX4 13 "MachineHall$Sheets" "numbers" "[[J", .fieldLink RX4 16 "MachineHall$Sheets" "sorts" "[I", .fieldLink RX4 20 "MachineHall$Sheets" "lengths" "[I", .methodLink RX4 33 yJ7_fill_d0a16, .static yJ7_fill_d0a16, .initialized RJ7, .code yJ7_fill_d0a16 cJ7_fill_d0a16 5 none] ++ wsX40)
def wsX4_lose : List Cond := .code yX4_lose cX4_lose 2 none :: ([.fieldLink RX4 20 "MachineHall$Sheets" "lengths" "[I"] ++ wsX40)
def wsX4_cut : List Cond := .code yX4_cut cX4_cut 3 (some .long) :: ([])
def wsX4_put : List Cond := .code yX4_put cX4_put 5 none :: ([.fieldLink RX4 13 "MachineHall$Sheets" "numbers" "[[J", .fieldLink RX4 16 "MachineHall$Sheets" "sorts" "[I", .methodLink RX4 36 yX4_cut, .static yX4_cut, .initialized RX4, .code yX4_cut cX4_cut 3 (some .long)] ++ wsX40)
def wsX4_whyNoPlace : List Cond := .code yX4_whyNoPlace cX4_whyNoPlace 3 (some .int) :: ([.fieldLink RX4 20 "MachineHall$Sheets" "lengths" "[I", .methodLink RX4 40 yX4_isNumber, .static yX4_isNumber, .initialized RX4, .code yX4_isNumber cX4_isNumber 1 (some .boolean), .static yX6_within, .initialized RX6, .code yX6_within cX6_within 4 (some .boolean), .methodLink RX4 44 yX4_isMissing, .instanceMethod yX4_isMissing, .selects RX4 yX4_isMissing yX4_isMissing, .code yX4_isMissing cX4_isMissing 2 (some .boolean)] ++ wsX40)
def wsX4_whyNotFirst : List Cond := .code yX4_whyNotFirst cX4_whyNotFirst 5 (some .int) :: ([.fieldLink RX4 20 "MachineHall$Sheets" "lengths" "[I", .fieldLink RX4 13 "MachineHall$Sheets" "numbers" "[[J", .methodLink RX4 44 yX4_isMissing, .instanceMethod yX4_isMissing, .selects RX4 yX4_isMissing yX4_isMissing, .initialized RX4, .code yX4_isMissing cX4_isMissing 2 (some .boolean), .static yX6_within, .initialized RX6, .code yX6_within cX6_within 4 (some .boolean)] ++ wsX40)
def wsX4_spans : List Cond := .code yX4_spans cX4_spans 4 (some .boolean) :: ([.fieldLink RX4 20 "MachineHall$Sheets" "lengths" "[I"] ++ wsX40)
def wsX4_carry : List Cond := .code yX4_carry cX4_carry 7 none :: ([.fieldLink RX4 13 "MachineHall$Sheets" "numbers" "[[J", .methodLink RX4 47 arraycopyName, .native arraycopyName, .static arraycopyName, .initialized "java/lang/System", .methodLink RX4 53 yX4_put, .instanceMethod yX4_put, .selects RX4 yX4_put yX4_put, .initialized RX4, .code yX4_put cX4_put 5 none, .fieldLink RX4 16 "MachineHall$Sheets" "sorts" "[I", .methodLink RX4 36 yX4_cut, .static yX4_cut, .code yX4_cut cX4_cut 3 (some .long)] ++ wsX40)
def wsX5_init : List Cond := .code yX5_init cX5_init 1 none :: ([.methodLink RX5 1 objectInit, .instanceMethod objectInit, .code objectInit ⟨#[0xb1]⟩ 1 none, .arrayClass .int, .fieldLink RX5 9 "MachineHall$Waiting" "freeAt" "[I"] ++ wsX50)
def wsX5_note : List Cond := .code yX5_note cX5_note 2 none :: ([.fieldLink RX5 13 "MachineHall$Waiting" "greatest" "I", .methodLink RX5 41 Lib.Math.max.name, .static Lib.Math.max.name, .initialized "java/lang/Math", .code Lib.Math.max.name Lib.Math.max.code 2 (some .int), .fieldLink RX5 17 "MachineHall$Waiting" "together" "I", .fieldLink RX5 20 "MachineHall$Waiting" "came" "I", .fieldLink RX5 23 "MachineHall$Waiting" "waited" "I"] ++ wsX50)
def wsX5_serve_r1 : List Cond := [Cond.fieldLink RX5 13 "MachineHall$Waiting" "greatest" "I", Cond.fieldLink RX5 17 "MachineHall$Waiting" "together" "I", Cond.fieldLink RX5 20 "MachineHall$Waiting" "came" "I", Cond.fieldLink RX5 23 "MachineHall$Waiting" "waited" "I", Cond.fieldLink RX5 26 "MachineHall$Waiting" "end" "I", Cond.fieldLink RX5 9 "MachineHall$Waiting" "freeAt" "[I", Cond.methodLink RX5 41 Lib.Math.max.name, Cond.static Lib.Math.max.name, Cond.initialized "java/lang/Math", Cond.code Lib.Math.max.name Lib.Math.max.code 2 (some .int), Cond.methodLink RX5 29 yJ7_fill_53178, Cond.static yJ7_fill_53178, Cond.initialized RJ7, Cond.code yJ7_fill_53178 cJ7_fill_53178 4 none, Cond.methodLink RX5 35 yX4_at, Cond.instanceMethod yX4_at, Cond.selects RX4 yX4_at yX4_at, Cond.initialized RX4, Cond.code yX4_at cX4_at 3 (some .long), Cond.fieldLink RX4 13 "MachineHall$Sheets" "numbers" "[[J", Cond.methodLink RX5 47 yX5_note, Cond.instanceMethod yX5_note, Cond.selects RX5 yX5_note yX5_note, Cond.initialized RX5]
def wsX5_serve_r2 : List Cond := [Cond.code yX5_note cX5_note 2 none]
def wsX5_serve : List Cond := .code yX5_serve cX5_serve 12 none :: ((wsX5_serve_r1 ++ wsX5_serve_r2) ++ wsX50 ++ wsX40)
def wsX5_told : List Cond := .code yX5_told cX5_told 2 (some .int) :: ([.fieldLink RX5 13 "MachineHall$Waiting" "greatest" "I", .fieldLink RX5 17 "MachineHall$Waiting" "together" "I", .fieldLink RX5 20 "MachineHall$Waiting" "came" "I", .fieldLink RX5 23 "MachineHall$Waiting" "waited" "I", .fieldLink RX5 26 "MachineHall$Waiting" "end" "I"] ++ wsX50)
def wsX6_init_r1 : List Cond := [Cond.methodLink RX6 1 objectInit, Cond.instanceMethod objectInit, Cond.code objectInit ⟨#[0xb1]⟩ 1 none, Cond.classLink RX6 7 RX4, Cond.instantiable RX4 3, Cond.initialized RX4, Cond.fieldLink RX6 10 "MachineHall" "sheets" "LMachineHall$Sheets;", Cond.classLink RX6 16 RX1, Cond.instantiable RX1 13, Cond.initialized RX1, Cond.fieldLink RX6 19 "MachineHall" "hall" "LMachineHall$Hall;", Cond.classLink RX6 23 RX3, Cond.instantiable RX3 9, Cond.initialized RX3, Cond.fieldLink RX6 26 "MachineHall" "plan" "LMachineHall$Plan;", Cond.classLink RX6 30 RX5, Cond.instantiable RX5 6, Cond.initialized RX5, Cond.fieldLink RX6 33 "MachineHall" "waiting" "LMachineHall$Waiting;", Cond.classLink RX6 37 RX2, Cond.instantiable RX2 12, Cond.initialized RX2, Cond.fieldLink RX6 40 "MachineHall" "market" "LMachineHall$Market;", Cond.fieldLink RX6 44 "MachineHall" "status" "I"]
def wsX6_init_r2 : List Cond := [Cond.methodLink RX6 9 yX4_init, Cond.instanceMethod yX4_init, Cond.code yX4_init cX4_init 1 none, Cond.methodLink RX4 3 objectInit, Cond.classLink RX4 11 "[[J", Cond.arrayClass .long, Cond.fieldLink RX4 13 "MachineHall$Sheets" "numbers" "[[J", Cond.arrayClass .int, Cond.fieldLink RX4 16 "MachineHall$Sheets" "sorts" "[I", Cond.fieldLink RX4 20 "MachineHall$Sheets" "lengths" "[I", Cond.methodLink RX4 23 yJ7_fill_53178, Cond.static yJ7_fill_53178, Cond.initialized RJ7, Cond.code yJ7_fill_53178 cJ7_fill_53178 4 none, Cond.methodLink RX6 18 yX1_init, Cond.instanceMethod yX1_init, Cond.code yX1_init cX1_init 1 none, Cond.methodLink RX1 5 objectInit, Cond.fieldLink RX1 11 "MachineHall$Hall" "sizes" "[I", Cond.fieldLink RX1 15 "MachineHall$Hall" "inRoom" "[I", Cond.fieldLink RX1 18 "MachineHall$Hall" "needs" "[I", Cond.fieldLink RX1 21 "MachineHall$Hall" "foes" "[I", Cond.fieldLink RX1 24 "MachineHall$Hall" "ofHour" "[I", Cond.fieldLink RX1 27 "MachineHall$Hall" "load" "[I"]
def wsX6_init_r3 : List Cond := [Cond.arrayClass .boolean, Cond.fieldLink RX1 30 "MachineHall$Hall" "clash" "[Z", Cond.fieldLink RX1 34 "MachineHall$Hall" "asked" "[Z", Cond.fieldLink RX1 37 "MachineHall$Hall" "latest" "[I", Cond.fieldLink RX1 40 "MachineHall$Hall" "latestFor" "I", Cond.methodLink RX6 25 yX3_init, Cond.instanceMethod yX3_init, Cond.code yX3_init cX3_init 1 none, Cond.methodLink RX3 5 objectInit, Cond.classLink RX3 11 "[[I", Cond.fieldLink RX3 13 "MachineHall$Plan" "parts" "[[I", Cond.fieldLink RX3 16 "MachineHall$Plan" "works" "[I", Cond.fieldLink RX3 20 "MachineHall$Plan" "froms" "[I", Cond.fieldLink RX3 23 "MachineHall$Plan" "dues" "[I", Cond.fieldLink RX3 26 "MachineHall$Plan" "mosts" "[I", Cond.classLink RX3 29 RX0, Cond.instantiable RX0 4, Cond.initialized RX0, Cond.fieldLink RX3 34 "MachineHall$Plan" "flow" "LMachineHall$Flow;", Cond.fieldLink RX3 38 "MachineHall$Plan" "laidFor" "I", Cond.methodLink RX3 31 yX0_init, Cond.instanceMethod yX0_init, Cond.code yX0_init cX0_init 2 none, Cond.methodLink RX0 3 objectInit]
def wsX6_init_r4 : List Cond := [Cond.fieldLink RX0 9 "MachineHall$Flow" "nodes" "I", Cond.classLink RX0 15 "[[I", Cond.fieldLink RX0 17 "MachineHall$Flow" "open" "[[I", Cond.fieldLink RX0 20 "MachineHall$Flow" "cameFrom" "[I", Cond.fieldLink RX0 24 "MachineHall$Flow" "reached" "[I", Cond.methodLink RX6 32 yX5_init, Cond.instanceMethod yX5_init, Cond.code yX5_init cX5_init 1 none, Cond.methodLink RX5 1 objectInit, Cond.fieldLink RX5 9 "MachineHall$Waiting" "freeAt" "[I", Cond.methodLink RX6 39 yX2_init, Cond.instanceMethod yX2_init, Cond.code yX2_init cX2_init 1 none, Cond.methodLink RX2 5 objectInit, Cond.classLink RX2 11 "[[I", Cond.fieldLink RX2 13 "MachineHall$Market" "bought" "[[I", Cond.fieldLink RX2 16 "MachineHall$Market" "wants" "[I", Cond.fieldLink RX2 20 "MachineHall$Market" "sizes" "[I", Cond.fieldLink RX2 23 "MachineHall$Market" "leads" "[I", Cond.fieldLink RX2 26 "MachineHall$Market" "powers" "[I", Cond.fieldLink RX2 29 "MachineHall$Market" "prices" "[[I", Cond.fieldLink RX2 32 "MachineHall$Market" "toPay" "[I", Cond.fieldLink RX2 35 "MachineHall$Market" "oneMore" "[J"]
def wsX6_init : List Cond := .code yX6_init cX6_init 1 none :: ((wsX6_init_r1 ++ (wsX6_init_r2 ++ (wsX6_init_r3 ++ wsX6_init_r4))) ++ wsX40 ++ wsX60 ++ wsX10 ++ wsX30 ++ wsX50 ++ wsX20 ++ wsX00)
def wsX6_status : List Cond := .code yX6_status cX6_status 1 (some .int) :: ([.fieldLink RX6 44 "MachineHall" "status" "I"] ++ wsX60)
def wsX6_refuse : List Cond := .code yX6_refuse cX6_refuse 2 (some .boolean) :: ([.fieldLink RX6 44 "MachineHall" "status" "I"] ++ wsX60)
def wsX6_agree : List Cond := .code yX6_agree cX6_agree 1 (some .boolean) :: ([.fieldLink RX6 44 "MachineHall" "status" "I"] ++ wsX60)
def wsX6_sheet_r1 : List Cond := [Cond.fieldLink RX6 10 "MachineHall" "sheets" "LMachineHall$Sheets;", Cond.methodLink RX6 48 yX4_isNumber, Cond.static yX4_isNumber, Cond.initialized RX4, Cond.code yX4_isNumber cX4_isNumber 1 (some .boolean), Cond.static yX6_within, Cond.initialized RX6, Cond.code yX6_within cX6_within 4 (some .boolean), Cond.methodLink RX6 52 yX6_within, Cond.methodLink RX6 56 yX6_refuse, Cond.instanceMethod yX6_refuse, Cond.selects RX6 yX6_refuse yX6_refuse, Cond.code yX6_refuse cX6_refuse 2 (some .boolean), Cond.fieldLink RX6 44 "MachineHall" "status" "I", Cond.methodLink RX6 59 yX4_make, Cond.instanceMethod yX4_make, Cond.selects RX4 yX4_make yX4_make, Cond.code yX4_make cX4_make 4 none, Cond.fieldLink RX4 13 "MachineHall$Sheets" "numbers" "[[J", Cond.fieldLink RX4 16 "MachineHall$Sheets" "sorts" "[I", Cond.fieldLink RX4 20 "MachineHall$Sheets" "lengths" "[I", Cond.methodLink RX4 33 yJ7_fill_d0a16, Cond.static yJ7_fill_d0a16, Cond.initialized RJ7]
def wsX6_sheet_r2 : List Cond := [Cond.code yJ7_fill_d0a16 cJ7_fill_d0a16 5 none, Cond.methodLink RX6 63 yX6_agree, Cond.instanceMethod yX6_agree, Cond.selects RX6 yX6_agree yX6_agree, Cond.code yX6_agree cX6_agree 1 (some .boolean)]
def wsX6_sheet : List Cond := .code yX6_sheet cX6_sheet 4 (some .boolean) :: ((wsX6_sheet_r1 ++ wsX6_sheet_r2) ++ wsX60 ++ wsX40)
def wsX6_write_r1 : List Cond := [Cond.fieldLink RX6 10 "MachineHall" "sheets" "LMachineHall$Sheets;", Cond.methodLink RX6 67 yX4_whyNoPlace, Cond.instanceMethod yX4_whyNoPlace, Cond.selects RX4 yX4_whyNoPlace yX4_whyNoPlace, Cond.initialized RX4, Cond.code yX4_whyNoPlace cX4_whyNoPlace 3 (some .int), Cond.fieldLink RX4 20 "MachineHall$Sheets" "lengths" "[I", Cond.methodLink RX4 40 yX4_isNumber, Cond.static yX4_isNumber, Cond.code yX4_isNumber cX4_isNumber 1 (some .boolean), Cond.static yX6_within, Cond.initialized RX6, Cond.code yX6_within cX6_within 4 (some .boolean), Cond.methodLink RX4 44 yX4_isMissing, Cond.instanceMethod yX4_isMissing, Cond.selects RX4 yX4_isMissing yX4_isMissing, Cond.code yX4_isMissing cX4_isMissing 2 (some .boolean), Cond.methodLink RX6 56 yX6_refuse, Cond.instanceMethod yX6_refuse, Cond.selects RX6 yX6_refuse yX6_refuse, Cond.code yX6_refuse cX6_refuse 2 (some .boolean), Cond.fieldLink RX6 44 "MachineHall" "status" "I", Cond.methodLink RX6 71 yX4_put, Cond.instanceMethod yX4_put]
def wsX6_write_r2 : List Cond := [Cond.selects RX4 yX4_put yX4_put, Cond.code yX4_put cX4_put 5 none, Cond.fieldLink RX4 13 "MachineHall$Sheets" "numbers" "[[J", Cond.fieldLink RX4 16 "MachineHall$Sheets" "sorts" "[I", Cond.methodLink RX4 36 yX4_cut, Cond.static yX4_cut, Cond.code yX4_cut cX4_cut 3 (some .long), Cond.methodLink RX6 63 yX6_agree, Cond.instanceMethod yX6_agree, Cond.selects RX6 yX6_agree yX6_agree, Cond.code yX6_agree cX6_agree 1 (some .boolean)]
def wsX6_write : List Cond := .code yX6_write cX6_write 6 (some .boolean) :: ((wsX6_write_r1 ++ wsX6_write_r2) ++ wsX60 ++ wsX40)
def wsX6_deny : List Cond := .code yX6_deny cX6_deny 2 (some .int) :: ([.fieldLink RX6 44 "MachineHall" "status" "I"] ++ wsX60)
def wsX6_read_r1 : List Cond := [Cond.fieldLink RX6 10 "MachineHall" "sheets" "LMachineHall$Sheets;", Cond.fieldLink RX6 44 "MachineHall" "status" "I", Cond.methodLink RX6 67 yX4_whyNoPlace, Cond.instanceMethod yX4_whyNoPlace, Cond.selects RX4 yX4_whyNoPlace yX4_whyNoPlace, Cond.initialized RX4, Cond.code yX4_whyNoPlace cX4_whyNoPlace 3 (some .int), Cond.fieldLink RX4 20 "MachineHall$Sheets" "lengths" "[I", Cond.methodLink RX4 40 yX4_isNumber, Cond.static yX4_isNumber, Cond.code yX4_isNumber cX4_isNumber 1 (some .boolean), Cond.static yX6_within, Cond.initialized RX6, Cond.code yX6_within cX6_within 4 (some .boolean), Cond.methodLink RX4 44 yX4_isMissing, Cond.instanceMethod yX4_isMissing, Cond.selects RX4 yX4_isMissing yX4_isMissing, Cond.code yX4_isMissing cX4_isMissing 2 (some .boolean), Cond.methodLink RX6 75 yX6_deny, Cond.instanceMethod yX6_deny, Cond.selects RX6 yX6_deny yX6_deny, Cond.code yX6_deny cX6_deny 2 (some .int), Cond.methodLink RX6 79 yX4_at, Cond.instanceMethod yX4_at]
def wsX6_read_r2 : List Cond := [Cond.selects RX4 yX4_at yX4_at, Cond.code yX4_at cX4_at 3 (some .long), Cond.fieldLink RX4 13 "MachineHall$Sheets" "numbers" "[[J"]
def wsX6_read : List Cond := .code yX6_read cX6_read 4 (some .long) :: ((wsX6_read_r1 ++ wsX6_read_r2) ++ wsX60 ++ wsX40)
def wsX6_drop_r1 : List Cond := [Cond.fieldLink RX6 10 "MachineHall" "sheets" "LMachineHall$Sheets;", Cond.methodLink RX6 48 yX4_isNumber, Cond.static yX4_isNumber, Cond.initialized RX4, Cond.code yX4_isNumber cX4_isNumber 1 (some .boolean), Cond.static yX6_within, Cond.initialized RX6, Cond.code yX6_within cX6_within 4 (some .boolean), Cond.methodLink RX6 56 yX6_refuse, Cond.instanceMethod yX6_refuse, Cond.selects RX6 yX6_refuse yX6_refuse, Cond.code yX6_refuse cX6_refuse 2 (some .boolean), Cond.fieldLink RX6 44 "MachineHall" "status" "I", Cond.methodLink RX6 83 yX4_isMissing, Cond.instanceMethod yX4_isMissing, Cond.selects RX4 yX4_isMissing yX4_isMissing, Cond.code yX4_isMissing cX4_isMissing 2 (some .boolean), Cond.fieldLink RX4 20 "MachineHall$Sheets" "lengths" "[I", Cond.methodLink RX6 86 yX4_lose, Cond.instanceMethod yX4_lose, Cond.selects RX4 yX4_lose yX4_lose, Cond.code yX4_lose cX4_lose 2 none, Cond.methodLink RX6 63 yX6_agree, Cond.instanceMethod yX6_agree]
def wsX6_drop_r2 : List Cond := [Cond.selects RX6 yX6_agree yX6_agree, Cond.code yX6_agree cX6_agree 1 (some .boolean)]
def wsX6_drop : List Cond := .code yX6_drop cX6_drop 2 (some .boolean) :: ((wsX6_drop_r1 ++ wsX6_drop_r2) ++ wsX60 ++ wsX40)
def wsX6_copy_r1 : List Cond := [Cond.fieldLink RX6 10 "MachineHall" "sheets" "LMachineHall$Sheets;", Cond.methodLink RX6 48 yX4_isNumber, Cond.static yX4_isNumber, Cond.initialized RX4, Cond.code yX4_isNumber cX4_isNumber 1 (some .boolean), Cond.static yX6_within, Cond.initialized RX6, Cond.code yX6_within cX6_within 4 (some .boolean), Cond.methodLink RX6 56 yX6_refuse, Cond.instanceMethod yX6_refuse, Cond.selects RX6 yX6_refuse yX6_refuse, Cond.code yX6_refuse cX6_refuse 2 (some .boolean), Cond.fieldLink RX6 44 "MachineHall" "status" "I", Cond.methodLink RX6 83 yX4_isMissing, Cond.instanceMethod yX4_isMissing, Cond.selects RX4 yX4_isMissing yX4_isMissing, Cond.code yX4_isMissing cX4_isMissing 2 (some .boolean), Cond.fieldLink RX4 20 "MachineHall$Sheets" "lengths" "[I", Cond.methodLink RX6 90 yX4_spans, Cond.instanceMethod yX4_spans, Cond.selects RX4 yX4_spans yX4_spans, Cond.code yX4_spans cX4_spans 4 (some .boolean), Cond.methodLink RX6 94 yX4_carry, Cond.instanceMethod yX4_carry]
def wsX6_copy_r2 : List Cond := [Cond.selects RX4 yX4_carry yX4_carry, Cond.code yX4_carry cX4_carry 7 none, Cond.fieldLink RX4 13 "MachineHall$Sheets" "numbers" "[[J", Cond.methodLink RX4 47 arraycopyName, Cond.native arraycopyName, Cond.static arraycopyName, Cond.initialized "java/lang/System", Cond.methodLink RX4 53 yX4_put, Cond.instanceMethod yX4_put, Cond.selects RX4 yX4_put yX4_put, Cond.code yX4_put cX4_put 5 none, Cond.fieldLink RX4 16 "MachineHall$Sheets" "sorts" "[I", Cond.methodLink RX4 36 yX4_cut, Cond.static yX4_cut, Cond.code yX4_cut cX4_cut 3 (some .long), Cond.methodLink RX6 63 yX6_agree, Cond.instanceMethod yX6_agree, Cond.selects RX6 yX6_agree yX6_agree, Cond.code yX6_agree cX6_agree 1 (some .boolean)]
def wsX6_copy : List Cond := .code yX6_copy cX6_copy 6 (some .boolean) :: ((wsX6_copy_r1 ++ wsX6_copy_r2) ++ wsX60 ++ wsX40)
def wsX6_none : List Cond := .code yX6_none cX6_none 1 (some .boolean) :: ([.methodLink RX6 56 yX6_refuse, .instanceMethod yX6_refuse, .selects RX6 yX6_refuse yX6_refuse, .initialized RX6, .code yX6_refuse cX6_refuse 2 (some .boolean), .fieldLink RX6 44 "MachineHall" "status" "I"] ++ wsX60)
def wsX6_answer : List Cond := .code yX6_answer cX6_answer 2 (some .int) :: ([.fieldLink RX6 44 "MachineHall" "status" "I"] ++ wsX60)
def wsX6_machine : List Cond := .code yX6_machine cX6_machine 3 (some .int) :: ([.fieldLink RX6 19 "MachineHall" "hall" "LMachineHall$Hall;", .fieldLink RX6 98 "MachineHall$Hall" "machines" "I", .methodLink RX6 52 yX6_within, .static yX6_within, .initialized RX6, .code yX6_within cX6_within 4 (some .boolean), .methodLink RX6 75 yX6_deny, .instanceMethod yX6_deny, .selects RX6 yX6_deny yX6_deny, .code yX6_deny cX6_deny 2 (some .int), .fieldLink RX6 44 "MachineHall" "status" "I", .methodLink RX6 101 yX1_addMachine, .instanceMethod yX1_addMachine, .selects RX1 yX1_addMachine yX1_addMachine, .initialized RX1, .code yX1_addMachine cX1_addMachine 4 (some .int), .fieldLink RX1 48 "MachineHall$Hall" "machines" "I", .fieldLink RX1 11 "MachineHall$Hall" "sizes" "[I", .fieldLink RX1 15 "MachineHall$Hall" "inRoom" "[I", .fieldLink RX1 54 "MachineHall$Hall" "ups" "I", .methodLink RX6 104 yX6_answer, .instanceMethod yX6_answer, .selects RX6 yX6_answer yX6_answer, .code yX6_answer cX6_answer 2 (some .int)] ++ wsX60 ++ wsX10)
def wsX6_up_r1 : List Cond := [Cond.fieldLink RX6 19 "MachineHall" "hall" "LMachineHall$Hall;", Cond.methodLink RX6 107 yX1_hasMachine, Cond.instanceMethod yX1_hasMachine, Cond.selects RX1 yX1_hasMachine yX1_hasMachine, Cond.initialized RX1, Cond.code yX1_hasMachine cX1_hasMachine 2 (some .boolean), Cond.fieldLink RX1 48 "MachineHall$Hall" "machines" "I", Cond.static yX6_within, Cond.initialized RX6, Cond.code yX6_within cX6_within 4 (some .boolean), Cond.methodLink RX6 56 yX6_refuse, Cond.instanceMethod yX6_refuse, Cond.selects RX6 yX6_refuse yX6_refuse, Cond.code yX6_refuse cX6_refuse 2 (some .boolean), Cond.fieldLink RX6 44 "MachineHall" "status" "I", Cond.methodLink RX6 110 yX1_isUp, Cond.instanceMethod yX1_isUp, Cond.selects RX1 yX1_isUp yX1_isUp, Cond.code yX1_isUp cX1_isUp 2 (some .boolean), Cond.fieldLink RX1 54 "MachineHall$Hall" "ups" "I", Cond.methodLink RX1 57 yX1_has, Cond.static yX1_has, Cond.code yX1_has cX1_has 2 (some .boolean), Cond.methodLink RX6 113 yX1_turn]
def wsX6_up_r2 : List Cond := [Cond.instanceMethod yX1_turn, Cond.selects RX1 yX1_turn yX1_turn, Cond.code yX1_turn cX1_turn 2 none, Cond.methodLink RX6 63 yX6_agree, Cond.instanceMethod yX6_agree, Cond.selects RX6 yX6_agree yX6_agree, Cond.code yX6_agree cX6_agree 1 (some .boolean)]
def wsX6_up : List Cond := .code yX6_up cX6_up 3 (some .boolean) :: ((wsX6_up_r1 ++ wsX6_up_r2) ++ wsX60 ++ wsX10)
def wsX6_isHour : List Cond := .code yX6_isHour cX6_isHour 1 (some .boolean) :: ([.methodLink RX6 52 yX6_within, .static yX6_within, .initialized RX6, .code yX6_within cX6_within 4 (some .boolean)])
def wsX6_ask_r1 : List Cond := [Cond.fieldLink RX6 19 "MachineHall" "hall" "LMachineHall$Hall;", Cond.fieldLink RX6 119 "MachineHall$Hall" "asks" "I", Cond.fieldLink RX6 26 "MachineHall" "plan" "LMachineHall$Plan;", Cond.methodLink RX6 52 yX6_within, Cond.static yX6_within, Cond.initialized RX6, Cond.code yX6_within cX6_within 4 (some .boolean), Cond.methodLink RX6 116 yX6_isHour, Cond.static yX6_isHour, Cond.code yX6_isHour cX6_isHour 1 (some .boolean), Cond.methodLink RX6 75 yX6_deny, Cond.instanceMethod yX6_deny, Cond.selects RX6 yX6_deny yX6_deny, Cond.code yX6_deny cX6_deny 2 (some .int), Cond.fieldLink RX6 44 "MachineHall" "status" "I", Cond.methodLink RX6 122 yX3_forget, Cond.instanceMethod yX3_forget, Cond.selects RX3 yX3_forget yX3_forget, Cond.initialized RX3, Cond.code yX3_forget cX3_forget 1 none, Cond.fieldLink RX3 38 "MachineHall$Plan" "laidFor" "I", Cond.methodLink RX6 125 yX1_addAsk, Cond.instanceMethod yX1_addAsk, Cond.selects RX1 yX1_addAsk yX1_addAsk]
def wsX6_ask_r2 : List Cond := [Cond.initialized RX1, Cond.code yX1_addAsk cX1_addAsk 6 (some .int), Cond.fieldLink RX1 51 "MachineHall$Hall" "asks" "I", Cond.fieldLink RX1 18 "MachineHall$Hall" "needs" "[I", Cond.fieldLink RX1 24 "MachineHall$Hall" "ofHour" "[I", Cond.methodLink RX1 61 yX1_markAsked, Cond.instanceMethod yX1_markAsked, Cond.selects RX1 yX1_markAsked yX1_markAsked, Cond.code yX1_markAsked cX1_markAsked 3 none, Cond.fieldLink RX1 34 "MachineHall$Hall" "asked" "[Z", Cond.methodLink RX1 65 yX1_tally, Cond.instanceMethod yX1_tally, Cond.selects RX1 yX1_tally yX1_tally, Cond.code yX1_tally cX1_tally 4 none, Cond.fieldLink RX1 40 "MachineHall$Hall" "latestFor" "I", Cond.fieldLink RX1 27 "MachineHall$Hall" "load" "[I", Cond.fieldLink RX1 30 "MachineHall$Hall" "clash" "[Z", Cond.fieldLink RX1 21 "MachineHall$Hall" "foes" "[I", Cond.methodLink RX6 104 yX6_answer, Cond.instanceMethod yX6_answer, Cond.selects RX6 yX6_answer yX6_answer, Cond.code yX6_answer cX6_answer 2 (some .int)]
def wsX6_ask : List Cond := .code yX6_ask cX6_ask 4 (some .int) :: ((wsX6_ask_r1 ++ wsX6_ask_r2) ++ wsX60 ++ wsX10 ++ wsX30)
def wsX6_apart_r1 : List Cond := [Cond.fieldLink RX6 19 "MachineHall" "hall" "LMachineHall$Hall;", Cond.fieldLink RX6 26 "MachineHall" "plan" "LMachineHall$Plan;", Cond.methodLink RX6 129 yX1_hasAsk, Cond.instanceMethod yX1_hasAsk, Cond.selects RX1 yX1_hasAsk yX1_hasAsk, Cond.initialized RX1, Cond.code yX1_hasAsk cX1_hasAsk 2 (some .boolean), Cond.fieldLink RX1 51 "MachineHall$Hall" "asks" "I", Cond.static yX6_within, Cond.initialized RX6, Cond.code yX6_within cX6_within 4 (some .boolean), Cond.methodLink RX6 56 yX6_refuse, Cond.instanceMethod yX6_refuse, Cond.selects RX6 yX6_refuse yX6_refuse, Cond.code yX6_refuse cX6_refuse 2 (some .boolean), Cond.fieldLink RX6 44 "MachineHall" "status" "I", Cond.methodLink RX6 132 yX1_areFoes, Cond.instanceMethod yX1_areFoes, Cond.selects RX1 yX1_areFoes yX1_areFoes, Cond.code yX1_areFoes cX1_areFoes 3 (some .boolean), Cond.fieldLink RX1 21 "MachineHall$Hall" "foes" "[I", Cond.methodLink RX1 57 yX1_has, Cond.static yX1_has, Cond.code yX1_has cX1_has 2 (some .boolean)]
def wsX6_apart_r2 : List Cond := [Cond.methodLink RX6 122 yX3_forget, Cond.instanceMethod yX3_forget, Cond.selects RX3 yX3_forget yX3_forget, Cond.initialized RX3, Cond.code yX3_forget cX3_forget 1 none, Cond.fieldLink RX3 38 "MachineHall$Plan" "laidFor" "I", Cond.methodLink RX6 136 yX1_turnFoes, Cond.instanceMethod yX1_turnFoes, Cond.selects RX1 yX1_turnFoes yX1_turnFoes, Cond.code yX1_turnFoes cX1_turnFoes 3 none, Cond.methodLink RX1 65 yX1_tally, Cond.instanceMethod yX1_tally, Cond.selects RX1 yX1_tally yX1_tally, Cond.code yX1_tally cX1_tally 4 none, Cond.fieldLink RX1 40 "MachineHall$Hall" "latestFor" "I", Cond.fieldLink RX1 27 "MachineHall$Hall" "load" "[I", Cond.fieldLink RX1 18 "MachineHall$Hall" "needs" "[I", Cond.fieldLink RX1 30 "MachineHall$Hall" "clash" "[Z", Cond.methodLink RX6 63 yX6_agree, Cond.instanceMethod yX6_agree, Cond.selects RX6 yX6_agree yX6_agree, Cond.code yX6_agree cX6_agree 1 (some .boolean)]
def wsX6_apart : List Cond := .code yX6_apart cX6_apart 4 (some .boolean) :: ((wsX6_apart_r1 ++ wsX6_apart_r2) ++ wsX60 ++ wsX10 ++ wsX30)
def wsX6_count_r1 : List Cond := [Cond.fieldLink RX6 19 "MachineHall" "hall" "LMachineHall$Hall;", Cond.fieldLink RX6 98 "MachineHall$Hall" "machines" "I", Cond.fieldLink RX6 119 "MachineHall$Hall" "asks" "I", Cond.fieldLink RX6 26 "MachineHall" "plan" "LMachineHall$Plan;", Cond.fieldLink RX6 140 "MachineHall$Plan" "batches" "I", Cond.fieldLink RX6 40 "MachineHall" "market" "LMachineHall$Market;", Cond.fieldLink RX6 143 "MachineHall$Market" "types" "I", Cond.methodLink RX6 104 yX6_answer, Cond.instanceMethod yX6_answer, Cond.selects RX6 yX6_answer yX6_answer, Cond.initialized RX6, Cond.code yX6_answer cX6_answer 2 (some .int), Cond.fieldLink RX6 44 "MachineHall" "status" "I", Cond.methodLink RX6 146 yX1_standing, Cond.instanceMethod yX1_standing, Cond.selects RX1 yX1_standing yX1_standing, Cond.initialized RX1, Cond.code yX1_standing cX1_standing 2 (some .int), Cond.fieldLink RX1 54 "MachineHall$Hall" "ups" "I", Cond.fieldLink RX1 15 "MachineHall$Hall" "inRoom" "[I", Cond.methodLink RX6 149 yX1_sizeOf, Cond.instanceMethod yX1_sizeOf, Cond.selects RX1 yX1_sizeOf yX1_sizeOf, Cond.code yX1_sizeOf cX1_sizeOf 4 (some .int)]
def wsX6_count_r2 : List Cond := [Cond.fieldLink RX1 48 "MachineHall$Hall" "machines" "I", Cond.fieldLink RX1 11 "MachineHall$Hall" "sizes" "[I", Cond.methodLink RX1 57 yX1_has, Cond.static yX1_has, Cond.code yX1_has cX1_has 2 (some .boolean), Cond.methodLink RX6 75 yX6_deny, Cond.instanceMethod yX6_deny, Cond.selects RX6 yX6_deny yX6_deny, Cond.code yX6_deny cX6_deny 2 (some .int)]
def wsX6_count : List Cond := .code yX6_count cX6_count 2 (some .int) :: ((wsX6_count_r1 ++ wsX6_count_r2) ++ wsX60 ++ wsX10 ++ wsX30 ++ wsX20)
def wsX6_fits_r1 : List Cond := [Cond.fieldLink RX6 19 "MachineHall" "hall" "LMachineHall$Hall;", Cond.methodLink RX6 116 yX6_isHour, Cond.static yX6_isHour, Cond.initialized RX6, Cond.code yX6_isHour cX6_isHour 1 (some .boolean), Cond.methodLink RX6 52 yX6_within, Cond.static yX6_within, Cond.code yX6_within cX6_within 4 (some .boolean), Cond.methodLink RX6 152 yX1_isFall, Cond.static yX1_isFall, Cond.initialized RX1, Cond.code yX1_isFall cX1_isFall 1 (some .boolean), Cond.methodLink RX6 75 yX6_deny, Cond.instanceMethod yX6_deny, Cond.selects RX6 yX6_deny yX6_deny, Cond.code yX6_deny cX6_deny 2 (some .int), Cond.fieldLink RX6 44 "MachineHall" "status" "I", Cond.methodLink RX6 146 yX1_standing, Cond.instanceMethod yX1_standing, Cond.selects RX1 yX1_standing yX1_standing, Cond.code yX1_standing cX1_standing 2 (some .int), Cond.fieldLink RX1 54 "MachineHall$Hall" "ups" "I", Cond.fieldLink RX1 15 "MachineHall$Hall" "inRoom" "[I", Cond.methodLink RX6 155 yX1_holds]
def wsX6_fits_r2 : List Cond := [Cond.instanceMethod yX1_holds, Cond.selects RX1 yX1_holds yX1_holds, Cond.code yX1_holds cX1_holds 3 (some .boolean), Cond.fieldLink RX1 37 "MachineHall$Hall" "latest" "[I", Cond.fieldLink RX1 24 "MachineHall$Hall" "ofHour" "[I", Cond.methodLink RX1 68 yX1_findLatest, Cond.instanceMethod yX1_findLatest, Cond.selects RX1 yX1_findLatest yX1_findLatest, Cond.code yX1_findLatest cX1_findLatest 4 none, Cond.fieldLink RX1 40 "MachineHall$Hall" "latestFor" "I", Cond.fieldLink RX1 48 "MachineHall$Hall" "machines" "I", Cond.fieldLink RX1 11 "MachineHall$Hall" "sizes" "[I", Cond.methodLink RX1 96 yJ7_fill_53178, Cond.static yJ7_fill_53178, Cond.initialized RJ7, Cond.code yJ7_fill_53178 cJ7_fill_53178 4 none, Cond.methodLink RX1 57 yX1_has, Cond.static yX1_has, Cond.code yX1_has cX1_has 2 (some .boolean), Cond.methodLink RX1 102 yX1_findWith, Cond.instanceMethod yX1_findWith, Cond.selects RX1 yX1_findWith yX1_findWith, Cond.code yX1_findWith cX1_findWith 4 none, Cond.fieldLink RX1 51 "MachineHall$Hall" "asks" "I"]
def wsX6_fits_r3 : List Cond := [Cond.fieldLink RX1 34 "MachineHall$Hall" "asked" "[Z", Cond.fieldLink RX1 27 "MachineHall$Hall" "load" "[I", Cond.methodLink RX1 71 yX1_greatestOn, Cond.instanceMethod yX1_greatestOn, Cond.selects RX1 yX1_greatestOn yX1_greatestOn, Cond.code yX1_greatestOn cX1_greatestOn 4 (some .int), Cond.fieldLink RX1 30 "MachineHall$Hall" "clash" "[Z", Cond.methodLink RX6 104 yX6_answer, Cond.instanceMethod yX6_answer, Cond.selects RX6 yX6_answer yX6_answer, Cond.code yX6_answer cX6_answer 2 (some .int)]
def wsX6_fits : List Cond := .code yX6_fits cX6_fits 3 (some .int) :: ((wsX6_fits_r1 ++ (wsX6_fits_r2 ++ wsX6_fits_r3)) ++ wsX60 ++ wsX10)
def wsX6_on_r1 : List Cond := [Cond.fieldLink RX6 19 "MachineHall" "hall" "LMachineHall$Hall;", Cond.methodLink RX6 116 yX6_isHour, Cond.static yX6_isHour, Cond.initialized RX6, Cond.code yX6_isHour cX6_isHour 1 (some .boolean), Cond.methodLink RX6 52 yX6_within, Cond.static yX6_within, Cond.code yX6_within cX6_within 4 (some .boolean), Cond.methodLink RX6 152 yX1_isFall, Cond.static yX1_isFall, Cond.initialized RX1, Cond.code yX1_isFall cX1_isFall 1 (some .boolean), Cond.methodLink RX6 129 yX1_hasAsk, Cond.instanceMethod yX1_hasAsk, Cond.selects RX1 yX1_hasAsk yX1_hasAsk, Cond.code yX1_hasAsk cX1_hasAsk 2 (some .boolean), Cond.fieldLink RX1 51 "MachineHall$Hall" "asks" "I", Cond.methodLink RX6 158 yX1_isAskOf, Cond.instanceMethod yX1_isAskOf, Cond.selects RX1 yX1_isAskOf yX1_isAskOf, Cond.code yX1_isAskOf cX1_isAskOf 3 (some .boolean), Cond.fieldLink RX1 24 "MachineHall$Hall" "ofHour" "[I", Cond.methodLink RX1 57 yX1_has, Cond.static yX1_has]
def wsX6_on_r2 : List Cond := [Cond.code yX1_has cX1_has 2 (some .boolean), Cond.methodLink RX6 75 yX6_deny, Cond.instanceMethod yX6_deny, Cond.selects RX6 yX6_deny yX6_deny, Cond.code yX6_deny cX6_deny 2 (some .int), Cond.fieldLink RX6 44 "MachineHall" "status" "I", Cond.methodLink RX6 146 yX1_standing, Cond.instanceMethod yX1_standing, Cond.selects RX1 yX1_standing yX1_standing, Cond.code yX1_standing cX1_standing 2 (some .int), Cond.fieldLink RX1 54 "MachineHall$Hall" "ups" "I", Cond.fieldLink RX1 15 "MachineHall$Hall" "inRoom" "[I", Cond.methodLink RX6 155 yX1_holds, Cond.instanceMethod yX1_holds, Cond.selects RX1 yX1_holds yX1_holds, Cond.code yX1_holds cX1_holds 3 (some .boolean), Cond.fieldLink RX1 37 "MachineHall$Hall" "latest" "[I", Cond.methodLink RX1 68 yX1_findLatest, Cond.instanceMethod yX1_findLatest, Cond.selects RX1 yX1_findLatest yX1_findLatest, Cond.code yX1_findLatest cX1_findLatest 4 none, Cond.fieldLink RX1 40 "MachineHall$Hall" "latestFor" "I", Cond.fieldLink RX1 48 "MachineHall$Hall" "machines" "I", Cond.fieldLink RX1 11 "MachineHall$Hall" "sizes" "[I"]
def wsX6_on_r3 : List Cond := [Cond.methodLink RX1 96 yJ7_fill_53178, Cond.static yJ7_fill_53178, Cond.initialized RJ7, Cond.code yJ7_fill_53178 cJ7_fill_53178 4 none, Cond.methodLink RX1 102 yX1_findWith, Cond.instanceMethod yX1_findWith, Cond.selects RX1 yX1_findWith yX1_findWith, Cond.code yX1_findWith cX1_findWith 4 none, Cond.fieldLink RX1 34 "MachineHall$Hall" "asked" "[Z", Cond.fieldLink RX1 27 "MachineHall$Hall" "load" "[I", Cond.methodLink RX1 71 yX1_greatestOn, Cond.instanceMethod yX1_greatestOn, Cond.selects RX1 yX1_greatestOn yX1_greatestOn, Cond.code yX1_greatestOn cX1_greatestOn 4 (some .int), Cond.fieldLink RX1 30 "MachineHall$Hall" "clash" "[Z", Cond.methodLink RX6 161 yX1_layingOf, Cond.instanceMethod yX1_layingOf, Cond.selects RX1 yX1_layingOf yX1_layingOf, Cond.code yX1_layingOf cX1_layingOf 7 (some .int), Cond.methodLink RX6 104 yX6_answer, Cond.instanceMethod yX6_answer, Cond.selects RX6 yX6_answer yX6_answer, Cond.code yX6_answer cX6_answer 2 (some .int)]
def wsX6_on : List Cond := .code yX6_on cX6_on 4 (some .int) :: ((wsX6_on_r1 ++ (wsX6_on_r2 ++ wsX6_on_r3)) ++ wsX60 ++ wsX10)
def wsX6_lack_r1 : List Cond := [Cond.fieldLink RX6 19 "MachineHall" "hall" "LMachineHall$Hall;", Cond.methodLink RX6 116 yX6_isHour, Cond.static yX6_isHour, Cond.initialized RX6, Cond.code yX6_isHour cX6_isHour 1 (some .boolean), Cond.methodLink RX6 52 yX6_within, Cond.static yX6_within, Cond.code yX6_within cX6_within 4 (some .boolean), Cond.methodLink RX6 152 yX1_isFall, Cond.static yX1_isFall, Cond.initialized RX1, Cond.code yX1_isFall cX1_isFall 1 (some .boolean), Cond.methodLink RX6 75 yX6_deny, Cond.instanceMethod yX6_deny, Cond.selects RX6 yX6_deny yX6_deny, Cond.code yX6_deny cX6_deny 2 (some .int), Cond.fieldLink RX6 44 "MachineHall" "status" "I", Cond.methodLink RX6 146 yX1_standing, Cond.instanceMethod yX1_standing, Cond.selects RX1 yX1_standing yX1_standing, Cond.code yX1_standing cX1_standing 2 (some .int), Cond.fieldLink RX1 54 "MachineHall$Hall" "ups" "I", Cond.fieldLink RX1 15 "MachineHall$Hall" "inRoom" "[I", Cond.methodLink RX6 164 yX1_lacking]
def wsX6_lack_r2 : List Cond := [Cond.instanceMethod yX1_lacking, Cond.selects RX1 yX1_lacking yX1_lacking, Cond.code yX1_lacking cX1_lacking 6 (some .int), Cond.fieldLink RX1 24 "MachineHall$Hall" "ofHour" "[I", Cond.fieldLink RX1 37 "MachineHall$Hall" "latest" "[I", Cond.fieldLink RX1 27 "MachineHall$Hall" "load" "[I", Cond.methodLink RX1 75 Lib.Math.max.name, Cond.static Lib.Math.max.name, Cond.initialized "java/lang/Math", Cond.code Lib.Math.max.name Lib.Math.max.code 2 (some .int), Cond.methodLink RX1 68 yX1_findLatest, Cond.instanceMethod yX1_findLatest, Cond.selects RX1 yX1_findLatest yX1_findLatest, Cond.code yX1_findLatest cX1_findLatest 4 none, Cond.fieldLink RX1 40 "MachineHall$Hall" "latestFor" "I", Cond.fieldLink RX1 48 "MachineHall$Hall" "machines" "I", Cond.fieldLink RX1 11 "MachineHall$Hall" "sizes" "[I", Cond.methodLink RX1 96 yJ7_fill_53178, Cond.static yJ7_fill_53178, Cond.initialized RJ7, Cond.code yJ7_fill_53178 cJ7_fill_53178 4 none, Cond.methodLink RX1 57 yX1_has, Cond.static yX1_has, Cond.code yX1_has cX1_has 2 (some .boolean)]
def wsX6_lack_r3 : List Cond := [Cond.methodLink RX1 102 yX1_findWith, Cond.instanceMethod yX1_findWith, Cond.selects RX1 yX1_findWith yX1_findWith, Cond.code yX1_findWith cX1_findWith 4 none, Cond.fieldLink RX1 51 "MachineHall$Hall" "asks" "I", Cond.fieldLink RX1 34 "MachineHall$Hall" "asked" "[Z", Cond.methodLink RX1 71 yX1_greatestOn, Cond.instanceMethod yX1_greatestOn, Cond.selects RX1 yX1_greatestOn yX1_greatestOn, Cond.code yX1_greatestOn cX1_greatestOn 4 (some .int), Cond.fieldLink RX1 30 "MachineHall$Hall" "clash" "[Z", Cond.methodLink RX6 104 yX6_answer, Cond.instanceMethod yX6_answer, Cond.selects RX6 yX6_answer yX6_answer, Cond.code yX6_answer cX6_answer 2 (some .int)]
def wsX6_lack : List Cond := .code yX6_lack cX6_lack 3 (some .int) :: ((wsX6_lack_r1 ++ (wsX6_lack_r2 ++ wsX6_lack_r3)) ++ wsX60 ++ wsX10)
def wsX6_left_r1 : List Cond := [Cond.fieldLink RX6 19 "MachineHall" "hall" "LMachineHall$Hall;", Cond.methodLink RX6 116 yX6_isHour, Cond.static yX6_isHour, Cond.initialized RX6, Cond.code yX6_isHour cX6_isHour 1 (some .boolean), Cond.methodLink RX6 52 yX6_within, Cond.static yX6_within, Cond.code yX6_within cX6_within 4 (some .boolean), Cond.methodLink RX6 152 yX1_isFall, Cond.static yX1_isFall, Cond.initialized RX1, Cond.code yX1_isFall cX1_isFall 1 (some .boolean), Cond.methodLink RX6 75 yX6_deny, Cond.instanceMethod yX6_deny, Cond.selects RX6 yX6_deny yX6_deny, Cond.code yX6_deny cX6_deny 2 (some .int), Cond.fieldLink RX6 44 "MachineHall" "status" "I", Cond.methodLink RX6 146 yX1_standing, Cond.instanceMethod yX1_standing, Cond.selects RX1 yX1_standing yX1_standing, Cond.code yX1_standing cX1_standing 2 (some .int), Cond.fieldLink RX1 54 "MachineHall$Hall" "ups" "I", Cond.fieldLink RX1 15 "MachineHall$Hall" "inRoom" "[I", Cond.methodLink RX6 167 yX1_leftOver]
def wsX6_left_r2 : List Cond := [Cond.instanceMethod yX1_leftOver, Cond.selects RX1 yX1_leftOver yX1_leftOver, Cond.code yX1_leftOver cX1_leftOver 4 (some .int), Cond.fieldLink RX1 24 "MachineHall$Hall" "ofHour" "[I", Cond.fieldLink RX1 37 "MachineHall$Hall" "latest" "[I", Cond.fieldLink RX1 27 "MachineHall$Hall" "load" "[I", Cond.methodLink RX1 68 yX1_findLatest, Cond.instanceMethod yX1_findLatest, Cond.selects RX1 yX1_findLatest yX1_findLatest, Cond.code yX1_findLatest cX1_findLatest 4 none, Cond.fieldLink RX1 40 "MachineHall$Hall" "latestFor" "I", Cond.fieldLink RX1 48 "MachineHall$Hall" "machines" "I", Cond.fieldLink RX1 11 "MachineHall$Hall" "sizes" "[I", Cond.methodLink RX1 96 yJ7_fill_53178, Cond.static yJ7_fill_53178, Cond.initialized RJ7, Cond.code yJ7_fill_53178 cJ7_fill_53178 4 none, Cond.methodLink RX1 57 yX1_has, Cond.static yX1_has, Cond.code yX1_has cX1_has 2 (some .boolean), Cond.methodLink RX1 102 yX1_findWith, Cond.instanceMethod yX1_findWith, Cond.selects RX1 yX1_findWith yX1_findWith, Cond.code yX1_findWith cX1_findWith 4 none]
def wsX6_left_r3 : List Cond := [Cond.fieldLink RX1 51 "MachineHall$Hall" "asks" "I", Cond.fieldLink RX1 34 "MachineHall$Hall" "asked" "[Z", Cond.methodLink RX1 71 yX1_greatestOn, Cond.instanceMethod yX1_greatestOn, Cond.selects RX1 yX1_greatestOn yX1_greatestOn, Cond.code yX1_greatestOn cX1_greatestOn 4 (some .int), Cond.fieldLink RX1 30 "MachineHall$Hall" "clash" "[Z", Cond.methodLink RX1 80 yX1_sizeOf, Cond.instanceMethod yX1_sizeOf, Cond.selects RX1 yX1_sizeOf yX1_sizeOf, Cond.code yX1_sizeOf cX1_sizeOf 4 (some .int), Cond.methodLink RX6 104 yX6_answer, Cond.instanceMethod yX6_answer, Cond.selects RX6 yX6_answer yX6_answer, Cond.code yX6_answer cX6_answer 2 (some .int)]
def wsX6_left : List Cond := .code yX6_left cX6_left 3 (some .int) :: ((wsX6_left_r1 ++ (wsX6_left_r2 ++ wsX6_left_r3)) ++ wsX60 ++ wsX10)
def wsX6_enough_r1 : List Cond := [Cond.fieldLink RX6 19 "MachineHall" "hall" "LMachineHall$Hall;", Cond.methodLink RX6 52 yX6_within, Cond.static yX6_within, Cond.initialized RX6, Cond.code yX6_within cX6_within 4 (some .boolean), Cond.methodLink RX6 75 yX6_deny, Cond.instanceMethod yX6_deny, Cond.selects RX6 yX6_deny yX6_deny, Cond.code yX6_deny cX6_deny 2 (some .int), Cond.fieldLink RX6 44 "MachineHall" "status" "I", Cond.methodLink RX6 170 yX1_firstUnfit, Cond.instanceMethod yX1_firstUnfit, Cond.selects RX1 yX1_firstUnfit yX1_firstUnfit, Cond.initialized RX1, Cond.code yX1_firstUnfit cX1_firstUnfit 6 (some .int), Cond.methodLink RX1 84 yX1_isLookedAt, Cond.instanceMethod yX1_isLookedAt, Cond.selects RX1 yX1_isLookedAt yX1_isLookedAt, Cond.code yX1_isLookedAt cX1_isLookedAt 3 (some .boolean), Cond.fieldLink RX1 48 "MachineHall$Hall" "machines" "I", Cond.methodLink RX1 87 yX1_standing, Cond.instanceMethod yX1_standing, Cond.selects RX1 yX1_standing yX1_standing, Cond.code yX1_standing cX1_standing 2 (some .int)]
def wsX6_enough_r2 : List Cond := [Cond.fieldLink RX1 54 "MachineHall$Hall" "ups" "I", Cond.fieldLink RX1 15 "MachineHall$Hall" "inRoom" "[I", Cond.methodLink RX1 90 yX1_firstUnfitHour, Cond.instanceMethod yX1_firstUnfitHour, Cond.selects RX1 yX1_firstUnfitHour yX1_firstUnfitHour, Cond.code yX1_firstUnfitHour cX1_firstUnfitHour 4 (some .int), Cond.methodLink RX1 93 yX1_holds, Cond.instanceMethod yX1_holds, Cond.selects RX1 yX1_holds yX1_holds, Cond.code yX1_holds cX1_holds 3 (some .boolean), Cond.fieldLink RX1 37 "MachineHall$Hall" "latest" "[I", Cond.fieldLink RX1 24 "MachineHall$Hall" "ofHour" "[I", Cond.methodLink RX1 68 yX1_findLatest, Cond.instanceMethod yX1_findLatest, Cond.selects RX1 yX1_findLatest yX1_findLatest, Cond.code yX1_findLatest cX1_findLatest 4 none, Cond.fieldLink RX1 40 "MachineHall$Hall" "latestFor" "I", Cond.fieldLink RX1 11 "MachineHall$Hall" "sizes" "[I", Cond.methodLink RX1 96 yJ7_fill_53178, Cond.static yJ7_fill_53178, Cond.initialized RJ7, Cond.code yJ7_fill_53178 cJ7_fill_53178 4 none, Cond.methodLink RX1 57 yX1_has, Cond.static yX1_has]
def wsX6_enough_r3 : List Cond := [Cond.code yX1_has cX1_has 2 (some .boolean), Cond.methodLink RX1 102 yX1_findWith, Cond.instanceMethod yX1_findWith, Cond.selects RX1 yX1_findWith yX1_findWith, Cond.code yX1_findWith cX1_findWith 4 none, Cond.fieldLink RX1 51 "MachineHall$Hall" "asks" "I", Cond.fieldLink RX1 34 "MachineHall$Hall" "asked" "[Z", Cond.fieldLink RX1 27 "MachineHall$Hall" "load" "[I", Cond.methodLink RX1 71 yX1_greatestOn, Cond.instanceMethod yX1_greatestOn, Cond.selects RX1 yX1_greatestOn yX1_greatestOn, Cond.code yX1_greatestOn cX1_greatestOn 4 (some .int), Cond.fieldLink RX1 30 "MachineHall$Hall" "clash" "[Z", Cond.methodLink RX6 104 yX6_answer, Cond.instanceMethod yX6_answer, Cond.selects RX6 yX6_answer yX6_answer, Cond.code yX6_answer cX6_answer 2 (some .int)]
def wsX6_enough : List Cond := .code yX6_enough cX6_enough 2 (some .int) :: ((wsX6_enough_r1 ++ (wsX6_enough_r2 ++ wsX6_enough_r3)) ++ wsX60 ++ wsX10)
def wsX6_batch_r1 : List Cond := [Cond.fieldLink RX6 26 "MachineHall" "plan" "LMachineHall$Plan;", Cond.fieldLink RX6 140 "MachineHall$Plan" "batches" "I", Cond.methodLink RX6 52 yX6_within, Cond.static yX6_within, Cond.initialized RX6, Cond.code yX6_within cX6_within 4 (some .boolean), Cond.methodLink RX6 116 yX6_isHour, Cond.static yX6_isHour, Cond.code yX6_isHour cX6_isHour 1 (some .boolean), Cond.methodLink RX6 75 yX6_deny, Cond.instanceMethod yX6_deny, Cond.selects RX6 yX6_deny yX6_deny, Cond.code yX6_deny cX6_deny 2 (some .int), Cond.fieldLink RX6 44 "MachineHall" "status" "I", Cond.methodLink RX6 173 yX3_addBatch, Cond.instanceMethod yX3_addBatch, Cond.selects RX3 yX3_addBatch yX3_addBatch, Cond.initialized RX3, Cond.code yX3_addBatch cX3_addBatch 6 (some .int), Cond.fieldLink RX3 42 "MachineHall$Plan" "batches" "I", Cond.fieldLink RX3 16 "MachineHall$Plan" "works" "[I", Cond.fieldLink RX3 20 "MachineHall$Plan" "froms" "[I", Cond.fieldLink RX3 23 "MachineHall$Plan" "dues" "[I", Cond.fieldLink RX3 26 "MachineHall$Plan" "mosts" "[I"]
def wsX6_batch_r2 : List Cond := [Cond.methodLink RX3 49 yX3_forget, Cond.instanceMethod yX3_forget, Cond.selects RX3 yX3_forget yX3_forget, Cond.code yX3_forget cX3_forget 1 none, Cond.fieldLink RX3 38 "MachineHall$Plan" "laidFor" "I", Cond.methodLink RX6 104 yX6_answer, Cond.instanceMethod yX6_answer, Cond.selects RX6 yX6_answer yX6_answer, Cond.code yX6_answer cX6_answer 2 (some .int)]
def wsX6_batch : List Cond := .code yX6_batch cX6_batch 5 (some .int) :: ((wsX6_batch_r1 ++ wsX6_batch_r2) ++ wsX60 ++ wsX30)
def wsX6_rest_r1 : List Cond := [Cond.fieldLink RX6 26 "MachineHall" "plan" "LMachineHall$Plan;", Cond.fieldLink RX6 19 "MachineHall" "hall" "LMachineHall$Hall;", Cond.fieldLink RX6 181 "MachineHall$Plan" "unlaid" "I", Cond.methodLink RX6 152 yX1_isFall, Cond.static yX1_isFall, Cond.initialized RX1, Cond.code yX1_isFall cX1_isFall 1 (some .boolean), Cond.static yX6_within, Cond.initialized RX6, Cond.code yX6_within cX6_within 4 (some .boolean), Cond.methodLink RX6 75 yX6_deny, Cond.instanceMethod yX6_deny, Cond.selects RX6 yX6_deny yX6_deny, Cond.code yX6_deny cX6_deny 2 (some .int), Cond.fieldLink RX6 44 "MachineHall" "status" "I", Cond.methodLink RX6 146 yX1_standing, Cond.instanceMethod yX1_standing, Cond.selects RX1 yX1_standing yX1_standing, Cond.code yX1_standing cX1_standing 2 (some .int), Cond.fieldLink RX1 54 "MachineHall$Hall" "ups" "I", Cond.fieldLink RX1 15 "MachineHall$Hall" "inRoom" "[I", Cond.methodLink RX6 177 yX3_lay, Cond.instanceMethod yX3_lay, Cond.selects RX3 yX3_lay yX3_lay]
def wsX6_rest_r2 : List Cond := [Cond.initialized RX3, Cond.code yX3_lay cX3_lay 3 none, Cond.fieldLink RX3 38 "MachineHall$Plan" "laidFor" "I", Cond.fieldLink RX3 56 "MachineHall$Plan" "unlaid" "I", Cond.fieldLink RX3 34 "MachineHall$Plan" "flow" "LMachineHall$Flow;", Cond.methodLink RX3 52 yX3_layPipes, Cond.instanceMethod yX3_layPipes, Cond.selects RX3 yX3_layPipes yX3_layPipes, Cond.code yX3_layPipes cX3_layPipes 6 (some .int), Cond.fieldLink RX3 42 "MachineHall$Plan" "batches" "I", Cond.fieldLink RX3 16 "MachineHall$Plan" "works" "[I", Cond.fieldLink RX3 20 "MachineHall$Plan" "froms" "[I", Cond.fieldLink RX3 23 "MachineHall$Plan" "dues" "[I", Cond.fieldLink RX3 26 "MachineHall$Plan" "mosts" "[I", Cond.methodLink RX3 66 yX0_empty, Cond.instanceMethod yX0_empty, Cond.selects RX0 yX0_empty yX0_empty, Cond.initialized RX0, Cond.code yX0_empty cX0_empty 2 none, Cond.fieldLink RX0 9 "MachineHall$Flow" "nodes" "I", Cond.fieldLink RX0 17 "MachineHall$Flow" "open" "[[I", Cond.methodLink RX0 27 yJ7_fill_53178, Cond.static yJ7_fill_53178, Cond.initialized RJ7]
def wsX6_rest_r3 : List Cond := [Cond.code yJ7_fill_53178 cJ7_fill_53178 4 none, Cond.methodLink RX3 69 yX0_pipe, Cond.instanceMethod yX0_pipe, Cond.selects RX0 yX0_pipe yX0_pipe, Cond.code yX0_pipe cX0_pipe 4 none, Cond.methodLink RX3 73 yX1_leftOver, Cond.instanceMethod yX1_leftOver, Cond.selects RX1 yX1_leftOver yX1_leftOver, Cond.code yX1_leftOver cX1_leftOver 4 (some .int), Cond.fieldLink RX1 24 "MachineHall$Hall" "ofHour" "[I", Cond.fieldLink RX1 37 "MachineHall$Hall" "latest" "[I", Cond.fieldLink RX1 27 "MachineHall$Hall" "load" "[I", Cond.methodLink RX1 68 yX1_findLatest, Cond.instanceMethod yX1_findLatest, Cond.selects RX1 yX1_findLatest yX1_findLatest, Cond.code yX1_findLatest cX1_findLatest 4 none, Cond.fieldLink RX1 40 "MachineHall$Hall" "latestFor" "I", Cond.fieldLink RX1 48 "MachineHall$Hall" "machines" "I", Cond.fieldLink RX1 11 "MachineHall$Hall" "sizes" "[I", Cond.methodLink RX1 96 yJ7_fill_53178, Cond.methodLink RX1 57 yX1_has, Cond.static yX1_has, Cond.code yX1_has cX1_has 2 (some .boolean), Cond.methodLink RX1 102 yX1_findWith]
def wsX6_rest_r4 : List Cond := [Cond.instanceMethod yX1_findWith, Cond.selects RX1 yX1_findWith yX1_findWith, Cond.code yX1_findWith cX1_findWith 4 none, Cond.fieldLink RX1 51 "MachineHall$Hall" "asks" "I", Cond.fieldLink RX1 34 "MachineHall$Hall" "asked" "[Z", Cond.methodLink RX1 71 yX1_greatestOn, Cond.instanceMethod yX1_greatestOn, Cond.selects RX1 yX1_greatestOn yX1_greatestOn, Cond.code yX1_greatestOn cX1_greatestOn 4 (some .int), Cond.fieldLink RX1 30 "MachineHall$Hall" "clash" "[Z", Cond.methodLink RX1 80 yX1_sizeOf, Cond.instanceMethod yX1_sizeOf, Cond.selects RX1 yX1_sizeOf yX1_sizeOf, Cond.code yX1_sizeOf cX1_sizeOf 4 (some .int), Cond.methodLink RX3 59 yX0_push, Cond.instanceMethod yX0_push, Cond.selects RX0 yX0_push yX0_push, Cond.code yX0_push cX0_push 6 (some .int), Cond.constant RX0 33 (1000000), Cond.methodLink RX0 34 yX0_findWay, Cond.instanceMethod yX0_findWay, Cond.selects RX0 yX0_findWay yX0_findWay, Cond.code yX0_findWay cX0_findWay 7 (some .boolean), Cond.fieldLink RX0 20 "MachineHall$Flow" "cameFrom" "[I"]
def wsX6_rest_r5 : List Cond := [Cond.fieldLink RX0 24 "MachineHall$Flow" "reached" "[I", Cond.methodLink RX0 38 yX0_send, Cond.instanceMethod yX0_send, Cond.selects RX0 yX0_send yX0_send, Cond.code yX0_send cX0_send 7 (some .int), Cond.methodLink RX0 45 Lib.Math.min.name, Cond.static Lib.Math.min.name, Cond.initialized "java/lang/Math", Cond.code Lib.Math.min.name Lib.Math.min.code 2 (some .int), Cond.methodLink RX3 63 yX3_settleParts, Cond.instanceMethod yX3_settleParts, Cond.selects RX3 yX3_settleParts yX3_settleParts, Cond.code yX3_settleParts cX3_settleParts 3 none, Cond.fieldLink RX3 13 "MachineHall$Plan" "parts" "[[I", Cond.methodLink RX3 79 yX0_settle, Cond.instanceMethod yX0_settle, Cond.selects RX0 yX0_settle yX0_settle, Cond.code yX0_settle cX0_settle 5 (some .int), Cond.methodLink RX0 42 yX0_push, Cond.methodLink RX6 104 yX6_answer, Cond.instanceMethod yX6_answer, Cond.selects RX6 yX6_answer yX6_answer, Cond.code yX6_answer cX6_answer 2 (some .int)]
def wsX6_rest : List Cond := .code yX6_rest cX6_rest 2 (some .int) :: ((wsX6_rest_r1 ++ (wsX6_rest_r2 ++ (wsX6_rest_r3 ++ (wsX6_rest_r4 ++ wsX6_rest_r5)))) ++ wsX60 ++ wsX30 ++ wsX10 ++ wsX00)
def wsX6_part_r1 : List Cond := [Cond.fieldLink RX6 26 "MachineHall" "plan" "LMachineHall$Plan;", Cond.fieldLink RX6 19 "MachineHall" "hall" "LMachineHall$Hall;", Cond.fieldLink RX6 181 "MachineHall$Plan" "unlaid" "I", Cond.fieldLink RX6 187 "MachineHall$Plan" "parts" "[[I", Cond.methodLink RX6 152 yX1_isFall, Cond.static yX1_isFall, Cond.initialized RX1, Cond.code yX1_isFall cX1_isFall 1 (some .boolean), Cond.static yX6_within, Cond.initialized RX6, Cond.code yX6_within cX6_within 4 (some .boolean), Cond.methodLink RX6 184 yX3_hasBatch, Cond.instanceMethod yX3_hasBatch, Cond.selects RX3 yX3_hasBatch yX3_hasBatch, Cond.initialized RX3, Cond.code yX3_hasBatch cX3_hasBatch 2 (some .boolean), Cond.fieldLink RX3 42 "MachineHall$Plan" "batches" "I", Cond.methodLink RX6 116 yX6_isHour, Cond.static yX6_isHour, Cond.code yX6_isHour cX6_isHour 1 (some .boolean), Cond.methodLink RX6 52 yX6_within, Cond.methodLink RX6 75 yX6_deny, Cond.instanceMethod yX6_deny, Cond.selects RX6 yX6_deny yX6_deny]
def wsX6_part_r2 : List Cond := [Cond.code yX6_deny cX6_deny 2 (some .int), Cond.fieldLink RX6 44 "MachineHall" "status" "I", Cond.methodLink RX6 146 yX1_standing, Cond.instanceMethod yX1_standing, Cond.selects RX1 yX1_standing yX1_standing, Cond.code yX1_standing cX1_standing 2 (some .int), Cond.fieldLink RX1 54 "MachineHall$Hall" "ups" "I", Cond.fieldLink RX1 15 "MachineHall$Hall" "inRoom" "[I", Cond.methodLink RX6 177 yX3_lay, Cond.instanceMethod yX3_lay, Cond.selects RX3 yX3_lay yX3_lay, Cond.code yX3_lay cX3_lay 3 none, Cond.fieldLink RX3 38 "MachineHall$Plan" "laidFor" "I", Cond.fieldLink RX3 56 "MachineHall$Plan" "unlaid" "I", Cond.fieldLink RX3 34 "MachineHall$Plan" "flow" "LMachineHall$Flow;", Cond.methodLink RX3 52 yX3_layPipes, Cond.instanceMethod yX3_layPipes, Cond.selects RX3 yX3_layPipes yX3_layPipes, Cond.code yX3_layPipes cX3_layPipes 6 (some .int), Cond.fieldLink RX3 16 "MachineHall$Plan" "works" "[I", Cond.fieldLink RX3 20 "MachineHall$Plan" "froms" "[I", Cond.fieldLink RX3 23 "MachineHall$Plan" "dues" "[I", Cond.fieldLink RX3 26 "MachineHall$Plan" "mosts" "[I", Cond.methodLink RX3 66 yX0_empty]
def wsX6_part_r3 : List Cond := [Cond.instanceMethod yX0_empty, Cond.selects RX0 yX0_empty yX0_empty, Cond.initialized RX0, Cond.code yX0_empty cX0_empty 2 none, Cond.fieldLink RX0 9 "MachineHall$Flow" "nodes" "I", Cond.fieldLink RX0 17 "MachineHall$Flow" "open" "[[I", Cond.methodLink RX0 27 yJ7_fill_53178, Cond.static yJ7_fill_53178, Cond.initialized RJ7, Cond.code yJ7_fill_53178 cJ7_fill_53178 4 none, Cond.methodLink RX3 69 yX0_pipe, Cond.instanceMethod yX0_pipe, Cond.selects RX0 yX0_pipe yX0_pipe, Cond.code yX0_pipe cX0_pipe 4 none, Cond.methodLink RX3 73 yX1_leftOver, Cond.instanceMethod yX1_leftOver, Cond.selects RX1 yX1_leftOver yX1_leftOver, Cond.code yX1_leftOver cX1_leftOver 4 (some .int), Cond.fieldLink RX1 24 "MachineHall$Hall" "ofHour" "[I", Cond.fieldLink RX1 37 "MachineHall$Hall" "latest" "[I", Cond.fieldLink RX1 27 "MachineHall$Hall" "load" "[I", Cond.methodLink RX1 68 yX1_findLatest, Cond.instanceMethod yX1_findLatest, Cond.selects RX1 yX1_findLatest yX1_findLatest]
def wsX6_part_r4 : List Cond := [Cond.code yX1_findLatest cX1_findLatest 4 none, Cond.fieldLink RX1 40 "MachineHall$Hall" "latestFor" "I", Cond.fieldLink RX1 48 "MachineHall$Hall" "machines" "I", Cond.fieldLink RX1 11 "MachineHall$Hall" "sizes" "[I", Cond.methodLink RX1 96 yJ7_fill_53178, Cond.methodLink RX1 57 yX1_has, Cond.static yX1_has, Cond.code yX1_has cX1_has 2 (some .boolean), Cond.methodLink RX1 102 yX1_findWith, Cond.instanceMethod yX1_findWith, Cond.selects RX1 yX1_findWith yX1_findWith, Cond.code yX1_findWith cX1_findWith 4 none, Cond.fieldLink RX1 51 "MachineHall$Hall" "asks" "I", Cond.fieldLink RX1 34 "MachineHall$Hall" "asked" "[Z", Cond.methodLink RX1 71 yX1_greatestOn, Cond.instanceMethod yX1_greatestOn, Cond.selects RX1 yX1_greatestOn yX1_greatestOn, Cond.code yX1_greatestOn cX1_greatestOn 4 (some .int), Cond.fieldLink RX1 30 "MachineHall$Hall" "clash" "[Z", Cond.methodLink RX1 80 yX1_sizeOf, Cond.instanceMethod yX1_sizeOf, Cond.selects RX1 yX1_sizeOf yX1_sizeOf, Cond.code yX1_sizeOf cX1_sizeOf 4 (some .int), Cond.methodLink RX3 59 yX0_push]
def wsX6_part_r5 : List Cond := [Cond.instanceMethod yX0_push, Cond.selects RX0 yX0_push yX0_push, Cond.code yX0_push cX0_push 6 (some .int), Cond.constant RX0 33 (1000000), Cond.methodLink RX0 34 yX0_findWay, Cond.instanceMethod yX0_findWay, Cond.selects RX0 yX0_findWay yX0_findWay, Cond.code yX0_findWay cX0_findWay 7 (some .boolean), Cond.fieldLink RX0 20 "MachineHall$Flow" "cameFrom" "[I", Cond.fieldLink RX0 24 "MachineHall$Flow" "reached" "[I", Cond.methodLink RX0 38 yX0_send, Cond.instanceMethod yX0_send, Cond.selects RX0 yX0_send yX0_send, Cond.code yX0_send cX0_send 7 (some .int), Cond.methodLink RX0 45 Lib.Math.min.name, Cond.static Lib.Math.min.name, Cond.initialized "java/lang/Math", Cond.code Lib.Math.min.name Lib.Math.min.code 2 (some .int), Cond.methodLink RX3 63 yX3_settleParts, Cond.instanceMethod yX3_settleParts, Cond.selects RX3 yX3_settleParts yX3_settleParts, Cond.code yX3_settleParts cX3_settleParts 3 none, Cond.fieldLink RX3 13 "MachineHall$Plan" "parts" "[[I", Cond.methodLink RX3 79 yX0_settle]
def wsX6_part_r6 : List Cond := [Cond.instanceMethod yX0_settle, Cond.selects RX0 yX0_settle yX0_settle, Cond.code yX0_settle cX0_settle 5 (some .int), Cond.methodLink RX0 42 yX0_push, Cond.methodLink RX6 104 yX6_answer, Cond.instanceMethod yX6_answer, Cond.selects RX6 yX6_answer yX6_answer, Cond.code yX6_answer cX6_answer 2 (some .int)]
def wsX6_part : List Cond := .code yX6_part cX6_part 4 (some .int) :: ((wsX6_part_r1 ++ (wsX6_part_r2 ++ (wsX6_part_r3 ++ (wsX6_part_r4 ++ (wsX6_part_r5 ++ wsX6_part_r6))))) ++ wsX60 ++ wsX30 ++ wsX10 ++ wsX00)
def wsX6_isLine : List Cond := .code yX6_isLine cX6_isLine 3 (some .boolean) :: ([.methodLink RX6 48 yX4_isNumber, .static yX4_isNumber, .initialized RX4, .code yX4_isNumber cX4_isNumber 1 (some .boolean), .static yX6_within, .initialized RX6, .code yX6_within cX6_within 4 (some .boolean), .methodLink RX6 52 yX6_within])
def wsX6_line_r1 : List Cond := [Cond.fieldLink RX6 10 "MachineHall" "sheets" "LMachineHall$Sheets;", Cond.fieldLink RX6 33 "MachineHall" "waiting" "LMachineHall$Waiting;", Cond.methodLink RX6 191 yX6_isLine, Cond.static yX6_isLine, Cond.initialized RX6, Cond.code yX6_isLine cX6_isLine 3 (some .boolean), Cond.methodLink RX6 48 yX4_isNumber, Cond.static yX4_isNumber, Cond.initialized RX4, Cond.code yX4_isNumber cX4_isNumber 1 (some .boolean), Cond.static yX6_within, Cond.code yX6_within cX6_within 4 (some .boolean), Cond.methodLink RX6 52 yX6_within, Cond.methodLink RX6 75 yX6_deny, Cond.instanceMethod yX6_deny, Cond.selects RX6 yX6_deny yX6_deny, Cond.code yX6_deny cX6_deny 2 (some .int), Cond.fieldLink RX6 44 "MachineHall" "status" "I", Cond.methodLink RX6 194 yX4_whyNotFirst, Cond.instanceMethod yX4_whyNotFirst, Cond.selects RX4 yX4_whyNotFirst yX4_whyNotFirst, Cond.code yX4_whyNotFirst cX4_whyNotFirst 5 (some .int), Cond.fieldLink RX4 20 "MachineHall$Sheets" "lengths" "[I", Cond.fieldLink RX4 13 "MachineHall$Sheets" "numbers" "[[J"]
def wsX6_line_r2 : List Cond := [Cond.methodLink RX4 44 yX4_isMissing, Cond.instanceMethod yX4_isMissing, Cond.selects RX4 yX4_isMissing yX4_isMissing, Cond.code yX4_isMissing cX4_isMissing 2 (some .boolean), Cond.methodLink RX6 197 yX5_serve, Cond.instanceMethod yX5_serve, Cond.selects RX5 yX5_serve yX5_serve, Cond.initialized RX5, Cond.code yX5_serve cX5_serve 12 none, Cond.fieldLink RX5 13 "MachineHall$Waiting" "greatest" "I", Cond.fieldLink RX5 17 "MachineHall$Waiting" "together" "I", Cond.fieldLink RX5 20 "MachineHall$Waiting" "came" "I", Cond.fieldLink RX5 23 "MachineHall$Waiting" "waited" "I", Cond.fieldLink RX5 26 "MachineHall$Waiting" "end" "I", Cond.fieldLink RX5 9 "MachineHall$Waiting" "freeAt" "[I", Cond.methodLink RX5 41 Lib.Math.max.name, Cond.static Lib.Math.max.name, Cond.initialized "java/lang/Math", Cond.code Lib.Math.max.name Lib.Math.max.code 2 (some .int), Cond.methodLink RX5 29 yJ7_fill_53178, Cond.static yJ7_fill_53178, Cond.initialized RJ7, Cond.code yJ7_fill_53178 cJ7_fill_53178 4 none, Cond.methodLink RX5 35 yX4_at]
def wsX6_line_r3 : List Cond := [Cond.instanceMethod yX4_at, Cond.selects RX4 yX4_at yX4_at, Cond.code yX4_at cX4_at 3 (some .long), Cond.methodLink RX5 47 yX5_note, Cond.instanceMethod yX5_note, Cond.selects RX5 yX5_note yX5_note, Cond.code yX5_note cX5_note 2 none, Cond.methodLink RX6 201 yX5_told, Cond.instanceMethod yX5_told, Cond.selects RX5 yX5_told yX5_told, Cond.code yX5_told cX5_told 2 (some .int), Cond.methodLink RX6 104 yX6_answer, Cond.instanceMethod yX6_answer, Cond.selects RX6 yX6_answer yX6_answer, Cond.code yX6_answer cX6_answer 2 (some .int)]
def wsX6_line : List Cond := .code yX6_line cX6_line 7 (some .int) :: ((wsX6_line_r1 ++ (wsX6_line_r2 ++ wsX6_line_r3)) ++ wsX60 ++ wsX40 ++ wsX50)
def wsX6_hands_r1 : List Cond := [Cond.fieldLink RX6 10 "MachineHall" "sheets" "LMachineHall$Sheets;", Cond.fieldLink RX6 33 "MachineHall" "waiting" "LMachineHall$Waiting;", Cond.fieldLink RX6 204 "MachineHall$Waiting" "greatest" "I", Cond.methodLink RX6 191 yX6_isLine, Cond.static yX6_isLine, Cond.initialized RX6, Cond.code yX6_isLine cX6_isLine 3 (some .boolean), Cond.methodLink RX6 48 yX4_isNumber, Cond.static yX4_isNumber, Cond.initialized RX4, Cond.code yX4_isNumber cX4_isNumber 1 (some .boolean), Cond.static yX6_within, Cond.code yX6_within cX6_within 4 (some .boolean), Cond.methodLink RX6 52 yX6_within, Cond.methodLink RX6 75 yX6_deny, Cond.instanceMethod yX6_deny, Cond.selects RX6 yX6_deny yX6_deny, Cond.code yX6_deny cX6_deny 2 (some .int), Cond.fieldLink RX6 44 "MachineHall" "status" "I", Cond.methodLink RX6 194 yX4_whyNotFirst, Cond.instanceMethod yX4_whyNotFirst, Cond.selects RX4 yX4_whyNotFirst yX4_whyNotFirst, Cond.code yX4_whyNotFirst cX4_whyNotFirst 5 (some .int), Cond.fieldLink RX4 20 "MachineHall$Sheets" "lengths" "[I"]
def wsX6_hands_r2 : List Cond := [Cond.fieldLink RX4 13 "MachineHall$Sheets" "numbers" "[[J", Cond.methodLink RX4 44 yX4_isMissing, Cond.instanceMethod yX4_isMissing, Cond.selects RX4 yX4_isMissing yX4_isMissing, Cond.code yX4_isMissing cX4_isMissing 2 (some .boolean), Cond.methodLink RX6 197 yX5_serve, Cond.instanceMethod yX5_serve, Cond.selects RX5 yX5_serve yX5_serve, Cond.initialized RX5, Cond.code yX5_serve cX5_serve 12 none, Cond.fieldLink RX5 13 "MachineHall$Waiting" "greatest" "I", Cond.fieldLink RX5 17 "MachineHall$Waiting" "together" "I", Cond.fieldLink RX5 20 "MachineHall$Waiting" "came" "I", Cond.fieldLink RX5 23 "MachineHall$Waiting" "waited" "I", Cond.fieldLink RX5 26 "MachineHall$Waiting" "end" "I", Cond.fieldLink RX5 9 "MachineHall$Waiting" "freeAt" "[I", Cond.methodLink RX5 41 Lib.Math.max.name, Cond.static Lib.Math.max.name, Cond.initialized "java/lang/Math", Cond.code Lib.Math.max.name Lib.Math.max.code 2 (some .int), Cond.methodLink RX5 29 yJ7_fill_53178, Cond.static yJ7_fill_53178, Cond.initialized RJ7, Cond.code yJ7_fill_53178 cJ7_fill_53178 4 none]
def wsX6_hands_r3 : List Cond := [Cond.methodLink RX5 35 yX4_at, Cond.instanceMethod yX4_at, Cond.selects RX4 yX4_at yX4_at, Cond.code yX4_at cX4_at 3 (some .long), Cond.methodLink RX5 47 yX5_note, Cond.instanceMethod yX5_note, Cond.selects RX5 yX5_note yX5_note, Cond.code yX5_note cX5_note 2 none, Cond.methodLink RX6 104 yX6_answer, Cond.instanceMethod yX6_answer, Cond.selects RX6 yX6_answer yX6_answer, Cond.code yX6_answer cX6_answer 2 (some .int)]
def wsX6_hands : List Cond := .code yX6_hands cX6_hands 7 (some .int) :: ((wsX6_hands_r1 ++ (wsX6_hands_r2 ++ wsX6_hands_r3)) ++ wsX60 ++ wsX50 ++ wsX40)
def wsX6_wanted_r1 : List Cond := [Cond.fieldLink RX6 10 "MachineHall" "sheets" "LMachineHall$Sheets;", Cond.fieldLink RX6 40 "MachineHall" "market" "LMachineHall$Market;", Cond.methodLink RX6 48 yX4_isNumber, Cond.static yX4_isNumber, Cond.initialized RX4, Cond.code yX4_isNumber cX4_isNumber 1 (some .boolean), Cond.static yX6_within, Cond.initialized RX6, Cond.code yX6_within cX6_within 4 (some .boolean), Cond.methodLink RX6 56 yX6_refuse, Cond.instanceMethod yX6_refuse, Cond.selects RX6 yX6_refuse yX6_refuse, Cond.code yX6_refuse cX6_refuse 2 (some .boolean), Cond.fieldLink RX6 44 "MachineHall" "status" "I", Cond.methodLink RX6 194 yX4_whyNotFirst, Cond.instanceMethod yX4_whyNotFirst, Cond.selects RX4 yX4_whyNotFirst yX4_whyNotFirst, Cond.code yX4_whyNotFirst cX4_whyNotFirst 5 (some .int), Cond.fieldLink RX4 20 "MachineHall$Sheets" "lengths" "[I", Cond.fieldLink RX4 13 "MachineHall$Sheets" "numbers" "[[J", Cond.methodLink RX4 44 yX4_isMissing, Cond.instanceMethod yX4_isMissing, Cond.selects RX4 yX4_isMissing yX4_isMissing, Cond.code yX4_isMissing cX4_isMissing 2 (some .boolean)]
def wsX6_wanted_r2 : List Cond := [Cond.methodLink RX6 207 yX2_want, Cond.instanceMethod yX2_want, Cond.selects RX2 yX2_want yX2_want, Cond.initialized RX2, Cond.code yX2_want cX2_want 4 none, Cond.fieldLink RX2 16 "MachineHall$Market" "wants" "[I", Cond.fieldLink RX2 57 "MachineHall$Market" "solved" "Z", Cond.methodLink RX2 51 yX4_at, Cond.instanceMethod yX4_at, Cond.selects RX4 yX4_at yX4_at, Cond.code yX4_at cX4_at 3 (some .long), Cond.methodLink RX6 63 yX6_agree, Cond.instanceMethod yX6_agree, Cond.selects RX6 yX6_agree yX6_agree, Cond.code yX6_agree cX6_agree 1 (some .boolean)]
def wsX6_wanted : List Cond := .code yX6_wanted cX6_wanted 3 (some .boolean) :: ((wsX6_wanted_r1 ++ wsX6_wanted_r2) ++ wsX60 ++ wsX40 ++ wsX20)
def wsX6_have : List Cond := .code yX6_have cX6_have 2 (some .boolean) :: ([.fieldLink RX6 40 "MachineHall" "market" "LMachineHall$Market;", .methodLink RX6 52 yX6_within, .static yX6_within, .initialized RX6, .code yX6_within cX6_within 4 (some .boolean), .methodLink RX6 56 yX6_refuse, .instanceMethod yX6_refuse, .selects RX6 yX6_refuse yX6_refuse, .code yX6_refuse cX6_refuse 2 (some .boolean), .fieldLink RX6 44 "MachineHall" "status" "I", .methodLink RX6 211 yX2_own, .instanceMethod yX2_own, .selects RX2 yX2_own yX2_own, .initialized RX2, .code yX2_own cX2_own 2 none, .fieldLink RX2 61 "MachineHall$Market" "owned" "I", .fieldLink RX2 57 "MachineHall$Market" "solved" "Z", .methodLink RX6 63 yX6_agree, .instanceMethod yX6_agree, .selects RX6 yX6_agree yX6_agree, .code yX6_agree cX6_agree 1 (some .boolean)] ++ wsX60 ++ wsX20)
def wsX6_isMonth : List Cond := .code yX6_isMonth cX6_isMonth 1 (some .boolean) :: ([.methodLink RX6 52 yX6_within, .static yX6_within, .initialized RX6, .code yX6_within cX6_within 4 (some .boolean)])
def wsX6_type_r1 : List Cond := [Cond.fieldLink RX6 10 "MachineHall" "sheets" "LMachineHall$Sheets;", Cond.constant RX6 217 (100000), Cond.fieldLink RX6 40 "MachineHall" "market" "LMachineHall$Market;", Cond.fieldLink RX6 143 "MachineHall$Market" "types" "I", Cond.methodLink RX6 52 yX6_within, Cond.static yX6_within, Cond.initialized RX6, Cond.code yX6_within cX6_within 4 (some .boolean), Cond.methodLink RX6 214 yX6_isMonth, Cond.static yX6_isMonth, Cond.code yX6_isMonth cX6_isMonth 1 (some .boolean), Cond.methodLink RX6 48 yX4_isNumber, Cond.static yX4_isNumber, Cond.initialized RX4, Cond.code yX4_isNumber cX4_isNumber 1 (some .boolean), Cond.methodLink RX6 75 yX6_deny, Cond.instanceMethod yX6_deny, Cond.selects RX6 yX6_deny yX6_deny, Cond.code yX6_deny cX6_deny 2 (some .int), Cond.fieldLink RX6 44 "MachineHall" "status" "I", Cond.methodLink RX6 194 yX4_whyNotFirst, Cond.instanceMethod yX4_whyNotFirst, Cond.selects RX4 yX4_whyNotFirst yX4_whyNotFirst, Cond.code yX4_whyNotFirst cX4_whyNotFirst 5 (some .int)]
def wsX6_type_r2 : List Cond := [Cond.fieldLink RX4 20 "MachineHall$Sheets" "lengths" "[I", Cond.fieldLink RX4 13 "MachineHall$Sheets" "numbers" "[[J", Cond.methodLink RX4 44 yX4_isMissing, Cond.instanceMethod yX4_isMissing, Cond.selects RX4 yX4_isMissing yX4_isMissing, Cond.code yX4_isMissing cX4_isMissing 2 (some .boolean), Cond.methodLink RX6 218 yX2_addType, Cond.instanceMethod yX2_addType, Cond.selects RX2 yX2_addType yX2_addType, Cond.initialized RX2, Cond.code yX2_addType cX2_addType 8 (some .int), Cond.fieldLink RX2 39 "MachineHall$Market" "types" "I", Cond.fieldLink RX2 20 "MachineHall$Market" "sizes" "[I", Cond.fieldLink RX2 23 "MachineHall$Market" "leads" "[I", Cond.fieldLink RX2 26 "MachineHall$Market" "powers" "[I", Cond.fieldLink RX2 29 "MachineHall$Market" "prices" "[[I", Cond.fieldLink RX2 57 "MachineHall$Market" "solved" "Z", Cond.methodLink RX2 51 yX4_at, Cond.instanceMethod yX4_at, Cond.selects RX4 yX4_at yX4_at, Cond.code yX4_at cX4_at 3 (some .long), Cond.methodLink RX6 104 yX6_answer, Cond.instanceMethod yX6_answer, Cond.selects RX6 yX6_answer yX6_answer]
def wsX6_type_r3 : List Cond := [Cond.code yX6_answer cX6_answer 2 (some .int)]
def wsX6_type : List Cond := .code yX6_type cX6_type 6 (some .int) :: ((wsX6_type_r1 ++ (wsX6_type_r2 ++ wsX6_type_r3)) ++ wsX60 ++ wsX20 ++ wsX40)
def wsX6_cheapest_r1 : List Cond := [Cond.fieldLink RX6 40 "MachineHall" "market" "LMachineHall$Market;", Cond.fieldLink RX6 228 "MachineHall$Market" "least" "I", Cond.methodLink RX6 222 yX2_solve, Cond.instanceMethod yX2_solve, Cond.selects RX2 yX2_solve yX2_solve, Cond.initialized RX2, Cond.code yX2_solve cX2_solve 3 none, Cond.fieldLink RX2 57 "MachineHall$Market" "solved" "Z", Cond.fieldLink RX2 32 "MachineHall$Market" "toPay" "[I", Cond.fieldLink RX2 35 "MachineHall$Market" "oneMore" "[J", Cond.fieldLink RX2 16 "MachineHall$Market" "wants" "[I", Cond.constant RX2 50 (1000000000), Cond.fieldLink RX2 39 "MachineHall$Market" "types" "I", Cond.fieldLink RX2 23 "MachineHall$Market" "leads" "[I", Cond.fieldLink RX2 61 "MachineHall$Market" "owned" "I", Cond.fieldLink RX2 47 "MachineHall$Market" "least" "I", Cond.methodLink RX2 64 yJ7_fill_53178, Cond.static yJ7_fill_53178, Cond.initialized RJ7, Cond.code yJ7_fill_53178 cJ7_fill_53178 4 none, Cond.methodLink RX2 70 yJ7_fill_d0a16, Cond.static yJ7_fill_d0a16, Cond.code yJ7_fill_d0a16 cJ7_fill_d0a16 5 none, Cond.methodLink RX2 73 yJ7_fill_fda19]
def wsX6_cheapest_r2 : List Cond := [Cond.static yJ7_fill_fda19, Cond.code yJ7_fill_fda19 cJ7_fill_fda19 5 none, Cond.methodLink RJ7 13 yJ7_rangeCheck_23922, Cond.static yJ7_rangeCheck_23922, Cond.code yJ7_rangeCheck_23922 cJ7_rangeCheck_23922 3 none, Cond.methodLink RX2 76 yX2_offer, Cond.instanceMethod yX2_offer, Cond.selects RX2 yX2_offer yX2_offer, Cond.code yX2_offer cX2_offer 6 none, Cond.fieldLink RX2 29 "MachineHall$Market" "prices" "[[I", Cond.fieldLink RX2 26 "MachineHall$Market" "powers" "[I", Cond.fieldLink RX2 20 "MachineHall$Market" "sizes" "[I", Cond.methodLink RX2 87 Lib.Math.min.name, Cond.static Lib.Math.min.name, Cond.initialized "java/lang/Math", Cond.code Lib.Math.min.name Lib.Math.min.code 2 (some .int), Cond.methodLink RX2 93 yX2_word, Cond.static yX2_word, Cond.code yX2_word cX2_word 3 (some .int), Cond.methodLink RX2 80 yX2_isEnough, Cond.instanceMethod yX2_isEnough, Cond.selects RX2 yX2_isEnough yX2_isEnough, Cond.code yX2_isEnough cX2_isEnough 1 (some .boolean), Cond.methodLink RX2 84 yX2_choose]
def wsX6_cheapest_r3 : List Cond := [Cond.instanceMethod yX2_choose, Cond.selects RX2 yX2_choose yX2_choose, Cond.code yX2_choose cX2_choose 5 none, Cond.fieldLink RX2 13 "MachineHall$Market" "bought" "[[I", Cond.methodLink RX2 97 yX2_mustBuy, Cond.instanceMethod yX2_mustBuy, Cond.selects RX2 yX2_mustBuy yX2_mustBuy, Cond.code yX2_mustBuy cX2_mustBuy 4 (some .boolean), Cond.methodLink RX6 225 yX2_isEnough, Cond.methodLink RX6 104 yX6_answer, Cond.instanceMethod yX6_answer, Cond.selects RX6 yX6_answer yX6_answer, Cond.initialized RX6, Cond.code yX6_answer cX6_answer 2 (some .int), Cond.fieldLink RX6 44 "MachineHall" "status" "I", Cond.methodLink RX6 75 yX6_deny, Cond.instanceMethod yX6_deny, Cond.selects RX6 yX6_deny yX6_deny, Cond.code yX6_deny cX6_deny 2 (some .int)]
def wsX6_cheapest : List Cond := .code yX6_cheapest cX6_cheapest 1 (some .int) :: ((wsX6_cheapest_r1 ++ (wsX6_cheapest_r2 ++ wsX6_cheapest_r3)) ++ wsX60 ++ wsX20)
def wsX6_buys_r1 : List Cond := [Cond.fieldLink RX6 40 "MachineHall" "market" "LMachineHall$Market;", Cond.fieldLink RX6 234 "MachineHall$Market" "bought" "[[I", Cond.methodLink RX6 214 yX6_isMonth, Cond.static yX6_isMonth, Cond.initialized RX6, Cond.code yX6_isMonth cX6_isMonth 1 (some .boolean), Cond.methodLink RX6 52 yX6_within, Cond.static yX6_within, Cond.code yX6_within cX6_within 4 (some .boolean), Cond.methodLink RX6 231 yX2_hasType, Cond.instanceMethod yX2_hasType, Cond.selects RX2 yX2_hasType yX2_hasType, Cond.initialized RX2, Cond.code yX2_hasType cX2_hasType 2 (some .boolean), Cond.fieldLink RX2 39 "MachineHall$Market" "types" "I", Cond.methodLink RX6 75 yX6_deny, Cond.instanceMethod yX6_deny, Cond.selects RX6 yX6_deny yX6_deny, Cond.code yX6_deny cX6_deny 2 (some .int), Cond.fieldLink RX6 44 "MachineHall" "status" "I", Cond.methodLink RX6 222 yX2_solve, Cond.instanceMethod yX2_solve, Cond.selects RX2 yX2_solve yX2_solve, Cond.code yX2_solve cX2_solve 3 none]
def wsX6_buys_r2 : List Cond := [Cond.fieldLink RX2 57 "MachineHall$Market" "solved" "Z", Cond.fieldLink RX2 32 "MachineHall$Market" "toPay" "[I", Cond.fieldLink RX2 35 "MachineHall$Market" "oneMore" "[J", Cond.fieldLink RX2 16 "MachineHall$Market" "wants" "[I", Cond.constant RX2 50 (1000000000), Cond.fieldLink RX2 23 "MachineHall$Market" "leads" "[I", Cond.fieldLink RX2 61 "MachineHall$Market" "owned" "I", Cond.fieldLink RX2 47 "MachineHall$Market" "least" "I", Cond.methodLink RX2 64 yJ7_fill_53178, Cond.static yJ7_fill_53178, Cond.initialized RJ7, Cond.code yJ7_fill_53178 cJ7_fill_53178 4 none, Cond.methodLink RX2 70 yJ7_fill_d0a16, Cond.static yJ7_fill_d0a16, Cond.code yJ7_fill_d0a16 cJ7_fill_d0a16 5 none, Cond.methodLink RX2 73 yJ7_fill_fda19, Cond.static yJ7_fill_fda19, Cond.code yJ7_fill_fda19 cJ7_fill_fda19 5 none, Cond.methodLink RJ7 13 yJ7_rangeCheck_23922, Cond.static yJ7_rangeCheck_23922, Cond.code yJ7_rangeCheck_23922 cJ7_rangeCheck_23922 3 none, Cond.methodLink RX2 76 yX2_offer, Cond.instanceMethod yX2_offer, Cond.selects RX2 yX2_offer yX2_offer]
def wsX6_buys_r3 : List Cond := [Cond.code yX2_offer cX2_offer 6 none, Cond.fieldLink RX2 29 "MachineHall$Market" "prices" "[[I", Cond.fieldLink RX2 26 "MachineHall$Market" "powers" "[I", Cond.fieldLink RX2 20 "MachineHall$Market" "sizes" "[I", Cond.methodLink RX2 87 Lib.Math.min.name, Cond.static Lib.Math.min.name, Cond.initialized "java/lang/Math", Cond.code Lib.Math.min.name Lib.Math.min.code 2 (some .int), Cond.methodLink RX2 93 yX2_word, Cond.static yX2_word, Cond.code yX2_word cX2_word 3 (some .int), Cond.methodLink RX2 80 yX2_isEnough, Cond.instanceMethod yX2_isEnough, Cond.selects RX2 yX2_isEnough yX2_isEnough, Cond.code yX2_isEnough cX2_isEnough 1 (some .boolean), Cond.methodLink RX2 84 yX2_choose, Cond.instanceMethod yX2_choose, Cond.selects RX2 yX2_choose yX2_choose, Cond.code yX2_choose cX2_choose 5 none, Cond.fieldLink RX2 13 "MachineHall$Market" "bought" "[[I", Cond.methodLink RX2 97 yX2_mustBuy, Cond.instanceMethod yX2_mustBuy, Cond.selects RX2 yX2_mustBuy yX2_mustBuy, Cond.code yX2_mustBuy cX2_mustBuy 4 (some .boolean)]
def wsX6_buys_r4 : List Cond := [Cond.methodLink RX6 225 yX2_isEnough, Cond.methodLink RX6 104 yX6_answer, Cond.instanceMethod yX6_answer, Cond.selects RX6 yX6_answer yX6_answer, Cond.code yX6_answer cX6_answer 2 (some .int)]
def wsX6_buys : List Cond := .code yX6_buys cX6_buys 3 (some .int) :: ((wsX6_buys_r1 ++ (wsX6_buys_r2 ++ (wsX6_buys_r3 ++ wsX6_buys_r4))) ++ wsX60 ++ wsX20)
def wsX7_init_r1 : List Cond := [Cond.methodLink RX7 1 objectInit, Cond.instanceMethod objectInit, Cond.code objectInit ⟨#[0xb1]⟩ 1 none, Cond.arrayClass .int, Cond.fieldLink RX7 7 "MachineHallModel" "sort" "[I", Cond.fieldLink RX7 13 "MachineHallModel" "many" "[I", Cond.arrayClass .long, Cond.fieldLink RX7 16 "MachineHallModel" "sheets" "[J", Cond.fieldLink RX7 20 "MachineHallModel" "size" "[I", Cond.fieldLink RX7 23 "MachineHallModel" "room" "[I", Cond.arrayClass .boolean, Cond.fieldLink RX7 26 "MachineHallModel" "isUp" "[Z", Cond.fieldLink RX7 30 "MachineHallModel" "need" "[I", Cond.fieldLink RX7 33 "MachineHallModel" "first" "[I", Cond.fieldLink RX7 36 "MachineHallModel" "last" "[I", Cond.fieldLink RX7 39 "MachineHallModel" "apart" "[I", Cond.fieldLink RX7 42 "MachineHallModel" "needs" "[I", Cond.fieldLink RX7 45 "MachineHallModel" "may" "[Z", Cond.fieldLink RX7 48 "MachineHallModel" "can" "[Z", Cond.fieldLink RX7 51 "MachineHallModel" "work" "[I", Cond.fieldLink RX7 54 "MachineHallModel" "from" "[I", Cond.fieldLink RX7 57 "MachineHallModel" "due" "[I", Cond.fieldLink RX7 60 "MachineHallModel" "most" "[I", Cond.fieldLink RX7 63 "MachineHallModel" "part" "[I"]
def wsX7_init_r2 : List Cond := [Cond.fieldLink RX7 66 "MachineHallModel" "has" "[I", Cond.fieldLink RX7 69 "MachineHallModel" "used" "[I", Cond.fieldLink RX7 72 "MachineHallModel" "done" "[I", Cond.fieldLink RX7 75 "MachineHallModel" "stays" "[Z", Cond.fieldLink RX7 78 "MachineHallModel" "before" "[I", Cond.fieldLink RX7 81 "MachineHallModel" "line" "[I", Cond.fieldLink RX7 84 "MachineHallModel" "free" "[I", Cond.fieldLink RX7 87 "MachineHallModel" "wanted" "[I", Cond.fieldLink RX7 90 "MachineHallModel" "typeSize" "[I", Cond.fieldLink RX7 93 "MachineHallModel" "lead" "[I", Cond.fieldLink RX7 96 "MachineHallModel" "power" "[I", Cond.fieldLink RX7 99 "MachineHallModel" "price" "[I", Cond.fieldLink RX7 102 "MachineHallModel" "least" "[I"]
def wsX7_init : List Cond := .code yX7_init cX7_init 1 none :: ((wsX7_init_r1 ++ wsX7_init_r2) ++ wsX70)
def wsX7_status : List Cond := .code yX7_status cX7_status 1 (some .int) :: ([.fieldLink RX7 105 "MachineHallModel" "status" "I"] ++ wsX70)
def wsX7_is : List Cond := .code yX7_is cX7_is 2 (some .boolean) :: ([.fieldLink RX7 105 "MachineHallModel" "status" "I"] ++ wsX70)
def wsX7_refuse : List Cond := .code yX7_refuse cX7_refuse 2 (some .int) :: ([.fieldLink RX7 105 "MachineHallModel" "status" "I"] ++ wsX70)
def wsX7_isSheet : List Cond := .code yX7_isSheet cX7_isSheet 1 (some .boolean) :: ([])
def wsX7_cut : List Cond := .code yX7_cut cX7_cut 3 (some .long) :: ([])
def wsX7_sheet : List Cond := .code yX7_sheet cX7_sheet 5 (some .boolean) :: ([.fieldLink RX7 7 "MachineHallModel" "sort" "[I", .fieldLink RX7 13 "MachineHallModel" "many" "[I", .fieldLink RX7 16 "MachineHallModel" "sheets" "[J", .methodLink RX7 109 yX7_isSheet, .static yX7_isSheet, .initialized RX7, .code yX7_isSheet cX7_isSheet 1 (some .boolean), .methodLink RX7 113 yX7_is, .instanceMethod yX7_is, .selects RX7 yX7_is yX7_is, .code yX7_is cX7_is 2 (some .boolean), .fieldLink RX7 105 "MachineHallModel" "status" "I"] ++ wsX70)
def wsX7_wrong : List Cond := .code yX7_wrong cX7_wrong 3 (some .int) :: ([.fieldLink RX7 13 "MachineHallModel" "many" "[I", .methodLink RX7 109 yX7_isSheet, .static yX7_isSheet, .initialized RX7, .code yX7_isSheet cX7_isSheet 1 (some .boolean)] ++ wsX70)
def wsX7_write : List Cond := .code yX7_write cX7_write 6 (some .boolean) :: ([.fieldLink RX7 16 "MachineHallModel" "sheets" "[J", .fieldLink RX7 7 "MachineHallModel" "sort" "[I", .methodLink RX7 116 yX7_wrong, .instanceMethod yX7_wrong, .selects RX7 yX7_wrong yX7_wrong, .initialized RX7, .code yX7_wrong cX7_wrong 3 (some .int), .fieldLink RX7 13 "MachineHallModel" "many" "[I", .methodLink RX7 109 yX7_isSheet, .static yX7_isSheet, .code yX7_isSheet cX7_isSheet 1 (some .boolean), .methodLink RX7 120 yX7_cut, .static yX7_cut, .code yX7_cut cX7_cut 3 (some .long), .methodLink RX7 113 yX7_is, .instanceMethod yX7_is, .selects RX7 yX7_is yX7_is, .code yX7_is cX7_is 2 (some .boolean), .fieldLink RX7 105 "MachineHallModel" "status" "I"] ++ wsX70)
def wsX7_read : List Cond := .code yX7_read cX7_read 3 (some .long) :: ([.fieldLink RX7 105 "MachineHallModel" "status" "I", .constantLong RX7 124 (-1), .fieldLink RX7 16 "MachineHallModel" "sheets" "[J", .methodLink RX7 116 yX7_wrong, .instanceMethod yX7_wrong, .selects RX7 yX7_wrong yX7_wrong, .initialized RX7, .code yX7_wrong cX7_wrong 3 (some .int), .fieldLink RX7 13 "MachineHallModel" "many" "[I", .methodLink RX7 109 yX7_isSheet, .static yX7_isSheet, .code yX7_isSheet cX7_isSheet 1 (some .boolean)] ++ wsX70)
def wsX7_copy : List Cond := .code yX7_copy cX7_copy 8 (some .boolean) :: ([.fieldLink RX7 13 "MachineHallModel" "many" "[I", .fieldLink RX7 16 "MachineHallModel" "sheets" "[J", .fieldLink RX7 7 "MachineHallModel" "sort" "[I", .methodLink RX7 109 yX7_isSheet, .static yX7_isSheet, .initialized RX7, .code yX7_isSheet cX7_isSheet 1 (some .boolean), .methodLink RX7 113 yX7_is, .instanceMethod yX7_is, .selects RX7 yX7_is yX7_is, .code yX7_is cX7_is 2 (some .boolean), .fieldLink RX7 105 "MachineHallModel" "status" "I", .methodLink RX7 120 yX7_cut, .static yX7_cut, .code yX7_cut cX7_cut 3 (some .long)] ++ wsX70)
def wsX7_drop : List Cond := .code yX7_drop cX7_drop 2 (some .boolean) :: ([.fieldLink RX7 13 "MachineHallModel" "many" "[I", .methodLink RX7 109 yX7_isSheet, .static yX7_isSheet, .initialized RX7, .code yX7_isSheet cX7_isSheet 1 (some .boolean), .methodLink RX7 113 yX7_is, .instanceMethod yX7_is, .selects RX7 yX7_is yX7_is, .code yX7_is cX7_is 2 (some .boolean), .fieldLink RX7 105 "MachineHallModel" "status" "I"] ++ wsX70)
def wsX7_none : List Cond := .code yX7_none cX7_none 1 (some .boolean) :: ([.methodLink RX7 113 yX7_is, .instanceMethod yX7_is, .selects RX7 yX7_is yX7_is, .initialized RX7, .code yX7_is cX7_is 2 (some .boolean), .fieldLink RX7 105 "MachineHallModel" "status" "I"] ++ wsX70)
def wsX7_wrongNumbers : List Cond := .code yX7_wrongNumbers cX7_wrongNumbers 6 (some .int) :: ([.fieldLink RX7 13 "MachineHallModel" "many" "[I", .fieldLink RX7 16 "MachineHallModel" "sheets" "[J", .methodLink RX7 109 yX7_isSheet, .static yX7_isSheet, .initialized RX7, .code yX7_isSheet cX7_isSheet 1 (some .boolean)] ++ wsX70)
def wsX7_machine : List Cond := .code yX7_machine cX7_machine 3 (some .int) :: ([.fieldLink RX7 130 "MachineHallModel" "machines" "I", .fieldLink RX7 20 "MachineHallModel" "size" "[I", .fieldLink RX7 23 "MachineHallModel" "room" "[I", .fieldLink RX7 26 "MachineHallModel" "isUp" "[Z", .fieldLink RX7 105 "MachineHallModel" "status" "I", .methodLink RX7 126 yX7_refuse, .instanceMethod yX7_refuse, .selects RX7 yX7_refuse yX7_refuse, .initialized RX7, .code yX7_refuse cX7_refuse 2 (some .int)] ++ wsX70)
def wsX7_up : List Cond := .code yX7_up cX7_up 3 (some .boolean) :: ([.fieldLink RX7 130 "MachineHallModel" "machines" "I", .fieldLink RX7 26 "MachineHallModel" "isUp" "[Z", .methodLink RX7 113 yX7_is, .instanceMethod yX7_is, .selects RX7 yX7_is yX7_is, .initialized RX7, .code yX7_is cX7_is 2 (some .boolean), .fieldLink RX7 105 "MachineHallModel" "status" "I"] ++ wsX70)
def wsX7_isAsk : List Cond := .code yX7_isAsk cX7_isAsk 2 (some .boolean) :: ([.fieldLink RX7 133 "MachineHallModel" "asks" "I"] ++ wsX70)
def wsX7_ask : List Cond := .code yX7_ask cX7_ask 4 (some .int) :: ([.fieldLink RX7 133 "MachineHallModel" "asks" "I", .fieldLink RX7 30 "MachineHallModel" "need" "[I", .fieldLink RX7 33 "MachineHallModel" "first" "[I", .fieldLink RX7 36 "MachineHallModel" "last" "[I", .fieldLink RX7 39 "MachineHallModel" "apart" "[I", .fieldLink RX7 105 "MachineHallModel" "status" "I", .methodLink RX7 126 yX7_refuse, .instanceMethod yX7_refuse, .selects RX7 yX7_refuse yX7_refuse, .initialized RX7, .code yX7_refuse cX7_refuse 2 (some .int)] ++ wsX70)
def wsX7_apart : List Cond := .code yX7_apart cX7_apart 4 (some .boolean) :: ([.fieldLink RX7 39 "MachineHallModel" "apart" "[I", .methodLink RX7 136 yX7_isAsk, .instanceMethod yX7_isAsk, .selects RX7 yX7_isAsk yX7_isAsk, .initialized RX7, .code yX7_isAsk cX7_isAsk 2 (some .boolean), .fieldLink RX7 133 "MachineHallModel" "asks" "I", .methodLink RX7 113 yX7_is, .instanceMethod yX7_is, .selects RX7 yX7_is yX7_is, .code yX7_is cX7_is 2 (some .boolean), .fieldLink RX7 105 "MachineHallModel" "status" "I"] ++ wsX70)
def wsX7_isHour : List Cond := .code yX7_isHour cX7_isHour 1 (some .boolean) :: ([])
def wsX7_isFall : List Cond := .code yX7_isFall cX7_isFall 1 (some .boolean) :: ([])
def wsX7_stands : List Cond := .code yX7_stands cX7_stands 3 (some .boolean) :: ([.fieldLink RX7 26 "MachineHallModel" "isUp" "[Z", .fieldLink RX7 23 "MachineHallModel" "room" "[I"] ++ wsX70)
def wsX7_sizes : List Cond := .code yX7_sizes cX7_sizes 4 (some .int) :: ([.fieldLink RX7 130 "MachineHallModel" "machines" "I", .fieldLink RX7 20 "MachineHallModel" "size" "[I", .methodLink RX7 139 yX7_stands, .instanceMethod yX7_stands, .selects RX7 yX7_stands yX7_stands, .initialized RX7, .code yX7_stands cX7_stands 3 (some .boolean), .fieldLink RX7 26 "MachineHallModel" "isUp" "[Z", .fieldLink RX7 23 "MachineHallModel" "room" "[I"] ++ wsX70)
def wsX7_count : List Cond := .code yX7_count cX7_count 2 (some .int) :: ([.fieldLink RX7 105 "MachineHallModel" "status" "I", .fieldLink RX7 130 "MachineHallModel" "machines" "I", .fieldLink RX7 133 "MachineHallModel" "asks" "I", .fieldLink RX7 143 "MachineHallModel" "batches" "I", .fieldLink RX7 146 "MachineHallModel" "types" "I", .methodLink RX7 126 yX7_refuse, .instanceMethod yX7_refuse, .selects RX7 yX7_refuse yX7_refuse, .initialized RX7, .code yX7_refuse cX7_refuse 2 (some .int), .methodLink RX7 149 yX7_sizes, .instanceMethod yX7_sizes, .selects RX7 yX7_sizes yX7_sizes, .code yX7_sizes cX7_sizes 4 (some .int), .fieldLink RX7 20 "MachineHallModel" "size" "[I", .methodLink RX7 139 yX7_stands, .instanceMethod yX7_stands, .selects RX7 yX7_stands yX7_stands, .code yX7_stands cX7_stands 3 (some .boolean), .fieldLink RX7 26 "MachineHallModel" "isUp" "[Z", .fieldLink RX7 23 "MachineHallModel" "room" "[I"] ++ wsX70)
def wsX7_look : List Cond := .code yX7_look cX7_look 7 none :: ([.fieldLink RX7 133 "MachineHallModel" "asks" "I", .fieldLink RX7 42 "MachineHallModel" "needs" "[I", .fieldLink RX7 45 "MachineHallModel" "may" "[Z", .fieldLink RX7 30 "MachineHallModel" "need" "[I", .fieldLink RX7 39 "MachineHallModel" "apart" "[I", .fieldLink RX7 48 "MachineHallModel" "can" "[Z", .fieldLink RX7 130 "MachineHallModel" "machines" "I", .fieldLink RX7 20 "MachineHallModel" "size" "[I", .methodLink RX7 139 yX7_stands, .instanceMethod yX7_stands, .selects RX7 yX7_stands yX7_stands, .initialized RX7, .code yX7_stands cX7_stands 3 (some .boolean), .fieldLink RX7 26 "MachineHallModel" "isUp" "[Z", .fieldLink RX7 23 "MachineHallModel" "room" "[I"] ++ wsX70)
def wsX7_setOf : List Cond := .code yX7_setOf cX7_setOf 4 (some .int) :: ([.fieldLink RX7 133 "MachineHallModel" "asks" "I", .fieldLink RX7 33 "MachineHallModel" "first" "[I", .fieldLink RX7 36 "MachineHallModel" "last" "[I"] ++ wsX70)
def wsX7_fits_r1 : List Cond := [Cond.fieldLink RX7 105 "MachineHallModel" "status" "I", Cond.fieldLink RX7 48 "MachineHallModel" "can" "[Z", Cond.methodLink RX7 152 yX7_isHour, Cond.static yX7_isHour, Cond.initialized RX7, Cond.code yX7_isHour cX7_isHour 1 (some .boolean), Cond.methodLink RX7 155 yX7_isFall, Cond.static yX7_isFall, Cond.code yX7_isFall cX7_isFall 1 (some .boolean), Cond.methodLink RX7 126 yX7_refuse, Cond.instanceMethod yX7_refuse, Cond.selects RX7 yX7_refuse yX7_refuse, Cond.code yX7_refuse cX7_refuse 2 (some .int), Cond.methodLink RX7 158 yX7_look, Cond.instanceMethod yX7_look, Cond.selects RX7 yX7_look yX7_look, Cond.code yX7_look cX7_look 7 none, Cond.fieldLink RX7 133 "MachineHallModel" "asks" "I", Cond.fieldLink RX7 42 "MachineHallModel" "needs" "[I", Cond.fieldLink RX7 45 "MachineHallModel" "may" "[Z", Cond.fieldLink RX7 30 "MachineHallModel" "need" "[I", Cond.fieldLink RX7 39 "MachineHallModel" "apart" "[I", Cond.fieldLink RX7 130 "MachineHallModel" "machines" "I", Cond.fieldLink RX7 20 "MachineHallModel" "size" "[I"]
def wsX7_fits_r2 : List Cond := [Cond.methodLink RX7 139 yX7_stands, Cond.instanceMethod yX7_stands, Cond.selects RX7 yX7_stands yX7_stands, Cond.code yX7_stands cX7_stands 3 (some .boolean), Cond.fieldLink RX7 26 "MachineHallModel" "isUp" "[Z", Cond.fieldLink RX7 23 "MachineHallModel" "room" "[I", Cond.methodLink RX7 162 yX7_setOf, Cond.instanceMethod yX7_setOf, Cond.selects RX7 yX7_setOf yX7_setOf, Cond.code yX7_setOf cX7_setOf 4 (some .int), Cond.fieldLink RX7 33 "MachineHallModel" "first" "[I", Cond.fieldLink RX7 36 "MachineHallModel" "last" "[I"]
def wsX7_fits : List Cond := .code yX7_fits cX7_fits 3 (some .int) :: ((wsX7_fits_r1 ++ wsX7_fits_r2) ++ wsX70)
def wsX7_on_r1 : List Cond := [Cond.fieldLink RX7 48 "MachineHallModel" "can" "[Z", Cond.fieldLink RX7 105 "MachineHallModel" "status" "I", Cond.fieldLink RX7 130 "MachineHallModel" "machines" "I", Cond.fieldLink RX7 45 "MachineHallModel" "may" "[Z", Cond.fieldLink RX7 42 "MachineHallModel" "needs" "[I", Cond.fieldLink RX7 20 "MachineHallModel" "size" "[I", Cond.methodLink RX7 152 yX7_isHour, Cond.static yX7_isHour, Cond.initialized RX7, Cond.code yX7_isHour cX7_isHour 1 (some .boolean), Cond.methodLink RX7 155 yX7_isFall, Cond.static yX7_isFall, Cond.code yX7_isFall cX7_isFall 1 (some .boolean), Cond.methodLink RX7 136 yX7_isAsk, Cond.instanceMethod yX7_isAsk, Cond.selects RX7 yX7_isAsk yX7_isAsk, Cond.code yX7_isAsk cX7_isAsk 2 (some .boolean), Cond.fieldLink RX7 133 "MachineHallModel" "asks" "I", Cond.methodLink RX7 162 yX7_setOf, Cond.instanceMethod yX7_setOf, Cond.selects RX7 yX7_setOf yX7_setOf, Cond.code yX7_setOf cX7_setOf 4 (some .int), Cond.fieldLink RX7 33 "MachineHallModel" "first" "[I", Cond.fieldLink RX7 36 "MachineHallModel" "last" "[I"]
def wsX7_on_r2 : List Cond := [Cond.methodLink RX7 126 yX7_refuse, Cond.instanceMethod yX7_refuse, Cond.selects RX7 yX7_refuse yX7_refuse, Cond.code yX7_refuse cX7_refuse 2 (some .int), Cond.methodLink RX7 158 yX7_look, Cond.instanceMethod yX7_look, Cond.selects RX7 yX7_look yX7_look, Cond.code yX7_look cX7_look 7 none, Cond.fieldLink RX7 30 "MachineHallModel" "need" "[I", Cond.fieldLink RX7 39 "MachineHallModel" "apart" "[I", Cond.methodLink RX7 139 yX7_stands, Cond.instanceMethod yX7_stands, Cond.selects RX7 yX7_stands yX7_stands, Cond.code yX7_stands cX7_stands 3 (some .boolean), Cond.fieldLink RX7 26 "MachineHallModel" "isUp" "[Z", Cond.fieldLink RX7 23 "MachineHallModel" "room" "[I"]
def wsX7_on : List Cond := .code yX7_on cX7_on 7 (some .int) :: ((wsX7_on_r1 ++ wsX7_on_r2) ++ wsX70)
def wsX7_lack_r1 : List Cond := [Cond.fieldLink RX7 105 "MachineHallModel" "status" "I", Cond.fieldLink RX7 48 "MachineHallModel" "can" "[Z", Cond.fieldLink RX7 42 "MachineHallModel" "needs" "[I", Cond.methodLink RX7 152 yX7_isHour, Cond.static yX7_isHour, Cond.initialized RX7, Cond.code yX7_isHour cX7_isHour 1 (some .boolean), Cond.methodLink RX7 155 yX7_isFall, Cond.static yX7_isFall, Cond.code yX7_isFall cX7_isFall 1 (some .boolean), Cond.methodLink RX7 126 yX7_refuse, Cond.instanceMethod yX7_refuse, Cond.selects RX7 yX7_refuse yX7_refuse, Cond.code yX7_refuse cX7_refuse 2 (some .int), Cond.methodLink RX7 158 yX7_look, Cond.instanceMethod yX7_look, Cond.selects RX7 yX7_look yX7_look, Cond.code yX7_look cX7_look 7 none, Cond.fieldLink RX7 133 "MachineHallModel" "asks" "I", Cond.fieldLink RX7 45 "MachineHallModel" "may" "[Z", Cond.fieldLink RX7 30 "MachineHallModel" "need" "[I", Cond.fieldLink RX7 39 "MachineHallModel" "apart" "[I", Cond.fieldLink RX7 130 "MachineHallModel" "machines" "I", Cond.fieldLink RX7 20 "MachineHallModel" "size" "[I"]
def wsX7_lack_r2 : List Cond := [Cond.methodLink RX7 139 yX7_stands, Cond.instanceMethod yX7_stands, Cond.selects RX7 yX7_stands yX7_stands, Cond.code yX7_stands cX7_stands 3 (some .boolean), Cond.fieldLink RX7 26 "MachineHallModel" "isUp" "[Z", Cond.fieldLink RX7 23 "MachineHallModel" "room" "[I", Cond.methodLink RX7 162 yX7_setOf, Cond.instanceMethod yX7_setOf, Cond.selects RX7 yX7_setOf yX7_setOf, Cond.code yX7_setOf cX7_setOf 4 (some .int), Cond.fieldLink RX7 33 "MachineHallModel" "first" "[I", Cond.fieldLink RX7 36 "MachineHallModel" "last" "[I"]
def wsX7_lack : List Cond := .code yX7_lack cX7_lack 6 (some .int) :: ((wsX7_lack_r1 ++ wsX7_lack_r2) ++ wsX70)
def wsX7_leftOf : List Cond := .code yX7_leftOf cX7_leftOf 3 (some .int) :: ([.fieldLink RX7 48 "MachineHallModel" "can" "[Z", .fieldLink RX7 42 "MachineHallModel" "needs" "[I", .methodLink RX7 162 yX7_setOf, .instanceMethod yX7_setOf, .selects RX7 yX7_setOf yX7_setOf, .initialized RX7, .code yX7_setOf cX7_setOf 4 (some .int), .fieldLink RX7 133 "MachineHallModel" "asks" "I", .fieldLink RX7 33 "MachineHallModel" "first" "[I", .fieldLink RX7 36 "MachineHallModel" "last" "[I", .methodLink RX7 149 yX7_sizes, .instanceMethod yX7_sizes, .selects RX7 yX7_sizes yX7_sizes, .code yX7_sizes cX7_sizes 4 (some .int), .fieldLink RX7 130 "MachineHallModel" "machines" "I", .fieldLink RX7 20 "MachineHallModel" "size" "[I", .methodLink RX7 139 yX7_stands, .instanceMethod yX7_stands, .selects RX7 yX7_stands yX7_stands, .code yX7_stands cX7_stands 3 (some .boolean), .fieldLink RX7 26 "MachineHallModel" "isUp" "[Z", .fieldLink RX7 23 "MachineHallModel" "room" "[I"] ++ wsX70)
def wsX7_left_r1 : List Cond := [Cond.fieldLink RX7 105 "MachineHallModel" "status" "I", Cond.methodLink RX7 152 yX7_isHour, Cond.static yX7_isHour, Cond.initialized RX7, Cond.code yX7_isHour cX7_isHour 1 (some .boolean), Cond.methodLink RX7 155 yX7_isFall, Cond.static yX7_isFall, Cond.code yX7_isFall cX7_isFall 1 (some .boolean), Cond.methodLink RX7 126 yX7_refuse, Cond.instanceMethod yX7_refuse, Cond.selects RX7 yX7_refuse yX7_refuse, Cond.code yX7_refuse cX7_refuse 2 (some .int), Cond.methodLink RX7 158 yX7_look, Cond.instanceMethod yX7_look, Cond.selects RX7 yX7_look yX7_look, Cond.code yX7_look cX7_look 7 none, Cond.fieldLink RX7 133 "MachineHallModel" "asks" "I", Cond.fieldLink RX7 42 "MachineHallModel" "needs" "[I", Cond.fieldLink RX7 45 "MachineHallModel" "may" "[Z", Cond.fieldLink RX7 30 "MachineHallModel" "need" "[I", Cond.fieldLink RX7 39 "MachineHallModel" "apart" "[I", Cond.fieldLink RX7 48 "MachineHallModel" "can" "[Z", Cond.fieldLink RX7 130 "MachineHallModel" "machines" "I", Cond.fieldLink RX7 20 "MachineHallModel" "size" "[I"]
def wsX7_left_r2 : List Cond := [Cond.methodLink RX7 139 yX7_stands, Cond.instanceMethod yX7_stands, Cond.selects RX7 yX7_stands yX7_stands, Cond.code yX7_stands cX7_stands 3 (some .boolean), Cond.fieldLink RX7 26 "MachineHallModel" "isUp" "[Z", Cond.fieldLink RX7 23 "MachineHallModel" "room" "[I", Cond.methodLink RX7 165 yX7_leftOf, Cond.instanceMethod yX7_leftOf, Cond.selects RX7 yX7_leftOf yX7_leftOf, Cond.code yX7_leftOf cX7_leftOf 3 (some .int), Cond.methodLink RX7 162 yX7_setOf, Cond.instanceMethod yX7_setOf, Cond.selects RX7 yX7_setOf yX7_setOf, Cond.code yX7_setOf cX7_setOf 4 (some .int), Cond.fieldLink RX7 33 "MachineHallModel" "first" "[I", Cond.fieldLink RX7 36 "MachineHallModel" "last" "[I", Cond.methodLink RX7 149 yX7_sizes, Cond.instanceMethod yX7_sizes, Cond.selects RX7 yX7_sizes yX7_sizes, Cond.code yX7_sizes cX7_sizes 4 (some .int)]
def wsX7_left : List Cond := .code yX7_left cX7_left 3 (some .int) :: ((wsX7_left_r1 ++ wsX7_left_r2) ++ wsX70)
def wsX7_enough_r1 : List Cond := [Cond.fieldLink RX7 105 "MachineHallModel" "status" "I", Cond.fieldLink RX7 130 "MachineHallModel" "machines" "I", Cond.fieldLink RX7 48 "MachineHallModel" "can" "[Z", Cond.methodLink RX7 126 yX7_refuse, Cond.instanceMethod yX7_refuse, Cond.selects RX7 yX7_refuse yX7_refuse, Cond.initialized RX7, Cond.code yX7_refuse cX7_refuse 2 (some .int), Cond.methodLink RX7 158 yX7_look, Cond.instanceMethod yX7_look, Cond.selects RX7 yX7_look yX7_look, Cond.code yX7_look cX7_look 7 none, Cond.fieldLink RX7 133 "MachineHallModel" "asks" "I", Cond.fieldLink RX7 42 "MachineHallModel" "needs" "[I", Cond.fieldLink RX7 45 "MachineHallModel" "may" "[Z", Cond.fieldLink RX7 30 "MachineHallModel" "need" "[I", Cond.fieldLink RX7 39 "MachineHallModel" "apart" "[I", Cond.fieldLink RX7 20 "MachineHallModel" "size" "[I", Cond.methodLink RX7 139 yX7_stands, Cond.instanceMethod yX7_stands, Cond.selects RX7 yX7_stands yX7_stands, Cond.code yX7_stands cX7_stands 3 (some .boolean), Cond.fieldLink RX7 26 "MachineHallModel" "isUp" "[Z", Cond.fieldLink RX7 23 "MachineHallModel" "room" "[I"]
def wsX7_enough_r2 : List Cond := [Cond.methodLink RX7 162 yX7_setOf, Cond.instanceMethod yX7_setOf, Cond.selects RX7 yX7_setOf yX7_setOf, Cond.code yX7_setOf cX7_setOf 4 (some .int), Cond.fieldLink RX7 33 "MachineHallModel" "first" "[I", Cond.fieldLink RX7 36 "MachineHallModel" "last" "[I"]
def wsX7_enough : List Cond := .code yX7_enough cX7_enough 6 (some .int) :: ((wsX7_enough_r1 ++ wsX7_enough_r2) ++ wsX70)
def wsX7_batch : List Cond := .code yX7_batch cX7_batch 5 (some .int) :: ([.fieldLink RX7 143 "MachineHallModel" "batches" "I", .fieldLink RX7 51 "MachineHallModel" "work" "[I", .fieldLink RX7 54 "MachineHallModel" "from" "[I", .fieldLink RX7 57 "MachineHallModel" "due" "[I", .fieldLink RX7 60 "MachineHallModel" "most" "[I", .fieldLink RX7 105 "MachineHallModel" "status" "I", .methodLink RX7 126 yX7_refuse, .instanceMethod yX7_refuse, .selects RX7 yX7_refuse yX7_refuse, .initialized RX7, .code yX7_refuse cX7_refuse 2 (some .int)] ++ wsX70)
def wsX7_isIn : List Cond := .code yX7_isIn cX7_isIn 3 (some .boolean) :: ([.fieldLink RX7 54 "MachineHallModel" "from" "[I", .fieldLink RX7 57 "MachineHallModel" "due" "[I"] ++ wsX70)
def wsX7_goes : List Cond := .code yX7_goes cX7_goes 3 (some .int) :: ([.fieldLink RX7 143 "MachineHallModel" "batches" "I", .fieldLink RX7 51 "MachineHallModel" "work" "[I", .fieldLink RX7 72 "MachineHallModel" "done" "[I", .fieldLink RX7 75 "MachineHallModel" "stays" "[Z", .fieldLink RX7 60 "MachineHallModel" "most" "[I", .fieldLink RX7 63 "MachineHallModel" "part" "[I", .fieldLink RX7 66 "MachineHallModel" "has" "[I", .fieldLink RX7 69 "MachineHallModel" "used" "[I", .methodLink RX7 168 yX7_isIn, .instanceMethod yX7_isIn, .selects RX7 yX7_isIn yX7_isIn, .initialized RX7, .code yX7_isIn cX7_isIn 3 (some .boolean), .fieldLink RX7 54 "MachineHallModel" "from" "[I", .fieldLink RX7 57 "MachineHallModel" "due" "[I"] ++ wsX70)
def wsX7_moves : List Cond := .code yX7_moves cX7_moves 4 none :: ([.fieldLink RX7 72 "MachineHallModel" "done" "[I", .fieldLink RX7 63 "MachineHallModel" "part" "[I", .fieldLink RX7 69 "MachineHallModel" "used" "[I"] ++ wsX70)
def wsX7_isWay : List Cond := .code yX7_isWay cX7_isWay 6 (some .boolean) :: ([.fieldLink RX7 78 "MachineHallModel" "before" "[I", .fieldLink RX7 81 "MachineHallModel" "line" "[I", .methodLink RX7 171 yX7_goes, .instanceMethod yX7_goes, .selects RX7 yX7_goes yX7_goes, .initialized RX7, .code yX7_goes cX7_goes 3 (some .int), .fieldLink RX7 143 "MachineHallModel" "batches" "I", .fieldLink RX7 51 "MachineHallModel" "work" "[I", .fieldLink RX7 72 "MachineHallModel" "done" "[I", .fieldLink RX7 75 "MachineHallModel" "stays" "[Z", .fieldLink RX7 60 "MachineHallModel" "most" "[I", .fieldLink RX7 63 "MachineHallModel" "part" "[I", .fieldLink RX7 66 "MachineHallModel" "has" "[I", .fieldLink RX7 69 "MachineHallModel" "used" "[I", .methodLink RX7 168 yX7_isIn, .instanceMethod yX7_isIn, .selects RX7 yX7_isIn yX7_isIn, .code yX7_isIn cX7_isIn 3 (some .boolean), .fieldLink RX7 54 "MachineHallModel" "from" "[I", .fieldLink RX7 57 "MachineHallModel" "due" "[I"] ++ wsX70)
def wsX7_goAlong_r1 : List Cond := [Cond.fieldLink RX7 78 "MachineHallModel" "before" "[I", Cond.methodLink RX7 174 Lib.Math.min.name, Cond.static Lib.Math.min.name, Cond.initialized "java/lang/Math", Cond.code Lib.Math.min.name Lib.Math.min.code 2 (some .int), Cond.methodLink RX7 171 yX7_goes, Cond.instanceMethod yX7_goes, Cond.selects RX7 yX7_goes yX7_goes, Cond.initialized RX7, Cond.code yX7_goes cX7_goes 3 (some .int), Cond.fieldLink RX7 143 "MachineHallModel" "batches" "I", Cond.fieldLink RX7 51 "MachineHallModel" "work" "[I", Cond.fieldLink RX7 72 "MachineHallModel" "done" "[I", Cond.fieldLink RX7 75 "MachineHallModel" "stays" "[Z", Cond.fieldLink RX7 60 "MachineHallModel" "most" "[I", Cond.fieldLink RX7 63 "MachineHallModel" "part" "[I", Cond.fieldLink RX7 66 "MachineHallModel" "has" "[I", Cond.fieldLink RX7 69 "MachineHallModel" "used" "[I", Cond.methodLink RX7 168 yX7_isIn, Cond.instanceMethod yX7_isIn, Cond.selects RX7 yX7_isIn yX7_isIn, Cond.code yX7_isIn cX7_isIn 3 (some .boolean), Cond.fieldLink RX7 54 "MachineHallModel" "from" "[I", Cond.fieldLink RX7 57 "MachineHallModel" "due" "[I"]
def wsX7_goAlong_r2 : List Cond := [Cond.methodLink RX7 179 yX7_moves, Cond.instanceMethod yX7_moves, Cond.selects RX7 yX7_moves yX7_moves, Cond.code yX7_moves cX7_moves 4 none]
def wsX7_goAlong : List Cond := .code yX7_goAlong cX7_goAlong 6 (some .int) :: ((wsX7_goAlong_r1 ++ wsX7_goAlong_r2) ++ wsX70)
def wsX7_layIn_r1 : List Cond := [Cond.fieldLink RX7 66 "MachineHallModel" "has" "[I", Cond.fieldLink RX7 69 "MachineHallModel" "used" "[I", Cond.fieldLink RX7 63 "MachineHallModel" "part" "[I", Cond.fieldLink RX7 75 "MachineHallModel" "stays" "[Z", Cond.fieldLink RX7 143 "MachineHallModel" "batches" "I", Cond.fieldLink RX7 72 "MachineHallModel" "done" "[I", Cond.fieldLink RX7 51 "MachineHallModel" "work" "[I", Cond.methodLink RX7 158 yX7_look, Cond.instanceMethod yX7_look, Cond.selects RX7 yX7_look yX7_look, Cond.initialized RX7, Cond.code yX7_look cX7_look 7 none, Cond.fieldLink RX7 133 "MachineHallModel" "asks" "I", Cond.fieldLink RX7 42 "MachineHallModel" "needs" "[I", Cond.fieldLink RX7 45 "MachineHallModel" "may" "[Z", Cond.fieldLink RX7 30 "MachineHallModel" "need" "[I", Cond.fieldLink RX7 39 "MachineHallModel" "apart" "[I", Cond.fieldLink RX7 48 "MachineHallModel" "can" "[Z", Cond.fieldLink RX7 130 "MachineHallModel" "machines" "I", Cond.fieldLink RX7 20 "MachineHallModel" "size" "[I", Cond.methodLink RX7 139 yX7_stands, Cond.instanceMethod yX7_stands, Cond.selects RX7 yX7_stands yX7_stands, Cond.code yX7_stands cX7_stands 3 (some .boolean)]
def wsX7_layIn_r2 : List Cond := [Cond.fieldLink RX7 26 "MachineHallModel" "isUp" "[Z", Cond.fieldLink RX7 23 "MachineHallModel" "room" "[I", Cond.methodLink RX7 165 yX7_leftOf, Cond.instanceMethod yX7_leftOf, Cond.selects RX7 yX7_leftOf yX7_leftOf, Cond.code yX7_leftOf cX7_leftOf 3 (some .int), Cond.methodLink RX7 162 yX7_setOf, Cond.instanceMethod yX7_setOf, Cond.selects RX7 yX7_setOf yX7_setOf, Cond.code yX7_setOf cX7_setOf 4 (some .int), Cond.fieldLink RX7 33 "MachineHallModel" "first" "[I", Cond.fieldLink RX7 36 "MachineHallModel" "last" "[I", Cond.methodLink RX7 149 yX7_sizes, Cond.instanceMethod yX7_sizes, Cond.selects RX7 yX7_sizes yX7_sizes, Cond.code yX7_sizes cX7_sizes 4 (some .int), Cond.methodLink RX7 183 yX7_isWay, Cond.instanceMethod yX7_isWay, Cond.selects RX7 yX7_isWay yX7_isWay, Cond.code yX7_isWay cX7_isWay 6 (some .boolean), Cond.fieldLink RX7 78 "MachineHallModel" "before" "[I", Cond.fieldLink RX7 81 "MachineHallModel" "line" "[I", Cond.methodLink RX7 171 yX7_goes, Cond.instanceMethod yX7_goes]
def wsX7_layIn_r3 : List Cond := [Cond.selects RX7 yX7_goes yX7_goes, Cond.code yX7_goes cX7_goes 3 (some .int), Cond.fieldLink RX7 60 "MachineHallModel" "most" "[I", Cond.methodLink RX7 168 yX7_isIn, Cond.instanceMethod yX7_isIn, Cond.selects RX7 yX7_isIn yX7_isIn, Cond.code yX7_isIn cX7_isIn 3 (some .boolean), Cond.fieldLink RX7 54 "MachineHallModel" "from" "[I", Cond.fieldLink RX7 57 "MachineHallModel" "due" "[I", Cond.methodLink RX7 186 yX7_goAlong, Cond.instanceMethod yX7_goAlong, Cond.selects RX7 yX7_goAlong yX7_goAlong, Cond.code yX7_goAlong cX7_goAlong 6 (some .int), Cond.methodLink RX7 174 Lib.Math.min.name, Cond.static Lib.Math.min.name, Cond.initialized "java/lang/Math", Cond.code Lib.Math.min.name Lib.Math.min.code 2 (some .int), Cond.methodLink RX7 179 yX7_moves, Cond.instanceMethod yX7_moves, Cond.selects RX7 yX7_moves yX7_moves, Cond.code yX7_moves cX7_moves 4 none]
def wsX7_layIn : List Cond := .code yX7_layIn cX7_layIn 4 (some .int) :: ((wsX7_layIn_r1 ++ (wsX7_layIn_r2 ++ wsX7_layIn_r3)) ++ wsX70)
def wsX7_rest_r1 : List Cond := [Cond.fieldLink RX7 105 "MachineHallModel" "status" "I", Cond.methodLink RX7 155 yX7_isFall, Cond.static yX7_isFall, Cond.initialized RX7, Cond.code yX7_isFall cX7_isFall 1 (some .boolean), Cond.methodLink RX7 126 yX7_refuse, Cond.instanceMethod yX7_refuse, Cond.selects RX7 yX7_refuse yX7_refuse, Cond.code yX7_refuse cX7_refuse 2 (some .int), Cond.methodLink RX7 190 yX7_layIn, Cond.instanceMethod yX7_layIn, Cond.selects RX7 yX7_layIn yX7_layIn, Cond.code yX7_layIn cX7_layIn 4 (some .int), Cond.fieldLink RX7 66 "MachineHallModel" "has" "[I", Cond.fieldLink RX7 69 "MachineHallModel" "used" "[I", Cond.fieldLink RX7 63 "MachineHallModel" "part" "[I", Cond.fieldLink RX7 75 "MachineHallModel" "stays" "[Z", Cond.fieldLink RX7 143 "MachineHallModel" "batches" "I", Cond.fieldLink RX7 72 "MachineHallModel" "done" "[I", Cond.fieldLink RX7 51 "MachineHallModel" "work" "[I", Cond.methodLink RX7 158 yX7_look, Cond.instanceMethod yX7_look, Cond.selects RX7 yX7_look yX7_look, Cond.code yX7_look cX7_look 7 none]
def wsX7_rest_r2 : List Cond := [Cond.fieldLink RX7 133 "MachineHallModel" "asks" "I", Cond.fieldLink RX7 42 "MachineHallModel" "needs" "[I", Cond.fieldLink RX7 45 "MachineHallModel" "may" "[Z", Cond.fieldLink RX7 30 "MachineHallModel" "need" "[I", Cond.fieldLink RX7 39 "MachineHallModel" "apart" "[I", Cond.fieldLink RX7 48 "MachineHallModel" "can" "[Z", Cond.fieldLink RX7 130 "MachineHallModel" "machines" "I", Cond.fieldLink RX7 20 "MachineHallModel" "size" "[I", Cond.methodLink RX7 139 yX7_stands, Cond.instanceMethod yX7_stands, Cond.selects RX7 yX7_stands yX7_stands, Cond.code yX7_stands cX7_stands 3 (some .boolean), Cond.fieldLink RX7 26 "MachineHallModel" "isUp" "[Z", Cond.fieldLink RX7 23 "MachineHallModel" "room" "[I", Cond.methodLink RX7 165 yX7_leftOf, Cond.instanceMethod yX7_leftOf, Cond.selects RX7 yX7_leftOf yX7_leftOf, Cond.code yX7_leftOf cX7_leftOf 3 (some .int), Cond.methodLink RX7 162 yX7_setOf, Cond.instanceMethod yX7_setOf, Cond.selects RX7 yX7_setOf yX7_setOf, Cond.code yX7_setOf cX7_setOf 4 (some .int), Cond.fieldLink RX7 33 "MachineHallModel" "first" "[I", Cond.fieldLink RX7 36 "MachineHallModel" "last" "[I"]
def wsX7_rest_r3 : List Cond := [Cond.methodLink RX7 149 yX7_sizes, Cond.instanceMethod yX7_sizes, Cond.selects RX7 yX7_sizes yX7_sizes, Cond.code yX7_sizes cX7_sizes 4 (some .int), Cond.methodLink RX7 183 yX7_isWay, Cond.instanceMethod yX7_isWay, Cond.selects RX7 yX7_isWay yX7_isWay, Cond.code yX7_isWay cX7_isWay 6 (some .boolean), Cond.fieldLink RX7 78 "MachineHallModel" "before" "[I", Cond.fieldLink RX7 81 "MachineHallModel" "line" "[I", Cond.methodLink RX7 171 yX7_goes, Cond.instanceMethod yX7_goes, Cond.selects RX7 yX7_goes yX7_goes, Cond.code yX7_goes cX7_goes 3 (some .int), Cond.fieldLink RX7 60 "MachineHallModel" "most" "[I", Cond.methodLink RX7 168 yX7_isIn, Cond.instanceMethod yX7_isIn, Cond.selects RX7 yX7_isIn yX7_isIn, Cond.code yX7_isIn cX7_isIn 3 (some .boolean), Cond.fieldLink RX7 54 "MachineHallModel" "from" "[I", Cond.fieldLink RX7 57 "MachineHallModel" "due" "[I", Cond.methodLink RX7 186 yX7_goAlong, Cond.instanceMethod yX7_goAlong, Cond.selects RX7 yX7_goAlong yX7_goAlong]
def wsX7_rest_r4 : List Cond := [Cond.code yX7_goAlong cX7_goAlong 6 (some .int), Cond.methodLink RX7 174 Lib.Math.min.name, Cond.static Lib.Math.min.name, Cond.initialized "java/lang/Math", Cond.code Lib.Math.min.name Lib.Math.min.code 2 (some .int), Cond.methodLink RX7 179 yX7_moves, Cond.instanceMethod yX7_moves, Cond.selects RX7 yX7_moves yX7_moves, Cond.code yX7_moves cX7_moves 4 none]
def wsX7_rest : List Cond := .code yX7_rest cX7_rest 2 (some .int) :: ((wsX7_rest_r1 ++ (wsX7_rest_r2 ++ (wsX7_rest_r3 ++ wsX7_rest_r4))) ++ wsX70)
def wsX7_part_r1 : List Cond := [Cond.fieldLink RX7 143 "MachineHallModel" "batches" "I", Cond.fieldLink RX7 105 "MachineHallModel" "status" "I", Cond.fieldLink RX7 54 "MachineHallModel" "from" "[I", Cond.fieldLink RX7 57 "MachineHallModel" "due" "[I", Cond.fieldLink RX7 75 "MachineHallModel" "stays" "[Z", Cond.fieldLink RX7 63 "MachineHallModel" "part" "[I", Cond.fieldLink RX7 60 "MachineHallModel" "most" "[I", Cond.methodLink RX7 155 yX7_isFall, Cond.static yX7_isFall, Cond.initialized RX7, Cond.code yX7_isFall cX7_isFall 1 (some .boolean), Cond.methodLink RX7 152 yX7_isHour, Cond.static yX7_isHour, Cond.code yX7_isHour cX7_isHour 1 (some .boolean), Cond.methodLink RX7 126 yX7_refuse, Cond.instanceMethod yX7_refuse, Cond.selects RX7 yX7_refuse yX7_refuse, Cond.code yX7_refuse cX7_refuse 2 (some .int), Cond.methodLink RX7 190 yX7_layIn, Cond.instanceMethod yX7_layIn, Cond.selects RX7 yX7_layIn yX7_layIn, Cond.code yX7_layIn cX7_layIn 4 (some .int), Cond.fieldLink RX7 66 "MachineHallModel" "has" "[I", Cond.fieldLink RX7 69 "MachineHallModel" "used" "[I"]
def wsX7_part_r2 : List Cond := [Cond.fieldLink RX7 72 "MachineHallModel" "done" "[I", Cond.fieldLink RX7 51 "MachineHallModel" "work" "[I", Cond.methodLink RX7 158 yX7_look, Cond.instanceMethod yX7_look, Cond.selects RX7 yX7_look yX7_look, Cond.code yX7_look cX7_look 7 none, Cond.fieldLink RX7 133 "MachineHallModel" "asks" "I", Cond.fieldLink RX7 42 "MachineHallModel" "needs" "[I", Cond.fieldLink RX7 45 "MachineHallModel" "may" "[Z", Cond.fieldLink RX7 30 "MachineHallModel" "need" "[I", Cond.fieldLink RX7 39 "MachineHallModel" "apart" "[I", Cond.fieldLink RX7 48 "MachineHallModel" "can" "[Z", Cond.fieldLink RX7 130 "MachineHallModel" "machines" "I", Cond.fieldLink RX7 20 "MachineHallModel" "size" "[I", Cond.methodLink RX7 139 yX7_stands, Cond.instanceMethod yX7_stands, Cond.selects RX7 yX7_stands yX7_stands, Cond.code yX7_stands cX7_stands 3 (some .boolean), Cond.fieldLink RX7 26 "MachineHallModel" "isUp" "[Z", Cond.fieldLink RX7 23 "MachineHallModel" "room" "[I", Cond.methodLink RX7 165 yX7_leftOf, Cond.instanceMethod yX7_leftOf, Cond.selects RX7 yX7_leftOf yX7_leftOf, Cond.code yX7_leftOf cX7_leftOf 3 (some .int)]
def wsX7_part_r3 : List Cond := [Cond.methodLink RX7 162 yX7_setOf, Cond.instanceMethod yX7_setOf, Cond.selects RX7 yX7_setOf yX7_setOf, Cond.code yX7_setOf cX7_setOf 4 (some .int), Cond.fieldLink RX7 33 "MachineHallModel" "first" "[I", Cond.fieldLink RX7 36 "MachineHallModel" "last" "[I", Cond.methodLink RX7 149 yX7_sizes, Cond.instanceMethod yX7_sizes, Cond.selects RX7 yX7_sizes yX7_sizes, Cond.code yX7_sizes cX7_sizes 4 (some .int), Cond.methodLink RX7 183 yX7_isWay, Cond.instanceMethod yX7_isWay, Cond.selects RX7 yX7_isWay yX7_isWay, Cond.code yX7_isWay cX7_isWay 6 (some .boolean), Cond.fieldLink RX7 78 "MachineHallModel" "before" "[I", Cond.fieldLink RX7 81 "MachineHallModel" "line" "[I", Cond.methodLink RX7 171 yX7_goes, Cond.instanceMethod yX7_goes, Cond.selects RX7 yX7_goes yX7_goes, Cond.code yX7_goes cX7_goes 3 (some .int), Cond.methodLink RX7 168 yX7_isIn, Cond.instanceMethod yX7_isIn, Cond.selects RX7 yX7_isIn yX7_isIn, Cond.code yX7_isIn cX7_isIn 3 (some .boolean)]
def wsX7_part_r4 : List Cond := [Cond.methodLink RX7 186 yX7_goAlong, Cond.instanceMethod yX7_goAlong, Cond.selects RX7 yX7_goAlong yX7_goAlong, Cond.code yX7_goAlong cX7_goAlong 6 (some .int), Cond.methodLink RX7 174 Lib.Math.min.name, Cond.static Lib.Math.min.name, Cond.initialized "java/lang/Math", Cond.code Lib.Math.min.name Lib.Math.min.code 2 (some .int), Cond.methodLink RX7 179 yX7_moves, Cond.instanceMethod yX7_moves, Cond.selects RX7 yX7_moves yX7_moves, Cond.code yX7_moves cX7_moves 4 none]
def wsX7_part : List Cond := .code yX7_part cX7_part 8 (some .int) :: ((wsX7_part_r1 ++ (wsX7_part_r2 ++ (wsX7_part_r3 ++ wsX7_part_r4))) ++ wsX70)
def wsX7_step : List Cond := .code yX7_step cX7_step 9 none :: ([.fieldLink RX7 193 "MachineHallModel" "greatest" "I", .fieldLink RX7 196 "MachineHallModel" "together" "I", .fieldLink RX7 199 "MachineHallModel" "comes" "I", .fieldLink RX7 202 "MachineHallModel" "waiting" "I", .fieldLink RX7 205 "MachineHallModel" "end" "I", .fieldLink RX7 84 "MachineHallModel" "free" "[I", .fieldLink RX7 16 "MachineHallModel" "sheets" "[J", .methodLink RX7 208 Lib.Math.max.name, .static Lib.Math.max.name, .initialized "java/lang/Math", .code Lib.Math.max.name Lib.Math.max.code 2 (some .int)] ++ wsX70)
def wsX7_line_r1 : List Cond := [Cond.constantLong RX7 211 (100), Cond.fieldLink RX7 105 "MachineHallModel" "status" "I", Cond.fieldLink RX7 193 "MachineHallModel" "greatest" "I", Cond.fieldLink RX7 196 "MachineHallModel" "together" "I", Cond.fieldLink RX7 199 "MachineHallModel" "comes" "I", Cond.fieldLink RX7 202 "MachineHallModel" "waiting" "I", Cond.fieldLink RX7 205 "MachineHallModel" "end" "I", Cond.methodLink RX7 213 yX7_wrongNumbers, Cond.instanceMethod yX7_wrongNumbers, Cond.selects RX7 yX7_wrongNumbers yX7_wrongNumbers, Cond.initialized RX7, Cond.code yX7_wrongNumbers cX7_wrongNumbers 6 (some .int), Cond.fieldLink RX7 13 "MachineHallModel" "many" "[I", Cond.fieldLink RX7 16 "MachineHallModel" "sheets" "[J", Cond.methodLink RX7 109 yX7_isSheet, Cond.static yX7_isSheet, Cond.code yX7_isSheet cX7_isSheet 1 (some .boolean), Cond.methodLink RX7 126 yX7_refuse, Cond.instanceMethod yX7_refuse, Cond.selects RX7 yX7_refuse yX7_refuse, Cond.code yX7_refuse cX7_refuse 2 (some .int), Cond.methodLink RX7 217 yX7_step, Cond.instanceMethod yX7_step, Cond.selects RX7 yX7_step yX7_step]
def wsX7_line_r2 : List Cond := [Cond.code yX7_step cX7_step 9 none, Cond.fieldLink RX7 84 "MachineHallModel" "free" "[I", Cond.methodLink RX7 208 Lib.Math.max.name, Cond.static Lib.Math.max.name, Cond.initialized "java/lang/Math", Cond.code Lib.Math.max.name Lib.Math.max.code 2 (some .int)]
def wsX7_line : List Cond := .code yX7_line cX7_line 7 (some .int) :: ((wsX7_line_r1 ++ wsX7_line_r2) ++ wsX70)
def wsX7_hands_r1 : List Cond := [Cond.constantLong RX7 211 (100), Cond.fieldLink RX7 105 "MachineHallModel" "status" "I", Cond.fieldLink RX7 193 "MachineHallModel" "greatest" "I", Cond.methodLink RX7 213 yX7_wrongNumbers, Cond.instanceMethod yX7_wrongNumbers, Cond.selects RX7 yX7_wrongNumbers yX7_wrongNumbers, Cond.initialized RX7, Cond.code yX7_wrongNumbers cX7_wrongNumbers 6 (some .int), Cond.fieldLink RX7 13 "MachineHallModel" "many" "[I", Cond.fieldLink RX7 16 "MachineHallModel" "sheets" "[J", Cond.methodLink RX7 109 yX7_isSheet, Cond.static yX7_isSheet, Cond.code yX7_isSheet cX7_isSheet 1 (some .boolean), Cond.methodLink RX7 126 yX7_refuse, Cond.instanceMethod yX7_refuse, Cond.selects RX7 yX7_refuse yX7_refuse, Cond.code yX7_refuse cX7_refuse 2 (some .int), Cond.methodLink RX7 217 yX7_step, Cond.instanceMethod yX7_step, Cond.selects RX7 yX7_step yX7_step, Cond.code yX7_step cX7_step 9 none, Cond.fieldLink RX7 196 "MachineHallModel" "together" "I", Cond.fieldLink RX7 199 "MachineHallModel" "comes" "I", Cond.fieldLink RX7 202 "MachineHallModel" "waiting" "I"]
def wsX7_hands_r2 : List Cond := [Cond.fieldLink RX7 205 "MachineHallModel" "end" "I", Cond.fieldLink RX7 84 "MachineHallModel" "free" "[I", Cond.methodLink RX7 208 Lib.Math.max.name, Cond.static Lib.Math.max.name, Cond.initialized "java/lang/Math", Cond.code Lib.Math.max.name Lib.Math.max.code 2 (some .int)]
def wsX7_hands : List Cond := .code yX7_hands cX7_hands 7 (some .int) :: ((wsX7_hands_r1 ++ wsX7_hands_r2) ++ wsX70)
def wsX7_wanted : List Cond := .code yX7_wanted cX7_wanted 4 (some .boolean) :: ([.constantLong RX7 221 (500), .fieldLink RX7 87 "MachineHallModel" "wanted" "[I", .fieldLink RX7 16 "MachineHallModel" "sheets" "[J", .methodLink RX7 213 yX7_wrongNumbers, .instanceMethod yX7_wrongNumbers, .selects RX7 yX7_wrongNumbers yX7_wrongNumbers, .initialized RX7, .code yX7_wrongNumbers cX7_wrongNumbers 6 (some .int), .fieldLink RX7 13 "MachineHallModel" "many" "[I", .methodLink RX7 109 yX7_isSheet, .static yX7_isSheet, .code yX7_isSheet cX7_isSheet 1 (some .boolean), .methodLink RX7 113 yX7_is, .instanceMethod yX7_is, .selects RX7 yX7_is yX7_is, .code yX7_is cX7_is 2 (some .boolean), .fieldLink RX7 105 "MachineHallModel" "status" "I"] ++ wsX70)
def wsX7_have : List Cond := .code yX7_have cX7_have 2 (some .boolean) :: ([.fieldLink RX7 223 "MachineHallModel" "have" "I", .methodLink RX7 113 yX7_is, .instanceMethod yX7_is, .selects RX7 yX7_is yX7_is, .initialized RX7, .code yX7_is cX7_is 2 (some .boolean), .fieldLink RX7 105 "MachineHallModel" "status" "I"] ++ wsX70)
def wsX7_type : List Cond := .code yX7_type cX7_type 7 (some .int) :: ([.constantLong RX7 226 (100000), .fieldLink RX7 146 "MachineHallModel" "types" "I", .fieldLink RX7 90 "MachineHallModel" "typeSize" "[I", .fieldLink RX7 93 "MachineHallModel" "lead" "[I", .fieldLink RX7 96 "MachineHallModel" "power" "[I", .fieldLink RX7 99 "MachineHallModel" "price" "[I", .fieldLink RX7 16 "MachineHallModel" "sheets" "[J", .fieldLink RX7 105 "MachineHallModel" "status" "I", .methodLink RX7 213 yX7_wrongNumbers, .instanceMethod yX7_wrongNumbers, .selects RX7 yX7_wrongNumbers yX7_wrongNumbers, .initialized RX7, .code yX7_wrongNumbers cX7_wrongNumbers 6 (some .int), .fieldLink RX7 13 "MachineHallModel" "many" "[I", .methodLink RX7 109 yX7_isSheet, .static yX7_isSheet, .code yX7_isSheet cX7_isSheet 1 (some .boolean), .methodLink RX7 126 yX7_refuse, .instanceMethod yX7_refuse, .selects RX7 yX7_refuse yX7_refuse, .code yX7_refuse cX7_refuse 2 (some .int)] ++ wsX70)
def wsX7_at : List Cond := .code yX7_at cX7_at 3 (some .int) :: ([])
def wsX7_takes : List Cond := .code yX7_takes cX7_takes 3 (some .int) :: ([.fieldLink RX7 99 "MachineHallModel" "price" "[I", .fieldLink RX7 93 "MachineHallModel" "lead" "[I", .fieldLink RX7 96 "MachineHallModel" "power" "[I"] ++ wsX70)
def wsX7_reckon : List Cond := .code yX7_reckon cX7_reckon 6 none :: ([.fieldLink RX7 102 "MachineHallModel" "least" "[I", .fieldLink RX7 87 "MachineHallModel" "wanted" "[I", .constant RX7 231 (2000000000), .fieldLink RX7 146 "MachineHallModel" "types" "I", .fieldLink RX7 93 "MachineHallModel" "lead" "[I", .fieldLink RX7 90 "MachineHallModel" "typeSize" "[I", .methodLink RX7 174 Lib.Math.min.name, .static Lib.Math.min.name, .initialized "java/lang/Math", .code Lib.Math.min.name Lib.Math.min.code 2 (some .int), .methodLink RX7 228 yX7_at, .static yX7_at, .initialized RX7, .code yX7_at cX7_at 3 (some .int), .methodLink RX7 232 yX7_takes, .instanceMethod yX7_takes, .selects RX7 yX7_takes yX7_takes, .code yX7_takes cX7_takes 3 (some .int), .fieldLink RX7 99 "MachineHallModel" "price" "[I", .fieldLink RX7 96 "MachineHallModel" "power" "[I"] ++ wsX70)
def wsX7_cheapest_r1 : List Cond := [Cond.fieldLink RX7 102 "MachineHallModel" "least" "[I", Cond.fieldLink RX7 223 "MachineHallModel" "have" "I", Cond.constant RX7 231 (2000000000), Cond.fieldLink RX7 105 "MachineHallModel" "status" "I", Cond.methodLink RX7 235 yX7_reckon, Cond.instanceMethod yX7_reckon, Cond.selects RX7 yX7_reckon yX7_reckon, Cond.initialized RX7, Cond.code yX7_reckon cX7_reckon 6 none, Cond.fieldLink RX7 87 "MachineHallModel" "wanted" "[I", Cond.fieldLink RX7 146 "MachineHallModel" "types" "I", Cond.fieldLink RX7 93 "MachineHallModel" "lead" "[I", Cond.fieldLink RX7 90 "MachineHallModel" "typeSize" "[I", Cond.methodLink RX7 174 Lib.Math.min.name, Cond.static Lib.Math.min.name, Cond.initialized "java/lang/Math", Cond.code Lib.Math.min.name Lib.Math.min.code 2 (some .int), Cond.methodLink RX7 228 yX7_at, Cond.static yX7_at, Cond.code yX7_at cX7_at 3 (some .int), Cond.methodLink RX7 232 yX7_takes, Cond.instanceMethod yX7_takes, Cond.selects RX7 yX7_takes yX7_takes, Cond.code yX7_takes cX7_takes 3 (some .int)]
def wsX7_cheapest_r2 : List Cond := [Cond.fieldLink RX7 99 "MachineHallModel" "price" "[I", Cond.fieldLink RX7 96 "MachineHallModel" "power" "[I", Cond.methodLink RX7 126 yX7_refuse, Cond.instanceMethod yX7_refuse, Cond.selects RX7 yX7_refuse yX7_refuse, Cond.code yX7_refuse cX7_refuse 2 (some .int)]
def wsX7_cheapest : List Cond := .code yX7_cheapest cX7_cheapest 2 (some .int) :: ((wsX7_cheapest_r1 ++ wsX7_cheapest_r2) ++ wsX70)
def wsX7_buys_r1 : List Cond := [Cond.fieldLink RX7 146 "MachineHallModel" "types" "I", Cond.fieldLink RX7 102 "MachineHallModel" "least" "[I", Cond.fieldLink RX7 223 "MachineHallModel" "have" "I", Cond.constant RX7 231 (2000000000), Cond.fieldLink RX7 105 "MachineHallModel" "status" "I", Cond.fieldLink RX7 87 "MachineHallModel" "wanted" "[I", Cond.fieldLink RX7 90 "MachineHallModel" "typeSize" "[I", Cond.methodLink RX7 174 Lib.Math.min.name, Cond.static Lib.Math.min.name, Cond.initialized "java/lang/Math", Cond.code Lib.Math.min.name Lib.Math.min.code 2 (some .int), Cond.methodLink RX7 126 yX7_refuse, Cond.instanceMethod yX7_refuse, Cond.selects RX7 yX7_refuse yX7_refuse, Cond.initialized RX7, Cond.code yX7_refuse cX7_refuse 2 (some .int), Cond.methodLink RX7 235 yX7_reckon, Cond.instanceMethod yX7_reckon, Cond.selects RX7 yX7_reckon yX7_reckon, Cond.code yX7_reckon cX7_reckon 6 none, Cond.fieldLink RX7 93 "MachineHallModel" "lead" "[I", Cond.methodLink RX7 228 yX7_at, Cond.static yX7_at, Cond.code yX7_at cX7_at 3 (some .int)]
def wsX7_buys_r2 : List Cond := [Cond.methodLink RX7 232 yX7_takes, Cond.instanceMethod yX7_takes, Cond.selects RX7 yX7_takes yX7_takes, Cond.code yX7_takes cX7_takes 3 (some .int), Cond.fieldLink RX7 99 "MachineHallModel" "price" "[I", Cond.fieldLink RX7 96 "MachineHallModel" "power" "[I"]
def wsX7_buys : List Cond := .code yX7_buys cX7_buys 7 (some .int) :: ((wsX7_buys_r1 ++ wsX7_buys_r2) ++ wsX70)
def wsJ9_max_7cf53 : List Cond := .code yJ9_max_7cf53 cJ9_max_7cf53 2 (some .int) :: ([])
def wsJ9_min_7cf53 : List Cond := .code yJ9_min_7cf53 cJ9_min_7cf53 2 (some .int) :: ([])
abbrev vwCl : List vw_C := [(RX0, TX0, 4), (RX1, TX1, 13), (RX2, TX2, 12), (RX3, TX3, 9), (RX4, TX4, 3), (RX5, TX5, 6), (RX6, TX6, 6), (RX7, TX7, 42)]
end
section
/-! MEMORY: cell k at place j holds an int (or a boolean) M.1 k j, or a long M.2 k j; an object's int field is a place of its cell -/
abbrev Mem : Type := (Nat → Nat → Int32) × (Nat → Nat → Int64)
abbrev LayC : Type := Nat × Nat × Nat × List (Option Nat)
abbrev Lay : Type := List LayC
def sA (M : Mem) (k j : Nat) (v : Int32) : Mem := (fun k' => if k' = k then upd (M.1 k) j v else M.1 k', M.2)
def sB (M : Mem) (k j : Nat) (v : Int64) : Mem := (M.1, fun k' => if k' = k then vp_updL (M.2 k) j v else M.2 k')
def sAr (M : Mem) (k : Nat) (f : Nat → Int32) : Mem := (fun k' => if k' = k then f else M.1 k', M.2)
def sBr (M : Mem) (k : Nat) (f : Nat → Int64) : Mem := (M.1, fun k' => if k' = k then f else M.2 k')
def jmax (x y : Int32) : Int32 := if x < y then y else x
def jmin (x y : Int32) : Int32 := if y < x then y else x
def jushrL (x : Int64) (y : Int32) : Int64 := (x.toUInt64 >>> (y.toInt64.toUInt64 &&& Int64.toUInt64 63)).toInt64
def jshlL (x : Int64) (y : Int32) : Int64 := x <<< (y.toInt64 &&& 63)
def zb (v : Int32) : Prop := narrow .boolean (.int v) = .int v
/-! THE WORLD of a layout: kinds 0 object (class, -, slots), 1 int[], 2 boolean[], 3 long[] (length), 4 int[][], 5 long[][] (length, first row's cell) -/
def slotV (σ : Nat → Nat) (f : Nat → Int32) (sl : List (Option Nat)) (j : Nat) : Value := match sl[j]? with
  | some (some r) => .ref (σ r)
  | _ => .int (f j)
def flds (σ : Nat → Nat) (f : Nat → Int32) (sl : List (Option Nat)) : List Value := (List.range sl.length).map (slotV σ f sl)
def cellOf (T : Nat → ClassId) (σ : Nat → Nat) (M : Mem) (k : Nat) (c : LayC) : va_E :=
  if c.1 = 0 then .inr (c.2.1, flds σ (M.1 k) c.2.2.2)
  else if c.1 = 1 then .inl (T 1, c.2.1, .inl (M.1 k))
  else if c.1 = 2 then .inl (T 2, c.2.1, .inl (M.1 k))
  else if c.1 = 3 then .inl (T 3, c.2.1, .inr (.inl (M.2 k)))
  else .inl (T c.1, c.2.1, .inr (.inr (.inr (.inr (fun i => if i < c.2.1 then some (σ (c.2.2.1 + i)) else none)))))
def tyT (T : Nat → ClassId) : List (ClassId × FieldType) := [(T 1, .int), (T 2, .boolean), (T 3, .long), (T 4, .array .int), (T 5, .array .long)]
def wd (T : Nat → ClassId) (L : Lay) (σ : Nat → Nat) (M : Mem) : va_W := (List.range L.length).map (fun k => (σ k, cellOf T σ M k (L.getD k (0, 0, 0, []))))
theorem wd_len {T : Nat → ClassId} {σ : Nat → Nat} {L : Lay} {M : Mem} : (wd T L σ M).length = L.length := by simp [wd]
theorem wd_get {T : Nat → ClassId} {σ : Nat → Nat} {L : Lay} {M : Mem} {k : Nat} {c : LayC} (h : L[k]? = some c) : (wd T L σ M)[k]? = some (σ k, cellOf T σ M k c) := by
  have hk : k < L.length := (List.getElem?_eq_some_iff.mp h).1
  unfold wd
  rw [List.getElem?_map, List.getElem?_range hk]
  simp [List.getD_eq_getElem?_getD, h]
theorem wd_in {T : Nat → ClassId} {σ : Nat → Nat} {L : Lay} {M : Mem} {k : Nat} {q : Nat × va_E} (h : (wd T L σ M)[k]? = some q) : k < L.length ∧ q.1 = σ k := by
  have hk : k < L.length := by
    have := (List.getElem?_eq_some_iff.mp h).1
    rwa [wd_len] at this
  unfold wd at h
  rw [List.getElem?_map, List.getElem?_range hk] at h
  cases h
  exact ⟨hk, rfl⟩
theorem cellOf_congr {T : Nat → ClassId} {σ : Nat → Nat} {M M' : Mem} {k : Nat} {c : LayC} (h1 : M'.1 k = M.1 k) (h2 : M'.2 k = M.2 k) : cellOf T σ M' k c = cellOf T σ M k c := by
  unfold cellOf
  rw [h1, h2]
theorem wd_set {T : Nat → ClassId} {σ : Nat → Nat} {L : Lay} {M M' : Mem} {k : Nat} {c : LayC} {e : va_E} (h : L[k]? = some c) (h1 : ∀ k', k' ≠ k → M'.1 k' = M.1 k') (h2 : ∀ k', k' ≠ k → M'.2 k' = M.2 k') (he : cellOf T σ M' k c = e) : (wd T L σ M).set k (σ k, e) = wd T L σ M' := by
  have hk : k < L.length := (List.getElem?_eq_some_iff.mp h).1
  apply List.ext_getElem?
  intro j
  by_cases hj : j = k
  · subst hj
    rw [List.getElem?_set_self (by rw [wd_len]; exact hk), wd_get h, he]
  · rw [List.getElem?_set_ne (Ne.symm hj)]
    unfold wd
    rw [List.getElem?_map, List.getElem?_map]
    by_cases hl : j < L.length
    · rw [List.getElem?_range hl]
      simp only [Option.map_some]
      rw [cellOf_congr (h1 j hj) (h2 j hj)]
    · rw [List.getElem?_eq_none (by rw [List.length_range]; omega)]
      rfl
theorem wd_D {A : Nat → Prop} {T : Nat → ClassId} {σ : Nat → Nat} {L : Lay} {M M' : Mem} (h : va_D A (wd T L σ M)) : va_D A (wd T L σ M') := by
  have key : ∀ (k : Nat) (q : Nat × va_E), (wd T L σ M')[k]? = some q → ∃ q0, (wd T L σ M)[k]? = some q0 ∧ q0.1 = q.1 := by
    intro k q hq
    obtain ⟨hk, hq1⟩ := wd_in hq
    have hc : L[k]? = some L[k] := List.getElem?_eq_getElem hk
    exact ⟨_, wd_get hc, hq1.symm⟩
  refine ⟨fun i j x y hi hj hxy => ?_, fun k q hk => ?_⟩
  · obtain ⟨x0, h1, h2⟩ := key i x hi
    obtain ⟨y0, h3, h4⟩ := key j y hj
    exact h.1 i j x0 y0 h1 h3 (h2.trans (hxy.trans h4.symm))
  · obtain ⟨q0, h1, h2⟩ := key k q hk
    rw [← h2]
    exact h.2 k q0 h1
theorem flds_get {σ : Nat → Nat} {f : Nat → Int32} {sl : List (Option Nat)} {j : Nat} (h : j < sl.length) : (flds σ f sl)[j]? = some (slotV σ f sl j) := by
  unfold flds
  rw [List.getElem?_map, List.getElem?_range h]
  rfl
theorem flds_len {σ : Nat → Nat} {f : Nat → Int32} {sl : List (Option Nat)} : (flds σ f sl).length = sl.length := by simp [flds]
theorem slotV_i {σ : Nat → Nat} {f : Nat → Int32} {sl : List (Option Nat)} {j : Nat} (h : sl[j]? = some none) : slotV σ f sl j = .int (f j) := by
  unfold slotV
  rw [h]
theorem slotV_r {σ : Nat → Nat} {f : Nat → Int32} {sl : List (Option Nat)} {j r : Nat} (h : sl[j]? = some (some r)) : slotV σ f sl j = .ref (σ r) := by
  unfold slotV
  rw [h]
theorem flds_set {σ : Nat → Nat} {f : Nat → Int32} {sl : List (Option Nat)} {j : Nat} {v : Int32} (h : sl[j]? = some none) : flds σ (upd f j v) sl = (flds σ f sl).set j (.int v) := by
  have hj : j < sl.length := (List.getElem?_eq_some_iff.mp h).1
  apply List.ext_getElem?
  intro i
  by_cases hi : i = j
  · subst hi
    rw [List.getElem?_set_self (by rw [flds_len]; exact hj), flds_get hj, slotV_i h]
    simp [upd]
  · rw [List.getElem?_set_ne (Ne.symm hi)]
    unfold flds
    rw [List.getElem?_map, List.getElem?_map]
    by_cases hl : i < sl.length
    · rw [List.getElem?_range hl]
      simp only [Option.map_some]
      have e : slotV σ (upd f j v) sl i = slotV σ f sl i := by simp only [slotV, upd, if_neg hi]
      rw [e]
    · rw [List.getElem?_eq_none (by rw [List.length_range]; omega)]
      rfl
theorem sA_1 {M : Mem} {k j : Nat} {v : Int32} (k' : Nat) (h : k' ≠ k) : (sA M k j v).1 k' = M.1 k' := if_neg h
theorem sA_s {M : Mem} {k j : Nat} {v : Int32} : (sA M k j v).1 k = upd (M.1 k) j v := if_pos rfl
theorem sB_s {M : Mem} {k j : Nat} {v : Int64} : (sB M k j v).2 k = vp_updL (M.2 k) j v := if_pos rfl
theorem sB_1 {M : Mem} {k j : Nat} {v : Int64} (k' : Nat) (h : k' ≠ k) : (sB M k j v).2 k' = M.2 k' := if_neg h

theorem cell_o {T : Nat → ClassId} {σ : Nat → Nat} {M : Mem} {k ci b : Nat} {sl : List (Option Nat)} : cellOf T σ M k (0, ci, b, sl) = .inr (ci, flds σ (M.1 k) sl) := by simp [cellOf]
theorem cell_i {T : Nat → ClassId} {σ : Nat → Nat} {M : Mem} {k n b : Nat} {sl : List (Option Nat)} : cellOf T σ M k (1, n, b, sl) = .inl (T 1, n, .inl (M.1 k)) := by simp [cellOf]
theorem cell_z {T : Nat → ClassId} {σ : Nat → Nat} {M : Mem} {k n b : Nat} {sl : List (Option Nat)} : cellOf T σ M k (2, n, b, sl) = .inl (T 2, n, .inl (M.1 k)) := by simp [cellOf]
theorem cell_l {T : Nat → ClassId} {σ : Nat → Nat} {M : Mem} {k n b : Nat} {sl : List (Option Nat)} : cellOf T σ M k (3, n, b, sl) = .inl (T 3, n, .inr (.inl (M.2 k))) := by simp [cellOf]
theorem cell_q {T : Nat → ClassId} {σ : Nat → Nat} {M : Mem} {k t n b : Nat} {sl : List (Option Nat)} : cellOf T σ M k (t + 4, n, b, sl) = .inl (T (t + 4), n, .inr (.inr (.inr (.inr (fun i => if i < n then some (σ (b + i)) else none))))) := by
  unfold cellOf
  rw [if_neg (show ¬ t + 4 = 0 by omega), if_neg (show ¬ t + 4 = 1 by omega), if_neg (show ¬ t + 4 = 2 by omega), if_neg (show ¬ t + 4 = 3 by omega)]
theorem vp_lt {x : Int32} {n : Nat} (h : vp_in x n) : x.toNatClampNeg < n := Nat.not_le.mp fun q => h (Or.inr q)
/-- the four links of nest mates -/
def NW (U : State) : Prop := va_Nw (.methodLinkNest RX4 29 yX6_within RX6) U ∧ va_Nw (.methodLinkNest RX1 44 yX6_within RX6) U ∧ va_Nw (.methodLinkNest RX3 45 yX6_within RX6) U ∧ va_Nw (.methodLinkNest RX2 43 yX6_within RX6) U
theorem NW.same {u U : State} (h : u.vm = U.vm) (hN : NW u) : NW U := ⟨va_Nw.same rfl h hN.1, va_Nw.same rfl h hN.2.1, va_Nw.same rfl h hN.2.2.1, va_Nw.same rfl h hN.2.2.2⟩
theorem NW.warm {s U : State} (h : s.WarmedH U.vm) (hN : NW s) : NW U := ⟨va_Nw.warmM h hN.1, va_Nw.warmM h hN.2.1, va_Nw.warmM h hN.2.2.1, va_Nw.warmM h hN.2.2.2⟩
/-- the world stands in the heap H, and since H0 nothing outside A has changed -/
def Wd (D : va_G) (T : Nat → ClassId) (L : Lay) (σ : Nat → Nat) (M : Mem) (A : Nat → Prop) (s : State) (H0 H : Heap) (locs : List Loc) : Prop :=
  va_K D vwCl (tyT T) s ∧ va_P D vwCl (wd T L σ M) H ∧ va_D A (wd T L σ M) ∧ va_S A H0 H locs ∧ NW s
def fA (L : Lay) (σ : Nat → Nat) : Nat → Prop := fun q => ∃ k, k < L.length ∧ q = σ k
def preW (D : va_G) (T : Nat → ClassId) (L : Lay) (σ : Nat → Nat) (av : List Value) (M : Mem) : Array Value → State → Prop :=
  va_Pc av (fun U => va_P D vwCl (wd T L σ M) U.heap ∧ va_K D vwCl (tyT T) U ∧ va_D (fun _ => True) (wd T L σ M) ∧ NW U)
def endW (D : va_G) (T : Nat → ClassId) (L : Lay) (σ : Nat → Nat) : Mem → State → Prop := fun M t => va_P D vwCl (wd T L σ M) t.heap ∧ va_K D vwCl (tyT T) t
abbrev postI (D : va_G) (T : Nat → ClassId) (L : Lay) (σ : Nat → Nat) (post : Int32 → Mem → Prop) := va_Qi post (endW D T L σ) (fA L σ)
abbrev postL (D : va_G) (T : Nat → ClassId) (L : Lay) (σ : Nat → Nat) (post : Int64 → Mem → Prop) := va_Ql post (endW D T L σ) (fA L σ)
abbrev postV (D : va_G) (T : Nat → ClassId) (L : Lay) (σ : Nat → Nat) (post : Mem → Prop) := va_Qv post (endW D T L σ) (fA L σ)
theorem preW_blind {D : va_G} {T : Nat → ClassId} {L : Lay} {σ : Nat → Nat} {av : List Value} {M : Mem} : FrameBlind (preW D T L σ av M) := fun a U g mk q => by
  obtain ⟨q0, qP, qK, qD, qN⟩ := q
  exact ⟨q0, qP, va_K.moved (u := U) (U := U.calling g mk a) (Vm.Alike.refl U.vm) qK, qD, NW.same (U := U.calling g mk a) rfl qN⟩
theorem fA_in {A : Nat → Prop} {T : Nat → ClassId} {L : Lay} {σ : Nat → Nat} {M : Mem} (h : va_D A (wd T L σ M)) (q : Nat) (hq : fA L σ q) : A q := by
  obtain ⟨k, hk, rfl⟩ := hq
  exact h.2 k _ (wd_get (List.getElem?_eq_getElem hk))
theorem fA_self {A : Nat → Prop} {T : Nat → ClassId} {L : Lay} {σ : Nat → Nat} {M : Mem} (h : va_D A (wd T L σ M)) : va_D (fA L σ) (wd T L σ M) := ⟨h.1, fun k q hq => ⟨k, (wd_in hq).1, (wd_in hq).2⟩⟩
section RR
variable {p : Program} {l : Launch} {e : Env} {R : Room} {s : State} {m : MethodId} {args : Array Value} {below : List Frame} {meth : Method} {c : Code} {H H0 : Heap} {locs : List Loc} {cells slots : Nat} {Q : State → Prop}
variable {cc : ByteArray} {pc nL : Nat} {ls : Array Slot} {rest st : List Value} {own : String} {Ts : List Cond} {D : va_G} {T : Nat → ClassId} {L : Lay} {σ : Nat → Nat} {M : Mem} {A : Nat → Prop}
theorem r_getI (S : CallFix p m c cc nL s args Ts own) (hW : Wd D T L σ M A s H0 H locs) {C : String} {TX : u_T} {N ci k j b index : Nat} {sl : List (Option Nat)} (hin : ∀ w ∈ u_ws C TX N, w ∈ Ts) (hc : vwCl[ci]? = some (C, TX, N)) (hlink : (Cond.fieldLink own index C (TX j).2.1 (TX j).2.2.1).before args s = true) (hr : (TX j).1 = C) (hk : L[k]? = some (0, ci, b, sl)) (hj : j < N) (hs : sl[j]? = some none) (hdg : decode cc pc = .ok (.getfield index, 3))
    (kk : W p l e R s m args below meth c H locs cells slots Q (F0 m (pc + 3) ls (.int (M.1 k j) :: rest))) : W p l e R s m args below meth c H locs cells slots Q (F0 m pc ls (.ref (σ k) :: rest)) := by
  obtain ⟨hK, hP, hD, hS, hN⟩ := hW
  exact va_get (v := .int (M.1 k j)) S.1 S.2.1 S.2.2.2.2 hin S.2.2.2.1 hK hP k (by rw [← cell_o]; exact wd_get hk) hc j hj hlink (fun x h => by rw [← hr]; exact h) (by rw [flds_get (List.getElem?_eq_some_iff.mp hs).1, slotV_i hs]) hdg kk
theorem r_getR (S : CallFix p m c cc nL s args Ts own) (hW : Wd D T L σ M A s H0 H locs) {C : String} {TX : u_T} {N ci k j b r index : Nat} {sl : List (Option Nat)} (hin : ∀ w ∈ u_ws C TX N, w ∈ Ts) (hc : vwCl[ci]? = some (C, TX, N)) (hlink : (Cond.fieldLink own index C (TX j).2.1 (TX j).2.2.1).before args s = true) (hr : (TX j).1 = C) (hk : L[k]? = some (0, ci, b, sl)) (hj : j < N) (hs : sl[j]? = some (some r)) (hdg : decode cc pc = .ok (.getfield index, 3))
    (kk : W p l e R s m args below meth c H locs cells slots Q (F0 m (pc + 3) ls (.ref (σ r) :: rest))) : W p l e R s m args below meth c H locs cells slots Q (F0 m pc ls (.ref (σ k) :: rest)) := by
  obtain ⟨hK, hP, hD, hS, hN⟩ := hW
  exact va_get (v := .ref (σ r)) S.1 S.2.1 S.2.2.2.2 hin S.2.2.2.1 hK hP k (by rw [← cell_o]; exact wd_get hk) hc j hj hlink (fun x h => by rw [← hr]; exact h) (by rw [flds_get (List.getElem?_eq_some_iff.mp hs).1, slotV_r hs]) hdg kk
theorem r_putI (S : CallFix p m c cc nL s args Ts own) (hW : Wd D T L σ M A s H0 H locs) {C : String} {TX : u_T} {N ci k j b index : Nat} {sl : List (Option Nat)} (hin : ∀ w ∈ u_ws C TX N, w ∈ Ts) (hc : vwCl[ci]? = some (C, TX, N)) (hlink : (Cond.fieldLink own index C (TX j).2.1 (TX j).2.2.1).before args s = true) (hr : (TX j).1 = C) (hk : L[k]? = some (0, ci, b, sl)) (hj : j < N) (hs : sl[j]? = some none)
    (ty0 : Nat → FieldType) (hty : ∀ k, k < N → parseFieldDescriptor (TX k).2.2.1 = some (ty0 k)) (hnm : ∀ a, a < N → ∀ b, b < N → a ≠ b → (TX a).2.1 ≠ (TX b).2.1) (hfin : (TX j).2.2.2 = false) {x : Int32} (hn : narrow (ty0 j) (.int x) = .int x) (hfit : fits (ty0 j) (.int x) = true) (hdg : decode cc pc = .ok (.putfield index, 3))
    (kk : ∀ (M1 : Mem) (H1 : Heap) (locs1 : List Loc), M1 = sA M k j x → Wd D T L σ M1 A s H0 H1 locs1 → W p l e R s m args below meth c H1 locs1 cells slots Q (F0 m (pc + 3) ls rest)) : W p l e R s m args below meth c H locs cells slots Q (F0 m pc ls (.int x :: .ref (σ k) :: rest)) := by
  obtain ⟨hK, hP, hD, hS, hN⟩ := hW
  have hjl : j < sl.length := (List.getElem?_eq_some_iff.mp hs).1
  have hE : (wd T L σ M).set k (σ k, .inr (ci, (flds σ (M.1 k) sl).set j (.int x))) = wd T L σ (sA M k j x) := wd_set hk (fun k' h => sA_1 k' h) (fun _ _ => rfl) (by rw [cell_o, sA_s, flds_set hs])
  refine va_put (v := .int x) S.1 S.2.1 S.2.2.2.2 hin ty0 hty hnm S.2.2.2.1 hK hP hD hS k (by rw [← cell_o]; exact wd_get hk) hc j hj hlink (fun x h => by rw [← hr]; exact h) hfin (hty j hj) hn hfit (by rw [flds_len]; exact hjl) hdg (fun H1 locs1 hP1 hD1 hS1 => ?_)
  rw [hE] at hP1 hD1
  exact kk _ H1 locs1 rfl ⟨hK, hP1, hD1, hS1, hN⟩
theorem r_iald (S : CallFix p m c cc nL s args Ts own) (hW : Wd D T L σ M A s H0 H locs) {k n b : Nat} {sl : List (Option Nat)} {i : Int32} (hk : L[k]? = some (1, n, b, sl)) (hin : vp_in i n) (hdg : decode cc pc = .ok (.iaload, 1))
    (kk : W p l e R s m args below meth c H locs cells slots Q (F0 m (pc + 1) ls (.int (M.1 k i.toNatClampNeg) :: rest))) : W p l e R s m args below meth c H locs cells slots Q (F0 m pc ls (.int i :: .ref (σ k) :: rest)) := by
  obtain ⟨hK, hP, hD, hS, hN⟩ := hW
  exact va_iald S.1 S.2.1 hK hP k 0 (by rw [← cell_i]; exact wd_get hk) rfl hin hdg kk
theorem r_zald (S : CallFix p m c cc nL s args Ts own) (hW : Wd D T L σ M A s H0 H locs) {k n b : Nat} {sl : List (Option Nat)} {i : Int32} (hk : L[k]? = some (2, n, b, sl)) (hin : vp_in i n) (hdg : decode cc pc = .ok (.baload, 1))
    (kk : W p l e R s m args below meth c H locs cells slots Q (F0 m (pc + 1) ls (.int (M.1 k i.toNatClampNeg) :: rest))) : W p l e R s m args below meth c H locs cells slots Q (F0 m pc ls (.int i :: .ref (σ k) :: rest)) := by
  obtain ⟨hK, hP, hD, hS, hN⟩ := hW
  exact va_zald S.1 S.2.1 hK hP k 1 (by rw [← cell_z]; exact wd_get hk) rfl hin hdg kk
theorem r_lald (S : CallFix p m c cc nL s args Ts own) (hW : Wd D T L σ M A s H0 H locs) {k n b : Nat} {sl : List (Option Nat)} {i : Int32} (hk : L[k]? = some (3, n, b, sl)) (hin : vp_in i n) (hdg : decode cc pc = .ok (.laload, 1))
    (kk : W p l e R s m args below meth c H locs cells slots Q (F0 m (pc + 1) ls (.long (M.2 k i.toNatClampNeg) :: rest))) : W p l e R s m args below meth c H locs cells slots Q (F0 m pc ls (.int i :: .ref (σ k) :: rest)) := by
  obtain ⟨hK, hP, hD, hS, hN⟩ := hW
  exact va_lald S.1 S.2.1 hK hP k 2 (by rw [← cell_l]; exact wd_get hk) rfl hin hdg kk
theorem r_iast (S : CallFix p m c cc nL s args Ts own) (hW : Wd D T L σ M A s H0 H locs) {k n b : Nat} {sl : List (Option Nat)} {i x : Int32} (hk : L[k]? = some (1, n, b, sl)) (hin : vp_in i n) (hdg : decode cc pc = .ok (.iastore, 1))
    (kk : ∀ (M1 : Mem) (H1 : Heap) (locs1 : List Loc), M1 = sA M k i.toNatClampNeg x → Wd D T L σ M1 A s H0 H1 locs1 → W p l e R s m args below meth c H1 locs1 cells slots Q (F0 m (pc + 1) ls rest)) : W p l e R s m args below meth c H locs cells slots Q (F0 m pc ls (.int x :: .int i :: .ref (σ k) :: rest)) := by
  obtain ⟨hK, hP, hD, hS, hN⟩ := hW
  refine va_iast S.1 S.2.1 hK hP hD hS k 0 (by rw [← cell_i]; exact wd_get hk) rfl hin hdg (fun H1 locs1 hP1 hD1 hS1 => ?_)
  rw [wd_set (M := M) (M' := sA M k i.toNatClampNeg x) hk (fun k' h => sA_1 k' h) (fun _ _ => rfl) (by rw [cell_i, sA_s])] at hP1 hD1
  exact kk _ H1 locs1 rfl ⟨hK, hP1, hD1, hS1, hN⟩
theorem r_zast (S : CallFix p m c cc nL s args Ts own) (hW : Wd D T L σ M A s H0 H locs) {k n b : Nat} {sl : List (Option Nat)} {i x : Int32} (hk : L[k]? = some (2, n, b, sl)) (hin : vp_in i n) (hdg : decode cc pc = .ok (.bastore, 1))
    (kk : ∀ (M1 : Mem) (H1 : Heap) (locs1 : List Loc), M1 = sA M k i.toNatClampNeg (vp_nar .boolean x) → Wd D T L σ M1 A s H0 H1 locs1 → W p l e R s m args below meth c H1 locs1 cells slots Q (F0 m (pc + 1) ls rest)) : W p l e R s m args below meth c H locs cells slots Q (F0 m pc ls (.int x :: .int i :: .ref (σ k) :: rest)) := by
  obtain ⟨hK, hP, hD, hS, hN⟩ := hW
  refine va_zast S.1 S.2.1 hK hP hD hS k 1 (by rw [← cell_z]; exact wd_get hk) rfl hin hdg (fun H1 locs1 hP1 hD1 hS1 => ?_)
  rw [wd_set (M := M) (M' := sA M k i.toNatClampNeg (vp_nar .boolean x)) hk (fun k' h => sA_1 k' h) (fun _ _ => rfl) (by rw [cell_z, sA_s])] at hP1 hD1
  exact kk _ H1 locs1 rfl ⟨hK, hP1, hD1, hS1, hN⟩
theorem r_last (S : CallFix p m c cc nL s args Ts own) (hW : Wd D T L σ M A s H0 H locs) {k n b : Nat} {sl : List (Option Nat)} {i : Int32} {x : Int64} (hk : L[k]? = some (3, n, b, sl)) (hin : vp_in i n) (hdg : decode cc pc = .ok (.lastore, 1))
    (kk : ∀ (M1 : Mem) (H1 : Heap) (locs1 : List Loc), M1 = sB M k i.toNatClampNeg x → Wd D T L σ M1 A s H0 H1 locs1 → W p l e R s m args below meth c H1 locs1 cells slots Q (F0 m (pc + 1) ls rest)) : W p l e R s m args below meth c H locs cells slots Q (F0 m pc ls (.long x :: .int i :: .ref (σ k) :: rest)) := by
  obtain ⟨hK, hP, hD, hS, hN⟩ := hW
  refine va_last S.1 S.2.1 hK hP hD hS k 2 (by rw [← cell_l]; exact wd_get hk) rfl hin hdg (fun H1 locs1 hP1 hD1 hS1 => ?_)
  rw [wd_set (M := M) (M' := sB M k i.toNatClampNeg x) hk (fun _ _ => rfl) (fun k' h => sB_1 k' h) (by rw [cell_l, sB_s])] at hP1 hD1
  exact kk _ H1 locs1 rfl ⟨hK, hP1, hD1, hS1, hN⟩
theorem r_aald (S : CallFix p m c cc nL s args Ts own) (hW : Wd D T L σ M A s H0 H locs) {k t n b : Nat} {sl : List (Option Nat)} {i : Int32} (hk : L[k]? = some (t + 4, n, b, sl)) (ht : t < 2) (hin : vp_in i n) (hdg : decode cc pc = .ok (.aaload, 1))
    (kk : W p l e R s m args below meth c H locs cells slots Q (F0 m (pc + 1) ls (.ref (σ (b + i.toNatClampNeg)) :: rest))) : W p l e R s m args below meth c H locs cells slots Q (F0 m pc ls (.int i :: .ref (σ k) :: rest)) := by
  obtain ⟨hK, hP, hD, hS, hN⟩ := hW
  have hlt := vp_lt hin
  have ha := hP k (σ k, cellOf T σ M k (t + 4, n, b, sl)) (wd_get hk)
  rw [cell_q] at ha
  have hv : va_rf (if i.toNatClampNeg < n then some (σ (b + i.toNatClampNeg)) else none) = .ref (σ (b + i.toNatClampNeg)) := by rw [if_pos hlt]; rfl
  have hty : ∃ ty : FieldType, (tyT T)[t + 3]? = some (T (t + 4), ty) ∧ ty.isReference = true := by
    rcases (show t = 0 ∨ t = 1 by omega) with rfl | rfl
    · exact ⟨.array .int, rfl, rfl⟩
    · exact ⟨.array .long, rfl, rfl⟩
  obtain ⟨ty, h1, h2⟩ := hty
  rw [← hv] at kk
  exact W.aald (v := va_rf (if i.toNatClampNeg < n then some (σ (b + i.toNatClampNeg)) else none)) (ty := ty) S.1 S.2.1 ha ((hK.2 (t + 3) _ h1).1 n (fun j => va_rf (if j < n then some (σ (b + j)) else none))) h2 (fun q => by cases q) (by show ¬ (i < 0 ∨ (arrV _ _ _).slots.size ≤ _); rw [arrV_size]; exact hin) (by show (arrV _ _ _).slots[_]? = _; rw [arrV_read _ _ hlt]) rfl rfl hdg kk
theorem r_alenI (S : CallFix p m c cc nL s args Ts own) (hW : Wd D T L σ M A s H0 H locs) {k n b : Nat} {sl : List (Option Nat)} (hk : L[k]? = some (1, n, b, sl)) (hdg : decode cc pc = .ok (.arraylength, 1))
    (kk : W p l e R s m args below meth c H locs cells slots Q (F0 m (pc + 1) ls (.int (nI n) :: rest))) : W p l e R s m args below meth c H locs cells slots Q (F0 m pc ls (.ref (σ k) :: rest)) := by
  obtain ⟨hK, hP, hD, hS, hN⟩ := hW
  exact va_alen (x := (n, .inl (M.1 k))) (v := nI n) S.1 S.2.1 hK hP k 0 (by rw [← cell_i]; exact wd_get hk) (ty := .int) rfl rfl hdg kk
theorem r_alenZ (S : CallFix p m c cc nL s args Ts own) (hW : Wd D T L σ M A s H0 H locs) {k n b : Nat} {sl : List (Option Nat)} (hk : L[k]? = some (2, n, b, sl)) (hdg : decode cc pc = .ok (.arraylength, 1))
    (kk : W p l e R s m args below meth c H locs cells slots Q (F0 m (pc + 1) ls (.int (nI n) :: rest))) : W p l e R s m args below meth c H locs cells slots Q (F0 m pc ls (.ref (σ k) :: rest)) := by
  obtain ⟨hK, hP, hD, hS, hN⟩ := hW
  exact va_alen (x := (n, .inl (M.1 k))) (v := nI n) S.1 S.2.1 hK hP k 1 (by rw [← cell_z]; exact wd_get hk) (ty := .boolean) rfl rfl hdg kk
theorem r_alenL (S : CallFix p m c cc nL s args Ts own) (hW : Wd D T L σ M A s H0 H locs) {k n b : Nat} {sl : List (Option Nat)} (hk : L[k]? = some (3, n, b, sl)) (hdg : decode cc pc = .ok (.arraylength, 1))
    (kk : W p l e R s m args below meth c H locs cells slots Q (F0 m (pc + 1) ls (.int (nI n) :: rest))) : W p l e R s m args below meth c H locs cells slots Q (F0 m pc ls (.ref (σ k) :: rest)) := by
  obtain ⟨hK, hP, hD, hS, hN⟩ := hW
  exact va_alen (x := (n, .inr (.inl (M.2 k)))) (v := nI n) S.1 S.2.1 hK hP k 2 (by rw [← cell_l]; exact wd_get hk) (ty := .long) rfl rfl hdg kk
theorem r_max (S : CallFix p m c cc nL s args Ts own) (hl : ls.size = nL) {index : Nat} (hlink : (Cond.methodLink own index Lib.Math.max.name).before args s = true) (hstat : (Cond.static Lib.Math.max.name).before args s = true) (hini : (Cond.initialized "java/lang/Math").before args s = true) (hcode : (Cond.code Lib.Math.max.name Lib.Math.max.code 2 (some .int)).before args s = true)
    (hframes : 1 ≤ R.frames) (hlocals : (rest.map fun v => v.category).sum + 13 ≤ R.locals) (hc : cells ≤ R.cells) (hs : slots ≤ R.slots) {x y : Int32} (hdg : decode cc pc = .ok (.invokestatic index, 3))
    (kk : W p l e R s m args below meth c H locs cells slots Q (F0 m (pc + 3) ls (.int (jmax x y) :: rest))) : W p l e R s m args below meth c H locs cells slots Q (F0 m pc ls (.int y :: .int x :: rest)) :=
  va_mmax S.1 S.2.1 (S.2.2.1.trans hl.symm) S.2.2.2.1 hlink hstat hini hcode hframes hlocals hc hs hdg kk
theorem r_min (S : CallFix p m c cc nL s args Ts own) (hl : ls.size = nL) {index : Nat} (hlink : (Cond.methodLink own index Lib.Math.min.name).before args s = true) (hstat : (Cond.static Lib.Math.min.name).before args s = true) (hini : (Cond.initialized "java/lang/Math").before args s = true) (hcode : (Cond.code Lib.Math.min.name Lib.Math.min.code 2 (some .int)).before args s = true)
    (hframes : 1 ≤ R.frames) (hlocals : (rest.map fun v => v.category).sum + 13 ≤ R.locals) (hc : cells ≤ R.cells) (hs : slots ≤ R.slots) {x y : Int32} (hdg : decode cc pc = .ok (.invokestatic index, 3))
    (kk : W p l e R s m args below meth c H locs cells slots Q (F0 m (pc + 3) ls (.int (jmin x y) :: rest))) : W p l e R s m args below meth c H locs cells slots Q (F0 m pc ls (.int y :: .int x :: rest)) :=
  va_mmin S.1 S.2.1 (S.2.2.1.trans hl.symm) S.2.2.2.1 hlink hstat hini hcode hframes hlocals hc hs hdg kk
theorem sBr_s {M : Mem} {k : Nat} {f : Nat → Int64} : (sBr M k f).2 k = f := if_pos rfl
theorem sBr_1 {M : Mem} {k : Nat} {f : Nat → Int64} (k' : Nat) (h : k' ≠ k) : (sBr M k f).2 k' = M.2 k' := if_neg h
theorem r_acopy (S : CallFix p m c cc nL s args Ts own) (hl : ls.size = nL) (hW : Wd D T L σ M A s H0 H locs) {index k0 k1 n0 n1 b0 b1 : Nat} {sl0 sl1 : List (Option Nat)} {sp dp n : Int32} (hlink : (Cond.methodLink own index arraycopyName).before args s = true) (hnat : (Cond.native arraycopyName).before args s = true) (hstat : (Cond.static arraycopyName).before args s = true) (hini : (Cond.initialized "java/lang/System").before args s = true)
    (hk0 : L[k0]? = some (3, n0, b0, sl0)) (hk1 : L[k1]? = some (3, n1, b1, sl1)) (hb : ¬ sp < 0 ∧ ¬ dp < 0 ∧ ¬ n < 0 ∧ sp.toNatClampNeg + n.toNatClampNeg ≤ n0 ∧ dp.toNatClampNeg + n.toNatClampNeg ≤ n1)
    (hframes : 1 ≤ R.frames) (hlocals : (rest.map fun v => v.category).sum + (nativeFrameWords "java/lang/System" "arraycopy" 5 + 11) ≤ R.locals) (hdg : decode cc pc = .ok (.invokestatic index, 3))
    (kk : ∀ (M1 : Mem) (H1 : Heap) (locs1 : List Loc), M1 = sBr M k1 (va_cpy (M.2 k0) (M.2 k1) sp.toNatClampNeg dp.toNatClampNeg n.toNatClampNeg) → Wd D T L σ M1 A s H0 H1 locs1 → W p l e R s m args below meth c H1 locs1 cells slots Q (F0 m (pc + 3) ls rest)) : W p l e R s m args below meth c H locs cells slots Q (F0 m pc ls (.int n :: .int dp :: .ref (σ k1) :: .int sp :: .ref (σ k0) :: rest)) := by
  obtain ⟨hK, hP, hD, hS, hN⟩ := hW
  refine va_copyl S.1 S.2.1 (S.2.2.1.trans hl.symm) S.2.2.2.1 hlink hnat hstat hini hK hP hD hS k0 k1 2 2 (ty := .long) (by rw [← cell_l]; exact wd_get hk0) (by rw [← cell_l]; exact wd_get hk1) rfl rfl rfl hb.1 hb.2.1 hb.2.2.1 hb.2.2.2.1 hb.2.2.2.2 (fun _ _ => rfl) hframes hlocals hdg (fun H1 locs1 hP1 hD1 hS1 => ?_)
  rw [wd_set (M := M) (M' := sBr M k1 (va_cpy (M.2 k0) (M.2 k1) sp.toNatClampNeg dp.toNatClampNeg n.toNatClampNeg)) hk1 (fun _ _ => rfl) (fun k' h => sBr_1 k' h) (by rw [cell_l, sBr_s])] at hP1 hD1
  exact kk _ H1 locs1 rfl ⟨hK, hP1, hD1, hS1, hN⟩
end RR
section RC
variable {p : Program} {l : Launch} {e : Env} {R : Room} {s : State} {m : MethodId} {args a : Array Value} {below : List Frame} {meth : Method} {c : Code} {H H0 : Heap} {locs : List Loc} {cells slots : Nat} {Q : State → Prop}
variable {cc : ByteArray} {pc nL : Nat} {ls : Array Slot} {rest st As : List Value} {own C : String} {Ts : List Cond} {D : va_G} {T : Nat → ClassId} {L : Lay} {σ : Nat → Nat} {M : Mem} {A : Nat → Prop}
variable {y : MethodName} {ws : List Cond} {rm : Room} {bytes : ByteArray} {maxL n index : Nat} {ret : Option FieldType} {Qc : Array Value → State → Outcome → State → Prop}
theorem r_runV (S : CallFix p m c cc nL s args Ts own) (hW : Wd D T L σ M A s H0 H locs) {TX : u_T} {N ci k b : Nat} {sl : List (Option Nat)} (hM : Met l y ws rm (preW D T L σ (.ref (σ k) :: As) M) Qc 0 0 (fA L σ)) (cw : CallW R s args own C index y bytes maxL ret ws rm 0 0 n) (hc : vwCl[ci]? = some (C, TX, N)) (hk : L[k]? = some (0, ci, b, sl))
    (hn : As.length = n) (hls : ls.size = nL) (hst : st = As.reverse ++ .ref (σ k) :: rest) (hcat : (rest.map fun v => v.category).sum ≤ 8) (hdg : decode cc pc = .ok (.invokevirtual index, 3)) (hf : cells ≤ R.cells ∧ slots ≤ R.slots) :
    va_Run p l e R s m args below meth c H locs cells slots 0 0 (F0 m pc ls st) rest (Qc (Value.ref (σ k) :: As).toArray) (fA L σ) := by
  obtain ⟨hK, hP, hD, hS, hN⟩ := hW
  have hq : (wd T L σ M)[k]? = some (σ k, .inr (ci, flds σ (M.1 k) sl)) := by rw [← cell_o]; exact wd_get hk
  exact va_runV S hM cw ⟨preW_blind, va_recv hK hP hc hq, fun U hU hWm => ⟨rfl, by rw [hU]; exact hP, va_K.moved hWm.alike hK, hD.weaken (fun _ _ _ _ => trivial), NW.warm hWm hN⟩⟩ rfl hn hls hst (lv_room hcat) hdg hf
theorem r_runS (S : CallFix p m c cc nL s args Ts own) (hW : Wd D T L σ M A s H0 H locs) (hM : Met l y ws rm (preW D T L σ As M) Qc 0 0 (fA L σ)) (cw : CallB R s args own index y bytes maxL ret ws rm 0 0 n ∧ (Cond.static y).before args s = true)
    (hn : As.length = n) (hls : ls.size = nL) (hst : st = As.reverse ++ rest) (hcat : (rest.map fun v => v.category).sum ≤ 8) (hdg : decode cc pc = .ok (.invokestatic index, 3)) (hf : cells ≤ R.cells ∧ slots ≤ R.slots) :
    va_Run p l e R s m args below meth c H locs cells slots 0 0 (F0 m pc ls st) rest (Qc As.toArray) (fA L σ) := by
  obtain ⟨hK, hP, hD, hS, hN⟩ := hW
  exact va_runS S hM cw ⟨preW_blind, fun U hU hWm => ⟨rfl, by rw [hU]; exact hP, va_K.moved hWm.alike hK, hD.weaken (fun _ _ _ _ => trivial), NW.warm hWm hN⟩⟩ rfl hn hls hst (lv_room hcat) hdg hf
theorem r_runN (S : CallFix p m c cc nL s args Ts own) (hW : Wd D T L σ M A s H0 H locs) {host : String} (hM : Met l y ws rm (preW D T L σ As M) Qc 0 0 (fA L σ)) (cw : va_CN R s args own index y host bytes maxL ret ws rm 0 0 n) (hstat : (Cond.static y).before args s = true)
    (hn : As.length = n) (hls : ls.size = nL) (hst : st = As.reverse ++ rest) (hcat : (rest.map fun v => v.category).sum ≤ 8) (hdg : decode cc pc = .ok (.invokestatic index, 3)) (hf : cells ≤ R.cells ∧ slots ≤ R.slots) :
    va_Run p l e R s m args below meth c H locs cells slots 0 0 (F0 m pc ls st) rest (Qc As.toArray) (fA L σ) := by
  obtain ⟨hK, hP, hD, hS, hN⟩ := hW
  exact va_runSN S hM ⟨cw, hstat, trivial⟩ ⟨preW_blind, fun U hU hWm => ⟨rfl, by rw [hU]; exact hP, va_K.moved hWm.alike hK, hD.weaken (fun _ _ _ _ => trivial), NW.warm hWm hN⟩⟩ rfl hn hls hst (lv_room hcat) hdg hf
theorem r_goI {post : Int32 → Mem → Prop} (hr : va_Run p l e R s m args below meth c H locs cells slots 0 0 (F0 m pc ls st) rest (postI D T L σ post a) (fA L σ)) (hW : Wd D T L σ M A s H0 H locs)
    (kk : ∀ (r : Int32) (M1 : Mem) (H1 : Heap) (locs1 : List Loc), post r M1 → Wd D T L σ M1 A s H0 H1 locs1 → W p l e R s m args below meth c H1 locs1 cells slots Q (F0 m (pc + 3) ls (.int r :: rest))) : W p l e R s m args below meth c H locs cells slots Q (F0 m pc ls st) := by
  obtain ⟨hK, hP, hD, hS, hN⟩ := hW
  refine va_calli hr hS (fun q _ h => fA_in hD q h) (fun q h => fA_in hD q h) (fun r M1 t H1 locs1 ht hvm hp hB hz hk hS1 => ?_)
  obtain ⟨hP1, hK1⟩ := hB
  rw [ht] at hP1
  exact kk r M1 H1 locs1 hp ⟨hK, hP1, wd_D hD, hS1, hN⟩
theorem r_goL {post : Int64 → Mem → Prop} (hr : va_Run p l e R s m args below meth c H locs cells slots 0 0 (F0 m pc ls st) rest (postL D T L σ post a) (fA L σ)) (hW : Wd D T L σ M A s H0 H locs)
    (kk : ∀ (r : Int64) (M1 : Mem) (H1 : Heap) (locs1 : List Loc), post r M1 → Wd D T L σ M1 A s H0 H1 locs1 → W p l e R s m args below meth c H1 locs1 cells slots Q (F0 m (pc + 3) ls (.long r :: rest))) : W p l e R s m args below meth c H locs cells slots Q (F0 m pc ls st) := by
  obtain ⟨hK, hP, hD, hS, hN⟩ := hW
  refine va_calll hr hS (fun q _ h => fA_in hD q h) (fun q h => fA_in hD q h) (fun r M1 t H1 locs1 ht hvm hp hB hz hk hS1 => ?_)
  obtain ⟨hP1, hK1⟩ := hB
  rw [ht] at hP1
  exact kk r M1 H1 locs1 hp ⟨hK, hP1, wd_D hD, hS1, hN⟩
theorem r_goV {post : Mem → Prop} (hr : va_Run p l e R s m args below meth c H locs cells slots 0 0 (F0 m pc ls st) rest (postV D T L σ post a) (fA L σ)) (hW : Wd D T L σ M A s H0 H locs)
    (kk : ∀ (M1 : Mem) (H1 : Heap) (locs1 : List Loc), post M1 → Wd D T L σ M1 A s H0 H1 locs1 → W p l e R s m args below meth c H1 locs1 cells slots Q (F0 m (pc + 3) ls rest)) : W p l e R s m args below meth c H locs cells slots Q (F0 m pc ls st) := by
  obtain ⟨hK, hP, hD, hS, hN⟩ := hW
  refine va_callv hr hS (fun q _ h => fA_in hD q h) (fun q h => fA_in hD q h) (fun M1 t H1 locs1 ht hvm hp hB hz hk hS1 => ?_)
  obtain ⟨hP1, hK1⟩ := hB
  rw [ht] at hP1
  exact kk M1 H1 locs1 hp ⟨hK, hP1, wd_D hD, hS1, hN⟩
theorem r_iret {post : Int32 → Mem → Prop} {v : Int32} (S : CallFix p m c cc nL s args Ts own) (hr : meth.sig.returnType = some .int) (hlk : meth.locks = false) (hW : Wd D T L σ M (fA L σ) s s.heap H locs) (h : post v M) (hdg : decode cc pc = .ok (.ireturn, 1)) :
    W p l e R s m args below meth c H locs cells slots (MQ below (postI D T L σ post) args s cells slots (fA L σ)) (F0 m pc ls [.int v]) :=
  W.iret S.1 S.2.1 hr (fun t ht hWm => ⟨⟨v, M, rfl, h, by rw [ht]; exact hW.2.1, va_K.moved hWm.alike hW.1⟩, hW.2.2.2.1.F ht⟩) hW.2.2.2.1.2.2 hdg hlk
theorem r_zret {post : Int32 → Mem → Prop} {v : Int32} (S : CallFix p m c cc nL s args Ts own) (hr : meth.sig.returnType = some .boolean) (hlk : meth.locks = false) (hW : Wd D T L σ M (fA L σ) s s.heap H locs) (hz : zb v) (h : post v M) (hdg : decode cc pc = .ok (.ireturn, 1)) :
    W p l e R s m args below meth c H locs cells slots (MQ below (postI D T L σ post) args s cells slots (fA L σ)) (F0 m pc ls [.int v]) :=
  W.zret S.1 S.2.1 hr hz (fun t ht hWm => ⟨⟨v, M, rfl, h, by rw [ht]; exact hW.2.1, va_K.moved hWm.alike hW.1⟩, hW.2.2.2.1.F ht⟩) hW.2.2.2.1.2.2 hdg hlk
theorem r_lret {post : Int64 → Mem → Prop} {v : Int64} (S : CallFix p m c cc nL s args Ts own) (hr : meth.sig.returnType = some .long) (hlk : meth.locks = false) (hW : Wd D T L σ M (fA L σ) s s.heap H locs) (h : post v M) (hdg : decode cc pc = .ok (.lreturn, 1)) :
    W p l e R s m args below meth c H locs cells slots (MQ below (postL D T L σ post) args s cells slots (fA L σ)) (F0 m pc ls [.long v]) :=
  W.lret S.1 S.2.1 hr (fun t ht hWm => ⟨⟨v, M, rfl, h, by rw [ht]; exact hW.2.1, va_K.moved hWm.alike hW.1⟩, hW.2.2.2.1.F ht⟩) hW.2.2.2.1.2.2 hdg hlk
theorem r_vret {post : Mem → Prop} (S : CallFix p m c cc nL s args Ts own) (hr : meth.sig.returnType = none) (hlk : meth.locks = false) (hW : Wd D T L σ M (fA L σ) s s.heap H locs) (h : post M) (hdg : decode cc pc = .ok (.return_, 1)) :
    W p l e R s m args below meth c H locs cells slots (MQ below (postV D T L σ post) args s cells slots (fA L σ)) (F0 m pc ls []) :=
  W.vret S.1 S.2.1 hr (fun t ht hWm => ⟨⟨M, rfl, h, by rw [ht]; exact hW.2.1, va_K.moved hWm.alike hW.1⟩, hW.2.2.2.1.F ht⟩) hW.2.2.2.1.2.2 hdg hlk
theorem r_ts {hi dflt : Int} {offs : Array Int} {len : Nat} {x : Int32} (S : CallFix p m c cc nL s args Ts own) (hdg : decode cc pc = .ok (.tableswitch dflt 0 hi offs, len)) (hsz : hi < offs.size)
    (kin : ∀ (k : Nat) (off : Int), offs[k]? = some off → x.toInt = k → W p l e R s m args below meth c H locs cells slots Q (F0 m ((pc : Int) + off).toNat ls rest)) (hoff : ∀ o ∈ offs, 0 ≤ (pc : Int) + o) (hdf : 0 ≤ (pc : Int) + dflt)
    (kout : (x.toInt < 0 ∨ hi < x.toInt) → W p l e R s m args below meth c H locs cells slots Q (F0 m ((pc : Int) + dflt).toNat ls rest)) : W p l e R s m args below meth c H locs cells slots Q (F0 m pc ls (.int x :: rest)) := by
  by_cases h1 : x.toInt < 0
  · exact lv_tableOut S.1 S.2.1 hdg (Or.inl h1) (by omega) (kout (Or.inl h1))
  · by_cases h2 : hi < x.toInt
    · exact lv_tableOut S.1 S.2.1 hdg (Or.inr h2) (by omega) (kout (Or.inr h2))
    · have hlt : x.toInt.toNat < offs.size := by omega
      have ho : offs[x.toInt.toNat]? = some offs[x.toInt.toNat] := Array.getElem?_eq_getElem hlt
      have hp := hoff _ (Array.getElem_mem hlt)
      exact lv_tableIn S.1 S.2.1 hdg h1 h2 (by rw [Int.sub_zero]; exact ho) (by omega) (kin _ _ ho (by omega))
end RC
theorem m_of {y : MethodName} {ws ws' : List Cond} {rm : Room} {cc : ByteArray} {maxL : Nat} {ret : Option FieldType} {own : String} {l : Launch} {D : va_G} {T : Nat → ClassId} {L : Lay} {σ : Nat → Nat} {M : Mem} {av : List Value} {Qc : Array Value → State → Outcome → State → Prop} (hy : plainName y.cls = true) (hw : ws = Cond.code y cc maxL ret :: ws') (hown : y.cls = own) (hlen : (lg_sl av).length ≤ maxL)
    (body : ∀ (p : Program) (e : Env) (s : State) (m : MethodId) (args : Array Value) (below : List Frame) (meth : Method) (c : Code) (H : Heap) (ls : Array Slot) (locs : List Loc), CallFix p m c cc maxL s args ws own → meth.sig.returnType = ret → meth.locks = false → lv_has ls maxL (lv_args 0 av) → Wd D T L σ M (fA L σ) s s.heap H locs →
      W p l e rm s m args below meth c H locs 0 0 (MQ below Qc args s 0 0 (fA L σ)) (F0 m 0 ls [])) : Met l y ws rm (preW D T L σ av M) Qc 0 0 (fA L σ) := by
  refine Met.ofW (cc := cc) (maxL := maxL) (ret := ret) hy hw ?_
  intro p e s m args below meth c s₁ B hml hv
  obtain ⟨rfl, hP, hK, hD, hN⟩ := hv
  have hts := atoms_spec (ws := ws) B.pre
  have hf : s.vm.findClass own = some m.cls := by rw [← hown]; exact findClass_of_methodNamed B.named
  have hl := lv_entry av (n := maxL) hlen
  rw [lg_entry_eq]
  exact body p e s m _ below meth c s.heap _ [] ⟨B.exec, B.bytes, hml, hf, hts⟩ B.returns B.notSynchronized hl ⟨hK, hP, fA_self hD, va_S.rf, hN⟩
/-- what holds at a cut point of a method: from the world M, with these locals and this stack, the method comes to its end -/
def WW (p : Program) (l : Launch) (e : Env) (R : Room) (s : State) (m : MethodId) (args : Array Value) (below : List Frame) (meth : Method) (c : Code) (D : va_G) (T : Nat → ClassId) (L : Lay) (σ : Nat → Nat) (nL : Nat) (Q : State → Prop) (pc : Nat) (lv : List (Nat × Value)) (st : List Value) (M : Mem) : Prop :=
  ∀ (H : Heap) (locs : List Loc) (ls : Array Slot), Wd D T L σ M (fA L σ) s s.heap H locs → lv_has ls nL lv → W p l e R s m args below meth c H locs 0 0 Q (F0 m pc ls st)
end
section
def LH : Lay := [(0, 6, 0, [some 1, some 2, some 3, some 4, some 5, none]), (0, 4, 0, [some 7, some 8, some 9]), (0, 1, 0, [none, none, some 10, some 11, none, some 12, some 13, some 14, some 15, some 16, some 17, some 18, none]), (0, 3, 0, [none, none, some 19, some 20, some 21, some 22, some 23, some 6, none]), (0, 5, 0, [none, none, none, none, none, some 24]), (0, 2, 0, [none, none, some 25, none, some 26, some 27, some 28, some 29, some 30, some 31, some 32, none]), (0, 0, 0, [none, some 33, some 34, some 35]), (5, 6, 36, []), (1, 6, 0, []), (1, 6, 0, []), (1, 12, 0, []), (1, 4, 0, []), (1, 10, 0, []), (1, 10, 0, []), (1, 24, 0, []), (1, 1024, 0, []), (2, 1024, 0, []), (2, 1024, 0, []), (1, 1024, 0, []), (4, 8, 42, []), (1, 8, 0, []), (1, 8, 0, []), (1, 8, 0, []), (1, 8, 0, []), (1, 20, 0, []), (4, 12, 50, []), (1, 12, 0, []), (1, 4, 0, []), (1, 4, 0, []), (1, 4, 0, []), (4, 4, 62, []), (1, 501, 0, []), (3, 384, 0, []), (4, 34, 66, []), (1, 34, 0, []), (1, 34, 0, []), (3, 64, 0, []), (3, 64, 0, []), (3, 64, 0, []), (3, 64, 0, []), (3, 64, 0, []), (3, 64, 0, []), (1, 24, 0, []), (1, 24, 0, []), (1, 24, 0, []), (1, 24, 0, []), (1, 24, 0, []), (1, 24, 0, []), (1, 24, 0, []), (1, 24, 0, []), (1, 4, 0, []), (1, 4, 0, []), (1, 4, 0, []), (1, 4, 0, []), (1, 4, 0, []), (1, 4, 0, []), (1, 4, 0, []), (1, 4, 0, []), (1, 4, 0, []), (1, 4, 0, []), (1, 4, 0, []), (1, 4, 0, []), (1, 12, 0, []), (1, 12, 0, []), (1, 12, 0, []), (1, 12, 0, []), (1, 34, 0, []), (1, 34, 0, []), (1, 34, 0, []), (1, 34, 0, []), (1, 34, 0, []), (1, 34, 0, []), (1, 34, 0, []), (1, 34, 0, []), (1, 34, 0, []), (1, 34, 0, []), (1, 34, 0, []), (1, 34, 0, []), (1, 34, 0, []), (1, 34, 0, []), (1, 34, 0, []), (1, 34, 0, []), (1, 34, 0, []), (1, 34, 0, []), (1, 34, 0, []), (1, 34, 0, []), (1, 34, 0, []), (1, 34, 0, []), (1, 34, 0, []), (1, 34, 0, []), (1, 34, 0, []), (1, 34, 0, []), (1, 34, 0, []), (1, 34, 0, []), (1, 34, 0, []), (1, 34, 0, []), (1, 34, 0, []), (1, 34, 0, []), (1, 34, 0, []), (1, 34, 0, [])]
theorem LH_0 : LH[0]? = some (0, 6, 0, [some 1, some 2, some 3, some 4, some 5, none]) := rfl
theorem LH_1 : LH[1]? = some (0, 4, 0, [some 7, some 8, some 9]) := rfl
theorem LH_2 : LH[2]? = some (0, 1, 0, [none, none, some 10, some 11, none, some 12, some 13, some 14, some 15, some 16, some 17, some 18, none]) := rfl
theorem LH_3 : LH[3]? = some (0, 3, 0, [none, none, some 19, some 20, some 21, some 22, some 23, some 6, none]) := rfl
theorem LH_4 : LH[4]? = some (0, 5, 0, [none, none, none, none, none, some 24]) := rfl
theorem LH_5 : LH[5]? = some (0, 2, 0, [none, none, some 25, none, some 26, some 27, some 28, some 29, some 30, some 31, some 32, none]) := rfl
theorem LH_6 : LH[6]? = some (0, 0, 0, [none, some 33, some 34, some 35]) := rfl
theorem LH_7 : LH[7]? = some (5, 6, 36, []) := rfl
theorem LHr_7 {i : Nat} (h : i < 6) : LH[36 + i]? = some (3, 64, 0, []) := match i, h with
  | 0, _ => rfl
  | 1, _ => rfl
  | 2, _ => rfl
  | 3, _ => rfl
  | 4, _ => rfl
  | 5, _ => rfl
  | n + 6, h => absurd h (by omega)
theorem LH_8 : LH[8]? = some (1, 6, 0, []) := rfl
theorem LH_9 : LH[9]? = some (1, 6, 0, []) := rfl
theorem LH_10 : LH[10]? = some (1, 12, 0, []) := rfl
theorem LH_11 : LH[11]? = some (1, 4, 0, []) := rfl
theorem LH_12 : LH[12]? = some (1, 10, 0, []) := rfl
theorem LH_13 : LH[13]? = some (1, 10, 0, []) := rfl
theorem LH_14 : LH[14]? = some (1, 24, 0, []) := rfl
theorem LH_15 : LH[15]? = some (1, 1024, 0, []) := rfl
theorem LH_16 : LH[16]? = some (2, 1024, 0, []) := rfl
theorem LH_17 : LH[17]? = some (2, 1024, 0, []) := rfl
theorem LH_18 : LH[18]? = some (1, 1024, 0, []) := rfl
theorem LH_19 : LH[19]? = some (4, 8, 42, []) := rfl
theorem LHr_19 {i : Nat} (h : i < 8) : LH[42 + i]? = some (1, 24, 0, []) := match i, h with
  | 0, _ => rfl
  | 1, _ => rfl
  | 2, _ => rfl
  | 3, _ => rfl
  | 4, _ => rfl
  | 5, _ => rfl
  | 6, _ => rfl
  | 7, _ => rfl
  | n + 8, h => absurd h (by omega)
theorem LH_20 : LH[20]? = some (1, 8, 0, []) := rfl
theorem LH_21 : LH[21]? = some (1, 8, 0, []) := rfl
theorem LH_22 : LH[22]? = some (1, 8, 0, []) := rfl
theorem LH_23 : LH[23]? = some (1, 8, 0, []) := rfl
theorem LH_24 : LH[24]? = some (1, 20, 0, []) := rfl
theorem LH_25 : LH[25]? = some (4, 12, 50, []) := rfl
theorem LHr_25 {i : Nat} (h : i < 12) : LH[50 + i]? = some (1, 4, 0, []) := match i, h with
  | 0, _ => rfl
  | 1, _ => rfl
  | 2, _ => rfl
  | 3, _ => rfl
  | 4, _ => rfl
  | 5, _ => rfl
  | 6, _ => rfl
  | 7, _ => rfl
  | 8, _ => rfl
  | 9, _ => rfl
  | 10, _ => rfl
  | 11, _ => rfl
  | n + 12, h => absurd h (by omega)
theorem LH_26 : LH[26]? = some (1, 12, 0, []) := rfl
theorem LH_27 : LH[27]? = some (1, 4, 0, []) := rfl
theorem LH_28 : LH[28]? = some (1, 4, 0, []) := rfl
theorem LH_29 : LH[29]? = some (1, 4, 0, []) := rfl
theorem LH_30 : LH[30]? = some (4, 4, 62, []) := rfl
theorem LHr_30 {i : Nat} (h : i < 4) : LH[62 + i]? = some (1, 12, 0, []) := match i, h with
  | 0, _ => rfl
  | 1, _ => rfl
  | 2, _ => rfl
  | 3, _ => rfl
  | n + 4, h => absurd h (by omega)
theorem LH_31 : LH[31]? = some (1, 501, 0, []) := rfl
theorem LH_32 : LH[32]? = some (3, 384, 0, []) := rfl
theorem LH_33 : LH[33]? = some (4, 34, 66, []) := rfl
theorem LHr_33 {i : Nat} (h : i < 34) : LH[66 + i]? = some (1, 34, 0, []) := match i, h with
  | 0, _ => rfl
  | 1, _ => rfl
  | 2, _ => rfl
  | 3, _ => rfl
  | 4, _ => rfl
  | 5, _ => rfl
  | 6, _ => rfl
  | 7, _ => rfl
  | 8, _ => rfl
  | 9, _ => rfl
  | 10, _ => rfl
  | 11, _ => rfl
  | 12, _ => rfl
  | 13, _ => rfl
  | 14, _ => rfl
  | 15, _ => rfl
  | 16, _ => rfl
  | 17, _ => rfl
  | 18, _ => rfl
  | 19, _ => rfl
  | 20, _ => rfl
  | 21, _ => rfl
  | 22, _ => rfl
  | 23, _ => rfl
  | 24, _ => rfl
  | 25, _ => rfl
  | 26, _ => rfl
  | 27, _ => rfl
  | 28, _ => rfl
  | 29, _ => rfl
  | 30, _ => rfl
  | 31, _ => rfl
  | 32, _ => rfl
  | 33, _ => rfl
  | n + 34, h => absurd h (by omega)
theorem LH_34 : LH[34]? = some (1, 34, 0, []) := rfl
theorem LH_35 : LH[35]? = some (1, 34, 0, []) := rfl
def LM : Lay := [(0, 7, 0, [none, some 1, some 2, some 3, none, none, none, none, some 4, some 5, some 6, some 7, some 8, some 9, some 10, some 11, some 12, some 13, some 14, some 15, some 16, some 17, some 18, some 19, some 20, some 21, some 22, some 23, some 24, some 25, none, none, none, none, none, some 26, some 27, some 28, some 29, some 30, none, some 31]), (1, 6, 0, []), (1, 6, 0, []), (3, 384, 0, []), (1, 12, 0, []), (1, 12, 0, []), (2, 12, 0, []), (1, 10, 0, []), (1, 10, 0, []), (1, 10, 0, []), (1, 10, 0, []), (1, 1024, 0, []), (2, 1024, 0, []), (2, 13312, 0, []), (1, 8, 0, []), (1, 8, 0, []), (1, 8, 0, []), (1, 8, 0, []), (1, 192, 0, []), (1, 24, 0, []), (1, 24, 0, []), (1, 8, 0, []), (2, 192, 0, []), (1, 34, 0, []), (1, 34, 0, []), (1, 20, 0, []), (1, 12, 0, []), (1, 4, 0, []), (1, 4, 0, []), (1, 4, 0, []), (1, 48, 0, []), (1, 24549, 0, [])]
theorem LM_0 : LM[0]? = some (0, 7, 0, [none, some 1, some 2, some 3, none, none, none, none, some 4, some 5, some 6, some 7, some 8, some 9, some 10, some 11, some 12, some 13, some 14, some 15, some 16, some 17, some 18, some 19, some 20, some 21, some 22, some 23, some 24, some 25, none, none, none, none, none, some 26, some 27, some 28, some 29, some 30, none, some 31]) := rfl
theorem LM_1 : LM[1]? = some (1, 6, 0, []) := rfl
theorem LM_2 : LM[2]? = some (1, 6, 0, []) := rfl
theorem LM_3 : LM[3]? = some (3, 384, 0, []) := rfl
theorem LM_4 : LM[4]? = some (1, 12, 0, []) := rfl
theorem LM_5 : LM[5]? = some (1, 12, 0, []) := rfl
theorem LM_6 : LM[6]? = some (2, 12, 0, []) := rfl
theorem LM_7 : LM[7]? = some (1, 10, 0, []) := rfl
theorem LM_8 : LM[8]? = some (1, 10, 0, []) := rfl
theorem LM_9 : LM[9]? = some (1, 10, 0, []) := rfl
theorem LM_10 : LM[10]? = some (1, 10, 0, []) := rfl
theorem LM_11 : LM[11]? = some (1, 1024, 0, []) := rfl
theorem LM_12 : LM[12]? = some (2, 1024, 0, []) := rfl
theorem LM_13 : LM[13]? = some (2, 13312, 0, []) := rfl
theorem LM_14 : LM[14]? = some (1, 8, 0, []) := rfl
theorem LM_15 : LM[15]? = some (1, 8, 0, []) := rfl
theorem LM_16 : LM[16]? = some (1, 8, 0, []) := rfl
theorem LM_17 : LM[17]? = some (1, 8, 0, []) := rfl
theorem LM_18 : LM[18]? = some (1, 192, 0, []) := rfl
theorem LM_19 : LM[19]? = some (1, 24, 0, []) := rfl
theorem LM_20 : LM[20]? = some (1, 24, 0, []) := rfl
theorem LM_21 : LM[21]? = some (1, 8, 0, []) := rfl
theorem LM_22 : LM[22]? = some (2, 192, 0, []) := rfl
theorem LM_23 : LM[23]? = some (1, 34, 0, []) := rfl
theorem LM_24 : LM[24]? = some (1, 34, 0, []) := rfl
theorem LM_25 : LM[25]? = some (1, 20, 0, []) := rfl
theorem LM_26 : LM[26]? = some (1, 12, 0, []) := rfl
theorem LM_27 : LM[27]? = some (1, 4, 0, []) := rfl
theorem LM_28 : LM[28]? = some (1, 4, 0, []) := rfl
theorem LM_29 : LM[29]? = some (1, 4, 0, []) := rfl
theorem LM_30 : LM[30]? = some (1, 48, 0, []) := rfl
theorem LM_31 : LM[31]? = some (1, 24549, 0, []) := rfl
def qX6_status  (M : Mem) (post : Int32 → Mem → Prop) : Prop :=
  post (M.1 0 5) M
def qX6_within (a0 : Int64) (a2 : Int32) (a3 : Int32) (M : Mem) (post : Int32 → Mem → Prop) : Prop :=
  ((lg_cmp a0 (a2.toInt64)) < 0 → post (0 : Int32) M) ∧ (¬ (lg_cmp a0 (a2.toInt64)) < 0 → (0 < (lg_cmp a0 (a3.toInt64)) → post (0 : Int32) M) ∧ (¬ 0 < (lg_cmp a0 (a3.toInt64)) → post (1 : Int32) M))
def qX4_isNumber (a0 : Int32) (M : Mem) (post : Int32 → Mem → Prop) : Prop :=
  qX6_within (a0.toInt64) (0 : Int32) (5 : Int32) M (fun r1 M2 => zb r1 ∧ post r1 M2)
def qX6_refuse (a1 : Int32) (M : Mem) (post : Int32 → Mem → Prop) : Prop :=
  ∀ M1 : Mem, M1 = sA M 0 5 a1 → post (0 : Int32) M1
def qJ7_fill_d0a16_b6 (k n : Nat) (a1 : Int64) (post : Mem → Prop) (R6 : Int32 → Int32 → Mem → Prop) (x3 : Int32) (x4 : Int32) (M : Mem) : Prop :=
  (x4 ≤ x3 → post M) ∧ (¬ x4 ≤ x3 → vp_in x3 n ∧ ∀ M4 : Mem, M4 = sB M k x3.toNatClampNeg a1 → ∀ v5 : Int32, v5 = x3 + 1 → R6 v5 x4 M4)
def qJ7_fill_d0a16 (k n : Nat) (a1 : Int64) (M : Mem) (post : Mem → Prop) : Prop :=
  ∀ (R6 : Int32 → Int32 → Mem → Prop), (∀ x3 x4 M, qJ7_fill_d0a16_b6 k n a1 post R6 x3 x4 M → R6 x3 x4 M) → ∀ v1 : Int32, v1 = (nI n) → R6 (0 : Int32) v1 M
def qX4_make (a1 : Int32) (a2 : Int32) (a3 : Int32) (M : Mem) (post : Mem → Prop) : Prop :=
  vp_in a1 6 ∧ qJ7_fill_d0a16 (36 + a1.toNatClampNeg) 64 (0 : Int64) M (fun M3 => vp_in a1 6 ∧ ∀ M5 : Mem, M5 = sA M3 8 a1.toNatClampNeg a2 → vp_in a1 6 ∧ ∀ M7 : Mem, M7 = sA M5 9 a1.toNatClampNeg a3 → post M7)
def qX6_agree  (M : Mem) (post : Int32 → Mem → Prop) : Prop :=
  ∀ M1 : Mem, M1 = sA M 0 5 (0 : Int32) → post (1 : Int32) M1
def qX6_sheet (a1 : Int32) (a2 : Int32) (a3 : Int32) (M : Mem) (post : Int32 → Mem → Prop) : Prop :=
  qX4_isNumber a1 M (fun r1 M2 => (r1 = 0 → qX6_refuse (1 : Int32) M2 (fun r4 M5 => zb r4 ∧ post r4 M5)) ∧ (¬ r1 = 0 → qX6_within (a2.toInt64) (0 : Int32) (3 : Int32) M2 (fun r6 M7 => (r6 = 0 → qX6_refuse (1 : Int32) M7 (fun r9 M10 => zb r9 ∧ post r9 M10)) ∧ (¬ r6 = 0 → qX6_within (a3.toInt64) (0 : Int32) (64 : Int32) M7 (fun r11 M12 => (¬ r11 = 0 → qX4_make a1 a2 a3 M12 (fun M15 => qX6_agree M15 (fun r16 M17 => zb r16 ∧ post r16 M17))) ∧ (r11 = 0 → qX6_refuse (1 : Int32) M12 (fun r18 M19 => zb r18 ∧ post r18 M19)))))))
def qX4_isMissing (a1 : Int32) (M : Mem) (post : Int32 → Mem → Prop) : Prop :=
  vp_in a1 6 ∧ (¬ (M.1 9 a1.toNatClampNeg) = (-1 : Int32) → post (0 : Int32) M) ∧ ((M.1 9 a1.toNatClampNeg) = (-1 : Int32) → post (1 : Int32) M)
def qX4_whyNoPlace (a1 : Int32) (a2 : Int32) (M : Mem) (post : Int32 → Mem → Prop) : Prop :=
  qX4_isNumber a1 M (fun r1 M2 => (¬ r1 = 0 → qX4_isMissing a1 M2 (fun r4 M5 => (r4 = 0 → vp_in a1 6 ∧ qX6_within (a2.toInt64) (0 : Int32) ((M5.1 9 a1.toNatClampNeg) - (1 : Int32)) M5 (fun r8 M9 => (r8 = 0 → post (3 : Int32) M9) ∧ (¬ r8 = 0 → post (0 : Int32) M9))) ∧ (¬ r4 = 0 → post (2 : Int32) M5))) ∧ (r1 = 0 → post (1 : Int32) M2))
def qX4_cut (a0 : Int64) (a2 : Int32) (M : Mem) (post : Int64 → Mem → Prop) : Prop :=
  (a2.toInt = 0 → post (((a0.toInt32).toInt8.toInt32).toInt64) M) ∧ (a2.toInt = 1 → post (((a0.toInt32).toInt16.toInt32).toInt64) M) ∧ (a2.toInt = 2 → post ((a0.toInt32).toInt64) M) ∧ ((a2.toInt < 0 ∨ 2 < a2.toInt) → post a0 M)
def qX4_put (a1 : Int32) (a2 : Int32) (a3 : Int64) (M : Mem) (post : Mem → Prop) : Prop :=
  vp_in a1 6 ∧ vp_in a1 6 ∧ qX4_cut a3 (M.1 8 a1.toNatClampNeg) M (fun r3 M4 => vp_in a2 64 ∧ ∀ M6 : Mem, M6 = sB M4 (36 + a1.toNatClampNeg) a2.toNatClampNeg r3 → post M6)
def qX6_write (a1 : Int32) (a2 : Int32) (a3 : Int64) (M : Mem) (post : Int32 → Mem → Prop) : Prop :=
  qX4_whyNoPlace a1 a2 M (fun r1 M2 => (r1 = 0 → qX4_put a1 a2 a3 M2 (fun M5 => qX6_agree M5 (fun r6 M7 => zb r6 ∧ post r6 M7))) ∧ (¬ r1 = 0 → qX6_refuse r1 M2 (fun r8 M9 => zb r8 ∧ post r8 M9)))
def qX6_deny (a1 : Int32) (M : Mem) (post : Int32 → Mem → Prop) : Prop :=
  ∀ M1 : Mem, M1 = sA M 0 5 a1 → post (-1 : Int32) M1
def qX4_at (a1 : Int32) (a2 : Int32) (M : Mem) (post : Int64 → Mem → Prop) : Prop :=
  vp_in a1 6 ∧ vp_in a2 64 ∧ post (M.2 (36 + a1.toNatClampNeg) a2.toNatClampNeg) M
def qX6_read (a1 : Int32) (a2 : Int32) (M : Mem) (post : Int64 → Mem → Prop) : Prop :=
  qX4_whyNoPlace a1 a2 M (fun r1 M2 => (r1 = 0 → ∀ M4 : Mem, M4 = sA M2 0 5 (0 : Int32) → qX4_at a1 a2 M4 (fun r5 M6 => post r5 M6)) ∧ (¬ r1 = 0 → qX6_deny r1 M2 (fun r7 M8 => post (r7.toInt64) M8)))
def qX4_lose (a1 : Int32) (M : Mem) (post : Mem → Prop) : Prop :=
  vp_in a1 6 ∧ ∀ M2 : Mem, M2 = sA M 9 a1.toNatClampNeg (-1 : Int32) → post M2
def qX6_drop (a1 : Int32) (M : Mem) (post : Int32 → Mem → Prop) : Prop :=
  qX4_isNumber a1 M (fun r1 M2 => (¬ r1 = 0 → qX4_isMissing a1 M2 (fun r4 M5 => (r4 = 0 → qX4_lose a1 M5 (fun M8 => qX6_agree M8 (fun r9 M10 => zb r9 ∧ post r9 M10))) ∧ (¬ r4 = 0 → qX6_refuse (2 : Int32) M5 (fun r11 M12 => zb r11 ∧ post r11 M12)))) ∧ (r1 = 0 → qX6_refuse (1 : Int32) M2 (fun r13 M14 => zb r13 ∧ post r13 M14)))
def qX4_spans (a1 : Int32) (a2 : Int32) (a3 : Int32) (M : Mem) (post : Int32 → Mem → Prop) : Prop :=
  vp_in a1 6 ∧ (0 < (lg_cmp ((a2.toInt64) + (a3.toInt64)) ((M.1 9 a1.toNatClampNeg).toInt64)) → post (0 : Int32) M) ∧ (¬ 0 < (lg_cmp ((a2.toInt64) + (a3.toInt64)) ((M.1 9 a1.toNatClampNeg).toInt64)) → post (1 : Int32) M)
def qX4_carry_b24 (a1 : Int32) (a2 : Int32) (a3 : Int32) (a4 : Int32) (a5 : Int32) (post : Mem → Prop) (R24 : Int32 → Mem → Prop) (x6 : Int32) (M : Mem) : Prop :=
  ((a4 + a5) ≤ x6 → post M) ∧ (¬ (a4 + a5) ≤ x6 → vp_in a3 6 ∧ vp_in x6 64 ∧ qX4_put a3 x6 (M.2 (36 + a3.toNatClampNeg) x6.toNatClampNeg) M (fun M9 => ∀ v10 : Int32, v10 = x6 + 1 → R24 v10 M9))
def qX4_carry (a1 : Int32) (a2 : Int32) (a3 : Int32) (a4 : Int32) (a5 : Int32) (M : Mem) (post : Mem → Prop) : Prop :=
  ∀ (R24 : Int32 → Mem → Prop), (∀ x6 M, qX4_carry_b24 a1 a2 a3 a4 a5 post R24 x6 M → R24 x6 M) → vp_in a1 6 ∧ vp_in a3 6 ∧ (¬ a2 < 0 ∧ ¬ a4 < 0 ∧ ¬ a5 < 0 ∧ a2.toNatClampNeg + a5.toNatClampNeg ≤ 64 ∧ a4.toNatClampNeg + a5.toNatClampNeg ≤ 64) ∧ ∀ M3 : Mem, M3 = sBr M (36 + a3.toNatClampNeg) (va_cpy (M.2 (36 + a1.toNatClampNeg)) (M.2 (36 + a3.toNatClampNeg)) a2.toNatClampNeg a4.toNatClampNeg a5.toNatClampNeg) → R24 a4 M3
def qX6_copy_b28 (a1 : Int32) (a2 : Int32) (a3 : Int32) (a4 : Int32) (a5 : Int32) (post : Int32 → Mem → Prop) (R28 : Mem → Prop)  (M : Mem) : Prop :=
  qX6_refuse (1 : Int32) M (fun r34 M35 => zb r34 ∧ post r34 M35)
def qX6_copy (a1 : Int32) (a2 : Int32) (a3 : Int32) (a4 : Int32) (a5 : Int32) (M : Mem) (post : Int32 → Mem → Prop) : Prop :=
  ∀ (R28 : Mem → Prop), (∀ M, qX6_copy_b28 a1 a2 a3 a4 a5 post R28 M → R28 M) → qX4_isNumber a1 M (fun r1 M2 => (r1 = 0 → R28 M2) ∧ (¬ r1 = 0 → qX4_isNumber a3 M2 (fun r4 M5 => (r4 = 0 → R28 M5) ∧ (¬ r4 = 0 → (a2 < 0 → R28 M5) ∧ (¬ a2 < 0 → (a4 < 0 → R28 M5) ∧ (¬ a4 < 0 → (0 ≤ a5 → qX4_isMissing a1 M5 (fun r10 M11 => (¬ r10 = 0 → qX6_refuse (2 : Int32) M11 (fun r13 M14 => zb r13 ∧ post r13 M14)) ∧ (r10 = 0 → qX4_isMissing a3 M11 (fun r15 M16 => (r15 = 0 → qX4_spans a1 a2 a5 M16 (fun r18 M19 => (r18 = 0 → qX6_refuse (3 : Int32) M19 (fun r21 M22 => zb r21 ∧ post r21 M22)) ∧ (¬ r18 = 0 → qX4_spans a3 a4 a5 M19 (fun r23 M24 => (¬ r23 = 0 → qX4_carry a1 a2 a3 a4 a5 M24 (fun M27 => qX6_agree M27 (fun r28 M29 => zb r28 ∧ post r28 M29))) ∧ (r23 = 0 → qX6_refuse (3 : Int32) M24 (fun r30 M31 => zb r30 ∧ post r30 M31)))))) ∧ (¬ r15 = 0 → qX6_refuse (2 : Int32) M16 (fun r32 M33 => zb r32 ∧ post r32 M33)))))) ∧ (¬ 0 ≤ a5 → R28 M5)))))))
def qX6_none  (M : Mem) (post : Int32 → Mem → Prop) : Prop :=
  qX6_refuse (8 : Int32) M (fun r1 M2 => zb r1 ∧ post r1 M2)
def qX1_addMachine (a1 : Int32) (a2 : Int32) (M : Mem) (post : Int32 → Mem → Prop) : Prop :=
  ∀ M1 : Mem, M1 = sA M 2 0 ((M.1 2 0) + (1 : Int32)) → ∀ v2 : Int32, v2 = (M.1 2 0) → vp_in v2 12 ∧ ∀ M4 : Mem, M4 = sA M1 10 v2.toNatClampNeg a1 → vp_in a2 4 ∧ vp_in a2 4 ∧ ∀ M7 : Mem, M7 = sA M4 11 a2.toNatClampNeg ((M4.1 11 a2.toNatClampNeg) ||| ((1 : Int32) <<< (v2 &&& 31))) → ∀ M8 : Mem, M8 = sA M7 2 4 ((M7.1 2 4) ||| ((1 : Int32) <<< (v2 &&& 31))) → post v2 M8
def qX6_answer (a1 : Int32) (M : Mem) (post : Int32 → Mem → Prop) : Prop :=
  ∀ M1 : Mem, M1 = sA M 0 5 (0 : Int32) → post a1 M1
def qX6_machine (a1 : Int32) (a2 : Int32) (M : Mem) (post : Int32 → Mem → Prop) : Prop :=
  qX6_within (a1.toInt64) (1 : Int32) (100 : Int32) M (fun r1 M2 => (r1 = 0 → qX6_deny (1 : Int32) M2 (fun r4 M5 => post r4 M5)) ∧ (¬ r1 = 0 → qX6_within (a2.toInt64) (0 : Int32) (3 : Int32) M2 (fun r6 M7 => (¬ r6 = 0 → (¬ (M7.1 2 0) = (12 : Int32) → qX1_addMachine a1 a2 M7 (fun r10 M11 => qX6_answer r10 M11 (fun r12 M13 => post r12 M13))) ∧ ((M7.1 2 0) = (12 : Int32) → qX6_deny (4 : Int32) M7 (fun r14 M15 => post r14 M15))) ∧ (r6 = 0 → qX6_deny (1 : Int32) M7 (fun r16 M17 => post r16 M17)))))
def qX1_hasMachine (a1 : Int32) (M : Mem) (post : Int32 → Mem → Prop) : Prop :=
  qX6_within (a1.toInt64) (0 : Int32) ((M.1 2 0) - (1 : Int32)) M (fun r1 M2 => zb r1 ∧ post r1 M2)
def qX1_has (a0 : Int32) (a1 : Int32) (M : Mem) (post : Int32 → Mem → Prop) : Prop :=
  (((a0 >>> (a1 &&& 31)) &&& (1 : Int32)) = 0 → post (0 : Int32) M) ∧ (¬ ((a0 >>> (a1 &&& 31)) &&& (1 : Int32)) = 0 → post (1 : Int32) M)
def qX1_isUp (a1 : Int32) (M : Mem) (post : Int32 → Mem → Prop) : Prop :=
  qX1_has (M.1 2 4) a1 M (fun r1 M2 => zb r1 ∧ post r1 M2)
def qX1_turn (a1 : Int32) (M : Mem) (post : Mem → Prop) : Prop :=
  ∀ M1 : Mem, M1 = sA M 2 4 ((M.1 2 4) ^^^ ((1 : Int32) <<< (a1 &&& 31))) → post M1
def qX6_up (a1 : Int32) (a2 : Int32) (M : Mem) (post : Int32 → Mem → Prop) : Prop :=
  qX1_hasMachine a1 M (fun r1 M2 => (¬ r1 = 0 → qX1_isUp a1 M2 (fun r4 M5 => (¬ r4 = a2 → qX1_turn a1 M5 (fun M8 => qX6_agree M8 (fun r9 M10 => zb r9 ∧ post r9 M10))) ∧ (r4 = a2 → qX6_refuse (5 : Int32) M5 (fun r11 M12 => zb r11 ∧ post r11 M12)))) ∧ (r1 = 0 → qX6_refuse (1 : Int32) M2 (fun r13 M14 => zb r13 ∧ post r13 M14)))
def qX6_isHour (a0 : Int32) (M : Mem) (post : Int32 → Mem → Prop) : Prop :=
  qX6_within (a0.toInt64) (0 : Int32) (23 : Int32) M (fun r1 M2 => zb r1 ∧ post r1 M2)
def qX3_forget  (M : Mem) (post : Mem → Prop) : Prop :=
  ∀ M1 : Mem, M1 = sA M 3 8 (-1 : Int32) → post M1
def qX1_markAsked_b2 (a1 : Int32) (post : Mem → Prop) (R2 : Int32 → Mem → Prop) (x2 : Int32) (M : Mem) : Prop :=
  (x2 ≤ 0 → post M) ∧ (¬ x2 ≤ 0 → vp_in x2 1024 ∧ ∀ M3 : Mem, M3 = sA M 17 x2.toNatClampNeg (vp_nar .boolean (1 : Int32)) → ∀ v4 : Int32, v4 = ((x2 - (1 : Int32)) &&& a1) → R2 v4 M3)
def qX1_markAsked (a1 : Int32) (M : Mem) (post : Mem → Prop) : Prop :=
  ∀ (R2 : Int32 → Mem → Prop), (∀ x2 M, qX1_markAsked_b2 a1 post R2 x2 M → R2 x2 M) → R2 a1 M
def qX1_tally_b7  (post : Mem → Prop) (R7 : Int32 → Mem → Prop) (R21 : Int32 → Int32 → Int32 → Mem → Prop) (x1 : Int32) (M : Mem) : Prop :=
  ((M.1 2 1) ≤ x1 → post M) ∧ (¬ (M.1 2 1) ≤ x1 → ∀ v3 : Int32, v3 = ((1 : Int32) <<< (x1 &&& 31)) → R21 x1 v3 (0 : Int32) M)
def qX1_tally_b21  (post : Mem → Prop) (R7 : Int32 → Mem → Prop) (R21 : Int32 → Int32 → Int32 → Mem → Prop) (x1 : Int32) (x2 : Int32) (x3 : Int32) (M : Mem) : Prop :=
  (x2 ≤ x3 → ∀ v5 : Int32, v5 = x1 + 1 → R7 v5 M) ∧ (¬ x2 ≤ x3 → vp_in x3 1024 ∧ vp_in x1 10 ∧ vp_in (x2 ||| x3) 1024 ∧ ∀ M9 : Mem, M9 = sA M 15 (x2 ||| x3).toNatClampNeg ((M.1 15 x3.toNatClampNeg) + (M.1 12 x1.toNatClampNeg)) → vp_in x3 1024 ∧ (¬ (M9.1 16 x3.toNatClampNeg) = 0 → vp_in (x2 ||| x3) 1024 ∧ ∀ M13 : Mem, M13 = sA M9 16 (x2 ||| x3).toNatClampNeg (vp_nar .boolean (1 : Int32)) → ∀ v14 : Int32, v14 = x3 + 1 → R21 x1 x2 v14 M13) ∧ ((M9.1 16 x3.toNatClampNeg) = 0 → vp_in x1 10 ∧ (((M9.1 13 x1.toNatClampNeg) &&& x3) = 0 → vp_in (x2 ||| x3) 1024 ∧ ∀ M18 : Mem, M18 = sA M9 16 (x2 ||| x3).toNatClampNeg (vp_nar .boolean (0 : Int32)) → ∀ v19 : Int32, v19 = x3 + 1 → R21 x1 x2 v19 M18) ∧ (¬ ((M9.1 13 x1.toNatClampNeg) &&& x3) = 0 → vp_in (x2 ||| x3) 1024 ∧ ∀ M21 : Mem, M21 = sA M9 16 (x2 ||| x3).toNatClampNeg (vp_nar .boolean (1 : Int32)) → ∀ v22 : Int32, v22 = x3 + 1 → R21 x1 x2 v22 M21)))
def qX1_tally  (M : Mem) (post : Mem → Prop) : Prop :=
  ∀ (R7 : Int32 → Mem → Prop) (R21 : Int32 → Int32 → Int32 → Mem → Prop), (∀ x1 M, qX1_tally_b7 post R7 R21 x1 M → R7 x1 M) → (∀ x1 x2 x3 M, qX1_tally_b21 post R7 R21 x1 x2 x3 M → R21 x1 x2 x3 M) → ∀ M1 : Mem, M1 = sA M 2 12 (-1 : Int32) → R7 (0 : Int32) M1
def qX1_addAsk_b24 (a1 : Int32) (a2 : Int32) (a3 : Int32) (post : Int32 → Mem → Prop) (R24 : Int32 → Int32 → Mem → Prop) (x4 : Int32) (x5 : Int32) (M : Mem) : Prop :=
  (a3 < x5 → qX1_tally M (fun M7 => post x4 M7)) ∧ (¬ a3 < x5 → vp_in x5 24 ∧ vp_in x5 24 ∧ ∀ M10 : Mem, M10 = sA M 14 x5.toNatClampNeg ((M.1 14 x5.toNatClampNeg) ||| ((1 : Int32) <<< (x4 &&& 31))) → vp_in x5 24 ∧ qX1_markAsked (M10.1 14 x5.toNatClampNeg) M10 (fun M13 => ∀ v14 : Int32, v14 = x5 + 1 → R24 x4 v14 M13))
def qX1_addAsk (a1 : Int32) (a2 : Int32) (a3 : Int32) (M : Mem) (post : Int32 → Mem → Prop) : Prop :=
  ∀ (R24 : Int32 → Int32 → Mem → Prop), (∀ x4 x5 M, qX1_addAsk_b24 a1 a2 a3 post R24 x4 x5 M → R24 x4 x5 M) → ∀ M1 : Mem, M1 = sA M 2 1 ((M.1 2 1) + (1 : Int32)) → ∀ v2 : Int32, v2 = (M.1 2 1) → vp_in v2 10 ∧ ∀ M4 : Mem, M4 = sA M1 12 v2.toNatClampNeg a1 → R24 v2 a2 M4
def qX6_ask (a1 : Int32) (a2 : Int32) (a3 : Int32) (M : Mem) (post : Int32 → Mem → Prop) : Prop :=
  qX6_within (a1.toInt64) (1 : Int32) (100 : Int32) M (fun r1 M2 => (r1 = 0 → qX6_deny (1 : Int32) M2 (fun r4 M5 => post r4 M5)) ∧ (¬ r1 = 0 → qX6_isHour a2 M2 (fun r6 M7 => (r6 = 0 → qX6_deny (1 : Int32) M7 (fun r9 M10 => post r9 M10)) ∧ (¬ r6 = 0 → qX6_isHour a3 M7 (fun r11 M12 => (r11 = 0 → qX6_deny (1 : Int32) M12 (fun r14 M15 => post r14 M15)) ∧ (¬ r11 = 0 → (a2 ≤ a3 → (¬ (M12.1 2 1) = (10 : Int32) → qX3_forget M12 (fun M19 => qX1_addAsk a1 a2 a3 M19 (fun r20 M21 => qX6_answer r20 M21 (fun r22 M23 => post r22 M23)))) ∧ ((M12.1 2 1) = (10 : Int32) → qX6_deny (4 : Int32) M12 (fun r24 M25 => post r24 M25))) ∧ (¬ a2 ≤ a3 → qX6_deny (1 : Int32) M12 (fun r26 M27 => post r26 M27))))))))
def qX1_hasAsk (a1 : Int32) (M : Mem) (post : Int32 → Mem → Prop) : Prop :=
  qX6_within (a1.toInt64) (0 : Int32) ((M.1 2 1) - (1 : Int32)) M (fun r1 M2 => zb r1 ∧ post r1 M2)
def qX1_areFoes (a1 : Int32) (a2 : Int32) (M : Mem) (post : Int32 → Mem → Prop) : Prop :=
  vp_in a1 10 ∧ qX1_has (M.1 13 a1.toNatClampNeg) a2 M (fun r2 M3 => zb r2 ∧ post r2 M3)
def qX1_turnFoes (a1 : Int32) (a2 : Int32) (M : Mem) (post : Mem → Prop) : Prop :=
  vp_in a1 10 ∧ vp_in a1 10 ∧ ∀ M3 : Mem, M3 = sA M 13 a1.toNatClampNeg ((M.1 13 a1.toNatClampNeg) ^^^ ((1 : Int32) <<< (a2 &&& 31))) → vp_in a2 10 ∧ vp_in a2 10 ∧ ∀ M6 : Mem, M6 = sA M3 13 a2.toNatClampNeg ((M3.1 13 a2.toNatClampNeg) ^^^ ((1 : Int32) <<< (a1 &&& 31))) → qX1_tally M6 (fun M8 => post M8)
def qX6_apart (a1 : Int32) (a2 : Int32) (a3 : Int32) (M : Mem) (post : Int32 → Mem → Prop) : Prop :=
  qX1_hasAsk a1 M (fun r1 M2 => (r1 = 0 → qX6_refuse (1 : Int32) M2 (fun r4 M5 => zb r4 ∧ post r4 M5)) ∧ (¬ r1 = 0 → qX1_hasAsk a2 M2 (fun r6 M7 => (r6 = 0 → qX6_refuse (1 : Int32) M7 (fun r9 M10 => zb r9 ∧ post r9 M10)) ∧ (¬ r6 = 0 → (¬ a1 = a2 → qX1_areFoes a1 a2 M7 (fun r12 M13 => (¬ r12 = a3 → qX3_forget M13 (fun M16 => qX1_turnFoes a1 a2 M16 (fun M18 => qX6_agree M18 (fun r19 M20 => zb r19 ∧ post r19 M20)))) ∧ (r12 = a3 → qX6_refuse (5 : Int32) M13 (fun r21 M22 => zb r21 ∧ post r21 M22)))) ∧ (a1 = a2 → qX6_refuse (1 : Int32) M7 (fun r23 M24 => zb r23 ∧ post r23 M24))))))
def qX1_standing (a1 : Int32) (M : Mem) (post : Int32 → Mem → Prop) : Prop :=
  (¬ a1 = 0 → ((12 : Int32) < a1 → vp_in ((a1 - (12 : Int32)) - (1 : Int32)) 4 ∧ post ((M.1 2 4) &&& ((M.1 11 ((a1 - (12 : Int32)) - (1 : Int32)).toNatClampNeg) ^^^ (-1 : Int32))) M) ∧ (¬ (12 : Int32) < a1 → post ((M.1 2 4) &&& (((1 : Int32) <<< ((a1 - (1 : Int32)) &&& 31)) ^^^ (-1 : Int32))) M)) ∧ (a1 = 0 → post (M.1 2 4) M)
def qX1_sizeOf_b4 (a1 : Int32) (post : Int32 → Mem → Prop) (R4 : Int32 → Int32 → Mem → Prop) (x2 : Int32) (x3 : Int32) (M : Mem) : Prop :=
  ((M.1 2 0) ≤ x3 → post x2 M) ∧ (¬ (M.1 2 0) ≤ x3 → qX1_has a1 x3 M (fun r2 M3 => (r2 = 0 → ∀ v5 : Int32, v5 = (x2 + (0 : Int32)) → ∀ v6 : Int32, v6 = x3 + 1 → R4 v5 v6 M3) ∧ (¬ r2 = 0 → vp_in x3 12 ∧ ∀ v8 : Int32, v8 = (x2 + (M3.1 10 x3.toNatClampNeg)) → ∀ v9 : Int32, v9 = x3 + 1 → R4 v8 v9 M3)))
def qX1_sizeOf (a1 : Int32) (M : Mem) (post : Int32 → Mem → Prop) : Prop :=
  ∀ (R4 : Int32 → Int32 → Mem → Prop), (∀ x2 x3 M, qX1_sizeOf_b4 a1 post R4 x2 x3 M → R4 x2 x3 M) → R4 (0 : Int32) (0 : Int32) M
def qX6_count (a1 : Int32) (M : Mem) (post : Int32 → Mem → Prop) : Prop :=
  (a1.toInt = 0 → qX6_answer (M.1 2 0) M (fun r2 M3 => post r2 M3)) ∧ (a1.toInt = 1 → qX6_answer (M.1 2 1) M (fun r4 M5 => post r4 M5)) ∧ (a1.toInt = 2 → qX6_answer (M.1 3 0) M (fun r6 M7 => post r6 M7)) ∧ (a1.toInt = 3 → qX6_answer (M.1 5 0) M (fun r8 M9 => post r8 M9)) ∧ (a1.toInt = 4 → qX1_standing (0 : Int32) M (fun r10 M11 => qX1_sizeOf r10 M11 (fun r12 M13 => qX6_answer r12 M13 (fun r14 M15 => post r14 M15)))) ∧ ((a1.toInt < 0 ∨ 4 < a1.toInt) → qX6_deny (1 : Int32) M (fun r16 M17 => post r16 M17))
def qX1_isFall (a0 : Int32) (M : Mem) (post : Int32 → Mem → Prop) : Prop :=
  qX6_within (a0.toInt64) (0 : Int32) (16 : Int32) M (fun r1 M2 => zb r1 ∧ post r1 M2)
def qJ7_fill_53178_b5 (k n : Nat) (a1 : Int32) (post : Mem → Prop) (R5 : Int32 → Int32 → Mem → Prop) (x2 : Int32) (x3 : Int32) (M : Mem) : Prop :=
  (x3 ≤ x2 → post M) ∧ (¬ x3 ≤ x2 → vp_in x2 n ∧ ∀ M4 : Mem, M4 = sA M k x2.toNatClampNeg a1 → ∀ v5 : Int32, v5 = x2 + 1 → R5 v5 x3 M4)
def qJ7_fill_53178 (k n : Nat) (a1 : Int32) (M : Mem) (post : Mem → Prop) : Prop :=
  ∀ (R5 : Int32 → Int32 → Mem → Prop), (∀ x2 x3 M, qJ7_fill_53178_b5 k n a1 post R5 x2 x3 M → R5 x2 x3 M) → ∀ v1 : Int32, v1 = (nI n) → R5 (0 : Int32) v1 M
def qX1_greatestOn_b2 (a1 : Int32) (a2 : Int32) (post : Int32 → Mem → Prop) (R2 : Int32 → Mem → Prop) (R44 : Int32 → Mem → Prop) (x3 : Int32) (M : Mem) : Prop :=
  (x3 ≤ 0 → post (0 : Int32) M) ∧ (¬ x3 ≤ 0 → vp_in x3 1024 ∧ vp_in a1 12 ∧ ((M.1 10 a1.toNatClampNeg) < (M.1 15 x3.toNatClampNeg) → R44 x3 M) ∧ (¬ (M.1 10 a1.toNatClampNeg) < (M.1 15 x3.toNatClampNeg) → vp_in x3 1024 ∧ (¬ (M.1 16 x3.toNatClampNeg) = 0 → R44 x3 M) ∧ ((M.1 16 x3.toNatClampNeg) = 0 → vp_in (a2 ^^^ x3) 1024 ∧ ((M.1 18 (a2 ^^^ x3).toNatClampNeg) ≤ a1 → R44 x3 M) ∧ (¬ (M.1 18 (a2 ^^^ x3).toNatClampNeg) ≤ a1 → post x3 M))))
def qX1_greatestOn_b44 (a1 : Int32) (a2 : Int32) (post : Int32 → Mem → Prop) (R2 : Int32 → Mem → Prop) (R44 : Int32 → Mem → Prop) (x3 : Int32) (M : Mem) : Prop :=
  ∀ v9 : Int32, v9 = ((x3 - (1 : Int32)) &&& a2) → R2 v9 M
def qX1_greatestOn (a1 : Int32) (a2 : Int32) (M : Mem) (post : Int32 → Mem → Prop) : Prop :=
  ∀ (R2 : Int32 → Mem → Prop) (R44 : Int32 → Mem → Prop), (∀ x3 M, qX1_greatestOn_b2 a1 a2 post R2 R44 x3 M → R2 x3 M) → (∀ x3 M, qX1_greatestOn_b44 a1 a2 post R2 R44 x3 M → R44 x3 M) → R2 a2 M
def qX1_findWith_b2 (a1 : Int32) (a2 : Int32) (post : Mem → Prop) (R2 : Int32 → Mem → Prop) (x3 : Int32) (M : Mem) : Prop :=
  (((1 : Int32) <<< ((M.1 2 1) &&& 31)) ≤ x3 → post M) ∧ (¬ ((1 : Int32) <<< ((M.1 2 1) &&& 31)) ≤ x3 → vp_in x3 1024 ∧ (¬ (M.1 18 x3.toNatClampNeg) = (-1 : Int32) → ∀ v4 : Int32, v4 = x3 + 1 → R2 v4 M) ∧ ((M.1 18 x3.toNatClampNeg) = (-1 : Int32) → vp_in x3 1024 ∧ ((M.1 17 x3.toNatClampNeg) = 0 → ∀ v7 : Int32, v7 = x3 + 1 → R2 v7 M) ∧ (¬ (M.1 17 x3.toNatClampNeg) = 0 → vp_in x3 1024 ∧ (a2 < (M.1 15 x3.toNatClampNeg) → ∀ v10 : Int32, v10 = x3 + 1 → R2 v10 M) ∧ (¬ a2 < (M.1 15 x3.toNatClampNeg) → qX1_greatestOn a1 x3 M (fun r11 M12 => (r11 ≤ 0 → ∀ v14 : Int32, v14 = x3 + 1 → R2 v14 M12) ∧ (¬ r11 ≤ 0 → vp_in x3 1024 ∧ ∀ M16 : Mem, M16 = sA M12 18 x3.toNatClampNeg a1 → ∀ v17 : Int32, v17 = x3 + 1 → R2 v17 M16))))))
def qX1_findWith (a1 : Int32) (a2 : Int32) (M : Mem) (post : Mem → Prop) : Prop :=
  ∀ (R2 : Int32 → Mem → Prop), (∀ x3 M, qX1_findWith_b2 a1 a2 post R2 x3 M → R2 x3 M) → R2 (1 : Int32) M
def qX1_findLatest_b39 (a1 : Int32) (post : Mem → Prop) (R39 : Int32 → Int32 → Mem → Prop) (x2 : Int32) (x3 : Int32) (M : Mem) : Prop :=
  (x3 < 0 → post M) ∧ (¬ x3 < 0 → qX1_has a1 x3 M (fun r9 M10 => (r9 = 0 → ∀ v12 : Int32, v12 = x3 + (-1) → R39 x2 v12 M10) ∧ (¬ r9 = 0 → vp_in x3 12 ∧ ∀ v14 : Int32, v14 = (x2 + (M10.1 10 x3.toNatClampNeg)) → qX1_findWith x3 v14 M10 (fun M16 => ∀ v17 : Int32, v17 = x3 + (-1) → R39 v14 v17 M16))))
def qX1_findLatest (a1 : Int32) (M : Mem) (post : Mem → Prop) : Prop :=
  ∀ (R39 : Int32 → Int32 → Mem → Prop), (∀ x2 x3 M, qX1_findLatest_b39 a1 post R39 x2 x3 M → R39 x2 x3 M) → (¬ (M.1 2 12) = a1 → ∀ M2 : Mem, M2 = sA M 2 12 a1 → qJ7_fill_53178 18 1024 (-1 : Int32) M2 (fun M4 => vp_in (0 : Int32) 1024 ∧ ∀ M6 : Mem, M6 = sA M4 18 (0 : Int32).toNatClampNeg (12 : Int32) → ∀ v7 : Int32, v7 = ((M6.1 2 0) - (1 : Int32)) → R39 (0 : Int32) v7 M6)) ∧ ((M.1 2 12) = a1 → post M)
def qX1_holds (a1 : Int32) (a2 : Int32) (M : Mem) (post : Int32 → Mem → Prop) : Prop :=
  qX1_findLatest a2 M (fun M2 => vp_in a1 24 ∧ vp_in (M2.1 14 a1.toNatClampNeg) 1024 ∧ ((M2.1 18 (M2.1 14 a1.toNatClampNeg).toNatClampNeg) = (-1 : Int32) → post (0 : Int32) M2) ∧ (¬ (M2.1 18 (M2.1 14 a1.toNatClampNeg).toNatClampNeg) = (-1 : Int32) → post (1 : Int32) M2))
def qX6_fits (a1 : Int32) (a2 : Int32) (M : Mem) (post : Int32 → Mem → Prop) : Prop :=
  qX6_isHour a1 M (fun r1 M2 => (r1 = 0 → qX6_deny (1 : Int32) M2 (fun r4 M5 => post r4 M5)) ∧ (¬ r1 = 0 → qX1_isFall a2 M2 (fun r6 M7 => (¬ r6 = 0 → qX1_standing a2 M7 (fun r9 M10 => qX1_holds a1 r9 M10 (fun r11 M12 => (r11 = 0 → qX6_answer (0 : Int32) M12 (fun r14 M15 => post r14 M15)) ∧ (¬ r11 = 0 → qX6_answer (1 : Int32) M12 (fun r16 M17 => post r16 M17))))) ∧ (r6 = 0 → qX6_deny (1 : Int32) M7 (fun r18 M19 => post r18 M19)))))
def qX1_isAskOf (a1 : Int32) (a2 : Int32) (M : Mem) (post : Int32 → Mem → Prop) : Prop :=
  vp_in a2 24 ∧ qX1_has (M.1 14 a2.toNatClampNeg) a1 M (fun r2 M3 => zb r2 ∧ post r2 M3)
def qX1_layingOf_b16 (a1 : Int32) (a2 : Int32) (a3 : Int32) (post : Int32 → Mem → Prop) (R16 : Int32 → Int32 → Mem → Prop) (x4 : Int32) (x5 : Int32) (M : Mem) : Prop :=
  ((M.1 2 0) ≤ x5 → post (-1 : Int32) M) ∧ (¬ (M.1 2 0) ≤ x5 → qX1_has a2 x5 M (fun r6 M7 => (r6 = 0 → ∀ v9 : Int32, v9 = x5 + 1 → R16 x4 v9 M7) ∧ (¬ r6 = 0 → qX1_greatestOn x5 x4 M7 (fun r10 M11 => qX1_has r10 a3 M11 (fun r12 M13 => (r12 = 0 → ∀ v15 : Int32, v15 = (x4 ^^^ r10) → ∀ v16 : Int32, v16 = x5 + 1 → R16 v15 v16 M13) ∧ (¬ r12 = 0 → post x5 M13))))))
def qX1_layingOf (a1 : Int32) (a2 : Int32) (a3 : Int32) (M : Mem) (post : Int32 → Mem → Prop) : Prop :=
  ∀ (R16 : Int32 → Int32 → Mem → Prop), (∀ x4 x5 M, qX1_layingOf_b16 a1 a2 a3 post R16 x4 x5 M → R16 x4 x5 M) → qX1_findLatest a2 M (fun M2 => vp_in a1 24 ∧ ∀ v4 : Int32, v4 = (M2.1 14 a1.toNatClampNeg) → R16 v4 (0 : Int32) M2)
def qX6_on (a1 : Int32) (a2 : Int32) (a3 : Int32) (M : Mem) (post : Int32 → Mem → Prop) : Prop :=
  qX6_isHour a1 M (fun r1 M2 => (r1 = 0 → qX6_deny (1 : Int32) M2 (fun r4 M5 => post r4 M5)) ∧ (¬ r1 = 0 → qX1_isFall a2 M2 (fun r6 M7 => (r6 = 0 → qX6_deny (1 : Int32) M7 (fun r9 M10 => post r9 M10)) ∧ (¬ r6 = 0 → qX1_hasAsk a3 M7 (fun r11 M12 => (r11 = 0 → qX6_deny (1 : Int32) M12 (fun r14 M15 => post r14 M15)) ∧ (¬ r11 = 0 → qX1_isAskOf a3 a1 M12 (fun r16 M17 => (¬ r16 = 0 → qX1_standing a2 M17 (fun r19 M20 => qX1_holds a1 r19 M20 (fun r21 M22 => (¬ r21 = 0 → qX1_standing a2 M22 (fun r24 M25 => qX1_layingOf a1 r24 a3 M25 (fun r26 M27 => qX6_answer r26 M27 (fun r28 M29 => post r28 M29)))) ∧ (r21 = 0 → qX6_deny (6 : Int32) M22 (fun r30 M31 => post r30 M31))))) ∧ (r16 = 0 → qX6_deny (1 : Int32) M17 (fun r32 M33 => post r32 M33)))))))))
def qX1_lacking_b18 (a1 : Int32) (a2 : Int32) (post : Int32 → Mem → Prop) (R18 : Int32 → Int32 → Int32 → Mem → Prop) (x3 : Int32) (x4 : Int32) (x5 : Int32) (M : Mem) : Prop :=
  (x5 ≤ 0 → vp_in x3 1024 ∧ post ((M.1 15 x3.toNatClampNeg) - x4) M) ∧ (¬ x5 ≤ 0 → vp_in x5 1024 ∧ ((M.1 18 x5.toNatClampNeg) = (-1 : Int32) → ∀ v9 : Int32, v9 = ((x5 - (1 : Int32)) &&& x3) → R18 x3 x4 v9 M) ∧ (¬ (M.1 18 x5.toNatClampNeg) = (-1 : Int32) → vp_in x5 1024 ∧ ∀ v11 : Int32, v11 = (jmax x4 (M.1 15 x5.toNatClampNeg)) → ∀ v12 : Int32, v12 = ((x5 - (1 : Int32)) &&& x3) → R18 x3 v11 v12 M))
def qX1_lacking (a1 : Int32) (a2 : Int32) (M : Mem) (post : Int32 → Mem → Prop) : Prop :=
  ∀ (R18 : Int32 → Int32 → Int32 → Mem → Prop), (∀ x3 x4 x5 M, qX1_lacking_b18 a1 a2 post R18 x3 x4 x5 M → R18 x3 x4 x5 M) → qX1_findLatest a2 M (fun M2 => vp_in a1 24 ∧ ∀ v4 : Int32, v4 = (M2.1 14 a1.toNatClampNeg) → R18 v4 (0 : Int32) v4 M2)
def qX6_lack (a1 : Int32) (a2 : Int32) (M : Mem) (post : Int32 → Mem → Prop) : Prop :=
  qX6_isHour a1 M (fun r1 M2 => (r1 = 0 → qX6_deny (1 : Int32) M2 (fun r4 M5 => post r4 M5)) ∧ (¬ r1 = 0 → qX1_isFall a2 M2 (fun r6 M7 => (¬ r6 = 0 → qX1_standing a2 M7 (fun r9 M10 => qX1_lacking a1 r9 M10 (fun r11 M12 => qX6_answer r11 M12 (fun r13 M14 => post r13 M14)))) ∧ (r6 = 0 → qX6_deny (1 : Int32) M7 (fun r15 M16 => post r15 M16)))))
def qX1_leftOver (a1 : Int32) (a2 : Int32) (M : Mem) (post : Int32 → Mem → Prop) : Prop :=
  qX1_findLatest a2 M (fun M2 => vp_in a1 24 ∧ ∀ v4 : Int32, v4 = (M2.1 14 a1.toNatClampNeg) → vp_in v4 1024 ∧ ((M2.1 18 v4.toNatClampNeg) = (-1 : Int32) → post (0 : Int32) M2) ∧ (¬ (M2.1 18 v4.toNatClampNeg) = (-1 : Int32) → qX1_sizeOf a2 M2 (fun r7 M8 => vp_in v4 1024 ∧ post (r7 - (M8.1 15 v4.toNatClampNeg)) M8)))
def qX6_left (a1 : Int32) (a2 : Int32) (M : Mem) (post : Int32 → Mem → Prop) : Prop :=
  qX6_isHour a1 M (fun r1 M2 => (r1 = 0 → qX6_deny (1 : Int32) M2 (fun r4 M5 => post r4 M5)) ∧ (¬ r1 = 0 → qX1_isFall a2 M2 (fun r6 M7 => (¬ r6 = 0 → qX1_standing a2 M7 (fun r9 M10 => qX1_leftOver a1 r9 M10 (fun r11 M12 => qX6_answer r11 M12 (fun r13 M14 => post r13 M14)))) ∧ (r6 = 0 → qX6_deny (1 : Int32) M7 (fun r15 M16 => post r15 M16)))))
def qX1_isLookedAt (a1 : Int32) (a2 : Int32) (M : Mem) (post : Int32 → Mem → Prop) : Prop :=
  (a1 ≤ (12 : Int32) → (a1 = 0 → post (1 : Int32) M) ∧ (¬ a1 = 0 → (a2 ≤ 0 → post (0 : Int32) M) ∧ (¬ a2 ≤ 0 → ((M.1 2 0) < a1 → post (0 : Int32) M) ∧ (¬ (M.1 2 0) < a1 → post (1 : Int32) M)))) ∧ (¬ a1 ≤ (12 : Int32) → (¬ a2 = (2 : Int32) → post (0 : Int32) M) ∧ (a2 = (2 : Int32) → post (1 : Int32) M))
def qX1_firstUnfitHour_b2 (a1 : Int32) (a2 : Int32) (post : Int32 → Mem → Prop) (R2 : Int32 → Mem → Prop) (x3 : Int32) (M : Mem) : Prop :=
  (a2 ≤ x3 → post a2 M) ∧ (¬ a2 ≤ x3 → qX1_holds x3 a1 M (fun r2 M3 => (¬ r2 = 0 → ∀ v5 : Int32, v5 = x3 + 1 → R2 v5 M3) ∧ (r2 = 0 → post x3 M3)))
def qX1_firstUnfitHour (a1 : Int32) (a2 : Int32) (M : Mem) (post : Int32 → Mem → Prop) : Prop :=
  ∀ (R2 : Int32 → Mem → Prop), (∀ x3 M, qX1_firstUnfitHour_b2 a1 a2 post R2 x3 M → R2 x3 M) → R2 (0 : Int32) M
def qX1_firstUnfit_b8 (a1 : Int32) (post : Int32 → Mem → Prop) (R8 : Int32 → Int32 → Int32 → Mem → Prop) (x2 : Int32) (x3 : Int32) (x4 : Int32) (M : Mem) : Prop :=
  ((17 : Int32) ≤ x4 → (¬ x2 = (24 : Int32) → post (((100 : Int32) * x2) + x3) M) ∧ (x2 = (24 : Int32) → post (-2 : Int32) M)) ∧ (¬ (17 : Int32) ≤ x4 → (x2 ≤ 0 → (¬ x2 = (24 : Int32) → post (((100 : Int32) * x2) + x3) M) ∧ (x2 = (24 : Int32) → post (-2 : Int32) M)) ∧ (¬ x2 ≤ 0 → qX1_isLookedAt x4 a1 M (fun r5 M6 => (r5 = 0 → ∀ v8 : Int32, v8 = x4 + 1 → R8 x2 x3 v8 M6) ∧ (¬ r5 = 0 → qX1_standing x4 M6 (fun r9 M10 => qX1_firstUnfitHour r9 x2 M10 (fun r11 M12 => (x2 ≤ r11 → ∀ v14 : Int32, v14 = x4 + 1 → R8 r11 x3 v14 M12) ∧ (¬ x2 ≤ r11 → ∀ v15 : Int32, v15 = x4 + 1 → R8 r11 x4 v15 M12)))))))
def qX1_firstUnfit (a1 : Int32) (M : Mem) (post : Int32 → Mem → Prop) : Prop :=
  ∀ (R8 : Int32 → Int32 → Int32 → Mem → Prop), (∀ x2 x3 x4 M, qX1_firstUnfit_b8 a1 post R8 x2 x3 x4 M → R8 x2 x3 x4 M) → R8 (24 : Int32) (0 : Int32) (0 : Int32) M
def qX6_enough (a1 : Int32) (M : Mem) (post : Int32 → Mem → Prop) : Prop :=
  qX6_within (a1.toInt64) (0 : Int32) (2 : Int32) M (fun r1 M2 => (¬ r1 = 0 → qX1_firstUnfit a1 M2 (fun r4 M5 => qX6_answer r4 M5 (fun r6 M7 => post r6 M7))) ∧ (r1 = 0 → qX6_deny (1 : Int32) M2 (fun r8 M9 => post r8 M9)))
def qX3_addBatch (a1 : Int32) (a2 : Int32) (a3 : Int32) (a4 : Int32) (M : Mem) (post : Int32 → Mem → Prop) : Prop :=
  ∀ M1 : Mem, M1 = sA M 3 0 ((M.1 3 0) + (1 : Int32)) → ∀ v2 : Int32, v2 = (M.1 3 0) → vp_in v2 8 ∧ ∀ M4 : Mem, M4 = sA M1 20 v2.toNatClampNeg a1 → vp_in v2 8 ∧ ∀ M6 : Mem, M6 = sA M4 21 v2.toNatClampNeg a2 → vp_in v2 8 ∧ ∀ M8 : Mem, M8 = sA M6 22 v2.toNatClampNeg a3 → vp_in v2 8 ∧ ∀ M10 : Mem, M10 = sA M8 23 v2.toNatClampNeg a4 → qX3_forget M10 (fun M12 => post v2 M12)
def qX6_batch (a1 : Int32) (a2 : Int32) (a3 : Int32) (a4 : Int32) (M : Mem) (post : Int32 → Mem → Prop) : Prop :=
  qX6_within (a1.toInt64) (1 : Int32) (10000 : Int32) M (fun r1 M2 => (r1 = 0 → qX6_deny (1 : Int32) M2 (fun r4 M5 => post r4 M5)) ∧ (¬ r1 = 0 → qX6_isHour a2 M2 (fun r6 M7 => (r6 = 0 → qX6_deny (1 : Int32) M7 (fun r9 M10 => post r9 M10)) ∧ (¬ r6 = 0 → qX6_within (a3.toInt64) (a2 + (1 : Int32)) (24 : Int32) M7 (fun r11 M12 => (r11 = 0 → qX6_deny (1 : Int32) M12 (fun r14 M15 => post r14 M15)) ∧ (¬ r11 = 0 → qX6_within (a4.toInt64) (1 : Int32) (1000 : Int32) M12 (fun r16 M17 => (¬ r16 = 0 → (¬ (M17.1 3 0) = (8 : Int32) → qX3_addBatch a1 a2 a3 a4 M17 (fun r20 M21 => qX6_answer r20 M21 (fun r22 M23 => post r22 M23))) ∧ ((M17.1 3 0) = (8 : Int32) → qX6_deny (4 : Int32) M17 (fun r24 M25 => post r24 M25))) ∧ (r16 = 0 → qX6_deny (1 : Int32) M17 (fun r26 M27 => post r26 M27)))))))))
def qX0_empty_b2  (post : Mem → Prop) (R2 : Int32 → Mem → Prop) (x1 : Int32) (M : Mem) : Prop :=
  ((M.1 6 0) ≤ x1 → post M) ∧ (¬ (M.1 6 0) ≤ x1 → vp_in x1 34 ∧ qJ7_fill_53178 (66 + x1.toNatClampNeg) 34 (0 : Int32) M (fun M4 => ∀ v5 : Int32, v5 = x1 + 1 → R2 v5 M4))
def qX0_empty  (M : Mem) (post : Mem → Prop) : Prop :=
  ∀ (R2 : Int32 → Mem → Prop), (∀ x1 M, qX0_empty_b2 post R2 x1 M → R2 x1 M) → R2 (0 : Int32) M
def qX0_pipe (a1 : Int32) (a2 : Int32) (a3 : Int32) (M : Mem) (post : Mem → Prop) : Prop :=
  vp_in a1 34 ∧ vp_in a2 34 ∧ ∀ M3 : Mem, M3 = sA M (66 + a1.toNatClampNeg) a2.toNatClampNeg a3 → post M3
def qX3_layPipes_b12 (a2 : Int32) (post : Int32 → Mem → Prop) (R12 : Int32 → Int32 → Mem → Prop) (R58 : Int32 → Int32 → Int32 → Mem → Prop) (R106 : Int32 → Int32 → Mem → Prop) (x3 : Int32) (x4 : Int32) (M : Mem) : Prop :=
  ((M.1 3 0) ≤ x4 → R106 x3 (0 : Int32) M) ∧ (¬ (M.1 3 0) ≤ x4 → vp_in x4 8 ∧ ∀ v5 : Int32, v5 = (x3 + (M.1 20 x4.toNatClampNeg)) → vp_in x4 8 ∧ qX0_pipe (32 : Int32) x4 (M.1 20 x4.toNatClampNeg) M (fun M8 => vp_in x4 8 ∧ ∀ v10 : Int32, v10 = (M8.1 21 x4.toNatClampNeg) → R58 v5 x4 v10 M8))
def qX3_layPipes_b58 (a2 : Int32) (post : Int32 → Mem → Prop) (R12 : Int32 → Int32 → Mem → Prop) (R58 : Int32 → Int32 → Int32 → Mem → Prop) (R106 : Int32 → Int32 → Mem → Prop) (x3 : Int32) (x4 : Int32) (x5 : Int32) (M : Mem) : Prop :=
  vp_in x4 8 ∧ ((M.1 22 x4.toNatClampNeg) ≤ x5 → ∀ v13 : Int32, v13 = x4 + 1 → R12 x3 v13 M) ∧ (¬ (M.1 22 x4.toNatClampNeg) ≤ x5 → vp_in x4 8 ∧ qX0_pipe x4 ((8 : Int32) + x5) (M.1 23 x4.toNatClampNeg) M (fun M16 => ∀ v17 : Int32, v17 = x5 + 1 → R58 x3 x4 v17 M16))
def qX3_layPipes_b106 (a2 : Int32) (post : Int32 → Mem → Prop) (R12 : Int32 → Int32 → Mem → Prop) (R58 : Int32 → Int32 → Int32 → Mem → Prop) (R106 : Int32 → Int32 → Mem → Prop) (x3 : Int32) (x4 : Int32) (M : Mem) : Prop :=
  ((24 : Int32) ≤ x4 → post x3 M) ∧ (¬ (24 : Int32) ≤ x4 → qX1_leftOver x4 a2 M (fun r19 M20 => qX0_pipe ((8 : Int32) + x4) (33 : Int32) r19 M20 (fun M22 => ∀ v23 : Int32, v23 = x4 + 1 → R106 x3 v23 M22)))
def qX3_layPipes (a2 : Int32) (M : Mem) (post : Int32 → Mem → Prop) : Prop :=
  ∀ (R12 : Int32 → Int32 → Mem → Prop) (R58 : Int32 → Int32 → Int32 → Mem → Prop) (R106 : Int32 → Int32 → Mem → Prop), (∀ x3 x4 M, qX3_layPipes_b12 a2 post R12 R58 R106 x3 x4 M → R12 x3 x4 M) → (∀ x3 x4 x5 M, qX3_layPipes_b58 a2 post R12 R58 R106 x3 x4 x5 M → R58 x3 x4 x5 M) → (∀ x3 x4 M, qX3_layPipes_b106 a2 post R12 R58 R106 x3 x4 M → R106 x3 x4 M) → qX0_empty M (fun M2 => R12 (0 : Int32) (0 : Int32) M2)
def qX0_findWay_b27 (a1 : Int32) (a2 : Int32) (post : Int32 → Mem → Prop) (R27 : Int32 → Int32 → Mem → Prop) (R54 : Int32 → Int32 → Int32 → Int32 → Mem → Prop) (x3 : Int32) (x4 : Int32) (M : Mem) : Prop :=
  (x3 ≤ x4 → post (0 : Int32) M) ∧ (¬ x3 ≤ x4 → ((M.1 6 0) ≤ x4 → post (0 : Int32) M) ∧ (¬ (M.1 6 0) ≤ x4 → vp_in x4 34 ∧ ∀ v10 : Int32, v10 = (M.1 35 x4.toNatClampNeg) → R54 x3 x4 v10 (0 : Int32) M))
def qX0_findWay_b54 (a1 : Int32) (a2 : Int32) (post : Int32 → Mem → Prop) (R27 : Int32 → Int32 → Mem → Prop) (R54 : Int32 → Int32 → Int32 → Int32 → Mem → Prop) (x3 : Int32) (x4 : Int32) (x5 : Int32) (x6 : Int32) (M : Mem) : Prop :=
  ((M.1 6 0) ≤ x6 → vp_in a2 34 ∧ ((M.1 34 a2.toNatClampNeg) = (-1 : Int32) → ∀ v14 : Int32, v14 = x4 + 1 → R27 x3 v14 M) ∧ (¬ (M.1 34 a2.toNatClampNeg) = (-1 : Int32) → post (1 : Int32) M)) ∧ (¬ (M.1 6 0) ≤ x6 → vp_in x5 34 ∧ vp_in x6 34 ∧ ((M.1 (66 + x5.toNatClampNeg) x6.toNatClampNeg) ≤ 0 → ∀ v18 : Int32, v18 = x6 + 1 → R54 x3 x4 x5 v18 M) ∧ (¬ (M.1 (66 + x5.toNatClampNeg) x6.toNatClampNeg) ≤ 0 → vp_in x6 34 ∧ (¬ (M.1 34 x6.toNatClampNeg) = (-1 : Int32) → ∀ v21 : Int32, v21 = x6 + 1 → R54 x3 x4 x5 v21 M) ∧ ((M.1 34 x6.toNatClampNeg) = (-1 : Int32) → vp_in x6 34 ∧ ∀ M23 : Mem, M23 = sA M 34 x6.toNatClampNeg x5 → ∀ v24 : Int32, v24 = x3 + 1 → vp_in x3 34 ∧ ∀ M26 : Mem, M26 = sA M23 35 x3.toNatClampNeg x6 → ∀ v27 : Int32, v27 = x6 + 1 → R54 v24 x4 x5 v27 M26)))
def qX0_findWay (a1 : Int32) (a2 : Int32) (M : Mem) (post : Int32 → Mem → Prop) : Prop :=
  ∀ (R27 : Int32 → Int32 → Mem → Prop) (R54 : Int32 → Int32 → Int32 → Int32 → Mem → Prop), (∀ x3 x4 M, qX0_findWay_b27 a1 a2 post R27 R54 x3 x4 M → R27 x3 x4 M) → (∀ x3 x4 x5 x6 M, qX0_findWay_b54 a1 a2 post R27 R54 x3 x4 x5 x6 M → R54 x3 x4 x5 x6 M) → qJ7_fill_53178 34 34 (-1 : Int32) M (fun M2 => vp_in a1 34 ∧ ∀ M4 : Mem, M4 = sA M2 34 a1.toNatClampNeg a1 → vp_in (0 : Int32) 34 ∧ ∀ M6 : Mem, M6 = sA M4 35 (0 : Int32).toNatClampNeg a1 → R27 (1 : Int32) (0 : Int32) M6)
def qX0_send_b9 (a1 : Int32) (a2 : Int32) (a3 : Int32) (post : Int32 → Mem → Prop) (R9 : Int32 → Int32 → Int32 → Mem → Prop) (R67 : Int32 → Int32 → Int32 → Mem → Prop) (x4 : Int32) (x5 : Int32) (x6 : Int32) (M : Mem) : Prop :=
  ((M.1 6 0) ≤ x6 → R67 x4 a2 (0 : Int32) M) ∧ (¬ (M.1 6 0) ≤ x6 → (x5 = a1 → R67 x4 a2 (0 : Int32) M) ∧ (¬ x5 = a1 → vp_in x5 34 ∧ vp_in (M.1 34 x5.toNatClampNeg) 34 ∧ vp_in x5 34 ∧ ∀ v6 : Int32, v6 = (jmin x4 (M.1 (66 + (M.1 34 x5.toNatClampNeg).toNatClampNeg) x5.toNatClampNeg)) → vp_in x5 34 ∧ ∀ v8 : Int32, v8 = (M.1 34 x5.toNatClampNeg) → ∀ v9 : Int32, v9 = x6 + 1 → R9 v6 v8 v9 M))
def qX0_send_b67 (a1 : Int32) (a2 : Int32) (a3 : Int32) (post : Int32 → Mem → Prop) (R9 : Int32 → Int32 → Int32 → Mem → Prop) (R67 : Int32 → Int32 → Int32 → Mem → Prop) (x4 : Int32) (x5 : Int32) (x6 : Int32) (M : Mem) : Prop :=
  ((M.1 6 0) ≤ x6 → post x4 M) ∧ (¬ (M.1 6 0) ≤ x6 → (x5 = a1 → post x4 M) ∧ (¬ x5 = a1 → vp_in x5 34 ∧ vp_in (M.1 34 x5.toNatClampNeg) 34 ∧ vp_in x5 34 ∧ vp_in x5 34 ∧ ∀ M16 : Mem, M16 = sA M (66 + (M.1 34 x5.toNatClampNeg).toNatClampNeg) x5.toNatClampNeg ((M.1 (66 + (M.1 34 x5.toNatClampNeg).toNatClampNeg) x5.toNatClampNeg) - x4) → vp_in x5 34 ∧ vp_in x5 34 ∧ vp_in (M16.1 34 x5.toNatClampNeg) 34 ∧ vp_in (M16.1 34 x5.toNatClampNeg) 34 ∧ ∀ M21 : Mem, M21 = sA M16 (66 + x5.toNatClampNeg) (M16.1 34 x5.toNatClampNeg).toNatClampNeg ((M16.1 (66 + x5.toNatClampNeg) (M16.1 34 x5.toNatClampNeg).toNatClampNeg) + x4) → vp_in x5 34 ∧ ∀ v23 : Int32, v23 = (M21.1 34 x5.toNatClampNeg) → ∀ v24 : Int32, v24 = x6 + 1 → R67 x4 v23 v24 M21))
def qX0_send (a1 : Int32) (a2 : Int32) (a3 : Int32) (M : Mem) (post : Int32 → Mem → Prop) : Prop :=
  ∀ (R9 : Int32 → Int32 → Int32 → Mem → Prop) (R67 : Int32 → Int32 → Int32 → Mem → Prop), (∀ x4 x5 x6 M, qX0_send_b9 a1 a2 a3 post R9 R67 x4 x5 x6 M → R9 x4 x5 x6 M) → (∀ x4 x5 x6 M, qX0_send_b67 a1 a2 a3 post R9 R67 x4 x5 x6 M → R67 x4 x5 x6 M) → R9 a3 a2 (0 : Int32) M
def qX0_push_b6 (a1 : Int32) (a2 : Int32) (a3 : Int32) (post : Int32 → Mem → Prop) (R6 : Int32 → Int32 → Mem → Prop) (x4 : Int32) (x5 : Int32) (M : Mem) : Prop :=
  ((1000000 : Int32) ≤ x5 → post x4 M) ∧ (¬ (1000000 : Int32) ≤ x5 → (a3 ≤ x4 → post x4 M) ∧ (¬ a3 ≤ x4 → qX0_findWay a1 a2 M (fun r3 M4 => (r3 = 0 → post x4 M4) ∧ (¬ r3 = 0 → qX0_send a1 a2 (a3 - x4) M4 (fun r6 M7 => ∀ v8 : Int32, v8 = (x4 + r6) → ∀ v9 : Int32, v9 = x5 + 1 → R6 v8 v9 M7)))))
def qX0_push (a1 : Int32) (a2 : Int32) (a3 : Int32) (M : Mem) (post : Int32 → Mem → Prop) : Prop :=
  ∀ (R6 : Int32 → Int32 → Mem → Prop), (∀ x4 x5 M, qX0_push_b6 a1 a2 a3 post R6 x4 x5 M → R6 x4 x5 M) → R6 (0 : Int32) (0 : Int32) M
def qX0_settle (a1 : Int32) (a2 : Int32) (M : Mem) (post : Int32 → Mem → Prop) : Prop :=
  vp_in a1 34 ∧ vp_in a2 34 ∧ ∀ v3 : Int32, v3 = (M.1 (66 + a1.toNatClampNeg) a2.toNatClampNeg) → vp_in a2 34 ∧ vp_in a1 34 ∧ ∀ v6 : Int32, v6 = (M.1 (66 + a2.toNatClampNeg) a1.toNatClampNeg) → vp_in a1 34 ∧ vp_in a2 34 ∧ ∀ M9 : Mem, M9 = sA M (66 + a1.toNatClampNeg) a2.toNatClampNeg (0 : Int32) → vp_in a2 34 ∧ vp_in a1 34 ∧ ∀ M12 : Mem, M12 = sA M9 (66 + a2.toNatClampNeg) a1.toNatClampNeg (0 : Int32) → qX0_push a2 a1 v3 M12 (fun r13 M14 => post (v6 + r13) M14)
def qX3_settleParts_b2  (post : Mem → Prop) (R2 : Int32 → Mem → Prop) (R17 : Int32 → Int32 → Mem → Prop) (x1 : Int32) (M : Mem) : Prop :=
  ((M.1 3 0) ≤ x1 → post M) ∧ (¬ (M.1 3 0) ≤ x1 → vp_in x1 8 ∧ ∀ v3 : Int32, v3 = (M.1 21 x1.toNatClampNeg) → R17 x1 v3 M)
def qX3_settleParts_b17  (post : Mem → Prop) (R2 : Int32 → Mem → Prop) (R17 : Int32 → Int32 → Mem → Prop) (x1 : Int32) (x2 : Int32) (M : Mem) : Prop :=
  vp_in x1 8 ∧ ((M.1 22 x1.toNatClampNeg) ≤ x2 → ∀ v6 : Int32, v6 = x1 + 1 → R2 v6 M) ∧ (¬ (M.1 22 x1.toNatClampNeg) ≤ x2 → vp_in x1 8 ∧ qX0_settle x1 ((8 : Int32) + x2) M (fun r8 M9 => vp_in x2 24 ∧ ∀ M11 : Mem, M11 = sA M9 (42 + x1.toNatClampNeg) x2.toNatClampNeg r8 → ∀ v12 : Int32, v12 = x2 + 1 → R17 x1 v12 M11))
def qX3_settleParts  (M : Mem) (post : Mem → Prop) : Prop :=
  ∀ (R2 : Int32 → Mem → Prop) (R17 : Int32 → Int32 → Mem → Prop), (∀ x1 M, qX3_settleParts_b2 post R2 R17 x1 M → R2 x1 M) → (∀ x1 x2 M, qX3_settleParts_b17 post R2 R17 x1 x2 M → R17 x1 x2 M) → R2 (0 : Int32) M
def qX3_lay (a2 : Int32) (M : Mem) (post : Mem → Prop) : Prop :=
  (¬ (M.1 3 8) = a2 → ∀ M2 : Mem, M2 = sA M 3 8 a2 → qX3_layPipes a2 M2 (fun r3 M4 => ∀ M5 : Mem, M5 = sA M4 3 1 r3 → qX0_push (32 : Int32) (33 : Int32) (M5.1 3 1) M5 (fun r6 M7 => ∀ M8 : Mem, M8 = sA M7 3 1 ((M5.1 3 1) - r6) → (¬ (M8.1 3 1) = 0 → post M8) ∧ ((M8.1 3 1) = 0 → qX3_settleParts M8 (fun M11 => post M11))))) ∧ ((M.1 3 8) = a2 → post M)
def qX6_rest (a1 : Int32) (M : Mem) (post : Int32 → Mem → Prop) : Prop :=
  qX1_isFall a1 M (fun r1 M2 => (¬ r1 = 0 → qX1_standing a1 M2 (fun r4 M5 => qX3_lay r4 M5 (fun M7 => qX6_answer (M7.1 3 1) M7 (fun r8 M9 => post r8 M9)))) ∧ (r1 = 0 → qX6_deny (1 : Int32) M2 (fun r10 M11 => post r10 M11)))
def qX3_hasBatch (a1 : Int32) (M : Mem) (post : Int32 → Mem → Prop) : Prop :=
  qX6_within (a1.toInt64) (0 : Int32) ((M.1 3 0) - (1 : Int32)) M (fun r1 M2 => zb r1 ∧ post r1 M2)
def qX6_part (a1 : Int32) (a2 : Int32) (a3 : Int32) (M : Mem) (post : Int32 → Mem → Prop) : Prop :=
  qX1_isFall a1 M (fun r1 M2 => (r1 = 0 → qX6_deny (1 : Int32) M2 (fun r4 M5 => post r4 M5)) ∧ (¬ r1 = 0 → qX3_hasBatch a2 M2 (fun r6 M7 => (r6 = 0 → qX6_deny (1 : Int32) M7 (fun r9 M10 => post r9 M10)) ∧ (¬ r6 = 0 → qX6_isHour a3 M7 (fun r11 M12 => (¬ r11 = 0 → qX1_standing a1 M12 (fun r14 M15 => qX3_lay r14 M15 (fun M17 => ((M17.1 3 1) ≤ 0 → vp_in a2 8 ∧ vp_in a3 24 ∧ qX6_answer (M17.1 (42 + a2.toNatClampNeg) a3.toNatClampNeg) M17 (fun r21 M22 => post r21 M22)) ∧ (¬ (M17.1 3 1) ≤ 0 → qX6_deny (7 : Int32) M17 (fun r23 M24 => post r23 M24))))) ∧ (r11 = 0 → qX6_deny (1 : Int32) M12 (fun r25 M26 => post r25 M26)))))))
def qX6_isLine (a0 : Int32) (a1 : Int32) (a2 : Int32) (M : Mem) (post : Int32 → Mem → Prop) : Prop :=
  qX4_isNumber a0 M (fun r1 M2 => (r1 = 0 → post (0 : Int32) M2) ∧ (¬ r1 = 0 → qX6_within (a1.toInt64) (1 : Int32) (64 : Int32) M2 (fun r4 M5 => (r4 = 0 → post (0 : Int32) M5) ∧ (¬ r4 = 0 → qX6_within (a2.toInt64) (1 : Int32) (100 : Int32) M5 (fun r7 M8 => (r7 = 0 → post (0 : Int32) M8) ∧ (¬ r7 = 0 → post (1 : Int32) M8))))))
def qX4_whyNotFirst_b25 (a1 : Int32) (a2 : Int32) (a3 : Int32) (post : Int32 → Mem → Prop) (R25 : Int32 → Mem → Prop) (x4 : Int32) (M : Mem) : Prop :=
  (a2 ≤ x4 → post (0 : Int32) M) ∧ (¬ a2 ≤ x4 → vp_in a1 6 ∧ vp_in x4 64 ∧ qX6_within (M.2 (36 + a1.toNatClampNeg) x4.toNatClampNeg) (0 : Int32) a3 M (fun r9 M10 => (¬ r9 = 0 → ∀ v12 : Int32, v12 = x4 + 1 → R25 v12 M10) ∧ (r9 = 0 → post (1 : Int32) M10)))
def qX4_whyNotFirst (a1 : Int32) (a2 : Int32) (a3 : Int32) (M : Mem) (post : Int32 → Mem → Prop) : Prop :=
  ∀ (R25 : Int32 → Mem → Prop), (∀ x4 M, qX4_whyNotFirst_b25 a1 a2 a3 post R25 x4 M → R25 x4 M) → qX4_isMissing a1 M (fun r1 M2 => (r1 = 0 → vp_in a1 6 ∧ (a2 ≤ (M2.1 9 a1.toNatClampNeg) → R25 (0 : Int32) M2) ∧ (¬ a2 ≤ (M2.1 9 a1.toNatClampNeg) → post (3 : Int32) M2)) ∧ (¬ r1 = 0 → post (2 : Int32) M2))
def qX5_note (a1 : Int32) (M : Mem) (post : Mem → Prop) : Prop :=
  ∀ M1 : Mem, M1 = sA M 4 0 (jmax (M.1 4 0) a1) → ∀ M2 : Mem, M2 = sA M1 4 1 ((M1.1 4 1) + a1) → ∀ M3 : Mem, M3 = sA M2 4 2 ((M2.1 4 2) + (1 : Int32)) → (a1 ≤ 0 → ∀ M5 : Mem, M5 = sA M3 4 3 ((M3.1 4 3) + (0 : Int32)) → post M5) ∧ (¬ a1 ≤ 0 → ∀ M6 : Mem, M6 = sA M3 4 3 ((M3.1 4 3) + (1 : Int32)) → post M6)
def qX5_serve_b39 (a2 : Int32) (a3 : Int32) (a4 : Int32) (a5 : Int32) (post : Mem → Prop) (R39 : Int32 → Int32 → Mem → Prop) (R57 : Int32 → Int32 → Int64 → Int32 → Mem → Prop) (x6 : Int32) (x7 : Int32) (M : Mem) : Prop :=
  (a3 ≤ x7 → post M) ∧ (¬ a3 ≤ x7 → qX4_at a2 x7 M (fun r9 M10 => R57 x6 x7 r9 (0 : Int32) M10))
def qX5_serve_b57 (a2 : Int32) (a3 : Int32) (a4 : Int32) (a5 : Int32) (post : Mem → Prop) (R39 : Int32 → Int32 → Mem → Prop) (R57 : Int32 → Int32 → Int64 → Int32 → Mem → Prop) (x6 : Int32) (x7 : Int32) (x8 : Int64) (x10 : Int32) (M : Mem) : Prop :=
  (0 ≤ (lg_cmp (x10.toInt64) x8) → ∀ v12 : Int32, v12 = x7 + 1 → R39 x6 v12 M) ∧ (¬ 0 ≤ (lg_cmp (x10.toInt64) x8) → vp_in x6 20 ∧ ∀ v14 : Int32, v14 = (jmax x7 (M.1 24 x6.toNatClampNeg)) → qX5_note (v14 - x7) M (fun M16 => ∀ M17 : Mem, M17 = sA M16 4 4 (v14 + a5) → vp_in x6 20 ∧ ∀ M19 : Mem, M19 = sA M17 24 x6.toNatClampNeg (M17.1 4 4) → (a4 ≤ (x6 + (1 : Int32)) → ∀ v21 : Int32, v21 = x10 + 1 → R57 (0 : Int32) x7 x8 v21 M19) ∧ (¬ a4 ≤ (x6 + (1 : Int32)) → ∀ v22 : Int32, v22 = (x6 + (1 : Int32)) → ∀ v23 : Int32, v23 = x10 + 1 → R57 v22 x7 x8 v23 M19)))
def qX5_serve (a2 : Int32) (a3 : Int32) (a4 : Int32) (a5 : Int32) (M : Mem) (post : Mem → Prop) : Prop :=
  ∀ (R39 : Int32 → Int32 → Mem → Prop) (R57 : Int32 → Int32 → Int64 → Int32 → Mem → Prop), (∀ x6 x7 M, qX5_serve_b39 a2 a3 a4 a5 post R39 R57 x6 x7 M → R39 x6 x7 M) → (∀ x6 x7 x8 x10 M, qX5_serve_b57 a2 a3 a4 a5 post R39 R57 x6 x7 x8 x10 M → R57 x6 x7 x8 x10 M) → ∀ M1 : Mem, M1 = sA M 4 0 (0 : Int32) → ∀ M2 : Mem, M2 = sA M1 4 1 (0 : Int32) → ∀ M3 : Mem, M3 = sA M2 4 2 (0 : Int32) → ∀ M4 : Mem, M4 = sA M3 4 3 (0 : Int32) → ∀ M5 : Mem, M5 = sA M4 4 4 (0 : Int32) → qJ7_fill_53178 24 20 (0 : Int32) M5 (fun M7 => R39 (0 : Int32) (0 : Int32) M7)
def qX5_told (a1 : Int32) (M : Mem) (post : Int32 → Mem → Prop) : Prop :=
  (a1.toInt = 0 → post (M.1 4 0) M) ∧ (a1.toInt = 1 → post (M.1 4 1) M) ∧ (a1.toInt = 2 → post (M.1 4 2) M) ∧ (a1.toInt = 3 → post (M.1 4 3) M) ∧ ((a1.toInt < 0 ∨ 3 < a1.toInt) → post (M.1 4 4) M)
def qX6_line (a1 : Int32) (a2 : Int32) (a3 : Int32) (a4 : Int32) (a5 : Int32) (M : Mem) (post : Int32 → Mem → Prop) : Prop :=
  qX6_isLine a1 a2 a4 M (fun r1 M2 => (r1 = 0 → qX6_deny (1 : Int32) M2 (fun r4 M5 => post r4 M5)) ∧ (¬ r1 = 0 → qX6_within (a3.toInt64) (1 : Int32) (20 : Int32) M2 (fun r6 M7 => (r6 = 0 → qX6_deny (1 : Int32) M7 (fun r9 M10 => post r9 M10)) ∧ (¬ r6 = 0 → qX6_within (a5.toInt64) (0 : Int32) (4 : Int32) M7 (fun r11 M12 => (¬ r11 = 0 → qX4_whyNotFirst a1 a2 (100 : Int32) M12 (fun r14 M15 => (r14 = 0 → qX5_serve a1 a2 a3 a4 M15 (fun M18 => qX5_told a5 M18 (fun r19 M20 => qX6_answer r19 M20 (fun r21 M22 => post r21 M22)))) ∧ (¬ r14 = 0 → qX6_deny r14 M15 (fun r23 M24 => post r23 M24)))) ∧ (r11 = 0 → qX6_deny (1 : Int32) M12 (fun r25 M26 => post r25 M26)))))))
def qX6_hands_b56 (a1 : Int32) (a2 : Int32) (a3 : Int32) (a4 : Int32) (post : Int32 → Mem → Prop) (R56 : Int32 → Mem → Prop) (x6 : Int32) (M : Mem) : Prop :=
  ((20 : Int32) < x6 → qX6_deny (7 : Int32) M (fun r17 M18 => post r17 M18)) ∧ (¬ (20 : Int32) < x6 → qX5_serve a1 a2 x6 a3 M (fun M20 => (a4 < (M20.1 4 0) → ∀ v22 : Int32, v22 = x6 + 1 → R56 v22 M20) ∧ (¬ a4 < (M20.1 4 0) → qX6_answer x6 M20 (fun r23 M24 => post r23 M24))))
def qX6_hands (a1 : Int32) (a2 : Int32) (a3 : Int32) (a4 : Int32) (M : Mem) (post : Int32 → Mem → Prop) : Prop :=
  ∀ (R56 : Int32 → Mem → Prop), (∀ x6 M, qX6_hands_b56 a1 a2 a3 a4 post R56 x6 M → R56 x6 M) → qX6_isLine a1 a2 a3 M (fun r1 M2 => (r1 = 0 → qX6_deny (1 : Int32) M2 (fun r4 M5 => post r4 M5)) ∧ (¬ r1 = 0 → qX6_within (a4.toInt64) (0 : Int32) (10000 : Int32) M2 (fun r6 M7 => (¬ r6 = 0 → qX4_whyNotFirst a1 a2 (100 : Int32) M7 (fun r9 M10 => (r9 = 0 → R56 (1 : Int32) M10) ∧ (¬ r9 = 0 → qX6_deny r9 M10 (fun r12 M13 => post r12 M13)))) ∧ (r6 = 0 → qX6_deny (1 : Int32) M7 (fun r14 M15 => post r14 M15)))))
def qX2_want_b2 (a2 : Int32) (post : Mem → Prop) (R2 : Int32 → Mem → Prop) (x3 : Int32) (M : Mem) : Prop :=
  ((12 : Int32) ≤ x3 → ∀ M2 : Mem, M2 = sA M 5 11 (0 : Int32) → post M2) ∧ (¬ (12 : Int32) ≤ x3 → qX4_at a2 x3 M (fun r3 M4 => vp_in x3 12 ∧ ∀ M6 : Mem, M6 = sA M4 26 x3.toNatClampNeg (r3.toInt32) → ∀ v7 : Int32, v7 = x3 + 1 → R2 v7 M6))
def qX2_want (a2 : Int32) (M : Mem) (post : Mem → Prop) : Prop :=
  ∀ (R2 : Int32 → Mem → Prop), (∀ x3 M, qX2_want_b2 a2 post R2 x3 M → R2 x3 M) → R2 (0 : Int32) M
def qX6_wanted (a1 : Int32) (M : Mem) (post : Int32 → Mem → Prop) : Prop :=
  qX4_isNumber a1 M (fun r1 M2 => (¬ r1 = 0 → qX4_whyNotFirst a1 (12 : Int32) (500 : Int32) M2 (fun r4 M5 => (r4 = 0 → qX2_want a1 M5 (fun M8 => qX6_agree M8 (fun r9 M10 => zb r9 ∧ post r9 M10))) ∧ (¬ r4 = 0 → qX6_refuse r4 M5 (fun r11 M12 => zb r11 ∧ post r11 M12)))) ∧ (r1 = 0 → qX6_refuse (1 : Int32) M2 (fun r13 M14 => zb r13 ∧ post r13 M14)))
def qX2_own (a1 : Int32) (M : Mem) (post : Mem → Prop) : Prop :=
  ∀ M1 : Mem, M1 = sA M 5 3 a1 → ∀ M2 : Mem, M2 = sA M1 5 11 (0 : Int32) → post M2
def qX6_have (a1 : Int32) (M : Mem) (post : Int32 → Mem → Prop) : Prop :=
  qX6_within (a1.toInt64) (0 : Int32) (500 : Int32) M (fun r1 M2 => (¬ r1 = 0 → qX2_own a1 M2 (fun M5 => qX6_agree M5 (fun r6 M7 => zb r6 ∧ post r6 M7))) ∧ (r1 = 0 → qX6_refuse (1 : Int32) M2 (fun r8 M9 => zb r8 ∧ post r8 M9)))
def qX6_isMonth (a0 : Int32) (M : Mem) (post : Int32 → Mem → Prop) : Prop :=
  qX6_within (a0.toInt64) (0 : Int32) (11 : Int32) M (fun r1 M2 => zb r1 ∧ post r1 M2)
def qX2_addType_b40 (a1 : Int32) (a2 : Int32) (a3 : Int32) (a5 : Int32) (post : Int32 → Mem → Prop) (R40 : Int32 → Int32 → Mem → Prop) (x6 : Int32) (x7 : Int32) (M : Mem) : Prop :=
  ((12 : Int32) ≤ x7 → ∀ M10 : Mem, M10 = sA M 5 11 (0 : Int32) → post x6 M10) ∧ (¬ (12 : Int32) ≤ x7 → vp_in x6 4 ∧ qX4_at a5 x7 M (fun r12 M13 => vp_in x7 12 ∧ ∀ M15 : Mem, M15 = sA M13 (62 + x6.toNatClampNeg) x7.toNatClampNeg (r12.toInt32) → ∀ v16 : Int32, v16 = x7 + 1 → R40 x6 v16 M15))
def qX2_addType (a1 : Int32) (a2 : Int32) (a3 : Int32) (a5 : Int32) (M : Mem) (post : Int32 → Mem → Prop) : Prop :=
  ∀ (R40 : Int32 → Int32 → Mem → Prop), (∀ x6 x7 M, qX2_addType_b40 a1 a2 a3 a5 post R40 x6 x7 M → R40 x6 x7 M) → ∀ M1 : Mem, M1 = sA M 5 0 ((M.1 5 0) + (1 : Int32)) → ∀ v2 : Int32, v2 = (M.1 5 0) → vp_in v2 4 ∧ ∀ M4 : Mem, M4 = sA M1 27 v2.toNatClampNeg a1 → vp_in v2 4 ∧ ∀ M6 : Mem, M6 = sA M4 28 v2.toNatClampNeg a2 → vp_in v2 4 ∧ ∀ M8 : Mem, M8 = sA M6 29 v2.toNatClampNeg a3 → R40 v2 (0 : Int32) M8
def qX6_type (a1 : Int32) (a2 : Int32) (a3 : Int32) (a4 : Int32) (M : Mem) (post : Int32 → Mem → Prop) : Prop :=
  qX6_within (a1.toInt64) (1 : Int32) (100 : Int32) M (fun r1 M2 => (r1 = 0 → qX6_deny (1 : Int32) M2 (fun r4 M5 => post r4 M5)) ∧ (¬ r1 = 0 → qX6_isMonth a2 M2 (fun r6 M7 => (r6 = 0 → qX6_deny (1 : Int32) M7 (fun r9 M10 => post r9 M10)) ∧ (¬ r6 = 0 → qX4_isNumber a3 M7 (fun r11 M12 => (r11 = 0 → qX6_deny (1 : Int32) M12 (fun r14 M15 => post r14 M15)) ∧ (¬ r11 = 0 → qX6_within (a4.toInt64) (0 : Int32) (1000 : Int32) M12 (fun r16 M17 => (¬ r16 = 0 → qX4_whyNotFirst a3 (12 : Int32) (100000 : Int32) M17 (fun r19 M20 => (r19 = 0 → (¬ (M20.1 5 0) = (4 : Int32) → qX2_addType a1 a2 a4 a3 M20 (fun r23 M24 => qX6_answer r23 M24 (fun r25 M26 => post r25 M26))) ∧ ((M20.1 5 0) = (4 : Int32) → qX6_deny (4 : Int32) M20 (fun r27 M28 => post r27 M28))) ∧ (¬ r19 = 0 → qX6_deny r19 M20 (fun r29 M30 => post r29 M30)))) ∧ (r16 = 0 → qX6_deny (1 : Int32) M17 (fun r31 M32 => post r31 M32)))))))))
def qJ7_rangeCheck_23922 (a0 : Int32) (a1 : Int32) (a2 : Int32) (M : Mem) (post : Mem → Prop) : Prop :=
  (a1 ≤ a2 → (0 ≤ a1 → (a2 ≤ a0 → post M) ∧ (¬ a2 ≤ a0 → False)) ∧ (¬ 0 ≤ a1 → False)) ∧ (¬ a1 ≤ a2 → False)
def qJ7_fill_fda19_b10 (k n : Nat) (a1 : Int32) (a2 : Int32) (a3 : Int32) (post : Mem → Prop) (R10 : Int32 → Mem → Prop) (x4 : Int32) (M : Mem) : Prop :=
  (a2 ≤ x4 → post M) ∧ (¬ a2 ≤ x4 → vp_in x4 n ∧ ∀ M5 : Mem, M5 = sA M k x4.toNatClampNeg a3 → ∀ v6 : Int32, v6 = x4 + 1 → R10 v6 M5)
def qJ7_fill_fda19 (k n : Nat) (a1 : Int32) (a2 : Int32) (a3 : Int32) (M : Mem) (post : Mem → Prop) : Prop :=
  ∀ (R10 : Int32 → Mem → Prop), (∀ x4 M, qJ7_fill_fda19_b10 k n a1 a2 a3 post R10 x4 M → R10 x4 M) → qJ7_rangeCheck_23922 (nI n) a1 a2 M (fun M2 => R10 a1 M2)
def qX2_word (a0 : Int32) (a1 : Int32) (a2 : Int32) (M : Mem) (post : Int32 → Mem → Prop) : Prop :=
  post ((((a0 * (4 : Int32)) + a1) * (8 : Int32)) + (a2 >>> ((6 : Int32) &&& 31))) M
def qX2_offer_b33 (a1 : Int32) (a2 : Int32) (post : Mem → Prop) (R33 : Int32 → Int32 → Mem → Prop) (x3 : Int32) (x4 : Int32) (M : Mem) : Prop :=
  (x4 < 0 → post M) ∧ (¬ x4 < 0 → vp_in a2 4 ∧ vp_in (jmin (500 : Int32) (x4 + (M.1 27 a2.toNatClampNeg))) 501 ∧ ∀ v9 : Int32, v9 = (x3 + (M.1 31 (jmin (500 : Int32) (x4 + (M.1 27 a2.toNatClampNeg))).toNatClampNeg)) → vp_in x4 501 ∧ ((M.1 31 x4.toNatClampNeg) ≤ v9 → ∀ v12 : Int32, v12 = x4 + (-1) → R33 x3 v12 M) ∧ (¬ (M.1 31 x4.toNatClampNeg) ≤ v9 → vp_in x4 501 ∧ ∀ M14 : Mem, M14 = sA M 31 x4.toNatClampNeg v9 → qX2_word a1 a2 x4 M14 (fun r15 M16 => vp_in r15 384 ∧ vp_in r15 384 ∧ ∀ M19 : Mem, M19 = sB M16 32 r15.toNatClampNeg ((M16.2 32 r15.toNatClampNeg) ||| (jshlL (1 : Int64) (x4 &&& (63 : Int32)))) → ∀ v20 : Int32, v20 = x4 + (-1) → R33 x3 v20 M19)))
def qX2_offer (a1 : Int32) (a2 : Int32) (M : Mem) (post : Mem → Prop) : Prop :=
  ∀ (R33 : Int32 → Int32 → Mem → Prop), (∀ x3 x4 M, qX2_offer_b33 a1 a2 post R33 x3 x4 M → R33 x3 x4 M) → vp_in a2 4 ∧ vp_in a2 4 ∧ vp_in (a1 - (M.1 28 a2.toNatClampNeg)) 12 ∧ vp_in a2 4 ∧ ∀ v5 : Int32, v5 = ((M.1 (62 + a2.toNatClampNeg) (a1 - (M.1 28 a2.toNatClampNeg)).toNatClampNeg) + ((M.1 29 a2.toNatClampNeg) * ((12 : Int32) - a1))) → R33 v5 (499 : Int32) M
def qX2_isEnough  (M : Mem) (post : Int32 → Mem → Prop) : Prop :=
  ((1000000000 : Int32) ≤ (M.1 5 1) → post (0 : Int32) M) ∧ (¬ (1000000000 : Int32) ≤ (M.1 5 1) → post (1 : Int32) M)
def qX2_mustBuy (a1 : Int32) (a2 : Int32) (a3 : Int32) (M : Mem) (post : Int32 → Mem → Prop) : Prop :=
  qX2_word a1 a2 a3 M (fun r1 M2 => vp_in r1 384 ∧ ((lg_cmp ((jushrL (M2.2 32 r1.toNatClampNeg) (a3 &&& (63 : Int32))) &&& (1 : Int64)) (0 : Int64)) = 0 → post (0 : Int32) M2) ∧ (¬ (lg_cmp ((jushrL (M2.2 32 r1.toNatClampNeg) (a3 &&& (63 : Int32))) &&& (1 : Int64)) (0 : Int64)) = 0 → post (1 : Int32) M2))
def qX2_choose_b7  (post : Mem → Prop) (R7 : Int32 → Int32 → Mem → Prop) (R15 : Int32 → Int32 → Int32 → Mem → Prop) (R26 : Int32 → Int32 → Int32 → Int32 → Mem → Prop) (R72 : Int32 → Int32 → Int32 → Int32 → Mem → Prop) (x1 : Int32) (x2 : Int32) (M : Mem) : Prop :=
  ((12 : Int32) ≤ x2 → post M) ∧ (¬ (12 : Int32) ≤ x2 → R15 x1 x2 (0 : Int32) M)
def qX2_choose_b15  (post : Mem → Prop) (R7 : Int32 → Int32 → Mem → Prop) (R15 : Int32 → Int32 → Int32 → Mem → Prop) (R26 : Int32 → Int32 → Int32 → Int32 → Mem → Prop) (R72 : Int32 → Int32 → Int32 → Int32 → Mem → Prop) (x1 : Int32) (x2 : Int32) (x3 : Int32) (M : Mem) : Prop :=
  ((M.1 5 0) ≤ x3 → ∀ v4 : Int32, v4 = x2 + 1 → R7 x1 v4 M) ∧ (¬ (M.1 5 0) ≤ x3 → R26 x1 x2 x3 (0 : Int32) M)
def qX2_choose_b26  (post : Mem → Prop) (R7 : Int32 → Int32 → Mem → Prop) (R15 : Int32 → Int32 → Int32 → Mem → Prop) (R26 : Int32 → Int32 → Int32 → Int32 → Mem → Prop) (R72 : Int32 → Int32 → Int32 → Int32 → Mem → Prop) (x1 : Int32) (x2 : Int32) (x3 : Int32) (x4 : Int32) (M : Mem) : Prop :=
  ((500 : Int32) ≤ x4 → R72 x1 x2 x3 x4 M) ∧ (¬ (500 : Int32) ≤ x4 → ((500 : Int32) ≤ x1 → R72 x1 x2 x3 x4 M) ∧ (¬ (500 : Int32) ≤ x1 → qX2_mustBuy x2 x3 x1 M (fun r7 M8 => (r7 = 0 → R72 x1 x2 x3 x4 M8) ∧ (¬ r7 = 0 → vp_in x3 4 ∧ ∀ v11 : Int32, v11 = (jmin (500 : Int32) (x1 + (M8.1 27 x3.toNatClampNeg))) → ∀ v12 : Int32, v12 = x4 + 1 → R26 v11 x2 x3 v12 M8))))
def qX2_choose_b72  (post : Mem → Prop) (R7 : Int32 → Int32 → Mem → Prop) (R15 : Int32 → Int32 → Int32 → Mem → Prop) (R26 : Int32 → Int32 → Int32 → Int32 → Mem → Prop) (R72 : Int32 → Int32 → Int32 → Int32 → Mem → Prop) (x1 : Int32) (x2 : Int32) (x3 : Int32) (x4 : Int32) (M : Mem) : Prop :=
  vp_in x2 12 ∧ vp_in x3 4 ∧ ∀ M15 : Mem, M15 = sA M (50 + x2.toNatClampNeg) x3.toNatClampNeg x4 → ∀ v16 : Int32, v16 = x3 + 1 → R15 x1 x2 v16 M15
def qX2_choose  (M : Mem) (post : Mem → Prop) : Prop :=
  ∀ (R7 : Int32 → Int32 → Mem → Prop) (R15 : Int32 → Int32 → Int32 → Mem → Prop) (R26 : Int32 → Int32 → Int32 → Int32 → Mem → Prop) (R72 : Int32 → Int32 → Int32 → Int32 → Mem → Prop), (∀ x1 x2 M, qX2_choose_b7 post R7 R15 R26 R72 x1 x2 M → R7 x1 x2 M) → (∀ x1 x2 x3 M, qX2_choose_b15 post R7 R15 R26 R72 x1 x2 x3 M → R15 x1 x2 x3 M) → (∀ x1 x2 x3 x4 M, qX2_choose_b26 post R7 R15 R26 R72 x1 x2 x3 x4 M → R26 x1 x2 x3 x4 M) → (∀ x1 x2 x3 x4 M, qX2_choose_b72 post R7 R15 R26 R72 x1 x2 x3 x4 M → R72 x1 x2 x3 x4 M) → ∀ v1 : Int32, v1 = (M.1 5 3) → R7 v1 (0 : Int32) M
def qX2_solve_b32  (post : Mem → Prop) (R32 : Int32 → Mem → Prop) (R59 : Int32 → Int32 → Mem → Prop) (x1 : Int32) (M : Mem) : Prop :=
  (x1 < 0 → vp_in (M.1 5 3) 501 ∧ ∀ M9 : Mem, M9 = sA M 5 1 (M.1 31 (M.1 5 3).toNatClampNeg) → qX2_isEnough M9 (fun r10 M11 => (r10 = 0 → post M11) ∧ (¬ r10 = 0 → qX2_choose M11 (fun M14 => post M14)))) ∧ (¬ x1 < 0 → vp_in x1 12 ∧ qJ7_fill_fda19 31 501 (0 : Int32) (M.1 26 x1.toNatClampNeg) (1000000000 : Int32) M (fun M17 => ∀ v18 : Int32, v18 = ((M17.1 5 0) - (1 : Int32)) → R59 x1 v18 M17))
def qX2_solve_b59  (post : Mem → Prop) (R32 : Int32 → Mem → Prop) (R59 : Int32 → Int32 → Mem → Prop) (x1 : Int32) (x2 : Int32) (M : Mem) : Prop :=
  (x2 < 0 → ∀ v20 : Int32, v20 = x1 + (-1) → R32 v20 M) ∧ (¬ x2 < 0 → vp_in x2 4 ∧ (x1 < (M.1 28 x2.toNatClampNeg) → ∀ v23 : Int32, v23 = x2 + (-1) → R59 x1 v23 M) ∧ (¬ x1 < (M.1 28 x2.toNatClampNeg) → qX2_offer x1 x2 M (fun M25 => ∀ v26 : Int32, v26 = x2 + (-1) → R59 x1 v26 M25)))
def qX2_solve  (M : Mem) (post : Mem → Prop) : Prop :=
  ∀ (R32 : Int32 → Mem → Prop) (R59 : Int32 → Int32 → Mem → Prop), (∀ x1 M, qX2_solve_b32 post R32 R59 x1 M → R32 x1 M) → (∀ x1 x2 M, qX2_solve_b59 post R32 R59 x1 x2 M → R59 x1 x2 M) → ((M.1 5 11) = 0 → ∀ M2 : Mem, M2 = sA M 5 11 (1 : Int32) → qJ7_fill_53178 31 501 (0 : Int32) M2 (fun M4 => qJ7_fill_d0a16 32 384 (0 : Int64) M4 (fun M6 => R32 (11 : Int32) M6))) ∧ (¬ (M.1 5 11) = 0 → post M)
def qX6_cheapest  (M : Mem) (post : Int32 → Mem → Prop) : Prop :=
  qX2_solve M (fun M2 => qX2_isEnough M2 (fun r3 M4 => (r3 = 0 → qX6_deny (7 : Int32) M4 (fun r6 M7 => post r6 M7)) ∧ (¬ r3 = 0 → qX6_answer (M4.1 5 1) M4 (fun r8 M9 => post r8 M9))))
def qX2_hasType (a1 : Int32) (M : Mem) (post : Int32 → Mem → Prop) : Prop :=
  qX6_within (a1.toInt64) (0 : Int32) ((M.1 5 0) - (1 : Int32)) M (fun r1 M2 => zb r1 ∧ post r1 M2)
def qX6_buys (a1 : Int32) (a2 : Int32) (M : Mem) (post : Int32 → Mem → Prop) : Prop :=
  qX6_isMonth a1 M (fun r1 M2 => (r1 = 0 → qX6_deny (1 : Int32) M2 (fun r4 M5 => post r4 M5)) ∧ (¬ r1 = 0 → qX2_hasType a2 M2 (fun r6 M7 => (¬ r6 = 0 → qX2_solve M7 (fun M10 => qX2_isEnough M10 (fun r11 M12 => (r11 = 0 → qX6_deny (7 : Int32) M12 (fun r14 M15 => post r14 M15)) ∧ (¬ r11 = 0 → vp_in a1 12 ∧ vp_in a2 4 ∧ qX6_answer (M12.1 (50 + a1.toNatClampNeg) a2.toNatClampNeg) M12 (fun r18 M19 => post r18 M19))))) ∧ (r6 = 0 → qX6_deny (1 : Int32) M7 (fun r20 M21 => post r20 M21)))))
def qX7_status  (M : Mem) (post : Int32 → Mem → Prop) : Prop :=
  post (M.1 0 0) M
def qX7_is (a1 : Int32) (M : Mem) (post : Int32 → Mem → Prop) : Prop :=
  ∀ M1 : Mem, M1 = sA M 0 0 a1 → (¬ a1 = 0 → post (0 : Int32) M1) ∧ (a1 = 0 → post (1 : Int32) M1)
def qX7_refuse (a1 : Int32) (M : Mem) (post : Int32 → Mem → Prop) : Prop :=
  ∀ M1 : Mem, M1 = sA M 0 0 a1 → post (-1 : Int32) M1
def qX7_isSheet (a0 : Int32) (M : Mem) (post : Int32 → Mem → Prop) : Prop :=
  (a0 < 0 → post (0 : Int32) M) ∧ (¬ a0 < 0 → ((6 : Int32) ≤ a0 → post (0 : Int32) M) ∧ (¬ (6 : Int32) ≤ a0 → post (1 : Int32) M))
def qX7_cut (a0 : Int64) (a2 : Int32) (M : Mem) (post : Int64 → Mem → Prop) : Prop :=
  (¬ a2 = 0 → (¬ a2 = (1 : Int32) → (¬ a2 = (2 : Int32) → post a0 M) ∧ (a2 = (2 : Int32) → post ((a0.toInt32).toInt64) M)) ∧ (a2 = (1 : Int32) → post (((a0.toInt32).toInt16.toInt32).toInt64) M)) ∧ (a2 = 0 → post (((a0.toInt32).toInt8.toInt32).toInt64) M)
def qX7_sheet_b26 (a1 : Int32) (a2 : Int32) (a3 : Int32) (post : Int32 → Mem → Prop) (R26 : Mem → Prop) (R49 : Int32 → Mem → Prop)  (M : Mem) : Prop :=
  qX7_is (1 : Int32) M (fun r12 M13 => zb r12 ∧ post r12 M13)
def qX7_sheet_b49 (a1 : Int32) (a2 : Int32) (a3 : Int32) (post : Int32 → Mem → Prop) (R26 : Mem → Prop) (R49 : Int32 → Mem → Prop) (x4 : Int32) (M : Mem) : Prop :=
  (a3 ≤ x4 → qX7_is (0 : Int32) M (fun r15 M16 => zb r15 ∧ post r15 M16)) ∧ (¬ a3 ≤ x4 → vp_in (((64 : Int32) * a1) + x4) 384 ∧ ∀ M18 : Mem, M18 = sB M 3 (((64 : Int32) * a1) + x4).toNatClampNeg (0 : Int64) → ∀ v19 : Int32, v19 = x4 + 1 → R49 v19 M18)
def qX7_sheet (a1 : Int32) (a2 : Int32) (a3 : Int32) (M : Mem) (post : Int32 → Mem → Prop) : Prop :=
  ∀ (R26 : Mem → Prop) (R49 : Int32 → Mem → Prop), (∀ M, qX7_sheet_b26 a1 a2 a3 post R26 R49 M → R26 M) → (∀ x4 M, qX7_sheet_b49 a1 a2 a3 post R26 R49 x4 M → R49 x4 M) → qX7_isSheet a1 M (fun r1 M2 => (r1 = 0 → R26 M2) ∧ (¬ r1 = 0 → (a2 < 0 → R26 M2) ∧ (¬ a2 < 0 → ((3 : Int32) < a2 → R26 M2) ∧ (¬ (3 : Int32) < a2 → (a3 < 0 → R26 M2) ∧ (¬ a3 < 0 → (a3 ≤ (64 : Int32) → vp_in a1 6 ∧ ∀ M9 : Mem, M9 = sA M2 1 a1.toNatClampNeg a2 → vp_in a1 6 ∧ ∀ M11 : Mem, M11 = sA M9 2 a1.toNatClampNeg a3 → R49 (0 : Int32) M11) ∧ (¬ a3 ≤ (64 : Int32) → R26 M2))))))
def qX7_wrong (a1 : Int32) (a2 : Int32) (M : Mem) (post : Int32 → Mem → Prop) : Prop :=
  qX7_isSheet a1 M (fun r1 M2 => (¬ r1 = 0 → vp_in a1 6 ∧ (¬ (M2.1 2 a1.toNatClampNeg) = (-1 : Int32) → (a2 < 0 → post (3 : Int32) M2) ∧ (¬ a2 < 0 → vp_in a1 6 ∧ (a2 < (M2.1 2 a1.toNatClampNeg) → post (0 : Int32) M2) ∧ (¬ a2 < (M2.1 2 a1.toNatClampNeg) → post (3 : Int32) M2))) ∧ ((M2.1 2 a1.toNatClampNeg) = (-1 : Int32) → post (2 : Int32) M2)) ∧ (r1 = 0 → post (1 : Int32) M2))
def qX7_write (a1 : Int32) (a2 : Int32) (a3 : Int64) (M : Mem) (post : Int32 → Mem → Prop) : Prop :=
  qX7_wrong a1 a2 M (fun r1 M2 => (¬ r1 = 0 → qX7_is r1 M2 (fun r4 M5 => zb r4 ∧ post r4 M5)) ∧ (r1 = 0 → vp_in a1 6 ∧ qX7_cut a3 (M2.1 1 a1.toNatClampNeg) M2 (fun r7 M8 => vp_in (((64 : Int32) * a1) + a2) 384 ∧ ∀ M10 : Mem, M10 = sB M8 3 (((64 : Int32) * a1) + a2).toNatClampNeg r7 → qX7_is r1 M10 (fun r11 M12 => zb r11 ∧ post r11 M12))))
def qX7_read (a1 : Int32) (a2 : Int32) (M : Mem) (post : Int64 → Mem → Prop) : Prop :=
  qX7_wrong a1 a2 M (fun r1 M2 => ∀ M3 : Mem, M3 = sA M2 0 0 r1 → ((M3.1 0 0) ≤ 0 → vp_in (((64 : Int32) * a1) + a2) 384 ∧ post (M3.2 3 (((64 : Int32) * a1) + a2).toNatClampNeg) M3) ∧ (¬ (M3.1 0 0) ≤ 0 → post (-1 : Int64) M3))
def qX7_copy_b28 (a1 : Int32) (a2 : Int32) (a3 : Int32) (a4 : Int32) (a5 : Int32) (post : Int32 → Mem → Prop) (R28 : Mem → Prop) (R96 : Int32 → Mem → Prop) (R121 : Int32 → Int32 → Mem → Prop)  (M : Mem) : Prop :=
  qX7_is (1 : Int32) M (fun r26 M27 => zb r26 ∧ post r26 M27)
def qX7_copy_b96 (a1 : Int32) (a2 : Int32) (a3 : Int32) (a4 : Int32) (a5 : Int32) (post : Int32 → Mem → Prop) (R28 : Mem → Prop) (R96 : Int32 → Mem → Prop) (R121 : Int32 → Int32 → Mem → Prop) (x6 : Int32) (M : Mem) : Prop :=
  (a5 ≤ x6 → qX7_is (0 : Int32) M (fun r29 M30 => zb r29 ∧ post r29 M30)) ∧ (¬ a5 ≤ x6 → (a4 ≤ a2 → R121 x6 x6 M) ∧ (¬ a4 ≤ a2 → R121 x6 ((a5 - (1 : Int32)) - x6) M))
def qX7_copy_b121 (a1 : Int32) (a2 : Int32) (a3 : Int32) (a4 : Int32) (a5 : Int32) (post : Int32 → Mem → Prop) (R28 : Mem → Prop) (R96 : Int32 → Mem → Prop) (R121 : Int32 → Int32 → Mem → Prop) (x6 : Int32) (s0 : Int32) (M : Mem) : Prop :=
  vp_in ((((64 : Int32) * a1) + a2) + s0) 384 ∧ vp_in a3 6 ∧ qX7_cut (M.2 3 ((((64 : Int32) * a1) + a2) + s0).toNatClampNeg) (M.1 1 a3.toNatClampNeg) M (fun r34 M35 => vp_in ((((64 : Int32) * a3) + a4) + s0) 384 ∧ ∀ M37 : Mem, M37 = sB M35 3 ((((64 : Int32) * a3) + a4) + s0).toNatClampNeg r34 → ∀ v38 : Int32, v38 = x6 + 1 → R96 v38 M37)
def qX7_copy (a1 : Int32) (a2 : Int32) (a3 : Int32) (a4 : Int32) (a5 : Int32) (M : Mem) (post : Int32 → Mem → Prop) : Prop :=
  ∀ (R28 : Mem → Prop) (R96 : Int32 → Mem → Prop) (R121 : Int32 → Int32 → Mem → Prop), (∀ M, qX7_copy_b28 a1 a2 a3 a4 a5 post R28 R96 R121 M → R28 M) → (∀ x6 M, qX7_copy_b96 a1 a2 a3 a4 a5 post R28 R96 R121 x6 M → R96 x6 M) → (∀ x6 s0 M, qX7_copy_b121 a1 a2 a3 a4 a5 post R28 R96 R121 x6 s0 M → R121 x6 s0 M) → qX7_isSheet a1 M (fun r1 M2 => (r1 = 0 → R28 M2) ∧ (¬ r1 = 0 → qX7_isSheet a3 M2 (fun r4 M5 => (r4 = 0 → R28 M5) ∧ (¬ r4 = 0 → (a2 < 0 → R28 M5) ∧ (¬ a2 < 0 → (a4 < 0 → R28 M5) ∧ (¬ a4 < 0 → (0 ≤ a5 → vp_in a1 6 ∧ ((M5.1 2 a1.toNatClampNeg) = (-1 : Int32) → qX7_is (2 : Int32) M5 (fun r12 M13 => zb r12 ∧ post r12 M13)) ∧ (¬ (M5.1 2 a1.toNatClampNeg) = (-1 : Int32) → vp_in a3 6 ∧ (¬ (M5.1 2 a3.toNatClampNeg) = (-1 : Int32) → vp_in a1 6 ∧ (((M5.1 2 a1.toNatClampNeg) - a2) < a5 → qX7_is (3 : Int32) M5 (fun r18 M19 => zb r18 ∧ post r18 M19)) ∧ (¬ ((M5.1 2 a1.toNatClampNeg) - a2) < a5 → vp_in a3 6 ∧ (a5 ≤ ((M5.1 2 a3.toNatClampNeg) - a4) → R96 (0 : Int32) M5) ∧ (¬ a5 ≤ ((M5.1 2 a3.toNatClampNeg) - a4) → qX7_is (3 : Int32) M5 (fun r22 M23 => zb r22 ∧ post r22 M23)))) ∧ ((M5.1 2 a3.toNatClampNeg) = (-1 : Int32) → qX7_is (2 : Int32) M5 (fun r24 M25 => zb r24 ∧ post r24 M25)))) ∧ (¬ 0 ≤ a5 → R28 M5)))))))
def qX7_drop (a1 : Int32) (M : Mem) (post : Int32 → Mem → Prop) : Prop :=
  qX7_isSheet a1 M (fun r1 M2 => (¬ r1 = 0 → vp_in a1 6 ∧ (¬ (M2.1 2 a1.toNatClampNeg) = (-1 : Int32) → vp_in a1 6 ∧ ∀ M7 : Mem, M7 = sA M2 2 a1.toNatClampNeg (-1 : Int32) → qX7_is (0 : Int32) M7 (fun r8 M9 => zb r8 ∧ post r8 M9)) ∧ ((M2.1 2 a1.toNatClampNeg) = (-1 : Int32) → qX7_is (2 : Int32) M2 (fun r10 M11 => zb r10 ∧ post r10 M11))) ∧ (r1 = 0 → qX7_is (1 : Int32) M2 (fun r12 M13 => zb r12 ∧ post r12 M13)))
def qX7_none  (M : Mem) (post : Int32 → Mem → Prop) : Prop :=
  qX7_is (8 : Int32) M (fun r1 M2 => zb r1 ∧ post r1 M2)
def qX7_wrongNumbers_b36 (a1 : Int32) (a2 : Int32) (a3 : Int64) (post : Int32 → Mem → Prop) (R36 : Int32 → Mem → Prop) (x5 : Int32) (M : Mem) : Prop :=
  (a2 ≤ x5 → post (0 : Int32) M) ∧ (¬ a2 ≤ x5 → vp_in (((64 : Int32) * a1) + x5) 384 ∧ ((lg_cmp (M.2 3 (((64 : Int32) * a1) + x5).toNatClampNeg) (0 : Int64)) < 0 → post (1 : Int32) M) ∧ (¬ (lg_cmp (M.2 3 (((64 : Int32) * a1) + x5).toNatClampNeg) (0 : Int64)) < 0 → vp_in (((64 : Int32) * a1) + x5) 384 ∧ ((lg_cmp (M.2 3 (((64 : Int32) * a1) + x5).toNatClampNeg) a3) ≤ 0 → ∀ v13 : Int32, v13 = x5 + 1 → R36 v13 M) ∧ (¬ (lg_cmp (M.2 3 (((64 : Int32) * a1) + x5).toNatClampNeg) a3) ≤ 0 → post (1 : Int32) M)))
def qX7_wrongNumbers (a1 : Int32) (a2 : Int32) (a3 : Int64) (M : Mem) (post : Int32 → Mem → Prop) : Prop :=
  ∀ (R36 : Int32 → Mem → Prop), (∀ x5 M, qX7_wrongNumbers_b36 a1 a2 a3 post R36 x5 M → R36 x5 M) → qX7_isSheet a1 M (fun r1 M2 => (¬ r1 = 0 → vp_in a1 6 ∧ (¬ (M2.1 2 a1.toNatClampNeg) = (-1 : Int32) → vp_in a1 6 ∧ (a2 ≤ (M2.1 2 a1.toNatClampNeg) → R36 (0 : Int32) M2) ∧ (¬ a2 ≤ (M2.1 2 a1.toNatClampNeg) → post (3 : Int32) M2)) ∧ ((M2.1 2 a1.toNatClampNeg) = (-1 : Int32) → post (2 : Int32) M2)) ∧ (r1 = 0 → post (1 : Int32) M2))
def qX7_machine (a1 : Int32) (a2 : Int32) (M : Mem) (post : Int32 → Mem → Prop) : Prop :=
  (a1 < (1 : Int32) → qX7_refuse (1 : Int32) M (fun r2 M3 => post r2 M3)) ∧ (¬ a1 < (1 : Int32) → ((100 : Int32) < a1 → qX7_refuse (1 : Int32) M (fun r5 M6 => post r5 M6)) ∧ (¬ (100 : Int32) < a1 → (a2 < 0 → qX7_refuse (1 : Int32) M (fun r8 M9 => post r8 M9)) ∧ (¬ a2 < 0 → (a2 ≤ (3 : Int32) → (¬ (M.1 0 4) = (12 : Int32) → vp_in (M.1 0 4) 12 ∧ ∀ M13 : Mem, M13 = sA M 4 (M.1 0 4).toNatClampNeg a1 → vp_in (M13.1 0 4) 12 ∧ ∀ M15 : Mem, M15 = sA M13 5 (M13.1 0 4).toNatClampNeg a2 → vp_in (M15.1 0 4) 12 ∧ ∀ M17 : Mem, M17 = sA M15 6 (M15.1 0 4).toNatClampNeg (vp_nar .boolean (1 : Int32)) → ∀ M18 : Mem, M18 = sA M17 0 4 ((M17.1 0 4) + (1 : Int32)) → ∀ M19 : Mem, M19 = sA M18 0 0 (0 : Int32) → post ((M19.1 0 4) - (1 : Int32)) M19) ∧ ((M.1 0 4) = (12 : Int32) → qX7_refuse (4 : Int32) M (fun r20 M21 => post r20 M21))) ∧ (¬ a2 ≤ (3 : Int32) → qX7_refuse (1 : Int32) M (fun r22 M23 => post r22 M23)))))
def qX7_up (a1 : Int32) (a2 : Int32) (M : Mem) (post : Int32 → Mem → Prop) : Prop :=
  (a1 < 0 → qX7_is (1 : Int32) M (fun r2 M3 => zb r2 ∧ post r2 M3)) ∧ (¬ a1 < 0 → (a1 < (M.1 0 4) → vp_in a1 12 ∧ (¬ (M.1 6 a1.toNatClampNeg) = a2 → vp_in a1 12 ∧ ∀ M8 : Mem, M8 = sA M 6 a1.toNatClampNeg (vp_nar .boolean a2) → qX7_is (0 : Int32) M8 (fun r9 M10 => zb r9 ∧ post r9 M10)) ∧ ((M.1 6 a1.toNatClampNeg) = a2 → qX7_is (5 : Int32) M (fun r11 M12 => zb r11 ∧ post r11 M12))) ∧ (¬ a1 < (M.1 0 4) → qX7_is (1 : Int32) M (fun r13 M14 => zb r13 ∧ post r13 M14)))
def qX7_isAsk (a1 : Int32) (M : Mem) (post : Int32 → Mem → Prop) : Prop :=
  (a1 < 0 → post (0 : Int32) M) ∧ (¬ a1 < 0 → ((M.1 0 5) ≤ a1 → post (0 : Int32) M) ∧ (¬ (M.1 0 5) ≤ a1 → post (1 : Int32) M))
def qX7_ask_b26 (a1 : Int32) (a2 : Int32) (a3 : Int32) (post : Int32 → Mem → Prop) (R26 : Mem → Prop)  (M : Mem) : Prop :=
  qX7_refuse (1 : Int32) M (fun r19 M20 => post r19 M20)
def qX7_ask (a1 : Int32) (a2 : Int32) (a3 : Int32) (M : Mem) (post : Int32 → Mem → Prop) : Prop :=
  ∀ (R26 : Mem → Prop), (∀ M, qX7_ask_b26 a1 a2 a3 post R26 M → R26 M) → (a1 < (1 : Int32) → R26 M) ∧ (¬ a1 < (1 : Int32) → ((100 : Int32) < a1 → R26 M) ∧ (¬ (100 : Int32) < a1 → (a2 < 0 → R26 M) ∧ (¬ a2 < 0 → ((24 : Int32) ≤ a3 → R26 M) ∧ (¬ (24 : Int32) ≤ a3 → (a2 ≤ a3 → (¬ (M.1 0 5) = (10 : Int32) → vp_in (M.1 0 5) 10 ∧ ∀ M8 : Mem, M8 = sA M 7 (M.1 0 5).toNatClampNeg a1 → vp_in (M8.1 0 5) 10 ∧ ∀ M10 : Mem, M10 = sA M8 8 (M8.1 0 5).toNatClampNeg a2 → vp_in (M10.1 0 5) 10 ∧ ∀ M12 : Mem, M12 = sA M10 9 (M10.1 0 5).toNatClampNeg a3 → vp_in (M12.1 0 5) 10 ∧ ∀ M14 : Mem, M14 = sA M12 10 (M12.1 0 5).toNatClampNeg (0 : Int32) → ∀ M15 : Mem, M15 = sA M14 0 5 ((M14.1 0 5) + (1 : Int32)) → ∀ M16 : Mem, M16 = sA M15 0 0 (0 : Int32) → post ((M16.1 0 5) - (1 : Int32)) M16) ∧ ((M.1 0 5) = (10 : Int32) → qX7_refuse (4 : Int32) M (fun r17 M18 => post r17 M18))) ∧ (¬ a2 ≤ a3 → R26 M)))))
def qX7_apart_b46 (a1 : Int32) (a2 : Int32) (a3 : Int32) (post : Int32 → Mem → Prop) (R46 : Int32 → Mem → Prop) (s0 : Int32) (M : Mem) : Prop :=
  (¬ s0 = a3 → vp_in a1 10 ∧ vp_in a1 10 ∧ ∀ M19 : Mem, M19 = sA M 10 a1.toNatClampNeg ((M.1 10 a1.toNatClampNeg) ^^^ ((1 : Int32) <<< (a2 &&& 31))) → vp_in a2 10 ∧ vp_in a2 10 ∧ ∀ M22 : Mem, M22 = sA M19 10 a2.toNatClampNeg ((M19.1 10 a2.toNatClampNeg) ^^^ ((1 : Int32) <<< (a1 &&& 31))) → qX7_is (0 : Int32) M22 (fun r23 M24 => zb r23 ∧ post r23 M24)) ∧ (s0 = a3 → qX7_is (5 : Int32) M (fun r25 M26 => zb r25 ∧ post r25 M26))
def qX7_apart (a1 : Int32) (a2 : Int32) (a3 : Int32) (M : Mem) (post : Int32 → Mem → Prop) : Prop :=
  ∀ (R46 : Int32 → Mem → Prop), (∀ s0 M, qX7_apart_b46 a1 a2 a3 post R46 s0 M → R46 s0 M) → qX7_isAsk a1 M (fun r1 M2 => (r1 = 0 → qX7_is (1 : Int32) M2 (fun r4 M5 => zb r4 ∧ post r4 M5)) ∧ (¬ r1 = 0 → qX7_isAsk a2 M2 (fun r6 M7 => (r6 = 0 → qX7_is (1 : Int32) M7 (fun r9 M10 => zb r9 ∧ post r9 M10)) ∧ (¬ r6 = 0 → (¬ a1 = a2 → vp_in a1 10 ∧ (¬ (((M7.1 10 a1.toNatClampNeg) >>> (a2 &&& 31)) &&& (1 : Int32)) = (1 : Int32) → R46 (0 : Int32) M7) ∧ ((((M7.1 10 a1.toNatClampNeg) >>> (a2 &&& 31)) &&& (1 : Int32)) = (1 : Int32) → R46 (1 : Int32) M7)) ∧ (a1 = a2 → qX7_is (1 : Int32) M7 (fun r14 M15 => zb r14 ∧ post r14 M15))))))
def qX7_isHour (a0 : Int32) (M : Mem) (post : Int32 → Mem → Prop) : Prop :=
  (a0 < 0 → post (0 : Int32) M) ∧ (¬ a0 < 0 → ((24 : Int32) ≤ a0 → post (0 : Int32) M) ∧ (¬ (24 : Int32) ≤ a0 → post (1 : Int32) M))
def qX7_isFall (a0 : Int32) (M : Mem) (post : Int32 → Mem → Prop) : Prop :=
  (a0 < 0 → post (0 : Int32) M) ∧ (¬ a0 < 0 → ((17 : Int32) ≤ a0 → post (0 : Int32) M) ∧ (¬ (17 : Int32) ≤ a0 → post (1 : Int32) M))
def qX7_stands_b27 (a1 : Int32) (a2 : Int32) (post : Int32 → Mem → Prop) (R27 : Mem → Prop)  (M : Mem) : Prop :=
  (a2 < (13 : Int32) → post (1 : Int32) M) ∧ (¬ a2 < (13 : Int32) → vp_in a1 12 ∧ ((a2 - (13 : Int32)) = (M.1 5 a1.toNatClampNeg) → post (0 : Int32) M) ∧ (¬ (a2 - (13 : Int32)) = (M.1 5 a1.toNatClampNeg) → post (1 : Int32) M))
def qX7_stands (a1 : Int32) (a2 : Int32) (M : Mem) (post : Int32 → Mem → Prop) : Prop :=
  ∀ (R27 : Mem → Prop), (∀ M, qX7_stands_b27 a1 a2 post R27 M → R27 M) → vp_in a1 12 ∧ ((M.1 6 a1.toNatClampNeg) = 0 → post (0 : Int32) M) ∧ (¬ (M.1 6 a1.toNatClampNeg) = 0 → (a2 < (1 : Int32) → R27 M) ∧ (¬ a2 < (1 : Int32) → ((12 : Int32) < a2 → R27 M) ∧ (¬ (12 : Int32) < a2 → ((a2 - (1 : Int32)) = a1 → post (0 : Int32) M) ∧ (¬ (a2 - (1 : Int32)) = a1 → R27 M))))
def qX7_sizes_b4 (a1 : Int32) (post : Int32 → Mem → Prop) (R4 : Int32 → Int32 → Mem → Prop) (x2 : Int32) (x3 : Int32) (M : Mem) : Prop :=
  ((M.1 0 4) ≤ x3 → post x2 M) ∧ (¬ (M.1 0 4) ≤ x3 → qX7_stands x3 a1 M (fun r2 M3 => (r2 = 0 → ∀ v5 : Int32, v5 = (x2 + (0 : Int32)) → ∀ v6 : Int32, v6 = x3 + 1 → R4 v5 v6 M3) ∧ (¬ r2 = 0 → vp_in x3 12 ∧ ∀ v8 : Int32, v8 = (x2 + (M3.1 4 x3.toNatClampNeg)) → ∀ v9 : Int32, v9 = x3 + 1 → R4 v8 v9 M3)))
def qX7_sizes (a1 : Int32) (M : Mem) (post : Int32 → Mem → Prop) : Prop :=
  ∀ (R4 : Int32 → Int32 → Mem → Prop), (∀ x2 x3 M, qX7_sizes_b4 a1 post R4 x2 x3 M → R4 x2 x3 M) → R4 (0 : Int32) (0 : Int32) M
def qX7_count (a1 : Int32) (M : Mem) (post : Int32 → Mem → Prop) : Prop :=
  (a1 < 0 → qX7_refuse (1 : Int32) M (fun r2 M3 => post r2 M3)) ∧ (¬ a1 < 0 → (a1 ≤ (4 : Int32) → ∀ M5 : Mem, M5 = sA M 0 0 (0 : Int32) → (¬ a1 = 0 → (¬ a1 = (1 : Int32) → (¬ a1 = (2 : Int32) → (¬ a1 = (3 : Int32) → qX7_sizes (0 : Int32) M5 (fun r10 M11 => post r10 M11)) ∧ (a1 = (3 : Int32) → post (M5.1 0 7) M5)) ∧ (a1 = (2 : Int32) → post (M5.1 0 6) M5)) ∧ (a1 = (1 : Int32) → post (M5.1 0 5) M5)) ∧ (a1 = 0 → post (M5.1 0 4) M5)) ∧ (¬ a1 ≤ (4 : Int32) → qX7_refuse (1 : Int32) M (fun r12 M13 => post r12 M13)))
def qX7_look_b9 (a1 : Int32) (post : Mem → Prop) (R9 : Int32 → Int32 → Mem → Prop) (R31 : Int32 → Int32 → Int32 → Mem → Prop) (R143 : Int32 → Int32 → Mem → Prop) (R150 : Int32 → Int32 → Int32 → Mem → Prop) (R177 : Int32 → Int32 → Int32 → Int32 → Int32 → Mem → Prop) (R247 : Int32 → Int32 → Int32 → Int32 → Mem → Prop) (R262 : Int32 → Int32 → Int32 → Int32 → Mem → Prop) (x2 : Int32) (x3 : Int32) (M : Mem) : Prop :=
  (x2 ≤ x3 → ∀ v3 : Int32, v3 = ((M.1 0 4) - (1 : Int32)) → R143 x2 v3 M) ∧ (¬ x2 ≤ x3 → vp_in x3 1024 ∧ ∀ M5 : Mem, M5 = sA M 11 x3.toNatClampNeg (0 : Int32) → vp_in x3 1024 ∧ ∀ M7 : Mem, M7 = sA M5 12 x3.toNatClampNeg (vp_nar .boolean (1 : Int32)) → R31 x2 x3 (0 : Int32) M7)
def qX7_look_b31 (a1 : Int32) (post : Mem → Prop) (R9 : Int32 → Int32 → Mem → Prop) (R31 : Int32 → Int32 → Int32 → Mem → Prop) (R143 : Int32 → Int32 → Mem → Prop) (R150 : Int32 → Int32 → Int32 → Mem → Prop) (R177 : Int32 → Int32 → Int32 → Int32 → Int32 → Mem → Prop) (R247 : Int32 → Int32 → Int32 → Int32 → Mem → Prop) (R262 : Int32 → Int32 → Int32 → Int32 → Mem → Prop) (x2 : Int32) (x3 : Int32) (x4 : Int32) (M : Mem) : Prop :=
  ((M.1 0 5) ≤ x4 → (¬ x3 = 0 → vp_in (((1024 : Int32) * (M.1 0 4)) + x3) 13312 ∧ ∀ M11 : Mem, M11 = sA M 13 (((1024 : Int32) * (M.1 0 4)) + x3).toNatClampNeg (vp_nar .boolean (0 : Int32)) → ∀ v12 : Int32, v12 = x3 + 1 → R9 x2 v12 M11) ∧ (x3 = 0 → vp_in (((1024 : Int32) * (M.1 0 4)) + x3) 13312 ∧ ∀ M14 : Mem, M14 = sA M 13 (((1024 : Int32) * (M.1 0 4)) + x3).toNatClampNeg (vp_nar .boolean (1 : Int32)) → ∀ v15 : Int32, v15 = x3 + 1 → R9 x2 v15 M14)) ∧ (¬ (M.1 0 5) ≤ x4 → (¬ ((x3 >>> (x4 &&& 31)) &&& (1 : Int32)) = 0 → vp_in x3 1024 ∧ vp_in x4 10 ∧ vp_in x3 1024 ∧ ∀ M20 : Mem, M20 = sA M 11 x3.toNatClampNeg ((M.1 11 x3.toNatClampNeg) + (M.1 7 x4.toNatClampNeg)) → vp_in x3 1024 ∧ ((M20.1 12 x3.toNatClampNeg) = 0 → vp_in x3 1024 ∧ ∀ M24 : Mem, M24 = sA M20 12 x3.toNatClampNeg (vp_nar .boolean (0 : Int32)) → ∀ v25 : Int32, v25 = x4 + 1 → R31 x2 x3 v25 M24) ∧ (¬ (M20.1 12 x3.toNatClampNeg) = 0 → vp_in x4 10 ∧ (¬ (x3 &&& (M20.1 10 x4.toNatClampNeg)) = 0 → vp_in x3 1024 ∧ ∀ M29 : Mem, M29 = sA M20 12 x3.toNatClampNeg (vp_nar .boolean (0 : Int32)) → ∀ v30 : Int32, v30 = x4 + 1 → R31 x2 x3 v30 M29) ∧ ((x3 &&& (M20.1 10 x4.toNatClampNeg)) = 0 → vp_in x3 1024 ∧ ∀ M32 : Mem, M32 = sA M20 12 x3.toNatClampNeg (vp_nar .boolean (1 : Int32)) → ∀ v33 : Int32, v33 = x4 + 1 → R31 x2 x3 v33 M32))) ∧ (((x3 >>> (x4 &&& 31)) &&& (1 : Int32)) = 0 → ∀ v34 : Int32, v34 = x4 + 1 → R31 x2 x3 v34 M))
def qX7_look_b143 (a1 : Int32) (post : Mem → Prop) (R9 : Int32 → Int32 → Mem → Prop) (R31 : Int32 → Int32 → Int32 → Mem → Prop) (R143 : Int32 → Int32 → Mem → Prop) (R150 : Int32 → Int32 → Int32 → Mem → Prop) (R177 : Int32 → Int32 → Int32 → Int32 → Int32 → Mem → Prop) (R247 : Int32 → Int32 → Int32 → Int32 → Mem → Prop) (R262 : Int32 → Int32 → Int32 → Int32 → Mem → Prop) (x2 : Int32) (x3 : Int32) (M : Mem) : Prop :=
  (x3 < 0 → post M) ∧ (¬ x3 < 0 → R150 x2 x3 (0 : Int32) M)
def qX7_look_b150 (a1 : Int32) (post : Mem → Prop) (R9 : Int32 → Int32 → Mem → Prop) (R31 : Int32 → Int32 → Int32 → Mem → Prop) (R143 : Int32 → Int32 → Mem → Prop) (R150 : Int32 → Int32 → Int32 → Mem → Prop) (R177 : Int32 → Int32 → Int32 → Int32 → Int32 → Mem → Prop) (R247 : Int32 → Int32 → Int32 → Int32 → Mem → Prop) (R262 : Int32 → Int32 → Int32 → Int32 → Mem → Prop) (x2 : Int32) (x3 : Int32) (x4 : Int32) (M : Mem) : Prop :=
  (x2 ≤ x4 → ∀ v37 : Int32, v37 = x3 + (-1) → R143 x2 v37 M) ∧ (¬ x2 ≤ x4 → vp_in (((1024 : Int32) * (x3 + (1 : Int32))) + x4) 13312 ∧ ∀ v39 : Int32, v39 = (M.1 13 (((1024 : Int32) * (x3 + (1 : Int32))) + x4).toNatClampNeg) → R177 x2 x3 x4 v39 x4 M)
def qX7_look_b177 (a1 : Int32) (post : Mem → Prop) (R9 : Int32 → Int32 → Mem → Prop) (R31 : Int32 → Int32 → Int32 → Mem → Prop) (R143 : Int32 → Int32 → Mem → Prop) (R150 : Int32 → Int32 → Int32 → Mem → Prop) (R177 : Int32 → Int32 → Int32 → Int32 → Int32 → Mem → Prop) (R247 : Int32 → Int32 → Int32 → Int32 → Mem → Prop) (R262 : Int32 → Int32 → Int32 → Int32 → Mem → Prop) (x2 : Int32) (x3 : Int32) (x4 : Int32) (x5 : Int32) (x6 : Int32) (M : Mem) : Prop :=
  (x6 ≤ 0 → R262 x2 x3 x4 x5 M) ∧ (¬ x6 ≤ 0 → (¬ x5 = 0 → R262 x2 x3 x4 x5 M) ∧ (x5 = 0 → qX7_stands x3 a1 M (fun r42 M43 => (r42 = 0 → R262 x2 x3 x4 x5 M43) ∧ (¬ r42 = 0 → vp_in x6 1024 ∧ ((M43.1 12 x6.toNatClampNeg) = 0 → R247 x2 x3 x4 x6 M43) ∧ (¬ (M43.1 12 x6.toNatClampNeg) = 0 → vp_in x6 1024 ∧ vp_in x3 12 ∧ ((M43.1 4 x3.toNatClampNeg) < (M43.1 11 x6.toNatClampNeg) → R247 x2 x3 x4 x6 M43) ∧ (¬ (M43.1 4 x3.toNatClampNeg) < (M43.1 11 x6.toNatClampNeg) → vp_in (((1024 : Int32) * (x3 + (1 : Int32))) + (x4 ^^^ x6)) 13312 ∧ ((M43.1 13 (((1024 : Int32) * (x3 + (1 : Int32))) + (x4 ^^^ x6)).toNatClampNeg) = 0 → R247 x2 x3 x4 x6 M43) ∧ (¬ (M43.1 13 (((1024 : Int32) * (x3 + (1 : Int32))) + (x4 ^^^ x6)).toNatClampNeg) = 0 → ∀ v52 : Int32, v52 = ((x6 - (1 : Int32)) &&& x4) → R177 x2 x3 x4 (1 : Int32) v52 M43)))))))
def qX7_look_b247 (a1 : Int32) (post : Mem → Prop) (R9 : Int32 → Int32 → Mem → Prop) (R31 : Int32 → Int32 → Int32 → Mem → Prop) (R143 : Int32 → Int32 → Mem → Prop) (R150 : Int32 → Int32 → Int32 → Mem → Prop) (R177 : Int32 → Int32 → Int32 → Int32 → Int32 → Mem → Prop) (R247 : Int32 → Int32 → Int32 → Int32 → Mem → Prop) (R262 : Int32 → Int32 → Int32 → Int32 → Mem → Prop) (x2 : Int32) (x3 : Int32) (x4 : Int32) (x6 : Int32) (M : Mem) : Prop :=
  ∀ v53 : Int32, v53 = ((x6 - (1 : Int32)) &&& x4) → R177 x2 x3 x4 (0 : Int32) v53 M
def qX7_look_b262 (a1 : Int32) (post : Mem → Prop) (R9 : Int32 → Int32 → Mem → Prop) (R31 : Int32 → Int32 → Int32 → Mem → Prop) (R143 : Int32 → Int32 → Mem → Prop) (R150 : Int32 → Int32 → Int32 → Mem → Prop) (R177 : Int32 → Int32 → Int32 → Int32 → Int32 → Mem → Prop) (R247 : Int32 → Int32 → Int32 → Int32 → Mem → Prop) (R262 : Int32 → Int32 → Int32 → Int32 → Mem → Prop) (x2 : Int32) (x3 : Int32) (x4 : Int32) (x5 : Int32) (M : Mem) : Prop :=
  vp_in (((1024 : Int32) * x3) + x4) 13312 ∧ ∀ M55 : Mem, M55 = sA M 13 (((1024 : Int32) * x3) + x4).toNatClampNeg (vp_nar .boolean x5) → ∀ v56 : Int32, v56 = x4 + 1 → R150 x2 x3 v56 M55
def qX7_look (a1 : Int32) (M : Mem) (post : Mem → Prop) : Prop :=
  ∀ (R9 : Int32 → Int32 → Mem → Prop) (R31 : Int32 → Int32 → Int32 → Mem → Prop) (R143 : Int32 → Int32 → Mem → Prop) (R150 : Int32 → Int32 → Int32 → Mem → Prop) (R177 : Int32 → Int32 → Int32 → Int32 → Int32 → Mem → Prop) (R247 : Int32 → Int32 → Int32 → Int32 → Mem → Prop) (R262 : Int32 → Int32 → Int32 → Int32 → Mem → Prop), (∀ x2 x3 M, qX7_look_b9 a1 post R9 R31 R143 R150 R177 R247 R262 x2 x3 M → R9 x2 x3 M) → (∀ x2 x3 x4 M, qX7_look_b31 a1 post R9 R31 R143 R150 R177 R247 R262 x2 x3 x4 M → R31 x2 x3 x4 M) → (∀ x2 x3 M, qX7_look_b143 a1 post R9 R31 R143 R150 R177 R247 R262 x2 x3 M → R143 x2 x3 M) → (∀ x2 x3 x4 M, qX7_look_b150 a1 post R9 R31 R143 R150 R177 R247 R262 x2 x3 x4 M → R150 x2 x3 x4 M) → (∀ x2 x3 x4 x5 x6 M, qX7_look_b177 a1 post R9 R31 R143 R150 R177 R247 R262 x2 x3 x4 x5 x6 M → R177 x2 x3 x4 x5 x6 M) → (∀ x2 x3 x4 x6 M, qX7_look_b247 a1 post R9 R31 R143 R150 R177 R247 R262 x2 x3 x4 x6 M → R247 x2 x3 x4 x6 M) → (∀ x2 x3 x4 x5 M, qX7_look_b262 a1 post R9 R31 R143 R150 R177 R247 R262 x2 x3 x4 x5 M → R262 x2 x3 x4 x5 M) → ∀ v1 : Int32, v1 = ((1 : Int32) <<< ((M.1 0 5) &&& 31)) → R9 v1 (0 : Int32) M
def qX7_setOf_b4 (a1 : Int32) (post : Int32 → Mem → Prop) (R4 : Int32 → Int32 → Mem → Prop) (x2 : Int32) (x3 : Int32) (M : Mem) : Prop :=
  ((M.1 0 5) ≤ x3 → post x2 M) ∧ (¬ (M.1 0 5) ≤ x3 → vp_in x3 10 ∧ (a1 < (M.1 8 x3.toNatClampNeg) → ∀ v4 : Int32, v4 = x3 + 1 → R4 x2 v4 M) ∧ (¬ a1 < (M.1 8 x3.toNatClampNeg) → vp_in x3 10 ∧ ((M.1 9 x3.toNatClampNeg) < a1 → ∀ v7 : Int32, v7 = x3 + 1 → R4 x2 v7 M) ∧ (¬ (M.1 9 x3.toNatClampNeg) < a1 → ∀ v8 : Int32, v8 = (x2 ||| ((1 : Int32) <<< (x3 &&& 31))) → ∀ v9 : Int32, v9 = x3 + 1 → R4 v8 v9 M)))
def qX7_setOf (a1 : Int32) (M : Mem) (post : Int32 → Mem → Prop) : Prop :=
  ∀ (R4 : Int32 → Int32 → Mem → Prop), (∀ x2 x3 M, qX7_setOf_b4 a1 post R4 x2 x3 M → R4 x2 x3 M) → R4 (0 : Int32) (0 : Int32) M
def qX7_fits (a1 : Int32) (a2 : Int32) (M : Mem) (post : Int32 → Mem → Prop) : Prop :=
  qX7_isHour a1 M (fun r1 M2 => (r1 = 0 → qX7_refuse (1 : Int32) M2 (fun r4 M5 => post r4 M5)) ∧ (¬ r1 = 0 → qX7_isFall a2 M2 (fun r6 M7 => (¬ r6 = 0 → qX7_look a2 M7 (fun M10 => ∀ M11 : Mem, M11 = sA M10 0 0 (0 : Int32) → qX7_setOf a1 M11 (fun r12 M13 => vp_in r12 13312 ∧ ((M13.1 13 r12.toNatClampNeg) = 0 → post (0 : Int32) M13) ∧ (¬ (M13.1 13 r12.toNatClampNeg) = 0 → post (1 : Int32) M13)))) ∧ (r6 = 0 → qX7_refuse (1 : Int32) M7 (fun r16 M17 => post r16 M17)))))
def qX7_on_b77 (a1 : Int32) (a2 : Int32) (a3 : Int32) (post : Int32 → Mem → Prop) (R77 : Int32 → Int32 → Mem → Prop) (R103 : Int32 → Int32 → Int32 → Mem → Prop) (R157 : Int32 → Int32 → Int32 → Mem → Prop) (R169 : Int32 → Int32 → Int32 → Mem → Prop) (x4 : Int32) (x5 : Int32) (M : Mem) : Prop :=
  ((M.1 0 4) ≤ x5 → post (-1 : Int32) M) ∧ (¬ (M.1 0 4) ≤ x5 → qX7_stands x5 a2 M (fun r31 M32 => (¬ r31 = 0 → R103 x4 x5 x4 M32) ∧ (r31 = 0 → R103 x4 x5 (0 : Int32) M32)))
def qX7_on_b103 (a1 : Int32) (a2 : Int32) (a3 : Int32) (post : Int32 → Mem → Prop) (R77 : Int32 → Int32 → Mem → Prop) (R103 : Int32 → Int32 → Int32 → Mem → Prop) (R157 : Int32 → Int32 → Int32 → Mem → Prop) (R169 : Int32 → Int32 → Int32 → Mem → Prop) (x4 : Int32) (x5 : Int32) (x6 : Int32) (M : Mem) : Prop :=
  (x6 ≤ 0 → R169 x4 x5 x6 M) ∧ (¬ x6 ≤ 0 → vp_in x6 1024 ∧ ((M.1 12 x6.toNatClampNeg) = 0 → R157 x4 x5 x6 M) ∧ (¬ (M.1 12 x6.toNatClampNeg) = 0 → vp_in x6 1024 ∧ vp_in x5 12 ∧ ((M.1 4 x5.toNatClampNeg) < (M.1 11 x6.toNatClampNeg) → R157 x4 x5 x6 M) ∧ (¬ (M.1 4 x5.toNatClampNeg) < (M.1 11 x6.toNatClampNeg) → vp_in (((1024 : Int32) * (x5 + (1 : Int32))) + (x4 ^^^ x6)) 13312 ∧ (¬ (M.1 13 (((1024 : Int32) * (x5 + (1 : Int32))) + (x4 ^^^ x6)).toNatClampNeg) = 0 → R169 x4 x5 x6 M) ∧ ((M.1 13 (((1024 : Int32) * (x5 + (1 : Int32))) + (x4 ^^^ x6)).toNatClampNeg) = 0 → R157 x4 x5 x6 M))))
def qX7_on_b157 (a1 : Int32) (a2 : Int32) (a3 : Int32) (post : Int32 → Mem → Prop) (R77 : Int32 → Int32 → Mem → Prop) (R103 : Int32 → Int32 → Int32 → Mem → Prop) (R157 : Int32 → Int32 → Int32 → Mem → Prop) (R169 : Int32 → Int32 → Int32 → Mem → Prop) (x4 : Int32) (x5 : Int32) (x6 : Int32) (M : Mem) : Prop :=
  ∀ v42 : Int32, v42 = ((x6 - (1 : Int32)) &&& x4) → R103 x4 x5 v42 M
def qX7_on_b169 (a1 : Int32) (a2 : Int32) (a3 : Int32) (post : Int32 → Mem → Prop) (R77 : Int32 → Int32 → Mem → Prop) (R103 : Int32 → Int32 → Int32 → Mem → Prop) (R157 : Int32 → Int32 → Int32 → Mem → Prop) (R169 : Int32 → Int32 → Int32 → Mem → Prop) (x4 : Int32) (x5 : Int32) (x6 : Int32) (M : Mem) : Prop :=
  (¬ ((x6 >>> (a3 &&& 31)) &&& (1 : Int32)) = (1 : Int32) → ∀ v44 : Int32, v44 = (x4 ^^^ x6) → ∀ v45 : Int32, v45 = x5 + 1 → R77 v44 v45 M) ∧ (((x6 >>> (a3 &&& 31)) &&& (1 : Int32)) = (1 : Int32) → post x5 M)
def qX7_on (a1 : Int32) (a2 : Int32) (a3 : Int32) (M : Mem) (post : Int32 → Mem → Prop) : Prop :=
  ∀ (R77 : Int32 → Int32 → Mem → Prop) (R103 : Int32 → Int32 → Int32 → Mem → Prop) (R157 : Int32 → Int32 → Int32 → Mem → Prop) (R169 : Int32 → Int32 → Int32 → Mem → Prop), (∀ x4 x5 M, qX7_on_b77 a1 a2 a3 post R77 R103 R157 R169 x4 x5 M → R77 x4 x5 M) → (∀ x4 x5 x6 M, qX7_on_b103 a1 a2 a3 post R77 R103 R157 R169 x4 x5 x6 M → R103 x4 x5 x6 M) → (∀ x4 x5 x6 M, qX7_on_b157 a1 a2 a3 post R77 R103 R157 R169 x4 x5 x6 M → R157 x4 x5 x6 M) → (∀ x4 x5 x6 M, qX7_on_b169 a1 a2 a3 post R77 R103 R157 R169 x4 x5 x6 M → R169 x4 x5 x6 M) → qX7_isHour a1 M (fun r1 M2 => (r1 = 0 → qX7_refuse (1 : Int32) M2 (fun r4 M5 => post r4 M5)) ∧ (¬ r1 = 0 → qX7_isFall a2 M2 (fun r6 M7 => (r6 = 0 → qX7_refuse (1 : Int32) M7 (fun r9 M10 => post r9 M10)) ∧ (¬ r6 = 0 → qX7_isAsk a3 M7 (fun r11 M12 => (r11 = 0 → qX7_refuse (1 : Int32) M12 (fun r14 M15 => post r14 M15)) ∧ (¬ r11 = 0 → qX7_setOf a1 M12 (fun r16 M17 => (¬ ((r16 >>> (a3 &&& 31)) &&& (1 : Int32)) = 0 → qX7_look a2 M17 (fun M20 => qX7_setOf a1 M20 (fun r21 M22 => vp_in r21 13312 ∧ (¬ (M22.1 13 r21.toNatClampNeg) = 0 → ∀ M25 : Mem, M25 = sA M22 0 0 (0 : Int32) → R77 r21 (0 : Int32) M25) ∧ ((M22.1 13 r21.toNatClampNeg) = 0 → qX7_refuse (6 : Int32) M22 (fun r26 M27 => post r26 M27))))) ∧ (((r16 >>> (a3 &&& 31)) &&& (1 : Int32)) = 0 → qX7_refuse (1 : Int32) M17 (fun r28 M29 => post r28 M29)))))))))
def qX7_lack_b42 (a1 : Int32) (a2 : Int32) (post : Int32 → Mem → Prop) (R42 : Int32 → Int32 → Int32 → Mem → Prop) (x3 : Int32) (x4 : Int32) (x5 : Int32) (M : Mem) : Prop :=
  (x3 < x5 → vp_in x3 1024 ∧ post ((M.1 11 x3.toNatClampNeg) - x4) M) ∧ (¬ x3 < x5 → (¬ (x5 &&& x3) = x5 → ∀ v19 : Int32, v19 = x5 + 1 → R42 x3 x4 v19 M) ∧ ((x5 &&& x3) = x5 → vp_in x5 13312 ∧ ((M.1 13 x5.toNatClampNeg) = 0 → ∀ v22 : Int32, v22 = x5 + 1 → R42 x3 x4 v22 M) ∧ (¬ (M.1 13 x5.toNatClampNeg) = 0 → vp_in x5 1024 ∧ ((M.1 11 x5.toNatClampNeg) ≤ x4 → ∀ v25 : Int32, v25 = x5 + 1 → R42 x3 x4 v25 M) ∧ (¬ (M.1 11 x5.toNatClampNeg) ≤ x4 → vp_in x5 1024 ∧ ∀ v27 : Int32, v27 = (M.1 11 x5.toNatClampNeg) → ∀ v28 : Int32, v28 = x5 + 1 → R42 x3 v27 v28 M))))
def qX7_lack (a1 : Int32) (a2 : Int32) (M : Mem) (post : Int32 → Mem → Prop) : Prop :=
  ∀ (R42 : Int32 → Int32 → Int32 → Mem → Prop), (∀ x3 x4 x5 M, qX7_lack_b42 a1 a2 post R42 x3 x4 x5 M → R42 x3 x4 x5 M) → qX7_isHour a1 M (fun r1 M2 => (r1 = 0 → qX7_refuse (1 : Int32) M2 (fun r4 M5 => post r4 M5)) ∧ (¬ r1 = 0 → qX7_isFall a2 M2 (fun r6 M7 => (¬ r6 = 0 → qX7_look a2 M7 (fun M10 => ∀ M11 : Mem, M11 = sA M10 0 0 (0 : Int32) → qX7_setOf a1 M11 (fun r12 M13 => R42 r12 (0 : Int32) (0 : Int32) M13))) ∧ (r6 = 0 → qX7_refuse (1 : Int32) M7 (fun r14 M15 => post r14 M15)))))
def qX7_leftOf (a1 : Int32) (a2 : Int32) (M : Mem) (post : Int32 → Mem → Prop) : Prop :=
  qX7_setOf a1 M (fun r1 M2 => vp_in r1 13312 ∧ ((M2.1 13 r1.toNatClampNeg) = 0 → post (0 : Int32) M2) ∧ (¬ (M2.1 13 r1.toNatClampNeg) = 0 → qX7_sizes a2 M2 (fun r5 M6 => qX7_setOf a1 M6 (fun r7 M8 => vp_in r7 1024 ∧ post (r5 - (M8.1 11 r7.toNatClampNeg)) M8))))
def qX7_left (a1 : Int32) (a2 : Int32) (M : Mem) (post : Int32 → Mem → Prop) : Prop :=
  qX7_isHour a1 M (fun r1 M2 => (r1 = 0 → qX7_refuse (1 : Int32) M2 (fun r4 M5 => post r4 M5)) ∧ (¬ r1 = 0 → qX7_isFall a2 M2 (fun r6 M7 => (¬ r6 = 0 → qX7_look a2 M7 (fun M10 => ∀ M11 : Mem, M11 = sA M10 0 0 (0 : Int32) → qX7_leftOf a1 a2 M11 (fun r12 M13 => post r12 M13))) ∧ (r6 = 0 → qX7_refuse (1 : Int32) M7 (fun r14 M15 => post r14 M15)))))
def qX7_enough_b28 (a1 : Int32) (post : Int32 → Mem → Prop) (R28 : Int32 → Int32 → Int32 → Mem → Prop) (R60 : Int32 → Int32 → Int32 → Mem → Prop) (R84 : Int32 → Int32 → Int32 → Int32 → Mem → Prop) (x2 : Int32) (x3 : Int32) (x4 : Int32) (M : Mem) : Prop :=
  ((17 : Int32) ≤ x4 → (¬ x2 = (24 : Int32) → post (((100 : Int32) * x2) + x3) M) ∧ (x2 = (24 : Int32) → post (-2 : Int32) M)) ∧ (¬ (17 : Int32) ≤ x4 → (x4 ≤ 0 → (x4 ≤ (M.1 0 4) → R60 x2 x3 x4 M) ∧ (¬ x4 ≤ (M.1 0 4) → (x4 < (13 : Int32) → ∀ v13 : Int32, v13 = x4 + 1 → R28 x2 x3 v13 M) ∧ (¬ x4 < (13 : Int32) → R60 x2 x3 x4 M))) ∧ (¬ x4 ≤ 0 → (a1 = 0 → ∀ v15 : Int32, v15 = x4 + 1 → R28 x2 x3 v15 M) ∧ (¬ a1 = 0 → (x4 ≤ (M.1 0 4) → R60 x2 x3 x4 M) ∧ (¬ x4 ≤ (M.1 0 4) → (x4 < (13 : Int32) → ∀ v18 : Int32, v18 = x4 + 1 → R28 x2 x3 v18 M) ∧ (¬ x4 < (13 : Int32) → R60 x2 x3 x4 M)))))
def qX7_enough_b60 (a1 : Int32) (post : Int32 → Mem → Prop) (R28 : Int32 → Int32 → Int32 → Mem → Prop) (R60 : Int32 → Int32 → Int32 → Mem → Prop) (R84 : Int32 → Int32 → Int32 → Int32 → Mem → Prop) (x2 : Int32) (x3 : Int32) (x4 : Int32) (M : Mem) : Prop :=
  (x4 ≤ (12 : Int32) → qX7_look x4 M (fun M21 => R84 x2 x3 x4 (0 : Int32) M21)) ∧ (¬ x4 ≤ (12 : Int32) → ((2 : Int32) ≤ a1 → qX7_look x4 M (fun M24 => R84 x2 x3 x4 (0 : Int32) M24)) ∧ (¬ (2 : Int32) ≤ a1 → ∀ v25 : Int32, v25 = x4 + 1 → R28 x2 x3 v25 M))
def qX7_enough_b84 (a1 : Int32) (post : Int32 → Mem → Prop) (R28 : Int32 → Int32 → Int32 → Mem → Prop) (R60 : Int32 → Int32 → Int32 → Mem → Prop) (R84 : Int32 → Int32 → Int32 → Int32 → Mem → Prop) (x2 : Int32) (x3 : Int32) (x4 : Int32) (x5 : Int32) (M : Mem) : Prop :=
  (x2 ≤ x5 → ∀ v27 : Int32, v27 = x4 + 1 → R28 x2 x3 v27 M) ∧ (¬ x2 ≤ x5 → qX7_setOf x5 M (fun r28 M29 => vp_in r28 13312 ∧ ((M29.1 13 r28.toNatClampNeg) = 0 → ∀ v32 : Int32, v32 = x5 + 1 → R84 x5 x4 x4 v32 M29) ∧ (¬ (M29.1 13 r28.toNatClampNeg) = 0 → ∀ v33 : Int32, v33 = x5 + 1 → R84 x2 x3 x4 v33 M29)))
def qX7_enough (a1 : Int32) (M : Mem) (post : Int32 → Mem → Prop) : Prop :=
  ∀ (R28 : Int32 → Int32 → Int32 → Mem → Prop) (R60 : Int32 → Int32 → Int32 → Mem → Prop) (R84 : Int32 → Int32 → Int32 → Int32 → Mem → Prop), (∀ x2 x3 x4 M, qX7_enough_b28 a1 post R28 R60 R84 x2 x3 x4 M → R28 x2 x3 x4 M) → (∀ x2 x3 x4 M, qX7_enough_b60 a1 post R28 R60 R84 x2 x3 x4 M → R60 x2 x3 x4 M) → (∀ x2 x3 x4 x5 M, qX7_enough_b84 a1 post R28 R60 R84 x2 x3 x4 x5 M → R84 x2 x3 x4 x5 M) → (a1 < 0 → qX7_refuse (1 : Int32) M (fun r2 M3 => post r2 M3)) ∧ (¬ a1 < 0 → (a1 ≤ (2 : Int32) → ∀ M5 : Mem, M5 = sA M 0 0 (0 : Int32) → R28 (24 : Int32) (-1 : Int32) (0 : Int32) M5) ∧ (¬ a1 ≤ (2 : Int32) → qX7_refuse (1 : Int32) M (fun r6 M7 => post r6 M7)))
def qX7_batch_b47 (a1 : Int32) (a2 : Int32) (a3 : Int32) (a4 : Int32) (post : Int32 → Mem → Prop) (R47 : Mem → Prop)  (M : Mem) : Prop :=
  qX7_refuse (1 : Int32) M (fun r22 M23 => post r22 M23)
def qX7_batch (a1 : Int32) (a2 : Int32) (a3 : Int32) (a4 : Int32) (M : Mem) (post : Int32 → Mem → Prop) : Prop :=
  ∀ (R47 : Mem → Prop), (∀ M, qX7_batch_b47 a1 a2 a3 a4 post R47 M → R47 M) → (a1 < (1 : Int32) → R47 M) ∧ (¬ a1 < (1 : Int32) → ((10000 : Int32) < a1 → R47 M) ∧ (¬ (10000 : Int32) < a1 → (a2 < 0 → R47 M) ∧ (¬ a2 < 0 → ((24 : Int32) ≤ a2 → R47 M) ∧ (¬ (24 : Int32) ≤ a2 → (a3 ≤ a2 → R47 M) ∧ (¬ a3 ≤ a2 → ((24 : Int32) < a3 → R47 M) ∧ (¬ (24 : Int32) < a3 → (a4 < (1 : Int32) → R47 M) ∧ (¬ a4 < (1 : Int32) → (a4 ≤ (1000 : Int32) → (¬ (M.1 0 6) = (8 : Int32) → vp_in (M.1 0 6) 8 ∧ ∀ M11 : Mem, M11 = sA M 14 (M.1 0 6).toNatClampNeg a1 → vp_in (M11.1 0 6) 8 ∧ ∀ M13 : Mem, M13 = sA M11 15 (M11.1 0 6).toNatClampNeg a2 → vp_in (M13.1 0 6) 8 ∧ ∀ M15 : Mem, M15 = sA M13 16 (M13.1 0 6).toNatClampNeg a3 → vp_in (M15.1 0 6) 8 ∧ ∀ M17 : Mem, M17 = sA M15 17 (M15.1 0 6).toNatClampNeg a4 → ∀ M18 : Mem, M18 = sA M17 0 6 ((M17.1 0 6) + (1 : Int32)) → ∀ M19 : Mem, M19 = sA M18 0 0 (0 : Int32) → post ((M19.1 0 6) - (1 : Int32)) M19) ∧ ((M.1 0 6) = (8 : Int32) → qX7_refuse (4 : Int32) M (fun r20 M21 => post r20 M21))) ∧ (¬ a4 ≤ (1000 : Int32) → R47 M))))))))
def qX7_isIn (a1 : Int32) (a2 : Int32) (M : Mem) (post : Int32 → Mem → Prop) : Prop :=
  vp_in a1 8 ∧ (a2 < (M.1 15 a1.toNatClampNeg) → post (0 : Int32) M) ∧ (¬ a2 < (M.1 15 a1.toNatClampNeg) → vp_in a1 8 ∧ ((M.1 16 a1.toNatClampNeg) ≤ a2 → post (0 : Int32) M) ∧ (¬ (M.1 16 a1.toNatClampNeg) ≤ a2 → post (1 : Int32) M))
def qX7_goes_b121 (a1 : Int32) (a2 : Int32) (post : Int32 → Mem → Prop) (R121 : Mem → Prop) (R183 : Mem → Prop) (R221 : Mem → Prop)  (M : Mem) : Prop :=
  (a1 < (8 : Int32) → R183 M) ∧ (¬ a1 < (8 : Int32) → ((32 : Int32) ≤ a1 → R183 M) ∧ (¬ (32 : Int32) ≤ a1 → ((8 : Int32) ≤ a2 → R183 M) ∧ (¬ (8 : Int32) ≤ a2 → ((M.1 0 6) ≤ a2 → post (0 : Int32) M) ∧ (¬ (M.1 0 6) ≤ a2 → vp_in ((((24 : Int32) * a2) + a1) - (8 : Int32)) 192 ∧ (¬ (M.1 22 ((((24 : Int32) * a2) + a1) - (8 : Int32)).toNatClampNeg) = 0 → post (0 : Int32) M) ∧ ((M.1 22 ((((24 : Int32) * a2) + a1) - (8 : Int32)).toNatClampNeg) = 0 → vp_in ((((24 : Int32) * a2) + a1) - (8 : Int32)) 192 ∧ post (M.1 18 ((((24 : Int32) * a2) + a1) - (8 : Int32)).toNatClampNeg) M)))))
def qX7_goes_b183 (a1 : Int32) (a2 : Int32) (post : Int32 → Mem → Prop) (R121 : Mem → Prop) (R183 : Mem → Prop) (R221 : Mem → Prop)  (M : Mem) : Prop :=
  (a1 < (8 : Int32) → R221 M) ∧ (¬ a1 < (8 : Int32) → ((32 : Int32) ≤ a1 → R221 M) ∧ (¬ (32 : Int32) ≤ a1 → (¬ a2 = (32 : Int32) → R221 M) ∧ (a2 = (32 : Int32) → vp_in (a1 - (8 : Int32)) 24 ∧ vp_in (a1 - (8 : Int32)) 24 ∧ post ((M.1 19 (a1 - (8 : Int32)).toNatClampNeg) - (M.1 20 (a1 - (8 : Int32)).toNatClampNeg)) M)))
def qX7_goes_b221 (a1 : Int32) (a2 : Int32) (post : Int32 → Mem → Prop) (R121 : Mem → Prop) (R183 : Mem → Prop) (R221 : Mem → Prop)  (M : Mem) : Prop :=
  (¬ a1 = (32 : Int32) → post (0 : Int32) M) ∧ (a1 = (32 : Int32) → (a2 < (8 : Int32) → post (0 : Int32) M) ∧ (¬ a2 < (8 : Int32) → ((32 : Int32) ≤ a2 → post (0 : Int32) M) ∧ (¬ (32 : Int32) ≤ a2 → vp_in (a2 - (8 : Int32)) 24 ∧ post (M.1 20 (a2 - (8 : Int32)).toNatClampNeg) M)))
def qX7_goes (a1 : Int32) (a2 : Int32) (M : Mem) (post : Int32 → Mem → Prop) : Prop :=
  ∀ (R121 : Mem → Prop) (R183 : Mem → Prop) (R221 : Mem → Prop), (∀ M, qX7_goes_b121 a1 a2 post R121 R183 R221 M → R121 M) → (∀ M, qX7_goes_b183 a1 a2 post R121 R183 R221 M → R183 M) → (∀ M, qX7_goes_b221 a1 a2 post R121 R183 R221 M → R221 M) → (¬ a1 = (33 : Int32) → (¬ a2 = (33 : Int32) → ((8 : Int32) ≤ a1 → R121 M) ∧ (¬ (8 : Int32) ≤ a1 → (a2 < (8 : Int32) → R121 M) ∧ (¬ a2 < (8 : Int32) → ((32 : Int32) ≤ a2 → R121 M) ∧ (¬ (32 : Int32) ≤ a2 → ((M.1 0 6) ≤ a1 → post (0 : Int32) M) ∧ (¬ (M.1 0 6) ≤ a1 → qX7_isIn a1 (a2 - (8 : Int32)) M (fun r7 M8 => (r7 = 0 → post (0 : Int32) M8) ∧ (¬ r7 = 0 → vp_in ((((24 : Int32) * a1) + a2) - (8 : Int32)) 192 ∧ (¬ (M8.1 22 ((((24 : Int32) * a1) + a2) - (8 : Int32)).toNatClampNeg) = 0 → post (0 : Int32) M8) ∧ ((M8.1 22 ((((24 : Int32) * a1) + a2) - (8 : Int32)).toNatClampNeg) = 0 → vp_in a1 8 ∧ vp_in ((((24 : Int32) * a1) + a2) - (8 : Int32)) 192 ∧ post ((M8.1 17 a1.toNatClampNeg) - (M8.1 18 ((((24 : Int32) * a1) + a2) - (8 : Int32)).toNatClampNeg)) M8)))))))) ∧ (a2 = (33 : Int32) → post (0 : Int32) M)) ∧ (a1 = (33 : Int32) → ((M.1 0 6) ≤ a2 → post (0 : Int32) M) ∧ (¬ (M.1 0 6) ≤ a2 → vp_in a2 8 ∧ vp_in a2 8 ∧ post ((M.1 14 a2.toNatClampNeg) - (M.1 21 a2.toNatClampNeg)) M))
def qX7_moves (a1 : Int32) (a2 : Int32) (a3 : Int32) (M : Mem) (post : Mem → Prop) : Prop :=
  (¬ a1 = (33 : Int32) → ((8 : Int32) ≤ a1 → ((8 : Int32) ≤ a2 → (¬ a2 = (32 : Int32) → vp_in (a2 - (8 : Int32)) 24 ∧ vp_in (a2 - (8 : Int32)) 24 ∧ ∀ M7 : Mem, M7 = sA M 20 (a2 - (8 : Int32)).toNatClampNeg ((M.1 20 (a2 - (8 : Int32)).toNatClampNeg) - a3) → post M7) ∧ (a2 = (32 : Int32) → vp_in (a1 - (8 : Int32)) 24 ∧ vp_in (a1 - (8 : Int32)) 24 ∧ ∀ M10 : Mem, M10 = sA M 20 (a1 - (8 : Int32)).toNatClampNeg ((M.1 20 (a1 - (8 : Int32)).toNatClampNeg) + a3) → post M10)) ∧ (¬ (8 : Int32) ≤ a2 → vp_in ((((24 : Int32) * a2) + a1) - (8 : Int32)) 192 ∧ vp_in ((((24 : Int32) * a2) + a1) - (8 : Int32)) 192 ∧ ∀ M13 : Mem, M13 = sA M 18 ((((24 : Int32) * a2) + a1) - (8 : Int32)).toNatClampNeg ((M.1 18 ((((24 : Int32) * a2) + a1) - (8 : Int32)).toNatClampNeg) - a3) → post M13)) ∧ (¬ (8 : Int32) ≤ a1 → vp_in ((((24 : Int32) * a1) + a2) - (8 : Int32)) 192 ∧ vp_in ((((24 : Int32) * a1) + a2) - (8 : Int32)) 192 ∧ ∀ M16 : Mem, M16 = sA M 18 ((((24 : Int32) * a1) + a2) - (8 : Int32)).toNatClampNeg ((M.1 18 ((((24 : Int32) * a1) + a2) - (8 : Int32)).toNatClampNeg) + a3) → post M16)) ∧ (a1 = (33 : Int32) → vp_in a2 8 ∧ vp_in a2 8 ∧ ∀ M19 : Mem, M19 = sA M 21 a2.toNatClampNeg ((M.1 21 a2.toNatClampNeg) + a3) → post M19)
def qX7_isWay_b2 (a1 : Int32) (a2 : Int32) (post : Int32 → Mem → Prop) (R2 : Int32 → Mem → Prop) (R43 : Int32 → Int32 → Mem → Prop) (R62 : Int32 → Int32 → Int32 → Mem → Prop) (x3 : Int32) (M : Mem) : Prop :=
  ((nI 34) ≤ x3 → vp_in a1 34 ∧ ∀ M3 : Mem, M3 = sA M 23 a1.toNatClampNeg a1 → vp_in (0 : Int32) 34 ∧ ∀ M5 : Mem, M5 = sA M3 24 (0 : Int32).toNatClampNeg a1 → R43 (1 : Int32) (0 : Int32) M5) ∧ (¬ (nI 34) ≤ x3 → vp_in x3 34 ∧ ∀ M7 : Mem, M7 = sA M 23 x3.toNatClampNeg (-1 : Int32) → ∀ v8 : Int32, v8 = x3 + 1 → R2 v8 M7)
def qX7_isWay_b43 (a1 : Int32) (a2 : Int32) (post : Int32 → Mem → Prop) (R2 : Int32 → Mem → Prop) (R43 : Int32 → Int32 → Mem → Prop) (R62 : Int32 → Int32 → Int32 → Mem → Prop) (x3 : Int32) (x4 : Int32) (M : Mem) : Prop :=
  (x3 ≤ x4 → vp_in a2 34 ∧ ((M.1 23 a2.toNatClampNeg) = (-1 : Int32) → post (0 : Int32) M) ∧ (¬ (M.1 23 a2.toNatClampNeg) = (-1 : Int32) → post (1 : Int32) M)) ∧ (¬ x3 ≤ x4 → vp_in a2 34 ∧ (¬ (M.1 23 a2.toNatClampNeg) = (-1 : Int32) → vp_in a2 34 ∧ ((M.1 23 a2.toNatClampNeg) = (-1 : Int32) → post (0 : Int32) M) ∧ (¬ (M.1 23 a2.toNatClampNeg) = (-1 : Int32) → post (1 : Int32) M)) ∧ ((M.1 23 a2.toNatClampNeg) = (-1 : Int32) → R62 x3 x4 (0 : Int32) M))
def qX7_isWay_b62 (a1 : Int32) (a2 : Int32) (post : Int32 → Mem → Prop) (R2 : Int32 → Mem → Prop) (R43 : Int32 → Int32 → Mem → Prop) (R62 : Int32 → Int32 → Int32 → Mem → Prop) (x3 : Int32) (x4 : Int32) (x5 : Int32) (M : Mem) : Prop :=
  ((34 : Int32) ≤ x5 → ∀ v17 : Int32, v17 = x4 + 1 → R43 x3 v17 M) ∧ (¬ (34 : Int32) ≤ x5 → vp_in x5 34 ∧ (¬ (M.1 23 x5.toNatClampNeg) = (-1 : Int32) → ∀ v20 : Int32, v20 = x5 + 1 → R62 x3 x4 v20 M) ∧ ((M.1 23 x5.toNatClampNeg) = (-1 : Int32) → vp_in x4 34 ∧ qX7_goes (M.1 24 x4.toNatClampNeg) x5 M (fun r22 M23 => (¬ r22 = 0 → vp_in x4 34 ∧ vp_in x5 34 ∧ ∀ M27 : Mem, M27 = sA M23 23 x5.toNatClampNeg (M23.1 24 x4.toNatClampNeg) → vp_in x3 34 ∧ ∀ M29 : Mem, M29 = sA M27 24 x3.toNatClampNeg x5 → ∀ v30 : Int32, v30 = x3 + 1 → ∀ v31 : Int32, v31 = x5 + 1 → R62 v30 x4 v31 M29) ∧ (r22 = 0 → ∀ v32 : Int32, v32 = x5 + 1 → R62 x3 x4 v32 M23))))
def qX7_isWay (a1 : Int32) (a2 : Int32) (M : Mem) (post : Int32 → Mem → Prop) : Prop :=
  ∀ (R2 : Int32 → Mem → Prop) (R43 : Int32 → Int32 → Mem → Prop) (R62 : Int32 → Int32 → Int32 → Mem → Prop), (∀ x3 M, qX7_isWay_b2 a1 a2 post R2 R43 R62 x3 M → R2 x3 M) → (∀ x3 x4 M, qX7_isWay_b43 a1 a2 post R2 R43 R62 x3 x4 M → R43 x3 x4 M) → (∀ x3 x4 x5 M, qX7_isWay_b62 a1 a2 post R2 R43 R62 x3 x4 x5 M → R62 x3 x4 x5 M) → R2 (0 : Int32) M
def qX7_goAlong_b6 (a1 : Int32) (a2 : Int32) (a3 : Int32) (post : Int32 → Mem → Prop) (R6 : Int32 → Int32 → Mem → Prop) (R47 : Int32 → Int32 → Mem → Prop) (x4 : Int32) (x5 : Int32) (M : Mem) : Prop :=
  (x5 = a1 → R47 x4 a2 M) ∧ (¬ x5 = a1 → vp_in x5 34 ∧ qX7_goes (M.1 23 x5.toNatClampNeg) x5 M (fun r3 M4 => ∀ v5 : Int32, v5 = (jmin x4 r3) → vp_in x5 34 ∧ ∀ v7 : Int32, v7 = (M4.1 23 x5.toNatClampNeg) → R6 v5 v7 M4))
def qX7_goAlong_b47 (a1 : Int32) (a2 : Int32) (a3 : Int32) (post : Int32 → Mem → Prop) (R6 : Int32 → Int32 → Mem → Prop) (R47 : Int32 → Int32 → Mem → Prop) (x4 : Int32) (x5 : Int32) (M : Mem) : Prop :=
  (x5 = a1 → post x4 M) ∧ (¬ x5 = a1 → vp_in x5 34 ∧ qX7_moves (M.1 23 x5.toNatClampNeg) x5 x4 M (fun M11 => vp_in x5 34 ∧ ∀ v13 : Int32, v13 = (M11.1 23 x5.toNatClampNeg) → R47 x4 v13 M11))
def qX7_goAlong (a1 : Int32) (a2 : Int32) (a3 : Int32) (M : Mem) (post : Int32 → Mem → Prop) : Prop :=
  ∀ (R6 : Int32 → Int32 → Mem → Prop) (R47 : Int32 → Int32 → Mem → Prop), (∀ x4 x5 M, qX7_goAlong_b6 a1 a2 a3 post R6 R47 x4 x5 M → R6 x4 x5 M) → (∀ x4 x5 M, qX7_goAlong_b47 a1 a2 a3 post R6 R47 x4 x5 M → R47 x4 x5 M) → R6 a3 a2 M
def qX7_layIn_b9 (a1 : Int32) (post : Int32 → Mem → Prop) (R9 : Int32 → Int32 → Mem → Prop) (R42 : Int32 → Int32 → Mem → Prop) (R73 : Int32 → Int32 → Mem → Prop) (R103 : Int32 → Mem → Prop) (x2 : Int32) (x3 : Int32) (M : Mem) : Prop :=
  ((24 : Int32) ≤ x3 → R42 x2 (0 : Int32) M) ∧ (¬ (24 : Int32) ≤ x3 → qX7_leftOf x3 a1 M (fun r4 M5 => vp_in x3 24 ∧ ∀ M7 : Mem, M7 = sA M5 19 x3.toNatClampNeg r4 → vp_in x3 24 ∧ ∀ M9 : Mem, M9 = sA M7 20 x3.toNatClampNeg (0 : Int32) → ∀ v10 : Int32, v10 = x3 + 1 → R9 x2 v10 M9))
def qX7_layIn_b42 (a1 : Int32) (post : Int32 → Mem → Prop) (R9 : Int32 → Int32 → Mem → Prop) (R42 : Int32 → Int32 → Mem → Prop) (R73 : Int32 → Int32 → Mem → Prop) (R103 : Int32 → Mem → Prop) (x2 : Int32) (x3 : Int32) (M : Mem) : Prop :=
  ((nI 192) ≤ x3 → R73 x2 (0 : Int32) M) ∧ (¬ (nI 192) ≤ x3 → vp_in x3 192 ∧ ∀ M13 : Mem, M13 = sA M 18 x3.toNatClampNeg (0 : Int32) → vp_in x3 192 ∧ ∀ M15 : Mem, M15 = sA M13 22 x3.toNatClampNeg (vp_nar .boolean (0 : Int32)) → ∀ v16 : Int32, v16 = x3 + 1 → R42 x2 v16 M15)
def qX7_layIn_b73 (a1 : Int32) (post : Int32 → Mem → Prop) (R9 : Int32 → Int32 → Mem → Prop) (R42 : Int32 → Int32 → Mem → Prop) (R73 : Int32 → Int32 → Mem → Prop) (R103 : Int32 → Mem → Prop) (x2 : Int32) (x3 : Int32) (M : Mem) : Prop :=
  ((M.1 0 6) ≤ x3 → R103 x2 M) ∧ (¬ (M.1 0 6) ≤ x3 → vp_in x3 8 ∧ ∀ M19 : Mem, M19 = sA M 21 x3.toNatClampNeg (0 : Int32) → vp_in x3 8 ∧ ∀ v21 : Int32, v21 = (x2 + (M19.1 14 x3.toNatClampNeg)) → ∀ v22 : Int32, v22 = x3 + 1 → R73 v21 v22 M19)
def qX7_layIn_b103 (a1 : Int32) (post : Int32 → Mem → Prop) (R9 : Int32 → Int32 → Mem → Prop) (R42 : Int32 → Int32 → Mem → Prop) (R73 : Int32 → Int32 → Mem → Prop) (R103 : Int32 → Mem → Prop) (x2 : Int32) (M : Mem) : Prop :=
  qX7_isWay (33 : Int32) (32 : Int32) M (fun r23 M24 => (r23 = 0 → post x2 M24) ∧ (¬ r23 = 0 → qX7_goAlong (33 : Int32) (32 : Int32) (10000 : Int32) M24 (fun r26 M27 => ∀ v28 : Int32, v28 = (x2 - r26) → R103 v28 M27)))
def qX7_layIn (a1 : Int32) (M : Mem) (post : Int32 → Mem → Prop) : Prop :=
  ∀ (R9 : Int32 → Int32 → Mem → Prop) (R42 : Int32 → Int32 → Mem → Prop) (R73 : Int32 → Int32 → Mem → Prop) (R103 : Int32 → Mem → Prop), (∀ x2 x3 M, qX7_layIn_b9 a1 post R9 R42 R73 R103 x2 x3 M → R9 x2 x3 M) → (∀ x2 x3 M, qX7_layIn_b42 a1 post R9 R42 R73 R103 x2 x3 M → R42 x2 x3 M) → (∀ x2 x3 M, qX7_layIn_b73 a1 post R9 R42 R73 R103 x2 x3 M → R73 x2 x3 M) → (∀ x2 M, qX7_layIn_b103 a1 post R9 R42 R73 R103 x2 M → R103 x2 M) → qX7_look a1 M (fun M2 => R9 (0 : Int32) (0 : Int32) M2)
def qX7_rest (a1 : Int32) (M : Mem) (post : Int32 → Mem → Prop) : Prop :=
  qX7_isFall a1 M (fun r1 M2 => (¬ r1 = 0 → ∀ M4 : Mem, M4 = sA M2 0 0 (0 : Int32) → qX7_layIn a1 M4 (fun r5 M6 => post r5 M6)) ∧ (r1 = 0 → qX7_refuse (1 : Int32) M2 (fun r7 M8 => post r7 M8)))
def qX7_part_b55 (a1 : Int32) (a2 : Int32) (a3 : Int32) (post : Int32 → Mem → Prop) (R55 : Int32 → Mem → Prop) (R70 : Int32 → Int32 → Mem → Prop) (R100 : Int32 → Int32 → Int32 → Mem → Prop) (x4 : Int32) (M : Mem) : Prop :=
  (a2 < x4 → vp_in (((24 : Int32) * a2) + a3) 192 ∧ post (M.1 18 (((24 : Int32) * a2) + a3).toNatClampNeg) M) ∧ (¬ a2 < x4 → vp_in x4 8 ∧ ∀ v26 : Int32, v26 = (M.1 15 x4.toNatClampNeg) → R70 x4 v26 M)
def qX7_part_b70 (a1 : Int32) (a2 : Int32) (a3 : Int32) (post : Int32 → Mem → Prop) (R55 : Int32 → Mem → Prop) (R70 : Int32 → Int32 → Mem → Prop) (R100 : Int32 → Int32 → Int32 → Mem → Prop) (x4 : Int32) (x5 : Int32) (M : Mem) : Prop :=
  vp_in x4 8 ∧ ((M.1 16 x4.toNatClampNeg) ≤ x5 → ∀ v29 : Int32, v29 = x4 + 1 → R55 v29 M) ∧ (¬ (M.1 16 x4.toNatClampNeg) ≤ x5 → ∀ v30 : Int32, v30 = (((24 : Int32) * x4) + x5) → vp_in v30 192 ∧ ∀ M32 : Mem, M32 = sA M 22 v30.toNatClampNeg (vp_nar .boolean (1 : Int32)) → R100 x4 x5 v30 M32)
def qX7_part_b100 (a1 : Int32) (a2 : Int32) (a3 : Int32) (post : Int32 → Mem → Prop) (R55 : Int32 → Mem → Prop) (R70 : Int32 → Int32 → Mem → Prop) (R100 : Int32 → Int32 → Int32 → Mem → Prop) (x4 : Int32) (x5 : Int32) (x6 : Int32) (M : Mem) : Prop :=
  vp_in x6 192 ∧ vp_in x4 8 ∧ ((M.1 17 x4.toNatClampNeg) ≤ (M.1 18 x6.toNatClampNeg) → ∀ v36 : Int32, v36 = x5 + 1 → R70 x4 v36 M) ∧ (¬ (M.1 17 x4.toNatClampNeg) ≤ (M.1 18 x6.toNatClampNeg) → qX7_isWay ((8 : Int32) + x5) x4 M (fun r37 M38 => (r37 = 0 → ∀ v40 : Int32, v40 = x5 + 1 → R70 x4 v40 M38) ∧ (¬ r37 = 0 → vp_in x4 8 ∧ vp_in x6 192 ∧ qX7_goAlong ((8 : Int32) + x5) x4 ((M38.1 17 x4.toNatClampNeg) - (M38.1 18 x6.toNatClampNeg)) M38 (fun r43 M44 => vp_in x6 192 ∧ vp_in x6 192 ∧ ∀ M47 : Mem, M47 = sA M44 18 x6.toNatClampNeg ((M44.1 18 x6.toNatClampNeg) + r43) → R100 x4 x5 x6 M47))))
def qX7_part (a1 : Int32) (a2 : Int32) (a3 : Int32) (M : Mem) (post : Int32 → Mem → Prop) : Prop :=
  ∀ (R55 : Int32 → Mem → Prop) (R70 : Int32 → Int32 → Mem → Prop) (R100 : Int32 → Int32 → Int32 → Mem → Prop), (∀ x4 M, qX7_part_b55 a1 a2 a3 post R55 R70 R100 x4 M → R55 x4 M) → (∀ x4 x5 M, qX7_part_b70 a1 a2 a3 post R55 R70 R100 x4 x5 M → R70 x4 x5 M) → (∀ x4 x5 x6 M, qX7_part_b100 a1 a2 a3 post R55 R70 R100 x4 x5 x6 M → R100 x4 x5 x6 M) → qX7_isFall a1 M (fun r1 M2 => (r1 = 0 → qX7_refuse (1 : Int32) M2 (fun r4 M5 => post r4 M5)) ∧ (¬ r1 = 0 → (a2 < 0 → qX7_refuse (1 : Int32) M2 (fun r7 M8 => post r7 M8)) ∧ (¬ a2 < 0 → ((M2.1 0 6) ≤ a2 → qX7_refuse (1 : Int32) M2 (fun r10 M11 => post r10 M11)) ∧ (¬ (M2.1 0 6) ≤ a2 → qX7_isHour a3 M2 (fun r12 M13 => (¬ r12 = 0 → qX7_layIn a1 M13 (fun r15 M16 => (r15 ≤ 0 → ∀ M18 : Mem, M18 = sA M16 0 0 (0 : Int32) → R55 (0 : Int32) M18) ∧ (¬ r15 ≤ 0 → qX7_refuse (7 : Int32) M16 (fun r19 M20 => post r19 M20)))) ∧ (r12 = 0 → qX7_refuse (1 : Int32) M13 (fun r21 M22 => post r21 M22)))))))
def qX7_step_b28 (a1 : Int32) (a2 : Int32) (a3 : Int32) (a4 : Int32) (post : Mem → Prop) (R28 : Int32 → Mem → Prop) (R51 : Int32 → Mem → Prop) (R60 : Int32 → Int32 → Mem → Prop) (R84 : Int32 → Int32 → Int32 → Int32 → Mem → Prop) (R184 : Int32 → Int32 → Int32 → Int32 → Int32 → Int32 → Mem → Prop) (x5 : Int32) (M : Mem) : Prop :=
  (a3 ≤ x5 → R51 (0 : Int32) M) ∧ (¬ a3 ≤ x5 → vp_in x5 20 ∧ ∀ M8 : Mem, M8 = sA M 25 x5.toNatClampNeg (0 : Int32) → ∀ v9 : Int32, v9 = x5 + 1 → R28 v9 M8)
def qX7_step_b51 (a1 : Int32) (a2 : Int32) (a3 : Int32) (a4 : Int32) (post : Mem → Prop) (R28 : Int32 → Mem → Prop) (R51 : Int32 → Mem → Prop) (R60 : Int32 → Int32 → Mem → Prop) (R84 : Int32 → Int32 → Int32 → Int32 → Mem → Prop) (R184 : Int32 → Int32 → Int32 → Int32 → Int32 → Int32 → Mem → Prop) (x5 : Int32) (M : Mem) : Prop :=
  (a2 ≤ x5 → post M) ∧ (¬ a2 ≤ x5 → R60 x5 (0 : Int32) M)
def qX7_step_b60 (a1 : Int32) (a2 : Int32) (a3 : Int32) (a4 : Int32) (post : Mem → Prop) (R28 : Int32 → Mem → Prop) (R51 : Int32 → Mem → Prop) (R60 : Int32 → Int32 → Mem → Prop) (R84 : Int32 → Int32 → Int32 → Int32 → Mem → Prop) (R184 : Int32 → Int32 → Int32 → Int32 → Int32 → Int32 → Mem → Prop) (x5 : Int32) (x6 : Int32) (M : Mem) : Prop :=
  vp_in (((64 : Int32) * a1) + x5) 384 ∧ (((M.2 3 (((64 : Int32) * a1) + x5).toNatClampNeg).toInt32) ≤ x6 → ∀ v13 : Int32, v13 = x5 + 1 → R51 v13 M) ∧ (¬ ((M.2 3 (((64 : Int32) * a1) + x5).toNatClampNeg).toInt32) ≤ x6 → R84 x5 x6 (0 : Int32) (1 : Int32) M)
def qX7_step_b84 (a1 : Int32) (a2 : Int32) (a3 : Int32) (a4 : Int32) (post : Mem → Prop) (R28 : Int32 → Mem → Prop) (R51 : Int32 → Mem → Prop) (R60 : Int32 → Int32 → Mem → Prop) (R84 : Int32 → Int32 → Int32 → Int32 → Mem → Prop) (R184 : Int32 → Int32 → Int32 → Int32 → Int32 → Int32 → Mem → Prop) (x5 : Int32) (x6 : Int32) (x7 : Int32) (x8 : Int32) (M : Mem) : Prop :=
  (a3 ≤ x8 → vp_in x7 20 ∧ ∀ v16 : Int32, v16 = (jmax x5 (M.1 25 x7.toNatClampNeg)) → vp_in x7 20 ∧ ∀ M18 : Mem, M18 = sA M 25 x7.toNatClampNeg (v16 + a4) → ∀ M19 : Mem, M19 = sA M18 0 32 ((M18.1 0 32) + (1 : Int32)) → ∀ M20 : Mem, M20 = sA M19 0 31 ((M19.1 0 31) + (v16 - x5)) → (v16 ≤ x5 → R184 x5 x6 x7 v16 (0 : Int32) (M20.1 0 33) M20) ∧ (¬ v16 ≤ x5 → R184 x5 x6 x7 v16 (1 : Int32) (M20.1 0 33) M20)) ∧ (¬ a3 ≤ x8 → vp_in x8 20 ∧ vp_in x7 20 ∧ ((M.1 25 x7.toNatClampNeg) ≤ (M.1 25 x8.toNatClampNeg) → ∀ v25 : Int32, v25 = x8 + 1 → R84 x5 x6 x7 v25 M) ∧ (¬ (M.1 25 x7.toNatClampNeg) ≤ (M.1 25 x8.toNatClampNeg) → ∀ v26 : Int32, v26 = x8 + 1 → R84 x5 x6 x8 v26 M))
def qX7_step_b184 (a1 : Int32) (a2 : Int32) (a3 : Int32) (a4 : Int32) (post : Mem → Prop) (R28 : Int32 → Mem → Prop) (R51 : Int32 → Mem → Prop) (R60 : Int32 → Int32 → Mem → Prop) (R84 : Int32 → Int32 → Int32 → Int32 → Mem → Prop) (R184 : Int32 → Int32 → Int32 → Int32 → Int32 → Int32 → Mem → Prop) (x5 : Int32) (x6 : Int32) (x7 : Int32) (x8 : Int32) (s0 : Int32) (s1 : Int32) (M : Mem) : Prop :=
  ∀ M27 : Mem, M27 = sA M 0 33 (s1 + s0) → ∀ M28 : Mem, M28 = sA M27 0 30 (jmax (M27.1 0 30) (x8 - x5)) → vp_in x7 20 ∧ ∀ M30 : Mem, M30 = sA M28 0 34 (jmax (M28.1 0 34) (M28.1 25 x7.toNatClampNeg)) → ∀ v31 : Int32, v31 = x6 + 1 → R60 x5 v31 M30
def qX7_step (a1 : Int32) (a2 : Int32) (a3 : Int32) (a4 : Int32) (M : Mem) (post : Mem → Prop) : Prop :=
  ∀ (R28 : Int32 → Mem → Prop) (R51 : Int32 → Mem → Prop) (R60 : Int32 → Int32 → Mem → Prop) (R84 : Int32 → Int32 → Int32 → Int32 → Mem → Prop) (R184 : Int32 → Int32 → Int32 → Int32 → Int32 → Int32 → Mem → Prop), (∀ x5 M, qX7_step_b28 a1 a2 a3 a4 post R28 R51 R60 R84 R184 x5 M → R28 x5 M) → (∀ x5 M, qX7_step_b51 a1 a2 a3 a4 post R28 R51 R60 R84 R184 x5 M → R51 x5 M) → (∀ x5 x6 M, qX7_step_b60 a1 a2 a3 a4 post R28 R51 R60 R84 R184 x5 x6 M → R60 x5 x6 M) → (∀ x5 x6 x7 x8 M, qX7_step_b84 a1 a2 a3 a4 post R28 R51 R60 R84 R184 x5 x6 x7 x8 M → R84 x5 x6 x7 x8 M) → (∀ x5 x6 x7 x8 s0 s1 M, qX7_step_b184 a1 a2 a3 a4 post R28 R51 R60 R84 R184 x5 x6 x7 x8 s0 s1 M → R184 x5 x6 x7 x8 s0 s1 M) → ∀ M1 : Mem, M1 = sA M 0 30 (0 : Int32) → ∀ M2 : Mem, M2 = sA M1 0 31 (0 : Int32) → ∀ M3 : Mem, M3 = sA M2 0 32 (0 : Int32) → ∀ M4 : Mem, M4 = sA M3 0 33 (0 : Int32) → ∀ M5 : Mem, M5 = sA M4 0 34 (0 : Int32) → R28 (0 : Int32) M5
def qX7_line_b46 (a1 : Int32) (a2 : Int32) (a3 : Int32) (a4 : Int32) (a5 : Int32) (post : Int32 → Mem → Prop) (R46 : Mem → Prop) (R59 : Int32 → Mem → Prop)  (M : Mem) : Prop :=
  R59 (1 : Int32) M
def qX7_line_b59 (a1 : Int32) (a2 : Int32) (a3 : Int32) (a4 : Int32) (a5 : Int32) (post : Int32 → Mem → Prop) (R46 : Mem → Prop) (R59 : Int32 → Mem → Prop) (s0 : Int32) (M : Mem) : Prop :=
  (s0 ≤ 0 → qX7_step a1 a2 a3 a4 M (fun M13 => ∀ M14 : Mem, M14 = sA M13 0 0 (0 : Int32) → (¬ a5 = 0 → (¬ a5 = (1 : Int32) → (¬ a5 = (2 : Int32) → (¬ a5 = (3 : Int32) → post (M14.1 0 34) M14) ∧ (a5 = (3 : Int32) → post (M14.1 0 33) M14)) ∧ (a5 = (2 : Int32) → post (M14.1 0 32) M14)) ∧ (a5 = (1 : Int32) → post (M14.1 0 31) M14)) ∧ (a5 = 0 → post (M14.1 0 30) M14))) ∧ (¬ s0 ≤ 0 → qX7_refuse s0 M (fun r19 M20 => post r19 M20))
def qX7_line (a1 : Int32) (a2 : Int32) (a3 : Int32) (a4 : Int32) (a5 : Int32) (M : Mem) (post : Int32 → Mem → Prop) : Prop :=
  ∀ (R46 : Mem → Prop) (R59 : Int32 → Mem → Prop), (∀ M, qX7_line_b46 a1 a2 a3 a4 a5 post R46 R59 M → R46 M) → (∀ s0 M, qX7_line_b59 a1 a2 a3 a4 a5 post R46 R59 s0 M → R59 s0 M) → (a2 < (1 : Int32) → R46 M) ∧ (¬ a2 < (1 : Int32) → ((64 : Int32) < a2 → R46 M) ∧ (¬ (64 : Int32) < a2 → (a3 < (1 : Int32) → R46 M) ∧ (¬ a3 < (1 : Int32) → ((20 : Int32) < a3 → R46 M) ∧ (¬ (20 : Int32) < a3 → (a4 < (1 : Int32) → R46 M) ∧ (¬ a4 < (1 : Int32) → ((100 : Int32) < a4 → R46 M) ∧ (¬ (100 : Int32) < a4 → (a5 < 0 → R46 M) ∧ (¬ a5 < 0 → (a5 ≤ (4 : Int32) → qX7_wrongNumbers a1 a2 (100 : Int64) M (fun r9 M10 => R59 r9 M10)) ∧ (¬ a5 ≤ (4 : Int32) → R46 M))))))))
def qX7_hands_b35 (a1 : Int32) (a2 : Int32) (a3 : Int32) (a4 : Int32) (post : Int32 → Mem → Prop) (R35 : Mem → Prop) (R70 : Int32 → Mem → Prop)  (M : Mem) : Prop :=
  ((1 : Int32) ≤ 0 → ∀ M14 : Mem, M14 = sA M 0 0 (0 : Int32) → R70 (1 : Int32) M14) ∧ (¬ (1 : Int32) ≤ 0 → qX7_refuse (1 : Int32) M (fun r15 M16 => post r15 M16))
def qX7_hands_b70 (a1 : Int32) (a2 : Int32) (a3 : Int32) (a4 : Int32) (post : Int32 → Mem → Prop) (R35 : Mem → Prop) (R70 : Int32 → Mem → Prop) (x6 : Int32) (M : Mem) : Prop :=
  ((20 : Int32) < x6 → qX7_refuse (7 : Int32) M (fun r18 M19 => post r18 M19)) ∧ (¬ (20 : Int32) < x6 → qX7_step a1 a2 x6 a3 M (fun M21 => (a4 < (M21.1 0 30) → ∀ v23 : Int32, v23 = x6 + 1 → R70 v23 M21) ∧ (¬ a4 < (M21.1 0 30) → post x6 M21)))
def qX7_hands (a1 : Int32) (a2 : Int32) (a3 : Int32) (a4 : Int32) (M : Mem) (post : Int32 → Mem → Prop) : Prop :=
  ∀ (R35 : Mem → Prop) (R70 : Int32 → Mem → Prop), (∀ M, qX7_hands_b35 a1 a2 a3 a4 post R35 R70 M → R35 M) → (∀ x6 M, qX7_hands_b70 a1 a2 a3 a4 post R35 R70 x6 M → R70 x6 M) → (a2 < (1 : Int32) → R35 M) ∧ (¬ a2 < (1 : Int32) → ((64 : Int32) < a2 → R35 M) ∧ (¬ (64 : Int32) < a2 → (a3 < (1 : Int32) → R35 M) ∧ (¬ a3 < (1 : Int32) → ((100 : Int32) < a3 → R35 M) ∧ (¬ (100 : Int32) < a3 → (a4 < 0 → R35 M) ∧ (¬ a4 < 0 → (a4 ≤ (10000 : Int32) → qX7_wrongNumbers a1 a2 (100 : Int64) M (fun r7 M8 => (r7 ≤ 0 → ∀ M10 : Mem, M10 = sA M8 0 0 (0 : Int32) → R70 (1 : Int32) M10) ∧ (¬ r7 ≤ 0 → qX7_refuse r7 M8 (fun r11 M12 => post r11 M12)))) ∧ (¬ a4 ≤ (10000 : Int32) → R35 M))))))
def qX7_wanted_b23 (a1 : Int32) (post : Int32 → Mem → Prop) (R23 : Int32 → Mem → Prop) (x3 : Int32) (M : Mem) : Prop :=
  ((12 : Int32) ≤ x3 → qX7_is (0 : Int32) M (fun r7 M8 => zb r7 ∧ post r7 M8)) ∧ (¬ (12 : Int32) ≤ x3 → vp_in (((64 : Int32) * a1) + x3) 384 ∧ vp_in x3 12 ∧ ∀ M11 : Mem, M11 = sA M 26 x3.toNatClampNeg ((M.2 3 (((64 : Int32) * a1) + x3).toNatClampNeg).toInt32) → ∀ v12 : Int32, v12 = x3 + 1 → R23 v12 M11)
def qX7_wanted (a1 : Int32) (M : Mem) (post : Int32 → Mem → Prop) : Prop :=
  ∀ (R23 : Int32 → Mem → Prop), (∀ x3 M, qX7_wanted_b23 a1 post R23 x3 M → R23 x3 M) → qX7_wrongNumbers a1 (12 : Int32) (500 : Int64) M (fun r1 M2 => (r1 ≤ 0 → R23 (0 : Int32) M2) ∧ (¬ r1 ≤ 0 → qX7_is r1 M2 (fun r4 M5 => zb r4 ∧ post r4 M5)))
def qX7_have (a1 : Int32) (M : Mem) (post : Int32 → Mem → Prop) : Prop :=
  (a1 < 0 → qX7_is (1 : Int32) M (fun r2 M3 => zb r2 ∧ post r2 M3)) ∧ (¬ a1 < 0 → (a1 ≤ (500 : Int32) → ∀ M5 : Mem, M5 = sA M 0 40 a1 → qX7_is (0 : Int32) M5 (fun r6 M7 => zb r6 ∧ post r6 M7)) ∧ (¬ a1 ≤ (500 : Int32) → qX7_is (1 : Int32) M (fun r8 M9 => zb r8 ∧ post r8 M9)))
def qX7_type_b34 (a1 : Int32) (a2 : Int32) (a3 : Int32) (a4 : Int32) (post : Int32 → Mem → Prop) (R34 : Mem → Prop) (R66 : Int32 → Mem → Prop) (R112 : Int32 → Mem → Prop)  (M : Mem) : Prop :=
  (¬ (1 : Int32) = 0 → R66 (1 : Int32) M) ∧ ((1 : Int32) = 0 → (¬ (M.1 0 7) = (4 : Int32) → R66 (1 : Int32) M) ∧ ((M.1 0 7) = (4 : Int32) → R66 (4 : Int32) M))
def qX7_type_b66 (a1 : Int32) (a2 : Int32) (a3 : Int32) (a4 : Int32) (post : Int32 → Mem → Prop) (R34 : Mem → Prop) (R66 : Int32 → Mem → Prop) (R112 : Int32 → Mem → Prop) (x5 : Int32) (M : Mem) : Prop :=
  (x5 ≤ 0 → vp_in (M.1 0 7) 4 ∧ ∀ M15 : Mem, M15 = sA M 27 (M.1 0 7).toNatClampNeg a1 → vp_in (M15.1 0 7) 4 ∧ ∀ M17 : Mem, M17 = sA M15 28 (M15.1 0 7).toNatClampNeg a2 → vp_in (M17.1 0 7) 4 ∧ ∀ M19 : Mem, M19 = sA M17 29 (M17.1 0 7).toNatClampNeg a4 → R112 (0 : Int32) M19) ∧ (¬ x5 ≤ 0 → qX7_refuse x5 M (fun r20 M21 => post r20 M21))
def qX7_type_b112 (a1 : Int32) (a2 : Int32) (a3 : Int32) (a4 : Int32) (post : Int32 → Mem → Prop) (R34 : Mem → Prop) (R66 : Int32 → Mem → Prop) (R112 : Int32 → Mem → Prop) (x6 : Int32) (M : Mem) : Prop :=
  ((12 : Int32) ≤ x6 → ∀ M23 : Mem, M23 = sA M 0 7 ((M.1 0 7) + (1 : Int32)) → ∀ M24 : Mem, M24 = sA M23 0 0 (0 : Int32) → post ((M24.1 0 7) - (1 : Int32)) M24) ∧ (¬ (12 : Int32) ≤ x6 → vp_in (((64 : Int32) * a3) + x6) 384 ∧ vp_in (((12 : Int32) * (M.1 0 7)) + x6) 48 ∧ ∀ M27 : Mem, M27 = sA M 30 (((12 : Int32) * (M.1 0 7)) + x6).toNatClampNeg ((M.2 3 (((64 : Int32) * a3) + x6).toNatClampNeg).toInt32) → ∀ v28 : Int32, v28 = x6 + 1 → R112 v28 M27)
def qX7_type (a1 : Int32) (a2 : Int32) (a3 : Int32) (a4 : Int32) (M : Mem) (post : Int32 → Mem → Prop) : Prop :=
  ∀ (R34 : Mem → Prop) (R66 : Int32 → Mem → Prop) (R112 : Int32 → Mem → Prop), (∀ M, qX7_type_b34 a1 a2 a3 a4 post R34 R66 R112 M → R34 M) → (∀ x5 M, qX7_type_b66 a1 a2 a3 a4 post R34 R66 R112 x5 M → R66 x5 M) → (∀ x6 M, qX7_type_b112 a1 a2 a3 a4 post R34 R66 R112 x6 M → R112 x6 M) → (a1 < (1 : Int32) → R34 M) ∧ (¬ a1 < (1 : Int32) → ((100 : Int32) < a1 → R34 M) ∧ (¬ (100 : Int32) < a1 → (a2 < 0 → R34 M) ∧ (¬ a2 < 0 → ((11 : Int32) < a2 → R34 M) ∧ (¬ (11 : Int32) < a2 → (a4 < 0 → R34 M) ∧ (¬ a4 < 0 → (a4 ≤ (1000 : Int32) → qX7_wrongNumbers a3 (12 : Int32) (100000 : Int64) M (fun r7 M8 => (¬ r7 = 0 → R66 r7 M8) ∧ (r7 = 0 → (¬ (M8.1 0 7) = (4 : Int32) → R66 r7 M8) ∧ ((M8.1 0 7) = (4 : Int32) → R66 (4 : Int32) M8)))) ∧ (¬ a4 ≤ (1000 : Int32) → R34 M))))))
def qX7_at (a0 : Int32) (a1 : Int32) (a2 : Int32) (M : Mem) (post : Int32 → Mem → Prop) : Prop :=
  post (((501 : Int32) * (((4 : Int32) * a0) + a1)) + a2) M
def qX7_takes (a1 : Int32) (a2 : Int32) (M : Mem) (post : Int32 → Mem → Prop) : Prop :=
  vp_in a1 4 ∧ vp_in ((((12 : Int32) * a1) + a2) - (M.1 28 a1.toNatClampNeg)) 48 ∧ vp_in a1 4 ∧ post ((M.1 30 ((((12 : Int32) * a1) + a2) - (M.1 28 a1.toNatClampNeg)).toNatClampNeg) + ((M.1 29 a1.toNatClampNeg) * ((12 : Int32) - a2))) M
def qX7_reckon_b2  (post : Mem → Prop) (R2 : Int32 → Mem → Prop) (R31 : Int32 → Mem → Prop) (R37 : Int32 → Int32 → Mem → Prop) (R45 : Int32 → Int32 → Int32 → Mem → Prop) (R98 : Int32 → Int32 → Int32 → Int32 → Mem → Prop) (R174 : Int32 → Int32 → Int32 → Int32 → Mem → Prop) (x1 : Int32) (M : Mem) : Prop :=
  ((500 : Int32) < x1 → R31 (11 : Int32) M) ∧ (¬ (500 : Int32) < x1 → qX7_at (12 : Int32) (0 : Int32) x1 M (fun r2 M3 => vp_in r2 24549 ∧ ∀ M5 : Mem, M5 = sA M3 31 r2.toNatClampNeg (0 : Int32) → ∀ v6 : Int32, v6 = x1 + 1 → R2 v6 M5))
def qX7_reckon_b31  (post : Mem → Prop) (R2 : Int32 → Mem → Prop) (R31 : Int32 → Mem → Prop) (R37 : Int32 → Int32 → Mem → Prop) (R45 : Int32 → Int32 → Int32 → Mem → Prop) (R98 : Int32 → Int32 → Int32 → Int32 → Mem → Prop) (R174 : Int32 → Int32 → Int32 → Int32 → Mem → Prop) (x1 : Int32) (M : Mem) : Prop :=
  (x1 < 0 → post M) ∧ (¬ x1 < 0 → R37 x1 (3 : Int32) M)
def qX7_reckon_b37  (post : Mem → Prop) (R2 : Int32 → Mem → Prop) (R31 : Int32 → Mem → Prop) (R37 : Int32 → Int32 → Mem → Prop) (R45 : Int32 → Int32 → Int32 → Mem → Prop) (R98 : Int32 → Int32 → Int32 → Int32 → Mem → Prop) (R174 : Int32 → Int32 → Int32 → Int32 → Mem → Prop) (x1 : Int32) (x2 : Int32) (M : Mem) : Prop :=
  (x2 < 0 → ∀ v9 : Int32, v9 = x1 + (-1) → R31 v9 M) ∧ (¬ x2 < 0 → R45 x1 x2 (500 : Int32) M)
def qX7_reckon_b45  (post : Mem → Prop) (R2 : Int32 → Mem → Prop) (R31 : Int32 → Mem → Prop) (R37 : Int32 → Int32 → Mem → Prop) (R45 : Int32 → Int32 → Int32 → Mem → Prop) (R98 : Int32 → Int32 → Int32 → Int32 → Mem → Prop) (R174 : Int32 → Int32 → Int32 → Int32 → Mem → Prop) (x1 : Int32) (x2 : Int32) (x3 : Int32) (M : Mem) : Prop :=
  (x3 < 0 → ∀ v11 : Int32, v11 = x2 + (-1) → R37 x1 v11 M) ∧ (¬ x3 < 0 → ((3 : Int32) ≤ x2 → vp_in x1 12 ∧ (x3 < (M.1 26 x1.toNatClampNeg) → R98 x1 x2 x3 (2000000000 : Int32) M) ∧ (¬ x3 < (M.1 26 x1.toNatClampNeg) → qX7_at (x1 + (1 : Int32)) (0 : Int32) x3 M (fun r15 M16 => vp_in r15 24549 ∧ R98 x1 x2 x3 (M16.1 31 r15.toNatClampNeg) M16))) ∧ (¬ (3 : Int32) ≤ x2 → qX7_at x1 (x2 + (1 : Int32)) x3 M (fun r18 M19 => vp_in r18 24549 ∧ R98 x1 x2 x3 (M19.1 31 r18.toNatClampNeg) M19)))
def qX7_reckon_b98  (post : Mem → Prop) (R2 : Int32 → Mem → Prop) (R31 : Int32 → Mem → Prop) (R37 : Int32 → Int32 → Mem → Prop) (R45 : Int32 → Int32 → Int32 → Mem → Prop) (R98 : Int32 → Int32 → Int32 → Int32 → Mem → Prop) (R174 : Int32 → Int32 → Int32 → Int32 → Mem → Prop) (x1 : Int32) (x2 : Int32) (x3 : Int32) (s0 : Int32) (M : Mem) : Prop :=
  ((M.1 0 7) ≤ x2 → R174 x1 x2 x3 s0 M) ∧ (¬ (M.1 0 7) ≤ x2 → vp_in x2 4 ∧ (x1 < (M.1 28 x2.toNatClampNeg) → R174 x1 x2 x3 s0 M) ∧ (¬ x1 < (M.1 28 x2.toNatClampNeg) → ((500 : Int32) ≤ x3 → R174 x1 x2 x3 s0 M) ∧ (¬ (500 : Int32) ≤ x3 → vp_in x2 4 ∧ qX7_at x1 x2 (jmin (500 : Int32) (x3 + (M.1 27 x2.toNatClampNeg))) M (fun r26 M27 => vp_in r26 24549 ∧ ∀ v29 : Int32, v29 = (M27.1 31 r26.toNatClampNeg) → ((2000000000 : Int32) ≤ v29 → R174 x1 x2 x3 s0 M27) ∧ (¬ (2000000000 : Int32) ≤ v29 → qX7_takes x2 x1 M27 (fun r31 M32 => ∀ v33 : Int32, v33 = (jmin s0 (v29 + r31)) → R174 x1 x2 x3 v33 M32))))))
def qX7_reckon_b174  (post : Mem → Prop) (R2 : Int32 → Mem → Prop) (R31 : Int32 → Mem → Prop) (R37 : Int32 → Int32 → Mem → Prop) (R45 : Int32 → Int32 → Int32 → Mem → Prop) (R98 : Int32 → Int32 → Int32 → Int32 → Mem → Prop) (R174 : Int32 → Int32 → Int32 → Int32 → Mem → Prop) (x1 : Int32) (x2 : Int32) (x3 : Int32) (x4 : Int32) (M : Mem) : Prop :=
  qX7_at x1 x2 x3 M (fun r34 M35 => vp_in r34 24549 ∧ ∀ M37 : Mem, M37 = sA M35 31 r34.toNatClampNeg x4 → ∀ v38 : Int32, v38 = x3 + (-1) → R45 x1 x2 v38 M37)
def qX7_reckon  (M : Mem) (post : Mem → Prop) : Prop :=
  ∀ (R2 : Int32 → Mem → Prop) (R31 : Int32 → Mem → Prop) (R37 : Int32 → Int32 → Mem → Prop) (R45 : Int32 → Int32 → Int32 → Mem → Prop) (R98 : Int32 → Int32 → Int32 → Int32 → Mem → Prop) (R174 : Int32 → Int32 → Int32 → Int32 → Mem → Prop), (∀ x1 M, qX7_reckon_b2 post R2 R31 R37 R45 R98 R174 x1 M → R2 x1 M) → (∀ x1 M, qX7_reckon_b31 post R2 R31 R37 R45 R98 R174 x1 M → R31 x1 M) → (∀ x1 x2 M, qX7_reckon_b37 post R2 R31 R37 R45 R98 R174 x1 x2 M → R37 x1 x2 M) → (∀ x1 x2 x3 M, qX7_reckon_b45 post R2 R31 R37 R45 R98 R174 x1 x2 x3 M → R45 x1 x2 x3 M) → (∀ x1 x2 x3 s0 M, qX7_reckon_b98 post R2 R31 R37 R45 R98 R174 x1 x2 x3 s0 M → R98 x1 x2 x3 s0 M) → (∀ x1 x2 x3 x4 M, qX7_reckon_b174 post R2 R31 R37 R45 R98 R174 x1 x2 x3 x4 M → R174 x1 x2 x3 x4 M) → R2 (0 : Int32) M
def qX7_cheapest  (M : Mem) (post : Int32 → Mem → Prop) : Prop :=
  qX7_reckon M (fun M2 => qX7_at (0 : Int32) (0 : Int32) (M2.1 0 40) M2 (fun r3 M4 => vp_in r3 24549 ∧ ∀ v6 : Int32, v6 = (M4.1 31 r3.toNatClampNeg) → (¬ v6 = (2000000000 : Int32) → ∀ M8 : Mem, M8 = sA M4 0 0 (0 : Int32) → post v6 M8) ∧ (v6 = (2000000000 : Int32) → qX7_refuse (7 : Int32) M4 (fun r9 M10 => post r9 M10))))
def qX7_buys_b71 (a1 : Int32) (a2 : Int32) (post : Int32 → Mem → Prop) (R71 : Int32 → Int32 → Mem → Prop) (R81 : Int32 → Int32 → Int32 → Mem → Prop) (R90 : Int32 → Int32 → Int32 → Int32 → Mem → Prop) (R157 : Int32 → Int32 → Int32 → Int32 → Int32 → Int32 → Mem → Prop) (x3 : Int32) (x4 : Int32) (M : Mem) : Prop :=
  ((12 : Int32) ≤ x4 → post (-1 : Int32) M) ∧ (¬ (12 : Int32) ≤ x4 → R81 x3 x4 (0 : Int32) M)
def qX7_buys_b81 (a1 : Int32) (a2 : Int32) (post : Int32 → Mem → Prop) (R71 : Int32 → Int32 → Mem → Prop) (R81 : Int32 → Int32 → Int32 → Mem → Prop) (R90 : Int32 → Int32 → Int32 → Int32 → Mem → Prop) (R157 : Int32 → Int32 → Int32 → Int32 → Int32 → Int32 → Mem → Prop) (x3 : Int32) (x4 : Int32) (x5 : Int32) (M : Mem) : Prop :=
  ((4 : Int32) ≤ x5 → ∀ v25 : Int32, v25 = x4 + 1 → R71 x3 v25 M) ∧ (¬ (4 : Int32) ≤ x5 → R90 x3 x4 x5 (0 : Int32) M)
def qX7_buys_b90 (a1 : Int32) (a2 : Int32) (post : Int32 → Mem → Prop) (R71 : Int32 → Int32 → Mem → Prop) (R81 : Int32 → Int32 → Int32 → Mem → Prop) (R90 : Int32 → Int32 → Int32 → Int32 → Mem → Prop) (R157 : Int32 → Int32 → Int32 → Int32 → Int32 → Int32 → Mem → Prop) (x3 : Int32) (x4 : Int32) (x5 : Int32) (x6 : Int32) (M : Mem) : Prop :=
  qX7_at x4 x5 x3 M (fun r26 M27 => vp_in r26 24549 ∧ ((3 : Int32) ≤ x5 → vp_in x4 12 ∧ (x3 < (M27.1 26 x4.toNatClampNeg) → R157 x3 x4 x5 x6 (2000000000 : Int32) (M27.1 31 r26.toNatClampNeg) M27) ∧ (¬ x3 < (M27.1 26 x4.toNatClampNeg) → qX7_at (x4 + (1 : Int32)) (0 : Int32) x3 M27 (fun r32 M33 => vp_in r32 24549 ∧ R157 x3 x4 x5 x6 (M33.1 31 r32.toNatClampNeg) (M27.1 31 r26.toNatClampNeg) M33))) ∧ (¬ (3 : Int32) ≤ x5 → qX7_at x4 (x5 + (1 : Int32)) x3 M27 (fun r35 M36 => vp_in r35 24549 ∧ R157 x3 x4 x5 x6 (M36.1 31 r35.toNatClampNeg) (M27.1 31 r26.toNatClampNeg) M36)))
def qX7_buys_b157 (a1 : Int32) (a2 : Int32) (post : Int32 → Mem → Prop) (R71 : Int32 → Int32 → Mem → Prop) (R81 : Int32 → Int32 → Int32 → Mem → Prop) (R90 : Int32 → Int32 → Int32 → Int32 → Mem → Prop) (R157 : Int32 → Int32 → Int32 → Int32 → Int32 → Int32 → Mem → Prop) (x3 : Int32) (x4 : Int32) (x5 : Int32) (x6 : Int32) (s0 : Int32) (s1 : Int32) (M : Mem) : Prop :=
  (s0 ≤ s1 → (¬ x4 = a1 → ∀ v40 : Int32, v40 = x5 + 1 → R81 x3 x4 v40 M) ∧ (x4 = a1 → (¬ x5 = a2 → ∀ v42 : Int32, v42 = x5 + 1 → R81 x3 x4 v42 M) ∧ (x5 = a2 → post x6 M))) ∧ (¬ s0 ≤ s1 → vp_in x5 4 ∧ ∀ v44 : Int32, v44 = (jmin (500 : Int32) (x3 + (M.1 27 x5.toNatClampNeg))) → ∀ v45 : Int32, v45 = x6 + 1 → R90 v44 x4 x5 v45 M)
def qX7_buys (a1 : Int32) (a2 : Int32) (M : Mem) (post : Int32 → Mem → Prop) : Prop :=
  ∀ (R71 : Int32 → Int32 → Mem → Prop) (R81 : Int32 → Int32 → Int32 → Mem → Prop) (R90 : Int32 → Int32 → Int32 → Int32 → Mem → Prop) (R157 : Int32 → Int32 → Int32 → Int32 → Int32 → Int32 → Mem → Prop), (∀ x3 x4 M, qX7_buys_b71 a1 a2 post R71 R81 R90 R157 x3 x4 M → R71 x3 x4 M) → (∀ x3 x4 x5 M, qX7_buys_b81 a1 a2 post R71 R81 R90 R157 x3 x4 x5 M → R81 x3 x4 x5 M) → (∀ x3 x4 x5 x6 M, qX7_buys_b90 a1 a2 post R71 R81 R90 R157 x3 x4 x5 x6 M → R90 x3 x4 x5 x6 M) → (∀ x3 x4 x5 x6 s0 s1 M, qX7_buys_b157 a1 a2 post R71 R81 R90 R157 x3 x4 x5 x6 s0 s1 M → R157 x3 x4 x5 x6 s0 s1 M) → (a1 < 0 → qX7_refuse (1 : Int32) M (fun r2 M3 => post r2 M3)) ∧ (¬ a1 < 0 → ((12 : Int32) ≤ a1 → qX7_refuse (1 : Int32) M (fun r5 M6 => post r5 M6)) ∧ (¬ (12 : Int32) ≤ a1 → (a2 < 0 → qX7_refuse (1 : Int32) M (fun r8 M9 => post r8 M9)) ∧ (¬ a2 < 0 → (a2 < (M.1 0 7) → qX7_reckon M (fun M12 => qX7_at (0 : Int32) (0 : Int32) (M12.1 0 40) M12 (fun r13 M14 => vp_in r13 24549 ∧ (¬ (M14.1 31 r13.toNatClampNeg) = (2000000000 : Int32) → ∀ M17 : Mem, M17 = sA M14 0 0 (0 : Int32) → ∀ v18 : Int32, v18 = (M17.1 0 40) → R71 v18 (0 : Int32) M17) ∧ ((M14.1 31 r13.toNatClampNeg) = (2000000000 : Int32) → qX7_refuse (7 : Int32) M14 (fun r19 M20 => post r19 M20))))) ∧ (¬ a2 < (M.1 0 7) → qX7_refuse (1 : Int32) M (fun r21 M22 => post r21 M22)))))
end
section
theorem dX0_init_0 : decode cX0_init 0 = .ok (.aload_n 0, 1) := by decide +kernel
theorem dX0_init_1 : decode cX0_init 1 = .ok (.invokespecial 3, 3) := by decide +kernel
theorem dX0_init_4 : decode cX0_init 4 = .ok (.aload_n 0, 1) := by decide +kernel
theorem dX0_init_5 : decode cX0_init 5 = .ok (.iload_n 1, 1) := by decide +kernel
theorem dX0_init_6 : decode cX0_init 6 = .ok (.putfield 9, 3) := by decide +kernel
theorem dX0_init_9 : decode cX0_init 9 = .ok (.aload_n 0, 1) := by decide +kernel
theorem dX0_init_10 : decode cX0_init 10 = .ok (.iload_n 1, 1) := by decide +kernel
theorem dX0_init_11 : decode cX0_init 11 = .ok (.iload_n 1, 1) := by decide +kernel
theorem dX0_init_12 : decode cX0_init 12 = .ok (.multianewarray 15 2, 4) := by decide +kernel
theorem dX0_init_16 : decode cX0_init 16 = .ok (.putfield 17, 3) := by decide +kernel
theorem dX0_init_19 : decode cX0_init 19 = .ok (.aload_n 0, 1) := by decide +kernel
theorem dX0_init_20 : decode cX0_init 20 = .ok (.iload_n 1, 1) := by decide +kernel
theorem dX0_init_21 : decode cX0_init 21 = .ok (.newarray .int, 2) := by decide +kernel
theorem dX0_init_23 : decode cX0_init 23 = .ok (.putfield 20, 3) := by decide +kernel
theorem dX0_init_26 : decode cX0_init 26 = .ok (.aload_n 0, 1) := by decide +kernel
theorem dX0_init_27 : decode cX0_init 27 = .ok (.iload_n 1, 1) := by decide +kernel
theorem dX0_init_28 : decode cX0_init 28 = .ok (.newarray .int, 2) := by decide +kernel
theorem dX0_init_30 : decode cX0_init 30 = .ok (.putfield 24, 3) := by decide +kernel
theorem dX0_init_33 : decode cX0_init 33 = .ok (.return_, 1) := by decide +kernel
set_option maxRecDepth 20000 in
theorem ggX0_empty_J7_fill_53178 : GoodIn wsX0_empty wsJ7_fill_53178 := goodIn_r _ [6] (by decide +kernel) (by decide +kernel)
set_option maxRecDepth 20000 in
theorem gX0_empty_J7_fill_53178 : GoodIn wsX0_empty (va_wsS RX0 27 yJ7_fill_53178 wsJ7_fill_53178) := goodIn_app (goodIn_of _ (by decide +kernel)) ggX0_empty_J7_fill_53178
theorem dX0_empty_0 : decode cX0_empty 0 = .ok (.iconst 0, 1) := by decide +kernel
theorem dX0_empty_1 : decode cX0_empty 1 = .ok (.istore_n 1, 1) := by decide +kernel
theorem dX0_empty_2 : decode cX0_empty 2 = .ok (.iload_n 1, 1) := by decide +kernel
theorem dX0_empty_3 : decode cX0_empty 3 = .ok (.aload_n 0, 1) := by decide +kernel
theorem dX0_empty_4 : decode cX0_empty 4 = .ok (.getfield 9, 3) := by decide +kernel
theorem dX0_empty_7 : decode cX0_empty 7 = .ok (.if_icmp .ge 19, 3) := by decide +kernel
theorem dX0_empty_10 : decode cX0_empty 10 = .ok (.aload_n 0, 1) := by decide +kernel
theorem dX0_empty_11 : decode cX0_empty 11 = .ok (.getfield 17, 3) := by decide +kernel
theorem dX0_empty_14 : decode cX0_empty 14 = .ok (.iload_n 1, 1) := by decide +kernel
theorem dX0_empty_15 : decode cX0_empty 15 = .ok (.aaload, 1) := by decide +kernel
theorem dX0_empty_16 : decode cX0_empty 16 = .ok (.iconst 0, 1) := by decide +kernel
theorem dX0_empty_17 : decode cX0_empty 17 = .ok (.invokestatic 27, 3) := by decide +kernel
theorem dX0_empty_20 : decode cX0_empty 20 = .ok (.iinc 1 1, 3) := by decide +kernel
theorem dX0_empty_23 : decode cX0_empty 23 = .ok (.goto (-21), 3) := by decide +kernel
theorem dX0_empty_26 : decode cX0_empty 26 = .ok (.return_, 1) := by decide +kernel
theorem dX0_pipe_0 : decode cX0_pipe 0 = .ok (.aload_n 0, 1) := by decide +kernel
theorem dX0_pipe_1 : decode cX0_pipe 1 = .ok (.getfield 17, 3) := by decide +kernel
theorem dX0_pipe_4 : decode cX0_pipe 4 = .ok (.iload_n 1, 1) := by decide +kernel
theorem dX0_pipe_5 : decode cX0_pipe 5 = .ok (.aaload, 1) := by decide +kernel
theorem dX0_pipe_6 : decode cX0_pipe 6 = .ok (.iload_n 2, 1) := by decide +kernel
theorem dX0_pipe_7 : decode cX0_pipe 7 = .ok (.iload_n 3, 1) := by decide +kernel
theorem dX0_pipe_8 : decode cX0_pipe 8 = .ok (.iastore, 1) := by decide +kernel
theorem dX0_pipe_9 : decode cX0_pipe 9 = .ok (.return_, 1) := by decide +kernel
set_option maxRecDepth 20000 in
theorem ggX0_push_X0_findWay : GoodIn wsX0_push wsX0_findWay := goodIn_r _ [6, 7, 8, 9, 10, 11, 12, 13, 14, 23, 24, 25, 26] (by decide +kernel) (by decide +kernel)
set_option maxRecDepth 20000 in
theorem gX0_push_X0_findWay : GoodIn wsX0_push (wsV RX0 34 RX0 yX0_findWay wsX0_findWay) := goodIn_app (goodIn_of _ (by decide +kernel)) ggX0_push_X0_findWay
set_option maxRecDepth 20000 in
theorem ggX0_push_X0_send : GoodIn wsX0_push wsX0_send := goodIn_r _ [18, 9, 10, 7, 19, 20, 21, 22, 23, 24, 25, 26] (by decide +kernel) (by decide +kernel)
set_option maxRecDepth 20000 in
theorem gX0_push_X0_send : GoodIn wsX0_push (wsV RX0 38 RX0 yX0_send wsX0_send) := goodIn_app (goodIn_of _ (by decide +kernel)) ggX0_push_X0_send
theorem dX0_push_0 : decode cX0_push 0 = .ok (.iconst 0, 1) := by decide +kernel
theorem dX0_push_1 : decode cX0_push 1 = .ok (.istore 4, 2) := by decide +kernel
theorem dX0_push_3 : decode cX0_push 3 = .ok (.iconst 0, 1) := by decide +kernel
theorem dX0_push_4 : decode cX0_push 4 = .ok (.istore 5, 2) := by decide +kernel
theorem dX0_push_6 : decode cX0_push 6 = .ok (.iload 5, 2) := by decide +kernel
theorem dX0_push_8 : decode cX0_push 8 = .ok (.ldc 33, 2) := by decide +kernel
theorem dX0_push_10 : decode cX0_push 10 = .ok (.if_icmp .ge 39, 3) := by decide +kernel
theorem dX0_push_13 : decode cX0_push 13 = .ok (.iload 4, 2) := by decide +kernel
theorem dX0_push_15 : decode cX0_push 15 = .ok (.iload_n 3, 1) := by decide +kernel
theorem dX0_push_16 : decode cX0_push 16 = .ok (.if_icmp .ge 33, 3) := by decide +kernel
theorem dX0_push_19 : decode cX0_push 19 = .ok (.aload_n 0, 1) := by decide +kernel
theorem dX0_push_20 : decode cX0_push 20 = .ok (.iload_n 1, 1) := by decide +kernel
theorem dX0_push_21 : decode cX0_push 21 = .ok (.iload_n 2, 1) := by decide +kernel
theorem dX0_push_22 : decode cX0_push 22 = .ok (.invokevirtual 34, 3) := by decide +kernel
theorem dX0_push_25 : decode cX0_push 25 = .ok (.ifCond .eq 24, 3) := by decide +kernel
theorem dX0_push_28 : decode cX0_push 28 = .ok (.iload 4, 2) := by decide +kernel
theorem dX0_push_30 : decode cX0_push 30 = .ok (.aload_n 0, 1) := by decide +kernel
theorem dX0_push_31 : decode cX0_push 31 = .ok (.iload_n 1, 1) := by decide +kernel
theorem dX0_push_32 : decode cX0_push 32 = .ok (.iload_n 2, 1) := by decide +kernel
theorem dX0_push_33 : decode cX0_push 33 = .ok (.iload_n 3, 1) := by decide +kernel
theorem dX0_push_34 : decode cX0_push 34 = .ok (.iload 4, 2) := by decide +kernel
theorem dX0_push_36 : decode cX0_push 36 = .ok (.isub, 1) := by decide +kernel
theorem dX0_push_37 : decode cX0_push 37 = .ok (.invokevirtual 38, 3) := by decide +kernel
theorem dX0_push_40 : decode cX0_push 40 = .ok (.iadd, 1) := by decide +kernel
theorem dX0_push_41 : decode cX0_push 41 = .ok (.istore 4, 2) := by decide +kernel
theorem dX0_push_43 : decode cX0_push 43 = .ok (.iinc 5 1, 3) := by decide +kernel
theorem dX0_push_46 : decode cX0_push 46 = .ok (.goto (-40), 3) := by decide +kernel
theorem dX0_push_49 : decode cX0_push 49 = .ok (.iload 4, 2) := by decide +kernel
theorem dX0_push_51 : decode cX0_push 51 = .ok (.ireturn, 1) := by decide +kernel
set_option maxRecDepth 20000 in
theorem ggX0_settle_X0_push : GoodIn wsX0_settle wsX0_push := goodIn_r _ [6, 7, 8, 9, 10, 5, 11, 12, 13, 14, 1, 15, 16, 17, 18, 19, 20, 21, 22, 23, 24, 25, 26, 27, 28, 29, 30] (by decide +kernel) (by decide +kernel)
set_option maxRecDepth 20000 in
theorem gX0_settle_X0_push : GoodIn wsX0_settle (wsV RX0 42 RX0 yX0_push wsX0_push) := goodIn_app (goodIn_of _ (by decide +kernel)) ggX0_settle_X0_push
theorem dX0_settle_0 : decode cX0_settle 0 = .ok (.aload_n 0, 1) := by decide +kernel
theorem dX0_settle_1 : decode cX0_settle 1 = .ok (.getfield 17, 3) := by decide +kernel
theorem dX0_settle_4 : decode cX0_settle 4 = .ok (.iload_n 1, 1) := by decide +kernel
theorem dX0_settle_5 : decode cX0_settle 5 = .ok (.aaload, 1) := by decide +kernel
theorem dX0_settle_6 : decode cX0_settle 6 = .ok (.iload_n 2, 1) := by decide +kernel
theorem dX0_settle_7 : decode cX0_settle 7 = .ok (.iaload, 1) := by decide +kernel
theorem dX0_settle_8 : decode cX0_settle 8 = .ok (.istore_n 3, 1) := by decide +kernel
theorem dX0_settle_9 : decode cX0_settle 9 = .ok (.aload_n 0, 1) := by decide +kernel
theorem dX0_settle_10 : decode cX0_settle 10 = .ok (.getfield 17, 3) := by decide +kernel
theorem dX0_settle_13 : decode cX0_settle 13 = .ok (.iload_n 2, 1) := by decide +kernel
theorem dX0_settle_14 : decode cX0_settle 14 = .ok (.aaload, 1) := by decide +kernel
theorem dX0_settle_15 : decode cX0_settle 15 = .ok (.iload_n 1, 1) := by decide +kernel
theorem dX0_settle_16 : decode cX0_settle 16 = .ok (.iaload, 1) := by decide +kernel
theorem dX0_settle_17 : decode cX0_settle 17 = .ok (.istore 4, 2) := by decide +kernel
theorem dX0_settle_19 : decode cX0_settle 19 = .ok (.aload_n 0, 1) := by decide +kernel
theorem dX0_settle_20 : decode cX0_settle 20 = .ok (.getfield 17, 3) := by decide +kernel
theorem dX0_settle_23 : decode cX0_settle 23 = .ok (.iload_n 1, 1) := by decide +kernel
theorem dX0_settle_24 : decode cX0_settle 24 = .ok (.aaload, 1) := by decide +kernel
theorem dX0_settle_25 : decode cX0_settle 25 = .ok (.iload_n 2, 1) := by decide +kernel
theorem dX0_settle_26 : decode cX0_settle 26 = .ok (.iconst 0, 1) := by decide +kernel
theorem dX0_settle_27 : decode cX0_settle 27 = .ok (.iastore, 1) := by decide +kernel
theorem dX0_settle_28 : decode cX0_settle 28 = .ok (.aload_n 0, 1) := by decide +kernel
theorem dX0_settle_29 : decode cX0_settle 29 = .ok (.getfield 17, 3) := by decide +kernel
theorem dX0_settle_32 : decode cX0_settle 32 = .ok (.iload_n 2, 1) := by decide +kernel
theorem dX0_settle_33 : decode cX0_settle 33 = .ok (.aaload, 1) := by decide +kernel
theorem dX0_settle_34 : decode cX0_settle 34 = .ok (.iload_n 1, 1) := by decide +kernel
theorem dX0_settle_35 : decode cX0_settle 35 = .ok (.iconst 0, 1) := by decide +kernel
theorem dX0_settle_36 : decode cX0_settle 36 = .ok (.iastore, 1) := by decide +kernel
theorem dX0_settle_37 : decode cX0_settle 37 = .ok (.iload 4, 2) := by decide +kernel
theorem dX0_settle_39 : decode cX0_settle 39 = .ok (.aload_n 0, 1) := by decide +kernel
theorem dX0_settle_40 : decode cX0_settle 40 = .ok (.iload_n 2, 1) := by decide +kernel
theorem dX0_settle_41 : decode cX0_settle 41 = .ok (.iload_n 1, 1) := by decide +kernel
theorem dX0_settle_42 : decode cX0_settle 42 = .ok (.iload_n 3, 1) := by decide +kernel
theorem dX0_settle_43 : decode cX0_settle 43 = .ok (.invokevirtual 42, 3) := by decide +kernel
theorem dX0_settle_46 : decode cX0_settle 46 = .ok (.iadd, 1) := by decide +kernel
theorem dX0_settle_47 : decode cX0_settle 47 = .ok (.ireturn, 1) := by decide +kernel
set_option maxRecDepth 20000 in
theorem ggX0_findWay_J7_fill_53178 : GoodIn wsX0_findWay wsJ7_fill_53178 := goodIn_r _ [8] (by decide +kernel) (by decide +kernel)
set_option maxRecDepth 20000 in
theorem gX0_findWay_J7_fill_53178 : GoodIn wsX0_findWay (va_wsS RX0 27 yJ7_fill_53178 wsJ7_fill_53178) := goodIn_app (goodIn_of _ (by decide +kernel)) ggX0_findWay_J7_fill_53178
theorem dX0_findWay_0 : decode cX0_findWay 0 = .ok (.aload_n 0, 1) := by decide +kernel
theorem dX0_findWay_1 : decode cX0_findWay 1 = .ok (.getfield 20, 3) := by decide +kernel
theorem dX0_findWay_4 : decode cX0_findWay 4 = .ok (.iconst (-1), 1) := by decide +kernel
theorem dX0_findWay_5 : decode cX0_findWay 5 = .ok (.invokestatic 27, 3) := by decide +kernel
theorem dX0_findWay_8 : decode cX0_findWay 8 = .ok (.aload_n 0, 1) := by decide +kernel
theorem dX0_findWay_9 : decode cX0_findWay 9 = .ok (.getfield 20, 3) := by decide +kernel
theorem dX0_findWay_12 : decode cX0_findWay 12 = .ok (.iload_n 1, 1) := by decide +kernel
theorem dX0_findWay_13 : decode cX0_findWay 13 = .ok (.iload_n 1, 1) := by decide +kernel
theorem dX0_findWay_14 : decode cX0_findWay 14 = .ok (.iastore, 1) := by decide +kernel
theorem dX0_findWay_15 : decode cX0_findWay 15 = .ok (.aload_n 0, 1) := by decide +kernel
theorem dX0_findWay_16 : decode cX0_findWay 16 = .ok (.getfield 24, 3) := by decide +kernel
theorem dX0_findWay_19 : decode cX0_findWay 19 = .ok (.iconst 0, 1) := by decide +kernel
theorem dX0_findWay_20 : decode cX0_findWay 20 = .ok (.iload_n 1, 1) := by decide +kernel
theorem dX0_findWay_21 : decode cX0_findWay 21 = .ok (.iastore, 1) := by decide +kernel
theorem dX0_findWay_22 : decode cX0_findWay 22 = .ok (.iconst 1, 1) := by decide +kernel
theorem dX0_findWay_23 : decode cX0_findWay 23 = .ok (.istore_n 3, 1) := by decide +kernel
theorem dX0_findWay_24 : decode cX0_findWay 24 = .ok (.iconst 0, 1) := by decide +kernel
theorem dX0_findWay_25 : decode cX0_findWay 25 = .ok (.istore 4, 2) := by decide +kernel
theorem dX0_findWay_27 : decode cX0_findWay 27 = .ok (.iload 4, 2) := by decide +kernel
theorem dX0_findWay_29 : decode cX0_findWay 29 = .ok (.iload_n 3, 1) := by decide +kernel
theorem dX0_findWay_30 : decode cX0_findWay 30 = .ok (.if_icmp .ge 101, 3) := by decide +kernel
theorem dX0_findWay_33 : decode cX0_findWay 33 = .ok (.iload 4, 2) := by decide +kernel
theorem dX0_findWay_35 : decode cX0_findWay 35 = .ok (.aload_n 0, 1) := by decide +kernel
theorem dX0_findWay_36 : decode cX0_findWay 36 = .ok (.getfield 9, 3) := by decide +kernel
theorem dX0_findWay_39 : decode cX0_findWay 39 = .ok (.if_icmp .ge 92, 3) := by decide +kernel
theorem dX0_findWay_42 : decode cX0_findWay 42 = .ok (.aload_n 0, 1) := by decide +kernel
theorem dX0_findWay_43 : decode cX0_findWay 43 = .ok (.getfield 24, 3) := by decide +kernel
theorem dX0_findWay_46 : decode cX0_findWay 46 = .ok (.iload 4, 2) := by decide +kernel
theorem dX0_findWay_48 : decode cX0_findWay 48 = .ok (.iaload, 1) := by decide +kernel
theorem dX0_findWay_49 : decode cX0_findWay 49 = .ok (.istore 5, 2) := by decide +kernel
theorem dX0_findWay_51 : decode cX0_findWay 51 = .ok (.iconst 0, 1) := by decide +kernel
theorem dX0_findWay_52 : decode cX0_findWay 52 = .ok (.istore 6, 2) := by decide +kernel
theorem dX0_findWay_54 : decode cX0_findWay 54 = .ok (.iload 6, 2) := by decide +kernel
theorem dX0_findWay_56 : decode cX0_findWay 56 = .ok (.aload_n 0, 1) := by decide +kernel
theorem dX0_findWay_57 : decode cX0_findWay 57 = .ok (.getfield 9, 3) := by decide +kernel
theorem dX0_findWay_60 : decode cX0_findWay 60 = .ok (.if_icmp .ge 53, 3) := by decide +kernel
theorem dX0_findWay_63 : decode cX0_findWay 63 = .ok (.aload_n 0, 1) := by decide +kernel
theorem dX0_findWay_64 : decode cX0_findWay 64 = .ok (.getfield 17, 3) := by decide +kernel
theorem dX0_findWay_67 : decode cX0_findWay 67 = .ok (.iload 5, 2) := by decide +kernel
theorem dX0_findWay_69 : decode cX0_findWay 69 = .ok (.aaload, 1) := by decide +kernel
theorem dX0_findWay_70 : decode cX0_findWay 70 = .ok (.iload 6, 2) := by decide +kernel
theorem dX0_findWay_72 : decode cX0_findWay 72 = .ok (.iaload, 1) := by decide +kernel
theorem dX0_findWay_73 : decode cX0_findWay 73 = .ok (.ifCond .le 34, 3) := by decide +kernel
theorem dX0_findWay_76 : decode cX0_findWay 76 = .ok (.aload_n 0, 1) := by decide +kernel
theorem dX0_findWay_77 : decode cX0_findWay 77 = .ok (.getfield 20, 3) := by decide +kernel
theorem dX0_findWay_80 : decode cX0_findWay 80 = .ok (.iload 6, 2) := by decide +kernel
theorem dX0_findWay_82 : decode cX0_findWay 82 = .ok (.iaload, 1) := by decide +kernel
theorem dX0_findWay_83 : decode cX0_findWay 83 = .ok (.iconst (-1), 1) := by decide +kernel
theorem dX0_findWay_84 : decode cX0_findWay 84 = .ok (.if_icmp .ne 23, 3) := by decide +kernel
theorem dX0_findWay_87 : decode cX0_findWay 87 = .ok (.aload_n 0, 1) := by decide +kernel
theorem dX0_findWay_88 : decode cX0_findWay 88 = .ok (.getfield 20, 3) := by decide +kernel
theorem dX0_findWay_91 : decode cX0_findWay 91 = .ok (.iload 6, 2) := by decide +kernel
theorem dX0_findWay_93 : decode cX0_findWay 93 = .ok (.iload 5, 2) := by decide +kernel
theorem dX0_findWay_95 : decode cX0_findWay 95 = .ok (.iastore, 1) := by decide +kernel
theorem dX0_findWay_96 : decode cX0_findWay 96 = .ok (.aload_n 0, 1) := by decide +kernel
theorem dX0_findWay_97 : decode cX0_findWay 97 = .ok (.getfield 24, 3) := by decide +kernel
theorem dX0_findWay_100 : decode cX0_findWay 100 = .ok (.iload_n 3, 1) := by decide +kernel
theorem dX0_findWay_101 : decode cX0_findWay 101 = .ok (.iinc 3 1, 3) := by decide +kernel
theorem dX0_findWay_104 : decode cX0_findWay 104 = .ok (.iload 6, 2) := by decide +kernel
theorem dX0_findWay_106 : decode cX0_findWay 106 = .ok (.iastore, 1) := by decide +kernel
theorem dX0_findWay_107 : decode cX0_findWay 107 = .ok (.iinc 6 1, 3) := by decide +kernel
theorem dX0_findWay_110 : decode cX0_findWay 110 = .ok (.goto (-56), 3) := by decide +kernel
theorem dX0_findWay_113 : decode cX0_findWay 113 = .ok (.aload_n 0, 1) := by decide +kernel
theorem dX0_findWay_114 : decode cX0_findWay 114 = .ok (.getfield 20, 3) := by decide +kernel
theorem dX0_findWay_117 : decode cX0_findWay 117 = .ok (.iload_n 2, 1) := by decide +kernel
theorem dX0_findWay_118 : decode cX0_findWay 118 = .ok (.iaload, 1) := by decide +kernel
theorem dX0_findWay_119 : decode cX0_findWay 119 = .ok (.iconst (-1), 1) := by decide +kernel
theorem dX0_findWay_120 : decode cX0_findWay 120 = .ok (.if_icmp .eq 5, 3) := by decide +kernel
theorem dX0_findWay_123 : decode cX0_findWay 123 = .ok (.iconst 1, 1) := by decide +kernel
theorem dX0_findWay_124 : decode cX0_findWay 124 = .ok (.ireturn, 1) := by decide +kernel
theorem dX0_findWay_125 : decode cX0_findWay 125 = .ok (.iinc 4 1, 3) := by decide +kernel
theorem dX0_findWay_128 : decode cX0_findWay 128 = .ok (.goto (-101), 3) := by decide +kernel
theorem dX0_findWay_131 : decode cX0_findWay 131 = .ok (.iconst 0, 1) := by decide +kernel
theorem dX0_findWay_132 : decode cX0_findWay 132 = .ok (.ireturn, 1) := by decide +kernel
theorem dX0_send_0 : decode cX0_send 0 = .ok (.iload_n 3, 1) := by decide +kernel
theorem dX0_send_1 : decode cX0_send 1 = .ok (.istore 4, 2) := by decide +kernel
theorem dX0_send_3 : decode cX0_send 3 = .ok (.iload_n 2, 1) := by decide +kernel
theorem dX0_send_4 : decode cX0_send 4 = .ok (.istore 5, 2) := by decide +kernel
theorem dX0_send_6 : decode cX0_send 6 = .ok (.iconst 0, 1) := by decide +kernel
theorem dX0_send_7 : decode cX0_send 7 = .ok (.istore 6, 2) := by decide +kernel
theorem dX0_send_9 : decode cX0_send 9 = .ok (.iload 6, 2) := by decide +kernel
theorem dX0_send_11 : decode cX0_send 11 = .ok (.aload_n 0, 1) := by decide +kernel
theorem dX0_send_12 : decode cX0_send 12 = .ok (.getfield 9, 3) := by decide +kernel
theorem dX0_send_15 : decode cX0_send 15 = .ok (.if_icmp .ge 46, 3) := by decide +kernel
theorem dX0_send_18 : decode cX0_send 18 = .ok (.iload 5, 2) := by decide +kernel
theorem dX0_send_20 : decode cX0_send 20 = .ok (.iload_n 1, 1) := by decide +kernel
theorem dX0_send_21 : decode cX0_send 21 = .ok (.if_icmp .eq 40, 3) := by decide +kernel
theorem dX0_send_24 : decode cX0_send 24 = .ok (.iload 4, 2) := by decide +kernel
theorem dX0_send_26 : decode cX0_send 26 = .ok (.aload_n 0, 1) := by decide +kernel
theorem dX0_send_27 : decode cX0_send 27 = .ok (.getfield 17, 3) := by decide +kernel
theorem dX0_send_30 : decode cX0_send 30 = .ok (.aload_n 0, 1) := by decide +kernel
theorem dX0_send_31 : decode cX0_send 31 = .ok (.getfield 20, 3) := by decide +kernel
theorem dX0_send_34 : decode cX0_send 34 = .ok (.iload 5, 2) := by decide +kernel
theorem dX0_send_36 : decode cX0_send 36 = .ok (.iaload, 1) := by decide +kernel
theorem dX0_send_37 : decode cX0_send 37 = .ok (.aaload, 1) := by decide +kernel
theorem dX0_send_38 : decode cX0_send 38 = .ok (.iload 5, 2) := by decide +kernel
theorem dX0_send_40 : decode cX0_send 40 = .ok (.iaload, 1) := by decide +kernel
theorem dX0_send_41 : decode cX0_send 41 = .ok (.invokestatic 45, 3) := by decide +kernel
theorem dX0_send_44 : decode cX0_send 44 = .ok (.istore 4, 2) := by decide +kernel
theorem dX0_send_46 : decode cX0_send 46 = .ok (.aload_n 0, 1) := by decide +kernel
theorem dX0_send_47 : decode cX0_send 47 = .ok (.getfield 20, 3) := by decide +kernel
theorem dX0_send_50 : decode cX0_send 50 = .ok (.iload 5, 2) := by decide +kernel
theorem dX0_send_52 : decode cX0_send 52 = .ok (.iaload, 1) := by decide +kernel
theorem dX0_send_53 : decode cX0_send 53 = .ok (.istore 5, 2) := by decide +kernel
theorem dX0_send_55 : decode cX0_send 55 = .ok (.iinc 6 1, 3) := by decide +kernel
theorem dX0_send_58 : decode cX0_send 58 = .ok (.goto (-49), 3) := by decide +kernel
theorem dX0_send_61 : decode cX0_send 61 = .ok (.iload_n 2, 1) := by decide +kernel
theorem dX0_send_62 : decode cX0_send 62 = .ok (.istore 5, 2) := by decide +kernel
theorem dX0_send_64 : decode cX0_send 64 = .ok (.iconst 0, 1) := by decide +kernel
theorem dX0_send_65 : decode cX0_send 65 = .ok (.istore 6, 2) := by decide +kernel
theorem dX0_send_67 : decode cX0_send 67 = .ok (.iload 6, 2) := by decide +kernel
theorem dX0_send_69 : decode cX0_send 69 = .ok (.aload_n 0, 1) := by decide +kernel
theorem dX0_send_70 : decode cX0_send 70 = .ok (.getfield 9, 3) := by decide +kernel
theorem dX0_send_73 : decode cX0_send 73 = .ok (.if_icmp .ge 64, 3) := by decide +kernel
theorem dX0_send_76 : decode cX0_send 76 = .ok (.iload 5, 2) := by decide +kernel
theorem dX0_send_78 : decode cX0_send 78 = .ok (.iload_n 1, 1) := by decide +kernel
theorem dX0_send_79 : decode cX0_send 79 = .ok (.if_icmp .eq 58, 3) := by decide +kernel
theorem dX0_send_82 : decode cX0_send 82 = .ok (.aload_n 0, 1) := by decide +kernel
theorem dX0_send_83 : decode cX0_send 83 = .ok (.getfield 17, 3) := by decide +kernel
theorem dX0_send_86 : decode cX0_send 86 = .ok (.aload_n 0, 1) := by decide +kernel
theorem dX0_send_87 : decode cX0_send 87 = .ok (.getfield 20, 3) := by decide +kernel
theorem dX0_send_90 : decode cX0_send 90 = .ok (.iload 5, 2) := by decide +kernel
theorem dX0_send_92 : decode cX0_send 92 = .ok (.iaload, 1) := by decide +kernel
theorem dX0_send_93 : decode cX0_send 93 = .ok (.aaload, 1) := by decide +kernel
theorem dX0_send_94 : decode cX0_send 94 = .ok (.iload 5, 2) := by decide +kernel
theorem dX0_send_96 : decode cX0_send 96 = .ok (.dup2, 1) := by decide +kernel
theorem dX0_send_97 : decode cX0_send 97 = .ok (.iaload, 1) := by decide +kernel
theorem dX0_send_98 : decode cX0_send 98 = .ok (.iload 4, 2) := by decide +kernel
theorem dX0_send_100 : decode cX0_send 100 = .ok (.isub, 1) := by decide +kernel
theorem dX0_send_101 : decode cX0_send 101 = .ok (.iastore, 1) := by decide +kernel
theorem dX0_send_102 : decode cX0_send 102 = .ok (.aload_n 0, 1) := by decide +kernel
theorem dX0_send_103 : decode cX0_send 103 = .ok (.getfield 17, 3) := by decide +kernel
theorem dX0_send_106 : decode cX0_send 106 = .ok (.iload 5, 2) := by decide +kernel
theorem dX0_send_108 : decode cX0_send 108 = .ok (.aaload, 1) := by decide +kernel
theorem dX0_send_109 : decode cX0_send 109 = .ok (.aload_n 0, 1) := by decide +kernel
theorem dX0_send_110 : decode cX0_send 110 = .ok (.getfield 20, 3) := by decide +kernel
theorem dX0_send_113 : decode cX0_send 113 = .ok (.iload 5, 2) := by decide +kernel
theorem dX0_send_115 : decode cX0_send 115 = .ok (.iaload, 1) := by decide +kernel
theorem dX0_send_116 : decode cX0_send 116 = .ok (.dup2, 1) := by decide +kernel
theorem dX0_send_117 : decode cX0_send 117 = .ok (.iaload, 1) := by decide +kernel
theorem dX0_send_118 : decode cX0_send 118 = .ok (.iload 4, 2) := by decide +kernel
theorem dX0_send_120 : decode cX0_send 120 = .ok (.iadd, 1) := by decide +kernel
theorem dX0_send_121 : decode cX0_send 121 = .ok (.iastore, 1) := by decide +kernel
theorem dX0_send_122 : decode cX0_send 122 = .ok (.aload_n 0, 1) := by decide +kernel
theorem dX0_send_123 : decode cX0_send 123 = .ok (.getfield 20, 3) := by decide +kernel
theorem dX0_send_126 : decode cX0_send 126 = .ok (.iload 5, 2) := by decide +kernel
theorem dX0_send_128 : decode cX0_send 128 = .ok (.iaload, 1) := by decide +kernel
theorem dX0_send_129 : decode cX0_send 129 = .ok (.istore 5, 2) := by decide +kernel
theorem dX0_send_131 : decode cX0_send 131 = .ok (.iinc 6 1, 3) := by decide +kernel
theorem dX0_send_134 : decode cX0_send 134 = .ok (.goto (-67), 3) := by decide +kernel
theorem dX0_send_137 : decode cX0_send 137 = .ok (.iload 4, 2) := by decide +kernel
theorem dX0_send_139 : decode cX0_send 139 = .ok (.ireturn, 1) := by decide +kernel
theorem dX1_init_0 : decode cX1_init 0 = .ok (.aload_n 0, 1) := by decide +kernel
theorem dX1_init_1 : decode cX1_init 1 = .ok (.invokespecial 5, 3) := by decide +kernel
theorem dX1_init_4 : decode cX1_init 4 = .ok (.aload_n 0, 1) := by decide +kernel
theorem dX1_init_5 : decode cX1_init 5 = .ok (.bipush 12, 2) := by decide +kernel
theorem dX1_init_7 : decode cX1_init 7 = .ok (.newarray .int, 2) := by decide +kernel
theorem dX1_init_9 : decode cX1_init 9 = .ok (.putfield 11, 3) := by decide +kernel
theorem dX1_init_12 : decode cX1_init 12 = .ok (.aload_n 0, 1) := by decide +kernel
theorem dX1_init_13 : decode cX1_init 13 = .ok (.iconst 4, 1) := by decide +kernel
theorem dX1_init_14 : decode cX1_init 14 = .ok (.newarray .int, 2) := by decide +kernel
theorem dX1_init_16 : decode cX1_init 16 = .ok (.putfield 15, 3) := by decide +kernel
theorem dX1_init_19 : decode cX1_init 19 = .ok (.aload_n 0, 1) := by decide +kernel
theorem dX1_init_20 : decode cX1_init 20 = .ok (.bipush 10, 2) := by decide +kernel
theorem dX1_init_22 : decode cX1_init 22 = .ok (.newarray .int, 2) := by decide +kernel
theorem dX1_init_24 : decode cX1_init 24 = .ok (.putfield 18, 3) := by decide +kernel
theorem dX1_init_27 : decode cX1_init 27 = .ok (.aload_n 0, 1) := by decide +kernel
theorem dX1_init_28 : decode cX1_init 28 = .ok (.bipush 10, 2) := by decide +kernel
theorem dX1_init_30 : decode cX1_init 30 = .ok (.newarray .int, 2) := by decide +kernel
theorem dX1_init_32 : decode cX1_init 32 = .ok (.putfield 21, 3) := by decide +kernel
theorem dX1_init_35 : decode cX1_init 35 = .ok (.aload_n 0, 1) := by decide +kernel
theorem dX1_init_36 : decode cX1_init 36 = .ok (.bipush 24, 2) := by decide +kernel
theorem dX1_init_38 : decode cX1_init 38 = .ok (.newarray .int, 2) := by decide +kernel
theorem dX1_init_40 : decode cX1_init 40 = .ok (.putfield 24, 3) := by decide +kernel
theorem dX1_init_43 : decode cX1_init 43 = .ok (.aload_n 0, 1) := by decide +kernel
theorem dX1_init_44 : decode cX1_init 44 = .ok (.sipush 1024, 3) := by decide +kernel
theorem dX1_init_47 : decode cX1_init 47 = .ok (.newarray .int, 2) := by decide +kernel
theorem dX1_init_49 : decode cX1_init 49 = .ok (.putfield 27, 3) := by decide +kernel
theorem dX1_init_52 : decode cX1_init 52 = .ok (.aload_n 0, 1) := by decide +kernel
theorem dX1_init_53 : decode cX1_init 53 = .ok (.sipush 1024, 3) := by decide +kernel
theorem dX1_init_56 : decode cX1_init 56 = .ok (.newarray .boolean, 2) := by decide +kernel
theorem dX1_init_58 : decode cX1_init 58 = .ok (.putfield 30, 3) := by decide +kernel
theorem dX1_init_61 : decode cX1_init 61 = .ok (.aload_n 0, 1) := by decide +kernel
theorem dX1_init_62 : decode cX1_init 62 = .ok (.sipush 1024, 3) := by decide +kernel
theorem dX1_init_65 : decode cX1_init 65 = .ok (.newarray .boolean, 2) := by decide +kernel
theorem dX1_init_67 : decode cX1_init 67 = .ok (.putfield 34, 3) := by decide +kernel
theorem dX1_init_70 : decode cX1_init 70 = .ok (.aload_n 0, 1) := by decide +kernel
theorem dX1_init_71 : decode cX1_init 71 = .ok (.sipush 1024, 3) := by decide +kernel
theorem dX1_init_74 : decode cX1_init 74 = .ok (.newarray .int, 2) := by decide +kernel
theorem dX1_init_76 : decode cX1_init 76 = .ok (.putfield 37, 3) := by decide +kernel
theorem dX1_init_79 : decode cX1_init 79 = .ok (.aload_n 0, 1) := by decide +kernel
theorem dX1_init_80 : decode cX1_init 80 = .ok (.iconst (-1), 1) := by decide +kernel
theorem dX1_init_81 : decode cX1_init 81 = .ok (.putfield 40, 3) := by decide +kernel
theorem dX1_init_84 : decode cX1_init 84 = .ok (.return_, 1) := by decide +kernel
set_option maxRecDepth 20000 in
theorem ggX1_isFall_X6_within : GoodIn wsX1_isFall wsX6_within := goodIn_r _ [3] (by decide +kernel) (by decide +kernel)
set_option maxRecDepth 20000 in
theorem gX1_isFall_X6_within_n44 : GoodIn wsX1_isFall (wsX6_within) := ggX1_isFall_X6_within
theorem dX1_isFall_0 : decode cX1_isFall 0 = .ok (.iload_n 0, 1) := by decide +kernel
theorem dX1_isFall_1 : decode cX1_isFall 1 = .ok (.i2l, 1) := by decide +kernel
theorem dX1_isFall_2 : decode cX1_isFall 2 = .ok (.iconst 0, 1) := by decide +kernel
theorem dX1_isFall_3 : decode cX1_isFall 3 = .ok (.bipush 16, 2) := by decide +kernel
theorem dX1_isFall_5 : decode cX1_isFall 5 = .ok (.invokestatic 44, 3) := by decide +kernel
theorem dX1_isFall_8 : decode cX1_isFall 8 = .ok (.ireturn, 1) := by decide +kernel
set_option maxRecDepth 20000 in
theorem ggX1_hasMachine_X6_within : GoodIn wsX1_hasMachine wsX6_within := goodIn_r _ [4] (by decide +kernel) (by decide +kernel)
set_option maxRecDepth 20000 in
theorem gX1_hasMachine_X6_within_n44 : GoodIn wsX1_hasMachine (wsX6_within) := ggX1_hasMachine_X6_within
theorem dX1_hasMachine_0 : decode cX1_hasMachine 0 = .ok (.iload_n 1, 1) := by decide +kernel
theorem dX1_hasMachine_1 : decode cX1_hasMachine 1 = .ok (.i2l, 1) := by decide +kernel
theorem dX1_hasMachine_2 : decode cX1_hasMachine 2 = .ok (.iconst 0, 1) := by decide +kernel
theorem dX1_hasMachine_3 : decode cX1_hasMachine 3 = .ok (.aload_n 0, 1) := by decide +kernel
theorem dX1_hasMachine_4 : decode cX1_hasMachine 4 = .ok (.getfield 48, 3) := by decide +kernel
theorem dX1_hasMachine_7 : decode cX1_hasMachine 7 = .ok (.iconst 1, 1) := by decide +kernel
theorem dX1_hasMachine_8 : decode cX1_hasMachine 8 = .ok (.isub, 1) := by decide +kernel
theorem dX1_hasMachine_9 : decode cX1_hasMachine 9 = .ok (.invokestatic 44, 3) := by decide +kernel
theorem dX1_hasMachine_12 : decode cX1_hasMachine 12 = .ok (.ireturn, 1) := by decide +kernel
set_option maxRecDepth 20000 in
theorem ggX1_hasAsk_X6_within : GoodIn wsX1_hasAsk wsX6_within := goodIn_r _ [4] (by decide +kernel) (by decide +kernel)
set_option maxRecDepth 20000 in
theorem gX1_hasAsk_X6_within_n44 : GoodIn wsX1_hasAsk (wsX6_within) := ggX1_hasAsk_X6_within
theorem dX1_hasAsk_0 : decode cX1_hasAsk 0 = .ok (.iload_n 1, 1) := by decide +kernel
theorem dX1_hasAsk_1 : decode cX1_hasAsk 1 = .ok (.i2l, 1) := by decide +kernel
theorem dX1_hasAsk_2 : decode cX1_hasAsk 2 = .ok (.iconst 0, 1) := by decide +kernel
theorem dX1_hasAsk_3 : decode cX1_hasAsk 3 = .ok (.aload_n 0, 1) := by decide +kernel
theorem dX1_hasAsk_4 : decode cX1_hasAsk 4 = .ok (.getfield 51, 3) := by decide +kernel
theorem dX1_hasAsk_7 : decode cX1_hasAsk 7 = .ok (.iconst 1, 1) := by decide +kernel
theorem dX1_hasAsk_8 : decode cX1_hasAsk 8 = .ok (.isub, 1) := by decide +kernel
theorem dX1_hasAsk_9 : decode cX1_hasAsk 9 = .ok (.invokestatic 44, 3) := by decide +kernel
theorem dX1_hasAsk_12 : decode cX1_hasAsk 12 = .ok (.ireturn, 1) := by decide +kernel
set_option maxRecDepth 20000 in
theorem ggX1_isUp_X1_has : GoodIn wsX1_isUp wsX1_has := goodIn_r _ [5] (by decide +kernel) (by decide +kernel)
set_option maxRecDepth 20000 in
theorem gX1_isUp_X1_has : GoodIn wsX1_isUp (va_wsS RX1 57 yX1_has wsX1_has) := goodIn_app (goodIn_of _ (by decide +kernel)) ggX1_isUp_X1_has
theorem dX1_isUp_0 : decode cX1_isUp 0 = .ok (.aload_n 0, 1) := by decide +kernel
theorem dX1_isUp_1 : decode cX1_isUp 1 = .ok (.getfield 54, 3) := by decide +kernel
theorem dX1_isUp_4 : decode cX1_isUp 4 = .ok (.iload_n 1, 1) := by decide +kernel
theorem dX1_isUp_5 : decode cX1_isUp 5 = .ok (.invokestatic 57, 3) := by decide +kernel
theorem dX1_isUp_8 : decode cX1_isUp 8 = .ok (.ireturn, 1) := by decide +kernel
set_option maxRecDepth 20000 in
theorem ggX1_isAskOf_X1_has : GoodIn wsX1_isAskOf wsX1_has := goodIn_r _ [5] (by decide +kernel) (by decide +kernel)
set_option maxRecDepth 20000 in
theorem gX1_isAskOf_X1_has : GoodIn wsX1_isAskOf (va_wsS RX1 57 yX1_has wsX1_has) := goodIn_app (goodIn_of _ (by decide +kernel)) ggX1_isAskOf_X1_has
theorem dX1_isAskOf_0 : decode cX1_isAskOf 0 = .ok (.aload_n 0, 1) := by decide +kernel
theorem dX1_isAskOf_1 : decode cX1_isAskOf 1 = .ok (.getfield 24, 3) := by decide +kernel
theorem dX1_isAskOf_4 : decode cX1_isAskOf 4 = .ok (.iload_n 2, 1) := by decide +kernel
theorem dX1_isAskOf_5 : decode cX1_isAskOf 5 = .ok (.iaload, 1) := by decide +kernel
theorem dX1_isAskOf_6 : decode cX1_isAskOf 6 = .ok (.iload_n 1, 1) := by decide +kernel
theorem dX1_isAskOf_7 : decode cX1_isAskOf 7 = .ok (.invokestatic 57, 3) := by decide +kernel
theorem dX1_isAskOf_10 : decode cX1_isAskOf 10 = .ok (.ireturn, 1) := by decide +kernel
set_option maxRecDepth 20000 in
theorem ggX1_areFoes_X1_has : GoodIn wsX1_areFoes wsX1_has := goodIn_r _ [5] (by decide +kernel) (by decide +kernel)
set_option maxRecDepth 20000 in
theorem gX1_areFoes_X1_has : GoodIn wsX1_areFoes (va_wsS RX1 57 yX1_has wsX1_has) := goodIn_app (goodIn_of _ (by decide +kernel)) ggX1_areFoes_X1_has
theorem dX1_areFoes_0 : decode cX1_areFoes 0 = .ok (.aload_n 0, 1) := by decide +kernel
theorem dX1_areFoes_1 : decode cX1_areFoes 1 = .ok (.getfield 21, 3) := by decide +kernel
theorem dX1_areFoes_4 : decode cX1_areFoes 4 = .ok (.iload_n 1, 1) := by decide +kernel
theorem dX1_areFoes_5 : decode cX1_areFoes 5 = .ok (.iaload, 1) := by decide +kernel
theorem dX1_areFoes_6 : decode cX1_areFoes 6 = .ok (.iload_n 2, 1) := by decide +kernel
theorem dX1_areFoes_7 : decode cX1_areFoes 7 = .ok (.invokestatic 57, 3) := by decide +kernel
theorem dX1_areFoes_10 : decode cX1_areFoes 10 = .ok (.ireturn, 1) := by decide +kernel
theorem dX1_addMachine_0 : decode cX1_addMachine 0 = .ok (.aload_n 0, 1) := by decide +kernel
theorem dX1_addMachine_1 : decode cX1_addMachine 1 = .ok (.dup, 1) := by decide +kernel
theorem dX1_addMachine_2 : decode cX1_addMachine 2 = .ok (.getfield 48, 3) := by decide +kernel
theorem dX1_addMachine_5 : decode cX1_addMachine 5 = .ok (.dup_x1, 1) := by decide +kernel
theorem dX1_addMachine_6 : decode cX1_addMachine 6 = .ok (.iconst 1, 1) := by decide +kernel
theorem dX1_addMachine_7 : decode cX1_addMachine 7 = .ok (.iadd, 1) := by decide +kernel
theorem dX1_addMachine_8 : decode cX1_addMachine 8 = .ok (.putfield 48, 3) := by decide +kernel
theorem dX1_addMachine_11 : decode cX1_addMachine 11 = .ok (.istore_n 3, 1) := by decide +kernel
theorem dX1_addMachine_12 : decode cX1_addMachine 12 = .ok (.aload_n 0, 1) := by decide +kernel
theorem dX1_addMachine_13 : decode cX1_addMachine 13 = .ok (.getfield 11, 3) := by decide +kernel
theorem dX1_addMachine_16 : decode cX1_addMachine 16 = .ok (.iload_n 3, 1) := by decide +kernel
theorem dX1_addMachine_17 : decode cX1_addMachine 17 = .ok (.iload_n 1, 1) := by decide +kernel
theorem dX1_addMachine_18 : decode cX1_addMachine 18 = .ok (.iastore, 1) := by decide +kernel
theorem dX1_addMachine_19 : decode cX1_addMachine 19 = .ok (.aload_n 0, 1) := by decide +kernel
theorem dX1_addMachine_20 : decode cX1_addMachine 20 = .ok (.getfield 15, 3) := by decide +kernel
theorem dX1_addMachine_23 : decode cX1_addMachine 23 = .ok (.iload_n 2, 1) := by decide +kernel
theorem dX1_addMachine_24 : decode cX1_addMachine 24 = .ok (.dup2, 1) := by decide +kernel
theorem dX1_addMachine_25 : decode cX1_addMachine 25 = .ok (.iaload, 1) := by decide +kernel
theorem dX1_addMachine_26 : decode cX1_addMachine 26 = .ok (.iconst 1, 1) := by decide +kernel
theorem dX1_addMachine_27 : decode cX1_addMachine 27 = .ok (.iload_n 3, 1) := by decide +kernel
theorem dX1_addMachine_28 : decode cX1_addMachine 28 = .ok (.ishl, 1) := by decide +kernel
theorem dX1_addMachine_29 : decode cX1_addMachine 29 = .ok (.ior, 1) := by decide +kernel
theorem dX1_addMachine_30 : decode cX1_addMachine 30 = .ok (.iastore, 1) := by decide +kernel
theorem dX1_addMachine_31 : decode cX1_addMachine 31 = .ok (.aload_n 0, 1) := by decide +kernel
theorem dX1_addMachine_32 : decode cX1_addMachine 32 = .ok (.dup, 1) := by decide +kernel
theorem dX1_addMachine_33 : decode cX1_addMachine 33 = .ok (.getfield 54, 3) := by decide +kernel
theorem dX1_addMachine_36 : decode cX1_addMachine 36 = .ok (.iconst 1, 1) := by decide +kernel
theorem dX1_addMachine_37 : decode cX1_addMachine 37 = .ok (.iload_n 3, 1) := by decide +kernel
theorem dX1_addMachine_38 : decode cX1_addMachine 38 = .ok (.ishl, 1) := by decide +kernel
theorem dX1_addMachine_39 : decode cX1_addMachine 39 = .ok (.ior, 1) := by decide +kernel
theorem dX1_addMachine_40 : decode cX1_addMachine 40 = .ok (.putfield 54, 3) := by decide +kernel
theorem dX1_addMachine_43 : decode cX1_addMachine 43 = .ok (.iload_n 3, 1) := by decide +kernel
theorem dX1_addMachine_44 : decode cX1_addMachine 44 = .ok (.ireturn, 1) := by decide +kernel
theorem dX1_turn_0 : decode cX1_turn 0 = .ok (.aload_n 0, 1) := by decide +kernel
theorem dX1_turn_1 : decode cX1_turn 1 = .ok (.dup, 1) := by decide +kernel
theorem dX1_turn_2 : decode cX1_turn 2 = .ok (.getfield 54, 3) := by decide +kernel
theorem dX1_turn_5 : decode cX1_turn 5 = .ok (.iconst 1, 1) := by decide +kernel
theorem dX1_turn_6 : decode cX1_turn 6 = .ok (.iload_n 1, 1) := by decide +kernel
theorem dX1_turn_7 : decode cX1_turn 7 = .ok (.ishl, 1) := by decide +kernel
theorem dX1_turn_8 : decode cX1_turn 8 = .ok (.ixor, 1) := by decide +kernel
theorem dX1_turn_9 : decode cX1_turn 9 = .ok (.putfield 54, 3) := by decide +kernel
theorem dX1_turn_12 : decode cX1_turn 12 = .ok (.return_, 1) := by decide +kernel
set_option maxRecDepth 20000 in
theorem ggX1_addAsk_X1_markAsked : GoodIn wsX1_addAsk wsX1_markAsked := goodIn_r _ [8, 9, 18, 19, 20, 21, 22, 23, 24, 25, 26, 27, 28, 29, 30] (by decide +kernel) (by decide +kernel)
set_option maxRecDepth 20000 in
theorem gX1_addAsk_X1_markAsked : GoodIn wsX1_addAsk (wsV RX1 61 RX1 yX1_markAsked wsX1_markAsked) := goodIn_app (goodIn_of _ (by decide +kernel)) ggX1_addAsk_X1_markAsked
set_option maxRecDepth 20000 in
theorem ggX1_addAsk_X1_tally : GoodIn wsX1_addAsk wsX1_tally := goodIn_r _ [13, 14, 1, 15, 2, 16, 17, 18, 19, 20, 21, 22, 23, 24, 25, 26, 27, 28, 29, 30] (by decide +kernel) (by decide +kernel)
set_option maxRecDepth 20000 in
theorem gX1_addAsk_X1_tally : GoodIn wsX1_addAsk (wsV RX1 65 RX1 yX1_tally wsX1_tally) := goodIn_app (goodIn_of _ (by decide +kernel)) ggX1_addAsk_X1_tally
theorem dX1_addAsk_0 : decode cX1_addAsk 0 = .ok (.aload_n 0, 1) := by decide +kernel
theorem dX1_addAsk_1 : decode cX1_addAsk 1 = .ok (.dup, 1) := by decide +kernel
theorem dX1_addAsk_2 : decode cX1_addAsk 2 = .ok (.getfield 51, 3) := by decide +kernel
theorem dX1_addAsk_5 : decode cX1_addAsk 5 = .ok (.dup_x1, 1) := by decide +kernel
theorem dX1_addAsk_6 : decode cX1_addAsk 6 = .ok (.iconst 1, 1) := by decide +kernel
theorem dX1_addAsk_7 : decode cX1_addAsk 7 = .ok (.iadd, 1) := by decide +kernel
theorem dX1_addAsk_8 : decode cX1_addAsk 8 = .ok (.putfield 51, 3) := by decide +kernel
theorem dX1_addAsk_11 : decode cX1_addAsk 11 = .ok (.istore 4, 2) := by decide +kernel
theorem dX1_addAsk_13 : decode cX1_addAsk 13 = .ok (.aload_n 0, 1) := by decide +kernel
theorem dX1_addAsk_14 : decode cX1_addAsk 14 = .ok (.getfield 18, 3) := by decide +kernel
theorem dX1_addAsk_17 : decode cX1_addAsk 17 = .ok (.iload 4, 2) := by decide +kernel
theorem dX1_addAsk_19 : decode cX1_addAsk 19 = .ok (.iload_n 1, 1) := by decide +kernel
theorem dX1_addAsk_20 : decode cX1_addAsk 20 = .ok (.iastore, 1) := by decide +kernel
theorem dX1_addAsk_21 : decode cX1_addAsk 21 = .ok (.iload_n 2, 1) := by decide +kernel
theorem dX1_addAsk_22 : decode cX1_addAsk 22 = .ok (.istore 5, 2) := by decide +kernel
theorem dX1_addAsk_24 : decode cX1_addAsk 24 = .ok (.iload 5, 2) := by decide +kernel
theorem dX1_addAsk_26 : decode cX1_addAsk 26 = .ok (.iload_n 3, 1) := by decide +kernel
theorem dX1_addAsk_27 : decode cX1_addAsk 27 = .ok (.if_icmp .gt 34, 3) := by decide +kernel
theorem dX1_addAsk_30 : decode cX1_addAsk 30 = .ok (.aload_n 0, 1) := by decide +kernel
theorem dX1_addAsk_31 : decode cX1_addAsk 31 = .ok (.getfield 24, 3) := by decide +kernel
theorem dX1_addAsk_34 : decode cX1_addAsk 34 = .ok (.iload 5, 2) := by decide +kernel
theorem dX1_addAsk_36 : decode cX1_addAsk 36 = .ok (.dup2, 1) := by decide +kernel
theorem dX1_addAsk_37 : decode cX1_addAsk 37 = .ok (.iaload, 1) := by decide +kernel
theorem dX1_addAsk_38 : decode cX1_addAsk 38 = .ok (.iconst 1, 1) := by decide +kernel
theorem dX1_addAsk_39 : decode cX1_addAsk 39 = .ok (.iload 4, 2) := by decide +kernel
theorem dX1_addAsk_41 : decode cX1_addAsk 41 = .ok (.ishl, 1) := by decide +kernel
theorem dX1_addAsk_42 : decode cX1_addAsk 42 = .ok (.ior, 1) := by decide +kernel
theorem dX1_addAsk_43 : decode cX1_addAsk 43 = .ok (.iastore, 1) := by decide +kernel
theorem dX1_addAsk_44 : decode cX1_addAsk 44 = .ok (.aload_n 0, 1) := by decide +kernel
theorem dX1_addAsk_45 : decode cX1_addAsk 45 = .ok (.aload_n 0, 1) := by decide +kernel
theorem dX1_addAsk_46 : decode cX1_addAsk 46 = .ok (.getfield 24, 3) := by decide +kernel
theorem dX1_addAsk_49 : decode cX1_addAsk 49 = .ok (.iload 5, 2) := by decide +kernel
theorem dX1_addAsk_51 : decode cX1_addAsk 51 = .ok (.iaload, 1) := by decide +kernel
theorem dX1_addAsk_52 : decode cX1_addAsk 52 = .ok (.invokevirtual 61, 3) := by decide +kernel
theorem dX1_addAsk_55 : decode cX1_addAsk 55 = .ok (.iinc 5 1, 3) := by decide +kernel
theorem dX1_addAsk_58 : decode cX1_addAsk 58 = .ok (.goto (-34), 3) := by decide +kernel
theorem dX1_addAsk_61 : decode cX1_addAsk 61 = .ok (.aload_n 0, 1) := by decide +kernel
theorem dX1_addAsk_62 : decode cX1_addAsk 62 = .ok (.invokevirtual 65, 3) := by decide +kernel
theorem dX1_addAsk_65 : decode cX1_addAsk 65 = .ok (.iload 4, 2) := by decide +kernel
theorem dX1_addAsk_67 : decode cX1_addAsk 67 = .ok (.ireturn, 1) := by decide +kernel
set_option maxRecDepth 20000 in
theorem ggX1_turnFoes_X1_tally : GoodIn wsX1_turnFoes wsX1_tally := goodIn_r _ [6, 7, 8, 9, 10, 11, 1, 12, 13, 14, 15, 16, 17, 18, 19, 20, 21, 22, 23, 24] (by decide +kernel) (by decide +kernel)
set_option maxRecDepth 20000 in
theorem gX1_turnFoes_X1_tally : GoodIn wsX1_turnFoes (wsV RX1 65 RX1 yX1_tally wsX1_tally) := goodIn_app (goodIn_of _ (by decide +kernel)) ggX1_turnFoes_X1_tally
theorem dX1_turnFoes_0 : decode cX1_turnFoes 0 = .ok (.aload_n 0, 1) := by decide +kernel
theorem dX1_turnFoes_1 : decode cX1_turnFoes 1 = .ok (.getfield 21, 3) := by decide +kernel
theorem dX1_turnFoes_4 : decode cX1_turnFoes 4 = .ok (.iload_n 1, 1) := by decide +kernel
theorem dX1_turnFoes_5 : decode cX1_turnFoes 5 = .ok (.dup2, 1) := by decide +kernel
theorem dX1_turnFoes_6 : decode cX1_turnFoes 6 = .ok (.iaload, 1) := by decide +kernel
theorem dX1_turnFoes_7 : decode cX1_turnFoes 7 = .ok (.iconst 1, 1) := by decide +kernel
theorem dX1_turnFoes_8 : decode cX1_turnFoes 8 = .ok (.iload_n 2, 1) := by decide +kernel
theorem dX1_turnFoes_9 : decode cX1_turnFoes 9 = .ok (.ishl, 1) := by decide +kernel
theorem dX1_turnFoes_10 : decode cX1_turnFoes 10 = .ok (.ixor, 1) := by decide +kernel
theorem dX1_turnFoes_11 : decode cX1_turnFoes 11 = .ok (.iastore, 1) := by decide +kernel
theorem dX1_turnFoes_12 : decode cX1_turnFoes 12 = .ok (.aload_n 0, 1) := by decide +kernel
theorem dX1_turnFoes_13 : decode cX1_turnFoes 13 = .ok (.getfield 21, 3) := by decide +kernel
theorem dX1_turnFoes_16 : decode cX1_turnFoes 16 = .ok (.iload_n 2, 1) := by decide +kernel
theorem dX1_turnFoes_17 : decode cX1_turnFoes 17 = .ok (.dup2, 1) := by decide +kernel
theorem dX1_turnFoes_18 : decode cX1_turnFoes 18 = .ok (.iaload, 1) := by decide +kernel
theorem dX1_turnFoes_19 : decode cX1_turnFoes 19 = .ok (.iconst 1, 1) := by decide +kernel
theorem dX1_turnFoes_20 : decode cX1_turnFoes 20 = .ok (.iload_n 1, 1) := by decide +kernel
theorem dX1_turnFoes_21 : decode cX1_turnFoes 21 = .ok (.ishl, 1) := by decide +kernel
theorem dX1_turnFoes_22 : decode cX1_turnFoes 22 = .ok (.ixor, 1) := by decide +kernel
theorem dX1_turnFoes_23 : decode cX1_turnFoes 23 = .ok (.iastore, 1) := by decide +kernel
theorem dX1_turnFoes_24 : decode cX1_turnFoes 24 = .ok (.aload_n 0, 1) := by decide +kernel
theorem dX1_turnFoes_25 : decode cX1_turnFoes 25 = .ok (.invokevirtual 65, 3) := by decide +kernel
theorem dX1_turnFoes_28 : decode cX1_turnFoes 28 = .ok (.return_, 1) := by decide +kernel
theorem dX1_standing_0 : decode cX1_standing 0 = .ok (.iload_n 1, 1) := by decide +kernel
theorem dX1_standing_1 : decode cX1_standing 1 = .ok (.ifCond .ne 8, 3) := by decide +kernel
theorem dX1_standing_4 : decode cX1_standing 4 = .ok (.aload_n 0, 1) := by decide +kernel
theorem dX1_standing_5 : decode cX1_standing 5 = .ok (.getfield 54, 3) := by decide +kernel
theorem dX1_standing_8 : decode cX1_standing 8 = .ok (.ireturn, 1) := by decide +kernel
theorem dX1_standing_9 : decode cX1_standing 9 = .ok (.iload_n 1, 1) := by decide +kernel
theorem dX1_standing_10 : decode cX1_standing 10 = .ok (.bipush 12, 2) := by decide +kernel
theorem dX1_standing_12 : decode cX1_standing 12 = .ok (.if_icmp .gt 18, 3) := by decide +kernel
theorem dX1_standing_15 : decode cX1_standing 15 = .ok (.aload_n 0, 1) := by decide +kernel
theorem dX1_standing_16 : decode cX1_standing 16 = .ok (.getfield 54, 3) := by decide +kernel
theorem dX1_standing_19 : decode cX1_standing 19 = .ok (.iconst 1, 1) := by decide +kernel
theorem dX1_standing_20 : decode cX1_standing 20 = .ok (.iload_n 1, 1) := by decide +kernel
theorem dX1_standing_21 : decode cX1_standing 21 = .ok (.iconst 1, 1) := by decide +kernel
theorem dX1_standing_22 : decode cX1_standing 22 = .ok (.isub, 1) := by decide +kernel
theorem dX1_standing_23 : decode cX1_standing 23 = .ok (.ishl, 1) := by decide +kernel
theorem dX1_standing_24 : decode cX1_standing 24 = .ok (.iconst (-1), 1) := by decide +kernel
theorem dX1_standing_25 : decode cX1_standing 25 = .ok (.ixor, 1) := by decide +kernel
theorem dX1_standing_26 : decode cX1_standing 26 = .ok (.iand, 1) := by decide +kernel
theorem dX1_standing_27 : decode cX1_standing 27 = .ok (.goto 21, 3) := by decide +kernel
theorem dX1_standing_30 : decode cX1_standing 30 = .ok (.aload_n 0, 1) := by decide +kernel
theorem dX1_standing_31 : decode cX1_standing 31 = .ok (.getfield 54, 3) := by decide +kernel
theorem dX1_standing_34 : decode cX1_standing 34 = .ok (.aload_n 0, 1) := by decide +kernel
theorem dX1_standing_35 : decode cX1_standing 35 = .ok (.getfield 15, 3) := by decide +kernel
theorem dX1_standing_38 : decode cX1_standing 38 = .ok (.iload_n 1, 1) := by decide +kernel
theorem dX1_standing_39 : decode cX1_standing 39 = .ok (.bipush 12, 2) := by decide +kernel
theorem dX1_standing_41 : decode cX1_standing 41 = .ok (.isub, 1) := by decide +kernel
theorem dX1_standing_42 : decode cX1_standing 42 = .ok (.iconst 1, 1) := by decide +kernel
theorem dX1_standing_43 : decode cX1_standing 43 = .ok (.isub, 1) := by decide +kernel
theorem dX1_standing_44 : decode cX1_standing 44 = .ok (.iaload, 1) := by decide +kernel
theorem dX1_standing_45 : decode cX1_standing 45 = .ok (.iconst (-1), 1) := by decide +kernel
theorem dX1_standing_46 : decode cX1_standing 46 = .ok (.ixor, 1) := by decide +kernel
theorem dX1_standing_47 : decode cX1_standing 47 = .ok (.iand, 1) := by decide +kernel
theorem dX1_standing_48 : decode cX1_standing 48 = .ok (.ireturn, 1) := by decide +kernel
set_option maxRecDepth 20000 in
theorem ggX1_sizeOf_X1_has : GoodIn wsX1_sizeOf wsX1_has := goodIn_r _ [6] (by decide +kernel) (by decide +kernel)
set_option maxRecDepth 20000 in
theorem gX1_sizeOf_X1_has : GoodIn wsX1_sizeOf (va_wsS RX1 57 yX1_has wsX1_has) := goodIn_app (goodIn_of _ (by decide +kernel)) ggX1_sizeOf_X1_has
theorem dX1_sizeOf_0 : decode cX1_sizeOf 0 = .ok (.iconst 0, 1) := by decide +kernel
theorem dX1_sizeOf_1 : decode cX1_sizeOf 1 = .ok (.istore_n 2, 1) := by decide +kernel
theorem dX1_sizeOf_2 : decode cX1_sizeOf 2 = .ok (.iconst 0, 1) := by decide +kernel
theorem dX1_sizeOf_3 : decode cX1_sizeOf 3 = .ok (.istore_n 3, 1) := by decide +kernel
theorem dX1_sizeOf_4 : decode cX1_sizeOf 4 = .ok (.iload_n 3, 1) := by decide +kernel
theorem dX1_sizeOf_5 : decode cX1_sizeOf 5 = .ok (.aload_n 0, 1) := by decide +kernel
theorem dX1_sizeOf_6 : decode cX1_sizeOf 6 = .ok (.getfield 48, 3) := by decide +kernel
theorem dX1_sizeOf_9 : decode cX1_sizeOf 9 = .ok (.if_icmp .ge 30, 3) := by decide +kernel
theorem dX1_sizeOf_12 : decode cX1_sizeOf 12 = .ok (.iload_n 2, 1) := by decide +kernel
theorem dX1_sizeOf_13 : decode cX1_sizeOf 13 = .ok (.iload_n 1, 1) := by decide +kernel
theorem dX1_sizeOf_14 : decode cX1_sizeOf 14 = .ok (.iload_n 3, 1) := by decide +kernel
theorem dX1_sizeOf_15 : decode cX1_sizeOf 15 = .ok (.invokestatic 57, 3) := by decide +kernel
theorem dX1_sizeOf_18 : decode cX1_sizeOf 18 = .ok (.ifCond .eq 12, 3) := by decide +kernel
theorem dX1_sizeOf_21 : decode cX1_sizeOf 21 = .ok (.aload_n 0, 1) := by decide +kernel
theorem dX1_sizeOf_22 : decode cX1_sizeOf 22 = .ok (.getfield 11, 3) := by decide +kernel
theorem dX1_sizeOf_25 : decode cX1_sizeOf 25 = .ok (.iload_n 3, 1) := by decide +kernel
theorem dX1_sizeOf_26 : decode cX1_sizeOf 26 = .ok (.iaload, 1) := by decide +kernel
theorem dX1_sizeOf_27 : decode cX1_sizeOf 27 = .ok (.goto 4, 3) := by decide +kernel
theorem dX1_sizeOf_30 : decode cX1_sizeOf 30 = .ok (.iconst 0, 1) := by decide +kernel
theorem dX1_sizeOf_31 : decode cX1_sizeOf 31 = .ok (.iadd, 1) := by decide +kernel
theorem dX1_sizeOf_32 : decode cX1_sizeOf 32 = .ok (.istore_n 2, 1) := by decide +kernel
theorem dX1_sizeOf_33 : decode cX1_sizeOf 33 = .ok (.iinc 3 1, 3) := by decide +kernel
theorem dX1_sizeOf_36 : decode cX1_sizeOf 36 = .ok (.goto (-32), 3) := by decide +kernel
theorem dX1_sizeOf_39 : decode cX1_sizeOf 39 = .ok (.iload_n 2, 1) := by decide +kernel
theorem dX1_sizeOf_40 : decode cX1_sizeOf 40 = .ok (.ireturn, 1) := by decide +kernel
set_option maxRecDepth 20000 in
theorem ggX1_holds_X1_findLatest : GoodIn wsX1_holds wsX1_findLatest := goodIn_r _ [7, 8, 1, 9, 10, 11, 12, 13, 14, 15, 16, 6, 17, 18, 19, 20, 21, 22, 23, 24, 25, 26, 27, 28, 29, 30, 31, 32, 33, 34, 35, 36, 37, 38, 39, 40, 41, 42] (by decide +kernel) (by decide +kernel)
set_option maxRecDepth 20000 in
theorem gX1_holds_X1_findLatest : GoodIn wsX1_holds (wsV RX1 68 RX1 yX1_findLatest wsX1_findLatest) := goodIn_app (goodIn_of _ (by decide +kernel)) ggX1_holds_X1_findLatest
theorem dX1_holds_0 : decode cX1_holds 0 = .ok (.aload_n 0, 1) := by decide +kernel
theorem dX1_holds_1 : decode cX1_holds 1 = .ok (.iload_n 2, 1) := by decide +kernel
theorem dX1_holds_2 : decode cX1_holds 2 = .ok (.invokevirtual 68, 3) := by decide +kernel
theorem dX1_holds_5 : decode cX1_holds 5 = .ok (.aload_n 0, 1) := by decide +kernel
theorem dX1_holds_6 : decode cX1_holds 6 = .ok (.getfield 37, 3) := by decide +kernel
theorem dX1_holds_9 : decode cX1_holds 9 = .ok (.aload_n 0, 1) := by decide +kernel
theorem dX1_holds_10 : decode cX1_holds 10 = .ok (.getfield 24, 3) := by decide +kernel
theorem dX1_holds_13 : decode cX1_holds 13 = .ok (.iload_n 1, 1) := by decide +kernel
theorem dX1_holds_14 : decode cX1_holds 14 = .ok (.iaload, 1) := by decide +kernel
theorem dX1_holds_15 : decode cX1_holds 15 = .ok (.iaload, 1) := by decide +kernel
theorem dX1_holds_16 : decode cX1_holds 16 = .ok (.iconst (-1), 1) := by decide +kernel
theorem dX1_holds_17 : decode cX1_holds 17 = .ok (.if_icmp .eq 7, 3) := by decide +kernel
theorem dX1_holds_20 : decode cX1_holds 20 = .ok (.iconst 1, 1) := by decide +kernel
theorem dX1_holds_21 : decode cX1_holds 21 = .ok (.goto 4, 3) := by decide +kernel
theorem dX1_holds_24 : decode cX1_holds 24 = .ok (.iconst 0, 1) := by decide +kernel
theorem dX1_holds_25 : decode cX1_holds 25 = .ok (.ireturn, 1) := by decide +kernel
set_option maxRecDepth 20000 in
theorem ggX1_layingOf_X1_findLatest : GoodIn wsX1_layingOf wsX1_findLatest := goodIn_r _ [7, 8, 9, 2, 10, 11, 12, 13, 14, 15, 16, 6, 17, 18, 19, 20, 21, 22, 23, 24, 25, 26, 27, 28, 29, 30, 31, 32, 33, 34, 35, 36, 37, 38, 39, 40, 41, 42] (by decide +kernel) (by decide +kernel)
set_option maxRecDepth 20000 in
theorem gX1_layingOf_X1_findLatest : GoodIn wsX1_layingOf (wsV RX1 68 RX1 yX1_findLatest wsX1_findLatest) := goodIn_app (goodIn_of _ (by decide +kernel)) ggX1_layingOf_X1_findLatest
set_option maxRecDepth 20000 in
theorem ggX1_layingOf_X1_has : GoodIn wsX1_layingOf wsX1_has := goodIn_r _ [17] (by decide +kernel) (by decide +kernel)
set_option maxRecDepth 20000 in
theorem gX1_layingOf_X1_has : GoodIn wsX1_layingOf (va_wsS RX1 57 yX1_has wsX1_has) := goodIn_app (goodIn_of _ (by decide +kernel)) ggX1_layingOf_X1_has
set_option maxRecDepth 20000 in
theorem ggX1_layingOf_X1_greatestOn : GoodIn wsX1_layingOf wsX1_greatestOn := goodIn_r _ [28, 24, 10, 29, 9, 30, 31, 32, 33, 34, 35, 36, 37, 38, 39, 40, 41, 42] (by decide +kernel) (by decide +kernel)
set_option maxRecDepth 20000 in
theorem gX1_layingOf_X1_greatestOn : GoodIn wsX1_layingOf (wsV RX1 71 RX1 yX1_greatestOn wsX1_greatestOn) := goodIn_app (goodIn_of _ (by decide +kernel)) ggX1_layingOf_X1_greatestOn
theorem dX1_layingOf_0 : decode cX1_layingOf 0 = .ok (.aload_n 0, 1) := by decide +kernel
theorem dX1_layingOf_1 : decode cX1_layingOf 1 = .ok (.iload_n 2, 1) := by decide +kernel
theorem dX1_layingOf_2 : decode cX1_layingOf 2 = .ok (.invokevirtual 68, 3) := by decide +kernel
theorem dX1_layingOf_5 : decode cX1_layingOf 5 = .ok (.aload_n 0, 1) := by decide +kernel
theorem dX1_layingOf_6 : decode cX1_layingOf 6 = .ok (.getfield 24, 3) := by decide +kernel
theorem dX1_layingOf_9 : decode cX1_layingOf 9 = .ok (.iload_n 1, 1) := by decide +kernel
theorem dX1_layingOf_10 : decode cX1_layingOf 10 = .ok (.iaload, 1) := by decide +kernel
theorem dX1_layingOf_11 : decode cX1_layingOf 11 = .ok (.istore 4, 2) := by decide +kernel
theorem dX1_layingOf_13 : decode cX1_layingOf 13 = .ok (.iconst 0, 1) := by decide +kernel
theorem dX1_layingOf_14 : decode cX1_layingOf 14 = .ok (.istore 5, 2) := by decide +kernel
theorem dX1_layingOf_16 : decode cX1_layingOf 16 = .ok (.iload 5, 2) := by decide +kernel
theorem dX1_layingOf_18 : decode cX1_layingOf 18 = .ok (.aload_n 0, 1) := by decide +kernel
theorem dX1_layingOf_19 : decode cX1_layingOf 19 = .ok (.getfield 48, 3) := by decide +kernel
theorem dX1_layingOf_22 : decode cX1_layingOf 22 = .ok (.if_icmp .ge 47, 3) := by decide +kernel
theorem dX1_layingOf_25 : decode cX1_layingOf 25 = .ok (.iload_n 2, 1) := by decide +kernel
theorem dX1_layingOf_26 : decode cX1_layingOf 26 = .ok (.iload 5, 2) := by decide +kernel
theorem dX1_layingOf_28 : decode cX1_layingOf 28 = .ok (.invokestatic 57, 3) := by decide +kernel
theorem dX1_layingOf_31 : decode cX1_layingOf 31 = .ok (.ifCond .eq 32, 3) := by decide +kernel
theorem dX1_layingOf_34 : decode cX1_layingOf 34 = .ok (.aload_n 0, 1) := by decide +kernel
theorem dX1_layingOf_35 : decode cX1_layingOf 35 = .ok (.iload 5, 2) := by decide +kernel
theorem dX1_layingOf_37 : decode cX1_layingOf 37 = .ok (.iload 4, 2) := by decide +kernel
theorem dX1_layingOf_39 : decode cX1_layingOf 39 = .ok (.invokevirtual 71, 3) := by decide +kernel
theorem dX1_layingOf_42 : decode cX1_layingOf 42 = .ok (.istore 6, 2) := by decide +kernel
theorem dX1_layingOf_44 : decode cX1_layingOf 44 = .ok (.iload 6, 2) := by decide +kernel
theorem dX1_layingOf_46 : decode cX1_layingOf 46 = .ok (.iload_n 3, 1) := by decide +kernel
theorem dX1_layingOf_47 : decode cX1_layingOf 47 = .ok (.invokestatic 57, 3) := by decide +kernel
theorem dX1_layingOf_50 : decode cX1_layingOf 50 = .ok (.ifCond .eq 6, 3) := by decide +kernel
theorem dX1_layingOf_53 : decode cX1_layingOf 53 = .ok (.iload 5, 2) := by decide +kernel
theorem dX1_layingOf_55 : decode cX1_layingOf 55 = .ok (.ireturn, 1) := by decide +kernel
theorem dX1_layingOf_56 : decode cX1_layingOf 56 = .ok (.iload 4, 2) := by decide +kernel
theorem dX1_layingOf_58 : decode cX1_layingOf 58 = .ok (.iload 6, 2) := by decide +kernel
theorem dX1_layingOf_60 : decode cX1_layingOf 60 = .ok (.ixor, 1) := by decide +kernel
theorem dX1_layingOf_61 : decode cX1_layingOf 61 = .ok (.istore 4, 2) := by decide +kernel
theorem dX1_layingOf_63 : decode cX1_layingOf 63 = .ok (.iinc 5 1, 3) := by decide +kernel
theorem dX1_layingOf_66 : decode cX1_layingOf 66 = .ok (.goto (-50), 3) := by decide +kernel
theorem dX1_layingOf_69 : decode cX1_layingOf 69 = .ok (.iconst (-1), 1) := by decide +kernel
theorem dX1_layingOf_70 : decode cX1_layingOf 70 = .ok (.ireturn, 1) := by decide +kernel
set_option maxRecDepth 20000 in
theorem ggX1_lacking_X1_findLatest : GoodIn wsX1_lacking wsX1_findLatest := goodIn_r _ [12, 13, 2, 14, 15, 16, 17, 18, 19, 20, 21, 11, 22, 23, 24, 25, 26, 27, 28, 3, 29, 30, 31, 32, 33, 34, 35, 36, 37, 38, 39, 40, 41, 42, 43, 44, 45, 46] (by decide +kernel) (by decide +kernel)
set_option maxRecDepth 20000 in
theorem gX1_lacking_X1_findLatest : GoodIn wsX1_lacking (wsV RX1 68 RX1 yX1_findLatest wsX1_findLatest) := goodIn_app (goodIn_of _ (by decide +kernel)) ggX1_lacking_X1_findLatest
theorem dX1_lacking_0 : decode cX1_lacking 0 = .ok (.aload_n 0, 1) := by decide +kernel
theorem dX1_lacking_1 : decode cX1_lacking 1 = .ok (.iload_n 2, 1) := by decide +kernel
theorem dX1_lacking_2 : decode cX1_lacking 2 = .ok (.invokevirtual 68, 3) := by decide +kernel
theorem dX1_lacking_5 : decode cX1_lacking 5 = .ok (.aload_n 0, 1) := by decide +kernel
theorem dX1_lacking_6 : decode cX1_lacking 6 = .ok (.getfield 24, 3) := by decide +kernel
theorem dX1_lacking_9 : decode cX1_lacking 9 = .ok (.iload_n 1, 1) := by decide +kernel
theorem dX1_lacking_10 : decode cX1_lacking 10 = .ok (.iaload, 1) := by decide +kernel
theorem dX1_lacking_11 : decode cX1_lacking 11 = .ok (.istore_n 3, 1) := by decide +kernel
theorem dX1_lacking_12 : decode cX1_lacking 12 = .ok (.iconst 0, 1) := by decide +kernel
theorem dX1_lacking_13 : decode cX1_lacking 13 = .ok (.istore 4, 2) := by decide +kernel
theorem dX1_lacking_15 : decode cX1_lacking 15 = .ok (.iload_n 3, 1) := by decide +kernel
theorem dX1_lacking_16 : decode cX1_lacking 16 = .ok (.istore 5, 2) := by decide +kernel
theorem dX1_lacking_18 : decode cX1_lacking 18 = .ok (.iload 5, 2) := by decide +kernel
theorem dX1_lacking_20 : decode cX1_lacking 20 = .ok (.ifCond .le 39, 3) := by decide +kernel
theorem dX1_lacking_23 : decode cX1_lacking 23 = .ok (.aload_n 0, 1) := by decide +kernel
theorem dX1_lacking_24 : decode cX1_lacking 24 = .ok (.getfield 37, 3) := by decide +kernel
theorem dX1_lacking_27 : decode cX1_lacking 27 = .ok (.iload 5, 2) := by decide +kernel
theorem dX1_lacking_29 : decode cX1_lacking 29 = .ok (.iaload, 1) := by decide +kernel
theorem dX1_lacking_30 : decode cX1_lacking 30 = .ok (.iconst (-1), 1) := by decide +kernel
theorem dX1_lacking_31 : decode cX1_lacking 31 = .ok (.if_icmp .eq 17, 3) := by decide +kernel
theorem dX1_lacking_34 : decode cX1_lacking 34 = .ok (.iload 4, 2) := by decide +kernel
theorem dX1_lacking_36 : decode cX1_lacking 36 = .ok (.aload_n 0, 1) := by decide +kernel
theorem dX1_lacking_37 : decode cX1_lacking 37 = .ok (.getfield 27, 3) := by decide +kernel
theorem dX1_lacking_40 : decode cX1_lacking 40 = .ok (.iload 5, 2) := by decide +kernel
theorem dX1_lacking_42 : decode cX1_lacking 42 = .ok (.iaload, 1) := by decide +kernel
theorem dX1_lacking_43 : decode cX1_lacking 43 = .ok (.invokestatic 75, 3) := by decide +kernel
theorem dX1_lacking_46 : decode cX1_lacking 46 = .ok (.istore 4, 2) := by decide +kernel
theorem dX1_lacking_48 : decode cX1_lacking 48 = .ok (.iload 5, 2) := by decide +kernel
theorem dX1_lacking_50 : decode cX1_lacking 50 = .ok (.iconst 1, 1) := by decide +kernel
theorem dX1_lacking_51 : decode cX1_lacking 51 = .ok (.isub, 1) := by decide +kernel
theorem dX1_lacking_52 : decode cX1_lacking 52 = .ok (.iload_n 3, 1) := by decide +kernel
theorem dX1_lacking_53 : decode cX1_lacking 53 = .ok (.iand, 1) := by decide +kernel
theorem dX1_lacking_54 : decode cX1_lacking 54 = .ok (.istore 5, 2) := by decide +kernel
theorem dX1_lacking_56 : decode cX1_lacking 56 = .ok (.goto (-38), 3) := by decide +kernel
theorem dX1_lacking_59 : decode cX1_lacking 59 = .ok (.aload_n 0, 1) := by decide +kernel
theorem dX1_lacking_60 : decode cX1_lacking 60 = .ok (.getfield 27, 3) := by decide +kernel
theorem dX1_lacking_63 : decode cX1_lacking 63 = .ok (.iload_n 3, 1) := by decide +kernel
theorem dX1_lacking_64 : decode cX1_lacking 64 = .ok (.iaload, 1) := by decide +kernel
theorem dX1_lacking_65 : decode cX1_lacking 65 = .ok (.iload 4, 2) := by decide +kernel
theorem dX1_lacking_67 : decode cX1_lacking 67 = .ok (.isub, 1) := by decide +kernel
theorem dX1_lacking_68 : decode cX1_lacking 68 = .ok (.ireturn, 1) := by decide +kernel
set_option maxRecDepth 20000 in
theorem ggX1_leftOver_X1_findLatest : GoodIn wsX1_leftOver wsX1_findLatest := goodIn_r _ [8, 9, 2, 10, 11, 12, 13, 14, 15, 16, 17, 7, 18, 19, 20, 21, 22, 23, 24, 3, 25, 26, 27, 28, 29, 34, 35, 36, 37, 38, 39, 40, 41, 42, 43, 44, 45, 46] (by decide +kernel) (by decide +kernel)
set_option maxRecDepth 20000 in
theorem gX1_leftOver_X1_findLatest : GoodIn wsX1_leftOver (wsV RX1 68 RX1 yX1_findLatest wsX1_findLatest) := goodIn_app (goodIn_of _ (by decide +kernel)) ggX1_leftOver_X1_findLatest
set_option maxRecDepth 20000 in
theorem ggX1_leftOver_X1_sizeOf : GoodIn wsX1_leftOver wsX1_sizeOf := goodIn_r _ [33, 10, 11, 16, 17, 7, 18, 34, 35, 36, 37, 38, 39, 40, 41, 42, 43, 44, 45, 46] (by decide +kernel) (by decide +kernel)
set_option maxRecDepth 20000 in
theorem gX1_leftOver_X1_sizeOf : GoodIn wsX1_leftOver (wsV RX1 80 RX1 yX1_sizeOf wsX1_sizeOf) := goodIn_app (goodIn_of _ (by decide +kernel)) ggX1_leftOver_X1_sizeOf
theorem dX1_leftOver_0 : decode cX1_leftOver 0 = .ok (.aload_n 0, 1) := by decide +kernel
theorem dX1_leftOver_1 : decode cX1_leftOver 1 = .ok (.iload_n 2, 1) := by decide +kernel
theorem dX1_leftOver_2 : decode cX1_leftOver 2 = .ok (.invokevirtual 68, 3) := by decide +kernel
theorem dX1_leftOver_5 : decode cX1_leftOver 5 = .ok (.aload_n 0, 1) := by decide +kernel
theorem dX1_leftOver_6 : decode cX1_leftOver 6 = .ok (.getfield 24, 3) := by decide +kernel
theorem dX1_leftOver_9 : decode cX1_leftOver 9 = .ok (.iload_n 1, 1) := by decide +kernel
theorem dX1_leftOver_10 : decode cX1_leftOver 10 = .ok (.iaload, 1) := by decide +kernel
theorem dX1_leftOver_11 : decode cX1_leftOver 11 = .ok (.istore_n 3, 1) := by decide +kernel
theorem dX1_leftOver_12 : decode cX1_leftOver 12 = .ok (.aload_n 0, 1) := by decide +kernel
theorem dX1_leftOver_13 : decode cX1_leftOver 13 = .ok (.getfield 37, 3) := by decide +kernel
theorem dX1_leftOver_16 : decode cX1_leftOver 16 = .ok (.iload_n 3, 1) := by decide +kernel
theorem dX1_leftOver_17 : decode cX1_leftOver 17 = .ok (.iaload, 1) := by decide +kernel
theorem dX1_leftOver_18 : decode cX1_leftOver 18 = .ok (.iconst (-1), 1) := by decide +kernel
theorem dX1_leftOver_19 : decode cX1_leftOver 19 = .ok (.if_icmp .eq 18, 3) := by decide +kernel
theorem dX1_leftOver_22 : decode cX1_leftOver 22 = .ok (.aload_n 0, 1) := by decide +kernel
theorem dX1_leftOver_23 : decode cX1_leftOver 23 = .ok (.iload_n 2, 1) := by decide +kernel
theorem dX1_leftOver_24 : decode cX1_leftOver 24 = .ok (.invokevirtual 80, 3) := by decide +kernel
theorem dX1_leftOver_27 : decode cX1_leftOver 27 = .ok (.aload_n 0, 1) := by decide +kernel
theorem dX1_leftOver_28 : decode cX1_leftOver 28 = .ok (.getfield 27, 3) := by decide +kernel
theorem dX1_leftOver_31 : decode cX1_leftOver 31 = .ok (.iload_n 3, 1) := by decide +kernel
theorem dX1_leftOver_32 : decode cX1_leftOver 32 = .ok (.iaload, 1) := by decide +kernel
theorem dX1_leftOver_33 : decode cX1_leftOver 33 = .ok (.isub, 1) := by decide +kernel
theorem dX1_leftOver_34 : decode cX1_leftOver 34 = .ok (.goto 4, 3) := by decide +kernel
theorem dX1_leftOver_37 : decode cX1_leftOver 37 = .ok (.iconst 0, 1) := by decide +kernel
theorem dX1_leftOver_38 : decode cX1_leftOver 38 = .ok (.ireturn, 1) := by decide +kernel
set_option maxRecDepth 20000 in
theorem ggX1_firstUnfit_X1_isLookedAt : GoodIn wsX1_firstUnfit wsX1_isLookedAt := goodIn_r _ [5, 6, 48, 49, 50, 51, 52, 53, 54, 55, 56, 57, 58, 59, 60] (by decide +kernel) (by decide +kernel)
set_option maxRecDepth 20000 in
theorem gX1_firstUnfit_X1_isLookedAt : GoodIn wsX1_firstUnfit (wsV RX1 84 RX1 yX1_isLookedAt wsX1_isLookedAt) := goodIn_app (goodIn_of _ (by decide +kernel)) ggX1_firstUnfit_X1_isLookedAt
set_option maxRecDepth 20000 in
theorem ggX1_firstUnfit_X1_standing : GoodIn wsX1_firstUnfit wsX1_standing := goodIn_r _ [10, 11, 12, 48, 49, 50, 51, 52, 53, 54, 55, 56, 57, 58, 59, 60] (by decide +kernel) (by decide +kernel)
set_option maxRecDepth 20000 in
theorem gX1_firstUnfit_X1_standing : GoodIn wsX1_firstUnfit (wsV RX1 87 RX1 yX1_standing wsX1_standing) := goodIn_app (goodIn_of _ (by decide +kernel)) ggX1_firstUnfit_X1_standing
set_option maxRecDepth 20000 in
theorem ggX1_firstUnfit_X1_firstUnfitHour : GoodIn wsX1_firstUnfit wsX1_firstUnfitHour := goodIn_r _ [16, 17, 18, 19, 4, 20, 21, 22, 23, 24, 25, 26, 27, 6, 28, 29, 30, 31, 32, 33, 34, 35, 36, 37, 38, 39, 40, 41, 42, 43, 44, 45, 46, 47, 48, 49, 50, 51, 52, 53, 54, 55, 56, 57, 58, 59, 60] (by decide +kernel) (by decide +kernel)
set_option maxRecDepth 20000 in
theorem gX1_firstUnfit_X1_firstUnfitHour : GoodIn wsX1_firstUnfit (wsV RX1 90 RX1 yX1_firstUnfitHour wsX1_firstUnfitHour) := goodIn_app (goodIn_of _ (by decide +kernel)) ggX1_firstUnfit_X1_firstUnfitHour
theorem dX1_firstUnfit_0 : decode cX1_firstUnfit 0 = .ok (.bipush 24, 2) := by decide +kernel
theorem dX1_firstUnfit_2 : decode cX1_firstUnfit 2 = .ok (.istore_n 2, 1) := by decide +kernel
theorem dX1_firstUnfit_3 : decode cX1_firstUnfit 3 = .ok (.iconst 0, 1) := by decide +kernel
theorem dX1_firstUnfit_4 : decode cX1_firstUnfit 4 = .ok (.istore_n 3, 1) := by decide +kernel
theorem dX1_firstUnfit_5 : decode cX1_firstUnfit 5 = .ok (.iconst 0, 1) := by decide +kernel
theorem dX1_firstUnfit_6 : decode cX1_firstUnfit 6 = .ok (.istore 4, 2) := by decide +kernel
theorem dX1_firstUnfit_8 : decode cX1_firstUnfit 8 = .ok (.iload 4, 2) := by decide +kernel
theorem dX1_firstUnfit_10 : decode cX1_firstUnfit 10 = .ok (.bipush 17, 2) := by decide +kernel
theorem dX1_firstUnfit_12 : decode cX1_firstUnfit 12 = .ok (.if_icmp .ge 52, 3) := by decide +kernel
theorem dX1_firstUnfit_15 : decode cX1_firstUnfit 15 = .ok (.iload_n 2, 1) := by decide +kernel
theorem dX1_firstUnfit_16 : decode cX1_firstUnfit 16 = .ok (.ifCond .le 48, 3) := by decide +kernel
theorem dX1_firstUnfit_19 : decode cX1_firstUnfit 19 = .ok (.aload_n 0, 1) := by decide +kernel
theorem dX1_firstUnfit_20 : decode cX1_firstUnfit 20 = .ok (.iload 4, 2) := by decide +kernel
theorem dX1_firstUnfit_22 : decode cX1_firstUnfit 22 = .ok (.iload_n 1, 1) := by decide +kernel
theorem dX1_firstUnfit_23 : decode cX1_firstUnfit 23 = .ok (.invokevirtual 84, 3) := by decide +kernel
theorem dX1_firstUnfit_26 : decode cX1_firstUnfit 26 = .ok (.ifCond .eq 32, 3) := by decide +kernel
theorem dX1_firstUnfit_29 : decode cX1_firstUnfit 29 = .ok (.aload_n 0, 1) := by decide +kernel
theorem dX1_firstUnfit_30 : decode cX1_firstUnfit 30 = .ok (.aload_n 0, 1) := by decide +kernel
theorem dX1_firstUnfit_31 : decode cX1_firstUnfit 31 = .ok (.iload 4, 2) := by decide +kernel
theorem dX1_firstUnfit_33 : decode cX1_firstUnfit 33 = .ok (.invokevirtual 87, 3) := by decide +kernel
theorem dX1_firstUnfit_36 : decode cX1_firstUnfit 36 = .ok (.iload_n 2, 1) := by decide +kernel
theorem dX1_firstUnfit_37 : decode cX1_firstUnfit 37 = .ok (.invokevirtual 90, 3) := by decide +kernel
theorem dX1_firstUnfit_40 : decode cX1_firstUnfit 40 = .ok (.istore 5, 2) := by decide +kernel
theorem dX1_firstUnfit_42 : decode cX1_firstUnfit 42 = .ok (.iload 5, 2) := by decide +kernel
theorem dX1_firstUnfit_44 : decode cX1_firstUnfit 44 = .ok (.iload_n 2, 1) := by decide +kernel
theorem dX1_firstUnfit_45 : decode cX1_firstUnfit 45 = .ok (.if_icmp .ge 8, 3) := by decide +kernel
theorem dX1_firstUnfit_48 : decode cX1_firstUnfit 48 = .ok (.iload 4, 2) := by decide +kernel
theorem dX1_firstUnfit_50 : decode cX1_firstUnfit 50 = .ok (.goto 4, 3) := by decide +kernel
theorem dX1_firstUnfit_53 : decode cX1_firstUnfit 53 = .ok (.iload_n 3, 1) := by decide +kernel
theorem dX1_firstUnfit_54 : decode cX1_firstUnfit 54 = .ok (.istore_n 3, 1) := by decide +kernel
theorem dX1_firstUnfit_55 : decode cX1_firstUnfit 55 = .ok (.iload 5, 2) := by decide +kernel
theorem dX1_firstUnfit_57 : decode cX1_firstUnfit 57 = .ok (.istore_n 2, 1) := by decide +kernel
theorem dX1_firstUnfit_58 : decode cX1_firstUnfit 58 = .ok (.iinc 4 1, 3) := by decide +kernel
theorem dX1_firstUnfit_61 : decode cX1_firstUnfit 61 = .ok (.goto (-53), 3) := by decide +kernel
theorem dX1_firstUnfit_64 : decode cX1_firstUnfit 64 = .ok (.iload_n 2, 1) := by decide +kernel
theorem dX1_firstUnfit_65 : decode cX1_firstUnfit 65 = .ok (.bipush 24, 2) := by decide +kernel
theorem dX1_firstUnfit_67 : decode cX1_firstUnfit 67 = .ok (.if_icmp .ne 8, 3) := by decide +kernel
theorem dX1_firstUnfit_70 : decode cX1_firstUnfit 70 = .ok (.bipush (-2), 2) := by decide +kernel
theorem dX1_firstUnfit_72 : decode cX1_firstUnfit 72 = .ok (.goto 9, 3) := by decide +kernel
theorem dX1_firstUnfit_75 : decode cX1_firstUnfit 75 = .ok (.bipush 100, 2) := by decide +kernel
theorem dX1_firstUnfit_77 : decode cX1_firstUnfit 77 = .ok (.iload_n 2, 1) := by decide +kernel
theorem dX1_firstUnfit_78 : decode cX1_firstUnfit 78 = .ok (.imul, 1) := by decide +kernel
theorem dX1_firstUnfit_79 : decode cX1_firstUnfit 79 = .ok (.iload_n 3, 1) := by decide +kernel
theorem dX1_firstUnfit_80 : decode cX1_firstUnfit 80 = .ok (.iadd, 1) := by decide +kernel
theorem dX1_firstUnfit_81 : decode cX1_firstUnfit 81 = .ok (.ireturn, 1) := by decide +kernel
theorem dX1_isLookedAt_0 : decode cX1_isLookedAt 0 = .ok (.iload_n 1, 1) := by decide +kernel
theorem dX1_isLookedAt_1 : decode cX1_isLookedAt 1 = .ok (.bipush 12, 2) := by decide +kernel
theorem dX1_isLookedAt_3 : decode cX1_isLookedAt 3 = .ok (.if_icmp .le 14, 3) := by decide +kernel
theorem dX1_isLookedAt_6 : decode cX1_isLookedAt 6 = .ok (.iload_n 2, 1) := by decide +kernel
theorem dX1_isLookedAt_7 : decode cX1_isLookedAt 7 = .ok (.iconst 2, 1) := by decide +kernel
theorem dX1_isLookedAt_8 : decode cX1_isLookedAt 8 = .ok (.if_icmp .ne 7, 3) := by decide +kernel
theorem dX1_isLookedAt_11 : decode cX1_isLookedAt 11 = .ok (.iconst 1, 1) := by decide +kernel
theorem dX1_isLookedAt_12 : decode cX1_isLookedAt 12 = .ok (.goto 4, 3) := by decide +kernel
theorem dX1_isLookedAt_15 : decode cX1_isLookedAt 15 = .ok (.iconst 0, 1) := by decide +kernel
theorem dX1_isLookedAt_16 : decode cX1_isLookedAt 16 = .ok (.ireturn, 1) := by decide +kernel
theorem dX1_isLookedAt_17 : decode cX1_isLookedAt 17 = .ok (.iload_n 1, 1) := by decide +kernel
theorem dX1_isLookedAt_18 : decode cX1_isLookedAt 18 = .ok (.ifCond .eq 15, 3) := by decide +kernel
theorem dX1_isLookedAt_21 : decode cX1_isLookedAt 21 = .ok (.iload_n 2, 1) := by decide +kernel
theorem dX1_isLookedAt_22 : decode cX1_isLookedAt 22 = .ok (.ifCond .le 15, 3) := by decide +kernel
theorem dX1_isLookedAt_25 : decode cX1_isLookedAt 25 = .ok (.iload_n 1, 1) := by decide +kernel
theorem dX1_isLookedAt_26 : decode cX1_isLookedAt 26 = .ok (.aload_n 0, 1) := by decide +kernel
theorem dX1_isLookedAt_27 : decode cX1_isLookedAt 27 = .ok (.getfield 48, 3) := by decide +kernel
theorem dX1_isLookedAt_30 : decode cX1_isLookedAt 30 = .ok (.if_icmp .gt 7, 3) := by decide +kernel
theorem dX1_isLookedAt_33 : decode cX1_isLookedAt 33 = .ok (.iconst 1, 1) := by decide +kernel
theorem dX1_isLookedAt_34 : decode cX1_isLookedAt 34 = .ok (.goto 4, 3) := by decide +kernel
theorem dX1_isLookedAt_37 : decode cX1_isLookedAt 37 = .ok (.iconst 0, 1) := by decide +kernel
theorem dX1_isLookedAt_38 : decode cX1_isLookedAt 38 = .ok (.ireturn, 1) := by decide +kernel
set_option maxRecDepth 20000 in
theorem ggX1_firstUnfitHour_X1_holds : GoodIn wsX1_firstUnfitHour wsX1_holds := goodIn_r _ [5, 6, 7, 8, 9, 10, 4, 11, 12, 13, 14, 15, 16, 17, 18, 19, 20, 21, 22, 23, 24, 25, 26, 27, 28, 29, 30, 31, 32, 33, 34, 35, 36, 37, 38, 39, 40, 41, 42, 43, 44, 45, 46] (by decide +kernel) (by decide +kernel)
set_option maxRecDepth 20000 in
theorem gX1_firstUnfitHour_X1_holds : GoodIn wsX1_firstUnfitHour (wsV RX1 93 RX1 yX1_holds wsX1_holds) := goodIn_app (goodIn_of _ (by decide +kernel)) ggX1_firstUnfitHour_X1_holds
theorem dX1_firstUnfitHour_0 : decode cX1_firstUnfitHour 0 = .ok (.iconst 0, 1) := by decide +kernel
theorem dX1_firstUnfitHour_1 : decode cX1_firstUnfitHour 1 = .ok (.istore_n 3, 1) := by decide +kernel
theorem dX1_firstUnfitHour_2 : decode cX1_firstUnfitHour 2 = .ok (.iload_n 3, 1) := by decide +kernel
theorem dX1_firstUnfitHour_3 : decode cX1_firstUnfitHour 3 = .ok (.iload_n 2, 1) := by decide +kernel
theorem dX1_firstUnfitHour_4 : decode cX1_firstUnfitHour 4 = .ok (.if_icmp .ge 20, 3) := by decide +kernel
theorem dX1_firstUnfitHour_7 : decode cX1_firstUnfitHour 7 = .ok (.aload_n 0, 1) := by decide +kernel
theorem dX1_firstUnfitHour_8 : decode cX1_firstUnfitHour 8 = .ok (.iload_n 3, 1) := by decide +kernel
theorem dX1_firstUnfitHour_9 : decode cX1_firstUnfitHour 9 = .ok (.iload_n 1, 1) := by decide +kernel
theorem dX1_firstUnfitHour_10 : decode cX1_firstUnfitHour 10 = .ok (.invokevirtual 93, 3) := by decide +kernel
theorem dX1_firstUnfitHour_13 : decode cX1_firstUnfitHour 13 = .ok (.ifCond .ne 5, 3) := by decide +kernel
theorem dX1_firstUnfitHour_16 : decode cX1_firstUnfitHour 16 = .ok (.iload_n 3, 1) := by decide +kernel
theorem dX1_firstUnfitHour_17 : decode cX1_firstUnfitHour 17 = .ok (.ireturn, 1) := by decide +kernel
theorem dX1_firstUnfitHour_18 : decode cX1_firstUnfitHour 18 = .ok (.iinc 3 1, 3) := by decide +kernel
theorem dX1_firstUnfitHour_21 : decode cX1_firstUnfitHour 21 = .ok (.goto (-19), 3) := by decide +kernel
theorem dX1_firstUnfitHour_24 : decode cX1_firstUnfitHour 24 = .ok (.iload_n 2, 1) := by decide +kernel
theorem dX1_firstUnfitHour_25 : decode cX1_firstUnfitHour 25 = .ok (.ireturn, 1) := by decide +kernel
theorem dX1_markAsked_0 : decode cX1_markAsked 0 = .ok (.iload_n 1, 1) := by decide +kernel
theorem dX1_markAsked_1 : decode cX1_markAsked 1 = .ok (.istore_n 2, 1) := by decide +kernel
theorem dX1_markAsked_2 : decode cX1_markAsked 2 = .ok (.iload_n 2, 1) := by decide +kernel
theorem dX1_markAsked_3 : decode cX1_markAsked 3 = .ok (.ifCond .le 19, 3) := by decide +kernel
theorem dX1_markAsked_6 : decode cX1_markAsked 6 = .ok (.aload_n 0, 1) := by decide +kernel
theorem dX1_markAsked_7 : decode cX1_markAsked 7 = .ok (.getfield 34, 3) := by decide +kernel
theorem dX1_markAsked_10 : decode cX1_markAsked 10 = .ok (.iload_n 2, 1) := by decide +kernel
theorem dX1_markAsked_11 : decode cX1_markAsked 11 = .ok (.iconst 1, 1) := by decide +kernel
theorem dX1_markAsked_12 : decode cX1_markAsked 12 = .ok (.bastore, 1) := by decide +kernel
theorem dX1_markAsked_13 : decode cX1_markAsked 13 = .ok (.iload_n 2, 1) := by decide +kernel
theorem dX1_markAsked_14 : decode cX1_markAsked 14 = .ok (.iconst 1, 1) := by decide +kernel
theorem dX1_markAsked_15 : decode cX1_markAsked 15 = .ok (.isub, 1) := by decide +kernel
theorem dX1_markAsked_16 : decode cX1_markAsked 16 = .ok (.iload_n 1, 1) := by decide +kernel
theorem dX1_markAsked_17 : decode cX1_markAsked 17 = .ok (.iand, 1) := by decide +kernel
theorem dX1_markAsked_18 : decode cX1_markAsked 18 = .ok (.istore_n 2, 1) := by decide +kernel
theorem dX1_markAsked_19 : decode cX1_markAsked 19 = .ok (.goto (-17), 3) := by decide +kernel
theorem dX1_markAsked_22 : decode cX1_markAsked 22 = .ok (.return_, 1) := by decide +kernel
theorem dX1_tally_0 : decode cX1_tally 0 = .ok (.aload_n 0, 1) := by decide +kernel
theorem dX1_tally_1 : decode cX1_tally 1 = .ok (.iconst (-1), 1) := by decide +kernel
theorem dX1_tally_2 : decode cX1_tally 2 = .ok (.putfield 40, 3) := by decide +kernel
theorem dX1_tally_5 : decode cX1_tally 5 = .ok (.iconst 0, 1) := by decide +kernel
theorem dX1_tally_6 : decode cX1_tally 6 = .ok (.istore_n 1, 1) := by decide +kernel
theorem dX1_tally_7 : decode cX1_tally 7 = .ok (.iload_n 1, 1) := by decide +kernel
theorem dX1_tally_8 : decode cX1_tally 8 = .ok (.aload_n 0, 1) := by decide +kernel
theorem dX1_tally_9 : decode cX1_tally 9 = .ok (.getfield 51, 3) := by decide +kernel
theorem dX1_tally_12 : decode cX1_tally 12 = .ok (.if_icmp .ge 80, 3) := by decide +kernel
theorem dX1_tally_15 : decode cX1_tally 15 = .ok (.iconst 1, 1) := by decide +kernel
theorem dX1_tally_16 : decode cX1_tally 16 = .ok (.iload_n 1, 1) := by decide +kernel
theorem dX1_tally_17 : decode cX1_tally 17 = .ok (.ishl, 1) := by decide +kernel
theorem dX1_tally_18 : decode cX1_tally 18 = .ok (.istore_n 2, 1) := by decide +kernel
theorem dX1_tally_19 : decode cX1_tally 19 = .ok (.iconst 0, 1) := by decide +kernel
theorem dX1_tally_20 : decode cX1_tally 20 = .ok (.istore_n 3, 1) := by decide +kernel
theorem dX1_tally_21 : decode cX1_tally 21 = .ok (.iload_n 3, 1) := by decide +kernel
theorem dX1_tally_22 : decode cX1_tally 22 = .ok (.iload_n 2, 1) := by decide +kernel
theorem dX1_tally_23 : decode cX1_tally 23 = .ok (.if_icmp .ge 63, 3) := by decide +kernel
theorem dX1_tally_26 : decode cX1_tally 26 = .ok (.aload_n 0, 1) := by decide +kernel
theorem dX1_tally_27 : decode cX1_tally 27 = .ok (.getfield 27, 3) := by decide +kernel
theorem dX1_tally_30 : decode cX1_tally 30 = .ok (.iload_n 2, 1) := by decide +kernel
theorem dX1_tally_31 : decode cX1_tally 31 = .ok (.iload_n 3, 1) := by decide +kernel
theorem dX1_tally_32 : decode cX1_tally 32 = .ok (.ior, 1) := by decide +kernel
theorem dX1_tally_33 : decode cX1_tally 33 = .ok (.aload_n 0, 1) := by decide +kernel
theorem dX1_tally_34 : decode cX1_tally 34 = .ok (.getfield 27, 3) := by decide +kernel
theorem dX1_tally_37 : decode cX1_tally 37 = .ok (.iload_n 3, 1) := by decide +kernel
theorem dX1_tally_38 : decode cX1_tally 38 = .ok (.iaload, 1) := by decide +kernel
theorem dX1_tally_39 : decode cX1_tally 39 = .ok (.aload_n 0, 1) := by decide +kernel
theorem dX1_tally_40 : decode cX1_tally 40 = .ok (.getfield 18, 3) := by decide +kernel
theorem dX1_tally_43 : decode cX1_tally 43 = .ok (.iload_n 1, 1) := by decide +kernel
theorem dX1_tally_44 : decode cX1_tally 44 = .ok (.iaload, 1) := by decide +kernel
theorem dX1_tally_45 : decode cX1_tally 45 = .ok (.iadd, 1) := by decide +kernel
theorem dX1_tally_46 : decode cX1_tally 46 = .ok (.iastore, 1) := by decide +kernel
theorem dX1_tally_47 : decode cX1_tally 47 = .ok (.aload_n 0, 1) := by decide +kernel
theorem dX1_tally_48 : decode cX1_tally 48 = .ok (.getfield 30, 3) := by decide +kernel
theorem dX1_tally_51 : decode cX1_tally 51 = .ok (.iload_n 2, 1) := by decide +kernel
theorem dX1_tally_52 : decode cX1_tally 52 = .ok (.iload_n 3, 1) := by decide +kernel
theorem dX1_tally_53 : decode cX1_tally 53 = .ok (.ior, 1) := by decide +kernel
theorem dX1_tally_54 : decode cX1_tally 54 = .ok (.aload_n 0, 1) := by decide +kernel
theorem dX1_tally_55 : decode cX1_tally 55 = .ok (.getfield 30, 3) := by decide +kernel
theorem dX1_tally_58 : decode cX1_tally 58 = .ok (.iload_n 3, 1) := by decide +kernel
theorem dX1_tally_59 : decode cX1_tally 59 = .ok (.baload, 1) := by decide +kernel
theorem dX1_tally_60 : decode cX1_tally 60 = .ok (.ifCond .ne 14, 3) := by decide +kernel
theorem dX1_tally_63 : decode cX1_tally 63 = .ok (.aload_n 0, 1) := by decide +kernel
theorem dX1_tally_64 : decode cX1_tally 64 = .ok (.getfield 21, 3) := by decide +kernel
theorem dX1_tally_67 : decode cX1_tally 67 = .ok (.iload_n 1, 1) := by decide +kernel
theorem dX1_tally_68 : decode cX1_tally 68 = .ok (.iaload, 1) := by decide +kernel
theorem dX1_tally_69 : decode cX1_tally 69 = .ok (.iload_n 3, 1) := by decide +kernel
theorem dX1_tally_70 : decode cX1_tally 70 = .ok (.iand, 1) := by decide +kernel
theorem dX1_tally_71 : decode cX1_tally 71 = .ok (.ifCond .eq 7, 3) := by decide +kernel
theorem dX1_tally_74 : decode cX1_tally 74 = .ok (.iconst 1, 1) := by decide +kernel
theorem dX1_tally_75 : decode cX1_tally 75 = .ok (.goto 4, 3) := by decide +kernel
theorem dX1_tally_78 : decode cX1_tally 78 = .ok (.iconst 0, 1) := by decide +kernel
theorem dX1_tally_79 : decode cX1_tally 79 = .ok (.bastore, 1) := by decide +kernel
theorem dX1_tally_80 : decode cX1_tally 80 = .ok (.iinc 3 1, 3) := by decide +kernel
theorem dX1_tally_83 : decode cX1_tally 83 = .ok (.goto (-62), 3) := by decide +kernel
theorem dX1_tally_86 : decode cX1_tally 86 = .ok (.iinc 1 1, 3) := by decide +kernel
theorem dX1_tally_89 : decode cX1_tally 89 = .ok (.goto (-82), 3) := by decide +kernel
theorem dX1_tally_92 : decode cX1_tally 92 = .ok (.return_, 1) := by decide +kernel
set_option maxRecDepth 20000 in
theorem ggX1_findLatest_J7_fill_53178 : GoodIn wsX1_findLatest wsJ7_fill_53178 := goodIn_r _ [8] (by decide +kernel) (by decide +kernel)
set_option maxRecDepth 20000 in
theorem gX1_findLatest_J7_fill_53178 : GoodIn wsX1_findLatest (va_wsS RX1 96 yJ7_fill_53178 wsJ7_fill_53178) := goodIn_app (goodIn_of _ (by decide +kernel)) ggX1_findLatest_J7_fill_53178
set_option maxRecDepth 20000 in
theorem ggX1_findLatest_X1_has : GoodIn wsX1_findLatest wsX1_has := goodIn_r _ [12] (by decide +kernel) (by decide +kernel)
set_option maxRecDepth 20000 in
theorem gX1_findLatest_X1_has : GoodIn wsX1_findLatest (va_wsS RX1 57 yX1_has wsX1_has) := goodIn_app (goodIn_of _ (by decide +kernel)) ggX1_findLatest_X1_has
set_option maxRecDepth 20000 in
theorem ggX1_findLatest_X1_findWith : GoodIn wsX1_findLatest wsX1_findWith := goodIn_r _ [16, 17, 2, 18, 19, 20, 21, 22, 11, 23, 4, 24, 25, 26, 27, 28, 29, 30, 31, 32, 33, 34, 35, 36, 37] (by decide +kernel) (by decide +kernel)
set_option maxRecDepth 20000 in
theorem gX1_findLatest_X1_findWith : GoodIn wsX1_findLatest (wsV RX1 102 RX1 yX1_findWith wsX1_findWith) := goodIn_app (goodIn_of _ (by decide +kernel)) ggX1_findLatest_X1_findWith
theorem dX1_findLatest_0 : decode cX1_findLatest 0 = .ok (.aload_n 0, 1) := by decide +kernel
theorem dX1_findLatest_1 : decode cX1_findLatest 1 = .ok (.getfield 40, 3) := by decide +kernel
theorem dX1_findLatest_4 : decode cX1_findLatest 4 = .ok (.iload_n 1, 1) := by decide +kernel
theorem dX1_findLatest_5 : decode cX1_findLatest 5 = .ok (.if_icmp .ne 4, 3) := by decide +kernel
theorem dX1_findLatest_8 : decode cX1_findLatest 8 = .ok (.return_, 1) := by decide +kernel
theorem dX1_findLatest_9 : decode cX1_findLatest 9 = .ok (.aload_n 0, 1) := by decide +kernel
theorem dX1_findLatest_10 : decode cX1_findLatest 10 = .ok (.iload_n 1, 1) := by decide +kernel
theorem dX1_findLatest_11 : decode cX1_findLatest 11 = .ok (.putfield 40, 3) := by decide +kernel
theorem dX1_findLatest_14 : decode cX1_findLatest 14 = .ok (.aload_n 0, 1) := by decide +kernel
theorem dX1_findLatest_15 : decode cX1_findLatest 15 = .ok (.getfield 37, 3) := by decide +kernel
theorem dX1_findLatest_18 : decode cX1_findLatest 18 = .ok (.iconst (-1), 1) := by decide +kernel
theorem dX1_findLatest_19 : decode cX1_findLatest 19 = .ok (.invokestatic 96, 3) := by decide +kernel
theorem dX1_findLatest_22 : decode cX1_findLatest 22 = .ok (.aload_n 0, 1) := by decide +kernel
theorem dX1_findLatest_23 : decode cX1_findLatest 23 = .ok (.getfield 37, 3) := by decide +kernel
theorem dX1_findLatest_26 : decode cX1_findLatest 26 = .ok (.iconst 0, 1) := by decide +kernel
theorem dX1_findLatest_27 : decode cX1_findLatest 27 = .ok (.bipush 12, 2) := by decide +kernel
theorem dX1_findLatest_29 : decode cX1_findLatest 29 = .ok (.iastore, 1) := by decide +kernel
theorem dX1_findLatest_30 : decode cX1_findLatest 30 = .ok (.iconst 0, 1) := by decide +kernel
theorem dX1_findLatest_31 : decode cX1_findLatest 31 = .ok (.istore_n 2, 1) := by decide +kernel
theorem dX1_findLatest_32 : decode cX1_findLatest 32 = .ok (.aload_n 0, 1) := by decide +kernel
theorem dX1_findLatest_33 : decode cX1_findLatest 33 = .ok (.getfield 48, 3) := by decide +kernel
theorem dX1_findLatest_36 : decode cX1_findLatest 36 = .ok (.iconst 1, 1) := by decide +kernel
theorem dX1_findLatest_37 : decode cX1_findLatest 37 = .ok (.isub, 1) := by decide +kernel
theorem dX1_findLatest_38 : decode cX1_findLatest 38 = .ok (.istore_n 3, 1) := by decide +kernel
theorem dX1_findLatest_39 : decode cX1_findLatest 39 = .ok (.iload_n 3, 1) := by decide +kernel
theorem dX1_findLatest_40 : decode cX1_findLatest 40 = .ok (.ifCond .lt 32, 3) := by decide +kernel
theorem dX1_findLatest_43 : decode cX1_findLatest 43 = .ok (.iload_n 1, 1) := by decide +kernel
theorem dX1_findLatest_44 : decode cX1_findLatest 44 = .ok (.iload_n 3, 1) := by decide +kernel
theorem dX1_findLatest_45 : decode cX1_findLatest 45 = .ok (.invokestatic 57, 3) := by decide +kernel
theorem dX1_findLatest_48 : decode cX1_findLatest 48 = .ok (.ifCond .eq 18, 3) := by decide +kernel
theorem dX1_findLatest_51 : decode cX1_findLatest 51 = .ok (.iload_n 2, 1) := by decide +kernel
theorem dX1_findLatest_52 : decode cX1_findLatest 52 = .ok (.aload_n 0, 1) := by decide +kernel
theorem dX1_findLatest_53 : decode cX1_findLatest 53 = .ok (.getfield 11, 3) := by decide +kernel
theorem dX1_findLatest_56 : decode cX1_findLatest 56 = .ok (.iload_n 3, 1) := by decide +kernel
theorem dX1_findLatest_57 : decode cX1_findLatest 57 = .ok (.iaload, 1) := by decide +kernel
theorem dX1_findLatest_58 : decode cX1_findLatest 58 = .ok (.iadd, 1) := by decide +kernel
theorem dX1_findLatest_59 : decode cX1_findLatest 59 = .ok (.istore_n 2, 1) := by decide +kernel
theorem dX1_findLatest_60 : decode cX1_findLatest 60 = .ok (.aload_n 0, 1) := by decide +kernel
theorem dX1_findLatest_61 : decode cX1_findLatest 61 = .ok (.iload_n 3, 1) := by decide +kernel
theorem dX1_findLatest_62 : decode cX1_findLatest 62 = .ok (.iload_n 2, 1) := by decide +kernel
theorem dX1_findLatest_63 : decode cX1_findLatest 63 = .ok (.invokevirtual 102, 3) := by decide +kernel
theorem dX1_findLatest_66 : decode cX1_findLatest 66 = .ok (.iinc 3 (-1), 3) := by decide +kernel
theorem dX1_findLatest_69 : decode cX1_findLatest 69 = .ok (.goto (-30), 3) := by decide +kernel
theorem dX1_findLatest_72 : decode cX1_findLatest 72 = .ok (.return_, 1) := by decide +kernel
set_option maxRecDepth 20000 in
theorem ggX1_findWith_X1_greatestOn : GoodIn wsX1_findWith wsX1_greatestOn := goodIn_r _ [9, 4, 10, 11, 2, 12, 13, 14, 15, 16, 17, 18, 19, 20, 21, 22, 23, 24] (by decide +kernel) (by decide +kernel)
set_option maxRecDepth 20000 in
theorem gX1_findWith_X1_greatestOn : GoodIn wsX1_findWith (wsV RX1 71 RX1 yX1_greatestOn wsX1_greatestOn) := goodIn_app (goodIn_of _ (by decide +kernel)) ggX1_findWith_X1_greatestOn
theorem dX1_findWith_0 : decode cX1_findWith 0 = .ok (.iconst 1, 1) := by decide +kernel
theorem dX1_findWith_1 : decode cX1_findWith 1 = .ok (.istore_n 3, 1) := by decide +kernel
theorem dX1_findWith_2 : decode cX1_findWith 2 = .ok (.iload_n 3, 1) := by decide +kernel
theorem dX1_findWith_3 : decode cX1_findWith 3 = .ok (.iconst 1, 1) := by decide +kernel
theorem dX1_findWith_4 : decode cX1_findWith 4 = .ok (.aload_n 0, 1) := by decide +kernel
theorem dX1_findWith_5 : decode cX1_findWith 5 = .ok (.getfield 51, 3) := by decide +kernel
theorem dX1_findWith_8 : decode cX1_findWith 8 = .ok (.ishl, 1) := by decide +kernel
theorem dX1_findWith_9 : decode cX1_findWith 9 = .ok (.if_icmp .ge 54, 3) := by decide +kernel
theorem dX1_findWith_12 : decode cX1_findWith 12 = .ok (.aload_n 0, 1) := by decide +kernel
theorem dX1_findWith_13 : decode cX1_findWith 13 = .ok (.getfield 37, 3) := by decide +kernel
theorem dX1_findWith_16 : decode cX1_findWith 16 = .ok (.iload_n 3, 1) := by decide +kernel
theorem dX1_findWith_17 : decode cX1_findWith 17 = .ok (.iaload, 1) := by decide +kernel
theorem dX1_findWith_18 : decode cX1_findWith 18 = .ok (.iconst (-1), 1) := by decide +kernel
theorem dX1_findWith_19 : decode cX1_findWith 19 = .ok (.if_icmp .ne 38, 3) := by decide +kernel
theorem dX1_findWith_22 : decode cX1_findWith 22 = .ok (.aload_n 0, 1) := by decide +kernel
theorem dX1_findWith_23 : decode cX1_findWith 23 = .ok (.getfield 34, 3) := by decide +kernel
theorem dX1_findWith_26 : decode cX1_findWith 26 = .ok (.iload_n 3, 1) := by decide +kernel
theorem dX1_findWith_27 : decode cX1_findWith 27 = .ok (.baload, 1) := by decide +kernel
theorem dX1_findWith_28 : decode cX1_findWith 28 = .ok (.ifCond .eq 29, 3) := by decide +kernel
theorem dX1_findWith_31 : decode cX1_findWith 31 = .ok (.aload_n 0, 1) := by decide +kernel
theorem dX1_findWith_32 : decode cX1_findWith 32 = .ok (.getfield 27, 3) := by decide +kernel
theorem dX1_findWith_35 : decode cX1_findWith 35 = .ok (.iload_n 3, 1) := by decide +kernel
theorem dX1_findWith_36 : decode cX1_findWith 36 = .ok (.iaload, 1) := by decide +kernel
theorem dX1_findWith_37 : decode cX1_findWith 37 = .ok (.iload_n 2, 1) := by decide +kernel
theorem dX1_findWith_38 : decode cX1_findWith 38 = .ok (.if_icmp .gt 19, 3) := by decide +kernel
theorem dX1_findWith_41 : decode cX1_findWith 41 = .ok (.aload_n 0, 1) := by decide +kernel
theorem dX1_findWith_42 : decode cX1_findWith 42 = .ok (.iload_n 1, 1) := by decide +kernel
theorem dX1_findWith_43 : decode cX1_findWith 43 = .ok (.iload_n 3, 1) := by decide +kernel
theorem dX1_findWith_44 : decode cX1_findWith 44 = .ok (.invokevirtual 71, 3) := by decide +kernel
theorem dX1_findWith_47 : decode cX1_findWith 47 = .ok (.ifCond .le 10, 3) := by decide +kernel
theorem dX1_findWith_50 : decode cX1_findWith 50 = .ok (.aload_n 0, 1) := by decide +kernel
theorem dX1_findWith_51 : decode cX1_findWith 51 = .ok (.getfield 37, 3) := by decide +kernel
theorem dX1_findWith_54 : decode cX1_findWith 54 = .ok (.iload_n 3, 1) := by decide +kernel
theorem dX1_findWith_55 : decode cX1_findWith 55 = .ok (.iload_n 1, 1) := by decide +kernel
theorem dX1_findWith_56 : decode cX1_findWith 56 = .ok (.iastore, 1) := by decide +kernel
theorem dX1_findWith_57 : decode cX1_findWith 57 = .ok (.iinc 3 1, 3) := by decide +kernel
theorem dX1_findWith_60 : decode cX1_findWith 60 = .ok (.goto (-58), 3) := by decide +kernel
theorem dX1_findWith_63 : decode cX1_findWith 63 = .ok (.return_, 1) := by decide +kernel
theorem dX1_greatestOn_0 : decode cX1_greatestOn 0 = .ok (.iload_n 2, 1) := by decide +kernel
theorem dX1_greatestOn_1 : decode cX1_greatestOn 1 = .ok (.istore_n 3, 1) := by decide +kernel
theorem dX1_greatestOn_2 : decode cX1_greatestOn 2 = .ok (.iload_n 3, 1) := by decide +kernel
theorem dX1_greatestOn_3 : decode cX1_greatestOn 3 = .ok (.ifCond .le 50, 3) := by decide +kernel
theorem dX1_greatestOn_6 : decode cX1_greatestOn 6 = .ok (.aload_n 0, 1) := by decide +kernel
theorem dX1_greatestOn_7 : decode cX1_greatestOn 7 = .ok (.getfield 27, 3) := by decide +kernel
theorem dX1_greatestOn_10 : decode cX1_greatestOn 10 = .ok (.iload_n 3, 1) := by decide +kernel
theorem dX1_greatestOn_11 : decode cX1_greatestOn 11 = .ok (.iaload, 1) := by decide +kernel
theorem dX1_greatestOn_12 : decode cX1_greatestOn 12 = .ok (.aload_n 0, 1) := by decide +kernel
theorem dX1_greatestOn_13 : decode cX1_greatestOn 13 = .ok (.getfield 11, 3) := by decide +kernel
theorem dX1_greatestOn_16 : decode cX1_greatestOn 16 = .ok (.iload_n 1, 1) := by decide +kernel
theorem dX1_greatestOn_17 : decode cX1_greatestOn 17 = .ok (.iaload, 1) := by decide +kernel
theorem dX1_greatestOn_18 : decode cX1_greatestOn 18 = .ok (.if_icmp .gt 26, 3) := by decide +kernel
theorem dX1_greatestOn_21 : decode cX1_greatestOn 21 = .ok (.aload_n 0, 1) := by decide +kernel
theorem dX1_greatestOn_22 : decode cX1_greatestOn 22 = .ok (.getfield 30, 3) := by decide +kernel
theorem dX1_greatestOn_25 : decode cX1_greatestOn 25 = .ok (.iload_n 3, 1) := by decide +kernel
theorem dX1_greatestOn_26 : decode cX1_greatestOn 26 = .ok (.baload, 1) := by decide +kernel
theorem dX1_greatestOn_27 : decode cX1_greatestOn 27 = .ok (.ifCond .ne 17, 3) := by decide +kernel
theorem dX1_greatestOn_30 : decode cX1_greatestOn 30 = .ok (.aload_n 0, 1) := by decide +kernel
theorem dX1_greatestOn_31 : decode cX1_greatestOn 31 = .ok (.getfield 37, 3) := by decide +kernel
theorem dX1_greatestOn_34 : decode cX1_greatestOn 34 = .ok (.iload_n 2, 1) := by decide +kernel
theorem dX1_greatestOn_35 : decode cX1_greatestOn 35 = .ok (.iload_n 3, 1) := by decide +kernel
theorem dX1_greatestOn_36 : decode cX1_greatestOn 36 = .ok (.ixor, 1) := by decide +kernel
theorem dX1_greatestOn_37 : decode cX1_greatestOn 37 = .ok (.iaload, 1) := by decide +kernel
theorem dX1_greatestOn_38 : decode cX1_greatestOn 38 = .ok (.iload_n 1, 1) := by decide +kernel
theorem dX1_greatestOn_39 : decode cX1_greatestOn 39 = .ok (.if_icmp .le 5, 3) := by decide +kernel
theorem dX1_greatestOn_42 : decode cX1_greatestOn 42 = .ok (.iload_n 3, 1) := by decide +kernel
theorem dX1_greatestOn_43 : decode cX1_greatestOn 43 = .ok (.ireturn, 1) := by decide +kernel
theorem dX1_greatestOn_44 : decode cX1_greatestOn 44 = .ok (.iload_n 3, 1) := by decide +kernel
theorem dX1_greatestOn_45 : decode cX1_greatestOn 45 = .ok (.iconst 1, 1) := by decide +kernel
theorem dX1_greatestOn_46 : decode cX1_greatestOn 46 = .ok (.isub, 1) := by decide +kernel
theorem dX1_greatestOn_47 : decode cX1_greatestOn 47 = .ok (.iload_n 2, 1) := by decide +kernel
theorem dX1_greatestOn_48 : decode cX1_greatestOn 48 = .ok (.iand, 1) := by decide +kernel
theorem dX1_greatestOn_49 : decode cX1_greatestOn 49 = .ok (.istore_n 3, 1) := by decide +kernel
theorem dX1_greatestOn_50 : decode cX1_greatestOn 50 = .ok (.goto (-48), 3) := by decide +kernel
theorem dX1_greatestOn_53 : decode cX1_greatestOn 53 = .ok (.iconst 0, 1) := by decide +kernel
theorem dX1_greatestOn_54 : decode cX1_greatestOn 54 = .ok (.ireturn, 1) := by decide +kernel
theorem dX1_has_0 : decode cX1_has 0 = .ok (.iload_n 0, 1) := by decide +kernel
theorem dX1_has_1 : decode cX1_has 1 = .ok (.iload_n 1, 1) := by decide +kernel
theorem dX1_has_2 : decode cX1_has 2 = .ok (.ishr, 1) := by decide +kernel
theorem dX1_has_3 : decode cX1_has 3 = .ok (.iconst 1, 1) := by decide +kernel
theorem dX1_has_4 : decode cX1_has 4 = .ok (.iand, 1) := by decide +kernel
theorem dX1_has_5 : decode cX1_has 5 = .ok (.ifCond .eq 7, 3) := by decide +kernel
theorem dX1_has_8 : decode cX1_has 8 = .ok (.iconst 1, 1) := by decide +kernel
theorem dX1_has_9 : decode cX1_has 9 = .ok (.goto 4, 3) := by decide +kernel
theorem dX1_has_12 : decode cX1_has 12 = .ok (.iconst 0, 1) := by decide +kernel
theorem dX1_has_13 : decode cX1_has 13 = .ok (.ireturn, 1) := by decide +kernel
theorem dX2_init_0 : decode cX2_init 0 = .ok (.aload_n 0, 1) := by decide +kernel
theorem dX2_init_1 : decode cX2_init 1 = .ok (.invokespecial 5, 3) := by decide +kernel
theorem dX2_init_4 : decode cX2_init 4 = .ok (.aload_n 0, 1) := by decide +kernel
theorem dX2_init_5 : decode cX2_init 5 = .ok (.bipush 12, 2) := by decide +kernel
theorem dX2_init_7 : decode cX2_init 7 = .ok (.iconst 4, 1) := by decide +kernel
theorem dX2_init_8 : decode cX2_init 8 = .ok (.multianewarray 11 2, 4) := by decide +kernel
theorem dX2_init_12 : decode cX2_init 12 = .ok (.putfield 13, 3) := by decide +kernel
theorem dX2_init_15 : decode cX2_init 15 = .ok (.aload_n 0, 1) := by decide +kernel
theorem dX2_init_16 : decode cX2_init 16 = .ok (.bipush 12, 2) := by decide +kernel
theorem dX2_init_18 : decode cX2_init 18 = .ok (.newarray .int, 2) := by decide +kernel
theorem dX2_init_20 : decode cX2_init 20 = .ok (.putfield 16, 3) := by decide +kernel
theorem dX2_init_23 : decode cX2_init 23 = .ok (.aload_n 0, 1) := by decide +kernel
theorem dX2_init_24 : decode cX2_init 24 = .ok (.iconst 4, 1) := by decide +kernel
theorem dX2_init_25 : decode cX2_init 25 = .ok (.newarray .int, 2) := by decide +kernel
theorem dX2_init_27 : decode cX2_init 27 = .ok (.putfield 20, 3) := by decide +kernel
theorem dX2_init_30 : decode cX2_init 30 = .ok (.aload_n 0, 1) := by decide +kernel
theorem dX2_init_31 : decode cX2_init 31 = .ok (.iconst 4, 1) := by decide +kernel
theorem dX2_init_32 : decode cX2_init 32 = .ok (.newarray .int, 2) := by decide +kernel
theorem dX2_init_34 : decode cX2_init 34 = .ok (.putfield 23, 3) := by decide +kernel
theorem dX2_init_37 : decode cX2_init 37 = .ok (.aload_n 0, 1) := by decide +kernel
theorem dX2_init_38 : decode cX2_init 38 = .ok (.iconst 4, 1) := by decide +kernel
theorem dX2_init_39 : decode cX2_init 39 = .ok (.newarray .int, 2) := by decide +kernel
theorem dX2_init_41 : decode cX2_init 41 = .ok (.putfield 26, 3) := by decide +kernel
theorem dX2_init_44 : decode cX2_init 44 = .ok (.aload_n 0, 1) := by decide +kernel
theorem dX2_init_45 : decode cX2_init 45 = .ok (.iconst 4, 1) := by decide +kernel
theorem dX2_init_46 : decode cX2_init 46 = .ok (.bipush 12, 2) := by decide +kernel
theorem dX2_init_48 : decode cX2_init 48 = .ok (.multianewarray 11 2, 4) := by decide +kernel
theorem dX2_init_52 : decode cX2_init 52 = .ok (.putfield 29, 3) := by decide +kernel
theorem dX2_init_55 : decode cX2_init 55 = .ok (.aload_n 0, 1) := by decide +kernel
theorem dX2_init_56 : decode cX2_init 56 = .ok (.sipush 501, 3) := by decide +kernel
theorem dX2_init_59 : decode cX2_init 59 = .ok (.newarray .int, 2) := by decide +kernel
theorem dX2_init_61 : decode cX2_init 61 = .ok (.putfield 32, 3) := by decide +kernel
theorem dX2_init_64 : decode cX2_init 64 = .ok (.aload_n 0, 1) := by decide +kernel
theorem dX2_init_65 : decode cX2_init 65 = .ok (.sipush 384, 3) := by decide +kernel
theorem dX2_init_68 : decode cX2_init 68 = .ok (.newarray .long, 2) := by decide +kernel
theorem dX2_init_70 : decode cX2_init 70 = .ok (.putfield 35, 3) := by decide +kernel
theorem dX2_init_73 : decode cX2_init 73 = .ok (.return_, 1) := by decide +kernel
set_option maxRecDepth 20000 in
theorem ggX2_hasType_X6_within : GoodIn wsX2_hasType wsX6_within := goodIn_r _ [4] (by decide +kernel) (by decide +kernel)
set_option maxRecDepth 20000 in
theorem gX2_hasType_X6_within_n43 : GoodIn wsX2_hasType (wsX6_within) := ggX2_hasType_X6_within
theorem dX2_hasType_0 : decode cX2_hasType 0 = .ok (.iload_n 1, 1) := by decide +kernel
theorem dX2_hasType_1 : decode cX2_hasType 1 = .ok (.i2l, 1) := by decide +kernel
theorem dX2_hasType_2 : decode cX2_hasType 2 = .ok (.iconst 0, 1) := by decide +kernel
theorem dX2_hasType_3 : decode cX2_hasType 3 = .ok (.aload_n 0, 1) := by decide +kernel
theorem dX2_hasType_4 : decode cX2_hasType 4 = .ok (.getfield 39, 3) := by decide +kernel
theorem dX2_hasType_7 : decode cX2_hasType 7 = .ok (.iconst 1, 1) := by decide +kernel
theorem dX2_hasType_8 : decode cX2_hasType 8 = .ok (.isub, 1) := by decide +kernel
theorem dX2_hasType_9 : decode cX2_hasType 9 = .ok (.invokestatic 43, 3) := by decide +kernel
theorem dX2_hasType_12 : decode cX2_hasType 12 = .ok (.ireturn, 1) := by decide +kernel
theorem dX2_isEnough_0 : decode cX2_isEnough 0 = .ok (.aload_n 0, 1) := by decide +kernel
theorem dX2_isEnough_1 : decode cX2_isEnough 1 = .ok (.getfield 47, 3) := by decide +kernel
theorem dX2_isEnough_4 : decode cX2_isEnough 4 = .ok (.ldc 50, 2) := by decide +kernel
theorem dX2_isEnough_6 : decode cX2_isEnough 6 = .ok (.if_icmp .ge 7, 3) := by decide +kernel
theorem dX2_isEnough_9 : decode cX2_isEnough 9 = .ok (.iconst 1, 1) := by decide +kernel
theorem dX2_isEnough_10 : decode cX2_isEnough 10 = .ok (.goto 4, 3) := by decide +kernel
theorem dX2_isEnough_13 : decode cX2_isEnough 13 = .ok (.iconst 0, 1) := by decide +kernel
theorem dX2_isEnough_14 : decode cX2_isEnough 14 = .ok (.ireturn, 1) := by decide +kernel
set_option maxRecDepth 20000 in
theorem ggX2_want_X4_at : GoodIn wsX2_want wsX4_at := goodIn_r _ [7, 8, 21, 22, 23] (by decide +kernel) (by decide +kernel)
set_option maxRecDepth 20000 in
theorem gX2_want_X4_at : GoodIn wsX2_want (wsV RX2 51 RX4 yX4_at wsX4_at) := goodIn_app (goodIn_of _ (by decide +kernel)) ggX2_want_X4_at
theorem dX2_want_0 : decode cX2_want 0 = .ok (.iconst 0, 1) := by decide +kernel
theorem dX2_want_1 : decode cX2_want 1 = .ok (.istore_n 3, 1) := by decide +kernel
theorem dX2_want_2 : decode cX2_want 2 = .ok (.iload_n 3, 1) := by decide +kernel
theorem dX2_want_3 : decode cX2_want 3 = .ok (.bipush 12, 2) := by decide +kernel
theorem dX2_want_5 : decode cX2_want 5 = .ok (.if_icmp .ge 22, 3) := by decide +kernel
theorem dX2_want_8 : decode cX2_want 8 = .ok (.aload_n 0, 1) := by decide +kernel
theorem dX2_want_9 : decode cX2_want 9 = .ok (.getfield 16, 3) := by decide +kernel
theorem dX2_want_12 : decode cX2_want 12 = .ok (.iload_n 3, 1) := by decide +kernel
theorem dX2_want_13 : decode cX2_want 13 = .ok (.aload_n 1, 1) := by decide +kernel
theorem dX2_want_14 : decode cX2_want 14 = .ok (.iload_n 2, 1) := by decide +kernel
theorem dX2_want_15 : decode cX2_want 15 = .ok (.iload_n 3, 1) := by decide +kernel
theorem dX2_want_16 : decode cX2_want 16 = .ok (.invokevirtual 51, 3) := by decide +kernel
theorem dX2_want_19 : decode cX2_want 19 = .ok (.l2i, 1) := by decide +kernel
theorem dX2_want_20 : decode cX2_want 20 = .ok (.iastore, 1) := by decide +kernel
theorem dX2_want_21 : decode cX2_want 21 = .ok (.iinc 3 1, 3) := by decide +kernel
theorem dX2_want_24 : decode cX2_want 24 = .ok (.goto (-22), 3) := by decide +kernel
theorem dX2_want_27 : decode cX2_want 27 = .ok (.aload_n 0, 1) := by decide +kernel
theorem dX2_want_28 : decode cX2_want 28 = .ok (.iconst 0, 1) := by decide +kernel
theorem dX2_want_29 : decode cX2_want 29 = .ok (.putfield 57, 3) := by decide +kernel
theorem dX2_want_32 : decode cX2_want 32 = .ok (.return_, 1) := by decide +kernel
theorem dX2_own_0 : decode cX2_own 0 = .ok (.aload_n 0, 1) := by decide +kernel
theorem dX2_own_1 : decode cX2_own 1 = .ok (.iload_n 1, 1) := by decide +kernel
theorem dX2_own_2 : decode cX2_own 2 = .ok (.putfield 61, 3) := by decide +kernel
theorem dX2_own_5 : decode cX2_own 5 = .ok (.aload_n 0, 1) := by decide +kernel
theorem dX2_own_6 : decode cX2_own 6 = .ok (.iconst 0, 1) := by decide +kernel
theorem dX2_own_7 : decode cX2_own 7 = .ok (.putfield 57, 3) := by decide +kernel
theorem dX2_own_10 : decode cX2_own 10 = .ok (.return_, 1) := by decide +kernel
set_option maxRecDepth 20000 in
theorem ggX2_addType_X4_at : GoodIn wsX2_addType wsX4_at := goodIn_r _ [11, 12, 25, 26, 27] (by decide +kernel) (by decide +kernel)
set_option maxRecDepth 20000 in
theorem gX2_addType_X4_at : GoodIn wsX2_addType (wsV RX2 51 RX4 yX4_at wsX4_at) := goodIn_app (goodIn_of _ (by decide +kernel)) ggX2_addType_X4_at
theorem dX2_addType_0 : decode cX2_addType 0 = .ok (.aload_n 0, 1) := by decide +kernel
theorem dX2_addType_1 : decode cX2_addType 1 = .ok (.dup, 1) := by decide +kernel
theorem dX2_addType_2 : decode cX2_addType 2 = .ok (.getfield 39, 3) := by decide +kernel
theorem dX2_addType_5 : decode cX2_addType 5 = .ok (.dup_x1, 1) := by decide +kernel
theorem dX2_addType_6 : decode cX2_addType 6 = .ok (.iconst 1, 1) := by decide +kernel
theorem dX2_addType_7 : decode cX2_addType 7 = .ok (.iadd, 1) := by decide +kernel
theorem dX2_addType_8 : decode cX2_addType 8 = .ok (.putfield 39, 3) := by decide +kernel
theorem dX2_addType_11 : decode cX2_addType 11 = .ok (.istore 6, 2) := by decide +kernel
theorem dX2_addType_13 : decode cX2_addType 13 = .ok (.aload_n 0, 1) := by decide +kernel
theorem dX2_addType_14 : decode cX2_addType 14 = .ok (.getfield 20, 3) := by decide +kernel
theorem dX2_addType_17 : decode cX2_addType 17 = .ok (.iload 6, 2) := by decide +kernel
theorem dX2_addType_19 : decode cX2_addType 19 = .ok (.iload_n 1, 1) := by decide +kernel
theorem dX2_addType_20 : decode cX2_addType 20 = .ok (.iastore, 1) := by decide +kernel
theorem dX2_addType_21 : decode cX2_addType 21 = .ok (.aload_n 0, 1) := by decide +kernel
theorem dX2_addType_22 : decode cX2_addType 22 = .ok (.getfield 23, 3) := by decide +kernel
theorem dX2_addType_25 : decode cX2_addType 25 = .ok (.iload 6, 2) := by decide +kernel
theorem dX2_addType_27 : decode cX2_addType 27 = .ok (.iload_n 2, 1) := by decide +kernel
theorem dX2_addType_28 : decode cX2_addType 28 = .ok (.iastore, 1) := by decide +kernel
theorem dX2_addType_29 : decode cX2_addType 29 = .ok (.aload_n 0, 1) := by decide +kernel
theorem dX2_addType_30 : decode cX2_addType 30 = .ok (.getfield 26, 3) := by decide +kernel
theorem dX2_addType_33 : decode cX2_addType 33 = .ok (.iload 6, 2) := by decide +kernel
theorem dX2_addType_35 : decode cX2_addType 35 = .ok (.iload_n 3, 1) := by decide +kernel
theorem dX2_addType_36 : decode cX2_addType 36 = .ok (.iastore, 1) := by decide +kernel
theorem dX2_addType_37 : decode cX2_addType 37 = .ok (.iconst 0, 1) := by decide +kernel
theorem dX2_addType_38 : decode cX2_addType 38 = .ok (.istore 7, 2) := by decide +kernel
theorem dX2_addType_40 : decode cX2_addType 40 = .ok (.iload 7, 2) := by decide +kernel
theorem dX2_addType_42 : decode cX2_addType 42 = .ok (.bipush 12, 2) := by decide +kernel
theorem dX2_addType_44 : decode cX2_addType 44 = .ok (.if_icmp .ge 29, 3) := by decide +kernel
theorem dX2_addType_47 : decode cX2_addType 47 = .ok (.aload_n 0, 1) := by decide +kernel
theorem dX2_addType_48 : decode cX2_addType 48 = .ok (.getfield 29, 3) := by decide +kernel
theorem dX2_addType_51 : decode cX2_addType 51 = .ok (.iload 6, 2) := by decide +kernel
theorem dX2_addType_53 : decode cX2_addType 53 = .ok (.aaload, 1) := by decide +kernel
theorem dX2_addType_54 : decode cX2_addType 54 = .ok (.iload 7, 2) := by decide +kernel
theorem dX2_addType_56 : decode cX2_addType 56 = .ok (.aload 4, 2) := by decide +kernel
theorem dX2_addType_58 : decode cX2_addType 58 = .ok (.iload 5, 2) := by decide +kernel
theorem dX2_addType_60 : decode cX2_addType 60 = .ok (.iload 7, 2) := by decide +kernel
theorem dX2_addType_62 : decode cX2_addType 62 = .ok (.invokevirtual 51, 3) := by decide +kernel
theorem dX2_addType_65 : decode cX2_addType 65 = .ok (.l2i, 1) := by decide +kernel
theorem dX2_addType_66 : decode cX2_addType 66 = .ok (.iastore, 1) := by decide +kernel
theorem dX2_addType_67 : decode cX2_addType 67 = .ok (.iinc 7 1, 3) := by decide +kernel
theorem dX2_addType_70 : decode cX2_addType 70 = .ok (.goto (-30), 3) := by decide +kernel
theorem dX2_addType_73 : decode cX2_addType 73 = .ok (.aload_n 0, 1) := by decide +kernel
theorem dX2_addType_74 : decode cX2_addType 74 = .ok (.iconst 0, 1) := by decide +kernel
theorem dX2_addType_75 : decode cX2_addType 75 = .ok (.putfield 57, 3) := by decide +kernel
theorem dX2_addType_78 : decode cX2_addType 78 = .ok (.iload 6, 2) := by decide +kernel
theorem dX2_addType_80 : decode cX2_addType 80 = .ok (.ireturn, 1) := by decide +kernel
set_option maxRecDepth 20000 in
theorem ggX2_solve_J7_fill_53178 : GoodIn wsX2_solve wsJ7_fill_53178 := goodIn_r _ [13] (by decide +kernel) (by decide +kernel)
set_option maxRecDepth 20000 in
theorem gX2_solve_J7_fill_53178 : GoodIn wsX2_solve (va_wsS RX2 64 yJ7_fill_53178 wsJ7_fill_53178) := goodIn_app (goodIn_of _ (by decide +kernel)) ggX2_solve_J7_fill_53178
set_option maxRecDepth 20000 in
theorem ggX2_solve_J7_fill_d0a16 : GoodIn wsX2_solve wsJ7_fill_d0a16 := goodIn_r _ [16] (by decide +kernel) (by decide +kernel)
set_option maxRecDepth 20000 in
theorem gX2_solve_J7_fill_d0a16 : GoodIn wsX2_solve (va_wsS RX2 70 yJ7_fill_d0a16 wsJ7_fill_d0a16) := goodIn_app (goodIn_of _ (by decide +kernel)) ggX2_solve_J7_fill_d0a16
set_option maxRecDepth 20000 in
theorem ggX2_solve_J7_fill_fda19 : GoodIn wsX2_solve wsJ7_fill_fda19 := goodIn_r _ [19, 20, 21, 12, 22] (by decide +kernel) (by decide +kernel)
set_option maxRecDepth 20000 in
theorem gX2_solve_J7_fill_fda19 : GoodIn wsX2_solve (va_wsS RX2 73 yJ7_fill_fda19 wsJ7_fill_fda19) := goodIn_app (goodIn_of _ (by decide +kernel)) ggX2_solve_J7_fill_fda19
set_option maxRecDepth 20000 in
theorem ggX2_solve_X2_offer : GoodIn wsX2_solve wsX2_offer := goodIn_r _ [27, 28, 7, 29, 2, 30, 31, 32, 33, 34, 3, 35, 36, 26, 37, 51, 52, 53, 54, 55, 56, 57, 58, 59, 60, 61, 62] (by decide +kernel) (by decide +kernel)
set_option maxRecDepth 20000 in
theorem gX2_solve_X2_offer : GoodIn wsX2_solve (wsV RX2 76 RX2 yX2_offer wsX2_offer) := goodIn_app (goodIn_of _ (by decide +kernel)) ggX2_solve_X2_offer
set_option maxRecDepth 20000 in
theorem ggX2_solve_X2_isEnough : GoodIn wsX2_solve wsX2_isEnough := goodIn_r _ [41, 9, 5, 51, 52, 53, 54, 55, 56, 57, 58, 59, 60, 61, 62] (by decide +kernel) (by decide +kernel)
set_option maxRecDepth 20000 in
theorem gX2_solve_X2_isEnough : GoodIn wsX2_solve (wsV RX2 80 RX2 yX2_isEnough wsX2_isEnough) := goodIn_app (goodIn_of _ (by decide +kernel)) ggX2_solve_X2_isEnough
set_option maxRecDepth 20000 in
theorem ggX2_solve_X2_choose : GoodIn wsX2_solve wsX2_choose := goodIn_r _ [45, 8, 6, 30, 31, 32, 33, 34, 46, 47, 48, 49, 26, 50, 3, 35, 36, 37, 51, 52, 53, 54, 55, 56, 57, 58, 59, 60, 61, 62] (by decide +kernel) (by decide +kernel)
set_option maxRecDepth 20000 in
theorem gX2_solve_X2_choose : GoodIn wsX2_solve (wsV RX2 84 RX2 yX2_choose wsX2_choose) := goodIn_app (goodIn_of _ (by decide +kernel)) ggX2_solve_X2_choose
theorem dX2_solve_0 : decode cX2_solve 0 = .ok (.aload_n 0, 1) := by decide +kernel
theorem dX2_solve_1 : decode cX2_solve 1 = .ok (.getfield 57, 3) := by decide +kernel
theorem dX2_solve_4 : decode cX2_solve 4 = .ok (.ifCond .eq 4, 3) := by decide +kernel
theorem dX2_solve_7 : decode cX2_solve 7 = .ok (.return_, 1) := by decide +kernel
theorem dX2_solve_8 : decode cX2_solve 8 = .ok (.aload_n 0, 1) := by decide +kernel
theorem dX2_solve_9 : decode cX2_solve 9 = .ok (.iconst 1, 1) := by decide +kernel
theorem dX2_solve_10 : decode cX2_solve 10 = .ok (.putfield 57, 3) := by decide +kernel
theorem dX2_solve_13 : decode cX2_solve 13 = .ok (.aload_n 0, 1) := by decide +kernel
theorem dX2_solve_14 : decode cX2_solve 14 = .ok (.getfield 32, 3) := by decide +kernel
theorem dX2_solve_17 : decode cX2_solve 17 = .ok (.iconst 0, 1) := by decide +kernel
theorem dX2_solve_18 : decode cX2_solve 18 = .ok (.invokestatic 64, 3) := by decide +kernel
theorem dX2_solve_21 : decode cX2_solve 21 = .ok (.aload_n 0, 1) := by decide +kernel
theorem dX2_solve_22 : decode cX2_solve 22 = .ok (.getfield 35, 3) := by decide +kernel
theorem dX2_solve_25 : decode cX2_solve 25 = .ok (.lconst 0, 1) := by decide +kernel
theorem dX2_solve_26 : decode cX2_solve 26 = .ok (.invokestatic 70, 3) := by decide +kernel
theorem dX2_solve_29 : decode cX2_solve 29 = .ok (.bipush 11, 2) := by decide +kernel
theorem dX2_solve_31 : decode cX2_solve 31 = .ok (.istore_n 1, 1) := by decide +kernel
theorem dX2_solve_32 : decode cX2_solve 32 = .ok (.iload_n 1, 1) := by decide +kernel
theorem dX2_solve_33 : decode cX2_solve 33 = .ok (.ifCond .lt 58, 3) := by decide +kernel
theorem dX2_solve_36 : decode cX2_solve 36 = .ok (.aload_n 0, 1) := by decide +kernel
theorem dX2_solve_37 : decode cX2_solve 37 = .ok (.getfield 32, 3) := by decide +kernel
theorem dX2_solve_40 : decode cX2_solve 40 = .ok (.iconst 0, 1) := by decide +kernel
theorem dX2_solve_41 : decode cX2_solve 41 = .ok (.aload_n 0, 1) := by decide +kernel
theorem dX2_solve_42 : decode cX2_solve 42 = .ok (.getfield 16, 3) := by decide +kernel
theorem dX2_solve_45 : decode cX2_solve 45 = .ok (.iload_n 1, 1) := by decide +kernel
theorem dX2_solve_46 : decode cX2_solve 46 = .ok (.iaload, 1) := by decide +kernel
theorem dX2_solve_47 : decode cX2_solve 47 = .ok (.ldc 50, 2) := by decide +kernel
theorem dX2_solve_49 : decode cX2_solve 49 = .ok (.invokestatic 73, 3) := by decide +kernel
theorem dX2_solve_52 : decode cX2_solve 52 = .ok (.aload_n 0, 1) := by decide +kernel
theorem dX2_solve_53 : decode cX2_solve 53 = .ok (.getfield 39, 3) := by decide +kernel
theorem dX2_solve_56 : decode cX2_solve 56 = .ok (.iconst 1, 1) := by decide +kernel
theorem dX2_solve_57 : decode cX2_solve 57 = .ok (.isub, 1) := by decide +kernel
theorem dX2_solve_58 : decode cX2_solve 58 = .ok (.istore_n 2, 1) := by decide +kernel
theorem dX2_solve_59 : decode cX2_solve 59 = .ok (.iload_n 2, 1) := by decide +kernel
theorem dX2_solve_60 : decode cX2_solve 60 = .ok (.ifCond .lt 25, 3) := by decide +kernel
theorem dX2_solve_63 : decode cX2_solve 63 = .ok (.aload_n 0, 1) := by decide +kernel
theorem dX2_solve_64 : decode cX2_solve 64 = .ok (.getfield 23, 3) := by decide +kernel
theorem dX2_solve_67 : decode cX2_solve 67 = .ok (.iload_n 2, 1) := by decide +kernel
theorem dX2_solve_68 : decode cX2_solve 68 = .ok (.iaload, 1) := by decide +kernel
theorem dX2_solve_69 : decode cX2_solve 69 = .ok (.iload_n 1, 1) := by decide +kernel
theorem dX2_solve_70 : decode cX2_solve 70 = .ok (.if_icmp .gt 9, 3) := by decide +kernel
theorem dX2_solve_73 : decode cX2_solve 73 = .ok (.aload_n 0, 1) := by decide +kernel
theorem dX2_solve_74 : decode cX2_solve 74 = .ok (.iload_n 1, 1) := by decide +kernel
theorem dX2_solve_75 : decode cX2_solve 75 = .ok (.iload_n 2, 1) := by decide +kernel
theorem dX2_solve_76 : decode cX2_solve 76 = .ok (.invokevirtual 76, 3) := by decide +kernel
theorem dX2_solve_79 : decode cX2_solve 79 = .ok (.iinc 2 (-1), 3) := by decide +kernel
theorem dX2_solve_82 : decode cX2_solve 82 = .ok (.goto (-23), 3) := by decide +kernel
theorem dX2_solve_85 : decode cX2_solve 85 = .ok (.iinc 1 (-1), 3) := by decide +kernel
theorem dX2_solve_88 : decode cX2_solve 88 = .ok (.goto (-56), 3) := by decide +kernel
theorem dX2_solve_91 : decode cX2_solve 91 = .ok (.aload_n 0, 1) := by decide +kernel
theorem dX2_solve_92 : decode cX2_solve 92 = .ok (.aload_n 0, 1) := by decide +kernel
theorem dX2_solve_93 : decode cX2_solve 93 = .ok (.getfield 32, 3) := by decide +kernel
theorem dX2_solve_96 : decode cX2_solve 96 = .ok (.aload_n 0, 1) := by decide +kernel
theorem dX2_solve_97 : decode cX2_solve 97 = .ok (.getfield 61, 3) := by decide +kernel
theorem dX2_solve_100 : decode cX2_solve 100 = .ok (.iaload, 1) := by decide +kernel
theorem dX2_solve_101 : decode cX2_solve 101 = .ok (.putfield 47, 3) := by decide +kernel
theorem dX2_solve_104 : decode cX2_solve 104 = .ok (.aload_n 0, 1) := by decide +kernel
theorem dX2_solve_105 : decode cX2_solve 105 = .ok (.invokevirtual 80, 3) := by decide +kernel
theorem dX2_solve_108 : decode cX2_solve 108 = .ok (.ifCond .eq 7, 3) := by decide +kernel
theorem dX2_solve_111 : decode cX2_solve 111 = .ok (.aload_n 0, 1) := by decide +kernel
theorem dX2_solve_112 : decode cX2_solve 112 = .ok (.invokevirtual 84, 3) := by decide +kernel
theorem dX2_solve_115 : decode cX2_solve 115 = .ok (.return_, 1) := by decide +kernel
set_option maxRecDepth 20000 in
theorem ggX2_offer_X2_word : GoodIn wsX2_offer wsX2_word := goodIn_r _ [14] (by decide +kernel) (by decide +kernel)
set_option maxRecDepth 20000 in
theorem gX2_offer_X2_word : GoodIn wsX2_offer (va_wsS RX2 93 yX2_word wsX2_word) := goodIn_app (goodIn_of _ (by decide +kernel)) ggX2_offer_X2_word
theorem dX2_offer_0 : decode cX2_offer 0 = .ok (.aload_n 0, 1) := by decide +kernel
theorem dX2_offer_1 : decode cX2_offer 1 = .ok (.getfield 29, 3) := by decide +kernel
theorem dX2_offer_4 : decode cX2_offer 4 = .ok (.iload_n 2, 1) := by decide +kernel
theorem dX2_offer_5 : decode cX2_offer 5 = .ok (.aaload, 1) := by decide +kernel
theorem dX2_offer_6 : decode cX2_offer 6 = .ok (.iload_n 1, 1) := by decide +kernel
theorem dX2_offer_7 : decode cX2_offer 7 = .ok (.aload_n 0, 1) := by decide +kernel
theorem dX2_offer_8 : decode cX2_offer 8 = .ok (.getfield 23, 3) := by decide +kernel
theorem dX2_offer_11 : decode cX2_offer 11 = .ok (.iload_n 2, 1) := by decide +kernel
theorem dX2_offer_12 : decode cX2_offer 12 = .ok (.iaload, 1) := by decide +kernel
theorem dX2_offer_13 : decode cX2_offer 13 = .ok (.isub, 1) := by decide +kernel
theorem dX2_offer_14 : decode cX2_offer 14 = .ok (.iaload, 1) := by decide +kernel
theorem dX2_offer_15 : decode cX2_offer 15 = .ok (.aload_n 0, 1) := by decide +kernel
theorem dX2_offer_16 : decode cX2_offer 16 = .ok (.getfield 26, 3) := by decide +kernel
theorem dX2_offer_19 : decode cX2_offer 19 = .ok (.iload_n 2, 1) := by decide +kernel
theorem dX2_offer_20 : decode cX2_offer 20 = .ok (.iaload, 1) := by decide +kernel
theorem dX2_offer_21 : decode cX2_offer 21 = .ok (.bipush 12, 2) := by decide +kernel
theorem dX2_offer_23 : decode cX2_offer 23 = .ok (.iload_n 1, 1) := by decide +kernel
theorem dX2_offer_24 : decode cX2_offer 24 = .ok (.isub, 1) := by decide +kernel
theorem dX2_offer_25 : decode cX2_offer 25 = .ok (.imul, 1) := by decide +kernel
theorem dX2_offer_26 : decode cX2_offer 26 = .ok (.iadd, 1) := by decide +kernel
theorem dX2_offer_27 : decode cX2_offer 27 = .ok (.istore_n 3, 1) := by decide +kernel
theorem dX2_offer_28 : decode cX2_offer 28 = .ok (.sipush 499, 3) := by decide +kernel
theorem dX2_offer_31 : decode cX2_offer 31 = .ok (.istore 4, 2) := by decide +kernel
theorem dX2_offer_33 : decode cX2_offer 33 = .ok (.iload 4, 2) := by decide +kernel
theorem dX2_offer_35 : decode cX2_offer 35 = .ok (.ifCond .lt 76, 3) := by decide +kernel
theorem dX2_offer_38 : decode cX2_offer 38 = .ok (.iload_n 3, 1) := by decide +kernel
theorem dX2_offer_39 : decode cX2_offer 39 = .ok (.aload_n 0, 1) := by decide +kernel
theorem dX2_offer_40 : decode cX2_offer 40 = .ok (.getfield 32, 3) := by decide +kernel
theorem dX2_offer_43 : decode cX2_offer 43 = .ok (.sipush 500, 3) := by decide +kernel
theorem dX2_offer_46 : decode cX2_offer 46 = .ok (.iload 4, 2) := by decide +kernel
theorem dX2_offer_48 : decode cX2_offer 48 = .ok (.aload_n 0, 1) := by decide +kernel
theorem dX2_offer_49 : decode cX2_offer 49 = .ok (.getfield 20, 3) := by decide +kernel
theorem dX2_offer_52 : decode cX2_offer 52 = .ok (.iload_n 2, 1) := by decide +kernel
theorem dX2_offer_53 : decode cX2_offer 53 = .ok (.iaload, 1) := by decide +kernel
theorem dX2_offer_54 : decode cX2_offer 54 = .ok (.iadd, 1) := by decide +kernel
theorem dX2_offer_55 : decode cX2_offer 55 = .ok (.invokestatic 87, 3) := by decide +kernel
theorem dX2_offer_58 : decode cX2_offer 58 = .ok (.iaload, 1) := by decide +kernel
theorem dX2_offer_59 : decode cX2_offer 59 = .ok (.iadd, 1) := by decide +kernel
theorem dX2_offer_60 : decode cX2_offer 60 = .ok (.istore 5, 2) := by decide +kernel
theorem dX2_offer_62 : decode cX2_offer 62 = .ok (.iload 5, 2) := by decide +kernel
theorem dX2_offer_64 : decode cX2_offer 64 = .ok (.aload_n 0, 1) := by decide +kernel
theorem dX2_offer_65 : decode cX2_offer 65 = .ok (.getfield 32, 3) := by decide +kernel
theorem dX2_offer_68 : decode cX2_offer 68 = .ok (.iload 4, 2) := by decide +kernel
theorem dX2_offer_70 : decode cX2_offer 70 = .ok (.iaload, 1) := by decide +kernel
theorem dX2_offer_71 : decode cX2_offer 71 = .ok (.if_icmp .ge 34, 3) := by decide +kernel
theorem dX2_offer_74 : decode cX2_offer 74 = .ok (.aload_n 0, 1) := by decide +kernel
theorem dX2_offer_75 : decode cX2_offer 75 = .ok (.getfield 32, 3) := by decide +kernel
theorem dX2_offer_78 : decode cX2_offer 78 = .ok (.iload 4, 2) := by decide +kernel
theorem dX2_offer_80 : decode cX2_offer 80 = .ok (.iload 5, 2) := by decide +kernel
theorem dX2_offer_82 : decode cX2_offer 82 = .ok (.iastore, 1) := by decide +kernel
theorem dX2_offer_83 : decode cX2_offer 83 = .ok (.aload_n 0, 1) := by decide +kernel
theorem dX2_offer_84 : decode cX2_offer 84 = .ok (.getfield 35, 3) := by decide +kernel
theorem dX2_offer_87 : decode cX2_offer 87 = .ok (.iload_n 1, 1) := by decide +kernel
theorem dX2_offer_88 : decode cX2_offer 88 = .ok (.iload_n 2, 1) := by decide +kernel
theorem dX2_offer_89 : decode cX2_offer 89 = .ok (.iload 4, 2) := by decide +kernel
theorem dX2_offer_91 : decode cX2_offer 91 = .ok (.invokestatic 93, 3) := by decide +kernel
theorem dX2_offer_94 : decode cX2_offer 94 = .ok (.dup2, 1) := by decide +kernel
theorem dX2_offer_95 : decode cX2_offer 95 = .ok (.laload, 1) := by decide +kernel
theorem dX2_offer_96 : decode cX2_offer 96 = .ok (.lconst 1, 1) := by decide +kernel
theorem dX2_offer_97 : decode cX2_offer 97 = .ok (.iload 4, 2) := by decide +kernel
theorem dX2_offer_99 : decode cX2_offer 99 = .ok (.bipush 63, 2) := by decide +kernel
theorem dX2_offer_101 : decode cX2_offer 101 = .ok (.iand, 1) := by decide +kernel
theorem dX2_offer_102 : decode cX2_offer 102 = .ok (.lshl, 1) := by decide +kernel
theorem dX2_offer_103 : decode cX2_offer 103 = .ok (.lor, 1) := by decide +kernel
theorem dX2_offer_104 : decode cX2_offer 104 = .ok (.lastore, 1) := by decide +kernel
theorem dX2_offer_105 : decode cX2_offer 105 = .ok (.iinc 4 (-1), 3) := by decide +kernel
theorem dX2_offer_108 : decode cX2_offer 108 = .ok (.goto (-75), 3) := by decide +kernel
theorem dX2_offer_111 : decode cX2_offer 111 = .ok (.return_, 1) := by decide +kernel
set_option maxRecDepth 20000 in
theorem ggX2_choose_X2_mustBuy : GoodIn wsX2_choose wsX2_mustBuy := goodIn_r _ [13, 14, 15, 16, 12, 17, 18, 19, 20, 21, 22, 23, 24, 25, 26, 27, 28, 29] (by decide +kernel) (by decide +kernel)
set_option maxRecDepth 20000 in
theorem gX2_choose_X2_mustBuy : GoodIn wsX2_choose (wsV RX2 97 RX2 yX2_mustBuy wsX2_mustBuy) := goodIn_app (goodIn_of _ (by decide +kernel)) ggX2_choose_X2_mustBuy
theorem dX2_choose_0 : decode cX2_choose 0 = .ok (.aload_n 0, 1) := by decide +kernel
theorem dX2_choose_1 : decode cX2_choose 1 = .ok (.getfield 61, 3) := by decide +kernel
theorem dX2_choose_4 : decode cX2_choose 4 = .ok (.istore_n 1, 1) := by decide +kernel
theorem dX2_choose_5 : decode cX2_choose 5 = .ok (.iconst 0, 1) := by decide +kernel
theorem dX2_choose_6 : decode cX2_choose 6 = .ok (.istore_n 2, 1) := by decide +kernel
theorem dX2_choose_7 : decode cX2_choose 7 = .ok (.iload_n 2, 1) := by decide +kernel
theorem dX2_choose_8 : decode cX2_choose 8 = .ok (.bipush 12, 2) := by decide +kernel
theorem dX2_choose_10 : decode cX2_choose 10 = .ok (.if_icmp .ge 84, 3) := by decide +kernel
theorem dX2_choose_13 : decode cX2_choose 13 = .ok (.iconst 0, 1) := by decide +kernel
theorem dX2_choose_14 : decode cX2_choose 14 = .ok (.istore_n 3, 1) := by decide +kernel
theorem dX2_choose_15 : decode cX2_choose 15 = .ok (.iload_n 3, 1) := by decide +kernel
theorem dX2_choose_16 : decode cX2_choose 16 = .ok (.aload_n 0, 1) := by decide +kernel
theorem dX2_choose_17 : decode cX2_choose 17 = .ok (.getfield 39, 3) := by decide +kernel
theorem dX2_choose_20 : decode cX2_choose 20 = .ok (.if_icmp .ge 68, 3) := by decide +kernel
theorem dX2_choose_23 : decode cX2_choose 23 = .ok (.iconst 0, 1) := by decide +kernel
theorem dX2_choose_24 : decode cX2_choose 24 = .ok (.istore 4, 2) := by decide +kernel
theorem dX2_choose_26 : decode cX2_choose 26 = .ok (.iload 4, 2) := by decide +kernel
theorem dX2_choose_28 : decode cX2_choose 28 = .ok (.sipush 500, 3) := by decide +kernel
theorem dX2_choose_31 : decode cX2_choose 31 = .ok (.if_icmp .ge 41, 3) := by decide +kernel
theorem dX2_choose_34 : decode cX2_choose 34 = .ok (.iload_n 1, 1) := by decide +kernel
theorem dX2_choose_35 : decode cX2_choose 35 = .ok (.sipush 500, 3) := by decide +kernel
theorem dX2_choose_38 : decode cX2_choose 38 = .ok (.if_icmp .ge 34, 3) := by decide +kernel
theorem dX2_choose_41 : decode cX2_choose 41 = .ok (.aload_n 0, 1) := by decide +kernel
theorem dX2_choose_42 : decode cX2_choose 42 = .ok (.iload_n 2, 1) := by decide +kernel
theorem dX2_choose_43 : decode cX2_choose 43 = .ok (.iload_n 3, 1) := by decide +kernel
theorem dX2_choose_44 : decode cX2_choose 44 = .ok (.iload_n 1, 1) := by decide +kernel
theorem dX2_choose_45 : decode cX2_choose 45 = .ok (.invokevirtual 97, 3) := by decide +kernel
theorem dX2_choose_48 : decode cX2_choose 48 = .ok (.ifCond .eq 24, 3) := by decide +kernel
theorem dX2_choose_51 : decode cX2_choose 51 = .ok (.sipush 500, 3) := by decide +kernel
theorem dX2_choose_54 : decode cX2_choose 54 = .ok (.iload_n 1, 1) := by decide +kernel
theorem dX2_choose_55 : decode cX2_choose 55 = .ok (.aload_n 0, 1) := by decide +kernel
theorem dX2_choose_56 : decode cX2_choose 56 = .ok (.getfield 20, 3) := by decide +kernel
theorem dX2_choose_59 : decode cX2_choose 59 = .ok (.iload_n 3, 1) := by decide +kernel
theorem dX2_choose_60 : decode cX2_choose 60 = .ok (.iaload, 1) := by decide +kernel
theorem dX2_choose_61 : decode cX2_choose 61 = .ok (.iadd, 1) := by decide +kernel
theorem dX2_choose_62 : decode cX2_choose 62 = .ok (.invokestatic 87, 3) := by decide +kernel
theorem dX2_choose_65 : decode cX2_choose 65 = .ok (.istore_n 1, 1) := by decide +kernel
theorem dX2_choose_66 : decode cX2_choose 66 = .ok (.iinc 4 1, 3) := by decide +kernel
theorem dX2_choose_69 : decode cX2_choose 69 = .ok (.goto (-43), 3) := by decide +kernel
theorem dX2_choose_72 : decode cX2_choose 72 = .ok (.aload_n 0, 1) := by decide +kernel
theorem dX2_choose_73 : decode cX2_choose 73 = .ok (.getfield 13, 3) := by decide +kernel
theorem dX2_choose_76 : decode cX2_choose 76 = .ok (.iload_n 2, 1) := by decide +kernel
theorem dX2_choose_77 : decode cX2_choose 77 = .ok (.aaload, 1) := by decide +kernel
theorem dX2_choose_78 : decode cX2_choose 78 = .ok (.iload_n 3, 1) := by decide +kernel
theorem dX2_choose_79 : decode cX2_choose 79 = .ok (.iload 4, 2) := by decide +kernel
theorem dX2_choose_81 : decode cX2_choose 81 = .ok (.iastore, 1) := by decide +kernel
theorem dX2_choose_82 : decode cX2_choose 82 = .ok (.iinc 3 1, 3) := by decide +kernel
theorem dX2_choose_85 : decode cX2_choose 85 = .ok (.goto (-70), 3) := by decide +kernel
theorem dX2_choose_88 : decode cX2_choose 88 = .ok (.iinc 2 1, 3) := by decide +kernel
theorem dX2_choose_91 : decode cX2_choose 91 = .ok (.goto (-84), 3) := by decide +kernel
theorem dX2_choose_94 : decode cX2_choose 94 = .ok (.return_, 1) := by decide +kernel
set_option maxRecDepth 20000 in
theorem ggX2_mustBuy_X2_word : GoodIn wsX2_mustBuy wsX2_word := goodIn_r _ [5] (by decide +kernel) (by decide +kernel)
set_option maxRecDepth 20000 in
theorem gX2_mustBuy_X2_word : GoodIn wsX2_mustBuy (va_wsS RX2 93 yX2_word wsX2_word) := goodIn_app (goodIn_of _ (by decide +kernel)) ggX2_mustBuy_X2_word
theorem dX2_mustBuy_0 : decode cX2_mustBuy 0 = .ok (.aload_n 0, 1) := by decide +kernel
theorem dX2_mustBuy_1 : decode cX2_mustBuy 1 = .ok (.getfield 35, 3) := by decide +kernel
theorem dX2_mustBuy_4 : decode cX2_mustBuy 4 = .ok (.iload_n 1, 1) := by decide +kernel
theorem dX2_mustBuy_5 : decode cX2_mustBuy 5 = .ok (.iload_n 2, 1) := by decide +kernel
theorem dX2_mustBuy_6 : decode cX2_mustBuy 6 = .ok (.iload_n 3, 1) := by decide +kernel
theorem dX2_mustBuy_7 : decode cX2_mustBuy 7 = .ok (.invokestatic 93, 3) := by decide +kernel
theorem dX2_mustBuy_10 : decode cX2_mustBuy 10 = .ok (.laload, 1) := by decide +kernel
theorem dX2_mustBuy_11 : decode cX2_mustBuy 11 = .ok (.iload_n 3, 1) := by decide +kernel
theorem dX2_mustBuy_12 : decode cX2_mustBuy 12 = .ok (.bipush 63, 2) := by decide +kernel
theorem dX2_mustBuy_14 : decode cX2_mustBuy 14 = .ok (.iand, 1) := by decide +kernel
theorem dX2_mustBuy_15 : decode cX2_mustBuy 15 = .ok (.lushr, 1) := by decide +kernel
theorem dX2_mustBuy_16 : decode cX2_mustBuy 16 = .ok (.lconst 1, 1) := by decide +kernel
theorem dX2_mustBuy_17 : decode cX2_mustBuy 17 = .ok (.land, 1) := by decide +kernel
theorem dX2_mustBuy_18 : decode cX2_mustBuy 18 = .ok (.lconst 0, 1) := by decide +kernel
theorem dX2_mustBuy_19 : decode cX2_mustBuy 19 = .ok (.lcmp, 1) := by decide +kernel
theorem dX2_mustBuy_20 : decode cX2_mustBuy 20 = .ok (.ifCond .eq 7, 3) := by decide +kernel
theorem dX2_mustBuy_23 : decode cX2_mustBuy 23 = .ok (.iconst 1, 1) := by decide +kernel
theorem dX2_mustBuy_24 : decode cX2_mustBuy 24 = .ok (.goto 4, 3) := by decide +kernel
theorem dX2_mustBuy_27 : decode cX2_mustBuy 27 = .ok (.iconst 0, 1) := by decide +kernel
theorem dX2_mustBuy_28 : decode cX2_mustBuy 28 = .ok (.ireturn, 1) := by decide +kernel
theorem dX2_word_0 : decode cX2_word 0 = .ok (.iload_n 0, 1) := by decide +kernel
theorem dX2_word_1 : decode cX2_word 1 = .ok (.iconst 4, 1) := by decide +kernel
theorem dX2_word_2 : decode cX2_word 2 = .ok (.imul, 1) := by decide +kernel
theorem dX2_word_3 : decode cX2_word 3 = .ok (.iload_n 1, 1) := by decide +kernel
theorem dX2_word_4 : decode cX2_word 4 = .ok (.iadd, 1) := by decide +kernel
theorem dX2_word_5 : decode cX2_word 5 = .ok (.bipush 8, 2) := by decide +kernel
theorem dX2_word_7 : decode cX2_word 7 = .ok (.imul, 1) := by decide +kernel
theorem dX2_word_8 : decode cX2_word 8 = .ok (.iload_n 2, 1) := by decide +kernel
theorem dX2_word_9 : decode cX2_word 9 = .ok (.bipush 6, 2) := by decide +kernel
theorem dX2_word_11 : decode cX2_word 11 = .ok (.ishr, 1) := by decide +kernel
theorem dX2_word_12 : decode cX2_word 12 = .ok (.iadd, 1) := by decide +kernel
theorem dX2_word_13 : decode cX2_word 13 = .ok (.ireturn, 1) := by decide +kernel
set_option maxRecDepth 20000 in
theorem ggX3_init_X0_init : GoodIn wsX3_init wsX0_init := goodIn_r _ [18, 19, 2, 3, 20, 21, 5, 22, 23, 24, 34, 35, 36, 37] (by decide +kernel) (by decide +kernel)
set_option maxRecDepth 20000 in
theorem gX3_init_X0_init : GoodIn wsX3_init (wsX0_init) := ggX3_init_X0_init
theorem dX3_init_0 : decode cX3_init 0 = .ok (.aload_n 0, 1) := by decide +kernel
theorem dX3_init_1 : decode cX3_init 1 = .ok (.invokespecial 5, 3) := by decide +kernel
theorem dX3_init_4 : decode cX3_init 4 = .ok (.aload_n 0, 1) := by decide +kernel
theorem dX3_init_5 : decode cX3_init 5 = .ok (.bipush 8, 2) := by decide +kernel
theorem dX3_init_7 : decode cX3_init 7 = .ok (.bipush 24, 2) := by decide +kernel
theorem dX3_init_9 : decode cX3_init 9 = .ok (.multianewarray 11 2, 4) := by decide +kernel
theorem dX3_init_13 : decode cX3_init 13 = .ok (.putfield 13, 3) := by decide +kernel
theorem dX3_init_16 : decode cX3_init 16 = .ok (.aload_n 0, 1) := by decide +kernel
theorem dX3_init_17 : decode cX3_init 17 = .ok (.bipush 8, 2) := by decide +kernel
theorem dX3_init_19 : decode cX3_init 19 = .ok (.newarray .int, 2) := by decide +kernel
theorem dX3_init_21 : decode cX3_init 21 = .ok (.putfield 16, 3) := by decide +kernel
theorem dX3_init_24 : decode cX3_init 24 = .ok (.aload_n 0, 1) := by decide +kernel
theorem dX3_init_25 : decode cX3_init 25 = .ok (.bipush 8, 2) := by decide +kernel
theorem dX3_init_27 : decode cX3_init 27 = .ok (.newarray .int, 2) := by decide +kernel
theorem dX3_init_29 : decode cX3_init 29 = .ok (.putfield 20, 3) := by decide +kernel
theorem dX3_init_32 : decode cX3_init 32 = .ok (.aload_n 0, 1) := by decide +kernel
theorem dX3_init_33 : decode cX3_init 33 = .ok (.bipush 8, 2) := by decide +kernel
theorem dX3_init_35 : decode cX3_init 35 = .ok (.newarray .int, 2) := by decide +kernel
theorem dX3_init_37 : decode cX3_init 37 = .ok (.putfield 23, 3) := by decide +kernel
theorem dX3_init_40 : decode cX3_init 40 = .ok (.aload_n 0, 1) := by decide +kernel
theorem dX3_init_41 : decode cX3_init 41 = .ok (.bipush 8, 2) := by decide +kernel
theorem dX3_init_43 : decode cX3_init 43 = .ok (.newarray .int, 2) := by decide +kernel
theorem dX3_init_45 : decode cX3_init 45 = .ok (.putfield 26, 3) := by decide +kernel
theorem dX3_init_48 : decode cX3_init 48 = .ok (.aload_n 0, 1) := by decide +kernel
theorem dX3_init_49 : decode cX3_init 49 = .ok (.new 29, 3) := by decide +kernel
theorem dX3_init_52 : decode cX3_init 52 = .ok (.dup, 1) := by decide +kernel
theorem dX3_init_53 : decode cX3_init 53 = .ok (.bipush 34, 2) := by decide +kernel
theorem dX3_init_55 : decode cX3_init 55 = .ok (.invokespecial 31, 3) := by decide +kernel
theorem dX3_init_58 : decode cX3_init 58 = .ok (.putfield 34, 3) := by decide +kernel
theorem dX3_init_61 : decode cX3_init 61 = .ok (.aload_n 0, 1) := by decide +kernel
theorem dX3_init_62 : decode cX3_init 62 = .ok (.iconst (-1), 1) := by decide +kernel
theorem dX3_init_63 : decode cX3_init 63 = .ok (.putfield 38, 3) := by decide +kernel
theorem dX3_init_66 : decode cX3_init 66 = .ok (.return_, 1) := by decide +kernel
set_option maxRecDepth 20000 in
theorem ggX3_hasBatch_X6_within : GoodIn wsX3_hasBatch wsX6_within := goodIn_r _ [4] (by decide +kernel) (by decide +kernel)
set_option maxRecDepth 20000 in
theorem gX3_hasBatch_X6_within_n45 : GoodIn wsX3_hasBatch (wsX6_within) := ggX3_hasBatch_X6_within
theorem dX3_hasBatch_0 : decode cX3_hasBatch 0 = .ok (.iload_n 1, 1) := by decide +kernel
theorem dX3_hasBatch_1 : decode cX3_hasBatch 1 = .ok (.i2l, 1) := by decide +kernel
theorem dX3_hasBatch_2 : decode cX3_hasBatch 2 = .ok (.iconst 0, 1) := by decide +kernel
theorem dX3_hasBatch_3 : decode cX3_hasBatch 3 = .ok (.aload_n 0, 1) := by decide +kernel
theorem dX3_hasBatch_4 : decode cX3_hasBatch 4 = .ok (.getfield 42, 3) := by decide +kernel
theorem dX3_hasBatch_7 : decode cX3_hasBatch 7 = .ok (.iconst 1, 1) := by decide +kernel
theorem dX3_hasBatch_8 : decode cX3_hasBatch 8 = .ok (.isub, 1) := by decide +kernel
theorem dX3_hasBatch_9 : decode cX3_hasBatch 9 = .ok (.invokestatic 45, 3) := by decide +kernel
theorem dX3_hasBatch_12 : decode cX3_hasBatch 12 = .ok (.ireturn, 1) := by decide +kernel
set_option maxRecDepth 20000 in
theorem ggX3_addBatch_X3_forget : GoodIn wsX3_addBatch wsX3_forget := goodIn_r _ [10, 11, 12, 13, 14, 15, 16, 17, 18, 19, 20] (by decide +kernel) (by decide +kernel)
set_option maxRecDepth 20000 in
theorem gX3_addBatch_X3_forget : GoodIn wsX3_addBatch (wsV RX3 49 RX3 yX3_forget wsX3_forget) := goodIn_app (goodIn_of _ (by decide +kernel)) ggX3_addBatch_X3_forget
theorem dX3_addBatch_0 : decode cX3_addBatch 0 = .ok (.aload_n 0, 1) := by decide +kernel
theorem dX3_addBatch_1 : decode cX3_addBatch 1 = .ok (.dup, 1) := by decide +kernel
theorem dX3_addBatch_2 : decode cX3_addBatch 2 = .ok (.getfield 42, 3) := by decide +kernel
theorem dX3_addBatch_5 : decode cX3_addBatch 5 = .ok (.dup_x1, 1) := by decide +kernel
theorem dX3_addBatch_6 : decode cX3_addBatch 6 = .ok (.iconst 1, 1) := by decide +kernel
theorem dX3_addBatch_7 : decode cX3_addBatch 7 = .ok (.iadd, 1) := by decide +kernel
theorem dX3_addBatch_8 : decode cX3_addBatch 8 = .ok (.putfield 42, 3) := by decide +kernel
theorem dX3_addBatch_11 : decode cX3_addBatch 11 = .ok (.istore 5, 2) := by decide +kernel
theorem dX3_addBatch_13 : decode cX3_addBatch 13 = .ok (.aload_n 0, 1) := by decide +kernel
theorem dX3_addBatch_14 : decode cX3_addBatch 14 = .ok (.getfield 16, 3) := by decide +kernel
theorem dX3_addBatch_17 : decode cX3_addBatch 17 = .ok (.iload 5, 2) := by decide +kernel
theorem dX3_addBatch_19 : decode cX3_addBatch 19 = .ok (.iload_n 1, 1) := by decide +kernel
theorem dX3_addBatch_20 : decode cX3_addBatch 20 = .ok (.iastore, 1) := by decide +kernel
theorem dX3_addBatch_21 : decode cX3_addBatch 21 = .ok (.aload_n 0, 1) := by decide +kernel
theorem dX3_addBatch_22 : decode cX3_addBatch 22 = .ok (.getfield 20, 3) := by decide +kernel
theorem dX3_addBatch_25 : decode cX3_addBatch 25 = .ok (.iload 5, 2) := by decide +kernel
theorem dX3_addBatch_27 : decode cX3_addBatch 27 = .ok (.iload_n 2, 1) := by decide +kernel
theorem dX3_addBatch_28 : decode cX3_addBatch 28 = .ok (.iastore, 1) := by decide +kernel
theorem dX3_addBatch_29 : decode cX3_addBatch 29 = .ok (.aload_n 0, 1) := by decide +kernel
theorem dX3_addBatch_30 : decode cX3_addBatch 30 = .ok (.getfield 23, 3) := by decide +kernel
theorem dX3_addBatch_33 : decode cX3_addBatch 33 = .ok (.iload 5, 2) := by decide +kernel
theorem dX3_addBatch_35 : decode cX3_addBatch 35 = .ok (.iload_n 3, 1) := by decide +kernel
theorem dX3_addBatch_36 : decode cX3_addBatch 36 = .ok (.iastore, 1) := by decide +kernel
theorem dX3_addBatch_37 : decode cX3_addBatch 37 = .ok (.aload_n 0, 1) := by decide +kernel
theorem dX3_addBatch_38 : decode cX3_addBatch 38 = .ok (.getfield 26, 3) := by decide +kernel
theorem dX3_addBatch_41 : decode cX3_addBatch 41 = .ok (.iload 5, 2) := by decide +kernel
theorem dX3_addBatch_43 : decode cX3_addBatch 43 = .ok (.iload 4, 2) := by decide +kernel
theorem dX3_addBatch_45 : decode cX3_addBatch 45 = .ok (.iastore, 1) := by decide +kernel
theorem dX3_addBatch_46 : decode cX3_addBatch 46 = .ok (.aload_n 0, 1) := by decide +kernel
theorem dX3_addBatch_47 : decode cX3_addBatch 47 = .ok (.invokevirtual 49, 3) := by decide +kernel
theorem dX3_addBatch_50 : decode cX3_addBatch 50 = .ok (.iload 5, 2) := by decide +kernel
theorem dX3_addBatch_52 : decode cX3_addBatch 52 = .ok (.ireturn, 1) := by decide +kernel
theorem dX3_forget_0 : decode cX3_forget 0 = .ok (.aload_n 0, 1) := by decide +kernel
theorem dX3_forget_1 : decode cX3_forget 1 = .ok (.iconst (-1), 1) := by decide +kernel
theorem dX3_forget_2 : decode cX3_forget 2 = .ok (.putfield 38, 3) := by decide +kernel
theorem dX3_forget_5 : decode cX3_forget 5 = .ok (.return_, 1) := by decide +kernel
set_option maxRecDepth 20000 in
theorem ggX3_lay_X3_layPipes : GoodIn wsX3_lay wsX3_layPipes := goodIn_r _ [8, 3, 9, 10, 11, 12, 13, 14, 15, 16, 17, 18, 19, 20, 21, 22, 23, 24, 25, 26, 27, 28, 29, 30, 31, 32, 33, 34, 35, 36, 37, 38, 39, 40, 41, 42, 43, 44, 45, 46, 47, 48, 49, 50, 51, 52, 53, 54, 55, 56, 57, 58, 59, 60, 61, 62, 92, 93, 94, 95, 96, 97, 98, 99, 100, 101, 102, 103, 104, 105, 106, 107, 108, 109, 110, 111, 112, 113, 114, 115, 116, 117] (by decide +kernel) (by decide +kernel)
set_option maxRecDepth 20000 in
theorem gX3_lay_X3_layPipes : GoodIn wsX3_lay (wsV RX3 52 RX3 yX3_layPipes wsX3_layPipes) := goodIn_app (goodIn_of _ (by decide +kernel)) ggX3_lay_X3_layPipes
set_option maxRecDepth 20000 in
theorem ggX3_lay_X0_push : GoodIn wsX3_lay wsX0_push := goodIn_r _ [66, 67, 68, 69, 70, 17, 71, 72, 73, 19, 20, 21, 22, 23, 24, 74, 75, 76, 77, 78, 79, 80, 81, 101, 102, 103, 104] (by decide +kernel) (by decide +kernel)
set_option maxRecDepth 20000 in
theorem gX3_lay_X0_push : GoodIn wsX3_lay (wsV RX3 59 RX0 yX0_push wsX0_push) := goodIn_app (goodIn_of _ (by decide +kernel)) ggX3_lay_X0_push
set_option maxRecDepth 20000 in
theorem ggX3_lay_X3_settleParts : GoodIn wsX3_lay wsX3_settleParts := goodIn_r _ [85, 9, 11, 12, 86, 3, 87, 88, 89, 17, 90, 20, 91, 64, 65, 66, 67, 68, 69, 70, 71, 72, 73, 19, 21, 22, 23, 24, 74, 75, 76, 77, 78, 79, 80, 81, 92, 93, 94, 95, 96, 97, 98, 99, 100, 101, 102, 103, 104] (by decide +kernel) (by decide +kernel)
set_option maxRecDepth 20000 in
theorem gX3_lay_X3_settleParts : GoodIn wsX3_lay (wsV RX3 63 RX3 yX3_settleParts wsX3_settleParts) := goodIn_app (goodIn_of _ (by decide +kernel)) ggX3_lay_X3_settleParts
theorem dX3_lay_0 : decode cX3_lay 0 = .ok (.aload_n 0, 1) := by decide +kernel
theorem dX3_lay_1 : decode cX3_lay 1 = .ok (.getfield 38, 3) := by decide +kernel
theorem dX3_lay_4 : decode cX3_lay 4 = .ok (.iload_n 2, 1) := by decide +kernel
theorem dX3_lay_5 : decode cX3_lay 5 = .ok (.if_icmp .ne 4, 3) := by decide +kernel
theorem dX3_lay_8 : decode cX3_lay 8 = .ok (.return_, 1) := by decide +kernel
theorem dX3_lay_9 : decode cX3_lay 9 = .ok (.aload_n 0, 1) := by decide +kernel
theorem dX3_lay_10 : decode cX3_lay 10 = .ok (.iload_n 2, 1) := by decide +kernel
theorem dX3_lay_11 : decode cX3_lay 11 = .ok (.putfield 38, 3) := by decide +kernel
theorem dX3_lay_14 : decode cX3_lay 14 = .ok (.aload_n 0, 1) := by decide +kernel
theorem dX3_lay_15 : decode cX3_lay 15 = .ok (.aload_n 0, 1) := by decide +kernel
theorem dX3_lay_16 : decode cX3_lay 16 = .ok (.aload_n 1, 1) := by decide +kernel
theorem dX3_lay_17 : decode cX3_lay 17 = .ok (.iload_n 2, 1) := by decide +kernel
theorem dX3_lay_18 : decode cX3_lay 18 = .ok (.invokevirtual 52, 3) := by decide +kernel
theorem dX3_lay_21 : decode cX3_lay 21 = .ok (.putfield 56, 3) := by decide +kernel
theorem dX3_lay_24 : decode cX3_lay 24 = .ok (.aload_n 0, 1) := by decide +kernel
theorem dX3_lay_25 : decode cX3_lay 25 = .ok (.dup, 1) := by decide +kernel
theorem dX3_lay_26 : decode cX3_lay 26 = .ok (.getfield 56, 3) := by decide +kernel
theorem dX3_lay_29 : decode cX3_lay 29 = .ok (.aload_n 0, 1) := by decide +kernel
theorem dX3_lay_30 : decode cX3_lay 30 = .ok (.getfield 34, 3) := by decide +kernel
theorem dX3_lay_33 : decode cX3_lay 33 = .ok (.bipush 32, 2) := by decide +kernel
theorem dX3_lay_35 : decode cX3_lay 35 = .ok (.bipush 33, 2) := by decide +kernel
theorem dX3_lay_37 : decode cX3_lay 37 = .ok (.aload_n 0, 1) := by decide +kernel
theorem dX3_lay_38 : decode cX3_lay 38 = .ok (.getfield 56, 3) := by decide +kernel
theorem dX3_lay_41 : decode cX3_lay 41 = .ok (.invokevirtual 59, 3) := by decide +kernel
theorem dX3_lay_44 : decode cX3_lay 44 = .ok (.isub, 1) := by decide +kernel
theorem dX3_lay_45 : decode cX3_lay 45 = .ok (.putfield 56, 3) := by decide +kernel
theorem dX3_lay_48 : decode cX3_lay 48 = .ok (.aload_n 0, 1) := by decide +kernel
theorem dX3_lay_49 : decode cX3_lay 49 = .ok (.getfield 56, 3) := by decide +kernel
theorem dX3_lay_52 : decode cX3_lay 52 = .ok (.ifCond .ne 7, 3) := by decide +kernel
theorem dX3_lay_55 : decode cX3_lay 55 = .ok (.aload_n 0, 1) := by decide +kernel
theorem dX3_lay_56 : decode cX3_lay 56 = .ok (.invokevirtual 63, 3) := by decide +kernel
theorem dX3_lay_59 : decode cX3_lay 59 = .ok (.return_, 1) := by decide +kernel
set_option maxRecDepth 20000 in
theorem ggX3_layPipes_X0_empty : GoodIn wsX3_layPipes wsX0_empty := goodIn_r _ [11, 12, 13, 14, 15, 16, 17, 65, 66, 67, 68] (by decide +kernel) (by decide +kernel)
set_option maxRecDepth 20000 in
theorem gX3_layPipes_X0_empty : GoodIn wsX3_layPipes (wsV RX3 66 RX0 yX0_empty wsX0_empty) := goodIn_app (goodIn_of _ (by decide +kernel)) ggX3_layPipes_X0_empty
set_option maxRecDepth 20000 in
theorem ggX3_layPipes_X0_pipe : GoodIn wsX3_layPipes wsX0_pipe := goodIn_r _ [21, 13, 65, 66, 67, 68] (by decide +kernel) (by decide +kernel)
set_option maxRecDepth 20000 in
theorem gX3_layPipes_X0_pipe : GoodIn wsX3_layPipes (wsV RX3 69 RX0 yX0_pipe wsX0_pipe) := goodIn_app (goodIn_of _ (by decide +kernel)) ggX3_layPipes_X0_pipe
set_option maxRecDepth 20000 in
theorem ggX3_layPipes_X1_leftOver : GoodIn wsX3_layPipes wsX1_leftOver := goodIn_r _ [26, 27, 28, 29, 30, 31, 32, 25, 33, 34, 35, 36, 37, 15, 16, 17, 38, 39, 40, 41, 42, 43, 44, 45, 46, 47, 48, 49, 50, 51, 52, 53, 54, 55, 69, 70, 71, 72, 73, 74, 75, 76, 77, 78, 79, 80, 81] (by decide +kernel) (by decide +kernel)
set_option maxRecDepth 20000 in
theorem gX3_layPipes_X1_leftOver : GoodIn wsX3_layPipes (wsV RX3 73 RX1 yX1_leftOver wsX1_leftOver) := goodIn_app (goodIn_of _ (by decide +kernel)) ggX3_layPipes_X1_leftOver
theorem dX3_layPipes_0 : decode cX3_layPipes 0 = .ok (.iconst 0, 1) := by decide +kernel
theorem dX3_layPipes_1 : decode cX3_layPipes 1 = .ok (.istore_n 3, 1) := by decide +kernel
theorem dX3_layPipes_2 : decode cX3_layPipes 2 = .ok (.aload_n 0, 1) := by decide +kernel
theorem dX3_layPipes_3 : decode cX3_layPipes 3 = .ok (.getfield 34, 3) := by decide +kernel
theorem dX3_layPipes_6 : decode cX3_layPipes 6 = .ok (.invokevirtual 66, 3) := by decide +kernel
theorem dX3_layPipes_9 : decode cX3_layPipes 9 = .ok (.iconst 0, 1) := by decide +kernel
theorem dX3_layPipes_10 : decode cX3_layPipes 10 = .ok (.istore 4, 2) := by decide +kernel
theorem dX3_layPipes_12 : decode cX3_layPipes 12 = .ok (.iload 4, 2) := by decide +kernel
theorem dX3_layPipes_14 : decode cX3_layPipes 14 = .ok (.aload_n 0, 1) := by decide +kernel
theorem dX3_layPipes_15 : decode cX3_layPipes 15 = .ok (.getfield 42, 3) := by decide +kernel
theorem dX3_layPipes_18 : decode cX3_layPipes 18 = .ok (.if_icmp .ge 85, 3) := by decide +kernel
theorem dX3_layPipes_21 : decode cX3_layPipes 21 = .ok (.iload_n 3, 1) := by decide +kernel
theorem dX3_layPipes_22 : decode cX3_layPipes 22 = .ok (.aload_n 0, 1) := by decide +kernel
theorem dX3_layPipes_23 : decode cX3_layPipes 23 = .ok (.getfield 16, 3) := by decide +kernel
theorem dX3_layPipes_26 : decode cX3_layPipes 26 = .ok (.iload 4, 2) := by decide +kernel
theorem dX3_layPipes_28 : decode cX3_layPipes 28 = .ok (.iaload, 1) := by decide +kernel
theorem dX3_layPipes_29 : decode cX3_layPipes 29 = .ok (.iadd, 1) := by decide +kernel
theorem dX3_layPipes_30 : decode cX3_layPipes 30 = .ok (.istore_n 3, 1) := by decide +kernel
theorem dX3_layPipes_31 : decode cX3_layPipes 31 = .ok (.aload_n 0, 1) := by decide +kernel
theorem dX3_layPipes_32 : decode cX3_layPipes 32 = .ok (.getfield 34, 3) := by decide +kernel
theorem dX3_layPipes_35 : decode cX3_layPipes 35 = .ok (.bipush 32, 2) := by decide +kernel
theorem dX3_layPipes_37 : decode cX3_layPipes 37 = .ok (.iload 4, 2) := by decide +kernel
theorem dX3_layPipes_39 : decode cX3_layPipes 39 = .ok (.aload_n 0, 1) := by decide +kernel
theorem dX3_layPipes_40 : decode cX3_layPipes 40 = .ok (.getfield 16, 3) := by decide +kernel
theorem dX3_layPipes_43 : decode cX3_layPipes 43 = .ok (.iload 4, 2) := by decide +kernel
theorem dX3_layPipes_45 : decode cX3_layPipes 45 = .ok (.iaload, 1) := by decide +kernel
theorem dX3_layPipes_46 : decode cX3_layPipes 46 = .ok (.invokevirtual 69, 3) := by decide +kernel
theorem dX3_layPipes_49 : decode cX3_layPipes 49 = .ok (.aload_n 0, 1) := by decide +kernel
theorem dX3_layPipes_50 : decode cX3_layPipes 50 = .ok (.getfield 20, 3) := by decide +kernel
theorem dX3_layPipes_53 : decode cX3_layPipes 53 = .ok (.iload 4, 2) := by decide +kernel
theorem dX3_layPipes_55 : decode cX3_layPipes 55 = .ok (.iaload, 1) := by decide +kernel
theorem dX3_layPipes_56 : decode cX3_layPipes 56 = .ok (.istore 5, 2) := by decide +kernel
theorem dX3_layPipes_58 : decode cX3_layPipes 58 = .ok (.iload 5, 2) := by decide +kernel
theorem dX3_layPipes_60 : decode cX3_layPipes 60 = .ok (.aload_n 0, 1) := by decide +kernel
theorem dX3_layPipes_61 : decode cX3_layPipes 61 = .ok (.getfield 23, 3) := by decide +kernel
theorem dX3_layPipes_64 : decode cX3_layPipes 64 = .ok (.iload 4, 2) := by decide +kernel
theorem dX3_layPipes_66 : decode cX3_layPipes 66 = .ok (.iaload, 1) := by decide +kernel
theorem dX3_layPipes_67 : decode cX3_layPipes 67 = .ok (.if_icmp .ge 30, 3) := by decide +kernel
theorem dX3_layPipes_70 : decode cX3_layPipes 70 = .ok (.aload_n 0, 1) := by decide +kernel
theorem dX3_layPipes_71 : decode cX3_layPipes 71 = .ok (.getfield 34, 3) := by decide +kernel
theorem dX3_layPipes_74 : decode cX3_layPipes 74 = .ok (.iload 4, 2) := by decide +kernel
theorem dX3_layPipes_76 : decode cX3_layPipes 76 = .ok (.bipush 8, 2) := by decide +kernel
theorem dX3_layPipes_78 : decode cX3_layPipes 78 = .ok (.iload 5, 2) := by decide +kernel
theorem dX3_layPipes_80 : decode cX3_layPipes 80 = .ok (.iadd, 1) := by decide +kernel
theorem dX3_layPipes_81 : decode cX3_layPipes 81 = .ok (.aload_n 0, 1) := by decide +kernel
theorem dX3_layPipes_82 : decode cX3_layPipes 82 = .ok (.getfield 26, 3) := by decide +kernel
theorem dX3_layPipes_85 : decode cX3_layPipes 85 = .ok (.iload 4, 2) := by decide +kernel
theorem dX3_layPipes_87 : decode cX3_layPipes 87 = .ok (.iaload, 1) := by decide +kernel
theorem dX3_layPipes_88 : decode cX3_layPipes 88 = .ok (.invokevirtual 69, 3) := by decide +kernel
theorem dX3_layPipes_91 : decode cX3_layPipes 91 = .ok (.iinc 5 1, 3) := by decide +kernel
theorem dX3_layPipes_94 : decode cX3_layPipes 94 = .ok (.goto (-36), 3) := by decide +kernel
theorem dX3_layPipes_97 : decode cX3_layPipes 97 = .ok (.iinc 4 1, 3) := by decide +kernel
theorem dX3_layPipes_100 : decode cX3_layPipes 100 = .ok (.goto (-88), 3) := by decide +kernel
theorem dX3_layPipes_103 : decode cX3_layPipes 103 = .ok (.iconst 0, 1) := by decide +kernel
theorem dX3_layPipes_104 : decode cX3_layPipes 104 = .ok (.istore 4, 2) := by decide +kernel
theorem dX3_layPipes_106 : decode cX3_layPipes 106 = .ok (.iload 4, 2) := by decide +kernel
theorem dX3_layPipes_108 : decode cX3_layPipes 108 = .ok (.bipush 24, 2) := by decide +kernel
theorem dX3_layPipes_110 : decode cX3_layPipes 110 = .ok (.if_icmp .ge 30, 3) := by decide +kernel
theorem dX3_layPipes_113 : decode cX3_layPipes 113 = .ok (.aload_n 0, 1) := by decide +kernel
theorem dX3_layPipes_114 : decode cX3_layPipes 114 = .ok (.getfield 34, 3) := by decide +kernel
theorem dX3_layPipes_117 : decode cX3_layPipes 117 = .ok (.bipush 8, 2) := by decide +kernel
theorem dX3_layPipes_119 : decode cX3_layPipes 119 = .ok (.iload 4, 2) := by decide +kernel
theorem dX3_layPipes_121 : decode cX3_layPipes 121 = .ok (.iadd, 1) := by decide +kernel
theorem dX3_layPipes_122 : decode cX3_layPipes 122 = .ok (.bipush 33, 2) := by decide +kernel
theorem dX3_layPipes_124 : decode cX3_layPipes 124 = .ok (.aload_n 1, 1) := by decide +kernel
theorem dX3_layPipes_125 : decode cX3_layPipes 125 = .ok (.iload 4, 2) := by decide +kernel
theorem dX3_layPipes_127 : decode cX3_layPipes 127 = .ok (.iload_n 2, 1) := by decide +kernel
theorem dX3_layPipes_128 : decode cX3_layPipes 128 = .ok (.invokevirtual 73, 3) := by decide +kernel
theorem dX3_layPipes_131 : decode cX3_layPipes 131 = .ok (.invokevirtual 69, 3) := by decide +kernel
theorem dX3_layPipes_134 : decode cX3_layPipes 134 = .ok (.iinc 4 1, 3) := by decide +kernel
theorem dX3_layPipes_137 : decode cX3_layPipes 137 = .ok (.goto (-31), 3) := by decide +kernel
theorem dX3_layPipes_140 : decode cX3_layPipes 140 = .ok (.iload_n 3, 1) := by decide +kernel
theorem dX3_layPipes_141 : decode cX3_layPipes 141 = .ok (.ireturn, 1) := by decide +kernel
set_option maxRecDepth 20000 in
theorem ggX3_settleParts_X0_settle : GoodIn wsX3_settleParts wsX0_settle := goodIn_r _ [10, 11, 12, 13, 14, 9, 15, 16, 17, 18, 19, 20, 21, 22, 23, 24, 25, 26, 27, 28, 29, 30, 31, 32, 33, 34, 35, 45, 46, 47, 48] (by decide +kernel) (by decide +kernel)
set_option maxRecDepth 20000 in
theorem gX3_settleParts_X0_settle : GoodIn wsX3_settleParts (wsV RX3 79 RX0 yX0_settle wsX0_settle) := goodIn_app (goodIn_of _ (by decide +kernel)) ggX3_settleParts_X0_settle
theorem dX3_settleParts_0 : decode cX3_settleParts 0 = .ok (.iconst 0, 1) := by decide +kernel
theorem dX3_settleParts_1 : decode cX3_settleParts 1 = .ok (.istore_n 1, 1) := by decide +kernel
theorem dX3_settleParts_2 : decode cX3_settleParts 2 = .ok (.iload_n 1, 1) := by decide +kernel
theorem dX3_settleParts_3 : decode cX3_settleParts 3 = .ok (.aload_n 0, 1) := by decide +kernel
theorem dX3_settleParts_4 : decode cX3_settleParts 4 = .ok (.getfield 42, 3) := by decide +kernel
theorem dX3_settleParts_7 : decode cX3_settleParts 7 = .ok (.if_icmp .ge 52, 3) := by decide +kernel
theorem dX3_settleParts_10 : decode cX3_settleParts 10 = .ok (.aload_n 0, 1) := by decide +kernel
theorem dX3_settleParts_11 : decode cX3_settleParts 11 = .ok (.getfield 20, 3) := by decide +kernel
theorem dX3_settleParts_14 : decode cX3_settleParts 14 = .ok (.iload_n 1, 1) := by decide +kernel
theorem dX3_settleParts_15 : decode cX3_settleParts 15 = .ok (.iaload, 1) := by decide +kernel
theorem dX3_settleParts_16 : decode cX3_settleParts 16 = .ok (.istore_n 2, 1) := by decide +kernel
theorem dX3_settleParts_17 : decode cX3_settleParts 17 = .ok (.iload_n 2, 1) := by decide +kernel
theorem dX3_settleParts_18 : decode cX3_settleParts 18 = .ok (.aload_n 0, 1) := by decide +kernel
theorem dX3_settleParts_19 : decode cX3_settleParts 19 = .ok (.getfield 23, 3) := by decide +kernel
theorem dX3_settleParts_22 : decode cX3_settleParts 22 = .ok (.iload_n 1, 1) := by decide +kernel
theorem dX3_settleParts_23 : decode cX3_settleParts 23 = .ok (.iaload, 1) := by decide +kernel
theorem dX3_settleParts_24 : decode cX3_settleParts 24 = .ok (.if_icmp .ge 29, 3) := by decide +kernel
theorem dX3_settleParts_27 : decode cX3_settleParts 27 = .ok (.aload_n 0, 1) := by decide +kernel
theorem dX3_settleParts_28 : decode cX3_settleParts 28 = .ok (.getfield 13, 3) := by decide +kernel
theorem dX3_settleParts_31 : decode cX3_settleParts 31 = .ok (.iload_n 1, 1) := by decide +kernel
theorem dX3_settleParts_32 : decode cX3_settleParts 32 = .ok (.aaload, 1) := by decide +kernel
theorem dX3_settleParts_33 : decode cX3_settleParts 33 = .ok (.iload_n 2, 1) := by decide +kernel
theorem dX3_settleParts_34 : decode cX3_settleParts 34 = .ok (.aload_n 0, 1) := by decide +kernel
theorem dX3_settleParts_35 : decode cX3_settleParts 35 = .ok (.getfield 34, 3) := by decide +kernel
theorem dX3_settleParts_38 : decode cX3_settleParts 38 = .ok (.iload_n 1, 1) := by decide +kernel
theorem dX3_settleParts_39 : decode cX3_settleParts 39 = .ok (.bipush 8, 2) := by decide +kernel
theorem dX3_settleParts_41 : decode cX3_settleParts 41 = .ok (.iload_n 2, 1) := by decide +kernel
theorem dX3_settleParts_42 : decode cX3_settleParts 42 = .ok (.iadd, 1) := by decide +kernel
theorem dX3_settleParts_43 : decode cX3_settleParts 43 = .ok (.invokevirtual 79, 3) := by decide +kernel
theorem dX3_settleParts_46 : decode cX3_settleParts 46 = .ok (.iastore, 1) := by decide +kernel
theorem dX3_settleParts_47 : decode cX3_settleParts 47 = .ok (.iinc 2 1, 3) := by decide +kernel
theorem dX3_settleParts_50 : decode cX3_settleParts 50 = .ok (.goto (-33), 3) := by decide +kernel
theorem dX3_settleParts_53 : decode cX3_settleParts 53 = .ok (.iinc 1 1, 3) := by decide +kernel
theorem dX3_settleParts_56 : decode cX3_settleParts 56 = .ok (.goto (-54), 3) := by decide +kernel
theorem dX3_settleParts_59 : decode cX3_settleParts 59 = .ok (.return_, 1) := by decide +kernel
set_option maxRecDepth 20000 in
theorem ggX4_init_J7_fill_53178 : GoodIn wsX4_init wsJ7_fill_53178 := goodIn_r _ [13] (by decide +kernel) (by decide +kernel)
set_option maxRecDepth 20000 in
theorem gX4_init_J7_fill_53178 : GoodIn wsX4_init (va_wsS RX4 23 yJ7_fill_53178 wsJ7_fill_53178) := goodIn_app (goodIn_of _ (by decide +kernel)) ggX4_init_J7_fill_53178
theorem dX4_init_0 : decode cX4_init 0 = .ok (.aload_n 0, 1) := by decide +kernel
theorem dX4_init_1 : decode cX4_init 1 = .ok (.invokespecial 3, 3) := by decide +kernel
theorem dX4_init_4 : decode cX4_init 4 = .ok (.aload_n 0, 1) := by decide +kernel
theorem dX4_init_5 : decode cX4_init 5 = .ok (.bipush 6, 2) := by decide +kernel
theorem dX4_init_7 : decode cX4_init 7 = .ok (.bipush 64, 2) := by decide +kernel
theorem dX4_init_9 : decode cX4_init 9 = .ok (.multianewarray 11 2, 4) := by decide +kernel
theorem dX4_init_13 : decode cX4_init 13 = .ok (.putfield 13, 3) := by decide +kernel
theorem dX4_init_16 : decode cX4_init 16 = .ok (.aload_n 0, 1) := by decide +kernel
theorem dX4_init_17 : decode cX4_init 17 = .ok (.bipush 6, 2) := by decide +kernel
theorem dX4_init_19 : decode cX4_init 19 = .ok (.newarray .int, 2) := by decide +kernel
theorem dX4_init_21 : decode cX4_init 21 = .ok (.putfield 16, 3) := by decide +kernel
theorem dX4_init_24 : decode cX4_init 24 = .ok (.aload_n 0, 1) := by decide +kernel
theorem dX4_init_25 : decode cX4_init 25 = .ok (.bipush 6, 2) := by decide +kernel
theorem dX4_init_27 : decode cX4_init 27 = .ok (.newarray .int, 2) := by decide +kernel
theorem dX4_init_29 : decode cX4_init 29 = .ok (.putfield 20, 3) := by decide +kernel
theorem dX4_init_32 : decode cX4_init 32 = .ok (.aload_n 0, 1) := by decide +kernel
theorem dX4_init_33 : decode cX4_init 33 = .ok (.getfield 20, 3) := by decide +kernel
theorem dX4_init_36 : decode cX4_init 36 = .ok (.iconst (-1), 1) := by decide +kernel
theorem dX4_init_37 : decode cX4_init 37 = .ok (.invokestatic 23, 3) := by decide +kernel
theorem dX4_init_40 : decode cX4_init 40 = .ok (.return_, 1) := by decide +kernel
set_option maxRecDepth 20000 in
theorem ggX4_isNumber_X6_within : GoodIn wsX4_isNumber wsX6_within := goodIn_r _ [3] (by decide +kernel) (by decide +kernel)
set_option maxRecDepth 20000 in
theorem gX4_isNumber_X6_within_n29 : GoodIn wsX4_isNumber (wsX6_within) := ggX4_isNumber_X6_within
theorem dX4_isNumber_0 : decode cX4_isNumber 0 = .ok (.iload_n 0, 1) := by decide +kernel
theorem dX4_isNumber_1 : decode cX4_isNumber 1 = .ok (.i2l, 1) := by decide +kernel
theorem dX4_isNumber_2 : decode cX4_isNumber 2 = .ok (.iconst 0, 1) := by decide +kernel
theorem dX4_isNumber_3 : decode cX4_isNumber 3 = .ok (.iconst 5, 1) := by decide +kernel
theorem dX4_isNumber_4 : decode cX4_isNumber 4 = .ok (.invokestatic 29, 3) := by decide +kernel
theorem dX4_isNumber_7 : decode cX4_isNumber 7 = .ok (.ireturn, 1) := by decide +kernel
theorem dX4_isMissing_0 : decode cX4_isMissing 0 = .ok (.aload_n 0, 1) := by decide +kernel
theorem dX4_isMissing_1 : decode cX4_isMissing 1 = .ok (.getfield 20, 3) := by decide +kernel
theorem dX4_isMissing_4 : decode cX4_isMissing 4 = .ok (.iload_n 1, 1) := by decide +kernel
theorem dX4_isMissing_5 : decode cX4_isMissing 5 = .ok (.iaload, 1) := by decide +kernel
theorem dX4_isMissing_6 : decode cX4_isMissing 6 = .ok (.iconst (-1), 1) := by decide +kernel
theorem dX4_isMissing_7 : decode cX4_isMissing 7 = .ok (.if_icmp .ne 7, 3) := by decide +kernel
theorem dX4_isMissing_10 : decode cX4_isMissing 10 = .ok (.iconst 1, 1) := by decide +kernel
theorem dX4_isMissing_11 : decode cX4_isMissing 11 = .ok (.goto 4, 3) := by decide +kernel
theorem dX4_isMissing_14 : decode cX4_isMissing 14 = .ok (.iconst 0, 1) := by decide +kernel
theorem dX4_isMissing_15 : decode cX4_isMissing 15 = .ok (.ireturn, 1) := by decide +kernel
set_option maxRecDepth 20000 in
theorem ggX4_make_J7_fill_d0a16 : GoodIn wsX4_make wsJ7_fill_d0a16 := goodIn_r _ [7] (by decide +kernel) (by decide +kernel)
set_option maxRecDepth 20000 in
theorem gX4_make_J7_fill_d0a16 : GoodIn wsX4_make (va_wsS RX4 33 yJ7_fill_d0a16 wsJ7_fill_d0a16) := goodIn_app (goodIn_of _ (by decide +kernel)) ggX4_make_J7_fill_d0a16
theorem dX4_make_0 : decode cX4_make 0 = .ok (.aload_n 0, 1) := by decide +kernel
theorem dX4_make_1 : decode cX4_make 1 = .ok (.getfield 13, 3) := by decide +kernel
theorem dX4_make_4 : decode cX4_make 4 = .ok (.iload_n 1, 1) := by decide +kernel
theorem dX4_make_5 : decode cX4_make 5 = .ok (.aaload, 1) := by decide +kernel
theorem dX4_make_6 : decode cX4_make 6 = .ok (.lconst 0, 1) := by decide +kernel
theorem dX4_make_7 : decode cX4_make 7 = .ok (.invokestatic 33, 3) := by decide +kernel
theorem dX4_make_10 : decode cX4_make 10 = .ok (.aload_n 0, 1) := by decide +kernel
theorem dX4_make_11 : decode cX4_make 11 = .ok (.getfield 16, 3) := by decide +kernel
theorem dX4_make_14 : decode cX4_make 14 = .ok (.iload_n 1, 1) := by decide +kernel
theorem dX4_make_15 : decode cX4_make 15 = .ok (.iload_n 2, 1) := by decide +kernel
theorem dX4_make_16 : decode cX4_make 16 = .ok (.iastore, 1) := by decide +kernel
theorem dX4_make_17 : decode cX4_make 17 = .ok (.aload_n 0, 1) := by decide +kernel
theorem dX4_make_18 : decode cX4_make 18 = .ok (.getfield 20, 3) := by decide +kernel
theorem dX4_make_21 : decode cX4_make 21 = .ok (.iload_n 1, 1) := by decide +kernel
theorem dX4_make_22 : decode cX4_make 22 = .ok (.iload_n 3, 1) := by decide +kernel
theorem dX4_make_23 : decode cX4_make 23 = .ok (.iastore, 1) := by decide +kernel
theorem dX4_make_24 : decode cX4_make 24 = .ok (.return_, 1) := by decide +kernel
theorem dX4_lose_0 : decode cX4_lose 0 = .ok (.aload_n 0, 1) := by decide +kernel
theorem dX4_lose_1 : decode cX4_lose 1 = .ok (.getfield 20, 3) := by decide +kernel
theorem dX4_lose_4 : decode cX4_lose 4 = .ok (.iload_n 1, 1) := by decide +kernel
theorem dX4_lose_5 : decode cX4_lose 5 = .ok (.iconst (-1), 1) := by decide +kernel
theorem dX4_lose_6 : decode cX4_lose 6 = .ok (.iastore, 1) := by decide +kernel
theorem dX4_lose_7 : decode cX4_lose 7 = .ok (.return_, 1) := by decide +kernel
theorem dX4_at_0 : decode cX4_at 0 = .ok (.aload_n 0, 1) := by decide +kernel
theorem dX4_at_1 : decode cX4_at 1 = .ok (.getfield 13, 3) := by decide +kernel
theorem dX4_at_4 : decode cX4_at 4 = .ok (.iload_n 1, 1) := by decide +kernel
theorem dX4_at_5 : decode cX4_at 5 = .ok (.aaload, 1) := by decide +kernel
theorem dX4_at_6 : decode cX4_at 6 = .ok (.iload_n 2, 1) := by decide +kernel
theorem dX4_at_7 : decode cX4_at 7 = .ok (.laload, 1) := by decide +kernel
theorem dX4_at_8 : decode cX4_at 8 = .ok (.lreturn, 1) := by decide +kernel
set_option maxRecDepth 20000 in
theorem ggX4_put_X4_cut : GoodIn wsX4_put wsX4_cut := goodIn_r _ [6] (by decide +kernel) (by decide +kernel)
set_option maxRecDepth 20000 in
theorem gX4_put_X4_cut : GoodIn wsX4_put (va_wsS RX4 36 yX4_cut wsX4_cut) := goodIn_app (goodIn_of _ (by decide +kernel)) ggX4_put_X4_cut
theorem dX4_put_0 : decode cX4_put 0 = .ok (.aload_n 0, 1) := by decide +kernel
theorem dX4_put_1 : decode cX4_put 1 = .ok (.getfield 13, 3) := by decide +kernel
theorem dX4_put_4 : decode cX4_put 4 = .ok (.iload_n 1, 1) := by decide +kernel
theorem dX4_put_5 : decode cX4_put 5 = .ok (.aaload, 1) := by decide +kernel
theorem dX4_put_6 : decode cX4_put 6 = .ok (.iload_n 2, 1) := by decide +kernel
theorem dX4_put_7 : decode cX4_put 7 = .ok (.lload_n 3, 1) := by decide +kernel
theorem dX4_put_8 : decode cX4_put 8 = .ok (.aload_n 0, 1) := by decide +kernel
theorem dX4_put_9 : decode cX4_put 9 = .ok (.getfield 16, 3) := by decide +kernel
theorem dX4_put_12 : decode cX4_put 12 = .ok (.iload_n 1, 1) := by decide +kernel
theorem dX4_put_13 : decode cX4_put 13 = .ok (.iaload, 1) := by decide +kernel
theorem dX4_put_14 : decode cX4_put 14 = .ok (.invokestatic 36, 3) := by decide +kernel
theorem dX4_put_17 : decode cX4_put 17 = .ok (.lastore, 1) := by decide +kernel
theorem dX4_put_18 : decode cX4_put 18 = .ok (.return_, 1) := by decide +kernel
set_option maxRecDepth 20000 in
theorem ggX4_whyNoPlace_X4_isNumber : GoodIn wsX4_whyNoPlace wsX4_isNumber := goodIn_r _ [5, 6, 7, 8] (by decide +kernel) (by decide +kernel)
set_option maxRecDepth 20000 in
theorem gX4_whyNoPlace_X4_isNumber : GoodIn wsX4_whyNoPlace (va_wsS RX4 40 yX4_isNumber wsX4_isNumber) := goodIn_app (goodIn_of _ (by decide +kernel)) ggX4_whyNoPlace_X4_isNumber
set_option maxRecDepth 20000 in
theorem ggX4_whyNoPlace_X4_isMissing : GoodIn wsX4_whyNoPlace wsX4_isMissing := goodIn_r _ [12, 1, 13, 14, 15] (by decide +kernel) (by decide +kernel)
set_option maxRecDepth 20000 in
theorem gX4_whyNoPlace_X4_isMissing : GoodIn wsX4_whyNoPlace (wsV RX4 44 RX4 yX4_isMissing wsX4_isMissing) := goodIn_app (goodIn_of _ (by decide +kernel)) ggX4_whyNoPlace_X4_isMissing
set_option maxRecDepth 20000 in
theorem ggX4_whyNoPlace_X6_within : GoodIn wsX4_whyNoPlace wsX6_within := goodIn_r _ [8] (by decide +kernel) (by decide +kernel)
set_option maxRecDepth 20000 in
theorem gX4_whyNoPlace_X6_within_n29 : GoodIn wsX4_whyNoPlace (wsX6_within) := ggX4_whyNoPlace_X6_within
theorem dX4_whyNoPlace_0 : decode cX4_whyNoPlace 0 = .ok (.iload_n 1, 1) := by decide +kernel
theorem dX4_whyNoPlace_1 : decode cX4_whyNoPlace 1 = .ok (.invokestatic 40, 3) := by decide +kernel
theorem dX4_whyNoPlace_4 : decode cX4_whyNoPlace 4 = .ok (.ifCond .ne 5, 3) := by decide +kernel
theorem dX4_whyNoPlace_7 : decode cX4_whyNoPlace 7 = .ok (.iconst 1, 1) := by decide +kernel
theorem dX4_whyNoPlace_8 : decode cX4_whyNoPlace 8 = .ok (.ireturn, 1) := by decide +kernel
theorem dX4_whyNoPlace_9 : decode cX4_whyNoPlace 9 = .ok (.aload_n 0, 1) := by decide +kernel
theorem dX4_whyNoPlace_10 : decode cX4_whyNoPlace 10 = .ok (.iload_n 1, 1) := by decide +kernel
theorem dX4_whyNoPlace_11 : decode cX4_whyNoPlace 11 = .ok (.invokevirtual 44, 3) := by decide +kernel
theorem dX4_whyNoPlace_14 : decode cX4_whyNoPlace 14 = .ok (.ifCond .eq 5, 3) := by decide +kernel
theorem dX4_whyNoPlace_17 : decode cX4_whyNoPlace 17 = .ok (.iconst 2, 1) := by decide +kernel
theorem dX4_whyNoPlace_18 : decode cX4_whyNoPlace 18 = .ok (.ireturn, 1) := by decide +kernel
theorem dX4_whyNoPlace_19 : decode cX4_whyNoPlace 19 = .ok (.iload_n 2, 1) := by decide +kernel
theorem dX4_whyNoPlace_20 : decode cX4_whyNoPlace 20 = .ok (.i2l, 1) := by decide +kernel
theorem dX4_whyNoPlace_21 : decode cX4_whyNoPlace 21 = .ok (.iconst 0, 1) := by decide +kernel
theorem dX4_whyNoPlace_22 : decode cX4_whyNoPlace 22 = .ok (.aload_n 0, 1) := by decide +kernel
theorem dX4_whyNoPlace_23 : decode cX4_whyNoPlace 23 = .ok (.getfield 20, 3) := by decide +kernel
theorem dX4_whyNoPlace_26 : decode cX4_whyNoPlace 26 = .ok (.iload_n 1, 1) := by decide +kernel
theorem dX4_whyNoPlace_27 : decode cX4_whyNoPlace 27 = .ok (.iaload, 1) := by decide +kernel
theorem dX4_whyNoPlace_28 : decode cX4_whyNoPlace 28 = .ok (.iconst 1, 1) := by decide +kernel
theorem dX4_whyNoPlace_29 : decode cX4_whyNoPlace 29 = .ok (.isub, 1) := by decide +kernel
theorem dX4_whyNoPlace_30 : decode cX4_whyNoPlace 30 = .ok (.invokestatic 29, 3) := by decide +kernel
theorem dX4_whyNoPlace_33 : decode cX4_whyNoPlace 33 = .ok (.ifCond .eq 7, 3) := by decide +kernel
theorem dX4_whyNoPlace_36 : decode cX4_whyNoPlace 36 = .ok (.iconst 0, 1) := by decide +kernel
theorem dX4_whyNoPlace_37 : decode cX4_whyNoPlace 37 = .ok (.goto 4, 3) := by decide +kernel
theorem dX4_whyNoPlace_40 : decode cX4_whyNoPlace 40 = .ok (.iconst 3, 1) := by decide +kernel
theorem dX4_whyNoPlace_41 : decode cX4_whyNoPlace 41 = .ok (.ireturn, 1) := by decide +kernel
set_option maxRecDepth 20000 in
theorem ggX4_whyNotFirst_X4_isMissing : GoodIn wsX4_whyNotFirst wsX4_isMissing := goodIn_r _ [7, 1, 11, 12, 13] (by decide +kernel) (by decide +kernel)
set_option maxRecDepth 20000 in
theorem gX4_whyNotFirst_X4_isMissing : GoodIn wsX4_whyNotFirst (wsV RX4 44 RX4 yX4_isMissing wsX4_isMissing) := goodIn_app (goodIn_of _ (by decide +kernel)) ggX4_whyNotFirst_X4_isMissing
set_option maxRecDepth 20000 in
theorem ggX4_whyNotFirst_X6_within : GoodIn wsX4_whyNotFirst wsX6_within := goodIn_r _ [10] (by decide +kernel) (by decide +kernel)
set_option maxRecDepth 20000 in
theorem gX4_whyNotFirst_X6_within_n29 : GoodIn wsX4_whyNotFirst (wsX6_within) := ggX4_whyNotFirst_X6_within
theorem dX4_whyNotFirst_0 : decode cX4_whyNotFirst 0 = .ok (.aload_n 0, 1) := by decide +kernel
theorem dX4_whyNotFirst_1 : decode cX4_whyNotFirst 1 = .ok (.iload_n 1, 1) := by decide +kernel
theorem dX4_whyNotFirst_2 : decode cX4_whyNotFirst 2 = .ok (.invokevirtual 44, 3) := by decide +kernel
theorem dX4_whyNotFirst_5 : decode cX4_whyNotFirst 5 = .ok (.ifCond .eq 5, 3) := by decide +kernel
theorem dX4_whyNotFirst_8 : decode cX4_whyNotFirst 8 = .ok (.iconst 2, 1) := by decide +kernel
theorem dX4_whyNotFirst_9 : decode cX4_whyNotFirst 9 = .ok (.ireturn, 1) := by decide +kernel
theorem dX4_whyNotFirst_10 : decode cX4_whyNotFirst 10 = .ok (.iload_n 2, 1) := by decide +kernel
theorem dX4_whyNotFirst_11 : decode cX4_whyNotFirst 11 = .ok (.aload_n 0, 1) := by decide +kernel
theorem dX4_whyNotFirst_12 : decode cX4_whyNotFirst 12 = .ok (.getfield 20, 3) := by decide +kernel
theorem dX4_whyNotFirst_15 : decode cX4_whyNotFirst 15 = .ok (.iload_n 1, 1) := by decide +kernel
theorem dX4_whyNotFirst_16 : decode cX4_whyNotFirst 16 = .ok (.iaload, 1) := by decide +kernel
theorem dX4_whyNotFirst_17 : decode cX4_whyNotFirst 17 = .ok (.if_icmp .le 5, 3) := by decide +kernel
theorem dX4_whyNotFirst_20 : decode cX4_whyNotFirst 20 = .ok (.iconst 3, 1) := by decide +kernel
theorem dX4_whyNotFirst_21 : decode cX4_whyNotFirst 21 = .ok (.ireturn, 1) := by decide +kernel
theorem dX4_whyNotFirst_22 : decode cX4_whyNotFirst 22 = .ok (.iconst 0, 1) := by decide +kernel
theorem dX4_whyNotFirst_23 : decode cX4_whyNotFirst 23 = .ok (.istore 4, 2) := by decide +kernel
theorem dX4_whyNotFirst_25 : decode cX4_whyNotFirst 25 = .ok (.iload 4, 2) := by decide +kernel
theorem dX4_whyNotFirst_27 : decode cX4_whyNotFirst 27 = .ok (.iload_n 2, 1) := by decide +kernel
theorem dX4_whyNotFirst_28 : decode cX4_whyNotFirst 28 = .ok (.if_icmp .ge 28, 3) := by decide +kernel
theorem dX4_whyNotFirst_31 : decode cX4_whyNotFirst 31 = .ok (.aload_n 0, 1) := by decide +kernel
theorem dX4_whyNotFirst_32 : decode cX4_whyNotFirst 32 = .ok (.getfield 13, 3) := by decide +kernel
theorem dX4_whyNotFirst_35 : decode cX4_whyNotFirst 35 = .ok (.iload_n 1, 1) := by decide +kernel
theorem dX4_whyNotFirst_36 : decode cX4_whyNotFirst 36 = .ok (.aaload, 1) := by decide +kernel
theorem dX4_whyNotFirst_37 : decode cX4_whyNotFirst 37 = .ok (.iload 4, 2) := by decide +kernel
theorem dX4_whyNotFirst_39 : decode cX4_whyNotFirst 39 = .ok (.laload, 1) := by decide +kernel
theorem dX4_whyNotFirst_40 : decode cX4_whyNotFirst 40 = .ok (.iconst 0, 1) := by decide +kernel
theorem dX4_whyNotFirst_41 : decode cX4_whyNotFirst 41 = .ok (.iload_n 3, 1) := by decide +kernel
theorem dX4_whyNotFirst_42 : decode cX4_whyNotFirst 42 = .ok (.invokestatic 29, 3) := by decide +kernel
theorem dX4_whyNotFirst_45 : decode cX4_whyNotFirst 45 = .ok (.ifCond .ne 5, 3) := by decide +kernel
theorem dX4_whyNotFirst_48 : decode cX4_whyNotFirst 48 = .ok (.iconst 1, 1) := by decide +kernel
theorem dX4_whyNotFirst_49 : decode cX4_whyNotFirst 49 = .ok (.ireturn, 1) := by decide +kernel
theorem dX4_whyNotFirst_50 : decode cX4_whyNotFirst 50 = .ok (.iinc 4 1, 3) := by decide +kernel
theorem dX4_whyNotFirst_53 : decode cX4_whyNotFirst 53 = .ok (.goto (-28), 3) := by decide +kernel
theorem dX4_whyNotFirst_56 : decode cX4_whyNotFirst 56 = .ok (.iconst 0, 1) := by decide +kernel
theorem dX4_whyNotFirst_57 : decode cX4_whyNotFirst 57 = .ok (.ireturn, 1) := by decide +kernel
theorem dX4_spans_0 : decode cX4_spans 0 = .ok (.iload_n 2, 1) := by decide +kernel
theorem dX4_spans_1 : decode cX4_spans 1 = .ok (.i2l, 1) := by decide +kernel
theorem dX4_spans_2 : decode cX4_spans 2 = .ok (.iload_n 3, 1) := by decide +kernel
theorem dX4_spans_3 : decode cX4_spans 3 = .ok (.i2l, 1) := by decide +kernel
theorem dX4_spans_4 : decode cX4_spans 4 = .ok (.ladd, 1) := by decide +kernel
theorem dX4_spans_5 : decode cX4_spans 5 = .ok (.aload_n 0, 1) := by decide +kernel
theorem dX4_spans_6 : decode cX4_spans 6 = .ok (.getfield 20, 3) := by decide +kernel
theorem dX4_spans_9 : decode cX4_spans 9 = .ok (.iload_n 1, 1) := by decide +kernel
theorem dX4_spans_10 : decode cX4_spans 10 = .ok (.iaload, 1) := by decide +kernel
theorem dX4_spans_11 : decode cX4_spans 11 = .ok (.i2l, 1) := by decide +kernel
theorem dX4_spans_12 : decode cX4_spans 12 = .ok (.lcmp, 1) := by decide +kernel
theorem dX4_spans_13 : decode cX4_spans 13 = .ok (.ifCond .gt 7, 3) := by decide +kernel
theorem dX4_spans_16 : decode cX4_spans 16 = .ok (.iconst 1, 1) := by decide +kernel
theorem dX4_spans_17 : decode cX4_spans 17 = .ok (.goto 4, 3) := by decide +kernel
theorem dX4_spans_20 : decode cX4_spans 20 = .ok (.iconst 0, 1) := by decide +kernel
theorem dX4_spans_21 : decode cX4_spans 21 = .ok (.ireturn, 1) := by decide +kernel
set_option maxRecDepth 20000 in
theorem ggX4_carry_X4_put : GoodIn wsX4_carry wsX4_put := goodIn_r _ [10, 1, 11, 12, 13, 9, 14, 15, 16, 17] (by decide +kernel) (by decide +kernel)
set_option maxRecDepth 20000 in
theorem gX4_carry_X4_put : GoodIn wsX4_carry (wsV RX4 53 RX4 yX4_put wsX4_put) := goodIn_app (goodIn_of _ (by decide +kernel)) ggX4_carry_X4_put
theorem dX4_carry_0 : decode cX4_carry 0 = .ok (.aload_n 0, 1) := by decide +kernel
theorem dX4_carry_1 : decode cX4_carry 1 = .ok (.getfield 13, 3) := by decide +kernel
theorem dX4_carry_4 : decode cX4_carry 4 = .ok (.iload_n 1, 1) := by decide +kernel
theorem dX4_carry_5 : decode cX4_carry 5 = .ok (.aaload, 1) := by decide +kernel
theorem dX4_carry_6 : decode cX4_carry 6 = .ok (.iload_n 2, 1) := by decide +kernel
theorem dX4_carry_7 : decode cX4_carry 7 = .ok (.aload_n 0, 1) := by decide +kernel
theorem dX4_carry_8 : decode cX4_carry 8 = .ok (.getfield 13, 3) := by decide +kernel
theorem dX4_carry_11 : decode cX4_carry 11 = .ok (.iload_n 3, 1) := by decide +kernel
theorem dX4_carry_12 : decode cX4_carry 12 = .ok (.aaload, 1) := by decide +kernel
theorem dX4_carry_13 : decode cX4_carry 13 = .ok (.iload 4, 2) := by decide +kernel
theorem dX4_carry_15 : decode cX4_carry 15 = .ok (.iload 5, 2) := by decide +kernel
theorem dX4_carry_17 : decode cX4_carry 17 = .ok (.invokestatic 47, 3) := by decide +kernel
theorem dX4_carry_20 : decode cX4_carry 20 = .ok (.iload 4, 2) := by decide +kernel
theorem dX4_carry_22 : decode cX4_carry 22 = .ok (.istore 6, 2) := by decide +kernel
theorem dX4_carry_24 : decode cX4_carry 24 = .ok (.iload 6, 2) := by decide +kernel
theorem dX4_carry_26 : decode cX4_carry 26 = .ok (.iload 4, 2) := by decide +kernel
theorem dX4_carry_28 : decode cX4_carry 28 = .ok (.iload 5, 2) := by decide +kernel
theorem dX4_carry_30 : decode cX4_carry 30 = .ok (.iadd, 1) := by decide +kernel
theorem dX4_carry_31 : decode cX4_carry 31 = .ok (.if_icmp .ge 25, 3) := by decide +kernel
theorem dX4_carry_34 : decode cX4_carry 34 = .ok (.aload_n 0, 1) := by decide +kernel
theorem dX4_carry_35 : decode cX4_carry 35 = .ok (.iload_n 3, 1) := by decide +kernel
theorem dX4_carry_36 : decode cX4_carry 36 = .ok (.iload 6, 2) := by decide +kernel
theorem dX4_carry_38 : decode cX4_carry 38 = .ok (.aload_n 0, 1) := by decide +kernel
theorem dX4_carry_39 : decode cX4_carry 39 = .ok (.getfield 13, 3) := by decide +kernel
theorem dX4_carry_42 : decode cX4_carry 42 = .ok (.iload_n 3, 1) := by decide +kernel
theorem dX4_carry_43 : decode cX4_carry 43 = .ok (.aaload, 1) := by decide +kernel
theorem dX4_carry_44 : decode cX4_carry 44 = .ok (.iload 6, 2) := by decide +kernel
theorem dX4_carry_46 : decode cX4_carry 46 = .ok (.laload, 1) := by decide +kernel
theorem dX4_carry_47 : decode cX4_carry 47 = .ok (.invokevirtual 53, 3) := by decide +kernel
theorem dX4_carry_50 : decode cX4_carry 50 = .ok (.iinc 6 1, 3) := by decide +kernel
theorem dX4_carry_53 : decode cX4_carry 53 = .ok (.goto (-29), 3) := by decide +kernel
theorem dX4_carry_56 : decode cX4_carry 56 = .ok (.return_, 1) := by decide +kernel
theorem dX4_cut_0 : decode cX4_cut 0 = .ok (.iload_n 2, 1) := by decide +kernel
theorem dX4_cut_1 : decode cX4_cut 1 = .ok (.tableswitch 41 0 2 #[27, 32, 37], 27) := by decide +kernel
theorem dX4_cut_28 : decode cX4_cut 28 = .ok (.lload_n 0, 1) := by decide +kernel
theorem dX4_cut_29 : decode cX4_cut 29 = .ok (.l2i, 1) := by decide +kernel
theorem dX4_cut_30 : decode cX4_cut 30 = .ok (.i2b, 1) := by decide +kernel
theorem dX4_cut_31 : decode cX4_cut 31 = .ok (.i2l, 1) := by decide +kernel
theorem dX4_cut_32 : decode cX4_cut 32 = .ok (.lreturn, 1) := by decide +kernel
theorem dX4_cut_33 : decode cX4_cut 33 = .ok (.lload_n 0, 1) := by decide +kernel
theorem dX4_cut_34 : decode cX4_cut 34 = .ok (.l2i, 1) := by decide +kernel
theorem dX4_cut_35 : decode cX4_cut 35 = .ok (.i2s, 1) := by decide +kernel
theorem dX4_cut_36 : decode cX4_cut 36 = .ok (.i2l, 1) := by decide +kernel
theorem dX4_cut_37 : decode cX4_cut 37 = .ok (.lreturn, 1) := by decide +kernel
theorem dX4_cut_38 : decode cX4_cut 38 = .ok (.lload_n 0, 1) := by decide +kernel
theorem dX4_cut_39 : decode cX4_cut 39 = .ok (.l2i, 1) := by decide +kernel
theorem dX4_cut_40 : decode cX4_cut 40 = .ok (.i2l, 1) := by decide +kernel
theorem dX4_cut_41 : decode cX4_cut 41 = .ok (.lreturn, 1) := by decide +kernel
theorem dX4_cut_42 : decode cX4_cut 42 = .ok (.lload_n 0, 1) := by decide +kernel
theorem dX4_cut_43 : decode cX4_cut 43 = .ok (.lreturn, 1) := by decide +kernel
theorem dX5_init_0 : decode cX5_init 0 = .ok (.aload_n 0, 1) := by decide +kernel
theorem dX5_init_1 : decode cX5_init 1 = .ok (.invokespecial 1, 3) := by decide +kernel
theorem dX5_init_4 : decode cX5_init 4 = .ok (.aload_n 0, 1) := by decide +kernel
theorem dX5_init_5 : decode cX5_init 5 = .ok (.bipush 20, 2) := by decide +kernel
theorem dX5_init_7 : decode cX5_init 7 = .ok (.newarray .int, 2) := by decide +kernel
theorem dX5_init_9 : decode cX5_init 9 = .ok (.putfield 9, 3) := by decide +kernel
theorem dX5_init_12 : decode cX5_init 12 = .ok (.return_, 1) := by decide +kernel
set_option maxRecDepth 20000 in
theorem ggX5_serve_J7_fill_53178 : GoodIn wsX5_serve wsJ7_fill_53178 := goodIn_r _ [14] (by decide +kernel) (by decide +kernel)
set_option maxRecDepth 20000 in
theorem gX5_serve_J7_fill_53178 : GoodIn wsX5_serve (va_wsS RX5 29 yJ7_fill_53178 wsJ7_fill_53178) := goodIn_app (goodIn_of _ (by decide +kernel)) ggX5_serve_J7_fill_53178
set_option maxRecDepth 20000 in
theorem ggX5_serve_X4_at : GoodIn wsX5_serve wsX4_at := goodIn_r _ [19, 20, 32, 33, 34] (by decide +kernel) (by decide +kernel)
set_option maxRecDepth 20000 in
theorem gX5_serve_X4_at : GoodIn wsX5_serve (wsV RX5 35 RX4 yX4_at wsX4_at) := goodIn_app (goodIn_of _ (by decide +kernel)) ggX5_serve_X4_at
set_option maxRecDepth 20000 in
theorem ggX5_serve_X5_note : GoodIn wsX5_serve wsX5_note := goodIn_r _ [25, 1, 7, 8, 9, 10, 2, 3, 4, 26, 27, 28, 29, 30, 31] (by decide +kernel) (by decide +kernel)
set_option maxRecDepth 20000 in
theorem gX5_serve_X5_note : GoodIn wsX5_serve (wsV RX5 47 RX5 yX5_note wsX5_note) := goodIn_app (goodIn_of _ (by decide +kernel)) ggX5_serve_X5_note
theorem dX5_serve_0 : decode cX5_serve 0 = .ok (.aload_n 0, 1) := by decide +kernel
theorem dX5_serve_1 : decode cX5_serve 1 = .ok (.iconst 0, 1) := by decide +kernel
theorem dX5_serve_2 : decode cX5_serve 2 = .ok (.putfield 13, 3) := by decide +kernel
theorem dX5_serve_5 : decode cX5_serve 5 = .ok (.aload_n 0, 1) := by decide +kernel
theorem dX5_serve_6 : decode cX5_serve 6 = .ok (.iconst 0, 1) := by decide +kernel
theorem dX5_serve_7 : decode cX5_serve 7 = .ok (.putfield 17, 3) := by decide +kernel
theorem dX5_serve_10 : decode cX5_serve 10 = .ok (.aload_n 0, 1) := by decide +kernel
theorem dX5_serve_11 : decode cX5_serve 11 = .ok (.iconst 0, 1) := by decide +kernel
theorem dX5_serve_12 : decode cX5_serve 12 = .ok (.putfield 20, 3) := by decide +kernel
theorem dX5_serve_15 : decode cX5_serve 15 = .ok (.aload_n 0, 1) := by decide +kernel
theorem dX5_serve_16 : decode cX5_serve 16 = .ok (.iconst 0, 1) := by decide +kernel
theorem dX5_serve_17 : decode cX5_serve 17 = .ok (.putfield 23, 3) := by decide +kernel
theorem dX5_serve_20 : decode cX5_serve 20 = .ok (.aload_n 0, 1) := by decide +kernel
theorem dX5_serve_21 : decode cX5_serve 21 = .ok (.iconst 0, 1) := by decide +kernel
theorem dX5_serve_22 : decode cX5_serve 22 = .ok (.putfield 26, 3) := by decide +kernel
theorem dX5_serve_25 : decode cX5_serve 25 = .ok (.aload_n 0, 1) := by decide +kernel
theorem dX5_serve_26 : decode cX5_serve 26 = .ok (.getfield 9, 3) := by decide +kernel
theorem dX5_serve_29 : decode cX5_serve 29 = .ok (.iconst 0, 1) := by decide +kernel
theorem dX5_serve_30 : decode cX5_serve 30 = .ok (.invokestatic 29, 3) := by decide +kernel
theorem dX5_serve_33 : decode cX5_serve 33 = .ok (.iconst 0, 1) := by decide +kernel
theorem dX5_serve_34 : decode cX5_serve 34 = .ok (.istore 6, 2) := by decide +kernel
theorem dX5_serve_36 : decode cX5_serve 36 = .ok (.iconst 0, 1) := by decide +kernel
theorem dX5_serve_37 : decode cX5_serve 37 = .ok (.istore 7, 2) := by decide +kernel
theorem dX5_serve_39 : decode cX5_serve 39 = .ok (.iload 7, 2) := by decide +kernel
theorem dX5_serve_41 : decode cX5_serve 41 = .ok (.iload_n 3, 1) := by decide +kernel
theorem dX5_serve_42 : decode cX5_serve 42 = .ok (.if_icmp .ge 98, 3) := by decide +kernel
theorem dX5_serve_45 : decode cX5_serve 45 = .ok (.aload_n 1, 1) := by decide +kernel
theorem dX5_serve_46 : decode cX5_serve 46 = .ok (.iload_n 2, 1) := by decide +kernel
theorem dX5_serve_47 : decode cX5_serve 47 = .ok (.iload 7, 2) := by decide +kernel
theorem dX5_serve_49 : decode cX5_serve 49 = .ok (.invokevirtual 35, 3) := by decide +kernel
theorem dX5_serve_52 : decode cX5_serve 52 = .ok (.lstore 8, 2) := by decide +kernel
theorem dX5_serve_54 : decode cX5_serve 54 = .ok (.iconst 0, 1) := by decide +kernel
theorem dX5_serve_55 : decode cX5_serve 55 = .ok (.istore 10, 2) := by decide +kernel
theorem dX5_serve_57 : decode cX5_serve 57 = .ok (.iload 10, 2) := by decide +kernel
theorem dX5_serve_59 : decode cX5_serve 59 = .ok (.i2l, 1) := by decide +kernel
theorem dX5_serve_60 : decode cX5_serve 60 = .ok (.lload 8, 2) := by decide +kernel
theorem dX5_serve_62 : decode cX5_serve 62 = .ok (.lcmp, 1) := by decide +kernel
theorem dX5_serve_63 : decode cX5_serve 63 = .ok (.ifCond .ge 71, 3) := by decide +kernel
theorem dX5_serve_66 : decode cX5_serve 66 = .ok (.iload 7, 2) := by decide +kernel
theorem dX5_serve_68 : decode cX5_serve 68 = .ok (.aload_n 0, 1) := by decide +kernel
theorem dX5_serve_69 : decode cX5_serve 69 = .ok (.getfield 9, 3) := by decide +kernel
theorem dX5_serve_72 : decode cX5_serve 72 = .ok (.iload 6, 2) := by decide +kernel
theorem dX5_serve_74 : decode cX5_serve 74 = .ok (.iaload, 1) := by decide +kernel
theorem dX5_serve_75 : decode cX5_serve 75 = .ok (.invokestatic 41, 3) := by decide +kernel
theorem dX5_serve_78 : decode cX5_serve 78 = .ok (.istore 11, 2) := by decide +kernel
theorem dX5_serve_80 : decode cX5_serve 80 = .ok (.aload_n 0, 1) := by decide +kernel
theorem dX5_serve_81 : decode cX5_serve 81 = .ok (.iload 11, 2) := by decide +kernel
theorem dX5_serve_83 : decode cX5_serve 83 = .ok (.iload 7, 2) := by decide +kernel
theorem dX5_serve_85 : decode cX5_serve 85 = .ok (.isub, 1) := by decide +kernel
theorem dX5_serve_86 : decode cX5_serve 86 = .ok (.invokevirtual 47, 3) := by decide +kernel
theorem dX5_serve_89 : decode cX5_serve 89 = .ok (.aload_n 0, 1) := by decide +kernel
theorem dX5_serve_90 : decode cX5_serve 90 = .ok (.iload 11, 2) := by decide +kernel
theorem dX5_serve_92 : decode cX5_serve 92 = .ok (.iload 5, 2) := by decide +kernel
theorem dX5_serve_94 : decode cX5_serve 94 = .ok (.iadd, 1) := by decide +kernel
theorem dX5_serve_95 : decode cX5_serve 95 = .ok (.putfield 26, 3) := by decide +kernel
theorem dX5_serve_98 : decode cX5_serve 98 = .ok (.aload_n 0, 1) := by decide +kernel
theorem dX5_serve_99 : decode cX5_serve 99 = .ok (.getfield 9, 3) := by decide +kernel
theorem dX5_serve_102 : decode cX5_serve 102 = .ok (.iload 6, 2) := by decide +kernel
theorem dX5_serve_104 : decode cX5_serve 104 = .ok (.aload_n 0, 1) := by decide +kernel
theorem dX5_serve_105 : decode cX5_serve 105 = .ok (.getfield 26, 3) := by decide +kernel
theorem dX5_serve_108 : decode cX5_serve 108 = .ok (.iastore, 1) := by decide +kernel
theorem dX5_serve_109 : decode cX5_serve 109 = .ok (.iload 6, 2) := by decide +kernel
theorem dX5_serve_111 : decode cX5_serve 111 = .ok (.iconst 1, 1) := by decide +kernel
theorem dX5_serve_112 : decode cX5_serve 112 = .ok (.iadd, 1) := by decide +kernel
theorem dX5_serve_113 : decode cX5_serve 113 = .ok (.iload 4, 2) := by decide +kernel
theorem dX5_serve_115 : decode cX5_serve 115 = .ok (.if_icmp .ge 10, 3) := by decide +kernel
theorem dX5_serve_118 : decode cX5_serve 118 = .ok (.iload 6, 2) := by decide +kernel
theorem dX5_serve_120 : decode cX5_serve 120 = .ok (.iconst 1, 1) := by decide +kernel
theorem dX5_serve_121 : decode cX5_serve 121 = .ok (.iadd, 1) := by decide +kernel
theorem dX5_serve_122 : decode cX5_serve 122 = .ok (.goto 4, 3) := by decide +kernel
theorem dX5_serve_125 : decode cX5_serve 125 = .ok (.iconst 0, 1) := by decide +kernel
theorem dX5_serve_126 : decode cX5_serve 126 = .ok (.istore 6, 2) := by decide +kernel
theorem dX5_serve_128 : decode cX5_serve 128 = .ok (.iinc 10 1, 3) := by decide +kernel
theorem dX5_serve_131 : decode cX5_serve 131 = .ok (.goto (-74), 3) := by decide +kernel
theorem dX5_serve_134 : decode cX5_serve 134 = .ok (.iinc 7 1, 3) := by decide +kernel
theorem dX5_serve_137 : decode cX5_serve 137 = .ok (.goto (-98), 3) := by decide +kernel
theorem dX5_serve_140 : decode cX5_serve 140 = .ok (.return_, 1) := by decide +kernel
theorem dX5_told_0 : decode cX5_told 0 = .ok (.iload_n 1, 1) := by decide +kernel
theorem dX5_told_1 : decode cX5_told 1 = .ok (.tableswitch 51 0 3 #[31, 36, 41, 46], 31) := by decide +kernel
theorem dX5_told_32 : decode cX5_told 32 = .ok (.aload_n 0, 1) := by decide +kernel
theorem dX5_told_33 : decode cX5_told 33 = .ok (.getfield 13, 3) := by decide +kernel
theorem dX5_told_36 : decode cX5_told 36 = .ok (.ireturn, 1) := by decide +kernel
theorem dX5_told_37 : decode cX5_told 37 = .ok (.aload_n 0, 1) := by decide +kernel
theorem dX5_told_38 : decode cX5_told 38 = .ok (.getfield 17, 3) := by decide +kernel
theorem dX5_told_41 : decode cX5_told 41 = .ok (.ireturn, 1) := by decide +kernel
theorem dX5_told_42 : decode cX5_told 42 = .ok (.aload_n 0, 1) := by decide +kernel
theorem dX5_told_43 : decode cX5_told 43 = .ok (.getfield 20, 3) := by decide +kernel
theorem dX5_told_46 : decode cX5_told 46 = .ok (.ireturn, 1) := by decide +kernel
theorem dX5_told_47 : decode cX5_told 47 = .ok (.aload_n 0, 1) := by decide +kernel
theorem dX5_told_48 : decode cX5_told 48 = .ok (.getfield 23, 3) := by decide +kernel
theorem dX5_told_51 : decode cX5_told 51 = .ok (.ireturn, 1) := by decide +kernel
theorem dX5_told_52 : decode cX5_told 52 = .ok (.aload_n 0, 1) := by decide +kernel
theorem dX5_told_53 : decode cX5_told 53 = .ok (.getfield 26, 3) := by decide +kernel
theorem dX5_told_56 : decode cX5_told 56 = .ok (.ireturn, 1) := by decide +kernel
theorem dX5_note_0 : decode cX5_note 0 = .ok (.aload_n 0, 1) := by decide +kernel
theorem dX5_note_1 : decode cX5_note 1 = .ok (.aload_n 0, 1) := by decide +kernel
theorem dX5_note_2 : decode cX5_note 2 = .ok (.getfield 13, 3) := by decide +kernel
theorem dX5_note_5 : decode cX5_note 5 = .ok (.iload_n 1, 1) := by decide +kernel
theorem dX5_note_6 : decode cX5_note 6 = .ok (.invokestatic 41, 3) := by decide +kernel
theorem dX5_note_9 : decode cX5_note 9 = .ok (.putfield 13, 3) := by decide +kernel
theorem dX5_note_12 : decode cX5_note 12 = .ok (.aload_n 0, 1) := by decide +kernel
theorem dX5_note_13 : decode cX5_note 13 = .ok (.dup, 1) := by decide +kernel
theorem dX5_note_14 : decode cX5_note 14 = .ok (.getfield 17, 3) := by decide +kernel
theorem dX5_note_17 : decode cX5_note 17 = .ok (.iload_n 1, 1) := by decide +kernel
theorem dX5_note_18 : decode cX5_note 18 = .ok (.iadd, 1) := by decide +kernel
theorem dX5_note_19 : decode cX5_note 19 = .ok (.putfield 17, 3) := by decide +kernel
theorem dX5_note_22 : decode cX5_note 22 = .ok (.aload_n 0, 1) := by decide +kernel
theorem dX5_note_23 : decode cX5_note 23 = .ok (.dup, 1) := by decide +kernel
theorem dX5_note_24 : decode cX5_note 24 = .ok (.getfield 20, 3) := by decide +kernel
theorem dX5_note_27 : decode cX5_note 27 = .ok (.iconst 1, 1) := by decide +kernel
theorem dX5_note_28 : decode cX5_note 28 = .ok (.iadd, 1) := by decide +kernel
theorem dX5_note_29 : decode cX5_note 29 = .ok (.putfield 20, 3) := by decide +kernel
theorem dX5_note_32 : decode cX5_note 32 = .ok (.aload_n 0, 1) := by decide +kernel
theorem dX5_note_33 : decode cX5_note 33 = .ok (.dup, 1) := by decide +kernel
theorem dX5_note_34 : decode cX5_note 34 = .ok (.getfield 23, 3) := by decide +kernel
theorem dX5_note_37 : decode cX5_note 37 = .ok (.iload_n 1, 1) := by decide +kernel
theorem dX5_note_38 : decode cX5_note 38 = .ok (.ifCond .le 7, 3) := by decide +kernel
theorem dX5_note_41 : decode cX5_note 41 = .ok (.iconst 1, 1) := by decide +kernel
theorem dX5_note_42 : decode cX5_note 42 = .ok (.goto 4, 3) := by decide +kernel
theorem dX5_note_45 : decode cX5_note 45 = .ok (.iconst 0, 1) := by decide +kernel
theorem dX5_note_46 : decode cX5_note 46 = .ok (.iadd, 1) := by decide +kernel
theorem dX5_note_47 : decode cX5_note 47 = .ok (.putfield 23, 3) := by decide +kernel
theorem dX5_note_50 : decode cX5_note 50 = .ok (.return_, 1) := by decide +kernel
theorem dX6_within_0 : decode cX6_within 0 = .ok (.lload_n 0, 1) := by decide +kernel
theorem dX6_within_1 : decode cX6_within 1 = .ok (.iload_n 2, 1) := by decide +kernel
theorem dX6_within_2 : decode cX6_within 2 = .ok (.i2l, 1) := by decide +kernel
theorem dX6_within_3 : decode cX6_within 3 = .ok (.lcmp, 1) := by decide +kernel
theorem dX6_within_4 : decode cX6_within 4 = .ok (.ifCond .lt 14, 3) := by decide +kernel
theorem dX6_within_7 : decode cX6_within 7 = .ok (.lload_n 0, 1) := by decide +kernel
theorem dX6_within_8 : decode cX6_within 8 = .ok (.iload_n 3, 1) := by decide +kernel
theorem dX6_within_9 : decode cX6_within 9 = .ok (.i2l, 1) := by decide +kernel
theorem dX6_within_10 : decode cX6_within 10 = .ok (.lcmp, 1) := by decide +kernel
theorem dX6_within_11 : decode cX6_within 11 = .ok (.ifCond .gt 7, 3) := by decide +kernel
theorem dX6_within_14 : decode cX6_within 14 = .ok (.iconst 1, 1) := by decide +kernel
theorem dX6_within_15 : decode cX6_within 15 = .ok (.goto 4, 3) := by decide +kernel
theorem dX6_within_18 : decode cX6_within 18 = .ok (.iconst 0, 1) := by decide +kernel
theorem dX6_within_19 : decode cX6_within 19 = .ok (.ireturn, 1) := by decide +kernel
theorem dJ9_max_7cf53_0 : decode cJ9_max_7cf53 0 = .ok (.iload_n 0, 1) := by decide +kernel
theorem dJ9_max_7cf53_1 : decode cJ9_max_7cf53 1 = .ok (.iload_n 1, 1) := by decide +kernel
theorem dJ9_max_7cf53_2 : decode cJ9_max_7cf53 2 = .ok (.if_icmp .lt 7, 3) := by decide +kernel
theorem dJ9_max_7cf53_5 : decode cJ9_max_7cf53 5 = .ok (.iload_n 0, 1) := by decide +kernel
theorem dJ9_max_7cf53_6 : decode cJ9_max_7cf53 6 = .ok (.goto 4, 3) := by decide +kernel
theorem dJ9_max_7cf53_9 : decode cJ9_max_7cf53 9 = .ok (.iload_n 1, 1) := by decide +kernel
theorem dJ9_max_7cf53_10 : decode cJ9_max_7cf53 10 = .ok (.ireturn, 1) := by decide +kernel
theorem dJ9_min_7cf53_0 : decode cJ9_min_7cf53 0 = .ok (.iload_n 0, 1) := by decide +kernel
theorem dJ9_min_7cf53_1 : decode cJ9_min_7cf53 1 = .ok (.iload_n 1, 1) := by decide +kernel
theorem dJ9_min_7cf53_2 : decode cJ9_min_7cf53 2 = .ok (.if_icmp .gt 7, 3) := by decide +kernel
theorem dJ9_min_7cf53_5 : decode cJ9_min_7cf53 5 = .ok (.iload_n 0, 1) := by decide +kernel
theorem dJ9_min_7cf53_6 : decode cJ9_min_7cf53 6 = .ok (.goto 4, 3) := by decide +kernel
theorem dJ9_min_7cf53_9 : decode cJ9_min_7cf53 9 = .ok (.iload_n 1, 1) := by decide +kernel
theorem dJ9_min_7cf53_10 : decode cJ9_min_7cf53 10 = .ok (.ireturn, 1) := by decide +kernel
theorem dJ7_rangeCheck_23922_0 : decode cJ7_rangeCheck_23922 0 = .ok (.iload_n 1, 1) := by decide +kernel
theorem dJ7_rangeCheck_23922_1 : decode cJ7_rangeCheck_23922 1 = .ok (.iload_n 2, 1) := by decide +kernel
theorem dJ7_rangeCheck_23922_2 : decode cJ7_rangeCheck_23922 2 = .ok (.if_icmp .le 44, 3) := by decide +kernel
theorem dJ7_rangeCheck_23922_5 : decode cJ7_rangeCheck_23922 5 = .ok (.new 43, 3) := by decide +kernel
theorem dJ7_rangeCheck_23922_8 : decode cJ7_rangeCheck_23922 8 = .ok (.dup, 1) := by decide +kernel
theorem dJ7_rangeCheck_23922_9 : decode cJ7_rangeCheck_23922 9 = .ok (.new 45, 3) := by decide +kernel
theorem dJ7_rangeCheck_23922_12 : decode cJ7_rangeCheck_23922 12 = .ok (.dup, 1) := by decide +kernel
theorem dJ7_rangeCheck_23922_13 : decode cJ7_rangeCheck_23922 13 = .ok (.invokespecial 47, 3) := by decide +kernel
theorem dJ7_rangeCheck_23922_16 : decode cJ7_rangeCheck_23922 16 = .ok (.ldc 48, 2) := by decide +kernel
theorem dJ7_rangeCheck_23922_18 : decode cJ7_rangeCheck_23922 18 = .ok (.invokevirtual 50, 3) := by decide +kernel
theorem dJ7_rangeCheck_23922_21 : decode cJ7_rangeCheck_23922 21 = .ok (.iload_n 1, 1) := by decide +kernel
theorem dJ7_rangeCheck_23922_22 : decode cJ7_rangeCheck_23922 22 = .ok (.invokevirtual 54, 3) := by decide +kernel
theorem dJ7_rangeCheck_23922_25 : decode cJ7_rangeCheck_23922 25 = .ok (.ldc 57, 2) := by decide +kernel
theorem dJ7_rangeCheck_23922_27 : decode cJ7_rangeCheck_23922 27 = .ok (.invokevirtual 50, 3) := by decide +kernel
theorem dJ7_rangeCheck_23922_30 : decode cJ7_rangeCheck_23922 30 = .ok (.iload_n 2, 1) := by decide +kernel
theorem dJ7_rangeCheck_23922_31 : decode cJ7_rangeCheck_23922 31 = .ok (.invokevirtual 54, 3) := by decide +kernel
theorem dJ7_rangeCheck_23922_34 : decode cJ7_rangeCheck_23922 34 = .ok (.ldc 59, 2) := by decide +kernel
theorem dJ7_rangeCheck_23922_36 : decode cJ7_rangeCheck_23922 36 = .ok (.invokevirtual 50, 3) := by decide +kernel
theorem dJ7_rangeCheck_23922_39 : decode cJ7_rangeCheck_23922 39 = .ok (.invokevirtual 61, 3) := by decide +kernel
theorem dJ7_rangeCheck_23922_42 : decode cJ7_rangeCheck_23922 42 = .ok (.invokespecial 65, 3) := by decide +kernel
theorem dJ7_rangeCheck_23922_45 : decode cJ7_rangeCheck_23922 45 = .ok (.athrow, 1) := by decide +kernel
theorem dJ7_rangeCheck_23922_46 : decode cJ7_rangeCheck_23922 46 = .ok (.iload_n 1, 1) := by decide +kernel
theorem dJ7_rangeCheck_23922_47 : decode cJ7_rangeCheck_23922 47 = .ok (.ifCond .ge 12, 3) := by decide +kernel
theorem dJ7_rangeCheck_23922_50 : decode cJ7_rangeCheck_23922 50 = .ok (.new 68, 3) := by decide +kernel
theorem dJ7_rangeCheck_23922_53 : decode cJ7_rangeCheck_23922 53 = .ok (.dup, 1) := by decide +kernel
theorem dJ7_rangeCheck_23922_54 : decode cJ7_rangeCheck_23922 54 = .ok (.iload_n 1, 1) := by decide +kernel
theorem dJ7_rangeCheck_23922_55 : decode cJ7_rangeCheck_23922 55 = .ok (.invokespecial 70, 3) := by decide +kernel
theorem dJ7_rangeCheck_23922_58 : decode cJ7_rangeCheck_23922 58 = .ok (.athrow, 1) := by decide +kernel
theorem dJ7_rangeCheck_23922_59 : decode cJ7_rangeCheck_23922 59 = .ok (.iload_n 2, 1) := by decide +kernel
theorem dJ7_rangeCheck_23922_60 : decode cJ7_rangeCheck_23922 60 = .ok (.iload_n 0, 1) := by decide +kernel
theorem dJ7_rangeCheck_23922_61 : decode cJ7_rangeCheck_23922 61 = .ok (.if_icmp .le 12, 3) := by decide +kernel
theorem dJ7_rangeCheck_23922_64 : decode cJ7_rangeCheck_23922 64 = .ok (.new 68, 3) := by decide +kernel
theorem dJ7_rangeCheck_23922_67 : decode cJ7_rangeCheck_23922 67 = .ok (.dup, 1) := by decide +kernel
theorem dJ7_rangeCheck_23922_68 : decode cJ7_rangeCheck_23922 68 = .ok (.iload_n 2, 1) := by decide +kernel
theorem dJ7_rangeCheck_23922_69 : decode cJ7_rangeCheck_23922 69 = .ok (.invokespecial 70, 3) := by decide +kernel
theorem dJ7_rangeCheck_23922_72 : decode cJ7_rangeCheck_23922 72 = .ok (.athrow, 1) := by decide +kernel
theorem dJ7_rangeCheck_23922_73 : decode cJ7_rangeCheck_23922 73 = .ok (.return_, 1) := by decide +kernel
theorem dJ7_fill_d0a16_0 : decode cJ7_fill_d0a16 0 = .ok (.iconst 0, 1) := by decide +kernel
theorem dJ7_fill_d0a16_1 : decode cJ7_fill_d0a16 1 = .ok (.istore_n 3, 1) := by decide +kernel
theorem dJ7_fill_d0a16_2 : decode cJ7_fill_d0a16 2 = .ok (.aload_n 0, 1) := by decide +kernel
theorem dJ7_fill_d0a16_3 : decode cJ7_fill_d0a16 3 = .ok (.arraylength, 1) := by decide +kernel
theorem dJ7_fill_d0a16_4 : decode cJ7_fill_d0a16 4 = .ok (.istore 4, 2) := by decide +kernel
theorem dJ7_fill_d0a16_6 : decode cJ7_fill_d0a16 6 = .ok (.iload_n 3, 1) := by decide +kernel
theorem dJ7_fill_d0a16_7 : decode cJ7_fill_d0a16 7 = .ok (.iload 4, 2) := by decide +kernel
theorem dJ7_fill_d0a16_9 : decode cJ7_fill_d0a16 9 = .ok (.if_icmp .ge 13, 3) := by decide +kernel
theorem dJ7_fill_d0a16_12 : decode cJ7_fill_d0a16 12 = .ok (.aload_n 0, 1) := by decide +kernel
theorem dJ7_fill_d0a16_13 : decode cJ7_fill_d0a16 13 = .ok (.iload_n 3, 1) := by decide +kernel
theorem dJ7_fill_d0a16_14 : decode cJ7_fill_d0a16 14 = .ok (.lload_n 1, 1) := by decide +kernel
theorem dJ7_fill_d0a16_15 : decode cJ7_fill_d0a16 15 = .ok (.lastore, 1) := by decide +kernel
theorem dJ7_fill_d0a16_16 : decode cJ7_fill_d0a16 16 = .ok (.iinc 3 1, 3) := by decide +kernel
theorem dJ7_fill_d0a16_19 : decode cJ7_fill_d0a16 19 = .ok (.goto (-13), 3) := by decide +kernel
theorem dJ7_fill_d0a16_22 : decode cJ7_fill_d0a16 22 = .ok (.return_, 1) := by decide +kernel
theorem dJ7_fill_53178_0 : decode cJ7_fill_53178 0 = .ok (.iconst 0, 1) := by decide +kernel
theorem dJ7_fill_53178_1 : decode cJ7_fill_53178 1 = .ok (.istore_n 2, 1) := by decide +kernel
theorem dJ7_fill_53178_2 : decode cJ7_fill_53178 2 = .ok (.aload_n 0, 1) := by decide +kernel
theorem dJ7_fill_53178_3 : decode cJ7_fill_53178 3 = .ok (.arraylength, 1) := by decide +kernel
theorem dJ7_fill_53178_4 : decode cJ7_fill_53178 4 = .ok (.istore_n 3, 1) := by decide +kernel
theorem dJ7_fill_53178_5 : decode cJ7_fill_53178 5 = .ok (.iload_n 2, 1) := by decide +kernel
theorem dJ7_fill_53178_6 : decode cJ7_fill_53178 6 = .ok (.iload_n 3, 1) := by decide +kernel
theorem dJ7_fill_53178_7 : decode cJ7_fill_53178 7 = .ok (.if_icmp .ge 13, 3) := by decide +kernel
theorem dJ7_fill_53178_10 : decode cJ7_fill_53178 10 = .ok (.aload_n 0, 1) := by decide +kernel
theorem dJ7_fill_53178_11 : decode cJ7_fill_53178 11 = .ok (.iload_n 2, 1) := by decide +kernel
theorem dJ7_fill_53178_12 : decode cJ7_fill_53178 12 = .ok (.iload_n 1, 1) := by decide +kernel
theorem dJ7_fill_53178_13 : decode cJ7_fill_53178 13 = .ok (.iastore, 1) := by decide +kernel
theorem dJ7_fill_53178_14 : decode cJ7_fill_53178 14 = .ok (.iinc 2 1, 3) := by decide +kernel
theorem dJ7_fill_53178_17 : decode cJ7_fill_53178 17 = .ok (.goto (-12), 3) := by decide +kernel
theorem dJ7_fill_53178_20 : decode cJ7_fill_53178 20 = .ok (.return_, 1) := by decide +kernel
set_option maxRecDepth 20000 in
theorem ggJ7_fill_fda19_J7_rangeCheck_23922 : GoodIn wsJ7_fill_fda19 wsJ7_rangeCheck_23922 := goodIn_r _ [4] (by decide +kernel) (by decide +kernel)
set_option maxRecDepth 20000 in
theorem gJ7_fill_fda19_J7_rangeCheck_23922 : GoodIn wsJ7_fill_fda19 (va_wsS RJ7 13 yJ7_rangeCheck_23922 wsJ7_rangeCheck_23922) := goodIn_app (goodIn_of _ (by decide +kernel)) ggJ7_fill_fda19_J7_rangeCheck_23922
theorem dJ7_fill_fda19_0 : decode cJ7_fill_fda19 0 = .ok (.aload_n 0, 1) := by decide +kernel
theorem dJ7_fill_fda19_1 : decode cJ7_fill_fda19 1 = .ok (.arraylength, 1) := by decide +kernel
theorem dJ7_fill_fda19_2 : decode cJ7_fill_fda19 2 = .ok (.iload_n 1, 1) := by decide +kernel
theorem dJ7_fill_fda19_3 : decode cJ7_fill_fda19 3 = .ok (.iload_n 2, 1) := by decide +kernel
theorem dJ7_fill_fda19_4 : decode cJ7_fill_fda19 4 = .ok (.invokestatic 13, 3) := by decide +kernel
theorem dJ7_fill_fda19_7 : decode cJ7_fill_fda19 7 = .ok (.iload_n 1, 1) := by decide +kernel
theorem dJ7_fill_fda19_8 : decode cJ7_fill_fda19 8 = .ok (.istore 4, 2) := by decide +kernel
theorem dJ7_fill_fda19_10 : decode cJ7_fill_fda19 10 = .ok (.iload 4, 2) := by decide +kernel
theorem dJ7_fill_fda19_12 : decode cJ7_fill_fda19 12 = .ok (.iload_n 2, 1) := by decide +kernel
theorem dJ7_fill_fda19_13 : decode cJ7_fill_fda19 13 = .ok (.if_icmp .ge 14, 3) := by decide +kernel
theorem dJ7_fill_fda19_16 : decode cJ7_fill_fda19 16 = .ok (.aload_n 0, 1) := by decide +kernel
theorem dJ7_fill_fda19_17 : decode cJ7_fill_fda19 17 = .ok (.iload 4, 2) := by decide +kernel
theorem dJ7_fill_fda19_19 : decode cJ7_fill_fda19 19 = .ok (.iload_n 3, 1) := by decide +kernel
theorem dJ7_fill_fda19_20 : decode cJ7_fill_fda19 20 = .ok (.iastore, 1) := by decide +kernel
theorem dJ7_fill_fda19_21 : decode cJ7_fill_fda19 21 = .ok (.iinc 4 1, 3) := by decide +kernel
theorem dJ7_fill_fda19_24 : decode cJ7_fill_fda19 24 = .ok (.goto (-14), 3) := by decide +kernel
theorem dJ7_fill_fda19_27 : decode cJ7_fill_fda19 27 = .ok (.return_, 1) := by decide +kernel
end
section
abbrev rmX6_within : Room := { frames := 0, cells := 0, slots := 0, locals := 0 }
set_option maxHeartbeats 4000000 in
set_option maxRecDepth 100000 in
theorem mX6_within (l : Launch) (D : va_G) (T : Nat → ClassId) (L : Lay) (σ : Nat → Nat) (M : Mem) (a0 : Int64) (a2 : Int32) (a3 : Int32) (post : Int32 → Mem → Prop) (h : qX6_within a0 a2 a3 M post) : Met l yX6_within wsX6_within rmX6_within (preW D T L σ [.long a0, .int a2, .int a3] M) (postI D T L σ post) 0 0 (fA L σ) := by
  refine m_of (cc := cX6_within) (maxL := 4) (ret := (some .boolean)) (own := RX6) (by decide) rfl rfl (Nat.le_of_ble_eq_true rfl) ?_
  intro p e s m args below meth c H ls locs S hr hlk hl hW
  have hl : lv_has ls 4 [(0, .long a0), (2, .int a2), (3, .int a3)] := hl
  refine lv_lload_n S.1 S.2.1 dX6_within_0 rfl (lv_at hl 0 rfl) ?_
  refine lv_iload_n S.1 S.2.1 dX6_within_1 rfl (lv_at hl 1 rfl) ?_
  refine lv_i2l S.1 S.2.1 dX6_within_2 rfl ?_
  refine W.lcmp S.1 S.2.1 dX6_within_3 ?_
  refine lv_if_lt (tgt := 18) S.1 S.2.1 dX6_within_4 (by decide) (fun c1 => ?_) (fun c1 => ?_)
  · have h := h.1 c1
    refine lv_iconst (v := 0) S.1 S.2.1 dX6_within_18 rfl ?_
    exact r_zret S hr hlk hW rfl h dX6_within_19
  · have h := h.2 c1
    refine lv_lload_n S.1 S.2.1 dX6_within_7 rfl (lv_at hl 0 rfl) ?_
    refine lv_iload_n S.1 S.2.1 dX6_within_8 rfl (lv_at hl 2 rfl) ?_
    refine lv_i2l S.1 S.2.1 dX6_within_9 rfl ?_
    refine W.lcmp S.1 S.2.1 dX6_within_10 ?_
    refine lv_if_gt (tgt := 18) S.1 S.2.1 dX6_within_11 (by decide) (fun c2 => ?_) (fun c2 => ?_)
    · have h := h.1 c2
      refine lv_iconst (v := 0) S.1 S.2.1 dX6_within_18 rfl ?_
      exact r_zret S hr hlk hW rfl h dX6_within_19
    · have h := h.2 c2
      refine lv_iconst (v := 1) S.1 S.2.1 dX6_within_14 rfl ?_
      refine lv_goto (tgt := 19) S.1 S.2.1 dX6_within_15 (by decide) ?_
      exact r_zret S hr hlk hW rfl h dX6_within_19
abbrev rmX4_isNumber : Room := { frames := 1, cells := 0, slots := 0, locals := 23 }
set_option maxHeartbeats 4000000 in
set_option maxRecDepth 100000 in
theorem mX4_isNumber (l : Launch) (D : va_G) (T : Nat → ClassId) (σ : Nat → Nat) (M : Mem) (a0 : Int32) (post : Int32 → Mem → Prop) (h : qX4_isNumber a0 M post) : Met l yX4_isNumber wsX4_isNumber rmX4_isNumber (preW D T LH σ [.int a0] M) (postI D T LH σ post) 0 0 (fA LH σ) := by
  refine m_of (cc := cX4_isNumber) (maxL := 1) (ret := (some .boolean)) (own := RX4) (by decide) rfl rfl (Nat.le_of_ble_eq_true rfl) ?_
  intro p e s m args below meth c H ls locs S hr hlk hl hW
  have hl : lv_has ls 1 [(0, .int a0)] := hl
  have w29 := va_cnB (args := args) (R := rmX4_isNumber) (rm := rmX6_within) (mc := 0) (ms := 0) 3 S.2.2.2.2 gX4_isNumber_X6_within_n29 rfl rfl rfl hW.2.2.2.2.1 (S.2.2.2.2 (.initialized RX6) (by decide +kernel)) (by decide +kernel) ⟨Nat.le_of_ble_eq_true rfl, Nat.le_of_ble_eq_true rfl⟩
  have stX6_within := S.2.2.2.2 (.static yX6_within) (by decide +kernel)
  refine lv_iload_n S.1 S.2.1 dX4_isNumber_0 rfl (lv_at hl 0 rfl) ?_
  refine lv_i2l S.1 S.2.1 dX4_isNumber_1 rfl ?_
  refine lv_iconst (v := 0) S.1 S.2.1 dX4_isNumber_2 rfl ?_
  refine lv_iconst (v := 5) S.1 S.2.1 dX4_isNumber_3 rfl ?_
  refine r_goI (r_runN (rest := []) S hW (mX6_within l D T LH σ M (a0.toInt64) (0 : Int32) (5 : Int32) _ h) w29 stX6_within rfl hl.1 rfl (Nat.le_of_ble_eq_true rfl) dX4_isNumber_4 ⟨Nat.zero_le _, Nat.zero_le _⟩) hW (fun r1 M2 H locs h hW => ?_)
  exact r_zret S hr hlk hW h.1 h.2 dX4_isNumber_7
abbrev rmJ7_fill_d0a16 : Room := { frames := 0, cells := 0, slots := 0, locals := 0 }
set_option maxHeartbeats 4000000 in
set_option maxRecDepth 100000 in
theorem mJ7_fill_d0a16 (l : Launch) (D : va_G) (T : Nat → ClassId) (L : Lay) (σ : Nat → Nat) (k : Nat) {n b : Nat} {sl : List (Option Nat)} (hk : L[k]? = some (3, n, b, sl)) (M : Mem) (a1 : Int64) (post : Mem → Prop) (h : qJ7_fill_d0a16 k n a1 M post) : Met l yJ7_fill_d0a16 wsJ7_fill_d0a16 rmJ7_fill_d0a16 (preW D T L σ [.ref (σ k), .long a1] M) (postV D T L σ post) 0 0 (fA L σ) := by
  refine m_of (cc := cJ7_fill_d0a16) (maxL := 5) (ret := none) (own := RJ7) (by decide) rfl rfl (Nat.le_of_ble_eq_true rfl) ?_
  intro p e s m args below meth c H ls locs S hr hlk hl hW
  have hl : lv_has ls 5 [(0, .ref (σ k)), (1, .long a1)] := hl
  obtain ⟨R6, e6⟩ : ∃ R : Int32 → Int32 → Mem → Prop, ∀ x3 x4 M, R x3 x4 M ↔ WW p l e rmJ7_fill_d0a16 s m args below meth c D T L σ 5 (MQ below (postV D T L σ post) args s 0 0 (fA L σ)) 6 [(0, .ref (σ k)), (1, .long a1), (3, .int x3), (4, .int x4)] [] M := ⟨_, fun _ _ _ => Iff.rfl⟩
  have h := h R6
  have z6 : ∀ x3 x4 M, qJ7_fill_d0a16_b6 k n a1 post R6 x3 x4 M → R6 x3 x4 M := by
    intro x3 x4 M h
    refine (e6 _ _ _).mpr (fun H locs ls hW hl => ?_)
    refine lv_iload_n S.1 S.2.1 dJ7_fill_d0a16_6 rfl (lv_at hl 2 rfl) ?_
    refine lv_iload S.1 S.2.1 dJ7_fill_d0a16_7 (lv_at hl 3 rfl) ?_
    refine lv_icmp_ge (tgt := 22) S.1 S.2.1 dJ7_fill_d0a16_9 (by decide) (fun c2 => ?_) (fun c2 => ?_)
    · have h := h.1 c2
      exact r_vret S hr hlk hW h dJ7_fill_d0a16_22
    · have h := h.2 c2
      refine lv_aload_n S.1 S.2.1 dJ7_fill_d0a16_12 rfl (lv_at hl 0 rfl) ?_
      refine lv_iload_n S.1 S.2.1 dJ7_fill_d0a16_13 rfl (lv_at hl 2 rfl) ?_
      refine lv_lload_n S.1 S.2.1 dJ7_fill_d0a16_14 rfl (lv_at hl 1 rfl) ?_
      have b3 := h.1
      have h := h.2
      refine r_last S hW hk b3 dJ7_fill_d0a16_15 (fun M4 H locs eM4 hW => ?_)
      have h := h M4 eM4
      obtain ⟨v5, ev5⟩ : ∃ y : Int32, y = x3 + 1 := ⟨_, rfl⟩
      have h := h v5 ev5
      refine lv_iinc (v := v5) (lv' := [(3, .int v5), (0, .ref (σ k)), (1, .long a1), (4, .int x4)]) S.1 S.2.1 dJ7_fill_d0a16_16 hl (k := 2) rfl (by rw [ev5]; rfl) (by decide) rfl (fun ls hl => ?_)
      refine lv_goto (tgt := 6) S.1 S.2.1 dJ7_fill_d0a16_19 (by decide) ?_
      exact (e6 _ _ _).mp h H locs ls hW (lv_sub hl [1, 2, 0, 3] rfl)
  have h := h z6
  refine lv_iconst (v := 0) S.1 S.2.1 dJ7_fill_d0a16_0 rfl ?_
  refine lv_istore_n (lv' := [(3, .int (0 : Int32)), (0, .ref (σ k)), (1, .long a1)]) S.1 S.2.1 dJ7_fill_d0a16_1 rfl hl (by decide) rfl (fun ls hl => ?_)
  refine lv_aload_n S.1 S.2.1 dJ7_fill_d0a16_2 rfl (lv_at hl 1 rfl) ?_
  refine r_alenL S hW hk dJ7_fill_d0a16_3 ?_
  refine lv_topi (fun v1 ev1 => ?_)
  have h := h v1 ev1
  refine lv_istore (lv' := [(4, .int v1), (3, .int (0 : Int32)), (0, .ref (σ k)), (1, .long a1)]) S.1 S.2.1 dJ7_fill_d0a16_4 hl (by decide) rfl (fun ls hl => ?_)
  exact (e6 _ _ _).mp h H locs ls hW (lv_sub hl [2, 3, 1, 0] rfl)
abbrev rmX4_make : Room := { frames := 1, cells := 0, slots := 0, locals := 24 }
set_option maxHeartbeats 4000000 in
set_option maxRecDepth 100000 in
theorem mX4_make (l : Launch) (D : va_G) (T : Nat → ClassId) (σ : Nat → Nat) (M : Mem) (a1 : Int32) (a2 : Int32) (a3 : Int32) (post : Mem → Prop) (h : qX4_make a1 a2 a3 M post) : Met l yX4_make wsX4_make rmX4_make (preW D T LH σ [.ref (σ 1), .int a1, .int a2, .int a3] M) (postV D T LH σ post) 0 0 (fA LH σ) := by
  refine m_of (cc := cX4_make) (maxL := 4) (ret := none) (own := RX4) (by decide) rfl rfl (Nat.le_of_ble_eq_true rfl) ?_
  intro p e s m args below meth c H ls locs S hr hlk hl hW
  have hl : lv_has ls 4 [(0, .ref (σ 1)), (1, .int a1), (2, .int a2), (3, .int a3)] := hl
  have inX4 : ∀ w ∈ u_ws RX4 TX4 3, w ∈ wsX4_make := by decide +kernel
  have f13 := S.2.2.2.2 (.fieldLink RX4 13 "MachineHall$Sheets" "numbers" "[[J") (by decide +kernel)
  have w33 := va_cwS (R := rmX4_make) (rm := rmJ7_fill_d0a16) (mc := 0) (ms := 0) 2 S.2.2.2.2 gX4_make_J7_fill_d0a16 rfl rfl rfl (by decide +kernel) ⟨Nat.le_of_ble_eq_true rfl, Nat.le_of_ble_eq_true rfl⟩
  have f16 := S.2.2.2.2 (.fieldLink RX4 16 "MachineHall$Sheets" "sorts" "[I") (by decide +kernel)
  have f20 := S.2.2.2.2 (.fieldLink RX4 20 "MachineHall$Sheets" "lengths" "[I") (by decide +kernel)
  refine lv_aload_n S.1 S.2.1 dX4_make_0 rfl (lv_at hl 0 rfl) ?_
  refine r_getR (j := 0) S hW inX4 rfl f13 rfl LH_1 (by decide) rfl dX4_make_1 ?_
  refine lv_iload_n S.1 S.2.1 dX4_make_4 rfl (lv_at hl 1 rfl) ?_
  have b1 := h.1
  have h := h.2
  refine r_aald (t := 1) S hW LH_7 (by decide) b1 dX4_make_5 ?_
  refine lv_lconst (v := 0) S.1 S.2.1 dX4_make_6 rfl ?_
  refine r_goV (r_runS (rest := []) S hW (mJ7_fill_d0a16 l D T LH σ (36 + a1.toNatClampNeg) (LHr_7 (vp_lt b1))  M (0 : Int64) _ h) w33 rfl hl.1 rfl (Nat.le_of_ble_eq_true rfl) dX4_make_7 ⟨Nat.zero_le _, Nat.zero_le _⟩) hW (fun M3 H locs h hW => ?_)
  refine lv_aload_n S.1 S.2.1 dX4_make_10 rfl (lv_at hl 0 rfl) ?_
  refine r_getR (j := 1) S hW inX4 rfl f16 rfl LH_1 (by decide) rfl dX4_make_11 ?_
  refine lv_iload_n S.1 S.2.1 dX4_make_14 rfl (lv_at hl 1 rfl) ?_
  refine lv_iload_n S.1 S.2.1 dX4_make_15 rfl (lv_at hl 2 rfl) ?_
  have b4 := h.1
  have h := h.2
  refine r_iast S hW LH_8 b4 dX4_make_16 (fun M5 H locs eM5 hW => ?_)
  have h := h M5 eM5
  refine lv_aload_n S.1 S.2.1 dX4_make_17 rfl (lv_at hl 0 rfl) ?_
  refine r_getR (j := 2) S hW inX4 rfl f20 rfl LH_1 (by decide) rfl dX4_make_18 ?_
  refine lv_iload_n S.1 S.2.1 dX4_make_21 rfl (lv_at hl 1 rfl) ?_
  refine lv_iload_n S.1 S.2.1 dX4_make_22 rfl (lv_at hl 3 rfl) ?_
  have b6 := h.1
  have h := h.2
  refine r_iast S hW LH_9 b6 dX4_make_23 (fun M7 H locs eM7 hW => ?_)
  have h := h M7 eM7
  exact r_vret S hr hlk hW h dX4_make_24
abbrev rmX4_isMissing : Room := { frames := 0, cells := 0, slots := 0, locals := 0 }
set_option maxHeartbeats 4000000 in
set_option maxRecDepth 100000 in
theorem mX4_isMissing (l : Launch) (D : va_G) (T : Nat → ClassId) (σ : Nat → Nat) (M : Mem) (a1 : Int32) (post : Int32 → Mem → Prop) (h : qX4_isMissing a1 M post) : Met l yX4_isMissing wsX4_isMissing rmX4_isMissing (preW D T LH σ [.ref (σ 1), .int a1] M) (postI D T LH σ post) 0 0 (fA LH σ) := by
  refine m_of (cc := cX4_isMissing) (maxL := 2) (ret := (some .boolean)) (own := RX4) (by decide) rfl rfl (Nat.le_of_ble_eq_true rfl) ?_
  intro p e s m args below meth c H ls locs S hr hlk hl hW
  have hl : lv_has ls 2 [(0, .ref (σ 1)), (1, .int a1)] := hl
  have inX4 : ∀ w ∈ u_ws RX4 TX4 3, w ∈ wsX4_isMissing := by decide +kernel
  have f20 := S.2.2.2.2 (.fieldLink RX4 20 "MachineHall$Sheets" "lengths" "[I") (by decide +kernel)
  refine lv_aload_n S.1 S.2.1 dX4_isMissing_0 rfl (lv_at hl 0 rfl) ?_
  refine r_getR (j := 2) S hW inX4 rfl f20 rfl LH_1 (by decide) rfl dX4_isMissing_1 ?_
  refine lv_iload_n S.1 S.2.1 dX4_isMissing_4 rfl (lv_at hl 1 rfl) ?_
  have b1 := h.1
  have h := h.2
  refine r_iald S hW LH_9 b1 dX4_isMissing_5 ?_
  refine lv_iconst (v := -1) S.1 S.2.1 dX4_isMissing_6 rfl ?_
  refine lv_icmp_ne (tgt := 14) S.1 S.2.1 dX4_isMissing_7 (by decide) (fun c2 => ?_) (fun c2 => ?_)
  · have h := h.1 c2
    refine lv_iconst (v := 0) S.1 S.2.1 dX4_isMissing_14 rfl ?_
    exact r_zret S hr hlk hW rfl h dX4_isMissing_15
  · have h := h.2 c2
    refine lv_iconst (v := 1) S.1 S.2.1 dX4_isMissing_10 rfl ?_
    refine lv_goto (tgt := 15) S.1 S.2.1 dX4_isMissing_11 (by decide) ?_
    exact r_zret S hr hlk hW rfl h dX4_isMissing_15
abbrev rmX4_whyNoPlace : Room := { frames := 2, cells := 0, slots := 0, locals := 43 }
set_option maxHeartbeats 4000000 in
set_option maxRecDepth 100000 in
theorem mX4_whyNoPlace (l : Launch) (D : va_G) (T : Nat → ClassId) (σ : Nat → Nat) (M : Mem) (a1 : Int32) (a2 : Int32) (post : Int32 → Mem → Prop) (h : qX4_whyNoPlace a1 a2 M post) : Met l yX4_whyNoPlace wsX4_whyNoPlace rmX4_whyNoPlace (preW D T LH σ [.ref (σ 1), .int a1, .int a2] M) (postI D T LH σ post) 0 0 (fA LH σ) := by
  refine m_of (cc := cX4_whyNoPlace) (maxL := 3) (ret := (some .int)) (own := RX4) (by decide) rfl rfl (Nat.le_of_ble_eq_true rfl) ?_
  intro p e s m args below meth c H ls locs S hr hlk hl hW
  have hl : lv_has ls 3 [(0, .ref (σ 1)), (1, .int a1), (2, .int a2)] := hl
  have w40 := va_cwS (R := rmX4_whyNoPlace) (rm := rmX4_isNumber) (mc := 0) (ms := 0) 1 S.2.2.2.2 gX4_whyNoPlace_X4_isNumber rfl rfl rfl (by decide +kernel) ⟨Nat.le_of_ble_eq_true rfl, Nat.le_of_ble_eq_true rfl⟩
  have w44 := cwV (R := rmX4_whyNoPlace) (rm := rmX4_isMissing) (mc := 0) (ms := 0) 1 S.2.2.2.2 gX4_whyNoPlace_X4_isMissing rfl rfl rfl (by decide +kernel) ⟨Nat.le_of_ble_eq_true rfl, Nat.le_of_ble_eq_true rfl⟩
  have inX4 : ∀ w ∈ u_ws RX4 TX4 3, w ∈ wsX4_whyNoPlace := by decide +kernel
  have f20 := S.2.2.2.2 (.fieldLink RX4 20 "MachineHall$Sheets" "lengths" "[I") (by decide +kernel)
  have w29 := va_cnB (args := args) (R := rmX4_whyNoPlace) (rm := rmX6_within) (mc := 0) (ms := 0) 3 S.2.2.2.2 gX4_whyNoPlace_X6_within_n29 rfl rfl rfl hW.2.2.2.2.1 (S.2.2.2.2 (.initialized RX6) (by decide +kernel)) (by decide +kernel) ⟨Nat.le_of_ble_eq_true rfl, Nat.le_of_ble_eq_true rfl⟩
  have stX6_within := S.2.2.2.2 (.static yX6_within) (by decide +kernel)
  refine lv_iload_n S.1 S.2.1 dX4_whyNoPlace_0 rfl (lv_at hl 1 rfl) ?_
  refine r_goI (r_runS (rest := []) S hW (mX4_isNumber l D T σ M a1 _ h) w40 rfl hl.1 rfl (Nat.le_of_ble_eq_true rfl) dX4_whyNoPlace_1 ⟨Nat.zero_le _, Nat.zero_le _⟩) hW (fun r1 M2 H locs h hW => ?_)
  refine lv_if_ne (tgt := 9) S.1 S.2.1 dX4_whyNoPlace_4 (by decide) (fun c3 => ?_) (fun c3 => ?_)
  · have h := h.1 c3
    refine lv_aload_n S.1 S.2.1 dX4_whyNoPlace_9 rfl (lv_at hl 0 rfl) ?_
    refine lv_iload_n S.1 S.2.1 dX4_whyNoPlace_10 rfl (lv_at hl 1 rfl) ?_
    refine r_goI (r_runV (rest := []) S hW (mX4_isMissing l D T σ M2 a1 _ h) w44 rfl LH_1 rfl hl.1 rfl (Nat.le_of_ble_eq_true rfl) dX4_whyNoPlace_11 ⟨Nat.zero_le _, Nat.zero_le _⟩) hW (fun r4 M5 H locs h hW => ?_)
    refine lv_if_eq (tgt := 19) S.1 S.2.1 dX4_whyNoPlace_14 (by decide) (fun c6 => ?_) (fun c6 => ?_)
    · have h := h.1 c6
      refine lv_iload_n S.1 S.2.1 dX4_whyNoPlace_19 rfl (lv_at hl 2 rfl) ?_
      refine lv_i2l S.1 S.2.1 dX4_whyNoPlace_20 rfl ?_
      refine lv_iconst (v := 0) S.1 S.2.1 dX4_whyNoPlace_21 rfl ?_
      refine lv_aload_n S.1 S.2.1 dX4_whyNoPlace_22 rfl (lv_at hl 0 rfl) ?_
      refine r_getR (j := 2) S hW inX4 rfl f20 rfl LH_1 (by decide) rfl dX4_whyNoPlace_23 ?_
      refine lv_iload_n S.1 S.2.1 dX4_whyNoPlace_26 rfl (lv_at hl 1 rfl) ?_
      have b7 := h.1
      have h := h.2
      refine r_iald S hW LH_9 b7 dX4_whyNoPlace_27 ?_
      refine lv_iconst (v := 1) S.1 S.2.1 dX4_whyNoPlace_28 rfl ?_
      refine lv_isub S.1 S.2.1 dX4_whyNoPlace_29 ?_
      refine r_goI (r_runN (rest := []) S hW (mX6_within l D T LH σ M5 (a2.toInt64) (0 : Int32) ((M5.1 9 a1.toNatClampNeg) - (1 : Int32)) _ h) w29 stX6_within rfl hl.1 rfl (Nat.le_of_ble_eq_true rfl) dX4_whyNoPlace_30 ⟨Nat.zero_le _, Nat.zero_le _⟩) hW (fun r8 M9 H locs h hW => ?_)
      refine lv_if_eq (tgt := 40) S.1 S.2.1 dX4_whyNoPlace_33 (by decide) (fun c10 => ?_) (fun c10 => ?_)
      · have h := h.1 c10
        refine lv_iconst (v := 3) S.1 S.2.1 dX4_whyNoPlace_40 rfl ?_
        exact r_iret S hr hlk hW h dX4_whyNoPlace_41
      · have h := h.2 c10
        refine lv_iconst (v := 0) S.1 S.2.1 dX4_whyNoPlace_36 rfl ?_
        refine lv_goto (tgt := 41) S.1 S.2.1 dX4_whyNoPlace_37 (by decide) ?_
        exact r_iret S hr hlk hW h dX4_whyNoPlace_41
    · have h := h.2 c6
      refine lv_iconst (v := 2) S.1 S.2.1 dX4_whyNoPlace_17 rfl ?_
      exact r_iret S hr hlk hW h dX4_whyNoPlace_18
  · have h := h.2 c3
    refine lv_iconst (v := 1) S.1 S.2.1 dX4_whyNoPlace_7 rfl ?_
    exact r_iret S hr hlk hW h dX4_whyNoPlace_8
abbrev rmX4_cut : Room := { frames := 0, cells := 0, slots := 0, locals := 0 }
set_option maxHeartbeats 4000000 in
set_option maxRecDepth 100000 in
theorem mX4_cut (l : Launch) (D : va_G) (T : Nat → ClassId) (σ : Nat → Nat) (M : Mem) (a0 : Int64) (a2 : Int32) (post : Int64 → Mem → Prop) (h : qX4_cut a0 a2 M post) : Met l yX4_cut wsX4_cut rmX4_cut (preW D T LH σ [.long a0, .int a2] M) (postL D T LH σ post) 0 0 (fA LH σ) := by
  refine m_of (cc := cX4_cut) (maxL := 3) (ret := (some .long)) (own := RX4) (by decide) rfl rfl (Nat.le_of_ble_eq_true rfl) ?_
  intro p e s m args below meth c H ls locs S hr hlk hl hW
  have hl : lv_has ls 3 [(0, .long a0), (2, .int a2)] := hl
  refine lv_iload_n S.1 S.2.1 dX4_cut_0 rfl (lv_at hl 1 rfl) ?_
  refine r_ts S dX4_cut_1 (by decide) (fun k off ho hx => ?_) (by decide) (by decide) (fun hx => ?_)
  · match k, ho with
    | 0, ho =>
      cases ho
      have h := h.1 hx
      refine lv_lload_n S.1 S.2.1 dX4_cut_28 rfl (lv_at hl 0 rfl) ?_
      refine lv_l2i S.1 S.2.1 dX4_cut_29 rfl ?_
      refine lv_i2b S.1 S.2.1 dX4_cut_30 rfl ?_
      refine lv_i2l S.1 S.2.1 dX4_cut_31 rfl ?_
      exact r_lret S hr hlk hW h dX4_cut_32
    | 1, ho =>
      cases ho
      have h := h.2.1 hx
      refine lv_lload_n S.1 S.2.1 dX4_cut_33 rfl (lv_at hl 0 rfl) ?_
      refine lv_l2i S.1 S.2.1 dX4_cut_34 rfl ?_
      refine lv_i2s S.1 S.2.1 dX4_cut_35 rfl ?_
      refine lv_i2l S.1 S.2.1 dX4_cut_36 rfl ?_
      exact r_lret S hr hlk hW h dX4_cut_37
    | 2, ho =>
      cases ho
      have h := h.2.2.1 hx
      refine lv_lload_n S.1 S.2.1 dX4_cut_38 rfl (lv_at hl 0 rfl) ?_
      refine lv_l2i S.1 S.2.1 dX4_cut_39 rfl ?_
      refine lv_i2l S.1 S.2.1 dX4_cut_40 rfl ?_
      exact r_lret S hr hlk hW h dX4_cut_41
    | k + 3, ho => simp at ho
  · have h := h.2.2.2 hx
    refine lv_lload_n S.1 S.2.1 dX4_cut_42 rfl (lv_at hl 0 rfl) ?_
    exact r_lret S hr hlk hW h dX4_cut_43
abbrev rmX4_put : Room := { frames := 1, cells := 0, slots := 0, locals := 22 }
set_option maxHeartbeats 4000000 in
set_option maxRecDepth 100000 in
theorem mX4_put (l : Launch) (D : va_G) (T : Nat → ClassId) (σ : Nat → Nat) (M : Mem) (a1 : Int32) (a2 : Int32) (a3 : Int64) (post : Mem → Prop) (h : qX4_put a1 a2 a3 M post) : Met l yX4_put wsX4_put rmX4_put (preW D T LH σ [.ref (σ 1), .int a1, .int a2, .long a3] M) (postV D T LH σ post) 0 0 (fA LH σ) := by
  refine m_of (cc := cX4_put) (maxL := 5) (ret := none) (own := RX4) (by decide) rfl rfl (Nat.le_of_ble_eq_true rfl) ?_
  intro p e s m args below meth c H ls locs S hr hlk hl hW
  have hl : lv_has ls 5 [(0, .ref (σ 1)), (1, .int a1), (2, .int a2), (3, .long a3)] := hl
  have inX4 : ∀ w ∈ u_ws RX4 TX4 3, w ∈ wsX4_put := by decide +kernel
  have f13 := S.2.2.2.2 (.fieldLink RX4 13 "MachineHall$Sheets" "numbers" "[[J") (by decide +kernel)
  have f16 := S.2.2.2.2 (.fieldLink RX4 16 "MachineHall$Sheets" "sorts" "[I") (by decide +kernel)
  have w36 := va_cwS (R := rmX4_put) (rm := rmX4_cut) (mc := 0) (ms := 0) 2 S.2.2.2.2 gX4_put_X4_cut rfl rfl rfl (by decide +kernel) ⟨Nat.le_of_ble_eq_true rfl, Nat.le_of_ble_eq_true rfl⟩
  refine lv_aload_n S.1 S.2.1 dX4_put_0 rfl (lv_at hl 0 rfl) ?_
  refine r_getR (j := 0) S hW inX4 rfl f13 rfl LH_1 (by decide) rfl dX4_put_1 ?_
  refine lv_iload_n S.1 S.2.1 dX4_put_4 rfl (lv_at hl 1 rfl) ?_
  have b1 := h.1
  have h := h.2
  refine r_aald (t := 1) S hW LH_7 (by decide) b1 dX4_put_5 ?_
  refine lv_iload_n S.1 S.2.1 dX4_put_6 rfl (lv_at hl 2 rfl) ?_
  refine lv_lload_n S.1 S.2.1 dX4_put_7 rfl (lv_at hl 3 rfl) ?_
  refine lv_aload_n S.1 S.2.1 dX4_put_8 rfl (lv_at hl 0 rfl) ?_
  refine r_getR (j := 1) S hW inX4 rfl f16 rfl LH_1 (by decide) rfl dX4_put_9 ?_
  refine lv_iload_n S.1 S.2.1 dX4_put_12 rfl (lv_at hl 1 rfl) ?_
  have b2 := h.1
  have h := h.2
  refine r_iald S hW LH_8 b2 dX4_put_13 ?_
  refine r_goL (r_runS (rest := [.int a2, .ref (σ (36 + a1.toNatClampNeg))]) S hW (mX4_cut l D T σ M a3 (M.1 8 a1.toNatClampNeg) _ h) w36 rfl hl.1 rfl (Nat.le_of_ble_eq_true rfl) dX4_put_14 ⟨Nat.zero_le _, Nat.zero_le _⟩) hW (fun r3 M4 H locs h hW => ?_)
  have b5 := h.1
  have h := h.2
  refine r_last S hW (LHr_7 (vp_lt b1)) b5 dX4_put_17 (fun M6 H locs eM6 hW => ?_)
  have h := h M6 eM6
  exact r_vret S hr hlk hW h dX4_put_18
abbrev rmX4_at : Room := { frames := 0, cells := 0, slots := 0, locals := 0 }
set_option maxHeartbeats 4000000 in
set_option maxRecDepth 100000 in
theorem mX4_at (l : Launch) (D : va_G) (T : Nat → ClassId) (σ : Nat → Nat) (M : Mem) (a1 : Int32) (a2 : Int32) (post : Int64 → Mem → Prop) (h : qX4_at a1 a2 M post) : Met l yX4_at wsX4_at rmX4_at (preW D T LH σ [.ref (σ 1), .int a1, .int a2] M) (postL D T LH σ post) 0 0 (fA LH σ) := by
  refine m_of (cc := cX4_at) (maxL := 3) (ret := (some .long)) (own := RX4) (by decide) rfl rfl (Nat.le_of_ble_eq_true rfl) ?_
  intro p e s m args below meth c H ls locs S hr hlk hl hW
  have hl : lv_has ls 3 [(0, .ref (σ 1)), (1, .int a1), (2, .int a2)] := hl
  have inX4 : ∀ w ∈ u_ws RX4 TX4 3, w ∈ wsX4_at := by decide +kernel
  have f13 := S.2.2.2.2 (.fieldLink RX4 13 "MachineHall$Sheets" "numbers" "[[J") (by decide +kernel)
  refine lv_aload_n S.1 S.2.1 dX4_at_0 rfl (lv_at hl 0 rfl) ?_
  refine r_getR (j := 0) S hW inX4 rfl f13 rfl LH_1 (by decide) rfl dX4_at_1 ?_
  refine lv_iload_n S.1 S.2.1 dX4_at_4 rfl (lv_at hl 1 rfl) ?_
  have b1 := h.1
  have h := h.2
  refine r_aald (t := 1) S hW LH_7 (by decide) b1 dX4_at_5 ?_
  refine lv_iload_n S.1 S.2.1 dX4_at_6 rfl (lv_at hl 2 rfl) ?_
  have b2 := h.1
  have h := h.2
  refine r_lald S hW (LHr_7 (vp_lt b1)) b2 dX4_at_7 ?_
  exact r_lret S hr hlk hW h dX4_at_8
abbrev rmX4_lose : Room := { frames := 0, cells := 0, slots := 0, locals := 0 }
set_option maxHeartbeats 4000000 in
set_option maxRecDepth 100000 in
theorem mX4_lose (l : Launch) (D : va_G) (T : Nat → ClassId) (σ : Nat → Nat) (M : Mem) (a1 : Int32) (post : Mem → Prop) (h : qX4_lose a1 M post) : Met l yX4_lose wsX4_lose rmX4_lose (preW D T LH σ [.ref (σ 1), .int a1] M) (postV D T LH σ post) 0 0 (fA LH σ) := by
  refine m_of (cc := cX4_lose) (maxL := 2) (ret := none) (own := RX4) (by decide) rfl rfl (Nat.le_of_ble_eq_true rfl) ?_
  intro p e s m args below meth c H ls locs S hr hlk hl hW
  have hl : lv_has ls 2 [(0, .ref (σ 1)), (1, .int a1)] := hl
  have inX4 : ∀ w ∈ u_ws RX4 TX4 3, w ∈ wsX4_lose := by decide +kernel
  have f20 := S.2.2.2.2 (.fieldLink RX4 20 "MachineHall$Sheets" "lengths" "[I") (by decide +kernel)
  refine lv_aload_n S.1 S.2.1 dX4_lose_0 rfl (lv_at hl 0 rfl) ?_
  refine r_getR (j := 2) S hW inX4 rfl f20 rfl LH_1 (by decide) rfl dX4_lose_1 ?_
  refine lv_iload_n S.1 S.2.1 dX4_lose_4 rfl (lv_at hl 1 rfl) ?_
  refine lv_iconst (v := -1) S.1 S.2.1 dX4_lose_5 rfl ?_
  have b1 := h.1
  have h := h.2
  refine r_iast S hW LH_9 b1 dX4_lose_6 (fun M2 H locs eM2 hW => ?_)
  have h := h M2 eM2
  exact r_vret S hr hlk hW h dX4_lose_7
abbrev rmX4_spans : Room := { frames := 0, cells := 0, slots := 0, locals := 0 }
set_option maxHeartbeats 4000000 in
set_option maxRecDepth 100000 in
theorem mX4_spans (l : Launch) (D : va_G) (T : Nat → ClassId) (σ : Nat → Nat) (M : Mem) (a1 : Int32) (a2 : Int32) (a3 : Int32) (post : Int32 → Mem → Prop) (h : qX4_spans a1 a2 a3 M post) : Met l yX4_spans wsX4_spans rmX4_spans (preW D T LH σ [.ref (σ 1), .int a1, .int a2, .int a3] M) (postI D T LH σ post) 0 0 (fA LH σ) := by
  refine m_of (cc := cX4_spans) (maxL := 4) (ret := (some .boolean)) (own := RX4) (by decide) rfl rfl (Nat.le_of_ble_eq_true rfl) ?_
  intro p e s m args below meth c H ls locs S hr hlk hl hW
  have hl : lv_has ls 4 [(0, .ref (σ 1)), (1, .int a1), (2, .int a2), (3, .int a3)] := hl
  have inX4 : ∀ w ∈ u_ws RX4 TX4 3, w ∈ wsX4_spans := by decide +kernel
  have f20 := S.2.2.2.2 (.fieldLink RX4 20 "MachineHall$Sheets" "lengths" "[I") (by decide +kernel)
  refine lv_iload_n S.1 S.2.1 dX4_spans_0 rfl (lv_at hl 2 rfl) ?_
  refine lv_i2l S.1 S.2.1 dX4_spans_1 rfl ?_
  refine lv_iload_n S.1 S.2.1 dX4_spans_2 rfl (lv_at hl 3 rfl) ?_
  refine lv_i2l S.1 S.2.1 dX4_spans_3 rfl ?_
  refine lv_ladd S.1 S.2.1 dX4_spans_4 ?_
  refine lv_aload_n S.1 S.2.1 dX4_spans_5 rfl (lv_at hl 0 rfl) ?_
  refine r_getR (j := 2) S hW inX4 rfl f20 rfl LH_1 (by decide) rfl dX4_spans_6 ?_
  refine lv_iload_n S.1 S.2.1 dX4_spans_9 rfl (lv_at hl 1 rfl) ?_
  have b1 := h.1
  have h := h.2
  refine r_iald S hW LH_9 b1 dX4_spans_10 ?_
  refine lv_i2l S.1 S.2.1 dX4_spans_11 rfl ?_
  refine W.lcmp S.1 S.2.1 dX4_spans_12 ?_
  refine lv_if_gt (tgt := 20) S.1 S.2.1 dX4_spans_13 (by decide) (fun c2 => ?_) (fun c2 => ?_)
  · have h := h.1 c2
    refine lv_iconst (v := 0) S.1 S.2.1 dX4_spans_20 rfl ?_
    exact r_zret S hr hlk hW rfl h dX4_spans_21
  · have h := h.2 c2
    refine lv_iconst (v := 1) S.1 S.2.1 dX4_spans_16 rfl ?_
    refine lv_goto (tgt := 21) S.1 S.2.1 dX4_spans_17 (by decide) ?_
    exact r_zret S hr hlk hW rfl h dX4_spans_21
abbrev rmX4_carry : Room := { frames := 2, cells := 0, slots := 0, locals := 60 }
set_option maxHeartbeats 4000000 in
set_option maxRecDepth 100000 in
theorem mX4_carry (l : Launch) (D : va_G) (T : Nat → ClassId) (σ : Nat → Nat) (M : Mem) (a1 : Int32) (a2 : Int32) (a3 : Int32) (a4 : Int32) (a5 : Int32) (post : Mem → Prop) (h : qX4_carry a1 a2 a3 a4 a5 M post) : Met l yX4_carry wsX4_carry rmX4_carry (preW D T LH σ [.ref (σ 1), .int a1, .int a2, .int a3, .int a4, .int a5] M) (postV D T LH σ post) 0 0 (fA LH σ) := by
  refine m_of (cc := cX4_carry) (maxL := 7) (ret := none) (own := RX4) (by decide) rfl rfl (Nat.le_of_ble_eq_true rfl) ?_
  intro p e s m args below meth c H ls locs S hr hlk hl hW
  have hl : lv_has ls 7 [(0, .ref (σ 1)), (1, .int a1), (2, .int a2), (3, .int a3), (4, .int a4), (5, .int a5)] := hl
  have inX4 : ∀ w ∈ u_ws RX4 TX4 3, w ∈ wsX4_carry := by decide +kernel
  have f13 := S.2.2.2.2 (.fieldLink RX4 13 "MachineHall$Sheets" "numbers" "[[J") (by decide +kernel)
  have ac1 := S.2.2.2.2 (.methodLink RX4 47 arraycopyName) (by decide +kernel)
  have ac2 := S.2.2.2.2 (.native arraycopyName) (by decide +kernel)
  have ac3 := S.2.2.2.2 (.static arraycopyName) (by decide +kernel)
  have ac4 := S.2.2.2.2 (.initialized "java/lang/System") (by decide +kernel)
  have w53 := cwV (R := rmX4_carry) (rm := rmX4_put) (mc := 0) (ms := 0) 3 S.2.2.2.2 gX4_carry_X4_put rfl rfl rfl (by decide +kernel) ⟨Nat.le_of_ble_eq_true rfl, Nat.le_of_ble_eq_true rfl⟩
  obtain ⟨R24, e24⟩ : ∃ R : Int32 → Mem → Prop, ∀ x6 M, R x6 M ↔ WW p l e rmX4_carry s m args below meth c D T LH σ 7 (MQ below (postV D T LH σ post) args s 0 0 (fA LH σ)) 24 [(0, .ref (σ 1)), (3, .int a3), (4, .int a4), (5, .int a5), (6, .int x6)] [] M := ⟨_, fun _ _ => Iff.rfl⟩
  have h := h R24
  have z24 : ∀ x6 M, qX4_carry_b24 a1 a2 a3 a4 a5 post R24 x6 M → R24 x6 M := by
    intro x6 M h
    refine (e24 _ _).mpr (fun H locs ls hW hl => ?_)
    refine lv_iload S.1 S.2.1 dX4_carry_24 (lv_at hl 4 rfl) ?_
    refine lv_iload S.1 S.2.1 dX4_carry_26 (lv_at hl 2 rfl) ?_
    refine lv_iload S.1 S.2.1 dX4_carry_28 (lv_at hl 3 rfl) ?_
    refine lv_iadd S.1 S.2.1 dX4_carry_30 ?_
    refine lv_icmp_ge (tgt := 56) S.1 S.2.1 dX4_carry_31 (by decide) (fun c5 => ?_) (fun c5 => ?_)
    · have h := h.1 c5
      exact r_vret S hr hlk hW h dX4_carry_56
    · have h := h.2 c5
      refine lv_aload_n S.1 S.2.1 dX4_carry_34 rfl (lv_at hl 0 rfl) ?_
      refine lv_iload_n S.1 S.2.1 dX4_carry_35 rfl (lv_at hl 1 rfl) ?_
      refine lv_iload S.1 S.2.1 dX4_carry_36 (lv_at hl 4 rfl) ?_
      refine lv_aload_n S.1 S.2.1 dX4_carry_38 rfl (lv_at hl 0 rfl) ?_
      refine r_getR (j := 0) S hW inX4 rfl f13 rfl LH_1 (by decide) rfl dX4_carry_39 ?_
      refine lv_iload_n S.1 S.2.1 dX4_carry_42 rfl (lv_at hl 1 rfl) ?_
      have b6 := h.1
      have h := h.2
      refine r_aald (t := 1) S hW LH_7 (by decide) b6 dX4_carry_43 ?_
      refine lv_iload S.1 S.2.1 dX4_carry_44 (lv_at hl 4 rfl) ?_
      have b7 := h.1
      have h := h.2
      refine r_lald S hW (LHr_7 (vp_lt b6)) b7 dX4_carry_46 ?_
      refine r_goV (r_runV (rest := []) S hW (mX4_put l D T σ M a3 x6 (M.2 (36 + a3.toNatClampNeg) x6.toNatClampNeg) _ h) w53 rfl LH_1 rfl hl.1 rfl (Nat.le_of_ble_eq_true rfl) dX4_carry_47 ⟨Nat.zero_le _, Nat.zero_le _⟩) hW (fun M9 H locs h hW => ?_)
      obtain ⟨v10, ev10⟩ : ∃ y : Int32, y = x6 + 1 := ⟨_, rfl⟩
      have h := h v10 ev10
      refine lv_iinc (v := v10) (lv' := [(6, .int v10), (0, .ref (σ 1)), (3, .int a3), (4, .int a4), (5, .int a5)]) S.1 S.2.1 dX4_carry_50 hl (k := 4) rfl (by rw [ev10]; rfl) (by decide) rfl (fun ls hl => ?_)
      refine lv_goto (tgt := 24) S.1 S.2.1 dX4_carry_53 (by decide) ?_
      exact (e24 _ _).mp h H locs ls hW (lv_sub hl [1, 2, 3, 4, 0] rfl)
  have h := h z24
  refine lv_aload_n S.1 S.2.1 dX4_carry_0 rfl (lv_at hl 0 rfl) ?_
  refine r_getR (j := 0) S hW inX4 rfl f13 rfl LH_1 (by decide) rfl dX4_carry_1 ?_
  refine lv_iload_n S.1 S.2.1 dX4_carry_4 rfl (lv_at hl 1 rfl) ?_
  have b1 := h.1
  have h := h.2
  refine r_aald (t := 1) S hW LH_7 (by decide) b1 dX4_carry_5 ?_
  refine lv_iload_n S.1 S.2.1 dX4_carry_6 rfl (lv_at hl 2 rfl) ?_
  refine lv_aload_n S.1 S.2.1 dX4_carry_7 rfl (lv_at hl 0 rfl) ?_
  refine r_getR (j := 0) S hW inX4 rfl f13 rfl LH_1 (by decide) rfl dX4_carry_8 ?_
  refine lv_iload_n S.1 S.2.1 dX4_carry_11 rfl (lv_at hl 3 rfl) ?_
  have b2 := h.1
  have h := h.2
  refine r_aald (t := 1) S hW LH_7 (by decide) b2 dX4_carry_12 ?_
  refine lv_iload S.1 S.2.1 dX4_carry_13 (lv_at hl 4 rfl) ?_
  refine lv_iload S.1 S.2.1 dX4_carry_15 (lv_at hl 5 rfl) ?_
  have b4 := h.1
  have h := h.2
  refine r_acopy S hl.1 hW ac1 ac2 ac3 ac4 (LHr_7 (vp_lt b1)) (LHr_7 (vp_lt b2)) b4 (Nat.le_of_ble_eq_true rfl) (Nat.le_of_ble_eq_true rfl) dX4_carry_17 (fun M3 H locs eM3 hW => ?_)
  have h := h M3 eM3
  refine lv_iload S.1 S.2.1 dX4_carry_20 (lv_at hl 4 rfl) ?_
  refine lv_istore (lv' := [(6, .int a4), (0, .ref (σ 1)), (1, .int a1), (2, .int a2), (3, .int a3), (4, .int a4), (5, .int a5)]) S.1 S.2.1 dX4_carry_22 hl (by decide) rfl (fun ls hl => ?_)
  exact (e24 _ _).mp h H locs ls hW (lv_sub hl [1, 4, 5, 6, 0] rfl)
abbrev rmX1_addMachine : Room := { frames := 0, cells := 0, slots := 0, locals := 0 }
set_option maxHeartbeats 4000000 in
set_option maxRecDepth 100000 in
theorem mX1_addMachine (l : Launch) (D : va_G) (T : Nat → ClassId) (σ : Nat → Nat) (M : Mem) (a1 : Int32) (a2 : Int32) (post : Int32 → Mem → Prop) (h : qX1_addMachine a1 a2 M post) : Met l yX1_addMachine wsX1_addMachine rmX1_addMachine (preW D T LH σ [.ref (σ 2), .int a1, .int a2] M) (postI D T LH σ post) 0 0 (fA LH σ) := by
  refine m_of (cc := cX1_addMachine) (maxL := 4) (ret := (some .int)) (own := RX1) (by decide) rfl rfl (Nat.le_of_ble_eq_true rfl) ?_
  intro p e s m args below meth c H ls locs S hr hlk hl hW
  have hl : lv_has ls 4 [(0, .ref (σ 2)), (1, .int a1), (2, .int a2)] := hl
  have inX1 : ∀ w ∈ u_ws RX1 TX1 13, w ∈ wsX1_addMachine := by decide +kernel
  have f48 := S.2.2.2.2 (.fieldLink RX1 48 "MachineHall$Hall" "machines" "I") (by decide +kernel)
  have f11 := S.2.2.2.2 (.fieldLink RX1 11 "MachineHall$Hall" "sizes" "[I") (by decide +kernel)
  have f15 := S.2.2.2.2 (.fieldLink RX1 15 "MachineHall$Hall" "inRoom" "[I") (by decide +kernel)
  have f54 := S.2.2.2.2 (.fieldLink RX1 54 "MachineHall$Hall" "ups" "I") (by decide +kernel)
  refine lv_aload_n S.1 S.2.1 dX1_addMachine_0 rfl (lv_at hl 0 rfl) ?_
  refine lv_dup S.1 S.2.1 dX1_addMachine_1 rfl ?_
  refine r_getI (j := 0) S hW inX1 rfl f48 rfl LH_2 (by decide) rfl dX1_addMachine_2 ?_
  refine lv_dup_x1 S.1 S.2.1 dX1_addMachine_5 rfl rfl ?_
  refine lv_iconst (v := 1) S.1 S.2.1 dX1_addMachine_6 rfl ?_
  refine lv_iadd S.1 S.2.1 dX1_addMachine_7 ?_
  refine r_putI (j := 0) S hW inX1 rfl f48 rfl LH_2 (by decide) rfl tyX1 tyX1_ok nmX1 rfl rfl rfl dX1_addMachine_8 (fun M1 H locs eM1 hW => ?_)
  have h := h M1 eM1
  refine lv_topi (fun v2 ev2 => ?_)
  have h := h v2 ev2
  refine lv_istore_n (lv' := [(3, .int v2), (0, .ref (σ 2)), (1, .int a1), (2, .int a2)]) S.1 S.2.1 dX1_addMachine_11 rfl hl (by decide) rfl (fun ls hl => ?_)
  refine lv_aload_n S.1 S.2.1 dX1_addMachine_12 rfl (lv_at hl 1 rfl) ?_
  refine r_getR (j := 2) S hW inX1 rfl f11 rfl LH_2 (by decide) rfl dX1_addMachine_13 ?_
  refine lv_iload_n S.1 S.2.1 dX1_addMachine_16 rfl (lv_at hl 0 rfl) ?_
  refine lv_iload_n S.1 S.2.1 dX1_addMachine_17 rfl (lv_at hl 2 rfl) ?_
  have b3 := h.1
  have h := h.2
  refine r_iast S hW LH_10 b3 dX1_addMachine_18 (fun M4 H locs eM4 hW => ?_)
  have h := h M4 eM4
  refine lv_aload_n S.1 S.2.1 dX1_addMachine_19 rfl (lv_at hl 1 rfl) ?_
  refine r_getR (j := 3) S hW inX1 rfl f15 rfl LH_2 (by decide) rfl dX1_addMachine_20 ?_
  refine lv_iload_n S.1 S.2.1 dX1_addMachine_23 rfl (lv_at hl 3 rfl) ?_
  refine lv_dup2_11 S.1 S.2.1 dX1_addMachine_24 rfl rfl ?_
  have b5 := h.1
  have h := h.2
  refine r_iald S hW LH_11 b5 dX1_addMachine_25 ?_
  refine lv_iconst (v := 1) S.1 S.2.1 dX1_addMachine_26 rfl ?_
  refine lv_iload_n S.1 S.2.1 dX1_addMachine_27 rfl (lv_at hl 0 rfl) ?_
  refine lv_ishl S.1 S.2.1 dX1_addMachine_28 ?_
  refine lv_ior S.1 S.2.1 dX1_addMachine_29 ?_
  have b6 := h.1
  have h := h.2
  refine r_iast S hW LH_11 b6 dX1_addMachine_30 (fun M7 H locs eM7 hW => ?_)
  have h := h M7 eM7
  refine lv_aload_n S.1 S.2.1 dX1_addMachine_31 rfl (lv_at hl 1 rfl) ?_
  refine lv_dup S.1 S.2.1 dX1_addMachine_32 rfl ?_
  refine r_getI (j := 4) S hW inX1 rfl f54 rfl LH_2 (by decide) rfl dX1_addMachine_33 ?_
  refine lv_iconst (v := 1) S.1 S.2.1 dX1_addMachine_36 rfl ?_
  refine lv_iload_n S.1 S.2.1 dX1_addMachine_37 rfl (lv_at hl 0 rfl) ?_
  refine lv_ishl S.1 S.2.1 dX1_addMachine_38 ?_
  refine lv_ior S.1 S.2.1 dX1_addMachine_39 ?_
  refine r_putI (j := 4) S hW inX1 rfl f54 rfl LH_2 (by decide) rfl tyX1 tyX1_ok nmX1 rfl rfl rfl dX1_addMachine_40 (fun M8 H locs eM8 hW => ?_)
  have h := h M8 eM8
  refine lv_iload_n S.1 S.2.1 dX1_addMachine_43 rfl (lv_at hl 0 rfl) ?_
  exact r_iret S hr hlk hW h dX1_addMachine_44
abbrev rmX1_hasMachine : Room := { frames := 1, cells := 0, slots := 0, locals := 23 }
set_option maxHeartbeats 4000000 in
set_option maxRecDepth 100000 in
theorem mX1_hasMachine (l : Launch) (D : va_G) (T : Nat → ClassId) (σ : Nat → Nat) (M : Mem) (a1 : Int32) (post : Int32 → Mem → Prop) (h : qX1_hasMachine a1 M post) : Met l yX1_hasMachine wsX1_hasMachine rmX1_hasMachine (preW D T LH σ [.ref (σ 2), .int a1] M) (postI D T LH σ post) 0 0 (fA LH σ) := by
  refine m_of (cc := cX1_hasMachine) (maxL := 2) (ret := (some .boolean)) (own := RX1) (by decide) rfl rfl (Nat.le_of_ble_eq_true rfl) ?_
  intro p e s m args below meth c H ls locs S hr hlk hl hW
  have hl : lv_has ls 2 [(0, .ref (σ 2)), (1, .int a1)] := hl
  have inX1 : ∀ w ∈ u_ws RX1 TX1 13, w ∈ wsX1_hasMachine := by decide +kernel
  have f48 := S.2.2.2.2 (.fieldLink RX1 48 "MachineHall$Hall" "machines" "I") (by decide +kernel)
  have w44 := va_cnB (args := args) (R := rmX1_hasMachine) (rm := rmX6_within) (mc := 0) (ms := 0) 3 S.2.2.2.2 gX1_hasMachine_X6_within_n44 rfl rfl rfl hW.2.2.2.2.2.1 (S.2.2.2.2 (.initialized RX6) (by decide +kernel)) (by decide +kernel) ⟨Nat.le_of_ble_eq_true rfl, Nat.le_of_ble_eq_true rfl⟩
  have stX6_within := S.2.2.2.2 (.static yX6_within) (by decide +kernel)
  refine lv_iload_n S.1 S.2.1 dX1_hasMachine_0 rfl (lv_at hl 1 rfl) ?_
  refine lv_i2l S.1 S.2.1 dX1_hasMachine_1 rfl ?_
  refine lv_iconst (v := 0) S.1 S.2.1 dX1_hasMachine_2 rfl ?_
  refine lv_aload_n S.1 S.2.1 dX1_hasMachine_3 rfl (lv_at hl 0 rfl) ?_
  refine r_getI (j := 0) S hW inX1 rfl f48 rfl LH_2 (by decide) rfl dX1_hasMachine_4 ?_
  refine lv_iconst (v := 1) S.1 S.2.1 dX1_hasMachine_7 rfl ?_
  refine lv_isub S.1 S.2.1 dX1_hasMachine_8 ?_
  refine r_goI (r_runN (rest := []) S hW (mX6_within l D T LH σ M (a1.toInt64) (0 : Int32) ((M.1 2 0) - (1 : Int32)) _ h) w44 stX6_within rfl hl.1 rfl (Nat.le_of_ble_eq_true rfl) dX1_hasMachine_9 ⟨Nat.zero_le _, Nat.zero_le _⟩) hW (fun r1 M2 H locs h hW => ?_)
  exact r_zret S hr hlk hW h.1 h.2 dX1_hasMachine_12
abbrev rmX1_has : Room := { frames := 0, cells := 0, slots := 0, locals := 0 }
set_option maxHeartbeats 4000000 in
set_option maxRecDepth 100000 in
theorem mX1_has (l : Launch) (D : va_G) (T : Nat → ClassId) (σ : Nat → Nat) (M : Mem) (a0 : Int32) (a1 : Int32) (post : Int32 → Mem → Prop) (h : qX1_has a0 a1 M post) : Met l yX1_has wsX1_has rmX1_has (preW D T LH σ [.int a0, .int a1] M) (postI D T LH σ post) 0 0 (fA LH σ) := by
  refine m_of (cc := cX1_has) (maxL := 2) (ret := (some .boolean)) (own := RX1) (by decide) rfl rfl (Nat.le_of_ble_eq_true rfl) ?_
  intro p e s m args below meth c H ls locs S hr hlk hl hW
  have hl : lv_has ls 2 [(0, .int a0), (1, .int a1)] := hl
  refine lv_iload_n S.1 S.2.1 dX1_has_0 rfl (lv_at hl 0 rfl) ?_
  refine lv_iload_n S.1 S.2.1 dX1_has_1 rfl (lv_at hl 1 rfl) ?_
  refine lv_ishr S.1 S.2.1 dX1_has_2 ?_
  refine lv_iconst (v := 1) S.1 S.2.1 dX1_has_3 rfl ?_
  refine lv_iand S.1 S.2.1 dX1_has_4 ?_
  refine lv_if_eq (tgt := 12) S.1 S.2.1 dX1_has_5 (by decide) (fun c1 => ?_) (fun c1 => ?_)
  · have h := h.1 c1
    refine lv_iconst (v := 0) S.1 S.2.1 dX1_has_12 rfl ?_
    exact r_zret S hr hlk hW rfl h dX1_has_13
  · have h := h.2 c1
    refine lv_iconst (v := 1) S.1 S.2.1 dX1_has_8 rfl ?_
    refine lv_goto (tgt := 13) S.1 S.2.1 dX1_has_9 (by decide) ?_
    exact r_zret S hr hlk hW rfl h dX1_has_13
abbrev rmX1_isUp : Room := { frames := 1, cells := 0, slots := 0, locals := 21 }
set_option maxHeartbeats 4000000 in
set_option maxRecDepth 100000 in
theorem mX1_isUp (l : Launch) (D : va_G) (T : Nat → ClassId) (σ : Nat → Nat) (M : Mem) (a1 : Int32) (post : Int32 → Mem → Prop) (h : qX1_isUp a1 M post) : Met l yX1_isUp wsX1_isUp rmX1_isUp (preW D T LH σ [.ref (σ 2), .int a1] M) (postI D T LH σ post) 0 0 (fA LH σ) := by
  refine m_of (cc := cX1_isUp) (maxL := 2) (ret := (some .boolean)) (own := RX1) (by decide) rfl rfl (Nat.le_of_ble_eq_true rfl) ?_
  intro p e s m args below meth c H ls locs S hr hlk hl hW
  have hl : lv_has ls 2 [(0, .ref (σ 2)), (1, .int a1)] := hl
  have inX1 : ∀ w ∈ u_ws RX1 TX1 13, w ∈ wsX1_isUp := by decide +kernel
  have f54 := S.2.2.2.2 (.fieldLink RX1 54 "MachineHall$Hall" "ups" "I") (by decide +kernel)
  have w57 := va_cwS (R := rmX1_isUp) (rm := rmX1_has) (mc := 0) (ms := 0) 2 S.2.2.2.2 gX1_isUp_X1_has rfl rfl rfl (by decide +kernel) ⟨Nat.le_of_ble_eq_true rfl, Nat.le_of_ble_eq_true rfl⟩
  refine lv_aload_n S.1 S.2.1 dX1_isUp_0 rfl (lv_at hl 0 rfl) ?_
  refine r_getI (j := 4) S hW inX1 rfl f54 rfl LH_2 (by decide) rfl dX1_isUp_1 ?_
  refine lv_iload_n S.1 S.2.1 dX1_isUp_4 rfl (lv_at hl 1 rfl) ?_
  refine r_goI (r_runS (rest := []) S hW (mX1_has l D T σ M (M.1 2 4) a1 _ h) w57 rfl hl.1 rfl (Nat.le_of_ble_eq_true rfl) dX1_isUp_5 ⟨Nat.zero_le _, Nat.zero_le _⟩) hW (fun r1 M2 H locs h hW => ?_)
  exact r_zret S hr hlk hW h.1 h.2 dX1_isUp_8
abbrev rmX1_turn : Room := { frames := 0, cells := 0, slots := 0, locals := 0 }
set_option maxHeartbeats 4000000 in
set_option maxRecDepth 100000 in
theorem mX1_turn (l : Launch) (D : va_G) (T : Nat → ClassId) (σ : Nat → Nat) (M : Mem) (a1 : Int32) (post : Mem → Prop) (h : qX1_turn a1 M post) : Met l yX1_turn wsX1_turn rmX1_turn (preW D T LH σ [.ref (σ 2), .int a1] M) (postV D T LH σ post) 0 0 (fA LH σ) := by
  refine m_of (cc := cX1_turn) (maxL := 2) (ret := none) (own := RX1) (by decide) rfl rfl (Nat.le_of_ble_eq_true rfl) ?_
  intro p e s m args below meth c H ls locs S hr hlk hl hW
  have hl : lv_has ls 2 [(0, .ref (σ 2)), (1, .int a1)] := hl
  have inX1 : ∀ w ∈ u_ws RX1 TX1 13, w ∈ wsX1_turn := by decide +kernel
  have f54 := S.2.2.2.2 (.fieldLink RX1 54 "MachineHall$Hall" "ups" "I") (by decide +kernel)
  refine lv_aload_n S.1 S.2.1 dX1_turn_0 rfl (lv_at hl 0 rfl) ?_
  refine lv_dup S.1 S.2.1 dX1_turn_1 rfl ?_
  refine r_getI (j := 4) S hW inX1 rfl f54 rfl LH_2 (by decide) rfl dX1_turn_2 ?_
  refine lv_iconst (v := 1) S.1 S.2.1 dX1_turn_5 rfl ?_
  refine lv_iload_n S.1 S.2.1 dX1_turn_6 rfl (lv_at hl 1 rfl) ?_
  refine lv_ishl S.1 S.2.1 dX1_turn_7 ?_
  refine lv_ixor S.1 S.2.1 dX1_turn_8 ?_
  refine r_putI (j := 4) S hW inX1 rfl f54 rfl LH_2 (by decide) rfl tyX1 tyX1_ok nmX1 rfl rfl rfl dX1_turn_9 (fun M1 H locs eM1 hW => ?_)
  have h := h M1 eM1
  exact r_vret S hr hlk hW h dX1_turn_12
abbrev rmX3_forget : Room := { frames := 0, cells := 0, slots := 0, locals := 0 }
set_option maxHeartbeats 4000000 in
set_option maxRecDepth 100000 in
theorem mX3_forget (l : Launch) (D : va_G) (T : Nat → ClassId) (σ : Nat → Nat) (M : Mem)  (post : Mem → Prop) (h : qX3_forget M post) : Met l yX3_forget wsX3_forget rmX3_forget (preW D T LH σ [.ref (σ 3)] M) (postV D T LH σ post) 0 0 (fA LH σ) := by
  refine m_of (cc := cX3_forget) (maxL := 1) (ret := none) (own := RX3) (by decide) rfl rfl (Nat.le_of_ble_eq_true rfl) ?_
  intro p e s m args below meth c H ls locs S hr hlk hl hW
  have hl : lv_has ls 1 [(0, .ref (σ 3))] := hl
  have inX3 : ∀ w ∈ u_ws RX3 TX3 9, w ∈ wsX3_forget := by decide +kernel
  have f38 := S.2.2.2.2 (.fieldLink RX3 38 "MachineHall$Plan" "laidFor" "I") (by decide +kernel)
  refine lv_aload_n S.1 S.2.1 dX3_forget_0 rfl (lv_at hl 0 rfl) ?_
  refine lv_iconst (v := -1) S.1 S.2.1 dX3_forget_1 rfl ?_
  refine r_putI (j := 8) S hW inX3 rfl f38 rfl LH_3 (by decide) rfl tyX3 tyX3_ok nmX3 rfl rfl rfl dX3_forget_2 (fun M1 H locs eM1 hW => ?_)
  have h := h M1 eM1
  exact r_vret S hr hlk hW h dX3_forget_5
abbrev rmX1_markAsked : Room := { frames := 0, cells := 0, slots := 0, locals := 0 }
set_option maxHeartbeats 4000000 in
set_option maxRecDepth 100000 in
theorem mX1_markAsked (l : Launch) (D : va_G) (T : Nat → ClassId) (σ : Nat → Nat) (M : Mem) (a1 : Int32) (post : Mem → Prop) (h : qX1_markAsked a1 M post) : Met l yX1_markAsked wsX1_markAsked rmX1_markAsked (preW D T LH σ [.ref (σ 2), .int a1] M) (postV D T LH σ post) 0 0 (fA LH σ) := by
  refine m_of (cc := cX1_markAsked) (maxL := 3) (ret := none) (own := RX1) (by decide) rfl rfl (Nat.le_of_ble_eq_true rfl) ?_
  intro p e s m args below meth c H ls locs S hr hlk hl hW
  have hl : lv_has ls 3 [(0, .ref (σ 2)), (1, .int a1)] := hl
  have inX1 : ∀ w ∈ u_ws RX1 TX1 13, w ∈ wsX1_markAsked := by decide +kernel
  have f34 := S.2.2.2.2 (.fieldLink RX1 34 "MachineHall$Hall" "asked" "[Z") (by decide +kernel)
  obtain ⟨R2, e2⟩ : ∃ R : Int32 → Mem → Prop, ∀ x2 M, R x2 M ↔ WW p l e rmX1_markAsked s m args below meth c D T LH σ 3 (MQ below (postV D T LH σ post) args s 0 0 (fA LH σ)) 2 [(0, .ref (σ 2)), (1, .int a1), (2, .int x2)] [] M := ⟨_, fun _ _ => Iff.rfl⟩
  have h := h R2
  have z2 : ∀ x2 M, qX1_markAsked_b2 a1 post R2 x2 M → R2 x2 M := by
    intro x2 M h
    refine (e2 _ _).mpr (fun H locs ls hW hl => ?_)
    refine lv_iload_n S.1 S.2.1 dX1_markAsked_2 rfl (lv_at hl 2 rfl) ?_
    refine lv_if_le (tgt := 22) S.1 S.2.1 dX1_markAsked_3 (by decide) (fun c1 => ?_) (fun c1 => ?_)
    · have h := h.1 c1
      exact r_vret S hr hlk hW h dX1_markAsked_22
    · have h := h.2 c1
      refine lv_aload_n S.1 S.2.1 dX1_markAsked_6 rfl (lv_at hl 0 rfl) ?_
      refine r_getR (j := 10) S hW inX1 rfl f34 rfl LH_2 (by decide) rfl dX1_markAsked_7 ?_
      refine lv_iload_n S.1 S.2.1 dX1_markAsked_10 rfl (lv_at hl 2 rfl) ?_
      refine lv_iconst (v := 1) S.1 S.2.1 dX1_markAsked_11 rfl ?_
      have b2 := h.1
      have h := h.2
      refine r_zast S hW LH_17 b2 dX1_markAsked_12 (fun M3 H locs eM3 hW => ?_)
      have h := h M3 eM3
      refine lv_iload_n S.1 S.2.1 dX1_markAsked_13 rfl (lv_at hl 2 rfl) ?_
      refine lv_iconst (v := 1) S.1 S.2.1 dX1_markAsked_14 rfl ?_
      refine lv_isub S.1 S.2.1 dX1_markAsked_15 ?_
      refine lv_iload_n S.1 S.2.1 dX1_markAsked_16 rfl (lv_at hl 1 rfl) ?_
      refine lv_iand S.1 S.2.1 dX1_markAsked_17 ?_
      refine lv_topi (fun v4 ev4 => ?_)
      have h := h v4 ev4
      refine lv_istore_n (lv' := [(2, .int v4), (0, .ref (σ 2)), (1, .int a1)]) S.1 S.2.1 dX1_markAsked_18 rfl hl (by decide) rfl (fun ls hl => ?_)
      refine lv_goto (tgt := 2) S.1 S.2.1 dX1_markAsked_19 (by decide) ?_
      exact (e2 _ _).mp h H locs ls hW (lv_sub hl [1, 2, 0] rfl)
  have h := h z2
  refine lv_iload_n S.1 S.2.1 dX1_markAsked_0 rfl (lv_at hl 1 rfl) ?_
  refine lv_istore_n (lv' := [(2, .int a1), (0, .ref (σ 2)), (1, .int a1)]) S.1 S.2.1 dX1_markAsked_1 rfl hl (by decide) rfl (fun ls hl => ?_)
  exact (e2 _ _).mp h H locs ls hW (lv_sub hl [1, 2, 0] rfl)
abbrev rmX1_tally : Room := { frames := 0, cells := 0, slots := 0, locals := 0 }
set_option maxHeartbeats 4000000 in
set_option maxRecDepth 100000 in
theorem mX1_tally (l : Launch) (D : va_G) (T : Nat → ClassId) (σ : Nat → Nat) (M : Mem)  (post : Mem → Prop) (h : qX1_tally M post) : Met l yX1_tally wsX1_tally rmX1_tally (preW D T LH σ [.ref (σ 2)] M) (postV D T LH σ post) 0 0 (fA LH σ) := by
  refine m_of (cc := cX1_tally) (maxL := 4) (ret := none) (own := RX1) (by decide) rfl rfl (Nat.le_of_ble_eq_true rfl) ?_
  intro p e s m args below meth c H ls locs S hr hlk hl hW
  have hl : lv_has ls 4 [(0, .ref (σ 2))] := hl
  have inX1 : ∀ w ∈ u_ws RX1 TX1 13, w ∈ wsX1_tally := by decide +kernel
  have f40 := S.2.2.2.2 (.fieldLink RX1 40 "MachineHall$Hall" "latestFor" "I") (by decide +kernel)
  have f51 := S.2.2.2.2 (.fieldLink RX1 51 "MachineHall$Hall" "asks" "I") (by decide +kernel)
  have f27 := S.2.2.2.2 (.fieldLink RX1 27 "MachineHall$Hall" "load" "[I") (by decide +kernel)
  have f18 := S.2.2.2.2 (.fieldLink RX1 18 "MachineHall$Hall" "needs" "[I") (by decide +kernel)
  have f30 := S.2.2.2.2 (.fieldLink RX1 30 "MachineHall$Hall" "clash" "[Z") (by decide +kernel)
  have f21 := S.2.2.2.2 (.fieldLink RX1 21 "MachineHall$Hall" "foes" "[I") (by decide +kernel)
  obtain ⟨R7, e7⟩ : ∃ R : Int32 → Mem → Prop, ∀ x1 M, R x1 M ↔ WW p l e rmX1_tally s m args below meth c D T LH σ 4 (MQ below (postV D T LH σ post) args s 0 0 (fA LH σ)) 7 [(0, .ref (σ 2)), (1, .int x1)] [] M := ⟨_, fun _ _ => Iff.rfl⟩
  obtain ⟨R21, e21⟩ : ∃ R : Int32 → Int32 → Int32 → Mem → Prop, ∀ x1 x2 x3 M, R x1 x2 x3 M ↔ WW p l e rmX1_tally s m args below meth c D T LH σ 4 (MQ below (postV D T LH σ post) args s 0 0 (fA LH σ)) 21 [(0, .ref (σ 2)), (1, .int x1), (2, .int x2), (3, .int x3)] [] M := ⟨_, fun _ _ _ _ => Iff.rfl⟩
  have h := h R7 R21
  have z7 : ∀ x1 M, qX1_tally_b7 post R7 R21 x1 M → R7 x1 M := by
    intro x1 M h
    refine (e7 _ _).mpr (fun H locs ls hW hl => ?_)
    refine lv_iload_n S.1 S.2.1 dX1_tally_7 rfl (lv_at hl 1 rfl) ?_
    refine lv_aload_n S.1 S.2.1 dX1_tally_8 rfl (lv_at hl 0 rfl) ?_
    refine r_getI (j := 1) S hW inX1 rfl f51 rfl LH_2 (by decide) rfl dX1_tally_9 ?_
    refine lv_icmp_ge (tgt := 92) S.1 S.2.1 dX1_tally_12 (by decide) (fun c2 => ?_) (fun c2 => ?_)
    · have h := h.1 c2
      exact r_vret S hr hlk hW h dX1_tally_92
    · have h := h.2 c2
      refine lv_iconst (v := 1) S.1 S.2.1 dX1_tally_15 rfl ?_
      refine lv_iload_n S.1 S.2.1 dX1_tally_16 rfl (lv_at hl 1 rfl) ?_
      refine lv_ishl S.1 S.2.1 dX1_tally_17 ?_
      refine lv_topi (fun v3 ev3 => ?_)
      have h := h v3 ev3
      refine lv_istore_n (lv' := [(2, .int v3), (0, .ref (σ 2)), (1, .int x1)]) S.1 S.2.1 dX1_tally_18 rfl hl (by decide) rfl (fun ls hl => ?_)
      refine lv_iconst (v := 0) S.1 S.2.1 dX1_tally_19 rfl ?_
      refine lv_istore_n (lv' := [(3, .int (0 : Int32)), (2, .int v3), (0, .ref (σ 2)), (1, .int x1)]) S.1 S.2.1 dX1_tally_20 rfl hl (by decide) rfl (fun ls hl => ?_)
      exact (e21 _ _ _ _).mp h H locs ls hW (lv_sub hl [2, 3, 1, 0] rfl)
  have z21 : ∀ x1 x2 x3 M, qX1_tally_b21 post R7 R21 x1 x2 x3 M → R21 x1 x2 x3 M := by
    intro x1 x2 x3 M h
    refine (e21 _ _ _ _).mpr (fun H locs ls hW hl => ?_)
    refine lv_iload_n S.1 S.2.1 dX1_tally_21 rfl (lv_at hl 3 rfl) ?_
    refine lv_iload_n S.1 S.2.1 dX1_tally_22 rfl (lv_at hl 2 rfl) ?_
    refine lv_icmp_ge (tgt := 86) S.1 S.2.1 dX1_tally_23 (by decide) (fun c4 => ?_) (fun c4 => ?_)
    · have h := h.1 c4
      obtain ⟨v5, ev5⟩ : ∃ y : Int32, y = x1 + 1 := ⟨_, rfl⟩
      have h := h v5 ev5
      refine lv_iinc (v := v5) (lv' := [(1, .int v5), (0, .ref (σ 2)), (2, .int x2), (3, .int x3)]) S.1 S.2.1 dX1_tally_86 hl (k := 1) rfl (by rw [ev5]; rfl) (by decide) rfl (fun ls hl => ?_)
      refine lv_goto (tgt := 7) S.1 S.2.1 dX1_tally_89 (by decide) ?_
      exact (e7 _ _).mp h H locs ls hW (lv_sub hl [1, 0] rfl)
    · have h := h.2 c4
      refine lv_aload_n S.1 S.2.1 dX1_tally_26 rfl (lv_at hl 0 rfl) ?_
      refine r_getR (j := 8) S hW inX1 rfl f27 rfl LH_2 (by decide) rfl dX1_tally_27 ?_
      refine lv_iload_n S.1 S.2.1 dX1_tally_30 rfl (lv_at hl 2 rfl) ?_
      refine lv_iload_n S.1 S.2.1 dX1_tally_31 rfl (lv_at hl 3 rfl) ?_
      refine lv_ior S.1 S.2.1 dX1_tally_32 ?_
      refine lv_aload_n S.1 S.2.1 dX1_tally_33 rfl (lv_at hl 0 rfl) ?_
      refine r_getR (j := 8) S hW inX1 rfl f27 rfl LH_2 (by decide) rfl dX1_tally_34 ?_
      refine lv_iload_n S.1 S.2.1 dX1_tally_37 rfl (lv_at hl 3 rfl) ?_
      have b6 := h.1
      have h := h.2
      refine r_iald S hW LH_15 b6 dX1_tally_38 ?_
      refine lv_aload_n S.1 S.2.1 dX1_tally_39 rfl (lv_at hl 0 rfl) ?_
      refine r_getR (j := 5) S hW inX1 rfl f18 rfl LH_2 (by decide) rfl dX1_tally_40 ?_
      refine lv_iload_n S.1 S.2.1 dX1_tally_43 rfl (lv_at hl 1 rfl) ?_
      have b7 := h.1
      have h := h.2
      refine r_iald S hW LH_12 b7 dX1_tally_44 ?_
      refine lv_iadd S.1 S.2.1 dX1_tally_45 ?_
      have b8 := h.1
      have h := h.2
      refine r_iast S hW LH_15 b8 dX1_tally_46 (fun M9 H locs eM9 hW => ?_)
      have h := h M9 eM9
      refine lv_aload_n S.1 S.2.1 dX1_tally_47 rfl (lv_at hl 0 rfl) ?_
      refine r_getR (j := 9) S hW inX1 rfl f30 rfl LH_2 (by decide) rfl dX1_tally_48 ?_
      refine lv_iload_n S.1 S.2.1 dX1_tally_51 rfl (lv_at hl 2 rfl) ?_
      refine lv_iload_n S.1 S.2.1 dX1_tally_52 rfl (lv_at hl 3 rfl) ?_
      refine lv_ior S.1 S.2.1 dX1_tally_53 ?_
      refine lv_aload_n S.1 S.2.1 dX1_tally_54 rfl (lv_at hl 0 rfl) ?_
      refine r_getR (j := 9) S hW inX1 rfl f30 rfl LH_2 (by decide) rfl dX1_tally_55 ?_
      refine lv_iload_n S.1 S.2.1 dX1_tally_58 rfl (lv_at hl 3 rfl) ?_
      have b10 := h.1
      have h := h.2
      refine r_zald S hW LH_16 b10 dX1_tally_59 ?_
      refine lv_if_ne (tgt := 74) S.1 S.2.1 dX1_tally_60 (by decide) (fun c11 => ?_) (fun c11 => ?_)
      · have h := h.1 c11
        refine lv_iconst (v := 1) S.1 S.2.1 dX1_tally_74 rfl ?_
        refine lv_goto (tgt := 79) S.1 S.2.1 dX1_tally_75 (by decide) ?_
        have b12 := h.1
        have h := h.2
        refine r_zast S hW LH_16 b12 dX1_tally_79 (fun M13 H locs eM13 hW => ?_)
        have h := h M13 eM13
        obtain ⟨v14, ev14⟩ : ∃ y : Int32, y = x3 + 1 := ⟨_, rfl⟩
        have h := h v14 ev14
        refine lv_iinc (v := v14) (lv' := [(3, .int v14), (0, .ref (σ 2)), (1, .int x1), (2, .int x2)]) S.1 S.2.1 dX1_tally_80 hl (k := 3) rfl (by rw [ev14]; rfl) (by decide) rfl (fun ls hl => ?_)
        refine lv_goto (tgt := 21) S.1 S.2.1 dX1_tally_83 (by decide) ?_
        exact (e21 _ _ _ _).mp h H locs ls hW (lv_sub hl [1, 2, 3, 0] rfl)
      · have h := h.2 c11
        refine lv_aload_n S.1 S.2.1 dX1_tally_63 rfl (lv_at hl 0 rfl) ?_
        refine r_getR (j := 6) S hW inX1 rfl f21 rfl LH_2 (by decide) rfl dX1_tally_64 ?_
        refine lv_iload_n S.1 S.2.1 dX1_tally_67 rfl (lv_at hl 1 rfl) ?_
        have b15 := h.1
        have h := h.2
        refine r_iald S hW LH_13 b15 dX1_tally_68 ?_
        refine lv_iload_n S.1 S.2.1 dX1_tally_69 rfl (lv_at hl 3 rfl) ?_
        refine lv_iand S.1 S.2.1 dX1_tally_70 ?_
        refine lv_if_eq (tgt := 78) S.1 S.2.1 dX1_tally_71 (by decide) (fun c16 => ?_) (fun c16 => ?_)
        · have h := h.1 c16
          refine lv_iconst (v := 0) S.1 S.2.1 dX1_tally_78 rfl ?_
          have b17 := h.1
          have h := h.2
          refine r_zast S hW LH_16 b17 dX1_tally_79 (fun M18 H locs eM18 hW => ?_)
          have h := h M18 eM18
          obtain ⟨v19, ev19⟩ : ∃ y : Int32, y = x3 + 1 := ⟨_, rfl⟩
          have h := h v19 ev19
          refine lv_iinc (v := v19) (lv' := [(3, .int v19), (0, .ref (σ 2)), (1, .int x1), (2, .int x2)]) S.1 S.2.1 dX1_tally_80 hl (k := 3) rfl (by rw [ev19]; rfl) (by decide) rfl (fun ls hl => ?_)
          refine lv_goto (tgt := 21) S.1 S.2.1 dX1_tally_83 (by decide) ?_
          exact (e21 _ _ _ _).mp h H locs ls hW (lv_sub hl [1, 2, 3, 0] rfl)
        · have h := h.2 c16
          refine lv_iconst (v := 1) S.1 S.2.1 dX1_tally_74 rfl ?_
          refine lv_goto (tgt := 79) S.1 S.2.1 dX1_tally_75 (by decide) ?_
          have b20 := h.1
          have h := h.2
          refine r_zast S hW LH_16 b20 dX1_tally_79 (fun M21 H locs eM21 hW => ?_)
          have h := h M21 eM21
          obtain ⟨v22, ev22⟩ : ∃ y : Int32, y = x3 + 1 := ⟨_, rfl⟩
          have h := h v22 ev22
          refine lv_iinc (v := v22) (lv' := [(3, .int v22), (0, .ref (σ 2)), (1, .int x1), (2, .int x2)]) S.1 S.2.1 dX1_tally_80 hl (k := 3) rfl (by rw [ev22]; rfl) (by decide) rfl (fun ls hl => ?_)
          refine lv_goto (tgt := 21) S.1 S.2.1 dX1_tally_83 (by decide) ?_
          exact (e21 _ _ _ _).mp h H locs ls hW (lv_sub hl [1, 2, 3, 0] rfl)
  have h := h z7 z21
  refine lv_aload_n S.1 S.2.1 dX1_tally_0 rfl (lv_at hl 0 rfl) ?_
  refine lv_iconst (v := -1) S.1 S.2.1 dX1_tally_1 rfl ?_
  refine r_putI (j := 12) S hW inX1 rfl f40 rfl LH_2 (by decide) rfl tyX1 tyX1_ok nmX1 rfl rfl rfl dX1_tally_2 (fun M1 H locs eM1 hW => ?_)
  have h := h M1 eM1
  refine lv_iconst (v := 0) S.1 S.2.1 dX1_tally_5 rfl ?_
  refine lv_istore_n (lv' := [(1, .int (0 : Int32)), (0, .ref (σ 2))]) S.1 S.2.1 dX1_tally_6 rfl hl (by decide) rfl (fun ls hl => ?_)
  exact (e7 _ _).mp h H locs ls hW (lv_sub hl [1, 0] rfl)
abbrev rmX1_addAsk : Room := { frames := 1, cells := 0, slots := 0, locals := 23 }
set_option maxHeartbeats 4000000 in
set_option maxRecDepth 100000 in
theorem mX1_addAsk (l : Launch) (D : va_G) (T : Nat → ClassId) (σ : Nat → Nat) (M : Mem) (a1 : Int32) (a2 : Int32) (a3 : Int32) (post : Int32 → Mem → Prop) (h : qX1_addAsk a1 a2 a3 M post) : Met l yX1_addAsk wsX1_addAsk rmX1_addAsk (preW D T LH σ [.ref (σ 2), .int a1, .int a2, .int a3] M) (postI D T LH σ post) 0 0 (fA LH σ) := by
  refine m_of (cc := cX1_addAsk) (maxL := 6) (ret := (some .int)) (own := RX1) (by decide) rfl rfl (Nat.le_of_ble_eq_true rfl) ?_
  intro p e s m args below meth c H ls locs S hr hlk hl hW
  have hl : lv_has ls 6 [(0, .ref (σ 2)), (1, .int a1), (2, .int a2), (3, .int a3)] := hl
  have inX1 : ∀ w ∈ u_ws RX1 TX1 13, w ∈ wsX1_addAsk := by decide +kernel
  have f51 := S.2.2.2.2 (.fieldLink RX1 51 "MachineHall$Hall" "asks" "I") (by decide +kernel)
  have f18 := S.2.2.2.2 (.fieldLink RX1 18 "MachineHall$Hall" "needs" "[I") (by decide +kernel)
  have w65 := cwV (R := rmX1_addAsk) (rm := rmX1_tally) (mc := 0) (ms := 0) 0 S.2.2.2.2 gX1_addAsk_X1_tally rfl rfl rfl (by decide +kernel) ⟨Nat.le_of_ble_eq_true rfl, Nat.le_of_ble_eq_true rfl⟩
  have f24 := S.2.2.2.2 (.fieldLink RX1 24 "MachineHall$Hall" "ofHour" "[I") (by decide +kernel)
  have w61 := cwV (R := rmX1_addAsk) (rm := rmX1_markAsked) (mc := 0) (ms := 0) 1 S.2.2.2.2 gX1_addAsk_X1_markAsked rfl rfl rfl (by decide +kernel) ⟨Nat.le_of_ble_eq_true rfl, Nat.le_of_ble_eq_true rfl⟩
  obtain ⟨R24, e24⟩ : ∃ R : Int32 → Int32 → Mem → Prop, ∀ x4 x5 M, R x4 x5 M ↔ WW p l e rmX1_addAsk s m args below meth c D T LH σ 6 (MQ below (postI D T LH σ post) args s 0 0 (fA LH σ)) 24 [(0, .ref (σ 2)), (3, .int a3), (4, .int x4), (5, .int x5)] [] M := ⟨_, fun _ _ _ => Iff.rfl⟩
  have h := h R24
  have z24 : ∀ x4 x5 M, qX1_addAsk_b24 a1 a2 a3 post R24 x4 x5 M → R24 x4 x5 M := by
    intro x4 x5 M h
    refine (e24 _ _ _).mpr (fun H locs ls hW hl => ?_)
    refine lv_iload S.1 S.2.1 dX1_addAsk_24 (lv_at hl 3 rfl) ?_
    refine lv_iload_n S.1 S.2.1 dX1_addAsk_26 rfl (lv_at hl 1 rfl) ?_
    refine lv_icmp_gt (tgt := 61) S.1 S.2.1 dX1_addAsk_27 (by decide) (fun c5 => ?_) (fun c5 => ?_)
    · have h := h.1 c5
      refine lv_aload_n S.1 S.2.1 dX1_addAsk_61 rfl (lv_at hl 0 rfl) ?_
      refine r_goV (r_runV (rest := []) S hW (mX1_tally l D T σ M _ h) w65 rfl LH_2 rfl hl.1 rfl (Nat.le_of_ble_eq_true rfl) dX1_addAsk_62 ⟨Nat.zero_le _, Nat.zero_le _⟩) hW (fun M7 H locs h hW => ?_)
      refine lv_iload S.1 S.2.1 dX1_addAsk_65 (lv_at hl 2 rfl) ?_
      exact r_iret S hr hlk hW h dX1_addAsk_67
    · have h := h.2 c5
      refine lv_aload_n S.1 S.2.1 dX1_addAsk_30 rfl (lv_at hl 0 rfl) ?_
      refine r_getR (j := 7) S hW inX1 rfl f24 rfl LH_2 (by decide) rfl dX1_addAsk_31 ?_
      refine lv_iload S.1 S.2.1 dX1_addAsk_34 (lv_at hl 3 rfl) ?_
      refine lv_dup2_11 S.1 S.2.1 dX1_addAsk_36 rfl rfl ?_
      have b8 := h.1
      have h := h.2
      refine r_iald S hW LH_14 b8 dX1_addAsk_37 ?_
      refine lv_iconst (v := 1) S.1 S.2.1 dX1_addAsk_38 rfl ?_
      refine lv_iload S.1 S.2.1 dX1_addAsk_39 (lv_at hl 2 rfl) ?_
      refine lv_ishl S.1 S.2.1 dX1_addAsk_41 ?_
      refine lv_ior S.1 S.2.1 dX1_addAsk_42 ?_
      have b9 := h.1
      have h := h.2
      refine r_iast S hW LH_14 b9 dX1_addAsk_43 (fun M10 H locs eM10 hW => ?_)
      have h := h M10 eM10
      refine lv_aload_n S.1 S.2.1 dX1_addAsk_44 rfl (lv_at hl 0 rfl) ?_
      refine lv_aload_n S.1 S.2.1 dX1_addAsk_45 rfl (lv_at hl 0 rfl) ?_
      refine r_getR (j := 7) S hW inX1 rfl f24 rfl LH_2 (by decide) rfl dX1_addAsk_46 ?_
      refine lv_iload S.1 S.2.1 dX1_addAsk_49 (lv_at hl 3 rfl) ?_
      have b11 := h.1
      have h := h.2
      refine r_iald S hW LH_14 b11 dX1_addAsk_51 ?_
      refine r_goV (r_runV (rest := []) S hW (mX1_markAsked l D T σ M10 (M10.1 14 x5.toNatClampNeg) _ h) w61 rfl LH_2 rfl hl.1 rfl (Nat.le_of_ble_eq_true rfl) dX1_addAsk_52 ⟨Nat.zero_le _, Nat.zero_le _⟩) hW (fun M13 H locs h hW => ?_)
      obtain ⟨v14, ev14⟩ : ∃ y : Int32, y = x5 + 1 := ⟨_, rfl⟩
      have h := h v14 ev14
      refine lv_iinc (v := v14) (lv' := [(5, .int v14), (0, .ref (σ 2)), (3, .int a3), (4, .int x4)]) S.1 S.2.1 dX1_addAsk_55 hl (k := 3) rfl (by rw [ev14]; rfl) (by decide) rfl (fun ls hl => ?_)
      refine lv_goto (tgt := 24) S.1 S.2.1 dX1_addAsk_58 (by decide) ?_
      exact (e24 _ _ _).mp h H locs ls hW (lv_sub hl [1, 2, 3, 0] rfl)
  have h := h z24
  refine lv_aload_n S.1 S.2.1 dX1_addAsk_0 rfl (lv_at hl 0 rfl) ?_
  refine lv_dup S.1 S.2.1 dX1_addAsk_1 rfl ?_
  refine r_getI (j := 1) S hW inX1 rfl f51 rfl LH_2 (by decide) rfl dX1_addAsk_2 ?_
  refine lv_dup_x1 S.1 S.2.1 dX1_addAsk_5 rfl rfl ?_
  refine lv_iconst (v := 1) S.1 S.2.1 dX1_addAsk_6 rfl ?_
  refine lv_iadd S.1 S.2.1 dX1_addAsk_7 ?_
  refine r_putI (j := 1) S hW inX1 rfl f51 rfl LH_2 (by decide) rfl tyX1 tyX1_ok nmX1 rfl rfl rfl dX1_addAsk_8 (fun M1 H locs eM1 hW => ?_)
  have h := h M1 eM1
  refine lv_topi (fun v2 ev2 => ?_)
  have h := h v2 ev2
  refine lv_istore (lv' := [(4, .int v2), (0, .ref (σ 2)), (1, .int a1), (2, .int a2), (3, .int a3)]) S.1 S.2.1 dX1_addAsk_11 hl (by decide) rfl (fun ls hl => ?_)
  refine lv_aload_n S.1 S.2.1 dX1_addAsk_13 rfl (lv_at hl 1 rfl) ?_
  refine r_getR (j := 5) S hW inX1 rfl f18 rfl LH_2 (by decide) rfl dX1_addAsk_14 ?_
  refine lv_iload S.1 S.2.1 dX1_addAsk_17 (lv_at hl 0 rfl) ?_
  refine lv_iload_n S.1 S.2.1 dX1_addAsk_19 rfl (lv_at hl 2 rfl) ?_
  have b3 := h.1
  have h := h.2
  refine r_iast S hW LH_12 b3 dX1_addAsk_20 (fun M4 H locs eM4 hW => ?_)
  have h := h M4 eM4
  refine lv_iload_n S.1 S.2.1 dX1_addAsk_21 rfl (lv_at hl 3 rfl) ?_
  refine lv_istore (lv' := [(5, .int a2), (4, .int v2), (0, .ref (σ 2)), (1, .int a1), (2, .int a2), (3, .int a3)]) S.1 S.2.1 dX1_addAsk_22 hl (by decide) rfl (fun ls hl => ?_)
  exact (e24 _ _ _).mp h H locs ls hW (lv_sub hl [2, 5, 1, 0] rfl)
abbrev rmX1_hasAsk : Room := { frames := 1, cells := 0, slots := 0, locals := 23 }
set_option maxHeartbeats 4000000 in
set_option maxRecDepth 100000 in
theorem mX1_hasAsk (l : Launch) (D : va_G) (T : Nat → ClassId) (σ : Nat → Nat) (M : Mem) (a1 : Int32) (post : Int32 → Mem → Prop) (h : qX1_hasAsk a1 M post) : Met l yX1_hasAsk wsX1_hasAsk rmX1_hasAsk (preW D T LH σ [.ref (σ 2), .int a1] M) (postI D T LH σ post) 0 0 (fA LH σ) := by
  refine m_of (cc := cX1_hasAsk) (maxL := 2) (ret := (some .boolean)) (own := RX1) (by decide) rfl rfl (Nat.le_of_ble_eq_true rfl) ?_
  intro p e s m args below meth c H ls locs S hr hlk hl hW
  have hl : lv_has ls 2 [(0, .ref (σ 2)), (1, .int a1)] := hl
  have inX1 : ∀ w ∈ u_ws RX1 TX1 13, w ∈ wsX1_hasAsk := by decide +kernel
  have f51 := S.2.2.2.2 (.fieldLink RX1 51 "MachineHall$Hall" "asks" "I") (by decide +kernel)
  have w44 := va_cnB (args := args) (R := rmX1_hasAsk) (rm := rmX6_within) (mc := 0) (ms := 0) 3 S.2.2.2.2 gX1_hasAsk_X6_within_n44 rfl rfl rfl hW.2.2.2.2.2.1 (S.2.2.2.2 (.initialized RX6) (by decide +kernel)) (by decide +kernel) ⟨Nat.le_of_ble_eq_true rfl, Nat.le_of_ble_eq_true rfl⟩
  have stX6_within := S.2.2.2.2 (.static yX6_within) (by decide +kernel)
  refine lv_iload_n S.1 S.2.1 dX1_hasAsk_0 rfl (lv_at hl 1 rfl) ?_
  refine lv_i2l S.1 S.2.1 dX1_hasAsk_1 rfl ?_
  refine lv_iconst (v := 0) S.1 S.2.1 dX1_hasAsk_2 rfl ?_
  refine lv_aload_n S.1 S.2.1 dX1_hasAsk_3 rfl (lv_at hl 0 rfl) ?_
  refine r_getI (j := 1) S hW inX1 rfl f51 rfl LH_2 (by decide) rfl dX1_hasAsk_4 ?_
  refine lv_iconst (v := 1) S.1 S.2.1 dX1_hasAsk_7 rfl ?_
  refine lv_isub S.1 S.2.1 dX1_hasAsk_8 ?_
  refine r_goI (r_runN (rest := []) S hW (mX6_within l D T LH σ M (a1.toInt64) (0 : Int32) ((M.1 2 1) - (1 : Int32)) _ h) w44 stX6_within rfl hl.1 rfl (Nat.le_of_ble_eq_true rfl) dX1_hasAsk_9 ⟨Nat.zero_le _, Nat.zero_le _⟩) hW (fun r1 M2 H locs h hW => ?_)
  exact r_zret S hr hlk hW h.1 h.2 dX1_hasAsk_12
abbrev rmX1_areFoes : Room := { frames := 1, cells := 0, slots := 0, locals := 21 }
set_option maxHeartbeats 4000000 in
set_option maxRecDepth 100000 in
theorem mX1_areFoes (l : Launch) (D : va_G) (T : Nat → ClassId) (σ : Nat → Nat) (M : Mem) (a1 : Int32) (a2 : Int32) (post : Int32 → Mem → Prop) (h : qX1_areFoes a1 a2 M post) : Met l yX1_areFoes wsX1_areFoes rmX1_areFoes (preW D T LH σ [.ref (σ 2), .int a1, .int a2] M) (postI D T LH σ post) 0 0 (fA LH σ) := by
  refine m_of (cc := cX1_areFoes) (maxL := 3) (ret := (some .boolean)) (own := RX1) (by decide) rfl rfl (Nat.le_of_ble_eq_true rfl) ?_
  intro p e s m args below meth c H ls locs S hr hlk hl hW
  have hl : lv_has ls 3 [(0, .ref (σ 2)), (1, .int a1), (2, .int a2)] := hl
  have inX1 : ∀ w ∈ u_ws RX1 TX1 13, w ∈ wsX1_areFoes := by decide +kernel
  have f21 := S.2.2.2.2 (.fieldLink RX1 21 "MachineHall$Hall" "foes" "[I") (by decide +kernel)
  have w57 := va_cwS (R := rmX1_areFoes) (rm := rmX1_has) (mc := 0) (ms := 0) 2 S.2.2.2.2 gX1_areFoes_X1_has rfl rfl rfl (by decide +kernel) ⟨Nat.le_of_ble_eq_true rfl, Nat.le_of_ble_eq_true rfl⟩
  refine lv_aload_n S.1 S.2.1 dX1_areFoes_0 rfl (lv_at hl 0 rfl) ?_
  refine r_getR (j := 6) S hW inX1 rfl f21 rfl LH_2 (by decide) rfl dX1_areFoes_1 ?_
  refine lv_iload_n S.1 S.2.1 dX1_areFoes_4 rfl (lv_at hl 1 rfl) ?_
  have b1 := h.1
  have h := h.2
  refine r_iald S hW LH_13 b1 dX1_areFoes_5 ?_
  refine lv_iload_n S.1 S.2.1 dX1_areFoes_6 rfl (lv_at hl 2 rfl) ?_
  refine r_goI (r_runS (rest := []) S hW (mX1_has l D T σ M (M.1 13 a1.toNatClampNeg) a2 _ h) w57 rfl hl.1 rfl (Nat.le_of_ble_eq_true rfl) dX1_areFoes_7 ⟨Nat.zero_le _, Nat.zero_le _⟩) hW (fun r2 M3 H locs h hW => ?_)
  exact r_zret S hr hlk hW h.1 h.2 dX1_areFoes_10
abbrev rmX1_turnFoes : Room := { frames := 1, cells := 0, slots := 0, locals := 23 }
set_option maxHeartbeats 4000000 in
set_option maxRecDepth 100000 in
theorem mX1_turnFoes (l : Launch) (D : va_G) (T : Nat → ClassId) (σ : Nat → Nat) (M : Mem) (a1 : Int32) (a2 : Int32) (post : Mem → Prop) (h : qX1_turnFoes a1 a2 M post) : Met l yX1_turnFoes wsX1_turnFoes rmX1_turnFoes (preW D T LH σ [.ref (σ 2), .int a1, .int a2] M) (postV D T LH σ post) 0 0 (fA LH σ) := by
  refine m_of (cc := cX1_turnFoes) (maxL := 3) (ret := none) (own := RX1) (by decide) rfl rfl (Nat.le_of_ble_eq_true rfl) ?_
  intro p e s m args below meth c H ls locs S hr hlk hl hW
  have hl : lv_has ls 3 [(0, .ref (σ 2)), (1, .int a1), (2, .int a2)] := hl
  have inX1 : ∀ w ∈ u_ws RX1 TX1 13, w ∈ wsX1_turnFoes := by decide +kernel
  have f21 := S.2.2.2.2 (.fieldLink RX1 21 "MachineHall$Hall" "foes" "[I") (by decide +kernel)
  have w65 := cwV (R := rmX1_turnFoes) (rm := rmX1_tally) (mc := 0) (ms := 0) 0 S.2.2.2.2 gX1_turnFoes_X1_tally rfl rfl rfl (by decide +kernel) ⟨Nat.le_of_ble_eq_true rfl, Nat.le_of_ble_eq_true rfl⟩
  refine lv_aload_n S.1 S.2.1 dX1_turnFoes_0 rfl (lv_at hl 0 rfl) ?_
  refine r_getR (j := 6) S hW inX1 rfl f21 rfl LH_2 (by decide) rfl dX1_turnFoes_1 ?_
  refine lv_iload_n S.1 S.2.1 dX1_turnFoes_4 rfl (lv_at hl 1 rfl) ?_
  refine lv_dup2_11 S.1 S.2.1 dX1_turnFoes_5 rfl rfl ?_
  have b1 := h.1
  have h := h.2
  refine r_iald S hW LH_13 b1 dX1_turnFoes_6 ?_
  refine lv_iconst (v := 1) S.1 S.2.1 dX1_turnFoes_7 rfl ?_
  refine lv_iload_n S.1 S.2.1 dX1_turnFoes_8 rfl (lv_at hl 2 rfl) ?_
  refine lv_ishl S.1 S.2.1 dX1_turnFoes_9 ?_
  refine lv_ixor S.1 S.2.1 dX1_turnFoes_10 ?_
  have b2 := h.1
  have h := h.2
  refine r_iast S hW LH_13 b2 dX1_turnFoes_11 (fun M3 H locs eM3 hW => ?_)
  have h := h M3 eM3
  refine lv_aload_n S.1 S.2.1 dX1_turnFoes_12 rfl (lv_at hl 0 rfl) ?_
  refine r_getR (j := 6) S hW inX1 rfl f21 rfl LH_2 (by decide) rfl dX1_turnFoes_13 ?_
  refine lv_iload_n S.1 S.2.1 dX1_turnFoes_16 rfl (lv_at hl 2 rfl) ?_
  refine lv_dup2_11 S.1 S.2.1 dX1_turnFoes_17 rfl rfl ?_
  have b4 := h.1
  have h := h.2
  refine r_iald S hW LH_13 b4 dX1_turnFoes_18 ?_
  refine lv_iconst (v := 1) S.1 S.2.1 dX1_turnFoes_19 rfl ?_
  refine lv_iload_n S.1 S.2.1 dX1_turnFoes_20 rfl (lv_at hl 1 rfl) ?_
  refine lv_ishl S.1 S.2.1 dX1_turnFoes_21 ?_
  refine lv_ixor S.1 S.2.1 dX1_turnFoes_22 ?_
  have b5 := h.1
  have h := h.2
  refine r_iast S hW LH_13 b5 dX1_turnFoes_23 (fun M6 H locs eM6 hW => ?_)
  have h := h M6 eM6
  refine lv_aload_n S.1 S.2.1 dX1_turnFoes_24 rfl (lv_at hl 0 rfl) ?_
  refine r_goV (r_runV (rest := []) S hW (mX1_tally l D T σ M6 _ h) w65 rfl LH_2 rfl hl.1 rfl (Nat.le_of_ble_eq_true rfl) dX1_turnFoes_25 ⟨Nat.zero_le _, Nat.zero_le _⟩) hW (fun M8 H locs h hW => ?_)
  exact r_vret S hr hlk hW h dX1_turnFoes_28
abbrev rmX1_standing : Room := { frames := 0, cells := 0, slots := 0, locals := 0 }
set_option maxHeartbeats 4000000 in
set_option maxRecDepth 100000 in
theorem mX1_standing (l : Launch) (D : va_G) (T : Nat → ClassId) (σ : Nat → Nat) (M : Mem) (a1 : Int32) (post : Int32 → Mem → Prop) (h : qX1_standing a1 M post) : Met l yX1_standing wsX1_standing rmX1_standing (preW D T LH σ [.ref (σ 2), .int a1] M) (postI D T LH σ post) 0 0 (fA LH σ) := by
  refine m_of (cc := cX1_standing) (maxL := 2) (ret := (some .int)) (own := RX1) (by decide) rfl rfl (Nat.le_of_ble_eq_true rfl) ?_
  intro p e s m args below meth c H ls locs S hr hlk hl hW
  have hl : lv_has ls 2 [(0, .ref (σ 2)), (1, .int a1)] := hl
  have inX1 : ∀ w ∈ u_ws RX1 TX1 13, w ∈ wsX1_standing := by decide +kernel
  have f54 := S.2.2.2.2 (.fieldLink RX1 54 "MachineHall$Hall" "ups" "I") (by decide +kernel)
  have f15 := S.2.2.2.2 (.fieldLink RX1 15 "MachineHall$Hall" "inRoom" "[I") (by decide +kernel)
  refine lv_iload_n S.1 S.2.1 dX1_standing_0 rfl (lv_at hl 1 rfl) ?_
  refine lv_if_ne (tgt := 9) S.1 S.2.1 dX1_standing_1 (by decide) (fun c1 => ?_) (fun c1 => ?_)
  · have h := h.1 c1
    refine lv_iload_n S.1 S.2.1 dX1_standing_9 rfl (lv_at hl 1 rfl) ?_
    refine lv_bipush (v := 12) S.1 S.2.1 dX1_standing_10 rfl ?_
    refine lv_icmp_gt (tgt := 30) S.1 S.2.1 dX1_standing_12 (by decide) (fun c2 => ?_) (fun c2 => ?_)
    · have h := h.1 c2
      refine lv_aload_n S.1 S.2.1 dX1_standing_30 rfl (lv_at hl 0 rfl) ?_
      refine r_getI (j := 4) S hW inX1 rfl f54 rfl LH_2 (by decide) rfl dX1_standing_31 ?_
      refine lv_aload_n S.1 S.2.1 dX1_standing_34 rfl (lv_at hl 0 rfl) ?_
      refine r_getR (j := 3) S hW inX1 rfl f15 rfl LH_2 (by decide) rfl dX1_standing_35 ?_
      refine lv_iload_n S.1 S.2.1 dX1_standing_38 rfl (lv_at hl 1 rfl) ?_
      refine lv_bipush (v := 12) S.1 S.2.1 dX1_standing_39 rfl ?_
      refine lv_isub S.1 S.2.1 dX1_standing_41 ?_
      refine lv_iconst (v := 1) S.1 S.2.1 dX1_standing_42 rfl ?_
      refine lv_isub S.1 S.2.1 dX1_standing_43 ?_
      have b3 := h.1
      have h := h.2
      refine r_iald S hW LH_11 b3 dX1_standing_44 ?_
      refine lv_iconst (v := -1) S.1 S.2.1 dX1_standing_45 rfl ?_
      refine lv_ixor S.1 S.2.1 dX1_standing_46 ?_
      refine lv_iand S.1 S.2.1 dX1_standing_47 ?_
      exact r_iret S hr hlk hW h dX1_standing_48
    · have h := h.2 c2
      refine lv_aload_n S.1 S.2.1 dX1_standing_15 rfl (lv_at hl 0 rfl) ?_
      refine r_getI (j := 4) S hW inX1 rfl f54 rfl LH_2 (by decide) rfl dX1_standing_16 ?_
      refine lv_iconst (v := 1) S.1 S.2.1 dX1_standing_19 rfl ?_
      refine lv_iload_n S.1 S.2.1 dX1_standing_20 rfl (lv_at hl 1 rfl) ?_
      refine lv_iconst (v := 1) S.1 S.2.1 dX1_standing_21 rfl ?_
      refine lv_isub S.1 S.2.1 dX1_standing_22 ?_
      refine lv_ishl S.1 S.2.1 dX1_standing_23 ?_
      refine lv_iconst (v := -1) S.1 S.2.1 dX1_standing_24 rfl ?_
      refine lv_ixor S.1 S.2.1 dX1_standing_25 ?_
      refine lv_iand S.1 S.2.1 dX1_standing_26 ?_
      refine lv_goto (tgt := 48) S.1 S.2.1 dX1_standing_27 (by decide) ?_
      exact r_iret S hr hlk hW h dX1_standing_48
  · have h := h.2 c1
    refine lv_aload_n S.1 S.2.1 dX1_standing_4 rfl (lv_at hl 0 rfl) ?_
    refine r_getI (j := 4) S hW inX1 rfl f54 rfl LH_2 (by decide) rfl dX1_standing_5 ?_
    exact r_iret S hr hlk hW h dX1_standing_8
abbrev rmX1_sizeOf : Room := { frames := 1, cells := 0, slots := 0, locals := 21 }
set_option maxHeartbeats 4000000 in
set_option maxRecDepth 100000 in
theorem mX1_sizeOf (l : Launch) (D : va_G) (T : Nat → ClassId) (σ : Nat → Nat) (M : Mem) (a1 : Int32) (post : Int32 → Mem → Prop) (h : qX1_sizeOf a1 M post) : Met l yX1_sizeOf wsX1_sizeOf rmX1_sizeOf (preW D T LH σ [.ref (σ 2), .int a1] M) (postI D T LH σ post) 0 0 (fA LH σ) := by
  refine m_of (cc := cX1_sizeOf) (maxL := 4) (ret := (some .int)) (own := RX1) (by decide) rfl rfl (Nat.le_of_ble_eq_true rfl) ?_
  intro p e s m args below meth c H ls locs S hr hlk hl hW
  have hl : lv_has ls 4 [(0, .ref (σ 2)), (1, .int a1)] := hl
  have inX1 : ∀ w ∈ u_ws RX1 TX1 13, w ∈ wsX1_sizeOf := by decide +kernel
  have f48 := S.2.2.2.2 (.fieldLink RX1 48 "MachineHall$Hall" "machines" "I") (by decide +kernel)
  have w57 := va_cwS (R := rmX1_sizeOf) (rm := rmX1_has) (mc := 0) (ms := 0) 2 S.2.2.2.2 gX1_sizeOf_X1_has rfl rfl rfl (by decide +kernel) ⟨Nat.le_of_ble_eq_true rfl, Nat.le_of_ble_eq_true rfl⟩
  have f11 := S.2.2.2.2 (.fieldLink RX1 11 "MachineHall$Hall" "sizes" "[I") (by decide +kernel)
  obtain ⟨R4, e4⟩ : ∃ R : Int32 → Int32 → Mem → Prop, ∀ x2 x3 M, R x2 x3 M ↔ WW p l e rmX1_sizeOf s m args below meth c D T LH σ 4 (MQ below (postI D T LH σ post) args s 0 0 (fA LH σ)) 4 [(0, .ref (σ 2)), (1, .int a1), (2, .int x2), (3, .int x3)] [] M := ⟨_, fun _ _ _ => Iff.rfl⟩
  have h := h R4
  have z4 : ∀ x2 x3 M, qX1_sizeOf_b4 a1 post R4 x2 x3 M → R4 x2 x3 M := by
    intro x2 x3 M h
    refine (e4 _ _ _).mpr (fun H locs ls hW hl => ?_)
    refine lv_iload_n S.1 S.2.1 dX1_sizeOf_4 rfl (lv_at hl 3 rfl) ?_
    refine lv_aload_n S.1 S.2.1 dX1_sizeOf_5 rfl (lv_at hl 0 rfl) ?_
    refine r_getI (j := 0) S hW inX1 rfl f48 rfl LH_2 (by decide) rfl dX1_sizeOf_6 ?_
    refine lv_icmp_ge (tgt := 39) S.1 S.2.1 dX1_sizeOf_9 (by decide) (fun c1 => ?_) (fun c1 => ?_)
    · have h := h.1 c1
      refine lv_iload_n S.1 S.2.1 dX1_sizeOf_39 rfl (lv_at hl 2 rfl) ?_
      exact r_iret S hr hlk hW h dX1_sizeOf_40
    · have h := h.2 c1
      refine lv_iload_n S.1 S.2.1 dX1_sizeOf_12 rfl (lv_at hl 2 rfl) ?_
      refine lv_iload_n S.1 S.2.1 dX1_sizeOf_13 rfl (lv_at hl 1 rfl) ?_
      refine lv_iload_n S.1 S.2.1 dX1_sizeOf_14 rfl (lv_at hl 3 rfl) ?_
      refine r_goI (r_runS (rest := [.int x2]) S hW (mX1_has l D T σ M a1 x3 _ h) w57 rfl hl.1 rfl (Nat.le_of_ble_eq_true rfl) dX1_sizeOf_15 ⟨Nat.zero_le _, Nat.zero_le _⟩) hW (fun r2 M3 H locs h hW => ?_)
      refine lv_if_eq (tgt := 30) S.1 S.2.1 dX1_sizeOf_18 (by decide) (fun c4 => ?_) (fun c4 => ?_)
      · have h := h.1 c4
        refine lv_iconst (v := 0) S.1 S.2.1 dX1_sizeOf_30 rfl ?_
        refine lv_iadd S.1 S.2.1 dX1_sizeOf_31 ?_
        refine lv_topi (fun v5 ev5 => ?_)
        have h := h v5 ev5
        refine lv_istore_n (lv' := [(2, .int v5), (0, .ref (σ 2)), (1, .int a1), (3, .int x3)]) S.1 S.2.1 dX1_sizeOf_32 rfl hl (by decide) rfl (fun ls hl => ?_)
        obtain ⟨v6, ev6⟩ : ∃ y : Int32, y = x3 + 1 := ⟨_, rfl⟩
        have h := h v6 ev6
        refine lv_iinc (v := v6) (lv' := [(3, .int v6), (2, .int v5), (0, .ref (σ 2)), (1, .int a1)]) S.1 S.2.1 dX1_sizeOf_33 hl (k := 3) rfl (by rw [ev6]; rfl) (by decide) rfl (fun ls hl => ?_)
        refine lv_goto (tgt := 4) S.1 S.2.1 dX1_sizeOf_36 (by decide) ?_
        exact (e4 _ _ _).mp h H locs ls hW (lv_sub hl [2, 3, 1, 0] rfl)
      · have h := h.2 c4
        refine lv_aload_n S.1 S.2.1 dX1_sizeOf_21 rfl (lv_at hl 0 rfl) ?_
        refine r_getR (j := 2) S hW inX1 rfl f11 rfl LH_2 (by decide) rfl dX1_sizeOf_22 ?_
        refine lv_iload_n S.1 S.2.1 dX1_sizeOf_25 rfl (lv_at hl 3 rfl) ?_
        have b7 := h.1
        have h := h.2
        refine r_iald S hW LH_10 b7 dX1_sizeOf_26 ?_
        refine lv_goto (tgt := 31) S.1 S.2.1 dX1_sizeOf_27 (by decide) ?_
        refine lv_iadd S.1 S.2.1 dX1_sizeOf_31 ?_
        refine lv_topi (fun v8 ev8 => ?_)
        have h := h v8 ev8
        refine lv_istore_n (lv' := [(2, .int v8), (0, .ref (σ 2)), (1, .int a1), (3, .int x3)]) S.1 S.2.1 dX1_sizeOf_32 rfl hl (by decide) rfl (fun ls hl => ?_)
        obtain ⟨v9, ev9⟩ : ∃ y : Int32, y = x3 + 1 := ⟨_, rfl⟩
        have h := h v9 ev9
        refine lv_iinc (v := v9) (lv' := [(3, .int v9), (2, .int v8), (0, .ref (σ 2)), (1, .int a1)]) S.1 S.2.1 dX1_sizeOf_33 hl (k := 3) rfl (by rw [ev9]; rfl) (by decide) rfl (fun ls hl => ?_)
        refine lv_goto (tgt := 4) S.1 S.2.1 dX1_sizeOf_36 (by decide) ?_
        exact (e4 _ _ _).mp h H locs ls hW (lv_sub hl [2, 3, 1, 0] rfl)
  have h := h z4
  refine lv_iconst (v := 0) S.1 S.2.1 dX1_sizeOf_0 rfl ?_
  refine lv_istore_n (lv' := [(2, .int (0 : Int32)), (0, .ref (σ 2)), (1, .int a1)]) S.1 S.2.1 dX1_sizeOf_1 rfl hl (by decide) rfl (fun ls hl => ?_)
  refine lv_iconst (v := 0) S.1 S.2.1 dX1_sizeOf_2 rfl ?_
  refine lv_istore_n (lv' := [(3, .int (0 : Int32)), (2, .int (0 : Int32)), (0, .ref (σ 2)), (1, .int a1)]) S.1 S.2.1 dX1_sizeOf_3 rfl hl (by decide) rfl (fun ls hl => ?_)
  exact (e4 _ _ _).mp h H locs ls hW (lv_sub hl [2, 3, 1, 0] rfl)
abbrev rmX1_isFall : Room := { frames := 1, cells := 0, slots := 0, locals := 23 }
set_option maxHeartbeats 4000000 in
set_option maxRecDepth 100000 in
theorem mX1_isFall (l : Launch) (D : va_G) (T : Nat → ClassId) (σ : Nat → Nat) (M : Mem) (a0 : Int32) (post : Int32 → Mem → Prop) (h : qX1_isFall a0 M post) : Met l yX1_isFall wsX1_isFall rmX1_isFall (preW D T LH σ [.int a0] M) (postI D T LH σ post) 0 0 (fA LH σ) := by
  refine m_of (cc := cX1_isFall) (maxL := 1) (ret := (some .boolean)) (own := RX1) (by decide) rfl rfl (Nat.le_of_ble_eq_true rfl) ?_
  intro p e s m args below meth c H ls locs S hr hlk hl hW
  have hl : lv_has ls 1 [(0, .int a0)] := hl
  have w44 := va_cnB (args := args) (R := rmX1_isFall) (rm := rmX6_within) (mc := 0) (ms := 0) 3 S.2.2.2.2 gX1_isFall_X6_within_n44 rfl rfl rfl hW.2.2.2.2.2.1 (S.2.2.2.2 (.initialized RX6) (by decide +kernel)) (by decide +kernel) ⟨Nat.le_of_ble_eq_true rfl, Nat.le_of_ble_eq_true rfl⟩
  have stX6_within := S.2.2.2.2 (.static yX6_within) (by decide +kernel)
  refine lv_iload_n S.1 S.2.1 dX1_isFall_0 rfl (lv_at hl 0 rfl) ?_
  refine lv_i2l S.1 S.2.1 dX1_isFall_1 rfl ?_
  refine lv_iconst (v := 0) S.1 S.2.1 dX1_isFall_2 rfl ?_
  refine lv_bipush (v := 16) S.1 S.2.1 dX1_isFall_3 rfl ?_
  refine r_goI (r_runN (rest := []) S hW (mX6_within l D T LH σ M (a0.toInt64) (0 : Int32) (16 : Int32) _ h) w44 stX6_within rfl hl.1 rfl (Nat.le_of_ble_eq_true rfl) dX1_isFall_5 ⟨Nat.zero_le _, Nat.zero_le _⟩) hW (fun r1 M2 H locs h hW => ?_)
  exact r_zret S hr hlk hW h.1 h.2 dX1_isFall_8
abbrev rmJ7_fill_53178 : Room := { frames := 0, cells := 0, slots := 0, locals := 0 }
set_option maxHeartbeats 4000000 in
set_option maxRecDepth 100000 in
theorem mJ7_fill_53178 (l : Launch) (D : va_G) (T : Nat → ClassId) (L : Lay) (σ : Nat → Nat) (k : Nat) {n b : Nat} {sl : List (Option Nat)} (hk : L[k]? = some (1, n, b, sl)) (M : Mem) (a1 : Int32) (post : Mem → Prop) (h : qJ7_fill_53178 k n a1 M post) : Met l yJ7_fill_53178 wsJ7_fill_53178 rmJ7_fill_53178 (preW D T L σ [.ref (σ k), .int a1] M) (postV D T L σ post) 0 0 (fA L σ) := by
  refine m_of (cc := cJ7_fill_53178) (maxL := 4) (ret := none) (own := RJ7) (by decide) rfl rfl (Nat.le_of_ble_eq_true rfl) ?_
  intro p e s m args below meth c H ls locs S hr hlk hl hW
  have hl : lv_has ls 4 [(0, .ref (σ k)), (1, .int a1)] := hl
  obtain ⟨R5, e5⟩ : ∃ R : Int32 → Int32 → Mem → Prop, ∀ x2 x3 M, R x2 x3 M ↔ WW p l e rmJ7_fill_53178 s m args below meth c D T L σ 4 (MQ below (postV D T L σ post) args s 0 0 (fA L σ)) 5 [(0, .ref (σ k)), (1, .int a1), (2, .int x2), (3, .int x3)] [] M := ⟨_, fun _ _ _ => Iff.rfl⟩
  have h := h R5
  have z5 : ∀ x2 x3 M, qJ7_fill_53178_b5 k n a1 post R5 x2 x3 M → R5 x2 x3 M := by
    intro x2 x3 M h
    refine (e5 _ _ _).mpr (fun H locs ls hW hl => ?_)
    refine lv_iload_n S.1 S.2.1 dJ7_fill_53178_5 rfl (lv_at hl 2 rfl) ?_
    refine lv_iload_n S.1 S.2.1 dJ7_fill_53178_6 rfl (lv_at hl 3 rfl) ?_
    refine lv_icmp_ge (tgt := 20) S.1 S.2.1 dJ7_fill_53178_7 (by decide) (fun c2 => ?_) (fun c2 => ?_)
    · have h := h.1 c2
      exact r_vret S hr hlk hW h dJ7_fill_53178_20
    · have h := h.2 c2
      refine lv_aload_n S.1 S.2.1 dJ7_fill_53178_10 rfl (lv_at hl 0 rfl) ?_
      refine lv_iload_n S.1 S.2.1 dJ7_fill_53178_11 rfl (lv_at hl 2 rfl) ?_
      refine lv_iload_n S.1 S.2.1 dJ7_fill_53178_12 rfl (lv_at hl 1 rfl) ?_
      have b3 := h.1
      have h := h.2
      refine r_iast S hW hk b3 dJ7_fill_53178_13 (fun M4 H locs eM4 hW => ?_)
      have h := h M4 eM4
      obtain ⟨v5, ev5⟩ : ∃ y : Int32, y = x2 + 1 := ⟨_, rfl⟩
      have h := h v5 ev5
      refine lv_iinc (v := v5) (lv' := [(2, .int v5), (0, .ref (σ k)), (1, .int a1), (3, .int x3)]) S.1 S.2.1 dJ7_fill_53178_14 hl (k := 2) rfl (by rw [ev5]; rfl) (by decide) rfl (fun ls hl => ?_)
      refine lv_goto (tgt := 5) S.1 S.2.1 dJ7_fill_53178_17 (by decide) ?_
      exact (e5 _ _ _).mp h H locs ls hW (lv_sub hl [1, 2, 0, 3] rfl)
  have h := h z5
  refine lv_iconst (v := 0) S.1 S.2.1 dJ7_fill_53178_0 rfl ?_
  refine lv_istore_n (lv' := [(2, .int (0 : Int32)), (0, .ref (σ k)), (1, .int a1)]) S.1 S.2.1 dJ7_fill_53178_1 rfl hl (by decide) rfl (fun ls hl => ?_)
  refine lv_aload_n S.1 S.2.1 dJ7_fill_53178_2 rfl (lv_at hl 1 rfl) ?_
  refine r_alenI S hW hk dJ7_fill_53178_3 ?_
  refine lv_topi (fun v1 ev1 => ?_)
  have h := h v1 ev1
  refine lv_istore_n (lv' := [(3, .int v1), (2, .int (0 : Int32)), (0, .ref (σ k)), (1, .int a1)]) S.1 S.2.1 dJ7_fill_53178_4 rfl hl (by decide) rfl (fun ls hl => ?_)
  exact (e5 _ _ _).mp h H locs ls hW (lv_sub hl [2, 3, 1, 0] rfl)
abbrev rmX1_greatestOn : Room := { frames := 0, cells := 0, slots := 0, locals := 0 }
set_option maxHeartbeats 4000000 in
set_option maxRecDepth 100000 in
theorem mX1_greatestOn (l : Launch) (D : va_G) (T : Nat → ClassId) (σ : Nat → Nat) (M : Mem) (a1 : Int32) (a2 : Int32) (post : Int32 → Mem → Prop) (h : qX1_greatestOn a1 a2 M post) : Met l yX1_greatestOn wsX1_greatestOn rmX1_greatestOn (preW D T LH σ [.ref (σ 2), .int a1, .int a2] M) (postI D T LH σ post) 0 0 (fA LH σ) := by
  refine m_of (cc := cX1_greatestOn) (maxL := 4) (ret := (some .int)) (own := RX1) (by decide) rfl rfl (Nat.le_of_ble_eq_true rfl) ?_
  intro p e s m args below meth c H ls locs S hr hlk hl hW
  have hl : lv_has ls 4 [(0, .ref (σ 2)), (1, .int a1), (2, .int a2)] := hl
  have inX1 : ∀ w ∈ u_ws RX1 TX1 13, w ∈ wsX1_greatestOn := by decide +kernel
  have f27 := S.2.2.2.2 (.fieldLink RX1 27 "MachineHall$Hall" "load" "[I") (by decide +kernel)
  have f11 := S.2.2.2.2 (.fieldLink RX1 11 "MachineHall$Hall" "sizes" "[I") (by decide +kernel)
  have f30 := S.2.2.2.2 (.fieldLink RX1 30 "MachineHall$Hall" "clash" "[Z") (by decide +kernel)
  have f37 := S.2.2.2.2 (.fieldLink RX1 37 "MachineHall$Hall" "latest" "[I") (by decide +kernel)
  obtain ⟨R2, e2⟩ : ∃ R : Int32 → Mem → Prop, ∀ x3 M, R x3 M ↔ WW p l e rmX1_greatestOn s m args below meth c D T LH σ 4 (MQ below (postI D T LH σ post) args s 0 0 (fA LH σ)) 2 [(0, .ref (σ 2)), (1, .int a1), (2, .int a2), (3, .int x3)] [] M := ⟨_, fun _ _ => Iff.rfl⟩
  obtain ⟨R44, e44⟩ : ∃ R : Int32 → Mem → Prop, ∀ x3 M, R x3 M ↔ WW p l e rmX1_greatestOn s m args below meth c D T LH σ 4 (MQ below (postI D T LH σ post) args s 0 0 (fA LH σ)) 44 [(0, .ref (σ 2)), (1, .int a1), (2, .int a2), (3, .int x3)] [] M := ⟨_, fun _ _ => Iff.rfl⟩
  have h := h R2 R44
  have z2 : ∀ x3 M, qX1_greatestOn_b2 a1 a2 post R2 R44 x3 M → R2 x3 M := by
    intro x3 M h
    refine (e2 _ _).mpr (fun H locs ls hW hl => ?_)
    refine lv_iload_n S.1 S.2.1 dX1_greatestOn_2 rfl (lv_at hl 3 rfl) ?_
    refine lv_if_le (tgt := 53) S.1 S.2.1 dX1_greatestOn_3 (by decide) (fun c1 => ?_) (fun c1 => ?_)
    · have h := h.1 c1
      refine lv_iconst (v := 0) S.1 S.2.1 dX1_greatestOn_53 rfl ?_
      exact r_iret S hr hlk hW h dX1_greatestOn_54
    · have h := h.2 c1
      refine lv_aload_n S.1 S.2.1 dX1_greatestOn_6 rfl (lv_at hl 0 rfl) ?_
      refine r_getR (j := 8) S hW inX1 rfl f27 rfl LH_2 (by decide) rfl dX1_greatestOn_7 ?_
      refine lv_iload_n S.1 S.2.1 dX1_greatestOn_10 rfl (lv_at hl 3 rfl) ?_
      have b2 := h.1
      have h := h.2
      refine r_iald S hW LH_15 b2 dX1_greatestOn_11 ?_
      refine lv_aload_n S.1 S.2.1 dX1_greatestOn_12 rfl (lv_at hl 0 rfl) ?_
      refine r_getR (j := 2) S hW inX1 rfl f11 rfl LH_2 (by decide) rfl dX1_greatestOn_13 ?_
      refine lv_iload_n S.1 S.2.1 dX1_greatestOn_16 rfl (lv_at hl 1 rfl) ?_
      have b3 := h.1
      have h := h.2
      refine r_iald S hW LH_10 b3 dX1_greatestOn_17 ?_
      refine lv_icmp_gt (tgt := 44) S.1 S.2.1 dX1_greatestOn_18 (by decide) (fun c4 => ?_) (fun c4 => ?_)
      · have h := h.1 c4
        exact (e44 _ _).mp h H locs ls hW (lv_sub hl [0, 1, 2, 3] rfl)
      · have h := h.2 c4
        refine lv_aload_n S.1 S.2.1 dX1_greatestOn_21 rfl (lv_at hl 0 rfl) ?_
        refine r_getR (j := 9) S hW inX1 rfl f30 rfl LH_2 (by decide) rfl dX1_greatestOn_22 ?_
        refine lv_iload_n S.1 S.2.1 dX1_greatestOn_25 rfl (lv_at hl 3 rfl) ?_
        have b5 := h.1
        have h := h.2
        refine r_zald S hW LH_16 b5 dX1_greatestOn_26 ?_
        refine lv_if_ne (tgt := 44) S.1 S.2.1 dX1_greatestOn_27 (by decide) (fun c6 => ?_) (fun c6 => ?_)
        · have h := h.1 c6
          exact (e44 _ _).mp h H locs ls hW (lv_sub hl [0, 1, 2, 3] rfl)
        · have h := h.2 c6
          refine lv_aload_n S.1 S.2.1 dX1_greatestOn_30 rfl (lv_at hl 0 rfl) ?_
          refine r_getR (j := 11) S hW inX1 rfl f37 rfl LH_2 (by decide) rfl dX1_greatestOn_31 ?_
          refine lv_iload_n S.1 S.2.1 dX1_greatestOn_34 rfl (lv_at hl 2 rfl) ?_
          refine lv_iload_n S.1 S.2.1 dX1_greatestOn_35 rfl (lv_at hl 3 rfl) ?_
          refine lv_ixor S.1 S.2.1 dX1_greatestOn_36 ?_
          have b7 := h.1
          have h := h.2
          refine r_iald S hW LH_18 b7 dX1_greatestOn_37 ?_
          refine lv_iload_n S.1 S.2.1 dX1_greatestOn_38 rfl (lv_at hl 1 rfl) ?_
          refine lv_icmp_le (tgt := 44) S.1 S.2.1 dX1_greatestOn_39 (by decide) (fun c8 => ?_) (fun c8 => ?_)
          · have h := h.1 c8
            exact (e44 _ _).mp h H locs ls hW (lv_sub hl [0, 1, 2, 3] rfl)
          · have h := h.2 c8
            refine lv_iload_n S.1 S.2.1 dX1_greatestOn_42 rfl (lv_at hl 3 rfl) ?_
            exact r_iret S hr hlk hW h dX1_greatestOn_43
  have z44 : ∀ x3 M, qX1_greatestOn_b44 a1 a2 post R2 R44 x3 M → R44 x3 M := by
    intro x3 M h
    refine (e44 _ _).mpr (fun H locs ls hW hl => ?_)
    refine lv_iload_n S.1 S.2.1 dX1_greatestOn_44 rfl (lv_at hl 3 rfl) ?_
    refine lv_iconst (v := 1) S.1 S.2.1 dX1_greatestOn_45 rfl ?_
    refine lv_isub S.1 S.2.1 dX1_greatestOn_46 ?_
    refine lv_iload_n S.1 S.2.1 dX1_greatestOn_47 rfl (lv_at hl 2 rfl) ?_
    refine lv_iand S.1 S.2.1 dX1_greatestOn_48 ?_
    refine lv_topi (fun v9 ev9 => ?_)
    have h := h v9 ev9
    refine lv_istore_n (lv' := [(3, .int v9), (0, .ref (σ 2)), (1, .int a1), (2, .int a2)]) S.1 S.2.1 dX1_greatestOn_49 rfl hl (by decide) rfl (fun ls hl => ?_)
    refine lv_goto (tgt := 2) S.1 S.2.1 dX1_greatestOn_50 (by decide) ?_
    exact (e2 _ _).mp h H locs ls hW (lv_sub hl [1, 2, 3, 0] rfl)
  have h := h z2 z44
  refine lv_iload_n S.1 S.2.1 dX1_greatestOn_0 rfl (lv_at hl 2 rfl) ?_
  refine lv_istore_n (lv' := [(3, .int a2), (0, .ref (σ 2)), (1, .int a1), (2, .int a2)]) S.1 S.2.1 dX1_greatestOn_1 rfl hl (by decide) rfl (fun ls hl => ?_)
  exact (e2 _ _).mp h H locs ls hW (lv_sub hl [1, 2, 3, 0] rfl)
abbrev rmX1_findWith : Room := { frames := 1, cells := 0, slots := 0, locals := 23 }
set_option maxHeartbeats 4000000 in
set_option maxRecDepth 100000 in
theorem mX1_findWith (l : Launch) (D : va_G) (T : Nat → ClassId) (σ : Nat → Nat) (M : Mem) (a1 : Int32) (a2 : Int32) (post : Mem → Prop) (h : qX1_findWith a1 a2 M post) : Met l yX1_findWith wsX1_findWith rmX1_findWith (preW D T LH σ [.ref (σ 2), .int a1, .int a2] M) (postV D T LH σ post) 0 0 (fA LH σ) := by
  refine m_of (cc := cX1_findWith) (maxL := 4) (ret := none) (own := RX1) (by decide) rfl rfl (Nat.le_of_ble_eq_true rfl) ?_
  intro p e s m args below meth c H ls locs S hr hlk hl hW
  have hl : lv_has ls 4 [(0, .ref (σ 2)), (1, .int a1), (2, .int a2)] := hl
  have inX1 : ∀ w ∈ u_ws RX1 TX1 13, w ∈ wsX1_findWith := by decide +kernel
  have f51 := S.2.2.2.2 (.fieldLink RX1 51 "MachineHall$Hall" "asks" "I") (by decide +kernel)
  have f37 := S.2.2.2.2 (.fieldLink RX1 37 "MachineHall$Hall" "latest" "[I") (by decide +kernel)
  have f34 := S.2.2.2.2 (.fieldLink RX1 34 "MachineHall$Hall" "asked" "[Z") (by decide +kernel)
  have f27 := S.2.2.2.2 (.fieldLink RX1 27 "MachineHall$Hall" "load" "[I") (by decide +kernel)
  have w71 := cwV (R := rmX1_findWith) (rm := rmX1_greatestOn) (mc := 0) (ms := 0) 2 S.2.2.2.2 gX1_findWith_X1_greatestOn rfl rfl rfl (by decide +kernel) ⟨Nat.le_of_ble_eq_true rfl, Nat.le_of_ble_eq_true rfl⟩
  obtain ⟨R2, e2⟩ : ∃ R : Int32 → Mem → Prop, ∀ x3 M, R x3 M ↔ WW p l e rmX1_findWith s m args below meth c D T LH σ 4 (MQ below (postV D T LH σ post) args s 0 0 (fA LH σ)) 2 [(0, .ref (σ 2)), (1, .int a1), (2, .int a2), (3, .int x3)] [] M := ⟨_, fun _ _ => Iff.rfl⟩
  have h := h R2
  have z2 : ∀ x3 M, qX1_findWith_b2 a1 a2 post R2 x3 M → R2 x3 M := by
    intro x3 M h
    refine (e2 _ _).mpr (fun H locs ls hW hl => ?_)
    refine lv_iload_n S.1 S.2.1 dX1_findWith_2 rfl (lv_at hl 3 rfl) ?_
    refine lv_iconst (v := 1) S.1 S.2.1 dX1_findWith_3 rfl ?_
    refine lv_aload_n S.1 S.2.1 dX1_findWith_4 rfl (lv_at hl 0 rfl) ?_
    refine r_getI (j := 1) S hW inX1 rfl f51 rfl LH_2 (by decide) rfl dX1_findWith_5 ?_
    refine lv_ishl S.1 S.2.1 dX1_findWith_8 ?_
    refine lv_icmp_ge (tgt := 63) S.1 S.2.1 dX1_findWith_9 (by decide) (fun c1 => ?_) (fun c1 => ?_)
    · have h := h.1 c1
      exact r_vret S hr hlk hW h dX1_findWith_63
    · have h := h.2 c1
      refine lv_aload_n S.1 S.2.1 dX1_findWith_12 rfl (lv_at hl 0 rfl) ?_
      refine r_getR (j := 11) S hW inX1 rfl f37 rfl LH_2 (by decide) rfl dX1_findWith_13 ?_
      refine lv_iload_n S.1 S.2.1 dX1_findWith_16 rfl (lv_at hl 3 rfl) ?_
      have b2 := h.1
      have h := h.2
      refine r_iald S hW LH_18 b2 dX1_findWith_17 ?_
      refine lv_iconst (v := -1) S.1 S.2.1 dX1_findWith_18 rfl ?_
      refine lv_icmp_ne (tgt := 57) S.1 S.2.1 dX1_findWith_19 (by decide) (fun c3 => ?_) (fun c3 => ?_)
      · have h := h.1 c3
        obtain ⟨v4, ev4⟩ : ∃ y : Int32, y = x3 + 1 := ⟨_, rfl⟩
        have h := h v4 ev4
        refine lv_iinc (v := v4) (lv' := [(3, .int v4), (0, .ref (σ 2)), (1, .int a1), (2, .int a2)]) S.1 S.2.1 dX1_findWith_57 hl (k := 3) rfl (by rw [ev4]; rfl) (by decide) rfl (fun ls hl => ?_)
        refine lv_goto (tgt := 2) S.1 S.2.1 dX1_findWith_60 (by decide) ?_
        exact (e2 _ _).mp h H locs ls hW (lv_sub hl [1, 2, 3, 0] rfl)
      · have h := h.2 c3
        refine lv_aload_n S.1 S.2.1 dX1_findWith_22 rfl (lv_at hl 0 rfl) ?_
        refine r_getR (j := 10) S hW inX1 rfl f34 rfl LH_2 (by decide) rfl dX1_findWith_23 ?_
        refine lv_iload_n S.1 S.2.1 dX1_findWith_26 rfl (lv_at hl 3 rfl) ?_
        have b5 := h.1
        have h := h.2
        refine r_zald S hW LH_17 b5 dX1_findWith_27 ?_
        refine lv_if_eq (tgt := 57) S.1 S.2.1 dX1_findWith_28 (by decide) (fun c6 => ?_) (fun c6 => ?_)
        · have h := h.1 c6
          obtain ⟨v7, ev7⟩ : ∃ y : Int32, y = x3 + 1 := ⟨_, rfl⟩
          have h := h v7 ev7
          refine lv_iinc (v := v7) (lv' := [(3, .int v7), (0, .ref (σ 2)), (1, .int a1), (2, .int a2)]) S.1 S.2.1 dX1_findWith_57 hl (k := 3) rfl (by rw [ev7]; rfl) (by decide) rfl (fun ls hl => ?_)
          refine lv_goto (tgt := 2) S.1 S.2.1 dX1_findWith_60 (by decide) ?_
          exact (e2 _ _).mp h H locs ls hW (lv_sub hl [1, 2, 3, 0] rfl)
        · have h := h.2 c6
          refine lv_aload_n S.1 S.2.1 dX1_findWith_31 rfl (lv_at hl 0 rfl) ?_
          refine r_getR (j := 8) S hW inX1 rfl f27 rfl LH_2 (by decide) rfl dX1_findWith_32 ?_
          refine lv_iload_n S.1 S.2.1 dX1_findWith_35 rfl (lv_at hl 3 rfl) ?_
          have b8 := h.1
          have h := h.2
          refine r_iald S hW LH_15 b8 dX1_findWith_36 ?_
          refine lv_iload_n S.1 S.2.1 dX1_findWith_37 rfl (lv_at hl 2 rfl) ?_
          refine lv_icmp_gt (tgt := 57) S.1 S.2.1 dX1_findWith_38 (by decide) (fun c9 => ?_) (fun c9 => ?_)
          · have h := h.1 c9
            obtain ⟨v10, ev10⟩ : ∃ y : Int32, y = x3 + 1 := ⟨_, rfl⟩
            have h := h v10 ev10
            refine lv_iinc (v := v10) (lv' := [(3, .int v10), (0, .ref (σ 2)), (1, .int a1), (2, .int a2)]) S.1 S.2.1 dX1_findWith_57 hl (k := 3) rfl (by rw [ev10]; rfl) (by decide) rfl (fun ls hl => ?_)
            refine lv_goto (tgt := 2) S.1 S.2.1 dX1_findWith_60 (by decide) ?_
            exact (e2 _ _).mp h H locs ls hW (lv_sub hl [1, 2, 3, 0] rfl)
          · have h := h.2 c9
            refine lv_aload_n S.1 S.2.1 dX1_findWith_41 rfl (lv_at hl 0 rfl) ?_
            refine lv_iload_n S.1 S.2.1 dX1_findWith_42 rfl (lv_at hl 1 rfl) ?_
            refine lv_iload_n S.1 S.2.1 dX1_findWith_43 rfl (lv_at hl 3 rfl) ?_
            refine r_goI (r_runV (rest := []) S hW (mX1_greatestOn l D T σ M a1 x3 _ h) w71 rfl LH_2 rfl hl.1 rfl (Nat.le_of_ble_eq_true rfl) dX1_findWith_44 ⟨Nat.zero_le _, Nat.zero_le _⟩) hW (fun r11 M12 H locs h hW => ?_)
            refine lv_if_le (tgt := 57) S.1 S.2.1 dX1_findWith_47 (by decide) (fun c13 => ?_) (fun c13 => ?_)
            · have h := h.1 c13
              obtain ⟨v14, ev14⟩ : ∃ y : Int32, y = x3 + 1 := ⟨_, rfl⟩
              have h := h v14 ev14
              refine lv_iinc (v := v14) (lv' := [(3, .int v14), (0, .ref (σ 2)), (1, .int a1), (2, .int a2)]) S.1 S.2.1 dX1_findWith_57 hl (k := 3) rfl (by rw [ev14]; rfl) (by decide) rfl (fun ls hl => ?_)
              refine lv_goto (tgt := 2) S.1 S.2.1 dX1_findWith_60 (by decide) ?_
              exact (e2 _ _).mp h H locs ls hW (lv_sub hl [1, 2, 3, 0] rfl)
            · have h := h.2 c13
              refine lv_aload_n S.1 S.2.1 dX1_findWith_50 rfl (lv_at hl 0 rfl) ?_
              refine r_getR (j := 11) S hW inX1 rfl f37 rfl LH_2 (by decide) rfl dX1_findWith_51 ?_
              refine lv_iload_n S.1 S.2.1 dX1_findWith_54 rfl (lv_at hl 3 rfl) ?_
              refine lv_iload_n S.1 S.2.1 dX1_findWith_55 rfl (lv_at hl 1 rfl) ?_
              have b15 := h.1
              have h := h.2
              refine r_iast S hW LH_18 b15 dX1_findWith_56 (fun M16 H locs eM16 hW => ?_)
              have h := h M16 eM16
              obtain ⟨v17, ev17⟩ : ∃ y : Int32, y = x3 + 1 := ⟨_, rfl⟩
              have h := h v17 ev17
              refine lv_iinc (v := v17) (lv' := [(3, .int v17), (0, .ref (σ 2)), (1, .int a1), (2, .int a2)]) S.1 S.2.1 dX1_findWith_57 hl (k := 3) rfl (by rw [ev17]; rfl) (by decide) rfl (fun ls hl => ?_)
              refine lv_goto (tgt := 2) S.1 S.2.1 dX1_findWith_60 (by decide) ?_
              exact (e2 _ _).mp h H locs ls hW (lv_sub hl [1, 2, 3, 0] rfl)
  have h := h z2
  refine lv_iconst (v := 1) S.1 S.2.1 dX1_findWith_0 rfl ?_
  refine lv_istore_n (lv' := [(3, .int (1 : Int32)), (0, .ref (σ 2)), (1, .int a1), (2, .int a2)]) S.1 S.2.1 dX1_findWith_1 rfl hl (by decide) rfl (fun ls hl => ?_)
  exact (e2 _ _).mp h H locs ls hW (lv_sub hl [1, 2, 3, 0] rfl)
abbrev rmX1_findLatest : Room := { frames := 2, cells := 0, slots := 0, locals := 46 }
set_option maxHeartbeats 4000000 in
set_option maxRecDepth 100000 in
theorem mX1_findLatest (l : Launch) (D : va_G) (T : Nat → ClassId) (σ : Nat → Nat) (M : Mem) (a1 : Int32) (post : Mem → Prop) (h : qX1_findLatest a1 M post) : Met l yX1_findLatest wsX1_findLatest rmX1_findLatest (preW D T LH σ [.ref (σ 2), .int a1] M) (postV D T LH σ post) 0 0 (fA LH σ) := by
  refine m_of (cc := cX1_findLatest) (maxL := 4) (ret := none) (own := RX1) (by decide) rfl rfl (Nat.le_of_ble_eq_true rfl) ?_
  intro p e s m args below meth c H ls locs S hr hlk hl hW
  have hl : lv_has ls 4 [(0, .ref (σ 2)), (1, .int a1)] := hl
  have inX1 : ∀ w ∈ u_ws RX1 TX1 13, w ∈ wsX1_findLatest := by decide +kernel
  have f40 := S.2.2.2.2 (.fieldLink RX1 40 "MachineHall$Hall" "latestFor" "I") (by decide +kernel)
  have f37 := S.2.2.2.2 (.fieldLink RX1 37 "MachineHall$Hall" "latest" "[I") (by decide +kernel)
  have w96 := va_cwS (R := rmX1_findLatest) (rm := rmJ7_fill_53178) (mc := 0) (ms := 0) 2 S.2.2.2.2 gX1_findLatest_J7_fill_53178 rfl rfl rfl (by decide +kernel) ⟨Nat.le_of_ble_eq_true rfl, Nat.le_of_ble_eq_true rfl⟩
  have f48 := S.2.2.2.2 (.fieldLink RX1 48 "MachineHall$Hall" "machines" "I") (by decide +kernel)
  have w57 := va_cwS (R := rmX1_findLatest) (rm := rmX1_has) (mc := 0) (ms := 0) 2 S.2.2.2.2 gX1_findLatest_X1_has rfl rfl rfl (by decide +kernel) ⟨Nat.le_of_ble_eq_true rfl, Nat.le_of_ble_eq_true rfl⟩
  have f11 := S.2.2.2.2 (.fieldLink RX1 11 "MachineHall$Hall" "sizes" "[I") (by decide +kernel)
  have w102 := cwV (R := rmX1_findLatest) (rm := rmX1_findWith) (mc := 0) (ms := 0) 2 S.2.2.2.2 gX1_findLatest_X1_findWith rfl rfl rfl (by decide +kernel) ⟨Nat.le_of_ble_eq_true rfl, Nat.le_of_ble_eq_true rfl⟩
  obtain ⟨R39, e39⟩ : ∃ R : Int32 → Int32 → Mem → Prop, ∀ x2 x3 M, R x2 x3 M ↔ WW p l e rmX1_findLatest s m args below meth c D T LH σ 4 (MQ below (postV D T LH σ post) args s 0 0 (fA LH σ)) 39 [(0, .ref (σ 2)), (1, .int a1), (2, .int x2), (3, .int x3)] [] M := ⟨_, fun _ _ _ => Iff.rfl⟩
  have h := h R39
  have z39 : ∀ x2 x3 M, qX1_findLatest_b39 a1 post R39 x2 x3 M → R39 x2 x3 M := by
    intro x2 x3 M h
    refine (e39 _ _ _).mpr (fun H locs ls hW hl => ?_)
    refine lv_iload_n S.1 S.2.1 dX1_findLatest_39 rfl (lv_at hl 3 rfl) ?_
    refine lv_if_lt (tgt := 72) S.1 S.2.1 dX1_findLatest_40 (by decide) (fun c8 => ?_) (fun c8 => ?_)
    · have h := h.1 c8
      exact r_vret S hr hlk hW h dX1_findLatest_72
    · have h := h.2 c8
      refine lv_iload_n S.1 S.2.1 dX1_findLatest_43 rfl (lv_at hl 1 rfl) ?_
      refine lv_iload_n S.1 S.2.1 dX1_findLatest_44 rfl (lv_at hl 3 rfl) ?_
      refine r_goI (r_runS (rest := []) S hW (mX1_has l D T σ M a1 x3 _ h) w57 rfl hl.1 rfl (Nat.le_of_ble_eq_true rfl) dX1_findLatest_45 ⟨Nat.zero_le _, Nat.zero_le _⟩) hW (fun r9 M10 H locs h hW => ?_)
      refine lv_if_eq (tgt := 66) S.1 S.2.1 dX1_findLatest_48 (by decide) (fun c11 => ?_) (fun c11 => ?_)
      · have h := h.1 c11
        obtain ⟨v12, ev12⟩ : ∃ y : Int32, y = x3 + (-1) := ⟨_, rfl⟩
        have h := h v12 ev12
        refine lv_iinc (v := v12) (lv' := [(3, .int v12), (0, .ref (σ 2)), (1, .int a1), (2, .int x2)]) S.1 S.2.1 dX1_findLatest_66 hl (k := 3) rfl (by rw [ev12]; rfl) (by decide) rfl (fun ls hl => ?_)
        refine lv_goto (tgt := 39) S.1 S.2.1 dX1_findLatest_69 (by decide) ?_
        exact (e39 _ _ _).mp h H locs ls hW (lv_sub hl [1, 2, 3, 0] rfl)
      · have h := h.2 c11
        refine lv_iload_n S.1 S.2.1 dX1_findLatest_51 rfl (lv_at hl 2 rfl) ?_
        refine lv_aload_n S.1 S.2.1 dX1_findLatest_52 rfl (lv_at hl 0 rfl) ?_
        refine r_getR (j := 2) S hW inX1 rfl f11 rfl LH_2 (by decide) rfl dX1_findLatest_53 ?_
        refine lv_iload_n S.1 S.2.1 dX1_findLatest_56 rfl (lv_at hl 3 rfl) ?_
        have b13 := h.1
        have h := h.2
        refine r_iald S hW LH_10 b13 dX1_findLatest_57 ?_
        refine lv_iadd S.1 S.2.1 dX1_findLatest_58 ?_
        refine lv_topi (fun v14 ev14 => ?_)
        have h := h v14 ev14
        refine lv_istore_n (lv' := [(2, .int v14), (0, .ref (σ 2)), (1, .int a1), (3, .int x3)]) S.1 S.2.1 dX1_findLatest_59 rfl hl (by decide) rfl (fun ls hl => ?_)
        refine lv_aload_n S.1 S.2.1 dX1_findLatest_60 rfl (lv_at hl 1 rfl) ?_
        refine lv_iload_n S.1 S.2.1 dX1_findLatest_61 rfl (lv_at hl 3 rfl) ?_
        refine lv_iload_n S.1 S.2.1 dX1_findLatest_62 rfl (lv_at hl 0 rfl) ?_
        refine r_goV (r_runV (rest := []) S hW (mX1_findWith l D T σ M10 x3 v14 _ h) w102 rfl LH_2 rfl hl.1 rfl (Nat.le_of_ble_eq_true rfl) dX1_findLatest_63 ⟨Nat.zero_le _, Nat.zero_le _⟩) hW (fun M16 H locs h hW => ?_)
        obtain ⟨v17, ev17⟩ : ∃ y : Int32, y = x3 + (-1) := ⟨_, rfl⟩
        have h := h v17 ev17
        refine lv_iinc (v := v17) (lv' := [(3, .int v17), (2, .int v14), (0, .ref (σ 2)), (1, .int a1)]) S.1 S.2.1 dX1_findLatest_66 hl (k := 3) rfl (by rw [ev17]; rfl) (by decide) rfl (fun ls hl => ?_)
        refine lv_goto (tgt := 39) S.1 S.2.1 dX1_findLatest_69 (by decide) ?_
        exact (e39 _ _ _).mp h H locs ls hW (lv_sub hl [2, 3, 1, 0] rfl)
  have h := h z39
  refine lv_aload_n S.1 S.2.1 dX1_findLatest_0 rfl (lv_at hl 0 rfl) ?_
  refine r_getI (j := 12) S hW inX1 rfl f40 rfl LH_2 (by decide) rfl dX1_findLatest_1 ?_
  refine lv_iload_n S.1 S.2.1 dX1_findLatest_4 rfl (lv_at hl 1 rfl) ?_
  refine lv_icmp_ne (tgt := 9) S.1 S.2.1 dX1_findLatest_5 (by decide) (fun c1 => ?_) (fun c1 => ?_)
  · have h := h.1 c1
    refine lv_aload_n S.1 S.2.1 dX1_findLatest_9 rfl (lv_at hl 0 rfl) ?_
    refine lv_iload_n S.1 S.2.1 dX1_findLatest_10 rfl (lv_at hl 1 rfl) ?_
    refine r_putI (j := 12) S hW inX1 rfl f40 rfl LH_2 (by decide) rfl tyX1 tyX1_ok nmX1 rfl rfl rfl dX1_findLatest_11 (fun M2 H locs eM2 hW => ?_)
    have h := h M2 eM2
    refine lv_aload_n S.1 S.2.1 dX1_findLatest_14 rfl (lv_at hl 0 rfl) ?_
    refine r_getR (j := 11) S hW inX1 rfl f37 rfl LH_2 (by decide) rfl dX1_findLatest_15 ?_
    refine lv_iconst (v := -1) S.1 S.2.1 dX1_findLatest_18 rfl ?_
    refine r_goV (r_runS (rest := []) S hW (mJ7_fill_53178 l D T LH σ 18 LH_18  M2 (-1 : Int32) _ h) w96 rfl hl.1 rfl (Nat.le_of_ble_eq_true rfl) dX1_findLatest_19 ⟨Nat.zero_le _, Nat.zero_le _⟩) hW (fun M4 H locs h hW => ?_)
    refine lv_aload_n S.1 S.2.1 dX1_findLatest_22 rfl (lv_at hl 0 rfl) ?_
    refine r_getR (j := 11) S hW inX1 rfl f37 rfl LH_2 (by decide) rfl dX1_findLatest_23 ?_
    refine lv_iconst (v := 0) S.1 S.2.1 dX1_findLatest_26 rfl ?_
    refine lv_bipush (v := 12) S.1 S.2.1 dX1_findLatest_27 rfl ?_
    have b5 := h.1
    have h := h.2
    refine r_iast S hW LH_18 b5 dX1_findLatest_29 (fun M6 H locs eM6 hW => ?_)
    have h := h M6 eM6
    refine lv_iconst (v := 0) S.1 S.2.1 dX1_findLatest_30 rfl ?_
    refine lv_istore_n (lv' := [(2, .int (0 : Int32)), (0, .ref (σ 2)), (1, .int a1)]) S.1 S.2.1 dX1_findLatest_31 rfl hl (by decide) rfl (fun ls hl => ?_)
    refine lv_aload_n S.1 S.2.1 dX1_findLatest_32 rfl (lv_at hl 1 rfl) ?_
    refine r_getI (j := 0) S hW inX1 rfl f48 rfl LH_2 (by decide) rfl dX1_findLatest_33 ?_
    refine lv_iconst (v := 1) S.1 S.2.1 dX1_findLatest_36 rfl ?_
    refine lv_isub S.1 S.2.1 dX1_findLatest_37 ?_
    refine lv_topi (fun v7 ev7 => ?_)
    have h := h v7 ev7
    refine lv_istore_n (lv' := [(3, .int v7), (2, .int (0 : Int32)), (0, .ref (σ 2)), (1, .int a1)]) S.1 S.2.1 dX1_findLatest_38 rfl hl (by decide) rfl (fun ls hl => ?_)
    exact (e39 _ _ _).mp h H locs ls hW (lv_sub hl [2, 3, 1, 0] rfl)
  · have h := h.2 c1
    exact r_vret S hr hlk hW h dX1_findLatest_8
abbrev rmX1_holds : Room := { frames := 3, cells := 0, slots := 0, locals := 69 }
set_option maxHeartbeats 4000000 in
set_option maxRecDepth 100000 in
theorem mX1_holds (l : Launch) (D : va_G) (T : Nat → ClassId) (σ : Nat → Nat) (M : Mem) (a1 : Int32) (a2 : Int32) (post : Int32 → Mem → Prop) (h : qX1_holds a1 a2 M post) : Met l yX1_holds wsX1_holds rmX1_holds (preW D T LH σ [.ref (σ 2), .int a1, .int a2] M) (postI D T LH σ post) 0 0 (fA LH σ) := by
  refine m_of (cc := cX1_holds) (maxL := 3) (ret := (some .boolean)) (own := RX1) (by decide) rfl rfl (Nat.le_of_ble_eq_true rfl) ?_
  intro p e s m args below meth c H ls locs S hr hlk hl hW
  have hl : lv_has ls 3 [(0, .ref (σ 2)), (1, .int a1), (2, .int a2)] := hl
  have w68 := cwV (R := rmX1_holds) (rm := rmX1_findLatest) (mc := 0) (ms := 0) 1 S.2.2.2.2 gX1_holds_X1_findLatest rfl rfl rfl (by decide +kernel) ⟨Nat.le_of_ble_eq_true rfl, Nat.le_of_ble_eq_true rfl⟩
  have inX1 : ∀ w ∈ u_ws RX1 TX1 13, w ∈ wsX1_holds := by decide +kernel
  have f37 := S.2.2.2.2 (.fieldLink RX1 37 "MachineHall$Hall" "latest" "[I") (by decide +kernel)
  have f24 := S.2.2.2.2 (.fieldLink RX1 24 "MachineHall$Hall" "ofHour" "[I") (by decide +kernel)
  refine lv_aload_n S.1 S.2.1 dX1_holds_0 rfl (lv_at hl 0 rfl) ?_
  refine lv_iload_n S.1 S.2.1 dX1_holds_1 rfl (lv_at hl 2 rfl) ?_
  refine r_goV (r_runV (rest := []) S hW (mX1_findLatest l D T σ M a2 _ h) w68 rfl LH_2 rfl hl.1 rfl (Nat.le_of_ble_eq_true rfl) dX1_holds_2 ⟨Nat.zero_le _, Nat.zero_le _⟩) hW (fun M2 H locs h hW => ?_)
  refine lv_aload_n S.1 S.2.1 dX1_holds_5 rfl (lv_at hl 0 rfl) ?_
  refine r_getR (j := 11) S hW inX1 rfl f37 rfl LH_2 (by decide) rfl dX1_holds_6 ?_
  refine lv_aload_n S.1 S.2.1 dX1_holds_9 rfl (lv_at hl 0 rfl) ?_
  refine r_getR (j := 7) S hW inX1 rfl f24 rfl LH_2 (by decide) rfl dX1_holds_10 ?_
  refine lv_iload_n S.1 S.2.1 dX1_holds_13 rfl (lv_at hl 1 rfl) ?_
  have b3 := h.1
  have h := h.2
  refine r_iald S hW LH_14 b3 dX1_holds_14 ?_
  have b4 := h.1
  have h := h.2
  refine r_iald S hW LH_18 b4 dX1_holds_15 ?_
  refine lv_iconst (v := -1) S.1 S.2.1 dX1_holds_16 rfl ?_
  refine lv_icmp_eq (tgt := 24) S.1 S.2.1 dX1_holds_17 (by decide) (fun c5 => ?_) (fun c5 => ?_)
  · have h := h.1 c5
    refine lv_iconst (v := 0) S.1 S.2.1 dX1_holds_24 rfl ?_
    exact r_zret S hr hlk hW rfl h dX1_holds_25
  · have h := h.2 c5
    refine lv_iconst (v := 1) S.1 S.2.1 dX1_holds_20 rfl ?_
    refine lv_goto (tgt := 25) S.1 S.2.1 dX1_holds_21 (by decide) ?_
    exact r_zret S hr hlk hW rfl h dX1_holds_25
abbrev rmX1_isAskOf : Room := { frames := 1, cells := 0, slots := 0, locals := 21 }
set_option maxHeartbeats 4000000 in
set_option maxRecDepth 100000 in
theorem mX1_isAskOf (l : Launch) (D : va_G) (T : Nat → ClassId) (σ : Nat → Nat) (M : Mem) (a1 : Int32) (a2 : Int32) (post : Int32 → Mem → Prop) (h : qX1_isAskOf a1 a2 M post) : Met l yX1_isAskOf wsX1_isAskOf rmX1_isAskOf (preW D T LH σ [.ref (σ 2), .int a1, .int a2] M) (postI D T LH σ post) 0 0 (fA LH σ) := by
  refine m_of (cc := cX1_isAskOf) (maxL := 3) (ret := (some .boolean)) (own := RX1) (by decide) rfl rfl (Nat.le_of_ble_eq_true rfl) ?_
  intro p e s m args below meth c H ls locs S hr hlk hl hW
  have hl : lv_has ls 3 [(0, .ref (σ 2)), (1, .int a1), (2, .int a2)] := hl
  have inX1 : ∀ w ∈ u_ws RX1 TX1 13, w ∈ wsX1_isAskOf := by decide +kernel
  have f24 := S.2.2.2.2 (.fieldLink RX1 24 "MachineHall$Hall" "ofHour" "[I") (by decide +kernel)
  have w57 := va_cwS (R := rmX1_isAskOf) (rm := rmX1_has) (mc := 0) (ms := 0) 2 S.2.2.2.2 gX1_isAskOf_X1_has rfl rfl rfl (by decide +kernel) ⟨Nat.le_of_ble_eq_true rfl, Nat.le_of_ble_eq_true rfl⟩
  refine lv_aload_n S.1 S.2.1 dX1_isAskOf_0 rfl (lv_at hl 0 rfl) ?_
  refine r_getR (j := 7) S hW inX1 rfl f24 rfl LH_2 (by decide) rfl dX1_isAskOf_1 ?_
  refine lv_iload_n S.1 S.2.1 dX1_isAskOf_4 rfl (lv_at hl 2 rfl) ?_
  have b1 := h.1
  have h := h.2
  refine r_iald S hW LH_14 b1 dX1_isAskOf_5 ?_
  refine lv_iload_n S.1 S.2.1 dX1_isAskOf_6 rfl (lv_at hl 1 rfl) ?_
  refine r_goI (r_runS (rest := []) S hW (mX1_has l D T σ M (M.1 14 a2.toNatClampNeg) a1 _ h) w57 rfl hl.1 rfl (Nat.le_of_ble_eq_true rfl) dX1_isAskOf_7 ⟨Nat.zero_le _, Nat.zero_le _⟩) hW (fun r2 M3 H locs h hW => ?_)
  exact r_zret S hr hlk hW h.1 h.2 dX1_isAskOf_10
abbrev rmX1_layingOf : Room := { frames := 3, cells := 0, slots := 0, locals := 69 }
set_option maxHeartbeats 4000000 in
set_option maxRecDepth 100000 in
theorem mX1_layingOf (l : Launch) (D : va_G) (T : Nat → ClassId) (σ : Nat → Nat) (M : Mem) (a1 : Int32) (a2 : Int32) (a3 : Int32) (post : Int32 → Mem → Prop) (h : qX1_layingOf a1 a2 a3 M post) : Met l yX1_layingOf wsX1_layingOf rmX1_layingOf (preW D T LH σ [.ref (σ 2), .int a1, .int a2, .int a3] M) (postI D T LH σ post) 0 0 (fA LH σ) := by
  refine m_of (cc := cX1_layingOf) (maxL := 7) (ret := (some .int)) (own := RX1) (by decide) rfl rfl (Nat.le_of_ble_eq_true rfl) ?_
  intro p e s m args below meth c H ls locs S hr hlk hl hW
  have hl : lv_has ls 7 [(0, .ref (σ 2)), (1, .int a1), (2, .int a2), (3, .int a3)] := hl
  have w68 := cwV (R := rmX1_layingOf) (rm := rmX1_findLatest) (mc := 0) (ms := 0) 1 S.2.2.2.2 gX1_layingOf_X1_findLatest rfl rfl rfl (by decide +kernel) ⟨Nat.le_of_ble_eq_true rfl, Nat.le_of_ble_eq_true rfl⟩
  have inX1 : ∀ w ∈ u_ws RX1 TX1 13, w ∈ wsX1_layingOf := by decide +kernel
  have f24 := S.2.2.2.2 (.fieldLink RX1 24 "MachineHall$Hall" "ofHour" "[I") (by decide +kernel)
  have f48 := S.2.2.2.2 (.fieldLink RX1 48 "MachineHall$Hall" "machines" "I") (by decide +kernel)
  have w57 := va_cwS (R := rmX1_layingOf) (rm := rmX1_has) (mc := 0) (ms := 0) 2 S.2.2.2.2 gX1_layingOf_X1_has rfl rfl rfl (by decide +kernel) ⟨Nat.le_of_ble_eq_true rfl, Nat.le_of_ble_eq_true rfl⟩
  have w71 := cwV (R := rmX1_layingOf) (rm := rmX1_greatestOn) (mc := 0) (ms := 0) 2 S.2.2.2.2 gX1_layingOf_X1_greatestOn rfl rfl rfl (by decide +kernel) ⟨Nat.le_of_ble_eq_true rfl, Nat.le_of_ble_eq_true rfl⟩
  obtain ⟨R16, e16⟩ : ∃ R : Int32 → Int32 → Mem → Prop, ∀ x4 x5 M, R x4 x5 M ↔ WW p l e rmX1_layingOf s m args below meth c D T LH σ 7 (MQ below (postI D T LH σ post) args s 0 0 (fA LH σ)) 16 [(0, .ref (σ 2)), (2, .int a2), (3, .int a3), (4, .int x4), (5, .int x5)] [] M := ⟨_, fun _ _ _ => Iff.rfl⟩
  have h := h R16
  have z16 : ∀ x4 x5 M, qX1_layingOf_b16 a1 a2 a3 post R16 x4 x5 M → R16 x4 x5 M := by
    intro x4 x5 M h
    refine (e16 _ _ _).mpr (fun H locs ls hW hl => ?_)
    refine lv_iload S.1 S.2.1 dX1_layingOf_16 (lv_at hl 4 rfl) ?_
    refine lv_aload_n S.1 S.2.1 dX1_layingOf_18 rfl (lv_at hl 0 rfl) ?_
    refine r_getI (j := 0) S hW inX1 rfl f48 rfl LH_2 (by decide) rfl dX1_layingOf_19 ?_
    refine lv_icmp_ge (tgt := 69) S.1 S.2.1 dX1_layingOf_22 (by decide) (fun c5 => ?_) (fun c5 => ?_)
    · have h := h.1 c5
      refine lv_iconst (v := -1) S.1 S.2.1 dX1_layingOf_69 rfl ?_
      exact r_iret S hr hlk hW h dX1_layingOf_70
    · have h := h.2 c5
      refine lv_iload_n S.1 S.2.1 dX1_layingOf_25 rfl (lv_at hl 1 rfl) ?_
      refine lv_iload S.1 S.2.1 dX1_layingOf_26 (lv_at hl 4 rfl) ?_
      refine r_goI (r_runS (rest := []) S hW (mX1_has l D T σ M a2 x5 _ h) w57 rfl hl.1 rfl (Nat.le_of_ble_eq_true rfl) dX1_layingOf_28 ⟨Nat.zero_le _, Nat.zero_le _⟩) hW (fun r6 M7 H locs h hW => ?_)
      refine lv_if_eq (tgt := 63) S.1 S.2.1 dX1_layingOf_31 (by decide) (fun c8 => ?_) (fun c8 => ?_)
      · have h := h.1 c8
        obtain ⟨v9, ev9⟩ : ∃ y : Int32, y = x5 + 1 := ⟨_, rfl⟩
        have h := h v9 ev9
        refine lv_iinc (v := v9) (lv' := [(5, .int v9), (0, .ref (σ 2)), (2, .int a2), (3, .int a3), (4, .int x4)]) S.1 S.2.1 dX1_layingOf_63 hl (k := 4) rfl (by rw [ev9]; rfl) (by decide) rfl (fun ls hl => ?_)
        refine lv_goto (tgt := 16) S.1 S.2.1 dX1_layingOf_66 (by decide) ?_
        exact (e16 _ _ _).mp h H locs ls hW (lv_sub hl [1, 2, 3, 4, 0] rfl)
      · have h := h.2 c8
        refine lv_aload_n S.1 S.2.1 dX1_layingOf_34 rfl (lv_at hl 0 rfl) ?_
        refine lv_iload S.1 S.2.1 dX1_layingOf_35 (lv_at hl 4 rfl) ?_
        refine lv_iload S.1 S.2.1 dX1_layingOf_37 (lv_at hl 3 rfl) ?_
        refine r_goI (r_runV (rest := []) S hW (mX1_greatestOn l D T σ M7 x5 x4 _ h) w71 rfl LH_2 rfl hl.1 rfl (Nat.le_of_ble_eq_true rfl) dX1_layingOf_39 ⟨Nat.zero_le _, Nat.zero_le _⟩) hW (fun r10 M11 H locs h hW => ?_)
        refine lv_istore (lv' := [(6, .int r10), (0, .ref (σ 2)), (2, .int a2), (3, .int a3), (4, .int x4), (5, .int x5)]) S.1 S.2.1 dX1_layingOf_42 hl (by decide) rfl (fun ls hl => ?_)
        refine lv_iload S.1 S.2.1 dX1_layingOf_44 (lv_at hl 0 rfl) ?_
        refine lv_iload_n S.1 S.2.1 dX1_layingOf_46 rfl (lv_at hl 3 rfl) ?_
        refine r_goI (r_runS (rest := []) S hW (mX1_has l D T σ M11 r10 a3 _ h) w57 rfl hl.1 rfl (Nat.le_of_ble_eq_true rfl) dX1_layingOf_47 ⟨Nat.zero_le _, Nat.zero_le _⟩) hW (fun r12 M13 H locs h hW => ?_)
        refine lv_if_eq (tgt := 56) S.1 S.2.1 dX1_layingOf_50 (by decide) (fun c14 => ?_) (fun c14 => ?_)
        · have h := h.1 c14
          refine lv_iload S.1 S.2.1 dX1_layingOf_56 (lv_at hl 4 rfl) ?_
          refine lv_iload S.1 S.2.1 dX1_layingOf_58 (lv_at hl 0 rfl) ?_
          refine lv_ixor S.1 S.2.1 dX1_layingOf_60 ?_
          refine lv_topi (fun v15 ev15 => ?_)
          have h := h v15 ev15
          refine lv_istore (lv' := [(4, .int v15), (6, .int r10), (0, .ref (σ 2)), (2, .int a2), (3, .int a3), (5, .int x5)]) S.1 S.2.1 dX1_layingOf_61 hl (by decide) rfl (fun ls hl => ?_)
          obtain ⟨v16, ev16⟩ : ∃ y : Int32, y = x5 + 1 := ⟨_, rfl⟩
          have h := h v16 ev16
          refine lv_iinc (v := v16) (lv' := [(5, .int v16), (4, .int v15), (6, .int r10), (0, .ref (σ 2)), (2, .int a2), (3, .int a3)]) S.1 S.2.1 dX1_layingOf_63 hl (k := 5) rfl (by rw [ev16]; rfl) (by decide) rfl (fun ls hl => ?_)
          refine lv_goto (tgt := 16) S.1 S.2.1 dX1_layingOf_66 (by decide) ?_
          exact (e16 _ _ _).mp h H locs ls hW (lv_sub hl [3, 4, 5, 1, 0] rfl)
        · have h := h.2 c14
          refine lv_iload S.1 S.2.1 dX1_layingOf_53 (lv_at hl 5 rfl) ?_
          exact r_iret S hr hlk hW h dX1_layingOf_55
  have h := h z16
  refine lv_aload_n S.1 S.2.1 dX1_layingOf_0 rfl (lv_at hl 0 rfl) ?_
  refine lv_iload_n S.1 S.2.1 dX1_layingOf_1 rfl (lv_at hl 2 rfl) ?_
  refine r_goV (r_runV (rest := []) S hW (mX1_findLatest l D T σ M a2 _ h) w68 rfl LH_2 rfl hl.1 rfl (Nat.le_of_ble_eq_true rfl) dX1_layingOf_2 ⟨Nat.zero_le _, Nat.zero_le _⟩) hW (fun M2 H locs h hW => ?_)
  refine lv_aload_n S.1 S.2.1 dX1_layingOf_5 rfl (lv_at hl 0 rfl) ?_
  refine r_getR (j := 7) S hW inX1 rfl f24 rfl LH_2 (by decide) rfl dX1_layingOf_6 ?_
  refine lv_iload_n S.1 S.2.1 dX1_layingOf_9 rfl (lv_at hl 1 rfl) ?_
  have b3 := h.1
  have h := h.2
  refine r_iald S hW LH_14 b3 dX1_layingOf_10 ?_
  refine lv_topi (fun v4 ev4 => ?_)
  have h := h v4 ev4
  refine lv_istore (lv' := [(4, .int v4), (0, .ref (σ 2)), (1, .int a1), (2, .int a2), (3, .int a3)]) S.1 S.2.1 dX1_layingOf_11 hl (by decide) rfl (fun ls hl => ?_)
  refine lv_iconst (v := 0) S.1 S.2.1 dX1_layingOf_13 rfl ?_
  refine lv_istore (lv' := [(5, .int (0 : Int32)), (4, .int v4), (0, .ref (σ 2)), (1, .int a1), (2, .int a2), (3, .int a3)]) S.1 S.2.1 dX1_layingOf_14 hl (by decide) rfl (fun ls hl => ?_)
  exact (e16 _ _ _).mp h H locs ls hW (lv_sub hl [2, 4, 5, 1, 0] rfl)
abbrev rmX1_lacking : Room := { frames := 3, cells := 0, slots := 0, locals := 69 }
set_option maxHeartbeats 4000000 in
set_option maxRecDepth 100000 in
theorem mX1_lacking (l : Launch) (D : va_G) (T : Nat → ClassId) (σ : Nat → Nat) (M : Mem) (a1 : Int32) (a2 : Int32) (post : Int32 → Mem → Prop) (h : qX1_lacking a1 a2 M post) : Met l yX1_lacking wsX1_lacking rmX1_lacking (preW D T LH σ [.ref (σ 2), .int a1, .int a2] M) (postI D T LH σ post) 0 0 (fA LH σ) := by
  refine m_of (cc := cX1_lacking) (maxL := 6) (ret := (some .int)) (own := RX1) (by decide) rfl rfl (Nat.le_of_ble_eq_true rfl) ?_
  intro p e s m args below meth c H ls locs S hr hlk hl hW
  have hl : lv_has ls 6 [(0, .ref (σ 2)), (1, .int a1), (2, .int a2)] := hl
  have w68 := cwV (R := rmX1_lacking) (rm := rmX1_findLatest) (mc := 0) (ms := 0) 1 S.2.2.2.2 gX1_lacking_X1_findLatest rfl rfl rfl (by decide +kernel) ⟨Nat.le_of_ble_eq_true rfl, Nat.le_of_ble_eq_true rfl⟩
  have inX1 : ∀ w ∈ u_ws RX1 TX1 13, w ∈ wsX1_lacking := by decide +kernel
  have f24 := S.2.2.2.2 (.fieldLink RX1 24 "MachineHall$Hall" "ofHour" "[I") (by decide +kernel)
  have f27 := S.2.2.2.2 (.fieldLink RX1 27 "MachineHall$Hall" "load" "[I") (by decide +kernel)
  have f37 := S.2.2.2.2 (.fieldLink RX1 37 "MachineHall$Hall" "latest" "[I") (by decide +kernel)
  have l75 := S.2.2.2.2 (.methodLink RX1 75 Lib.Math.max.name) (by decide +kernel)
  have smax := S.2.2.2.2 (.static Lib.Math.max.name) (by decide +kernel)
  have omax := S.2.2.2.2 (.code Lib.Math.max.name Lib.Math.max.code 2 (some .int)) (by decide +kernel)
  have iMath := S.2.2.2.2 (.initialized "java/lang/Math") (by decide +kernel)
  obtain ⟨R18, e18⟩ : ∃ R : Int32 → Int32 → Int32 → Mem → Prop, ∀ x3 x4 x5 M, R x3 x4 x5 M ↔ WW p l e rmX1_lacking s m args below meth c D T LH σ 6 (MQ below (postI D T LH σ post) args s 0 0 (fA LH σ)) 18 [(0, .ref (σ 2)), (3, .int x3), (4, .int x4), (5, .int x5)] [] M := ⟨_, fun _ _ _ _ => Iff.rfl⟩
  have h := h R18
  have z18 : ∀ x3 x4 x5 M, qX1_lacking_b18 a1 a2 post R18 x3 x4 x5 M → R18 x3 x4 x5 M := by
    intro x3 x4 x5 M h
    refine (e18 _ _ _ _).mpr (fun H locs ls hW hl => ?_)
    refine lv_iload S.1 S.2.1 dX1_lacking_18 (lv_at hl 3 rfl) ?_
    refine lv_if_le (tgt := 59) S.1 S.2.1 dX1_lacking_20 (by decide) (fun c5 => ?_) (fun c5 => ?_)
    · have h := h.1 c5
      refine lv_aload_n S.1 S.2.1 dX1_lacking_59 rfl (lv_at hl 0 rfl) ?_
      refine r_getR (j := 8) S hW inX1 rfl f27 rfl LH_2 (by decide) rfl dX1_lacking_60 ?_
      refine lv_iload_n S.1 S.2.1 dX1_lacking_63 rfl (lv_at hl 1 rfl) ?_
      have b6 := h.1
      have h := h.2
      refine r_iald S hW LH_15 b6 dX1_lacking_64 ?_
      refine lv_iload S.1 S.2.1 dX1_lacking_65 (lv_at hl 2 rfl) ?_
      refine lv_isub S.1 S.2.1 dX1_lacking_67 ?_
      exact r_iret S hr hlk hW h dX1_lacking_68
    · have h := h.2 c5
      refine lv_aload_n S.1 S.2.1 dX1_lacking_23 rfl (lv_at hl 0 rfl) ?_
      refine r_getR (j := 11) S hW inX1 rfl f37 rfl LH_2 (by decide) rfl dX1_lacking_24 ?_
      refine lv_iload S.1 S.2.1 dX1_lacking_27 (lv_at hl 3 rfl) ?_
      have b7 := h.1
      have h := h.2
      refine r_iald S hW LH_18 b7 dX1_lacking_29 ?_
      refine lv_iconst (v := -1) S.1 S.2.1 dX1_lacking_30 rfl ?_
      refine lv_icmp_eq (tgt := 48) S.1 S.2.1 dX1_lacking_31 (by decide) (fun c8 => ?_) (fun c8 => ?_)
      · have h := h.1 c8
        refine lv_iload S.1 S.2.1 dX1_lacking_48 (lv_at hl 3 rfl) ?_
        refine lv_iconst (v := 1) S.1 S.2.1 dX1_lacking_50 rfl ?_
        refine lv_isub S.1 S.2.1 dX1_lacking_51 ?_
        refine lv_iload_n S.1 S.2.1 dX1_lacking_52 rfl (lv_at hl 1 rfl) ?_
        refine lv_iand S.1 S.2.1 dX1_lacking_53 ?_
        refine lv_topi (fun v9 ev9 => ?_)
        have h := h v9 ev9
        refine lv_istore (lv' := [(5, .int v9), (0, .ref (σ 2)), (3, .int x3), (4, .int x4)]) S.1 S.2.1 dX1_lacking_54 hl (by decide) rfl (fun ls hl => ?_)
        refine lv_goto (tgt := 18) S.1 S.2.1 dX1_lacking_56 (by decide) ?_
        exact (e18 _ _ _ _).mp h H locs ls hW (lv_sub hl [1, 2, 3, 0] rfl)
      · have h := h.2 c8
        refine lv_iload S.1 S.2.1 dX1_lacking_34 (lv_at hl 2 rfl) ?_
        refine lv_aload_n S.1 S.2.1 dX1_lacking_36 rfl (lv_at hl 0 rfl) ?_
        refine r_getR (j := 8) S hW inX1 rfl f27 rfl LH_2 (by decide) rfl dX1_lacking_37 ?_
        refine lv_iload S.1 S.2.1 dX1_lacking_40 (lv_at hl 3 rfl) ?_
        have b10 := h.1
        have h := h.2
        refine r_iald S hW LH_15 b10 dX1_lacking_42 ?_
        refine r_max S hl.1 l75 smax iMath omax (Nat.le_of_ble_eq_true rfl) (Nat.le_of_ble_eq_true rfl) (Nat.zero_le _) (Nat.zero_le _) dX1_lacking_43 ?_
        refine lv_topi (fun v11 ev11 => ?_)
        have h := h v11 ev11
        refine lv_istore (lv' := [(4, .int v11), (0, .ref (σ 2)), (3, .int x3), (5, .int x5)]) S.1 S.2.1 dX1_lacking_46 hl (by decide) rfl (fun ls hl => ?_)
        refine lv_iload S.1 S.2.1 dX1_lacking_48 (lv_at hl 3 rfl) ?_
        refine lv_iconst (v := 1) S.1 S.2.1 dX1_lacking_50 rfl ?_
        refine lv_isub S.1 S.2.1 dX1_lacking_51 ?_
        refine lv_iload_n S.1 S.2.1 dX1_lacking_52 rfl (lv_at hl 2 rfl) ?_
        refine lv_iand S.1 S.2.1 dX1_lacking_53 ?_
        refine lv_topi (fun v12 ev12 => ?_)
        have h := h v12 ev12
        refine lv_istore (lv' := [(5, .int v12), (4, .int v11), (0, .ref (σ 2)), (3, .int x3)]) S.1 S.2.1 dX1_lacking_54 hl (by decide) rfl (fun ls hl => ?_)
        refine lv_goto (tgt := 18) S.1 S.2.1 dX1_lacking_56 (by decide) ?_
        exact (e18 _ _ _ _).mp h H locs ls hW (lv_sub hl [2, 3, 1, 0] rfl)
  have h := h z18
  refine lv_aload_n S.1 S.2.1 dX1_lacking_0 rfl (lv_at hl 0 rfl) ?_
  refine lv_iload_n S.1 S.2.1 dX1_lacking_1 rfl (lv_at hl 2 rfl) ?_
  refine r_goV (r_runV (rest := []) S hW (mX1_findLatest l D T σ M a2 _ h) w68 rfl LH_2 rfl hl.1 rfl (Nat.le_of_ble_eq_true rfl) dX1_lacking_2 ⟨Nat.zero_le _, Nat.zero_le _⟩) hW (fun M2 H locs h hW => ?_)
  refine lv_aload_n S.1 S.2.1 dX1_lacking_5 rfl (lv_at hl 0 rfl) ?_
  refine r_getR (j := 7) S hW inX1 rfl f24 rfl LH_2 (by decide) rfl dX1_lacking_6 ?_
  refine lv_iload_n S.1 S.2.1 dX1_lacking_9 rfl (lv_at hl 1 rfl) ?_
  have b3 := h.1
  have h := h.2
  refine r_iald S hW LH_14 b3 dX1_lacking_10 ?_
  refine lv_topi (fun v4 ev4 => ?_)
  have h := h v4 ev4
  refine lv_istore_n (lv' := [(3, .int v4), (0, .ref (σ 2)), (1, .int a1), (2, .int a2)]) S.1 S.2.1 dX1_lacking_11 rfl hl (by decide) rfl (fun ls hl => ?_)
  refine lv_iconst (v := 0) S.1 S.2.1 dX1_lacking_12 rfl ?_
  refine lv_istore (lv' := [(4, .int (0 : Int32)), (3, .int v4), (0, .ref (σ 2)), (1, .int a1), (2, .int a2)]) S.1 S.2.1 dX1_lacking_13 hl (by decide) rfl (fun ls hl => ?_)
  refine lv_iload_n S.1 S.2.1 dX1_lacking_15 rfl (lv_at hl 1 rfl) ?_
  refine lv_istore (lv' := [(5, .int v4), (4, .int (0 : Int32)), (3, .int v4), (0, .ref (σ 2)), (1, .int a1), (2, .int a2)]) S.1 S.2.1 dX1_lacking_16 hl (by decide) rfl (fun ls hl => ?_)
  exact (e18 _ _ _ _).mp h H locs ls hW (lv_sub hl [3, 2, 1, 0] rfl)
abbrev rmX1_leftOver : Room := { frames := 3, cells := 0, slots := 0, locals := 69 }
set_option maxHeartbeats 4000000 in
set_option maxRecDepth 100000 in
theorem mX1_leftOver (l : Launch) (D : va_G) (T : Nat → ClassId) (σ : Nat → Nat) (M : Mem) (a1 : Int32) (a2 : Int32) (post : Int32 → Mem → Prop) (h : qX1_leftOver a1 a2 M post) : Met l yX1_leftOver wsX1_leftOver rmX1_leftOver (preW D T LH σ [.ref (σ 2), .int a1, .int a2] M) (postI D T LH σ post) 0 0 (fA LH σ) := by
  refine m_of (cc := cX1_leftOver) (maxL := 4) (ret := (some .int)) (own := RX1) (by decide) rfl rfl (Nat.le_of_ble_eq_true rfl) ?_
  intro p e s m args below meth c H ls locs S hr hlk hl hW
  have hl : lv_has ls 4 [(0, .ref (σ 2)), (1, .int a1), (2, .int a2)] := hl
  have w68 := cwV (R := rmX1_leftOver) (rm := rmX1_findLatest) (mc := 0) (ms := 0) 1 S.2.2.2.2 gX1_leftOver_X1_findLatest rfl rfl rfl (by decide +kernel) ⟨Nat.le_of_ble_eq_true rfl, Nat.le_of_ble_eq_true rfl⟩
  have inX1 : ∀ w ∈ u_ws RX1 TX1 13, w ∈ wsX1_leftOver := by decide +kernel
  have f24 := S.2.2.2.2 (.fieldLink RX1 24 "MachineHall$Hall" "ofHour" "[I") (by decide +kernel)
  have f37 := S.2.2.2.2 (.fieldLink RX1 37 "MachineHall$Hall" "latest" "[I") (by decide +kernel)
  have w80 := cwV (R := rmX1_leftOver) (rm := rmX1_sizeOf) (mc := 0) (ms := 0) 1 S.2.2.2.2 gX1_leftOver_X1_sizeOf rfl rfl rfl (by decide +kernel) ⟨Nat.le_of_ble_eq_true rfl, Nat.le_of_ble_eq_true rfl⟩
  have f27 := S.2.2.2.2 (.fieldLink RX1 27 "MachineHall$Hall" "load" "[I") (by decide +kernel)
  refine lv_aload_n S.1 S.2.1 dX1_leftOver_0 rfl (lv_at hl 0 rfl) ?_
  refine lv_iload_n S.1 S.2.1 dX1_leftOver_1 rfl (lv_at hl 2 rfl) ?_
  refine r_goV (r_runV (rest := []) S hW (mX1_findLatest l D T σ M a2 _ h) w68 rfl LH_2 rfl hl.1 rfl (Nat.le_of_ble_eq_true rfl) dX1_leftOver_2 ⟨Nat.zero_le _, Nat.zero_le _⟩) hW (fun M2 H locs h hW => ?_)
  refine lv_aload_n S.1 S.2.1 dX1_leftOver_5 rfl (lv_at hl 0 rfl) ?_
  refine r_getR (j := 7) S hW inX1 rfl f24 rfl LH_2 (by decide) rfl dX1_leftOver_6 ?_
  refine lv_iload_n S.1 S.2.1 dX1_leftOver_9 rfl (lv_at hl 1 rfl) ?_
  have b3 := h.1
  have h := h.2
  refine r_iald S hW LH_14 b3 dX1_leftOver_10 ?_
  refine lv_topi (fun v4 ev4 => ?_)
  have h := h v4 ev4
  refine lv_istore_n (lv' := [(3, .int v4), (0, .ref (σ 2)), (1, .int a1), (2, .int a2)]) S.1 S.2.1 dX1_leftOver_11 rfl hl (by decide) rfl (fun ls hl => ?_)
  refine lv_aload_n S.1 S.2.1 dX1_leftOver_12 rfl (lv_at hl 1 rfl) ?_
  refine r_getR (j := 11) S hW inX1 rfl f37 rfl LH_2 (by decide) rfl dX1_leftOver_13 ?_
  refine lv_iload_n S.1 S.2.1 dX1_leftOver_16 rfl (lv_at hl 0 rfl) ?_
  have b5 := h.1
  have h := h.2
  refine r_iald S hW LH_18 b5 dX1_leftOver_17 ?_
  refine lv_iconst (v := -1) S.1 S.2.1 dX1_leftOver_18 rfl ?_
  refine lv_icmp_eq (tgt := 37) S.1 S.2.1 dX1_leftOver_19 (by decide) (fun c6 => ?_) (fun c6 => ?_)
  · have h := h.1 c6
    refine lv_iconst (v := 0) S.1 S.2.1 dX1_leftOver_37 rfl ?_
    exact r_iret S hr hlk hW h dX1_leftOver_38
  · have h := h.2 c6
    refine lv_aload_n S.1 S.2.1 dX1_leftOver_22 rfl (lv_at hl 1 rfl) ?_
    refine lv_iload_n S.1 S.2.1 dX1_leftOver_23 rfl (lv_at hl 3 rfl) ?_
    refine r_goI (r_runV (rest := []) S hW (mX1_sizeOf l D T σ M2 a2 _ h) w80 rfl LH_2 rfl hl.1 rfl (Nat.le_of_ble_eq_true rfl) dX1_leftOver_24 ⟨Nat.zero_le _, Nat.zero_le _⟩) hW (fun r7 M8 H locs h hW => ?_)
    refine lv_aload_n S.1 S.2.1 dX1_leftOver_27 rfl (lv_at hl 1 rfl) ?_
    refine r_getR (j := 8) S hW inX1 rfl f27 rfl LH_2 (by decide) rfl dX1_leftOver_28 ?_
    refine lv_iload_n S.1 S.2.1 dX1_leftOver_31 rfl (lv_at hl 0 rfl) ?_
    have b9 := h.1
    have h := h.2
    refine r_iald S hW LH_15 b9 dX1_leftOver_32 ?_
    refine lv_isub S.1 S.2.1 dX1_leftOver_33 ?_
    refine lv_goto (tgt := 38) S.1 S.2.1 dX1_leftOver_34 (by decide) ?_
    exact r_iret S hr hlk hW h dX1_leftOver_38
abbrev rmX1_isLookedAt : Room := { frames := 0, cells := 0, slots := 0, locals := 0 }
set_option maxHeartbeats 4000000 in
set_option maxRecDepth 100000 in
theorem mX1_isLookedAt (l : Launch) (D : va_G) (T : Nat → ClassId) (σ : Nat → Nat) (M : Mem) (a1 : Int32) (a2 : Int32) (post : Int32 → Mem → Prop) (h : qX1_isLookedAt a1 a2 M post) : Met l yX1_isLookedAt wsX1_isLookedAt rmX1_isLookedAt (preW D T LH σ [.ref (σ 2), .int a1, .int a2] M) (postI D T LH σ post) 0 0 (fA LH σ) := by
  refine m_of (cc := cX1_isLookedAt) (maxL := 3) (ret := (some .boolean)) (own := RX1) (by decide) rfl rfl (Nat.le_of_ble_eq_true rfl) ?_
  intro p e s m args below meth c H ls locs S hr hlk hl hW
  have hl : lv_has ls 3 [(0, .ref (σ 2)), (1, .int a1), (2, .int a2)] := hl
  have inX1 : ∀ w ∈ u_ws RX1 TX1 13, w ∈ wsX1_isLookedAt := by decide +kernel
  have f48 := S.2.2.2.2 (.fieldLink RX1 48 "MachineHall$Hall" "machines" "I") (by decide +kernel)
  refine lv_iload_n S.1 S.2.1 dX1_isLookedAt_0 rfl (lv_at hl 1 rfl) ?_
  refine lv_bipush (v := 12) S.1 S.2.1 dX1_isLookedAt_1 rfl ?_
  refine lv_icmp_le (tgt := 17) S.1 S.2.1 dX1_isLookedAt_3 (by decide) (fun c1 => ?_) (fun c1 => ?_)
  · have h := h.1 c1
    refine lv_iload_n S.1 S.2.1 dX1_isLookedAt_17 rfl (lv_at hl 1 rfl) ?_
    refine lv_if_eq (tgt := 33) S.1 S.2.1 dX1_isLookedAt_18 (by decide) (fun c2 => ?_) (fun c2 => ?_)
    · have h := h.1 c2
      refine lv_iconst (v := 1) S.1 S.2.1 dX1_isLookedAt_33 rfl ?_
      refine lv_goto (tgt := 38) S.1 S.2.1 dX1_isLookedAt_34 (by decide) ?_
      exact r_zret S hr hlk hW rfl h dX1_isLookedAt_38
    · have h := h.2 c2
      refine lv_iload_n S.1 S.2.1 dX1_isLookedAt_21 rfl (lv_at hl 2 rfl) ?_
      refine lv_if_le (tgt := 37) S.1 S.2.1 dX1_isLookedAt_22 (by decide) (fun c3 => ?_) (fun c3 => ?_)
      · have h := h.1 c3
        refine lv_iconst (v := 0) S.1 S.2.1 dX1_isLookedAt_37 rfl ?_
        exact r_zret S hr hlk hW rfl h dX1_isLookedAt_38
      · have h := h.2 c3
        refine lv_iload_n S.1 S.2.1 dX1_isLookedAt_25 rfl (lv_at hl 1 rfl) ?_
        refine lv_aload_n S.1 S.2.1 dX1_isLookedAt_26 rfl (lv_at hl 0 rfl) ?_
        refine r_getI (j := 0) S hW inX1 rfl f48 rfl LH_2 (by decide) rfl dX1_isLookedAt_27 ?_
        refine lv_icmp_gt (tgt := 37) S.1 S.2.1 dX1_isLookedAt_30 (by decide) (fun c4 => ?_) (fun c4 => ?_)
        · have h := h.1 c4
          refine lv_iconst (v := 0) S.1 S.2.1 dX1_isLookedAt_37 rfl ?_
          exact r_zret S hr hlk hW rfl h dX1_isLookedAt_38
        · have h := h.2 c4
          refine lv_iconst (v := 1) S.1 S.2.1 dX1_isLookedAt_33 rfl ?_
          refine lv_goto (tgt := 38) S.1 S.2.1 dX1_isLookedAt_34 (by decide) ?_
          exact r_zret S hr hlk hW rfl h dX1_isLookedAt_38
  · have h := h.2 c1
    refine lv_iload_n S.1 S.2.1 dX1_isLookedAt_6 rfl (lv_at hl 2 rfl) ?_
    refine lv_iconst (v := 2) S.1 S.2.1 dX1_isLookedAt_7 rfl ?_
    refine lv_icmp_ne (tgt := 15) S.1 S.2.1 dX1_isLookedAt_8 (by decide) (fun c5 => ?_) (fun c5 => ?_)
    · have h := h.1 c5
      refine lv_iconst (v := 0) S.1 S.2.1 dX1_isLookedAt_15 rfl ?_
      exact r_zret S hr hlk hW rfl h dX1_isLookedAt_16
    · have h := h.2 c5
      refine lv_iconst (v := 1) S.1 S.2.1 dX1_isLookedAt_11 rfl ?_
      refine lv_goto (tgt := 16) S.1 S.2.1 dX1_isLookedAt_12 (by decide) ?_
      exact r_zret S hr hlk hW rfl h dX1_isLookedAt_16
abbrev rmX1_firstUnfitHour : Room := { frames := 4, cells := 0, slots := 0, locals := 91 }
set_option maxHeartbeats 4000000 in
set_option maxRecDepth 100000 in
theorem mX1_firstUnfitHour (l : Launch) (D : va_G) (T : Nat → ClassId) (σ : Nat → Nat) (M : Mem) (a1 : Int32) (a2 : Int32) (post : Int32 → Mem → Prop) (h : qX1_firstUnfitHour a1 a2 M post) : Met l yX1_firstUnfitHour wsX1_firstUnfitHour rmX1_firstUnfitHour (preW D T LH σ [.ref (σ 2), .int a1, .int a2] M) (postI D T LH σ post) 0 0 (fA LH σ) := by
  refine m_of (cc := cX1_firstUnfitHour) (maxL := 4) (ret := (some .int)) (own := RX1) (by decide) rfl rfl (Nat.le_of_ble_eq_true rfl) ?_
  intro p e s m args below meth c H ls locs S hr hlk hl hW
  have hl : lv_has ls 4 [(0, .ref (σ 2)), (1, .int a1), (2, .int a2)] := hl
  have w93 := cwV (R := rmX1_firstUnfitHour) (rm := rmX1_holds) (mc := 0) (ms := 0) 2 S.2.2.2.2 gX1_firstUnfitHour_X1_holds rfl rfl rfl (by decide +kernel) ⟨Nat.le_of_ble_eq_true rfl, Nat.le_of_ble_eq_true rfl⟩
  obtain ⟨R2, e2⟩ : ∃ R : Int32 → Mem → Prop, ∀ x3 M, R x3 M ↔ WW p l e rmX1_firstUnfitHour s m args below meth c D T LH σ 4 (MQ below (postI D T LH σ post) args s 0 0 (fA LH σ)) 2 [(0, .ref (σ 2)), (1, .int a1), (2, .int a2), (3, .int x3)] [] M := ⟨_, fun _ _ => Iff.rfl⟩
  have h := h R2
  have z2 : ∀ x3 M, qX1_firstUnfitHour_b2 a1 a2 post R2 x3 M → R2 x3 M := by
    intro x3 M h
    refine (e2 _ _).mpr (fun H locs ls hW hl => ?_)
    refine lv_iload_n S.1 S.2.1 dX1_firstUnfitHour_2 rfl (lv_at hl 3 rfl) ?_
    refine lv_iload_n S.1 S.2.1 dX1_firstUnfitHour_3 rfl (lv_at hl 2 rfl) ?_
    refine lv_icmp_ge (tgt := 24) S.1 S.2.1 dX1_firstUnfitHour_4 (by decide) (fun c1 => ?_) (fun c1 => ?_)
    · have h := h.1 c1
      refine lv_iload_n S.1 S.2.1 dX1_firstUnfitHour_24 rfl (lv_at hl 2 rfl) ?_
      exact r_iret S hr hlk hW h dX1_firstUnfitHour_25
    · have h := h.2 c1
      refine lv_aload_n S.1 S.2.1 dX1_firstUnfitHour_7 rfl (lv_at hl 0 rfl) ?_
      refine lv_iload_n S.1 S.2.1 dX1_firstUnfitHour_8 rfl (lv_at hl 3 rfl) ?_
      refine lv_iload_n S.1 S.2.1 dX1_firstUnfitHour_9 rfl (lv_at hl 1 rfl) ?_
      refine r_goI (r_runV (rest := []) S hW (mX1_holds l D T σ M x3 a1 _ h) w93 rfl LH_2 rfl hl.1 rfl (Nat.le_of_ble_eq_true rfl) dX1_firstUnfitHour_10 ⟨Nat.zero_le _, Nat.zero_le _⟩) hW (fun r2 M3 H locs h hW => ?_)
      refine lv_if_ne (tgt := 18) S.1 S.2.1 dX1_firstUnfitHour_13 (by decide) (fun c4 => ?_) (fun c4 => ?_)
      · have h := h.1 c4
        obtain ⟨v5, ev5⟩ : ∃ y : Int32, y = x3 + 1 := ⟨_, rfl⟩
        have h := h v5 ev5
        refine lv_iinc (v := v5) (lv' := [(3, .int v5), (0, .ref (σ 2)), (1, .int a1), (2, .int a2)]) S.1 S.2.1 dX1_firstUnfitHour_18 hl (k := 3) rfl (by rw [ev5]; rfl) (by decide) rfl (fun ls hl => ?_)
        refine lv_goto (tgt := 2) S.1 S.2.1 dX1_firstUnfitHour_21 (by decide) ?_
        exact (e2 _ _).mp h H locs ls hW (lv_sub hl [1, 2, 3, 0] rfl)
      · have h := h.2 c4
        refine lv_iload_n S.1 S.2.1 dX1_firstUnfitHour_16 rfl (lv_at hl 3 rfl) ?_
        exact r_iret S hr hlk hW h dX1_firstUnfitHour_17
  have h := h z2
  refine lv_iconst (v := 0) S.1 S.2.1 dX1_firstUnfitHour_0 rfl ?_
  refine lv_istore_n (lv' := [(3, .int (0 : Int32)), (0, .ref (σ 2)), (1, .int a1), (2, .int a2)]) S.1 S.2.1 dX1_firstUnfitHour_1 rfl hl (by decide) rfl (fun ls hl => ?_)
  exact (e2 _ _).mp h H locs ls hW (lv_sub hl [1, 2, 3, 0] rfl)
abbrev rmX1_firstUnfit : Room := { frames := 5, cells := 0, slots := 0, locals := 114 }
set_option maxHeartbeats 4000000 in
set_option maxRecDepth 100000 in
theorem mX1_firstUnfit (l : Launch) (D : va_G) (T : Nat → ClassId) (σ : Nat → Nat) (M : Mem) (a1 : Int32) (post : Int32 → Mem → Prop) (h : qX1_firstUnfit a1 M post) : Met l yX1_firstUnfit wsX1_firstUnfit rmX1_firstUnfit (preW D T LH σ [.ref (σ 2), .int a1] M) (postI D T LH σ post) 0 0 (fA LH σ) := by
  refine m_of (cc := cX1_firstUnfit) (maxL := 6) (ret := (some .int)) (own := RX1) (by decide) rfl rfl (Nat.le_of_ble_eq_true rfl) ?_
  intro p e s m args below meth c H ls locs S hr hlk hl hW
  have hl : lv_has ls 6 [(0, .ref (σ 2)), (1, .int a1)] := hl
  have w84 := cwV (R := rmX1_firstUnfit) (rm := rmX1_isLookedAt) (mc := 0) (ms := 0) 2 S.2.2.2.2 gX1_firstUnfit_X1_isLookedAt rfl rfl rfl (by decide +kernel) ⟨Nat.le_of_ble_eq_true rfl, Nat.le_of_ble_eq_true rfl⟩
  have w87 := cwV (R := rmX1_firstUnfit) (rm := rmX1_standing) (mc := 0) (ms := 0) 1 S.2.2.2.2 gX1_firstUnfit_X1_standing rfl rfl rfl (by decide +kernel) ⟨Nat.le_of_ble_eq_true rfl, Nat.le_of_ble_eq_true rfl⟩
  have w90 := cwV (R := rmX1_firstUnfit) (rm := rmX1_firstUnfitHour) (mc := 0) (ms := 0) 2 S.2.2.2.2 gX1_firstUnfit_X1_firstUnfitHour rfl rfl rfl (by decide +kernel) ⟨Nat.le_of_ble_eq_true rfl, Nat.le_of_ble_eq_true rfl⟩
  obtain ⟨R8, e8⟩ : ∃ R : Int32 → Int32 → Int32 → Mem → Prop, ∀ x2 x3 x4 M, R x2 x3 x4 M ↔ WW p l e rmX1_firstUnfit s m args below meth c D T LH σ 6 (MQ below (postI D T LH σ post) args s 0 0 (fA LH σ)) 8 [(0, .ref (σ 2)), (1, .int a1), (2, .int x2), (3, .int x3), (4, .int x4)] [] M := ⟨_, fun _ _ _ _ => Iff.rfl⟩
  have h := h R8
  have z8 : ∀ x2 x3 x4 M, qX1_firstUnfit_b8 a1 post R8 x2 x3 x4 M → R8 x2 x3 x4 M := by
    intro x2 x3 x4 M h
    refine (e8 _ _ _ _).mpr (fun H locs ls hW hl => ?_)
    refine lv_iload S.1 S.2.1 dX1_firstUnfit_8 (lv_at hl 4 rfl) ?_
    refine lv_bipush (v := 17) S.1 S.2.1 dX1_firstUnfit_10 rfl ?_
    refine lv_icmp_ge (tgt := 64) S.1 S.2.1 dX1_firstUnfit_12 (by decide) (fun c1 => ?_) (fun c1 => ?_)
    · have h := h.1 c1
      refine lv_iload_n S.1 S.2.1 dX1_firstUnfit_64 rfl (lv_at hl 2 rfl) ?_
      refine lv_bipush (v := 24) S.1 S.2.1 dX1_firstUnfit_65 rfl ?_
      refine lv_icmp_ne (tgt := 75) S.1 S.2.1 dX1_firstUnfit_67 (by decide) (fun c2 => ?_) (fun c2 => ?_)
      · have h := h.1 c2
        refine lv_bipush (v := 100) S.1 S.2.1 dX1_firstUnfit_75 rfl ?_
        refine lv_iload_n S.1 S.2.1 dX1_firstUnfit_77 rfl (lv_at hl 2 rfl) ?_
        refine lv_imul S.1 S.2.1 dX1_firstUnfit_78 ?_
        refine lv_iload_n S.1 S.2.1 dX1_firstUnfit_79 rfl (lv_at hl 3 rfl) ?_
        refine lv_iadd S.1 S.2.1 dX1_firstUnfit_80 ?_
        exact r_iret S hr hlk hW h dX1_firstUnfit_81
      · have h := h.2 c2
        refine lv_bipush (v := -2) S.1 S.2.1 dX1_firstUnfit_70 rfl ?_
        refine lv_goto (tgt := 81) S.1 S.2.1 dX1_firstUnfit_72 (by decide) ?_
        exact r_iret S hr hlk hW h dX1_firstUnfit_81
    · have h := h.2 c1
      refine lv_iload_n S.1 S.2.1 dX1_firstUnfit_15 rfl (lv_at hl 2 rfl) ?_
      refine lv_if_le (tgt := 64) S.1 S.2.1 dX1_firstUnfit_16 (by decide) (fun c3 => ?_) (fun c3 => ?_)
      · have h := h.1 c3
        refine lv_iload_n S.1 S.2.1 dX1_firstUnfit_64 rfl (lv_at hl 2 rfl) ?_
        refine lv_bipush (v := 24) S.1 S.2.1 dX1_firstUnfit_65 rfl ?_
        refine lv_icmp_ne (tgt := 75) S.1 S.2.1 dX1_firstUnfit_67 (by decide) (fun c4 => ?_) (fun c4 => ?_)
        · have h := h.1 c4
          refine lv_bipush (v := 100) S.1 S.2.1 dX1_firstUnfit_75 rfl ?_
          refine lv_iload_n S.1 S.2.1 dX1_firstUnfit_77 rfl (lv_at hl 2 rfl) ?_
          refine lv_imul S.1 S.2.1 dX1_firstUnfit_78 ?_
          refine lv_iload_n S.1 S.2.1 dX1_firstUnfit_79 rfl (lv_at hl 3 rfl) ?_
          refine lv_iadd S.1 S.2.1 dX1_firstUnfit_80 ?_
          exact r_iret S hr hlk hW h dX1_firstUnfit_81
        · have h := h.2 c4
          refine lv_bipush (v := -2) S.1 S.2.1 dX1_firstUnfit_70 rfl ?_
          refine lv_goto (tgt := 81) S.1 S.2.1 dX1_firstUnfit_72 (by decide) ?_
          exact r_iret S hr hlk hW h dX1_firstUnfit_81
      · have h := h.2 c3
        refine lv_aload_n S.1 S.2.1 dX1_firstUnfit_19 rfl (lv_at hl 0 rfl) ?_
        refine lv_iload S.1 S.2.1 dX1_firstUnfit_20 (lv_at hl 4 rfl) ?_
        refine lv_iload_n S.1 S.2.1 dX1_firstUnfit_22 rfl (lv_at hl 1 rfl) ?_
        refine r_goI (r_runV (rest := []) S hW (mX1_isLookedAt l D T σ M x4 a1 _ h) w84 rfl LH_2 rfl hl.1 rfl (Nat.le_of_ble_eq_true rfl) dX1_firstUnfit_23 ⟨Nat.zero_le _, Nat.zero_le _⟩) hW (fun r5 M6 H locs h hW => ?_)
        refine lv_if_eq (tgt := 58) S.1 S.2.1 dX1_firstUnfit_26 (by decide) (fun c7 => ?_) (fun c7 => ?_)
        · have h := h.1 c7
          obtain ⟨v8, ev8⟩ : ∃ y : Int32, y = x4 + 1 := ⟨_, rfl⟩
          have h := h v8 ev8
          refine lv_iinc (v := v8) (lv' := [(4, .int v8), (0, .ref (σ 2)), (1, .int a1), (2, .int x2), (3, .int x3)]) S.1 S.2.1 dX1_firstUnfit_58 hl (k := 4) rfl (by rw [ev8]; rfl) (by decide) rfl (fun ls hl => ?_)
          refine lv_goto (tgt := 8) S.1 S.2.1 dX1_firstUnfit_61 (by decide) ?_
          exact (e8 _ _ _ _).mp h H locs ls hW (lv_sub hl [1, 2, 3, 4, 0] rfl)
        · have h := h.2 c7
          refine lv_aload_n S.1 S.2.1 dX1_firstUnfit_29 rfl (lv_at hl 0 rfl) ?_
          refine lv_aload_n S.1 S.2.1 dX1_firstUnfit_30 rfl (lv_at hl 0 rfl) ?_
          refine lv_iload S.1 S.2.1 dX1_firstUnfit_31 (lv_at hl 4 rfl) ?_
          refine r_goI (r_runV (rest := [.ref (σ 2)]) S hW (mX1_standing l D T σ M6 x4 _ h) w87 rfl LH_2 rfl hl.1 rfl (Nat.le_of_ble_eq_true rfl) dX1_firstUnfit_33 ⟨Nat.zero_le _, Nat.zero_le _⟩) hW (fun r9 M10 H locs h hW => ?_)
          refine lv_iload_n S.1 S.2.1 dX1_firstUnfit_36 rfl (lv_at hl 2 rfl) ?_
          refine r_goI (r_runV (rest := []) S hW (mX1_firstUnfitHour l D T σ M10 r9 x2 _ h) w90 rfl LH_2 rfl hl.1 rfl (Nat.le_of_ble_eq_true rfl) dX1_firstUnfit_37 ⟨Nat.zero_le _, Nat.zero_le _⟩) hW (fun r11 M12 H locs h hW => ?_)
          refine lv_istore (lv' := [(5, .int r11), (0, .ref (σ 2)), (1, .int a1), (2, .int x2), (3, .int x3), (4, .int x4)]) S.1 S.2.1 dX1_firstUnfit_40 hl (by decide) rfl (fun ls hl => ?_)
          refine lv_iload S.1 S.2.1 dX1_firstUnfit_42 (lv_at hl 0 rfl) ?_
          refine lv_iload_n S.1 S.2.1 dX1_firstUnfit_44 rfl (lv_at hl 3 rfl) ?_
          refine lv_icmp_ge (tgt := 53) S.1 S.2.1 dX1_firstUnfit_45 (by decide) (fun c13 => ?_) (fun c13 => ?_)
          · have h := h.1 c13
            refine lv_iload_n S.1 S.2.1 dX1_firstUnfit_53 rfl (lv_at hl 4 rfl) ?_
            refine lv_istore_n (lv' := [(3, .int x3), (5, .int r11), (0, .ref (σ 2)), (1, .int a1), (2, .int x2), (4, .int x4)]) S.1 S.2.1 dX1_firstUnfit_54 rfl hl (by decide) rfl (fun ls hl => ?_)
            refine lv_iload S.1 S.2.1 dX1_firstUnfit_55 (lv_at hl 1 rfl) ?_
            refine lv_istore_n (lv' := [(2, .int r11), (3, .int x3), (5, .int r11), (0, .ref (σ 2)), (1, .int a1), (4, .int x4)]) S.1 S.2.1 dX1_firstUnfit_57 rfl hl (by decide) rfl (fun ls hl => ?_)
            obtain ⟨v14, ev14⟩ : ∃ y : Int32, y = x4 + 1 := ⟨_, rfl⟩
            have h := h v14 ev14
            refine lv_iinc (v := v14) (lv' := [(4, .int v14), (2, .int r11), (3, .int x3), (5, .int r11), (0, .ref (σ 2)), (1, .int a1)]) S.1 S.2.1 dX1_firstUnfit_58 hl (k := 5) rfl (by rw [ev14]; rfl) (by decide) rfl (fun ls hl => ?_)
            refine lv_goto (tgt := 8) S.1 S.2.1 dX1_firstUnfit_61 (by decide) ?_
            exact (e8 _ _ _ _).mp h H locs ls hW (lv_sub hl [4, 5, 1, 2, 0] rfl)
          · have h := h.2 c13
            refine lv_iload S.1 S.2.1 dX1_firstUnfit_48 (lv_at hl 5 rfl) ?_
            refine lv_goto (tgt := 54) S.1 S.2.1 dX1_firstUnfit_50 (by decide) ?_
            refine lv_istore_n (lv' := [(3, .int x4), (5, .int r11), (0, .ref (σ 2)), (1, .int a1), (2, .int x2), (4, .int x4)]) S.1 S.2.1 dX1_firstUnfit_54 rfl hl (by decide) rfl (fun ls hl => ?_)
            refine lv_iload S.1 S.2.1 dX1_firstUnfit_55 (lv_at hl 1 rfl) ?_
            refine lv_istore_n (lv' := [(2, .int r11), (3, .int x4), (5, .int r11), (0, .ref (σ 2)), (1, .int a1), (4, .int x4)]) S.1 S.2.1 dX1_firstUnfit_57 rfl hl (by decide) rfl (fun ls hl => ?_)
            obtain ⟨v15, ev15⟩ : ∃ y : Int32, y = x4 + 1 := ⟨_, rfl⟩
            have h := h v15 ev15
            refine lv_iinc (v := v15) (lv' := [(4, .int v15), (2, .int r11), (3, .int x4), (5, .int r11), (0, .ref (σ 2)), (1, .int a1)]) S.1 S.2.1 dX1_firstUnfit_58 hl (k := 5) rfl (by rw [ev15]; rfl) (by decide) rfl (fun ls hl => ?_)
            refine lv_goto (tgt := 8) S.1 S.2.1 dX1_firstUnfit_61 (by decide) ?_
            exact (e8 _ _ _ _).mp h H locs ls hW (lv_sub hl [4, 5, 1, 2, 0] rfl)
  have h := h z8
  refine lv_bipush (v := 24) S.1 S.2.1 dX1_firstUnfit_0 rfl ?_
  refine lv_istore_n (lv' := [(2, .int (24 : Int32)), (0, .ref (σ 2)), (1, .int a1)]) S.1 S.2.1 dX1_firstUnfit_2 rfl hl (by decide) rfl (fun ls hl => ?_)
  refine lv_iconst (v := 0) S.1 S.2.1 dX1_firstUnfit_3 rfl ?_
  refine lv_istore_n (lv' := [(3, .int (0 : Int32)), (2, .int (24 : Int32)), (0, .ref (σ 2)), (1, .int a1)]) S.1 S.2.1 dX1_firstUnfit_4 rfl hl (by decide) rfl (fun ls hl => ?_)
  refine lv_iconst (v := 0) S.1 S.2.1 dX1_firstUnfit_5 rfl ?_
  refine lv_istore (lv' := [(4, .int (0 : Int32)), (3, .int (0 : Int32)), (2, .int (24 : Int32)), (0, .ref (σ 2)), (1, .int a1)]) S.1 S.2.1 dX1_firstUnfit_6 hl (by decide) rfl (fun ls hl => ?_)
  exact (e8 _ _ _ _).mp h H locs ls hW (lv_sub hl [3, 4, 2, 1, 0] rfl)
abbrev rmX3_addBatch : Room := { frames := 1, cells := 0, slots := 0, locals := 20 }
set_option maxHeartbeats 4000000 in
set_option maxRecDepth 100000 in
theorem mX3_addBatch (l : Launch) (D : va_G) (T : Nat → ClassId) (σ : Nat → Nat) (M : Mem) (a1 : Int32) (a2 : Int32) (a3 : Int32) (a4 : Int32) (post : Int32 → Mem → Prop) (h : qX3_addBatch a1 a2 a3 a4 M post) : Met l yX3_addBatch wsX3_addBatch rmX3_addBatch (preW D T LH σ [.ref (σ 3), .int a1, .int a2, .int a3, .int a4] M) (postI D T LH σ post) 0 0 (fA LH σ) := by
  refine m_of (cc := cX3_addBatch) (maxL := 6) (ret := (some .int)) (own := RX3) (by decide) rfl rfl (Nat.le_of_ble_eq_true rfl) ?_
  intro p e s m args below meth c H ls locs S hr hlk hl hW
  have hl : lv_has ls 6 [(0, .ref (σ 3)), (1, .int a1), (2, .int a2), (3, .int a3), (4, .int a4)] := hl
  have inX3 : ∀ w ∈ u_ws RX3 TX3 9, w ∈ wsX3_addBatch := by decide +kernel
  have f42 := S.2.2.2.2 (.fieldLink RX3 42 "MachineHall$Plan" "batches" "I") (by decide +kernel)
  have f16 := S.2.2.2.2 (.fieldLink RX3 16 "MachineHall$Plan" "works" "[I") (by decide +kernel)
  have f20 := S.2.2.2.2 (.fieldLink RX3 20 "MachineHall$Plan" "froms" "[I") (by decide +kernel)
  have f23 := S.2.2.2.2 (.fieldLink RX3 23 "MachineHall$Plan" "dues" "[I") (by decide +kernel)
  have f26 := S.2.2.2.2 (.fieldLink RX3 26 "MachineHall$Plan" "mosts" "[I") (by decide +kernel)
  have w49 := cwV (R := rmX3_addBatch) (rm := rmX3_forget) (mc := 0) (ms := 0) 0 S.2.2.2.2 gX3_addBatch_X3_forget rfl rfl rfl (by decide +kernel) ⟨Nat.le_of_ble_eq_true rfl, Nat.le_of_ble_eq_true rfl⟩
  refine lv_aload_n S.1 S.2.1 dX3_addBatch_0 rfl (lv_at hl 0 rfl) ?_
  refine lv_dup S.1 S.2.1 dX3_addBatch_1 rfl ?_
  refine r_getI (j := 0) S hW inX3 rfl f42 rfl LH_3 (by decide) rfl dX3_addBatch_2 ?_
  refine lv_dup_x1 S.1 S.2.1 dX3_addBatch_5 rfl rfl ?_
  refine lv_iconst (v := 1) S.1 S.2.1 dX3_addBatch_6 rfl ?_
  refine lv_iadd S.1 S.2.1 dX3_addBatch_7 ?_
  refine r_putI (j := 0) S hW inX3 rfl f42 rfl LH_3 (by decide) rfl tyX3 tyX3_ok nmX3 rfl rfl rfl dX3_addBatch_8 (fun M1 H locs eM1 hW => ?_)
  have h := h M1 eM1
  refine lv_topi (fun v2 ev2 => ?_)
  have h := h v2 ev2
  refine lv_istore (lv' := [(5, .int v2), (0, .ref (σ 3)), (1, .int a1), (2, .int a2), (3, .int a3), (4, .int a4)]) S.1 S.2.1 dX3_addBatch_11 hl (by decide) rfl (fun ls hl => ?_)
  refine lv_aload_n S.1 S.2.1 dX3_addBatch_13 rfl (lv_at hl 1 rfl) ?_
  refine r_getR (j := 3) S hW inX3 rfl f16 rfl LH_3 (by decide) rfl dX3_addBatch_14 ?_
  refine lv_iload S.1 S.2.1 dX3_addBatch_17 (lv_at hl 0 rfl) ?_
  refine lv_iload_n S.1 S.2.1 dX3_addBatch_19 rfl (lv_at hl 2 rfl) ?_
  have b3 := h.1
  have h := h.2
  refine r_iast S hW LH_20 b3 dX3_addBatch_20 (fun M4 H locs eM4 hW => ?_)
  have h := h M4 eM4
  refine lv_aload_n S.1 S.2.1 dX3_addBatch_21 rfl (lv_at hl 1 rfl) ?_
  refine r_getR (j := 4) S hW inX3 rfl f20 rfl LH_3 (by decide) rfl dX3_addBatch_22 ?_
  refine lv_iload S.1 S.2.1 dX3_addBatch_25 (lv_at hl 0 rfl) ?_
  refine lv_iload_n S.1 S.2.1 dX3_addBatch_27 rfl (lv_at hl 3 rfl) ?_
  have b5 := h.1
  have h := h.2
  refine r_iast S hW LH_21 b5 dX3_addBatch_28 (fun M6 H locs eM6 hW => ?_)
  have h := h M6 eM6
  refine lv_aload_n S.1 S.2.1 dX3_addBatch_29 rfl (lv_at hl 1 rfl) ?_
  refine r_getR (j := 5) S hW inX3 rfl f23 rfl LH_3 (by decide) rfl dX3_addBatch_30 ?_
  refine lv_iload S.1 S.2.1 dX3_addBatch_33 (lv_at hl 0 rfl) ?_
  refine lv_iload_n S.1 S.2.1 dX3_addBatch_35 rfl (lv_at hl 4 rfl) ?_
  have b7 := h.1
  have h := h.2
  refine r_iast S hW LH_22 b7 dX3_addBatch_36 (fun M8 H locs eM8 hW => ?_)
  have h := h M8 eM8
  refine lv_aload_n S.1 S.2.1 dX3_addBatch_37 rfl (lv_at hl 1 rfl) ?_
  refine r_getR (j := 6) S hW inX3 rfl f26 rfl LH_3 (by decide) rfl dX3_addBatch_38 ?_
  refine lv_iload S.1 S.2.1 dX3_addBatch_41 (lv_at hl 0 rfl) ?_
  refine lv_iload S.1 S.2.1 dX3_addBatch_43 (lv_at hl 5 rfl) ?_
  have b9 := h.1
  have h := h.2
  refine r_iast S hW LH_23 b9 dX3_addBatch_45 (fun M10 H locs eM10 hW => ?_)
  have h := h M10 eM10
  refine lv_aload_n S.1 S.2.1 dX3_addBatch_46 rfl (lv_at hl 1 rfl) ?_
  refine r_goV (r_runV (rest := []) S hW (mX3_forget l D T σ M10 _ h) w49 rfl LH_3 rfl hl.1 rfl (Nat.le_of_ble_eq_true rfl) dX3_addBatch_47 ⟨Nat.zero_le _, Nat.zero_le _⟩) hW (fun M12 H locs h hW => ?_)
  refine lv_iload S.1 S.2.1 dX3_addBatch_50 (lv_at hl 0 rfl) ?_
  exact r_iret S hr hlk hW h dX3_addBatch_52
abbrev rmX0_empty : Room := { frames := 1, cells := 0, slots := 0, locals := 23 }
set_option maxHeartbeats 4000000 in
set_option maxRecDepth 100000 in
theorem mX0_empty (l : Launch) (D : va_G) (T : Nat → ClassId) (σ : Nat → Nat) (M : Mem)  (post : Mem → Prop) (h : qX0_empty M post) : Met l yX0_empty wsX0_empty rmX0_empty (preW D T LH σ [.ref (σ 6)] M) (postV D T LH σ post) 0 0 (fA LH σ) := by
  refine m_of (cc := cX0_empty) (maxL := 2) (ret := none) (own := RX0) (by decide) rfl rfl (Nat.le_of_ble_eq_true rfl) ?_
  intro p e s m args below meth c H ls locs S hr hlk hl hW
  have hl : lv_has ls 2 [(0, .ref (σ 6))] := hl
  have inX0 : ∀ w ∈ u_ws RX0 TX0 4, w ∈ wsX0_empty := by decide +kernel
  have f9 := S.2.2.2.2 (.fieldLink RX0 9 "MachineHall$Flow" "nodes" "I") (by decide +kernel)
  have f17 := S.2.2.2.2 (.fieldLink RX0 17 "MachineHall$Flow" "open" "[[I") (by decide +kernel)
  have w27 := va_cwS (R := rmX0_empty) (rm := rmJ7_fill_53178) (mc := 0) (ms := 0) 2 S.2.2.2.2 gX0_empty_J7_fill_53178 rfl rfl rfl (by decide +kernel) ⟨Nat.le_of_ble_eq_true rfl, Nat.le_of_ble_eq_true rfl⟩
  obtain ⟨R2, e2⟩ : ∃ R : Int32 → Mem → Prop, ∀ x1 M, R x1 M ↔ WW p l e rmX0_empty s m args below meth c D T LH σ 2 (MQ below (postV D T LH σ post) args s 0 0 (fA LH σ)) 2 [(0, .ref (σ 6)), (1, .int x1)] [] M := ⟨_, fun _ _ => Iff.rfl⟩
  have h := h R2
  have z2 : ∀ x1 M, qX0_empty_b2 post R2 x1 M → R2 x1 M := by
    intro x1 M h
    refine (e2 _ _).mpr (fun H locs ls hW hl => ?_)
    refine lv_iload_n S.1 S.2.1 dX0_empty_2 rfl (lv_at hl 1 rfl) ?_
    refine lv_aload_n S.1 S.2.1 dX0_empty_3 rfl (lv_at hl 0 rfl) ?_
    refine r_getI (j := 0) S hW inX0 rfl f9 rfl LH_6 (by decide) rfl dX0_empty_4 ?_
    refine lv_icmp_ge (tgt := 26) S.1 S.2.1 dX0_empty_7 (by decide) (fun c1 => ?_) (fun c1 => ?_)
    · have h := h.1 c1
      exact r_vret S hr hlk hW h dX0_empty_26
    · have h := h.2 c1
      refine lv_aload_n S.1 S.2.1 dX0_empty_10 rfl (lv_at hl 0 rfl) ?_
      refine r_getR (j := 1) S hW inX0 rfl f17 rfl LH_6 (by decide) rfl dX0_empty_11 ?_
      refine lv_iload_n S.1 S.2.1 dX0_empty_14 rfl (lv_at hl 1 rfl) ?_
      have b2 := h.1
      have h := h.2
      refine r_aald (t := 0) S hW LH_33 (by decide) b2 dX0_empty_15 ?_
      refine lv_iconst (v := 0) S.1 S.2.1 dX0_empty_16 rfl ?_
      refine r_goV (r_runS (rest := []) S hW (mJ7_fill_53178 l D T LH σ (66 + x1.toNatClampNeg) (LHr_33 (vp_lt b2))  M (0 : Int32) _ h) w27 rfl hl.1 rfl (Nat.le_of_ble_eq_true rfl) dX0_empty_17 ⟨Nat.zero_le _, Nat.zero_le _⟩) hW (fun M4 H locs h hW => ?_)
      obtain ⟨v5, ev5⟩ : ∃ y : Int32, y = x1 + 1 := ⟨_, rfl⟩
      have h := h v5 ev5
      refine lv_iinc (v := v5) (lv' := [(1, .int v5), (0, .ref (σ 6))]) S.1 S.2.1 dX0_empty_20 hl (k := 1) rfl (by rw [ev5]; rfl) (by decide) rfl (fun ls hl => ?_)
      refine lv_goto (tgt := 2) S.1 S.2.1 dX0_empty_23 (by decide) ?_
      exact (e2 _ _).mp h H locs ls hW (lv_sub hl [1, 0] rfl)
  have h := h z2
  refine lv_iconst (v := 0) S.1 S.2.1 dX0_empty_0 rfl ?_
  refine lv_istore_n (lv' := [(1, .int (0 : Int32)), (0, .ref (σ 6))]) S.1 S.2.1 dX0_empty_1 rfl hl (by decide) rfl (fun ls hl => ?_)
  exact (e2 _ _).mp h H locs ls hW (lv_sub hl [1, 0] rfl)
abbrev rmX0_pipe : Room := { frames := 0, cells := 0, slots := 0, locals := 0 }
set_option maxHeartbeats 4000000 in
set_option maxRecDepth 100000 in
theorem mX0_pipe (l : Launch) (D : va_G) (T : Nat → ClassId) (σ : Nat → Nat) (M : Mem) (a1 : Int32) (a2 : Int32) (a3 : Int32) (post : Mem → Prop) (h : qX0_pipe a1 a2 a3 M post) : Met l yX0_pipe wsX0_pipe rmX0_pipe (preW D T LH σ [.ref (σ 6), .int a1, .int a2, .int a3] M) (postV D T LH σ post) 0 0 (fA LH σ) := by
  refine m_of (cc := cX0_pipe) (maxL := 4) (ret := none) (own := RX0) (by decide) rfl rfl (Nat.le_of_ble_eq_true rfl) ?_
  intro p e s m args below meth c H ls locs S hr hlk hl hW
  have hl : lv_has ls 4 [(0, .ref (σ 6)), (1, .int a1), (2, .int a2), (3, .int a3)] := hl
  have inX0 : ∀ w ∈ u_ws RX0 TX0 4, w ∈ wsX0_pipe := by decide +kernel
  have f17 := S.2.2.2.2 (.fieldLink RX0 17 "MachineHall$Flow" "open" "[[I") (by decide +kernel)
  refine lv_aload_n S.1 S.2.1 dX0_pipe_0 rfl (lv_at hl 0 rfl) ?_
  refine r_getR (j := 1) S hW inX0 rfl f17 rfl LH_6 (by decide) rfl dX0_pipe_1 ?_
  refine lv_iload_n S.1 S.2.1 dX0_pipe_4 rfl (lv_at hl 1 rfl) ?_
  have b1 := h.1
  have h := h.2
  refine r_aald (t := 0) S hW LH_33 (by decide) b1 dX0_pipe_5 ?_
  refine lv_iload_n S.1 S.2.1 dX0_pipe_6 rfl (lv_at hl 2 rfl) ?_
  refine lv_iload_n S.1 S.2.1 dX0_pipe_7 rfl (lv_at hl 3 rfl) ?_
  have b2 := h.1
  have h := h.2
  refine r_iast S hW (LHr_33 (vp_lt b1)) b2 dX0_pipe_8 (fun M3 H locs eM3 hW => ?_)
  have h := h M3 eM3
  exact r_vret S hr hlk hW h dX0_pipe_9
abbrev rmX3_layPipes : Room := { frames := 4, cells := 0, slots := 0, locals := 92 }
set_option maxHeartbeats 4000000 in
set_option maxRecDepth 100000 in
theorem mX3_layPipes (l : Launch) (D : va_G) (T : Nat → ClassId) (σ : Nat → Nat) (M : Mem) (a2 : Int32) (post : Int32 → Mem → Prop) (h : qX3_layPipes a2 M post) : Met l yX3_layPipes wsX3_layPipes rmX3_layPipes (preW D T LH σ [.ref (σ 3), .ref (σ 2), .int a2] M) (postI D T LH σ post) 0 0 (fA LH σ) := by
  refine m_of (cc := cX3_layPipes) (maxL := 6) (ret := (some .int)) (own := RX3) (by decide) rfl rfl (Nat.le_of_ble_eq_true rfl) ?_
  intro p e s m args below meth c H ls locs S hr hlk hl hW
  have hl : lv_has ls 6 [(0, .ref (σ 3)), (1, .ref (σ 2)), (2, .int a2)] := hl
  have inX3 : ∀ w ∈ u_ws RX3 TX3 9, w ∈ wsX3_layPipes := by decide +kernel
  have f34 := S.2.2.2.2 (.fieldLink RX3 34 "MachineHall$Plan" "flow" "LMachineHall$Flow;") (by decide +kernel)
  have w66 := cwV (R := rmX3_layPipes) (rm := rmX0_empty) (mc := 0) (ms := 0) 0 S.2.2.2.2 gX3_layPipes_X0_empty rfl rfl rfl (by decide +kernel) ⟨Nat.le_of_ble_eq_true rfl, Nat.le_of_ble_eq_true rfl⟩
  have f42 := S.2.2.2.2 (.fieldLink RX3 42 "MachineHall$Plan" "batches" "I") (by decide +kernel)
  have f16 := S.2.2.2.2 (.fieldLink RX3 16 "MachineHall$Plan" "works" "[I") (by decide +kernel)
  have w69 := cwV (R := rmX3_layPipes) (rm := rmX0_pipe) (mc := 0) (ms := 0) 3 S.2.2.2.2 gX3_layPipes_X0_pipe rfl rfl rfl (by decide +kernel) ⟨Nat.le_of_ble_eq_true rfl, Nat.le_of_ble_eq_true rfl⟩
  have f20 := S.2.2.2.2 (.fieldLink RX3 20 "MachineHall$Plan" "froms" "[I") (by decide +kernel)
  have f23 := S.2.2.2.2 (.fieldLink RX3 23 "MachineHall$Plan" "dues" "[I") (by decide +kernel)
  have f26 := S.2.2.2.2 (.fieldLink RX3 26 "MachineHall$Plan" "mosts" "[I") (by decide +kernel)
  have w73 := cwV (R := rmX3_layPipes) (rm := rmX1_leftOver) (mc := 0) (ms := 0) 2 S.2.2.2.2 gX3_layPipes_X1_leftOver rfl rfl rfl (by decide +kernel) ⟨Nat.le_of_ble_eq_true rfl, Nat.le_of_ble_eq_true rfl⟩
  obtain ⟨R12, e12⟩ : ∃ R : Int32 → Int32 → Mem → Prop, ∀ x3 x4 M, R x3 x4 M ↔ WW p l e rmX3_layPipes s m args below meth c D T LH σ 6 (MQ below (postI D T LH σ post) args s 0 0 (fA LH σ)) 12 [(0, .ref (σ 3)), (1, .ref (σ 2)), (2, .int a2), (3, .int x3), (4, .int x4)] [] M := ⟨_, fun _ _ _ => Iff.rfl⟩
  obtain ⟨R58, e58⟩ : ∃ R : Int32 → Int32 → Int32 → Mem → Prop, ∀ x3 x4 x5 M, R x3 x4 x5 M ↔ WW p l e rmX3_layPipes s m args below meth c D T LH σ 6 (MQ below (postI D T LH σ post) args s 0 0 (fA LH σ)) 58 [(0, .ref (σ 3)), (1, .ref (σ 2)), (2, .int a2), (3, .int x3), (4, .int x4), (5, .int x5)] [] M := ⟨_, fun _ _ _ _ => Iff.rfl⟩
  obtain ⟨R106, e106⟩ : ∃ R : Int32 → Int32 → Mem → Prop, ∀ x3 x4 M, R x3 x4 M ↔ WW p l e rmX3_layPipes s m args below meth c D T LH σ 6 (MQ below (postI D T LH σ post) args s 0 0 (fA LH σ)) 106 [(0, .ref (σ 3)), (1, .ref (σ 2)), (2, .int a2), (3, .int x3), (4, .int x4)] [] M := ⟨_, fun _ _ _ => Iff.rfl⟩
  have h := h R12 R58 R106
  have z12 : ∀ x3 x4 M, qX3_layPipes_b12 a2 post R12 R58 R106 x3 x4 M → R12 x3 x4 M := by
    intro x3 x4 M h
    refine (e12 _ _ _).mpr (fun H locs ls hW hl => ?_)
    refine lv_iload S.1 S.2.1 dX3_layPipes_12 (lv_at hl 4 rfl) ?_
    refine lv_aload_n S.1 S.2.1 dX3_layPipes_14 rfl (lv_at hl 0 rfl) ?_
    refine r_getI (j := 0) S hW inX3 rfl f42 rfl LH_3 (by decide) rfl dX3_layPipes_15 ?_
    refine lv_icmp_ge (tgt := 103) S.1 S.2.1 dX3_layPipes_18 (by decide) (fun c3 => ?_) (fun c3 => ?_)
    · have h := h.1 c3
      refine lv_iconst (v := 0) S.1 S.2.1 dX3_layPipes_103 rfl ?_
      refine lv_istore (lv' := [(4, .int (0 : Int32)), (0, .ref (σ 3)), (1, .ref (σ 2)), (2, .int a2), (3, .int x3)]) S.1 S.2.1 dX3_layPipes_104 hl (by decide) rfl (fun ls hl => ?_)
      exact (e106 _ _ _).mp h H locs ls hW (lv_sub hl [1, 2, 3, 4, 0] rfl)
    · have h := h.2 c3
      refine lv_iload_n S.1 S.2.1 dX3_layPipes_21 rfl (lv_at hl 3 rfl) ?_
      refine lv_aload_n S.1 S.2.1 dX3_layPipes_22 rfl (lv_at hl 0 rfl) ?_
      refine r_getR (j := 3) S hW inX3 rfl f16 rfl LH_3 (by decide) rfl dX3_layPipes_23 ?_
      refine lv_iload S.1 S.2.1 dX3_layPipes_26 (lv_at hl 4 rfl) ?_
      have b4 := h.1
      have h := h.2
      refine r_iald S hW LH_20 b4 dX3_layPipes_28 ?_
      refine lv_iadd S.1 S.2.1 dX3_layPipes_29 ?_
      refine lv_topi (fun v5 ev5 => ?_)
      have h := h v5 ev5
      refine lv_istore_n (lv' := [(3, .int v5), (0, .ref (σ 3)), (1, .ref (σ 2)), (2, .int a2), (4, .int x4)]) S.1 S.2.1 dX3_layPipes_30 rfl hl (by decide) rfl (fun ls hl => ?_)
      refine lv_aload_n S.1 S.2.1 dX3_layPipes_31 rfl (lv_at hl 1 rfl) ?_
      refine r_getR (j := 7) S hW inX3 rfl f34 rfl LH_3 (by decide) rfl dX3_layPipes_32 ?_
      refine lv_bipush (v := 32) S.1 S.2.1 dX3_layPipes_35 rfl ?_
      refine lv_iload S.1 S.2.1 dX3_layPipes_37 (lv_at hl 4 rfl) ?_
      refine lv_aload_n S.1 S.2.1 dX3_layPipes_39 rfl (lv_at hl 1 rfl) ?_
      refine r_getR (j := 3) S hW inX3 rfl f16 rfl LH_3 (by decide) rfl dX3_layPipes_40 ?_
      refine lv_iload S.1 S.2.1 dX3_layPipes_43 (lv_at hl 4 rfl) ?_
      have b6 := h.1
      have h := h.2
      refine r_iald S hW LH_20 b6 dX3_layPipes_45 ?_
      refine r_goV (r_runV (rest := []) S hW (mX0_pipe l D T σ M (32 : Int32) x4 (M.1 20 x4.toNatClampNeg) _ h) w69 rfl LH_6 rfl hl.1 rfl (Nat.le_of_ble_eq_true rfl) dX3_layPipes_46 ⟨Nat.zero_le _, Nat.zero_le _⟩) hW (fun M8 H locs h hW => ?_)
      refine lv_aload_n S.1 S.2.1 dX3_layPipes_49 rfl (lv_at hl 1 rfl) ?_
      refine r_getR (j := 4) S hW inX3 rfl f20 rfl LH_3 (by decide) rfl dX3_layPipes_50 ?_
      refine lv_iload S.1 S.2.1 dX3_layPipes_53 (lv_at hl 4 rfl) ?_
      have b9 := h.1
      have h := h.2
      refine r_iald S hW LH_21 b9 dX3_layPipes_55 ?_
      refine lv_topi (fun v10 ev10 => ?_)
      have h := h v10 ev10
      refine lv_istore (lv' := [(5, .int v10), (3, .int v5), (0, .ref (σ 3)), (1, .ref (σ 2)), (2, .int a2), (4, .int x4)]) S.1 S.2.1 dX3_layPipes_56 hl (by decide) rfl (fun ls hl => ?_)
      exact (e58 _ _ _ _).mp h H locs ls hW (lv_sub hl [2, 3, 4, 1, 5, 0] rfl)
  have z58 : ∀ x3 x4 x5 M, qX3_layPipes_b58 a2 post R12 R58 R106 x3 x4 x5 M → R58 x3 x4 x5 M := by
    intro x3 x4 x5 M h
    refine (e58 _ _ _ _).mpr (fun H locs ls hW hl => ?_)
    refine lv_iload S.1 S.2.1 dX3_layPipes_58 (lv_at hl 5 rfl) ?_
    refine lv_aload_n S.1 S.2.1 dX3_layPipes_60 rfl (lv_at hl 0 rfl) ?_
    refine r_getR (j := 5) S hW inX3 rfl f23 rfl LH_3 (by decide) rfl dX3_layPipes_61 ?_
    refine lv_iload S.1 S.2.1 dX3_layPipes_64 (lv_at hl 4 rfl) ?_
    have b11 := h.1
    have h := h.2
    refine r_iald S hW LH_22 b11 dX3_layPipes_66 ?_
    refine lv_icmp_ge (tgt := 97) S.1 S.2.1 dX3_layPipes_67 (by decide) (fun c12 => ?_) (fun c12 => ?_)
    · have h := h.1 c12
      obtain ⟨v13, ev13⟩ : ∃ y : Int32, y = x4 + 1 := ⟨_, rfl⟩
      have h := h v13 ev13
      refine lv_iinc (v := v13) (lv' := [(4, .int v13), (0, .ref (σ 3)), (1, .ref (σ 2)), (2, .int a2), (3, .int x3), (5, .int x5)]) S.1 S.2.1 dX3_layPipes_97 hl (k := 4) rfl (by rw [ev13]; rfl) (by decide) rfl (fun ls hl => ?_)
      refine lv_goto (tgt := 12) S.1 S.2.1 dX3_layPipes_100 (by decide) ?_
      exact (e12 _ _ _).mp h H locs ls hW (lv_sub hl [1, 2, 3, 4, 0] rfl)
    · have h := h.2 c12
      refine lv_aload_n S.1 S.2.1 dX3_layPipes_70 rfl (lv_at hl 0 rfl) ?_
      refine r_getR (j := 7) S hW inX3 rfl f34 rfl LH_3 (by decide) rfl dX3_layPipes_71 ?_
      refine lv_iload S.1 S.2.1 dX3_layPipes_74 (lv_at hl 4 rfl) ?_
      refine lv_bipush (v := 8) S.1 S.2.1 dX3_layPipes_76 rfl ?_
      refine lv_iload S.1 S.2.1 dX3_layPipes_78 (lv_at hl 5 rfl) ?_
      refine lv_iadd S.1 S.2.1 dX3_layPipes_80 ?_
      refine lv_aload_n S.1 S.2.1 dX3_layPipes_81 rfl (lv_at hl 0 rfl) ?_
      refine r_getR (j := 6) S hW inX3 rfl f26 rfl LH_3 (by decide) rfl dX3_layPipes_82 ?_
      refine lv_iload S.1 S.2.1 dX3_layPipes_85 (lv_at hl 4 rfl) ?_
      have b14 := h.1
      have h := h.2
      refine r_iald S hW LH_23 b14 dX3_layPipes_87 ?_
      refine r_goV (r_runV (rest := []) S hW (mX0_pipe l D T σ M x4 ((8 : Int32) + x5) (M.1 23 x4.toNatClampNeg) _ h) w69 rfl LH_6 rfl hl.1 rfl (Nat.le_of_ble_eq_true rfl) dX3_layPipes_88 ⟨Nat.zero_le _, Nat.zero_le _⟩) hW (fun M16 H locs h hW => ?_)
      obtain ⟨v17, ev17⟩ : ∃ y : Int32, y = x5 + 1 := ⟨_, rfl⟩
      have h := h v17 ev17
      refine lv_iinc (v := v17) (lv' := [(5, .int v17), (0, .ref (σ 3)), (1, .ref (σ 2)), (2, .int a2), (3, .int x3), (4, .int x4)]) S.1 S.2.1 dX3_layPipes_91 hl (k := 5) rfl (by rw [ev17]; rfl) (by decide) rfl (fun ls hl => ?_)
      refine lv_goto (tgt := 58) S.1 S.2.1 dX3_layPipes_94 (by decide) ?_
      exact (e58 _ _ _ _).mp h H locs ls hW (lv_sub hl [1, 2, 3, 4, 5, 0] rfl)
  have z106 : ∀ x3 x4 M, qX3_layPipes_b106 a2 post R12 R58 R106 x3 x4 M → R106 x3 x4 M := by
    intro x3 x4 M h
    refine (e106 _ _ _).mpr (fun H locs ls hW hl => ?_)
    refine lv_iload S.1 S.2.1 dX3_layPipes_106 (lv_at hl 4 rfl) ?_
    refine lv_bipush (v := 24) S.1 S.2.1 dX3_layPipes_108 rfl ?_
    refine lv_icmp_ge (tgt := 140) S.1 S.2.1 dX3_layPipes_110 (by decide) (fun c18 => ?_) (fun c18 => ?_)
    · have h := h.1 c18
      refine lv_iload_n S.1 S.2.1 dX3_layPipes_140 rfl (lv_at hl 3 rfl) ?_
      exact r_iret S hr hlk hW h dX3_layPipes_141
    · have h := h.2 c18
      refine lv_aload_n S.1 S.2.1 dX3_layPipes_113 rfl (lv_at hl 0 rfl) ?_
      refine r_getR (j := 7) S hW inX3 rfl f34 rfl LH_3 (by decide) rfl dX3_layPipes_114 ?_
      refine lv_bipush (v := 8) S.1 S.2.1 dX3_layPipes_117 rfl ?_
      refine lv_iload S.1 S.2.1 dX3_layPipes_119 (lv_at hl 4 rfl) ?_
      refine lv_iadd S.1 S.2.1 dX3_layPipes_121 ?_
      refine lv_bipush (v := 33) S.1 S.2.1 dX3_layPipes_122 rfl ?_
      refine lv_aload_n S.1 S.2.1 dX3_layPipes_124 rfl (lv_at hl 1 rfl) ?_
      refine lv_iload S.1 S.2.1 dX3_layPipes_125 (lv_at hl 4 rfl) ?_
      refine lv_iload_n S.1 S.2.1 dX3_layPipes_127 rfl (lv_at hl 2 rfl) ?_
      refine r_goI (r_runV (rest := [.int (33 : Int32), .int ((8 : Int32) + x4), .ref (σ 6)]) S hW (mX1_leftOver l D T σ M x4 a2 _ h) w73 rfl LH_2 rfl hl.1 rfl (Nat.le_of_ble_eq_true rfl) dX3_layPipes_128 ⟨Nat.zero_le _, Nat.zero_le _⟩) hW (fun r19 M20 H locs h hW => ?_)
      refine r_goV (r_runV (rest := []) S hW (mX0_pipe l D T σ M20 ((8 : Int32) + x4) (33 : Int32) r19 _ h) w69 rfl LH_6 rfl hl.1 rfl (Nat.le_of_ble_eq_true rfl) dX3_layPipes_131 ⟨Nat.zero_le _, Nat.zero_le _⟩) hW (fun M22 H locs h hW => ?_)
      obtain ⟨v23, ev23⟩ : ∃ y : Int32, y = x4 + 1 := ⟨_, rfl⟩
      have h := h v23 ev23
      refine lv_iinc (v := v23) (lv' := [(4, .int v23), (0, .ref (σ 3)), (1, .ref (σ 2)), (2, .int a2), (3, .int x3)]) S.1 S.2.1 dX3_layPipes_134 hl (k := 4) rfl (by rw [ev23]; rfl) (by decide) rfl (fun ls hl => ?_)
      refine lv_goto (tgt := 106) S.1 S.2.1 dX3_layPipes_137 (by decide) ?_
      exact (e106 _ _ _).mp h H locs ls hW (lv_sub hl [1, 2, 3, 4, 0] rfl)
  have h := h z12 z58 z106
  refine lv_iconst (v := 0) S.1 S.2.1 dX3_layPipes_0 rfl ?_
  refine lv_istore_n (lv' := [(3, .int (0 : Int32)), (0, .ref (σ 3)), (1, .ref (σ 2)), (2, .int a2)]) S.1 S.2.1 dX3_layPipes_1 rfl hl (by decide) rfl (fun ls hl => ?_)
  refine lv_aload_n S.1 S.2.1 dX3_layPipes_2 rfl (lv_at hl 1 rfl) ?_
  refine r_getR (j := 7) S hW inX3 rfl f34 rfl LH_3 (by decide) rfl dX3_layPipes_3 ?_
  refine r_goV (r_runV (rest := []) S hW (mX0_empty l D T σ M _ h) w66 rfl LH_6 rfl hl.1 rfl (Nat.le_of_ble_eq_true rfl) dX3_layPipes_6 ⟨Nat.zero_le _, Nat.zero_le _⟩) hW (fun M2 H locs h hW => ?_)
  refine lv_iconst (v := 0) S.1 S.2.1 dX3_layPipes_9 rfl ?_
  refine lv_istore (lv' := [(4, .int (0 : Int32)), (3, .int (0 : Int32)), (0, .ref (σ 3)), (1, .ref (σ 2)), (2, .int a2)]) S.1 S.2.1 dX3_layPipes_10 hl (by decide) rfl (fun ls hl => ?_)
  exact (e12 _ _ _).mp h H locs ls hW (lv_sub hl [2, 3, 4, 1, 0] rfl)
abbrev rmX0_findWay : Room := { frames := 1, cells := 0, slots := 0, locals := 23 }
set_option maxHeartbeats 4000000 in
set_option maxRecDepth 100000 in
theorem mX0_findWay (l : Launch) (D : va_G) (T : Nat → ClassId) (σ : Nat → Nat) (M : Mem) (a1 : Int32) (a2 : Int32) (post : Int32 → Mem → Prop) (h : qX0_findWay a1 a2 M post) : Met l yX0_findWay wsX0_findWay rmX0_findWay (preW D T LH σ [.ref (σ 6), .int a1, .int a2] M) (postI D T LH σ post) 0 0 (fA LH σ) := by
  refine m_of (cc := cX0_findWay) (maxL := 7) (ret := (some .boolean)) (own := RX0) (by decide) rfl rfl (Nat.le_of_ble_eq_true rfl) ?_
  intro p e s m args below meth c H ls locs S hr hlk hl hW
  have hl : lv_has ls 7 [(0, .ref (σ 6)), (1, .int a1), (2, .int a2)] := hl
  have inX0 : ∀ w ∈ u_ws RX0 TX0 4, w ∈ wsX0_findWay := by decide +kernel
  have f20 := S.2.2.2.2 (.fieldLink RX0 20 "MachineHall$Flow" "cameFrom" "[I") (by decide +kernel)
  have w27 := va_cwS (R := rmX0_findWay) (rm := rmJ7_fill_53178) (mc := 0) (ms := 0) 2 S.2.2.2.2 gX0_findWay_J7_fill_53178 rfl rfl rfl (by decide +kernel) ⟨Nat.le_of_ble_eq_true rfl, Nat.le_of_ble_eq_true rfl⟩
  have f24 := S.2.2.2.2 (.fieldLink RX0 24 "MachineHall$Flow" "reached" "[I") (by decide +kernel)
  have f9 := S.2.2.2.2 (.fieldLink RX0 9 "MachineHall$Flow" "nodes" "I") (by decide +kernel)
  have f17 := S.2.2.2.2 (.fieldLink RX0 17 "MachineHall$Flow" "open" "[[I") (by decide +kernel)
  obtain ⟨R27, e27⟩ : ∃ R : Int32 → Int32 → Mem → Prop, ∀ x3 x4 M, R x3 x4 M ↔ WW p l e rmX0_findWay s m args below meth c D T LH σ 7 (MQ below (postI D T LH σ post) args s 0 0 (fA LH σ)) 27 [(0, .ref (σ 6)), (2, .int a2), (3, .int x3), (4, .int x4)] [] M := ⟨_, fun _ _ _ => Iff.rfl⟩
  obtain ⟨R54, e54⟩ : ∃ R : Int32 → Int32 → Int32 → Int32 → Mem → Prop, ∀ x3 x4 x5 x6 M, R x3 x4 x5 x6 M ↔ WW p l e rmX0_findWay s m args below meth c D T LH σ 7 (MQ below (postI D T LH σ post) args s 0 0 (fA LH σ)) 54 [(0, .ref (σ 6)), (2, .int a2), (3, .int x3), (4, .int x4), (5, .int x5), (6, .int x6)] [] M := ⟨_, fun _ _ _ _ _ => Iff.rfl⟩
  have h := h R27 R54
  have z27 : ∀ x3 x4 M, qX0_findWay_b27 a1 a2 post R27 R54 x3 x4 M → R27 x3 x4 M := by
    intro x3 x4 M h
    refine (e27 _ _ _).mpr (fun H locs ls hW hl => ?_)
    refine lv_iload S.1 S.2.1 dX0_findWay_27 (lv_at hl 3 rfl) ?_
    refine lv_iload_n S.1 S.2.1 dX0_findWay_29 rfl (lv_at hl 2 rfl) ?_
    refine lv_icmp_ge (tgt := 131) S.1 S.2.1 dX0_findWay_30 (by decide) (fun c7 => ?_) (fun c7 => ?_)
    · have h := h.1 c7
      refine lv_iconst (v := 0) S.1 S.2.1 dX0_findWay_131 rfl ?_
      exact r_zret S hr hlk hW rfl h dX0_findWay_132
    · have h := h.2 c7
      refine lv_iload S.1 S.2.1 dX0_findWay_33 (lv_at hl 3 rfl) ?_
      refine lv_aload_n S.1 S.2.1 dX0_findWay_35 rfl (lv_at hl 0 rfl) ?_
      refine r_getI (j := 0) S hW inX0 rfl f9 rfl LH_6 (by decide) rfl dX0_findWay_36 ?_
      refine lv_icmp_ge (tgt := 131) S.1 S.2.1 dX0_findWay_39 (by decide) (fun c8 => ?_) (fun c8 => ?_)
      · have h := h.1 c8
        refine lv_iconst (v := 0) S.1 S.2.1 dX0_findWay_131 rfl ?_
        exact r_zret S hr hlk hW rfl h dX0_findWay_132
      · have h := h.2 c8
        refine lv_aload_n S.1 S.2.1 dX0_findWay_42 rfl (lv_at hl 0 rfl) ?_
        refine r_getR (j := 3) S hW inX0 rfl f24 rfl LH_6 (by decide) rfl dX0_findWay_43 ?_
        refine lv_iload S.1 S.2.1 dX0_findWay_46 (lv_at hl 3 rfl) ?_
        have b9 := h.1
        have h := h.2
        refine r_iald S hW LH_35 b9 dX0_findWay_48 ?_
        refine lv_topi (fun v10 ev10 => ?_)
        have h := h v10 ev10
        refine lv_istore (lv' := [(5, .int v10), (0, .ref (σ 6)), (2, .int a2), (3, .int x3), (4, .int x4)]) S.1 S.2.1 dX0_findWay_49 hl (by decide) rfl (fun ls hl => ?_)
        refine lv_iconst (v := 0) S.1 S.2.1 dX0_findWay_51 rfl ?_
        refine lv_istore (lv' := [(6, .int (0 : Int32)), (5, .int v10), (0, .ref (σ 6)), (2, .int a2), (3, .int x3), (4, .int x4)]) S.1 S.2.1 dX0_findWay_52 hl (by decide) rfl (fun ls hl => ?_)
        exact (e54 _ _ _ _ _).mp h H locs ls hW (lv_sub hl [2, 3, 4, 5, 1, 0] rfl)
  have z54 : ∀ x3 x4 x5 x6 M, qX0_findWay_b54 a1 a2 post R27 R54 x3 x4 x5 x6 M → R54 x3 x4 x5 x6 M := by
    intro x3 x4 x5 x6 M h
    refine (e54 _ _ _ _ _).mpr (fun H locs ls hW hl => ?_)
    refine lv_iload S.1 S.2.1 dX0_findWay_54 (lv_at hl 5 rfl) ?_
    refine lv_aload_n S.1 S.2.1 dX0_findWay_56 rfl (lv_at hl 0 rfl) ?_
    refine r_getI (j := 0) S hW inX0 rfl f9 rfl LH_6 (by decide) rfl dX0_findWay_57 ?_
    refine lv_icmp_ge (tgt := 113) S.1 S.2.1 dX0_findWay_60 (by decide) (fun c11 => ?_) (fun c11 => ?_)
    · have h := h.1 c11
      refine lv_aload_n S.1 S.2.1 dX0_findWay_113 rfl (lv_at hl 0 rfl) ?_
      refine r_getR (j := 2) S hW inX0 rfl f20 rfl LH_6 (by decide) rfl dX0_findWay_114 ?_
      refine lv_iload_n S.1 S.2.1 dX0_findWay_117 rfl (lv_at hl 1 rfl) ?_
      have b12 := h.1
      have h := h.2
      refine r_iald S hW LH_34 b12 dX0_findWay_118 ?_
      refine lv_iconst (v := -1) S.1 S.2.1 dX0_findWay_119 rfl ?_
      refine lv_icmp_eq (tgt := 125) S.1 S.2.1 dX0_findWay_120 (by decide) (fun c13 => ?_) (fun c13 => ?_)
      · have h := h.1 c13
        obtain ⟨v14, ev14⟩ : ∃ y : Int32, y = x4 + 1 := ⟨_, rfl⟩
        have h := h v14 ev14
        refine lv_iinc (v := v14) (lv' := [(4, .int v14), (0, .ref (σ 6)), (2, .int a2), (3, .int x3), (5, .int x5), (6, .int x6)]) S.1 S.2.1 dX0_findWay_125 hl (k := 3) rfl (by rw [ev14]; rfl) (by decide) rfl (fun ls hl => ?_)
        refine lv_goto (tgt := 27) S.1 S.2.1 dX0_findWay_128 (by decide) ?_
        exact (e27 _ _ _).mp h H locs ls hW (lv_sub hl [1, 2, 3, 0] rfl)
      · have h := h.2 c13
        refine lv_iconst (v := 1) S.1 S.2.1 dX0_findWay_123 rfl ?_
        exact r_zret S hr hlk hW rfl h dX0_findWay_124
    · have h := h.2 c11
      refine lv_aload_n S.1 S.2.1 dX0_findWay_63 rfl (lv_at hl 0 rfl) ?_
      refine r_getR (j := 1) S hW inX0 rfl f17 rfl LH_6 (by decide) rfl dX0_findWay_64 ?_
      refine lv_iload S.1 S.2.1 dX0_findWay_67 (lv_at hl 4 rfl) ?_
      have b15 := h.1
      have h := h.2
      refine r_aald (t := 0) S hW LH_33 (by decide) b15 dX0_findWay_69 ?_
      refine lv_iload S.1 S.2.1 dX0_findWay_70 (lv_at hl 5 rfl) ?_
      have b16 := h.1
      have h := h.2
      refine r_iald S hW (LHr_33 (vp_lt b15)) b16 dX0_findWay_72 ?_
      refine lv_if_le (tgt := 107) S.1 S.2.1 dX0_findWay_73 (by decide) (fun c17 => ?_) (fun c17 => ?_)
      · have h := h.1 c17
        obtain ⟨v18, ev18⟩ : ∃ y : Int32, y = x6 + 1 := ⟨_, rfl⟩
        have h := h v18 ev18
        refine lv_iinc (v := v18) (lv' := [(6, .int v18), (0, .ref (σ 6)), (2, .int a2), (3, .int x3), (4, .int x4), (5, .int x5)]) S.1 S.2.1 dX0_findWay_107 hl (k := 5) rfl (by rw [ev18]; rfl) (by decide) rfl (fun ls hl => ?_)
        refine lv_goto (tgt := 54) S.1 S.2.1 dX0_findWay_110 (by decide) ?_
        exact (e54 _ _ _ _ _).mp h H locs ls hW (lv_sub hl [1, 2, 3, 4, 5, 0] rfl)
      · have h := h.2 c17
        refine lv_aload_n S.1 S.2.1 dX0_findWay_76 rfl (lv_at hl 0 rfl) ?_
        refine r_getR (j := 2) S hW inX0 rfl f20 rfl LH_6 (by decide) rfl dX0_findWay_77 ?_
        refine lv_iload S.1 S.2.1 dX0_findWay_80 (lv_at hl 5 rfl) ?_
        have b19 := h.1
        have h := h.2
        refine r_iald S hW LH_34 b19 dX0_findWay_82 ?_
        refine lv_iconst (v := -1) S.1 S.2.1 dX0_findWay_83 rfl ?_
        refine lv_icmp_ne (tgt := 107) S.1 S.2.1 dX0_findWay_84 (by decide) (fun c20 => ?_) (fun c20 => ?_)
        · have h := h.1 c20
          obtain ⟨v21, ev21⟩ : ∃ y : Int32, y = x6 + 1 := ⟨_, rfl⟩
          have h := h v21 ev21
          refine lv_iinc (v := v21) (lv' := [(6, .int v21), (0, .ref (σ 6)), (2, .int a2), (3, .int x3), (4, .int x4), (5, .int x5)]) S.1 S.2.1 dX0_findWay_107 hl (k := 5) rfl (by rw [ev21]; rfl) (by decide) rfl (fun ls hl => ?_)
          refine lv_goto (tgt := 54) S.1 S.2.1 dX0_findWay_110 (by decide) ?_
          exact (e54 _ _ _ _ _).mp h H locs ls hW (lv_sub hl [1, 2, 3, 4, 5, 0] rfl)
        · have h := h.2 c20
          refine lv_aload_n S.1 S.2.1 dX0_findWay_87 rfl (lv_at hl 0 rfl) ?_
          refine r_getR (j := 2) S hW inX0 rfl f20 rfl LH_6 (by decide) rfl dX0_findWay_88 ?_
          refine lv_iload S.1 S.2.1 dX0_findWay_91 (lv_at hl 5 rfl) ?_
          refine lv_iload S.1 S.2.1 dX0_findWay_93 (lv_at hl 4 rfl) ?_
          have b22 := h.1
          have h := h.2
          refine r_iast S hW LH_34 b22 dX0_findWay_95 (fun M23 H locs eM23 hW => ?_)
          have h := h M23 eM23
          refine lv_aload_n S.1 S.2.1 dX0_findWay_96 rfl (lv_at hl 0 rfl) ?_
          refine r_getR (j := 3) S hW inX0 rfl f24 rfl LH_6 (by decide) rfl dX0_findWay_97 ?_
          refine lv_iload_n S.1 S.2.1 dX0_findWay_100 rfl (lv_at hl 2 rfl) ?_
          obtain ⟨v24, ev24⟩ : ∃ y : Int32, y = x3 + 1 := ⟨_, rfl⟩
          have h := h v24 ev24
          refine lv_iinc (v := v24) (lv' := [(3, .int v24), (0, .ref (σ 6)), (2, .int a2), (4, .int x4), (5, .int x5), (6, .int x6)]) S.1 S.2.1 dX0_findWay_101 hl (k := 2) rfl (by rw [ev24]; rfl) (by decide) rfl (fun ls hl => ?_)
          refine lv_iload S.1 S.2.1 dX0_findWay_104 (lv_at hl 5 rfl) ?_
          have b25 := h.1
          have h := h.2
          refine r_iast S hW LH_35 b25 dX0_findWay_106 (fun M26 H locs eM26 hW => ?_)
          have h := h M26 eM26
          obtain ⟨v27, ev27⟩ : ∃ y : Int32, y = x6 + 1 := ⟨_, rfl⟩
          have h := h v27 ev27
          refine lv_iinc (v := v27) (lv' := [(6, .int v27), (3, .int v24), (0, .ref (σ 6)), (2, .int a2), (4, .int x4), (5, .int x5)]) S.1 S.2.1 dX0_findWay_107 hl (k := 5) rfl (by rw [ev27]; rfl) (by decide) rfl (fun ls hl => ?_)
          refine lv_goto (tgt := 54) S.1 S.2.1 dX0_findWay_110 (by decide) ?_
          exact (e54 _ _ _ _ _).mp h H locs ls hW (lv_sub hl [2, 3, 1, 4, 5, 0] rfl)
  have h := h z27 z54
  refine lv_aload_n S.1 S.2.1 dX0_findWay_0 rfl (lv_at hl 0 rfl) ?_
  refine r_getR (j := 2) S hW inX0 rfl f20 rfl LH_6 (by decide) rfl dX0_findWay_1 ?_
  refine lv_iconst (v := -1) S.1 S.2.1 dX0_findWay_4 rfl ?_
  refine r_goV (r_runS (rest := []) S hW (mJ7_fill_53178 l D T LH σ 34 LH_34  M (-1 : Int32) _ h) w27 rfl hl.1 rfl (Nat.le_of_ble_eq_true rfl) dX0_findWay_5 ⟨Nat.zero_le _, Nat.zero_le _⟩) hW (fun M2 H locs h hW => ?_)
  refine lv_aload_n S.1 S.2.1 dX0_findWay_8 rfl (lv_at hl 0 rfl) ?_
  refine r_getR (j := 2) S hW inX0 rfl f20 rfl LH_6 (by decide) rfl dX0_findWay_9 ?_
  refine lv_iload_n S.1 S.2.1 dX0_findWay_12 rfl (lv_at hl 1 rfl) ?_
  refine lv_iload_n S.1 S.2.1 dX0_findWay_13 rfl (lv_at hl 1 rfl) ?_
  have b3 := h.1
  have h := h.2
  refine r_iast S hW LH_34 b3 dX0_findWay_14 (fun M4 H locs eM4 hW => ?_)
  have h := h M4 eM4
  refine lv_aload_n S.1 S.2.1 dX0_findWay_15 rfl (lv_at hl 0 rfl) ?_
  refine r_getR (j := 3) S hW inX0 rfl f24 rfl LH_6 (by decide) rfl dX0_findWay_16 ?_
  refine lv_iconst (v := 0) S.1 S.2.1 dX0_findWay_19 rfl ?_
  refine lv_iload_n S.1 S.2.1 dX0_findWay_20 rfl (lv_at hl 1 rfl) ?_
  have b5 := h.1
  have h := h.2
  refine r_iast S hW LH_35 b5 dX0_findWay_21 (fun M6 H locs eM6 hW => ?_)
  have h := h M6 eM6
  refine lv_iconst (v := 1) S.1 S.2.1 dX0_findWay_22 rfl ?_
  refine lv_istore_n (lv' := [(3, .int (1 : Int32)), (0, .ref (σ 6)), (1, .int a1), (2, .int a2)]) S.1 S.2.1 dX0_findWay_23 rfl hl (by decide) rfl (fun ls hl => ?_)
  refine lv_iconst (v := 0) S.1 S.2.1 dX0_findWay_24 rfl ?_
  refine lv_istore (lv' := [(4, .int (0 : Int32)), (3, .int (1 : Int32)), (0, .ref (σ 6)), (1, .int a1), (2, .int a2)]) S.1 S.2.1 dX0_findWay_25 hl (by decide) rfl (fun ls hl => ?_)
  exact (e27 _ _ _).mp h H locs ls hW (lv_sub hl [2, 4, 1, 0] rfl)
abbrev rmX0_send : Room := { frames := 1, cells := 0, slots := 0, locals := 23 }
set_option maxHeartbeats 4000000 in
set_option maxRecDepth 100000 in
theorem mX0_send (l : Launch) (D : va_G) (T : Nat → ClassId) (σ : Nat → Nat) (M : Mem) (a1 : Int32) (a2 : Int32) (a3 : Int32) (post : Int32 → Mem → Prop) (h : qX0_send a1 a2 a3 M post) : Met l yX0_send wsX0_send rmX0_send (preW D T LH σ [.ref (σ 6), .int a1, .int a2, .int a3] M) (postI D T LH σ post) 0 0 (fA LH σ) := by
  refine m_of (cc := cX0_send) (maxL := 7) (ret := (some .int)) (own := RX0) (by decide) rfl rfl (Nat.le_of_ble_eq_true rfl) ?_
  intro p e s m args below meth c H ls locs S hr hlk hl hW
  have hl : lv_has ls 7 [(0, .ref (σ 6)), (1, .int a1), (2, .int a2), (3, .int a3)] := hl
  have inX0 : ∀ w ∈ u_ws RX0 TX0 4, w ∈ wsX0_send := by decide +kernel
  have f9 := S.2.2.2.2 (.fieldLink RX0 9 "MachineHall$Flow" "nodes" "I") (by decide +kernel)
  have f17 := S.2.2.2.2 (.fieldLink RX0 17 "MachineHall$Flow" "open" "[[I") (by decide +kernel)
  have f20 := S.2.2.2.2 (.fieldLink RX0 20 "MachineHall$Flow" "cameFrom" "[I") (by decide +kernel)
  have l45 := S.2.2.2.2 (.methodLink RX0 45 Lib.Math.min.name) (by decide +kernel)
  have smin := S.2.2.2.2 (.static Lib.Math.min.name) (by decide +kernel)
  have omin := S.2.2.2.2 (.code Lib.Math.min.name Lib.Math.min.code 2 (some .int)) (by decide +kernel)
  have iMath := S.2.2.2.2 (.initialized "java/lang/Math") (by decide +kernel)
  obtain ⟨R9, e9⟩ : ∃ R : Int32 → Int32 → Int32 → Mem → Prop, ∀ x4 x5 x6 M, R x4 x5 x6 M ↔ WW p l e rmX0_send s m args below meth c D T LH σ 7 (MQ below (postI D T LH σ post) args s 0 0 (fA LH σ)) 9 [(0, .ref (σ 6)), (1, .int a1), (2, .int a2), (4, .int x4), (5, .int x5), (6, .int x6)] [] M := ⟨_, fun _ _ _ _ => Iff.rfl⟩
  obtain ⟨R67, e67⟩ : ∃ R : Int32 → Int32 → Int32 → Mem → Prop, ∀ x4 x5 x6 M, R x4 x5 x6 M ↔ WW p l e rmX0_send s m args below meth c D T LH σ 7 (MQ below (postI D T LH σ post) args s 0 0 (fA LH σ)) 67 [(0, .ref (σ 6)), (1, .int a1), (4, .int x4), (5, .int x5), (6, .int x6)] [] M := ⟨_, fun _ _ _ _ => Iff.rfl⟩
  have h := h R9 R67
  have z9 : ∀ x4 x5 x6 M, qX0_send_b9 a1 a2 a3 post R9 R67 x4 x5 x6 M → R9 x4 x5 x6 M := by
    intro x4 x5 x6 M h
    refine (e9 _ _ _ _).mpr (fun H locs ls hW hl => ?_)
    refine lv_iload S.1 S.2.1 dX0_send_9 (lv_at hl 5 rfl) ?_
    refine lv_aload_n S.1 S.2.1 dX0_send_11 rfl (lv_at hl 0 rfl) ?_
    refine r_getI (j := 0) S hW inX0 rfl f9 rfl LH_6 (by decide) rfl dX0_send_12 ?_
    refine lv_icmp_ge (tgt := 61) S.1 S.2.1 dX0_send_15 (by decide) (fun c1 => ?_) (fun c1 => ?_)
    · have h := h.1 c1
      refine lv_iload_n S.1 S.2.1 dX0_send_61 rfl (lv_at hl 2 rfl) ?_
      refine lv_istore (lv' := [(5, .int a2), (0, .ref (σ 6)), (1, .int a1), (2, .int a2), (4, .int x4), (6, .int x6)]) S.1 S.2.1 dX0_send_62 hl (by decide) rfl (fun ls hl => ?_)
      refine lv_iconst (v := 0) S.1 S.2.1 dX0_send_64 rfl ?_
      refine lv_istore (lv' := [(6, .int (0 : Int32)), (5, .int a2), (0, .ref (σ 6)), (1, .int a1), (2, .int a2), (4, .int x4)]) S.1 S.2.1 dX0_send_65 hl (by decide) rfl (fun ls hl => ?_)
      exact (e67 _ _ _ _).mp h H locs ls hW (lv_sub hl [2, 3, 5, 1, 0] rfl)
    · have h := h.2 c1
      refine lv_iload S.1 S.2.1 dX0_send_18 (lv_at hl 4 rfl) ?_
      refine lv_iload_n S.1 S.2.1 dX0_send_20 rfl (lv_at hl 1 rfl) ?_
      refine lv_icmp_eq (tgt := 61) S.1 S.2.1 dX0_send_21 (by decide) (fun c2 => ?_) (fun c2 => ?_)
      · have h := h.1 c2
        refine lv_iload_n S.1 S.2.1 dX0_send_61 rfl (lv_at hl 2 rfl) ?_
        refine lv_istore (lv' := [(5, .int a2), (0, .ref (σ 6)), (1, .int a1), (2, .int a2), (4, .int x4), (6, .int x6)]) S.1 S.2.1 dX0_send_62 hl (by decide) rfl (fun ls hl => ?_)
        refine lv_iconst (v := 0) S.1 S.2.1 dX0_send_64 rfl ?_
        refine lv_istore (lv' := [(6, .int (0 : Int32)), (5, .int a2), (0, .ref (σ 6)), (1, .int a1), (2, .int a2), (4, .int x4)]) S.1 S.2.1 dX0_send_65 hl (by decide) rfl (fun ls hl => ?_)
        exact (e67 _ _ _ _).mp h H locs ls hW (lv_sub hl [2, 3, 5, 1, 0] rfl)
      · have h := h.2 c2
        refine lv_iload S.1 S.2.1 dX0_send_24 (lv_at hl 3 rfl) ?_
        refine lv_aload_n S.1 S.2.1 dX0_send_26 rfl (lv_at hl 0 rfl) ?_
        refine r_getR (j := 1) S hW inX0 rfl f17 rfl LH_6 (by decide) rfl dX0_send_27 ?_
        refine lv_aload_n S.1 S.2.1 dX0_send_30 rfl (lv_at hl 0 rfl) ?_
        refine r_getR (j := 2) S hW inX0 rfl f20 rfl LH_6 (by decide) rfl dX0_send_31 ?_
        refine lv_iload S.1 S.2.1 dX0_send_34 (lv_at hl 4 rfl) ?_
        have b3 := h.1
        have h := h.2
        refine r_iald S hW LH_34 b3 dX0_send_36 ?_
        have b4 := h.1
        have h := h.2
        refine r_aald (t := 0) S hW LH_33 (by decide) b4 dX0_send_37 ?_
        refine lv_iload S.1 S.2.1 dX0_send_38 (lv_at hl 4 rfl) ?_
        have b5 := h.1
        have h := h.2
        refine r_iald S hW (LHr_33 (vp_lt b4)) b5 dX0_send_40 ?_
        refine r_min S hl.1 l45 smin iMath omin (Nat.le_of_ble_eq_true rfl) (Nat.le_of_ble_eq_true rfl) (Nat.zero_le _) (Nat.zero_le _) dX0_send_41 ?_
        refine lv_topi (fun v6 ev6 => ?_)
        have h := h v6 ev6
        refine lv_istore (lv' := [(4, .int v6), (0, .ref (σ 6)), (1, .int a1), (2, .int a2), (5, .int x5), (6, .int x6)]) S.1 S.2.1 dX0_send_44 hl (by decide) rfl (fun ls hl => ?_)
        refine lv_aload_n S.1 S.2.1 dX0_send_46 rfl (lv_at hl 1 rfl) ?_
        refine r_getR (j := 2) S hW inX0 rfl f20 rfl LH_6 (by decide) rfl dX0_send_47 ?_
        refine lv_iload S.1 S.2.1 dX0_send_50 (lv_at hl 4 rfl) ?_
        have b7 := h.1
        have h := h.2
        refine r_iald S hW LH_34 b7 dX0_send_52 ?_
        refine lv_topi (fun v8 ev8 => ?_)
        have h := h v8 ev8
        refine lv_istore (lv' := [(5, .int v8), (4, .int v6), (0, .ref (σ 6)), (1, .int a1), (2, .int a2), (6, .int x6)]) S.1 S.2.1 dX0_send_53 hl (by decide) rfl (fun ls hl => ?_)
        obtain ⟨v9, ev9⟩ : ∃ y : Int32, y = x6 + 1 := ⟨_, rfl⟩
        have h := h v9 ev9
        refine lv_iinc (v := v9) (lv' := [(6, .int v9), (5, .int v8), (4, .int v6), (0, .ref (σ 6)), (1, .int a1), (2, .int a2)]) S.1 S.2.1 dX0_send_55 hl (k := 5) rfl (by rw [ev9]; rfl) (by decide) rfl (fun ls hl => ?_)
        refine lv_goto (tgt := 9) S.1 S.2.1 dX0_send_58 (by decide) ?_
        exact (e9 _ _ _ _).mp h H locs ls hW (lv_sub hl [3, 4, 5, 2, 1, 0] rfl)
  have z67 : ∀ x4 x5 x6 M, qX0_send_b67 a1 a2 a3 post R9 R67 x4 x5 x6 M → R67 x4 x5 x6 M := by
    intro x4 x5 x6 M h
    refine (e67 _ _ _ _).mpr (fun H locs ls hW hl => ?_)
    refine lv_iload S.1 S.2.1 dX0_send_67 (lv_at hl 4 rfl) ?_
    refine lv_aload_n S.1 S.2.1 dX0_send_69 rfl (lv_at hl 0 rfl) ?_
    refine r_getI (j := 0) S hW inX0 rfl f9 rfl LH_6 (by decide) rfl dX0_send_70 ?_
    refine lv_icmp_ge (tgt := 137) S.1 S.2.1 dX0_send_73 (by decide) (fun c10 => ?_) (fun c10 => ?_)
    · have h := h.1 c10
      refine lv_iload S.1 S.2.1 dX0_send_137 (lv_at hl 2 rfl) ?_
      exact r_iret S hr hlk hW h dX0_send_139
    · have h := h.2 c10
      refine lv_iload S.1 S.2.1 dX0_send_76 (lv_at hl 3 rfl) ?_
      refine lv_iload_n S.1 S.2.1 dX0_send_78 rfl (lv_at hl 1 rfl) ?_
      refine lv_icmp_eq (tgt := 137) S.1 S.2.1 dX0_send_79 (by decide) (fun c11 => ?_) (fun c11 => ?_)
      · have h := h.1 c11
        refine lv_iload S.1 S.2.1 dX0_send_137 (lv_at hl 2 rfl) ?_
        exact r_iret S hr hlk hW h dX0_send_139
      · have h := h.2 c11
        refine lv_aload_n S.1 S.2.1 dX0_send_82 rfl (lv_at hl 0 rfl) ?_
        refine r_getR (j := 1) S hW inX0 rfl f17 rfl LH_6 (by decide) rfl dX0_send_83 ?_
        refine lv_aload_n S.1 S.2.1 dX0_send_86 rfl (lv_at hl 0 rfl) ?_
        refine r_getR (j := 2) S hW inX0 rfl f20 rfl LH_6 (by decide) rfl dX0_send_87 ?_
        refine lv_iload S.1 S.2.1 dX0_send_90 (lv_at hl 3 rfl) ?_
        have b12 := h.1
        have h := h.2
        refine r_iald S hW LH_34 b12 dX0_send_92 ?_
        have b13 := h.1
        have h := h.2
        refine r_aald (t := 0) S hW LH_33 (by decide) b13 dX0_send_93 ?_
        refine lv_iload S.1 S.2.1 dX0_send_94 (lv_at hl 3 rfl) ?_
        refine lv_dup2_11 S.1 S.2.1 dX0_send_96 rfl rfl ?_
        have b14 := h.1
        have h := h.2
        refine r_iald S hW (LHr_33 (vp_lt b13)) b14 dX0_send_97 ?_
        refine lv_iload S.1 S.2.1 dX0_send_98 (lv_at hl 2 rfl) ?_
        refine lv_isub S.1 S.2.1 dX0_send_100 ?_
        have b15 := h.1
        have h := h.2
        refine r_iast S hW (LHr_33 (vp_lt b13)) b15 dX0_send_101 (fun M16 H locs eM16 hW => ?_)
        have h := h M16 eM16
        refine lv_aload_n S.1 S.2.1 dX0_send_102 rfl (lv_at hl 0 rfl) ?_
        refine r_getR (j := 1) S hW inX0 rfl f17 rfl LH_6 (by decide) rfl dX0_send_103 ?_
        refine lv_iload S.1 S.2.1 dX0_send_106 (lv_at hl 3 rfl) ?_
        have b17 := h.1
        have h := h.2
        refine r_aald (t := 0) S hW LH_33 (by decide) b17 dX0_send_108 ?_
        refine lv_aload_n S.1 S.2.1 dX0_send_109 rfl (lv_at hl 0 rfl) ?_
        refine r_getR (j := 2) S hW inX0 rfl f20 rfl LH_6 (by decide) rfl dX0_send_110 ?_
        refine lv_iload S.1 S.2.1 dX0_send_113 (lv_at hl 3 rfl) ?_
        have b18 := h.1
        have h := h.2
        refine r_iald S hW LH_34 b18 dX0_send_115 ?_
        refine lv_dup2_11 S.1 S.2.1 dX0_send_116 rfl rfl ?_
        have b19 := h.1
        have h := h.2
        refine r_iald S hW (LHr_33 (vp_lt b17)) b19 dX0_send_117 ?_
        refine lv_iload S.1 S.2.1 dX0_send_118 (lv_at hl 2 rfl) ?_
        refine lv_iadd S.1 S.2.1 dX0_send_120 ?_
        have b20 := h.1
        have h := h.2
        refine r_iast S hW (LHr_33 (vp_lt b17)) b20 dX0_send_121 (fun M21 H locs eM21 hW => ?_)
        have h := h M21 eM21
        refine lv_aload_n S.1 S.2.1 dX0_send_122 rfl (lv_at hl 0 rfl) ?_
        refine r_getR (j := 2) S hW inX0 rfl f20 rfl LH_6 (by decide) rfl dX0_send_123 ?_
        refine lv_iload S.1 S.2.1 dX0_send_126 (lv_at hl 3 rfl) ?_
        have b22 := h.1
        have h := h.2
        refine r_iald S hW LH_34 b22 dX0_send_128 ?_
        refine lv_topi (fun v23 ev23 => ?_)
        have h := h v23 ev23
        refine lv_istore (lv' := [(5, .int v23), (0, .ref (σ 6)), (1, .int a1), (4, .int x4), (6, .int x6)]) S.1 S.2.1 dX0_send_129 hl (by decide) rfl (fun ls hl => ?_)
        obtain ⟨v24, ev24⟩ : ∃ y : Int32, y = x6 + 1 := ⟨_, rfl⟩
        have h := h v24 ev24
        refine lv_iinc (v := v24) (lv' := [(6, .int v24), (5, .int v23), (0, .ref (σ 6)), (1, .int a1), (4, .int x4)]) S.1 S.2.1 dX0_send_131 hl (k := 4) rfl (by rw [ev24]; rfl) (by decide) rfl (fun ls hl => ?_)
        refine lv_goto (tgt := 67) S.1 S.2.1 dX0_send_134 (by decide) ?_
        exact (e67 _ _ _ _).mp h H locs ls hW (lv_sub hl [2, 3, 4, 1, 0] rfl)
  have h := h z9 z67
  refine lv_iload_n S.1 S.2.1 dX0_send_0 rfl (lv_at hl 3 rfl) ?_
  refine lv_istore (lv' := [(4, .int a3), (0, .ref (σ 6)), (1, .int a1), (2, .int a2), (3, .int a3)]) S.1 S.2.1 dX0_send_1 hl (by decide) rfl (fun ls hl => ?_)
  refine lv_iload_n S.1 S.2.1 dX0_send_3 rfl (lv_at hl 3 rfl) ?_
  refine lv_istore (lv' := [(5, .int a2), (4, .int a3), (0, .ref (σ 6)), (1, .int a1), (2, .int a2), (3, .int a3)]) S.1 S.2.1 dX0_send_4 hl (by decide) rfl (fun ls hl => ?_)
  refine lv_iconst (v := 0) S.1 S.2.1 dX0_send_6 rfl ?_
  refine lv_istore (lv' := [(6, .int (0 : Int32)), (5, .int a2), (4, .int a3), (0, .ref (σ 6)), (1, .int a1), (2, .int a2), (3, .int a3)]) S.1 S.2.1 dX0_send_7 hl (by decide) rfl (fun ls hl => ?_)
  exact (e9 _ _ _ _).mp h H locs ls hW (lv_sub hl [3, 4, 5, 2, 1, 0] rfl)
abbrev rmX0_push : Room := { frames := 2, cells := 0, slots := 0, locals := 49 }
set_option maxHeartbeats 4000000 in
set_option maxRecDepth 100000 in
theorem mX0_push (l : Launch) (D : va_G) (T : Nat → ClassId) (σ : Nat → Nat) (M : Mem) (a1 : Int32) (a2 : Int32) (a3 : Int32) (post : Int32 → Mem → Prop) (h : qX0_push a1 a2 a3 M post) : Met l yX0_push wsX0_push rmX0_push (preW D T LH σ [.ref (σ 6), .int a1, .int a2, .int a3] M) (postI D T LH σ post) 0 0 (fA LH σ) := by
  refine m_of (cc := cX0_push) (maxL := 6) (ret := (some .int)) (own := RX0) (by decide) rfl rfl (Nat.le_of_ble_eq_true rfl) ?_
  intro p e s m args below meth c H ls locs S hr hlk hl hW
  have hl : lv_has ls 6 [(0, .ref (σ 6)), (1, .int a1), (2, .int a2), (3, .int a3)] := hl
  have k33 := S.2.2.2.2 (.constant RX0 33 (1000000)) (by decide +kernel)
  have w34 := cwV (R := rmX0_push) (rm := rmX0_findWay) (mc := 0) (ms := 0) 2 S.2.2.2.2 gX0_push_X0_findWay rfl rfl rfl (by decide +kernel) ⟨Nat.le_of_ble_eq_true rfl, Nat.le_of_ble_eq_true rfl⟩
  have w38 := cwV (R := rmX0_push) (rm := rmX0_send) (mc := 0) (ms := 0) 3 S.2.2.2.2 gX0_push_X0_send rfl rfl rfl (by decide +kernel) ⟨Nat.le_of_ble_eq_true rfl, Nat.le_of_ble_eq_true rfl⟩
  obtain ⟨R6, e6⟩ : ∃ R : Int32 → Int32 → Mem → Prop, ∀ x4 x5 M, R x4 x5 M ↔ WW p l e rmX0_push s m args below meth c D T LH σ 6 (MQ below (postI D T LH σ post) args s 0 0 (fA LH σ)) 6 [(0, .ref (σ 6)), (1, .int a1), (2, .int a2), (3, .int a3), (4, .int x4), (5, .int x5)] [] M := ⟨_, fun _ _ _ => Iff.rfl⟩
  have h := h R6
  have z6 : ∀ x4 x5 M, qX0_push_b6 a1 a2 a3 post R6 x4 x5 M → R6 x4 x5 M := by
    intro x4 x5 M h
    refine (e6 _ _ _).mpr (fun H locs ls hW hl => ?_)
    refine lv_iload S.1 S.2.1 dX0_push_6 (lv_at hl 5 rfl) ?_
    refine lv_ldc S.1 S.2.1 S.2.2.2.1 k33 dX0_push_8 ?_
    refine lv_icmp_ge (tgt := 49) S.1 S.2.1 dX0_push_10 (by decide) (fun c1 => ?_) (fun c1 => ?_)
    · have h := h.1 c1
      refine lv_iload S.1 S.2.1 dX0_push_49 (lv_at hl 4 rfl) ?_
      exact r_iret S hr hlk hW h dX0_push_51
    · have h := h.2 c1
      refine lv_iload S.1 S.2.1 dX0_push_13 (lv_at hl 4 rfl) ?_
      refine lv_iload_n S.1 S.2.1 dX0_push_15 rfl (lv_at hl 3 rfl) ?_
      refine lv_icmp_ge (tgt := 49) S.1 S.2.1 dX0_push_16 (by decide) (fun c2 => ?_) (fun c2 => ?_)
      · have h := h.1 c2
        refine lv_iload S.1 S.2.1 dX0_push_49 (lv_at hl 4 rfl) ?_
        exact r_iret S hr hlk hW h dX0_push_51
      · have h := h.2 c2
        refine lv_aload_n S.1 S.2.1 dX0_push_19 rfl (lv_at hl 0 rfl) ?_
        refine lv_iload_n S.1 S.2.1 dX0_push_20 rfl (lv_at hl 1 rfl) ?_
        refine lv_iload_n S.1 S.2.1 dX0_push_21 rfl (lv_at hl 2 rfl) ?_
        refine r_goI (r_runV (rest := []) S hW (mX0_findWay l D T σ M a1 a2 _ h) w34 rfl LH_6 rfl hl.1 rfl (Nat.le_of_ble_eq_true rfl) dX0_push_22 ⟨Nat.zero_le _, Nat.zero_le _⟩) hW (fun r3 M4 H locs h hW => ?_)
        refine lv_if_eq (tgt := 49) S.1 S.2.1 dX0_push_25 (by decide) (fun c5 => ?_) (fun c5 => ?_)
        · have h := h.1 c5
          refine lv_iload S.1 S.2.1 dX0_push_49 (lv_at hl 4 rfl) ?_
          exact r_iret S hr hlk hW h dX0_push_51
        · have h := h.2 c5
          refine lv_iload S.1 S.2.1 dX0_push_28 (lv_at hl 4 rfl) ?_
          refine lv_aload_n S.1 S.2.1 dX0_push_30 rfl (lv_at hl 0 rfl) ?_
          refine lv_iload_n S.1 S.2.1 dX0_push_31 rfl (lv_at hl 1 rfl) ?_
          refine lv_iload_n S.1 S.2.1 dX0_push_32 rfl (lv_at hl 2 rfl) ?_
          refine lv_iload_n S.1 S.2.1 dX0_push_33 rfl (lv_at hl 3 rfl) ?_
          refine lv_iload S.1 S.2.1 dX0_push_34 (lv_at hl 4 rfl) ?_
          refine lv_isub S.1 S.2.1 dX0_push_36 ?_
          refine r_goI (r_runV (rest := [.int x4]) S hW (mX0_send l D T σ M4 a1 a2 (a3 - x4) _ h) w38 rfl LH_6 rfl hl.1 rfl (Nat.le_of_ble_eq_true rfl) dX0_push_37 ⟨Nat.zero_le _, Nat.zero_le _⟩) hW (fun r6 M7 H locs h hW => ?_)
          refine lv_iadd S.1 S.2.1 dX0_push_40 ?_
          refine lv_topi (fun v8 ev8 => ?_)
          have h := h v8 ev8
          refine lv_istore (lv' := [(4, .int v8), (0, .ref (σ 6)), (1, .int a1), (2, .int a2), (3, .int a3), (5, .int x5)]) S.1 S.2.1 dX0_push_41 hl (by decide) rfl (fun ls hl => ?_)
          obtain ⟨v9, ev9⟩ : ∃ y : Int32, y = x5 + 1 := ⟨_, rfl⟩
          have h := h v9 ev9
          refine lv_iinc (v := v9) (lv' := [(5, .int v9), (4, .int v8), (0, .ref (σ 6)), (1, .int a1), (2, .int a2), (3, .int a3)]) S.1 S.2.1 dX0_push_43 hl (k := 5) rfl (by rw [ev9]; rfl) (by decide) rfl (fun ls hl => ?_)
          refine lv_goto (tgt := 6) S.1 S.2.1 dX0_push_46 (by decide) ?_
          exact (e6 _ _ _).mp h H locs ls hW (lv_sub hl [2, 3, 4, 5, 1, 0] rfl)
  have h := h z6
  refine lv_iconst (v := 0) S.1 S.2.1 dX0_push_0 rfl ?_
  refine lv_istore (lv' := [(4, .int (0 : Int32)), (0, .ref (σ 6)), (1, .int a1), (2, .int a2), (3, .int a3)]) S.1 S.2.1 dX0_push_1 hl (by decide) rfl (fun ls hl => ?_)
  refine lv_iconst (v := 0) S.1 S.2.1 dX0_push_3 rfl ?_
  refine lv_istore (lv' := [(5, .int (0 : Int32)), (4, .int (0 : Int32)), (0, .ref (σ 6)), (1, .int a1), (2, .int a2), (3, .int a3)]) S.1 S.2.1 dX0_push_4 hl (by decide) rfl (fun ls hl => ?_)
  exact (e6 _ _ _).mp h H locs ls hW (lv_sub hl [2, 3, 4, 5, 1, 0] rfl)
abbrev rmX0_settle : Room := { frames := 3, cells := 0, slots := 0, locals := 74 }
set_option maxHeartbeats 4000000 in
set_option maxRecDepth 100000 in
theorem mX0_settle (l : Launch) (D : va_G) (T : Nat → ClassId) (σ : Nat → Nat) (M : Mem) (a1 : Int32) (a2 : Int32) (post : Int32 → Mem → Prop) (h : qX0_settle a1 a2 M post) : Met l yX0_settle wsX0_settle rmX0_settle (preW D T LH σ [.ref (σ 6), .int a1, .int a2] M) (postI D T LH σ post) 0 0 (fA LH σ) := by
  refine m_of (cc := cX0_settle) (maxL := 5) (ret := (some .int)) (own := RX0) (by decide) rfl rfl (Nat.le_of_ble_eq_true rfl) ?_
  intro p e s m args below meth c H ls locs S hr hlk hl hW
  have hl : lv_has ls 5 [(0, .ref (σ 6)), (1, .int a1), (2, .int a2)] := hl
  have inX0 : ∀ w ∈ u_ws RX0 TX0 4, w ∈ wsX0_settle := by decide +kernel
  have f17 := S.2.2.2.2 (.fieldLink RX0 17 "MachineHall$Flow" "open" "[[I") (by decide +kernel)
  have w42 := cwV (R := rmX0_settle) (rm := rmX0_push) (mc := 0) (ms := 0) 3 S.2.2.2.2 gX0_settle_X0_push rfl rfl rfl (by decide +kernel) ⟨Nat.le_of_ble_eq_true rfl, Nat.le_of_ble_eq_true rfl⟩
  refine lv_aload_n S.1 S.2.1 dX0_settle_0 rfl (lv_at hl 0 rfl) ?_
  refine r_getR (j := 1) S hW inX0 rfl f17 rfl LH_6 (by decide) rfl dX0_settle_1 ?_
  refine lv_iload_n S.1 S.2.1 dX0_settle_4 rfl (lv_at hl 1 rfl) ?_
  have b1 := h.1
  have h := h.2
  refine r_aald (t := 0) S hW LH_33 (by decide) b1 dX0_settle_5 ?_
  refine lv_iload_n S.1 S.2.1 dX0_settle_6 rfl (lv_at hl 2 rfl) ?_
  have b2 := h.1
  have h := h.2
  refine r_iald S hW (LHr_33 (vp_lt b1)) b2 dX0_settle_7 ?_
  refine lv_topi (fun v3 ev3 => ?_)
  have h := h v3 ev3
  refine lv_istore_n (lv' := [(3, .int v3), (0, .ref (σ 6)), (1, .int a1), (2, .int a2)]) S.1 S.2.1 dX0_settle_8 rfl hl (by decide) rfl (fun ls hl => ?_)
  refine lv_aload_n S.1 S.2.1 dX0_settle_9 rfl (lv_at hl 1 rfl) ?_
  refine r_getR (j := 1) S hW inX0 rfl f17 rfl LH_6 (by decide) rfl dX0_settle_10 ?_
  refine lv_iload_n S.1 S.2.1 dX0_settle_13 rfl (lv_at hl 3 rfl) ?_
  have b4 := h.1
  have h := h.2
  refine r_aald (t := 0) S hW LH_33 (by decide) b4 dX0_settle_14 ?_
  refine lv_iload_n S.1 S.2.1 dX0_settle_15 rfl (lv_at hl 2 rfl) ?_
  have b5 := h.1
  have h := h.2
  refine r_iald S hW (LHr_33 (vp_lt b4)) b5 dX0_settle_16 ?_
  refine lv_topi (fun v6 ev6 => ?_)
  have h := h v6 ev6
  refine lv_istore (lv' := [(4, .int v6), (3, .int v3), (0, .ref (σ 6)), (1, .int a1), (2, .int a2)]) S.1 S.2.1 dX0_settle_17 hl (by decide) rfl (fun ls hl => ?_)
  refine lv_aload_n S.1 S.2.1 dX0_settle_19 rfl (lv_at hl 2 rfl) ?_
  refine r_getR (j := 1) S hW inX0 rfl f17 rfl LH_6 (by decide) rfl dX0_settle_20 ?_
  refine lv_iload_n S.1 S.2.1 dX0_settle_23 rfl (lv_at hl 3 rfl) ?_
  have b7 := h.1
  have h := h.2
  refine r_aald (t := 0) S hW LH_33 (by decide) b7 dX0_settle_24 ?_
  refine lv_iload_n S.1 S.2.1 dX0_settle_25 rfl (lv_at hl 4 rfl) ?_
  refine lv_iconst (v := 0) S.1 S.2.1 dX0_settle_26 rfl ?_
  have b8 := h.1
  have h := h.2
  refine r_iast S hW (LHr_33 (vp_lt b7)) b8 dX0_settle_27 (fun M9 H locs eM9 hW => ?_)
  have h := h M9 eM9
  refine lv_aload_n S.1 S.2.1 dX0_settle_28 rfl (lv_at hl 2 rfl) ?_
  refine r_getR (j := 1) S hW inX0 rfl f17 rfl LH_6 (by decide) rfl dX0_settle_29 ?_
  refine lv_iload_n S.1 S.2.1 dX0_settle_32 rfl (lv_at hl 4 rfl) ?_
  have b10 := h.1
  have h := h.2
  refine r_aald (t := 0) S hW LH_33 (by decide) b10 dX0_settle_33 ?_
  refine lv_iload_n S.1 S.2.1 dX0_settle_34 rfl (lv_at hl 3 rfl) ?_
  refine lv_iconst (v := 0) S.1 S.2.1 dX0_settle_35 rfl ?_
  have b11 := h.1
  have h := h.2
  refine r_iast S hW (LHr_33 (vp_lt b10)) b11 dX0_settle_36 (fun M12 H locs eM12 hW => ?_)
  have h := h M12 eM12
  refine lv_iload S.1 S.2.1 dX0_settle_37 (lv_at hl 0 rfl) ?_
  refine lv_aload_n S.1 S.2.1 dX0_settle_39 rfl (lv_at hl 2 rfl) ?_
  refine lv_iload_n S.1 S.2.1 dX0_settle_40 rfl (lv_at hl 4 rfl) ?_
  refine lv_iload_n S.1 S.2.1 dX0_settle_41 rfl (lv_at hl 3 rfl) ?_
  refine lv_iload_n S.1 S.2.1 dX0_settle_42 rfl (lv_at hl 1 rfl) ?_
  refine r_goI (r_runV (rest := [.int v6]) S hW (mX0_push l D T σ M12 a2 a1 v3 _ h) w42 rfl LH_6 rfl hl.1 rfl (Nat.le_of_ble_eq_true rfl) dX0_settle_43 ⟨Nat.zero_le _, Nat.zero_le _⟩) hW (fun r13 M14 H locs h hW => ?_)
  refine lv_iadd S.1 S.2.1 dX0_settle_46 ?_
  exact r_iret S hr hlk hW h dX0_settle_47
abbrev rmX3_settleParts : Room := { frames := 4, cells := 0, slots := 0, locals := 98 }
set_option maxHeartbeats 4000000 in
set_option maxRecDepth 100000 in
theorem mX3_settleParts (l : Launch) (D : va_G) (T : Nat → ClassId) (σ : Nat → Nat) (M : Mem)  (post : Mem → Prop) (h : qX3_settleParts M post) : Met l yX3_settleParts wsX3_settleParts rmX3_settleParts (preW D T LH σ [.ref (σ 3)] M) (postV D T LH σ post) 0 0 (fA LH σ) := by
  refine m_of (cc := cX3_settleParts) (maxL := 3) (ret := none) (own := RX3) (by decide) rfl rfl (Nat.le_of_ble_eq_true rfl) ?_
  intro p e s m args below meth c H ls locs S hr hlk hl hW
  have hl : lv_has ls 3 [(0, .ref (σ 3))] := hl
  have inX3 : ∀ w ∈ u_ws RX3 TX3 9, w ∈ wsX3_settleParts := by decide +kernel
  have f42 := S.2.2.2.2 (.fieldLink RX3 42 "MachineHall$Plan" "batches" "I") (by decide +kernel)
  have f20 := S.2.2.2.2 (.fieldLink RX3 20 "MachineHall$Plan" "froms" "[I") (by decide +kernel)
  have f23 := S.2.2.2.2 (.fieldLink RX3 23 "MachineHall$Plan" "dues" "[I") (by decide +kernel)
  have f13 := S.2.2.2.2 (.fieldLink RX3 13 "MachineHall$Plan" "parts" "[[I") (by decide +kernel)
  have f34 := S.2.2.2.2 (.fieldLink RX3 34 "MachineHall$Plan" "flow" "LMachineHall$Flow;") (by decide +kernel)
  have w79 := cwV (R := rmX3_settleParts) (rm := rmX0_settle) (mc := 0) (ms := 0) 2 S.2.2.2.2 gX3_settleParts_X0_settle rfl rfl rfl (by decide +kernel) ⟨Nat.le_of_ble_eq_true rfl, Nat.le_of_ble_eq_true rfl⟩
  obtain ⟨R2, e2⟩ : ∃ R : Int32 → Mem → Prop, ∀ x1 M, R x1 M ↔ WW p l e rmX3_settleParts s m args below meth c D T LH σ 3 (MQ below (postV D T LH σ post) args s 0 0 (fA LH σ)) 2 [(0, .ref (σ 3)), (1, .int x1)] [] M := ⟨_, fun _ _ => Iff.rfl⟩
  obtain ⟨R17, e17⟩ : ∃ R : Int32 → Int32 → Mem → Prop, ∀ x1 x2 M, R x1 x2 M ↔ WW p l e rmX3_settleParts s m args below meth c D T LH σ 3 (MQ below (postV D T LH σ post) args s 0 0 (fA LH σ)) 17 [(0, .ref (σ 3)), (1, .int x1), (2, .int x2)] [] M := ⟨_, fun _ _ _ => Iff.rfl⟩
  have h := h R2 R17
  have z2 : ∀ x1 M, qX3_settleParts_b2 post R2 R17 x1 M → R2 x1 M := by
    intro x1 M h
    refine (e2 _ _).mpr (fun H locs ls hW hl => ?_)
    refine lv_iload_n S.1 S.2.1 dX3_settleParts_2 rfl (lv_at hl 1 rfl) ?_
    refine lv_aload_n S.1 S.2.1 dX3_settleParts_3 rfl (lv_at hl 0 rfl) ?_
    refine r_getI (j := 0) S hW inX3 rfl f42 rfl LH_3 (by decide) rfl dX3_settleParts_4 ?_
    refine lv_icmp_ge (tgt := 59) S.1 S.2.1 dX3_settleParts_7 (by decide) (fun c1 => ?_) (fun c1 => ?_)
    · have h := h.1 c1
      exact r_vret S hr hlk hW h dX3_settleParts_59
    · have h := h.2 c1
      refine lv_aload_n S.1 S.2.1 dX3_settleParts_10 rfl (lv_at hl 0 rfl) ?_
      refine r_getR (j := 4) S hW inX3 rfl f20 rfl LH_3 (by decide) rfl dX3_settleParts_11 ?_
      refine lv_iload_n S.1 S.2.1 dX3_settleParts_14 rfl (lv_at hl 1 rfl) ?_
      have b2 := h.1
      have h := h.2
      refine r_iald S hW LH_21 b2 dX3_settleParts_15 ?_
      refine lv_topi (fun v3 ev3 => ?_)
      have h := h v3 ev3
      refine lv_istore_n (lv' := [(2, .int v3), (0, .ref (σ 3)), (1, .int x1)]) S.1 S.2.1 dX3_settleParts_16 rfl hl (by decide) rfl (fun ls hl => ?_)
      exact (e17 _ _ _).mp h H locs ls hW (lv_sub hl [1, 2, 0] rfl)
  have z17 : ∀ x1 x2 M, qX3_settleParts_b17 post R2 R17 x1 x2 M → R17 x1 x2 M := by
    intro x1 x2 M h
    refine (e17 _ _ _).mpr (fun H locs ls hW hl => ?_)
    refine lv_iload_n S.1 S.2.1 dX3_settleParts_17 rfl (lv_at hl 2 rfl) ?_
    refine lv_aload_n S.1 S.2.1 dX3_settleParts_18 rfl (lv_at hl 0 rfl) ?_
    refine r_getR (j := 5) S hW inX3 rfl f23 rfl LH_3 (by decide) rfl dX3_settleParts_19 ?_
    refine lv_iload_n S.1 S.2.1 dX3_settleParts_22 rfl (lv_at hl 1 rfl) ?_
    have b4 := h.1
    have h := h.2
    refine r_iald S hW LH_22 b4 dX3_settleParts_23 ?_
    refine lv_icmp_ge (tgt := 53) S.1 S.2.1 dX3_settleParts_24 (by decide) (fun c5 => ?_) (fun c5 => ?_)
    · have h := h.1 c5
      obtain ⟨v6, ev6⟩ : ∃ y : Int32, y = x1 + 1 := ⟨_, rfl⟩
      have h := h v6 ev6
      refine lv_iinc (v := v6) (lv' := [(1, .int v6), (0, .ref (σ 3)), (2, .int x2)]) S.1 S.2.1 dX3_settleParts_53 hl (k := 1) rfl (by rw [ev6]; rfl) (by decide) rfl (fun ls hl => ?_)
      refine lv_goto (tgt := 2) S.1 S.2.1 dX3_settleParts_56 (by decide) ?_
      exact (e2 _ _).mp h H locs ls hW (lv_sub hl [1, 0] rfl)
    · have h := h.2 c5
      refine lv_aload_n S.1 S.2.1 dX3_settleParts_27 rfl (lv_at hl 0 rfl) ?_
      refine r_getR (j := 2) S hW inX3 rfl f13 rfl LH_3 (by decide) rfl dX3_settleParts_28 ?_
      refine lv_iload_n S.1 S.2.1 dX3_settleParts_31 rfl (lv_at hl 1 rfl) ?_
      have b7 := h.1
      have h := h.2
      refine r_aald (t := 0) S hW LH_19 (by decide) b7 dX3_settleParts_32 ?_
      refine lv_iload_n S.1 S.2.1 dX3_settleParts_33 rfl (lv_at hl 2 rfl) ?_
      refine lv_aload_n S.1 S.2.1 dX3_settleParts_34 rfl (lv_at hl 0 rfl) ?_
      refine r_getR (j := 7) S hW inX3 rfl f34 rfl LH_3 (by decide) rfl dX3_settleParts_35 ?_
      refine lv_iload_n S.1 S.2.1 dX3_settleParts_38 rfl (lv_at hl 1 rfl) ?_
      refine lv_bipush (v := 8) S.1 S.2.1 dX3_settleParts_39 rfl ?_
      refine lv_iload_n S.1 S.2.1 dX3_settleParts_41 rfl (lv_at hl 2 rfl) ?_
      refine lv_iadd S.1 S.2.1 dX3_settleParts_42 ?_
      refine r_goI (r_runV (rest := [.int x2, .ref (σ (42 + x1.toNatClampNeg))]) S hW (mX0_settle l D T σ M x1 ((8 : Int32) + x2) _ h) w79 rfl LH_6 rfl hl.1 rfl (Nat.le_of_ble_eq_true rfl) dX3_settleParts_43 ⟨Nat.zero_le _, Nat.zero_le _⟩) hW (fun r8 M9 H locs h hW => ?_)
      have b10 := h.1
      have h := h.2
      refine r_iast S hW (LHr_19 (vp_lt b7)) b10 dX3_settleParts_46 (fun M11 H locs eM11 hW => ?_)
      have h := h M11 eM11
      obtain ⟨v12, ev12⟩ : ∃ y : Int32, y = x2 + 1 := ⟨_, rfl⟩
      have h := h v12 ev12
      refine lv_iinc (v := v12) (lv' := [(2, .int v12), (0, .ref (σ 3)), (1, .int x1)]) S.1 S.2.1 dX3_settleParts_47 hl (k := 2) rfl (by rw [ev12]; rfl) (by decide) rfl (fun ls hl => ?_)
      refine lv_goto (tgt := 17) S.1 S.2.1 dX3_settleParts_50 (by decide) ?_
      exact (e17 _ _ _).mp h H locs ls hW (lv_sub hl [1, 2, 0] rfl)
  have h := h z2 z17
  refine lv_iconst (v := 0) S.1 S.2.1 dX3_settleParts_0 rfl ?_
  refine lv_istore_n (lv' := [(1, .int (0 : Int32)), (0, .ref (σ 3))]) S.1 S.2.1 dX3_settleParts_1 rfl hl (by decide) rfl (fun ls hl => ?_)
  exact (e2 _ _).mp h H locs ls hW (lv_sub hl [1, 0] rfl)
abbrev rmX3_lay : Room := { frames := 5, cells := 0, slots := 0, locals := 120 }
set_option maxHeartbeats 4000000 in
set_option maxRecDepth 100000 in
theorem mX3_lay (l : Launch) (D : va_G) (T : Nat → ClassId) (σ : Nat → Nat) (M : Mem) (a2 : Int32) (post : Mem → Prop) (h : qX3_lay a2 M post) : Met l yX3_lay wsX3_lay rmX3_lay (preW D T LH σ [.ref (σ 3), .ref (σ 2), .int a2] M) (postV D T LH σ post) 0 0 (fA LH σ) := by
  refine m_of (cc := cX3_lay) (maxL := 3) (ret := none) (own := RX3) (by decide) rfl rfl (Nat.le_of_ble_eq_true rfl) ?_
  intro p e s m args below meth c H ls locs S hr hlk hl hW
  have hl : lv_has ls 3 [(0, .ref (σ 3)), (1, .ref (σ 2)), (2, .int a2)] := hl
  have inX3 : ∀ w ∈ u_ws RX3 TX3 9, w ∈ wsX3_lay := by decide +kernel
  have f38 := S.2.2.2.2 (.fieldLink RX3 38 "MachineHall$Plan" "laidFor" "I") (by decide +kernel)
  have w52 := cwV (R := rmX3_lay) (rm := rmX3_layPipes) (mc := 0) (ms := 0) 2 S.2.2.2.2 gX3_lay_X3_layPipes rfl rfl rfl (by decide +kernel) ⟨Nat.le_of_ble_eq_true rfl, Nat.le_of_ble_eq_true rfl⟩
  have f56 := S.2.2.2.2 (.fieldLink RX3 56 "MachineHall$Plan" "unlaid" "I") (by decide +kernel)
  have f34 := S.2.2.2.2 (.fieldLink RX3 34 "MachineHall$Plan" "flow" "LMachineHall$Flow;") (by decide +kernel)
  have w59 := cwV (R := rmX3_lay) (rm := rmX0_push) (mc := 0) (ms := 0) 3 S.2.2.2.2 gX3_lay_X0_push rfl rfl rfl (by decide +kernel) ⟨Nat.le_of_ble_eq_true rfl, Nat.le_of_ble_eq_true rfl⟩
  have w63 := cwV (R := rmX3_lay) (rm := rmX3_settleParts) (mc := 0) (ms := 0) 0 S.2.2.2.2 gX3_lay_X3_settleParts rfl rfl rfl (by decide +kernel) ⟨Nat.le_of_ble_eq_true rfl, Nat.le_of_ble_eq_true rfl⟩
  refine lv_aload_n S.1 S.2.1 dX3_lay_0 rfl (lv_at hl 0 rfl) ?_
  refine r_getI (j := 8) S hW inX3 rfl f38 rfl LH_3 (by decide) rfl dX3_lay_1 ?_
  refine lv_iload_n S.1 S.2.1 dX3_lay_4 rfl (lv_at hl 2 rfl) ?_
  refine lv_icmp_ne (tgt := 9) S.1 S.2.1 dX3_lay_5 (by decide) (fun c1 => ?_) (fun c1 => ?_)
  · have h := h.1 c1
    refine lv_aload_n S.1 S.2.1 dX3_lay_9 rfl (lv_at hl 0 rfl) ?_
    refine lv_iload_n S.1 S.2.1 dX3_lay_10 rfl (lv_at hl 2 rfl) ?_
    refine r_putI (j := 8) S hW inX3 rfl f38 rfl LH_3 (by decide) rfl tyX3 tyX3_ok nmX3 rfl rfl rfl dX3_lay_11 (fun M2 H locs eM2 hW => ?_)
    have h := h M2 eM2
    refine lv_aload_n S.1 S.2.1 dX3_lay_14 rfl (lv_at hl 0 rfl) ?_
    refine lv_aload_n S.1 S.2.1 dX3_lay_15 rfl (lv_at hl 0 rfl) ?_
    refine lv_aload_n S.1 S.2.1 dX3_lay_16 rfl (lv_at hl 1 rfl) ?_
    refine lv_iload_n S.1 S.2.1 dX3_lay_17 rfl (lv_at hl 2 rfl) ?_
    refine r_goI (r_runV (rest := [.ref (σ 3)]) S hW (mX3_layPipes l D T σ M2 a2 _ h) w52 rfl LH_3 rfl hl.1 rfl (Nat.le_of_ble_eq_true rfl) dX3_lay_18 ⟨Nat.zero_le _, Nat.zero_le _⟩) hW (fun r3 M4 H locs h hW => ?_)
    refine r_putI (j := 1) S hW inX3 rfl f56 rfl LH_3 (by decide) rfl tyX3 tyX3_ok nmX3 rfl rfl rfl dX3_lay_21 (fun M5 H locs eM5 hW => ?_)
    have h := h M5 eM5
    refine lv_aload_n S.1 S.2.1 dX3_lay_24 rfl (lv_at hl 0 rfl) ?_
    refine lv_dup S.1 S.2.1 dX3_lay_25 rfl ?_
    refine r_getI (j := 1) S hW inX3 rfl f56 rfl LH_3 (by decide) rfl dX3_lay_26 ?_
    refine lv_aload_n S.1 S.2.1 dX3_lay_29 rfl (lv_at hl 0 rfl) ?_
    refine r_getR (j := 7) S hW inX3 rfl f34 rfl LH_3 (by decide) rfl dX3_lay_30 ?_
    refine lv_bipush (v := 32) S.1 S.2.1 dX3_lay_33 rfl ?_
    refine lv_bipush (v := 33) S.1 S.2.1 dX3_lay_35 rfl ?_
    refine lv_aload_n S.1 S.2.1 dX3_lay_37 rfl (lv_at hl 0 rfl) ?_
    refine r_getI (j := 1) S hW inX3 rfl f56 rfl LH_3 (by decide) rfl dX3_lay_38 ?_
    refine r_goI (r_runV (rest := [.int (M5.1 3 1), .ref (σ 3)]) S hW (mX0_push l D T σ M5 (32 : Int32) (33 : Int32) (M5.1 3 1) _ h) w59 rfl LH_6 rfl hl.1 rfl (Nat.le_of_ble_eq_true rfl) dX3_lay_41 ⟨Nat.zero_le _, Nat.zero_le _⟩) hW (fun r6 M7 H locs h hW => ?_)
    refine lv_isub S.1 S.2.1 dX3_lay_44 ?_
    refine r_putI (j := 1) S hW inX3 rfl f56 rfl LH_3 (by decide) rfl tyX3 tyX3_ok nmX3 rfl rfl rfl dX3_lay_45 (fun M8 H locs eM8 hW => ?_)
    have h := h M8 eM8
    refine lv_aload_n S.1 S.2.1 dX3_lay_48 rfl (lv_at hl 0 rfl) ?_
    refine r_getI (j := 1) S hW inX3 rfl f56 rfl LH_3 (by decide) rfl dX3_lay_49 ?_
    refine lv_if_ne (tgt := 59) S.1 S.2.1 dX3_lay_52 (by decide) (fun c9 => ?_) (fun c9 => ?_)
    · have h := h.1 c9
      exact r_vret S hr hlk hW h dX3_lay_59
    · have h := h.2 c9
      refine lv_aload_n S.1 S.2.1 dX3_lay_55 rfl (lv_at hl 0 rfl) ?_
      refine r_goV (r_runV (rest := []) S hW (mX3_settleParts l D T σ M8 _ h) w63 rfl LH_3 rfl hl.1 rfl (Nat.le_of_ble_eq_true rfl) dX3_lay_56 ⟨Nat.zero_le _, Nat.zero_le _⟩) hW (fun M11 H locs h hW => ?_)
      exact r_vret S hr hlk hW h dX3_lay_59
  · have h := h.2 c1
    exact r_vret S hr hlk hW h dX3_lay_8
abbrev rmX3_hasBatch : Room := { frames := 1, cells := 0, slots := 0, locals := 23 }
set_option maxHeartbeats 4000000 in
set_option maxRecDepth 100000 in
theorem mX3_hasBatch (l : Launch) (D : va_G) (T : Nat → ClassId) (σ : Nat → Nat) (M : Mem) (a1 : Int32) (post : Int32 → Mem → Prop) (h : qX3_hasBatch a1 M post) : Met l yX3_hasBatch wsX3_hasBatch rmX3_hasBatch (preW D T LH σ [.ref (σ 3), .int a1] M) (postI D T LH σ post) 0 0 (fA LH σ) := by
  refine m_of (cc := cX3_hasBatch) (maxL := 2) (ret := (some .boolean)) (own := RX3) (by decide) rfl rfl (Nat.le_of_ble_eq_true rfl) ?_
  intro p e s m args below meth c H ls locs S hr hlk hl hW
  have hl : lv_has ls 2 [(0, .ref (σ 3)), (1, .int a1)] := hl
  have inX3 : ∀ w ∈ u_ws RX3 TX3 9, w ∈ wsX3_hasBatch := by decide +kernel
  have f42 := S.2.2.2.2 (.fieldLink RX3 42 "MachineHall$Plan" "batches" "I") (by decide +kernel)
  have w45 := va_cnB (args := args) (R := rmX3_hasBatch) (rm := rmX6_within) (mc := 0) (ms := 0) 3 S.2.2.2.2 gX3_hasBatch_X6_within_n45 rfl rfl rfl hW.2.2.2.2.2.2.1 (S.2.2.2.2 (.initialized RX6) (by decide +kernel)) (by decide +kernel) ⟨Nat.le_of_ble_eq_true rfl, Nat.le_of_ble_eq_true rfl⟩
  have stX6_within := S.2.2.2.2 (.static yX6_within) (by decide +kernel)
  refine lv_iload_n S.1 S.2.1 dX3_hasBatch_0 rfl (lv_at hl 1 rfl) ?_
  refine lv_i2l S.1 S.2.1 dX3_hasBatch_1 rfl ?_
  refine lv_iconst (v := 0) S.1 S.2.1 dX3_hasBatch_2 rfl ?_
  refine lv_aload_n S.1 S.2.1 dX3_hasBatch_3 rfl (lv_at hl 0 rfl) ?_
  refine r_getI (j := 0) S hW inX3 rfl f42 rfl LH_3 (by decide) rfl dX3_hasBatch_4 ?_
  refine lv_iconst (v := 1) S.1 S.2.1 dX3_hasBatch_7 rfl ?_
  refine lv_isub S.1 S.2.1 dX3_hasBatch_8 ?_
  refine r_goI (r_runN (rest := []) S hW (mX6_within l D T LH σ M (a1.toInt64) (0 : Int32) ((M.1 3 0) - (1 : Int32)) _ h) w45 stX6_within rfl hl.1 rfl (Nat.le_of_ble_eq_true rfl) dX3_hasBatch_9 ⟨Nat.zero_le _, Nat.zero_le _⟩) hW (fun r1 M2 H locs h hW => ?_)
  exact r_zret S hr hlk hW h.1 h.2 dX3_hasBatch_12
abbrev rmX4_whyNotFirst : Room := { frames := 1, cells := 0, slots := 0, locals := 23 }
set_option maxHeartbeats 4000000 in
set_option maxRecDepth 100000 in
theorem mX4_whyNotFirst (l : Launch) (D : va_G) (T : Nat → ClassId) (σ : Nat → Nat) (M : Mem) (a1 : Int32) (a2 : Int32) (a3 : Int32) (post : Int32 → Mem → Prop) (h : qX4_whyNotFirst a1 a2 a3 M post) : Met l yX4_whyNotFirst wsX4_whyNotFirst rmX4_whyNotFirst (preW D T LH σ [.ref (σ 1), .int a1, .int a2, .int a3] M) (postI D T LH σ post) 0 0 (fA LH σ) := by
  refine m_of (cc := cX4_whyNotFirst) (maxL := 5) (ret := (some .int)) (own := RX4) (by decide) rfl rfl (Nat.le_of_ble_eq_true rfl) ?_
  intro p e s m args below meth c H ls locs S hr hlk hl hW
  have hl : lv_has ls 5 [(0, .ref (σ 1)), (1, .int a1), (2, .int a2), (3, .int a3)] := hl
  have w44 := cwV (R := rmX4_whyNotFirst) (rm := rmX4_isMissing) (mc := 0) (ms := 0) 1 S.2.2.2.2 gX4_whyNotFirst_X4_isMissing rfl rfl rfl (by decide +kernel) ⟨Nat.le_of_ble_eq_true rfl, Nat.le_of_ble_eq_true rfl⟩
  have inX4 : ∀ w ∈ u_ws RX4 TX4 3, w ∈ wsX4_whyNotFirst := by decide +kernel
  have f20 := S.2.2.2.2 (.fieldLink RX4 20 "MachineHall$Sheets" "lengths" "[I") (by decide +kernel)
  have f13 := S.2.2.2.2 (.fieldLink RX4 13 "MachineHall$Sheets" "numbers" "[[J") (by decide +kernel)
  have w29 := va_cnB (args := args) (R := rmX4_whyNotFirst) (rm := rmX6_within) (mc := 0) (ms := 0) 3 S.2.2.2.2 gX4_whyNotFirst_X6_within_n29 rfl rfl rfl hW.2.2.2.2.1 (S.2.2.2.2 (.initialized RX6) (by decide +kernel)) (by decide +kernel) ⟨Nat.le_of_ble_eq_true rfl, Nat.le_of_ble_eq_true rfl⟩
  have stX6_within := S.2.2.2.2 (.static yX6_within) (by decide +kernel)
  obtain ⟨R25, e25⟩ : ∃ R : Int32 → Mem → Prop, ∀ x4 M, R x4 M ↔ WW p l e rmX4_whyNotFirst s m args below meth c D T LH σ 5 (MQ below (postI D T LH σ post) args s 0 0 (fA LH σ)) 25 [(0, .ref (σ 1)), (1, .int a1), (2, .int a2), (3, .int a3), (4, .int x4)] [] M := ⟨_, fun _ _ => Iff.rfl⟩
  have h := h R25
  have z25 : ∀ x4 M, qX4_whyNotFirst_b25 a1 a2 a3 post R25 x4 M → R25 x4 M := by
    intro x4 M h
    refine (e25 _ _).mpr (fun H locs ls hW hl => ?_)
    refine lv_iload S.1 S.2.1 dX4_whyNotFirst_25 (lv_at hl 4 rfl) ?_
    refine lv_iload_n S.1 S.2.1 dX4_whyNotFirst_27 rfl (lv_at hl 2 rfl) ?_
    refine lv_icmp_ge (tgt := 56) S.1 S.2.1 dX4_whyNotFirst_28 (by decide) (fun c6 => ?_) (fun c6 => ?_)
    · have h := h.1 c6
      refine lv_iconst (v := 0) S.1 S.2.1 dX4_whyNotFirst_56 rfl ?_
      exact r_iret S hr hlk hW h dX4_whyNotFirst_57
    · have h := h.2 c6
      refine lv_aload_n S.1 S.2.1 dX4_whyNotFirst_31 rfl (lv_at hl 0 rfl) ?_
      refine r_getR (j := 0) S hW inX4 rfl f13 rfl LH_1 (by decide) rfl dX4_whyNotFirst_32 ?_
      refine lv_iload_n S.1 S.2.1 dX4_whyNotFirst_35 rfl (lv_at hl 1 rfl) ?_
      have b7 := h.1
      have h := h.2
      refine r_aald (t := 1) S hW LH_7 (by decide) b7 dX4_whyNotFirst_36 ?_
      refine lv_iload S.1 S.2.1 dX4_whyNotFirst_37 (lv_at hl 4 rfl) ?_
      have b8 := h.1
      have h := h.2
      refine r_lald S hW (LHr_7 (vp_lt b7)) b8 dX4_whyNotFirst_39 ?_
      refine lv_iconst (v := 0) S.1 S.2.1 dX4_whyNotFirst_40 rfl ?_
      refine lv_iload_n S.1 S.2.1 dX4_whyNotFirst_41 rfl (lv_at hl 3 rfl) ?_
      refine r_goI (r_runN (rest := []) S hW (mX6_within l D T LH σ M (M.2 (36 + a1.toNatClampNeg) x4.toNatClampNeg) (0 : Int32) a3 _ h) w29 stX6_within rfl hl.1 rfl (Nat.le_of_ble_eq_true rfl) dX4_whyNotFirst_42 ⟨Nat.zero_le _, Nat.zero_le _⟩) hW (fun r9 M10 H locs h hW => ?_)
      refine lv_if_ne (tgt := 50) S.1 S.2.1 dX4_whyNotFirst_45 (by decide) (fun c11 => ?_) (fun c11 => ?_)
      · have h := h.1 c11
        obtain ⟨v12, ev12⟩ : ∃ y : Int32, y = x4 + 1 := ⟨_, rfl⟩
        have h := h v12 ev12
        refine lv_iinc (v := v12) (lv' := [(4, .int v12), (0, .ref (σ 1)), (1, .int a1), (2, .int a2), (3, .int a3)]) S.1 S.2.1 dX4_whyNotFirst_50 hl (k := 4) rfl (by rw [ev12]; rfl) (by decide) rfl (fun ls hl => ?_)
        refine lv_goto (tgt := 25) S.1 S.2.1 dX4_whyNotFirst_53 (by decide) ?_
        exact (e25 _ _).mp h H locs ls hW (lv_sub hl [1, 2, 3, 4, 0] rfl)
      · have h := h.2 c11
        refine lv_iconst (v := 1) S.1 S.2.1 dX4_whyNotFirst_48 rfl ?_
        exact r_iret S hr hlk hW h dX4_whyNotFirst_49
  have h := h z25
  refine lv_aload_n S.1 S.2.1 dX4_whyNotFirst_0 rfl (lv_at hl 0 rfl) ?_
  refine lv_iload_n S.1 S.2.1 dX4_whyNotFirst_1 rfl (lv_at hl 1 rfl) ?_
  refine r_goI (r_runV (rest := []) S hW (mX4_isMissing l D T σ M a1 _ h) w44 rfl LH_1 rfl hl.1 rfl (Nat.le_of_ble_eq_true rfl) dX4_whyNotFirst_2 ⟨Nat.zero_le _, Nat.zero_le _⟩) hW (fun r1 M2 H locs h hW => ?_)
  refine lv_if_eq (tgt := 10) S.1 S.2.1 dX4_whyNotFirst_5 (by decide) (fun c3 => ?_) (fun c3 => ?_)
  · have h := h.1 c3
    refine lv_iload_n S.1 S.2.1 dX4_whyNotFirst_10 rfl (lv_at hl 2 rfl) ?_
    refine lv_aload_n S.1 S.2.1 dX4_whyNotFirst_11 rfl (lv_at hl 0 rfl) ?_
    refine r_getR (j := 2) S hW inX4 rfl f20 rfl LH_1 (by decide) rfl dX4_whyNotFirst_12 ?_
    refine lv_iload_n S.1 S.2.1 dX4_whyNotFirst_15 rfl (lv_at hl 1 rfl) ?_
    have b4 := h.1
    have h := h.2
    refine r_iald S hW LH_9 b4 dX4_whyNotFirst_16 ?_
    refine lv_icmp_le (tgt := 22) S.1 S.2.1 dX4_whyNotFirst_17 (by decide) (fun c5 => ?_) (fun c5 => ?_)
    · have h := h.1 c5
      refine lv_iconst (v := 0) S.1 S.2.1 dX4_whyNotFirst_22 rfl ?_
      refine lv_istore (lv' := [(4, .int (0 : Int32)), (0, .ref (σ 1)), (1, .int a1), (2, .int a2), (3, .int a3)]) S.1 S.2.1 dX4_whyNotFirst_23 hl (by decide) rfl (fun ls hl => ?_)
      exact (e25 _ _).mp h H locs ls hW (lv_sub hl [1, 2, 3, 4, 0] rfl)
    · have h := h.2 c5
      refine lv_iconst (v := 3) S.1 S.2.1 dX4_whyNotFirst_20 rfl ?_
      exact r_iret S hr hlk hW h dX4_whyNotFirst_21
  · have h := h.2 c3
    refine lv_iconst (v := 2) S.1 S.2.1 dX4_whyNotFirst_8 rfl ?_
    exact r_iret S hr hlk hW h dX4_whyNotFirst_9
abbrev rmX5_note : Room := { frames := 1, cells := 0, slots := 0, locals := 23 }
set_option maxHeartbeats 4000000 in
set_option maxRecDepth 100000 in
theorem mX5_note (l : Launch) (D : va_G) (T : Nat → ClassId) (σ : Nat → Nat) (M : Mem) (a1 : Int32) (post : Mem → Prop) (h : qX5_note a1 M post) : Met l yX5_note wsX5_note rmX5_note (preW D T LH σ [.ref (σ 4), .int a1] M) (postV D T LH σ post) 0 0 (fA LH σ) := by
  refine m_of (cc := cX5_note) (maxL := 2) (ret := none) (own := RX5) (by decide) rfl rfl (Nat.le_of_ble_eq_true rfl) ?_
  intro p e s m args below meth c H ls locs S hr hlk hl hW
  have hl : lv_has ls 2 [(0, .ref (σ 4)), (1, .int a1)] := hl
  have inX5 : ∀ w ∈ u_ws RX5 TX5 6, w ∈ wsX5_note := by decide +kernel
  have f13 := S.2.2.2.2 (.fieldLink RX5 13 "MachineHall$Waiting" "greatest" "I") (by decide +kernel)
  have l41 := S.2.2.2.2 (.methodLink RX5 41 Lib.Math.max.name) (by decide +kernel)
  have smax := S.2.2.2.2 (.static Lib.Math.max.name) (by decide +kernel)
  have omax := S.2.2.2.2 (.code Lib.Math.max.name Lib.Math.max.code 2 (some .int)) (by decide +kernel)
  have iMath := S.2.2.2.2 (.initialized "java/lang/Math") (by decide +kernel)
  have f17 := S.2.2.2.2 (.fieldLink RX5 17 "MachineHall$Waiting" "together" "I") (by decide +kernel)
  have f20 := S.2.2.2.2 (.fieldLink RX5 20 "MachineHall$Waiting" "came" "I") (by decide +kernel)
  have f23 := S.2.2.2.2 (.fieldLink RX5 23 "MachineHall$Waiting" "waited" "I") (by decide +kernel)
  refine lv_aload_n S.1 S.2.1 dX5_note_0 rfl (lv_at hl 0 rfl) ?_
  refine lv_aload_n S.1 S.2.1 dX5_note_1 rfl (lv_at hl 0 rfl) ?_
  refine r_getI (j := 0) S hW inX5 rfl f13 rfl LH_4 (by decide) rfl dX5_note_2 ?_
  refine lv_iload_n S.1 S.2.1 dX5_note_5 rfl (lv_at hl 1 rfl) ?_
  refine r_max S hl.1 l41 smax iMath omax (Nat.le_of_ble_eq_true rfl) (Nat.le_of_ble_eq_true rfl) (Nat.zero_le _) (Nat.zero_le _) dX5_note_6 ?_
  refine r_putI (j := 0) S hW inX5 rfl f13 rfl LH_4 (by decide) rfl tyX5 tyX5_ok nmX5 rfl rfl rfl dX5_note_9 (fun M1 H locs eM1 hW => ?_)
  have h := h M1 eM1
  refine lv_aload_n S.1 S.2.1 dX5_note_12 rfl (lv_at hl 0 rfl) ?_
  refine lv_dup S.1 S.2.1 dX5_note_13 rfl ?_
  refine r_getI (j := 1) S hW inX5 rfl f17 rfl LH_4 (by decide) rfl dX5_note_14 ?_
  refine lv_iload_n S.1 S.2.1 dX5_note_17 rfl (lv_at hl 1 rfl) ?_
  refine lv_iadd S.1 S.2.1 dX5_note_18 ?_
  refine r_putI (j := 1) S hW inX5 rfl f17 rfl LH_4 (by decide) rfl tyX5 tyX5_ok nmX5 rfl rfl rfl dX5_note_19 (fun M2 H locs eM2 hW => ?_)
  have h := h M2 eM2
  refine lv_aload_n S.1 S.2.1 dX5_note_22 rfl (lv_at hl 0 rfl) ?_
  refine lv_dup S.1 S.2.1 dX5_note_23 rfl ?_
  refine r_getI (j := 2) S hW inX5 rfl f20 rfl LH_4 (by decide) rfl dX5_note_24 ?_
  refine lv_iconst (v := 1) S.1 S.2.1 dX5_note_27 rfl ?_
  refine lv_iadd S.1 S.2.1 dX5_note_28 ?_
  refine r_putI (j := 2) S hW inX5 rfl f20 rfl LH_4 (by decide) rfl tyX5 tyX5_ok nmX5 rfl rfl rfl dX5_note_29 (fun M3 H locs eM3 hW => ?_)
  have h := h M3 eM3
  refine lv_aload_n S.1 S.2.1 dX5_note_32 rfl (lv_at hl 0 rfl) ?_
  refine lv_dup S.1 S.2.1 dX5_note_33 rfl ?_
  refine r_getI (j := 3) S hW inX5 rfl f23 rfl LH_4 (by decide) rfl dX5_note_34 ?_
  refine lv_iload_n S.1 S.2.1 dX5_note_37 rfl (lv_at hl 1 rfl) ?_
  refine lv_if_le (tgt := 45) S.1 S.2.1 dX5_note_38 (by decide) (fun c4 => ?_) (fun c4 => ?_)
  · have h := h.1 c4
    refine lv_iconst (v := 0) S.1 S.2.1 dX5_note_45 rfl ?_
    refine lv_iadd S.1 S.2.1 dX5_note_46 ?_
    refine r_putI (j := 3) S hW inX5 rfl f23 rfl LH_4 (by decide) rfl tyX5 tyX5_ok nmX5 rfl rfl rfl dX5_note_47 (fun M5 H locs eM5 hW => ?_)
    have h := h M5 eM5
    exact r_vret S hr hlk hW h dX5_note_50
  · have h := h.2 c4
    refine lv_iconst (v := 1) S.1 S.2.1 dX5_note_41 rfl ?_
    refine lv_goto (tgt := 46) S.1 S.2.1 dX5_note_42 (by decide) ?_
    refine lv_iadd S.1 S.2.1 dX5_note_46 ?_
    refine r_putI (j := 3) S hW inX5 rfl f23 rfl LH_4 (by decide) rfl tyX5 tyX5_ok nmX5 rfl rfl rfl dX5_note_47 (fun M6 H locs eM6 hW => ?_)
    have h := h M6 eM6
    exact r_vret S hr hlk hW h dX5_note_50
abbrev rmX5_serve : Room := { frames := 2, cells := 0, slots := 0, locals := 44 }
set_option maxHeartbeats 4000000 in
set_option maxRecDepth 100000 in
theorem mX5_serve (l : Launch) (D : va_G) (T : Nat → ClassId) (σ : Nat → Nat) (M : Mem) (a2 : Int32) (a3 : Int32) (a4 : Int32) (a5 : Int32) (post : Mem → Prop) (h : qX5_serve a2 a3 a4 a5 M post) : Met l yX5_serve wsX5_serve rmX5_serve (preW D T LH σ [.ref (σ 4), .ref (σ 1), .int a2, .int a3, .int a4, .int a5] M) (postV D T LH σ post) 0 0 (fA LH σ) := by
  refine m_of (cc := cX5_serve) (maxL := 12) (ret := none) (own := RX5) (by decide) rfl rfl (Nat.le_of_ble_eq_true rfl) ?_
  intro p e s m args below meth c H ls locs S hr hlk hl hW
  have hl : lv_has ls 12 [(0, .ref (σ 4)), (1, .ref (σ 1)), (2, .int a2), (3, .int a3), (4, .int a4), (5, .int a5)] := hl
  have inX5 : ∀ w ∈ u_ws RX5 TX5 6, w ∈ wsX5_serve := by decide +kernel
  have f13 := S.2.2.2.2 (.fieldLink RX5 13 "MachineHall$Waiting" "greatest" "I") (by decide +kernel)
  have f17 := S.2.2.2.2 (.fieldLink RX5 17 "MachineHall$Waiting" "together" "I") (by decide +kernel)
  have f20 := S.2.2.2.2 (.fieldLink RX5 20 "MachineHall$Waiting" "came" "I") (by decide +kernel)
  have f23 := S.2.2.2.2 (.fieldLink RX5 23 "MachineHall$Waiting" "waited" "I") (by decide +kernel)
  have f26 := S.2.2.2.2 (.fieldLink RX5 26 "MachineHall$Waiting" "end" "I") (by decide +kernel)
  have f9 := S.2.2.2.2 (.fieldLink RX5 9 "MachineHall$Waiting" "freeAt" "[I") (by decide +kernel)
  have w29 := va_cwS (R := rmX5_serve) (rm := rmJ7_fill_53178) (mc := 0) (ms := 0) 2 S.2.2.2.2 gX5_serve_J7_fill_53178 rfl rfl rfl (by decide +kernel) ⟨Nat.le_of_ble_eq_true rfl, Nat.le_of_ble_eq_true rfl⟩
  have w35 := cwV (R := rmX5_serve) (rm := rmX4_at) (mc := 0) (ms := 0) 2 S.2.2.2.2 gX5_serve_X4_at rfl rfl rfl (by decide +kernel) ⟨Nat.le_of_ble_eq_true rfl, Nat.le_of_ble_eq_true rfl⟩
  have l41 := S.2.2.2.2 (.methodLink RX5 41 Lib.Math.max.name) (by decide +kernel)
  have smax := S.2.2.2.2 (.static Lib.Math.max.name) (by decide +kernel)
  have omax := S.2.2.2.2 (.code Lib.Math.max.name Lib.Math.max.code 2 (some .int)) (by decide +kernel)
  have iMath := S.2.2.2.2 (.initialized "java/lang/Math") (by decide +kernel)
  have w47 := cwV (R := rmX5_serve) (rm := rmX5_note) (mc := 0) (ms := 0) 1 S.2.2.2.2 gX5_serve_X5_note rfl rfl rfl (by decide +kernel) ⟨Nat.le_of_ble_eq_true rfl, Nat.le_of_ble_eq_true rfl⟩
  obtain ⟨R39, e39⟩ : ∃ R : Int32 → Int32 → Mem → Prop, ∀ x6 x7 M, R x6 x7 M ↔ WW p l e rmX5_serve s m args below meth c D T LH σ 12 (MQ below (postV D T LH σ post) args s 0 0 (fA LH σ)) 39 [(0, .ref (σ 4)), (1, .ref (σ 1)), (2, .int a2), (3, .int a3), (4, .int a4), (5, .int a5), (6, .int x6), (7, .int x7)] [] M := ⟨_, fun _ _ _ => Iff.rfl⟩
  obtain ⟨R57, e57⟩ : ∃ R : Int32 → Int32 → Int64 → Int32 → Mem → Prop, ∀ x6 x7 x8 x10 M, R x6 x7 x8 x10 M ↔ WW p l e rmX5_serve s m args below meth c D T LH σ 12 (MQ below (postV D T LH σ post) args s 0 0 (fA LH σ)) 57 [(0, .ref (σ 4)), (1, .ref (σ 1)), (2, .int a2), (3, .int a3), (4, .int a4), (5, .int a5), (6, .int x6), (7, .int x7), (8, .long x8), (10, .int x10)] [] M := ⟨_, fun _ _ _ _ _ => Iff.rfl⟩
  have h := h R39 R57
  have z39 : ∀ x6 x7 M, qX5_serve_b39 a2 a3 a4 a5 post R39 R57 x6 x7 M → R39 x6 x7 M := by
    intro x6 x7 M h
    refine (e39 _ _ _).mpr (fun H locs ls hW hl => ?_)
    refine lv_iload S.1 S.2.1 dX5_serve_39 (lv_at hl 7 rfl) ?_
    refine lv_iload_n S.1 S.2.1 dX5_serve_41 rfl (lv_at hl 3 rfl) ?_
    refine lv_icmp_ge (tgt := 140) S.1 S.2.1 dX5_serve_42 (by decide) (fun c8 => ?_) (fun c8 => ?_)
    · have h := h.1 c8
      exact r_vret S hr hlk hW h dX5_serve_140
    · have h := h.2 c8
      refine lv_aload_n S.1 S.2.1 dX5_serve_45 rfl (lv_at hl 1 rfl) ?_
      refine lv_iload_n S.1 S.2.1 dX5_serve_46 rfl (lv_at hl 2 rfl) ?_
      refine lv_iload S.1 S.2.1 dX5_serve_47 (lv_at hl 7 rfl) ?_
      refine r_goL (r_runV (rest := []) S hW (mX4_at l D T σ M a2 x7 _ h) w35 rfl LH_1 rfl hl.1 rfl (Nat.le_of_ble_eq_true rfl) dX5_serve_49 ⟨Nat.zero_le _, Nat.zero_le _⟩) hW (fun r9 M10 H locs h hW => ?_)
      refine lv_lstore (lv' := [(8, .long r9), (0, .ref (σ 4)), (1, .ref (σ 1)), (2, .int a2), (3, .int a3), (4, .int a4), (5, .int a5), (6, .int x6), (7, .int x7)]) S.1 S.2.1 dX5_serve_52 hl (by decide) rfl (fun ls hl => ?_)
      refine lv_iconst (v := 0) S.1 S.2.1 dX5_serve_54 rfl ?_
      refine lv_istore (lv' := [(10, .int (0 : Int32)), (8, .long r9), (0, .ref (σ 4)), (1, .ref (σ 1)), (2, .int a2), (3, .int a3), (4, .int a4), (5, .int a5), (6, .int x6), (7, .int x7)]) S.1 S.2.1 dX5_serve_55 hl (by decide) rfl (fun ls hl => ?_)
      exact (e57 _ _ _ _ _).mp h H locs ls hW (lv_sub hl [2, 3, 4, 5, 6, 7, 8, 9, 1, 0] rfl)
  have z57 : ∀ x6 x7 x8 x10 M, qX5_serve_b57 a2 a3 a4 a5 post R39 R57 x6 x7 x8 x10 M → R57 x6 x7 x8 x10 M := by
    intro x6 x7 x8 x10 M h
    refine (e57 _ _ _ _ _).mpr (fun H locs ls hW hl => ?_)
    refine lv_iload S.1 S.2.1 dX5_serve_57 (lv_at hl 9 rfl) ?_
    refine lv_i2l S.1 S.2.1 dX5_serve_59 rfl ?_
    refine lv_lload S.1 S.2.1 dX5_serve_60 (lv_at hl 8 rfl) ?_
    refine W.lcmp S.1 S.2.1 dX5_serve_62 ?_
    refine lv_if_ge (tgt := 134) S.1 S.2.1 dX5_serve_63 (by decide) (fun c11 => ?_) (fun c11 => ?_)
    · have h := h.1 c11
      obtain ⟨v12, ev12⟩ : ∃ y : Int32, y = x7 + 1 := ⟨_, rfl⟩
      have h := h v12 ev12
      refine lv_iinc (v := v12) (lv' := [(7, .int v12), (0, .ref (σ 4)), (1, .ref (σ 1)), (2, .int a2), (3, .int a3), (4, .int a4), (5, .int a5), (6, .int x6), (8, .long x8), (10, .int x10)]) S.1 S.2.1 dX5_serve_134 hl (k := 7) rfl (by rw [ev12]; rfl) (by decide) rfl (fun ls hl => ?_)
      refine lv_goto (tgt := 39) S.1 S.2.1 dX5_serve_137 (by decide) ?_
      exact (e39 _ _ _).mp h H locs ls hW (lv_sub hl [1, 2, 3, 4, 5, 6, 7, 0] rfl)
    · have h := h.2 c11
      refine lv_iload S.1 S.2.1 dX5_serve_66 (lv_at hl 7 rfl) ?_
      refine lv_aload_n S.1 S.2.1 dX5_serve_68 rfl (lv_at hl 0 rfl) ?_
      refine r_getR (j := 5) S hW inX5 rfl f9 rfl LH_4 (by decide) rfl dX5_serve_69 ?_
      refine lv_iload S.1 S.2.1 dX5_serve_72 (lv_at hl 6 rfl) ?_
      have b13 := h.1
      have h := h.2
      refine r_iald S hW LH_24 b13 dX5_serve_74 ?_
      refine r_max S hl.1 l41 smax iMath omax (Nat.le_of_ble_eq_true rfl) (Nat.le_of_ble_eq_true rfl) (Nat.zero_le _) (Nat.zero_le _) dX5_serve_75 ?_
      refine lv_topi (fun v14 ev14 => ?_)
      have h := h v14 ev14
      refine lv_istore (lv' := [(11, .int v14), (0, .ref (σ 4)), (1, .ref (σ 1)), (2, .int a2), (3, .int a3), (4, .int a4), (5, .int a5), (6, .int x6), (7, .int x7), (8, .long x8), (10, .int x10)]) S.1 S.2.1 dX5_serve_78 hl (by decide) rfl (fun ls hl => ?_)
      refine lv_aload_n S.1 S.2.1 dX5_serve_80 rfl (lv_at hl 1 rfl) ?_
      refine lv_iload S.1 S.2.1 dX5_serve_81 (lv_at hl 0 rfl) ?_
      refine lv_iload S.1 S.2.1 dX5_serve_83 (lv_at hl 8 rfl) ?_
      refine lv_isub S.1 S.2.1 dX5_serve_85 ?_
      refine r_goV (r_runV (rest := []) S hW (mX5_note l D T σ M (v14 - x7) _ h) w47 rfl LH_4 rfl hl.1 rfl (Nat.le_of_ble_eq_true rfl) dX5_serve_86 ⟨Nat.zero_le _, Nat.zero_le _⟩) hW (fun M16 H locs h hW => ?_)
      refine lv_aload_n S.1 S.2.1 dX5_serve_89 rfl (lv_at hl 1 rfl) ?_
      refine lv_iload S.1 S.2.1 dX5_serve_90 (lv_at hl 0 rfl) ?_
      refine lv_iload S.1 S.2.1 dX5_serve_92 (lv_at hl 6 rfl) ?_
      refine lv_iadd S.1 S.2.1 dX5_serve_94 ?_
      refine r_putI (j := 4) S hW inX5 rfl f26 rfl LH_4 (by decide) rfl tyX5 tyX5_ok nmX5 rfl rfl rfl dX5_serve_95 (fun M17 H locs eM17 hW => ?_)
      have h := h M17 eM17
      refine lv_aload_n S.1 S.2.1 dX5_serve_98 rfl (lv_at hl 1 rfl) ?_
      refine r_getR (j := 5) S hW inX5 rfl f9 rfl LH_4 (by decide) rfl dX5_serve_99 ?_
      refine lv_iload S.1 S.2.1 dX5_serve_102 (lv_at hl 7 rfl) ?_
      refine lv_aload_n S.1 S.2.1 dX5_serve_104 rfl (lv_at hl 1 rfl) ?_
      refine r_getI (j := 4) S hW inX5 rfl f26 rfl LH_4 (by decide) rfl dX5_serve_105 ?_
      have b18 := h.1
      have h := h.2
      refine r_iast S hW LH_24 b18 dX5_serve_108 (fun M19 H locs eM19 hW => ?_)
      have h := h M19 eM19
      refine lv_iload S.1 S.2.1 dX5_serve_109 (lv_at hl 7 rfl) ?_
      refine lv_iconst (v := 1) S.1 S.2.1 dX5_serve_111 rfl ?_
      refine lv_iadd S.1 S.2.1 dX5_serve_112 ?_
      refine lv_iload S.1 S.2.1 dX5_serve_113 (lv_at hl 5 rfl) ?_
      refine lv_icmp_ge (tgt := 125) S.1 S.2.1 dX5_serve_115 (by decide) (fun c20 => ?_) (fun c20 => ?_)
      · have h := h.1 c20
        refine lv_iconst (v := 0) S.1 S.2.1 dX5_serve_125 rfl ?_
        refine lv_istore (lv' := [(6, .int (0 : Int32)), (11, .int v14), (0, .ref (σ 4)), (1, .ref (σ 1)), (2, .int a2), (3, .int a3), (4, .int a4), (5, .int a5), (7, .int x7), (8, .long x8), (10, .int x10)]) S.1 S.2.1 dX5_serve_126 hl (by decide) rfl (fun ls hl => ?_)
        obtain ⟨v21, ev21⟩ : ∃ y : Int32, y = x10 + 1 := ⟨_, rfl⟩
        have h := h v21 ev21
        refine lv_iinc (v := v21) (lv' := [(10, .int v21), (6, .int (0 : Int32)), (11, .int v14), (0, .ref (σ 4)), (1, .ref (σ 1)), (2, .int a2), (3, .int a3), (4, .int a4), (5, .int a5), (7, .int x7), (8, .long x8)]) S.1 S.2.1 dX5_serve_128 hl (k := 10) rfl (by rw [ev21]; rfl) (by decide) rfl (fun ls hl => ?_)
        refine lv_goto (tgt := 57) S.1 S.2.1 dX5_serve_131 (by decide) ?_
        exact (e57 _ _ _ _ _).mp h H locs ls hW (lv_sub hl [3, 4, 5, 6, 7, 8, 1, 9, 10, 0] rfl)
      · have h := h.2 c20
        refine lv_iload S.1 S.2.1 dX5_serve_118 (lv_at hl 7 rfl) ?_
        refine lv_iconst (v := 1) S.1 S.2.1 dX5_serve_120 rfl ?_
        refine lv_iadd S.1 S.2.1 dX5_serve_121 ?_
        refine lv_goto (tgt := 126) S.1 S.2.1 dX5_serve_122 (by decide) ?_
        refine lv_topi (fun v22 ev22 => ?_)
        have h := h v22 ev22
        refine lv_istore (lv' := [(6, .int v22), (11, .int v14), (0, .ref (σ 4)), (1, .ref (σ 1)), (2, .int a2), (3, .int a3), (4, .int a4), (5, .int a5), (7, .int x7), (8, .long x8), (10, .int x10)]) S.1 S.2.1 dX5_serve_126 hl (by decide) rfl (fun ls hl => ?_)
        obtain ⟨v23, ev23⟩ : ∃ y : Int32, y = x10 + 1 := ⟨_, rfl⟩
        have h := h v23 ev23
        refine lv_iinc (v := v23) (lv' := [(10, .int v23), (6, .int v22), (11, .int v14), (0, .ref (σ 4)), (1, .ref (σ 1)), (2, .int a2), (3, .int a3), (4, .int a4), (5, .int a5), (7, .int x7), (8, .long x8)]) S.1 S.2.1 dX5_serve_128 hl (k := 10) rfl (by rw [ev23]; rfl) (by decide) rfl (fun ls hl => ?_)
        refine lv_goto (tgt := 57) S.1 S.2.1 dX5_serve_131 (by decide) ?_
        exact (e57 _ _ _ _ _).mp h H locs ls hW (lv_sub hl [3, 4, 5, 6, 7, 8, 1, 9, 10, 0] rfl)
  have h := h z39 z57
  refine lv_aload_n S.1 S.2.1 dX5_serve_0 rfl (lv_at hl 0 rfl) ?_
  refine lv_iconst (v := 0) S.1 S.2.1 dX5_serve_1 rfl ?_
  refine r_putI (j := 0) S hW inX5 rfl f13 rfl LH_4 (by decide) rfl tyX5 tyX5_ok nmX5 rfl rfl rfl dX5_serve_2 (fun M1 H locs eM1 hW => ?_)
  have h := h M1 eM1
  refine lv_aload_n S.1 S.2.1 dX5_serve_5 rfl (lv_at hl 0 rfl) ?_
  refine lv_iconst (v := 0) S.1 S.2.1 dX5_serve_6 rfl ?_
  refine r_putI (j := 1) S hW inX5 rfl f17 rfl LH_4 (by decide) rfl tyX5 tyX5_ok nmX5 rfl rfl rfl dX5_serve_7 (fun M2 H locs eM2 hW => ?_)
  have h := h M2 eM2
  refine lv_aload_n S.1 S.2.1 dX5_serve_10 rfl (lv_at hl 0 rfl) ?_
  refine lv_iconst (v := 0) S.1 S.2.1 dX5_serve_11 rfl ?_
  refine r_putI (j := 2) S hW inX5 rfl f20 rfl LH_4 (by decide) rfl tyX5 tyX5_ok nmX5 rfl rfl rfl dX5_serve_12 (fun M3 H locs eM3 hW => ?_)
  have h := h M3 eM3
  refine lv_aload_n S.1 S.2.1 dX5_serve_15 rfl (lv_at hl 0 rfl) ?_
  refine lv_iconst (v := 0) S.1 S.2.1 dX5_serve_16 rfl ?_
  refine r_putI (j := 3) S hW inX5 rfl f23 rfl LH_4 (by decide) rfl tyX5 tyX5_ok nmX5 rfl rfl rfl dX5_serve_17 (fun M4 H locs eM4 hW => ?_)
  have h := h M4 eM4
  refine lv_aload_n S.1 S.2.1 dX5_serve_20 rfl (lv_at hl 0 rfl) ?_
  refine lv_iconst (v := 0) S.1 S.2.1 dX5_serve_21 rfl ?_
  refine r_putI (j := 4) S hW inX5 rfl f26 rfl LH_4 (by decide) rfl tyX5 tyX5_ok nmX5 rfl rfl rfl dX5_serve_22 (fun M5 H locs eM5 hW => ?_)
  have h := h M5 eM5
  refine lv_aload_n S.1 S.2.1 dX5_serve_25 rfl (lv_at hl 0 rfl) ?_
  refine r_getR (j := 5) S hW inX5 rfl f9 rfl LH_4 (by decide) rfl dX5_serve_26 ?_
  refine lv_iconst (v := 0) S.1 S.2.1 dX5_serve_29 rfl ?_
  refine r_goV (r_runS (rest := []) S hW (mJ7_fill_53178 l D T LH σ 24 LH_24  M5 (0 : Int32) _ h) w29 rfl hl.1 rfl (Nat.le_of_ble_eq_true rfl) dX5_serve_30 ⟨Nat.zero_le _, Nat.zero_le _⟩) hW (fun M7 H locs h hW => ?_)
  refine lv_iconst (v := 0) S.1 S.2.1 dX5_serve_33 rfl ?_
  refine lv_istore (lv' := [(6, .int (0 : Int32)), (0, .ref (σ 4)), (1, .ref (σ 1)), (2, .int a2), (3, .int a3), (4, .int a4), (5, .int a5)]) S.1 S.2.1 dX5_serve_34 hl (by decide) rfl (fun ls hl => ?_)
  refine lv_iconst (v := 0) S.1 S.2.1 dX5_serve_36 rfl ?_
  refine lv_istore (lv' := [(7, .int (0 : Int32)), (6, .int (0 : Int32)), (0, .ref (σ 4)), (1, .ref (σ 1)), (2, .int a2), (3, .int a3), (4, .int a4), (5, .int a5)]) S.1 S.2.1 dX5_serve_37 hl (by decide) rfl (fun ls hl => ?_)
  exact (e39 _ _ _).mp h H locs ls hW (lv_sub hl [2, 3, 4, 5, 6, 7, 1, 0] rfl)
abbrev rmX5_told : Room := { frames := 0, cells := 0, slots := 0, locals := 0 }
set_option maxHeartbeats 4000000 in
set_option maxRecDepth 100000 in
theorem mX5_told (l : Launch) (D : va_G) (T : Nat → ClassId) (σ : Nat → Nat) (M : Mem) (a1 : Int32) (post : Int32 → Mem → Prop) (h : qX5_told a1 M post) : Met l yX5_told wsX5_told rmX5_told (preW D T LH σ [.ref (σ 4), .int a1] M) (postI D T LH σ post) 0 0 (fA LH σ) := by
  refine m_of (cc := cX5_told) (maxL := 2) (ret := (some .int)) (own := RX5) (by decide) rfl rfl (Nat.le_of_ble_eq_true rfl) ?_
  intro p e s m args below meth c H ls locs S hr hlk hl hW
  have hl : lv_has ls 2 [(0, .ref (σ 4)), (1, .int a1)] := hl
  have inX5 : ∀ w ∈ u_ws RX5 TX5 6, w ∈ wsX5_told := by decide +kernel
  have f13 := S.2.2.2.2 (.fieldLink RX5 13 "MachineHall$Waiting" "greatest" "I") (by decide +kernel)
  have f17 := S.2.2.2.2 (.fieldLink RX5 17 "MachineHall$Waiting" "together" "I") (by decide +kernel)
  have f20 := S.2.2.2.2 (.fieldLink RX5 20 "MachineHall$Waiting" "came" "I") (by decide +kernel)
  have f23 := S.2.2.2.2 (.fieldLink RX5 23 "MachineHall$Waiting" "waited" "I") (by decide +kernel)
  have f26 := S.2.2.2.2 (.fieldLink RX5 26 "MachineHall$Waiting" "end" "I") (by decide +kernel)
  refine lv_iload_n S.1 S.2.1 dX5_told_0 rfl (lv_at hl 1 rfl) ?_
  refine r_ts S dX5_told_1 (by decide) (fun k off ho hx => ?_) (by decide) (by decide) (fun hx => ?_)
  · match k, ho with
    | 0, ho =>
      cases ho
      have h := h.1 hx
      refine lv_aload_n S.1 S.2.1 dX5_told_32 rfl (lv_at hl 0 rfl) ?_
      refine r_getI (j := 0) S hW inX5 rfl f13 rfl LH_4 (by decide) rfl dX5_told_33 ?_
      exact r_iret S hr hlk hW h dX5_told_36
    | 1, ho =>
      cases ho
      have h := h.2.1 hx
      refine lv_aload_n S.1 S.2.1 dX5_told_37 rfl (lv_at hl 0 rfl) ?_
      refine r_getI (j := 1) S hW inX5 rfl f17 rfl LH_4 (by decide) rfl dX5_told_38 ?_
      exact r_iret S hr hlk hW h dX5_told_41
    | 2, ho =>
      cases ho
      have h := h.2.2.1 hx
      refine lv_aload_n S.1 S.2.1 dX5_told_42 rfl (lv_at hl 0 rfl) ?_
      refine r_getI (j := 2) S hW inX5 rfl f20 rfl LH_4 (by decide) rfl dX5_told_43 ?_
      exact r_iret S hr hlk hW h dX5_told_46
    | 3, ho =>
      cases ho
      have h := h.2.2.2.1 hx
      refine lv_aload_n S.1 S.2.1 dX5_told_47 rfl (lv_at hl 0 rfl) ?_
      refine r_getI (j := 3) S hW inX5 rfl f23 rfl LH_4 (by decide) rfl dX5_told_48 ?_
      exact r_iret S hr hlk hW h dX5_told_51
    | k + 4, ho => simp at ho
  · have h := h.2.2.2.2 hx
    refine lv_aload_n S.1 S.2.1 dX5_told_52 rfl (lv_at hl 0 rfl) ?_
    refine r_getI (j := 4) S hW inX5 rfl f26 rfl LH_4 (by decide) rfl dX5_told_53 ?_
    exact r_iret S hr hlk hW h dX5_told_56
abbrev rmX2_want : Room := { frames := 1, cells := 0, slots := 0, locals := 22 }
set_option maxHeartbeats 4000000 in
set_option maxRecDepth 100000 in
theorem mX2_want (l : Launch) (D : va_G) (T : Nat → ClassId) (σ : Nat → Nat) (M : Mem) (a2 : Int32) (post : Mem → Prop) (h : qX2_want a2 M post) : Met l yX2_want wsX2_want rmX2_want (preW D T LH σ [.ref (σ 5), .ref (σ 1), .int a2] M) (postV D T LH σ post) 0 0 (fA LH σ) := by
  refine m_of (cc := cX2_want) (maxL := 4) (ret := none) (own := RX2) (by decide) rfl rfl (Nat.le_of_ble_eq_true rfl) ?_
  intro p e s m args below meth c H ls locs S hr hlk hl hW
  have hl : lv_has ls 4 [(0, .ref (σ 5)), (1, .ref (σ 1)), (2, .int a2)] := hl
  have inX2 : ∀ w ∈ u_ws RX2 TX2 12, w ∈ wsX2_want := by decide +kernel
  have f57 := S.2.2.2.2 (.fieldLink RX2 57 "MachineHall$Market" "solved" "Z") (by decide +kernel)
  have f16 := S.2.2.2.2 (.fieldLink RX2 16 "MachineHall$Market" "wants" "[I") (by decide +kernel)
  have w51 := cwV (R := rmX2_want) (rm := rmX4_at) (mc := 0) (ms := 0) 2 S.2.2.2.2 gX2_want_X4_at rfl rfl rfl (by decide +kernel) ⟨Nat.le_of_ble_eq_true rfl, Nat.le_of_ble_eq_true rfl⟩
  obtain ⟨R2, e2⟩ : ∃ R : Int32 → Mem → Prop, ∀ x3 M, R x3 M ↔ WW p l e rmX2_want s m args below meth c D T LH σ 4 (MQ below (postV D T LH σ post) args s 0 0 (fA LH σ)) 2 [(0, .ref (σ 5)), (1, .ref (σ 1)), (2, .int a2), (3, .int x3)] [] M := ⟨_, fun _ _ => Iff.rfl⟩
  have h := h R2
  have z2 : ∀ x3 M, qX2_want_b2 a2 post R2 x3 M → R2 x3 M := by
    intro x3 M h
    refine (e2 _ _).mpr (fun H locs ls hW hl => ?_)
    refine lv_iload_n S.1 S.2.1 dX2_want_2 rfl (lv_at hl 3 rfl) ?_
    refine lv_bipush (v := 12) S.1 S.2.1 dX2_want_3 rfl ?_
    refine lv_icmp_ge (tgt := 27) S.1 S.2.1 dX2_want_5 (by decide) (fun c1 => ?_) (fun c1 => ?_)
    · have h := h.1 c1
      refine lv_aload_n S.1 S.2.1 dX2_want_27 rfl (lv_at hl 0 rfl) ?_
      refine lv_iconst (v := 0) S.1 S.2.1 dX2_want_28 rfl ?_
      refine r_putI (j := 11) S hW inX2 rfl f57 rfl LH_5 (by decide) rfl tyX2 tyX2_ok nmX2 rfl rfl rfl dX2_want_29 (fun M2 H locs eM2 hW => ?_)
      have h := h M2 eM2
      exact r_vret S hr hlk hW h dX2_want_32
    · have h := h.2 c1
      refine lv_aload_n S.1 S.2.1 dX2_want_8 rfl (lv_at hl 0 rfl) ?_
      refine r_getR (j := 4) S hW inX2 rfl f16 rfl LH_5 (by decide) rfl dX2_want_9 ?_
      refine lv_iload_n S.1 S.2.1 dX2_want_12 rfl (lv_at hl 3 rfl) ?_
      refine lv_aload_n S.1 S.2.1 dX2_want_13 rfl (lv_at hl 1 rfl) ?_
      refine lv_iload_n S.1 S.2.1 dX2_want_14 rfl (lv_at hl 2 rfl) ?_
      refine lv_iload_n S.1 S.2.1 dX2_want_15 rfl (lv_at hl 3 rfl) ?_
      refine r_goL (r_runV (rest := [.int x3, .ref (σ 26)]) S hW (mX4_at l D T σ M a2 x3 _ h) w51 rfl LH_1 rfl hl.1 rfl (Nat.le_of_ble_eq_true rfl) dX2_want_16 ⟨Nat.zero_le _, Nat.zero_le _⟩) hW (fun r3 M4 H locs h hW => ?_)
      refine lv_l2i S.1 S.2.1 dX2_want_19 rfl ?_
      have b5 := h.1
      have h := h.2
      refine r_iast S hW LH_26 b5 dX2_want_20 (fun M6 H locs eM6 hW => ?_)
      have h := h M6 eM6
      obtain ⟨v7, ev7⟩ : ∃ y : Int32, y = x3 + 1 := ⟨_, rfl⟩
      have h := h v7 ev7
      refine lv_iinc (v := v7) (lv' := [(3, .int v7), (0, .ref (σ 5)), (1, .ref (σ 1)), (2, .int a2)]) S.1 S.2.1 dX2_want_21 hl (k := 3) rfl (by rw [ev7]; rfl) (by decide) rfl (fun ls hl => ?_)
      refine lv_goto (tgt := 2) S.1 S.2.1 dX2_want_24 (by decide) ?_
      exact (e2 _ _).mp h H locs ls hW (lv_sub hl [1, 2, 3, 0] rfl)
  have h := h z2
  refine lv_iconst (v := 0) S.1 S.2.1 dX2_want_0 rfl ?_
  refine lv_istore_n (lv' := [(3, .int (0 : Int32)), (0, .ref (σ 5)), (1, .ref (σ 1)), (2, .int a2)]) S.1 S.2.1 dX2_want_1 rfl hl (by decide) rfl (fun ls hl => ?_)
  exact (e2 _ _).mp h H locs ls hW (lv_sub hl [1, 2, 3, 0] rfl)
abbrev rmX2_own : Room := { frames := 0, cells := 0, slots := 0, locals := 0 }
set_option maxHeartbeats 4000000 in
set_option maxRecDepth 100000 in
theorem mX2_own (l : Launch) (D : va_G) (T : Nat → ClassId) (σ : Nat → Nat) (M : Mem) (a1 : Int32) (post : Mem → Prop) (h : qX2_own a1 M post) : Met l yX2_own wsX2_own rmX2_own (preW D T LH σ [.ref (σ 5), .int a1] M) (postV D T LH σ post) 0 0 (fA LH σ) := by
  refine m_of (cc := cX2_own) (maxL := 2) (ret := none) (own := RX2) (by decide) rfl rfl (Nat.le_of_ble_eq_true rfl) ?_
  intro p e s m args below meth c H ls locs S hr hlk hl hW
  have hl : lv_has ls 2 [(0, .ref (σ 5)), (1, .int a1)] := hl
  have inX2 : ∀ w ∈ u_ws RX2 TX2 12, w ∈ wsX2_own := by decide +kernel
  have f61 := S.2.2.2.2 (.fieldLink RX2 61 "MachineHall$Market" "owned" "I") (by decide +kernel)
  have f57 := S.2.2.2.2 (.fieldLink RX2 57 "MachineHall$Market" "solved" "Z") (by decide +kernel)
  refine lv_aload_n S.1 S.2.1 dX2_own_0 rfl (lv_at hl 0 rfl) ?_
  refine lv_iload_n S.1 S.2.1 dX2_own_1 rfl (lv_at hl 1 rfl) ?_
  refine r_putI (j := 3) S hW inX2 rfl f61 rfl LH_5 (by decide) rfl tyX2 tyX2_ok nmX2 rfl rfl rfl dX2_own_2 (fun M1 H locs eM1 hW => ?_)
  have h := h M1 eM1
  refine lv_aload_n S.1 S.2.1 dX2_own_5 rfl (lv_at hl 0 rfl) ?_
  refine lv_iconst (v := 0) S.1 S.2.1 dX2_own_6 rfl ?_
  refine r_putI (j := 11) S hW inX2 rfl f57 rfl LH_5 (by decide) rfl tyX2 tyX2_ok nmX2 rfl rfl rfl dX2_own_7 (fun M2 H locs eM2 hW => ?_)
  have h := h M2 eM2
  exact r_vret S hr hlk hW h dX2_own_10
abbrev rmX2_addType : Room := { frames := 1, cells := 0, slots := 0, locals := 22 }
set_option maxHeartbeats 4000000 in
set_option maxRecDepth 100000 in
theorem mX2_addType (l : Launch) (D : va_G) (T : Nat → ClassId) (σ : Nat → Nat) (M : Mem) (a1 : Int32) (a2 : Int32) (a3 : Int32) (a5 : Int32) (post : Int32 → Mem → Prop) (h : qX2_addType a1 a2 a3 a5 M post) : Met l yX2_addType wsX2_addType rmX2_addType (preW D T LH σ [.ref (σ 5), .int a1, .int a2, .int a3, .ref (σ 1), .int a5] M) (postI D T LH σ post) 0 0 (fA LH σ) := by
  refine m_of (cc := cX2_addType) (maxL := 8) (ret := (some .int)) (own := RX2) (by decide) rfl rfl (Nat.le_of_ble_eq_true rfl) ?_
  intro p e s m args below meth c H ls locs S hr hlk hl hW
  have hl : lv_has ls 8 [(0, .ref (σ 5)), (1, .int a1), (2, .int a2), (3, .int a3), (4, .ref (σ 1)), (5, .int a5)] := hl
  have inX2 : ∀ w ∈ u_ws RX2 TX2 12, w ∈ wsX2_addType := by decide +kernel
  have f39 := S.2.2.2.2 (.fieldLink RX2 39 "MachineHall$Market" "types" "I") (by decide +kernel)
  have f20 := S.2.2.2.2 (.fieldLink RX2 20 "MachineHall$Market" "sizes" "[I") (by decide +kernel)
  have f23 := S.2.2.2.2 (.fieldLink RX2 23 "MachineHall$Market" "leads" "[I") (by decide +kernel)
  have f26 := S.2.2.2.2 (.fieldLink RX2 26 "MachineHall$Market" "powers" "[I") (by decide +kernel)
  have f57 := S.2.2.2.2 (.fieldLink RX2 57 "MachineHall$Market" "solved" "Z") (by decide +kernel)
  have f29 := S.2.2.2.2 (.fieldLink RX2 29 "MachineHall$Market" "prices" "[[I") (by decide +kernel)
  have w51 := cwV (R := rmX2_addType) (rm := rmX4_at) (mc := 0) (ms := 0) 2 S.2.2.2.2 gX2_addType_X4_at rfl rfl rfl (by decide +kernel) ⟨Nat.le_of_ble_eq_true rfl, Nat.le_of_ble_eq_true rfl⟩
  obtain ⟨R40, e40⟩ : ∃ R : Int32 → Int32 → Mem → Prop, ∀ x6 x7 M, R x6 x7 M ↔ WW p l e rmX2_addType s m args below meth c D T LH σ 8 (MQ below (postI D T LH σ post) args s 0 0 (fA LH σ)) 40 [(0, .ref (σ 5)), (4, .ref (σ 1)), (5, .int a5), (6, .int x6), (7, .int x7)] [] M := ⟨_, fun _ _ _ => Iff.rfl⟩
  have h := h R40
  have z40 : ∀ x6 x7 M, qX2_addType_b40 a1 a2 a3 a5 post R40 x6 x7 M → R40 x6 x7 M := by
    intro x6 x7 M h
    refine (e40 _ _ _).mpr (fun H locs ls hW hl => ?_)
    refine lv_iload S.1 S.2.1 dX2_addType_40 (lv_at hl 4 rfl) ?_
    refine lv_bipush (v := 12) S.1 S.2.1 dX2_addType_42 rfl ?_
    refine lv_icmp_ge (tgt := 73) S.1 S.2.1 dX2_addType_44 (by decide) (fun c9 => ?_) (fun c9 => ?_)
    · have h := h.1 c9
      refine lv_aload_n S.1 S.2.1 dX2_addType_73 rfl (lv_at hl 0 rfl) ?_
      refine lv_iconst (v := 0) S.1 S.2.1 dX2_addType_74 rfl ?_
      refine r_putI (j := 11) S hW inX2 rfl f57 rfl LH_5 (by decide) rfl tyX2 tyX2_ok nmX2 rfl rfl rfl dX2_addType_75 (fun M10 H locs eM10 hW => ?_)
      have h := h M10 eM10
      refine lv_iload S.1 S.2.1 dX2_addType_78 (lv_at hl 3 rfl) ?_
      exact r_iret S hr hlk hW h dX2_addType_80
    · have h := h.2 c9
      refine lv_aload_n S.1 S.2.1 dX2_addType_47 rfl (lv_at hl 0 rfl) ?_
      refine r_getR (j := 8) S hW inX2 rfl f29 rfl LH_5 (by decide) rfl dX2_addType_48 ?_
      refine lv_iload S.1 S.2.1 dX2_addType_51 (lv_at hl 3 rfl) ?_
      have b11 := h.1
      have h := h.2
      refine r_aald (t := 0) S hW LH_30 (by decide) b11 dX2_addType_53 ?_
      refine lv_iload S.1 S.2.1 dX2_addType_54 (lv_at hl 4 rfl) ?_
      refine lv_aload S.1 S.2.1 dX2_addType_56 (lv_at hl 1 rfl) ?_
      refine lv_iload S.1 S.2.1 dX2_addType_58 (lv_at hl 2 rfl) ?_
      refine lv_iload S.1 S.2.1 dX2_addType_60 (lv_at hl 4 rfl) ?_
      refine r_goL (r_runV (rest := [.int x7, .ref (σ (62 + x6.toNatClampNeg))]) S hW (mX4_at l D T σ M a5 x7 _ h) w51 rfl LH_1 rfl hl.1 rfl (Nat.le_of_ble_eq_true rfl) dX2_addType_62 ⟨Nat.zero_le _, Nat.zero_le _⟩) hW (fun r12 M13 H locs h hW => ?_)
      refine lv_l2i S.1 S.2.1 dX2_addType_65 rfl ?_
      have b14 := h.1
      have h := h.2
      refine r_iast S hW (LHr_30 (vp_lt b11)) b14 dX2_addType_66 (fun M15 H locs eM15 hW => ?_)
      have h := h M15 eM15
      obtain ⟨v16, ev16⟩ : ∃ y : Int32, y = x7 + 1 := ⟨_, rfl⟩
      have h := h v16 ev16
      refine lv_iinc (v := v16) (lv' := [(7, .int v16), (0, .ref (σ 5)), (4, .ref (σ 1)), (5, .int a5), (6, .int x6)]) S.1 S.2.1 dX2_addType_67 hl (k := 4) rfl (by rw [ev16]; rfl) (by decide) rfl (fun ls hl => ?_)
      refine lv_goto (tgt := 40) S.1 S.2.1 dX2_addType_70 (by decide) ?_
      exact (e40 _ _ _).mp h H locs ls hW (lv_sub hl [1, 2, 3, 4, 0] rfl)
  have h := h z40
  refine lv_aload_n S.1 S.2.1 dX2_addType_0 rfl (lv_at hl 0 rfl) ?_
  refine lv_dup S.1 S.2.1 dX2_addType_1 rfl ?_
  refine r_getI (j := 0) S hW inX2 rfl f39 rfl LH_5 (by decide) rfl dX2_addType_2 ?_
  refine lv_dup_x1 S.1 S.2.1 dX2_addType_5 rfl rfl ?_
  refine lv_iconst (v := 1) S.1 S.2.1 dX2_addType_6 rfl ?_
  refine lv_iadd S.1 S.2.1 dX2_addType_7 ?_
  refine r_putI (j := 0) S hW inX2 rfl f39 rfl LH_5 (by decide) rfl tyX2 tyX2_ok nmX2 rfl rfl rfl dX2_addType_8 (fun M1 H locs eM1 hW => ?_)
  have h := h M1 eM1
  refine lv_topi (fun v2 ev2 => ?_)
  have h := h v2 ev2
  refine lv_istore (lv' := [(6, .int v2), (0, .ref (σ 5)), (1, .int a1), (2, .int a2), (3, .int a3), (4, .ref (σ 1)), (5, .int a5)]) S.1 S.2.1 dX2_addType_11 hl (by decide) rfl (fun ls hl => ?_)
  refine lv_aload_n S.1 S.2.1 dX2_addType_13 rfl (lv_at hl 1 rfl) ?_
  refine r_getR (j := 5) S hW inX2 rfl f20 rfl LH_5 (by decide) rfl dX2_addType_14 ?_
  refine lv_iload S.1 S.2.1 dX2_addType_17 (lv_at hl 0 rfl) ?_
  refine lv_iload_n S.1 S.2.1 dX2_addType_19 rfl (lv_at hl 2 rfl) ?_
  have b3 := h.1
  have h := h.2
  refine r_iast S hW LH_27 b3 dX2_addType_20 (fun M4 H locs eM4 hW => ?_)
  have h := h M4 eM4
  refine lv_aload_n S.1 S.2.1 dX2_addType_21 rfl (lv_at hl 1 rfl) ?_
  refine r_getR (j := 6) S hW inX2 rfl f23 rfl LH_5 (by decide) rfl dX2_addType_22 ?_
  refine lv_iload S.1 S.2.1 dX2_addType_25 (lv_at hl 0 rfl) ?_
  refine lv_iload_n S.1 S.2.1 dX2_addType_27 rfl (lv_at hl 3 rfl) ?_
  have b5 := h.1
  have h := h.2
  refine r_iast S hW LH_28 b5 dX2_addType_28 (fun M6 H locs eM6 hW => ?_)
  have h := h M6 eM6
  refine lv_aload_n S.1 S.2.1 dX2_addType_29 rfl (lv_at hl 1 rfl) ?_
  refine r_getR (j := 7) S hW inX2 rfl f26 rfl LH_5 (by decide) rfl dX2_addType_30 ?_
  refine lv_iload S.1 S.2.1 dX2_addType_33 (lv_at hl 0 rfl) ?_
  refine lv_iload_n S.1 S.2.1 dX2_addType_35 rfl (lv_at hl 4 rfl) ?_
  have b7 := h.1
  have h := h.2
  refine r_iast S hW LH_29 b7 dX2_addType_36 (fun M8 H locs eM8 hW => ?_)
  have h := h M8 eM8
  refine lv_iconst (v := 0) S.1 S.2.1 dX2_addType_37 rfl ?_
  refine lv_istore (lv' := [(7, .int (0 : Int32)), (6, .int v2), (0, .ref (σ 5)), (1, .int a1), (2, .int a2), (3, .int a3), (4, .ref (σ 1)), (5, .int a5)]) S.1 S.2.1 dX2_addType_38 hl (by decide) rfl (fun ls hl => ?_)
  exact (e40 _ _ _).mp h H locs ls hW (lv_sub hl [2, 6, 7, 1, 0] rfl)
abbrev rmJ7_rangeCheck_23922 : Room := { frames := 0, cells := 0, slots := 0, locals := 0 }
set_option maxHeartbeats 4000000 in
set_option maxRecDepth 100000 in
theorem mJ7_rangeCheck_23922 (l : Launch) (D : va_G) (T : Nat → ClassId) (L : Lay) (σ : Nat → Nat) (M : Mem) (a0 : Int32) (a1 : Int32) (a2 : Int32) (post : Mem → Prop) (h : qJ7_rangeCheck_23922 a0 a1 a2 M post) : Met l yJ7_rangeCheck_23922 wsJ7_rangeCheck_23922 rmJ7_rangeCheck_23922 (preW D T L σ [.int a0, .int a1, .int a2] M) (postV D T L σ post) 0 0 (fA L σ) := by
  refine m_of (cc := cJ7_rangeCheck_23922) (maxL := 3) (ret := none) (own := RJ7) (by decide) rfl rfl (Nat.le_of_ble_eq_true rfl) ?_
  intro p e s m args below meth c H ls locs S hr hlk hl hW
  have hl : lv_has ls 3 [(0, .int a0), (1, .int a1), (2, .int a2)] := hl
  refine lv_iload_n S.1 S.2.1 dJ7_rangeCheck_23922_0 rfl (lv_at hl 1 rfl) ?_
  refine lv_iload_n S.1 S.2.1 dJ7_rangeCheck_23922_1 rfl (lv_at hl 2 rfl) ?_
  refine lv_icmp_le (tgt := 46) S.1 S.2.1 dJ7_rangeCheck_23922_2 (by decide) (fun c1 => ?_) (fun c1 => ?_)
  · have h := h.1 c1
    refine lv_iload_n S.1 S.2.1 dJ7_rangeCheck_23922_46 rfl (lv_at hl 1 rfl) ?_
    refine lv_if_ge (tgt := 59) S.1 S.2.1 dJ7_rangeCheck_23922_47 (by decide) (fun c2 => ?_) (fun c2 => ?_)
    · have h := h.1 c2
      refine lv_iload_n S.1 S.2.1 dJ7_rangeCheck_23922_59 rfl (lv_at hl 2 rfl) ?_
      refine lv_iload_n S.1 S.2.1 dJ7_rangeCheck_23922_60 rfl (lv_at hl 0 rfl) ?_
      refine lv_icmp_le (tgt := 73) S.1 S.2.1 dJ7_rangeCheck_23922_61 (by decide) (fun c3 => ?_) (fun c3 => ?_)
      · have h := h.1 c3
        exact r_vret S hr hlk hW h dJ7_rangeCheck_23922_73
      · have h := h.2 c3
        exact h.elim
    · have h := h.2 c2
      exact h.elim
  · have h := h.2 c1
    exact h.elim
abbrev rmJ7_fill_fda19 : Room := { frames := 1, cells := 0, slots := 0, locals := 22 }
set_option maxHeartbeats 4000000 in
set_option maxRecDepth 100000 in
theorem mJ7_fill_fda19 (l : Launch) (D : va_G) (T : Nat → ClassId) (L : Lay) (σ : Nat → Nat) (k : Nat) {n b : Nat} {sl : List (Option Nat)} (hk : L[k]? = some (1, n, b, sl)) (M : Mem) (a1 : Int32) (a2 : Int32) (a3 : Int32) (post : Mem → Prop) (h : qJ7_fill_fda19 k n a1 a2 a3 M post) : Met l yJ7_fill_fda19 wsJ7_fill_fda19 rmJ7_fill_fda19 (preW D T L σ [.ref (σ k), .int a1, .int a2, .int a3] M) (postV D T L σ post) 0 0 (fA L σ) := by
  refine m_of (cc := cJ7_fill_fda19) (maxL := 5) (ret := none) (own := RJ7) (by decide) rfl rfl (Nat.le_of_ble_eq_true rfl) ?_
  intro p e s m args below meth c H ls locs S hr hlk hl hW
  have hl : lv_has ls 5 [(0, .ref (σ k)), (1, .int a1), (2, .int a2), (3, .int a3)] := hl
  have w13 := va_cwS (R := rmJ7_fill_fda19) (rm := rmJ7_rangeCheck_23922) (mc := 0) (ms := 0) 3 S.2.2.2.2 gJ7_fill_fda19_J7_rangeCheck_23922 rfl rfl rfl (by decide +kernel) ⟨Nat.le_of_ble_eq_true rfl, Nat.le_of_ble_eq_true rfl⟩
  obtain ⟨R10, e10⟩ : ∃ R : Int32 → Mem → Prop, ∀ x4 M, R x4 M ↔ WW p l e rmJ7_fill_fda19 s m args below meth c D T L σ 5 (MQ below (postV D T L σ post) args s 0 0 (fA L σ)) 10 [(0, .ref (σ k)), (2, .int a2), (3, .int a3), (4, .int x4)] [] M := ⟨_, fun _ _ => Iff.rfl⟩
  have h := h R10
  have z10 : ∀ x4 M, qJ7_fill_fda19_b10 k n a1 a2 a3 post R10 x4 M → R10 x4 M := by
    intro x4 M h
    refine (e10 _ _).mpr (fun H locs ls hW hl => ?_)
    refine lv_iload S.1 S.2.1 dJ7_fill_fda19_10 (lv_at hl 3 rfl) ?_
    refine lv_iload_n S.1 S.2.1 dJ7_fill_fda19_12 rfl (lv_at hl 1 rfl) ?_
    refine lv_icmp_ge (tgt := 27) S.1 S.2.1 dJ7_fill_fda19_13 (by decide) (fun c3 => ?_) (fun c3 => ?_)
    · have h := h.1 c3
      exact r_vret S hr hlk hW h dJ7_fill_fda19_27
    · have h := h.2 c3
      refine lv_aload_n S.1 S.2.1 dJ7_fill_fda19_16 rfl (lv_at hl 0 rfl) ?_
      refine lv_iload S.1 S.2.1 dJ7_fill_fda19_17 (lv_at hl 3 rfl) ?_
      refine lv_iload_n S.1 S.2.1 dJ7_fill_fda19_19 rfl (lv_at hl 2 rfl) ?_
      have b4 := h.1
      have h := h.2
      refine r_iast S hW hk b4 dJ7_fill_fda19_20 (fun M5 H locs eM5 hW => ?_)
      have h := h M5 eM5
      obtain ⟨v6, ev6⟩ : ∃ y : Int32, y = x4 + 1 := ⟨_, rfl⟩
      have h := h v6 ev6
      refine lv_iinc (v := v6) (lv' := [(4, .int v6), (0, .ref (σ k)), (2, .int a2), (3, .int a3)]) S.1 S.2.1 dJ7_fill_fda19_21 hl (k := 3) rfl (by rw [ev6]; rfl) (by decide) rfl (fun ls hl => ?_)
      refine lv_goto (tgt := 10) S.1 S.2.1 dJ7_fill_fda19_24 (by decide) ?_
      exact (e10 _ _).mp h H locs ls hW (lv_sub hl [1, 2, 3, 0] rfl)
  have h := h z10
  refine lv_aload_n S.1 S.2.1 dJ7_fill_fda19_0 rfl (lv_at hl 0 rfl) ?_
  refine r_alenI S hW hk dJ7_fill_fda19_1 ?_
  refine lv_iload_n S.1 S.2.1 dJ7_fill_fda19_2 rfl (lv_at hl 1 rfl) ?_
  refine lv_iload_n S.1 S.2.1 dJ7_fill_fda19_3 rfl (lv_at hl 2 rfl) ?_
  refine r_goV (r_runS (rest := []) S hW (mJ7_rangeCheck_23922 l D T L σ M (nI n) a1 a2 _ h) w13 rfl hl.1 rfl (Nat.le_of_ble_eq_true rfl) dJ7_fill_fda19_4 ⟨Nat.zero_le _, Nat.zero_le _⟩) hW (fun M2 H locs h hW => ?_)
  refine lv_iload_n S.1 S.2.1 dJ7_fill_fda19_7 rfl (lv_at hl 1 rfl) ?_
  refine lv_istore (lv' := [(4, .int a1), (0, .ref (σ k)), (1, .int a1), (2, .int a2), (3, .int a3)]) S.1 S.2.1 dJ7_fill_fda19_8 hl (by decide) rfl (fun ls hl => ?_)
  exact (e10 _ _).mp h H locs ls hW (lv_sub hl [1, 3, 4, 0] rfl)
abbrev rmX2_word : Room := { frames := 0, cells := 0, slots := 0, locals := 0 }
set_option maxHeartbeats 4000000 in
set_option maxRecDepth 100000 in
theorem mX2_word (l : Launch) (D : va_G) (T : Nat → ClassId) (σ : Nat → Nat) (M : Mem) (a0 : Int32) (a1 : Int32) (a2 : Int32) (post : Int32 → Mem → Prop) (h : qX2_word a0 a1 a2 M post) : Met l yX2_word wsX2_word rmX2_word (preW D T LH σ [.int a0, .int a1, .int a2] M) (postI D T LH σ post) 0 0 (fA LH σ) := by
  refine m_of (cc := cX2_word) (maxL := 3) (ret := (some .int)) (own := RX2) (by decide) rfl rfl (Nat.le_of_ble_eq_true rfl) ?_
  intro p e s m args below meth c H ls locs S hr hlk hl hW
  have hl : lv_has ls 3 [(0, .int a0), (1, .int a1), (2, .int a2)] := hl
  refine lv_iload_n S.1 S.2.1 dX2_word_0 rfl (lv_at hl 0 rfl) ?_
  refine lv_iconst (v := 4) S.1 S.2.1 dX2_word_1 rfl ?_
  refine lv_imul S.1 S.2.1 dX2_word_2 ?_
  refine lv_iload_n S.1 S.2.1 dX2_word_3 rfl (lv_at hl 1 rfl) ?_
  refine lv_iadd S.1 S.2.1 dX2_word_4 ?_
  refine lv_bipush (v := 8) S.1 S.2.1 dX2_word_5 rfl ?_
  refine lv_imul S.1 S.2.1 dX2_word_7 ?_
  refine lv_iload_n S.1 S.2.1 dX2_word_8 rfl (lv_at hl 2 rfl) ?_
  refine lv_bipush (v := 6) S.1 S.2.1 dX2_word_9 rfl ?_
  refine lv_ishr S.1 S.2.1 dX2_word_11 ?_
  refine lv_iadd S.1 S.2.1 dX2_word_12 ?_
  exact r_iret S hr hlk hW h dX2_word_13
abbrev rmX2_offer : Room := { frames := 1, cells := 0, slots := 0, locals := 23 }
set_option maxHeartbeats 4000000 in
set_option maxRecDepth 100000 in
theorem mX2_offer (l : Launch) (D : va_G) (T : Nat → ClassId) (σ : Nat → Nat) (M : Mem) (a1 : Int32) (a2 : Int32) (post : Mem → Prop) (h : qX2_offer a1 a2 M post) : Met l yX2_offer wsX2_offer rmX2_offer (preW D T LH σ [.ref (σ 5), .int a1, .int a2] M) (postV D T LH σ post) 0 0 (fA LH σ) := by
  refine m_of (cc := cX2_offer) (maxL := 6) (ret := none) (own := RX2) (by decide) rfl rfl (Nat.le_of_ble_eq_true rfl) ?_
  intro p e s m args below meth c H ls locs S hr hlk hl hW
  have hl : lv_has ls 6 [(0, .ref (σ 5)), (1, .int a1), (2, .int a2)] := hl
  have inX2 : ∀ w ∈ u_ws RX2 TX2 12, w ∈ wsX2_offer := by decide +kernel
  have f29 := S.2.2.2.2 (.fieldLink RX2 29 "MachineHall$Market" "prices" "[[I") (by decide +kernel)
  have f23 := S.2.2.2.2 (.fieldLink RX2 23 "MachineHall$Market" "leads" "[I") (by decide +kernel)
  have f26 := S.2.2.2.2 (.fieldLink RX2 26 "MachineHall$Market" "powers" "[I") (by decide +kernel)
  have f32 := S.2.2.2.2 (.fieldLink RX2 32 "MachineHall$Market" "toPay" "[I") (by decide +kernel)
  have f20 := S.2.2.2.2 (.fieldLink RX2 20 "MachineHall$Market" "sizes" "[I") (by decide +kernel)
  have l87 := S.2.2.2.2 (.methodLink RX2 87 Lib.Math.min.name) (by decide +kernel)
  have smin := S.2.2.2.2 (.static Lib.Math.min.name) (by decide +kernel)
  have omin := S.2.2.2.2 (.code Lib.Math.min.name Lib.Math.min.code 2 (some .int)) (by decide +kernel)
  have iMath := S.2.2.2.2 (.initialized "java/lang/Math") (by decide +kernel)
  have f35 := S.2.2.2.2 (.fieldLink RX2 35 "MachineHall$Market" "oneMore" "[J") (by decide +kernel)
  have w93 := va_cwS (R := rmX2_offer) (rm := rmX2_word) (mc := 0) (ms := 0) 3 S.2.2.2.2 gX2_offer_X2_word rfl rfl rfl (by decide +kernel) ⟨Nat.le_of_ble_eq_true rfl, Nat.le_of_ble_eq_true rfl⟩
  obtain ⟨R33, e33⟩ : ∃ R : Int32 → Int32 → Mem → Prop, ∀ x3 x4 M, R x3 x4 M ↔ WW p l e rmX2_offer s m args below meth c D T LH σ 6 (MQ below (postV D T LH σ post) args s 0 0 (fA LH σ)) 33 [(0, .ref (σ 5)), (1, .int a1), (2, .int a2), (3, .int x3), (4, .int x4)] [] M := ⟨_, fun _ _ _ => Iff.rfl⟩
  have h := h R33
  have z33 : ∀ x3 x4 M, qX2_offer_b33 a1 a2 post R33 x3 x4 M → R33 x3 x4 M := by
    intro x3 x4 M h
    refine (e33 _ _ _).mpr (fun H locs ls hW hl => ?_)
    refine lv_iload S.1 S.2.1 dX2_offer_33 (lv_at hl 4 rfl) ?_
    refine lv_if_lt (tgt := 111) S.1 S.2.1 dX2_offer_35 (by decide) (fun c6 => ?_) (fun c6 => ?_)
    · have h := h.1 c6
      exact r_vret S hr hlk hW h dX2_offer_111
    · have h := h.2 c6
      refine lv_iload_n S.1 S.2.1 dX2_offer_38 rfl (lv_at hl 3 rfl) ?_
      refine lv_aload_n S.1 S.2.1 dX2_offer_39 rfl (lv_at hl 0 rfl) ?_
      refine r_getR (j := 9) S hW inX2 rfl f32 rfl LH_5 (by decide) rfl dX2_offer_40 ?_
      refine lv_sipush (v := 500) S.1 S.2.1 dX2_offer_43 rfl ?_
      refine lv_iload S.1 S.2.1 dX2_offer_46 (lv_at hl 4 rfl) ?_
      refine lv_aload_n S.1 S.2.1 dX2_offer_48 rfl (lv_at hl 0 rfl) ?_
      refine r_getR (j := 5) S hW inX2 rfl f20 rfl LH_5 (by decide) rfl dX2_offer_49 ?_
      refine lv_iload_n S.1 S.2.1 dX2_offer_52 rfl (lv_at hl 2 rfl) ?_
      have b7 := h.1
      have h := h.2
      refine r_iald S hW LH_27 b7 dX2_offer_53 ?_
      refine lv_iadd S.1 S.2.1 dX2_offer_54 ?_
      refine r_min S hl.1 l87 smin iMath omin (Nat.le_of_ble_eq_true rfl) (Nat.le_of_ble_eq_true rfl) (Nat.zero_le _) (Nat.zero_le _) dX2_offer_55 ?_
      have b8 := h.1
      have h := h.2
      refine r_iald S hW LH_31 b8 dX2_offer_58 ?_
      refine lv_iadd S.1 S.2.1 dX2_offer_59 ?_
      refine lv_topi (fun v9 ev9 => ?_)
      have h := h v9 ev9
      refine lv_istore (lv' := [(5, .int v9), (0, .ref (σ 5)), (1, .int a1), (2, .int a2), (3, .int x3), (4, .int x4)]) S.1 S.2.1 dX2_offer_60 hl (by decide) rfl (fun ls hl => ?_)
      refine lv_iload S.1 S.2.1 dX2_offer_62 (lv_at hl 0 rfl) ?_
      refine lv_aload_n S.1 S.2.1 dX2_offer_64 rfl (lv_at hl 1 rfl) ?_
      refine r_getR (j := 9) S hW inX2 rfl f32 rfl LH_5 (by decide) rfl dX2_offer_65 ?_
      refine lv_iload S.1 S.2.1 dX2_offer_68 (lv_at hl 5 rfl) ?_
      have b10 := h.1
      have h := h.2
      refine r_iald S hW LH_31 b10 dX2_offer_70 ?_
      refine lv_icmp_ge (tgt := 105) S.1 S.2.1 dX2_offer_71 (by decide) (fun c11 => ?_) (fun c11 => ?_)
      · have h := h.1 c11
        obtain ⟨v12, ev12⟩ : ∃ y : Int32, y = x4 + (-1) := ⟨_, rfl⟩
        have h := h v12 ev12
        refine lv_iinc (v := v12) (lv' := [(4, .int v12), (5, .int v9), (0, .ref (σ 5)), (1, .int a1), (2, .int a2), (3, .int x3)]) S.1 S.2.1 dX2_offer_105 hl (k := 5) rfl (by rw [ev12]; rfl) (by decide) rfl (fun ls hl => ?_)
        refine lv_goto (tgt := 33) S.1 S.2.1 dX2_offer_108 (by decide) ?_
        exact (e33 _ _ _).mp h H locs ls hW (lv_sub hl [2, 3, 4, 5, 0] rfl)
      · have h := h.2 c11
        refine lv_aload_n S.1 S.2.1 dX2_offer_74 rfl (lv_at hl 1 rfl) ?_
        refine r_getR (j := 9) S hW inX2 rfl f32 rfl LH_5 (by decide) rfl dX2_offer_75 ?_
        refine lv_iload S.1 S.2.1 dX2_offer_78 (lv_at hl 5 rfl) ?_
        refine lv_iload S.1 S.2.1 dX2_offer_80 (lv_at hl 0 rfl) ?_
        have b13 := h.1
        have h := h.2
        refine r_iast S hW LH_31 b13 dX2_offer_82 (fun M14 H locs eM14 hW => ?_)
        have h := h M14 eM14
        refine lv_aload_n S.1 S.2.1 dX2_offer_83 rfl (lv_at hl 1 rfl) ?_
        refine r_getR (j := 10) S hW inX2 rfl f35 rfl LH_5 (by decide) rfl dX2_offer_84 ?_
        refine lv_iload_n S.1 S.2.1 dX2_offer_87 rfl (lv_at hl 2 rfl) ?_
        refine lv_iload_n S.1 S.2.1 dX2_offer_88 rfl (lv_at hl 3 rfl) ?_
        refine lv_iload S.1 S.2.1 dX2_offer_89 (lv_at hl 5 rfl) ?_
        refine r_goI (r_runS (rest := [.ref (σ 32)]) S hW (mX2_word l D T σ M14 a1 a2 x4 _ h) w93 rfl hl.1 rfl (Nat.le_of_ble_eq_true rfl) dX2_offer_91 ⟨Nat.zero_le _, Nat.zero_le _⟩) hW (fun r15 M16 H locs h hW => ?_)
        refine lv_dup2_11 S.1 S.2.1 dX2_offer_94 rfl rfl ?_
        have b17 := h.1
        have h := h.2
        refine r_lald S hW LH_32 b17 dX2_offer_95 ?_
        refine lv_lconst (v := 1) S.1 S.2.1 dX2_offer_96 rfl ?_
        refine lv_iload S.1 S.2.1 dX2_offer_97 (lv_at hl 5 rfl) ?_
        refine lv_bipush (v := 63) S.1 S.2.1 dX2_offer_99 rfl ?_
        refine lv_iand S.1 S.2.1 dX2_offer_101 ?_
        refine lv_lshl (v := (jshlL (1 : Int64) (x4 &&& (63 : Int32)))) S.1 S.2.1 dX2_offer_102 rfl ?_
        refine lv_lor S.1 S.2.1 dX2_offer_103 ?_
        have b18 := h.1
        have h := h.2
        refine r_last S hW LH_32 b18 dX2_offer_104 (fun M19 H locs eM19 hW => ?_)
        have h := h M19 eM19
        obtain ⟨v20, ev20⟩ : ∃ y : Int32, y = x4 + (-1) := ⟨_, rfl⟩
        have h := h v20 ev20
        refine lv_iinc (v := v20) (lv' := [(4, .int v20), (5, .int v9), (0, .ref (σ 5)), (1, .int a1), (2, .int a2), (3, .int x3)]) S.1 S.2.1 dX2_offer_105 hl (k := 5) rfl (by rw [ev20]; rfl) (by decide) rfl (fun ls hl => ?_)
        refine lv_goto (tgt := 33) S.1 S.2.1 dX2_offer_108 (by decide) ?_
        exact (e33 _ _ _).mp h H locs ls hW (lv_sub hl [2, 3, 4, 5, 0] rfl)
  have h := h z33
  refine lv_aload_n S.1 S.2.1 dX2_offer_0 rfl (lv_at hl 0 rfl) ?_
  refine r_getR (j := 8) S hW inX2 rfl f29 rfl LH_5 (by decide) rfl dX2_offer_1 ?_
  refine lv_iload_n S.1 S.2.1 dX2_offer_4 rfl (lv_at hl 2 rfl) ?_
  have b1 := h.1
  have h := h.2
  refine r_aald (t := 0) S hW LH_30 (by decide) b1 dX2_offer_5 ?_
  refine lv_iload_n S.1 S.2.1 dX2_offer_6 rfl (lv_at hl 1 rfl) ?_
  refine lv_aload_n S.1 S.2.1 dX2_offer_7 rfl (lv_at hl 0 rfl) ?_
  refine r_getR (j := 6) S hW inX2 rfl f23 rfl LH_5 (by decide) rfl dX2_offer_8 ?_
  refine lv_iload_n S.1 S.2.1 dX2_offer_11 rfl (lv_at hl 2 rfl) ?_
  have b2 := h.1
  have h := h.2
  refine r_iald S hW LH_28 b2 dX2_offer_12 ?_
  refine lv_isub S.1 S.2.1 dX2_offer_13 ?_
  have b3 := h.1
  have h := h.2
  refine r_iald S hW (LHr_30 (vp_lt b1)) b3 dX2_offer_14 ?_
  refine lv_aload_n S.1 S.2.1 dX2_offer_15 rfl (lv_at hl 0 rfl) ?_
  refine r_getR (j := 7) S hW inX2 rfl f26 rfl LH_5 (by decide) rfl dX2_offer_16 ?_
  refine lv_iload_n S.1 S.2.1 dX2_offer_19 rfl (lv_at hl 2 rfl) ?_
  have b4 := h.1
  have h := h.2
  refine r_iald S hW LH_29 b4 dX2_offer_20 ?_
  refine lv_bipush (v := 12) S.1 S.2.1 dX2_offer_21 rfl ?_
  refine lv_iload_n S.1 S.2.1 dX2_offer_23 rfl (lv_at hl 1 rfl) ?_
  refine lv_isub S.1 S.2.1 dX2_offer_24 ?_
  refine lv_imul S.1 S.2.1 dX2_offer_25 ?_
  refine lv_iadd S.1 S.2.1 dX2_offer_26 ?_
  refine lv_topi (fun v5 ev5 => ?_)
  have h := h v5 ev5
  refine lv_istore_n (lv' := [(3, .int v5), (0, .ref (σ 5)), (1, .int a1), (2, .int a2)]) S.1 S.2.1 dX2_offer_27 rfl hl (by decide) rfl (fun ls hl => ?_)
  refine lv_sipush (v := 499) S.1 S.2.1 dX2_offer_28 rfl ?_
  refine lv_istore (lv' := [(4, .int (499 : Int32)), (3, .int v5), (0, .ref (σ 5)), (1, .int a1), (2, .int a2)]) S.1 S.2.1 dX2_offer_31 hl (by decide) rfl (fun ls hl => ?_)
  exact (e33 _ _ _).mp h H locs ls hW (lv_sub hl [2, 3, 4, 1, 0] rfl)
abbrev rmX2_isEnough : Room := { frames := 0, cells := 0, slots := 0, locals := 0 }
set_option maxHeartbeats 4000000 in
set_option maxRecDepth 100000 in
theorem mX2_isEnough (l : Launch) (D : va_G) (T : Nat → ClassId) (σ : Nat → Nat) (M : Mem)  (post : Int32 → Mem → Prop) (h : qX2_isEnough M post) : Met l yX2_isEnough wsX2_isEnough rmX2_isEnough (preW D T LH σ [.ref (σ 5)] M) (postI D T LH σ post) 0 0 (fA LH σ) := by
  refine m_of (cc := cX2_isEnough) (maxL := 1) (ret := (some .boolean)) (own := RX2) (by decide) rfl rfl (Nat.le_of_ble_eq_true rfl) ?_
  intro p e s m args below meth c H ls locs S hr hlk hl hW
  have hl : lv_has ls 1 [(0, .ref (σ 5))] := hl
  have inX2 : ∀ w ∈ u_ws RX2 TX2 12, w ∈ wsX2_isEnough := by decide +kernel
  have f47 := S.2.2.2.2 (.fieldLink RX2 47 "MachineHall$Market" "least" "I") (by decide +kernel)
  have k50 := S.2.2.2.2 (.constant RX2 50 (1000000000)) (by decide +kernel)
  refine lv_aload_n S.1 S.2.1 dX2_isEnough_0 rfl (lv_at hl 0 rfl) ?_
  refine r_getI (j := 1) S hW inX2 rfl f47 rfl LH_5 (by decide) rfl dX2_isEnough_1 ?_
  refine lv_ldc S.1 S.2.1 S.2.2.2.1 k50 dX2_isEnough_4 ?_
  refine lv_icmp_ge (tgt := 13) S.1 S.2.1 dX2_isEnough_6 (by decide) (fun c1 => ?_) (fun c1 => ?_)
  · have h := h.1 c1
    refine lv_iconst (v := 0) S.1 S.2.1 dX2_isEnough_13 rfl ?_
    exact r_zret S hr hlk hW rfl h dX2_isEnough_14
  · have h := h.2 c1
    refine lv_iconst (v := 1) S.1 S.2.1 dX2_isEnough_9 rfl ?_
    refine lv_goto (tgt := 14) S.1 S.2.1 dX2_isEnough_10 (by decide) ?_
    exact r_zret S hr hlk hW rfl h dX2_isEnough_14
abbrev rmX2_mustBuy : Room := { frames := 1, cells := 0, slots := 0, locals := 22 }
set_option maxHeartbeats 4000000 in
set_option maxRecDepth 100000 in
theorem mX2_mustBuy (l : Launch) (D : va_G) (T : Nat → ClassId) (σ : Nat → Nat) (M : Mem) (a1 : Int32) (a2 : Int32) (a3 : Int32) (post : Int32 → Mem → Prop) (h : qX2_mustBuy a1 a2 a3 M post) : Met l yX2_mustBuy wsX2_mustBuy rmX2_mustBuy (preW D T LH σ [.ref (σ 5), .int a1, .int a2, .int a3] M) (postI D T LH σ post) 0 0 (fA LH σ) := by
  refine m_of (cc := cX2_mustBuy) (maxL := 4) (ret := (some .boolean)) (own := RX2) (by decide) rfl rfl (Nat.le_of_ble_eq_true rfl) ?_
  intro p e s m args below meth c H ls locs S hr hlk hl hW
  have hl : lv_has ls 4 [(0, .ref (σ 5)), (1, .int a1), (2, .int a2), (3, .int a3)] := hl
  have inX2 : ∀ w ∈ u_ws RX2 TX2 12, w ∈ wsX2_mustBuy := by decide +kernel
  have f35 := S.2.2.2.2 (.fieldLink RX2 35 "MachineHall$Market" "oneMore" "[J") (by decide +kernel)
  have w93 := va_cwS (R := rmX2_mustBuy) (rm := rmX2_word) (mc := 0) (ms := 0) 3 S.2.2.2.2 gX2_mustBuy_X2_word rfl rfl rfl (by decide +kernel) ⟨Nat.le_of_ble_eq_true rfl, Nat.le_of_ble_eq_true rfl⟩
  refine lv_aload_n S.1 S.2.1 dX2_mustBuy_0 rfl (lv_at hl 0 rfl) ?_
  refine r_getR (j := 10) S hW inX2 rfl f35 rfl LH_5 (by decide) rfl dX2_mustBuy_1 ?_
  refine lv_iload_n S.1 S.2.1 dX2_mustBuy_4 rfl (lv_at hl 1 rfl) ?_
  refine lv_iload_n S.1 S.2.1 dX2_mustBuy_5 rfl (lv_at hl 2 rfl) ?_
  refine lv_iload_n S.1 S.2.1 dX2_mustBuy_6 rfl (lv_at hl 3 rfl) ?_
  refine r_goI (r_runS (rest := [.ref (σ 32)]) S hW (mX2_word l D T σ M a1 a2 a3 _ h) w93 rfl hl.1 rfl (Nat.le_of_ble_eq_true rfl) dX2_mustBuy_7 ⟨Nat.zero_le _, Nat.zero_le _⟩) hW (fun r1 M2 H locs h hW => ?_)
  have b3 := h.1
  have h := h.2
  refine r_lald S hW LH_32 b3 dX2_mustBuy_10 ?_
  refine lv_iload_n S.1 S.2.1 dX2_mustBuy_11 rfl (lv_at hl 3 rfl) ?_
  refine lv_bipush (v := 63) S.1 S.2.1 dX2_mustBuy_12 rfl ?_
  refine lv_iand S.1 S.2.1 dX2_mustBuy_14 ?_
  refine lv_lushr (v := (jushrL (M2.2 32 r1.toNatClampNeg) (a3 &&& (63 : Int32)))) S.1 S.2.1 dX2_mustBuy_15 rfl ?_
  refine lv_lconst (v := 1) S.1 S.2.1 dX2_mustBuy_16 rfl ?_
  refine lv_land S.1 S.2.1 dX2_mustBuy_17 ?_
  refine lv_lconst (v := 0) S.1 S.2.1 dX2_mustBuy_18 rfl ?_
  refine W.lcmp S.1 S.2.1 dX2_mustBuy_19 ?_
  refine lv_if_eq (tgt := 27) S.1 S.2.1 dX2_mustBuy_20 (by decide) (fun c4 => ?_) (fun c4 => ?_)
  · have h := h.1 c4
    refine lv_iconst (v := 0) S.1 S.2.1 dX2_mustBuy_27 rfl ?_
    exact r_zret S hr hlk hW rfl h dX2_mustBuy_28
  · have h := h.2 c4
    refine lv_iconst (v := 1) S.1 S.2.1 dX2_mustBuy_23 rfl ?_
    refine lv_goto (tgt := 28) S.1 S.2.1 dX2_mustBuy_24 (by decide) ?_
    exact r_zret S hr hlk hW rfl h dX2_mustBuy_28
abbrev rmX2_choose : Room := { frames := 2, cells := 0, slots := 0, locals := 45 }
set_option maxHeartbeats 4000000 in
set_option maxRecDepth 100000 in
theorem mX2_choose (l : Launch) (D : va_G) (T : Nat → ClassId) (σ : Nat → Nat) (M : Mem)  (post : Mem → Prop) (h : qX2_choose M post) : Met l yX2_choose wsX2_choose rmX2_choose (preW D T LH σ [.ref (σ 5)] M) (postV D T LH σ post) 0 0 (fA LH σ) := by
  refine m_of (cc := cX2_choose) (maxL := 5) (ret := none) (own := RX2) (by decide) rfl rfl (Nat.le_of_ble_eq_true rfl) ?_
  intro p e s m args below meth c H ls locs S hr hlk hl hW
  have hl : lv_has ls 5 [(0, .ref (σ 5))] := hl
  have inX2 : ∀ w ∈ u_ws RX2 TX2 12, w ∈ wsX2_choose := by decide +kernel
  have f61 := S.2.2.2.2 (.fieldLink RX2 61 "MachineHall$Market" "owned" "I") (by decide +kernel)
  have f39 := S.2.2.2.2 (.fieldLink RX2 39 "MachineHall$Market" "types" "I") (by decide +kernel)
  have w97 := cwV (R := rmX2_choose) (rm := rmX2_mustBuy) (mc := 0) (ms := 0) 3 S.2.2.2.2 gX2_choose_X2_mustBuy rfl rfl rfl (by decide +kernel) ⟨Nat.le_of_ble_eq_true rfl, Nat.le_of_ble_eq_true rfl⟩
  have f20 := S.2.2.2.2 (.fieldLink RX2 20 "MachineHall$Market" "sizes" "[I") (by decide +kernel)
  have l87 := S.2.2.2.2 (.methodLink RX2 87 Lib.Math.min.name) (by decide +kernel)
  have smin := S.2.2.2.2 (.static Lib.Math.min.name) (by decide +kernel)
  have omin := S.2.2.2.2 (.code Lib.Math.min.name Lib.Math.min.code 2 (some .int)) (by decide +kernel)
  have iMath := S.2.2.2.2 (.initialized "java/lang/Math") (by decide +kernel)
  have f13 := S.2.2.2.2 (.fieldLink RX2 13 "MachineHall$Market" "bought" "[[I") (by decide +kernel)
  obtain ⟨R7, e7⟩ : ∃ R : Int32 → Int32 → Mem → Prop, ∀ x1 x2 M, R x1 x2 M ↔ WW p l e rmX2_choose s m args below meth c D T LH σ 5 (MQ below (postV D T LH σ post) args s 0 0 (fA LH σ)) 7 [(0, .ref (σ 5)), (1, .int x1), (2, .int x2)] [] M := ⟨_, fun _ _ _ => Iff.rfl⟩
  obtain ⟨R15, e15⟩ : ∃ R : Int32 → Int32 → Int32 → Mem → Prop, ∀ x1 x2 x3 M, R x1 x2 x3 M ↔ WW p l e rmX2_choose s m args below meth c D T LH σ 5 (MQ below (postV D T LH σ post) args s 0 0 (fA LH σ)) 15 [(0, .ref (σ 5)), (1, .int x1), (2, .int x2), (3, .int x3)] [] M := ⟨_, fun _ _ _ _ => Iff.rfl⟩
  obtain ⟨R26, e26⟩ : ∃ R : Int32 → Int32 → Int32 → Int32 → Mem → Prop, ∀ x1 x2 x3 x4 M, R x1 x2 x3 x4 M ↔ WW p l e rmX2_choose s m args below meth c D T LH σ 5 (MQ below (postV D T LH σ post) args s 0 0 (fA LH σ)) 26 [(0, .ref (σ 5)), (1, .int x1), (2, .int x2), (3, .int x3), (4, .int x4)] [] M := ⟨_, fun _ _ _ _ _ => Iff.rfl⟩
  obtain ⟨R72, e72⟩ : ∃ R : Int32 → Int32 → Int32 → Int32 → Mem → Prop, ∀ x1 x2 x3 x4 M, R x1 x2 x3 x4 M ↔ WW p l e rmX2_choose s m args below meth c D T LH σ 5 (MQ below (postV D T LH σ post) args s 0 0 (fA LH σ)) 72 [(0, .ref (σ 5)), (1, .int x1), (2, .int x2), (3, .int x3), (4, .int x4)] [] M := ⟨_, fun _ _ _ _ _ => Iff.rfl⟩
  have h := h R7 R15 R26 R72
  have z7 : ∀ x1 x2 M, qX2_choose_b7 post R7 R15 R26 R72 x1 x2 M → R7 x1 x2 M := by
    intro x1 x2 M h
    refine (e7 _ _ _).mpr (fun H locs ls hW hl => ?_)
    refine lv_iload_n S.1 S.2.1 dX2_choose_7 rfl (lv_at hl 2 rfl) ?_
    refine lv_bipush (v := 12) S.1 S.2.1 dX2_choose_8 rfl ?_
    refine lv_icmp_ge (tgt := 94) S.1 S.2.1 dX2_choose_10 (by decide) (fun c2 => ?_) (fun c2 => ?_)
    · have h := h.1 c2
      exact r_vret S hr hlk hW h dX2_choose_94
    · have h := h.2 c2
      refine lv_iconst (v := 0) S.1 S.2.1 dX2_choose_13 rfl ?_
      refine lv_istore_n (lv' := [(3, .int (0 : Int32)), (0, .ref (σ 5)), (1, .int x1), (2, .int x2)]) S.1 S.2.1 dX2_choose_14 rfl hl (by decide) rfl (fun ls hl => ?_)
      exact (e15 _ _ _ _).mp h H locs ls hW (lv_sub hl [1, 2, 3, 0] rfl)
  have z15 : ∀ x1 x2 x3 M, qX2_choose_b15 post R7 R15 R26 R72 x1 x2 x3 M → R15 x1 x2 x3 M := by
    intro x1 x2 x3 M h
    refine (e15 _ _ _ _).mpr (fun H locs ls hW hl => ?_)
    refine lv_iload_n S.1 S.2.1 dX2_choose_15 rfl (lv_at hl 3 rfl) ?_
    refine lv_aload_n S.1 S.2.1 dX2_choose_16 rfl (lv_at hl 0 rfl) ?_
    refine r_getI (j := 0) S hW inX2 rfl f39 rfl LH_5 (by decide) rfl dX2_choose_17 ?_
    refine lv_icmp_ge (tgt := 88) S.1 S.2.1 dX2_choose_20 (by decide) (fun c3 => ?_) (fun c3 => ?_)
    · have h := h.1 c3
      obtain ⟨v4, ev4⟩ : ∃ y : Int32, y = x2 + 1 := ⟨_, rfl⟩
      have h := h v4 ev4
      refine lv_iinc (v := v4) (lv' := [(2, .int v4), (0, .ref (σ 5)), (1, .int x1), (3, .int x3)]) S.1 S.2.1 dX2_choose_88 hl (k := 2) rfl (by rw [ev4]; rfl) (by decide) rfl (fun ls hl => ?_)
      refine lv_goto (tgt := 7) S.1 S.2.1 dX2_choose_91 (by decide) ?_
      exact (e7 _ _ _).mp h H locs ls hW (lv_sub hl [1, 2, 0] rfl)
    · have h := h.2 c3
      refine lv_iconst (v := 0) S.1 S.2.1 dX2_choose_23 rfl ?_
      refine lv_istore (lv' := [(4, .int (0 : Int32)), (0, .ref (σ 5)), (1, .int x1), (2, .int x2), (3, .int x3)]) S.1 S.2.1 dX2_choose_24 hl (by decide) rfl (fun ls hl => ?_)
      exact (e26 _ _ _ _ _).mp h H locs ls hW (lv_sub hl [1, 2, 3, 4, 0] rfl)
  have z26 : ∀ x1 x2 x3 x4 M, qX2_choose_b26 post R7 R15 R26 R72 x1 x2 x3 x4 M → R26 x1 x2 x3 x4 M := by
    intro x1 x2 x3 x4 M h
    refine (e26 _ _ _ _ _).mpr (fun H locs ls hW hl => ?_)
    refine lv_iload S.1 S.2.1 dX2_choose_26 (lv_at hl 4 rfl) ?_
    refine lv_sipush (v := 500) S.1 S.2.1 dX2_choose_28 rfl ?_
    refine lv_icmp_ge (tgt := 72) S.1 S.2.1 dX2_choose_31 (by decide) (fun c5 => ?_) (fun c5 => ?_)
    · have h := h.1 c5
      exact (e72 _ _ _ _ _).mp h H locs ls hW (lv_sub hl [0, 1, 2, 3, 4] rfl)
    · have h := h.2 c5
      refine lv_iload_n S.1 S.2.1 dX2_choose_34 rfl (lv_at hl 1 rfl) ?_
      refine lv_sipush (v := 500) S.1 S.2.1 dX2_choose_35 rfl ?_
      refine lv_icmp_ge (tgt := 72) S.1 S.2.1 dX2_choose_38 (by decide) (fun c6 => ?_) (fun c6 => ?_)
      · have h := h.1 c6
        exact (e72 _ _ _ _ _).mp h H locs ls hW (lv_sub hl [0, 1, 2, 3, 4] rfl)
      · have h := h.2 c6
        refine lv_aload_n S.1 S.2.1 dX2_choose_41 rfl (lv_at hl 0 rfl) ?_
        refine lv_iload_n S.1 S.2.1 dX2_choose_42 rfl (lv_at hl 2 rfl) ?_
        refine lv_iload_n S.1 S.2.1 dX2_choose_43 rfl (lv_at hl 3 rfl) ?_
        refine lv_iload_n S.1 S.2.1 dX2_choose_44 rfl (lv_at hl 1 rfl) ?_
        refine r_goI (r_runV (rest := []) S hW (mX2_mustBuy l D T σ M x2 x3 x1 _ h) w97 rfl LH_5 rfl hl.1 rfl (Nat.le_of_ble_eq_true rfl) dX2_choose_45 ⟨Nat.zero_le _, Nat.zero_le _⟩) hW (fun r7 M8 H locs h hW => ?_)
        refine lv_if_eq (tgt := 72) S.1 S.2.1 dX2_choose_48 (by decide) (fun c9 => ?_) (fun c9 => ?_)
        · have h := h.1 c9
          exact (e72 _ _ _ _ _).mp h H locs ls hW (lv_sub hl [0, 1, 2, 3, 4] rfl)
        · have h := h.2 c9
          refine lv_sipush (v := 500) S.1 S.2.1 dX2_choose_51 rfl ?_
          refine lv_iload_n S.1 S.2.1 dX2_choose_54 rfl (lv_at hl 1 rfl) ?_
          refine lv_aload_n S.1 S.2.1 dX2_choose_55 rfl (lv_at hl 0 rfl) ?_
          refine r_getR (j := 5) S hW inX2 rfl f20 rfl LH_5 (by decide) rfl dX2_choose_56 ?_
          refine lv_iload_n S.1 S.2.1 dX2_choose_59 rfl (lv_at hl 3 rfl) ?_
          have b10 := h.1
          have h := h.2
          refine r_iald S hW LH_27 b10 dX2_choose_60 ?_
          refine lv_iadd S.1 S.2.1 dX2_choose_61 ?_
          refine r_min S hl.1 l87 smin iMath omin (Nat.le_of_ble_eq_true rfl) (Nat.le_of_ble_eq_true rfl) (Nat.zero_le _) (Nat.zero_le _) dX2_choose_62 ?_
          refine lv_topi (fun v11 ev11 => ?_)
          have h := h v11 ev11
          refine lv_istore_n (lv' := [(1, .int v11), (0, .ref (σ 5)), (2, .int x2), (3, .int x3), (4, .int x4)]) S.1 S.2.1 dX2_choose_65 rfl hl (by decide) rfl (fun ls hl => ?_)
          obtain ⟨v12, ev12⟩ : ∃ y : Int32, y = x4 + 1 := ⟨_, rfl⟩
          have h := h v12 ev12
          refine lv_iinc (v := v12) (lv' := [(4, .int v12), (1, .int v11), (0, .ref (σ 5)), (2, .int x2), (3, .int x3)]) S.1 S.2.1 dX2_choose_66 hl (k := 4) rfl (by rw [ev12]; rfl) (by decide) rfl (fun ls hl => ?_)
          refine lv_goto (tgt := 26) S.1 S.2.1 dX2_choose_69 (by decide) ?_
          exact (e26 _ _ _ _ _).mp h H locs ls hW (lv_sub hl [2, 1, 3, 4, 0] rfl)
  have z72 : ∀ x1 x2 x3 x4 M, qX2_choose_b72 post R7 R15 R26 R72 x1 x2 x3 x4 M → R72 x1 x2 x3 x4 M := by
    intro x1 x2 x3 x4 M h
    refine (e72 _ _ _ _ _).mpr (fun H locs ls hW hl => ?_)
    refine lv_aload_n S.1 S.2.1 dX2_choose_72 rfl (lv_at hl 0 rfl) ?_
    refine r_getR (j := 2) S hW inX2 rfl f13 rfl LH_5 (by decide) rfl dX2_choose_73 ?_
    refine lv_iload_n S.1 S.2.1 dX2_choose_76 rfl (lv_at hl 2 rfl) ?_
    have b13 := h.1
    have h := h.2
    refine r_aald (t := 0) S hW LH_25 (by decide) b13 dX2_choose_77 ?_
    refine lv_iload_n S.1 S.2.1 dX2_choose_78 rfl (lv_at hl 3 rfl) ?_
    refine lv_iload S.1 S.2.1 dX2_choose_79 (lv_at hl 4 rfl) ?_
    have b14 := h.1
    have h := h.2
    refine r_iast S hW (LHr_25 (vp_lt b13)) b14 dX2_choose_81 (fun M15 H locs eM15 hW => ?_)
    have h := h M15 eM15
    obtain ⟨v16, ev16⟩ : ∃ y : Int32, y = x3 + 1 := ⟨_, rfl⟩
    have h := h v16 ev16
    refine lv_iinc (v := v16) (lv' := [(3, .int v16), (0, .ref (σ 5)), (1, .int x1), (2, .int x2), (4, .int x4)]) S.1 S.2.1 dX2_choose_82 hl (k := 3) rfl (by rw [ev16]; rfl) (by decide) rfl (fun ls hl => ?_)
    refine lv_goto (tgt := 15) S.1 S.2.1 dX2_choose_85 (by decide) ?_
    exact (e15 _ _ _ _).mp h H locs ls hW (lv_sub hl [1, 2, 3, 0] rfl)
  have h := h z7 z15 z26 z72
  refine lv_aload_n S.1 S.2.1 dX2_choose_0 rfl (lv_at hl 0 rfl) ?_
  refine r_getI (j := 3) S hW inX2 rfl f61 rfl LH_5 (by decide) rfl dX2_choose_1 ?_
  refine lv_topi (fun v1 ev1 => ?_)
  have h := h v1 ev1
  refine lv_istore_n (lv' := [(1, .int v1), (0, .ref (σ 5))]) S.1 S.2.1 dX2_choose_4 rfl hl (by decide) rfl (fun ls hl => ?_)
  refine lv_iconst (v := 0) S.1 S.2.1 dX2_choose_5 rfl ?_
  refine lv_istore_n (lv' := [(2, .int (0 : Int32)), (1, .int v1), (0, .ref (σ 5))]) S.1 S.2.1 dX2_choose_6 rfl hl (by decide) rfl (fun ls hl => ?_)
  exact (e7 _ _ _).mp h H locs ls hW (lv_sub hl [2, 1, 0] rfl)
abbrev rmX2_solve : Room := { frames := 3, cells := 0, slots := 0, locals := 69 }
set_option maxHeartbeats 4000000 in
set_option maxRecDepth 100000 in
theorem mX2_solve (l : Launch) (D : va_G) (T : Nat → ClassId) (σ : Nat → Nat) (M : Mem)  (post : Mem → Prop) (h : qX2_solve M post) : Met l yX2_solve wsX2_solve rmX2_solve (preW D T LH σ [.ref (σ 5)] M) (postV D T LH σ post) 0 0 (fA LH σ) := by
  refine m_of (cc := cX2_solve) (maxL := 3) (ret := none) (own := RX2) (by decide) rfl rfl (Nat.le_of_ble_eq_true rfl) ?_
  intro p e s m args below meth c H ls locs S hr hlk hl hW
  have hl : lv_has ls 3 [(0, .ref (σ 5))] := hl
  have inX2 : ∀ w ∈ u_ws RX2 TX2 12, w ∈ wsX2_solve := by decide +kernel
  have f57 := S.2.2.2.2 (.fieldLink RX2 57 "MachineHall$Market" "solved" "Z") (by decide +kernel)
  have f32 := S.2.2.2.2 (.fieldLink RX2 32 "MachineHall$Market" "toPay" "[I") (by decide +kernel)
  have w64 := va_cwS (R := rmX2_solve) (rm := rmJ7_fill_53178) (mc := 0) (ms := 0) 2 S.2.2.2.2 gX2_solve_J7_fill_53178 rfl rfl rfl (by decide +kernel) ⟨Nat.le_of_ble_eq_true rfl, Nat.le_of_ble_eq_true rfl⟩
  have f35 := S.2.2.2.2 (.fieldLink RX2 35 "MachineHall$Market" "oneMore" "[J") (by decide +kernel)
  have w70 := va_cwS (R := rmX2_solve) (rm := rmJ7_fill_d0a16) (mc := 0) (ms := 0) 2 S.2.2.2.2 gX2_solve_J7_fill_d0a16 rfl rfl rfl (by decide +kernel) ⟨Nat.le_of_ble_eq_true rfl, Nat.le_of_ble_eq_true rfl⟩
  have f61 := S.2.2.2.2 (.fieldLink RX2 61 "MachineHall$Market" "owned" "I") (by decide +kernel)
  have f47 := S.2.2.2.2 (.fieldLink RX2 47 "MachineHall$Market" "least" "I") (by decide +kernel)
  have w80 := cwV (R := rmX2_solve) (rm := rmX2_isEnough) (mc := 0) (ms := 0) 0 S.2.2.2.2 gX2_solve_X2_isEnough rfl rfl rfl (by decide +kernel) ⟨Nat.le_of_ble_eq_true rfl, Nat.le_of_ble_eq_true rfl⟩
  have w84 := cwV (R := rmX2_solve) (rm := rmX2_choose) (mc := 0) (ms := 0) 0 S.2.2.2.2 gX2_solve_X2_choose rfl rfl rfl (by decide +kernel) ⟨Nat.le_of_ble_eq_true rfl, Nat.le_of_ble_eq_true rfl⟩
  have f16 := S.2.2.2.2 (.fieldLink RX2 16 "MachineHall$Market" "wants" "[I") (by decide +kernel)
  have k50 := S.2.2.2.2 (.constant RX2 50 (1000000000)) (by decide +kernel)
  have w73 := va_cwS (R := rmX2_solve) (rm := rmJ7_fill_fda19) (mc := 0) (ms := 0) 4 S.2.2.2.2 gX2_solve_J7_fill_fda19 rfl rfl rfl (by decide +kernel) ⟨Nat.le_of_ble_eq_true rfl, Nat.le_of_ble_eq_true rfl⟩
  have f39 := S.2.2.2.2 (.fieldLink RX2 39 "MachineHall$Market" "types" "I") (by decide +kernel)
  have f23 := S.2.2.2.2 (.fieldLink RX2 23 "MachineHall$Market" "leads" "[I") (by decide +kernel)
  have w76 := cwV (R := rmX2_solve) (rm := rmX2_offer) (mc := 0) (ms := 0) 2 S.2.2.2.2 gX2_solve_X2_offer rfl rfl rfl (by decide +kernel) ⟨Nat.le_of_ble_eq_true rfl, Nat.le_of_ble_eq_true rfl⟩
  obtain ⟨R32, e32⟩ : ∃ R : Int32 → Mem → Prop, ∀ x1 M, R x1 M ↔ WW p l e rmX2_solve s m args below meth c D T LH σ 3 (MQ below (postV D T LH σ post) args s 0 0 (fA LH σ)) 32 [(0, .ref (σ 5)), (1, .int x1)] [] M := ⟨_, fun _ _ => Iff.rfl⟩
  obtain ⟨R59, e59⟩ : ∃ R : Int32 → Int32 → Mem → Prop, ∀ x1 x2 M, R x1 x2 M ↔ WW p l e rmX2_solve s m args below meth c D T LH σ 3 (MQ below (postV D T LH σ post) args s 0 0 (fA LH σ)) 59 [(0, .ref (σ 5)), (1, .int x1), (2, .int x2)] [] M := ⟨_, fun _ _ _ => Iff.rfl⟩
  have h := h R32 R59
  have z32 : ∀ x1 M, qX2_solve_b32 post R32 R59 x1 M → R32 x1 M := by
    intro x1 M h
    refine (e32 _ _).mpr (fun H locs ls hW hl => ?_)
    refine lv_iload_n S.1 S.2.1 dX2_solve_32 rfl (lv_at hl 1 rfl) ?_
    refine lv_if_lt (tgt := 91) S.1 S.2.1 dX2_solve_33 (by decide) (fun c7 => ?_) (fun c7 => ?_)
    · have h := h.1 c7
      refine lv_aload_n S.1 S.2.1 dX2_solve_91 rfl (lv_at hl 0 rfl) ?_
      refine lv_aload_n S.1 S.2.1 dX2_solve_92 rfl (lv_at hl 0 rfl) ?_
      refine r_getR (j := 9) S hW inX2 rfl f32 rfl LH_5 (by decide) rfl dX2_solve_93 ?_
      refine lv_aload_n S.1 S.2.1 dX2_solve_96 rfl (lv_at hl 0 rfl) ?_
      refine r_getI (j := 3) S hW inX2 rfl f61 rfl LH_5 (by decide) rfl dX2_solve_97 ?_
      have b8 := h.1
      have h := h.2
      refine r_iald S hW LH_31 b8 dX2_solve_100 ?_
      refine r_putI (j := 1) S hW inX2 rfl f47 rfl LH_5 (by decide) rfl tyX2 tyX2_ok nmX2 rfl rfl rfl dX2_solve_101 (fun M9 H locs eM9 hW => ?_)
      have h := h M9 eM9
      refine lv_aload_n S.1 S.2.1 dX2_solve_104 rfl (lv_at hl 0 rfl) ?_
      refine r_goI (r_runV (rest := []) S hW (mX2_isEnough l D T σ M9 _ h) w80 rfl LH_5 rfl hl.1 rfl (Nat.le_of_ble_eq_true rfl) dX2_solve_105 ⟨Nat.zero_le _, Nat.zero_le _⟩) hW (fun r10 M11 H locs h hW => ?_)
      refine lv_if_eq (tgt := 115) S.1 S.2.1 dX2_solve_108 (by decide) (fun c12 => ?_) (fun c12 => ?_)
      · have h := h.1 c12
        exact r_vret S hr hlk hW h dX2_solve_115
      · have h := h.2 c12
        refine lv_aload_n S.1 S.2.1 dX2_solve_111 rfl (lv_at hl 0 rfl) ?_
        refine r_goV (r_runV (rest := []) S hW (mX2_choose l D T σ M11 _ h) w84 rfl LH_5 rfl hl.1 rfl (Nat.le_of_ble_eq_true rfl) dX2_solve_112 ⟨Nat.zero_le _, Nat.zero_le _⟩) hW (fun M14 H locs h hW => ?_)
        exact r_vret S hr hlk hW h dX2_solve_115
    · have h := h.2 c7
      refine lv_aload_n S.1 S.2.1 dX2_solve_36 rfl (lv_at hl 0 rfl) ?_
      refine r_getR (j := 9) S hW inX2 rfl f32 rfl LH_5 (by decide) rfl dX2_solve_37 ?_
      refine lv_iconst (v := 0) S.1 S.2.1 dX2_solve_40 rfl ?_
      refine lv_aload_n S.1 S.2.1 dX2_solve_41 rfl (lv_at hl 0 rfl) ?_
      refine r_getR (j := 4) S hW inX2 rfl f16 rfl LH_5 (by decide) rfl dX2_solve_42 ?_
      refine lv_iload_n S.1 S.2.1 dX2_solve_45 rfl (lv_at hl 1 rfl) ?_
      have b15 := h.1
      have h := h.2
      refine r_iald S hW LH_26 b15 dX2_solve_46 ?_
      refine lv_ldc S.1 S.2.1 S.2.2.2.1 k50 dX2_solve_47 ?_
      refine r_goV (r_runS (rest := []) S hW (mJ7_fill_fda19 l D T LH σ 31 LH_31  M (0 : Int32) (M.1 26 x1.toNatClampNeg) (1000000000 : Int32) _ h) w73 rfl hl.1 rfl (Nat.le_of_ble_eq_true rfl) dX2_solve_49 ⟨Nat.zero_le _, Nat.zero_le _⟩) hW (fun M17 H locs h hW => ?_)
      refine lv_aload_n S.1 S.2.1 dX2_solve_52 rfl (lv_at hl 0 rfl) ?_
      refine r_getI (j := 0) S hW inX2 rfl f39 rfl LH_5 (by decide) rfl dX2_solve_53 ?_
      refine lv_iconst (v := 1) S.1 S.2.1 dX2_solve_56 rfl ?_
      refine lv_isub S.1 S.2.1 dX2_solve_57 ?_
      refine lv_topi (fun v18 ev18 => ?_)
      have h := h v18 ev18
      refine lv_istore_n (lv' := [(2, .int v18), (0, .ref (σ 5)), (1, .int x1)]) S.1 S.2.1 dX2_solve_58 rfl hl (by decide) rfl (fun ls hl => ?_)
      exact (e59 _ _ _).mp h H locs ls hW (lv_sub hl [1, 2, 0] rfl)
  have z59 : ∀ x1 x2 M, qX2_solve_b59 post R32 R59 x1 x2 M → R59 x1 x2 M := by
    intro x1 x2 M h
    refine (e59 _ _ _).mpr (fun H locs ls hW hl => ?_)
    refine lv_iload_n S.1 S.2.1 dX2_solve_59 rfl (lv_at hl 2 rfl) ?_
    refine lv_if_lt (tgt := 85) S.1 S.2.1 dX2_solve_60 (by decide) (fun c19 => ?_) (fun c19 => ?_)
    · have h := h.1 c19
      obtain ⟨v20, ev20⟩ : ∃ y : Int32, y = x1 + (-1) := ⟨_, rfl⟩
      have h := h v20 ev20
      refine lv_iinc (v := v20) (lv' := [(1, .int v20), (0, .ref (σ 5)), (2, .int x2)]) S.1 S.2.1 dX2_solve_85 hl (k := 1) rfl (by rw [ev20]; rfl) (by decide) rfl (fun ls hl => ?_)
      refine lv_goto (tgt := 32) S.1 S.2.1 dX2_solve_88 (by decide) ?_
      exact (e32 _ _).mp h H locs ls hW (lv_sub hl [1, 0] rfl)
    · have h := h.2 c19
      refine lv_aload_n S.1 S.2.1 dX2_solve_63 rfl (lv_at hl 0 rfl) ?_
      refine r_getR (j := 6) S hW inX2 rfl f23 rfl LH_5 (by decide) rfl dX2_solve_64 ?_
      refine lv_iload_n S.1 S.2.1 dX2_solve_67 rfl (lv_at hl 2 rfl) ?_
      have b21 := h.1
      have h := h.2
      refine r_iald S hW LH_28 b21 dX2_solve_68 ?_
      refine lv_iload_n S.1 S.2.1 dX2_solve_69 rfl (lv_at hl 1 rfl) ?_
      refine lv_icmp_gt (tgt := 79) S.1 S.2.1 dX2_solve_70 (by decide) (fun c22 => ?_) (fun c22 => ?_)
      · have h := h.1 c22
        obtain ⟨v23, ev23⟩ : ∃ y : Int32, y = x2 + (-1) := ⟨_, rfl⟩
        have h := h v23 ev23
        refine lv_iinc (v := v23) (lv' := [(2, .int v23), (0, .ref (σ 5)), (1, .int x1)]) S.1 S.2.1 dX2_solve_79 hl (k := 2) rfl (by rw [ev23]; rfl) (by decide) rfl (fun ls hl => ?_)
        refine lv_goto (tgt := 59) S.1 S.2.1 dX2_solve_82 (by decide) ?_
        exact (e59 _ _ _).mp h H locs ls hW (lv_sub hl [1, 2, 0] rfl)
      · have h := h.2 c22
        refine lv_aload_n S.1 S.2.1 dX2_solve_73 rfl (lv_at hl 0 rfl) ?_
        refine lv_iload_n S.1 S.2.1 dX2_solve_74 rfl (lv_at hl 1 rfl) ?_
        refine lv_iload_n S.1 S.2.1 dX2_solve_75 rfl (lv_at hl 2 rfl) ?_
        refine r_goV (r_runV (rest := []) S hW (mX2_offer l D T σ M x1 x2 _ h) w76 rfl LH_5 rfl hl.1 rfl (Nat.le_of_ble_eq_true rfl) dX2_solve_76 ⟨Nat.zero_le _, Nat.zero_le _⟩) hW (fun M25 H locs h hW => ?_)
        obtain ⟨v26, ev26⟩ : ∃ y : Int32, y = x2 + (-1) := ⟨_, rfl⟩
        have h := h v26 ev26
        refine lv_iinc (v := v26) (lv' := [(2, .int v26), (0, .ref (σ 5)), (1, .int x1)]) S.1 S.2.1 dX2_solve_79 hl (k := 2) rfl (by rw [ev26]; rfl) (by decide) rfl (fun ls hl => ?_)
        refine lv_goto (tgt := 59) S.1 S.2.1 dX2_solve_82 (by decide) ?_
        exact (e59 _ _ _).mp h H locs ls hW (lv_sub hl [1, 2, 0] rfl)
  have h := h z32 z59
  refine lv_aload_n S.1 S.2.1 dX2_solve_0 rfl (lv_at hl 0 rfl) ?_
  refine r_getI (j := 11) S hW inX2 rfl f57 rfl LH_5 (by decide) rfl dX2_solve_1 ?_
  refine lv_if_eq (tgt := 8) S.1 S.2.1 dX2_solve_4 (by decide) (fun c1 => ?_) (fun c1 => ?_)
  · have h := h.1 c1
    refine lv_aload_n S.1 S.2.1 dX2_solve_8 rfl (lv_at hl 0 rfl) ?_
    refine lv_iconst (v := 1) S.1 S.2.1 dX2_solve_9 rfl ?_
    refine r_putI (j := 11) S hW inX2 rfl f57 rfl LH_5 (by decide) rfl tyX2 tyX2_ok nmX2 rfl rfl rfl dX2_solve_10 (fun M2 H locs eM2 hW => ?_)
    have h := h M2 eM2
    refine lv_aload_n S.1 S.2.1 dX2_solve_13 rfl (lv_at hl 0 rfl) ?_
    refine r_getR (j := 9) S hW inX2 rfl f32 rfl LH_5 (by decide) rfl dX2_solve_14 ?_
    refine lv_iconst (v := 0) S.1 S.2.1 dX2_solve_17 rfl ?_
    refine r_goV (r_runS (rest := []) S hW (mJ7_fill_53178 l D T LH σ 31 LH_31  M2 (0 : Int32) _ h) w64 rfl hl.1 rfl (Nat.le_of_ble_eq_true rfl) dX2_solve_18 ⟨Nat.zero_le _, Nat.zero_le _⟩) hW (fun M4 H locs h hW => ?_)
    refine lv_aload_n S.1 S.2.1 dX2_solve_21 rfl (lv_at hl 0 rfl) ?_
    refine r_getR (j := 10) S hW inX2 rfl f35 rfl LH_5 (by decide) rfl dX2_solve_22 ?_
    refine lv_lconst (v := 0) S.1 S.2.1 dX2_solve_25 rfl ?_
    refine r_goV (r_runS (rest := []) S hW (mJ7_fill_d0a16 l D T LH σ 32 LH_32  M4 (0 : Int64) _ h) w70 rfl hl.1 rfl (Nat.le_of_ble_eq_true rfl) dX2_solve_26 ⟨Nat.zero_le _, Nat.zero_le _⟩) hW (fun M6 H locs h hW => ?_)
    refine lv_bipush (v := 11) S.1 S.2.1 dX2_solve_29 rfl ?_
    refine lv_istore_n (lv' := [(1, .int (11 : Int32)), (0, .ref (σ 5))]) S.1 S.2.1 dX2_solve_31 rfl hl (by decide) rfl (fun ls hl => ?_)
    exact (e32 _ _).mp h H locs ls hW (lv_sub hl [1, 0] rfl)
  · have h := h.2 c1
    exact r_vret S hr hlk hW h dX2_solve_7
abbrev rmX2_hasType : Room := { frames := 1, cells := 0, slots := 0, locals := 23 }
set_option maxHeartbeats 4000000 in
set_option maxRecDepth 100000 in
theorem mX2_hasType (l : Launch) (D : va_G) (T : Nat → ClassId) (σ : Nat → Nat) (M : Mem) (a1 : Int32) (post : Int32 → Mem → Prop) (h : qX2_hasType a1 M post) : Met l yX2_hasType wsX2_hasType rmX2_hasType (preW D T LH σ [.ref (σ 5), .int a1] M) (postI D T LH σ post) 0 0 (fA LH σ) := by
  refine m_of (cc := cX2_hasType) (maxL := 2) (ret := (some .boolean)) (own := RX2) (by decide) rfl rfl (Nat.le_of_ble_eq_true rfl) ?_
  intro p e s m args below meth c H ls locs S hr hlk hl hW
  have hl : lv_has ls 2 [(0, .ref (σ 5)), (1, .int a1)] := hl
  have inX2 : ∀ w ∈ u_ws RX2 TX2 12, w ∈ wsX2_hasType := by decide +kernel
  have f39 := S.2.2.2.2 (.fieldLink RX2 39 "MachineHall$Market" "types" "I") (by decide +kernel)
  have w43 := va_cnB (args := args) (R := rmX2_hasType) (rm := rmX6_within) (mc := 0) (ms := 0) 3 S.2.2.2.2 gX2_hasType_X6_within_n43 rfl rfl rfl hW.2.2.2.2.2.2.2 (S.2.2.2.2 (.initialized RX6) (by decide +kernel)) (by decide +kernel) ⟨Nat.le_of_ble_eq_true rfl, Nat.le_of_ble_eq_true rfl⟩
  have stX6_within := S.2.2.2.2 (.static yX6_within) (by decide +kernel)
  refine lv_iload_n S.1 S.2.1 dX2_hasType_0 rfl (lv_at hl 1 rfl) ?_
  refine lv_i2l S.1 S.2.1 dX2_hasType_1 rfl ?_
  refine lv_iconst (v := 0) S.1 S.2.1 dX2_hasType_2 rfl ?_
  refine lv_aload_n S.1 S.2.1 dX2_hasType_3 rfl (lv_at hl 0 rfl) ?_
  refine r_getI (j := 0) S hW inX2 rfl f39 rfl LH_5 (by decide) rfl dX2_hasType_4 ?_
  refine lv_iconst (v := 1) S.1 S.2.1 dX2_hasType_7 rfl ?_
  refine lv_isub S.1 S.2.1 dX2_hasType_8 ?_
  refine r_goI (r_runN (rest := []) S hW (mX6_within l D T LH σ M (a1.toInt64) (0 : Int32) ((M.1 5 0) - (1 : Int32)) _ h) w43 stX6_within rfl hl.1 rfl (Nat.le_of_ble_eq_true rfl) dX2_hasType_9 ⟨Nat.zero_le _, Nat.zero_le _⟩) hW (fun r1 M2 H locs h hW => ?_)
  exact r_zret S hr hlk hW h.1 h.2 dX2_hasType_12
end
