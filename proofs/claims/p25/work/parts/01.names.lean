-- ===== PART A: goes FIRST, ahead of the names: the tables' words, and 'selects' of the private methods out of them =====
/-- a private method of a class that the tables say can be made, by its rows of tables_1 -/
def lw_okq (q : MethodName × Nat) : Prop := (q.1.cls ≠ "java/lang/invoke/MethodHandle" ∧ q.1.cls ≠ "java/lang/invoke/VarHandle") ∧ Cond.instantiable q.1.cls q.2 ∈ tables_1 ∧ Cond.privateMethod q.1 ∈ tables_1 ∧ Cond.instanceMethod q.1 ∈ tables_1
theorem lw_p0 : lw_okq (⟨"HookHours", "recorded", "(I)I"⟩, 8) := ⟨⟨by decide +kernel, by decide +kernel⟩, List.mem_of_getElem? (i := 13) (by decide +kernel), List.mem_of_getElem? (i := 307) (by decide +kernel), List.mem_of_getElem? (i := 308) (by decide +kernel)⟩
theorem lw_p1 : lw_okq (⟨"HookHours$History", "dropOldest", "()V"⟩, 2) := ⟨⟨by decide +kernel, by decide +kernel⟩, List.mem_of_getElem? (i := 161) (by decide +kernel), List.mem_of_getElem? (i := 315) (by decide +kernel), List.mem_of_getElem? (i := 316) (by decide +kernel)⟩
theorem lw_p2 : lw_okq (⟨"HookHours$History", "stateAt", "(I)LHookHours$State;"⟩, 2) := ⟨⟨by decide +kernel, by decide +kernel⟩, List.mem_of_getElem? (i := 161) (by decide +kernel), List.mem_of_getElem? (i := 319) (by decide +kernel), List.mem_of_getElem? (i := 320) (by decide +kernel)⟩
theorem lw_p3 : lw_okq (⟨"HookHours$Plan", "take", "(C)V"⟩, 11) := ⟨⟨by decide +kernel, by decide +kernel⟩, List.mem_of_getElem? (i := 177) (by decide +kernel), List.mem_of_getElem? (i := 534) (by decide +kernel), List.mem_of_getElem? (i := 535) (by decide +kernel)⟩
theorem lw_p4 : lw_okq (⟨"HookHours$Plan", "sign", "()I"⟩, 11) := ⟨⟨by decide +kernel, by decide +kernel⟩, List.mem_of_getElem? (i := 177) (by decide +kernel), List.mem_of_getElem? (i := 538) (by decide +kernel), List.mem_of_getElem? (i := 539) (by decide +kernel)⟩
theorem lw_p5 : lw_okq (⟨"HookHours$Plan", "readBid", "()V"⟩, 11) := ⟨⟨by decide +kernel, by decide +kernel⟩, List.mem_of_getElem? (i := 177) (by decide +kernel), List.mem_of_getElem? (i := 542) (by decide +kernel), List.mem_of_getElem? (i := 543) (by decide +kernel)⟩
theorem lw_p6 : lw_okq (⟨"HookHours$Plan", "number", "(II)I"⟩, 11) := ⟨⟨by decide +kernel, by decide +kernel⟩, List.mem_of_getElem? (i := 177) (by decide +kernel), List.mem_of_getElem? (i := 546) (by decide +kernel), List.mem_of_getElem? (i := 547) (by decide +kernel)⟩
theorem lw_p7 : lw_okq (⟨"HookHours", "performed", "(LHookHours$Plan;)I"⟩, 8) := ⟨⟨by decide +kernel, by decide +kernel⟩, List.mem_of_getElem? (i := 13) (by decide +kernel), List.mem_of_getElem? (i := 552) (by decide +kernel), List.mem_of_getElem? (i := 553) (by decide +kernel)⟩
def lw_privs_1 : List (MethodName × Nat) := [(⟨"HookHours", "recorded", "(I)I"⟩, 8), (⟨"HookHours$History", "dropOldest", "()V"⟩, 2), (⟨"HookHours$History", "stateAt", "(I)LHookHours$State;"⟩, 2), (⟨"HookHours$Plan", "take", "(C)V"⟩, 11), (⟨"HookHours$Plan", "sign", "()I"⟩, 11), (⟨"HookHours$Plan", "readBid", "()V"⟩, 11), (⟨"HookHours$Plan", "number", "(II)I"⟩, 11), (⟨"HookHours", "performed", "(LHookHours$Plan;)I"⟩, 8)]
theorem lw_r1 : ∀ q ∈ lw_privs_1, lw_okq q := List.forall_mem_cons.mpr ⟨lw_p0, List.forall_mem_cons.mpr ⟨lw_p1, List.forall_mem_cons.mpr ⟨lw_p2, List.forall_mem_cons.mpr ⟨lw_p3, List.forall_mem_cons.mpr ⟨lw_p4, List.forall_mem_cons.mpr ⟨lw_p5, List.forall_mem_cons.mpr ⟨lw_p6, List.forall_mem_cons.mpr ⟨lw_p7, fun _ h => absurd h List.not_mem_nil⟩⟩⟩⟩⟩⟩⟩⟩
def lw_privs : List (MethodName × Nat) := lw_privs_1
def lw_tbl : List Cond := k2_sels lw_privs ++ tables_1
theorem lw_privs_ok : ∀ q ∈ lw_privs, lw_okq q := lw_r1
-- ===== end of PART A; then your names; then what follows =====
/-! ===== BEGIN words of one list among another's, by their places ===== -/
theorem goodIn_r {big : List Cond} (ws : List Cond) (ps : List Nat) (hp : ws = ps.filterMap (fun i => big[i]?)) (h : ws.all goodWord = true) : GoodIn big ws := by
  intro w hw
  have h1 := List.all_eq_true.mp h w hw
  rw [hp] at hw
  obtain ⟨i, -, hi⟩ := List.mem_filterMap.mp hw
  have hm : w ∈ big := by first | exact List.mem_of_getElem? hi | exact List.getElem?_mem hi
  exact ⟨hm, good_of_word h1⟩
theorem goodIn_app {big a b : List Cond} (ha : GoodIn big a) (hb : GoodIn big b) : GoodIn big (a ++ b) := fun w h => (List.mem_append.mp h).elim (ha w) (hb w)
theorem goodIn_ca {big a b : List Cond} {c : Cond} (ha : GoodIn big (c :: a)) (hb : GoodIn big b) : GoodIn big (c :: (a ++ b)) := fun w h => (List.mem_cons.mp h).elim (fun e => ha w (List.mem_cons.mpr (Or.inl e))) (fun h => (List.mem_append.mp h).elim (fun h => ha w (List.mem_cons.mpr (Or.inr h))) (hb w))
theorem goodIn_sub {big ws : List Cond} (hm : ∀ w ∈ ws, w ∈ big) (h : ws.all goodWord = true) : GoodIn big ws := fun w hw => ⟨hm w hw, good_of_word (List.all_eq_true.mp h w hw)⟩
/-! ===== END ===== -/

/-! ===== BEGIN printed: names, fields, word lists, decode rows ===== -/
def RX0 : String := "HookHours$Bids"
def TX0 : u_T := fun k => match k with
  | 0 => ("HookHours$Bids", "weights", "[I", true)
  | _ => ("HookHours$Bids", "offers", "[I", true)
def tyX0 : Nat → FieldType := fun k => match k with
  | 0 => .array .int
  | _ => .array .int
abbrev wsX00 : List Cond := u_ws RX0 TX0 2
theorem nmX0 : ∀ a, a < 2 → ∀ b, b < 2 → a ≠ b → (TX0 a).2.1 ≠ (TX0 b).2.1 := by decide +kernel
theorem tyX0_ok : ∀ k, k < 2 → parseFieldDescriptor (TX0 k).2.2.1 = some (tyX0 k) := by decide +kernel
abbrev cX0_init : ByteArray := prog_2_method_1_code
def yX0_init : MethodName := ⟨RX0, "<init>", "()V"⟩
abbrev cX0_copy : ByteArray := prog_2_method_2_code
def yX0_copy : MethodName := ⟨RX0, "copy", "(LHookHours$Bids;)V"⟩
abbrev cX0_cellOf : ByteArray := prog_2_method_3_code
def yX0_cellOf : MethodName := ⟨RX0, "cellOf", "(II)I"⟩
abbrev cX0_offer : ByteArray := prog_2_method_4_code
def yX0_offer : MethodName := ⟨RX0, "offer", "(II)I"⟩
abbrev cX0_weight : ByteArray := prog_2_method_5_code
def yX0_weight : MethodName := ⟨RX0, "weight", "(II)I"⟩
abbrev cX0_set : ByteArray := prog_2_method_6_code
def yX0_set : MethodName := ⟨RX0, "set", "(IIII)V"⟩
abbrev cX0_remove : ByteArray := prog_2_method_7_code
def yX0_remove : MethodName := ⟨RX0, "remove", "(II)V"⟩
abbrev cX0_removeAll : ByteArray := prog_2_method_8_code
def yX0_removeAll : MethodName := ⟨RX0, "removeAll", "(I)V"⟩
abbrev cX0_countFor : ByteArray := prog_2_method_9_code
def yX0_countFor : MethodName := ⟨RX0, "countFor", "(I)I"⟩
abbrev cX0_countOf : ByteArray := prog_2_method_10_code
def yX0_countOf : MethodName := ⟨RX0, "countOf", "(I)I"⟩
abbrev cX0_countAll : ByteArray := prog_2_method_11_code
def yX0_countAll : MethodName := ⟨RX0, "countAll", "()I"⟩
abbrev cX0_offeredBy : ByteArray := prog_2_method_12_code
def yX0_offeredBy : MethodName := ⟨RX0, "offeredBy", "(I)I"⟩
abbrev cX0_highest : ByteArray := prog_2_method_13_code
def yX0_highest : MethodName := ⟨RX0, "highest", "(III)I"⟩
abbrev cX0_winner : ByteArray := prog_2_method_14_code
def yX0_winner : MethodName := ⟨RX0, "winner", "(II)I"⟩
def RX1 : String := "HookHours$Firms"
def TX1 : u_T := fun k => match k with
  | 0 => ("HookHours$Firms", "purses", "[I", true)
  | 1 => ("HookHours$Firms", "lifts", "[I", true)
  | 2 => ("HookHours$Firms", "paid", "[I", true)
  | _ => ("HookHours$Firms", "traded", "[I", true)
def tyX1 : Nat → FieldType := fun k => match k with
  | 0 => .array .int
  | 1 => .array .int
  | 2 => .array .int
  | _ => .array .int
abbrev wsX10 : List Cond := u_ws RX1 TX1 4
theorem nmX1 : ∀ a, a < 4 → ∀ b, b < 4 → a ≠ b → (TX1 a).2.1 ≠ (TX1 b).2.1 := by decide +kernel
theorem tyX1_ok : ∀ k, k < 4 → parseFieldDescriptor (TX1 k).2.2.1 = some (tyX1 k) := by decide +kernel
abbrev cX1_init : ByteArray := prog_3_method_1_code
def yX1_init : MethodName := ⟨RX1, "<init>", "()V"⟩
abbrev cX1_copy : ByteArray := prog_3_method_2_code
def yX1_copy : MethodName := ⟨RX1, "copy", "(LHookHours$Firms;)V"⟩
abbrev cX1_payYard : ByteArray := prog_3_method_3_code
def yX1_payYard : MethodName := ⟨RX1, "payYard", "(II)V"⟩
abbrev cX1_getByTrade : ByteArray := prog_3_method_4_code
def yX1_getByTrade : MethodName := ⟨RX1, "getByTrade", "(II)V"⟩
def RX2 : String := "HookHours$History"
def TX2 : u_T := fun k => match k with
  | 0 => ("HookHours$History", "states", "[LHookHours$State;", true)
  | _ => ("HookHours$History", "size", "I", false)
def tyX2 : Nat → FieldType := fun k => match k with
  | 0 => .array (.object "HookHours$State")
  | _ => .int
abbrev wsX20 : List Cond := u_ws RX2 TX2 2
theorem nmX2 : ∀ a, a < 2 → ∀ b, b < 2 → a ≠ b → (TX2 a).2.1 ≠ (TX2 b).2.1 := by decide +kernel
theorem tyX2_ok : ∀ k, k < 2 → parseFieldDescriptor (TX2 k).2.2.1 = some (tyX2 k) := by decide +kernel
abbrev cX2_init : ByteArray := prog_4_method_1_code
def yX2_init : MethodName := ⟨RX2, "<init>", "()V"⟩
abbrev cX2_size : ByteArray := prog_4_method_2_code
def yX2_size : MethodName := ⟨RX2, "size", "()I"⟩
abbrev cX2_store : ByteArray := prog_4_method_3_code
def yX2_store : MethodName := ⟨RX2, "store", "(LHookHours$State;)V"⟩
abbrev cX2_takeLatest : ByteArray := prog_4_method_4_code
def yX2_takeLatest : MethodName := ⟨RX2, "takeLatest", "(LHookHours$State;)Z"⟩
abbrev cX2_stateAt : ByteArray := prog_4_method_5_code
def yX2_stateAt : MethodName := ⟨RX2, "stateAt", "(I)LHookHours$State;"⟩
abbrev cX2_dropOldest : ByteArray := prog_4_method_6_code
def yX2_dropOldest : MethodName := ⟨RX2, "dropOldest", "()V"⟩
def RX3 : String := "HookHours$Plan"
def TX3 : u_T := fun k => match k with
  | 0 => ("HookHours$Plan", "text", "[C", true)
  | 1 => ("HookHours$Plan", "length", "I", false)
  | 2 => ("HookHours$Plan", "position", "I", false)
  | 3 => ("HookHours$Plan", "faulty", "Z", false)
  | 4 => ("HookHours$Plan", "kind", "I", false)
  | 5 => ("HookHours$Plan", "firm", "I", false)
  | 6 => ("HookHours$Plan", "crane", "I", false)
  | 7 => ("HookHours$Plan", "hour", "I", false)
  | 8 => ("HookHours$Plan", "weight", "I", false)
  | 9 => ("HookHours$Plan", "coins", "I", false)
  | _ => ("HookHours$Plan", "wind", "I", false)
def tyX3 : Nat → FieldType := fun k => match k with
  | 0 => .array .char
  | 1 => .int
  | 2 => .int
  | 3 => .boolean
  | 4 => .int
  | 5 => .int
  | 6 => .int
  | 7 => .int
  | 8 => .int
  | 9 => .int
  | _ => .int
abbrev wsX30 : List Cond := u_ws RX3 TX3 11
theorem nmX3 : ∀ a, a < 11 → ∀ b, b < 11 → a ≠ b → (TX3 a).2.1 ≠ (TX3 b).2.1 := by decide +kernel
theorem tyX3_ok : ∀ k, k < 11 → parseFieldDescriptor (TX3 k).2.2.1 = some (tyX3 k) := by decide +kernel
abbrev cX3_init : ByteArray := prog_5_method_1_code
def yX3_init : MethodName := ⟨RX3, "<init>", "()V"⟩
abbrev cX3_length : ByteArray := prog_5_method_2_code
def yX3_length : MethodName := ⟨RX3, "length", "()I"⟩
abbrev cX3_check : ByteArray := prog_5_method_5_code
def yX3_check : MethodName := ⟨RX3, "check", "()I"⟩
abbrev cX3_rewind : ByteArray := prog_5_method_6_code
def yX3_rewind : MethodName := ⟨RX3, "rewind", "()V"⟩
abbrev cX3_readNext : ByteArray := prog_5_method_7_code
def yX3_readNext : MethodName := ⟨RX3, "readNext", "()V"⟩
abbrev cX3_readBid : ByteArray := prog_5_method_8_code
def yX3_readBid : MethodName := ⟨RX3, "readBid", "()V"⟩
abbrev cX3_sign : ByteArray := prog_5_method_9_code
def yX3_sign : MethodName := ⟨RX3, "sign", "()I"⟩
abbrev cX3_take : ByteArray := prog_5_method_10_code
def yX3_take : MethodName := ⟨RX3, "take", "(C)V"⟩
abbrev cX3_number : ByteArray := prog_5_method_11_code
def yX3_number : MethodName := ⟨RX3, "number", "(II)I"⟩
def RX4 : String := "HookHours$Rows"
def TX4 : u_T := fun k => match k with
  | _ => ("", "", "", false)
def tyX4 : Nat → FieldType := fun k => match k with
  | _ => .int
abbrev wsX40 : List Cond := u_ws RX4 TX4 0
theorem nmX4 : ∀ a, a < 0 → ∀ b, b < 0 → a ≠ b → (TX4 a).2.1 ≠ (TX4 b).2.1 := by decide +kernel
theorem tyX4_ok : ∀ k, k < 0 → parseFieldDescriptor (TX4 k).2.2.1 = some (tyX4 k) := by decide +kernel
abbrev cX4_at : ByteArray := prog_6_method_2_code
def yX4_at : MethodName := ⟨RX4, "at", "([II)I"⟩
abbrev cX4_put : ByteArray := prog_6_method_3_code
def yX4_put : MethodName := ⟨RX4, "put", "([III)V"⟩
abbrev cX4_add : ByteArray := prog_6_method_4_code
def yX4_add : MethodName := ⟨RX4, "add", "([III)V"⟩
abbrev cX4_sum : ByteArray := prog_6_method_5_code
def yX4_sum : MethodName := ⟨RX4, "sum", "([I)I"⟩
abbrev cX4_fill : ByteArray := prog_6_method_6_code
def yX4_fill : MethodName := ⟨RX4, "fill", "([II)V"⟩
abbrev cX4_copy : ByteArray := prog_6_method_7_code
def yX4_copy : MethodName := ⟨RX4, "copy", "([I[I)V"⟩
def RX5 : String := "HookHours$Slots"
def TX5 : u_T := fun k => match k with
  | 0 => ("HookHours$Slots", "owners", "[I", true)
  | 1 => ("HookHours$Slots", "weights", "[I", true)
  | 2 => ("HookHours$Slots", "prices", "[I", true)
  | _ => ("HookHours$Slots", "reasons", "[I", true)
def tyX5 : Nat → FieldType := fun k => match k with
  | 0 => .array .int
  | 1 => .array .int
  | 2 => .array .int
  | _ => .array .int
abbrev wsX50 : List Cond := u_ws RX5 TX5 4
theorem nmX5 : ∀ a, a < 4 → ∀ b, b < 4 → a ≠ b → (TX5 a).2.1 ≠ (TX5 b).2.1 := by decide +kernel
theorem tyX5_ok : ∀ k, k < 4 → parseFieldDescriptor (TX5 k).2.2.1 = some (tyX5 k) := by decide +kernel
abbrev cX5_init : ByteArray := prog_7_method_1_code
def yX5_init : MethodName := ⟨RX5, "<init>", "()V"⟩
abbrev cX5_copy : ByteArray := prog_7_method_2_code
def yX5_copy : MethodName := ⟨RX5, "copy", "(LHookHours$Slots;)V"⟩
abbrev cX5_clear : ByteArray := prog_7_method_3_code
def yX5_clear : MethodName := ⟨RX5, "clear", "()V"⟩
abbrev cX5_ownerOf : ByteArray := prog_7_method_4_code
def yX5_ownerOf : MethodName := ⟨RX5, "ownerOf", "(I)I"⟩
abbrev cX5_isAwarded : ByteArray := prog_7_method_5_code
def yX5_isAwarded : MethodName := ⟨RX5, "isAwarded", "(I)Z"⟩
abbrev cX5_give : ByteArray := prog_7_method_6_code
def yX5_give : MethodName := ⟨RX5, "give", "(III)V"⟩
def RX6 : String := "HookHours$State"
def TX6 : u_T := fun k => match k with
  | 0 => ("HookHours$State", "day", "I", false)
  | 1 => ("HookHours$State", "next", "I", false)
  | 2 => ("HookHours$State", "expected", "[I", true)
  | 3 => ("HookHours$State", "blown", "[I", true)
  | 4 => ("HookHours$State", "bids", "LHookHours$Bids;", true)
  | 5 => ("HookHours$State", "slots", "LHookHours$Slots;", true)
  | 6 => ("HookHours$State", "firms", "LHookHours$Firms;", true)
  | _ => ("HookHours$State", "totals", "LHookHours$Totals;", true)
def tyX6 : Nat → FieldType := fun k => match k with
  | 0 => .int
  | 1 => .int
  | 2 => .array .int
  | 3 => .array .int
  | 4 => .object "HookHours$Bids"
  | 5 => .object "HookHours$Slots"
  | 6 => .object "HookHours$Firms"
  | _ => .object "HookHours$Totals"
abbrev wsX60 : List Cond := u_ws RX6 TX6 8
theorem nmX6 : ∀ a, a < 8 → ∀ b, b < 8 → a ≠ b → (TX6 a).2.1 ≠ (TX6 b).2.1 := by decide +kernel
theorem tyX6_ok : ∀ k, k < 8 → parseFieldDescriptor (TX6 k).2.2.1 = some (tyX6 k) := by decide +kernel
abbrev cX6_init : ByteArray := prog_8_method_1_code
def yX6_init : MethodName := ⟨RX6, "<init>", "()V"⟩
abbrev cX6_copy : ByteArray := prog_8_method_2_code
def yX6_copy : MethodName := ⟨RX6, "copy", "(LHookHours$State;)V"⟩
abbrev cX6_isOver : ByteArray := prog_8_method_3_code
def yX6_isOver : MethodName := ⟨RX6, "isOver", "(I)Z"⟩
abbrev cX6_isOpen : ByteArray := prog_8_method_4_code
def yX6_isOpen : MethodName := ⟨RX6, "isOpen", "(II)Z"⟩
abbrev cX6_heaviestLift : ByteArray := prog_8_method_5_code
def yX6_heaviestLift : MethodName := ⟨RX6, "heaviestLift", "(II)I"⟩
abbrev cX6_freeCoins : ByteArray := prog_8_method_6_code
def yX6_freeCoins : MethodName := ⟨RX6, "freeCoins", "(I)I"⟩
abbrev cX6_setWind : ByteArray := prog_8_method_7_code
def yX6_setWind : MethodName := ⟨RX6, "setWind", "(II)I"⟩
abbrev cX6_addCoins : ByteArray := prog_8_method_8_code
def yX6_addCoins : MethodName := ⟨RX6, "addCoins", "(II)I"⟩
abbrev cX6_bidError : ByteArray := prog_8_method_9_code
def yX6_bidError : MethodName := ⟨RX6, "bidError", "(IIIII)I"⟩
abbrev cX6_placeBid : ByteArray := prog_8_method_10_code
def yX6_placeBid : MethodName := ⟨RX6, "placeBid", "(IIIII)I"⟩
abbrev cX6_priceOf : ByteArray := prog_8_method_11_code
def yX6_priceOf : MethodName := ⟨RX6, "priceOf", "(IIIII)I"⟩
abbrev cX6_removeBid : ByteArray := prog_8_method_12_code
def yX6_removeBid : MethodName := ⟨RX6, "removeBid", "(III)I"⟩
abbrev cX6_awardEarly : ByteArray := prog_8_method_13_code
def yX6_awardEarly : MethodName := ⟨RX6, "awardEarly", "(II)I"⟩
abbrev cX6_awardOpen : ByteArray := prog_8_method_14_code
def yX6_awardOpen : MethodName := ⟨RX6, "awardOpen", "(II)I"⟩
abbrev cX6_sell : ByteArray := prog_8_method_15_code
def yX6_sell : MethodName := ⟨RX6, "sell", "(IIIII)I"⟩
abbrev cX6_endHour : ByteArray := prog_8_method_16_code
def yX6_endHour : MethodName := ⟨RX6, "endHour", "(I)I"⟩
abbrev cX6_endSlot : ByteArray := prog_8_method_17_code
def yX6_endSlot : MethodName := ⟨RX6, "endSlot", "(II)Z"⟩
abbrev cX6_reasonAgainst : ByteArray := prog_8_method_18_code
def yX6_reasonAgainst : MethodName := ⟨RX6, "reasonAgainst", "(III)I"⟩
abbrev cX6_refund : ByteArray := prog_8_method_19_code
def yX6_refund : MethodName := ⟨RX6, "refund", "(II)V"⟩
abbrev cX6_beginDay : ByteArray := prog_8_method_20_code
def yX6_beginDay : MethodName := ⟨RX6, "beginDay", "()I"⟩
abbrev cX6_openAwards : ByteArray := prog_8_method_21_code
def yX6_openAwards : MethodName := ⟨RX6, "openAwards", "(I)I"⟩
abbrev cX6_cheapestHour : ByteArray := prog_8_method_22_code
def yX6_cheapestHour : MethodName := ⟨RX6, "cheapestHour", "(II)I"⟩
abbrev cX6_total : ByteArray := prog_8_method_23_code
def yX6_total : MethodName := ⟨RX6, "total", "(I)I"⟩
def RX7 : String := "HookHours$Totals"
def TX7 : u_T := fun k => match k with
  | 0 => ("HookHours$Totals", "without", "[I", true)
  | 1 => ("HookHours$Totals", "yard", "I", false)
  | 2 => ("HookHours$Totals", "refunds", "I", false)
  | 3 => ("HookHours$Totals", "funded", "I", false)
  | 4 => ("HookHours$Totals", "trades", "I", false)
  | 5 => ("HookHours$Totals", "lifts", "I", false)
  | _ => ("HookHours$Totals", "weights", "I", false)
def tyX7 : Nat → FieldType := fun k => match k with
  | 0 => .array .int
  | 1 => .int
  | 2 => .int
  | 3 => .int
  | 4 => .int
  | 5 => .int
  | _ => .int
abbrev wsX70 : List Cond := u_ws RX7 TX7 7
theorem nmX7 : ∀ a, a < 7 → ∀ b, b < 7 → a ≠ b → (TX7 a).2.1 ≠ (TX7 b).2.1 := by decide +kernel
theorem tyX7_ok : ∀ k, k < 7 → parseFieldDescriptor (TX7 k).2.2.1 = some (tyX7 k) := by decide +kernel
abbrev cX7_init : ByteArray := prog_9_method_1_code
def yX7_init : MethodName := ⟨RX7, "<init>", "()V"⟩
abbrev cX7_copy : ByteArray := prog_9_method_2_code
def yX7_copy : MethodName := ⟨RX7, "copy", "(LHookHours$Totals;)V"⟩
def RX8 : String := "HookHours"
def TX8 : u_T := fun k => match k with
  | 0 => ("HookHours", "now", "LHookHours$State;", true)
  | 1 => ("HookHours", "before", "LHookHours$State;", true)
  | 2 => ("HookHours", "history", "LHookHours$History;", true)
  | 3 => ("HookHours", "snapshot", "LHookHours$State;", true)
  | 4 => ("HookHours", "kept", "Z", false)
  | 5 => ("HookHours", "plan", "LHookHours$Plan;", true)
  | 6 => ("HookHours", "stopEntry", "I", false)
  | _ => ("HookHours", "stopError", "I", false)
def tyX8 : Nat → FieldType := fun k => match k with
  | 0 => .object "HookHours$State"
  | 1 => .object "HookHours$State"
  | 2 => .object "HookHours$History"
  | 3 => .object "HookHours$State"
  | 4 => .boolean
  | 5 => .object "HookHours$Plan"
  | 6 => .int
  | _ => .int
abbrev wsX80 : List Cond := u_ws RX8 TX8 8
theorem nmX8 : ∀ a, a < 8 → ∀ b, b < 8 → a ≠ b → (TX8 a).2.1 ≠ (TX8 b).2.1 := by decide +kernel
theorem tyX8_ok : ∀ k, k < 8 → parseFieldDescriptor (TX8 k).2.2.1 = some (tyX8 k) := by decide +kernel
abbrev cX8_init : ByteArray := prog_1_method_1_code
def yX8_init : MethodName := ⟨RX8, "<init>", "()V"⟩
abbrev cX8_expect : ByteArray := prog_1_method_2_code
def yX8_expect : MethodName := ⟨RX8, "expect", "(II)I"⟩
abbrev cX8_fund : ByteArray := prog_1_method_3_code
def yX8_fund : MethodName := ⟨RX8, "fund", "(II)I"⟩
abbrev cX8_bid : ByteArray := prog_1_method_4_code
def yX8_bid : MethodName := ⟨RX8, "bid", "(IIIII)I"⟩
abbrev cX8_withdraw : ByteArray := prog_1_method_5_code
def yX8_withdraw : MethodName := ⟨RX8, "withdraw", "(III)I"⟩
abbrev cX8_award : ByteArray := prog_1_method_6_code
def yX8_award : MethodName := ⟨RX8, "award", "(II)I"⟩
abbrev cX8_trade : ByteArray := prog_1_method_7_code
def yX8_trade : MethodName := ⟨RX8, "trade", "(IIIII)I"⟩
abbrev cX8_done : ByteArray := prog_1_method_8_code
def yX8_done : MethodName := ⟨RX8, "done", "(I)I"⟩
abbrev cX8_nextDay : ByteArray := prog_1_method_9_code
def yX8_nextDay : MethodName := ⟨RX8, "nextDay", "()I"⟩
abbrev cX8_perform : ByteArray := prog_1_method_12_code
def yX8_perform : MethodName := ⟨RX8, "perform", "()I"⟩
abbrev cX8_stopped : ByteArray := prog_1_method_13_code
def yX8_stopped : MethodName := ⟨RX8, "stopped", "(I)I"⟩
abbrev cX8_undo : ByteArray := prog_1_method_14_code
def yX8_undo : MethodName := ⟨RX8, "undo", "()I"⟩
abbrev cX8_restore : ByteArray := prog_1_method_16_code
def yX8_restore : MethodName := ⟨RX8, "restore", "()I"⟩
abbrev cX8_firm : ByteArray := prog_1_method_17_code
def yX8_firm : MethodName := ⟨RX8, "firm", "(II)I"⟩
abbrev cX8_slot : ByteArray := prog_1_method_18_code
def yX8_slot : MethodName := ⟨RX8, "slot", "(III)I"⟩
abbrev cX8_wouldCost : ByteArray := prog_1_method_19_code
def yX8_wouldCost : MethodName := ⟨RX8, "wouldCost", "(IIIII)I"⟩
abbrev cX8_heaviest : ByteArray := prog_1_method_20_code
def yX8_heaviest : MethodName := ⟨RX8, "heaviest", "(II)I"⟩
abbrev cX8_wind : ByteArray := prog_1_method_21_code
def yX8_wind : MethodName := ⟨RX8, "wind", "(I)I"⟩
abbrev cX8_cheapest : ByteArray := prog_1_method_22_code
def yX8_cheapest : MethodName := ⟨RX8, "cheapest", "(II)I"⟩
abbrev cX8_count : ByteArray := prog_1_method_23_code
def yX8_count : MethodName := ⟨RX8, "count", "(I)I"⟩
abbrev cX8_recorded : ByteArray := prog_1_method_24_code
def yX8_recorded : MethodName := ⟨RX8, "recorded", "(I)I"⟩
abbrev cX8_performed : ByteArray := prog_1_method_25_code
def yX8_performed : MethodName := ⟨RX8, "performed", "(LHookHours$Plan;)I"⟩
abbrev cX8_isFirm : ByteArray := prog_1_method_26_code
def yX8_isFirm : MethodName := ⟨RX8, "isFirm", "(I)Z"⟩
abbrev cX8_isCrane : ByteArray := prog_1_method_27_code
def yX8_isCrane : MethodName := ⟨RX8, "isCrane", "(I)Z"⟩
abbrev cX8_isHour : ByteArray := prog_1_method_28_code
def yX8_isHour : MethodName := ⟨RX8, "isHour", "(I)Z"⟩
abbrev cX8_isSlot : ByteArray := prog_1_method_29_code
def yX8_isSlot : MethodName := ⟨RX8, "isSlot", "(II)Z"⟩
abbrev cX8_isLift : ByteArray := prog_1_method_30_code
def yX8_isLift : MethodName := ⟨RX8, "isLift", "(II)Z"⟩
abbrev cX8_isWind : ByteArray := prog_1_method_31_code
def yX8_isWind : MethodName := ⟨RX8, "isWind", "(I)Z"⟩
abbrev cX8_slotOf : ByteArray := prog_1_method_32_code
def yX8_slotOf : MethodName := ⟨RX8, "slotOf", "(II)I"⟩
abbrev cX8_heaviestAt : ByteArray := prog_1_method_33_code
def yX8_heaviestAt : MethodName := ⟨RX8, "heaviestAt", "(II)I"⟩
def RX9 : String := "HookHoursModel"
def TX9 : u_T := fun k => match k with
  | _ => ("", "", "", false)
def tyX9 : Nat → FieldType := fun k => match k with
  | _ => .int
abbrev wsX90 : List Cond := u_ws RX9 TX9 0
theorem nmX9 : ∀ a, a < 0 → ∀ b, b < 0 → a ≠ b → (TX9 a).2.1 ≠ (TX9 b).2.1 := by decide +kernel
theorem tyX9_ok : ∀ k, k < 0 → parseFieldDescriptor (TX9 k).2.2.1 = some (tyX9 k) := by decide +kernel
def RJ9 : String := "java/lang/Math"
def TJ9 : u_T := fun k => match k with
  | _ => ("", "", "", false)
def tyJ9 : Nat → FieldType := fun k => match k with
  | _ => .int
abbrev wsJ90 : List Cond := u_ws RJ9 TJ9 0
theorem nmJ9 : ∀ a, a < 0 → ∀ b, b < 0 → a ≠ b → (TJ9 a).2.1 ≠ (TJ9 b).2.1 := by decide +kernel
theorem tyJ9_ok : ∀ k, k < 0 → parseFieldDescriptor (TJ9 k).2.2.1 = some (tyJ9 k) := by decide +kernel
abbrev cJ9_max_7cf53 : ByteArray := prog_12_method_65_code
def yJ9_max_7cf53 : MethodName := ⟨RJ9, "max", "(II)I"⟩
abbrev cJ9_min_7cf53 : ByteArray := prog_12_method_69_code
def yJ9_min_7cf53 : MethodName := ⟨RJ9, "min", "(II)I"⟩
def RJ10 : String := "java/lang/System"
def TJ10 : u_T := fun k => match k with
  | _ => ("", "", "", false)
def tyJ10 : Nat → FieldType := fun k => match k with
  | _ => .int
abbrev wsJ100 : List Cond := u_ws RJ10 TJ10 0
theorem nmJ10 : ∀ a, a < 0 → ∀ b, b < 0 → a ≠ b → (TJ10 a).2.1 ≠ (TJ10 b).2.1 := by decide +kernel
theorem tyJ10_ok : ∀ k, k < 0 → parseFieldDescriptor (TJ10 k).2.2.1 = some (tyJ10 k) := by decide +kernel
def RL : String := "HookHoursLaw"
abbrev cL_cell : ByteArray := method_2_code
def yL_cell : MethodName := ⟨RL, "cell", "([II)I"⟩
abbrev cL_acts : ByteArray := method_3_code
def yL_acts : MethodName := ⟨RL, "acts", "(LHookHours;I)I"⟩
abbrev cL_hangs : ByteArray := method_4_code
def yL_hangs : MethodName := ⟨RL, "hangs", "(LHookHours;)Z"⟩
abbrev cL_law : ByteArray := code
def yL_law : MethodName := ⟨RL, "law", "([I)Z"⟩
abbrev vwCl : List vw_C := [(RX0, TX0, 2), (RX1, TX1, 4), (RX2, TX2, 2), (RX3, TX3, 11), (RX5, TX5, 4), (RX6, TX6, 8), (RX7, TX7, 7), (RX8, TX8, 8)]
