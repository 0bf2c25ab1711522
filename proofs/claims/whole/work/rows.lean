section
-- ===== PART A: goes FIRST, ahead of the names: the tables' words, and 'selects' of the private methods out of them =====
/-- a private method of a class that the tables say can be made, by its rows of tables_1 -/
def lw_okq (q : MethodName × Nat) : Prop := (q.1.cls ≠ "java/lang/invoke/MethodHandle" ∧ q.1.cls ≠ "java/lang/invoke/VarHandle") ∧ Cond.instantiable q.1.cls q.2 ∈ tables_1 ∧ Cond.privateMethod q.1 ∈ tables_1 ∧ Cond.instanceMethod q.1 ∈ tables_1
theorem lw_p0 : lw_okq (⟨"HookHours", "recorded", "(I)I"⟩, 8) := ⟨⟨by decide +kernel, by decide +kernel⟩, List.mem_of_getElem? (i := 14) (by decide +kernel), List.mem_of_getElem? (i := 308) (by decide +kernel), List.mem_of_getElem? (i := 309) (by decide +kernel)⟩
theorem lw_p1 : lw_okq (⟨"HookHours$History", "dropOldest", "()V"⟩, 2) := ⟨⟨by decide +kernel, by decide +kernel⟩, List.mem_of_getElem? (i := 162) (by decide +kernel), List.mem_of_getElem? (i := 316) (by decide +kernel), List.mem_of_getElem? (i := 317) (by decide +kernel)⟩
theorem lw_p2 : lw_okq (⟨"HookHours$History", "stateAt", "(I)LHookHours$State;"⟩, 2) := ⟨⟨by decide +kernel, by decide +kernel⟩, List.mem_of_getElem? (i := 162) (by decide +kernel), List.mem_of_getElem? (i := 320) (by decide +kernel), List.mem_of_getElem? (i := 321) (by decide +kernel)⟩
theorem lw_p3 : lw_okq (⟨"HookHours$Plan", "take", "(C)V"⟩, 11) := ⟨⟨by decide +kernel, by decide +kernel⟩, List.mem_of_getElem? (i := 178) (by decide +kernel), List.mem_of_getElem? (i := 551) (by decide +kernel), List.mem_of_getElem? (i := 552) (by decide +kernel)⟩
theorem lw_p4 : lw_okq (⟨"HookHours$Plan", "sign", "()I"⟩, 11) := ⟨⟨by decide +kernel, by decide +kernel⟩, List.mem_of_getElem? (i := 178) (by decide +kernel), List.mem_of_getElem? (i := 555) (by decide +kernel), List.mem_of_getElem? (i := 556) (by decide +kernel)⟩
theorem lw_p5 : lw_okq (⟨"HookHours$Plan", "readBid", "()V"⟩, 11) := ⟨⟨by decide +kernel, by decide +kernel⟩, List.mem_of_getElem? (i := 178) (by decide +kernel), List.mem_of_getElem? (i := 559) (by decide +kernel), List.mem_of_getElem? (i := 560) (by decide +kernel)⟩
theorem lw_p6 : lw_okq (⟨"HookHours$Plan", "number", "(II)I"⟩, 11) := ⟨⟨by decide +kernel, by decide +kernel⟩, List.mem_of_getElem? (i := 178) (by decide +kernel), List.mem_of_getElem? (i := 563) (by decide +kernel), List.mem_of_getElem? (i := 564) (by decide +kernel)⟩
theorem lw_p7 : lw_okq (⟨"HookHours", "performed", "(LHookHours$Plan;)I"⟩, 8) := ⟨⟨by decide +kernel, by decide +kernel⟩, List.mem_of_getElem? (i := 14) (by decide +kernel), List.mem_of_getElem? (i := 569) (by decide +kernel), List.mem_of_getElem? (i := 570) (by decide +kernel)⟩
theorem lw_p8 : lw_okq (⟨"HookHoursModel", "empties", "(I)V"⟩, 11) := ⟨⟨by decide +kernel, by decide +kernel⟩, List.mem_of_getElem? (i := 662) (by decide +kernel), List.mem_of_getElem? (i := 668) (by decide +kernel), List.mem_of_getElem? (i := 669) (by decide +kernel)⟩
theorem lw_p9 : lw_okq (⟨"HookHoursModel", "clears", "(II)V"⟩, 11) := ⟨⟨by decide +kernel, by decide +kernel⟩, List.mem_of_getElem? (i := 662) (by decide +kernel), List.mem_of_getElem? (i := 672) (by decide +kernel), List.mem_of_getElem? (i := 673) (by decide +kernel)⟩
theorem lw_p10 : lw_okq (⟨"HookHoursModel", "copies", "(II)V"⟩, 11) := ⟨⟨by decide +kernel, by decide +kernel⟩, List.mem_of_getElem? (i := 662) (by decide +kernel), List.mem_of_getElem? (i := 714) (by decide +kernel), List.mem_of_getElem? (i := 715) (by decide +kernel)⟩
theorem lw_p11 : lw_okq (⟨"HookHoursModel", "expects", "(III)I"⟩, 11) := ⟨⟨by decide +kernel, by decide +kernel⟩, List.mem_of_getElem? (i := 662) (by decide +kernel), List.mem_of_getElem? (i := 718) (by decide +kernel), List.mem_of_getElem? (i := 719) (by decide +kernel)⟩
theorem lw_p12 : lw_okq (⟨"HookHoursModel", "isDone", "(II)Z"⟩, 11) := ⟨⟨by decide +kernel, by decide +kernel⟩, List.mem_of_getElem? (i := 662) (by decide +kernel), List.mem_of_getElem? (i := 725) (by decide +kernel), List.mem_of_getElem? (i := 726) (by decide +kernel)⟩
theorem lw_p13 : lw_okq (⟨"HookHoursModel", "settles", "(I)I"⟩, 11) := ⟨⟨by decide +kernel, by decide +kernel⟩, List.mem_of_getElem? (i := 662) (by decide +kernel), List.mem_of_getElem? (i := 729) (by decide +kernel), List.mem_of_getElem? (i := 730) (by decide +kernel)⟩
theorem lw_p14 : lw_okq (⟨"HookHoursModel", "records", "()V"⟩, 11) := ⟨⟨by decide +kernel, by decide +kernel⟩, List.mem_of_getElem? (i := 662) (by decide +kernel), List.mem_of_getElem? (i := 733) (by decide +kernel), List.mem_of_getElem? (i := 734) (by decide +kernel)⟩
theorem lw_p15 : lw_okq (⟨"HookHoursModel", "bidsBy", "(IIIIII)I"⟩, 11) := ⟨⟨by decide +kernel, by decide +kernel⟩, List.mem_of_getElem? (i := 662) (by decide +kernel), List.mem_of_getElem? (i := 745) (by decide +kernel), List.mem_of_getElem? (i := 746) (by decide +kernel)⟩
def lw_privs_1 : List (MethodName × Nat) := [(⟨"HookHours", "recorded", "(I)I"⟩, 8), (⟨"HookHours$History", "dropOldest", "()V"⟩, 2), (⟨"HookHours$History", "stateAt", "(I)LHookHours$State;"⟩, 2), (⟨"HookHours$Plan", "take", "(C)V"⟩, 11), (⟨"HookHours$Plan", "sign", "()I"⟩, 11), (⟨"HookHours$Plan", "readBid", "()V"⟩, 11), (⟨"HookHours$Plan", "number", "(II)I"⟩, 11), (⟨"HookHours", "performed", "(LHookHours$Plan;)I"⟩, 8), (⟨"HookHoursModel", "empties", "(I)V"⟩, 11), (⟨"HookHoursModel", "clears", "(II)V"⟩, 11), (⟨"HookHoursModel", "copies", "(II)V"⟩, 11), (⟨"HookHoursModel", "expects", "(III)I"⟩, 11), (⟨"HookHoursModel", "isDone", "(II)Z"⟩, 11), (⟨"HookHoursModel", "settles", "(I)I"⟩, 11), (⟨"HookHoursModel", "records", "()V"⟩, 11), (⟨"HookHoursModel", "bidsBy", "(IIIIII)I"⟩, 11)]
theorem lw_r1 : ∀ q ∈ lw_privs_1, lw_okq q := List.forall_mem_cons.mpr ⟨lw_p0, List.forall_mem_cons.mpr ⟨lw_p1, List.forall_mem_cons.mpr ⟨lw_p2, List.forall_mem_cons.mpr ⟨lw_p3, List.forall_mem_cons.mpr ⟨lw_p4, List.forall_mem_cons.mpr ⟨lw_p5, List.forall_mem_cons.mpr ⟨lw_p6, List.forall_mem_cons.mpr ⟨lw_p7, List.forall_mem_cons.mpr ⟨lw_p8, List.forall_mem_cons.mpr ⟨lw_p9, List.forall_mem_cons.mpr ⟨lw_p10, List.forall_mem_cons.mpr ⟨lw_p11, List.forall_mem_cons.mpr ⟨lw_p12, List.forall_mem_cons.mpr ⟨lw_p13, List.forall_mem_cons.mpr ⟨lw_p14, List.forall_mem_cons.mpr ⟨lw_p15, fun _ h => absurd h List.not_mem_nil⟩⟩⟩⟩⟩⟩⟩⟩⟩⟩⟩⟩⟩⟩⟩⟩
theorem lw_p16 : lw_okq (⟨"HookHoursModel", "wrong", "(IIIIII)I"⟩, 11) := ⟨⟨by decide +kernel, by decide +kernel⟩, List.mem_of_getElem? (i := 662) (by decide +kernel), List.mem_of_getElem? (i := 749) (by decide +kernel), List.mem_of_getElem? (i := 750) (by decide +kernel)⟩
theorem lw_p17 : lw_okq (⟨"HookHoursModel", "offered", "(II)I"⟩, 11) := ⟨⟨by decide +kernel, by decide +kernel⟩, List.mem_of_getElem? (i := 662) (by decide +kernel), List.mem_of_getElem? (i := 759) (by decide +kernel), List.mem_of_getElem? (i := 760) (by decide +kernel)⟩
theorem lw_p18 : lw_okq (⟨"HookHoursModel", "bids", "(I)I"⟩, 11) := ⟨⟨by decide +kernel, by decide +kernel⟩, List.mem_of_getElem? (i := 662) (by decide +kernel), List.mem_of_getElem? (i := 763) (by decide +kernel), List.mem_of_getElem? (i := 764) (by decide +kernel)⟩
theorem lw_p19 : lw_okq (⟨"HookHoursModel", "bidsFor", "(II)I"⟩, 11) := ⟨⟨by decide +kernel, by decide +kernel⟩, List.mem_of_getElem? (i := 662) (by decide +kernel), List.mem_of_getElem? (i := 767) (by decide +kernel), List.mem_of_getElem? (i := 768) (by decide +kernel)⟩
theorem lw_p20 : lw_okq (⟨"HookHoursModel", "best", "(III)I"⟩, 11) := ⟨⟨by decide +kernel, by decide +kernel⟩, List.mem_of_getElem? (i := 662) (by decide +kernel), List.mem_of_getElem? (i := 782) (by decide +kernel), List.mem_of_getElem? (i := 783) (by decide +kernel)⟩
theorem lw_p21 : lw_okq (⟨"HookHoursModel", "borne", "(III)I"⟩, 11) := ⟨⟨by decide +kernel, by decide +kernel⟩, List.mem_of_getElem? (i := 662) (by decide +kernel), List.mem_of_getElem? (i := 786) (by decide +kernel), List.mem_of_getElem? (i := 787) (by decide +kernel)⟩
theorem lw_p22 : lw_okq (⟨"HookHoursModel", "awards", "(II)I"⟩, 11) := ⟨⟨by decide +kernel, by decide +kernel⟩, List.mem_of_getElem? (i := 662) (by decide +kernel), List.mem_of_getElem? (i := 793) (by decide +kernel), List.mem_of_getElem? (i := 794) (by decide +kernel)⟩
theorem lw_p23 : lw_okq (⟨"HookHoursModel", "does", "(II)I"⟩, 11) := ⟨⟨by decide +kernel, by decide +kernel⟩, List.mem_of_getElem? (i := 662) (by decide +kernel), List.mem_of_getElem? (i := 805) (by decide +kernel), List.mem_of_getElem? (i := 806) (by decide +kernel)⟩
theorem lw_p24 : lw_okq (⟨"HookHoursModel", "goesOn", "(IIII)V"⟩, 11) := ⟨⟨by decide +kernel, by decide +kernel⟩, List.mem_of_getElem? (i := 662) (by decide +kernel), List.mem_of_getElem? (i := 809) (by decide +kernel), List.mem_of_getElem? (i := 810) (by decide +kernel)⟩
theorem lw_p25 : lw_okq (⟨"HookHoursModel", "begins", "(I)I"⟩, 11) := ⟨⟨by decide +kernel, by decide +kernel⟩, List.mem_of_getElem? (i := 662) (by decide +kernel), List.mem_of_getElem? (i := 817) (by decide +kernel), List.mem_of_getElem? (i := 818) (by decide +kernel)⟩
theorem lw_p26 : lw_okq (⟨"HookHoursModel", "fault", "()I"⟩, 11) := ⟨⟨by decide +kernel, by decide +kernel⟩, List.mem_of_getElem? (i := 662) (by decide +kernel), List.mem_of_getElem? (i := 825) (by decide +kernel), List.mem_of_getElem? (i := 826) (by decide +kernel)⟩
theorem lw_p27 : lw_okq (⟨"HookHoursModel", "reads", "()V"⟩, 11) := ⟨⟨by decide +kernel, by decide +kernel⟩, List.mem_of_getElem? (i := 662) (by decide +kernel), List.mem_of_getElem? (i := 829) (by decide +kernel), List.mem_of_getElem? (i := 830) (by decide +kernel)⟩
theorem lw_p28 : lw_okq (⟨"HookHoursModel", "number", "(II)I"⟩, 11) := ⟨⟨by decide +kernel, by decide +kernel⟩, List.mem_of_getElem? (i := 662) (by decide +kernel), List.mem_of_getElem? (i := 833) (by decide +kernel), List.mem_of_getElem? (i := 834) (by decide +kernel)⟩
theorem lw_p29 : lw_okq (⟨"HookHoursModel", "isNext", "(II)Z"⟩, 11) := ⟨⟨by decide +kernel, by decide +kernel⟩, List.mem_of_getElem? (i := 662) (by decide +kernel), List.mem_of_getElem? (i := 837) (by decide +kernel), List.mem_of_getElem? (i := 838) (by decide +kernel)⟩
theorem lw_p30 : lw_okq (⟨"HookHoursModel", "takes", "(I)V"⟩, 11) := ⟨⟨by decide +kernel, by decide +kernel⟩, List.mem_of_getElem? (i := 662) (by decide +kernel), List.mem_of_getElem? (i := 841) (by decide +kernel), List.mem_of_getElem? (i := 842) (by decide +kernel)⟩
theorem lw_p31 : lw_okq (⟨"HookHoursModel", "performs", "(I)I"⟩, 11) := ⟨⟨by decide +kernel, by decide +kernel⟩, List.mem_of_getElem? (i := 662) (by decide +kernel), List.mem_of_getElem? (i := 845) (by decide +kernel), List.mem_of_getElem? (i := 846) (by decide +kernel)⟩
def lw_privs_2 : List (MethodName × Nat) := [(⟨"HookHoursModel", "wrong", "(IIIIII)I"⟩, 11), (⟨"HookHoursModel", "offered", "(II)I"⟩, 11), (⟨"HookHoursModel", "bids", "(I)I"⟩, 11), (⟨"HookHoursModel", "bidsFor", "(II)I"⟩, 11), (⟨"HookHoursModel", "best", "(III)I"⟩, 11), (⟨"HookHoursModel", "borne", "(III)I"⟩, 11), (⟨"HookHoursModel", "awards", "(II)I"⟩, 11), (⟨"HookHoursModel", "does", "(II)I"⟩, 11), (⟨"HookHoursModel", "goesOn", "(IIII)V"⟩, 11), (⟨"HookHoursModel", "begins", "(I)I"⟩, 11), (⟨"HookHoursModel", "fault", "()I"⟩, 11), (⟨"HookHoursModel", "reads", "()V"⟩, 11), (⟨"HookHoursModel", "number", "(II)I"⟩, 11), (⟨"HookHoursModel", "isNext", "(II)Z"⟩, 11), (⟨"HookHoursModel", "takes", "(I)V"⟩, 11), (⟨"HookHoursModel", "performs", "(I)I"⟩, 11)]
theorem lw_r2 : ∀ q ∈ lw_privs_2, lw_okq q := List.forall_mem_cons.mpr ⟨lw_p16, List.forall_mem_cons.mpr ⟨lw_p17, List.forall_mem_cons.mpr ⟨lw_p18, List.forall_mem_cons.mpr ⟨lw_p19, List.forall_mem_cons.mpr ⟨lw_p20, List.forall_mem_cons.mpr ⟨lw_p21, List.forall_mem_cons.mpr ⟨lw_p22, List.forall_mem_cons.mpr ⟨lw_p23, List.forall_mem_cons.mpr ⟨lw_p24, List.forall_mem_cons.mpr ⟨lw_p25, List.forall_mem_cons.mpr ⟨lw_p26, List.forall_mem_cons.mpr ⟨lw_p27, List.forall_mem_cons.mpr ⟨lw_p28, List.forall_mem_cons.mpr ⟨lw_p29, List.forall_mem_cons.mpr ⟨lw_p30, List.forall_mem_cons.mpr ⟨lw_p31, fun _ h => absurd h List.not_mem_nil⟩⟩⟩⟩⟩⟩⟩⟩⟩⟩⟩⟩⟩⟩⟩⟩
theorem lw_p32 : lw_okq (⟨"HookHoursModel", "bidsOf", "(II)I"⟩, 11) := ⟨⟨by decide +kernel, by decide +kernel⟩, List.mem_of_getElem? (i := 662) (by decide +kernel), List.mem_of_getElem? (i := 877) (by decide +kernel), List.mem_of_getElem? (i := 878) (by decide +kernel)⟩
theorem lw_p33 : lw_okq (⟨"HookHoursModel", "awarded", "(I)I"⟩, 11) := ⟨⟨by decide +kernel, by decide +kernel⟩, List.mem_of_getElem? (i := 662) (by decide +kernel), List.mem_of_getElem? (i := 881) (by decide +kernel), List.mem_of_getElem? (i := 882) (by decide +kernel)⟩
theorem lw_p34 : lw_okq (⟨"HookHoursModel", "highest", "(I)I"⟩, 11) := ⟨⟨by decide +kernel, by decide +kernel⟩, List.mem_of_getElem? (i := 662) (by decide +kernel), List.mem_of_getElem? (i := 889) (by decide +kernel), List.mem_of_getElem? (i := 890) (by decide +kernel)⟩
def lw_privs_3 : List (MethodName × Nat) := [(⟨"HookHoursModel", "bidsOf", "(II)I"⟩, 11), (⟨"HookHoursModel", "awarded", "(I)I"⟩, 11), (⟨"HookHoursModel", "highest", "(I)I"⟩, 11)]
theorem lw_r3 : ∀ q ∈ lw_privs_3, lw_okq q := List.forall_mem_cons.mpr ⟨lw_p32, List.forall_mem_cons.mpr ⟨lw_p33, List.forall_mem_cons.mpr ⟨lw_p34, fun _ h => absurd h List.not_mem_nil⟩⟩⟩
def lw_privs : List (MethodName × Nat) := lw_privs_1 ++ (lw_privs_2 ++ (lw_privs_3))
def lw_tbl : List Cond := k2_sels lw_privs ++ tables_1
theorem lw_privs_ok : ∀ q ∈ lw_privs, lw_okq q := by
  show ∀ q ∈ lw_privs_1 ++ (lw_privs_2 ++ (lw_privs_3)), lw_okq q
  exact List.forall_mem_append.mpr ⟨lw_r1, List.forall_mem_append.mpr ⟨lw_r2, lw_r3⟩⟩
-- ===== end of PART A; then your names; then what follows =====
/-! ===== BEGIN words of one list among another's, by their places ===== -/
theorem goodIn_r {big : List Cond} (ws : List Cond) (ps : List Nat) (hp : ws = ps.filterMap (fun i => big[i]?)) (h : ws.all goodWord = true) : GoodIn big ws := by
  intro w hw
  have h1 := List.all_eq_true.mp h w hw
  rw [hp] at hw
  obtain ⟨i, -, hi⟩ := List.mem_filterMap.mp hw
  have hm : w ∈ big := by first | exact List.mem_of_getElem? hi | exact List.getElem?_mem hi
  exact ⟨hm, good_of_word h1⟩
theorem goodIn_app {big a b : List Cond} (ha : GoodIn big a) (hb : GoodIn big b) : GoodIn big (a ++ b) := fun w h => (List.mem_append.mp h).elim (ha w) (hb w)
theorem goodIn_ca {big a b : List Cond} {c : Cond} (ha : GoodIn big (c :: a)) (hb : GoodIn big b) : GoodIn big (c :: (a ++ b)) := fun w h => (List.mem_cons.mp h).elim (fun e => ha w (List.mem_cons.mpr (Or.inl e))) (fun h => (List.mem_append.mp h).elim (fun h => ha w (List.mem_cons.mpr (Or.inr h))) (hb w))
theorem goodIn_sub {big ws : List Cond} (hm : ∀ w ∈ ws, w ∈ big) (h : ws.all goodWord = true) : GoodIn big ws := fun w hw => ⟨hm w hw, good_of_word (List.all_eq_true.mp h w hw)⟩
/-! ===== END ===== -/

/-! ===== BEGIN printed: names, fields, word lists, decode rows ===== -/
def RX0 : String := "HookHours$Bids"
def TX0 : u_T := fun k => match k with
  | 0 => ("HookHours$Bids", "weights", "[I", true)
  | _ => ("HookHours$Bids", "offers", "[I", true)
def tyX0 : Nat → FieldType := fun k => match k with
  | 0 => .array .int
  | _ => .array .int
abbrev wsX00 : List Cond := u_ws RX0 TX0 2
theorem nmX0 : ∀ a, a < 2 → ∀ b, b < 2 → a ≠ b → (TX0 a).2.1 ≠ (TX0 b).2.1 := by decide +kernel
theorem tyX0_ok : ∀ k, k < 2 → parseFieldDescriptor (TX0 k).2.2.1 = some (tyX0 k) := by decide +kernel
abbrev cX0_init : ByteArray := prog_2_method_1_code
def yX0_init : MethodName := ⟨RX0, "<init>", "()V"⟩
abbrev cX0_copy : ByteArray := prog_2_method_2_code
def yX0_copy : MethodName := ⟨RX0, "copy", "(LHookHours$Bids;)V"⟩
abbrev cX0_cellOf : ByteArray := prog_2_method_3_code
def yX0_cellOf : MethodName := ⟨RX0, "cellOf", "(II)I"⟩
abbrev cX0_offer : ByteArray := prog_2_method_4_code
def yX0_offer : MethodName := ⟨RX0, "offer", "(II)I"⟩
abbrev cX0_weight : ByteArray := prog_2_method_5_code
def yX0_weight : MethodName := ⟨RX0, "weight", "(II)I"⟩
abbrev cX0_set : ByteArray := prog_2_method_6_code
def yX0_set : MethodName := ⟨RX0, "set", "(IIII)V"⟩
abbrev cX0_remove : ByteArray := prog_2_method_7_code
def yX0_remove : MethodName := ⟨RX0, "remove", "(II)V"⟩
abbrev cX0_removeAll : ByteArray := prog_2_method_8_code
def yX0_removeAll : MethodName := ⟨RX0, "removeAll", "(I)V"⟩
abbrev cX0_countFor : ByteArray := prog_2_method_9_code
def yX0_countFor : MethodName := ⟨RX0, "countFor", "(I)I"⟩
abbrev cX0_countOf : ByteArray := prog_2_method_10_code
def yX0_countOf : MethodName := ⟨RX0, "countOf", "(I)I"⟩
abbrev cX0_countAll : ByteArray := prog_2_method_11_code
def yX0_countAll : MethodName := ⟨RX0, "countAll", "()I"⟩
abbrev cX0_offeredBy : ByteArray := prog_2_method_12_code
def yX0_offeredBy : MethodName := ⟨RX0, "offeredBy", "(I)I"⟩
abbrev cX0_highest : ByteArray := prog_2_method_13_code
def yX0_highest : MethodName := ⟨RX0, "highest", "(III)I"⟩
abbrev cX0_winner : ByteArray := prog_2_method_14_code
def yX0_winner : MethodName := ⟨RX0, "winner", "(II)I"⟩
def RX1 : String := "HookHours$Firms"
def TX1 : u_T := fun k => match k with
  | 0 => ("HookHours$Firms", "purses", "[I", true)
  | 1 => ("HookHours$Firms", "lifts", "[I", true)
  | 2 => ("HookHours$Firms", "paid", "[I", true)
  | _ => ("HookHours$Firms", "traded", "[I", true)
def tyX1 : Nat → FieldType := fun k => match k with
  | 0 => .array .int
  | 1 => .array .int
  | 2 => .array .int
  | _ => .array .int
abbrev wsX10 : List Cond := u_ws RX1 TX1 4
theorem nmX1 : ∀ a, a < 4 → ∀ b, b < 4 → a ≠ b → (TX1 a).2.1 ≠ (TX1 b).2.1 := by decide +kernel
theorem tyX1_ok : ∀ k, k < 4 → parseFieldDescriptor (TX1 k).2.2.1 = some (tyX1 k) := by decide +kernel
abbrev cX1_init : ByteArray := prog_3_method_1_code
def yX1_init : MethodName := ⟨RX1, "<init>", "()V"⟩
abbrev cX1_copy : ByteArray := prog_3_method_2_code
def yX1_copy : MethodName := ⟨RX1, "copy", "(LHookHours$Firms;)V"⟩
abbrev cX1_payYard : ByteArray := prog_3_method_3_code
def yX1_payYard : MethodName := ⟨RX1, "payYard", "(II)V"⟩
abbrev cX1_getByTrade : ByteArray := prog_3_method_4_code
def yX1_getByTrade : MethodName := ⟨RX1, "getByTrade", "(II)V"⟩
def RX2 : String := "HookHours$History"
def TX2 : u_T := fun k => match k with
  | 0 => ("HookHours$History", "states", "[LHookHours$State;", true)
  | _ => ("HookHours$History", "size", "I", false)
def tyX2 : Nat → FieldType := fun k => match k with
  | 0 => .array (.object "HookHours$State")
  | _ => .int
abbrev wsX20 : List Cond := u_ws RX2 TX2 2
theorem nmX2 : ∀ a, a < 2 → ∀ b, b < 2 → a ≠ b → (TX2 a).2.1 ≠ (TX2 b).2.1 := by decide +kernel
theorem tyX2_ok : ∀ k, k < 2 → parseFieldDescriptor (TX2 k).2.2.1 = some (tyX2 k) := by decide +kernel
abbrev cX2_init : ByteArray := prog_4_method_1_code
def yX2_init : MethodName := ⟨RX2, "<init>", "()V"⟩
abbrev cX2_size : ByteArray := prog_4_method_2_code
def yX2_size : MethodName := ⟨RX2, "size", "()I"⟩
abbrev cX2_store : ByteArray := prog_4_method_3_code
def yX2_store : MethodName := ⟨RX2, "store", "(LHookHours$State;)V"⟩
abbrev cX2_takeLatest : ByteArray := prog_4_method_4_code
def yX2_takeLatest : MethodName := ⟨RX2, "takeLatest", "(LHookHours$State;)Z"⟩
abbrev cX2_stateAt : ByteArray := prog_4_method_5_code
def yX2_stateAt : MethodName := ⟨RX2, "stateAt", "(I)LHookHours$State;"⟩
abbrev cX2_dropOldest : ByteArray := prog_4_method_6_code
def yX2_dropOldest : MethodName := ⟨RX2, "dropOldest", "()V"⟩
def RX3 : String := "HookHours$Plan"
def TX3 : u_T := fun k => match k with
  | 0 => ("HookHours$Plan", "text", "[C", true)
  | 1 => ("HookHours$Plan", "length", "I", false)
  | 2 => ("HookHours$Plan", "position", "I", false)
  | 3 => ("HookHours$Plan", "faulty", "Z", false)
  | 4 => ("HookHours$Plan", "kind", "I", false)
  | 5 => ("HookHours$Plan", "firm", "I", false)
  | 6 => ("HookHours$Plan", "crane", "I", false)
  | 7 => ("HookHours$Plan", "hour", "I", false)
  | 8 => ("HookHours$Plan", "weight", "I", false)
  | 9 => ("HookHours$Plan", "coins", "I", false)
  | _ => ("HookHours$Plan", "wind", "I", false)
def tyX3 : Nat → FieldType := fun k => match k with
  | 0 => .array .char
  | 1 => .int
  | 2 => .int
  | 3 => .boolean
  | 4 => .int
  | 5 => .int
  | 6 => .int
  | 7 => .int
  | 8 => .int
  | 9 => .int
  | _ => .int
abbrev wsX30 : List Cond := u_ws RX3 TX3 11
theorem nmX3 : ∀ a, a < 11 → ∀ b, b < 11 → a ≠ b → (TX3 a).2.1 ≠ (TX3 b).2.1 := by decide +kernel
theorem tyX3_ok : ∀ k, k < 11 → parseFieldDescriptor (TX3 k).2.2.1 = some (tyX3 k) := by decide +kernel
abbrev cX3_init : ByteArray := prog_5_method_1_code
def yX3_init : MethodName := ⟨RX3, "<init>", "()V"⟩
abbrev cX3_length : ByteArray := prog_5_method_2_code
def yX3_length : MethodName := ⟨RX3, "length", "()I"⟩
abbrev cX3_append : ByteArray := prog_5_method_3_code
def yX3_append : MethodName := ⟨RX3, "append", "(C)I"⟩
abbrev cX3_empty : ByteArray := prog_5_method_4_code
def yX3_empty : MethodName := ⟨RX3, "empty", "()I"⟩
abbrev cX3_check : ByteArray := prog_5_method_5_code
def yX3_check : MethodName := ⟨RX3, "check", "()I"⟩
abbrev cX3_rewind : ByteArray := prog_5_method_6_code
def yX3_rewind : MethodName := ⟨RX3, "rewind", "()V"⟩
abbrev cX3_readNext : ByteArray := prog_5_method_7_code
def yX3_readNext : MethodName := ⟨RX3, "readNext", "()V"⟩
abbrev cX3_readBid : ByteArray := prog_5_method_8_code
def yX3_readBid : MethodName := ⟨RX3, "readBid", "()V"⟩
abbrev cX3_sign : ByteArray := prog_5_method_9_code
def yX3_sign : MethodName := ⟨RX3, "sign", "()I"⟩
abbrev cX3_take : ByteArray := prog_5_method_10_code
def yX3_take : MethodName := ⟨RX3, "take", "(C)V"⟩
abbrev cX3_number : ByteArray := prog_5_method_11_code
def yX3_number : MethodName := ⟨RX3, "number", "(II)I"⟩
def RX4 : String := "HookHours$Rows"
def TX4 : u_T := fun k => match k with
  | _ => ("", "", "", false)
def tyX4 : Nat → FieldType := fun k => match k with
  | _ => .int
abbrev wsX40 : List Cond := u_ws RX4 TX4 0
theorem nmX4 : ∀ a, a < 0 → ∀ b, b < 0 → a ≠ b → (TX4 a).2.1 ≠ (TX4 b).2.1 := by decide +kernel
theorem tyX4_ok : ∀ k, k < 0 → parseFieldDescriptor (TX4 k).2.2.1 = some (tyX4 k) := by decide +kernel
abbrev cX4_at : ByteArray := prog_6_method_2_code
def yX4_at : MethodName := ⟨RX4, "at", "([II)I"⟩
abbrev cX4_put : ByteArray := prog_6_method_3_code
def yX4_put : MethodName := ⟨RX4, "put", "([III)V"⟩
abbrev cX4_add : ByteArray := prog_6_method_4_code
def yX4_add : MethodName := ⟨RX4, "add", "([III)V"⟩
abbrev cX4_sum : ByteArray := prog_6_method_5_code
def yX4_sum : MethodName := ⟨RX4, "sum", "([I)I"⟩
abbrev cX4_fill : ByteArray := prog_6_method_6_code
def yX4_fill : MethodName := ⟨RX4, "fill", "([II)V"⟩
abbrev cX4_copy : ByteArray := prog_6_method_7_code
def yX4_copy : MethodName := ⟨RX4, "copy", "([I[I)V"⟩
def RX5 : String := "HookHours$Slots"
def TX5 : u_T := fun k => match k with
  | 0 => ("HookHours$Slots", "owners", "[I", true)
  | 1 => ("HookHours$Slots", "weights", "[I", true)
  | 2 => ("HookHours$Slots", "prices", "[I", true)
  | _ => ("HookHours$Slots", "reasons", "[I", true)
def tyX5 : Nat → FieldType := fun k => match k with
  | 0 => .array .int
  | 1 => .array .int
  | 2 => .array .int
  | _ => .array .int
abbrev wsX50 : List Cond := u_ws RX5 TX5 4
theorem nmX5 : ∀ a, a < 4 → ∀ b, b < 4 → a ≠ b → (TX5 a).2.1 ≠ (TX5 b).2.1 := by decide +kernel
theorem tyX5_ok : ∀ k, k < 4 → parseFieldDescriptor (TX5 k).2.2.1 = some (tyX5 k) := by decide +kernel
abbrev cX5_init : ByteArray := prog_7_method_1_code
def yX5_init : MethodName := ⟨RX5, "<init>", "()V"⟩
abbrev cX5_copy : ByteArray := prog_7_method_2_code
def yX5_copy : MethodName := ⟨RX5, "copy", "(LHookHours$Slots;)V"⟩
abbrev cX5_clear : ByteArray := prog_7_method_3_code
def yX5_clear : MethodName := ⟨RX5, "clear", "()V"⟩
abbrev cX5_ownerOf : ByteArray := prog_7_method_4_code
def yX5_ownerOf : MethodName := ⟨RX5, "ownerOf", "(I)I"⟩
abbrev cX5_isAwarded : ByteArray := prog_7_method_5_code
def yX5_isAwarded : MethodName := ⟨RX5, "isAwarded", "(I)Z"⟩
abbrev cX5_give : ByteArray := prog_7_method_6_code
def yX5_give : MethodName := ⟨RX5, "give", "(III)V"⟩
def RX6 : String := "HookHours$State"
def TX6 : u_T := fun k => match k with
  | 0 => ("HookHours$State", "day", "I", false)
  | 1 => ("HookHours$State", "next", "I", false)
  | 2 => ("HookHours$State", "expected", "[I", true)
  | 3 => ("HookHours$State", "blown", "[I", true)
  | 4 => ("HookHours$State", "bids", "LHookHours$Bids;", true)
  | 5 => ("HookHours$State", "slots", "LHookHours$Slots;", true)
  | 6 => ("HookHours$State", "firms", "LHookHours$Firms;", true)
  | _ => ("HookHours$State", "totals", "LHookHours$Totals;", true)
def tyX6 : Nat → FieldType := fun k => match k with
  | 0 => .int
  | 1 => .int
  | 2 => .array .int
  | 3 => .array .int
  | 4 => .object "HookHours$Bids"
  | 5 => .object "HookHours$Slots"
  | 6 => .object "HookHours$Firms"
  | _ => .object "HookHours$Totals"
abbrev wsX60 : List Cond := u_ws RX6 TX6 8
theorem nmX6 : ∀ a, a < 8 → ∀ b, b < 8 → a ≠ b → (TX6 a).2.1 ≠ (TX6 b).2.1 := by decide +kernel
theorem tyX6_ok : ∀ k, k < 8 → parseFieldDescriptor (TX6 k).2.2.1 = some (tyX6 k) := by decide +kernel
abbrev cX6_init : ByteArray := prog_8_method_1_code
def yX6_init : MethodName := ⟨RX6, "<init>", "()V"⟩
abbrev cX6_copy : ByteArray := prog_8_method_2_code
def yX6_copy : MethodName := ⟨RX6, "copy", "(LHookHours$State;)V"⟩
abbrev cX6_isOver : ByteArray := prog_8_method_3_code
def yX6_isOver : MethodName := ⟨RX6, "isOver", "(I)Z"⟩
abbrev cX6_isOpen : ByteArray := prog_8_method_4_code
def yX6_isOpen : MethodName := ⟨RX6, "isOpen", "(II)Z"⟩
abbrev cX6_heaviestLift : ByteArray := prog_8_method_5_code
def yX6_heaviestLift : MethodName := ⟨RX6, "heaviestLift", "(II)I"⟩
abbrev cX6_freeCoins : ByteArray := prog_8_method_6_code
def yX6_freeCoins : MethodName := ⟨RX6, "freeCoins", "(I)I"⟩
abbrev cX6_setWind : ByteArray := prog_8_method_7_code
def yX6_setWind : MethodName := ⟨RX6, "setWind", "(II)I"⟩
abbrev cX6_addCoins : ByteArray := prog_8_method_8_code
def yX6_addCoins : MethodName := ⟨RX6, "addCoins", "(II)I"⟩
abbrev cX6_bidError : ByteArray := prog_8_method_9_code
def yX6_bidError : MethodName := ⟨RX6, "bidError", "(IIIII)I"⟩
abbrev cX6_placeBid : ByteArray := prog_8_method_10_code
def yX6_placeBid : MethodName := ⟨RX6, "placeBid", "(IIIII)I"⟩
abbrev cX6_priceOf : ByteArray := prog_8_method_11_code
def yX6_priceOf : MethodName := ⟨RX6, "priceOf", "(IIIII)I"⟩
abbrev cX6_removeBid : ByteArray := prog_8_method_12_code
def yX6_removeBid : MethodName := ⟨RX6, "removeBid", "(III)I"⟩
abbrev cX6_awardEarly : ByteArray := prog_8_method_13_code
def yX6_awardEarly : MethodName := ⟨RX6, "awardEarly", "(II)I"⟩
abbrev cX6_awardOpen : ByteArray := prog_8_method_14_code
def yX6_awardOpen : MethodName := ⟨RX6, "awardOpen", "(II)I"⟩
abbrev cX6_sell : ByteArray := prog_8_method_15_code
def yX6_sell : MethodName := ⟨RX6, "sell", "(IIIII)I"⟩
abbrev cX6_endHour : ByteArray := prog_8_method_16_code
def yX6_endHour : MethodName := ⟨RX6, "endHour", "(I)I"⟩
abbrev cX6_endSlot : ByteArray := prog_8_method_17_code
def yX6_endSlot : MethodName := ⟨RX6, "endSlot", "(II)Z"⟩
abbrev cX6_reasonAgainst : ByteArray := prog_8_method_18_code
def yX6_reasonAgainst : MethodName := ⟨RX6, "reasonAgainst", "(III)I"⟩
abbrev cX6_refund : ByteArray := prog_8_method_19_code
def yX6_refund : MethodName := ⟨RX6, "refund", "(II)V"⟩
abbrev cX6_beginDay : ByteArray := prog_8_method_20_code
def yX6_beginDay : MethodName := ⟨RX6, "beginDay", "()I"⟩
abbrev cX6_openAwards : ByteArray := prog_8_method_21_code
def yX6_openAwards : MethodName := ⟨RX6, "openAwards", "(I)I"⟩
abbrev cX6_cheapestHour : ByteArray := prog_8_method_22_code
def yX6_cheapestHour : MethodName := ⟨RX6, "cheapestHour", "(II)I"⟩
abbrev cX6_total : ByteArray := prog_8_method_23_code
def yX6_total : MethodName := ⟨RX6, "total", "(I)I"⟩
def RX7 : String := "HookHours$Totals"
def TX7 : u_T := fun k => match k with
  | 0 => ("HookHours$Totals", "without", "[I", true)
  | 1 => ("HookHours$Totals", "yard", "I", false)
  | 2 => ("HookHours$Totals", "refunds", "I", false)
  | 3 => ("HookHours$Totals", "funded", "I", false)
  | 4 => ("HookHours$Totals", "trades", "I", false)
  | 5 => ("HookHours$Totals", "lifts", "I", false)
  | _ => ("HookHours$Totals", "weights", "I", false)
def tyX7 : Nat → FieldType := fun k => match k with
  | 0 => .array .int
  | 1 => .int
  | 2 => .int
  | 3 => .int
  | 4 => .int
  | 5 => .int
  | _ => .int
abbrev wsX70 : List Cond := u_ws RX7 TX7 7
theorem nmX7 : ∀ a, a < 7 → ∀ b, b < 7 → a ≠ b → (TX7 a).2.1 ≠ (TX7 b).2.1 := by decide +kernel
theorem tyX7_ok : ∀ k, k < 7 → parseFieldDescriptor (TX7 k).2.2.1 = some (tyX7 k) := by decide +kernel
abbrev cX7_init : ByteArray := prog_9_method_1_code
def yX7_init : MethodName := ⟨RX7, "<init>", "()V"⟩
abbrev cX7_copy : ByteArray := prog_9_method_2_code
def yX7_copy : MethodName := ⟨RX7, "copy", "(LHookHours$Totals;)V"⟩
def RX8 : String := "HookHours"
def TX8 : u_T := fun k => match k with
  | 0 => ("HookHours", "now", "LHookHours$State;", true)
  | 1 => ("HookHours", "before", "LHookHours$State;", true)
  | 2 => ("HookHours", "history", "LHookHours$History;", true)
  | 3 => ("HookHours", "snapshot", "LHookHours$State;", true)
  | 4 => ("HookHours", "kept", "Z", false)
  | 5 => ("HookHours", "plan", "LHookHours$Plan;", true)
  | 6 => ("HookHours", "stopEntry", "I", false)
  | _ => ("HookHours", "stopError", "I", false)
def tyX8 : Nat → FieldType := fun k => match k with
  | 0 => .object "HookHours$State"
  | 1 => .object "HookHours$State"
  | 2 => .object "HookHours$History"
  | 3 => .object "HookHours$State"
  | 4 => .boolean
  | 5 => .object "HookHours$Plan"
  | 6 => .int
  | _ => .int
abbrev wsX80 : List Cond := u_ws RX8 TX8 8
theorem nmX8 : ∀ a, a < 8 → ∀ b, b < 8 → a ≠ b → (TX8 a).2.1 ≠ (TX8 b).2.1 := by decide +kernel
theorem tyX8_ok : ∀ k, k < 8 → parseFieldDescriptor (TX8 k).2.2.1 = some (tyX8 k) := by decide +kernel
abbrev cX8_init : ByteArray := prog_1_method_1_code
def yX8_init : MethodName := ⟨RX8, "<init>", "()V"⟩
abbrev cX8_expect : ByteArray := prog_1_method_2_code
def yX8_expect : MethodName := ⟨RX8, "expect", "(II)I"⟩
abbrev cX8_fund : ByteArray := prog_1_method_3_code
def yX8_fund : MethodName := ⟨RX8, "fund", "(II)I"⟩
abbrev cX8_bid : ByteArray := prog_1_method_4_code
def yX8_bid : MethodName := ⟨RX8, "bid", "(IIIII)I"⟩
abbrev cX8_withdraw : ByteArray := prog_1_method_5_code
def yX8_withdraw : MethodName := ⟨RX8, "withdraw", "(III)I"⟩
abbrev cX8_award : ByteArray := prog_1_method_6_code
def yX8_award : MethodName := ⟨RX8, "award", "(II)I"⟩
abbrev cX8_trade : ByteArray := prog_1_method_7_code
def yX8_trade : MethodName := ⟨RX8, "trade", "(IIIII)I"⟩
abbrev cX8_done : ByteArray := prog_1_method_8_code
def yX8_done : MethodName := ⟨RX8, "done", "(I)I"⟩
abbrev cX8_nextDay : ByteArray := prog_1_method_9_code
def yX8_nextDay : MethodName := ⟨RX8, "nextDay", "()I"⟩
abbrev cX8_type : ByteArray := prog_1_method_10_code
def yX8_type : MethodName := ⟨RX8, "type", "(C)I"⟩
abbrev cX8_clearText : ByteArray := prog_1_method_11_code
def yX8_clearText : MethodName := ⟨RX8, "clearText", "()I"⟩
abbrev cX8_perform : ByteArray := prog_1_method_12_code
def yX8_perform : MethodName := ⟨RX8, "perform", "()I"⟩
abbrev cX8_stopped : ByteArray := prog_1_method_13_code
def yX8_stopped : MethodName := ⟨RX8, "stopped", "(I)I"⟩
abbrev cX8_undo : ByteArray := prog_1_method_14_code
def yX8_undo : MethodName := ⟨RX8, "undo", "()I"⟩
abbrev cX8_keep : ByteArray := prog_1_method_15_code
def yX8_keep : MethodName := ⟨RX8, "keep", "()I"⟩
abbrev cX8_restore : ByteArray := prog_1_method_16_code
def yX8_restore : MethodName := ⟨RX8, "restore", "()I"⟩
abbrev cX8_firm : ByteArray := prog_1_method_17_code
def yX8_firm : MethodName := ⟨RX8, "firm", "(II)I"⟩
abbrev cX8_slot : ByteArray := prog_1_method_18_code
def yX8_slot : MethodName := ⟨RX8, "slot", "(III)I"⟩
abbrev cX8_wouldCost : ByteArray := prog_1_method_19_code
def yX8_wouldCost : MethodName := ⟨RX8, "wouldCost", "(IIIII)I"⟩
abbrev cX8_heaviest : ByteArray := prog_1_method_20_code
def yX8_heaviest : MethodName := ⟨RX8, "heaviest", "(II)I"⟩
abbrev cX8_wind : ByteArray := prog_1_method_21_code
def yX8_wind : MethodName := ⟨RX8, "wind", "(I)I"⟩
abbrev cX8_cheapest : ByteArray := prog_1_method_22_code
def yX8_cheapest : MethodName := ⟨RX8, "cheapest", "(II)I"⟩
abbrev cX8_count : ByteArray := prog_1_method_23_code
def yX8_count : MethodName := ⟨RX8, "count", "(I)I"⟩
abbrev cX8_recorded : ByteArray := prog_1_method_24_code
def yX8_recorded : MethodName := ⟨RX8, "recorded", "(I)I"⟩
abbrev cX8_performed : ByteArray := prog_1_method_25_code
def yX8_performed : MethodName := ⟨RX8, "performed", "(LHookHours$Plan;)I"⟩
abbrev cX8_isFirm : ByteArray := prog_1_method_26_code
def yX8_isFirm : MethodName := ⟨RX8, "isFirm", "(I)Z"⟩
abbrev cX8_isCrane : ByteArray := prog_1_method_27_code
def yX8_isCrane : MethodName := ⟨RX8, "isCrane", "(I)Z"⟩
abbrev cX8_isHour : ByteArray := prog_1_method_28_code
def yX8_isHour : MethodName := ⟨RX8, "isHour", "(I)Z"⟩
abbrev cX8_isSlot : ByteArray := prog_1_method_29_code
def yX8_isSlot : MethodName := ⟨RX8, "isSlot", "(II)Z"⟩
abbrev cX8_isLift : ByteArray := prog_1_method_30_code
def yX8_isLift : MethodName := ⟨RX8, "isLift", "(II)Z"⟩
abbrev cX8_isWind : ByteArray := prog_1_method_31_code
def yX8_isWind : MethodName := ⟨RX8, "isWind", "(I)Z"⟩
abbrev cX8_slotOf : ByteArray := prog_1_method_32_code
def yX8_slotOf : MethodName := ⟨RX8, "slotOf", "(II)I"⟩
abbrev cX8_heaviestAt : ByteArray := prog_1_method_33_code
def yX8_heaviestAt : MethodName := ⟨RX8, "heaviestAt", "(II)I"⟩
def RX9 : String := "HookHoursModel"
def TX9 : u_T := fun k => match k with
  | 0 => ("HookHoursModel", "s", "[I", true)
  | 1 => ("HookHoursModel", "states", "I", false)
  | 2 => ("HookHoursModel", "isKept", "Z", false)
  | 3 => ("HookHoursModel", "text", "[C", true)
  | 4 => ("HookHoursModel", "typed", "I", false)
  | 5 => ("HookHoursModel", "at", "I", false)
  | 6 => ("HookHoursModel", "isRight", "Z", false)
  | 7 => ("HookHoursModel", "entry", "[I", true)
  | 8 => ("HookHoursModel", "entries", "I", false)
  | 9 => ("HookHoursModel", "stoppedAt", "I", false)
  | _ => ("HookHoursModel", "stoppedBy", "I", false)
def tyX9 : Nat → FieldType := fun k => match k with
  | 0 => .array .int
  | 1 => .int
  | 2 => .boolean
  | 3 => .array .char
  | 4 => .int
  | 5 => .int
  | 6 => .boolean
  | 7 => .array .int
  | 8 => .int
  | 9 => .int
  | _ => .int
abbrev wsX90 : List Cond := u_ws RX9 TX9 11
theorem nmX9 : ∀ a, a < 11 → ∀ b, b < 11 → a ≠ b → (TX9 a).2.1 ≠ (TX9 b).2.1 := by decide +kernel
theorem tyX9_ok : ∀ k, k < 11 → parseFieldDescriptor (TX9 k).2.2.1 = some (tyX9 k) := by decide +kernel
abbrev cX9_init : ByteArray := prog_11_method_1_code
def yX9_init : MethodName := ⟨RX9, "<init>", "()V"⟩
abbrev cX9_in : ByteArray := prog_11_method_2_code
def yX9_in : MethodName := ⟨RX9, "in", "(III)Z"⟩
abbrev cX9_most : ByteArray := prog_11_method_3_code
def yX9_most : MethodName := ⟨RX9, "most", "(I)I"⟩
abbrev cX9_place : ByteArray := prog_11_method_4_code
def yX9_place : MethodName := ⟨RX9, "place", "(II)I"⟩
abbrev cX9_copies : ByteArray := prog_11_method_5_code
def yX9_copies : MethodName := ⟨RX9, "copies", "(II)V"⟩
abbrev cX9_records : ByteArray := prog_11_method_6_code
def yX9_records : MethodName := ⟨RX9, "records", "()V"⟩
abbrev cX9_empties : ByteArray := prog_11_method_7_code
def yX9_empties : MethodName := ⟨RX9, "empties", "(I)V"⟩
abbrev cX9_clears : ByteArray := prog_11_method_8_code
def yX9_clears : MethodName := ⟨RX9, "clears", "(II)V"⟩
abbrev cX9_offered : ByteArray := prog_11_method_9_code
def yX9_offered : MethodName := ⟨RX9, "offered", "(II)I"⟩
abbrev cX9_bidsOf : ByteArray := prog_11_method_10_code
def yX9_bidsOf : MethodName := ⟨RX9, "bidsOf", "(II)I"⟩
abbrev cX9_bidsFor : ByteArray := prog_11_method_11_code
def yX9_bidsFor : MethodName := ⟨RX9, "bidsFor", "(II)I"⟩
abbrev cX9_bids : ByteArray := prog_11_method_12_code
def yX9_bids : MethodName := ⟨RX9, "bids", "(I)I"⟩
abbrev cX9_bears : ByteArray := prog_11_method_13_code
def yX9_bears : MethodName := ⟨RX9, "bears", "(II)Z"⟩
abbrev cX9_borne : ByteArray := prog_11_method_14_code
def yX9_borne : MethodName := ⟨RX9, "borne", "(III)I"⟩
abbrev cX9_best : ByteArray := prog_11_method_15_code
def yX9_best : MethodName := ⟨RX9, "best", "(III)I"⟩
abbrev cX9_awards : ByteArray := prog_11_method_16_code
def yX9_awards : MethodName := ⟨RX9, "awards", "(II)I"⟩
abbrev cX9_isDone : ByteArray := prog_11_method_17_code
def yX9_isDone : MethodName := ⟨RX9, "isDone", "(II)Z"⟩
abbrev cX9_expects : ByteArray := prog_11_method_18_code
def yX9_expects : MethodName := ⟨RX9, "expects", "(III)I"⟩
abbrev cX9_wrong : ByteArray := prog_11_method_19_code
def yX9_wrong : MethodName := ⟨RX9, "wrong", "(IIIIII)I"⟩
abbrev cX9_bidsBy : ByteArray := prog_11_method_20_code
def yX9_bidsBy : MethodName := ⟨RX9, "bidsBy", "(IIIIII)I"⟩
abbrev cX9_goesOn : ByteArray := prog_11_method_21_code
def yX9_goesOn : MethodName := ⟨RX9, "goesOn", "(IIII)V"⟩
abbrev cX9_does : ByteArray := prog_11_method_22_code
def yX9_does : MethodName := ⟨RX9, "does", "(II)I"⟩
abbrev cX9_begins : ByteArray := prog_11_method_23_code
def yX9_begins : MethodName := ⟨RX9, "begins", "(I)I"⟩
abbrev cX9_settles : ByteArray := prog_11_method_24_code
def yX9_settles : MethodName := ⟨RX9, "settles", "(I)I"⟩
abbrev cX9_expect : ByteArray := prog_11_method_25_code
def yX9_expect : MethodName := ⟨RX9, "expect", "(II)I"⟩
abbrev cX9_fund : ByteArray := prog_11_method_26_code
def yX9_fund : MethodName := ⟨RX9, "fund", "(II)I"⟩
abbrev cX9_bid : ByteArray := prog_11_method_27_code
def yX9_bid : MethodName := ⟨RX9, "bid", "(IIIII)I"⟩
abbrev cX9_isSlot : ByteArray := prog_11_method_28_code
def yX9_isSlot : MethodName := ⟨RX9, "isSlot", "(II)Z"⟩
abbrev cX9_withdraw : ByteArray := prog_11_method_29_code
def yX9_withdraw : MethodName := ⟨RX9, "withdraw", "(III)I"⟩
abbrev cX9_award : ByteArray := prog_11_method_30_code
def yX9_award : MethodName := ⟨RX9, "award", "(II)I"⟩
abbrev cX9_trade : ByteArray := prog_11_method_31_code
def yX9_trade : MethodName := ⟨RX9, "trade", "(IIIII)I"⟩
abbrev cX9_done : ByteArray := prog_11_method_32_code
def yX9_done : MethodName := ⟨RX9, "done", "(I)I"⟩
abbrev cX9_nextDay : ByteArray := prog_11_method_33_code
def yX9_nextDay : MethodName := ⟨RX9, "nextDay", "()I"⟩
abbrev cX9_isNext : ByteArray := prog_11_method_34_code
def yX9_isNext : MethodName := ⟨RX9, "isNext", "(II)Z"⟩
abbrev cX9_takes : ByteArray := prog_11_method_35_code
def yX9_takes : MethodName := ⟨RX9, "takes", "(I)V"⟩
abbrev cX9_number : ByteArray := prog_11_method_36_code
def yX9_number : MethodName := ⟨RX9, "number", "(II)I"⟩
abbrev cX9_reads : ByteArray := prog_11_method_37_code
def yX9_reads : MethodName := ⟨RX9, "reads", "()V"⟩
abbrev cX9_fault : ByteArray := prog_11_method_38_code
def yX9_fault : MethodName := ⟨RX9, "fault", "()I"⟩
abbrev cX9_performs : ByteArray := prog_11_method_39_code
def yX9_performs : MethodName := ⟨RX9, "performs", "(I)I"⟩
abbrev cX9_perform : ByteArray := prog_11_method_40_code
def yX9_perform : MethodName := ⟨RX9, "perform", "()I"⟩
abbrev cX9_stopped : ByteArray := prog_11_method_41_code
def yX9_stopped : MethodName := ⟨RX9, "stopped", "(I)I"⟩
abbrev cX9_type : ByteArray := prog_11_method_42_code
def yX9_type : MethodName := ⟨RX9, "type", "(C)I"⟩
abbrev cX9_clearText : ByteArray := prog_11_method_43_code
def yX9_clearText : MethodName := ⟨RX9, "clearText", "()I"⟩
abbrev cX9_undo : ByteArray := prog_11_method_44_code
def yX9_undo : MethodName := ⟨RX9, "undo", "()I"⟩
abbrev cX9_keep : ByteArray := prog_11_method_45_code
def yX9_keep : MethodName := ⟨RX9, "keep", "()I"⟩
abbrev cX9_restore : ByteArray := prog_11_method_46_code
def yX9_restore : MethodName := ⟨RX9, "restore", "()I"⟩
abbrev cX9_awarded : ByteArray := prog_11_method_47_code
def yX9_awarded : MethodName := ⟨RX9, "awarded", "(I)I"⟩
abbrev cX9_firm : ByteArray := prog_11_method_48_code
def yX9_firm : MethodName := ⟨RX9, "firm", "(II)I"⟩
abbrev cX9_highest : ByteArray := prog_11_method_49_code
def yX9_highest : MethodName := ⟨RX9, "highest", "(I)I"⟩
abbrev cX9_slot : ByteArray := prog_11_method_50_code
def yX9_slot : MethodName := ⟨RX9, "slot", "(III)I"⟩
abbrev cX9_wouldCost : ByteArray := prog_11_method_51_code
def yX9_wouldCost : MethodName := ⟨RX9, "wouldCost", "(IIIII)I"⟩
abbrev cX9_heaviest : ByteArray := prog_11_method_52_code
def yX9_heaviest : MethodName := ⟨RX9, "heaviest", "(II)I"⟩
abbrev cX9_wind : ByteArray := prog_11_method_53_code
def yX9_wind : MethodName := ⟨RX9, "wind", "(I)I"⟩
abbrev cX9_cheapest : ByteArray := prog_11_method_54_code
def yX9_cheapest : MethodName := ⟨RX9, "cheapest", "(II)I"⟩
abbrev cX9_count : ByteArray := prog_11_method_55_code
def yX9_count : MethodName := ⟨RX9, "count", "(I)I"⟩
def RJ9 : String := "java/lang/Math"
def TJ9 : u_T := fun k => match k with
  | _ => ("", "", "", false)
def tyJ9 : Nat → FieldType := fun k => match k with
  | _ => .int
abbrev wsJ90 : List Cond := u_ws RJ9 TJ9 0
theorem nmJ9 : ∀ a, a < 0 → ∀ b, b < 0 → a ≠ b → (TJ9 a).2.1 ≠ (TJ9 b).2.1 := by decide +kernel
theorem tyJ9_ok : ∀ k, k < 0 → parseFieldDescriptor (TJ9 k).2.2.1 = some (tyJ9 k) := by decide +kernel
abbrev cJ9_max_7cf53 : ByteArray := prog_12_method_65_code
def yJ9_max_7cf53 : MethodName := ⟨RJ9, "max", "(II)I"⟩
abbrev cJ9_min_7cf53 : ByteArray := prog_12_method_69_code
def yJ9_min_7cf53 : MethodName := ⟨RJ9, "min", "(II)I"⟩
def RJ10 : String := "java/lang/System"
def TJ10 : u_T := fun k => match k with
  | _ => ("", "", "", false)
def tyJ10 : Nat → FieldType := fun k => match k with
  | _ => .int
abbrev wsJ100 : List Cond := u_ws RJ10 TJ10 0
theorem nmJ10 : ∀ a, a < 0 → ∀ b, b < 0 → a ≠ b → (TJ10 a).2.1 ≠ (TJ10 b).2.1 := by decide +kernel
theorem tyJ10_ok : ∀ k, k < 0 → parseFieldDescriptor (TJ10 k).2.2.1 = some (tyJ10 k) := by decide +kernel
def RL : String := "HookHoursLaw"
abbrev cL_law : ByteArray := code
def yL_law : MethodName := ⟨RL, "law", "([I)Z"⟩
abbrev vwCl : List vw_C := [(RX0, TX0, 2), (RX1, TX1, 4), (RX2, TX2, 2), (RX3, TX3, 11), (RX5, TX5, 4), (RX6, TX6, 8), (RX7, TX7, 7), (RX8, TX8, 8), (RX9, TX9, 11)]
end
section
/-! the good words of the tables, and each that is used, by its place -/
def G : List Cond := lw_tbl.filter goodWord
theorem G_tbl : ∀ w ∈ G, w ∈ lw_tbl := fun _ h => (List.mem_filter.mp h).1
theorem G_in {ws : List Cond} (h : ∀ w ∈ ws, w ∈ G) : GoodIn G ws := fun w hw => ⟨h w hw, good_of_word (List.mem_filter.mp (h w hw)).2⟩
theorem tm1 {w : Cond} (i : Nat) (h : tables_1_1[i]? = some w) : w ∈ lw_tbl := List.mem_append_right _ (List.mem_append_left _ (List.mem_of_getElem? h))
theorem gm1 {w : Cond} (i : Nat) (h : tables_1_1[i]? = some w) (hg : goodWord w = true) : w ∈ G := List.mem_filter.mpr ⟨tm1 i h, hg⟩
theorem tm2 {w : Cond} (i : Nat) (h : tables_1_2[i]? = some w) : w ∈ lw_tbl := List.mem_append_right _ (List.mem_append_right _ (List.mem_append_left _ (List.mem_of_getElem? h)))
theorem gm2 {w : Cond} (i : Nat) (h : tables_1_2[i]? = some w) (hg : goodWord w = true) : w ∈ G := List.mem_filter.mpr ⟨tm2 i h, hg⟩
theorem tm3 {w : Cond} (i : Nat) (h : tables_1_3[i]? = some w) : w ∈ lw_tbl := List.mem_append_right _ (List.mem_append_right _ (List.mem_append_right _ (List.mem_append_left _ (List.mem_of_getElem? h))))
theorem gm3 {w : Cond} (i : Nat) (h : tables_1_3[i]? = some w) (hg : goodWord w = true) : w ∈ G := List.mem_filter.mpr ⟨tm3 i h, hg⟩
theorem tm4 {w : Cond} (i : Nat) (h : tables_1_4[i]? = some w) : w ∈ lw_tbl := List.mem_append_right _ (List.mem_append_right _ (List.mem_append_right _ (List.mem_append_right _ (List.mem_of_getElem? h))))
theorem gm4 {w : Cond} (i : Nat) (h : tables_1_4[i]? = some w) (hg : goodWord w = true) : w ∈ G := List.mem_filter.mpr ⟨tm4 i h, hg⟩
theorem gmS {w : Cond} (i : Nat) (h : (k2_sels lw_privs)[i]? = some w) (hg : goodWord w = true) : w ∈ G := List.mem_filter.mpr ⟨List.mem_append_left _ (List.mem_of_getElem? h), hg⟩
theorem g1_0 : Cond.initialized "HookHoursLaw" ∈ G := gm1 0 (by decide +kernel) rfl
theorem g1_1 : Cond.initialized "HookHours" ∈ G := gm1 1 (by decide +kernel) rfl
theorem g1_2 : Cond.initialized "HookHours$State" ∈ G := gm1 2 (by decide +kernel) rfl
theorem g1_3 : Cond.initialized "HookHours$Bids" ∈ G := gm1 3 (by decide +kernel) rfl
theorem g1_4 : Cond.initialized "HookHours$Slots" ∈ G := gm1 4 (by decide +kernel) rfl
theorem g1_5 : Cond.initialized "HookHours$Rows" ∈ G := gm1 5 (by decide +kernel) rfl
theorem g1_6 : Cond.initialized "HookHours$Firms" ∈ G := gm1 6 (by decide +kernel) rfl
theorem g1_7 : Cond.initialized "HookHours$Totals" ∈ G := gm1 7 (by decide +kernel) rfl
theorem g1_8 : Cond.initialized "HookHours$History" ∈ G := gm1 8 (by decide +kernel) rfl
theorem g1_9 : Cond.initialized "HookHours$Plan" ∈ G := gm1 9 (by decide +kernel) rfl
theorem g1_10 : Cond.initialized "HookHoursModel" ∈ G := gm1 10 (by decide +kernel) rfl
theorem g1_11 : Cond.initialized "java/lang/Math" ∈ G := gm1 11 (by decide +kernel) rfl
theorem g1_12 : Cond.initialized "java/lang/System" ∈ G := gm1 12 (by decide +kernel) rfl
theorem g1_13 : Cond.classLink "HookHoursLaw" 7 "HookHours" ∈ G := gm1 13 (by decide +kernel) rfl
theorem g1_14 : Cond.instantiable "HookHours" 8 ∈ G := gm1 14 (by decide +kernel) rfl
theorem g1_15 : Cond.methodLink "HookHoursLaw" 9 yX8_init ∈ G := gm1 15 (by decide +kernel) rfl
theorem g1_16 : Cond.instanceMethod yX8_init ∈ G := gm1 16 (by decide +kernel) rfl
theorem g1_17 : Cond.code yX8_init cX8_init 1 none ∈ G := gm1 17 (by decide +kernel) rfl
theorem g1_18 : Cond.methodLink "HookHours" 3 Jvm.Lib.objectInit ∈ G := gm1 18 (by decide +kernel) rfl
theorem g1_19 : Cond.instanceMethod Jvm.Lib.objectInit ∈ G := gm1 19 (by decide +kernel) rfl
theorem g1_20 : Cond.code Jvm.Lib.objectInit object_method_1_code 1 none ∈ G := gm1 20 (by decide +kernel) rfl
theorem g1_21 : Cond.classLink "HookHours" 9 "HookHours$State" ∈ G := gm1 21 (by decide +kernel) rfl
theorem g1_22 : Cond.instantiable "HookHours$State" 8 ∈ G := gm1 22 (by decide +kernel) rfl
theorem g1_23 : Cond.methodLink "HookHours" 11 yX6_init ∈ G := gm1 23 (by decide +kernel) rfl
theorem g1_24 : Cond.instanceMethod yX6_init ∈ G := gm1 24 (by decide +kernel) rfl
theorem g1_25 : Cond.code yX6_init cX6_init 1 none ∈ G := gm1 25 (by decide +kernel) rfl
theorem g1_26 : Cond.methodLink "HookHours$State" 3 Jvm.Lib.objectInit ∈ G := gm1 26 (by decide +kernel) rfl
theorem g1_27 : Cond.classLink "HookHours$State" 25 "HookHours$Bids" ∈ G := gm1 27 (by decide +kernel) rfl
theorem g1_28 : Cond.instantiable "HookHours$Bids" 2 ∈ G := gm1 28 (by decide +kernel) rfl
theorem g1_30 : Cond.instanceMethod yX0_init ∈ G := gm1 30 (by decide +kernel) rfl
theorem g1_31 : Cond.code yX0_init cX0_init 1 none ∈ G := gm1 31 (by decide +kernel) rfl
theorem g1_32 : Cond.methodLink "HookHours$Bids" 3 Jvm.Lib.objectInit ∈ G := gm1 32 (by decide +kernel) rfl
theorem g1_33 : Cond.fieldLink "HookHours$Bids" 9 "HookHours$Bids" "weights" "[I" ∈ G := gm1 33 (by decide +kernel) rfl
theorem g1_34 : Cond.fieldLink "HookHours$Bids" 15 "HookHours$Bids" "offers" "[I" ∈ G := gm1 34 (by decide +kernel) rfl
theorem g1_35 : Cond.laysFinal "HookHours$Bids" "HookHours$Bids" "weights" "[I" ∈ G := gm1 35 (by decide +kernel) rfl
theorem g1_37 : Cond.laysFinal "HookHours$Bids" "HookHours$Bids" "offers" "[I" ∈ G := gm1 37 (by decide +kernel) rfl
theorem g1_40 : Cond.arrayClass .int ∈ G := gm1 40 (by decide +kernel) rfl
theorem g1_41 : Cond.classLink "HookHours$State" 32 "HookHours$Slots" ∈ G := gm1 41 (by decide +kernel) rfl
theorem g1_42 : Cond.instantiable "HookHours$Slots" 4 ∈ G := gm1 42 (by decide +kernel) rfl
theorem g1_43 : Cond.methodLink "HookHours$State" 34 yX5_init ∈ G := gm1 43 (by decide +kernel) rfl
theorem g1_44 : Cond.instanceMethod yX5_init ∈ G := gm1 44 (by decide +kernel) rfl
theorem g1_45 : Cond.code yX5_init cX5_init 1 none ∈ G := gm1 45 (by decide +kernel) rfl
theorem g1_46 : Cond.methodLink "HookHours$Slots" 3 Jvm.Lib.objectInit ∈ G := gm1 46 (by decide +kernel) rfl
theorem g1_47 : Cond.methodLink "HookHours$Slots" 24 yX4_fill ∈ G := gm1 47 (by decide +kernel) rfl
theorem g1_48 : Cond.static yX4_fill ∈ G := gm1 48 (by decide +kernel) rfl
theorem g1_49 : Cond.code yX4_fill cX4_fill 3 none ∈ G := gm1 49 (by decide +kernel) rfl
theorem g1_50 : Cond.fieldLink "HookHours$Slots" 9 "HookHours$Slots" "owners" "[I" ∈ G := gm1 50 (by decide +kernel) rfl
theorem g1_51 : Cond.fieldLink "HookHours$Slots" 15 "HookHours$Slots" "weights" "[I" ∈ G := gm1 51 (by decide +kernel) rfl
theorem g1_54 : Cond.fieldLink "HookHours$Slots" 18 "HookHours$Slots" "prices" "[I" ∈ G := gm1 54 (by decide +kernel) rfl
theorem g1_57 : Cond.fieldLink "HookHours$Slots" 21 "HookHours$Slots" "reasons" "[I" ∈ G := gm1 57 (by decide +kernel) rfl
theorem g1_60 : Cond.laysFinal "HookHours$Slots" "HookHours$Slots" "owners" "[I" ∈ G := gm1 60 (by decide +kernel) rfl
theorem g1_62 : Cond.laysFinal "HookHours$Slots" "HookHours$Slots" "weights" "[I" ∈ G := gm1 62 (by decide +kernel) rfl
theorem g1_64 : Cond.laysFinal "HookHours$Slots" "HookHours$Slots" "prices" "[I" ∈ G := gm1 64 (by decide +kernel) rfl
theorem g1_66 : Cond.laysFinal "HookHours$Slots" "HookHours$Slots" "reasons" "[I" ∈ G := gm1 66 (by decide +kernel) rfl
theorem g1_69 : Cond.classLink "HookHours$State" 39 "HookHours$Firms" ∈ G := gm1 69 (by decide +kernel) rfl
theorem g1_70 : Cond.instantiable "HookHours$Firms" 4 ∈ G := gm1 70 (by decide +kernel) rfl
theorem g1_71 : Cond.methodLink "HookHours$State" 41 yX1_init ∈ G := gm1 71 (by decide +kernel) rfl
theorem g1_72 : Cond.instanceMethod yX1_init ∈ G := gm1 72 (by decide +kernel) rfl
theorem g1_73 : Cond.code yX1_init cX1_init 1 none ∈ G := gm1 73 (by decide +kernel) rfl
theorem g1_74 : Cond.methodLink "HookHours$Firms" 3 Jvm.Lib.objectInit ∈ G := gm1 74 (by decide +kernel) rfl
theorem g1_75 : Cond.methodLink "HookHours$Firms" 24 yX4_fill ∈ G := gm1 75 (by decide +kernel) rfl
theorem g1_76 : Cond.fieldLink "HookHours$Firms" 9 "HookHours$Firms" "purses" "[I" ∈ G := gm1 76 (by decide +kernel) rfl
theorem g1_79 : Cond.fieldLink "HookHours$Firms" 15 "HookHours$Firms" "lifts" "[I" ∈ G := gm1 79 (by decide +kernel) rfl
theorem g1_82 : Cond.fieldLink "HookHours$Firms" 18 "HookHours$Firms" "paid" "[I" ∈ G := gm1 82 (by decide +kernel) rfl
theorem g1_84 : Cond.fieldLink "HookHours$Firms" 21 "HookHours$Firms" "traded" "[I" ∈ G := gm1 84 (by decide +kernel) rfl
theorem g1_86 : Cond.laysFinal "HookHours$Firms" "HookHours$Firms" "purses" "[I" ∈ G := gm1 86 (by decide +kernel) rfl
theorem g1_88 : Cond.laysFinal "HookHours$Firms" "HookHours$Firms" "lifts" "[I" ∈ G := gm1 88 (by decide +kernel) rfl
theorem g1_90 : Cond.laysFinal "HookHours$Firms" "HookHours$Firms" "paid" "[I" ∈ G := gm1 90 (by decide +kernel) rfl
theorem g1_92 : Cond.laysFinal "HookHours$Firms" "HookHours$Firms" "traded" "[I" ∈ G := gm1 92 (by decide +kernel) rfl
theorem g1_95 : Cond.classLink "HookHours$State" 46 "HookHours$Totals" ∈ G := gm1 95 (by decide +kernel) rfl
theorem g1_96 : Cond.instantiable "HookHours$Totals" 7 ∈ G := gm1 96 (by decide +kernel) rfl
theorem g1_98 : Cond.instanceMethod yX7_init ∈ G := gm1 98 (by decide +kernel) rfl
theorem g1_99 : Cond.code yX7_init cX7_init 1 none ∈ G := gm1 99 (by decide +kernel) rfl
theorem g1_100 : Cond.methodLink "HookHours$Totals" 3 Jvm.Lib.objectInit ∈ G := gm1 100 (by decide +kernel) rfl
theorem g1_101 : Cond.fieldLink "HookHours$Totals" 9 "HookHours$Totals" "without" "[I" ∈ G := gm1 101 (by decide +kernel) rfl
theorem g1_103 : Cond.fieldLink "HookHours$Totals" 15 "HookHours$Totals" "yard" "I" ∈ G := gm1 103 (by decide +kernel) rfl
theorem g1_105 : Cond.fieldLink "HookHours$Totals" 19 "HookHours$Totals" "refunds" "I" ∈ G := gm1 105 (by decide +kernel) rfl
theorem g1_107 : Cond.fieldLink "HookHours$Totals" 22 "HookHours$Totals" "funded" "I" ∈ G := gm1 107 (by decide +kernel) rfl
theorem g1_109 : Cond.fieldLink "HookHours$Totals" 25 "HookHours$Totals" "trades" "I" ∈ G := gm1 109 (by decide +kernel) rfl
theorem g1_111 : Cond.fieldLink "HookHours$Totals" 28 "HookHours$Totals" "lifts" "I" ∈ G := gm1 111 (by decide +kernel) rfl
theorem g1_113 : Cond.fieldLink "HookHours$Totals" 31 "HookHours$Totals" "weights" "I" ∈ G := gm1 113 (by decide +kernel) rfl
theorem g1_115 : Cond.laysFinal "HookHours$Totals" "HookHours$Totals" "without" "[I" ∈ G := gm1 115 (by decide +kernel) rfl
theorem g1_117 : Cond.lays "HookHours$Totals" "HookHours$Totals" "yard" "I" ∈ G := gm1 117 (by decide +kernel) rfl
theorem g1_119 : Cond.lays "HookHours$Totals" "HookHours$Totals" "refunds" "I" ∈ G := gm1 119 (by decide +kernel) rfl
theorem g1_121 : Cond.lays "HookHours$Totals" "HookHours$Totals" "funded" "I" ∈ G := gm1 121 (by decide +kernel) rfl
theorem g1_123 : Cond.lays "HookHours$Totals" "HookHours$Totals" "trades" "I" ∈ G := gm1 123 (by decide +kernel) rfl
theorem g1_125 : Cond.lays "HookHours$Totals" "HookHours$Totals" "lifts" "I" ∈ G := gm1 125 (by decide +kernel) rfl
theorem g1_127 : Cond.lays "HookHours$Totals" "HookHours$Totals" "weights" "I" ∈ G := gm1 127 (by decide +kernel) rfl
theorem g1_130 : Cond.methodLink "HookHours$State" 53 yX4_fill ∈ G := gm1 130 (by decide +kernel) rfl
theorem g1_131 : Cond.fieldLink "HookHours$State" 9 "HookHours$State" "day" "I" ∈ G := gm1 131 (by decide +kernel) rfl
theorem g1_132 : Cond.fieldLink "HookHours$State" 15 "HookHours$State" "next" "I" ∈ G := gm1 132 (by decide +kernel) rfl
theorem g1_133 : Cond.fieldLink "HookHours$State" 18 "HookHours$State" "expected" "[I" ∈ G := gm1 133 (by decide +kernel) rfl
theorem g1_135 : Cond.fieldLink "HookHours$State" 22 "HookHours$State" "blown" "[I" ∈ G := gm1 135 (by decide +kernel) rfl
theorem g1_137 : Cond.fieldLink "HookHours$State" 28 "HookHours$State" "bids" "LHookHours$Bids;" ∈ G := gm1 137 (by decide +kernel) rfl
theorem g1_139 : Cond.fieldLink "HookHours$State" 35 "HookHours$State" "slots" "LHookHours$Slots;" ∈ G := gm1 139 (by decide +kernel) rfl
theorem g1_141 : Cond.fieldLink "HookHours$State" 42 "HookHours$State" "firms" "LHookHours$Firms;" ∈ G := gm1 141 (by decide +kernel) rfl
theorem g1_143 : Cond.fieldLink "HookHours$State" 49 "HookHours$State" "totals" "LHookHours$Totals;" ∈ G := gm1 143 (by decide +kernel) rfl
theorem g1_144 : Cond.lays "HookHours$State" "HookHours$State" "day" "I" ∈ G := gm1 144 (by decide +kernel) rfl
theorem g1_146 : Cond.lays "HookHours$State" "HookHours$State" "next" "I" ∈ G := gm1 146 (by decide +kernel) rfl
theorem g1_148 : Cond.laysFinal "HookHours$State" "HookHours$State" "expected" "[I" ∈ G := gm1 148 (by decide +kernel) rfl
theorem g1_150 : Cond.laysFinal "HookHours$State" "HookHours$State" "blown" "[I" ∈ G := gm1 150 (by decide +kernel) rfl
theorem g1_152 : Cond.laysFinal "HookHours$State" "HookHours$State" "bids" "LHookHours$Bids;" ∈ G := gm1 152 (by decide +kernel) rfl
theorem g1_154 : Cond.laysFinal "HookHours$State" "HookHours$State" "slots" "LHookHours$Slots;" ∈ G := gm1 154 (by decide +kernel) rfl
theorem g1_156 : Cond.laysFinal "HookHours$State" "HookHours$State" "firms" "LHookHours$Firms;" ∈ G := gm1 156 (by decide +kernel) rfl
theorem g1_158 : Cond.laysFinal "HookHours$State" "HookHours$State" "totals" "LHookHours$Totals;" ∈ G := gm1 158 (by decide +kernel) rfl
theorem g1_161 : Cond.classLink "HookHours" 19 "HookHours$History" ∈ G := gm1 161 (by decide +kernel) rfl
theorem g1_162 : Cond.instantiable "HookHours$History" 2 ∈ G := gm1 162 (by decide +kernel) rfl
theorem g1_163 : Cond.methodLink "HookHours" 21 yX2_init ∈ G := gm1 163 (by decide +kernel) rfl
theorem g1_164 : Cond.instanceMethod yX2_init ∈ G := gm1 164 (by decide +kernel) rfl
theorem g1_165 : Cond.code yX2_init cX2_init 2 none ∈ G := gm1 165 (by decide +kernel) rfl
theorem g1_166 : Cond.methodLink "HookHours$History" 1 Jvm.Lib.objectInit ∈ G := gm1 166 (by decide +kernel) rfl
theorem g1_167 : Cond.classLink "HookHours$History" 9 "HookHours$State" ∈ G := gm1 167 (by decide +kernel) rfl
theorem g1_169 : Cond.methodLink "HookHours$History" 19 yX6_init ∈ G := gm1 169 (by decide +kernel) rfl
theorem g1_170 : Cond.fieldLink "HookHours$History" 11 "HookHours$History" "states" "[LHookHours$State;" ∈ G := gm1 170 (by decide +kernel) rfl
theorem g1_171 : Cond.fieldLink "HookHours$History" 15 "HookHours$History" "size" "I" ∈ G := gm1 171 (by decide +kernel) rfl
theorem g1_172 : Cond.laysFinal "HookHours$History" "HookHours$History" "states" "[LHookHours$State;" ∈ G := gm1 172 (by decide +kernel) rfl
theorem g1_174 : Cond.lays "HookHours$History" "HookHours$History" "size" "I" ∈ G := gm1 174 (by decide +kernel) rfl
theorem g1_177 : Cond.classLink "HookHours" 33 "HookHours$Plan" ∈ G := gm1 177 (by decide +kernel) rfl
theorem g1_178 : Cond.instantiable "HookHours$Plan" 11 ∈ G := gm1 178 (by decide +kernel) rfl
theorem g1_180 : Cond.instanceMethod yX3_init ∈ G := gm1 180 (by decide +kernel) rfl
theorem g1_181 : Cond.code yX3_init cX3_init 1 none ∈ G := gm1 181 (by decide +kernel) rfl
theorem g1_182 : Cond.methodLink "HookHours$Plan" 3 Jvm.Lib.objectInit ∈ G := gm1 182 (by decide +kernel) rfl
theorem g1_183 : Cond.fieldLink "HookHours$Plan" 11 "HookHours$Plan" "text" "[C" ∈ G := gm1 183 (by decide +kernel) rfl
theorem g1_184 : Cond.fieldLink "HookHours$Plan" 15 "HookHours$Plan" "length" "I" ∈ G := gm1 184 (by decide +kernel) rfl
theorem g1_185 : Cond.fieldLink "HookHours$Plan" 19 "HookHours$Plan" "position" "I" ∈ G := gm1 185 (by decide +kernel) rfl
theorem g1_186 : Cond.fieldLink "HookHours$Plan" 22 "HookHours$Plan" "faulty" "Z" ∈ G := gm1 186 (by decide +kernel) rfl
theorem g1_187 : Cond.fieldLink "HookHours$Plan" 26 "HookHours$Plan" "kind" "I" ∈ G := gm1 187 (by decide +kernel) rfl
theorem g1_189 : Cond.fieldLink "HookHours$Plan" 29 "HookHours$Plan" "firm" "I" ∈ G := gm1 189 (by decide +kernel) rfl
theorem g1_191 : Cond.fieldLink "HookHours$Plan" 32 "HookHours$Plan" "crane" "I" ∈ G := gm1 191 (by decide +kernel) rfl
theorem g1_193 : Cond.fieldLink "HookHours$Plan" 35 "HookHours$Plan" "hour" "I" ∈ G := gm1 193 (by decide +kernel) rfl
theorem g1_195 : Cond.fieldLink "HookHours$Plan" 38 "HookHours$Plan" "weight" "I" ∈ G := gm1 195 (by decide +kernel) rfl
theorem g1_197 : Cond.fieldLink "HookHours$Plan" 41 "HookHours$Plan" "coins" "I" ∈ G := gm1 197 (by decide +kernel) rfl
theorem g1_199 : Cond.fieldLink "HookHours$Plan" 44 "HookHours$Plan" "wind" "I" ∈ G := gm1 199 (by decide +kernel) rfl
theorem g1_201 : Cond.laysFinal "HookHours$Plan" "HookHours$Plan" "text" "[C" ∈ G := gm1 201 (by decide +kernel) rfl
theorem g1_203 : Cond.lays "HookHours$Plan" "HookHours$Plan" "length" "I" ∈ G := gm1 203 (by decide +kernel) rfl
theorem g1_205 : Cond.lays "HookHours$Plan" "HookHours$Plan" "position" "I" ∈ G := gm1 205 (by decide +kernel) rfl
theorem g1_207 : Cond.lays "HookHours$Plan" "HookHours$Plan" "faulty" "Z" ∈ G := gm1 207 (by decide +kernel) rfl
theorem g1_209 : Cond.lays "HookHours$Plan" "HookHours$Plan" "kind" "I" ∈ G := gm1 209 (by decide +kernel) rfl
theorem g1_211 : Cond.lays "HookHours$Plan" "HookHours$Plan" "firm" "I" ∈ G := gm1 211 (by decide +kernel) rfl
theorem g1_213 : Cond.lays "HookHours$Plan" "HookHours$Plan" "crane" "I" ∈ G := gm1 213 (by decide +kernel) rfl
theorem g1_215 : Cond.lays "HookHours$Plan" "HookHours$Plan" "hour" "I" ∈ G := gm1 215 (by decide +kernel) rfl
theorem g1_217 : Cond.lays "HookHours$Plan" "HookHours$Plan" "weight" "I" ∈ G := gm1 217 (by decide +kernel) rfl
theorem g1_219 : Cond.lays "HookHours$Plan" "HookHours$Plan" "coins" "I" ∈ G := gm1 219 (by decide +kernel) rfl
theorem g1_221 : Cond.lays "HookHours$Plan" "HookHours$Plan" "wind" "I" ∈ G := gm1 221 (by decide +kernel) rfl
theorem g1_224 : Cond.arrayClass .char ∈ G := gm1 224 (by decide +kernel) rfl
theorem g1_225 : Cond.fieldLink "HookHours" 12 "HookHours" "now" "LHookHours$State;" ∈ G := gm1 225 (by decide +kernel) rfl
theorem g1_226 : Cond.fieldLink "HookHours" 16 "HookHours" "before" "LHookHours$State;" ∈ G := gm1 226 (by decide +kernel) rfl
theorem g1_227 : Cond.fieldLink "HookHours" 22 "HookHours" "history" "LHookHours$History;" ∈ G := gm1 227 (by decide +kernel) rfl
theorem g1_228 : Cond.fieldLink "HookHours" 26 "HookHours" "snapshot" "LHookHours$State;" ∈ G := gm1 228 (by decide +kernel) rfl
theorem g1_229 : Cond.fieldLink "HookHours" 29 "HookHours" "kept" "Z" ∈ G := gm1 229 (by decide +kernel) rfl
theorem g1_230 : Cond.fieldLink "HookHours" 36 "HookHours" "plan" "LHookHours$Plan;" ∈ G := gm1 230 (by decide +kernel) rfl
theorem g1_231 : Cond.fieldLink "HookHours" 40 "HookHours" "stopEntry" "I" ∈ G := gm1 231 (by decide +kernel) rfl
theorem g1_232 : Cond.fieldLink "HookHours" 44 "HookHours" "stopError" "I" ∈ G := gm1 232 (by decide +kernel) rfl
theorem g1_233 : Cond.laysFinal "HookHours" "HookHours" "now" "LHookHours$State;" ∈ G := gm1 233 (by decide +kernel) rfl
theorem g1_235 : Cond.laysFinal "HookHours" "HookHours" "before" "LHookHours$State;" ∈ G := gm1 235 (by decide +kernel) rfl
theorem g1_237 : Cond.laysFinal "HookHours" "HookHours" "history" "LHookHours$History;" ∈ G := gm1 237 (by decide +kernel) rfl
theorem g1_239 : Cond.laysFinal "HookHours" "HookHours" "snapshot" "LHookHours$State;" ∈ G := gm1 239 (by decide +kernel) rfl
theorem g2_1 : Cond.lays "HookHours" "HookHours" "kept" "Z" ∈ G := gm2 1 (by decide +kernel) rfl
theorem g2_3 : Cond.laysFinal "HookHours" "HookHours" "plan" "LHookHours$Plan;" ∈ G := gm2 3 (by decide +kernel) rfl
theorem g2_5 : Cond.lays "HookHours" "HookHours" "stopEntry" "I" ∈ G := gm2 5 (by decide +kernel) rfl
theorem g2_7 : Cond.lays "HookHours" "HookHours" "stopError" "I" ∈ G := gm2 7 (by decide +kernel) rfl
theorem g2_10 : Cond.methodLink "HookHoursLaw" 13 yX8_expect ∈ G := gm2 10 (by decide +kernel) rfl
theorem g2_11 : Cond.instanceMethod yX8_expect ∈ G := gm2 11 (by decide +kernel) rfl
theorem g2_12 : Cond.selects "HookHours" yX8_expect yX8_expect ∈ G := gm2 12 (by decide +kernel) rfl
theorem g2_13 : Cond.code yX8_expect cX8_expect 3 (some .int) ∈ G := gm2 13 (by decide +kernel) rfl
theorem g2_14 : Cond.methodLink "HookHours" 47 yX6_copy ∈ G := gm2 14 (by decide +kernel) rfl
theorem g2_15 : Cond.instanceMethod yX6_copy ∈ G := gm2 15 (by decide +kernel) rfl
theorem g2_16 : Cond.selects "HookHours$State" yX6_copy yX6_copy ∈ G := gm2 16 (by decide +kernel) rfl
theorem g2_17 : Cond.code yX6_copy cX6_copy 2 none ∈ G := gm2 17 (by decide +kernel) rfl
theorem g2_18 : Cond.methodLink "HookHours$State" 59 yX4_copy ∈ G := gm2 18 (by decide +kernel) rfl
theorem g2_19 : Cond.static yX4_copy ∈ G := gm2 19 (by decide +kernel) rfl
theorem g2_20 : Cond.code yX4_copy cX4_copy 2 none ∈ G := gm2 20 (by decide +kernel) rfl
theorem g2_21 : Cond.methodLink "HookHours$Rows" 7 yJ9_min_7cf53 ∈ G := gm2 21 (by decide +kernel) rfl
theorem g2_22 : Cond.static yJ9_min_7cf53 ∈ G := gm2 22 (by decide +kernel) rfl
theorem g2_23 : Cond.code yJ9_min_7cf53 cJ9_min_7cf53 2 (some .int) ∈ G := gm2 23 (by decide +kernel) rfl
theorem g2_24 : Cond.methodLink "HookHours$Rows" 13 (⟨"java/lang/System", "arraycopy", "(Ljava/lang/Object;ILjava/lang/Object;II)V"⟩ : MethodName) ∈ G := gm2 24 (by decide +kernel) rfl
theorem g2_25 : Cond.static (⟨"java/lang/System", "arraycopy", "(Ljava/lang/Object;ILjava/lang/Object;II)V"⟩ : MethodName) ∈ G := gm2 25 (by decide +kernel) rfl
theorem g2_26 : Cond.native (⟨"java/lang/System", "arraycopy", "(Ljava/lang/Object;ILjava/lang/Object;II)V"⟩ : MethodName) ∈ G := gm2 26 (by decide +kernel) rfl
theorem g2_27 : Cond.methodLink "HookHours$State" 63 yX0_copy ∈ G := gm2 27 (by decide +kernel) rfl
theorem g2_28 : Cond.instanceMethod yX0_copy ∈ G := gm2 28 (by decide +kernel) rfl
theorem g2_29 : Cond.selects "HookHours$Bids" yX0_copy yX0_copy ∈ G := gm2 29 (by decide +kernel) rfl
theorem g2_30 : Cond.code yX0_copy cX0_copy 2 none ∈ G := gm2 30 (by decide +kernel) rfl
theorem g2_31 : Cond.methodLink "HookHours$Bids" 18 yX4_copy ∈ G := gm2 31 (by decide +kernel) rfl
theorem g2_32 : Cond.methodLink "HookHours$State" 66 yX5_copy ∈ G := gm2 32 (by decide +kernel) rfl
theorem g2_33 : Cond.instanceMethod yX5_copy ∈ G := gm2 33 (by decide +kernel) rfl
theorem g2_34 : Cond.selects "HookHours$Slots" yX5_copy yX5_copy ∈ G := gm2 34 (by decide +kernel) rfl
theorem g2_35 : Cond.code yX5_copy cX5_copy 2 none ∈ G := gm2 35 (by decide +kernel) rfl
theorem g2_36 : Cond.methodLink "HookHours$Slots" 30 yX4_copy ∈ G := gm2 36 (by decide +kernel) rfl
theorem g2_37 : Cond.methodLink "HookHours$State" 69 yX1_copy ∈ G := gm2 37 (by decide +kernel) rfl
theorem g2_38 : Cond.instanceMethod yX1_copy ∈ G := gm2 38 (by decide +kernel) rfl
theorem g2_39 : Cond.selects "HookHours$Firms" yX1_copy yX1_copy ∈ G := gm2 39 (by decide +kernel) rfl
theorem g2_40 : Cond.code yX1_copy cX1_copy 2 none ∈ G := gm2 40 (by decide +kernel) rfl
theorem g2_41 : Cond.methodLink "HookHours$Firms" 30 yX4_copy ∈ G := gm2 41 (by decide +kernel) rfl
theorem g2_42 : Cond.methodLink "HookHours$State" 72 yX7_copy ∈ G := gm2 42 (by decide +kernel) rfl
theorem g2_43 : Cond.instanceMethod yX7_copy ∈ G := gm2 43 (by decide +kernel) rfl
theorem g2_44 : Cond.selects "HookHours$Totals" yX7_copy yX7_copy ∈ G := gm2 44 (by decide +kernel) rfl
theorem g2_45 : Cond.code yX7_copy cX7_copy 2 none ∈ G := gm2 45 (by decide +kernel) rfl
theorem g2_46 : Cond.methodLink "HookHours$Totals" 34 yX4_copy ∈ G := gm2 46 (by decide +kernel) rfl
theorem g2_47 : Cond.methodLink "HookHours" 51 yX6_setWind ∈ G := gm2 47 (by decide +kernel) rfl
theorem g2_48 : Cond.instanceMethod yX6_setWind ∈ G := gm2 48 (by decide +kernel) rfl
theorem g2_49 : Cond.selects "HookHours$State" yX6_setWind yX6_setWind ∈ G := gm2 49 (by decide +kernel) rfl
theorem g2_50 : Cond.code yX6_setWind cX6_setWind 4 (some .int) ∈ G := gm2 50 (by decide +kernel) rfl
theorem g2_52 : Cond.static yX8_isHour ∈ G := gm2 52 (by decide +kernel) rfl
theorem g2_53 : Cond.code yX8_isHour cX8_isHour 1 (some .boolean) ∈ G := gm2 53 (by decide +kernel) rfl
theorem g2_55 : Cond.static yX8_isWind ∈ G := gm2 55 (by decide +kernel) rfl
theorem g2_56 : Cond.code yX8_isWind cX8_isWind 1 (some .boolean) ∈ G := gm2 56 (by decide +kernel) rfl
theorem g2_57 : Cond.methodLink "HookHours$State" 75 yX6_isOver ∈ G := gm2 57 (by decide +kernel) rfl
theorem g2_58 : Cond.instanceMethod yX6_isOver ∈ G := gm2 58 (by decide +kernel) rfl
theorem g2_59 : Cond.selects "HookHours$State" yX6_isOver yX6_isOver ∈ G := gm2 59 (by decide +kernel) rfl
theorem g2_60 : Cond.code yX6_isOver cX6_isOver 2 (some .boolean) ∈ G := gm2 60 (by decide +kernel) rfl
theorem g2_61 : Cond.methodLink "HookHours$State" 86 yX4_at ∈ G := gm2 61 (by decide +kernel) rfl
theorem g2_62 : Cond.static yX4_at ∈ G := gm2 62 (by decide +kernel) rfl
theorem g2_63 : Cond.code yX4_at cX4_at 2 (some .int) ∈ G := gm2 63 (by decide +kernel) rfl
theorem g2_64 : Cond.methodLink "HookHours$State" 106 yX4_put ∈ G := gm2 64 (by decide +kernel) rfl
theorem g2_65 : Cond.static yX4_put ∈ G := gm2 65 (by decide +kernel) rfl
theorem g2_66 : Cond.code yX4_put cX4_put 3 none ∈ G := gm2 66 (by decide +kernel) rfl
theorem g2_67 : Cond.methodLink "HookHours" 55 yX8_recorded ∈ G := gm2 67 (by decide +kernel) rfl
theorem g2_69 : Cond.instanceMethod yX8_recorded ∈ G := gm2 69 (by decide +kernel) rfl
theorem g2_70 : Cond.code yX8_recorded cX8_recorded 2 (some .int) ∈ G := gm2 70 (by decide +kernel) rfl
theorem g2_71 : Cond.methodLink "HookHours" 228 yX2_store ∈ G := gm2 71 (by decide +kernel) rfl
theorem g2_72 : Cond.instanceMethod yX2_store ∈ G := gm2 72 (by decide +kernel) rfl
theorem g2_73 : Cond.selects "HookHours$History" yX2_store yX2_store ∈ G := gm2 73 (by decide +kernel) rfl
theorem g2_74 : Cond.code yX2_store cX2_store 3 none ∈ G := gm2 74 (by decide +kernel) rfl
theorem g2_75 : Cond.methodLink "HookHours$History" 20 yX2_dropOldest ∈ G := gm2 75 (by decide +kernel) rfl
theorem g2_77 : Cond.instanceMethod yX2_dropOldest ∈ G := gm2 77 (by decide +kernel) rfl
theorem g2_78 : Cond.code yX2_dropOldest cX2_dropOldest 3 none ∈ G := gm2 78 (by decide +kernel) rfl
theorem g2_79 : Cond.methodLink "HookHours$History" 23 yX2_stateAt ∈ G := gm2 79 (by decide +kernel) rfl
theorem g2_81 : Cond.instanceMethod yX2_stateAt ∈ G := gm2 81 (by decide +kernel) rfl
theorem g2_82 : Cond.code yX2_stateAt cX2_stateAt 2 (Option.some (.object "HookHours$State")) ∈ G := gm2 82 (by decide +kernel) rfl
theorem g2_83 : Cond.methodLink "HookHours$History" 27 yX6_copy ∈ G := gm2 83 (by decide +kernel) rfl
theorem g2_84 : Cond.methodLink "HookHoursLaw" 18 yX8_fund ∈ G := gm2 84 (by decide +kernel) rfl
theorem g2_85 : Cond.instanceMethod yX8_fund ∈ G := gm2 85 (by decide +kernel) rfl
theorem g2_86 : Cond.selects "HookHours" yX8_fund yX8_fund ∈ G := gm2 86 (by decide +kernel) rfl
theorem g2_87 : Cond.code yX8_fund cX8_fund 3 (some .int) ∈ G := gm2 87 (by decide +kernel) rfl
theorem g2_88 : Cond.methodLink "HookHours" 59 yX6_addCoins ∈ G := gm2 88 (by decide +kernel) rfl
theorem g2_89 : Cond.instanceMethod yX6_addCoins ∈ G := gm2 89 (by decide +kernel) rfl
theorem g2_90 : Cond.selects "HookHours$State" yX6_addCoins yX6_addCoins ∈ G := gm2 90 (by decide +kernel) rfl
theorem g2_91 : Cond.code yX6_addCoins cX6_addCoins 3 (some .int) ∈ G := gm2 91 (by decide +kernel) rfl
theorem g2_93 : Cond.static yX8_isFirm ∈ G := gm2 93 (by decide +kernel) rfl
theorem g2_94 : Cond.code yX8_isFirm cX8_isFirm 1 (some .boolean) ∈ G := gm2 94 (by decide +kernel) rfl
theorem g2_95 : Cond.methodLink "HookHours$State" 113 yX4_add ∈ G := gm2 95 (by decide +kernel) rfl
theorem g2_96 : Cond.static yX4_add ∈ G := gm2 96 (by decide +kernel) rfl
theorem g2_97 : Cond.code yX4_add cX4_add 3 none ∈ G := gm2 97 (by decide +kernel) rfl
theorem g2_98 : Cond.methodLink "HookHoursLaw" 22 yX8_bid ∈ G := gm2 98 (by decide +kernel) rfl
theorem g2_99 : Cond.instanceMethod yX8_bid ∈ G := gm2 99 (by decide +kernel) rfl
theorem g2_100 : Cond.selects "HookHours" yX8_bid yX8_bid ∈ G := gm2 100 (by decide +kernel) rfl
theorem g2_101 : Cond.code yX8_bid cX8_bid 6 (some .int) ∈ G := gm2 101 (by decide +kernel) rfl
theorem g2_102 : Cond.methodLink "HookHours" 62 yX6_placeBid ∈ G := gm2 102 (by decide +kernel) rfl
theorem g2_103 : Cond.instanceMethod yX6_placeBid ∈ G := gm2 103 (by decide +kernel) rfl
theorem g2_104 : Cond.selects "HookHours$State" yX6_placeBid yX6_placeBid ∈ G := gm2 104 (by decide +kernel) rfl
theorem g2_105 : Cond.code yX6_placeBid cX6_placeBid 7 (some .int) ∈ G := gm2 105 (by decide +kernel) rfl
theorem g2_106 : Cond.methodLink "HookHours$State" 139 yX6_bidError ∈ G := gm2 106 (by decide +kernel) rfl
theorem g2_107 : Cond.instanceMethod yX6_bidError ∈ G := gm2 107 (by decide +kernel) rfl
theorem g2_108 : Cond.selects "HookHours$State" yX6_bidError yX6_bidError ∈ G := gm2 108 (by decide +kernel) rfl
theorem g2_109 : Cond.code yX6_bidError cX6_bidError 6 (some .int) ∈ G := gm2 109 (by decide +kernel) rfl
theorem g2_111 : Cond.static yX8_isSlot ∈ G := gm2 111 (by decide +kernel) rfl
theorem g2_112 : Cond.code yX8_isSlot cX8_isSlot 2 (some .boolean) ∈ G := gm2 112 (by decide +kernel) rfl
theorem g2_113 : Cond.methodLink "HookHours" 209 yX8_isCrane ∈ G := gm2 113 (by decide +kernel) rfl
theorem g2_114 : Cond.static yX8_isCrane ∈ G := gm2 114 (by decide +kernel) rfl
theorem g2_115 : Cond.code yX8_isCrane cX8_isCrane 1 (some .boolean) ∈ G := gm2 115 (by decide +kernel) rfl
theorem g2_116 : Cond.methodLink "HookHours" 200 yX8_isHour ∈ G := gm2 116 (by decide +kernel) rfl
theorem g2_118 : Cond.static yX8_isLift ∈ G := gm2 118 (by decide +kernel) rfl
theorem g2_119 : Cond.code yX8_isLift cX8_isLift 2 (some .boolean) ∈ G := gm2 119 (by decide +kernel) rfl
theorem g2_120 : Cond.fieldLink "HookHours" 252 "HookHours" "LIFTS" "[I" ∈ G := gm2 120 (by decide +kernel) rfl
theorem g2_122 : Cond.methodLink "HookHours" 133 yX4_at ∈ G := gm2 122 (by decide +kernel) rfl
theorem g2_123 : Cond.methodLink "HookHours$State" 126 yX6_isOpen ∈ G := gm2 123 (by decide +kernel) rfl
theorem g2_124 : Cond.instanceMethod yX6_isOpen ∈ G := gm2 124 (by decide +kernel) rfl
theorem g2_125 : Cond.selects "HookHours$State" yX6_isOpen yX6_isOpen ∈ G := gm2 125 (by decide +kernel) rfl
theorem g2_126 : Cond.code yX6_isOpen cX6_isOpen 3 (some .boolean) ∈ G := gm2 126 (by decide +kernel) rfl
theorem g2_128 : Cond.static yX8_slotOf ∈ G := gm2 128 (by decide +kernel) rfl
theorem g2_129 : Cond.code yX8_slotOf cX8_slotOf 2 (some .int) ∈ G := gm2 129 (by decide +kernel) rfl
theorem g2_130 : Cond.methodLink "HookHours$State" 83 yX5_isAwarded ∈ G := gm2 130 (by decide +kernel) rfl
theorem g2_131 : Cond.instanceMethod yX5_isAwarded ∈ G := gm2 131 (by decide +kernel) rfl
theorem g2_132 : Cond.selects "HookHours$Slots" yX5_isAwarded yX5_isAwarded ∈ G := gm2 132 (by decide +kernel) rfl
theorem g2_133 : Cond.code yX5_isAwarded cX5_isAwarded 2 (some .boolean) ∈ G := gm2 133 (by decide +kernel) rfl
theorem g2_134 : Cond.methodLink "HookHours$Slots" 34 yX4_at ∈ G := gm2 134 (by decide +kernel) rfl
theorem g2_135 : Cond.methodLink "HookHours$State" 129 yX0_offer ∈ G := gm2 135 (by decide +kernel) rfl
theorem g2_136 : Cond.instanceMethod yX0_offer ∈ G := gm2 136 (by decide +kernel) rfl
theorem g2_137 : Cond.selects "HookHours$Bids" yX0_offer yX0_offer ∈ G := gm2 137 (by decide +kernel) rfl
theorem g2_138 : Cond.code yX0_offer cX0_offer 3 (some .int) ∈ G := gm2 138 (by decide +kernel) rfl
theorem g2_139 : Cond.methodLink "HookHours$Bids" 24 yX0_cellOf ∈ G := gm2 139 (by decide +kernel) rfl
theorem g2_140 : Cond.static yX0_cellOf ∈ G := gm2 140 (by decide +kernel) rfl
theorem g2_141 : Cond.code yX0_cellOf cX0_cellOf 2 (some .int) ∈ G := gm2 141 (by decide +kernel) rfl
theorem g2_142 : Cond.methodLink "HookHours$Bids" 28 yX4_at ∈ G := gm2 142 (by decide +kernel) rfl
theorem g2_143 : Cond.methodLink "HookHours$State" 132 yX6_freeCoins ∈ G := gm2 143 (by decide +kernel) rfl
theorem g2_144 : Cond.instanceMethod yX6_freeCoins ∈ G := gm2 144 (by decide +kernel) rfl
theorem g2_145 : Cond.selects "HookHours$State" yX6_freeCoins yX6_freeCoins ∈ G := gm2 145 (by decide +kernel) rfl
theorem g2_146 : Cond.code yX6_freeCoins cX6_freeCoins 2 (some .int) ∈ G := gm2 146 (by decide +kernel) rfl
theorem g2_147 : Cond.methodLink "HookHours$State" 96 yX0_offeredBy ∈ G := gm2 147 (by decide +kernel) rfl
theorem g2_148 : Cond.instanceMethod yX0_offeredBy ∈ G := gm2 148 (by decide +kernel) rfl
theorem g2_149 : Cond.selects "HookHours$Bids" yX0_offeredBy yX0_offeredBy ∈ G := gm2 149 (by decide +kernel) rfl
theorem g2_150 : Cond.code yX0_offeredBy cX0_offeredBy 4 (some .int) ∈ G := gm2 150 (by decide +kernel) rfl
theorem g2_151 : Cond.methodLink "HookHours$State" 135 yX0_countAll ∈ G := gm2 151 (by decide +kernel) rfl
theorem g2_152 : Cond.instanceMethod yX0_countAll ∈ G := gm2 152 (by decide +kernel) rfl
theorem g2_153 : Cond.selects "HookHours$Bids" yX0_countAll yX0_countAll ∈ G := gm2 153 (by decide +kernel) rfl
theorem g2_154 : Cond.code yX0_countAll cX0_countAll 3 (some .int) ∈ G := gm2 154 (by decide +kernel) rfl
theorem g2_155 : Cond.methodLink "HookHours$Bids" 40 yX0_countOf ∈ G := gm2 155 (by decide +kernel) rfl
theorem g2_156 : Cond.instanceMethod yX0_countOf ∈ G := gm2 156 (by decide +kernel) rfl
theorem g2_157 : Cond.selects "HookHours$Bids" yX0_countOf yX0_countOf ∈ G := gm2 157 (by decide +kernel) rfl
theorem g2_158 : Cond.code yX0_countOf cX0_countOf 4 (some .int) ∈ G := gm2 158 (by decide +kernel) rfl
theorem g2_159 : Cond.methodLink "HookHours$State" 143 yX0_set ∈ G := gm2 159 (by decide +kernel) rfl
theorem g2_160 : Cond.instanceMethod yX0_set ∈ G := gm2 160 (by decide +kernel) rfl
theorem g2_161 : Cond.selects "HookHours$Bids" yX0_set yX0_set ∈ G := gm2 161 (by decide +kernel) rfl
theorem g2_162 : Cond.code yX0_set cX0_set 5 none ∈ G := gm2 162 (by decide +kernel) rfl
theorem g2_163 : Cond.methodLink "HookHours$Bids" 32 yX4_put ∈ G := gm2 163 (by decide +kernel) rfl
theorem g2_164 : Cond.methodLink "HookHours$State" 147 yX0_countFor ∈ G := gm2 164 (by decide +kernel) rfl
theorem g2_165 : Cond.instanceMethod yX0_countFor ∈ G := gm2 165 (by decide +kernel) rfl
theorem g2_166 : Cond.selects "HookHours$Bids" yX0_countFor yX0_countFor ∈ G := gm2 166 (by decide +kernel) rfl
theorem g2_167 : Cond.code yX0_countFor cX0_countFor 4 (some .int) ∈ G := gm2 167 (by decide +kernel) rfl
theorem g2_168 : Cond.methodLink "HookHoursLaw" 27 yX8_withdraw ∈ G := gm2 168 (by decide +kernel) rfl
theorem g2_169 : Cond.instanceMethod yX8_withdraw ∈ G := gm2 169 (by decide +kernel) rfl
theorem g2_170 : Cond.selects "HookHours" yX8_withdraw yX8_withdraw ∈ G := gm2 170 (by decide +kernel) rfl
theorem g2_171 : Cond.code yX8_withdraw cX8_withdraw 4 (some .int) ∈ G := gm2 171 (by decide +kernel) rfl
theorem g2_172 : Cond.methodLink "HookHours" 66 yX6_removeBid ∈ G := gm2 172 (by decide +kernel) rfl
theorem g2_173 : Cond.instanceMethod yX6_removeBid ∈ G := gm2 173 (by decide +kernel) rfl
theorem g2_174 : Cond.selects "HookHours$State" yX6_removeBid yX6_removeBid ∈ G := gm2 174 (by decide +kernel) rfl
theorem g2_175 : Cond.code yX6_removeBid cX6_removeBid 5 (some .int) ∈ G := gm2 175 (by decide +kernel) rfl
theorem g2_176 : Cond.methodLink "HookHours$State" 160 yX0_remove ∈ G := gm2 176 (by decide +kernel) rfl
theorem g2_177 : Cond.instanceMethod yX0_remove ∈ G := gm2 177 (by decide +kernel) rfl
theorem g2_178 : Cond.selects "HookHours$Bids" yX0_remove yX0_remove ∈ G := gm2 178 (by decide +kernel) rfl
theorem g2_179 : Cond.code yX0_remove cX0_remove 3 none ∈ G := gm2 179 (by decide +kernel) rfl
theorem g2_180 : Cond.methodLink "HookHours$Bids" 36 yX0_set ∈ G := gm2 180 (by decide +kernel) rfl
theorem g2_181 : Cond.methodLink "HookHoursLaw" 32 yX8_award ∈ G := gm2 181 (by decide +kernel) rfl
theorem g2_182 : Cond.instanceMethod yX8_award ∈ G := gm2 182 (by decide +kernel) rfl
theorem g2_183 : Cond.selects "HookHours" yX8_award yX8_award ∈ G := gm2 183 (by decide +kernel) rfl
theorem g2_184 : Cond.code yX8_award cX8_award 3 (some .int) ∈ G := gm2 184 (by decide +kernel) rfl
theorem g2_185 : Cond.methodLink "HookHours" 70 yX6_awardEarly ∈ G := gm2 185 (by decide +kernel) rfl
theorem g2_186 : Cond.instanceMethod yX6_awardEarly ∈ G := gm2 186 (by decide +kernel) rfl
theorem g2_187 : Cond.selects "HookHours$State" yX6_awardEarly yX6_awardEarly ∈ G := gm2 187 (by decide +kernel) rfl
theorem g2_188 : Cond.code yX6_awardEarly cX6_awardEarly 3 (some .int) ∈ G := gm2 188 (by decide +kernel) rfl
theorem g2_189 : Cond.methodLink "HookHours$State" 164 yX6_awardOpen ∈ G := gm2 189 (by decide +kernel) rfl
theorem g2_190 : Cond.instanceMethod yX6_awardOpen ∈ G := gm2 190 (by decide +kernel) rfl
theorem g2_191 : Cond.selects "HookHours$State" yX6_awardOpen yX6_awardOpen ∈ G := gm2 191 (by decide +kernel) rfl
theorem g2_192 : Cond.code yX6_awardOpen cX6_awardOpen 7 (some .int) ∈ G := gm2 192 (by decide +kernel) rfl
theorem g2_193 : Cond.methodLink "HookHours$State" 150 yX6_heaviestLift ∈ G := gm2 193 (by decide +kernel) rfl
theorem g2_194 : Cond.instanceMethod yX6_heaviestLift ∈ G := gm2 194 (by decide +kernel) rfl
theorem g2_195 : Cond.selects "HookHours$State" yX6_heaviestLift yX6_heaviestLift ∈ G := gm2 195 (by decide +kernel) rfl
theorem g2_196 : Cond.code yX6_heaviestLift cX6_heaviestLift 3 (some .int) ∈ G := gm2 196 (by decide +kernel) rfl
theorem g2_198 : Cond.static yX8_heaviestAt ∈ G := gm2 198 (by decide +kernel) rfl
theorem g2_199 : Cond.code yX8_heaviestAt cX8_heaviestAt 2 (some .int) ∈ G := gm2 199 (by decide +kernel) rfl
theorem g2_200 : Cond.methodLink "HookHours" 255 yJ9_min_7cf53 ∈ G := gm2 200 (by decide +kernel) rfl
theorem g2_201 : Cond.methodLink "HookHours" 260 yJ9_max_7cf53 ∈ G := gm2 201 (by decide +kernel) rfl
theorem g2_202 : Cond.static yJ9_max_7cf53 ∈ G := gm2 202 (by decide +kernel) rfl
theorem g2_203 : Cond.code yJ9_max_7cf53 cJ9_max_7cf53 2 (some .int) ∈ G := gm2 203 (by decide +kernel) rfl
theorem g2_204 : Cond.methodLink "HookHours$State" 157 yX0_winner ∈ G := gm2 204 (by decide +kernel) rfl
theorem g2_205 : Cond.instanceMethod yX0_winner ∈ G := gm2 205 (by decide +kernel) rfl
theorem g2_206 : Cond.selects "HookHours$Bids" yX0_winner yX0_winner ∈ G := gm2 206 (by decide +kernel) rfl
theorem g2_207 : Cond.code yX0_winner cX0_winner 7 (some .int) ∈ G := gm2 207 (by decide +kernel) rfl
theorem g2_208 : Cond.methodLink "HookHours$State" 153 yX0_highest ∈ G := gm2 208 (by decide +kernel) rfl
theorem g2_209 : Cond.instanceMethod yX0_highest ∈ G := gm2 209 (by decide +kernel) rfl
theorem g2_210 : Cond.selects "HookHours$Bids" yX0_highest yX0_highest ∈ G := gm2 210 (by decide +kernel) rfl
theorem g2_211 : Cond.code yX0_highest cX0_highest 8 (some .int) ∈ G := gm2 211 (by decide +kernel) rfl
theorem g2_212 : Cond.methodLink "HookHours$State" 167 yX0_weight ∈ G := gm2 212 (by decide +kernel) rfl
theorem g2_213 : Cond.instanceMethod yX0_weight ∈ G := gm2 213 (by decide +kernel) rfl
theorem g2_214 : Cond.selects "HookHours$Bids" yX0_weight yX0_weight ∈ G := gm2 214 (by decide +kernel) rfl
theorem g2_215 : Cond.code yX0_weight cX0_weight 3 (some .int) ∈ G := gm2 215 (by decide +kernel) rfl
theorem g2_216 : Cond.methodLink "HookHours$State" 170 yX5_give ∈ G := gm2 216 (by decide +kernel) rfl
theorem g2_217 : Cond.instanceMethod yX5_give ∈ G := gm2 217 (by decide +kernel) rfl
theorem g2_218 : Cond.selects "HookHours$Slots" yX5_give yX5_give ∈ G := gm2 218 (by decide +kernel) rfl
theorem g2_219 : Cond.code yX5_give cX5_give 4 none ∈ G := gm2 219 (by decide +kernel) rfl
theorem g2_220 : Cond.methodLink "HookHours$Slots" 38 yX4_put ∈ G := gm2 220 (by decide +kernel) rfl
theorem g2_221 : Cond.methodLink "HookHours$State" 177 yX1_payYard ∈ G := gm2 221 (by decide +kernel) rfl
theorem g2_222 : Cond.instanceMethod yX1_payYard ∈ G := gm2 222 (by decide +kernel) rfl
theorem g2_223 : Cond.selects "HookHours$Firms" yX1_payYard yX1_payYard ∈ G := gm2 223 (by decide +kernel) rfl
theorem g2_224 : Cond.code yX1_payYard cX1_payYard 3 none ∈ G := gm2 224 (by decide +kernel) rfl
theorem g2_225 : Cond.methodLink "HookHours$Firms" 34 yX4_add ∈ G := gm2 225 (by decide +kernel) rfl
theorem g2_226 : Cond.methodLink "HookHours$State" 183 yX0_removeAll ∈ G := gm2 226 (by decide +kernel) rfl
theorem g2_227 : Cond.instanceMethod yX0_removeAll ∈ G := gm2 227 (by decide +kernel) rfl
theorem g2_228 : Cond.selects "HookHours$Bids" yX0_removeAll yX0_removeAll ∈ G := gm2 228 (by decide +kernel) rfl
theorem g2_229 : Cond.code yX0_removeAll cX0_removeAll 3 none ∈ G := gm2 229 (by decide +kernel) rfl
theorem g2_230 : Cond.methodLink "HookHoursLaw" 36 yX8_trade ∈ G := gm2 230 (by decide +kernel) rfl
theorem g2_231 : Cond.instanceMethod yX8_trade ∈ G := gm2 231 (by decide +kernel) rfl
theorem g2_232 : Cond.selects "HookHours" yX8_trade yX8_trade ∈ G := gm2 232 (by decide +kernel) rfl
theorem g2_233 : Cond.code yX8_trade cX8_trade 6 (some .int) ∈ G := gm2 233 (by decide +kernel) rfl
theorem g2_234 : Cond.methodLink "HookHours" 73 yX6_sell ∈ G := gm2 234 (by decide +kernel) rfl
theorem g2_235 : Cond.instanceMethod yX6_sell ∈ G := gm2 235 (by decide +kernel) rfl
theorem g2_236 : Cond.selects "HookHours$State" yX6_sell yX6_sell ∈ G := gm2 236 (by decide +kernel) rfl
theorem g2_237 : Cond.code yX6_sell cX6_sell 7 (some .int) ∈ G := gm2 237 (by decide +kernel) rfl
theorem g2_238 : Cond.methodLink "HookHours$State" 187 yX5_ownerOf ∈ G := gm2 238 (by decide +kernel) rfl
theorem g2_239 : Cond.instanceMethod yX5_ownerOf ∈ G := gm2 239 (by decide +kernel) rfl
theorem g3_0 : Cond.selects "HookHours$Slots" yX5_ownerOf yX5_ownerOf ∈ G := gm3 0 (by decide +kernel) rfl
theorem g3_1 : Cond.code yX5_ownerOf cX5_ownerOf 2 (some .int) ∈ G := gm3 1 (by decide +kernel) rfl
theorem g3_2 : Cond.methodLink "HookHours$State" 190 yX1_getByTrade ∈ G := gm3 2 (by decide +kernel) rfl
theorem g3_3 : Cond.instanceMethod yX1_getByTrade ∈ G := gm3 3 (by decide +kernel) rfl
theorem g3_4 : Cond.selects "HookHours$Firms" yX1_getByTrade yX1_getByTrade ∈ G := gm3 4 (by decide +kernel) rfl
theorem g3_5 : Cond.code yX1_getByTrade cX1_getByTrade 3 none ∈ G := gm3 5 (by decide +kernel) rfl
theorem g3_6 : Cond.methodLink "HookHoursLaw" 40 yX8_done ∈ G := gm3 6 (by decide +kernel) rfl
theorem g3_7 : Cond.instanceMethod yX8_done ∈ G := gm3 7 (by decide +kernel) rfl
theorem g3_8 : Cond.selects "HookHours" yX8_done yX8_done ∈ G := gm3 8 (by decide +kernel) rfl
theorem g3_9 : Cond.code yX8_done cX8_done 2 (some .int) ∈ G := gm3 9 (by decide +kernel) rfl
theorem g3_10 : Cond.methodLink "HookHours" 76 yX6_endHour ∈ G := gm3 10 (by decide +kernel) rfl
theorem g3_11 : Cond.instanceMethod yX6_endHour ∈ G := gm3 11 (by decide +kernel) rfl
theorem g3_12 : Cond.selects "HookHours$State" yX6_endHour yX6_endHour ∈ G := gm3 12 (by decide +kernel) rfl
theorem g3_13 : Cond.code yX6_endHour cX6_endHour 4 (some .int) ∈ G := gm3 13 (by decide +kernel) rfl
theorem g3_14 : Cond.methodLink "HookHours$State" 196 yX6_endSlot ∈ G := gm3 14 (by decide +kernel) rfl
theorem g3_15 : Cond.instanceMethod yX6_endSlot ∈ G := gm3 15 (by decide +kernel) rfl
theorem g3_16 : Cond.selects "HookHours$State" yX6_endSlot yX6_endSlot ∈ G := gm3 16 (by decide +kernel) rfl
theorem g3_17 : Cond.code yX6_endSlot cX6_endSlot 5 (some .boolean) ∈ G := gm3 17 (by decide +kernel) rfl
theorem g3_18 : Cond.methodLink "HookHours$State" 199 yX6_reasonAgainst ∈ G := gm3 18 (by decide +kernel) rfl
theorem g3_19 : Cond.instanceMethod yX6_reasonAgainst ∈ G := gm3 19 (by decide +kernel) rfl
theorem g3_20 : Cond.selects "HookHours$State" yX6_reasonAgainst yX6_reasonAgainst ∈ G := gm3 20 (by decide +kernel) rfl
theorem g3_21 : Cond.code yX6_reasonAgainst cX6_reasonAgainst 4 (some .int) ∈ G := gm3 21 (by decide +kernel) rfl
theorem g3_22 : Cond.methodLink "HookHours$State" 215 yX6_refund ∈ G := gm3 22 (by decide +kernel) rfl
theorem g3_23 : Cond.instanceMethod yX6_refund ∈ G := gm3 23 (by decide +kernel) rfl
theorem g3_24 : Cond.selects "HookHours$State" yX6_refund yX6_refund ∈ G := gm3 24 (by decide +kernel) rfl
theorem g3_25 : Cond.code yX6_refund cX6_refund 3 none ∈ G := gm3 25 (by decide +kernel) rfl
theorem g3_26 : Cond.methodLink "HookHoursLaw" 45 yX8_nextDay ∈ G := gm3 26 (by decide +kernel) rfl
theorem g3_27 : Cond.instanceMethod yX8_nextDay ∈ G := gm3 27 (by decide +kernel) rfl
theorem g3_28 : Cond.selects "HookHours" yX8_nextDay yX8_nextDay ∈ G := gm3 28 (by decide +kernel) rfl
theorem g3_29 : Cond.code yX8_nextDay cX8_nextDay 1 (some .int) ∈ G := gm3 29 (by decide +kernel) rfl
theorem g3_30 : Cond.methodLink "HookHours" 79 yX6_beginDay ∈ G := gm3 30 (by decide +kernel) rfl
theorem g3_31 : Cond.instanceMethod yX6_beginDay ∈ G := gm3 31 (by decide +kernel) rfl
theorem g3_32 : Cond.selects "HookHours$State" yX6_beginDay yX6_beginDay ∈ G := gm3 32 (by decide +kernel) rfl
theorem g3_33 : Cond.code yX6_beginDay cX6_beginDay 1 (some .int) ∈ G := gm3 33 (by decide +kernel) rfl
theorem g3_34 : Cond.methodLink "HookHours$State" 224 yX5_clear ∈ G := gm3 34 (by decide +kernel) rfl
theorem g3_35 : Cond.instanceMethod yX5_clear ∈ G := gm3 35 (by decide +kernel) rfl
theorem g3_36 : Cond.selects "HookHours$Slots" yX5_clear yX5_clear ∈ G := gm3 36 (by decide +kernel) rfl
theorem g3_37 : Cond.code yX5_clear cX5_clear 1 none ∈ G := gm3 37 (by decide +kernel) rfl
theorem g3_38 : Cond.methodLink "HookHoursLaw" 50 yX8_type ∈ G := gm3 38 (by decide +kernel) rfl
theorem g3_39 : Cond.instanceMethod yX8_type ∈ G := gm3 39 (by decide +kernel) rfl
theorem g3_40 : Cond.selects "HookHours" yX8_type yX8_type ∈ G := gm3 40 (by decide +kernel) rfl
theorem g3_41 : Cond.code yX8_type cX8_type 2 (some .int) ∈ G := gm3 41 (by decide +kernel) rfl
theorem g3_42 : Cond.methodLink "HookHours" 83 yX3_append ∈ G := gm3 42 (by decide +kernel) rfl
theorem g3_43 : Cond.instanceMethod yX3_append ∈ G := gm3 43 (by decide +kernel) rfl
theorem g3_44 : Cond.selects "HookHours$Plan" yX3_append yX3_append ∈ G := gm3 44 (by decide +kernel) rfl
theorem g3_45 : Cond.code yX3_append cX3_append 2 (some .int) ∈ G := gm3 45 (by decide +kernel) rfl
theorem g3_46 : Cond.methodLink "HookHoursLaw" 55 yX8_clearText ∈ G := gm3 46 (by decide +kernel) rfl
theorem g3_47 : Cond.instanceMethod yX8_clearText ∈ G := gm3 47 (by decide +kernel) rfl
theorem g3_48 : Cond.selects "HookHours" yX8_clearText yX8_clearText ∈ G := gm3 48 (by decide +kernel) rfl
theorem g3_49 : Cond.code yX8_clearText cX8_clearText 1 (some .int) ∈ G := gm3 49 (by decide +kernel) rfl
theorem g3_50 : Cond.methodLink "HookHours" 87 yX3_empty ∈ G := gm3 50 (by decide +kernel) rfl
theorem g3_51 : Cond.instanceMethod yX3_empty ∈ G := gm3 51 (by decide +kernel) rfl
theorem g3_52 : Cond.selects "HookHours$Plan" yX3_empty yX3_empty ∈ G := gm3 52 (by decide +kernel) rfl
theorem g3_53 : Cond.code yX3_empty cX3_empty 2 (some .int) ∈ G := gm3 53 (by decide +kernel) rfl
theorem g3_54 : Cond.methodLink "HookHoursLaw" 59 yX8_perform ∈ G := gm3 54 (by decide +kernel) rfl
theorem g3_55 : Cond.instanceMethod yX8_perform ∈ G := gm3 55 (by decide +kernel) rfl
theorem g3_56 : Cond.selects "HookHours" yX8_perform yX8_perform ∈ G := gm3 56 (by decide +kernel) rfl
theorem g3_57 : Cond.code yX8_perform cX8_perform 4 (some .int) ∈ G := gm3 57 (by decide +kernel) rfl
theorem g3_58 : Cond.methodLink "HookHours" 90 yX3_check ∈ G := gm3 58 (by decide +kernel) rfl
theorem g3_59 : Cond.instanceMethod yX3_check ∈ G := gm3 59 (by decide +kernel) rfl
theorem g3_60 : Cond.selects "HookHours$Plan" yX3_check yX3_check ∈ G := gm3 60 (by decide +kernel) rfl
theorem g3_61 : Cond.code yX3_check cX3_check 3 (some .int) ∈ G := gm3 61 (by decide +kernel) rfl
theorem g3_62 : Cond.methodLink "HookHours$Plan" 47 yX3_rewind ∈ G := gm3 62 (by decide +kernel) rfl
theorem g3_63 : Cond.instanceMethod yX3_rewind ∈ G := gm3 63 (by decide +kernel) rfl
theorem g3_64 : Cond.selects "HookHours$Plan" yX3_rewind yX3_rewind ∈ G := gm3 64 (by decide +kernel) rfl
theorem g3_65 : Cond.code yX3_rewind cX3_rewind 1 none ∈ G := gm3 65 (by decide +kernel) rfl
theorem g3_66 : Cond.methodLink "HookHours$Plan" 50 yX3_readNext ∈ G := gm3 66 (by decide +kernel) rfl
theorem g3_67 : Cond.instanceMethod yX3_readNext ∈ G := gm3 67 (by decide +kernel) rfl
theorem g3_68 : Cond.selects "HookHours$Plan" yX3_readNext yX3_readNext ∈ G := gm3 68 (by decide +kernel) rfl
theorem g3_69 : Cond.code yX3_readNext cX3_readNext 1 none ∈ G := gm3 69 (by decide +kernel) rfl
theorem g3_70 : Cond.methodLink "HookHours$Plan" 53 yX3_take ∈ G := gm3 70 (by decide +kernel) rfl
theorem g3_72 : Cond.instanceMethod yX3_take ∈ G := gm3 72 (by decide +kernel) rfl
theorem g3_73 : Cond.code yX3_take cX3_take 2 none ∈ G := gm3 73 (by decide +kernel) rfl
theorem g3_74 : Cond.methodLink "HookHours$Plan" 57 yX3_sign ∈ G := gm3 74 (by decide +kernel) rfl
theorem g3_76 : Cond.instanceMethod yX3_sign ∈ G := gm3 76 (by decide +kernel) rfl
theorem g3_77 : Cond.code yX3_sign cX3_sign 2 (some .int) ∈ G := gm3 77 (by decide +kernel) rfl
theorem g3_78 : Cond.methodLink "HookHours$Plan" 61 yX3_readBid ∈ G := gm3 78 (by decide +kernel) rfl
theorem g3_80 : Cond.instanceMethod yX3_readBid ∈ G := gm3 80 (by decide +kernel) rfl
theorem g3_81 : Cond.code yX3_readBid cX3_readBid 1 none ∈ G := gm3 81 (by decide +kernel) rfl
theorem g3_82 : Cond.methodLink "HookHours$Plan" 64 yX3_number ∈ G := gm3 82 (by decide +kernel) rfl
theorem g3_84 : Cond.instanceMethod yX3_number ∈ G := gm3 84 (by decide +kernel) rfl
theorem g3_85 : Cond.code yX3_number cX3_number 8 (some .int) ∈ G := gm3 85 (by decide +kernel) rfl
theorem g3_86 : Cond.methodLink "HookHours" 93 yX3_rewind ∈ G := gm3 86 (by decide +kernel) rfl
theorem g3_87 : Cond.methodLink "HookHours" 96 yX3_readNext ∈ G := gm3 87 (by decide +kernel) rfl
theorem g3_88 : Cond.methodLink "HookHours" 99 yX8_performed ∈ G := gm3 88 (by decide +kernel) rfl
theorem g3_90 : Cond.instanceMethod yX8_performed ∈ G := gm3 90 (by decide +kernel) rfl
theorem g3_91 : Cond.code yX8_performed cX8_performed 2 (some .int) ∈ G := gm3 91 (by decide +kernel) rfl
theorem g3_92 : Cond.methodLink "HookHoursLaw" 63 yX8_stopped ∈ G := gm3 92 (by decide +kernel) rfl
theorem g3_93 : Cond.instanceMethod yX8_stopped ∈ G := gm3 93 (by decide +kernel) rfl
theorem g3_94 : Cond.selects "HookHours" yX8_stopped yX8_stopped ∈ G := gm3 94 (by decide +kernel) rfl
theorem g3_95 : Cond.code yX8_stopped cX8_stopped 2 (some .int) ∈ G := gm3 95 (by decide +kernel) rfl
theorem g3_96 : Cond.methodLink "HookHoursLaw" 67 yX8_undo ∈ G := gm3 96 (by decide +kernel) rfl
theorem g3_97 : Cond.instanceMethod yX8_undo ∈ G := gm3 97 (by decide +kernel) rfl
theorem g3_98 : Cond.selects "HookHours" yX8_undo yX8_undo ∈ G := gm3 98 (by decide +kernel) rfl
theorem g3_99 : Cond.code yX8_undo cX8_undo 1 (some .int) ∈ G := gm3 99 (by decide +kernel) rfl
theorem g3_100 : Cond.methodLink "HookHours" 103 yX2_takeLatest ∈ G := gm3 100 (by decide +kernel) rfl
theorem g3_101 : Cond.instanceMethod yX2_takeLatest ∈ G := gm3 101 (by decide +kernel) rfl
theorem g3_102 : Cond.selects "HookHours$History" yX2_takeLatest yX2_takeLatest ∈ G := gm3 102 (by decide +kernel) rfl
theorem g3_103 : Cond.code yX2_takeLatest cX2_takeLatest 3 (some .boolean) ∈ G := gm3 103 (by decide +kernel) rfl
theorem g3_104 : Cond.methodLink "HookHours" 107 yX2_size ∈ G := gm3 104 (by decide +kernel) rfl
theorem g3_105 : Cond.instanceMethod yX2_size ∈ G := gm3 105 (by decide +kernel) rfl
theorem g3_106 : Cond.selects "HookHours$History" yX2_size yX2_size ∈ G := gm3 106 (by decide +kernel) rfl
theorem g3_107 : Cond.code yX2_size cX2_size 1 (some .int) ∈ G := gm3 107 (by decide +kernel) rfl
theorem g3_108 : Cond.methodLink "HookHoursLaw" 71 yX8_keep ∈ G := gm3 108 (by decide +kernel) rfl
theorem g3_109 : Cond.instanceMethod yX8_keep ∈ G := gm3 109 (by decide +kernel) rfl
theorem g3_110 : Cond.selects "HookHours" yX8_keep yX8_keep ∈ G := gm3 110 (by decide +kernel) rfl
theorem g3_111 : Cond.code yX8_keep cX8_keep 1 (some .int) ∈ G := gm3 111 (by decide +kernel) rfl
theorem g3_112 : Cond.methodLink "HookHours" 114 yX0_countAll ∈ G := gm3 112 (by decide +kernel) rfl
theorem g3_113 : Cond.methodLink "HookHoursLaw" 75 yX8_restore ∈ G := gm3 113 (by decide +kernel) rfl
theorem g3_114 : Cond.instanceMethod yX8_restore ∈ G := gm3 114 (by decide +kernel) rfl
theorem g3_115 : Cond.selects "HookHours" yX8_restore yX8_restore ∈ G := gm3 115 (by decide +kernel) rfl
theorem g3_116 : Cond.code yX8_restore cX8_restore 1 (some .int) ∈ G := gm3 116 (by decide +kernel) rfl
theorem g3_117 : Cond.methodLink "HookHoursLaw" 79 yX8_firm ∈ G := gm3 117 (by decide +kernel) rfl
theorem g3_118 : Cond.instanceMethod yX8_firm ∈ G := gm3 118 (by decide +kernel) rfl
theorem g3_119 : Cond.selects "HookHours" yX8_firm yX8_firm ∈ G := gm3 119 (by decide +kernel) rfl
theorem g3_120 : Cond.code yX8_firm cX8_firm 3 (some .int) ∈ G := gm3 120 (by decide +kernel) rfl
theorem g3_121 : Cond.methodLink "HookHours" 119 yX8_isFirm ∈ G := gm3 121 (by decide +kernel) rfl
theorem g3_122 : Cond.methodLink "HookHours" 139 yX0_offeredBy ∈ G := gm3 122 (by decide +kernel) rfl
theorem g3_123 : Cond.methodLink "HookHours" 142 yX0_countOf ∈ G := gm3 123 (by decide +kernel) rfl
theorem g3_124 : Cond.methodLink "HookHours" 145 yX6_openAwards ∈ G := gm3 124 (by decide +kernel) rfl
theorem g3_125 : Cond.instanceMethod yX6_openAwards ∈ G := gm3 125 (by decide +kernel) rfl
theorem g3_126 : Cond.selects "HookHours$State" yX6_openAwards yX6_openAwards ∈ G := gm3 126 (by decide +kernel) rfl
theorem g3_127 : Cond.code yX6_openAwards cX6_openAwards 6 (some .int) ∈ G := gm3 127 (by decide +kernel) rfl
theorem g3_128 : Cond.methodLink "HookHoursLaw" 83 yX8_slot ∈ G := gm3 128 (by decide +kernel) rfl
theorem g3_129 : Cond.instanceMethod yX8_slot ∈ G := gm3 129 (by decide +kernel) rfl
theorem g3_130 : Cond.selects "HookHours" yX8_slot yX8_slot ∈ G := gm3 130 (by decide +kernel) rfl
theorem g3_131 : Cond.code yX8_slot cX8_slot 5 (some .int) ∈ G := gm3 131 (by decide +kernel) rfl
theorem g3_132 : Cond.methodLink "HookHours" 157 yX8_isSlot ∈ G := gm3 132 (by decide +kernel) rfl
theorem g3_133 : Cond.methodLink "HookHours" 161 yX8_slotOf ∈ G := gm3 133 (by decide +kernel) rfl
theorem g3_134 : Cond.methodLink "HookHours" 168 yX5_ownerOf ∈ G := gm3 134 (by decide +kernel) rfl
theorem g3_135 : Cond.methodLink "HookHours" 179 yX0_countFor ∈ G := gm3 135 (by decide +kernel) rfl
theorem g3_136 : Cond.methodLink "HookHours" 182 yX0_highest ∈ G := gm3 136 (by decide +kernel) rfl
theorem g3_137 : Cond.methodLink "HookHours" 185 yX6_isOver ∈ G := gm3 137 (by decide +kernel) rfl
theorem g3_138 : Cond.methodLink "HookHoursLaw" 87 yX8_wouldCost ∈ G := gm3 138 (by decide +kernel) rfl
theorem g3_139 : Cond.instanceMethod yX8_wouldCost ∈ G := gm3 139 (by decide +kernel) rfl
theorem g3_140 : Cond.selects "HookHours" yX8_wouldCost yX8_wouldCost ∈ G := gm3 140 (by decide +kernel) rfl
theorem g3_141 : Cond.code yX8_wouldCost cX8_wouldCost 7 (some .int) ∈ G := gm3 141 (by decide +kernel) rfl
theorem g3_142 : Cond.methodLink "HookHours" 191 yX6_bidError ∈ G := gm3 142 (by decide +kernel) rfl
theorem g3_143 : Cond.methodLink "HookHours" 194 yX6_priceOf ∈ G := gm3 143 (by decide +kernel) rfl
theorem g3_144 : Cond.instanceMethod yX6_priceOf ∈ G := gm3 144 (by decide +kernel) rfl
theorem g3_145 : Cond.selects "HookHours$State" yX6_priceOf yX6_priceOf ∈ G := gm3 145 (by decide +kernel) rfl
theorem g3_146 : Cond.code yX6_priceOf cX6_priceOf 10 (some .int) ∈ G := gm3 146 (by decide +kernel) rfl
theorem g3_147 : Cond.methodLink "HookHoursLaw" 91 yX8_heaviest ∈ G := gm3 147 (by decide +kernel) rfl
theorem g3_148 : Cond.instanceMethod yX8_heaviest ∈ G := gm3 148 (by decide +kernel) rfl
theorem g3_149 : Cond.selects "HookHours" yX8_heaviest yX8_heaviest ∈ G := gm3 149 (by decide +kernel) rfl
theorem g3_150 : Cond.code yX8_heaviest cX8_heaviest 3 (some .int) ∈ G := gm3 150 (by decide +kernel) rfl
theorem g3_151 : Cond.methodLink "HookHours" 197 yX6_heaviestLift ∈ G := gm3 151 (by decide +kernel) rfl
theorem g3_152 : Cond.methodLink "HookHoursLaw" 95 yX8_wind ∈ G := gm3 152 (by decide +kernel) rfl
theorem g3_153 : Cond.instanceMethod yX8_wind ∈ G := gm3 153 (by decide +kernel) rfl
theorem g3_154 : Cond.selects "HookHours" yX8_wind yX8_wind ∈ G := gm3 154 (by decide +kernel) rfl
theorem g3_155 : Cond.code yX8_wind cX8_wind 2 (some .int) ∈ G := gm3 155 (by decide +kernel) rfl
theorem g3_156 : Cond.methodLink "HookHoursLaw" 99 yX8_cheapest ∈ G := gm3 156 (by decide +kernel) rfl
theorem g3_157 : Cond.instanceMethod yX8_cheapest ∈ G := gm3 157 (by decide +kernel) rfl
theorem g3_158 : Cond.selects "HookHours" yX8_cheapest yX8_cheapest ∈ G := gm3 158 (by decide +kernel) rfl
theorem g3_159 : Cond.code yX8_cheapest cX8_cheapest 3 (some .int) ∈ G := gm3 159 (by decide +kernel) rfl
theorem g3_160 : Cond.methodLink "HookHours" 212 yX8_isLift ∈ G := gm3 160 (by decide +kernel) rfl
theorem g3_161 : Cond.methodLink "HookHours" 215 yX6_cheapestHour ∈ G := gm3 161 (by decide +kernel) rfl
theorem g3_162 : Cond.instanceMethod yX6_cheapestHour ∈ G := gm3 162 (by decide +kernel) rfl
theorem g3_163 : Cond.selects "HookHours$State" yX6_cheapestHour yX6_cheapestHour ∈ G := gm3 163 (by decide +kernel) rfl
theorem g3_164 : Cond.code yX6_cheapestHour cX6_cheapestHour 7 (some .int) ∈ G := gm3 164 (by decide +kernel) rfl
theorem g3_165 : Cond.methodLink "HookHoursLaw" 103 yX8_count ∈ G := gm3 165 (by decide +kernel) rfl
theorem g3_166 : Cond.instanceMethod yX8_count ∈ G := gm3 166 (by decide +kernel) rfl
theorem g3_167 : Cond.selects "HookHours" yX8_count yX8_count ∈ G := gm3 167 (by decide +kernel) rfl
theorem g3_168 : Cond.code yX8_count cX8_count 2 (some .int) ∈ G := gm3 168 (by decide +kernel) rfl
theorem g3_169 : Cond.methodLink "HookHours" 218 yX4_sum ∈ G := gm3 169 (by decide +kernel) rfl
theorem g3_170 : Cond.static yX4_sum ∈ G := gm3 170 (by decide +kernel) rfl
theorem g3_171 : Cond.code yX4_sum cX4_sum 3 (some .int) ∈ G := gm3 171 (by decide +kernel) rfl
theorem g3_172 : Cond.methodLink "HookHours" 222 yX3_length ∈ G := gm3 172 (by decide +kernel) rfl
theorem g3_173 : Cond.instanceMethod yX3_length ∈ G := gm3 173 (by decide +kernel) rfl
theorem g3_174 : Cond.selects "HookHours$Plan" yX3_length yX3_length ∈ G := gm3 174 (by decide +kernel) rfl
theorem g3_175 : Cond.code yX3_length cX3_length 1 (some .int) ∈ G := gm3 175 (by decide +kernel) rfl
theorem g3_176 : Cond.methodLink "HookHours" 225 yX6_total ∈ G := gm3 176 (by decide +kernel) rfl
theorem g3_177 : Cond.instanceMethod yX6_total ∈ G := gm3 177 (by decide +kernel) rfl
theorem g3_178 : Cond.selects "HookHours$State" yX6_total yX6_total ∈ G := gm3 178 (by decide +kernel) rfl
theorem g3_179 : Cond.code yX6_total cX6_total 2 (some .int) ∈ G := gm3 179 (by decide +kernel) rfl
theorem g3_180 : Cond.methodLink "HookHours$State" 227 yX6_openAwards ∈ G := gm3 180 (by decide +kernel) rfl
theorem g3_181 : Cond.classLink "HookHoursLaw" 10 "HookHoursModel" ∈ G := gm3 181 (by decide +kernel) rfl
theorem g3_182 : Cond.instantiable "HookHoursModel" 11 ∈ G := gm3 182 (by decide +kernel) rfl
theorem g3_183 : Cond.methodLink "HookHoursLaw" 12 yX9_init ∈ G := gm3 183 (by decide +kernel) rfl
theorem g3_184 : Cond.instanceMethod yX9_init ∈ G := gm3 184 (by decide +kernel) rfl
theorem g3_185 : Cond.code yX9_init cX9_init 2 none ∈ G := gm3 185 (by decide +kernel) rfl
theorem g3_186 : Cond.methodLink "HookHoursModel" 1 Jvm.Lib.objectInit ∈ G := gm3 186 (by decide +kernel) rfl
theorem g3_187 : Cond.methodLink "HookHoursModel" 24 yX9_empties ∈ G := gm3 187 (by decide +kernel) rfl
theorem g3_189 : Cond.instanceMethod yX9_empties ∈ G := gm3 189 (by decide +kernel) rfl
theorem g3_190 : Cond.code yX9_empties cX9_empties 4 none ∈ G := gm3 190 (by decide +kernel) rfl
theorem g3_191 : Cond.methodLink "HookHoursModel" 35 yX9_clears ∈ G := gm3 191 (by decide +kernel) rfl
theorem g3_193 : Cond.instanceMethod yX9_clears ∈ G := gm3 193 (by decide +kernel) rfl
theorem g3_194 : Cond.code yX9_clears cX9_clears 4 none ∈ G := gm3 194 (by decide +kernel) rfl
theorem g3_195 : Cond.fieldLink "HookHoursModel" 7 "HookHoursModel" "s" "[I" ∈ G := gm3 195 (by decide +kernel) rfl
theorem g3_196 : Cond.fieldLink "HookHoursModel" 28 "HookHoursModel" "states" "I" ∈ G := gm3 196 (by decide +kernel) rfl
theorem g3_197 : Cond.fieldLink "HookHoursModel" 140 "HookHoursModel" "isKept" "Z" ∈ G := gm3 197 (by decide +kernel) rfl
theorem g3_198 : Cond.fieldLink "HookHoursModel" 13 "HookHoursModel" "text" "[C" ∈ G := gm3 198 (by decide +kernel) rfl
theorem g3_199 : Cond.fieldLink "HookHoursModel" 112 "HookHoursModel" "typed" "I" ∈ G := gm3 199 (by decide +kernel) rfl
theorem g3_200 : Cond.fieldLink "HookHoursModel" 109 "HookHoursModel" "at" "I" ∈ G := gm3 200 (by decide +kernel) rfl
theorem g3_201 : Cond.fieldLink "HookHoursModel" 105 "HookHoursModel" "isRight" "Z" ∈ G := gm3 201 (by decide +kernel) rfl
theorem g3_202 : Cond.fieldLink "HookHoursModel" 17 "HookHoursModel" "entry" "[I" ∈ G := gm3 202 (by decide +kernel) rfl
theorem g3_203 : Cond.fieldLink "HookHoursModel" 118 "HookHoursModel" "entries" "I" ∈ G := gm3 203 (by decide +kernel) rfl
theorem g3_204 : Cond.fieldLink "HookHoursModel" 20 "HookHoursModel" "stoppedAt" "I" ∈ G := gm3 204 (by decide +kernel) rfl
theorem g3_205 : Cond.fieldLink "HookHoursModel" 137 "HookHoursModel" "stoppedBy" "I" ∈ G := gm3 205 (by decide +kernel) rfl
theorem g3_206 : Cond.laysFinal "HookHoursModel" "HookHoursModel" "s" "[I" ∈ G := gm3 206 (by decide +kernel) rfl
theorem g3_208 : Cond.lays "HookHoursModel" "HookHoursModel" "states" "I" ∈ G := gm3 208 (by decide +kernel) rfl
theorem g3_210 : Cond.lays "HookHoursModel" "HookHoursModel" "isKept" "Z" ∈ G := gm3 210 (by decide +kernel) rfl
theorem g3_212 : Cond.laysFinal "HookHoursModel" "HookHoursModel" "text" "[C" ∈ G := gm3 212 (by decide +kernel) rfl
theorem g3_214 : Cond.lays "HookHoursModel" "HookHoursModel" "typed" "I" ∈ G := gm3 214 (by decide +kernel) rfl
theorem g3_216 : Cond.lays "HookHoursModel" "HookHoursModel" "at" "I" ∈ G := gm3 216 (by decide +kernel) rfl
theorem g3_218 : Cond.lays "HookHoursModel" "HookHoursModel" "isRight" "Z" ∈ G := gm3 218 (by decide +kernel) rfl
theorem g3_220 : Cond.laysFinal "HookHoursModel" "HookHoursModel" "entry" "[I" ∈ G := gm3 220 (by decide +kernel) rfl
theorem g3_222 : Cond.lays "HookHoursModel" "HookHoursModel" "entries" "I" ∈ G := gm3 222 (by decide +kernel) rfl
theorem g3_224 : Cond.lays "HookHoursModel" "HookHoursModel" "stoppedAt" "I" ∈ G := gm3 224 (by decide +kernel) rfl
theorem g3_226 : Cond.lays "HookHoursModel" "HookHoursModel" "stoppedBy" "I" ∈ G := gm3 226 (by decide +kernel) rfl
theorem g3_229 : Cond.methodLink "HookHoursLaw" 17 yX9_expect ∈ G := gm3 229 (by decide +kernel) rfl
theorem g3_230 : Cond.instanceMethod yX9_expect ∈ G := gm3 230 (by decide +kernel) rfl
theorem g3_231 : Cond.selects "HookHoursModel" yX9_expect yX9_expect ∈ G := gm3 231 (by decide +kernel) rfl
theorem g3_232 : Cond.code yX9_expect cX9_expect 3 (some .int) ∈ G := gm3 232 (by decide +kernel) rfl
theorem g3_233 : Cond.methodLink "HookHoursModel" 31 yX9_copies ∈ G := gm3 233 (by decide +kernel) rfl
theorem g3_235 : Cond.instanceMethod yX9_copies ∈ G := gm3 235 (by decide +kernel) rfl
theorem g3_236 : Cond.code yX9_copies cX9_copies 4 none ∈ G := gm3 236 (by decide +kernel) rfl
theorem g3_237 : Cond.methodLink "HookHoursModel" 87 yX9_expects ∈ G := gm3 237 (by decide +kernel) rfl
theorem g3_239 : Cond.instanceMethod yX9_expects ∈ G := gm3 239 (by decide +kernel) rfl
theorem g4_0 : Cond.code yX9_expects cX9_expects 6 (some .int) ∈ G := gm4 0 (by decide +kernel) rfl
theorem g4_1 : Cond.methodLink "HookHoursModel" 53 yX9_in ∈ G := gm4 1 (by decide +kernel) rfl
theorem g4_2 : Cond.static yX9_in ∈ G := gm4 2 (by decide +kernel) rfl
theorem g4_3 : Cond.code yX9_in cX9_in 3 (some .boolean) ∈ G := gm4 3 (by decide +kernel) rfl
theorem g4_4 : Cond.methodLink "HookHoursModel" 57 yX9_isDone ∈ G := gm4 4 (by decide +kernel) rfl
theorem g4_6 : Cond.instanceMethod yX9_isDone ∈ G := gm4 6 (by decide +kernel) rfl
theorem g4_7 : Cond.code yX9_isDone cX9_isDone 3 (some .boolean) ∈ G := gm4 7 (by decide +kernel) rfl
theorem g4_8 : Cond.methodLink "HookHoursModel" 90 yX9_settles ∈ G := gm4 8 (by decide +kernel) rfl
theorem g4_10 : Cond.instanceMethod yX9_settles ∈ G := gm4 10 (by decide +kernel) rfl
theorem g4_11 : Cond.code yX9_settles cX9_settles 2 (some .int) ∈ G := gm4 11 (by decide +kernel) rfl
theorem g4_12 : Cond.methodLink "HookHoursModel" 84 yX9_records ∈ G := gm4 12 (by decide +kernel) rfl
theorem g4_14 : Cond.instanceMethod yX9_records ∈ G := gm4 14 (by decide +kernel) rfl
theorem g4_15 : Cond.code yX9_records cX9_records 2 none ∈ G := gm4 15 (by decide +kernel) rfl
theorem g4_16 : Cond.methodLink "HookHoursLaw" 21 yX9_fund ∈ G := gm4 16 (by decide +kernel) rfl
theorem g4_17 : Cond.instanceMethod yX9_fund ∈ G := gm4 17 (by decide +kernel) rfl
theorem g4_18 : Cond.selects "HookHoursModel" yX9_fund yX9_fund ∈ G := gm4 18 (by decide +kernel) rfl
theorem g4_19 : Cond.code yX9_fund cX9_fund 3 (some .int) ∈ G := gm4 19 (by decide +kernel) rfl
theorem g4_20 : Cond.methodLink "HookHoursLaw" 26 yX9_bid ∈ G := gm4 20 (by decide +kernel) rfl
theorem g4_21 : Cond.instanceMethod yX9_bid ∈ G := gm4 21 (by decide +kernel) rfl
theorem g4_22 : Cond.selects "HookHoursModel" yX9_bid yX9_bid ∈ G := gm4 22 (by decide +kernel) rfl
theorem g4_23 : Cond.code yX9_bid cX9_bid 6 (some .int) ∈ G := gm4 23 (by decide +kernel) rfl
theorem g4_24 : Cond.methodLink "HookHoursModel" 93 yX9_bidsBy ∈ G := gm4 24 (by decide +kernel) rfl
theorem g4_26 : Cond.instanceMethod yX9_bidsBy ∈ G := gm4 26 (by decide +kernel) rfl
theorem g4_27 : Cond.code yX9_bidsBy cX9_bidsBy 10 (some .int) ∈ G := gm4 27 (by decide +kernel) rfl
theorem g4_28 : Cond.methodLink "HookHoursModel" 73 yX9_wrong ∈ G := gm4 28 (by decide +kernel) rfl
theorem g4_30 : Cond.instanceMethod yX9_wrong ∈ G := gm4 30 (by decide +kernel) rfl
theorem g4_31 : Cond.code yX9_wrong cX9_wrong 8 (some .int) ∈ G := gm4 31 (by decide +kernel) rfl
theorem g4_32 : Cond.methodLink "HookHoursModel" 60 yX9_most ∈ G := gm4 32 (by decide +kernel) rfl
theorem g4_33 : Cond.static yX9_most ∈ G := gm4 33 (by decide +kernel) rfl
theorem g4_34 : Cond.code yX9_most cX9_most 1 (some .int) ∈ G := gm4 34 (by decide +kernel) rfl
theorem g4_35 : Cond.methodLink "HookHoursModel" 64 yX9_place ∈ G := gm4 35 (by decide +kernel) rfl
theorem g4_36 : Cond.static yX9_place ∈ G := gm4 36 (by decide +kernel) rfl
theorem g4_37 : Cond.code yX9_place cX9_place 2 (some .int) ∈ G := gm4 37 (by decide +kernel) rfl
theorem g4_38 : Cond.methodLink "HookHoursModel" 67 yX9_offered ∈ G := gm4 38 (by decide +kernel) rfl
theorem g4_40 : Cond.instanceMethod yX9_offered ∈ G := gm4 40 (by decide +kernel) rfl
theorem g4_41 : Cond.code yX9_offered cX9_offered 5 (some .int) ∈ G := gm4 41 (by decide +kernel) rfl
theorem g4_42 : Cond.methodLink "HookHoursModel" 70 yX9_bids ∈ G := gm4 42 (by decide +kernel) rfl
theorem g4_44 : Cond.instanceMethod yX9_bids ∈ G := gm4 44 (by decide +kernel) rfl
theorem g4_45 : Cond.code yX9_bids cX9_bids 4 (some .int) ∈ G := gm4 45 (by decide +kernel) rfl
theorem g4_46 : Cond.methodLink "HookHoursModel" 38 yX9_bidsFor ∈ G := gm4 46 (by decide +kernel) rfl
theorem g4_48 : Cond.instanceMethod yX9_bidsFor ∈ G := gm4 48 (by decide +kernel) rfl
theorem g4_49 : Cond.code yX9_bidsFor cX9_bidsFor 5 (some .int) ∈ G := gm4 49 (by decide +kernel) rfl
theorem g4_50 : Cond.methodLink "HookHoursLaw" 31 yX9_withdraw ∈ G := gm4 50 (by decide +kernel) rfl
theorem g4_51 : Cond.instanceMethod yX9_withdraw ∈ G := gm4 51 (by decide +kernel) rfl
theorem g4_52 : Cond.selects "HookHoursModel" yX9_withdraw yX9_withdraw ∈ G := gm4 52 (by decide +kernel) rfl
theorem g4_53 : Cond.code yX9_withdraw cX9_withdraw 6 (some .int) ∈ G := gm4 53 (by decide +kernel) rfl
theorem g4_54 : Cond.methodLink "HookHoursModel" 96 yX9_isSlot ∈ G := gm4 54 (by decide +kernel) rfl
theorem g4_55 : Cond.static yX9_isSlot ∈ G := gm4 55 (by decide +kernel) rfl
theorem g4_56 : Cond.code yX9_isSlot cX9_isSlot 2 (some .boolean) ∈ G := gm4 56 (by decide +kernel) rfl
theorem g4_57 : Cond.methodLink "HookHoursLaw" 35 yX9_award ∈ G := gm4 57 (by decide +kernel) rfl
theorem g4_58 : Cond.instanceMethod yX9_award ∈ G := gm4 58 (by decide +kernel) rfl
theorem g4_59 : Cond.selects "HookHoursModel" yX9_award yX9_award ∈ G := gm4 59 (by decide +kernel) rfl
theorem g4_60 : Cond.code yX9_award cX9_award 4 (some .int) ∈ G := gm4 60 (by decide +kernel) rfl
theorem g4_61 : Cond.methodLink "HookHoursModel" 50 yX9_best ∈ G := gm4 61 (by decide +kernel) rfl
theorem g4_63 : Cond.instanceMethod yX9_best ∈ G := gm4 63 (by decide +kernel) rfl
theorem g4_64 : Cond.code yX9_best cX9_best 6 (some .int) ∈ G := gm4 64 (by decide +kernel) rfl
theorem g4_65 : Cond.methodLink "HookHoursModel" 46 yX9_borne ∈ G := gm4 65 (by decide +kernel) rfl
theorem g4_67 : Cond.instanceMethod yX9_borne ∈ G := gm4 67 (by decide +kernel) rfl
theorem g4_68 : Cond.code yX9_borne cX9_borne 5 (some .int) ∈ G := gm4 68 (by decide +kernel) rfl
theorem g4_69 : Cond.methodLink "HookHoursModel" 42 yX9_bears ∈ G := gm4 69 (by decide +kernel) rfl
theorem g4_70 : Cond.static yX9_bears ∈ G := gm4 70 (by decide +kernel) rfl
theorem g4_71 : Cond.code yX9_bears cX9_bears 2 (some .boolean) ∈ G := gm4 71 (by decide +kernel) rfl
theorem g4_72 : Cond.methodLink "HookHoursModel" 77 yX9_awards ∈ G := gm4 72 (by decide +kernel) rfl
theorem g4_74 : Cond.instanceMethod yX9_awards ∈ G := gm4 74 (by decide +kernel) rfl
theorem g4_75 : Cond.code yX9_awards cX9_awards 6 (some .int) ∈ G := gm4 75 (by decide +kernel) rfl
theorem g4_76 : Cond.methodLink "HookHoursLaw" 39 yX9_trade ∈ G := gm4 76 (by decide +kernel) rfl
theorem g4_77 : Cond.instanceMethod yX9_trade ∈ G := gm4 77 (by decide +kernel) rfl
theorem g4_78 : Cond.selects "HookHoursModel" yX9_trade yX9_trade ∈ G := gm4 78 (by decide +kernel) rfl
theorem g4_79 : Cond.code yX9_trade cX9_trade 8 (some .int) ∈ G := gm4 79 (by decide +kernel) rfl
theorem g4_80 : Cond.methodLink "HookHoursLaw" 44 yX9_done ∈ G := gm4 80 (by decide +kernel) rfl
theorem g4_81 : Cond.instanceMethod yX9_done ∈ G := gm4 81 (by decide +kernel) rfl
theorem g4_82 : Cond.selects "HookHoursModel" yX9_done yX9_done ∈ G := gm4 82 (by decide +kernel) rfl
theorem g4_83 : Cond.code yX9_done cX9_done 2 (some .int) ∈ G := gm4 83 (by decide +kernel) rfl
theorem g4_84 : Cond.methodLink "HookHoursModel" 99 yX9_does ∈ G := gm4 84 (by decide +kernel) rfl
theorem g4_86 : Cond.instanceMethod yX9_does ∈ G := gm4 86 (by decide +kernel) rfl
theorem g4_87 : Cond.code yX9_does cX9_does 8 (some .int) ∈ G := gm4 87 (by decide +kernel) rfl
theorem g4_88 : Cond.methodLink "HookHoursModel" 80 yX9_goesOn ∈ G := gm4 88 (by decide +kernel) rfl
theorem g4_90 : Cond.instanceMethod yX9_goesOn ∈ G := gm4 90 (by decide +kernel) rfl
theorem g4_91 : Cond.code yX9_goesOn cX9_goesOn 8 none ∈ G := gm4 91 (by decide +kernel) rfl
theorem g4_92 : Cond.methodLink "HookHoursLaw" 49 yX9_nextDay ∈ G := gm4 92 (by decide +kernel) rfl
theorem g4_93 : Cond.instanceMethod yX9_nextDay ∈ G := gm4 93 (by decide +kernel) rfl
theorem g4_94 : Cond.selects "HookHoursModel" yX9_nextDay yX9_nextDay ∈ G := gm4 94 (by decide +kernel) rfl
theorem g4_95 : Cond.code yX9_nextDay cX9_nextDay 1 (some .int) ∈ G := gm4 95 (by decide +kernel) rfl
theorem g4_96 : Cond.methodLink "HookHoursModel" 102 yX9_begins ∈ G := gm4 96 (by decide +kernel) rfl
theorem g4_98 : Cond.instanceMethod yX9_begins ∈ G := gm4 98 (by decide +kernel) rfl
theorem g4_99 : Cond.code yX9_begins cX9_begins 3 (some .int) ∈ G := gm4 99 (by decide +kernel) rfl
theorem g4_100 : Cond.methodLink "HookHoursLaw" 62 yX9_perform ∈ G := gm4 100 (by decide +kernel) rfl
theorem g4_101 : Cond.instanceMethod yX9_perform ∈ G := gm4 101 (by decide +kernel) rfl
theorem g4_102 : Cond.selects "HookHoursModel" yX9_perform yX9_perform ∈ G := gm4 102 (by decide +kernel) rfl
theorem g4_103 : Cond.code yX9_perform cX9_perform 4 (some .int) ∈ G := gm4 103 (by decide +kernel) rfl
theorem g4_104 : Cond.methodLink "HookHoursModel" 130 yX9_fault ∈ G := gm4 104 (by decide +kernel) rfl
theorem g4_106 : Cond.instanceMethod yX9_fault ∈ G := gm4 106 (by decide +kernel) rfl
theorem g4_107 : Cond.code yX9_fault cX9_fault 1 (some .int) ∈ G := gm4 107 (by decide +kernel) rfl
theorem g4_108 : Cond.methodLink "HookHoursModel" 127 yX9_reads ∈ G := gm4 108 (by decide +kernel) rfl
theorem g4_110 : Cond.instanceMethod yX9_reads ∈ G := gm4 110 (by decide +kernel) rfl
theorem g4_111 : Cond.code yX9_reads cX9_reads 3 none ∈ G := gm4 111 (by decide +kernel) rfl
theorem g4_112 : Cond.methodLink "HookHoursModel" 121 yX9_number ∈ G := gm4 112 (by decide +kernel) rfl
theorem g4_114 : Cond.instanceMethod yX9_number ∈ G := gm4 114 (by decide +kernel) rfl
theorem g4_115 : Cond.code yX9_number cX9_number 4 (some .int) ∈ G := gm4 115 (by decide +kernel) rfl
theorem g4_116 : Cond.methodLink "HookHoursModel" 115 yX9_isNext ∈ G := gm4 116 (by decide +kernel) rfl
theorem g4_118 : Cond.instanceMethod yX9_isNext ∈ G := gm4 118 (by decide +kernel) rfl
theorem g4_119 : Cond.code yX9_isNext cX9_isNext 3 (some .boolean) ∈ G := gm4 119 (by decide +kernel) rfl
theorem g4_120 : Cond.methodLink "HookHoursModel" 124 yX9_takes ∈ G := gm4 120 (by decide +kernel) rfl
theorem g4_122 : Cond.instanceMethod yX9_takes ∈ G := gm4 122 (by decide +kernel) rfl
theorem g4_123 : Cond.code yX9_takes cX9_takes 2 none ∈ G := gm4 123 (by decide +kernel) rfl
theorem g4_124 : Cond.methodLink "HookHoursModel" 134 yX9_performs ∈ G := gm4 124 (by decide +kernel) rfl
theorem g4_126 : Cond.instanceMethod yX9_performs ∈ G := gm4 126 (by decide +kernel) rfl
theorem g4_127 : Cond.code yX9_performs cX9_performs 3 (some .int) ∈ G := gm4 127 (by decide +kernel) rfl
theorem g4_128 : Cond.methodLink "HookHoursLaw" 66 yX9_stopped ∈ G := gm4 128 (by decide +kernel) rfl
theorem g4_129 : Cond.instanceMethod yX9_stopped ∈ G := gm4 129 (by decide +kernel) rfl
theorem g4_130 : Cond.selects "HookHoursModel" yX9_stopped yX9_stopped ∈ G := gm4 130 (by decide +kernel) rfl
theorem g4_131 : Cond.code yX9_stopped cX9_stopped 2 (some .int) ∈ G := gm4 131 (by decide +kernel) rfl
theorem g4_132 : Cond.methodLink "HookHoursLaw" 54 yX9_type ∈ G := gm4 132 (by decide +kernel) rfl
theorem g4_133 : Cond.instanceMethod yX9_type ∈ G := gm4 133 (by decide +kernel) rfl
theorem g4_134 : Cond.selects "HookHoursModel" yX9_type yX9_type ∈ G := gm4 134 (by decide +kernel) rfl
theorem g4_135 : Cond.code yX9_type cX9_type 2 (some .int) ∈ G := gm4 135 (by decide +kernel) rfl
theorem g4_136 : Cond.methodLink "HookHoursLaw" 58 yX9_clearText ∈ G := gm4 136 (by decide +kernel) rfl
theorem g4_137 : Cond.instanceMethod yX9_clearText ∈ G := gm4 137 (by decide +kernel) rfl
theorem g4_138 : Cond.selects "HookHoursModel" yX9_clearText yX9_clearText ∈ G := gm4 138 (by decide +kernel) rfl
theorem g4_139 : Cond.code yX9_clearText cX9_clearText 2 (some .int) ∈ G := gm4 139 (by decide +kernel) rfl
theorem g4_140 : Cond.methodLink "HookHoursLaw" 70 yX9_undo ∈ G := gm4 140 (by decide +kernel) rfl
theorem g4_141 : Cond.instanceMethod yX9_undo ∈ G := gm4 141 (by decide +kernel) rfl
theorem g4_142 : Cond.selects "HookHoursModel" yX9_undo yX9_undo ∈ G := gm4 142 (by decide +kernel) rfl
theorem g4_143 : Cond.code yX9_undo cX9_undo 1 (some .int) ∈ G := gm4 143 (by decide +kernel) rfl
theorem g4_144 : Cond.methodLink "HookHoursLaw" 74 yX9_keep ∈ G := gm4 144 (by decide +kernel) rfl
theorem g4_145 : Cond.instanceMethod yX9_keep ∈ G := gm4 145 (by decide +kernel) rfl
theorem g4_146 : Cond.selects "HookHoursModel" yX9_keep yX9_keep ∈ G := gm4 146 (by decide +kernel) rfl
theorem g4_147 : Cond.code yX9_keep cX9_keep 1 (some .int) ∈ G := gm4 147 (by decide +kernel) rfl
theorem g4_148 : Cond.methodLink "HookHoursLaw" 78 yX9_restore ∈ G := gm4 148 (by decide +kernel) rfl
theorem g4_149 : Cond.instanceMethod yX9_restore ∈ G := gm4 149 (by decide +kernel) rfl
theorem g4_150 : Cond.selects "HookHoursModel" yX9_restore yX9_restore ∈ G := gm4 150 (by decide +kernel) rfl
theorem g4_151 : Cond.code yX9_restore cX9_restore 1 (some .int) ∈ G := gm4 151 (by decide +kernel) rfl
theorem g4_152 : Cond.methodLink "HookHoursLaw" 82 yX9_firm ∈ G := gm4 152 (by decide +kernel) rfl
theorem g4_153 : Cond.instanceMethod yX9_firm ∈ G := gm4 153 (by decide +kernel) rfl
theorem g4_154 : Cond.selects "HookHoursModel" yX9_firm yX9_firm ∈ G := gm4 154 (by decide +kernel) rfl
theorem g4_155 : Cond.code yX9_firm cX9_firm 3 (some .int) ∈ G := gm4 155 (by decide +kernel) rfl
theorem g4_156 : Cond.methodLink "HookHoursModel" 143 yX9_bidsOf ∈ G := gm4 156 (by decide +kernel) rfl
theorem g4_158 : Cond.instanceMethod yX9_bidsOf ∈ G := gm4 158 (by decide +kernel) rfl
theorem g4_159 : Cond.code yX9_bidsOf cX9_bidsOf 5 (some .int) ∈ G := gm4 159 (by decide +kernel) rfl
theorem g4_160 : Cond.methodLink "HookHoursModel" 146 yX9_awarded ∈ G := gm4 160 (by decide +kernel) rfl
theorem g4_162 : Cond.instanceMethod yX9_awarded ∈ G := gm4 162 (by decide +kernel) rfl
theorem g4_163 : Cond.code yX9_awarded cX9_awarded 5 (some .int) ∈ G := gm4 163 (by decide +kernel) rfl
theorem g4_164 : Cond.methodLink "HookHoursLaw" 86 yX9_slot ∈ G := gm4 164 (by decide +kernel) rfl
theorem g4_165 : Cond.instanceMethod yX9_slot ∈ G := gm4 165 (by decide +kernel) rfl
theorem g4_166 : Cond.selects "HookHoursModel" yX9_slot yX9_slot ∈ G := gm4 166 (by decide +kernel) rfl
theorem g4_167 : Cond.code yX9_slot cX9_slot 5 (some .int) ∈ G := gm4 167 (by decide +kernel) rfl
theorem g4_168 : Cond.methodLink "HookHoursModel" 149 yX9_highest ∈ G := gm4 168 (by decide +kernel) rfl
theorem g4_170 : Cond.instanceMethod yX9_highest ∈ G := gm4 170 (by decide +kernel) rfl
theorem g4_171 : Cond.code yX9_highest cX9_highest 4 (some .int) ∈ G := gm4 171 (by decide +kernel) rfl
theorem g4_172 : Cond.methodLink "HookHoursLaw" 90 yX9_wouldCost ∈ G := gm4 172 (by decide +kernel) rfl
theorem g4_173 : Cond.instanceMethod yX9_wouldCost ∈ G := gm4 173 (by decide +kernel) rfl
theorem g4_174 : Cond.selects "HookHoursModel" yX9_wouldCost yX9_wouldCost ∈ G := gm4 174 (by decide +kernel) rfl
theorem g4_175 : Cond.code yX9_wouldCost cX9_wouldCost 9 (some .int) ∈ G := gm4 175 (by decide +kernel) rfl
theorem g4_176 : Cond.methodLink "HookHoursLaw" 94 yX9_heaviest ∈ G := gm4 176 (by decide +kernel) rfl
theorem g4_177 : Cond.instanceMethod yX9_heaviest ∈ G := gm4 177 (by decide +kernel) rfl
theorem g4_178 : Cond.selects "HookHoursModel" yX9_heaviest yX9_heaviest ∈ G := gm4 178 (by decide +kernel) rfl
theorem g4_179 : Cond.code yX9_heaviest cX9_heaviest 4 (some .int) ∈ G := gm4 179 (by decide +kernel) rfl
theorem g4_180 : Cond.methodLink "HookHoursLaw" 98 yX9_wind ∈ G := gm4 180 (by decide +kernel) rfl
theorem g4_181 : Cond.instanceMethod yX9_wind ∈ G := gm4 181 (by decide +kernel) rfl
theorem g4_182 : Cond.selects "HookHoursModel" yX9_wind yX9_wind ∈ G := gm4 182 (by decide +kernel) rfl
theorem g4_183 : Cond.code yX9_wind cX9_wind 2 (some .int) ∈ G := gm4 183 (by decide +kernel) rfl
theorem g4_184 : Cond.methodLink "HookHoursLaw" 102 yX9_cheapest ∈ G := gm4 184 (by decide +kernel) rfl
theorem g4_185 : Cond.instanceMethod yX9_cheapest ∈ G := gm4 185 (by decide +kernel) rfl
theorem g4_186 : Cond.selects "HookHoursModel" yX9_cheapest yX9_cheapest ∈ G := gm4 186 (by decide +kernel) rfl
theorem g4_187 : Cond.code yX9_cheapest cX9_cheapest 6 (some .int) ∈ G := gm4 187 (by decide +kernel) rfl
theorem g4_188 : Cond.methodLink "HookHoursLaw" 106 yX9_count ∈ G := gm4 188 (by decide +kernel) rfl
theorem g4_189 : Cond.instanceMethod yX9_count ∈ G := gm4 189 (by decide +kernel) rfl
theorem g4_190 : Cond.selects "HookHoursModel" yX9_count yX9_count ∈ G := gm4 190 (by decide +kernel) rfl
theorem g4_191 : Cond.code yX9_count cX9_count 4 (some .int) ∈ G := gm4 191 (by decide +kernel) rfl
theorem gS_0 : Cond.selects RX8 yX8_recorded yX8_recorded ∈ G := gmS 0 (by decide +kernel) rfl
theorem gS_1 : Cond.selects RX2 yX2_dropOldest yX2_dropOldest ∈ G := gmS 1 (by decide +kernel) rfl
theorem gS_2 : Cond.selects RX2 yX2_stateAt yX2_stateAt ∈ G := gmS 2 (by decide +kernel) rfl
theorem gS_3 : Cond.selects RX3 yX3_take yX3_take ∈ G := gmS 3 (by decide +kernel) rfl
theorem gS_4 : Cond.selects RX3 yX3_sign yX3_sign ∈ G := gmS 4 (by decide +kernel) rfl
theorem gS_5 : Cond.selects RX3 yX3_readBid yX3_readBid ∈ G := gmS 5 (by decide +kernel) rfl
theorem gS_6 : Cond.selects RX3 yX3_number yX3_number ∈ G := gmS 6 (by decide +kernel) rfl
theorem gS_7 : Cond.selects RX8 yX8_performed yX8_performed ∈ G := gmS 7 (by decide +kernel) rfl
theorem gS_8 : Cond.selects RX9 yX9_empties yX9_empties ∈ G := gmS 8 (by decide +kernel) rfl
theorem gS_9 : Cond.selects RX9 yX9_clears yX9_clears ∈ G := gmS 9 (by decide +kernel) rfl
theorem gS_10 : Cond.selects RX9 yX9_copies yX9_copies ∈ G := gmS 10 (by decide +kernel) rfl
theorem gS_11 : Cond.selects RX9 yX9_expects yX9_expects ∈ G := gmS 11 (by decide +kernel) rfl
theorem gS_12 : Cond.selects RX9 yX9_isDone yX9_isDone ∈ G := gmS 12 (by decide +kernel) rfl
theorem gS_13 : Cond.selects RX9 yX9_settles yX9_settles ∈ G := gmS 13 (by decide +kernel) rfl
theorem gS_14 : Cond.selects RX9 yX9_records yX9_records ∈ G := gmS 14 (by decide +kernel) rfl
theorem gS_15 : Cond.selects RX9 yX9_bidsBy yX9_bidsBy ∈ G := gmS 15 (by decide +kernel) rfl
theorem gS_16 : Cond.selects RX9 yX9_wrong yX9_wrong ∈ G := gmS 16 (by decide +kernel) rfl
theorem gS_17 : Cond.selects RX9 yX9_offered yX9_offered ∈ G := gmS 17 (by decide +kernel) rfl
theorem gS_18 : Cond.selects RX9 yX9_bids yX9_bids ∈ G := gmS 18 (by decide +kernel) rfl
theorem gS_19 : Cond.selects RX9 yX9_bidsFor yX9_bidsFor ∈ G := gmS 19 (by decide +kernel) rfl
theorem gS_20 : Cond.selects RX9 yX9_best yX9_best ∈ G := gmS 20 (by decide +kernel) rfl
theorem gS_21 : Cond.selects RX9 yX9_borne yX9_borne ∈ G := gmS 21 (by decide +kernel) rfl
theorem gS_22 : Cond.selects RX9 yX9_awards yX9_awards ∈ G := gmS 22 (by decide +kernel) rfl
theorem gS_23 : Cond.selects RX9 yX9_does yX9_does ∈ G := gmS 23 (by decide +kernel) rfl
theorem gS_24 : Cond.selects RX9 yX9_goesOn yX9_goesOn ∈ G := gmS 24 (by decide +kernel) rfl
theorem gS_25 : Cond.selects RX9 yX9_begins yX9_begins ∈ G := gmS 25 (by decide +kernel) rfl
theorem gS_26 : Cond.selects RX9 yX9_fault yX9_fault ∈ G := gmS 26 (by decide +kernel) rfl
theorem gS_27 : Cond.selects RX9 yX9_reads yX9_reads ∈ G := gmS 27 (by decide +kernel) rfl
theorem gS_28 : Cond.selects RX9 yX9_number yX9_number ∈ G := gmS 28 (by decide +kernel) rfl
theorem gS_29 : Cond.selects RX9 yX9_isNext yX9_isNext ∈ G := gmS 29 (by decide +kernel) rfl
theorem gS_30 : Cond.selects RX9 yX9_takes yX9_takes ∈ G := gmS 30 (by decide +kernel) rfl
theorem gS_31 : Cond.selects RX9 yX9_performs yX9_performs ∈ G := gmS 31 (by decide +kernel) rfl
theorem gS_32 : Cond.selects RX9 yX9_bidsOf yX9_bidsOf ∈ G := gmS 32 (by decide +kernel) rfl
theorem gS_33 : Cond.selects RX9 yX9_awarded yX9_awarded ∈ G := gmS 33 (by decide +kernel) rfl
theorem gS_34 : Cond.selects RX9 yX9_highest yX9_highest ∈ G := gmS 34 (by decide +kernel) rfl
theorem in_wsX00 : ∀ w ∈ wsX00, w ∈ G := by decide +kernel
theorem in_wsX10 : ∀ w ∈ wsX10, w ∈ G := by decide +kernel
theorem in_wsX20 : ∀ w ∈ wsX20, w ∈ G := by decide +kernel
theorem in_wsX30 : ∀ w ∈ wsX30, w ∈ G := by decide +kernel
theorem in_wsX40 : ∀ w ∈ wsX40, w ∈ G := by decide +kernel
theorem in_wsX50 : ∀ w ∈ wsX50, w ∈ G := by decide +kernel
theorem in_wsX60 : ∀ w ∈ wsX60, w ∈ G := by decide +kernel
theorem in_wsX70 : ∀ w ∈ wsX70, w ∈ G := by decide +kernel
theorem in_wsX80 : ∀ w ∈ wsX80, w ∈ G := by decide +kernel
theorem in_wsX90 : ∀ w ∈ wsX90, w ∈ G := by decide +kernel
/-- what is linked between nest mates -/
def nestW : List Cond := [Cond.methodLinkNest "HookHours$State" 27 yX0_init "HookHours", Cond.fieldLinkNest "HookHours$State" 210 "HookHours$Slots" "weights" "[I" "HookHours", Cond.fieldLinkNest "HookHours" 173 "HookHours$Slots" "weights" "[I" "HookHours", Cond.fieldLinkNest "HookHours$State" 174 "HookHours$Slots" "prices" "[I" "HookHours", Cond.fieldLinkNest "HookHours" 176 "HookHours$Slots" "prices" "[I" "HookHours", Cond.fieldLinkNest "HookHours$State" 218 "HookHours$Slots" "reasons" "[I" "HookHours", Cond.fieldLinkNest "HookHours" 188 "HookHours$Slots" "reasons" "[I" "HookHours", Cond.fieldLinkNest "HookHours$State" 93 "HookHours$Firms" "purses" "[I" "HookHours", Cond.fieldLinkNest "HookHours" 127 "HookHours$Firms" "purses" "[I" "HookHours", Cond.fieldLinkNest "HookHours$State" 202 "HookHours$Firms" "lifts" "[I" "HookHours", Cond.fieldLinkNest "HookHours" 148 "HookHours$Firms" "lifts" "[I" "HookHours", Cond.fieldLinkNest "HookHours" 151 "HookHours$Firms" "paid" "[I" "HookHours", Cond.fieldLinkNest "HookHours" 154 "HookHours$Firms" "traded" "[I" "HookHours", Cond.methodLinkNest "HookHours$State" 48 yX7_init "HookHours", Cond.fieldLinkNest "HookHours$State" 212 "HookHours$Totals" "without" "[I" "HookHours", Cond.fieldLinkNest "HookHours$State" 180 "HookHours$Totals" "yard" "I" "HookHours", Cond.fieldLinkNest "HookHours$State" 221 "HookHours$Totals" "refunds" "I" "HookHours", Cond.fieldLinkNest "HookHours$State" 116 "HookHours$Totals" "funded" "I" "HookHours", Cond.fieldLinkNest "HookHours$State" 193 "HookHours$Totals" "trades" "I" "HookHours", Cond.fieldLinkNest "HookHours$State" 205 "HookHours$Totals" "lifts" "I" "HookHours", Cond.fieldLinkNest "HookHours$State" 207 "HookHours$Totals" "weights" "I" "HookHours", Cond.fieldLinkNest "HookHours" 206 "HookHours$State" "expected" "[I" "HookHours", Cond.fieldLinkNest "HookHours" 203 "HookHours$State" "blown" "[I" "HookHours", Cond.fieldLinkNest "HookHours" 110 "HookHours$State" "bids" "LHookHours$Bids;" "HookHours", Cond.fieldLinkNest "HookHours" 164 "HookHours$State" "slots" "LHookHours$Slots;" "HookHours", Cond.fieldLinkNest "HookHours" 123 "HookHours$State" "firms" "LHookHours$Firms;" "HookHours", Cond.methodLinkNest "HookHours" 35 yX3_init "HookHours", Cond.fieldLinkNest "HookHours" 231 "HookHours$Plan" "kind" "I" "HookHours", Cond.fieldLinkNest "HookHours" 234 "HookHours$Plan" "firm" "I" "HookHours", Cond.fieldLinkNest "HookHours" 237 "HookHours$Plan" "crane" "I" "HookHours", Cond.fieldLinkNest "HookHours" 240 "HookHours$Plan" "hour" "I" "HookHours", Cond.fieldLinkNest "HookHours" 243 "HookHours$Plan" "weight" "I" "HookHours", Cond.fieldLinkNest "HookHours" 246 "HookHours$Plan" "coins" "I" "HookHours", Cond.fieldLinkNest "HookHours" 249 "HookHours$Plan" "wind" "I" "HookHours", Cond.methodLinkNest "HookHours$State" 100 yX8_isHour "HookHours", Cond.methodLinkNest "HookHours$State" 103 yX8_isWind "HookHours", Cond.methodLinkNest "HookHours$State" 110 yX8_isFirm "HookHours", Cond.methodLinkNest "HookHours$State" 119 yX8_isSlot "HookHours", Cond.methodLinkNest "HookHours$State" 123 yX8_isLift "HookHours", Cond.methodLinkNest "HookHours$State" 79 yX8_slotOf "HookHours", Cond.methodLinkNest "HookHours$State" 90 yX8_heaviestAt "HookHours"]
theorem nestW_tbl : ∀ w ∈ nestW, w ∈ lw_tbl := by
  intro w h
  simp only [nestW, List.mem_cons, List.not_mem_nil, or_false] at h
  rcases h with rfl | rfl | rfl | rfl | rfl | rfl | rfl | rfl | rfl | rfl | rfl | rfl | rfl | rfl | rfl | rfl | rfl | rfl | rfl | rfl | rfl | rfl | rfl | rfl | rfl | rfl | rfl | rfl | rfl | rfl | rfl | rfl | rfl | rfl | rfl | rfl | rfl | rfl | rfl | rfl | rfl
  · exact tm1 29 (by decide +kernel)
  · exact tm1 52 (by decide +kernel)
  · exact tm1 53 (by decide +kernel)
  · exact tm1 55 (by decide +kernel)
  · exact tm1 56 (by decide +kernel)
  · exact tm1 58 (by decide +kernel)
  · exact tm1 59 (by decide +kernel)
  · exact tm1 77 (by decide +kernel)
  · exact tm1 78 (by decide +kernel)
  · exact tm1 80 (by decide +kernel)
  · exact tm1 81 (by decide +kernel)
  · exact tm1 83 (by decide +kernel)
  · exact tm1 85 (by decide +kernel)
  · exact tm1 97 (by decide +kernel)
  · exact tm1 102 (by decide +kernel)
  · exact tm1 104 (by decide +kernel)
  · exact tm1 106 (by decide +kernel)
  · exact tm1 108 (by decide +kernel)
  · exact tm1 110 (by decide +kernel)
  · exact tm1 112 (by decide +kernel)
  · exact tm1 114 (by decide +kernel)
  · exact tm1 134 (by decide +kernel)
  · exact tm1 136 (by decide +kernel)
  · exact tm1 138 (by decide +kernel)
  · exact tm1 140 (by decide +kernel)
  · exact tm1 142 (by decide +kernel)
  · exact tm1 179 (by decide +kernel)
  · exact tm1 188 (by decide +kernel)
  · exact tm1 190 (by decide +kernel)
  · exact tm1 192 (by decide +kernel)
  · exact tm1 194 (by decide +kernel)
  · exact tm1 196 (by decide +kernel)
  · exact tm1 198 (by decide +kernel)
  · exact tm1 200 (by decide +kernel)
  · exact tm2 51 (by decide +kernel)
  · exact tm2 54 (by decide +kernel)
  · exact tm2 92 (by decide +kernel)
  · exact tm2 110 (by decide +kernel)
  · exact tm2 117 (by decide +kernel)
  · exact tm2 127 (by decide +kernel)
  · exact tm2 197 (by decide +kernel)
end
section
theorem dX0_init_0 : decode cX0_init 0 = .ok (.aload_n 0, 1) := by decide +kernel
theorem dX0_init_1 : decode cX0_init 1 = .ok (.invokespecial 3, 3) := by decide +kernel
theorem dX0_init_4 : decode cX0_init 4 = .ok (.aload_n 0, 1) := by decide +kernel
theorem dX0_init_5 : decode cX0_init 5 = .ok (.sipush 288, 3) := by decide +kernel
theorem dX0_init_8 : decode cX0_init 8 = .ok (.newarray .int, 2) := by decide +kernel
theorem dX0_init_10 : decode cX0_init 10 = .ok (.putfield 9, 3) := by decide +kernel
theorem dX0_init_13 : decode cX0_init 13 = .ok (.aload_n 0, 1) := by decide +kernel
theorem dX0_init_14 : decode cX0_init 14 = .ok (.sipush 288, 3) := by decide +kernel
theorem dX0_init_17 : decode cX0_init 17 = .ok (.newarray .int, 2) := by decide +kernel
theorem dX0_init_19 : decode cX0_init 19 = .ok (.putfield 15, 3) := by decide +kernel
theorem dX0_init_22 : decode cX0_init 22 = .ok (.return_, 1) := by decide +kernel
theorem dX0_copy_0 : decode cX0_copy 0 = .ok (.aload_n 1, 1) := by decide +kernel
theorem dX0_copy_1 : decode cX0_copy 1 = .ok (.getfield 9, 3) := by decide +kernel
theorem dX0_copy_4 : decode cX0_copy 4 = .ok (.aload_n 0, 1) := by decide +kernel
theorem dX0_copy_5 : decode cX0_copy 5 = .ok (.getfield 9, 3) := by decide +kernel
theorem dX0_copy_8 : decode cX0_copy 8 = .ok (.invokestatic 18, 3) := by decide +kernel
theorem dX0_copy_11 : decode cX0_copy 11 = .ok (.aload_n 1, 1) := by decide +kernel
theorem dX0_copy_12 : decode cX0_copy 12 = .ok (.getfield 15, 3) := by decide +kernel
theorem dX0_copy_15 : decode cX0_copy 15 = .ok (.aload_n 0, 1) := by decide +kernel
theorem dX0_copy_16 : decode cX0_copy 16 = .ok (.getfield 15, 3) := by decide +kernel
theorem dX0_copy_19 : decode cX0_copy 19 = .ok (.invokestatic 18, 3) := by decide +kernel
theorem dX0_copy_22 : decode cX0_copy 22 = .ok (.return_, 1) := by decide +kernel
theorem dX0_cellOf_0 : decode cX0_cellOf 0 = .ok (.iload_n 0, 1) := by decide +kernel
theorem dX0_cellOf_1 : decode cX0_cellOf 1 = .ok (.bipush 48, 2) := by decide +kernel
theorem dX0_cellOf_3 : decode cX0_cellOf 3 = .ok (.imul, 1) := by decide +kernel
theorem dX0_cellOf_4 : decode cX0_cellOf 4 = .ok (.iload_n 1, 1) := by decide +kernel
theorem dX0_cellOf_5 : decode cX0_cellOf 5 = .ok (.iadd, 1) := by decide +kernel
theorem dX0_cellOf_6 : decode cX0_cellOf 6 = .ok (.ireturn, 1) := by decide +kernel
theorem dX0_offer_0 : decode cX0_offer 0 = .ok (.aload_n 0, 1) := by decide +kernel
theorem dX0_offer_1 : decode cX0_offer 1 = .ok (.getfield 15, 3) := by decide +kernel
theorem dX0_offer_4 : decode cX0_offer 4 = .ok (.iload_n 1, 1) := by decide +kernel
theorem dX0_offer_5 : decode cX0_offer 5 = .ok (.iload_n 2, 1) := by decide +kernel
theorem dX0_offer_6 : decode cX0_offer 6 = .ok (.invokestatic 24, 3) := by decide +kernel
theorem dX0_offer_9 : decode cX0_offer 9 = .ok (.invokestatic 28, 3) := by decide +kernel
theorem dX0_offer_12 : decode cX0_offer 12 = .ok (.ireturn, 1) := by decide +kernel
theorem dX0_weight_0 : decode cX0_weight 0 = .ok (.aload_n 0, 1) := by decide +kernel
theorem dX0_weight_1 : decode cX0_weight 1 = .ok (.getfield 9, 3) := by decide +kernel
theorem dX0_weight_4 : decode cX0_weight 4 = .ok (.iload_n 1, 1) := by decide +kernel
theorem dX0_weight_5 : decode cX0_weight 5 = .ok (.iload_n 2, 1) := by decide +kernel
theorem dX0_weight_6 : decode cX0_weight 6 = .ok (.invokestatic 24, 3) := by decide +kernel
theorem dX0_weight_9 : decode cX0_weight 9 = .ok (.invokestatic 28, 3) := by decide +kernel
theorem dX0_weight_12 : decode cX0_weight 12 = .ok (.ireturn, 1) := by decide +kernel
theorem dX0_set_0 : decode cX0_set 0 = .ok (.aload_n 0, 1) := by decide +kernel
theorem dX0_set_1 : decode cX0_set 1 = .ok (.getfield 9, 3) := by decide +kernel
theorem dX0_set_4 : decode cX0_set 4 = .ok (.iload_n 1, 1) := by decide +kernel
theorem dX0_set_5 : decode cX0_set 5 = .ok (.iload_n 2, 1) := by decide +kernel
theorem dX0_set_6 : decode cX0_set 6 = .ok (.invokestatic 24, 3) := by decide +kernel
theorem dX0_set_9 : decode cX0_set 9 = .ok (.iload_n 3, 1) := by decide +kernel
theorem dX0_set_10 : decode cX0_set 10 = .ok (.invokestatic 32, 3) := by decide +kernel
theorem dX0_set_13 : decode cX0_set 13 = .ok (.aload_n 0, 1) := by decide +kernel
theorem dX0_set_14 : decode cX0_set 14 = .ok (.getfield 15, 3) := by decide +kernel
theorem dX0_set_17 : decode cX0_set 17 = .ok (.iload_n 1, 1) := by decide +kernel
theorem dX0_set_18 : decode cX0_set 18 = .ok (.iload_n 2, 1) := by decide +kernel
theorem dX0_set_19 : decode cX0_set 19 = .ok (.invokestatic 24, 3) := by decide +kernel
theorem dX0_set_22 : decode cX0_set 22 = .ok (.iload 4, 2) := by decide +kernel
theorem dX0_set_24 : decode cX0_set 24 = .ok (.invokestatic 32, 3) := by decide +kernel
theorem dX0_set_27 : decode cX0_set 27 = .ok (.return_, 1) := by decide +kernel
theorem dX0_remove_0 : decode cX0_remove 0 = .ok (.aload_n 0, 1) := by decide +kernel
theorem dX0_remove_1 : decode cX0_remove 1 = .ok (.iload_n 1, 1) := by decide +kernel
theorem dX0_remove_2 : decode cX0_remove 2 = .ok (.iload_n 2, 1) := by decide +kernel
theorem dX0_remove_3 : decode cX0_remove 3 = .ok (.iconst 0, 1) := by decide +kernel
theorem dX0_remove_4 : decode cX0_remove 4 = .ok (.iconst 0, 1) := by decide +kernel
theorem dX0_remove_5 : decode cX0_remove 5 = .ok (.invokevirtual 36, 3) := by decide +kernel
theorem dX0_remove_8 : decode cX0_remove 8 = .ok (.return_, 1) := by decide +kernel
theorem dX0_removeAll_0 : decode cX0_removeAll 0 = .ok (.iconst 0, 1) := by decide +kernel
theorem dX0_removeAll_1 : decode cX0_removeAll 1 = .ok (.istore_n 2, 1) := by decide +kernel
theorem dX0_removeAll_2 : decode cX0_removeAll 2 = .ok (.iload_n 2, 1) := by decide +kernel
theorem dX0_removeAll_3 : decode cX0_removeAll 3 = .ok (.bipush 6, 2) := by decide +kernel
theorem dX0_removeAll_5 : decode cX0_removeAll 5 = .ok (.if_icmp .ge 17, 3) := by decide +kernel
theorem dX0_removeAll_8 : decode cX0_removeAll 8 = .ok (.aload_n 0, 1) := by decide +kernel
theorem dX0_removeAll_9 : decode cX0_removeAll 9 = .ok (.iload_n 2, 1) := by decide +kernel
theorem dX0_removeAll_10 : decode cX0_removeAll 10 = .ok (.iload_n 1, 1) := by decide +kernel
theorem dX0_removeAll_11 : decode cX0_removeAll 11 = .ok (.iconst 0, 1) := by decide +kernel
theorem dX0_removeAll_12 : decode cX0_removeAll 12 = .ok (.iconst 0, 1) := by decide +kernel
theorem dX0_removeAll_13 : decode cX0_removeAll 13 = .ok (.invokevirtual 36, 3) := by decide +kernel
theorem dX0_removeAll_16 : decode cX0_removeAll 16 = .ok (.iinc 2 1, 3) := by decide +kernel
theorem dX0_removeAll_19 : decode cX0_removeAll 19 = .ok (.goto (-17), 3) := by decide +kernel
theorem dX0_removeAll_22 : decode cX0_removeAll 22 = .ok (.return_, 1) := by decide +kernel
theorem dX0_countFor_0 : decode cX0_countFor 0 = .ok (.iconst 0, 1) := by decide +kernel
theorem dX0_countFor_1 : decode cX0_countFor 1 = .ok (.istore_n 2, 1) := by decide +kernel
theorem dX0_countFor_2 : decode cX0_countFor 2 = .ok (.iconst 0, 1) := by decide +kernel
theorem dX0_countFor_3 : decode cX0_countFor 3 = .ok (.istore_n 3, 1) := by decide +kernel
theorem dX0_countFor_4 : decode cX0_countFor 4 = .ok (.iload_n 3, 1) := by decide +kernel
theorem dX0_countFor_5 : decode cX0_countFor 5 = .ok (.bipush 6, 2) := by decide +kernel
theorem dX0_countFor_7 : decode cX0_countFor 7 = .ok (.if_icmp .ge 32, 3) := by decide +kernel
theorem dX0_countFor_10 : decode cX0_countFor 10 = .ok (.iload_n 2, 1) := by decide +kernel
theorem dX0_countFor_11 : decode cX0_countFor 11 = .ok (.aload_n 0, 1) := by decide +kernel
theorem dX0_countFor_12 : decode cX0_countFor 12 = .ok (.getfield 15, 3) := by decide +kernel
theorem dX0_countFor_15 : decode cX0_countFor 15 = .ok (.iload_n 3, 1) := by decide +kernel
theorem dX0_countFor_16 : decode cX0_countFor 16 = .ok (.iload_n 1, 1) := by decide +kernel
theorem dX0_countFor_17 : decode cX0_countFor 17 = .ok (.invokestatic 24, 3) := by decide +kernel
theorem dX0_countFor_20 : decode cX0_countFor 20 = .ok (.invokestatic 28, 3) := by decide +kernel
theorem dX0_countFor_23 : decode cX0_countFor 23 = .ok (.ifCond .le 7, 3) := by decide +kernel
theorem dX0_countFor_26 : decode cX0_countFor 26 = .ok (.iconst 1, 1) := by decide +kernel
theorem dX0_countFor_27 : decode cX0_countFor 27 = .ok (.goto 4, 3) := by decide +kernel
theorem dX0_countFor_30 : decode cX0_countFor 30 = .ok (.iconst 0, 1) := by decide +kernel
theorem dX0_countFor_31 : decode cX0_countFor 31 = .ok (.iadd, 1) := by decide +kernel
theorem dX0_countFor_32 : decode cX0_countFor 32 = .ok (.istore_n 2, 1) := by decide +kernel
theorem dX0_countFor_33 : decode cX0_countFor 33 = .ok (.iinc 3 1, 3) := by decide +kernel
theorem dX0_countFor_36 : decode cX0_countFor 36 = .ok (.goto (-32), 3) := by decide +kernel
theorem dX0_countFor_39 : decode cX0_countFor 39 = .ok (.iload_n 2, 1) := by decide +kernel
theorem dX0_countFor_40 : decode cX0_countFor 40 = .ok (.ireturn, 1) := by decide +kernel
theorem dX0_countOf_0 : decode cX0_countOf 0 = .ok (.iconst 0, 1) := by decide +kernel
theorem dX0_countOf_1 : decode cX0_countOf 1 = .ok (.istore_n 2, 1) := by decide +kernel
theorem dX0_countOf_2 : decode cX0_countOf 2 = .ok (.iconst 0, 1) := by decide +kernel
theorem dX0_countOf_3 : decode cX0_countOf 3 = .ok (.istore_n 3, 1) := by decide +kernel
theorem dX0_countOf_4 : decode cX0_countOf 4 = .ok (.iload_n 3, 1) := by decide +kernel
theorem dX0_countOf_5 : decode cX0_countOf 5 = .ok (.bipush 48, 2) := by decide +kernel
theorem dX0_countOf_7 : decode cX0_countOf 7 = .ok (.if_icmp .ge 32, 3) := by decide +kernel
theorem dX0_countOf_10 : decode cX0_countOf 10 = .ok (.iload_n 2, 1) := by decide +kernel
theorem dX0_countOf_11 : decode cX0_countOf 11 = .ok (.aload_n 0, 1) := by decide +kernel
theorem dX0_countOf_12 : decode cX0_countOf 12 = .ok (.getfield 15, 3) := by decide +kernel
theorem dX0_countOf_15 : decode cX0_countOf 15 = .ok (.iload_n 1, 1) := by decide +kernel
theorem dX0_countOf_16 : decode cX0_countOf 16 = .ok (.iload_n 3, 1) := by decide +kernel
theorem dX0_countOf_17 : decode cX0_countOf 17 = .ok (.invokestatic 24, 3) := by decide +kernel
theorem dX0_countOf_20 : decode cX0_countOf 20 = .ok (.invokestatic 28, 3) := by decide +kernel
theorem dX0_countOf_23 : decode cX0_countOf 23 = .ok (.ifCond .le 7, 3) := by decide +kernel
theorem dX0_countOf_26 : decode cX0_countOf 26 = .ok (.iconst 1, 1) := by decide +kernel
theorem dX0_countOf_27 : decode cX0_countOf 27 = .ok (.goto 4, 3) := by decide +kernel
theorem dX0_countOf_30 : decode cX0_countOf 30 = .ok (.iconst 0, 1) := by decide +kernel
theorem dX0_countOf_31 : decode cX0_countOf 31 = .ok (.iadd, 1) := by decide +kernel
theorem dX0_countOf_32 : decode cX0_countOf 32 = .ok (.istore_n 2, 1) := by decide +kernel
theorem dX0_countOf_33 : decode cX0_countOf 33 = .ok (.iinc 3 1, 3) := by decide +kernel
theorem dX0_countOf_36 : decode cX0_countOf 36 = .ok (.goto (-32), 3) := by decide +kernel
theorem dX0_countOf_39 : decode cX0_countOf 39 = .ok (.iload_n 2, 1) := by decide +kernel
theorem dX0_countOf_40 : decode cX0_countOf 40 = .ok (.ireturn, 1) := by decide +kernel
theorem dX0_countAll_0 : decode cX0_countAll 0 = .ok (.iconst 0, 1) := by decide +kernel
theorem dX0_countAll_1 : decode cX0_countAll 1 = .ok (.istore_n 1, 1) := by decide +kernel
theorem dX0_countAll_2 : decode cX0_countAll 2 = .ok (.iconst 0, 1) := by decide +kernel
theorem dX0_countAll_3 : decode cX0_countAll 3 = .ok (.istore_n 2, 1) := by decide +kernel
theorem dX0_countAll_4 : decode cX0_countAll 4 = .ok (.iload_n 2, 1) := by decide +kernel
theorem dX0_countAll_5 : decode cX0_countAll 5 = .ok (.bipush 6, 2) := by decide +kernel
theorem dX0_countAll_7 : decode cX0_countAll 7 = .ok (.if_icmp .ge 17, 3) := by decide +kernel
theorem dX0_countAll_10 : decode cX0_countAll 10 = .ok (.iload_n 1, 1) := by decide +kernel
theorem dX0_countAll_11 : decode cX0_countAll 11 = .ok (.aload_n 0, 1) := by decide +kernel
theorem dX0_countAll_12 : decode cX0_countAll 12 = .ok (.iload_n 2, 1) := by decide +kernel
theorem dX0_countAll_13 : decode cX0_countAll 13 = .ok (.invokevirtual 40, 3) := by decide +kernel
theorem dX0_countAll_16 : decode cX0_countAll 16 = .ok (.iadd, 1) := by decide +kernel
theorem dX0_countAll_17 : decode cX0_countAll 17 = .ok (.istore_n 1, 1) := by decide +kernel
theorem dX0_countAll_18 : decode cX0_countAll 18 = .ok (.iinc 2 1, 3) := by decide +kernel
theorem dX0_countAll_21 : decode cX0_countAll 21 = .ok (.goto (-17), 3) := by decide +kernel
theorem dX0_countAll_24 : decode cX0_countAll 24 = .ok (.iload_n 1, 1) := by decide +kernel
theorem dX0_countAll_25 : decode cX0_countAll 25 = .ok (.ireturn, 1) := by decide +kernel
theorem dX0_offeredBy_0 : decode cX0_offeredBy 0 = .ok (.iconst 0, 1) := by decide +kernel
theorem dX0_offeredBy_1 : decode cX0_offeredBy 1 = .ok (.istore_n 2, 1) := by decide +kernel
theorem dX0_offeredBy_2 : decode cX0_offeredBy 2 = .ok (.iconst 0, 1) := by decide +kernel
theorem dX0_offeredBy_3 : decode cX0_offeredBy 3 = .ok (.istore_n 3, 1) := by decide +kernel
theorem dX0_offeredBy_4 : decode cX0_offeredBy 4 = .ok (.iload_n 3, 1) := by decide +kernel
theorem dX0_offeredBy_5 : decode cX0_offeredBy 5 = .ok (.bipush 48, 2) := by decide +kernel
theorem dX0_offeredBy_7 : decode cX0_offeredBy 7 = .ok (.if_icmp .ge 24, 3) := by decide +kernel
theorem dX0_offeredBy_10 : decode cX0_offeredBy 10 = .ok (.iload_n 2, 1) := by decide +kernel
theorem dX0_offeredBy_11 : decode cX0_offeredBy 11 = .ok (.aload_n 0, 1) := by decide +kernel
theorem dX0_offeredBy_12 : decode cX0_offeredBy 12 = .ok (.getfield 15, 3) := by decide +kernel
theorem dX0_offeredBy_15 : decode cX0_offeredBy 15 = .ok (.iload_n 1, 1) := by decide +kernel
theorem dX0_offeredBy_16 : decode cX0_offeredBy 16 = .ok (.iload_n 3, 1) := by decide +kernel
theorem dX0_offeredBy_17 : decode cX0_offeredBy 17 = .ok (.invokestatic 24, 3) := by decide +kernel
theorem dX0_offeredBy_20 : decode cX0_offeredBy 20 = .ok (.invokestatic 28, 3) := by decide +kernel
theorem dX0_offeredBy_23 : decode cX0_offeredBy 23 = .ok (.iadd, 1) := by decide +kernel
theorem dX0_offeredBy_24 : decode cX0_offeredBy 24 = .ok (.istore_n 2, 1) := by decide +kernel
theorem dX0_offeredBy_25 : decode cX0_offeredBy 25 = .ok (.iinc 3 1, 3) := by decide +kernel
theorem dX0_offeredBy_28 : decode cX0_offeredBy 28 = .ok (.goto (-24), 3) := by decide +kernel
theorem dX0_offeredBy_31 : decode cX0_offeredBy 31 = .ok (.iload_n 2, 1) := by decide +kernel
theorem dX0_offeredBy_32 : decode cX0_offeredBy 32 = .ok (.ireturn, 1) := by decide +kernel
theorem dX0_highest_0 : decode cX0_highest 0 = .ok (.iconst 0, 1) := by decide +kernel
theorem dX0_highest_1 : decode cX0_highest 1 = .ok (.istore 4, 2) := by decide +kernel
theorem dX0_highest_3 : decode cX0_highest 3 = .ok (.iconst 0, 1) := by decide +kernel
theorem dX0_highest_4 : decode cX0_highest 4 = .ok (.istore 5, 2) := by decide +kernel
theorem dX0_highest_6 : decode cX0_highest 6 = .ok (.iload 5, 2) := by decide +kernel
theorem dX0_highest_8 : decode cX0_highest 8 = .ok (.bipush 6, 2) := by decide +kernel
theorem dX0_highest_10 : decode cX0_highest 10 = .ok (.if_icmp .ge 75, 3) := by decide +kernel
theorem dX0_highest_13 : decode cX0_highest 13 = .ok (.aload_n 0, 1) := by decide +kernel
theorem dX0_highest_14 : decode cX0_highest 14 = .ok (.getfield 15, 3) := by decide +kernel
theorem dX0_highest_17 : decode cX0_highest 17 = .ok (.iload 5, 2) := by decide +kernel
theorem dX0_highest_19 : decode cX0_highest 19 = .ok (.iload_n 1, 1) := by decide +kernel
theorem dX0_highest_20 : decode cX0_highest 20 = .ok (.invokestatic 24, 3) := by decide +kernel
theorem dX0_highest_23 : decode cX0_highest 23 = .ok (.invokestatic 28, 3) := by decide +kernel
theorem dX0_highest_26 : decode cX0_highest 26 = .ok (.istore 6, 2) := by decide +kernel
theorem dX0_highest_28 : decode cX0_highest 28 = .ok (.iload 5, 2) := by decide +kernel
theorem dX0_highest_30 : decode cX0_highest 30 = .ok (.iload_n 3, 1) := by decide +kernel
theorem dX0_highest_31 : decode cX0_highest 31 = .ok (.if_icmp .eq 24, 3) := by decide +kernel
theorem dX0_highest_34 : decode cX0_highest 34 = .ok (.aload_n 0, 1) := by decide +kernel
theorem dX0_highest_35 : decode cX0_highest 35 = .ok (.getfield 9, 3) := by decide +kernel
theorem dX0_highest_38 : decode cX0_highest 38 = .ok (.iload 5, 2) := by decide +kernel
theorem dX0_highest_40 : decode cX0_highest 40 = .ok (.iload_n 1, 1) := by decide +kernel
theorem dX0_highest_41 : decode cX0_highest 41 = .ok (.invokestatic 24, 3) := by decide +kernel
theorem dX0_highest_44 : decode cX0_highest 44 = .ok (.invokestatic 28, 3) := by decide +kernel
theorem dX0_highest_47 : decode cX0_highest 47 = .ok (.iload_n 2, 1) := by decide +kernel
theorem dX0_highest_48 : decode cX0_highest 48 = .ok (.if_icmp .gt 7, 3) := by decide +kernel
theorem dX0_highest_51 : decode cX0_highest 51 = .ok (.iconst 1, 1) := by decide +kernel
theorem dX0_highest_52 : decode cX0_highest 52 = .ok (.goto 4, 3) := by decide +kernel
theorem dX0_highest_55 : decode cX0_highest 55 = .ok (.iconst 0, 1) := by decide +kernel
theorem dX0_highest_56 : decode cX0_highest 56 = .ok (.istore 7, 2) := by decide +kernel
theorem dX0_highest_58 : decode cX0_highest 58 = .ok (.iload 7, 2) := by decide +kernel
theorem dX0_highest_60 : decode cX0_highest 60 = .ok (.ifCond .eq 15, 3) := by decide +kernel
theorem dX0_highest_63 : decode cX0_highest 63 = .ok (.iload 6, 2) := by decide +kernel
theorem dX0_highest_65 : decode cX0_highest 65 = .ok (.iload 4, 2) := by decide +kernel
theorem dX0_highest_67 : decode cX0_highest 67 = .ok (.if_icmp .le 8, 3) := by decide +kernel
theorem dX0_highest_70 : decode cX0_highest 70 = .ok (.iload 6, 2) := by decide +kernel
theorem dX0_highest_72 : decode cX0_highest 72 = .ok (.goto 5, 3) := by decide +kernel
theorem dX0_highest_75 : decode cX0_highest 75 = .ok (.iload 4, 2) := by decide +kernel
theorem dX0_highest_77 : decode cX0_highest 77 = .ok (.istore 4, 2) := by decide +kernel
theorem dX0_highest_79 : decode cX0_highest 79 = .ok (.iinc 5 1, 3) := by decide +kernel
theorem dX0_highest_82 : decode cX0_highest 82 = .ok (.goto (-76), 3) := by decide +kernel
theorem dX0_highest_85 : decode cX0_highest 85 = .ok (.iload 4, 2) := by decide +kernel
theorem dX0_highest_87 : decode cX0_highest 87 = .ok (.ireturn, 1) := by decide +kernel
theorem dX0_winner_0 : decode cX0_winner 0 = .ok (.bipush (-5), 2) := by decide +kernel
theorem dX0_winner_2 : decode cX0_winner 2 = .ok (.istore_n 3, 1) := by decide +kernel
theorem dX0_winner_3 : decode cX0_winner 3 = .ok (.iconst 0, 1) := by decide +kernel
theorem dX0_winner_4 : decode cX0_winner 4 = .ok (.istore 4, 2) := by decide +kernel
theorem dX0_winner_6 : decode cX0_winner 6 = .ok (.iconst 0, 1) := by decide +kernel
theorem dX0_winner_7 : decode cX0_winner 7 = .ok (.istore 5, 2) := by decide +kernel
theorem dX0_winner_9 : decode cX0_winner 9 = .ok (.iload 5, 2) := by decide +kernel
theorem dX0_winner_11 : decode cX0_winner 11 = .ok (.bipush 6, 2) := by decide +kernel
theorem dX0_winner_13 : decode cX0_winner 13 = .ok (.if_icmp .ge 55, 3) := by decide +kernel
theorem dX0_winner_16 : decode cX0_winner 16 = .ok (.aload_n 0, 1) := by decide +kernel
theorem dX0_winner_17 : decode cX0_winner 17 = .ok (.getfield 15, 3) := by decide +kernel
theorem dX0_winner_20 : decode cX0_winner 20 = .ok (.iload 5, 2) := by decide +kernel
theorem dX0_winner_22 : decode cX0_winner 22 = .ok (.iload_n 1, 1) := by decide +kernel
theorem dX0_winner_23 : decode cX0_winner 23 = .ok (.invokestatic 24, 3) := by decide +kernel
theorem dX0_winner_26 : decode cX0_winner 26 = .ok (.invokestatic 28, 3) := by decide +kernel
theorem dX0_winner_29 : decode cX0_winner 29 = .ok (.istore 6, 2) := by decide +kernel
theorem dX0_winner_31 : decode cX0_winner 31 = .ok (.iload 6, 2) := by decide +kernel
theorem dX0_winner_33 : decode cX0_winner 33 = .ok (.iload 4, 2) := by decide +kernel
theorem dX0_winner_35 : decode cX0_winner 35 = .ok (.if_icmp .le 27, 3) := by decide +kernel
theorem dX0_winner_38 : decode cX0_winner 38 = .ok (.aload_n 0, 1) := by decide +kernel
theorem dX0_winner_39 : decode cX0_winner 39 = .ok (.getfield 9, 3) := by decide +kernel
theorem dX0_winner_42 : decode cX0_winner 42 = .ok (.iload 5, 2) := by decide +kernel
theorem dX0_winner_44 : decode cX0_winner 44 = .ok (.iload_n 1, 1) := by decide +kernel
theorem dX0_winner_45 : decode cX0_winner 45 = .ok (.invokestatic 24, 3) := by decide +kernel
theorem dX0_winner_48 : decode cX0_winner 48 = .ok (.invokestatic 28, 3) := by decide +kernel
theorem dX0_winner_51 : decode cX0_winner 51 = .ok (.iload_n 2, 1) := by decide +kernel
theorem dX0_winner_52 : decode cX0_winner 52 = .ok (.if_icmp .gt 10, 3) := by decide +kernel
theorem dX0_winner_55 : decode cX0_winner 55 = .ok (.iload 5, 2) := by decide +kernel
theorem dX0_winner_57 : decode cX0_winner 57 = .ok (.istore_n 3, 1) := by decide +kernel
theorem dX0_winner_58 : decode cX0_winner 58 = .ok (.iload 6, 2) := by decide +kernel
theorem dX0_winner_60 : decode cX0_winner 60 = .ok (.istore 4, 2) := by decide +kernel
theorem dX0_winner_62 : decode cX0_winner 62 = .ok (.iinc 5 1, 3) := by decide +kernel
theorem dX0_winner_65 : decode cX0_winner 65 = .ok (.goto (-56), 3) := by decide +kernel
theorem dX0_winner_68 : decode cX0_winner 68 = .ok (.iload_n 3, 1) := by decide +kernel
theorem dX0_winner_69 : decode cX0_winner 69 = .ok (.ireturn, 1) := by decide +kernel
theorem dX1_init_0 : decode cX1_init 0 = .ok (.aload_n 0, 1) := by decide +kernel
theorem dX1_init_1 : decode cX1_init 1 = .ok (.invokespecial 3, 3) := by decide +kernel
theorem dX1_init_4 : decode cX1_init 4 = .ok (.aload_n 0, 1) := by decide +kernel
theorem dX1_init_5 : decode cX1_init 5 = .ok (.bipush 6, 2) := by decide +kernel
theorem dX1_init_7 : decode cX1_init 7 = .ok (.newarray .int, 2) := by decide +kernel
theorem dX1_init_9 : decode cX1_init 9 = .ok (.putfield 9, 3) := by decide +kernel
theorem dX1_init_12 : decode cX1_init 12 = .ok (.aload_n 0, 1) := by decide +kernel
theorem dX1_init_13 : decode cX1_init 13 = .ok (.bipush 6, 2) := by decide +kernel
theorem dX1_init_15 : decode cX1_init 15 = .ok (.newarray .int, 2) := by decide +kernel
theorem dX1_init_17 : decode cX1_init 17 = .ok (.putfield 15, 3) := by decide +kernel
theorem dX1_init_20 : decode cX1_init 20 = .ok (.aload_n 0, 1) := by decide +kernel
theorem dX1_init_21 : decode cX1_init 21 = .ok (.bipush 6, 2) := by decide +kernel
theorem dX1_init_23 : decode cX1_init 23 = .ok (.newarray .int, 2) := by decide +kernel
theorem dX1_init_25 : decode cX1_init 25 = .ok (.putfield 18, 3) := by decide +kernel
theorem dX1_init_28 : decode cX1_init 28 = .ok (.aload_n 0, 1) := by decide +kernel
theorem dX1_init_29 : decode cX1_init 29 = .ok (.bipush 6, 2) := by decide +kernel
theorem dX1_init_31 : decode cX1_init 31 = .ok (.newarray .int, 2) := by decide +kernel
theorem dX1_init_33 : decode cX1_init 33 = .ok (.putfield 21, 3) := by decide +kernel
theorem dX1_init_36 : decode cX1_init 36 = .ok (.aload_n 0, 1) := by decide +kernel
theorem dX1_init_37 : decode cX1_init 37 = .ok (.getfield 9, 3) := by decide +kernel
theorem dX1_init_40 : decode cX1_init 40 = .ok (.bipush 100, 2) := by decide +kernel
theorem dX1_init_42 : decode cX1_init 42 = .ok (.invokestatic 24, 3) := by decide +kernel
theorem dX1_init_45 : decode cX1_init 45 = .ok (.return_, 1) := by decide +kernel
theorem dX1_copy_0 : decode cX1_copy 0 = .ok (.aload_n 1, 1) := by decide +kernel
theorem dX1_copy_1 : decode cX1_copy 1 = .ok (.getfield 9, 3) := by decide +kernel
theorem dX1_copy_4 : decode cX1_copy 4 = .ok (.aload_n 0, 1) := by decide +kernel
theorem dX1_copy_5 : decode cX1_copy 5 = .ok (.getfield 9, 3) := by decide +kernel
theorem dX1_copy_8 : decode cX1_copy 8 = .ok (.invokestatic 30, 3) := by decide +kernel
theorem dX1_copy_11 : decode cX1_copy 11 = .ok (.aload_n 1, 1) := by decide +kernel
theorem dX1_copy_12 : decode cX1_copy 12 = .ok (.getfield 15, 3) := by decide +kernel
theorem dX1_copy_15 : decode cX1_copy 15 = .ok (.aload_n 0, 1) := by decide +kernel
theorem dX1_copy_16 : decode cX1_copy 16 = .ok (.getfield 15, 3) := by decide +kernel
theorem dX1_copy_19 : decode cX1_copy 19 = .ok (.invokestatic 30, 3) := by decide +kernel
theorem dX1_copy_22 : decode cX1_copy 22 = .ok (.aload_n 1, 1) := by decide +kernel
theorem dX1_copy_23 : decode cX1_copy 23 = .ok (.getfield 18, 3) := by decide +kernel
theorem dX1_copy_26 : decode cX1_copy 26 = .ok (.aload_n 0, 1) := by decide +kernel
theorem dX1_copy_27 : decode cX1_copy 27 = .ok (.getfield 18, 3) := by decide +kernel
theorem dX1_copy_30 : decode cX1_copy 30 = .ok (.invokestatic 30, 3) := by decide +kernel
theorem dX1_copy_33 : decode cX1_copy 33 = .ok (.aload_n 1, 1) := by decide +kernel
theorem dX1_copy_34 : decode cX1_copy 34 = .ok (.getfield 21, 3) := by decide +kernel
theorem dX1_copy_37 : decode cX1_copy 37 = .ok (.aload_n 0, 1) := by decide +kernel
theorem dX1_copy_38 : decode cX1_copy 38 = .ok (.getfield 21, 3) := by decide +kernel
theorem dX1_copy_41 : decode cX1_copy 41 = .ok (.invokestatic 30, 3) := by decide +kernel
theorem dX1_copy_44 : decode cX1_copy 44 = .ok (.return_, 1) := by decide +kernel
theorem dX1_payYard_0 : decode cX1_payYard 0 = .ok (.aload_n 0, 1) := by decide +kernel
theorem dX1_payYard_1 : decode cX1_payYard 1 = .ok (.getfield 9, 3) := by decide +kernel
theorem dX1_payYard_4 : decode cX1_payYard 4 = .ok (.iload_n 1, 1) := by decide +kernel
theorem dX1_payYard_5 : decode cX1_payYard 5 = .ok (.iload_n 2, 1) := by decide +kernel
theorem dX1_payYard_6 : decode cX1_payYard 6 = .ok (.ineg, 1) := by decide +kernel
theorem dX1_payYard_7 : decode cX1_payYard 7 = .ok (.invokestatic 34, 3) := by decide +kernel
theorem dX1_payYard_10 : decode cX1_payYard 10 = .ok (.aload_n 0, 1) := by decide +kernel
theorem dX1_payYard_11 : decode cX1_payYard 11 = .ok (.getfield 18, 3) := by decide +kernel
theorem dX1_payYard_14 : decode cX1_payYard 14 = .ok (.iload_n 1, 1) := by decide +kernel
theorem dX1_payYard_15 : decode cX1_payYard 15 = .ok (.iload_n 2, 1) := by decide +kernel
theorem dX1_payYard_16 : decode cX1_payYard 16 = .ok (.invokestatic 34, 3) := by decide +kernel
theorem dX1_payYard_19 : decode cX1_payYard 19 = .ok (.return_, 1) := by decide +kernel
theorem dX1_getByTrade_0 : decode cX1_getByTrade 0 = .ok (.aload_n 0, 1) := by decide +kernel
theorem dX1_getByTrade_1 : decode cX1_getByTrade 1 = .ok (.getfield 9, 3) := by decide +kernel
theorem dX1_getByTrade_4 : decode cX1_getByTrade 4 = .ok (.iload_n 1, 1) := by decide +kernel
theorem dX1_getByTrade_5 : decode cX1_getByTrade 5 = .ok (.iload_n 2, 1) := by decide +kernel
theorem dX1_getByTrade_6 : decode cX1_getByTrade 6 = .ok (.invokestatic 34, 3) := by decide +kernel
theorem dX1_getByTrade_9 : decode cX1_getByTrade 9 = .ok (.aload_n 0, 1) := by decide +kernel
theorem dX1_getByTrade_10 : decode cX1_getByTrade 10 = .ok (.getfield 21, 3) := by decide +kernel
theorem dX1_getByTrade_13 : decode cX1_getByTrade 13 = .ok (.iload_n 1, 1) := by decide +kernel
theorem dX1_getByTrade_14 : decode cX1_getByTrade 14 = .ok (.iload_n 2, 1) := by decide +kernel
theorem dX1_getByTrade_15 : decode cX1_getByTrade 15 = .ok (.invokestatic 34, 3) := by decide +kernel
theorem dX1_getByTrade_18 : decode cX1_getByTrade 18 = .ok (.return_, 1) := by decide +kernel
theorem dX2_init_0 : decode cX2_init 0 = .ok (.aload_n 0, 1) := by decide +kernel
theorem dX2_init_1 : decode cX2_init 1 = .ok (.invokespecial 1, 3) := by decide +kernel
theorem dX2_init_4 : decode cX2_init 4 = .ok (.aload_n 0, 1) := by decide +kernel
theorem dX2_init_5 : decode cX2_init 5 = .ok (.iconst 4, 1) := by decide +kernel
theorem dX2_init_6 : decode cX2_init 6 = .ok (.anewarray 9, 3) := by decide +kernel
theorem dX2_init_9 : decode cX2_init 9 = .ok (.putfield 11, 3) := by decide +kernel
theorem dX2_init_12 : decode cX2_init 12 = .ok (.aload_n 0, 1) := by decide +kernel
theorem dX2_init_13 : decode cX2_init 13 = .ok (.iconst 0, 1) := by decide +kernel
theorem dX2_init_14 : decode cX2_init 14 = .ok (.putfield 15, 3) := by decide +kernel
theorem dX2_init_17 : decode cX2_init 17 = .ok (.iconst 0, 1) := by decide +kernel
theorem dX2_init_18 : decode cX2_init 18 = .ok (.istore_n 1, 1) := by decide +kernel
theorem dX2_init_19 : decode cX2_init 19 = .ok (.iload_n 1, 1) := by decide +kernel
theorem dX2_init_20 : decode cX2_init 20 = .ok (.aload_n 0, 1) := by decide +kernel
theorem dX2_init_21 : decode cX2_init 21 = .ok (.getfield 11, 3) := by decide +kernel
theorem dX2_init_24 : decode cX2_init 24 = .ok (.arraylength, 1) := by decide +kernel
theorem dX2_init_25 : decode cX2_init 25 = .ok (.if_icmp .ge 22, 3) := by decide +kernel
theorem dX2_init_28 : decode cX2_init 28 = .ok (.aload_n 0, 1) := by decide +kernel
theorem dX2_init_29 : decode cX2_init 29 = .ok (.getfield 11, 3) := by decide +kernel
theorem dX2_init_32 : decode cX2_init 32 = .ok (.iload_n 1, 1) := by decide +kernel
theorem dX2_init_33 : decode cX2_init 33 = .ok (.new 9, 3) := by decide +kernel
theorem dX2_init_36 : decode cX2_init 36 = .ok (.dup, 1) := by decide +kernel
theorem dX2_init_37 : decode cX2_init 37 = .ok (.invokespecial 19, 3) := by decide +kernel
theorem dX2_init_40 : decode cX2_init 40 = .ok (.aastore, 1) := by decide +kernel
theorem dX2_init_41 : decode cX2_init 41 = .ok (.iinc 1 1, 3) := by decide +kernel
theorem dX2_init_44 : decode cX2_init 44 = .ok (.goto (-25), 3) := by decide +kernel
theorem dX2_init_47 : decode cX2_init 47 = .ok (.return_, 1) := by decide +kernel
theorem dX2_size_0 : decode cX2_size 0 = .ok (.aload_n 0, 1) := by decide +kernel
theorem dX2_size_1 : decode cX2_size 1 = .ok (.getfield 15, 3) := by decide +kernel
theorem dX2_size_4 : decode cX2_size 4 = .ok (.ireturn, 1) := by decide +kernel
theorem dX2_store_0 : decode cX2_store 0 = .ok (.aload_n 0, 1) := by decide +kernel
theorem dX2_store_1 : decode cX2_store 1 = .ok (.getfield 15, 3) := by decide +kernel
theorem dX2_store_4 : decode cX2_store 4 = .ok (.aload_n 0, 1) := by decide +kernel
theorem dX2_store_5 : decode cX2_store 5 = .ok (.getfield 11, 3) := by decide +kernel
theorem dX2_store_8 : decode cX2_store 8 = .ok (.arraylength, 1) := by decide +kernel
theorem dX2_store_9 : decode cX2_store 9 = .ok (.if_icmp .lt 7, 3) := by decide +kernel
theorem dX2_store_12 : decode cX2_store 12 = .ok (.aload_n 0, 1) := by decide +kernel
theorem dX2_store_13 : decode cX2_store 13 = .ok (.invokevirtual 20, 3) := by decide +kernel
theorem dX2_store_16 : decode cX2_store 16 = .ok (.aload_n 0, 1) := by decide +kernel
theorem dX2_store_17 : decode cX2_store 17 = .ok (.aload_n 0, 1) := by decide +kernel
theorem dX2_store_18 : decode cX2_store 18 = .ok (.getfield 15, 3) := by decide +kernel
theorem dX2_store_21 : decode cX2_store 21 = .ok (.invokevirtual 23, 3) := by decide +kernel
theorem dX2_store_24 : decode cX2_store 24 = .ok (.astore_n 2, 1) := by decide +kernel
theorem dX2_store_25 : decode cX2_store 25 = .ok (.aload_n 2, 1) := by decide +kernel
theorem dX2_store_26 : decode cX2_store 26 = .ok (.ifnull 18, 3) := by decide +kernel
theorem dX2_store_29 : decode cX2_store 29 = .ok (.aload_n 2, 1) := by decide +kernel
theorem dX2_store_30 : decode cX2_store 30 = .ok (.aload_n 1, 1) := by decide +kernel
theorem dX2_store_31 : decode cX2_store 31 = .ok (.invokevirtual 27, 3) := by decide +kernel
theorem dX2_store_34 : decode cX2_store 34 = .ok (.aload_n 0, 1) := by decide +kernel
theorem dX2_store_35 : decode cX2_store 35 = .ok (.dup, 1) := by decide +kernel
theorem dX2_store_36 : decode cX2_store 36 = .ok (.getfield 15, 3) := by decide +kernel
theorem dX2_store_39 : decode cX2_store 39 = .ok (.iconst 1, 1) := by decide +kernel
theorem dX2_store_40 : decode cX2_store 40 = .ok (.iadd, 1) := by decide +kernel
theorem dX2_store_41 : decode cX2_store 41 = .ok (.putfield 15, 3) := by decide +kernel
theorem dX2_store_44 : decode cX2_store 44 = .ok (.return_, 1) := by decide +kernel
theorem dX2_takeLatest_0 : decode cX2_takeLatest 0 = .ok (.aload_n 0, 1) := by decide +kernel
theorem dX2_takeLatest_1 : decode cX2_takeLatest 1 = .ok (.aload_n 0, 1) := by decide +kernel
theorem dX2_takeLatest_2 : decode cX2_takeLatest 2 = .ok (.getfield 15, 3) := by decide +kernel
theorem dX2_takeLatest_5 : decode cX2_takeLatest 5 = .ok (.iconst 1, 1) := by decide +kernel
theorem dX2_takeLatest_6 : decode cX2_takeLatest 6 = .ok (.isub, 1) := by decide +kernel
theorem dX2_takeLatest_7 : decode cX2_takeLatest 7 = .ok (.invokevirtual 23, 3) := by decide +kernel
theorem dX2_takeLatest_10 : decode cX2_takeLatest 10 = .ok (.astore_n 2, 1) := by decide +kernel
theorem dX2_takeLatest_11 : decode cX2_takeLatest 11 = .ok (.aload_n 2, 1) := by decide +kernel
theorem dX2_takeLatest_12 : decode cX2_takeLatest 12 = .ok (.ifnonnull 5, 3) := by decide +kernel
theorem dX2_takeLatest_15 : decode cX2_takeLatest 15 = .ok (.iconst 0, 1) := by decide +kernel
theorem dX2_takeLatest_16 : decode cX2_takeLatest 16 = .ok (.ireturn, 1) := by decide +kernel
theorem dX2_takeLatest_17 : decode cX2_takeLatest 17 = .ok (.aload_n 1, 1) := by decide +kernel
theorem dX2_takeLatest_18 : decode cX2_takeLatest 18 = .ok (.aload_n 2, 1) := by decide +kernel
theorem dX2_takeLatest_19 : decode cX2_takeLatest 19 = .ok (.invokevirtual 27, 3) := by decide +kernel
theorem dX2_takeLatest_22 : decode cX2_takeLatest 22 = .ok (.aload_n 0, 1) := by decide +kernel
theorem dX2_takeLatest_23 : decode cX2_takeLatest 23 = .ok (.dup, 1) := by decide +kernel
theorem dX2_takeLatest_24 : decode cX2_takeLatest 24 = .ok (.getfield 15, 3) := by decide +kernel
theorem dX2_takeLatest_27 : decode cX2_takeLatest 27 = .ok (.iconst 1, 1) := by decide +kernel
theorem dX2_takeLatest_28 : decode cX2_takeLatest 28 = .ok (.isub, 1) := by decide +kernel
theorem dX2_takeLatest_29 : decode cX2_takeLatest 29 = .ok (.putfield 15, 3) := by decide +kernel
theorem dX2_takeLatest_32 : decode cX2_takeLatest 32 = .ok (.iconst 1, 1) := by decide +kernel
theorem dX2_takeLatest_33 : decode cX2_takeLatest 33 = .ok (.ireturn, 1) := by decide +kernel
theorem dX2_stateAt_0 : decode cX2_stateAt 0 = .ok (.iload_n 1, 1) := by decide +kernel
theorem dX2_stateAt_1 : decode cX2_stateAt 1 = .ok (.ifCond .lt 21, 3) := by decide +kernel
theorem dX2_stateAt_4 : decode cX2_stateAt 4 = .ok (.iload_n 1, 1) := by decide +kernel
theorem dX2_stateAt_5 : decode cX2_stateAt 5 = .ok (.aload_n 0, 1) := by decide +kernel
theorem dX2_stateAt_6 : decode cX2_stateAt 6 = .ok (.getfield 11, 3) := by decide +kernel
theorem dX2_stateAt_9 : decode cX2_stateAt 9 = .ok (.arraylength, 1) := by decide +kernel
theorem dX2_stateAt_10 : decode cX2_stateAt 10 = .ok (.if_icmp .ge 12, 3) := by decide +kernel
theorem dX2_stateAt_13 : decode cX2_stateAt 13 = .ok (.aload_n 0, 1) := by decide +kernel
theorem dX2_stateAt_14 : decode cX2_stateAt 14 = .ok (.getfield 11, 3) := by decide +kernel
theorem dX2_stateAt_17 : decode cX2_stateAt 17 = .ok (.iload_n 1, 1) := by decide +kernel
theorem dX2_stateAt_18 : decode cX2_stateAt 18 = .ok (.aaload, 1) := by decide +kernel
theorem dX2_stateAt_19 : decode cX2_stateAt 19 = .ok (.goto 4, 3) := by decide +kernel
theorem dX2_stateAt_22 : decode cX2_stateAt 22 = .ok (.aconst_null, 1) := by decide +kernel
theorem dX2_stateAt_23 : decode cX2_stateAt 23 = .ok (.areturn, 1) := by decide +kernel
theorem dX2_dropOldest_0 : decode cX2_dropOldest 0 = .ok (.iconst 1, 1) := by decide +kernel
theorem dX2_dropOldest_1 : decode cX2_dropOldest 1 = .ok (.istore_n 1, 1) := by decide +kernel
theorem dX2_dropOldest_2 : decode cX2_dropOldest 2 = .ok (.iload_n 1, 1) := by decide +kernel
theorem dX2_dropOldest_3 : decode cX2_dropOldest 3 = .ok (.aload_n 0, 1) := by decide +kernel
theorem dX2_dropOldest_4 : decode cX2_dropOldest 4 = .ok (.getfield 11, 3) := by decide +kernel
theorem dX2_dropOldest_7 : decode cX2_dropOldest 7 = .ok (.arraylength, 1) := by decide +kernel
theorem dX2_dropOldest_8 : decode cX2_dropOldest 8 = .ok (.if_icmp .ge 39, 3) := by decide +kernel
theorem dX2_dropOldest_11 : decode cX2_dropOldest 11 = .ok (.aload_n 0, 1) := by decide +kernel
theorem dX2_dropOldest_12 : decode cX2_dropOldest 12 = .ok (.getfield 11, 3) := by decide +kernel
theorem dX2_dropOldest_15 : decode cX2_dropOldest 15 = .ok (.iload_n 1, 1) := by decide +kernel
theorem dX2_dropOldest_16 : decode cX2_dropOldest 16 = .ok (.iconst 1, 1) := by decide +kernel
theorem dX2_dropOldest_17 : decode cX2_dropOldest 17 = .ok (.isub, 1) := by decide +kernel
theorem dX2_dropOldest_18 : decode cX2_dropOldest 18 = .ok (.aaload, 1) := by decide +kernel
theorem dX2_dropOldest_19 : decode cX2_dropOldest 19 = .ok (.astore_n 2, 1) := by decide +kernel
theorem dX2_dropOldest_20 : decode cX2_dropOldest 20 = .ok (.aload_n 0, 1) := by decide +kernel
theorem dX2_dropOldest_21 : decode cX2_dropOldest 21 = .ok (.getfield 11, 3) := by decide +kernel
theorem dX2_dropOldest_24 : decode cX2_dropOldest 24 = .ok (.iload_n 1, 1) := by decide +kernel
theorem dX2_dropOldest_25 : decode cX2_dropOldest 25 = .ok (.iconst 1, 1) := by decide +kernel
theorem dX2_dropOldest_26 : decode cX2_dropOldest 26 = .ok (.isub, 1) := by decide +kernel
theorem dX2_dropOldest_27 : decode cX2_dropOldest 27 = .ok (.aload_n 0, 1) := by decide +kernel
theorem dX2_dropOldest_28 : decode cX2_dropOldest 28 = .ok (.getfield 11, 3) := by decide +kernel
theorem dX2_dropOldest_31 : decode cX2_dropOldest 31 = .ok (.iload_n 1, 1) := by decide +kernel
theorem dX2_dropOldest_32 : decode cX2_dropOldest 32 = .ok (.aaload, 1) := by decide +kernel
theorem dX2_dropOldest_33 : decode cX2_dropOldest 33 = .ok (.aastore, 1) := by decide +kernel
theorem dX2_dropOldest_34 : decode cX2_dropOldest 34 = .ok (.aload_n 0, 1) := by decide +kernel
theorem dX2_dropOldest_35 : decode cX2_dropOldest 35 = .ok (.getfield 11, 3) := by decide +kernel
theorem dX2_dropOldest_38 : decode cX2_dropOldest 38 = .ok (.iload_n 1, 1) := by decide +kernel
theorem dX2_dropOldest_39 : decode cX2_dropOldest 39 = .ok (.aload_n 2, 1) := by decide +kernel
theorem dX2_dropOldest_40 : decode cX2_dropOldest 40 = .ok (.aastore, 1) := by decide +kernel
theorem dX2_dropOldest_41 : decode cX2_dropOldest 41 = .ok (.iinc 1 1, 3) := by decide +kernel
theorem dX2_dropOldest_44 : decode cX2_dropOldest 44 = .ok (.goto (-42), 3) := by decide +kernel
theorem dX2_dropOldest_47 : decode cX2_dropOldest 47 = .ok (.aload_n 0, 1) := by decide +kernel
theorem dX2_dropOldest_48 : decode cX2_dropOldest 48 = .ok (.dup, 1) := by decide +kernel
theorem dX2_dropOldest_49 : decode cX2_dropOldest 49 = .ok (.getfield 15, 3) := by decide +kernel
theorem dX2_dropOldest_52 : decode cX2_dropOldest 52 = .ok (.iconst 1, 1) := by decide +kernel
theorem dX2_dropOldest_53 : decode cX2_dropOldest 53 = .ok (.isub, 1) := by decide +kernel
theorem dX2_dropOldest_54 : decode cX2_dropOldest 54 = .ok (.putfield 15, 3) := by decide +kernel
theorem dX2_dropOldest_57 : decode cX2_dropOldest 57 = .ok (.return_, 1) := by decide +kernel
theorem dX3_init_0 : decode cX3_init 0 = .ok (.aload_n 0, 1) := by decide +kernel
theorem dX3_init_1 : decode cX3_init 1 = .ok (.invokespecial 3, 3) := by decide +kernel
theorem dX3_init_4 : decode cX3_init 4 = .ok (.aload_n 0, 1) := by decide +kernel
theorem dX3_init_5 : decode cX3_init 5 = .ok (.bipush 80, 2) := by decide +kernel
theorem dX3_init_7 : decode cX3_init 7 = .ok (.newarray .char, 2) := by decide +kernel
theorem dX3_init_9 : decode cX3_init 9 = .ok (.putfield 11, 3) := by decide +kernel
theorem dX3_init_12 : decode cX3_init 12 = .ok (.aload_n 0, 1) := by decide +kernel
theorem dX3_init_13 : decode cX3_init 13 = .ok (.iconst 0, 1) := by decide +kernel
theorem dX3_init_14 : decode cX3_init 14 = .ok (.putfield 15, 3) := by decide +kernel
theorem dX3_init_17 : decode cX3_init 17 = .ok (.aload_n 0, 1) := by decide +kernel
theorem dX3_init_18 : decode cX3_init 18 = .ok (.iconst 0, 1) := by decide +kernel
theorem dX3_init_19 : decode cX3_init 19 = .ok (.putfield 19, 3) := by decide +kernel
theorem dX3_init_22 : decode cX3_init 22 = .ok (.aload_n 0, 1) := by decide +kernel
theorem dX3_init_23 : decode cX3_init 23 = .ok (.iconst 0, 1) := by decide +kernel
theorem dX3_init_24 : decode cX3_init 24 = .ok (.putfield 22, 3) := by decide +kernel
theorem dX3_init_27 : decode cX3_init 27 = .ok (.aload_n 0, 1) := by decide +kernel
theorem dX3_init_28 : decode cX3_init 28 = .ok (.iconst (-1), 1) := by decide +kernel
theorem dX3_init_29 : decode cX3_init 29 = .ok (.putfield 26, 3) := by decide +kernel
theorem dX3_init_32 : decode cX3_init 32 = .ok (.aload_n 0, 1) := by decide +kernel
theorem dX3_init_33 : decode cX3_init 33 = .ok (.iconst 0, 1) := by decide +kernel
theorem dX3_init_34 : decode cX3_init 34 = .ok (.putfield 29, 3) := by decide +kernel
theorem dX3_init_37 : decode cX3_init 37 = .ok (.aload_n 0, 1) := by decide +kernel
theorem dX3_init_38 : decode cX3_init 38 = .ok (.iconst 0, 1) := by decide +kernel
theorem dX3_init_39 : decode cX3_init 39 = .ok (.putfield 32, 3) := by decide +kernel
theorem dX3_init_42 : decode cX3_init 42 = .ok (.aload_n 0, 1) := by decide +kernel
theorem dX3_init_43 : decode cX3_init 43 = .ok (.iconst 0, 1) := by decide +kernel
theorem dX3_init_44 : decode cX3_init 44 = .ok (.putfield 35, 3) := by decide +kernel
theorem dX3_init_47 : decode cX3_init 47 = .ok (.aload_n 0, 1) := by decide +kernel
theorem dX3_init_48 : decode cX3_init 48 = .ok (.iconst 0, 1) := by decide +kernel
theorem dX3_init_49 : decode cX3_init 49 = .ok (.putfield 38, 3) := by decide +kernel
theorem dX3_init_52 : decode cX3_init 52 = .ok (.aload_n 0, 1) := by decide +kernel
theorem dX3_init_53 : decode cX3_init 53 = .ok (.iconst 0, 1) := by decide +kernel
theorem dX3_init_54 : decode cX3_init 54 = .ok (.putfield 41, 3) := by decide +kernel
theorem dX3_init_57 : decode cX3_init 57 = .ok (.aload_n 0, 1) := by decide +kernel
theorem dX3_init_58 : decode cX3_init 58 = .ok (.iconst 0, 1) := by decide +kernel
theorem dX3_init_59 : decode cX3_init 59 = .ok (.putfield 44, 3) := by decide +kernel
theorem dX3_init_62 : decode cX3_init 62 = .ok (.return_, 1) := by decide +kernel
theorem dX3_length_0 : decode cX3_length 0 = .ok (.aload_n 0, 1) := by decide +kernel
theorem dX3_length_1 : decode cX3_length 1 = .ok (.getfield 15, 3) := by decide +kernel
theorem dX3_length_4 : decode cX3_length 4 = .ok (.ireturn, 1) := by decide +kernel
theorem dX3_append_0 : decode cX3_append 0 = .ok (.aload_n 0, 1) := by decide +kernel
theorem dX3_append_1 : decode cX3_append 1 = .ok (.getfield 15, 3) := by decide +kernel
theorem dX3_append_4 : decode cX3_append 4 = .ok (.ifCond .lt 15, 3) := by decide +kernel
theorem dX3_append_7 : decode cX3_append 7 = .ok (.aload_n 0, 1) := by decide +kernel
theorem dX3_append_8 : decode cX3_append 8 = .ok (.getfield 15, 3) := by decide +kernel
theorem dX3_append_11 : decode cX3_append 11 = .ok (.aload_n 0, 1) := by decide +kernel
theorem dX3_append_12 : decode cX3_append 12 = .ok (.getfield 11, 3) := by decide +kernel
theorem dX3_append_15 : decode cX3_append 15 = .ok (.arraylength, 1) := by decide +kernel
theorem dX3_append_16 : decode cX3_append 16 = .ok (.if_icmp .lt 6, 3) := by decide +kernel
theorem dX3_append_19 : decode cX3_append 19 = .ok (.bipush (-3), 2) := by decide +kernel
theorem dX3_append_21 : decode cX3_append 21 = .ok (.ireturn, 1) := by decide +kernel
theorem dX3_append_22 : decode cX3_append 22 = .ok (.aload_n 0, 1) := by decide +kernel
theorem dX3_append_23 : decode cX3_append 23 = .ok (.getfield 11, 3) := by decide +kernel
theorem dX3_append_26 : decode cX3_append 26 = .ok (.aload_n 0, 1) := by decide +kernel
theorem dX3_append_27 : decode cX3_append 27 = .ok (.getfield 15, 3) := by decide +kernel
theorem dX3_append_30 : decode cX3_append 30 = .ok (.iload_n 1, 1) := by decide +kernel
theorem dX3_append_31 : decode cX3_append 31 = .ok (.castore, 1) := by decide +kernel
theorem dX3_append_32 : decode cX3_append 32 = .ok (.aload_n 0, 1) := by decide +kernel
theorem dX3_append_33 : decode cX3_append 33 = .ok (.dup, 1) := by decide +kernel
theorem dX3_append_34 : decode cX3_append 34 = .ok (.getfield 15, 3) := by decide +kernel
theorem dX3_append_37 : decode cX3_append 37 = .ok (.iconst 1, 1) := by decide +kernel
theorem dX3_append_38 : decode cX3_append 38 = .ok (.iadd, 1) := by decide +kernel
theorem dX3_append_39 : decode cX3_append 39 = .ok (.putfield 15, 3) := by decide +kernel
theorem dX3_append_42 : decode cX3_append 42 = .ok (.aload_n 0, 1) := by decide +kernel
theorem dX3_append_43 : decode cX3_append 43 = .ok (.getfield 15, 3) := by decide +kernel
theorem dX3_append_46 : decode cX3_append 46 = .ok (.ireturn, 1) := by decide +kernel
theorem dX3_empty_0 : decode cX3_empty 0 = .ok (.aload_n 0, 1) := by decide +kernel
theorem dX3_empty_1 : decode cX3_empty 1 = .ok (.getfield 15, 3) := by decide +kernel
theorem dX3_empty_4 : decode cX3_empty 4 = .ok (.istore_n 1, 1) := by decide +kernel
theorem dX3_empty_5 : decode cX3_empty 5 = .ok (.aload_n 0, 1) := by decide +kernel
theorem dX3_empty_6 : decode cX3_empty 6 = .ok (.iconst 0, 1) := by decide +kernel
theorem dX3_empty_7 : decode cX3_empty 7 = .ok (.putfield 15, 3) := by decide +kernel
theorem dX3_empty_10 : decode cX3_empty 10 = .ok (.iload_n 1, 1) := by decide +kernel
theorem dX3_empty_11 : decode cX3_empty 11 = .ok (.ireturn, 1) := by decide +kernel
theorem dX3_check_0 : decode cX3_check 0 = .ok (.aload_n 0, 1) := by decide +kernel
theorem dX3_check_1 : decode cX3_check 1 = .ok (.invokevirtual 47, 3) := by decide +kernel
theorem dX3_check_4 : decode cX3_check 4 = .ok (.iconst 0, 1) := by decide +kernel
theorem dX3_check_5 : decode cX3_check 5 = .ok (.istore_n 1, 1) := by decide +kernel
theorem dX3_check_6 : decode cX3_check 6 = .ok (.iconst 0, 1) := by decide +kernel
theorem dX3_check_7 : decode cX3_check 7 = .ok (.istore_n 2, 1) := by decide +kernel
theorem dX3_check_8 : decode cX3_check 8 = .ok (.iload_n 2, 1) := by decide +kernel
theorem dX3_check_9 : decode cX3_check 9 = .ok (.bipush 80, 2) := by decide +kernel
theorem dX3_check_11 : decode cX3_check 11 = .ok (.if_icmp .gt 38, 3) := by decide +kernel
theorem dX3_check_14 : decode cX3_check 14 = .ok (.aload_n 0, 1) := by decide +kernel
theorem dX3_check_15 : decode cX3_check 15 = .ok (.getfield 22, 3) := by decide +kernel
theorem dX3_check_18 : decode cX3_check 18 = .ok (.ifCond .ne 31, 3) := by decide +kernel
theorem dX3_check_21 : decode cX3_check 21 = .ok (.iload_n 2, 1) := by decide +kernel
theorem dX3_check_22 : decode cX3_check 22 = .ok (.ifCond .eq 14, 3) := by decide +kernel
theorem dX3_check_25 : decode cX3_check 25 = .ok (.aload_n 0, 1) := by decide +kernel
theorem dX3_check_26 : decode cX3_check 26 = .ok (.getfield 19, 3) := by decide +kernel
theorem dX3_check_29 : decode cX3_check 29 = .ok (.aload_n 0, 1) := by decide +kernel
theorem dX3_check_30 : decode cX3_check 30 = .ok (.getfield 15, 3) := by decide +kernel
theorem dX3_check_33 : decode cX3_check 33 = .ok (.if_icmp .ge 16, 3) := by decide +kernel
theorem dX3_check_36 : decode cX3_check 36 = .ok (.aload_n 0, 1) := by decide +kernel
theorem dX3_check_37 : decode cX3_check 37 = .ok (.invokevirtual 50, 3) := by decide +kernel
theorem dX3_check_40 : decode cX3_check 40 = .ok (.iinc 1 1, 3) := by decide +kernel
theorem dX3_check_43 : decode cX3_check 43 = .ok (.iinc 2 1, 3) := by decide +kernel
theorem dX3_check_46 : decode cX3_check 46 = .ok (.goto (-38), 3) := by decide +kernel
theorem dX3_check_49 : decode cX3_check 49 = .ok (.aload_n 0, 1) := by decide +kernel
theorem dX3_check_50 : decode cX3_check 50 = .ok (.getfield 22, 3) := by decide +kernel
theorem dX3_check_53 : decode cX3_check 53 = .ok (.ifCond .eq 13, 3) := by decide +kernel
theorem dX3_check_56 : decode cX3_check 56 = .ok (.bipush (-100), 2) := by decide +kernel
theorem dX3_check_58 : decode cX3_check 58 = .ok (.aload_n 0, 1) := by decide +kernel
theorem dX3_check_59 : decode cX3_check 59 = .ok (.getfield 19, 3) := by decide +kernel
theorem dX3_check_62 : decode cX3_check 62 = .ok (.isub, 1) := by decide +kernel
theorem dX3_check_63 : decode cX3_check 63 = .ok (.goto 4, 3) := by decide +kernel
theorem dX3_check_66 : decode cX3_check 66 = .ok (.iload_n 1, 1) := by decide +kernel
theorem dX3_check_67 : decode cX3_check 67 = .ok (.ireturn, 1) := by decide +kernel
theorem dX3_rewind_0 : decode cX3_rewind 0 = .ok (.aload_n 0, 1) := by decide +kernel
theorem dX3_rewind_1 : decode cX3_rewind 1 = .ok (.iconst 0, 1) := by decide +kernel
theorem dX3_rewind_2 : decode cX3_rewind 2 = .ok (.putfield 19, 3) := by decide +kernel
theorem dX3_rewind_5 : decode cX3_rewind 5 = .ok (.aload_n 0, 1) := by decide +kernel
theorem dX3_rewind_6 : decode cX3_rewind 6 = .ok (.iconst 0, 1) := by decide +kernel
theorem dX3_rewind_7 : decode cX3_rewind 7 = .ok (.putfield 22, 3) := by decide +kernel
theorem dX3_rewind_10 : decode cX3_rewind 10 = .ok (.return_, 1) := by decide +kernel
theorem dX3_readNext_0 : decode cX3_readNext 0 = .ok (.aload_n 0, 1) := by decide +kernel
theorem dX3_readNext_1 : decode cX3_readNext 1 = .ok (.getfield 19, 3) := by decide +kernel
theorem dX3_readNext_4 : decode cX3_readNext 4 = .ok (.ifCond .le 9, 3) := by decide +kernel
theorem dX3_readNext_7 : decode cX3_readNext 7 = .ok (.aload_n 0, 1) := by decide +kernel
theorem dX3_readNext_8 : decode cX3_readNext 8 = .ok (.bipush 44, 2) := by decide +kernel
theorem dX3_readNext_10 : decode cX3_readNext 10 = .ok (.invokevirtual 53, 3) := by decide +kernel
theorem dX3_readNext_13 : decode cX3_readNext 13 = .ok (.aload_n 0, 1) := by decide +kernel
theorem dX3_readNext_14 : decode cX3_readNext 14 = .ok (.aload_n 0, 1) := by decide +kernel
theorem dX3_readNext_15 : decode cX3_readNext 15 = .ok (.invokevirtual 57, 3) := by decide +kernel
theorem dX3_readNext_18 : decode cX3_readNext 18 = .ok (.putfield 26, 3) := by decide +kernel
theorem dX3_readNext_21 : decode cX3_readNext 21 = .ok (.aload_n 0, 1) := by decide +kernel
theorem dX3_readNext_22 : decode cX3_readNext 22 = .ok (.getfield 26, 3) := by decide +kernel
theorem dX3_readNext_25 : decode cX3_readNext 25 = .ok (.tableswitch 95 98 101 #[31, 95, 75, 38], 31) := by decide +kernel
theorem dX3_readNext_56 : decode cX3_readNext 56 = .ok (.aload_n 0, 1) := by decide +kernel
theorem dX3_readNext_57 : decode cX3_readNext 57 = .ok (.invokevirtual 61, 3) := by decide +kernel
theorem dX3_readNext_60 : decode cX3_readNext 60 = .ok (.goto 66, 3) := by decide +kernel
theorem dX3_readNext_63 : decode cX3_readNext 63 = .ok (.aload_n 0, 1) := by decide +kernel
theorem dX3_readNext_64 : decode cX3_readNext 64 = .ok (.bipush 101, 2) := by decide +kernel
theorem dX3_readNext_66 : decode cX3_readNext 66 = .ok (.invokevirtual 53, 3) := by decide +kernel
theorem dX3_readNext_69 : decode cX3_readNext 69 = .ok (.aload_n 0, 1) := by decide +kernel
theorem dX3_readNext_70 : decode cX3_readNext 70 = .ok (.aload_n 0, 1) := by decide +kernel
theorem dX3_readNext_71 : decode cX3_readNext 71 = .ok (.iconst 0, 1) := by decide +kernel
theorem dX3_readNext_72 : decode cX3_readNext 72 = .ok (.bipush 15, 2) := by decide +kernel
theorem dX3_readNext_74 : decode cX3_readNext 74 = .ok (.invokevirtual 64, 3) := by decide +kernel
theorem dX3_readNext_77 : decode cX3_readNext 77 = .ok (.putfield 35, 3) := by decide +kernel
theorem dX3_readNext_80 : decode cX3_readNext 80 = .ok (.aload_n 0, 1) := by decide +kernel
theorem dX3_readNext_81 : decode cX3_readNext 81 = .ok (.bipush 58, 2) := by decide +kernel
theorem dX3_readNext_83 : decode cX3_readNext 83 = .ok (.invokevirtual 53, 3) := by decide +kernel
theorem dX3_readNext_86 : decode cX3_readNext 86 = .ok (.aload_n 0, 1) := by decide +kernel
theorem dX3_readNext_87 : decode cX3_readNext 87 = .ok (.aload_n 0, 1) := by decide +kernel
theorem dX3_readNext_88 : decode cX3_readNext 88 = .ok (.iconst 0, 1) := by decide +kernel
theorem dX3_readNext_89 : decode cX3_readNext 89 = .ok (.bipush 99, 2) := by decide +kernel
theorem dX3_readNext_91 : decode cX3_readNext 91 = .ok (.invokevirtual 64, 3) := by decide +kernel
theorem dX3_readNext_94 : decode cX3_readNext 94 = .ok (.putfield 44, 3) := by decide +kernel
theorem dX3_readNext_97 : decode cX3_readNext 97 = .ok (.goto 29, 3) := by decide +kernel
theorem dX3_readNext_100 : decode cX3_readNext 100 = .ok (.aload_n 0, 1) := by decide +kernel
theorem dX3_readNext_101 : decode cX3_readNext 101 = .ok (.bipush 100, 2) := by decide +kernel
theorem dX3_readNext_103 : decode cX3_readNext 103 = .ok (.invokevirtual 53, 3) := by decide +kernel
theorem dX3_readNext_106 : decode cX3_readNext 106 = .ok (.aload_n 0, 1) := by decide +kernel
theorem dX3_readNext_107 : decode cX3_readNext 107 = .ok (.aload_n 0, 1) := by decide +kernel
theorem dX3_readNext_108 : decode cX3_readNext 108 = .ok (.iconst 0, 1) := by decide +kernel
theorem dX3_readNext_109 : decode cX3_readNext 109 = .ok (.bipush 99, 2) := by decide +kernel
theorem dX3_readNext_111 : decode cX3_readNext 111 = .ok (.invokevirtual 64, 3) := by decide +kernel
theorem dX3_readNext_114 : decode cX3_readNext 114 = .ok (.putfield 44, 3) := by decide +kernel
theorem dX3_readNext_117 : decode cX3_readNext 117 = .ok (.goto 9, 3) := by decide +kernel
theorem dX3_readNext_120 : decode cX3_readNext 120 = .ok (.aload_n 0, 1) := by decide +kernel
theorem dX3_readNext_121 : decode cX3_readNext 121 = .ok (.bipush 110, 2) := by decide +kernel
theorem dX3_readNext_123 : decode cX3_readNext 123 = .ok (.invokevirtual 53, 3) := by decide +kernel
theorem dX3_readNext_126 : decode cX3_readNext 126 = .ok (.return_, 1) := by decide +kernel
theorem dX3_readBid_0 : decode cX3_readBid 0 = .ok (.aload_n 0, 1) := by decide +kernel
theorem dX3_readBid_1 : decode cX3_readBid 1 = .ok (.bipush 98, 2) := by decide +kernel
theorem dX3_readBid_3 : decode cX3_readBid 3 = .ok (.invokevirtual 53, 3) := by decide +kernel
theorem dX3_readBid_6 : decode cX3_readBid 6 = .ok (.aload_n 0, 1) := by decide +kernel
theorem dX3_readBid_7 : decode cX3_readBid 7 = .ok (.aload_n 0, 1) := by decide +kernel
theorem dX3_readBid_8 : decode cX3_readBid 8 = .ok (.iconst 0, 1) := by decide +kernel
theorem dX3_readBid_9 : decode cX3_readBid 9 = .ok (.iconst 5, 1) := by decide +kernel
theorem dX3_readBid_10 : decode cX3_readBid 10 = .ok (.invokevirtual 64, 3) := by decide +kernel
theorem dX3_readBid_13 : decode cX3_readBid 13 = .ok (.putfield 29, 3) := by decide +kernel
theorem dX3_readBid_16 : decode cX3_readBid 16 = .ok (.aload_n 0, 1) := by decide +kernel
theorem dX3_readBid_17 : decode cX3_readBid 17 = .ok (.bipush 99, 2) := by decide +kernel
theorem dX3_readBid_19 : decode cX3_readBid 19 = .ok (.invokevirtual 53, 3) := by decide +kernel
theorem dX3_readBid_22 : decode cX3_readBid 22 = .ok (.aload_n 0, 1) := by decide +kernel
theorem dX3_readBid_23 : decode cX3_readBid 23 = .ok (.aload_n 0, 1) := by decide +kernel
theorem dX3_readBid_24 : decode cX3_readBid 24 = .ok (.iconst 0, 1) := by decide +kernel
theorem dX3_readBid_25 : decode cX3_readBid 25 = .ok (.iconst 2, 1) := by decide +kernel
theorem dX3_readBid_26 : decode cX3_readBid 26 = .ok (.invokevirtual 64, 3) := by decide +kernel
theorem dX3_readBid_29 : decode cX3_readBid 29 = .ok (.putfield 32, 3) := by decide +kernel
theorem dX3_readBid_32 : decode cX3_readBid 32 = .ok (.aload_n 0, 1) := by decide +kernel
theorem dX3_readBid_33 : decode cX3_readBid 33 = .ok (.bipush 104, 2) := by decide +kernel
theorem dX3_readBid_35 : decode cX3_readBid 35 = .ok (.invokevirtual 53, 3) := by decide +kernel
theorem dX3_readBid_38 : decode cX3_readBid 38 = .ok (.aload_n 0, 1) := by decide +kernel
theorem dX3_readBid_39 : decode cX3_readBid 39 = .ok (.aload_n 0, 1) := by decide +kernel
theorem dX3_readBid_40 : decode cX3_readBid 40 = .ok (.iconst 0, 1) := by decide +kernel
theorem dX3_readBid_41 : decode cX3_readBid 41 = .ok (.bipush 15, 2) := by decide +kernel
theorem dX3_readBid_43 : decode cX3_readBid 43 = .ok (.invokevirtual 64, 3) := by decide +kernel
theorem dX3_readBid_46 : decode cX3_readBid 46 = .ok (.putfield 35, 3) := by decide +kernel
theorem dX3_readBid_49 : decode cX3_readBid 49 = .ok (.aload_n 0, 1) := by decide +kernel
theorem dX3_readBid_50 : decode cX3_readBid 50 = .ok (.bipush 119, 2) := by decide +kernel
theorem dX3_readBid_52 : decode cX3_readBid 52 = .ok (.invokevirtual 53, 3) := by decide +kernel
theorem dX3_readBid_55 : decode cX3_readBid 55 = .ok (.aload_n 0, 1) := by decide +kernel
theorem dX3_readBid_56 : decode cX3_readBid 56 = .ok (.aload_n 0, 1) := by decide +kernel
theorem dX3_readBid_57 : decode cX3_readBid 57 = .ok (.iconst 1, 1) := by decide +kernel
theorem dX3_readBid_58 : decode cX3_readBid 58 = .ok (.bipush 60, 2) := by decide +kernel
theorem dX3_readBid_60 : decode cX3_readBid 60 = .ok (.invokevirtual 64, 3) := by decide +kernel
theorem dX3_readBid_63 : decode cX3_readBid 63 = .ok (.putfield 38, 3) := by decide +kernel
theorem dX3_readBid_66 : decode cX3_readBid 66 = .ok (.aload_n 0, 1) := by decide +kernel
theorem dX3_readBid_67 : decode cX3_readBid 67 = .ok (.bipush 61, 2) := by decide +kernel
theorem dX3_readBid_69 : decode cX3_readBid 69 = .ok (.invokevirtual 53, 3) := by decide +kernel
theorem dX3_readBid_72 : decode cX3_readBid 72 = .ok (.aload_n 0, 1) := by decide +kernel
theorem dX3_readBid_73 : decode cX3_readBid 73 = .ok (.aload_n 0, 1) := by decide +kernel
theorem dX3_readBid_74 : decode cX3_readBid 74 = .ok (.iconst 1, 1) := by decide +kernel
theorem dX3_readBid_75 : decode cX3_readBid 75 = .ok (.sipush 999, 3) := by decide +kernel
theorem dX3_readBid_78 : decode cX3_readBid 78 = .ok (.invokevirtual 64, 3) := by decide +kernel
theorem dX3_readBid_81 : decode cX3_readBid 81 = .ok (.putfield 41, 3) := by decide +kernel
theorem dX3_readBid_84 : decode cX3_readBid 84 = .ok (.return_, 1) := by decide +kernel
theorem dX3_sign_0 : decode cX3_sign 0 = .ok (.aload_n 0, 1) := by decide +kernel
theorem dX3_sign_1 : decode cX3_sign 1 = .ok (.getfield 19, 3) := by decide +kernel
theorem dX3_sign_4 : decode cX3_sign 4 = .ok (.ifCond .lt 30, 3) := by decide +kernel
theorem dX3_sign_7 : decode cX3_sign 7 = .ok (.aload_n 0, 1) := by decide +kernel
theorem dX3_sign_8 : decode cX3_sign 8 = .ok (.getfield 19, 3) := by decide +kernel
theorem dX3_sign_11 : decode cX3_sign 11 = .ok (.aload_n 0, 1) := by decide +kernel
theorem dX3_sign_12 : decode cX3_sign 12 = .ok (.getfield 15, 3) := by decide +kernel
theorem dX3_sign_15 : decode cX3_sign 15 = .ok (.if_icmp .ge 19, 3) := by decide +kernel
theorem dX3_sign_18 : decode cX3_sign 18 = .ok (.aload_n 0, 1) := by decide +kernel
theorem dX3_sign_19 : decode cX3_sign 19 = .ok (.getfield 19, 3) := by decide +kernel
theorem dX3_sign_22 : decode cX3_sign 22 = .ok (.aload_n 0, 1) := by decide +kernel
theorem dX3_sign_23 : decode cX3_sign 23 = .ok (.getfield 11, 3) := by decide +kernel
theorem dX3_sign_26 : decode cX3_sign 26 = .ok (.arraylength, 1) := by decide +kernel
theorem dX3_sign_27 : decode cX3_sign 27 = .ok (.if_icmp .ge 7, 3) := by decide +kernel
theorem dX3_sign_30 : decode cX3_sign 30 = .ok (.iconst 1, 1) := by decide +kernel
theorem dX3_sign_31 : decode cX3_sign 31 = .ok (.goto 4, 3) := by decide +kernel
theorem dX3_sign_34 : decode cX3_sign 34 = .ok (.iconst 0, 1) := by decide +kernel
theorem dX3_sign_35 : decode cX3_sign 35 = .ok (.istore_n 1, 1) := by decide +kernel
theorem dX3_sign_36 : decode cX3_sign 36 = .ok (.iload_n 1, 1) := by decide +kernel
theorem dX3_sign_37 : decode cX3_sign 37 = .ok (.ifCond .eq 15, 3) := by decide +kernel
theorem dX3_sign_40 : decode cX3_sign 40 = .ok (.aload_n 0, 1) := by decide +kernel
theorem dX3_sign_41 : decode cX3_sign 41 = .ok (.getfield 11, 3) := by decide +kernel
theorem dX3_sign_44 : decode cX3_sign 44 = .ok (.aload_n 0, 1) := by decide +kernel
theorem dX3_sign_45 : decode cX3_sign 45 = .ok (.getfield 19, 3) := by decide +kernel
theorem dX3_sign_48 : decode cX3_sign 48 = .ok (.caload, 1) := by decide +kernel
theorem dX3_sign_49 : decode cX3_sign 49 = .ok (.goto 4, 3) := by decide +kernel
theorem dX3_sign_52 : decode cX3_sign 52 = .ok (.iconst (-1), 1) := by decide +kernel
theorem dX3_sign_53 : decode cX3_sign 53 = .ok (.ireturn, 1) := by decide +kernel
theorem dX3_take_0 : decode cX3_take 0 = .ok (.aload_n 0, 1) := by decide +kernel
theorem dX3_take_1 : decode cX3_take 1 = .ok (.invokevirtual 57, 3) := by decide +kernel
theorem dX3_take_4 : decode cX3_take 4 = .ok (.iload_n 1, 1) := by decide +kernel
theorem dX3_take_5 : decode cX3_take 5 = .ok (.if_icmp .eq 11, 3) := by decide +kernel
theorem dX3_take_8 : decode cX3_take 8 = .ok (.aload_n 0, 1) := by decide +kernel
theorem dX3_take_9 : decode cX3_take 9 = .ok (.iconst 1, 1) := by decide +kernel
theorem dX3_take_10 : decode cX3_take 10 = .ok (.putfield 22, 3) := by decide +kernel
theorem dX3_take_13 : decode cX3_take 13 = .ok (.goto 20, 3) := by decide +kernel
theorem dX3_take_16 : decode cX3_take 16 = .ok (.aload_n 0, 1) := by decide +kernel
theorem dX3_take_17 : decode cX3_take 17 = .ok (.getfield 22, 3) := by decide +kernel
theorem dX3_take_20 : decode cX3_take 20 = .ok (.ifCond .ne 13, 3) := by decide +kernel
theorem dX3_take_23 : decode cX3_take 23 = .ok (.aload_n 0, 1) := by decide +kernel
theorem dX3_take_24 : decode cX3_take 24 = .ok (.dup, 1) := by decide +kernel
theorem dX3_take_25 : decode cX3_take 25 = .ok (.getfield 19, 3) := by decide +kernel
theorem dX3_take_28 : decode cX3_take 28 = .ok (.iconst 1, 1) := by decide +kernel
theorem dX3_take_29 : decode cX3_take 29 = .ok (.iadd, 1) := by decide +kernel
theorem dX3_take_30 : decode cX3_take 30 = .ok (.putfield 19, 3) := by decide +kernel
theorem dX3_take_33 : decode cX3_take 33 = .ok (.return_, 1) := by decide +kernel
theorem dX3_number_0 : decode cX3_number 0 = .ok (.iconst 0, 1) := by decide +kernel
theorem dX3_number_1 : decode cX3_number 1 = .ok (.istore_n 3, 1) := by decide +kernel
theorem dX3_number_2 : decode cX3_number 2 = .ok (.iconst 0, 1) := by decide +kernel
theorem dX3_number_3 : decode cX3_number 3 = .ok (.istore 4, 2) := by decide +kernel
theorem dX3_number_5 : decode cX3_number 5 = .ok (.aload_n 0, 1) := by decide +kernel
theorem dX3_number_6 : decode cX3_number 6 = .ok (.getfield 22, 3) := by decide +kernel
theorem dX3_number_9 : decode cX3_number 9 = .ok (.ifCond .ne 121, 3) := by decide +kernel
theorem dX3_number_12 : decode cX3_number 12 = .ok (.iload 4, 2) := by decide +kernel
theorem dX3_number_14 : decode cX3_number 14 = .ok (.iconst 3, 1) := by decide +kernel
theorem dX3_number_15 : decode cX3_number 15 = .ok (.if_icmp .ge 115, 3) := by decide +kernel
theorem dX3_number_18 : decode cX3_number 18 = .ok (.aload_n 0, 1) := by decide +kernel
theorem dX3_number_19 : decode cX3_number 19 = .ok (.invokevirtual 57, 3) := by decide +kernel
theorem dX3_number_22 : decode cX3_number 22 = .ok (.bipush 48, 2) := by decide +kernel
theorem dX3_number_24 : decode cX3_number 24 = .ok (.isub, 1) := by decide +kernel
theorem dX3_number_25 : decode cX3_number 25 = .ok (.istore 5, 2) := by decide +kernel
theorem dX3_number_27 : decode cX3_number 27 = .ok (.iload 5, 2) := by decide +kernel
theorem dX3_number_29 : decode cX3_number 29 = .ok (.ifCond .lt 25, 3) := by decide +kernel
theorem dX3_number_32 : decode cX3_number 32 = .ok (.iload 5, 2) := by decide +kernel
theorem dX3_number_34 : decode cX3_number 34 = .ok (.bipush 9, 2) := by decide +kernel
theorem dX3_number_36 : decode cX3_number 36 = .ok (.if_icmp .gt 18, 3) := by decide +kernel
theorem dX3_number_39 : decode cX3_number 39 = .ok (.iload_n 3, 1) := by decide +kernel
theorem dX3_number_40 : decode cX3_number 40 = .ok (.bipush 10, 2) := by decide +kernel
theorem dX3_number_42 : decode cX3_number 42 = .ok (.imul, 1) := by decide +kernel
theorem dX3_number_43 : decode cX3_number 43 = .ok (.iload 5, 2) := by decide +kernel
theorem dX3_number_45 : decode cX3_number 45 = .ok (.iadd, 1) := by decide +kernel
theorem dX3_number_46 : decode cX3_number 46 = .ok (.iload_n 2, 1) := by decide +kernel
theorem dX3_number_47 : decode cX3_number 47 = .ok (.if_icmp .gt 7, 3) := by decide +kernel
theorem dX3_number_50 : decode cX3_number 50 = .ok (.iconst 1, 1) := by decide +kernel
theorem dX3_number_51 : decode cX3_number 51 = .ok (.goto 4, 3) := by decide +kernel
theorem dX3_number_54 : decode cX3_number 54 = .ok (.iconst 0, 1) := by decide +kernel
theorem dX3_number_55 : decode cX3_number 55 = .ok (.istore 6, 2) := by decide +kernel
theorem dX3_number_57 : decode cX3_number 57 = .ok (.iload 4, 2) := by decide +kernel
theorem dX3_number_59 : decode cX3_number 59 = .ok (.ifCond .ne 7, 3) := by decide +kernel
theorem dX3_number_62 : decode cX3_number 62 = .ok (.iconst 1, 1) := by decide +kernel
theorem dX3_number_63 : decode cX3_number 63 = .ok (.goto 4, 3) := by decide +kernel
theorem dX3_number_66 : decode cX3_number 66 = .ok (.iconst 0, 1) := by decide +kernel
theorem dX3_number_67 : decode cX3_number 67 = .ok (.istore 7, 2) := by decide +kernel
theorem dX3_number_69 : decode cX3_number 69 = .ok (.iload 7, 2) := by decide +kernel
theorem dX3_number_71 : decode cX3_number 71 = .ok (.ifCond .eq 17, 3) := by decide +kernel
theorem dX3_number_74 : decode cX3_number 74 = .ok (.iload 6, 2) := by decide +kernel
theorem dX3_number_76 : decode cX3_number 76 = .ok (.ifCond .eq 21, 3) := by decide +kernel
theorem dX3_number_79 : decode cX3_number 79 = .ok (.iload 5, 2) := by decide +kernel
theorem dX3_number_81 : decode cX3_number 81 = .ok (.iload_n 1, 1) := by decide +kernel
theorem dX3_number_82 : decode cX3_number 82 = .ok (.if_icmp .ge 24, 3) := by decide +kernel
theorem dX3_number_85 : decode cX3_number 85 = .ok (.goto 12, 3) := by decide +kernel
theorem dX3_number_88 : decode cX3_number 88 = .ok (.iload 6, 2) := by decide +kernel
theorem dX3_number_90 : decode cX3_number 90 = .ok (.ifCond .eq 7, 3) := by decide +kernel
theorem dX3_number_93 : decode cX3_number 93 = .ok (.iload_n 3, 1) := by decide +kernel
theorem dX3_number_94 : decode cX3_number 94 = .ok (.ifCond .ne 12, 3) := by decide +kernel
theorem dX3_number_97 : decode cX3_number 97 = .ok (.aload_n 0, 1) := by decide +kernel
theorem dX3_number_98 : decode cX3_number 98 = .ok (.iload 7, 2) := by decide +kernel
theorem dX3_number_100 : decode cX3_number 100 = .ok (.putfield 22, 3) := by decide +kernel
theorem dX3_number_103 : decode cX3_number 103 = .ok (.goto 27, 3) := by decide +kernel
theorem dX3_number_106 : decode cX3_number 106 = .ok (.iload_n 3, 1) := by decide +kernel
theorem dX3_number_107 : decode cX3_number 107 = .ok (.bipush 10, 2) := by decide +kernel
theorem dX3_number_109 : decode cX3_number 109 = .ok (.imul, 1) := by decide +kernel
theorem dX3_number_110 : decode cX3_number 110 = .ok (.iload 5, 2) := by decide +kernel
theorem dX3_number_112 : decode cX3_number 112 = .ok (.iadd, 1) := by decide +kernel
theorem dX3_number_113 : decode cX3_number 113 = .ok (.istore_n 3, 1) := by decide +kernel
theorem dX3_number_114 : decode cX3_number 114 = .ok (.aload_n 0, 1) := by decide +kernel
theorem dX3_number_115 : decode cX3_number 115 = .ok (.dup, 1) := by decide +kernel
theorem dX3_number_116 : decode cX3_number 116 = .ok (.getfield 19, 3) := by decide +kernel
theorem dX3_number_119 : decode cX3_number 119 = .ok (.iconst 1, 1) := by decide +kernel
theorem dX3_number_120 : decode cX3_number 120 = .ok (.iadd, 1) := by decide +kernel
theorem dX3_number_121 : decode cX3_number 121 = .ok (.putfield 19, 3) := by decide +kernel
theorem dX3_number_124 : decode cX3_number 124 = .ok (.iinc 4 1, 3) := by decide +kernel
theorem dX3_number_127 : decode cX3_number 127 = .ok (.goto (-122), 3) := by decide +kernel
theorem dX3_number_130 : decode cX3_number 130 = .ok (.iload_n 3, 1) := by decide +kernel
theorem dX3_number_131 : decode cX3_number 131 = .ok (.ireturn, 1) := by decide +kernel
theorem dX4_at_0 : decode cX4_at 0 = .ok (.aload_n 0, 1) := by decide +kernel
theorem dX4_at_1 : decode cX4_at 1 = .ok (.ifnull 19, 3) := by decide +kernel
theorem dX4_at_4 : decode cX4_at 4 = .ok (.iload_n 1, 1) := by decide +kernel
theorem dX4_at_5 : decode cX4_at 5 = .ok (.ifCond .lt 15, 3) := by decide +kernel
theorem dX4_at_8 : decode cX4_at 8 = .ok (.iload_n 1, 1) := by decide +kernel
theorem dX4_at_9 : decode cX4_at 9 = .ok (.aload_n 0, 1) := by decide +kernel
theorem dX4_at_10 : decode cX4_at 10 = .ok (.arraylength, 1) := by decide +kernel
theorem dX4_at_11 : decode cX4_at 11 = .ok (.if_icmp .ge 9, 3) := by decide +kernel
theorem dX4_at_14 : decode cX4_at 14 = .ok (.aload_n 0, 1) := by decide +kernel
theorem dX4_at_15 : decode cX4_at 15 = .ok (.iload_n 1, 1) := by decide +kernel
theorem dX4_at_16 : decode cX4_at 16 = .ok (.iaload, 1) := by decide +kernel
theorem dX4_at_17 : decode cX4_at 17 = .ok (.goto 4, 3) := by decide +kernel
theorem dX4_at_20 : decode cX4_at 20 = .ok (.iconst 0, 1) := by decide +kernel
theorem dX4_at_21 : decode cX4_at 21 = .ok (.ireturn, 1) := by decide +kernel
theorem dX4_put_0 : decode cX4_put 0 = .ok (.aload_n 0, 1) := by decide +kernel
theorem dX4_put_1 : decode cX4_put 1 = .ok (.ifnull 17, 3) := by decide +kernel
theorem dX4_put_4 : decode cX4_put 4 = .ok (.iload_n 1, 1) := by decide +kernel
theorem dX4_put_5 : decode cX4_put 5 = .ok (.ifCond .lt 13, 3) := by decide +kernel
theorem dX4_put_8 : decode cX4_put 8 = .ok (.iload_n 1, 1) := by decide +kernel
theorem dX4_put_9 : decode cX4_put 9 = .ok (.aload_n 0, 1) := by decide +kernel
theorem dX4_put_10 : decode cX4_put 10 = .ok (.arraylength, 1) := by decide +kernel
theorem dX4_put_11 : decode cX4_put 11 = .ok (.if_icmp .ge 7, 3) := by decide +kernel
theorem dX4_put_14 : decode cX4_put 14 = .ok (.aload_n 0, 1) := by decide +kernel
theorem dX4_put_15 : decode cX4_put 15 = .ok (.iload_n 1, 1) := by decide +kernel
theorem dX4_put_16 : decode cX4_put 16 = .ok (.iload_n 2, 1) := by decide +kernel
theorem dX4_put_17 : decode cX4_put 17 = .ok (.iastore, 1) := by decide +kernel
theorem dX4_put_18 : decode cX4_put 18 = .ok (.return_, 1) := by decide +kernel
theorem dX4_add_0 : decode cX4_add 0 = .ok (.aload_n 0, 1) := by decide +kernel
theorem dX4_add_1 : decode cX4_add 1 = .ok (.ifnull 20, 3) := by decide +kernel
theorem dX4_add_4 : decode cX4_add 4 = .ok (.iload_n 1, 1) := by decide +kernel
theorem dX4_add_5 : decode cX4_add 5 = .ok (.ifCond .lt 16, 3) := by decide +kernel
theorem dX4_add_8 : decode cX4_add 8 = .ok (.iload_n 1, 1) := by decide +kernel
theorem dX4_add_9 : decode cX4_add 9 = .ok (.aload_n 0, 1) := by decide +kernel
theorem dX4_add_10 : decode cX4_add 10 = .ok (.arraylength, 1) := by decide +kernel
theorem dX4_add_11 : decode cX4_add 11 = .ok (.if_icmp .ge 10, 3) := by decide +kernel
theorem dX4_add_14 : decode cX4_add 14 = .ok (.aload_n 0, 1) := by decide +kernel
theorem dX4_add_15 : decode cX4_add 15 = .ok (.iload_n 1, 1) := by decide +kernel
theorem dX4_add_16 : decode cX4_add 16 = .ok (.dup2, 1) := by decide +kernel
theorem dX4_add_17 : decode cX4_add 17 = .ok (.iaload, 1) := by decide +kernel
theorem dX4_add_18 : decode cX4_add 18 = .ok (.iload_n 2, 1) := by decide +kernel
theorem dX4_add_19 : decode cX4_add 19 = .ok (.iadd, 1) := by decide +kernel
theorem dX4_add_20 : decode cX4_add 20 = .ok (.iastore, 1) := by decide +kernel
theorem dX4_add_21 : decode cX4_add 21 = .ok (.return_, 1) := by decide +kernel
theorem dX4_sum_0 : decode cX4_sum 0 = .ok (.iconst 0, 1) := by decide +kernel
theorem dX4_sum_1 : decode cX4_sum 1 = .ok (.istore_n 1, 1) := by decide +kernel
theorem dX4_sum_2 : decode cX4_sum 2 = .ok (.aload_n 0, 1) := by decide +kernel
theorem dX4_sum_3 : decode cX4_sum 3 = .ok (.ifnull 23, 3) := by decide +kernel
theorem dX4_sum_6 : decode cX4_sum 6 = .ok (.iconst 0, 1) := by decide +kernel
theorem dX4_sum_7 : decode cX4_sum 7 = .ok (.istore_n 2, 1) := by decide +kernel
theorem dX4_sum_8 : decode cX4_sum 8 = .ok (.iload_n 2, 1) := by decide +kernel
theorem dX4_sum_9 : decode cX4_sum 9 = .ok (.aload_n 0, 1) := by decide +kernel
theorem dX4_sum_10 : decode cX4_sum 10 = .ok (.arraylength, 1) := by decide +kernel
theorem dX4_sum_11 : decode cX4_sum 11 = .ok (.if_icmp .ge 15, 3) := by decide +kernel
theorem dX4_sum_14 : decode cX4_sum 14 = .ok (.iload_n 1, 1) := by decide +kernel
theorem dX4_sum_15 : decode cX4_sum 15 = .ok (.aload_n 0, 1) := by decide +kernel
theorem dX4_sum_16 : decode cX4_sum 16 = .ok (.iload_n 2, 1) := by decide +kernel
theorem dX4_sum_17 : decode cX4_sum 17 = .ok (.iaload, 1) := by decide +kernel
theorem dX4_sum_18 : decode cX4_sum 18 = .ok (.iadd, 1) := by decide +kernel
theorem dX4_sum_19 : decode cX4_sum 19 = .ok (.istore_n 1, 1) := by decide +kernel
theorem dX4_sum_20 : decode cX4_sum 20 = .ok (.iinc 2 1, 3) := by decide +kernel
theorem dX4_sum_23 : decode cX4_sum 23 = .ok (.goto (-15), 3) := by decide +kernel
theorem dX4_sum_26 : decode cX4_sum 26 = .ok (.iload_n 1, 1) := by decide +kernel
theorem dX4_sum_27 : decode cX4_sum 27 = .ok (.ireturn, 1) := by decide +kernel
theorem dX4_fill_0 : decode cX4_fill 0 = .ok (.aload_n 0, 1) := by decide +kernel
theorem dX4_fill_1 : decode cX4_fill 1 = .ok (.ifnull 21, 3) := by decide +kernel
theorem dX4_fill_4 : decode cX4_fill 4 = .ok (.iconst 0, 1) := by decide +kernel
theorem dX4_fill_5 : decode cX4_fill 5 = .ok (.istore_n 2, 1) := by decide +kernel
theorem dX4_fill_6 : decode cX4_fill 6 = .ok (.iload_n 2, 1) := by decide +kernel
theorem dX4_fill_7 : decode cX4_fill 7 = .ok (.aload_n 0, 1) := by decide +kernel
theorem dX4_fill_8 : decode cX4_fill 8 = .ok (.arraylength, 1) := by decide +kernel
theorem dX4_fill_9 : decode cX4_fill 9 = .ok (.if_icmp .ge 13, 3) := by decide +kernel
theorem dX4_fill_12 : decode cX4_fill 12 = .ok (.aload_n 0, 1) := by decide +kernel
theorem dX4_fill_13 : decode cX4_fill 13 = .ok (.iload_n 2, 1) := by decide +kernel
theorem dX4_fill_14 : decode cX4_fill 14 = .ok (.iload_n 1, 1) := by decide +kernel
theorem dX4_fill_15 : decode cX4_fill 15 = .ok (.iastore, 1) := by decide +kernel
theorem dX4_fill_16 : decode cX4_fill 16 = .ok (.iinc 2 1, 3) := by decide +kernel
theorem dX4_fill_19 : decode cX4_fill 19 = .ok (.goto (-13), 3) := by decide +kernel
theorem dX4_fill_22 : decode cX4_fill 22 = .ok (.return_, 1) := by decide +kernel
theorem dX4_copy_0 : decode cX4_copy 0 = .ok (.aload_n 0, 1) := by decide +kernel
theorem dX4_copy_1 : decode cX4_copy 1 = .ok (.ifnull 21, 3) := by decide +kernel
theorem dX4_copy_4 : decode cX4_copy 4 = .ok (.aload_n 1, 1) := by decide +kernel
theorem dX4_copy_5 : decode cX4_copy 5 = .ok (.ifnull 17, 3) := by decide +kernel
theorem dX4_copy_8 : decode cX4_copy 8 = .ok (.aload_n 0, 1) := by decide +kernel
theorem dX4_copy_9 : decode cX4_copy 9 = .ok (.iconst 0, 1) := by decide +kernel
theorem dX4_copy_10 : decode cX4_copy 10 = .ok (.aload_n 1, 1) := by decide +kernel
theorem dX4_copy_11 : decode cX4_copy 11 = .ok (.iconst 0, 1) := by decide +kernel
theorem dX4_copy_12 : decode cX4_copy 12 = .ok (.aload_n 0, 1) := by decide +kernel
theorem dX4_copy_13 : decode cX4_copy 13 = .ok (.arraylength, 1) := by decide +kernel
theorem dX4_copy_14 : decode cX4_copy 14 = .ok (.aload_n 1, 1) := by decide +kernel
theorem dX4_copy_15 : decode cX4_copy 15 = .ok (.arraylength, 1) := by decide +kernel
theorem dX4_copy_16 : decode cX4_copy 16 = .ok (.invokestatic 7, 3) := by decide +kernel
theorem dX4_copy_19 : decode cX4_copy 19 = .ok (.invokestatic 13, 3) := by decide +kernel
theorem dX4_copy_22 : decode cX4_copy 22 = .ok (.return_, 1) := by decide +kernel
theorem dX5_init_0 : decode cX5_init 0 = .ok (.aload_n 0, 1) := by decide +kernel
theorem dX5_init_1 : decode cX5_init 1 = .ok (.invokespecial 3, 3) := by decide +kernel
theorem dX5_init_4 : decode cX5_init 4 = .ok (.aload_n 0, 1) := by decide +kernel
theorem dX5_init_5 : decode cX5_init 5 = .ok (.bipush 48, 2) := by decide +kernel
theorem dX5_init_7 : decode cX5_init 7 = .ok (.newarray .int, 2) := by decide +kernel
theorem dX5_init_9 : decode cX5_init 9 = .ok (.putfield 9, 3) := by decide +kernel
theorem dX5_init_12 : decode cX5_init 12 = .ok (.aload_n 0, 1) := by decide +kernel
theorem dX5_init_13 : decode cX5_init 13 = .ok (.bipush 48, 2) := by decide +kernel
theorem dX5_init_15 : decode cX5_init 15 = .ok (.newarray .int, 2) := by decide +kernel
theorem dX5_init_17 : decode cX5_init 17 = .ok (.putfield 15, 3) := by decide +kernel
theorem dX5_init_20 : decode cX5_init 20 = .ok (.aload_n 0, 1) := by decide +kernel
theorem dX5_init_21 : decode cX5_init 21 = .ok (.bipush 48, 2) := by decide +kernel
theorem dX5_init_23 : decode cX5_init 23 = .ok (.newarray .int, 2) := by decide +kernel
theorem dX5_init_25 : decode cX5_init 25 = .ok (.putfield 18, 3) := by decide +kernel
theorem dX5_init_28 : decode cX5_init 28 = .ok (.aload_n 0, 1) := by decide +kernel
theorem dX5_init_29 : decode cX5_init 29 = .ok (.bipush 48, 2) := by decide +kernel
theorem dX5_init_31 : decode cX5_init 31 = .ok (.newarray .int, 2) := by decide +kernel
theorem dX5_init_33 : decode cX5_init 33 = .ok (.putfield 21, 3) := by decide +kernel
theorem dX5_init_36 : decode cX5_init 36 = .ok (.aload_n 0, 1) := by decide +kernel
theorem dX5_init_37 : decode cX5_init 37 = .ok (.getfield 9, 3) := by decide +kernel
theorem dX5_init_40 : decode cX5_init 40 = .ok (.bipush (-5), 2) := by decide +kernel
theorem dX5_init_42 : decode cX5_init 42 = .ok (.invokestatic 24, 3) := by decide +kernel
theorem dX5_init_45 : decode cX5_init 45 = .ok (.return_, 1) := by decide +kernel
theorem dX5_copy_0 : decode cX5_copy 0 = .ok (.aload_n 1, 1) := by decide +kernel
theorem dX5_copy_1 : decode cX5_copy 1 = .ok (.getfield 9, 3) := by decide +kernel
theorem dX5_copy_4 : decode cX5_copy 4 = .ok (.aload_n 0, 1) := by decide +kernel
theorem dX5_copy_5 : decode cX5_copy 5 = .ok (.getfield 9, 3) := by decide +kernel
theorem dX5_copy_8 : decode cX5_copy 8 = .ok (.invokestatic 30, 3) := by decide +kernel
theorem dX5_copy_11 : decode cX5_copy 11 = .ok (.aload_n 1, 1) := by decide +kernel
theorem dX5_copy_12 : decode cX5_copy 12 = .ok (.getfield 15, 3) := by decide +kernel
theorem dX5_copy_15 : decode cX5_copy 15 = .ok (.aload_n 0, 1) := by decide +kernel
theorem dX5_copy_16 : decode cX5_copy 16 = .ok (.getfield 15, 3) := by decide +kernel
theorem dX5_copy_19 : decode cX5_copy 19 = .ok (.invokestatic 30, 3) := by decide +kernel
theorem dX5_copy_22 : decode cX5_copy 22 = .ok (.aload_n 1, 1) := by decide +kernel
theorem dX5_copy_23 : decode cX5_copy 23 = .ok (.getfield 18, 3) := by decide +kernel
theorem dX5_copy_26 : decode cX5_copy 26 = .ok (.aload_n 0, 1) := by decide +kernel
theorem dX5_copy_27 : decode cX5_copy 27 = .ok (.getfield 18, 3) := by decide +kernel
theorem dX5_copy_30 : decode cX5_copy 30 = .ok (.invokestatic 30, 3) := by decide +kernel
theorem dX5_copy_33 : decode cX5_copy 33 = .ok (.aload_n 1, 1) := by decide +kernel
theorem dX5_copy_34 : decode cX5_copy 34 = .ok (.getfield 21, 3) := by decide +kernel
theorem dX5_copy_37 : decode cX5_copy 37 = .ok (.aload_n 0, 1) := by decide +kernel
theorem dX5_copy_38 : decode cX5_copy 38 = .ok (.getfield 21, 3) := by decide +kernel
theorem dX5_copy_41 : decode cX5_copy 41 = .ok (.invokestatic 30, 3) := by decide +kernel
theorem dX5_copy_44 : decode cX5_copy 44 = .ok (.return_, 1) := by decide +kernel
theorem dX5_clear_0 : decode cX5_clear 0 = .ok (.aload_n 0, 1) := by decide +kernel
theorem dX5_clear_1 : decode cX5_clear 1 = .ok (.getfield 9, 3) := by decide +kernel
theorem dX5_clear_4 : decode cX5_clear 4 = .ok (.bipush (-5), 2) := by decide +kernel
theorem dX5_clear_6 : decode cX5_clear 6 = .ok (.invokestatic 24, 3) := by decide +kernel
theorem dX5_clear_9 : decode cX5_clear 9 = .ok (.aload_n 0, 1) := by decide +kernel
theorem dX5_clear_10 : decode cX5_clear 10 = .ok (.getfield 15, 3) := by decide +kernel
theorem dX5_clear_13 : decode cX5_clear 13 = .ok (.iconst 0, 1) := by decide +kernel
theorem dX5_clear_14 : decode cX5_clear 14 = .ok (.invokestatic 24, 3) := by decide +kernel
theorem dX5_clear_17 : decode cX5_clear 17 = .ok (.aload_n 0, 1) := by decide +kernel
theorem dX5_clear_18 : decode cX5_clear 18 = .ok (.getfield 18, 3) := by decide +kernel
theorem dX5_clear_21 : decode cX5_clear 21 = .ok (.iconst 0, 1) := by decide +kernel
theorem dX5_clear_22 : decode cX5_clear 22 = .ok (.invokestatic 24, 3) := by decide +kernel
theorem dX5_clear_25 : decode cX5_clear 25 = .ok (.aload_n 0, 1) := by decide +kernel
theorem dX5_clear_26 : decode cX5_clear 26 = .ok (.getfield 21, 3) := by decide +kernel
theorem dX5_clear_29 : decode cX5_clear 29 = .ok (.iconst 0, 1) := by decide +kernel
theorem dX5_clear_30 : decode cX5_clear 30 = .ok (.invokestatic 24, 3) := by decide +kernel
theorem dX5_clear_33 : decode cX5_clear 33 = .ok (.return_, 1) := by decide +kernel
theorem dX5_ownerOf_0 : decode cX5_ownerOf 0 = .ok (.aload_n 0, 1) := by decide +kernel
theorem dX5_ownerOf_1 : decode cX5_ownerOf 1 = .ok (.getfield 9, 3) := by decide +kernel
theorem dX5_ownerOf_4 : decode cX5_ownerOf 4 = .ok (.iload_n 1, 1) := by decide +kernel
theorem dX5_ownerOf_5 : decode cX5_ownerOf 5 = .ok (.invokestatic 34, 3) := by decide +kernel
theorem dX5_ownerOf_8 : decode cX5_ownerOf 8 = .ok (.ireturn, 1) := by decide +kernel
theorem dX5_isAwarded_0 : decode cX5_isAwarded 0 = .ok (.aload_n 0, 1) := by decide +kernel
theorem dX5_isAwarded_1 : decode cX5_isAwarded 1 = .ok (.getfield 9, 3) := by decide +kernel
theorem dX5_isAwarded_4 : decode cX5_isAwarded 4 = .ok (.iload_n 1, 1) := by decide +kernel
theorem dX5_isAwarded_5 : decode cX5_isAwarded 5 = .ok (.invokestatic 34, 3) := by decide +kernel
theorem dX5_isAwarded_8 : decode cX5_isAwarded 8 = .ok (.bipush (-5), 2) := by decide +kernel
theorem dX5_isAwarded_10 : decode cX5_isAwarded 10 = .ok (.if_icmp .eq 7, 3) := by decide +kernel
theorem dX5_isAwarded_13 : decode cX5_isAwarded 13 = .ok (.iconst 1, 1) := by decide +kernel
theorem dX5_isAwarded_14 : decode cX5_isAwarded 14 = .ok (.goto 4, 3) := by decide +kernel
theorem dX5_isAwarded_17 : decode cX5_isAwarded 17 = .ok (.iconst 0, 1) := by decide +kernel
theorem dX5_isAwarded_18 : decode cX5_isAwarded 18 = .ok (.ireturn, 1) := by decide +kernel
theorem dX5_give_0 : decode cX5_give 0 = .ok (.aload_n 0, 1) := by decide +kernel
theorem dX5_give_1 : decode cX5_give 1 = .ok (.getfield 9, 3) := by decide +kernel
theorem dX5_give_4 : decode cX5_give 4 = .ok (.iload_n 1, 1) := by decide +kernel
theorem dX5_give_5 : decode cX5_give 5 = .ok (.iload_n 2, 1) := by decide +kernel
theorem dX5_give_6 : decode cX5_give 6 = .ok (.invokestatic 38, 3) := by decide +kernel
theorem dX5_give_9 : decode cX5_give 9 = .ok (.aload_n 0, 1) := by decide +kernel
theorem dX5_give_10 : decode cX5_give 10 = .ok (.getfield 15, 3) := by decide +kernel
theorem dX5_give_13 : decode cX5_give 13 = .ok (.iload_n 1, 1) := by decide +kernel
theorem dX5_give_14 : decode cX5_give 14 = .ok (.iload_n 3, 1) := by decide +kernel
theorem dX5_give_15 : decode cX5_give 15 = .ok (.invokestatic 38, 3) := by decide +kernel
theorem dX5_give_18 : decode cX5_give 18 = .ok (.return_, 1) := by decide +kernel
theorem dX6_init_0 : decode cX6_init 0 = .ok (.aload_n 0, 1) := by decide +kernel
theorem dX6_init_1 : decode cX6_init 1 = .ok (.invokespecial 3, 3) := by decide +kernel
theorem dX6_init_4 : decode cX6_init 4 = .ok (.aload_n 0, 1) := by decide +kernel
theorem dX6_init_5 : decode cX6_init 5 = .ok (.iconst 0, 1) := by decide +kernel
theorem dX6_init_6 : decode cX6_init 6 = .ok (.putfield 9, 3) := by decide +kernel
theorem dX6_init_9 : decode cX6_init 9 = .ok (.aload_n 0, 1) := by decide +kernel
theorem dX6_init_10 : decode cX6_init 10 = .ok (.iconst 0, 1) := by decide +kernel
theorem dX6_init_11 : decode cX6_init 11 = .ok (.putfield 15, 3) := by decide +kernel
theorem dX6_init_14 : decode cX6_init 14 = .ok (.aload_n 0, 1) := by decide +kernel
theorem dX6_init_15 : decode cX6_init 15 = .ok (.bipush 16, 2) := by decide +kernel
theorem dX6_init_17 : decode cX6_init 17 = .ok (.newarray .int, 2) := by decide +kernel
theorem dX6_init_19 : decode cX6_init 19 = .ok (.putfield 18, 3) := by decide +kernel
theorem dX6_init_22 : decode cX6_init 22 = .ok (.aload_n 0, 1) := by decide +kernel
theorem dX6_init_23 : decode cX6_init 23 = .ok (.bipush 16, 2) := by decide +kernel
theorem dX6_init_25 : decode cX6_init 25 = .ok (.newarray .int, 2) := by decide +kernel
theorem dX6_init_27 : decode cX6_init 27 = .ok (.putfield 22, 3) := by decide +kernel
theorem dX6_init_30 : decode cX6_init 30 = .ok (.aload_n 0, 1) := by decide +kernel
theorem dX6_init_31 : decode cX6_init 31 = .ok (.new 25, 3) := by decide +kernel
theorem dX6_init_34 : decode cX6_init 34 = .ok (.dup, 1) := by decide +kernel
theorem dX6_init_35 : decode cX6_init 35 = .ok (.invokespecial 27, 3) := by decide +kernel
theorem dX6_init_38 : decode cX6_init 38 = .ok (.putfield 28, 3) := by decide +kernel
theorem dX6_init_41 : decode cX6_init 41 = .ok (.aload_n 0, 1) := by decide +kernel
theorem dX6_init_42 : decode cX6_init 42 = .ok (.new 32, 3) := by decide +kernel
theorem dX6_init_45 : decode cX6_init 45 = .ok (.dup, 1) := by decide +kernel
theorem dX6_init_46 : decode cX6_init 46 = .ok (.invokespecial 34, 3) := by decide +kernel
theorem dX6_init_49 : decode cX6_init 49 = .ok (.putfield 35, 3) := by decide +kernel
theorem dX6_init_52 : decode cX6_init 52 = .ok (.aload_n 0, 1) := by decide +kernel
theorem dX6_init_53 : decode cX6_init 53 = .ok (.new 39, 3) := by decide +kernel
theorem dX6_init_56 : decode cX6_init 56 = .ok (.dup, 1) := by decide +kernel
theorem dX6_init_57 : decode cX6_init 57 = .ok (.invokespecial 41, 3) := by decide +kernel
theorem dX6_init_60 : decode cX6_init 60 = .ok (.putfield 42, 3) := by decide +kernel
theorem dX6_init_63 : decode cX6_init 63 = .ok (.aload_n 0, 1) := by decide +kernel
theorem dX6_init_64 : decode cX6_init 64 = .ok (.new 46, 3) := by decide +kernel
theorem dX6_init_67 : decode cX6_init 67 = .ok (.dup, 1) := by decide +kernel
theorem dX6_init_68 : decode cX6_init 68 = .ok (.invokespecial 48, 3) := by decide +kernel
theorem dX6_init_71 : decode cX6_init 71 = .ok (.putfield 49, 3) := by decide +kernel
theorem dX6_init_74 : decode cX6_init 74 = .ok (.aload_n 0, 1) := by decide +kernel
theorem dX6_init_75 : decode cX6_init 75 = .ok (.getfield 18, 3) := by decide +kernel
theorem dX6_init_78 : decode cX6_init 78 = .ok (.bipush 20, 2) := by decide +kernel
theorem dX6_init_80 : decode cX6_init 80 = .ok (.invokestatic 53, 3) := by decide +kernel
theorem dX6_init_83 : decode cX6_init 83 = .ok (.return_, 1) := by decide +kernel
theorem dX6_copy_0 : decode cX6_copy 0 = .ok (.aload_n 0, 1) := by decide +kernel
theorem dX6_copy_1 : decode cX6_copy 1 = .ok (.aload_n 1, 1) := by decide +kernel
theorem dX6_copy_2 : decode cX6_copy 2 = .ok (.getfield 9, 3) := by decide +kernel
theorem dX6_copy_5 : decode cX6_copy 5 = .ok (.putfield 9, 3) := by decide +kernel
theorem dX6_copy_8 : decode cX6_copy 8 = .ok (.aload_n 0, 1) := by decide +kernel
theorem dX6_copy_9 : decode cX6_copy 9 = .ok (.aload_n 1, 1) := by decide +kernel
theorem dX6_copy_10 : decode cX6_copy 10 = .ok (.getfield 15, 3) := by decide +kernel
theorem dX6_copy_13 : decode cX6_copy 13 = .ok (.putfield 15, 3) := by decide +kernel
theorem dX6_copy_16 : decode cX6_copy 16 = .ok (.aload_n 1, 1) := by decide +kernel
theorem dX6_copy_17 : decode cX6_copy 17 = .ok (.getfield 18, 3) := by decide +kernel
theorem dX6_copy_20 : decode cX6_copy 20 = .ok (.aload_n 0, 1) := by decide +kernel
theorem dX6_copy_21 : decode cX6_copy 21 = .ok (.getfield 18, 3) := by decide +kernel
theorem dX6_copy_24 : decode cX6_copy 24 = .ok (.invokestatic 59, 3) := by decide +kernel
theorem dX6_copy_27 : decode cX6_copy 27 = .ok (.aload_n 1, 1) := by decide +kernel
theorem dX6_copy_28 : decode cX6_copy 28 = .ok (.getfield 22, 3) := by decide +kernel
theorem dX6_copy_31 : decode cX6_copy 31 = .ok (.aload_n 0, 1) := by decide +kernel
theorem dX6_copy_32 : decode cX6_copy 32 = .ok (.getfield 22, 3) := by decide +kernel
theorem dX6_copy_35 : decode cX6_copy 35 = .ok (.invokestatic 59, 3) := by decide +kernel
theorem dX6_copy_38 : decode cX6_copy 38 = .ok (.aload_n 0, 1) := by decide +kernel
theorem dX6_copy_39 : decode cX6_copy 39 = .ok (.getfield 28, 3) := by decide +kernel
theorem dX6_copy_42 : decode cX6_copy 42 = .ok (.aload_n 1, 1) := by decide +kernel
theorem dX6_copy_43 : decode cX6_copy 43 = .ok (.getfield 28, 3) := by decide +kernel
theorem dX6_copy_46 : decode cX6_copy 46 = .ok (.invokevirtual 63, 3) := by decide +kernel
theorem dX6_copy_49 : decode cX6_copy 49 = .ok (.aload_n 0, 1) := by decide +kernel
theorem dX6_copy_50 : decode cX6_copy 50 = .ok (.getfield 35, 3) := by decide +kernel
theorem dX6_copy_53 : decode cX6_copy 53 = .ok (.aload_n 1, 1) := by decide +kernel
theorem dX6_copy_54 : decode cX6_copy 54 = .ok (.getfield 35, 3) := by decide +kernel
theorem dX6_copy_57 : decode cX6_copy 57 = .ok (.invokevirtual 66, 3) := by decide +kernel
theorem dX6_copy_60 : decode cX6_copy 60 = .ok (.aload_n 0, 1) := by decide +kernel
theorem dX6_copy_61 : decode cX6_copy 61 = .ok (.getfield 42, 3) := by decide +kernel
theorem dX6_copy_64 : decode cX6_copy 64 = .ok (.aload_n 1, 1) := by decide +kernel
theorem dX6_copy_65 : decode cX6_copy 65 = .ok (.getfield 42, 3) := by decide +kernel
theorem dX6_copy_68 : decode cX6_copy 68 = .ok (.invokevirtual 69, 3) := by decide +kernel
theorem dX6_copy_71 : decode cX6_copy 71 = .ok (.aload_n 0, 1) := by decide +kernel
theorem dX6_copy_72 : decode cX6_copy 72 = .ok (.getfield 49, 3) := by decide +kernel
theorem dX6_copy_75 : decode cX6_copy 75 = .ok (.aload_n 1, 1) := by decide +kernel
theorem dX6_copy_76 : decode cX6_copy 76 = .ok (.getfield 49, 3) := by decide +kernel
theorem dX6_copy_79 : decode cX6_copy 79 = .ok (.invokevirtual 72, 3) := by decide +kernel
theorem dX6_copy_82 : decode cX6_copy 82 = .ok (.return_, 1) := by decide +kernel
theorem dX6_isOver_0 : decode cX6_isOver 0 = .ok (.iload_n 1, 1) := by decide +kernel
theorem dX6_isOver_1 : decode cX6_isOver 1 = .ok (.aload_n 0, 1) := by decide +kernel
theorem dX6_isOver_2 : decode cX6_isOver 2 = .ok (.getfield 15, 3) := by decide +kernel
theorem dX6_isOver_5 : decode cX6_isOver 5 = .ok (.if_icmp .ge 7, 3) := by decide +kernel
theorem dX6_isOver_8 : decode cX6_isOver 8 = .ok (.iconst 1, 1) := by decide +kernel
theorem dX6_isOver_9 : decode cX6_isOver 9 = .ok (.goto 4, 3) := by decide +kernel
theorem dX6_isOver_12 : decode cX6_isOver 12 = .ok (.iconst 0, 1) := by decide +kernel
theorem dX6_isOver_13 : decode cX6_isOver 13 = .ok (.ireturn, 1) := by decide +kernel
theorem dX6_isOpen_0 : decode cX6_isOpen 0 = .ok (.aload_n 0, 1) := by decide +kernel
theorem dX6_isOpen_1 : decode cX6_isOpen 1 = .ok (.iload_n 2, 1) := by decide +kernel
theorem dX6_isOpen_2 : decode cX6_isOpen 2 = .ok (.invokevirtual 75, 3) := by decide +kernel
theorem dX6_isOpen_5 : decode cX6_isOpen 5 = .ok (.ifCond .ne 22, 3) := by decide +kernel
theorem dX6_isOpen_8 : decode cX6_isOpen 8 = .ok (.aload_n 0, 1) := by decide +kernel
theorem dX6_isOpen_9 : decode cX6_isOpen 9 = .ok (.getfield 35, 3) := by decide +kernel
theorem dX6_isOpen_12 : decode cX6_isOpen 12 = .ok (.iload_n 1, 1) := by decide +kernel
theorem dX6_isOpen_13 : decode cX6_isOpen 13 = .ok (.iload_n 2, 1) := by decide +kernel
theorem dX6_isOpen_14 : decode cX6_isOpen 14 = .ok (.invokestatic 79, 3) := by decide +kernel
theorem dX6_isOpen_17 : decode cX6_isOpen 17 = .ok (.invokevirtual 83, 3) := by decide +kernel
theorem dX6_isOpen_20 : decode cX6_isOpen 20 = .ok (.ifCond .ne 7, 3) := by decide +kernel
theorem dX6_isOpen_23 : decode cX6_isOpen 23 = .ok (.iconst 1, 1) := by decide +kernel
theorem dX6_isOpen_24 : decode cX6_isOpen 24 = .ok (.goto 4, 3) := by decide +kernel
theorem dX6_isOpen_27 : decode cX6_isOpen 27 = .ok (.iconst 0, 1) := by decide +kernel
theorem dX6_isOpen_28 : decode cX6_isOpen 28 = .ok (.ireturn, 1) := by decide +kernel
theorem dX6_heaviestLift_0 : decode cX6_heaviestLift 0 = .ok (.iload_n 1, 1) := by decide +kernel
theorem dX6_heaviestLift_1 : decode cX6_heaviestLift 1 = .ok (.aload_n 0, 1) := by decide +kernel
theorem dX6_heaviestLift_2 : decode cX6_heaviestLift 2 = .ok (.getfield 18, 3) := by decide +kernel
theorem dX6_heaviestLift_5 : decode cX6_heaviestLift 5 = .ok (.iload_n 2, 1) := by decide +kernel
theorem dX6_heaviestLift_6 : decode cX6_heaviestLift 6 = .ok (.invokestatic 86, 3) := by decide +kernel
theorem dX6_heaviestLift_9 : decode cX6_heaviestLift 9 = .ok (.invokestatic 90, 3) := by decide +kernel
theorem dX6_heaviestLift_12 : decode cX6_heaviestLift 12 = .ok (.ireturn, 1) := by decide +kernel
theorem dX6_freeCoins_0 : decode cX6_freeCoins 0 = .ok (.aload_n 0, 1) := by decide +kernel
theorem dX6_freeCoins_1 : decode cX6_freeCoins 1 = .ok (.getfield 42, 3) := by decide +kernel
theorem dX6_freeCoins_4 : decode cX6_freeCoins 4 = .ok (.getfield 93, 3) := by decide +kernel
theorem dX6_freeCoins_7 : decode cX6_freeCoins 7 = .ok (.iload_n 1, 1) := by decide +kernel
theorem dX6_freeCoins_8 : decode cX6_freeCoins 8 = .ok (.invokestatic 86, 3) := by decide +kernel
theorem dX6_freeCoins_11 : decode cX6_freeCoins 11 = .ok (.aload_n 0, 1) := by decide +kernel
theorem dX6_freeCoins_12 : decode cX6_freeCoins 12 = .ok (.getfield 28, 3) := by decide +kernel
theorem dX6_freeCoins_15 : decode cX6_freeCoins 15 = .ok (.iload_n 1, 1) := by decide +kernel
theorem dX6_freeCoins_16 : decode cX6_freeCoins 16 = .ok (.invokevirtual 96, 3) := by decide +kernel
theorem dX6_freeCoins_19 : decode cX6_freeCoins 19 = .ok (.isub, 1) := by decide +kernel
theorem dX6_freeCoins_20 : decode cX6_freeCoins 20 = .ok (.ireturn, 1) := by decide +kernel
theorem dX6_setWind_0 : decode cX6_setWind 0 = .ok (.iload_n 1, 1) := by decide +kernel
theorem dX6_setWind_1 : decode cX6_setWind 1 = .ok (.invokestatic 100, 3) := by decide +kernel
theorem dX6_setWind_4 : decode cX6_setWind 4 = .ok (.ifCond .ne 5, 3) := by decide +kernel
theorem dX6_setWind_7 : decode cX6_setWind 7 = .ok (.iconst (-1), 1) := by decide +kernel
theorem dX6_setWind_8 : decode cX6_setWind 8 = .ok (.ireturn, 1) := by decide +kernel
theorem dX6_setWind_9 : decode cX6_setWind 9 = .ok (.iload_n 2, 1) := by decide +kernel
theorem dX6_setWind_10 : decode cX6_setWind 10 = .ok (.invokestatic 103, 3) := by decide +kernel
theorem dX6_setWind_13 : decode cX6_setWind 13 = .ok (.ifCond .ne 6, 3) := by decide +kernel
theorem dX6_setWind_16 : decode cX6_setWind 16 = .ok (.bipush (-2), 2) := by decide +kernel
theorem dX6_setWind_18 : decode cX6_setWind 18 = .ok (.ireturn, 1) := by decide +kernel
theorem dX6_setWind_19 : decode cX6_setWind 19 = .ok (.aload_n 0, 1) := by decide +kernel
theorem dX6_setWind_20 : decode cX6_setWind 20 = .ok (.iload_n 1, 1) := by decide +kernel
theorem dX6_setWind_21 : decode cX6_setWind 21 = .ok (.invokevirtual 75, 3) := by decide +kernel
theorem dX6_setWind_24 : decode cX6_setWind 24 = .ok (.ifCond .eq 6, 3) := by decide +kernel
theorem dX6_setWind_27 : decode cX6_setWind 27 = .ok (.bipush (-4), 2) := by decide +kernel
theorem dX6_setWind_29 : decode cX6_setWind 29 = .ok (.ireturn, 1) := by decide +kernel
theorem dX6_setWind_30 : decode cX6_setWind 30 = .ok (.aload_n 0, 1) := by decide +kernel
theorem dX6_setWind_31 : decode cX6_setWind 31 = .ok (.getfield 18, 3) := by decide +kernel
theorem dX6_setWind_34 : decode cX6_setWind 34 = .ok (.iload_n 1, 1) := by decide +kernel
theorem dX6_setWind_35 : decode cX6_setWind 35 = .ok (.invokestatic 86, 3) := by decide +kernel
theorem dX6_setWind_38 : decode cX6_setWind 38 = .ok (.istore_n 3, 1) := by decide +kernel
theorem dX6_setWind_39 : decode cX6_setWind 39 = .ok (.iload_n 3, 1) := by decide +kernel
theorem dX6_setWind_40 : decode cX6_setWind 40 = .ok (.iload_n 2, 1) := by decide +kernel
theorem dX6_setWind_41 : decode cX6_setWind 41 = .ok (.if_icmp .ne 6, 3) := by decide +kernel
theorem dX6_setWind_44 : decode cX6_setWind 44 = .ok (.bipush (-5), 2) := by decide +kernel
theorem dX6_setWind_46 : decode cX6_setWind 46 = .ok (.ireturn, 1) := by decide +kernel
theorem dX6_setWind_47 : decode cX6_setWind 47 = .ok (.aload_n 0, 1) := by decide +kernel
theorem dX6_setWind_48 : decode cX6_setWind 48 = .ok (.getfield 18, 3) := by decide +kernel
theorem dX6_setWind_51 : decode cX6_setWind 51 = .ok (.iload_n 1, 1) := by decide +kernel
theorem dX6_setWind_52 : decode cX6_setWind 52 = .ok (.iload_n 2, 1) := by decide +kernel
theorem dX6_setWind_53 : decode cX6_setWind 53 = .ok (.invokestatic 106, 3) := by decide +kernel
theorem dX6_setWind_56 : decode cX6_setWind 56 = .ok (.iload_n 3, 1) := by decide +kernel
theorem dX6_setWind_57 : decode cX6_setWind 57 = .ok (.ireturn, 1) := by decide +kernel
theorem dX6_addCoins_0 : decode cX6_addCoins 0 = .ok (.iload_n 1, 1) := by decide +kernel
theorem dX6_addCoins_1 : decode cX6_addCoins 1 = .ok (.invokestatic 110, 3) := by decide +kernel
theorem dX6_addCoins_4 : decode cX6_addCoins 4 = .ok (.ifCond .ne 5, 3) := by decide +kernel
theorem dX6_addCoins_7 : decode cX6_addCoins 7 = .ok (.iconst (-1), 1) := by decide +kernel
theorem dX6_addCoins_8 : decode cX6_addCoins 8 = .ok (.ireturn, 1) := by decide +kernel
theorem dX6_addCoins_9 : decode cX6_addCoins 9 = .ok (.iload_n 2, 1) := by decide +kernel
theorem dX6_addCoins_10 : decode cX6_addCoins 10 = .ok (.iconst 1, 1) := by decide +kernel
theorem dX6_addCoins_11 : decode cX6_addCoins 11 = .ok (.if_icmp .lt 10, 3) := by decide +kernel
theorem dX6_addCoins_14 : decode cX6_addCoins 14 = .ok (.iload_n 2, 1) := by decide +kernel
theorem dX6_addCoins_15 : decode cX6_addCoins 15 = .ok (.sipush 999, 3) := by decide +kernel
theorem dX6_addCoins_18 : decode cX6_addCoins 18 = .ok (.if_icmp .le 6, 3) := by decide +kernel
theorem dX6_addCoins_21 : decode cX6_addCoins 21 = .ok (.bipush (-2), 2) := by decide +kernel
theorem dX6_addCoins_23 : decode cX6_addCoins 23 = .ok (.ireturn, 1) := by decide +kernel
theorem dX6_addCoins_24 : decode cX6_addCoins 24 = .ok (.aload_n 0, 1) := by decide +kernel
theorem dX6_addCoins_25 : decode cX6_addCoins 25 = .ok (.getfield 42, 3) := by decide +kernel
theorem dX6_addCoins_28 : decode cX6_addCoins 28 = .ok (.getfield 93, 3) := by decide +kernel
theorem dX6_addCoins_31 : decode cX6_addCoins 31 = .ok (.iload_n 1, 1) := by decide +kernel
theorem dX6_addCoins_32 : decode cX6_addCoins 32 = .ok (.invokestatic 86, 3) := by decide +kernel
theorem dX6_addCoins_35 : decode cX6_addCoins 35 = .ok (.iload_n 2, 1) := by decide +kernel
theorem dX6_addCoins_36 : decode cX6_addCoins 36 = .ok (.iadd, 1) := by decide +kernel
theorem dX6_addCoins_37 : decode cX6_addCoins 37 = .ok (.sipush 9999, 3) := by decide +kernel
theorem dX6_addCoins_40 : decode cX6_addCoins 40 = .ok (.if_icmp .le 6, 3) := by decide +kernel
theorem dX6_addCoins_43 : decode cX6_addCoins 43 = .ok (.bipush (-3), 2) := by decide +kernel
theorem dX6_addCoins_45 : decode cX6_addCoins 45 = .ok (.ireturn, 1) := by decide +kernel
theorem dX6_addCoins_46 : decode cX6_addCoins 46 = .ok (.aload_n 0, 1) := by decide +kernel
theorem dX6_addCoins_47 : decode cX6_addCoins 47 = .ok (.getfield 42, 3) := by decide +kernel
theorem dX6_addCoins_50 : decode cX6_addCoins 50 = .ok (.getfield 93, 3) := by decide +kernel
theorem dX6_addCoins_53 : decode cX6_addCoins 53 = .ok (.iload_n 1, 1) := by decide +kernel
theorem dX6_addCoins_54 : decode cX6_addCoins 54 = .ok (.iload_n 2, 1) := by decide +kernel
theorem dX6_addCoins_55 : decode cX6_addCoins 55 = .ok (.invokestatic 113, 3) := by decide +kernel
theorem dX6_addCoins_58 : decode cX6_addCoins 58 = .ok (.aload_n 0, 1) := by decide +kernel
theorem dX6_addCoins_59 : decode cX6_addCoins 59 = .ok (.getfield 49, 3) := by decide +kernel
theorem dX6_addCoins_62 : decode cX6_addCoins 62 = .ok (.dup, 1) := by decide +kernel
theorem dX6_addCoins_63 : decode cX6_addCoins 63 = .ok (.getfield 116, 3) := by decide +kernel
theorem dX6_addCoins_66 : decode cX6_addCoins 66 = .ok (.iload_n 2, 1) := by decide +kernel
theorem dX6_addCoins_67 : decode cX6_addCoins 67 = .ok (.iadd, 1) := by decide +kernel
theorem dX6_addCoins_68 : decode cX6_addCoins 68 = .ok (.putfield 116, 3) := by decide +kernel
theorem dX6_addCoins_71 : decode cX6_addCoins 71 = .ok (.aload_n 0, 1) := by decide +kernel
theorem dX6_addCoins_72 : decode cX6_addCoins 72 = .ok (.getfield 42, 3) := by decide +kernel
theorem dX6_addCoins_75 : decode cX6_addCoins 75 = .ok (.getfield 93, 3) := by decide +kernel
theorem dX6_addCoins_78 : decode cX6_addCoins 78 = .ok (.iload_n 1, 1) := by decide +kernel
theorem dX6_addCoins_79 : decode cX6_addCoins 79 = .ok (.invokestatic 86, 3) := by decide +kernel
theorem dX6_addCoins_82 : decode cX6_addCoins 82 = .ok (.ireturn, 1) := by decide +kernel
theorem dX6_bidError_0 : decode cX6_bidError 0 = .ok (.iload_n 1, 1) := by decide +kernel
theorem dX6_bidError_1 : decode cX6_bidError 1 = .ok (.invokestatic 110, 3) := by decide +kernel
theorem dX6_bidError_4 : decode cX6_bidError 4 = .ok (.ifCond .eq 11, 3) := by decide +kernel
theorem dX6_bidError_7 : decode cX6_bidError 7 = .ok (.iload_n 2, 1) := by decide +kernel
theorem dX6_bidError_8 : decode cX6_bidError 8 = .ok (.iload_n 3, 1) := by decide +kernel
theorem dX6_bidError_9 : decode cX6_bidError 9 = .ok (.invokestatic 119, 3) := by decide +kernel
theorem dX6_bidError_12 : decode cX6_bidError 12 = .ok (.ifCond .ne 5, 3) := by decide +kernel
theorem dX6_bidError_15 : decode cX6_bidError 15 = .ok (.iconst (-1), 1) := by decide +kernel
theorem dX6_bidError_16 : decode cX6_bidError 16 = .ok (.ireturn, 1) := by decide +kernel
theorem dX6_bidError_17 : decode cX6_bidError 17 = .ok (.iload_n 2, 1) := by decide +kernel
theorem dX6_bidError_18 : decode cX6_bidError 18 = .ok (.iload 4, 2) := by decide +kernel
theorem dX6_bidError_20 : decode cX6_bidError 20 = .ok (.invokestatic 123, 3) := by decide +kernel
theorem dX6_bidError_23 : decode cX6_bidError 23 = .ok (.ifCond .eq 17, 3) := by decide +kernel
theorem dX6_bidError_26 : decode cX6_bidError 26 = .ok (.iload 5, 2) := by decide +kernel
theorem dX6_bidError_28 : decode cX6_bidError 28 = .ok (.iconst 1, 1) := by decide +kernel
theorem dX6_bidError_29 : decode cX6_bidError 29 = .ok (.if_icmp .lt 11, 3) := by decide +kernel
theorem dX6_bidError_32 : decode cX6_bidError 32 = .ok (.iload 5, 2) := by decide +kernel
theorem dX6_bidError_34 : decode cX6_bidError 34 = .ok (.sipush 999, 3) := by decide +kernel
theorem dX6_bidError_37 : decode cX6_bidError 37 = .ok (.if_icmp .le 6, 3) := by decide +kernel
theorem dX6_bidError_40 : decode cX6_bidError 40 = .ok (.bipush (-2), 2) := by decide +kernel
theorem dX6_bidError_42 : decode cX6_bidError 42 = .ok (.ireturn, 1) := by decide +kernel
theorem dX6_bidError_43 : decode cX6_bidError 43 = .ok (.aload_n 0, 1) := by decide +kernel
theorem dX6_bidError_44 : decode cX6_bidError 44 = .ok (.iload_n 2, 1) := by decide +kernel
theorem dX6_bidError_45 : decode cX6_bidError 45 = .ok (.iload_n 3, 1) := by decide +kernel
theorem dX6_bidError_46 : decode cX6_bidError 46 = .ok (.invokevirtual 126, 3) := by decide +kernel
theorem dX6_bidError_49 : decode cX6_bidError 49 = .ok (.ifCond .eq 19, 3) := by decide +kernel
theorem dX6_bidError_52 : decode cX6_bidError 52 = .ok (.aload_n 0, 1) := by decide +kernel
theorem dX6_bidError_53 : decode cX6_bidError 53 = .ok (.getfield 28, 3) := by decide +kernel
theorem dX6_bidError_56 : decode cX6_bidError 56 = .ok (.iload_n 1, 1) := by decide +kernel
theorem dX6_bidError_57 : decode cX6_bidError 57 = .ok (.iload_n 2, 1) := by decide +kernel
theorem dX6_bidError_58 : decode cX6_bidError 58 = .ok (.iload_n 3, 1) := by decide +kernel
theorem dX6_bidError_59 : decode cX6_bidError 59 = .ok (.invokestatic 79, 3) := by decide +kernel
theorem dX6_bidError_62 : decode cX6_bidError 62 = .ok (.invokevirtual 129, 3) := by decide +kernel
theorem dX6_bidError_65 : decode cX6_bidError 65 = .ok (.ifCond .le 6, 3) := by decide +kernel
theorem dX6_bidError_68 : decode cX6_bidError 68 = .ok (.bipush (-4), 2) := by decide +kernel
theorem dX6_bidError_70 : decode cX6_bidError 70 = .ok (.ireturn, 1) := by decide +kernel
theorem dX6_bidError_71 : decode cX6_bidError 71 = .ok (.aload_n 0, 1) := by decide +kernel
theorem dX6_bidError_72 : decode cX6_bidError 72 = .ok (.iload_n 1, 1) := by decide +kernel
theorem dX6_bidError_73 : decode cX6_bidError 73 = .ok (.invokevirtual 132, 3) := by decide +kernel
theorem dX6_bidError_76 : decode cX6_bidError 76 = .ok (.iload 5, 2) := by decide +kernel
theorem dX6_bidError_78 : decode cX6_bidError 78 = .ok (.if_icmp .ge 6, 3) := by decide +kernel
theorem dX6_bidError_81 : decode cX6_bidError 81 = .ok (.bipush (-6), 2) := by decide +kernel
theorem dX6_bidError_83 : decode cX6_bidError 83 = .ok (.ireturn, 1) := by decide +kernel
theorem dX6_bidError_84 : decode cX6_bidError 84 = .ok (.aload_n 0, 1) := by decide +kernel
theorem dX6_bidError_85 : decode cX6_bidError 85 = .ok (.getfield 28, 3) := by decide +kernel
theorem dX6_bidError_88 : decode cX6_bidError 88 = .ok (.invokevirtual 135, 3) := by decide +kernel
theorem dX6_bidError_91 : decode cX6_bidError 91 = .ok (.bipush 60, 2) := by decide +kernel
theorem dX6_bidError_93 : decode cX6_bidError 93 = .ok (.if_icmp .ge 7, 3) := by decide +kernel
theorem dX6_bidError_96 : decode cX6_bidError 96 = .ok (.iconst 0, 1) := by decide +kernel
theorem dX6_bidError_97 : decode cX6_bidError 97 = .ok (.goto 5, 3) := by decide +kernel
theorem dX6_bidError_100 : decode cX6_bidError 100 = .ok (.bipush (-3), 2) := by decide +kernel
theorem dX6_bidError_102 : decode cX6_bidError 102 = .ok (.ireturn, 1) := by decide +kernel
theorem dX6_placeBid_0 : decode cX6_placeBid 0 = .ok (.aload_n 0, 1) := by decide +kernel
theorem dX6_placeBid_1 : decode cX6_placeBid 1 = .ok (.iload_n 1, 1) := by decide +kernel
theorem dX6_placeBid_2 : decode cX6_placeBid 2 = .ok (.iload_n 2, 1) := by decide +kernel
theorem dX6_placeBid_3 : decode cX6_placeBid 3 = .ok (.iload_n 3, 1) := by decide +kernel
theorem dX6_placeBid_4 : decode cX6_placeBid 4 = .ok (.iload 4, 2) := by decide +kernel
theorem dX6_placeBid_6 : decode cX6_placeBid 6 = .ok (.iload 5, 2) := by decide +kernel
theorem dX6_placeBid_8 : decode cX6_placeBid 8 = .ok (.invokevirtual 139, 3) := by decide +kernel
theorem dX6_placeBid_11 : decode cX6_placeBid 11 = .ok (.istore 6, 2) := by decide +kernel
theorem dX6_placeBid_13 : decode cX6_placeBid 13 = .ok (.iload 6, 2) := by decide +kernel
theorem dX6_placeBid_15 : decode cX6_placeBid 15 = .ok (.ifCond .ge 6, 3) := by decide +kernel
theorem dX6_placeBid_18 : decode cX6_placeBid 18 = .ok (.iload 6, 2) := by decide +kernel
theorem dX6_placeBid_20 : decode cX6_placeBid 20 = .ok (.ireturn, 1) := by decide +kernel
theorem dX6_placeBid_21 : decode cX6_placeBid 21 = .ok (.aload_n 0, 1) := by decide +kernel
theorem dX6_placeBid_22 : decode cX6_placeBid 22 = .ok (.getfield 28, 3) := by decide +kernel
theorem dX6_placeBid_25 : decode cX6_placeBid 25 = .ok (.iload_n 1, 1) := by decide +kernel
theorem dX6_placeBid_26 : decode cX6_placeBid 26 = .ok (.iload_n 2, 1) := by decide +kernel
theorem dX6_placeBid_27 : decode cX6_placeBid 27 = .ok (.iload_n 3, 1) := by decide +kernel
theorem dX6_placeBid_28 : decode cX6_placeBid 28 = .ok (.invokestatic 79, 3) := by decide +kernel
theorem dX6_placeBid_31 : decode cX6_placeBid 31 = .ok (.iload 4, 2) := by decide +kernel
theorem dX6_placeBid_33 : decode cX6_placeBid 33 = .ok (.iload 5, 2) := by decide +kernel
theorem dX6_placeBid_35 : decode cX6_placeBid 35 = .ok (.invokevirtual 143, 3) := by decide +kernel
theorem dX6_placeBid_38 : decode cX6_placeBid 38 = .ok (.aload_n 0, 1) := by decide +kernel
theorem dX6_placeBid_39 : decode cX6_placeBid 39 = .ok (.getfield 28, 3) := by decide +kernel
theorem dX6_placeBid_42 : decode cX6_placeBid 42 = .ok (.iload_n 2, 1) := by decide +kernel
theorem dX6_placeBid_43 : decode cX6_placeBid 43 = .ok (.iload_n 3, 1) := by decide +kernel
theorem dX6_placeBid_44 : decode cX6_placeBid 44 = .ok (.invokestatic 79, 3) := by decide +kernel
theorem dX6_placeBid_47 : decode cX6_placeBid 47 = .ok (.invokevirtual 147, 3) := by decide +kernel
theorem dX6_placeBid_50 : decode cX6_placeBid 50 = .ok (.ireturn, 1) := by decide +kernel
theorem dX6_priceOf_0 : decode cX6_priceOf 0 = .ok (.aload_n 0, 1) := by decide +kernel
theorem dX6_priceOf_1 : decode cX6_priceOf 1 = .ok (.iload_n 2, 1) := by decide +kernel
theorem dX6_priceOf_2 : decode cX6_priceOf 2 = .ok (.iload_n 3, 1) := by decide +kernel
theorem dX6_priceOf_3 : decode cX6_priceOf 3 = .ok (.invokevirtual 150, 3) := by decide +kernel
theorem dX6_priceOf_6 : decode cX6_priceOf 6 = .ok (.istore 6, 2) := by decide +kernel
theorem dX6_priceOf_8 : decode cX6_priceOf 8 = .ok (.iload 4, 2) := by decide +kernel
theorem dX6_priceOf_10 : decode cX6_priceOf 10 = .ok (.iload 6, 2) := by decide +kernel
theorem dX6_priceOf_12 : decode cX6_priceOf 12 = .ok (.if_icmp .le 6, 3) := by decide +kernel
theorem dX6_priceOf_15 : decode cX6_priceOf 15 = .ok (.bipush (-5), 2) := by decide +kernel
theorem dX6_priceOf_17 : decode cX6_priceOf 17 = .ok (.ireturn, 1) := by decide +kernel
theorem dX6_priceOf_18 : decode cX6_priceOf 18 = .ok (.iload_n 2, 1) := by decide +kernel
theorem dX6_priceOf_19 : decode cX6_priceOf 19 = .ok (.iload_n 3, 1) := by decide +kernel
theorem dX6_priceOf_20 : decode cX6_priceOf 20 = .ok (.invokestatic 79, 3) := by decide +kernel
theorem dX6_priceOf_23 : decode cX6_priceOf 23 = .ok (.istore 7, 2) := by decide +kernel
theorem dX6_priceOf_25 : decode cX6_priceOf 25 = .ok (.aload_n 0, 1) := by decide +kernel
theorem dX6_priceOf_26 : decode cX6_priceOf 26 = .ok (.getfield 28, 3) := by decide +kernel
theorem dX6_priceOf_29 : decode cX6_priceOf 29 = .ok (.iload 7, 2) := by decide +kernel
theorem dX6_priceOf_31 : decode cX6_priceOf 31 = .ok (.iload 6, 2) := by decide +kernel
theorem dX6_priceOf_33 : decode cX6_priceOf 33 = .ok (.bipush (-5), 2) := by decide +kernel
theorem dX6_priceOf_35 : decode cX6_priceOf 35 = .ok (.invokevirtual 153, 3) := by decide +kernel
theorem dX6_priceOf_38 : decode cX6_priceOf 38 = .ok (.istore 8, 2) := by decide +kernel
theorem dX6_priceOf_40 : decode cX6_priceOf 40 = .ok (.iload_n 1, 1) := by decide +kernel
theorem dX6_priceOf_41 : decode cX6_priceOf 41 = .ok (.aload_n 0, 1) := by decide +kernel
theorem dX6_priceOf_42 : decode cX6_priceOf 42 = .ok (.getfield 28, 3) := by decide +kernel
theorem dX6_priceOf_45 : decode cX6_priceOf 45 = .ok (.iload 7, 2) := by decide +kernel
theorem dX6_priceOf_47 : decode cX6_priceOf 47 = .ok (.iload 6, 2) := by decide +kernel
theorem dX6_priceOf_49 : decode cX6_priceOf 49 = .ok (.invokevirtual 157, 3) := by decide +kernel
theorem dX6_priceOf_52 : decode cX6_priceOf 52 = .ok (.if_icmp .ge 7, 3) := by decide +kernel
theorem dX6_priceOf_55 : decode cX6_priceOf 55 = .ok (.iconst 1, 1) := by decide +kernel
theorem dX6_priceOf_56 : decode cX6_priceOf 56 = .ok (.goto 4, 3) := by decide +kernel
theorem dX6_priceOf_59 : decode cX6_priceOf 59 = .ok (.iconst 0, 1) := by decide +kernel
theorem dX6_priceOf_60 : decode cX6_priceOf 60 = .ok (.istore 9, 2) := by decide +kernel
theorem dX6_priceOf_62 : decode cX6_priceOf 62 = .ok (.iload 5, 2) := by decide +kernel
theorem dX6_priceOf_64 : decode cX6_priceOf 64 = .ok (.iload 8, 2) := by decide +kernel
theorem dX6_priceOf_66 : decode cX6_priceOf 66 = .ok (.if_icmp .gt 15, 3) := by decide +kernel
theorem dX6_priceOf_69 : decode cX6_priceOf 69 = .ok (.iload 5, 2) := by decide +kernel
theorem dX6_priceOf_71 : decode cX6_priceOf 71 = .ok (.iload 8, 2) := by decide +kernel
theorem dX6_priceOf_73 : decode cX6_priceOf 73 = .ok (.if_icmp .ne 13, 3) := by decide +kernel
theorem dX6_priceOf_76 : decode cX6_priceOf 76 = .ok (.iload 9, 2) := by decide +kernel
theorem dX6_priceOf_78 : decode cX6_priceOf 78 = .ok (.ifCond .eq 8, 3) := by decide +kernel
theorem dX6_priceOf_81 : decode cX6_priceOf 81 = .ok (.iload 8, 2) := by decide +kernel
theorem dX6_priceOf_83 : decode cX6_priceOf 83 = .ok (.goto 5, 3) := by decide +kernel
theorem dX6_priceOf_86 : decode cX6_priceOf 86 = .ok (.bipush (-5), 2) := by decide +kernel
theorem dX6_priceOf_88 : decode cX6_priceOf 88 = .ok (.ireturn, 1) := by decide +kernel
theorem dX6_removeBid_0 : decode cX6_removeBid 0 = .ok (.iload_n 1, 1) := by decide +kernel
theorem dX6_removeBid_1 : decode cX6_removeBid 1 = .ok (.invokestatic 110, 3) := by decide +kernel
theorem dX6_removeBid_4 : decode cX6_removeBid 4 = .ok (.ifCond .eq 11, 3) := by decide +kernel
theorem dX6_removeBid_7 : decode cX6_removeBid 7 = .ok (.iload_n 2, 1) := by decide +kernel
theorem dX6_removeBid_8 : decode cX6_removeBid 8 = .ok (.iload_n 3, 1) := by decide +kernel
theorem dX6_removeBid_9 : decode cX6_removeBid 9 = .ok (.invokestatic 119, 3) := by decide +kernel
theorem dX6_removeBid_12 : decode cX6_removeBid 12 = .ok (.ifCond .ne 5, 3) := by decide +kernel
theorem dX6_removeBid_15 : decode cX6_removeBid 15 = .ok (.iconst (-1), 1) := by decide +kernel
theorem dX6_removeBid_16 : decode cX6_removeBid 16 = .ok (.ireturn, 1) := by decide +kernel
theorem dX6_removeBid_17 : decode cX6_removeBid 17 = .ok (.aload_n 0, 1) := by decide +kernel
theorem dX6_removeBid_18 : decode cX6_removeBid 18 = .ok (.getfield 28, 3) := by decide +kernel
theorem dX6_removeBid_21 : decode cX6_removeBid 21 = .ok (.iload_n 1, 1) := by decide +kernel
theorem dX6_removeBid_22 : decode cX6_removeBid 22 = .ok (.iload_n 2, 1) := by decide +kernel
theorem dX6_removeBid_23 : decode cX6_removeBid 23 = .ok (.iload_n 3, 1) := by decide +kernel
theorem dX6_removeBid_24 : decode cX6_removeBid 24 = .ok (.invokestatic 79, 3) := by decide +kernel
theorem dX6_removeBid_27 : decode cX6_removeBid 27 = .ok (.invokevirtual 129, 3) := by decide +kernel
theorem dX6_removeBid_30 : decode cX6_removeBid 30 = .ok (.istore 4, 2) := by decide +kernel
theorem dX6_removeBid_32 : decode cX6_removeBid 32 = .ok (.iload 4, 2) := by decide +kernel
theorem dX6_removeBid_34 : decode cX6_removeBid 34 = .ok (.ifCond .ne 5, 3) := by decide +kernel
theorem dX6_removeBid_37 : decode cX6_removeBid 37 = .ok (.iconst (-1), 1) := by decide +kernel
theorem dX6_removeBid_38 : decode cX6_removeBid 38 = .ok (.ireturn, 1) := by decide +kernel
theorem dX6_removeBid_39 : decode cX6_removeBid 39 = .ok (.aload_n 0, 1) := by decide +kernel
theorem dX6_removeBid_40 : decode cX6_removeBid 40 = .ok (.getfield 28, 3) := by decide +kernel
theorem dX6_removeBid_43 : decode cX6_removeBid 43 = .ok (.iload_n 1, 1) := by decide +kernel
theorem dX6_removeBid_44 : decode cX6_removeBid 44 = .ok (.iload_n 2, 1) := by decide +kernel
theorem dX6_removeBid_45 : decode cX6_removeBid 45 = .ok (.iload_n 3, 1) := by decide +kernel
theorem dX6_removeBid_46 : decode cX6_removeBid 46 = .ok (.invokestatic 79, 3) := by decide +kernel
theorem dX6_removeBid_49 : decode cX6_removeBid 49 = .ok (.invokevirtual 160, 3) := by decide +kernel
theorem dX6_removeBid_52 : decode cX6_removeBid 52 = .ok (.iload 4, 2) := by decide +kernel
theorem dX6_removeBid_54 : decode cX6_removeBid 54 = .ok (.ireturn, 1) := by decide +kernel
theorem dX6_awardEarly_0 : decode cX6_awardEarly 0 = .ok (.iload_n 1, 1) := by decide +kernel
theorem dX6_awardEarly_1 : decode cX6_awardEarly 1 = .ok (.iload_n 2, 1) := by decide +kernel
theorem dX6_awardEarly_2 : decode cX6_awardEarly 2 = .ok (.invokestatic 119, 3) := by decide +kernel
theorem dX6_awardEarly_5 : decode cX6_awardEarly 5 = .ok (.ifCond .ne 5, 3) := by decide +kernel
theorem dX6_awardEarly_8 : decode cX6_awardEarly 8 = .ok (.iconst (-1), 1) := by decide +kernel
theorem dX6_awardEarly_9 : decode cX6_awardEarly 9 = .ok (.ireturn, 1) := by decide +kernel
theorem dX6_awardEarly_10 : decode cX6_awardEarly 10 = .ok (.aload_n 0, 1) := by decide +kernel
theorem dX6_awardEarly_11 : decode cX6_awardEarly 11 = .ok (.iload_n 1, 1) := by decide +kernel
theorem dX6_awardEarly_12 : decode cX6_awardEarly 12 = .ok (.iload_n 2, 1) := by decide +kernel
theorem dX6_awardEarly_13 : decode cX6_awardEarly 13 = .ok (.invokevirtual 126, 3) := by decide +kernel
theorem dX6_awardEarly_16 : decode cX6_awardEarly 16 = .ok (.ifCond .eq 12, 3) := by decide +kernel
theorem dX6_awardEarly_19 : decode cX6_awardEarly 19 = .ok (.aload_n 0, 1) := by decide +kernel
theorem dX6_awardEarly_20 : decode cX6_awardEarly 20 = .ok (.iload_n 1, 1) := by decide +kernel
theorem dX6_awardEarly_21 : decode cX6_awardEarly 21 = .ok (.iload_n 2, 1) := by decide +kernel
theorem dX6_awardEarly_22 : decode cX6_awardEarly 22 = .ok (.invokevirtual 164, 3) := by decide +kernel
theorem dX6_awardEarly_25 : decode cX6_awardEarly 25 = .ok (.goto 5, 3) := by decide +kernel
theorem dX6_awardEarly_28 : decode cX6_awardEarly 28 = .ok (.bipush (-4), 2) := by decide +kernel
theorem dX6_awardEarly_30 : decode cX6_awardEarly 30 = .ok (.ireturn, 1) := by decide +kernel
theorem dX6_awardOpen_0 : decode cX6_awardOpen 0 = .ok (.iload_n 1, 1) := by decide +kernel
theorem dX6_awardOpen_1 : decode cX6_awardOpen 1 = .ok (.iload_n 2, 1) := by decide +kernel
theorem dX6_awardOpen_2 : decode cX6_awardOpen 2 = .ok (.invokestatic 79, 3) := by decide +kernel
theorem dX6_awardOpen_5 : decode cX6_awardOpen 5 = .ok (.istore_n 3, 1) := by decide +kernel
theorem dX6_awardOpen_6 : decode cX6_awardOpen 6 = .ok (.aload_n 0, 1) := by decide +kernel
theorem dX6_awardOpen_7 : decode cX6_awardOpen 7 = .ok (.iload_n 1, 1) := by decide +kernel
theorem dX6_awardOpen_8 : decode cX6_awardOpen 8 = .ok (.iload_n 2, 1) := by decide +kernel
theorem dX6_awardOpen_9 : decode cX6_awardOpen 9 = .ok (.invokevirtual 150, 3) := by decide +kernel
theorem dX6_awardOpen_12 : decode cX6_awardOpen 12 = .ok (.istore 4, 2) := by decide +kernel
theorem dX6_awardOpen_14 : decode cX6_awardOpen 14 = .ok (.aload_n 0, 1) := by decide +kernel
theorem dX6_awardOpen_15 : decode cX6_awardOpen 15 = .ok (.getfield 28, 3) := by decide +kernel
theorem dX6_awardOpen_18 : decode cX6_awardOpen 18 = .ok (.iload_n 3, 1) := by decide +kernel
theorem dX6_awardOpen_19 : decode cX6_awardOpen 19 = .ok (.iload 4, 2) := by decide +kernel
theorem dX6_awardOpen_21 : decode cX6_awardOpen 21 = .ok (.invokevirtual 157, 3) := by decide +kernel
theorem dX6_awardOpen_24 : decode cX6_awardOpen 24 = .ok (.istore 5, 2) := by decide +kernel
theorem dX6_awardOpen_26 : decode cX6_awardOpen 26 = .ok (.iload 5, 2) := by decide +kernel
theorem dX6_awardOpen_28 : decode cX6_awardOpen 28 = .ok (.bipush (-5), 2) := by decide +kernel
theorem dX6_awardOpen_30 : decode cX6_awardOpen 30 = .ok (.if_icmp .ne 6, 3) := by decide +kernel
theorem dX6_awardOpen_33 : decode cX6_awardOpen 33 = .ok (.bipush (-5), 2) := by decide +kernel
theorem dX6_awardOpen_35 : decode cX6_awardOpen 35 = .ok (.ireturn, 1) := by decide +kernel
theorem dX6_awardOpen_36 : decode cX6_awardOpen 36 = .ok (.aload_n 0, 1) := by decide +kernel
theorem dX6_awardOpen_37 : decode cX6_awardOpen 37 = .ok (.getfield 28, 3) := by decide +kernel
theorem dX6_awardOpen_40 : decode cX6_awardOpen 40 = .ok (.iload_n 3, 1) := by decide +kernel
theorem dX6_awardOpen_41 : decode cX6_awardOpen 41 = .ok (.iload 4, 2) := by decide +kernel
theorem dX6_awardOpen_43 : decode cX6_awardOpen 43 = .ok (.iload 5, 2) := by decide +kernel
theorem dX6_awardOpen_45 : decode cX6_awardOpen 45 = .ok (.invokevirtual 153, 3) := by decide +kernel
theorem dX6_awardOpen_48 : decode cX6_awardOpen 48 = .ok (.istore 6, 2) := by decide +kernel
theorem dX6_awardOpen_50 : decode cX6_awardOpen 50 = .ok (.aload_n 0, 1) := by decide +kernel
theorem dX6_awardOpen_51 : decode cX6_awardOpen 51 = .ok (.getfield 35, 3) := by decide +kernel
theorem dX6_awardOpen_54 : decode cX6_awardOpen 54 = .ok (.iload_n 3, 1) := by decide +kernel
theorem dX6_awardOpen_55 : decode cX6_awardOpen 55 = .ok (.iload 5, 2) := by decide +kernel
theorem dX6_awardOpen_57 : decode cX6_awardOpen 57 = .ok (.aload_n 0, 1) := by decide +kernel
theorem dX6_awardOpen_58 : decode cX6_awardOpen 58 = .ok (.getfield 28, 3) := by decide +kernel
theorem dX6_awardOpen_61 : decode cX6_awardOpen 61 = .ok (.iload 5, 2) := by decide +kernel
theorem dX6_awardOpen_63 : decode cX6_awardOpen 63 = .ok (.iload_n 3, 1) := by decide +kernel
theorem dX6_awardOpen_64 : decode cX6_awardOpen 64 = .ok (.invokevirtual 167, 3) := by decide +kernel
theorem dX6_awardOpen_67 : decode cX6_awardOpen 67 = .ok (.invokevirtual 170, 3) := by decide +kernel
theorem dX6_awardOpen_70 : decode cX6_awardOpen 70 = .ok (.aload_n 0, 1) := by decide +kernel
theorem dX6_awardOpen_71 : decode cX6_awardOpen 71 = .ok (.getfield 35, 3) := by decide +kernel
theorem dX6_awardOpen_74 : decode cX6_awardOpen 74 = .ok (.getfield 174, 3) := by decide +kernel
theorem dX6_awardOpen_77 : decode cX6_awardOpen 77 = .ok (.iload_n 3, 1) := by decide +kernel
theorem dX6_awardOpen_78 : decode cX6_awardOpen 78 = .ok (.iload 6, 2) := by decide +kernel
theorem dX6_awardOpen_80 : decode cX6_awardOpen 80 = .ok (.invokestatic 106, 3) := by decide +kernel
theorem dX6_awardOpen_83 : decode cX6_awardOpen 83 = .ok (.aload_n 0, 1) := by decide +kernel
theorem dX6_awardOpen_84 : decode cX6_awardOpen 84 = .ok (.getfield 42, 3) := by decide +kernel
theorem dX6_awardOpen_87 : decode cX6_awardOpen 87 = .ok (.iload 5, 2) := by decide +kernel
theorem dX6_awardOpen_89 : decode cX6_awardOpen 89 = .ok (.iload 6, 2) := by decide +kernel
theorem dX6_awardOpen_91 : decode cX6_awardOpen 91 = .ok (.invokevirtual 177, 3) := by decide +kernel
theorem dX6_awardOpen_94 : decode cX6_awardOpen 94 = .ok (.aload_n 0, 1) := by decide +kernel
theorem dX6_awardOpen_95 : decode cX6_awardOpen 95 = .ok (.getfield 49, 3) := by decide +kernel
theorem dX6_awardOpen_98 : decode cX6_awardOpen 98 = .ok (.dup, 1) := by decide +kernel
theorem dX6_awardOpen_99 : decode cX6_awardOpen 99 = .ok (.getfield 180, 3) := by decide +kernel
theorem dX6_awardOpen_102 : decode cX6_awardOpen 102 = .ok (.iload 6, 2) := by decide +kernel
theorem dX6_awardOpen_104 : decode cX6_awardOpen 104 = .ok (.iadd, 1) := by decide +kernel
theorem dX6_awardOpen_105 : decode cX6_awardOpen 105 = .ok (.putfield 180, 3) := by decide +kernel
theorem dX6_awardOpen_108 : decode cX6_awardOpen 108 = .ok (.aload_n 0, 1) := by decide +kernel
theorem dX6_awardOpen_109 : decode cX6_awardOpen 109 = .ok (.getfield 28, 3) := by decide +kernel
theorem dX6_awardOpen_112 : decode cX6_awardOpen 112 = .ok (.iload_n 3, 1) := by decide +kernel
theorem dX6_awardOpen_113 : decode cX6_awardOpen 113 = .ok (.invokevirtual 183, 3) := by decide +kernel
theorem dX6_awardOpen_116 : decode cX6_awardOpen 116 = .ok (.iload 5, 2) := by decide +kernel
theorem dX6_awardOpen_118 : decode cX6_awardOpen 118 = .ok (.ireturn, 1) := by decide +kernel
theorem dX6_sell_0 : decode cX6_sell 0 = .ok (.iload_n 1, 1) := by decide +kernel
theorem dX6_sell_1 : decode cX6_sell 1 = .ok (.iload_n 2, 1) := by decide +kernel
theorem dX6_sell_2 : decode cX6_sell 2 = .ok (.invokestatic 119, 3) := by decide +kernel
theorem dX6_sell_5 : decode cX6_sell 5 = .ok (.ifCond .eq 25, 3) := by decide +kernel
theorem dX6_sell_8 : decode cX6_sell 8 = .ok (.iload_n 3, 1) := by decide +kernel
theorem dX6_sell_9 : decode cX6_sell 9 = .ok (.invokestatic 110, 3) := by decide +kernel
theorem dX6_sell_12 : decode cX6_sell 12 = .ok (.ifCond .eq 18, 3) := by decide +kernel
theorem dX6_sell_15 : decode cX6_sell 15 = .ok (.aload_n 0, 1) := by decide +kernel
theorem dX6_sell_16 : decode cX6_sell 16 = .ok (.getfield 35, 3) := by decide +kernel
theorem dX6_sell_19 : decode cX6_sell 19 = .ok (.iload_n 1, 1) := by decide +kernel
theorem dX6_sell_20 : decode cX6_sell 20 = .ok (.iload_n 2, 1) := by decide +kernel
theorem dX6_sell_21 : decode cX6_sell 21 = .ok (.invokestatic 79, 3) := by decide +kernel
theorem dX6_sell_24 : decode cX6_sell 24 = .ok (.invokevirtual 83, 3) := by decide +kernel
theorem dX6_sell_27 : decode cX6_sell 27 = .ok (.ifCond .ne 5, 3) := by decide +kernel
theorem dX6_sell_30 : decode cX6_sell 30 = .ok (.iconst (-1), 1) := by decide +kernel
theorem dX6_sell_31 : decode cX6_sell 31 = .ok (.ireturn, 1) := by decide +kernel
theorem dX6_sell_32 : decode cX6_sell 32 = .ok (.iload_n 1, 1) := by decide +kernel
theorem dX6_sell_33 : decode cX6_sell 33 = .ok (.iload 4, 2) := by decide +kernel
theorem dX6_sell_35 : decode cX6_sell 35 = .ok (.invokestatic 123, 3) := by decide +kernel
theorem dX6_sell_38 : decode cX6_sell 38 = .ok (.ifCond .eq 16, 3) := by decide +kernel
theorem dX6_sell_41 : decode cX6_sell 41 = .ok (.iload 5, 2) := by decide +kernel
theorem dX6_sell_43 : decode cX6_sell 43 = .ok (.ifCond .lt 11, 3) := by decide +kernel
theorem dX6_sell_46 : decode cX6_sell 46 = .ok (.iload 5, 2) := by decide +kernel
theorem dX6_sell_48 : decode cX6_sell 48 = .ok (.sipush 999, 3) := by decide +kernel
theorem dX6_sell_51 : decode cX6_sell 51 = .ok (.if_icmp .le 6, 3) := by decide +kernel
theorem dX6_sell_54 : decode cX6_sell 54 = .ok (.bipush (-2), 2) := by decide +kernel
theorem dX6_sell_56 : decode cX6_sell 56 = .ok (.ireturn, 1) := by decide +kernel
theorem dX6_sell_57 : decode cX6_sell 57 = .ok (.aload_n 0, 1) := by decide +kernel
theorem dX6_sell_58 : decode cX6_sell 58 = .ok (.getfield 35, 3) := by decide +kernel
theorem dX6_sell_61 : decode cX6_sell 61 = .ok (.iload_n 1, 1) := by decide +kernel
theorem dX6_sell_62 : decode cX6_sell 62 = .ok (.iload_n 2, 1) := by decide +kernel
theorem dX6_sell_63 : decode cX6_sell 63 = .ok (.invokestatic 79, 3) := by decide +kernel
theorem dX6_sell_66 : decode cX6_sell 66 = .ok (.invokevirtual 187, 3) := by decide +kernel
theorem dX6_sell_69 : decode cX6_sell 69 = .ok (.istore 6, 2) := by decide +kernel
theorem dX6_sell_71 : decode cX6_sell 71 = .ok (.aload_n 0, 1) := by decide +kernel
theorem dX6_sell_72 : decode cX6_sell 72 = .ok (.iload_n 2, 1) := by decide +kernel
theorem dX6_sell_73 : decode cX6_sell 73 = .ok (.invokevirtual 75, 3) := by decide +kernel
theorem dX6_sell_76 : decode cX6_sell 76 = .ok (.ifCond .ne 9, 3) := by decide +kernel
theorem dX6_sell_79 : decode cX6_sell 79 = .ok (.iload 6, 2) := by decide +kernel
theorem dX6_sell_81 : decode cX6_sell 81 = .ok (.iload_n 3, 1) := by decide +kernel
theorem dX6_sell_82 : decode cX6_sell 82 = .ok (.if_icmp .ne 6, 3) := by decide +kernel
theorem dX6_sell_85 : decode cX6_sell 85 = .ok (.bipush (-4), 2) := by decide +kernel
theorem dX6_sell_87 : decode cX6_sell 87 = .ok (.ireturn, 1) := by decide +kernel
theorem dX6_sell_88 : decode cX6_sell 88 = .ok (.aload_n 0, 1) := by decide +kernel
theorem dX6_sell_89 : decode cX6_sell 89 = .ok (.iload_n 3, 1) := by decide +kernel
theorem dX6_sell_90 : decode cX6_sell 90 = .ok (.invokevirtual 132, 3) := by decide +kernel
theorem dX6_sell_93 : decode cX6_sell 93 = .ok (.iload 5, 2) := by decide +kernel
theorem dX6_sell_95 : decode cX6_sell 95 = .ok (.if_icmp .ge 6, 3) := by decide +kernel
theorem dX6_sell_98 : decode cX6_sell 98 = .ok (.bipush (-6), 2) := by decide +kernel
theorem dX6_sell_100 : decode cX6_sell 100 = .ok (.ireturn, 1) := by decide +kernel
theorem dX6_sell_101 : decode cX6_sell 101 = .ok (.aload_n 0, 1) := by decide +kernel
theorem dX6_sell_102 : decode cX6_sell 102 = .ok (.getfield 42, 3) := by decide +kernel
theorem dX6_sell_105 : decode cX6_sell 105 = .ok (.iload 6, 2) := by decide +kernel
theorem dX6_sell_107 : decode cX6_sell 107 = .ok (.iload 5, 2) := by decide +kernel
theorem dX6_sell_109 : decode cX6_sell 109 = .ok (.invokevirtual 190, 3) := by decide +kernel
theorem dX6_sell_112 : decode cX6_sell 112 = .ok (.aload_n 0, 1) := by decide +kernel
theorem dX6_sell_113 : decode cX6_sell 113 = .ok (.getfield 42, 3) := by decide +kernel
theorem dX6_sell_116 : decode cX6_sell 116 = .ok (.iload_n 3, 1) := by decide +kernel
theorem dX6_sell_117 : decode cX6_sell 117 = .ok (.iload 5, 2) := by decide +kernel
theorem dX6_sell_119 : decode cX6_sell 119 = .ok (.ineg, 1) := by decide +kernel
theorem dX6_sell_120 : decode cX6_sell 120 = .ok (.invokevirtual 190, 3) := by decide +kernel
theorem dX6_sell_123 : decode cX6_sell 123 = .ok (.aload_n 0, 1) := by decide +kernel
theorem dX6_sell_124 : decode cX6_sell 124 = .ok (.getfield 35, 3) := by decide +kernel
theorem dX6_sell_127 : decode cX6_sell 127 = .ok (.iload_n 1, 1) := by decide +kernel
theorem dX6_sell_128 : decode cX6_sell 128 = .ok (.iload_n 2, 1) := by decide +kernel
theorem dX6_sell_129 : decode cX6_sell 129 = .ok (.invokestatic 79, 3) := by decide +kernel
theorem dX6_sell_132 : decode cX6_sell 132 = .ok (.iload_n 3, 1) := by decide +kernel
theorem dX6_sell_133 : decode cX6_sell 133 = .ok (.iload 4, 2) := by decide +kernel
theorem dX6_sell_135 : decode cX6_sell 135 = .ok (.invokevirtual 170, 3) := by decide +kernel
theorem dX6_sell_138 : decode cX6_sell 138 = .ok (.aload_n 0, 1) := by decide +kernel
theorem dX6_sell_139 : decode cX6_sell 139 = .ok (.getfield 49, 3) := by decide +kernel
theorem dX6_sell_142 : decode cX6_sell 142 = .ok (.dup, 1) := by decide +kernel
theorem dX6_sell_143 : decode cX6_sell 143 = .ok (.getfield 193, 3) := by decide +kernel
theorem dX6_sell_146 : decode cX6_sell 146 = .ok (.iconst 1, 1) := by decide +kernel
theorem dX6_sell_147 : decode cX6_sell 147 = .ok (.iadd, 1) := by decide +kernel
theorem dX6_sell_148 : decode cX6_sell 148 = .ok (.putfield 193, 3) := by decide +kernel
theorem dX6_sell_151 : decode cX6_sell 151 = .ok (.aload_n 0, 1) := by decide +kernel
theorem dX6_sell_152 : decode cX6_sell 152 = .ok (.getfield 42, 3) := by decide +kernel
theorem dX6_sell_155 : decode cX6_sell 155 = .ok (.getfield 93, 3) := by decide +kernel
theorem dX6_sell_158 : decode cX6_sell 158 = .ok (.iload 6, 2) := by decide +kernel
theorem dX6_sell_160 : decode cX6_sell 160 = .ok (.invokestatic 86, 3) := by decide +kernel
theorem dX6_sell_163 : decode cX6_sell 163 = .ok (.ireturn, 1) := by decide +kernel
theorem dX6_endHour_0 : decode cX6_endHour 0 = .ok (.iload_n 1, 1) := by decide +kernel
theorem dX6_endHour_1 : decode cX6_endHour 1 = .ok (.invokestatic 103, 3) := by decide +kernel
theorem dX6_endHour_4 : decode cX6_endHour 4 = .ok (.ifCond .ne 6, 3) := by decide +kernel
theorem dX6_endHour_7 : decode cX6_endHour 7 = .ok (.bipush (-2), 2) := by decide +kernel
theorem dX6_endHour_9 : decode cX6_endHour 9 = .ok (.ireturn, 1) := by decide +kernel
theorem dX6_endHour_10 : decode cX6_endHour 10 = .ok (.aload_n 0, 1) := by decide +kernel
theorem dX6_endHour_11 : decode cX6_endHour 11 = .ok (.getfield 15, 3) := by decide +kernel
theorem dX6_endHour_14 : decode cX6_endHour 14 = .ok (.bipush 16, 2) := by decide +kernel
theorem dX6_endHour_16 : decode cX6_endHour 16 = .ok (.if_icmp .lt 6, 3) := by decide +kernel
theorem dX6_endHour_19 : decode cX6_endHour 19 = .ok (.bipush (-4), 2) := by decide +kernel
theorem dX6_endHour_21 : decode cX6_endHour 21 = .ok (.ireturn, 1) := by decide +kernel
theorem dX6_endHour_22 : decode cX6_endHour 22 = .ok (.iconst 0, 1) := by decide +kernel
theorem dX6_endHour_23 : decode cX6_endHour 23 = .ok (.istore_n 2, 1) := by decide +kernel
theorem dX6_endHour_24 : decode cX6_endHour 24 = .ok (.iload_n 2, 1) := by decide +kernel
theorem dX6_endHour_25 : decode cX6_endHour 25 = .ok (.iconst 3, 1) := by decide +kernel
theorem dX6_endHour_26 : decode cX6_endHour 26 = .ok (.if_icmp .ge 31, 3) := by decide +kernel
theorem dX6_endHour_29 : decode cX6_endHour 29 = .ok (.aload_n 0, 1) := by decide +kernel
theorem dX6_endHour_30 : decode cX6_endHour 30 = .ok (.iload_n 2, 1) := by decide +kernel
theorem dX6_endHour_31 : decode cX6_endHour 31 = .ok (.aload_n 0, 1) := by decide +kernel
theorem dX6_endHour_32 : decode cX6_endHour 32 = .ok (.getfield 15, 3) := by decide +kernel
theorem dX6_endHour_35 : decode cX6_endHour 35 = .ok (.invokevirtual 126, 3) := by decide +kernel
theorem dX6_endHour_38 : decode cX6_endHour 38 = .ok (.ifCond .eq 13, 3) := by decide +kernel
theorem dX6_endHour_41 : decode cX6_endHour 41 = .ok (.aload_n 0, 1) := by decide +kernel
theorem dX6_endHour_42 : decode cX6_endHour 42 = .ok (.iload_n 2, 1) := by decide +kernel
theorem dX6_endHour_43 : decode cX6_endHour 43 = .ok (.aload_n 0, 1) := by decide +kernel
theorem dX6_endHour_44 : decode cX6_endHour 44 = .ok (.getfield 15, 3) := by decide +kernel
theorem dX6_endHour_47 : decode cX6_endHour 47 = .ok (.invokevirtual 164, 3) := by decide +kernel
theorem dX6_endHour_50 : decode cX6_endHour 50 = .ok (.pop, 1) := by decide +kernel
theorem dX6_endHour_51 : decode cX6_endHour 51 = .ok (.iinc 2 1, 3) := by decide +kernel
theorem dX6_endHour_54 : decode cX6_endHour 54 = .ok (.goto (-30), 3) := by decide +kernel
theorem dX6_endHour_57 : decode cX6_endHour 57 = .ok (.iconst 0, 1) := by decide +kernel
theorem dX6_endHour_58 : decode cX6_endHour 58 = .ok (.istore_n 2, 1) := by decide +kernel
theorem dX6_endHour_59 : decode cX6_endHour 59 = .ok (.iconst 0, 1) := by decide +kernel
theorem dX6_endHour_60 : decode cX6_endHour 60 = .ok (.istore_n 3, 1) := by decide +kernel
theorem dX6_endHour_61 : decode cX6_endHour 61 = .ok (.iload_n 3, 1) := by decide +kernel
theorem dX6_endHour_62 : decode cX6_endHour 62 = .ok (.iconst 3, 1) := by decide +kernel
theorem dX6_endHour_63 : decode cX6_endHour 63 = .ok (.if_icmp .ge 26, 3) := by decide +kernel
theorem dX6_endHour_66 : decode cX6_endHour 66 = .ok (.iload_n 2, 1) := by decide +kernel
theorem dX6_endHour_67 : decode cX6_endHour 67 = .ok (.aload_n 0, 1) := by decide +kernel
theorem dX6_endHour_68 : decode cX6_endHour 68 = .ok (.iload_n 3, 1) := by decide +kernel
theorem dX6_endHour_69 : decode cX6_endHour 69 = .ok (.iload_n 1, 1) := by decide +kernel
theorem dX6_endHour_70 : decode cX6_endHour 70 = .ok (.invokevirtual 196, 3) := by decide +kernel
theorem dX6_endHour_73 : decode cX6_endHour 73 = .ok (.ifCond .eq 7, 3) := by decide +kernel
theorem dX6_endHour_76 : decode cX6_endHour 76 = .ok (.iconst 1, 1) := by decide +kernel
theorem dX6_endHour_77 : decode cX6_endHour 77 = .ok (.goto 4, 3) := by decide +kernel
theorem dX6_endHour_80 : decode cX6_endHour 80 = .ok (.iconst 0, 1) := by decide +kernel
theorem dX6_endHour_81 : decode cX6_endHour 81 = .ok (.iadd, 1) := by decide +kernel
theorem dX6_endHour_82 : decode cX6_endHour 82 = .ok (.istore_n 2, 1) := by decide +kernel
theorem dX6_endHour_83 : decode cX6_endHour 83 = .ok (.iinc 3 1, 3) := by decide +kernel
theorem dX6_endHour_86 : decode cX6_endHour 86 = .ok (.goto (-25), 3) := by decide +kernel
theorem dX6_endHour_89 : decode cX6_endHour 89 = .ok (.aload_n 0, 1) := by decide +kernel
theorem dX6_endHour_90 : decode cX6_endHour 90 = .ok (.getfield 22, 3) := by decide +kernel
theorem dX6_endHour_93 : decode cX6_endHour 93 = .ok (.aload_n 0, 1) := by decide +kernel
theorem dX6_endHour_94 : decode cX6_endHour 94 = .ok (.getfield 15, 3) := by decide +kernel
theorem dX6_endHour_97 : decode cX6_endHour 97 = .ok (.iload_n 1, 1) := by decide +kernel
theorem dX6_endHour_98 : decode cX6_endHour 98 = .ok (.invokestatic 106, 3) := by decide +kernel
theorem dX6_endHour_101 : decode cX6_endHour 101 = .ok (.aload_n 0, 1) := by decide +kernel
theorem dX6_endHour_102 : decode cX6_endHour 102 = .ok (.dup, 1) := by decide +kernel
theorem dX6_endHour_103 : decode cX6_endHour 103 = .ok (.getfield 15, 3) := by decide +kernel
theorem dX6_endHour_106 : decode cX6_endHour 106 = .ok (.iconst 1, 1) := by decide +kernel
theorem dX6_endHour_107 : decode cX6_endHour 107 = .ok (.iadd, 1) := by decide +kernel
theorem dX6_endHour_108 : decode cX6_endHour 108 = .ok (.putfield 15, 3) := by decide +kernel
theorem dX6_endHour_111 : decode cX6_endHour 111 = .ok (.iload_n 2, 1) := by decide +kernel
theorem dX6_endHour_112 : decode cX6_endHour 112 = .ok (.ireturn, 1) := by decide +kernel
theorem dX6_endSlot_0 : decode cX6_endSlot 0 = .ok (.iload_n 1, 1) := by decide +kernel
theorem dX6_endSlot_1 : decode cX6_endSlot 1 = .ok (.aload_n 0, 1) := by decide +kernel
theorem dX6_endSlot_2 : decode cX6_endSlot 2 = .ok (.getfield 15, 3) := by decide +kernel
theorem dX6_endSlot_5 : decode cX6_endSlot 5 = .ok (.invokestatic 79, 3) := by decide +kernel
theorem dX6_endSlot_8 : decode cX6_endSlot 8 = .ok (.istore_n 3, 1) := by decide +kernel
theorem dX6_endSlot_9 : decode cX6_endSlot 9 = .ok (.aload_n 0, 1) := by decide +kernel
theorem dX6_endSlot_10 : decode cX6_endSlot 10 = .ok (.iload_n 1, 1) := by decide +kernel
theorem dX6_endSlot_11 : decode cX6_endSlot 11 = .ok (.iload_n 3, 1) := by decide +kernel
theorem dX6_endSlot_12 : decode cX6_endSlot 12 = .ok (.iload_n 2, 1) := by decide +kernel
theorem dX6_endSlot_13 : decode cX6_endSlot 13 = .ok (.invokevirtual 199, 3) := by decide +kernel
theorem dX6_endSlot_16 : decode cX6_endSlot 16 = .ok (.istore 4, 2) := by decide +kernel
theorem dX6_endSlot_18 : decode cX6_endSlot 18 = .ok (.iload 4, 2) := by decide +kernel
theorem dX6_endSlot_20 : decode cX6_endSlot 20 = .ok (.ifCond .ne 61, 3) := by decide +kernel
theorem dX6_endSlot_23 : decode cX6_endSlot 23 = .ok (.aload_n 0, 1) := by decide +kernel
theorem dX6_endSlot_24 : decode cX6_endSlot 24 = .ok (.getfield 42, 3) := by decide +kernel
theorem dX6_endSlot_27 : decode cX6_endSlot 27 = .ok (.getfield 202, 3) := by decide +kernel
theorem dX6_endSlot_30 : decode cX6_endSlot 30 = .ok (.aload_n 0, 1) := by decide +kernel
theorem dX6_endSlot_31 : decode cX6_endSlot 31 = .ok (.getfield 35, 3) := by decide +kernel
theorem dX6_endSlot_34 : decode cX6_endSlot 34 = .ok (.iload_n 3, 1) := by decide +kernel
theorem dX6_endSlot_35 : decode cX6_endSlot 35 = .ok (.invokevirtual 187, 3) := by decide +kernel
theorem dX6_endSlot_38 : decode cX6_endSlot 38 = .ok (.iconst 1, 1) := by decide +kernel
theorem dX6_endSlot_39 : decode cX6_endSlot 39 = .ok (.invokestatic 113, 3) := by decide +kernel
theorem dX6_endSlot_42 : decode cX6_endSlot 42 = .ok (.aload_n 0, 1) := by decide +kernel
theorem dX6_endSlot_43 : decode cX6_endSlot 43 = .ok (.getfield 49, 3) := by decide +kernel
theorem dX6_endSlot_46 : decode cX6_endSlot 46 = .ok (.dup, 1) := by decide +kernel
theorem dX6_endSlot_47 : decode cX6_endSlot 47 = .ok (.getfield 205, 3) := by decide +kernel
theorem dX6_endSlot_50 : decode cX6_endSlot 50 = .ok (.iconst 1, 1) := by decide +kernel
theorem dX6_endSlot_51 : decode cX6_endSlot 51 = .ok (.iadd, 1) := by decide +kernel
theorem dX6_endSlot_52 : decode cX6_endSlot 52 = .ok (.putfield 205, 3) := by decide +kernel
theorem dX6_endSlot_55 : decode cX6_endSlot 55 = .ok (.aload_n 0, 1) := by decide +kernel
theorem dX6_endSlot_56 : decode cX6_endSlot 56 = .ok (.getfield 49, 3) := by decide +kernel
theorem dX6_endSlot_59 : decode cX6_endSlot 59 = .ok (.dup, 1) := by decide +kernel
theorem dX6_endSlot_60 : decode cX6_endSlot 60 = .ok (.getfield 207, 3) := by decide +kernel
theorem dX6_endSlot_63 : decode cX6_endSlot 63 = .ok (.aload_n 0, 1) := by decide +kernel
theorem dX6_endSlot_64 : decode cX6_endSlot 64 = .ok (.getfield 35, 3) := by decide +kernel
theorem dX6_endSlot_67 : decode cX6_endSlot 67 = .ok (.getfield 210, 3) := by decide +kernel
theorem dX6_endSlot_70 : decode cX6_endSlot 70 = .ok (.iload_n 3, 1) := by decide +kernel
theorem dX6_endSlot_71 : decode cX6_endSlot 71 = .ok (.invokestatic 86, 3) := by decide +kernel
theorem dX6_endSlot_74 : decode cX6_endSlot 74 = .ok (.iadd, 1) := by decide +kernel
theorem dX6_endSlot_75 : decode cX6_endSlot 75 = .ok (.putfield 207, 3) := by decide +kernel
theorem dX6_endSlot_78 : decode cX6_endSlot 78 = .ok (.goto 16, 3) := by decide +kernel
theorem dX6_endSlot_81 : decode cX6_endSlot 81 = .ok (.aload_n 0, 1) := by decide +kernel
theorem dX6_endSlot_82 : decode cX6_endSlot 82 = .ok (.getfield 49, 3) := by decide +kernel
theorem dX6_endSlot_85 : decode cX6_endSlot 85 = .ok (.getfield 212, 3) := by decide +kernel
theorem dX6_endSlot_88 : decode cX6_endSlot 88 = .ok (.iload 4, 2) := by decide +kernel
theorem dX6_endSlot_90 : decode cX6_endSlot 90 = .ok (.iconst 1, 1) := by decide +kernel
theorem dX6_endSlot_91 : decode cX6_endSlot 91 = .ok (.invokestatic 113, 3) := by decide +kernel
theorem dX6_endSlot_94 : decode cX6_endSlot 94 = .ok (.iload 4, 2) := by decide +kernel
theorem dX6_endSlot_96 : decode cX6_endSlot 96 = .ok (.iconst 3, 1) := by decide +kernel
theorem dX6_endSlot_97 : decode cX6_endSlot 97 = .ok (.if_icmp .ne 26, 3) := by decide +kernel
theorem dX6_endSlot_100 : decode cX6_endSlot 100 = .ok (.aload_n 0, 1) := by decide +kernel
theorem dX6_endSlot_101 : decode cX6_endSlot 101 = .ok (.aload_n 0, 1) := by decide +kernel
theorem dX6_endSlot_102 : decode cX6_endSlot 102 = .ok (.getfield 35, 3) := by decide +kernel
theorem dX6_endSlot_105 : decode cX6_endSlot 105 = .ok (.iload_n 3, 1) := by decide +kernel
theorem dX6_endSlot_106 : decode cX6_endSlot 106 = .ok (.invokevirtual 187, 3) := by decide +kernel
theorem dX6_endSlot_109 : decode cX6_endSlot 109 = .ok (.aload_n 0, 1) := by decide +kernel
theorem dX6_endSlot_110 : decode cX6_endSlot 110 = .ok (.getfield 35, 3) := by decide +kernel
theorem dX6_endSlot_113 : decode cX6_endSlot 113 = .ok (.getfield 174, 3) := by decide +kernel
theorem dX6_endSlot_116 : decode cX6_endSlot 116 = .ok (.iload_n 3, 1) := by decide +kernel
theorem dX6_endSlot_117 : decode cX6_endSlot 117 = .ok (.invokestatic 86, 3) := by decide +kernel
theorem dX6_endSlot_120 : decode cX6_endSlot 120 = .ok (.invokevirtual 215, 3) := by decide +kernel
theorem dX6_endSlot_123 : decode cX6_endSlot 123 = .ok (.aload_n 0, 1) := by decide +kernel
theorem dX6_endSlot_124 : decode cX6_endSlot 124 = .ok (.getfield 35, 3) := by decide +kernel
theorem dX6_endSlot_127 : decode cX6_endSlot 127 = .ok (.getfield 218, 3) := by decide +kernel
theorem dX6_endSlot_130 : decode cX6_endSlot 130 = .ok (.iload_n 3, 1) := by decide +kernel
theorem dX6_endSlot_131 : decode cX6_endSlot 131 = .ok (.iload 4, 2) := by decide +kernel
theorem dX6_endSlot_133 : decode cX6_endSlot 133 = .ok (.invokestatic 106, 3) := by decide +kernel
theorem dX6_endSlot_136 : decode cX6_endSlot 136 = .ok (.aload_n 0, 1) := by decide +kernel
theorem dX6_endSlot_137 : decode cX6_endSlot 137 = .ok (.getfield 28, 3) := by decide +kernel
theorem dX6_endSlot_140 : decode cX6_endSlot 140 = .ok (.iload_n 3, 1) := by decide +kernel
theorem dX6_endSlot_141 : decode cX6_endSlot 141 = .ok (.invokevirtual 183, 3) := by decide +kernel
theorem dX6_endSlot_144 : decode cX6_endSlot 144 = .ok (.iload 4, 2) := by decide +kernel
theorem dX6_endSlot_146 : decode cX6_endSlot 146 = .ok (.ifCond .ne 7, 3) := by decide +kernel
theorem dX6_endSlot_149 : decode cX6_endSlot 149 = .ok (.iconst 1, 1) := by decide +kernel
theorem dX6_endSlot_150 : decode cX6_endSlot 150 = .ok (.goto 4, 3) := by decide +kernel
theorem dX6_endSlot_153 : decode cX6_endSlot 153 = .ok (.iconst 0, 1) := by decide +kernel
theorem dX6_endSlot_154 : decode cX6_endSlot 154 = .ok (.ireturn, 1) := by decide +kernel
theorem dX6_reasonAgainst_0 : decode cX6_reasonAgainst 0 = .ok (.aload_n 0, 1) := by decide +kernel
theorem dX6_reasonAgainst_1 : decode cX6_reasonAgainst 1 = .ok (.getfield 35, 3) := by decide +kernel
theorem dX6_reasonAgainst_4 : decode cX6_reasonAgainst 4 = .ok (.iload_n 2, 1) := by decide +kernel
theorem dX6_reasonAgainst_5 : decode cX6_reasonAgainst 5 = .ok (.invokevirtual 83, 3) := by decide +kernel
theorem dX6_reasonAgainst_8 : decode cX6_reasonAgainst 8 = .ok (.ifCond .ne 20, 3) := by decide +kernel
theorem dX6_reasonAgainst_11 : decode cX6_reasonAgainst 11 = .ok (.aload_n 0, 1) := by decide +kernel
theorem dX6_reasonAgainst_12 : decode cX6_reasonAgainst 12 = .ok (.getfield 28, 3) := by decide +kernel
theorem dX6_reasonAgainst_15 : decode cX6_reasonAgainst 15 = .ok (.iload_n 2, 1) := by decide +kernel
theorem dX6_reasonAgainst_16 : decode cX6_reasonAgainst 16 = .ok (.invokevirtual 147, 3) := by decide +kernel
theorem dX6_reasonAgainst_19 : decode cX6_reasonAgainst 19 = .ok (.ifCond .le 7, 3) := by decide +kernel
theorem dX6_reasonAgainst_22 : decode cX6_reasonAgainst 22 = .ok (.iconst 2, 1) := by decide +kernel
theorem dX6_reasonAgainst_23 : decode cX6_reasonAgainst 23 = .ok (.goto 4, 3) := by decide +kernel
theorem dX6_reasonAgainst_26 : decode cX6_reasonAgainst 26 = .ok (.iconst 1, 1) := by decide +kernel
theorem dX6_reasonAgainst_27 : decode cX6_reasonAgainst 27 = .ok (.ireturn, 1) := by decide +kernel
theorem dX6_reasonAgainst_28 : decode cX6_reasonAgainst 28 = .ok (.aload_n 0, 1) := by decide +kernel
theorem dX6_reasonAgainst_29 : decode cX6_reasonAgainst 29 = .ok (.getfield 35, 3) := by decide +kernel
theorem dX6_reasonAgainst_32 : decode cX6_reasonAgainst 32 = .ok (.getfield 210, 3) := by decide +kernel
theorem dX6_reasonAgainst_35 : decode cX6_reasonAgainst 35 = .ok (.iload_n 2, 1) := by decide +kernel
theorem dX6_reasonAgainst_36 : decode cX6_reasonAgainst 36 = .ok (.invokestatic 86, 3) := by decide +kernel
theorem dX6_reasonAgainst_39 : decode cX6_reasonAgainst 39 = .ok (.iload_n 1, 1) := by decide +kernel
theorem dX6_reasonAgainst_40 : decode cX6_reasonAgainst 40 = .ok (.iload_n 3, 1) := by decide +kernel
theorem dX6_reasonAgainst_41 : decode cX6_reasonAgainst 41 = .ok (.invokestatic 90, 3) := by decide +kernel
theorem dX6_reasonAgainst_44 : decode cX6_reasonAgainst 44 = .ok (.if_icmp .le 7, 3) := by decide +kernel
theorem dX6_reasonAgainst_47 : decode cX6_reasonAgainst 47 = .ok (.iconst 3, 1) := by decide +kernel
theorem dX6_reasonAgainst_48 : decode cX6_reasonAgainst 48 = .ok (.goto 4, 3) := by decide +kernel
theorem dX6_reasonAgainst_51 : decode cX6_reasonAgainst 51 = .ok (.iconst 0, 1) := by decide +kernel
theorem dX6_reasonAgainst_52 : decode cX6_reasonAgainst 52 = .ok (.ireturn, 1) := by decide +kernel
theorem dX6_refund_0 : decode cX6_refund 0 = .ok (.aload_n 0, 1) := by decide +kernel
theorem dX6_refund_1 : decode cX6_refund 1 = .ok (.getfield 42, 3) := by decide +kernel
theorem dX6_refund_4 : decode cX6_refund 4 = .ok (.iload_n 1, 1) := by decide +kernel
theorem dX6_refund_5 : decode cX6_refund 5 = .ok (.iload_n 2, 1) := by decide +kernel
theorem dX6_refund_6 : decode cX6_refund 6 = .ok (.ineg, 1) := by decide +kernel
theorem dX6_refund_7 : decode cX6_refund 7 = .ok (.invokevirtual 177, 3) := by decide +kernel
theorem dX6_refund_10 : decode cX6_refund 10 = .ok (.aload_n 0, 1) := by decide +kernel
theorem dX6_refund_11 : decode cX6_refund 11 = .ok (.getfield 49, 3) := by decide +kernel
theorem dX6_refund_14 : decode cX6_refund 14 = .ok (.dup, 1) := by decide +kernel
theorem dX6_refund_15 : decode cX6_refund 15 = .ok (.getfield 180, 3) := by decide +kernel
theorem dX6_refund_18 : decode cX6_refund 18 = .ok (.iload_n 2, 1) := by decide +kernel
theorem dX6_refund_19 : decode cX6_refund 19 = .ok (.isub, 1) := by decide +kernel
theorem dX6_refund_20 : decode cX6_refund 20 = .ok (.putfield 180, 3) := by decide +kernel
theorem dX6_refund_23 : decode cX6_refund 23 = .ok (.aload_n 0, 1) := by decide +kernel
theorem dX6_refund_24 : decode cX6_refund 24 = .ok (.getfield 49, 3) := by decide +kernel
theorem dX6_refund_27 : decode cX6_refund 27 = .ok (.dup, 1) := by decide +kernel
theorem dX6_refund_28 : decode cX6_refund 28 = .ok (.getfield 221, 3) := by decide +kernel
theorem dX6_refund_31 : decode cX6_refund 31 = .ok (.iload_n 2, 1) := by decide +kernel
theorem dX6_refund_32 : decode cX6_refund 32 = .ok (.iadd, 1) := by decide +kernel
theorem dX6_refund_33 : decode cX6_refund 33 = .ok (.putfield 221, 3) := by decide +kernel
theorem dX6_refund_36 : decode cX6_refund 36 = .ok (.return_, 1) := by decide +kernel
theorem dX6_beginDay_0 : decode cX6_beginDay 0 = .ok (.aload_n 0, 1) := by decide +kernel
theorem dX6_beginDay_1 : decode cX6_beginDay 1 = .ok (.getfield 15, 3) := by decide +kernel
theorem dX6_beginDay_4 : decode cX6_beginDay 4 = .ok (.bipush 16, 2) := by decide +kernel
theorem dX6_beginDay_6 : decode cX6_beginDay 6 = .ok (.if_icmp .ge 6, 3) := by decide +kernel
theorem dX6_beginDay_9 : decode cX6_beginDay 9 = .ok (.bipush (-4), 2) := by decide +kernel
theorem dX6_beginDay_11 : decode cX6_beginDay 11 = .ok (.ireturn, 1) := by decide +kernel
theorem dX6_beginDay_12 : decode cX6_beginDay 12 = .ok (.aload_n 0, 1) := by decide +kernel
theorem dX6_beginDay_13 : decode cX6_beginDay 13 = .ok (.getfield 9, 3) := by decide +kernel
theorem dX6_beginDay_16 : decode cX6_beginDay 16 = .ok (.sipush 999, 3) := by decide +kernel
theorem dX6_beginDay_19 : decode cX6_beginDay 19 = .ok (.if_icmp .lt 6, 3) := by decide +kernel
theorem dX6_beginDay_22 : decode cX6_beginDay 22 = .ok (.bipush (-3), 2) := by decide +kernel
theorem dX6_beginDay_24 : decode cX6_beginDay 24 = .ok (.ireturn, 1) := by decide +kernel
theorem dX6_beginDay_25 : decode cX6_beginDay 25 = .ok (.aload_n 0, 1) := by decide +kernel
theorem dX6_beginDay_26 : decode cX6_beginDay 26 = .ok (.dup, 1) := by decide +kernel
theorem dX6_beginDay_27 : decode cX6_beginDay 27 = .ok (.getfield 9, 3) := by decide +kernel
theorem dX6_beginDay_30 : decode cX6_beginDay 30 = .ok (.iconst 1, 1) := by decide +kernel
theorem dX6_beginDay_31 : decode cX6_beginDay 31 = .ok (.iadd, 1) := by decide +kernel
theorem dX6_beginDay_32 : decode cX6_beginDay 32 = .ok (.putfield 9, 3) := by decide +kernel
theorem dX6_beginDay_35 : decode cX6_beginDay 35 = .ok (.aload_n 0, 1) := by decide +kernel
theorem dX6_beginDay_36 : decode cX6_beginDay 36 = .ok (.iconst 0, 1) := by decide +kernel
theorem dX6_beginDay_37 : decode cX6_beginDay 37 = .ok (.putfield 15, 3) := by decide +kernel
theorem dX6_beginDay_40 : decode cX6_beginDay 40 = .ok (.aload_n 0, 1) := by decide +kernel
theorem dX6_beginDay_41 : decode cX6_beginDay 41 = .ok (.getfield 35, 3) := by decide +kernel
theorem dX6_beginDay_44 : decode cX6_beginDay 44 = .ok (.invokevirtual 224, 3) := by decide +kernel
theorem dX6_beginDay_47 : decode cX6_beginDay 47 = .ok (.aload_n 0, 1) := by decide +kernel
theorem dX6_beginDay_48 : decode cX6_beginDay 48 = .ok (.getfield 18, 3) := by decide +kernel
theorem dX6_beginDay_51 : decode cX6_beginDay 51 = .ok (.bipush 20, 2) := by decide +kernel
theorem dX6_beginDay_53 : decode cX6_beginDay 53 = .ok (.invokestatic 53, 3) := by decide +kernel
theorem dX6_beginDay_56 : decode cX6_beginDay 56 = .ok (.aload_n 0, 1) := by decide +kernel
theorem dX6_beginDay_57 : decode cX6_beginDay 57 = .ok (.getfield 22, 3) := by decide +kernel
theorem dX6_beginDay_60 : decode cX6_beginDay 60 = .ok (.iconst 0, 1) := by decide +kernel
theorem dX6_beginDay_61 : decode cX6_beginDay 61 = .ok (.invokestatic 53, 3) := by decide +kernel
theorem dX6_beginDay_64 : decode cX6_beginDay 64 = .ok (.aload_n 0, 1) := by decide +kernel
theorem dX6_beginDay_65 : decode cX6_beginDay 65 = .ok (.getfield 9, 3) := by decide +kernel
theorem dX6_beginDay_68 : decode cX6_beginDay 68 = .ok (.ireturn, 1) := by decide +kernel
theorem dX6_openAwards_0 : decode cX6_openAwards 0 = .ok (.iconst 0, 1) := by decide +kernel
theorem dX6_openAwards_1 : decode cX6_openAwards 1 = .ok (.istore_n 2, 1) := by decide +kernel
theorem dX6_openAwards_2 : decode cX6_openAwards 2 = .ok (.iconst 0, 1) := by decide +kernel
theorem dX6_openAwards_3 : decode cX6_openAwards 3 = .ok (.istore_n 3, 1) := by decide +kernel
theorem dX6_openAwards_4 : decode cX6_openAwards 4 = .ok (.iload_n 3, 1) := by decide +kernel
theorem dX6_openAwards_5 : decode cX6_openAwards 5 = .ok (.iconst 3, 1) := by decide +kernel
theorem dX6_openAwards_6 : decode cX6_openAwards 6 = .ok (.if_icmp .ge 70, 3) := by decide +kernel
theorem dX6_openAwards_9 : decode cX6_openAwards 9 = .ok (.aload_n 0, 1) := by decide +kernel
theorem dX6_openAwards_10 : decode cX6_openAwards 10 = .ok (.getfield 15, 3) := by decide +kernel
theorem dX6_openAwards_13 : decode cX6_openAwards 13 = .ok (.istore 4, 2) := by decide +kernel
theorem dX6_openAwards_15 : decode cX6_openAwards 15 = .ok (.iload 4, 2) := by decide +kernel
theorem dX6_openAwards_17 : decode cX6_openAwards 17 = .ok (.bipush 16, 2) := by decide +kernel
theorem dX6_openAwards_19 : decode cX6_openAwards 19 = .ok (.if_icmp .ge 51, 3) := by decide +kernel
theorem dX6_openAwards_22 : decode cX6_openAwards 22 = .ok (.aload_n 0, 1) := by decide +kernel
theorem dX6_openAwards_23 : decode cX6_openAwards 23 = .ok (.getfield 35, 3) := by decide +kernel
theorem dX6_openAwards_26 : decode cX6_openAwards 26 = .ok (.iload_n 3, 1) := by decide +kernel
theorem dX6_openAwards_27 : decode cX6_openAwards 27 = .ok (.iload 4, 2) := by decide +kernel
theorem dX6_openAwards_29 : decode cX6_openAwards 29 = .ok (.invokestatic 79, 3) := by decide +kernel
theorem dX6_openAwards_32 : decode cX6_openAwards 32 = .ok (.invokevirtual 187, 3) := by decide +kernel
theorem dX6_openAwards_35 : decode cX6_openAwards 35 = .ok (.istore 5, 2) := by decide +kernel
theorem dX6_openAwards_37 : decode cX6_openAwards 37 = .ok (.iload_n 2, 1) := by decide +kernel
theorem dX6_openAwards_38 : decode cX6_openAwards 38 = .ok (.iload 5, 2) := by decide +kernel
theorem dX6_openAwards_40 : decode cX6_openAwards 40 = .ok (.bipush (-5), 2) := by decide +kernel
theorem dX6_openAwards_42 : decode cX6_openAwards 42 = .ok (.if_icmp .eq 19, 3) := by decide +kernel
theorem dX6_openAwards_45 : decode cX6_openAwards 45 = .ok (.iload_n 1, 1) := by decide +kernel
theorem dX6_openAwards_46 : decode cX6_openAwards 46 = .ok (.bipush (-5), 2) := by decide +kernel
theorem dX6_openAwards_48 : decode cX6_openAwards 48 = .ok (.if_icmp .eq 9, 3) := by decide +kernel
theorem dX6_openAwards_51 : decode cX6_openAwards 51 = .ok (.iload 5, 2) := by decide +kernel
theorem dX6_openAwards_53 : decode cX6_openAwards 53 = .ok (.iload_n 1, 1) := by decide +kernel
theorem dX6_openAwards_54 : decode cX6_openAwards 54 = .ok (.if_icmp .ne 7, 3) := by decide +kernel
theorem dX6_openAwards_57 : decode cX6_openAwards 57 = .ok (.iconst 1, 1) := by decide +kernel
theorem dX6_openAwards_58 : decode cX6_openAwards 58 = .ok (.goto 4, 3) := by decide +kernel
theorem dX6_openAwards_61 : decode cX6_openAwards 61 = .ok (.iconst 0, 1) := by decide +kernel
theorem dX6_openAwards_62 : decode cX6_openAwards 62 = .ok (.iadd, 1) := by decide +kernel
theorem dX6_openAwards_63 : decode cX6_openAwards 63 = .ok (.istore_n 2, 1) := by decide +kernel
theorem dX6_openAwards_64 : decode cX6_openAwards 64 = .ok (.iinc 4 1, 3) := by decide +kernel
theorem dX6_openAwards_67 : decode cX6_openAwards 67 = .ok (.goto (-52), 3) := by decide +kernel
theorem dX6_openAwards_70 : decode cX6_openAwards 70 = .ok (.iinc 3 1, 3) := by decide +kernel
theorem dX6_openAwards_73 : decode cX6_openAwards 73 = .ok (.goto (-69), 3) := by decide +kernel
theorem dX6_openAwards_76 : decode cX6_openAwards 76 = .ok (.iload_n 2, 1) := by decide +kernel
theorem dX6_openAwards_77 : decode cX6_openAwards 77 = .ok (.ireturn, 1) := by decide +kernel
theorem dX6_cheapestHour_0 : decode cX6_cheapestHour 0 = .ok (.bipush (-5), 2) := by decide +kernel
theorem dX6_cheapestHour_2 : decode cX6_cheapestHour 2 = .ok (.istore_n 3, 1) := by decide +kernel
theorem dX6_cheapestHour_3 : decode cX6_cheapestHour 3 = .ok (.iconst 0, 1) := by decide +kernel
theorem dX6_cheapestHour_4 : decode cX6_cheapestHour 4 = .ok (.istore 4, 2) := by decide +kernel
theorem dX6_cheapestHour_6 : decode cX6_cheapestHour 6 = .ok (.aload_n 0, 1) := by decide +kernel
theorem dX6_cheapestHour_7 : decode cX6_cheapestHour 7 = .ok (.getfield 15, 3) := by decide +kernel
theorem dX6_cheapestHour_10 : decode cX6_cheapestHour 10 = .ok (.istore 5, 2) := by decide +kernel
theorem dX6_cheapestHour_12 : decode cX6_cheapestHour 12 = .ok (.iload 5, 2) := by decide +kernel
theorem dX6_cheapestHour_14 : decode cX6_cheapestHour 14 = .ok (.bipush 16, 2) := by decide +kernel
theorem dX6_cheapestHour_16 : decode cX6_cheapestHour 16 = .ok (.if_icmp .ge 69, 3) := by decide +kernel
theorem dX6_cheapestHour_19 : decode cX6_cheapestHour 19 = .ok (.aload_n 0, 1) := by decide +kernel
theorem dX6_cheapestHour_20 : decode cX6_cheapestHour 20 = .ok (.iload_n 1, 1) := by decide +kernel
theorem dX6_cheapestHour_21 : decode cX6_cheapestHour 21 = .ok (.iload 5, 2) := by decide +kernel
theorem dX6_cheapestHour_23 : decode cX6_cheapestHour 23 = .ok (.invokevirtual 126, 3) := by decide +kernel
theorem dX6_cheapestHour_26 : decode cX6_cheapestHour 26 = .ok (.ifCond .eq 53, 3) := by decide +kernel
theorem dX6_cheapestHour_29 : decode cX6_cheapestHour 29 = .ok (.iload_n 2, 1) := by decide +kernel
theorem dX6_cheapestHour_30 : decode cX6_cheapestHour 30 = .ok (.aload_n 0, 1) := by decide +kernel
theorem dX6_cheapestHour_31 : decode cX6_cheapestHour 31 = .ok (.iload_n 1, 1) := by decide +kernel
theorem dX6_cheapestHour_32 : decode cX6_cheapestHour 32 = .ok (.iload 5, 2) := by decide +kernel
theorem dX6_cheapestHour_34 : decode cX6_cheapestHour 34 = .ok (.invokevirtual 150, 3) := by decide +kernel
theorem dX6_cheapestHour_37 : decode cX6_cheapestHour 37 = .ok (.if_icmp .gt 42, 3) := by decide +kernel
theorem dX6_cheapestHour_40 : decode cX6_cheapestHour 40 = .ok (.aload_n 0, 1) := by decide +kernel
theorem dX6_cheapestHour_41 : decode cX6_cheapestHour 41 = .ok (.getfield 28, 3) := by decide +kernel
theorem dX6_cheapestHour_44 : decode cX6_cheapestHour 44 = .ok (.iload_n 1, 1) := by decide +kernel
theorem dX6_cheapestHour_45 : decode cX6_cheapestHour 45 = .ok (.iload 5, 2) := by decide +kernel
theorem dX6_cheapestHour_47 : decode cX6_cheapestHour 47 = .ok (.invokestatic 79, 3) := by decide +kernel
theorem dX6_cheapestHour_50 : decode cX6_cheapestHour 50 = .ok (.bipush 60, 2) := by decide +kernel
theorem dX6_cheapestHour_52 : decode cX6_cheapestHour 52 = .ok (.bipush (-5), 2) := by decide +kernel
theorem dX6_cheapestHour_54 : decode cX6_cheapestHour 54 = .ok (.invokevirtual 153, 3) := by decide +kernel
theorem dX6_cheapestHour_57 : decode cX6_cheapestHour 57 = .ok (.istore 6, 2) := by decide +kernel
theorem dX6_cheapestHour_59 : decode cX6_cheapestHour 59 = .ok (.iload_n 3, 1) := by decide +kernel
theorem dX6_cheapestHour_60 : decode cX6_cheapestHour 60 = .ok (.bipush (-5), 2) := by decide +kernel
theorem dX6_cheapestHour_62 : decode cX6_cheapestHour 62 = .ok (.if_icmp .eq 10, 3) := by decide +kernel
theorem dX6_cheapestHour_65 : decode cX6_cheapestHour 65 = .ok (.iload 6, 2) := by decide +kernel
theorem dX6_cheapestHour_67 : decode cX6_cheapestHour 67 = .ok (.iload 4, 2) := by decide +kernel
theorem dX6_cheapestHour_69 : decode cX6_cheapestHour 69 = .ok (.if_icmp .ge 10, 3) := by decide +kernel
theorem dX6_cheapestHour_72 : decode cX6_cheapestHour 72 = .ok (.iload 5, 2) := by decide +kernel
theorem dX6_cheapestHour_74 : decode cX6_cheapestHour 74 = .ok (.istore_n 3, 1) := by decide +kernel
theorem dX6_cheapestHour_75 : decode cX6_cheapestHour 75 = .ok (.iload 6, 2) := by decide +kernel
theorem dX6_cheapestHour_77 : decode cX6_cheapestHour 77 = .ok (.istore 4, 2) := by decide +kernel
theorem dX6_cheapestHour_79 : decode cX6_cheapestHour 79 = .ok (.iinc 5 1, 3) := by decide +kernel
theorem dX6_cheapestHour_82 : decode cX6_cheapestHour 82 = .ok (.goto (-70), 3) := by decide +kernel
theorem dX6_cheapestHour_85 : decode cX6_cheapestHour 85 = .ok (.iload_n 3, 1) := by decide +kernel
theorem dX6_cheapestHour_86 : decode cX6_cheapestHour 86 = .ok (.ireturn, 1) := by decide +kernel
theorem dX6_total_0 : decode cX6_total 0 = .ok (.iload_n 1, 1) := by decide +kernel
theorem dX6_total_1 : decode cX6_total 1 = .ok (.tableswitch 180 0 13 #[71, 76, 81, 89, 96, 104, 116, 128, 140, 148, 180, 156, 164, 172], 71) := by decide +kernel
theorem dX6_total_72 : decode cX6_total 72 = .ok (.aload_n 0, 1) := by decide +kernel
theorem dX6_total_73 : decode cX6_total 73 = .ok (.getfield 9, 3) := by decide +kernel
theorem dX6_total_76 : decode cX6_total 76 = .ok (.ireturn, 1) := by decide +kernel
theorem dX6_total_77 : decode cX6_total 77 = .ok (.aload_n 0, 1) := by decide +kernel
theorem dX6_total_78 : decode cX6_total 78 = .ok (.getfield 15, 3) := by decide +kernel
theorem dX6_total_81 : decode cX6_total 81 = .ok (.ireturn, 1) := by decide +kernel
theorem dX6_total_82 : decode cX6_total 82 = .ok (.aload_n 0, 1) := by decide +kernel
theorem dX6_total_83 : decode cX6_total 83 = .ok (.getfield 28, 3) := by decide +kernel
theorem dX6_total_86 : decode cX6_total 86 = .ok (.invokevirtual 135, 3) := by decide +kernel
theorem dX6_total_89 : decode cX6_total 89 = .ok (.ireturn, 1) := by decide +kernel
theorem dX6_total_90 : decode cX6_total 90 = .ok (.aload_n 0, 1) := by decide +kernel
theorem dX6_total_91 : decode cX6_total 91 = .ok (.bipush (-5), 2) := by decide +kernel
theorem dX6_total_93 : decode cX6_total 93 = .ok (.invokevirtual 227, 3) := by decide +kernel
theorem dX6_total_96 : decode cX6_total 96 = .ok (.ireturn, 1) := by decide +kernel
theorem dX6_total_97 : decode cX6_total 97 = .ok (.aload_n 0, 1) := by decide +kernel
theorem dX6_total_98 : decode cX6_total 98 = .ok (.getfield 49, 3) := by decide +kernel
theorem dX6_total_101 : decode cX6_total 101 = .ok (.getfield 205, 3) := by decide +kernel
theorem dX6_total_104 : decode cX6_total 104 = .ok (.ireturn, 1) := by decide +kernel
theorem dX6_total_105 : decode cX6_total 105 = .ok (.aload_n 0, 1) := by decide +kernel
theorem dX6_total_106 : decode cX6_total 106 = .ok (.getfield 49, 3) := by decide +kernel
theorem dX6_total_109 : decode cX6_total 109 = .ok (.getfield 212, 3) := by decide +kernel
theorem dX6_total_112 : decode cX6_total 112 = .ok (.iconst 1, 1) := by decide +kernel
theorem dX6_total_113 : decode cX6_total 113 = .ok (.invokestatic 86, 3) := by decide +kernel
theorem dX6_total_116 : decode cX6_total 116 = .ok (.ireturn, 1) := by decide +kernel
theorem dX6_total_117 : decode cX6_total 117 = .ok (.aload_n 0, 1) := by decide +kernel
theorem dX6_total_118 : decode cX6_total 118 = .ok (.getfield 49, 3) := by decide +kernel
theorem dX6_total_121 : decode cX6_total 121 = .ok (.getfield 212, 3) := by decide +kernel
theorem dX6_total_124 : decode cX6_total 124 = .ok (.iconst 2, 1) := by decide +kernel
theorem dX6_total_125 : decode cX6_total 125 = .ok (.invokestatic 86, 3) := by decide +kernel
theorem dX6_total_128 : decode cX6_total 128 = .ok (.ireturn, 1) := by decide +kernel
theorem dX6_total_129 : decode cX6_total 129 = .ok (.aload_n 0, 1) := by decide +kernel
theorem dX6_total_130 : decode cX6_total 130 = .ok (.getfield 49, 3) := by decide +kernel
theorem dX6_total_133 : decode cX6_total 133 = .ok (.getfield 212, 3) := by decide +kernel
theorem dX6_total_136 : decode cX6_total 136 = .ok (.iconst 3, 1) := by decide +kernel
theorem dX6_total_137 : decode cX6_total 137 = .ok (.invokestatic 86, 3) := by decide +kernel
theorem dX6_total_140 : decode cX6_total 140 = .ok (.ireturn, 1) := by decide +kernel
theorem dX6_total_141 : decode cX6_total 141 = .ok (.aload_n 0, 1) := by decide +kernel
theorem dX6_total_142 : decode cX6_total 142 = .ok (.getfield 49, 3) := by decide +kernel
theorem dX6_total_145 : decode cX6_total 145 = .ok (.getfield 180, 3) := by decide +kernel
theorem dX6_total_148 : decode cX6_total 148 = .ok (.ireturn, 1) := by decide +kernel
theorem dX6_total_149 : decode cX6_total 149 = .ok (.aload_n 0, 1) := by decide +kernel
theorem dX6_total_150 : decode cX6_total 150 = .ok (.getfield 49, 3) := by decide +kernel
theorem dX6_total_153 : decode cX6_total 153 = .ok (.getfield 221, 3) := by decide +kernel
theorem dX6_total_156 : decode cX6_total 156 = .ok (.ireturn, 1) := by decide +kernel
theorem dX6_total_157 : decode cX6_total 157 = .ok (.aload_n 0, 1) := by decide +kernel
theorem dX6_total_158 : decode cX6_total 158 = .ok (.getfield 49, 3) := by decide +kernel
theorem dX6_total_161 : decode cX6_total 161 = .ok (.getfield 116, 3) := by decide +kernel
theorem dX6_total_164 : decode cX6_total 164 = .ok (.ireturn, 1) := by decide +kernel
theorem dX6_total_165 : decode cX6_total 165 = .ok (.aload_n 0, 1) := by decide +kernel
theorem dX6_total_166 : decode cX6_total 166 = .ok (.getfield 49, 3) := by decide +kernel
theorem dX6_total_169 : decode cX6_total 169 = .ok (.getfield 193, 3) := by decide +kernel
theorem dX6_total_172 : decode cX6_total 172 = .ok (.ireturn, 1) := by decide +kernel
theorem dX6_total_173 : decode cX6_total 173 = .ok (.aload_n 0, 1) := by decide +kernel
theorem dX6_total_174 : decode cX6_total 174 = .ok (.getfield 49, 3) := by decide +kernel
theorem dX6_total_177 : decode cX6_total 177 = .ok (.getfield 207, 3) := by decide +kernel
theorem dX6_total_180 : decode cX6_total 180 = .ok (.ireturn, 1) := by decide +kernel
theorem dX6_total_181 : decode cX6_total 181 = .ok (.bipush (-2), 2) := by decide +kernel
theorem dX6_total_183 : decode cX6_total 183 = .ok (.ireturn, 1) := by decide +kernel
theorem dX7_init_0 : decode cX7_init 0 = .ok (.aload_n 0, 1) := by decide +kernel
theorem dX7_init_1 : decode cX7_init 1 = .ok (.invokespecial 3, 3) := by decide +kernel
theorem dX7_init_4 : decode cX7_init 4 = .ok (.aload_n 0, 1) := by decide +kernel
theorem dX7_init_5 : decode cX7_init 5 = .ok (.iconst 4, 1) := by decide +kernel
theorem dX7_init_6 : decode cX7_init 6 = .ok (.newarray .int, 2) := by decide +kernel
theorem dX7_init_8 : decode cX7_init 8 = .ok (.putfield 9, 3) := by decide +kernel
theorem dX7_init_11 : decode cX7_init 11 = .ok (.aload_n 0, 1) := by decide +kernel
theorem dX7_init_12 : decode cX7_init 12 = .ok (.iconst 0, 1) := by decide +kernel
theorem dX7_init_13 : decode cX7_init 13 = .ok (.putfield 15, 3) := by decide +kernel
theorem dX7_init_16 : decode cX7_init 16 = .ok (.aload_n 0, 1) := by decide +kernel
theorem dX7_init_17 : decode cX7_init 17 = .ok (.iconst 0, 1) := by decide +kernel
theorem dX7_init_18 : decode cX7_init 18 = .ok (.putfield 19, 3) := by decide +kernel
theorem dX7_init_21 : decode cX7_init 21 = .ok (.aload_n 0, 1) := by decide +kernel
theorem dX7_init_22 : decode cX7_init 22 = .ok (.sipush 600, 3) := by decide +kernel
theorem dX7_init_25 : decode cX7_init 25 = .ok (.putfield 22, 3) := by decide +kernel
theorem dX7_init_28 : decode cX7_init 28 = .ok (.aload_n 0, 1) := by decide +kernel
theorem dX7_init_29 : decode cX7_init 29 = .ok (.iconst 0, 1) := by decide +kernel
theorem dX7_init_30 : decode cX7_init 30 = .ok (.putfield 25, 3) := by decide +kernel
theorem dX7_init_33 : decode cX7_init 33 = .ok (.aload_n 0, 1) := by decide +kernel
theorem dX7_init_34 : decode cX7_init 34 = .ok (.iconst 0, 1) := by decide +kernel
theorem dX7_init_35 : decode cX7_init 35 = .ok (.putfield 28, 3) := by decide +kernel
theorem dX7_init_38 : decode cX7_init 38 = .ok (.aload_n 0, 1) := by decide +kernel
theorem dX7_init_39 : decode cX7_init 39 = .ok (.iconst 0, 1) := by decide +kernel
theorem dX7_init_40 : decode cX7_init 40 = .ok (.putfield 31, 3) := by decide +kernel
theorem dX7_init_43 : decode cX7_init 43 = .ok (.return_, 1) := by decide +kernel
theorem dX7_copy_0 : decode cX7_copy 0 = .ok (.aload_n 1, 1) := by decide +kernel
theorem dX7_copy_1 : decode cX7_copy 1 = .ok (.getfield 9, 3) := by decide +kernel
theorem dX7_copy_4 : decode cX7_copy 4 = .ok (.aload_n 0, 1) := by decide +kernel
theorem dX7_copy_5 : decode cX7_copy 5 = .ok (.getfield 9, 3) := by decide +kernel
theorem dX7_copy_8 : decode cX7_copy 8 = .ok (.invokestatic 34, 3) := by decide +kernel
theorem dX7_copy_11 : decode cX7_copy 11 = .ok (.aload_n 0, 1) := by decide +kernel
theorem dX7_copy_12 : decode cX7_copy 12 = .ok (.aload_n 1, 1) := by decide +kernel
theorem dX7_copy_13 : decode cX7_copy 13 = .ok (.getfield 15, 3) := by decide +kernel
theorem dX7_copy_16 : decode cX7_copy 16 = .ok (.putfield 15, 3) := by decide +kernel
theorem dX7_copy_19 : decode cX7_copy 19 = .ok (.aload_n 0, 1) := by decide +kernel
theorem dX7_copy_20 : decode cX7_copy 20 = .ok (.aload_n 1, 1) := by decide +kernel
theorem dX7_copy_21 : decode cX7_copy 21 = .ok (.getfield 19, 3) := by decide +kernel
theorem dX7_copy_24 : decode cX7_copy 24 = .ok (.putfield 19, 3) := by decide +kernel
theorem dX7_copy_27 : decode cX7_copy 27 = .ok (.aload_n 0, 1) := by decide +kernel
theorem dX7_copy_28 : decode cX7_copy 28 = .ok (.aload_n 1, 1) := by decide +kernel
theorem dX7_copy_29 : decode cX7_copy 29 = .ok (.getfield 22, 3) := by decide +kernel
theorem dX7_copy_32 : decode cX7_copy 32 = .ok (.putfield 22, 3) := by decide +kernel
theorem dX7_copy_35 : decode cX7_copy 35 = .ok (.aload_n 0, 1) := by decide +kernel
theorem dX7_copy_36 : decode cX7_copy 36 = .ok (.aload_n 1, 1) := by decide +kernel
theorem dX7_copy_37 : decode cX7_copy 37 = .ok (.getfield 25, 3) := by decide +kernel
theorem dX7_copy_40 : decode cX7_copy 40 = .ok (.putfield 25, 3) := by decide +kernel
theorem dX7_copy_43 : decode cX7_copy 43 = .ok (.aload_n 0, 1) := by decide +kernel
theorem dX7_copy_44 : decode cX7_copy 44 = .ok (.aload_n 1, 1) := by decide +kernel
theorem dX7_copy_45 : decode cX7_copy 45 = .ok (.getfield 28, 3) := by decide +kernel
theorem dX7_copy_48 : decode cX7_copy 48 = .ok (.putfield 28, 3) := by decide +kernel
theorem dX7_copy_51 : decode cX7_copy 51 = .ok (.aload_n 0, 1) := by decide +kernel
theorem dX7_copy_52 : decode cX7_copy 52 = .ok (.aload_n 1, 1) := by decide +kernel
theorem dX7_copy_53 : decode cX7_copy 53 = .ok (.getfield 31, 3) := by decide +kernel
theorem dX7_copy_56 : decode cX7_copy 56 = .ok (.putfield 31, 3) := by decide +kernel
theorem dX7_copy_59 : decode cX7_copy 59 = .ok (.return_, 1) := by decide +kernel
theorem dX8_init_0 : decode cX8_init 0 = .ok (.aload_n 0, 1) := by decide +kernel
theorem dX8_init_1 : decode cX8_init 1 = .ok (.invokespecial 3, 3) := by decide +kernel
theorem dX8_init_4 : decode cX8_init 4 = .ok (.aload_n 0, 1) := by decide +kernel
theorem dX8_init_5 : decode cX8_init 5 = .ok (.new 9, 3) := by decide +kernel
theorem dX8_init_8 : decode cX8_init 8 = .ok (.dup, 1) := by decide +kernel
theorem dX8_init_9 : decode cX8_init 9 = .ok (.invokespecial 11, 3) := by decide +kernel
theorem dX8_init_12 : decode cX8_init 12 = .ok (.putfield 12, 3) := by decide +kernel
theorem dX8_init_15 : decode cX8_init 15 = .ok (.aload_n 0, 1) := by decide +kernel
theorem dX8_init_16 : decode cX8_init 16 = .ok (.new 9, 3) := by decide +kernel
theorem dX8_init_19 : decode cX8_init 19 = .ok (.dup, 1) := by decide +kernel
theorem dX8_init_20 : decode cX8_init 20 = .ok (.invokespecial 11, 3) := by decide +kernel
theorem dX8_init_23 : decode cX8_init 23 = .ok (.putfield 16, 3) := by decide +kernel
theorem dX8_init_26 : decode cX8_init 26 = .ok (.aload_n 0, 1) := by decide +kernel
theorem dX8_init_27 : decode cX8_init 27 = .ok (.new 19, 3) := by decide +kernel
theorem dX8_init_30 : decode cX8_init 30 = .ok (.dup, 1) := by decide +kernel
theorem dX8_init_31 : decode cX8_init 31 = .ok (.invokespecial 21, 3) := by decide +kernel
theorem dX8_init_34 : decode cX8_init 34 = .ok (.putfield 22, 3) := by decide +kernel
theorem dX8_init_37 : decode cX8_init 37 = .ok (.aload_n 0, 1) := by decide +kernel
theorem dX8_init_38 : decode cX8_init 38 = .ok (.new 9, 3) := by decide +kernel
theorem dX8_init_41 : decode cX8_init 41 = .ok (.dup, 1) := by decide +kernel
theorem dX8_init_42 : decode cX8_init 42 = .ok (.invokespecial 11, 3) := by decide +kernel
theorem dX8_init_45 : decode cX8_init 45 = .ok (.putfield 26, 3) := by decide +kernel
theorem dX8_init_48 : decode cX8_init 48 = .ok (.aload_n 0, 1) := by decide +kernel
theorem dX8_init_49 : decode cX8_init 49 = .ok (.iconst 0, 1) := by decide +kernel
theorem dX8_init_50 : decode cX8_init 50 = .ok (.putfield 29, 3) := by decide +kernel
theorem dX8_init_53 : decode cX8_init 53 = .ok (.aload_n 0, 1) := by decide +kernel
theorem dX8_init_54 : decode cX8_init 54 = .ok (.new 33, 3) := by decide +kernel
theorem dX8_init_57 : decode cX8_init 57 = .ok (.dup, 1) := by decide +kernel
theorem dX8_init_58 : decode cX8_init 58 = .ok (.invokespecial 35, 3) := by decide +kernel
theorem dX8_init_61 : decode cX8_init 61 = .ok (.putfield 36, 3) := by decide +kernel
theorem dX8_init_64 : decode cX8_init 64 = .ok (.aload_n 0, 1) := by decide +kernel
theorem dX8_init_65 : decode cX8_init 65 = .ok (.bipush (-5), 2) := by decide +kernel
theorem dX8_init_67 : decode cX8_init 67 = .ok (.putfield 40, 3) := by decide +kernel
theorem dX8_init_70 : decode cX8_init 70 = .ok (.aload_n 0, 1) := by decide +kernel
theorem dX8_init_71 : decode cX8_init 71 = .ok (.bipush (-5), 2) := by decide +kernel
theorem dX8_init_73 : decode cX8_init 73 = .ok (.putfield 44, 3) := by decide +kernel
theorem dX8_init_76 : decode cX8_init 76 = .ok (.return_, 1) := by decide +kernel
theorem dX8_expect_0 : decode cX8_expect 0 = .ok (.aload_n 0, 1) := by decide +kernel
theorem dX8_expect_1 : decode cX8_expect 1 = .ok (.getfield 16, 3) := by decide +kernel
theorem dX8_expect_4 : decode cX8_expect 4 = .ok (.aload_n 0, 1) := by decide +kernel
theorem dX8_expect_5 : decode cX8_expect 5 = .ok (.getfield 12, 3) := by decide +kernel
theorem dX8_expect_8 : decode cX8_expect 8 = .ok (.invokevirtual 47, 3) := by decide +kernel
theorem dX8_expect_11 : decode cX8_expect 11 = .ok (.aload_n 0, 1) := by decide +kernel
theorem dX8_expect_12 : decode cX8_expect 12 = .ok (.aload_n 0, 1) := by decide +kernel
theorem dX8_expect_13 : decode cX8_expect 13 = .ok (.getfield 12, 3) := by decide +kernel
theorem dX8_expect_16 : decode cX8_expect 16 = .ok (.iload_n 1, 1) := by decide +kernel
theorem dX8_expect_17 : decode cX8_expect 17 = .ok (.iload_n 2, 1) := by decide +kernel
theorem dX8_expect_18 : decode cX8_expect 18 = .ok (.invokevirtual 51, 3) := by decide +kernel
theorem dX8_expect_21 : decode cX8_expect 21 = .ok (.invokevirtual 55, 3) := by decide +kernel
theorem dX8_expect_24 : decode cX8_expect 24 = .ok (.ireturn, 1) := by decide +kernel
theorem dX8_fund_0 : decode cX8_fund 0 = .ok (.aload_n 0, 1) := by decide +kernel
theorem dX8_fund_1 : decode cX8_fund 1 = .ok (.getfield 16, 3) := by decide +kernel
theorem dX8_fund_4 : decode cX8_fund 4 = .ok (.aload_n 0, 1) := by decide +kernel
theorem dX8_fund_5 : decode cX8_fund 5 = .ok (.getfield 12, 3) := by decide +kernel
theorem dX8_fund_8 : decode cX8_fund 8 = .ok (.invokevirtual 47, 3) := by decide +kernel
theorem dX8_fund_11 : decode cX8_fund 11 = .ok (.aload_n 0, 1) := by decide +kernel
theorem dX8_fund_12 : decode cX8_fund 12 = .ok (.aload_n 0, 1) := by decide +kernel
theorem dX8_fund_13 : decode cX8_fund 13 = .ok (.getfield 12, 3) := by decide +kernel
theorem dX8_fund_16 : decode cX8_fund 16 = .ok (.iload_n 1, 1) := by decide +kernel
theorem dX8_fund_17 : decode cX8_fund 17 = .ok (.iload_n 2, 1) := by decide +kernel
theorem dX8_fund_18 : decode cX8_fund 18 = .ok (.invokevirtual 59, 3) := by decide +kernel
theorem dX8_fund_21 : decode cX8_fund 21 = .ok (.invokevirtual 55, 3) := by decide +kernel
theorem dX8_fund_24 : decode cX8_fund 24 = .ok (.ireturn, 1) := by decide +kernel
theorem dX8_bid_0 : decode cX8_bid 0 = .ok (.aload_n 0, 1) := by decide +kernel
theorem dX8_bid_1 : decode cX8_bid 1 = .ok (.getfield 16, 3) := by decide +kernel
theorem dX8_bid_4 : decode cX8_bid 4 = .ok (.aload_n 0, 1) := by decide +kernel
theorem dX8_bid_5 : decode cX8_bid 5 = .ok (.getfield 12, 3) := by decide +kernel
theorem dX8_bid_8 : decode cX8_bid 8 = .ok (.invokevirtual 47, 3) := by decide +kernel
theorem dX8_bid_11 : decode cX8_bid 11 = .ok (.aload_n 0, 1) := by decide +kernel
theorem dX8_bid_12 : decode cX8_bid 12 = .ok (.aload_n 0, 1) := by decide +kernel
theorem dX8_bid_13 : decode cX8_bid 13 = .ok (.getfield 12, 3) := by decide +kernel
theorem dX8_bid_16 : decode cX8_bid 16 = .ok (.iload_n 1, 1) := by decide +kernel
theorem dX8_bid_17 : decode cX8_bid 17 = .ok (.iload_n 2, 1) := by decide +kernel
theorem dX8_bid_18 : decode cX8_bid 18 = .ok (.iload_n 3, 1) := by decide +kernel
theorem dX8_bid_19 : decode cX8_bid 19 = .ok (.iload 4, 2) := by decide +kernel
theorem dX8_bid_21 : decode cX8_bid 21 = .ok (.iload 5, 2) := by decide +kernel
theorem dX8_bid_23 : decode cX8_bid 23 = .ok (.invokevirtual 62, 3) := by decide +kernel
theorem dX8_bid_26 : decode cX8_bid 26 = .ok (.invokevirtual 55, 3) := by decide +kernel
theorem dX8_bid_29 : decode cX8_bid 29 = .ok (.ireturn, 1) := by decide +kernel
theorem dX8_withdraw_0 : decode cX8_withdraw 0 = .ok (.aload_n 0, 1) := by decide +kernel
theorem dX8_withdraw_1 : decode cX8_withdraw 1 = .ok (.getfield 16, 3) := by decide +kernel
theorem dX8_withdraw_4 : decode cX8_withdraw 4 = .ok (.aload_n 0, 1) := by decide +kernel
theorem dX8_withdraw_5 : decode cX8_withdraw 5 = .ok (.getfield 12, 3) := by decide +kernel
theorem dX8_withdraw_8 : decode cX8_withdraw 8 = .ok (.invokevirtual 47, 3) := by decide +kernel
theorem dX8_withdraw_11 : decode cX8_withdraw 11 = .ok (.aload_n 0, 1) := by decide +kernel
theorem dX8_withdraw_12 : decode cX8_withdraw 12 = .ok (.aload_n 0, 1) := by decide +kernel
theorem dX8_withdraw_13 : decode cX8_withdraw 13 = .ok (.getfield 12, 3) := by decide +kernel
theorem dX8_withdraw_16 : decode cX8_withdraw 16 = .ok (.iload_n 1, 1) := by decide +kernel
theorem dX8_withdraw_17 : decode cX8_withdraw 17 = .ok (.iload_n 2, 1) := by decide +kernel
theorem dX8_withdraw_18 : decode cX8_withdraw 18 = .ok (.iload_n 3, 1) := by decide +kernel
theorem dX8_withdraw_19 : decode cX8_withdraw 19 = .ok (.invokevirtual 66, 3) := by decide +kernel
theorem dX8_withdraw_22 : decode cX8_withdraw 22 = .ok (.invokevirtual 55, 3) := by decide +kernel
theorem dX8_withdraw_25 : decode cX8_withdraw 25 = .ok (.ireturn, 1) := by decide +kernel
theorem dX8_award_0 : decode cX8_award 0 = .ok (.aload_n 0, 1) := by decide +kernel
theorem dX8_award_1 : decode cX8_award 1 = .ok (.getfield 16, 3) := by decide +kernel
theorem dX8_award_4 : decode cX8_award 4 = .ok (.aload_n 0, 1) := by decide +kernel
theorem dX8_award_5 : decode cX8_award 5 = .ok (.getfield 12, 3) := by decide +kernel
theorem dX8_award_8 : decode cX8_award 8 = .ok (.invokevirtual 47, 3) := by decide +kernel
theorem dX8_award_11 : decode cX8_award 11 = .ok (.aload_n 0, 1) := by decide +kernel
theorem dX8_award_12 : decode cX8_award 12 = .ok (.aload_n 0, 1) := by decide +kernel
theorem dX8_award_13 : decode cX8_award 13 = .ok (.getfield 12, 3) := by decide +kernel
theorem dX8_award_16 : decode cX8_award 16 = .ok (.iload_n 1, 1) := by decide +kernel
theorem dX8_award_17 : decode cX8_award 17 = .ok (.iload_n 2, 1) := by decide +kernel
theorem dX8_award_18 : decode cX8_award 18 = .ok (.invokevirtual 70, 3) := by decide +kernel
theorem dX8_award_21 : decode cX8_award 21 = .ok (.invokevirtual 55, 3) := by decide +kernel
theorem dX8_award_24 : decode cX8_award 24 = .ok (.ireturn, 1) := by decide +kernel
theorem dX8_trade_0 : decode cX8_trade 0 = .ok (.aload_n 0, 1) := by decide +kernel
theorem dX8_trade_1 : decode cX8_trade 1 = .ok (.getfield 16, 3) := by decide +kernel
theorem dX8_trade_4 : decode cX8_trade 4 = .ok (.aload_n 0, 1) := by decide +kernel
theorem dX8_trade_5 : decode cX8_trade 5 = .ok (.getfield 12, 3) := by decide +kernel
theorem dX8_trade_8 : decode cX8_trade 8 = .ok (.invokevirtual 47, 3) := by decide +kernel
theorem dX8_trade_11 : decode cX8_trade 11 = .ok (.aload_n 0, 1) := by decide +kernel
theorem dX8_trade_12 : decode cX8_trade 12 = .ok (.aload_n 0, 1) := by decide +kernel
theorem dX8_trade_13 : decode cX8_trade 13 = .ok (.getfield 12, 3) := by decide +kernel
theorem dX8_trade_16 : decode cX8_trade 16 = .ok (.iload_n 1, 1) := by decide +kernel
theorem dX8_trade_17 : decode cX8_trade 17 = .ok (.iload_n 2, 1) := by decide +kernel
theorem dX8_trade_18 : decode cX8_trade 18 = .ok (.iload_n 3, 1) := by decide +kernel
theorem dX8_trade_19 : decode cX8_trade 19 = .ok (.iload 4, 2) := by decide +kernel
theorem dX8_trade_21 : decode cX8_trade 21 = .ok (.iload 5, 2) := by decide +kernel
theorem dX8_trade_23 : decode cX8_trade 23 = .ok (.invokevirtual 73, 3) := by decide +kernel
theorem dX8_trade_26 : decode cX8_trade 26 = .ok (.invokevirtual 55, 3) := by decide +kernel
theorem dX8_trade_29 : decode cX8_trade 29 = .ok (.ireturn, 1) := by decide +kernel
theorem dX8_done_0 : decode cX8_done 0 = .ok (.aload_n 0, 1) := by decide +kernel
theorem dX8_done_1 : decode cX8_done 1 = .ok (.getfield 16, 3) := by decide +kernel
theorem dX8_done_4 : decode cX8_done 4 = .ok (.aload_n 0, 1) := by decide +kernel
theorem dX8_done_5 : decode cX8_done 5 = .ok (.getfield 12, 3) := by decide +kernel
theorem dX8_done_8 : decode cX8_done 8 = .ok (.invokevirtual 47, 3) := by decide +kernel
theorem dX8_done_11 : decode cX8_done 11 = .ok (.aload_n 0, 1) := by decide +kernel
theorem dX8_done_12 : decode cX8_done 12 = .ok (.aload_n 0, 1) := by decide +kernel
theorem dX8_done_13 : decode cX8_done 13 = .ok (.getfield 12, 3) := by decide +kernel
theorem dX8_done_16 : decode cX8_done 16 = .ok (.iload_n 1, 1) := by decide +kernel
theorem dX8_done_17 : decode cX8_done 17 = .ok (.invokevirtual 76, 3) := by decide +kernel
theorem dX8_done_20 : decode cX8_done 20 = .ok (.invokevirtual 55, 3) := by decide +kernel
theorem dX8_done_23 : decode cX8_done 23 = .ok (.ireturn, 1) := by decide +kernel
theorem dX8_nextDay_0 : decode cX8_nextDay 0 = .ok (.aload_n 0, 1) := by decide +kernel
theorem dX8_nextDay_1 : decode cX8_nextDay 1 = .ok (.getfield 16, 3) := by decide +kernel
theorem dX8_nextDay_4 : decode cX8_nextDay 4 = .ok (.aload_n 0, 1) := by decide +kernel
theorem dX8_nextDay_5 : decode cX8_nextDay 5 = .ok (.getfield 12, 3) := by decide +kernel
theorem dX8_nextDay_8 : decode cX8_nextDay 8 = .ok (.invokevirtual 47, 3) := by decide +kernel
theorem dX8_nextDay_11 : decode cX8_nextDay 11 = .ok (.aload_n 0, 1) := by decide +kernel
theorem dX8_nextDay_12 : decode cX8_nextDay 12 = .ok (.aload_n 0, 1) := by decide +kernel
theorem dX8_nextDay_13 : decode cX8_nextDay 13 = .ok (.getfield 12, 3) := by decide +kernel
theorem dX8_nextDay_16 : decode cX8_nextDay 16 = .ok (.invokevirtual 79, 3) := by decide +kernel
theorem dX8_nextDay_19 : decode cX8_nextDay 19 = .ok (.invokevirtual 55, 3) := by decide +kernel
theorem dX8_nextDay_22 : decode cX8_nextDay 22 = .ok (.ireturn, 1) := by decide +kernel
theorem dX8_type_0 : decode cX8_type 0 = .ok (.aload_n 0, 1) := by decide +kernel
theorem dX8_type_1 : decode cX8_type 1 = .ok (.getfield 36, 3) := by decide +kernel
theorem dX8_type_4 : decode cX8_type 4 = .ok (.iload_n 1, 1) := by decide +kernel
theorem dX8_type_5 : decode cX8_type 5 = .ok (.invokevirtual 83, 3) := by decide +kernel
theorem dX8_type_8 : decode cX8_type 8 = .ok (.ireturn, 1) := by decide +kernel
theorem dX8_clearText_0 : decode cX8_clearText 0 = .ok (.aload_n 0, 1) := by decide +kernel
theorem dX8_clearText_1 : decode cX8_clearText 1 = .ok (.getfield 36, 3) := by decide +kernel
theorem dX8_clearText_4 : decode cX8_clearText 4 = .ok (.invokevirtual 87, 3) := by decide +kernel
theorem dX8_clearText_7 : decode cX8_clearText 7 = .ok (.ireturn, 1) := by decide +kernel
theorem dX8_perform_0 : decode cX8_perform 0 = .ok (.aload_n 0, 1) := by decide +kernel
theorem dX8_perform_1 : decode cX8_perform 1 = .ok (.getfield 36, 3) := by decide +kernel
theorem dX8_perform_4 : decode cX8_perform 4 = .ok (.invokevirtual 90, 3) := by decide +kernel
theorem dX8_perform_7 : decode cX8_perform 7 = .ok (.istore_n 1, 1) := by decide +kernel
theorem dX8_perform_8 : decode cX8_perform 8 = .ok (.iload_n 1, 1) := by decide +kernel
theorem dX8_perform_9 : decode cX8_perform 9 = .ok (.ifCond .ge 5, 3) := by decide +kernel
theorem dX8_perform_12 : decode cX8_perform 12 = .ok (.iload_n 1, 1) := by decide +kernel
theorem dX8_perform_13 : decode cX8_perform 13 = .ok (.ireturn, 1) := by decide +kernel
theorem dX8_perform_14 : decode cX8_perform 14 = .ok (.aload_n 0, 1) := by decide +kernel
theorem dX8_perform_15 : decode cX8_perform 15 = .ok (.getfield 16, 3) := by decide +kernel
theorem dX8_perform_18 : decode cX8_perform 18 = .ok (.aload_n 0, 1) := by decide +kernel
theorem dX8_perform_19 : decode cX8_perform 19 = .ok (.getfield 12, 3) := by decide +kernel
theorem dX8_perform_22 : decode cX8_perform 22 = .ok (.invokevirtual 47, 3) := by decide +kernel
theorem dX8_perform_25 : decode cX8_perform 25 = .ok (.aload_n 0, 1) := by decide +kernel
theorem dX8_perform_26 : decode cX8_perform 26 = .ok (.getfield 36, 3) := by decide +kernel
theorem dX8_perform_29 : decode cX8_perform 29 = .ok (.invokevirtual 93, 3) := by decide +kernel
theorem dX8_perform_32 : decode cX8_perform 32 = .ok (.iconst 0, 1) := by decide +kernel
theorem dX8_perform_33 : decode cX8_perform 33 = .ok (.istore_n 2, 1) := by decide +kernel
theorem dX8_perform_34 : decode cX8_perform 34 = .ok (.iload_n 2, 1) := by decide +kernel
theorem dX8_perform_35 : decode cX8_perform 35 = .ok (.iload_n 1, 1) := by decide +kernel
theorem dX8_perform_36 : decode cX8_perform 36 = .ok (.if_icmp .ge 59, 3) := by decide +kernel
theorem dX8_perform_39 : decode cX8_perform 39 = .ok (.aload_n 0, 1) := by decide +kernel
theorem dX8_perform_40 : decode cX8_perform 40 = .ok (.getfield 36, 3) := by decide +kernel
theorem dX8_perform_43 : decode cX8_perform 43 = .ok (.invokevirtual 96, 3) := by decide +kernel
theorem dX8_perform_46 : decode cX8_perform 46 = .ok (.aload_n 0, 1) := by decide +kernel
theorem dX8_perform_47 : decode cX8_perform 47 = .ok (.aload_n 0, 1) := by decide +kernel
theorem dX8_perform_48 : decode cX8_perform 48 = .ok (.getfield 36, 3) := by decide +kernel
theorem dX8_perform_51 : decode cX8_perform 51 = .ok (.invokevirtual 99, 3) := by decide +kernel
theorem dX8_perform_54 : decode cX8_perform 54 = .ok (.istore_n 3, 1) := by decide +kernel
theorem dX8_perform_55 : decode cX8_perform 55 = .ok (.iload_n 3, 1) := by decide +kernel
theorem dX8_perform_56 : decode cX8_perform 56 = .ok (.ifCond .ge 33, 3) := by decide +kernel
theorem dX8_perform_59 : decode cX8_perform 59 = .ok (.iload_n 3, 1) := by decide +kernel
theorem dX8_perform_60 : decode cX8_perform 60 = .ok (.bipush (-5), 2) := by decide +kernel
theorem dX8_perform_62 : decode cX8_perform 62 = .ok (.if_icmp .eq 27, 3) := by decide +kernel
theorem dX8_perform_65 : decode cX8_perform 65 = .ok (.aload_n 0, 1) := by decide +kernel
theorem dX8_perform_66 : decode cX8_perform 66 = .ok (.getfield 12, 3) := by decide +kernel
theorem dX8_perform_69 : decode cX8_perform 69 = .ok (.aload_n 0, 1) := by decide +kernel
theorem dX8_perform_70 : decode cX8_perform 70 = .ok (.getfield 16, 3) := by decide +kernel
theorem dX8_perform_73 : decode cX8_perform 73 = .ok (.invokevirtual 47, 3) := by decide +kernel
theorem dX8_perform_76 : decode cX8_perform 76 = .ok (.aload_n 0, 1) := by decide +kernel
theorem dX8_perform_77 : decode cX8_perform 77 = .ok (.iload_n 2, 1) := by decide +kernel
theorem dX8_perform_78 : decode cX8_perform 78 = .ok (.putfield 40, 3) := by decide +kernel
theorem dX8_perform_81 : decode cX8_perform 81 = .ok (.aload_n 0, 1) := by decide +kernel
theorem dX8_perform_82 : decode cX8_perform 82 = .ok (.iload_n 3, 1) := by decide +kernel
theorem dX8_perform_83 : decode cX8_perform 83 = .ok (.putfield 44, 3) := by decide +kernel
theorem dX8_perform_86 : decode cX8_perform 86 = .ok (.bipush (-4), 2) := by decide +kernel
theorem dX8_perform_88 : decode cX8_perform 88 = .ok (.ireturn, 1) := by decide +kernel
theorem dX8_perform_89 : decode cX8_perform 89 = .ok (.iinc 2 1, 3) := by decide +kernel
theorem dX8_perform_92 : decode cX8_perform 92 = .ok (.goto (-58), 3) := by decide +kernel
theorem dX8_perform_95 : decode cX8_perform 95 = .ok (.aload_n 0, 1) := by decide +kernel
theorem dX8_perform_96 : decode cX8_perform 96 = .ok (.iload_n 1, 1) := by decide +kernel
theorem dX8_perform_97 : decode cX8_perform 97 = .ok (.invokevirtual 55, 3) := by decide +kernel
theorem dX8_perform_100 : decode cX8_perform 100 = .ok (.ireturn, 1) := by decide +kernel
theorem dX8_stopped_0 : decode cX8_stopped 0 = .ok (.iload_n 1, 1) := by decide +kernel
theorem dX8_stopped_1 : decode cX8_stopped 1 = .ok (.lookupswitch 37 #[(0, 27), (1, 32)], 27) := by decide +kernel
theorem dX8_stopped_28 : decode cX8_stopped 28 = .ok (.aload_n 0, 1) := by decide +kernel
theorem dX8_stopped_29 : decode cX8_stopped 29 = .ok (.getfield 40, 3) := by decide +kernel
theorem dX8_stopped_32 : decode cX8_stopped 32 = .ok (.ireturn, 1) := by decide +kernel
theorem dX8_stopped_33 : decode cX8_stopped 33 = .ok (.aload_n 0, 1) := by decide +kernel
theorem dX8_stopped_34 : decode cX8_stopped 34 = .ok (.getfield 44, 3) := by decide +kernel
theorem dX8_stopped_37 : decode cX8_stopped 37 = .ok (.ireturn, 1) := by decide +kernel
theorem dX8_stopped_38 : decode cX8_stopped 38 = .ok (.bipush (-2), 2) := by decide +kernel
theorem dX8_stopped_40 : decode cX8_stopped 40 = .ok (.ireturn, 1) := by decide +kernel
theorem dX8_undo_0 : decode cX8_undo 0 = .ok (.aload_n 0, 1) := by decide +kernel
theorem dX8_undo_1 : decode cX8_undo 1 = .ok (.getfield 22, 3) := by decide +kernel
theorem dX8_undo_4 : decode cX8_undo 4 = .ok (.aload_n 0, 1) := by decide +kernel
theorem dX8_undo_5 : decode cX8_undo 5 = .ok (.getfield 12, 3) := by decide +kernel
theorem dX8_undo_8 : decode cX8_undo 8 = .ok (.invokevirtual 103, 3) := by decide +kernel
theorem dX8_undo_11 : decode cX8_undo 11 = .ok (.ifCond .eq 13, 3) := by decide +kernel
theorem dX8_undo_14 : decode cX8_undo 14 = .ok (.aload_n 0, 1) := by decide +kernel
theorem dX8_undo_15 : decode cX8_undo 15 = .ok (.getfield 22, 3) := by decide +kernel
theorem dX8_undo_18 : decode cX8_undo 18 = .ok (.invokevirtual 107, 3) := by decide +kernel
theorem dX8_undo_21 : decode cX8_undo 21 = .ok (.goto 5, 3) := by decide +kernel
theorem dX8_undo_24 : decode cX8_undo 24 = .ok (.bipush (-5), 2) := by decide +kernel
theorem dX8_undo_26 : decode cX8_undo 26 = .ok (.ireturn, 1) := by decide +kernel
theorem dX8_keep_0 : decode cX8_keep 0 = .ok (.aload_n 0, 1) := by decide +kernel
theorem dX8_keep_1 : decode cX8_keep 1 = .ok (.getfield 26, 3) := by decide +kernel
theorem dX8_keep_4 : decode cX8_keep 4 = .ok (.aload_n 0, 1) := by decide +kernel
theorem dX8_keep_5 : decode cX8_keep 5 = .ok (.getfield 12, 3) := by decide +kernel
theorem dX8_keep_8 : decode cX8_keep 8 = .ok (.invokevirtual 47, 3) := by decide +kernel
theorem dX8_keep_11 : decode cX8_keep 11 = .ok (.aload_n 0, 1) := by decide +kernel
theorem dX8_keep_12 : decode cX8_keep 12 = .ok (.iconst 1, 1) := by decide +kernel
theorem dX8_keep_13 : decode cX8_keep 13 = .ok (.putfield 29, 3) := by decide +kernel
theorem dX8_keep_16 : decode cX8_keep 16 = .ok (.aload_n 0, 1) := by decide +kernel
theorem dX8_keep_17 : decode cX8_keep 17 = .ok (.getfield 12, 3) := by decide +kernel
theorem dX8_keep_20 : decode cX8_keep 20 = .ok (.getfield 110, 3) := by decide +kernel
theorem dX8_keep_23 : decode cX8_keep 23 = .ok (.invokevirtual 114, 3) := by decide +kernel
theorem dX8_keep_26 : decode cX8_keep 26 = .ok (.ireturn, 1) := by decide +kernel
theorem dX8_restore_0 : decode cX8_restore 0 = .ok (.aload_n 0, 1) := by decide +kernel
theorem dX8_restore_1 : decode cX8_restore 1 = .ok (.getfield 29, 3) := by decide +kernel
theorem dX8_restore_4 : decode cX8_restore 4 = .ok (.ifCond .ne 6, 3) := by decide +kernel
theorem dX8_restore_7 : decode cX8_restore 7 = .ok (.bipush (-5), 2) := by decide +kernel
theorem dX8_restore_9 : decode cX8_restore 9 = .ok (.ireturn, 1) := by decide +kernel
theorem dX8_restore_10 : decode cX8_restore 10 = .ok (.aload_n 0, 1) := by decide +kernel
theorem dX8_restore_11 : decode cX8_restore 11 = .ok (.getfield 16, 3) := by decide +kernel
theorem dX8_restore_14 : decode cX8_restore 14 = .ok (.aload_n 0, 1) := by decide +kernel
theorem dX8_restore_15 : decode cX8_restore 15 = .ok (.getfield 12, 3) := by decide +kernel
theorem dX8_restore_18 : decode cX8_restore 18 = .ok (.invokevirtual 47, 3) := by decide +kernel
theorem dX8_restore_21 : decode cX8_restore 21 = .ok (.aload_n 0, 1) := by decide +kernel
theorem dX8_restore_22 : decode cX8_restore 22 = .ok (.getfield 12, 3) := by decide +kernel
theorem dX8_restore_25 : decode cX8_restore 25 = .ok (.aload_n 0, 1) := by decide +kernel
theorem dX8_restore_26 : decode cX8_restore 26 = .ok (.getfield 26, 3) := by decide +kernel
theorem dX8_restore_29 : decode cX8_restore 29 = .ok (.invokevirtual 47, 3) := by decide +kernel
theorem dX8_restore_32 : decode cX8_restore 32 = .ok (.aload_n 0, 1) := by decide +kernel
theorem dX8_restore_33 : decode cX8_restore 33 = .ok (.aload_n 0, 1) := by decide +kernel
theorem dX8_restore_34 : decode cX8_restore 34 = .ok (.getfield 12, 3) := by decide +kernel
theorem dX8_restore_37 : decode cX8_restore 37 = .ok (.getfield 110, 3) := by decide +kernel
theorem dX8_restore_40 : decode cX8_restore 40 = .ok (.invokevirtual 114, 3) := by decide +kernel
theorem dX8_restore_43 : decode cX8_restore 43 = .ok (.invokevirtual 55, 3) := by decide +kernel
theorem dX8_restore_46 : decode cX8_restore 46 = .ok (.ireturn, 1) := by decide +kernel
theorem dX8_firm_0 : decode cX8_firm 0 = .ok (.iload_n 1, 1) := by decide +kernel
theorem dX8_firm_1 : decode cX8_firm 1 = .ok (.invokestatic 119, 3) := by decide +kernel
theorem dX8_firm_4 : decode cX8_firm 4 = .ok (.ifCond .ne 5, 3) := by decide +kernel
theorem dX8_firm_7 : decode cX8_firm 7 = .ok (.iconst (-1), 1) := by decide +kernel
theorem dX8_firm_8 : decode cX8_firm 8 = .ok (.ireturn, 1) := by decide +kernel
theorem dX8_firm_9 : decode cX8_firm 9 = .ok (.iload_n 2, 1) := by decide +kernel
theorem dX8_firm_10 : decode cX8_firm 10 = .ok (.tableswitch 135 0 6 #[42, 57, 69, 81, 90, 105, 120], 42) := by decide +kernel
theorem dX8_firm_52 : decode cX8_firm 52 = .ok (.aload_n 0, 1) := by decide +kernel
theorem dX8_firm_53 : decode cX8_firm 53 = .ok (.getfield 12, 3) := by decide +kernel
theorem dX8_firm_56 : decode cX8_firm 56 = .ok (.getfield 123, 3) := by decide +kernel
theorem dX8_firm_59 : decode cX8_firm 59 = .ok (.getfield 127, 3) := by decide +kernel
theorem dX8_firm_62 : decode cX8_firm 62 = .ok (.iload_n 1, 1) := by decide +kernel
theorem dX8_firm_63 : decode cX8_firm 63 = .ok (.invokestatic 133, 3) := by decide +kernel
theorem dX8_firm_66 : decode cX8_firm 66 = .ok (.ireturn, 1) := by decide +kernel
theorem dX8_firm_67 : decode cX8_firm 67 = .ok (.aload_n 0, 1) := by decide +kernel
theorem dX8_firm_68 : decode cX8_firm 68 = .ok (.getfield 12, 3) := by decide +kernel
theorem dX8_firm_71 : decode cX8_firm 71 = .ok (.getfield 110, 3) := by decide +kernel
theorem dX8_firm_74 : decode cX8_firm 74 = .ok (.iload_n 1, 1) := by decide +kernel
theorem dX8_firm_75 : decode cX8_firm 75 = .ok (.invokevirtual 139, 3) := by decide +kernel
theorem dX8_firm_78 : decode cX8_firm 78 = .ok (.ireturn, 1) := by decide +kernel
theorem dX8_firm_79 : decode cX8_firm 79 = .ok (.aload_n 0, 1) := by decide +kernel
theorem dX8_firm_80 : decode cX8_firm 80 = .ok (.getfield 12, 3) := by decide +kernel
theorem dX8_firm_83 : decode cX8_firm 83 = .ok (.getfield 110, 3) := by decide +kernel
theorem dX8_firm_86 : decode cX8_firm 86 = .ok (.iload_n 1, 1) := by decide +kernel
theorem dX8_firm_87 : decode cX8_firm 87 = .ok (.invokevirtual 142, 3) := by decide +kernel
theorem dX8_firm_90 : decode cX8_firm 90 = .ok (.ireturn, 1) := by decide +kernel
theorem dX8_firm_91 : decode cX8_firm 91 = .ok (.aload_n 0, 1) := by decide +kernel
theorem dX8_firm_92 : decode cX8_firm 92 = .ok (.getfield 12, 3) := by decide +kernel
theorem dX8_firm_95 : decode cX8_firm 95 = .ok (.iload_n 1, 1) := by decide +kernel
theorem dX8_firm_96 : decode cX8_firm 96 = .ok (.invokevirtual 145, 3) := by decide +kernel
theorem dX8_firm_99 : decode cX8_firm 99 = .ok (.ireturn, 1) := by decide +kernel
theorem dX8_firm_100 : decode cX8_firm 100 = .ok (.aload_n 0, 1) := by decide +kernel
theorem dX8_firm_101 : decode cX8_firm 101 = .ok (.getfield 12, 3) := by decide +kernel
theorem dX8_firm_104 : decode cX8_firm 104 = .ok (.getfield 123, 3) := by decide +kernel
theorem dX8_firm_107 : decode cX8_firm 107 = .ok (.getfield 148, 3) := by decide +kernel
theorem dX8_firm_110 : decode cX8_firm 110 = .ok (.iload_n 1, 1) := by decide +kernel
theorem dX8_firm_111 : decode cX8_firm 111 = .ok (.invokestatic 133, 3) := by decide +kernel
theorem dX8_firm_114 : decode cX8_firm 114 = .ok (.ireturn, 1) := by decide +kernel
theorem dX8_firm_115 : decode cX8_firm 115 = .ok (.aload_n 0, 1) := by decide +kernel
theorem dX8_firm_116 : decode cX8_firm 116 = .ok (.getfield 12, 3) := by decide +kernel
theorem dX8_firm_119 : decode cX8_firm 119 = .ok (.getfield 123, 3) := by decide +kernel
theorem dX8_firm_122 : decode cX8_firm 122 = .ok (.getfield 151, 3) := by decide +kernel
theorem dX8_firm_125 : decode cX8_firm 125 = .ok (.iload_n 1, 1) := by decide +kernel
theorem dX8_firm_126 : decode cX8_firm 126 = .ok (.invokestatic 133, 3) := by decide +kernel
theorem dX8_firm_129 : decode cX8_firm 129 = .ok (.ireturn, 1) := by decide +kernel
theorem dX8_firm_130 : decode cX8_firm 130 = .ok (.aload_n 0, 1) := by decide +kernel
theorem dX8_firm_131 : decode cX8_firm 131 = .ok (.getfield 12, 3) := by decide +kernel
theorem dX8_firm_134 : decode cX8_firm 134 = .ok (.getfield 123, 3) := by decide +kernel
theorem dX8_firm_137 : decode cX8_firm 137 = .ok (.getfield 154, 3) := by decide +kernel
theorem dX8_firm_140 : decode cX8_firm 140 = .ok (.iload_n 1, 1) := by decide +kernel
theorem dX8_firm_141 : decode cX8_firm 141 = .ok (.invokestatic 133, 3) := by decide +kernel
theorem dX8_firm_144 : decode cX8_firm 144 = .ok (.ireturn, 1) := by decide +kernel
theorem dX8_firm_145 : decode cX8_firm 145 = .ok (.bipush (-2), 2) := by decide +kernel
theorem dX8_firm_147 : decode cX8_firm 147 = .ok (.ireturn, 1) := by decide +kernel
theorem dX8_slot_0 : decode cX8_slot 0 = .ok (.iload_n 1, 1) := by decide +kernel
theorem dX8_slot_1 : decode cX8_slot 1 = .ok (.iload_n 2, 1) := by decide +kernel
theorem dX8_slot_2 : decode cX8_slot 2 = .ok (.invokestatic 157, 3) := by decide +kernel
theorem dX8_slot_5 : decode cX8_slot 5 = .ok (.ifCond .ne 5, 3) := by decide +kernel
theorem dX8_slot_8 : decode cX8_slot 8 = .ok (.iconst (-1), 1) := by decide +kernel
theorem dX8_slot_9 : decode cX8_slot 9 = .ok (.ireturn, 1) := by decide +kernel
theorem dX8_slot_10 : decode cX8_slot 10 = .ok (.iload_n 1, 1) := by decide +kernel
theorem dX8_slot_11 : decode cX8_slot 11 = .ok (.iload_n 2, 1) := by decide +kernel
theorem dX8_slot_12 : decode cX8_slot 12 = .ok (.invokestatic 161, 3) := by decide +kernel
theorem dX8_slot_15 : decode cX8_slot 15 = .ok (.istore 4, 2) := by decide +kernel
theorem dX8_slot_17 : decode cX8_slot 17 = .ok (.iload_n 3, 1) := by decide +kernel
theorem dX8_slot_18 : decode cX8_slot 18 = .ok (.tableswitch 166 0 6 #[42, 55, 71, 87, 100, 117, 134], 42) := by decide +kernel
theorem dX8_slot_60 : decode cX8_slot 60 = .ok (.aload_n 0, 1) := by decide +kernel
theorem dX8_slot_61 : decode cX8_slot 61 = .ok (.getfield 12, 3) := by decide +kernel
theorem dX8_slot_64 : decode cX8_slot 64 = .ok (.getfield 164, 3) := by decide +kernel
theorem dX8_slot_67 : decode cX8_slot 67 = .ok (.iload 4, 2) := by decide +kernel
theorem dX8_slot_69 : decode cX8_slot 69 = .ok (.invokevirtual 168, 3) := by decide +kernel
theorem dX8_slot_72 : decode cX8_slot 72 = .ok (.ireturn, 1) := by decide +kernel
theorem dX8_slot_73 : decode cX8_slot 73 = .ok (.aload_n 0, 1) := by decide +kernel
theorem dX8_slot_74 : decode cX8_slot 74 = .ok (.getfield 12, 3) := by decide +kernel
theorem dX8_slot_77 : decode cX8_slot 77 = .ok (.getfield 164, 3) := by decide +kernel
theorem dX8_slot_80 : decode cX8_slot 80 = .ok (.getfield 173, 3) := by decide +kernel
theorem dX8_slot_83 : decode cX8_slot 83 = .ok (.iload 4, 2) := by decide +kernel
theorem dX8_slot_85 : decode cX8_slot 85 = .ok (.invokestatic 133, 3) := by decide +kernel
theorem dX8_slot_88 : decode cX8_slot 88 = .ok (.ireturn, 1) := by decide +kernel
theorem dX8_slot_89 : decode cX8_slot 89 = .ok (.aload_n 0, 1) := by decide +kernel
theorem dX8_slot_90 : decode cX8_slot 90 = .ok (.getfield 12, 3) := by decide +kernel
theorem dX8_slot_93 : decode cX8_slot 93 = .ok (.getfield 164, 3) := by decide +kernel
theorem dX8_slot_96 : decode cX8_slot 96 = .ok (.getfield 176, 3) := by decide +kernel
theorem dX8_slot_99 : decode cX8_slot 99 = .ok (.iload 4, 2) := by decide +kernel
theorem dX8_slot_101 : decode cX8_slot 101 = .ok (.invokestatic 133, 3) := by decide +kernel
theorem dX8_slot_104 : decode cX8_slot 104 = .ok (.ireturn, 1) := by decide +kernel
theorem dX8_slot_105 : decode cX8_slot 105 = .ok (.aload_n 0, 1) := by decide +kernel
theorem dX8_slot_106 : decode cX8_slot 106 = .ok (.getfield 12, 3) := by decide +kernel
theorem dX8_slot_109 : decode cX8_slot 109 = .ok (.getfield 110, 3) := by decide +kernel
theorem dX8_slot_112 : decode cX8_slot 112 = .ok (.iload 4, 2) := by decide +kernel
theorem dX8_slot_114 : decode cX8_slot 114 = .ok (.invokevirtual 179, 3) := by decide +kernel
theorem dX8_slot_117 : decode cX8_slot 117 = .ok (.ireturn, 1) := by decide +kernel
theorem dX8_slot_118 : decode cX8_slot 118 = .ok (.aload_n 0, 1) := by decide +kernel
theorem dX8_slot_119 : decode cX8_slot 119 = .ok (.getfield 12, 3) := by decide +kernel
theorem dX8_slot_122 : decode cX8_slot 122 = .ok (.getfield 110, 3) := by decide +kernel
theorem dX8_slot_125 : decode cX8_slot 125 = .ok (.iload 4, 2) := by decide +kernel
theorem dX8_slot_127 : decode cX8_slot 127 = .ok (.bipush 60, 2) := by decide +kernel
theorem dX8_slot_129 : decode cX8_slot 129 = .ok (.bipush (-5), 2) := by decide +kernel
theorem dX8_slot_131 : decode cX8_slot 131 = .ok (.invokevirtual 182, 3) := by decide +kernel
theorem dX8_slot_134 : decode cX8_slot 134 = .ok (.ireturn, 1) := by decide +kernel
theorem dX8_slot_135 : decode cX8_slot 135 = .ok (.aload_n 0, 1) := by decide +kernel
theorem dX8_slot_136 : decode cX8_slot 136 = .ok (.getfield 12, 3) := by decide +kernel
theorem dX8_slot_139 : decode cX8_slot 139 = .ok (.iload_n 2, 1) := by decide +kernel
theorem dX8_slot_140 : decode cX8_slot 140 = .ok (.invokevirtual 185, 3) := by decide +kernel
theorem dX8_slot_143 : decode cX8_slot 143 = .ok (.ifCond .eq 7, 3) := by decide +kernel
theorem dX8_slot_146 : decode cX8_slot 146 = .ok (.iconst 1, 1) := by decide +kernel
theorem dX8_slot_147 : decode cX8_slot 147 = .ok (.goto 4, 3) := by decide +kernel
theorem dX8_slot_150 : decode cX8_slot 150 = .ok (.iconst 0, 1) := by decide +kernel
theorem dX8_slot_151 : decode cX8_slot 151 = .ok (.ireturn, 1) := by decide +kernel
theorem dX8_slot_152 : decode cX8_slot 152 = .ok (.aload_n 0, 1) := by decide +kernel
theorem dX8_slot_153 : decode cX8_slot 153 = .ok (.getfield 12, 3) := by decide +kernel
theorem dX8_slot_156 : decode cX8_slot 156 = .ok (.iload_n 2, 1) := by decide +kernel
theorem dX8_slot_157 : decode cX8_slot 157 = .ok (.invokevirtual 185, 3) := by decide +kernel
theorem dX8_slot_160 : decode cX8_slot 160 = .ok (.ifCond .eq 21, 3) := by decide +kernel
theorem dX8_slot_163 : decode cX8_slot 163 = .ok (.aload_n 0, 1) := by decide +kernel
theorem dX8_slot_164 : decode cX8_slot 164 = .ok (.getfield 12, 3) := by decide +kernel
theorem dX8_slot_167 : decode cX8_slot 167 = .ok (.getfield 164, 3) := by decide +kernel
theorem dX8_slot_170 : decode cX8_slot 170 = .ok (.getfield 188, 3) := by decide +kernel
theorem dX8_slot_173 : decode cX8_slot 173 = .ok (.iload 4, 2) := by decide +kernel
theorem dX8_slot_175 : decode cX8_slot 175 = .ok (.invokestatic 133, 3) := by decide +kernel
theorem dX8_slot_178 : decode cX8_slot 178 = .ok (.goto 5, 3) := by decide +kernel
theorem dX8_slot_181 : decode cX8_slot 181 = .ok (.bipush (-5), 2) := by decide +kernel
theorem dX8_slot_183 : decode cX8_slot 183 = .ok (.ireturn, 1) := by decide +kernel
theorem dX8_slot_184 : decode cX8_slot 184 = .ok (.bipush (-2), 2) := by decide +kernel
theorem dX8_slot_186 : decode cX8_slot 186 = .ok (.ireturn, 1) := by decide +kernel
theorem dX8_wouldCost_0 : decode cX8_wouldCost 0 = .ok (.aload_n 0, 1) := by decide +kernel
theorem dX8_wouldCost_1 : decode cX8_wouldCost 1 = .ok (.getfield 12, 3) := by decide +kernel
theorem dX8_wouldCost_4 : decode cX8_wouldCost 4 = .ok (.iload_n 1, 1) := by decide +kernel
theorem dX8_wouldCost_5 : decode cX8_wouldCost 5 = .ok (.iload_n 2, 1) := by decide +kernel
theorem dX8_wouldCost_6 : decode cX8_wouldCost 6 = .ok (.iload_n 3, 1) := by decide +kernel
theorem dX8_wouldCost_7 : decode cX8_wouldCost 7 = .ok (.iload 4, 2) := by decide +kernel
theorem dX8_wouldCost_9 : decode cX8_wouldCost 9 = .ok (.iload 5, 2) := by decide +kernel
theorem dX8_wouldCost_11 : decode cX8_wouldCost 11 = .ok (.invokevirtual 191, 3) := by decide +kernel
theorem dX8_wouldCost_14 : decode cX8_wouldCost 14 = .ok (.istore 6, 2) := by decide +kernel
theorem dX8_wouldCost_16 : decode cX8_wouldCost 16 = .ok (.iload 6, 2) := by decide +kernel
theorem dX8_wouldCost_18 : decode cX8_wouldCost 18 = .ok (.ifCond .ge 8, 3) := by decide +kernel
theorem dX8_wouldCost_21 : decode cX8_wouldCost 21 = .ok (.iload 6, 2) := by decide +kernel
theorem dX8_wouldCost_23 : decode cX8_wouldCost 23 = .ok (.goto 17, 3) := by decide +kernel
theorem dX8_wouldCost_26 : decode cX8_wouldCost 26 = .ok (.aload_n 0, 1) := by decide +kernel
theorem dX8_wouldCost_27 : decode cX8_wouldCost 27 = .ok (.getfield 12, 3) := by decide +kernel
theorem dX8_wouldCost_30 : decode cX8_wouldCost 30 = .ok (.iload_n 1, 1) := by decide +kernel
theorem dX8_wouldCost_31 : decode cX8_wouldCost 31 = .ok (.iload_n 2, 1) := by decide +kernel
theorem dX8_wouldCost_32 : decode cX8_wouldCost 32 = .ok (.iload_n 3, 1) := by decide +kernel
theorem dX8_wouldCost_33 : decode cX8_wouldCost 33 = .ok (.iload 4, 2) := by decide +kernel
theorem dX8_wouldCost_35 : decode cX8_wouldCost 35 = .ok (.iload 5, 2) := by decide +kernel
theorem dX8_wouldCost_37 : decode cX8_wouldCost 37 = .ok (.invokevirtual 194, 3) := by decide +kernel
theorem dX8_wouldCost_40 : decode cX8_wouldCost 40 = .ok (.ireturn, 1) := by decide +kernel
theorem dX8_heaviest_0 : decode cX8_heaviest 0 = .ok (.iload_n 1, 1) := by decide +kernel
theorem dX8_heaviest_1 : decode cX8_heaviest 1 = .ok (.iload_n 2, 1) := by decide +kernel
theorem dX8_heaviest_2 : decode cX8_heaviest 2 = .ok (.invokestatic 157, 3) := by decide +kernel
theorem dX8_heaviest_5 : decode cX8_heaviest 5 = .ok (.ifCond .eq 15, 3) := by decide +kernel
theorem dX8_heaviest_8 : decode cX8_heaviest 8 = .ok (.aload_n 0, 1) := by decide +kernel
theorem dX8_heaviest_9 : decode cX8_heaviest 9 = .ok (.getfield 12, 3) := by decide +kernel
theorem dX8_heaviest_12 : decode cX8_heaviest 12 = .ok (.iload_n 1, 1) := by decide +kernel
theorem dX8_heaviest_13 : decode cX8_heaviest 13 = .ok (.iload_n 2, 1) := by decide +kernel
theorem dX8_heaviest_14 : decode cX8_heaviest 14 = .ok (.invokevirtual 197, 3) := by decide +kernel
theorem dX8_heaviest_17 : decode cX8_heaviest 17 = .ok (.goto 4, 3) := by decide +kernel
theorem dX8_heaviest_20 : decode cX8_heaviest 20 = .ok (.iconst (-1), 1) := by decide +kernel
theorem dX8_heaviest_21 : decode cX8_heaviest 21 = .ok (.ireturn, 1) := by decide +kernel
theorem dX8_wind_0 : decode cX8_wind 0 = .ok (.iload_n 1, 1) := by decide +kernel
theorem dX8_wind_1 : decode cX8_wind 1 = .ok (.invokestatic 200, 3) := by decide +kernel
theorem dX8_wind_4 : decode cX8_wind 4 = .ok (.ifCond .ne 5, 3) := by decide +kernel
theorem dX8_wind_7 : decode cX8_wind 7 = .ok (.iconst (-1), 1) := by decide +kernel
theorem dX8_wind_8 : decode cX8_wind 8 = .ok (.ireturn, 1) := by decide +kernel
theorem dX8_wind_9 : decode cX8_wind 9 = .ok (.aload_n 0, 1) := by decide +kernel
theorem dX8_wind_10 : decode cX8_wind 10 = .ok (.getfield 12, 3) := by decide +kernel
theorem dX8_wind_13 : decode cX8_wind 13 = .ok (.iload_n 1, 1) := by decide +kernel
theorem dX8_wind_14 : decode cX8_wind 14 = .ok (.invokevirtual 185, 3) := by decide +kernel
theorem dX8_wind_17 : decode cX8_wind 17 = .ok (.ifCond .eq 13, 3) := by decide +kernel
theorem dX8_wind_20 : decode cX8_wind 20 = .ok (.aload_n 0, 1) := by decide +kernel
theorem dX8_wind_21 : decode cX8_wind 21 = .ok (.getfield 12, 3) := by decide +kernel
theorem dX8_wind_24 : decode cX8_wind 24 = .ok (.getfield 203, 3) := by decide +kernel
theorem dX8_wind_27 : decode cX8_wind 27 = .ok (.goto 10, 3) := by decide +kernel
theorem dX8_wind_30 : decode cX8_wind 30 = .ok (.aload_n 0, 1) := by decide +kernel
theorem dX8_wind_31 : decode cX8_wind 31 = .ok (.getfield 12, 3) := by decide +kernel
theorem dX8_wind_34 : decode cX8_wind 34 = .ok (.getfield 206, 3) := by decide +kernel
theorem dX8_wind_37 : decode cX8_wind 37 = .ok (.iload_n 1, 1) := by decide +kernel
theorem dX8_wind_38 : decode cX8_wind 38 = .ok (.invokestatic 133, 3) := by decide +kernel
theorem dX8_wind_41 : decode cX8_wind 41 = .ok (.ireturn, 1) := by decide +kernel
theorem dX8_cheapest_0 : decode cX8_cheapest 0 = .ok (.iload_n 1, 1) := by decide +kernel
theorem dX8_cheapest_1 : decode cX8_cheapest 1 = .ok (.invokestatic 209, 3) := by decide +kernel
theorem dX8_cheapest_4 : decode cX8_cheapest 4 = .ok (.ifCond .ne 5, 3) := by decide +kernel
theorem dX8_cheapest_7 : decode cX8_cheapest 7 = .ok (.iconst (-1), 1) := by decide +kernel
theorem dX8_cheapest_8 : decode cX8_cheapest 8 = .ok (.ireturn, 1) := by decide +kernel
theorem dX8_cheapest_9 : decode cX8_cheapest 9 = .ok (.iload_n 1, 1) := by decide +kernel
theorem dX8_cheapest_10 : decode cX8_cheapest 10 = .ok (.iload_n 2, 1) := by decide +kernel
theorem dX8_cheapest_11 : decode cX8_cheapest 11 = .ok (.invokestatic 212, 3) := by decide +kernel
theorem dX8_cheapest_14 : decode cX8_cheapest 14 = .ok (.ifCond .eq 15, 3) := by decide +kernel
theorem dX8_cheapest_17 : decode cX8_cheapest 17 = .ok (.aload_n 0, 1) := by decide +kernel
theorem dX8_cheapest_18 : decode cX8_cheapest 18 = .ok (.getfield 12, 3) := by decide +kernel
theorem dX8_cheapest_21 : decode cX8_cheapest 21 = .ok (.iload_n 1, 1) := by decide +kernel
theorem dX8_cheapest_22 : decode cX8_cheapest 22 = .ok (.iload_n 2, 1) := by decide +kernel
theorem dX8_cheapest_23 : decode cX8_cheapest 23 = .ok (.invokevirtual 215, 3) := by decide +kernel
theorem dX8_cheapest_26 : decode cX8_cheapest 26 = .ok (.goto 5, 3) := by decide +kernel
theorem dX8_cheapest_29 : decode cX8_cheapest 29 = .ok (.bipush (-2), 2) := by decide +kernel
theorem dX8_cheapest_31 : decode cX8_cheapest 31 = .ok (.ireturn, 1) := by decide +kernel
theorem dX8_count_0 : decode cX8_count 0 = .ok (.iload_n 1, 1) := by decide +kernel
theorem dX8_count_1 : decode cX8_count 1 = .ok (.lookupswitch 65 #[(10, 35), (14, 49), (15, 57)], 35) := by decide +kernel
theorem dX8_count_36 : decode cX8_count 36 = .ok (.aload_n 0, 1) := by decide +kernel
theorem dX8_count_37 : decode cX8_count 37 = .ok (.getfield 12, 3) := by decide +kernel
theorem dX8_count_40 : decode cX8_count 40 = .ok (.getfield 123, 3) := by decide +kernel
theorem dX8_count_43 : decode cX8_count 43 = .ok (.getfield 127, 3) := by decide +kernel
theorem dX8_count_46 : decode cX8_count 46 = .ok (.invokestatic 218, 3) := by decide +kernel
theorem dX8_count_49 : decode cX8_count 49 = .ok (.ireturn, 1) := by decide +kernel
theorem dX8_count_50 : decode cX8_count 50 = .ok (.aload_n 0, 1) := by decide +kernel
theorem dX8_count_51 : decode cX8_count 51 = .ok (.getfield 22, 3) := by decide +kernel
theorem dX8_count_54 : decode cX8_count 54 = .ok (.invokevirtual 107, 3) := by decide +kernel
theorem dX8_count_57 : decode cX8_count 57 = .ok (.ireturn, 1) := by decide +kernel
theorem dX8_count_58 : decode cX8_count 58 = .ok (.aload_n 0, 1) := by decide +kernel
theorem dX8_count_59 : decode cX8_count 59 = .ok (.getfield 36, 3) := by decide +kernel
theorem dX8_count_62 : decode cX8_count 62 = .ok (.invokevirtual 222, 3) := by decide +kernel
theorem dX8_count_65 : decode cX8_count 65 = .ok (.ireturn, 1) := by decide +kernel
theorem dX8_count_66 : decode cX8_count 66 = .ok (.aload_n 0, 1) := by decide +kernel
theorem dX8_count_67 : decode cX8_count 67 = .ok (.getfield 12, 3) := by decide +kernel
theorem dX8_count_70 : decode cX8_count 70 = .ok (.iload_n 1, 1) := by decide +kernel
theorem dX8_count_71 : decode cX8_count 71 = .ok (.invokevirtual 225, 3) := by decide +kernel
theorem dX8_count_74 : decode cX8_count 74 = .ok (.ireturn, 1) := by decide +kernel
theorem dX8_recorded_0 : decode cX8_recorded 0 = .ok (.iload_n 1, 1) := by decide +kernel
theorem dX8_recorded_1 : decode cX8_recorded 1 = .ok (.ifCond .lt 14, 3) := by decide +kernel
theorem dX8_recorded_4 : decode cX8_recorded 4 = .ok (.aload_n 0, 1) := by decide +kernel
theorem dX8_recorded_5 : decode cX8_recorded 5 = .ok (.getfield 22, 3) := by decide +kernel
theorem dX8_recorded_8 : decode cX8_recorded 8 = .ok (.aload_n 0, 1) := by decide +kernel
theorem dX8_recorded_9 : decode cX8_recorded 9 = .ok (.getfield 16, 3) := by decide +kernel
theorem dX8_recorded_12 : decode cX8_recorded 12 = .ok (.invokevirtual 228, 3) := by decide +kernel
theorem dX8_recorded_15 : decode cX8_recorded 15 = .ok (.iload_n 1, 1) := by decide +kernel
theorem dX8_recorded_16 : decode cX8_recorded 16 = .ok (.ireturn, 1) := by decide +kernel
theorem dX8_performed_0 : decode cX8_performed 0 = .ok (.aload_n 1, 1) := by decide +kernel
theorem dX8_performed_1 : decode cX8_performed 1 = .ok (.getfield 231, 3) := by decide +kernel
theorem dX8_performed_4 : decode cX8_performed 4 = .ok (.tableswitch 88 98 101 #[32, 88, 76, 60], 32) := by decide +kernel
theorem dX8_performed_36 : decode cX8_performed 36 = .ok (.aload_n 0, 1) := by decide +kernel
theorem dX8_performed_37 : decode cX8_performed 37 = .ok (.getfield 12, 3) := by decide +kernel
theorem dX8_performed_40 : decode cX8_performed 40 = .ok (.aload_n 1, 1) := by decide +kernel
theorem dX8_performed_41 : decode cX8_performed 41 = .ok (.getfield 234, 3) := by decide +kernel
theorem dX8_performed_44 : decode cX8_performed 44 = .ok (.aload_n 1, 1) := by decide +kernel
theorem dX8_performed_45 : decode cX8_performed 45 = .ok (.getfield 237, 3) := by decide +kernel
theorem dX8_performed_48 : decode cX8_performed 48 = .ok (.aload_n 1, 1) := by decide +kernel
theorem dX8_performed_49 : decode cX8_performed 49 = .ok (.getfield 240, 3) := by decide +kernel
theorem dX8_performed_52 : decode cX8_performed 52 = .ok (.aload_n 1, 1) := by decide +kernel
theorem dX8_performed_53 : decode cX8_performed 53 = .ok (.getfield 243, 3) := by decide +kernel
theorem dX8_performed_56 : decode cX8_performed 56 = .ok (.aload_n 1, 1) := by decide +kernel
theorem dX8_performed_57 : decode cX8_performed 57 = .ok (.getfield 246, 3) := by decide +kernel
theorem dX8_performed_60 : decode cX8_performed 60 = .ok (.invokevirtual 62, 3) := by decide +kernel
theorem dX8_performed_63 : decode cX8_performed 63 = .ok (.ireturn, 1) := by decide +kernel
theorem dX8_performed_64 : decode cX8_performed 64 = .ok (.aload_n 0, 1) := by decide +kernel
theorem dX8_performed_65 : decode cX8_performed 65 = .ok (.getfield 12, 3) := by decide +kernel
theorem dX8_performed_68 : decode cX8_performed 68 = .ok (.aload_n 1, 1) := by decide +kernel
theorem dX8_performed_69 : decode cX8_performed 69 = .ok (.getfield 240, 3) := by decide +kernel
theorem dX8_performed_72 : decode cX8_performed 72 = .ok (.aload_n 1, 1) := by decide +kernel
theorem dX8_performed_73 : decode cX8_performed 73 = .ok (.getfield 249, 3) := by decide +kernel
theorem dX8_performed_76 : decode cX8_performed 76 = .ok (.invokevirtual 51, 3) := by decide +kernel
theorem dX8_performed_79 : decode cX8_performed 79 = .ok (.ireturn, 1) := by decide +kernel
theorem dX8_performed_80 : decode cX8_performed 80 = .ok (.aload_n 0, 1) := by decide +kernel
theorem dX8_performed_81 : decode cX8_performed 81 = .ok (.getfield 12, 3) := by decide +kernel
theorem dX8_performed_84 : decode cX8_performed 84 = .ok (.aload_n 1, 1) := by decide +kernel
theorem dX8_performed_85 : decode cX8_performed 85 = .ok (.getfield 249, 3) := by decide +kernel
theorem dX8_performed_88 : decode cX8_performed 88 = .ok (.invokevirtual 76, 3) := by decide +kernel
theorem dX8_performed_91 : decode cX8_performed 91 = .ok (.ireturn, 1) := by decide +kernel
theorem dX8_performed_92 : decode cX8_performed 92 = .ok (.aload_n 0, 1) := by decide +kernel
theorem dX8_performed_93 : decode cX8_performed 93 = .ok (.getfield 12, 3) := by decide +kernel
theorem dX8_performed_96 : decode cX8_performed 96 = .ok (.invokevirtual 79, 3) := by decide +kernel
theorem dX8_performed_99 : decode cX8_performed 99 = .ok (.ireturn, 1) := by decide +kernel
theorem dX8_isFirm_0 : decode cX8_isFirm 0 = .ok (.iload_n 0, 1) := by decide +kernel
theorem dX8_isFirm_1 : decode cX8_isFirm 1 = .ok (.ifCond .lt 13, 3) := by decide +kernel
theorem dX8_isFirm_4 : decode cX8_isFirm 4 = .ok (.iload_n 0, 1) := by decide +kernel
theorem dX8_isFirm_5 : decode cX8_isFirm 5 = .ok (.bipush 6, 2) := by decide +kernel
theorem dX8_isFirm_7 : decode cX8_isFirm 7 = .ok (.if_icmp .ge 7, 3) := by decide +kernel
theorem dX8_isFirm_10 : decode cX8_isFirm 10 = .ok (.iconst 1, 1) := by decide +kernel
theorem dX8_isFirm_11 : decode cX8_isFirm 11 = .ok (.goto 4, 3) := by decide +kernel
theorem dX8_isFirm_14 : decode cX8_isFirm 14 = .ok (.iconst 0, 1) := by decide +kernel
theorem dX8_isFirm_15 : decode cX8_isFirm 15 = .ok (.ireturn, 1) := by decide +kernel
theorem dX8_isCrane_0 : decode cX8_isCrane 0 = .ok (.iload_n 0, 1) := by decide +kernel
theorem dX8_isCrane_1 : decode cX8_isCrane 1 = .ok (.ifCond .lt 12, 3) := by decide +kernel
theorem dX8_isCrane_4 : decode cX8_isCrane 4 = .ok (.iload_n 0, 1) := by decide +kernel
theorem dX8_isCrane_5 : decode cX8_isCrane 5 = .ok (.iconst 3, 1) := by decide +kernel
theorem dX8_isCrane_6 : decode cX8_isCrane 6 = .ok (.if_icmp .ge 7, 3) := by decide +kernel
theorem dX8_isCrane_9 : decode cX8_isCrane 9 = .ok (.iconst 1, 1) := by decide +kernel
theorem dX8_isCrane_10 : decode cX8_isCrane 10 = .ok (.goto 4, 3) := by decide +kernel
theorem dX8_isCrane_13 : decode cX8_isCrane 13 = .ok (.iconst 0, 1) := by decide +kernel
theorem dX8_isCrane_14 : decode cX8_isCrane 14 = .ok (.ireturn, 1) := by decide +kernel
theorem dX8_isHour_0 : decode cX8_isHour 0 = .ok (.iload_n 0, 1) := by decide +kernel
theorem dX8_isHour_1 : decode cX8_isHour 1 = .ok (.ifCond .lt 13, 3) := by decide +kernel
theorem dX8_isHour_4 : decode cX8_isHour 4 = .ok (.iload_n 0, 1) := by decide +kernel
theorem dX8_isHour_5 : decode cX8_isHour 5 = .ok (.bipush 16, 2) := by decide +kernel
theorem dX8_isHour_7 : decode cX8_isHour 7 = .ok (.if_icmp .ge 7, 3) := by decide +kernel
theorem dX8_isHour_10 : decode cX8_isHour 10 = .ok (.iconst 1, 1) := by decide +kernel
theorem dX8_isHour_11 : decode cX8_isHour 11 = .ok (.goto 4, 3) := by decide +kernel
theorem dX8_isHour_14 : decode cX8_isHour 14 = .ok (.iconst 0, 1) := by decide +kernel
theorem dX8_isHour_15 : decode cX8_isHour 15 = .ok (.ireturn, 1) := by decide +kernel
theorem dX8_isSlot_0 : decode cX8_isSlot 0 = .ok (.iload_n 0, 1) := by decide +kernel
theorem dX8_isSlot_1 : decode cX8_isSlot 1 = .ok (.invokestatic 209, 3) := by decide +kernel
theorem dX8_isSlot_4 : decode cX8_isSlot 4 = .ok (.ifCond .eq 14, 3) := by decide +kernel
theorem dX8_isSlot_7 : decode cX8_isSlot 7 = .ok (.iload_n 1, 1) := by decide +kernel
theorem dX8_isSlot_8 : decode cX8_isSlot 8 = .ok (.invokestatic 200, 3) := by decide +kernel
theorem dX8_isSlot_11 : decode cX8_isSlot 11 = .ok (.ifCond .eq 7, 3) := by decide +kernel
theorem dX8_isSlot_14 : decode cX8_isSlot 14 = .ok (.iconst 1, 1) := by decide +kernel
theorem dX8_isSlot_15 : decode cX8_isSlot 15 = .ok (.goto 4, 3) := by decide +kernel
theorem dX8_isSlot_18 : decode cX8_isSlot 18 = .ok (.iconst 0, 1) := by decide +kernel
theorem dX8_isSlot_19 : decode cX8_isSlot 19 = .ok (.ireturn, 1) := by decide +kernel
theorem dX8_isLift_0 : decode cX8_isLift 0 = .ok (.iload_n 1, 1) := by decide +kernel
theorem dX8_isLift_1 : decode cX8_isLift 1 = .ok (.iconst 1, 1) := by decide +kernel
theorem dX8_isLift_2 : decode cX8_isLift 2 = .ok (.if_icmp .lt 18, 3) := by decide +kernel
theorem dX8_isLift_5 : decode cX8_isLift 5 = .ok (.iload_n 1, 1) := by decide +kernel
theorem dX8_isLift_6 : decode cX8_isLift 6 = .ok (.getstatic 252, 3) := by decide +kernel
theorem dX8_isLift_9 : decode cX8_isLift 9 = .ok (.iload_n 0, 1) := by decide +kernel
theorem dX8_isLift_10 : decode cX8_isLift 10 = .ok (.invokestatic 133, 3) := by decide +kernel
theorem dX8_isLift_13 : decode cX8_isLift 13 = .ok (.if_icmp .gt 7, 3) := by decide +kernel
theorem dX8_isLift_16 : decode cX8_isLift 16 = .ok (.iconst 1, 1) := by decide +kernel
theorem dX8_isLift_17 : decode cX8_isLift 17 = .ok (.goto 4, 3) := by decide +kernel
theorem dX8_isLift_20 : decode cX8_isLift 20 = .ok (.iconst 0, 1) := by decide +kernel
theorem dX8_isLift_21 : decode cX8_isLift 21 = .ok (.ireturn, 1) := by decide +kernel
theorem dX8_isWind_0 : decode cX8_isWind 0 = .ok (.iload_n 0, 1) := by decide +kernel
theorem dX8_isWind_1 : decode cX8_isWind 1 = .ok (.ifCond .lt 13, 3) := by decide +kernel
theorem dX8_isWind_4 : decode cX8_isWind 4 = .ok (.iload_n 0, 1) := by decide +kernel
theorem dX8_isWind_5 : decode cX8_isWind 5 = .ok (.bipush 99, 2) := by decide +kernel
theorem dX8_isWind_7 : decode cX8_isWind 7 = .ok (.if_icmp .gt 7, 3) := by decide +kernel
theorem dX8_isWind_10 : decode cX8_isWind 10 = .ok (.iconst 1, 1) := by decide +kernel
theorem dX8_isWind_11 : decode cX8_isWind 11 = .ok (.goto 4, 3) := by decide +kernel
theorem dX8_isWind_14 : decode cX8_isWind 14 = .ok (.iconst 0, 1) := by decide +kernel
theorem dX8_isWind_15 : decode cX8_isWind 15 = .ok (.ireturn, 1) := by decide +kernel
theorem dX8_slotOf_0 : decode cX8_slotOf 0 = .ok (.iload_n 0, 1) := by decide +kernel
theorem dX8_slotOf_1 : decode cX8_slotOf 1 = .ok (.bipush 16, 2) := by decide +kernel
theorem dX8_slotOf_3 : decode cX8_slotOf 3 = .ok (.imul, 1) := by decide +kernel
theorem dX8_slotOf_4 : decode cX8_slotOf 4 = .ok (.iload_n 1, 1) := by decide +kernel
theorem dX8_slotOf_5 : decode cX8_slotOf 5 = .ok (.iadd, 1) := by decide +kernel
theorem dX8_slotOf_6 : decode cX8_slotOf 6 = .ok (.ireturn, 1) := by decide +kernel
theorem dX8_heaviestAt_0 : decode cX8_heaviestAt 0 = .ok (.iconst 0, 1) := by decide +kernel
theorem dX8_heaviestAt_1 : decode cX8_heaviestAt 1 = .ok (.getstatic 252, 3) := by decide +kernel
theorem dX8_heaviestAt_4 : decode cX8_heaviestAt 4 = .ok (.iload_n 0, 1) := by decide +kernel
theorem dX8_heaviestAt_5 : decode cX8_heaviestAt 5 = .ok (.invokestatic 133, 3) := by decide +kernel
theorem dX8_heaviestAt_8 : decode cX8_heaviestAt 8 = .ok (.bipush 70, 2) := by decide +kernel
theorem dX8_heaviestAt_10 : decode cX8_heaviestAt 10 = .ok (.iload_n 1, 1) := by decide +kernel
theorem dX8_heaviestAt_11 : decode cX8_heaviestAt 11 = .ok (.isub, 1) := by decide +kernel
theorem dX8_heaviestAt_12 : decode cX8_heaviestAt 12 = .ok (.invokestatic 255, 3) := by decide +kernel
theorem dX8_heaviestAt_15 : decode cX8_heaviestAt 15 = .ok (.invokestatic 260, 3) := by decide +kernel
theorem dX8_heaviestAt_18 : decode cX8_heaviestAt 18 = .ok (.ireturn, 1) := by decide +kernel
theorem dX9_init_0 : decode cX9_init 0 = .ok (.aload_n 0, 1) := by decide +kernel
theorem dX9_init_1 : decode cX9_init 1 = .ok (.invokespecial 1, 3) := by decide +kernel
theorem dX9_init_4 : decode cX9_init 4 = .ok (.aload_n 0, 1) := by decide +kernel
theorem dX9_init_5 : decode cX9_init 5 = .ok (.sipush 5845, 3) := by decide +kernel
theorem dX9_init_8 : decode cX9_init 8 = .ok (.newarray .int, 2) := by decide +kernel
theorem dX9_init_10 : decode cX9_init 10 = .ok (.putfield 7, 3) := by decide +kernel
theorem dX9_init_13 : decode cX9_init 13 = .ok (.aload_n 0, 1) := by decide +kernel
theorem dX9_init_14 : decode cX9_init 14 = .ok (.bipush 80, 2) := by decide +kernel
theorem dX9_init_16 : decode cX9_init 16 = .ok (.newarray .char, 2) := by decide +kernel
theorem dX9_init_18 : decode cX9_init 18 = .ok (.putfield 13, 3) := by decide +kernel
theorem dX9_init_21 : decode cX9_init 21 = .ok (.aload_n 0, 1) := by decide +kernel
theorem dX9_init_22 : decode cX9_init 22 = .ok (.sipush 246, 3) := by decide +kernel
theorem dX9_init_25 : decode cX9_init 25 = .ok (.newarray .int, 2) := by decide +kernel
theorem dX9_init_27 : decode cX9_init 27 = .ok (.putfield 17, 3) := by decide +kernel
theorem dX9_init_30 : decode cX9_init 30 = .ok (.aload_n 0, 1) := by decide +kernel
theorem dX9_init_31 : decode cX9_init 31 = .ok (.iconst (-1), 1) := by decide +kernel
theorem dX9_init_32 : decode cX9_init 32 = .ok (.putfield 20, 3) := by decide +kernel
theorem dX9_init_35 : decode cX9_init 35 = .ok (.iconst 0, 1) := by decide +kernel
theorem dX9_init_36 : decode cX9_init 36 = .ok (.istore_n 1, 1) := by decide +kernel
theorem dX9_init_37 : decode cX9_init 37 = .ok (.iload_n 1, 1) := by decide +kernel
theorem dX9_init_38 : decode cX9_init 38 = .ok (.bipush 6, 2) := by decide +kernel
theorem dX9_init_40 : decode cX9_init 40 = .ok (.if_icmp .ge 19, 3) := by decide +kernel
theorem dX9_init_43 : decode cX9_init 43 = .ok (.aload_n 0, 1) := by decide +kernel
theorem dX9_init_44 : decode cX9_init 44 = .ok (.getfield 7, 3) := by decide +kernel
theorem dX9_init_47 : decode cX9_init 47 = .ok (.iconst 2, 1) := by decide +kernel
theorem dX9_init_48 : decode cX9_init 48 = .ok (.iload_n 1, 1) := by decide +kernel
theorem dX9_init_49 : decode cX9_init 49 = .ok (.iadd, 1) := by decide +kernel
theorem dX9_init_50 : decode cX9_init 50 = .ok (.bipush 100, 2) := by decide +kernel
theorem dX9_init_52 : decode cX9_init 52 = .ok (.iastore, 1) := by decide +kernel
theorem dX9_init_53 : decode cX9_init 53 = .ok (.iinc 1 1, 3) := by decide +kernel
theorem dX9_init_56 : decode cX9_init 56 = .ok (.goto (-19), 3) := by decide +kernel
theorem dX9_init_59 : decode cX9_init 59 = .ok (.aload_n 0, 1) := by decide +kernel
theorem dX9_init_60 : decode cX9_init 60 = .ok (.getfield 7, 3) := by decide +kernel
theorem dX9_init_63 : decode cX9_init 63 = .ok (.bipush 32, 2) := by decide +kernel
theorem dX9_init_65 : decode cX9_init 65 = .ok (.sipush 600, 3) := by decide +kernel
theorem dX9_init_68 : decode cX9_init 68 = .ok (.iastore, 1) := by decide +kernel
theorem dX9_init_69 : decode cX9_init 69 = .ok (.aload_n 0, 1) := by decide +kernel
theorem dX9_init_70 : decode cX9_init 70 = .ok (.iconst 0, 1) := by decide +kernel
theorem dX9_init_71 : decode cX9_init 71 = .ok (.invokevirtual 24, 3) := by decide +kernel
theorem dX9_init_74 : decode cX9_init 74 = .ok (.return_, 1) := by decide +kernel
theorem dX9_in_0 : decode cX9_in 0 = .ok (.iload_n 0, 1) := by decide +kernel
theorem dX9_in_1 : decode cX9_in 1 = .ok (.iload_n 1, 1) := by decide +kernel
theorem dX9_in_2 : decode cX9_in 2 = .ok (.if_icmp .lt 12, 3) := by decide +kernel
theorem dX9_in_5 : decode cX9_in 5 = .ok (.iload_n 0, 1) := by decide +kernel
theorem dX9_in_6 : decode cX9_in 6 = .ok (.iload_n 2, 1) := by decide +kernel
theorem dX9_in_7 : decode cX9_in 7 = .ok (.if_icmp .gt 7, 3) := by decide +kernel
theorem dX9_in_10 : decode cX9_in 10 = .ok (.iconst 1, 1) := by decide +kernel
theorem dX9_in_11 : decode cX9_in 11 = .ok (.goto 4, 3) := by decide +kernel
theorem dX9_in_14 : decode cX9_in 14 = .ok (.iconst 0, 1) := by decide +kernel
theorem dX9_in_15 : decode cX9_in 15 = .ok (.ireturn, 1) := by decide +kernel
theorem dX9_most_0 : decode cX9_most 0 = .ok (.bipush 20, 2) := by decide +kernel
theorem dX9_most_2 : decode cX9_most 2 = .ok (.bipush 20, 2) := by decide +kernel
theorem dX9_most_4 : decode cX9_most 4 = .ok (.iload_n 0, 1) := by decide +kernel
theorem dX9_most_5 : decode cX9_most 5 = .ok (.imul, 1) := by decide +kernel
theorem dX9_most_6 : decode cX9_most 6 = .ok (.iadd, 1) := by decide +kernel
theorem dX9_most_7 : decode cX9_most 7 = .ok (.ireturn, 1) := by decide +kernel
theorem dX9_place_0 : decode cX9_place 0 = .ok (.bipush 16, 2) := by decide +kernel
theorem dX9_place_2 : decode cX9_place 2 = .ok (.iload_n 0, 1) := by decide +kernel
theorem dX9_place_3 : decode cX9_place 3 = .ok (.imul, 1) := by decide +kernel
theorem dX9_place_4 : decode cX9_place 4 = .ok (.iload_n 1, 1) := by decide +kernel
theorem dX9_place_5 : decode cX9_place 5 = .ok (.iadd, 1) := by decide +kernel
theorem dX9_place_6 : decode cX9_place 6 = .ok (.ireturn, 1) := by decide +kernel
theorem dX9_copies_0 : decode cX9_copies 0 = .ok (.iconst 0, 1) := by decide +kernel
theorem dX9_copies_1 : decode cX9_copies 1 = .ok (.istore_n 3, 1) := by decide +kernel
theorem dX9_copies_2 : decode cX9_copies 2 = .ok (.iload_n 3, 1) := by decide +kernel
theorem dX9_copies_3 : decode cX9_copies 3 = .ok (.sipush 835, 3) := by decide +kernel
theorem dX9_copies_6 : decode cX9_copies 6 = .ok (.if_icmp .ge 33, 3) := by decide +kernel
theorem dX9_copies_9 : decode cX9_copies 9 = .ok (.aload_n 0, 1) := by decide +kernel
theorem dX9_copies_10 : decode cX9_copies 10 = .ok (.getfield 7, 3) := by decide +kernel
theorem dX9_copies_13 : decode cX9_copies 13 = .ok (.sipush 835, 3) := by decide +kernel
theorem dX9_copies_16 : decode cX9_copies 16 = .ok (.iload_n 2, 1) := by decide +kernel
theorem dX9_copies_17 : decode cX9_copies 17 = .ok (.imul, 1) := by decide +kernel
theorem dX9_copies_18 : decode cX9_copies 18 = .ok (.iload_n 3, 1) := by decide +kernel
theorem dX9_copies_19 : decode cX9_copies 19 = .ok (.iadd, 1) := by decide +kernel
theorem dX9_copies_20 : decode cX9_copies 20 = .ok (.aload_n 0, 1) := by decide +kernel
theorem dX9_copies_21 : decode cX9_copies 21 = .ok (.getfield 7, 3) := by decide +kernel
theorem dX9_copies_24 : decode cX9_copies 24 = .ok (.sipush 835, 3) := by decide +kernel
theorem dX9_copies_27 : decode cX9_copies 27 = .ok (.iload_n 1, 1) := by decide +kernel
theorem dX9_copies_28 : decode cX9_copies 28 = .ok (.imul, 1) := by decide +kernel
theorem dX9_copies_29 : decode cX9_copies 29 = .ok (.iload_n 3, 1) := by decide +kernel
theorem dX9_copies_30 : decode cX9_copies 30 = .ok (.iadd, 1) := by decide +kernel
theorem dX9_copies_31 : decode cX9_copies 31 = .ok (.iaload, 1) := by decide +kernel
theorem dX9_copies_32 : decode cX9_copies 32 = .ok (.iastore, 1) := by decide +kernel
theorem dX9_copies_33 : decode cX9_copies 33 = .ok (.iinc 3 1, 3) := by decide +kernel
theorem dX9_copies_36 : decode cX9_copies 36 = .ok (.goto (-34), 3) := by decide +kernel
theorem dX9_copies_39 : decode cX9_copies 39 = .ok (.return_, 1) := by decide +kernel
theorem dX9_records_0 : decode cX9_records 0 = .ok (.aload_n 0, 1) := by decide +kernel
theorem dX9_records_1 : decode cX9_records 1 = .ok (.getfield 28, 3) := by decide +kernel
theorem dX9_records_4 : decode cX9_records 4 = .ok (.iconst 4, 1) := by decide +kernel
theorem dX9_records_5 : decode cX9_records 5 = .ok (.if_icmp .ne 34, 3) := by decide +kernel
theorem dX9_records_8 : decode cX9_records 8 = .ok (.iconst 1, 1) := by decide +kernel
theorem dX9_records_9 : decode cX9_records 9 = .ok (.istore_n 1, 1) := by decide +kernel
theorem dX9_records_10 : decode cX9_records 10 = .ok (.iload_n 1, 1) := by decide +kernel
theorem dX9_records_11 : decode cX9_records 11 = .ok (.iconst 4, 1) := by decide +kernel
theorem dX9_records_12 : decode cX9_records 12 = .ok (.if_icmp .ge 17, 3) := by decide +kernel
theorem dX9_records_15 : decode cX9_records 15 = .ok (.aload_n 0, 1) := by decide +kernel
theorem dX9_records_16 : decode cX9_records 16 = .ok (.iload_n 1, 1) := by decide +kernel
theorem dX9_records_17 : decode cX9_records 17 = .ok (.iconst 1, 1) := by decide +kernel
theorem dX9_records_18 : decode cX9_records 18 = .ok (.iadd, 1) := by decide +kernel
theorem dX9_records_19 : decode cX9_records 19 = .ok (.iload_n 1, 1) := by decide +kernel
theorem dX9_records_20 : decode cX9_records 20 = .ok (.invokevirtual 31, 3) := by decide +kernel
theorem dX9_records_23 : decode cX9_records 23 = .ok (.iinc 1 1, 3) := by decide +kernel
theorem dX9_records_26 : decode cX9_records 26 = .ok (.goto (-16), 3) := by decide +kernel
theorem dX9_records_29 : decode cX9_records 29 = .ok (.aload_n 0, 1) := by decide +kernel
theorem dX9_records_30 : decode cX9_records 30 = .ok (.dup, 1) := by decide +kernel
theorem dX9_records_31 : decode cX9_records 31 = .ok (.getfield 28, 3) := by decide +kernel
theorem dX9_records_34 : decode cX9_records 34 = .ok (.iconst 1, 1) := by decide +kernel
theorem dX9_records_35 : decode cX9_records 35 = .ok (.isub, 1) := by decide +kernel
theorem dX9_records_36 : decode cX9_records 36 = .ok (.putfield 28, 3) := by decide +kernel
theorem dX9_records_39 : decode cX9_records 39 = .ok (.aload_n 0, 1) := by decide +kernel
theorem dX9_records_40 : decode cX9_records 40 = .ok (.dup, 1) := by decide +kernel
theorem dX9_records_41 : decode cX9_records 41 = .ok (.getfield 28, 3) := by decide +kernel
theorem dX9_records_44 : decode cX9_records 44 = .ok (.iconst 1, 1) := by decide +kernel
theorem dX9_records_45 : decode cX9_records 45 = .ok (.iadd, 1) := by decide +kernel
theorem dX9_records_46 : decode cX9_records 46 = .ok (.putfield 28, 3) := by decide +kernel
theorem dX9_records_49 : decode cX9_records 49 = .ok (.aload_n 0, 1) := by decide +kernel
theorem dX9_records_50 : decode cX9_records 50 = .ok (.iconst 0, 1) := by decide +kernel
theorem dX9_records_51 : decode cX9_records 51 = .ok (.aload_n 0, 1) := by decide +kernel
theorem dX9_records_52 : decode cX9_records 52 = .ok (.getfield 28, 3) := by decide +kernel
theorem dX9_records_55 : decode cX9_records 55 = .ok (.invokevirtual 31, 3) := by decide +kernel
theorem dX9_records_58 : decode cX9_records 58 = .ok (.return_, 1) := by decide +kernel
theorem dX9_empties_0 : decode cX9_empties 0 = .ok (.sipush 835, 3) := by decide +kernel
theorem dX9_empties_3 : decode cX9_empties 3 = .ok (.iload_n 1, 1) := by decide +kernel
theorem dX9_empties_4 : decode cX9_empties 4 = .ok (.imul, 1) := by decide +kernel
theorem dX9_empties_5 : decode cX9_empties 5 = .ok (.istore_n 2, 1) := by decide +kernel
theorem dX9_empties_6 : decode cX9_empties 6 = .ok (.aload_n 0, 1) := by decide +kernel
theorem dX9_empties_7 : decode cX9_empties 7 = .ok (.getfield 7, 3) := by decide +kernel
theorem dX9_empties_10 : decode cX9_empties 10 = .ok (.iload_n 2, 1) := by decide +kernel
theorem dX9_empties_11 : decode cX9_empties 11 = .ok (.iconst 1, 1) := by decide +kernel
theorem dX9_empties_12 : decode cX9_empties 12 = .ok (.iadd, 1) := by decide +kernel
theorem dX9_empties_13 : decode cX9_empties 13 = .ok (.iconst 0, 1) := by decide +kernel
theorem dX9_empties_14 : decode cX9_empties 14 = .ok (.iastore, 1) := by decide +kernel
theorem dX9_empties_15 : decode cX9_empties 15 = .ok (.iconst 0, 1) := by decide +kernel
theorem dX9_empties_16 : decode cX9_empties 16 = .ok (.istore_n 3, 1) := by decide +kernel
theorem dX9_empties_17 : decode cX9_empties 17 = .ok (.iload_n 3, 1) := by decide +kernel
theorem dX9_empties_18 : decode cX9_empties 18 = .ok (.bipush 16, 2) := by decide +kernel
theorem dX9_empties_20 : decode cX9_empties 20 = .ok (.if_icmp .ge 35, 3) := by decide +kernel
theorem dX9_empties_23 : decode cX9_empties 23 = .ok (.aload_n 0, 1) := by decide +kernel
theorem dX9_empties_24 : decode cX9_empties 24 = .ok (.getfield 7, 3) := by decide +kernel
theorem dX9_empties_27 : decode cX9_empties 27 = .ok (.iload_n 2, 1) := by decide +kernel
theorem dX9_empties_28 : decode cX9_empties 28 = .ok (.bipush 35, 2) := by decide +kernel
theorem dX9_empties_30 : decode cX9_empties 30 = .ok (.iadd, 1) := by decide +kernel
theorem dX9_empties_31 : decode cX9_empties 31 = .ok (.iload_n 3, 1) := by decide +kernel
theorem dX9_empties_32 : decode cX9_empties 32 = .ok (.iadd, 1) := by decide +kernel
theorem dX9_empties_33 : decode cX9_empties 33 = .ok (.bipush 20, 2) := by decide +kernel
theorem dX9_empties_35 : decode cX9_empties 35 = .ok (.iastore, 1) := by decide +kernel
theorem dX9_empties_36 : decode cX9_empties 36 = .ok (.aload_n 0, 1) := by decide +kernel
theorem dX9_empties_37 : decode cX9_empties 37 = .ok (.getfield 7, 3) := by decide +kernel
theorem dX9_empties_40 : decode cX9_empties 40 = .ok (.iload_n 2, 1) := by decide +kernel
theorem dX9_empties_41 : decode cX9_empties 41 = .ok (.sipush 819, 3) := by decide +kernel
theorem dX9_empties_44 : decode cX9_empties 44 = .ok (.iadd, 1) := by decide +kernel
theorem dX9_empties_45 : decode cX9_empties 45 = .ok (.iload_n 3, 1) := by decide +kernel
theorem dX9_empties_46 : decode cX9_empties 46 = .ok (.iadd, 1) := by decide +kernel
theorem dX9_empties_47 : decode cX9_empties 47 = .ok (.iconst 0, 1) := by decide +kernel
theorem dX9_empties_48 : decode cX9_empties 48 = .ok (.iastore, 1) := by decide +kernel
theorem dX9_empties_49 : decode cX9_empties 49 = .ok (.iinc 3 1, 3) := by decide +kernel
theorem dX9_empties_52 : decode cX9_empties 52 = .ok (.goto (-35), 3) := by decide +kernel
theorem dX9_empties_55 : decode cX9_empties 55 = .ok (.iconst 0, 1) := by decide +kernel
theorem dX9_empties_56 : decode cX9_empties 56 = .ok (.istore_n 3, 1) := by decide +kernel
theorem dX9_empties_57 : decode cX9_empties 57 = .ok (.iload_n 3, 1) := by decide +kernel
theorem dX9_empties_58 : decode cX9_empties 58 = .ok (.bipush 48, 2) := by decide +kernel
theorem dX9_empties_60 : decode cX9_empties 60 = .ok (.if_icmp .ge 65, 3) := by decide +kernel
theorem dX9_empties_63 : decode cX9_empties 63 = .ok (.aload_n 0, 1) := by decide +kernel
theorem dX9_empties_64 : decode cX9_empties 64 = .ok (.getfield 7, 3) := by decide +kernel
theorem dX9_empties_67 : decode cX9_empties 67 = .ok (.iload_n 2, 1) := by decide +kernel
theorem dX9_empties_68 : decode cX9_empties 68 = .ok (.bipush 51, 2) := by decide +kernel
theorem dX9_empties_70 : decode cX9_empties 70 = .ok (.iadd, 1) := by decide +kernel
theorem dX9_empties_71 : decode cX9_empties 71 = .ok (.iload_n 3, 1) := by decide +kernel
theorem dX9_empties_72 : decode cX9_empties 72 = .ok (.iadd, 1) := by decide +kernel
theorem dX9_empties_73 : decode cX9_empties 73 = .ok (.iconst (-1), 1) := by decide +kernel
theorem dX9_empties_74 : decode cX9_empties 74 = .ok (.iastore, 1) := by decide +kernel
theorem dX9_empties_75 : decode cX9_empties 75 = .ok (.aload_n 0, 1) := by decide +kernel
theorem dX9_empties_76 : decode cX9_empties 76 = .ok (.getfield 7, 3) := by decide +kernel
theorem dX9_empties_79 : decode cX9_empties 79 = .ok (.iload_n 2, 1) := by decide +kernel
theorem dX9_empties_80 : decode cX9_empties 80 = .ok (.bipush 99, 2) := by decide +kernel
theorem dX9_empties_82 : decode cX9_empties 82 = .ok (.iadd, 1) := by decide +kernel
theorem dX9_empties_83 : decode cX9_empties 83 = .ok (.iload_n 3, 1) := by decide +kernel
theorem dX9_empties_84 : decode cX9_empties 84 = .ok (.iadd, 1) := by decide +kernel
theorem dX9_empties_85 : decode cX9_empties 85 = .ok (.iconst 0, 1) := by decide +kernel
theorem dX9_empties_86 : decode cX9_empties 86 = .ok (.iastore, 1) := by decide +kernel
theorem dX9_empties_87 : decode cX9_empties 87 = .ok (.aload_n 0, 1) := by decide +kernel
theorem dX9_empties_88 : decode cX9_empties 88 = .ok (.getfield 7, 3) := by decide +kernel
theorem dX9_empties_91 : decode cX9_empties 91 = .ok (.iload_n 2, 1) := by decide +kernel
theorem dX9_empties_92 : decode cX9_empties 92 = .ok (.sipush 147, 3) := by decide +kernel
theorem dX9_empties_95 : decode cX9_empties 95 = .ok (.iadd, 1) := by decide +kernel
theorem dX9_empties_96 : decode cX9_empties 96 = .ok (.iload_n 3, 1) := by decide +kernel
theorem dX9_empties_97 : decode cX9_empties 97 = .ok (.iadd, 1) := by decide +kernel
theorem dX9_empties_98 : decode cX9_empties 98 = .ok (.iconst 0, 1) := by decide +kernel
theorem dX9_empties_99 : decode cX9_empties 99 = .ok (.iastore, 1) := by decide +kernel
theorem dX9_empties_100 : decode cX9_empties 100 = .ok (.aload_n 0, 1) := by decide +kernel
theorem dX9_empties_101 : decode cX9_empties 101 = .ok (.getfield 7, 3) := by decide +kernel
theorem dX9_empties_104 : decode cX9_empties 104 = .ok (.iload_n 2, 1) := by decide +kernel
theorem dX9_empties_105 : decode cX9_empties 105 = .ok (.sipush 195, 3) := by decide +kernel
theorem dX9_empties_108 : decode cX9_empties 108 = .ok (.iadd, 1) := by decide +kernel
theorem dX9_empties_109 : decode cX9_empties 109 = .ok (.iload_n 3, 1) := by decide +kernel
theorem dX9_empties_110 : decode cX9_empties 110 = .ok (.iadd, 1) := by decide +kernel
theorem dX9_empties_111 : decode cX9_empties 111 = .ok (.iconst (-1), 1) := by decide +kernel
theorem dX9_empties_112 : decode cX9_empties 112 = .ok (.iastore, 1) := by decide +kernel
theorem dX9_empties_113 : decode cX9_empties 113 = .ok (.aload_n 0, 1) := by decide +kernel
theorem dX9_empties_114 : decode cX9_empties 114 = .ok (.iload_n 2, 1) := by decide +kernel
theorem dX9_empties_115 : decode cX9_empties 115 = .ok (.iload_n 3, 1) := by decide +kernel
theorem dX9_empties_116 : decode cX9_empties 116 = .ok (.invokevirtual 35, 3) := by decide +kernel
theorem dX9_empties_119 : decode cX9_empties 119 = .ok (.iinc 3 1, 3) := by decide +kernel
theorem dX9_empties_122 : decode cX9_empties 122 = .ok (.goto (-65), 3) := by decide +kernel
theorem dX9_empties_125 : decode cX9_empties 125 = .ok (.return_, 1) := by decide +kernel
theorem dX9_clears_0 : decode cX9_clears 0 = .ok (.iconst 0, 1) := by decide +kernel
theorem dX9_clears_1 : decode cX9_clears 1 = .ok (.istore_n 3, 1) := by decide +kernel
theorem dX9_clears_2 : decode cX9_clears 2 = .ok (.iload_n 3, 1) := by decide +kernel
theorem dX9_clears_3 : decode cX9_clears 3 = .ok (.bipush 6, 2) := by decide +kernel
theorem dX9_clears_5 : decode cX9_clears 5 = .ok (.if_icmp .ge 45, 3) := by decide +kernel
theorem dX9_clears_8 : decode cX9_clears 8 = .ok (.aload_n 0, 1) := by decide +kernel
theorem dX9_clears_9 : decode cX9_clears 9 = .ok (.getfield 7, 3) := by decide +kernel
theorem dX9_clears_12 : decode cX9_clears 12 = .ok (.iload_n 1, 1) := by decide +kernel
theorem dX9_clears_13 : decode cX9_clears 13 = .ok (.sipush 243, 3) := by decide +kernel
theorem dX9_clears_16 : decode cX9_clears 16 = .ok (.iadd, 1) := by decide +kernel
theorem dX9_clears_17 : decode cX9_clears 17 = .ok (.bipush 6, 2) := by decide +kernel
theorem dX9_clears_19 : decode cX9_clears 19 = .ok (.iload_n 2, 1) := by decide +kernel
theorem dX9_clears_20 : decode cX9_clears 20 = .ok (.imul, 1) := by decide +kernel
theorem dX9_clears_21 : decode cX9_clears 21 = .ok (.iadd, 1) := by decide +kernel
theorem dX9_clears_22 : decode cX9_clears 22 = .ok (.iload_n 3, 1) := by decide +kernel
theorem dX9_clears_23 : decode cX9_clears 23 = .ok (.iadd, 1) := by decide +kernel
theorem dX9_clears_24 : decode cX9_clears 24 = .ok (.iconst 0, 1) := by decide +kernel
theorem dX9_clears_25 : decode cX9_clears 25 = .ok (.iastore, 1) := by decide +kernel
theorem dX9_clears_26 : decode cX9_clears 26 = .ok (.aload_n 0, 1) := by decide +kernel
theorem dX9_clears_27 : decode cX9_clears 27 = .ok (.getfield 7, 3) := by decide +kernel
theorem dX9_clears_30 : decode cX9_clears 30 = .ok (.iload_n 1, 1) := by decide +kernel
end
section
theorem dX9_clears_31 : decode cX9_clears 31 = .ok (.sipush 531, 3) := by decide +kernel
theorem dX9_clears_34 : decode cX9_clears 34 = .ok (.iadd, 1) := by decide +kernel
theorem dX9_clears_35 : decode cX9_clears 35 = .ok (.bipush 6, 2) := by decide +kernel
theorem dX9_clears_37 : decode cX9_clears 37 = .ok (.iload_n 2, 1) := by decide +kernel
theorem dX9_clears_38 : decode cX9_clears 38 = .ok (.imul, 1) := by decide +kernel
theorem dX9_clears_39 : decode cX9_clears 39 = .ok (.iadd, 1) := by decide +kernel
theorem dX9_clears_40 : decode cX9_clears 40 = .ok (.iload_n 3, 1) := by decide +kernel
theorem dX9_clears_41 : decode cX9_clears 41 = .ok (.iadd, 1) := by decide +kernel
theorem dX9_clears_42 : decode cX9_clears 42 = .ok (.iconst 0, 1) := by decide +kernel
theorem dX9_clears_43 : decode cX9_clears 43 = .ok (.iastore, 1) := by decide +kernel
theorem dX9_clears_44 : decode cX9_clears 44 = .ok (.iinc 3 1, 3) := by decide +kernel
theorem dX9_clears_47 : decode cX9_clears 47 = .ok (.goto (-45), 3) := by decide +kernel
theorem dX9_clears_50 : decode cX9_clears 50 = .ok (.return_, 1) := by decide +kernel
theorem dX9_offered_0 : decode cX9_offered 0 = .ok (.iconst 0, 1) := by decide +kernel
theorem dX9_offered_1 : decode cX9_offered 1 = .ok (.istore_n 3, 1) := by decide +kernel
theorem dX9_offered_2 : decode cX9_offered 2 = .ok (.iconst 0, 1) := by decide +kernel
theorem dX9_offered_3 : decode cX9_offered 3 = .ok (.istore 4, 2) := by decide +kernel
theorem dX9_offered_5 : decode cX9_offered 5 = .ok (.iload 4, 2) := by decide +kernel
theorem dX9_offered_7 : decode cX9_offered 7 = .ok (.bipush 48, 2) := by decide +kernel
theorem dX9_offered_9 : decode cX9_offered 9 = .ok (.if_icmp .ge 30, 3) := by decide +kernel
theorem dX9_offered_12 : decode cX9_offered 12 = .ok (.iload_n 3, 1) := by decide +kernel
theorem dX9_offered_13 : decode cX9_offered 13 = .ok (.aload_n 0, 1) := by decide +kernel
theorem dX9_offered_14 : decode cX9_offered 14 = .ok (.getfield 7, 3) := by decide +kernel
theorem dX9_offered_17 : decode cX9_offered 17 = .ok (.iload_n 1, 1) := by decide +kernel
theorem dX9_offered_18 : decode cX9_offered 18 = .ok (.sipush 531, 3) := by decide +kernel
theorem dX9_offered_21 : decode cX9_offered 21 = .ok (.iadd, 1) := by decide +kernel
theorem dX9_offered_22 : decode cX9_offered 22 = .ok (.bipush 6, 2) := by decide +kernel
theorem dX9_offered_24 : decode cX9_offered 24 = .ok (.iload 4, 2) := by decide +kernel
theorem dX9_offered_26 : decode cX9_offered 26 = .ok (.imul, 1) := by decide +kernel
theorem dX9_offered_27 : decode cX9_offered 27 = .ok (.iadd, 1) := by decide +kernel
theorem dX9_offered_28 : decode cX9_offered 28 = .ok (.iload_n 2, 1) := by decide +kernel
theorem dX9_offered_29 : decode cX9_offered 29 = .ok (.iadd, 1) := by decide +kernel
theorem dX9_offered_30 : decode cX9_offered 30 = .ok (.iaload, 1) := by decide +kernel
theorem dX9_offered_31 : decode cX9_offered 31 = .ok (.iadd, 1) := by decide +kernel
theorem dX9_offered_32 : decode cX9_offered 32 = .ok (.istore_n 3, 1) := by decide +kernel
theorem dX9_offered_33 : decode cX9_offered 33 = .ok (.iinc 4 1, 3) := by decide +kernel
theorem dX9_offered_36 : decode cX9_offered 36 = .ok (.goto (-31), 3) := by decide +kernel
theorem dX9_offered_39 : decode cX9_offered 39 = .ok (.iload_n 3, 1) := by decide +kernel
theorem dX9_offered_40 : decode cX9_offered 40 = .ok (.ireturn, 1) := by decide +kernel
theorem dX9_bidsOf_0 : decode cX9_bidsOf 0 = .ok (.iconst 0, 1) := by decide +kernel
theorem dX9_bidsOf_1 : decode cX9_bidsOf 1 = .ok (.istore_n 3, 1) := by decide +kernel
theorem dX9_bidsOf_2 : decode cX9_bidsOf 2 = .ok (.iconst 0, 1) := by decide +kernel
theorem dX9_bidsOf_3 : decode cX9_bidsOf 3 = .ok (.istore 4, 2) := by decide +kernel
theorem dX9_bidsOf_5 : decode cX9_bidsOf 5 = .ok (.iload 4, 2) := by decide +kernel
theorem dX9_bidsOf_7 : decode cX9_bidsOf 7 = .ok (.bipush 48, 2) := by decide +kernel
theorem dX9_bidsOf_9 : decode cX9_bidsOf 9 = .ok (.if_icmp .ge 38, 3) := by decide +kernel
theorem dX9_bidsOf_12 : decode cX9_bidsOf 12 = .ok (.iload_n 3, 1) := by decide +kernel
theorem dX9_bidsOf_13 : decode cX9_bidsOf 13 = .ok (.aload_n 0, 1) := by decide +kernel
theorem dX9_bidsOf_14 : decode cX9_bidsOf 14 = .ok (.getfield 7, 3) := by decide +kernel
theorem dX9_bidsOf_17 : decode cX9_bidsOf 17 = .ok (.iload_n 1, 1) := by decide +kernel
theorem dX9_bidsOf_18 : decode cX9_bidsOf 18 = .ok (.sipush 531, 3) := by decide +kernel
theorem dX9_bidsOf_21 : decode cX9_bidsOf 21 = .ok (.iadd, 1) := by decide +kernel
theorem dX9_bidsOf_22 : decode cX9_bidsOf 22 = .ok (.bipush 6, 2) := by decide +kernel
theorem dX9_bidsOf_24 : decode cX9_bidsOf 24 = .ok (.iload 4, 2) := by decide +kernel
theorem dX9_bidsOf_26 : decode cX9_bidsOf 26 = .ok (.imul, 1) := by decide +kernel
theorem dX9_bidsOf_27 : decode cX9_bidsOf 27 = .ok (.iadd, 1) := by decide +kernel
theorem dX9_bidsOf_28 : decode cX9_bidsOf 28 = .ok (.iload_n 2, 1) := by decide +kernel
theorem dX9_bidsOf_29 : decode cX9_bidsOf 29 = .ok (.iadd, 1) := by decide +kernel
theorem dX9_bidsOf_30 : decode cX9_bidsOf 30 = .ok (.iaload, 1) := by decide +kernel
theorem dX9_bidsOf_31 : decode cX9_bidsOf 31 = .ok (.ifCond .le 7, 3) := by decide +kernel
theorem dX9_bidsOf_34 : decode cX9_bidsOf 34 = .ok (.iconst 1, 1) := by decide +kernel
theorem dX9_bidsOf_35 : decode cX9_bidsOf 35 = .ok (.goto 4, 3) := by decide +kernel
theorem dX9_bidsOf_38 : decode cX9_bidsOf 38 = .ok (.iconst 0, 1) := by decide +kernel
theorem dX9_bidsOf_39 : decode cX9_bidsOf 39 = .ok (.iadd, 1) := by decide +kernel
theorem dX9_bidsOf_40 : decode cX9_bidsOf 40 = .ok (.istore_n 3, 1) := by decide +kernel
theorem dX9_bidsOf_41 : decode cX9_bidsOf 41 = .ok (.iinc 4 1, 3) := by decide +kernel
theorem dX9_bidsOf_44 : decode cX9_bidsOf 44 = .ok (.goto (-39), 3) := by decide +kernel
theorem dX9_bidsOf_47 : decode cX9_bidsOf 47 = .ok (.iload_n 3, 1) := by decide +kernel
theorem dX9_bidsOf_48 : decode cX9_bidsOf 48 = .ok (.ireturn, 1) := by decide +kernel
theorem dX9_bidsFor_0 : decode cX9_bidsFor 0 = .ok (.iconst 0, 1) := by decide +kernel
theorem dX9_bidsFor_1 : decode cX9_bidsFor 1 = .ok (.istore_n 3, 1) := by decide +kernel
theorem dX9_bidsFor_2 : decode cX9_bidsFor 2 = .ok (.iconst 0, 1) := by decide +kernel
theorem dX9_bidsFor_3 : decode cX9_bidsFor 3 = .ok (.istore 4, 2) := by decide +kernel
theorem dX9_bidsFor_5 : decode cX9_bidsFor 5 = .ok (.iload 4, 2) := by decide +kernel
theorem dX9_bidsFor_7 : decode cX9_bidsFor 7 = .ok (.bipush 6, 2) := by decide +kernel
theorem dX9_bidsFor_9 : decode cX9_bidsFor 9 = .ok (.if_icmp .ge 38, 3) := by decide +kernel
theorem dX9_bidsFor_12 : decode cX9_bidsFor 12 = .ok (.iload_n 3, 1) := by decide +kernel
theorem dX9_bidsFor_13 : decode cX9_bidsFor 13 = .ok (.aload_n 0, 1) := by decide +kernel
theorem dX9_bidsFor_14 : decode cX9_bidsFor 14 = .ok (.getfield 7, 3) := by decide +kernel
theorem dX9_bidsFor_17 : decode cX9_bidsFor 17 = .ok (.iload_n 1, 1) := by decide +kernel
theorem dX9_bidsFor_18 : decode cX9_bidsFor 18 = .ok (.sipush 531, 3) := by decide +kernel
theorem dX9_bidsFor_21 : decode cX9_bidsFor 21 = .ok (.iadd, 1) := by decide +kernel
theorem dX9_bidsFor_22 : decode cX9_bidsFor 22 = .ok (.bipush 6, 2) := by decide +kernel
theorem dX9_bidsFor_24 : decode cX9_bidsFor 24 = .ok (.iload_n 2, 1) := by decide +kernel
theorem dX9_bidsFor_25 : decode cX9_bidsFor 25 = .ok (.imul, 1) := by decide +kernel
theorem dX9_bidsFor_26 : decode cX9_bidsFor 26 = .ok (.iadd, 1) := by decide +kernel
theorem dX9_bidsFor_27 : decode cX9_bidsFor 27 = .ok (.iload 4, 2) := by decide +kernel
theorem dX9_bidsFor_29 : decode cX9_bidsFor 29 = .ok (.iadd, 1) := by decide +kernel
theorem dX9_bidsFor_30 : decode cX9_bidsFor 30 = .ok (.iaload, 1) := by decide +kernel
theorem dX9_bidsFor_31 : decode cX9_bidsFor 31 = .ok (.ifCond .le 7, 3) := by decide +kernel
theorem dX9_bidsFor_34 : decode cX9_bidsFor 34 = .ok (.iconst 1, 1) := by decide +kernel
theorem dX9_bidsFor_35 : decode cX9_bidsFor 35 = .ok (.goto 4, 3) := by decide +kernel
theorem dX9_bidsFor_38 : decode cX9_bidsFor 38 = .ok (.iconst 0, 1) := by decide +kernel
theorem dX9_bidsFor_39 : decode cX9_bidsFor 39 = .ok (.iadd, 1) := by decide +kernel
theorem dX9_bidsFor_40 : decode cX9_bidsFor 40 = .ok (.istore_n 3, 1) := by decide +kernel
theorem dX9_bidsFor_41 : decode cX9_bidsFor 41 = .ok (.iinc 4 1, 3) := by decide +kernel
theorem dX9_bidsFor_44 : decode cX9_bidsFor 44 = .ok (.goto (-39), 3) := by decide +kernel
theorem dX9_bidsFor_47 : decode cX9_bidsFor 47 = .ok (.iload_n 3, 1) := by decide +kernel
theorem dX9_bidsFor_48 : decode cX9_bidsFor 48 = .ok (.ireturn, 1) := by decide +kernel
theorem dX9_bids_0 : decode cX9_bids 0 = .ok (.iconst 0, 1) := by decide +kernel
theorem dX9_bids_1 : decode cX9_bids 1 = .ok (.istore_n 2, 1) := by decide +kernel
theorem dX9_bids_2 : decode cX9_bids 2 = .ok (.iconst 0, 1) := by decide +kernel
theorem dX9_bids_3 : decode cX9_bids 3 = .ok (.istore_n 3, 1) := by decide +kernel
theorem dX9_bids_4 : decode cX9_bids 4 = .ok (.iload_n 3, 1) := by decide +kernel
theorem dX9_bids_5 : decode cX9_bids 5 = .ok (.bipush 48, 2) := by decide +kernel
theorem dX9_bids_7 : decode cX9_bids 7 = .ok (.if_icmp .ge 18, 3) := by decide +kernel
theorem dX9_bids_10 : decode cX9_bids 10 = .ok (.iload_n 2, 1) := by decide +kernel
theorem dX9_bids_11 : decode cX9_bids 11 = .ok (.aload_n 0, 1) := by decide +kernel
theorem dX9_bids_12 : decode cX9_bids 12 = .ok (.iload_n 1, 1) := by decide +kernel
theorem dX9_bids_13 : decode cX9_bids 13 = .ok (.iload_n 3, 1) := by decide +kernel
theorem dX9_bids_14 : decode cX9_bids 14 = .ok (.invokevirtual 38, 3) := by decide +kernel
theorem dX9_bids_17 : decode cX9_bids 17 = .ok (.iadd, 1) := by decide +kernel
theorem dX9_bids_18 : decode cX9_bids 18 = .ok (.istore_n 2, 1) := by decide +kernel
theorem dX9_bids_19 : decode cX9_bids 19 = .ok (.iinc 3 1, 3) := by decide +kernel
theorem dX9_bids_22 : decode cX9_bids 22 = .ok (.goto (-18), 3) := by decide +kernel
theorem dX9_bids_25 : decode cX9_bids 25 = .ok (.iload_n 2, 1) := by decide +kernel
theorem dX9_bids_26 : decode cX9_bids 26 = .ok (.ireturn, 1) := by decide +kernel
theorem dX9_bears_0 : decode cX9_bears 0 = .ok (.iload_n 1, 1) := by decide +kernel
theorem dX9_bears_1 : decode cX9_bears 1 = .ok (.bipush 70, 2) := by decide +kernel
theorem dX9_bears_3 : decode cX9_bears 3 = .ok (.iload_n 0, 1) := by decide +kernel
theorem dX9_bears_4 : decode cX9_bears 4 = .ok (.isub, 1) := by decide +kernel
theorem dX9_bears_5 : decode cX9_bears 5 = .ok (.if_icmp .gt 7, 3) := by decide +kernel
theorem dX9_bears_8 : decode cX9_bears 8 = .ok (.iconst 1, 1) := by decide +kernel
theorem dX9_bears_9 : decode cX9_bears 9 = .ok (.goto 4, 3) := by decide +kernel
theorem dX9_bears_12 : decode cX9_bears 12 = .ok (.iconst 0, 1) := by decide +kernel
theorem dX9_bears_13 : decode cX9_bears 13 = .ok (.ireturn, 1) := by decide +kernel
theorem dX9_borne_0 : decode cX9_borne 0 = .ok (.aload_n 0, 1) := by decide +kernel
theorem dX9_borne_1 : decode cX9_borne 1 = .ok (.getfield 7, 3) := by decide +kernel
theorem dX9_borne_4 : decode cX9_borne 4 = .ok (.iload_n 1, 1) := by decide +kernel
theorem dX9_borne_5 : decode cX9_borne 5 = .ok (.sipush 243, 3) := by decide +kernel
theorem dX9_borne_8 : decode cX9_borne 8 = .ok (.iadd, 1) := by decide +kernel
theorem dX9_borne_9 : decode cX9_borne 9 = .ok (.bipush 6, 2) := by decide +kernel
theorem dX9_borne_11 : decode cX9_borne 11 = .ok (.iload_n 2, 1) := by decide +kernel
theorem dX9_borne_12 : decode cX9_borne 12 = .ok (.imul, 1) := by decide +kernel
theorem dX9_borne_13 : decode cX9_borne 13 = .ok (.iadd, 1) := by decide +kernel
theorem dX9_borne_14 : decode cX9_borne 14 = .ok (.iload_n 3, 1) := by decide +kernel
theorem dX9_borne_15 : decode cX9_borne 15 = .ok (.iadd, 1) := by decide +kernel
theorem dX9_borne_16 : decode cX9_borne 16 = .ok (.iaload, 1) := by decide +kernel
theorem dX9_borne_17 : decode cX9_borne 17 = .ok (.aload_n 0, 1) := by decide +kernel
theorem dX9_borne_18 : decode cX9_borne 18 = .ok (.getfield 7, 3) := by decide +kernel
theorem dX9_borne_21 : decode cX9_borne 21 = .ok (.iload_n 1, 1) := by decide +kernel
theorem dX9_borne_22 : decode cX9_borne 22 = .ok (.bipush 35, 2) := by decide +kernel
theorem dX9_borne_24 : decode cX9_borne 24 = .ok (.iadd, 1) := by decide +kernel
theorem dX9_borne_25 : decode cX9_borne 25 = .ok (.iload_n 2, 1) := by decide +kernel
theorem dX9_borne_26 : decode cX9_borne 26 = .ok (.bipush 16, 2) := by decide +kernel
theorem dX9_borne_28 : decode cX9_borne 28 = .ok (.irem, 1) := by decide +kernel
theorem dX9_borne_29 : decode cX9_borne 29 = .ok (.iadd, 1) := by decide +kernel
theorem dX9_borne_30 : decode cX9_borne 30 = .ok (.iaload, 1) := by decide +kernel
theorem dX9_borne_31 : decode cX9_borne 31 = .ok (.invokestatic 42, 3) := by decide +kernel
theorem dX9_borne_34 : decode cX9_borne 34 = .ok (.istore 4, 2) := by decide +kernel
theorem dX9_borne_36 : decode cX9_borne 36 = .ok (.iload 4, 2) := by decide +kernel
theorem dX9_borne_38 : decode cX9_borne 38 = .ok (.ifCond .eq 23, 3) := by decide +kernel
theorem dX9_borne_41 : decode cX9_borne 41 = .ok (.aload_n 0, 1) := by decide +kernel
theorem dX9_borne_42 : decode cX9_borne 42 = .ok (.getfield 7, 3) := by decide +kernel
theorem dX9_borne_45 : decode cX9_borne 45 = .ok (.iload_n 1, 1) := by decide +kernel
theorem dX9_borne_46 : decode cX9_borne 46 = .ok (.sipush 531, 3) := by decide +kernel
theorem dX9_borne_49 : decode cX9_borne 49 = .ok (.iadd, 1) := by decide +kernel
theorem dX9_borne_50 : decode cX9_borne 50 = .ok (.bipush 6, 2) := by decide +kernel
theorem dX9_borne_52 : decode cX9_borne 52 = .ok (.iload_n 2, 1) := by decide +kernel
theorem dX9_borne_53 : decode cX9_borne 53 = .ok (.imul, 1) := by decide +kernel
theorem dX9_borne_54 : decode cX9_borne 54 = .ok (.iadd, 1) := by decide +kernel
theorem dX9_borne_55 : decode cX9_borne 55 = .ok (.iload_n 3, 1) := by decide +kernel
theorem dX9_borne_56 : decode cX9_borne 56 = .ok (.iadd, 1) := by decide +kernel
theorem dX9_borne_57 : decode cX9_borne 57 = .ok (.iaload, 1) := by decide +kernel
theorem dX9_borne_58 : decode cX9_borne 58 = .ok (.goto 4, 3) := by decide +kernel
theorem dX9_borne_61 : decode cX9_borne 61 = .ok (.iconst 0, 1) := by decide +kernel
theorem dX9_borne_62 : decode cX9_borne 62 = .ok (.ireturn, 1) := by decide +kernel
theorem dX9_best_0 : decode cX9_best 0 = .ok (.iconst (-1), 1) := by decide +kernel
theorem dX9_best_1 : decode cX9_best 1 = .ok (.istore 4, 2) := by decide +kernel
theorem dX9_best_3 : decode cX9_best 3 = .ok (.iconst 0, 1) := by decide +kernel
theorem dX9_best_4 : decode cX9_best 4 = .ok (.istore 5, 2) := by decide +kernel
theorem dX9_best_6 : decode cX9_best 6 = .ok (.iload 5, 2) := by decide +kernel
theorem dX9_best_8 : decode cX9_best 8 = .ok (.bipush 6, 2) := by decide +kernel
theorem dX9_best_10 : decode cX9_best 10 = .ok (.if_icmp .ge 47, 3) := by decide +kernel
theorem dX9_best_13 : decode cX9_best 13 = .ok (.iload 5, 2) := by decide +kernel
theorem dX9_best_15 : decode cX9_best 15 = .ok (.iload_n 3, 1) := by decide +kernel
theorem dX9_best_16 : decode cX9_best 16 = .ok (.if_icmp .eq 35, 3) := by decide +kernel
theorem dX9_best_19 : decode cX9_best 19 = .ok (.aload_n 0, 1) := by decide +kernel
theorem dX9_best_20 : decode cX9_best 20 = .ok (.iload_n 1, 1) := by decide +kernel
theorem dX9_best_21 : decode cX9_best 21 = .ok (.iload_n 2, 1) := by decide +kernel
theorem dX9_best_22 : decode cX9_best 22 = .ok (.iload 5, 2) := by decide +kernel
theorem dX9_best_24 : decode cX9_best 24 = .ok (.invokevirtual 46, 3) := by decide +kernel
theorem dX9_best_27 : decode cX9_best 27 = .ok (.iload 4, 2) := by decide +kernel
theorem dX9_best_29 : decode cX9_best 29 = .ok (.ifCond .ge 7, 3) := by decide +kernel
theorem dX9_best_32 : decode cX9_best 32 = .ok (.iconst 0, 1) := by decide +kernel
theorem dX9_best_33 : decode cX9_best 33 = .ok (.goto 11, 3) := by decide +kernel
theorem dX9_best_36 : decode cX9_best 36 = .ok (.aload_n 0, 1) := by decide +kernel
theorem dX9_best_37 : decode cX9_best 37 = .ok (.iload_n 1, 1) := by decide +kernel
theorem dX9_best_38 : decode cX9_best 38 = .ok (.iload_n 2, 1) := by decide +kernel
theorem dX9_best_39 : decode cX9_best 39 = .ok (.iload 4, 2) := by decide +kernel
theorem dX9_best_41 : decode cX9_best 41 = .ok (.invokevirtual 46, 3) := by decide +kernel
theorem dX9_best_44 : decode cX9_best 44 = .ok (.if_icmp .le 7, 3) := by decide +kernel
theorem dX9_best_47 : decode cX9_best 47 = .ok (.iload 5, 2) := by decide +kernel
theorem dX9_best_49 : decode cX9_best 49 = .ok (.istore 4, 2) := by decide +kernel
theorem dX9_best_51 : decode cX9_best 51 = .ok (.iinc 5 1, 3) := by decide +kernel
theorem dX9_best_54 : decode cX9_best 54 = .ok (.goto (-48), 3) := by decide +kernel
theorem dX9_best_57 : decode cX9_best 57 = .ok (.iload 4, 2) := by decide +kernel
theorem dX9_best_59 : decode cX9_best 59 = .ok (.ireturn, 1) := by decide +kernel
theorem dX9_awards_0 : decode cX9_awards 0 = .ok (.aload_n 0, 1) := by decide +kernel
theorem dX9_awards_1 : decode cX9_awards 1 = .ok (.iload_n 1, 1) := by decide +kernel
theorem dX9_awards_2 : decode cX9_awards 2 = .ok (.iload_n 2, 1) := by decide +kernel
theorem dX9_awards_3 : decode cX9_awards 3 = .ok (.iconst (-1), 1) := by decide +kernel
theorem dX9_awards_4 : decode cX9_awards 4 = .ok (.invokevirtual 50, 3) := by decide +kernel
theorem dX9_awards_7 : decode cX9_awards 7 = .ok (.istore_n 3, 1) := by decide +kernel
theorem dX9_awards_8 : decode cX9_awards 8 = .ok (.iload_n 3, 1) := by decide +kernel
theorem dX9_awards_9 : decode cX9_awards 9 = .ok (.ifCond .lt 136, 3) := by decide +kernel
theorem dX9_awards_12 : decode cX9_awards 12 = .ok (.aload_n 0, 1) := by decide +kernel
theorem dX9_awards_13 : decode cX9_awards 13 = .ok (.iload_n 1, 1) := by decide +kernel
theorem dX9_awards_14 : decode cX9_awards 14 = .ok (.iload_n 2, 1) := by decide +kernel
theorem dX9_awards_15 : decode cX9_awards 15 = .ok (.iload_n 3, 1) := by decide +kernel
theorem dX9_awards_16 : decode cX9_awards 16 = .ok (.invokevirtual 50, 3) := by decide +kernel
theorem dX9_awards_19 : decode cX9_awards 19 = .ok (.istore 4, 2) := by decide +kernel
theorem dX9_awards_21 : decode cX9_awards 21 = .ok (.iload 4, 2) := by decide +kernel
theorem dX9_awards_23 : decode cX9_awards 23 = .ok (.ifCond .ge 7, 3) := by decide +kernel
theorem dX9_awards_26 : decode cX9_awards 26 = .ok (.iconst 0, 1) := by decide +kernel
theorem dX9_awards_27 : decode cX9_awards 27 = .ok (.goto 11, 3) := by decide +kernel
theorem dX9_awards_30 : decode cX9_awards 30 = .ok (.aload_n 0, 1) := by decide +kernel
theorem dX9_awards_31 : decode cX9_awards 31 = .ok (.iload_n 1, 1) := by decide +kernel
theorem dX9_awards_32 : decode cX9_awards 32 = .ok (.iload_n 2, 1) := by decide +kernel
theorem dX9_awards_33 : decode cX9_awards 33 = .ok (.iload 4, 2) := by decide +kernel
theorem dX9_awards_35 : decode cX9_awards 35 = .ok (.invokevirtual 46, 3) := by decide +kernel
theorem dX9_awards_38 : decode cX9_awards 38 = .ok (.istore 5, 2) := by decide +kernel
theorem dX9_awards_40 : decode cX9_awards 40 = .ok (.aload_n 0, 1) := by decide +kernel
theorem dX9_awards_41 : decode cX9_awards 41 = .ok (.getfield 7, 3) := by decide +kernel
theorem dX9_awards_44 : decode cX9_awards 44 = .ok (.iload_n 1, 1) := by decide +kernel
theorem dX9_awards_45 : decode cX9_awards 45 = .ok (.bipush 51, 2) := by decide +kernel
theorem dX9_awards_47 : decode cX9_awards 47 = .ok (.iadd, 1) := by decide +kernel
theorem dX9_awards_48 : decode cX9_awards 48 = .ok (.iload_n 2, 1) := by decide +kernel
theorem dX9_awards_49 : decode cX9_awards 49 = .ok (.iadd, 1) := by decide +kernel
theorem dX9_awards_50 : decode cX9_awards 50 = .ok (.iload_n 3, 1) := by decide +kernel
theorem dX9_awards_51 : decode cX9_awards 51 = .ok (.iastore, 1) := by decide +kernel
theorem dX9_awards_52 : decode cX9_awards 52 = .ok (.aload_n 0, 1) := by decide +kernel
theorem dX9_awards_53 : decode cX9_awards 53 = .ok (.getfield 7, 3) := by decide +kernel
theorem dX9_awards_56 : decode cX9_awards 56 = .ok (.iload_n 1, 1) := by decide +kernel
theorem dX9_awards_57 : decode cX9_awards 57 = .ok (.bipush 99, 2) := by decide +kernel
theorem dX9_awards_59 : decode cX9_awards 59 = .ok (.iadd, 1) := by decide +kernel
theorem dX9_awards_60 : decode cX9_awards 60 = .ok (.iload_n 2, 1) := by decide +kernel
theorem dX9_awards_61 : decode cX9_awards 61 = .ok (.iadd, 1) := by decide +kernel
theorem dX9_awards_62 : decode cX9_awards 62 = .ok (.aload_n 0, 1) := by decide +kernel
theorem dX9_awards_63 : decode cX9_awards 63 = .ok (.getfield 7, 3) := by decide +kernel
theorem dX9_awards_66 : decode cX9_awards 66 = .ok (.iload_n 1, 1) := by decide +kernel
theorem dX9_awards_67 : decode cX9_awards 67 = .ok (.sipush 243, 3) := by decide +kernel
theorem dX9_awards_70 : decode cX9_awards 70 = .ok (.iadd, 1) := by decide +kernel
theorem dX9_awards_71 : decode cX9_awards 71 = .ok (.bipush 6, 2) := by decide +kernel
theorem dX9_awards_73 : decode cX9_awards 73 = .ok (.iload_n 2, 1) := by decide +kernel
theorem dX9_awards_74 : decode cX9_awards 74 = .ok (.imul, 1) := by decide +kernel
theorem dX9_awards_75 : decode cX9_awards 75 = .ok (.iadd, 1) := by decide +kernel
theorem dX9_awards_76 : decode cX9_awards 76 = .ok (.iload_n 3, 1) := by decide +kernel
theorem dX9_awards_77 : decode cX9_awards 77 = .ok (.iadd, 1) := by decide +kernel
theorem dX9_awards_78 : decode cX9_awards 78 = .ok (.iaload, 1) := by decide +kernel
theorem dX9_awards_79 : decode cX9_awards 79 = .ok (.iastore, 1) := by decide +kernel
theorem dX9_awards_80 : decode cX9_awards 80 = .ok (.aload_n 0, 1) := by decide +kernel
theorem dX9_awards_81 : decode cX9_awards 81 = .ok (.getfield 7, 3) := by decide +kernel
theorem dX9_awards_84 : decode cX9_awards 84 = .ok (.iload_n 1, 1) := by decide +kernel
theorem dX9_awards_85 : decode cX9_awards 85 = .ok (.sipush 147, 3) := by decide +kernel
theorem dX9_awards_88 : decode cX9_awards 88 = .ok (.iadd, 1) := by decide +kernel
theorem dX9_awards_89 : decode cX9_awards 89 = .ok (.iload_n 2, 1) := by decide +kernel
theorem dX9_awards_90 : decode cX9_awards 90 = .ok (.iadd, 1) := by decide +kernel
theorem dX9_awards_91 : decode cX9_awards 91 = .ok (.iload 5, 2) := by decide +kernel
theorem dX9_awards_93 : decode cX9_awards 93 = .ok (.iastore, 1) := by decide +kernel
theorem dX9_awards_94 : decode cX9_awards 94 = .ok (.aload_n 0, 1) := by decide +kernel
theorem dX9_awards_95 : decode cX9_awards 95 = .ok (.getfield 7, 3) := by decide +kernel
theorem dX9_awards_98 : decode cX9_awards 98 = .ok (.iload_n 1, 1) := by decide +kernel
theorem dX9_awards_99 : decode cX9_awards 99 = .ok (.iconst 2, 1) := by decide +kernel
theorem dX9_awards_100 : decode cX9_awards 100 = .ok (.iadd, 1) := by decide +kernel
theorem dX9_awards_101 : decode cX9_awards 101 = .ok (.iload_n 3, 1) := by decide +kernel
theorem dX9_awards_102 : decode cX9_awards 102 = .ok (.iadd, 1) := by decide +kernel
theorem dX9_awards_103 : decode cX9_awards 103 = .ok (.dup2, 1) := by decide +kernel
theorem dX9_awards_104 : decode cX9_awards 104 = .ok (.iaload, 1) := by decide +kernel
theorem dX9_awards_105 : decode cX9_awards 105 = .ok (.iload 5, 2) := by decide +kernel
theorem dX9_awards_107 : decode cX9_awards 107 = .ok (.isub, 1) := by decide +kernel
theorem dX9_awards_108 : decode cX9_awards 108 = .ok (.iastore, 1) := by decide +kernel
theorem dX9_awards_109 : decode cX9_awards 109 = .ok (.aload_n 0, 1) := by decide +kernel
theorem dX9_awards_110 : decode cX9_awards 110 = .ok (.getfield 7, 3) := by decide +kernel
theorem dX9_awards_113 : decode cX9_awards 113 = .ok (.iload_n 1, 1) := by decide +kernel
theorem dX9_awards_114 : decode cX9_awards 114 = .ok (.bipush 14, 2) := by decide +kernel
theorem dX9_awards_116 : decode cX9_awards 116 = .ok (.iadd, 1) := by decide +kernel
theorem dX9_awards_117 : decode cX9_awards 117 = .ok (.iload_n 3, 1) := by decide +kernel
theorem dX9_awards_118 : decode cX9_awards 118 = .ok (.iadd, 1) := by decide +kernel
theorem dX9_awards_119 : decode cX9_awards 119 = .ok (.dup2, 1) := by decide +kernel
theorem dX9_awards_120 : decode cX9_awards 120 = .ok (.iaload, 1) := by decide +kernel
theorem dX9_awards_121 : decode cX9_awards 121 = .ok (.iload 5, 2) := by decide +kernel
theorem dX9_awards_123 : decode cX9_awards 123 = .ok (.iadd, 1) := by decide +kernel
theorem dX9_awards_124 : decode cX9_awards 124 = .ok (.iastore, 1) := by decide +kernel
theorem dX9_awards_125 : decode cX9_awards 125 = .ok (.aload_n 0, 1) := by decide +kernel
theorem dX9_awards_126 : decode cX9_awards 126 = .ok (.getfield 7, 3) := by decide +kernel
theorem dX9_awards_129 : decode cX9_awards 129 = .ok (.iload_n 1, 1) := by decide +kernel
theorem dX9_awards_130 : decode cX9_awards 130 = .ok (.bipush 30, 2) := by decide +kernel
theorem dX9_awards_132 : decode cX9_awards 132 = .ok (.iadd, 1) := by decide +kernel
theorem dX9_awards_133 : decode cX9_awards 133 = .ok (.dup2, 1) := by decide +kernel
theorem dX9_awards_134 : decode cX9_awards 134 = .ok (.iaload, 1) := by decide +kernel
theorem dX9_awards_135 : decode cX9_awards 135 = .ok (.iload 5, 2) := by decide +kernel
theorem dX9_awards_137 : decode cX9_awards 137 = .ok (.iadd, 1) := by decide +kernel
theorem dX9_awards_138 : decode cX9_awards 138 = .ok (.iastore, 1) := by decide +kernel
theorem dX9_awards_139 : decode cX9_awards 139 = .ok (.aload_n 0, 1) := by decide +kernel
theorem dX9_awards_140 : decode cX9_awards 140 = .ok (.iload_n 1, 1) := by decide +kernel
theorem dX9_awards_141 : decode cX9_awards 141 = .ok (.iload_n 2, 1) := by decide +kernel
theorem dX9_awards_142 : decode cX9_awards 142 = .ok (.invokevirtual 35, 3) := by decide +kernel
theorem dX9_awards_145 : decode cX9_awards 145 = .ok (.iload_n 3, 1) := by decide +kernel
theorem dX9_awards_146 : decode cX9_awards 146 = .ok (.ireturn, 1) := by decide +kernel
theorem dX9_isDone_0 : decode cX9_isDone 0 = .ok (.iload_n 2, 1) := by decide +kernel
theorem dX9_isDone_1 : decode cX9_isDone 1 = .ok (.aload_n 0, 1) := by decide +kernel
theorem dX9_isDone_2 : decode cX9_isDone 2 = .ok (.getfield 7, 3) := by decide +kernel
theorem dX9_isDone_5 : decode cX9_isDone 5 = .ok (.iload_n 1, 1) := by decide +kernel
theorem dX9_isDone_6 : decode cX9_isDone 6 = .ok (.iconst 1, 1) := by decide +kernel
theorem dX9_isDone_7 : decode cX9_isDone 7 = .ok (.iadd, 1) := by decide +kernel
theorem dX9_isDone_8 : decode cX9_isDone 8 = .ok (.iaload, 1) := by decide +kernel
theorem dX9_isDone_9 : decode cX9_isDone 9 = .ok (.if_icmp .ge 7, 3) := by decide +kernel
theorem dX9_isDone_12 : decode cX9_isDone 12 = .ok (.iconst 1, 1) := by decide +kernel
theorem dX9_isDone_13 : decode cX9_isDone 13 = .ok (.goto 4, 3) := by decide +kernel
theorem dX9_isDone_16 : decode cX9_isDone 16 = .ok (.iconst 0, 1) := by decide +kernel
theorem dX9_isDone_17 : decode cX9_isDone 17 = .ok (.ireturn, 1) := by decide +kernel
theorem dX9_expects_0 : decode cX9_expects 0 = .ok (.sipush 835, 3) := by decide +kernel
theorem dX9_expects_3 : decode cX9_expects 3 = .ok (.iload_n 1, 1) := by decide +kernel
theorem dX9_expects_4 : decode cX9_expects 4 = .ok (.imul, 1) := by decide +kernel
theorem dX9_expects_5 : decode cX9_expects 5 = .ok (.istore 4, 2) := by decide +kernel
theorem dX9_expects_7 : decode cX9_expects 7 = .ok (.iload_n 2, 1) := by decide +kernel
theorem dX9_expects_8 : decode cX9_expects 8 = .ok (.iconst 0, 1) := by decide +kernel
theorem dX9_expects_9 : decode cX9_expects 9 = .ok (.bipush 15, 2) := by decide +kernel
theorem dX9_expects_11 : decode cX9_expects 11 = .ok (.invokestatic 53, 3) := by decide +kernel
theorem dX9_expects_14 : decode cX9_expects 14 = .ok (.ifCond .ne 5, 3) := by decide +kernel
theorem dX9_expects_17 : decode cX9_expects 17 = .ok (.iconst (-1), 1) := by decide +kernel
theorem dX9_expects_18 : decode cX9_expects 18 = .ok (.ireturn, 1) := by decide +kernel
theorem dX9_expects_19 : decode cX9_expects 19 = .ok (.iload_n 3, 1) := by decide +kernel
theorem dX9_expects_20 : decode cX9_expects 20 = .ok (.iconst 0, 1) := by decide +kernel
theorem dX9_expects_21 : decode cX9_expects 21 = .ok (.bipush 99, 2) := by decide +kernel
theorem dX9_expects_23 : decode cX9_expects 23 = .ok (.invokestatic 53, 3) := by decide +kernel
theorem dX9_expects_26 : decode cX9_expects 26 = .ok (.ifCond .ne 6, 3) := by decide +kernel
theorem dX9_expects_29 : decode cX9_expects 29 = .ok (.bipush (-2), 2) := by decide +kernel
theorem dX9_expects_31 : decode cX9_expects 31 = .ok (.ireturn, 1) := by decide +kernel
theorem dX9_expects_32 : decode cX9_expects 32 = .ok (.aload_n 0, 1) := by decide +kernel
theorem dX9_expects_33 : decode cX9_expects 33 = .ok (.iload 4, 2) := by decide +kernel
theorem dX9_expects_35 : decode cX9_expects 35 = .ok (.iload_n 2, 1) := by decide +kernel
theorem dX9_expects_36 : decode cX9_expects 36 = .ok (.invokevirtual 57, 3) := by decide +kernel
theorem dX9_expects_39 : decode cX9_expects 39 = .ok (.ifCond .eq 6, 3) := by decide +kernel
theorem dX9_expects_42 : decode cX9_expects 42 = .ok (.bipush (-4), 2) := by decide +kernel
theorem dX9_expects_44 : decode cX9_expects 44 = .ok (.ireturn, 1) := by decide +kernel
theorem dX9_expects_45 : decode cX9_expects 45 = .ok (.aload_n 0, 1) := by decide +kernel
theorem dX9_expects_46 : decode cX9_expects 46 = .ok (.getfield 7, 3) := by decide +kernel
theorem dX9_expects_49 : decode cX9_expects 49 = .ok (.iload 4, 2) := by decide +kernel
theorem dX9_expects_51 : decode cX9_expects 51 = .ok (.bipush 35, 2) := by decide +kernel
theorem dX9_expects_53 : decode cX9_expects 53 = .ok (.iadd, 1) := by decide +kernel
theorem dX9_expects_54 : decode cX9_expects 54 = .ok (.iload_n 2, 1) := by decide +kernel
theorem dX9_expects_55 : decode cX9_expects 55 = .ok (.iadd, 1) := by decide +kernel
theorem dX9_expects_56 : decode cX9_expects 56 = .ok (.iaload, 1) := by decide +kernel
theorem dX9_expects_57 : decode cX9_expects 57 = .ok (.istore 5, 2) := by decide +kernel
theorem dX9_expects_59 : decode cX9_expects 59 = .ok (.iload 5, 2) := by decide +kernel
theorem dX9_expects_61 : decode cX9_expects 61 = .ok (.iload_n 3, 1) := by decide +kernel
theorem dX9_expects_62 : decode cX9_expects 62 = .ok (.if_icmp .ne 6, 3) := by decide +kernel
theorem dX9_expects_65 : decode cX9_expects 65 = .ok (.bipush (-5), 2) := by decide +kernel
theorem dX9_expects_67 : decode cX9_expects 67 = .ok (.ireturn, 1) := by decide +kernel
theorem dX9_expects_68 : decode cX9_expects 68 = .ok (.aload_n 0, 1) := by decide +kernel
theorem dX9_expects_69 : decode cX9_expects 69 = .ok (.getfield 7, 3) := by decide +kernel
theorem dX9_expects_72 : decode cX9_expects 72 = .ok (.iload 4, 2) := by decide +kernel
theorem dX9_expects_74 : decode cX9_expects 74 = .ok (.bipush 35, 2) := by decide +kernel
theorem dX9_expects_76 : decode cX9_expects 76 = .ok (.iadd, 1) := by decide +kernel
theorem dX9_expects_77 : decode cX9_expects 77 = .ok (.iload_n 2, 1) := by decide +kernel
theorem dX9_expects_78 : decode cX9_expects 78 = .ok (.iadd, 1) := by decide +kernel
theorem dX9_expects_79 : decode cX9_expects 79 = .ok (.iload_n 3, 1) := by decide +kernel
theorem dX9_expects_80 : decode cX9_expects 80 = .ok (.iastore, 1) := by decide +kernel
theorem dX9_expects_81 : decode cX9_expects 81 = .ok (.iload 5, 2) := by decide +kernel
theorem dX9_expects_83 : decode cX9_expects 83 = .ok (.ireturn, 1) := by decide +kernel
theorem dX9_wrong_0 : decode cX9_wrong 0 = .ok (.iload_n 2, 1) := by decide +kernel
theorem dX9_wrong_1 : decode cX9_wrong 1 = .ok (.iconst 0, 1) := by decide +kernel
theorem dX9_wrong_2 : decode cX9_wrong 2 = .ok (.iconst 5, 1) := by decide +kernel
theorem dX9_wrong_3 : decode cX9_wrong 3 = .ok (.invokestatic 53, 3) := by decide +kernel
theorem dX9_wrong_6 : decode cX9_wrong 6 = .ok (.ifCond .eq 23, 3) := by decide +kernel
theorem dX9_wrong_9 : decode cX9_wrong 9 = .ok (.iload_n 3, 1) := by decide +kernel
theorem dX9_wrong_10 : decode cX9_wrong 10 = .ok (.iconst 0, 1) := by decide +kernel
theorem dX9_wrong_11 : decode cX9_wrong 11 = .ok (.iconst 2, 1) := by decide +kernel
theorem dX9_wrong_12 : decode cX9_wrong 12 = .ok (.invokestatic 53, 3) := by decide +kernel
theorem dX9_wrong_15 : decode cX9_wrong 15 = .ok (.ifCond .eq 14, 3) := by decide +kernel
theorem dX9_wrong_18 : decode cX9_wrong 18 = .ok (.iload 4, 2) := by decide +kernel
theorem dX9_wrong_20 : decode cX9_wrong 20 = .ok (.iconst 0, 1) := by decide +kernel
theorem dX9_wrong_21 : decode cX9_wrong 21 = .ok (.bipush 15, 2) := by decide +kernel
theorem dX9_wrong_23 : decode cX9_wrong 23 = .ok (.invokestatic 53, 3) := by decide +kernel
theorem dX9_wrong_26 : decode cX9_wrong 26 = .ok (.ifCond .ne 5, 3) := by decide +kernel
theorem dX9_wrong_29 : decode cX9_wrong 29 = .ok (.iconst (-1), 1) := by decide +kernel
theorem dX9_wrong_30 : decode cX9_wrong 30 = .ok (.ireturn, 1) := by decide +kernel
theorem dX9_wrong_31 : decode cX9_wrong 31 = .ok (.iload 5, 2) := by decide +kernel
theorem dX9_wrong_33 : decode cX9_wrong 33 = .ok (.iconst 1, 1) := by decide +kernel
theorem dX9_wrong_34 : decode cX9_wrong 34 = .ok (.iload_n 3, 1) := by decide +kernel
theorem dX9_wrong_35 : decode cX9_wrong 35 = .ok (.invokestatic 60, 3) := by decide +kernel
theorem dX9_wrong_38 : decode cX9_wrong 38 = .ok (.invokestatic 53, 3) := by decide +kernel
theorem dX9_wrong_41 : decode cX9_wrong 41 = .ok (.ifCond .eq 15, 3) := by decide +kernel
theorem dX9_wrong_44 : decode cX9_wrong 44 = .ok (.iload 6, 2) := by decide +kernel
theorem dX9_wrong_46 : decode cX9_wrong 46 = .ok (.iconst 1, 1) := by decide +kernel
theorem dX9_wrong_47 : decode cX9_wrong 47 = .ok (.sipush 999, 3) := by decide +kernel
theorem dX9_wrong_50 : decode cX9_wrong 50 = .ok (.invokestatic 53, 3) := by decide +kernel
theorem dX9_wrong_53 : decode cX9_wrong 53 = .ok (.ifCond .ne 6, 3) := by decide +kernel
theorem dX9_wrong_56 : decode cX9_wrong 56 = .ok (.bipush (-2), 2) := by decide +kernel
theorem dX9_wrong_58 : decode cX9_wrong 58 = .ok (.ireturn, 1) := by decide +kernel
theorem dX9_wrong_59 : decode cX9_wrong 59 = .ok (.iload_n 3, 1) := by decide +kernel
theorem dX9_wrong_60 : decode cX9_wrong 60 = .ok (.iload 4, 2) := by decide +kernel
theorem dX9_wrong_62 : decode cX9_wrong 62 = .ok (.invokestatic 64, 3) := by decide +kernel
theorem dX9_wrong_65 : decode cX9_wrong 65 = .ok (.istore 7, 2) := by decide +kernel
theorem dX9_wrong_67 : decode cX9_wrong 67 = .ok (.aload_n 0, 1) := by decide +kernel
theorem dX9_wrong_68 : decode cX9_wrong 68 = .ok (.iload_n 1, 1) := by decide +kernel
theorem dX9_wrong_69 : decode cX9_wrong 69 = .ok (.iload 4, 2) := by decide +kernel
theorem dX9_wrong_71 : decode cX9_wrong 71 = .ok (.invokevirtual 57, 3) := by decide +kernel
theorem dX9_wrong_74 : decode cX9_wrong 74 = .ok (.ifCond .ne 39, 3) := by decide +kernel
theorem dX9_wrong_77 : decode cX9_wrong 77 = .ok (.aload_n 0, 1) := by decide +kernel
theorem dX9_wrong_78 : decode cX9_wrong 78 = .ok (.getfield 7, 3) := by decide +kernel
theorem dX9_wrong_81 : decode cX9_wrong 81 = .ok (.iload_n 1, 1) := by decide +kernel
theorem dX9_wrong_82 : decode cX9_wrong 82 = .ok (.bipush 51, 2) := by decide +kernel
theorem dX9_wrong_84 : decode cX9_wrong 84 = .ok (.iadd, 1) := by decide +kernel
theorem dX9_wrong_85 : decode cX9_wrong 85 = .ok (.iload 7, 2) := by decide +kernel
theorem dX9_wrong_87 : decode cX9_wrong 87 = .ok (.iadd, 1) := by decide +kernel
theorem dX9_wrong_88 : decode cX9_wrong 88 = .ok (.iaload, 1) := by decide +kernel
theorem dX9_wrong_89 : decode cX9_wrong 89 = .ok (.ifCond .ge 24, 3) := by decide +kernel
theorem dX9_wrong_92 : decode cX9_wrong 92 = .ok (.aload_n 0, 1) := by decide +kernel
theorem dX9_wrong_93 : decode cX9_wrong 93 = .ok (.getfield 7, 3) := by decide +kernel
theorem dX9_wrong_96 : decode cX9_wrong 96 = .ok (.iload_n 1, 1) := by decide +kernel
theorem dX9_wrong_97 : decode cX9_wrong 97 = .ok (.sipush 531, 3) := by decide +kernel
theorem dX9_wrong_100 : decode cX9_wrong 100 = .ok (.iadd, 1) := by decide +kernel
theorem dX9_wrong_101 : decode cX9_wrong 101 = .ok (.bipush 6, 2) := by decide +kernel
theorem dX9_wrong_103 : decode cX9_wrong 103 = .ok (.iload 7, 2) := by decide +kernel
theorem dX9_wrong_105 : decode cX9_wrong 105 = .ok (.imul, 1) := by decide +kernel
theorem dX9_wrong_106 : decode cX9_wrong 106 = .ok (.iadd, 1) := by decide +kernel
theorem dX9_wrong_107 : decode cX9_wrong 107 = .ok (.iload_n 2, 1) := by decide +kernel
theorem dX9_wrong_108 : decode cX9_wrong 108 = .ok (.iadd, 1) := by decide +kernel
theorem dX9_wrong_109 : decode cX9_wrong 109 = .ok (.iaload, 1) := by decide +kernel
theorem dX9_wrong_110 : decode cX9_wrong 110 = .ok (.ifCond .le 6, 3) := by decide +kernel
theorem dX9_wrong_113 : decode cX9_wrong 113 = .ok (.bipush (-4), 2) := by decide +kernel
theorem dX9_wrong_115 : decode cX9_wrong 115 = .ok (.ireturn, 1) := by decide +kernel
theorem dX9_wrong_116 : decode cX9_wrong 116 = .ok (.aload_n 0, 1) := by decide +kernel
theorem dX9_wrong_117 : decode cX9_wrong 117 = .ok (.getfield 7, 3) := by decide +kernel
theorem dX9_wrong_120 : decode cX9_wrong 120 = .ok (.iload_n 1, 1) := by decide +kernel
theorem dX9_wrong_121 : decode cX9_wrong 121 = .ok (.iconst 2, 1) := by decide +kernel
theorem dX9_wrong_122 : decode cX9_wrong 122 = .ok (.iadd, 1) := by decide +kernel
theorem dX9_wrong_123 : decode cX9_wrong 123 = .ok (.iload_n 2, 1) := by decide +kernel
theorem dX9_wrong_124 : decode cX9_wrong 124 = .ok (.iadd, 1) := by decide +kernel
theorem dX9_wrong_125 : decode cX9_wrong 125 = .ok (.iaload, 1) := by decide +kernel
theorem dX9_wrong_126 : decode cX9_wrong 126 = .ok (.aload_n 0, 1) := by decide +kernel
theorem dX9_wrong_127 : decode cX9_wrong 127 = .ok (.iload_n 1, 1) := by decide +kernel
theorem dX9_wrong_128 : decode cX9_wrong 128 = .ok (.iload_n 2, 1) := by decide +kernel
theorem dX9_wrong_129 : decode cX9_wrong 129 = .ok (.invokevirtual 67, 3) := by decide +kernel
theorem dX9_wrong_132 : decode cX9_wrong 132 = .ok (.isub, 1) := by decide +kernel
theorem dX9_wrong_133 : decode cX9_wrong 133 = .ok (.iload 6, 2) := by decide +kernel
theorem dX9_wrong_135 : decode cX9_wrong 135 = .ok (.if_icmp .ge 6, 3) := by decide +kernel
theorem dX9_wrong_138 : decode cX9_wrong 138 = .ok (.bipush (-6), 2) := by decide +kernel
theorem dX9_wrong_140 : decode cX9_wrong 140 = .ok (.ireturn, 1) := by decide +kernel
theorem dX9_wrong_141 : decode cX9_wrong 141 = .ok (.aload_n 0, 1) := by decide +kernel
theorem dX9_wrong_142 : decode cX9_wrong 142 = .ok (.iload_n 1, 1) := by decide +kernel
theorem dX9_wrong_143 : decode cX9_wrong 143 = .ok (.invokevirtual 70, 3) := by decide +kernel
theorem dX9_wrong_146 : decode cX9_wrong 146 = .ok (.bipush 60, 2) := by decide +kernel
theorem dX9_wrong_148 : decode cX9_wrong 148 = .ok (.if_icmp .ne 8, 3) := by decide +kernel
theorem dX9_wrong_151 : decode cX9_wrong 151 = .ok (.bipush (-3), 2) := by decide +kernel
theorem dX9_wrong_153 : decode cX9_wrong 153 = .ok (.goto 4, 3) := by decide +kernel
theorem dX9_wrong_156 : decode cX9_wrong 156 = .ok (.iconst 0, 1) := by decide +kernel
theorem dX9_wrong_157 : decode cX9_wrong 157 = .ok (.ireturn, 1) := by decide +kernel
theorem dX9_bidsBy_0 : decode cX9_bidsBy 0 = .ok (.sipush 835, 3) := by decide +kernel
theorem dX9_bidsBy_3 : decode cX9_bidsBy 3 = .ok (.iload_n 1, 1) := by decide +kernel
theorem dX9_bidsBy_4 : decode cX9_bidsBy 4 = .ok (.imul, 1) := by decide +kernel
theorem dX9_bidsBy_5 : decode cX9_bidsBy 5 = .ok (.istore 7, 2) := by decide +kernel
theorem dX9_bidsBy_7 : decode cX9_bidsBy 7 = .ok (.aload_n 0, 1) := by decide +kernel
theorem dX9_bidsBy_8 : decode cX9_bidsBy 8 = .ok (.iload 7, 2) := by decide +kernel
theorem dX9_bidsBy_10 : decode cX9_bidsBy 10 = .ok (.iload_n 2, 1) := by decide +kernel
theorem dX9_bidsBy_11 : decode cX9_bidsBy 11 = .ok (.iload_n 3, 1) := by decide +kernel
theorem dX9_bidsBy_12 : decode cX9_bidsBy 12 = .ok (.iload 4, 2) := by decide +kernel
theorem dX9_bidsBy_14 : decode cX9_bidsBy 14 = .ok (.iload 5, 2) := by decide +kernel
theorem dX9_bidsBy_16 : decode cX9_bidsBy 16 = .ok (.iload 6, 2) := by decide +kernel
theorem dX9_bidsBy_18 : decode cX9_bidsBy 18 = .ok (.invokevirtual 73, 3) := by decide +kernel
theorem dX9_bidsBy_21 : decode cX9_bidsBy 21 = .ok (.istore 8, 2) := by decide +kernel
theorem dX9_bidsBy_23 : decode cX9_bidsBy 23 = .ok (.iload 8, 2) := by decide +kernel
theorem dX9_bidsBy_25 : decode cX9_bidsBy 25 = .ok (.ifCond .ge 6, 3) := by decide +kernel
theorem dX9_bidsBy_28 : decode cX9_bidsBy 28 = .ok (.iload 8, 2) := by decide +kernel
theorem dX9_bidsBy_30 : decode cX9_bidsBy 30 = .ok (.ireturn, 1) := by decide +kernel
theorem dX9_bidsBy_31 : decode cX9_bidsBy 31 = .ok (.iload_n 3, 1) := by decide +kernel
theorem dX9_bidsBy_32 : decode cX9_bidsBy 32 = .ok (.iload 4, 2) := by decide +kernel
theorem dX9_bidsBy_34 : decode cX9_bidsBy 34 = .ok (.invokestatic 64, 3) := by decide +kernel
theorem dX9_bidsBy_37 : decode cX9_bidsBy 37 = .ok (.istore 9, 2) := by decide +kernel
theorem dX9_bidsBy_39 : decode cX9_bidsBy 39 = .ok (.aload_n 0, 1) := by decide +kernel
theorem dX9_bidsBy_40 : decode cX9_bidsBy 40 = .ok (.getfield 7, 3) := by decide +kernel
theorem dX9_bidsBy_43 : decode cX9_bidsBy 43 = .ok (.iload 7, 2) := by decide +kernel
theorem dX9_bidsBy_45 : decode cX9_bidsBy 45 = .ok (.sipush 243, 3) := by decide +kernel
theorem dX9_bidsBy_48 : decode cX9_bidsBy 48 = .ok (.iadd, 1) := by decide +kernel
theorem dX9_bidsBy_49 : decode cX9_bidsBy 49 = .ok (.bipush 6, 2) := by decide +kernel
theorem dX9_bidsBy_51 : decode cX9_bidsBy 51 = .ok (.iload 9, 2) := by decide +kernel
theorem dX9_bidsBy_53 : decode cX9_bidsBy 53 = .ok (.imul, 1) := by decide +kernel
theorem dX9_bidsBy_54 : decode cX9_bidsBy 54 = .ok (.iadd, 1) := by decide +kernel
theorem dX9_bidsBy_55 : decode cX9_bidsBy 55 = .ok (.iload_n 2, 1) := by decide +kernel
theorem dX9_bidsBy_56 : decode cX9_bidsBy 56 = .ok (.iadd, 1) := by decide +kernel
theorem dX9_bidsBy_57 : decode cX9_bidsBy 57 = .ok (.iload 5, 2) := by decide +kernel
theorem dX9_bidsBy_59 : decode cX9_bidsBy 59 = .ok (.iastore, 1) := by decide +kernel
theorem dX9_bidsBy_60 : decode cX9_bidsBy 60 = .ok (.aload_n 0, 1) := by decide +kernel
theorem dX9_bidsBy_61 : decode cX9_bidsBy 61 = .ok (.getfield 7, 3) := by decide +kernel
theorem dX9_bidsBy_64 : decode cX9_bidsBy 64 = .ok (.iload 7, 2) := by decide +kernel
theorem dX9_bidsBy_66 : decode cX9_bidsBy 66 = .ok (.sipush 531, 3) := by decide +kernel
theorem dX9_bidsBy_69 : decode cX9_bidsBy 69 = .ok (.iadd, 1) := by decide +kernel
theorem dX9_bidsBy_70 : decode cX9_bidsBy 70 = .ok (.bipush 6, 2) := by decide +kernel
theorem dX9_bidsBy_72 : decode cX9_bidsBy 72 = .ok (.iload 9, 2) := by decide +kernel
theorem dX9_bidsBy_74 : decode cX9_bidsBy 74 = .ok (.imul, 1) := by decide +kernel
theorem dX9_bidsBy_75 : decode cX9_bidsBy 75 = .ok (.iadd, 1) := by decide +kernel
theorem dX9_bidsBy_76 : decode cX9_bidsBy 76 = .ok (.iload_n 2, 1) := by decide +kernel
theorem dX9_bidsBy_77 : decode cX9_bidsBy 77 = .ok (.iadd, 1) := by decide +kernel
theorem dX9_bidsBy_78 : decode cX9_bidsBy 78 = .ok (.iload 6, 2) := by decide +kernel
theorem dX9_bidsBy_80 : decode cX9_bidsBy 80 = .ok (.iastore, 1) := by decide +kernel
theorem dX9_bidsBy_81 : decode cX9_bidsBy 81 = .ok (.aload_n 0, 1) := by decide +kernel
theorem dX9_bidsBy_82 : decode cX9_bidsBy 82 = .ok (.iload 7, 2) := by decide +kernel
theorem dX9_bidsBy_84 : decode cX9_bidsBy 84 = .ok (.iload 9, 2) := by decide +kernel
theorem dX9_bidsBy_86 : decode cX9_bidsBy 86 = .ok (.invokevirtual 38, 3) := by decide +kernel
theorem dX9_bidsBy_89 : decode cX9_bidsBy 89 = .ok (.ireturn, 1) := by decide +kernel
theorem dX9_goesOn_0 : decode cX9_goesOn 0 = .ok (.aload_n 0, 1) := by decide +kernel
theorem dX9_goesOn_1 : decode cX9_goesOn 1 = .ok (.getfield 7, 3) := by decide +kernel
theorem dX9_goesOn_4 : decode cX9_goesOn 4 = .ok (.iload_n 1, 1) := by decide +kernel
theorem dX9_goesOn_5 : decode cX9_goesOn 5 = .ok (.bipush 51, 2) := by decide +kernel
theorem dX9_goesOn_7 : decode cX9_goesOn 7 = .ok (.iadd, 1) := by decide +kernel
theorem dX9_goesOn_8 : decode cX9_goesOn 8 = .ok (.iload_n 2, 1) := by decide +kernel
theorem dX9_goesOn_9 : decode cX9_goesOn 9 = .ok (.iadd, 1) := by decide +kernel
theorem dX9_goesOn_10 : decode cX9_goesOn 10 = .ok (.iaload, 1) := by decide +kernel
theorem dX9_goesOn_11 : decode cX9_goesOn 11 = .ok (.istore 5, 2) := by decide +kernel
theorem dX9_goesOn_13 : decode cX9_goesOn 13 = .ok (.iload 5, 2) := by decide +kernel
theorem dX9_goesOn_15 : decode cX9_goesOn 15 = .ok (.ifCond .ge 16, 3) := by decide +kernel
theorem dX9_goesOn_18 : decode cX9_goesOn 18 = .ok (.iload 4, 2) := by decide +kernel
theorem dX9_goesOn_20 : decode cX9_goesOn 20 = .ok (.ifCond .ne 7, 3) := by decide +kernel
theorem dX9_goesOn_23 : decode cX9_goesOn 23 = .ok (.iconst 1, 1) := by decide +kernel
theorem dX9_goesOn_24 : decode cX9_goesOn 24 = .ok (.goto 30, 3) := by decide +kernel
theorem dX9_goesOn_27 : decode cX9_goesOn 27 = .ok (.iconst 2, 1) := by decide +kernel
theorem dX9_goesOn_28 : decode cX9_goesOn 28 = .ok (.goto 26, 3) := by decide +kernel
theorem dX9_goesOn_31 : decode cX9_goesOn 31 = .ok (.aload_n 0, 1) := by decide +kernel
theorem dX9_goesOn_32 : decode cX9_goesOn 32 = .ok (.getfield 7, 3) := by decide +kernel
theorem dX9_goesOn_35 : decode cX9_goesOn 35 = .ok (.iload_n 1, 1) := by decide +kernel
theorem dX9_goesOn_36 : decode cX9_goesOn 36 = .ok (.bipush 99, 2) := by decide +kernel
theorem dX9_goesOn_38 : decode cX9_goesOn 38 = .ok (.iadd, 1) := by decide +kernel
theorem dX9_goesOn_39 : decode cX9_goesOn 39 = .ok (.iload_n 2, 1) := by decide +kernel
theorem dX9_goesOn_40 : decode cX9_goesOn 40 = .ok (.iadd, 1) := by decide +kernel
theorem dX9_goesOn_41 : decode cX9_goesOn 41 = .ok (.iaload, 1) := by decide +kernel
theorem dX9_goesOn_42 : decode cX9_goesOn 42 = .ok (.iload_n 3, 1) := by decide +kernel
theorem dX9_goesOn_43 : decode cX9_goesOn 43 = .ok (.invokestatic 42, 3) := by decide +kernel
theorem dX9_goesOn_46 : decode cX9_goesOn 46 = .ok (.ifCond .eq 7, 3) := by decide +kernel
theorem dX9_goesOn_49 : decode cX9_goesOn 49 = .ok (.iconst 0, 1) := by decide +kernel
theorem dX9_goesOn_50 : decode cX9_goesOn 50 = .ok (.goto 4, 3) := by decide +kernel
theorem dX9_goesOn_53 : decode cX9_goesOn 53 = .ok (.iconst 3, 1) := by decide +kernel
theorem dX9_goesOn_54 : decode cX9_goesOn 54 = .ok (.istore 6, 2) := by decide +kernel
theorem dX9_goesOn_56 : decode cX9_goesOn 56 = .ok (.aload_n 0, 1) := by decide +kernel
theorem dX9_goesOn_57 : decode cX9_goesOn 57 = .ok (.getfield 7, 3) := by decide +kernel
theorem dX9_goesOn_60 : decode cX9_goesOn 60 = .ok (.iload_n 1, 1) := by decide +kernel
theorem dX9_goesOn_61 : decode cX9_goesOn 61 = .ok (.sipush 195, 3) := by decide +kernel
theorem dX9_goesOn_64 : decode cX9_goesOn 64 = .ok (.iadd, 1) := by decide +kernel
theorem dX9_goesOn_65 : decode cX9_goesOn 65 = .ok (.iload_n 2, 1) := by decide +kernel
theorem dX9_goesOn_66 : decode cX9_goesOn 66 = .ok (.iadd, 1) := by decide +kernel
theorem dX9_goesOn_67 : decode cX9_goesOn 67 = .ok (.iload 6, 2) := by decide +kernel
theorem dX9_goesOn_69 : decode cX9_goesOn 69 = .ok (.iastore, 1) := by decide +kernel
theorem dX9_goesOn_70 : decode cX9_goesOn 70 = .ok (.iload 6, 2) := by decide +kernel
theorem dX9_goesOn_72 : decode cX9_goesOn 72 = .ok (.ifCond .ne 58, 3) := by decide +kernel
theorem dX9_goesOn_75 : decode cX9_goesOn 75 = .ok (.aload_n 0, 1) := by decide +kernel
theorem dX9_goesOn_76 : decode cX9_goesOn 76 = .ok (.getfield 7, 3) := by decide +kernel
theorem dX9_goesOn_79 : decode cX9_goesOn 79 = .ok (.iload_n 1, 1) := by decide +kernel
theorem dX9_goesOn_80 : decode cX9_goesOn 80 = .ok (.bipush 26, 2) := by decide +kernel
theorem dX9_goesOn_82 : decode cX9_goesOn 82 = .ok (.iadd, 1) := by decide +kernel
theorem dX9_goesOn_83 : decode cX9_goesOn 83 = .ok (.dup2, 1) := by decide +kernel
theorem dX9_goesOn_84 : decode cX9_goesOn 84 = .ok (.iaload, 1) := by decide +kernel
theorem dX9_goesOn_85 : decode cX9_goesOn 85 = .ok (.iconst 1, 1) := by decide +kernel
theorem dX9_goesOn_86 : decode cX9_goesOn 86 = .ok (.iadd, 1) := by decide +kernel
theorem dX9_goesOn_87 : decode cX9_goesOn 87 = .ok (.iastore, 1) := by decide +kernel
theorem dX9_goesOn_88 : decode cX9_goesOn 88 = .ok (.aload_n 0, 1) := by decide +kernel
theorem dX9_goesOn_89 : decode cX9_goesOn 89 = .ok (.getfield 7, 3) := by decide +kernel
theorem dX9_goesOn_92 : decode cX9_goesOn 92 = .ok (.iload_n 1, 1) := by decide +kernel
theorem dX9_goesOn_93 : decode cX9_goesOn 93 = .ok (.bipush 8, 2) := by decide +kernel
theorem dX9_goesOn_95 : decode cX9_goesOn 95 = .ok (.iadd, 1) := by decide +kernel
theorem dX9_goesOn_96 : decode cX9_goesOn 96 = .ok (.iload 5, 2) := by decide +kernel
theorem dX9_goesOn_98 : decode cX9_goesOn 98 = .ok (.iadd, 1) := by decide +kernel
theorem dX9_goesOn_99 : decode cX9_goesOn 99 = .ok (.dup2, 1) := by decide +kernel
theorem dX9_goesOn_100 : decode cX9_goesOn 100 = .ok (.iaload, 1) := by decide +kernel
theorem dX9_goesOn_101 : decode cX9_goesOn 101 = .ok (.iconst 1, 1) := by decide +kernel
theorem dX9_goesOn_102 : decode cX9_goesOn 102 = .ok (.iadd, 1) := by decide +kernel
theorem dX9_goesOn_103 : decode cX9_goesOn 103 = .ok (.iastore, 1) := by decide +kernel
theorem dX9_goesOn_104 : decode cX9_goesOn 104 = .ok (.aload_n 0, 1) := by decide +kernel
theorem dX9_goesOn_105 : decode cX9_goesOn 105 = .ok (.getfield 7, 3) := by decide +kernel
theorem dX9_goesOn_108 : decode cX9_goesOn 108 = .ok (.iload_n 1, 1) := by decide +kernel
theorem dX9_goesOn_109 : decode cX9_goesOn 109 = .ok (.bipush 34, 2) := by decide +kernel
theorem dX9_goesOn_111 : decode cX9_goesOn 111 = .ok (.iadd, 1) := by decide +kernel
theorem dX9_goesOn_112 : decode cX9_goesOn 112 = .ok (.dup2, 1) := by decide +kernel
theorem dX9_goesOn_113 : decode cX9_goesOn 113 = .ok (.iaload, 1) := by decide +kernel
theorem dX9_goesOn_114 : decode cX9_goesOn 114 = .ok (.aload_n 0, 1) := by decide +kernel
theorem dX9_goesOn_115 : decode cX9_goesOn 115 = .ok (.getfield 7, 3) := by decide +kernel
theorem dX9_goesOn_118 : decode cX9_goesOn 118 = .ok (.iload_n 1, 1) := by decide +kernel
theorem dX9_goesOn_119 : decode cX9_goesOn 119 = .ok (.bipush 99, 2) := by decide +kernel
theorem dX9_goesOn_121 : decode cX9_goesOn 121 = .ok (.iadd, 1) := by decide +kernel
theorem dX9_goesOn_122 : decode cX9_goesOn 122 = .ok (.iload_n 2, 1) := by decide +kernel
theorem dX9_goesOn_123 : decode cX9_goesOn 123 = .ok (.iadd, 1) := by decide +kernel
theorem dX9_goesOn_124 : decode cX9_goesOn 124 = .ok (.iaload, 1) := by decide +kernel
theorem dX9_goesOn_125 : decode cX9_goesOn 125 = .ok (.iadd, 1) := by decide +kernel
theorem dX9_goesOn_126 : decode cX9_goesOn 126 = .ok (.iastore, 1) := by decide +kernel
theorem dX9_goesOn_127 : decode cX9_goesOn 127 = .ok (.goto 21, 3) := by decide +kernel
theorem dX9_goesOn_130 : decode cX9_goesOn 130 = .ok (.aload_n 0, 1) := by decide +kernel
theorem dX9_goesOn_131 : decode cX9_goesOn 131 = .ok (.getfield 7, 3) := by decide +kernel
theorem dX9_goesOn_134 : decode cX9_goesOn 134 = .ok (.iload_n 1, 1) := by decide +kernel
theorem dX9_goesOn_135 : decode cX9_goesOn 135 = .ok (.bipush 27, 2) := by decide +kernel
theorem dX9_goesOn_137 : decode cX9_goesOn 137 = .ok (.iadd, 1) := by decide +kernel
theorem dX9_goesOn_138 : decode cX9_goesOn 138 = .ok (.iload 6, 2) := by decide +kernel
theorem dX9_goesOn_140 : decode cX9_goesOn 140 = .ok (.iadd, 1) := by decide +kernel
theorem dX9_goesOn_141 : decode cX9_goesOn 141 = .ok (.iconst 1, 1) := by decide +kernel
theorem dX9_goesOn_142 : decode cX9_goesOn 142 = .ok (.isub, 1) := by decide +kernel
theorem dX9_goesOn_143 : decode cX9_goesOn 143 = .ok (.dup2, 1) := by decide +kernel
theorem dX9_goesOn_144 : decode cX9_goesOn 144 = .ok (.iaload, 1) := by decide +kernel
theorem dX9_goesOn_145 : decode cX9_goesOn 145 = .ok (.iconst 1, 1) := by decide +kernel
theorem dX9_goesOn_146 : decode cX9_goesOn 146 = .ok (.iadd, 1) := by decide +kernel
theorem dX9_goesOn_147 : decode cX9_goesOn 147 = .ok (.iastore, 1) := by decide +kernel
theorem dX9_goesOn_148 : decode cX9_goesOn 148 = .ok (.iload 6, 2) := by decide +kernel
theorem dX9_goesOn_150 : decode cX9_goesOn 150 = .ok (.iconst 3, 1) := by decide +kernel
theorem dX9_goesOn_151 : decode cX9_goesOn 151 = .ok (.if_icmp .ne 78, 3) := by decide +kernel
theorem dX9_goesOn_154 : decode cX9_goesOn 154 = .ok (.aload_n 0, 1) := by decide +kernel
theorem dX9_goesOn_155 : decode cX9_goesOn 155 = .ok (.getfield 7, 3) := by decide +kernel
theorem dX9_goesOn_158 : decode cX9_goesOn 158 = .ok (.iload_n 1, 1) := by decide +kernel
theorem dX9_goesOn_159 : decode cX9_goesOn 159 = .ok (.sipush 147, 3) := by decide +kernel
theorem dX9_goesOn_162 : decode cX9_goesOn 162 = .ok (.iadd, 1) := by decide +kernel
theorem dX9_goesOn_163 : decode cX9_goesOn 163 = .ok (.iload_n 2, 1) := by decide +kernel
theorem dX9_goesOn_164 : decode cX9_goesOn 164 = .ok (.iadd, 1) := by decide +kernel
theorem dX9_goesOn_165 : decode cX9_goesOn 165 = .ok (.iaload, 1) := by decide +kernel
theorem dX9_goesOn_166 : decode cX9_goesOn 166 = .ok (.istore 7, 2) := by decide +kernel
theorem dX9_goesOn_168 : decode cX9_goesOn 168 = .ok (.aload_n 0, 1) := by decide +kernel
theorem dX9_goesOn_169 : decode cX9_goesOn 169 = .ok (.getfield 7, 3) := by decide +kernel
theorem dX9_goesOn_172 : decode cX9_goesOn 172 = .ok (.iload_n 1, 1) := by decide +kernel
theorem dX9_goesOn_173 : decode cX9_goesOn 173 = .ok (.iconst 2, 1) := by decide +kernel
theorem dX9_goesOn_174 : decode cX9_goesOn 174 = .ok (.iadd, 1) := by decide +kernel
theorem dX9_goesOn_175 : decode cX9_goesOn 175 = .ok (.iload 5, 2) := by decide +kernel
theorem dX9_goesOn_177 : decode cX9_goesOn 177 = .ok (.iadd, 1) := by decide +kernel
theorem dX9_goesOn_178 : decode cX9_goesOn 178 = .ok (.dup2, 1) := by decide +kernel
theorem dX9_goesOn_179 : decode cX9_goesOn 179 = .ok (.iaload, 1) := by decide +kernel
theorem dX9_goesOn_180 : decode cX9_goesOn 180 = .ok (.iload 7, 2) := by decide +kernel
theorem dX9_goesOn_182 : decode cX9_goesOn 182 = .ok (.iadd, 1) := by decide +kernel
theorem dX9_goesOn_183 : decode cX9_goesOn 183 = .ok (.iastore, 1) := by decide +kernel
theorem dX9_goesOn_184 : decode cX9_goesOn 184 = .ok (.aload_n 0, 1) := by decide +kernel
theorem dX9_goesOn_185 : decode cX9_goesOn 185 = .ok (.getfield 7, 3) := by decide +kernel
theorem dX9_goesOn_188 : decode cX9_goesOn 188 = .ok (.iload_n 1, 1) := by decide +kernel
theorem dX9_goesOn_189 : decode cX9_goesOn 189 = .ok (.bipush 14, 2) := by decide +kernel
theorem dX9_goesOn_191 : decode cX9_goesOn 191 = .ok (.iadd, 1) := by decide +kernel
theorem dX9_goesOn_192 : decode cX9_goesOn 192 = .ok (.iload 5, 2) := by decide +kernel
theorem dX9_goesOn_194 : decode cX9_goesOn 194 = .ok (.iadd, 1) := by decide +kernel
theorem dX9_goesOn_195 : decode cX9_goesOn 195 = .ok (.dup2, 1) := by decide +kernel
theorem dX9_goesOn_196 : decode cX9_goesOn 196 = .ok (.iaload, 1) := by decide +kernel
theorem dX9_goesOn_197 : decode cX9_goesOn 197 = .ok (.iload 7, 2) := by decide +kernel
theorem dX9_goesOn_199 : decode cX9_goesOn 199 = .ok (.isub, 1) := by decide +kernel
theorem dX9_goesOn_200 : decode cX9_goesOn 200 = .ok (.iastore, 1) := by decide +kernel
theorem dX9_goesOn_201 : decode cX9_goesOn 201 = .ok (.aload_n 0, 1) := by decide +kernel
theorem dX9_goesOn_202 : decode cX9_goesOn 202 = .ok (.getfield 7, 3) := by decide +kernel
theorem dX9_goesOn_205 : decode cX9_goesOn 205 = .ok (.iload_n 1, 1) := by decide +kernel
theorem dX9_goesOn_206 : decode cX9_goesOn 206 = .ok (.bipush 30, 2) := by decide +kernel
theorem dX9_goesOn_208 : decode cX9_goesOn 208 = .ok (.iadd, 1) := by decide +kernel
theorem dX9_goesOn_209 : decode cX9_goesOn 209 = .ok (.dup2, 1) := by decide +kernel
theorem dX9_goesOn_210 : decode cX9_goesOn 210 = .ok (.iaload, 1) := by decide +kernel
theorem dX9_goesOn_211 : decode cX9_goesOn 211 = .ok (.iload 7, 2) := by decide +kernel
theorem dX9_goesOn_213 : decode cX9_goesOn 213 = .ok (.isub, 1) := by decide +kernel
theorem dX9_goesOn_214 : decode cX9_goesOn 214 = .ok (.iastore, 1) := by decide +kernel
theorem dX9_goesOn_215 : decode cX9_goesOn 215 = .ok (.aload_n 0, 1) := by decide +kernel
theorem dX9_goesOn_216 : decode cX9_goesOn 216 = .ok (.getfield 7, 3) := by decide +kernel
theorem dX9_goesOn_219 : decode cX9_goesOn 219 = .ok (.iload_n 1, 1) := by decide +kernel
theorem dX9_goesOn_220 : decode cX9_goesOn 220 = .ok (.bipush 31, 2) := by decide +kernel
theorem dX9_goesOn_222 : decode cX9_goesOn 222 = .ok (.iadd, 1) := by decide +kernel
theorem dX9_goesOn_223 : decode cX9_goesOn 223 = .ok (.dup2, 1) := by decide +kernel
theorem dX9_goesOn_224 : decode cX9_goesOn 224 = .ok (.iaload, 1) := by decide +kernel
theorem dX9_goesOn_225 : decode cX9_goesOn 225 = .ok (.iload 7, 2) := by decide +kernel
theorem dX9_goesOn_227 : decode cX9_goesOn 227 = .ok (.iadd, 1) := by decide +kernel
theorem dX9_goesOn_228 : decode cX9_goesOn 228 = .ok (.iastore, 1) := by decide +kernel
theorem dX9_goesOn_229 : decode cX9_goesOn 229 = .ok (.return_, 1) := by decide +kernel
theorem dX9_does_0 : decode cX9_does 0 = .ok (.sipush 835, 3) := by decide +kernel
theorem dX9_does_3 : decode cX9_does 3 = .ok (.iload_n 1, 1) := by decide +kernel
theorem dX9_does_4 : decode cX9_does 4 = .ok (.imul, 1) := by decide +kernel
theorem dX9_does_5 : decode cX9_does 5 = .ok (.istore_n 3, 1) := by decide +kernel
theorem dX9_does_6 : decode cX9_does 6 = .ok (.iload_n 2, 1) := by decide +kernel
theorem dX9_does_7 : decode cX9_does 7 = .ok (.iconst 0, 1) := by decide +kernel
theorem dX9_does_8 : decode cX9_does 8 = .ok (.bipush 99, 2) := by decide +kernel
theorem dX9_does_10 : decode cX9_does 10 = .ok (.invokestatic 53, 3) := by decide +kernel
theorem dX9_does_13 : decode cX9_does 13 = .ok (.ifCond .ne 6, 3) := by decide +kernel
theorem dX9_does_16 : decode cX9_does 16 = .ok (.bipush (-2), 2) := by decide +kernel
theorem dX9_does_18 : decode cX9_does 18 = .ok (.ireturn, 1) := by decide +kernel
theorem dX9_does_19 : decode cX9_does 19 = .ok (.aload_n 0, 1) := by decide +kernel
theorem dX9_does_20 : decode cX9_does 20 = .ok (.getfield 7, 3) := by decide +kernel
theorem dX9_does_23 : decode cX9_does 23 = .ok (.iload_n 3, 1) := by decide +kernel
theorem dX9_does_24 : decode cX9_does 24 = .ok (.iconst 1, 1) := by decide +kernel
theorem dX9_does_25 : decode cX9_does 25 = .ok (.iadd, 1) := by decide +kernel
theorem dX9_does_26 : decode cX9_does 26 = .ok (.iaload, 1) := by decide +kernel
theorem dX9_does_27 : decode cX9_does 27 = .ok (.bipush 16, 2) := by decide +kernel
theorem dX9_does_29 : decode cX9_does 29 = .ok (.if_icmp .ne 6, 3) := by decide +kernel
theorem dX9_does_32 : decode cX9_does 32 = .ok (.bipush (-4), 2) := by decide +kernel
theorem dX9_does_34 : decode cX9_does 34 = .ok (.ireturn, 1) := by decide +kernel
theorem dX9_does_35 : decode cX9_does 35 = .ok (.aload_n 0, 1) := by decide +kernel
theorem dX9_does_36 : decode cX9_does 36 = .ok (.getfield 7, 3) := by decide +kernel
theorem dX9_does_39 : decode cX9_does 39 = .ok (.iload_n 3, 1) := by decide +kernel
theorem dX9_does_40 : decode cX9_does 40 = .ok (.iconst 1, 1) := by decide +kernel
theorem dX9_does_41 : decode cX9_does 41 = .ok (.iadd, 1) := by decide +kernel
theorem dX9_does_42 : decode cX9_does 42 = .ok (.iaload, 1) := by decide +kernel
theorem dX9_does_43 : decode cX9_does 43 = .ok (.istore 4, 2) := by decide +kernel
theorem dX9_does_45 : decode cX9_does 45 = .ok (.aload_n 0, 1) := by decide +kernel
theorem dX9_does_46 : decode cX9_does 46 = .ok (.getfield 7, 3) := by decide +kernel
theorem dX9_does_49 : decode cX9_does 49 = .ok (.iload_n 3, 1) := by decide +kernel
theorem dX9_does_50 : decode cX9_does 50 = .ok (.bipush 26, 2) := by decide +kernel
theorem dX9_does_52 : decode cX9_does 52 = .ok (.iadd, 1) := by decide +kernel
theorem dX9_does_53 : decode cX9_does 53 = .ok (.iaload, 1) := by decide +kernel
theorem dX9_does_54 : decode cX9_does 54 = .ok (.istore 5, 2) := by decide +kernel
theorem dX9_does_56 : decode cX9_does 56 = .ok (.iconst 0, 1) := by decide +kernel
theorem dX9_does_57 : decode cX9_does 57 = .ok (.istore 6, 2) := by decide +kernel
theorem dX9_does_59 : decode cX9_does 59 = .ok (.iload 6, 2) := by decide +kernel
theorem dX9_does_61 : decode cX9_does 61 = .ok (.iconst 3, 1) := by decide +kernel
theorem dX9_does_62 : decode cX9_does 62 = .ok (.if_icmp .ge 42, 3) := by decide +kernel
theorem dX9_does_65 : decode cX9_does 65 = .ok (.aload_n 0, 1) := by decide +kernel
theorem dX9_does_66 : decode cX9_does 66 = .ok (.getfield 7, 3) := by decide +kernel
theorem dX9_does_69 : decode cX9_does 69 = .ok (.iload_n 3, 1) := by decide +kernel
theorem dX9_does_70 : decode cX9_does 70 = .ok (.bipush 51, 2) := by decide +kernel
theorem dX9_does_72 : decode cX9_does 72 = .ok (.iadd, 1) := by decide +kernel
theorem dX9_does_73 : decode cX9_does 73 = .ok (.iload 6, 2) := by decide +kernel
theorem dX9_does_75 : decode cX9_does 75 = .ok (.iload 4, 2) := by decide +kernel
theorem dX9_does_77 : decode cX9_does 77 = .ok (.invokestatic 64, 3) := by decide +kernel
theorem dX9_does_80 : decode cX9_does 80 = .ok (.iadd, 1) := by decide +kernel
theorem dX9_does_81 : decode cX9_does 81 = .ok (.iaload, 1) := by decide +kernel
theorem dX9_does_82 : decode cX9_does 82 = .ok (.ifCond .ge 16, 3) := by decide +kernel
theorem dX9_does_85 : decode cX9_does 85 = .ok (.aload_n 0, 1) := by decide +kernel
theorem dX9_does_86 : decode cX9_does 86 = .ok (.iload_n 3, 1) := by decide +kernel
theorem dX9_does_87 : decode cX9_does 87 = .ok (.iload 6, 2) := by decide +kernel
theorem dX9_does_89 : decode cX9_does 89 = .ok (.iload 4, 2) := by decide +kernel
theorem dX9_does_91 : decode cX9_does 91 = .ok (.invokestatic 64, 3) := by decide +kernel
theorem dX9_does_94 : decode cX9_does 94 = .ok (.invokevirtual 77, 3) := by decide +kernel
theorem dX9_does_97 : decode cX9_does 97 = .ok (.pop, 1) := by decide +kernel
theorem dX9_does_98 : decode cX9_does 98 = .ok (.iinc 6 1, 3) := by decide +kernel
theorem dX9_does_101 : decode cX9_does 101 = .ok (.goto (-42), 3) := by decide +kernel
theorem dX9_does_104 : decode cX9_does 104 = .ok (.aload_n 0, 1) := by decide +kernel
theorem dX9_does_105 : decode cX9_does 105 = .ok (.getfield 7, 3) := by decide +kernel
theorem dX9_does_108 : decode cX9_does 108 = .ok (.iload_n 3, 1) := by decide +kernel
theorem dX9_does_109 : decode cX9_does 109 = .ok (.sipush 819, 3) := by decide +kernel
theorem dX9_does_112 : decode cX9_does 112 = .ok (.iadd, 1) := by decide +kernel
theorem dX9_does_113 : decode cX9_does 113 = .ok (.iload 4, 2) := by decide +kernel
theorem dX9_does_115 : decode cX9_does 115 = .ok (.iadd, 1) := by decide +kernel
theorem dX9_does_116 : decode cX9_does 116 = .ok (.iload_n 2, 1) := by decide +kernel
theorem dX9_does_117 : decode cX9_does 117 = .ok (.iastore, 1) := by decide +kernel
theorem dX9_does_118 : decode cX9_does 118 = .ok (.iconst 0, 1) := by decide +kernel
theorem dX9_does_119 : decode cX9_does 119 = .ok (.istore 6, 2) := by decide +kernel
theorem dX9_does_121 : decode cX9_does 121 = .ok (.iload 6, 2) := by decide +kernel
theorem dX9_does_123 : decode cX9_does 123 = .ok (.iconst 3, 1) := by decide +kernel
theorem dX9_does_124 : decode cX9_does 124 = .ok (.if_icmp .ge 40, 3) := by decide +kernel
theorem dX9_does_127 : decode cX9_does 127 = .ok (.iload 6, 2) := by decide +kernel
theorem dX9_does_129 : decode cX9_does 129 = .ok (.iload 4, 2) := by decide +kernel
theorem dX9_does_131 : decode cX9_does 131 = .ok (.invokestatic 64, 3) := by decide +kernel
theorem dX9_does_134 : decode cX9_does 134 = .ok (.istore 7, 2) := by decide +kernel
theorem dX9_does_136 : decode cX9_does 136 = .ok (.aload_n 0, 1) := by decide +kernel
theorem dX9_does_137 : decode cX9_does 137 = .ok (.iload_n 3, 1) := by decide +kernel
theorem dX9_does_138 : decode cX9_does 138 = .ok (.iload 7, 2) := by decide +kernel
theorem dX9_does_140 : decode cX9_does 140 = .ok (.iload_n 2, 1) := by decide +kernel
theorem dX9_does_141 : decode cX9_does 141 = .ok (.aload_n 0, 1) := by decide +kernel
theorem dX9_does_142 : decode cX9_does 142 = .ok (.iload_n 3, 1) := by decide +kernel
theorem dX9_does_143 : decode cX9_does 143 = .ok (.iload 7, 2) := by decide +kernel
theorem dX9_does_145 : decode cX9_does 145 = .ok (.invokevirtual 38, 3) := by decide +kernel
theorem dX9_does_148 : decode cX9_does 148 = .ok (.invokevirtual 80, 3) := by decide +kernel
theorem dX9_does_151 : decode cX9_does 151 = .ok (.aload_n 0, 1) := by decide +kernel
theorem dX9_does_152 : decode cX9_does 152 = .ok (.iload_n 3, 1) := by decide +kernel
theorem dX9_does_153 : decode cX9_does 153 = .ok (.iload 7, 2) := by decide +kernel
theorem dX9_does_155 : decode cX9_does 155 = .ok (.invokevirtual 35, 3) := by decide +kernel
theorem dX9_does_158 : decode cX9_does 158 = .ok (.iinc 6 1, 3) := by decide +kernel
theorem dX9_does_161 : decode cX9_does 161 = .ok (.goto (-40), 3) := by decide +kernel
theorem dX9_does_164 : decode cX9_does 164 = .ok (.aload_n 0, 1) := by decide +kernel
theorem dX9_does_165 : decode cX9_does 165 = .ok (.getfield 7, 3) := by decide +kernel
theorem dX9_does_168 : decode cX9_does 168 = .ok (.iload_n 3, 1) := by decide +kernel
theorem dX9_does_169 : decode cX9_does 169 = .ok (.iconst 1, 1) := by decide +kernel
theorem dX9_does_170 : decode cX9_does 170 = .ok (.iadd, 1) := by decide +kernel
theorem dX9_does_171 : decode cX9_does 171 = .ok (.dup2, 1) := by decide +kernel
theorem dX9_does_172 : decode cX9_does 172 = .ok (.iaload, 1) := by decide +kernel
theorem dX9_does_173 : decode cX9_does 173 = .ok (.iconst 1, 1) := by decide +kernel
theorem dX9_does_174 : decode cX9_does 174 = .ok (.iadd, 1) := by decide +kernel
theorem dX9_does_175 : decode cX9_does 175 = .ok (.iastore, 1) := by decide +kernel
theorem dX9_does_176 : decode cX9_does 176 = .ok (.aload_n 0, 1) := by decide +kernel
theorem dX9_does_177 : decode cX9_does 177 = .ok (.getfield 7, 3) := by decide +kernel
theorem dX9_does_180 : decode cX9_does 180 = .ok (.iload_n 3, 1) := by decide +kernel
theorem dX9_does_181 : decode cX9_does 181 = .ok (.bipush 26, 2) := by decide +kernel
theorem dX9_does_183 : decode cX9_does 183 = .ok (.iadd, 1) := by decide +kernel
theorem dX9_does_184 : decode cX9_does 184 = .ok (.iaload, 1) := by decide +kernel
theorem dX9_does_185 : decode cX9_does 185 = .ok (.iload 5, 2) := by decide +kernel
theorem dX9_does_187 : decode cX9_does 187 = .ok (.isub, 1) := by decide +kernel
theorem dX9_does_188 : decode cX9_does 188 = .ok (.ireturn, 1) := by decide +kernel
theorem dX9_begins_0 : decode cX9_begins 0 = .ok (.sipush 835, 3) := by decide +kernel
theorem dX9_begins_3 : decode cX9_begins 3 = .ok (.iload_n 1, 1) := by decide +kernel
theorem dX9_begins_4 : decode cX9_begins 4 = .ok (.imul, 1) := by decide +kernel
theorem dX9_begins_5 : decode cX9_begins 5 = .ok (.istore_n 2, 1) := by decide +kernel
theorem dX9_begins_6 : decode cX9_begins 6 = .ok (.aload_n 0, 1) := by decide +kernel
theorem dX9_begins_7 : decode cX9_begins 7 = .ok (.getfield 7, 3) := by decide +kernel
theorem dX9_begins_10 : decode cX9_begins 10 = .ok (.iload_n 2, 1) := by decide +kernel
theorem dX9_begins_11 : decode cX9_begins 11 = .ok (.iconst 1, 1) := by decide +kernel
theorem dX9_begins_12 : decode cX9_begins 12 = .ok (.iadd, 1) := by decide +kernel
theorem dX9_begins_13 : decode cX9_begins 13 = .ok (.iaload, 1) := by decide +kernel
theorem dX9_begins_14 : decode cX9_begins 14 = .ok (.bipush 16, 2) := by decide +kernel
theorem dX9_begins_16 : decode cX9_begins 16 = .ok (.if_icmp .ge 6, 3) := by decide +kernel
theorem dX9_begins_19 : decode cX9_begins 19 = .ok (.bipush (-4), 2) := by decide +kernel
theorem dX9_begins_21 : decode cX9_begins 21 = .ok (.ireturn, 1) := by decide +kernel
theorem dX9_begins_22 : decode cX9_begins 22 = .ok (.aload_n 0, 1) := by decide +kernel
theorem dX9_begins_23 : decode cX9_begins 23 = .ok (.getfield 7, 3) := by decide +kernel
theorem dX9_begins_26 : decode cX9_begins 26 = .ok (.iload_n 2, 1) := by decide +kernel
theorem dX9_begins_27 : decode cX9_begins 27 = .ok (.iaload, 1) := by decide +kernel
theorem dX9_begins_28 : decode cX9_begins 28 = .ok (.sipush 999, 3) := by decide +kernel
theorem dX9_begins_31 : decode cX9_begins 31 = .ok (.if_icmp .ne 6, 3) := by decide +kernel
theorem dX9_begins_34 : decode cX9_begins 34 = .ok (.bipush (-3), 2) := by decide +kernel
theorem dX9_begins_36 : decode cX9_begins 36 = .ok (.ireturn, 1) := by decide +kernel
theorem dX9_begins_37 : decode cX9_begins 37 = .ok (.aload_n 0, 1) := by decide +kernel
theorem dX9_begins_38 : decode cX9_begins 38 = .ok (.iload_n 1, 1) := by decide +kernel
theorem dX9_begins_39 : decode cX9_begins 39 = .ok (.invokevirtual 24, 3) := by decide +kernel
theorem dX9_begins_42 : decode cX9_begins 42 = .ok (.aload_n 0, 1) := by decide +kernel
theorem dX9_begins_43 : decode cX9_begins 43 = .ok (.getfield 7, 3) := by decide +kernel
theorem dX9_begins_46 : decode cX9_begins 46 = .ok (.iload_n 2, 1) := by decide +kernel
theorem dX9_begins_47 : decode cX9_begins 47 = .ok (.dup2, 1) := by decide +kernel
theorem dX9_begins_48 : decode cX9_begins 48 = .ok (.iaload, 1) := by decide +kernel
theorem dX9_begins_49 : decode cX9_begins 49 = .ok (.iconst 1, 1) := by decide +kernel
theorem dX9_begins_50 : decode cX9_begins 50 = .ok (.iadd, 1) := by decide +kernel
theorem dX9_begins_51 : decode cX9_begins 51 = .ok (.iastore, 1) := by decide +kernel
theorem dX9_begins_52 : decode cX9_begins 52 = .ok (.aload_n 0, 1) := by decide +kernel
theorem dX9_begins_53 : decode cX9_begins 53 = .ok (.getfield 7, 3) := by decide +kernel
theorem dX9_begins_56 : decode cX9_begins 56 = .ok (.iload_n 2, 1) := by decide +kernel
theorem dX9_begins_57 : decode cX9_begins 57 = .ok (.iaload, 1) := by decide +kernel
theorem dX9_begins_58 : decode cX9_begins 58 = .ok (.ireturn, 1) := by decide +kernel
theorem dX9_settles_0 : decode cX9_settles 0 = .ok (.iload_n 1, 1) := by decide +kernel
theorem dX9_settles_1 : decode cX9_settles 1 = .ok (.ifCond .lt 14, 3) := by decide +kernel
theorem dX9_settles_4 : decode cX9_settles 4 = .ok (.aload_n 0, 1) := by decide +kernel
theorem dX9_settles_5 : decode cX9_settles 5 = .ok (.invokevirtual 84, 3) := by decide +kernel
theorem dX9_settles_8 : decode cX9_settles 8 = .ok (.aload_n 0, 1) := by decide +kernel
theorem dX9_settles_9 : decode cX9_settles 9 = .ok (.bipush 6, 2) := by decide +kernel
theorem dX9_settles_11 : decode cX9_settles 11 = .ok (.iconst 0, 1) := by decide +kernel
theorem dX9_settles_12 : decode cX9_settles 12 = .ok (.invokevirtual 31, 3) := by decide +kernel
theorem dX9_settles_15 : decode cX9_settles 15 = .ok (.iload_n 1, 1) := by decide +kernel
theorem dX9_settles_16 : decode cX9_settles 16 = .ok (.ireturn, 1) := by decide +kernel
theorem dX9_expect_0 : decode cX9_expect 0 = .ok (.aload_n 0, 1) := by decide +kernel
theorem dX9_expect_1 : decode cX9_expect 1 = .ok (.iconst 0, 1) := by decide +kernel
theorem dX9_expect_2 : decode cX9_expect 2 = .ok (.bipush 6, 2) := by decide +kernel
theorem dX9_expect_4 : decode cX9_expect 4 = .ok (.invokevirtual 31, 3) := by decide +kernel
theorem dX9_expect_7 : decode cX9_expect 7 = .ok (.aload_n 0, 1) := by decide +kernel
theorem dX9_expect_8 : decode cX9_expect 8 = .ok (.aload_n 0, 1) := by decide +kernel
theorem dX9_expect_9 : decode cX9_expect 9 = .ok (.bipush 6, 2) := by decide +kernel
theorem dX9_expect_11 : decode cX9_expect 11 = .ok (.iload_n 1, 1) := by decide +kernel
theorem dX9_expect_12 : decode cX9_expect 12 = .ok (.iload_n 2, 1) := by decide +kernel
theorem dX9_expect_13 : decode cX9_expect 13 = .ok (.invokevirtual 87, 3) := by decide +kernel
theorem dX9_expect_16 : decode cX9_expect 16 = .ok (.invokevirtual 90, 3) := by decide +kernel
theorem dX9_expect_19 : decode cX9_expect 19 = .ok (.ireturn, 1) := by decide +kernel
theorem dX9_fund_0 : decode cX9_fund 0 = .ok (.iload_n 1, 1) := by decide +kernel
theorem dX9_fund_1 : decode cX9_fund 1 = .ok (.iconst 0, 1) := by decide +kernel
theorem dX9_fund_2 : decode cX9_fund 2 = .ok (.iconst 5, 1) := by decide +kernel
theorem dX9_fund_3 : decode cX9_fund 3 = .ok (.invokestatic 53, 3) := by decide +kernel
theorem dX9_fund_6 : decode cX9_fund 6 = .ok (.ifCond .ne 5, 3) := by decide +kernel
theorem dX9_fund_9 : decode cX9_fund 9 = .ok (.iconst (-1), 1) := by decide +kernel
theorem dX9_fund_10 : decode cX9_fund 10 = .ok (.ireturn, 1) := by decide +kernel
theorem dX9_fund_11 : decode cX9_fund 11 = .ok (.iload_n 2, 1) := by decide +kernel
theorem dX9_fund_12 : decode cX9_fund 12 = .ok (.iconst 1, 1) := by decide +kernel
theorem dX9_fund_13 : decode cX9_fund 13 = .ok (.sipush 999, 3) := by decide +kernel
theorem dX9_fund_16 : decode cX9_fund 16 = .ok (.invokestatic 53, 3) := by decide +kernel
theorem dX9_fund_19 : decode cX9_fund 19 = .ok (.ifCond .ne 6, 3) := by decide +kernel
theorem dX9_fund_22 : decode cX9_fund 22 = .ok (.bipush (-2), 2) := by decide +kernel
theorem dX9_fund_24 : decode cX9_fund 24 = .ok (.ireturn, 1) := by decide +kernel
theorem dX9_fund_25 : decode cX9_fund 25 = .ok (.aload_n 0, 1) := by decide +kernel
theorem dX9_fund_26 : decode cX9_fund 26 = .ok (.getfield 7, 3) := by decide +kernel
theorem dX9_fund_29 : decode cX9_fund 29 = .ok (.iconst 2, 1) := by decide +kernel
theorem dX9_fund_30 : decode cX9_fund 30 = .ok (.iload_n 1, 1) := by decide +kernel
theorem dX9_fund_31 : decode cX9_fund 31 = .ok (.iadd, 1) := by decide +kernel
theorem dX9_fund_32 : decode cX9_fund 32 = .ok (.iaload, 1) := by decide +kernel
theorem dX9_fund_33 : decode cX9_fund 33 = .ok (.sipush 9999, 3) := by decide +kernel
theorem dX9_fund_36 : decode cX9_fund 36 = .ok (.iload_n 2, 1) := by decide +kernel
theorem dX9_fund_37 : decode cX9_fund 37 = .ok (.isub, 1) := by decide +kernel
theorem dX9_fund_38 : decode cX9_fund 38 = .ok (.if_icmp .le 6, 3) := by decide +kernel
theorem dX9_fund_41 : decode cX9_fund 41 = .ok (.bipush (-3), 2) := by decide +kernel
theorem dX9_fund_43 : decode cX9_fund 43 = .ok (.ireturn, 1) := by decide +kernel
theorem dX9_fund_44 : decode cX9_fund 44 = .ok (.aload_n 0, 1) := by decide +kernel
theorem dX9_fund_45 : decode cX9_fund 45 = .ok (.invokevirtual 84, 3) := by decide +kernel
theorem dX9_fund_48 : decode cX9_fund 48 = .ok (.aload_n 0, 1) := by decide +kernel
theorem dX9_fund_49 : decode cX9_fund 49 = .ok (.getfield 7, 3) := by decide +kernel
theorem dX9_fund_52 : decode cX9_fund 52 = .ok (.iconst 2, 1) := by decide +kernel
theorem dX9_fund_53 : decode cX9_fund 53 = .ok (.iload_n 1, 1) := by decide +kernel
theorem dX9_fund_54 : decode cX9_fund 54 = .ok (.iadd, 1) := by decide +kernel
theorem dX9_fund_55 : decode cX9_fund 55 = .ok (.dup2, 1) := by decide +kernel
theorem dX9_fund_56 : decode cX9_fund 56 = .ok (.iaload, 1) := by decide +kernel
theorem dX9_fund_57 : decode cX9_fund 57 = .ok (.iload_n 2, 1) := by decide +kernel
theorem dX9_fund_58 : decode cX9_fund 58 = .ok (.iadd, 1) := by decide +kernel
theorem dX9_fund_59 : decode cX9_fund 59 = .ok (.iastore, 1) := by decide +kernel
theorem dX9_fund_60 : decode cX9_fund 60 = .ok (.aload_n 0, 1) := by decide +kernel
theorem dX9_fund_61 : decode cX9_fund 61 = .ok (.getfield 7, 3) := by decide +kernel
theorem dX9_fund_64 : decode cX9_fund 64 = .ok (.bipush 32, 2) := by decide +kernel
theorem dX9_fund_66 : decode cX9_fund 66 = .ok (.dup2, 1) := by decide +kernel
theorem dX9_fund_67 : decode cX9_fund 67 = .ok (.iaload, 1) := by decide +kernel
theorem dX9_fund_68 : decode cX9_fund 68 = .ok (.iload_n 2, 1) := by decide +kernel
theorem dX9_fund_69 : decode cX9_fund 69 = .ok (.iadd, 1) := by decide +kernel
theorem dX9_fund_70 : decode cX9_fund 70 = .ok (.iastore, 1) := by decide +kernel
theorem dX9_fund_71 : decode cX9_fund 71 = .ok (.aload_n 0, 1) := by decide +kernel
theorem dX9_fund_72 : decode cX9_fund 72 = .ok (.getfield 7, 3) := by decide +kernel
theorem dX9_fund_75 : decode cX9_fund 75 = .ok (.iconst 2, 1) := by decide +kernel
theorem dX9_fund_76 : decode cX9_fund 76 = .ok (.iload_n 1, 1) := by decide +kernel
theorem dX9_fund_77 : decode cX9_fund 77 = .ok (.iadd, 1) := by decide +kernel
theorem dX9_fund_78 : decode cX9_fund 78 = .ok (.iaload, 1) := by decide +kernel
theorem dX9_fund_79 : decode cX9_fund 79 = .ok (.ireturn, 1) := by decide +kernel
theorem dX9_bid_0 : decode cX9_bid 0 = .ok (.aload_n 0, 1) := by decide +kernel
theorem dX9_bid_1 : decode cX9_bid 1 = .ok (.iconst 0, 1) := by decide +kernel
theorem dX9_bid_2 : decode cX9_bid 2 = .ok (.bipush 6, 2) := by decide +kernel
theorem dX9_bid_4 : decode cX9_bid 4 = .ok (.invokevirtual 31, 3) := by decide +kernel
theorem dX9_bid_7 : decode cX9_bid 7 = .ok (.aload_n 0, 1) := by decide +kernel
theorem dX9_bid_8 : decode cX9_bid 8 = .ok (.aload_n 0, 1) := by decide +kernel
theorem dX9_bid_9 : decode cX9_bid 9 = .ok (.bipush 6, 2) := by decide +kernel
theorem dX9_bid_11 : decode cX9_bid 11 = .ok (.iload_n 1, 1) := by decide +kernel
theorem dX9_bid_12 : decode cX9_bid 12 = .ok (.iload_n 2, 1) := by decide +kernel
theorem dX9_bid_13 : decode cX9_bid 13 = .ok (.iload_n 3, 1) := by decide +kernel
theorem dX9_bid_14 : decode cX9_bid 14 = .ok (.iload 4, 2) := by decide +kernel
theorem dX9_bid_16 : decode cX9_bid 16 = .ok (.iload 5, 2) := by decide +kernel
theorem dX9_bid_18 : decode cX9_bid 18 = .ok (.invokevirtual 93, 3) := by decide +kernel
theorem dX9_bid_21 : decode cX9_bid 21 = .ok (.invokevirtual 90, 3) := by decide +kernel
theorem dX9_bid_24 : decode cX9_bid 24 = .ok (.ireturn, 1) := by decide +kernel
theorem dX9_isSlot_0 : decode cX9_isSlot 0 = .ok (.iload_n 0, 1) := by decide +kernel
theorem dX9_isSlot_1 : decode cX9_isSlot 1 = .ok (.iconst 0, 1) := by decide +kernel
theorem dX9_isSlot_2 : decode cX9_isSlot 2 = .ok (.iconst 2, 1) := by decide +kernel
theorem dX9_isSlot_3 : decode cX9_isSlot 3 = .ok (.invokestatic 53, 3) := by decide +kernel
theorem dX9_isSlot_6 : decode cX9_isSlot 6 = .ok (.ifCond .eq 17, 3) := by decide +kernel
theorem dX9_isSlot_9 : decode cX9_isSlot 9 = .ok (.iload_n 1, 1) := by decide +kernel
theorem dX9_isSlot_10 : decode cX9_isSlot 10 = .ok (.iconst 0, 1) := by decide +kernel
theorem dX9_isSlot_11 : decode cX9_isSlot 11 = .ok (.bipush 15, 2) := by decide +kernel
theorem dX9_isSlot_13 : decode cX9_isSlot 13 = .ok (.invokestatic 53, 3) := by decide +kernel
theorem dX9_isSlot_16 : decode cX9_isSlot 16 = .ok (.ifCond .eq 7, 3) := by decide +kernel
theorem dX9_isSlot_19 : decode cX9_isSlot 19 = .ok (.iconst 1, 1) := by decide +kernel
theorem dX9_isSlot_20 : decode cX9_isSlot 20 = .ok (.goto 4, 3) := by decide +kernel
theorem dX9_isSlot_23 : decode cX9_isSlot 23 = .ok (.iconst 0, 1) := by decide +kernel
theorem dX9_isSlot_24 : decode cX9_isSlot 24 = .ok (.ireturn, 1) := by decide +kernel
theorem dX9_withdraw_0 : decode cX9_withdraw 0 = .ok (.iload_n 1, 1) := by decide +kernel
theorem dX9_withdraw_1 : decode cX9_withdraw 1 = .ok (.iconst 0, 1) := by decide +kernel
theorem dX9_withdraw_2 : decode cX9_withdraw 2 = .ok (.iconst 5, 1) := by decide +kernel
theorem dX9_withdraw_3 : decode cX9_withdraw 3 = .ok (.invokestatic 53, 3) := by decide +kernel
theorem dX9_withdraw_6 : decode cX9_withdraw 6 = .ok (.ifCond .eq 11, 3) := by decide +kernel
theorem dX9_withdraw_9 : decode cX9_withdraw 9 = .ok (.iload_n 2, 1) := by decide +kernel
theorem dX9_withdraw_10 : decode cX9_withdraw 10 = .ok (.iload_n 3, 1) := by decide +kernel
theorem dX9_withdraw_11 : decode cX9_withdraw 11 = .ok (.invokestatic 96, 3) := by decide +kernel
theorem dX9_withdraw_14 : decode cX9_withdraw 14 = .ok (.ifCond .ne 5, 3) := by decide +kernel
theorem dX9_withdraw_17 : decode cX9_withdraw 17 = .ok (.iconst (-1), 1) := by decide +kernel
theorem dX9_withdraw_18 : decode cX9_withdraw 18 = .ok (.ireturn, 1) := by decide +kernel
theorem dX9_withdraw_19 : decode cX9_withdraw 19 = .ok (.bipush 6, 2) := by decide +kernel
theorem dX9_withdraw_21 : decode cX9_withdraw 21 = .ok (.iload_n 2, 1) := by decide +kernel
theorem dX9_withdraw_22 : decode cX9_withdraw 22 = .ok (.iload_n 3, 1) := by decide +kernel
theorem dX9_withdraw_23 : decode cX9_withdraw 23 = .ok (.invokestatic 64, 3) := by decide +kernel
theorem dX9_withdraw_26 : decode cX9_withdraw 26 = .ok (.imul, 1) := by decide +kernel
theorem dX9_withdraw_27 : decode cX9_withdraw 27 = .ok (.iload_n 1, 1) := by decide +kernel
theorem dX9_withdraw_28 : decode cX9_withdraw 28 = .ok (.iadd, 1) := by decide +kernel
theorem dX9_withdraw_29 : decode cX9_withdraw 29 = .ok (.istore 4, 2) := by decide +kernel
theorem dX9_withdraw_31 : decode cX9_withdraw 31 = .ok (.aload_n 0, 1) := by decide +kernel
theorem dX9_withdraw_32 : decode cX9_withdraw 32 = .ok (.getfield 7, 3) := by decide +kernel
theorem dX9_withdraw_35 : decode cX9_withdraw 35 = .ok (.sipush 531, 3) := by decide +kernel
theorem dX9_withdraw_38 : decode cX9_withdraw 38 = .ok (.iload 4, 2) := by decide +kernel
theorem dX9_withdraw_40 : decode cX9_withdraw 40 = .ok (.iadd, 1) := by decide +kernel
theorem dX9_withdraw_41 : decode cX9_withdraw 41 = .ok (.iaload, 1) := by decide +kernel
theorem dX9_withdraw_42 : decode cX9_withdraw 42 = .ok (.istore 5, 2) := by decide +kernel
theorem dX9_withdraw_44 : decode cX9_withdraw 44 = .ok (.iload 5, 2) := by decide +kernel
theorem dX9_withdraw_46 : decode cX9_withdraw 46 = .ok (.ifCond .ne 5, 3) := by decide +kernel
theorem dX9_withdraw_49 : decode cX9_withdraw 49 = .ok (.iconst (-1), 1) := by decide +kernel
theorem dX9_withdraw_50 : decode cX9_withdraw 50 = .ok (.ireturn, 1) := by decide +kernel
theorem dX9_withdraw_51 : decode cX9_withdraw 51 = .ok (.aload_n 0, 1) := by decide +kernel
theorem dX9_withdraw_52 : decode cX9_withdraw 52 = .ok (.invokevirtual 84, 3) := by decide +kernel
theorem dX9_withdraw_55 : decode cX9_withdraw 55 = .ok (.aload_n 0, 1) := by decide +kernel
theorem dX9_withdraw_56 : decode cX9_withdraw 56 = .ok (.getfield 7, 3) := by decide +kernel
theorem dX9_withdraw_59 : decode cX9_withdraw 59 = .ok (.sipush 243, 3) := by decide +kernel
theorem dX9_withdraw_62 : decode cX9_withdraw 62 = .ok (.iload 4, 2) := by decide +kernel
theorem dX9_withdraw_64 : decode cX9_withdraw 64 = .ok (.iadd, 1) := by decide +kernel
theorem dX9_withdraw_65 : decode cX9_withdraw 65 = .ok (.iconst 0, 1) := by decide +kernel
theorem dX9_withdraw_66 : decode cX9_withdraw 66 = .ok (.iastore, 1) := by decide +kernel
theorem dX9_withdraw_67 : decode cX9_withdraw 67 = .ok (.aload_n 0, 1) := by decide +kernel
theorem dX9_withdraw_68 : decode cX9_withdraw 68 = .ok (.getfield 7, 3) := by decide +kernel
theorem dX9_withdraw_71 : decode cX9_withdraw 71 = .ok (.sipush 531, 3) := by decide +kernel
theorem dX9_withdraw_74 : decode cX9_withdraw 74 = .ok (.iload 4, 2) := by decide +kernel
theorem dX9_withdraw_76 : decode cX9_withdraw 76 = .ok (.iadd, 1) := by decide +kernel
theorem dX9_withdraw_77 : decode cX9_withdraw 77 = .ok (.iconst 0, 1) := by decide +kernel
theorem dX9_withdraw_78 : decode cX9_withdraw 78 = .ok (.iastore, 1) := by decide +kernel
theorem dX9_withdraw_79 : decode cX9_withdraw 79 = .ok (.iload 5, 2) := by decide +kernel
theorem dX9_withdraw_81 : decode cX9_withdraw 81 = .ok (.ireturn, 1) := by decide +kernel
theorem dX9_award_0 : decode cX9_award 0 = .ok (.iload_n 1, 1) := by decide +kernel
theorem dX9_award_1 : decode cX9_award 1 = .ok (.iload_n 2, 1) := by decide +kernel
theorem dX9_award_2 : decode cX9_award 2 = .ok (.invokestatic 96, 3) := by decide +kernel
theorem dX9_award_5 : decode cX9_award 5 = .ok (.ifCond .ne 5, 3) := by decide +kernel
theorem dX9_award_8 : decode cX9_award 8 = .ok (.iconst (-1), 1) := by decide +kernel
theorem dX9_award_9 : decode cX9_award 9 = .ok (.ireturn, 1) := by decide +kernel
theorem dX9_award_10 : decode cX9_award 10 = .ok (.iload_n 1, 1) := by decide +kernel
theorem dX9_award_11 : decode cX9_award 11 = .ok (.iload_n 2, 1) := by decide +kernel
theorem dX9_award_12 : decode cX9_award 12 = .ok (.invokestatic 64, 3) := by decide +kernel
theorem dX9_award_15 : decode cX9_award 15 = .ok (.istore_n 3, 1) := by decide +kernel
theorem dX9_award_16 : decode cX9_award 16 = .ok (.aload_n 0, 1) := by decide +kernel
theorem dX9_award_17 : decode cX9_award 17 = .ok (.iconst 0, 1) := by decide +kernel
theorem dX9_award_18 : decode cX9_award 18 = .ok (.iload_n 2, 1) := by decide +kernel
theorem dX9_award_19 : decode cX9_award 19 = .ok (.invokevirtual 57, 3) := by decide +kernel
theorem dX9_award_22 : decode cX9_award 22 = .ok (.ifCond .ne 15, 3) := by decide +kernel
theorem dX9_award_25 : decode cX9_award 25 = .ok (.aload_n 0, 1) := by decide +kernel
theorem dX9_award_26 : decode cX9_award 26 = .ok (.getfield 7, 3) := by decide +kernel
theorem dX9_award_29 : decode cX9_award 29 = .ok (.bipush 51, 2) := by decide +kernel
theorem dX9_award_31 : decode cX9_award 31 = .ok (.iload_n 3, 1) := by decide +kernel
theorem dX9_award_32 : decode cX9_award 32 = .ok (.iadd, 1) := by decide +kernel
theorem dX9_award_33 : decode cX9_award 33 = .ok (.iaload, 1) := by decide +kernel
theorem dX9_award_34 : decode cX9_award 34 = .ok (.ifCond .lt 6, 3) := by decide +kernel
theorem dX9_award_37 : decode cX9_award 37 = .ok (.bipush (-4), 2) := by decide +kernel
theorem dX9_award_39 : decode cX9_award 39 = .ok (.ireturn, 1) := by decide +kernel
theorem dX9_award_40 : decode cX9_award 40 = .ok (.aload_n 0, 1) := by decide +kernel
theorem dX9_award_41 : decode cX9_award 41 = .ok (.iconst 0, 1) := by decide +kernel
theorem dX9_award_42 : decode cX9_award 42 = .ok (.iload_n 3, 1) := by decide +kernel
theorem dX9_award_43 : decode cX9_award 43 = .ok (.iconst (-1), 1) := by decide +kernel
theorem dX9_award_44 : decode cX9_award 44 = .ok (.invokevirtual 50, 3) := by decide +kernel
theorem dX9_award_47 : decode cX9_award 47 = .ok (.ifCond .ge 6, 3) := by decide +kernel
theorem dX9_award_50 : decode cX9_award 50 = .ok (.bipush (-5), 2) := by decide +kernel
theorem dX9_award_52 : decode cX9_award 52 = .ok (.ireturn, 1) := by decide +kernel
theorem dX9_award_53 : decode cX9_award 53 = .ok (.aload_n 0, 1) := by decide +kernel
theorem dX9_award_54 : decode cX9_award 54 = .ok (.invokevirtual 84, 3) := by decide +kernel
theorem dX9_award_57 : decode cX9_award 57 = .ok (.aload_n 0, 1) := by decide +kernel
theorem dX9_award_58 : decode cX9_award 58 = .ok (.iconst 0, 1) := by decide +kernel
theorem dX9_award_59 : decode cX9_award 59 = .ok (.iload_n 3, 1) := by decide +kernel
theorem dX9_award_60 : decode cX9_award 60 = .ok (.invokevirtual 77, 3) := by decide +kernel
theorem dX9_award_63 : decode cX9_award 63 = .ok (.ireturn, 1) := by decide +kernel
theorem dX9_trade_0 : decode cX9_trade 0 = .ok (.iload_n 1, 1) := by decide +kernel
theorem dX9_trade_1 : decode cX9_trade 1 = .ok (.iload_n 2, 1) := by decide +kernel
theorem dX9_trade_2 : decode cX9_trade 2 = .ok (.invokestatic 96, 3) := by decide +kernel
theorem dX9_trade_5 : decode cX9_trade 5 = .ok (.ifCond .eq 28, 3) := by decide +kernel
theorem dX9_trade_8 : decode cX9_trade 8 = .ok (.iload_n 3, 1) := by decide +kernel
theorem dX9_trade_9 : decode cX9_trade 9 = .ok (.iconst 0, 1) := by decide +kernel
theorem dX9_trade_10 : decode cX9_trade 10 = .ok (.iconst 5, 1) := by decide +kernel
theorem dX9_trade_11 : decode cX9_trade 11 = .ok (.invokestatic 53, 3) := by decide +kernel
theorem dX9_trade_14 : decode cX9_trade 14 = .ok (.ifCond .eq 19, 3) := by decide +kernel
theorem dX9_trade_17 : decode cX9_trade 17 = .ok (.aload_n 0, 1) := by decide +kernel
theorem dX9_trade_18 : decode cX9_trade 18 = .ok (.getfield 7, 3) := by decide +kernel
theorem dX9_trade_21 : decode cX9_trade 21 = .ok (.bipush 51, 2) := by decide +kernel
theorem dX9_trade_23 : decode cX9_trade 23 = .ok (.iload_n 1, 1) := by decide +kernel
theorem dX9_trade_24 : decode cX9_trade 24 = .ok (.iload_n 2, 1) := by decide +kernel
theorem dX9_trade_25 : decode cX9_trade 25 = .ok (.invokestatic 64, 3) := by decide +kernel
theorem dX9_trade_28 : decode cX9_trade 28 = .ok (.iadd, 1) := by decide +kernel
theorem dX9_trade_29 : decode cX9_trade 29 = .ok (.iaload, 1) := by decide +kernel
theorem dX9_trade_30 : decode cX9_trade 30 = .ok (.ifCond .ge 5, 3) := by decide +kernel
theorem dX9_trade_33 : decode cX9_trade 33 = .ok (.iconst (-1), 1) := by decide +kernel
theorem dX9_trade_34 : decode cX9_trade 34 = .ok (.ireturn, 1) := by decide +kernel
theorem dX9_trade_35 : decode cX9_trade 35 = .ok (.iload 4, 2) := by decide +kernel
theorem dX9_trade_37 : decode cX9_trade 37 = .ok (.iconst 1, 1) := by decide +kernel
theorem dX9_trade_38 : decode cX9_trade 38 = .ok (.iload_n 1, 1) := by decide +kernel
theorem dX9_trade_39 : decode cX9_trade 39 = .ok (.invokestatic 60, 3) := by decide +kernel
theorem dX9_trade_42 : decode cX9_trade 42 = .ok (.invokestatic 53, 3) := by decide +kernel
theorem dX9_trade_45 : decode cX9_trade 45 = .ok (.ifCond .eq 15, 3) := by decide +kernel
theorem dX9_trade_48 : decode cX9_trade 48 = .ok (.iload 5, 2) := by decide +kernel
theorem dX9_trade_50 : decode cX9_trade 50 = .ok (.iconst 0, 1) := by decide +kernel
theorem dX9_trade_51 : decode cX9_trade 51 = .ok (.sipush 999, 3) := by decide +kernel
theorem dX9_trade_54 : decode cX9_trade 54 = .ok (.invokestatic 53, 3) := by decide +kernel
theorem dX9_trade_57 : decode cX9_trade 57 = .ok (.ifCond .ne 6, 3) := by decide +kernel
theorem dX9_trade_60 : decode cX9_trade 60 = .ok (.bipush (-2), 2) := by decide +kernel
theorem dX9_trade_62 : decode cX9_trade 62 = .ok (.ireturn, 1) := by decide +kernel
theorem dX9_trade_63 : decode cX9_trade 63 = .ok (.iload_n 1, 1) := by decide +kernel
theorem dX9_trade_64 : decode cX9_trade 64 = .ok (.iload_n 2, 1) := by decide +kernel
theorem dX9_trade_65 : decode cX9_trade 65 = .ok (.invokestatic 64, 3) := by decide +kernel
theorem dX9_trade_68 : decode cX9_trade 68 = .ok (.istore 6, 2) := by decide +kernel
theorem dX9_trade_70 : decode cX9_trade 70 = .ok (.aload_n 0, 1) := by decide +kernel
theorem dX9_trade_71 : decode cX9_trade 71 = .ok (.getfield 7, 3) := by decide +kernel
theorem dX9_trade_74 : decode cX9_trade 74 = .ok (.bipush 51, 2) := by decide +kernel
theorem dX9_trade_76 : decode cX9_trade 76 = .ok (.iload 6, 2) := by decide +kernel
theorem dX9_trade_78 : decode cX9_trade 78 = .ok (.iadd, 1) := by decide +kernel
theorem dX9_trade_79 : decode cX9_trade 79 = .ok (.iaload, 1) := by decide +kernel
theorem dX9_trade_80 : decode cX9_trade 80 = .ok (.istore 7, 2) := by decide +kernel
theorem dX9_trade_82 : decode cX9_trade 82 = .ok (.aload_n 0, 1) := by decide +kernel
theorem dX9_trade_83 : decode cX9_trade 83 = .ok (.iconst 0, 1) := by decide +kernel
theorem dX9_trade_84 : decode cX9_trade 84 = .ok (.iload_n 2, 1) := by decide +kernel
theorem dX9_trade_85 : decode cX9_trade 85 = .ok (.invokevirtual 57, 3) := by decide +kernel
theorem dX9_trade_88 : decode cX9_trade 88 = .ok (.ifCond .ne 9, 3) := by decide +kernel
theorem dX9_trade_91 : decode cX9_trade 91 = .ok (.iload 7, 2) := by decide +kernel
theorem dX9_trade_93 : decode cX9_trade 93 = .ok (.iload_n 3, 1) := by decide +kernel
theorem dX9_trade_94 : decode cX9_trade 94 = .ok (.if_icmp .ne 6, 3) := by decide +kernel
theorem dX9_trade_97 : decode cX9_trade 97 = .ok (.bipush (-4), 2) := by decide +kernel
theorem dX9_trade_99 : decode cX9_trade 99 = .ok (.ireturn, 1) := by decide +kernel
theorem dX9_trade_100 : decode cX9_trade 100 = .ok (.aload_n 0, 1) := by decide +kernel
theorem dX9_trade_101 : decode cX9_trade 101 = .ok (.getfield 7, 3) := by decide +kernel
theorem dX9_trade_104 : decode cX9_trade 104 = .ok (.iconst 2, 1) := by decide +kernel
theorem dX9_trade_105 : decode cX9_trade 105 = .ok (.iload_n 3, 1) := by decide +kernel
theorem dX9_trade_106 : decode cX9_trade 106 = .ok (.iadd, 1) := by decide +kernel
theorem dX9_trade_107 : decode cX9_trade 107 = .ok (.iaload, 1) := by decide +kernel
theorem dX9_trade_108 : decode cX9_trade 108 = .ok (.aload_n 0, 1) := by decide +kernel
theorem dX9_trade_109 : decode cX9_trade 109 = .ok (.iconst 0, 1) := by decide +kernel
theorem dX9_trade_110 : decode cX9_trade 110 = .ok (.iload_n 3, 1) := by decide +kernel
theorem dX9_trade_111 : decode cX9_trade 111 = .ok (.invokevirtual 67, 3) := by decide +kernel
theorem dX9_trade_114 : decode cX9_trade 114 = .ok (.isub, 1) := by decide +kernel
theorem dX9_trade_115 : decode cX9_trade 115 = .ok (.iload 5, 2) := by decide +kernel
theorem dX9_trade_117 : decode cX9_trade 117 = .ok (.if_icmp .ge 6, 3) := by decide +kernel
theorem dX9_trade_120 : decode cX9_trade 120 = .ok (.bipush (-6), 2) := by decide +kernel
theorem dX9_trade_122 : decode cX9_trade 122 = .ok (.ireturn, 1) := by decide +kernel
theorem dX9_trade_123 : decode cX9_trade 123 = .ok (.aload_n 0, 1) := by decide +kernel
theorem dX9_trade_124 : decode cX9_trade 124 = .ok (.invokevirtual 84, 3) := by decide +kernel
theorem dX9_trade_127 : decode cX9_trade 127 = .ok (.aload_n 0, 1) := by decide +kernel
theorem dX9_trade_128 : decode cX9_trade 128 = .ok (.getfield 7, 3) := by decide +kernel
theorem dX9_trade_131 : decode cX9_trade 131 = .ok (.iconst 2, 1) := by decide +kernel
theorem dX9_trade_132 : decode cX9_trade 132 = .ok (.iload_n 3, 1) := by decide +kernel
theorem dX9_trade_133 : decode cX9_trade 133 = .ok (.iadd, 1) := by decide +kernel
theorem dX9_trade_134 : decode cX9_trade 134 = .ok (.dup2, 1) := by decide +kernel
theorem dX9_trade_135 : decode cX9_trade 135 = .ok (.iaload, 1) := by decide +kernel
theorem dX9_trade_136 : decode cX9_trade 136 = .ok (.iload 5, 2) := by decide +kernel
theorem dX9_trade_138 : decode cX9_trade 138 = .ok (.isub, 1) := by decide +kernel
theorem dX9_trade_139 : decode cX9_trade 139 = .ok (.iastore, 1) := by decide +kernel
theorem dX9_trade_140 : decode cX9_trade 140 = .ok (.aload_n 0, 1) := by decide +kernel
theorem dX9_trade_141 : decode cX9_trade 141 = .ok (.getfield 7, 3) := by decide +kernel
theorem dX9_trade_144 : decode cX9_trade 144 = .ok (.bipush 20, 2) := by decide +kernel
theorem dX9_trade_146 : decode cX9_trade 146 = .ok (.iload_n 3, 1) := by decide +kernel
theorem dX9_trade_147 : decode cX9_trade 147 = .ok (.iadd, 1) := by decide +kernel
theorem dX9_trade_148 : decode cX9_trade 148 = .ok (.dup2, 1) := by decide +kernel
theorem dX9_trade_149 : decode cX9_trade 149 = .ok (.iaload, 1) := by decide +kernel
theorem dX9_trade_150 : decode cX9_trade 150 = .ok (.iload 5, 2) := by decide +kernel
theorem dX9_trade_152 : decode cX9_trade 152 = .ok (.isub, 1) := by decide +kernel
theorem dX9_trade_153 : decode cX9_trade 153 = .ok (.iastore, 1) := by decide +kernel
theorem dX9_trade_154 : decode cX9_trade 154 = .ok (.aload_n 0, 1) := by decide +kernel
theorem dX9_trade_155 : decode cX9_trade 155 = .ok (.getfield 7, 3) := by decide +kernel
theorem dX9_trade_158 : decode cX9_trade 158 = .ok (.iconst 2, 1) := by decide +kernel
theorem dX9_trade_159 : decode cX9_trade 159 = .ok (.iload 7, 2) := by decide +kernel
theorem dX9_trade_161 : decode cX9_trade 161 = .ok (.iadd, 1) := by decide +kernel
theorem dX9_trade_162 : decode cX9_trade 162 = .ok (.dup2, 1) := by decide +kernel
theorem dX9_trade_163 : decode cX9_trade 163 = .ok (.iaload, 1) := by decide +kernel
theorem dX9_trade_164 : decode cX9_trade 164 = .ok (.iload 5, 2) := by decide +kernel
theorem dX9_trade_166 : decode cX9_trade 166 = .ok (.iadd, 1) := by decide +kernel
theorem dX9_trade_167 : decode cX9_trade 167 = .ok (.iastore, 1) := by decide +kernel
theorem dX9_trade_168 : decode cX9_trade 168 = .ok (.aload_n 0, 1) := by decide +kernel
theorem dX9_trade_169 : decode cX9_trade 169 = .ok (.getfield 7, 3) := by decide +kernel
theorem dX9_trade_172 : decode cX9_trade 172 = .ok (.bipush 20, 2) := by decide +kernel
theorem dX9_trade_174 : decode cX9_trade 174 = .ok (.iload 7, 2) := by decide +kernel
theorem dX9_trade_176 : decode cX9_trade 176 = .ok (.iadd, 1) := by decide +kernel
theorem dX9_trade_177 : decode cX9_trade 177 = .ok (.dup2, 1) := by decide +kernel
theorem dX9_trade_178 : decode cX9_trade 178 = .ok (.iaload, 1) := by decide +kernel
theorem dX9_trade_179 : decode cX9_trade 179 = .ok (.iload 5, 2) := by decide +kernel
theorem dX9_trade_181 : decode cX9_trade 181 = .ok (.iadd, 1) := by decide +kernel
theorem dX9_trade_182 : decode cX9_trade 182 = .ok (.iastore, 1) := by decide +kernel
theorem dX9_trade_183 : decode cX9_trade 183 = .ok (.aload_n 0, 1) := by decide +kernel
theorem dX9_trade_184 : decode cX9_trade 184 = .ok (.getfield 7, 3) := by decide +kernel
theorem dX9_trade_187 : decode cX9_trade 187 = .ok (.bipush 51, 2) := by decide +kernel
theorem dX9_trade_189 : decode cX9_trade 189 = .ok (.iload 6, 2) := by decide +kernel
theorem dX9_trade_191 : decode cX9_trade 191 = .ok (.iadd, 1) := by decide +kernel
theorem dX9_trade_192 : decode cX9_trade 192 = .ok (.iload_n 3, 1) := by decide +kernel
theorem dX9_trade_193 : decode cX9_trade 193 = .ok (.iastore, 1) := by decide +kernel
theorem dX9_trade_194 : decode cX9_trade 194 = .ok (.aload_n 0, 1) := by decide +kernel
theorem dX9_trade_195 : decode cX9_trade 195 = .ok (.getfield 7, 3) := by decide +kernel
theorem dX9_trade_198 : decode cX9_trade 198 = .ok (.bipush 99, 2) := by decide +kernel
theorem dX9_trade_200 : decode cX9_trade 200 = .ok (.iload 6, 2) := by decide +kernel
theorem dX9_trade_202 : decode cX9_trade 202 = .ok (.iadd, 1) := by decide +kernel
theorem dX9_trade_203 : decode cX9_trade 203 = .ok (.iload 4, 2) := by decide +kernel
theorem dX9_trade_205 : decode cX9_trade 205 = .ok (.iastore, 1) := by decide +kernel
theorem dX9_trade_206 : decode cX9_trade 206 = .ok (.aload_n 0, 1) := by decide +kernel
theorem dX9_trade_207 : decode cX9_trade 207 = .ok (.getfield 7, 3) := by decide +kernel
theorem dX9_trade_210 : decode cX9_trade 210 = .ok (.bipush 33, 2) := by decide +kernel
theorem dX9_trade_212 : decode cX9_trade 212 = .ok (.dup2, 1) := by decide +kernel
theorem dX9_trade_213 : decode cX9_trade 213 = .ok (.iaload, 1) := by decide +kernel
theorem dX9_trade_214 : decode cX9_trade 214 = .ok (.iconst 1, 1) := by decide +kernel
theorem dX9_trade_215 : decode cX9_trade 215 = .ok (.iadd, 1) := by decide +kernel
theorem dX9_trade_216 : decode cX9_trade 216 = .ok (.iastore, 1) := by decide +kernel
theorem dX9_trade_217 : decode cX9_trade 217 = .ok (.aload_n 0, 1) := by decide +kernel
theorem dX9_trade_218 : decode cX9_trade 218 = .ok (.getfield 7, 3) := by decide +kernel
theorem dX9_trade_221 : decode cX9_trade 221 = .ok (.iconst 2, 1) := by decide +kernel
theorem dX9_trade_222 : decode cX9_trade 222 = .ok (.iload 7, 2) := by decide +kernel
theorem dX9_trade_224 : decode cX9_trade 224 = .ok (.iadd, 1) := by decide +kernel
theorem dX9_trade_225 : decode cX9_trade 225 = .ok (.iaload, 1) := by decide +kernel
theorem dX9_trade_226 : decode cX9_trade 226 = .ok (.ireturn, 1) := by decide +kernel
theorem dX9_done_0 : decode cX9_done 0 = .ok (.aload_n 0, 1) := by decide +kernel
theorem dX9_done_1 : decode cX9_done 1 = .ok (.iconst 0, 1) := by decide +kernel
theorem dX9_done_2 : decode cX9_done 2 = .ok (.bipush 6, 2) := by decide +kernel
theorem dX9_done_4 : decode cX9_done 4 = .ok (.invokevirtual 31, 3) := by decide +kernel
theorem dX9_done_7 : decode cX9_done 7 = .ok (.aload_n 0, 1) := by decide +kernel
theorem dX9_done_8 : decode cX9_done 8 = .ok (.aload_n 0, 1) := by decide +kernel
theorem dX9_done_9 : decode cX9_done 9 = .ok (.bipush 6, 2) := by decide +kernel
theorem dX9_done_11 : decode cX9_done 11 = .ok (.iload_n 1, 1) := by decide +kernel
theorem dX9_done_12 : decode cX9_done 12 = .ok (.invokevirtual 99, 3) := by decide +kernel
theorem dX9_done_15 : decode cX9_done 15 = .ok (.invokevirtual 90, 3) := by decide +kernel
theorem dX9_done_18 : decode cX9_done 18 = .ok (.ireturn, 1) := by decide +kernel
theorem dX9_nextDay_0 : decode cX9_nextDay 0 = .ok (.aload_n 0, 1) := by decide +kernel
theorem dX9_nextDay_1 : decode cX9_nextDay 1 = .ok (.iconst 0, 1) := by decide +kernel
theorem dX9_nextDay_2 : decode cX9_nextDay 2 = .ok (.bipush 6, 2) := by decide +kernel
theorem dX9_nextDay_4 : decode cX9_nextDay 4 = .ok (.invokevirtual 31, 3) := by decide +kernel
theorem dX9_nextDay_7 : decode cX9_nextDay 7 = .ok (.aload_n 0, 1) := by decide +kernel
theorem dX9_nextDay_8 : decode cX9_nextDay 8 = .ok (.aload_n 0, 1) := by decide +kernel
theorem dX9_nextDay_9 : decode cX9_nextDay 9 = .ok (.bipush 6, 2) := by decide +kernel
theorem dX9_nextDay_11 : decode cX9_nextDay 11 = .ok (.invokevirtual 102, 3) := by decide +kernel
theorem dX9_nextDay_14 : decode cX9_nextDay 14 = .ok (.invokevirtual 90, 3) := by decide +kernel
theorem dX9_nextDay_17 : decode cX9_nextDay 17 = .ok (.ireturn, 1) := by decide +kernel
theorem dX9_isNext_0 : decode cX9_isNext 0 = .ok (.aload_n 0, 1) := by decide +kernel
theorem dX9_isNext_1 : decode cX9_isNext 1 = .ok (.getfield 105, 3) := by decide +kernel
theorem dX9_isNext_4 : decode cX9_isNext 4 = .ok (.ifCond .eq 35, 3) := by decide +kernel
theorem dX9_isNext_7 : decode cX9_isNext 7 = .ok (.aload_n 0, 1) := by decide +kernel
theorem dX9_isNext_8 : decode cX9_isNext 8 = .ok (.getfield 109, 3) := by decide +kernel
theorem dX9_isNext_11 : decode cX9_isNext 11 = .ok (.aload_n 0, 1) := by decide +kernel
theorem dX9_isNext_12 : decode cX9_isNext 12 = .ok (.getfield 112, 3) := by decide +kernel
theorem dX9_isNext_15 : decode cX9_isNext 15 = .ok (.if_icmp .ge 24, 3) := by decide +kernel
theorem dX9_isNext_18 : decode cX9_isNext 18 = .ok (.aload_n 0, 1) := by decide +kernel
theorem dX9_isNext_19 : decode cX9_isNext 19 = .ok (.getfield 13, 3) := by decide +kernel
theorem dX9_isNext_22 : decode cX9_isNext 22 = .ok (.aload_n 0, 1) := by decide +kernel
theorem dX9_isNext_23 : decode cX9_isNext 23 = .ok (.getfield 109, 3) := by decide +kernel
theorem dX9_isNext_26 : decode cX9_isNext 26 = .ok (.caload, 1) := by decide +kernel
theorem dX9_isNext_27 : decode cX9_isNext 27 = .ok (.iload_n 1, 1) := by decide +kernel
theorem dX9_isNext_28 : decode cX9_isNext 28 = .ok (.iload_n 2, 1) := by decide +kernel
theorem dX9_isNext_29 : decode cX9_isNext 29 = .ok (.invokestatic 53, 3) := by decide +kernel
theorem dX9_isNext_32 : decode cX9_isNext 32 = .ok (.ifCond .eq 7, 3) := by decide +kernel
theorem dX9_isNext_35 : decode cX9_isNext 35 = .ok (.iconst 1, 1) := by decide +kernel
theorem dX9_isNext_36 : decode cX9_isNext 36 = .ok (.goto 4, 3) := by decide +kernel
theorem dX9_isNext_39 : decode cX9_isNext 39 = .ok (.iconst 0, 1) := by decide +kernel
theorem dX9_isNext_40 : decode cX9_isNext 40 = .ok (.ireturn, 1) := by decide +kernel
theorem dX9_takes_0 : decode cX9_takes 0 = .ok (.aload_n 0, 1) := by decide +kernel
theorem dX9_takes_1 : decode cX9_takes 1 = .ok (.aload_n 0, 1) := by decide +kernel
theorem dX9_takes_2 : decode cX9_takes 2 = .ok (.iload_n 1, 1) := by decide +kernel
theorem dX9_takes_3 : decode cX9_takes 3 = .ok (.iload_n 1, 1) := by decide +kernel
theorem dX9_takes_4 : decode cX9_takes 4 = .ok (.invokevirtual 115, 3) := by decide +kernel
theorem dX9_takes_7 : decode cX9_takes 7 = .ok (.putfield 105, 3) := by decide +kernel
theorem dX9_takes_10 : decode cX9_takes 10 = .ok (.aload_n 0, 1) := by decide +kernel
theorem dX9_takes_11 : decode cX9_takes 11 = .ok (.dup, 1) := by decide +kernel
theorem dX9_takes_12 : decode cX9_takes 12 = .ok (.getfield 109, 3) := by decide +kernel
theorem dX9_takes_15 : decode cX9_takes 15 = .ok (.aload_n 0, 1) := by decide +kernel
theorem dX9_takes_16 : decode cX9_takes 16 = .ok (.getfield 105, 3) := by decide +kernel
theorem dX9_takes_19 : decode cX9_takes 19 = .ok (.ifCond .eq 7, 3) := by decide +kernel
theorem dX9_takes_22 : decode cX9_takes 22 = .ok (.iconst 1, 1) := by decide +kernel
theorem dX9_takes_23 : decode cX9_takes 23 = .ok (.goto 4, 3) := by decide +kernel
theorem dX9_takes_26 : decode cX9_takes 26 = .ok (.iconst 0, 1) := by decide +kernel
theorem dX9_takes_27 : decode cX9_takes 27 = .ok (.iadd, 1) := by decide +kernel
theorem dX9_takes_28 : decode cX9_takes 28 = .ok (.putfield 109, 3) := by decide +kernel
theorem dX9_takes_31 : decode cX9_takes 31 = .ok (.return_, 1) := by decide +kernel
theorem dX9_number_0 : decode cX9_number 0 = .ok (.aload_n 0, 1) := by decide +kernel
theorem dX9_number_1 : decode cX9_number 1 = .ok (.aload_n 0, 1) := by decide +kernel
theorem dX9_number_2 : decode cX9_number 2 = .ok (.iload_n 1, 1) := by decide +kernel
theorem dX9_number_3 : decode cX9_number 3 = .ok (.ifCond .le 8, 3) := by decide +kernel
theorem dX9_number_6 : decode cX9_number 6 = .ok (.bipush 49, 2) := by decide +kernel
theorem dX9_number_8 : decode cX9_number 8 = .ok (.goto 5, 3) := by decide +kernel
theorem dX9_number_11 : decode cX9_number 11 = .ok (.bipush 48, 2) := by decide +kernel
theorem dX9_number_13 : decode cX9_number 13 = .ok (.iload_n 2, 1) := by decide +kernel
theorem dX9_number_14 : decode cX9_number 14 = .ok (.bipush 9, 2) := by decide +kernel
theorem dX9_number_16 : decode cX9_number 16 = .ok (.if_icmp .ge 10, 3) := by decide +kernel
theorem dX9_number_19 : decode cX9_number 19 = .ok (.bipush 48, 2) := by decide +kernel
theorem dX9_number_21 : decode cX9_number 21 = .ok (.iload_n 2, 1) := by decide +kernel
theorem dX9_number_22 : decode cX9_number 22 = .ok (.iadd, 1) := by decide +kernel
theorem dX9_number_23 : decode cX9_number 23 = .ok (.goto 5, 3) := by decide +kernel
theorem dX9_number_26 : decode cX9_number 26 = .ok (.bipush 57, 2) := by decide +kernel
theorem dX9_number_28 : decode cX9_number 28 = .ok (.invokevirtual 115, 3) := by decide +kernel
theorem dX9_number_31 : decode cX9_number 31 = .ok (.putfield 105, 3) := by decide +kernel
theorem dX9_number_34 : decode cX9_number 34 = .ok (.aload_n 0, 1) := by decide +kernel
theorem dX9_number_35 : decode cX9_number 35 = .ok (.getfield 105, 3) := by decide +kernel
theorem dX9_number_38 : decode cX9_number 38 = .ok (.ifCond .eq 18, 3) := by decide +kernel
theorem dX9_number_41 : decode cX9_number 41 = .ok (.aload_n 0, 1) := by decide +kernel
theorem dX9_number_42 : decode cX9_number 42 = .ok (.getfield 13, 3) := by decide +kernel
theorem dX9_number_45 : decode cX9_number 45 = .ok (.aload_n 0, 1) := by decide +kernel
theorem dX9_number_46 : decode cX9_number 46 = .ok (.getfield 109, 3) := by decide +kernel
theorem dX9_number_49 : decode cX9_number 49 = .ok (.caload, 1) := by decide +kernel
theorem dX9_number_50 : decode cX9_number 50 = .ok (.bipush 48, 2) := by decide +kernel
theorem dX9_number_52 : decode cX9_number 52 = .ok (.isub, 1) := by decide +kernel
theorem dX9_number_53 : decode cX9_number 53 = .ok (.goto 4, 3) := by decide +kernel
theorem dX9_number_56 : decode cX9_number 56 = .ok (.iconst 0, 1) := by decide +kernel
theorem dX9_number_57 : decode cX9_number 57 = .ok (.istore_n 3, 1) := by decide +kernel
theorem dX9_number_58 : decode cX9_number 58 = .ok (.aload_n 0, 1) := by decide +kernel
theorem dX9_number_59 : decode cX9_number 59 = .ok (.dup, 1) := by decide +kernel
theorem dX9_number_60 : decode cX9_number 60 = .ok (.getfield 109, 3) := by decide +kernel
theorem dX9_number_63 : decode cX9_number 63 = .ok (.aload_n 0, 1) := by decide +kernel
theorem dX9_number_64 : decode cX9_number 64 = .ok (.getfield 105, 3) := by decide +kernel
theorem dX9_number_67 : decode cX9_number 67 = .ok (.ifCond .eq 7, 3) := by decide +kernel
theorem dX9_number_70 : decode cX9_number 70 = .ok (.iconst 1, 1) := by decide +kernel
theorem dX9_number_71 : decode cX9_number 71 = .ok (.goto 4, 3) := by decide +kernel
theorem dX9_number_74 : decode cX9_number 74 = .ok (.iconst 0, 1) := by decide +kernel
theorem dX9_number_75 : decode cX9_number 75 = .ok (.iadd, 1) := by decide +kernel
theorem dX9_number_76 : decode cX9_number 76 = .ok (.putfield 109, 3) := by decide +kernel
theorem dX9_number_79 : decode cX9_number 79 = .ok (.iload_n 3, 1) := by decide +kernel
theorem dX9_number_80 : decode cX9_number 80 = .ok (.ifCond .le 66, 3) := by decide +kernel
theorem dX9_number_83 : decode cX9_number 83 = .ok (.aload_n 0, 1) := by decide +kernel
theorem dX9_number_84 : decode cX9_number 84 = .ok (.bipush 48, 2) := by decide +kernel
theorem dX9_number_86 : decode cX9_number 86 = .ok (.bipush 57, 2) := by decide +kernel
theorem dX9_number_88 : decode cX9_number 88 = .ok (.invokevirtual 115, 3) := by decide +kernel
theorem dX9_number_91 : decode cX9_number 91 = .ok (.ifCond .eq 55, 3) := by decide +kernel
theorem dX9_number_94 : decode cX9_number 94 = .ok (.bipush 10, 2) := by decide +kernel
theorem dX9_number_96 : decode cX9_number 96 = .ok (.iload_n 3, 1) := by decide +kernel
theorem dX9_number_97 : decode cX9_number 97 = .ok (.imul, 1) := by decide +kernel
theorem dX9_number_98 : decode cX9_number 98 = .ok (.aload_n 0, 1) := by decide +kernel
theorem dX9_number_99 : decode cX9_number 99 = .ok (.getfield 13, 3) := by decide +kernel
theorem dX9_number_102 : decode cX9_number 102 = .ok (.aload_n 0, 1) := by decide +kernel
theorem dX9_number_103 : decode cX9_number 103 = .ok (.getfield 109, 3) := by decide +kernel
theorem dX9_number_106 : decode cX9_number 106 = .ok (.caload, 1) := by decide +kernel
theorem dX9_number_107 : decode cX9_number 107 = .ok (.iadd, 1) := by decide +kernel
theorem dX9_number_108 : decode cX9_number 108 = .ok (.bipush 48, 2) := by decide +kernel
theorem dX9_number_110 : decode cX9_number 110 = .ok (.isub, 1) := by decide +kernel
theorem dX9_number_111 : decode cX9_number 111 = .ok (.iload_n 2, 1) := by decide +kernel
theorem dX9_number_112 : decode cX9_number 112 = .ok (.if_icmp .gt 34, 3) := by decide +kernel
theorem dX9_number_115 : decode cX9_number 115 = .ok (.bipush 10, 2) := by decide +kernel
theorem dX9_number_117 : decode cX9_number 117 = .ok (.iload_n 3, 1) := by decide +kernel
theorem dX9_number_118 : decode cX9_number 118 = .ok (.imul, 1) := by decide +kernel
theorem dX9_number_119 : decode cX9_number 119 = .ok (.aload_n 0, 1) := by decide +kernel
theorem dX9_number_120 : decode cX9_number 120 = .ok (.getfield 13, 3) := by decide +kernel
theorem dX9_number_123 : decode cX9_number 123 = .ok (.aload_n 0, 1) := by decide +kernel
theorem dX9_number_124 : decode cX9_number 124 = .ok (.getfield 109, 3) := by decide +kernel
theorem dX9_number_127 : decode cX9_number 127 = .ok (.caload, 1) := by decide +kernel
theorem dX9_number_128 : decode cX9_number 128 = .ok (.iadd, 1) := by decide +kernel
theorem dX9_number_129 : decode cX9_number 129 = .ok (.bipush 48, 2) := by decide +kernel
theorem dX9_number_131 : decode cX9_number 131 = .ok (.isub, 1) := by decide +kernel
theorem dX9_number_132 : decode cX9_number 132 = .ok (.istore_n 3, 1) := by decide +kernel
theorem dX9_number_133 : decode cX9_number 133 = .ok (.aload_n 0, 1) := by decide +kernel
theorem dX9_number_134 : decode cX9_number 134 = .ok (.dup, 1) := by decide +kernel
theorem dX9_number_135 : decode cX9_number 135 = .ok (.getfield 109, 3) := by decide +kernel
theorem dX9_number_138 : decode cX9_number 138 = .ok (.iconst 1, 1) := by decide +kernel
theorem dX9_number_139 : decode cX9_number 139 = .ok (.iadd, 1) := by decide +kernel
theorem dX9_number_140 : decode cX9_number 140 = .ok (.putfield 109, 3) := by decide +kernel
theorem dX9_number_143 : decode cX9_number 143 = .ok (.goto (-64), 3) := by decide +kernel
theorem dX9_number_146 : decode cX9_number 146 = .ok (.iload_n 3, 1) := by decide +kernel
theorem dX9_number_147 : decode cX9_number 147 = .ok (.ireturn, 1) := by decide +kernel
theorem dX9_reads_0 : decode cX9_reads 0 = .ok (.bipush 6, 2) := by decide +kernel
theorem dX9_reads_2 : decode cX9_reads 2 = .ok (.aload_n 0, 1) := by decide +kernel
theorem dX9_reads_3 : decode cX9_reads 3 = .ok (.getfield 118, 3) := by decide +kernel
theorem dX9_reads_6 : decode cX9_reads 6 = .ok (.imul, 1) := by decide +kernel
theorem dX9_reads_7 : decode cX9_reads 7 = .ok (.istore_n 1, 1) := by decide +kernel
theorem dX9_reads_8 : decode cX9_reads 8 = .ok (.aload_n 0, 1) := by decide +kernel
theorem dX9_reads_9 : decode cX9_reads 9 = .ok (.getfield 105, 3) := by decide +kernel
theorem dX9_reads_12 : decode cX9_reads 12 = .ok (.ifCond .eq 26, 3) := by decide +kernel
theorem dX9_reads_15 : decode cX9_reads 15 = .ok (.aload_n 0, 1) := by decide +kernel
theorem dX9_reads_16 : decode cX9_reads 16 = .ok (.getfield 109, 3) := by decide +kernel
theorem dX9_reads_19 : decode cX9_reads 19 = .ok (.aload_n 0, 1) := by decide +kernel
theorem dX9_reads_20 : decode cX9_reads 20 = .ok (.getfield 112, 3) := by decide +kernel
theorem dX9_reads_23 : decode cX9_reads 23 = .ok (.if_icmp .ge 15, 3) := by decide +kernel
theorem dX9_reads_26 : decode cX9_reads 26 = .ok (.aload_n 0, 1) := by decide +kernel
theorem dX9_reads_27 : decode cX9_reads 27 = .ok (.getfield 13, 3) := by decide +kernel
theorem dX9_reads_30 : decode cX9_reads 30 = .ok (.aload_n 0, 1) := by decide +kernel
theorem dX9_reads_31 : decode cX9_reads 31 = .ok (.getfield 109, 3) := by decide +kernel
theorem dX9_reads_34 : decode cX9_reads 34 = .ok (.caload, 1) := by decide +kernel
theorem dX9_reads_35 : decode cX9_reads 35 = .ok (.goto 4, 3) := by decide +kernel
theorem dX9_reads_38 : decode cX9_reads 38 = .ok (.iconst 0, 1) := by decide +kernel
theorem dX9_reads_39 : decode cX9_reads 39 = .ok (.istore_n 2, 1) := by decide +kernel
theorem dX9_reads_40 : decode cX9_reads 40 = .ok (.aload_n 0, 1) := by decide +kernel
theorem dX9_reads_41 : decode cX9_reads 41 = .ok (.aload_n 0, 1) := by decide +kernel
theorem dX9_reads_42 : decode cX9_reads 42 = .ok (.getfield 105, 3) := by decide +kernel
theorem dX9_reads_45 : decode cX9_reads 45 = .ok (.ifCond .eq 31, 3) := by decide +kernel
theorem dX9_reads_48 : decode cX9_reads 48 = .ok (.iload_n 2, 1) := by decide +kernel
theorem dX9_reads_49 : decode cX9_reads 49 = .ok (.bipush 98, 2) := by decide +kernel
theorem dX9_reads_51 : decode cX9_reads 51 = .ok (.if_icmp .eq 21, 3) := by decide +kernel
theorem dX9_reads_54 : decode cX9_reads 54 = .ok (.iload_n 2, 1) := by decide +kernel
theorem dX9_reads_55 : decode cX9_reads 55 = .ok (.bipush 101, 2) := by decide +kernel
theorem dX9_reads_57 : decode cX9_reads 57 = .ok (.if_icmp .eq 15, 3) := by decide +kernel
theorem dX9_reads_60 : decode cX9_reads 60 = .ok (.iload_n 2, 1) := by decide +kernel
theorem dX9_reads_61 : decode cX9_reads 61 = .ok (.bipush 100, 2) := by decide +kernel
theorem dX9_reads_63 : decode cX9_reads 63 = .ok (.if_icmp .eq 9, 3) := by decide +kernel
theorem dX9_reads_66 : decode cX9_reads 66 = .ok (.iload_n 2, 1) := by decide +kernel
theorem dX9_reads_67 : decode cX9_reads 67 = .ok (.bipush 110, 2) := by decide +kernel
theorem dX9_reads_69 : decode cX9_reads 69 = .ok (.if_icmp .ne 7, 3) := by decide +kernel
theorem dX9_reads_72 : decode cX9_reads 72 = .ok (.iconst 1, 1) := by decide +kernel
theorem dX9_reads_73 : decode cX9_reads 73 = .ok (.goto 4, 3) := by decide +kernel
theorem dX9_reads_76 : decode cX9_reads 76 = .ok (.iconst 0, 1) := by decide +kernel
theorem dX9_reads_77 : decode cX9_reads 77 = .ok (.putfield 105, 3) := by decide +kernel
theorem dX9_reads_80 : decode cX9_reads 80 = .ok (.aload_n 0, 1) := by decide +kernel
theorem dX9_reads_81 : decode cX9_reads 81 = .ok (.getfield 105, 3) := by decide +kernel
theorem dX9_reads_84 : decode cX9_reads 84 = .ok (.ifCond .ne 4, 3) := by decide +kernel
theorem dX9_reads_87 : decode cX9_reads 87 = .ok (.return_, 1) := by decide +kernel
theorem dX9_reads_88 : decode cX9_reads 88 = .ok (.aload_n 0, 1) := by decide +kernel
theorem dX9_reads_89 : decode cX9_reads 89 = .ok (.dup, 1) := by decide +kernel
theorem dX9_reads_90 : decode cX9_reads 90 = .ok (.getfield 109, 3) := by decide +kernel
theorem dX9_reads_93 : decode cX9_reads 93 = .ok (.iconst 1, 1) := by decide +kernel
theorem dX9_reads_94 : decode cX9_reads 94 = .ok (.iadd, 1) := by decide +kernel
theorem dX9_reads_95 : decode cX9_reads 95 = .ok (.putfield 109, 3) := by decide +kernel
theorem dX9_reads_98 : decode cX9_reads 98 = .ok (.aload_n 0, 1) := by decide +kernel
theorem dX9_reads_99 : decode cX9_reads 99 = .ok (.getfield 17, 3) := by decide +kernel
theorem dX9_reads_102 : decode cX9_reads 102 = .ok (.iload_n 1, 1) := by decide +kernel
theorem dX9_reads_103 : decode cX9_reads 103 = .ok (.iload_n 2, 1) := by decide +kernel
theorem dX9_reads_104 : decode cX9_reads 104 = .ok (.iastore, 1) := by decide +kernel
theorem dX9_reads_105 : decode cX9_reads 105 = .ok (.iload_n 2, 1) := by decide +kernel
theorem dX9_reads_106 : decode cX9_reads 106 = .ok (.bipush 98, 2) := by decide +kernel
theorem dX9_reads_108 : decode cX9_reads 108 = .ok (.if_icmp .ne 104, 3) := by decide +kernel
theorem dX9_reads_111 : decode cX9_reads 111 = .ok (.aload_n 0, 1) := by decide +kernel
theorem dX9_reads_112 : decode cX9_reads 112 = .ok (.getfield 17, 3) := by decide +kernel
theorem dX9_reads_115 : decode cX9_reads 115 = .ok (.iload_n 1, 1) := by decide +kernel
theorem dX9_reads_116 : decode cX9_reads 116 = .ok (.iconst 1, 1) := by decide +kernel
theorem dX9_reads_117 : decode cX9_reads 117 = .ok (.iadd, 1) := by decide +kernel
theorem dX9_reads_118 : decode cX9_reads 118 = .ok (.aload_n 0, 1) := by decide +kernel
theorem dX9_reads_119 : decode cX9_reads 119 = .ok (.iconst 0, 1) := by decide +kernel
theorem dX9_reads_120 : decode cX9_reads 120 = .ok (.iconst 5, 1) := by decide +kernel
theorem dX9_reads_121 : decode cX9_reads 121 = .ok (.invokevirtual 121, 3) := by decide +kernel
theorem dX9_reads_124 : decode cX9_reads 124 = .ok (.iastore, 1) := by decide +kernel
theorem dX9_reads_125 : decode cX9_reads 125 = .ok (.aload_n 0, 1) := by decide +kernel
theorem dX9_reads_126 : decode cX9_reads 126 = .ok (.bipush 99, 2) := by decide +kernel
theorem dX9_reads_128 : decode cX9_reads 128 = .ok (.invokevirtual 124, 3) := by decide +kernel
theorem dX9_reads_131 : decode cX9_reads 131 = .ok (.aload_n 0, 1) := by decide +kernel
theorem dX9_reads_132 : decode cX9_reads 132 = .ok (.getfield 17, 3) := by decide +kernel
theorem dX9_reads_135 : decode cX9_reads 135 = .ok (.iload_n 1, 1) := by decide +kernel
theorem dX9_reads_136 : decode cX9_reads 136 = .ok (.iconst 2, 1) := by decide +kernel
theorem dX9_reads_137 : decode cX9_reads 137 = .ok (.iadd, 1) := by decide +kernel
theorem dX9_reads_138 : decode cX9_reads 138 = .ok (.aload_n 0, 1) := by decide +kernel
theorem dX9_reads_139 : decode cX9_reads 139 = .ok (.iconst 0, 1) := by decide +kernel
theorem dX9_reads_140 : decode cX9_reads 140 = .ok (.iconst 2, 1) := by decide +kernel
theorem dX9_reads_141 : decode cX9_reads 141 = .ok (.invokevirtual 121, 3) := by decide +kernel
theorem dX9_reads_144 : decode cX9_reads 144 = .ok (.iastore, 1) := by decide +kernel
theorem dX9_reads_145 : decode cX9_reads 145 = .ok (.aload_n 0, 1) := by decide +kernel
theorem dX9_reads_146 : decode cX9_reads 146 = .ok (.bipush 104, 2) := by decide +kernel
theorem dX9_reads_148 : decode cX9_reads 148 = .ok (.invokevirtual 124, 3) := by decide +kernel
theorem dX9_reads_151 : decode cX9_reads 151 = .ok (.aload_n 0, 1) := by decide +kernel
theorem dX9_reads_152 : decode cX9_reads 152 = .ok (.getfield 17, 3) := by decide +kernel
theorem dX9_reads_155 : decode cX9_reads 155 = .ok (.iload_n 1, 1) := by decide +kernel
theorem dX9_reads_156 : decode cX9_reads 156 = .ok (.iconst 3, 1) := by decide +kernel
theorem dX9_reads_157 : decode cX9_reads 157 = .ok (.iadd, 1) := by decide +kernel
theorem dX9_reads_158 : decode cX9_reads 158 = .ok (.aload_n 0, 1) := by decide +kernel
theorem dX9_reads_159 : decode cX9_reads 159 = .ok (.iconst 0, 1) := by decide +kernel
theorem dX9_reads_160 : decode cX9_reads 160 = .ok (.bipush 15, 2) := by decide +kernel
theorem dX9_reads_162 : decode cX9_reads 162 = .ok (.invokevirtual 121, 3) := by decide +kernel
theorem dX9_reads_165 : decode cX9_reads 165 = .ok (.iastore, 1) := by decide +kernel
theorem dX9_reads_166 : decode cX9_reads 166 = .ok (.aload_n 0, 1) := by decide +kernel
theorem dX9_reads_167 : decode cX9_reads 167 = .ok (.bipush 119, 2) := by decide +kernel
theorem dX9_reads_169 : decode cX9_reads 169 = .ok (.invokevirtual 124, 3) := by decide +kernel
theorem dX9_reads_172 : decode cX9_reads 172 = .ok (.aload_n 0, 1) := by decide +kernel
theorem dX9_reads_173 : decode cX9_reads 173 = .ok (.getfield 17, 3) := by decide +kernel
theorem dX9_reads_176 : decode cX9_reads 176 = .ok (.iload_n 1, 1) := by decide +kernel
theorem dX9_reads_177 : decode cX9_reads 177 = .ok (.iconst 4, 1) := by decide +kernel
theorem dX9_reads_178 : decode cX9_reads 178 = .ok (.iadd, 1) := by decide +kernel
theorem dX9_reads_179 : decode cX9_reads 179 = .ok (.aload_n 0, 1) := by decide +kernel
theorem dX9_reads_180 : decode cX9_reads 180 = .ok (.iconst 1, 1) := by decide +kernel
theorem dX9_reads_181 : decode cX9_reads 181 = .ok (.bipush 60, 2) := by decide +kernel
theorem dX9_reads_183 : decode cX9_reads 183 = .ok (.invokevirtual 121, 3) := by decide +kernel
theorem dX9_reads_186 : decode cX9_reads 186 = .ok (.iastore, 1) := by decide +kernel
theorem dX9_reads_187 : decode cX9_reads 187 = .ok (.aload_n 0, 1) := by decide +kernel
theorem dX9_reads_188 : decode cX9_reads 188 = .ok (.bipush 61, 2) := by decide +kernel
theorem dX9_reads_190 : decode cX9_reads 190 = .ok (.invokevirtual 124, 3) := by decide +kernel
theorem dX9_reads_193 : decode cX9_reads 193 = .ok (.aload_n 0, 1) := by decide +kernel
theorem dX9_reads_194 : decode cX9_reads 194 = .ok (.getfield 17, 3) := by decide +kernel
theorem dX9_reads_197 : decode cX9_reads 197 = .ok (.iload_n 1, 1) := by decide +kernel
theorem dX9_reads_198 : decode cX9_reads 198 = .ok (.iconst 5, 1) := by decide +kernel
theorem dX9_reads_199 : decode cX9_reads 199 = .ok (.iadd, 1) := by decide +kernel
theorem dX9_reads_200 : decode cX9_reads 200 = .ok (.aload_n 0, 1) := by decide +kernel
theorem dX9_reads_201 : decode cX9_reads 201 = .ok (.iconst 1, 1) := by decide +kernel
theorem dX9_reads_202 : decode cX9_reads 202 = .ok (.sipush 999, 3) := by decide +kernel
theorem dX9_reads_205 : decode cX9_reads 205 = .ok (.invokevirtual 121, 3) := by decide +kernel
theorem dX9_reads_208 : decode cX9_reads 208 = .ok (.iastore, 1) := by decide +kernel
theorem dX9_reads_209 : decode cX9_reads 209 = .ok (.goto 69, 3) := by decide +kernel
theorem dX9_reads_212 : decode cX9_reads 212 = .ok (.iload_n 2, 1) := by decide +kernel
theorem dX9_reads_213 : decode cX9_reads 213 = .ok (.bipush 101, 2) := by decide +kernel
theorem dX9_reads_215 : decode cX9_reads 215 = .ok (.if_icmp .ne 42, 3) := by decide +kernel
theorem dX9_reads_218 : decode cX9_reads 218 = .ok (.aload_n 0, 1) := by decide +kernel
theorem dX9_reads_219 : decode cX9_reads 219 = .ok (.getfield 17, 3) := by decide +kernel
theorem dX9_reads_222 : decode cX9_reads 222 = .ok (.iload_n 1, 1) := by decide +kernel
theorem dX9_reads_223 : decode cX9_reads 223 = .ok (.iconst 1, 1) := by decide +kernel
theorem dX9_reads_224 : decode cX9_reads 224 = .ok (.iadd, 1) := by decide +kernel
theorem dX9_reads_225 : decode cX9_reads 225 = .ok (.aload_n 0, 1) := by decide +kernel
theorem dX9_reads_226 : decode cX9_reads 226 = .ok (.iconst 0, 1) := by decide +kernel
theorem dX9_reads_227 : decode cX9_reads 227 = .ok (.bipush 15, 2) := by decide +kernel
theorem dX9_reads_229 : decode cX9_reads 229 = .ok (.invokevirtual 121, 3) := by decide +kernel
theorem dX9_reads_232 : decode cX9_reads 232 = .ok (.iastore, 1) := by decide +kernel
theorem dX9_reads_233 : decode cX9_reads 233 = .ok (.aload_n 0, 1) := by decide +kernel
theorem dX9_reads_234 : decode cX9_reads 234 = .ok (.bipush 58, 2) := by decide +kernel
theorem dX9_reads_236 : decode cX9_reads 236 = .ok (.invokevirtual 124, 3) := by decide +kernel
theorem dX9_reads_239 : decode cX9_reads 239 = .ok (.aload_n 0, 1) := by decide +kernel
theorem dX9_reads_240 : decode cX9_reads 240 = .ok (.getfield 17, 3) := by decide +kernel
theorem dX9_reads_243 : decode cX9_reads 243 = .ok (.iload_n 1, 1) := by decide +kernel
theorem dX9_reads_244 : decode cX9_reads 244 = .ok (.iconst 2, 1) := by decide +kernel
theorem dX9_reads_245 : decode cX9_reads 245 = .ok (.iadd, 1) := by decide +kernel
theorem dX9_reads_246 : decode cX9_reads 246 = .ok (.aload_n 0, 1) := by decide +kernel
theorem dX9_reads_247 : decode cX9_reads 247 = .ok (.iconst 0, 1) := by decide +kernel
theorem dX9_reads_248 : decode cX9_reads 248 = .ok (.bipush 99, 2) := by decide +kernel
theorem dX9_reads_250 : decode cX9_reads 250 = .ok (.invokevirtual 121, 3) := by decide +kernel
theorem dX9_reads_253 : decode cX9_reads 253 = .ok (.iastore, 1) := by decide +kernel
theorem dX9_reads_254 : decode cX9_reads 254 = .ok (.goto 24, 3) := by decide +kernel
theorem dX9_reads_257 : decode cX9_reads 257 = .ok (.iload_n 2, 1) := by decide +kernel
theorem dX9_reads_258 : decode cX9_reads 258 = .ok (.bipush 100, 2) := by decide +kernel
theorem dX9_reads_260 : decode cX9_reads 260 = .ok (.if_icmp .ne 18, 3) := by decide +kernel
theorem dX9_reads_263 : decode cX9_reads 263 = .ok (.aload_n 0, 1) := by decide +kernel
theorem dX9_reads_264 : decode cX9_reads 264 = .ok (.getfield 17, 3) := by decide +kernel
theorem dX9_reads_267 : decode cX9_reads 267 = .ok (.iload_n 1, 1) := by decide +kernel
theorem dX9_reads_268 : decode cX9_reads 268 = .ok (.iconst 1, 1) := by decide +kernel
theorem dX9_reads_269 : decode cX9_reads 269 = .ok (.iadd, 1) := by decide +kernel
theorem dX9_reads_270 : decode cX9_reads 270 = .ok (.aload_n 0, 1) := by decide +kernel
theorem dX9_reads_271 : decode cX9_reads 271 = .ok (.iconst 0, 1) := by decide +kernel
theorem dX9_reads_272 : decode cX9_reads 272 = .ok (.bipush 99, 2) := by decide +kernel
theorem dX9_reads_274 : decode cX9_reads 274 = .ok (.invokevirtual 121, 3) := by decide +kernel
theorem dX9_reads_277 : decode cX9_reads 277 = .ok (.iastore, 1) := by decide +kernel
theorem dX9_reads_278 : decode cX9_reads 278 = .ok (.aload_n 0, 1) := by decide +kernel
theorem dX9_reads_279 : decode cX9_reads 279 = .ok (.dup, 1) := by decide +kernel
theorem dX9_reads_280 : decode cX9_reads 280 = .ok (.getfield 118, 3) := by decide +kernel
theorem dX9_reads_283 : decode cX9_reads 283 = .ok (.iconst 1, 1) := by decide +kernel
theorem dX9_reads_284 : decode cX9_reads 284 = .ok (.iadd, 1) := by decide +kernel
theorem dX9_reads_285 : decode cX9_reads 285 = .ok (.putfield 118, 3) := by decide +kernel
theorem dX9_reads_288 : decode cX9_reads 288 = .ok (.return_, 1) := by decide +kernel
theorem dX9_fault_0 : decode cX9_fault 0 = .ok (.aload_n 0, 1) := by decide +kernel
theorem dX9_fault_1 : decode cX9_fault 1 = .ok (.iconst 0, 1) := by decide +kernel
theorem dX9_fault_2 : decode cX9_fault 2 = .ok (.putfield 109, 3) := by decide +kernel
theorem dX9_fault_5 : decode cX9_fault 5 = .ok (.aload_n 0, 1) := by decide +kernel
theorem dX9_fault_6 : decode cX9_fault 6 = .ok (.iconst 1, 1) := by decide +kernel
theorem dX9_fault_7 : decode cX9_fault 7 = .ok (.putfield 105, 3) := by decide +kernel
theorem dX9_fault_10 : decode cX9_fault 10 = .ok (.aload_n 0, 1) := by decide +kernel
theorem dX9_fault_11 : decode cX9_fault 11 = .ok (.iconst 0, 1) := by decide +kernel
theorem dX9_fault_12 : decode cX9_fault 12 = .ok (.putfield 118, 3) := by decide +kernel
theorem dX9_fault_15 : decode cX9_fault 15 = .ok (.aload_n 0, 1) := by decide +kernel
theorem dX9_fault_16 : decode cX9_fault 16 = .ok (.invokevirtual 127, 3) := by decide +kernel
theorem dX9_fault_19 : decode cX9_fault 19 = .ok (.aload_n 0, 1) := by decide +kernel
theorem dX9_fault_20 : decode cX9_fault 20 = .ok (.getfield 105, 3) := by decide +kernel
theorem dX9_fault_23 : decode cX9_fault 23 = .ok (.ifCond .eq 27, 3) := by decide +kernel
theorem dX9_fault_26 : decode cX9_fault 26 = .ok (.aload_n 0, 1) := by decide +kernel
theorem dX9_fault_27 : decode cX9_fault 27 = .ok (.getfield 109, 3) := by decide +kernel
theorem dX9_fault_30 : decode cX9_fault 30 = .ok (.aload_n 0, 1) := by decide +kernel
theorem dX9_fault_31 : decode cX9_fault 31 = .ok (.getfield 112, 3) := by decide +kernel
theorem dX9_fault_34 : decode cX9_fault 34 = .ok (.if_icmp .ge 16, 3) := by decide +kernel
theorem dX9_fault_37 : decode cX9_fault 37 = .ok (.aload_n 0, 1) := by decide +kernel
theorem dX9_fault_38 : decode cX9_fault 38 = .ok (.bipush 44, 2) := by decide +kernel
theorem dX9_fault_40 : decode cX9_fault 40 = .ok (.invokevirtual 124, 3) := by decide +kernel
theorem dX9_fault_43 : decode cX9_fault 43 = .ok (.aload_n 0, 1) := by decide +kernel
theorem dX9_fault_44 : decode cX9_fault 44 = .ok (.invokevirtual 127, 3) := by decide +kernel
theorem dX9_fault_47 : decode cX9_fault 47 = .ok (.goto (-28), 3) := by decide +kernel
theorem dX9_fault_50 : decode cX9_fault 50 = .ok (.aload_n 0, 1) := by decide +kernel
theorem dX9_fault_51 : decode cX9_fault 51 = .ok (.getfield 105, 3) := by decide +kernel
theorem dX9_fault_54 : decode cX9_fault 54 = .ok (.ifCond .eq 7, 3) := by decide +kernel
theorem dX9_fault_57 : decode cX9_fault 57 = .ok (.iconst (-1), 1) := by decide +kernel
theorem dX9_fault_58 : decode cX9_fault 58 = .ok (.goto 7, 3) := by decide +kernel
theorem dX9_fault_61 : decode cX9_fault 61 = .ok (.aload_n 0, 1) := by decide +kernel
theorem dX9_fault_62 : decode cX9_fault 62 = .ok (.getfield 109, 3) := by decide +kernel
theorem dX9_fault_65 : decode cX9_fault 65 = .ok (.ireturn, 1) := by decide +kernel
theorem dX9_performs_0 : decode cX9_performs 0 = .ok (.bipush 6, 2) := by decide +kernel
theorem dX9_performs_2 : decode cX9_performs 2 = .ok (.iload_n 1, 1) := by decide +kernel
theorem dX9_performs_3 : decode cX9_performs 3 = .ok (.imul, 1) := by decide +kernel
theorem dX9_performs_4 : decode cX9_performs 4 = .ok (.istore_n 2, 1) := by decide +kernel
theorem dX9_performs_5 : decode cX9_performs 5 = .ok (.aload_n 0, 1) := by decide +kernel
theorem dX9_performs_6 : decode cX9_performs 6 = .ok (.getfield 17, 3) := by decide +kernel
theorem dX9_performs_9 : decode cX9_performs 9 = .ok (.iload_n 2, 1) := by decide +kernel
theorem dX9_performs_10 : decode cX9_performs 10 = .ok (.iaload, 1) := by decide +kernel
theorem dX9_performs_11 : decode cX9_performs 11 = .ok (.tableswitch 114 98 101 #[29, 114, 99, 76], 29) := by decide +kernel
theorem dX9_performs_40 : decode cX9_performs 40 = .ok (.aload_n 0, 1) := by decide +kernel
theorem dX9_performs_41 : decode cX9_performs 41 = .ok (.bipush 6, 2) := by decide +kernel
theorem dX9_performs_43 : decode cX9_performs 43 = .ok (.aload_n 0, 1) := by decide +kernel
theorem dX9_performs_44 : decode cX9_performs 44 = .ok (.getfield 17, 3) := by decide +kernel
theorem dX9_performs_47 : decode cX9_performs 47 = .ok (.iload_n 2, 1) := by decide +kernel
theorem dX9_performs_48 : decode cX9_performs 48 = .ok (.iconst 1, 1) := by decide +kernel
theorem dX9_performs_49 : decode cX9_performs 49 = .ok (.iadd, 1) := by decide +kernel
theorem dX9_performs_50 : decode cX9_performs 50 = .ok (.iaload, 1) := by decide +kernel
theorem dX9_performs_51 : decode cX9_performs 51 = .ok (.aload_n 0, 1) := by decide +kernel
theorem dX9_performs_52 : decode cX9_performs 52 = .ok (.getfield 17, 3) := by decide +kernel
theorem dX9_performs_55 : decode cX9_performs 55 = .ok (.iload_n 2, 1) := by decide +kernel
theorem dX9_performs_56 : decode cX9_performs 56 = .ok (.iconst 2, 1) := by decide +kernel
theorem dX9_performs_57 : decode cX9_performs 57 = .ok (.iadd, 1) := by decide +kernel
theorem dX9_performs_58 : decode cX9_performs 58 = .ok (.iaload, 1) := by decide +kernel
theorem dX9_performs_59 : decode cX9_performs 59 = .ok (.aload_n 0, 1) := by decide +kernel
theorem dX9_performs_60 : decode cX9_performs 60 = .ok (.getfield 17, 3) := by decide +kernel
theorem dX9_performs_63 : decode cX9_performs 63 = .ok (.iload_n 2, 1) := by decide +kernel
theorem dX9_performs_64 : decode cX9_performs 64 = .ok (.iconst 3, 1) := by decide +kernel
theorem dX9_performs_65 : decode cX9_performs 65 = .ok (.iadd, 1) := by decide +kernel
theorem dX9_performs_66 : decode cX9_performs 66 = .ok (.iaload, 1) := by decide +kernel
theorem dX9_performs_67 : decode cX9_performs 67 = .ok (.aload_n 0, 1) := by decide +kernel
theorem dX9_performs_68 : decode cX9_performs 68 = .ok (.getfield 17, 3) := by decide +kernel
theorem dX9_performs_71 : decode cX9_performs 71 = .ok (.iload_n 2, 1) := by decide +kernel
theorem dX9_performs_72 : decode cX9_performs 72 = .ok (.iconst 4, 1) := by decide +kernel
theorem dX9_performs_73 : decode cX9_performs 73 = .ok (.iadd, 1) := by decide +kernel
theorem dX9_performs_74 : decode cX9_performs 74 = .ok (.iaload, 1) := by decide +kernel
theorem dX9_performs_75 : decode cX9_performs 75 = .ok (.aload_n 0, 1) := by decide +kernel
theorem dX9_performs_76 : decode cX9_performs 76 = .ok (.getfield 17, 3) := by decide +kernel
theorem dX9_performs_79 : decode cX9_performs 79 = .ok (.iload_n 2, 1) := by decide +kernel
theorem dX9_performs_80 : decode cX9_performs 80 = .ok (.iconst 5, 1) := by decide +kernel
theorem dX9_performs_81 : decode cX9_performs 81 = .ok (.iadd, 1) := by decide +kernel
theorem dX9_performs_82 : decode cX9_performs 82 = .ok (.iaload, 1) := by decide +kernel
theorem dX9_performs_83 : decode cX9_performs 83 = .ok (.invokevirtual 93, 3) := by decide +kernel
theorem dX9_performs_86 : decode cX9_performs 86 = .ok (.ireturn, 1) := by decide +kernel
theorem dX9_performs_87 : decode cX9_performs 87 = .ok (.aload_n 0, 1) := by decide +kernel
theorem dX9_performs_88 : decode cX9_performs 88 = .ok (.bipush 6, 2) := by decide +kernel
theorem dX9_performs_90 : decode cX9_performs 90 = .ok (.aload_n 0, 1) := by decide +kernel
theorem dX9_performs_91 : decode cX9_performs 91 = .ok (.getfield 17, 3) := by decide +kernel
theorem dX9_performs_94 : decode cX9_performs 94 = .ok (.iload_n 2, 1) := by decide +kernel
theorem dX9_performs_95 : decode cX9_performs 95 = .ok (.iconst 1, 1) := by decide +kernel
theorem dX9_performs_96 : decode cX9_performs 96 = .ok (.iadd, 1) := by decide +kernel
theorem dX9_performs_97 : decode cX9_performs 97 = .ok (.iaload, 1) := by decide +kernel
theorem dX9_performs_98 : decode cX9_performs 98 = .ok (.aload_n 0, 1) := by decide +kernel
theorem dX9_performs_99 : decode cX9_performs 99 = .ok (.getfield 17, 3) := by decide +kernel
theorem dX9_performs_102 : decode cX9_performs 102 = .ok (.iload_n 2, 1) := by decide +kernel
theorem dX9_performs_103 : decode cX9_performs 103 = .ok (.iconst 2, 1) := by decide +kernel
theorem dX9_performs_104 : decode cX9_performs 104 = .ok (.iadd, 1) := by decide +kernel
theorem dX9_performs_105 : decode cX9_performs 105 = .ok (.iaload, 1) := by decide +kernel
theorem dX9_performs_106 : decode cX9_performs 106 = .ok (.invokevirtual 87, 3) := by decide +kernel
theorem dX9_performs_109 : decode cX9_performs 109 = .ok (.ireturn, 1) := by decide +kernel
theorem dX9_performs_110 : decode cX9_performs 110 = .ok (.aload_n 0, 1) := by decide +kernel
theorem dX9_performs_111 : decode cX9_performs 111 = .ok (.bipush 6, 2) := by decide +kernel
theorem dX9_performs_113 : decode cX9_performs 113 = .ok (.aload_n 0, 1) := by decide +kernel
theorem dX9_performs_114 : decode cX9_performs 114 = .ok (.getfield 17, 3) := by decide +kernel
theorem dX9_performs_117 : decode cX9_performs 117 = .ok (.iload_n 2, 1) := by decide +kernel
theorem dX9_performs_118 : decode cX9_performs 118 = .ok (.iconst 1, 1) := by decide +kernel
theorem dX9_performs_119 : decode cX9_performs 119 = .ok (.iadd, 1) := by decide +kernel
theorem dX9_performs_120 : decode cX9_performs 120 = .ok (.iaload, 1) := by decide +kernel
theorem dX9_performs_121 : decode cX9_performs 121 = .ok (.invokevirtual 99, 3) := by decide +kernel
theorem dX9_performs_124 : decode cX9_performs 124 = .ok (.ireturn, 1) := by decide +kernel
theorem dX9_performs_125 : decode cX9_performs 125 = .ok (.aload_n 0, 1) := by decide +kernel
theorem dX9_performs_126 : decode cX9_performs 126 = .ok (.bipush 6, 2) := by decide +kernel
theorem dX9_performs_128 : decode cX9_performs 128 = .ok (.invokevirtual 102, 3) := by decide +kernel
theorem dX9_performs_131 : decode cX9_performs 131 = .ok (.ireturn, 1) := by decide +kernel
theorem dX9_perform_0 : decode cX9_perform 0 = .ok (.aload_n 0, 1) := by decide +kernel
theorem dX9_perform_1 : decode cX9_perform 1 = .ok (.invokevirtual 130, 3) := by decide +kernel
theorem dX9_perform_4 : decode cX9_perform 4 = .ok (.istore_n 1, 1) := by decide +kernel
theorem dX9_perform_5 : decode cX9_perform 5 = .ok (.iload_n 1, 1) := by decide +kernel
theorem dX9_perform_6 : decode cX9_perform 6 = .ok (.ifCond .lt 8, 3) := by decide +kernel
theorem dX9_perform_9 : decode cX9_perform 9 = .ok (.bipush (-100), 2) := by decide +kernel
theorem dX9_perform_11 : decode cX9_perform 11 = .ok (.iload_n 1, 1) := by decide +kernel
theorem dX9_perform_12 : decode cX9_perform 12 = .ok (.isub, 1) := by decide +kernel
theorem dX9_perform_13 : decode cX9_perform 13 = .ok (.ireturn, 1) := by decide +kernel
theorem dX9_perform_14 : decode cX9_perform 14 = .ok (.aload_n 0, 1) := by decide +kernel
theorem dX9_perform_15 : decode cX9_perform 15 = .ok (.iconst 0, 1) := by decide +kernel
theorem dX9_perform_16 : decode cX9_perform 16 = .ok (.bipush 6, 2) := by decide +kernel
theorem dX9_perform_18 : decode cX9_perform 18 = .ok (.invokevirtual 31, 3) := by decide +kernel
theorem dX9_perform_21 : decode cX9_perform 21 = .ok (.iconst 0, 1) := by decide +kernel
theorem dX9_perform_22 : decode cX9_perform 22 = .ok (.istore_n 2, 1) := by decide +kernel
theorem dX9_perform_23 : decode cX9_perform 23 = .ok (.iload_n 2, 1) := by decide +kernel
theorem dX9_perform_24 : decode cX9_perform 24 = .ok (.aload_n 0, 1) := by decide +kernel
theorem dX9_perform_25 : decode cX9_perform 25 = .ok (.getfield 118, 3) := by decide +kernel
theorem dX9_perform_28 : decode cX9_perform 28 = .ok (.if_icmp .ge 38, 3) := by decide +kernel
theorem dX9_perform_31 : decode cX9_perform 31 = .ok (.aload_n 0, 1) := by decide +kernel
theorem dX9_perform_32 : decode cX9_perform 32 = .ok (.iload_n 2, 1) := by decide +kernel
theorem dX9_perform_33 : decode cX9_perform 33 = .ok (.invokevirtual 134, 3) := by decide +kernel
theorem dX9_perform_36 : decode cX9_perform 36 = .ok (.istore_n 3, 1) := by decide +kernel
theorem dX9_perform_37 : decode cX9_perform 37 = .ok (.iload_n 3, 1) := by decide +kernel
theorem dX9_perform_38 : decode cX9_perform 38 = .ok (.ifCond .ge 22, 3) := by decide +kernel
theorem dX9_perform_41 : decode cX9_perform 41 = .ok (.iload_n 3, 1) := by decide +kernel
theorem dX9_perform_42 : decode cX9_perform 42 = .ok (.bipush (-5), 2) := by decide +kernel
theorem dX9_perform_44 : decode cX9_perform 44 = .ok (.if_icmp .eq 16, 3) := by decide +kernel
theorem dX9_perform_47 : decode cX9_perform 47 = .ok (.aload_n 0, 1) := by decide +kernel
theorem dX9_perform_48 : decode cX9_perform 48 = .ok (.iload_n 2, 1) := by decide +kernel
theorem dX9_perform_49 : decode cX9_perform 49 = .ok (.putfield 20, 3) := by decide +kernel
theorem dX9_perform_52 : decode cX9_perform 52 = .ok (.aload_n 0, 1) := by decide +kernel
theorem dX9_perform_53 : decode cX9_perform 53 = .ok (.iload_n 3, 1) := by decide +kernel
theorem dX9_perform_54 : decode cX9_perform 54 = .ok (.putfield 137, 3) := by decide +kernel
theorem dX9_perform_57 : decode cX9_perform 57 = .ok (.bipush (-4), 2) := by decide +kernel
theorem dX9_perform_59 : decode cX9_perform 59 = .ok (.ireturn, 1) := by decide +kernel
theorem dX9_perform_60 : decode cX9_perform 60 = .ok (.iinc 2 1, 3) := by decide +kernel
theorem dX9_perform_63 : decode cX9_perform 63 = .ok (.goto (-40), 3) := by decide +kernel
theorem dX9_perform_66 : decode cX9_perform 66 = .ok (.aload_n 0, 1) := by decide +kernel
theorem dX9_perform_67 : decode cX9_perform 67 = .ok (.aload_n 0, 1) := by decide +kernel
theorem dX9_perform_68 : decode cX9_perform 68 = .ok (.getfield 118, 3) := by decide +kernel
theorem dX9_perform_71 : decode cX9_perform 71 = .ok (.invokevirtual 90, 3) := by decide +kernel
theorem dX9_perform_74 : decode cX9_perform 74 = .ok (.ireturn, 1) := by decide +kernel
theorem dX9_stopped_0 : decode cX9_stopped 0 = .ok (.iload_n 1, 1) := by decide +kernel
theorem dX9_stopped_1 : decode cX9_stopped 1 = .ok (.iconst 0, 1) := by decide +kernel
theorem dX9_stopped_2 : decode cX9_stopped 2 = .ok (.iconst 1, 1) := by decide +kernel
theorem dX9_stopped_3 : decode cX9_stopped 3 = .ok (.invokestatic 53, 3) := by decide +kernel
theorem dX9_stopped_6 : decode cX9_stopped 6 = .ok (.ifCond .ne 6, 3) := by decide +kernel
theorem dX9_stopped_9 : decode cX9_stopped 9 = .ok (.bipush (-2), 2) := by decide +kernel
theorem dX9_stopped_11 : decode cX9_stopped 11 = .ok (.ireturn, 1) := by decide +kernel
theorem dX9_stopped_12 : decode cX9_stopped 12 = .ok (.aload_n 0, 1) := by decide +kernel
theorem dX9_stopped_13 : decode cX9_stopped 13 = .ok (.getfield 20, 3) := by decide +kernel
theorem dX9_stopped_16 : decode cX9_stopped 16 = .ok (.ifCond .ge 8, 3) := by decide +kernel
theorem dX9_stopped_19 : decode cX9_stopped 19 = .ok (.bipush (-5), 2) := by decide +kernel
theorem dX9_stopped_21 : decode cX9_stopped 21 = .ok (.goto 18, 3) := by decide +kernel
theorem dX9_stopped_24 : decode cX9_stopped 24 = .ok (.iload_n 1, 1) := by decide +kernel
theorem dX9_stopped_25 : decode cX9_stopped 25 = .ok (.ifCond .ne 10, 3) := by decide +kernel
theorem dX9_stopped_28 : decode cX9_stopped 28 = .ok (.aload_n 0, 1) := by decide +kernel
theorem dX9_stopped_29 : decode cX9_stopped 29 = .ok (.getfield 20, 3) := by decide +kernel
theorem dX9_stopped_32 : decode cX9_stopped 32 = .ok (.goto 7, 3) := by decide +kernel
theorem dX9_stopped_35 : decode cX9_stopped 35 = .ok (.aload_n 0, 1) := by decide +kernel
theorem dX9_stopped_36 : decode cX9_stopped 36 = .ok (.getfield 137, 3) := by decide +kernel
theorem dX9_stopped_39 : decode cX9_stopped 39 = .ok (.ireturn, 1) := by decide +kernel
theorem dX9_type_0 : decode cX9_type 0 = .ok (.aload_n 0, 1) := by decide +kernel
theorem dX9_type_1 : decode cX9_type 1 = .ok (.getfield 112, 3) := by decide +kernel
theorem dX9_type_4 : decode cX9_type 4 = .ok (.bipush 80, 2) := by decide +kernel
theorem dX9_type_6 : decode cX9_type 6 = .ok (.if_icmp .ne 6, 3) := by decide +kernel
theorem dX9_type_9 : decode cX9_type 9 = .ok (.bipush (-3), 2) := by decide +kernel
theorem dX9_type_11 : decode cX9_type 11 = .ok (.ireturn, 1) := by decide +kernel
theorem dX9_type_12 : decode cX9_type 12 = .ok (.aload_n 0, 1) := by decide +kernel
theorem dX9_type_13 : decode cX9_type 13 = .ok (.getfield 13, 3) := by decide +kernel
theorem dX9_type_16 : decode cX9_type 16 = .ok (.aload_n 0, 1) := by decide +kernel
theorem dX9_type_17 : decode cX9_type 17 = .ok (.getfield 112, 3) := by decide +kernel
theorem dX9_type_20 : decode cX9_type 20 = .ok (.iload_n 1, 1) := by decide +kernel
theorem dX9_type_21 : decode cX9_type 21 = .ok (.castore, 1) := by decide +kernel
theorem dX9_type_22 : decode cX9_type 22 = .ok (.aload_n 0, 1) := by decide +kernel
theorem dX9_type_23 : decode cX9_type 23 = .ok (.dup, 1) := by decide +kernel
theorem dX9_type_24 : decode cX9_type 24 = .ok (.getfield 112, 3) := by decide +kernel
theorem dX9_type_27 : decode cX9_type 27 = .ok (.iconst 1, 1) := by decide +kernel
theorem dX9_type_28 : decode cX9_type 28 = .ok (.iadd, 1) := by decide +kernel
theorem dX9_type_29 : decode cX9_type 29 = .ok (.putfield 112, 3) := by decide +kernel
theorem dX9_type_32 : decode cX9_type 32 = .ok (.aload_n 0, 1) := by decide +kernel
theorem dX9_type_33 : decode cX9_type 33 = .ok (.getfield 112, 3) := by decide +kernel
theorem dX9_type_36 : decode cX9_type 36 = .ok (.ireturn, 1) := by decide +kernel
theorem dX9_clearText_0 : decode cX9_clearText 0 = .ok (.aload_n 0, 1) := by decide +kernel
theorem dX9_clearText_1 : decode cX9_clearText 1 = .ok (.getfield 112, 3) := by decide +kernel
theorem dX9_clearText_4 : decode cX9_clearText 4 = .ok (.istore_n 1, 1) := by decide +kernel
theorem dX9_clearText_5 : decode cX9_clearText 5 = .ok (.aload_n 0, 1) := by decide +kernel
theorem dX9_clearText_6 : decode cX9_clearText 6 = .ok (.iconst 0, 1) := by decide +kernel
theorem dX9_clearText_7 : decode cX9_clearText 7 = .ok (.putfield 112, 3) := by decide +kernel
theorem dX9_clearText_10 : decode cX9_clearText 10 = .ok (.iload_n 1, 1) := by decide +kernel
theorem dX9_clearText_11 : decode cX9_clearText 11 = .ok (.ireturn, 1) := by decide +kernel
theorem dX9_undo_0 : decode cX9_undo 0 = .ok (.aload_n 0, 1) := by decide +kernel
theorem dX9_undo_1 : decode cX9_undo 1 = .ok (.getfield 28, 3) := by decide +kernel
theorem dX9_undo_4 : decode cX9_undo 4 = .ok (.ifCond .ne 6, 3) := by decide +kernel
theorem dX9_undo_7 : decode cX9_undo 7 = .ok (.bipush (-5), 2) := by decide +kernel
theorem dX9_undo_9 : decode cX9_undo 9 = .ok (.ireturn, 1) := by decide +kernel
theorem dX9_undo_10 : decode cX9_undo 10 = .ok (.aload_n 0, 1) := by decide +kernel
theorem dX9_undo_11 : decode cX9_undo 11 = .ok (.aload_n 0, 1) := by decide +kernel
theorem dX9_undo_12 : decode cX9_undo 12 = .ok (.getfield 28, 3) := by decide +kernel
theorem dX9_undo_15 : decode cX9_undo 15 = .ok (.iconst 0, 1) := by decide +kernel
theorem dX9_undo_16 : decode cX9_undo 16 = .ok (.invokevirtual 31, 3) := by decide +kernel
theorem dX9_undo_19 : decode cX9_undo 19 = .ok (.aload_n 0, 1) := by decide +kernel
theorem dX9_undo_20 : decode cX9_undo 20 = .ok (.dup, 1) := by decide +kernel
theorem dX9_undo_21 : decode cX9_undo 21 = .ok (.getfield 28, 3) := by decide +kernel
theorem dX9_undo_24 : decode cX9_undo 24 = .ok (.iconst 1, 1) := by decide +kernel
theorem dX9_undo_25 : decode cX9_undo 25 = .ok (.isub, 1) := by decide +kernel
theorem dX9_undo_26 : decode cX9_undo 26 = .ok (.putfield 28, 3) := by decide +kernel
theorem dX9_undo_29 : decode cX9_undo 29 = .ok (.aload_n 0, 1) := by decide +kernel
theorem dX9_undo_30 : decode cX9_undo 30 = .ok (.getfield 28, 3) := by decide +kernel
theorem dX9_undo_33 : decode cX9_undo 33 = .ok (.ireturn, 1) := by decide +kernel
theorem dX9_keep_0 : decode cX9_keep 0 = .ok (.aload_n 0, 1) := by decide +kernel
theorem dX9_keep_1 : decode cX9_keep 1 = .ok (.iconst 0, 1) := by decide +kernel
theorem dX9_keep_2 : decode cX9_keep 2 = .ok (.iconst 5, 1) := by decide +kernel
theorem dX9_keep_3 : decode cX9_keep 3 = .ok (.invokevirtual 31, 3) := by decide +kernel
theorem dX9_keep_6 : decode cX9_keep 6 = .ok (.aload_n 0, 1) := by decide +kernel
theorem dX9_keep_7 : decode cX9_keep 7 = .ok (.iconst 1, 1) := by decide +kernel
theorem dX9_keep_8 : decode cX9_keep 8 = .ok (.putfield 140, 3) := by decide +kernel
theorem dX9_keep_11 : decode cX9_keep 11 = .ok (.aload_n 0, 1) := by decide +kernel
theorem dX9_keep_12 : decode cX9_keep 12 = .ok (.iconst 0, 1) := by decide +kernel
theorem dX9_keep_13 : decode cX9_keep 13 = .ok (.invokevirtual 70, 3) := by decide +kernel
theorem dX9_keep_16 : decode cX9_keep 16 = .ok (.ireturn, 1) := by decide +kernel
theorem dX9_restore_0 : decode cX9_restore 0 = .ok (.aload_n 0, 1) := by decide +kernel
theorem dX9_restore_1 : decode cX9_restore 1 = .ok (.getfield 140, 3) := by decide +kernel
theorem dX9_restore_4 : decode cX9_restore 4 = .ok (.ifCond .ne 6, 3) := by decide +kernel
theorem dX9_restore_7 : decode cX9_restore 7 = .ok (.bipush (-5), 2) := by decide +kernel
theorem dX9_restore_9 : decode cX9_restore 9 = .ok (.ireturn, 1) := by decide +kernel
theorem dX9_restore_10 : decode cX9_restore 10 = .ok (.aload_n 0, 1) := by decide +kernel
theorem dX9_restore_11 : decode cX9_restore 11 = .ok (.invokevirtual 84, 3) := by decide +kernel
theorem dX9_restore_14 : decode cX9_restore 14 = .ok (.aload_n 0, 1) := by decide +kernel
theorem dX9_restore_15 : decode cX9_restore 15 = .ok (.iconst 5, 1) := by decide +kernel
theorem dX9_restore_16 : decode cX9_restore 16 = .ok (.iconst 0, 1) := by decide +kernel
theorem dX9_restore_17 : decode cX9_restore 17 = .ok (.invokevirtual 31, 3) := by decide +kernel
theorem dX9_restore_20 : decode cX9_restore 20 = .ok (.aload_n 0, 1) := by decide +kernel
theorem dX9_restore_21 : decode cX9_restore 21 = .ok (.iconst 0, 1) := by decide +kernel
theorem dX9_restore_22 : decode cX9_restore 22 = .ok (.invokevirtual 70, 3) := by decide +kernel
theorem dX9_restore_25 : decode cX9_restore 25 = .ok (.ireturn, 1) := by decide +kernel
theorem dX9_awarded_0 : decode cX9_awarded 0 = .ok (.iconst 0, 1) := by decide +kernel
theorem dX9_awarded_1 : decode cX9_awarded 1 = .ok (.istore_n 2, 1) := by decide +kernel
theorem dX9_awarded_2 : decode cX9_awarded 2 = .ok (.iconst 0, 1) := by decide +kernel
theorem dX9_awarded_3 : decode cX9_awarded 3 = .ok (.istore_n 3, 1) := by decide +kernel
theorem dX9_awarded_4 : decode cX9_awarded 4 = .ok (.iload_n 3, 1) := by decide +kernel
theorem dX9_awarded_5 : decode cX9_awarded 5 = .ok (.bipush 48, 2) := by decide +kernel
theorem dX9_awarded_7 : decode cX9_awarded 7 = .ok (.if_icmp .ge 70, 3) := by decide +kernel
theorem dX9_awarded_10 : decode cX9_awarded 10 = .ok (.aload_n 0, 1) := by decide +kernel
theorem dX9_awarded_11 : decode cX9_awarded 11 = .ok (.getfield 7, 3) := by decide +kernel
theorem dX9_awarded_14 : decode cX9_awarded 14 = .ok (.bipush 51, 2) := by decide +kernel
theorem dX9_awarded_16 : decode cX9_awarded 16 = .ok (.iload_n 3, 1) := by decide +kernel
theorem dX9_awarded_17 : decode cX9_awarded 17 = .ok (.iadd, 1) := by decide +kernel
theorem dX9_awarded_18 : decode cX9_awarded 18 = .ok (.iaload, 1) := by decide +kernel
theorem dX9_awarded_19 : decode cX9_awarded 19 = .ok (.ifCond .lt 19, 3) := by decide +kernel
theorem dX9_awarded_22 : decode cX9_awarded 22 = .ok (.aload_n 0, 1) := by decide +kernel
theorem dX9_awarded_23 : decode cX9_awarded 23 = .ok (.iconst 0, 1) := by decide +kernel
theorem dX9_awarded_24 : decode cX9_awarded 24 = .ok (.iload_n 3, 1) := by decide +kernel
theorem dX9_awarded_25 : decode cX9_awarded 25 = .ok (.bipush 16, 2) := by decide +kernel
theorem dX9_awarded_27 : decode cX9_awarded 27 = .ok (.irem, 1) := by decide +kernel
theorem dX9_awarded_28 : decode cX9_awarded 28 = .ok (.invokevirtual 57, 3) := by decide +kernel
theorem dX9_awarded_31 : decode cX9_awarded 31 = .ok (.ifCond .ne 7, 3) := by decide +kernel
theorem dX9_awarded_34 : decode cX9_awarded 34 = .ok (.iconst 1, 1) := by decide +kernel
theorem dX9_awarded_35 : decode cX9_awarded 35 = .ok (.goto 4, 3) := by decide +kernel
theorem dX9_awarded_38 : decode cX9_awarded 38 = .ok (.iconst 0, 1) := by decide +kernel
theorem dX9_awarded_39 : decode cX9_awarded 39 = .ok (.istore 4, 2) := by decide +kernel
theorem dX9_awarded_41 : decode cX9_awarded 41 = .ok (.iload_n 2, 1) := by decide +kernel
theorem dX9_awarded_42 : decode cX9_awarded 42 = .ok (.iload 4, 2) := by decide +kernel
theorem dX9_awarded_44 : decode cX9_awarded 44 = .ok (.ifCond .eq 24, 3) := by decide +kernel
theorem dX9_awarded_47 : decode cX9_awarded 47 = .ok (.iload_n 1, 1) := by decide +kernel
theorem dX9_awarded_48 : decode cX9_awarded 48 = .ok (.ifCond .lt 16, 3) := by decide +kernel
theorem dX9_awarded_51 : decode cX9_awarded 51 = .ok (.aload_n 0, 1) := by decide +kernel
theorem dX9_awarded_52 : decode cX9_awarded 52 = .ok (.getfield 7, 3) := by decide +kernel
theorem dX9_awarded_55 : decode cX9_awarded 55 = .ok (.bipush 51, 2) := by decide +kernel
theorem dX9_awarded_57 : decode cX9_awarded 57 = .ok (.iload_n 3, 1) := by decide +kernel
theorem dX9_awarded_58 : decode cX9_awarded 58 = .ok (.iadd, 1) := by decide +kernel
theorem dX9_awarded_59 : decode cX9_awarded 59 = .ok (.iaload, 1) := by decide +kernel
theorem dX9_awarded_60 : decode cX9_awarded 60 = .ok (.iload_n 1, 1) := by decide +kernel
theorem dX9_awarded_61 : decode cX9_awarded 61 = .ok (.if_icmp .ne 7, 3) := by decide +kernel
theorem dX9_awarded_64 : decode cX9_awarded 64 = .ok (.iconst 1, 1) := by decide +kernel
theorem dX9_awarded_65 : decode cX9_awarded 65 = .ok (.goto 4, 3) := by decide +kernel
theorem dX9_awarded_68 : decode cX9_awarded 68 = .ok (.iconst 0, 1) := by decide +kernel
theorem dX9_awarded_69 : decode cX9_awarded 69 = .ok (.iadd, 1) := by decide +kernel
theorem dX9_awarded_70 : decode cX9_awarded 70 = .ok (.istore_n 2, 1) := by decide +kernel
theorem dX9_awarded_71 : decode cX9_awarded 71 = .ok (.iinc 3 1, 3) := by decide +kernel
theorem dX9_awarded_74 : decode cX9_awarded 74 = .ok (.goto (-70), 3) := by decide +kernel
theorem dX9_awarded_77 : decode cX9_awarded 77 = .ok (.iload_n 2, 1) := by decide +kernel
theorem dX9_awarded_78 : decode cX9_awarded 78 = .ok (.ireturn, 1) := by decide +kernel
theorem dX9_firm_0 : decode cX9_firm 0 = .ok (.iload_n 1, 1) := by decide +kernel
theorem dX9_firm_1 : decode cX9_firm 1 = .ok (.iconst 0, 1) := by decide +kernel
theorem dX9_firm_2 : decode cX9_firm 2 = .ok (.iconst 5, 1) := by decide +kernel
theorem dX9_firm_3 : decode cX9_firm 3 = .ok (.invokestatic 53, 3) := by decide +kernel
theorem dX9_firm_6 : decode cX9_firm 6 = .ok (.ifCond .ne 5, 3) := by decide +kernel
theorem dX9_firm_9 : decode cX9_firm 9 = .ok (.iconst (-1), 1) := by decide +kernel
theorem dX9_firm_10 : decode cX9_firm 10 = .ok (.ireturn, 1) := by decide +kernel
theorem dX9_firm_11 : decode cX9_firm 11 = .ok (.iload_n 2, 1) := by decide +kernel
theorem dX9_firm_12 : decode cX9_firm 12 = .ok (.tableswitch 103 0 6 #[44, 53, 60, 67, 73, 83, 93], 44) := by decide +kernel
theorem dX9_firm_56 : decode cX9_firm 56 = .ok (.aload_n 0, 1) := by decide +kernel
theorem dX9_firm_57 : decode cX9_firm 57 = .ok (.getfield 7, 3) := by decide +kernel
theorem dX9_firm_60 : decode cX9_firm 60 = .ok (.iconst 2, 1) := by decide +kernel
theorem dX9_firm_61 : decode cX9_firm 61 = .ok (.iload_n 1, 1) := by decide +kernel
theorem dX9_firm_62 : decode cX9_firm 62 = .ok (.iadd, 1) := by decide +kernel
theorem dX9_firm_63 : decode cX9_firm 63 = .ok (.iaload, 1) := by decide +kernel
theorem dX9_firm_64 : decode cX9_firm 64 = .ok (.ireturn, 1) := by decide +kernel
theorem dX9_firm_65 : decode cX9_firm 65 = .ok (.aload_n 0, 1) := by decide +kernel
theorem dX9_firm_66 : decode cX9_firm 66 = .ok (.iconst 0, 1) := by decide +kernel
theorem dX9_firm_67 : decode cX9_firm 67 = .ok (.iload_n 1, 1) := by decide +kernel
theorem dX9_firm_68 : decode cX9_firm 68 = .ok (.invokevirtual 67, 3) := by decide +kernel
theorem dX9_firm_71 : decode cX9_firm 71 = .ok (.ireturn, 1) := by decide +kernel
theorem dX9_firm_72 : decode cX9_firm 72 = .ok (.aload_n 0, 1) := by decide +kernel
theorem dX9_firm_73 : decode cX9_firm 73 = .ok (.iconst 0, 1) := by decide +kernel
theorem dX9_firm_74 : decode cX9_firm 74 = .ok (.iload_n 1, 1) := by decide +kernel
theorem dX9_firm_75 : decode cX9_firm 75 = .ok (.invokevirtual 143, 3) := by decide +kernel
theorem dX9_firm_78 : decode cX9_firm 78 = .ok (.ireturn, 1) := by decide +kernel
theorem dX9_firm_79 : decode cX9_firm 79 = .ok (.aload_n 0, 1) := by decide +kernel
theorem dX9_firm_80 : decode cX9_firm 80 = .ok (.iload_n 1, 1) := by decide +kernel
theorem dX9_firm_81 : decode cX9_firm 81 = .ok (.invokevirtual 146, 3) := by decide +kernel
theorem dX9_firm_84 : decode cX9_firm 84 = .ok (.ireturn, 1) := by decide +kernel
theorem dX9_firm_85 : decode cX9_firm 85 = .ok (.aload_n 0, 1) := by decide +kernel
theorem dX9_firm_86 : decode cX9_firm 86 = .ok (.getfield 7, 3) := by decide +kernel
theorem dX9_firm_89 : decode cX9_firm 89 = .ok (.bipush 8, 2) := by decide +kernel
theorem dX9_firm_91 : decode cX9_firm 91 = .ok (.iload_n 1, 1) := by decide +kernel
theorem dX9_firm_92 : decode cX9_firm 92 = .ok (.iadd, 1) := by decide +kernel
theorem dX9_firm_93 : decode cX9_firm 93 = .ok (.iaload, 1) := by decide +kernel
theorem dX9_firm_94 : decode cX9_firm 94 = .ok (.ireturn, 1) := by decide +kernel
theorem dX9_firm_95 : decode cX9_firm 95 = .ok (.aload_n 0, 1) := by decide +kernel
theorem dX9_firm_96 : decode cX9_firm 96 = .ok (.getfield 7, 3) := by decide +kernel
theorem dX9_firm_99 : decode cX9_firm 99 = .ok (.bipush 14, 2) := by decide +kernel
theorem dX9_firm_101 : decode cX9_firm 101 = .ok (.iload_n 1, 1) := by decide +kernel
theorem dX9_firm_102 : decode cX9_firm 102 = .ok (.iadd, 1) := by decide +kernel
theorem dX9_firm_103 : decode cX9_firm 103 = .ok (.iaload, 1) := by decide +kernel
theorem dX9_firm_104 : decode cX9_firm 104 = .ok (.ireturn, 1) := by decide +kernel
theorem dX9_firm_105 : decode cX9_firm 105 = .ok (.aload_n 0, 1) := by decide +kernel
theorem dX9_firm_106 : decode cX9_firm 106 = .ok (.getfield 7, 3) := by decide +kernel
theorem dX9_firm_109 : decode cX9_firm 109 = .ok (.bipush 20, 2) := by decide +kernel
theorem dX9_firm_111 : decode cX9_firm 111 = .ok (.iload_n 1, 1) := by decide +kernel
theorem dX9_firm_112 : decode cX9_firm 112 = .ok (.iadd, 1) := by decide +kernel
theorem dX9_firm_113 : decode cX9_firm 113 = .ok (.iaload, 1) := by decide +kernel
theorem dX9_firm_114 : decode cX9_firm 114 = .ok (.ireturn, 1) := by decide +kernel
theorem dX9_firm_115 : decode cX9_firm 115 = .ok (.bipush (-2), 2) := by decide +kernel
theorem dX9_firm_117 : decode cX9_firm 117 = .ok (.ireturn, 1) := by decide +kernel
theorem dX9_highest_0 : decode cX9_highest 0 = .ok (.iconst 0, 1) := by decide +kernel
theorem dX9_highest_1 : decode cX9_highest 1 = .ok (.istore_n 2, 1) := by decide +kernel
theorem dX9_highest_2 : decode cX9_highest 2 = .ok (.iconst 0, 1) := by decide +kernel
theorem dX9_highest_3 : decode cX9_highest 3 = .ok (.istore_n 3, 1) := by decide +kernel
theorem dX9_highest_4 : decode cX9_highest 4 = .ok (.iload_n 3, 1) := by decide +kernel
theorem dX9_highest_5 : decode cX9_highest 5 = .ok (.bipush 6, 2) := by decide +kernel
theorem dX9_highest_7 : decode cX9_highest 7 = .ok (.if_icmp .ge 48, 3) := by decide +kernel
theorem dX9_highest_10 : decode cX9_highest 10 = .ok (.aload_n 0, 1) := by decide +kernel
theorem dX9_highest_11 : decode cX9_highest 11 = .ok (.getfield 7, 3) := by decide +kernel
theorem dX9_highest_14 : decode cX9_highest 14 = .ok (.sipush 531, 3) := by decide +kernel
theorem dX9_highest_17 : decode cX9_highest 17 = .ok (.bipush 6, 2) := by decide +kernel
theorem dX9_highest_19 : decode cX9_highest 19 = .ok (.iload_n 1, 1) := by decide +kernel
theorem dX9_highest_20 : decode cX9_highest 20 = .ok (.imul, 1) := by decide +kernel
theorem dX9_highest_21 : decode cX9_highest 21 = .ok (.iadd, 1) := by decide +kernel
theorem dX9_highest_22 : decode cX9_highest 22 = .ok (.iload_n 3, 1) := by decide +kernel
theorem dX9_highest_23 : decode cX9_highest 23 = .ok (.iadd, 1) := by decide +kernel
theorem dX9_highest_24 : decode cX9_highest 24 = .ok (.iaload, 1) := by decide +kernel
theorem dX9_highest_25 : decode cX9_highest 25 = .ok (.iload_n 2, 1) := by decide +kernel
theorem dX9_highest_26 : decode cX9_highest 26 = .ok (.if_icmp .le 21, 3) := by decide +kernel
theorem dX9_highest_29 : decode cX9_highest 29 = .ok (.aload_n 0, 1) := by decide +kernel
theorem dX9_highest_30 : decode cX9_highest 30 = .ok (.getfield 7, 3) := by decide +kernel
theorem dX9_highest_33 : decode cX9_highest 33 = .ok (.sipush 531, 3) := by decide +kernel
theorem dX9_highest_36 : decode cX9_highest 36 = .ok (.bipush 6, 2) := by decide +kernel
theorem dX9_highest_38 : decode cX9_highest 38 = .ok (.iload_n 1, 1) := by decide +kernel
theorem dX9_highest_39 : decode cX9_highest 39 = .ok (.imul, 1) := by decide +kernel
theorem dX9_highest_40 : decode cX9_highest 40 = .ok (.iadd, 1) := by decide +kernel
theorem dX9_highest_41 : decode cX9_highest 41 = .ok (.iload_n 3, 1) := by decide +kernel
theorem dX9_highest_42 : decode cX9_highest 42 = .ok (.iadd, 1) := by decide +kernel
theorem dX9_highest_43 : decode cX9_highest 43 = .ok (.iaload, 1) := by decide +kernel
theorem dX9_highest_44 : decode cX9_highest 44 = .ok (.goto 4, 3) := by decide +kernel
theorem dX9_highest_47 : decode cX9_highest 47 = .ok (.iload_n 2, 1) := by decide +kernel
theorem dX9_highest_48 : decode cX9_highest 48 = .ok (.istore_n 2, 1) := by decide +kernel
theorem dX9_highest_49 : decode cX9_highest 49 = .ok (.iinc 3 1, 3) := by decide +kernel
theorem dX9_highest_52 : decode cX9_highest 52 = .ok (.goto (-48), 3) := by decide +kernel
theorem dX9_highest_55 : decode cX9_highest 55 = .ok (.iload_n 2, 1) := by decide +kernel
theorem dX9_highest_56 : decode cX9_highest 56 = .ok (.ireturn, 1) := by decide +kernel
theorem dX9_slot_0 : decode cX9_slot 0 = .ok (.iload_n 1, 1) := by decide +kernel
theorem dX9_slot_1 : decode cX9_slot 1 = .ok (.iload_n 2, 1) := by decide +kernel
theorem dX9_slot_2 : decode cX9_slot 2 = .ok (.invokestatic 96, 3) := by decide +kernel
theorem dX9_slot_5 : decode cX9_slot 5 = .ok (.ifCond .ne 5, 3) := by decide +kernel
theorem dX9_slot_8 : decode cX9_slot 8 = .ok (.iconst (-1), 1) := by decide +kernel
theorem dX9_slot_9 : decode cX9_slot 9 = .ok (.ireturn, 1) := by decide +kernel
theorem dX9_slot_10 : decode cX9_slot 10 = .ok (.iload_n 1, 1) := by decide +kernel
theorem dX9_slot_11 : decode cX9_slot 11 = .ok (.iload_n 2, 1) := by decide +kernel
theorem dX9_slot_12 : decode cX9_slot 12 = .ok (.invokestatic 64, 3) := by decide +kernel
theorem dX9_slot_15 : decode cX9_slot 15 = .ok (.istore 4, 2) := by decide +kernel
theorem dX9_slot_17 : decode cX9_slot 17 = .ok (.iload_n 3, 1) := by decide +kernel
theorem dX9_slot_18 : decode cX9_slot 18 = .ok (.tableswitch 155 0 6 #[42, 71, 82, 94, 102, 109, 124], 42) := by decide +kernel
theorem dX9_slot_60 : decode cX9_slot 60 = .ok (.aload_n 0, 1) := by decide +kernel
theorem dX9_slot_61 : decode cX9_slot 61 = .ok (.getfield 7, 3) := by decide +kernel
theorem dX9_slot_64 : decode cX9_slot 64 = .ok (.bipush 51, 2) := by decide +kernel
theorem dX9_slot_66 : decode cX9_slot 66 = .ok (.iload 4, 2) := by decide +kernel
theorem dX9_slot_68 : decode cX9_slot 68 = .ok (.iadd, 1) := by decide +kernel
theorem dX9_slot_69 : decode cX9_slot 69 = .ok (.iaload, 1) := by decide +kernel
theorem dX9_slot_70 : decode cX9_slot 70 = .ok (.ifCond .ge 8, 3) := by decide +kernel
theorem dX9_slot_73 : decode cX9_slot 73 = .ok (.bipush (-5), 2) := by decide +kernel
theorem dX9_slot_75 : decode cX9_slot 75 = .ok (.goto 13, 3) := by decide +kernel
theorem dX9_slot_78 : decode cX9_slot 78 = .ok (.aload_n 0, 1) := by decide +kernel
theorem dX9_slot_79 : decode cX9_slot 79 = .ok (.getfield 7, 3) := by decide +kernel
theorem dX9_slot_82 : decode cX9_slot 82 = .ok (.bipush 51, 2) := by decide +kernel
theorem dX9_slot_84 : decode cX9_slot 84 = .ok (.iload 4, 2) := by decide +kernel
theorem dX9_slot_86 : decode cX9_slot 86 = .ok (.iadd, 1) := by decide +kernel
theorem dX9_slot_87 : decode cX9_slot 87 = .ok (.iaload, 1) := by decide +kernel
theorem dX9_slot_88 : decode cX9_slot 88 = .ok (.ireturn, 1) := by decide +kernel
theorem dX9_slot_89 : decode cX9_slot 89 = .ok (.aload_n 0, 1) := by decide +kernel
theorem dX9_slot_90 : decode cX9_slot 90 = .ok (.getfield 7, 3) := by decide +kernel
theorem dX9_slot_93 : decode cX9_slot 93 = .ok (.bipush 99, 2) := by decide +kernel
theorem dX9_slot_95 : decode cX9_slot 95 = .ok (.iload 4, 2) := by decide +kernel
theorem dX9_slot_97 : decode cX9_slot 97 = .ok (.iadd, 1) := by decide +kernel
theorem dX9_slot_98 : decode cX9_slot 98 = .ok (.iaload, 1) := by decide +kernel
theorem dX9_slot_99 : decode cX9_slot 99 = .ok (.ireturn, 1) := by decide +kernel
theorem dX9_slot_100 : decode cX9_slot 100 = .ok (.aload_n 0, 1) := by decide +kernel
theorem dX9_slot_101 : decode cX9_slot 101 = .ok (.getfield 7, 3) := by decide +kernel
theorem dX9_slot_104 : decode cX9_slot 104 = .ok (.sipush 147, 3) := by decide +kernel
theorem dX9_slot_107 : decode cX9_slot 107 = .ok (.iload 4, 2) := by decide +kernel
theorem dX9_slot_109 : decode cX9_slot 109 = .ok (.iadd, 1) := by decide +kernel
theorem dX9_slot_110 : decode cX9_slot 110 = .ok (.iaload, 1) := by decide +kernel
theorem dX9_slot_111 : decode cX9_slot 111 = .ok (.ireturn, 1) := by decide +kernel
theorem dX9_slot_112 : decode cX9_slot 112 = .ok (.aload_n 0, 1) := by decide +kernel
theorem dX9_slot_113 : decode cX9_slot 113 = .ok (.iconst 0, 1) := by decide +kernel
theorem dX9_slot_114 : decode cX9_slot 114 = .ok (.iload 4, 2) := by decide +kernel
theorem dX9_slot_116 : decode cX9_slot 116 = .ok (.invokevirtual 38, 3) := by decide +kernel
theorem dX9_slot_119 : decode cX9_slot 119 = .ok (.ireturn, 1) := by decide +kernel
theorem dX9_slot_120 : decode cX9_slot 120 = .ok (.aload_n 0, 1) := by decide +kernel
theorem dX9_slot_121 : decode cX9_slot 121 = .ok (.iload 4, 2) := by decide +kernel
theorem dX9_slot_123 : decode cX9_slot 123 = .ok (.invokevirtual 149, 3) := by decide +kernel
theorem dX9_slot_126 : decode cX9_slot 126 = .ok (.ireturn, 1) := by decide +kernel
theorem dX9_slot_127 : decode cX9_slot 127 = .ok (.aload_n 0, 1) := by decide +kernel
theorem dX9_slot_128 : decode cX9_slot 128 = .ok (.iconst 0, 1) := by decide +kernel
theorem dX9_slot_129 : decode cX9_slot 129 = .ok (.iload_n 2, 1) := by decide +kernel
theorem dX9_slot_130 : decode cX9_slot 130 = .ok (.invokevirtual 57, 3) := by decide +kernel
theorem dX9_slot_133 : decode cX9_slot 133 = .ok (.ifCond .eq 7, 3) := by decide +kernel
theorem dX9_slot_136 : decode cX9_slot 136 = .ok (.iconst 1, 1) := by decide +kernel
theorem dX9_slot_137 : decode cX9_slot 137 = .ok (.goto 4, 3) := by decide +kernel
theorem dX9_slot_140 : decode cX9_slot 140 = .ok (.iconst 0, 1) := by decide +kernel
theorem dX9_slot_141 : decode cX9_slot 141 = .ok (.ireturn, 1) := by decide +kernel
theorem dX9_slot_142 : decode cX9_slot 142 = .ok (.aload_n 0, 1) := by decide +kernel
theorem dX9_slot_143 : decode cX9_slot 143 = .ok (.getfield 7, 3) := by decide +kernel
theorem dX9_slot_146 : decode cX9_slot 146 = .ok (.sipush 195, 3) := by decide +kernel
theorem dX9_slot_149 : decode cX9_slot 149 = .ok (.iload 4, 2) := by decide +kernel
theorem dX9_slot_151 : decode cX9_slot 151 = .ok (.iadd, 1) := by decide +kernel
theorem dX9_slot_152 : decode cX9_slot 152 = .ok (.iaload, 1) := by decide +kernel
theorem dX9_slot_153 : decode cX9_slot 153 = .ok (.ifCond .ge 8, 3) := by decide +kernel
theorem dX9_slot_156 : decode cX9_slot 156 = .ok (.bipush (-5), 2) := by decide +kernel
theorem dX9_slot_158 : decode cX9_slot 158 = .ok (.goto 14, 3) := by decide +kernel
theorem dX9_slot_161 : decode cX9_slot 161 = .ok (.aload_n 0, 1) := by decide +kernel
theorem dX9_slot_162 : decode cX9_slot 162 = .ok (.getfield 7, 3) := by decide +kernel
theorem dX9_slot_165 : decode cX9_slot 165 = .ok (.sipush 195, 3) := by decide +kernel
theorem dX9_slot_168 : decode cX9_slot 168 = .ok (.iload 4, 2) := by decide +kernel
theorem dX9_slot_170 : decode cX9_slot 170 = .ok (.iadd, 1) := by decide +kernel
theorem dX9_slot_171 : decode cX9_slot 171 = .ok (.iaload, 1) := by decide +kernel
theorem dX9_slot_172 : decode cX9_slot 172 = .ok (.ireturn, 1) := by decide +kernel
theorem dX9_slot_173 : decode cX9_slot 173 = .ok (.bipush (-2), 2) := by decide +kernel
theorem dX9_slot_175 : decode cX9_slot 175 = .ok (.ireturn, 1) := by decide +kernel
theorem dX9_wouldCost_0 : decode cX9_wouldCost 0 = .ok (.aload_n 0, 1) := by decide +kernel
theorem dX9_wouldCost_1 : decode cX9_wouldCost 1 = .ok (.iconst 0, 1) := by decide +kernel
theorem dX9_wouldCost_2 : decode cX9_wouldCost 2 = .ok (.bipush 6, 2) := by decide +kernel
theorem dX9_wouldCost_4 : decode cX9_wouldCost 4 = .ok (.invokevirtual 31, 3) := by decide +kernel
theorem dX9_wouldCost_7 : decode cX9_wouldCost 7 = .ok (.aload_n 0, 1) := by decide +kernel
theorem dX9_wouldCost_8 : decode cX9_wouldCost 8 = .ok (.bipush 6, 2) := by decide +kernel
theorem dX9_wouldCost_10 : decode cX9_wouldCost 10 = .ok (.iload_n 1, 1) := by decide +kernel
theorem dX9_wouldCost_11 : decode cX9_wouldCost 11 = .ok (.iload_n 2, 1) := by decide +kernel
theorem dX9_wouldCost_12 : decode cX9_wouldCost 12 = .ok (.iload_n 3, 1) := by decide +kernel
theorem dX9_wouldCost_13 : decode cX9_wouldCost 13 = .ok (.iload 4, 2) := by decide +kernel
theorem dX9_wouldCost_15 : decode cX9_wouldCost 15 = .ok (.iload 5, 2) := by decide +kernel
theorem dX9_wouldCost_17 : decode cX9_wouldCost 17 = .ok (.invokevirtual 93, 3) := by decide +kernel
theorem dX9_wouldCost_20 : decode cX9_wouldCost 20 = .ok (.istore 6, 2) := by decide +kernel
theorem dX9_wouldCost_22 : decode cX9_wouldCost 22 = .ok (.iload 6, 2) := by decide +kernel
theorem dX9_wouldCost_24 : decode cX9_wouldCost 24 = .ok (.ifCond .ge 6, 3) := by decide +kernel
theorem dX9_wouldCost_27 : decode cX9_wouldCost 27 = .ok (.iload 6, 2) := by decide +kernel
theorem dX9_wouldCost_29 : decode cX9_wouldCost 29 = .ok (.ireturn, 1) := by decide +kernel
theorem dX9_wouldCost_30 : decode cX9_wouldCost 30 = .ok (.sipush 5010, 3) := by decide +kernel
theorem dX9_wouldCost_33 : decode cX9_wouldCost 33 = .ok (.istore 7, 2) := by decide +kernel
theorem dX9_wouldCost_35 : decode cX9_wouldCost 35 = .ok (.iload_n 2, 1) := by decide +kernel
theorem dX9_wouldCost_36 : decode cX9_wouldCost 36 = .ok (.iload_n 3, 1) := by decide +kernel
theorem dX9_wouldCost_37 : decode cX9_wouldCost 37 = .ok (.invokestatic 64, 3) := by decide +kernel
theorem dX9_wouldCost_40 : decode cX9_wouldCost 40 = .ok (.istore 8, 2) := by decide +kernel
theorem dX9_wouldCost_42 : decode cX9_wouldCost 42 = .ok (.aload_n 0, 1) := by decide +kernel
theorem dX9_wouldCost_43 : decode cX9_wouldCost 43 = .ok (.iload 7, 2) := by decide +kernel
theorem dX9_wouldCost_45 : decode cX9_wouldCost 45 = .ok (.iload 8, 2) := by decide +kernel
theorem dX9_wouldCost_47 : decode cX9_wouldCost 47 = .ok (.invokevirtual 77, 3) := by decide +kernel
theorem dX9_wouldCost_50 : decode cX9_wouldCost 50 = .ok (.iload_n 1, 1) := by decide +kernel
theorem dX9_wouldCost_51 : decode cX9_wouldCost 51 = .ok (.if_icmp .ne 20, 3) := by decide +kernel
theorem dX9_wouldCost_54 : decode cX9_wouldCost 54 = .ok (.aload_n 0, 1) := by decide +kernel
theorem dX9_wouldCost_55 : decode cX9_wouldCost 55 = .ok (.getfield 7, 3) := by decide +kernel
theorem dX9_wouldCost_58 : decode cX9_wouldCost 58 = .ok (.iload 7, 2) := by decide +kernel
theorem dX9_wouldCost_60 : decode cX9_wouldCost 60 = .ok (.sipush 147, 3) := by decide +kernel
theorem dX9_wouldCost_63 : decode cX9_wouldCost 63 = .ok (.iadd, 1) := by decide +kernel
theorem dX9_wouldCost_64 : decode cX9_wouldCost 64 = .ok (.iload 8, 2) := by decide +kernel
theorem dX9_wouldCost_66 : decode cX9_wouldCost 66 = .ok (.iadd, 1) := by decide +kernel
theorem dX9_wouldCost_67 : decode cX9_wouldCost 67 = .ok (.iaload, 1) := by decide +kernel
theorem dX9_wouldCost_68 : decode cX9_wouldCost 68 = .ok (.goto 5, 3) := by decide +kernel
theorem dX9_wouldCost_71 : decode cX9_wouldCost 71 = .ok (.bipush (-5), 2) := by decide +kernel
theorem dX9_wouldCost_73 : decode cX9_wouldCost 73 = .ok (.ireturn, 1) := by decide +kernel
theorem dX9_heaviest_0 : decode cX9_heaviest 0 = .ok (.iload_n 1, 1) := by decide +kernel
theorem dX9_heaviest_1 : decode cX9_heaviest 1 = .ok (.iload_n 2, 1) := by decide +kernel
theorem dX9_heaviest_2 : decode cX9_heaviest 2 = .ok (.invokestatic 96, 3) := by decide +kernel
theorem dX9_heaviest_5 : decode cX9_heaviest 5 = .ok (.ifCond .ne 5, 3) := by decide +kernel
theorem dX9_heaviest_8 : decode cX9_heaviest 8 = .ok (.iconst (-1), 1) := by decide +kernel
theorem dX9_heaviest_9 : decode cX9_heaviest 9 = .ok (.ireturn, 1) := by decide +kernel
theorem dX9_heaviest_10 : decode cX9_heaviest 10 = .ok (.bipush 70, 2) := by decide +kernel
theorem dX9_heaviest_12 : decode cX9_heaviest 12 = .ok (.aload_n 0, 1) := by decide +kernel
theorem dX9_heaviest_13 : decode cX9_heaviest 13 = .ok (.getfield 7, 3) := by decide +kernel
theorem dX9_heaviest_16 : decode cX9_heaviest 16 = .ok (.bipush 35, 2) := by decide +kernel
theorem dX9_heaviest_18 : decode cX9_heaviest 18 = .ok (.iload_n 2, 1) := by decide +kernel
theorem dX9_heaviest_19 : decode cX9_heaviest 19 = .ok (.iadd, 1) := by decide +kernel
theorem dX9_heaviest_20 : decode cX9_heaviest 20 = .ok (.iaload, 1) := by decide +kernel
theorem dX9_heaviest_21 : decode cX9_heaviest 21 = .ok (.isub, 1) := by decide +kernel
theorem dX9_heaviest_22 : decode cX9_heaviest 22 = .ok (.istore_n 3, 1) := by decide +kernel
theorem dX9_heaviest_23 : decode cX9_heaviest 23 = .ok (.iload_n 3, 1) := by decide +kernel
theorem dX9_heaviest_24 : decode cX9_heaviest 24 = .ok (.ifCond .ge 7, 3) := by decide +kernel
theorem dX9_heaviest_27 : decode cX9_heaviest 27 = .ok (.iconst 0, 1) := by decide +kernel
theorem dX9_heaviest_28 : decode cX9_heaviest 28 = .ok (.goto 4, 3) := by decide +kernel
theorem dX9_heaviest_31 : decode cX9_heaviest 31 = .ok (.iload_n 3, 1) := by decide +kernel
theorem dX9_heaviest_32 : decode cX9_heaviest 32 = .ok (.istore_n 3, 1) := by decide +kernel
theorem dX9_heaviest_33 : decode cX9_heaviest 33 = .ok (.iload_n 3, 1) := by decide +kernel
theorem dX9_heaviest_34 : decode cX9_heaviest 34 = .ok (.iload_n 1, 1) := by decide +kernel
theorem dX9_heaviest_35 : decode cX9_heaviest 35 = .ok (.invokestatic 60, 3) := by decide +kernel
theorem dX9_heaviest_38 : decode cX9_heaviest 38 = .ok (.if_icmp .ge 7, 3) := by decide +kernel
theorem dX9_heaviest_41 : decode cX9_heaviest 41 = .ok (.iload_n 3, 1) := by decide +kernel
theorem dX9_heaviest_42 : decode cX9_heaviest 42 = .ok (.goto 7, 3) := by decide +kernel
theorem dX9_heaviest_45 : decode cX9_heaviest 45 = .ok (.iload_n 1, 1) := by decide +kernel
theorem dX9_heaviest_46 : decode cX9_heaviest 46 = .ok (.invokestatic 60, 3) := by decide +kernel
theorem dX9_heaviest_49 : decode cX9_heaviest 49 = .ok (.ireturn, 1) := by decide +kernel
theorem dX9_wind_0 : decode cX9_wind 0 = .ok (.iload_n 1, 1) := by decide +kernel
theorem dX9_wind_1 : decode cX9_wind 1 = .ok (.iconst 0, 1) := by decide +kernel
theorem dX9_wind_2 : decode cX9_wind 2 = .ok (.bipush 15, 2) := by decide +kernel
theorem dX9_wind_4 : decode cX9_wind 4 = .ok (.invokestatic 53, 3) := by decide +kernel
theorem dX9_wind_7 : decode cX9_wind 7 = .ok (.ifCond .ne 7, 3) := by decide +kernel
theorem dX9_wind_10 : decode cX9_wind 10 = .ok (.iconst (-1), 1) := by decide +kernel
theorem dX9_wind_11 : decode cX9_wind 11 = .ok (.goto 34, 3) := by decide +kernel
theorem dX9_wind_14 : decode cX9_wind 14 = .ok (.aload_n 0, 1) := by decide +kernel
theorem dX9_wind_15 : decode cX9_wind 15 = .ok (.iconst 0, 1) := by decide +kernel
theorem dX9_wind_16 : decode cX9_wind 16 = .ok (.iload_n 1, 1) := by decide +kernel
theorem dX9_wind_17 : decode cX9_wind 17 = .ok (.invokevirtual 57, 3) := by decide +kernel
theorem dX9_wind_20 : decode cX9_wind 20 = .ok (.ifCond .eq 16, 3) := by decide +kernel
theorem dX9_wind_23 : decode cX9_wind 23 = .ok (.aload_n 0, 1) := by decide +kernel
theorem dX9_wind_24 : decode cX9_wind 24 = .ok (.getfield 7, 3) := by decide +kernel
theorem dX9_wind_27 : decode cX9_wind 27 = .ok (.sipush 819, 3) := by decide +kernel
theorem dX9_wind_30 : decode cX9_wind 30 = .ok (.iload_n 1, 1) := by decide +kernel
theorem dX9_wind_31 : decode cX9_wind 31 = .ok (.iadd, 1) := by decide +kernel
theorem dX9_wind_32 : decode cX9_wind 32 = .ok (.iaload, 1) := by decide +kernel
theorem dX9_wind_33 : decode cX9_wind 33 = .ok (.goto 12, 3) := by decide +kernel
theorem dX9_wind_36 : decode cX9_wind 36 = .ok (.aload_n 0, 1) := by decide +kernel
theorem dX9_wind_37 : decode cX9_wind 37 = .ok (.getfield 7, 3) := by decide +kernel
theorem dX9_wind_40 : decode cX9_wind 40 = .ok (.bipush 35, 2) := by decide +kernel
theorem dX9_wind_42 : decode cX9_wind 42 = .ok (.iload_n 1, 1) := by decide +kernel
theorem dX9_wind_43 : decode cX9_wind 43 = .ok (.iadd, 1) := by decide +kernel
theorem dX9_wind_44 : decode cX9_wind 44 = .ok (.iaload, 1) := by decide +kernel
theorem dX9_wind_45 : decode cX9_wind 45 = .ok (.ireturn, 1) := by decide +kernel
theorem dX9_cheapest_0 : decode cX9_cheapest 0 = .ok (.iload_n 1, 1) := by decide +kernel
theorem dX9_cheapest_1 : decode cX9_cheapest 1 = .ok (.iconst 0, 1) := by decide +kernel
theorem dX9_cheapest_2 : decode cX9_cheapest 2 = .ok (.iconst 2, 1) := by decide +kernel
theorem dX9_cheapest_3 : decode cX9_cheapest 3 = .ok (.invokestatic 53, 3) := by decide +kernel
theorem dX9_cheapest_6 : decode cX9_cheapest 6 = .ok (.ifCond .ne 5, 3) := by decide +kernel
theorem dX9_cheapest_9 : decode cX9_cheapest 9 = .ok (.iconst (-1), 1) := by decide +kernel
theorem dX9_cheapest_10 : decode cX9_cheapest 10 = .ok (.ireturn, 1) := by decide +kernel
theorem dX9_cheapest_11 : decode cX9_cheapest 11 = .ok (.iload_n 2, 1) := by decide +kernel
theorem dX9_cheapest_12 : decode cX9_cheapest 12 = .ok (.iconst 1, 1) := by decide +kernel
theorem dX9_cheapest_13 : decode cX9_cheapest 13 = .ok (.iload_n 1, 1) := by decide +kernel
theorem dX9_cheapest_14 : decode cX9_cheapest 14 = .ok (.invokestatic 60, 3) := by decide +kernel
theorem dX9_cheapest_17 : decode cX9_cheapest 17 = .ok (.invokestatic 53, 3) := by decide +kernel
theorem dX9_cheapest_20 : decode cX9_cheapest 20 = .ok (.ifCond .ne 6, 3) := by decide +kernel
theorem dX9_cheapest_23 : decode cX9_cheapest 23 = .ok (.bipush (-2), 2) := by decide +kernel
theorem dX9_cheapest_25 : decode cX9_cheapest 25 = .ok (.ireturn, 1) := by decide +kernel
theorem dX9_cheapest_26 : decode cX9_cheapest 26 = .ok (.bipush (-5), 2) := by decide +kernel
theorem dX9_cheapest_28 : decode cX9_cheapest 28 = .ok (.istore_n 3, 1) := by decide +kernel
theorem dX9_cheapest_29 : decode cX9_cheapest 29 = .ok (.aload_n 0, 1) := by decide +kernel
theorem dX9_cheapest_30 : decode cX9_cheapest 30 = .ok (.getfield 7, 3) := by decide +kernel
theorem dX9_cheapest_33 : decode cX9_cheapest 33 = .ok (.iconst 1, 1) := by decide +kernel
theorem dX9_cheapest_34 : decode cX9_cheapest 34 = .ok (.iaload, 1) := by decide +kernel
theorem dX9_cheapest_35 : decode cX9_cheapest 35 = .ok (.istore 4, 2) := by decide +kernel
theorem dX9_cheapest_37 : decode cX9_cheapest 37 = .ok (.iload 4, 2) := by decide +kernel
theorem dX9_cheapest_39 : decode cX9_cheapest 39 = .ok (.bipush 16, 2) := by decide +kernel
theorem dX9_cheapest_41 : decode cX9_cheapest 41 = .ok (.if_icmp .ge 72, 3) := by decide +kernel
theorem dX9_cheapest_44 : decode cX9_cheapest 44 = .ok (.iload_n 1, 1) := by decide +kernel
theorem dX9_cheapest_45 : decode cX9_cheapest 45 = .ok (.iload 4, 2) := by decide +kernel
theorem dX9_cheapest_47 : decode cX9_cheapest 47 = .ok (.invokestatic 64, 3) := by decide +kernel
theorem dX9_cheapest_50 : decode cX9_cheapest 50 = .ok (.istore 5, 2) := by decide +kernel
theorem dX9_cheapest_52 : decode cX9_cheapest 52 = .ok (.aload_n 0, 1) := by decide +kernel
theorem dX9_cheapest_53 : decode cX9_cheapest 53 = .ok (.getfield 7, 3) := by decide +kernel
theorem dX9_cheapest_56 : decode cX9_cheapest 56 = .ok (.bipush 51, 2) := by decide +kernel
theorem dX9_cheapest_58 : decode cX9_cheapest 58 = .ok (.iload 5, 2) := by decide +kernel
theorem dX9_cheapest_60 : decode cX9_cheapest 60 = .ok (.iadd, 1) := by decide +kernel
theorem dX9_cheapest_61 : decode cX9_cheapest 61 = .ok (.iaload, 1) := by decide +kernel
theorem dX9_cheapest_62 : decode cX9_cheapest 62 = .ok (.ifCond .ge 45, 3) := by decide +kernel
theorem dX9_cheapest_65 : decode cX9_cheapest 65 = .ok (.iload_n 2, 1) := by decide +kernel
theorem dX9_cheapest_66 : decode cX9_cheapest 66 = .ok (.aload_n 0, 1) := by decide +kernel
theorem dX9_cheapest_67 : decode cX9_cheapest 67 = .ok (.getfield 7, 3) := by decide +kernel
theorem dX9_cheapest_70 : decode cX9_cheapest 70 = .ok (.bipush 35, 2) := by decide +kernel
theorem dX9_cheapest_72 : decode cX9_cheapest 72 = .ok (.iload 4, 2) := by decide +kernel
theorem dX9_cheapest_74 : decode cX9_cheapest 74 = .ok (.iadd, 1) := by decide +kernel
theorem dX9_cheapest_75 : decode cX9_cheapest 75 = .ok (.iaload, 1) := by decide +kernel
theorem dX9_cheapest_76 : decode cX9_cheapest 76 = .ok (.invokestatic 42, 3) := by decide +kernel
theorem dX9_cheapest_79 : decode cX9_cheapest 79 = .ok (.ifCond .eq 28, 3) := by decide +kernel
theorem dX9_cheapest_82 : decode cX9_cheapest 82 = .ok (.iload_n 3, 1) := by decide +kernel
theorem dX9_cheapest_83 : decode cX9_cheapest 83 = .ok (.ifCond .lt 21, 3) := by decide +kernel
theorem dX9_cheapest_86 : decode cX9_cheapest 86 = .ok (.aload_n 0, 1) := by decide +kernel
theorem dX9_cheapest_87 : decode cX9_cheapest 87 = .ok (.iload 5, 2) := by decide +kernel
theorem dX9_cheapest_89 : decode cX9_cheapest 89 = .ok (.invokevirtual 149, 3) := by decide +kernel
theorem dX9_cheapest_92 : decode cX9_cheapest 92 = .ok (.aload_n 0, 1) := by decide +kernel
theorem dX9_cheapest_93 : decode cX9_cheapest 93 = .ok (.iload_n 1, 1) := by decide +kernel
theorem dX9_cheapest_94 : decode cX9_cheapest 94 = .ok (.iload_n 3, 1) := by decide +kernel
theorem dX9_cheapest_95 : decode cX9_cheapest 95 = .ok (.invokestatic 64, 3) := by decide +kernel
theorem dX9_cheapest_98 : decode cX9_cheapest 98 = .ok (.invokevirtual 149, 3) := by decide +kernel
theorem dX9_cheapest_101 : decode cX9_cheapest 101 = .ok (.if_icmp .ge 6, 3) := by decide +kernel
theorem dX9_cheapest_104 : decode cX9_cheapest 104 = .ok (.iload 4, 2) := by decide +kernel
theorem dX9_cheapest_106 : decode cX9_cheapest 106 = .ok (.istore_n 3, 1) := by decide +kernel
theorem dX9_cheapest_107 : decode cX9_cheapest 107 = .ok (.iinc 4 1, 3) := by decide +kernel
theorem dX9_cheapest_110 : decode cX9_cheapest 110 = .ok (.goto (-73), 3) := by decide +kernel
theorem dX9_cheapest_113 : decode cX9_cheapest 113 = .ok (.iload_n 3, 1) := by decide +kernel
theorem dX9_cheapest_114 : decode cX9_cheapest 114 = .ok (.ireturn, 1) := by decide +kernel
theorem dX9_count_0 : decode cX9_count 0 = .ok (.iconst 0, 1) := by decide +kernel
theorem dX9_count_1 : decode cX9_count 1 = .ok (.istore_n 2, 1) := by decide +kernel
theorem dX9_count_2 : decode cX9_count 2 = .ok (.iload_n 1, 1) := by decide +kernel
theorem dX9_count_3 : decode cX9_count 3 = .ok (.tableswitch 158 0 15 #[77, 77, 84, 90, 96, 96, 96, 96, 96, 96, 108, 135, 135, 135, 148, 153], 77) := by decide +kernel
theorem dX9_count_80 : decode cX9_count 80 = .ok (.aload_n 0, 1) := by decide +kernel
theorem dX9_count_81 : decode cX9_count 81 = .ok (.getfield 7, 3) := by decide +kernel
theorem dX9_count_84 : decode cX9_count 84 = .ok (.iload_n 1, 1) := by decide +kernel
theorem dX9_count_85 : decode cX9_count 85 = .ok (.iaload, 1) := by decide +kernel
theorem dX9_count_86 : decode cX9_count 86 = .ok (.ireturn, 1) := by decide +kernel
theorem dX9_count_87 : decode cX9_count 87 = .ok (.aload_n 0, 1) := by decide +kernel
theorem dX9_count_88 : decode cX9_count 88 = .ok (.iconst 0, 1) := by decide +kernel
theorem dX9_count_89 : decode cX9_count 89 = .ok (.invokevirtual 70, 3) := by decide +kernel
theorem dX9_count_92 : decode cX9_count 92 = .ok (.ireturn, 1) := by decide +kernel
theorem dX9_count_93 : decode cX9_count 93 = .ok (.aload_n 0, 1) := by decide +kernel
theorem dX9_count_94 : decode cX9_count 94 = .ok (.iconst (-1), 1) := by decide +kernel
theorem dX9_count_95 : decode cX9_count 95 = .ok (.invokevirtual 146, 3) := by decide +kernel
theorem dX9_count_98 : decode cX9_count 98 = .ok (.ireturn, 1) := by decide +kernel
theorem dX9_count_99 : decode cX9_count 99 = .ok (.aload_n 0, 1) := by decide +kernel
theorem dX9_count_100 : decode cX9_count 100 = .ok (.getfield 7, 3) := by decide +kernel
theorem dX9_count_103 : decode cX9_count 103 = .ok (.bipush 26, 2) := by decide +kernel
theorem dX9_count_105 : decode cX9_count 105 = .ok (.iload_n 1, 1) := by decide +kernel
theorem dX9_count_106 : decode cX9_count 106 = .ok (.iadd, 1) := by decide +kernel
theorem dX9_count_107 : decode cX9_count 107 = .ok (.iconst 4, 1) := by decide +kernel
theorem dX9_count_108 : decode cX9_count 108 = .ok (.isub, 1) := by decide +kernel
theorem dX9_count_109 : decode cX9_count 109 = .ok (.iaload, 1) := by decide +kernel
theorem dX9_count_110 : decode cX9_count 110 = .ok (.ireturn, 1) := by decide +kernel
theorem dX9_count_111 : decode cX9_count 111 = .ok (.iconst 0, 1) := by decide +kernel
theorem dX9_count_112 : decode cX9_count 112 = .ok (.istore_n 3, 1) := by decide +kernel
theorem dX9_count_113 : decode cX9_count 113 = .ok (.iload_n 3, 1) := by decide +kernel
theorem dX9_count_114 : decode cX9_count 114 = .ok (.bipush 6, 2) := by decide +kernel
theorem dX9_count_116 : decode cX9_count 116 = .ok (.if_icmp .ge 20, 3) := by decide +kernel
theorem dX9_count_119 : decode cX9_count 119 = .ok (.iload_n 2, 1) := by decide +kernel
theorem dX9_count_120 : decode cX9_count 120 = .ok (.aload_n 0, 1) := by decide +kernel
theorem dX9_count_121 : decode cX9_count 121 = .ok (.getfield 7, 3) := by decide +kernel
theorem dX9_count_124 : decode cX9_count 124 = .ok (.iconst 2, 1) := by decide +kernel
theorem dX9_count_125 : decode cX9_count 125 = .ok (.iload_n 3, 1) := by decide +kernel
theorem dX9_count_126 : decode cX9_count 126 = .ok (.iadd, 1) := by decide +kernel
theorem dX9_count_127 : decode cX9_count 127 = .ok (.iaload, 1) := by decide +kernel
theorem dX9_count_128 : decode cX9_count 128 = .ok (.iadd, 1) := by decide +kernel
theorem dX9_count_129 : decode cX9_count 129 = .ok (.istore_n 2, 1) := by decide +kernel
theorem dX9_count_130 : decode cX9_count 130 = .ok (.iinc 3 1, 3) := by decide +kernel
theorem dX9_count_133 : decode cX9_count 133 = .ok (.goto (-20), 3) := by decide +kernel
theorem dX9_count_136 : decode cX9_count 136 = .ok (.iload_n 2, 1) := by decide +kernel
theorem dX9_count_137 : decode cX9_count 137 = .ok (.ireturn, 1) := by decide +kernel
theorem dX9_count_138 : decode cX9_count 138 = .ok (.aload_n 0, 1) := by decide +kernel
theorem dX9_count_139 : decode cX9_count 139 = .ok (.getfield 7, 3) := by decide +kernel
theorem dX9_count_142 : decode cX9_count 142 = .ok (.bipush 32, 2) := by decide +kernel
theorem dX9_count_144 : decode cX9_count 144 = .ok (.iload_n 1, 1) := by decide +kernel
theorem dX9_count_145 : decode cX9_count 145 = .ok (.iadd, 1) := by decide +kernel
theorem dX9_count_146 : decode cX9_count 146 = .ok (.bipush 11, 2) := by decide +kernel
theorem dX9_count_148 : decode cX9_count 148 = .ok (.isub, 1) := by decide +kernel
theorem dX9_count_149 : decode cX9_count 149 = .ok (.iaload, 1) := by decide +kernel
theorem dX9_count_150 : decode cX9_count 150 = .ok (.ireturn, 1) := by decide +kernel
theorem dX9_count_151 : decode cX9_count 151 = .ok (.aload_n 0, 1) := by decide +kernel
theorem dX9_count_152 : decode cX9_count 152 = .ok (.getfield 28, 3) := by decide +kernel
theorem dX9_count_155 : decode cX9_count 155 = .ok (.ireturn, 1) := by decide +kernel
theorem dX9_count_156 : decode cX9_count 156 = .ok (.aload_n 0, 1) := by decide +kernel
theorem dX9_count_157 : decode cX9_count 157 = .ok (.getfield 112, 3) := by decide +kernel
theorem dX9_count_160 : decode cX9_count 160 = .ok (.ireturn, 1) := by decide +kernel
theorem dX9_count_161 : decode cX9_count 161 = .ok (.bipush (-2), 2) := by decide +kernel
theorem dX9_count_163 : decode cX9_count 163 = .ok (.ireturn, 1) := by decide +kernel
theorem dJ9_max_7cf53_0 : decode cJ9_max_7cf53 0 = .ok (.iload_n 0, 1) := by decide +kernel
theorem dJ9_max_7cf53_1 : decode cJ9_max_7cf53 1 = .ok (.iload_n 1, 1) := by decide +kernel
theorem dJ9_max_7cf53_2 : decode cJ9_max_7cf53 2 = .ok (.if_icmp .lt 7, 3) := by decide +kernel
theorem dJ9_max_7cf53_5 : decode cJ9_max_7cf53 5 = .ok (.iload_n 0, 1) := by decide +kernel
theorem dJ9_max_7cf53_6 : decode cJ9_max_7cf53 6 = .ok (.goto 4, 3) := by decide +kernel
theorem dJ9_max_7cf53_9 : decode cJ9_max_7cf53 9 = .ok (.iload_n 1, 1) := by decide +kernel
theorem dJ9_max_7cf53_10 : decode cJ9_max_7cf53 10 = .ok (.ireturn, 1) := by decide +kernel
theorem dJ9_min_7cf53_0 : decode cJ9_min_7cf53 0 = .ok (.iload_n 0, 1) := by decide +kernel
theorem dJ9_min_7cf53_1 : decode cJ9_min_7cf53 1 = .ok (.iload_n 1, 1) := by decide +kernel
theorem dJ9_min_7cf53_2 : decode cJ9_min_7cf53 2 = .ok (.if_icmp .gt 7, 3) := by decide +kernel
theorem dJ9_min_7cf53_5 : decode cJ9_min_7cf53 5 = .ok (.iload_n 0, 1) := by decide +kernel
theorem dJ9_min_7cf53_6 : decode cJ9_min_7cf53 6 = .ok (.goto 4, 3) := by decide +kernel
theorem dJ9_min_7cf53_9 : decode cJ9_min_7cf53 9 = .ok (.iload_n 1, 1) := by decide +kernel
theorem dJ9_min_7cf53_10 : decode cJ9_min_7cf53 10 = .ok (.ireturn, 1) := by decide +kernel
theorem dL_law_0 : decode cL_law 0 = .ok (.new 7, 3) := by decide +kernel
theorem dL_law_3 : decode cL_law 3 = .ok (.dup, 1) := by decide +kernel
theorem dL_law_4 : decode cL_law 4 = .ok (.invokespecial 9, 3) := by decide +kernel
theorem dL_law_7 : decode cL_law 7 = .ok (.astore_n 1, 1) := by decide +kernel
theorem dL_law_8 : decode cL_law 8 = .ok (.new 10, 3) := by decide +kernel
theorem dL_law_11 : decode cL_law 11 = .ok (.dup, 1) := by decide +kernel
theorem dL_law_12 : decode cL_law 12 = .ok (.invokespecial 12, 3) := by decide +kernel
theorem dL_law_15 : decode cL_law 15 = .ok (.astore_n 2, 1) := by decide +kernel
theorem dL_law_16 : decode cL_law 16 = .ok (.iconst 0, 1) := by decide +kernel
theorem dL_law_17 : decode cL_law 17 = .ok (.istore_n 3, 1) := by decide +kernel
theorem dL_law_18 : decode cL_law 18 = .ok (.iload_n 3, 1) := by decide +kernel
theorem dL_law_19 : decode cL_law 19 = .ok (.aload_n 0, 1) := by decide +kernel
theorem dL_law_20 : decode cL_law 20 = .ok (.arraylength, 1) := by decide +kernel
theorem dL_law_21 : decode cL_law 21 = .ok (.bipush 6, 2) := by decide +kernel
theorem dL_law_23 : decode cL_law 23 = .ok (.isub, 1) := by decide +kernel
theorem dL_law_24 : decode cL_law 24 = .ok (.if_icmp .gt 786, 3) := by decide +kernel
theorem dL_law_27 : decode cL_law 27 = .ok (.aload_n 0, 1) := by decide +kernel
theorem dL_law_28 : decode cL_law 28 = .ok (.iload_n 3, 1) := by decide +kernel
theorem dL_law_29 : decode cL_law 29 = .ok (.iaload, 1) := by decide +kernel
theorem dL_law_30 : decode cL_law 30 = .ok (.bipush 31, 2) := by decide +kernel
theorem dL_law_32 : decode cL_law 32 = .ok (.iand, 1) := by decide +kernel
theorem dL_law_33 : decode cL_law 33 = .ok (.tableswitch 771 0 21 #[103, 136, 169, 232, 275, 308, 371, 394, 407, 432, 445, 458, 481, 494, 507, 520, 553, 596, 659, 692, 715, 748], 103) := by decide +kernel
theorem dL_law_136 : decode cL_law 136 = .ok (.aload_n 1, 1) := by decide +kernel
theorem dL_law_137 : decode cL_law 137 = .ok (.aload_n 0, 1) := by decide +kernel
theorem dL_law_138 : decode cL_law 138 = .ok (.iload_n 3, 1) := by decide +kernel
theorem dL_law_139 : decode cL_law 139 = .ok (.iconst 1, 1) := by decide +kernel
theorem dL_law_140 : decode cL_law 140 = .ok (.iadd, 1) := by decide +kernel
theorem dL_law_141 : decode cL_law 141 = .ok (.iaload, 1) := by decide +kernel
theorem dL_law_142 : decode cL_law 142 = .ok (.aload_n 0, 1) := by decide +kernel
theorem dL_law_143 : decode cL_law 143 = .ok (.iload_n 3, 1) := by decide +kernel
theorem dL_law_144 : decode cL_law 144 = .ok (.iconst 2, 1) := by decide +kernel
theorem dL_law_145 : decode cL_law 145 = .ok (.iadd, 1) := by decide +kernel
theorem dL_law_146 : decode cL_law 146 = .ok (.iaload, 1) := by decide +kernel
theorem dL_law_147 : decode cL_law 147 = .ok (.invokevirtual 13, 3) := by decide +kernel
theorem dL_law_150 : decode cL_law 150 = .ok (.aload_n 2, 1) := by decide +kernel
theorem dL_law_151 : decode cL_law 151 = .ok (.aload_n 0, 1) := by decide +kernel
theorem dL_law_152 : decode cL_law 152 = .ok (.iload_n 3, 1) := by decide +kernel
theorem dL_law_153 : decode cL_law 153 = .ok (.iconst 1, 1) := by decide +kernel
theorem dL_law_154 : decode cL_law 154 = .ok (.iadd, 1) := by decide +kernel
theorem dL_law_155 : decode cL_law 155 = .ok (.iaload, 1) := by decide +kernel
theorem dL_law_156 : decode cL_law 156 = .ok (.aload_n 0, 1) := by decide +kernel
theorem dL_law_157 : decode cL_law 157 = .ok (.iload_n 3, 1) := by decide +kernel
theorem dL_law_158 : decode cL_law 158 = .ok (.iconst 2, 1) := by decide +kernel
theorem dL_law_159 : decode cL_law 159 = .ok (.iadd, 1) := by decide +kernel
theorem dL_law_160 : decode cL_law 160 = .ok (.iaload, 1) := by decide +kernel
theorem dL_law_161 : decode cL_law 161 = .ok (.invokevirtual 17, 3) := by decide +kernel
theorem dL_law_164 : decode cL_law 164 = .ok (.if_icmp .eq 640, 3) := by decide +kernel
theorem dL_law_167 : decode cL_law 167 = .ok (.iconst 0, 1) := by decide +kernel
theorem dL_law_168 : decode cL_law 168 = .ok (.ireturn, 1) := by decide +kernel
theorem dL_law_169 : decode cL_law 169 = .ok (.aload_n 1, 1) := by decide +kernel
theorem dL_law_170 : decode cL_law 170 = .ok (.aload_n 0, 1) := by decide +kernel
theorem dL_law_171 : decode cL_law 171 = .ok (.iload_n 3, 1) := by decide +kernel
theorem dL_law_172 : decode cL_law 172 = .ok (.iconst 1, 1) := by decide +kernel
theorem dL_law_173 : decode cL_law 173 = .ok (.iadd, 1) := by decide +kernel
theorem dL_law_174 : decode cL_law 174 = .ok (.iaload, 1) := by decide +kernel
theorem dL_law_175 : decode cL_law 175 = .ok (.aload_n 0, 1) := by decide +kernel
theorem dL_law_176 : decode cL_law 176 = .ok (.iload_n 3, 1) := by decide +kernel
theorem dL_law_177 : decode cL_law 177 = .ok (.iconst 2, 1) := by decide +kernel
theorem dL_law_178 : decode cL_law 178 = .ok (.iadd, 1) := by decide +kernel
theorem dL_law_179 : decode cL_law 179 = .ok (.iaload, 1) := by decide +kernel
theorem dL_law_180 : decode cL_law 180 = .ok (.invokevirtual 18, 3) := by decide +kernel
theorem dL_law_183 : decode cL_law 183 = .ok (.aload_n 2, 1) := by decide +kernel
theorem dL_law_184 : decode cL_law 184 = .ok (.aload_n 0, 1) := by decide +kernel
theorem dL_law_185 : decode cL_law 185 = .ok (.iload_n 3, 1) := by decide +kernel
theorem dL_law_186 : decode cL_law 186 = .ok (.iconst 1, 1) := by decide +kernel
theorem dL_law_187 : decode cL_law 187 = .ok (.iadd, 1) := by decide +kernel
theorem dL_law_188 : decode cL_law 188 = .ok (.iaload, 1) := by decide +kernel
theorem dL_law_189 : decode cL_law 189 = .ok (.aload_n 0, 1) := by decide +kernel
theorem dL_law_190 : decode cL_law 190 = .ok (.iload_n 3, 1) := by decide +kernel
theorem dL_law_191 : decode cL_law 191 = .ok (.iconst 2, 1) := by decide +kernel
theorem dL_law_192 : decode cL_law 192 = .ok (.iadd, 1) := by decide +kernel
theorem dL_law_193 : decode cL_law 193 = .ok (.iaload, 1) := by decide +kernel
theorem dL_law_194 : decode cL_law 194 = .ok (.invokevirtual 21, 3) := by decide +kernel
theorem dL_law_197 : decode cL_law 197 = .ok (.if_icmp .eq 607, 3) := by decide +kernel
theorem dL_law_200 : decode cL_law 200 = .ok (.iconst 0, 1) := by decide +kernel
theorem dL_law_201 : decode cL_law 201 = .ok (.ireturn, 1) := by decide +kernel
theorem dL_law_202 : decode cL_law 202 = .ok (.aload_n 1, 1) := by decide +kernel
theorem dL_law_203 : decode cL_law 203 = .ok (.aload_n 0, 1) := by decide +kernel
theorem dL_law_204 : decode cL_law 204 = .ok (.iload_n 3, 1) := by decide +kernel
theorem dL_law_205 : decode cL_law 205 = .ok (.iconst 1, 1) := by decide +kernel
theorem dL_law_206 : decode cL_law 206 = .ok (.iadd, 1) := by decide +kernel
theorem dL_law_207 : decode cL_law 207 = .ok (.iaload, 1) := by decide +kernel
theorem dL_law_208 : decode cL_law 208 = .ok (.aload_n 0, 1) := by decide +kernel
theorem dL_law_209 : decode cL_law 209 = .ok (.iload_n 3, 1) := by decide +kernel
theorem dL_law_210 : decode cL_law 210 = .ok (.iconst 2, 1) := by decide +kernel
theorem dL_law_211 : decode cL_law 211 = .ok (.iadd, 1) := by decide +kernel
theorem dL_law_212 : decode cL_law 212 = .ok (.iaload, 1) := by decide +kernel
theorem dL_law_213 : decode cL_law 213 = .ok (.aload_n 0, 1) := by decide +kernel
theorem dL_law_214 : decode cL_law 214 = .ok (.iload_n 3, 1) := by decide +kernel
theorem dL_law_215 : decode cL_law 215 = .ok (.iconst 3, 1) := by decide +kernel
theorem dL_law_216 : decode cL_law 216 = .ok (.iadd, 1) := by decide +kernel
theorem dL_law_217 : decode cL_law 217 = .ok (.iaload, 1) := by decide +kernel
theorem dL_law_218 : decode cL_law 218 = .ok (.aload_n 0, 1) := by decide +kernel
theorem dL_law_219 : decode cL_law 219 = .ok (.iload_n 3, 1) := by decide +kernel
theorem dL_law_220 : decode cL_law 220 = .ok (.iconst 4, 1) := by decide +kernel
theorem dL_law_221 : decode cL_law 221 = .ok (.iadd, 1) := by decide +kernel
theorem dL_law_222 : decode cL_law 222 = .ok (.iaload, 1) := by decide +kernel
theorem dL_law_223 : decode cL_law 223 = .ok (.aload_n 0, 1) := by decide +kernel
theorem dL_law_224 : decode cL_law 224 = .ok (.iload_n 3, 1) := by decide +kernel
theorem dL_law_225 : decode cL_law 225 = .ok (.iconst 5, 1) := by decide +kernel
theorem dL_law_226 : decode cL_law 226 = .ok (.iadd, 1) := by decide +kernel
theorem dL_law_227 : decode cL_law 227 = .ok (.iaload, 1) := by decide +kernel
theorem dL_law_228 : decode cL_law 228 = .ok (.invokevirtual 22, 3) := by decide +kernel
theorem dL_law_231 : decode cL_law 231 = .ok (.aload_n 2, 1) := by decide +kernel
theorem dL_law_232 : decode cL_law 232 = .ok (.aload_n 0, 1) := by decide +kernel
theorem dL_law_233 : decode cL_law 233 = .ok (.iload_n 3, 1) := by decide +kernel
theorem dL_law_234 : decode cL_law 234 = .ok (.iconst 1, 1) := by decide +kernel
theorem dL_law_235 : decode cL_law 235 = .ok (.iadd, 1) := by decide +kernel
theorem dL_law_236 : decode cL_law 236 = .ok (.iaload, 1) := by decide +kernel
theorem dL_law_237 : decode cL_law 237 = .ok (.aload_n 0, 1) := by decide +kernel
theorem dL_law_238 : decode cL_law 238 = .ok (.iload_n 3, 1) := by decide +kernel
theorem dL_law_239 : decode cL_law 239 = .ok (.iconst 2, 1) := by decide +kernel
theorem dL_law_240 : decode cL_law 240 = .ok (.iadd, 1) := by decide +kernel
theorem dL_law_241 : decode cL_law 241 = .ok (.iaload, 1) := by decide +kernel
theorem dL_law_242 : decode cL_law 242 = .ok (.aload_n 0, 1) := by decide +kernel
theorem dL_law_243 : decode cL_law 243 = .ok (.iload_n 3, 1) := by decide +kernel
theorem dL_law_244 : decode cL_law 244 = .ok (.iconst 3, 1) := by decide +kernel
theorem dL_law_245 : decode cL_law 245 = .ok (.iadd, 1) := by decide +kernel
theorem dL_law_246 : decode cL_law 246 = .ok (.iaload, 1) := by decide +kernel
theorem dL_law_247 : decode cL_law 247 = .ok (.aload_n 0, 1) := by decide +kernel
theorem dL_law_248 : decode cL_law 248 = .ok (.iload_n 3, 1) := by decide +kernel
theorem dL_law_249 : decode cL_law 249 = .ok (.iconst 4, 1) := by decide +kernel
theorem dL_law_250 : decode cL_law 250 = .ok (.iadd, 1) := by decide +kernel
theorem dL_law_251 : decode cL_law 251 = .ok (.iaload, 1) := by decide +kernel
theorem dL_law_252 : decode cL_law 252 = .ok (.aload_n 0, 1) := by decide +kernel
theorem dL_law_253 : decode cL_law 253 = .ok (.iload_n 3, 1) := by decide +kernel
theorem dL_law_254 : decode cL_law 254 = .ok (.iconst 5, 1) := by decide +kernel
theorem dL_law_255 : decode cL_law 255 = .ok (.iadd, 1) := by decide +kernel
theorem dL_law_256 : decode cL_law 256 = .ok (.iaload, 1) := by decide +kernel
theorem dL_law_257 : decode cL_law 257 = .ok (.invokevirtual 26, 3) := by decide +kernel
theorem dL_law_260 : decode cL_law 260 = .ok (.if_icmp .eq 544, 3) := by decide +kernel
theorem dL_law_263 : decode cL_law 263 = .ok (.iconst 0, 1) := by decide +kernel
theorem dL_law_264 : decode cL_law 264 = .ok (.ireturn, 1) := by decide +kernel
theorem dL_law_265 : decode cL_law 265 = .ok (.aload_n 1, 1) := by decide +kernel
theorem dL_law_266 : decode cL_law 266 = .ok (.aload_n 0, 1) := by decide +kernel
theorem dL_law_267 : decode cL_law 267 = .ok (.iload_n 3, 1) := by decide +kernel
theorem dL_law_268 : decode cL_law 268 = .ok (.iconst 1, 1) := by decide +kernel
theorem dL_law_269 : decode cL_law 269 = .ok (.iadd, 1) := by decide +kernel
theorem dL_law_270 : decode cL_law 270 = .ok (.iaload, 1) := by decide +kernel
theorem dL_law_271 : decode cL_law 271 = .ok (.aload_n 0, 1) := by decide +kernel
theorem dL_law_272 : decode cL_law 272 = .ok (.iload_n 3, 1) := by decide +kernel
theorem dL_law_273 : decode cL_law 273 = .ok (.iconst 2, 1) := by decide +kernel
theorem dL_law_274 : decode cL_law 274 = .ok (.iadd, 1) := by decide +kernel
theorem dL_law_275 : decode cL_law 275 = .ok (.iaload, 1) := by decide +kernel
theorem dL_law_276 : decode cL_law 276 = .ok (.aload_n 0, 1) := by decide +kernel
theorem dL_law_277 : decode cL_law 277 = .ok (.iload_n 3, 1) := by decide +kernel
theorem dL_law_278 : decode cL_law 278 = .ok (.iconst 3, 1) := by decide +kernel
theorem dL_law_279 : decode cL_law 279 = .ok (.iadd, 1) := by decide +kernel
theorem dL_law_280 : decode cL_law 280 = .ok (.iaload, 1) := by decide +kernel
theorem dL_law_281 : decode cL_law 281 = .ok (.invokevirtual 27, 3) := by decide +kernel
theorem dL_law_284 : decode cL_law 284 = .ok (.aload_n 2, 1) := by decide +kernel
theorem dL_law_285 : decode cL_law 285 = .ok (.aload_n 0, 1) := by decide +kernel
theorem dL_law_286 : decode cL_law 286 = .ok (.iload_n 3, 1) := by decide +kernel
theorem dL_law_287 : decode cL_law 287 = .ok (.iconst 1, 1) := by decide +kernel
theorem dL_law_288 : decode cL_law 288 = .ok (.iadd, 1) := by decide +kernel
theorem dL_law_289 : decode cL_law 289 = .ok (.iaload, 1) := by decide +kernel
theorem dL_law_290 : decode cL_law 290 = .ok (.aload_n 0, 1) := by decide +kernel
theorem dL_law_291 : decode cL_law 291 = .ok (.iload_n 3, 1) := by decide +kernel
theorem dL_law_292 : decode cL_law 292 = .ok (.iconst 2, 1) := by decide +kernel
theorem dL_law_293 : decode cL_law 293 = .ok (.iadd, 1) := by decide +kernel
theorem dL_law_294 : decode cL_law 294 = .ok (.iaload, 1) := by decide +kernel
theorem dL_law_295 : decode cL_law 295 = .ok (.aload_n 0, 1) := by decide +kernel
theorem dL_law_296 : decode cL_law 296 = .ok (.iload_n 3, 1) := by decide +kernel
theorem dL_law_297 : decode cL_law 297 = .ok (.iconst 3, 1) := by decide +kernel
theorem dL_law_298 : decode cL_law 298 = .ok (.iadd, 1) := by decide +kernel
theorem dL_law_299 : decode cL_law 299 = .ok (.iaload, 1) := by decide +kernel
theorem dL_law_300 : decode cL_law 300 = .ok (.invokevirtual 31, 3) := by decide +kernel
theorem dL_law_303 : decode cL_law 303 = .ok (.if_icmp .eq 501, 3) := by decide +kernel
theorem dL_law_306 : decode cL_law 306 = .ok (.iconst 0, 1) := by decide +kernel
theorem dL_law_307 : decode cL_law 307 = .ok (.ireturn, 1) := by decide +kernel
theorem dL_law_308 : decode cL_law 308 = .ok (.aload_n 1, 1) := by decide +kernel
theorem dL_law_309 : decode cL_law 309 = .ok (.aload_n 0, 1) := by decide +kernel
theorem dL_law_310 : decode cL_law 310 = .ok (.iload_n 3, 1) := by decide +kernel
theorem dL_law_311 : decode cL_law 311 = .ok (.iconst 1, 1) := by decide +kernel
theorem dL_law_312 : decode cL_law 312 = .ok (.iadd, 1) := by decide +kernel
theorem dL_law_313 : decode cL_law 313 = .ok (.iaload, 1) := by decide +kernel
theorem dL_law_314 : decode cL_law 314 = .ok (.aload_n 0, 1) := by decide +kernel
theorem dL_law_315 : decode cL_law 315 = .ok (.iload_n 3, 1) := by decide +kernel
theorem dL_law_316 : decode cL_law 316 = .ok (.iconst 2, 1) := by decide +kernel
theorem dL_law_317 : decode cL_law 317 = .ok (.iadd, 1) := by decide +kernel
theorem dL_law_318 : decode cL_law 318 = .ok (.iaload, 1) := by decide +kernel
theorem dL_law_319 : decode cL_law 319 = .ok (.invokevirtual 32, 3) := by decide +kernel
theorem dL_law_322 : decode cL_law 322 = .ok (.aload_n 2, 1) := by decide +kernel
theorem dL_law_323 : decode cL_law 323 = .ok (.aload_n 0, 1) := by decide +kernel
theorem dL_law_324 : decode cL_law 324 = .ok (.iload_n 3, 1) := by decide +kernel
theorem dL_law_325 : decode cL_law 325 = .ok (.iconst 1, 1) := by decide +kernel
theorem dL_law_326 : decode cL_law 326 = .ok (.iadd, 1) := by decide +kernel
theorem dL_law_327 : decode cL_law 327 = .ok (.iaload, 1) := by decide +kernel
theorem dL_law_328 : decode cL_law 328 = .ok (.aload_n 0, 1) := by decide +kernel
theorem dL_law_329 : decode cL_law 329 = .ok (.iload_n 3, 1) := by decide +kernel
theorem dL_law_330 : decode cL_law 330 = .ok (.iconst 2, 1) := by decide +kernel
theorem dL_law_331 : decode cL_law 331 = .ok (.iadd, 1) := by decide +kernel
theorem dL_law_332 : decode cL_law 332 = .ok (.iaload, 1) := by decide +kernel
theorem dL_law_333 : decode cL_law 333 = .ok (.invokevirtual 35, 3) := by decide +kernel
theorem dL_law_336 : decode cL_law 336 = .ok (.if_icmp .eq 468, 3) := by decide +kernel
theorem dL_law_339 : decode cL_law 339 = .ok (.iconst 0, 1) := by decide +kernel
theorem dL_law_340 : decode cL_law 340 = .ok (.ireturn, 1) := by decide +kernel
theorem dL_law_341 : decode cL_law 341 = .ok (.aload_n 1, 1) := by decide +kernel
theorem dL_law_342 : decode cL_law 342 = .ok (.aload_n 0, 1) := by decide +kernel
theorem dL_law_343 : decode cL_law 343 = .ok (.iload_n 3, 1) := by decide +kernel
theorem dL_law_344 : decode cL_law 344 = .ok (.iconst 1, 1) := by decide +kernel
theorem dL_law_345 : decode cL_law 345 = .ok (.iadd, 1) := by decide +kernel
theorem dL_law_346 : decode cL_law 346 = .ok (.iaload, 1) := by decide +kernel
theorem dL_law_347 : decode cL_law 347 = .ok (.aload_n 0, 1) := by decide +kernel
theorem dL_law_348 : decode cL_law 348 = .ok (.iload_n 3, 1) := by decide +kernel
theorem dL_law_349 : decode cL_law 349 = .ok (.iconst 2, 1) := by decide +kernel
theorem dL_law_350 : decode cL_law 350 = .ok (.iadd, 1) := by decide +kernel
theorem dL_law_351 : decode cL_law 351 = .ok (.iaload, 1) := by decide +kernel
theorem dL_law_352 : decode cL_law 352 = .ok (.aload_n 0, 1) := by decide +kernel
theorem dL_law_353 : decode cL_law 353 = .ok (.iload_n 3, 1) := by decide +kernel
theorem dL_law_354 : decode cL_law 354 = .ok (.iconst 3, 1) := by decide +kernel
theorem dL_law_355 : decode cL_law 355 = .ok (.iadd, 1) := by decide +kernel
theorem dL_law_356 : decode cL_law 356 = .ok (.iaload, 1) := by decide +kernel
theorem dL_law_357 : decode cL_law 357 = .ok (.aload_n 0, 1) := by decide +kernel
theorem dL_law_358 : decode cL_law 358 = .ok (.iload_n 3, 1) := by decide +kernel
theorem dL_law_359 : decode cL_law 359 = .ok (.iconst 4, 1) := by decide +kernel
theorem dL_law_360 : decode cL_law 360 = .ok (.iadd, 1) := by decide +kernel
theorem dL_law_361 : decode cL_law 361 = .ok (.iaload, 1) := by decide +kernel
theorem dL_law_362 : decode cL_law 362 = .ok (.aload_n 0, 1) := by decide +kernel
theorem dL_law_363 : decode cL_law 363 = .ok (.iload_n 3, 1) := by decide +kernel
theorem dL_law_364 : decode cL_law 364 = .ok (.iconst 5, 1) := by decide +kernel
theorem dL_law_365 : decode cL_law 365 = .ok (.iadd, 1) := by decide +kernel
theorem dL_law_366 : decode cL_law 366 = .ok (.iaload, 1) := by decide +kernel
theorem dL_law_367 : decode cL_law 367 = .ok (.invokevirtual 36, 3) := by decide +kernel
theorem dL_law_370 : decode cL_law 370 = .ok (.aload_n 2, 1) := by decide +kernel
theorem dL_law_371 : decode cL_law 371 = .ok (.aload_n 0, 1) := by decide +kernel
theorem dL_law_372 : decode cL_law 372 = .ok (.iload_n 3, 1) := by decide +kernel
theorem dL_law_373 : decode cL_law 373 = .ok (.iconst 1, 1) := by decide +kernel
theorem dL_law_374 : decode cL_law 374 = .ok (.iadd, 1) := by decide +kernel
theorem dL_law_375 : decode cL_law 375 = .ok (.iaload, 1) := by decide +kernel
theorem dL_law_376 : decode cL_law 376 = .ok (.aload_n 0, 1) := by decide +kernel
theorem dL_law_377 : decode cL_law 377 = .ok (.iload_n 3, 1) := by decide +kernel
theorem dL_law_378 : decode cL_law 378 = .ok (.iconst 2, 1) := by decide +kernel
theorem dL_law_379 : decode cL_law 379 = .ok (.iadd, 1) := by decide +kernel
theorem dL_law_380 : decode cL_law 380 = .ok (.iaload, 1) := by decide +kernel
theorem dL_law_381 : decode cL_law 381 = .ok (.aload_n 0, 1) := by decide +kernel
theorem dL_law_382 : decode cL_law 382 = .ok (.iload_n 3, 1) := by decide +kernel
theorem dL_law_383 : decode cL_law 383 = .ok (.iconst 3, 1) := by decide +kernel
theorem dL_law_384 : decode cL_law 384 = .ok (.iadd, 1) := by decide +kernel
theorem dL_law_385 : decode cL_law 385 = .ok (.iaload, 1) := by decide +kernel
theorem dL_law_386 : decode cL_law 386 = .ok (.aload_n 0, 1) := by decide +kernel
theorem dL_law_387 : decode cL_law 387 = .ok (.iload_n 3, 1) := by decide +kernel
theorem dL_law_388 : decode cL_law 388 = .ok (.iconst 4, 1) := by decide +kernel
theorem dL_law_389 : decode cL_law 389 = .ok (.iadd, 1) := by decide +kernel
theorem dL_law_390 : decode cL_law 390 = .ok (.iaload, 1) := by decide +kernel
theorem dL_law_391 : decode cL_law 391 = .ok (.aload_n 0, 1) := by decide +kernel
theorem dL_law_392 : decode cL_law 392 = .ok (.iload_n 3, 1) := by decide +kernel
theorem dL_law_393 : decode cL_law 393 = .ok (.iconst 5, 1) := by decide +kernel
theorem dL_law_394 : decode cL_law 394 = .ok (.iadd, 1) := by decide +kernel
theorem dL_law_395 : decode cL_law 395 = .ok (.iaload, 1) := by decide +kernel
theorem dL_law_396 : decode cL_law 396 = .ok (.invokevirtual 39, 3) := by decide +kernel
theorem dL_law_399 : decode cL_law 399 = .ok (.if_icmp .eq 405, 3) := by decide +kernel
theorem dL_law_402 : decode cL_law 402 = .ok (.iconst 0, 1) := by decide +kernel
theorem dL_law_403 : decode cL_law 403 = .ok (.ireturn, 1) := by decide +kernel
theorem dL_law_404 : decode cL_law 404 = .ok (.aload_n 1, 1) := by decide +kernel
theorem dL_law_405 : decode cL_law 405 = .ok (.aload_n 0, 1) := by decide +kernel
theorem dL_law_406 : decode cL_law 406 = .ok (.iload_n 3, 1) := by decide +kernel
theorem dL_law_407 : decode cL_law 407 = .ok (.iconst 1, 1) := by decide +kernel
theorem dL_law_408 : decode cL_law 408 = .ok (.iadd, 1) := by decide +kernel
theorem dL_law_409 : decode cL_law 409 = .ok (.iaload, 1) := by decide +kernel
theorem dL_law_410 : decode cL_law 410 = .ok (.invokevirtual 40, 3) := by decide +kernel
theorem dL_law_413 : decode cL_law 413 = .ok (.aload_n 2, 1) := by decide +kernel
theorem dL_law_414 : decode cL_law 414 = .ok (.aload_n 0, 1) := by decide +kernel
theorem dL_law_415 : decode cL_law 415 = .ok (.iload_n 3, 1) := by decide +kernel
theorem dL_law_416 : decode cL_law 416 = .ok (.iconst 1, 1) := by decide +kernel
theorem dL_law_417 : decode cL_law 417 = .ok (.iadd, 1) := by decide +kernel
theorem dL_law_418 : decode cL_law 418 = .ok (.iaload, 1) := by decide +kernel
theorem dL_law_419 : decode cL_law 419 = .ok (.invokevirtual 44, 3) := by decide +kernel
theorem dL_law_422 : decode cL_law 422 = .ok (.if_icmp .eq 382, 3) := by decide +kernel
theorem dL_law_425 : decode cL_law 425 = .ok (.iconst 0, 1) := by decide +kernel
theorem dL_law_426 : decode cL_law 426 = .ok (.ireturn, 1) := by decide +kernel
theorem dL_law_427 : decode cL_law 427 = .ok (.aload_n 1, 1) := by decide +kernel
theorem dL_law_428 : decode cL_law 428 = .ok (.invokevirtual 45, 3) := by decide +kernel
theorem dL_law_431 : decode cL_law 431 = .ok (.aload_n 2, 1) := by decide +kernel
theorem dL_law_432 : decode cL_law 432 = .ok (.invokevirtual 49, 3) := by decide +kernel
theorem dL_law_435 : decode cL_law 435 = .ok (.if_icmp .eq 369, 3) := by decide +kernel
theorem dL_law_438 : decode cL_law 438 = .ok (.iconst 0, 1) := by decide +kernel
theorem dL_law_439 : decode cL_law 439 = .ok (.ireturn, 1) := by decide +kernel
theorem dL_law_440 : decode cL_law 440 = .ok (.aload_n 1, 1) := by decide +kernel
theorem dL_law_441 : decode cL_law 441 = .ok (.aload_n 0, 1) := by decide +kernel
theorem dL_law_442 : decode cL_law 442 = .ok (.iload_n 3, 1) := by decide +kernel
theorem dL_law_443 : decode cL_law 443 = .ok (.iconst 1, 1) := by decide +kernel
theorem dL_law_444 : decode cL_law 444 = .ok (.iadd, 1) := by decide +kernel
theorem dL_law_445 : decode cL_law 445 = .ok (.iaload, 1) := by decide +kernel
theorem dL_law_446 : decode cL_law 446 = .ok (.i2c, 1) := by decide +kernel
theorem dL_law_447 : decode cL_law 447 = .ok (.invokevirtual 50, 3) := by decide +kernel
theorem dL_law_450 : decode cL_law 450 = .ok (.aload_n 2, 1) := by decide +kernel
theorem dL_law_451 : decode cL_law 451 = .ok (.aload_n 0, 1) := by decide +kernel
theorem dL_law_452 : decode cL_law 452 = .ok (.iload_n 3, 1) := by decide +kernel
theorem dL_law_453 : decode cL_law 453 = .ok (.iconst 1, 1) := by decide +kernel
theorem dL_law_454 : decode cL_law 454 = .ok (.iadd, 1) := by decide +kernel
theorem dL_law_455 : decode cL_law 455 = .ok (.iaload, 1) := by decide +kernel
theorem dL_law_456 : decode cL_law 456 = .ok (.i2c, 1) := by decide +kernel
theorem dL_law_457 : decode cL_law 457 = .ok (.invokevirtual 54, 3) := by decide +kernel
theorem dL_law_460 : decode cL_law 460 = .ok (.if_icmp .eq 344, 3) := by decide +kernel
theorem dL_law_463 : decode cL_law 463 = .ok (.iconst 0, 1) := by decide +kernel
theorem dL_law_464 : decode cL_law 464 = .ok (.ireturn, 1) := by decide +kernel
theorem dL_law_465 : decode cL_law 465 = .ok (.aload_n 1, 1) := by decide +kernel
theorem dL_law_466 : decode cL_law 466 = .ok (.invokevirtual 55, 3) := by decide +kernel
theorem dL_law_469 : decode cL_law 469 = .ok (.aload_n 2, 1) := by decide +kernel
theorem dL_law_470 : decode cL_law 470 = .ok (.invokevirtual 58, 3) := by decide +kernel
theorem dL_law_473 : decode cL_law 473 = .ok (.if_icmp .eq 331, 3) := by decide +kernel
theorem dL_law_476 : decode cL_law 476 = .ok (.iconst 0, 1) := by decide +kernel
theorem dL_law_477 : decode cL_law 477 = .ok (.ireturn, 1) := by decide +kernel
theorem dL_law_478 : decode cL_law 478 = .ok (.aload_n 1, 1) := by decide +kernel
theorem dL_law_479 : decode cL_law 479 = .ok (.invokevirtual 59, 3) := by decide +kernel
theorem dL_law_482 : decode cL_law 482 = .ok (.aload_n 2, 1) := by decide +kernel
theorem dL_law_483 : decode cL_law 483 = .ok (.invokevirtual 62, 3) := by decide +kernel
theorem dL_law_486 : decode cL_law 486 = .ok (.if_icmp .eq 318, 3) := by decide +kernel
theorem dL_law_489 : decode cL_law 489 = .ok (.iconst 0, 1) := by decide +kernel
theorem dL_law_490 : decode cL_law 490 = .ok (.ireturn, 1) := by decide +kernel
theorem dL_law_491 : decode cL_law 491 = .ok (.aload_n 1, 1) := by decide +kernel
theorem dL_law_492 : decode cL_law 492 = .ok (.aload_n 0, 1) := by decide +kernel
theorem dL_law_493 : decode cL_law 493 = .ok (.iload_n 3, 1) := by decide +kernel
theorem dL_law_494 : decode cL_law 494 = .ok (.iconst 1, 1) := by decide +kernel
theorem dL_law_495 : decode cL_law 495 = .ok (.iadd, 1) := by decide +kernel
theorem dL_law_496 : decode cL_law 496 = .ok (.iaload, 1) := by decide +kernel
theorem dL_law_497 : decode cL_law 497 = .ok (.invokevirtual 63, 3) := by decide +kernel
theorem dL_law_500 : decode cL_law 500 = .ok (.aload_n 2, 1) := by decide +kernel
theorem dL_law_501 : decode cL_law 501 = .ok (.aload_n 0, 1) := by decide +kernel
theorem dL_law_502 : decode cL_law 502 = .ok (.iload_n 3, 1) := by decide +kernel
theorem dL_law_503 : decode cL_law 503 = .ok (.iconst 1, 1) := by decide +kernel
theorem dL_law_504 : decode cL_law 504 = .ok (.iadd, 1) := by decide +kernel
theorem dL_law_505 : decode cL_law 505 = .ok (.iaload, 1) := by decide +kernel
theorem dL_law_506 : decode cL_law 506 = .ok (.invokevirtual 66, 3) := by decide +kernel
theorem dL_law_509 : decode cL_law 509 = .ok (.if_icmp .eq 295, 3) := by decide +kernel
theorem dL_law_512 : decode cL_law 512 = .ok (.iconst 0, 1) := by decide +kernel
theorem dL_law_513 : decode cL_law 513 = .ok (.ireturn, 1) := by decide +kernel
theorem dL_law_514 : decode cL_law 514 = .ok (.aload_n 1, 1) := by decide +kernel
theorem dL_law_515 : decode cL_law 515 = .ok (.invokevirtual 67, 3) := by decide +kernel
theorem dL_law_518 : decode cL_law 518 = .ok (.aload_n 2, 1) := by decide +kernel
theorem dL_law_519 : decode cL_law 519 = .ok (.invokevirtual 70, 3) := by decide +kernel
theorem dL_law_522 : decode cL_law 522 = .ok (.if_icmp .eq 282, 3) := by decide +kernel
theorem dL_law_525 : decode cL_law 525 = .ok (.iconst 0, 1) := by decide +kernel
theorem dL_law_526 : decode cL_law 526 = .ok (.ireturn, 1) := by decide +kernel
theorem dL_law_527 : decode cL_law 527 = .ok (.aload_n 1, 1) := by decide +kernel
theorem dL_law_528 : decode cL_law 528 = .ok (.invokevirtual 71, 3) := by decide +kernel
theorem dL_law_531 : decode cL_law 531 = .ok (.aload_n 2, 1) := by decide +kernel
theorem dL_law_532 : decode cL_law 532 = .ok (.invokevirtual 74, 3) := by decide +kernel
theorem dL_law_535 : decode cL_law 535 = .ok (.if_icmp .eq 269, 3) := by decide +kernel
theorem dL_law_538 : decode cL_law 538 = .ok (.iconst 0, 1) := by decide +kernel
theorem dL_law_539 : decode cL_law 539 = .ok (.ireturn, 1) := by decide +kernel
theorem dL_law_540 : decode cL_law 540 = .ok (.aload_n 1, 1) := by decide +kernel
theorem dL_law_541 : decode cL_law 541 = .ok (.invokevirtual 75, 3) := by decide +kernel
theorem dL_law_544 : decode cL_law 544 = .ok (.aload_n 2, 1) := by decide +kernel
theorem dL_law_545 : decode cL_law 545 = .ok (.invokevirtual 78, 3) := by decide +kernel
theorem dL_law_548 : decode cL_law 548 = .ok (.if_icmp .eq 256, 3) := by decide +kernel
theorem dL_law_551 : decode cL_law 551 = .ok (.iconst 0, 1) := by decide +kernel
theorem dL_law_552 : decode cL_law 552 = .ok (.ireturn, 1) := by decide +kernel
theorem dL_law_553 : decode cL_law 553 = .ok (.aload_n 1, 1) := by decide +kernel
theorem dL_law_554 : decode cL_law 554 = .ok (.aload_n 0, 1) := by decide +kernel
theorem dL_law_555 : decode cL_law 555 = .ok (.iload_n 3, 1) := by decide +kernel
theorem dL_law_556 : decode cL_law 556 = .ok (.iconst 1, 1) := by decide +kernel
theorem dL_law_557 : decode cL_law 557 = .ok (.iadd, 1) := by decide +kernel
theorem dL_law_558 : decode cL_law 558 = .ok (.iaload, 1) := by decide +kernel
theorem dL_law_559 : decode cL_law 559 = .ok (.aload_n 0, 1) := by decide +kernel
theorem dL_law_560 : decode cL_law 560 = .ok (.iload_n 3, 1) := by decide +kernel
theorem dL_law_561 : decode cL_law 561 = .ok (.iconst 2, 1) := by decide +kernel
theorem dL_law_562 : decode cL_law 562 = .ok (.iadd, 1) := by decide +kernel
theorem dL_law_563 : decode cL_law 563 = .ok (.iaload, 1) := by decide +kernel
theorem dL_law_564 : decode cL_law 564 = .ok (.invokevirtual 79, 3) := by decide +kernel
theorem dL_law_567 : decode cL_law 567 = .ok (.aload_n 2, 1) := by decide +kernel
theorem dL_law_568 : decode cL_law 568 = .ok (.aload_n 0, 1) := by decide +kernel
theorem dL_law_569 : decode cL_law 569 = .ok (.iload_n 3, 1) := by decide +kernel
theorem dL_law_570 : decode cL_law 570 = .ok (.iconst 1, 1) := by decide +kernel
theorem dL_law_571 : decode cL_law 571 = .ok (.iadd, 1) := by decide +kernel
theorem dL_law_572 : decode cL_law 572 = .ok (.iaload, 1) := by decide +kernel
theorem dL_law_573 : decode cL_law 573 = .ok (.aload_n 0, 1) := by decide +kernel
theorem dL_law_574 : decode cL_law 574 = .ok (.iload_n 3, 1) := by decide +kernel
theorem dL_law_575 : decode cL_law 575 = .ok (.iconst 2, 1) := by decide +kernel
theorem dL_law_576 : decode cL_law 576 = .ok (.iadd, 1) := by decide +kernel
theorem dL_law_577 : decode cL_law 577 = .ok (.iaload, 1) := by decide +kernel
theorem dL_law_578 : decode cL_law 578 = .ok (.invokevirtual 82, 3) := by decide +kernel
theorem dL_law_581 : decode cL_law 581 = .ok (.if_icmp .eq 223, 3) := by decide +kernel
theorem dL_law_584 : decode cL_law 584 = .ok (.iconst 0, 1) := by decide +kernel
theorem dL_law_585 : decode cL_law 585 = .ok (.ireturn, 1) := by decide +kernel
theorem dL_law_586 : decode cL_law 586 = .ok (.aload_n 1, 1) := by decide +kernel
theorem dL_law_587 : decode cL_law 587 = .ok (.aload_n 0, 1) := by decide +kernel
theorem dL_law_588 : decode cL_law 588 = .ok (.iload_n 3, 1) := by decide +kernel
theorem dL_law_589 : decode cL_law 589 = .ok (.iconst 1, 1) := by decide +kernel
theorem dL_law_590 : decode cL_law 590 = .ok (.iadd, 1) := by decide +kernel
theorem dL_law_591 : decode cL_law 591 = .ok (.iaload, 1) := by decide +kernel
theorem dL_law_592 : decode cL_law 592 = .ok (.aload_n 0, 1) := by decide +kernel
theorem dL_law_593 : decode cL_law 593 = .ok (.iload_n 3, 1) := by decide +kernel
theorem dL_law_594 : decode cL_law 594 = .ok (.iconst 2, 1) := by decide +kernel
theorem dL_law_595 : decode cL_law 595 = .ok (.iadd, 1) := by decide +kernel
theorem dL_law_596 : decode cL_law 596 = .ok (.iaload, 1) := by decide +kernel
theorem dL_law_597 : decode cL_law 597 = .ok (.aload_n 0, 1) := by decide +kernel
theorem dL_law_598 : decode cL_law 598 = .ok (.iload_n 3, 1) := by decide +kernel
theorem dL_law_599 : decode cL_law 599 = .ok (.iconst 3, 1) := by decide +kernel
theorem dL_law_600 : decode cL_law 600 = .ok (.iadd, 1) := by decide +kernel
theorem dL_law_601 : decode cL_law 601 = .ok (.iaload, 1) := by decide +kernel
theorem dL_law_602 : decode cL_law 602 = .ok (.invokevirtual 83, 3) := by decide +kernel
theorem dL_law_605 : decode cL_law 605 = .ok (.aload_n 2, 1) := by decide +kernel
theorem dL_law_606 : decode cL_law 606 = .ok (.aload_n 0, 1) := by decide +kernel
theorem dL_law_607 : decode cL_law 607 = .ok (.iload_n 3, 1) := by decide +kernel
theorem dL_law_608 : decode cL_law 608 = .ok (.iconst 1, 1) := by decide +kernel
theorem dL_law_609 : decode cL_law 609 = .ok (.iadd, 1) := by decide +kernel
theorem dL_law_610 : decode cL_law 610 = .ok (.iaload, 1) := by decide +kernel
theorem dL_law_611 : decode cL_law 611 = .ok (.aload_n 0, 1) := by decide +kernel
theorem dL_law_612 : decode cL_law 612 = .ok (.iload_n 3, 1) := by decide +kernel
theorem dL_law_613 : decode cL_law 613 = .ok (.iconst 2, 1) := by decide +kernel
theorem dL_law_614 : decode cL_law 614 = .ok (.iadd, 1) := by decide +kernel
theorem dL_law_615 : decode cL_law 615 = .ok (.iaload, 1) := by decide +kernel
theorem dL_law_616 : decode cL_law 616 = .ok (.aload_n 0, 1) := by decide +kernel
theorem dL_law_617 : decode cL_law 617 = .ok (.iload_n 3, 1) := by decide +kernel
theorem dL_law_618 : decode cL_law 618 = .ok (.iconst 3, 1) := by decide +kernel
theorem dL_law_619 : decode cL_law 619 = .ok (.iadd, 1) := by decide +kernel
theorem dL_law_620 : decode cL_law 620 = .ok (.iaload, 1) := by decide +kernel
theorem dL_law_621 : decode cL_law 621 = .ok (.invokevirtual 86, 3) := by decide +kernel
theorem dL_law_624 : decode cL_law 624 = .ok (.if_icmp .eq 180, 3) := by decide +kernel
theorem dL_law_627 : decode cL_law 627 = .ok (.iconst 0, 1) := by decide +kernel
theorem dL_law_628 : decode cL_law 628 = .ok (.ireturn, 1) := by decide +kernel
theorem dL_law_629 : decode cL_law 629 = .ok (.aload_n 1, 1) := by decide +kernel
theorem dL_law_630 : decode cL_law 630 = .ok (.aload_n 0, 1) := by decide +kernel
theorem dL_law_631 : decode cL_law 631 = .ok (.iload_n 3, 1) := by decide +kernel
theorem dL_law_632 : decode cL_law 632 = .ok (.iconst 1, 1) := by decide +kernel
theorem dL_law_633 : decode cL_law 633 = .ok (.iadd, 1) := by decide +kernel
theorem dL_law_634 : decode cL_law 634 = .ok (.iaload, 1) := by decide +kernel
theorem dL_law_635 : decode cL_law 635 = .ok (.aload_n 0, 1) := by decide +kernel
theorem dL_law_636 : decode cL_law 636 = .ok (.iload_n 3, 1) := by decide +kernel
theorem dL_law_637 : decode cL_law 637 = .ok (.iconst 2, 1) := by decide +kernel
theorem dL_law_638 : decode cL_law 638 = .ok (.iadd, 1) := by decide +kernel
theorem dL_law_639 : decode cL_law 639 = .ok (.iaload, 1) := by decide +kernel
theorem dL_law_640 : decode cL_law 640 = .ok (.aload_n 0, 1) := by decide +kernel
theorem dL_law_641 : decode cL_law 641 = .ok (.iload_n 3, 1) := by decide +kernel
theorem dL_law_642 : decode cL_law 642 = .ok (.iconst 3, 1) := by decide +kernel
theorem dL_law_643 : decode cL_law 643 = .ok (.iadd, 1) := by decide +kernel
theorem dL_law_644 : decode cL_law 644 = .ok (.iaload, 1) := by decide +kernel
theorem dL_law_645 : decode cL_law 645 = .ok (.aload_n 0, 1) := by decide +kernel
theorem dL_law_646 : decode cL_law 646 = .ok (.iload_n 3, 1) := by decide +kernel
theorem dL_law_647 : decode cL_law 647 = .ok (.iconst 4, 1) := by decide +kernel
theorem dL_law_648 : decode cL_law 648 = .ok (.iadd, 1) := by decide +kernel
theorem dL_law_649 : decode cL_law 649 = .ok (.iaload, 1) := by decide +kernel
theorem dL_law_650 : decode cL_law 650 = .ok (.aload_n 0, 1) := by decide +kernel
theorem dL_law_651 : decode cL_law 651 = .ok (.iload_n 3, 1) := by decide +kernel
theorem dL_law_652 : decode cL_law 652 = .ok (.iconst 5, 1) := by decide +kernel
theorem dL_law_653 : decode cL_law 653 = .ok (.iadd, 1) := by decide +kernel
theorem dL_law_654 : decode cL_law 654 = .ok (.iaload, 1) := by decide +kernel
theorem dL_law_655 : decode cL_law 655 = .ok (.invokevirtual 87, 3) := by decide +kernel
theorem dL_law_658 : decode cL_law 658 = .ok (.aload_n 2, 1) := by decide +kernel
theorem dL_law_659 : decode cL_law 659 = .ok (.aload_n 0, 1) := by decide +kernel
theorem dL_law_660 : decode cL_law 660 = .ok (.iload_n 3, 1) := by decide +kernel
theorem dL_law_661 : decode cL_law 661 = .ok (.iconst 1, 1) := by decide +kernel
theorem dL_law_662 : decode cL_law 662 = .ok (.iadd, 1) := by decide +kernel
theorem dL_law_663 : decode cL_law 663 = .ok (.iaload, 1) := by decide +kernel
theorem dL_law_664 : decode cL_law 664 = .ok (.aload_n 0, 1) := by decide +kernel
theorem dL_law_665 : decode cL_law 665 = .ok (.iload_n 3, 1) := by decide +kernel
theorem dL_law_666 : decode cL_law 666 = .ok (.iconst 2, 1) := by decide +kernel
theorem dL_law_667 : decode cL_law 667 = .ok (.iadd, 1) := by decide +kernel
theorem dL_law_668 : decode cL_law 668 = .ok (.iaload, 1) := by decide +kernel
theorem dL_law_669 : decode cL_law 669 = .ok (.aload_n 0, 1) := by decide +kernel
theorem dL_law_670 : decode cL_law 670 = .ok (.iload_n 3, 1) := by decide +kernel
theorem dL_law_671 : decode cL_law 671 = .ok (.iconst 3, 1) := by decide +kernel
theorem dL_law_672 : decode cL_law 672 = .ok (.iadd, 1) := by decide +kernel
theorem dL_law_673 : decode cL_law 673 = .ok (.iaload, 1) := by decide +kernel
theorem dL_law_674 : decode cL_law 674 = .ok (.aload_n 0, 1) := by decide +kernel
theorem dL_law_675 : decode cL_law 675 = .ok (.iload_n 3, 1) := by decide +kernel
theorem dL_law_676 : decode cL_law 676 = .ok (.iconst 4, 1) := by decide +kernel
theorem dL_law_677 : decode cL_law 677 = .ok (.iadd, 1) := by decide +kernel
theorem dL_law_678 : decode cL_law 678 = .ok (.iaload, 1) := by decide +kernel
theorem dL_law_679 : decode cL_law 679 = .ok (.aload_n 0, 1) := by decide +kernel
theorem dL_law_680 : decode cL_law 680 = .ok (.iload_n 3, 1) := by decide +kernel
theorem dL_law_681 : decode cL_law 681 = .ok (.iconst 5, 1) := by decide +kernel
theorem dL_law_682 : decode cL_law 682 = .ok (.iadd, 1) := by decide +kernel
theorem dL_law_683 : decode cL_law 683 = .ok (.iaload, 1) := by decide +kernel
theorem dL_law_684 : decode cL_law 684 = .ok (.invokevirtual 90, 3) := by decide +kernel
theorem dL_law_687 : decode cL_law 687 = .ok (.if_icmp .eq 117, 3) := by decide +kernel
theorem dL_law_690 : decode cL_law 690 = .ok (.iconst 0, 1) := by decide +kernel
theorem dL_law_691 : decode cL_law 691 = .ok (.ireturn, 1) := by decide +kernel
theorem dL_law_692 : decode cL_law 692 = .ok (.aload_n 1, 1) := by decide +kernel
theorem dL_law_693 : decode cL_law 693 = .ok (.aload_n 0, 1) := by decide +kernel
theorem dL_law_694 : decode cL_law 694 = .ok (.iload_n 3, 1) := by decide +kernel
theorem dL_law_695 : decode cL_law 695 = .ok (.iconst 1, 1) := by decide +kernel
theorem dL_law_696 : decode cL_law 696 = .ok (.iadd, 1) := by decide +kernel
theorem dL_law_697 : decode cL_law 697 = .ok (.iaload, 1) := by decide +kernel
theorem dL_law_698 : decode cL_law 698 = .ok (.aload_n 0, 1) := by decide +kernel
theorem dL_law_699 : decode cL_law 699 = .ok (.iload_n 3, 1) := by decide +kernel
theorem dL_law_700 : decode cL_law 700 = .ok (.iconst 2, 1) := by decide +kernel
theorem dL_law_701 : decode cL_law 701 = .ok (.iadd, 1) := by decide +kernel
theorem dL_law_702 : decode cL_law 702 = .ok (.iaload, 1) := by decide +kernel
theorem dL_law_703 : decode cL_law 703 = .ok (.invokevirtual 91, 3) := by decide +kernel
theorem dL_law_706 : decode cL_law 706 = .ok (.aload_n 2, 1) := by decide +kernel
theorem dL_law_707 : decode cL_law 707 = .ok (.aload_n 0, 1) := by decide +kernel
theorem dL_law_708 : decode cL_law 708 = .ok (.iload_n 3, 1) := by decide +kernel
theorem dL_law_709 : decode cL_law 709 = .ok (.iconst 1, 1) := by decide +kernel
theorem dL_law_710 : decode cL_law 710 = .ok (.iadd, 1) := by decide +kernel
theorem dL_law_711 : decode cL_law 711 = .ok (.iaload, 1) := by decide +kernel
theorem dL_law_712 : decode cL_law 712 = .ok (.aload_n 0, 1) := by decide +kernel
theorem dL_law_713 : decode cL_law 713 = .ok (.iload_n 3, 1) := by decide +kernel
theorem dL_law_714 : decode cL_law 714 = .ok (.iconst 2, 1) := by decide +kernel
theorem dL_law_715 : decode cL_law 715 = .ok (.iadd, 1) := by decide +kernel
theorem dL_law_716 : decode cL_law 716 = .ok (.iaload, 1) := by decide +kernel
theorem dL_law_717 : decode cL_law 717 = .ok (.invokevirtual 94, 3) := by decide +kernel
theorem dL_law_720 : decode cL_law 720 = .ok (.if_icmp .eq 84, 3) := by decide +kernel
theorem dL_law_723 : decode cL_law 723 = .ok (.iconst 0, 1) := by decide +kernel
theorem dL_law_724 : decode cL_law 724 = .ok (.ireturn, 1) := by decide +kernel
theorem dL_law_725 : decode cL_law 725 = .ok (.aload_n 1, 1) := by decide +kernel
theorem dL_law_726 : decode cL_law 726 = .ok (.aload_n 0, 1) := by decide +kernel
theorem dL_law_727 : decode cL_law 727 = .ok (.iload_n 3, 1) := by decide +kernel
theorem dL_law_728 : decode cL_law 728 = .ok (.iconst 1, 1) := by decide +kernel
theorem dL_law_729 : decode cL_law 729 = .ok (.iadd, 1) := by decide +kernel
theorem dL_law_730 : decode cL_law 730 = .ok (.iaload, 1) := by decide +kernel
theorem dL_law_731 : decode cL_law 731 = .ok (.invokevirtual 95, 3) := by decide +kernel
theorem dL_law_734 : decode cL_law 734 = .ok (.aload_n 2, 1) := by decide +kernel
theorem dL_law_735 : decode cL_law 735 = .ok (.aload_n 0, 1) := by decide +kernel
theorem dL_law_736 : decode cL_law 736 = .ok (.iload_n 3, 1) := by decide +kernel
theorem dL_law_737 : decode cL_law 737 = .ok (.iconst 1, 1) := by decide +kernel
theorem dL_law_738 : decode cL_law 738 = .ok (.iadd, 1) := by decide +kernel
theorem dL_law_739 : decode cL_law 739 = .ok (.iaload, 1) := by decide +kernel
theorem dL_law_740 : decode cL_law 740 = .ok (.invokevirtual 98, 3) := by decide +kernel
theorem dL_law_743 : decode cL_law 743 = .ok (.if_icmp .eq 61, 3) := by decide +kernel
theorem dL_law_746 : decode cL_law 746 = .ok (.iconst 0, 1) := by decide +kernel
theorem dL_law_747 : decode cL_law 747 = .ok (.ireturn, 1) := by decide +kernel
theorem dL_law_748 : decode cL_law 748 = .ok (.aload_n 1, 1) := by decide +kernel
theorem dL_law_749 : decode cL_law 749 = .ok (.aload_n 0, 1) := by decide +kernel
theorem dL_law_750 : decode cL_law 750 = .ok (.iload_n 3, 1) := by decide +kernel
theorem dL_law_751 : decode cL_law 751 = .ok (.iconst 1, 1) := by decide +kernel
theorem dL_law_752 : decode cL_law 752 = .ok (.iadd, 1) := by decide +kernel
theorem dL_law_753 : decode cL_law 753 = .ok (.iaload, 1) := by decide +kernel
theorem dL_law_754 : decode cL_law 754 = .ok (.aload_n 0, 1) := by decide +kernel
theorem dL_law_755 : decode cL_law 755 = .ok (.iload_n 3, 1) := by decide +kernel
theorem dL_law_756 : decode cL_law 756 = .ok (.iconst 2, 1) := by decide +kernel
theorem dL_law_757 : decode cL_law 757 = .ok (.iadd, 1) := by decide +kernel
theorem dL_law_758 : decode cL_law 758 = .ok (.iaload, 1) := by decide +kernel
theorem dL_law_759 : decode cL_law 759 = .ok (.invokevirtual 99, 3) := by decide +kernel
theorem dL_law_762 : decode cL_law 762 = .ok (.aload_n 2, 1) := by decide +kernel
theorem dL_law_763 : decode cL_law 763 = .ok (.aload_n 0, 1) := by decide +kernel
theorem dL_law_764 : decode cL_law 764 = .ok (.iload_n 3, 1) := by decide +kernel
theorem dL_law_765 : decode cL_law 765 = .ok (.iconst 1, 1) := by decide +kernel
theorem dL_law_766 : decode cL_law 766 = .ok (.iadd, 1) := by decide +kernel
theorem dL_law_767 : decode cL_law 767 = .ok (.iaload, 1) := by decide +kernel
theorem dL_law_768 : decode cL_law 768 = .ok (.aload_n 0, 1) := by decide +kernel
theorem dL_law_769 : decode cL_law 769 = .ok (.iload_n 3, 1) := by decide +kernel
theorem dL_law_770 : decode cL_law 770 = .ok (.iconst 2, 1) := by decide +kernel
theorem dL_law_771 : decode cL_law 771 = .ok (.iadd, 1) := by decide +kernel
theorem dL_law_772 : decode cL_law 772 = .ok (.iaload, 1) := by decide +kernel
theorem dL_law_773 : decode cL_law 773 = .ok (.invokevirtual 102, 3) := by decide +kernel
theorem dL_law_776 : decode cL_law 776 = .ok (.if_icmp .eq 28, 3) := by decide +kernel
theorem dL_law_779 : decode cL_law 779 = .ok (.iconst 0, 1) := by decide +kernel
theorem dL_law_780 : decode cL_law 780 = .ok (.ireturn, 1) := by decide +kernel
theorem dL_law_781 : decode cL_law 781 = .ok (.aload_n 1, 1) := by decide +kernel
theorem dL_law_782 : decode cL_law 782 = .ok (.aload_n 0, 1) := by decide +kernel
theorem dL_law_783 : decode cL_law 783 = .ok (.iload_n 3, 1) := by decide +kernel
theorem dL_law_784 : decode cL_law 784 = .ok (.iconst 1, 1) := by decide +kernel
theorem dL_law_785 : decode cL_law 785 = .ok (.iadd, 1) := by decide +kernel
theorem dL_law_786 : decode cL_law 786 = .ok (.iaload, 1) := by decide +kernel
theorem dL_law_787 : decode cL_law 787 = .ok (.invokevirtual 103, 3) := by decide +kernel
theorem dL_law_790 : decode cL_law 790 = .ok (.aload_n 2, 1) := by decide +kernel
theorem dL_law_791 : decode cL_law 791 = .ok (.aload_n 0, 1) := by decide +kernel
theorem dL_law_792 : decode cL_law 792 = .ok (.iload_n 3, 1) := by decide +kernel
theorem dL_law_793 : decode cL_law 793 = .ok (.iconst 1, 1) := by decide +kernel
theorem dL_law_794 : decode cL_law 794 = .ok (.iadd, 1) := by decide +kernel
theorem dL_law_795 : decode cL_law 795 = .ok (.iaload, 1) := by decide +kernel
theorem dL_law_796 : decode cL_law 796 = .ok (.invokevirtual 106, 3) := by decide +kernel
theorem dL_law_799 : decode cL_law 799 = .ok (.if_icmp .eq 5, 3) := by decide +kernel
theorem dL_law_802 : decode cL_law 802 = .ok (.iconst 0, 1) := by decide +kernel
theorem dL_law_803 : decode cL_law 803 = .ok (.ireturn, 1) := by decide +kernel
theorem dL_law_804 : decode cL_law 804 = .ok (.iinc 3 6, 3) := by decide +kernel
theorem dL_law_807 : decode cL_law 807 = .ok (.goto (-789), 3) := by decide +kernel
theorem dL_law_810 : decode cL_law 810 = .ok (.iconst 1, 1) := by decide +kernel
theorem dL_law_811 : decode cL_law 811 = .ok (.ireturn, 1) := by decide +kernel
end
section
/-! data of each object, worlds, the shapes of contracts, calls -/
abbrev AF : Type := Nat → Int32
abbrev BD : Type := AF × AF
abbrev LD : Type := AF × AF × AF × AF
abbrev FD : Type := AF × AF × AF × AF
abbrev TD : Type := AF × Int32 × Int32 × Int32 × Int32 × Int32 × Int32
abbrev SD : Type := Int32 × Int32 × AF × AF × BD × LD × FD × TD
abbrev PD : Type := AF × Int32 × Int32 × Int32 × Int32 × Int32 × Int32 × Int32 × Int32 × Int32 × Int32
abbrev MD : Type := AF × Int32 × Int32 × AF × Int32 × Int32 × Int32 × AF × Int32 × Int32 × Int32
abbrev CX : Type := va_G × ClassId × ClassId × ClassId
def wg (y : MethodName) (cc : ByteArray) (n : Nat) (ret : Option FieldType) : List Cond := Cond.code y cc n ret :: G
theorem wg_G {y : MethodName} {cc : ByteArray} {n : Nat} {ret : Option FieldType} {args : Array Value} {s : State} (h : ∀ w ∈ wg y cc n ret, w.before args s = true) : ∀ w ∈ G, w.before args s = true := fun w hw => h w (List.mem_cons_of_mem _ hw)
theorem GC {y : MethodName} {cc : ByteArray} {n : Nat} {ret : Option FieldType} (h : Cond.code y cc n ret ∈ G) : GoodIn G (wg y cc n ret) := G_in (fun w hw => by
  rcases List.mem_cons.mp hw with rfl | hw
  · exact h
  · exact hw)
theorem GV {own C : String} {idx : Nat} {y : MethodName} {cc : ByteArray} {n : Nat} {ret : Option FieldType} (h1 : Cond.methodLink own idx y ∈ G) (h2 : Cond.instanceMethod y ∈ G) (h3 : Cond.selects C y y ∈ G) (h4 : Cond.initialized C ∈ G) (h5 : Cond.code y cc n ret ∈ G) : GoodIn G (wsV own idx C y (wg y cc n ret)) := G_in (fun w hw => by
  simp only [wsV, wg, List.cons_append, List.nil_append, List.mem_cons] at hw
  rcases hw with rfl | rfl | rfl | rfl | rfl | hw <;> assumption)
theorem GS {own : String} {idx : Nat} {y : MethodName} {cc : ByteArray} {n : Nat} {ret : Option FieldType} (h1 : Cond.methodLink own idx y ∈ G) (h2 : Cond.static y ∈ G) (h4 : Cond.initialized y.cls ∈ G) (h5 : Cond.code y cc n ret ∈ G) : GoodIn G (va_wsS own idx y (wg y cc n ret)) := G_in (fun w hw => by
  simp only [va_wsS, wg, List.cons_append, List.nil_append, List.mem_cons] at hw
  rcases hw with rfl | rfl | rfl | rfl | hw <;> assumption)
/-- what the tables say of the classes, the arrays and the nest -/
def KX (g : CX) (U : State) : Prop := va_K g.1 vwCl [(g.2.1, .int), (g.2.2.1, .char), (g.2.2.2, .object "HookHours$State")] U ∧ (∀ w ∈ nestW, va_Nw w U) ∧ va_AO "HookHours$State" U
theorem nestW_tab : ∀ w ∈ nestW, w.onTables = true := List.all_eq_true.mp (by decide +kernel : nestW.all (fun w => w.onTables) = true)
theorem nestW_warm {s U : State} (hW : s.WarmedH U.vm) (h : ∀ w ∈ nestW, va_Nw w s) : ∀ w ∈ nestW, va_Nw w U := by
  have key : ∀ w ∈ nestW, va_Nw w s → va_Nw w U := by
    simp only [nestW, List.forall_mem_cons]
    refine ⟨?_, ?_, ?_, ?_, ?_, ?_, ?_, ?_, ?_, ?_, ?_, ?_, ?_, ?_, ?_, ?_, ?_, ?_, ?_, ?_, ?_, ?_, ?_, ?_, ?_, ?_, ?_, ?_, ?_, ?_, ?_, ?_, ?_, ?_, ?_, ?_, ?_, ?_, ?_, ?_, ?_, ?_⟩
    all_goals first | exact fun q => va_Nw.warmF hW q | exact fun q => va_Nw.warmM hW q | exact fun _ h => absurd h List.not_mem_nil
  exact fun w hw => key w hw (h w hw)
theorem KX.warm {g : CX} {s U : State} (h : KX g s) (hW : s.WarmedH U.vm) : KX g U := ⟨va_K.moved hW.alike h.1, nestW_warm hW h.2.1, va_AO.moved hW.alike h.2.2⟩
theorem KX.calling {g : CX} {U : State} {fr : JFrame} {mk : MethodId} {a : Array Value} (h : KX g U) : KX g (U.calling fr mk a) := ⟨va_K.moved (u := U) (U := U.calling fr mk a) (Vm.Alike.refl U.vm) h.1, fun w hw => va_Nw.same (nestW_tab w hw) (u := U) (U := U.calling fr mk a) rfl (h.2.1 w hw), va_AO.moved (u := U) (U := U.calling fr mk a) (Vm.Alike.refl U.vm) h.2.2⟩
theorem KX.nF {g : CX} {U : State} {A : Array Value} {w : Cond} (h : KX g U) (hw : w ∈ nestW) : w.before A U = true := va_Nw.use (nestW_tab w hw) (h.2.1 w hw)
/-- what the cranes lift -/
def fL : AF := fun k => if k = 0 then 20 else if k = 1 then 40 else 60
def LF (A : Nat → Prop) (U : State) (H : Heap) : Prop := ∃ tl : Nat, va_Z "HookHours" "LIFTS" "[I" (.ref tl) A U H ∧ va_T .int tl 3 (fun j => .int (fL j)) A U H
theorem LF.moved {A : Nat → Prop} {u U : State} {H : Heap} (hvm : u.vm.Alike U.vm) (h : LF A u H) : LF A U H := by
  obtain ⟨tl, h1, h2⟩ := h
  exact ⟨tl, h1.moved hvm, h2.moved hvm⟩
theorem LF.kept {A : Nat → Prop} {U : State} {H H1 : Heap} (h : LF A U H) (hq : ∀ a : Nat, a < H.size → ¬ A a → H1[a]? = H[a]?) : LF A U H1 := by
  obtain ⟨tl, h1, h2⟩ := h
  exact ⟨tl, h1.kept hq, h2.kept hq⟩
theorem LF.narrow {A B : Nat → Prop} {U : State} {H : Heap} (h : LF A U H) (hAB : ∀ q, B q → A q) : LF B U H := by
  obtain ⟨tl, h1, h2⟩ := h
  exact ⟨tl, h1.narrow hAB, h2.narrow hAB⟩
theorem LF.at {A : Nat → Prop} {s : State} {H : Heap} {locs : List Loc} (h : LF A s s.heap) (hS : va_S A s.heap H locs) : LF A s H := h.kept hS.2.1
/-- contracts: a start that is only read; one that is written; one array that is read -/
def PR (g : CX) (av : List Value) (w : va_W) : Array Value → State → Prop := va_Pc av (fun U => va_P g.1 vwCl w U.heap ∧ KX g U ∧ LF (fun _ => False) U U.heap)
def PW (g : CX) (av : List Value) (sz : Nat) (w : va_W) : Array Value → State → Prop := va_Pc av (fun U => U.heap.size = sz ∧ va_P g.1 vwCl w U.heap ∧ KX g U ∧ va_D (fun _ => True) w ∧ LF (va_A w sz) U U.heap)
def PT (g : CX) (av : List Value) (t n : Nat) (f : AF) : Array Value → State → Prop := va_Pc av (fun U => va_T .int t n (fun j => .int (f j)) (fun _ => False) U U.heap ∧ KX g U)
theorem PR_blind {g : CX} {av : List Value} {w : va_W} : FrameBlind (PR g av w) := fun _ _ _ _ h => ⟨h.1, h.2.1, h.2.2.1.calling, h.2.2.2.moved (Vm.Alike.refl _)⟩
theorem PW_blind {g : CX} {av : List Value} {sz : Nat} {w : va_W} : FrameBlind (PW g av sz w) := fun _ _ _ _ h => ⟨h.1, h.2.1, h.2.2.1, h.2.2.2.1.calling, h.2.2.2.2.1, h.2.2.2.2.2.moved (Vm.Alike.refl _)⟩
theorem PT_blind {g : CX} {av : List Value} {t n : Nat} {f : AF} : FrameBlind (PT g av t n f) := fun _ _ _ _ h => ⟨h.1, h.2.1.moved (Vm.Alike.refl _), h.2.2.calling⟩
section PRE
variable {g : CX} {s : State} {H : Heap} {locs : List Loc} {A : Nat → Prop} {ws w : va_W} {As : List Value} {b ci : Nat} {q : vw_C} {fs : List Value}
theorem PR_S (hK : KX g s) (hL : LF A s s.heap) (hS : va_S A s.heap H locs) (hP : va_P g.1 vwCl ws H) (is : List Nat) (hw : is.filterMap (fun i => ws[i]?) = w) : PreS s H (PR g As w) As :=
  ⟨PR_blind, fun U hU hW => ⟨rfl, by rw [hU]; exact hP.sub is hw, hK.warm hW, by rw [hU]; exact ((hL.at hS).narrow (fun _ h => h.elim)).moved hW.alike⟩⟩
theorem PR_V (hK : KX g s) (hL : LF A s s.heap) (hS : va_S A s.heap H locs) (hP : va_P g.1 vwCl ws H) (is : List Nat) (hw : is.filterMap (fun i => ws[i]?) = w) (hc : vwCl[ci]? = some q) (q0 : Nat) (he : ws[q0]? = some (b, .inr (ci, fs))) : PreV s H q.1 b (PR g (.ref b :: As) w) As :=
  ⟨PR_blind, va_recv hK.1 hP hc he, (PR_S (As := .ref b :: As) hK hL hS hP is hw).2⟩
theorem PW_S (hK : KX g s) (hL : LF A s s.heap) (hS : va_S A s.heap H locs) (hP : va_P g.1 vwCl ws H) (hD : va_D A ws) (hA : ∀ q, s.heap.size ≤ q → A q) (is : List Nat) (hn : va_nd is = true) (hw : is.map (fun i => ws[i]?) = w.map some) : PreS s H (PW g As H.size w) As := by
  have hf : is.filterMap (fun i => ws[i]?) = w := by
    have e : is.filterMap (fun i => ws[i]?) = (is.map (fun i => ws[i]?)).filterMap id := by rw [List.filterMap_map]; rfl
    rw [e, hw, List.filterMap_map]
    simp
  refine ⟨PW_blind, fun U hU hW => ⟨rfl, by rw [hU], by rw [hU]; exact hP.sub is hf, hK.warm hW, (hD.sub is hn hw).weaken (fun _ _ _ _ => trivial), ?_⟩⟩
  rw [hU]
  exact ((hL.at hS).narrow (va_free hD hS hA is hw)).moved hW.alike
theorem PW_V (hK : KX g s) (hL : LF A s s.heap) (hS : va_S A s.heap H locs) (hP : va_P g.1 vwCl ws H) (hD : va_D A ws) (hA : ∀ q, s.heap.size ≤ q → A q) (is : List Nat) (hn : va_nd is = true) (hw : is.map (fun i => ws[i]?) = w.map some) (hc : vwCl[ci]? = some q) (q0 : Nat) (he : ws[q0]? = some (b, .inr (ci, fs))) : PreV s H q.1 b (PW g (.ref b :: As) H.size w) As :=
  ⟨PW_blind, va_recv hK.1 hP hc he, (PW_S (As := .ref b :: As) hK hL hS hP hD hA is hn hw).2⟩
theorem va_T_of {t n : Nat} {f : AF} (hK : KX g s) (hP : va_P g.1 vwCl ws H) (q0 : Nat) (he : ws[q0]? = some (t, .inl (g.2.1, n, .inl f))) : va_T .int t n (fun j => .int (f j)) (fun _ => False) s H := by
  have h1 := hP q0 _ he
  have h2 := (hK.1.2 0 _ rfl).1 n (fun j => .int (f j))
  refine ⟨_, h1, h2, (fun q => by cases q), ?_, ?_, (fun j hj => ?_), id⟩
  · show n ≤ (arrV _ _ _).slots.size
    rw [arrV_size]; exact Nat.le_refl _
  · show (arrV _ _ _).slots.size.toInt32 = _
    rw [arrV_size]
  · exact arrV_read _ _ hj
theorem PT_S {t n : Nat} {f : AF} (hK : KX g s) (hT : va_T .int t n (fun j => .int (f j)) (fun _ => False) s H) : PreS s H (PT g As t n f) As :=
  ⟨PT_blind, fun U hU hW => ⟨rfl, by rw [hU]; exact hT.moved hW.alike, hK.warm hW⟩⟩
end PRE
/-- a written part of a world is put back at its places -/
def pbl : va_W → List Nat → va_W → va_W
  | ws, i :: is, c :: cs => pbl (ws.set i c) is cs
  | ws, _, _ => ws
theorem pbl_get : ∀ (is : List Nat) (cs ws : va_W) (k : Nat) (q : Nat × va_E), is.length = cs.length → (pbl ws is cs)[k]? = some q → q ∈ cs ∨ (k ∉ is ∧ ws[k]? = some q) := by
  intro is
  induction is with
  | nil =>
    intro cs ws k q _ h
    exact Or.inr ⟨List.not_mem_nil, by simpa [pbl] using h⟩
  | cons i is ih =>
    intro cs ws k q hl h
    cases cs with
    | nil => simp at hl
    | cons c cs =>
      have h' : (pbl (ws.set i c) is cs)[k]? = some q := h
      rcases ih cs (ws.set i c) k q (by simpa using hl) h' with h2 | ⟨h2, h3⟩
      · exact Or.inl (List.mem_cons_of_mem _ h2)
      · by_cases hk : k = i
        · subst hk
          by_cases hlt : k < ws.length
          · rw [List.getElem?_set_self hlt] at h3
            cases h3
            exact Or.inl List.mem_cons_self
          · rw [List.getElem?_set] at h3
            simp [hlt] at h3
        · rw [List.getElem?_set_ne (Ne.symm hk)] at h3
          exact Or.inr ⟨fun z => by
            rcases List.mem_cons.mp z with z | z
            · exact hk z
            · exact h2 z, h3⟩
theorem pbl_len : ∀ (is : List Nat) (cs ws : va_W), (pbl ws is cs).length = ws.length := by
  intro is
  induction is with
  | nil => intro cs ws; simp [pbl]
  | cons i is ih =>
    intro cs ws
    cases cs with
    | nil => simp [pbl]
    | cons c cs => show (pbl (ws.set i c) is cs).length = _; rw [ih]; simp
theorem pbl_adr : ∀ (is : List Nat) (cs wc ws : va_W), is.map (fun i => ws[i]?) = wc.map some → cs.map Prod.fst = wc.map Prod.fst → va_nd is = true → (pbl ws is cs).map Prod.fst = ws.map Prod.fst := by
  intro is
  induction is with
  | nil => intro cs wc ws _ _ _; simp [pbl]
  | cons i is ih =>
    intro cs wc ws h1 h2 hn
    cases cs with
    | nil => simp [pbl]
    | cons c cs =>
      cases wc with
      | nil => simp at h1
      | cons d wc =>
        simp only [List.map_cons, List.cons.injEq] at h1 h2
        simp only [va_nd, Bool.and_eq_true, decide_eq_true_eq] at hn
        have hset : (ws.set i c).map Prod.fst = ws.map Prod.fst := by
          rw [List.map_set, h2.1]
          apply List.ext_getElem?
          intro k
          rw [List.getElem?_set]
          have h5 : (ws.map Prod.fst)[i]? = some d.1 := by rw [List.getElem?_map, h1.1]; rfl
          by_cases hk : i = k
          · subst hk
            have h6 := (List.getElem?_eq_some_iff.mp h5).1
            simp [h5]
            simpa using h6
          · simp [hk]
        show (pbl (ws.set i c) is cs).map Prod.fst = _
        rw [ih cs wc (ws.set i c) ?_ h2.2 hn.2, hset]
        rw [← h1.2]
        apply List.map_congr_left
        intro j hj
        rw [List.getElem?_set_ne]
        intro z
        subst z
        exact hn.1 hj
theorem va_D_adr {A : Nat → Prop} {w w' : va_W} (h : va_D A w) (ha : w'.map Prod.fst = w.map Prod.fst) : va_D A w' := by
  have key : ∀ (k : Nat) (q : Nat × va_E), w'[k]? = some q → ∃ q0, w[k]? = some q0 ∧ q0.1 = q.1 := by
    intro k q hk
    have h1 : (w'.map Prod.fst)[k]? = some q.1 := by rw [List.getElem?_map, hk]; rfl
    rw [ha, List.getElem?_map] at h1
    cases hw : w[k]? with
    | none => rw [hw] at h1; cases h1
    | some q0 => rw [hw] at h1; exact ⟨q0, rfl, Option.some.inj h1⟩
  refine ⟨fun i j x y hi hj hxy => ?_, fun k q hk => ?_⟩
  · obtain ⟨x0, h1, h2⟩ := key i x hi
    obtain ⟨y0, h3, h4⟩ := key j y hj
    exact h.1 i j x0 y0 h1 h3 (h2.trans (hxy.trans h4.symm))
  · obtain ⟨q0, h1, h2⟩ := key k q hk
    rw [← h2]
    exact h.2 k q0 h1
theorem pb {A0 : Nat → Prop} {D : va_G} {cl : List vw_C} {ws wc wc' : va_W} {H H1 : Heap} (hP : va_P D cl ws H) (hD : va_D A0 ws) (is : List Nat) (hn : va_nd is = true) (hC : is.map (fun i => ws[i]?) = wc.map some) (hadr : wc'.map Prod.fst = wc.map Prod.fst)
    (hk : ∀ q : Nat, q < H.size → ¬ va_A wc H.size q → H1[q]? = H[q]?) (hP1 : va_P D cl wc' H1) : va_P D cl (pbl ws is wc') H1 ∧ va_D A0 (pbl ws is wc') := by
  have hlen : is.length = wc'.length := by
    have e1 : is.length = wc.length := by have := congrArg List.length hC; simpa using this
    have e2 : wc'.length = wc.length := by have := congrArg List.length hadr; simpa using this
    omega
  refine ⟨fun k q hq => ?_, va_D_adr hD (pbl_adr is wc' wc ws hC hadr hn)⟩
  rcases pbl_get is wc' ws k q hlen hq with h | ⟨h1, h2⟩
  · obtain ⟨j, hj⟩ := List.getElem?_of_mem h
    exact hP1 j q hj
  · refine (hP k q h2).kept (hk q.1 (hP k q h2).lt (fun hz => ?_))
    rcases hz with ⟨j, e, hz⟩ | hz
    · have h3 : (is.map (fun i => ws[i]?))[j]? = some (some (q.1, e)) := by rw [hC, List.getElem?_map, hz]; rfl
      rw [List.getElem?_map] at h3
      cases hi : is[j]? with
      | none => rw [hi] at h3; cases h3
      | some i =>
        rw [hi] at h3
        have h4 : ws[i]? = some (q.1, e) := Option.some.inj h3
        have := hD.1 k i q (q.1, e) h2 h4 rfl
        subst this
        exact h1 (List.mem_of_getElem? hi)
    · have := (hP k q h2).lt
      omega
end
section
/-! bounds, binds and branches of the functions; calls -/
def ib (i : Int32) (n : Nat) : Bool := decide (0 ≤ i) && decide (i.toNatClampNeg < n)
theorem ib_in {i : Int32} {n : Nat} (h : ib i n = true) : vp_in i n := by
  simp only [ib, Bool.and_eq_true, decide_eq_true_eq] at h
  intro z
  rcases z with z | z
  · exact absurd h.1 (Int32.not_le.mpr z)
  · omega
theorem ibk {α : Type} {i : Int32} {n : Nat} {K : Option α} {r : α} (h : (if ib i n = true then K else none) = some r) : vp_in i n ∧ K = some r := by
  by_cases hb : ib i n = true
  · rw [if_pos hb] at h
    exact ⟨ib_in hb, h⟩
  · rw [if_neg hb] at h
    cases h
theorem bdk {α β : Type} {o : Option α} {k : α → Option β} {r : β} (h : o.bind k = some r) : ∃ q, o = some q ∧ k q = some r := by
  cases o with
  | none => cases h
  | some q => exact ⟨q, rfl, h⟩
/-- a name for a value -/
def bnd {α β : Type} (a : α) (k : α → β) : β := k a
theorem bnk {α β : Type} {a : α} {k : α → β} {r : β} (h : bnd a k = r) : ∃ q, a = q ∧ k q = r := ⟨a, rfl, h⟩
section CALLS
variable {p : Program} {l : Launch} {e : Env} {R : Room} {s : State} {m : MethodId} {args : Array Value} {below : List Frame} {meth : Method} {c : Code} {H : Heap} {locs : List Loc} {cells slots : Nat} {Q : State → Prop}
variable {pc : Nat} {ls : Array Slot} {rest st0 : List Value} {a : Array Value} {A : Nat → Prop}
theorem tope {x y : Int32} (h : x = y) (k : W p l e R s m args below meth c H locs cells slots Q (F0 m pc ls (.int y :: rest))) : W p l e R s m args below meth c H locs cells slots Q (F0 m pc ls (.int x :: rest)) := by rw [h]; exact k
theorem ko_x {T T' : State} {L : List Loc} {free : Addr → Prop} (hL : ∀ q ∈ L, (fun _ : Addr => False) q.base) (X' : Stand p l e R s m args below meth c T' (locs ++ L) (cells + 0) (slots + 0)) : Stand p l e R s m args below meth c T' locs cells slots := by
  have hL0 : L = [] := by
    cases L with
    | nil => rfl
    | cons q L => exact (hL q List.mem_cons_self).elim
  subst hL0
  rw [List.append_nil] at X'
  exact X'
theorem ko_i {post : Int32 → Prop} (hr : va_Run p l e R s m args below meth c H locs cells slots 0 0 (F0 m pc ls st0) rest (vp_Si post a) (fun _ => False))
    (kk : ∀ r : Int32, post r → W p l e R s m args below meth c H locs cells slots Q (F0 m (pc + 3) ls (.int r :: rest))) : W p l e R s m args below meth c H locs cells slots Q (F0 m pc ls st0) := by
  intro T hT X
  obtain ⟨v, st₀, t, T', L, h0, X', hL, e1, e2, ⟨r, hv, hp, hh⟩, st⟩ := hr T hT X
  cases hv
  obtain ⟨t2, a1, b1⟩ := kk r hp T' (by rw [e1, hh, h0]) (ko_x (T := T) (free := fun _ => False) hL X')
  exact ⟨t2, st t2 a1, b1⟩
theorem ko_q {post : Option Nat → Prop} (hr : va_Run p l e R s m args below meth c H locs cells slots 0 0 (F0 m pc ls st0) rest (va_Sq post a) (fun _ => False))
    (kk : ∀ r : Option Nat, post r → W p l e R s m args below meth c H locs cells slots Q (F0 m (pc + 3) ls (va_rf r :: rest))) : W p l e R s m args below meth c H locs cells slots Q (F0 m pc ls st0) := by
  intro T hT X
  obtain ⟨v, st₀, t, T', L, h0, X', hL, e1, e2, ⟨r, hv, hp, hh⟩, st⟩ := hr T hT X
  cases hv
  obtain ⟨t2, a1, b1⟩ := kk r hp T' (by rw [e1, hh, h0]) (ko_x (T := T) (free := fun _ => False) hL X')
  exact ⟨t2, st t2 a1, b1⟩
variable {S : Type} {D : va_G} {cl : List vw_C} {ws wc : va_W} {wc' : S → va_W}
theorem kw_i {post : Int32 → S → Prop} (hr : va_Run p l e R s m args below meth c H locs cells slots 0 0 (F0 m pc ls st0) rest (va_Qi post (fun u t => va_P D cl (wc' u) t.heap) (va_A wc H.size) a) (va_A wc H.size)) (hP : va_P D cl ws H) (hD : va_D A ws) (hS : va_S A s.heap H locs) (hA : ∀ q, s.heap.size ≤ q → A q) (is : List Nat) (hn : va_nd is = true) (hC : is.map (fun i => ws[i]?) = wc.map some) (hadr : ∀ u, (wc' u).map Prod.fst = wc.map Prod.fst)
    (kk : ∀ (r : Int32) (u : S) (H1 : Heap) (locs1 : List Loc), post r u → va_P D cl (pbl ws is (wc' u)) H1 → va_D A (pbl ws is (wc' u)) → va_S A s.heap H1 locs1 → W p l e R s m args below meth c H1 locs1 cells slots Q (F0 m (pc + 3) ls (.int r :: rest))) : W p l e R s m args below meth c H locs cells slots Q (F0 m pc ls st0) := by
  have hF := va_free hD hS hA is hC
  refine va_calli hr hS (fun q _ h => hF q h) hF (fun r u t H1 locs1 ht hvm hp hb hz hk hS1 => ?_)
  rw [ht] at hb
  obtain ⟨h1, h2⟩ := pb hP hD is hn hC (hadr u) hk hb
  exact kk r u H1 locs1 hp h1 h2 hS1
theorem kw_v {post : S → Prop} (hr : va_Run p l e R s m args below meth c H locs cells slots 0 0 (F0 m pc ls st0) rest (va_Qv post (fun u t => va_P D cl (wc' u) t.heap) (va_A wc H.size) a) (va_A wc H.size)) (hP : va_P D cl ws H) (hD : va_D A ws) (hS : va_S A s.heap H locs) (hA : ∀ q, s.heap.size ≤ q → A q) (is : List Nat) (hn : va_nd is = true) (hC : is.map (fun i => ws[i]?) = wc.map some) (hadr : ∀ u, (wc' u).map Prod.fst = wc.map Prod.fst)
    (kk : ∀ (u : S) (H1 : Heap) (locs1 : List Loc), post u → va_P D cl (pbl ws is (wc' u)) H1 → va_D A (pbl ws is (wc' u)) → va_S A s.heap H1 locs1 → W p l e R s m args below meth c H1 locs1 cells slots Q (F0 m (pc + 3) ls rest)) : W p l e R s m args below meth c H locs cells slots Q (F0 m pc ls st0) := by
  have hF := va_free hD hS hA is hC
  refine va_callv hr hS (fun q _ h => hF q h) hF (fun u t H1 locs1 ht hvm hp hb hz hk hS1 => ?_)
  rw [ht] at hb
  obtain ⟨h1, h2⟩ := pb hP hD is hn hC (hadr u) hk hb
  exact kk u H1 locs1 hp h1 h2 hS1
end CALLS
theorem atH {D : va_G} {cl : List vw_C} {w : va_W} {t : State} {H : Heap} (ht : t.heap = H) (hP : va_P D cl w H) : va_P D cl w t.heap := by rw [ht]; exact hP
end
section
/-! worlds of the objects; links between nest mates; small rows -/
abbrev w_X0 (g : CX) (h0 h1 h2 : Nat) (x : BD) : va_W := [(h0, .inr (0, [.ref h1, .ref h2])), (h1, .inl (g.2.1, 288, .inl x.1)), (h2, .inl (g.2.1, 288, .inl x.2))]
abbrev w_X1 (g : CX) (h0 h1 h2 h3 h4 : Nat) (x : FD) : va_W := [(h0, .inr (1, [.ref h1, .ref h2, .ref h3, .ref h4])), (h1, .inl (g.2.1, 6, .inl x.1)), (h2, .inl (g.2.1, 6, .inl x.2.1)), (h3, .inl (g.2.1, 6, .inl x.2.2.1)), (h4, .inl (g.2.1, 6, .inl x.2.2.2))]
abbrev w_X5 (g : CX) (h0 h1 h2 h3 h4 : Nat) (x : LD) : va_W := [(h0, .inr (4, [.ref h1, .ref h2, .ref h3, .ref h4])), (h1, .inl (g.2.1, 48, .inl x.1)), (h2, .inl (g.2.1, 48, .inl x.2.1)), (h3, .inl (g.2.1, 48, .inl x.2.2.1)), (h4, .inl (g.2.1, 48, .inl x.2.2.2))]
abbrev w_X7 (g : CX) (h0 h1 : Nat) (x : TD) : va_W := [(h0, .inr (6, [.ref h1, .int x.2.1, .int x.2.2.1, .int x.2.2.2.1, .int x.2.2.2.2.1, .int x.2.2.2.2.2.1, .int x.2.2.2.2.2.2])), (h1, .inl (g.2.1, 4, .inl x.1))]
abbrev w_X3 (g : CX) (h0 h1 : Nat) (x : PD) : va_W := [(h0, .inr (3, [.ref h1, .int x.2.1, .int x.2.2.1, .int x.2.2.2.1, .int x.2.2.2.2.1, .int x.2.2.2.2.2.1, .int x.2.2.2.2.2.2.1, .int x.2.2.2.2.2.2.2.1, .int x.2.2.2.2.2.2.2.2.1, .int x.2.2.2.2.2.2.2.2.2.1, .int x.2.2.2.2.2.2.2.2.2.2])), (h1, .inl (g.2.2.1, 80, .inl x.1))]
abbrev w_X9 (g : CX) (h0 h1 h2 h3 : Nat) (x : MD) : va_W := [(h0, .inr (8, [.ref h1, .int x.2.1, .int x.2.2.1, .ref h2, .int x.2.2.2.2.1, .int x.2.2.2.2.2.1, .int x.2.2.2.2.2.2.1, .ref h3, .int x.2.2.2.2.2.2.2.2.1, .int x.2.2.2.2.2.2.2.2.2.1, .int x.2.2.2.2.2.2.2.2.2.2])), (h1, .inl (g.2.1, 5845, .inl x.1)), (h2, .inl (g.2.2.1, 80, .inl x.2.2.2.1)), (h3, .inl (g.2.1, 246, .inl x.2.2.2.2.2.2.2.1))]
abbrev w_X6 (g : CX) (a : Nat → Nat) (x : SD) : va_W := [((a 0), .inr (5, [.int x.1, .int x.2.1, .ref (a 1), .ref (a 2), .ref (a 3), .ref (a 6), .ref (a 11), .ref (a 16)])), ((a 1), .inl (g.2.1, 16, .inl x.2.2.1)), ((a 2), .inl (g.2.1, 16, .inl x.2.2.2.1)), ((a 3), .inr (0, [.ref (a 4), .ref (a 5)])), ((a 4), .inl (g.2.1, 288, .inl x.2.2.2.2.1.1)), ((a 5), .inl (g.2.1, 288, .inl x.2.2.2.2.1.2)), ((a 6), .inr (4, [.ref (a 7), .ref (a 8), .ref (a 9), .ref (a 10)])), ((a 7), .inl (g.2.1, 48, .inl x.2.2.2.2.2.1.1)), ((a 8), .inl (g.2.1, 48, .inl x.2.2.2.2.2.1.2.1)), ((a 9), .inl (g.2.1, 48, .inl x.2.2.2.2.2.1.2.2.1)), ((a 10), .inl (g.2.1, 48, .inl x.2.2.2.2.2.1.2.2.2)), ((a 11), .inr (1, [.ref (a 12), .ref (a 13), .ref (a 14), .ref (a 15)])), ((a 12), .inl (g.2.1, 6, .inl x.2.2.2.2.2.2.1.1)), ((a 13), .inl (g.2.1, 6, .inl x.2.2.2.2.2.2.1.2.1)), ((a 14), .inl (g.2.1, 6, .inl x.2.2.2.2.2.2.1.2.2.1)), ((a 15), .inl (g.2.1, 6, .inl x.2.2.2.2.2.2.1.2.2.2)), ((a 16), .inr (6, [.ref (a 17), .int x.2.2.2.2.2.2.2.2.1, .int x.2.2.2.2.2.2.2.2.2.1, .int x.2.2.2.2.2.2.2.2.2.2.1, .int x.2.2.2.2.2.2.2.2.2.2.2.1, .int x.2.2.2.2.2.2.2.2.2.2.2.2.1, .int x.2.2.2.2.2.2.2.2.2.2.2.2.2])), ((a 17), .inl (g.2.1, 4, .inl x.2.2.2.2.2.2.2.1))]
theorem nw_0 {g : CX} {s : State} {A : Array Value} (h : KX g s) : (Cond.methodLinkNest "HookHours$State" 27 yX0_init "HookHours").before A s = true := h.nF (List.mem_of_getElem? (i := 0) rfl)
theorem nw_1 {g : CX} {s : State} {A : Array Value} (h : KX g s) : (Cond.fieldLinkNest "HookHours$State" 210 "HookHours$Slots" "weights" "[I" "HookHours").before A s = true := h.nF (List.mem_of_getElem? (i := 1) rfl)
theorem nw_2 {g : CX} {s : State} {A : Array Value} (h : KX g s) : (Cond.fieldLinkNest "HookHours" 173 "HookHours$Slots" "weights" "[I" "HookHours").before A s = true := h.nF (List.mem_of_getElem? (i := 2) rfl)
theorem nw_3 {g : CX} {s : State} {A : Array Value} (h : KX g s) : (Cond.fieldLinkNest "HookHours$State" 174 "HookHours$Slots" "prices" "[I" "HookHours").before A s = true := h.nF (List.mem_of_getElem? (i := 3) rfl)
theorem nw_4 {g : CX} {s : State} {A : Array Value} (h : KX g s) : (Cond.fieldLinkNest "HookHours" 176 "HookHours$Slots" "prices" "[I" "HookHours").before A s = true := h.nF (List.mem_of_getElem? (i := 4) rfl)
theorem nw_5 {g : CX} {s : State} {A : Array Value} (h : KX g s) : (Cond.fieldLinkNest "HookHours$State" 218 "HookHours$Slots" "reasons" "[I" "HookHours").before A s = true := h.nF (List.mem_of_getElem? (i := 5) rfl)
theorem nw_6 {g : CX} {s : State} {A : Array Value} (h : KX g s) : (Cond.fieldLinkNest "HookHours" 188 "HookHours$Slots" "reasons" "[I" "HookHours").before A s = true := h.nF (List.mem_of_getElem? (i := 6) rfl)
theorem nw_7 {g : CX} {s : State} {A : Array Value} (h : KX g s) : (Cond.fieldLinkNest "HookHours$State" 93 "HookHours$Firms" "purses" "[I" "HookHours").before A s = true := h.nF (List.mem_of_getElem? (i := 7) rfl)
theorem nw_8 {g : CX} {s : State} {A : Array Value} (h : KX g s) : (Cond.fieldLinkNest "HookHours" 127 "HookHours$Firms" "purses" "[I" "HookHours").before A s = true := h.nF (List.mem_of_getElem? (i := 8) rfl)
theorem nw_9 {g : CX} {s : State} {A : Array Value} (h : KX g s) : (Cond.fieldLinkNest "HookHours$State" 202 "HookHours$Firms" "lifts" "[I" "HookHours").before A s = true := h.nF (List.mem_of_getElem? (i := 9) rfl)
theorem nw_10 {g : CX} {s : State} {A : Array Value} (h : KX g s) : (Cond.fieldLinkNest "HookHours" 148 "HookHours$Firms" "lifts" "[I" "HookHours").before A s = true := h.nF (List.mem_of_getElem? (i := 10) rfl)
theorem nw_11 {g : CX} {s : State} {A : Array Value} (h : KX g s) : (Cond.fieldLinkNest "HookHours" 151 "HookHours$Firms" "paid" "[I" "HookHours").before A s = true := h.nF (List.mem_of_getElem? (i := 11) rfl)
theorem nw_12 {g : CX} {s : State} {A : Array Value} (h : KX g s) : (Cond.fieldLinkNest "HookHours" 154 "HookHours$Firms" "traded" "[I" "HookHours").before A s = true := h.nF (List.mem_of_getElem? (i := 12) rfl)
theorem nw_13 {g : CX} {s : State} {A : Array Value} (h : KX g s) : (Cond.methodLinkNest "HookHours$State" 48 yX7_init "HookHours").before A s = true := h.nF (List.mem_of_getElem? (i := 13) rfl)
theorem nw_14 {g : CX} {s : State} {A : Array Value} (h : KX g s) : (Cond.fieldLinkNest "HookHours$State" 212 "HookHours$Totals" "without" "[I" "HookHours").before A s = true := h.nF (List.mem_of_getElem? (i := 14) rfl)
theorem nw_15 {g : CX} {s : State} {A : Array Value} (h : KX g s) : (Cond.fieldLinkNest "HookHours$State" 180 "HookHours$Totals" "yard" "I" "HookHours").before A s = true := h.nF (List.mem_of_getElem? (i := 15) rfl)
theorem nw_16 {g : CX} {s : State} {A : Array Value} (h : KX g s) : (Cond.fieldLinkNest "HookHours$State" 221 "HookHours$Totals" "refunds" "I" "HookHours").before A s = true := h.nF (List.mem_of_getElem? (i := 16) rfl)
theorem nw_17 {g : CX} {s : State} {A : Array Value} (h : KX g s) : (Cond.fieldLinkNest "HookHours$State" 116 "HookHours$Totals" "funded" "I" "HookHours").before A s = true := h.nF (List.mem_of_getElem? (i := 17) rfl)
theorem nw_18 {g : CX} {s : State} {A : Array Value} (h : KX g s) : (Cond.fieldLinkNest "HookHours$State" 193 "HookHours$Totals" "trades" "I" "HookHours").before A s = true := h.nF (List.mem_of_getElem? (i := 18) rfl)
theorem nw_19 {g : CX} {s : State} {A : Array Value} (h : KX g s) : (Cond.fieldLinkNest "HookHours$State" 205 "HookHours$Totals" "lifts" "I" "HookHours").before A s = true := h.nF (List.mem_of_getElem? (i := 19) rfl)
theorem nw_20 {g : CX} {s : State} {A : Array Value} (h : KX g s) : (Cond.fieldLinkNest "HookHours$State" 207 "HookHours$Totals" "weights" "I" "HookHours").before A s = true := h.nF (List.mem_of_getElem? (i := 20) rfl)
theorem nw_21 {g : CX} {s : State} {A : Array Value} (h : KX g s) : (Cond.fieldLinkNest "HookHours" 206 "HookHours$State" "expected" "[I" "HookHours").before A s = true := h.nF (List.mem_of_getElem? (i := 21) rfl)
theorem nw_22 {g : CX} {s : State} {A : Array Value} (h : KX g s) : (Cond.fieldLinkNest "HookHours" 203 "HookHours$State" "blown" "[I" "HookHours").before A s = true := h.nF (List.mem_of_getElem? (i := 22) rfl)
theorem nw_23 {g : CX} {s : State} {A : Array Value} (h : KX g s) : (Cond.fieldLinkNest "HookHours" 110 "HookHours$State" "bids" "LHookHours$Bids;" "HookHours").before A s = true := h.nF (List.mem_of_getElem? (i := 23) rfl)
theorem nw_24 {g : CX} {s : State} {A : Array Value} (h : KX g s) : (Cond.fieldLinkNest "HookHours" 164 "HookHours$State" "slots" "LHookHours$Slots;" "HookHours").before A s = true := h.nF (List.mem_of_getElem? (i := 24) rfl)
theorem nw_25 {g : CX} {s : State} {A : Array Value} (h : KX g s) : (Cond.fieldLinkNest "HookHours" 123 "HookHours$State" "firms" "LHookHours$Firms;" "HookHours").before A s = true := h.nF (List.mem_of_getElem? (i := 25) rfl)
theorem nw_26 {g : CX} {s : State} {A : Array Value} (h : KX g s) : (Cond.methodLinkNest "HookHours" 35 yX3_init "HookHours").before A s = true := h.nF (List.mem_of_getElem? (i := 26) rfl)
theorem nw_27 {g : CX} {s : State} {A : Array Value} (h : KX g s) : (Cond.fieldLinkNest "HookHours" 231 "HookHours$Plan" "kind" "I" "HookHours").before A s = true := h.nF (List.mem_of_getElem? (i := 27) rfl)
theorem nw_28 {g : CX} {s : State} {A : Array Value} (h : KX g s) : (Cond.fieldLinkNest "HookHours" 234 "HookHours$Plan" "firm" "I" "HookHours").before A s = true := h.nF (List.mem_of_getElem? (i := 28) rfl)
theorem nw_29 {g : CX} {s : State} {A : Array Value} (h : KX g s) : (Cond.fieldLinkNest "HookHours" 237 "HookHours$Plan" "crane" "I" "HookHours").before A s = true := h.nF (List.mem_of_getElem? (i := 29) rfl)
theorem nw_30 {g : CX} {s : State} {A : Array Value} (h : KX g s) : (Cond.fieldLinkNest "HookHours" 240 "HookHours$Plan" "hour" "I" "HookHours").before A s = true := h.nF (List.mem_of_getElem? (i := 30) rfl)
theorem nw_31 {g : CX} {s : State} {A : Array Value} (h : KX g s) : (Cond.fieldLinkNest "HookHours" 243 "HookHours$Plan" "weight" "I" "HookHours").before A s = true := h.nF (List.mem_of_getElem? (i := 31) rfl)
theorem nw_32 {g : CX} {s : State} {A : Array Value} (h : KX g s) : (Cond.fieldLinkNest "HookHours" 246 "HookHours$Plan" "coins" "I" "HookHours").before A s = true := h.nF (List.mem_of_getElem? (i := 32) rfl)
theorem nw_33 {g : CX} {s : State} {A : Array Value} (h : KX g s) : (Cond.fieldLinkNest "HookHours" 249 "HookHours$Plan" "wind" "I" "HookHours").before A s = true := h.nF (List.mem_of_getElem? (i := 33) rfl)
theorem nw_34 {g : CX} {s : State} {A : Array Value} (h : KX g s) : (Cond.methodLinkNest "HookHours$State" 100 yX8_isHour "HookHours").before A s = true := h.nF (List.mem_of_getElem? (i := 34) rfl)
theorem nw_35 {g : CX} {s : State} {A : Array Value} (h : KX g s) : (Cond.methodLinkNest "HookHours$State" 103 yX8_isWind "HookHours").before A s = true := h.nF (List.mem_of_getElem? (i := 35) rfl)
theorem nw_36 {g : CX} {s : State} {A : Array Value} (h : KX g s) : (Cond.methodLinkNest "HookHours$State" 110 yX8_isFirm "HookHours").before A s = true := h.nF (List.mem_of_getElem? (i := 36) rfl)
theorem nw_37 {g : CX} {s : State} {A : Array Value} (h : KX g s) : (Cond.methodLinkNest "HookHours$State" 119 yX8_isSlot "HookHours").before A s = true := h.nF (List.mem_of_getElem? (i := 37) rfl)
theorem nw_38 {g : CX} {s : State} {A : Array Value} (h : KX g s) : (Cond.methodLinkNest "HookHours$State" 123 yX8_isLift "HookHours").before A s = true := h.nF (List.mem_of_getElem? (i := 38) rfl)
theorem nw_39 {g : CX} {s : State} {A : Array Value} (h : KX g s) : (Cond.methodLinkNest "HookHours$State" 79 yX8_slotOf "HookHours").before A s = true := h.nF (List.mem_of_getElem? (i := 39) rfl)
theorem nw_40 {g : CX} {s : State} {A : Array Value} (h : KX g s) : (Cond.methodLinkNest "HookHours$State" 90 yX8_heaviestAt "HookHours").before A s = true := h.nF (List.mem_of_getElem? (i := 40) rfl)
theorem nar_b {x : Int32} (h : x = 0 ∨ x = 1) : narrow .boolean (.int x) = .int x := by rcases h with rfl | rfl <;> rfl
theorem fit_b {x : Int32} (h : x = 0 ∨ x = 1) : fits .boolean (.int x) = true := by rcases h with rfl | rfl <;> rfl
end
section
def fX4_put (f0 : AF) (n0 : Nat) (p1 : Int32) (p2 : Int32) : Option (AF) := (if p1 < 0 then some f0 else (if (nI n0) ≤ p1 then some f0 else (if ib p1 n0 = true then some (upd f0 p1.toNatClampNeg p2) else none)))
abbrev rm_X4_put : Jvm.Room := { frames := 0, cells := 0, slots := 0, locals := 0 }
theorem hs_X4_put : yX4_put.cls ≠ "java/lang/invoke/MethodHandle" ∧ yX4_put.cls ≠ "java/lang/invoke/VarHandle" ∧ (parseMethodDescriptor yX4_put.desc).map (fun d => d.parameters.length) = some 3 := by decide +kernel
set_option maxHeartbeats 4000000 in
set_option maxRecDepth 100000 in
theorem kX4_put (l : Launch) (g : CX) (t0 : Nat) (sz : Nat) (f0 : AF) (n0 : Nat) (p1 : Int32) (p2 : Int32) (res : AF) (hm0 : fX4_put f0 n0 p1 p2 = some res) : Met l yX4_put (wg yX4_put cX4_put 3 none) rm_X4_put (PW g [.ref t0, .int p1, .int p2] sz ([(t0, .inl (g.2.1, n0, .inl f0))])) (va_Qv (fun u => u = res) (fun u t => va_P g.1 vwCl ([(t0, .inl (g.2.1, n0, .inl u))]) t.heap) (va_A ([(t0, .inl (g.2.1, n0, .inl f0))]) sz)) 0 0 (va_A ([(t0, .inl (g.2.1, n0, .inl f0))]) sz) := by
  refine Met.ofW (cc := cX4_put) (maxL := 3) (ret := none) (by decide) rfl ?_
  intro p e s m args below meth c s₁ B hml hv
  obtain ⟨rfl, hsz, hP, hK, hD0, hL⟩ := hv
  have hx := B.exec
  have hb := B.bytes
  have hr := B.returns
  have htG := wg_G (atoms_spec (ws := wg yX4_put cX4_put 3 none) B.pre)
  have hown : s.vm.findClass RX4 = some m.cls := findClass_of_methodNamed B.named
  have hlocks := B.notSynchronized
  subst hsz
  have hD := hD0.self (sz := s.heap.size)
  generalize hAe : va_A ([(t0, .inl (g.2.1, n0, .inl f0))]) s.heap.size = A at hD hL ⊢
  have hA : ∀ q : Nat, s.heap.size ≤ q → A q := fun q h => by rw [← hAe]; exact Or.inr h
  have hS : va_S A s.heap s.heap [] := va_S.rf
  have hl := lv_entry ([.ref t0, .int p1, .int p2]) (n := 3) (Nat.le_of_ble_eq_true rfl)
  rw [lg_entry_eq]
  generalize (lg_sl ([.ref t0, .int p1, .int p2]) ++ List.replicate (3 - (lg_sl ([.ref t0, .int p1, .int p2])).length) Slot.unset).toArray = ls at hl ⊢
  have hl : lv_has ls 3 [(0, .ref t0), (1, .int p1), (2, .int p2)] := hl
  have hm := hm0
  unfold fX4_put at hm
  refine lv_aload_n hx hb dX4_put_0 rfl (lv_at hl 0 rfl) ?_
  refine lv_ifnull hx hb dX4_put_1 ?_
  refine lv_iload_n hx hb dX4_put_4 rfl (lv_at hl 1 rfl) ?_
  refine lv_if_lt (tgt := 18) hx hb dX4_put_5 (by decide) (fun c1 => ?_) (fun c1 => ?_)
  · replace hm := (if_pos c1).symm.trans hm
    exact W.vret hx hb hr (fun t ht hW => ⟨⟨_, rfl, (Option.some.inj hm), atH ht hP⟩, hS.F ht⟩) hS.2.2 dX4_put_18
  · replace hm := (if_neg c1).symm.trans hm
    refine lv_iload_n hx hb dX4_put_8 rfl (lv_at hl 1 rfl) ?_
    refine lv_aload_n hx hb dX4_put_9 rfl (lv_at hl 0 rfl) ?_
    refine va_alen hx hb hK.1 hP 0 0 rfl rfl (v := (nI n0)) rfl dX4_put_10 ?_
    refine lv_icmp_ge (tgt := 18) hx hb dX4_put_11 (by decide) (fun c2 => ?_) (fun c2 => ?_)
    · replace hm := (if_pos c2).symm.trans hm
      exact W.vret hx hb hr (fun t ht hW => ⟨⟨_, rfl, (Option.some.inj hm), atH ht hP⟩, hS.F ht⟩) hS.2.2 dX4_put_18
    · replace hm := (if_neg c2).symm.trans hm
      refine lv_aload_n hx hb dX4_put_14 rfl (lv_at hl 0 rfl) ?_
      refine lv_iload_n hx hb dX4_put_15 rfl (lv_at hl 1 rfl) ?_
      refine lv_iload_n hx hb dX4_put_16 rfl (lv_at hl 2 rfl) ?_
      obtain ⟨b3, hm⟩ := ibk hm
      refine va_iast hx hb hK.1 hP hD hS 0 0 rfl rfl b3 dX4_put_17 (fun H locs hP hD hS => ?_)
      have hP : va_P g.1 vwCl ([(t0, .inl (g.2.1, n0, .inl (upd f0 p1.toNatClampNeg p2)))]) H := hP
      have hD : va_D A ([(t0, .inl (g.2.1, n0, .inl (upd f0 p1.toNatClampNeg p2)))]) := hD
      exact W.vret hx hb hr (fun t ht hW => ⟨⟨_, rfl, (Option.some.inj hm), atH ht hP⟩, hS.F ht⟩) hS.2.2 dX4_put_18
def fX4_add (f0 : AF) (n0 : Nat) (p1 : Int32) (p2 : Int32) : Option (AF) := (if p1 < 0 then some f0 else (if (nI n0) ≤ p1 then some f0 else (if ib p1 n0 = true then some (upd f0 p1.toNatClampNeg ((f0 p1.toNatClampNeg) + p2)) else none)))
abbrev rm_X4_add : Jvm.Room := { frames := 0, cells := 0, slots := 0, locals := 0 }
theorem hs_X4_add : yX4_add.cls ≠ "java/lang/invoke/MethodHandle" ∧ yX4_add.cls ≠ "java/lang/invoke/VarHandle" ∧ (parseMethodDescriptor yX4_add.desc).map (fun d => d.parameters.length) = some 3 := by decide +kernel
set_option maxHeartbeats 4000000 in
set_option maxRecDepth 100000 in
theorem kX4_add (l : Launch) (g : CX) (t0 : Nat) (sz : Nat) (f0 : AF) (n0 : Nat) (p1 : Int32) (p2 : Int32) (res : AF) (hm0 : fX4_add f0 n0 p1 p2 = some res) : Met l yX4_add (wg yX4_add cX4_add 3 none) rm_X4_add (PW g [.ref t0, .int p1, .int p2] sz ([(t0, .inl (g.2.1, n0, .inl f0))])) (va_Qv (fun u => u = res) (fun u t => va_P g.1 vwCl ([(t0, .inl (g.2.1, n0, .inl u))]) t.heap) (va_A ([(t0, .inl (g.2.1, n0, .inl f0))]) sz)) 0 0 (va_A ([(t0, .inl (g.2.1, n0, .inl f0))]) sz) := by
  refine Met.ofW (cc := cX4_add) (maxL := 3) (ret := none) (by decide) rfl ?_
  intro p e s m args below meth c s₁ B hml hv
  obtain ⟨rfl, hsz, hP, hK, hD0, hL⟩ := hv
  have hx := B.exec
  have hb := B.bytes
  have hr := B.returns
  have htG := wg_G (atoms_spec (ws := wg yX4_add cX4_add 3 none) B.pre)
  have hown : s.vm.findClass RX4 = some m.cls := findClass_of_methodNamed B.named
  have hlocks := B.notSynchronized
  subst hsz
  have hD := hD0.self (sz := s.heap.size)
  generalize hAe : va_A ([(t0, .inl (g.2.1, n0, .inl f0))]) s.heap.size = A at hD hL ⊢
  have hA : ∀ q : Nat, s.heap.size ≤ q → A q := fun q h => by rw [← hAe]; exact Or.inr h
  have hS : va_S A s.heap s.heap [] := va_S.rf
  have hl := lv_entry ([.ref t0, .int p1, .int p2]) (n := 3) (Nat.le_of_ble_eq_true rfl)
  rw [lg_entry_eq]
  generalize (lg_sl ([.ref t0, .int p1, .int p2]) ++ List.replicate (3 - (lg_sl ([.ref t0, .int p1, .int p2])).length) Slot.unset).toArray = ls at hl ⊢
  have hl : lv_has ls 3 [(0, .ref t0), (1, .int p1), (2, .int p2)] := hl
  have hm := hm0
  unfold fX4_add at hm
  refine lv_aload_n hx hb dX4_add_0 rfl (lv_at hl 0 rfl) ?_
  refine lv_ifnull hx hb dX4_add_1 ?_
  refine lv_iload_n hx hb dX4_add_4 rfl (lv_at hl 1 rfl) ?_
  refine lv_if_lt (tgt := 21) hx hb dX4_add_5 (by decide) (fun c1 => ?_) (fun c1 => ?_)
  · replace hm := (if_pos c1).symm.trans hm
    exact W.vret hx hb hr (fun t ht hW => ⟨⟨_, rfl, (Option.some.inj hm), atH ht hP⟩, hS.F ht⟩) hS.2.2 dX4_add_21
  · replace hm := (if_neg c1).symm.trans hm
    refine lv_iload_n hx hb dX4_add_8 rfl (lv_at hl 1 rfl) ?_
    refine lv_aload_n hx hb dX4_add_9 rfl (lv_at hl 0 rfl) ?_
    refine va_alen hx hb hK.1 hP 0 0 rfl rfl (v := (nI n0)) rfl dX4_add_10 ?_
    refine lv_icmp_ge (tgt := 21) hx hb dX4_add_11 (by decide) (fun c2 => ?_) (fun c2 => ?_)
    · replace hm := (if_pos c2).symm.trans hm
      exact W.vret hx hb hr (fun t ht hW => ⟨⟨_, rfl, (Option.some.inj hm), atH ht hP⟩, hS.F ht⟩) hS.2.2 dX4_add_21
    · replace hm := (if_neg c2).symm.trans hm
      refine lv_aload_n hx hb dX4_add_14 rfl (lv_at hl 0 rfl) ?_
      refine lv_iload_n hx hb dX4_add_15 rfl (lv_at hl 1 rfl) ?_
      refine lv_dup2_11 hx hb dX4_add_16 rfl rfl ?_
      obtain ⟨b3, hm⟩ := ibk hm
      refine va_iald hx hb hK.1 hP 0 0 rfl rfl b3 dX4_add_17 ?_
      refine lv_iload_n hx hb dX4_add_18 rfl (lv_at hl 2 rfl) ?_
      refine lv_iadd hx hb dX4_add_19 ?_
      refine va_iast hx hb hK.1 hP hD hS 0 0 rfl rfl b3 dX4_add_20 (fun H locs hP hD hS => ?_)
      have hP : va_P g.1 vwCl ([(t0, .inl (g.2.1, n0, .inl (upd f0 p1.toNatClampNeg ((f0 p1.toNatClampNeg) + p2))))]) H := hP
      have hD : va_D A ([(t0, .inl (g.2.1, n0, .inl (upd f0 p1.toNatClampNeg ((f0 p1.toNatClampNeg) + p2))))]) := hD
      exact W.vret hx hb hr (fun t ht hW => ⟨⟨_, rfl, (Option.some.inj hm), atH ht hP⟩, hS.F ht⟩) hS.2.2 dX4_add_21
def fX4_sum_L0 (f0 : AF) (n0 : Nat) : Nat → Int32 → Int32 → Option (Int32)
  | 0, _, _ => none
  | n + 1, i0_1, i0_2 => (if (nI n0) ≤ i0_2 then (some i0_1) else (if ib i0_2 n0 = true then (bnd (i0_1 + (f0 i0_2.toNatClampNeg)) (fun v3 => (fX4_sum_L0 f0 n0 n v3 (i0_2 + 1)))) else none))
def fX4_sum (f0 : AF) (n0 : Nat) : Option (Int32) := ((fX4_sum_L0 f0 n0 1000 0 0).bind (fun q4 => some q4))
abbrev rm_X4_sum : Jvm.Room := { frames := 0, cells := 0, slots := 0, locals := 0 }
theorem hs_X4_sum : yX4_sum.cls ≠ "java/lang/invoke/MethodHandle" ∧ yX4_sum.cls ≠ "java/lang/invoke/VarHandle" ∧ (parseMethodDescriptor yX4_sum.desc).map (fun d => d.parameters.length) = some 1 := by decide +kernel
set_option maxHeartbeats 4000000 in
set_option maxRecDepth 100000 in
theorem kX4_sum (l : Launch) (g : CX) (t0 : Nat) (f0 : AF) (n0 : Nat) (res : Int32) (hm0 : fX4_sum f0 n0 = some res) : Met l yX4_sum (wg yX4_sum cX4_sum 3 (some .int)) rm_X4_sum (PR g [.ref t0] ([(t0, .inl (g.2.1, n0, .inl f0))])) (vp_Si (fun v => v = res)) 0 0 (fun _ => False) := by
  refine Met.ofW (cc := cX4_sum) (maxL := 3) (ret := (some .int)) (by decide) rfl ?_
  intro p e s m args below meth c s₁ B hml hv
  obtain ⟨rfl, hP, hK, hL⟩ := hv
  have hx := B.exec
  have hb := B.bytes
  have hr := B.returns
  have htG := wg_G (atoms_spec (ws := wg yX4_sum cX4_sum 3 (some .int)) B.pre)
  have hown : s.vm.findClass RX4 = some m.cls := findClass_of_methodNamed B.named
  have hlocks := B.notSynchronized
  have hS : va_S (fun _ => False) s.heap s.heap [] := va_S.rf
  have hl := lv_entry ([.ref t0]) (n := 3) (Nat.le_of_ble_eq_true rfl)
  rw [lg_entry_eq]
  generalize (lg_sl ([.ref t0]) ++ List.replicate (3 - (lg_sl ([.ref t0])).length) Slot.unset).toArray = ls at hl ⊢
  have hl : lv_has ls 3 [(0, .ref t0)] := hl
  have hm := hm0
  unfold fX4_sum at hm
  refine lv_iconst (v := 0) hx hb dX4_sum_0 (by decide) ?_
  refine lv_istore_n (lv' := [(1, .int 0), (0, .ref t0)]) hx hb dX4_sum_1 rfl hl (by decide) rfl (fun ls hl => ?_)
  refine lv_aload_n hx hb dX4_sum_2 rfl (lv_at hl 1 rfl) ?_
  refine lv_ifnull hx hb dX4_sum_3 ?_
  refine lv_iconst (v := 0) hx hb dX4_sum_6 (by decide) ?_
  refine lv_istore_n (lv' := [(2, .int 0), (1, .int 0), (0, .ref t0)]) hx hb dX4_sum_7 rfl hl (by decide) rfl (fun ls hl => ?_)
  have hL0 : ∀ (Q : State → Prop), ∀ (n : Nat) (i0_1 : Int32) (i0_2 : Int32) (out : Int32) (ls : Array Slot), fX4_sum_L0 f0 n0 n i0_1 i0_2 = some out → lv_has ls 3 [(0, .ref t0), (1, .int i0_1), (2, .int i0_2)] → (∀ ls : Array Slot, lv_has ls 3 [(1, .int out)] → W p l e (headSpec (wg yX4_sum cX4_sum 3 (some .int)) rm_X4_sum).room s m (([.ref t0] : List Value).toArray) below meth c s.heap [] 0 0 Q (F0 m 26 ls [])) → W p l e (headSpec (wg yX4_sum cX4_sum 3 (some .int)) rm_X4_sum).room s m (([.ref t0] : List Value).toArray) below meth c s.heap [] 0 0 Q (F0 m 8 ls []) := by
    intro Q n
    induction n with
    | zero =>
      intro i0_1 i0_2 out ls hm hl hk
      simp [fX4_sum_L0] at hm
    | succ n ih =>
      intro i0_1 i0_2 out ls hm hl hk
      rw [fX4_sum_L0] at hm
      refine lv_iload_n hx hb dX4_sum_8 rfl (lv_at hl 2 rfl) ?_
      refine lv_aload_n hx hb dX4_sum_9 rfl (lv_at hl 0 rfl) ?_
      refine va_alen hx hb hK.1 hP 0 0 rfl rfl (v := (nI n0)) rfl dX4_sum_10 ?_
      refine lv_icmp_ge (tgt := 26) hx hb dX4_sum_11 (by decide) (fun c1 => ?_) (fun c1 => ?_)
      · replace hm := (if_pos c1).symm.trans hm
        obtain rfl := Option.some.inj hm
        exact hk ls (lv_sub hl [1] rfl)
      · replace hm := (if_neg c1).symm.trans hm
        refine lv_iload_n hx hb dX4_sum_14 rfl (lv_at hl 1 rfl) ?_
        refine lv_aload_n hx hb dX4_sum_15 rfl (lv_at hl 0 rfl) ?_
        refine lv_iload_n hx hb dX4_sum_16 rfl (lv_at hl 2 rfl) ?_
        obtain ⟨b2, hm⟩ := ibk hm
        refine va_iald hx hb hK.1 hP 0 0 rfl rfl b2 dX4_sum_17 ?_
        refine lv_iadd hx hb dX4_sum_18 ?_
        obtain ⟨v3, ev3, hm⟩ := bnk hm
        refine tope ev3 ?_
        refine lv_istore_n (lv' := [(1, .int v3), (0, .ref t0), (2, .int i0_2)]) hx hb dX4_sum_19 rfl hl (by decide) rfl (fun ls hl => ?_)
        refine lv_iinc (v := i0_2 + 1) (lv' := [(2, .int (i0_2 + 1)), (1, .int v3), (0, .ref t0)]) hx hb dX4_sum_20 hl (k := 2) rfl rfl (by decide) rfl (fun ls hl => ?_)
        refine lv_goto (tgt := 8) hx hb dX4_sum_23 (by decide) ?_
        exact ih v3 (i0_2 + 1) out ls hm (lv_sub hl [2, 1, 0] rfl) hk
  obtain ⟨q4, hq4, hm⟩ := bdk hm
  refine hL0 _ 1000 0 0 q4 _ hq4 (lv_sub hl [2, 1, 0] rfl) (fun ls hl => ?_)
  refine lv_iload_n hx hb dX4_sum_26 rfl (lv_at hl 0 rfl) ?_
  exact W.iret (v := q4) hx hb hr (fun t ht hW => ⟨_, rfl, (Option.some.inj hm), ht⟩) (fun _ h => nomatch h) dX4_sum_27
def fX4_fill_L0 (n0 : Nat) (p1 : Int32) : Nat → Int32 → AF → Option (AF)
  | 0, _, _ => none
  | n + 1, i0_2, f00 => (if (nI n0) ≤ i0_2 then (some f00) else (if ib i0_2 n0 = true then (fX4_fill_L0 n0 p1 n (i0_2 + 1) (upd f00 i0_2.toNatClampNeg p1)) else none))
def fX4_fill (f0 : AF) (n0 : Nat) (p1 : Int32) : Option (AF) := ((fX4_fill_L0 n0 p1 1000 0 f0).bind (fun q3 => some q3))
abbrev rm_X4_fill : Jvm.Room := { frames := 0, cells := 0, slots := 0, locals := 0 }
theorem hs_X4_fill : yX4_fill.cls ≠ "java/lang/invoke/MethodHandle" ∧ yX4_fill.cls ≠ "java/lang/invoke/VarHandle" ∧ (parseMethodDescriptor yX4_fill.desc).map (fun d => d.parameters.length) = some 2 := by decide +kernel
set_option maxHeartbeats 4000000 in
set_option maxRecDepth 100000 in
theorem kX4_fill (l : Launch) (g : CX) (t0 : Nat) (sz : Nat) (f0 : AF) (n0 : Nat) (p1 : Int32) (res : AF) (hm0 : fX4_fill f0 n0 p1 = some res) : Met l yX4_fill (wg yX4_fill cX4_fill 3 none) rm_X4_fill (PW g [.ref t0, .int p1] sz ([(t0, .inl (g.2.1, n0, .inl f0))])) (va_Qv (fun u => u = res) (fun u t => va_P g.1 vwCl ([(t0, .inl (g.2.1, n0, .inl u))]) t.heap) (va_A ([(t0, .inl (g.2.1, n0, .inl f0))]) sz)) 0 0 (va_A ([(t0, .inl (g.2.1, n0, .inl f0))]) sz) := by
  refine Met.ofW (cc := cX4_fill) (maxL := 3) (ret := none) (by decide) rfl ?_
  intro p e s m args below meth c s₁ B hml hv
  obtain ⟨rfl, hsz, hP, hK, hD0, hL⟩ := hv
  have hx := B.exec
  have hb := B.bytes
  have hr := B.returns
  have htG := wg_G (atoms_spec (ws := wg yX4_fill cX4_fill 3 none) B.pre)
  have hown : s.vm.findClass RX4 = some m.cls := findClass_of_methodNamed B.named
  have hlocks := B.notSynchronized
  subst hsz
  have hD := hD0.self (sz := s.heap.size)
  generalize hAe : va_A ([(t0, .inl (g.2.1, n0, .inl f0))]) s.heap.size = A at hD hL ⊢
  have hA : ∀ q : Nat, s.heap.size ≤ q → A q := fun q h => by rw [← hAe]; exact Or.inr h
  have hS : va_S A s.heap s.heap [] := va_S.rf
  have hl := lv_entry ([.ref t0, .int p1]) (n := 3) (Nat.le_of_ble_eq_true rfl)
  rw [lg_entry_eq]
  generalize (lg_sl ([.ref t0, .int p1]) ++ List.replicate (3 - (lg_sl ([.ref t0, .int p1])).length) Slot.unset).toArray = ls at hl ⊢
  have hl : lv_has ls 3 [(0, .ref t0), (1, .int p1)] := hl
  have hm := hm0
  unfold fX4_fill at hm
  refine lv_aload_n hx hb dX4_fill_0 rfl (lv_at hl 0 rfl) ?_
  refine lv_ifnull hx hb dX4_fill_1 ?_
  refine lv_iconst (v := 0) hx hb dX4_fill_4 (by decide) ?_
  refine lv_istore_n (lv' := [(2, .int 0), (0, .ref t0), (1, .int p1)]) hx hb dX4_fill_5 rfl hl (by decide) rfl (fun ls hl => ?_)
  have hL0 : ∀ (Q : State → Prop), ∀ (n : Nat) (i0_2 : Int32) (f00 : AF) (out : AF) (H : Heap) (locs : List Loc) (ls : Array Slot), fX4_fill_L0 n0 p1 n i0_2 f00 = some out → va_P g.1 vwCl ([(t0, .inl (g.2.1, n0, .inl f00))]) H → va_D A ([(t0, .inl (g.2.1, n0, .inl f00))]) → va_S A s.heap H locs → lv_has ls 3 [(0, .ref t0), (1, .int p1), (2, .int i0_2)] → (∀ (H : Heap) (locs : List Loc) (ls : Array Slot), va_P g.1 vwCl ([(t0, .inl (g.2.1, n0, .inl out))]) H → va_D A ([(t0, .inl (g.2.1, n0, .inl out))]) → va_S A s.heap H locs → lv_has ls 3 [] → W p l e (headSpec (wg yX4_fill cX4_fill 3 none) rm_X4_fill).room s m (([.ref t0, .int p1] : List Value).toArray) below meth c H locs 0 0 Q (F0 m 22 ls [])) → W p l e (headSpec (wg yX4_fill cX4_fill 3 none) rm_X4_fill).room s m (([.ref t0, .int p1] : List Value).toArray) below meth c H locs 0 0 Q (F0 m 6 ls []) := by
    intro Q n
    induction n with
    | zero =>
      intro i0_2 f00 out H locs ls hm hP hD hS hl hk
      simp [fX4_fill_L0] at hm
    | succ n ih =>
      intro i0_2 f00 out H locs ls hm hP hD hS hl hk
      rw [fX4_fill_L0] at hm
      refine lv_iload_n hx hb dX4_fill_6 rfl (lv_at hl 2 rfl) ?_
      refine lv_aload_n hx hb dX4_fill_7 rfl (lv_at hl 0 rfl) ?_
      refine va_alen hx hb hK.1 hP 0 0 rfl rfl (v := (nI n0)) rfl dX4_fill_8 ?_
      refine lv_icmp_ge (tgt := 22) hx hb dX4_fill_9 (by decide) (fun c1 => ?_) (fun c1 => ?_)
      · replace hm := (if_pos c1).symm.trans hm
        obtain rfl := Option.some.inj hm
        exact hk H locs ls hP hD hS (lv_sub hl [] rfl)
      · replace hm := (if_neg c1).symm.trans hm
        refine lv_aload_n hx hb dX4_fill_12 rfl (lv_at hl 0 rfl) ?_
        refine lv_iload_n hx hb dX4_fill_13 rfl (lv_at hl 2 rfl) ?_
        refine lv_iload_n hx hb dX4_fill_14 rfl (lv_at hl 1 rfl) ?_
        obtain ⟨b2, hm⟩ := ibk hm
        refine va_iast hx hb hK.1 hP hD hS 0 0 rfl rfl b2 dX4_fill_15 (fun H locs hP hD hS => ?_)
        have hP : va_P g.1 vwCl ([(t0, .inl (g.2.1, n0, .inl (upd f00 i0_2.toNatClampNeg p1)))]) H := hP
        have hD : va_D A ([(t0, .inl (g.2.1, n0, .inl (upd f00 i0_2.toNatClampNeg p1)))]) := hD
        refine lv_iinc (v := i0_2 + 1) (lv' := [(2, .int (i0_2 + 1)), (0, .ref t0), (1, .int p1)]) hx hb dX4_fill_16 hl (k := 2) rfl rfl (by decide) rfl (fun ls hl => ?_)
        refine lv_goto (tgt := 6) hx hb dX4_fill_19 (by decide) ?_
        exact ih (i0_2 + 1) (upd f00 i0_2.toNatClampNeg p1) out H locs ls hm hP hD hS (lv_sub hl [1, 2, 0] rfl) hk
  obtain ⟨q3, hq3, hm⟩ := bdk hm
  refine hL0 _ 1000 0 f0 q3 _ _ _ hq3 hP hD hS (lv_sub hl [1, 2, 0] rfl) (fun H locs ls hP hD hS hl => ?_)
  exact W.vret hx hb hr (fun t ht hW => ⟨⟨_, rfl, (Option.some.inj hm), atH ht hP⟩, hS.F ht⟩) hS.2.2 dX4_fill_22
end
section
/-! Rows: what its methods do in one word each; Rows.at and Rows.copy by hand -/
def rat (f : AF) (n : Nat) (i : Int32) : Int32 := if i < 0 then 0 else if nI n ≤ i then 0 else f i.toNatClampNeg
def rput (f : AF) (n : Nat) (i v : Int32) : AF := if i < 0 then f else if nI n ≤ i then f else upd f i.toNatClampNeg v
def radd (f : AF) (n : Nat) (i v : Int32) : AF := if i < 0 then f else if nI n ≤ i then f else upd f i.toNatClampNeg (f i.toNatClampNeg + v)
theorem ib_of {i : Int32} {n : Nat} (hn : n < 2 ^ 31) (h1 : ¬ i < 0) (h2 : ¬ nI n ≤ i) : ib i n = true := by
  obtain ⟨j, hj, rfl⟩ := nI_of h1
  have h3 : j < n := by
    rcases Nat.lt_or_ge j n with q | q
    · exact q
    · exact absurd (nI_le q hj) h2
  simp only [ib, Bool.and_eq_true, decide_eq_true_eq]
  exact ⟨nI_pos' hj, by rw [nI_clamp hj]; exact h3⟩
theorem t_X4_put (f : AF) (n : Nat) (i v : Int32) (hn : n < 2 ^ 31) : fX4_put f n i v = some (rput f n i v) := by
  unfold fX4_put rput
  by_cases h1 : i < 0
  · rw [if_pos h1, if_pos h1]
  · by_cases h2 : nI n ≤ i
    · rw [if_neg h1, if_neg h1, if_pos h2, if_pos h2]
    · rw [if_neg h1, if_neg h1, if_neg h2, if_neg h2, if_pos (ib_of hn h1 h2)]
theorem t_X4_add (f : AF) (n : Nat) (i v : Int32) (hn : n < 2 ^ 31) : fX4_add f n i v = some (radd f n i v) := by
  unfold fX4_add radd
  by_cases h1 : i < 0
  · rw [if_pos h1, if_pos h1]
  · by_cases h2 : nI n ≤ i
    · rw [if_neg h1, if_neg h1, if_pos h2, if_pos h2]
    · rw [if_neg h1, if_neg h1, if_neg h2, if_neg h2, if_pos (ib_of hn h1 h2)]
/-- the first n numbers together; the first n numbers all v -/
def rsum (f : AF) : Nat → Int32
  | 0 => 0
  | n + 1 => rsum f n + f n
def rfill (f : AF) (n : Nat) (v : Int32) : AF := fun j => if j < n then v else f j
theorem ib_nI {k n : Nat} (hn : n < 2 ^ 31) (h : k < n) : ib (nI k) n = true := by
  simp only [ib, Bool.and_eq_true, decide_eq_true_eq]
  exact ⟨nI_pos' (by omega), by rw [nI_clamp (by omega)]; exact h⟩
theorem sumL (f : AF) (n : Nat) (hn : n < 2 ^ 31) : ∀ (d k fu : Nat) (a : Int32), k + d = n → d < fu → a = rsum f k → fX4_sum_L0 f n fu a (nI k) = some (rsum f n) := by
  intro d
  induction d with
  | zero =>
    intro k fu a hk hf ha
    obtain ⟨fu, rfl⟩ : ∃ q, fu = q + 1 := ⟨fu - 1, by omega⟩
    rw [fX4_sum_L0, if_pos (by rw [show k = n by omega]; exact Int32.le_refl _), ha, show k = n by omega]
  | succ d ih =>
    intro k fu a hk hf ha
    obtain ⟨fu, rfl⟩ : ∃ q, fu = q + 1 := ⟨fu - 1, by omega⟩
    rw [fX4_sum_L0, if_neg (nI_ge (by omega) hn), if_pos (ib_nI hn (by omega)), nI_clamp (by omega), nI_1]
    exact ih (k + 1) fu _ (by omega) (by omega) (by rw [ha]; rfl)
theorem t_X4_sum (f : AF) (n : Nat) (hn : n < 1000) : fX4_sum f n = some (rsum f n) := by
  unfold fX4_sum
  have h := sumL f n (by omega) n 0 1000 0 (by omega) (by omega) rfl
  rw [nI_0] at h
  rw [h]; rfl
theorem fillL (v : Int32) (n : Nat) (hn : n < 2 ^ 31) (f0 : AF) : ∀ (d k fu : Nat) (f : AF), k + d = n → d < fu → f = rfill f0 k v → fX4_fill_L0 n v fu (nI k) f = some (rfill f0 n v) := by
  intro d
  induction d with
  | zero =>
    intro k fu f hk hf ha
    obtain ⟨fu, rfl⟩ : ∃ q, fu = q + 1 := ⟨fu - 1, by omega⟩
    rw [fX4_fill_L0, if_pos (by rw [show k = n by omega]; exact Int32.le_refl _), ha, show k = n by omega]
  | succ d ih =>
    intro k fu f hk hf ha
    obtain ⟨fu, rfl⟩ : ∃ q, fu = q + 1 := ⟨fu - 1, by omega⟩
    rw [fX4_fill_L0, if_neg (nI_ge (by omega) hn), if_pos (ib_nI hn (by omega)), nI_clamp (by omega), nI_1]
    refine ih (k + 1) fu _ (by omega) (by omega) ?_
    funext j
    by_cases hj : j = k
    · subst hj
      simp [upd, rfill]
    · simp only [upd, rfill, ha, if_neg hj]
      by_cases h2 : j < k
      · rw [if_pos h2, if_pos (by omega)]
      · rw [if_neg h2, if_neg (by omega)]
theorem t_X4_fill (f : AF) (n : Nat) (v : Int32) (hn : n < 1000) : fX4_fill f n v = some (rfill f n v) := by
  unfold fX4_fill
  have h := fillL v n (by omega) f n 0 1000 f (by omega) (by omega) (by funext j; simp [rfill])
  rw [nI_0] at h
  rw [h]; rfl
/-- a row's content matters only within its length -/
theorem cell_congr {cA : ClassId} {n : Nat} {f h : AF} (e : ∀ j, j < n → f j = h j) : vp_cell cA (n, .inl f) = vp_cell cA (n, .inl h) := by
  rw [vp_cell_i, vp_cell_i]
  unfold arrV
  congr 1
  apply Array.ext
  · simp
  · intro i h1 h2
    simp only [Array.getElem_ofFn]
    rw [e i (by simpa using h1)]

theorem hs_X4_at : yX4_at.cls ≠ "java/lang/invoke/MethodHandle" ∧ yX4_at.cls ≠ "java/lang/invoke/VarHandle" ∧ (parseMethodDescriptor yX4_at.desc).map (fun d => d.parameters.length) = some 2 := by decide +kernel
abbrev rm_X4_at : Jvm.Room := { frames := 0, cells := 0, slots := 0, locals := 0 }
set_option maxHeartbeats 4000000 in
set_option maxRecDepth 100000 in
theorem kX4_at (l : Launch) (g : CX) (t0 : Nat) (f0 : AF) (n0 : Nat) (p1 : Int32) (hn : n0 < 2 ^ 31) : Met l yX4_at (wg yX4_at cX4_at 2 (some .int)) rm_X4_at (PT g [.ref t0, .int p1] t0 n0 f0) (vp_Si (fun v => v = rat f0 n0 p1)) 0 0 (fun _ => False) := by
  refine Met.ofW (cc := cX4_at) (maxL := 2) (ret := some .int) (by decide) rfl ?_
  intro p e s m args below meth c s₁ B hml hv
  obtain ⟨rfl, hT, hK⟩ := hv
  have hx := B.exec
  have hb := B.bytes
  have hr := B.returns
  have hlocks := B.notSynchronized
  have hS : va_S (fun _ => False) s.heap s.heap [] := va_S.rf
  have hl := lv_entry ([.ref t0, .int p1]) (n := 2) (Nat.le_of_ble_eq_true rfl)
  rw [lg_entry_eq]
  generalize (lg_sl ([.ref t0, .int p1]) ++ List.replicate (2 - (lg_sl ([.ref t0, .int p1])).length) Slot.unset).toArray = ls at hl ⊢
  have hl : lv_has ls 2 [(0, .ref t0), (1, .int p1)] := hl
  refine lv_aload_n hx hb dX4_at_0 rfl (lv_at hl 0 rfl) ?_
  refine lv_ifnull hx hb dX4_at_1 ?_
  refine lv_iload_n hx hb dX4_at_4 rfl (lv_at hl 1 rfl) ?_
  refine lv_if_lt (tgt := 20) hx hb dX4_at_5 (by decide) (fun c1 => ?_) (fun c1 => ?_)
  · refine lv_iconst (v := 0) hx hb dX4_at_20 (by decide) ?_
    exact W.iret (v := 0) hx hb hr (fun t ht hW => ⟨_, rfl, by rw [rat, if_pos c1], ht⟩) (fun _ h => nomatch h) dX4_at_21
  · refine lv_iload_n hx hb dX4_at_8 rfl (lv_at hl 1 rfl) ?_
    refine lv_aload_n hx hb dX4_at_9 rfl (lv_at hl 0 rfl) ?_
    refine va_tlen hx hb hT hS (v := nI n0) rfl dX4_at_10 ?_
    refine lv_icmp_ge (tgt := 20) hx hb dX4_at_11 (by decide) (fun c2 => ?_) (fun c2 => ?_)
    · refine lv_iconst (v := 0) hx hb dX4_at_20 (by decide) ?_
      exact W.iret (v := 0) hx hb hr (fun t ht hW => ⟨_, rfl, by rw [rat, if_neg c1, if_pos c2], ht⟩) (fun _ h => nomatch h) dX4_at_21
    · refine lv_aload_n hx hb dX4_at_14 rfl (lv_at hl 0 rfl) ?_
      refine lv_iload_n hx hb dX4_at_15 rfl (lv_at hl 1 rfl) ?_
      refine va_ti hx hb hT hS (ib_in (ib_of hn c1 c2)) rfl dX4_at_16 ?_
      refine lv_goto (tgt := 21) hx hb dX4_at_17 (by decide) ?_
      exact W.iret (v := f0 p1.toNatClampNeg) hx hb hr (fun t ht hW => ⟨_, rfl, by rw [rat, if_neg c1, if_neg c2], ht⟩) (fun _ h => nomatch h) dX4_at_21
theorem hs_X4_copy : yX4_copy.cls ≠ "java/lang/invoke/MethodHandle" ∧ yX4_copy.cls ≠ "java/lang/invoke/VarHandle" ∧ (parseMethodDescriptor yX4_copy.desc).map (fun d => d.parameters.length) = some 2 := by decide +kernel
abbrev rm_X4_copy : Jvm.Room := { frames := 1, cells := 0, slots := 0, locals := 40 }
set_option maxHeartbeats 4000000 in
set_option maxRecDepth 100000 in
theorem kX4_copy (l : Launch) (g : CX) (t0 t1 : Nat) (sz : Nat) (f0 f1 : AF) (n : Nat) (hn : n < 2 ^ 31) : Met l yX4_copy (wg yX4_copy cX4_copy 2 none) rm_X4_copy (PW g [.ref t0, .ref t1] sz ([(t0, .inl (g.2.1, n, .inl f0))] ++ [(t1, .inl (g.2.1, n, .inl f1))])) (va_Qv (fun u : AF => u = f0) (fun u t => va_P g.1 vwCl ([(t0, .inl (g.2.1, n, .inl f0))] ++ [(t1, .inl (g.2.1, n, .inl u))]) t.heap) (va_A ([(t0, .inl (g.2.1, n, .inl f0))] ++ [(t1, .inl (g.2.1, n, .inl f1))]) sz)) 0 0 (va_A ([(t0, .inl (g.2.1, n, .inl f0))] ++ [(t1, .inl (g.2.1, n, .inl f1))]) sz) := by
  refine Met.ofW (cc := cX4_copy) (maxL := 2) (ret := none) (by decide) rfl ?_
  intro p e s m args below meth c s₁ B hml hv
  obtain ⟨rfl, hsz, hP, hK, hD0, hL⟩ := hv
  have hx := B.exec
  have hb := B.bytes
  have hr := B.returns
  have htG := wg_G (atoms_spec (ws := wg yX4_copy cX4_copy 2 none) B.pre)
  have hown : s.vm.findClass RX4 = some m.cls := findClass_of_methodNamed B.named
  have hlocks := B.notSynchronized
  subst hsz
  have hD := hD0.self (sz := s.heap.size)
  generalize hAe : va_A ([(t0, .inl (g.2.1, n, .inl f0))] ++ [(t1, .inl (g.2.1, n, .inl f1))]) s.heap.size = A at hD hL ⊢
  have hS : va_S A s.heap s.heap [] := va_S.rf
  have hl := lv_entry ([.ref t0, .ref t1]) (n := 2) (Nat.le_of_ble_eq_true rfl)
  rw [lg_entry_eq]
  generalize (lg_sl ([.ref t0, .ref t1]) ++ List.replicate (2 - (lg_sl ([.ref t0, .ref t1])).length) Slot.unset).toArray = ls at hl ⊢
  have hl : lv_has ls 2 [(0, .ref t0), (1, .ref t1)] := hl
  refine lv_aload_n hx hb dX4_copy_0 rfl (lv_at hl 0 rfl) ?_
  refine lv_ifnull hx hb dX4_copy_1 ?_
  refine lv_aload_n hx hb dX4_copy_4 rfl (lv_at hl 1 rfl) ?_
  refine lv_ifnull hx hb dX4_copy_5 ?_
  refine lv_aload_n hx hb dX4_copy_8 rfl (lv_at hl 0 rfl) ?_
  refine lv_iconst (v := 0) hx hb dX4_copy_9 (by decide) ?_
  refine lv_aload_n hx hb dX4_copy_10 rfl (lv_at hl 1 rfl) ?_
  refine lv_iconst (v := 0) hx hb dX4_copy_11 (by decide) ?_
  refine lv_aload_n hx hb dX4_copy_12 rfl (lv_at hl 0 rfl) ?_
  refine va_alen hx hb hK.1 hP 0 0 rfl rfl (v := (nI n)) rfl dX4_copy_13 ?_
  refine lv_aload_n hx hb dX4_copy_14 rfl (lv_at hl 1 rfl) ?_
  refine va_alen hx hb hK.1 hP 1 0 rfl rfl (v := (nI n)) rfl dX4_copy_15 ?_
  refine va_mmin hx hb (hml.trans hl.1.symm) hown (htG _ g2_21) (htG _ g2_22) (htG _ g1_11) (htG _ g2_23) (Nat.le_of_ble_eq_true rfl) (Nat.le_of_ble_eq_true rfl) (Nat.zero_le _) (Nat.zero_le _) dX4_copy_16 ?_
  refine tope (y := nI n) (by split <;> rfl) ?_
  have hc : (nI n).toNatClampNeg = n := nI_clamp hn
  refine va_copyi hx hb (hml.trans hl.1.symm) hown (htG _ g2_24) (htG _ g2_26) (htG _ g2_25) (htG _ g1_12) hK.1 hP hD hS 0 1 0 0 rfl rfl rfl rfl rfl (by decide) (by decide) (nI_pos hn) (by rw [hc]; exact Nat.le_of_eq (Nat.zero_add _)) (by rw [hc]; exact Nat.le_of_eq (Nat.zero_add _)) (fun _ _ => rfl) (Nat.le_of_ble_eq_true rfl) (by decide +kernel) dX4_copy_19 (fun H locs hP hD hS => ?_)
  have hP2 : va_P g.1 vwCl ([(t0, .inl (g.2.1, n, .inl f0))] ++ [(t1, .inl (g.2.1, n, .inl f0))]) H := by
    intro k q hk
    match k, hk with
    | 0, hk => exact hP 0 q hk
    | 1, hk =>
      cases hk
      refine Eq.trans (hP 1 _ rfl) (congrArg some (cell_congr (fun j hj => ?_)))
      rw [hc]
      have := pk_cpy_in (f := f0) (g := f1) (sp := 0) (dp := 0) (n := n) (j := j) (Nat.zero_le _) (by omega)
      rw [Nat.zero_add, Nat.sub_zero] at this
      exact this
    | k + 2, hk => simp at hk
  exact W.vret hx hb hr (fun t ht hW => ⟨⟨_, rfl, rfl, atH ht hP2⟩, hS.F ht⟩) hS.2.2 dX4_copy_22
end
section
def fX0_cellOf (p0 : Int32) (p1 : Int32) : Int32 := ((p0 * 48) + p1)
abbrev rm_X0_cellOf : Jvm.Room := { frames := 0, cells := 0, slots := 0, locals := 0 }
theorem hs_X0_cellOf : yX0_cellOf.cls ≠ "java/lang/invoke/MethodHandle" ∧ yX0_cellOf.cls ≠ "java/lang/invoke/VarHandle" ∧ (parseMethodDescriptor yX0_cellOf.desc).map (fun d => d.parameters.length) = some 2 := by decide +kernel
set_option maxHeartbeats 4000000 in
set_option maxRecDepth 100000 in
theorem kX0_cellOf (l : Launch) (g : CX) (p0 : Int32) (p1 : Int32) (res : Int32) (hm0 : fX0_cellOf p0 p1 = res) : Met l yX0_cellOf (wg yX0_cellOf cX0_cellOf 2 (some .int)) rm_X0_cellOf (PR g [.int p0, .int p1] ([])) (vp_Si (fun v => v = res)) 0 0 (fun _ => False) := by
  refine Met.ofW (cc := cX0_cellOf) (maxL := 2) (ret := (some .int)) (by decide) rfl ?_
  intro p e s m args below meth c s₁ B hml hv
  obtain ⟨rfl, hP, hK, hL⟩ := hv
  have hx := B.exec
  have hb := B.bytes
  have hr := B.returns
  have htG := wg_G (atoms_spec (ws := wg yX0_cellOf cX0_cellOf 2 (some .int)) B.pre)
  have hown : s.vm.findClass RX0 = some m.cls := findClass_of_methodNamed B.named
  have hlocks := B.notSynchronized
  have hS : va_S (fun _ => False) s.heap s.heap [] := va_S.rf
  have hl := lv_entry ([.int p0, .int p1]) (n := 2) (Nat.le_of_ble_eq_true rfl)
  rw [lg_entry_eq]
  generalize (lg_sl ([.int p0, .int p1]) ++ List.replicate (2 - (lg_sl ([.int p0, .int p1])).length) Slot.unset).toArray = ls at hl ⊢
  have hl : lv_has ls 2 [(0, .int p0), (1, .int p1)] := hl
  have hm := hm0
  unfold fX0_cellOf at hm
  refine lv_iload_n hx hb dX0_cellOf_0 rfl (lv_at hl 0 rfl) ?_
  refine lv_bipush (v := 48) hx hb dX0_cellOf_1 (by decide +kernel) ?_
  refine lv_imul hx hb dX0_cellOf_3 ?_
  refine lv_iload_n hx hb dX0_cellOf_4 rfl (lv_at hl 1 rfl) ?_
  refine lv_iadd hx hb dX0_cellOf_5 ?_
  exact W.iret (v := ((p0 * 48) + p1)) hx hb hr (fun t ht hW => ⟨_, rfl, hm, ht⟩) (fun _ h => nomatch h) dX0_cellOf_6
def fX0_offer (x : BD) (p1 : Int32) (p2 : Int32) : Int32 := (rat x.2 288 (fX0_cellOf p1 p2))
abbrev rm_X0_offer : Jvm.Room := { frames := 1, cells := 0, slots := 0, locals := 21 }
theorem hd_X0_offer : yX0_offer.cls = RX0 ∧ yX0_offer.cls ≠ "java/lang/invoke/MethodHandle" ∧ yX0_offer.cls ≠ "java/lang/invoke/VarHandle" ∧ (parseMethodDescriptor yX0_offer.desc).map (fun d => d.parameters.length) = some 2 := by decide +kernel
set_option maxHeartbeats 4000000 in
set_option maxRecDepth 100000 in
theorem kX0_offer (l : Launch) (g : CX) (h0 h1 h2 : Nat) (x : BD) (p1 : Int32) (p2 : Int32) (res : Int32) (hm0 : fX0_offer x p1 p2 = res) : Met l yX0_offer (wg yX0_offer cX0_offer 3 (some .int)) rm_X0_offer (PR g [.ref h0, .int p1, .int p2] (w_X0 g h0 h1 h2 x)) (vp_Si (fun v => v = res)) 0 0 (fun _ => False) := by
  refine Met.ofW (cc := cX0_offer) (maxL := 3) (ret := (some .int)) (by decide) rfl ?_
  intro p e s m args below meth c s₁ B hml hv
  obtain ⟨rfl, hP, hK, hL⟩ := hv
  have hx := B.exec
  have hb := B.bytes
  have hr := B.returns
  have htG := wg_G (atoms_spec (ws := wg yX0_offer cX0_offer 3 (some .int)) B.pre)
  have hown : s.vm.findClass RX0 = some m.cls := findClass_of_methodNamed B.named
  have hlocks := B.notSynchronized
  have hS : va_S (fun _ => False) s.heap s.heap [] := va_S.rf
  have hl := lv_entry ([.ref h0, .int p1, .int p2]) (n := 3) (Nat.le_of_ble_eq_true rfl)
  rw [lg_entry_eq]
  generalize (lg_sl ([.ref h0, .int p1, .int p2]) ++ List.replicate (3 - (lg_sl ([.ref h0, .int p1, .int p2])).length) Slot.unset).toArray = ls at hl ⊢
  have hl : lv_has ls 3 [(0, .ref h0), (1, .int p1), (2, .int p2)] := hl
  have hm := hm0
  unfold fX0_offer at hm
  refine lv_aload_n hx hb dX0_offer_0 rfl (lv_at hl 0 rfl) ?_
  refine va_get (D := g.1) (ci := 0) (v := .ref h2) (C := RX0) (T := TX0) (N := 2) hx hb htG in_wsX00 hown hK.1 hP 0 rfl rfl 1 (by decide) (htG _ g1_34) (fun _ h9 => h9) rfl dX0_offer_1 ?_
  refine lv_iload_n hx hb dX0_offer_4 rfl (lv_at hl 1 rfl) ?_
  refine lv_iload_n hx hb dX0_offer_5 rfl (lv_at hl 2 rfl) ?_
  refine ko_i (va_runS (As := [.int p1, .int p2]) (rest := [.ref h2]) ⟨hx, hb, hml, hown, htG⟩ (kX0_cellOf l g p1 p2 _ rfl) (va_cwS 2 htG (GS g2_139 g2_140 g1_3 g2_141) rfl rfl rfl hs_X0_cellOf ⟨Nat.le_of_ble_eq_true rfl, Nat.le_of_ble_eq_true rfl⟩) (PR_S hK hL hS hP [] rfl) rfl rfl hl.1 rfl (lv_room (Nat.le_of_ble_eq_true rfl)) dX0_offer_6 ⟨Nat.zero_le _, Nat.zero_le _⟩) (fun r hw => ?_)
  obtain rfl := hw
  refine ko_i (va_runS (As := [.ref h2, .int (fX0_cellOf p1 p2)]) (rest := []) ⟨hx, hb, hml, hown, htG⟩ (kX4_at l g h2 x.2 288 (fX0_cellOf p1 p2) (by decide)) (va_cwS 2 htG (GS g2_142 g2_62 g1_5 g2_63) rfl rfl rfl hs_X4_at ⟨Nat.le_of_ble_eq_true rfl, Nat.le_of_ble_eq_true rfl⟩) (PT_S hK (va_T_of hK hP 2 rfl)) rfl rfl hl.1 rfl (lv_room (Nat.le_of_ble_eq_true rfl)) dX0_offer_9 ⟨Nat.zero_le _, Nat.zero_le _⟩) (fun r hw => ?_)
  obtain rfl := hw
  exact W.iret (v := (rat x.2 288 (fX0_cellOf p1 p2))) hx hb hr (fun t ht hW => ⟨_, rfl, hm, ht⟩) (fun _ h => nomatch h) dX0_offer_12
def fX0_weight (x : BD) (p1 : Int32) (p2 : Int32) : Int32 := (rat x.1 288 (fX0_cellOf p1 p2))
abbrev rm_X0_weight : Jvm.Room := { frames := 1, cells := 0, slots := 0, locals := 21 }
theorem hd_X0_weight : yX0_weight.cls = RX0 ∧ yX0_weight.cls ≠ "java/lang/invoke/MethodHandle" ∧ yX0_weight.cls ≠ "java/lang/invoke/VarHandle" ∧ (parseMethodDescriptor yX0_weight.desc).map (fun d => d.parameters.length) = some 2 := by decide +kernel
set_option maxHeartbeats 4000000 in
set_option maxRecDepth 100000 in
theorem kX0_weight (l : Launch) (g : CX) (h0 h1 h2 : Nat) (x : BD) (p1 : Int32) (p2 : Int32) (res : Int32) (hm0 : fX0_weight x p1 p2 = res) : Met l yX0_weight (wg yX0_weight cX0_weight 3 (some .int)) rm_X0_weight (PR g [.ref h0, .int p1, .int p2] (w_X0 g h0 h1 h2 x)) (vp_Si (fun v => v = res)) 0 0 (fun _ => False) := by
  refine Met.ofW (cc := cX0_weight) (maxL := 3) (ret := (some .int)) (by decide) rfl ?_
  intro p e s m args below meth c s₁ B hml hv
  obtain ⟨rfl, hP, hK, hL⟩ := hv
  have hx := B.exec
  have hb := B.bytes
  have hr := B.returns
  have htG := wg_G (atoms_spec (ws := wg yX0_weight cX0_weight 3 (some .int)) B.pre)
  have hown : s.vm.findClass RX0 = some m.cls := findClass_of_methodNamed B.named
  have hlocks := B.notSynchronized
  have hS : va_S (fun _ => False) s.heap s.heap [] := va_S.rf
  have hl := lv_entry ([.ref h0, .int p1, .int p2]) (n := 3) (Nat.le_of_ble_eq_true rfl)
  rw [lg_entry_eq]
  generalize (lg_sl ([.ref h0, .int p1, .int p2]) ++ List.replicate (3 - (lg_sl ([.ref h0, .int p1, .int p2])).length) Slot.unset).toArray = ls at hl ⊢
  have hl : lv_has ls 3 [(0, .ref h0), (1, .int p1), (2, .int p2)] := hl
  have hm := hm0
  unfold fX0_weight at hm
  refine lv_aload_n hx hb dX0_weight_0 rfl (lv_at hl 0 rfl) ?_
  refine va_get (D := g.1) (ci := 0) (v := .ref h1) (C := RX0) (T := TX0) (N := 2) hx hb htG in_wsX00 hown hK.1 hP 0 rfl rfl 0 (by decide) (htG _ g1_33) (fun _ h9 => h9) rfl dX0_weight_1 ?_
  refine lv_iload_n hx hb dX0_weight_4 rfl (lv_at hl 1 rfl) ?_
  refine lv_iload_n hx hb dX0_weight_5 rfl (lv_at hl 2 rfl) ?_
  refine ko_i (va_runS (As := [.int p1, .int p2]) (rest := [.ref h1]) ⟨hx, hb, hml, hown, htG⟩ (kX0_cellOf l g p1 p2 _ rfl) (va_cwS 2 htG (GS g2_139 g2_140 g1_3 g2_141) rfl rfl rfl hs_X0_cellOf ⟨Nat.le_of_ble_eq_true rfl, Nat.le_of_ble_eq_true rfl⟩) (PR_S hK hL hS hP [] rfl) rfl rfl hl.1 rfl (lv_room (Nat.le_of_ble_eq_true rfl)) dX0_weight_6 ⟨Nat.zero_le _, Nat.zero_le _⟩) (fun r hw => ?_)
  obtain rfl := hw
  refine ko_i (va_runS (As := [.ref h1, .int (fX0_cellOf p1 p2)]) (rest := []) ⟨hx, hb, hml, hown, htG⟩ (kX4_at l g h1 x.1 288 (fX0_cellOf p1 p2) (by decide)) (va_cwS 2 htG (GS g2_142 g2_62 g1_5 g2_63) rfl rfl rfl hs_X4_at ⟨Nat.le_of_ble_eq_true rfl, Nat.le_of_ble_eq_true rfl⟩) (PT_S hK (va_T_of hK hP 1 rfl)) rfl rfl hl.1 rfl (lv_room (Nat.le_of_ble_eq_true rfl)) dX0_weight_9 ⟨Nat.zero_le _, Nat.zero_le _⟩) (fun r hw => ?_)
  obtain rfl := hw
  exact W.iret (v := (rat x.1 288 (fX0_cellOf p1 p2))) hx hb hr (fun t ht hW => ⟨_, rfl, hm, ht⟩) (fun _ h => nomatch h) dX0_weight_12
def fX0_copy (x : BD) (y : BD) : BD := (y.1, y.2)
abbrev rm_X0_copy : Jvm.Room := { frames := 2, cells := 0, slots := 0, locals := 61 }
theorem hd_X0_copy : yX0_copy.cls = RX0 ∧ yX0_copy.cls ≠ "java/lang/invoke/MethodHandle" ∧ yX0_copy.cls ≠ "java/lang/invoke/VarHandle" ∧ (parseMethodDescriptor yX0_copy.desc).map (fun d => d.parameters.length) = some 1 := by decide +kernel
set_option maxHeartbeats 4000000 in
set_option maxRecDepth 100000 in
theorem kX0_copy (l : Launch) (g : CX) (h0 h1 h2 : Nat) (k0 k1 k2 : Nat) (sz : Nat) (x : BD) (y : BD) (res : BD) (hm0 : fX0_copy x y = res) : Met l yX0_copy (wg yX0_copy cX0_copy 2 none) rm_X0_copy (PW g [.ref h0, .ref k0] sz ((w_X0 g h0 h1 h2 x) ++ (w_X0 g k0 k1 k2 y))) (va_Qv (fun u => u = res) (fun u t => va_P g.1 vwCl ((w_X0 g h0 h1 h2 u) ++ (w_X0 g k0 k1 k2 y)) t.heap) (va_A ((w_X0 g h0 h1 h2 x) ++ (w_X0 g k0 k1 k2 y)) sz)) 0 0 (va_A ((w_X0 g h0 h1 h2 x) ++ (w_X0 g k0 k1 k2 y)) sz) := by
  refine Met.ofW (cc := cX0_copy) (maxL := 2) (ret := none) (by decide) rfl ?_
  intro p e s m args below meth c s₁ B hml hv
  obtain ⟨rfl, hsz, hP, hK, hD0, hL⟩ := hv
  have hx := B.exec
  have hb := B.bytes
  have hr := B.returns
  have htG := wg_G (atoms_spec (ws := wg yX0_copy cX0_copy 2 none) B.pre)
  have hown : s.vm.findClass RX0 = some m.cls := findClass_of_methodNamed B.named
  have hlocks := B.notSynchronized
  subst hsz
  have hD := hD0.self (sz := s.heap.size)
  generalize hAe : va_A ((w_X0 g h0 h1 h2 x) ++ (w_X0 g k0 k1 k2 y)) s.heap.size = A at hD hL ⊢
  have hA : ∀ q : Nat, s.heap.size ≤ q → A q := fun q h => by rw [← hAe]; exact Or.inr h
  have hS : va_S A s.heap s.heap [] := va_S.rf
  have hl := lv_entry ([.ref h0, .ref k0]) (n := 2) (Nat.le_of_ble_eq_true rfl)
  rw [lg_entry_eq]
  generalize (lg_sl ([.ref h0, .ref k0]) ++ List.replicate (2 - (lg_sl ([.ref h0, .ref k0])).length) Slot.unset).toArray = ls at hl ⊢
  have hl : lv_has ls 2 [(0, .ref h0), (1, .ref k0)] := hl
  have hm := hm0
  unfold fX0_copy at hm
  refine lv_aload_n hx hb dX0_copy_0 rfl (lv_at hl 1 rfl) ?_
  refine va_get (D := g.1) (ci := 0) (v := .ref k1) (C := RX0) (T := TX0) (N := 2) hx hb htG in_wsX00 hown hK.1 hP 3 rfl rfl 0 (by decide) (htG _ g1_33) (fun _ h9 => h9) rfl dX0_copy_1 ?_
  refine lv_aload_n hx hb dX0_copy_4 rfl (lv_at hl 0 rfl) ?_
  refine va_get (D := g.1) (ci := 0) (v := .ref h1) (C := RX0) (T := TX0) (N := 2) hx hb htG in_wsX00 hown hK.1 hP 0 rfl rfl 0 (by decide) (htG _ g1_33) (fun _ h9 => h9) rfl dX0_copy_5 ?_
  refine kw_v (va_runS (As := [.ref k1, .ref h1]) (rest := []) ⟨hx, hb, hml, hown, htG⟩ (kX4_copy l g k1 h1 _ y.1 x.1 288 (by decide)) (va_cwS 2 htG (GS g2_31 g2_19 g1_5 g2_20) rfl rfl rfl hs_X4_copy ⟨Nat.le_of_ble_eq_true rfl, Nat.le_of_ble_eq_true rfl⟩) (PW_S hK hL hS hP hD hA [4, 1] rfl rfl) rfl rfl hl.1 rfl (lv_room (Nat.le_of_ble_eq_true rfl)) dX0_copy_8 ⟨Nat.zero_le _, Nat.zero_le _⟩) hP hD hS hA [4, 1] rfl rfl (fun _ => rfl) (fun u H locs hw hP hD hS => ?_)
  obtain rfl := hw
  have hP : va_P g.1 vwCl ((w_X0 g h0 h1 h2 (y.1, x.2)) ++ (w_X0 g k0 k1 k2 y)) H := hP
  have hD : va_D A ((w_X0 g h0 h1 h2 (y.1, x.2)) ++ (w_X0 g k0 k1 k2 y)) := hD
  refine lv_aload_n hx hb dX0_copy_11 rfl (lv_at hl 1 rfl) ?_
  refine va_get (D := g.1) (ci := 0) (v := .ref k2) (C := RX0) (T := TX0) (N := 2) hx hb htG in_wsX00 hown hK.1 hP 3 rfl rfl 1 (by decide) (htG _ g1_34) (fun _ h9 => h9) rfl dX0_copy_12 ?_
  refine lv_aload_n hx hb dX0_copy_15 rfl (lv_at hl 0 rfl) ?_
  refine va_get (D := g.1) (ci := 0) (v := .ref h2) (C := RX0) (T := TX0) (N := 2) hx hb htG in_wsX00 hown hK.1 hP 0 rfl rfl 1 (by decide) (htG _ g1_34) (fun _ h9 => h9) rfl dX0_copy_16 ?_
  refine kw_v (va_runS (As := [.ref k2, .ref h2]) (rest := []) ⟨hx, hb, hml, hown, htG⟩ (kX4_copy l g k2 h2 _ y.2 x.2 288 (by decide)) (va_cwS 2 htG (GS g2_31 g2_19 g1_5 g2_20) rfl rfl rfl hs_X4_copy ⟨Nat.le_of_ble_eq_true rfl, Nat.le_of_ble_eq_true rfl⟩) (PW_S hK hL hS hP hD hA [5, 2] rfl rfl) rfl rfl hl.1 rfl (lv_room (Nat.le_of_ble_eq_true rfl)) dX0_copy_19 ⟨Nat.zero_le _, Nat.zero_le _⟩) hP hD hS hA [5, 2] rfl rfl (fun _ => rfl) (fun u H locs hw hP hD hS => ?_)
  obtain rfl := hw
  have hP : va_P g.1 vwCl ((w_X0 g h0 h1 h2 (y.1, y.2)) ++ (w_X0 g k0 k1 k2 y)) H := hP
  have hD : va_D A ((w_X0 g h0 h1 h2 (y.1, y.2)) ++ (w_X0 g k0 k1 k2 y)) := hD
  exact W.vret hx hb hr (fun t ht hW => ⟨⟨_, rfl, hm, atH ht hP⟩, hS.F ht⟩) hS.2.2 dX0_copy_22
def fX0_set (x : BD) (p1 : Int32) (p2 : Int32) (p3 : Int32) (p4 : Int32) : BD := ((rput x.1 288 (fX0_cellOf p1 p2) p3), (rput x.2 288 (fX0_cellOf p1 p2) p4))
abbrev rm_X0_set : Jvm.Room := { frames := 1, cells := 0, slots := 0, locals := 22 }
theorem hd_X0_set : yX0_set.cls = RX0 ∧ yX0_set.cls ≠ "java/lang/invoke/MethodHandle" ∧ yX0_set.cls ≠ "java/lang/invoke/VarHandle" ∧ (parseMethodDescriptor yX0_set.desc).map (fun d => d.parameters.length) = some 4 := by decide +kernel
set_option maxHeartbeats 4000000 in
set_option maxRecDepth 100000 in
theorem kX0_set (l : Launch) (g : CX) (h0 h1 h2 : Nat) (sz : Nat) (x : BD) (p1 : Int32) (p2 : Int32) (p3 : Int32) (p4 : Int32) (res : BD) (hm0 : fX0_set x p1 p2 p3 p4 = res) : Met l yX0_set (wg yX0_set cX0_set 5 none) rm_X0_set (PW g [.ref h0, .int p1, .int p2, .int p3, .int p4] sz (w_X0 g h0 h1 h2 x)) (va_Qv (fun u => u = res) (fun u t => va_P g.1 vwCl (w_X0 g h0 h1 h2 u) t.heap) (va_A (w_X0 g h0 h1 h2 x) sz)) 0 0 (va_A (w_X0 g h0 h1 h2 x) sz) := by
  refine Met.ofW (cc := cX0_set) (maxL := 5) (ret := none) (by decide) rfl ?_
  intro p e s m args below meth c s₁ B hml hv
  obtain ⟨rfl, hsz, hP, hK, hD0, hL⟩ := hv
  have hx := B.exec
  have hb := B.bytes
  have hr := B.returns
  have htG := wg_G (atoms_spec (ws := wg yX0_set cX0_set 5 none) B.pre)
  have hown : s.vm.findClass RX0 = some m.cls := findClass_of_methodNamed B.named
  have hlocks := B.notSynchronized
  subst hsz
  have hD := hD0.self (sz := s.heap.size)
  generalize hAe : va_A (w_X0 g h0 h1 h2 x) s.heap.size = A at hD hL ⊢
  have hA : ∀ q : Nat, s.heap.size ≤ q → A q := fun q h => by rw [← hAe]; exact Or.inr h
  have hS : va_S A s.heap s.heap [] := va_S.rf
  have hl := lv_entry ([.ref h0, .int p1, .int p2, .int p3, .int p4]) (n := 5) (Nat.le_of_ble_eq_true rfl)
  rw [lg_entry_eq]
  generalize (lg_sl ([.ref h0, .int p1, .int p2, .int p3, .int p4]) ++ List.replicate (5 - (lg_sl ([.ref h0, .int p1, .int p2, .int p3, .int p4])).length) Slot.unset).toArray = ls at hl ⊢
  have hl : lv_has ls 5 [(0, .ref h0), (1, .int p1), (2, .int p2), (3, .int p3), (4, .int p4)] := hl
  have hm := hm0
  unfold fX0_set at hm
  refine lv_aload_n hx hb dX0_set_0 rfl (lv_at hl 0 rfl) ?_
  refine va_get (D := g.1) (ci := 0) (v := .ref h1) (C := RX0) (T := TX0) (N := 2) hx hb htG in_wsX00 hown hK.1 hP 0 rfl rfl 0 (by decide) (htG _ g1_33) (fun _ h9 => h9) rfl dX0_set_1 ?_
  refine lv_iload_n hx hb dX0_set_4 rfl (lv_at hl 1 rfl) ?_
  refine lv_iload_n hx hb dX0_set_5 rfl (lv_at hl 2 rfl) ?_
  refine ko_i (va_runS (As := [.int p1, .int p2]) (rest := [.ref h1]) ⟨hx, hb, hml, hown, htG⟩ (kX0_cellOf l g p1 p2 _ rfl) (va_cwS 2 htG (GS g2_139 g2_140 g1_3 g2_141) rfl rfl rfl hs_X0_cellOf ⟨Nat.le_of_ble_eq_true rfl, Nat.le_of_ble_eq_true rfl⟩) (PR_S hK hL hS hP [] rfl) rfl rfl hl.1 rfl (lv_room (Nat.le_of_ble_eq_true rfl)) dX0_set_6 ⟨Nat.zero_le _, Nat.zero_le _⟩) (fun r hw => ?_)
  obtain rfl := hw
  refine lv_iload_n hx hb dX0_set_9 rfl (lv_at hl 3 rfl) ?_
  refine kw_v (va_runS (As := [.ref h1, .int (fX0_cellOf p1 p2), .int p3]) (rest := []) ⟨hx, hb, hml, hown, htG⟩ (kX4_put l g h1 _ x.1 288 (fX0_cellOf p1 p2) p3 _ (t_X4_put _ _ _ _ (by decide))) (va_cwS 3 htG (GS g2_163 g2_65 g1_5 g2_66) rfl rfl rfl hs_X4_put ⟨Nat.le_of_ble_eq_true rfl, Nat.le_of_ble_eq_true rfl⟩) (PW_S hK hL hS hP hD hA [1] rfl rfl) rfl rfl hl.1 rfl (lv_room (Nat.le_of_ble_eq_true rfl)) dX0_set_10 ⟨Nat.zero_le _, Nat.zero_le _⟩) hP hD hS hA [1] rfl rfl (fun _ => rfl) (fun u H locs hw hP hD hS => ?_)
  obtain rfl := hw
  have hP : va_P g.1 vwCl (w_X0 g h0 h1 h2 ((rput x.1 288 (fX0_cellOf p1 p2) p3), x.2)) H := hP
  have hD : va_D A (w_X0 g h0 h1 h2 ((rput x.1 288 (fX0_cellOf p1 p2) p3), x.2)) := hD
  refine lv_aload_n hx hb dX0_set_13 rfl (lv_at hl 0 rfl) ?_
  refine va_get (D := g.1) (ci := 0) (v := .ref h2) (C := RX0) (T := TX0) (N := 2) hx hb htG in_wsX00 hown hK.1 hP 0 rfl rfl 1 (by decide) (htG _ g1_34) (fun _ h9 => h9) rfl dX0_set_14 ?_
  refine lv_iload_n hx hb dX0_set_17 rfl (lv_at hl 1 rfl) ?_
  refine lv_iload_n hx hb dX0_set_18 rfl (lv_at hl 2 rfl) ?_
  refine ko_i (va_runS (As := [.int p1, .int p2]) (rest := [.ref h2]) ⟨hx, hb, hml, hown, htG⟩ (kX0_cellOf l g p1 p2 _ rfl) (va_cwS 2 htG (GS g2_139 g2_140 g1_3 g2_141) rfl rfl rfl hs_X0_cellOf ⟨Nat.le_of_ble_eq_true rfl, Nat.le_of_ble_eq_true rfl⟩) (PR_S hK hL hS hP [] rfl) rfl rfl hl.1 rfl (lv_room (Nat.le_of_ble_eq_true rfl)) dX0_set_19 ⟨Nat.zero_le _, Nat.zero_le _⟩) (fun r hw => ?_)
  obtain rfl := hw
  refine lv_iload hx hb dX0_set_22 (lv_at hl 4 rfl) ?_
  refine kw_v (va_runS (As := [.ref h2, .int (fX0_cellOf p1 p2), .int p4]) (rest := []) ⟨hx, hb, hml, hown, htG⟩ (kX4_put l g h2 _ x.2 288 (fX0_cellOf p1 p2) p4 _ (t_X4_put _ _ _ _ (by decide))) (va_cwS 3 htG (GS g2_163 g2_65 g1_5 g2_66) rfl rfl rfl hs_X4_put ⟨Nat.le_of_ble_eq_true rfl, Nat.le_of_ble_eq_true rfl⟩) (PW_S hK hL hS hP hD hA [2] rfl rfl) rfl rfl hl.1 rfl (lv_room (Nat.le_of_ble_eq_true rfl)) dX0_set_24 ⟨Nat.zero_le _, Nat.zero_le _⟩) hP hD hS hA [2] rfl rfl (fun _ => rfl) (fun u H locs hw hP hD hS => ?_)
  obtain rfl := hw
  have hP : va_P g.1 vwCl (w_X0 g h0 h1 h2 ((rput x.1 288 (fX0_cellOf p1 p2) p3), (rput x.2 288 (fX0_cellOf p1 p2) p4))) H := hP
  have hD : va_D A (w_X0 g h0 h1 h2 ((rput x.1 288 (fX0_cellOf p1 p2) p3), (rput x.2 288 (fX0_cellOf p1 p2) p4))) := hD
  exact W.vret hx hb hr (fun t ht hW => ⟨⟨_, rfl, hm, atH ht hP⟩, hS.F ht⟩) hS.2.2 dX0_set_27
def fX0_remove (x : BD) (p1 : Int32) (p2 : Int32) : BD := (fX0_set x p1 p2 0 0)
abbrev rm_X0_remove : Jvm.Room := { frames := 2, cells := 0, slots := 0, locals := 46 }
theorem hd_X0_remove : yX0_remove.cls = RX0 ∧ yX0_remove.cls ≠ "java/lang/invoke/MethodHandle" ∧ yX0_remove.cls ≠ "java/lang/invoke/VarHandle" ∧ (parseMethodDescriptor yX0_remove.desc).map (fun d => d.parameters.length) = some 2 := by decide +kernel
set_option maxHeartbeats 4000000 in
set_option maxRecDepth 100000 in
theorem kX0_remove (l : Launch) (g : CX) (h0 h1 h2 : Nat) (sz : Nat) (x : BD) (p1 : Int32) (p2 : Int32) (res : BD) (hm0 : fX0_remove x p1 p2 = res) : Met l yX0_remove (wg yX0_remove cX0_remove 3 none) rm_X0_remove (PW g [.ref h0, .int p1, .int p2] sz (w_X0 g h0 h1 h2 x)) (va_Qv (fun u => u = res) (fun u t => va_P g.1 vwCl (w_X0 g h0 h1 h2 u) t.heap) (va_A (w_X0 g h0 h1 h2 x) sz)) 0 0 (va_A (w_X0 g h0 h1 h2 x) sz) := by
  refine Met.ofW (cc := cX0_remove) (maxL := 3) (ret := none) (by decide) rfl ?_
  intro p e s m args below meth c s₁ B hml hv
  obtain ⟨rfl, hsz, hP, hK, hD0, hL⟩ := hv
  have hx := B.exec
  have hb := B.bytes
  have hr := B.returns
  have htG := wg_G (atoms_spec (ws := wg yX0_remove cX0_remove 3 none) B.pre)
  have hown : s.vm.findClass RX0 = some m.cls := findClass_of_methodNamed B.named
  have hlocks := B.notSynchronized
  subst hsz
  have hD := hD0.self (sz := s.heap.size)
  generalize hAe : va_A (w_X0 g h0 h1 h2 x) s.heap.size = A at hD hL ⊢
  have hA : ∀ q : Nat, s.heap.size ≤ q → A q := fun q h => by rw [← hAe]; exact Or.inr h
  have hS : va_S A s.heap s.heap [] := va_S.rf
  have hl := lv_entry ([.ref h0, .int p1, .int p2]) (n := 3) (Nat.le_of_ble_eq_true rfl)
  rw [lg_entry_eq]
  generalize (lg_sl ([.ref h0, .int p1, .int p2]) ++ List.replicate (3 - (lg_sl ([.ref h0, .int p1, .int p2])).length) Slot.unset).toArray = ls at hl ⊢
  have hl : lv_has ls 3 [(0, .ref h0), (1, .int p1), (2, .int p2)] := hl
  have hm := hm0
  unfold fX0_remove at hm
  refine lv_aload_n hx hb dX0_remove_0 rfl (lv_at hl 0 rfl) ?_
  refine lv_iload_n hx hb dX0_remove_1 rfl (lv_at hl 1 rfl) ?_
  refine lv_iload_n hx hb dX0_remove_2 rfl (lv_at hl 2 rfl) ?_
  refine lv_iconst (v := 0) hx hb dX0_remove_3 (by decide) ?_
  refine lv_iconst (v := 0) hx hb dX0_remove_4 (by decide) ?_
  refine kw_v (va_runV (As := [.int p1, .int p2, .int 0, .int 0]) (rest := []) ⟨hx, hb, hml, hown, htG⟩ (kX0_set l g h0 h1 h2 _ x p1 p2 0 0 _ rfl) (cwV 4 htG (GV g2_180 g2_160 g2_161 g1_3 g2_162) rfl rfl rfl hd_X0_set ⟨Nat.le_of_ble_eq_true rfl, Nat.le_of_ble_eq_true rfl⟩) (PW_V hK hL hS hP hD hA [0, 1, 2] rfl rfl (ci := 0) rfl 0 rfl) rfl rfl hl.1 rfl (lv_room (Nat.le_of_ble_eq_true rfl)) dX0_remove_5 ⟨Nat.zero_le _, Nat.zero_le _⟩) hP hD hS hA [0, 1, 2] rfl rfl (fun _ => rfl) (fun u H locs hw hP hD hS => ?_)
  obtain rfl := hw
  have hP : va_P g.1 vwCl (w_X0 g h0 h1 h2 (fX0_set x p1 p2 0 0)) H := hP
  have hD : va_D A (w_X0 g h0 h1 h2 (fX0_set x p1 p2 0 0)) := hD
  exact W.vret hx hb hr (fun t ht hW => ⟨⟨_, rfl, hm, atH ht hP⟩, hS.F ht⟩) hS.2.2 dX0_remove_8
def fX0_removeAll_L0 (p1 : Int32) : Nat → Int32 → BD → Option (BD)
  | 0, _, _ => none
  | n + 1, i0_2, x0 => (if 6 ≤ i0_2 then (some x0) else (fX0_removeAll_L0 p1 n (i0_2 + 1) (fX0_set x0 i0_2 p1 0 0)))
def fX0_removeAll (x : BD) (p1 : Int32) : Option (BD) := ((fX0_removeAll_L0 p1 1000 0 x).bind (fun q2 => some q2))
abbrev rm_X0_removeAll : Jvm.Room := { frames := 2, cells := 0, slots := 0, locals := 46 }
theorem hd_X0_removeAll : yX0_removeAll.cls = RX0 ∧ yX0_removeAll.cls ≠ "java/lang/invoke/MethodHandle" ∧ yX0_removeAll.cls ≠ "java/lang/invoke/VarHandle" ∧ (parseMethodDescriptor yX0_removeAll.desc).map (fun d => d.parameters.length) = some 1 := by decide +kernel
set_option maxHeartbeats 4000000 in
set_option maxRecDepth 100000 in
theorem kX0_removeAll (l : Launch) (g : CX) (h0 h1 h2 : Nat) (sz : Nat) (x : BD) (p1 : Int32) (res : BD) (hm0 : fX0_removeAll x p1 = some res) : Met l yX0_removeAll (wg yX0_removeAll cX0_removeAll 3 none) rm_X0_removeAll (PW g [.ref h0, .int p1] sz (w_X0 g h0 h1 h2 x)) (va_Qv (fun u => u = res) (fun u t => va_P g.1 vwCl (w_X0 g h0 h1 h2 u) t.heap) (va_A (w_X0 g h0 h1 h2 x) sz)) 0 0 (va_A (w_X0 g h0 h1 h2 x) sz) := by
  refine Met.ofW (cc := cX0_removeAll) (maxL := 3) (ret := none) (by decide) rfl ?_
  intro p e s m args below meth c s₁ B hml hv
  obtain ⟨rfl, hsz, hP, hK, hD0, hL⟩ := hv
  have hx := B.exec
  have hb := B.bytes
  have hr := B.returns
  have htG := wg_G (atoms_spec (ws := wg yX0_removeAll cX0_removeAll 3 none) B.pre)
  have hown : s.vm.findClass RX0 = some m.cls := findClass_of_methodNamed B.named
  have hlocks := B.notSynchronized
  subst hsz
  have hD := hD0.self (sz := s.heap.size)
  generalize hAe : va_A (w_X0 g h0 h1 h2 x) s.heap.size = A at hD hL ⊢
  have hA : ∀ q : Nat, s.heap.size ≤ q → A q := fun q h => by rw [← hAe]; exact Or.inr h
  have hS : va_S A s.heap s.heap [] := va_S.rf
  have hl := lv_entry ([.ref h0, .int p1]) (n := 3) (Nat.le_of_ble_eq_true rfl)
  rw [lg_entry_eq]
  generalize (lg_sl ([.ref h0, .int p1]) ++ List.replicate (3 - (lg_sl ([.ref h0, .int p1])).length) Slot.unset).toArray = ls at hl ⊢
  have hl : lv_has ls 3 [(0, .ref h0), (1, .int p1)] := hl
  have hm := hm0
  unfold fX0_removeAll at hm
  refine lv_iconst (v := 0) hx hb dX0_removeAll_0 (by decide) ?_
  refine lv_istore_n (lv' := [(2, .int 0), (0, .ref h0), (1, .int p1)]) hx hb dX0_removeAll_1 rfl hl (by decide) rfl (fun ls hl => ?_)
  have hL0 : ∀ (Q : State → Prop), ∀ (n : Nat) (i0_2 : Int32) (x0 : BD) (out : BD) (H : Heap) (locs : List Loc) (ls : Array Slot), fX0_removeAll_L0 p1 n i0_2 x0 = some out → va_P g.1 vwCl (w_X0 g h0 h1 h2 x0) H → va_D A (w_X0 g h0 h1 h2 x0) → va_S A s.heap H locs → lv_has ls 3 [(0, .ref h0), (1, .int p1), (2, .int i0_2)] → (∀ (H : Heap) (locs : List Loc) (ls : Array Slot), va_P g.1 vwCl (w_X0 g h0 h1 h2 out) H → va_D A (w_X0 g h0 h1 h2 out) → va_S A s.heap H locs → lv_has ls 3 [] → W p l e (headSpec (wg yX0_removeAll cX0_removeAll 3 none) rm_X0_removeAll).room s m (([.ref h0, .int p1] : List Value).toArray) below meth c H locs 0 0 Q (F0 m 22 ls [])) → W p l e (headSpec (wg yX0_removeAll cX0_removeAll 3 none) rm_X0_removeAll).room s m (([.ref h0, .int p1] : List Value).toArray) below meth c H locs 0 0 Q (F0 m 2 ls []) := by
    intro Q n
    induction n with
    | zero =>
      intro i0_2 x0 out H locs ls hm hP hD hS hl hk
      simp [fX0_removeAll_L0] at hm
    | succ n ih =>
      intro i0_2 x0 out H locs ls hm hP hD hS hl hk
      rw [fX0_removeAll_L0] at hm
      refine lv_iload_n hx hb dX0_removeAll_2 rfl (lv_at hl 2 rfl) ?_
      refine lv_bipush (v := 6) hx hb dX0_removeAll_3 (by decide +kernel) ?_
      refine lv_icmp_ge (tgt := 22) hx hb dX0_removeAll_5 (by decide) (fun c1 => ?_) (fun c1 => ?_)
      · replace hm := (if_pos c1).symm.trans hm
        obtain rfl := Option.some.inj hm
        exact hk H locs ls hP hD hS (lv_sub hl [] rfl)
      · replace hm := (if_neg c1).symm.trans hm
        refine lv_aload_n hx hb dX0_removeAll_8 rfl (lv_at hl 0 rfl) ?_
        refine lv_iload_n hx hb dX0_removeAll_9 rfl (lv_at hl 2 rfl) ?_
        refine lv_iload_n hx hb dX0_removeAll_10 rfl (lv_at hl 1 rfl) ?_
        refine lv_iconst (v := 0) hx hb dX0_removeAll_11 (by decide) ?_
        refine lv_iconst (v := 0) hx hb dX0_removeAll_12 (by decide) ?_
        refine kw_v (va_runV (As := [.int i0_2, .int p1, .int 0, .int 0]) (rest := []) ⟨hx, hb, hml, hown, htG⟩ (kX0_set l g h0 h1 h2 _ x0 i0_2 p1 0 0 _ rfl) (cwV 4 htG (GV g2_180 g2_160 g2_161 g1_3 g2_162) rfl rfl rfl hd_X0_set ⟨Nat.le_of_ble_eq_true rfl, Nat.le_of_ble_eq_true rfl⟩) (PW_V hK hL hS hP hD hA [0, 1, 2] rfl rfl (ci := 0) rfl 0 rfl) rfl rfl hl.1 rfl (lv_room (Nat.le_of_ble_eq_true rfl)) dX0_removeAll_13 ⟨Nat.zero_le _, Nat.zero_le _⟩) hP hD hS hA [0, 1, 2] rfl rfl (fun _ => rfl) (fun u H locs hw hP hD hS => ?_)
        obtain rfl := hw
        have hP : va_P g.1 vwCl (w_X0 g h0 h1 h2 (fX0_set x0 i0_2 p1 0 0)) H := hP
        have hD : va_D A (w_X0 g h0 h1 h2 (fX0_set x0 i0_2 p1 0 0)) := hD
        refine lv_iinc (v := i0_2 + 1) (lv' := [(2, .int (i0_2 + 1)), (0, .ref h0), (1, .int p1)]) hx hb dX0_removeAll_16 hl (k := 2) rfl rfl (by decide) rfl (fun ls hl => ?_)
        refine lv_goto (tgt := 2) hx hb dX0_removeAll_19 (by decide) ?_
        exact ih (i0_2 + 1) (fX0_set x0 i0_2 p1 0 0) out H locs ls hm hP hD hS (lv_sub hl [1, 2, 0] rfl) hk
  obtain ⟨q2, hq2, hm⟩ := bdk hm
  refine hL0 _ 1000 0 x q2 _ _ _ hq2 hP hD hS (lv_sub hl [1, 2, 0] rfl) (fun H locs ls hP hD hS hl => ?_)
  exact W.vret hx hb hr (fun t ht hW => ⟨⟨_, rfl, (Option.some.inj hm), atH ht hP⟩, hS.F ht⟩) hS.2.2 dX0_removeAll_22
def fX0_countFor_L0 (x : BD) (p1 : Int32) : Nat → Int32 → Int32 → Option (Int32)
  | 0, _, _ => none
  | n + 1, i0_2, i0_3 => (if 6 ≤ i0_3 then (some i0_2) else (if (rat x.2 288 (fX0_cellOf i0_3 p1)) ≤ 0 then (fX0_countFor_L0 x p1 n (i0_2 + 0) (i0_3 + 1)) else (fX0_countFor_L0 x p1 n (i0_2 + 1) (i0_3 + 1))))
def fX0_countFor (x : BD) (p1 : Int32) : Option (Int32) := ((fX0_countFor_L0 x p1 1000 0 0).bind (fun q3 => some q3))
abbrev rm_X0_countFor : Jvm.Room := { frames := 1, cells := 0, slots := 0, locals := 21 }
theorem hd_X0_countFor : yX0_countFor.cls = RX0 ∧ yX0_countFor.cls ≠ "java/lang/invoke/MethodHandle" ∧ yX0_countFor.cls ≠ "java/lang/invoke/VarHandle" ∧ (parseMethodDescriptor yX0_countFor.desc).map (fun d => d.parameters.length) = some 1 := by decide +kernel
set_option maxHeartbeats 4000000 in
set_option maxRecDepth 100000 in
theorem kX0_countFor (l : Launch) (g : CX) (h0 h1 h2 : Nat) (x : BD) (p1 : Int32) (res : Int32) (hm0 : fX0_countFor x p1 = some res) : Met l yX0_countFor (wg yX0_countFor cX0_countFor 4 (some .int)) rm_X0_countFor (PR g [.ref h0, .int p1] (w_X0 g h0 h1 h2 x)) (vp_Si (fun v => v = res)) 0 0 (fun _ => False) := by
  refine Met.ofW (cc := cX0_countFor) (maxL := 4) (ret := (some .int)) (by decide) rfl ?_
  intro p e s m args below meth c s₁ B hml hv
  obtain ⟨rfl, hP, hK, hL⟩ := hv
  have hx := B.exec
  have hb := B.bytes
  have hr := B.returns
  have htG := wg_G (atoms_spec (ws := wg yX0_countFor cX0_countFor 4 (some .int)) B.pre)
  have hown : s.vm.findClass RX0 = some m.cls := findClass_of_methodNamed B.named
  have hlocks := B.notSynchronized
  have hS : va_S (fun _ => False) s.heap s.heap [] := va_S.rf
  have hl := lv_entry ([.ref h0, .int p1]) (n := 4) (Nat.le_of_ble_eq_true rfl)
  rw [lg_entry_eq]
  generalize (lg_sl ([.ref h0, .int p1]) ++ List.replicate (4 - (lg_sl ([.ref h0, .int p1])).length) Slot.unset).toArray = ls at hl ⊢
  have hl : lv_has ls 4 [(0, .ref h0), (1, .int p1)] := hl
  have hm := hm0
  unfold fX0_countFor at hm
  refine lv_iconst (v := 0) hx hb dX0_countFor_0 (by decide) ?_
  refine lv_istore_n (lv' := [(2, .int 0), (0, .ref h0), (1, .int p1)]) hx hb dX0_countFor_1 rfl hl (by decide) rfl (fun ls hl => ?_)
  refine lv_iconst (v := 0) hx hb dX0_countFor_2 (by decide) ?_
  refine lv_istore_n (lv' := [(3, .int 0), (2, .int 0), (0, .ref h0), (1, .int p1)]) hx hb dX0_countFor_3 rfl hl (by decide) rfl (fun ls hl => ?_)
  have hL0 : ∀ (Q : State → Prop), ∀ (n : Nat) (i0_2 : Int32) (i0_3 : Int32) (out : Int32) (ls : Array Slot), fX0_countFor_L0 x p1 n i0_2 i0_3 = some out → lv_has ls 4 [(0, .ref h0), (1, .int p1), (2, .int i0_2), (3, .int i0_3)] → (∀ ls : Array Slot, lv_has ls 4 [(2, .int out)] → W p l e (headSpec (wg yX0_countFor cX0_countFor 4 (some .int)) rm_X0_countFor).room s m (([.ref h0, .int p1] : List Value).toArray) below meth c s.heap [] 0 0 Q (F0 m 39 ls [])) → W p l e (headSpec (wg yX0_countFor cX0_countFor 4 (some .int)) rm_X0_countFor).room s m (([.ref h0, .int p1] : List Value).toArray) below meth c s.heap [] 0 0 Q (F0 m 4 ls []) := by
    intro Q n
    induction n with
    | zero =>
      intro i0_2 i0_3 out ls hm hl hk
      simp [fX0_countFor_L0] at hm
    | succ n ih =>
      intro i0_2 i0_3 out ls hm hl hk
      rw [fX0_countFor_L0] at hm
      refine lv_iload_n hx hb dX0_countFor_4 rfl (lv_at hl 3 rfl) ?_
      refine lv_bipush (v := 6) hx hb dX0_countFor_5 (by decide +kernel) ?_
      refine lv_icmp_ge (tgt := 39) hx hb dX0_countFor_7 (by decide) (fun c1 => ?_) (fun c1 => ?_)
      · replace hm := (if_pos c1).symm.trans hm
        obtain rfl := Option.some.inj hm
        exact hk ls (lv_sub hl [2] rfl)
      · replace hm := (if_neg c1).symm.trans hm
        refine lv_iload_n hx hb dX0_countFor_10 rfl (lv_at hl 2 rfl) ?_
        refine lv_aload_n hx hb dX0_countFor_11 rfl (lv_at hl 0 rfl) ?_
        refine va_get (D := g.1) (ci := 0) (v := .ref h2) (C := RX0) (T := TX0) (N := 2) hx hb htG in_wsX00 hown hK.1 hP 0 rfl rfl 1 (by decide) (htG _ g1_34) (fun _ h9 => h9) rfl dX0_countFor_12 ?_
        refine lv_iload_n hx hb dX0_countFor_15 rfl (lv_at hl 3 rfl) ?_
        refine lv_iload_n hx hb dX0_countFor_16 rfl (lv_at hl 1 rfl) ?_
        refine ko_i (va_runS (As := [.int i0_3, .int p1]) (rest := [.ref h2, .int i0_2]) ⟨hx, hb, hml, hown, htG⟩ (kX0_cellOf l g i0_3 p1 _ rfl) (va_cwS 2 htG (GS g2_139 g2_140 g1_3 g2_141) rfl rfl rfl hs_X0_cellOf ⟨Nat.le_of_ble_eq_true rfl, Nat.le_of_ble_eq_true rfl⟩) (PR_S hK hL hS hP [] rfl) rfl rfl hl.1 rfl (lv_room (Nat.le_of_ble_eq_true rfl)) dX0_countFor_17 ⟨Nat.zero_le _, Nat.zero_le _⟩) (fun r hw => ?_)
        obtain rfl := hw
        refine ko_i (va_runS (As := [.ref h2, .int (fX0_cellOf i0_3 p1)]) (rest := [.int i0_2]) ⟨hx, hb, hml, hown, htG⟩ (kX4_at l g h2 x.2 288 (fX0_cellOf i0_3 p1) (by decide)) (va_cwS 2 htG (GS g2_142 g2_62 g1_5 g2_63) rfl rfl rfl hs_X4_at ⟨Nat.le_of_ble_eq_true rfl, Nat.le_of_ble_eq_true rfl⟩) (PT_S hK (va_T_of hK hP 2 rfl)) rfl rfl hl.1 rfl (lv_room (Nat.le_of_ble_eq_true rfl)) dX0_countFor_20 ⟨Nat.zero_le _, Nat.zero_le _⟩) (fun r hw => ?_)
        obtain rfl := hw
        refine lv_if_le (tgt := 30) hx hb dX0_countFor_23 (by decide) (fun c2 => ?_) (fun c2 => ?_)
        · replace hm := (if_pos c2).symm.trans hm
          refine lv_iconst (v := 0) hx hb dX0_countFor_30 (by decide) ?_
          refine lv_iadd hx hb dX0_countFor_31 ?_
          refine lv_istore_n (lv' := [(2, .int (i0_2 + 0)), (0, .ref h0), (1, .int p1), (3, .int i0_3)]) hx hb dX0_countFor_32 rfl hl (by decide) rfl (fun ls hl => ?_)
          refine lv_iinc (v := i0_3 + 1) (lv' := [(3, .int (i0_3 + 1)), (2, .int (i0_2 + 0)), (0, .ref h0), (1, .int p1)]) hx hb dX0_countFor_33 hl (k := 3) rfl rfl (by decide) rfl (fun ls hl => ?_)
          refine lv_goto (tgt := 4) hx hb dX0_countFor_36 (by decide) ?_
          exact ih (i0_2 + 0) (i0_3 + 1) out ls hm (lv_sub hl [2, 3, 1, 0] rfl) hk
        · replace hm := (if_neg c2).symm.trans hm
          refine lv_iconst (v := 1) hx hb dX0_countFor_26 (by decide) ?_
          refine lv_goto (tgt := 31) hx hb dX0_countFor_27 (by decide) ?_
          refine lv_iadd hx hb dX0_countFor_31 ?_
          refine lv_istore_n (lv' := [(2, .int (i0_2 + 1)), (0, .ref h0), (1, .int p1), (3, .int i0_3)]) hx hb dX0_countFor_32 rfl hl (by decide) rfl (fun ls hl => ?_)
          refine lv_iinc (v := i0_3 + 1) (lv' := [(3, .int (i0_3 + 1)), (2, .int (i0_2 + 1)), (0, .ref h0), (1, .int p1)]) hx hb dX0_countFor_33 hl (k := 3) rfl rfl (by decide) rfl (fun ls hl => ?_)
          refine lv_goto (tgt := 4) hx hb dX0_countFor_36 (by decide) ?_
          exact ih (i0_2 + 1) (i0_3 + 1) out ls hm (lv_sub hl [2, 3, 1, 0] rfl) hk
  obtain ⟨q3, hq3, hm⟩ := bdk hm
  refine hL0 _ 1000 0 0 q3 _ hq3 (lv_sub hl [2, 3, 1, 0] rfl) (fun ls hl => ?_)
  refine lv_iload_n hx hb dX0_countFor_39 rfl (lv_at hl 0 rfl) ?_
  exact W.iret (v := q3) hx hb hr (fun t ht hW => ⟨_, rfl, (Option.some.inj hm), ht⟩) (fun _ h => nomatch h) dX0_countFor_40
def fX0_countOf_L0 (x : BD) (p1 : Int32) : Nat → Int32 → Int32 → Option (Int32)
  | 0, _, _ => none
  | n + 1, i0_2, i0_3 => (if 48 ≤ i0_3 then (some i0_2) else (if (rat x.2 288 (fX0_cellOf p1 i0_3)) ≤ 0 then (fX0_countOf_L0 x p1 n (i0_2 + 0) (i0_3 + 1)) else (fX0_countOf_L0 x p1 n (i0_2 + 1) (i0_3 + 1))))
def fX0_countOf (x : BD) (p1 : Int32) : Option (Int32) := ((fX0_countOf_L0 x p1 1000 0 0).bind (fun q3 => some q3))
abbrev rm_X0_countOf : Jvm.Room := { frames := 1, cells := 0, slots := 0, locals := 21 }
theorem hd_X0_countOf : yX0_countOf.cls = RX0 ∧ yX0_countOf.cls ≠ "java/lang/invoke/MethodHandle" ∧ yX0_countOf.cls ≠ "java/lang/invoke/VarHandle" ∧ (parseMethodDescriptor yX0_countOf.desc).map (fun d => d.parameters.length) = some 1 := by decide +kernel
set_option maxHeartbeats 4000000 in
set_option maxRecDepth 100000 in
theorem kX0_countOf (l : Launch) (g : CX) (h0 h1 h2 : Nat) (x : BD) (p1 : Int32) (res : Int32) (hm0 : fX0_countOf x p1 = some res) : Met l yX0_countOf (wg yX0_countOf cX0_countOf 4 (some .int)) rm_X0_countOf (PR g [.ref h0, .int p1] (w_X0 g h0 h1 h2 x)) (vp_Si (fun v => v = res)) 0 0 (fun _ => False) := by
  refine Met.ofW (cc := cX0_countOf) (maxL := 4) (ret := (some .int)) (by decide) rfl ?_
  intro p e s m args below meth c s₁ B hml hv
  obtain ⟨rfl, hP, hK, hL⟩ := hv
  have hx := B.exec
  have hb := B.bytes
  have hr := B.returns
  have htG := wg_G (atoms_spec (ws := wg yX0_countOf cX0_countOf 4 (some .int)) B.pre)
  have hown : s.vm.findClass RX0 = some m.cls := findClass_of_methodNamed B.named
  have hlocks := B.notSynchronized
  have hS : va_S (fun _ => False) s.heap s.heap [] := va_S.rf
  have hl := lv_entry ([.ref h0, .int p1]) (n := 4) (Nat.le_of_ble_eq_true rfl)
  rw [lg_entry_eq]
  generalize (lg_sl ([.ref h0, .int p1]) ++ List.replicate (4 - (lg_sl ([.ref h0, .int p1])).length) Slot.unset).toArray = ls at hl ⊢
  have hl : lv_has ls 4 [(0, .ref h0), (1, .int p1)] := hl
  have hm := hm0
  unfold fX0_countOf at hm
  refine lv_iconst (v := 0) hx hb dX0_countOf_0 (by decide) ?_
  refine lv_istore_n (lv' := [(2, .int 0), (0, .ref h0), (1, .int p1)]) hx hb dX0_countOf_1 rfl hl (by decide) rfl (fun ls hl => ?_)
  refine lv_iconst (v := 0) hx hb dX0_countOf_2 (by decide) ?_
  refine lv_istore_n (lv' := [(3, .int 0), (2, .int 0), (0, .ref h0), (1, .int p1)]) hx hb dX0_countOf_3 rfl hl (by decide) rfl (fun ls hl => ?_)
  have hL0 : ∀ (Q : State → Prop), ∀ (n : Nat) (i0_2 : Int32) (i0_3 : Int32) (out : Int32) (ls : Array Slot), fX0_countOf_L0 x p1 n i0_2 i0_3 = some out → lv_has ls 4 [(0, .ref h0), (1, .int p1), (2, .int i0_2), (3, .int i0_3)] → (∀ ls : Array Slot, lv_has ls 4 [(2, .int out)] → W p l e (headSpec (wg yX0_countOf cX0_countOf 4 (some .int)) rm_X0_countOf).room s m (([.ref h0, .int p1] : List Value).toArray) below meth c s.heap [] 0 0 Q (F0 m 39 ls [])) → W p l e (headSpec (wg yX0_countOf cX0_countOf 4 (some .int)) rm_X0_countOf).room s m (([.ref h0, .int p1] : List Value).toArray) below meth c s.heap [] 0 0 Q (F0 m 4 ls []) := by
    intro Q n
    induction n with
    | zero =>
      intro i0_2 i0_3 out ls hm hl hk
      simp [fX0_countOf_L0] at hm
    | succ n ih =>
      intro i0_2 i0_3 out ls hm hl hk
      rw [fX0_countOf_L0] at hm
      refine lv_iload_n hx hb dX0_countOf_4 rfl (lv_at hl 3 rfl) ?_
      refine lv_bipush (v := 48) hx hb dX0_countOf_5 (by decide +kernel) ?_
      refine lv_icmp_ge (tgt := 39) hx hb dX0_countOf_7 (by decide) (fun c1 => ?_) (fun c1 => ?_)
      · replace hm := (if_pos c1).symm.trans hm
        obtain rfl := Option.some.inj hm
        exact hk ls (lv_sub hl [2] rfl)
      · replace hm := (if_neg c1).symm.trans hm
        refine lv_iload_n hx hb dX0_countOf_10 rfl (lv_at hl 2 rfl) ?_
        refine lv_aload_n hx hb dX0_countOf_11 rfl (lv_at hl 0 rfl) ?_
        refine va_get (D := g.1) (ci := 0) (v := .ref h2) (C := RX0) (T := TX0) (N := 2) hx hb htG in_wsX00 hown hK.1 hP 0 rfl rfl 1 (by decide) (htG _ g1_34) (fun _ h9 => h9) rfl dX0_countOf_12 ?_
        refine lv_iload_n hx hb dX0_countOf_15 rfl (lv_at hl 1 rfl) ?_
        refine lv_iload_n hx hb dX0_countOf_16 rfl (lv_at hl 3 rfl) ?_
        refine ko_i (va_runS (As := [.int p1, .int i0_3]) (rest := [.ref h2, .int i0_2]) ⟨hx, hb, hml, hown, htG⟩ (kX0_cellOf l g p1 i0_3 _ rfl) (va_cwS 2 htG (GS g2_139 g2_140 g1_3 g2_141) rfl rfl rfl hs_X0_cellOf ⟨Nat.le_of_ble_eq_true rfl, Nat.le_of_ble_eq_true rfl⟩) (PR_S hK hL hS hP [] rfl) rfl rfl hl.1 rfl (lv_room (Nat.le_of_ble_eq_true rfl)) dX0_countOf_17 ⟨Nat.zero_le _, Nat.zero_le _⟩) (fun r hw => ?_)
        obtain rfl := hw
        refine ko_i (va_runS (As := [.ref h2, .int (fX0_cellOf p1 i0_3)]) (rest := [.int i0_2]) ⟨hx, hb, hml, hown, htG⟩ (kX4_at l g h2 x.2 288 (fX0_cellOf p1 i0_3) (by decide)) (va_cwS 2 htG (GS g2_142 g2_62 g1_5 g2_63) rfl rfl rfl hs_X4_at ⟨Nat.le_of_ble_eq_true rfl, Nat.le_of_ble_eq_true rfl⟩) (PT_S hK (va_T_of hK hP 2 rfl)) rfl rfl hl.1 rfl (lv_room (Nat.le_of_ble_eq_true rfl)) dX0_countOf_20 ⟨Nat.zero_le _, Nat.zero_le _⟩) (fun r hw => ?_)
        obtain rfl := hw
        refine lv_if_le (tgt := 30) hx hb dX0_countOf_23 (by decide) (fun c2 => ?_) (fun c2 => ?_)
        · replace hm := (if_pos c2).symm.trans hm
          refine lv_iconst (v := 0) hx hb dX0_countOf_30 (by decide) ?_
          refine lv_iadd hx hb dX0_countOf_31 ?_
          refine lv_istore_n (lv' := [(2, .int (i0_2 + 0)), (0, .ref h0), (1, .int p1), (3, .int i0_3)]) hx hb dX0_countOf_32 rfl hl (by decide) rfl (fun ls hl => ?_)
          refine lv_iinc (v := i0_3 + 1) (lv' := [(3, .int (i0_3 + 1)), (2, .int (i0_2 + 0)), (0, .ref h0), (1, .int p1)]) hx hb dX0_countOf_33 hl (k := 3) rfl rfl (by decide) rfl (fun ls hl => ?_)
          refine lv_goto (tgt := 4) hx hb dX0_countOf_36 (by decide) ?_
          exact ih (i0_2 + 0) (i0_3 + 1) out ls hm (lv_sub hl [2, 3, 1, 0] rfl) hk
        · replace hm := (if_neg c2).symm.trans hm
          refine lv_iconst (v := 1) hx hb dX0_countOf_26 (by decide) ?_
          refine lv_goto (tgt := 31) hx hb dX0_countOf_27 (by decide) ?_
          refine lv_iadd hx hb dX0_countOf_31 ?_
          refine lv_istore_n (lv' := [(2, .int (i0_2 + 1)), (0, .ref h0), (1, .int p1), (3, .int i0_3)]) hx hb dX0_countOf_32 rfl hl (by decide) rfl (fun ls hl => ?_)
          refine lv_iinc (v := i0_3 + 1) (lv' := [(3, .int (i0_3 + 1)), (2, .int (i0_2 + 1)), (0, .ref h0), (1, .int p1)]) hx hb dX0_countOf_33 hl (k := 3) rfl rfl (by decide) rfl (fun ls hl => ?_)
          refine lv_goto (tgt := 4) hx hb dX0_countOf_36 (by decide) ?_
          exact ih (i0_2 + 1) (i0_3 + 1) out ls hm (lv_sub hl [2, 3, 1, 0] rfl) hk
  obtain ⟨q3, hq3, hm⟩ := bdk hm
  refine hL0 _ 1000 0 0 q3 _ hq3 (lv_sub hl [2, 3, 1, 0] rfl) (fun ls hl => ?_)
  refine lv_iload_n hx hb dX0_countOf_39 rfl (lv_at hl 0 rfl) ?_
  exact W.iret (v := q3) hx hb hr (fun t ht hW => ⟨_, rfl, (Option.some.inj hm), ht⟩) (fun _ h => nomatch h) dX0_countOf_40
def fX0_offeredBy_L0 (x : BD) (p1 : Int32) : Nat → Int32 → Int32 → Option (Int32)
  | 0, _, _ => none
  | n + 1, i0_2, i0_3 => (if 48 ≤ i0_3 then (some i0_2) else (bnd (i0_2 + (rat x.2 288 (fX0_cellOf p1 i0_3))) (fun v2 => (fX0_offeredBy_L0 x p1 n v2 (i0_3 + 1)))))
def fX0_offeredBy (x : BD) (p1 : Int32) : Option (Int32) := ((fX0_offeredBy_L0 x p1 1000 0 0).bind (fun q3 => some q3))
abbrev rm_X0_offeredBy : Jvm.Room := { frames := 1, cells := 0, slots := 0, locals := 21 }
theorem hd_X0_offeredBy : yX0_offeredBy.cls = RX0 ∧ yX0_offeredBy.cls ≠ "java/lang/invoke/MethodHandle" ∧ yX0_offeredBy.cls ≠ "java/lang/invoke/VarHandle" ∧ (parseMethodDescriptor yX0_offeredBy.desc).map (fun d => d.parameters.length) = some 1 := by decide +kernel
set_option maxHeartbeats 4000000 in
set_option maxRecDepth 100000 in
theorem kX0_offeredBy (l : Launch) (g : CX) (h0 h1 h2 : Nat) (x : BD) (p1 : Int32) (res : Int32) (hm0 : fX0_offeredBy x p1 = some res) : Met l yX0_offeredBy (wg yX0_offeredBy cX0_offeredBy 4 (some .int)) rm_X0_offeredBy (PR g [.ref h0, .int p1] (w_X0 g h0 h1 h2 x)) (vp_Si (fun v => v = res)) 0 0 (fun _ => False) := by
  refine Met.ofW (cc := cX0_offeredBy) (maxL := 4) (ret := (some .int)) (by decide) rfl ?_
  intro p e s m args below meth c s₁ B hml hv
  obtain ⟨rfl, hP, hK, hL⟩ := hv
  have hx := B.exec
  have hb := B.bytes
  have hr := B.returns
  have htG := wg_G (atoms_spec (ws := wg yX0_offeredBy cX0_offeredBy 4 (some .int)) B.pre)
  have hown : s.vm.findClass RX0 = some m.cls := findClass_of_methodNamed B.named
  have hlocks := B.notSynchronized
  have hS : va_S (fun _ => False) s.heap s.heap [] := va_S.rf
  have hl := lv_entry ([.ref h0, .int p1]) (n := 4) (Nat.le_of_ble_eq_true rfl)
  rw [lg_entry_eq]
  generalize (lg_sl ([.ref h0, .int p1]) ++ List.replicate (4 - (lg_sl ([.ref h0, .int p1])).length) Slot.unset).toArray = ls at hl ⊢
  have hl : lv_has ls 4 [(0, .ref h0), (1, .int p1)] := hl
  have hm := hm0
  unfold fX0_offeredBy at hm
  refine lv_iconst (v := 0) hx hb dX0_offeredBy_0 (by decide) ?_
  refine lv_istore_n (lv' := [(2, .int 0), (0, .ref h0), (1, .int p1)]) hx hb dX0_offeredBy_1 rfl hl (by decide) rfl (fun ls hl => ?_)
  refine lv_iconst (v := 0) hx hb dX0_offeredBy_2 (by decide) ?_
  refine lv_istore_n (lv' := [(3, .int 0), (2, .int 0), (0, .ref h0), (1, .int p1)]) hx hb dX0_offeredBy_3 rfl hl (by decide) rfl (fun ls hl => ?_)
  have hL0 : ∀ (Q : State → Prop), ∀ (n : Nat) (i0_2 : Int32) (i0_3 : Int32) (out : Int32) (ls : Array Slot), fX0_offeredBy_L0 x p1 n i0_2 i0_3 = some out → lv_has ls 4 [(0, .ref h0), (1, .int p1), (2, .int i0_2), (3, .int i0_3)] → (∀ ls : Array Slot, lv_has ls 4 [(2, .int out)] → W p l e (headSpec (wg yX0_offeredBy cX0_offeredBy 4 (some .int)) rm_X0_offeredBy).room s m (([.ref h0, .int p1] : List Value).toArray) below meth c s.heap [] 0 0 Q (F0 m 31 ls [])) → W p l e (headSpec (wg yX0_offeredBy cX0_offeredBy 4 (some .int)) rm_X0_offeredBy).room s m (([.ref h0, .int p1] : List Value).toArray) below meth c s.heap [] 0 0 Q (F0 m 4 ls []) := by
    intro Q n
    induction n with
    | zero =>
      intro i0_2 i0_3 out ls hm hl hk
      simp [fX0_offeredBy_L0] at hm
    | succ n ih =>
      intro i0_2 i0_3 out ls hm hl hk
      rw [fX0_offeredBy_L0] at hm
      refine lv_iload_n hx hb dX0_offeredBy_4 rfl (lv_at hl 3 rfl) ?_
      refine lv_bipush (v := 48) hx hb dX0_offeredBy_5 (by decide +kernel) ?_
      refine lv_icmp_ge (tgt := 31) hx hb dX0_offeredBy_7 (by decide) (fun c1 => ?_) (fun c1 => ?_)
      · replace hm := (if_pos c1).symm.trans hm
        obtain rfl := Option.some.inj hm
        exact hk ls (lv_sub hl [2] rfl)
      · replace hm := (if_neg c1).symm.trans hm
        refine lv_iload_n hx hb dX0_offeredBy_10 rfl (lv_at hl 2 rfl) ?_
        refine lv_aload_n hx hb dX0_offeredBy_11 rfl (lv_at hl 0 rfl) ?_
        refine va_get (D := g.1) (ci := 0) (v := .ref h2) (C := RX0) (T := TX0) (N := 2) hx hb htG in_wsX00 hown hK.1 hP 0 rfl rfl 1 (by decide) (htG _ g1_34) (fun _ h9 => h9) rfl dX0_offeredBy_12 ?_
        refine lv_iload_n hx hb dX0_offeredBy_15 rfl (lv_at hl 1 rfl) ?_
        refine lv_iload_n hx hb dX0_offeredBy_16 rfl (lv_at hl 3 rfl) ?_
        refine ko_i (va_runS (As := [.int p1, .int i0_3]) (rest := [.ref h2, .int i0_2]) ⟨hx, hb, hml, hown, htG⟩ (kX0_cellOf l g p1 i0_3 _ rfl) (va_cwS 2 htG (GS g2_139 g2_140 g1_3 g2_141) rfl rfl rfl hs_X0_cellOf ⟨Nat.le_of_ble_eq_true rfl, Nat.le_of_ble_eq_true rfl⟩) (PR_S hK hL hS hP [] rfl) rfl rfl hl.1 rfl (lv_room (Nat.le_of_ble_eq_true rfl)) dX0_offeredBy_17 ⟨Nat.zero_le _, Nat.zero_le _⟩) (fun r hw => ?_)
        obtain rfl := hw
        refine ko_i (va_runS (As := [.ref h2, .int (fX0_cellOf p1 i0_3)]) (rest := [.int i0_2]) ⟨hx, hb, hml, hown, htG⟩ (kX4_at l g h2 x.2 288 (fX0_cellOf p1 i0_3) (by decide)) (va_cwS 2 htG (GS g2_142 g2_62 g1_5 g2_63) rfl rfl rfl hs_X4_at ⟨Nat.le_of_ble_eq_true rfl, Nat.le_of_ble_eq_true rfl⟩) (PT_S hK (va_T_of hK hP 2 rfl)) rfl rfl hl.1 rfl (lv_room (Nat.le_of_ble_eq_true rfl)) dX0_offeredBy_20 ⟨Nat.zero_le _, Nat.zero_le _⟩) (fun r hw => ?_)
        obtain rfl := hw
        refine lv_iadd hx hb dX0_offeredBy_23 ?_
        obtain ⟨v2, ev2, hm⟩ := bnk hm
        refine tope ev2 ?_
        refine lv_istore_n (lv' := [(2, .int v2), (0, .ref h0), (1, .int p1), (3, .int i0_3)]) hx hb dX0_offeredBy_24 rfl hl (by decide) rfl (fun ls hl => ?_)
        refine lv_iinc (v := i0_3 + 1) (lv' := [(3, .int (i0_3 + 1)), (2, .int v2), (0, .ref h0), (1, .int p1)]) hx hb dX0_offeredBy_25 hl (k := 3) rfl rfl (by decide) rfl (fun ls hl => ?_)
        refine lv_goto (tgt := 4) hx hb dX0_offeredBy_28 (by decide) ?_
        exact ih v2 (i0_3 + 1) out ls hm (lv_sub hl [2, 3, 1, 0] rfl) hk
  obtain ⟨q3, hq3, hm⟩ := bdk hm
  refine hL0 _ 1000 0 0 q3 _ hq3 (lv_sub hl [2, 3, 1, 0] rfl) (fun ls hl => ?_)
  refine lv_iload_n hx hb dX0_offeredBy_31 rfl (lv_at hl 0 rfl) ?_
  exact W.iret (v := q3) hx hb hr (fun t ht hW => ⟨_, rfl, (Option.some.inj hm), ht⟩) (fun _ h => nomatch h) dX0_offeredBy_32
def fX0_highest_L0 (x : BD) (p1 : Int32) (p2 : Int32) (p3 : Int32) : Nat → Int32 → Int32 → Option (Int32)
  | 0, _, _ => none
  | n + 1, i0_4, i0_5 => (if 6 ≤ i0_5 then (some i0_4) else (bnd (rat x.2 288 (fX0_cellOf i0_5 p1)) (fun v2 => (if i0_5 = p3 then (fX0_highest_L0 x p1 p2 p3 n i0_4 (i0_5 + 1)) else (if p2 < (rat x.1 288 (fX0_cellOf i0_5 p1)) then (fX0_highest_L0 x p1 p2 p3 n i0_4 (i0_5 + 1)) else (if v2 ≤ i0_4 then (fX0_highest_L0 x p1 p2 p3 n i0_4 (i0_5 + 1)) else (fX0_highest_L0 x p1 p2 p3 n v2 (i0_5 + 1))))))))
def fX0_highest (x : BD) (p1 : Int32) (p2 : Int32) (p3 : Int32) : Option (Int32) := ((fX0_highest_L0 x p1 p2 p3 1000 0 0).bind (fun q9 => some q9))
abbrev rm_X0_highest : Jvm.Room := { frames := 1, cells := 0, slots := 0, locals := 21 }
theorem hd_X0_highest : yX0_highest.cls = RX0 ∧ yX0_highest.cls ≠ "java/lang/invoke/MethodHandle" ∧ yX0_highest.cls ≠ "java/lang/invoke/VarHandle" ∧ (parseMethodDescriptor yX0_highest.desc).map (fun d => d.parameters.length) = some 3 := by decide +kernel
set_option maxHeartbeats 4000000 in
set_option maxRecDepth 100000 in
theorem kX0_highest (l : Launch) (g : CX) (h0 h1 h2 : Nat) (x : BD) (p1 : Int32) (p2 : Int32) (p3 : Int32) (res : Int32) (hm0 : fX0_highest x p1 p2 p3 = some res) : Met l yX0_highest (wg yX0_highest cX0_highest 8 (some .int)) rm_X0_highest (PR g [.ref h0, .int p1, .int p2, .int p3] (w_X0 g h0 h1 h2 x)) (vp_Si (fun v => v = res)) 0 0 (fun _ => False) := by
  refine Met.ofW (cc := cX0_highest) (maxL := 8) (ret := (some .int)) (by decide) rfl ?_
  intro p e s m args below meth c s₁ B hml hv
  obtain ⟨rfl, hP, hK, hL⟩ := hv
  have hx := B.exec
  have hb := B.bytes
  have hr := B.returns
  have htG := wg_G (atoms_spec (ws := wg yX0_highest cX0_highest 8 (some .int)) B.pre)
  have hown : s.vm.findClass RX0 = some m.cls := findClass_of_methodNamed B.named
  have hlocks := B.notSynchronized
  have hS : va_S (fun _ => False) s.heap s.heap [] := va_S.rf
  have hl := lv_entry ([.ref h0, .int p1, .int p2, .int p3]) (n := 8) (Nat.le_of_ble_eq_true rfl)
  rw [lg_entry_eq]
  generalize (lg_sl ([.ref h0, .int p1, .int p2, .int p3]) ++ List.replicate (8 - (lg_sl ([.ref h0, .int p1, .int p2, .int p3])).length) Slot.unset).toArray = ls at hl ⊢
  have hl : lv_has ls 8 [(0, .ref h0), (1, .int p1), (2, .int p2), (3, .int p3)] := hl
  have hm := hm0
  unfold fX0_highest at hm
  refine lv_iconst (v := 0) hx hb dX0_highest_0 (by decide) ?_
  refine lv_istore (lv' := [(4, .int 0), (0, .ref h0), (1, .int p1), (2, .int p2), (3, .int p3)]) hx hb dX0_highest_1 hl (by decide) rfl (fun ls hl => ?_)
  refine lv_iconst (v := 0) hx hb dX0_highest_3 (by decide) ?_
  refine lv_istore (lv' := [(5, .int 0), (4, .int 0), (0, .ref h0), (1, .int p1), (2, .int p2), (3, .int p3)]) hx hb dX0_highest_4 hl (by decide) rfl (fun ls hl => ?_)
  have hL0 : ∀ (Q : State → Prop), ∀ (n : Nat) (i0_4 : Int32) (i0_5 : Int32) (out : Int32) (ls : Array Slot), fX0_highest_L0 x p1 p2 p3 n i0_4 i0_5 = some out → lv_has ls 8 [(0, .ref h0), (1, .int p1), (2, .int p2), (3, .int p3), (4, .int i0_4), (5, .int i0_5)] → (∀ ls : Array Slot, lv_has ls 8 [(4, .int out)] → W p l e (headSpec (wg yX0_highest cX0_highest 8 (some .int)) rm_X0_highest).room s m (([.ref h0, .int p1, .int p2, .int p3] : List Value).toArray) below meth c s.heap [] 0 0 Q (F0 m 85 ls [])) → W p l e (headSpec (wg yX0_highest cX0_highest 8 (some .int)) rm_X0_highest).room s m (([.ref h0, .int p1, .int p2, .int p3] : List Value).toArray) below meth c s.heap [] 0 0 Q (F0 m 6 ls []) := by
    intro Q n
    induction n with
    | zero =>
      intro i0_4 i0_5 out ls hm hl hk
      simp [fX0_highest_L0] at hm
    | succ n ih =>
      intro i0_4 i0_5 out ls hm hl hk
      rw [fX0_highest_L0] at hm
      refine lv_iload hx hb dX0_highest_6 (lv_at hl 5 rfl) ?_
      refine lv_bipush (v := 6) hx hb dX0_highest_8 (by decide +kernel) ?_
      refine lv_icmp_ge (tgt := 85) hx hb dX0_highest_10 (by decide) (fun c1 => ?_) (fun c1 => ?_)
      · replace hm := (if_pos c1).symm.trans hm
        obtain rfl := Option.some.inj hm
        exact hk ls (lv_sub hl [4] rfl)
      · replace hm := (if_neg c1).symm.trans hm
        refine lv_aload_n hx hb dX0_highest_13 rfl (lv_at hl 0 rfl) ?_
        refine va_get (D := g.1) (ci := 0) (v := .ref h2) (C := RX0) (T := TX0) (N := 2) hx hb htG in_wsX00 hown hK.1 hP 0 rfl rfl 1 (by decide) (htG _ g1_34) (fun _ h9 => h9) rfl dX0_highest_14 ?_
        refine lv_iload hx hb dX0_highest_17 (lv_at hl 5 rfl) ?_
        refine lv_iload_n hx hb dX0_highest_19 rfl (lv_at hl 1 rfl) ?_
        refine ko_i (va_runS (As := [.int i0_5, .int p1]) (rest := [.ref h2]) ⟨hx, hb, hml, hown, htG⟩ (kX0_cellOf l g i0_5 p1 _ rfl) (va_cwS 2 htG (GS g2_139 g2_140 g1_3 g2_141) rfl rfl rfl hs_X0_cellOf ⟨Nat.le_of_ble_eq_true rfl, Nat.le_of_ble_eq_true rfl⟩) (PR_S hK hL hS hP [] rfl) rfl rfl hl.1 rfl (lv_room (Nat.le_of_ble_eq_true rfl)) dX0_highest_20 ⟨Nat.zero_le _, Nat.zero_le _⟩) (fun r hw => ?_)
        obtain rfl := hw
        refine ko_i (va_runS (As := [.ref h2, .int (fX0_cellOf i0_5 p1)]) (rest := []) ⟨hx, hb, hml, hown, htG⟩ (kX4_at l g h2 x.2 288 (fX0_cellOf i0_5 p1) (by decide)) (va_cwS 2 htG (GS g2_142 g2_62 g1_5 g2_63) rfl rfl rfl hs_X4_at ⟨Nat.le_of_ble_eq_true rfl, Nat.le_of_ble_eq_true rfl⟩) (PT_S hK (va_T_of hK hP 2 rfl)) rfl rfl hl.1 rfl (lv_room (Nat.le_of_ble_eq_true rfl)) dX0_highest_23 ⟨Nat.zero_le _, Nat.zero_le _⟩) (fun r hw => ?_)
        obtain rfl := hw
        obtain ⟨v2, ev2, hm⟩ := bnk hm
        refine tope ev2 ?_
        refine lv_istore (lv' := [(6, .int v2), (0, .ref h0), (1, .int p1), (2, .int p2), (3, .int p3), (4, .int i0_4), (5, .int i0_5)]) hx hb dX0_highest_26 hl (by decide) rfl (fun ls hl => ?_)
        refine lv_iload hx hb dX0_highest_28 (lv_at hl 6 rfl) ?_
        refine lv_iload_n hx hb dX0_highest_30 rfl (lv_at hl 4 rfl) ?_
        refine lv_icmp_eq (tgt := 55) hx hb dX0_highest_31 (by decide) (fun c3 => ?_) (fun c3 => ?_)
        · replace hm := (if_pos c3).symm.trans hm
          refine lv_iconst (v := 0) hx hb dX0_highest_55 (by decide) ?_
          refine lv_istore (lv' := [(7, .int 0), (6, .int v2), (0, .ref h0), (1, .int p1), (2, .int p2), (3, .int p3), (4, .int i0_4), (5, .int i0_5)]) hx hb dX0_highest_56 hl (by decide) rfl (fun ls hl => ?_)
          refine lv_iload hx hb dX0_highest_58 (lv_at hl 0 rfl) ?_
          refine lv_if_eq (tgt := 75) hx hb dX0_highest_60 (by decide) (fun _ => ?_) (fun c4 => absurd c4 (by decide))
          refine lv_iload hx hb dX0_highest_75 (lv_at hl 6 rfl) ?_
          refine lv_istore (lv' := [(4, .int i0_4), (7, .int 0), (6, .int v2), (0, .ref h0), (1, .int p1), (2, .int p2), (3, .int p3), (5, .int i0_5)]) hx hb dX0_highest_77 hl (by decide) rfl (fun ls hl => ?_)
          refine lv_iinc (v := i0_5 + 1) (lv' := [(5, .int (i0_5 + 1)), (4, .int i0_4), (7, .int 0), (6, .int v2), (0, .ref h0), (1, .int p1), (2, .int p2), (3, .int p3)]) hx hb dX0_highest_79 hl (k := 7) rfl rfl (by decide) rfl (fun ls hl => ?_)
          refine lv_goto (tgt := 6) hx hb dX0_highest_82 (by decide) ?_
          exact ih i0_4 (i0_5 + 1) out ls hm (lv_sub hl [4, 5, 6, 7, 1, 0] rfl) hk
        · replace hm := (if_neg c3).symm.trans hm
          refine lv_aload_n hx hb dX0_highest_34 rfl (lv_at hl 1 rfl) ?_
          refine va_get (D := g.1) (ci := 0) (v := .ref h1) (C := RX0) (T := TX0) (N := 2) hx hb htG in_wsX00 hown hK.1 hP 0 rfl rfl 0 (by decide) (htG _ g1_33) (fun _ h9 => h9) rfl dX0_highest_35 ?_
          refine lv_iload hx hb dX0_highest_38 (lv_at hl 6 rfl) ?_
          refine lv_iload_n hx hb dX0_highest_40 rfl (lv_at hl 2 rfl) ?_
          refine ko_i (va_runS (As := [.int i0_5, .int p1]) (rest := [.ref h1]) ⟨hx, hb, hml, hown, htG⟩ (kX0_cellOf l g i0_5 p1 _ rfl) (va_cwS 2 htG (GS g2_139 g2_140 g1_3 g2_141) rfl rfl rfl hs_X0_cellOf ⟨Nat.le_of_ble_eq_true rfl, Nat.le_of_ble_eq_true rfl⟩) (PR_S hK hL hS hP [] rfl) rfl rfl hl.1 rfl (lv_room (Nat.le_of_ble_eq_true rfl)) dX0_highest_41 ⟨Nat.zero_le _, Nat.zero_le _⟩) (fun r hw => ?_)
          obtain rfl := hw
          refine ko_i (va_runS (As := [.ref h1, .int (fX0_cellOf i0_5 p1)]) (rest := []) ⟨hx, hb, hml, hown, htG⟩ (kX4_at l g h1 x.1 288 (fX0_cellOf i0_5 p1) (by decide)) (va_cwS 2 htG (GS g2_142 g2_62 g1_5 g2_63) rfl rfl rfl hs_X4_at ⟨Nat.le_of_ble_eq_true rfl, Nat.le_of_ble_eq_true rfl⟩) (PT_S hK (va_T_of hK hP 1 rfl)) rfl rfl hl.1 rfl (lv_room (Nat.le_of_ble_eq_true rfl)) dX0_highest_44 ⟨Nat.zero_le _, Nat.zero_le _⟩) (fun r hw => ?_)
          obtain rfl := hw
          refine lv_iload_n hx hb dX0_highest_47 rfl (lv_at hl 3 rfl) ?_
          refine lv_icmp_gt (tgt := 55) hx hb dX0_highest_48 (by decide) (fun c5 => ?_) (fun c5 => ?_)
          · replace hm := (if_pos c5).symm.trans hm
            refine lv_iconst (v := 0) hx hb dX0_highest_55 (by decide) ?_
            refine lv_istore (lv' := [(7, .int 0), (6, .int v2), (0, .ref h0), (1, .int p1), (2, .int p2), (3, .int p3), (4, .int i0_4), (5, .int i0_5)]) hx hb dX0_highest_56 hl (by decide) rfl (fun ls hl => ?_)
            refine lv_iload hx hb dX0_highest_58 (lv_at hl 0 rfl) ?_
            refine lv_if_eq (tgt := 75) hx hb dX0_highest_60 (by decide) (fun _ => ?_) (fun c6 => absurd c6 (by decide))
            refine lv_iload hx hb dX0_highest_75 (lv_at hl 6 rfl) ?_
            refine lv_istore (lv' := [(4, .int i0_4), (7, .int 0), (6, .int v2), (0, .ref h0), (1, .int p1), (2, .int p2), (3, .int p3), (5, .int i0_5)]) hx hb dX0_highest_77 hl (by decide) rfl (fun ls hl => ?_)
            refine lv_iinc (v := i0_5 + 1) (lv' := [(5, .int (i0_5 + 1)), (4, .int i0_4), (7, .int 0), (6, .int v2), (0, .ref h0), (1, .int p1), (2, .int p2), (3, .int p3)]) hx hb dX0_highest_79 hl (k := 7) rfl rfl (by decide) rfl (fun ls hl => ?_)
            refine lv_goto (tgt := 6) hx hb dX0_highest_82 (by decide) ?_
            exact ih i0_4 (i0_5 + 1) out ls hm (lv_sub hl [4, 5, 6, 7, 1, 0] rfl) hk
          · replace hm := (if_neg c5).symm.trans hm
            refine lv_iconst (v := 1) hx hb dX0_highest_51 (by decide) ?_
            refine lv_goto (tgt := 56) hx hb dX0_highest_52 (by decide) ?_
            refine lv_istore (lv' := [(7, .int 1), (6, .int v2), (0, .ref h0), (1, .int p1), (2, .int p2), (3, .int p3), (4, .int i0_4), (5, .int i0_5)]) hx hb dX0_highest_56 hl (by decide) rfl (fun ls hl => ?_)
            refine lv_iload hx hb dX0_highest_58 (lv_at hl 0 rfl) ?_
            refine lv_if_eq (tgt := 75) hx hb dX0_highest_60 (by decide) (fun c7 => absurd c7 (by decide)) (fun _ => ?_)
            refine lv_iload hx hb dX0_highest_63 (lv_at hl 1 rfl) ?_
            refine lv_iload hx hb dX0_highest_65 (lv_at hl 6 rfl) ?_
            refine lv_icmp_le (tgt := 75) hx hb dX0_highest_67 (by decide) (fun c8 => ?_) (fun c8 => ?_)
            · replace hm := (if_pos c8).symm.trans hm
              refine lv_iload hx hb dX0_highest_75 (lv_at hl 6 rfl) ?_
              refine lv_istore (lv' := [(4, .int i0_4), (7, .int 1), (6, .int v2), (0, .ref h0), (1, .int p1), (2, .int p2), (3, .int p3), (5, .int i0_5)]) hx hb dX0_highest_77 hl (by decide) rfl (fun ls hl => ?_)
              refine lv_iinc (v := i0_5 + 1) (lv' := [(5, .int (i0_5 + 1)), (4, .int i0_4), (7, .int 1), (6, .int v2), (0, .ref h0), (1, .int p1), (2, .int p2), (3, .int p3)]) hx hb dX0_highest_79 hl (k := 7) rfl rfl (by decide) rfl (fun ls hl => ?_)
              refine lv_goto (tgt := 6) hx hb dX0_highest_82 (by decide) ?_
              exact ih i0_4 (i0_5 + 1) out ls hm (lv_sub hl [4, 5, 6, 7, 1, 0] rfl) hk
            · replace hm := (if_neg c8).symm.trans hm
              refine lv_iload hx hb dX0_highest_70 (lv_at hl 1 rfl) ?_
              refine lv_goto (tgt := 77) hx hb dX0_highest_72 (by decide) ?_
              refine lv_istore (lv' := [(4, .int v2), (7, .int 1), (6, .int v2), (0, .ref h0), (1, .int p1), (2, .int p2), (3, .int p3), (5, .int i0_5)]) hx hb dX0_highest_77 hl (by decide) rfl (fun ls hl => ?_)
              refine lv_iinc (v := i0_5 + 1) (lv' := [(5, .int (i0_5 + 1)), (4, .int v2), (7, .int 1), (6, .int v2), (0, .ref h0), (1, .int p1), (2, .int p2), (3, .int p3)]) hx hb dX0_highest_79 hl (k := 7) rfl rfl (by decide) rfl (fun ls hl => ?_)
              refine lv_goto (tgt := 6) hx hb dX0_highest_82 (by decide) ?_
              exact ih v2 (i0_5 + 1) out ls hm (lv_sub hl [4, 5, 6, 7, 1, 0] rfl) hk
  obtain ⟨q9, hq9, hm⟩ := bdk hm
  refine hL0 _ 1000 0 0 q9 _ hq9 (lv_sub hl [2, 3, 4, 5, 1, 0] rfl) (fun ls hl => ?_)
  refine lv_iload hx hb dX0_highest_85 (lv_at hl 0 rfl) ?_
  exact W.iret (v := q9) hx hb hr (fun t ht hW => ⟨_, rfl, (Option.some.inj hm), ht⟩) (fun _ h => nomatch h) dX0_highest_87
def fX0_winner_L0 (x : BD) (p1 : Int32) (p2 : Int32) : Nat → Int32 → Int32 → Int32 → Option (Int32)
  | 0, _, _, _ => none
  | n + 1, i0_3, i0_4, i0_5 => (if 6 ≤ i0_5 then (some i0_3) else (bnd (rat x.2 288 (fX0_cellOf i0_5 p1)) (fun v2 => (if v2 ≤ i0_4 then (fX0_winner_L0 x p1 p2 n i0_3 i0_4 (i0_5 + 1)) else (if p2 < (rat x.1 288 (fX0_cellOf i0_5 p1)) then (fX0_winner_L0 x p1 p2 n i0_3 i0_4 (i0_5 + 1)) else (fX0_winner_L0 x p1 p2 n i0_5 v2 (i0_5 + 1)))))))
def fX0_winner (x : BD) (p1 : Int32) (p2 : Int32) : Option (Int32) := ((fX0_winner_L0 x p1 p2 1000 (-5) 0 0).bind (fun q5 => some q5))
abbrev rm_X0_winner : Jvm.Room := { frames := 1, cells := 0, slots := 0, locals := 21 }
theorem hd_X0_winner : yX0_winner.cls = RX0 ∧ yX0_winner.cls ≠ "java/lang/invoke/MethodHandle" ∧ yX0_winner.cls ≠ "java/lang/invoke/VarHandle" ∧ (parseMethodDescriptor yX0_winner.desc).map (fun d => d.parameters.length) = some 2 := by decide +kernel
set_option maxHeartbeats 4000000 in
set_option maxRecDepth 100000 in
theorem kX0_winner (l : Launch) (g : CX) (h0 h1 h2 : Nat) (x : BD) (p1 : Int32) (p2 : Int32) (res : Int32) (hm0 : fX0_winner x p1 p2 = some res) : Met l yX0_winner (wg yX0_winner cX0_winner 7 (some .int)) rm_X0_winner (PR g [.ref h0, .int p1, .int p2] (w_X0 g h0 h1 h2 x)) (vp_Si (fun v => v = res)) 0 0 (fun _ => False) := by
  refine Met.ofW (cc := cX0_winner) (maxL := 7) (ret := (some .int)) (by decide) rfl ?_
  intro p e s m args below meth c s₁ B hml hv
  obtain ⟨rfl, hP, hK, hL⟩ := hv
  have hx := B.exec
  have hb := B.bytes
  have hr := B.returns
  have htG := wg_G (atoms_spec (ws := wg yX0_winner cX0_winner 7 (some .int)) B.pre)
  have hown : s.vm.findClass RX0 = some m.cls := findClass_of_methodNamed B.named
  have hlocks := B.notSynchronized
  have hS : va_S (fun _ => False) s.heap s.heap [] := va_S.rf
  have hl := lv_entry ([.ref h0, .int p1, .int p2]) (n := 7) (Nat.le_of_ble_eq_true rfl)
  rw [lg_entry_eq]
  generalize (lg_sl ([.ref h0, .int p1, .int p2]) ++ List.replicate (7 - (lg_sl ([.ref h0, .int p1, .int p2])).length) Slot.unset).toArray = ls at hl ⊢
  have hl : lv_has ls 7 [(0, .ref h0), (1, .int p1), (2, .int p2)] := hl
  have hm := hm0
  unfold fX0_winner at hm
  refine lv_bipush (v := (-5)) hx hb dX0_winner_0 (by decide +kernel) ?_
  refine lv_istore_n (lv' := [(3, .int (-5)), (0, .ref h0), (1, .int p1), (2, .int p2)]) hx hb dX0_winner_2 rfl hl (by decide) rfl (fun ls hl => ?_)
  refine lv_iconst (v := 0) hx hb dX0_winner_3 (by decide) ?_
  refine lv_istore (lv' := [(4, .int 0), (3, .int (-5)), (0, .ref h0), (1, .int p1), (2, .int p2)]) hx hb dX0_winner_4 hl (by decide) rfl (fun ls hl => ?_)
  refine lv_iconst (v := 0) hx hb dX0_winner_6 (by decide) ?_
  refine lv_istore (lv' := [(5, .int 0), (4, .int 0), (3, .int (-5)), (0, .ref h0), (1, .int p1), (2, .int p2)]) hx hb dX0_winner_7 hl (by decide) rfl (fun ls hl => ?_)
  have hL0 : ∀ (Q : State → Prop), ∀ (n : Nat) (i0_3 : Int32) (i0_4 : Int32) (i0_5 : Int32) (out : Int32) (ls : Array Slot), fX0_winner_L0 x p1 p2 n i0_3 i0_4 i0_5 = some out → lv_has ls 7 [(0, .ref h0), (1, .int p1), (2, .int p2), (3, .int i0_3), (4, .int i0_4), (5, .int i0_5)] → (∀ ls : Array Slot, lv_has ls 7 [(3, .int out)] → W p l e (headSpec (wg yX0_winner cX0_winner 7 (some .int)) rm_X0_winner).room s m (([.ref h0, .int p1, .int p2] : List Value).toArray) below meth c s.heap [] 0 0 Q (F0 m 68 ls [])) → W p l e (headSpec (wg yX0_winner cX0_winner 7 (some .int)) rm_X0_winner).room s m (([.ref h0, .int p1, .int p2] : List Value).toArray) below meth c s.heap [] 0 0 Q (F0 m 9 ls []) := by
    intro Q n
    induction n with
    | zero =>
      intro i0_3 i0_4 i0_5 out ls hm hl hk
      simp [fX0_winner_L0] at hm
    | succ n ih =>
      intro i0_3 i0_4 i0_5 out ls hm hl hk
      rw [fX0_winner_L0] at hm
      refine lv_iload hx hb dX0_winner_9 (lv_at hl 5 rfl) ?_
      refine lv_bipush (v := 6) hx hb dX0_winner_11 (by decide +kernel) ?_
      refine lv_icmp_ge (tgt := 68) hx hb dX0_winner_13 (by decide) (fun c1 => ?_) (fun c1 => ?_)
      · replace hm := (if_pos c1).symm.trans hm
        obtain rfl := Option.some.inj hm
        exact hk ls (lv_sub hl [3] rfl)
      · replace hm := (if_neg c1).symm.trans hm
        refine lv_aload_n hx hb dX0_winner_16 rfl (lv_at hl 0 rfl) ?_
        refine va_get (D := g.1) (ci := 0) (v := .ref h2) (C := RX0) (T := TX0) (N := 2) hx hb htG in_wsX00 hown hK.1 hP 0 rfl rfl 1 (by decide) (htG _ g1_34) (fun _ h9 => h9) rfl dX0_winner_17 ?_
        refine lv_iload hx hb dX0_winner_20 (lv_at hl 5 rfl) ?_
        refine lv_iload_n hx hb dX0_winner_22 rfl (lv_at hl 1 rfl) ?_
        refine ko_i (va_runS (As := [.int i0_5, .int p1]) (rest := [.ref h2]) ⟨hx, hb, hml, hown, htG⟩ (kX0_cellOf l g i0_5 p1 _ rfl) (va_cwS 2 htG (GS g2_139 g2_140 g1_3 g2_141) rfl rfl rfl hs_X0_cellOf ⟨Nat.le_of_ble_eq_true rfl, Nat.le_of_ble_eq_true rfl⟩) (PR_S hK hL hS hP [] rfl) rfl rfl hl.1 rfl (lv_room (Nat.le_of_ble_eq_true rfl)) dX0_winner_23 ⟨Nat.zero_le _, Nat.zero_le _⟩) (fun r hw => ?_)
        obtain rfl := hw
        refine ko_i (va_runS (As := [.ref h2, .int (fX0_cellOf i0_5 p1)]) (rest := []) ⟨hx, hb, hml, hown, htG⟩ (kX4_at l g h2 x.2 288 (fX0_cellOf i0_5 p1) (by decide)) (va_cwS 2 htG (GS g2_142 g2_62 g1_5 g2_63) rfl rfl rfl hs_X4_at ⟨Nat.le_of_ble_eq_true rfl, Nat.le_of_ble_eq_true rfl⟩) (PT_S hK (va_T_of hK hP 2 rfl)) rfl rfl hl.1 rfl (lv_room (Nat.le_of_ble_eq_true rfl)) dX0_winner_26 ⟨Nat.zero_le _, Nat.zero_le _⟩) (fun r hw => ?_)
        obtain rfl := hw
        obtain ⟨v2, ev2, hm⟩ := bnk hm
        refine tope ev2 ?_
        refine lv_istore (lv' := [(6, .int v2), (0, .ref h0), (1, .int p1), (2, .int p2), (3, .int i0_3), (4, .int i0_4), (5, .int i0_5)]) hx hb dX0_winner_29 hl (by decide) rfl (fun ls hl => ?_)
        refine lv_iload hx hb dX0_winner_31 (lv_at hl 0 rfl) ?_
        refine lv_iload hx hb dX0_winner_33 (lv_at hl 5 rfl) ?_
        refine lv_icmp_le (tgt := 62) hx hb dX0_winner_35 (by decide) (fun c3 => ?_) (fun c3 => ?_)
        · replace hm := (if_pos c3).symm.trans hm
          refine lv_iinc (v := i0_5 + 1) (lv' := [(5, .int (i0_5 + 1)), (6, .int v2), (0, .ref h0), (1, .int p1), (2, .int p2), (3, .int i0_3), (4, .int i0_4)]) hx hb dX0_winner_62 hl (k := 6) rfl rfl (by decide) rfl (fun ls hl => ?_)
          refine lv_goto (tgt := 9) hx hb dX0_winner_65 (by decide) ?_
          exact ih i0_3 i0_4 (i0_5 + 1) out ls hm (lv_sub hl [2, 3, 4, 5, 6, 0] rfl) hk
        · replace hm := (if_neg c3).symm.trans hm
          refine lv_aload_n hx hb dX0_winner_38 rfl (lv_at hl 1 rfl) ?_
          refine va_get (D := g.1) (ci := 0) (v := .ref h1) (C := RX0) (T := TX0) (N := 2) hx hb htG in_wsX00 hown hK.1 hP 0 rfl rfl 0 (by decide) (htG _ g1_33) (fun _ h9 => h9) rfl dX0_winner_39 ?_
          refine lv_iload hx hb dX0_winner_42 (lv_at hl 6 rfl) ?_
          refine lv_iload_n hx hb dX0_winner_44 rfl (lv_at hl 2 rfl) ?_
          refine ko_i (va_runS (As := [.int i0_5, .int p1]) (rest := [.ref h1]) ⟨hx, hb, hml, hown, htG⟩ (kX0_cellOf l g i0_5 p1 _ rfl) (va_cwS 2 htG (GS g2_139 g2_140 g1_3 g2_141) rfl rfl rfl hs_X0_cellOf ⟨Nat.le_of_ble_eq_true rfl, Nat.le_of_ble_eq_true rfl⟩) (PR_S hK hL hS hP [] rfl) rfl rfl hl.1 rfl (lv_room (Nat.le_of_ble_eq_true rfl)) dX0_winner_45 ⟨Nat.zero_le _, Nat.zero_le _⟩) (fun r hw => ?_)
          obtain rfl := hw
          refine ko_i (va_runS (As := [.ref h1, .int (fX0_cellOf i0_5 p1)]) (rest := []) ⟨hx, hb, hml, hown, htG⟩ (kX4_at l g h1 x.1 288 (fX0_cellOf i0_5 p1) (by decide)) (va_cwS 2 htG (GS g2_142 g2_62 g1_5 g2_63) rfl rfl rfl hs_X4_at ⟨Nat.le_of_ble_eq_true rfl, Nat.le_of_ble_eq_true rfl⟩) (PT_S hK (va_T_of hK hP 1 rfl)) rfl rfl hl.1 rfl (lv_room (Nat.le_of_ble_eq_true rfl)) dX0_winner_48 ⟨Nat.zero_le _, Nat.zero_le _⟩) (fun r hw => ?_)
          obtain rfl := hw
          refine lv_iload_n hx hb dX0_winner_51 rfl (lv_at hl 3 rfl) ?_
          refine lv_icmp_gt (tgt := 62) hx hb dX0_winner_52 (by decide) (fun c4 => ?_) (fun c4 => ?_)
          · replace hm := (if_pos c4).symm.trans hm
            refine lv_iinc (v := i0_5 + 1) (lv' := [(5, .int (i0_5 + 1)), (6, .int v2), (0, .ref h0), (1, .int p1), (2, .int p2), (3, .int i0_3), (4, .int i0_4)]) hx hb dX0_winner_62 hl (k := 6) rfl rfl (by decide) rfl (fun ls hl => ?_)
            refine lv_goto (tgt := 9) hx hb dX0_winner_65 (by decide) ?_
            exact ih i0_3 i0_4 (i0_5 + 1) out ls hm (lv_sub hl [2, 3, 4, 5, 6, 0] rfl) hk
          · replace hm := (if_neg c4).symm.trans hm
            refine lv_iload hx hb dX0_winner_55 (lv_at hl 6 rfl) ?_
            refine lv_istore_n (lv' := [(3, .int i0_5), (6, .int v2), (0, .ref h0), (1, .int p1), (2, .int p2), (4, .int i0_4), (5, .int i0_5)]) hx hb dX0_winner_57 rfl hl (by decide) rfl (fun ls hl => ?_)
            refine lv_iload hx hb dX0_winner_58 (lv_at hl 1 rfl) ?_
            refine lv_istore (lv' := [(4, .int v2), (3, .int i0_5), (6, .int v2), (0, .ref h0), (1, .int p1), (2, .int p2), (5, .int i0_5)]) hx hb dX0_winner_60 hl (by decide) rfl (fun ls hl => ?_)
            refine lv_iinc (v := i0_5 + 1) (lv' := [(5, .int (i0_5 + 1)), (4, .int v2), (3, .int i0_5), (6, .int v2), (0, .ref h0), (1, .int p1), (2, .int p2)]) hx hb dX0_winner_62 hl (k := 6) rfl rfl (by decide) rfl (fun ls hl => ?_)
            refine lv_goto (tgt := 9) hx hb dX0_winner_65 (by decide) ?_
            exact ih i0_5 v2 (i0_5 + 1) out ls hm (lv_sub hl [4, 5, 6, 2, 1, 0] rfl) hk
  obtain ⟨q5, hq5, hm⟩ := bdk hm
  refine hL0 _ 1000 (-5) 0 0 q5 _ hq5 (lv_sub hl [3, 4, 5, 2, 1, 0] rfl) (fun ls hl => ?_)
  refine lv_iload_n hx hb dX0_winner_68 rfl (lv_at hl 0 rfl) ?_
  exact W.iret (v := q5) hx hb hr (fun t ht hW => ⟨_, rfl, (Option.some.inj hm), ht⟩) (fun _ h => nomatch h) dX0_winner_69
end
section
theorem zz_ok : True := trivial
end
