def fX8_isFirm (p0 : Int32) : Int32 := (if p0 < 0 then 0 else (if 6 ≤ p0 then 0 else 1))
abbrev rm_X8_isFirm : Jvm.Room := { frames := 0, cells := 0, slots := 0, locals := 0 }
theorem hs_X8_isFirm : yX8_isFirm.cls ≠ "java/lang/invoke/MethodHandle" ∧ yX8_isFirm.cls ≠ "java/lang/invoke/VarHandle" ∧ (parseMethodDescriptor yX8_isFirm.desc).map (fun d => d.parameters.length) = some 1 := by decide +kernel
set_option maxHeartbeats 4000000 in
set_option maxRecDepth 100000 in
theorem kX8_isFirm (l : Launch) (g : CX) (p0 : Int32) (res : Int32) (hm0 : fX8_isFirm p0 = res) : Met l yX8_isFirm (wg yX8_isFirm cX8_isFirm 1 (some .boolean)) rm_X8_isFirm (PR g [.int p0] ([])) (vp_Si (fun v => v = res)) 0 0 (fun _ => False) := by
  refine Met.ofW (cc := cX8_isFirm) (maxL := 1) (ret := (some .boolean)) (by decide) rfl ?_
  intro p e s m args below meth c s₁ B hml hv
  obtain ⟨rfl, hP, hK, hL⟩ := hv
  have hx := B.exec
  have hb := B.bytes
  have hr := B.returns
  have htG := wg_G (atoms_spec (ws := wg yX8_isFirm cX8_isFirm 1 (some .boolean)) B.pre)
  have hown : s.vm.findClass RX8 = some m.cls := findClass_of_methodNamed B.named
  have hlocks := B.notSynchronized
  have hS : va_S (fun _ => False) s.heap s.heap [] := va_S.rf
  have hl := lv_entry ([.int p0]) (n := 1) (Nat.le_of_ble_eq_true rfl)
  rw [lg_entry_eq]
  generalize (lg_sl ([.int p0]) ++ List.replicate (1 - (lg_sl ([.int p0])).length) Slot.unset).toArray = ls at hl ⊢
  have hl : lv_has ls 1 [(0, .int p0)] := hl
  have hm := hm0
  unfold fX8_isFirm at hm
  refine lv_iload_n hx hb dX8_isFirm_0 rfl (lv_at hl 0 rfl) ?_
  refine lv_if_lt (tgt := 14) hx hb dX8_isFirm_1 (by decide) (fun zc1 => ?_) (fun zc1 => ?_)
  · replace hm := (if_pos zc1).symm.trans hm
    refine lv_iconst (v := 0) hx hb dX8_isFirm_14 (by decide) ?_
    exact W.zret (v := 0) (ty := .boolean) hx hb hr rfl (fun t ht hW => ⟨_, rfl, hm, ht⟩) (fun _ h => nomatch h) dX8_isFirm_15
  · replace hm := (if_neg zc1).symm.trans hm
    refine lv_iload_n hx hb dX8_isFirm_4 rfl (lv_at hl 0 rfl) ?_
    refine lv_bipush (v := 6) hx hb dX8_isFirm_5 (by decide +kernel) ?_
    refine lv_icmp_ge (tgt := 14) hx hb dX8_isFirm_7 (by decide) (fun zc2 => ?_) (fun zc2 => ?_)
    · replace hm := (if_pos zc2).symm.trans hm
      refine lv_iconst (v := 0) hx hb dX8_isFirm_14 (by decide) ?_
      exact W.zret (v := 0) (ty := .boolean) hx hb hr rfl (fun t ht hW => ⟨_, rfl, hm, ht⟩) (fun _ h => nomatch h) dX8_isFirm_15
    · replace hm := (if_neg zc2).symm.trans hm
      refine lv_iconst (v := 1) hx hb dX8_isFirm_10 (by decide) ?_
      refine lv_goto (tgt := 15) hx hb dX8_isFirm_11 (by decide) ?_
      exact W.zret (v := 1) (ty := .boolean) hx hb hr rfl (fun t ht hW => ⟨_, rfl, hm, ht⟩) (fun _ h => nomatch h) dX8_isFirm_15
def fX8_isCrane (p0 : Int32) : Int32 := (if p0 < 0 then 0 else (if 3 ≤ p0 then 0 else 1))
abbrev rm_X8_isCrane : Jvm.Room := { frames := 0, cells := 0, slots := 0, locals := 0 }
theorem hs_X8_isCrane : yX8_isCrane.cls ≠ "java/lang/invoke/MethodHandle" ∧ yX8_isCrane.cls ≠ "java/lang/invoke/VarHandle" ∧ (parseMethodDescriptor yX8_isCrane.desc).map (fun d => d.parameters.length) = some 1 := by decide +kernel
set_option maxHeartbeats 4000000 in
set_option maxRecDepth 100000 in
theorem kX8_isCrane (l : Launch) (g : CX) (p0 : Int32) (res : Int32) (hm0 : fX8_isCrane p0 = res) : Met l yX8_isCrane (wg yX8_isCrane cX8_isCrane 1 (some .boolean)) rm_X8_isCrane (PR g [.int p0] ([])) (vp_Si (fun v => v = res)) 0 0 (fun _ => False) := by
  refine Met.ofW (cc := cX8_isCrane) (maxL := 1) (ret := (some .boolean)) (by decide) rfl ?_
  intro p e s m args below meth c s₁ B hml hv
  obtain ⟨rfl, hP, hK, hL⟩ := hv
  have hx := B.exec
  have hb := B.bytes
  have hr := B.returns
  have htG := wg_G (atoms_spec (ws := wg yX8_isCrane cX8_isCrane 1 (some .boolean)) B.pre)
  have hown : s.vm.findClass RX8 = some m.cls := findClass_of_methodNamed B.named
  have hlocks := B.notSynchronized
  have hS : va_S (fun _ => False) s.heap s.heap [] := va_S.rf
  have hl := lv_entry ([.int p0]) (n := 1) (Nat.le_of_ble_eq_true rfl)
  rw [lg_entry_eq]
  generalize (lg_sl ([.int p0]) ++ List.replicate (1 - (lg_sl ([.int p0])).length) Slot.unset).toArray = ls at hl ⊢
  have hl : lv_has ls 1 [(0, .int p0)] := hl
  have hm := hm0
  unfold fX8_isCrane at hm
  refine lv_iload_n hx hb dX8_isCrane_0 rfl (lv_at hl 0 rfl) ?_
  refine lv_if_lt (tgt := 13) hx hb dX8_isCrane_1 (by decide) (fun zc1 => ?_) (fun zc1 => ?_)
  · replace hm := (if_pos zc1).symm.trans hm
    refine lv_iconst (v := 0) hx hb dX8_isCrane_13 (by decide) ?_
    exact W.zret (v := 0) (ty := .boolean) hx hb hr rfl (fun t ht hW => ⟨_, rfl, hm, ht⟩) (fun _ h => nomatch h) dX8_isCrane_14
  · replace hm := (if_neg zc1).symm.trans hm
    refine lv_iload_n hx hb dX8_isCrane_4 rfl (lv_at hl 0 rfl) ?_
    refine lv_iconst (v := 3) hx hb dX8_isCrane_5 (by decide) ?_
    refine lv_icmp_ge (tgt := 13) hx hb dX8_isCrane_6 (by decide) (fun zc2 => ?_) (fun zc2 => ?_)
    · replace hm := (if_pos zc2).symm.trans hm
      refine lv_iconst (v := 0) hx hb dX8_isCrane_13 (by decide) ?_
      exact W.zret (v := 0) (ty := .boolean) hx hb hr rfl (fun t ht hW => ⟨_, rfl, hm, ht⟩) (fun _ h => nomatch h) dX8_isCrane_14
    · replace hm := (if_neg zc2).symm.trans hm
      refine lv_iconst (v := 1) hx hb dX8_isCrane_9 (by decide) ?_
      refine lv_goto (tgt := 14) hx hb dX8_isCrane_10 (by decide) ?_
      exact W.zret (v := 1) (ty := .boolean) hx hb hr rfl (fun t ht hW => ⟨_, rfl, hm, ht⟩) (fun _ h => nomatch h) dX8_isCrane_14
def fX8_isHour (p0 : Int32) : Int32 := (if p0 < 0 then 0 else (if 16 ≤ p0 then 0 else 1))
abbrev rm_X8_isHour : Jvm.Room := { frames := 0, cells := 0, slots := 0, locals := 0 }
theorem hs_X8_isHour : yX8_isHour.cls ≠ "java/lang/invoke/MethodHandle" ∧ yX8_isHour.cls ≠ "java/lang/invoke/VarHandle" ∧ (parseMethodDescriptor yX8_isHour.desc).map (fun d => d.parameters.length) = some 1 := by decide +kernel
set_option maxHeartbeats 4000000 in
set_option maxRecDepth 100000 in
theorem kX8_isHour (l : Launch) (g : CX) (p0 : Int32) (res : Int32) (hm0 : fX8_isHour p0 = res) : Met l yX8_isHour (wg yX8_isHour cX8_isHour 1 (some .boolean)) rm_X8_isHour (PR g [.int p0] ([])) (vp_Si (fun v => v = res)) 0 0 (fun _ => False) := by
  refine Met.ofW (cc := cX8_isHour) (maxL := 1) (ret := (some .boolean)) (by decide) rfl ?_
  intro p e s m args below meth c s₁ B hml hv
  obtain ⟨rfl, hP, hK, hL⟩ := hv
  have hx := B.exec
  have hb := B.bytes
  have hr := B.returns
  have htG := wg_G (atoms_spec (ws := wg yX8_isHour cX8_isHour 1 (some .boolean)) B.pre)
  have hown : s.vm.findClass RX8 = some m.cls := findClass_of_methodNamed B.named
  have hlocks := B.notSynchronized
  have hS : va_S (fun _ => False) s.heap s.heap [] := va_S.rf
  have hl := lv_entry ([.int p0]) (n := 1) (Nat.le_of_ble_eq_true rfl)
  rw [lg_entry_eq]
  generalize (lg_sl ([.int p0]) ++ List.replicate (1 - (lg_sl ([.int p0])).length) Slot.unset).toArray = ls at hl ⊢
  have hl : lv_has ls 1 [(0, .int p0)] := hl
  have hm := hm0
  unfold fX8_isHour at hm
  refine lv_iload_n hx hb dX8_isHour_0 rfl (lv_at hl 0 rfl) ?_
  refine lv_if_lt (tgt := 14) hx hb dX8_isHour_1 (by decide) (fun zc1 => ?_) (fun zc1 => ?_)
  · replace hm := (if_pos zc1).symm.trans hm
    refine lv_iconst (v := 0) hx hb dX8_isHour_14 (by decide) ?_
    exact W.zret (v := 0) (ty := .boolean) hx hb hr rfl (fun t ht hW => ⟨_, rfl, hm, ht⟩) (fun _ h => nomatch h) dX8_isHour_15
  · replace hm := (if_neg zc1).symm.trans hm
    refine lv_iload_n hx hb dX8_isHour_4 rfl (lv_at hl 0 rfl) ?_
    refine lv_bipush (v := 16) hx hb dX8_isHour_5 (by decide +kernel) ?_
    refine lv_icmp_ge (tgt := 14) hx hb dX8_isHour_7 (by decide) (fun zc2 => ?_) (fun zc2 => ?_)
    · replace hm := (if_pos zc2).symm.trans hm
      refine lv_iconst (v := 0) hx hb dX8_isHour_14 (by decide) ?_
      exact W.zret (v := 0) (ty := .boolean) hx hb hr rfl (fun t ht hW => ⟨_, rfl, hm, ht⟩) (fun _ h => nomatch h) dX8_isHour_15
    · replace hm := (if_neg zc2).symm.trans hm
      refine lv_iconst (v := 1) hx hb dX8_isHour_10 (by decide) ?_
      refine lv_goto (tgt := 15) hx hb dX8_isHour_11 (by decide) ?_
      exact W.zret (v := 1) (ty := .boolean) hx hb hr rfl (fun t ht hW => ⟨_, rfl, hm, ht⟩) (fun _ h => nomatch h) dX8_isHour_15
def fX8_isWind (p0 : Int32) : Int32 := (if p0 < 0 then 0 else (if 99 < p0 then 0 else 1))
abbrev rm_X8_isWind : Jvm.Room := { frames := 0, cells := 0, slots := 0, locals := 0 }
theorem hs_X8_isWind : yX8_isWind.cls ≠ "java/lang/invoke/MethodHandle" ∧ yX8_isWind.cls ≠ "java/lang/invoke/VarHandle" ∧ (parseMethodDescriptor yX8_isWind.desc).map (fun d => d.parameters.length) = some 1 := by decide +kernel
set_option maxHeartbeats 4000000 in
set_option maxRecDepth 100000 in
theorem kX8_isWind (l : Launch) (g : CX) (p0 : Int32) (res : Int32) (hm0 : fX8_isWind p0 = res) : Met l yX8_isWind (wg yX8_isWind cX8_isWind 1 (some .boolean)) rm_X8_isWind (PR g [.int p0] ([])) (vp_Si (fun v => v = res)) 0 0 (fun _ => False) := by
  refine Met.ofW (cc := cX8_isWind) (maxL := 1) (ret := (some .boolean)) (by decide) rfl ?_
  intro p e s m args below meth c s₁ B hml hv
  obtain ⟨rfl, hP, hK, hL⟩ := hv
  have hx := B.exec
  have hb := B.bytes
  have hr := B.returns
  have htG := wg_G (atoms_spec (ws := wg yX8_isWind cX8_isWind 1 (some .boolean)) B.pre)
  have hown : s.vm.findClass RX8 = some m.cls := findClass_of_methodNamed B.named
  have hlocks := B.notSynchronized
  have hS : va_S (fun _ => False) s.heap s.heap [] := va_S.rf
  have hl := lv_entry ([.int p0]) (n := 1) (Nat.le_of_ble_eq_true rfl)
  rw [lg_entry_eq]
  generalize (lg_sl ([.int p0]) ++ List.replicate (1 - (lg_sl ([.int p0])).length) Slot.unset).toArray = ls at hl ⊢
  have hl : lv_has ls 1 [(0, .int p0)] := hl
  have hm := hm0
  unfold fX8_isWind at hm
  refine lv_iload_n hx hb dX8_isWind_0 rfl (lv_at hl 0 rfl) ?_
  refine lv_if_lt (tgt := 14) hx hb dX8_isWind_1 (by decide) (fun zc1 => ?_) (fun zc1 => ?_)
  · replace hm := (if_pos zc1).symm.trans hm
    refine lv_iconst (v := 0) hx hb dX8_isWind_14 (by decide) ?_
    exact W.zret (v := 0) (ty := .boolean) hx hb hr rfl (fun t ht hW => ⟨_, rfl, hm, ht⟩) (fun _ h => nomatch h) dX8_isWind_15
  · replace hm := (if_neg zc1).symm.trans hm
    refine lv_iload_n hx hb dX8_isWind_4 rfl (lv_at hl 0 rfl) ?_
    refine lv_bipush (v := 99) hx hb dX8_isWind_5 (by decide +kernel) ?_
    refine lv_icmp_gt (tgt := 14) hx hb dX8_isWind_7 (by decide) (fun zc2 => ?_) (fun zc2 => ?_)
    · replace hm := (if_pos zc2).symm.trans hm
      refine lv_iconst (v := 0) hx hb dX8_isWind_14 (by decide) ?_
      exact W.zret (v := 0) (ty := .boolean) hx hb hr rfl (fun t ht hW => ⟨_, rfl, hm, ht⟩) (fun _ h => nomatch h) dX8_isWind_15
    · replace hm := (if_neg zc2).symm.trans hm
      refine lv_iconst (v := 1) hx hb dX8_isWind_10 (by decide) ?_
      refine lv_goto (tgt := 15) hx hb dX8_isWind_11 (by decide) ?_
      exact W.zret (v := 1) (ty := .boolean) hx hb hr rfl (fun t ht hW => ⟨_, rfl, hm, ht⟩) (fun _ h => nomatch h) dX8_isWind_15
def fX8_slotOf (p0 : Int32) (p1 : Int32) : Int32 := ((p0 * 16) + p1)
abbrev rm_X8_slotOf : Jvm.Room := { frames := 0, cells := 0, slots := 0, locals := 0 }
theorem hs_X8_slotOf : yX8_slotOf.cls ≠ "java/lang/invoke/MethodHandle" ∧ yX8_slotOf.cls ≠ "java/lang/invoke/VarHandle" ∧ (parseMethodDescriptor yX8_slotOf.desc).map (fun d => d.parameters.length) = some 2 := by decide +kernel
set_option maxHeartbeats 4000000 in
set_option maxRecDepth 100000 in
theorem kX8_slotOf (l : Launch) (g : CX) (p0 : Int32) (p1 : Int32) (res : Int32) (hm0 : fX8_slotOf p0 p1 = res) : Met l yX8_slotOf (wg yX8_slotOf cX8_slotOf 2 (some .int)) rm_X8_slotOf (PR g [.int p0, .int p1] ([])) (vp_Si (fun v => v = res)) 0 0 (fun _ => False) := by
  refine Met.ofW (cc := cX8_slotOf) (maxL := 2) (ret := (some .int)) (by decide) rfl ?_
  intro p e s m args below meth c s₁ B hml hv
  obtain ⟨rfl, hP, hK, hL⟩ := hv
  have hx := B.exec
  have hb := B.bytes
  have hr := B.returns
  have htG := wg_G (atoms_spec (ws := wg yX8_slotOf cX8_slotOf 2 (some .int)) B.pre)
  have hown : s.vm.findClass RX8 = some m.cls := findClass_of_methodNamed B.named
  have hlocks := B.notSynchronized
  have hS : va_S (fun _ => False) s.heap s.heap [] := va_S.rf
  have hl := lv_entry ([.int p0, .int p1]) (n := 2) (Nat.le_of_ble_eq_true rfl)
  rw [lg_entry_eq]
  generalize (lg_sl ([.int p0, .int p1]) ++ List.replicate (2 - (lg_sl ([.int p0, .int p1])).length) Slot.unset).toArray = ls at hl ⊢
  have hl : lv_has ls 2 [(0, .int p0), (1, .int p1)] := hl
  have hm := hm0
  unfold fX8_slotOf at hm
  refine lv_iload_n hx hb dX8_slotOf_0 rfl (lv_at hl 0 rfl) ?_
  refine lv_bipush (v := 16) hx hb dX8_slotOf_1 (by decide +kernel) ?_
  refine lv_imul hx hb dX8_slotOf_3 ?_
  refine lv_iload_n hx hb dX8_slotOf_4 rfl (lv_at hl 1 rfl) ?_
  refine lv_iadd hx hb dX8_slotOf_5 ?_
  exact W.iret (v := ((p0 * 16) + p1)) hx hb hr (fun t ht hW => ⟨_, rfl, hm, ht⟩) (fun _ h => nomatch h) dX8_slotOf_6
def fX8_isSlot (p0 : Int32) (p1 : Int32) : Int32 := (if (fX8_isCrane p0) = 0 then 0 else (if (fX8_isHour p1) = 0 then 0 else 1))
abbrev rm_X8_isSlot : Jvm.Room := { frames := 1, cells := 0, slots := 0, locals := 20 }
theorem hs_X8_isSlot : yX8_isSlot.cls ≠ "java/lang/invoke/MethodHandle" ∧ yX8_isSlot.cls ≠ "java/lang/invoke/VarHandle" ∧ (parseMethodDescriptor yX8_isSlot.desc).map (fun d => d.parameters.length) = some 2 := by decide +kernel
set_option maxHeartbeats 4000000 in
set_option maxRecDepth 100000 in
theorem kX8_isSlot (l : Launch) (g : CX) (p0 : Int32) (p1 : Int32) (res : Int32) (hm0 : fX8_isSlot p0 p1 = res) : Met l yX8_isSlot (wg yX8_isSlot cX8_isSlot 2 (some .boolean)) rm_X8_isSlot (PR g [.int p0, .int p1] ([])) (vp_Si (fun v => v = res)) 0 0 (fun _ => False) := by
  refine Met.ofW (cc := cX8_isSlot) (maxL := 2) (ret := (some .boolean)) (by decide) rfl ?_
  intro p e s m args below meth c s₁ B hml hv
  obtain ⟨rfl, hP, hK, hL⟩ := hv
  have hx := B.exec
  have hb := B.bytes
  have hr := B.returns
  have htG := wg_G (atoms_spec (ws := wg yX8_isSlot cX8_isSlot 2 (some .boolean)) B.pre)
  have hown : s.vm.findClass RX8 = some m.cls := findClass_of_methodNamed B.named
  have hlocks := B.notSynchronized
  have hS : va_S (fun _ => False) s.heap s.heap [] := va_S.rf
  have hl := lv_entry ([.int p0, .int p1]) (n := 2) (Nat.le_of_ble_eq_true rfl)
  rw [lg_entry_eq]
  generalize (lg_sl ([.int p0, .int p1]) ++ List.replicate (2 - (lg_sl ([.int p0, .int p1])).length) Slot.unset).toArray = ls at hl ⊢
  have hl : lv_has ls 2 [(0, .int p0), (1, .int p1)] := hl
  have hm := hm0
  unfold fX8_isSlot at hm
  refine lv_iload_n hx hb dX8_isSlot_0 rfl (lv_at hl 0 rfl) ?_
  refine ko_e (va_runS (As := [.int p0]) (rest := []) ⟨hx, hb, hml, hown, htG⟩ (kX8_isCrane l g p0 _ rfl) (va_cwS 1 htG (GS g2_112 g2_113 g1_1 g2_114) rfl rfl rfl hs_X8_isCrane ⟨Nat.le_of_ble_eq_true rfl, Nat.le_of_ble_eq_true rfl⟩) (PR_S hK hL hS hP [] rfl) rfl rfl hl.1 rfl (lv_room (Nat.le_of_ble_eq_true rfl)) dX8_isSlot_1 ⟨Nat.zero_le _, Nat.zero_le _⟩) ?_
  refine lv_if_eq (tgt := 18) hx hb dX8_isSlot_4 (by decide) (fun zc1 => ?_) (fun zc1 => ?_)
  · replace hm := (if_pos zc1).symm.trans hm
    refine lv_iconst (v := 0) hx hb dX8_isSlot_18 (by decide) ?_
    exact W.zret (v := 0) (ty := .boolean) hx hb hr rfl (fun t ht hW => ⟨_, rfl, hm, ht⟩) (fun _ h => nomatch h) dX8_isSlot_19
  · replace hm := (if_neg zc1).symm.trans hm
    refine lv_iload_n hx hb dX8_isSlot_7 rfl (lv_at hl 1 rfl) ?_
    refine ko_e (va_runS (As := [.int p1]) (rest := []) ⟨hx, hb, hml, hown, htG⟩ (kX8_isHour l g p1 _ rfl) (va_cwS 1 htG (GS g2_115 g2_51 g1_1 g2_52) rfl rfl rfl hs_X8_isHour ⟨Nat.le_of_ble_eq_true rfl, Nat.le_of_ble_eq_true rfl⟩) (PR_S hK hL hS hP [] rfl) rfl rfl hl.1 rfl (lv_room (Nat.le_of_ble_eq_true rfl)) dX8_isSlot_8 ⟨Nat.zero_le _, Nat.zero_le _⟩) ?_
    refine lv_if_eq (tgt := 18) hx hb dX8_isSlot_11 (by decide) (fun zc2 => ?_) (fun zc2 => ?_)
    · replace hm := (if_pos zc2).symm.trans hm
      refine lv_iconst (v := 0) hx hb dX8_isSlot_18 (by decide) ?_
      exact W.zret (v := 0) (ty := .boolean) hx hb hr rfl (fun t ht hW => ⟨_, rfl, hm, ht⟩) (fun _ h => nomatch h) dX8_isSlot_19
    · replace hm := (if_neg zc2).symm.trans hm
      refine lv_iconst (v := 1) hx hb dX8_isSlot_14 (by decide) ?_
      refine lv_goto (tgt := 19) hx hb dX8_isSlot_15 (by decide) ?_
      exact W.zret (v := 1) (ty := .boolean) hx hb hr rfl (fun t ht hW => ⟨_, rfl, hm, ht⟩) (fun _ h => nomatch h) dX8_isSlot_19
def fX8_isLift (p0 : Int32) (p1 : Int32) : Int32 := (if p1 < 1 then 0 else (if (rat fL 3 p0) < p1 then 0 else 1))
abbrev rm_X8_isLift : Jvm.Room := { frames := 1, cells := 0, slots := 0, locals := 21 }
theorem hs_X8_isLift : yX8_isLift.cls ≠ "java/lang/invoke/MethodHandle" ∧ yX8_isLift.cls ≠ "java/lang/invoke/VarHandle" ∧ (parseMethodDescriptor yX8_isLift.desc).map (fun d => d.parameters.length) = some 2 := by decide +kernel
set_option maxHeartbeats 4000000 in
set_option maxRecDepth 100000 in
theorem kX8_isLift (l : Launch) (g : CX) (p0 : Int32) (p1 : Int32) (res : Int32) (hm0 : fX8_isLift p0 p1 = res) : Met l yX8_isLift (wg yX8_isLift cX8_isLift 2 (some .boolean)) rm_X8_isLift (PR g [.int p0, .int p1] ([])) (vp_Si (fun v => v = res)) 0 0 (fun _ => False) := by
  refine Met.ofW (cc := cX8_isLift) (maxL := 2) (ret := (some .boolean)) (by decide) rfl ?_
  intro p e s m args below meth c s₁ B hml hv
  obtain ⟨rfl, hP, hK, hL⟩ := hv
  have hx := B.exec
  have hb := B.bytes
  have hr := B.returns
  have htG := wg_G (atoms_spec (ws := wg yX8_isLift cX8_isLift 2 (some .boolean)) B.pre)
  have hown : s.vm.findClass RX8 = some m.cls := findClass_of_methodNamed B.named
  have hlocks := B.notSynchronized
  have hS : va_S (fun _ => False) s.heap s.heap [] := va_S.rf
  obtain ⟨tl, hZL, hTL⟩ := id hL
  have hl := lv_entry ([.int p0, .int p1]) (n := 2) (Nat.le_of_ble_eq_true rfl)
  rw [lg_entry_eq]
  generalize (lg_sl ([.int p0, .int p1]) ++ List.replicate (2 - (lg_sl ([.int p0, .int p1])).length) Slot.unset).toArray = ls at hl ⊢
  have hl : lv_has ls 2 [(0, .int p0), (1, .int p1)] := hl
  have hm := hm0
  unfold fX8_isLift at hm
  refine lv_iload_n hx hb dX8_isLift_0 rfl (lv_at hl 1 rfl) ?_
  refine lv_iconst (v := 1) hx hb dX8_isLift_1 (by decide) ?_
  refine lv_icmp_lt (tgt := 20) hx hb dX8_isLift_2 (by decide) (fun zc1 => ?_) (fun zc1 => ?_)
  · replace hm := (if_pos zc1).symm.trans hm
    refine lv_iconst (v := 0) hx hb dX8_isLift_20 (by decide) ?_
    exact W.zret (v := 0) (ty := .boolean) hx hb hr rfl (fun t ht hW => ⟨_, rfl, hm, ht⟩) (fun _ h => nomatch h) dX8_isLift_21
  · replace hm := (if_neg zc1).symm.trans hm
    refine lv_iload_n hx hb dX8_isLift_5 rfl (lv_at hl 1 rfl) ?_
    refine va_gets hx hb hZL hS hown (htG _ g2_119) (fun _ h9 => h9) dX8_isLift_6 ?_
    refine lv_iload_n hx hb dX8_isLift_9 rfl (lv_at hl 0 rfl) ?_
    refine ko_e (va_runS (As := [.ref tl, .int p0]) (rest := [.int p1]) ⟨hx, hb, hml, hown, htG⟩ (kX4_at l g tl fL 3 p0 (by decide)) (va_cwS 2 htG (GS g2_121 g2_61 g1_5 g2_62) rfl rfl rfl hs_X4_at ⟨Nat.le_of_ble_eq_true rfl, Nat.le_of_ble_eq_true rfl⟩) (PT_S hK ((hTL.kept hS.2.1).narrow (fun _ h => h.elim))) rfl rfl hl.1 rfl (lv_room (Nat.le_of_ble_eq_true rfl)) dX8_isLift_10 ⟨Nat.zero_le _, Nat.zero_le _⟩) ?_
    refine lv_icmp_gt (tgt := 20) hx hb dX8_isLift_13 (by decide) (fun zc2 => ?_) (fun zc2 => ?_)
    · replace hm := (if_pos zc2).symm.trans hm
      refine lv_iconst (v := 0) hx hb dX8_isLift_20 (by decide) ?_
      exact W.zret (v := 0) (ty := .boolean) hx hb hr rfl (fun t ht hW => ⟨_, rfl, hm, ht⟩) (fun _ h => nomatch h) dX8_isLift_21
    · replace hm := (if_neg zc2).symm.trans hm
      refine lv_iconst (v := 1) hx hb dX8_isLift_16 (by decide) ?_
      refine lv_goto (tgt := 21) hx hb dX8_isLift_17 (by decide) ?_
      exact W.zret (v := 1) (ty := .boolean) hx hb hr rfl (fun t ht hW => ⟨_, rfl, hm, ht⟩) (fun _ h => nomatch h) dX8_isLift_21
def fX8_heaviestAt (p0 : Int32) (p1 : Int32) : Int32 := (if 0 < (if (70 - p1) < (rat fL 3 p0) then (70 - p1) else (rat fL 3 p0)) then (if (70 - p1) < (rat fL 3 p0) then (70 - p1) else (rat fL 3 p0)) else 0)
abbrev rm_X8_heaviestAt : Jvm.Room := { frames := 1, cells := 0, slots := 0, locals := 21 }
theorem hs_X8_heaviestAt : yX8_heaviestAt.cls ≠ "java/lang/invoke/MethodHandle" ∧ yX8_heaviestAt.cls ≠ "java/lang/invoke/VarHandle" ∧ (parseMethodDescriptor yX8_heaviestAt.desc).map (fun d => d.parameters.length) = some 2 := by decide +kernel
set_option maxHeartbeats 4000000 in
set_option maxRecDepth 100000 in
theorem kX8_heaviestAt (l : Launch) (g : CX) (p0 : Int32) (p1 : Int32) (res : Int32) (hm0 : fX8_heaviestAt p0 p1 = res) : Met l yX8_heaviestAt (wg yX8_heaviestAt cX8_heaviestAt 2 (some .int)) rm_X8_heaviestAt (PR g [.int p0, .int p1] ([])) (vp_Si (fun v => v = res)) 0 0 (fun _ => False) := by
  refine Met.ofW (cc := cX8_heaviestAt) (maxL := 2) (ret := (some .int)) (by decide) rfl ?_
  intro p e s m args below meth c s₁ B hml hv
  obtain ⟨rfl, hP, hK, hL⟩ := hv
  have hx := B.exec
  have hb := B.bytes
  have hr := B.returns
  have htG := wg_G (atoms_spec (ws := wg yX8_heaviestAt cX8_heaviestAt 2 (some .int)) B.pre)
  have hown : s.vm.findClass RX8 = some m.cls := findClass_of_methodNamed B.named
  have hlocks := B.notSynchronized
  have hS : va_S (fun _ => False) s.heap s.heap [] := va_S.rf
  obtain ⟨tl, hZL, hTL⟩ := id hL
  have hl := lv_entry ([.int p0, .int p1]) (n := 2) (Nat.le_of_ble_eq_true rfl)
  rw [lg_entry_eq]
  generalize (lg_sl ([.int p0, .int p1]) ++ List.replicate (2 - (lg_sl ([.int p0, .int p1])).length) Slot.unset).toArray = ls at hl ⊢
  have hl : lv_has ls 2 [(0, .int p0), (1, .int p1)] := hl
  have hm := hm0
  unfold fX8_heaviestAt at hm
  refine lv_iconst (v := 0) hx hb dX8_heaviestAt_0 (by decide) ?_
  refine va_gets hx hb hZL hS hown (htG _ g2_119) (fun _ h9 => h9) dX8_heaviestAt_1 ?_
  refine lv_iload_n hx hb dX8_heaviestAt_4 rfl (lv_at hl 0 rfl) ?_
  refine ko_e (va_runS (As := [.ref tl, .int p0]) (rest := [.int 0]) ⟨hx, hb, hml, hown, htG⟩ (kX4_at l g tl fL 3 p0 (by decide)) (va_cwS 2 htG (GS g2_121 g2_61 g1_5 g2_62) rfl rfl rfl hs_X4_at ⟨Nat.le_of_ble_eq_true rfl, Nat.le_of_ble_eq_true rfl⟩) (PT_S hK ((hTL.kept hS.2.1).narrow (fun _ h => h.elim))) rfl rfl hl.1 rfl (lv_room (Nat.le_of_ble_eq_true rfl)) dX8_heaviestAt_5 ⟨Nat.zero_le _, Nat.zero_le _⟩) ?_
  refine lv_bipush (v := 70) hx hb dX8_heaviestAt_8 (by decide +kernel) ?_
  refine lv_iload_n hx hb dX8_heaviestAt_10 rfl (lv_at hl 1 rfl) ?_
  refine lv_isub hx hb dX8_heaviestAt_11 ?_
  refine va_mmin hx hb (hml.trans hl.1.symm) hown (htG _ g2_199) (htG _ g2_21) (htG _ g1_10) (htG _ g2_22) (Nat.le_of_ble_eq_true rfl) (Nat.le_of_ble_eq_true rfl) (Nat.zero_le _) (Nat.zero_le _) dX8_heaviestAt_12 ?_
  refine va_mmax hx hb (hml.trans hl.1.symm) hown (htG _ g2_200) (htG _ g2_201) (htG _ g1_10) (htG _ g2_202) (Nat.le_of_ble_eq_true rfl) (Nat.le_of_ble_eq_true rfl) (Nat.zero_le _) (Nat.zero_le _) dX8_heaviestAt_15 ?_
  exact W.iret (v := (if 0 < (if (70 - p1) < (rat fL 3 p0) then (70 - p1) else (rat fL 3 p0)) then (if (70 - p1) < (rat fL 3 p0) then (70 - p1) else (rat fL 3 p0)) else 0)) hx hb hr (fun t ht hW => ⟨_, rfl, hm, ht⟩) (fun _ h => nomatch h) dX8_heaviestAt_18
def fX5_copy (x : LD) (y : LD) : LD := (y.1, y.2.1, y.2.2.1, y.2.2.2)
abbrev rm_X5_copy : Jvm.Room := { frames := 2, cells := 0, slots := 0, locals := 61 }
theorem hd_X5_copy : yX5_copy.cls = RX5 ∧ yX5_copy.cls ≠ "java/lang/invoke/MethodHandle" ∧ yX5_copy.cls ≠ "java/lang/invoke/VarHandle" ∧ (parseMethodDescriptor yX5_copy.desc).map (fun d => d.parameters.length) = some 1 := by decide +kernel
set_option maxHeartbeats 4000000 in
set_option maxRecDepth 100000 in
theorem kX5_copy (l : Launch) (g : CX) (h0 h1 h2 h3 h4 : Nat) (k0 k1 k2 k3 k4 : Nat) (sz : Nat) (x : LD) (y : LD) (res : LD) (hm0 : fX5_copy x y = res) : Met l yX5_copy (wg yX5_copy cX5_copy 2 none) rm_X5_copy (PW g [.ref h0, .ref k0] sz ((w_X5 g h0 h1 h2 h3 h4 x) ++ (w_X5 g k0 k1 k2 k3 k4 y))) (va_Qv (fun u => u = res) (fun u t => va_P g.1 vwCl ((w_X5 g h0 h1 h2 h3 h4 u) ++ (w_X5 g k0 k1 k2 k3 k4 y)) t.heap) (va_A ((w_X5 g h0 h1 h2 h3 h4 x) ++ (w_X5 g k0 k1 k2 k3 k4 y)) sz)) 0 0 (va_A ((w_X5 g h0 h1 h2 h3 h4 x) ++ (w_X5 g k0 k1 k2 k3 k4 y)) sz) := by
  refine Met.ofW (cc := cX5_copy) (maxL := 2) (ret := none) (by decide) rfl ?_
  intro p e s m args below meth c s₁ B hml hv
  obtain ⟨rfl, hsz, hP, hK, hD0, hL⟩ := hv
  have hx := B.exec
  have hb := B.bytes
  have hr := B.returns
  have htG := wg_G (atoms_spec (ws := wg yX5_copy cX5_copy 2 none) B.pre)
  have hown : s.vm.findClass RX5 = some m.cls := findClass_of_methodNamed B.named
  have hlocks := B.notSynchronized
  subst hsz
  have hD := hD0.self (sz := s.heap.size)
  generalize hAe : va_A ((w_X5 g h0 h1 h2 h3 h4 x) ++ (w_X5 g k0 k1 k2 k3 k4 y)) s.heap.size = A at hD hL ⊢
  have hA : ∀ q : Nat, s.heap.size ≤ q → A q := fun q h => by rw [← hAe]; exact Or.inr h
  have hS : va_S A s.heap s.heap [] := va_S.rf
  have hl := lv_entry ([.ref h0, .ref k0]) (n := 2) (Nat.le_of_ble_eq_true rfl)
  rw [lg_entry_eq]
  generalize (lg_sl ([.ref h0, .ref k0]) ++ List.replicate (2 - (lg_sl ([.ref h0, .ref k0])).length) Slot.unset).toArray = ls at hl ⊢
  have hl : lv_has ls 2 [(0, .ref h0), (1, .ref k0)] := hl
  have hm := hm0
  unfold fX5_copy at hm
  refine lv_aload_n hx hb dX5_copy_0 rfl (lv_at hl 1 rfl) ?_
  refine va_get (D := g.1) (ci := 4) (v := .ref k1) (C := RX5) (T := TX5) (N := 4) hx hb htG in_wsX50 hown hK.1 hP 5 rfl rfl 0 (by decide) (htG _ g1_49) (fun _ h9 => h9) rfl dX5_copy_1 ?_
  refine lv_aload_n hx hb dX5_copy_4 rfl (lv_at hl 0 rfl) ?_
  refine va_get (D := g.1) (ci := 4) (v := .ref h1) (C := RX5) (T := TX5) (N := 4) hx hb htG in_wsX50 hown hK.1 hP 0 rfl rfl 0 (by decide) (htG _ g1_49) (fun _ h9 => h9) rfl dX5_copy_5 ?_
  refine kw_ve (va_runS (As := [.ref k1, .ref h1]) (rest := []) ⟨hx, hb, hml, hown, htG⟩ (kX4_copy l g k1 h1 _ y.1 x.1 48 (by decide)) (va_cwS 2 htG (GS g2_35 g2_18 g1_5 g2_19) rfl rfl rfl hs_X4_copy ⟨Nat.le_of_ble_eq_true rfl, Nat.le_of_ble_eq_true rfl⟩) (PW_S hK hL hS hP hD hA [6, 1] rfl rfl) rfl rfl hl.1 rfl (lv_room (Nat.le_of_ble_eq_true rfl)) dX5_copy_8 ⟨Nat.zero_le _, Nat.zero_le _⟩) hP hD hS hA [6, 1] rfl rfl (fun _ => rfl) (fun H locs hP hD hS => ?_)
  have hP : va_P g.1 vwCl ((w_X5 g h0 h1 h2 h3 h4 (y.1, x.2.1, x.2.2.1, x.2.2.2)) ++ (w_X5 g k0 k1 k2 k3 k4 y)) H := hP
  have hD : va_D A ((w_X5 g h0 h1 h2 h3 h4 (y.1, x.2.1, x.2.2.1, x.2.2.2)) ++ (w_X5 g k0 k1 k2 k3 k4 y)) := hD
  refine lv_aload_n hx hb dX5_copy_11 rfl (lv_at hl 1 rfl) ?_
  refine va_get (D := g.1) (ci := 4) (v := .ref k2) (C := RX5) (T := TX5) (N := 4) hx hb htG in_wsX50 hown hK.1 hP 5 rfl rfl 1 (by decide) (htG _ g1_50) (fun _ h9 => h9) rfl dX5_copy_12 ?_
  refine lv_aload_n hx hb dX5_copy_15 rfl (lv_at hl 0 rfl) ?_
  refine va_get (D := g.1) (ci := 4) (v := .ref h2) (C := RX5) (T := TX5) (N := 4) hx hb htG in_wsX50 hown hK.1 hP 0 rfl rfl 1 (by decide) (htG _ g1_50) (fun _ h9 => h9) rfl dX5_copy_16 ?_
  refine kw_ve (va_runS (As := [.ref k2, .ref h2]) (rest := []) ⟨hx, hb, hml, hown, htG⟩ (kX4_copy l g k2 h2 _ y.2.1 x.2.1 48 (by decide)) (va_cwS 2 htG (GS g2_35 g2_18 g1_5 g2_19) rfl rfl rfl hs_X4_copy ⟨Nat.le_of_ble_eq_true rfl, Nat.le_of_ble_eq_true rfl⟩) (PW_S hK hL hS hP hD hA [7, 2] rfl rfl) rfl rfl hl.1 rfl (lv_room (Nat.le_of_ble_eq_true rfl)) dX5_copy_19 ⟨Nat.zero_le _, Nat.zero_le _⟩) hP hD hS hA [7, 2] rfl rfl (fun _ => rfl) (fun H locs hP hD hS => ?_)
  have hP : va_P g.1 vwCl ((w_X5 g h0 h1 h2 h3 h4 (y.1, y.2.1, x.2.2.1, x.2.2.2)) ++ (w_X5 g k0 k1 k2 k3 k4 y)) H := hP
  have hD : va_D A ((w_X5 g h0 h1 h2 h3 h4 (y.1, y.2.1, x.2.2.1, x.2.2.2)) ++ (w_X5 g k0 k1 k2 k3 k4 y)) := hD
  refine lv_aload_n hx hb dX5_copy_22 rfl (lv_at hl 1 rfl) ?_
  refine va_get (D := g.1) (ci := 4) (v := .ref k3) (C := RX5) (T := TX5) (N := 4) hx hb htG in_wsX50 hown hK.1 hP 5 rfl rfl 2 (by decide) (htG _ g1_53) (fun _ h9 => h9) rfl dX5_copy_23 ?_
  refine lv_aload_n hx hb dX5_copy_26 rfl (lv_at hl 0 rfl) ?_
  refine va_get (D := g.1) (ci := 4) (v := .ref h3) (C := RX5) (T := TX5) (N := 4) hx hb htG in_wsX50 hown hK.1 hP 0 rfl rfl 2 (by decide) (htG _ g1_53) (fun _ h9 => h9) rfl dX5_copy_27 ?_
  refine kw_ve (va_runS (As := [.ref k3, .ref h3]) (rest := []) ⟨hx, hb, hml, hown, htG⟩ (kX4_copy l g k3 h3 _ y.2.2.1 x.2.2.1 48 (by decide)) (va_cwS 2 htG (GS g2_35 g2_18 g1_5 g2_19) rfl rfl rfl hs_X4_copy ⟨Nat.le_of_ble_eq_true rfl, Nat.le_of_ble_eq_true rfl⟩) (PW_S hK hL hS hP hD hA [8, 3] rfl rfl) rfl rfl hl.1 rfl (lv_room (Nat.le_of_ble_eq_true rfl)) dX5_copy_30 ⟨Nat.zero_le _, Nat.zero_le _⟩) hP hD hS hA [8, 3] rfl rfl (fun _ => rfl) (fun H locs hP hD hS => ?_)
  have hP : va_P g.1 vwCl ((w_X5 g h0 h1 h2 h3 h4 (y.1, y.2.1, y.2.2.1, x.2.2.2)) ++ (w_X5 g k0 k1 k2 k3 k4 y)) H := hP
  have hD : va_D A ((w_X5 g h0 h1 h2 h3 h4 (y.1, y.2.1, y.2.2.1, x.2.2.2)) ++ (w_X5 g k0 k1 k2 k3 k4 y)) := hD
  refine lv_aload_n hx hb dX5_copy_33 rfl (lv_at hl 1 rfl) ?_
  refine va_get (D := g.1) (ci := 4) (v := .ref k4) (C := RX5) (T := TX5) (N := 4) hx hb htG in_wsX50 hown hK.1 hP 5 rfl rfl 3 (by decide) (htG _ g1_56) (fun _ h9 => h9) rfl dX5_copy_34 ?_
  refine lv_aload_n hx hb dX5_copy_37 rfl (lv_at hl 0 rfl) ?_
  refine va_get (D := g.1) (ci := 4) (v := .ref h4) (C := RX5) (T := TX5) (N := 4) hx hb htG in_wsX50 hown hK.1 hP 0 rfl rfl 3 (by decide) (htG _ g1_56) (fun _ h9 => h9) rfl dX5_copy_38 ?_
  refine kw_ve (va_runS (As := [.ref k4, .ref h4]) (rest := []) ⟨hx, hb, hml, hown, htG⟩ (kX4_copy l g k4 h4 _ y.2.2.2 x.2.2.2 48 (by decide)) (va_cwS 2 htG (GS g2_35 g2_18 g1_5 g2_19) rfl rfl rfl hs_X4_copy ⟨Nat.le_of_ble_eq_true rfl, Nat.le_of_ble_eq_true rfl⟩) (PW_S hK hL hS hP hD hA [9, 4] rfl rfl) rfl rfl hl.1 rfl (lv_room (Nat.le_of_ble_eq_true rfl)) dX5_copy_41 ⟨Nat.zero_le _, Nat.zero_le _⟩) hP hD hS hA [9, 4] rfl rfl (fun _ => rfl) (fun H locs hP hD hS => ?_)
  have hP : va_P g.1 vwCl ((w_X5 g h0 h1 h2 h3 h4 (y.1, y.2.1, y.2.2.1, y.2.2.2)) ++ (w_X5 g k0 k1 k2 k3 k4 y)) H := hP
  have hD : va_D A ((w_X5 g h0 h1 h2 h3 h4 (y.1, y.2.1, y.2.2.1, y.2.2.2)) ++ (w_X5 g k0 k1 k2 k3 k4 y)) := hD
  exact W.vret hx hb hr (fun t ht hW => ⟨⟨_, rfl, hm, atH ht hP⟩, hS.F ht⟩) hS.2.2 dX5_copy_44
def fX5_clear (x : LD) : LD := ((rfill x.1 48 (-5)), (rfill x.2.1 48 0), (rfill x.2.2.1 48 0), (rfill x.2.2.2 48 0))
abbrev rm_X5_clear : Jvm.Room := { frames := 1, cells := 0, slots := 0, locals := 22 }
theorem hd_X5_clear : yX5_clear.cls = RX5 ∧ yX5_clear.cls ≠ "java/lang/invoke/MethodHandle" ∧ yX5_clear.cls ≠ "java/lang/invoke/VarHandle" ∧ (parseMethodDescriptor yX5_clear.desc).map (fun d => d.parameters.length) = some 0 := by decide +kernel
set_option maxHeartbeats 4000000 in
set_option maxRecDepth 100000 in
theorem kX5_clear (l : Launch) (g : CX) (h0 h1 h2 h3 h4 : Nat) (sz : Nat) (x : LD) (res : LD) (hm0 : fX5_clear x = res) : Met l yX5_clear (wg yX5_clear cX5_clear 1 none) rm_X5_clear (PW g [.ref h0] sz (w_X5 g h0 h1 h2 h3 h4 x)) (va_Qv (fun u => u = res) (fun u t => va_P g.1 vwCl (w_X5 g h0 h1 h2 h3 h4 u) t.heap) (va_A (w_X5 g h0 h1 h2 h3 h4 x) sz)) 0 0 (va_A (w_X5 g h0 h1 h2 h3 h4 x) sz) := by
  refine Met.ofW (cc := cX5_clear) (maxL := 1) (ret := none) (by decide) rfl ?_
  intro p e s m args below meth c s₁ B hml hv
  obtain ⟨rfl, hsz, hP, hK, hD0, hL⟩ := hv
  have hx := B.exec
  have hb := B.bytes
  have hr := B.returns
  have htG := wg_G (atoms_spec (ws := wg yX5_clear cX5_clear 1 none) B.pre)
  have hown : s.vm.findClass RX5 = some m.cls := findClass_of_methodNamed B.named
  have hlocks := B.notSynchronized
  subst hsz
  have hD := hD0.self (sz := s.heap.size)
  generalize hAe : va_A (w_X5 g h0 h1 h2 h3 h4 x) s.heap.size = A at hD hL ⊢
  have hA : ∀ q : Nat, s.heap.size ≤ q → A q := fun q h => by rw [← hAe]; exact Or.inr h
  have hS : va_S A s.heap s.heap [] := va_S.rf
  have hl := lv_entry ([.ref h0]) (n := 1) (Nat.le_of_ble_eq_true rfl)
  rw [lg_entry_eq]
  generalize (lg_sl ([.ref h0]) ++ List.replicate (1 - (lg_sl ([.ref h0])).length) Slot.unset).toArray = ls at hl ⊢
  have hl : lv_has ls 1 [(0, .ref h0)] := hl
  have hm := hm0
  unfold fX5_clear at hm
  refine lv_aload_n hx hb dX5_clear_0 rfl (lv_at hl 0 rfl) ?_
  refine va_get (D := g.1) (ci := 4) (v := .ref h1) (C := RX5) (T := TX5) (N := 4) hx hb htG in_wsX50 hown hK.1 hP 0 rfl rfl 0 (by decide) (htG _ g1_49) (fun _ h9 => h9) rfl dX5_clear_1 ?_
  refine lv_bipush (v := (-5)) hx hb dX5_clear_4 (by decide +kernel) ?_
  refine kw_ve (va_runS (As := [.ref h1, .int (-5)]) (rest := []) ⟨hx, hb, hml, hown, htG⟩ (kX4_fill l g h1 _ x.1 48 (-5) _ (t_X4_fill _ _ _ (by decide))) (va_cwS 2 htG (GS g1_46 g1_47 g1_5 g1_48) rfl rfl rfl hs_X4_fill ⟨Nat.le_of_ble_eq_true rfl, Nat.le_of_ble_eq_true rfl⟩) (PW_S hK hL hS hP hD hA [1] rfl rfl) rfl rfl hl.1 rfl (lv_room (Nat.le_of_ble_eq_true rfl)) dX5_clear_6 ⟨Nat.zero_le _, Nat.zero_le _⟩) hP hD hS hA [1] rfl rfl (fun _ => rfl) (fun H locs hP hD hS => ?_)
  have hP : va_P g.1 vwCl (w_X5 g h0 h1 h2 h3 h4 ((rfill x.1 48 (-5)), x.2.1, x.2.2.1, x.2.2.2)) H := hP
  have hD : va_D A (w_X5 g h0 h1 h2 h3 h4 ((rfill x.1 48 (-5)), x.2.1, x.2.2.1, x.2.2.2)) := hD
  refine lv_aload_n hx hb dX5_clear_9 rfl (lv_at hl 0 rfl) ?_
  refine va_get (D := g.1) (ci := 4) (v := .ref h2) (C := RX5) (T := TX5) (N := 4) hx hb htG in_wsX50 hown hK.1 hP 0 rfl rfl 1 (by decide) (htG _ g1_50) (fun _ h9 => h9) rfl dX5_clear_10 ?_
  refine lv_iconst (v := 0) hx hb dX5_clear_13 (by decide) ?_
  refine kw_ve (va_runS (As := [.ref h2, .int 0]) (rest := []) ⟨hx, hb, hml, hown, htG⟩ (kX4_fill l g h2 _ x.2.1 48 0 _ (t_X4_fill _ _ _ (by decide))) (va_cwS 2 htG (GS g1_46 g1_47 g1_5 g1_48) rfl rfl rfl hs_X4_fill ⟨Nat.le_of_ble_eq_true rfl, Nat.le_of_ble_eq_true rfl⟩) (PW_S hK hL hS hP hD hA [2] rfl rfl) rfl rfl hl.1 rfl (lv_room (Nat.le_of_ble_eq_true rfl)) dX5_clear_14 ⟨Nat.zero_le _, Nat.zero_le _⟩) hP hD hS hA [2] rfl rfl (fun _ => rfl) (fun H locs hP hD hS => ?_)
  have hP : va_P g.1 vwCl (w_X5 g h0 h1 h2 h3 h4 ((rfill x.1 48 (-5)), (rfill x.2.1 48 0), x.2.2.1, x.2.2.2)) H := hP
  have hD : va_D A (w_X5 g h0 h1 h2 h3 h4 ((rfill x.1 48 (-5)), (rfill x.2.1 48 0), x.2.2.1, x.2.2.2)) := hD
  refine lv_aload_n hx hb dX5_clear_17 rfl (lv_at hl 0 rfl) ?_
  refine va_get (D := g.1) (ci := 4) (v := .ref h3) (C := RX5) (T := TX5) (N := 4) hx hb htG in_wsX50 hown hK.1 hP 0 rfl rfl 2 (by decide) (htG _ g1_53) (fun _ h9 => h9) rfl dX5_clear_18 ?_
  refine lv_iconst (v := 0) hx hb dX5_clear_21 (by decide) ?_
  refine kw_ve (va_runS (As := [.ref h3, .int 0]) (rest := []) ⟨hx, hb, hml, hown, htG⟩ (kX4_fill l g h3 _ x.2.2.1 48 0 _ (t_X4_fill _ _ _ (by decide))) (va_cwS 2 htG (GS g1_46 g1_47 g1_5 g1_48) rfl rfl rfl hs_X4_fill ⟨Nat.le_of_ble_eq_true rfl, Nat.le_of_ble_eq_true rfl⟩) (PW_S hK hL hS hP hD hA [3] rfl rfl) rfl rfl hl.1 rfl (lv_room (Nat.le_of_ble_eq_true rfl)) dX5_clear_22 ⟨Nat.zero_le _, Nat.zero_le _⟩) hP hD hS hA [3] rfl rfl (fun _ => rfl) (fun H locs hP hD hS => ?_)
  have hP : va_P g.1 vwCl (w_X5 g h0 h1 h2 h3 h4 ((rfill x.1 48 (-5)), (rfill x.2.1 48 0), (rfill x.2.2.1 48 0), x.2.2.2)) H := hP
  have hD : va_D A (w_X5 g h0 h1 h2 h3 h4 ((rfill x.1 48 (-5)), (rfill x.2.1 48 0), (rfill x.2.2.1 48 0), x.2.2.2)) := hD
  refine lv_aload_n hx hb dX5_clear_25 rfl (lv_at hl 0 rfl) ?_
  refine va_get (D := g.1) (ci := 4) (v := .ref h4) (C := RX5) (T := TX5) (N := 4) hx hb htG in_wsX50 hown hK.1 hP 0 rfl rfl 3 (by decide) (htG _ g1_56) (fun _ h9 => h9) rfl dX5_clear_26 ?_
  refine lv_iconst (v := 0) hx hb dX5_clear_29 (by decide) ?_
  refine kw_ve (va_runS (As := [.ref h4, .int 0]) (rest := []) ⟨hx, hb, hml, hown, htG⟩ (kX4_fill l g h4 _ x.2.2.2 48 0 _ (t_X4_fill _ _ _ (by decide))) (va_cwS 2 htG (GS g1_46 g1_47 g1_5 g1_48) rfl rfl rfl hs_X4_fill ⟨Nat.le_of_ble_eq_true rfl, Nat.le_of_ble_eq_true rfl⟩) (PW_S hK hL hS hP hD hA [4] rfl rfl) rfl rfl hl.1 rfl (lv_room (Nat.le_of_ble_eq_true rfl)) dX5_clear_30 ⟨Nat.zero_le _, Nat.zero_le _⟩) hP hD hS hA [4] rfl rfl (fun _ => rfl) (fun H locs hP hD hS => ?_)
  have hP : va_P g.1 vwCl (w_X5 g h0 h1 h2 h3 h4 ((rfill x.1 48 (-5)), (rfill x.2.1 48 0), (rfill x.2.2.1 48 0), (rfill x.2.2.2 48 0))) H := hP
  have hD : va_D A (w_X5 g h0 h1 h2 h3 h4 ((rfill x.1 48 (-5)), (rfill x.2.1 48 0), (rfill x.2.2.1 48 0), (rfill x.2.2.2 48 0))) := hD
  exact W.vret hx hb hr (fun t ht hW => ⟨⟨_, rfl, hm, atH ht hP⟩, hS.F ht⟩) hS.2.2 dX5_clear_33
def fX5_give (x : LD) (p1 : Int32) (p2 : Int32) (p3 : Int32) : LD := ((rput x.1 48 p1 p2), (rput x.2.1 48 p1 p3), x.2.2.1, x.2.2.2)
abbrev rm_X5_give : Jvm.Room := { frames := 1, cells := 0, slots := 0, locals := 22 }
theorem hd_X5_give : yX5_give.cls = RX5 ∧ yX5_give.cls ≠ "java/lang/invoke/MethodHandle" ∧ yX5_give.cls ≠ "java/lang/invoke/VarHandle" ∧ (parseMethodDescriptor yX5_give.desc).map (fun d => d.parameters.length) = some 3 := by decide +kernel
set_option maxHeartbeats 4000000 in
set_option maxRecDepth 100000 in
theorem kX5_give (l : Launch) (g : CX) (h0 h1 h2 h3 h4 : Nat) (sz : Nat) (x : LD) (p1 : Int32) (p2 : Int32) (p3 : Int32) (res : LD) (hm0 : fX5_give x p1 p2 p3 = res) : Met l yX5_give (wg yX5_give cX5_give 4 none) rm_X5_give (PW g [.ref h0, .int p1, .int p2, .int p3] sz (w_X5 g h0 h1 h2 h3 h4 x)) (va_Qv (fun u => u = res) (fun u t => va_P g.1 vwCl (w_X5 g h0 h1 h2 h3 h4 u) t.heap) (va_A (w_X5 g h0 h1 h2 h3 h4 x) sz)) 0 0 (va_A (w_X5 g h0 h1 h2 h3 h4 x) sz) := by
  refine Met.ofW (cc := cX5_give) (maxL := 4) (ret := none) (by decide) rfl ?_
  intro p e s m args below meth c s₁ B hml hv
  obtain ⟨rfl, hsz, hP, hK, hD0, hL⟩ := hv
  have hx := B.exec
  have hb := B.bytes
  have hr := B.returns
  have htG := wg_G (atoms_spec (ws := wg yX5_give cX5_give 4 none) B.pre)
  have hown : s.vm.findClass RX5 = some m.cls := findClass_of_methodNamed B.named
  have hlocks := B.notSynchronized
  subst hsz
  have hD := hD0.self (sz := s.heap.size)
  generalize hAe : va_A (w_X5 g h0 h1 h2 h3 h4 x) s.heap.size = A at hD hL ⊢
  have hA : ∀ q : Nat, s.heap.size ≤ q → A q := fun q h => by rw [← hAe]; exact Or.inr h
  have hS : va_S A s.heap s.heap [] := va_S.rf
  have hl := lv_entry ([.ref h0, .int p1, .int p2, .int p3]) (n := 4) (Nat.le_of_ble_eq_true rfl)
  rw [lg_entry_eq]
  generalize (lg_sl ([.ref h0, .int p1, .int p2, .int p3]) ++ List.replicate (4 - (lg_sl ([.ref h0, .int p1, .int p2, .int p3])).length) Slot.unset).toArray = ls at hl ⊢
  have hl : lv_has ls 4 [(0, .ref h0), (1, .int p1), (2, .int p2), (3, .int p3)] := hl
  have hm := hm0
  unfold fX5_give at hm
  refine lv_aload_n hx hb dX5_give_0 rfl (lv_at hl 0 rfl) ?_
  refine va_get (D := g.1) (ci := 4) (v := .ref h1) (C := RX5) (T := TX5) (N := 4) hx hb htG in_wsX50 hown hK.1 hP 0 rfl rfl 0 (by decide) (htG _ g1_49) (fun _ h9 => h9) rfl dX5_give_1 ?_
  refine lv_iload_n hx hb dX5_give_4 rfl (lv_at hl 1 rfl) ?_
  refine lv_iload_n hx hb dX5_give_5 rfl (lv_at hl 2 rfl) ?_
  refine kw_ve (va_runS (As := [.ref h1, .int p1, .int p2]) (rest := []) ⟨hx, hb, hml, hown, htG⟩ (kX4_put l g h1 _ x.1 48 p1 p2 _ (t_X4_put _ _ _ _ (by decide))) (va_cwS 3 htG (GS g2_219 g2_64 g1_5 g2_65) rfl rfl rfl hs_X4_put ⟨Nat.le_of_ble_eq_true rfl, Nat.le_of_ble_eq_true rfl⟩) (PW_S hK hL hS hP hD hA [1] rfl rfl) rfl rfl hl.1 rfl (lv_room (Nat.le_of_ble_eq_true rfl)) dX5_give_6 ⟨Nat.zero_le _, Nat.zero_le _⟩) hP hD hS hA [1] rfl rfl (fun _ => rfl) (fun H locs hP hD hS => ?_)
  have hP : va_P g.1 vwCl (w_X5 g h0 h1 h2 h3 h4 ((rput x.1 48 p1 p2), x.2.1, x.2.2.1, x.2.2.2)) H := hP
  have hD : va_D A (w_X5 g h0 h1 h2 h3 h4 ((rput x.1 48 p1 p2), x.2.1, x.2.2.1, x.2.2.2)) := hD
  refine lv_aload_n hx hb dX5_give_9 rfl (lv_at hl 0 rfl) ?_
  refine va_get (D := g.1) (ci := 4) (v := .ref h2) (C := RX5) (T := TX5) (N := 4) hx hb htG in_wsX50 hown hK.1 hP 0 rfl rfl 1 (by decide) (htG _ g1_50) (fun _ h9 => h9) rfl dX5_give_10 ?_
  refine lv_iload_n hx hb dX5_give_13 rfl (lv_at hl 1 rfl) ?_
  refine lv_iload_n hx hb dX5_give_14 rfl (lv_at hl 3 rfl) ?_
  refine kw_ve (va_runS (As := [.ref h2, .int p1, .int p3]) (rest := []) ⟨hx, hb, hml, hown, htG⟩ (kX4_put l g h2 _ x.2.1 48 p1 p3 _ (t_X4_put _ _ _ _ (by decide))) (va_cwS 3 htG (GS g2_219 g2_64 g1_5 g2_65) rfl rfl rfl hs_X4_put ⟨Nat.le_of_ble_eq_true rfl, Nat.le_of_ble_eq_true rfl⟩) (PW_S hK hL hS hP hD hA [2] rfl rfl) rfl rfl hl.1 rfl (lv_room (Nat.le_of_ble_eq_true rfl)) dX5_give_15 ⟨Nat.zero_le _, Nat.zero_le _⟩) hP hD hS hA [2] rfl rfl (fun _ => rfl) (fun H locs hP hD hS => ?_)
  have hP : va_P g.1 vwCl (w_X5 g h0 h1 h2 h3 h4 ((rput x.1 48 p1 p2), (rput x.2.1 48 p1 p3), x.2.2.1, x.2.2.2)) H := hP
  have hD : va_D A (w_X5 g h0 h1 h2 h3 h4 ((rput x.1 48 p1 p2), (rput x.2.1 48 p1 p3), x.2.2.1, x.2.2.2)) := hD
  exact W.vret hx hb hr (fun t ht hW => ⟨⟨_, rfl, hm, atH ht hP⟩, hS.F ht⟩) hS.2.2 dX5_give_18
def fX5_ownerOf (x : LD) (p1 : Int32) : Int32 := (rat x.1 48 p1)
abbrev rm_X5_ownerOf : Jvm.Room := { frames := 1, cells := 0, slots := 0, locals := 21 }
theorem hd_X5_ownerOf : yX5_ownerOf.cls = RX5 ∧ yX5_ownerOf.cls ≠ "java/lang/invoke/MethodHandle" ∧ yX5_ownerOf.cls ≠ "java/lang/invoke/VarHandle" ∧ (parseMethodDescriptor yX5_ownerOf.desc).map (fun d => d.parameters.length) = some 1 := by decide +kernel
set_option maxHeartbeats 4000000 in
set_option maxRecDepth 100000 in
theorem kX5_ownerOf (l : Launch) (g : CX) (h0 h1 h2 h3 h4 : Nat) (x : LD) (p1 : Int32) (res : Int32) (hm0 : fX5_ownerOf x p1 = res) : Met l yX5_ownerOf (wg yX5_ownerOf cX5_ownerOf 2 (some .int)) rm_X5_ownerOf (PR g [.ref h0, .int p1] (w_X5 g h0 h1 h2 h3 h4 x)) (vp_Si (fun v => v = res)) 0 0 (fun _ => False) := by
  refine Met.ofW (cc := cX5_ownerOf) (maxL := 2) (ret := (some .int)) (by decide) rfl ?_
  intro p e s m args below meth c s₁ B hml hv
  obtain ⟨rfl, hP, hK, hL⟩ := hv
  have hx := B.exec
  have hb := B.bytes
  have hr := B.returns
  have htG := wg_G (atoms_spec (ws := wg yX5_ownerOf cX5_ownerOf 2 (some .int)) B.pre)
  have hown : s.vm.findClass RX5 = some m.cls := findClass_of_methodNamed B.named
  have hlocks := B.notSynchronized
  have hS : va_S (fun _ => False) s.heap s.heap [] := va_S.rf
  have hl := lv_entry ([.ref h0, .int p1]) (n := 2) (Nat.le_of_ble_eq_true rfl)
  rw [lg_entry_eq]
  generalize (lg_sl ([.ref h0, .int p1]) ++ List.replicate (2 - (lg_sl ([.ref h0, .int p1])).length) Slot.unset).toArray = ls at hl ⊢
  have hl : lv_has ls 2 [(0, .ref h0), (1, .int p1)] := hl
  have hm := hm0
  unfold fX5_ownerOf at hm
  refine lv_aload_n hx hb dX5_ownerOf_0 rfl (lv_at hl 0 rfl) ?_
  refine va_get (D := g.1) (ci := 4) (v := .ref h1) (C := RX5) (T := TX5) (N := 4) hx hb htG in_wsX50 hown hK.1 hP 0 rfl rfl 0 (by decide) (htG _ g1_49) (fun _ h9 => h9) rfl dX5_ownerOf_1 ?_
  refine lv_iload_n hx hb dX5_ownerOf_4 rfl (lv_at hl 1 rfl) ?_
  refine ko_e (va_runS (As := [.ref h1, .int p1]) (rest := []) ⟨hx, hb, hml, hown, htG⟩ (kX4_at l g h1 x.1 48 p1 (by decide)) (va_cwS 2 htG (GS g2_133 g2_61 g1_5 g2_62) rfl rfl rfl hs_X4_at ⟨Nat.le_of_ble_eq_true rfl, Nat.le_of_ble_eq_true rfl⟩) (PT_S hK (va_T_of hK hP 1 rfl)) rfl rfl hl.1 rfl (lv_room (Nat.le_of_ble_eq_true rfl)) dX5_ownerOf_5 ⟨Nat.zero_le _, Nat.zero_le _⟩) ?_
  exact W.iret (v := (rat x.1 48 p1)) hx hb hr (fun t ht hW => ⟨_, rfl, hm, ht⟩) (fun _ h => nomatch h) dX5_ownerOf_8
def fX5_isAwarded (x : LD) (p1 : Int32) : Int32 := (if (rat x.1 48 p1) = (-5) then 0 else 1)
abbrev rm_X5_isAwarded : Jvm.Room := { frames := 1, cells := 0, slots := 0, locals := 21 }
theorem hd_X5_isAwarded : yX5_isAwarded.cls = RX5 ∧ yX5_isAwarded.cls ≠ "java/lang/invoke/MethodHandle" ∧ yX5_isAwarded.cls ≠ "java/lang/invoke/VarHandle" ∧ (parseMethodDescriptor yX5_isAwarded.desc).map (fun d => d.parameters.length) = some 1 := by decide +kernel
set_option maxHeartbeats 4000000 in
set_option maxRecDepth 100000 in
theorem kX5_isAwarded (l : Launch) (g : CX) (h0 h1 h2 h3 h4 : Nat) (x : LD) (p1 : Int32) (res : Int32) (hm0 : fX5_isAwarded x p1 = res) : Met l yX5_isAwarded (wg yX5_isAwarded cX5_isAwarded 2 (some .boolean)) rm_X5_isAwarded (PR g [.ref h0, .int p1] (w_X5 g h0 h1 h2 h3 h4 x)) (vp_Si (fun v => v = res)) 0 0 (fun _ => False) := by
  refine Met.ofW (cc := cX5_isAwarded) (maxL := 2) (ret := (some .boolean)) (by decide) rfl ?_
  intro p e s m args below meth c s₁ B hml hv
  obtain ⟨rfl, hP, hK, hL⟩ := hv
  have hx := B.exec
  have hb := B.bytes
  have hr := B.returns
  have htG := wg_G (atoms_spec (ws := wg yX5_isAwarded cX5_isAwarded 2 (some .boolean)) B.pre)
  have hown : s.vm.findClass RX5 = some m.cls := findClass_of_methodNamed B.named
  have hlocks := B.notSynchronized
  have hS : va_S (fun _ => False) s.heap s.heap [] := va_S.rf
  have hl := lv_entry ([.ref h0, .int p1]) (n := 2) (Nat.le_of_ble_eq_true rfl)
  rw [lg_entry_eq]
  generalize (lg_sl ([.ref h0, .int p1]) ++ List.replicate (2 - (lg_sl ([.ref h0, .int p1])).length) Slot.unset).toArray = ls at hl ⊢
  have hl : lv_has ls 2 [(0, .ref h0), (1, .int p1)] := hl
  have hm := hm0
  unfold fX5_isAwarded at hm
  refine lv_aload_n hx hb dX5_isAwarded_0 rfl (lv_at hl 0 rfl) ?_
  refine va_get (D := g.1) (ci := 4) (v := .ref h1) (C := RX5) (T := TX5) (N := 4) hx hb htG in_wsX50 hown hK.1 hP 0 rfl rfl 0 (by decide) (htG _ g1_49) (fun _ h9 => h9) rfl dX5_isAwarded_1 ?_
  refine lv_iload_n hx hb dX5_isAwarded_4 rfl (lv_at hl 1 rfl) ?_
  refine ko_e (va_runS (As := [.ref h1, .int p1]) (rest := []) ⟨hx, hb, hml, hown, htG⟩ (kX4_at l g h1 x.1 48 p1 (by decide)) (va_cwS 2 htG (GS g2_133 g2_61 g1_5 g2_62) rfl rfl rfl hs_X4_at ⟨Nat.le_of_ble_eq_true rfl, Nat.le_of_ble_eq_true rfl⟩) (PT_S hK (va_T_of hK hP 1 rfl)) rfl rfl hl.1 rfl (lv_room (Nat.le_of_ble_eq_true rfl)) dX5_isAwarded_5 ⟨Nat.zero_le _, Nat.zero_le _⟩) ?_
  refine lv_bipush (v := (-5)) hx hb dX5_isAwarded_8 (by decide +kernel) ?_
  refine lv_icmp_eq (tgt := 17) hx hb dX5_isAwarded_10 (by decide) (fun zc1 => ?_) (fun zc1 => ?_)
  · replace hm := (if_pos zc1).symm.trans hm
    refine lv_iconst (v := 0) hx hb dX5_isAwarded_17 (by decide) ?_
    exact W.zret (v := 0) (ty := .boolean) hx hb hr rfl (fun t ht hW => ⟨_, rfl, hm, ht⟩) (fun _ h => nomatch h) dX5_isAwarded_18
  · replace hm := (if_neg zc1).symm.trans hm
    refine lv_iconst (v := 1) hx hb dX5_isAwarded_13 (by decide) ?_
    refine lv_goto (tgt := 18) hx hb dX5_isAwarded_14 (by decide) ?_
    exact W.zret (v := 1) (ty := .boolean) hx hb hr rfl (fun t ht hW => ⟨_, rfl, hm, ht⟩) (fun _ h => nomatch h) dX5_isAwarded_18
def fX1_copy (x : FD) (y : FD) : FD := (y.1, y.2.1, y.2.2.1, y.2.2.2)
abbrev rm_X1_copy : Jvm.Room := { frames := 2, cells := 0, slots := 0, locals := 61 }
theorem hd_X1_copy : yX1_copy.cls = RX1 ∧ yX1_copy.cls ≠ "java/lang/invoke/MethodHandle" ∧ yX1_copy.cls ≠ "java/lang/invoke/VarHandle" ∧ (parseMethodDescriptor yX1_copy.desc).map (fun d => d.parameters.length) = some 1 := by decide +kernel
set_option maxHeartbeats 4000000 in
set_option maxRecDepth 100000 in
theorem kX1_copy (l : Launch) (g : CX) (h0 h1 h2 h3 h4 : Nat) (k0 k1 k2 k3 k4 : Nat) (sz : Nat) (x : FD) (y : FD) (res : FD) (hm0 : fX1_copy x y = res) : Met l yX1_copy (wg yX1_copy cX1_copy 2 none) rm_X1_copy (PW g [.ref h0, .ref k0] sz ((w_X1 g h0 h1 h2 h3 h4 x) ++ (w_X1 g k0 k1 k2 k3 k4 y))) (va_Qv (fun u => u = res) (fun u t => va_P g.1 vwCl ((w_X1 g h0 h1 h2 h3 h4 u) ++ (w_X1 g k0 k1 k2 k3 k4 y)) t.heap) (va_A ((w_X1 g h0 h1 h2 h3 h4 x) ++ (w_X1 g k0 k1 k2 k3 k4 y)) sz)) 0 0 (va_A ((w_X1 g h0 h1 h2 h3 h4 x) ++ (w_X1 g k0 k1 k2 k3 k4 y)) sz) := by
  refine Met.ofW (cc := cX1_copy) (maxL := 2) (ret := none) (by decide) rfl ?_
  intro p e s m args below meth c s₁ B hml hv
  obtain ⟨rfl, hsz, hP, hK, hD0, hL⟩ := hv
  have hx := B.exec
  have hb := B.bytes
  have hr := B.returns
  have htG := wg_G (atoms_spec (ws := wg yX1_copy cX1_copy 2 none) B.pre)
  have hown : s.vm.findClass RX1 = some m.cls := findClass_of_methodNamed B.named
  have hlocks := B.notSynchronized
  subst hsz
  have hD := hD0.self (sz := s.heap.size)
  generalize hAe : va_A ((w_X1 g h0 h1 h2 h3 h4 x) ++ (w_X1 g k0 k1 k2 k3 k4 y)) s.heap.size = A at hD hL ⊢
  have hA : ∀ q : Nat, s.heap.size ≤ q → A q := fun q h => by rw [← hAe]; exact Or.inr h
  have hS : va_S A s.heap s.heap [] := va_S.rf
  have hl := lv_entry ([.ref h0, .ref k0]) (n := 2) (Nat.le_of_ble_eq_true rfl)
  rw [lg_entry_eq]
  generalize (lg_sl ([.ref h0, .ref k0]) ++ List.replicate (2 - (lg_sl ([.ref h0, .ref k0])).length) Slot.unset).toArray = ls at hl ⊢
  have hl : lv_has ls 2 [(0, .ref h0), (1, .ref k0)] := hl
  have hm := hm0
  unfold fX1_copy at hm
  refine lv_aload_n hx hb dX1_copy_0 rfl (lv_at hl 1 rfl) ?_
  refine va_get (D := g.1) (ci := 1) (v := .ref k1) (C := RX1) (T := TX1) (N := 4) hx hb htG in_wsX10 hown hK.1 hP 5 rfl rfl 0 (by decide) (htG _ g1_75) (fun _ h9 => h9) rfl dX1_copy_1 ?_
  refine lv_aload_n hx hb dX1_copy_4 rfl (lv_at hl 0 rfl) ?_
  refine va_get (D := g.1) (ci := 1) (v := .ref h1) (C := RX1) (T := TX1) (N := 4) hx hb htG in_wsX10 hown hK.1 hP 0 rfl rfl 0 (by decide) (htG _ g1_75) (fun _ h9 => h9) rfl dX1_copy_5 ?_
  refine kw_ve (va_runS (As := [.ref k1, .ref h1]) (rest := []) ⟨hx, hb, hml, hown, htG⟩ (kX4_copy l g k1 h1 _ y.1 x.1 6 (by decide)) (va_cwS 2 htG (GS g2_40 g2_18 g1_5 g2_19) rfl rfl rfl hs_X4_copy ⟨Nat.le_of_ble_eq_true rfl, Nat.le_of_ble_eq_true rfl⟩) (PW_S hK hL hS hP hD hA [6, 1] rfl rfl) rfl rfl hl.1 rfl (lv_room (Nat.le_of_ble_eq_true rfl)) dX1_copy_8 ⟨Nat.zero_le _, Nat.zero_le _⟩) hP hD hS hA [6, 1] rfl rfl (fun _ => rfl) (fun H locs hP hD hS => ?_)
  have hP : va_P g.1 vwCl ((w_X1 g h0 h1 h2 h3 h4 (y.1, x.2.1, x.2.2.1, x.2.2.2)) ++ (w_X1 g k0 k1 k2 k3 k4 y)) H := hP
  have hD : va_D A ((w_X1 g h0 h1 h2 h3 h4 (y.1, x.2.1, x.2.2.1, x.2.2.2)) ++ (w_X1 g k0 k1 k2 k3 k4 y)) := hD
  refine lv_aload_n hx hb dX1_copy_11 rfl (lv_at hl 1 rfl) ?_
  refine va_get (D := g.1) (ci := 1) (v := .ref k2) (C := RX1) (T := TX1) (N := 4) hx hb htG in_wsX10 hown hK.1 hP 5 rfl rfl 1 (by decide) (htG _ g1_78) (fun _ h9 => h9) rfl dX1_copy_12 ?_
  refine lv_aload_n hx hb dX1_copy_15 rfl (lv_at hl 0 rfl) ?_
  refine va_get (D := g.1) (ci := 1) (v := .ref h2) (C := RX1) (T := TX1) (N := 4) hx hb htG in_wsX10 hown hK.1 hP 0 rfl rfl 1 (by decide) (htG _ g1_78) (fun _ h9 => h9) rfl dX1_copy_16 ?_
  refine kw_ve (va_runS (As := [.ref k2, .ref h2]) (rest := []) ⟨hx, hb, hml, hown, htG⟩ (kX4_copy l g k2 h2 _ y.2.1 x.2.1 6 (by decide)) (va_cwS 2 htG (GS g2_40 g2_18 g1_5 g2_19) rfl rfl rfl hs_X4_copy ⟨Nat.le_of_ble_eq_true rfl, Nat.le_of_ble_eq_true rfl⟩) (PW_S hK hL hS hP hD hA [7, 2] rfl rfl) rfl rfl hl.1 rfl (lv_room (Nat.le_of_ble_eq_true rfl)) dX1_copy_19 ⟨Nat.zero_le _, Nat.zero_le _⟩) hP hD hS hA [7, 2] rfl rfl (fun _ => rfl) (fun H locs hP hD hS => ?_)
  have hP : va_P g.1 vwCl ((w_X1 g h0 h1 h2 h3 h4 (y.1, y.2.1, x.2.2.1, x.2.2.2)) ++ (w_X1 g k0 k1 k2 k3 k4 y)) H := hP
  have hD : va_D A ((w_X1 g h0 h1 h2 h3 h4 (y.1, y.2.1, x.2.2.1, x.2.2.2)) ++ (w_X1 g k0 k1 k2 k3 k4 y)) := hD
  refine lv_aload_n hx hb dX1_copy_22 rfl (lv_at hl 1 rfl) ?_
  refine va_get (D := g.1) (ci := 1) (v := .ref k3) (C := RX1) (T := TX1) (N := 4) hx hb htG in_wsX10 hown hK.1 hP 5 rfl rfl 2 (by decide) (htG _ g1_81) (fun _ h9 => h9) rfl dX1_copy_23 ?_
  refine lv_aload_n hx hb dX1_copy_26 rfl (lv_at hl 0 rfl) ?_
  refine va_get (D := g.1) (ci := 1) (v := .ref h3) (C := RX1) (T := TX1) (N := 4) hx hb htG in_wsX10 hown hK.1 hP 0 rfl rfl 2 (by decide) (htG _ g1_81) (fun _ h9 => h9) rfl dX1_copy_27 ?_
  refine kw_ve (va_runS (As := [.ref k3, .ref h3]) (rest := []) ⟨hx, hb, hml, hown, htG⟩ (kX4_copy l g k3 h3 _ y.2.2.1 x.2.2.1 6 (by decide)) (va_cwS 2 htG (GS g2_40 g2_18 g1_5 g2_19) rfl rfl rfl hs_X4_copy ⟨Nat.le_of_ble_eq_true rfl, Nat.le_of_ble_eq_true rfl⟩) (PW_S hK hL hS hP hD hA [8, 3] rfl rfl) rfl rfl hl.1 rfl (lv_room (Nat.le_of_ble_eq_true rfl)) dX1_copy_30 ⟨Nat.zero_le _, Nat.zero_le _⟩) hP hD hS hA [8, 3] rfl rfl (fun _ => rfl) (fun H locs hP hD hS => ?_)
  have hP : va_P g.1 vwCl ((w_X1 g h0 h1 h2 h3 h4 (y.1, y.2.1, y.2.2.1, x.2.2.2)) ++ (w_X1 g k0 k1 k2 k3 k4 y)) H := hP
  have hD : va_D A ((w_X1 g h0 h1 h2 h3 h4 (y.1, y.2.1, y.2.2.1, x.2.2.2)) ++ (w_X1 g k0 k1 k2 k3 k4 y)) := hD
  refine lv_aload_n hx hb dX1_copy_33 rfl (lv_at hl 1 rfl) ?_
  refine va_get (D := g.1) (ci := 1) (v := .ref k4) (C := RX1) (T := TX1) (N := 4) hx hb htG in_wsX10 hown hK.1 hP 5 rfl rfl 3 (by decide) (htG _ g1_83) (fun _ h9 => h9) rfl dX1_copy_34 ?_
  refine lv_aload_n hx hb dX1_copy_37 rfl (lv_at hl 0 rfl) ?_
  refine va_get (D := g.1) (ci := 1) (v := .ref h4) (C := RX1) (T := TX1) (N := 4) hx hb htG in_wsX10 hown hK.1 hP 0 rfl rfl 3 (by decide) (htG _ g1_83) (fun _ h9 => h9) rfl dX1_copy_38 ?_
  refine kw_ve (va_runS (As := [.ref k4, .ref h4]) (rest := []) ⟨hx, hb, hml, hown, htG⟩ (kX4_copy l g k4 h4 _ y.2.2.2 x.2.2.2 6 (by decide)) (va_cwS 2 htG (GS g2_40 g2_18 g1_5 g2_19) rfl rfl rfl hs_X4_copy ⟨Nat.le_of_ble_eq_true rfl, Nat.le_of_ble_eq_true rfl⟩) (PW_S hK hL hS hP hD hA [9, 4] rfl rfl) rfl rfl hl.1 rfl (lv_room (Nat.le_of_ble_eq_true rfl)) dX1_copy_41 ⟨Nat.zero_le _, Nat.zero_le _⟩) hP hD hS hA [9, 4] rfl rfl (fun _ => rfl) (fun H locs hP hD hS => ?_)
  have hP : va_P g.1 vwCl ((w_X1 g h0 h1 h2 h3 h4 (y.1, y.2.1, y.2.2.1, y.2.2.2)) ++ (w_X1 g k0 k1 k2 k3 k4 y)) H := hP
  have hD : va_D A ((w_X1 g h0 h1 h2 h3 h4 (y.1, y.2.1, y.2.2.1, y.2.2.2)) ++ (w_X1 g k0 k1 k2 k3 k4 y)) := hD
  exact W.vret hx hb hr (fun t ht hW => ⟨⟨_, rfl, hm, atH ht hP⟩, hS.F ht⟩) hS.2.2 dX1_copy_44
def fX1_payYard (x : FD) (p1 : Int32) (p2 : Int32) : FD := ((radd x.1 6 p1 (-p2)), x.2.1, (radd x.2.2.1 6 p1 p2), x.2.2.2)
abbrev rm_X1_payYard : Jvm.Room := { frames := 1, cells := 0, slots := 0, locals := 22 }
theorem hd_X1_payYard : yX1_payYard.cls = RX1 ∧ yX1_payYard.cls ≠ "java/lang/invoke/MethodHandle" ∧ yX1_payYard.cls ≠ "java/lang/invoke/VarHandle" ∧ (parseMethodDescriptor yX1_payYard.desc).map (fun d => d.parameters.length) = some 2 := by decide +kernel
set_option maxHeartbeats 4000000 in
set_option maxRecDepth 100000 in
theorem kX1_payYard (l : Launch) (g : CX) (h0 h1 h2 h3 h4 : Nat) (sz : Nat) (x : FD) (p1 : Int32) (p2 : Int32) (res : FD) (hm0 : fX1_payYard x p1 p2 = res) : Met l yX1_payYard (wg yX1_payYard cX1_payYard 3 none) rm_X1_payYard (PW g [.ref h0, .int p1, .int p2] sz (w_X1 g h0 h1 h2 h3 h4 x)) (va_Qv (fun u => u = res) (fun u t => va_P g.1 vwCl (w_X1 g h0 h1 h2 h3 h4 u) t.heap) (va_A (w_X1 g h0 h1 h2 h3 h4 x) sz)) 0 0 (va_A (w_X1 g h0 h1 h2 h3 h4 x) sz) := by
  refine Met.ofW (cc := cX1_payYard) (maxL := 3) (ret := none) (by decide) rfl ?_
  intro p e s m args below meth c s₁ B hml hv
  obtain ⟨rfl, hsz, hP, hK, hD0, hL⟩ := hv
  have hx := B.exec
  have hb := B.bytes
  have hr := B.returns
  have htG := wg_G (atoms_spec (ws := wg yX1_payYard cX1_payYard 3 none) B.pre)
  have hown : s.vm.findClass RX1 = some m.cls := findClass_of_methodNamed B.named
  have hlocks := B.notSynchronized
  subst hsz
  have hD := hD0.self (sz := s.heap.size)
  generalize hAe : va_A (w_X1 g h0 h1 h2 h3 h4 x) s.heap.size = A at hD hL ⊢
  have hA : ∀ q : Nat, s.heap.size ≤ q → A q := fun q h => by rw [← hAe]; exact Or.inr h
  have hS : va_S A s.heap s.heap [] := va_S.rf
  have hl := lv_entry ([.ref h0, .int p1, .int p2]) (n := 3) (Nat.le_of_ble_eq_true rfl)
  rw [lg_entry_eq]
  generalize (lg_sl ([.ref h0, .int p1, .int p2]) ++ List.replicate (3 - (lg_sl ([.ref h0, .int p1, .int p2])).length) Slot.unset).toArray = ls at hl ⊢
  have hl : lv_has ls 3 [(0, .ref h0), (1, .int p1), (2, .int p2)] := hl
  have hm := hm0
  unfold fX1_payYard at hm
  refine lv_aload_n hx hb dX1_payYard_0 rfl (lv_at hl 0 rfl) ?_
  refine va_get (D := g.1) (ci := 1) (v := .ref h1) (C := RX1) (T := TX1) (N := 4) hx hb htG in_wsX10 hown hK.1 hP 0 rfl rfl 0 (by decide) (htG _ g1_75) (fun _ h9 => h9) rfl dX1_payYard_1 ?_
  refine lv_iload_n hx hb dX1_payYard_4 rfl (lv_at hl 1 rfl) ?_
  refine lv_iload_n hx hb dX1_payYard_5 rfl (lv_at hl 2 rfl) ?_
  refine lv_ineg hx hb dX1_payYard_6 ?_
  refine kw_ve (va_runS (As := [.ref h1, .int p1, .int (-p2)]) (rest := []) ⟨hx, hb, hml, hown, htG⟩ (kX4_add l g h1 _ x.1 6 p1 (-p2) _ (t_X4_add _ _ _ _ (by decide))) (va_cwS 3 htG (GS g2_224 g2_95 g1_5 g2_96) rfl rfl rfl hs_X4_add ⟨Nat.le_of_ble_eq_true rfl, Nat.le_of_ble_eq_true rfl⟩) (PW_S hK hL hS hP hD hA [1] rfl rfl) rfl rfl hl.1 rfl (lv_room (Nat.le_of_ble_eq_true rfl)) dX1_payYard_7 ⟨Nat.zero_le _, Nat.zero_le _⟩) hP hD hS hA [1] rfl rfl (fun _ => rfl) (fun H locs hP hD hS => ?_)
  have hP : va_P g.1 vwCl (w_X1 g h0 h1 h2 h3 h4 ((radd x.1 6 p1 (-p2)), x.2.1, x.2.2.1, x.2.2.2)) H := hP
  have hD : va_D A (w_X1 g h0 h1 h2 h3 h4 ((radd x.1 6 p1 (-p2)), x.2.1, x.2.2.1, x.2.2.2)) := hD
  refine lv_aload_n hx hb dX1_payYard_10 rfl (lv_at hl 0 rfl) ?_
  refine va_get (D := g.1) (ci := 1) (v := .ref h3) (C := RX1) (T := TX1) (N := 4) hx hb htG in_wsX10 hown hK.1 hP 0 rfl rfl 2 (by decide) (htG _ g1_81) (fun _ h9 => h9) rfl dX1_payYard_11 ?_
  refine lv_iload_n hx hb dX1_payYard_14 rfl (lv_at hl 1 rfl) ?_
  refine lv_iload_n hx hb dX1_payYard_15 rfl (lv_at hl 2 rfl) ?_
  refine kw_ve (va_runS (As := [.ref h3, .int p1, .int p2]) (rest := []) ⟨hx, hb, hml, hown, htG⟩ (kX4_add l g h3 _ x.2.2.1 6 p1 p2 _ (t_X4_add _ _ _ _ (by decide))) (va_cwS 3 htG (GS g2_224 g2_95 g1_5 g2_96) rfl rfl rfl hs_X4_add ⟨Nat.le_of_ble_eq_true rfl, Nat.le_of_ble_eq_true rfl⟩) (PW_S hK hL hS hP hD hA [3] rfl rfl) rfl rfl hl.1 rfl (lv_room (Nat.le_of_ble_eq_true rfl)) dX1_payYard_16 ⟨Nat.zero_le _, Nat.zero_le _⟩) hP hD hS hA [3] rfl rfl (fun _ => rfl) (fun H locs hP hD hS => ?_)
  have hP : va_P g.1 vwCl (w_X1 g h0 h1 h2 h3 h4 ((radd x.1 6 p1 (-p2)), x.2.1, (radd x.2.2.1 6 p1 p2), x.2.2.2)) H := hP
  have hD : va_D A (w_X1 g h0 h1 h2 h3 h4 ((radd x.1 6 p1 (-p2)), x.2.1, (radd x.2.2.1 6 p1 p2), x.2.2.2)) := hD
  exact W.vret hx hb hr (fun t ht hW => ⟨⟨_, rfl, hm, atH ht hP⟩, hS.F ht⟩) hS.2.2 dX1_payYard_19
def fX1_getByTrade (x : FD) (p1 : Int32) (p2 : Int32) : FD := ((radd x.1 6 p1 p2), x.2.1, x.2.2.1, (radd x.2.2.2 6 p1 p2))
abbrev rm_X1_getByTrade : Jvm.Room := { frames := 1, cells := 0, slots := 0, locals := 22 }
theorem hd_X1_getByTrade : yX1_getByTrade.cls = RX1 ∧ yX1_getByTrade.cls ≠ "java/lang/invoke/MethodHandle" ∧ yX1_getByTrade.cls ≠ "java/lang/invoke/VarHandle" ∧ (parseMethodDescriptor yX1_getByTrade.desc).map (fun d => d.parameters.length) = some 2 := by decide +kernel
set_option maxHeartbeats 4000000 in
set_option maxRecDepth 100000 in
theorem kX1_getByTrade (l : Launch) (g : CX) (h0 h1 h2 h3 h4 : Nat) (sz : Nat) (x : FD) (p1 : Int32) (p2 : Int32) (res : FD) (hm0 : fX1_getByTrade x p1 p2 = res) : Met l yX1_getByTrade (wg yX1_getByTrade cX1_getByTrade 3 none) rm_X1_getByTrade (PW g [.ref h0, .int p1, .int p2] sz (w_X1 g h0 h1 h2 h3 h4 x)) (va_Qv (fun u => u = res) (fun u t => va_P g.1 vwCl (w_X1 g h0 h1 h2 h3 h4 u) t.heap) (va_A (w_X1 g h0 h1 h2 h3 h4 x) sz)) 0 0 (va_A (w_X1 g h0 h1 h2 h3 h4 x) sz) := by
  refine Met.ofW (cc := cX1_getByTrade) (maxL := 3) (ret := none) (by decide) rfl ?_
  intro p e s m args below meth c s₁ B hml hv
  obtain ⟨rfl, hsz, hP, hK, hD0, hL⟩ := hv
  have hx := B.exec
  have hb := B.bytes
  have hr := B.returns
  have htG := wg_G (atoms_spec (ws := wg yX1_getByTrade cX1_getByTrade 3 none) B.pre)
  have hown : s.vm.findClass RX1 = some m.cls := findClass_of_methodNamed B.named
  have hlocks := B.notSynchronized
  subst hsz
  have hD := hD0.self (sz := s.heap.size)
  generalize hAe : va_A (w_X1 g h0 h1 h2 h3 h4 x) s.heap.size = A at hD hL ⊢
  have hA : ∀ q : Nat, s.heap.size ≤ q → A q := fun q h => by rw [← hAe]; exact Or.inr h
  have hS : va_S A s.heap s.heap [] := va_S.rf
  have hl := lv_entry ([.ref h0, .int p1, .int p2]) (n := 3) (Nat.le_of_ble_eq_true rfl)
  rw [lg_entry_eq]
  generalize (lg_sl ([.ref h0, .int p1, .int p2]) ++ List.replicate (3 - (lg_sl ([.ref h0, .int p1, .int p2])).length) Slot.unset).toArray = ls at hl ⊢
  have hl : lv_has ls 3 [(0, .ref h0), (1, .int p1), (2, .int p2)] := hl
  have hm := hm0
  unfold fX1_getByTrade at hm
  refine lv_aload_n hx hb dX1_getByTrade_0 rfl (lv_at hl 0 rfl) ?_
  refine va_get (D := g.1) (ci := 1) (v := .ref h1) (C := RX1) (T := TX1) (N := 4) hx hb htG in_wsX10 hown hK.1 hP 0 rfl rfl 0 (by decide) (htG _ g1_75) (fun _ h9 => h9) rfl dX1_getByTrade_1 ?_
  refine lv_iload_n hx hb dX1_getByTrade_4 rfl (lv_at hl 1 rfl) ?_
  refine lv_iload_n hx hb dX1_getByTrade_5 rfl (lv_at hl 2 rfl) ?_
  refine kw_ve (va_runS (As := [.ref h1, .int p1, .int p2]) (rest := []) ⟨hx, hb, hml, hown, htG⟩ (kX4_add l g h1 _ x.1 6 p1 p2 _ (t_X4_add _ _ _ _ (by decide))) (va_cwS 3 htG (GS g2_224 g2_95 g1_5 g2_96) rfl rfl rfl hs_X4_add ⟨Nat.le_of_ble_eq_true rfl, Nat.le_of_ble_eq_true rfl⟩) (PW_S hK hL hS hP hD hA [1] rfl rfl) rfl rfl hl.1 rfl (lv_room (Nat.le_of_ble_eq_true rfl)) dX1_getByTrade_6 ⟨Nat.zero_le _, Nat.zero_le _⟩) hP hD hS hA [1] rfl rfl (fun _ => rfl) (fun H locs hP hD hS => ?_)
  have hP : va_P g.1 vwCl (w_X1 g h0 h1 h2 h3 h4 ((radd x.1 6 p1 p2), x.2.1, x.2.2.1, x.2.2.2)) H := hP
  have hD : va_D A (w_X1 g h0 h1 h2 h3 h4 ((radd x.1 6 p1 p2), x.2.1, x.2.2.1, x.2.2.2)) := hD
  refine lv_aload_n hx hb dX1_getByTrade_9 rfl (lv_at hl 0 rfl) ?_
  refine va_get (D := g.1) (ci := 1) (v := .ref h4) (C := RX1) (T := TX1) (N := 4) hx hb htG in_wsX10 hown hK.1 hP 0 rfl rfl 3 (by decide) (htG _ g1_83) (fun _ h9 => h9) rfl dX1_getByTrade_10 ?_
  refine lv_iload_n hx hb dX1_getByTrade_13 rfl (lv_at hl 1 rfl) ?_
  refine lv_iload_n hx hb dX1_getByTrade_14 rfl (lv_at hl 2 rfl) ?_
  refine kw_ve (va_runS (As := [.ref h4, .int p1, .int p2]) (rest := []) ⟨hx, hb, hml, hown, htG⟩ (kX4_add l g h4 _ x.2.2.2 6 p1 p2 _ (t_X4_add _ _ _ _ (by decide))) (va_cwS 3 htG (GS g2_224 g2_95 g1_5 g2_96) rfl rfl rfl hs_X4_add ⟨Nat.le_of_ble_eq_true rfl, Nat.le_of_ble_eq_true rfl⟩) (PW_S hK hL hS hP hD hA [4] rfl rfl) rfl rfl hl.1 rfl (lv_room (Nat.le_of_ble_eq_true rfl)) dX1_getByTrade_15 ⟨Nat.zero_le _, Nat.zero_le _⟩) hP hD hS hA [4] rfl rfl (fun _ => rfl) (fun H locs hP hD hS => ?_)
  have hP : va_P g.1 vwCl (w_X1 g h0 h1 h2 h3 h4 ((radd x.1 6 p1 p2), x.2.1, x.2.2.1, (radd x.2.2.2 6 p1 p2))) H := hP
  have hD : va_D A (w_X1 g h0 h1 h2 h3 h4 ((radd x.1 6 p1 p2), x.2.1, x.2.2.1, (radd x.2.2.2 6 p1 p2))) := hD
  exact W.vret hx hb hr (fun t ht hW => ⟨⟨_, rfl, hm, atH ht hP⟩, hS.F ht⟩) hS.2.2 dX1_getByTrade_18
def fX7_copy (x : TD) (y : TD) : TD := (y.1, y.2.1, y.2.2.1, y.2.2.2.1, y.2.2.2.2.1, y.2.2.2.2.2.1, y.2.2.2.2.2.2)
abbrev rm_X7_copy : Jvm.Room := { frames := 2, cells := 0, slots := 0, locals := 61 }
theorem hd_X7_copy : yX7_copy.cls = RX7 ∧ yX7_copy.cls ≠ "java/lang/invoke/MethodHandle" ∧ yX7_copy.cls ≠ "java/lang/invoke/VarHandle" ∧ (parseMethodDescriptor yX7_copy.desc).map (fun d => d.parameters.length) = some 1 := by decide +kernel
set_option maxHeartbeats 4000000 in
set_option maxRecDepth 100000 in
theorem kX7_copy (l : Launch) (g : CX) (h0 h1 : Nat) (k0 k1 : Nat) (sz : Nat) (x : TD) (y : TD) (res : TD) (hm0 : fX7_copy x y = res) : Met l yX7_copy (wg yX7_copy cX7_copy 2 none) rm_X7_copy (PW g [.ref h0, .ref k0] sz ((w_X7 g h0 h1 x) ++ (w_X7 g k0 k1 y))) (va_Qv (fun u => u = res) (fun u t => va_P g.1 vwCl ((w_X7 g h0 h1 u) ++ (w_X7 g k0 k1 y)) t.heap) (va_A ((w_X7 g h0 h1 x) ++ (w_X7 g k0 k1 y)) sz)) 0 0 (va_A ((w_X7 g h0 h1 x) ++ (w_X7 g k0 k1 y)) sz) := by
  refine Met.ofW (cc := cX7_copy) (maxL := 2) (ret := none) (by decide) rfl ?_
  intro p e s m args below meth c s₁ B hml hv
  obtain ⟨rfl, hsz, hP, hK, hD0, hL⟩ := hv
  have hx := B.exec
  have hb := B.bytes
  have hr := B.returns
  have htG := wg_G (atoms_spec (ws := wg yX7_copy cX7_copy 2 none) B.pre)
  have hown : s.vm.findClass RX7 = some m.cls := findClass_of_methodNamed B.named
  have hlocks := B.notSynchronized
  subst hsz
  have hD := hD0.self (sz := s.heap.size)
  generalize hAe : va_A ((w_X7 g h0 h1 x) ++ (w_X7 g k0 k1 y)) s.heap.size = A at hD hL ⊢
  have hA : ∀ q : Nat, s.heap.size ≤ q → A q := fun q h => by rw [← hAe]; exact Or.inr h
  have hS : va_S A s.heap s.heap [] := va_S.rf
  have hl := lv_entry ([.ref h0, .ref k0]) (n := 2) (Nat.le_of_ble_eq_true rfl)
  rw [lg_entry_eq]
  generalize (lg_sl ([.ref h0, .ref k0]) ++ List.replicate (2 - (lg_sl ([.ref h0, .ref k0])).length) Slot.unset).toArray = ls at hl ⊢
  have hl : lv_has ls 2 [(0, .ref h0), (1, .ref k0)] := hl
  have hm := hm0
  unfold fX7_copy at hm
  refine lv_aload_n hx hb dX7_copy_0 rfl (lv_at hl 1 rfl) ?_
  refine va_get (D := g.1) (ci := 6) (v := .ref k1) (C := RX7) (T := TX7) (N := 7) hx hb htG in_wsX70 hown hK.1 hP 2 rfl rfl 0 (by decide) (htG _ g1_100) (fun _ h9 => h9) rfl dX7_copy_1 ?_
  refine lv_aload_n hx hb dX7_copy_4 rfl (lv_at hl 0 rfl) ?_
  refine va_get (D := g.1) (ci := 6) (v := .ref h1) (C := RX7) (T := TX7) (N := 7) hx hb htG in_wsX70 hown hK.1 hP 0 rfl rfl 0 (by decide) (htG _ g1_100) (fun _ h9 => h9) rfl dX7_copy_5 ?_
  refine kw_ve (va_runS (As := [.ref k1, .ref h1]) (rest := []) ⟨hx, hb, hml, hown, htG⟩ (kX4_copy l g k1 h1 _ y.1 x.1 4 (by decide)) (va_cwS 2 htG (GS g2_45 g2_18 g1_5 g2_19) rfl rfl rfl hs_X4_copy ⟨Nat.le_of_ble_eq_true rfl, Nat.le_of_ble_eq_true rfl⟩) (PW_S hK hL hS hP hD hA [3, 1] rfl rfl) rfl rfl hl.1 rfl (lv_room (Nat.le_of_ble_eq_true rfl)) dX7_copy_8 ⟨Nat.zero_le _, Nat.zero_le _⟩) hP hD hS hA [3, 1] rfl rfl (fun _ => rfl) (fun H locs hP hD hS => ?_)
  have hP : va_P g.1 vwCl ((w_X7 g h0 h1 (y.1, x.2.1, x.2.2.1, x.2.2.2.1, x.2.2.2.2.1, x.2.2.2.2.2.1, x.2.2.2.2.2.2)) ++ (w_X7 g k0 k1 y)) H := hP
  have hD : va_D A ((w_X7 g h0 h1 (y.1, x.2.1, x.2.2.1, x.2.2.2.1, x.2.2.2.2.1, x.2.2.2.2.2.1, x.2.2.2.2.2.2)) ++ (w_X7 g k0 k1 y)) := hD
  refine lv_aload_n hx hb dX7_copy_11 rfl (lv_at hl 0 rfl) ?_
  refine lv_aload_n hx hb dX7_copy_12 rfl (lv_at hl 1 rfl) ?_
  refine va_get (D := g.1) (ci := 6) (v := .int y.2.1) (C := RX7) (T := TX7) (N := 7) hx hb htG in_wsX70 hown hK.1 hP 2 rfl rfl 1 (by decide) (htG _ g1_102) (fun _ h9 => h9) rfl dX7_copy_13 ?_
  refine va_put (D := g.1) (ci := 6) (v := .int y.2.1) (ty := .int) (C := RX7) (T := TX7) (N := 7) hx hb htG in_wsX70 tyX7 tyX7_ok nmX7 hown hK.1 hP hD hS 0 rfl rfl 1 (by decide) (htG _ g1_102) (fun _ h9 => h9) rfl (by decide +kernel) rfl rfl (Nat.le_of_ble_eq_true rfl) dX7_copy_16 (fun H locs hP hD hS => ?_)
  have hP : va_P g.1 vwCl ((w_X7 g h0 h1 (y.1, y.2.1, x.2.2.1, x.2.2.2.1, x.2.2.2.2.1, x.2.2.2.2.2.1, x.2.2.2.2.2.2)) ++ (w_X7 g k0 k1 y)) H := hP
  have hD : va_D A ((w_X7 g h0 h1 (y.1, y.2.1, x.2.2.1, x.2.2.2.1, x.2.2.2.2.1, x.2.2.2.2.2.1, x.2.2.2.2.2.2)) ++ (w_X7 g k0 k1 y)) := hD
  refine lv_aload_n hx hb dX7_copy_19 rfl (lv_at hl 0 rfl) ?_
  refine lv_aload_n hx hb dX7_copy_20 rfl (lv_at hl 1 rfl) ?_
  refine va_get (D := g.1) (ci := 6) (v := .int y.2.2.1) (C := RX7) (T := TX7) (N := 7) hx hb htG in_wsX70 hown hK.1 hP 2 rfl rfl 2 (by decide) (htG _ g1_104) (fun _ h9 => h9) rfl dX7_copy_21 ?_
  refine va_put (D := g.1) (ci := 6) (v := .int y.2.2.1) (ty := .int) (C := RX7) (T := TX7) (N := 7) hx hb htG in_wsX70 tyX7 tyX7_ok nmX7 hown hK.1 hP hD hS 0 rfl rfl 2 (by decide) (htG _ g1_104) (fun _ h9 => h9) rfl (by decide +kernel) rfl rfl (Nat.le_of_ble_eq_true rfl) dX7_copy_24 (fun H locs hP hD hS => ?_)
  have hP : va_P g.1 vwCl ((w_X7 g h0 h1 (y.1, y.2.1, y.2.2.1, x.2.2.2.1, x.2.2.2.2.1, x.2.2.2.2.2.1, x.2.2.2.2.2.2)) ++ (w_X7 g k0 k1 y)) H := hP
  have hD : va_D A ((w_X7 g h0 h1 (y.1, y.2.1, y.2.2.1, x.2.2.2.1, x.2.2.2.2.1, x.2.2.2.2.2.1, x.2.2.2.2.2.2)) ++ (w_X7 g k0 k1 y)) := hD
  refine lv_aload_n hx hb dX7_copy_27 rfl (lv_at hl 0 rfl) ?_
  refine lv_aload_n hx hb dX7_copy_28 rfl (lv_at hl 1 rfl) ?_
  refine va_get (D := g.1) (ci := 6) (v := .int y.2.2.2.1) (C := RX7) (T := TX7) (N := 7) hx hb htG in_wsX70 hown hK.1 hP 2 rfl rfl 3 (by decide) (htG _ g1_106) (fun _ h9 => h9) rfl dX7_copy_29 ?_
  refine va_put (D := g.1) (ci := 6) (v := .int y.2.2.2.1) (ty := .int) (C := RX7) (T := TX7) (N := 7) hx hb htG in_wsX70 tyX7 tyX7_ok nmX7 hown hK.1 hP hD hS 0 rfl rfl 3 (by decide) (htG _ g1_106) (fun _ h9 => h9) rfl (by decide +kernel) rfl rfl (Nat.le_of_ble_eq_true rfl) dX7_copy_32 (fun H locs hP hD hS => ?_)
  have hP : va_P g.1 vwCl ((w_X7 g h0 h1 (y.1, y.2.1, y.2.2.1, y.2.2.2.1, x.2.2.2.2.1, x.2.2.2.2.2.1, x.2.2.2.2.2.2)) ++ (w_X7 g k0 k1 y)) H := hP
  have hD : va_D A ((w_X7 g h0 h1 (y.1, y.2.1, y.2.2.1, y.2.2.2.1, x.2.2.2.2.1, x.2.2.2.2.2.1, x.2.2.2.2.2.2)) ++ (w_X7 g k0 k1 y)) := hD
  refine lv_aload_n hx hb dX7_copy_35 rfl (lv_at hl 0 rfl) ?_
  refine lv_aload_n hx hb dX7_copy_36 rfl (lv_at hl 1 rfl) ?_
  refine va_get (D := g.1) (ci := 6) (v := .int y.2.2.2.2.1) (C := RX7) (T := TX7) (N := 7) hx hb htG in_wsX70 hown hK.1 hP 2 rfl rfl 4 (by decide) (htG _ g1_108) (fun _ h9 => h9) rfl dX7_copy_37 ?_
  refine va_put (D := g.1) (ci := 6) (v := .int y.2.2.2.2.1) (ty := .int) (C := RX7) (T := TX7) (N := 7) hx hb htG in_wsX70 tyX7 tyX7_ok nmX7 hown hK.1 hP hD hS 0 rfl rfl 4 (by decide) (htG _ g1_108) (fun _ h9 => h9) rfl (by decide +kernel) rfl rfl (Nat.le_of_ble_eq_true rfl) dX7_copy_40 (fun H locs hP hD hS => ?_)
  have hP : va_P g.1 vwCl ((w_X7 g h0 h1 (y.1, y.2.1, y.2.2.1, y.2.2.2.1, y.2.2.2.2.1, x.2.2.2.2.2.1, x.2.2.2.2.2.2)) ++ (w_X7 g k0 k1 y)) H := hP
  have hD : va_D A ((w_X7 g h0 h1 (y.1, y.2.1, y.2.2.1, y.2.2.2.1, y.2.2.2.2.1, x.2.2.2.2.2.1, x.2.2.2.2.2.2)) ++ (w_X7 g k0 k1 y)) := hD
  refine lv_aload_n hx hb dX7_copy_43 rfl (lv_at hl 0 rfl) ?_
  refine lv_aload_n hx hb dX7_copy_44 rfl (lv_at hl 1 rfl) ?_
  refine va_get (D := g.1) (ci := 6) (v := .int y.2.2.2.2.2.1) (C := RX7) (T := TX7) (N := 7) hx hb htG in_wsX70 hown hK.1 hP 2 rfl rfl 5 (by decide) (htG _ g1_110) (fun _ h9 => h9) rfl dX7_copy_45 ?_
  refine va_put (D := g.1) (ci := 6) (v := .int y.2.2.2.2.2.1) (ty := .int) (C := RX7) (T := TX7) (N := 7) hx hb htG in_wsX70 tyX7 tyX7_ok nmX7 hown hK.1 hP hD hS 0 rfl rfl 5 (by decide) (htG _ g1_110) (fun _ h9 => h9) rfl (by decide +kernel) rfl rfl (Nat.le_of_ble_eq_true rfl) dX7_copy_48 (fun H locs hP hD hS => ?_)
  have hP : va_P g.1 vwCl ((w_X7 g h0 h1 (y.1, y.2.1, y.2.2.1, y.2.2.2.1, y.2.2.2.2.1, y.2.2.2.2.2.1, x.2.2.2.2.2.2)) ++ (w_X7 g k0 k1 y)) H := hP
  have hD : va_D A ((w_X7 g h0 h1 (y.1, y.2.1, y.2.2.1, y.2.2.2.1, y.2.2.2.2.1, y.2.2.2.2.2.1, x.2.2.2.2.2.2)) ++ (w_X7 g k0 k1 y)) := hD
  refine lv_aload_n hx hb dX7_copy_51 rfl (lv_at hl 0 rfl) ?_
  refine lv_aload_n hx hb dX7_copy_52 rfl (lv_at hl 1 rfl) ?_
  refine va_get (D := g.1) (ci := 6) (v := .int y.2.2.2.2.2.2) (C := RX7) (T := TX7) (N := 7) hx hb htG in_wsX70 hown hK.1 hP 2 rfl rfl 6 (by decide) (htG _ g1_112) (fun _ h9 => h9) rfl dX7_copy_53 ?_
  refine va_put (D := g.1) (ci := 6) (v := .int y.2.2.2.2.2.2) (ty := .int) (C := RX7) (T := TX7) (N := 7) hx hb htG in_wsX70 tyX7 tyX7_ok nmX7 hown hK.1 hP hD hS 0 rfl rfl 6 (by decide) (htG _ g1_112) (fun _ h9 => h9) rfl (by decide +kernel) rfl rfl (Nat.le_of_ble_eq_true rfl) dX7_copy_56 (fun H locs hP hD hS => ?_)
  have hP : va_P g.1 vwCl ((w_X7 g h0 h1 (y.1, y.2.1, y.2.2.1, y.2.2.2.1, y.2.2.2.2.1, y.2.2.2.2.2.1, y.2.2.2.2.2.2)) ++ (w_X7 g k0 k1 y)) H := hP
  have hD : va_D A ((w_X7 g h0 h1 (y.1, y.2.1, y.2.2.1, y.2.2.2.1, y.2.2.2.2.1, y.2.2.2.2.2.1, y.2.2.2.2.2.2)) ++ (w_X7 g k0 k1 y)) := hD
  exact W.vret hx hb hr (fun t ht hW => ⟨⟨_, rfl, hm, atH ht hP⟩, hS.F ht⟩) hS.2.2 dX7_copy_59
def fX0_countAll_L0 (x : BD) : Nat → Int32 → Int32 → Option (Int32)
  | 0, _, _ => none
  | n + 1, i0_1, i0_2 => (if 6 ≤ i0_2 then (some i0_1) else ((fX0_countOf x i0_2).bind (fun zq2 => (fX0_countAll_L0 x n (i0_1 + zq2) (i0_2 + 1)))))
def fX0_countAll (x : BD) : Option (Int32) := ((fX0_countAll_L0 x 1000 0 0).bind (fun zq3 => some zq3))
abbrev rm_X0_countAll : Jvm.Room := { frames := 2, cells := 0, slots := 0, locals := 44 }
theorem hd_X0_countAll : yX0_countAll.cls = RX0 ∧ yX0_countAll.cls ≠ "java/lang/invoke/MethodHandle" ∧ yX0_countAll.cls ≠ "java/lang/invoke/VarHandle" ∧ (parseMethodDescriptor yX0_countAll.desc).map (fun d => d.parameters.length) = some 0 := by decide +kernel
set_option maxHeartbeats 4000000 in
set_option maxRecDepth 100000 in
theorem kX0_countAll (l : Launch) (g : CX) (h0 h1 h2 : Nat) (x : BD) (res : Int32) (hm0 : fX0_countAll x = some res) : Met l yX0_countAll (wg yX0_countAll cX0_countAll 3 (some .int)) rm_X0_countAll (PR g [.ref h0] (w_X0 g h0 h1 h2 x)) (vp_Si (fun v => v = res)) 0 0 (fun _ => False) := by
  refine Met.ofW (cc := cX0_countAll) (maxL := 3) (ret := (some .int)) (by decide) rfl ?_
  intro p e s m args below meth c s₁ B hml hv
  obtain ⟨rfl, hP, hK, hL⟩ := hv
  have hx := B.exec
  have hb := B.bytes
  have hr := B.returns
  have htG := wg_G (atoms_spec (ws := wg yX0_countAll cX0_countAll 3 (some .int)) B.pre)
  have hown : s.vm.findClass RX0 = some m.cls := findClass_of_methodNamed B.named
  have hlocks := B.notSynchronized
  have hS : va_S (fun _ => False) s.heap s.heap [] := va_S.rf
  have hl := lv_entry ([.ref h0]) (n := 3) (Nat.le_of_ble_eq_true rfl)
  rw [lg_entry_eq]
  generalize (lg_sl ([.ref h0]) ++ List.replicate (3 - (lg_sl ([.ref h0])).length) Slot.unset).toArray = ls at hl ⊢
  have hl : lv_has ls 3 [(0, .ref h0)] := hl
  have hm := hm0
  unfold fX0_countAll at hm
  have hL0 : ∀ (Q : State → Prop), ∀ (n : Nat) (i0_1 : Int32) (i0_2 : Int32) (out : Int32) (ls : Array Slot), fX0_countAll_L0 x n i0_1 i0_2 = some out → lv_has ls 3 [(0, .ref h0), (1, .int i0_1), (2, .int i0_2)] → (∀ ls : Array Slot, lv_has ls 3 [(1, .int out)] → W p l e (headSpec (wg yX0_countAll cX0_countAll 3 (some .int)) rm_X0_countAll).room s m (([.ref h0] : List Value).toArray) below meth c s.heap [] 0 0 Q (F0 m 24 ls [])) → W p l e (headSpec (wg yX0_countAll cX0_countAll 3 (some .int)) rm_X0_countAll).room s m (([.ref h0] : List Value).toArray) below meth c s.heap [] 0 0 Q (F0 m 4 ls []) := by
    intro Q n
    induction n with
    | zero =>
      intro i0_1 i0_2 out ls hm hl hk
      simp [fX0_countAll_L0] at hm
    | succ n ih =>
      intro i0_1 i0_2 out ls hm hl hk
      rw [fX0_countAll_L0] at hm
      refine lv_iload_n hx hb dX0_countAll_4 rfl (lv_at hl 2 rfl) ?_
      refine lv_bipush (v := 6) hx hb dX0_countAll_5 (by decide +kernel) ?_
      refine lv_icmp_ge (tgt := 24) hx hb dX0_countAll_7 (by decide) (fun zc1 => ?_) (fun zc1 => ?_)
      · replace hm := (if_pos zc1).symm.trans hm
        obtain rfl := Option.some.inj hm
        exact hk ls (lv_sub hl [1] rfl)
      · replace hm := (if_neg zc1).symm.trans hm
        refine lv_iload_n hx hb dX0_countAll_10 rfl (lv_at hl 1 rfl) ?_
        refine lv_aload_n hx hb dX0_countAll_11 rfl (lv_at hl 0 rfl) ?_
        refine lv_iload_n hx hb dX0_countAll_12 rfl (lv_at hl 2 rfl) ?_
        obtain ⟨zq2, hzq2, hm⟩ := bdk hm
        refine ko_e (va_runV (As := [.int i0_2]) (rest := [.int i0_1]) ⟨hx, hb, hml, hown, htG⟩ (kX0_countOf l g h0 h1 h2 x i0_2 _ hzq2) (cwV 1 htG (GV g2_154 g2_155 g2_156 g1_3 g2_157) rfl rfl rfl hd_X0_countOf ⟨Nat.le_of_ble_eq_true rfl, Nat.le_of_ble_eq_true rfl⟩) (PR_VA hK hL hS hP (ci := 0) rfl 0 rfl) rfl rfl hl.1 rfl (lv_room (Nat.le_of_ble_eq_true rfl)) dX0_countAll_13 ⟨Nat.zero_le _, Nat.zero_le _⟩) ?_
        refine lv_iadd hx hb dX0_countAll_16 ?_
        refine lv_istore_n (lv' := [(1, .int (i0_1 + zq2)), (0, .ref h0), (2, .int i0_2)]) hx hb dX0_countAll_17 rfl hl (by decide) rfl (fun ls hl => ?_)
        refine lv_iinc (v := i0_2 + 1) (lv' := [(2, .int (i0_2 + 1)), (1, .int (i0_1 + zq2)), (0, .ref h0)]) hx hb dX0_countAll_18 hl (k := 2) rfl rfl (by decide) rfl (fun ls hl => ?_)
        refine lv_goto (tgt := 4) hx hb dX0_countAll_21 (by decide) ?_
        exact ih (i0_1 + zq2) (i0_2 + 1) out ls hm (lv_sub hl [2, 1, 0] rfl) hk
  refine lv_iconst (v := 0) hx hb dX0_countAll_0 (by decide) ?_
  refine lv_istore_n (lv' := [(1, .int 0), (0, .ref h0)]) hx hb dX0_countAll_1 rfl hl (by decide) rfl (fun ls hl => ?_)
  refine lv_iconst (v := 0) hx hb dX0_countAll_2 (by decide) ?_
  refine lv_istore_n (lv' := [(2, .int 0), (1, .int 0), (0, .ref h0)]) hx hb dX0_countAll_3 rfl hl (by decide) rfl (fun ls hl => ?_)
  obtain ⟨zq3, hzq3, hm⟩ := bdk hm
  refine hL0 _ 1000 0 0 zq3 _ hzq3 (lv_sub hl [2, 1, 0] rfl) (fun ls hl => ?_)
  refine lv_iload_n hx hb dX0_countAll_24 rfl (lv_at hl 0 rfl) ?_
  exact W.iret (v := zq3) hx hb hr (fun t ht hW => ⟨_, rfl, (Option.some.inj hm), ht⟩) (fun _ h => nomatch h) dX0_countAll_25
