def fX9_in (p0 : Int32) (p1 : Int32) (p2 : Int32) : Int32 := (if p0 < p1 then 0 else (if p2 < p0 then 0 else 1))
abbrev rm_X9_in : Jvm.Room := { frames := 0, cells := 0, slots := 0, locals := 0 }
theorem hs_X9_in : yX9_in.cls ≠ "java/lang/invoke/MethodHandle" ∧ yX9_in.cls ≠ "java/lang/invoke/VarHandle" ∧ (parseMethodDescriptor yX9_in.desc).map (fun d => d.parameters.length) = some 3 := by decide +kernel
set_option maxHeartbeats 4000000 in
set_option maxRecDepth 100000 in
theorem kX9_in (l : Launch) (g : CX) (p0 : Int32) (p1 : Int32) (p2 : Int32) (res : Int32) (hm0 : fX9_in p0 p1 p2 = res) : Met l yX9_in (wg yX9_in cX9_in 3 (some .boolean)) rm_X9_in (PR g [.int p0, .int p1, .int p2] ([])) (vp_Si (fun v => v = res)) 0 0 (fun _ => False) := by
  refine Met.ofW (cc := cX9_in) (maxL := 3) (ret := (some .boolean)) (by decide) rfl ?_
  intro p e s m args below meth c s₁ B hml hv
  obtain ⟨rfl, hP, hK, hL⟩ := hv
  have hx := B.exec
  have hb := B.bytes
  have hr := B.returns
  have htG := wg_G (atoms_spec (ws := wg yX9_in cX9_in 3 (some .boolean)) B.pre)
  have hown : s.vm.findClass RX9 = some m.cls := findClass_of_methodNamed B.named
  have hlocks := B.notSynchronized
  have hS : va_S (fun _ => False) s.heap s.heap [] := va_S.rf
  have hl := lv_entry ([.int p0, .int p1, .int p2]) (n := 3) (Nat.le_of_ble_eq_true rfl)
  rw [lg_entry_eq]
  generalize (lg_sl ([.int p0, .int p1, .int p2]) ++ List.replicate (3 - (lg_sl ([.int p0, .int p1, .int p2])).length) Slot.unset).toArray = ls at hl ⊢
  have hl : lv_has ls 3 [(0, .int p0), (1, .int p1), (2, .int p2)] := hl
  have hm := hm0
  unfold fX9_in at hm
  refine lv_iload_n hx hb dX9_in_0 rfl (lv_at hl 0 rfl) ?_
  refine lv_iload_n hx hb dX9_in_1 rfl (lv_at hl 1 rfl) ?_
  refine lv_icmp_lt (tgt := 14) hx hb dX9_in_2 (by decide) (fun zc1 => ?_) (fun zc1 => ?_)
  · replace hm := (if_pos zc1).symm.trans hm
    refine lv_iconst (v := 0) hx hb dX9_in_14 (by decide) ?_
    exact W.zret (v := 0) (ty := .boolean) hx hb hr rfl (fun t ht hW => ⟨_, rfl, hm, ht⟩) (fun _ h => nomatch h) dX9_in_15
  · replace hm := (if_neg zc1).symm.trans hm
    refine lv_iload_n hx hb dX9_in_5 rfl (lv_at hl 0 rfl) ?_
    refine lv_iload_n hx hb dX9_in_6 rfl (lv_at hl 2 rfl) ?_
    refine lv_icmp_gt (tgt := 14) hx hb dX9_in_7 (by decide) (fun zc2 => ?_) (fun zc2 => ?_)
    · replace hm := (if_pos zc2).symm.trans hm
      refine lv_iconst (v := 0) hx hb dX9_in_14 (by decide) ?_
      exact W.zret (v := 0) (ty := .boolean) hx hb hr rfl (fun t ht hW => ⟨_, rfl, hm, ht⟩) (fun _ h => nomatch h) dX9_in_15
    · replace hm := (if_neg zc2).symm.trans hm
      refine lv_iconst (v := 1) hx hb dX9_in_10 (by decide) ?_
      refine lv_goto (tgt := 15) hx hb dX9_in_11 (by decide) ?_
      exact W.zret (v := 1) (ty := .boolean) hx hb hr rfl (fun t ht hW => ⟨_, rfl, hm, ht⟩) (fun _ h => nomatch h) dX9_in_15
def fX9_most (p0 : Int32) : Int32 := (20 + (20 * p0))
abbrev rm_X9_most : Jvm.Room := { frames := 0, cells := 0, slots := 0, locals := 0 }
theorem hs_X9_most : yX9_most.cls ≠ "java/lang/invoke/MethodHandle" ∧ yX9_most.cls ≠ "java/lang/invoke/VarHandle" ∧ (parseMethodDescriptor yX9_most.desc).map (fun d => d.parameters.length) = some 1 := by decide +kernel
set_option maxHeartbeats 4000000 in
set_option maxRecDepth 100000 in
theorem kX9_most (l : Launch) (g : CX) (p0 : Int32) (res : Int32) (hm0 : fX9_most p0 = res) : Met l yX9_most (wg yX9_most cX9_most 1 (some .int)) rm_X9_most (PR g [.int p0] ([])) (vp_Si (fun v => v = res)) 0 0 (fun _ => False) := by
  refine Met.ofW (cc := cX9_most) (maxL := 1) (ret := (some .int)) (by decide) rfl ?_
  intro p e s m args below meth c s₁ B hml hv
  obtain ⟨rfl, hP, hK, hL⟩ := hv
  have hx := B.exec
  have hb := B.bytes
  have hr := B.returns
  have htG := wg_G (atoms_spec (ws := wg yX9_most cX9_most 1 (some .int)) B.pre)
  have hown : s.vm.findClass RX9 = some m.cls := findClass_of_methodNamed B.named
  have hlocks := B.notSynchronized
  have hS : va_S (fun _ => False) s.heap s.heap [] := va_S.rf
  have hl := lv_entry ([.int p0]) (n := 1) (Nat.le_of_ble_eq_true rfl)
  rw [lg_entry_eq]
  generalize (lg_sl ([.int p0]) ++ List.replicate (1 - (lg_sl ([.int p0])).length) Slot.unset).toArray = ls at hl ⊢
  have hl : lv_has ls 1 [(0, .int p0)] := hl
  have hm := hm0
  unfold fX9_most at hm
  refine lv_bipush (v := 20) hx hb dX9_most_0 (by decide +kernel) ?_
  refine lv_bipush (v := 20) hx hb dX9_most_2 (by decide +kernel) ?_
  refine lv_iload_n hx hb dX9_most_4 rfl (lv_at hl 0 rfl) ?_
  refine lv_imul hx hb dX9_most_5 ?_
  refine lv_iadd hx hb dX9_most_6 ?_
  exact W.iret (v := (20 + (20 * p0))) hx hb hr (fun t ht hW => ⟨_, rfl, hm, ht⟩) (fun _ h => nomatch h) dX9_most_7
def fX9_place (p0 : Int32) (p1 : Int32) : Int32 := ((16 * p0) + p1)
abbrev rm_X9_place : Jvm.Room := { frames := 0, cells := 0, slots := 0, locals := 0 }
theorem hs_X9_place : yX9_place.cls ≠ "java/lang/invoke/MethodHandle" ∧ yX9_place.cls ≠ "java/lang/invoke/VarHandle" ∧ (parseMethodDescriptor yX9_place.desc).map (fun d => d.parameters.length) = some 2 := by decide +kernel
set_option maxHeartbeats 4000000 in
set_option maxRecDepth 100000 in
theorem kX9_place (l : Launch) (g : CX) (p0 : Int32) (p1 : Int32) (res : Int32) (hm0 : fX9_place p0 p1 = res) : Met l yX9_place (wg yX9_place cX9_place 2 (some .int)) rm_X9_place (PR g [.int p0, .int p1] ([])) (vp_Si (fun v => v = res)) 0 0 (fun _ => False) := by
  refine Met.ofW (cc := cX9_place) (maxL := 2) (ret := (some .int)) (by decide) rfl ?_
  intro p e s m args below meth c s₁ B hml hv
  obtain ⟨rfl, hP, hK, hL⟩ := hv
  have hx := B.exec
  have hb := B.bytes
  have hr := B.returns
  have htG := wg_G (atoms_spec (ws := wg yX9_place cX9_place 2 (some .int)) B.pre)
  have hown : s.vm.findClass RX9 = some m.cls := findClass_of_methodNamed B.named
  have hlocks := B.notSynchronized
  have hS : va_S (fun _ => False) s.heap s.heap [] := va_S.rf
  have hl := lv_entry ([.int p0, .int p1]) (n := 2) (Nat.le_of_ble_eq_true rfl)
  rw [lg_entry_eq]
  generalize (lg_sl ([.int p0, .int p1]) ++ List.replicate (2 - (lg_sl ([.int p0, .int p1])).length) Slot.unset).toArray = ls at hl ⊢
  have hl : lv_has ls 2 [(0, .int p0), (1, .int p1)] := hl
  have hm := hm0
  unfold fX9_place at hm
  refine lv_bipush (v := 16) hx hb dX9_place_0 (by decide +kernel) ?_
  refine lv_iload_n hx hb dX9_place_2 rfl (lv_at hl 0 rfl) ?_
  refine lv_imul hx hb dX9_place_3 ?_
  refine lv_iload_n hx hb dX9_place_4 rfl (lv_at hl 1 rfl) ?_
  refine lv_iadd hx hb dX9_place_5 ?_
  exact W.iret (v := ((16 * p0) + p1)) hx hb hr (fun t ht hW => ⟨_, rfl, hm, ht⟩) (fun _ h => nomatch h) dX9_place_6
def fX9_bears (p0 : Int32) (p1 : Int32) : Int32 := (if (70 - p0) < p1 then 0 else 1)
abbrev rm_X9_bears : Jvm.Room := { frames := 0, cells := 0, slots := 0, locals := 0 }
theorem hs_X9_bears : yX9_bears.cls ≠ "java/lang/invoke/MethodHandle" ∧ yX9_bears.cls ≠ "java/lang/invoke/VarHandle" ∧ (parseMethodDescriptor yX9_bears.desc).map (fun d => d.parameters.length) = some 2 := by decide +kernel
set_option maxHeartbeats 4000000 in
set_option maxRecDepth 100000 in
theorem kX9_bears (l : Launch) (g : CX) (p0 : Int32) (p1 : Int32) (res : Int32) (hm0 : fX9_bears p0 p1 = res) : Met l yX9_bears (wg yX9_bears cX9_bears 2 (some .boolean)) rm_X9_bears (PR g [.int p0, .int p1] ([])) (vp_Si (fun v => v = res)) 0 0 (fun _ => False) := by
  refine Met.ofW (cc := cX9_bears) (maxL := 2) (ret := (some .boolean)) (by decide) rfl ?_
  intro p e s m args below meth c s₁ B hml hv
  obtain ⟨rfl, hP, hK, hL⟩ := hv
  have hx := B.exec
  have hb := B.bytes
  have hr := B.returns
  have htG := wg_G (atoms_spec (ws := wg yX9_bears cX9_bears 2 (some .boolean)) B.pre)
  have hown : s.vm.findClass RX9 = some m.cls := findClass_of_methodNamed B.named
  have hlocks := B.notSynchronized
  have hS : va_S (fun _ => False) s.heap s.heap [] := va_S.rf
  have hl := lv_entry ([.int p0, .int p1]) (n := 2) (Nat.le_of_ble_eq_true rfl)
  rw [lg_entry_eq]
  generalize (lg_sl ([.int p0, .int p1]) ++ List.replicate (2 - (lg_sl ([.int p0, .int p1])).length) Slot.unset).toArray = ls at hl ⊢
  have hl : lv_has ls 2 [(0, .int p0), (1, .int p1)] := hl
  have hm := hm0
  unfold fX9_bears at hm
  refine lv_iload_n hx hb dX9_bears_0 rfl (lv_at hl 1 rfl) ?_
  refine lv_bipush (v := 70) hx hb dX9_bears_1 (by decide +kernel) ?_
  refine lv_iload_n hx hb dX9_bears_3 rfl (lv_at hl 0 rfl) ?_
  refine lv_isub hx hb dX9_bears_4 ?_
  refine lv_icmp_gt (tgt := 12) hx hb dX9_bears_5 (by decide) (fun zc1 => ?_) (fun zc1 => ?_)
  · replace hm := (if_pos zc1).symm.trans hm
    refine lv_iconst (v := 0) hx hb dX9_bears_12 (by decide) ?_
    exact W.zret (v := 0) (ty := .boolean) hx hb hr rfl (fun t ht hW => ⟨_, rfl, hm, ht⟩) (fun _ h => nomatch h) dX9_bears_13
  · replace hm := (if_neg zc1).symm.trans hm
    refine lv_iconst (v := 1) hx hb dX9_bears_8 (by decide) ?_
    refine lv_goto (tgt := 13) hx hb dX9_bears_9 (by decide) ?_
    exact W.zret (v := 1) (ty := .boolean) hx hb hr rfl (fun t ht hW => ⟨_, rfl, hm, ht⟩) (fun _ h => nomatch h) dX9_bears_13
def fX9_isSlot (p0 : Int32) (p1 : Int32) : Int32 := (if (fX9_in p0 0 2) = 0 then 0 else (if (fX9_in p1 0 15) = 0 then 0 else 1))
abbrev rm_X9_isSlot : Jvm.Room := { frames := 1, cells := 0, slots := 0, locals := 22 }
theorem hs_X9_isSlot : yX9_isSlot.cls ≠ "java/lang/invoke/MethodHandle" ∧ yX9_isSlot.cls ≠ "java/lang/invoke/VarHandle" ∧ (parseMethodDescriptor yX9_isSlot.desc).map (fun d => d.parameters.length) = some 2 := by decide +kernel
set_option maxHeartbeats 4000000 in
set_option maxRecDepth 100000 in
theorem kX9_isSlot (l : Launch) (g : CX) (p0 : Int32) (p1 : Int32) (res : Int32) (hm0 : fX9_isSlot p0 p1 = res) : Met l yX9_isSlot (wg yX9_isSlot cX9_isSlot 2 (some .boolean)) rm_X9_isSlot (PR g [.int p0, .int p1] ([])) (vp_Si (fun v => v = res)) 0 0 (fun _ => False) := by
  refine Met.ofW (cc := cX9_isSlot) (maxL := 2) (ret := (some .boolean)) (by decide) rfl ?_
  intro p e s m args below meth c s₁ B hml hv
  obtain ⟨rfl, hP, hK, hL⟩ := hv
  have hx := B.exec
  have hb := B.bytes
  have hr := B.returns
  have htG := wg_G (atoms_spec (ws := wg yX9_isSlot cX9_isSlot 2 (some .boolean)) B.pre)
  have hown : s.vm.findClass RX9 = some m.cls := findClass_of_methodNamed B.named
  have hlocks := B.notSynchronized
  have hS : va_S (fun _ => False) s.heap s.heap [] := va_S.rf
  have hl := lv_entry ([.int p0, .int p1]) (n := 2) (Nat.le_of_ble_eq_true rfl)
  rw [lg_entry_eq]
  generalize (lg_sl ([.int p0, .int p1]) ++ List.replicate (2 - (lg_sl ([.int p0, .int p1])).length) Slot.unset).toArray = ls at hl ⊢
  have hl : lv_has ls 2 [(0, .int p0), (1, .int p1)] := hl
  have hm := hm0
  unfold fX9_isSlot at hm
  refine lv_iload_n hx hb dX9_isSlot_0 rfl (lv_at hl 0 rfl) ?_
  refine lv_iconst (v := 0) hx hb dX9_isSlot_1 (by decide) ?_
  refine lv_iconst (v := 2) hx hb dX9_isSlot_2 (by decide) ?_
  refine ko_e (va_runS (As := [.int p0, .int 0, .int 2]) (rest := []) ⟨hx, hb, hml, hown, htG⟩ (kX9_in l g p0 0 2 _ rfl) (va_cwS 3 htG (GS g4_1 g4_2 g1_10 g4_3) rfl rfl rfl hs_X9_in ⟨Nat.le_of_ble_eq_true rfl, Nat.le_of_ble_eq_true rfl⟩) (PR_S hK hL hS hP [] rfl) rfl rfl hl.1 rfl (lv_room (Nat.le_of_ble_eq_true rfl)) dX9_isSlot_3 ⟨Nat.zero_le _, Nat.zero_le _⟩) ?_
  refine lv_if_eq (tgt := 23) hx hb dX9_isSlot_6 (by decide) (fun zc1 => ?_) (fun zc1 => ?_)
  · replace hm := (if_pos zc1).symm.trans hm
    refine lv_iconst (v := 0) hx hb dX9_isSlot_23 (by decide) ?_
    exact W.zret (v := 0) (ty := .boolean) hx hb hr rfl (fun t ht hW => ⟨_, rfl, hm, ht⟩) (fun _ h => nomatch h) dX9_isSlot_24
  · replace hm := (if_neg zc1).symm.trans hm
    refine lv_iload_n hx hb dX9_isSlot_9 rfl (lv_at hl 1 rfl) ?_
    refine lv_iconst (v := 0) hx hb dX9_isSlot_10 (by decide) ?_
    refine lv_bipush (v := 15) hx hb dX9_isSlot_11 (by decide +kernel) ?_
    refine ko_e (va_runS (As := [.int p1, .int 0, .int 15]) (rest := []) ⟨hx, hb, hml, hown, htG⟩ (kX9_in l g p1 0 15 _ rfl) (va_cwS 3 htG (GS g4_1 g4_2 g1_10 g4_3) rfl rfl rfl hs_X9_in ⟨Nat.le_of_ble_eq_true rfl, Nat.le_of_ble_eq_true rfl⟩) (PR_S hK hL hS hP [] rfl) rfl rfl hl.1 rfl (lv_room (Nat.le_of_ble_eq_true rfl)) dX9_isSlot_13 ⟨Nat.zero_le _, Nat.zero_le _⟩) ?_
    refine lv_if_eq (tgt := 23) hx hb dX9_isSlot_16 (by decide) (fun zc2 => ?_) (fun zc2 => ?_)
    · replace hm := (if_pos zc2).symm.trans hm
      refine lv_iconst (v := 0) hx hb dX9_isSlot_23 (by decide) ?_
      exact W.zret (v := 0) (ty := .boolean) hx hb hr rfl (fun t ht hW => ⟨_, rfl, hm, ht⟩) (fun _ h => nomatch h) dX9_isSlot_24
    · replace hm := (if_neg zc2).symm.trans hm
      refine lv_iconst (v := 1) hx hb dX9_isSlot_19 (by decide) ?_
      refine lv_goto (tgt := 24) hx hb dX9_isSlot_20 (by decide) ?_
      exact W.zret (v := 1) (ty := .boolean) hx hb hr rfl (fun t ht hW => ⟨_, rfl, hm, ht⟩) (fun _ h => nomatch h) dX9_isSlot_24
def fX9_copies_L0 (p1 : Int32) (p2 : Int32) : Nat → Int32 → MD → Option (MD)
  | 0, _, _ => none
  | n + 1, i0_3, x0 => (if 835 ≤ i0_3 then (some x0) else (if ib ((835 * p1) + i0_3) 5845 = true then (if ib ((835 * p2) + i0_3) 5845 = true then (bnd (upd x0.1 ((835 * p2) + i0_3).toNatClampNeg (x0.1 (((835 * p1) + i0_3).toNatClampNeg))) (fun zf4 => (fX9_copies_L0 p1 p2 n (i0_3 + 1) (zf4, x0.2.1, x0.2.2.1, x0.2.2.2.1, x0.2.2.2.2.1, x0.2.2.2.2.2.1, x0.2.2.2.2.2.2.1, x0.2.2.2.2.2.2.2.1, x0.2.2.2.2.2.2.2.2.1, x0.2.2.2.2.2.2.2.2.2.1, x0.2.2.2.2.2.2.2.2.2.2)))) else none) else none))
def fX9_copies (x : MD) (p1 : Int32) (p2 : Int32) : Option (MD) := ((fX9_copies_L0 p1 p2 1000 0 x).bind (fun zq5 => some zq5))
abbrev rm_X9_copies : Jvm.Room := { frames := 0, cells := 0, slots := 0, locals := 0 }
theorem hd_X9_copies : yX9_copies.cls = RX9 ∧ yX9_copies.cls ≠ "java/lang/invoke/MethodHandle" ∧ yX9_copies.cls ≠ "java/lang/invoke/VarHandle" ∧ (parseMethodDescriptor yX9_copies.desc).map (fun d => d.parameters.length) = some 2 := by decide +kernel
set_option maxHeartbeats 4000000 in
set_option maxRecDepth 100000 in
theorem kX9_copies (l : Launch) (g : CX) (h0 h1 h2 h3 : Nat) (sz : Nat) (x : MD) (p1 : Int32) (p2 : Int32) (res : MD) (hm0 : fX9_copies x p1 p2 = some res) : Met l yX9_copies (wg yX9_copies cX9_copies 4 none) rm_X9_copies (PW g [.ref h0, .int p1, .int p2] sz (w_X9 g h0 h1 h2 h3 x)) (va_Qv (fun u => u = res) (fun u t => va_P g.1 vwCl (w_X9 g h0 h1 h2 h3 u) t.heap) (va_A (w_X9 g h0 h1 h2 h3 x) sz)) 0 0 (va_A (w_X9 g h0 h1 h2 h3 x) sz) := by
  refine Met.ofW (cc := cX9_copies) (maxL := 4) (ret := none) (by decide) rfl ?_
  intro p e s m args below meth c s₁ B hml hv
  obtain ⟨rfl, hsz, hP, hK, hD0, hL⟩ := hv
  have hx := B.exec
  have hb := B.bytes
  have hr := B.returns
  have htG := wg_G (atoms_spec (ws := wg yX9_copies cX9_copies 4 none) B.pre)
  have hown : s.vm.findClass RX9 = some m.cls := findClass_of_methodNamed B.named
  have hlocks := B.notSynchronized
  subst hsz
  have hD := hD0.self (sz := s.heap.size)
  generalize hAe : va_A (w_X9 g h0 h1 h2 h3 x) s.heap.size = A at hD hL ⊢
  have hA : ∀ q : Nat, s.heap.size ≤ q → A q := fun q h => by rw [← hAe]; exact Or.inr h
  have hS : va_S A s.heap s.heap [] := va_S.rf
  have hl := lv_entry ([.ref h0, .int p1, .int p2]) (n := 4) (Nat.le_of_ble_eq_true rfl)
  rw [lg_entry_eq]
  generalize (lg_sl ([.ref h0, .int p1, .int p2]) ++ List.replicate (4 - (lg_sl ([.ref h0, .int p1, .int p2])).length) Slot.unset).toArray = ls at hl ⊢
  have hl : lv_has ls 4 [(0, .ref h0), (1, .int p1), (2, .int p2)] := hl
  have hm := hm0
  unfold fX9_copies at hm
  have hL0 : ∀ (Q : State → Prop), ∀ (n : Nat) (i0_3 : Int32) (x0 : MD) (out : MD) (H : Heap) (locs : List Loc) (ls : Array Slot), fX9_copies_L0 p1 p2 n i0_3 x0 = some out → va_P g.1 vwCl (w_X9 g h0 h1 h2 h3 x0) H → va_D A (w_X9 g h0 h1 h2 h3 x0) → va_S A s.heap H locs → lv_has ls 4 [(0, .ref h0), (1, .int p1), (2, .int p2), (3, .int i0_3)] → (∀ (H : Heap) (locs : List Loc) (ls : Array Slot), va_P g.1 vwCl (w_X9 g h0 h1 h2 h3 out) H → va_D A (w_X9 g h0 h1 h2 h3 out) → va_S A s.heap H locs → lv_has ls 4 [] → W p l e (headSpec (wg yX9_copies cX9_copies 4 none) rm_X9_copies).room s m (([.ref h0, .int p1, .int p2] : List Value).toArray) below meth c H locs 0 0 Q (F0 m 39 ls [])) → W p l e (headSpec (wg yX9_copies cX9_copies 4 none) rm_X9_copies).room s m (([.ref h0, .int p1, .int p2] : List Value).toArray) below meth c H locs 0 0 Q (F0 m 2 ls []) := by
    intro Q n
    induction n with
    | zero =>
      intro i0_3 x0 out H locs ls hm hP hD hS hl hk
      simp [fX9_copies_L0] at hm
    | succ n ih =>
      intro i0_3 x0 out H locs ls hm hP hD hS hl hk
      rw [fX9_copies_L0] at hm
      refine lv_iload_n hx hb dX9_copies_2 rfl (lv_at hl 3 rfl) ?_
      refine lv_sipush (v := 835) hx hb dX9_copies_3 (by decide +kernel) ?_
      refine lv_icmp_ge (tgt := 39) hx hb dX9_copies_6 (by decide) (fun zc1 => ?_) (fun zc1 => ?_)
      · replace hm := (if_pos zc1).symm.trans hm
        obtain rfl := Option.some.inj hm
        exact hk H locs ls hP hD hS (lv_sub hl [] rfl)
      · replace hm := (if_neg zc1).symm.trans hm
        refine lv_aload_n hx hb dX9_copies_9 rfl (lv_at hl 0 rfl) ?_
        refine va_get (D := g.1) (ci := 8) (v := .ref h1) (C := RX9) (T := TX9) (N := 11) hx hb htG in_wsX90 hown hK.1 hP 0 rfl rfl 0 (by decide) (htG _ g3_195) (fun _ h9 => h9) rfl dX9_copies_10 ?_
        refine lv_sipush (v := 835) hx hb dX9_copies_13 (by decide +kernel) ?_
        refine lv_iload_n hx hb dX9_copies_16 rfl (lv_at hl 2 rfl) ?_
        refine lv_imul hx hb dX9_copies_17 ?_
        refine lv_iload_n hx hb dX9_copies_18 rfl (lv_at hl 3 rfl) ?_
        refine lv_iadd hx hb dX9_copies_19 ?_
        refine lv_aload_n hx hb dX9_copies_20 rfl (lv_at hl 0 rfl) ?_
        refine va_get (D := g.1) (ci := 8) (v := .ref h1) (C := RX9) (T := TX9) (N := 11) hx hb htG in_wsX90 hown hK.1 hP 0 rfl rfl 0 (by decide) (htG _ g3_195) (fun _ h9 => h9) rfl dX9_copies_21 ?_
        refine lv_sipush (v := 835) hx hb dX9_copies_24 (by decide +kernel) ?_
        refine lv_iload_n hx hb dX9_copies_27 rfl (lv_at hl 1 rfl) ?_
        refine lv_imul hx hb dX9_copies_28 ?_
        refine lv_iload_n hx hb dX9_copies_29 rfl (lv_at hl 3 rfl) ?_
        refine lv_iadd hx hb dX9_copies_30 ?_
        obtain ⟨zb2, hm⟩ := ibk hm
        refine va_iald hx hb hK.1 hP 1 0 rfl rfl zb2 dX9_copies_31 ?_
        obtain ⟨zb3, hm⟩ := ibk hm
        obtain ⟨zf4, ezf4, hm⟩ := bnk hm
        refine iast_e hx hb hK.1 hP hD hS 1 0 rfl rfl zb3 dX9_copies_32 ezf4 (fun H locs hP hD hS => ?_)
        have hP : va_P g.1 vwCl (w_X9 g h0 h1 h2 h3 (zf4, x0.2.1, x0.2.2.1, x0.2.2.2.1, x0.2.2.2.2.1, x0.2.2.2.2.2.1, x0.2.2.2.2.2.2.1, x0.2.2.2.2.2.2.2.1, x0.2.2.2.2.2.2.2.2.1, x0.2.2.2.2.2.2.2.2.2.1, x0.2.2.2.2.2.2.2.2.2.2)) H := hP
        have hD : va_D A (w_X9 g h0 h1 h2 h3 (zf4, x0.2.1, x0.2.2.1, x0.2.2.2.1, x0.2.2.2.2.1, x0.2.2.2.2.2.1, x0.2.2.2.2.2.2.1, x0.2.2.2.2.2.2.2.1, x0.2.2.2.2.2.2.2.2.1, x0.2.2.2.2.2.2.2.2.2.1, x0.2.2.2.2.2.2.2.2.2.2)) := hD
        refine lv_iinc (v := i0_3 + 1) (lv' := [(3, .int (i0_3 + 1)), (0, .ref h0), (1, .int p1), (2, .int p2)]) hx hb dX9_copies_33 hl (k := 3) rfl rfl (by decide) rfl (fun ls hl => ?_)
        refine lv_goto (tgt := 2) hx hb dX9_copies_36 (by decide) ?_
        exact ih (i0_3 + 1) (zf4, x0.2.1, x0.2.2.1, x0.2.2.2.1, x0.2.2.2.2.1, x0.2.2.2.2.2.1, x0.2.2.2.2.2.2.1, x0.2.2.2.2.2.2.2.1, x0.2.2.2.2.2.2.2.2.1, x0.2.2.2.2.2.2.2.2.2.1, x0.2.2.2.2.2.2.2.2.2.2) out H locs ls hm hP hD hS (lv_sub hl [1, 2, 3, 0] rfl) hk
  refine lv_iconst (v := 0) hx hb dX9_copies_0 (by decide) ?_
  refine lv_istore_n (lv' := [(3, .int 0), (0, .ref h0), (1, .int p1), (2, .int p2)]) hx hb dX9_copies_1 rfl hl (by decide) rfl (fun ls hl => ?_)
  obtain ⟨zq5, hzq5, hm⟩ := bdk hm
  refine hL0 _ 1000 0 x zq5 _ _ _ hzq5 hP hD hS (lv_sub hl [1, 2, 3, 0] rfl) (fun H locs ls hP hD hS hl => ?_)
  exact W.vret hx hb hr (fun t ht hW => ⟨⟨_, rfl, (Option.some.inj hm), atH ht hP⟩, hS.F ht⟩) hS.2.2 dX9_copies_39
def fX9_records_L0  : Nat → Int32 → MD → Option (MD)
  | 0, _, _ => none
  | n + 1, i0_1, x0 => (if 4 ≤ i0_1 then (some x0) else ((fX9_copies x0 (i0_1 + 1) i0_1).bind (fun zq5 => (fX9_records_L0  n (i0_1 + 1) zq5))))
def fX9_records (x : MD) : Option (MD) := (if x.2.1 = 4 then ((fX9_records_L0 1000 1 x).bind (fun zq6 => (bnd (zq6.2.1 - 1) (fun zv7 => (bnd (zv7 + 1) (fun zv8 => ((fX9_copies (zq6.1, zv8, zq6.2.2.1, zq6.2.2.2.1, zq6.2.2.2.2.1, zq6.2.2.2.2.2.1, zq6.2.2.2.2.2.2.1, zq6.2.2.2.2.2.2.2.1, zq6.2.2.2.2.2.2.2.2.1, zq6.2.2.2.2.2.2.2.2.2.1, zq6.2.2.2.2.2.2.2.2.2.2) 0 zv8).bind (fun zq9 => some zq9)))))))) else (bnd (x.2.1 + 1) (fun zv2 => ((fX9_copies (x.1, zv2, x.2.2.1, x.2.2.2.1, x.2.2.2.2.1, x.2.2.2.2.2.1, x.2.2.2.2.2.2.1, x.2.2.2.2.2.2.2.1, x.2.2.2.2.2.2.2.2.1, x.2.2.2.2.2.2.2.2.2.1, x.2.2.2.2.2.2.2.2.2.2) 0 zv2).bind (fun zq3 => some zq3)))))
abbrev rm_X9_records : Jvm.Room := { frames := 1, cells := 0, slots := 0, locals := 23 }
theorem hd_X9_records : yX9_records.cls = RX9 ∧ yX9_records.cls ≠ "java/lang/invoke/MethodHandle" ∧ yX9_records.cls ≠ "java/lang/invoke/VarHandle" ∧ (parseMethodDescriptor yX9_records.desc).map (fun d => d.parameters.length) = some 0 := by decide +kernel
set_option maxHeartbeats 4000000 in
set_option maxRecDepth 100000 in
theorem kX9_records (l : Launch) (g : CX) (h0 h1 h2 h3 : Nat) (sz : Nat) (x : MD) (res : MD) (hm0 : fX9_records x = some res) : Met l yX9_records (wg yX9_records cX9_records 2 none) rm_X9_records (PW g [.ref h0] sz (w_X9 g h0 h1 h2 h3 x)) (va_Qv (fun u => u = res) (fun u t => va_P g.1 vwCl (w_X9 g h0 h1 h2 h3 u) t.heap) (va_A (w_X9 g h0 h1 h2 h3 x) sz)) 0 0 (va_A (w_X9 g h0 h1 h2 h3 x) sz) := by
  refine Met.ofW (cc := cX9_records) (maxL := 2) (ret := none) (by decide) rfl ?_
  intro p e s m args below meth c s₁ B hml hv
  obtain ⟨rfl, hsz, hP, hK, hD0, hL⟩ := hv
  have hx := B.exec
  have hb := B.bytes
  have hr := B.returns
  have htG := wg_G (atoms_spec (ws := wg yX9_records cX9_records 2 none) B.pre)
  have hown : s.vm.findClass RX9 = some m.cls := findClass_of_methodNamed B.named
  have hlocks := B.notSynchronized
  subst hsz
  have hD := hD0.self (sz := s.heap.size)
  generalize hAe : va_A (w_X9 g h0 h1 h2 h3 x) s.heap.size = A at hD hL ⊢
  have hA : ∀ q : Nat, s.heap.size ≤ q → A q := fun q h => by rw [← hAe]; exact Or.inr h
  have hS : va_S A s.heap s.heap [] := va_S.rf
  have hl := lv_entry ([.ref h0]) (n := 2) (Nat.le_of_ble_eq_true rfl)
  rw [lg_entry_eq]
  generalize (lg_sl ([.ref h0]) ++ List.replicate (2 - (lg_sl ([.ref h0])).length) Slot.unset).toArray = ls at hl ⊢
  have hl : lv_has ls 2 [(0, .ref h0)] := hl
  have hm := hm0
  unfold fX9_records at hm
  have hL0 : ∀ (Q : State → Prop), ∀ (n : Nat) (i0_1 : Int32) (x0 : MD) (out : MD) (H : Heap) (locs : List Loc) (ls : Array Slot), fX9_records_L0 n i0_1 x0 = some out → va_P g.1 vwCl (w_X9 g h0 h1 h2 h3 x0) H → va_D A (w_X9 g h0 h1 h2 h3 x0) → va_S A s.heap H locs → lv_has ls 2 [(0, .ref h0), (1, .int i0_1)] → (∀ (H : Heap) (locs : List Loc) (ls : Array Slot), va_P g.1 vwCl (w_X9 g h0 h1 h2 h3 out) H → va_D A (w_X9 g h0 h1 h2 h3 out) → va_S A s.heap H locs → lv_has ls 2 [(0, .ref h0)] → W p l e (headSpec (wg yX9_records cX9_records 2 none) rm_X9_records).room s m (([.ref h0] : List Value).toArray) below meth c H locs 0 0 Q (F0 m 29 ls [])) → W p l e (headSpec (wg yX9_records cX9_records 2 none) rm_X9_records).room s m (([.ref h0] : List Value).toArray) below meth c H locs 0 0 Q (F0 m 10 ls []) := by
    intro Q n
    induction n with
    | zero =>
      intro i0_1 x0 out H locs ls hm hP hD hS hl hk
      simp [fX9_records_L0] at hm
    | succ n ih =>
      intro i0_1 x0 out H locs ls hm hP hD hS hl hk
      rw [fX9_records_L0] at hm
      refine lv_iload_n hx hb dX9_records_10 rfl (lv_at hl 1 rfl) ?_
      refine lv_iconst (v := 4) hx hb dX9_records_11 (by decide) ?_
      refine lv_icmp_ge (tgt := 29) hx hb dX9_records_12 (by decide) (fun zc4 => ?_) (fun zc4 => ?_)
      · replace hm := (if_pos zc4).symm.trans hm
        obtain rfl := Option.some.inj hm
        exact hk H locs ls hP hD hS (lv_sub hl [0] rfl)
      · replace hm := (if_neg zc4).symm.trans hm
        refine lv_aload_n hx hb dX9_records_15 rfl (lv_at hl 0 rfl) ?_
        refine lv_iload_n hx hb dX9_records_16 rfl (lv_at hl 1 rfl) ?_
        refine lv_iconst (v := 1) hx hb dX9_records_17 (by decide) ?_
        refine lv_iadd hx hb dX9_records_18 ?_
        refine lv_iload_n hx hb dX9_records_19 rfl (lv_at hl 1 rfl) ?_
        obtain ⟨zq5, hzq5, hm⟩ := bdk hm
        refine kw_veA (va_runV (As := [.int (i0_1 + 1), .int i0_1]) (rest := []) ⟨hx, hb, hml, hown, htG⟩ (kX9_copies l g h0 h1 h2 h3 _ x0 (i0_1 + 1) i0_1 _ hzq5) (cwV 2 htG (GV g3_233 g3_235 gS_10 g1_10 g3_236) rfl rfl rfl hd_X9_copies ⟨Nat.le_of_ble_eq_true rfl, Nat.le_of_ble_eq_true rfl⟩) (PW_VA hK hL hS hP hD hA (ci := 8) rfl 0 rfl) rfl rfl hl.1 rfl (lv_room (Nat.le_of_ble_eq_true rfl)) dX9_records_20 ⟨Nat.zero_le _, Nat.zero_le _⟩) hD hS hA (fun _ => rfl) (fun H locs hP hD hS => ?_)
        have hP : va_P g.1 vwCl (w_X9 g h0 h1 h2 h3 zq5) H := hP
        have hD : va_D A (w_X9 g h0 h1 h2 h3 zq5) := hD
        refine lv_iinc (v := i0_1 + 1) (lv' := [(1, .int (i0_1 + 1)), (0, .ref h0)]) hx hb dX9_records_23 hl (k := 1) rfl rfl (by decide) rfl (fun ls hl => ?_)
        refine lv_goto (tgt := 10) hx hb dX9_records_26 (by decide) ?_
        exact ih (i0_1 + 1) zq5 out H locs ls hm hP hD hS (lv_sub hl [1, 0] rfl) hk
  refine lv_aload_n hx hb dX9_records_0 rfl (lv_at hl 0 rfl) ?_
  refine va_get (D := g.1) (ci := 8) (v := .int x.2.1) (C := RX9) (T := TX9) (N := 11) hx hb htG in_wsX90 hown hK.1 hP 0 rfl rfl 1 (by decide) (htG _ g3_196) (fun _ h9 => h9) rfl dX9_records_1 ?_
  refine lv_iconst (v := 4) hx hb dX9_records_4 (by decide) ?_
  refine lv_icmp_ne (tgt := 39) hx hb dX9_records_5 (by decide) (fun zc1 => ?_) (fun zc1 => ?_)
  · replace hm := (if_neg zc1).symm.trans hm
    refine lv_aload_n hx hb dX9_records_39 rfl (lv_at hl 0 rfl) ?_
    refine lv_dup hx hb dX9_records_40 rfl ?_
    refine va_get (D := g.1) (ci := 8) (v := .int x.2.1) (C := RX9) (T := TX9) (N := 11) hx hb htG in_wsX90 hown hK.1 hP 0 rfl rfl 1 (by decide) (htG _ g3_196) (fun _ h9 => h9) rfl dX9_records_41 ?_
    refine lv_iconst (v := 1) hx hb dX9_records_44 (by decide) ?_
    refine lv_iadd hx hb dX9_records_45 ?_
    obtain ⟨zv2, ezv2, hm⟩ := bnk hm
    refine tope ezv2 ?_
    refine va_put (D := g.1) (ci := 8) (v := .int zv2) (ty := .int) (C := RX9) (T := TX9) (N := 11) hx hb htG in_wsX90 tyX9 tyX9_ok nmX9 hown hK.1 hP hD hS 0 rfl rfl 1 (by decide) (htG _ g3_196) (fun _ h9 => h9) rfl (by decide +kernel) rfl rfl (Nat.le_of_ble_eq_true rfl) dX9_records_46 (fun H locs hP hD hS => ?_)
    have hP : va_P g.1 vwCl (w_X9 g h0 h1 h2 h3 (x.1, zv2, x.2.2.1, x.2.2.2.1, x.2.2.2.2.1, x.2.2.2.2.2.1, x.2.2.2.2.2.2.1, x.2.2.2.2.2.2.2.1, x.2.2.2.2.2.2.2.2.1, x.2.2.2.2.2.2.2.2.2.1, x.2.2.2.2.2.2.2.2.2.2)) H := hP
    have hD : va_D A (w_X9 g h0 h1 h2 h3 (x.1, zv2, x.2.2.1, x.2.2.2.1, x.2.2.2.2.1, x.2.2.2.2.2.1, x.2.2.2.2.2.2.1, x.2.2.2.2.2.2.2.1, x.2.2.2.2.2.2.2.2.1, x.2.2.2.2.2.2.2.2.2.1, x.2.2.2.2.2.2.2.2.2.2)) := hD
    refine lv_aload_n hx hb dX9_records_49 rfl (lv_at hl 0 rfl) ?_
    refine lv_iconst (v := 0) hx hb dX9_records_50 (by decide) ?_
    refine lv_aload_n hx hb dX9_records_51 rfl (lv_at hl 0 rfl) ?_
    refine va_get (D := g.1) (ci := 8) (v := .int zv2) (C := RX9) (T := TX9) (N := 11) hx hb htG in_wsX90 hown hK.1 hP 0 rfl rfl 1 (by decide) (htG _ g3_196) (fun _ h9 => h9) rfl dX9_records_52 ?_
    obtain ⟨zq3, hzq3, hm⟩ := bdk hm
    refine kw_veA (va_runV (As := [.int 0, .int zv2]) (rest := []) ⟨hx, hb, hml, hown, htG⟩ (kX9_copies l g h0 h1 h2 h3 _ (x.1, zv2, x.2.2.1, x.2.2.2.1, x.2.2.2.2.1, x.2.2.2.2.2.1, x.2.2.2.2.2.2.1, x.2.2.2.2.2.2.2.1, x.2.2.2.2.2.2.2.2.1, x.2.2.2.2.2.2.2.2.2.1, x.2.2.2.2.2.2.2.2.2.2) 0 zv2 _ hzq3) (cwV 2 htG (GV g3_233 g3_235 gS_10 g1_10 g3_236) rfl rfl rfl hd_X9_copies ⟨Nat.le_of_ble_eq_true rfl, Nat.le_of_ble_eq_true rfl⟩) (PW_VA hK hL hS hP hD hA (ci := 8) rfl 0 rfl) rfl rfl hl.1 rfl (lv_room (Nat.le_of_ble_eq_true rfl)) dX9_records_55 ⟨Nat.zero_le _, Nat.zero_le _⟩) hD hS hA (fun _ => rfl) (fun H locs hP hD hS => ?_)
    have hP : va_P g.1 vwCl (w_X9 g h0 h1 h2 h3 zq3) H := hP
    have hD : va_D A (w_X9 g h0 h1 h2 h3 zq3) := hD
    exact W.vret hx hb hr (fun t ht hW => ⟨⟨_, rfl, (Option.some.inj hm), atH ht hP⟩, hS.F ht⟩) hS.2.2 dX9_records_58
  · replace hm := (if_pos zc1).symm.trans hm
    refine lv_iconst (v := 1) hx hb dX9_records_8 (by decide) ?_
    refine lv_istore_n (lv' := [(1, .int 1), (0, .ref h0)]) hx hb dX9_records_9 rfl hl (by decide) rfl (fun ls hl => ?_)
    obtain ⟨zq6, hzq6, hm⟩ := bdk hm
    refine hL0 _ 1000 1 x zq6 _ _ _ hzq6 hP hD hS (lv_sub hl [1, 0] rfl) (fun H locs ls hP hD hS hl => ?_)
    refine lv_aload_n hx hb dX9_records_29 rfl (lv_at hl 0 rfl) ?_
    refine lv_dup hx hb dX9_records_30 rfl ?_
    refine va_get (D := g.1) (ci := 8) (v := .int zq6.2.1) (C := RX9) (T := TX9) (N := 11) hx hb htG in_wsX90 hown hK.1 hP 0 rfl rfl 1 (by decide) (htG _ g3_196) (fun _ h9 => h9) rfl dX9_records_31 ?_
    refine lv_iconst (v := 1) hx hb dX9_records_34 (by decide) ?_
    refine lv_isub hx hb dX9_records_35 ?_
    obtain ⟨zv7, ezv7, hm⟩ := bnk hm
    refine tope ezv7 ?_
    refine va_put (D := g.1) (ci := 8) (v := .int zv7) (ty := .int) (C := RX9) (T := TX9) (N := 11) hx hb htG in_wsX90 tyX9 tyX9_ok nmX9 hown hK.1 hP hD hS 0 rfl rfl 1 (by decide) (htG _ g3_196) (fun _ h9 => h9) rfl (by decide +kernel) rfl rfl (Nat.le_of_ble_eq_true rfl) dX9_records_36 (fun H locs hP hD hS => ?_)
    have hP : va_P g.1 vwCl (w_X9 g h0 h1 h2 h3 (zq6.1, zv7, zq6.2.2.1, zq6.2.2.2.1, zq6.2.2.2.2.1, zq6.2.2.2.2.2.1, zq6.2.2.2.2.2.2.1, zq6.2.2.2.2.2.2.2.1, zq6.2.2.2.2.2.2.2.2.1, zq6.2.2.2.2.2.2.2.2.2.1, zq6.2.2.2.2.2.2.2.2.2.2)) H := hP
    have hD : va_D A (w_X9 g h0 h1 h2 h3 (zq6.1, zv7, zq6.2.2.1, zq6.2.2.2.1, zq6.2.2.2.2.1, zq6.2.2.2.2.2.1, zq6.2.2.2.2.2.2.1, zq6.2.2.2.2.2.2.2.1, zq6.2.2.2.2.2.2.2.2.1, zq6.2.2.2.2.2.2.2.2.2.1, zq6.2.2.2.2.2.2.2.2.2.2)) := hD
    refine lv_aload_n hx hb dX9_records_39 rfl (lv_at hl 0 rfl) ?_
    refine lv_dup hx hb dX9_records_40 rfl ?_
    refine va_get (D := g.1) (ci := 8) (v := .int zv7) (C := RX9) (T := TX9) (N := 11) hx hb htG in_wsX90 hown hK.1 hP 0 rfl rfl 1 (by decide) (htG _ g3_196) (fun _ h9 => h9) rfl dX9_records_41 ?_
    refine lv_iconst (v := 1) hx hb dX9_records_44 (by decide) ?_
    refine lv_iadd hx hb dX9_records_45 ?_
    obtain ⟨zv8, ezv8, hm⟩ := bnk hm
    refine tope ezv8 ?_
    refine va_put (D := g.1) (ci := 8) (v := .int zv8) (ty := .int) (C := RX9) (T := TX9) (N := 11) hx hb htG in_wsX90 tyX9 tyX9_ok nmX9 hown hK.1 hP hD hS 0 rfl rfl 1 (by decide) (htG _ g3_196) (fun _ h9 => h9) rfl (by decide +kernel) rfl rfl (Nat.le_of_ble_eq_true rfl) dX9_records_46 (fun H locs hP hD hS => ?_)
    have hP : va_P g.1 vwCl (w_X9 g h0 h1 h2 h3 (zq6.1, zv8, zq6.2.2.1, zq6.2.2.2.1, zq6.2.2.2.2.1, zq6.2.2.2.2.2.1, zq6.2.2.2.2.2.2.1, zq6.2.2.2.2.2.2.2.1, zq6.2.2.2.2.2.2.2.2.1, zq6.2.2.2.2.2.2.2.2.2.1, zq6.2.2.2.2.2.2.2.2.2.2)) H := hP
    have hD : va_D A (w_X9 g h0 h1 h2 h3 (zq6.1, zv8, zq6.2.2.1, zq6.2.2.2.1, zq6.2.2.2.2.1, zq6.2.2.2.2.2.1, zq6.2.2.2.2.2.2.1, zq6.2.2.2.2.2.2.2.1, zq6.2.2.2.2.2.2.2.2.1, zq6.2.2.2.2.2.2.2.2.2.1, zq6.2.2.2.2.2.2.2.2.2.2)) := hD
    refine lv_aload_n hx hb dX9_records_49 rfl (lv_at hl 0 rfl) ?_
    refine lv_iconst (v := 0) hx hb dX9_records_50 (by decide) ?_
    refine lv_aload_n hx hb dX9_records_51 rfl (lv_at hl 0 rfl) ?_
    refine va_get (D := g.1) (ci := 8) (v := .int zv8) (C := RX9) (T := TX9) (N := 11) hx hb htG in_wsX90 hown hK.1 hP 0 rfl rfl 1 (by decide) (htG _ g3_196) (fun _ h9 => h9) rfl dX9_records_52 ?_
    obtain ⟨zq9, hzq9, hm⟩ := bdk hm
    refine kw_veA (va_runV (As := [.int 0, .int zv8]) (rest := []) ⟨hx, hb, hml, hown, htG⟩ (kX9_copies l g h0 h1 h2 h3 _ (zq6.1, zv8, zq6.2.2.1, zq6.2.2.2.1, zq6.2.2.2.2.1, zq6.2.2.2.2.2.1, zq6.2.2.2.2.2.2.1, zq6.2.2.2.2.2.2.2.1, zq6.2.2.2.2.2.2.2.2.1, zq6.2.2.2.2.2.2.2.2.2.1, zq6.2.2.2.2.2.2.2.2.2.2) 0 zv8 _ hzq9) (cwV 2 htG (GV g3_233 g3_235 gS_10 g1_10 g3_236) rfl rfl rfl hd_X9_copies ⟨Nat.le_of_ble_eq_true rfl, Nat.le_of_ble_eq_true rfl⟩) (PW_VA hK hL hS hP hD hA (ci := 8) rfl 0 rfl) rfl rfl hl.1 rfl (lv_room (Nat.le_of_ble_eq_true rfl)) dX9_records_55 ⟨Nat.zero_le _, Nat.zero_le _⟩) hD hS hA (fun _ => rfl) (fun H locs hP hD hS => ?_)
    have hP : va_P g.1 vwCl (w_X9 g h0 h1 h2 h3 zq9) H := hP
    have hD : va_D A (w_X9 g h0 h1 h2 h3 zq9) := hD
    exact W.vret hx hb hr (fun t ht hW => ⟨⟨_, rfl, (Option.some.inj hm), atH ht hP⟩, hS.F ht⟩) hS.2.2 dX9_records_58
def fX9_clears_L0 (p1 : Int32) (p2 : Int32) : Nat → Int32 → MD → Option (MD)
  | 0, _, _ => none
  | n + 1, i0_3, x0 => (if 6 ≤ i0_3 then (some x0) else (if ib (((p1 + 243) + (6 * p2)) + i0_3) 5845 = true then (bnd (upd x0.1 (((p1 + 243) + (6 * p2)) + i0_3).toNatClampNeg 0) (fun zf3 => (if ib (((p1 + 531) + (6 * p2)) + i0_3) 5845 = true then (bnd (upd zf3 (((p1 + 531) + (6 * p2)) + i0_3).toNatClampNeg 0) (fun zf5 => (fX9_clears_L0 p1 p2 n (i0_3 + 1) (zf5, x0.2.1, x0.2.2.1, x0.2.2.2.1, x0.2.2.2.2.1, x0.2.2.2.2.2.1, x0.2.2.2.2.2.2.1, x0.2.2.2.2.2.2.2.1, x0.2.2.2.2.2.2.2.2.1, x0.2.2.2.2.2.2.2.2.2.1, x0.2.2.2.2.2.2.2.2.2.2)))) else none))) else none))
def fX9_clears (x : MD) (p1 : Int32) (p2 : Int32) : Option (MD) := ((fX9_clears_L0 p1 p2 1000 0 x).bind (fun zq6 => some zq6))
abbrev rm_X9_clears : Jvm.Room := { frames := 0, cells := 0, slots := 0, locals := 0 }
theorem hd_X9_clears : yX9_clears.cls = RX9 ∧ yX9_clears.cls ≠ "java/lang/invoke/MethodHandle" ∧ yX9_clears.cls ≠ "java/lang/invoke/VarHandle" ∧ (parseMethodDescriptor yX9_clears.desc).map (fun d => d.parameters.length) = some 2 := by decide +kernel
set_option maxHeartbeats 4000000 in
set_option maxRecDepth 100000 in
theorem kX9_clears (l : Launch) (g : CX) (h0 h1 h2 h3 : Nat) (sz : Nat) (x : MD) (p1 : Int32) (p2 : Int32) (res : MD) (hm0 : fX9_clears x p1 p2 = some res) : Met l yX9_clears (wg yX9_clears cX9_clears 4 none) rm_X9_clears (PW g [.ref h0, .int p1, .int p2] sz (w_X9 g h0 h1 h2 h3 x)) (va_Qv (fun u => u = res) (fun u t => va_P g.1 vwCl (w_X9 g h0 h1 h2 h3 u) t.heap) (va_A (w_X9 g h0 h1 h2 h3 x) sz)) 0 0 (va_A (w_X9 g h0 h1 h2 h3 x) sz) := by
  refine Met.ofW (cc := cX9_clears) (maxL := 4) (ret := none) (by decide) rfl ?_
  intro p e s m args below meth c s₁ B hml hv
  obtain ⟨rfl, hsz, hP, hK, hD0, hL⟩ := hv
  have hx := B.exec
  have hb := B.bytes
  have hr := B.returns
  have htG := wg_G (atoms_spec (ws := wg yX9_clears cX9_clears 4 none) B.pre)
  have hown : s.vm.findClass RX9 = some m.cls := findClass_of_methodNamed B.named
  have hlocks := B.notSynchronized
  subst hsz
  have hD := hD0.self (sz := s.heap.size)
  generalize hAe : va_A (w_X9 g h0 h1 h2 h3 x) s.heap.size = A at hD hL ⊢
  have hA : ∀ q : Nat, s.heap.size ≤ q → A q := fun q h => by rw [← hAe]; exact Or.inr h
  have hS : va_S A s.heap s.heap [] := va_S.rf
  have hl := lv_entry ([.ref h0, .int p1, .int p2]) (n := 4) (Nat.le_of_ble_eq_true rfl)
  rw [lg_entry_eq]
  generalize (lg_sl ([.ref h0, .int p1, .int p2]) ++ List.replicate (4 - (lg_sl ([.ref h0, .int p1, .int p2])).length) Slot.unset).toArray = ls at hl ⊢
  have hl : lv_has ls 4 [(0, .ref h0), (1, .int p1), (2, .int p2)] := hl
  have hm := hm0
  unfold fX9_clears at hm
  have hL0 : ∀ (Q : State → Prop), ∀ (n : Nat) (i0_3 : Int32) (x0 : MD) (out : MD) (H : Heap) (locs : List Loc) (ls : Array Slot), fX9_clears_L0 p1 p2 n i0_3 x0 = some out → va_P g.1 vwCl (w_X9 g h0 h1 h2 h3 x0) H → va_D A (w_X9 g h0 h1 h2 h3 x0) → va_S A s.heap H locs → lv_has ls 4 [(0, .ref h0), (1, .int p1), (2, .int p2), (3, .int i0_3)] → (∀ (H : Heap) (locs : List Loc) (ls : Array Slot), va_P g.1 vwCl (w_X9 g h0 h1 h2 h3 out) H → va_D A (w_X9 g h0 h1 h2 h3 out) → va_S A s.heap H locs → lv_has ls 4 [] → W p l e (headSpec (wg yX9_clears cX9_clears 4 none) rm_X9_clears).room s m (([.ref h0, .int p1, .int p2] : List Value).toArray) below meth c H locs 0 0 Q (F0 m 50 ls [])) → W p l e (headSpec (wg yX9_clears cX9_clears 4 none) rm_X9_clears).room s m (([.ref h0, .int p1, .int p2] : List Value).toArray) below meth c H locs 0 0 Q (F0 m 2 ls []) := by
    intro Q n
    induction n with
    | zero =>
      intro i0_3 x0 out H locs ls hm hP hD hS hl hk
      simp [fX9_clears_L0] at hm
    | succ n ih =>
      intro i0_3 x0 out H locs ls hm hP hD hS hl hk
      rw [fX9_clears_L0] at hm
      refine lv_iload_n hx hb dX9_clears_2 rfl (lv_at hl 3 rfl) ?_
      refine lv_bipush (v := 6) hx hb dX9_clears_3 (by decide +kernel) ?_
      refine lv_icmp_ge (tgt := 50) hx hb dX9_clears_5 (by decide) (fun zc1 => ?_) (fun zc1 => ?_)
      · replace hm := (if_pos zc1).symm.trans hm
        obtain rfl := Option.some.inj hm
        exact hk H locs ls hP hD hS (lv_sub hl [] rfl)
      · replace hm := (if_neg zc1).symm.trans hm
        refine lv_aload_n hx hb dX9_clears_8 rfl (lv_at hl 0 rfl) ?_
        refine va_get (D := g.1) (ci := 8) (v := .ref h1) (C := RX9) (T := TX9) (N := 11) hx hb htG in_wsX90 hown hK.1 hP 0 rfl rfl 0 (by decide) (htG _ g3_195) (fun _ h9 => h9) rfl dX9_clears_9 ?_
        refine lv_iload_n hx hb dX9_clears_12 rfl (lv_at hl 1 rfl) ?_
        refine lv_sipush (v := 243) hx hb dX9_clears_13 (by decide +kernel) ?_
        refine lv_iadd hx hb dX9_clears_16 ?_
        refine lv_bipush (v := 6) hx hb dX9_clears_17 (by decide +kernel) ?_
        refine lv_iload_n hx hb dX9_clears_19 rfl (lv_at hl 2 rfl) ?_
        refine lv_imul hx hb dX9_clears_20 ?_
        refine lv_iadd hx hb dX9_clears_21 ?_
        refine lv_iload_n hx hb dX9_clears_22 rfl (lv_at hl 3 rfl) ?_
        refine lv_iadd hx hb dX9_clears_23 ?_
        refine lv_iconst (v := 0) hx hb dX9_clears_24 (by decide) ?_
        obtain ⟨zb2, hm⟩ := ibk hm
        obtain ⟨zf3, ezf3, hm⟩ := bnk hm
        refine iast_e hx hb hK.1 hP hD hS 1 0 rfl rfl zb2 dX9_clears_25 ezf3 (fun H locs hP hD hS => ?_)
        have hP : va_P g.1 vwCl (w_X9 g h0 h1 h2 h3 (zf3, x0.2.1, x0.2.2.1, x0.2.2.2.1, x0.2.2.2.2.1, x0.2.2.2.2.2.1, x0.2.2.2.2.2.2.1, x0.2.2.2.2.2.2.2.1, x0.2.2.2.2.2.2.2.2.1, x0.2.2.2.2.2.2.2.2.2.1, x0.2.2.2.2.2.2.2.2.2.2)) H := hP
        have hD : va_D A (w_X9 g h0 h1 h2 h3 (zf3, x0.2.1, x0.2.2.1, x0.2.2.2.1, x0.2.2.2.2.1, x0.2.2.2.2.2.1, x0.2.2.2.2.2.2.1, x0.2.2.2.2.2.2.2.1, x0.2.2.2.2.2.2.2.2.1, x0.2.2.2.2.2.2.2.2.2.1, x0.2.2.2.2.2.2.2.2.2.2)) := hD
        refine lv_aload_n hx hb dX9_clears_26 rfl (lv_at hl 0 rfl) ?_
        refine va_get (D := g.1) (ci := 8) (v := .ref h1) (C := RX9) (T := TX9) (N := 11) hx hb htG in_wsX90 hown hK.1 hP 0 rfl rfl 0 (by decide) (htG _ g3_195) (fun _ h9 => h9) rfl dX9_clears_27 ?_
        refine lv_iload_n hx hb dX9_clears_30 rfl (lv_at hl 1 rfl) ?_
        refine lv_sipush (v := 531) hx hb dX9_clears_31 (by decide +kernel) ?_
        refine lv_iadd hx hb dX9_clears_34 ?_
        refine lv_bipush (v := 6) hx hb dX9_clears_35 (by decide +kernel) ?_
        refine lv_iload_n hx hb dX9_clears_37 rfl (lv_at hl 2 rfl) ?_
        refine lv_imul hx hb dX9_clears_38 ?_
        refine lv_iadd hx hb dX9_clears_39 ?_
        refine lv_iload_n hx hb dX9_clears_40 rfl (lv_at hl 3 rfl) ?_
        refine lv_iadd hx hb dX9_clears_41 ?_
        refine lv_iconst (v := 0) hx hb dX9_clears_42 (by decide) ?_
        obtain ⟨zb4, hm⟩ := ibk hm
        obtain ⟨zf5, ezf5, hm⟩ := bnk hm
        refine iast_e hx hb hK.1 hP hD hS 1 0 rfl rfl zb4 dX9_clears_43 ezf5 (fun H locs hP hD hS => ?_)
        have hP : va_P g.1 vwCl (w_X9 g h0 h1 h2 h3 (zf5, x0.2.1, x0.2.2.1, x0.2.2.2.1, x0.2.2.2.2.1, x0.2.2.2.2.2.1, x0.2.2.2.2.2.2.1, x0.2.2.2.2.2.2.2.1, x0.2.2.2.2.2.2.2.2.1, x0.2.2.2.2.2.2.2.2.2.1, x0.2.2.2.2.2.2.2.2.2.2)) H := hP
        have hD : va_D A (w_X9 g h0 h1 h2 h3 (zf5, x0.2.1, x0.2.2.1, x0.2.2.2.1, x0.2.2.2.2.1, x0.2.2.2.2.2.1, x0.2.2.2.2.2.2.1, x0.2.2.2.2.2.2.2.1, x0.2.2.2.2.2.2.2.2.1, x0.2.2.2.2.2.2.2.2.2.1, x0.2.2.2.2.2.2.2.2.2.2)) := hD
        refine lv_iinc (v := i0_3 + 1) (lv' := [(3, .int (i0_3 + 1)), (0, .ref h0), (1, .int p1), (2, .int p2)]) hx hb dX9_clears_44 hl (k := 3) rfl rfl (by decide) rfl (fun ls hl => ?_)
        refine lv_goto (tgt := 2) hx hb dX9_clears_47 (by decide) ?_
        exact ih (i0_3 + 1) (zf5, x0.2.1, x0.2.2.1, x0.2.2.2.1, x0.2.2.2.2.1, x0.2.2.2.2.2.1, x0.2.2.2.2.2.2.1, x0.2.2.2.2.2.2.2.1, x0.2.2.2.2.2.2.2.2.1, x0.2.2.2.2.2.2.2.2.2.1, x0.2.2.2.2.2.2.2.2.2.2) out H locs ls hm hP hD hS (lv_sub hl [1, 2, 3, 0] rfl) hk
  refine lv_iconst (v := 0) hx hb dX9_clears_0 (by decide) ?_
  refine lv_istore_n (lv' := [(3, .int 0), (0, .ref h0), (1, .int p1), (2, .int p2)]) hx hb dX9_clears_1 rfl hl (by decide) rfl (fun ls hl => ?_)
  obtain ⟨zq6, hzq6, hm⟩ := bdk hm
  refine hL0 _ 1000 0 x zq6 _ _ _ hzq6 hP hD hS (lv_sub hl [1, 2, 3, 0] rfl) (fun H locs ls hP hD hS hl => ?_)
  exact W.vret hx hb hr (fun t ht hW => ⟨⟨_, rfl, (Option.some.inj hm), atH ht hP⟩, hS.F ht⟩) hS.2.2 dX9_clears_50
def fX9_empties_L1 (p1 : Int32) : Nat → Int32 → MD → Option (MD)
  | 0, _, _ => none
  | n + 1, i1_3, x1 => (if 48 ≤ i1_3 then (some x1) else (if ib (((835 * p1) + 51) + i1_3) 5845 = true then (bnd (upd x1.1 (((835 * p1) + 51) + i1_3).toNatClampNeg (-1)) (fun zf11 => (if ib (((835 * p1) + 99) + i1_3) 5845 = true then (bnd (upd zf11 (((835 * p1) + 99) + i1_3).toNatClampNeg 0) (fun zf13 => (if ib (((835 * p1) + 147) + i1_3) 5845 = true then (bnd (upd zf13 (((835 * p1) + 147) + i1_3).toNatClampNeg 0) (fun zf15 => (if ib (((835 * p1) + 195) + i1_3) 5845 = true then (bnd (upd zf15 (((835 * p1) + 195) + i1_3).toNatClampNeg (-1)) (fun zf17 => ((fX9_clears (zf17, x1.2.1, x1.2.2.1, x1.2.2.2.1, x1.2.2.2.2.1, x1.2.2.2.2.2.1, x1.2.2.2.2.2.2.1, x1.2.2.2.2.2.2.2.1, x1.2.2.2.2.2.2.2.2.1, x1.2.2.2.2.2.2.2.2.2.1, x1.2.2.2.2.2.2.2.2.2.2) (835 * p1) i1_3).bind (fun zq18 => (fX9_empties_L1 p1 n (i1_3 + 1) zq18))))) else none))) else none))) else none))) else none))
def fX9_empties_L0 (p1 : Int32) : Nat → Int32 → MD → Option (MD)
  | 0, _, _ => none
  | n + 1, i0_3, x0 => (if 16 ≤ i0_3 then (some x0) else (if ib (((835 * p1) + 35) + i0_3) 5845 = true then (bnd (upd x0.1 (((835 * p1) + 35) + i0_3).toNatClampNeg 20) (fun zf5 => (if ib (((835 * p1) + 819) + i0_3) 5845 = true then (bnd (upd zf5 (((835 * p1) + 819) + i0_3).toNatClampNeg 0) (fun zf7 => (fX9_empties_L0 p1 n (i0_3 + 1) (zf7, x0.2.1, x0.2.2.1, x0.2.2.2.1, x0.2.2.2.2.1, x0.2.2.2.2.2.1, x0.2.2.2.2.2.2.1, x0.2.2.2.2.2.2.2.1, x0.2.2.2.2.2.2.2.2.1, x0.2.2.2.2.2.2.2.2.2.1, x0.2.2.2.2.2.2.2.2.2.2)))) else none))) else none))
def fX9_empties (x : MD) (p1 : Int32) : Option (MD) := (if ib ((835 * p1) + 1) 5845 = true then (bnd (upd x.1 ((835 * p1) + 1).toNatClampNeg 0) (fun zf2 => ((fX9_empties_L0 p1 1000 0 (zf2, x.2.1, x.2.2.1, x.2.2.2.1, x.2.2.2.2.1, x.2.2.2.2.2.1, x.2.2.2.2.2.2.1, x.2.2.2.2.2.2.2.1, x.2.2.2.2.2.2.2.2.1, x.2.2.2.2.2.2.2.2.2.1, x.2.2.2.2.2.2.2.2.2.2)).bind (fun zq8 => ((fX9_empties_L1 p1 1000 0 zq8).bind (fun zq19 => some zq19)))))) else none)
abbrev rm_X9_empties : Jvm.Room := { frames := 1, cells := 0, slots := 0, locals := 23 }
theorem hd_X9_empties : yX9_empties.cls = RX9 ∧ yX9_empties.cls ≠ "java/lang/invoke/MethodHandle" ∧ yX9_empties.cls ≠ "java/lang/invoke/VarHandle" ∧ (parseMethodDescriptor yX9_empties.desc).map (fun d => d.parameters.length) = some 1 := by decide +kernel
set_option maxHeartbeats 4000000 in
set_option maxRecDepth 100000 in
theorem kX9_empties (l : Launch) (g : CX) (h0 h1 h2 h3 : Nat) (sz : Nat) (x : MD) (p1 : Int32) (res : MD) (hm0 : fX9_empties x p1 = some res) : Met l yX9_empties (wg yX9_empties cX9_empties 4 none) rm_X9_empties (PW g [.ref h0, .int p1] sz (w_X9 g h0 h1 h2 h3 x)) (va_Qv (fun u => u = res) (fun u t => va_P g.1 vwCl (w_X9 g h0 h1 h2 h3 u) t.heap) (va_A (w_X9 g h0 h1 h2 h3 x) sz)) 0 0 (va_A (w_X9 g h0 h1 h2 h3 x) sz) := by
  refine Met.ofW (cc := cX9_empties) (maxL := 4) (ret := none) (by decide) rfl ?_
  intro p e s m args below meth c s₁ B hml hv
  obtain ⟨rfl, hsz, hP, hK, hD0, hL⟩ := hv
  have hx := B.exec
  have hb := B.bytes
  have hr := B.returns
  have htG := wg_G (atoms_spec (ws := wg yX9_empties cX9_empties 4 none) B.pre)
  have hown : s.vm.findClass RX9 = some m.cls := findClass_of_methodNamed B.named
  have hlocks := B.notSynchronized
  subst hsz
  have hD := hD0.self (sz := s.heap.size)
  generalize hAe : va_A (w_X9 g h0 h1 h2 h3 x) s.heap.size = A at hD hL ⊢
  have hA : ∀ q : Nat, s.heap.size ≤ q → A q := fun q h => by rw [← hAe]; exact Or.inr h
  have hS : va_S A s.heap s.heap [] := va_S.rf
  have hl := lv_entry ([.ref h0, .int p1]) (n := 4) (Nat.le_of_ble_eq_true rfl)
  rw [lg_entry_eq]
  generalize (lg_sl ([.ref h0, .int p1]) ++ List.replicate (4 - (lg_sl ([.ref h0, .int p1])).length) Slot.unset).toArray = ls at hl ⊢
  have hl : lv_has ls 4 [(0, .ref h0), (1, .int p1)] := hl
  have hm := hm0
  unfold fX9_empties at hm
  have hL0 : ∀ (Q : State → Prop), ∀ (n : Nat) (i0_3 : Int32) (x0 : MD) (out : MD) (H : Heap) (locs : List Loc) (ls : Array Slot), fX9_empties_L0 p1 n i0_3 x0 = some out → va_P g.1 vwCl (w_X9 g h0 h1 h2 h3 x0) H → va_D A (w_X9 g h0 h1 h2 h3 x0) → va_S A s.heap H locs → lv_has ls 4 [(0, .ref h0), (2, .int (835 * p1)), (3, .int i0_3)] → (∀ (H : Heap) (locs : List Loc) (ls : Array Slot), va_P g.1 vwCl (w_X9 g h0 h1 h2 h3 out) H → va_D A (w_X9 g h0 h1 h2 h3 out) → va_S A s.heap H locs → lv_has ls 4 [(0, .ref h0), (2, .int (835 * p1))] → W p l e (headSpec (wg yX9_empties cX9_empties 4 none) rm_X9_empties).room s m (([.ref h0, .int p1] : List Value).toArray) below meth c H locs 0 0 Q (F0 m 55 ls [])) → W p l e (headSpec (wg yX9_empties cX9_empties 4 none) rm_X9_empties).room s m (([.ref h0, .int p1] : List Value).toArray) below meth c H locs 0 0 Q (F0 m 17 ls []) := by
    intro Q n
    induction n with
    | zero =>
      intro i0_3 x0 out H locs ls hm hP hD hS hl hk
      simp [fX9_empties_L0] at hm
    | succ n ih =>
      intro i0_3 x0 out H locs ls hm hP hD hS hl hk
      rw [fX9_empties_L0] at hm
      refine lv_iload_n hx hb dX9_empties_17 rfl (lv_at hl 2 rfl) ?_
      refine lv_bipush (v := 16) hx hb dX9_empties_18 (by decide +kernel) ?_
      refine lv_icmp_ge (tgt := 55) hx hb dX9_empties_20 (by decide) (fun zc3 => ?_) (fun zc3 => ?_)
      · replace hm := (if_pos zc3).symm.trans hm
        obtain rfl := Option.some.inj hm
        exact hk H locs ls hP hD hS (lv_sub hl [0, 1] rfl)
      · replace hm := (if_neg zc3).symm.trans hm
        refine lv_aload_n hx hb dX9_empties_23 rfl (lv_at hl 0 rfl) ?_
        refine va_get (D := g.1) (ci := 8) (v := .ref h1) (C := RX9) (T := TX9) (N := 11) hx hb htG in_wsX90 hown hK.1 hP 0 rfl rfl 0 (by decide) (htG _ g3_195) (fun _ h9 => h9) rfl dX9_empties_24 ?_
        refine lv_iload_n hx hb dX9_empties_27 rfl (lv_at hl 1 rfl) ?_
        refine lv_bipush (v := 35) hx hb dX9_empties_28 (by decide +kernel) ?_
        refine lv_iadd hx hb dX9_empties_30 ?_
        refine lv_iload_n hx hb dX9_empties_31 rfl (lv_at hl 2 rfl) ?_
        refine lv_iadd hx hb dX9_empties_32 ?_
        refine lv_bipush (v := 20) hx hb dX9_empties_33 (by decide +kernel) ?_
        obtain ⟨zb4, hm⟩ := ibk hm
        obtain ⟨zf5, ezf5, hm⟩ := bnk hm
        refine iast_e hx hb hK.1 hP hD hS 1 0 rfl rfl zb4 dX9_empties_35 ezf5 (fun H locs hP hD hS => ?_)
        have hP : va_P g.1 vwCl (w_X9 g h0 h1 h2 h3 (zf5, x0.2.1, x0.2.2.1, x0.2.2.2.1, x0.2.2.2.2.1, x0.2.2.2.2.2.1, x0.2.2.2.2.2.2.1, x0.2.2.2.2.2.2.2.1, x0.2.2.2.2.2.2.2.2.1, x0.2.2.2.2.2.2.2.2.2.1, x0.2.2.2.2.2.2.2.2.2.2)) H := hP
        have hD : va_D A (w_X9 g h0 h1 h2 h3 (zf5, x0.2.1, x0.2.2.1, x0.2.2.2.1, x0.2.2.2.2.1, x0.2.2.2.2.2.1, x0.2.2.2.2.2.2.1, x0.2.2.2.2.2.2.2.1, x0.2.2.2.2.2.2.2.2.1, x0.2.2.2.2.2.2.2.2.2.1, x0.2.2.2.2.2.2.2.2.2.2)) := hD
        refine lv_aload_n hx hb dX9_empties_36 rfl (lv_at hl 0 rfl) ?_
        refine va_get (D := g.1) (ci := 8) (v := .ref h1) (C := RX9) (T := TX9) (N := 11) hx hb htG in_wsX90 hown hK.1 hP 0 rfl rfl 0 (by decide) (htG _ g3_195) (fun _ h9 => h9) rfl dX9_empties_37 ?_
        refine lv_iload_n hx hb dX9_empties_40 rfl (lv_at hl 1 rfl) ?_
        refine lv_sipush (v := 819) hx hb dX9_empties_41 (by decide +kernel) ?_
        refine lv_iadd hx hb dX9_empties_44 ?_
        refine lv_iload_n hx hb dX9_empties_45 rfl (lv_at hl 2 rfl) ?_
        refine lv_iadd hx hb dX9_empties_46 ?_
        refine lv_iconst (v := 0) hx hb dX9_empties_47 (by decide) ?_
        obtain ⟨zb6, hm⟩ := ibk hm
        obtain ⟨zf7, ezf7, hm⟩ := bnk hm
        refine iast_e hx hb hK.1 hP hD hS 1 0 rfl rfl zb6 dX9_empties_48 ezf7 (fun H locs hP hD hS => ?_)
        have hP : va_P g.1 vwCl (w_X9 g h0 h1 h2 h3 (zf7, x0.2.1, x0.2.2.1, x0.2.2.2.1, x0.2.2.2.2.1, x0.2.2.2.2.2.1, x0.2.2.2.2.2.2.1, x0.2.2.2.2.2.2.2.1, x0.2.2.2.2.2.2.2.2.1, x0.2.2.2.2.2.2.2.2.2.1, x0.2.2.2.2.2.2.2.2.2.2)) H := hP
        have hD : va_D A (w_X9 g h0 h1 h2 h3 (zf7, x0.2.1, x0.2.2.1, x0.2.2.2.1, x0.2.2.2.2.1, x0.2.2.2.2.2.1, x0.2.2.2.2.2.2.1, x0.2.2.2.2.2.2.2.1, x0.2.2.2.2.2.2.2.2.1, x0.2.2.2.2.2.2.2.2.2.1, x0.2.2.2.2.2.2.2.2.2.2)) := hD
        refine lv_iinc (v := i0_3 + 1) (lv' := [(3, .int (i0_3 + 1)), (0, .ref h0), (2, .int (835 * p1))]) hx hb dX9_empties_49 hl (k := 2) rfl rfl (by decide) rfl (fun ls hl => ?_)
        refine lv_goto (tgt := 17) hx hb dX9_empties_52 (by decide) ?_
        exact ih (i0_3 + 1) (zf7, x0.2.1, x0.2.2.1, x0.2.2.2.1, x0.2.2.2.2.1, x0.2.2.2.2.2.1, x0.2.2.2.2.2.2.1, x0.2.2.2.2.2.2.2.1, x0.2.2.2.2.2.2.2.2.1, x0.2.2.2.2.2.2.2.2.2.1, x0.2.2.2.2.2.2.2.2.2.2) out H locs ls hm hP hD hS (lv_sub hl [1, 2, 0] rfl) hk
  have hL1 : ∀ (Q : State → Prop), ∀ (n : Nat) (i1_3 : Int32) (x1 : MD) (out : MD) (H : Heap) (locs : List Loc) (ls : Array Slot), fX9_empties_L1 p1 n i1_3 x1 = some out → va_P g.1 vwCl (w_X9 g h0 h1 h2 h3 x1) H → va_D A (w_X9 g h0 h1 h2 h3 x1) → va_S A s.heap H locs → lv_has ls 4 [(0, .ref h0), (2, .int (835 * p1)), (3, .int i1_3)] → (∀ (H : Heap) (locs : List Loc) (ls : Array Slot), va_P g.1 vwCl (w_X9 g h0 h1 h2 h3 out) H → va_D A (w_X9 g h0 h1 h2 h3 out) → va_S A s.heap H locs → lv_has ls 4 [] → W p l e (headSpec (wg yX9_empties cX9_empties 4 none) rm_X9_empties).room s m (([.ref h0, .int p1] : List Value).toArray) below meth c H locs 0 0 Q (F0 m 125 ls [])) → W p l e (headSpec (wg yX9_empties cX9_empties 4 none) rm_X9_empties).room s m (([.ref h0, .int p1] : List Value).toArray) below meth c H locs 0 0 Q (F0 m 57 ls []) := by
    intro Q n
    induction n with
    | zero =>
      intro i1_3 x1 out H locs ls hm hP hD hS hl hk
      simp [fX9_empties_L1] at hm
    | succ n ih =>
      intro i1_3 x1 out H locs ls hm hP hD hS hl hk
      rw [fX9_empties_L1] at hm
      refine lv_iload_n hx hb dX9_empties_57 rfl (lv_at hl 2 rfl) ?_
      refine lv_bipush (v := 48) hx hb dX9_empties_58 (by decide +kernel) ?_
      refine lv_icmp_ge (tgt := 125) hx hb dX9_empties_60 (by decide) (fun zc9 => ?_) (fun zc9 => ?_)
      · replace hm := (if_pos zc9).symm.trans hm
        obtain rfl := Option.some.inj hm
        exact hk H locs ls hP hD hS (lv_sub hl [] rfl)
      · replace hm := (if_neg zc9).symm.trans hm
        refine lv_aload_n hx hb dX9_empties_63 rfl (lv_at hl 0 rfl) ?_
        refine va_get (D := g.1) (ci := 8) (v := .ref h1) (C := RX9) (T := TX9) (N := 11) hx hb htG in_wsX90 hown hK.1 hP 0 rfl rfl 0 (by decide) (htG _ g3_195) (fun _ h9 => h9) rfl dX9_empties_64 ?_
        refine lv_iload_n hx hb dX9_empties_67 rfl (lv_at hl 1 rfl) ?_
        refine lv_bipush (v := 51) hx hb dX9_empties_68 (by decide +kernel) ?_
        refine lv_iadd hx hb dX9_empties_70 ?_
        refine lv_iload_n hx hb dX9_empties_71 rfl (lv_at hl 2 rfl) ?_
        refine lv_iadd hx hb dX9_empties_72 ?_
        refine lv_iconst (v := (-1)) hx hb dX9_empties_73 (by decide) ?_
        obtain ⟨zb10, hm⟩ := ibk hm
        obtain ⟨zf11, ezf11, hm⟩ := bnk hm
        refine iast_e hx hb hK.1 hP hD hS 1 0 rfl rfl zb10 dX9_empties_74 ezf11 (fun H locs hP hD hS => ?_)
        have hP : va_P g.1 vwCl (w_X9 g h0 h1 h2 h3 (zf11, x1.2.1, x1.2.2.1, x1.2.2.2.1, x1.2.2.2.2.1, x1.2.2.2.2.2.1, x1.2.2.2.2.2.2.1, x1.2.2.2.2.2.2.2.1, x1.2.2.2.2.2.2.2.2.1, x1.2.2.2.2.2.2.2.2.2.1, x1.2.2.2.2.2.2.2.2.2.2)) H := hP
        have hD : va_D A (w_X9 g h0 h1 h2 h3 (zf11, x1.2.1, x1.2.2.1, x1.2.2.2.1, x1.2.2.2.2.1, x1.2.2.2.2.2.1, x1.2.2.2.2.2.2.1, x1.2.2.2.2.2.2.2.1, x1.2.2.2.2.2.2.2.2.1, x1.2.2.2.2.2.2.2.2.2.1, x1.2.2.2.2.2.2.2.2.2.2)) := hD
        refine lv_aload_n hx hb dX9_empties_75 rfl (lv_at hl 0 rfl) ?_
        refine va_get (D := g.1) (ci := 8) (v := .ref h1) (C := RX9) (T := TX9) (N := 11) hx hb htG in_wsX90 hown hK.1 hP 0 rfl rfl 0 (by decide) (htG _ g3_195) (fun _ h9 => h9) rfl dX9_empties_76 ?_
        refine lv_iload_n hx hb dX9_empties_79 rfl (lv_at hl 1 rfl) ?_
        refine lv_bipush (v := 99) hx hb dX9_empties_80 (by decide +kernel) ?_
        refine lv_iadd hx hb dX9_empties_82 ?_
        refine lv_iload_n hx hb dX9_empties_83 rfl (lv_at hl 2 rfl) ?_
        refine lv_iadd hx hb dX9_empties_84 ?_
        refine lv_iconst (v := 0) hx hb dX9_empties_85 (by decide) ?_
        obtain ⟨zb12, hm⟩ := ibk hm
        obtain ⟨zf13, ezf13, hm⟩ := bnk hm
        refine iast_e hx hb hK.1 hP hD hS 1 0 rfl rfl zb12 dX9_empties_86 ezf13 (fun H locs hP hD hS => ?_)
        have hP : va_P g.1 vwCl (w_X9 g h0 h1 h2 h3 (zf13, x1.2.1, x1.2.2.1, x1.2.2.2.1, x1.2.2.2.2.1, x1.2.2.2.2.2.1, x1.2.2.2.2.2.2.1, x1.2.2.2.2.2.2.2.1, x1.2.2.2.2.2.2.2.2.1, x1.2.2.2.2.2.2.2.2.2.1, x1.2.2.2.2.2.2.2.2.2.2)) H := hP
        have hD : va_D A (w_X9 g h0 h1 h2 h3 (zf13, x1.2.1, x1.2.2.1, x1.2.2.2.1, x1.2.2.2.2.1, x1.2.2.2.2.2.1, x1.2.2.2.2.2.2.1, x1.2.2.2.2.2.2.2.1, x1.2.2.2.2.2.2.2.2.1, x1.2.2.2.2.2.2.2.2.2.1, x1.2.2.2.2.2.2.2.2.2.2)) := hD
        refine lv_aload_n hx hb dX9_empties_87 rfl (lv_at hl 0 rfl) ?_
        refine va_get (D := g.1) (ci := 8) (v := .ref h1) (C := RX9) (T := TX9) (N := 11) hx hb htG in_wsX90 hown hK.1 hP 0 rfl rfl 0 (by decide) (htG _ g3_195) (fun _ h9 => h9) rfl dX9_empties_88 ?_
        refine lv_iload_n hx hb dX9_empties_91 rfl (lv_at hl 1 rfl) ?_
        refine lv_sipush (v := 147) hx hb dX9_empties_92 (by decide +kernel) ?_
        refine lv_iadd hx hb dX9_empties_95 ?_
        refine lv_iload_n hx hb dX9_empties_96 rfl (lv_at hl 2 rfl) ?_
        refine lv_iadd hx hb dX9_empties_97 ?_
        refine lv_iconst (v := 0) hx hb dX9_empties_98 (by decide) ?_
        obtain ⟨zb14, hm⟩ := ibk hm
        obtain ⟨zf15, ezf15, hm⟩ := bnk hm
        refine iast_e hx hb hK.1 hP hD hS 1 0 rfl rfl zb14 dX9_empties_99 ezf15 (fun H locs hP hD hS => ?_)
        have hP : va_P g.1 vwCl (w_X9 g h0 h1 h2 h3 (zf15, x1.2.1, x1.2.2.1, x1.2.2.2.1, x1.2.2.2.2.1, x1.2.2.2.2.2.1, x1.2.2.2.2.2.2.1, x1.2.2.2.2.2.2.2.1, x1.2.2.2.2.2.2.2.2.1, x1.2.2.2.2.2.2.2.2.2.1, x1.2.2.2.2.2.2.2.2.2.2)) H := hP
        have hD : va_D A (w_X9 g h0 h1 h2 h3 (zf15, x1.2.1, x1.2.2.1, x1.2.2.2.1, x1.2.2.2.2.1, x1.2.2.2.2.2.1, x1.2.2.2.2.2.2.1, x1.2.2.2.2.2.2.2.1, x1.2.2.2.2.2.2.2.2.1, x1.2.2.2.2.2.2.2.2.2.1, x1.2.2.2.2.2.2.2.2.2.2)) := hD
        refine lv_aload_n hx hb dX9_empties_100 rfl (lv_at hl 0 rfl) ?_
        refine va_get (D := g.1) (ci := 8) (v := .ref h1) (C := RX9) (T := TX9) (N := 11) hx hb htG in_wsX90 hown hK.1 hP 0 rfl rfl 0 (by decide) (htG _ g3_195) (fun _ h9 => h9) rfl dX9_empties_101 ?_
        refine lv_iload_n hx hb dX9_empties_104 rfl (lv_at hl 1 rfl) ?_
        refine lv_sipush (v := 195) hx hb dX9_empties_105 (by decide +kernel) ?_
        refine lv_iadd hx hb dX9_empties_108 ?_
        refine lv_iload_n hx hb dX9_empties_109 rfl (lv_at hl 2 rfl) ?_
        refine lv_iadd hx hb dX9_empties_110 ?_
        refine lv_iconst (v := (-1)) hx hb dX9_empties_111 (by decide) ?_
        obtain ⟨zb16, hm⟩ := ibk hm
        obtain ⟨zf17, ezf17, hm⟩ := bnk hm
        refine iast_e hx hb hK.1 hP hD hS 1 0 rfl rfl zb16 dX9_empties_112 ezf17 (fun H locs hP hD hS => ?_)
        have hP : va_P g.1 vwCl (w_X9 g h0 h1 h2 h3 (zf17, x1.2.1, x1.2.2.1, x1.2.2.2.1, x1.2.2.2.2.1, x1.2.2.2.2.2.1, x1.2.2.2.2.2.2.1, x1.2.2.2.2.2.2.2.1, x1.2.2.2.2.2.2.2.2.1, x1.2.2.2.2.2.2.2.2.2.1, x1.2.2.2.2.2.2.2.2.2.2)) H := hP
        have hD : va_D A (w_X9 g h0 h1 h2 h3 (zf17, x1.2.1, x1.2.2.1, x1.2.2.2.1, x1.2.2.2.2.1, x1.2.2.2.2.2.1, x1.2.2.2.2.2.2.1, x1.2.2.2.2.2.2.2.1, x1.2.2.2.2.2.2.2.2.1, x1.2.2.2.2.2.2.2.2.2.1, x1.2.2.2.2.2.2.2.2.2.2)) := hD
        refine lv_aload_n hx hb dX9_empties_113 rfl (lv_at hl 0 rfl) ?_
        refine lv_iload_n hx hb dX9_empties_114 rfl (lv_at hl 1 rfl) ?_
        refine lv_iload_n hx hb dX9_empties_115 rfl (lv_at hl 2 rfl) ?_
        obtain ⟨zq18, hzq18, hm⟩ := bdk hm
        refine kw_veA (va_runV (As := [.int (835 * p1), .int i1_3]) (rest := []) ⟨hx, hb, hml, hown, htG⟩ (kX9_clears l g h0 h1 h2 h3 _ (zf17, x1.2.1, x1.2.2.1, x1.2.2.2.1, x1.2.2.2.2.1, x1.2.2.2.2.2.1, x1.2.2.2.2.2.2.1, x1.2.2.2.2.2.2.2.1, x1.2.2.2.2.2.2.2.2.1, x1.2.2.2.2.2.2.2.2.2.1, x1.2.2.2.2.2.2.2.2.2.2) (835 * p1) i1_3 _ hzq18) (cwV 2 htG (GV g3_191 g3_193 gS_9 g1_10 g3_194) rfl rfl rfl hd_X9_clears ⟨Nat.le_of_ble_eq_true rfl, Nat.le_of_ble_eq_true rfl⟩) (PW_VA hK hL hS hP hD hA (ci := 8) rfl 0 rfl) rfl rfl hl.1 rfl (lv_room (Nat.le_of_ble_eq_true rfl)) dX9_empties_116 ⟨Nat.zero_le _, Nat.zero_le _⟩) hD hS hA (fun _ => rfl) (fun H locs hP hD hS => ?_)
        have hP : va_P g.1 vwCl (w_X9 g h0 h1 h2 h3 zq18) H := hP
        have hD : va_D A (w_X9 g h0 h1 h2 h3 zq18) := hD
        refine lv_iinc (v := i1_3 + 1) (lv' := [(3, .int (i1_3 + 1)), (0, .ref h0), (2, .int (835 * p1))]) hx hb dX9_empties_119 hl (k := 2) rfl rfl (by decide) rfl (fun ls hl => ?_)
        refine lv_goto (tgt := 57) hx hb dX9_empties_122 (by decide) ?_
        exact ih (i1_3 + 1) zq18 out H locs ls hm hP hD hS (lv_sub hl [1, 2, 0] rfl) hk
  refine lv_sipush (v := 835) hx hb dX9_empties_0 (by decide +kernel) ?_
  refine lv_iload_n hx hb dX9_empties_3 rfl (lv_at hl 1 rfl) ?_
  refine lv_imul hx hb dX9_empties_4 ?_
  refine lv_istore_n (lv' := [(2, .int (835 * p1)), (0, .ref h0), (1, .int p1)]) hx hb dX9_empties_5 rfl hl (by decide) rfl (fun ls hl => ?_)
  refine lv_aload_n hx hb dX9_empties_6 rfl (lv_at hl 1 rfl) ?_
  refine va_get (D := g.1) (ci := 8) (v := .ref h1) (C := RX9) (T := TX9) (N := 11) hx hb htG in_wsX90 hown hK.1 hP 0 rfl rfl 0 (by decide) (htG _ g3_195) (fun _ h9 => h9) rfl dX9_empties_7 ?_
  refine lv_iload_n hx hb dX9_empties_10 rfl (lv_at hl 0 rfl) ?_
  refine lv_iconst (v := 1) hx hb dX9_empties_11 (by decide) ?_
  refine lv_iadd hx hb dX9_empties_12 ?_
  refine lv_iconst (v := 0) hx hb dX9_empties_13 (by decide) ?_
  obtain ⟨zb1, hm⟩ := ibk hm
  obtain ⟨zf2, ezf2, hm⟩ := bnk hm
  refine iast_e hx hb hK.1 hP hD hS 1 0 rfl rfl zb1 dX9_empties_14 ezf2 (fun H locs hP hD hS => ?_)
  have hP : va_P g.1 vwCl (w_X9 g h0 h1 h2 h3 (zf2, x.2.1, x.2.2.1, x.2.2.2.1, x.2.2.2.2.1, x.2.2.2.2.2.1, x.2.2.2.2.2.2.1, x.2.2.2.2.2.2.2.1, x.2.2.2.2.2.2.2.2.1, x.2.2.2.2.2.2.2.2.2.1, x.2.2.2.2.2.2.2.2.2.2)) H := hP
  have hD : va_D A (w_X9 g h0 h1 h2 h3 (zf2, x.2.1, x.2.2.1, x.2.2.2.1, x.2.2.2.2.1, x.2.2.2.2.2.1, x.2.2.2.2.2.2.1, x.2.2.2.2.2.2.2.1, x.2.2.2.2.2.2.2.2.1, x.2.2.2.2.2.2.2.2.2.1, x.2.2.2.2.2.2.2.2.2.2)) := hD
  refine lv_iconst (v := 0) hx hb dX9_empties_15 (by decide) ?_
  refine lv_istore_n (lv' := [(3, .int 0), (2, .int (835 * p1)), (0, .ref h0), (1, .int p1)]) hx hb dX9_empties_16 rfl hl (by decide) rfl (fun ls hl => ?_)
  obtain ⟨zq8, hzq8, hm⟩ := bdk hm
  refine hL0 _ 1000 0 (zf2, x.2.1, x.2.2.1, x.2.2.2.1, x.2.2.2.2.1, x.2.2.2.2.2.1, x.2.2.2.2.2.2.1, x.2.2.2.2.2.2.2.1, x.2.2.2.2.2.2.2.2.1, x.2.2.2.2.2.2.2.2.2.1, x.2.2.2.2.2.2.2.2.2.2) zq8 _ _ _ hzq8 hP hD hS (lv_sub hl [2, 1, 0] rfl) (fun H locs ls hP hD hS hl => ?_)
  refine lv_iconst (v := 0) hx hb dX9_empties_55 (by decide) ?_
  refine lv_istore_n (lv' := [(3, .int 0), (0, .ref h0), (2, .int (835 * p1))]) hx hb dX9_empties_56 rfl hl (by decide) rfl (fun ls hl => ?_)
  obtain ⟨zq19, hzq19, hm⟩ := bdk hm
  refine hL1 _ 1000 0 zq8 zq19 _ _ _ hzq19 hP hD hS (lv_sub hl [1, 2, 0] rfl) (fun H locs ls hP hD hS hl => ?_)
  exact W.vret hx hb hr (fun t ht hW => ⟨⟨_, rfl, (Option.some.inj hm), atH ht hP⟩, hS.F ht⟩) hS.2.2 dX9_empties_125
