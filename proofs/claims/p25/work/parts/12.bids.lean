def fX0_cellOf (p0 : Int32) (p1 : Int32) : Int32 := ((p0 * 48) + p1)
abbrev rm_X0_cellOf : Jvm.Room := { frames := 0, cells := 0, slots := 0, locals := 0 }
theorem hs_X0_cellOf : yX0_cellOf.cls ≠ "java/lang/invoke/MethodHandle" ∧ yX0_cellOf.cls ≠ "java/lang/invoke/VarHandle" ∧ (parseMethodDescriptor yX0_cellOf.desc).map (fun d => d.parameters.length) = some 2 := by decide +kernel
set_option maxHeartbeats 4000000 in
set_option maxRecDepth 100000 in
theorem kX0_cellOf (l : Launch) (g : CX) (p0 : Int32) (p1 : Int32) (res : Int32) (hm0 : fX0_cellOf p0 p1 = res) : Met l yX0_cellOf (wg yX0_cellOf cX0_cellOf 2 (some .int)) rm_X0_cellOf (PR g [.int p0, .int p1] ([])) (vp_Si (fun v => v = res)) 0 0 (fun _ => False) := by
  refine Met.ofW (cc := cX0_cellOf) (maxL := 2) (ret := (some .int)) (by decide) rfl ?_
  intro p e s m args below meth c s₁ B hml hv
  obtain ⟨rfl, hP, hK, hL⟩ := hv
  have hx := B.exec
  have hb := B.bytes
  have hr := B.returns
  have htG := wg_G (atoms_spec (ws := wg yX0_cellOf cX0_cellOf 2 (some .int)) B.pre)
  have hown : s.vm.findClass RX0 = some m.cls := findClass_of_methodNamed B.named
  have hlocks := B.notSynchronized
  have hS : va_S (fun _ => False) s.heap s.heap [] := va_S.rf
  have hl := lv_entry ([.int p0, .int p1]) (n := 2) (Nat.le_of_ble_eq_true rfl)
  rw [lg_entry_eq]
  generalize (lg_sl ([.int p0, .int p1]) ++ List.replicate (2 - (lg_sl ([.int p0, .int p1])).length) Slot.unset).toArray = ls at hl ⊢
  have hl : lv_has ls 2 [(0, .int p0), (1, .int p1)] := hl
  have hm := hm0
  unfold fX0_cellOf at hm
  refine lv_iload_n hx hb dX0_cellOf_0 rfl (lv_at hl 0 rfl) ?_
  refine lv_bipush (v := 48) hx hb dX0_cellOf_1 (by decide +kernel) ?_
  refine lv_imul hx hb dX0_cellOf_3 ?_
  refine lv_iload_n hx hb dX0_cellOf_4 rfl (lv_at hl 1 rfl) ?_
  refine lv_iadd hx hb dX0_cellOf_5 ?_
  exact W.iret (v := ((p0 * 48) + p1)) hx hb hr (fun t ht hW => ⟨_, rfl, hm, ht⟩) (fun _ h => nomatch h) dX0_cellOf_6
def fX0_offer (x : BD) (p1 : Int32) (p2 : Int32) : Int32 := (rat x.2 288 (fX0_cellOf p1 p2))
abbrev rm_X0_offer : Jvm.Room := { frames := 1, cells := 0, slots := 0, locals := 21 }
theorem hd_X0_offer : yX0_offer.cls = RX0 ∧ yX0_offer.cls ≠ "java/lang/invoke/MethodHandle" ∧ yX0_offer.cls ≠ "java/lang/invoke/VarHandle" ∧ (parseMethodDescriptor yX0_offer.desc).map (fun d => d.parameters.length) = some 2 := by decide +kernel
set_option maxHeartbeats 4000000 in
set_option maxRecDepth 100000 in
theorem kX0_offer (l : Launch) (g : CX) (h0 h1 h2 : Nat) (x : BD) (p1 : Int32) (p2 : Int32) (res : Int32) (hm0 : fX0_offer x p1 p2 = res) : Met l yX0_offer (wg yX0_offer cX0_offer 3 (some .int)) rm_X0_offer (PR g [.ref h0, .int p1, .int p2] (w_X0 g h0 h1 h2 x)) (vp_Si (fun v => v = res)) 0 0 (fun _ => False) := by
  refine Met.ofW (cc := cX0_offer) (maxL := 3) (ret := (some .int)) (by decide) rfl ?_
  intro p e s m args below meth c s₁ B hml hv
  obtain ⟨rfl, hP, hK, hL⟩ := hv
  have hx := B.exec
  have hb := B.bytes
  have hr := B.returns
  have htG := wg_G (atoms_spec (ws := wg yX0_offer cX0_offer 3 (some .int)) B.pre)
  have hown : s.vm.findClass RX0 = some m.cls := findClass_of_methodNamed B.named
  have hlocks := B.notSynchronized
  have hS : va_S (fun _ => False) s.heap s.heap [] := va_S.rf
  have hl := lv_entry ([.ref h0, .int p1, .int p2]) (n := 3) (Nat.le_of_ble_eq_true rfl)
  rw [lg_entry_eq]
  generalize (lg_sl ([.ref h0, .int p1, .int p2]) ++ List.replicate (3 - (lg_sl ([.ref h0, .int p1, .int p2])).length) Slot.unset).toArray = ls at hl ⊢
  have hl : lv_has ls 3 [(0, .ref h0), (1, .int p1), (2, .int p2)] := hl
  have hm := hm0
  unfold fX0_offer at hm
  refine lv_aload_n hx hb dX0_offer_0 rfl (lv_at hl 0 rfl) ?_
  refine va_get (D := g.1) (ci := 0) (v := .ref h2) (C := RX0) (T := TX0) (N := 2) hx hb htG in_wsX00 hown hK.1 hP 0 rfl rfl 1 (by decide) (htG _ g1_33) (fun _ h9 => h9) rfl dX0_offer_1 ?_
  refine lv_iload_n hx hb dX0_offer_4 rfl (lv_at hl 1 rfl) ?_
  refine lv_iload_n hx hb dX0_offer_5 rfl (lv_at hl 2 rfl) ?_
  refine ko_e (va_runS (As := [.int p1, .int p2]) (rest := [.ref h2]) ⟨hx, hb, hml, hown, htG⟩ (kX0_cellOf l g p1 p2 _ rfl) (va_cwS 2 htG (GS g2_138 g2_139 g1_3 g2_140) rfl rfl rfl hs_X0_cellOf ⟨Nat.le_of_ble_eq_true rfl, Nat.le_of_ble_eq_true rfl⟩) (PR_S hK hL hS hP [] rfl) rfl rfl hl.1 rfl (lv_room (Nat.le_of_ble_eq_true rfl)) dX0_offer_6 ⟨Nat.zero_le _, Nat.zero_le _⟩) ?_
  refine ko_e (va_runS (As := [.ref h2, .int (fX0_cellOf p1 p2)]) (rest := []) ⟨hx, hb, hml, hown, htG⟩ (kX4_at l g h2 x.2 288 (fX0_cellOf p1 p2) (by decide)) (va_cwS 2 htG (GS g2_141 g2_61 g1_5 g2_62) rfl rfl rfl hs_X4_at ⟨Nat.le_of_ble_eq_true rfl, Nat.le_of_ble_eq_true rfl⟩) (PT_S hK (va_T_of hK hP 2 rfl)) rfl rfl hl.1 rfl (lv_room (Nat.le_of_ble_eq_true rfl)) dX0_offer_9 ⟨Nat.zero_le _, Nat.zero_le _⟩) ?_
  exact W.iret (v := (rat x.2 288 (fX0_cellOf p1 p2))) hx hb hr (fun t ht hW => ⟨_, rfl, hm, ht⟩) (fun _ h => nomatch h) dX0_offer_12
def fX0_weight (x : BD) (p1 : Int32) (p2 : Int32) : Int32 := (rat x.1 288 (fX0_cellOf p1 p2))
abbrev rm_X0_weight : Jvm.Room := { frames := 1, cells := 0, slots := 0, locals := 21 }
theorem hd_X0_weight : yX0_weight.cls = RX0 ∧ yX0_weight.cls ≠ "java/lang/invoke/MethodHandle" ∧ yX0_weight.cls ≠ "java/lang/invoke/VarHandle" ∧ (parseMethodDescriptor yX0_weight.desc).map (fun d => d.parameters.length) = some 2 := by decide +kernel
set_option maxHeartbeats 4000000 in
set_option maxRecDepth 100000 in
theorem kX0_weight (l : Launch) (g : CX) (h0 h1 h2 : Nat) (x : BD) (p1 : Int32) (p2 : Int32) (res : Int32) (hm0 : fX0_weight x p1 p2 = res) : Met l yX0_weight (wg yX0_weight cX0_weight 3 (some .int)) rm_X0_weight (PR g [.ref h0, .int p1, .int p2] (w_X0 g h0 h1 h2 x)) (vp_Si (fun v => v = res)) 0 0 (fun _ => False) := by
  refine Met.ofW (cc := cX0_weight) (maxL := 3) (ret := (some .int)) (by decide) rfl ?_
  intro p e s m args below meth c s₁ B hml hv
  obtain ⟨rfl, hP, hK, hL⟩ := hv
  have hx := B.exec
  have hb := B.bytes
  have hr := B.returns
  have htG := wg_G (atoms_spec (ws := wg yX0_weight cX0_weight 3 (some .int)) B.pre)
  have hown : s.vm.findClass RX0 = some m.cls := findClass_of_methodNamed B.named
  have hlocks := B.notSynchronized
  have hS : va_S (fun _ => False) s.heap s.heap [] := va_S.rf
  have hl := lv_entry ([.ref h0, .int p1, .int p2]) (n := 3) (Nat.le_of_ble_eq_true rfl)
  rw [lg_entry_eq]
  generalize (lg_sl ([.ref h0, .int p1, .int p2]) ++ List.replicate (3 - (lg_sl ([.ref h0, .int p1, .int p2])).length) Slot.unset).toArray = ls at hl ⊢
  have hl : lv_has ls 3 [(0, .ref h0), (1, .int p1), (2, .int p2)] := hl
  have hm := hm0
  unfold fX0_weight at hm
  refine lv_aload_n hx hb dX0_weight_0 rfl (lv_at hl 0 rfl) ?_
  refine va_get (D := g.1) (ci := 0) (v := .ref h1) (C := RX0) (T := TX0) (N := 2) hx hb htG in_wsX00 hown hK.1 hP 0 rfl rfl 0 (by decide) (htG _ g1_32) (fun _ h9 => h9) rfl dX0_weight_1 ?_
  refine lv_iload_n hx hb dX0_weight_4 rfl (lv_at hl 1 rfl) ?_
  refine lv_iload_n hx hb dX0_weight_5 rfl (lv_at hl 2 rfl) ?_
  refine ko_e (va_runS (As := [.int p1, .int p2]) (rest := [.ref h1]) ⟨hx, hb, hml, hown, htG⟩ (kX0_cellOf l g p1 p2 _ rfl) (va_cwS 2 htG (GS g2_138 g2_139 g1_3 g2_140) rfl rfl rfl hs_X0_cellOf ⟨Nat.le_of_ble_eq_true rfl, Nat.le_of_ble_eq_true rfl⟩) (PR_S hK hL hS hP [] rfl) rfl rfl hl.1 rfl (lv_room (Nat.le_of_ble_eq_true rfl)) dX0_weight_6 ⟨Nat.zero_le _, Nat.zero_le _⟩) ?_
  refine ko_e (va_runS (As := [.ref h1, .int (fX0_cellOf p1 p2)]) (rest := []) ⟨hx, hb, hml, hown, htG⟩ (kX4_at l g h1 x.1 288 (fX0_cellOf p1 p2) (by decide)) (va_cwS 2 htG (GS g2_141 g2_61 g1_5 g2_62) rfl rfl rfl hs_X4_at ⟨Nat.le_of_ble_eq_true rfl, Nat.le_of_ble_eq_true rfl⟩) (PT_S hK (va_T_of hK hP 1 rfl)) rfl rfl hl.1 rfl (lv_room (Nat.le_of_ble_eq_true rfl)) dX0_weight_9 ⟨Nat.zero_le _, Nat.zero_le _⟩) ?_
  exact W.iret (v := (rat x.1 288 (fX0_cellOf p1 p2))) hx hb hr (fun t ht hW => ⟨_, rfl, hm, ht⟩) (fun _ h => nomatch h) dX0_weight_12
def fX0_copy (x : BD) (y : BD) : BD := (y.1, y.2)
abbrev rm_X0_copy : Jvm.Room := { frames := 2, cells := 0, slots := 0, locals := 61 }
theorem hd_X0_copy : yX0_copy.cls = RX0 ∧ yX0_copy.cls ≠ "java/lang/invoke/MethodHandle" ∧ yX0_copy.cls ≠ "java/lang/invoke/VarHandle" ∧ (parseMethodDescriptor yX0_copy.desc).map (fun d => d.parameters.length) = some 1 := by decide +kernel
set_option maxHeartbeats 4000000 in
set_option maxRecDepth 100000 in
theorem kX0_copy (l : Launch) (g : CX) (h0 h1 h2 : Nat) (k0 k1 k2 : Nat) (sz : Nat) (x : BD) (y : BD) (res : BD) (hm0 : fX0_copy x y = res) : Met l yX0_copy (wg yX0_copy cX0_copy 2 none) rm_X0_copy (PW g [.ref h0, .ref k0] sz ((w_X0 g h0 h1 h2 x) ++ (w_X0 g k0 k1 k2 y))) (va_Qv (fun u => u = res) (fun u t => va_P g.1 vwCl ((w_X0 g h0 h1 h2 u) ++ (w_X0 g k0 k1 k2 y)) t.heap) (va_A ((w_X0 g h0 h1 h2 x) ++ (w_X0 g k0 k1 k2 y)) sz)) 0 0 (va_A ((w_X0 g h0 h1 h2 x) ++ (w_X0 g k0 k1 k2 y)) sz) := by
  refine Met.ofW (cc := cX0_copy) (maxL := 2) (ret := none) (by decide) rfl ?_
  intro p e s m args below meth c s₁ B hml hv
  obtain ⟨rfl, hsz, hP, hK, hD0, hL⟩ := hv
  have hx := B.exec
  have hb := B.bytes
  have hr := B.returns
  have htG := wg_G (atoms_spec (ws := wg yX0_copy cX0_copy 2 none) B.pre)
  have hown : s.vm.findClass RX0 = some m.cls := findClass_of_methodNamed B.named
  have hlocks := B.notSynchronized
  subst hsz
  have hD := hD0.self (sz := s.heap.size)
  generalize hAe : va_A ((w_X0 g h0 h1 h2 x) ++ (w_X0 g k0 k1 k2 y)) s.heap.size = A at hD hL ⊢
  have hA : ∀ q : Nat, s.heap.size ≤ q → A q := fun q h => by rw [← hAe]; exact Or.inr h
  have hS : va_S A s.heap s.heap [] := va_S.rf
  have hl := lv_entry ([.ref h0, .ref k0]) (n := 2) (Nat.le_of_ble_eq_true rfl)
  rw [lg_entry_eq]
  generalize (lg_sl ([.ref h0, .ref k0]) ++ List.replicate (2 - (lg_sl ([.ref h0, .ref k0])).length) Slot.unset).toArray = ls at hl ⊢
  have hl : lv_has ls 2 [(0, .ref h0), (1, .ref k0)] := hl
  have hm := hm0
  unfold fX0_copy at hm
  refine lv_aload_n hx hb dX0_copy_0 rfl (lv_at hl 1 rfl) ?_
  refine va_get (D := g.1) (ci := 0) (v := .ref k1) (C := RX0) (T := TX0) (N := 2) hx hb htG in_wsX00 hown hK.1 hP 3 rfl rfl 0 (by decide) (htG _ g1_32) (fun _ h9 => h9) rfl dX0_copy_1 ?_
  refine lv_aload_n hx hb dX0_copy_4 rfl (lv_at hl 0 rfl) ?_
  refine va_get (D := g.1) (ci := 0) (v := .ref h1) (C := RX0) (T := TX0) (N := 2) hx hb htG in_wsX00 hown hK.1 hP 0 rfl rfl 0 (by decide) (htG _ g1_32) (fun _ h9 => h9) rfl dX0_copy_5 ?_
  refine kw_ve (va_runS (As := [.ref k1, .ref h1]) (rest := []) ⟨hx, hb, hml, hown, htG⟩ (kX4_copy l g k1 h1 _ y.1 x.1 288 (by decide)) (va_cwS 2 htG (GS g2_30 g2_18 g1_5 g2_19) rfl rfl rfl hs_X4_copy ⟨Nat.le_of_ble_eq_true rfl, Nat.le_of_ble_eq_true rfl⟩) (PW_S hK hL hS hP hD hA [4, 1] rfl rfl) rfl rfl hl.1 rfl (lv_room (Nat.le_of_ble_eq_true rfl)) dX0_copy_8 ⟨Nat.zero_le _, Nat.zero_le _⟩) hP hD hS hA [4, 1] rfl rfl (fun _ => rfl) (fun H locs hP hD hS => ?_)
  have hP : va_P g.1 vwCl ((w_X0 g h0 h1 h2 (y.1, x.2)) ++ (w_X0 g k0 k1 k2 y)) H := hP
  have hD : va_D A ((w_X0 g h0 h1 h2 (y.1, x.2)) ++ (w_X0 g k0 k1 k2 y)) := hD
  refine lv_aload_n hx hb dX0_copy_11 rfl (lv_at hl 1 rfl) ?_
  refine va_get (D := g.1) (ci := 0) (v := .ref k2) (C := RX0) (T := TX0) (N := 2) hx hb htG in_wsX00 hown hK.1 hP 3 rfl rfl 1 (by decide) (htG _ g1_33) (fun _ h9 => h9) rfl dX0_copy_12 ?_
  refine lv_aload_n hx hb dX0_copy_15 rfl (lv_at hl 0 rfl) ?_
  refine va_get (D := g.1) (ci := 0) (v := .ref h2) (C := RX0) (T := TX0) (N := 2) hx hb htG in_wsX00 hown hK.1 hP 0 rfl rfl 1 (by decide) (htG _ g1_33) (fun _ h9 => h9) rfl dX0_copy_16 ?_
  refine kw_ve (va_runS (As := [.ref k2, .ref h2]) (rest := []) ⟨hx, hb, hml, hown, htG⟩ (kX4_copy l g k2 h2 _ y.2 x.2 288 (by decide)) (va_cwS 2 htG (GS g2_30 g2_18 g1_5 g2_19) rfl rfl rfl hs_X4_copy ⟨Nat.le_of_ble_eq_true rfl, Nat.le_of_ble_eq_true rfl⟩) (PW_S hK hL hS hP hD hA [5, 2] rfl rfl) rfl rfl hl.1 rfl (lv_room (Nat.le_of_ble_eq_true rfl)) dX0_copy_19 ⟨Nat.zero_le _, Nat.zero_le _⟩) hP hD hS hA [5, 2] rfl rfl (fun _ => rfl) (fun H locs hP hD hS => ?_)
  have hP : va_P g.1 vwCl ((w_X0 g h0 h1 h2 (y.1, y.2)) ++ (w_X0 g k0 k1 k2 y)) H := hP
  have hD : va_D A ((w_X0 g h0 h1 h2 (y.1, y.2)) ++ (w_X0 g k0 k1 k2 y)) := hD
  exact W.vret hx hb hr (fun t ht hW => ⟨⟨_, rfl, hm, atH ht hP⟩, hS.F ht⟩) hS.2.2 dX0_copy_22
def fX0_set (x : BD) (p1 : Int32) (p2 : Int32) (p3 : Int32) (p4 : Int32) : BD := ((rput x.1 288 (fX0_cellOf p1 p2) p3), (rput x.2 288 (fX0_cellOf p1 p2) p4))
abbrev rm_X0_set : Jvm.Room := { frames := 1, cells := 0, slots := 0, locals := 22 }
theorem hd_X0_set : yX0_set.cls = RX0 ∧ yX0_set.cls ≠ "java/lang/invoke/MethodHandle" ∧ yX0_set.cls ≠ "java/lang/invoke/VarHandle" ∧ (parseMethodDescriptor yX0_set.desc).map (fun d => d.parameters.length) = some 4 := by decide +kernel
set_option maxHeartbeats 4000000 in
set_option maxRecDepth 100000 in
theorem kX0_set (l : Launch) (g : CX) (h0 h1 h2 : Nat) (sz : Nat) (x : BD) (p1 : Int32) (p2 : Int32) (p3 : Int32) (p4 : Int32) (res : BD) (hm0 : fX0_set x p1 p2 p3 p4 = res) : Met l yX0_set (wg yX0_set cX0_set 5 none) rm_X0_set (PW g [.ref h0, .int p1, .int p2, .int p3, .int p4] sz (w_X0 g h0 h1 h2 x)) (va_Qv (fun u => u = res) (fun u t => va_P g.1 vwCl (w_X0 g h0 h1 h2 u) t.heap) (va_A (w_X0 g h0 h1 h2 x) sz)) 0 0 (va_A (w_X0 g h0 h1 h2 x) sz) := by
  refine Met.ofW (cc := cX0_set) (maxL := 5) (ret := none) (by decide) rfl ?_
  intro p e s m args below meth c s₁ B hml hv
  obtain ⟨rfl, hsz, hP, hK, hD0, hL⟩ := hv
  have hx := B.exec
  have hb := B.bytes
  have hr := B.returns
  have htG := wg_G (atoms_spec (ws := wg yX0_set cX0_set 5 none) B.pre)
  have hown : s.vm.findClass RX0 = some m.cls := findClass_of_methodNamed B.named
  have hlocks := B.notSynchronized
  subst hsz
  have hD := hD0.self (sz := s.heap.size)
  generalize hAe : va_A (w_X0 g h0 h1 h2 x) s.heap.size = A at hD hL ⊢
  have hA : ∀ q : Nat, s.heap.size ≤ q → A q := fun q h => by rw [← hAe]; exact Or.inr h
  have hS : va_S A s.heap s.heap [] := va_S.rf
  have hl := lv_entry ([.ref h0, .int p1, .int p2, .int p3, .int p4]) (n := 5) (Nat.le_of_ble_eq_true rfl)
  rw [lg_entry_eq]
  generalize (lg_sl ([.ref h0, .int p1, .int p2, .int p3, .int p4]) ++ List.replicate (5 - (lg_sl ([.ref h0, .int p1, .int p2, .int p3, .int p4])).length) Slot.unset).toArray = ls at hl ⊢
  have hl : lv_has ls 5 [(0, .ref h0), (1, .int p1), (2, .int p2), (3, .int p3), (4, .int p4)] := hl
  have hm := hm0
  unfold fX0_set at hm
  refine lv_aload_n hx hb dX0_set_0 rfl (lv_at hl 0 rfl) ?_
  refine va_get (D := g.1) (ci := 0) (v := .ref h1) (C := RX0) (T := TX0) (N := 2) hx hb htG in_wsX00 hown hK.1 hP 0 rfl rfl 0 (by decide) (htG _ g1_32) (fun _ h9 => h9) rfl dX0_set_1 ?_
  refine lv_iload_n hx hb dX0_set_4 rfl (lv_at hl 1 rfl) ?_
  refine lv_iload_n hx hb dX0_set_5 rfl (lv_at hl 2 rfl) ?_
  refine ko_e (va_runS (As := [.int p1, .int p2]) (rest := [.ref h1]) ⟨hx, hb, hml, hown, htG⟩ (kX0_cellOf l g p1 p2 _ rfl) (va_cwS 2 htG (GS g2_138 g2_139 g1_3 g2_140) rfl rfl rfl hs_X0_cellOf ⟨Nat.le_of_ble_eq_true rfl, Nat.le_of_ble_eq_true rfl⟩) (PR_S hK hL hS hP [] rfl) rfl rfl hl.1 rfl (lv_room (Nat.le_of_ble_eq_true rfl)) dX0_set_6 ⟨Nat.zero_le _, Nat.zero_le _⟩) ?_
  refine lv_iload_n hx hb dX0_set_9 rfl (lv_at hl 3 rfl) ?_
  refine kw_ve (va_runS (As := [.ref h1, .int (fX0_cellOf p1 p2), .int p3]) (rest := []) ⟨hx, hb, hml, hown, htG⟩ (kX4_put l g h1 _ x.1 288 (fX0_cellOf p1 p2) p3 _ (t_X4_put _ _ _ _ (by decide))) (va_cwS 3 htG (GS g2_162 g2_64 g1_5 g2_65) rfl rfl rfl hs_X4_put ⟨Nat.le_of_ble_eq_true rfl, Nat.le_of_ble_eq_true rfl⟩) (PW_S hK hL hS hP hD hA [1] rfl rfl) rfl rfl hl.1 rfl (lv_room (Nat.le_of_ble_eq_true rfl)) dX0_set_10 ⟨Nat.zero_le _, Nat.zero_le _⟩) hP hD hS hA [1] rfl rfl (fun _ => rfl) (fun H locs hP hD hS => ?_)
  have hP : va_P g.1 vwCl (w_X0 g h0 h1 h2 ((rput x.1 288 (fX0_cellOf p1 p2) p3), x.2)) H := hP
  have hD : va_D A (w_X0 g h0 h1 h2 ((rput x.1 288 (fX0_cellOf p1 p2) p3), x.2)) := hD
  refine lv_aload_n hx hb dX0_set_13 rfl (lv_at hl 0 rfl) ?_
  refine va_get (D := g.1) (ci := 0) (v := .ref h2) (C := RX0) (T := TX0) (N := 2) hx hb htG in_wsX00 hown hK.1 hP 0 rfl rfl 1 (by decide) (htG _ g1_33) (fun _ h9 => h9) rfl dX0_set_14 ?_
  refine lv_iload_n hx hb dX0_set_17 rfl (lv_at hl 1 rfl) ?_
  refine lv_iload_n hx hb dX0_set_18 rfl (lv_at hl 2 rfl) ?_
  refine ko_e (va_runS (As := [.int p1, .int p2]) (rest := [.ref h2]) ⟨hx, hb, hml, hown, htG⟩ (kX0_cellOf l g p1 p2 _ rfl) (va_cwS 2 htG (GS g2_138 g2_139 g1_3 g2_140) rfl rfl rfl hs_X0_cellOf ⟨Nat.le_of_ble_eq_true rfl, Nat.le_of_ble_eq_true rfl⟩) (PR_S hK hL hS hP [] rfl) rfl rfl hl.1 rfl (lv_room (Nat.le_of_ble_eq_true rfl)) dX0_set_19 ⟨Nat.zero_le _, Nat.zero_le _⟩) ?_
  refine lv_iload hx hb dX0_set_22 (lv_at hl 4 rfl) ?_
  refine kw_ve (va_runS (As := [.ref h2, .int (fX0_cellOf p1 p2), .int p4]) (rest := []) ⟨hx, hb, hml, hown, htG⟩ (kX4_put l g h2 _ x.2 288 (fX0_cellOf p1 p2) p4 _ (t_X4_put _ _ _ _ (by decide))) (va_cwS 3 htG (GS g2_162 g2_64 g1_5 g2_65) rfl rfl rfl hs_X4_put ⟨Nat.le_of_ble_eq_true rfl, Nat.le_of_ble_eq_true rfl⟩) (PW_S hK hL hS hP hD hA [2] rfl rfl) rfl rfl hl.1 rfl (lv_room (Nat.le_of_ble_eq_true rfl)) dX0_set_24 ⟨Nat.zero_le _, Nat.zero_le _⟩) hP hD hS hA [2] rfl rfl (fun _ => rfl) (fun H locs hP hD hS => ?_)
  have hP : va_P g.1 vwCl (w_X0 g h0 h1 h2 ((rput x.1 288 (fX0_cellOf p1 p2) p3), (rput x.2 288 (fX0_cellOf p1 p2) p4))) H := hP
  have hD : va_D A (w_X0 g h0 h1 h2 ((rput x.1 288 (fX0_cellOf p1 p2) p3), (rput x.2 288 (fX0_cellOf p1 p2) p4))) := hD
  exact W.vret hx hb hr (fun t ht hW => ⟨⟨_, rfl, hm, atH ht hP⟩, hS.F ht⟩) hS.2.2 dX0_set_27
def fX0_remove (x : BD) (p1 : Int32) (p2 : Int32) : BD := (fX0_set x p1 p2 0 0)
abbrev rm_X0_remove : Jvm.Room := { frames := 2, cells := 0, slots := 0, locals := 46 }
theorem hd_X0_remove : yX0_remove.cls = RX0 ∧ yX0_remove.cls ≠ "java/lang/invoke/MethodHandle" ∧ yX0_remove.cls ≠ "java/lang/invoke/VarHandle" ∧ (parseMethodDescriptor yX0_remove.desc).map (fun d => d.parameters.length) = some 2 := by decide +kernel
set_option maxHeartbeats 4000000 in
set_option maxRecDepth 100000 in
theorem kX0_remove (l : Launch) (g : CX) (h0 h1 h2 : Nat) (sz : Nat) (x : BD) (p1 : Int32) (p2 : Int32) (res : BD) (hm0 : fX0_remove x p1 p2 = res) : Met l yX0_remove (wg yX0_remove cX0_remove 3 none) rm_X0_remove (PW g [.ref h0, .int p1, .int p2] sz (w_X0 g h0 h1 h2 x)) (va_Qv (fun u => u = res) (fun u t => va_P g.1 vwCl (w_X0 g h0 h1 h2 u) t.heap) (va_A (w_X0 g h0 h1 h2 x) sz)) 0 0 (va_A (w_X0 g h0 h1 h2 x) sz) := by
  refine Met.ofW (cc := cX0_remove) (maxL := 3) (ret := none) (by decide) rfl ?_
  intro p e s m args below meth c s₁ B hml hv
  obtain ⟨rfl, hsz, hP, hK, hD0, hL⟩ := hv
  have hx := B.exec
  have hb := B.bytes
  have hr := B.returns
  have htG := wg_G (atoms_spec (ws := wg yX0_remove cX0_remove 3 none) B.pre)
  have hown : s.vm.findClass RX0 = some m.cls := findClass_of_methodNamed B.named
  have hlocks := B.notSynchronized
  subst hsz
  have hD := hD0.self (sz := s.heap.size)
  generalize hAe : va_A (w_X0 g h0 h1 h2 x) s.heap.size = A at hD hL ⊢
  have hA : ∀ q : Nat, s.heap.size ≤ q → A q := fun q h => by rw [← hAe]; exact Or.inr h
  have hS : va_S A s.heap s.heap [] := va_S.rf
  have hl := lv_entry ([.ref h0, .int p1, .int p2]) (n := 3) (Nat.le_of_ble_eq_true rfl)
  rw [lg_entry_eq]
  generalize (lg_sl ([.ref h0, .int p1, .int p2]) ++ List.replicate (3 - (lg_sl ([.ref h0, .int p1, .int p2])).length) Slot.unset).toArray = ls at hl ⊢
  have hl : lv_has ls 3 [(0, .ref h0), (1, .int p1), (2, .int p2)] := hl
  have hm := hm0
  unfold fX0_remove at hm
  refine lv_aload_n hx hb dX0_remove_0 rfl (lv_at hl 0 rfl) ?_
  refine lv_iload_n hx hb dX0_remove_1 rfl (lv_at hl 1 rfl) ?_
  refine lv_iload_n hx hb dX0_remove_2 rfl (lv_at hl 2 rfl) ?_
  refine lv_iconst (v := 0) hx hb dX0_remove_3 (by decide) ?_
  refine lv_iconst (v := 0) hx hb dX0_remove_4 (by decide) ?_
  refine kw_veA (va_runV (As := [.int p1, .int p2, .int 0, .int 0]) (rest := []) ⟨hx, hb, hml, hown, htG⟩ (kX0_set l g h0 h1 h2 _ x p1 p2 0 0 _ rfl) (cwV 4 htG (GV g2_179 g2_159 g2_160 g1_3 g2_161) rfl rfl rfl hd_X0_set ⟨Nat.le_of_ble_eq_true rfl, Nat.le_of_ble_eq_true rfl⟩) (PW_VA hK hL hS hP hD hA (ci := 0) rfl 0 rfl) rfl rfl hl.1 rfl (lv_room (Nat.le_of_ble_eq_true rfl)) dX0_remove_5 ⟨Nat.zero_le _, Nat.zero_le _⟩) hD hS hA (fun _ => rfl) (fun H locs hP hD hS => ?_)
  have hP : va_P g.1 vwCl (w_X0 g h0 h1 h2 (fX0_set x p1 p2 0 0)) H := hP
  have hD : va_D A (w_X0 g h0 h1 h2 (fX0_set x p1 p2 0 0)) := hD
  exact W.vret hx hb hr (fun t ht hW => ⟨⟨_, rfl, hm, atH ht hP⟩, hS.F ht⟩) hS.2.2 dX0_remove_8
def fX0_removeAll_L0 (p1 : Int32) : Nat → Int32 → BD → Option (BD)
  | 0, _, _ => none
  | n + 1, i0_2, x0 => (if 6 ≤ i0_2 then (some x0) else (fX0_removeAll_L0 p1 n (i0_2 + 1) (fX0_set x0 i0_2 p1 0 0)))
def fX0_removeAll (x : BD) (p1 : Int32) : Option (BD) := ((fX0_removeAll_L0 p1 1000 0 x).bind (fun zq2 => some zq2))
abbrev rm_X0_removeAll : Jvm.Room := { frames := 2, cells := 0, slots := 0, locals := 46 }
theorem hd_X0_removeAll : yX0_removeAll.cls = RX0 ∧ yX0_removeAll.cls ≠ "java/lang/invoke/MethodHandle" ∧ yX0_removeAll.cls ≠ "java/lang/invoke/VarHandle" ∧ (parseMethodDescriptor yX0_removeAll.desc).map (fun d => d.parameters.length) = some 1 := by decide +kernel
set_option maxHeartbeats 4000000 in
set_option maxRecDepth 100000 in
theorem kX0_removeAll (l : Launch) (g : CX) (h0 h1 h2 : Nat) (sz : Nat) (x : BD) (p1 : Int32) (res : BD) (hm0 : fX0_removeAll x p1 = some res) : Met l yX0_removeAll (wg yX0_removeAll cX0_removeAll 3 none) rm_X0_removeAll (PW g [.ref h0, .int p1] sz (w_X0 g h0 h1 h2 x)) (va_Qv (fun u => u = res) (fun u t => va_P g.1 vwCl (w_X0 g h0 h1 h2 u) t.heap) (va_A (w_X0 g h0 h1 h2 x) sz)) 0 0 (va_A (w_X0 g h0 h1 h2 x) sz) := by
  refine Met.ofW (cc := cX0_removeAll) (maxL := 3) (ret := none) (by decide) rfl ?_
  intro p e s m args below meth c s₁ B hml hv
  obtain ⟨rfl, hsz, hP, hK, hD0, hL⟩ := hv
  have hx := B.exec
  have hb := B.bytes
  have hr := B.returns
  have htG := wg_G (atoms_spec (ws := wg yX0_removeAll cX0_removeAll 3 none) B.pre)
  have hown : s.vm.findClass RX0 = some m.cls := findClass_of_methodNamed B.named
  have hlocks := B.notSynchronized
  subst hsz
  have hD := hD0.self (sz := s.heap.size)
  generalize hAe : va_A (w_X0 g h0 h1 h2 x) s.heap.size = A at hD hL ⊢
  have hA : ∀ q : Nat, s.heap.size ≤ q → A q := fun q h => by rw [← hAe]; exact Or.inr h
  have hS : va_S A s.heap s.heap [] := va_S.rf
  have hl := lv_entry ([.ref h0, .int p1]) (n := 3) (Nat.le_of_ble_eq_true rfl)
  rw [lg_entry_eq]
  generalize (lg_sl ([.ref h0, .int p1]) ++ List.replicate (3 - (lg_sl ([.ref h0, .int p1])).length) Slot.unset).toArray = ls at hl ⊢
  have hl : lv_has ls 3 [(0, .ref h0), (1, .int p1)] := hl
  have hm := hm0
  unfold fX0_removeAll at hm
  have hL0 : ∀ (Q : State → Prop), ∀ (n : Nat) (i0_2 : Int32) (x0 : BD) (out : BD) (H : Heap) (locs : List Loc) (ls : Array Slot), fX0_removeAll_L0 p1 n i0_2 x0 = some out → va_P g.1 vwCl (w_X0 g h0 h1 h2 x0) H → va_D A (w_X0 g h0 h1 h2 x0) → va_S A s.heap H locs → lv_has ls 3 [(0, .ref h0), (1, .int p1), (2, .int i0_2)] → (∀ (H : Heap) (locs : List Loc) (ls : Array Slot), va_P g.1 vwCl (w_X0 g h0 h1 h2 out) H → va_D A (w_X0 g h0 h1 h2 out) → va_S A s.heap H locs → lv_has ls 3 [] → W p l e (headSpec (wg yX0_removeAll cX0_removeAll 3 none) rm_X0_removeAll).room s m (([.ref h0, .int p1] : List Value).toArray) below meth c H locs 0 0 Q (F0 m 22 ls [])) → W p l e (headSpec (wg yX0_removeAll cX0_removeAll 3 none) rm_X0_removeAll).room s m (([.ref h0, .int p1] : List Value).toArray) below meth c H locs 0 0 Q (F0 m 2 ls []) := by
    intro Q n
    induction n with
    | zero =>
      intro i0_2 x0 out H locs ls hm hP hD hS hl hk
      simp [fX0_removeAll_L0] at hm
    | succ n ih =>
      intro i0_2 x0 out H locs ls hm hP hD hS hl hk
      rw [fX0_removeAll_L0] at hm
      refine lv_iload_n hx hb dX0_removeAll_2 rfl (lv_at hl 2 rfl) ?_
      refine lv_bipush (v := 6) hx hb dX0_removeAll_3 (by decide +kernel) ?_
      refine lv_icmp_ge (tgt := 22) hx hb dX0_removeAll_5 (by decide) (fun zc1 => ?_) (fun zc1 => ?_)
      · replace hm := (if_pos zc1).symm.trans hm
        obtain rfl := Option.some.inj hm
        exact hk H locs ls hP hD hS (lv_sub hl [] rfl)
      · replace hm := (if_neg zc1).symm.trans hm
        refine lv_aload_n hx hb dX0_removeAll_8 rfl (lv_at hl 0 rfl) ?_
        refine lv_iload_n hx hb dX0_removeAll_9 rfl (lv_at hl 2 rfl) ?_
        refine lv_iload_n hx hb dX0_removeAll_10 rfl (lv_at hl 1 rfl) ?_
        refine lv_iconst (v := 0) hx hb dX0_removeAll_11 (by decide) ?_
        refine lv_iconst (v := 0) hx hb dX0_removeAll_12 (by decide) ?_
        refine kw_veA (va_runV (As := [.int i0_2, .int p1, .int 0, .int 0]) (rest := []) ⟨hx, hb, hml, hown, htG⟩ (kX0_set l g h0 h1 h2 _ x0 i0_2 p1 0 0 _ rfl) (cwV 4 htG (GV g2_179 g2_159 g2_160 g1_3 g2_161) rfl rfl rfl hd_X0_set ⟨Nat.le_of_ble_eq_true rfl, Nat.le_of_ble_eq_true rfl⟩) (PW_VA hK hL hS hP hD hA (ci := 0) rfl 0 rfl) rfl rfl hl.1 rfl (lv_room (Nat.le_of_ble_eq_true rfl)) dX0_removeAll_13 ⟨Nat.zero_le _, Nat.zero_le _⟩) hD hS hA (fun _ => rfl) (fun H locs hP hD hS => ?_)
        have hP : va_P g.1 vwCl (w_X0 g h0 h1 h2 (fX0_set x0 i0_2 p1 0 0)) H := hP
        have hD : va_D A (w_X0 g h0 h1 h2 (fX0_set x0 i0_2 p1 0 0)) := hD
        refine lv_iinc (v := i0_2 + 1) (lv' := [(2, .int (i0_2 + 1)), (0, .ref h0), (1, .int p1)]) hx hb dX0_removeAll_16 hl (k := 2) rfl rfl (by decide) rfl (fun ls hl => ?_)
        refine lv_goto (tgt := 2) hx hb dX0_removeAll_19 (by decide) ?_
        exact ih (i0_2 + 1) (fX0_set x0 i0_2 p1 0 0) out H locs ls hm hP hD hS (lv_sub hl [1, 2, 0] rfl) hk
  refine lv_iconst (v := 0) hx hb dX0_removeAll_0 (by decide) ?_
  refine lv_istore_n (lv' := [(2, .int 0), (0, .ref h0), (1, .int p1)]) hx hb dX0_removeAll_1 rfl hl (by decide) rfl (fun ls hl => ?_)
  obtain ⟨zq2, hzq2, hm⟩ := bdk hm
  refine hL0 _ 1000 0 x zq2 _ _ _ hzq2 hP hD hS (lv_sub hl [1, 2, 0] rfl) (fun H locs ls hP hD hS hl => ?_)
  exact W.vret hx hb hr (fun t ht hW => ⟨⟨_, rfl, (Option.some.inj hm), atH ht hP⟩, hS.F ht⟩) hS.2.2 dX0_removeAll_22
def fX0_countFor_L0 (x : BD) (p1 : Int32) : Nat → Int32 → Int32 → Option (Int32)
  | 0, _, _ => none
  | n + 1, i0_2, i0_3 => (if 6 ≤ i0_3 then (some i0_2) else (if (rat x.2 288 (fX0_cellOf i0_3 p1)) ≤ 0 then (fX0_countFor_L0 x p1 n (i0_2 + 0) (i0_3 + 1)) else (fX0_countFor_L0 x p1 n (i0_2 + 1) (i0_3 + 1))))
def fX0_countFor (x : BD) (p1 : Int32) : Option (Int32) := ((fX0_countFor_L0 x p1 1000 0 0).bind (fun zq3 => some zq3))
abbrev rm_X0_countFor : Jvm.Room := { frames := 1, cells := 0, slots := 0, locals := 21 }
theorem hd_X0_countFor : yX0_countFor.cls = RX0 ∧ yX0_countFor.cls ≠ "java/lang/invoke/MethodHandle" ∧ yX0_countFor.cls ≠ "java/lang/invoke/VarHandle" ∧ (parseMethodDescriptor yX0_countFor.desc).map (fun d => d.parameters.length) = some 1 := by decide +kernel
set_option maxHeartbeats 4000000 in
set_option maxRecDepth 100000 in
theorem kX0_countFor (l : Launch) (g : CX) (h0 h1 h2 : Nat) (x : BD) (p1 : Int32) (res : Int32) (hm0 : fX0_countFor x p1 = some res) : Met l yX0_countFor (wg yX0_countFor cX0_countFor 4 (some .int)) rm_X0_countFor (PR g [.ref h0, .int p1] (w_X0 g h0 h1 h2 x)) (vp_Si (fun v => v = res)) 0 0 (fun _ => False) := by
  refine Met.ofW (cc := cX0_countFor) (maxL := 4) (ret := (some .int)) (by decide) rfl ?_
  intro p e s m args below meth c s₁ B hml hv
  obtain ⟨rfl, hP, hK, hL⟩ := hv
  have hx := B.exec
  have hb := B.bytes
  have hr := B.returns
  have htG := wg_G (atoms_spec (ws := wg yX0_countFor cX0_countFor 4 (some .int)) B.pre)
  have hown : s.vm.findClass RX0 = some m.cls := findClass_of_methodNamed B.named
  have hlocks := B.notSynchronized
  have hS : va_S (fun _ => False) s.heap s.heap [] := va_S.rf
  have hl := lv_entry ([.ref h0, .int p1]) (n := 4) (Nat.le_of_ble_eq_true rfl)
  rw [lg_entry_eq]
  generalize (lg_sl ([.ref h0, .int p1]) ++ List.replicate (4 - (lg_sl ([.ref h0, .int p1])).length) Slot.unset).toArray = ls at hl ⊢
  have hl : lv_has ls 4 [(0, .ref h0), (1, .int p1)] := hl
  have hm := hm0
  unfold fX0_countFor at hm
  have hL0 : ∀ (Q : State → Prop), ∀ (n : Nat) (i0_2 : Int32) (i0_3 : Int32) (out : Int32) (ls : Array Slot), fX0_countFor_L0 x p1 n i0_2 i0_3 = some out → lv_has ls 4 [(0, .ref h0), (1, .int p1), (2, .int i0_2), (3, .int i0_3)] → (∀ ls : Array Slot, lv_has ls 4 [(2, .int out)] → W p l e (headSpec (wg yX0_countFor cX0_countFor 4 (some .int)) rm_X0_countFor).room s m (([.ref h0, .int p1] : List Value).toArray) below meth c s.heap [] 0 0 Q (F0 m 39 ls [])) → W p l e (headSpec (wg yX0_countFor cX0_countFor 4 (some .int)) rm_X0_countFor).room s m (([.ref h0, .int p1] : List Value).toArray) below meth c s.heap [] 0 0 Q (F0 m 4 ls []) := by
    intro Q n
    induction n with
    | zero =>
      intro i0_2 i0_3 out ls hm hl hk
      simp [fX0_countFor_L0] at hm
    | succ n ih =>
      intro i0_2 i0_3 out ls hm hl hk
      rw [fX0_countFor_L0] at hm
      refine lv_iload_n hx hb dX0_countFor_4 rfl (lv_at hl 3 rfl) ?_
      refine lv_bipush (v := 6) hx hb dX0_countFor_5 (by decide +kernel) ?_
      refine lv_icmp_ge (tgt := 39) hx hb dX0_countFor_7 (by decide) (fun zc1 => ?_) (fun zc1 => ?_)
      · replace hm := (if_pos zc1).symm.trans hm
        obtain rfl := Option.some.inj hm
        exact hk ls (lv_sub hl [2] rfl)
      · replace hm := (if_neg zc1).symm.trans hm
        refine lv_iload_n hx hb dX0_countFor_10 rfl (lv_at hl 2 rfl) ?_
        refine lv_aload_n hx hb dX0_countFor_11 rfl (lv_at hl 0 rfl) ?_
        refine va_get (D := g.1) (ci := 0) (v := .ref h2) (C := RX0) (T := TX0) (N := 2) hx hb htG in_wsX00 hown hK.1 hP 0 rfl rfl 1 (by decide) (htG _ g1_33) (fun _ h9 => h9) rfl dX0_countFor_12 ?_
        refine lv_iload_n hx hb dX0_countFor_15 rfl (lv_at hl 3 rfl) ?_
        refine lv_iload_n hx hb dX0_countFor_16 rfl (lv_at hl 1 rfl) ?_
        refine ko_e (va_runS (As := [.int i0_3, .int p1]) (rest := [.ref h2, .int i0_2]) ⟨hx, hb, hml, hown, htG⟩ (kX0_cellOf l g i0_3 p1 _ rfl) (va_cwS 2 htG (GS g2_138 g2_139 g1_3 g2_140) rfl rfl rfl hs_X0_cellOf ⟨Nat.le_of_ble_eq_true rfl, Nat.le_of_ble_eq_true rfl⟩) (PR_S hK hL hS hP [] rfl) rfl rfl hl.1 rfl (lv_room (Nat.le_of_ble_eq_true rfl)) dX0_countFor_17 ⟨Nat.zero_le _, Nat.zero_le _⟩) ?_
        refine ko_e (va_runS (As := [.ref h2, .int (fX0_cellOf i0_3 p1)]) (rest := [.int i0_2]) ⟨hx, hb, hml, hown, htG⟩ (kX4_at l g h2 x.2 288 (fX0_cellOf i0_3 p1) (by decide)) (va_cwS 2 htG (GS g2_141 g2_61 g1_5 g2_62) rfl rfl rfl hs_X4_at ⟨Nat.le_of_ble_eq_true rfl, Nat.le_of_ble_eq_true rfl⟩) (PT_S hK (va_T_of hK hP 2 rfl)) rfl rfl hl.1 rfl (lv_room (Nat.le_of_ble_eq_true rfl)) dX0_countFor_20 ⟨Nat.zero_le _, Nat.zero_le _⟩) ?_
        refine lv_if_le (tgt := 30) hx hb dX0_countFor_23 (by decide) (fun zc2 => ?_) (fun zc2 => ?_)
        · replace hm := (if_pos zc2).symm.trans hm
          refine lv_iconst (v := 0) hx hb dX0_countFor_30 (by decide) ?_
          refine lv_iadd hx hb dX0_countFor_31 ?_
          refine lv_istore_n (lv' := [(2, .int (i0_2 + 0)), (0, .ref h0), (1, .int p1), (3, .int i0_3)]) hx hb dX0_countFor_32 rfl hl (by decide) rfl (fun ls hl => ?_)
          refine lv_iinc (v := i0_3 + 1) (lv' := [(3, .int (i0_3 + 1)), (2, .int (i0_2 + 0)), (0, .ref h0), (1, .int p1)]) hx hb dX0_countFor_33 hl (k := 3) rfl rfl (by decide) rfl (fun ls hl => ?_)
          refine lv_goto (tgt := 4) hx hb dX0_countFor_36 (by decide) ?_
          exact ih (i0_2 + 0) (i0_3 + 1) out ls hm (lv_sub hl [2, 3, 1, 0] rfl) hk
        · replace hm := (if_neg zc2).symm.trans hm
          refine lv_iconst (v := 1) hx hb dX0_countFor_26 (by decide) ?_
          refine lv_goto (tgt := 31) hx hb dX0_countFor_27 (by decide) ?_
          refine lv_iadd hx hb dX0_countFor_31 ?_
          refine lv_istore_n (lv' := [(2, .int (i0_2 + 1)), (0, .ref h0), (1, .int p1), (3, .int i0_3)]) hx hb dX0_countFor_32 rfl hl (by decide) rfl (fun ls hl => ?_)
          refine lv_iinc (v := i0_3 + 1) (lv' := [(3, .int (i0_3 + 1)), (2, .int (i0_2 + 1)), (0, .ref h0), (1, .int p1)]) hx hb dX0_countFor_33 hl (k := 3) rfl rfl (by decide) rfl (fun ls hl => ?_)
          refine lv_goto (tgt := 4) hx hb dX0_countFor_36 (by decide) ?_
          exact ih (i0_2 + 1) (i0_3 + 1) out ls hm (lv_sub hl [2, 3, 1, 0] rfl) hk
  refine lv_iconst (v := 0) hx hb dX0_countFor_0 (by decide) ?_
  refine lv_istore_n (lv' := [(2, .int 0), (0, .ref h0), (1, .int p1)]) hx hb dX0_countFor_1 rfl hl (by decide) rfl (fun ls hl => ?_)
  refine lv_iconst (v := 0) hx hb dX0_countFor_2 (by decide) ?_
  refine lv_istore_n (lv' := [(3, .int 0), (2, .int 0), (0, .ref h0), (1, .int p1)]) hx hb dX0_countFor_3 rfl hl (by decide) rfl (fun ls hl => ?_)
  obtain ⟨zq3, hzq3, hm⟩ := bdk hm
  refine hL0 _ 1000 0 0 zq3 _ hzq3 (lv_sub hl [2, 3, 1, 0] rfl) (fun ls hl => ?_)
  refine lv_iload_n hx hb dX0_countFor_39 rfl (lv_at hl 0 rfl) ?_
  exact W.iret (v := zq3) hx hb hr (fun t ht hW => ⟨_, rfl, (Option.some.inj hm), ht⟩) (fun _ h => nomatch h) dX0_countFor_40
def fX0_countOf_L0 (x : BD) (p1 : Int32) : Nat → Int32 → Int32 → Option (Int32)
  | 0, _, _ => none
  | n + 1, i0_2, i0_3 => (if 48 ≤ i0_3 then (some i0_2) else (if (rat x.2 288 (fX0_cellOf p1 i0_3)) ≤ 0 then (fX0_countOf_L0 x p1 n (i0_2 + 0) (i0_3 + 1)) else (fX0_countOf_L0 x p1 n (i0_2 + 1) (i0_3 + 1))))
def fX0_countOf (x : BD) (p1 : Int32) : Option (Int32) := ((fX0_countOf_L0 x p1 1000 0 0).bind (fun zq3 => some zq3))
abbrev rm_X0_countOf : Jvm.Room := { frames := 1, cells := 0, slots := 0, locals := 21 }
theorem hd_X0_countOf : yX0_countOf.cls = RX0 ∧ yX0_countOf.cls ≠ "java/lang/invoke/MethodHandle" ∧ yX0_countOf.cls ≠ "java/lang/invoke/VarHandle" ∧ (parseMethodDescriptor yX0_countOf.desc).map (fun d => d.parameters.length) = some 1 := by decide +kernel
set_option maxHeartbeats 4000000 in
set_option maxRecDepth 100000 in
theorem kX0_countOf (l : Launch) (g : CX) (h0 h1 h2 : Nat) (x : BD) (p1 : Int32) (res : Int32) (hm0 : fX0_countOf x p1 = some res) : Met l yX0_countOf (wg yX0_countOf cX0_countOf 4 (some .int)) rm_X0_countOf (PR g [.ref h0, .int p1] (w_X0 g h0 h1 h2 x)) (vp_Si (fun v => v = res)) 0 0 (fun _ => False) := by
  refine Met.ofW (cc := cX0_countOf) (maxL := 4) (ret := (some .int)) (by decide) rfl ?_
  intro p e s m args below meth c s₁ B hml hv
  obtain ⟨rfl, hP, hK, hL⟩ := hv
  have hx := B.exec
  have hb := B.bytes
  have hr := B.returns
  have htG := wg_G (atoms_spec (ws := wg yX0_countOf cX0_countOf 4 (some .int)) B.pre)
  have hown : s.vm.findClass RX0 = some m.cls := findClass_of_methodNamed B.named
  have hlocks := B.notSynchronized
  have hS : va_S (fun _ => False) s.heap s.heap [] := va_S.rf
  have hl := lv_entry ([.ref h0, .int p1]) (n := 4) (Nat.le_of_ble_eq_true rfl)
  rw [lg_entry_eq]
  generalize (lg_sl ([.ref h0, .int p1]) ++ List.replicate (4 - (lg_sl ([.ref h0, .int p1])).length) Slot.unset).toArray = ls at hl ⊢
  have hl : lv_has ls 4 [(0, .ref h0), (1, .int p1)] := hl
  have hm := hm0
  unfold fX0_countOf at hm
  have hL0 : ∀ (Q : State → Prop), ∀ (n : Nat) (i0_2 : Int32) (i0_3 : Int32) (out : Int32) (ls : Array Slot), fX0_countOf_L0 x p1 n i0_2 i0_3 = some out → lv_has ls 4 [(0, .ref h0), (1, .int p1), (2, .int i0_2), (3, .int i0_3)] → (∀ ls : Array Slot, lv_has ls 4 [(2, .int out)] → W p l e (headSpec (wg yX0_countOf cX0_countOf 4 (some .int)) rm_X0_countOf).room s m (([.ref h0, .int p1] : List Value).toArray) below meth c s.heap [] 0 0 Q (F0 m 39 ls [])) → W p l e (headSpec (wg yX0_countOf cX0_countOf 4 (some .int)) rm_X0_countOf).room s m (([.ref h0, .int p1] : List Value).toArray) below meth c s.heap [] 0 0 Q (F0 m 4 ls []) := by
    intro Q n
    induction n with
    | zero =>
      intro i0_2 i0_3 out ls hm hl hk
      simp [fX0_countOf_L0] at hm
    | succ n ih =>
      intro i0_2 i0_3 out ls hm hl hk
      rw [fX0_countOf_L0] at hm
      refine lv_iload_n hx hb dX0_countOf_4 rfl (lv_at hl 3 rfl) ?_
      refine lv_bipush (v := 48) hx hb dX0_countOf_5 (by decide +kernel) ?_
      refine lv_icmp_ge (tgt := 39) hx hb dX0_countOf_7 (by decide) (fun zc1 => ?_) (fun zc1 => ?_)
      · replace hm := (if_pos zc1).symm.trans hm
        obtain rfl := Option.some.inj hm
        exact hk ls (lv_sub hl [2] rfl)
      · replace hm := (if_neg zc1).symm.trans hm
        refine lv_iload_n hx hb dX0_countOf_10 rfl (lv_at hl 2 rfl) ?_
        refine lv_aload_n hx hb dX0_countOf_11 rfl (lv_at hl 0 rfl) ?_
        refine va_get (D := g.1) (ci := 0) (v := .ref h2) (C := RX0) (T := TX0) (N := 2) hx hb htG in_wsX00 hown hK.1 hP 0 rfl rfl 1 (by decide) (htG _ g1_33) (fun _ h9 => h9) rfl dX0_countOf_12 ?_
        refine lv_iload_n hx hb dX0_countOf_15 rfl (lv_at hl 1 rfl) ?_
        refine lv_iload_n hx hb dX0_countOf_16 rfl (lv_at hl 3 rfl) ?_
        refine ko_e (va_runS (As := [.int p1, .int i0_3]) (rest := [.ref h2, .int i0_2]) ⟨hx, hb, hml, hown, htG⟩ (kX0_cellOf l g p1 i0_3 _ rfl) (va_cwS 2 htG (GS g2_138 g2_139 g1_3 g2_140) rfl rfl rfl hs_X0_cellOf ⟨Nat.le_of_ble_eq_true rfl, Nat.le_of_ble_eq_true rfl⟩) (PR_S hK hL hS hP [] rfl) rfl rfl hl.1 rfl (lv_room (Nat.le_of_ble_eq_true rfl)) dX0_countOf_17 ⟨Nat.zero_le _, Nat.zero_le _⟩) ?_
        refine ko_e (va_runS (As := [.ref h2, .int (fX0_cellOf p1 i0_3)]) (rest := [.int i0_2]) ⟨hx, hb, hml, hown, htG⟩ (kX4_at l g h2 x.2 288 (fX0_cellOf p1 i0_3) (by decide)) (va_cwS 2 htG (GS g2_141 g2_61 g1_5 g2_62) rfl rfl rfl hs_X4_at ⟨Nat.le_of_ble_eq_true rfl, Nat.le_of_ble_eq_true rfl⟩) (PT_S hK (va_T_of hK hP 2 rfl)) rfl rfl hl.1 rfl (lv_room (Nat.le_of_ble_eq_true rfl)) dX0_countOf_20 ⟨Nat.zero_le _, Nat.zero_le _⟩) ?_
        refine lv_if_le (tgt := 30) hx hb dX0_countOf_23 (by decide) (fun zc2 => ?_) (fun zc2 => ?_)
        · replace hm := (if_pos zc2).symm.trans hm
          refine lv_iconst (v := 0) hx hb dX0_countOf_30 (by decide) ?_
          refine lv_iadd hx hb dX0_countOf_31 ?_
          refine lv_istore_n (lv' := [(2, .int (i0_2 + 0)), (0, .ref h0), (1, .int p1), (3, .int i0_3)]) hx hb dX0_countOf_32 rfl hl (by decide) rfl (fun ls hl => ?_)
          refine lv_iinc (v := i0_3 + 1) (lv' := [(3, .int (i0_3 + 1)), (2, .int (i0_2 + 0)), (0, .ref h0), (1, .int p1)]) hx hb dX0_countOf_33 hl (k := 3) rfl rfl (by decide) rfl (fun ls hl => ?_)
          refine lv_goto (tgt := 4) hx hb dX0_countOf_36 (by decide) ?_
          exact ih (i0_2 + 0) (i0_3 + 1) out ls hm (lv_sub hl [2, 3, 1, 0] rfl) hk
        · replace hm := (if_neg zc2).symm.trans hm
          refine lv_iconst (v := 1) hx hb dX0_countOf_26 (by decide) ?_
          refine lv_goto (tgt := 31) hx hb dX0_countOf_27 (by decide) ?_
          refine lv_iadd hx hb dX0_countOf_31 ?_
          refine lv_istore_n (lv' := [(2, .int (i0_2 + 1)), (0, .ref h0), (1, .int p1), (3, .int i0_3)]) hx hb dX0_countOf_32 rfl hl (by decide) rfl (fun ls hl => ?_)
          refine lv_iinc (v := i0_3 + 1) (lv' := [(3, .int (i0_3 + 1)), (2, .int (i0_2 + 1)), (0, .ref h0), (1, .int p1)]) hx hb dX0_countOf_33 hl (k := 3) rfl rfl (by decide) rfl (fun ls hl => ?_)
          refine lv_goto (tgt := 4) hx hb dX0_countOf_36 (by decide) ?_
          exact ih (i0_2 + 1) (i0_3 + 1) out ls hm (lv_sub hl [2, 3, 1, 0] rfl) hk
  refine lv_iconst (v := 0) hx hb dX0_countOf_0 (by decide) ?_
  refine lv_istore_n (lv' := [(2, .int 0), (0, .ref h0), (1, .int p1)]) hx hb dX0_countOf_1 rfl hl (by decide) rfl (fun ls hl => ?_)
  refine lv_iconst (v := 0) hx hb dX0_countOf_2 (by decide) ?_
  refine lv_istore_n (lv' := [(3, .int 0), (2, .int 0), (0, .ref h0), (1, .int p1)]) hx hb dX0_countOf_3 rfl hl (by decide) rfl (fun ls hl => ?_)
  obtain ⟨zq3, hzq3, hm⟩ := bdk hm
  refine hL0 _ 1000 0 0 zq3 _ hzq3 (lv_sub hl [2, 3, 1, 0] rfl) (fun ls hl => ?_)
  refine lv_iload_n hx hb dX0_countOf_39 rfl (lv_at hl 0 rfl) ?_
  exact W.iret (v := zq3) hx hb hr (fun t ht hW => ⟨_, rfl, (Option.some.inj hm), ht⟩) (fun _ h => nomatch h) dX0_countOf_40
def fX0_offeredBy_L0 (x : BD) (p1 : Int32) : Nat → Int32 → Int32 → Option (Int32)
  | 0, _, _ => none
  | n + 1, i0_2, i0_3 => (if 48 ≤ i0_3 then (some i0_2) else (bnd (i0_2 + (rat x.2 288 (fX0_cellOf p1 i0_3))) (fun zv2 => (fX0_offeredBy_L0 x p1 n zv2 (i0_3 + 1)))))
def fX0_offeredBy (x : BD) (p1 : Int32) : Option (Int32) := ((fX0_offeredBy_L0 x p1 1000 0 0).bind (fun zq3 => some zq3))
abbrev rm_X0_offeredBy : Jvm.Room := { frames := 1, cells := 0, slots := 0, locals := 21 }
theorem hd_X0_offeredBy : yX0_offeredBy.cls = RX0 ∧ yX0_offeredBy.cls ≠ "java/lang/invoke/MethodHandle" ∧ yX0_offeredBy.cls ≠ "java/lang/invoke/VarHandle" ∧ (parseMethodDescriptor yX0_offeredBy.desc).map (fun d => d.parameters.length) = some 1 := by decide +kernel
set_option maxHeartbeats 4000000 in
set_option maxRecDepth 100000 in
theorem kX0_offeredBy (l : Launch) (g : CX) (h0 h1 h2 : Nat) (x : BD) (p1 : Int32) (res : Int32) (hm0 : fX0_offeredBy x p1 = some res) : Met l yX0_offeredBy (wg yX0_offeredBy cX0_offeredBy 4 (some .int)) rm_X0_offeredBy (PR g [.ref h0, .int p1] (w_X0 g h0 h1 h2 x)) (vp_Si (fun v => v = res)) 0 0 (fun _ => False) := by
  refine Met.ofW (cc := cX0_offeredBy) (maxL := 4) (ret := (some .int)) (by decide) rfl ?_
  intro p e s m args below meth c s₁ B hml hv
  obtain ⟨rfl, hP, hK, hL⟩ := hv
  have hx := B.exec
  have hb := B.bytes
  have hr := B.returns
  have htG := wg_G (atoms_spec (ws := wg yX0_offeredBy cX0_offeredBy 4 (some .int)) B.pre)
  have hown : s.vm.findClass RX0 = some m.cls := findClass_of_methodNamed B.named
  have hlocks := B.notSynchronized
  have hS : va_S (fun _ => False) s.heap s.heap [] := va_S.rf
  have hl := lv_entry ([.ref h0, .int p1]) (n := 4) (Nat.le_of_ble_eq_true rfl)
  rw [lg_entry_eq]
  generalize (lg_sl ([.ref h0, .int p1]) ++ List.replicate (4 - (lg_sl ([.ref h0, .int p1])).length) Slot.unset).toArray = ls at hl ⊢
  have hl : lv_has ls 4 [(0, .ref h0), (1, .int p1)] := hl
  have hm := hm0
  unfold fX0_offeredBy at hm
  have hL0 : ∀ (Q : State → Prop), ∀ (n : Nat) (i0_2 : Int32) (i0_3 : Int32) (out : Int32) (ls : Array Slot), fX0_offeredBy_L0 x p1 n i0_2 i0_3 = some out → lv_has ls 4 [(0, .ref h0), (1, .int p1), (2, .int i0_2), (3, .int i0_3)] → (∀ ls : Array Slot, lv_has ls 4 [(2, .int out)] → W p l e (headSpec (wg yX0_offeredBy cX0_offeredBy 4 (some .int)) rm_X0_offeredBy).room s m (([.ref h0, .int p1] : List Value).toArray) below meth c s.heap [] 0 0 Q (F0 m 31 ls [])) → W p l e (headSpec (wg yX0_offeredBy cX0_offeredBy 4 (some .int)) rm_X0_offeredBy).room s m (([.ref h0, .int p1] : List Value).toArray) below meth c s.heap [] 0 0 Q (F0 m 4 ls []) := by
    intro Q n
    induction n with
    | zero =>
      intro i0_2 i0_3 out ls hm hl hk
      simp [fX0_offeredBy_L0] at hm
    | succ n ih =>
      intro i0_2 i0_3 out ls hm hl hk
      rw [fX0_offeredBy_L0] at hm
      refine lv_iload_n hx hb dX0_offeredBy_4 rfl (lv_at hl 3 rfl) ?_
      refine lv_bipush (v := 48) hx hb dX0_offeredBy_5 (by decide +kernel) ?_
      refine lv_icmp_ge (tgt := 31) hx hb dX0_offeredBy_7 (by decide) (fun zc1 => ?_) (fun zc1 => ?_)
      · replace hm := (if_pos zc1).symm.trans hm
        obtain rfl := Option.some.inj hm
        exact hk ls (lv_sub hl [2] rfl)
      · replace hm := (if_neg zc1).symm.trans hm
        refine lv_iload_n hx hb dX0_offeredBy_10 rfl (lv_at hl 2 rfl) ?_
        refine lv_aload_n hx hb dX0_offeredBy_11 rfl (lv_at hl 0 rfl) ?_
        refine va_get (D := g.1) (ci := 0) (v := .ref h2) (C := RX0) (T := TX0) (N := 2) hx hb htG in_wsX00 hown hK.1 hP 0 rfl rfl 1 (by decide) (htG _ g1_33) (fun _ h9 => h9) rfl dX0_offeredBy_12 ?_
        refine lv_iload_n hx hb dX0_offeredBy_15 rfl (lv_at hl 1 rfl) ?_
        refine lv_iload_n hx hb dX0_offeredBy_16 rfl (lv_at hl 3 rfl) ?_
        refine ko_e (va_runS (As := [.int p1, .int i0_3]) (rest := [.ref h2, .int i0_2]) ⟨hx, hb, hml, hown, htG⟩ (kX0_cellOf l g p1 i0_3 _ rfl) (va_cwS 2 htG (GS g2_138 g2_139 g1_3 g2_140) rfl rfl rfl hs_X0_cellOf ⟨Nat.le_of_ble_eq_true rfl, Nat.le_of_ble_eq_true rfl⟩) (PR_S hK hL hS hP [] rfl) rfl rfl hl.1 rfl (lv_room (Nat.le_of_ble_eq_true rfl)) dX0_offeredBy_17 ⟨Nat.zero_le _, Nat.zero_le _⟩) ?_
        refine ko_e (va_runS (As := [.ref h2, .int (fX0_cellOf p1 i0_3)]) (rest := [.int i0_2]) ⟨hx, hb, hml, hown, htG⟩ (kX4_at l g h2 x.2 288 (fX0_cellOf p1 i0_3) (by decide)) (va_cwS 2 htG (GS g2_141 g2_61 g1_5 g2_62) rfl rfl rfl hs_X4_at ⟨Nat.le_of_ble_eq_true rfl, Nat.le_of_ble_eq_true rfl⟩) (PT_S hK (va_T_of hK hP 2 rfl)) rfl rfl hl.1 rfl (lv_room (Nat.le_of_ble_eq_true rfl)) dX0_offeredBy_20 ⟨Nat.zero_le _, Nat.zero_le _⟩) ?_
        refine lv_iadd hx hb dX0_offeredBy_23 ?_
        obtain ⟨zv2, ezv2, hm⟩ := bnk hm
        refine tope ezv2 ?_
        refine lv_istore_n (lv' := [(2, .int zv2), (0, .ref h0), (1, .int p1), (3, .int i0_3)]) hx hb dX0_offeredBy_24 rfl hl (by decide) rfl (fun ls hl => ?_)
        refine lv_iinc (v := i0_3 + 1) (lv' := [(3, .int (i0_3 + 1)), (2, .int zv2), (0, .ref h0), (1, .int p1)]) hx hb dX0_offeredBy_25 hl (k := 3) rfl rfl (by decide) rfl (fun ls hl => ?_)
        refine lv_goto (tgt := 4) hx hb dX0_offeredBy_28 (by decide) ?_
        exact ih zv2 (i0_3 + 1) out ls hm (lv_sub hl [2, 3, 1, 0] rfl) hk
  refine lv_iconst (v := 0) hx hb dX0_offeredBy_0 (by decide) ?_
  refine lv_istore_n (lv' := [(2, .int 0), (0, .ref h0), (1, .int p1)]) hx hb dX0_offeredBy_1 rfl hl (by decide) rfl (fun ls hl => ?_)
  refine lv_iconst (v := 0) hx hb dX0_offeredBy_2 (by decide) ?_
  refine lv_istore_n (lv' := [(3, .int 0), (2, .int 0), (0, .ref h0), (1, .int p1)]) hx hb dX0_offeredBy_3 rfl hl (by decide) rfl (fun ls hl => ?_)
  obtain ⟨zq3, hzq3, hm⟩ := bdk hm
  refine hL0 _ 1000 0 0 zq3 _ hzq3 (lv_sub hl [2, 3, 1, 0] rfl) (fun ls hl => ?_)
  refine lv_iload_n hx hb dX0_offeredBy_31 rfl (lv_at hl 0 rfl) ?_
  exact W.iret (v := zq3) hx hb hr (fun t ht hW => ⟨_, rfl, (Option.some.inj hm), ht⟩) (fun _ h => nomatch h) dX0_offeredBy_32
def fX0_highest_L0 (x : BD) (p1 : Int32) (p2 : Int32) (p3 : Int32) : Nat → Int32 → Int32 → Option (Int32)
  | 0, _, _ => none
  | n + 1, i0_4, i0_5 => (if 6 ≤ i0_5 then (some i0_4) else (bnd (rat x.2 288 (fX0_cellOf i0_5 p1)) (fun zv2 => (if i0_5 = p3 then (fX0_highest_L0 x p1 p2 p3 n i0_4 (i0_5 + 1)) else (if p2 < (rat x.1 288 (fX0_cellOf i0_5 p1)) then (fX0_highest_L0 x p1 p2 p3 n i0_4 (i0_5 + 1)) else (if zv2 ≤ i0_4 then (fX0_highest_L0 x p1 p2 p3 n i0_4 (i0_5 + 1)) else (fX0_highest_L0 x p1 p2 p3 n zv2 (i0_5 + 1))))))))
def fX0_highest (x : BD) (p1 : Int32) (p2 : Int32) (p3 : Int32) : Option (Int32) := ((fX0_highest_L0 x p1 p2 p3 1000 0 0).bind (fun zq9 => some zq9))
abbrev rm_X0_highest : Jvm.Room := { frames := 1, cells := 0, slots := 0, locals := 21 }
theorem hd_X0_highest : yX0_highest.cls = RX0 ∧ yX0_highest.cls ≠ "java/lang/invoke/MethodHandle" ∧ yX0_highest.cls ≠ "java/lang/invoke/VarHandle" ∧ (parseMethodDescriptor yX0_highest.desc).map (fun d => d.parameters.length) = some 3 := by decide +kernel
set_option maxHeartbeats 4000000 in
set_option maxRecDepth 100000 in
theorem kX0_highest (l : Launch) (g : CX) (h0 h1 h2 : Nat) (x : BD) (p1 : Int32) (p2 : Int32) (p3 : Int32) (res : Int32) (hm0 : fX0_highest x p1 p2 p3 = some res) : Met l yX0_highest (wg yX0_highest cX0_highest 8 (some .int)) rm_X0_highest (PR g [.ref h0, .int p1, .int p2, .int p3] (w_X0 g h0 h1 h2 x)) (vp_Si (fun v => v = res)) 0 0 (fun _ => False) := by
  refine Met.ofW (cc := cX0_highest) (maxL := 8) (ret := (some .int)) (by decide) rfl ?_
  intro p e s m args below meth c s₁ B hml hv
  obtain ⟨rfl, hP, hK, hL⟩ := hv
  have hx := B.exec
  have hb := B.bytes
  have hr := B.returns
  have htG := wg_G (atoms_spec (ws := wg yX0_highest cX0_highest 8 (some .int)) B.pre)
  have hown : s.vm.findClass RX0 = some m.cls := findClass_of_methodNamed B.named
  have hlocks := B.notSynchronized
  have hS : va_S (fun _ => False) s.heap s.heap [] := va_S.rf
  have hl := lv_entry ([.ref h0, .int p1, .int p2, .int p3]) (n := 8) (Nat.le_of_ble_eq_true rfl)
  rw [lg_entry_eq]
  generalize (lg_sl ([.ref h0, .int p1, .int p2, .int p3]) ++ List.replicate (8 - (lg_sl ([.ref h0, .int p1, .int p2, .int p3])).length) Slot.unset).toArray = ls at hl ⊢
  have hl : lv_has ls 8 [(0, .ref h0), (1, .int p1), (2, .int p2), (3, .int p3)] := hl
  have hm := hm0
  unfold fX0_highest at hm
  have hL0 : ∀ (Q : State → Prop), ∀ (n : Nat) (i0_4 : Int32) (i0_5 : Int32) (out : Int32) (ls : Array Slot), fX0_highest_L0 x p1 p2 p3 n i0_4 i0_5 = some out → lv_has ls 8 [(0, .ref h0), (1, .int p1), (2, .int p2), (3, .int p3), (4, .int i0_4), (5, .int i0_5)] → (∀ ls : Array Slot, lv_has ls 8 [(4, .int out)] → W p l e (headSpec (wg yX0_highest cX0_highest 8 (some .int)) rm_X0_highest).room s m (([.ref h0, .int p1, .int p2, .int p3] : List Value).toArray) below meth c s.heap [] 0 0 Q (F0 m 85 ls [])) → W p l e (headSpec (wg yX0_highest cX0_highest 8 (some .int)) rm_X0_highest).room s m (([.ref h0, .int p1, .int p2, .int p3] : List Value).toArray) below meth c s.heap [] 0 0 Q (F0 m 6 ls []) := by
    intro Q n
    induction n with
    | zero =>
      intro i0_4 i0_5 out ls hm hl hk
      simp [fX0_highest_L0] at hm
    | succ n ih =>
      intro i0_4 i0_5 out ls hm hl hk
      rw [fX0_highest_L0] at hm
      refine lv_iload hx hb dX0_highest_6 (lv_at hl 5 rfl) ?_
      refine lv_bipush (v := 6) hx hb dX0_highest_8 (by decide +kernel) ?_
      refine lv_icmp_ge (tgt := 85) hx hb dX0_highest_10 (by decide) (fun zc1 => ?_) (fun zc1 => ?_)
      · replace hm := (if_pos zc1).symm.trans hm
        obtain rfl := Option.some.inj hm
        exact hk ls (lv_sub hl [4] rfl)
      · replace hm := (if_neg zc1).symm.trans hm
        refine lv_aload_n hx hb dX0_highest_13 rfl (lv_at hl 0 rfl) ?_
        refine va_get (D := g.1) (ci := 0) (v := .ref h2) (C := RX0) (T := TX0) (N := 2) hx hb htG in_wsX00 hown hK.1 hP 0 rfl rfl 1 (by decide) (htG _ g1_33) (fun _ h9 => h9) rfl dX0_highest_14 ?_
        refine lv_iload hx hb dX0_highest_17 (lv_at hl 5 rfl) ?_
        refine lv_iload_n hx hb dX0_highest_19 rfl (lv_at hl 1 rfl) ?_
        refine ko_e (va_runS (As := [.int i0_5, .int p1]) (rest := [.ref h2]) ⟨hx, hb, hml, hown, htG⟩ (kX0_cellOf l g i0_5 p1 _ rfl) (va_cwS 2 htG (GS g2_138 g2_139 g1_3 g2_140) rfl rfl rfl hs_X0_cellOf ⟨Nat.le_of_ble_eq_true rfl, Nat.le_of_ble_eq_true rfl⟩) (PR_S hK hL hS hP [] rfl) rfl rfl hl.1 rfl (lv_room (Nat.le_of_ble_eq_true rfl)) dX0_highest_20 ⟨Nat.zero_le _, Nat.zero_le _⟩) ?_
        refine ko_e (va_runS (As := [.ref h2, .int (fX0_cellOf i0_5 p1)]) (rest := []) ⟨hx, hb, hml, hown, htG⟩ (kX4_at l g h2 x.2 288 (fX0_cellOf i0_5 p1) (by decide)) (va_cwS 2 htG (GS g2_141 g2_61 g1_5 g2_62) rfl rfl rfl hs_X4_at ⟨Nat.le_of_ble_eq_true rfl, Nat.le_of_ble_eq_true rfl⟩) (PT_S hK (va_T_of hK hP 2 rfl)) rfl rfl hl.1 rfl (lv_room (Nat.le_of_ble_eq_true rfl)) dX0_highest_23 ⟨Nat.zero_le _, Nat.zero_le _⟩) ?_
        obtain ⟨zv2, ezv2, hm⟩ := bnk hm
        refine tope ezv2 ?_
        refine lv_istore (lv' := [(6, .int zv2), (0, .ref h0), (1, .int p1), (2, .int p2), (3, .int p3), (4, .int i0_4), (5, .int i0_5)]) hx hb dX0_highest_26 hl (by decide) rfl (fun ls hl => ?_)
        refine lv_iload hx hb dX0_highest_28 (lv_at hl 6 rfl) ?_
        refine lv_iload_n hx hb dX0_highest_30 rfl (lv_at hl 4 rfl) ?_
        refine lv_icmp_eq (tgt := 55) hx hb dX0_highest_31 (by decide) (fun zc3 => ?_) (fun zc3 => ?_)
        · replace hm := (if_pos zc3).symm.trans hm
          refine lv_iconst (v := 0) hx hb dX0_highest_55 (by decide) ?_
          refine lv_istore (lv' := [(7, .int 0), (6, .int zv2), (0, .ref h0), (1, .int p1), (2, .int p2), (3, .int p3), (4, .int i0_4), (5, .int i0_5)]) hx hb dX0_highest_56 hl (by decide) rfl (fun ls hl => ?_)
          refine lv_iload hx hb dX0_highest_58 (lv_at hl 0 rfl) ?_
          refine lv_if_eq (tgt := 75) hx hb dX0_highest_60 (by decide) (fun _ => ?_) (fun zc4 => absurd zc4 (by decide))
          refine lv_iload hx hb dX0_highest_75 (lv_at hl 6 rfl) ?_
          refine lv_istore (lv' := [(4, .int i0_4), (7, .int 0), (6, .int zv2), (0, .ref h0), (1, .int p1), (2, .int p2), (3, .int p3), (5, .int i0_5)]) hx hb dX0_highest_77 hl (by decide) rfl (fun ls hl => ?_)
          refine lv_iinc (v := i0_5 + 1) (lv' := [(5, .int (i0_5 + 1)), (4, .int i0_4), (7, .int 0), (6, .int zv2), (0, .ref h0), (1, .int p1), (2, .int p2), (3, .int p3)]) hx hb dX0_highest_79 hl (k := 7) rfl rfl (by decide) rfl (fun ls hl => ?_)
          refine lv_goto (tgt := 6) hx hb dX0_highest_82 (by decide) ?_
          exact ih i0_4 (i0_5 + 1) out ls hm (lv_sub hl [4, 5, 6, 7, 1, 0] rfl) hk
        · replace hm := (if_neg zc3).symm.trans hm
          refine lv_aload_n hx hb dX0_highest_34 rfl (lv_at hl 1 rfl) ?_
          refine va_get (D := g.1) (ci := 0) (v := .ref h1) (C := RX0) (T := TX0) (N := 2) hx hb htG in_wsX00 hown hK.1 hP 0 rfl rfl 0 (by decide) (htG _ g1_32) (fun _ h9 => h9) rfl dX0_highest_35 ?_
          refine lv_iload hx hb dX0_highest_38 (lv_at hl 6 rfl) ?_
          refine lv_iload_n hx hb dX0_highest_40 rfl (lv_at hl 2 rfl) ?_
          refine ko_e (va_runS (As := [.int i0_5, .int p1]) (rest := [.ref h1]) ⟨hx, hb, hml, hown, htG⟩ (kX0_cellOf l g i0_5 p1 _ rfl) (va_cwS 2 htG (GS g2_138 g2_139 g1_3 g2_140) rfl rfl rfl hs_X0_cellOf ⟨Nat.le_of_ble_eq_true rfl, Nat.le_of_ble_eq_true rfl⟩) (PR_S hK hL hS hP [] rfl) rfl rfl hl.1 rfl (lv_room (Nat.le_of_ble_eq_true rfl)) dX0_highest_41 ⟨Nat.zero_le _, Nat.zero_le _⟩) ?_
          refine ko_e (va_runS (As := [.ref h1, .int (fX0_cellOf i0_5 p1)]) (rest := []) ⟨hx, hb, hml, hown, htG⟩ (kX4_at l g h1 x.1 288 (fX0_cellOf i0_5 p1) (by decide)) (va_cwS 2 htG (GS g2_141 g2_61 g1_5 g2_62) rfl rfl rfl hs_X4_at ⟨Nat.le_of_ble_eq_true rfl, Nat.le_of_ble_eq_true rfl⟩) (PT_S hK (va_T_of hK hP 1 rfl)) rfl rfl hl.1 rfl (lv_room (Nat.le_of_ble_eq_true rfl)) dX0_highest_44 ⟨Nat.zero_le _, Nat.zero_le _⟩) ?_
          refine lv_iload_n hx hb dX0_highest_47 rfl (lv_at hl 3 rfl) ?_
          refine lv_icmp_gt (tgt := 55) hx hb dX0_highest_48 (by decide) (fun zc5 => ?_) (fun zc5 => ?_)
          · replace hm := (if_pos zc5).symm.trans hm
            refine lv_iconst (v := 0) hx hb dX0_highest_55 (by decide) ?_
            refine lv_istore (lv' := [(7, .int 0), (6, .int zv2), (0, .ref h0), (1, .int p1), (2, .int p2), (3, .int p3), (4, .int i0_4), (5, .int i0_5)]) hx hb dX0_highest_56 hl (by decide) rfl (fun ls hl => ?_)
            refine lv_iload hx hb dX0_highest_58 (lv_at hl 0 rfl) ?_
            refine lv_if_eq (tgt := 75) hx hb dX0_highest_60 (by decide) (fun _ => ?_) (fun zc6 => absurd zc6 (by decide))
            refine lv_iload hx hb dX0_highest_75 (lv_at hl 6 rfl) ?_
            refine lv_istore (lv' := [(4, .int i0_4), (7, .int 0), (6, .int zv2), (0, .ref h0), (1, .int p1), (2, .int p2), (3, .int p3), (5, .int i0_5)]) hx hb dX0_highest_77 hl (by decide) rfl (fun ls hl => ?_)
            refine lv_iinc (v := i0_5 + 1) (lv' := [(5, .int (i0_5 + 1)), (4, .int i0_4), (7, .int 0), (6, .int zv2), (0, .ref h0), (1, .int p1), (2, .int p2), (3, .int p3)]) hx hb dX0_highest_79 hl (k := 7) rfl rfl (by decide) rfl (fun ls hl => ?_)
            refine lv_goto (tgt := 6) hx hb dX0_highest_82 (by decide) ?_
            exact ih i0_4 (i0_5 + 1) out ls hm (lv_sub hl [4, 5, 6, 7, 1, 0] rfl) hk
          · replace hm := (if_neg zc5).symm.trans hm
            refine lv_iconst (v := 1) hx hb dX0_highest_51 (by decide) ?_
            refine lv_goto (tgt := 56) hx hb dX0_highest_52 (by decide) ?_
            refine lv_istore (lv' := [(7, .int 1), (6, .int zv2), (0, .ref h0), (1, .int p1), (2, .int p2), (3, .int p3), (4, .int i0_4), (5, .int i0_5)]) hx hb dX0_highest_56 hl (by decide) rfl (fun ls hl => ?_)
            refine lv_iload hx hb dX0_highest_58 (lv_at hl 0 rfl) ?_
            refine lv_if_eq (tgt := 75) hx hb dX0_highest_60 (by decide) (fun zc7 => absurd zc7 (by decide)) (fun _ => ?_)
            refine lv_iload hx hb dX0_highest_63 (lv_at hl 1 rfl) ?_
            refine lv_iload hx hb dX0_highest_65 (lv_at hl 6 rfl) ?_
            refine lv_icmp_le (tgt := 75) hx hb dX0_highest_67 (by decide) (fun zc8 => ?_) (fun zc8 => ?_)
            · replace hm := (if_pos zc8).symm.trans hm
              refine lv_iload hx hb dX0_highest_75 (lv_at hl 6 rfl) ?_
              refine lv_istore (lv' := [(4, .int i0_4), (7, .int 1), (6, .int zv2), (0, .ref h0), (1, .int p1), (2, .int p2), (3, .int p3), (5, .int i0_5)]) hx hb dX0_highest_77 hl (by decide) rfl (fun ls hl => ?_)
              refine lv_iinc (v := i0_5 + 1) (lv' := [(5, .int (i0_5 + 1)), (4, .int i0_4), (7, .int 1), (6, .int zv2), (0, .ref h0), (1, .int p1), (2, .int p2), (3, .int p3)]) hx hb dX0_highest_79 hl (k := 7) rfl rfl (by decide) rfl (fun ls hl => ?_)
              refine lv_goto (tgt := 6) hx hb dX0_highest_82 (by decide) ?_
              exact ih i0_4 (i0_5 + 1) out ls hm (lv_sub hl [4, 5, 6, 7, 1, 0] rfl) hk
            · replace hm := (if_neg zc8).symm.trans hm
              refine lv_iload hx hb dX0_highest_70 (lv_at hl 1 rfl) ?_
              refine lv_goto (tgt := 77) hx hb dX0_highest_72 (by decide) ?_
              refine lv_istore (lv' := [(4, .int zv2), (7, .int 1), (6, .int zv2), (0, .ref h0), (1, .int p1), (2, .int p2), (3, .int p3), (5, .int i0_5)]) hx hb dX0_highest_77 hl (by decide) rfl (fun ls hl => ?_)
              refine lv_iinc (v := i0_5 + 1) (lv' := [(5, .int (i0_5 + 1)), (4, .int zv2), (7, .int 1), (6, .int zv2), (0, .ref h0), (1, .int p1), (2, .int p2), (3, .int p3)]) hx hb dX0_highest_79 hl (k := 7) rfl rfl (by decide) rfl (fun ls hl => ?_)
              refine lv_goto (tgt := 6) hx hb dX0_highest_82 (by decide) ?_
              exact ih zv2 (i0_5 + 1) out ls hm (lv_sub hl [4, 5, 6, 7, 1, 0] rfl) hk
  refine lv_iconst (v := 0) hx hb dX0_highest_0 (by decide) ?_
  refine lv_istore (lv' := [(4, .int 0), (0, .ref h0), (1, .int p1), (2, .int p2), (3, .int p3)]) hx hb dX0_highest_1 hl (by decide) rfl (fun ls hl => ?_)
  refine lv_iconst (v := 0) hx hb dX0_highest_3 (by decide) ?_
  refine lv_istore (lv' := [(5, .int 0), (4, .int 0), (0, .ref h0), (1, .int p1), (2, .int p2), (3, .int p3)]) hx hb dX0_highest_4 hl (by decide) rfl (fun ls hl => ?_)
  obtain ⟨zq9, hzq9, hm⟩ := bdk hm
  refine hL0 _ 1000 0 0 zq9 _ hzq9 (lv_sub hl [2, 3, 4, 5, 1, 0] rfl) (fun ls hl => ?_)
  refine lv_iload hx hb dX0_highest_85 (lv_at hl 0 rfl) ?_
  exact W.iret (v := zq9) hx hb hr (fun t ht hW => ⟨_, rfl, (Option.some.inj hm), ht⟩) (fun _ h => nomatch h) dX0_highest_87
def fX0_winner_L0 (x : BD) (p1 : Int32) (p2 : Int32) : Nat → Int32 → Int32 → Int32 → Option (Int32)
  | 0, _, _, _ => none
  | n + 1, i0_3, i0_4, i0_5 => (if 6 ≤ i0_5 then (some i0_3) else (bnd (rat x.2 288 (fX0_cellOf i0_5 p1)) (fun zv2 => (if zv2 ≤ i0_4 then (fX0_winner_L0 x p1 p2 n i0_3 i0_4 (i0_5 + 1)) else (if p2 < (rat x.1 288 (fX0_cellOf i0_5 p1)) then (fX0_winner_L0 x p1 p2 n i0_3 i0_4 (i0_5 + 1)) else (fX0_winner_L0 x p1 p2 n i0_5 zv2 (i0_5 + 1)))))))
def fX0_winner (x : BD) (p1 : Int32) (p2 : Int32) : Option (Int32) := ((fX0_winner_L0 x p1 p2 1000 (-5) 0 0).bind (fun zq5 => some zq5))
abbrev rm_X0_winner : Jvm.Room := { frames := 1, cells := 0, slots := 0, locals := 21 }
theorem hd_X0_winner : yX0_winner.cls = RX0 ∧ yX0_winner.cls ≠ "java/lang/invoke/MethodHandle" ∧ yX0_winner.cls ≠ "java/lang/invoke/VarHandle" ∧ (parseMethodDescriptor yX0_winner.desc).map (fun d => d.parameters.length) = some 2 := by decide +kernel
set_option maxHeartbeats 4000000 in
set_option maxRecDepth 100000 in
theorem kX0_winner (l : Launch) (g : CX) (h0 h1 h2 : Nat) (x : BD) (p1 : Int32) (p2 : Int32) (res : Int32) (hm0 : fX0_winner x p1 p2 = some res) : Met l yX0_winner (wg yX0_winner cX0_winner 7 (some .int)) rm_X0_winner (PR g [.ref h0, .int p1, .int p2] (w_X0 g h0 h1 h2 x)) (vp_Si (fun v => v = res)) 0 0 (fun _ => False) := by
  refine Met.ofW (cc := cX0_winner) (maxL := 7) (ret := (some .int)) (by decide) rfl ?_
  intro p e s m args below meth c s₁ B hml hv
  obtain ⟨rfl, hP, hK, hL⟩ := hv
  have hx := B.exec
  have hb := B.bytes
  have hr := B.returns
  have htG := wg_G (atoms_spec (ws := wg yX0_winner cX0_winner 7 (some .int)) B.pre)
  have hown : s.vm.findClass RX0 = some m.cls := findClass_of_methodNamed B.named
  have hlocks := B.notSynchronized
  have hS : va_S (fun _ => False) s.heap s.heap [] := va_S.rf
  have hl := lv_entry ([.ref h0, .int p1, .int p2]) (n := 7) (Nat.le_of_ble_eq_true rfl)
  rw [lg_entry_eq]
  generalize (lg_sl ([.ref h0, .int p1, .int p2]) ++ List.replicate (7 - (lg_sl ([.ref h0, .int p1, .int p2])).length) Slot.unset).toArray = ls at hl ⊢
  have hl : lv_has ls 7 [(0, .ref h0), (1, .int p1), (2, .int p2)] := hl
  have hm := hm0
  unfold fX0_winner at hm
  have hL0 : ∀ (Q : State → Prop), ∀ (n : Nat) (i0_3 : Int32) (i0_4 : Int32) (i0_5 : Int32) (out : Int32) (ls : Array Slot), fX0_winner_L0 x p1 p2 n i0_3 i0_4 i0_5 = some out → lv_has ls 7 [(0, .ref h0), (1, .int p1), (2, .int p2), (3, .int i0_3), (4, .int i0_4), (5, .int i0_5)] → (∀ ls : Array Slot, lv_has ls 7 [(3, .int out)] → W p l e (headSpec (wg yX0_winner cX0_winner 7 (some .int)) rm_X0_winner).room s m (([.ref h0, .int p1, .int p2] : List Value).toArray) below meth c s.heap [] 0 0 Q (F0 m 68 ls [])) → W p l e (headSpec (wg yX0_winner cX0_winner 7 (some .int)) rm_X0_winner).room s m (([.ref h0, .int p1, .int p2] : List Value).toArray) below meth c s.heap [] 0 0 Q (F0 m 9 ls []) := by
    intro Q n
    induction n with
    | zero =>
      intro i0_3 i0_4 i0_5 out ls hm hl hk
      simp [fX0_winner_L0] at hm
    | succ n ih =>
      intro i0_3 i0_4 i0_5 out ls hm hl hk
      rw [fX0_winner_L0] at hm
      refine lv_iload hx hb dX0_winner_9 (lv_at hl 5 rfl) ?_
      refine lv_bipush (v := 6) hx hb dX0_winner_11 (by decide +kernel) ?_
      refine lv_icmp_ge (tgt := 68) hx hb dX0_winner_13 (by decide) (fun zc1 => ?_) (fun zc1 => ?_)
      · replace hm := (if_pos zc1).symm.trans hm
        obtain rfl := Option.some.inj hm
        exact hk ls (lv_sub hl [3] rfl)
      · replace hm := (if_neg zc1).symm.trans hm
        refine lv_aload_n hx hb dX0_winner_16 rfl (lv_at hl 0 rfl) ?_
        refine va_get (D := g.1) (ci := 0) (v := .ref h2) (C := RX0) (T := TX0) (N := 2) hx hb htG in_wsX00 hown hK.1 hP 0 rfl rfl 1 (by decide) (htG _ g1_33) (fun _ h9 => h9) rfl dX0_winner_17 ?_
        refine lv_iload hx hb dX0_winner_20 (lv_at hl 5 rfl) ?_
        refine lv_iload_n hx hb dX0_winner_22 rfl (lv_at hl 1 rfl) ?_
        refine ko_e (va_runS (As := [.int i0_5, .int p1]) (rest := [.ref h2]) ⟨hx, hb, hml, hown, htG⟩ (kX0_cellOf l g i0_5 p1 _ rfl) (va_cwS 2 htG (GS g2_138 g2_139 g1_3 g2_140) rfl rfl rfl hs_X0_cellOf ⟨Nat.le_of_ble_eq_true rfl, Nat.le_of_ble_eq_true rfl⟩) (PR_S hK hL hS hP [] rfl) rfl rfl hl.1 rfl (lv_room (Nat.le_of_ble_eq_true rfl)) dX0_winner_23 ⟨Nat.zero_le _, Nat.zero_le _⟩) ?_
        refine ko_e (va_runS (As := [.ref h2, .int (fX0_cellOf i0_5 p1)]) (rest := []) ⟨hx, hb, hml, hown, htG⟩ (kX4_at l g h2 x.2 288 (fX0_cellOf i0_5 p1) (by decide)) (va_cwS 2 htG (GS g2_141 g2_61 g1_5 g2_62) rfl rfl rfl hs_X4_at ⟨Nat.le_of_ble_eq_true rfl, Nat.le_of_ble_eq_true rfl⟩) (PT_S hK (va_T_of hK hP 2 rfl)) rfl rfl hl.1 rfl (lv_room (Nat.le_of_ble_eq_true rfl)) dX0_winner_26 ⟨Nat.zero_le _, Nat.zero_le _⟩) ?_
        obtain ⟨zv2, ezv2, hm⟩ := bnk hm
        refine tope ezv2 ?_
        refine lv_istore (lv' := [(6, .int zv2), (0, .ref h0), (1, .int p1), (2, .int p2), (3, .int i0_3), (4, .int i0_4), (5, .int i0_5)]) hx hb dX0_winner_29 hl (by decide) rfl (fun ls hl => ?_)
        refine lv_iload hx hb dX0_winner_31 (lv_at hl 0 rfl) ?_
        refine lv_iload hx hb dX0_winner_33 (lv_at hl 5 rfl) ?_
        refine lv_icmp_le (tgt := 62) hx hb dX0_winner_35 (by decide) (fun zc3 => ?_) (fun zc3 => ?_)
        · replace hm := (if_pos zc3).symm.trans hm
          refine lv_iinc (v := i0_5 + 1) (lv' := [(5, .int (i0_5 + 1)), (6, .int zv2), (0, .ref h0), (1, .int p1), (2, .int p2), (3, .int i0_3), (4, .int i0_4)]) hx hb dX0_winner_62 hl (k := 6) rfl rfl (by decide) rfl (fun ls hl => ?_)
          refine lv_goto (tgt := 9) hx hb dX0_winner_65 (by decide) ?_
          exact ih i0_3 i0_4 (i0_5 + 1) out ls hm (lv_sub hl [2, 3, 4, 5, 6, 0] rfl) hk
        · replace hm := (if_neg zc3).symm.trans hm
          refine lv_aload_n hx hb dX0_winner_38 rfl (lv_at hl 1 rfl) ?_
          refine va_get (D := g.1) (ci := 0) (v := .ref h1) (C := RX0) (T := TX0) (N := 2) hx hb htG in_wsX00 hown hK.1 hP 0 rfl rfl 0 (by decide) (htG _ g1_32) (fun _ h9 => h9) rfl dX0_winner_39 ?_
          refine lv_iload hx hb dX0_winner_42 (lv_at hl 6 rfl) ?_
          refine lv_iload_n hx hb dX0_winner_44 rfl (lv_at hl 2 rfl) ?_
          refine ko_e (va_runS (As := [.int i0_5, .int p1]) (rest := [.ref h1]) ⟨hx, hb, hml, hown, htG⟩ (kX0_cellOf l g i0_5 p1 _ rfl) (va_cwS 2 htG (GS g2_138 g2_139 g1_3 g2_140) rfl rfl rfl hs_X0_cellOf ⟨Nat.le_of_ble_eq_true rfl, Nat.le_of_ble_eq_true rfl⟩) (PR_S hK hL hS hP [] rfl) rfl rfl hl.1 rfl (lv_room (Nat.le_of_ble_eq_true rfl)) dX0_winner_45 ⟨Nat.zero_le _, Nat.zero_le _⟩) ?_
          refine ko_e (va_runS (As := [.ref h1, .int (fX0_cellOf i0_5 p1)]) (rest := []) ⟨hx, hb, hml, hown, htG⟩ (kX4_at l g h1 x.1 288 (fX0_cellOf i0_5 p1) (by decide)) (va_cwS 2 htG (GS g2_141 g2_61 g1_5 g2_62) rfl rfl rfl hs_X4_at ⟨Nat.le_of_ble_eq_true rfl, Nat.le_of_ble_eq_true rfl⟩) (PT_S hK (va_T_of hK hP 1 rfl)) rfl rfl hl.1 rfl (lv_room (Nat.le_of_ble_eq_true rfl)) dX0_winner_48 ⟨Nat.zero_le _, Nat.zero_le _⟩) ?_
          refine lv_iload_n hx hb dX0_winner_51 rfl (lv_at hl 3 rfl) ?_
          refine lv_icmp_gt (tgt := 62) hx hb dX0_winner_52 (by decide) (fun zc4 => ?_) (fun zc4 => ?_)
          · replace hm := (if_pos zc4).symm.trans hm
            refine lv_iinc (v := i0_5 + 1) (lv' := [(5, .int (i0_5 + 1)), (6, .int zv2), (0, .ref h0), (1, .int p1), (2, .int p2), (3, .int i0_3), (4, .int i0_4)]) hx hb dX0_winner_62 hl (k := 6) rfl rfl (by decide) rfl (fun ls hl => ?_)
            refine lv_goto (tgt := 9) hx hb dX0_winner_65 (by decide) ?_
            exact ih i0_3 i0_4 (i0_5 + 1) out ls hm (lv_sub hl [2, 3, 4, 5, 6, 0] rfl) hk
          · replace hm := (if_neg zc4).symm.trans hm
            refine lv_iload hx hb dX0_winner_55 (lv_at hl 6 rfl) ?_
            refine lv_istore_n (lv' := [(3, .int i0_5), (6, .int zv2), (0, .ref h0), (1, .int p1), (2, .int p2), (4, .int i0_4), (5, .int i0_5)]) hx hb dX0_winner_57 rfl hl (by decide) rfl (fun ls hl => ?_)
            refine lv_iload hx hb dX0_winner_58 (lv_at hl 1 rfl) ?_
            refine lv_istore (lv' := [(4, .int zv2), (3, .int i0_5), (6, .int zv2), (0, .ref h0), (1, .int p1), (2, .int p2), (5, .int i0_5)]) hx hb dX0_winner_60 hl (by decide) rfl (fun ls hl => ?_)
            refine lv_iinc (v := i0_5 + 1) (lv' := [(5, .int (i0_5 + 1)), (4, .int zv2), (3, .int i0_5), (6, .int zv2), (0, .ref h0), (1, .int p1), (2, .int p2)]) hx hb dX0_winner_62 hl (k := 6) rfl rfl (by decide) rfl (fun ls hl => ?_)
            refine lv_goto (tgt := 9) hx hb dX0_winner_65 (by decide) ?_
            exact ih i0_5 zv2 (i0_5 + 1) out ls hm (lv_sub hl [4, 5, 6, 2, 1, 0] rfl) hk
  refine lv_bipush (v := (-5)) hx hb dX0_winner_0 (by decide +kernel) ?_
  refine lv_istore_n (lv' := [(3, .int (-5)), (0, .ref h0), (1, .int p1), (2, .int p2)]) hx hb dX0_winner_2 rfl hl (by decide) rfl (fun ls hl => ?_)
  refine lv_iconst (v := 0) hx hb dX0_winner_3 (by decide) ?_
  refine lv_istore (lv' := [(4, .int 0), (3, .int (-5)), (0, .ref h0), (1, .int p1), (2, .int p2)]) hx hb dX0_winner_4 hl (by decide) rfl (fun ls hl => ?_)
  refine lv_iconst (v := 0) hx hb dX0_winner_6 (by decide) ?_
  refine lv_istore (lv' := [(5, .int 0), (4, .int 0), (3, .int (-5)), (0, .ref h0), (1, .int p1), (2, .int p2)]) hx hb dX0_winner_7 hl (by decide) rfl (fun ls hl => ?_)
  obtain ⟨zq5, hzq5, hm⟩ := bdk hm
  refine hL0 _ 1000 (-5) 0 0 zq5 _ hzq5 (lv_sub hl [3, 4, 5, 2, 1, 0] rfl) (fun ls hl => ?_)
  refine lv_iload_n hx hb dX0_winner_68 rfl (lv_at hl 0 rfl) ?_
  exact W.iret (v := zq5) hx hb hr (fun t ht hW => ⟨_, rfl, (Option.some.inj hm), ht⟩) (fun _ h => nomatch h) dX0_winner_69
