def fX3_length (x : PD) : Int32 := x.2.1
abbrev rm_X3_length : Jvm.Room := { frames := 0, cells := 0, slots := 0, locals := 0 }
theorem hd_X3_length : yX3_length.cls = RX3 ∧ yX3_length.cls ≠ "java/lang/invoke/MethodHandle" ∧ yX3_length.cls ≠ "java/lang/invoke/VarHandle" ∧ (parseMethodDescriptor yX3_length.desc).map (fun d => d.parameters.length) = some 0 := by decide +kernel
set_option maxHeartbeats 4000000 in
set_option maxRecDepth 100000 in
theorem kX3_length (l : Launch) (g : CX) (h0 h1 : Nat) (x : PD) (res : Int32) (hm0 : fX3_length x = res) : Met l yX3_length (wg yX3_length cX3_length 1 (some .int)) rm_X3_length (PR g [.ref h0] (w_X3 g h0 h1 x)) (vp_Si (fun v => v = res)) 0 0 (fun _ => False) := by
  refine Met.ofW (cc := cX3_length) (maxL := 1) (ret := (some .int)) (by decide) rfl ?_
  intro p e s m args below meth c s₁ B hml hv
  obtain ⟨rfl, hP, hK, hL⟩ := hv
  have hx := B.exec
  have hb := B.bytes
  have hr := B.returns
  have htG := wg_G (atoms_spec (ws := wg yX3_length cX3_length 1 (some .int)) B.pre)
  have hown : s.vm.findClass RX3 = some m.cls := findClass_of_methodNamed B.named
  have hlocks := B.notSynchronized
  have hS : va_S (fun _ => False) s.heap s.heap [] := va_S.rf
  have hl := lv_entry ([.ref h0]) (n := 1) (Nat.le_of_ble_eq_true rfl)
  rw [lg_entry_eq]
  generalize (lg_sl ([.ref h0]) ++ List.replicate (1 - (lg_sl ([.ref h0])).length) Slot.unset).toArray = ls at hl ⊢
  have hl : lv_has ls 1 [(0, .ref h0)] := hl
  have hm := hm0
  unfold fX3_length at hm
  refine lv_aload_n hx hb dX3_length_0 rfl (lv_at hl 0 rfl) ?_
  refine va_get (D := g.1) (ci := 3) (v := .int x.2.1) (C := RX3) (T := TX3) (N := 11) hx hb htG in_wsX30 hown hK.1 hP 0 rfl rfl 1 (by decide) (htG _ g1_183) (fun _ h9 => h9) rfl dX3_length_1 ?_
  exact W.iret (v := x.2.1) hx hb hr (fun t ht hW => ⟨_, rfl, hm, ht⟩) (fun _ h => nomatch h) dX3_length_4
def fX3_rewind (x : PD) : PD := (x.1, x.2.1, 0, 0, x.2.2.2.2.1, x.2.2.2.2.2.1, x.2.2.2.2.2.2.1, x.2.2.2.2.2.2.2.1, x.2.2.2.2.2.2.2.2.1, x.2.2.2.2.2.2.2.2.2.1, x.2.2.2.2.2.2.2.2.2.2)
abbrev rm_X3_rewind : Jvm.Room := { frames := 0, cells := 0, slots := 0, locals := 0 }
theorem hd_X3_rewind : yX3_rewind.cls = RX3 ∧ yX3_rewind.cls ≠ "java/lang/invoke/MethodHandle" ∧ yX3_rewind.cls ≠ "java/lang/invoke/VarHandle" ∧ (parseMethodDescriptor yX3_rewind.desc).map (fun d => d.parameters.length) = some 0 := by decide +kernel
set_option maxHeartbeats 4000000 in
set_option maxRecDepth 100000 in
theorem kX3_rewind (l : Launch) (g : CX) (h0 h1 : Nat) (sz : Nat) (x : PD) (res : PD) (hm0 : fX3_rewind x = res) : Met l yX3_rewind (wg yX3_rewind cX3_rewind 1 none) rm_X3_rewind (PW g [.ref h0] sz (w_X3 g h0 h1 x)) (va_Qv (fun u => u = res) (fun u t => va_P g.1 vwCl (w_X3 g h0 h1 u) t.heap) (va_A (w_X3 g h0 h1 x) sz)) 0 0 (va_A (w_X3 g h0 h1 x) sz) := by
  refine Met.ofW (cc := cX3_rewind) (maxL := 1) (ret := none) (by decide) rfl ?_
  intro p e s m args below meth c s₁ B hml hv
  obtain ⟨rfl, hsz, hP, hK, hD0, hL⟩ := hv
  have hx := B.exec
  have hb := B.bytes
  have hr := B.returns
  have htG := wg_G (atoms_spec (ws := wg yX3_rewind cX3_rewind 1 none) B.pre)
  have hown : s.vm.findClass RX3 = some m.cls := findClass_of_methodNamed B.named
  have hlocks := B.notSynchronized
  subst hsz
  have hD := hD0.self (sz := s.heap.size)
  generalize hAe : va_A (w_X3 g h0 h1 x) s.heap.size = A at hD hL ⊢
  have hA : ∀ q : Nat, s.heap.size ≤ q → A q := fun q h => by rw [← hAe]; exact Or.inr h
  have hS : va_S A s.heap s.heap [] := va_S.rf
  have hl := lv_entry ([.ref h0]) (n := 1) (Nat.le_of_ble_eq_true rfl)
  rw [lg_entry_eq]
  generalize (lg_sl ([.ref h0]) ++ List.replicate (1 - (lg_sl ([.ref h0])).length) Slot.unset).toArray = ls at hl ⊢
  have hl : lv_has ls 1 [(0, .ref h0)] := hl
  have hm := hm0
  unfold fX3_rewind at hm
  refine lv_aload_n hx hb dX3_rewind_0 rfl (lv_at hl 0 rfl) ?_
  refine lv_iconst (v := 0) hx hb dX3_rewind_1 (by decide) ?_
  refine va_put (D := g.1) (ci := 3) (v := .int 0) (ty := .int) (C := RX3) (T := TX3) (N := 11) hx hb htG in_wsX30 tyX3 tyX3_ok nmX3 hown hK.1 hP hD hS 0 rfl rfl 2 (by decide) (htG _ g1_184) (fun _ h9 => h9) rfl (by decide +kernel) rfl rfl (Nat.le_of_ble_eq_true rfl) dX3_rewind_2 (fun H locs hP hD hS => ?_)
  have hP : va_P g.1 vwCl (w_X3 g h0 h1 (x.1, x.2.1, 0, x.2.2.2.1, x.2.2.2.2.1, x.2.2.2.2.2.1, x.2.2.2.2.2.2.1, x.2.2.2.2.2.2.2.1, x.2.2.2.2.2.2.2.2.1, x.2.2.2.2.2.2.2.2.2.1, x.2.2.2.2.2.2.2.2.2.2)) H := hP
  have hD : va_D A (w_X3 g h0 h1 (x.1, x.2.1, 0, x.2.2.2.1, x.2.2.2.2.1, x.2.2.2.2.2.1, x.2.2.2.2.2.2.1, x.2.2.2.2.2.2.2.1, x.2.2.2.2.2.2.2.2.1, x.2.2.2.2.2.2.2.2.2.1, x.2.2.2.2.2.2.2.2.2.2)) := hD
  refine lv_aload_n hx hb dX3_rewind_5 rfl (lv_at hl 0 rfl) ?_
  refine lv_iconst (v := 0) hx hb dX3_rewind_6 (by decide) ?_
  refine va_put (D := g.1) (ci := 3) (v := .int 0) (ty := .boolean) (C := RX3) (T := TX3) (N := 11) hx hb htG in_wsX30 tyX3 tyX3_ok nmX3 hown hK.1 hP hD hS 0 rfl rfl 3 (by decide) (htG _ g1_185) (fun _ h9 => h9) rfl (by decide +kernel) rfl rfl (Nat.le_of_ble_eq_true rfl) dX3_rewind_7 (fun H locs hP hD hS => ?_)
  have hP : va_P g.1 vwCl (w_X3 g h0 h1 (x.1, x.2.1, 0, 0, x.2.2.2.2.1, x.2.2.2.2.2.1, x.2.2.2.2.2.2.1, x.2.2.2.2.2.2.2.1, x.2.2.2.2.2.2.2.2.1, x.2.2.2.2.2.2.2.2.2.1, x.2.2.2.2.2.2.2.2.2.2)) H := hP
  have hD : va_D A (w_X3 g h0 h1 (x.1, x.2.1, 0, 0, x.2.2.2.2.1, x.2.2.2.2.2.1, x.2.2.2.2.2.2.1, x.2.2.2.2.2.2.2.1, x.2.2.2.2.2.2.2.2.1, x.2.2.2.2.2.2.2.2.2.1, x.2.2.2.2.2.2.2.2.2.2)) := hD
  exact W.vret hx hb hr (fun t ht hW => ⟨⟨_, rfl, hm, atH ht hP⟩, hS.F ht⟩) hS.2.2 dX3_rewind_10
def fX3_sign (x : PD) : Option (Int32) := (if x.2.2.1 < 0 then some (-1) else (if x.2.1 ≤ x.2.2.1 then some (-1) else (if 80 ≤ x.2.2.1 then some (-1) else (if ib x.2.2.1 80 = true then some (x.1 x.2.2.1.toNatClampNeg) else none))))
abbrev rm_X3_sign : Jvm.Room := { frames := 0, cells := 0, slots := 0, locals := 0 }
theorem hd_X3_sign : yX3_sign.cls = RX3 ∧ yX3_sign.cls ≠ "java/lang/invoke/MethodHandle" ∧ yX3_sign.cls ≠ "java/lang/invoke/VarHandle" ∧ (parseMethodDescriptor yX3_sign.desc).map (fun d => d.parameters.length) = some 0 := by decide +kernel
set_option maxHeartbeats 4000000 in
set_option maxRecDepth 100000 in
theorem kX3_sign (l : Launch) (g : CX) (h0 h1 : Nat) (x : PD) (res : Int32) (hm0 : fX3_sign x = some res) : Met l yX3_sign (wg yX3_sign cX3_sign 2 (some .int)) rm_X3_sign (PR g [.ref h0] (w_X3 g h0 h1 x)) (vp_Si (fun v => v = res)) 0 0 (fun _ => False) := by
  refine Met.ofW (cc := cX3_sign) (maxL := 2) (ret := (some .int)) (by decide) rfl ?_
  intro p e s m args below meth c s₁ B hml hv
  obtain ⟨rfl, hP, hK, hL⟩ := hv
  have hx := B.exec
  have hb := B.bytes
  have hr := B.returns
  have htG := wg_G (atoms_spec (ws := wg yX3_sign cX3_sign 2 (some .int)) B.pre)
  have hown : s.vm.findClass RX3 = some m.cls := findClass_of_methodNamed B.named
  have hlocks := B.notSynchronized
  have hS : va_S (fun _ => False) s.heap s.heap [] := va_S.rf
  have hl := lv_entry ([.ref h0]) (n := 2) (Nat.le_of_ble_eq_true rfl)
  rw [lg_entry_eq]
  generalize (lg_sl ([.ref h0]) ++ List.replicate (2 - (lg_sl ([.ref h0])).length) Slot.unset).toArray = ls at hl ⊢
  have hl : lv_has ls 2 [(0, .ref h0)] := hl
  have hm := hm0
  unfold fX3_sign at hm
  refine lv_aload_n hx hb dX3_sign_0 rfl (lv_at hl 0 rfl) ?_
  refine va_get (D := g.1) (ci := 3) (v := .int x.2.2.1) (C := RX3) (T := TX3) (N := 11) hx hb htG in_wsX30 hown hK.1 hP 0 rfl rfl 2 (by decide) (htG _ g1_184) (fun _ h9 => h9) rfl dX3_sign_1 ?_
  refine lv_if_lt (tgt := 34) hx hb dX3_sign_4 (by decide) (fun zc1 => ?_) (fun zc1 => ?_)
  · replace hm := (if_pos zc1).symm.trans hm
    refine lv_iconst (v := 0) hx hb dX3_sign_34 (by decide) ?_
    refine lv_istore_n (lv' := [(1, .int 0), (0, .ref h0)]) hx hb dX3_sign_35 rfl hl (by decide) rfl (fun ls hl => ?_)
    refine lv_iload_n hx hb dX3_sign_36 rfl (lv_at hl 0 rfl) ?_
    refine lv_if_eq (tgt := 52) hx hb dX3_sign_37 (by decide) (fun _ => ?_) (fun zc2 => absurd zc2 (by decide))
    refine lv_iconst (v := (-1)) hx hb dX3_sign_52 (by decide) ?_
    exact W.iret (v := (-1)) hx hb hr (fun t ht hW => ⟨_, rfl, (Option.some.inj hm), ht⟩) (fun _ h => nomatch h) dX3_sign_53
  · replace hm := (if_neg zc1).symm.trans hm
    refine lv_aload_n hx hb dX3_sign_7 rfl (lv_at hl 0 rfl) ?_
    refine va_get (D := g.1) (ci := 3) (v := .int x.2.2.1) (C := RX3) (T := TX3) (N := 11) hx hb htG in_wsX30 hown hK.1 hP 0 rfl rfl 2 (by decide) (htG _ g1_184) (fun _ h9 => h9) rfl dX3_sign_8 ?_
    refine lv_aload_n hx hb dX3_sign_11 rfl (lv_at hl 0 rfl) ?_
    refine va_get (D := g.1) (ci := 3) (v := .int x.2.1) (C := RX3) (T := TX3) (N := 11) hx hb htG in_wsX30 hown hK.1 hP 0 rfl rfl 1 (by decide) (htG _ g1_183) (fun _ h9 => h9) rfl dX3_sign_12 ?_
    refine lv_icmp_ge (tgt := 34) hx hb dX3_sign_15 (by decide) (fun zc3 => ?_) (fun zc3 => ?_)
    · replace hm := (if_pos zc3).symm.trans hm
      refine lv_iconst (v := 0) hx hb dX3_sign_34 (by decide) ?_
      refine lv_istore_n (lv' := [(1, .int 0), (0, .ref h0)]) hx hb dX3_sign_35 rfl hl (by decide) rfl (fun ls hl => ?_)
      refine lv_iload_n hx hb dX3_sign_36 rfl (lv_at hl 0 rfl) ?_
      refine lv_if_eq (tgt := 52) hx hb dX3_sign_37 (by decide) (fun _ => ?_) (fun zc4 => absurd zc4 (by decide))
      refine lv_iconst (v := (-1)) hx hb dX3_sign_52 (by decide) ?_
      exact W.iret (v := (-1)) hx hb hr (fun t ht hW => ⟨_, rfl, (Option.some.inj hm), ht⟩) (fun _ h => nomatch h) dX3_sign_53
    · replace hm := (if_neg zc3).symm.trans hm
      refine lv_aload_n hx hb dX3_sign_18 rfl (lv_at hl 0 rfl) ?_
      refine va_get (D := g.1) (ci := 3) (v := .int x.2.2.1) (C := RX3) (T := TX3) (N := 11) hx hb htG in_wsX30 hown hK.1 hP 0 rfl rfl 2 (by decide) (htG _ g1_184) (fun _ h9 => h9) rfl dX3_sign_19 ?_
      refine lv_aload_n hx hb dX3_sign_22 rfl (lv_at hl 0 rfl) ?_
      refine va_get (D := g.1) (ci := 3) (v := .ref h1) (C := RX3) (T := TX3) (N := 11) hx hb htG in_wsX30 hown hK.1 hP 0 rfl rfl 0 (by decide) (htG _ g1_182) (fun _ h9 => h9) rfl dX3_sign_23 ?_
      refine va_alen hx hb hK.1 hP 1 1 rfl rfl (v := 80) rfl dX3_sign_26 ?_
      refine lv_icmp_ge (tgt := 34) hx hb dX3_sign_27 (by decide) (fun zc5 => ?_) (fun zc5 => ?_)
      · replace hm := (if_pos zc5).symm.trans hm
        refine lv_iconst (v := 0) hx hb dX3_sign_34 (by decide) ?_
        refine lv_istore_n (lv' := [(1, .int 0), (0, .ref h0)]) hx hb dX3_sign_35 rfl hl (by decide) rfl (fun ls hl => ?_)
        refine lv_iload_n hx hb dX3_sign_36 rfl (lv_at hl 0 rfl) ?_
        refine lv_if_eq (tgt := 52) hx hb dX3_sign_37 (by decide) (fun _ => ?_) (fun zc6 => absurd zc6 (by decide))
        refine lv_iconst (v := (-1)) hx hb dX3_sign_52 (by decide) ?_
        exact W.iret (v := (-1)) hx hb hr (fun t ht hW => ⟨_, rfl, (Option.some.inj hm), ht⟩) (fun _ h => nomatch h) dX3_sign_53
      · replace hm := (if_neg zc5).symm.trans hm
        refine lv_iconst (v := 1) hx hb dX3_sign_30 (by decide) ?_
        refine lv_goto (tgt := 35) hx hb dX3_sign_31 (by decide) ?_
        refine lv_istore_n (lv' := [(1, .int 1), (0, .ref h0)]) hx hb dX3_sign_35 rfl hl (by decide) rfl (fun ls hl => ?_)
        refine lv_iload_n hx hb dX3_sign_36 rfl (lv_at hl 0 rfl) ?_
        refine lv_if_eq (tgt := 52) hx hb dX3_sign_37 (by decide) (fun zc7 => absurd zc7 (by decide)) (fun _ => ?_)
        refine lv_aload_n hx hb dX3_sign_40 rfl (lv_at hl 1 rfl) ?_
        refine va_get (D := g.1) (ci := 3) (v := .ref h1) (C := RX3) (T := TX3) (N := 11) hx hb htG in_wsX30 hown hK.1 hP 0 rfl rfl 0 (by decide) (htG _ g1_182) (fun _ h9 => h9) rfl dX3_sign_41 ?_
        refine lv_aload_n hx hb dX3_sign_44 rfl (lv_at hl 1 rfl) ?_
        refine va_get (D := g.1) (ci := 3) (v := .int x.2.2.1) (C := RX3) (T := TX3) (N := 11) hx hb htG in_wsX30 hown hK.1 hP 0 rfl rfl 2 (by decide) (htG _ g1_184) (fun _ h9 => h9) rfl dX3_sign_45 ?_
        obtain ⟨zb8, hm⟩ := ibk hm
        refine va_cald hx hb hK.1 hP 1 1 rfl rfl zb8 dX3_sign_48 ?_
        refine lv_goto (tgt := 53) hx hb dX3_sign_49 (by decide) ?_
        exact W.iret (v := (x.1 x.2.2.1.toNatClampNeg)) hx hb hr (fun t ht hW => ⟨_, rfl, (Option.some.inj hm), ht⟩) (fun _ h => nomatch h) dX3_sign_53
def fX3_take (x : PD) (p1 : Int32) : Option (PD) := ((fX3_sign x).bind (fun zq1 => (if zq1 = p1 then (if x.2.2.2.1 = 0 then (bnd (x.2.2.1 + 1) (fun zv4 => some (x.1, x.2.1, zv4, x.2.2.2.1, x.2.2.2.2.1, x.2.2.2.2.2.1, x.2.2.2.2.2.2.1, x.2.2.2.2.2.2.2.1, x.2.2.2.2.2.2.2.2.1, x.2.2.2.2.2.2.2.2.2.1, x.2.2.2.2.2.2.2.2.2.2))) else some x) else some (x.1, x.2.1, x.2.2.1, 1, x.2.2.2.2.1, x.2.2.2.2.2.1, x.2.2.2.2.2.2.1, x.2.2.2.2.2.2.2.1, x.2.2.2.2.2.2.2.2.1, x.2.2.2.2.2.2.2.2.2.1, x.2.2.2.2.2.2.2.2.2.2))))
abbrev rm_X3_take : Jvm.Room := { frames := 1, cells := 0, slots := 0, locals := 21 }
theorem hd_X3_take : yX3_take.cls = RX3 ∧ yX3_take.cls ≠ "java/lang/invoke/MethodHandle" ∧ yX3_take.cls ≠ "java/lang/invoke/VarHandle" ∧ (parseMethodDescriptor yX3_take.desc).map (fun d => d.parameters.length) = some 1 := by decide +kernel
set_option maxHeartbeats 4000000 in
set_option maxRecDepth 100000 in
theorem kX3_take (l : Launch) (g : CX) (h0 h1 : Nat) (sz : Nat) (x : PD) (p1 : Int32) (res : PD) (hm0 : fX3_take x p1 = some res) : Met l yX3_take (wg yX3_take cX3_take 2 none) rm_X3_take (PW g [.ref h0, .int p1] sz (w_X3 g h0 h1 x)) (va_Qv (fun u => u = res) (fun u t => va_P g.1 vwCl (w_X3 g h0 h1 u) t.heap) (va_A (w_X3 g h0 h1 x) sz)) 0 0 (va_A (w_X3 g h0 h1 x) sz) := by
  refine Met.ofW (cc := cX3_take) (maxL := 2) (ret := none) (by decide) rfl ?_
  intro p e s m args below meth c s₁ B hml hv
  obtain ⟨rfl, hsz, hP, hK, hD0, hL⟩ := hv
  have hx := B.exec
  have hb := B.bytes
  have hr := B.returns
  have htG := wg_G (atoms_spec (ws := wg yX3_take cX3_take 2 none) B.pre)
  have hown : s.vm.findClass RX3 = some m.cls := findClass_of_methodNamed B.named
  have hlocks := B.notSynchronized
  subst hsz
  have hD := hD0.self (sz := s.heap.size)
  generalize hAe : va_A (w_X3 g h0 h1 x) s.heap.size = A at hD hL ⊢
  have hA : ∀ q : Nat, s.heap.size ≤ q → A q := fun q h => by rw [← hAe]; exact Or.inr h
  have hS : va_S A s.heap s.heap [] := va_S.rf
  have hl := lv_entry ([.ref h0, .int p1]) (n := 2) (Nat.le_of_ble_eq_true rfl)
  rw [lg_entry_eq]
  generalize (lg_sl ([.ref h0, .int p1]) ++ List.replicate (2 - (lg_sl ([.ref h0, .int p1])).length) Slot.unset).toArray = ls at hl ⊢
  have hl : lv_has ls 2 [(0, .ref h0), (1, .int p1)] := hl
  have hm := hm0
  unfold fX3_take at hm
  refine lv_aload_n hx hb dX3_take_0 rfl (lv_at hl 0 rfl) ?_
  obtain ⟨zq1, hzq1, hm⟩ := bdk hm
  refine ko_e (va_runV (As := []) (rest := []) ⟨hx, hb, hml, hown, htG⟩ (kX3_sign l g h0 h1 x _ hzq1) (cwV 0 htG (GV g3_57 g3_59 gS_4 g1_9 g3_60) rfl rfl rfl hd_X3_sign ⟨Nat.le_of_ble_eq_true rfl, Nat.le_of_ble_eq_true rfl⟩) (PR_VA hK hL hS hP (ci := 3) rfl 0 rfl) rfl rfl hl.1 rfl (lv_room (Nat.le_of_ble_eq_true rfl)) dX3_take_1 ⟨Nat.zero_le _, Nat.zero_le _⟩) ?_
  refine lv_iload_n hx hb dX3_take_4 rfl (lv_at hl 1 rfl) ?_
  refine lv_icmp_eq (tgt := 16) hx hb dX3_take_5 (by decide) (fun zc2 => ?_) (fun zc2 => ?_)
  · replace hm := (if_pos zc2).symm.trans hm
    refine lv_aload_n hx hb dX3_take_16 rfl (lv_at hl 0 rfl) ?_
    refine va_get (D := g.1) (ci := 3) (v := .int x.2.2.2.1) (C := RX3) (T := TX3) (N := 11) hx hb htG in_wsX30 hown hK.1 hP 0 rfl rfl 3 (by decide) (htG _ g1_185) (fun _ h9 => h9) rfl dX3_take_17 ?_
    refine lv_if_ne (tgt := 33) hx hb dX3_take_20 (by decide) (fun zc3 => ?_) (fun zc3 => ?_)
    · replace hm := (if_neg zc3).symm.trans hm
      exact W.vret hx hb hr (fun t ht hW => ⟨⟨_, rfl, (Option.some.inj hm), atH ht hP⟩, hS.F ht⟩) hS.2.2 dX3_take_33
    · replace hm := (if_pos zc3).symm.trans hm
      refine lv_aload_n hx hb dX3_take_23 rfl (lv_at hl 0 rfl) ?_
      refine lv_dup hx hb dX3_take_24 rfl ?_
      refine va_get (D := g.1) (ci := 3) (v := .int x.2.2.1) (C := RX3) (T := TX3) (N := 11) hx hb htG in_wsX30 hown hK.1 hP 0 rfl rfl 2 (by decide) (htG _ g1_184) (fun _ h9 => h9) rfl dX3_take_25 ?_
      refine lv_iconst (v := 1) hx hb dX3_take_28 (by decide) ?_
      refine lv_iadd hx hb dX3_take_29 ?_
      obtain ⟨zv4, ezv4, hm⟩ := bnk hm
      refine tope ezv4 ?_
      refine va_put (D := g.1) (ci := 3) (v := .int zv4) (ty := .int) (C := RX3) (T := TX3) (N := 11) hx hb htG in_wsX30 tyX3 tyX3_ok nmX3 hown hK.1 hP hD hS 0 rfl rfl 2 (by decide) (htG _ g1_184) (fun _ h9 => h9) rfl (by decide +kernel) rfl rfl (Nat.le_of_ble_eq_true rfl) dX3_take_30 (fun H locs hP hD hS => ?_)
      have hP : va_P g.1 vwCl (w_X3 g h0 h1 (x.1, x.2.1, zv4, x.2.2.2.1, x.2.2.2.2.1, x.2.2.2.2.2.1, x.2.2.2.2.2.2.1, x.2.2.2.2.2.2.2.1, x.2.2.2.2.2.2.2.2.1, x.2.2.2.2.2.2.2.2.2.1, x.2.2.2.2.2.2.2.2.2.2)) H := hP
      have hD : va_D A (w_X3 g h0 h1 (x.1, x.2.1, zv4, x.2.2.2.1, x.2.2.2.2.1, x.2.2.2.2.2.1, x.2.2.2.2.2.2.1, x.2.2.2.2.2.2.2.1, x.2.2.2.2.2.2.2.2.1, x.2.2.2.2.2.2.2.2.2.1, x.2.2.2.2.2.2.2.2.2.2)) := hD
      exact W.vret hx hb hr (fun t ht hW => ⟨⟨_, rfl, (Option.some.inj hm), atH ht hP⟩, hS.F ht⟩) hS.2.2 dX3_take_33
  · replace hm := (if_neg zc2).symm.trans hm
    refine lv_aload_n hx hb dX3_take_8 rfl (lv_at hl 0 rfl) ?_
    refine lv_iconst (v := 1) hx hb dX3_take_9 (by decide) ?_
    refine va_put (D := g.1) (ci := 3) (v := .int 1) (ty := .boolean) (C := RX3) (T := TX3) (N := 11) hx hb htG in_wsX30 tyX3 tyX3_ok nmX3 hown hK.1 hP hD hS 0 rfl rfl 3 (by decide) (htG _ g1_185) (fun _ h9 => h9) rfl (by decide +kernel) rfl rfl (Nat.le_of_ble_eq_true rfl) dX3_take_10 (fun H locs hP hD hS => ?_)
    have hP : va_P g.1 vwCl (w_X3 g h0 h1 (x.1, x.2.1, x.2.2.1, 1, x.2.2.2.2.1, x.2.2.2.2.2.1, x.2.2.2.2.2.2.1, x.2.2.2.2.2.2.2.1, x.2.2.2.2.2.2.2.2.1, x.2.2.2.2.2.2.2.2.2.1, x.2.2.2.2.2.2.2.2.2.2)) H := hP
    have hD : va_D A (w_X3 g h0 h1 (x.1, x.2.1, x.2.2.1, 1, x.2.2.2.2.1, x.2.2.2.2.2.1, x.2.2.2.2.2.2.1, x.2.2.2.2.2.2.2.1, x.2.2.2.2.2.2.2.2.1, x.2.2.2.2.2.2.2.2.2.1, x.2.2.2.2.2.2.2.2.2.2)) := hD
    refine lv_goto (tgt := 33) hx hb dX3_take_13 (by decide) ?_
    exact W.vret hx hb hr (fun t ht hW => ⟨⟨_, rfl, (Option.some.inj hm), atH ht hP⟩, hS.F ht⟩) hS.2.2 dX3_take_33
def fX3_number_L0 (p1 : Int32) (p2 : Int32) : Nat → Int32 → Int32 → PD → Option (Int32 × PD)
  | 0, _, _, _ => none
  | n + 1, i0_3, i0_4, x0 => (if x0.2.2.2.1 = 0 then (if 3 ≤ i0_4 then (some (i0_3, x0)) else ((fX3_sign x0).bind (fun zq3 => (if (zq3 - 48) < 0 then (if i0_4 = 0 then (some (i0_3, (x0.1, x0.2.1, x0.2.2.1, 1, x0.2.2.2.2.1, x0.2.2.2.2.2.1, x0.2.2.2.2.2.2.1, x0.2.2.2.2.2.2.2.1, x0.2.2.2.2.2.2.2.2.1, x0.2.2.2.2.2.2.2.2.2.1, x0.2.2.2.2.2.2.2.2.2.2))) else (some (i0_3, (x0.1, x0.2.1, x0.2.2.1, 0, x0.2.2.2.2.1, x0.2.2.2.2.2.1, x0.2.2.2.2.2.2.1, x0.2.2.2.2.2.2.2.1, x0.2.2.2.2.2.2.2.2.1, x0.2.2.2.2.2.2.2.2.2.1, x0.2.2.2.2.2.2.2.2.2.2)))) else (if 9 < (zq3 - 48) then (if i0_4 = 0 then (some (i0_3, (x0.1, x0.2.1, x0.2.2.1, 1, x0.2.2.2.2.1, x0.2.2.2.2.2.1, x0.2.2.2.2.2.2.1, x0.2.2.2.2.2.2.2.1, x0.2.2.2.2.2.2.2.2.1, x0.2.2.2.2.2.2.2.2.2.1, x0.2.2.2.2.2.2.2.2.2.2))) else (some (i0_3, (x0.1, x0.2.1, x0.2.2.1, 0, x0.2.2.2.2.1, x0.2.2.2.2.2.1, x0.2.2.2.2.2.2.1, x0.2.2.2.2.2.2.2.1, x0.2.2.2.2.2.2.2.2.1, x0.2.2.2.2.2.2.2.2.2.1, x0.2.2.2.2.2.2.2.2.2.2)))) else (if p2 < ((i0_3 * 10) + (zq3 - 48)) then (if i0_4 = 0 then (some (i0_3, (x0.1, x0.2.1, x0.2.2.1, 1, x0.2.2.2.2.1, x0.2.2.2.2.2.1, x0.2.2.2.2.2.2.1, x0.2.2.2.2.2.2.2.1, x0.2.2.2.2.2.2.2.2.1, x0.2.2.2.2.2.2.2.2.2.1, x0.2.2.2.2.2.2.2.2.2.2))) else (some (i0_3, (x0.1, x0.2.1, x0.2.2.1, 0, x0.2.2.2.2.1, x0.2.2.2.2.2.1, x0.2.2.2.2.2.2.1, x0.2.2.2.2.2.2.2.1, x0.2.2.2.2.2.2.2.2.1, x0.2.2.2.2.2.2.2.2.2.1, x0.2.2.2.2.2.2.2.2.2.2)))) else (if i0_4 = 0 then (if p1 ≤ (zq3 - 48) then (bnd (x0.2.2.1 + 1) (fun zv30 => (fX3_number_L0 p1 p2 n ((i0_3 * 10) + (zq3 - 48)) (i0_4 + 1) (x0.1, x0.2.1, zv30, x0.2.2.2.1, x0.2.2.2.2.1, x0.2.2.2.2.2.1, x0.2.2.2.2.2.2.1, x0.2.2.2.2.2.2.2.1, x0.2.2.2.2.2.2.2.2.1, x0.2.2.2.2.2.2.2.2.2.1, x0.2.2.2.2.2.2.2.2.2.2)))) else (some (i0_3, (x0.1, x0.2.1, x0.2.2.1, 1, x0.2.2.2.2.1, x0.2.2.2.2.2.1, x0.2.2.2.2.2.2.1, x0.2.2.2.2.2.2.2.1, x0.2.2.2.2.2.2.2.2.1, x0.2.2.2.2.2.2.2.2.2.1, x0.2.2.2.2.2.2.2.2.2.2)))) else (if i0_3 = 0 then (some (i0_3, (x0.1, x0.2.1, x0.2.2.1, 0, x0.2.2.2.2.1, x0.2.2.2.2.2.1, x0.2.2.2.2.2.2.1, x0.2.2.2.2.2.2.2.1, x0.2.2.2.2.2.2.2.2.1, x0.2.2.2.2.2.2.2.2.2.1, x0.2.2.2.2.2.2.2.2.2.2))) else (bnd (x0.2.2.1 + 1) (fun zv26 => (fX3_number_L0 p1 p2 n ((i0_3 * 10) + (zq3 - 48)) (i0_4 + 1) (x0.1, x0.2.1, zv26, x0.2.2.2.1, x0.2.2.2.2.1, x0.2.2.2.2.2.1, x0.2.2.2.2.2.2.1, x0.2.2.2.2.2.2.2.1, x0.2.2.2.2.2.2.2.2.1, x0.2.2.2.2.2.2.2.2.2.1, x0.2.2.2.2.2.2.2.2.2.2)))))))))))) else (some (i0_3, x0)))
def fX3_number (x : PD) (p1 : Int32) (p2 : Int32) : Option (Int32 × PD) := ((fX3_number_L0 p1 p2 1000 0 0 x).bind (fun zq31 => some (zq31.1, zq31.2)))
abbrev rm_X3_number : Jvm.Room := { frames := 1, cells := 0, slots := 0, locals := 21 }
theorem hd_X3_number : yX3_number.cls = RX3 ∧ yX3_number.cls ≠ "java/lang/invoke/MethodHandle" ∧ yX3_number.cls ≠ "java/lang/invoke/VarHandle" ∧ (parseMethodDescriptor yX3_number.desc).map (fun d => d.parameters.length) = some 2 := by decide +kernel
set_option maxHeartbeats 4000000 in
set_option maxRecDepth 100000 in
theorem kX3_number (l : Launch) (g : CX) (h0 h1 : Nat) (sz : Nat) (x : PD) (p1 : Int32) (p2 : Int32) (res : Int32 × PD) (hm0 : fX3_number x p1 p2 = some res) : Met l yX3_number (wg yX3_number cX3_number 8 (some .int)) rm_X3_number (PW g [.ref h0, .int p1, .int p2] sz (w_X3 g h0 h1 x)) (va_Qi (fun v u => v = res.1 ∧ u = res.2) (fun u t => va_P g.1 vwCl (w_X3 g h0 h1 u) t.heap) (va_A (w_X3 g h0 h1 x) sz)) 0 0 (va_A (w_X3 g h0 h1 x) sz) := by
  refine Met.ofW (cc := cX3_number) (maxL := 8) (ret := (some .int)) (by decide) rfl ?_
  intro p e s m args below meth c s₁ B hml hv
  obtain ⟨rfl, hsz, hP, hK, hD0, hL⟩ := hv
  have hx := B.exec
  have hb := B.bytes
  have hr := B.returns
  have htG := wg_G (atoms_spec (ws := wg yX3_number cX3_number 8 (some .int)) B.pre)
  have hown : s.vm.findClass RX3 = some m.cls := findClass_of_methodNamed B.named
  have hlocks := B.notSynchronized
  subst hsz
  have hD := hD0.self (sz := s.heap.size)
  generalize hAe : va_A (w_X3 g h0 h1 x) s.heap.size = A at hD hL ⊢
  have hA : ∀ q : Nat, s.heap.size ≤ q → A q := fun q h => by rw [← hAe]; exact Or.inr h
  have hS : va_S A s.heap s.heap [] := va_S.rf
  have hl := lv_entry ([.ref h0, .int p1, .int p2]) (n := 8) (Nat.le_of_ble_eq_true rfl)
  rw [lg_entry_eq]
  generalize (lg_sl ([.ref h0, .int p1, .int p2]) ++ List.replicate (8 - (lg_sl ([.ref h0, .int p1, .int p2])).length) Slot.unset).toArray = ls at hl ⊢
  have hl : lv_has ls 8 [(0, .ref h0), (1, .int p1), (2, .int p2)] := hl
  have hm := hm0
  unfold fX3_number at hm
  have hL0 : ∀ (Q : State → Prop), ∀ (n : Nat) (i0_3 : Int32) (i0_4 : Int32) (x0 : PD) (out : Int32 × PD) (H : Heap) (locs : List Loc) (ls : Array Slot), fX3_number_L0 p1 p2 n i0_3 i0_4 x0 = some out → va_P g.1 vwCl (w_X3 g h0 h1 x0) H → va_D A (w_X3 g h0 h1 x0) → va_S A s.heap H locs → lv_has ls 8 [(0, .ref h0), (1, .int p1), (2, .int p2), (3, .int i0_3), (4, .int i0_4)] → (∀ (H : Heap) (locs : List Loc) (ls : Array Slot), va_P g.1 vwCl (w_X3 g h0 h1 out.2) H → va_D A (w_X3 g h0 h1 out.2) → va_S A s.heap H locs → lv_has ls 8 [(3, .int out.1)] → W p l e (headSpec (wg yX3_number cX3_number 8 (some .int)) rm_X3_number).room s m (([.ref h0, .int p1, .int p2] : List Value).toArray) below meth c H locs 0 0 Q (F0 m 130 ls [])) → W p l e (headSpec (wg yX3_number cX3_number 8 (some .int)) rm_X3_number).room s m (([.ref h0, .int p1, .int p2] : List Value).toArray) below meth c H locs 0 0 Q (F0 m 5 ls []) := by
    intro Q n
    induction n with
    | zero =>
      intro i0_3 i0_4 x0 out H locs ls hm hP hD hS hl hk
      simp [fX3_number_L0] at hm
    | succ n ih =>
      intro i0_3 i0_4 x0 out H locs ls hm hP hD hS hl hk
      rw [fX3_number_L0] at hm
      refine lv_aload_n hx hb dX3_number_5 rfl (lv_at hl 0 rfl) ?_
      refine va_get (D := g.1) (ci := 3) (v := .int x0.2.2.2.1) (C := RX3) (T := TX3) (N := 11) hx hb htG in_wsX30 hown hK.1 hP 0 rfl rfl 3 (by decide) (htG _ g1_185) (fun _ h9 => h9) rfl dX3_number_6 ?_
      refine lv_if_ne (tgt := 130) hx hb dX3_number_9 (by decide) (fun zc1 => ?_) (fun zc1 => ?_)
      · replace hm := (if_neg zc1).symm.trans hm
        obtain rfl := Option.some.inj hm
        exact hk H locs ls hP hD hS (lv_sub hl [3] rfl)
      · replace hm := (if_pos zc1).symm.trans hm
        refine lv_iload hx hb dX3_number_12 (lv_at hl 4 rfl) ?_
        refine lv_iconst (v := 3) hx hb dX3_number_14 (by decide) ?_
        refine lv_icmp_ge (tgt := 130) hx hb dX3_number_15 (by decide) (fun zc2 => ?_) (fun zc2 => ?_)
        · replace hm := (if_pos zc2).symm.trans hm
          obtain rfl := Option.some.inj hm
          exact hk H locs ls hP hD hS (lv_sub hl [3] rfl)
        · replace hm := (if_neg zc2).symm.trans hm
          refine lv_aload_n hx hb dX3_number_18 rfl (lv_at hl 0 rfl) ?_
          obtain ⟨zq3, hzq3, hm⟩ := bdk hm
          refine ko_e (va_runV (As := []) (rest := []) ⟨hx, hb, hml, hown, htG⟩ (kX3_sign l g h0 h1 x0 _ hzq3) (cwV 0 htG (GV g3_57 g3_59 gS_4 g1_9 g3_60) rfl rfl rfl hd_X3_sign ⟨Nat.le_of_ble_eq_true rfl, Nat.le_of_ble_eq_true rfl⟩) (PR_VA hK hL hS hP (ci := 3) rfl 0 rfl) rfl rfl hl.1 rfl (lv_room (Nat.le_of_ble_eq_true rfl)) dX3_number_19 ⟨Nat.zero_le _, Nat.zero_le _⟩) ?_
          refine lv_bipush (v := 48) hx hb dX3_number_22 (by decide +kernel) ?_
          refine lv_isub hx hb dX3_number_24 ?_
          refine lv_istore (lv' := [(5, .int (zq3 - 48)), (0, .ref h0), (1, .int p1), (2, .int p2), (3, .int i0_3), (4, .int i0_4)]) hx hb dX3_number_25 hl (by decide) rfl (fun ls hl => ?_)
          refine lv_iload hx hb dX3_number_27 (lv_at hl 0 rfl) ?_
          refine lv_if_lt (tgt := 54) hx hb dX3_number_29 (by decide) (fun zc4 => ?_) (fun zc4 => ?_)
          · replace hm := (if_pos zc4).symm.trans hm
            refine lv_iconst (v := 0) hx hb dX3_number_54 (by decide) ?_
            refine lv_istore (lv' := [(6, .int 0), (5, .int (zq3 - 48)), (0, .ref h0), (1, .int p1), (2, .int p2), (3, .int i0_3), (4, .int i0_4)]) hx hb dX3_number_55 hl (by decide) rfl (fun ls hl => ?_)
            refine lv_iload hx hb dX3_number_57 (lv_at hl 6 rfl) ?_
            refine lv_if_ne (tgt := 66) hx hb dX3_number_59 (by decide) (fun zc5 => ?_) (fun zc5 => ?_)
            · replace hm := (if_neg zc5).symm.trans hm
              refine lv_iconst (v := 0) hx hb dX3_number_66 (by decide) ?_
              refine lv_istore (lv' := [(7, .int 0), (6, .int 0), (5, .int (zq3 - 48)), (0, .ref h0), (1, .int p1), (2, .int p2), (3, .int i0_3), (4, .int i0_4)]) hx hb dX3_number_67 hl (by decide) rfl (fun ls hl => ?_)
              refine lv_iload hx hb dX3_number_69 (lv_at hl 0 rfl) ?_
              refine lv_if_eq (tgt := 88) hx hb dX3_number_71 (by decide) (fun _ => ?_) (fun zc6 => absurd zc6 (by decide))
              refine lv_iload hx hb dX3_number_88 (lv_at hl 1 rfl) ?_
              refine lv_if_eq (tgt := 97) hx hb dX3_number_90 (by decide) (fun _ => ?_) (fun zc7 => absurd zc7 (by decide))
              refine lv_aload_n hx hb dX3_number_97 rfl (lv_at hl 3 rfl) ?_
              refine lv_iload hx hb dX3_number_98 (lv_at hl 0 rfl) ?_
              refine va_put (D := g.1) (ci := 3) (v := .int 0) (ty := .boolean) (C := RX3) (T := TX3) (N := 11) hx hb htG in_wsX30 tyX3 tyX3_ok nmX3 hown hK.1 hP hD hS 0 rfl rfl 3 (by decide) (htG _ g1_185) (fun _ h9 => h9) rfl (by decide +kernel) rfl rfl (Nat.le_of_ble_eq_true rfl) dX3_number_100 (fun H locs hP hD hS => ?_)
              have hP : va_P g.1 vwCl (w_X3 g h0 h1 (x0.1, x0.2.1, x0.2.2.1, 0, x0.2.2.2.2.1, x0.2.2.2.2.2.1, x0.2.2.2.2.2.2.1, x0.2.2.2.2.2.2.2.1, x0.2.2.2.2.2.2.2.2.1, x0.2.2.2.2.2.2.2.2.2.1, x0.2.2.2.2.2.2.2.2.2.2)) H := hP
              have hD : va_D A (w_X3 g h0 h1 (x0.1, x0.2.1, x0.2.2.1, 0, x0.2.2.2.2.1, x0.2.2.2.2.2.1, x0.2.2.2.2.2.2.1, x0.2.2.2.2.2.2.2.1, x0.2.2.2.2.2.2.2.2.1, x0.2.2.2.2.2.2.2.2.2.1, x0.2.2.2.2.2.2.2.2.2.2)) := hD
              refine lv_goto (tgt := 130) hx hb dX3_number_103 (by decide) ?_
              obtain rfl := Option.some.inj hm
              exact hk H locs ls hP hD hS (lv_sub hl [6] rfl)
            · replace hm := (if_pos zc5).symm.trans hm
              refine lv_iconst (v := 1) hx hb dX3_number_62 (by decide) ?_
              refine lv_goto (tgt := 67) hx hb dX3_number_63 (by decide) ?_
              refine lv_istore (lv' := [(7, .int 1), (6, .int 0), (5, .int (zq3 - 48)), (0, .ref h0), (1, .int p1), (2, .int p2), (3, .int i0_3), (4, .int i0_4)]) hx hb dX3_number_67 hl (by decide) rfl (fun ls hl => ?_)
              refine lv_iload hx hb dX3_number_69 (lv_at hl 0 rfl) ?_
              refine lv_if_eq (tgt := 88) hx hb dX3_number_71 (by decide) (fun zc8 => absurd zc8 (by decide)) (fun _ => ?_)
              refine lv_iload hx hb dX3_number_74 (lv_at hl 1 rfl) ?_
              refine lv_if_eq (tgt := 97) hx hb dX3_number_76 (by decide) (fun _ => ?_) (fun zc9 => absurd zc9 (by decide))
              refine lv_aload_n hx hb dX3_number_97 rfl (lv_at hl 3 rfl) ?_
              refine lv_iload hx hb dX3_number_98 (lv_at hl 0 rfl) ?_
              refine va_put (D := g.1) (ci := 3) (v := .int 1) (ty := .boolean) (C := RX3) (T := TX3) (N := 11) hx hb htG in_wsX30 tyX3 tyX3_ok nmX3 hown hK.1 hP hD hS 0 rfl rfl 3 (by decide) (htG _ g1_185) (fun _ h9 => h9) rfl (by decide +kernel) rfl rfl (Nat.le_of_ble_eq_true rfl) dX3_number_100 (fun H locs hP hD hS => ?_)
              have hP : va_P g.1 vwCl (w_X3 g h0 h1 (x0.1, x0.2.1, x0.2.2.1, 1, x0.2.2.2.2.1, x0.2.2.2.2.2.1, x0.2.2.2.2.2.2.1, x0.2.2.2.2.2.2.2.1, x0.2.2.2.2.2.2.2.2.1, x0.2.2.2.2.2.2.2.2.2.1, x0.2.2.2.2.2.2.2.2.2.2)) H := hP
              have hD : va_D A (w_X3 g h0 h1 (x0.1, x0.2.1, x0.2.2.1, 1, x0.2.2.2.2.1, x0.2.2.2.2.2.1, x0.2.2.2.2.2.2.1, x0.2.2.2.2.2.2.2.1, x0.2.2.2.2.2.2.2.2.1, x0.2.2.2.2.2.2.2.2.2.1, x0.2.2.2.2.2.2.2.2.2.2)) := hD
              refine lv_goto (tgt := 130) hx hb dX3_number_103 (by decide) ?_
              obtain rfl := Option.some.inj hm
              exact hk H locs ls hP hD hS (lv_sub hl [6] rfl)
          · replace hm := (if_neg zc4).symm.trans hm
            refine lv_iload hx hb dX3_number_32 (lv_at hl 0 rfl) ?_
            refine lv_bipush (v := 9) hx hb dX3_number_34 (by decide +kernel) ?_
            refine lv_icmp_gt (tgt := 54) hx hb dX3_number_36 (by decide) (fun zc10 => ?_) (fun zc10 => ?_)
            · replace hm := (if_pos zc10).symm.trans hm
              refine lv_iconst (v := 0) hx hb dX3_number_54 (by decide) ?_
              refine lv_istore (lv' := [(6, .int 0), (5, .int (zq3 - 48)), (0, .ref h0), (1, .int p1), (2, .int p2), (3, .int i0_3), (4, .int i0_4)]) hx hb dX3_number_55 hl (by decide) rfl (fun ls hl => ?_)
              refine lv_iload hx hb dX3_number_57 (lv_at hl 6 rfl) ?_
              refine lv_if_ne (tgt := 66) hx hb dX3_number_59 (by decide) (fun zc11 => ?_) (fun zc11 => ?_)
              · replace hm := (if_neg zc11).symm.trans hm
                refine lv_iconst (v := 0) hx hb dX3_number_66 (by decide) ?_
                refine lv_istore (lv' := [(7, .int 0), (6, .int 0), (5, .int (zq3 - 48)), (0, .ref h0), (1, .int p1), (2, .int p2), (3, .int i0_3), (4, .int i0_4)]) hx hb dX3_number_67 hl (by decide) rfl (fun ls hl => ?_)
                refine lv_iload hx hb dX3_number_69 (lv_at hl 0 rfl) ?_
                refine lv_if_eq (tgt := 88) hx hb dX3_number_71 (by decide) (fun _ => ?_) (fun zc12 => absurd zc12 (by decide))
                refine lv_iload hx hb dX3_number_88 (lv_at hl 1 rfl) ?_
                refine lv_if_eq (tgt := 97) hx hb dX3_number_90 (by decide) (fun _ => ?_) (fun zc13 => absurd zc13 (by decide))
                refine lv_aload_n hx hb dX3_number_97 rfl (lv_at hl 3 rfl) ?_
                refine lv_iload hx hb dX3_number_98 (lv_at hl 0 rfl) ?_
                refine va_put (D := g.1) (ci := 3) (v := .int 0) (ty := .boolean) (C := RX3) (T := TX3) (N := 11) hx hb htG in_wsX30 tyX3 tyX3_ok nmX3 hown hK.1 hP hD hS 0 rfl rfl 3 (by decide) (htG _ g1_185) (fun _ h9 => h9) rfl (by decide +kernel) rfl rfl (Nat.le_of_ble_eq_true rfl) dX3_number_100 (fun H locs hP hD hS => ?_)
                have hP : va_P g.1 vwCl (w_X3 g h0 h1 (x0.1, x0.2.1, x0.2.2.1, 0, x0.2.2.2.2.1, x0.2.2.2.2.2.1, x0.2.2.2.2.2.2.1, x0.2.2.2.2.2.2.2.1, x0.2.2.2.2.2.2.2.2.1, x0.2.2.2.2.2.2.2.2.2.1, x0.2.2.2.2.2.2.2.2.2.2)) H := hP
                have hD : va_D A (w_X3 g h0 h1 (x0.1, x0.2.1, x0.2.2.1, 0, x0.2.2.2.2.1, x0.2.2.2.2.2.1, x0.2.2.2.2.2.2.1, x0.2.2.2.2.2.2.2.1, x0.2.2.2.2.2.2.2.2.1, x0.2.2.2.2.2.2.2.2.2.1, x0.2.2.2.2.2.2.2.2.2.2)) := hD
                refine lv_goto (tgt := 130) hx hb dX3_number_103 (by decide) ?_
                obtain rfl := Option.some.inj hm
                exact hk H locs ls hP hD hS (lv_sub hl [6] rfl)
              · replace hm := (if_pos zc11).symm.trans hm
                refine lv_iconst (v := 1) hx hb dX3_number_62 (by decide) ?_
                refine lv_goto (tgt := 67) hx hb dX3_number_63 (by decide) ?_
                refine lv_istore (lv' := [(7, .int 1), (6, .int 0), (5, .int (zq3 - 48)), (0, .ref h0), (1, .int p1), (2, .int p2), (3, .int i0_3), (4, .int i0_4)]) hx hb dX3_number_67 hl (by decide) rfl (fun ls hl => ?_)
                refine lv_iload hx hb dX3_number_69 (lv_at hl 0 rfl) ?_
                refine lv_if_eq (tgt := 88) hx hb dX3_number_71 (by decide) (fun zc14 => absurd zc14 (by decide)) (fun _ => ?_)
                refine lv_iload hx hb dX3_number_74 (lv_at hl 1 rfl) ?_
                refine lv_if_eq (tgt := 97) hx hb dX3_number_76 (by decide) (fun _ => ?_) (fun zc15 => absurd zc15 (by decide))
                refine lv_aload_n hx hb dX3_number_97 rfl (lv_at hl 3 rfl) ?_
                refine lv_iload hx hb dX3_number_98 (lv_at hl 0 rfl) ?_
                refine va_put (D := g.1) (ci := 3) (v := .int 1) (ty := .boolean) (C := RX3) (T := TX3) (N := 11) hx hb htG in_wsX30 tyX3 tyX3_ok nmX3 hown hK.1 hP hD hS 0 rfl rfl 3 (by decide) (htG _ g1_185) (fun _ h9 => h9) rfl (by decide +kernel) rfl rfl (Nat.le_of_ble_eq_true rfl) dX3_number_100 (fun H locs hP hD hS => ?_)
                have hP : va_P g.1 vwCl (w_X3 g h0 h1 (x0.1, x0.2.1, x0.2.2.1, 1, x0.2.2.2.2.1, x0.2.2.2.2.2.1, x0.2.2.2.2.2.2.1, x0.2.2.2.2.2.2.2.1, x0.2.2.2.2.2.2.2.2.1, x0.2.2.2.2.2.2.2.2.2.1, x0.2.2.2.2.2.2.2.2.2.2)) H := hP
                have hD : va_D A (w_X3 g h0 h1 (x0.1, x0.2.1, x0.2.2.1, 1, x0.2.2.2.2.1, x0.2.2.2.2.2.1, x0.2.2.2.2.2.2.1, x0.2.2.2.2.2.2.2.1, x0.2.2.2.2.2.2.2.2.1, x0.2.2.2.2.2.2.2.2.2.1, x0.2.2.2.2.2.2.2.2.2.2)) := hD
                refine lv_goto (tgt := 130) hx hb dX3_number_103 (by decide) ?_
                obtain rfl := Option.some.inj hm
                exact hk H locs ls hP hD hS (lv_sub hl [6] rfl)
            · replace hm := (if_neg zc10).symm.trans hm
              refine lv_iload_n hx hb dX3_number_39 rfl (lv_at hl 4 rfl) ?_
              refine lv_bipush (v := 10) hx hb dX3_number_40 (by decide +kernel) ?_
              refine lv_imul hx hb dX3_number_42 ?_
              refine lv_iload hx hb dX3_number_43 (lv_at hl 0 rfl) ?_
              refine lv_iadd hx hb dX3_number_45 ?_
              refine lv_iload_n hx hb dX3_number_46 rfl (lv_at hl 3 rfl) ?_
              refine lv_icmp_gt (tgt := 54) hx hb dX3_number_47 (by decide) (fun zc16 => ?_) (fun zc16 => ?_)
              · replace hm := (if_pos zc16).symm.trans hm
                refine lv_iconst (v := 0) hx hb dX3_number_54 (by decide) ?_
                refine lv_istore (lv' := [(6, .int 0), (5, .int (zq3 - 48)), (0, .ref h0), (1, .int p1), (2, .int p2), (3, .int i0_3), (4, .int i0_4)]) hx hb dX3_number_55 hl (by decide) rfl (fun ls hl => ?_)
                refine lv_iload hx hb dX3_number_57 (lv_at hl 6 rfl) ?_
                refine lv_if_ne (tgt := 66) hx hb dX3_number_59 (by decide) (fun zc17 => ?_) (fun zc17 => ?_)
                · replace hm := (if_neg zc17).symm.trans hm
                  refine lv_iconst (v := 0) hx hb dX3_number_66 (by decide) ?_
                  refine lv_istore (lv' := [(7, .int 0), (6, .int 0), (5, .int (zq3 - 48)), (0, .ref h0), (1, .int p1), (2, .int p2), (3, .int i0_3), (4, .int i0_4)]) hx hb dX3_number_67 hl (by decide) rfl (fun ls hl => ?_)
                  refine lv_iload hx hb dX3_number_69 (lv_at hl 0 rfl) ?_
                  refine lv_if_eq (tgt := 88) hx hb dX3_number_71 (by decide) (fun _ => ?_) (fun zc18 => absurd zc18 (by decide))
                  refine lv_iload hx hb dX3_number_88 (lv_at hl 1 rfl) ?_
                  refine lv_if_eq (tgt := 97) hx hb dX3_number_90 (by decide) (fun _ => ?_) (fun zc19 => absurd zc19 (by decide))
                  refine lv_aload_n hx hb dX3_number_97 rfl (lv_at hl 3 rfl) ?_
                  refine lv_iload hx hb dX3_number_98 (lv_at hl 0 rfl) ?_
                  refine va_put (D := g.1) (ci := 3) (v := .int 0) (ty := .boolean) (C := RX3) (T := TX3) (N := 11) hx hb htG in_wsX30 tyX3 tyX3_ok nmX3 hown hK.1 hP hD hS 0 rfl rfl 3 (by decide) (htG _ g1_185) (fun _ h9 => h9) rfl (by decide +kernel) rfl rfl (Nat.le_of_ble_eq_true rfl) dX3_number_100 (fun H locs hP hD hS => ?_)
                  have hP : va_P g.1 vwCl (w_X3 g h0 h1 (x0.1, x0.2.1, x0.2.2.1, 0, x0.2.2.2.2.1, x0.2.2.2.2.2.1, x0.2.2.2.2.2.2.1, x0.2.2.2.2.2.2.2.1, x0.2.2.2.2.2.2.2.2.1, x0.2.2.2.2.2.2.2.2.2.1, x0.2.2.2.2.2.2.2.2.2.2)) H := hP
                  have hD : va_D A (w_X3 g h0 h1 (x0.1, x0.2.1, x0.2.2.1, 0, x0.2.2.2.2.1, x0.2.2.2.2.2.1, x0.2.2.2.2.2.2.1, x0.2.2.2.2.2.2.2.1, x0.2.2.2.2.2.2.2.2.1, x0.2.2.2.2.2.2.2.2.2.1, x0.2.2.2.2.2.2.2.2.2.2)) := hD
                  refine lv_goto (tgt := 130) hx hb dX3_number_103 (by decide) ?_
                  obtain rfl := Option.some.inj hm
                  exact hk H locs ls hP hD hS (lv_sub hl [6] rfl)
                · replace hm := (if_pos zc17).symm.trans hm
                  refine lv_iconst (v := 1) hx hb dX3_number_62 (by decide) ?_
                  refine lv_goto (tgt := 67) hx hb dX3_number_63 (by decide) ?_
                  refine lv_istore (lv' := [(7, .int 1), (6, .int 0), (5, .int (zq3 - 48)), (0, .ref h0), (1, .int p1), (2, .int p2), (3, .int i0_3), (4, .int i0_4)]) hx hb dX3_number_67 hl (by decide) rfl (fun ls hl => ?_)
                  refine lv_iload hx hb dX3_number_69 (lv_at hl 0 rfl) ?_
                  refine lv_if_eq (tgt := 88) hx hb dX3_number_71 (by decide) (fun zc20 => absurd zc20 (by decide)) (fun _ => ?_)
                  refine lv_iload hx hb dX3_number_74 (lv_at hl 1 rfl) ?_
                  refine lv_if_eq (tgt := 97) hx hb dX3_number_76 (by decide) (fun _ => ?_) (fun zc21 => absurd zc21 (by decide))
                  refine lv_aload_n hx hb dX3_number_97 rfl (lv_at hl 3 rfl) ?_
                  refine lv_iload hx hb dX3_number_98 (lv_at hl 0 rfl) ?_
                  refine va_put (D := g.1) (ci := 3) (v := .int 1) (ty := .boolean) (C := RX3) (T := TX3) (N := 11) hx hb htG in_wsX30 tyX3 tyX3_ok nmX3 hown hK.1 hP hD hS 0 rfl rfl 3 (by decide) (htG _ g1_185) (fun _ h9 => h9) rfl (by decide +kernel) rfl rfl (Nat.le_of_ble_eq_true rfl) dX3_number_100 (fun H locs hP hD hS => ?_)
                  have hP : va_P g.1 vwCl (w_X3 g h0 h1 (x0.1, x0.2.1, x0.2.2.1, 1, x0.2.2.2.2.1, x0.2.2.2.2.2.1, x0.2.2.2.2.2.2.1, x0.2.2.2.2.2.2.2.1, x0.2.2.2.2.2.2.2.2.1, x0.2.2.2.2.2.2.2.2.2.1, x0.2.2.2.2.2.2.2.2.2.2)) H := hP
                  have hD : va_D A (w_X3 g h0 h1 (x0.1, x0.2.1, x0.2.2.1, 1, x0.2.2.2.2.1, x0.2.2.2.2.2.1, x0.2.2.2.2.2.2.1, x0.2.2.2.2.2.2.2.1, x0.2.2.2.2.2.2.2.2.1, x0.2.2.2.2.2.2.2.2.2.1, x0.2.2.2.2.2.2.2.2.2.2)) := hD
                  refine lv_goto (tgt := 130) hx hb dX3_number_103 (by decide) ?_
                  obtain rfl := Option.some.inj hm
                  exact hk H locs ls hP hD hS (lv_sub hl [6] rfl)
              · replace hm := (if_neg zc16).symm.trans hm
                refine lv_iconst (v := 1) hx hb dX3_number_50 (by decide) ?_
                refine lv_goto (tgt := 55) hx hb dX3_number_51 (by decide) ?_
                refine lv_istore (lv' := [(6, .int 1), (5, .int (zq3 - 48)), (0, .ref h0), (1, .int p1), (2, .int p2), (3, .int i0_3), (4, .int i0_4)]) hx hb dX3_number_55 hl (by decide) rfl (fun ls hl => ?_)
                refine lv_iload hx hb dX3_number_57 (lv_at hl 6 rfl) ?_
                refine lv_if_ne (tgt := 66) hx hb dX3_number_59 (by decide) (fun zc22 => ?_) (fun zc22 => ?_)
                · replace hm := (if_neg zc22).symm.trans hm
                  refine lv_iconst (v := 0) hx hb dX3_number_66 (by decide) ?_
                  refine lv_istore (lv' := [(7, .int 0), (6, .int 1), (5, .int (zq3 - 48)), (0, .ref h0), (1, .int p1), (2, .int p2), (3, .int i0_3), (4, .int i0_4)]) hx hb dX3_number_67 hl (by decide) rfl (fun ls hl => ?_)
                  refine lv_iload hx hb dX3_number_69 (lv_at hl 0 rfl) ?_
                  refine lv_if_eq (tgt := 88) hx hb dX3_number_71 (by decide) (fun _ => ?_) (fun zc23 => absurd zc23 (by decide))
                  refine lv_iload hx hb dX3_number_88 (lv_at hl 1 rfl) ?_
                  refine lv_if_eq (tgt := 97) hx hb dX3_number_90 (by decide) (fun zc24 => absurd zc24 (by decide)) (fun _ => ?_)
                  refine lv_iload_n hx hb dX3_number_93 rfl (lv_at hl 6 rfl) ?_
                  refine lv_if_ne (tgt := 106) hx hb dX3_number_94 (by decide) (fun zc25 => ?_) (fun zc25 => ?_)
                  · replace hm := (if_neg zc25).symm.trans hm
                    refine lv_iload_n hx hb dX3_number_106 rfl (lv_at hl 6 rfl) ?_
                    refine lv_bipush (v := 10) hx hb dX3_number_107 (by decide +kernel) ?_
                    refine lv_imul hx hb dX3_number_109 ?_
                    refine lv_iload hx hb dX3_number_110 (lv_at hl 2 rfl) ?_
                    refine lv_iadd hx hb dX3_number_112 ?_
                    refine lv_istore_n (lv' := [(3, .int ((i0_3 * 10) + (zq3 - 48))), (7, .int 0), (6, .int 1), (5, .int (zq3 - 48)), (0, .ref h0), (1, .int p1), (2, .int p2), (4, .int i0_4)]) hx hb dX3_number_113 rfl hl (by decide) rfl (fun ls hl => ?_)
                    refine lv_aload_n hx hb dX3_number_114 rfl (lv_at hl 4 rfl) ?_
                    refine lv_dup hx hb dX3_number_115 rfl ?_
                    refine va_get (D := g.1) (ci := 3) (v := .int x0.2.2.1) (C := RX3) (T := TX3) (N := 11) hx hb htG in_wsX30 hown hK.1 hP 0 rfl rfl 2 (by decide) (htG _ g1_184) (fun _ h9 => h9) rfl dX3_number_116 ?_
                    refine lv_iconst (v := 1) hx hb dX3_number_119 (by decide) ?_
                    refine lv_iadd hx hb dX3_number_120 ?_
                    obtain ⟨zv26, ezv26, hm⟩ := bnk hm
                    refine tope ezv26 ?_
                    refine va_put (D := g.1) (ci := 3) (v := .int zv26) (ty := .int) (C := RX3) (T := TX3) (N := 11) hx hb htG in_wsX30 tyX3 tyX3_ok nmX3 hown hK.1 hP hD hS 0 rfl rfl 2 (by decide) (htG _ g1_184) (fun _ h9 => h9) rfl (by decide +kernel) rfl rfl (Nat.le_of_ble_eq_true rfl) dX3_number_121 (fun H locs hP hD hS => ?_)
                    have hP : va_P g.1 vwCl (w_X3 g h0 h1 (x0.1, x0.2.1, zv26, x0.2.2.2.1, x0.2.2.2.2.1, x0.2.2.2.2.2.1, x0.2.2.2.2.2.2.1, x0.2.2.2.2.2.2.2.1, x0.2.2.2.2.2.2.2.2.1, x0.2.2.2.2.2.2.2.2.2.1, x0.2.2.2.2.2.2.2.2.2.2)) H := hP
                    have hD : va_D A (w_X3 g h0 h1 (x0.1, x0.2.1, zv26, x0.2.2.2.1, x0.2.2.2.2.1, x0.2.2.2.2.2.1, x0.2.2.2.2.2.2.1, x0.2.2.2.2.2.2.2.1, x0.2.2.2.2.2.2.2.2.1, x0.2.2.2.2.2.2.2.2.2.1, x0.2.2.2.2.2.2.2.2.2.2)) := hD
                    refine lv_iinc (v := i0_4 + 1) (lv' := [(4, .int (i0_4 + 1)), (3, .int ((i0_3 * 10) + (zq3 - 48))), (7, .int 0), (6, .int 1), (5, .int (zq3 - 48)), (0, .ref h0), (1, .int p1), (2, .int p2)]) hx hb dX3_number_124 hl (k := 7) rfl rfl (by decide) rfl (fun ls hl => ?_)
                    refine lv_goto (tgt := 5) hx hb dX3_number_127 (by decide) ?_
                    exact ih ((i0_3 * 10) + (zq3 - 48)) (i0_4 + 1) (x0.1, x0.2.1, zv26, x0.2.2.2.1, x0.2.2.2.2.1, x0.2.2.2.2.2.1, x0.2.2.2.2.2.2.1, x0.2.2.2.2.2.2.2.1, x0.2.2.2.2.2.2.2.2.1, x0.2.2.2.2.2.2.2.2.2.1, x0.2.2.2.2.2.2.2.2.2.2) out H locs ls hm hP hD hS (lv_sub hl [5, 6, 7, 1, 0] rfl) hk
                  · replace hm := (if_pos zc25).symm.trans hm
                    refine lv_aload_n hx hb dX3_number_97 rfl (lv_at hl 3 rfl) ?_
                    refine lv_iload hx hb dX3_number_98 (lv_at hl 0 rfl) ?_
                    refine va_put (D := g.1) (ci := 3) (v := .int 0) (ty := .boolean) (C := RX3) (T := TX3) (N := 11) hx hb htG in_wsX30 tyX3 tyX3_ok nmX3 hown hK.1 hP hD hS 0 rfl rfl 3 (by decide) (htG _ g1_185) (fun _ h9 => h9) rfl (by decide +kernel) rfl rfl (Nat.le_of_ble_eq_true rfl) dX3_number_100 (fun H locs hP hD hS => ?_)
                    have hP : va_P g.1 vwCl (w_X3 g h0 h1 (x0.1, x0.2.1, x0.2.2.1, 0, x0.2.2.2.2.1, x0.2.2.2.2.2.1, x0.2.2.2.2.2.2.1, x0.2.2.2.2.2.2.2.1, x0.2.2.2.2.2.2.2.2.1, x0.2.2.2.2.2.2.2.2.2.1, x0.2.2.2.2.2.2.2.2.2.2)) H := hP
                    have hD : va_D A (w_X3 g h0 h1 (x0.1, x0.2.1, x0.2.2.1, 0, x0.2.2.2.2.1, x0.2.2.2.2.2.1, x0.2.2.2.2.2.2.1, x0.2.2.2.2.2.2.2.1, x0.2.2.2.2.2.2.2.2.1, x0.2.2.2.2.2.2.2.2.2.1, x0.2.2.2.2.2.2.2.2.2.2)) := hD
                    refine lv_goto (tgt := 130) hx hb dX3_number_103 (by decide) ?_
                    obtain rfl := Option.some.inj hm
                    exact hk H locs ls hP hD hS (lv_sub hl [6] rfl)
                · replace hm := (if_pos zc22).symm.trans hm
                  refine lv_iconst (v := 1) hx hb dX3_number_62 (by decide) ?_
                  refine lv_goto (tgt := 67) hx hb dX3_number_63 (by decide) ?_
                  refine lv_istore (lv' := [(7, .int 1), (6, .int 1), (5, .int (zq3 - 48)), (0, .ref h0), (1, .int p1), (2, .int p2), (3, .int i0_3), (4, .int i0_4)]) hx hb dX3_number_67 hl (by decide) rfl (fun ls hl => ?_)
                  refine lv_iload hx hb dX3_number_69 (lv_at hl 0 rfl) ?_
                  refine lv_if_eq (tgt := 88) hx hb dX3_number_71 (by decide) (fun zc27 => absurd zc27 (by decide)) (fun _ => ?_)
                  refine lv_iload hx hb dX3_number_74 (lv_at hl 1 rfl) ?_
                  refine lv_if_eq (tgt := 97) hx hb dX3_number_76 (by decide) (fun zc28 => absurd zc28 (by decide)) (fun _ => ?_)
                  refine lv_iload hx hb dX3_number_79 (lv_at hl 2 rfl) ?_
                  refine lv_iload_n hx hb dX3_number_81 rfl (lv_at hl 4 rfl) ?_
                  refine lv_icmp_ge (tgt := 106) hx hb dX3_number_82 (by decide) (fun zc29 => ?_) (fun zc29 => ?_)
                  · replace hm := (if_pos zc29).symm.trans hm
                    refine lv_iload_n hx hb dX3_number_106 rfl (lv_at hl 6 rfl) ?_
                    refine lv_bipush (v := 10) hx hb dX3_number_107 (by decide +kernel) ?_
                    refine lv_imul hx hb dX3_number_109 ?_
                    refine lv_iload hx hb dX3_number_110 (lv_at hl 2 rfl) ?_
                    refine lv_iadd hx hb dX3_number_112 ?_
                    refine lv_istore_n (lv' := [(3, .int ((i0_3 * 10) + (zq3 - 48))), (7, .int 1), (6, .int 1), (5, .int (zq3 - 48)), (0, .ref h0), (1, .int p1), (2, .int p2), (4, .int i0_4)]) hx hb dX3_number_113 rfl hl (by decide) rfl (fun ls hl => ?_)
                    refine lv_aload_n hx hb dX3_number_114 rfl (lv_at hl 4 rfl) ?_
                    refine lv_dup hx hb dX3_number_115 rfl ?_
                    refine va_get (D := g.1) (ci := 3) (v := .int x0.2.2.1) (C := RX3) (T := TX3) (N := 11) hx hb htG in_wsX30 hown hK.1 hP 0 rfl rfl 2 (by decide) (htG _ g1_184) (fun _ h9 => h9) rfl dX3_number_116 ?_
                    refine lv_iconst (v := 1) hx hb dX3_number_119 (by decide) ?_
                    refine lv_iadd hx hb dX3_number_120 ?_
                    obtain ⟨zv30, ezv30, hm⟩ := bnk hm
                    refine tope ezv30 ?_
                    refine va_put (D := g.1) (ci := 3) (v := .int zv30) (ty := .int) (C := RX3) (T := TX3) (N := 11) hx hb htG in_wsX30 tyX3 tyX3_ok nmX3 hown hK.1 hP hD hS 0 rfl rfl 2 (by decide) (htG _ g1_184) (fun _ h9 => h9) rfl (by decide +kernel) rfl rfl (Nat.le_of_ble_eq_true rfl) dX3_number_121 (fun H locs hP hD hS => ?_)
                    have hP : va_P g.1 vwCl (w_X3 g h0 h1 (x0.1, x0.2.1, zv30, x0.2.2.2.1, x0.2.2.2.2.1, x0.2.2.2.2.2.1, x0.2.2.2.2.2.2.1, x0.2.2.2.2.2.2.2.1, x0.2.2.2.2.2.2.2.2.1, x0.2.2.2.2.2.2.2.2.2.1, x0.2.2.2.2.2.2.2.2.2.2)) H := hP
                    have hD : va_D A (w_X3 g h0 h1 (x0.1, x0.2.1, zv30, x0.2.2.2.1, x0.2.2.2.2.1, x0.2.2.2.2.2.1, x0.2.2.2.2.2.2.1, x0.2.2.2.2.2.2.2.1, x0.2.2.2.2.2.2.2.2.1, x0.2.2.2.2.2.2.2.2.2.1, x0.2.2.2.2.2.2.2.2.2.2)) := hD
                    refine lv_iinc (v := i0_4 + 1) (lv' := [(4, .int (i0_4 + 1)), (3, .int ((i0_3 * 10) + (zq3 - 48))), (7, .int 1), (6, .int 1), (5, .int (zq3 - 48)), (0, .ref h0), (1, .int p1), (2, .int p2)]) hx hb dX3_number_124 hl (k := 7) rfl rfl (by decide) rfl (fun ls hl => ?_)
                    refine lv_goto (tgt := 5) hx hb dX3_number_127 (by decide) ?_
                    exact ih ((i0_3 * 10) + (zq3 - 48)) (i0_4 + 1) (x0.1, x0.2.1, zv30, x0.2.2.2.1, x0.2.2.2.2.1, x0.2.2.2.2.2.1, x0.2.2.2.2.2.2.1, x0.2.2.2.2.2.2.2.1, x0.2.2.2.2.2.2.2.2.1, x0.2.2.2.2.2.2.2.2.2.1, x0.2.2.2.2.2.2.2.2.2.2) out H locs ls hm hP hD hS (lv_sub hl [5, 6, 7, 1, 0] rfl) hk
                  · replace hm := (if_neg zc29).symm.trans hm
                    refine lv_goto (tgt := 97) hx hb dX3_number_85 (by decide) ?_
                    refine lv_aload_n hx hb dX3_number_97 rfl (lv_at hl 3 rfl) ?_
                    refine lv_iload hx hb dX3_number_98 (lv_at hl 0 rfl) ?_
                    refine va_put (D := g.1) (ci := 3) (v := .int 1) (ty := .boolean) (C := RX3) (T := TX3) (N := 11) hx hb htG in_wsX30 tyX3 tyX3_ok nmX3 hown hK.1 hP hD hS 0 rfl rfl 3 (by decide) (htG _ g1_185) (fun _ h9 => h9) rfl (by decide +kernel) rfl rfl (Nat.le_of_ble_eq_true rfl) dX3_number_100 (fun H locs hP hD hS => ?_)
                    have hP : va_P g.1 vwCl (w_X3 g h0 h1 (x0.1, x0.2.1, x0.2.2.1, 1, x0.2.2.2.2.1, x0.2.2.2.2.2.1, x0.2.2.2.2.2.2.1, x0.2.2.2.2.2.2.2.1, x0.2.2.2.2.2.2.2.2.1, x0.2.2.2.2.2.2.2.2.2.1, x0.2.2.2.2.2.2.2.2.2.2)) H := hP
                    have hD : va_D A (w_X3 g h0 h1 (x0.1, x0.2.1, x0.2.2.1, 1, x0.2.2.2.2.1, x0.2.2.2.2.2.1, x0.2.2.2.2.2.2.1, x0.2.2.2.2.2.2.2.1, x0.2.2.2.2.2.2.2.2.1, x0.2.2.2.2.2.2.2.2.2.1, x0.2.2.2.2.2.2.2.2.2.2)) := hD
                    refine lv_goto (tgt := 130) hx hb dX3_number_103 (by decide) ?_
                    obtain rfl := Option.some.inj hm
                    exact hk H locs ls hP hD hS (lv_sub hl [6] rfl)
  refine lv_iconst (v := 0) hx hb dX3_number_0 (by decide) ?_
  refine lv_istore_n (lv' := [(3, .int 0), (0, .ref h0), (1, .int p1), (2, .int p2)]) hx hb dX3_number_1 rfl hl (by decide) rfl (fun ls hl => ?_)
  refine lv_iconst (v := 0) hx hb dX3_number_2 (by decide) ?_
  refine lv_istore (lv' := [(4, .int 0), (3, .int 0), (0, .ref h0), (1, .int p1), (2, .int p2)]) hx hb dX3_number_3 hl (by decide) rfl (fun ls hl => ?_)
  obtain ⟨zq31, hzq31, hm⟩ := bdk hm
  refine hL0 _ 1000 0 0 x zq31 _ _ _ hzq31 hP hD hS (lv_sub hl [2, 3, 4, 1, 0] rfl) (fun H locs ls hP hD hS hl => ?_)
  refine lv_iload_n hx hb dX3_number_130 rfl (lv_at hl 0 rfl) ?_
  exact W.iret (v := zq31.1) hx hb hr (fun t ht hW => ⟨⟨_, _, rfl, pr1 (Option.some.inj hm), atH ht hP⟩, hS.F ht⟩) hS.2.2 dX3_number_131
def fX3_readBid (x : PD) : Option (PD) := ((fX3_take x 98).bind (fun zq1 => ((fX3_number zq1 0 5).bind (fun zq2 => ((fX3_take (zq2.2.1, zq2.2.2.1, zq2.2.2.2.1, zq2.2.2.2.2.1, zq2.2.2.2.2.2.1, zq2.1, zq2.2.2.2.2.2.2.2.1, zq2.2.2.2.2.2.2.2.2.1, zq2.2.2.2.2.2.2.2.2.2.1, zq2.2.2.2.2.2.2.2.2.2.2.1, zq2.2.2.2.2.2.2.2.2.2.2.2) 99).bind (fun zq3 => ((fX3_number zq3 0 2).bind (fun zq4 => ((fX3_take (zq4.2.1, zq4.2.2.1, zq4.2.2.2.1, zq4.2.2.2.2.1, zq4.2.2.2.2.2.1, zq4.2.2.2.2.2.2.1, zq4.1, zq4.2.2.2.2.2.2.2.2.1, zq4.2.2.2.2.2.2.2.2.2.1, zq4.2.2.2.2.2.2.2.2.2.2.1, zq4.2.2.2.2.2.2.2.2.2.2.2) 104).bind (fun zq5 => ((fX3_number zq5 0 15).bind (fun zq6 => ((fX3_take (zq6.2.1, zq6.2.2.1, zq6.2.2.2.1, zq6.2.2.2.2.1, zq6.2.2.2.2.2.1, zq6.2.2.2.2.2.2.1, zq6.2.2.2.2.2.2.2.1, zq6.1, zq6.2.2.2.2.2.2.2.2.2.1, zq6.2.2.2.2.2.2.2.2.2.2.1, zq6.2.2.2.2.2.2.2.2.2.2.2) 119).bind (fun zq7 => ((fX3_number zq7 1 60).bind (fun zq8 => ((fX3_take (zq8.2.1, zq8.2.2.1, zq8.2.2.2.1, zq8.2.2.2.2.1, zq8.2.2.2.2.2.1, zq8.2.2.2.2.2.2.1, zq8.2.2.2.2.2.2.2.1, zq8.2.2.2.2.2.2.2.2.1, zq8.1, zq8.2.2.2.2.2.2.2.2.2.2.1, zq8.2.2.2.2.2.2.2.2.2.2.2) 61).bind (fun zq9 => ((fX3_number zq9 1 999).bind (fun zq10 => some (zq10.2.1, zq10.2.2.1, zq10.2.2.2.1, zq10.2.2.2.2.1, zq10.2.2.2.2.2.1, zq10.2.2.2.2.2.2.1, zq10.2.2.2.2.2.2.2.1, zq10.2.2.2.2.2.2.2.2.1, zq10.2.2.2.2.2.2.2.2.2.1, zq10.1, zq10.2.2.2.2.2.2.2.2.2.2.2)))))))))))))))))))))
abbrev rm_X3_readBid : Jvm.Room := { frames := 2, cells := 0, slots := 0, locals := 48 }
theorem hd_X3_readBid : yX3_readBid.cls = RX3 ∧ yX3_readBid.cls ≠ "java/lang/invoke/MethodHandle" ∧ yX3_readBid.cls ≠ "java/lang/invoke/VarHandle" ∧ (parseMethodDescriptor yX3_readBid.desc).map (fun d => d.parameters.length) = some 0 := by decide +kernel
set_option maxHeartbeats 4000000 in
set_option maxRecDepth 100000 in
theorem kX3_readBid (l : Launch) (g : CX) (h0 h1 : Nat) (sz : Nat) (x : PD) (res : PD) (hm0 : fX3_readBid x = some res) : Met l yX3_readBid (wg yX3_readBid cX3_readBid 1 none) rm_X3_readBid (PW g [.ref h0] sz (w_X3 g h0 h1 x)) (va_Qv (fun u => u = res) (fun u t => va_P g.1 vwCl (w_X3 g h0 h1 u) t.heap) (va_A (w_X3 g h0 h1 x) sz)) 0 0 (va_A (w_X3 g h0 h1 x) sz) := by
  refine Met.ofW (cc := cX3_readBid) (maxL := 1) (ret := none) (by decide) rfl ?_
  intro p e s m args below meth c s₁ B hml hv
  obtain ⟨rfl, hsz, hP, hK, hD0, hL⟩ := hv
  have hx := B.exec
  have hb := B.bytes
  have hr := B.returns
  have htG := wg_G (atoms_spec (ws := wg yX3_readBid cX3_readBid 1 none) B.pre)
  have hown : s.vm.findClass RX3 = some m.cls := findClass_of_methodNamed B.named
  have hlocks := B.notSynchronized
  subst hsz
  have hD := hD0.self (sz := s.heap.size)
  generalize hAe : va_A (w_X3 g h0 h1 x) s.heap.size = A at hD hL ⊢
  have hA : ∀ q : Nat, s.heap.size ≤ q → A q := fun q h => by rw [← hAe]; exact Or.inr h
  have hS : va_S A s.heap s.heap [] := va_S.rf
  have hl := lv_entry ([.ref h0]) (n := 1) (Nat.le_of_ble_eq_true rfl)
  rw [lg_entry_eq]
  generalize (lg_sl ([.ref h0]) ++ List.replicate (1 - (lg_sl ([.ref h0])).length) Slot.unset).toArray = ls at hl ⊢
  have hl : lv_has ls 1 [(0, .ref h0)] := hl
  have hm := hm0
  unfold fX3_readBid at hm
  refine lv_aload_n hx hb dX3_readBid_0 rfl (lv_at hl 0 rfl) ?_
  refine lv_bipush (v := 98) hx hb dX3_readBid_1 (by decide +kernel) ?_
  obtain ⟨zq1, hzq1, hm⟩ := bdk hm
  refine kw_veA (va_runV (As := [.int 98]) (rest := []) ⟨hx, hb, hml, hown, htG⟩ (kX3_take l g h0 h1 _ x 98 _ hzq1) (cwV 1 htG (GV g3_53 g3_55 gS_3 g1_9 g3_56) rfl rfl rfl hd_X3_take ⟨Nat.le_of_ble_eq_true rfl, Nat.le_of_ble_eq_true rfl⟩) (PW_VA hK hL hS hP hD hA (ci := 3) rfl 0 rfl) rfl rfl hl.1 rfl (lv_room (Nat.le_of_ble_eq_true rfl)) dX3_readBid_3 ⟨Nat.zero_le _, Nat.zero_le _⟩) hD hS hA (fun _ => rfl) (fun H locs hP hD hS => ?_)
  have hP : va_P g.1 vwCl (w_X3 g h0 h1 zq1) H := hP
  have hD : va_D A (w_X3 g h0 h1 zq1) := hD
  refine lv_aload_n hx hb dX3_readBid_6 rfl (lv_at hl 0 rfl) ?_
  refine lv_aload_n hx hb dX3_readBid_7 rfl (lv_at hl 0 rfl) ?_
  refine lv_iconst (v := 0) hx hb dX3_readBid_8 (by decide) ?_
  refine lv_iconst (v := 5) hx hb dX3_readBid_9 (by decide) ?_
  obtain ⟨zq2, hzq2, hm⟩ := bdk hm
  refine kw_ieA (va_runV (As := [.int 0, .int 5]) (rest := [.ref h0]) ⟨hx, hb, hml, hown, htG⟩ (kX3_number l g h0 h1 _ zq1 0 5 _ hzq2) (cwV 2 htG (GV g3_65 g3_67 gS_6 g1_9 g3_68) rfl rfl rfl hd_X3_number ⟨Nat.le_of_ble_eq_true rfl, Nat.le_of_ble_eq_true rfl⟩) (PW_VA hK hL hS hP hD hA (ci := 3) rfl 0 rfl) rfl rfl hl.1 rfl (lv_room (Nat.le_of_ble_eq_true rfl)) dX3_readBid_10 ⟨Nat.zero_le _, Nat.zero_le _⟩) hD hS hA (fun _ => rfl) (fun H locs hP hD hS => ?_)
  have hP : va_P g.1 vwCl (w_X3 g h0 h1 zq2.2) H := hP
  have hD : va_D A (w_X3 g h0 h1 zq2.2) := hD
  refine va_put (D := g.1) (ci := 3) (v := .int zq2.1) (ty := .int) (C := RX3) (T := TX3) (N := 11) hx hb htG in_wsX30 tyX3 tyX3_ok nmX3 hown hK.1 hP hD hS 0 rfl rfl 5 (by decide) (htG _ g1_188) (fun _ h9 => h9) rfl (by decide +kernel) rfl rfl (Nat.le_of_ble_eq_true rfl) dX3_readBid_13 (fun H locs hP hD hS => ?_)
  have hP : va_P g.1 vwCl (w_X3 g h0 h1 (zq2.2.1, zq2.2.2.1, zq2.2.2.2.1, zq2.2.2.2.2.1, zq2.2.2.2.2.2.1, zq2.1, zq2.2.2.2.2.2.2.2.1, zq2.2.2.2.2.2.2.2.2.1, zq2.2.2.2.2.2.2.2.2.2.1, zq2.2.2.2.2.2.2.2.2.2.2.1, zq2.2.2.2.2.2.2.2.2.2.2.2)) H := hP
  have hD : va_D A (w_X3 g h0 h1 (zq2.2.1, zq2.2.2.1, zq2.2.2.2.1, zq2.2.2.2.2.1, zq2.2.2.2.2.2.1, zq2.1, zq2.2.2.2.2.2.2.2.1, zq2.2.2.2.2.2.2.2.2.1, zq2.2.2.2.2.2.2.2.2.2.1, zq2.2.2.2.2.2.2.2.2.2.2.1, zq2.2.2.2.2.2.2.2.2.2.2.2)) := hD
  refine lv_aload_n hx hb dX3_readBid_16 rfl (lv_at hl 0 rfl) ?_
  refine lv_bipush (v := 99) hx hb dX3_readBid_17 (by decide +kernel) ?_
  obtain ⟨zq3, hzq3, hm⟩ := bdk hm
  refine kw_veA (va_runV (As := [.int 99]) (rest := []) ⟨hx, hb, hml, hown, htG⟩ (kX3_take l g h0 h1 _ (zq2.2.1, zq2.2.2.1, zq2.2.2.2.1, zq2.2.2.2.2.1, zq2.2.2.2.2.2.1, zq2.1, zq2.2.2.2.2.2.2.2.1, zq2.2.2.2.2.2.2.2.2.1, zq2.2.2.2.2.2.2.2.2.2.1, zq2.2.2.2.2.2.2.2.2.2.2.1, zq2.2.2.2.2.2.2.2.2.2.2.2) 99 _ hzq3) (cwV 1 htG (GV g3_53 g3_55 gS_3 g1_9 g3_56) rfl rfl rfl hd_X3_take ⟨Nat.le_of_ble_eq_true rfl, Nat.le_of_ble_eq_true rfl⟩) (PW_VA hK hL hS hP hD hA (ci := 3) rfl 0 rfl) rfl rfl hl.1 rfl (lv_room (Nat.le_of_ble_eq_true rfl)) dX3_readBid_19 ⟨Nat.zero_le _, Nat.zero_le _⟩) hD hS hA (fun _ => rfl) (fun H locs hP hD hS => ?_)
  have hP : va_P g.1 vwCl (w_X3 g h0 h1 zq3) H := hP
  have hD : va_D A (w_X3 g h0 h1 zq3) := hD
  refine lv_aload_n hx hb dX3_readBid_22 rfl (lv_at hl 0 rfl) ?_
  refine lv_aload_n hx hb dX3_readBid_23 rfl (lv_at hl 0 rfl) ?_
  refine lv_iconst (v := 0) hx hb dX3_readBid_24 (by decide) ?_
  refine lv_iconst (v := 2) hx hb dX3_readBid_25 (by decide) ?_
  obtain ⟨zq4, hzq4, hm⟩ := bdk hm
  refine kw_ieA (va_runV (As := [.int 0, .int 2]) (rest := [.ref h0]) ⟨hx, hb, hml, hown, htG⟩ (kX3_number l g h0 h1 _ zq3 0 2 _ hzq4) (cwV 2 htG (GV g3_65 g3_67 gS_6 g1_9 g3_68) rfl rfl rfl hd_X3_number ⟨Nat.le_of_ble_eq_true rfl, Nat.le_of_ble_eq_true rfl⟩) (PW_VA hK hL hS hP hD hA (ci := 3) rfl 0 rfl) rfl rfl hl.1 rfl (lv_room (Nat.le_of_ble_eq_true rfl)) dX3_readBid_26 ⟨Nat.zero_le _, Nat.zero_le _⟩) hD hS hA (fun _ => rfl) (fun H locs hP hD hS => ?_)
  have hP : va_P g.1 vwCl (w_X3 g h0 h1 zq4.2) H := hP
  have hD : va_D A (w_X3 g h0 h1 zq4.2) := hD
  refine va_put (D := g.1) (ci := 3) (v := .int zq4.1) (ty := .int) (C := RX3) (T := TX3) (N := 11) hx hb htG in_wsX30 tyX3 tyX3_ok nmX3 hown hK.1 hP hD hS 0 rfl rfl 6 (by decide) (htG _ g1_190) (fun _ h9 => h9) rfl (by decide +kernel) rfl rfl (Nat.le_of_ble_eq_true rfl) dX3_readBid_29 (fun H locs hP hD hS => ?_)
  have hP : va_P g.1 vwCl (w_X3 g h0 h1 (zq4.2.1, zq4.2.2.1, zq4.2.2.2.1, zq4.2.2.2.2.1, zq4.2.2.2.2.2.1, zq4.2.2.2.2.2.2.1, zq4.1, zq4.2.2.2.2.2.2.2.2.1, zq4.2.2.2.2.2.2.2.2.2.1, zq4.2.2.2.2.2.2.2.2.2.2.1, zq4.2.2.2.2.2.2.2.2.2.2.2)) H := hP
  have hD : va_D A (w_X3 g h0 h1 (zq4.2.1, zq4.2.2.1, zq4.2.2.2.1, zq4.2.2.2.2.1, zq4.2.2.2.2.2.1, zq4.2.2.2.2.2.2.1, zq4.1, zq4.2.2.2.2.2.2.2.2.1, zq4.2.2.2.2.2.2.2.2.2.1, zq4.2.2.2.2.2.2.2.2.2.2.1, zq4.2.2.2.2.2.2.2.2.2.2.2)) := hD
  refine lv_aload_n hx hb dX3_readBid_32 rfl (lv_at hl 0 rfl) ?_
  refine lv_bipush (v := 104) hx hb dX3_readBid_33 (by decide +kernel) ?_
  obtain ⟨zq5, hzq5, hm⟩ := bdk hm
  refine kw_veA (va_runV (As := [.int 104]) (rest := []) ⟨hx, hb, hml, hown, htG⟩ (kX3_take l g h0 h1 _ (zq4.2.1, zq4.2.2.1, zq4.2.2.2.1, zq4.2.2.2.2.1, zq4.2.2.2.2.2.1, zq4.2.2.2.2.2.2.1, zq4.1, zq4.2.2.2.2.2.2.2.2.1, zq4.2.2.2.2.2.2.2.2.2.1, zq4.2.2.2.2.2.2.2.2.2.2.1, zq4.2.2.2.2.2.2.2.2.2.2.2) 104 _ hzq5) (cwV 1 htG (GV g3_53 g3_55 gS_3 g1_9 g3_56) rfl rfl rfl hd_X3_take ⟨Nat.le_of_ble_eq_true rfl, Nat.le_of_ble_eq_true rfl⟩) (PW_VA hK hL hS hP hD hA (ci := 3) rfl 0 rfl) rfl rfl hl.1 rfl (lv_room (Nat.le_of_ble_eq_true rfl)) dX3_readBid_35 ⟨Nat.zero_le _, Nat.zero_le _⟩) hD hS hA (fun _ => rfl) (fun H locs hP hD hS => ?_)
  have hP : va_P g.1 vwCl (w_X3 g h0 h1 zq5) H := hP
  have hD : va_D A (w_X3 g h0 h1 zq5) := hD
  refine lv_aload_n hx hb dX3_readBid_38 rfl (lv_at hl 0 rfl) ?_
  refine lv_aload_n hx hb dX3_readBid_39 rfl (lv_at hl 0 rfl) ?_
  refine lv_iconst (v := 0) hx hb dX3_readBid_40 (by decide) ?_
  refine lv_bipush (v := 15) hx hb dX3_readBid_41 (by decide +kernel) ?_
  obtain ⟨zq6, hzq6, hm⟩ := bdk hm
  refine kw_ieA (va_runV (As := [.int 0, .int 15]) (rest := [.ref h0]) ⟨hx, hb, hml, hown, htG⟩ (kX3_number l g h0 h1 _ zq5 0 15 _ hzq6) (cwV 2 htG (GV g3_65 g3_67 gS_6 g1_9 g3_68) rfl rfl rfl hd_X3_number ⟨Nat.le_of_ble_eq_true rfl, Nat.le_of_ble_eq_true rfl⟩) (PW_VA hK hL hS hP hD hA (ci := 3) rfl 0 rfl) rfl rfl hl.1 rfl (lv_room (Nat.le_of_ble_eq_true rfl)) dX3_readBid_43 ⟨Nat.zero_le _, Nat.zero_le _⟩) hD hS hA (fun _ => rfl) (fun H locs hP hD hS => ?_)
  have hP : va_P g.1 vwCl (w_X3 g h0 h1 zq6.2) H := hP
  have hD : va_D A (w_X3 g h0 h1 zq6.2) := hD
  refine va_put (D := g.1) (ci := 3) (v := .int zq6.1) (ty := .int) (C := RX3) (T := TX3) (N := 11) hx hb htG in_wsX30 tyX3 tyX3_ok nmX3 hown hK.1 hP hD hS 0 rfl rfl 7 (by decide) (htG _ g1_192) (fun _ h9 => h9) rfl (by decide +kernel) rfl rfl (Nat.le_of_ble_eq_true rfl) dX3_readBid_46 (fun H locs hP hD hS => ?_)
  have hP : va_P g.1 vwCl (w_X3 g h0 h1 (zq6.2.1, zq6.2.2.1, zq6.2.2.2.1, zq6.2.2.2.2.1, zq6.2.2.2.2.2.1, zq6.2.2.2.2.2.2.1, zq6.2.2.2.2.2.2.2.1, zq6.1, zq6.2.2.2.2.2.2.2.2.2.1, zq6.2.2.2.2.2.2.2.2.2.2.1, zq6.2.2.2.2.2.2.2.2.2.2.2)) H := hP
  have hD : va_D A (w_X3 g h0 h1 (zq6.2.1, zq6.2.2.1, zq6.2.2.2.1, zq6.2.2.2.2.1, zq6.2.2.2.2.2.1, zq6.2.2.2.2.2.2.1, zq6.2.2.2.2.2.2.2.1, zq6.1, zq6.2.2.2.2.2.2.2.2.2.1, zq6.2.2.2.2.2.2.2.2.2.2.1, zq6.2.2.2.2.2.2.2.2.2.2.2)) := hD
  refine lv_aload_n hx hb dX3_readBid_49 rfl (lv_at hl 0 rfl) ?_
  refine lv_bipush (v := 119) hx hb dX3_readBid_50 (by decide +kernel) ?_
  obtain ⟨zq7, hzq7, hm⟩ := bdk hm
  refine kw_veA (va_runV (As := [.int 119]) (rest := []) ⟨hx, hb, hml, hown, htG⟩ (kX3_take l g h0 h1 _ (zq6.2.1, zq6.2.2.1, zq6.2.2.2.1, zq6.2.2.2.2.1, zq6.2.2.2.2.2.1, zq6.2.2.2.2.2.2.1, zq6.2.2.2.2.2.2.2.1, zq6.1, zq6.2.2.2.2.2.2.2.2.2.1, zq6.2.2.2.2.2.2.2.2.2.2.1, zq6.2.2.2.2.2.2.2.2.2.2.2) 119 _ hzq7) (cwV 1 htG (GV g3_53 g3_55 gS_3 g1_9 g3_56) rfl rfl rfl hd_X3_take ⟨Nat.le_of_ble_eq_true rfl, Nat.le_of_ble_eq_true rfl⟩) (PW_VA hK hL hS hP hD hA (ci := 3) rfl 0 rfl) rfl rfl hl.1 rfl (lv_room (Nat.le_of_ble_eq_true rfl)) dX3_readBid_52 ⟨Nat.zero_le _, Nat.zero_le _⟩) hD hS hA (fun _ => rfl) (fun H locs hP hD hS => ?_)
  have hP : va_P g.1 vwCl (w_X3 g h0 h1 zq7) H := hP
  have hD : va_D A (w_X3 g h0 h1 zq7) := hD
  refine lv_aload_n hx hb dX3_readBid_55 rfl (lv_at hl 0 rfl) ?_
  refine lv_aload_n hx hb dX3_readBid_56 rfl (lv_at hl 0 rfl) ?_
  refine lv_iconst (v := 1) hx hb dX3_readBid_57 (by decide) ?_
  refine lv_bipush (v := 60) hx hb dX3_readBid_58 (by decide +kernel) ?_
  obtain ⟨zq8, hzq8, hm⟩ := bdk hm
  refine kw_ieA (va_runV (As := [.int 1, .int 60]) (rest := [.ref h0]) ⟨hx, hb, hml, hown, htG⟩ (kX3_number l g h0 h1 _ zq7 1 60 _ hzq8) (cwV 2 htG (GV g3_65 g3_67 gS_6 g1_9 g3_68) rfl rfl rfl hd_X3_number ⟨Nat.le_of_ble_eq_true rfl, Nat.le_of_ble_eq_true rfl⟩) (PW_VA hK hL hS hP hD hA (ci := 3) rfl 0 rfl) rfl rfl hl.1 rfl (lv_room (Nat.le_of_ble_eq_true rfl)) dX3_readBid_60 ⟨Nat.zero_le _, Nat.zero_le _⟩) hD hS hA (fun _ => rfl) (fun H locs hP hD hS => ?_)
  have hP : va_P g.1 vwCl (w_X3 g h0 h1 zq8.2) H := hP
  have hD : va_D A (w_X3 g h0 h1 zq8.2) := hD
  refine va_put (D := g.1) (ci := 3) (v := .int zq8.1) (ty := .int) (C := RX3) (T := TX3) (N := 11) hx hb htG in_wsX30 tyX3 tyX3_ok nmX3 hown hK.1 hP hD hS 0 rfl rfl 8 (by decide) (htG _ g1_194) (fun _ h9 => h9) rfl (by decide +kernel) rfl rfl (Nat.le_of_ble_eq_true rfl) dX3_readBid_63 (fun H locs hP hD hS => ?_)
  have hP : va_P g.1 vwCl (w_X3 g h0 h1 (zq8.2.1, zq8.2.2.1, zq8.2.2.2.1, zq8.2.2.2.2.1, zq8.2.2.2.2.2.1, zq8.2.2.2.2.2.2.1, zq8.2.2.2.2.2.2.2.1, zq8.2.2.2.2.2.2.2.2.1, zq8.1, zq8.2.2.2.2.2.2.2.2.2.2.1, zq8.2.2.2.2.2.2.2.2.2.2.2)) H := hP
  have hD : va_D A (w_X3 g h0 h1 (zq8.2.1, zq8.2.2.1, zq8.2.2.2.1, zq8.2.2.2.2.1, zq8.2.2.2.2.2.1, zq8.2.2.2.2.2.2.1, zq8.2.2.2.2.2.2.2.1, zq8.2.2.2.2.2.2.2.2.1, zq8.1, zq8.2.2.2.2.2.2.2.2.2.2.1, zq8.2.2.2.2.2.2.2.2.2.2.2)) := hD
  refine lv_aload_n hx hb dX3_readBid_66 rfl (lv_at hl 0 rfl) ?_
  refine lv_bipush (v := 61) hx hb dX3_readBid_67 (by decide +kernel) ?_
  obtain ⟨zq9, hzq9, hm⟩ := bdk hm
  refine kw_veA (va_runV (As := [.int 61]) (rest := []) ⟨hx, hb, hml, hown, htG⟩ (kX3_take l g h0 h1 _ (zq8.2.1, zq8.2.2.1, zq8.2.2.2.1, zq8.2.2.2.2.1, zq8.2.2.2.2.2.1, zq8.2.2.2.2.2.2.1, zq8.2.2.2.2.2.2.2.1, zq8.2.2.2.2.2.2.2.2.1, zq8.1, zq8.2.2.2.2.2.2.2.2.2.2.1, zq8.2.2.2.2.2.2.2.2.2.2.2) 61 _ hzq9) (cwV 1 htG (GV g3_53 g3_55 gS_3 g1_9 g3_56) rfl rfl rfl hd_X3_take ⟨Nat.le_of_ble_eq_true rfl, Nat.le_of_ble_eq_true rfl⟩) (PW_VA hK hL hS hP hD hA (ci := 3) rfl 0 rfl) rfl rfl hl.1 rfl (lv_room (Nat.le_of_ble_eq_true rfl)) dX3_readBid_69 ⟨Nat.zero_le _, Nat.zero_le _⟩) hD hS hA (fun _ => rfl) (fun H locs hP hD hS => ?_)
  have hP : va_P g.1 vwCl (w_X3 g h0 h1 zq9) H := hP
  have hD : va_D A (w_X3 g h0 h1 zq9) := hD
  refine lv_aload_n hx hb dX3_readBid_72 rfl (lv_at hl 0 rfl) ?_
  refine lv_aload_n hx hb dX3_readBid_73 rfl (lv_at hl 0 rfl) ?_
  refine lv_iconst (v := 1) hx hb dX3_readBid_74 (by decide) ?_
  refine lv_sipush (v := 999) hx hb dX3_readBid_75 (by decide +kernel) ?_
  obtain ⟨zq10, hzq10, hm⟩ := bdk hm
  refine kw_ieA (va_runV (As := [.int 1, .int 999]) (rest := [.ref h0]) ⟨hx, hb, hml, hown, htG⟩ (kX3_number l g h0 h1 _ zq9 1 999 _ hzq10) (cwV 2 htG (GV g3_65 g3_67 gS_6 g1_9 g3_68) rfl rfl rfl hd_X3_number ⟨Nat.le_of_ble_eq_true rfl, Nat.le_of_ble_eq_true rfl⟩) (PW_VA hK hL hS hP hD hA (ci := 3) rfl 0 rfl) rfl rfl hl.1 rfl (lv_room (Nat.le_of_ble_eq_true rfl)) dX3_readBid_78 ⟨Nat.zero_le _, Nat.zero_le _⟩) hD hS hA (fun _ => rfl) (fun H locs hP hD hS => ?_)
  have hP : va_P g.1 vwCl (w_X3 g h0 h1 zq10.2) H := hP
  have hD : va_D A (w_X3 g h0 h1 zq10.2) := hD
  refine va_put (D := g.1) (ci := 3) (v := .int zq10.1) (ty := .int) (C := RX3) (T := TX3) (N := 11) hx hb htG in_wsX30 tyX3 tyX3_ok nmX3 hown hK.1 hP hD hS 0 rfl rfl 9 (by decide) (htG _ g1_196) (fun _ h9 => h9) rfl (by decide +kernel) rfl rfl (Nat.le_of_ble_eq_true rfl) dX3_readBid_81 (fun H locs hP hD hS => ?_)
  have hP : va_P g.1 vwCl (w_X3 g h0 h1 (zq10.2.1, zq10.2.2.1, zq10.2.2.2.1, zq10.2.2.2.2.1, zq10.2.2.2.2.2.1, zq10.2.2.2.2.2.2.1, zq10.2.2.2.2.2.2.2.1, zq10.2.2.2.2.2.2.2.2.1, zq10.2.2.2.2.2.2.2.2.2.1, zq10.1, zq10.2.2.2.2.2.2.2.2.2.2.2)) H := hP
  have hD : va_D A (w_X3 g h0 h1 (zq10.2.1, zq10.2.2.1, zq10.2.2.2.1, zq10.2.2.2.2.1, zq10.2.2.2.2.2.1, zq10.2.2.2.2.2.2.1, zq10.2.2.2.2.2.2.2.1, zq10.2.2.2.2.2.2.2.2.1, zq10.2.2.2.2.2.2.2.2.2.1, zq10.1, zq10.2.2.2.2.2.2.2.2.2.2.2)) := hD
  exact W.vret hx hb hr (fun t ht hW => ⟨⟨_, rfl, (Option.some.inj hm), atH ht hP⟩, hS.F ht⟩) hS.2.2 dX3_readBid_84
def fX3_readNext (x : PD) : Option (PD) := (if x.2.2.1 ≤ 0 then ((fX3_sign x).bind (fun zq2 => (if zq2 = 98 then ((fX3_readBid (x.1, x.2.1, x.2.2.1, x.2.2.2.1, zq2, x.2.2.2.2.2.1, x.2.2.2.2.2.2.1, x.2.2.2.2.2.2.2.1, x.2.2.2.2.2.2.2.2.1, x.2.2.2.2.2.2.2.2.2.1, x.2.2.2.2.2.2.2.2.2.2)).bind (fun zq4 => some zq4)) else (if zq2 = 99 then ((fX3_take (x.1, x.2.1, x.2.2.1, x.2.2.2.1, zq2, x.2.2.2.2.2.1, x.2.2.2.2.2.2.1, x.2.2.2.2.2.2.2.1, x.2.2.2.2.2.2.2.2.1, x.2.2.2.2.2.2.2.2.2.1, x.2.2.2.2.2.2.2.2.2.2) 110).bind (fun zq6 => some zq6)) else (if zq2 = 100 then ((fX3_take (x.1, x.2.1, x.2.2.1, x.2.2.2.1, zq2, x.2.2.2.2.2.1, x.2.2.2.2.2.2.1, x.2.2.2.2.2.2.2.1, x.2.2.2.2.2.2.2.2.1, x.2.2.2.2.2.2.2.2.2.1, x.2.2.2.2.2.2.2.2.2.2) 100).bind (fun zq8 => ((fX3_number zq8 0 99).bind (fun zq9 => some (zq9.2.1, zq9.2.2.1, zq9.2.2.2.1, zq9.2.2.2.2.1, zq9.2.2.2.2.2.1, zq9.2.2.2.2.2.2.1, zq9.2.2.2.2.2.2.2.1, zq9.2.2.2.2.2.2.2.2.1, zq9.2.2.2.2.2.2.2.2.2.1, zq9.2.2.2.2.2.2.2.2.2.2.1, zq9.1))))) else (if zq2 = 101 then ((fX3_take (x.1, x.2.1, x.2.2.1, x.2.2.2.1, zq2, x.2.2.2.2.2.1, x.2.2.2.2.2.2.1, x.2.2.2.2.2.2.2.1, x.2.2.2.2.2.2.2.2.1, x.2.2.2.2.2.2.2.2.2.1, x.2.2.2.2.2.2.2.2.2.2) 101).bind (fun zq11 => ((fX3_number zq11 0 15).bind (fun zq12 => ((fX3_take (zq12.2.1, zq12.2.2.1, zq12.2.2.2.1, zq12.2.2.2.2.1, zq12.2.2.2.2.2.1, zq12.2.2.2.2.2.2.1, zq12.2.2.2.2.2.2.2.1, zq12.1, zq12.2.2.2.2.2.2.2.2.2.1, zq12.2.2.2.2.2.2.2.2.2.2.1, zq12.2.2.2.2.2.2.2.2.2.2.2) 58).bind (fun zq13 => ((fX3_number zq13 0 99).bind (fun zq14 => some (zq14.2.1, zq14.2.2.1, zq14.2.2.2.1, zq14.2.2.2.2.1, zq14.2.2.2.2.2.1, zq14.2.2.2.2.2.2.1, zq14.2.2.2.2.2.2.2.1, zq14.2.2.2.2.2.2.2.2.1, zq14.2.2.2.2.2.2.2.2.2.1, zq14.2.2.2.2.2.2.2.2.2.2.1, zq14.1))))))))) else ((fX3_take (x.1, x.2.1, x.2.2.1, x.2.2.2.1, zq2, x.2.2.2.2.2.1, x.2.2.2.2.2.2.1, x.2.2.2.2.2.2.2.1, x.2.2.2.2.2.2.2.2.1, x.2.2.2.2.2.2.2.2.2.1, x.2.2.2.2.2.2.2.2.2.2) 110).bind (fun zq15 => some zq15)))))))) else ((fX3_take x 44).bind (fun zq16 => ((fX3_sign zq16).bind (fun zq17 => (if zq17 = 98 then ((fX3_readBid (zq16.1, zq16.2.1, zq16.2.2.1, zq16.2.2.2.1, zq17, zq16.2.2.2.2.2.1, zq16.2.2.2.2.2.2.1, zq16.2.2.2.2.2.2.2.1, zq16.2.2.2.2.2.2.2.2.1, zq16.2.2.2.2.2.2.2.2.2.1, zq16.2.2.2.2.2.2.2.2.2.2)).bind (fun zq19 => some zq19)) else (if zq17 = 99 then ((fX3_take (zq16.1, zq16.2.1, zq16.2.2.1, zq16.2.2.2.1, zq17, zq16.2.2.2.2.2.1, zq16.2.2.2.2.2.2.1, zq16.2.2.2.2.2.2.2.1, zq16.2.2.2.2.2.2.2.2.1, zq16.2.2.2.2.2.2.2.2.2.1, zq16.2.2.2.2.2.2.2.2.2.2) 110).bind (fun zq21 => some zq21)) else (if zq17 = 100 then ((fX3_take (zq16.1, zq16.2.1, zq16.2.2.1, zq16.2.2.2.1, zq17, zq16.2.2.2.2.2.1, zq16.2.2.2.2.2.2.1, zq16.2.2.2.2.2.2.2.1, zq16.2.2.2.2.2.2.2.2.1, zq16.2.2.2.2.2.2.2.2.2.1, zq16.2.2.2.2.2.2.2.2.2.2) 100).bind (fun zq23 => ((fX3_number zq23 0 99).bind (fun zq24 => some (zq24.2.1, zq24.2.2.1, zq24.2.2.2.1, zq24.2.2.2.2.1, zq24.2.2.2.2.2.1, zq24.2.2.2.2.2.2.1, zq24.2.2.2.2.2.2.2.1, zq24.2.2.2.2.2.2.2.2.1, zq24.2.2.2.2.2.2.2.2.2.1, zq24.2.2.2.2.2.2.2.2.2.2.1, zq24.1))))) else (if zq17 = 101 then ((fX3_take (zq16.1, zq16.2.1, zq16.2.2.1, zq16.2.2.2.1, zq17, zq16.2.2.2.2.2.1, zq16.2.2.2.2.2.2.1, zq16.2.2.2.2.2.2.2.1, zq16.2.2.2.2.2.2.2.2.1, zq16.2.2.2.2.2.2.2.2.2.1, zq16.2.2.2.2.2.2.2.2.2.2) 101).bind (fun zq26 => ((fX3_number zq26 0 15).bind (fun zq27 => ((fX3_take (zq27.2.1, zq27.2.2.1, zq27.2.2.2.1, zq27.2.2.2.2.1, zq27.2.2.2.2.2.1, zq27.2.2.2.2.2.2.1, zq27.2.2.2.2.2.2.2.1, zq27.1, zq27.2.2.2.2.2.2.2.2.2.1, zq27.2.2.2.2.2.2.2.2.2.2.1, zq27.2.2.2.2.2.2.2.2.2.2.2) 58).bind (fun zq28 => ((fX3_number zq28 0 99).bind (fun zq29 => some (zq29.2.1, zq29.2.2.1, zq29.2.2.2.1, zq29.2.2.2.2.1, zq29.2.2.2.2.2.1, zq29.2.2.2.2.2.2.1, zq29.2.2.2.2.2.2.2.1, zq29.2.2.2.2.2.2.2.2.1, zq29.2.2.2.2.2.2.2.2.2.1, zq29.2.2.2.2.2.2.2.2.2.2.1, zq29.1))))))))) else ((fX3_take (zq16.1, zq16.2.1, zq16.2.2.1, zq16.2.2.2.1, zq17, zq16.2.2.2.2.2.1, zq16.2.2.2.2.2.2.1, zq16.2.2.2.2.2.2.2.1, zq16.2.2.2.2.2.2.2.2.1, zq16.2.2.2.2.2.2.2.2.2.1, zq16.2.2.2.2.2.2.2.2.2.2) 110).bind (fun zq30 => some zq30)))))))))))
abbrev rm_X3_readNext : Jvm.Room := { frames := 3, cells := 0, slots := 0, locals := 68 }
theorem hd_X3_readNext : yX3_readNext.cls = RX3 ∧ yX3_readNext.cls ≠ "java/lang/invoke/MethodHandle" ∧ yX3_readNext.cls ≠ "java/lang/invoke/VarHandle" ∧ (parseMethodDescriptor yX3_readNext.desc).map (fun d => d.parameters.length) = some 0 := by decide +kernel
set_option maxHeartbeats 4000000 in
set_option maxRecDepth 100000 in
theorem kX3_readNext (l : Launch) (g : CX) (h0 h1 : Nat) (sz : Nat) (x : PD) (res : PD) (hm0 : fX3_readNext x = some res) : Met l yX3_readNext (wg yX3_readNext cX3_readNext 1 none) rm_X3_readNext (PW g [.ref h0] sz (w_X3 g h0 h1 x)) (va_Qv (fun u => u = res) (fun u t => va_P g.1 vwCl (w_X3 g h0 h1 u) t.heap) (va_A (w_X3 g h0 h1 x) sz)) 0 0 (va_A (w_X3 g h0 h1 x) sz) := by
  refine Met.ofW (cc := cX3_readNext) (maxL := 1) (ret := none) (by decide) rfl ?_
  intro p e s m args below meth c s₁ B hml hv
  obtain ⟨rfl, hsz, hP, hK, hD0, hL⟩ := hv
  have hx := B.exec
  have hb := B.bytes
  have hr := B.returns
  have htG := wg_G (atoms_spec (ws := wg yX3_readNext cX3_readNext 1 none) B.pre)
  have hown : s.vm.findClass RX3 = some m.cls := findClass_of_methodNamed B.named
  have hlocks := B.notSynchronized
  subst hsz
  have hD := hD0.self (sz := s.heap.size)
  generalize hAe : va_A (w_X3 g h0 h1 x) s.heap.size = A at hD hL ⊢
  have hA : ∀ q : Nat, s.heap.size ≤ q → A q := fun q h => by rw [← hAe]; exact Or.inr h
  have hS : va_S A s.heap s.heap [] := va_S.rf
  have hl := lv_entry ([.ref h0]) (n := 1) (Nat.le_of_ble_eq_true rfl)
  rw [lg_entry_eq]
  generalize (lg_sl ([.ref h0]) ++ List.replicate (1 - (lg_sl ([.ref h0])).length) Slot.unset).toArray = ls at hl ⊢
  have hl : lv_has ls 1 [(0, .ref h0)] := hl
  have hm := hm0
  unfold fX3_readNext at hm
  refine lv_aload_n hx hb dX3_readNext_0 rfl (lv_at hl 0 rfl) ?_
  refine va_get (D := g.1) (ci := 3) (v := .int x.2.2.1) (C := RX3) (T := TX3) (N := 11) hx hb htG in_wsX30 hown hK.1 hP 0 rfl rfl 2 (by decide) (htG _ g1_184) (fun _ h9 => h9) rfl dX3_readNext_1 ?_
  refine lv_if_le (tgt := 13) hx hb dX3_readNext_4 (by decide) (fun zc1 => ?_) (fun zc1 => ?_)
  · replace hm := (if_pos zc1).symm.trans hm
    refine lv_aload_n hx hb dX3_readNext_13 rfl (lv_at hl 0 rfl) ?_
    refine lv_aload_n hx hb dX3_readNext_14 rfl (lv_at hl 0 rfl) ?_
    obtain ⟨zq2, hzq2, hm⟩ := bdk hm
    refine ko_e (va_runV (As := []) (rest := [.ref h0]) ⟨hx, hb, hml, hown, htG⟩ (kX3_sign l g h0 h1 x _ hzq2) (cwV 0 htG (GV g3_57 g3_59 gS_4 g1_9 g3_60) rfl rfl rfl hd_X3_sign ⟨Nat.le_of_ble_eq_true rfl, Nat.le_of_ble_eq_true rfl⟩) (PR_VA hK hL hS hP (ci := 3) rfl 0 rfl) rfl rfl hl.1 rfl (lv_room (Nat.le_of_ble_eq_true rfl)) dX3_readNext_15 ⟨Nat.zero_le _, Nat.zero_le _⟩) ?_
    refine va_put (D := g.1) (ci := 3) (v := .int zq2) (ty := .int) (C := RX3) (T := TX3) (N := 11) hx hb htG in_wsX30 tyX3 tyX3_ok nmX3 hown hK.1 hP hD hS 0 rfl rfl 4 (by decide) (htG _ g1_186) (fun _ h9 => h9) rfl (by decide +kernel) rfl rfl (Nat.le_of_ble_eq_true rfl) dX3_readNext_18 (fun H locs hP hD hS => ?_)
    have hP : va_P g.1 vwCl (w_X3 g h0 h1 (x.1, x.2.1, x.2.2.1, x.2.2.2.1, zq2, x.2.2.2.2.2.1, x.2.2.2.2.2.2.1, x.2.2.2.2.2.2.2.1, x.2.2.2.2.2.2.2.2.1, x.2.2.2.2.2.2.2.2.2.1, x.2.2.2.2.2.2.2.2.2.2)) H := hP
    have hD : va_D A (w_X3 g h0 h1 (x.1, x.2.1, x.2.2.1, x.2.2.2.1, zq2, x.2.2.2.2.2.1, x.2.2.2.2.2.2.1, x.2.2.2.2.2.2.2.1, x.2.2.2.2.2.2.2.2.1, x.2.2.2.2.2.2.2.2.2.1, x.2.2.2.2.2.2.2.2.2.2)) := hD
    refine lv_aload_n hx hb dX3_readNext_21 rfl (lv_at hl 0 rfl) ?_
    refine va_get (D := g.1) (ci := 3) (v := .int zq2) (C := RX3) (T := TX3) (N := 11) hx hb htG in_wsX30 hown hK.1 hP 0 rfl rfl 4 (by decide) (htG _ g1_186) (fun _ h9 => h9) rfl dX3_readNext_22 ?_
    by_cases zc3 : zq2 = 98
    · replace hm := (if_pos zc3).symm.trans hm
      refine lv_tableIn (tgt := 56) hx hb dX3_readNext_25 (by rw [zc3]; decide) (by rw [zc3]; decide) (by rw [zc3]; rfl) (by decide) ?_
      refine lv_aload_n hx hb dX3_readNext_56 rfl (lv_at hl 0 rfl) ?_
      obtain ⟨zq4, hzq4, hm⟩ := bdk hm
      refine kw_veA (va_runV (As := []) (rest := []) ⟨hx, hb, hml, hown, htG⟩ (kX3_readBid l g h0 h1 _ (x.1, x.2.1, x.2.2.1, x.2.2.2.1, zq2, x.2.2.2.2.2.1, x.2.2.2.2.2.2.1, x.2.2.2.2.2.2.2.1, x.2.2.2.2.2.2.2.2.1, x.2.2.2.2.2.2.2.2.2.1, x.2.2.2.2.2.2.2.2.2.2) _ hzq4) (cwV 0 htG (GV g3_61 g3_63 gS_5 g1_9 g3_64) rfl rfl rfl hd_X3_readBid ⟨Nat.le_of_ble_eq_true rfl, Nat.le_of_ble_eq_true rfl⟩) (PW_VA hK hL hS hP hD hA (ci := 3) rfl 0 rfl) rfl rfl hl.1 rfl (lv_room (Nat.le_of_ble_eq_true rfl)) dX3_readNext_57 ⟨Nat.zero_le _, Nat.zero_le _⟩) hD hS hA (fun _ => rfl) (fun H locs hP hD hS => ?_)
      have hP : va_P g.1 vwCl (w_X3 g h0 h1 zq4) H := hP
      have hD : va_D A (w_X3 g h0 h1 zq4) := hD
      refine lv_goto (tgt := 126) hx hb dX3_readNext_60 (by decide) ?_
      exact W.vret hx hb hr (fun t ht hW => ⟨⟨_, rfl, (Option.some.inj hm), atH ht hP⟩, hS.F ht⟩) hS.2.2 dX3_readNext_126
    · replace hm := (if_neg zc3).symm.trans hm
      by_cases zc5 : zq2 = 99
      · replace hm := (if_pos zc5).symm.trans hm
        refine lv_tableIn (tgt := 120) hx hb dX3_readNext_25 (by rw [zc5]; decide) (by rw [zc5]; decide) (by rw [zc5]; rfl) (by decide) ?_
        refine lv_aload_n hx hb dX3_readNext_120 rfl (lv_at hl 0 rfl) ?_
        refine lv_bipush (v := 110) hx hb dX3_readNext_121 (by decide +kernel) ?_
        obtain ⟨zq6, hzq6, hm⟩ := bdk hm
        refine kw_veA (va_runV (As := [.int 110]) (rest := []) ⟨hx, hb, hml, hown, htG⟩ (kX3_take l g h0 h1 _ (x.1, x.2.1, x.2.2.1, x.2.2.2.1, zq2, x.2.2.2.2.2.1, x.2.2.2.2.2.2.1, x.2.2.2.2.2.2.2.1, x.2.2.2.2.2.2.2.2.1, x.2.2.2.2.2.2.2.2.2.1, x.2.2.2.2.2.2.2.2.2.2) 110 _ hzq6) (cwV 1 htG (GV g3_53 g3_55 gS_3 g1_9 g3_56) rfl rfl rfl hd_X3_take ⟨Nat.le_of_ble_eq_true rfl, Nat.le_of_ble_eq_true rfl⟩) (PW_VA hK hL hS hP hD hA (ci := 3) rfl 0 rfl) rfl rfl hl.1 rfl (lv_room (Nat.le_of_ble_eq_true rfl)) dX3_readNext_123 ⟨Nat.zero_le _, Nat.zero_le _⟩) hD hS hA (fun _ => rfl) (fun H locs hP hD hS => ?_)
        have hP : va_P g.1 vwCl (w_X3 g h0 h1 zq6) H := hP
        have hD : va_D A (w_X3 g h0 h1 zq6) := hD
        exact W.vret hx hb hr (fun t ht hW => ⟨⟨_, rfl, (Option.some.inj hm), atH ht hP⟩, hS.F ht⟩) hS.2.2 dX3_readNext_126
      · replace hm := (if_neg zc5).symm.trans hm
        by_cases zc7 : zq2 = 100
        · replace hm := (if_pos zc7).symm.trans hm
          refine lv_tableIn (tgt := 100) hx hb dX3_readNext_25 (by rw [zc7]; decide) (by rw [zc7]; decide) (by rw [zc7]; rfl) (by decide) ?_
          refine lv_aload_n hx hb dX3_readNext_100 rfl (lv_at hl 0 rfl) ?_
          refine lv_bipush (v := 100) hx hb dX3_readNext_101 (by decide +kernel) ?_
          obtain ⟨zq8, hzq8, hm⟩ := bdk hm
          refine kw_veA (va_runV (As := [.int 100]) (rest := []) ⟨hx, hb, hml, hown, htG⟩ (kX3_take l g h0 h1 _ (x.1, x.2.1, x.2.2.1, x.2.2.2.1, zq2, x.2.2.2.2.2.1, x.2.2.2.2.2.2.1, x.2.2.2.2.2.2.2.1, x.2.2.2.2.2.2.2.2.1, x.2.2.2.2.2.2.2.2.2.1, x.2.2.2.2.2.2.2.2.2.2) 100 _ hzq8) (cwV 1 htG (GV g3_53 g3_55 gS_3 g1_9 g3_56) rfl rfl rfl hd_X3_take ⟨Nat.le_of_ble_eq_true rfl, Nat.le_of_ble_eq_true rfl⟩) (PW_VA hK hL hS hP hD hA (ci := 3) rfl 0 rfl) rfl rfl hl.1 rfl (lv_room (Nat.le_of_ble_eq_true rfl)) dX3_readNext_103 ⟨Nat.zero_le _, Nat.zero_le _⟩) hD hS hA (fun _ => rfl) (fun H locs hP hD hS => ?_)
          have hP : va_P g.1 vwCl (w_X3 g h0 h1 zq8) H := hP
          have hD : va_D A (w_X3 g h0 h1 zq8) := hD
          refine lv_aload_n hx hb dX3_readNext_106 rfl (lv_at hl 0 rfl) ?_
          refine lv_aload_n hx hb dX3_readNext_107 rfl (lv_at hl 0 rfl) ?_
          refine lv_iconst (v := 0) hx hb dX3_readNext_108 (by decide) ?_
          refine lv_bipush (v := 99) hx hb dX3_readNext_109 (by decide +kernel) ?_
          obtain ⟨zq9, hzq9, hm⟩ := bdk hm
          refine kw_ieA (va_runV (As := [.int 0, .int 99]) (rest := [.ref h0]) ⟨hx, hb, hml, hown, htG⟩ (kX3_number l g h0 h1 _ zq8 0 99 _ hzq9) (cwV 2 htG (GV g3_65 g3_67 gS_6 g1_9 g3_68) rfl rfl rfl hd_X3_number ⟨Nat.le_of_ble_eq_true rfl, Nat.le_of_ble_eq_true rfl⟩) (PW_VA hK hL hS hP hD hA (ci := 3) rfl 0 rfl) rfl rfl hl.1 rfl (lv_room (Nat.le_of_ble_eq_true rfl)) dX3_readNext_111 ⟨Nat.zero_le _, Nat.zero_le _⟩) hD hS hA (fun _ => rfl) (fun H locs hP hD hS => ?_)
          have hP : va_P g.1 vwCl (w_X3 g h0 h1 zq9.2) H := hP
          have hD : va_D A (w_X3 g h0 h1 zq9.2) := hD
          refine va_put (D := g.1) (ci := 3) (v := .int zq9.1) (ty := .int) (C := RX3) (T := TX3) (N := 11) hx hb htG in_wsX30 tyX3 tyX3_ok nmX3 hown hK.1 hP hD hS 0 rfl rfl 10 (by decide) (htG _ g1_198) (fun _ h9 => h9) rfl (by decide +kernel) rfl rfl (Nat.le_of_ble_eq_true rfl) dX3_readNext_114 (fun H locs hP hD hS => ?_)
          have hP : va_P g.1 vwCl (w_X3 g h0 h1 (zq9.2.1, zq9.2.2.1, zq9.2.2.2.1, zq9.2.2.2.2.1, zq9.2.2.2.2.2.1, zq9.2.2.2.2.2.2.1, zq9.2.2.2.2.2.2.2.1, zq9.2.2.2.2.2.2.2.2.1, zq9.2.2.2.2.2.2.2.2.2.1, zq9.2.2.2.2.2.2.2.2.2.2.1, zq9.1)) H := hP
          have hD : va_D A (w_X3 g h0 h1 (zq9.2.1, zq9.2.2.1, zq9.2.2.2.1, zq9.2.2.2.2.1, zq9.2.2.2.2.2.1, zq9.2.2.2.2.2.2.1, zq9.2.2.2.2.2.2.2.1, zq9.2.2.2.2.2.2.2.2.1, zq9.2.2.2.2.2.2.2.2.2.1, zq9.2.2.2.2.2.2.2.2.2.2.1, zq9.1)) := hD
          refine lv_goto (tgt := 126) hx hb dX3_readNext_117 (by decide) ?_
          exact W.vret hx hb hr (fun t ht hW => ⟨⟨_, rfl, (Option.some.inj hm), atH ht hP⟩, hS.F ht⟩) hS.2.2 dX3_readNext_126
        · replace hm := (if_neg zc7).symm.trans hm
          by_cases zc10 : zq2 = 101
          · replace hm := (if_pos zc10).symm.trans hm
            refine lv_tableIn (tgt := 63) hx hb dX3_readNext_25 (by rw [zc10]; decide) (by rw [zc10]; decide) (by rw [zc10]; rfl) (by decide) ?_
            refine lv_aload_n hx hb dX3_readNext_63 rfl (lv_at hl 0 rfl) ?_
            refine lv_bipush (v := 101) hx hb dX3_readNext_64 (by decide +kernel) ?_
            obtain ⟨zq11, hzq11, hm⟩ := bdk hm
            refine kw_veA (va_runV (As := [.int 101]) (rest := []) ⟨hx, hb, hml, hown, htG⟩ (kX3_take l g h0 h1 _ (x.1, x.2.1, x.2.2.1, x.2.2.2.1, zq2, x.2.2.2.2.2.1, x.2.2.2.2.2.2.1, x.2.2.2.2.2.2.2.1, x.2.2.2.2.2.2.2.2.1, x.2.2.2.2.2.2.2.2.2.1, x.2.2.2.2.2.2.2.2.2.2) 101 _ hzq11) (cwV 1 htG (GV g3_53 g3_55 gS_3 g1_9 g3_56) rfl rfl rfl hd_X3_take ⟨Nat.le_of_ble_eq_true rfl, Nat.le_of_ble_eq_true rfl⟩) (PW_VA hK hL hS hP hD hA (ci := 3) rfl 0 rfl) rfl rfl hl.1 rfl (lv_room (Nat.le_of_ble_eq_true rfl)) dX3_readNext_66 ⟨Nat.zero_le _, Nat.zero_le _⟩) hD hS hA (fun _ => rfl) (fun H locs hP hD hS => ?_)
            have hP : va_P g.1 vwCl (w_X3 g h0 h1 zq11) H := hP
            have hD : va_D A (w_X3 g h0 h1 zq11) := hD
            refine lv_aload_n hx hb dX3_readNext_69 rfl (lv_at hl 0 rfl) ?_
            refine lv_aload_n hx hb dX3_readNext_70 rfl (lv_at hl 0 rfl) ?_
            refine lv_iconst (v := 0) hx hb dX3_readNext_71 (by decide) ?_
            refine lv_bipush (v := 15) hx hb dX3_readNext_72 (by decide +kernel) ?_
            obtain ⟨zq12, hzq12, hm⟩ := bdk hm
            refine kw_ieA (va_runV (As := [.int 0, .int 15]) (rest := [.ref h0]) ⟨hx, hb, hml, hown, htG⟩ (kX3_number l g h0 h1 _ zq11 0 15 _ hzq12) (cwV 2 htG (GV g3_65 g3_67 gS_6 g1_9 g3_68) rfl rfl rfl hd_X3_number ⟨Nat.le_of_ble_eq_true rfl, Nat.le_of_ble_eq_true rfl⟩) (PW_VA hK hL hS hP hD hA (ci := 3) rfl 0 rfl) rfl rfl hl.1 rfl (lv_room (Nat.le_of_ble_eq_true rfl)) dX3_readNext_74 ⟨Nat.zero_le _, Nat.zero_le _⟩) hD hS hA (fun _ => rfl) (fun H locs hP hD hS => ?_)
            have hP : va_P g.1 vwCl (w_X3 g h0 h1 zq12.2) H := hP
            have hD : va_D A (w_X3 g h0 h1 zq12.2) := hD
            refine va_put (D := g.1) (ci := 3) (v := .int zq12.1) (ty := .int) (C := RX3) (T := TX3) (N := 11) hx hb htG in_wsX30 tyX3 tyX3_ok nmX3 hown hK.1 hP hD hS 0 rfl rfl 7 (by decide) (htG _ g1_192) (fun _ h9 => h9) rfl (by decide +kernel) rfl rfl (Nat.le_of_ble_eq_true rfl) dX3_readNext_77 (fun H locs hP hD hS => ?_)
            have hP : va_P g.1 vwCl (w_X3 g h0 h1 (zq12.2.1, zq12.2.2.1, zq12.2.2.2.1, zq12.2.2.2.2.1, zq12.2.2.2.2.2.1, zq12.2.2.2.2.2.2.1, zq12.2.2.2.2.2.2.2.1, zq12.1, zq12.2.2.2.2.2.2.2.2.2.1, zq12.2.2.2.2.2.2.2.2.2.2.1, zq12.2.2.2.2.2.2.2.2.2.2.2)) H := hP
            have hD : va_D A (w_X3 g h0 h1 (zq12.2.1, zq12.2.2.1, zq12.2.2.2.1, zq12.2.2.2.2.1, zq12.2.2.2.2.2.1, zq12.2.2.2.2.2.2.1, zq12.2.2.2.2.2.2.2.1, zq12.1, zq12.2.2.2.2.2.2.2.2.2.1, zq12.2.2.2.2.2.2.2.2.2.2.1, zq12.2.2.2.2.2.2.2.2.2.2.2)) := hD
            refine lv_aload_n hx hb dX3_readNext_80 rfl (lv_at hl 0 rfl) ?_
            refine lv_bipush (v := 58) hx hb dX3_readNext_81 (by decide +kernel) ?_
            obtain ⟨zq13, hzq13, hm⟩ := bdk hm
            refine kw_veA (va_runV (As := [.int 58]) (rest := []) ⟨hx, hb, hml, hown, htG⟩ (kX3_take l g h0 h1 _ (zq12.2.1, zq12.2.2.1, zq12.2.2.2.1, zq12.2.2.2.2.1, zq12.2.2.2.2.2.1, zq12.2.2.2.2.2.2.1, zq12.2.2.2.2.2.2.2.1, zq12.1, zq12.2.2.2.2.2.2.2.2.2.1, zq12.2.2.2.2.2.2.2.2.2.2.1, zq12.2.2.2.2.2.2.2.2.2.2.2) 58 _ hzq13) (cwV 1 htG (GV g3_53 g3_55 gS_3 g1_9 g3_56) rfl rfl rfl hd_X3_take ⟨Nat.le_of_ble_eq_true rfl, Nat.le_of_ble_eq_true rfl⟩) (PW_VA hK hL hS hP hD hA (ci := 3) rfl 0 rfl) rfl rfl hl.1 rfl (lv_room (Nat.le_of_ble_eq_true rfl)) dX3_readNext_83 ⟨Nat.zero_le _, Nat.zero_le _⟩) hD hS hA (fun _ => rfl) (fun H locs hP hD hS => ?_)
            have hP : va_P g.1 vwCl (w_X3 g h0 h1 zq13) H := hP
            have hD : va_D A (w_X3 g h0 h1 zq13) := hD
            refine lv_aload_n hx hb dX3_readNext_86 rfl (lv_at hl 0 rfl) ?_
            refine lv_aload_n hx hb dX3_readNext_87 rfl (lv_at hl 0 rfl) ?_
            refine lv_iconst (v := 0) hx hb dX3_readNext_88 (by decide) ?_
            refine lv_bipush (v := 99) hx hb dX3_readNext_89 (by decide +kernel) ?_
            obtain ⟨zq14, hzq14, hm⟩ := bdk hm
            refine kw_ieA (va_runV (As := [.int 0, .int 99]) (rest := [.ref h0]) ⟨hx, hb, hml, hown, htG⟩ (kX3_number l g h0 h1 _ zq13 0 99 _ hzq14) (cwV 2 htG (GV g3_65 g3_67 gS_6 g1_9 g3_68) rfl rfl rfl hd_X3_number ⟨Nat.le_of_ble_eq_true rfl, Nat.le_of_ble_eq_true rfl⟩) (PW_VA hK hL hS hP hD hA (ci := 3) rfl 0 rfl) rfl rfl hl.1 rfl (lv_room (Nat.le_of_ble_eq_true rfl)) dX3_readNext_91 ⟨Nat.zero_le _, Nat.zero_le _⟩) hD hS hA (fun _ => rfl) (fun H locs hP hD hS => ?_)
            have hP : va_P g.1 vwCl (w_X3 g h0 h1 zq14.2) H := hP
            have hD : va_D A (w_X3 g h0 h1 zq14.2) := hD
            refine va_put (D := g.1) (ci := 3) (v := .int zq14.1) (ty := .int) (C := RX3) (T := TX3) (N := 11) hx hb htG in_wsX30 tyX3 tyX3_ok nmX3 hown hK.1 hP hD hS 0 rfl rfl 10 (by decide) (htG _ g1_198) (fun _ h9 => h9) rfl (by decide +kernel) rfl rfl (Nat.le_of_ble_eq_true rfl) dX3_readNext_94 (fun H locs hP hD hS => ?_)
            have hP : va_P g.1 vwCl (w_X3 g h0 h1 (zq14.2.1, zq14.2.2.1, zq14.2.2.2.1, zq14.2.2.2.2.1, zq14.2.2.2.2.2.1, zq14.2.2.2.2.2.2.1, zq14.2.2.2.2.2.2.2.1, zq14.2.2.2.2.2.2.2.2.1, zq14.2.2.2.2.2.2.2.2.2.1, zq14.2.2.2.2.2.2.2.2.2.2.1, zq14.1)) H := hP
            have hD : va_D A (w_X3 g h0 h1 (zq14.2.1, zq14.2.2.1, zq14.2.2.2.1, zq14.2.2.2.2.1, zq14.2.2.2.2.2.1, zq14.2.2.2.2.2.2.1, zq14.2.2.2.2.2.2.2.1, zq14.2.2.2.2.2.2.2.2.1, zq14.2.2.2.2.2.2.2.2.2.1, zq14.2.2.2.2.2.2.2.2.2.2.1, zq14.1)) := hD
            refine lv_goto (tgt := 126) hx hb dX3_readNext_97 (by decide) ?_
            exact W.vret hx hb hr (fun t ht hW => ⟨⟨_, rfl, (Option.some.inj hm), atH ht hP⟩, hS.F ht⟩) hS.2.2 dX3_readNext_126
          · replace hm := (if_neg zc10).symm.trans hm
            have ezc3 : zq2.toInt ≠ 98 := fun e => zc3 (Int32.toInt_inj.mp (e.trans (by decide)))
            have ezc5 : zq2.toInt ≠ 99 := fun e => zc5 (Int32.toInt_inj.mp (e.trans (by decide)))
            have ezc7 : zq2.toInt ≠ 100 := fun e => zc7 (Int32.toInt_inj.mp (e.trans (by decide)))
            have ezc10 : zq2.toInt ≠ 101 := fun e => zc10 (Int32.toInt_inj.mp (e.trans (by decide)))
            refine lv_tableOut (tgt := 120) hx hb dX3_readNext_25 (by omega) (by decide) ?_
            refine lv_aload_n hx hb dX3_readNext_120 rfl (lv_at hl 0 rfl) ?_
            refine lv_bipush (v := 110) hx hb dX3_readNext_121 (by decide +kernel) ?_
            obtain ⟨zq15, hzq15, hm⟩ := bdk hm
            refine kw_veA (va_runV (As := [.int 110]) (rest := []) ⟨hx, hb, hml, hown, htG⟩ (kX3_take l g h0 h1 _ (x.1, x.2.1, x.2.2.1, x.2.2.2.1, zq2, x.2.2.2.2.2.1, x.2.2.2.2.2.2.1, x.2.2.2.2.2.2.2.1, x.2.2.2.2.2.2.2.2.1, x.2.2.2.2.2.2.2.2.2.1, x.2.2.2.2.2.2.2.2.2.2) 110 _ hzq15) (cwV 1 htG (GV g3_53 g3_55 gS_3 g1_9 g3_56) rfl rfl rfl hd_X3_take ⟨Nat.le_of_ble_eq_true rfl, Nat.le_of_ble_eq_true rfl⟩) (PW_VA hK hL hS hP hD hA (ci := 3) rfl 0 rfl) rfl rfl hl.1 rfl (lv_room (Nat.le_of_ble_eq_true rfl)) dX3_readNext_123 ⟨Nat.zero_le _, Nat.zero_le _⟩) hD hS hA (fun _ => rfl) (fun H locs hP hD hS => ?_)
            have hP : va_P g.1 vwCl (w_X3 g h0 h1 zq15) H := hP
            have hD : va_D A (w_X3 g h0 h1 zq15) := hD
            exact W.vret hx hb hr (fun t ht hW => ⟨⟨_, rfl, (Option.some.inj hm), atH ht hP⟩, hS.F ht⟩) hS.2.2 dX3_readNext_126
  · replace hm := (if_neg zc1).symm.trans hm
    refine lv_aload_n hx hb dX3_readNext_7 rfl (lv_at hl 0 rfl) ?_
    refine lv_bipush (v := 44) hx hb dX3_readNext_8 (by decide +kernel) ?_
    obtain ⟨zq16, hzq16, hm⟩ := bdk hm
    refine kw_veA (va_runV (As := [.int 44]) (rest := []) ⟨hx, hb, hml, hown, htG⟩ (kX3_take l g h0 h1 _ x 44 _ hzq16) (cwV 1 htG (GV g3_53 g3_55 gS_3 g1_9 g3_56) rfl rfl rfl hd_X3_take ⟨Nat.le_of_ble_eq_true rfl, Nat.le_of_ble_eq_true rfl⟩) (PW_VA hK hL hS hP hD hA (ci := 3) rfl 0 rfl) rfl rfl hl.1 rfl (lv_room (Nat.le_of_ble_eq_true rfl)) dX3_readNext_10 ⟨Nat.zero_le _, Nat.zero_le _⟩) hD hS hA (fun _ => rfl) (fun H locs hP hD hS => ?_)
    have hP : va_P g.1 vwCl (w_X3 g h0 h1 zq16) H := hP
    have hD : va_D A (w_X3 g h0 h1 zq16) := hD
    refine lv_aload_n hx hb dX3_readNext_13 rfl (lv_at hl 0 rfl) ?_
    refine lv_aload_n hx hb dX3_readNext_14 rfl (lv_at hl 0 rfl) ?_
    obtain ⟨zq17, hzq17, hm⟩ := bdk hm
    refine ko_e (va_runV (As := []) (rest := [.ref h0]) ⟨hx, hb, hml, hown, htG⟩ (kX3_sign l g h0 h1 zq16 _ hzq17) (cwV 0 htG (GV g3_57 g3_59 gS_4 g1_9 g3_60) rfl rfl rfl hd_X3_sign ⟨Nat.le_of_ble_eq_true rfl, Nat.le_of_ble_eq_true rfl⟩) (PR_VA hK hL hS hP (ci := 3) rfl 0 rfl) rfl rfl hl.1 rfl (lv_room (Nat.le_of_ble_eq_true rfl)) dX3_readNext_15 ⟨Nat.zero_le _, Nat.zero_le _⟩) ?_
    refine va_put (D := g.1) (ci := 3) (v := .int zq17) (ty := .int) (C := RX3) (T := TX3) (N := 11) hx hb htG in_wsX30 tyX3 tyX3_ok nmX3 hown hK.1 hP hD hS 0 rfl rfl 4 (by decide) (htG _ g1_186) (fun _ h9 => h9) rfl (by decide +kernel) rfl rfl (Nat.le_of_ble_eq_true rfl) dX3_readNext_18 (fun H locs hP hD hS => ?_)
    have hP : va_P g.1 vwCl (w_X3 g h0 h1 (zq16.1, zq16.2.1, zq16.2.2.1, zq16.2.2.2.1, zq17, zq16.2.2.2.2.2.1, zq16.2.2.2.2.2.2.1, zq16.2.2.2.2.2.2.2.1, zq16.2.2.2.2.2.2.2.2.1, zq16.2.2.2.2.2.2.2.2.2.1, zq16.2.2.2.2.2.2.2.2.2.2)) H := hP
    have hD : va_D A (w_X3 g h0 h1 (zq16.1, zq16.2.1, zq16.2.2.1, zq16.2.2.2.1, zq17, zq16.2.2.2.2.2.1, zq16.2.2.2.2.2.2.1, zq16.2.2.2.2.2.2.2.1, zq16.2.2.2.2.2.2.2.2.1, zq16.2.2.2.2.2.2.2.2.2.1, zq16.2.2.2.2.2.2.2.2.2.2)) := hD
    refine lv_aload_n hx hb dX3_readNext_21 rfl (lv_at hl 0 rfl) ?_
    refine va_get (D := g.1) (ci := 3) (v := .int zq17) (C := RX3) (T := TX3) (N := 11) hx hb htG in_wsX30 hown hK.1 hP 0 rfl rfl 4 (by decide) (htG _ g1_186) (fun _ h9 => h9) rfl dX3_readNext_22 ?_
    by_cases zc18 : zq17 = 98
    · replace hm := (if_pos zc18).symm.trans hm
      refine lv_tableIn (tgt := 56) hx hb dX3_readNext_25 (by rw [zc18]; decide) (by rw [zc18]; decide) (by rw [zc18]; rfl) (by decide) ?_
      refine lv_aload_n hx hb dX3_readNext_56 rfl (lv_at hl 0 rfl) ?_
      obtain ⟨zq19, hzq19, hm⟩ := bdk hm
      refine kw_veA (va_runV (As := []) (rest := []) ⟨hx, hb, hml, hown, htG⟩ (kX3_readBid l g h0 h1 _ (zq16.1, zq16.2.1, zq16.2.2.1, zq16.2.2.2.1, zq17, zq16.2.2.2.2.2.1, zq16.2.2.2.2.2.2.1, zq16.2.2.2.2.2.2.2.1, zq16.2.2.2.2.2.2.2.2.1, zq16.2.2.2.2.2.2.2.2.2.1, zq16.2.2.2.2.2.2.2.2.2.2) _ hzq19) (cwV 0 htG (GV g3_61 g3_63 gS_5 g1_9 g3_64) rfl rfl rfl hd_X3_readBid ⟨Nat.le_of_ble_eq_true rfl, Nat.le_of_ble_eq_true rfl⟩) (PW_VA hK hL hS hP hD hA (ci := 3) rfl 0 rfl) rfl rfl hl.1 rfl (lv_room (Nat.le_of_ble_eq_true rfl)) dX3_readNext_57 ⟨Nat.zero_le _, Nat.zero_le _⟩) hD hS hA (fun _ => rfl) (fun H locs hP hD hS => ?_)
      have hP : va_P g.1 vwCl (w_X3 g h0 h1 zq19) H := hP
      have hD : va_D A (w_X3 g h0 h1 zq19) := hD
      refine lv_goto (tgt := 126) hx hb dX3_readNext_60 (by decide) ?_
      exact W.vret hx hb hr (fun t ht hW => ⟨⟨_, rfl, (Option.some.inj hm), atH ht hP⟩, hS.F ht⟩) hS.2.2 dX3_readNext_126
    · replace hm := (if_neg zc18).symm.trans hm
      by_cases zc20 : zq17 = 99
      · replace hm := (if_pos zc20).symm.trans hm
        refine lv_tableIn (tgt := 120) hx hb dX3_readNext_25 (by rw [zc20]; decide) (by rw [zc20]; decide) (by rw [zc20]; rfl) (by decide) ?_
        refine lv_aload_n hx hb dX3_readNext_120 rfl (lv_at hl 0 rfl) ?_
        refine lv_bipush (v := 110) hx hb dX3_readNext_121 (by decide +kernel) ?_
        obtain ⟨zq21, hzq21, hm⟩ := bdk hm
        refine kw_veA (va_runV (As := [.int 110]) (rest := []) ⟨hx, hb, hml, hown, htG⟩ (kX3_take l g h0 h1 _ (zq16.1, zq16.2.1, zq16.2.2.1, zq16.2.2.2.1, zq17, zq16.2.2.2.2.2.1, zq16.2.2.2.2.2.2.1, zq16.2.2.2.2.2.2.2.1, zq16.2.2.2.2.2.2.2.2.1, zq16.2.2.2.2.2.2.2.2.2.1, zq16.2.2.2.2.2.2.2.2.2.2) 110 _ hzq21) (cwV 1 htG (GV g3_53 g3_55 gS_3 g1_9 g3_56) rfl rfl rfl hd_X3_take ⟨Nat.le_of_ble_eq_true rfl, Nat.le_of_ble_eq_true rfl⟩) (PW_VA hK hL hS hP hD hA (ci := 3) rfl 0 rfl) rfl rfl hl.1 rfl (lv_room (Nat.le_of_ble_eq_true rfl)) dX3_readNext_123 ⟨Nat.zero_le _, Nat.zero_le _⟩) hD hS hA (fun _ => rfl) (fun H locs hP hD hS => ?_)
        have hP : va_P g.1 vwCl (w_X3 g h0 h1 zq21) H := hP
        have hD : va_D A (w_X3 g h0 h1 zq21) := hD
        exact W.vret hx hb hr (fun t ht hW => ⟨⟨_, rfl, (Option.some.inj hm), atH ht hP⟩, hS.F ht⟩) hS.2.2 dX3_readNext_126
      · replace hm := (if_neg zc20).symm.trans hm
        by_cases zc22 : zq17 = 100
        · replace hm := (if_pos zc22).symm.trans hm
          refine lv_tableIn (tgt := 100) hx hb dX3_readNext_25 (by rw [zc22]; decide) (by rw [zc22]; decide) (by rw [zc22]; rfl) (by decide) ?_
          refine lv_aload_n hx hb dX3_readNext_100 rfl (lv_at hl 0 rfl) ?_
          refine lv_bipush (v := 100) hx hb dX3_readNext_101 (by decide +kernel) ?_
          obtain ⟨zq23, hzq23, hm⟩ := bdk hm
          refine kw_veA (va_runV (As := [.int 100]) (rest := []) ⟨hx, hb, hml, hown, htG⟩ (kX3_take l g h0 h1 _ (zq16.1, zq16.2.1, zq16.2.2.1, zq16.2.2.2.1, zq17, zq16.2.2.2.2.2.1, zq16.2.2.2.2.2.2.1, zq16.2.2.2.2.2.2.2.1, zq16.2.2.2.2.2.2.2.2.1, zq16.2.2.2.2.2.2.2.2.2.1, zq16.2.2.2.2.2.2.2.2.2.2) 100 _ hzq23) (cwV 1 htG (GV g3_53 g3_55 gS_3 g1_9 g3_56) rfl rfl rfl hd_X3_take ⟨Nat.le_of_ble_eq_true rfl, Nat.le_of_ble_eq_true rfl⟩) (PW_VA hK hL hS hP hD hA (ci := 3) rfl 0 rfl) rfl rfl hl.1 rfl (lv_room (Nat.le_of_ble_eq_true rfl)) dX3_readNext_103 ⟨Nat.zero_le _, Nat.zero_le _⟩) hD hS hA (fun _ => rfl) (fun H locs hP hD hS => ?_)
          have hP : va_P g.1 vwCl (w_X3 g h0 h1 zq23) H := hP
          have hD : va_D A (w_X3 g h0 h1 zq23) := hD
          refine lv_aload_n hx hb dX3_readNext_106 rfl (lv_at hl 0 rfl) ?_
          refine lv_aload_n hx hb dX3_readNext_107 rfl (lv_at hl 0 rfl) ?_
          refine lv_iconst (v := 0) hx hb dX3_readNext_108 (by decide) ?_
          refine lv_bipush (v := 99) hx hb dX3_readNext_109 (by decide +kernel) ?_
          obtain ⟨zq24, hzq24, hm⟩ := bdk hm
          refine kw_ieA (va_runV (As := [.int 0, .int 99]) (rest := [.ref h0]) ⟨hx, hb, hml, hown, htG⟩ (kX3_number l g h0 h1 _ zq23 0 99 _ hzq24) (cwV 2 htG (GV g3_65 g3_67 gS_6 g1_9 g3_68) rfl rfl rfl hd_X3_number ⟨Nat.le_of_ble_eq_true rfl, Nat.le_of_ble_eq_true rfl⟩) (PW_VA hK hL hS hP hD hA (ci := 3) rfl 0 rfl) rfl rfl hl.1 rfl (lv_room (Nat.le_of_ble_eq_true rfl)) dX3_readNext_111 ⟨Nat.zero_le _, Nat.zero_le _⟩) hD hS hA (fun _ => rfl) (fun H locs hP hD hS => ?_)
          have hP : va_P g.1 vwCl (w_X3 g h0 h1 zq24.2) H := hP
          have hD : va_D A (w_X3 g h0 h1 zq24.2) := hD
          refine va_put (D := g.1) (ci := 3) (v := .int zq24.1) (ty := .int) (C := RX3) (T := TX3) (N := 11) hx hb htG in_wsX30 tyX3 tyX3_ok nmX3 hown hK.1 hP hD hS 0 rfl rfl 10 (by decide) (htG _ g1_198) (fun _ h9 => h9) rfl (by decide +kernel) rfl rfl (Nat.le_of_ble_eq_true rfl) dX3_readNext_114 (fun H locs hP hD hS => ?_)
          have hP : va_P g.1 vwCl (w_X3 g h0 h1 (zq24.2.1, zq24.2.2.1, zq24.2.2.2.1, zq24.2.2.2.2.1, zq24.2.2.2.2.2.1, zq24.2.2.2.2.2.2.1, zq24.2.2.2.2.2.2.2.1, zq24.2.2.2.2.2.2.2.2.1, zq24.2.2.2.2.2.2.2.2.2.1, zq24.2.2.2.2.2.2.2.2.2.2.1, zq24.1)) H := hP
          have hD : va_D A (w_X3 g h0 h1 (zq24.2.1, zq24.2.2.1, zq24.2.2.2.1, zq24.2.2.2.2.1, zq24.2.2.2.2.2.1, zq24.2.2.2.2.2.2.1, zq24.2.2.2.2.2.2.2.1, zq24.2.2.2.2.2.2.2.2.1, zq24.2.2.2.2.2.2.2.2.2.1, zq24.2.2.2.2.2.2.2.2.2.2.1, zq24.1)) := hD
          refine lv_goto (tgt := 126) hx hb dX3_readNext_117 (by decide) ?_
          exact W.vret hx hb hr (fun t ht hW => ⟨⟨_, rfl, (Option.some.inj hm), atH ht hP⟩, hS.F ht⟩) hS.2.2 dX3_readNext_126
        · replace hm := (if_neg zc22).symm.trans hm
          by_cases zc25 : zq17 = 101
          · replace hm := (if_pos zc25).symm.trans hm
            refine lv_tableIn (tgt := 63) hx hb dX3_readNext_25 (by rw [zc25]; decide) (by rw [zc25]; decide) (by rw [zc25]; rfl) (by decide) ?_
            refine lv_aload_n hx hb dX3_readNext_63 rfl (lv_at hl 0 rfl) ?_
            refine lv_bipush (v := 101) hx hb dX3_readNext_64 (by decide +kernel) ?_
            obtain ⟨zq26, hzq26, hm⟩ := bdk hm
            refine kw_veA (va_runV (As := [.int 101]) (rest := []) ⟨hx, hb, hml, hown, htG⟩ (kX3_take l g h0 h1 _ (zq16.1, zq16.2.1, zq16.2.2.1, zq16.2.2.2.1, zq17, zq16.2.2.2.2.2.1, zq16.2.2.2.2.2.2.1, zq16.2.2.2.2.2.2.2.1, zq16.2.2.2.2.2.2.2.2.1, zq16.2.2.2.2.2.2.2.2.2.1, zq16.2.2.2.2.2.2.2.2.2.2) 101 _ hzq26) (cwV 1 htG (GV g3_53 g3_55 gS_3 g1_9 g3_56) rfl rfl rfl hd_X3_take ⟨Nat.le_of_ble_eq_true rfl, Nat.le_of_ble_eq_true rfl⟩) (PW_VA hK hL hS hP hD hA (ci := 3) rfl 0 rfl) rfl rfl hl.1 rfl (lv_room (Nat.le_of_ble_eq_true rfl)) dX3_readNext_66 ⟨Nat.zero_le _, Nat.zero_le _⟩) hD hS hA (fun _ => rfl) (fun H locs hP hD hS => ?_)
            have hP : va_P g.1 vwCl (w_X3 g h0 h1 zq26) H := hP
            have hD : va_D A (w_X3 g h0 h1 zq26) := hD
            refine lv_aload_n hx hb dX3_readNext_69 rfl (lv_at hl 0 rfl) ?_
            refine lv_aload_n hx hb dX3_readNext_70 rfl (lv_at hl 0 rfl) ?_
            refine lv_iconst (v := 0) hx hb dX3_readNext_71 (by decide) ?_
            refine lv_bipush (v := 15) hx hb dX3_readNext_72 (by decide +kernel) ?_
            obtain ⟨zq27, hzq27, hm⟩ := bdk hm
            refine kw_ieA (va_runV (As := [.int 0, .int 15]) (rest := [.ref h0]) ⟨hx, hb, hml, hown, htG⟩ (kX3_number l g h0 h1 _ zq26 0 15 _ hzq27) (cwV 2 htG (GV g3_65 g3_67 gS_6 g1_9 g3_68) rfl rfl rfl hd_X3_number ⟨Nat.le_of_ble_eq_true rfl, Nat.le_of_ble_eq_true rfl⟩) (PW_VA hK hL hS hP hD hA (ci := 3) rfl 0 rfl) rfl rfl hl.1 rfl (lv_room (Nat.le_of_ble_eq_true rfl)) dX3_readNext_74 ⟨Nat.zero_le _, Nat.zero_le _⟩) hD hS hA (fun _ => rfl) (fun H locs hP hD hS => ?_)
            have hP : va_P g.1 vwCl (w_X3 g h0 h1 zq27.2) H := hP
            have hD : va_D A (w_X3 g h0 h1 zq27.2) := hD
            refine va_put (D := g.1) (ci := 3) (v := .int zq27.1) (ty := .int) (C := RX3) (T := TX3) (N := 11) hx hb htG in_wsX30 tyX3 tyX3_ok nmX3 hown hK.1 hP hD hS 0 rfl rfl 7 (by decide) (htG _ g1_192) (fun _ h9 => h9) rfl (by decide +kernel) rfl rfl (Nat.le_of_ble_eq_true rfl) dX3_readNext_77 (fun H locs hP hD hS => ?_)
            have hP : va_P g.1 vwCl (w_X3 g h0 h1 (zq27.2.1, zq27.2.2.1, zq27.2.2.2.1, zq27.2.2.2.2.1, zq27.2.2.2.2.2.1, zq27.2.2.2.2.2.2.1, zq27.2.2.2.2.2.2.2.1, zq27.1, zq27.2.2.2.2.2.2.2.2.2.1, zq27.2.2.2.2.2.2.2.2.2.2.1, zq27.2.2.2.2.2.2.2.2.2.2.2)) H := hP
            have hD : va_D A (w_X3 g h0 h1 (zq27.2.1, zq27.2.2.1, zq27.2.2.2.1, zq27.2.2.2.2.1, zq27.2.2.2.2.2.1, zq27.2.2.2.2.2.2.1, zq27.2.2.2.2.2.2.2.1, zq27.1, zq27.2.2.2.2.2.2.2.2.2.1, zq27.2.2.2.2.2.2.2.2.2.2.1, zq27.2.2.2.2.2.2.2.2.2.2.2)) := hD
            refine lv_aload_n hx hb dX3_readNext_80 rfl (lv_at hl 0 rfl) ?_
            refine lv_bipush (v := 58) hx hb dX3_readNext_81 (by decide +kernel) ?_
            obtain ⟨zq28, hzq28, hm⟩ := bdk hm
            refine kw_veA (va_runV (As := [.int 58]) (rest := []) ⟨hx, hb, hml, hown, htG⟩ (kX3_take l g h0 h1 _ (zq27.2.1, zq27.2.2.1, zq27.2.2.2.1, zq27.2.2.2.2.1, zq27.2.2.2.2.2.1, zq27.2.2.2.2.2.2.1, zq27.2.2.2.2.2.2.2.1, zq27.1, zq27.2.2.2.2.2.2.2.2.2.1, zq27.2.2.2.2.2.2.2.2.2.2.1, zq27.2.2.2.2.2.2.2.2.2.2.2) 58 _ hzq28) (cwV 1 htG (GV g3_53 g3_55 gS_3 g1_9 g3_56) rfl rfl rfl hd_X3_take ⟨Nat.le_of_ble_eq_true rfl, Nat.le_of_ble_eq_true rfl⟩) (PW_VA hK hL hS hP hD hA (ci := 3) rfl 0 rfl) rfl rfl hl.1 rfl (lv_room (Nat.le_of_ble_eq_true rfl)) dX3_readNext_83 ⟨Nat.zero_le _, Nat.zero_le _⟩) hD hS hA (fun _ => rfl) (fun H locs hP hD hS => ?_)
            have hP : va_P g.1 vwCl (w_X3 g h0 h1 zq28) H := hP
            have hD : va_D A (w_X3 g h0 h1 zq28) := hD
            refine lv_aload_n hx hb dX3_readNext_86 rfl (lv_at hl 0 rfl) ?_
            refine lv_aload_n hx hb dX3_readNext_87 rfl (lv_at hl 0 rfl) ?_
            refine lv_iconst (v := 0) hx hb dX3_readNext_88 (by decide) ?_
            refine lv_bipush (v := 99) hx hb dX3_readNext_89 (by decide +kernel) ?_
            obtain ⟨zq29, hzq29, hm⟩ := bdk hm
            refine kw_ieA (va_runV (As := [.int 0, .int 99]) (rest := [.ref h0]) ⟨hx, hb, hml, hown, htG⟩ (kX3_number l g h0 h1 _ zq28 0 99 _ hzq29) (cwV 2 htG (GV g3_65 g3_67 gS_6 g1_9 g3_68) rfl rfl rfl hd_X3_number ⟨Nat.le_of_ble_eq_true rfl, Nat.le_of_ble_eq_true rfl⟩) (PW_VA hK hL hS hP hD hA (ci := 3) rfl 0 rfl) rfl rfl hl.1 rfl (lv_room (Nat.le_of_ble_eq_true rfl)) dX3_readNext_91 ⟨Nat.zero_le _, Nat.zero_le _⟩) hD hS hA (fun _ => rfl) (fun H locs hP hD hS => ?_)
            have hP : va_P g.1 vwCl (w_X3 g h0 h1 zq29.2) H := hP
            have hD : va_D A (w_X3 g h0 h1 zq29.2) := hD
            refine va_put (D := g.1) (ci := 3) (v := .int zq29.1) (ty := .int) (C := RX3) (T := TX3) (N := 11) hx hb htG in_wsX30 tyX3 tyX3_ok nmX3 hown hK.1 hP hD hS 0 rfl rfl 10 (by decide) (htG _ g1_198) (fun _ h9 => h9) rfl (by decide +kernel) rfl rfl (Nat.le_of_ble_eq_true rfl) dX3_readNext_94 (fun H locs hP hD hS => ?_)
            have hP : va_P g.1 vwCl (w_X3 g h0 h1 (zq29.2.1, zq29.2.2.1, zq29.2.2.2.1, zq29.2.2.2.2.1, zq29.2.2.2.2.2.1, zq29.2.2.2.2.2.2.1, zq29.2.2.2.2.2.2.2.1, zq29.2.2.2.2.2.2.2.2.1, zq29.2.2.2.2.2.2.2.2.2.1, zq29.2.2.2.2.2.2.2.2.2.2.1, zq29.1)) H := hP
            have hD : va_D A (w_X3 g h0 h1 (zq29.2.1, zq29.2.2.1, zq29.2.2.2.1, zq29.2.2.2.2.1, zq29.2.2.2.2.2.1, zq29.2.2.2.2.2.2.1, zq29.2.2.2.2.2.2.2.1, zq29.2.2.2.2.2.2.2.2.1, zq29.2.2.2.2.2.2.2.2.2.1, zq29.2.2.2.2.2.2.2.2.2.2.1, zq29.1)) := hD
            refine lv_goto (tgt := 126) hx hb dX3_readNext_97 (by decide) ?_
            exact W.vret hx hb hr (fun t ht hW => ⟨⟨_, rfl, (Option.some.inj hm), atH ht hP⟩, hS.F ht⟩) hS.2.2 dX3_readNext_126
          · replace hm := (if_neg zc25).symm.trans hm
            have ezc18 : zq17.toInt ≠ 98 := fun e => zc18 (Int32.toInt_inj.mp (e.trans (by decide)))
            have ezc20 : zq17.toInt ≠ 99 := fun e => zc20 (Int32.toInt_inj.mp (e.trans (by decide)))
            have ezc22 : zq17.toInt ≠ 100 := fun e => zc22 (Int32.toInt_inj.mp (e.trans (by decide)))
            have ezc25 : zq17.toInt ≠ 101 := fun e => zc25 (Int32.toInt_inj.mp (e.trans (by decide)))
            refine lv_tableOut (tgt := 120) hx hb dX3_readNext_25 (by omega) (by decide) ?_
            refine lv_aload_n hx hb dX3_readNext_120 rfl (lv_at hl 0 rfl) ?_
            refine lv_bipush (v := 110) hx hb dX3_readNext_121 (by decide +kernel) ?_
            obtain ⟨zq30, hzq30, hm⟩ := bdk hm
            refine kw_veA (va_runV (As := [.int 110]) (rest := []) ⟨hx, hb, hml, hown, htG⟩ (kX3_take l g h0 h1 _ (zq16.1, zq16.2.1, zq16.2.2.1, zq16.2.2.2.1, zq17, zq16.2.2.2.2.2.1, zq16.2.2.2.2.2.2.1, zq16.2.2.2.2.2.2.2.1, zq16.2.2.2.2.2.2.2.2.1, zq16.2.2.2.2.2.2.2.2.2.1, zq16.2.2.2.2.2.2.2.2.2.2) 110 _ hzq30) (cwV 1 htG (GV g3_53 g3_55 gS_3 g1_9 g3_56) rfl rfl rfl hd_X3_take ⟨Nat.le_of_ble_eq_true rfl, Nat.le_of_ble_eq_true rfl⟩) (PW_VA hK hL hS hP hD hA (ci := 3) rfl 0 rfl) rfl rfl hl.1 rfl (lv_room (Nat.le_of_ble_eq_true rfl)) dX3_readNext_123 ⟨Nat.zero_le _, Nat.zero_le _⟩) hD hS hA (fun _ => rfl) (fun H locs hP hD hS => ?_)
            have hP : va_P g.1 vwCl (w_X3 g h0 h1 zq30) H := hP
            have hD : va_D A (w_X3 g h0 h1 zq30) := hD
            exact W.vret hx hb hr (fun t ht hW => ⟨⟨_, rfl, (Option.some.inj hm), atH ht hP⟩, hS.F ht⟩) hS.2.2 dX3_readNext_126
def fX3_check_L0  : Nat → Int32 → Int32 → PD → Option (Int32 × PD)
  | 0, _, _, _ => none
  | n + 1, i0_1, i0_2, x0 => (if 80 < i0_2 then (some (i0_1, x0)) else (if x0.2.2.2.1 = 0 then (if i0_2 = 0 then ((fX3_readNext x0).bind (fun zq5 => (fX3_check_L0  n (i0_1 + 1) (i0_2 + 1) zq5))) else (if x0.2.1 ≤ x0.2.2.1 then (some (i0_1, x0)) else ((fX3_readNext x0).bind (fun zq7 => (fX3_check_L0  n (i0_1 + 1) (i0_2 + 1) zq7))))) else (some (i0_1, x0))))
def fX3_check (x : PD) : Option (Int32 × PD) := (bnd (fX3_rewind x) (fun zq1 => ((fX3_check_L0 1000 0 0 zq1).bind (fun zq8 => (if zq8.2.2.2.2.1 = 0 then some (zq8.1, zq8.2) else some ((-100) - zq8.2.2.2.1, zq8.2))))))
abbrev rm_X3_check : Jvm.Room := { frames := 4, cells := 0, slots := 0, locals := 88 }
theorem hd_X3_check : yX3_check.cls = RX3 ∧ yX3_check.cls ≠ "java/lang/invoke/MethodHandle" ∧ yX3_check.cls ≠ "java/lang/invoke/VarHandle" ∧ (parseMethodDescriptor yX3_check.desc).map (fun d => d.parameters.length) = some 0 := by decide +kernel
set_option maxHeartbeats 4000000 in
set_option maxRecDepth 100000 in
theorem kX3_check (l : Launch) (g : CX) (h0 h1 : Nat) (sz : Nat) (x : PD) (res : Int32 × PD) (hm0 : fX3_check x = some res) : Met l yX3_check (wg yX3_check cX3_check 3 (some .int)) rm_X3_check (PW g [.ref h0] sz (w_X3 g h0 h1 x)) (va_Qi (fun v u => v = res.1 ∧ u = res.2) (fun u t => va_P g.1 vwCl (w_X3 g h0 h1 u) t.heap) (va_A (w_X3 g h0 h1 x) sz)) 0 0 (va_A (w_X3 g h0 h1 x) sz) := by
  refine Met.ofW (cc := cX3_check) (maxL := 3) (ret := (some .int)) (by decide) rfl ?_
  intro p e s m args below meth c s₁ B hml hv
  obtain ⟨rfl, hsz, hP, hK, hD0, hL⟩ := hv
  have hx := B.exec
  have hb := B.bytes
  have hr := B.returns
  have htG := wg_G (atoms_spec (ws := wg yX3_check cX3_check 3 (some .int)) B.pre)
  have hown : s.vm.findClass RX3 = some m.cls := findClass_of_methodNamed B.named
  have hlocks := B.notSynchronized
  subst hsz
  have hD := hD0.self (sz := s.heap.size)
  generalize hAe : va_A (w_X3 g h0 h1 x) s.heap.size = A at hD hL ⊢
  have hA : ∀ q : Nat, s.heap.size ≤ q → A q := fun q h => by rw [← hAe]; exact Or.inr h
  have hS : va_S A s.heap s.heap [] := va_S.rf
  have hl := lv_entry ([.ref h0]) (n := 3) (Nat.le_of_ble_eq_true rfl)
  rw [lg_entry_eq]
  generalize (lg_sl ([.ref h0]) ++ List.replicate (3 - (lg_sl ([.ref h0])).length) Slot.unset).toArray = ls at hl ⊢
  have hl : lv_has ls 3 [(0, .ref h0)] := hl
  have hm := hm0
  unfold fX3_check at hm
  have hL0 : ∀ (Q : State → Prop), ∀ (n : Nat) (i0_1 : Int32) (i0_2 : Int32) (x0 : PD) (out : Int32 × PD) (H : Heap) (locs : List Loc) (ls : Array Slot), fX3_check_L0 n i0_1 i0_2 x0 = some out → va_P g.1 vwCl (w_X3 g h0 h1 x0) H → va_D A (w_X3 g h0 h1 x0) → va_S A s.heap H locs → lv_has ls 3 [(0, .ref h0), (1, .int i0_1), (2, .int i0_2)] → (∀ (H : Heap) (locs : List Loc) (ls : Array Slot), va_P g.1 vwCl (w_X3 g h0 h1 out.2) H → va_D A (w_X3 g h0 h1 out.2) → va_S A s.heap H locs → lv_has ls 3 [(0, .ref h0), (1, .int out.1)] → W p l e (headSpec (wg yX3_check cX3_check 3 (some .int)) rm_X3_check).room s m (([.ref h0] : List Value).toArray) below meth c H locs 0 0 Q (F0 m 49 ls [])) → W p l e (headSpec (wg yX3_check cX3_check 3 (some .int)) rm_X3_check).room s m (([.ref h0] : List Value).toArray) below meth c H locs 0 0 Q (F0 m 8 ls []) := by
    intro Q n
    induction n with
    | zero =>
      intro i0_1 i0_2 x0 out H locs ls hm hP hD hS hl hk
      simp [fX3_check_L0] at hm
    | succ n ih =>
      intro i0_1 i0_2 x0 out H locs ls hm hP hD hS hl hk
      rw [fX3_check_L0] at hm
      refine lv_iload_n hx hb dX3_check_8 rfl (lv_at hl 2 rfl) ?_
      refine lv_bipush (v := 80) hx hb dX3_check_9 (by decide +kernel) ?_
      refine lv_icmp_gt (tgt := 49) hx hb dX3_check_11 (by decide) (fun zc2 => ?_) (fun zc2 => ?_)
      · replace hm := (if_pos zc2).symm.trans hm
        obtain rfl := Option.some.inj hm
        exact hk H locs ls hP hD hS (lv_sub hl [0, 1] rfl)
      · replace hm := (if_neg zc2).symm.trans hm
        refine lv_aload_n hx hb dX3_check_14 rfl (lv_at hl 0 rfl) ?_
        refine va_get (D := g.1) (ci := 3) (v := .int x0.2.2.2.1) (C := RX3) (T := TX3) (N := 11) hx hb htG in_wsX30 hown hK.1 hP 0 rfl rfl 3 (by decide) (htG _ g1_185) (fun _ h9 => h9) rfl dX3_check_15 ?_
        refine lv_if_ne (tgt := 49) hx hb dX3_check_18 (by decide) (fun zc3 => ?_) (fun zc3 => ?_)
        · replace hm := (if_neg zc3).symm.trans hm
          obtain rfl := Option.some.inj hm
          exact hk H locs ls hP hD hS (lv_sub hl [0, 1] rfl)
        · replace hm := (if_pos zc3).symm.trans hm
          refine lv_iload_n hx hb dX3_check_21 rfl (lv_at hl 2 rfl) ?_
          refine lv_if_eq (tgt := 36) hx hb dX3_check_22 (by decide) (fun zc4 => ?_) (fun zc4 => ?_)
          · replace hm := (if_pos zc4).symm.trans hm
            refine lv_aload_n hx hb dX3_check_36 rfl (lv_at hl 0 rfl) ?_
            obtain ⟨zq5, hzq5, hm⟩ := bdk hm
            refine kw_veA (va_runV (As := []) (rest := []) ⟨hx, hb, hml, hown, htG⟩ (kX3_readNext l g h0 h1 _ x0 _ hzq5) (cwV 0 htG (GV g3_49 g3_50 g3_51 g1_9 g3_52) rfl rfl rfl hd_X3_readNext ⟨Nat.le_of_ble_eq_true rfl, Nat.le_of_ble_eq_true rfl⟩) (PW_VA hK hL hS hP hD hA (ci := 3) rfl 0 rfl) rfl rfl hl.1 rfl (lv_room (Nat.le_of_ble_eq_true rfl)) dX3_check_37 ⟨Nat.zero_le _, Nat.zero_le _⟩) hD hS hA (fun _ => rfl) (fun H locs hP hD hS => ?_)
            have hP : va_P g.1 vwCl (w_X3 g h0 h1 zq5) H := hP
            have hD : va_D A (w_X3 g h0 h1 zq5) := hD
            refine lv_iinc (v := i0_1 + 1) (lv' := [(1, .int (i0_1 + 1)), (0, .ref h0), (2, .int i0_2)]) hx hb dX3_check_40 hl (k := 1) rfl rfl (by decide) rfl (fun ls hl => ?_)
            refine lv_iinc (v := i0_2 + 1) (lv' := [(2, .int (i0_2 + 1)), (1, .int (i0_1 + 1)), (0, .ref h0)]) hx hb dX3_check_43 hl (k := 2) rfl rfl (by decide) rfl (fun ls hl => ?_)
            refine lv_goto (tgt := 8) hx hb dX3_check_46 (by decide) ?_
            exact ih (i0_1 + 1) (i0_2 + 1) zq5 out H locs ls hm hP hD hS (lv_sub hl [2, 1, 0] rfl) hk
          · replace hm := (if_neg zc4).symm.trans hm
            refine lv_aload_n hx hb dX3_check_25 rfl (lv_at hl 0 rfl) ?_
            refine va_get (D := g.1) (ci := 3) (v := .int x0.2.2.1) (C := RX3) (T := TX3) (N := 11) hx hb htG in_wsX30 hown hK.1 hP 0 rfl rfl 2 (by decide) (htG _ g1_184) (fun _ h9 => h9) rfl dX3_check_26 ?_
            refine lv_aload_n hx hb dX3_check_29 rfl (lv_at hl 0 rfl) ?_
            refine va_get (D := g.1) (ci := 3) (v := .int x0.2.1) (C := RX3) (T := TX3) (N := 11) hx hb htG in_wsX30 hown hK.1 hP 0 rfl rfl 1 (by decide) (htG _ g1_183) (fun _ h9 => h9) rfl dX3_check_30 ?_
            refine lv_icmp_ge (tgt := 49) hx hb dX3_check_33 (by decide) (fun zc6 => ?_) (fun zc6 => ?_)
            · replace hm := (if_pos zc6).symm.trans hm
              obtain rfl := Option.some.inj hm
              exact hk H locs ls hP hD hS (lv_sub hl [0, 1] rfl)
            · replace hm := (if_neg zc6).symm.trans hm
              refine lv_aload_n hx hb dX3_check_36 rfl (lv_at hl 0 rfl) ?_
              obtain ⟨zq7, hzq7, hm⟩ := bdk hm
              refine kw_veA (va_runV (As := []) (rest := []) ⟨hx, hb, hml, hown, htG⟩ (kX3_readNext l g h0 h1 _ x0 _ hzq7) (cwV 0 htG (GV g3_49 g3_50 g3_51 g1_9 g3_52) rfl rfl rfl hd_X3_readNext ⟨Nat.le_of_ble_eq_true rfl, Nat.le_of_ble_eq_true rfl⟩) (PW_VA hK hL hS hP hD hA (ci := 3) rfl 0 rfl) rfl rfl hl.1 rfl (lv_room (Nat.le_of_ble_eq_true rfl)) dX3_check_37 ⟨Nat.zero_le _, Nat.zero_le _⟩) hD hS hA (fun _ => rfl) (fun H locs hP hD hS => ?_)
              have hP : va_P g.1 vwCl (w_X3 g h0 h1 zq7) H := hP
              have hD : va_D A (w_X3 g h0 h1 zq7) := hD
              refine lv_iinc (v := i0_1 + 1) (lv' := [(1, .int (i0_1 + 1)), (0, .ref h0), (2, .int i0_2)]) hx hb dX3_check_40 hl (k := 1) rfl rfl (by decide) rfl (fun ls hl => ?_)
              refine lv_iinc (v := i0_2 + 1) (lv' := [(2, .int (i0_2 + 1)), (1, .int (i0_1 + 1)), (0, .ref h0)]) hx hb dX3_check_43 hl (k := 2) rfl rfl (by decide) rfl (fun ls hl => ?_)
              refine lv_goto (tgt := 8) hx hb dX3_check_46 (by decide) ?_
              exact ih (i0_1 + 1) (i0_2 + 1) zq7 out H locs ls hm hP hD hS (lv_sub hl [2, 1, 0] rfl) hk
  refine lv_aload_n hx hb dX3_check_0 rfl (lv_at hl 0 rfl) ?_
  obtain ⟨zq1, hzq1, hm⟩ := bnk hm
  refine kw_veA (va_runV (As := []) (rest := []) ⟨hx, hb, hml, hown, htG⟩ (kX3_rewind l g h0 h1 _ x _ hzq1) (cwV 0 htG (GV g3_45 g3_46 g3_47 g1_9 g3_48) rfl rfl rfl hd_X3_rewind ⟨Nat.le_of_ble_eq_true rfl, Nat.le_of_ble_eq_true rfl⟩) (PW_VA hK hL hS hP hD hA (ci := 3) rfl 0 rfl) rfl rfl hl.1 rfl (lv_room (Nat.le_of_ble_eq_true rfl)) dX3_check_1 ⟨Nat.zero_le _, Nat.zero_le _⟩) hD hS hA (fun _ => rfl) (fun H locs hP hD hS => ?_)
  have hP : va_P g.1 vwCl (w_X3 g h0 h1 zq1) H := hP
  have hD : va_D A (w_X3 g h0 h1 zq1) := hD
  refine lv_iconst (v := 0) hx hb dX3_check_4 (by decide) ?_
  refine lv_istore_n (lv' := [(1, .int 0), (0, .ref h0)]) hx hb dX3_check_5 rfl hl (by decide) rfl (fun ls hl => ?_)
  refine lv_iconst (v := 0) hx hb dX3_check_6 (by decide) ?_
  refine lv_istore_n (lv' := [(2, .int 0), (1, .int 0), (0, .ref h0)]) hx hb dX3_check_7 rfl hl (by decide) rfl (fun ls hl => ?_)
  obtain ⟨zq8, hzq8, hm⟩ := bdk hm
  refine hL0 _ 1000 0 0 zq1 zq8 _ _ _ hzq8 hP hD hS (lv_sub hl [2, 1, 0] rfl) (fun H locs ls hP hD hS hl => ?_)
  refine lv_aload_n hx hb dX3_check_49 rfl (lv_at hl 0 rfl) ?_
  refine va_get (D := g.1) (ci := 3) (v := .int zq8.2.2.2.2.1) (C := RX3) (T := TX3) (N := 11) hx hb htG in_wsX30 hown hK.1 hP 0 rfl rfl 3 (by decide) (htG _ g1_185) (fun _ h9 => h9) rfl dX3_check_50 ?_
  refine lv_if_eq (tgt := 66) hx hb dX3_check_53 (by decide) (fun zc9 => ?_) (fun zc9 => ?_)
  · replace hm := (if_pos zc9).symm.trans hm
    refine lv_iload_n hx hb dX3_check_66 rfl (lv_at hl 1 rfl) ?_
    exact W.iret (v := zq8.1) hx hb hr (fun t ht hW => ⟨⟨_, _, rfl, pr1 (Option.some.inj hm), atH ht hP⟩, hS.F ht⟩) hS.2.2 dX3_check_67
  · replace hm := (if_neg zc9).symm.trans hm
    refine lv_bipush (v := (-100)) hx hb dX3_check_56 (by decide +kernel) ?_
    refine lv_aload_n hx hb dX3_check_58 rfl (lv_at hl 0 rfl) ?_
    refine va_get (D := g.1) (ci := 3) (v := .int zq8.2.2.2.1) (C := RX3) (T := TX3) (N := 11) hx hb htG in_wsX30 hown hK.1 hP 0 rfl rfl 2 (by decide) (htG _ g1_184) (fun _ h9 => h9) rfl dX3_check_59 ?_
    refine lv_isub hx hb dX3_check_62 ?_
    refine lv_goto (tgt := 67) hx hb dX3_check_63 (by decide) ?_
    exact W.iret (v := ((-100) - zq8.2.2.2.1)) hx hb hr (fun t ht hW => ⟨⟨_, _, rfl, pr1 (Option.some.inj hm), atH ht hP⟩, hS.F ht⟩) hS.2.2 dX3_check_67
