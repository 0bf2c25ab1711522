/-! History, by hand -/
theorem hd_X2_stateAt : yX2_stateAt.cls = RX2 ∧ yX2_stateAt.cls ≠ "java/lang/invoke/MethodHandle" ∧ yX2_stateAt.cls ≠ "java/lang/invoke/VarHandle" ∧ (parseMethodDescriptor yX2_stateAt.desc).map (fun d => d.parameters.length) = some 1 := by decide +kernel
theorem hd_X2_dropOldest : yX2_dropOldest.cls = RX2 ∧ yX2_dropOldest.cls ≠ "java/lang/invoke/MethodHandle" ∧ yX2_dropOldest.cls ≠ "java/lang/invoke/VarHandle" ∧ (parseMethodDescriptor yX2_dropOldest.desc).map (fun d => d.parameters.length) = some 0 := by decide +kernel
theorem hd_X2_store : yX2_store.cls = RX2 ∧ yX2_store.cls ≠ "java/lang/invoke/MethodHandle" ∧ yX2_store.cls ≠ "java/lang/invoke/VarHandle" ∧ (parseMethodDescriptor yX2_store.desc).map (fun d => d.parameters.length) = some 1 := by decide +kernel
theorem hd_X2_takeLatest : yX2_takeLatest.cls = RX2 ∧ yX2_takeLatest.cls ≠ "java/lang/invoke/MethodHandle" ∧ yX2_takeLatest.cls ≠ "java/lang/invoke/VarHandle" ∧ (parseMethodDescriptor yX2_takeLatest.desc).map (fun d => d.parameters.length) = some 1 := by decide +kernel
abbrev w_hd (g : CX) (h0 h1 : Nat) (z : Int32) (q0 q1 q2 q3 : Nat) : va_W := [(h0, .inr (2, [.ref h1, .int z])), (h1, .inl (g.2.2.2, 4, .inr (.inr (.inr (.inr (rf4 q0 q1 q2 q3))))))]
abbrev rm_X2_stateAt : Jvm.Room := { frames := 0, cells := 0, slots := 0, locals := 0 }
def fX2_stateAt (q0 q1 q2 q3 : Nat) (i : Int32) : Option Nat := if i < 0 then none else if 4 ≤ i then none else rf4 q0 q1 q2 q3 i.toNatClampNeg
theorem rf4_in {q0 q1 q2 q3 : Nat} {i : Int32} (h : vp_in i 4) : ∃ v, rf4 q0 q1 q2 q3 i.toNatClampNeg = some v := by
  obtain ⟨j, hj, rfl⟩ := vp_in_of h (by decide)
  rw [nI_clamp (by omega)]
  rcases (show j = 0 ∨ j = 1 ∨ j = 2 ∨ j = 3 by omega) with rfl | rfl | rfl | rfl <;> exact ⟨_, rfl⟩
set_option maxHeartbeats 4000000 in
set_option maxRecDepth 100000 in
theorem kX2_stateAt (l : Launch) (g : CX) (h0 h1 : Nat) (z : Int32) (q0 q1 q2 q3 : Nat) (p1 : Int32) : Met l yX2_stateAt (wg yX2_stateAt cX2_stateAt 2 (Option.some (.object "HookHours$State"))) rm_X2_stateAt (PR g [.ref h0, .int p1] (w_hd g h0 h1 z q0 q1 q2 q3)) (va_Sq (fun v => v = fX2_stateAt q0 q1 q2 q3 p1)) 0 0 (fun _ => False) := by
  refine Met.ofW (cc := cX2_stateAt) (maxL := 2) (ret := (Option.some (.object "HookHours$State"))) (by decide) rfl ?_
  intro p e s m args below meth c s₁ B hml hv
  obtain ⟨rfl, hP, hK, hL⟩ := hv
  have hx := B.exec
  have hb := B.bytes
  have hr := B.returns
  have htG := wg_G (atoms_spec (ws := wg yX2_stateAt cX2_stateAt 2 (Option.some (.object "HookHours$State"))) B.pre)
  have hown : s.vm.findClass RX2 = some m.cls := findClass_of_methodNamed B.named
  have hlocks := B.notSynchronized
  have hS : va_S (fun _ => False) s.heap s.heap [] := va_S.rf
  have hl := lv_entry ([.ref h0, .int p1]) (n := 2) (Nat.le_of_ble_eq_true rfl)
  rw [lg_entry_eq]
  generalize (lg_sl ([.ref h0, .int p1]) ++ List.replicate (2 - (lg_sl ([.ref h0, .int p1])).length) Slot.unset).toArray = ls at hl ⊢
  have hl : lv_has ls 2 [(0, .ref h0), (1, .int p1)] := hl
  refine lv_iload_n hx hb dX2_stateAt_0 rfl (lv_at hl 1 rfl) ?_
  refine lv_if_lt (tgt := 22) hx hb dX2_stateAt_1 (by decide) (fun c1 => ?_) (fun c1 => ?_)
  · refine lv_null hx hb dX2_stateAt_22 ?_
    exact W.aret (v := va_rf none) hx hb hr (Or.inl ⟨_, rfl⟩) (Or.inl rfl) (fun t ht hW => ⟨none, rfl, by rw [fX2_stateAt, if_pos c1], ht⟩) (fun _ h => nomatch h) dX2_stateAt_23
  · refine lv_iload_n hx hb dX2_stateAt_4 rfl (lv_at hl 1 rfl) ?_
    refine lv_aload_n hx hb dX2_stateAt_5 rfl (lv_at hl 0 rfl) ?_
    refine va_get (D := g.1) (ci := 2) (v := .ref h1) (C := RX2) (T := TX2) (N := 2) hx hb htG in_wsX20 hown hK.1 hP 0 rfl rfl 0 (by decide) (htG _ g1_169) (fun _ h9 => h9) rfl dX2_stateAt_6 ?_
    refine va_alen hx hb hK.1 hP 1 2 rfl rfl (v := 4) rfl dX2_stateAt_9 ?_
    refine lv_icmp_ge (tgt := 22) hx hb dX2_stateAt_10 (by decide) (fun c2 => ?_) (fun c2 => ?_)
    · refine lv_null hx hb dX2_stateAt_22 ?_
      exact W.aret (v := va_rf none) hx hb hr (Or.inl ⟨_, rfl⟩) (Or.inl rfl) (fun t ht hW => ⟨none, rfl, by rw [fX2_stateAt, if_neg c1, if_pos c2], ht⟩) (fun _ h => nomatch h) dX2_stateAt_23
    · have hin : vp_in p1 4 := ib_in (ib_of (n := 4) (by decide) c1 c2)
      obtain ⟨v, hv⟩ := rf4_in (q0 := q0) (q1 := q1) (q2 := q2) (q3 := q3) hin
      refine lv_aload_n hx hb dX2_stateAt_13 rfl (lv_at hl 0 rfl) ?_
      refine va_get (D := g.1) (ci := 2) (v := .ref h1) (C := RX2) (T := TX2) (N := 2) hx hb htG in_wsX20 hown hK.1 hP 0 rfl rfl 0 (by decide) (htG _ g1_169) (fun _ h9 => h9) rfl dX2_stateAt_14 ?_
      refine lv_iload_n hx hb dX2_stateAt_17 rfl (lv_at hl 1 rfl) ?_
      refine aldq_e hx hb hK.1 hP 1 2 rfl rfl hin dX2_stateAt_18 hv ?_
      refine lv_goto (tgt := 23) hx hb dX2_stateAt_19 (by decide) ?_
      exact W.aret (v := va_rf (some v)) hx hb hr (Or.inl ⟨_, rfl⟩) (Or.inr ⟨_, rfl⟩) (fun t ht hW => ⟨some v, rfl, by rw [fX2_stateAt, if_neg c1, if_neg c2, hv], ht⟩) (fun _ h => nomatch h) dX2_stateAt_23
abbrev rm_X2_dropOldest : Jvm.Room := { frames := 0, cells := 0, slots := 0, locals := 0 }
set_option maxHeartbeats 4000000 in
set_option maxRecDepth 100000 in
theorem kX2_dropOldest (l : Launch) (g : CX) (h0 h1 sz : Nat) (z : Int32) (q0 q1 q2 q3 : Nat) (u0 u1 u2 u3 : List Value) : Met l yX2_dropOldest (wg yX2_dropOldest cX2_dropOldest 3 none) rm_X2_dropOldest (PW g [.ref h0] sz (w_hd g h0 h1 z q0 q1 q2 q3 ++ [(q0, .inr (5, u0)), (q1, .inr (5, u1)), (q2, .inr (5, u2)), (q3, .inr (5, u3))])) (va_Qv (fun u => u = z - 1) (fun u t => va_P g.1 vwCl (w_hd g h0 h1 u q1 q2 q3 q0 ++ [(q0, .inr (5, u0)), (q1, .inr (5, u1)), (q2, .inr (5, u2)), (q3, .inr (5, u3))]) t.heap) (va_A (w_hd g h0 h1 z q0 q1 q2 q3 ++ [(q0, .inr (5, u0)), (q1, .inr (5, u1)), (q2, .inr (5, u2)), (q3, .inr (5, u3))]) sz)) 0 0 (va_A (w_hd g h0 h1 z q0 q1 q2 q3 ++ [(q0, .inr (5, u0)), (q1, .inr (5, u1)), (q2, .inr (5, u2)), (q3, .inr (5, u3))]) sz) := by
  refine Met.ofW (cc := cX2_dropOldest) (maxL := 3) (ret := none) (by decide) rfl ?_
  intro p e s m args below meth c s₁ B hml hv
  obtain ⟨rfl, hsz, hP, hK, hD0, hL⟩ := hv
  have hx := B.exec
  have hb := B.bytes
  have hr := B.returns
  have htG := wg_G (atoms_spec (ws := wg yX2_dropOldest cX2_dropOldest 3 none) B.pre)
  have hown : s.vm.findClass RX2 = some m.cls := findClass_of_methodNamed B.named
  have hlocks := B.notSynchronized
  subst hsz
  have hD := hD0.self (sz := s.heap.size)
  generalize hAe : va_A (w_hd g h0 h1 z q0 q1 q2 q3 ++ [(q0, .inr (5, u0)), (q1, .inr (5, u1)), (q2, .inr (5, u2)), (q3, .inr (5, u3))]) s.heap.size = A at hD hL ⊢
  have hA : ∀ q : Nat, s.heap.size ≤ q → A q := fun q h => by rw [← hAe]; exact Or.inr h
  have hS : va_S A s.heap s.heap [] := va_S.rf
  have hl := lv_entry ([.ref h0]) (n := 3) (Nat.le_of_ble_eq_true rfl)
  rw [lg_entry_eq]
  generalize (lg_sl ([.ref h0]) ++ List.replicate (3 - (lg_sl ([.ref h0])).length) Slot.unset).toArray = ls at hl ⊢
  have hl : lv_has ls 3 [(0, .ref h0)] := hl
  refine lv_iconst (v := 1) hx hb dX2_dropOldest_0 (by decide) ?_
  refine lv_istore_n (lv' := [(1, .int 1), (0, .ref h0)]) hx hb dX2_dropOldest_1 rfl hl (by decide) rfl (fun ls hl => ?_)
  refine lv_iload_n hx hb dX2_dropOldest_2 rfl (lv_at hl 0 rfl) ?_
  refine lv_aload_n hx hb dX2_dropOldest_3 rfl (lv_at hl 1 rfl) ?_
  refine va_get (D := g.1) (ci := 2) (v := .ref h1) (C := RX2) (T := TX2) (N := 2) hx hb htG in_wsX20 hown hK.1 hP 0 rfl rfl 0 (by decide) (htG _ g1_169) (fun _ h9 => h9) rfl dX2_dropOldest_4 ?_
  refine va_alen hx hb hK.1 hP 1 2 rfl rfl (v := 4) rfl dX2_dropOldest_7 ?_
  refine lv_icmp_ge (tgt := 47) hx hb dX2_dropOldest_8 (by decide) (fun h => absurd h (by decide)) (fun _ => ?_)
  refine lv_aload_n hx hb dX2_dropOldest_11 rfl (lv_at hl 1 rfl) ?_
  refine va_get (D := g.1) (ci := 2) (v := .ref h1) (C := RX2) (T := TX2) (N := 2) hx hb htG in_wsX20 hown hK.1 hP 0 rfl rfl 0 (by decide) (htG _ g1_169) (fun _ h9 => h9) rfl dX2_dropOldest_12 ?_
  refine lv_iload_n hx hb dX2_dropOldest_15 rfl (lv_at hl 0 rfl) ?_
  refine lv_iconst (v := 1) hx hb dX2_dropOldest_16 (by decide) ?_
  refine lv_isub hx hb dX2_dropOldest_17 ?_
  refine tope (y := 0) (by decide) ?_
  refine aldq_e (v := q0) hx hb hK.1 hP 1 2 rfl rfl (ib_in (by decide +kernel)) dX2_dropOldest_18 rfl ?_
  refine lv_astore_n (lv' := [(2, .ref q0), (1, .int 1), (0, .ref h0)]) hx hb dX2_dropOldest_19 rfl hl (by decide) rfl (fun ls hl => ?_)
  refine lv_aload_n hx hb dX2_dropOldest_20 rfl (lv_at hl 2 rfl) ?_
  refine va_get (D := g.1) (ci := 2) (v := .ref h1) (C := RX2) (T := TX2) (N := 2) hx hb htG in_wsX20 hown hK.1 hP 0 rfl rfl 0 (by decide) (htG _ g1_169) (fun _ h9 => h9) rfl dX2_dropOldest_21 ?_
  refine lv_iload_n hx hb dX2_dropOldest_24 rfl (lv_at hl 1 rfl) ?_
  refine lv_iconst (v := 1) hx hb dX2_dropOldest_25 (by decide) ?_
  refine lv_isub hx hb dX2_dropOldest_26 ?_
  refine tope (y := 0) (by decide) ?_
  refine lv_aload_n hx hb dX2_dropOldest_27 rfl (lv_at hl 2 rfl) ?_
  refine va_get (D := g.1) (ci := 2) (v := .ref h1) (C := RX2) (T := TX2) (N := 2) hx hb htG in_wsX20 hown hK.1 hP 0 rfl rfl 0 (by decide) (htG _ g1_169) (fun _ h9 => h9) rfl dX2_dropOldest_28 ?_
  refine lv_iload_n hx hb dX2_dropOldest_31 rfl (lv_at hl 1 rfl) ?_
  refine aldq_e (v := q1) hx hb hK.1 hP 1 2 rfl rfl (ib_in (by decide +kernel)) dX2_dropOldest_32 rfl ?_
  refine astq_e (v := q1) hx hb hK.1 hP hD hS 1 2 3 5 rfl rfl rfl rfl (ib_in (by decide +kernel)) dX2_dropOldest_33 rf4_0 (fun H locs hP hD hS => ?_)
  have hP : va_P g.1 vwCl (w_hd g h0 h1 z q1 q1 q2 q3 ++ [(q0, .inr (5, u0)), (q1, .inr (5, u1)), (q2, .inr (5, u2)), (q3, .inr (5, u3))]) H := hP
  have hD : va_D A (w_hd g h0 h1 z q1 q1 q2 q3 ++ [(q0, .inr (5, u0)), (q1, .inr (5, u1)), (q2, .inr (5, u2)), (q3, .inr (5, u3))]) := hD
  refine lv_aload_n hx hb dX2_dropOldest_34 rfl (lv_at hl 2 rfl) ?_
  refine va_get (D := g.1) (ci := 2) (v := .ref h1) (C := RX2) (T := TX2) (N := 2) hx hb htG in_wsX20 hown hK.1 hP 0 rfl rfl 0 (by decide) (htG _ g1_169) (fun _ h9 => h9) rfl dX2_dropOldest_35 ?_
  refine lv_iload_n hx hb dX2_dropOldest_38 rfl (lv_at hl 1 rfl) ?_
  refine lv_aload_n hx hb dX2_dropOldest_39 rfl (lv_at hl 0 rfl) ?_
  refine astq_e (v := q0) hx hb hK.1 hP hD hS 1 2 2 5 rfl rfl rfl rfl (ib_in (by decide +kernel)) dX2_dropOldest_40 rf4_1 (fun H locs hP hD hS => ?_)
  have hP : va_P g.1 vwCl (w_hd g h0 h1 z q1 q0 q2 q3 ++ [(q0, .inr (5, u0)), (q1, .inr (5, u1)), (q2, .inr (5, u2)), (q3, .inr (5, u3))]) H := hP
  have hD : va_D A (w_hd g h0 h1 z q1 q0 q2 q3 ++ [(q0, .inr (5, u0)), (q1, .inr (5, u1)), (q2, .inr (5, u2)), (q3, .inr (5, u3))]) := hD
  refine lv_iinc (v := 2) (lv' := [(1, .int 2), (2, .ref q0), (0, .ref h0)]) hx hb dX2_dropOldest_41 hl (k := 1) rfl (by decide) (by decide) rfl (fun ls hl => ?_)
  refine lv_goto (tgt := 2) hx hb dX2_dropOldest_44 (by decide) ?_
  refine lv_iload_n hx hb dX2_dropOldest_2 rfl (lv_at hl 0 rfl) ?_
  refine lv_aload_n hx hb dX2_dropOldest_3 rfl (lv_at hl 2 rfl) ?_
  refine va_get (D := g.1) (ci := 2) (v := .ref h1) (C := RX2) (T := TX2) (N := 2) hx hb htG in_wsX20 hown hK.1 hP 0 rfl rfl 0 (by decide) (htG _ g1_169) (fun _ h9 => h9) rfl dX2_dropOldest_4 ?_
  refine va_alen hx hb hK.1 hP 1 2 rfl rfl (v := 4) rfl dX2_dropOldest_7 ?_
  refine lv_icmp_ge (tgt := 47) hx hb dX2_dropOldest_8 (by decide) (fun h => absurd h (by decide)) (fun _ => ?_)
  refine lv_aload_n hx hb dX2_dropOldest_11 rfl (lv_at hl 2 rfl) ?_
  refine va_get (D := g.1) (ci := 2) (v := .ref h1) (C := RX2) (T := TX2) (N := 2) hx hb htG in_wsX20 hown hK.1 hP 0 rfl rfl 0 (by decide) (htG _ g1_169) (fun _ h9 => h9) rfl dX2_dropOldest_12 ?_
  refine lv_iload_n hx hb dX2_dropOldest_15 rfl (lv_at hl 0 rfl) ?_
  refine lv_iconst (v := 1) hx hb dX2_dropOldest_16 (by decide) ?_
  refine lv_isub hx hb dX2_dropOldest_17 ?_
  refine tope (y := 1) (by decide) ?_
  refine aldq_e (v := q0) hx hb hK.1 hP 1 2 rfl rfl (ib_in (by decide +kernel)) dX2_dropOldest_18 rfl ?_
  refine lv_astore_n (lv' := [(2, .ref q0), (1, .int 2), (0, .ref h0)]) hx hb dX2_dropOldest_19 rfl hl (by decide) rfl (fun ls hl => ?_)
  refine lv_aload_n hx hb dX2_dropOldest_20 rfl (lv_at hl 2 rfl) ?_
  refine va_get (D := g.1) (ci := 2) (v := .ref h1) (C := RX2) (T := TX2) (N := 2) hx hb htG in_wsX20 hown hK.1 hP 0 rfl rfl 0 (by decide) (htG _ g1_169) (fun _ h9 => h9) rfl dX2_dropOldest_21 ?_
  refine lv_iload_n hx hb dX2_dropOldest_24 rfl (lv_at hl 1 rfl) ?_
  refine lv_iconst (v := 1) hx hb dX2_dropOldest_25 (by decide) ?_
  refine lv_isub hx hb dX2_dropOldest_26 ?_
  refine tope (y := 1) (by decide) ?_
  refine lv_aload_n hx hb dX2_dropOldest_27 rfl (lv_at hl 2 rfl) ?_
  refine va_get (D := g.1) (ci := 2) (v := .ref h1) (C := RX2) (T := TX2) (N := 2) hx hb htG in_wsX20 hown hK.1 hP 0 rfl rfl 0 (by decide) (htG _ g1_169) (fun _ h9 => h9) rfl dX2_dropOldest_28 ?_
  refine lv_iload_n hx hb dX2_dropOldest_31 rfl (lv_at hl 1 rfl) ?_
  refine aldq_e (v := q2) hx hb hK.1 hP 1 2 rfl rfl (ib_in (by decide +kernel)) dX2_dropOldest_32 rfl ?_
  refine astq_e (v := q2) hx hb hK.1 hP hD hS 1 2 4 5 rfl rfl rfl rfl (ib_in (by decide +kernel)) dX2_dropOldest_33 rf4_1 (fun H locs hP hD hS => ?_)
  have hP : va_P g.1 vwCl (w_hd g h0 h1 z q1 q2 q2 q3 ++ [(q0, .inr (5, u0)), (q1, .inr (5, u1)), (q2, .inr (5, u2)), (q3, .inr (5, u3))]) H := hP
  have hD : va_D A (w_hd g h0 h1 z q1 q2 q2 q3 ++ [(q0, .inr (5, u0)), (q1, .inr (5, u1)), (q2, .inr (5, u2)), (q3, .inr (5, u3))]) := hD
  refine lv_aload_n hx hb dX2_dropOldest_34 rfl (lv_at hl 2 rfl) ?_
  refine va_get (D := g.1) (ci := 2) (v := .ref h1) (C := RX2) (T := TX2) (N := 2) hx hb htG in_wsX20 hown hK.1 hP 0 rfl rfl 0 (by decide) (htG _ g1_169) (fun _ h9 => h9) rfl dX2_dropOldest_35 ?_
  refine lv_iload_n hx hb dX2_dropOldest_38 rfl (lv_at hl 1 rfl) ?_
  refine lv_aload_n hx hb dX2_dropOldest_39 rfl (lv_at hl 0 rfl) ?_
  refine astq_e (v := q0) hx hb hK.1 hP hD hS 1 2 2 5 rfl rfl rfl rfl (ib_in (by decide +kernel)) dX2_dropOldest_40 rf4_2 (fun H locs hP hD hS => ?_)
  have hP : va_P g.1 vwCl (w_hd g h0 h1 z q1 q2 q0 q3 ++ [(q0, .inr (5, u0)), (q1, .inr (5, u1)), (q2, .inr (5, u2)), (q3, .inr (5, u3))]) H := hP
  have hD : va_D A (w_hd g h0 h1 z q1 q2 q0 q3 ++ [(q0, .inr (5, u0)), (q1, .inr (5, u1)), (q2, .inr (5, u2)), (q3, .inr (5, u3))]) := hD
  refine lv_iinc (v := 3) (lv' := [(1, .int 3), (2, .ref q0), (0, .ref h0)]) hx hb dX2_dropOldest_41 hl (k := 1) rfl (by decide) (by decide) rfl (fun ls hl => ?_)
  refine lv_goto (tgt := 2) hx hb dX2_dropOldest_44 (by decide) ?_
  refine lv_iload_n hx hb dX2_dropOldest_2 rfl (lv_at hl 0 rfl) ?_
  refine lv_aload_n hx hb dX2_dropOldest_3 rfl (lv_at hl 2 rfl) ?_
  refine va_get (D := g.1) (ci := 2) (v := .ref h1) (C := RX2) (T := TX2) (N := 2) hx hb htG in_wsX20 hown hK.1 hP 0 rfl rfl 0 (by decide) (htG _ g1_169) (fun _ h9 => h9) rfl dX2_dropOldest_4 ?_
  refine va_alen hx hb hK.1 hP 1 2 rfl rfl (v := 4) rfl dX2_dropOldest_7 ?_
  refine lv_icmp_ge (tgt := 47) hx hb dX2_dropOldest_8 (by decide) (fun h => absurd h (by decide)) (fun _ => ?_)
  refine lv_aload_n hx hb dX2_dropOldest_11 rfl (lv_at hl 2 rfl) ?_
  refine va_get (D := g.1) (ci := 2) (v := .ref h1) (C := RX2) (T := TX2) (N := 2) hx hb htG in_wsX20 hown hK.1 hP 0 rfl rfl 0 (by decide) (htG _ g1_169) (fun _ h9 => h9) rfl dX2_dropOldest_12 ?_
  refine lv_iload_n hx hb dX2_dropOldest_15 rfl (lv_at hl 0 rfl) ?_
  refine lv_iconst (v := 1) hx hb dX2_dropOldest_16 (by decide) ?_
  refine lv_isub hx hb dX2_dropOldest_17 ?_
  refine tope (y := 2) (by decide) ?_
  refine aldq_e (v := q0) hx hb hK.1 hP 1 2 rfl rfl (ib_in (by decide +kernel)) dX2_dropOldest_18 rfl ?_
  refine lv_astore_n (lv' := [(2, .ref q0), (1, .int 3), (0, .ref h0)]) hx hb dX2_dropOldest_19 rfl hl (by decide) rfl (fun ls hl => ?_)
  refine lv_aload_n hx hb dX2_dropOldest_20 rfl (lv_at hl 2 rfl) ?_
  refine va_get (D := g.1) (ci := 2) (v := .ref h1) (C := RX2) (T := TX2) (N := 2) hx hb htG in_wsX20 hown hK.1 hP 0 rfl rfl 0 (by decide) (htG _ g1_169) (fun _ h9 => h9) rfl dX2_dropOldest_21 ?_
  refine lv_iload_n hx hb dX2_dropOldest_24 rfl (lv_at hl 1 rfl) ?_
  refine lv_iconst (v := 1) hx hb dX2_dropOldest_25 (by decide) ?_
  refine lv_isub hx hb dX2_dropOldest_26 ?_
  refine tope (y := 2) (by decide) ?_
  refine lv_aload_n hx hb dX2_dropOldest_27 rfl (lv_at hl 2 rfl) ?_
  refine va_get (D := g.1) (ci := 2) (v := .ref h1) (C := RX2) (T := TX2) (N := 2) hx hb htG in_wsX20 hown hK.1 hP 0 rfl rfl 0 (by decide) (htG _ g1_169) (fun _ h9 => h9) rfl dX2_dropOldest_28 ?_
  refine lv_iload_n hx hb dX2_dropOldest_31 rfl (lv_at hl 1 rfl) ?_
  refine aldq_e (v := q3) hx hb hK.1 hP 1 2 rfl rfl (ib_in (by decide +kernel)) dX2_dropOldest_32 rfl ?_
  refine astq_e (v := q3) hx hb hK.1 hP hD hS 1 2 5 5 rfl rfl rfl rfl (ib_in (by decide +kernel)) dX2_dropOldest_33 rf4_2 (fun H locs hP hD hS => ?_)
  have hP : va_P g.1 vwCl (w_hd g h0 h1 z q1 q2 q3 q3 ++ [(q0, .inr (5, u0)), (q1, .inr (5, u1)), (q2, .inr (5, u2)), (q3, .inr (5, u3))]) H := hP
  have hD : va_D A (w_hd g h0 h1 z q1 q2 q3 q3 ++ [(q0, .inr (5, u0)), (q1, .inr (5, u1)), (q2, .inr (5, u2)), (q3, .inr (5, u3))]) := hD
  refine lv_aload_n hx hb dX2_dropOldest_34 rfl (lv_at hl 2 rfl) ?_
  refine va_get (D := g.1) (ci := 2) (v := .ref h1) (C := RX2) (T := TX2) (N := 2) hx hb htG in_wsX20 hown hK.1 hP 0 rfl rfl 0 (by decide) (htG _ g1_169) (fun _ h9 => h9) rfl dX2_dropOldest_35 ?_
  refine lv_iload_n hx hb dX2_dropOldest_38 rfl (lv_at hl 1 rfl) ?_
  refine lv_aload_n hx hb dX2_dropOldest_39 rfl (lv_at hl 0 rfl) ?_
  refine astq_e (v := q0) hx hb hK.1 hP hD hS 1 2 2 5 rfl rfl rfl rfl (ib_in (by decide +kernel)) dX2_dropOldest_40 rf4_3 (fun H locs hP hD hS => ?_)
  have hP : va_P g.1 vwCl (w_hd g h0 h1 z q1 q2 q3 q0 ++ [(q0, .inr (5, u0)), (q1, .inr (5, u1)), (q2, .inr (5, u2)), (q3, .inr (5, u3))]) H := hP
  have hD : va_D A (w_hd g h0 h1 z q1 q2 q3 q0 ++ [(q0, .inr (5, u0)), (q1, .inr (5, u1)), (q2, .inr (5, u2)), (q3, .inr (5, u3))]) := hD
  refine lv_iinc (v := 4) (lv' := [(1, .int 4), (2, .ref q0), (0, .ref h0)]) hx hb dX2_dropOldest_41 hl (k := 1) rfl (by decide) (by decide) rfl (fun ls hl => ?_)
  refine lv_goto (tgt := 2) hx hb dX2_dropOldest_44 (by decide) ?_
  refine lv_iload_n hx hb dX2_dropOldest_2 rfl (lv_at hl 0 rfl) ?_
  refine lv_aload_n hx hb dX2_dropOldest_3 rfl (lv_at hl 2 rfl) ?_
  refine va_get (D := g.1) (ci := 2) (v := .ref h1) (C := RX2) (T := TX2) (N := 2) hx hb htG in_wsX20 hown hK.1 hP 0 rfl rfl 0 (by decide) (htG _ g1_169) (fun _ h9 => h9) rfl dX2_dropOldest_4 ?_
  refine va_alen hx hb hK.1 hP 1 2 rfl rfl (v := 4) rfl dX2_dropOldest_7 ?_
  refine lv_icmp_ge (tgt := 47) hx hb dX2_dropOldest_8 (by decide) (fun _ => ?_) (fun h => absurd (by decide) h)
  refine lv_aload_n hx hb dX2_dropOldest_47 rfl (lv_at hl 2 rfl) ?_
  refine lv_dup hx hb dX2_dropOldest_48 rfl ?_
  refine va_get (D := g.1) (ci := 2) (v := .int z) (C := RX2) (T := TX2) (N := 2) hx hb htG in_wsX20 hown hK.1 hP 0 rfl rfl 1 (by decide) (htG _ g1_170) (fun _ h9 => h9) rfl dX2_dropOldest_49 ?_
  refine lv_iconst (v := 1) hx hb dX2_dropOldest_52 (by decide) ?_
  refine lv_isub hx hb dX2_dropOldest_53 ?_
  refine va_put (D := g.1) (ci := 2) (v := .int (z - 1)) (ty := .int) (C := RX2) (T := TX2) (N := 2) hx hb htG in_wsX20 tyX2 tyX2_ok nmX2 hown hK.1 hP hD hS 0 rfl rfl 1 (by decide) (htG _ g1_170) (fun _ h9 => h9) rfl (by decide +kernel) rfl rfl (Nat.le_of_ble_eq_true rfl) dX2_dropOldest_54 (fun H locs hP hD hS => ?_)
  have hP : va_P g.1 vwCl (w_hd g h0 h1 (z - 1) q1 q2 q3 q0 ++ [(q0, .inr (5, u0)), (q1, .inr (5, u1)), (q2, .inr (5, u2)), (q3, .inr (5, u3))]) H := hP
  have hD : va_D A (w_hd g h0 h1 (z - 1) q1 q2 q3 q0 ++ [(q0, .inr (5, u0)), (q1, .inr (5, u1)), (q2, .inr (5, u2)), (q3, .inr (5, u3))]) := hD
  exact W.vret hx hb hr (fun t ht hW => ⟨⟨_, rfl, rfl, atH ht hP⟩, hS.F ht⟩) hS.2.2 dX2_dropOldest_57
