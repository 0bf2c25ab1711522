def fX9_offered_L0 (x : MD) (p1 : Int32) (p2 : Int32) : Nat → Int32 → Int32 → Option (Int32)
  | 0, _, _ => none
  | n + 1, i0_3, i0_4 => (if 48 ≤ i0_4 then (some i0_3) else (if ib (((p1 + 531) + (6 * i0_4)) + p2) 5845 = true then (bnd (i0_3 + (x.1 ((((p1 + 531) + (6 * i0_4)) + p2).toNatClampNeg))) (fun zv3 => (fX9_offered_L0 x p1 p2 n zv3 (i0_4 + 1)))) else none))
def fX9_offered (x : MD) (p1 : Int32) (p2 : Int32) : Option (Int32) := ((fX9_offered_L0 x p1 p2 1000 0 0).bind (fun zq4 => some zq4))
abbrev rm_X9_offered : Jvm.Room := { frames := 0, cells := 0, slots := 0, locals := 0 }
theorem hd_X9_offered : yX9_offered.cls = RX9 ∧ yX9_offered.cls ≠ "java/lang/invoke/MethodHandle" ∧ yX9_offered.cls ≠ "java/lang/invoke/VarHandle" ∧ (parseMethodDescriptor yX9_offered.desc).map (fun d => d.parameters.length) = some 2 := by decide +kernel
set_option maxHeartbeats 4000000 in
set_option maxRecDepth 100000 in
theorem kX9_offered (l : Launch) (g : CX) (h0 h1 h2 h3 : Nat) (x : MD) (p1 : Int32) (p2 : Int32) (res : Int32) (hm0 : fX9_offered x p1 p2 = some res) : Met l yX9_offered (wg yX9_offered cX9_offered 5 (some .int)) rm_X9_offered (PR g [.ref h0, .int p1, .int p2] (w_X9 g h0 h1 h2 h3 x)) (vp_Si (fun v => v = res)) 0 0 (fun _ => False) := by
  refine Met.ofW (cc := cX9_offered) (maxL := 5) (ret := (some .int)) (by decide) rfl ?_
  intro p e s m args below meth c s₁ B hml hv
  obtain ⟨rfl, hP, hK, hL⟩ := hv
  have hx := B.exec
  have hb := B.bytes
  have hr := B.returns
  have htG := wg_G (atoms_spec (ws := wg yX9_offered cX9_offered 5 (some .int)) B.pre)
  have hown : s.vm.findClass RX9 = some m.cls := findClass_of_methodNamed B.named
  have hlocks := B.notSynchronized
  have hS : va_S (fun _ => False) s.heap s.heap [] := va_S.rf
  have hl := lv_entry ([.ref h0, .int p1, .int p2]) (n := 5) (Nat.le_of_ble_eq_true rfl)
  rw [lg_entry_eq]
  generalize (lg_sl ([.ref h0, .int p1, .int p2]) ++ List.replicate (5 - (lg_sl ([.ref h0, .int p1, .int p2])).length) Slot.unset).toArray = ls at hl ⊢
  have hl : lv_has ls 5 [(0, .ref h0), (1, .int p1), (2, .int p2)] := hl
  have hm := hm0
  unfold fX9_offered at hm
  have hL0 : ∀ (Q : State → Prop), ∀ (n : Nat) (i0_3 : Int32) (i0_4 : Int32) (out : Int32) (ls : Array Slot), fX9_offered_L0 x p1 p2 n i0_3 i0_4 = some out → lv_has ls 5 [(0, .ref h0), (1, .int p1), (2, .int p2), (3, .int i0_3), (4, .int i0_4)] → (∀ ls : Array Slot, lv_has ls 5 [(3, .int out)] → W p l e (headSpec (wg yX9_offered cX9_offered 5 (some .int)) rm_X9_offered).room s m (([.ref h0, .int p1, .int p2] : List Value).toArray) below meth c s.heap [] 0 0 Q (F0 m 39 ls [])) → W p l e (headSpec (wg yX9_offered cX9_offered 5 (some .int)) rm_X9_offered).room s m (([.ref h0, .int p1, .int p2] : List Value).toArray) below meth c s.heap [] 0 0 Q (F0 m 5 ls []) := by
    intro Q n
    induction n with
    | zero =>
      intro i0_3 i0_4 out ls hm hl hk
      simp [fX9_offered_L0] at hm
    | succ n ih =>
      intro i0_3 i0_4 out ls hm hl hk
      rw [fX9_offered_L0] at hm
      refine lv_iload hx hb dX9_offered_5 (lv_at hl 4 rfl) ?_
      refine lv_bipush (v := 48) hx hb dX9_offered_7 (by decide +kernel) ?_
      refine lv_icmp_ge (tgt := 39) hx hb dX9_offered_9 (by decide) (fun zc1 => ?_) (fun zc1 => ?_)
      · replace hm := (if_pos zc1).symm.trans hm
        obtain rfl := Option.some.inj hm
        exact hk ls (lv_sub hl [3] rfl)
      · replace hm := (if_neg zc1).symm.trans hm
        refine lv_iload_n hx hb dX9_offered_12 rfl (lv_at hl 3 rfl) ?_
        refine lv_aload_n hx hb dX9_offered_13 rfl (lv_at hl 0 rfl) ?_
        refine va_get (D := g.1) (ci := 8) (v := .ref h1) (C := RX9) (T := TX9) (N := 11) hx hb htG in_wsX90 hown hK.1 hP 0 rfl rfl 0 (by decide) (htG _ g3_195) (fun _ h9 => h9) rfl dX9_offered_14 ?_
        refine lv_iload_n hx hb dX9_offered_17 rfl (lv_at hl 1 rfl) ?_
        refine lv_sipush (v := 531) hx hb dX9_offered_18 (by decide +kernel) ?_
        refine lv_iadd hx hb dX9_offered_21 ?_
        refine lv_bipush (v := 6) hx hb dX9_offered_22 (by decide +kernel) ?_
        refine lv_iload hx hb dX9_offered_24 (lv_at hl 4 rfl) ?_
        refine lv_imul hx hb dX9_offered_26 ?_
        refine lv_iadd hx hb dX9_offered_27 ?_
        refine lv_iload_n hx hb dX9_offered_28 rfl (lv_at hl 2 rfl) ?_
        refine lv_iadd hx hb dX9_offered_29 ?_
        obtain ⟨zb2, hm⟩ := ibk hm
        refine va_iald hx hb hK.1 hP 1 0 rfl rfl zb2 dX9_offered_30 ?_
        refine lv_iadd hx hb dX9_offered_31 ?_
        obtain ⟨zv3, ezv3, hm⟩ := bnk hm
        refine tope ezv3 ?_
        refine lv_istore_n (lv' := [(3, .int zv3), (0, .ref h0), (1, .int p1), (2, .int p2), (4, .int i0_4)]) hx hb dX9_offered_32 rfl hl (by decide) rfl (fun ls hl => ?_)
        refine lv_iinc (v := i0_4 + 1) (lv' := [(4, .int (i0_4 + 1)), (3, .int zv3), (0, .ref h0), (1, .int p1), (2, .int p2)]) hx hb dX9_offered_33 hl (k := 4) rfl rfl (by decide) rfl (fun ls hl => ?_)
        refine lv_goto (tgt := 5) hx hb dX9_offered_36 (by decide) ?_
        exact ih zv3 (i0_4 + 1) out ls hm (lv_sub hl [2, 3, 4, 1, 0] rfl) hk
  refine lv_iconst (v := 0) hx hb dX9_offered_0 (by decide) ?_
  refine lv_istore_n (lv' := [(3, .int 0), (0, .ref h0), (1, .int p1), (2, .int p2)]) hx hb dX9_offered_1 rfl hl (by decide) rfl (fun ls hl => ?_)
  refine lv_iconst (v := 0) hx hb dX9_offered_2 (by decide) ?_
  refine lv_istore (lv' := [(4, .int 0), (3, .int 0), (0, .ref h0), (1, .int p1), (2, .int p2)]) hx hb dX9_offered_3 hl (by decide) rfl (fun ls hl => ?_)
  obtain ⟨zq4, hzq4, hm⟩ := bdk hm
  refine hL0 _ 1000 0 0 zq4 _ hzq4 (lv_sub hl [2, 3, 4, 1, 0] rfl) (fun ls hl => ?_)
  refine lv_iload_n hx hb dX9_offered_39 rfl (lv_at hl 0 rfl) ?_
  exact W.iret (v := zq4) hx hb hr (fun t ht hW => ⟨_, rfl, (Option.some.inj hm), ht⟩) (fun _ h => nomatch h) dX9_offered_40
def fX9_bidsOf_L0 (x : MD) (p1 : Int32) (p2 : Int32) : Nat → Int32 → Int32 → Option (Int32)
  | 0, _, _ => none
  | n + 1, i0_3, i0_4 => (if 48 ≤ i0_4 then (some i0_3) else (if ib (((p1 + 531) + (6 * i0_4)) + p2) 5845 = true then (if (x.1 ((((p1 + 531) + (6 * i0_4)) + p2).toNatClampNeg)) ≤ 0 then (fX9_bidsOf_L0 x p1 p2 n (i0_3 + 0) (i0_4 + 1)) else (fX9_bidsOf_L0 x p1 p2 n (i0_3 + 1) (i0_4 + 1))) else none))
def fX9_bidsOf (x : MD) (p1 : Int32) (p2 : Int32) : Option (Int32) := ((fX9_bidsOf_L0 x p1 p2 1000 0 0).bind (fun zq4 => some zq4))
abbrev rm_X9_bidsOf : Jvm.Room := { frames := 0, cells := 0, slots := 0, locals := 0 }
theorem hd_X9_bidsOf : yX9_bidsOf.cls = RX9 ∧ yX9_bidsOf.cls ≠ "java/lang/invoke/MethodHandle" ∧ yX9_bidsOf.cls ≠ "java/lang/invoke/VarHandle" ∧ (parseMethodDescriptor yX9_bidsOf.desc).map (fun d => d.parameters.length) = some 2 := by decide +kernel
set_option maxHeartbeats 4000000 in
set_option maxRecDepth 100000 in
theorem kX9_bidsOf (l : Launch) (g : CX) (h0 h1 h2 h3 : Nat) (x : MD) (p1 : Int32) (p2 : Int32) (res : Int32) (hm0 : fX9_bidsOf x p1 p2 = some res) : Met l yX9_bidsOf (wg yX9_bidsOf cX9_bidsOf 5 (some .int)) rm_X9_bidsOf (PR g [.ref h0, .int p1, .int p2] (w_X9 g h0 h1 h2 h3 x)) (vp_Si (fun v => v = res)) 0 0 (fun _ => False) := by
  refine Met.ofW (cc := cX9_bidsOf) (maxL := 5) (ret := (some .int)) (by decide) rfl ?_
  intro p e s m args below meth c s₁ B hml hv
  obtain ⟨rfl, hP, hK, hL⟩ := hv
  have hx := B.exec
  have hb := B.bytes
  have hr := B.returns
  have htG := wg_G (atoms_spec (ws := wg yX9_bidsOf cX9_bidsOf 5 (some .int)) B.pre)
  have hown : s.vm.findClass RX9 = some m.cls := findClass_of_methodNamed B.named
  have hlocks := B.notSynchronized
  have hS : va_S (fun _ => False) s.heap s.heap [] := va_S.rf
  have hl := lv_entry ([.ref h0, .int p1, .int p2]) (n := 5) (Nat.le_of_ble_eq_true rfl)
  rw [lg_entry_eq]
  generalize (lg_sl ([.ref h0, .int p1, .int p2]) ++ List.replicate (5 - (lg_sl ([.ref h0, .int p1, .int p2])).length) Slot.unset).toArray = ls at hl ⊢
  have hl : lv_has ls 5 [(0, .ref h0), (1, .int p1), (2, .int p2)] := hl
  have hm := hm0
  unfold fX9_bidsOf at hm
  have hL0 : ∀ (Q : State → Prop), ∀ (n : Nat) (i0_3 : Int32) (i0_4 : Int32) (out : Int32) (ls : Array Slot), fX9_bidsOf_L0 x p1 p2 n i0_3 i0_4 = some out → lv_has ls 5 [(0, .ref h0), (1, .int p1), (2, .int p2), (3, .int i0_3), (4, .int i0_4)] → (∀ ls : Array Slot, lv_has ls 5 [(3, .int out)] → W p l e (headSpec (wg yX9_bidsOf cX9_bidsOf 5 (some .int)) rm_X9_bidsOf).room s m (([.ref h0, .int p1, .int p2] : List Value).toArray) below meth c s.heap [] 0 0 Q (F0 m 47 ls [])) → W p l e (headSpec (wg yX9_bidsOf cX9_bidsOf 5 (some .int)) rm_X9_bidsOf).room s m (([.ref h0, .int p1, .int p2] : List Value).toArray) below meth c s.heap [] 0 0 Q (F0 m 5 ls []) := by
    intro Q n
    induction n with
    | zero =>
      intro i0_3 i0_4 out ls hm hl hk
      simp [fX9_bidsOf_L0] at hm
    | succ n ih =>
      intro i0_3 i0_4 out ls hm hl hk
      rw [fX9_bidsOf_L0] at hm
      refine lv_iload hx hb dX9_bidsOf_5 (lv_at hl 4 rfl) ?_
      refine lv_bipush (v := 48) hx hb dX9_bidsOf_7 (by decide +kernel) ?_
      refine lv_icmp_ge (tgt := 47) hx hb dX9_bidsOf_9 (by decide) (fun zc1 => ?_) (fun zc1 => ?_)
      · replace hm := (if_pos zc1).symm.trans hm
        obtain rfl := Option.some.inj hm
        exact hk ls (lv_sub hl [3] rfl)
      · replace hm := (if_neg zc1).symm.trans hm
        refine lv_iload_n hx hb dX9_bidsOf_12 rfl (lv_at hl 3 rfl) ?_
        refine lv_aload_n hx hb dX9_bidsOf_13 rfl (lv_at hl 0 rfl) ?_
        refine va_get (D := g.1) (ci := 8) (v := .ref h1) (C := RX9) (T := TX9) (N := 11) hx hb htG in_wsX90 hown hK.1 hP 0 rfl rfl 0 (by decide) (htG _ g3_195) (fun _ h9 => h9) rfl dX9_bidsOf_14 ?_
        refine lv_iload_n hx hb dX9_bidsOf_17 rfl (lv_at hl 1 rfl) ?_
        refine lv_sipush (v := 531) hx hb dX9_bidsOf_18 (by decide +kernel) ?_
        refine lv_iadd hx hb dX9_bidsOf_21 ?_
        refine lv_bipush (v := 6) hx hb dX9_bidsOf_22 (by decide +kernel) ?_
        refine lv_iload hx hb dX9_bidsOf_24 (lv_at hl 4 rfl) ?_
        refine lv_imul hx hb dX9_bidsOf_26 ?_
        refine lv_iadd hx hb dX9_bidsOf_27 ?_
        refine lv_iload_n hx hb dX9_bidsOf_28 rfl (lv_at hl 2 rfl) ?_
        refine lv_iadd hx hb dX9_bidsOf_29 ?_
        obtain ⟨zb2, hm⟩ := ibk hm
        refine va_iald hx hb hK.1 hP 1 0 rfl rfl zb2 dX9_bidsOf_30 ?_
        refine lv_if_le (tgt := 38) hx hb dX9_bidsOf_31 (by decide) (fun zc3 => ?_) (fun zc3 => ?_)
        · replace hm := (if_pos zc3).symm.trans hm
          refine lv_iconst (v := 0) hx hb dX9_bidsOf_38 (by decide) ?_
          refine lv_iadd hx hb dX9_bidsOf_39 ?_
          refine lv_istore_n (lv' := [(3, .int (i0_3 + 0)), (0, .ref h0), (1, .int p1), (2, .int p2), (4, .int i0_4)]) hx hb dX9_bidsOf_40 rfl hl (by decide) rfl (fun ls hl => ?_)
          refine lv_iinc (v := i0_4 + 1) (lv' := [(4, .int (i0_4 + 1)), (3, .int (i0_3 + 0)), (0, .ref h0), (1, .int p1), (2, .int p2)]) hx hb dX9_bidsOf_41 hl (k := 4) rfl rfl (by decide) rfl (fun ls hl => ?_)
          refine lv_goto (tgt := 5) hx hb dX9_bidsOf_44 (by decide) ?_
          exact ih (i0_3 + 0) (i0_4 + 1) out ls hm (lv_sub hl [2, 3, 4, 1, 0] rfl) hk
        · replace hm := (if_neg zc3).symm.trans hm
          refine lv_iconst (v := 1) hx hb dX9_bidsOf_34 (by decide) ?_
          refine lv_goto (tgt := 39) hx hb dX9_bidsOf_35 (by decide) ?_
          refine lv_iadd hx hb dX9_bidsOf_39 ?_
          refine lv_istore_n (lv' := [(3, .int (i0_3 + 1)), (0, .ref h0), (1, .int p1), (2, .int p2), (4, .int i0_4)]) hx hb dX9_bidsOf_40 rfl hl (by decide) rfl (fun ls hl => ?_)
          refine lv_iinc (v := i0_4 + 1) (lv' := [(4, .int (i0_4 + 1)), (3, .int (i0_3 + 1)), (0, .ref h0), (1, .int p1), (2, .int p2)]) hx hb dX9_bidsOf_41 hl (k := 4) rfl rfl (by decide) rfl (fun ls hl => ?_)
          refine lv_goto (tgt := 5) hx hb dX9_bidsOf_44 (by decide) ?_
          exact ih (i0_3 + 1) (i0_4 + 1) out ls hm (lv_sub hl [2, 3, 4, 1, 0] rfl) hk
  refine lv_iconst (v := 0) hx hb dX9_bidsOf_0 (by decide) ?_
  refine lv_istore_n (lv' := [(3, .int 0), (0, .ref h0), (1, .int p1), (2, .int p2)]) hx hb dX9_bidsOf_1 rfl hl (by decide) rfl (fun ls hl => ?_)
  refine lv_iconst (v := 0) hx hb dX9_bidsOf_2 (by decide) ?_
  refine lv_istore (lv' := [(4, .int 0), (3, .int 0), (0, .ref h0), (1, .int p1), (2, .int p2)]) hx hb dX9_bidsOf_3 hl (by decide) rfl (fun ls hl => ?_)
  obtain ⟨zq4, hzq4, hm⟩ := bdk hm
  refine hL0 _ 1000 0 0 zq4 _ hzq4 (lv_sub hl [2, 3, 4, 1, 0] rfl) (fun ls hl => ?_)
  refine lv_iload_n hx hb dX9_bidsOf_47 rfl (lv_at hl 0 rfl) ?_
  exact W.iret (v := zq4) hx hb hr (fun t ht hW => ⟨_, rfl, (Option.some.inj hm), ht⟩) (fun _ h => nomatch h) dX9_bidsOf_48
def fX9_bidsFor_L0 (x : MD) (p1 : Int32) (p2 : Int32) : Nat → Int32 → Int32 → Option (Int32)
  | 0, _, _ => none
  | n + 1, i0_3, i0_4 => (if 6 ≤ i0_4 then (some i0_3) else (if ib (((p1 + 531) + (6 * p2)) + i0_4) 5845 = true then (if (x.1 ((((p1 + 531) + (6 * p2)) + i0_4).toNatClampNeg)) ≤ 0 then (fX9_bidsFor_L0 x p1 p2 n (i0_3 + 0) (i0_4 + 1)) else (fX9_bidsFor_L0 x p1 p2 n (i0_3 + 1) (i0_4 + 1))) else none))
def fX9_bidsFor (x : MD) (p1 : Int32) (p2 : Int32) : Option (Int32) := ((fX9_bidsFor_L0 x p1 p2 1000 0 0).bind (fun zq4 => some zq4))
abbrev rm_X9_bidsFor : Jvm.Room := { frames := 0, cells := 0, slots := 0, locals := 0 }
theorem hd_X9_bidsFor : yX9_bidsFor.cls = RX9 ∧ yX9_bidsFor.cls ≠ "java/lang/invoke/MethodHandle" ∧ yX9_bidsFor.cls ≠ "java/lang/invoke/VarHandle" ∧ (parseMethodDescriptor yX9_bidsFor.desc).map (fun d => d.parameters.length) = some 2 := by decide +kernel
set_option maxHeartbeats 4000000 in
set_option maxRecDepth 100000 in
theorem kX9_bidsFor (l : Launch) (g : CX) (h0 h1 h2 h3 : Nat) (x : MD) (p1 : Int32) (p2 : Int32) (res : Int32) (hm0 : fX9_bidsFor x p1 p2 = some res) : Met l yX9_bidsFor (wg yX9_bidsFor cX9_bidsFor 5 (some .int)) rm_X9_bidsFor (PR g [.ref h0, .int p1, .int p2] (w_X9 g h0 h1 h2 h3 x)) (vp_Si (fun v => v = res)) 0 0 (fun _ => False) := by
  refine Met.ofW (cc := cX9_bidsFor) (maxL := 5) (ret := (some .int)) (by decide) rfl ?_
  intro p e s m args below meth c s₁ B hml hv
  obtain ⟨rfl, hP, hK, hL⟩ := hv
  have hx := B.exec
  have hb := B.bytes
  have hr := B.returns
  have htG := wg_G (atoms_spec (ws := wg yX9_bidsFor cX9_bidsFor 5 (some .int)) B.pre)
  have hown : s.vm.findClass RX9 = some m.cls := findClass_of_methodNamed B.named
  have hlocks := B.notSynchronized
  have hS : va_S (fun _ => False) s.heap s.heap [] := va_S.rf
  have hl := lv_entry ([.ref h0, .int p1, .int p2]) (n := 5) (Nat.le_of_ble_eq_true rfl)
  rw [lg_entry_eq]
  generalize (lg_sl ([.ref h0, .int p1, .int p2]) ++ List.replicate (5 - (lg_sl ([.ref h0, .int p1, .int p2])).length) Slot.unset).toArray = ls at hl ⊢
  have hl : lv_has ls 5 [(0, .ref h0), (1, .int p1), (2, .int p2)] := hl
  have hm := hm0
  unfold fX9_bidsFor at hm
  have hL0 : ∀ (Q : State → Prop), ∀ (n : Nat) (i0_3 : Int32) (i0_4 : Int32) (out : Int32) (ls : Array Slot), fX9_bidsFor_L0 x p1 p2 n i0_3 i0_4 = some out → lv_has ls 5 [(0, .ref h0), (1, .int p1), (2, .int p2), (3, .int i0_3), (4, .int i0_4)] → (∀ ls : Array Slot, lv_has ls 5 [(3, .int out)] → W p l e (headSpec (wg yX9_bidsFor cX9_bidsFor 5 (some .int)) rm_X9_bidsFor).room s m (([.ref h0, .int p1, .int p2] : List Value).toArray) below meth c s.heap [] 0 0 Q (F0 m 47 ls [])) → W p l e (headSpec (wg yX9_bidsFor cX9_bidsFor 5 (some .int)) rm_X9_bidsFor).room s m (([.ref h0, .int p1, .int p2] : List Value).toArray) below meth c s.heap [] 0 0 Q (F0 m 5 ls []) := by
    intro Q n
    induction n with
    | zero =>
      intro i0_3 i0_4 out ls hm hl hk
      simp [fX9_bidsFor_L0] at hm
    | succ n ih =>
      intro i0_3 i0_4 out ls hm hl hk
      rw [fX9_bidsFor_L0] at hm
      refine lv_iload hx hb dX9_bidsFor_5 (lv_at hl 4 rfl) ?_
      refine lv_bipush (v := 6) hx hb dX9_bidsFor_7 (by decide +kernel) ?_
      refine lv_icmp_ge (tgt := 47) hx hb dX9_bidsFor_9 (by decide) (fun zc1 => ?_) (fun zc1 => ?_)
      · replace hm := (if_pos zc1).symm.trans hm
        obtain rfl := Option.some.inj hm
        exact hk ls (lv_sub hl [3] rfl)
      · replace hm := (if_neg zc1).symm.trans hm
        refine lv_iload_n hx hb dX9_bidsFor_12 rfl (lv_at hl 3 rfl) ?_
        refine lv_aload_n hx hb dX9_bidsFor_13 rfl (lv_at hl 0 rfl) ?_
        refine va_get (D := g.1) (ci := 8) (v := .ref h1) (C := RX9) (T := TX9) (N := 11) hx hb htG in_wsX90 hown hK.1 hP 0 rfl rfl 0 (by decide) (htG _ g3_195) (fun _ h9 => h9) rfl dX9_bidsFor_14 ?_
        refine lv_iload_n hx hb dX9_bidsFor_17 rfl (lv_at hl 1 rfl) ?_
        refine lv_sipush (v := 531) hx hb dX9_bidsFor_18 (by decide +kernel) ?_
        refine lv_iadd hx hb dX9_bidsFor_21 ?_
        refine lv_bipush (v := 6) hx hb dX9_bidsFor_22 (by decide +kernel) ?_
        refine lv_iload_n hx hb dX9_bidsFor_24 rfl (lv_at hl 2 rfl) ?_
        refine lv_imul hx hb dX9_bidsFor_25 ?_
        refine lv_iadd hx hb dX9_bidsFor_26 ?_
        refine lv_iload hx hb dX9_bidsFor_27 (lv_at hl 4 rfl) ?_
        refine lv_iadd hx hb dX9_bidsFor_29 ?_
        obtain ⟨zb2, hm⟩ := ibk hm
        refine va_iald hx hb hK.1 hP 1 0 rfl rfl zb2 dX9_bidsFor_30 ?_
        refine lv_if_le (tgt := 38) hx hb dX9_bidsFor_31 (by decide) (fun zc3 => ?_) (fun zc3 => ?_)
        · replace hm := (if_pos zc3).symm.trans hm
          refine lv_iconst (v := 0) hx hb dX9_bidsFor_38 (by decide) ?_
          refine lv_iadd hx hb dX9_bidsFor_39 ?_
          refine lv_istore_n (lv' := [(3, .int (i0_3 + 0)), (0, .ref h0), (1, .int p1), (2, .int p2), (4, .int i0_4)]) hx hb dX9_bidsFor_40 rfl hl (by decide) rfl (fun ls hl => ?_)
          refine lv_iinc (v := i0_4 + 1) (lv' := [(4, .int (i0_4 + 1)), (3, .int (i0_3 + 0)), (0, .ref h0), (1, .int p1), (2, .int p2)]) hx hb dX9_bidsFor_41 hl (k := 4) rfl rfl (by decide) rfl (fun ls hl => ?_)
          refine lv_goto (tgt := 5) hx hb dX9_bidsFor_44 (by decide) ?_
          exact ih (i0_3 + 0) (i0_4 + 1) out ls hm (lv_sub hl [2, 3, 4, 1, 0] rfl) hk
        · replace hm := (if_neg zc3).symm.trans hm
          refine lv_iconst (v := 1) hx hb dX9_bidsFor_34 (by decide) ?_
          refine lv_goto (tgt := 39) hx hb dX9_bidsFor_35 (by decide) ?_
          refine lv_iadd hx hb dX9_bidsFor_39 ?_
          refine lv_istore_n (lv' := [(3, .int (i0_3 + 1)), (0, .ref h0), (1, .int p1), (2, .int p2), (4, .int i0_4)]) hx hb dX9_bidsFor_40 rfl hl (by decide) rfl (fun ls hl => ?_)
          refine lv_iinc (v := i0_4 + 1) (lv' := [(4, .int (i0_4 + 1)), (3, .int (i0_3 + 1)), (0, .ref h0), (1, .int p1), (2, .int p2)]) hx hb dX9_bidsFor_41 hl (k := 4) rfl rfl (by decide) rfl (fun ls hl => ?_)
          refine lv_goto (tgt := 5) hx hb dX9_bidsFor_44 (by decide) ?_
          exact ih (i0_3 + 1) (i0_4 + 1) out ls hm (lv_sub hl [2, 3, 4, 1, 0] rfl) hk
  refine lv_iconst (v := 0) hx hb dX9_bidsFor_0 (by decide) ?_
  refine lv_istore_n (lv' := [(3, .int 0), (0, .ref h0), (1, .int p1), (2, .int p2)]) hx hb dX9_bidsFor_1 rfl hl (by decide) rfl (fun ls hl => ?_)
  refine lv_iconst (v := 0) hx hb dX9_bidsFor_2 (by decide) ?_
  refine lv_istore (lv' := [(4, .int 0), (3, .int 0), (0, .ref h0), (1, .int p1), (2, .int p2)]) hx hb dX9_bidsFor_3 hl (by decide) rfl (fun ls hl => ?_)
  obtain ⟨zq4, hzq4, hm⟩ := bdk hm
  refine hL0 _ 1000 0 0 zq4 _ hzq4 (lv_sub hl [2, 3, 4, 1, 0] rfl) (fun ls hl => ?_)
  refine lv_iload_n hx hb dX9_bidsFor_47 rfl (lv_at hl 0 rfl) ?_
  exact W.iret (v := zq4) hx hb hr (fun t ht hW => ⟨_, rfl, (Option.some.inj hm), ht⟩) (fun _ h => nomatch h) dX9_bidsFor_48
def fX9_bids_L0 (x : MD) (p1 : Int32) : Nat → Int32 → Int32 → Option (Int32)
  | 0, _, _ => none
  | n + 1, i0_2, i0_3 => (if 48 ≤ i0_3 then (some i0_2) else ((fX9_bidsFor x p1 i0_3).bind (fun zq2 => (fX9_bids_L0 x p1 n (i0_2 + zq2) (i0_3 + 1)))))
def fX9_bids (x : MD) (p1 : Int32) : Option (Int32) := ((fX9_bids_L0 x p1 1000 0 0).bind (fun zq3 => some zq3))
abbrev rm_X9_bids : Jvm.Room := { frames := 1, cells := 0, slots := 0, locals := 24 }
theorem hd_X9_bids : yX9_bids.cls = RX9 ∧ yX9_bids.cls ≠ "java/lang/invoke/MethodHandle" ∧ yX9_bids.cls ≠ "java/lang/invoke/VarHandle" ∧ (parseMethodDescriptor yX9_bids.desc).map (fun d => d.parameters.length) = some 1 := by decide +kernel
set_option maxHeartbeats 4000000 in
set_option maxRecDepth 100000 in
theorem kX9_bids (l : Launch) (g : CX) (h0 h1 h2 h3 : Nat) (x : MD) (p1 : Int32) (res : Int32) (hm0 : fX9_bids x p1 = some res) : Met l yX9_bids (wg yX9_bids cX9_bids 4 (some .int)) rm_X9_bids (PR g [.ref h0, .int p1] (w_X9 g h0 h1 h2 h3 x)) (vp_Si (fun v => v = res)) 0 0 (fun _ => False) := by
  refine Met.ofW (cc := cX9_bids) (maxL := 4) (ret := (some .int)) (by decide) rfl ?_
  intro p e s m args below meth c s₁ B hml hv
  obtain ⟨rfl, hP, hK, hL⟩ := hv
  have hx := B.exec
  have hb := B.bytes
  have hr := B.returns
  have htG := wg_G (atoms_spec (ws := wg yX9_bids cX9_bids 4 (some .int)) B.pre)
  have hown : s.vm.findClass RX9 = some m.cls := findClass_of_methodNamed B.named
  have hlocks := B.notSynchronized
  have hS : va_S (fun _ => False) s.heap s.heap [] := va_S.rf
  have hl := lv_entry ([.ref h0, .int p1]) (n := 4) (Nat.le_of_ble_eq_true rfl)
  rw [lg_entry_eq]
  generalize (lg_sl ([.ref h0, .int p1]) ++ List.replicate (4 - (lg_sl ([.ref h0, .int p1])).length) Slot.unset).toArray = ls at hl ⊢
  have hl : lv_has ls 4 [(0, .ref h0), (1, .int p1)] := hl
  have hm := hm0
  unfold fX9_bids at hm
  have hL0 : ∀ (Q : State → Prop), ∀ (n : Nat) (i0_2 : Int32) (i0_3 : Int32) (out : Int32) (ls : Array Slot), fX9_bids_L0 x p1 n i0_2 i0_3 = some out → lv_has ls 4 [(0, .ref h0), (1, .int p1), (2, .int i0_2), (3, .int i0_3)] → (∀ ls : Array Slot, lv_has ls 4 [(2, .int out)] → W p l e (headSpec (wg yX9_bids cX9_bids 4 (some .int)) rm_X9_bids).room s m (([.ref h0, .int p1] : List Value).toArray) below meth c s.heap [] 0 0 Q (F0 m 25 ls [])) → W p l e (headSpec (wg yX9_bids cX9_bids 4 (some .int)) rm_X9_bids).room s m (([.ref h0, .int p1] : List Value).toArray) below meth c s.heap [] 0 0 Q (F0 m 4 ls []) := by
    intro Q n
    induction n with
    | zero =>
      intro i0_2 i0_3 out ls hm hl hk
      simp [fX9_bids_L0] at hm
    | succ n ih =>
      intro i0_2 i0_3 out ls hm hl hk
      rw [fX9_bids_L0] at hm
      refine lv_iload_n hx hb dX9_bids_4 rfl (lv_at hl 3 rfl) ?_
      refine lv_bipush (v := 48) hx hb dX9_bids_5 (by decide +kernel) ?_
      refine lv_icmp_ge (tgt := 25) hx hb dX9_bids_7 (by decide) (fun zc1 => ?_) (fun zc1 => ?_)
      · replace hm := (if_pos zc1).symm.trans hm
        obtain rfl := Option.some.inj hm
        exact hk ls (lv_sub hl [2] rfl)
      · replace hm := (if_neg zc1).symm.trans hm
        refine lv_iload_n hx hb dX9_bids_10 rfl (lv_at hl 2 rfl) ?_
        refine lv_aload_n hx hb dX9_bids_11 rfl (lv_at hl 0 rfl) ?_
        refine lv_iload_n hx hb dX9_bids_12 rfl (lv_at hl 1 rfl) ?_
        refine lv_iload_n hx hb dX9_bids_13 rfl (lv_at hl 3 rfl) ?_
        obtain ⟨zq2, hzq2, hm⟩ := bdk hm
        refine ko_e (va_runV (As := [.int p1, .int i0_3]) (rest := [.int i0_2]) ⟨hx, hb, hml, hown, htG⟩ (kX9_bidsFor l g h0 h1 h2 h3 x p1 i0_3 _ hzq2) (cwV 2 htG (GV g4_46 g4_48 gS_19 g1_10 g4_49) rfl rfl rfl hd_X9_bidsFor ⟨Nat.le_of_ble_eq_true rfl, Nat.le_of_ble_eq_true rfl⟩) (PR_VA hK hL hS hP (ci := 8) rfl 0 rfl) rfl rfl hl.1 rfl (lv_room (Nat.le_of_ble_eq_true rfl)) dX9_bids_14 ⟨Nat.zero_le _, Nat.zero_le _⟩) ?_
        refine lv_iadd hx hb dX9_bids_17 ?_
        refine lv_istore_n (lv' := [(2, .int (i0_2 + zq2)), (0, .ref h0), (1, .int p1), (3, .int i0_3)]) hx hb dX9_bids_18 rfl hl (by decide) rfl (fun ls hl => ?_)
        refine lv_iinc (v := i0_3 + 1) (lv' := [(3, .int (i0_3 + 1)), (2, .int (i0_2 + zq2)), (0, .ref h0), (1, .int p1)]) hx hb dX9_bids_19 hl (k := 3) rfl rfl (by decide) rfl (fun ls hl => ?_)
        refine lv_goto (tgt := 4) hx hb dX9_bids_22 (by decide) ?_
        exact ih (i0_2 + zq2) (i0_3 + 1) out ls hm (lv_sub hl [2, 3, 1, 0] rfl) hk
  refine lv_iconst (v := 0) hx hb dX9_bids_0 (by decide) ?_
  refine lv_istore_n (lv' := [(2, .int 0), (0, .ref h0), (1, .int p1)]) hx hb dX9_bids_1 rfl hl (by decide) rfl (fun ls hl => ?_)
  refine lv_iconst (v := 0) hx hb dX9_bids_2 (by decide) ?_
  refine lv_istore_n (lv' := [(3, .int 0), (2, .int 0), (0, .ref h0), (1, .int p1)]) hx hb dX9_bids_3 rfl hl (by decide) rfl (fun ls hl => ?_)
  obtain ⟨zq3, hzq3, hm⟩ := bdk hm
  refine hL0 _ 1000 0 0 zq3 _ hzq3 (lv_sub hl [2, 3, 1, 0] rfl) (fun ls hl => ?_)
  refine lv_iload_n hx hb dX9_bids_25 rfl (lv_at hl 0 rfl) ?_
  exact W.iret (v := zq3) hx hb hr (fun t ht hW => ⟨_, rfl, (Option.some.inj hm), ht⟩) (fun _ h => nomatch h) dX9_bids_26
def fX9_borne (x : MD) (p1 : Int32) (p2 : Int32) (p3 : Int32) : Option (Int32) := (if ib (((p1 + 243) + (6 * p2)) + p3) 5845 = true then (if ib ((p1 + 35) + (p2 - p2 / 16 * 16)) 5845 = true then (bnd (fX9_bears (x.1 ((((p1 + 243) + (6 * p2)) + p3).toNatClampNeg)) (x.1 (((p1 + 35) + (p2 - p2 / 16 * 16)).toNatClampNeg))) (fun zv3 => (if zv3 = 0 then some 0 else (if ib (((p1 + 531) + (6 * p2)) + p3) 5845 = true then some (x.1 ((((p1 + 531) + (6 * p2)) + p3).toNatClampNeg)) else none)))) else none) else none)
abbrev rm_X9_borne : Jvm.Room := { frames := 1, cells := 0, slots := 0, locals := 21 }
theorem hd_X9_borne : yX9_borne.cls = RX9 ∧ yX9_borne.cls ≠ "java/lang/invoke/MethodHandle" ∧ yX9_borne.cls ≠ "java/lang/invoke/VarHandle" ∧ (parseMethodDescriptor yX9_borne.desc).map (fun d => d.parameters.length) = some 3 := by decide +kernel
set_option maxHeartbeats 4000000 in
set_option maxRecDepth 100000 in
theorem kX9_borne (l : Launch) (g : CX) (h0 h1 h2 h3 : Nat) (x : MD) (p1 : Int32) (p2 : Int32) (p3 : Int32) (res : Int32) (hm0 : fX9_borne x p1 p2 p3 = some res) : Met l yX9_borne (wg yX9_borne cX9_borne 5 (some .int)) rm_X9_borne (PR g [.ref h0, .int p1, .int p2, .int p3] (w_X9 g h0 h1 h2 h3 x)) (vp_Si (fun v => v = res)) 0 0 (fun _ => False) := by
  refine Met.ofW (cc := cX9_borne) (maxL := 5) (ret := (some .int)) (by decide) rfl ?_
  intro p e s m args below meth c s₁ B hml hv
  obtain ⟨rfl, hP, hK, hL⟩ := hv
  have hx := B.exec
  have hb := B.bytes
  have hr := B.returns
  have htG := wg_G (atoms_spec (ws := wg yX9_borne cX9_borne 5 (some .int)) B.pre)
  have hown : s.vm.findClass RX9 = some m.cls := findClass_of_methodNamed B.named
  have hlocks := B.notSynchronized
  have hS : va_S (fun _ => False) s.heap s.heap [] := va_S.rf
  have hl := lv_entry ([.ref h0, .int p1, .int p2, .int p3]) (n := 5) (Nat.le_of_ble_eq_true rfl)
  rw [lg_entry_eq]
  generalize (lg_sl ([.ref h0, .int p1, .int p2, .int p3]) ++ List.replicate (5 - (lg_sl ([.ref h0, .int p1, .int p2, .int p3])).length) Slot.unset).toArray = ls at hl ⊢
  have hl : lv_has ls 5 [(0, .ref h0), (1, .int p1), (2, .int p2), (3, .int p3)] := hl
  have hm := hm0
  unfold fX9_borne at hm
  refine lv_aload_n hx hb dX9_borne_0 rfl (lv_at hl 0 rfl) ?_
  refine va_get (D := g.1) (ci := 8) (v := .ref h1) (C := RX9) (T := TX9) (N := 11) hx hb htG in_wsX90 hown hK.1 hP 0 rfl rfl 0 (by decide) (htG _ g3_195) (fun _ h9 => h9) rfl dX9_borne_1 ?_
  refine lv_iload_n hx hb dX9_borne_4 rfl (lv_at hl 1 rfl) ?_
  refine lv_sipush (v := 243) hx hb dX9_borne_5 (by decide +kernel) ?_
  refine lv_iadd hx hb dX9_borne_8 ?_
  refine lv_bipush (v := 6) hx hb dX9_borne_9 (by decide +kernel) ?_
  refine lv_iload_n hx hb dX9_borne_11 rfl (lv_at hl 2 rfl) ?_
  refine lv_imul hx hb dX9_borne_12 ?_
  refine lv_iadd hx hb dX9_borne_13 ?_
  refine lv_iload_n hx hb dX9_borne_14 rfl (lv_at hl 3 rfl) ?_
  refine lv_iadd hx hb dX9_borne_15 ?_
  obtain ⟨zb1, hm⟩ := ibk hm
  refine va_iald hx hb hK.1 hP 1 0 rfl rfl zb1 dX9_borne_16 ?_
  refine lv_aload_n hx hb dX9_borne_17 rfl (lv_at hl 0 rfl) ?_
  refine va_get (D := g.1) (ci := 8) (v := .ref h1) (C := RX9) (T := TX9) (N := 11) hx hb htG in_wsX90 hown hK.1 hP 0 rfl rfl 0 (by decide) (htG _ g3_195) (fun _ h9 => h9) rfl dX9_borne_18 ?_
  refine lv_iload_n hx hb dX9_borne_21 rfl (lv_at hl 1 rfl) ?_
  refine lv_bipush (v := 35) hx hb dX9_borne_22 (by decide +kernel) ?_
  refine lv_iadd hx hb dX9_borne_24 ?_
  refine lv_iload_n hx hb dX9_borne_25 rfl (lv_at hl 2 rfl) ?_
  refine lv_bipush (v := 16) hx hb dX9_borne_26 (by decide +kernel) ?_
  refine lv_irem hx hb dX9_borne_28 (by decide) ?_
  refine lv_iadd hx hb dX9_borne_29 ?_
  obtain ⟨zb2, hm⟩ := ibk hm
  refine va_iald hx hb hK.1 hP 1 0 rfl rfl zb2 dX9_borne_30 ?_
  refine ko_e (va_runS (As := [.int (x.1 ((((p1 + 243) + (6 * p2)) + p3).toNatClampNeg)), .int (x.1 (((p1 + 35) + (p2 - p2 / 16 * 16)).toNatClampNeg))]) (rest := []) ⟨hx, hb, hml, hown, htG⟩ (kX9_bears l g (x.1 ((((p1 + 243) + (6 * p2)) + p3).toNatClampNeg)) (x.1 (((p1 + 35) + (p2 - p2 / 16 * 16)).toNatClampNeg)) _ rfl) (va_cwS 2 htG (GS g4_69 g4_70 g1_10 g4_71) rfl rfl rfl hs_X9_bears ⟨Nat.le_of_ble_eq_true rfl, Nat.le_of_ble_eq_true rfl⟩) (PR_S hK hL hS hP [] rfl) rfl rfl hl.1 rfl (lv_room (Nat.le_of_ble_eq_true rfl)) dX9_borne_31 ⟨Nat.zero_le _, Nat.zero_le _⟩) ?_
  obtain ⟨zv3, ezv3, hm⟩ := bnk hm
  refine tope ezv3 ?_
  refine lv_istore (lv' := [(4, .int zv3), (0, .ref h0), (1, .int p1), (2, .int p2), (3, .int p3)]) hx hb dX9_borne_34 hl (by decide) rfl (fun ls hl => ?_)
  refine lv_iload hx hb dX9_borne_36 (lv_at hl 0 rfl) ?_
  refine lv_if_eq (tgt := 61) hx hb dX9_borne_38 (by decide) (fun zc4 => ?_) (fun zc4 => ?_)
  · replace hm := (if_pos zc4).symm.trans hm
    refine lv_iconst (v := 0) hx hb dX9_borne_61 (by decide) ?_
    exact W.iret (v := 0) hx hb hr (fun t ht hW => ⟨_, rfl, (Option.some.inj hm), ht⟩) (fun _ h => nomatch h) dX9_borne_62
  · replace hm := (if_neg zc4).symm.trans hm
    refine lv_aload_n hx hb dX9_borne_41 rfl (lv_at hl 1 rfl) ?_
    refine va_get (D := g.1) (ci := 8) (v := .ref h1) (C := RX9) (T := TX9) (N := 11) hx hb htG in_wsX90 hown hK.1 hP 0 rfl rfl 0 (by decide) (htG _ g3_195) (fun _ h9 => h9) rfl dX9_borne_42 ?_
    refine lv_iload_n hx hb dX9_borne_45 rfl (lv_at hl 2 rfl) ?_
    refine lv_sipush (v := 531) hx hb dX9_borne_46 (by decide +kernel) ?_
    refine lv_iadd hx hb dX9_borne_49 ?_
    refine lv_bipush (v := 6) hx hb dX9_borne_50 (by decide +kernel) ?_
    refine lv_iload_n hx hb dX9_borne_52 rfl (lv_at hl 3 rfl) ?_
    refine lv_imul hx hb dX9_borne_53 ?_
    refine lv_iadd hx hb dX9_borne_54 ?_
    refine lv_iload_n hx hb dX9_borne_55 rfl (lv_at hl 4 rfl) ?_
    refine lv_iadd hx hb dX9_borne_56 ?_
    obtain ⟨zb5, hm⟩ := ibk hm
    refine va_iald hx hb hK.1 hP 1 0 rfl rfl zb5 dX9_borne_57 ?_
    refine lv_goto (tgt := 62) hx hb dX9_borne_58 (by decide) ?_
    exact W.iret (v := (x.1 ((((p1 + 531) + (6 * p2)) + p3).toNatClampNeg))) hx hb hr (fun t ht hW => ⟨_, rfl, (Option.some.inj hm), ht⟩) (fun _ h => nomatch h) dX9_borne_62
def fX9_best_L0 (x : MD) (p1 : Int32) (p2 : Int32) (p3 : Int32) : Nat → Int32 → Int32 → Option (Int32)
  | 0, _, _ => none
  | n + 1, i0_4, i0_5 => (if 6 ≤ i0_5 then (some i0_4) else (if i0_5 = p3 then (fX9_best_L0 x p1 p2 p3 n i0_4 (i0_5 + 1)) else ((fX9_borne x p1 p2 i0_5).bind (fun zq3 => (if 0 ≤ i0_4 then ((fX9_borne x p1 p2 i0_4).bind (fun zq5 => (if zq3 ≤ zq5 then (fX9_best_L0 x p1 p2 p3 n i0_4 (i0_5 + 1)) else (fX9_best_L0 x p1 p2 p3 n i0_5 (i0_5 + 1))))) else (if zq3 ≤ 0 then (fX9_best_L0 x p1 p2 p3 n i0_4 (i0_5 + 1)) else (fX9_best_L0 x p1 p2 p3 n i0_5 (i0_5 + 1))))))))
def fX9_best (x : MD) (p1 : Int32) (p2 : Int32) (p3 : Int32) : Option (Int32) := ((fX9_best_L0 x p1 p2 p3 1000 (-1) 0).bind (fun zq8 => some zq8))
abbrev rm_X9_best : Jvm.Room := { frames := 2, cells := 0, slots := 0, locals := 45 }
theorem hd_X9_best : yX9_best.cls = RX9 ∧ yX9_best.cls ≠ "java/lang/invoke/MethodHandle" ∧ yX9_best.cls ≠ "java/lang/invoke/VarHandle" ∧ (parseMethodDescriptor yX9_best.desc).map (fun d => d.parameters.length) = some 3 := by decide +kernel
set_option maxHeartbeats 4000000 in
set_option maxRecDepth 100000 in
theorem kX9_best (l : Launch) (g : CX) (h0 h1 h2 h3 : Nat) (x : MD) (p1 : Int32) (p2 : Int32) (p3 : Int32) (res : Int32) (hm0 : fX9_best x p1 p2 p3 = some res) : Met l yX9_best (wg yX9_best cX9_best 6 (some .int)) rm_X9_best (PR g [.ref h0, .int p1, .int p2, .int p3] (w_X9 g h0 h1 h2 h3 x)) (vp_Si (fun v => v = res)) 0 0 (fun _ => False) := by
  refine Met.ofW (cc := cX9_best) (maxL := 6) (ret := (some .int)) (by decide) rfl ?_
  intro p e s m args below meth c s₁ B hml hv
  obtain ⟨rfl, hP, hK, hL⟩ := hv
  have hx := B.exec
  have hb := B.bytes
  have hr := B.returns
  have htG := wg_G (atoms_spec (ws := wg yX9_best cX9_best 6 (some .int)) B.pre)
  have hown : s.vm.findClass RX9 = some m.cls := findClass_of_methodNamed B.named
  have hlocks := B.notSynchronized
  have hS : va_S (fun _ => False) s.heap s.heap [] := va_S.rf
  have hl := lv_entry ([.ref h0, .int p1, .int p2, .int p3]) (n := 6) (Nat.le_of_ble_eq_true rfl)
  rw [lg_entry_eq]
  generalize (lg_sl ([.ref h0, .int p1, .int p2, .int p3]) ++ List.replicate (6 - (lg_sl ([.ref h0, .int p1, .int p2, .int p3])).length) Slot.unset).toArray = ls at hl ⊢
  have hl : lv_has ls 6 [(0, .ref h0), (1, .int p1), (2, .int p2), (3, .int p3)] := hl
  have hm := hm0
  unfold fX9_best at hm
  have hL0 : ∀ (Q : State → Prop), ∀ (n : Nat) (i0_4 : Int32) (i0_5 : Int32) (out : Int32) (ls : Array Slot), fX9_best_L0 x p1 p2 p3 n i0_4 i0_5 = some out → lv_has ls 6 [(0, .ref h0), (1, .int p1), (2, .int p2), (3, .int p3), (4, .int i0_4), (5, .int i0_5)] → (∀ ls : Array Slot, lv_has ls 6 [(4, .int out)] → W p l e (headSpec (wg yX9_best cX9_best 6 (some .int)) rm_X9_best).room s m (([.ref h0, .int p1, .int p2, .int p3] : List Value).toArray) below meth c s.heap [] 0 0 Q (F0 m 57 ls [])) → W p l e (headSpec (wg yX9_best cX9_best 6 (some .int)) rm_X9_best).room s m (([.ref h0, .int p1, .int p2, .int p3] : List Value).toArray) below meth c s.heap [] 0 0 Q (F0 m 6 ls []) := by
    intro Q n
    induction n with
    | zero =>
      intro i0_4 i0_5 out ls hm hl hk
      simp [fX9_best_L0] at hm
    | succ n ih =>
      intro i0_4 i0_5 out ls hm hl hk
      rw [fX9_best_L0] at hm
      refine lv_iload hx hb dX9_best_6 (lv_at hl 5 rfl) ?_
      refine lv_bipush (v := 6) hx hb dX9_best_8 (by decide +kernel) ?_
      refine lv_icmp_ge (tgt := 57) hx hb dX9_best_10 (by decide) (fun zc1 => ?_) (fun zc1 => ?_)
      · replace hm := (if_pos zc1).symm.trans hm
        obtain rfl := Option.some.inj hm
        exact hk ls (lv_sub hl [4] rfl)
      · replace hm := (if_neg zc1).symm.trans hm
        refine lv_iload hx hb dX9_best_13 (lv_at hl 5 rfl) ?_
        refine lv_iload_n hx hb dX9_best_15 rfl (lv_at hl 3 rfl) ?_
        refine lv_icmp_eq (tgt := 51) hx hb dX9_best_16 (by decide) (fun zc2 => ?_) (fun zc2 => ?_)
        · replace hm := (if_pos zc2).symm.trans hm
          refine lv_iinc (v := i0_5 + 1) (lv' := [(5, .int (i0_5 + 1)), (0, .ref h0), (1, .int p1), (2, .int p2), (3, .int p3), (4, .int i0_4)]) hx hb dX9_best_51 hl (k := 5) rfl rfl (by decide) rfl (fun ls hl => ?_)
          refine lv_goto (tgt := 6) hx hb dX9_best_54 (by decide) ?_
          exact ih i0_4 (i0_5 + 1) out ls hm (lv_sub hl [1, 2, 3, 4, 5, 0] rfl) hk
        · replace hm := (if_neg zc2).symm.trans hm
          refine lv_aload_n hx hb dX9_best_19 rfl (lv_at hl 0 rfl) ?_
          refine lv_iload_n hx hb dX9_best_20 rfl (lv_at hl 1 rfl) ?_
          refine lv_iload_n hx hb dX9_best_21 rfl (lv_at hl 2 rfl) ?_
          refine lv_iload hx hb dX9_best_22 (lv_at hl 5 rfl) ?_
          obtain ⟨zq3, hzq3, hm⟩ := bdk hm
          refine ko_e (va_runV (As := [.int p1, .int p2, .int i0_5]) (rest := []) ⟨hx, hb, hml, hown, htG⟩ (kX9_borne l g h0 h1 h2 h3 x p1 p2 i0_5 _ hzq3) (cwV 3 htG (GV g4_65 g4_67 gS_21 g1_10 g4_68) rfl rfl rfl hd_X9_borne ⟨Nat.le_of_ble_eq_true rfl, Nat.le_of_ble_eq_true rfl⟩) (PR_VA hK hL hS hP (ci := 8) rfl 0 rfl) rfl rfl hl.1 rfl (lv_room (Nat.le_of_ble_eq_true rfl)) dX9_best_24 ⟨Nat.zero_le _, Nat.zero_le _⟩) ?_
          refine lv_iload hx hb dX9_best_27 (lv_at hl 4 rfl) ?_
          refine lv_if_ge (tgt := 36) hx hb dX9_best_29 (by decide) (fun zc4 => ?_) (fun zc4 => ?_)
          · replace hm := (if_pos zc4).symm.trans hm
            refine lv_aload_n hx hb dX9_best_36 rfl (lv_at hl 0 rfl) ?_
            refine lv_iload_n hx hb dX9_best_37 rfl (lv_at hl 1 rfl) ?_
            refine lv_iload_n hx hb dX9_best_38 rfl (lv_at hl 2 rfl) ?_
            refine lv_iload hx hb dX9_best_39 (lv_at hl 4 rfl) ?_
            obtain ⟨zq5, hzq5, hm⟩ := bdk hm
            refine ko_e (va_runV (As := [.int p1, .int p2, .int i0_4]) (rest := [.int zq3]) ⟨hx, hb, hml, hown, htG⟩ (kX9_borne l g h0 h1 h2 h3 x p1 p2 i0_4 _ hzq5) (cwV 3 htG (GV g4_65 g4_67 gS_21 g1_10 g4_68) rfl rfl rfl hd_X9_borne ⟨Nat.le_of_ble_eq_true rfl, Nat.le_of_ble_eq_true rfl⟩) (PR_VA hK hL hS hP (ci := 8) rfl 0 rfl) rfl rfl hl.1 rfl (lv_room (Nat.le_of_ble_eq_true rfl)) dX9_best_41 ⟨Nat.zero_le _, Nat.zero_le _⟩) ?_
            refine lv_icmp_le (tgt := 51) hx hb dX9_best_44 (by decide) (fun zc6 => ?_) (fun zc6 => ?_)
            · replace hm := (if_pos zc6).symm.trans hm
              refine lv_iinc (v := i0_5 + 1) (lv' := [(5, .int (i0_5 + 1)), (0, .ref h0), (1, .int p1), (2, .int p2), (3, .int p3), (4, .int i0_4)]) hx hb dX9_best_51 hl (k := 5) rfl rfl (by decide) rfl (fun ls hl => ?_)
              refine lv_goto (tgt := 6) hx hb dX9_best_54 (by decide) ?_
              exact ih i0_4 (i0_5 + 1) out ls hm (lv_sub hl [1, 2, 3, 4, 5, 0] rfl) hk
            · replace hm := (if_neg zc6).symm.trans hm
              refine lv_iload hx hb dX9_best_47 (lv_at hl 5 rfl) ?_
              refine lv_istore (lv' := [(4, .int i0_5), (0, .ref h0), (1, .int p1), (2, .int p2), (3, .int p3), (5, .int i0_5)]) hx hb dX9_best_49 hl (by decide) rfl (fun ls hl => ?_)
              refine lv_iinc (v := i0_5 + 1) (lv' := [(5, .int (i0_5 + 1)), (4, .int i0_5), (0, .ref h0), (1, .int p1), (2, .int p2), (3, .int p3)]) hx hb dX9_best_51 hl (k := 5) rfl rfl (by decide) rfl (fun ls hl => ?_)
              refine lv_goto (tgt := 6) hx hb dX9_best_54 (by decide) ?_
              exact ih i0_5 (i0_5 + 1) out ls hm (lv_sub hl [2, 3, 4, 5, 1, 0] rfl) hk
          · replace hm := (if_neg zc4).symm.trans hm
            refine lv_iconst (v := 0) hx hb dX9_best_32 (by decide) ?_
            refine lv_goto (tgt := 44) hx hb dX9_best_33 (by decide) ?_
            refine lv_icmp_le (tgt := 51) hx hb dX9_best_44 (by decide) (fun zc7 => ?_) (fun zc7 => ?_)
            · replace hm := (if_pos zc7).symm.trans hm
              refine lv_iinc (v := i0_5 + 1) (lv' := [(5, .int (i0_5 + 1)), (0, .ref h0), (1, .int p1), (2, .int p2), (3, .int p3), (4, .int i0_4)]) hx hb dX9_best_51 hl (k := 5) rfl rfl (by decide) rfl (fun ls hl => ?_)
              refine lv_goto (tgt := 6) hx hb dX9_best_54 (by decide) ?_
              exact ih i0_4 (i0_5 + 1) out ls hm (lv_sub hl [1, 2, 3, 4, 5, 0] rfl) hk
            · replace hm := (if_neg zc7).symm.trans hm
              refine lv_iload hx hb dX9_best_47 (lv_at hl 5 rfl) ?_
              refine lv_istore (lv' := [(4, .int i0_5), (0, .ref h0), (1, .int p1), (2, .int p2), (3, .int p3), (5, .int i0_5)]) hx hb dX9_best_49 hl (by decide) rfl (fun ls hl => ?_)
              refine lv_iinc (v := i0_5 + 1) (lv' := [(5, .int (i0_5 + 1)), (4, .int i0_5), (0, .ref h0), (1, .int p1), (2, .int p2), (3, .int p3)]) hx hb dX9_best_51 hl (k := 5) rfl rfl (by decide) rfl (fun ls hl => ?_)
              refine lv_goto (tgt := 6) hx hb dX9_best_54 (by decide) ?_
              exact ih i0_5 (i0_5 + 1) out ls hm (lv_sub hl [2, 3, 4, 5, 1, 0] rfl) hk
  refine lv_iconst (v := (-1)) hx hb dX9_best_0 (by decide) ?_
  refine lv_istore (lv' := [(4, .int (-1)), (0, .ref h0), (1, .int p1), (2, .int p2), (3, .int p3)]) hx hb dX9_best_1 hl (by decide) rfl (fun ls hl => ?_)
  refine lv_iconst (v := 0) hx hb dX9_best_3 (by decide) ?_
  refine lv_istore (lv' := [(5, .int 0), (4, .int (-1)), (0, .ref h0), (1, .int p1), (2, .int p2), (3, .int p3)]) hx hb dX9_best_4 hl (by decide) rfl (fun ls hl => ?_)
  obtain ⟨zq8, hzq8, hm⟩ := bdk hm
  refine hL0 _ 1000 (-1) 0 zq8 _ hzq8 (lv_sub hl [2, 3, 4, 5, 1, 0] rfl) (fun ls hl => ?_)
  refine lv_iload hx hb dX9_best_57 (lv_at hl 0 rfl) ?_
  exact W.iret (v := zq8) hx hb hr (fun t ht hW => ⟨_, rfl, (Option.some.inj hm), ht⟩) (fun _ h => nomatch h) dX9_best_59
def fX9_isDone (x : MD) (p1 : Int32) (p2 : Int32) : Option (Int32) := (if ib (p1 + 1) 5845 = true then (if (x.1 ((p1 + 1).toNatClampNeg)) ≤ p2 then some 0 else some 1) else none)
abbrev rm_X9_isDone : Jvm.Room := { frames := 0, cells := 0, slots := 0, locals := 0 }
theorem hd_X9_isDone : yX9_isDone.cls = RX9 ∧ yX9_isDone.cls ≠ "java/lang/invoke/MethodHandle" ∧ yX9_isDone.cls ≠ "java/lang/invoke/VarHandle" ∧ (parseMethodDescriptor yX9_isDone.desc).map (fun d => d.parameters.length) = some 2 := by decide +kernel
set_option maxHeartbeats 4000000 in
set_option maxRecDepth 100000 in
theorem kX9_isDone (l : Launch) (g : CX) (h0 h1 h2 h3 : Nat) (x : MD) (p1 : Int32) (p2 : Int32) (res : Int32) (hm0 : fX9_isDone x p1 p2 = some res) : Met l yX9_isDone (wg yX9_isDone cX9_isDone 3 (some .boolean)) rm_X9_isDone (PR g [.ref h0, .int p1, .int p2] (w_X9 g h0 h1 h2 h3 x)) (vp_Si (fun v => v = res)) 0 0 (fun _ => False) := by
  refine Met.ofW (cc := cX9_isDone) (maxL := 3) (ret := (some .boolean)) (by decide) rfl ?_
  intro p e s m args below meth c s₁ B hml hv
  obtain ⟨rfl, hP, hK, hL⟩ := hv
  have hx := B.exec
  have hb := B.bytes
  have hr := B.returns
  have htG := wg_G (atoms_spec (ws := wg yX9_isDone cX9_isDone 3 (some .boolean)) B.pre)
  have hown : s.vm.findClass RX9 = some m.cls := findClass_of_methodNamed B.named
  have hlocks := B.notSynchronized
  have hS : va_S (fun _ => False) s.heap s.heap [] := va_S.rf
  have hl := lv_entry ([.ref h0, .int p1, .int p2]) (n := 3) (Nat.le_of_ble_eq_true rfl)
  rw [lg_entry_eq]
  generalize (lg_sl ([.ref h0, .int p1, .int p2]) ++ List.replicate (3 - (lg_sl ([.ref h0, .int p1, .int p2])).length) Slot.unset).toArray = ls at hl ⊢
  have hl : lv_has ls 3 [(0, .ref h0), (1, .int p1), (2, .int p2)] := hl
  have hm := hm0
  unfold fX9_isDone at hm
  refine lv_iload_n hx hb dX9_isDone_0 rfl (lv_at hl 2 rfl) ?_
  refine lv_aload_n hx hb dX9_isDone_1 rfl (lv_at hl 0 rfl) ?_
  refine va_get (D := g.1) (ci := 8) (v := .ref h1) (C := RX9) (T := TX9) (N := 11) hx hb htG in_wsX90 hown hK.1 hP 0 rfl rfl 0 (by decide) (htG _ g3_195) (fun _ h9 => h9) rfl dX9_isDone_2 ?_
  refine lv_iload_n hx hb dX9_isDone_5 rfl (lv_at hl 1 rfl) ?_
  refine lv_iconst (v := 1) hx hb dX9_isDone_6 (by decide) ?_
  refine lv_iadd hx hb dX9_isDone_7 ?_
  obtain ⟨zb1, hm⟩ := ibk hm
  refine va_iald hx hb hK.1 hP 1 0 rfl rfl zb1 dX9_isDone_8 ?_
  refine lv_icmp_ge (tgt := 16) hx hb dX9_isDone_9 (by decide) (fun zc2 => ?_) (fun zc2 => ?_)
  · replace hm := (if_pos zc2).symm.trans hm
    refine lv_iconst (v := 0) hx hb dX9_isDone_16 (by decide) ?_
    exact W.zret (v := 0) (ty := .boolean) hx hb hr rfl (fun t ht hW => ⟨_, rfl, (Option.some.inj hm), ht⟩) (fun _ h => nomatch h) dX9_isDone_17
  · replace hm := (if_neg zc2).symm.trans hm
    refine lv_iconst (v := 1) hx hb dX9_isDone_12 (by decide) ?_
    refine lv_goto (tgt := 17) hx hb dX9_isDone_13 (by decide) ?_
    exact W.zret (v := 1) (ty := .boolean) hx hb hr rfl (fun t ht hW => ⟨_, rfl, (Option.some.inj hm), ht⟩) (fun _ h => nomatch h) dX9_isDone_17
def fX9_highest_L0 (x : MD) (p1 : Int32) : Nat → Int32 → Int32 → Option (Int32)
  | 0, _, _ => none
  | n + 1, i0_2, i0_3 => (if 6 ≤ i0_3 then (some i0_2) else (if ib ((531 + (6 * p1)) + i0_3) 5845 = true then (if (x.1 (((531 + (6 * p1)) + i0_3).toNatClampNeg)) ≤ i0_2 then (fX9_highest_L0 x p1 n i0_2 (i0_3 + 1)) else (bnd (x.1 (((531 + (6 * p1)) + i0_3).toNatClampNeg)) (fun zv4 => (fX9_highest_L0 x p1 n zv4 (i0_3 + 1))))) else none))
def fX9_highest (x : MD) (p1 : Int32) : Option (Int32) := ((fX9_highest_L0 x p1 1000 0 0).bind (fun zq5 => some zq5))
abbrev rm_X9_highest : Jvm.Room := { frames := 0, cells := 0, slots := 0, locals := 0 }
theorem hd_X9_highest : yX9_highest.cls = RX9 ∧ yX9_highest.cls ≠ "java/lang/invoke/MethodHandle" ∧ yX9_highest.cls ≠ "java/lang/invoke/VarHandle" ∧ (parseMethodDescriptor yX9_highest.desc).map (fun d => d.parameters.length) = some 1 := by decide +kernel
set_option maxHeartbeats 4000000 in
set_option maxRecDepth 100000 in
theorem kX9_highest (l : Launch) (g : CX) (h0 h1 h2 h3 : Nat) (x : MD) (p1 : Int32) (res : Int32) (hm0 : fX9_highest x p1 = some res) : Met l yX9_highest (wg yX9_highest cX9_highest 4 (some .int)) rm_X9_highest (PR g [.ref h0, .int p1] (w_X9 g h0 h1 h2 h3 x)) (vp_Si (fun v => v = res)) 0 0 (fun _ => False) := by
  refine Met.ofW (cc := cX9_highest) (maxL := 4) (ret := (some .int)) (by decide) rfl ?_
  intro p e s m args below meth c s₁ B hml hv
  obtain ⟨rfl, hP, hK, hL⟩ := hv
  have hx := B.exec
  have hb := B.bytes
  have hr := B.returns
  have htG := wg_G (atoms_spec (ws := wg yX9_highest cX9_highest 4 (some .int)) B.pre)
  have hown : s.vm.findClass RX9 = some m.cls := findClass_of_methodNamed B.named
  have hlocks := B.notSynchronized
  have hS : va_S (fun _ => False) s.heap s.heap [] := va_S.rf
  have hl := lv_entry ([.ref h0, .int p1]) (n := 4) (Nat.le_of_ble_eq_true rfl)
  rw [lg_entry_eq]
  generalize (lg_sl ([.ref h0, .int p1]) ++ List.replicate (4 - (lg_sl ([.ref h0, .int p1])).length) Slot.unset).toArray = ls at hl ⊢
  have hl : lv_has ls 4 [(0, .ref h0), (1, .int p1)] := hl
  have hm := hm0
  unfold fX9_highest at hm
  have hL0 : ∀ (Q : State → Prop), ∀ (n : Nat) (i0_2 : Int32) (i0_3 : Int32) (out : Int32) (ls : Array Slot), fX9_highest_L0 x p1 n i0_2 i0_3 = some out → lv_has ls 4 [(0, .ref h0), (1, .int p1), (2, .int i0_2), (3, .int i0_3)] → (∀ ls : Array Slot, lv_has ls 4 [(2, .int out)] → W p l e (headSpec (wg yX9_highest cX9_highest 4 (some .int)) rm_X9_highest).room s m (([.ref h0, .int p1] : List Value).toArray) below meth c s.heap [] 0 0 Q (F0 m 55 ls [])) → W p l e (headSpec (wg yX9_highest cX9_highest 4 (some .int)) rm_X9_highest).room s m (([.ref h0, .int p1] : List Value).toArray) below meth c s.heap [] 0 0 Q (F0 m 4 ls []) := by
    intro Q n
    induction n with
    | zero =>
      intro i0_2 i0_3 out ls hm hl hk
      simp [fX9_highest_L0] at hm
    | succ n ih =>
      intro i0_2 i0_3 out ls hm hl hk
      rw [fX9_highest_L0] at hm
      refine lv_iload_n hx hb dX9_highest_4 rfl (lv_at hl 3 rfl) ?_
      refine lv_bipush (v := 6) hx hb dX9_highest_5 (by decide +kernel) ?_
      refine lv_icmp_ge (tgt := 55) hx hb dX9_highest_7 (by decide) (fun zc1 => ?_) (fun zc1 => ?_)
      · replace hm := (if_pos zc1).symm.trans hm
        obtain rfl := Option.some.inj hm
        exact hk ls (lv_sub hl [2] rfl)
      · replace hm := (if_neg zc1).symm.trans hm
        refine lv_aload_n hx hb dX9_highest_10 rfl (lv_at hl 0 rfl) ?_
        refine va_get (D := g.1) (ci := 8) (v := .ref h1) (C := RX9) (T := TX9) (N := 11) hx hb htG in_wsX90 hown hK.1 hP 0 rfl rfl 0 (by decide) (htG _ g3_195) (fun _ h9 => h9) rfl dX9_highest_11 ?_
        refine lv_sipush (v := 531) hx hb dX9_highest_14 (by decide +kernel) ?_
        refine lv_bipush (v := 6) hx hb dX9_highest_17 (by decide +kernel) ?_
        refine lv_iload_n hx hb dX9_highest_19 rfl (lv_at hl 1 rfl) ?_
        refine lv_imul hx hb dX9_highest_20 ?_
        refine lv_iadd hx hb dX9_highest_21 ?_
        refine lv_iload_n hx hb dX9_highest_22 rfl (lv_at hl 3 rfl) ?_
        refine lv_iadd hx hb dX9_highest_23 ?_
        obtain ⟨zb2, hm⟩ := ibk hm
        refine va_iald hx hb hK.1 hP 1 0 rfl rfl zb2 dX9_highest_24 ?_
        refine lv_iload_n hx hb dX9_highest_25 rfl (lv_at hl 2 rfl) ?_
        refine lv_icmp_le (tgt := 47) hx hb dX9_highest_26 (by decide) (fun zc3 => ?_) (fun zc3 => ?_)
        · replace hm := (if_pos zc3).symm.trans hm
          refine lv_iload_n hx hb dX9_highest_47 rfl (lv_at hl 2 rfl) ?_
          refine lv_istore_n (lv' := [(2, .int i0_2), (0, .ref h0), (1, .int p1), (3, .int i0_3)]) hx hb dX9_highest_48 rfl hl (by decide) rfl (fun ls hl => ?_)
          refine lv_iinc (v := i0_3 + 1) (lv' := [(3, .int (i0_3 + 1)), (2, .int i0_2), (0, .ref h0), (1, .int p1)]) hx hb dX9_highest_49 hl (k := 3) rfl rfl (by decide) rfl (fun ls hl => ?_)
          refine lv_goto (tgt := 4) hx hb dX9_highest_52 (by decide) ?_
          exact ih i0_2 (i0_3 + 1) out ls hm (lv_sub hl [2, 3, 1, 0] rfl) hk
        · replace hm := (if_neg zc3).symm.trans hm
          refine lv_aload_n hx hb dX9_highest_29 rfl (lv_at hl 0 rfl) ?_
          refine va_get (D := g.1) (ci := 8) (v := .ref h1) (C := RX9) (T := TX9) (N := 11) hx hb htG in_wsX90 hown hK.1 hP 0 rfl rfl 0 (by decide) (htG _ g3_195) (fun _ h9 => h9) rfl dX9_highest_30 ?_
          refine lv_sipush (v := 531) hx hb dX9_highest_33 (by decide +kernel) ?_
          refine lv_bipush (v := 6) hx hb dX9_highest_36 (by decide +kernel) ?_
          refine lv_iload_n hx hb dX9_highest_38 rfl (lv_at hl 1 rfl) ?_
          refine lv_imul hx hb dX9_highest_39 ?_
          refine lv_iadd hx hb dX9_highest_40 ?_
          refine lv_iload_n hx hb dX9_highest_41 rfl (lv_at hl 3 rfl) ?_
          refine lv_iadd hx hb dX9_highest_42 ?_
          refine va_iald hx hb hK.1 hP 1 0 rfl rfl zb2 dX9_highest_43 ?_
          refine lv_goto (tgt := 48) hx hb dX9_highest_44 (by decide) ?_
          obtain ⟨zv4, ezv4, hm⟩ := bnk hm
          refine tope ezv4 ?_
          refine lv_istore_n (lv' := [(2, .int zv4), (0, .ref h0), (1, .int p1), (3, .int i0_3)]) hx hb dX9_highest_48 rfl hl (by decide) rfl (fun ls hl => ?_)
          refine lv_iinc (v := i0_3 + 1) (lv' := [(3, .int (i0_3 + 1)), (2, .int zv4), (0, .ref h0), (1, .int p1)]) hx hb dX9_highest_49 hl (k := 3) rfl rfl (by decide) rfl (fun ls hl => ?_)
          refine lv_goto (tgt := 4) hx hb dX9_highest_52 (by decide) ?_
          exact ih zv4 (i0_3 + 1) out ls hm (lv_sub hl [2, 3, 1, 0] rfl) hk
  refine lv_iconst (v := 0) hx hb dX9_highest_0 (by decide) ?_
  refine lv_istore_n (lv' := [(2, .int 0), (0, .ref h0), (1, .int p1)]) hx hb dX9_highest_1 rfl hl (by decide) rfl (fun ls hl => ?_)
  refine lv_iconst (v := 0) hx hb dX9_highest_2 (by decide) ?_
  refine lv_istore_n (lv' := [(3, .int 0), (2, .int 0), (0, .ref h0), (1, .int p1)]) hx hb dX9_highest_3 rfl hl (by decide) rfl (fun ls hl => ?_)
  obtain ⟨zq5, hzq5, hm⟩ := bdk hm
  refine hL0 _ 1000 0 0 zq5 _ hzq5 (lv_sub hl [2, 3, 1, 0] rfl) (fun ls hl => ?_)
  refine lv_iload_n hx hb dX9_highest_55 rfl (lv_at hl 0 rfl) ?_
  exact W.iret (v := zq5) hx hb hr (fun t ht hW => ⟨_, rfl, (Option.some.inj hm), ht⟩) (fun _ h => nomatch h) dX9_highest_56
def fX9_awarded_L0 (x : MD) (p1 : Int32) : Nat → Int32 → Int32 → Option (Int32)
  | 0, _, _ => none
  | n + 1, i0_2, i0_3 => (if 48 ≤ i0_3 then (some i0_2) else (if ib (51 + i0_3) 5845 = true then (if (x.1 ((51 + i0_3).toNatClampNeg)) < 0 then (fX9_awarded_L0 x p1 n (i0_2 + 0) (i0_3 + 1)) else ((fX9_isDone x 0 (i0_3 - i0_3 / 16 * 16)).bind (fun zq5 => (if zq5 = 0 then (if p1 < 0 then (fX9_awarded_L0 x p1 n (i0_2 + 1) (i0_3 + 1)) else (if (x.1 ((51 + i0_3).toNatClampNeg)) = p1 then (fX9_awarded_L0 x p1 n (i0_2 + 1) (i0_3 + 1)) else (fX9_awarded_L0 x p1 n (i0_2 + 0) (i0_3 + 1)))) else (fX9_awarded_L0 x p1 n (i0_2 + 0) (i0_3 + 1)))))) else none))
def fX9_awarded (x : MD) (p1 : Int32) : Option (Int32) := ((fX9_awarded_L0 x p1 1000 0 0).bind (fun zq11 => some zq11))
abbrev rm_X9_awarded : Jvm.Room := { frames := 1, cells := 0, slots := 0, locals := 22 }
theorem hd_X9_awarded : yX9_awarded.cls = RX9 ∧ yX9_awarded.cls ≠ "java/lang/invoke/MethodHandle" ∧ yX9_awarded.cls ≠ "java/lang/invoke/VarHandle" ∧ (parseMethodDescriptor yX9_awarded.desc).map (fun d => d.parameters.length) = some 1 := by decide +kernel
set_option maxHeartbeats 4000000 in
set_option maxRecDepth 100000 in
theorem kX9_awarded (l : Launch) (g : CX) (h0 h1 h2 h3 : Nat) (x : MD) (p1 : Int32) (res : Int32) (hm0 : fX9_awarded x p1 = some res) : Met l yX9_awarded (wg yX9_awarded cX9_awarded 5 (some .int)) rm_X9_awarded (PR g [.ref h0, .int p1] (w_X9 g h0 h1 h2 h3 x)) (vp_Si (fun v => v = res)) 0 0 (fun _ => False) := by
  refine Met.ofW (cc := cX9_awarded) (maxL := 5) (ret := (some .int)) (by decide) rfl ?_
  intro p e s m args below meth c s₁ B hml hv
  obtain ⟨rfl, hP, hK, hL⟩ := hv
  have hx := B.exec
  have hb := B.bytes
  have hr := B.returns
  have htG := wg_G (atoms_spec (ws := wg yX9_awarded cX9_awarded 5 (some .int)) B.pre)
  have hown : s.vm.findClass RX9 = some m.cls := findClass_of_methodNamed B.named
  have hlocks := B.notSynchronized
  have hS : va_S (fun _ => False) s.heap s.heap [] := va_S.rf
  have hl := lv_entry ([.ref h0, .int p1]) (n := 5) (Nat.le_of_ble_eq_true rfl)
  rw [lg_entry_eq]
  generalize (lg_sl ([.ref h0, .int p1]) ++ List.replicate (5 - (lg_sl ([.ref h0, .int p1])).length) Slot.unset).toArray = ls at hl ⊢
  have hl : lv_has ls 5 [(0, .ref h0), (1, .int p1)] := hl
  have hm := hm0
  unfold fX9_awarded at hm
  have hL0 : ∀ (Q : State → Prop), ∀ (n : Nat) (i0_2 : Int32) (i0_3 : Int32) (out : Int32) (ls : Array Slot), fX9_awarded_L0 x p1 n i0_2 i0_3 = some out → lv_has ls 5 [(0, .ref h0), (1, .int p1), (2, .int i0_2), (3, .int i0_3)] → (∀ ls : Array Slot, lv_has ls 5 [(2, .int out)] → W p l e (headSpec (wg yX9_awarded cX9_awarded 5 (some .int)) rm_X9_awarded).room s m (([.ref h0, .int p1] : List Value).toArray) below meth c s.heap [] 0 0 Q (F0 m 77 ls [])) → W p l e (headSpec (wg yX9_awarded cX9_awarded 5 (some .int)) rm_X9_awarded).room s m (([.ref h0, .int p1] : List Value).toArray) below meth c s.heap [] 0 0 Q (F0 m 4 ls []) := by
    intro Q n
    induction n with
    | zero =>
      intro i0_2 i0_3 out ls hm hl hk
      simp [fX9_awarded_L0] at hm
    | succ n ih =>
      intro i0_2 i0_3 out ls hm hl hk
      rw [fX9_awarded_L0] at hm
      refine lv_iload_n hx hb dX9_awarded_4 rfl (lv_at hl 3 rfl) ?_
      refine lv_bipush (v := 48) hx hb dX9_awarded_5 (by decide +kernel) ?_
      refine lv_icmp_ge (tgt := 77) hx hb dX9_awarded_7 (by decide) (fun zc1 => ?_) (fun zc1 => ?_)
      · replace hm := (if_pos zc1).symm.trans hm
        obtain rfl := Option.some.inj hm
        exact hk ls (lv_sub hl [2] rfl)
      · replace hm := (if_neg zc1).symm.trans hm
        refine lv_aload_n hx hb dX9_awarded_10 rfl (lv_at hl 0 rfl) ?_
        refine va_get (D := g.1) (ci := 8) (v := .ref h1) (C := RX9) (T := TX9) (N := 11) hx hb htG in_wsX90 hown hK.1 hP 0 rfl rfl 0 (by decide) (htG _ g3_195) (fun _ h9 => h9) rfl dX9_awarded_11 ?_
        refine lv_bipush (v := 51) hx hb dX9_awarded_14 (by decide +kernel) ?_
        refine lv_iload_n hx hb dX9_awarded_16 rfl (lv_at hl 3 rfl) ?_
        refine lv_iadd hx hb dX9_awarded_17 ?_
        obtain ⟨zb2, hm⟩ := ibk hm
        refine va_iald hx hb hK.1 hP 1 0 rfl rfl zb2 dX9_awarded_18 ?_
        refine lv_if_lt (tgt := 38) hx hb dX9_awarded_19 (by decide) (fun zc3 => ?_) (fun zc3 => ?_)
        · replace hm := (if_pos zc3).symm.trans hm
          refine lv_iconst (v := 0) hx hb dX9_awarded_38 (by decide) ?_
          refine lv_istore (lv' := [(4, .int 0), (0, .ref h0), (1, .int p1), (2, .int i0_2), (3, .int i0_3)]) hx hb dX9_awarded_39 hl (by decide) rfl (fun ls hl => ?_)
          refine lv_iload_n hx hb dX9_awarded_41 rfl (lv_at hl 3 rfl) ?_
          refine lv_iload hx hb dX9_awarded_42 (lv_at hl 0 rfl) ?_
          refine lv_if_eq (tgt := 68) hx hb dX9_awarded_44 (by decide) (fun _ => ?_) (fun zc4 => absurd zc4 (by decide))
          refine lv_iconst (v := 0) hx hb dX9_awarded_68 (by decide) ?_
          refine lv_iadd hx hb dX9_awarded_69 ?_
          refine lv_istore_n (lv' := [(2, .int (i0_2 + 0)), (4, .int 0), (0, .ref h0), (1, .int p1), (3, .int i0_3)]) hx hb dX9_awarded_70 rfl hl (by decide) rfl (fun ls hl => ?_)
          refine lv_iinc (v := i0_3 + 1) (lv' := [(3, .int (i0_3 + 1)), (2, .int (i0_2 + 0)), (4, .int 0), (0, .ref h0), (1, .int p1)]) hx hb dX9_awarded_71 hl (k := 4) rfl rfl (by decide) rfl (fun ls hl => ?_)
          refine lv_goto (tgt := 4) hx hb dX9_awarded_74 (by decide) ?_
          exact ih (i0_2 + 0) (i0_3 + 1) out ls hm (lv_sub hl [3, 4, 1, 0] rfl) hk
        · replace hm := (if_neg zc3).symm.trans hm
          refine lv_aload_n hx hb dX9_awarded_22 rfl (lv_at hl 0 rfl) ?_
          refine lv_iconst (v := 0) hx hb dX9_awarded_23 (by decide) ?_
          refine lv_iload_n hx hb dX9_awarded_24 rfl (lv_at hl 3 rfl) ?_
          refine lv_bipush (v := 16) hx hb dX9_awarded_25 (by decide +kernel) ?_
          refine lv_irem hx hb dX9_awarded_27 (by decide) ?_
          obtain ⟨zq5, hzq5, hm⟩ := bdk hm
          refine ko_e (va_runV (As := [.int 0, .int (i0_3 - i0_3 / 16 * 16)]) (rest := []) ⟨hx, hb, hml, hown, htG⟩ (kX9_isDone l g h0 h1 h2 h3 x 0 (i0_3 - i0_3 / 16 * 16) _ hzq5) (cwV 2 htG (GV g4_4 g4_6 gS_12 g1_10 g4_7) rfl rfl rfl hd_X9_isDone ⟨Nat.le_of_ble_eq_true rfl, Nat.le_of_ble_eq_true rfl⟩) (PR_VA hK hL hS hP (ci := 8) rfl 0 rfl) rfl rfl hl.1 rfl (lv_room (Nat.le_of_ble_eq_true rfl)) dX9_awarded_28 ⟨Nat.zero_le _, Nat.zero_le _⟩) ?_
          refine lv_if_ne (tgt := 38) hx hb dX9_awarded_31 (by decide) (fun zc6 => ?_) (fun zc6 => ?_)
          · replace hm := (if_neg zc6).symm.trans hm
            refine lv_iconst (v := 0) hx hb dX9_awarded_38 (by decide) ?_
            refine lv_istore (lv' := [(4, .int 0), (0, .ref h0), (1, .int p1), (2, .int i0_2), (3, .int i0_3)]) hx hb dX9_awarded_39 hl (by decide) rfl (fun ls hl => ?_)
            refine lv_iload_n hx hb dX9_awarded_41 rfl (lv_at hl 3 rfl) ?_
            refine lv_iload hx hb dX9_awarded_42 (lv_at hl 0 rfl) ?_
            refine lv_if_eq (tgt := 68) hx hb dX9_awarded_44 (by decide) (fun _ => ?_) (fun zc7 => absurd zc7 (by decide))
            refine lv_iconst (v := 0) hx hb dX9_awarded_68 (by decide) ?_
            refine lv_iadd hx hb dX9_awarded_69 ?_
            refine lv_istore_n (lv' := [(2, .int (i0_2 + 0)), (4, .int 0), (0, .ref h0), (1, .int p1), (3, .int i0_3)]) hx hb dX9_awarded_70 rfl hl (by decide) rfl (fun ls hl => ?_)
            refine lv_iinc (v := i0_3 + 1) (lv' := [(3, .int (i0_3 + 1)), (2, .int (i0_2 + 0)), (4, .int 0), (0, .ref h0), (1, .int p1)]) hx hb dX9_awarded_71 hl (k := 4) rfl rfl (by decide) rfl (fun ls hl => ?_)
            refine lv_goto (tgt := 4) hx hb dX9_awarded_74 (by decide) ?_
            exact ih (i0_2 + 0) (i0_3 + 1) out ls hm (lv_sub hl [3, 4, 1, 0] rfl) hk
          · replace hm := (if_pos zc6).symm.trans hm
            refine lv_iconst (v := 1) hx hb dX9_awarded_34 (by decide) ?_
            refine lv_goto (tgt := 39) hx hb dX9_awarded_35 (by decide) ?_
            refine lv_istore (lv' := [(4, .int 1), (0, .ref h0), (1, .int p1), (2, .int i0_2), (3, .int i0_3)]) hx hb dX9_awarded_39 hl (by decide) rfl (fun ls hl => ?_)
            refine lv_iload_n hx hb dX9_awarded_41 rfl (lv_at hl 3 rfl) ?_
            refine lv_iload hx hb dX9_awarded_42 (lv_at hl 0 rfl) ?_
            refine lv_if_eq (tgt := 68) hx hb dX9_awarded_44 (by decide) (fun zc8 => absurd zc8 (by decide)) (fun _ => ?_)
            refine lv_iload_n hx hb dX9_awarded_47 rfl (lv_at hl 2 rfl) ?_
            refine lv_if_lt (tgt := 64) hx hb dX9_awarded_48 (by decide) (fun zc9 => ?_) (fun zc9 => ?_)
            · replace hm := (if_pos zc9).symm.trans hm
              refine lv_iconst (v := 1) hx hb dX9_awarded_64 (by decide) ?_
              refine lv_goto (tgt := 69) hx hb dX9_awarded_65 (by decide) ?_
              refine lv_iadd hx hb dX9_awarded_69 ?_
              refine lv_istore_n (lv' := [(2, .int (i0_2 + 1)), (4, .int 1), (0, .ref h0), (1, .int p1), (3, .int i0_3)]) hx hb dX9_awarded_70 rfl hl (by decide) rfl (fun ls hl => ?_)
              refine lv_iinc (v := i0_3 + 1) (lv' := [(3, .int (i0_3 + 1)), (2, .int (i0_2 + 1)), (4, .int 1), (0, .ref h0), (1, .int p1)]) hx hb dX9_awarded_71 hl (k := 4) rfl rfl (by decide) rfl (fun ls hl => ?_)
              refine lv_goto (tgt := 4) hx hb dX9_awarded_74 (by decide) ?_
              exact ih (i0_2 + 1) (i0_3 + 1) out ls hm (lv_sub hl [3, 4, 1, 0] rfl) hk
            · replace hm := (if_neg zc9).symm.trans hm
              refine lv_aload_n hx hb dX9_awarded_51 rfl (lv_at hl 1 rfl) ?_
              refine va_get (D := g.1) (ci := 8) (v := .ref h1) (C := RX9) (T := TX9) (N := 11) hx hb htG in_wsX90 hown hK.1 hP 0 rfl rfl 0 (by decide) (htG _ g3_195) (fun _ h9 => h9) rfl dX9_awarded_52 ?_
              refine lv_bipush (v := 51) hx hb dX9_awarded_55 (by decide +kernel) ?_
              refine lv_iload_n hx hb dX9_awarded_57 rfl (lv_at hl 4 rfl) ?_
              refine lv_iadd hx hb dX9_awarded_58 ?_
              refine va_iald hx hb hK.1 hP 1 0 rfl rfl zb2 dX9_awarded_59 ?_
              refine lv_iload_n hx hb dX9_awarded_60 rfl (lv_at hl 2 rfl) ?_
              refine lv_icmp_ne (tgt := 68) hx hb dX9_awarded_61 (by decide) (fun zc10 => ?_) (fun zc10 => ?_)
              · replace hm := (if_neg zc10).symm.trans hm
                refine lv_iconst (v := 0) hx hb dX9_awarded_68 (by decide) ?_
                refine lv_iadd hx hb dX9_awarded_69 ?_
                refine lv_istore_n (lv' := [(2, .int (i0_2 + 0)), (4, .int 1), (0, .ref h0), (1, .int p1), (3, .int i0_3)]) hx hb dX9_awarded_70 rfl hl (by decide) rfl (fun ls hl => ?_)
                refine lv_iinc (v := i0_3 + 1) (lv' := [(3, .int (i0_3 + 1)), (2, .int (i0_2 + 0)), (4, .int 1), (0, .ref h0), (1, .int p1)]) hx hb dX9_awarded_71 hl (k := 4) rfl rfl (by decide) rfl (fun ls hl => ?_)
                refine lv_goto (tgt := 4) hx hb dX9_awarded_74 (by decide) ?_
                exact ih (i0_2 + 0) (i0_3 + 1) out ls hm (lv_sub hl [3, 4, 1, 0] rfl) hk
              · replace hm := (if_pos zc10).symm.trans hm
                refine lv_iconst (v := 1) hx hb dX9_awarded_64 (by decide) ?_
                refine lv_goto (tgt := 69) hx hb dX9_awarded_65 (by decide) ?_
                refine lv_iadd hx hb dX9_awarded_69 ?_
                refine lv_istore_n (lv' := [(2, .int (i0_2 + 1)), (4, .int 1), (0, .ref h0), (1, .int p1), (3, .int i0_3)]) hx hb dX9_awarded_70 rfl hl (by decide) rfl (fun ls hl => ?_)
                refine lv_iinc (v := i0_3 + 1) (lv' := [(3, .int (i0_3 + 1)), (2, .int (i0_2 + 1)), (4, .int 1), (0, .ref h0), (1, .int p1)]) hx hb dX9_awarded_71 hl (k := 4) rfl rfl (by decide) rfl (fun ls hl => ?_)
                refine lv_goto (tgt := 4) hx hb dX9_awarded_74 (by decide) ?_
                exact ih (i0_2 + 1) (i0_3 + 1) out ls hm (lv_sub hl [3, 4, 1, 0] rfl) hk
  refine lv_iconst (v := 0) hx hb dX9_awarded_0 (by decide) ?_
  refine lv_istore_n (lv' := [(2, .int 0), (0, .ref h0), (1, .int p1)]) hx hb dX9_awarded_1 rfl hl (by decide) rfl (fun ls hl => ?_)
  refine lv_iconst (v := 0) hx hb dX9_awarded_2 (by decide) ?_
  refine lv_istore_n (lv' := [(3, .int 0), (2, .int 0), (0, .ref h0), (1, .int p1)]) hx hb dX9_awarded_3 rfl hl (by decide) rfl (fun ls hl => ?_)
  obtain ⟨zq11, hzq11, hm⟩ := bdk hm
  refine hL0 _ 1000 0 0 zq11 _ hzq11 (lv_sub hl [2, 3, 1, 0] rfl) (fun ls hl => ?_)
  refine lv_iload_n hx hb dX9_awarded_77 rfl (lv_at hl 0 rfl) ?_
  exact W.iret (v := zq11) hx hb hr (fun t ht hW => ⟨_, rfl, (Option.some.inj hm), ht⟩) (fun _ h => nomatch h) dX9_awarded_78
