def fX4_put (f0 : AF) (n0 : Nat) (p1 : Int32) (p2 : Int32) : Option (AF) := (if p1 < 0 then some f0 else (if (nI n0) ≤ p1 then some f0 else (if ib p1 n0 = true then some (upd f0 p1.toNatClampNeg p2) else none)))
abbrev rm_X4_put : Jvm.Room := { frames := 0, cells := 0, slots := 0, locals := 0 }
theorem hs_X4_put : yX4_put.cls ≠ "java/lang/invoke/MethodHandle" ∧ yX4_put.cls ≠ "java/lang/invoke/VarHandle" ∧ (parseMethodDescriptor yX4_put.desc).map (fun d => d.parameters.length) = some 3 := by decide +kernel
set_option maxHeartbeats 4000000 in
set_option maxRecDepth 100000 in
theorem kX4_put (l : Launch) (g : CX) (t0 : Nat) (sz : Nat) (f0 : AF) (n0 : Nat) (p1 : Int32) (p2 : Int32) (res : AF) (hm0 : fX4_put f0 n0 p1 p2 = some res) : Met l yX4_put (wg yX4_put cX4_put 3 none) rm_X4_put (PW g [.ref t0, .int p1, .int p2] sz ([(t0, .inl (g.2.1, n0, .inl f0))])) (va_Qv (fun u => u = res) (fun u t => va_P g.1 vwCl ([(t0, .inl (g.2.1, n0, .inl u))]) t.heap) (va_A ([(t0, .inl (g.2.1, n0, .inl f0))]) sz)) 0 0 (va_A ([(t0, .inl (g.2.1, n0, .inl f0))]) sz) := by
  refine Met.ofW (cc := cX4_put) (maxL := 3) (ret := none) (by decide) rfl ?_
  intro p e s m args below meth c s₁ B hml hv
  obtain ⟨rfl, hsz, hP, hK, hD0, hL⟩ := hv
  have hx := B.exec
  have hb := B.bytes
  have hr := B.returns
  have htG := wg_G (atoms_spec (ws := wg yX4_put cX4_put 3 none) B.pre)
  have hown : s.vm.findClass RX4 = some m.cls := findClass_of_methodNamed B.named
  have hlocks := B.notSynchronized
  subst hsz
  have hD := hD0.self (sz := s.heap.size)
  generalize hAe : va_A ([(t0, .inl (g.2.1, n0, .inl f0))]) s.heap.size = A at hD hL ⊢
  have hA : ∀ q : Nat, s.heap.size ≤ q → A q := fun q h => by rw [← hAe]; exact Or.inr h
  have hS : va_S A s.heap s.heap [] := va_S.rf
  have hl := lv_entry ([.ref t0, .int p1, .int p2]) (n := 3) (Nat.le_of_ble_eq_true rfl)
  rw [lg_entry_eq]
  generalize (lg_sl ([.ref t0, .int p1, .int p2]) ++ List.replicate (3 - (lg_sl ([.ref t0, .int p1, .int p2])).length) Slot.unset).toArray = ls at hl ⊢
  have hl : lv_has ls 3 [(0, .ref t0), (1, .int p1), (2, .int p2)] := hl
  have hm := hm0
  unfold fX4_put at hm
  refine lv_aload_n hx hb dX4_put_0 rfl (lv_at hl 0 rfl) ?_
  refine lv_ifnull hx hb dX4_put_1 ?_
  refine lv_iload_n hx hb dX4_put_4 rfl (lv_at hl 1 rfl) ?_
  refine lv_if_lt (tgt := 18) hx hb dX4_put_5 (by decide) (fun zc1 => ?_) (fun zc1 => ?_)
  · replace hm := (if_pos zc1).symm.trans hm
    exact W.vret hx hb hr (fun t ht hW => ⟨⟨_, rfl, (Option.some.inj hm), atH ht hP⟩, hS.F ht⟩) hS.2.2 dX4_put_18
  · replace hm := (if_neg zc1).symm.trans hm
    refine lv_iload_n hx hb dX4_put_8 rfl (lv_at hl 1 rfl) ?_
    refine lv_aload_n hx hb dX4_put_9 rfl (lv_at hl 0 rfl) ?_
    refine va_alen hx hb hK.1 hP 0 0 rfl rfl (v := (nI n0)) rfl dX4_put_10 ?_
    refine lv_icmp_ge (tgt := 18) hx hb dX4_put_11 (by decide) (fun zc2 => ?_) (fun zc2 => ?_)
    · replace hm := (if_pos zc2).symm.trans hm
      exact W.vret hx hb hr (fun t ht hW => ⟨⟨_, rfl, (Option.some.inj hm), atH ht hP⟩, hS.F ht⟩) hS.2.2 dX4_put_18
    · replace hm := (if_neg zc2).symm.trans hm
      refine lv_aload_n hx hb dX4_put_14 rfl (lv_at hl 0 rfl) ?_
      refine lv_iload_n hx hb dX4_put_15 rfl (lv_at hl 1 rfl) ?_
      refine lv_iload_n hx hb dX4_put_16 rfl (lv_at hl 2 rfl) ?_
      obtain ⟨zb3, hm⟩ := ibk hm
      refine va_iast hx hb hK.1 hP hD hS 0 0 rfl rfl zb3 dX4_put_17 (fun H locs hP hD hS => ?_)
      have hP : va_P g.1 vwCl ([(t0, .inl (g.2.1, n0, .inl (upd f0 p1.toNatClampNeg p2)))]) H := hP
      have hD : va_D A ([(t0, .inl (g.2.1, n0, .inl (upd f0 p1.toNatClampNeg p2)))]) := hD
      exact W.vret hx hb hr (fun t ht hW => ⟨⟨_, rfl, (Option.some.inj hm), atH ht hP⟩, hS.F ht⟩) hS.2.2 dX4_put_18
def fX4_add (f0 : AF) (n0 : Nat) (p1 : Int32) (p2 : Int32) : Option (AF) := (if p1 < 0 then some f0 else (if (nI n0) ≤ p1 then some f0 else (if ib p1 n0 = true then some (upd f0 p1.toNatClampNeg ((f0 p1.toNatClampNeg) + p2)) else none)))
abbrev rm_X4_add : Jvm.Room := { frames := 0, cells := 0, slots := 0, locals := 0 }
theorem hs_X4_add : yX4_add.cls ≠ "java/lang/invoke/MethodHandle" ∧ yX4_add.cls ≠ "java/lang/invoke/VarHandle" ∧ (parseMethodDescriptor yX4_add.desc).map (fun d => d.parameters.length) = some 3 := by decide +kernel
set_option maxHeartbeats 4000000 in
set_option maxRecDepth 100000 in
theorem kX4_add (l : Launch) (g : CX) (t0 : Nat) (sz : Nat) (f0 : AF) (n0 : Nat) (p1 : Int32) (p2 : Int32) (res : AF) (hm0 : fX4_add f0 n0 p1 p2 = some res) : Met l yX4_add (wg yX4_add cX4_add 3 none) rm_X4_add (PW g [.ref t0, .int p1, .int p2] sz ([(t0, .inl (g.2.1, n0, .inl f0))])) (va_Qv (fun u => u = res) (fun u t => va_P g.1 vwCl ([(t0, .inl (g.2.1, n0, .inl u))]) t.heap) (va_A ([(t0, .inl (g.2.1, n0, .inl f0))]) sz)) 0 0 (va_A ([(t0, .inl (g.2.1, n0, .inl f0))]) sz) := by
  refine Met.ofW (cc := cX4_add) (maxL := 3) (ret := none) (by decide) rfl ?_
  intro p e s m args below meth c s₁ B hml hv
  obtain ⟨rfl, hsz, hP, hK, hD0, hL⟩ := hv
  have hx := B.exec
  have hb := B.bytes
  have hr := B.returns
  have htG := wg_G (atoms_spec (ws := wg yX4_add cX4_add 3 none) B.pre)
  have hown : s.vm.findClass RX4 = some m.cls := findClass_of_methodNamed B.named
  have hlocks := B.notSynchronized
  subst hsz
  have hD := hD0.self (sz := s.heap.size)
  generalize hAe : va_A ([(t0, .inl (g.2.1, n0, .inl f0))]) s.heap.size = A at hD hL ⊢
  have hA : ∀ q : Nat, s.heap.size ≤ q → A q := fun q h => by rw [← hAe]; exact Or.inr h
  have hS : va_S A s.heap s.heap [] := va_S.rf
  have hl := lv_entry ([.ref t0, .int p1, .int p2]) (n := 3) (Nat.le_of_ble_eq_true rfl)
  rw [lg_entry_eq]
  generalize (lg_sl ([.ref t0, .int p1, .int p2]) ++ List.replicate (3 - (lg_sl ([.ref t0, .int p1, .int p2])).length) Slot.unset).toArray = ls at hl ⊢
  have hl : lv_has ls 3 [(0, .ref t0), (1, .int p1), (2, .int p2)] := hl
  have hm := hm0
  unfold fX4_add at hm
  refine lv_aload_n hx hb dX4_add_0 rfl (lv_at hl 0 rfl) ?_
  refine lv_ifnull hx hb dX4_add_1 ?_
  refine lv_iload_n hx hb dX4_add_4 rfl (lv_at hl 1 rfl) ?_
  refine lv_if_lt (tgt := 21) hx hb dX4_add_5 (by decide) (fun zc1 => ?_) (fun zc1 => ?_)
  · replace hm := (if_pos zc1).symm.trans hm
    exact W.vret hx hb hr (fun t ht hW => ⟨⟨_, rfl, (Option.some.inj hm), atH ht hP⟩, hS.F ht⟩) hS.2.2 dX4_add_21
  · replace hm := (if_neg zc1).symm.trans hm
    refine lv_iload_n hx hb dX4_add_8 rfl (lv_at hl 1 rfl) ?_
    refine lv_aload_n hx hb dX4_add_9 rfl (lv_at hl 0 rfl) ?_
    refine va_alen hx hb hK.1 hP 0 0 rfl rfl (v := (nI n0)) rfl dX4_add_10 ?_
    refine lv_icmp_ge (tgt := 21) hx hb dX4_add_11 (by decide) (fun zc2 => ?_) (fun zc2 => ?_)
    · replace hm := (if_pos zc2).symm.trans hm
      exact W.vret hx hb hr (fun t ht hW => ⟨⟨_, rfl, (Option.some.inj hm), atH ht hP⟩, hS.F ht⟩) hS.2.2 dX4_add_21
    · replace hm := (if_neg zc2).symm.trans hm
      refine lv_aload_n hx hb dX4_add_14 rfl (lv_at hl 0 rfl) ?_
      refine lv_iload_n hx hb dX4_add_15 rfl (lv_at hl 1 rfl) ?_
      refine lv_dup2_11 hx hb dX4_add_16 rfl rfl ?_
      obtain ⟨zb3, hm⟩ := ibk hm
      refine va_iald hx hb hK.1 hP 0 0 rfl rfl zb3 dX4_add_17 ?_
      refine lv_iload_n hx hb dX4_add_18 rfl (lv_at hl 2 rfl) ?_
      refine lv_iadd hx hb dX4_add_19 ?_
      refine va_iast hx hb hK.1 hP hD hS 0 0 rfl rfl zb3 dX4_add_20 (fun H locs hP hD hS => ?_)
      have hP : va_P g.1 vwCl ([(t0, .inl (g.2.1, n0, .inl (upd f0 p1.toNatClampNeg ((f0 p1.toNatClampNeg) + p2))))]) H := hP
      have hD : va_D A ([(t0, .inl (g.2.1, n0, .inl (upd f0 p1.toNatClampNeg ((f0 p1.toNatClampNeg) + p2))))]) := hD
      exact W.vret hx hb hr (fun t ht hW => ⟨⟨_, rfl, (Option.some.inj hm), atH ht hP⟩, hS.F ht⟩) hS.2.2 dX4_add_21
def fX4_sum_L0 (f0 : AF) (n0 : Nat) : Nat → Int32 → Int32 → Option (Int32)
  | 0, _, _ => none
  | n + 1, i0_1, i0_2 => (if (nI n0) ≤ i0_2 then (some i0_1) else (if ib i0_2 n0 = true then (bnd (i0_1 + (f0 i0_2.toNatClampNeg)) (fun zv3 => (fX4_sum_L0 f0 n0 n zv3 (i0_2 + 1)))) else none))
def fX4_sum (f0 : AF) (n0 : Nat) : Option (Int32) := ((fX4_sum_L0 f0 n0 1000 0 0).bind (fun zq4 => some zq4))
abbrev rm_X4_sum : Jvm.Room := { frames := 0, cells := 0, slots := 0, locals := 0 }
theorem hs_X4_sum : yX4_sum.cls ≠ "java/lang/invoke/MethodHandle" ∧ yX4_sum.cls ≠ "java/lang/invoke/VarHandle" ∧ (parseMethodDescriptor yX4_sum.desc).map (fun d => d.parameters.length) = some 1 := by decide +kernel
set_option maxHeartbeats 4000000 in
set_option maxRecDepth 100000 in
theorem kX4_sum (l : Launch) (g : CX) (t0 : Nat) (f0 : AF) (n0 : Nat) (res : Int32) (hm0 : fX4_sum f0 n0 = some res) : Met l yX4_sum (wg yX4_sum cX4_sum 3 (some .int)) rm_X4_sum (PR g [.ref t0] ([(t0, .inl (g.2.1, n0, .inl f0))])) (vp_Si (fun v => v = res)) 0 0 (fun _ => False) := by
  refine Met.ofW (cc := cX4_sum) (maxL := 3) (ret := (some .int)) (by decide) rfl ?_
  intro p e s m args below meth c s₁ B hml hv
  obtain ⟨rfl, hP, hK, hL⟩ := hv
  have hx := B.exec
  have hb := B.bytes
  have hr := B.returns
  have htG := wg_G (atoms_spec (ws := wg yX4_sum cX4_sum 3 (some .int)) B.pre)
  have hown : s.vm.findClass RX4 = some m.cls := findClass_of_methodNamed B.named
  have hlocks := B.notSynchronized
  have hS : va_S (fun _ => False) s.heap s.heap [] := va_S.rf
  have hl := lv_entry ([.ref t0]) (n := 3) (Nat.le_of_ble_eq_true rfl)
  rw [lg_entry_eq]
  generalize (lg_sl ([.ref t0]) ++ List.replicate (3 - (lg_sl ([.ref t0])).length) Slot.unset).toArray = ls at hl ⊢
  have hl : lv_has ls 3 [(0, .ref t0)] := hl
  have hm := hm0
  unfold fX4_sum at hm
  have hL0 : ∀ (Q : State → Prop), ∀ (n : Nat) (i0_1 : Int32) (i0_2 : Int32) (out : Int32) (ls : Array Slot), fX4_sum_L0 f0 n0 n i0_1 i0_2 = some out → lv_has ls 3 [(0, .ref t0), (1, .int i0_1), (2, .int i0_2)] → (∀ ls : Array Slot, lv_has ls 3 [(1, .int out)] → W p l e (headSpec (wg yX4_sum cX4_sum 3 (some .int)) rm_X4_sum).room s m (([.ref t0] : List Value).toArray) below meth c s.heap [] 0 0 Q (F0 m 26 ls [])) → W p l e (headSpec (wg yX4_sum cX4_sum 3 (some .int)) rm_X4_sum).room s m (([.ref t0] : List Value).toArray) below meth c s.heap [] 0 0 Q (F0 m 8 ls []) := by
    intro Q n
    induction n with
    | zero =>
      intro i0_1 i0_2 out ls hm hl hk
      simp [fX4_sum_L0] at hm
    | succ n ih =>
      intro i0_1 i0_2 out ls hm hl hk
      rw [fX4_sum_L0] at hm
      refine lv_iload_n hx hb dX4_sum_8 rfl (lv_at hl 2 rfl) ?_
      refine lv_aload_n hx hb dX4_sum_9 rfl (lv_at hl 0 rfl) ?_
      refine va_alen hx hb hK.1 hP 0 0 rfl rfl (v := (nI n0)) rfl dX4_sum_10 ?_
      refine lv_icmp_ge (tgt := 26) hx hb dX4_sum_11 (by decide) (fun zc1 => ?_) (fun zc1 => ?_)
      · replace hm := (if_pos zc1).symm.trans hm
        obtain rfl := Option.some.inj hm
        exact hk ls (lv_sub hl [1] rfl)
      · replace hm := (if_neg zc1).symm.trans hm
        refine lv_iload_n hx hb dX4_sum_14 rfl (lv_at hl 1 rfl) ?_
        refine lv_aload_n hx hb dX4_sum_15 rfl (lv_at hl 0 rfl) ?_
        refine lv_iload_n hx hb dX4_sum_16 rfl (lv_at hl 2 rfl) ?_
        obtain ⟨zb2, hm⟩ := ibk hm
        refine va_iald hx hb hK.1 hP 0 0 rfl rfl zb2 dX4_sum_17 ?_
        refine lv_iadd hx hb dX4_sum_18 ?_
        obtain ⟨zv3, ezv3, hm⟩ := bnk hm
        refine tope ezv3 ?_
        refine lv_istore_n (lv' := [(1, .int zv3), (0, .ref t0), (2, .int i0_2)]) hx hb dX4_sum_19 rfl hl (by decide) rfl (fun ls hl => ?_)
        refine lv_iinc (v := i0_2 + 1) (lv' := [(2, .int (i0_2 + 1)), (1, .int zv3), (0, .ref t0)]) hx hb dX4_sum_20 hl (k := 2) rfl rfl (by decide) rfl (fun ls hl => ?_)
        refine lv_goto (tgt := 8) hx hb dX4_sum_23 (by decide) ?_
        exact ih zv3 (i0_2 + 1) out ls hm (lv_sub hl [2, 1, 0] rfl) hk
  refine lv_iconst (v := 0) hx hb dX4_sum_0 (by decide) ?_
  refine lv_istore_n (lv' := [(1, .int 0), (0, .ref t0)]) hx hb dX4_sum_1 rfl hl (by decide) rfl (fun ls hl => ?_)
  refine lv_aload_n hx hb dX4_sum_2 rfl (lv_at hl 1 rfl) ?_
  refine lv_ifnull hx hb dX4_sum_3 ?_
  refine lv_iconst (v := 0) hx hb dX4_sum_6 (by decide) ?_
  refine lv_istore_n (lv' := [(2, .int 0), (1, .int 0), (0, .ref t0)]) hx hb dX4_sum_7 rfl hl (by decide) rfl (fun ls hl => ?_)
  obtain ⟨zq4, hzq4, hm⟩ := bdk hm
  refine hL0 _ 1000 0 0 zq4 _ hzq4 (lv_sub hl [2, 1, 0] rfl) (fun ls hl => ?_)
  refine lv_iload_n hx hb dX4_sum_26 rfl (lv_at hl 0 rfl) ?_
  exact W.iret (v := zq4) hx hb hr (fun t ht hW => ⟨_, rfl, (Option.some.inj hm), ht⟩) (fun _ h => nomatch h) dX4_sum_27
def fX4_fill_L0 (n0 : Nat) (p1 : Int32) : Nat → Int32 → AF → Option (AF)
  | 0, _, _ => none
  | n + 1, i0_2, f00 => (if (nI n0) ≤ i0_2 then (some f00) else (if ib i0_2 n0 = true then (fX4_fill_L0 n0 p1 n (i0_2 + 1) (upd f00 i0_2.toNatClampNeg p1)) else none))
def fX4_fill (f0 : AF) (n0 : Nat) (p1 : Int32) : Option (AF) := ((fX4_fill_L0 n0 p1 1000 0 f0).bind (fun zq3 => some zq3))
abbrev rm_X4_fill : Jvm.Room := { frames := 0, cells := 0, slots := 0, locals := 0 }
theorem hs_X4_fill : yX4_fill.cls ≠ "java/lang/invoke/MethodHandle" ∧ yX4_fill.cls ≠ "java/lang/invoke/VarHandle" ∧ (parseMethodDescriptor yX4_fill.desc).map (fun d => d.parameters.length) = some 2 := by decide +kernel
set_option maxHeartbeats 4000000 in
set_option maxRecDepth 100000 in
theorem kX4_fill (l : Launch) (g : CX) (t0 : Nat) (sz : Nat) (f0 : AF) (n0 : Nat) (p1 : Int32) (res : AF) (hm0 : fX4_fill f0 n0 p1 = some res) : Met l yX4_fill (wg yX4_fill cX4_fill 3 none) rm_X4_fill (PW g [.ref t0, .int p1] sz ([(t0, .inl (g.2.1, n0, .inl f0))])) (va_Qv (fun u => u = res) (fun u t => va_P g.1 vwCl ([(t0, .inl (g.2.1, n0, .inl u))]) t.heap) (va_A ([(t0, .inl (g.2.1, n0, .inl f0))]) sz)) 0 0 (va_A ([(t0, .inl (g.2.1, n0, .inl f0))]) sz) := by
  refine Met.ofW (cc := cX4_fill) (maxL := 3) (ret := none) (by decide) rfl ?_
  intro p e s m args below meth c s₁ B hml hv
  obtain ⟨rfl, hsz, hP, hK, hD0, hL⟩ := hv
  have hx := B.exec
  have hb := B.bytes
  have hr := B.returns
  have htG := wg_G (atoms_spec (ws := wg yX4_fill cX4_fill 3 none) B.pre)
  have hown : s.vm.findClass RX4 = some m.cls := findClass_of_methodNamed B.named
  have hlocks := B.notSynchronized
  subst hsz
  have hD := hD0.self (sz := s.heap.size)
  generalize hAe : va_A ([(t0, .inl (g.2.1, n0, .inl f0))]) s.heap.size = A at hD hL ⊢
  have hA : ∀ q : Nat, s.heap.size ≤ q → A q := fun q h => by rw [← hAe]; exact Or.inr h
  have hS : va_S A s.heap s.heap [] := va_S.rf
  have hl := lv_entry ([.ref t0, .int p1]) (n := 3) (Nat.le_of_ble_eq_true rfl)
  rw [lg_entry_eq]
  generalize (lg_sl ([.ref t0, .int p1]) ++ List.replicate (3 - (lg_sl ([.ref t0, .int p1])).length) Slot.unset).toArray = ls at hl ⊢
  have hl : lv_has ls 3 [(0, .ref t0), (1, .int p1)] := hl
  have hm := hm0
  unfold fX4_fill at hm
  have hL0 : ∀ (Q : State → Prop), ∀ (n : Nat) (i0_2 : Int32) (f00 : AF) (out : AF) (H : Heap) (locs : List Loc) (ls : Array Slot), fX4_fill_L0 n0 p1 n i0_2 f00 = some out → va_P g.1 vwCl ([(t0, .inl (g.2.1, n0, .inl f00))]) H → va_D A ([(t0, .inl (g.2.1, n0, .inl f00))]) → va_S A s.heap H locs → lv_has ls 3 [(0, .ref t0), (1, .int p1), (2, .int i0_2)] → (∀ (H : Heap) (locs : List Loc) (ls : Array Slot), va_P g.1 vwCl ([(t0, .inl (g.2.1, n0, .inl out))]) H → va_D A ([(t0, .inl (g.2.1, n0, .inl out))]) → va_S A s.heap H locs → lv_has ls 3 [] → W p l e (headSpec (wg yX4_fill cX4_fill 3 none) rm_X4_fill).room s m (([.ref t0, .int p1] : List Value).toArray) below meth c H locs 0 0 Q (F0 m 22 ls [])) → W p l e (headSpec (wg yX4_fill cX4_fill 3 none) rm_X4_fill).room s m (([.ref t0, .int p1] : List Value).toArray) below meth c H locs 0 0 Q (F0 m 6 ls []) := by
    intro Q n
    induction n with
    | zero =>
      intro i0_2 f00 out H locs ls hm hP hD hS hl hk
      simp [fX4_fill_L0] at hm
    | succ n ih =>
      intro i0_2 f00 out H locs ls hm hP hD hS hl hk
      rw [fX4_fill_L0] at hm
      refine lv_iload_n hx hb dX4_fill_6 rfl (lv_at hl 2 rfl) ?_
      refine lv_aload_n hx hb dX4_fill_7 rfl (lv_at hl 0 rfl) ?_
      refine va_alen hx hb hK.1 hP 0 0 rfl rfl (v := (nI n0)) rfl dX4_fill_8 ?_
      refine lv_icmp_ge (tgt := 22) hx hb dX4_fill_9 (by decide) (fun zc1 => ?_) (fun zc1 => ?_)
      · replace hm := (if_pos zc1).symm.trans hm
        obtain rfl := Option.some.inj hm
        exact hk H locs ls hP hD hS (lv_sub hl [] rfl)
      · replace hm := (if_neg zc1).symm.trans hm
        refine lv_aload_n hx hb dX4_fill_12 rfl (lv_at hl 0 rfl) ?_
        refine lv_iload_n hx hb dX4_fill_13 rfl (lv_at hl 2 rfl) ?_
        refine lv_iload_n hx hb dX4_fill_14 rfl (lv_at hl 1 rfl) ?_
        obtain ⟨zb2, hm⟩ := ibk hm
        refine va_iast hx hb hK.1 hP hD hS 0 0 rfl rfl zb2 dX4_fill_15 (fun H locs hP hD hS => ?_)
        have hP : va_P g.1 vwCl ([(t0, .inl (g.2.1, n0, .inl (upd f00 i0_2.toNatClampNeg p1)))]) H := hP
        have hD : va_D A ([(t0, .inl (g.2.1, n0, .inl (upd f00 i0_2.toNatClampNeg p1)))]) := hD
        refine lv_iinc (v := i0_2 + 1) (lv' := [(2, .int (i0_2 + 1)), (0, .ref t0), (1, .int p1)]) hx hb dX4_fill_16 hl (k := 2) rfl rfl (by decide) rfl (fun ls hl => ?_)
        refine lv_goto (tgt := 6) hx hb dX4_fill_19 (by decide) ?_
        exact ih (i0_2 + 1) (upd f00 i0_2.toNatClampNeg p1) out H locs ls hm hP hD hS (lv_sub hl [1, 2, 0] rfl) hk
  refine lv_aload_n hx hb dX4_fill_0 rfl (lv_at hl 0 rfl) ?_
  refine lv_ifnull hx hb dX4_fill_1 ?_
  refine lv_iconst (v := 0) hx hb dX4_fill_4 (by decide) ?_
  refine lv_istore_n (lv' := [(2, .int 0), (0, .ref t0), (1, .int p1)]) hx hb dX4_fill_5 rfl hl (by decide) rfl (fun ls hl => ?_)
  obtain ⟨zq3, hzq3, hm⟩ := bdk hm
  refine hL0 _ 1000 0 f0 zq3 _ _ _ hzq3 hP hD hS (lv_sub hl [1, 2, 0] rfl) (fun H locs ls hP hD hS hl => ?_)
  exact W.vret hx hb hr (fun t ht hW => ⟨⟨_, rfl, (Option.some.inj hm), atH ht hP⟩, hS.F ht⟩) hS.2.2 dX4_fill_22
