def fX9_fault_L0  : Nat → MD → Option (MD)
  | 0, _ => none
  | n + 1, x0 => (if x0.2.2.2.2.2.2.1 = 0 then (some x0) else (if x0.2.2.2.2.1 ≤ x0.2.2.2.2.2.1 then (some x0) else ((fX9_takes x0 44).bind (fun zq4 => ((fX9_reads zq4).bind (fun zq5 => (fX9_fault_L0  n zq5)))))))
def fX9_fault (x : MD) : Option (Int32 × MD) := ((fX9_reads (x.1, x.2.1, x.2.2.1, x.2.2.2.1, x.2.2.2.2.1, 0, 1, x.2.2.2.2.2.2.2.1, 0, x.2.2.2.2.2.2.2.2.2.1, x.2.2.2.2.2.2.2.2.2.2)).bind (fun zq1 => ((fX9_fault_L0 1000 zq1).bind (fun zq6 => (if zq6.2.2.2.2.2.2.1 = 0 then some (zq6.2.2.2.2.2.1, zq6) else some ((-1), zq6))))))
abbrev rm_X9_fault : Jvm.Room := { frames := 4, cells := 0, slots := 0, locals := 89 }
theorem hd_X9_fault : yX9_fault.cls = RX9 ∧ yX9_fault.cls ≠ "java/lang/invoke/MethodHandle" ∧ yX9_fault.cls ≠ "java/lang/invoke/VarHandle" ∧ (parseMethodDescriptor yX9_fault.desc).map (fun d => d.parameters.length) = some 0 := by decide +kernel
set_option maxHeartbeats 4000000 in
set_option maxRecDepth 100000 in
theorem kX9_fault (l : Launch) (g : CX) (h0 h1 h2 h3 : Nat) (sz : Nat) (x : MD) (res : Int32 × MD) (hm0 : fX9_fault x = some res) : Met l yX9_fault (wg yX9_fault cX9_fault 1 (some .int)) rm_X9_fault (PW g [.ref h0] sz (w_X9 g h0 h1 h2 h3 x)) (va_Qi (fun v u => v = res.1 ∧ u = res.2) (fun u t => va_P g.1 vwCl (w_X9 g h0 h1 h2 h3 u) t.heap) (va_A (w_X9 g h0 h1 h2 h3 x) sz)) 0 0 (va_A (w_X9 g h0 h1 h2 h3 x) sz) := by
  refine Met.ofW (cc := cX9_fault) (maxL := 1) (ret := (some .int)) (by decide) rfl ?_
  intro p e s m args below meth c s₁ B hml hv
  obtain ⟨rfl, hsz, hP, hK, hD0, hL⟩ := hv
  have hx := B.exec
  have hb := B.bytes
  have hr := B.returns
  have htG := wg_G (atoms_spec (ws := wg yX9_fault cX9_fault 1 (some .int)) B.pre)
  have hown : s.vm.findClass RX9 = some m.cls := findClass_of_methodNamed B.named
  have hlocks := B.notSynchronized
  subst hsz
  have hD := hD0.self (sz := s.heap.size)
  generalize hAe : va_A (w_X9 g h0 h1 h2 h3 x) s.heap.size = A at hD hL ⊢
  have hA : ∀ q : Nat, s.heap.size ≤ q → A q := fun q h => by rw [← hAe]; exact Or.inr h
  have hS : va_S A s.heap s.heap [] := va_S.rf
  have hl := lv_entry ([.ref h0]) (n := 1) (Nat.le_of_ble_eq_true rfl)
  rw [lg_entry_eq]
  generalize (lg_sl ([.ref h0]) ++ List.replicate (1 - (lg_sl ([.ref h0])).length) Slot.unset).toArray = ls at hl ⊢
  have hl : lv_has ls 1 [(0, .ref h0)] := hl
  have hm := hm0
  unfold fX9_fault at hm
  have hL0 : ∀ (Q : State → Prop), ∀ (n : Nat) (x0 : MD) (out : MD) (H : Heap) (locs : List Loc) (ls : Array Slot), fX9_fault_L0 n x0 = some out → va_P g.1 vwCl (w_X9 g h0 h1 h2 h3 x0) H → va_D A (w_X9 g h0 h1 h2 h3 x0) → va_S A s.heap H locs → lv_has ls 1 [(0, .ref h0)] → (∀ (H : Heap) (locs : List Loc) (ls : Array Slot), va_P g.1 vwCl (w_X9 g h0 h1 h2 h3 out) H → va_D A (w_X9 g h0 h1 h2 h3 out) → va_S A s.heap H locs → lv_has ls 1 [(0, .ref h0)] → W p l e (headSpec (wg yX9_fault cX9_fault 1 (some .int)) rm_X9_fault).room s m (([.ref h0] : List Value).toArray) below meth c H locs 0 0 Q (F0 m 50 ls [])) → W p l e (headSpec (wg yX9_fault cX9_fault 1 (some .int)) rm_X9_fault).room s m (([.ref h0] : List Value).toArray) below meth c H locs 0 0 Q (F0 m 19 ls []) := by
    intro Q n
    induction n with
    | zero =>
      intro x0 out H locs ls hm hP hD hS hl hk
      simp [fX9_fault_L0] at hm
    | succ n ih =>
      intro x0 out H locs ls hm hP hD hS hl hk
      rw [fX9_fault_L0] at hm
      refine lv_aload_n hx hb dX9_fault_19 rfl (lv_at hl 0 rfl) ?_
      refine va_get (D := g.1) (ci := 8) (v := .int x0.2.2.2.2.2.2.1) (C := RX9) (T := TX9) (N := 11) hx hb htG in_wsX90 hown hK.1 hP 0 rfl rfl 6 (by decide) (htG _ g3_201) (fun _ h9 => h9) rfl dX9_fault_20 ?_
      refine lv_if_eq (tgt := 50) hx hb dX9_fault_23 (by decide) (fun zc2 => ?_) (fun zc2 => ?_)
      · replace hm := (if_pos zc2).symm.trans hm
        obtain rfl := Option.some.inj hm
        exact hk H locs ls hP hD hS (lv_sub hl [0] rfl)
      · replace hm := (if_neg zc2).symm.trans hm
        refine lv_aload_n hx hb dX9_fault_26 rfl (lv_at hl 0 rfl) ?_
        refine va_get (D := g.1) (ci := 8) (v := .int x0.2.2.2.2.2.1) (C := RX9) (T := TX9) (N := 11) hx hb htG in_wsX90 hown hK.1 hP 0 rfl rfl 5 (by decide) (htG _ g3_200) (fun _ h9 => h9) rfl dX9_fault_27 ?_
        refine lv_aload_n hx hb dX9_fault_30 rfl (lv_at hl 0 rfl) ?_
        refine va_get (D := g.1) (ci := 8) (v := .int x0.2.2.2.2.1) (C := RX9) (T := TX9) (N := 11) hx hb htG in_wsX90 hown hK.1 hP 0 rfl rfl 4 (by decide) (htG _ g3_199) (fun _ h9 => h9) rfl dX9_fault_31 ?_
        refine lv_icmp_ge (tgt := 50) hx hb dX9_fault_34 (by decide) (fun zc3 => ?_) (fun zc3 => ?_)
        · replace hm := (if_pos zc3).symm.trans hm
          obtain rfl := Option.some.inj hm
          exact hk H locs ls hP hD hS (lv_sub hl [0] rfl)
        · replace hm := (if_neg zc3).symm.trans hm
          refine lv_aload_n hx hb dX9_fault_37 rfl (lv_at hl 0 rfl) ?_
          refine lv_bipush (v := 44) hx hb dX9_fault_38 (by decide +kernel) ?_
          obtain ⟨zq4, hzq4, hm⟩ := bdk hm
          refine kw_veA (va_runV (As := [.int 44]) (rest := []) ⟨hx, hb, hml, hown, htG⟩ (kX9_takes l g h0 h1 h2 h3 _ x0 44 _ hzq4) (cwV 1 htG (GV g4_120 g4_122 gS_30 g1_10 g4_123) rfl rfl rfl hd_X9_takes ⟨Nat.le_of_ble_eq_true rfl, Nat.le_of_ble_eq_true rfl⟩) (PW_VA hK hL hS hP hD hA (ci := 8) rfl 0 rfl) rfl rfl hl.1 rfl (lv_room (Nat.le_of_ble_eq_true rfl)) dX9_fault_40 ⟨Nat.zero_le _, Nat.zero_le _⟩) hD hS hA (fun _ => rfl) (fun H locs hP hD hS => ?_)
          have hP : va_P g.1 vwCl (w_X9 g h0 h1 h2 h3 zq4) H := hP
          have hD : va_D A (w_X9 g h0 h1 h2 h3 zq4) := hD
          refine lv_aload_n hx hb dX9_fault_43 rfl (lv_at hl 0 rfl) ?_
          obtain ⟨zq5, hzq5, hm⟩ := bdk hm
          refine kw_veA (va_runV (As := []) (rest := []) ⟨hx, hb, hml, hown, htG⟩ (kX9_reads l g h0 h1 h2 h3 _ zq4 _ hzq5) (cwV 0 htG (GV g4_108 g4_110 gS_27 g1_10 g4_111) rfl rfl rfl hd_X9_reads ⟨Nat.le_of_ble_eq_true rfl, Nat.le_of_ble_eq_true rfl⟩) (PW_VA hK hL hS hP hD hA (ci := 8) rfl 0 rfl) rfl rfl hl.1 rfl (lv_room (Nat.le_of_ble_eq_true rfl)) dX9_fault_44 ⟨Nat.zero_le _, Nat.zero_le _⟩) hD hS hA (fun _ => rfl) (fun H locs hP hD hS => ?_)
          have hP : va_P g.1 vwCl (w_X9 g h0 h1 h2 h3 zq5) H := hP
          have hD : va_D A (w_X9 g h0 h1 h2 h3 zq5) := hD
          refine lv_goto (tgt := 19) hx hb dX9_fault_47 (by decide) ?_
          exact ih zq5 out H locs ls hm hP hD hS (lv_sub hl [0] rfl) hk
  refine lv_aload_n hx hb dX9_fault_0 rfl (lv_at hl 0 rfl) ?_
  refine lv_iconst (v := 0) hx hb dX9_fault_1 (by decide) ?_
  refine va_put (D := g.1) (ci := 8) (v := .int 0) (ty := .int) (C := RX9) (T := TX9) (N := 11) hx hb htG in_wsX90 tyX9 tyX9_ok nmX9 hown hK.1 hP hD hS 0 rfl rfl 5 (by decide) (htG _ g3_200) (fun _ h9 => h9) rfl (by decide +kernel) rfl rfl (Nat.le_of_ble_eq_true rfl) dX9_fault_2 (fun H locs hP hD hS => ?_)
  have hP : va_P g.1 vwCl (w_X9 g h0 h1 h2 h3 (x.1, x.2.1, x.2.2.1, x.2.2.2.1, x.2.2.2.2.1, 0, x.2.2.2.2.2.2.1, x.2.2.2.2.2.2.2.1, x.2.2.2.2.2.2.2.2.1, x.2.2.2.2.2.2.2.2.2.1, x.2.2.2.2.2.2.2.2.2.2)) H := hP
  have hD : va_D A (w_X9 g h0 h1 h2 h3 (x.1, x.2.1, x.2.2.1, x.2.2.2.1, x.2.2.2.2.1, 0, x.2.2.2.2.2.2.1, x.2.2.2.2.2.2.2.1, x.2.2.2.2.2.2.2.2.1, x.2.2.2.2.2.2.2.2.2.1, x.2.2.2.2.2.2.2.2.2.2)) := hD
  refine lv_aload_n hx hb dX9_fault_5 rfl (lv_at hl 0 rfl) ?_
  refine lv_iconst (v := 1) hx hb dX9_fault_6 (by decide) ?_
  refine va_put (D := g.1) (ci := 8) (v := .int 1) (ty := .boolean) (C := RX9) (T := TX9) (N := 11) hx hb htG in_wsX90 tyX9 tyX9_ok nmX9 hown hK.1 hP hD hS 0 rfl rfl 6 (by decide) (htG _ g3_201) (fun _ h9 => h9) rfl (by decide +kernel) rfl rfl (Nat.le_of_ble_eq_true rfl) dX9_fault_7 (fun H locs hP hD hS => ?_)
  have hP : va_P g.1 vwCl (w_X9 g h0 h1 h2 h3 (x.1, x.2.1, x.2.2.1, x.2.2.2.1, x.2.2.2.2.1, 0, 1, x.2.2.2.2.2.2.2.1, x.2.2.2.2.2.2.2.2.1, x.2.2.2.2.2.2.2.2.2.1, x.2.2.2.2.2.2.2.2.2.2)) H := hP
  have hD : va_D A (w_X9 g h0 h1 h2 h3 (x.1, x.2.1, x.2.2.1, x.2.2.2.1, x.2.2.2.2.1, 0, 1, x.2.2.2.2.2.2.2.1, x.2.2.2.2.2.2.2.2.1, x.2.2.2.2.2.2.2.2.2.1, x.2.2.2.2.2.2.2.2.2.2)) := hD
  refine lv_aload_n hx hb dX9_fault_10 rfl (lv_at hl 0 rfl) ?_
  refine lv_iconst (v := 0) hx hb dX9_fault_11 (by decide) ?_
  refine va_put (D := g.1) (ci := 8) (v := .int 0) (ty := .int) (C := RX9) (T := TX9) (N := 11) hx hb htG in_wsX90 tyX9 tyX9_ok nmX9 hown hK.1 hP hD hS 0 rfl rfl 8 (by decide) (htG _ g3_203) (fun _ h9 => h9) rfl (by decide +kernel) rfl rfl (Nat.le_of_ble_eq_true rfl) dX9_fault_12 (fun H locs hP hD hS => ?_)
  have hP : va_P g.1 vwCl (w_X9 g h0 h1 h2 h3 (x.1, x.2.1, x.2.2.1, x.2.2.2.1, x.2.2.2.2.1, 0, 1, x.2.2.2.2.2.2.2.1, 0, x.2.2.2.2.2.2.2.2.2.1, x.2.2.2.2.2.2.2.2.2.2)) H := hP
  have hD : va_D A (w_X9 g h0 h1 h2 h3 (x.1, x.2.1, x.2.2.1, x.2.2.2.1, x.2.2.2.2.1, 0, 1, x.2.2.2.2.2.2.2.1, 0, x.2.2.2.2.2.2.2.2.2.1, x.2.2.2.2.2.2.2.2.2.2)) := hD
  refine lv_aload_n hx hb dX9_fault_15 rfl (lv_at hl 0 rfl) ?_
  obtain ⟨zq1, hzq1, hm⟩ := bdk hm
  refine kw_veA (va_runV (As := []) (rest := []) ⟨hx, hb, hml, hown, htG⟩ (kX9_reads l g h0 h1 h2 h3 _ (x.1, x.2.1, x.2.2.1, x.2.2.2.1, x.2.2.2.2.1, 0, 1, x.2.2.2.2.2.2.2.1, 0, x.2.2.2.2.2.2.2.2.2.1, x.2.2.2.2.2.2.2.2.2.2) _ hzq1) (cwV 0 htG (GV g4_108 g4_110 gS_27 g1_10 g4_111) rfl rfl rfl hd_X9_reads ⟨Nat.le_of_ble_eq_true rfl, Nat.le_of_ble_eq_true rfl⟩) (PW_VA hK hL hS hP hD hA (ci := 8) rfl 0 rfl) rfl rfl hl.1 rfl (lv_room (Nat.le_of_ble_eq_true rfl)) dX9_fault_16 ⟨Nat.zero_le _, Nat.zero_le _⟩) hD hS hA (fun _ => rfl) (fun H locs hP hD hS => ?_)
  have hP : va_P g.1 vwCl (w_X9 g h0 h1 h2 h3 zq1) H := hP
  have hD : va_D A (w_X9 g h0 h1 h2 h3 zq1) := hD
  obtain ⟨zq6, hzq6, hm⟩ := bdk hm
  refine hL0 _ 1000 zq1 zq6 _ _ _ hzq6 hP hD hS (lv_sub hl [0] rfl) (fun H locs ls hP hD hS hl => ?_)
  refine lv_aload_n hx hb dX9_fault_50 rfl (lv_at hl 0 rfl) ?_
  refine va_get (D := g.1) (ci := 8) (v := .int zq6.2.2.2.2.2.2.1) (C := RX9) (T := TX9) (N := 11) hx hb htG in_wsX90 hown hK.1 hP 0 rfl rfl 6 (by decide) (htG _ g3_201) (fun _ h9 => h9) rfl dX9_fault_51 ?_
  refine lv_if_eq (tgt := 61) hx hb dX9_fault_54 (by decide) (fun zc7 => ?_) (fun zc7 => ?_)
  · replace hm := (if_pos zc7).symm.trans hm
    refine lv_aload_n hx hb dX9_fault_61 rfl (lv_at hl 0 rfl) ?_
    refine va_get (D := g.1) (ci := 8) (v := .int zq6.2.2.2.2.2.1) (C := RX9) (T := TX9) (N := 11) hx hb htG in_wsX90 hown hK.1 hP 0 rfl rfl 5 (by decide) (htG _ g3_200) (fun _ h9 => h9) rfl dX9_fault_62 ?_
    exact W.iret (v := zq6.2.2.2.2.2.1) hx hb hr (fun t ht hW => ⟨⟨_, _, rfl, pr1 (Option.some.inj hm), atH ht hP⟩, hS.F ht⟩) hS.2.2 dX9_fault_65
  · replace hm := (if_neg zc7).symm.trans hm
    refine lv_iconst (v := (-1)) hx hb dX9_fault_57 (by decide) ?_
    refine lv_goto (tgt := 65) hx hb dX9_fault_58 (by decide) ?_
    exact W.iret (v := (-1)) hx hb hr (fun t ht hW => ⟨⟨_, _, rfl, pr1 (Option.some.inj hm), atH ht hP⟩, hS.F ht⟩) hS.2.2 dX9_fault_65
def fX9_performs (x : MD) (p1 : Int32) : Option (Int32 × MD) := (if ib (6 * p1) 246 = true then (if (x.2.2.2.2.2.2.2.1 ((6 * p1).toNatClampNeg)) = 98 then (if ib ((6 * p1) + 1) 246 = true then (if ib ((6 * p1) + 2) 246 = true then (if ib ((6 * p1) + 3) 246 = true then (if ib ((6 * p1) + 4) 246 = true then (if ib ((6 * p1) + 5) 246 = true then ((fX9_bidsBy x 6 (x.2.2.2.2.2.2.2.1 (((6 * p1) + 1).toNatClampNeg)) (x.2.2.2.2.2.2.2.1 (((6 * p1) + 2).toNatClampNeg)) (x.2.2.2.2.2.2.2.1 (((6 * p1) + 3).toNatClampNeg)) (x.2.2.2.2.2.2.2.1 (((6 * p1) + 4).toNatClampNeg)) (x.2.2.2.2.2.2.2.1 (((6 * p1) + 5).toNatClampNeg))).bind (fun zq8 => some (zq8.1, zq8.2))) else none) else none) else none) else none) else none) else (if (x.2.2.2.2.2.2.2.1 ((6 * p1).toNatClampNeg)) = 99 then ((fX9_begins x 6).bind (fun zq10 => some (zq10.1, zq10.2))) else (if (x.2.2.2.2.2.2.2.1 ((6 * p1).toNatClampNeg)) = 100 then (if ib ((6 * p1) + 1) 246 = true then ((fX9_does x 6 (x.2.2.2.2.2.2.2.1 (((6 * p1) + 1).toNatClampNeg))).bind (fun zq13 => some (zq13.1, zq13.2))) else none) else (if (x.2.2.2.2.2.2.2.1 ((6 * p1).toNatClampNeg)) = 101 then (if ib ((6 * p1) + 1) 246 = true then (if ib ((6 * p1) + 2) 246 = true then ((fX9_expects x 6 (x.2.2.2.2.2.2.2.1 (((6 * p1) + 1).toNatClampNeg)) (x.2.2.2.2.2.2.2.1 (((6 * p1) + 2).toNatClampNeg))).bind (fun zq17 => some (zq17.1, zq17.2))) else none) else none) else ((fX9_begins x 6).bind (fun zq18 => some (zq18.1, zq18.2))))))) else none)
abbrev rm_X9_performs : Jvm.Room := { frames := 5, cells := 0, slots := 0, locals := 122 }
theorem hd_X9_performs : yX9_performs.cls = RX9 ∧ yX9_performs.cls ≠ "java/lang/invoke/MethodHandle" ∧ yX9_performs.cls ≠ "java/lang/invoke/VarHandle" ∧ (parseMethodDescriptor yX9_performs.desc).map (fun d => d.parameters.length) = some 1 := by decide +kernel
set_option maxHeartbeats 4000000 in
set_option maxRecDepth 100000 in
theorem kX9_performs (l : Launch) (g : CX) (h0 h1 h2 h3 : Nat) (sz : Nat) (x : MD) (p1 : Int32) (res : Int32 × MD) (hm0 : fX9_performs x p1 = some res) : Met l yX9_performs (wg yX9_performs cX9_performs 3 (some .int)) rm_X9_performs (PW g [.ref h0, .int p1] sz (w_X9 g h0 h1 h2 h3 x)) (va_Qi (fun v u => v = res.1 ∧ u = res.2) (fun u t => va_P g.1 vwCl (w_X9 g h0 h1 h2 h3 u) t.heap) (va_A (w_X9 g h0 h1 h2 h3 x) sz)) 0 0 (va_A (w_X9 g h0 h1 h2 h3 x) sz) := by
  refine Met.ofW (cc := cX9_performs) (maxL := 3) (ret := (some .int)) (by decide) rfl ?_
  intro p e s m args below meth c s₁ B hml hv
  obtain ⟨rfl, hsz, hP, hK, hD0, hL⟩ := hv
  have hx := B.exec
  have hb := B.bytes
  have hr := B.returns
  have htG := wg_G (atoms_spec (ws := wg yX9_performs cX9_performs 3 (some .int)) B.pre)
  have hown : s.vm.findClass RX9 = some m.cls := findClass_of_methodNamed B.named
  have hlocks := B.notSynchronized
  subst hsz
  have hD := hD0.self (sz := s.heap.size)
  generalize hAe : va_A (w_X9 g h0 h1 h2 h3 x) s.heap.size = A at hD hL ⊢
  have hA : ∀ q : Nat, s.heap.size ≤ q → A q := fun q h => by rw [← hAe]; exact Or.inr h
  have hS : va_S A s.heap s.heap [] := va_S.rf
  have hl := lv_entry ([.ref h0, .int p1]) (n := 3) (Nat.le_of_ble_eq_true rfl)
  rw [lg_entry_eq]
  generalize (lg_sl ([.ref h0, .int p1]) ++ List.replicate (3 - (lg_sl ([.ref h0, .int p1])).length) Slot.unset).toArray = ls at hl ⊢
  have hl : lv_has ls 3 [(0, .ref h0), (1, .int p1)] := hl
  have hm := hm0
  unfold fX9_performs at hm
  refine lv_bipush (v := 6) hx hb dX9_performs_0 (by decide +kernel) ?_
  refine lv_iload_n hx hb dX9_performs_2 rfl (lv_at hl 1 rfl) ?_
  refine lv_imul hx hb dX9_performs_3 ?_
  refine lv_istore_n (lv' := [(2, .int (6 * p1)), (0, .ref h0), (1, .int p1)]) hx hb dX9_performs_4 rfl hl (by decide) rfl (fun ls hl => ?_)
  refine lv_aload_n hx hb dX9_performs_5 rfl (lv_at hl 1 rfl) ?_
  refine va_get (D := g.1) (ci := 8) (v := .ref h3) (C := RX9) (T := TX9) (N := 11) hx hb htG in_wsX90 hown hK.1 hP 0 rfl rfl 7 (by decide) (htG _ g3_202) (fun _ h9 => h9) rfl dX9_performs_6 ?_
  refine lv_iload_n hx hb dX9_performs_9 rfl (lv_at hl 0 rfl) ?_
  obtain ⟨zb1, hm⟩ := ibk hm
  refine va_iald hx hb hK.1 hP 3 0 rfl rfl zb1 dX9_performs_10 ?_
  by_cases zc2 : (x.2.2.2.2.2.2.2.1 ((6 * p1).toNatClampNeg)) = 98
  · replace hm := (if_pos zc2).symm.trans hm
    refine lv_tableIn (tgt := 40) hx hb dX9_performs_11 (by rw [zc2]; decide) (by rw [zc2]; decide) (by rw [zc2]; rfl) (by decide) ?_
    refine lv_aload_n hx hb dX9_performs_40 rfl (lv_at hl 1 rfl) ?_
    refine lv_bipush (v := 6) hx hb dX9_performs_41 (by decide +kernel) ?_
    refine lv_aload_n hx hb dX9_performs_43 rfl (lv_at hl 1 rfl) ?_
    refine va_get (D := g.1) (ci := 8) (v := .ref h3) (C := RX9) (T := TX9) (N := 11) hx hb htG in_wsX90 hown hK.1 hP 0 rfl rfl 7 (by decide) (htG _ g3_202) (fun _ h9 => h9) rfl dX9_performs_44 ?_
    refine lv_iload_n hx hb dX9_performs_47 rfl (lv_at hl 0 rfl) ?_
    refine lv_iconst (v := 1) hx hb dX9_performs_48 (by decide) ?_
    refine lv_iadd hx hb dX9_performs_49 ?_
    obtain ⟨zb3, hm⟩ := ibk hm
    refine va_iald hx hb hK.1 hP 3 0 rfl rfl zb3 dX9_performs_50 ?_
    refine lv_aload_n hx hb dX9_performs_51 rfl (lv_at hl 1 rfl) ?_
    refine va_get (D := g.1) (ci := 8) (v := .ref h3) (C := RX9) (T := TX9) (N := 11) hx hb htG in_wsX90 hown hK.1 hP 0 rfl rfl 7 (by decide) (htG _ g3_202) (fun _ h9 => h9) rfl dX9_performs_52 ?_
    refine lv_iload_n hx hb dX9_performs_55 rfl (lv_at hl 0 rfl) ?_
    refine lv_iconst (v := 2) hx hb dX9_performs_56 (by decide) ?_
    refine lv_iadd hx hb dX9_performs_57 ?_
    obtain ⟨zb4, hm⟩ := ibk hm
    refine va_iald hx hb hK.1 hP 3 0 rfl rfl zb4 dX9_performs_58 ?_
    refine lv_aload_n hx hb dX9_performs_59 rfl (lv_at hl 1 rfl) ?_
    refine va_get (D := g.1) (ci := 8) (v := .ref h3) (C := RX9) (T := TX9) (N := 11) hx hb htG in_wsX90 hown hK.1 hP 0 rfl rfl 7 (by decide) (htG _ g3_202) (fun _ h9 => h9) rfl dX9_performs_60 ?_
    refine lv_iload_n hx hb dX9_performs_63 rfl (lv_at hl 0 rfl) ?_
    refine lv_iconst (v := 3) hx hb dX9_performs_64 (by decide) ?_
    refine lv_iadd hx hb dX9_performs_65 ?_
    obtain ⟨zb5, hm⟩ := ibk hm
    refine va_iald hx hb hK.1 hP 3 0 rfl rfl zb5 dX9_performs_66 ?_
    refine lv_aload_n hx hb dX9_performs_67 rfl (lv_at hl 1 rfl) ?_
    refine va_get (D := g.1) (ci := 8) (v := .ref h3) (C := RX9) (T := TX9) (N := 11) hx hb htG in_wsX90 hown hK.1 hP 0 rfl rfl 7 (by decide) (htG _ g3_202) (fun _ h9 => h9) rfl dX9_performs_68 ?_
    refine lv_iload_n hx hb dX9_performs_71 rfl (lv_at hl 0 rfl) ?_
    refine lv_iconst (v := 4) hx hb dX9_performs_72 (by decide) ?_
    refine lv_iadd hx hb dX9_performs_73 ?_
    obtain ⟨zb6, hm⟩ := ibk hm
    refine va_iald hx hb hK.1 hP 3 0 rfl rfl zb6 dX9_performs_74 ?_
    refine lv_aload_n hx hb dX9_performs_75 rfl (lv_at hl 1 rfl) ?_
    refine va_get (D := g.1) (ci := 8) (v := .ref h3) (C := RX9) (T := TX9) (N := 11) hx hb htG in_wsX90 hown hK.1 hP 0 rfl rfl 7 (by decide) (htG _ g3_202) (fun _ h9 => h9) rfl dX9_performs_76 ?_
    refine lv_iload_n hx hb dX9_performs_79 rfl (lv_at hl 0 rfl) ?_
    refine lv_iconst (v := 5) hx hb dX9_performs_80 (by decide) ?_
    refine lv_iadd hx hb dX9_performs_81 ?_
    obtain ⟨zb7, hm⟩ := ibk hm
    refine va_iald hx hb hK.1 hP 3 0 rfl rfl zb7 dX9_performs_82 ?_
    obtain ⟨zq8, hzq8, hm⟩ := bdk hm
    refine kw_ieA (va_runV (As := [.int 6, .int (x.2.2.2.2.2.2.2.1 (((6 * p1) + 1).toNatClampNeg)), .int (x.2.2.2.2.2.2.2.1 (((6 * p1) + 2).toNatClampNeg)), .int (x.2.2.2.2.2.2.2.1 (((6 * p1) + 3).toNatClampNeg)), .int (x.2.2.2.2.2.2.2.1 (((6 * p1) + 4).toNatClampNeg)), .int (x.2.2.2.2.2.2.2.1 (((6 * p1) + 5).toNatClampNeg))]) (rest := []) ⟨hx, hb, hml, hown, htG⟩ (kX9_bidsBy l g h0 h1 h2 h3 _ x 6 (x.2.2.2.2.2.2.2.1 (((6 * p1) + 1).toNatClampNeg)) (x.2.2.2.2.2.2.2.1 (((6 * p1) + 2).toNatClampNeg)) (x.2.2.2.2.2.2.2.1 (((6 * p1) + 3).toNatClampNeg)) (x.2.2.2.2.2.2.2.1 (((6 * p1) + 4).toNatClampNeg)) (x.2.2.2.2.2.2.2.1 (((6 * p1) + 5).toNatClampNeg)) _ hzq8) (cwV 6 htG (GV g4_24 g4_26 gS_15 g1_10 g4_27) rfl rfl rfl hd_X9_bidsBy ⟨Nat.le_of_ble_eq_true rfl, Nat.le_of_ble_eq_true rfl⟩) (PW_VA hK hL hS hP hD hA (ci := 8) rfl 0 rfl) rfl rfl hl.1 rfl (lv_room (Nat.le_of_ble_eq_true rfl)) dX9_performs_83 ⟨Nat.zero_le _, Nat.zero_le _⟩) hD hS hA (fun _ => rfl) (fun H locs hP hD hS => ?_)
    have hP : va_P g.1 vwCl (w_X9 g h0 h1 h2 h3 zq8.2) H := hP
    have hD : va_D A (w_X9 g h0 h1 h2 h3 zq8.2) := hD
    exact W.iret (v := zq8.1) hx hb hr (fun t ht hW => ⟨⟨_, _, rfl, pr1 (Option.some.inj hm), atH ht hP⟩, hS.F ht⟩) hS.2.2 dX9_performs_86
  · replace hm := (if_neg zc2).symm.trans hm
    by_cases zc9 : (x.2.2.2.2.2.2.2.1 ((6 * p1).toNatClampNeg)) = 99
    · replace hm := (if_pos zc9).symm.trans hm
      refine lv_tableIn (tgt := 125) hx hb dX9_performs_11 (by rw [zc9]; decide) (by rw [zc9]; decide) (by rw [zc9]; rfl) (by decide) ?_
      refine lv_aload_n hx hb dX9_performs_125 rfl (lv_at hl 1 rfl) ?_
      refine lv_bipush (v := 6) hx hb dX9_performs_126 (by decide +kernel) ?_
      obtain ⟨zq10, hzq10, hm⟩ := bdk hm
      refine kw_ieA (va_runV (As := [.int 6]) (rest := []) ⟨hx, hb, hml, hown, htG⟩ (kX9_begins l g h0 h1 h2 h3 _ x 6 _ hzq10) (cwV 1 htG (GV g4_96 g4_98 gS_25 g1_10 g4_99) rfl rfl rfl hd_X9_begins ⟨Nat.le_of_ble_eq_true rfl, Nat.le_of_ble_eq_true rfl⟩) (PW_VA hK hL hS hP hD hA (ci := 8) rfl 0 rfl) rfl rfl hl.1 rfl (lv_room (Nat.le_of_ble_eq_true rfl)) dX9_performs_128 ⟨Nat.zero_le _, Nat.zero_le _⟩) hD hS hA (fun _ => rfl) (fun H locs hP hD hS => ?_)
      have hP : va_P g.1 vwCl (w_X9 g h0 h1 h2 h3 zq10.2) H := hP
      have hD : va_D A (w_X9 g h0 h1 h2 h3 zq10.2) := hD
      exact W.iret (v := zq10.1) hx hb hr (fun t ht hW => ⟨⟨_, _, rfl, pr1 (Option.some.inj hm), atH ht hP⟩, hS.F ht⟩) hS.2.2 dX9_performs_131
    · replace hm := (if_neg zc9).symm.trans hm
      by_cases zc11 : (x.2.2.2.2.2.2.2.1 ((6 * p1).toNatClampNeg)) = 100
      · replace hm := (if_pos zc11).symm.trans hm
        refine lv_tableIn (tgt := 110) hx hb dX9_performs_11 (by rw [zc11]; decide) (by rw [zc11]; decide) (by rw [zc11]; rfl) (by decide) ?_
        refine lv_aload_n hx hb dX9_performs_110 rfl (lv_at hl 1 rfl) ?_
        refine lv_bipush (v := 6) hx hb dX9_performs_111 (by decide +kernel) ?_
        refine lv_aload_n hx hb dX9_performs_113 rfl (lv_at hl 1 rfl) ?_
        refine va_get (D := g.1) (ci := 8) (v := .ref h3) (C := RX9) (T := TX9) (N := 11) hx hb htG in_wsX90 hown hK.1 hP 0 rfl rfl 7 (by decide) (htG _ g3_202) (fun _ h9 => h9) rfl dX9_performs_114 ?_
        refine lv_iload_n hx hb dX9_performs_117 rfl (lv_at hl 0 rfl) ?_
        refine lv_iconst (v := 1) hx hb dX9_performs_118 (by decide) ?_
        refine lv_iadd hx hb dX9_performs_119 ?_
        obtain ⟨zb12, hm⟩ := ibk hm
        refine va_iald hx hb hK.1 hP 3 0 rfl rfl zb12 dX9_performs_120 ?_
        obtain ⟨zq13, hzq13, hm⟩ := bdk hm
        refine kw_ieA (va_runV (As := [.int 6, .int (x.2.2.2.2.2.2.2.1 (((6 * p1) + 1).toNatClampNeg))]) (rest := []) ⟨hx, hb, hml, hown, htG⟩ (kX9_does l g h0 h1 h2 h3 _ x 6 (x.2.2.2.2.2.2.2.1 (((6 * p1) + 1).toNatClampNeg)) _ hzq13) (cwV 2 htG (GV g4_84 g4_86 gS_23 g1_10 g4_87) rfl rfl rfl hd_X9_does ⟨Nat.le_of_ble_eq_true rfl, Nat.le_of_ble_eq_true rfl⟩) (PW_VA hK hL hS hP hD hA (ci := 8) rfl 0 rfl) rfl rfl hl.1 rfl (lv_room (Nat.le_of_ble_eq_true rfl)) dX9_performs_121 ⟨Nat.zero_le _, Nat.zero_le _⟩) hD hS hA (fun _ => rfl) (fun H locs hP hD hS => ?_)
        have hP : va_P g.1 vwCl (w_X9 g h0 h1 h2 h3 zq13.2) H := hP
        have hD : va_D A (w_X9 g h0 h1 h2 h3 zq13.2) := hD
        exact W.iret (v := zq13.1) hx hb hr (fun t ht hW => ⟨⟨_, _, rfl, pr1 (Option.some.inj hm), atH ht hP⟩, hS.F ht⟩) hS.2.2 dX9_performs_124
      · replace hm := (if_neg zc11).symm.trans hm
        by_cases zc14 : (x.2.2.2.2.2.2.2.1 ((6 * p1).toNatClampNeg)) = 101
        · replace hm := (if_pos zc14).symm.trans hm
          refine lv_tableIn (tgt := 87) hx hb dX9_performs_11 (by rw [zc14]; decide) (by rw [zc14]; decide) (by rw [zc14]; rfl) (by decide) ?_
          refine lv_aload_n hx hb dX9_performs_87 rfl (lv_at hl 1 rfl) ?_
          refine lv_bipush (v := 6) hx hb dX9_performs_88 (by decide +kernel) ?_
          refine lv_aload_n hx hb dX9_performs_90 rfl (lv_at hl 1 rfl) ?_
          refine va_get (D := g.1) (ci := 8) (v := .ref h3) (C := RX9) (T := TX9) (N := 11) hx hb htG in_wsX90 hown hK.1 hP 0 rfl rfl 7 (by decide) (htG _ g3_202) (fun _ h9 => h9) rfl dX9_performs_91 ?_
          refine lv_iload_n hx hb dX9_performs_94 rfl (lv_at hl 0 rfl) ?_
          refine lv_iconst (v := 1) hx hb dX9_performs_95 (by decide) ?_
          refine lv_iadd hx hb dX9_performs_96 ?_
          obtain ⟨zb15, hm⟩ := ibk hm
          refine va_iald hx hb hK.1 hP 3 0 rfl rfl zb15 dX9_performs_97 ?_
          refine lv_aload_n hx hb dX9_performs_98 rfl (lv_at hl 1 rfl) ?_
          refine va_get (D := g.1) (ci := 8) (v := .ref h3) (C := RX9) (T := TX9) (N := 11) hx hb htG in_wsX90 hown hK.1 hP 0 rfl rfl 7 (by decide) (htG _ g3_202) (fun _ h9 => h9) rfl dX9_performs_99 ?_
          refine lv_iload_n hx hb dX9_performs_102 rfl (lv_at hl 0 rfl) ?_
          refine lv_iconst (v := 2) hx hb dX9_performs_103 (by decide) ?_
          refine lv_iadd hx hb dX9_performs_104 ?_
          obtain ⟨zb16, hm⟩ := ibk hm
          refine va_iald hx hb hK.1 hP 3 0 rfl rfl zb16 dX9_performs_105 ?_
          obtain ⟨zq17, hzq17, hm⟩ := bdk hm
          refine kw_ieA (va_runV (As := [.int 6, .int (x.2.2.2.2.2.2.2.1 (((6 * p1) + 1).toNatClampNeg)), .int (x.2.2.2.2.2.2.2.1 (((6 * p1) + 2).toNatClampNeg))]) (rest := []) ⟨hx, hb, hml, hown, htG⟩ (kX9_expects l g h0 h1 h2 h3 _ x 6 (x.2.2.2.2.2.2.2.1 (((6 * p1) + 1).toNatClampNeg)) (x.2.2.2.2.2.2.2.1 (((6 * p1) + 2).toNatClampNeg)) _ hzq17) (cwV 3 htG (GV g3_237 g3_239 gS_11 g1_10 g4_0) rfl rfl rfl hd_X9_expects ⟨Nat.le_of_ble_eq_true rfl, Nat.le_of_ble_eq_true rfl⟩) (PW_VA hK hL hS hP hD hA (ci := 8) rfl 0 rfl) rfl rfl hl.1 rfl (lv_room (Nat.le_of_ble_eq_true rfl)) dX9_performs_106 ⟨Nat.zero_le _, Nat.zero_le _⟩) hD hS hA (fun _ => rfl) (fun H locs hP hD hS => ?_)
          have hP : va_P g.1 vwCl (w_X9 g h0 h1 h2 h3 zq17.2) H := hP
          have hD : va_D A (w_X9 g h0 h1 h2 h3 zq17.2) := hD
          exact W.iret (v := zq17.1) hx hb hr (fun t ht hW => ⟨⟨_, _, rfl, pr1 (Option.some.inj hm), atH ht hP⟩, hS.F ht⟩) hS.2.2 dX9_performs_109
        · replace hm := (if_neg zc14).symm.trans hm
          have ezc2 : (x.2.2.2.2.2.2.2.1 ((6 * p1).toNatClampNeg)).toInt ≠ 98 := fun e => zc2 (Int32.toInt_inj.mp (e.trans (by decide)))
          have ezc9 : (x.2.2.2.2.2.2.2.1 ((6 * p1).toNatClampNeg)).toInt ≠ 99 := fun e => zc9 (Int32.toInt_inj.mp (e.trans (by decide)))
          have ezc11 : (x.2.2.2.2.2.2.2.1 ((6 * p1).toNatClampNeg)).toInt ≠ 100 := fun e => zc11 (Int32.toInt_inj.mp (e.trans (by decide)))
          have ezc14 : (x.2.2.2.2.2.2.2.1 ((6 * p1).toNatClampNeg)).toInt ≠ 101 := fun e => zc14 (Int32.toInt_inj.mp (e.trans (by decide)))
          refine lv_tableOut (tgt := 125) hx hb dX9_performs_11 (by omega) (by decide) ?_
          refine lv_aload_n hx hb dX9_performs_125 rfl (lv_at hl 1 rfl) ?_
          refine lv_bipush (v := 6) hx hb dX9_performs_126 (by decide +kernel) ?_
          obtain ⟨zq18, hzq18, hm⟩ := bdk hm
          refine kw_ieA (va_runV (As := [.int 6]) (rest := []) ⟨hx, hb, hml, hown, htG⟩ (kX9_begins l g h0 h1 h2 h3 _ x 6 _ hzq18) (cwV 1 htG (GV g4_96 g4_98 gS_25 g1_10 g4_99) rfl rfl rfl hd_X9_begins ⟨Nat.le_of_ble_eq_true rfl, Nat.le_of_ble_eq_true rfl⟩) (PW_VA hK hL hS hP hD hA (ci := 8) rfl 0 rfl) rfl rfl hl.1 rfl (lv_room (Nat.le_of_ble_eq_true rfl)) dX9_performs_128 ⟨Nat.zero_le _, Nat.zero_le _⟩) hD hS hA (fun _ => rfl) (fun H locs hP hD hS => ?_)
          have hP : va_P g.1 vwCl (w_X9 g h0 h1 h2 h3 zq18.2) H := hP
          have hD : va_D A (w_X9 g h0 h1 h2 h3 zq18.2) := hD
          exact W.iret (v := zq18.1) hx hb hr (fun t ht hW => ⟨⟨_, _, rfl, pr1 (Option.some.inj hm), atH ht hP⟩, hS.F ht⟩) hS.2.2 dX9_performs_131
def fX9_perform_L0  : Nat → Int32 → MD → Option ((MD) ⊕ (Int32 × Int32 × MD))
  | 0, _, _ => none
  | n + 1, i0_2, x0 => (if x0.2.2.2.2.2.2.2.2.1 ≤ i0_2 then (some (Sum.inl x0)) else ((fX9_performs x0 i0_2).bind (fun zq5 => (if 0 ≤ zq5.1 then (fX9_perform_L0  n (i0_2 + 1) zq5.2) else (if zq5.1 = (-5) then (fX9_perform_L0  n (i0_2 + 1) zq5.2) else (some (Sum.inr (i0_2, zq5.1, zq5.2))))))))
def fX9_perform (x : MD) : Option (Int32 × MD) := ((fX9_fault x).bind (fun zq1 => (if zq1.1 < 0 then ((fX9_copies zq1.2 0 6).bind (fun zq3 => ((fX9_perform_L0 1000 0 zq3).bind (fun zq8 => Sum.elim (fun zq9 => ((fX9_settles zq9 zq9.2.2.2.2.2.2.2.2.1).bind (fun zq11 => some (zq11.1, zq11.2)))) (fun zq10 => some ((-4), (zq10.2.2.1, zq10.2.2.2.1, zq10.2.2.2.2.1, zq10.2.2.2.2.2.1, zq10.2.2.2.2.2.2.1, zq10.2.2.2.2.2.2.2.1, zq10.2.2.2.2.2.2.2.2.1, zq10.2.2.2.2.2.2.2.2.2.1, zq10.2.2.2.2.2.2.2.2.2.2.1, zq10.1, zq10.2.1))) zq8)))) else some ((-100) - zq1.1, zq1.2))))
abbrev rm_X9_perform : Jvm.Room := { frames := 6, cells := 0, slots := 0, locals := 144 }
theorem hd_X9_perform : yX9_perform.cls = RX9 ∧ yX9_perform.cls ≠ "java/lang/invoke/MethodHandle" ∧ yX9_perform.cls ≠ "java/lang/invoke/VarHandle" ∧ (parseMethodDescriptor yX9_perform.desc).map (fun d => d.parameters.length) = some 0 := by decide +kernel
set_option maxHeartbeats 4000000 in
set_option maxRecDepth 100000 in
theorem kX9_perform (l : Launch) (g : CX) (h0 h1 h2 h3 : Nat) (sz : Nat) (x : MD) (res : Int32 × MD) (hm0 : fX9_perform x = some res) : Met l yX9_perform (wg yX9_perform cX9_perform 4 (some .int)) rm_X9_perform (PW g [.ref h0] sz (w_X9 g h0 h1 h2 h3 x)) (va_Qi (fun v u => v = res.1 ∧ u = res.2) (fun u t => va_P g.1 vwCl (w_X9 g h0 h1 h2 h3 u) t.heap) (va_A (w_X9 g h0 h1 h2 h3 x) sz)) 0 0 (va_A (w_X9 g h0 h1 h2 h3 x) sz) := by
  refine Met.ofW (cc := cX9_perform) (maxL := 4) (ret := (some .int)) (by decide) rfl ?_
  intro p e s m args below meth c s₁ B hml hv
  obtain ⟨rfl, hsz, hP, hK, hD0, hL⟩ := hv
  have hx := B.exec
  have hb := B.bytes
  have hr := B.returns
  have htG := wg_G (atoms_spec (ws := wg yX9_perform cX9_perform 4 (some .int)) B.pre)
  have hown : s.vm.findClass RX9 = some m.cls := findClass_of_methodNamed B.named
  have hlocks := B.notSynchronized
  subst hsz
  have hD := hD0.self (sz := s.heap.size)
  generalize hAe : va_A (w_X9 g h0 h1 h2 h3 x) s.heap.size = A at hD hL ⊢
  have hA : ∀ q : Nat, s.heap.size ≤ q → A q := fun q h => by rw [← hAe]; exact Or.inr h
  have hS : va_S A s.heap s.heap [] := va_S.rf
  have hl := lv_entry ([.ref h0]) (n := 4) (Nat.le_of_ble_eq_true rfl)
  rw [lg_entry_eq]
  generalize (lg_sl ([.ref h0]) ++ List.replicate (4 - (lg_sl ([.ref h0])).length) Slot.unset).toArray = ls at hl ⊢
  have hl : lv_has ls 4 [(0, .ref h0)] := hl
  have hm := hm0
  unfold fX9_perform at hm
  refine lv_aload_n hx hb dX9_perform_0 rfl (lv_at hl 0 rfl) ?_
  obtain ⟨zq1, hzq1, hm⟩ := bdk hm
  refine kw_ieA (va_runV (As := []) (rest := []) ⟨hx, hb, hml, hown, htG⟩ (kX9_fault l g h0 h1 h2 h3 _ x _ hzq1) (cwV 0 htG (GV g4_104 g4_106 gS_26 g1_10 g4_107) rfl rfl rfl hd_X9_fault ⟨Nat.le_of_ble_eq_true rfl, Nat.le_of_ble_eq_true rfl⟩) (PW_VA hK hL hS hP hD hA (ci := 8) rfl 0 rfl) rfl rfl hl.1 rfl (lv_room (Nat.le_of_ble_eq_true rfl)) dX9_perform_1 ⟨Nat.zero_le _, Nat.zero_le _⟩) hD hS hA (fun _ => rfl) (fun H locs hP hD hS => ?_)
  have hP : va_P g.1 vwCl (w_X9 g h0 h1 h2 h3 zq1.2) H := hP
  have hD : va_D A (w_X9 g h0 h1 h2 h3 zq1.2) := hD
  refine lv_istore_n (lv' := [(1, .int zq1.1), (0, .ref h0)]) hx hb dX9_perform_4 rfl hl (by decide) rfl (fun ls hl => ?_)
  refine lv_iload_n hx hb dX9_perform_5 rfl (lv_at hl 0 rfl) ?_
  refine lv_if_lt (tgt := 14) hx hb dX9_perform_6 (by decide) (fun zc2 => ?_) (fun zc2 => ?_)
  · replace hm := (if_pos zc2).symm.trans hm
    refine lv_aload_n hx hb dX9_perform_14 rfl (lv_at hl 1 rfl) ?_
    refine lv_iconst (v := 0) hx hb dX9_perform_15 (by decide) ?_
    refine lv_bipush (v := 6) hx hb dX9_perform_16 (by decide +kernel) ?_
    obtain ⟨zq3, hzq3, hm⟩ := bdk hm
    refine kw_veA (va_runV (As := [.int 0, .int 6]) (rest := []) ⟨hx, hb, hml, hown, htG⟩ (kX9_copies l g h0 h1 h2 h3 _ zq1.2 0 6 _ hzq3) (cwV 2 htG (GV g3_233 g3_235 gS_10 g1_10 g3_236) rfl rfl rfl hd_X9_copies ⟨Nat.le_of_ble_eq_true rfl, Nat.le_of_ble_eq_true rfl⟩) (PW_VA hK hL hS hP hD hA (ci := 8) rfl 0 rfl) rfl rfl hl.1 rfl (lv_room (Nat.le_of_ble_eq_true rfl)) dX9_perform_18 ⟨Nat.zero_le _, Nat.zero_le _⟩) hD hS hA (fun _ => rfl) (fun H locs hP hD hS => ?_)
    have hP : va_P g.1 vwCl (w_X9 g h0 h1 h2 h3 zq3) H := hP
    have hD : va_D A (w_X9 g h0 h1 h2 h3 zq3) := hD
    refine lv_iconst (v := 0) hx hb dX9_perform_21 (by decide) ?_
    refine lv_istore_n (lv' := [(2, .int 0), (1, .int zq1.1), (0, .ref h0)]) hx hb dX9_perform_22 rfl hl (by decide) rfl (fun ls hl => ?_)
    have hL0 : ∀ (Q : State → Prop), ∀ (n : Nat) (i0_2 : Int32) (x0 : MD) (out : (MD) ⊕ (Int32 × Int32 × MD)) (H : Heap) (locs : List Loc) (ls : Array Slot), fX9_perform_L0 n i0_2 x0 = some out → va_P g.1 vwCl (w_X9 g h0 h1 h2 h3 x0) H → va_D A (w_X9 g h0 h1 h2 h3 x0) → va_S A s.heap H locs → lv_has ls 4 [(0, .ref h0), (2, .int i0_2)] → (∀ q, out = Sum.inl q → ∀ (H : Heap) (locs : List Loc) (ls : Array Slot), va_P g.1 vwCl (w_X9 g h0 h1 h2 h3 q) H → va_D A (w_X9 g h0 h1 h2 h3 q) → va_S A s.heap H locs → lv_has ls 4 [(0, .ref h0)] → W p l e (headSpec (wg yX9_perform cX9_perform 4 (some .int)) rm_X9_perform).room s m (([.ref h0] : List Value).toArray) below meth c H locs 0 0 Q (F0 m 66 ls [])) → (∀ q, out = Sum.inr q → ∀ (H : Heap) (locs : List Loc) (ls : Array Slot), va_P g.1 vwCl (w_X9 g h0 h1 h2 h3 q.2.2) H → va_D A (w_X9 g h0 h1 h2 h3 q.2.2) → va_S A s.heap H locs → lv_has ls 4 [(0, .ref h0), (2, .int q.1), (3, .int q.2.1)] → W p l e (headSpec (wg yX9_perform cX9_perform 4 (some .int)) rm_X9_perform).room s m (([.ref h0] : List Value).toArray) below meth c H locs 0 0 Q (F0 m 47 ls [])) → W p l e (headSpec (wg yX9_perform cX9_perform 4 (some .int)) rm_X9_perform).room s m (([.ref h0] : List Value).toArray) below meth c H locs 0 0 Q (F0 m 23 ls []) := by
      intro Q n
      induction n with
      | zero =>
        intro i0_2 x0 out H locs ls hm hP hD hS hl hk hk2
        simp [fX9_perform_L0] at hm
      | succ n ih =>
        intro i0_2 x0 out H locs ls hm hP hD hS hl hk hk2
        rw [fX9_perform_L0] at hm
        refine lv_iload_n hx hb dX9_perform_23 rfl (lv_at hl 1 rfl) ?_
        refine lv_aload_n hx hb dX9_perform_24 rfl (lv_at hl 0 rfl) ?_
        refine va_get (D := g.1) (ci := 8) (v := .int x0.2.2.2.2.2.2.2.2.1) (C := RX9) (T := TX9) (N := 11) hx hb htG in_wsX90 hown hK.1 hP 0 rfl rfl 8 (by decide) (htG _ g3_203) (fun _ h9 => h9) rfl dX9_perform_25 ?_
        refine lv_icmp_ge (tgt := 66) hx hb dX9_perform_28 (by decide) (fun zc4 => ?_) (fun zc4 => ?_)
        · replace hm := (if_pos zc4).symm.trans hm
          obtain rfl := Option.some.inj hm
          exact hk _ rfl H locs ls hP hD hS (lv_sub hl [0] rfl)
        · replace hm := (if_neg zc4).symm.trans hm
          refine lv_aload_n hx hb dX9_perform_31 rfl (lv_at hl 0 rfl) ?_
          refine lv_iload_n hx hb dX9_perform_32 rfl (lv_at hl 1 rfl) ?_
          obtain ⟨zq5, hzq5, hm⟩ := bdk hm
          refine kw_ieA (va_runV (As := [.int i0_2]) (rest := []) ⟨hx, hb, hml, hown, htG⟩ (kX9_performs l g h0 h1 h2 h3 _ x0 i0_2 _ hzq5) (cwV 1 htG (GV g4_124 g4_126 gS_31 g1_10 g4_127) rfl rfl rfl hd_X9_performs ⟨Nat.le_of_ble_eq_true rfl, Nat.le_of_ble_eq_true rfl⟩) (PW_VA hK hL hS hP hD hA (ci := 8) rfl 0 rfl) rfl rfl hl.1 rfl (lv_room (Nat.le_of_ble_eq_true rfl)) dX9_perform_33 ⟨Nat.zero_le _, Nat.zero_le _⟩) hD hS hA (fun _ => rfl) (fun H locs hP hD hS => ?_)
          have hP : va_P g.1 vwCl (w_X9 g h0 h1 h2 h3 zq5.2) H := hP
          have hD : va_D A (w_X9 g h0 h1 h2 h3 zq5.2) := hD
          refine lv_istore_n (lv' := [(3, .int zq5.1), (0, .ref h0), (2, .int i0_2)]) hx hb dX9_perform_36 rfl hl (by decide) rfl (fun ls hl => ?_)
          refine lv_iload_n hx hb dX9_perform_37 rfl (lv_at hl 0 rfl) ?_
          refine lv_if_ge (tgt := 60) hx hb dX9_perform_38 (by decide) (fun zc6 => ?_) (fun zc6 => ?_)
          · replace hm := (if_pos zc6).symm.trans hm
            refine lv_iinc (v := i0_2 + 1) (lv' := [(2, .int (i0_2 + 1)), (3, .int zq5.1), (0, .ref h0)]) hx hb dX9_perform_60 hl (k := 2) rfl rfl (by decide) rfl (fun ls hl => ?_)
            refine lv_goto (tgt := 23) hx hb dX9_perform_63 (by decide) ?_
            exact ih (i0_2 + 1) zq5.2 out H locs ls hm hP hD hS (lv_sub hl [2, 0] rfl) hk hk2
          · replace hm := (if_neg zc6).symm.trans hm
            refine lv_iload_n hx hb dX9_perform_41 rfl (lv_at hl 0 rfl) ?_
            refine lv_bipush (v := (-5)) hx hb dX9_perform_42 (by decide +kernel) ?_
            refine lv_icmp_eq (tgt := 60) hx hb dX9_perform_44 (by decide) (fun zc7 => ?_) (fun zc7 => ?_)
            · replace hm := (if_pos zc7).symm.trans hm
              refine lv_iinc (v := i0_2 + 1) (lv' := [(2, .int (i0_2 + 1)), (3, .int zq5.1), (0, .ref h0)]) hx hb dX9_perform_60 hl (k := 2) rfl rfl (by decide) rfl (fun ls hl => ?_)
              refine lv_goto (tgt := 23) hx hb dX9_perform_63 (by decide) ?_
              exact ih (i0_2 + 1) zq5.2 out H locs ls hm hP hD hS (lv_sub hl [2, 0] rfl) hk hk2
            · replace hm := (if_neg zc7).symm.trans hm
              obtain rfl := Option.some.inj hm
              exact hk2 _ rfl H locs ls hP hD hS (lv_sub hl [1, 2, 0] rfl)
    obtain ⟨zq8, hzq8, hm⟩ := bdk hm
    refine hL0 _ 1000 0 zq3 zq8 _ _ _ hzq8 hP hD hS (lv_sub hl [2, 0] rfl) (fun zq9 ezq9 H locs ls hP hD hS hl => ?_) (fun zq10 ezq10 H locs ls hP hD hS hl => ?_)
    · have hm : ((fX9_settles zq9 zq9.2.2.2.2.2.2.2.2.1).bind (fun zq11 => some (zq11.1, zq11.2))) = some res := by rw [ezq9] at hm; exact hm
      refine lv_aload_n hx hb dX9_perform_66 rfl (lv_at hl 0 rfl) ?_
      refine lv_aload_n hx hb dX9_perform_67 rfl (lv_at hl 0 rfl) ?_
      refine va_get (D := g.1) (ci := 8) (v := .int zq9.2.2.2.2.2.2.2.2.1) (C := RX9) (T := TX9) (N := 11) hx hb htG in_wsX90 hown hK.1 hP 0 rfl rfl 8 (by decide) (htG _ g3_203) (fun _ h9 => h9) rfl dX9_perform_68 ?_
      obtain ⟨zq11, hzq11, hm⟩ := bdk hm
      refine kw_ieA (va_runV (As := [.int zq9.2.2.2.2.2.2.2.2.1]) (rest := []) ⟨hx, hb, hml, hown, htG⟩ (kX9_settles l g h0 h1 h2 h3 _ zq9 zq9.2.2.2.2.2.2.2.2.1 _ hzq11) (cwV 1 htG (GV g4_8 g4_10 gS_13 g1_10 g4_11) rfl rfl rfl hd_X9_settles ⟨Nat.le_of_ble_eq_true rfl, Nat.le_of_ble_eq_true rfl⟩) (PW_VA hK hL hS hP hD hA (ci := 8) rfl 0 rfl) rfl rfl hl.1 rfl (lv_room (Nat.le_of_ble_eq_true rfl)) dX9_perform_71 ⟨Nat.zero_le _, Nat.zero_le _⟩) hD hS hA (fun _ => rfl) (fun H locs hP hD hS => ?_)
      have hP : va_P g.1 vwCl (w_X9 g h0 h1 h2 h3 zq11.2) H := hP
      have hD : va_D A (w_X9 g h0 h1 h2 h3 zq11.2) := hD
      exact W.iret (v := zq11.1) hx hb hr (fun t ht hW => ⟨⟨_, _, rfl, pr1 (Option.some.inj hm), atH ht hP⟩, hS.F ht⟩) hS.2.2 dX9_perform_74
    · have hm : some ((-4), (zq10.2.2.1, zq10.2.2.2.1, zq10.2.2.2.2.1, zq10.2.2.2.2.2.1, zq10.2.2.2.2.2.2.1, zq10.2.2.2.2.2.2.2.1, zq10.2.2.2.2.2.2.2.2.1, zq10.2.2.2.2.2.2.2.2.2.1, zq10.2.2.2.2.2.2.2.2.2.2.1, zq10.1, zq10.2.1)) = some res := by rw [ezq10] at hm; exact hm
      refine lv_aload_n hx hb dX9_perform_47 rfl (lv_at hl 0 rfl) ?_
      refine lv_iload_n hx hb dX9_perform_48 rfl (lv_at hl 1 rfl) ?_
      refine va_put (D := g.1) (ci := 8) (v := .int zq10.1) (ty := .int) (C := RX9) (T := TX9) (N := 11) hx hb htG in_wsX90 tyX9 tyX9_ok nmX9 hown hK.1 hP hD hS 0 rfl rfl 9 (by decide) (htG _ g3_204) (fun _ h9 => h9) rfl (by decide +kernel) rfl rfl (Nat.le_of_ble_eq_true rfl) dX9_perform_49 (fun H locs hP hD hS => ?_)
      have hP : va_P g.1 vwCl (w_X9 g h0 h1 h2 h3 (zq10.2.2.1, zq10.2.2.2.1, zq10.2.2.2.2.1, zq10.2.2.2.2.2.1, zq10.2.2.2.2.2.2.1, zq10.2.2.2.2.2.2.2.1, zq10.2.2.2.2.2.2.2.2.1, zq10.2.2.2.2.2.2.2.2.2.1, zq10.2.2.2.2.2.2.2.2.2.2.1, zq10.1, zq10.2.2.2.2.2.2.2.2.2.2.2.2)) H := hP
      have hD : va_D A (w_X9 g h0 h1 h2 h3 (zq10.2.2.1, zq10.2.2.2.1, zq10.2.2.2.2.1, zq10.2.2.2.2.2.1, zq10.2.2.2.2.2.2.1, zq10.2.2.2.2.2.2.2.1, zq10.2.2.2.2.2.2.2.2.1, zq10.2.2.2.2.2.2.2.2.2.1, zq10.2.2.2.2.2.2.2.2.2.2.1, zq10.1, zq10.2.2.2.2.2.2.2.2.2.2.2.2)) := hD
      refine lv_aload_n hx hb dX9_perform_52 rfl (lv_at hl 0 rfl) ?_
      refine lv_iload_n hx hb dX9_perform_53 rfl (lv_at hl 2 rfl) ?_
      refine va_put (D := g.1) (ci := 8) (v := .int zq10.2.1) (ty := .int) (C := RX9) (T := TX9) (N := 11) hx hb htG in_wsX90 tyX9 tyX9_ok nmX9 hown hK.1 hP hD hS 0 rfl rfl 10 (by decide) (htG _ g3_205) (fun _ h9 => h9) rfl (by decide +kernel) rfl rfl (Nat.le_of_ble_eq_true rfl) dX9_perform_54 (fun H locs hP hD hS => ?_)
      have hP : va_P g.1 vwCl (w_X9 g h0 h1 h2 h3 (zq10.2.2.1, zq10.2.2.2.1, zq10.2.2.2.2.1, zq10.2.2.2.2.2.1, zq10.2.2.2.2.2.2.1, zq10.2.2.2.2.2.2.2.1, zq10.2.2.2.2.2.2.2.2.1, zq10.2.2.2.2.2.2.2.2.2.1, zq10.2.2.2.2.2.2.2.2.2.2.1, zq10.1, zq10.2.1)) H := hP
      have hD : va_D A (w_X9 g h0 h1 h2 h3 (zq10.2.2.1, zq10.2.2.2.1, zq10.2.2.2.2.1, zq10.2.2.2.2.2.1, zq10.2.2.2.2.2.2.1, zq10.2.2.2.2.2.2.2.1, zq10.2.2.2.2.2.2.2.2.1, zq10.2.2.2.2.2.2.2.2.2.1, zq10.2.2.2.2.2.2.2.2.2.2.1, zq10.1, zq10.2.1)) := hD
      refine lv_bipush (v := (-4)) hx hb dX9_perform_57 (by decide +kernel) ?_
      exact W.iret (v := (-4)) hx hb hr (fun t ht hW => ⟨⟨_, _, rfl, pr1 (Option.some.inj hm), atH ht hP⟩, hS.F ht⟩) hS.2.2 dX9_perform_59
  · replace hm := (if_neg zc2).symm.trans hm
    refine lv_bipush (v := (-100)) hx hb dX9_perform_9 (by decide +kernel) ?_
    refine lv_iload_n hx hb dX9_perform_11 rfl (lv_at hl 0 rfl) ?_
    refine lv_isub hx hb dX9_perform_12 ?_
    exact W.iret (v := ((-100) - zq1.1)) hx hb hr (fun t ht hW => ⟨⟨_, _, rfl, pr1 (Option.some.inj hm), atH ht hP⟩, hS.F ht⟩) hS.2.2 dX9_perform_13
