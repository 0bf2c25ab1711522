def fX6_beginDay (x : SD) : Int32 × SD := (if 16 ≤ x.2.1 then (if x.1 < 999 then (bnd (x.1 + 1) (fun zv3 => (bnd (fX5_clear x.2.2.2.2.2.1) (fun zq4 => (bnd (rfill x.2.2.1 16 20) (fun zq5 => (bnd (rfill x.2.2.2.1 16 0) (fun zq6 => (zv3, (zv3, 0, zq5, zq6, x.2.2.2.2.1, zq4, x.2.2.2.2.2.2.1, x.2.2.2.2.2.2.2)))))))))) else ((-3), x)) else ((-4), x))
abbrev rm_X6_beginDay : Jvm.Room := { frames := 2, cells := 0, slots := 0, locals := 42 }
theorem hd_X6_beginDay : yX6_beginDay.cls = RX6 ∧ yX6_beginDay.cls ≠ "java/lang/invoke/MethodHandle" ∧ yX6_beginDay.cls ≠ "java/lang/invoke/VarHandle" ∧ (parseMethodDescriptor yX6_beginDay.desc).map (fun d => d.parameters.length) = some 0 := by decide +kernel
set_option maxHeartbeats 4000000 in
set_option maxRecDepth 100000 in
theorem kX6_beginDay (l : Launch) (g : CX) (a : Nat → Nat) (sz : Nat) (x : SD) (res : Int32 × SD) (hm0 : fX6_beginDay x = res) : Met l yX6_beginDay (wg yX6_beginDay cX6_beginDay 1 (some .int)) rm_X6_beginDay (PW g [.ref (a 0)] sz (w_X6 g a x)) (va_Qi (fun v u => v = res.1 ∧ u = res.2) (fun u t => va_P g.1 vwCl (w_X6 g a u) t.heap) (va_A (w_X6 g a x) sz)) 0 0 (va_A (w_X6 g a x) sz) := by
  refine Met.ofW (cc := cX6_beginDay) (maxL := 1) (ret := (some .int)) (by decide) rfl ?_
  intro p e s m args below meth c s₁ B hml hv
  obtain ⟨rfl, hsz, hP, hK, hD0, hL⟩ := hv
  have hx := B.exec
  have hb := B.bytes
  have hr := B.returns
  have htG := wg_G (atoms_spec (ws := wg yX6_beginDay cX6_beginDay 1 (some .int)) B.pre)
  have hown : s.vm.findClass RX6 = some m.cls := findClass_of_methodNamed B.named
  have hlocks := B.notSynchronized
  subst hsz
  have hD := hD0.self (sz := s.heap.size)
  generalize hAe : va_A (w_X6 g a x) s.heap.size = A at hD hL ⊢
  have hA : ∀ q : Nat, s.heap.size ≤ q → A q := fun q h => by rw [← hAe]; exact Or.inr h
  have hS : va_S A s.heap s.heap [] := va_S.rf
  have hl := lv_entry ([.ref (a 0)]) (n := 1) (Nat.le_of_ble_eq_true rfl)
  rw [lg_entry_eq]
  generalize (lg_sl ([.ref (a 0)]) ++ List.replicate (1 - (lg_sl ([.ref (a 0)])).length) Slot.unset).toArray = ls at hl ⊢
  have hl : lv_has ls 1 [(0, .ref (a 0))] := hl
  have hm := hm0
  unfold fX6_beginDay at hm
  refine lv_aload_n hx hb dX6_beginDay_0 rfl (lv_at hl 0 rfl) ?_
  refine va_get (D := g.1) (ci := 5) (v := .int x.2.1) (C := RX6) (T := TX6) (N := 8) hx hb htG in_wsX60 hown hK.1 hP 0 rfl rfl 1 (by decide) (htG _ g1_131) (fun _ h9 => h9) rfl dX6_beginDay_1 ?_
  refine lv_bipush (v := 16) hx hb dX6_beginDay_4 (by decide +kernel) ?_
  refine lv_icmp_ge (tgt := 12) hx hb dX6_beginDay_6 (by decide) (fun zc1 => ?_) (fun zc1 => ?_)
  · replace hm := (if_pos zc1).symm.trans hm
    refine lv_aload_n hx hb dX6_beginDay_12 rfl (lv_at hl 0 rfl) ?_
    refine va_get (D := g.1) (ci := 5) (v := .int x.1) (C := RX6) (T := TX6) (N := 8) hx hb htG in_wsX60 hown hK.1 hP 0 rfl rfl 0 (by decide) (htG _ g1_130) (fun _ h9 => h9) rfl dX6_beginDay_13 ?_
    refine lv_sipush (v := 999) hx hb dX6_beginDay_16 (by decide +kernel) ?_
    refine lv_icmp_lt (tgt := 25) hx hb dX6_beginDay_19 (by decide) (fun zc2 => ?_) (fun zc2 => ?_)
    · replace hm := (if_pos zc2).symm.trans hm
      refine lv_aload_n hx hb dX6_beginDay_25 rfl (lv_at hl 0 rfl) ?_
      refine lv_dup hx hb dX6_beginDay_26 rfl ?_
      refine va_get (D := g.1) (ci := 5) (v := .int x.1) (C := RX6) (T := TX6) (N := 8) hx hb htG in_wsX60 hown hK.1 hP 0 rfl rfl 0 (by decide) (htG _ g1_130) (fun _ h9 => h9) rfl dX6_beginDay_27 ?_
      refine lv_iconst (v := 1) hx hb dX6_beginDay_30 (by decide) ?_
      refine lv_iadd hx hb dX6_beginDay_31 ?_
      obtain ⟨zv3, ezv3, hm⟩ := bnk hm
      refine tope ezv3 ?_
      refine va_put (D := g.1) (ci := 5) (v := .int zv3) (ty := .int) (C := RX6) (T := TX6) (N := 8) hx hb htG in_wsX60 tyX6 tyX6_ok nmX6 hown hK.1 hP hD hS 0 rfl rfl 0 (by decide) (htG _ g1_130) (fun _ h9 => h9) rfl (by decide +kernel) rfl rfl (Nat.le_of_ble_eq_true rfl) dX6_beginDay_32 (fun H locs hP hD hS => ?_)
      have hP : va_P g.1 vwCl (w_X6 g a (zv3, x.2.1, x.2.2.1, x.2.2.2.1, x.2.2.2.2.1, x.2.2.2.2.2.1, x.2.2.2.2.2.2.1, x.2.2.2.2.2.2.2)) H := hP
      have hD : va_D A (w_X6 g a (zv3, x.2.1, x.2.2.1, x.2.2.2.1, x.2.2.2.2.1, x.2.2.2.2.2.1, x.2.2.2.2.2.2.1, x.2.2.2.2.2.2.2)) := hD
      refine lv_aload_n hx hb dX6_beginDay_35 rfl (lv_at hl 0 rfl) ?_
      refine lv_iconst (v := 0) hx hb dX6_beginDay_36 (by decide) ?_
      refine va_put (D := g.1) (ci := 5) (v := .int 0) (ty := .int) (C := RX6) (T := TX6) (N := 8) hx hb htG in_wsX60 tyX6 tyX6_ok nmX6 hown hK.1 hP hD hS 0 rfl rfl 1 (by decide) (htG _ g1_131) (fun _ h9 => h9) rfl (by decide +kernel) rfl rfl (Nat.le_of_ble_eq_true rfl) dX6_beginDay_37 (fun H locs hP hD hS => ?_)
      have hP : va_P g.1 vwCl (w_X6 g a (zv3, 0, x.2.2.1, x.2.2.2.1, x.2.2.2.2.1, x.2.2.2.2.2.1, x.2.2.2.2.2.2.1, x.2.2.2.2.2.2.2)) H := hP
      have hD : va_D A (w_X6 g a (zv3, 0, x.2.2.1, x.2.2.2.1, x.2.2.2.2.1, x.2.2.2.2.2.1, x.2.2.2.2.2.2.1, x.2.2.2.2.2.2.2)) := hD
      refine lv_aload_n hx hb dX6_beginDay_40 rfl (lv_at hl 0 rfl) ?_
      refine va_get (D := g.1) (ci := 5) (v := .ref (a 6)) (C := RX6) (T := TX6) (N := 8) hx hb htG in_wsX60 hown hK.1 hP 0 rfl rfl 5 (by decide) (htG _ g1_138) (fun _ h9 => h9) rfl dX6_beginDay_41 ?_
      obtain ⟨zq4, hzq4, hm⟩ := bnk hm
      refine kw_ve (va_runV (As := []) (rest := []) ⟨hx, hb, hml, hown, htG⟩ (kX5_clear l g (a 6) (a 7) (a 8) (a 9) (a 10) _ x.2.2.2.2.2.1 _ hzq4) (cwV 0 htG (GV g3_33 g3_34 g3_35 g1_4 g3_36) rfl rfl rfl hd_X5_clear ⟨Nat.le_of_ble_eq_true rfl, Nat.le_of_ble_eq_true rfl⟩) (PW_V hK hL hS hP hD hA [6, 7, 8, 9, 10] rfl rfl (ci := 4) rfl 6 rfl) rfl rfl hl.1 rfl (lv_room (Nat.le_of_ble_eq_true rfl)) dX6_beginDay_44 ⟨Nat.zero_le _, Nat.zero_le _⟩) hP hD hS hA [6, 7, 8, 9, 10] rfl rfl (fun _ => rfl) (fun H locs hP hD hS => ?_)
      have hP : va_P g.1 vwCl (w_X6 g a (zv3, 0, x.2.2.1, x.2.2.2.1, x.2.2.2.2.1, zq4, x.2.2.2.2.2.2.1, x.2.2.2.2.2.2.2)) H := hP
      have hD : va_D A (w_X6 g a (zv3, 0, x.2.2.1, x.2.2.2.1, x.2.2.2.2.1, zq4, x.2.2.2.2.2.2.1, x.2.2.2.2.2.2.2)) := hD
      refine lv_aload_n hx hb dX6_beginDay_47 rfl (lv_at hl 0 rfl) ?_
      refine va_get (D := g.1) (ci := 5) (v := .ref (a 1)) (C := RX6) (T := TX6) (N := 8) hx hb htG in_wsX60 hown hK.1 hP 0 rfl rfl 2 (by decide) (htG _ g1_132) (fun _ h9 => h9) rfl dX6_beginDay_48 ?_
      refine lv_bipush (v := 20) hx hb dX6_beginDay_51 (by decide +kernel) ?_
      obtain ⟨zq5, hzq5, hm⟩ := bnk hm
      refine kw_ve (va_runS (As := [.ref (a 1), .int 20]) (rest := []) ⟨hx, hb, hml, hown, htG⟩ (kX4_fill l g (a 1) _ x.2.2.1 16 20 _ ((t_X4_fill _ _ _ (by decide)).trans (congrArg some hzq5))) (va_cwS 2 htG (GS g1_129 g1_47 g1_5 g1_48) rfl rfl rfl hs_X4_fill ⟨Nat.le_of_ble_eq_true rfl, Nat.le_of_ble_eq_true rfl⟩) (PW_S hK hL hS hP hD hA [1] rfl rfl) rfl rfl hl.1 rfl (lv_room (Nat.le_of_ble_eq_true rfl)) dX6_beginDay_53 ⟨Nat.zero_le _, Nat.zero_le _⟩) hP hD hS hA [1] rfl rfl (fun _ => rfl) (fun H locs hP hD hS => ?_)
      have hP : va_P g.1 vwCl (w_X6 g a (zv3, 0, zq5, x.2.2.2.1, x.2.2.2.2.1, zq4, x.2.2.2.2.2.2.1, x.2.2.2.2.2.2.2)) H := hP
      have hD : va_D A (w_X6 g a (zv3, 0, zq5, x.2.2.2.1, x.2.2.2.2.1, zq4, x.2.2.2.2.2.2.1, x.2.2.2.2.2.2.2)) := hD
      refine lv_aload_n hx hb dX6_beginDay_56 rfl (lv_at hl 0 rfl) ?_
      refine va_get (D := g.1) (ci := 5) (v := .ref (a 2)) (C := RX6) (T := TX6) (N := 8) hx hb htG in_wsX60 hown hK.1 hP 0 rfl rfl 3 (by decide) (htG _ g1_134) (fun _ h9 => h9) rfl dX6_beginDay_57 ?_
      refine lv_iconst (v := 0) hx hb dX6_beginDay_60 (by decide) ?_
      obtain ⟨zq6, hzq6, hm⟩ := bnk hm
      refine kw_ve (va_runS (As := [.ref (a 2), .int 0]) (rest := []) ⟨hx, hb, hml, hown, htG⟩ (kX4_fill l g (a 2) _ x.2.2.2.1 16 0 _ ((t_X4_fill _ _ _ (by decide)).trans (congrArg some hzq6))) (va_cwS 2 htG (GS g1_129 g1_47 g1_5 g1_48) rfl rfl rfl hs_X4_fill ⟨Nat.le_of_ble_eq_true rfl, Nat.le_of_ble_eq_true rfl⟩) (PW_S hK hL hS hP hD hA [2] rfl rfl) rfl rfl hl.1 rfl (lv_room (Nat.le_of_ble_eq_true rfl)) dX6_beginDay_61 ⟨Nat.zero_le _, Nat.zero_le _⟩) hP hD hS hA [2] rfl rfl (fun _ => rfl) (fun H locs hP hD hS => ?_)
      have hP : va_P g.1 vwCl (w_X6 g a (zv3, 0, zq5, zq6, x.2.2.2.2.1, zq4, x.2.2.2.2.2.2.1, x.2.2.2.2.2.2.2)) H := hP
      have hD : va_D A (w_X6 g a (zv3, 0, zq5, zq6, x.2.2.2.2.1, zq4, x.2.2.2.2.2.2.1, x.2.2.2.2.2.2.2)) := hD
      refine lv_aload_n hx hb dX6_beginDay_64 rfl (lv_at hl 0 rfl) ?_
      refine va_get (D := g.1) (ci := 5) (v := .int zv3) (C := RX6) (T := TX6) (N := 8) hx hb htG in_wsX60 hown hK.1 hP 0 rfl rfl 0 (by decide) (htG _ g1_130) (fun _ h9 => h9) rfl dX6_beginDay_65 ?_
      exact W.iret (v := zv3) hx hb hr (fun t ht hW => ⟨⟨_, _, rfl, pr1 hm, atH ht hP⟩, hS.F ht⟩) hS.2.2 dX6_beginDay_68
    · replace hm := (if_neg zc2).symm.trans hm
      refine lv_bipush (v := (-3)) hx hb dX6_beginDay_22 (by decide +kernel) ?_
      exact W.iret (v := (-3)) hx hb hr (fun t ht hW => ⟨⟨_, _, rfl, pr1 hm, atH ht hP⟩, hS.F ht⟩) hS.2.2 dX6_beginDay_24
  · replace hm := (if_neg zc1).symm.trans hm
    refine lv_bipush (v := (-4)) hx hb dX6_beginDay_9 (by decide +kernel) ?_
    exact W.iret (v := (-4)) hx hb hr (fun t ht hW => ⟨⟨_, _, rfl, pr1 hm, atH ht hP⟩, hS.F ht⟩) hS.2.2 dX6_beginDay_11
