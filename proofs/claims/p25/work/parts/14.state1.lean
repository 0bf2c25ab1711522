def fX6_copy (x : SD) (y : SD) : SD := (y.1, y.2.1, y.2.2.1, y.2.2.2.1, y.2.2.2.2.1, y.2.2.2.2.2.1, y.2.2.2.2.2.2.1, y.2.2.2.2.2.2.2)
abbrev rm_X6_copy : Jvm.Room := { frames := 3, cells := 0, slots := 0, locals := 82 }
theorem hd_X6_copy : yX6_copy.cls = RX6 ∧ yX6_copy.cls ≠ "java/lang/invoke/MethodHandle" ∧ yX6_copy.cls ≠ "java/lang/invoke/VarHandle" ∧ (parseMethodDescriptor yX6_copy.desc).map (fun d => d.parameters.length) = some 1 := by decide +kernel
set_option maxHeartbeats 4000000 in
set_option maxRecDepth 100000 in
theorem kX6_copy (l : Launch) (g : CX) (a : Nat → Nat) (b : Nat → Nat) (sz : Nat) (x : SD) (y : SD) (res : SD) (hm0 : fX6_copy x y = res) : Met l yX6_copy (wg yX6_copy cX6_copy 2 none) rm_X6_copy (PW g [.ref (a 0), .ref (b 0)] sz ((w_X6 g a x) ++ (w_X6 g b y))) (va_Qv (fun u => u = res) (fun u t => va_P g.1 vwCl ((w_X6 g a u) ++ (w_X6 g b y)) t.heap) (va_A ((w_X6 g a x) ++ (w_X6 g b y)) sz)) 0 0 (va_A ((w_X6 g a x) ++ (w_X6 g b y)) sz) := by
  refine Met.ofW (cc := cX6_copy) (maxL := 2) (ret := none) (by decide) rfl ?_
  intro p e s m args below meth c s₁ B hml hv
  obtain ⟨rfl, hsz, hP, hK, hD0, hL⟩ := hv
  have hx := B.exec
  have hb := B.bytes
  have hr := B.returns
  have htG := wg_G (atoms_spec (ws := wg yX6_copy cX6_copy 2 none) B.pre)
  have hown : s.vm.findClass RX6 = some m.cls := findClass_of_methodNamed B.named
  have hlocks := B.notSynchronized
  subst hsz
  have hD := hD0.self (sz := s.heap.size)
  generalize hAe : va_A ((w_X6 g a x) ++ (w_X6 g b y)) s.heap.size = A at hD hL ⊢
  have hA : ∀ q : Nat, s.heap.size ≤ q → A q := fun q h => by rw [← hAe]; exact Or.inr h
  have hS : va_S A s.heap s.heap [] := va_S.rf
  have hl := lv_entry ([.ref (a 0), .ref (b 0)]) (n := 2) (Nat.le_of_ble_eq_true rfl)
  rw [lg_entry_eq]
  generalize (lg_sl ([.ref (a 0), .ref (b 0)]) ++ List.replicate (2 - (lg_sl ([.ref (a 0), .ref (b 0)])).length) Slot.unset).toArray = ls at hl ⊢
  have hl : lv_has ls 2 [(0, .ref (a 0)), (1, .ref (b 0))] := hl
  have hm := hm0
  unfold fX6_copy at hm
  refine lv_aload_n hx hb dX6_copy_0 rfl (lv_at hl 0 rfl) ?_
  refine lv_aload_n hx hb dX6_copy_1 rfl (lv_at hl 1 rfl) ?_
  refine va_get (D := g.1) (ci := 5) (v := .int y.1) (C := RX6) (T := TX6) (N := 8) hx hb htG in_wsX60 hown hK.1 hP 18 rfl rfl 0 (by decide) (htG _ g1_130) (fun _ h9 => h9) rfl dX6_copy_2 ?_
  refine va_put (D := g.1) (ci := 5) (v := .int y.1) (ty := .int) (C := RX6) (T := TX6) (N := 8) hx hb htG in_wsX60 tyX6 tyX6_ok nmX6 hown hK.1 hP hD hS 0 rfl rfl 0 (by decide) (htG _ g1_130) (fun _ h9 => h9) rfl (by decide +kernel) rfl rfl (Nat.le_of_ble_eq_true rfl) dX6_copy_5 (fun H locs hP hD hS => ?_)
  have hP : va_P g.1 vwCl ((w_X6 g a (y.1, x.2.1, x.2.2.1, x.2.2.2.1, x.2.2.2.2.1, x.2.2.2.2.2.1, x.2.2.2.2.2.2.1, x.2.2.2.2.2.2.2)) ++ (w_X6 g b y)) H := hP
  have hD : va_D A ((w_X6 g a (y.1, x.2.1, x.2.2.1, x.2.2.2.1, x.2.2.2.2.1, x.2.2.2.2.2.1, x.2.2.2.2.2.2.1, x.2.2.2.2.2.2.2)) ++ (w_X6 g b y)) := hD
  refine lv_aload_n hx hb dX6_copy_8 rfl (lv_at hl 0 rfl) ?_
  refine lv_aload_n hx hb dX6_copy_9 rfl (lv_at hl 1 rfl) ?_
  refine va_get (D := g.1) (ci := 5) (v := .int y.2.1) (C := RX6) (T := TX6) (N := 8) hx hb htG in_wsX60 hown hK.1 hP 18 rfl rfl 1 (by decide) (htG _ g1_131) (fun _ h9 => h9) rfl dX6_copy_10 ?_
  refine va_put (D := g.1) (ci := 5) (v := .int y.2.1) (ty := .int) (C := RX6) (T := TX6) (N := 8) hx hb htG in_wsX60 tyX6 tyX6_ok nmX6 hown hK.1 hP hD hS 0 rfl rfl 1 (by decide) (htG _ g1_131) (fun _ h9 => h9) rfl (by decide +kernel) rfl rfl (Nat.le_of_ble_eq_true rfl) dX6_copy_13 (fun H locs hP hD hS => ?_)
  have hP : va_P g.1 vwCl ((w_X6 g a (y.1, y.2.1, x.2.2.1, x.2.2.2.1, x.2.2.2.2.1, x.2.2.2.2.2.1, x.2.2.2.2.2.2.1, x.2.2.2.2.2.2.2)) ++ (w_X6 g b y)) H := hP
  have hD : va_D A ((w_X6 g a (y.1, y.2.1, x.2.2.1, x.2.2.2.1, x.2.2.2.2.1, x.2.2.2.2.2.1, x.2.2.2.2.2.2.1, x.2.2.2.2.2.2.2)) ++ (w_X6 g b y)) := hD
  refine lv_aload_n hx hb dX6_copy_16 rfl (lv_at hl 1 rfl) ?_
  refine va_get (D := g.1) (ci := 5) (v := .ref (b 1)) (C := RX6) (T := TX6) (N := 8) hx hb htG in_wsX60 hown hK.1 hP 18 rfl rfl 2 (by decide) (htG _ g1_132) (fun _ h9 => h9) rfl dX6_copy_17 ?_
  refine lv_aload_n hx hb dX6_copy_20 rfl (lv_at hl 0 rfl) ?_
  refine va_get (D := g.1) (ci := 5) (v := .ref (a 1)) (C := RX6) (T := TX6) (N := 8) hx hb htG in_wsX60 hown hK.1 hP 0 rfl rfl 2 (by decide) (htG _ g1_132) (fun _ h9 => h9) rfl dX6_copy_21 ?_
  refine kw_ve (va_runS (As := [.ref (b 1), .ref (a 1)]) (rest := []) ⟨hx, hb, hml, hown, htG⟩ (kX4_copy l g (b 1) (a 1) _ y.2.2.1 x.2.2.1 16 (by decide)) (va_cwS 2 htG (GS g2_17 g2_18 g1_5 g2_19) rfl rfl rfl hs_X4_copy ⟨Nat.le_of_ble_eq_true rfl, Nat.le_of_ble_eq_true rfl⟩) (PW_S hK hL hS hP hD hA [19, 1] rfl rfl) rfl rfl hl.1 rfl (lv_room (Nat.le_of_ble_eq_true rfl)) dX6_copy_24 ⟨Nat.zero_le _, Nat.zero_le _⟩) hP hD hS hA [19, 1] rfl rfl (fun _ => rfl) (fun H locs hP hD hS => ?_)
  have hP : va_P g.1 vwCl ((w_X6 g a (y.1, y.2.1, y.2.2.1, x.2.2.2.1, x.2.2.2.2.1, x.2.2.2.2.2.1, x.2.2.2.2.2.2.1, x.2.2.2.2.2.2.2)) ++ (w_X6 g b y)) H := hP
  have hD : va_D A ((w_X6 g a (y.1, y.2.1, y.2.2.1, x.2.2.2.1, x.2.2.2.2.1, x.2.2.2.2.2.1, x.2.2.2.2.2.2.1, x.2.2.2.2.2.2.2)) ++ (w_X6 g b y)) := hD
  refine lv_aload_n hx hb dX6_copy_27 rfl (lv_at hl 1 rfl) ?_
  refine va_get (D := g.1) (ci := 5) (v := .ref (b 2)) (C := RX6) (T := TX6) (N := 8) hx hb htG in_wsX60 hown hK.1 hP 18 rfl rfl 3 (by decide) (htG _ g1_134) (fun _ h9 => h9) rfl dX6_copy_28 ?_
  refine lv_aload_n hx hb dX6_copy_31 rfl (lv_at hl 0 rfl) ?_
  refine va_get (D := g.1) (ci := 5) (v := .ref (a 2)) (C := RX6) (T := TX6) (N := 8) hx hb htG in_wsX60 hown hK.1 hP 0 rfl rfl 3 (by decide) (htG _ g1_134) (fun _ h9 => h9) rfl dX6_copy_32 ?_
  refine kw_ve (va_runS (As := [.ref (b 2), .ref (a 2)]) (rest := []) ⟨hx, hb, hml, hown, htG⟩ (kX4_copy l g (b 2) (a 2) _ y.2.2.2.1 x.2.2.2.1 16 (by decide)) (va_cwS 2 htG (GS g2_17 g2_18 g1_5 g2_19) rfl rfl rfl hs_X4_copy ⟨Nat.le_of_ble_eq_true rfl, Nat.le_of_ble_eq_true rfl⟩) (PW_S hK hL hS hP hD hA [20, 2] rfl rfl) rfl rfl hl.1 rfl (lv_room (Nat.le_of_ble_eq_true rfl)) dX6_copy_35 ⟨Nat.zero_le _, Nat.zero_le _⟩) hP hD hS hA [20, 2] rfl rfl (fun _ => rfl) (fun H locs hP hD hS => ?_)
  have hP : va_P g.1 vwCl ((w_X6 g a (y.1, y.2.1, y.2.2.1, y.2.2.2.1, x.2.2.2.2.1, x.2.2.2.2.2.1, x.2.2.2.2.2.2.1, x.2.2.2.2.2.2.2)) ++ (w_X6 g b y)) H := hP
  have hD : va_D A ((w_X6 g a (y.1, y.2.1, y.2.2.1, y.2.2.2.1, x.2.2.2.2.1, x.2.2.2.2.2.1, x.2.2.2.2.2.2.1, x.2.2.2.2.2.2.2)) ++ (w_X6 g b y)) := hD
  refine lv_aload_n hx hb dX6_copy_38 rfl (lv_at hl 0 rfl) ?_
  refine va_get (D := g.1) (ci := 5) (v := .ref (a 3)) (C := RX6) (T := TX6) (N := 8) hx hb htG in_wsX60 hown hK.1 hP 0 rfl rfl 4 (by decide) (htG _ g1_136) (fun _ h9 => h9) rfl dX6_copy_39 ?_
  refine lv_aload_n hx hb dX6_copy_42 rfl (lv_at hl 1 rfl) ?_
  refine va_get (D := g.1) (ci := 5) (v := .ref (b 3)) (C := RX6) (T := TX6) (N := 8) hx hb htG in_wsX60 hown hK.1 hP 18 rfl rfl 4 (by decide) (htG _ g1_136) (fun _ h9 => h9) rfl dX6_copy_43 ?_
  refine kw_ve (va_runV (As := [.ref (b 3)]) (rest := []) ⟨hx, hb, hml, hown, htG⟩ (kX0_copy l g (a 3) (a 4) (a 5) (b 3) (b 4) (b 5) _ x.2.2.2.2.1 y.2.2.2.2.1 y.2.2.2.2.1 rfl) (cwV 1 htG (GV g2_26 g2_27 g2_28 g1_3 g2_29) rfl rfl rfl hd_X0_copy ⟨Nat.le_of_ble_eq_true rfl, Nat.le_of_ble_eq_true rfl⟩) (PW_V hK hL hS hP hD hA [3, 4, 5, 21, 22, 23] rfl rfl (ci := 0) rfl 3 rfl) rfl rfl hl.1 rfl (lv_room (Nat.le_of_ble_eq_true rfl)) dX6_copy_46 ⟨Nat.zero_le _, Nat.zero_le _⟩) hP hD hS hA [3, 4, 5, 21, 22, 23] rfl rfl (fun _ => rfl) (fun H locs hP hD hS => ?_)
  have hP : va_P g.1 vwCl ((w_X6 g a (y.1, y.2.1, y.2.2.1, y.2.2.2.1, y.2.2.2.2.1, x.2.2.2.2.2.1, x.2.2.2.2.2.2.1, x.2.2.2.2.2.2.2)) ++ (w_X6 g b y)) H := hP
  have hD : va_D A ((w_X6 g a (y.1, y.2.1, y.2.2.1, y.2.2.2.1, y.2.2.2.2.1, x.2.2.2.2.2.1, x.2.2.2.2.2.2.1, x.2.2.2.2.2.2.2)) ++ (w_X6 g b y)) := hD
  refine lv_aload_n hx hb dX6_copy_49 rfl (lv_at hl 0 rfl) ?_
  refine va_get (D := g.1) (ci := 5) (v := .ref (a 6)) (C := RX6) (T := TX6) (N := 8) hx hb htG in_wsX60 hown hK.1 hP 0 rfl rfl 5 (by decide) (htG _ g1_138) (fun _ h9 => h9) rfl dX6_copy_50 ?_
  refine lv_aload_n hx hb dX6_copy_53 rfl (lv_at hl 1 rfl) ?_
  refine va_get (D := g.1) (ci := 5) (v := .ref (b 6)) (C := RX6) (T := TX6) (N := 8) hx hb htG in_wsX60 hown hK.1 hP 18 rfl rfl 5 (by decide) (htG _ g1_138) (fun _ h9 => h9) rfl dX6_copy_54 ?_
  refine kw_ve (va_runV (As := [.ref (b 6)]) (rest := []) ⟨hx, hb, hml, hown, htG⟩ (kX5_copy l g (a 6) (a 7) (a 8) (a 9) (a 10) (b 6) (b 7) (b 8) (b 9) (b 10) _ x.2.2.2.2.2.1 y.2.2.2.2.2.1 y.2.2.2.2.2.1 rfl) (cwV 1 htG (GV g2_31 g2_32 g2_33 g1_4 g2_34) rfl rfl rfl hd_X5_copy ⟨Nat.le_of_ble_eq_true rfl, Nat.le_of_ble_eq_true rfl⟩) (PW_V hK hL hS hP hD hA [6, 7, 8, 9, 10, 24, 25, 26, 27, 28] rfl rfl (ci := 4) rfl 6 rfl) rfl rfl hl.1 rfl (lv_room (Nat.le_of_ble_eq_true rfl)) dX6_copy_57 ⟨Nat.zero_le _, Nat.zero_le _⟩) hP hD hS hA [6, 7, 8, 9, 10, 24, 25, 26, 27, 28] rfl rfl (fun _ => rfl) (fun H locs hP hD hS => ?_)
  have hP : va_P g.1 vwCl ((w_X6 g a (y.1, y.2.1, y.2.2.1, y.2.2.2.1, y.2.2.2.2.1, y.2.2.2.2.2.1, x.2.2.2.2.2.2.1, x.2.2.2.2.2.2.2)) ++ (w_X6 g b y)) H := hP
  have hD : va_D A ((w_X6 g a (y.1, y.2.1, y.2.2.1, y.2.2.2.1, y.2.2.2.2.1, y.2.2.2.2.2.1, x.2.2.2.2.2.2.1, x.2.2.2.2.2.2.2)) ++ (w_X6 g b y)) := hD
  refine lv_aload_n hx hb dX6_copy_60 rfl (lv_at hl 0 rfl) ?_
  refine va_get (D := g.1) (ci := 5) (v := .ref (a 11)) (C := RX6) (T := TX6) (N := 8) hx hb htG in_wsX60 hown hK.1 hP 0 rfl rfl 6 (by decide) (htG _ g1_140) (fun _ h9 => h9) rfl dX6_copy_61 ?_
  refine lv_aload_n hx hb dX6_copy_64 rfl (lv_at hl 1 rfl) ?_
  refine va_get (D := g.1) (ci := 5) (v := .ref (b 11)) (C := RX6) (T := TX6) (N := 8) hx hb htG in_wsX60 hown hK.1 hP 18 rfl rfl 6 (by decide) (htG _ g1_140) (fun _ h9 => h9) rfl dX6_copy_65 ?_
  refine kw_ve (va_runV (As := [.ref (b 11)]) (rest := []) ⟨hx, hb, hml, hown, htG⟩ (kX1_copy l g (a 11) (a 12) (a 13) (a 14) (a 15) (b 11) (b 12) (b 13) (b 14) (b 15) _ x.2.2.2.2.2.2.1 y.2.2.2.2.2.2.1 y.2.2.2.2.2.2.1 rfl) (cwV 1 htG (GV g2_36 g2_37 g2_38 g1_6 g2_39) rfl rfl rfl hd_X1_copy ⟨Nat.le_of_ble_eq_true rfl, Nat.le_of_ble_eq_true rfl⟩) (PW_V hK hL hS hP hD hA [11, 12, 13, 14, 15, 29, 30, 31, 32, 33] rfl rfl (ci := 1) rfl 11 rfl) rfl rfl hl.1 rfl (lv_room (Nat.le_of_ble_eq_true rfl)) dX6_copy_68 ⟨Nat.zero_le _, Nat.zero_le _⟩) hP hD hS hA [11, 12, 13, 14, 15, 29, 30, 31, 32, 33] rfl rfl (fun _ => rfl) (fun H locs hP hD hS => ?_)
  have hP : va_P g.1 vwCl ((w_X6 g a (y.1, y.2.1, y.2.2.1, y.2.2.2.1, y.2.2.2.2.1, y.2.2.2.2.2.1, y.2.2.2.2.2.2.1, x.2.2.2.2.2.2.2)) ++ (w_X6 g b y)) H := hP
  have hD : va_D A ((w_X6 g a (y.1, y.2.1, y.2.2.1, y.2.2.2.1, y.2.2.2.2.1, y.2.2.2.2.2.1, y.2.2.2.2.2.2.1, x.2.2.2.2.2.2.2)) ++ (w_X6 g b y)) := hD
  refine lv_aload_n hx hb dX6_copy_71 rfl (lv_at hl 0 rfl) ?_
  refine va_get (D := g.1) (ci := 5) (v := .ref (a 16)) (C := RX6) (T := TX6) (N := 8) hx hb htG in_wsX60 hown hK.1 hP 0 rfl rfl 7 (by decide) (htG _ g1_142) (fun _ h9 => h9) rfl dX6_copy_72 ?_
  refine lv_aload_n hx hb dX6_copy_75 rfl (lv_at hl 1 rfl) ?_
  refine va_get (D := g.1) (ci := 5) (v := .ref (b 16)) (C := RX6) (T := TX6) (N := 8) hx hb htG in_wsX60 hown hK.1 hP 18 rfl rfl 7 (by decide) (htG _ g1_142) (fun _ h9 => h9) rfl dX6_copy_76 ?_
  refine kw_ve (va_runV (As := [.ref (b 16)]) (rest := []) ⟨hx, hb, hml, hown, htG⟩ (kX7_copy l g (a 16) (a 17) (b 16) (b 17) _ x.2.2.2.2.2.2.2 y.2.2.2.2.2.2.2 y.2.2.2.2.2.2.2 rfl) (cwV 1 htG (GV g2_41 g2_42 g2_43 g1_7 g2_44) rfl rfl rfl hd_X7_copy ⟨Nat.le_of_ble_eq_true rfl, Nat.le_of_ble_eq_true rfl⟩) (PW_V hK hL hS hP hD hA [16, 17, 34, 35] rfl rfl (ci := 6) rfl 16 rfl) rfl rfl hl.1 rfl (lv_room (Nat.le_of_ble_eq_true rfl)) dX6_copy_79 ⟨Nat.zero_le _, Nat.zero_le _⟩) hP hD hS hA [16, 17, 34, 35] rfl rfl (fun _ => rfl) (fun H locs hP hD hS => ?_)
  have hP : va_P g.1 vwCl ((w_X6 g a (y.1, y.2.1, y.2.2.1, y.2.2.2.1, y.2.2.2.2.1, y.2.2.2.2.2.1, y.2.2.2.2.2.2.1, y.2.2.2.2.2.2.2)) ++ (w_X6 g b y)) H := hP
  have hD : va_D A ((w_X6 g a (y.1, y.2.1, y.2.2.1, y.2.2.2.1, y.2.2.2.2.1, y.2.2.2.2.2.1, y.2.2.2.2.2.2.1, y.2.2.2.2.2.2.2)) ++ (w_X6 g b y)) := hD
  exact W.vret hx hb hr (fun t ht hW => ⟨⟨_, rfl, hm, atH ht hP⟩, hS.F ht⟩) hS.2.2 dX6_copy_82
def fX6_isOver (x : SD) (p1 : Int32) : Int32 := (if x.2.1 ≤ p1 then 0 else 1)
abbrev rm_X6_isOver : Jvm.Room := { frames := 0, cells := 0, slots := 0, locals := 0 }
theorem hd_X6_isOver : yX6_isOver.cls = RX6 ∧ yX6_isOver.cls ≠ "java/lang/invoke/MethodHandle" ∧ yX6_isOver.cls ≠ "java/lang/invoke/VarHandle" ∧ (parseMethodDescriptor yX6_isOver.desc).map (fun d => d.parameters.length) = some 1 := by decide +kernel
set_option maxHeartbeats 4000000 in
set_option maxRecDepth 100000 in
theorem kX6_isOver (l : Launch) (g : CX) (a : Nat → Nat) (x : SD) (p1 : Int32) (res : Int32) (hm0 : fX6_isOver x p1 = res) : Met l yX6_isOver (wg yX6_isOver cX6_isOver 2 (some .boolean)) rm_X6_isOver (PR g [.ref (a 0), .int p1] (w_X6 g a x)) (vp_Si (fun v => v = res)) 0 0 (fun _ => False) := by
  refine Met.ofW (cc := cX6_isOver) (maxL := 2) (ret := (some .boolean)) (by decide) rfl ?_
  intro p e s m args below meth c s₁ B hml hv
  obtain ⟨rfl, hP, hK, hL⟩ := hv
  have hx := B.exec
  have hb := B.bytes
  have hr := B.returns
  have htG := wg_G (atoms_spec (ws := wg yX6_isOver cX6_isOver 2 (some .boolean)) B.pre)
  have hown : s.vm.findClass RX6 = some m.cls := findClass_of_methodNamed B.named
  have hlocks := B.notSynchronized
  have hS : va_S (fun _ => False) s.heap s.heap [] := va_S.rf
  have hl := lv_entry ([.ref (a 0), .int p1]) (n := 2) (Nat.le_of_ble_eq_true rfl)
  rw [lg_entry_eq]
  generalize (lg_sl ([.ref (a 0), .int p1]) ++ List.replicate (2 - (lg_sl ([.ref (a 0), .int p1])).length) Slot.unset).toArray = ls at hl ⊢
  have hl : lv_has ls 2 [(0, .ref (a 0)), (1, .int p1)] := hl
  have hm := hm0
  unfold fX6_isOver at hm
  refine lv_iload_n hx hb dX6_isOver_0 rfl (lv_at hl 1 rfl) ?_
  refine lv_aload_n hx hb dX6_isOver_1 rfl (lv_at hl 0 rfl) ?_
  refine va_get (D := g.1) (ci := 5) (v := .int x.2.1) (C := RX6) (T := TX6) (N := 8) hx hb htG in_wsX60 hown hK.1 hP 0 rfl rfl 1 (by decide) (htG _ g1_131) (fun _ h9 => h9) rfl dX6_isOver_2 ?_
  refine lv_icmp_ge (tgt := 12) hx hb dX6_isOver_5 (by decide) (fun zc1 => ?_) (fun zc1 => ?_)
  · replace hm := (if_pos zc1).symm.trans hm
    refine lv_iconst (v := 0) hx hb dX6_isOver_12 (by decide) ?_
    exact W.zret (v := 0) (ty := .boolean) hx hb hr rfl (fun t ht hW => ⟨_, rfl, hm, ht⟩) (fun _ h => nomatch h) dX6_isOver_13
  · replace hm := (if_neg zc1).symm.trans hm
    refine lv_iconst (v := 1) hx hb dX6_isOver_8 (by decide) ?_
    refine lv_goto (tgt := 13) hx hb dX6_isOver_9 (by decide) ?_
    exact W.zret (v := 1) (ty := .boolean) hx hb hr rfl (fun t ht hW => ⟨_, rfl, hm, ht⟩) (fun _ h => nomatch h) dX6_isOver_13
def fX6_isOpen (x : SD) (p1 : Int32) (p2 : Int32) : Int32 := (if (fX6_isOver x p2) = 0 then (if (fX5_isAwarded x.2.2.2.2.2.1 (fX8_slotOf p1 p2)) = 0 then 1 else 0) else 0)
abbrev rm_X6_isOpen : Jvm.Room := { frames := 2, cells := 0, slots := 0, locals := 42 }
theorem hd_X6_isOpen : yX6_isOpen.cls = RX6 ∧ yX6_isOpen.cls ≠ "java/lang/invoke/MethodHandle" ∧ yX6_isOpen.cls ≠ "java/lang/invoke/VarHandle" ∧ (parseMethodDescriptor yX6_isOpen.desc).map (fun d => d.parameters.length) = some 2 := by decide +kernel
set_option maxHeartbeats 4000000 in
set_option maxRecDepth 100000 in
theorem kX6_isOpen (l : Launch) (g : CX) (a : Nat → Nat) (x : SD) (p1 : Int32) (p2 : Int32) (res : Int32) (hm0 : fX6_isOpen x p1 p2 = res) : Met l yX6_isOpen (wg yX6_isOpen cX6_isOpen 3 (some .boolean)) rm_X6_isOpen (PR g [.ref (a 0), .int p1, .int p2] (w_X6 g a x)) (vp_Si (fun v => v = res)) 0 0 (fun _ => False) := by
  refine Met.ofW (cc := cX6_isOpen) (maxL := 3) (ret := (some .boolean)) (by decide) rfl ?_
  intro p e s m args below meth c s₁ B hml hv
  obtain ⟨rfl, hP, hK, hL⟩ := hv
  have hx := B.exec
  have hb := B.bytes
  have hr := B.returns
  have htG := wg_G (atoms_spec (ws := wg yX6_isOpen cX6_isOpen 3 (some .boolean)) B.pre)
  have hown : s.vm.findClass RX6 = some m.cls := findClass_of_methodNamed B.named
  have hlocks := B.notSynchronized
  have hS : va_S (fun _ => False) s.heap s.heap [] := va_S.rf
  have hl := lv_entry ([.ref (a 0), .int p1, .int p2]) (n := 3) (Nat.le_of_ble_eq_true rfl)
  rw [lg_entry_eq]
  generalize (lg_sl ([.ref (a 0), .int p1, .int p2]) ++ List.replicate (3 - (lg_sl ([.ref (a 0), .int p1, .int p2])).length) Slot.unset).toArray = ls at hl ⊢
  have hl : lv_has ls 3 [(0, .ref (a 0)), (1, .int p1), (2, .int p2)] := hl
  have hm := hm0
  unfold fX6_isOpen at hm
  refine lv_aload_n hx hb dX6_isOpen_0 rfl (lv_at hl 0 rfl) ?_
  refine lv_iload_n hx hb dX6_isOpen_1 rfl (lv_at hl 2 rfl) ?_
  refine ko_e (va_runV (As := [.int p2]) (rest := []) ⟨hx, hb, hml, hown, htG⟩ (kX6_isOver l g a x p2 _ rfl) (cwV 1 htG (GV g2_56 g2_57 g2_58 g1_2 g2_59) rfl rfl rfl hd_X6_isOver ⟨Nat.le_of_ble_eq_true rfl, Nat.le_of_ble_eq_true rfl⟩) (PR_VA hK hL hS hP (ci := 5) rfl 0 rfl) rfl rfl hl.1 rfl (lv_room (Nat.le_of_ble_eq_true rfl)) dX6_isOpen_2 ⟨Nat.zero_le _, Nat.zero_le _⟩) ?_
  refine lv_if_ne (tgt := 27) hx hb dX6_isOpen_5 (by decide) (fun zc1 => ?_) (fun zc1 => ?_)
  · replace hm := (if_neg zc1).symm.trans hm
    refine lv_iconst (v := 0) hx hb dX6_isOpen_27 (by decide) ?_
    exact W.zret (v := 0) (ty := .boolean) hx hb hr rfl (fun t ht hW => ⟨_, rfl, hm, ht⟩) (fun _ h => nomatch h) dX6_isOpen_28
  · replace hm := (if_pos zc1).symm.trans hm
    refine lv_aload_n hx hb dX6_isOpen_8 rfl (lv_at hl 0 rfl) ?_
    refine va_get (D := g.1) (ci := 5) (v := .ref (a 6)) (C := RX6) (T := TX6) (N := 8) hx hb htG in_wsX60 hown hK.1 hP 0 rfl rfl 5 (by decide) (htG _ g1_138) (fun _ h9 => h9) rfl dX6_isOpen_9 ?_
    refine lv_iload_n hx hb dX6_isOpen_12 rfl (lv_at hl 1 rfl) ?_
    refine lv_iload_n hx hb dX6_isOpen_13 rfl (lv_at hl 2 rfl) ?_
    refine ko_e (va_runSN (As := [.int p1, .int p2]) (rest := [.ref (a 6)]) ⟨hx, hb, hml, hown, htG⟩ (kX8_slotOf l g p1 p2 _ rfl) ⟨va_cnB 2 htG (GC g2_128) rfl rfl rfl (nw_39 hK) (htG _ g1_1) hs_X8_slotOf ⟨Nat.le_of_ble_eq_true rfl, Nat.le_of_ble_eq_true rfl⟩, htG _ g2_127, trivial⟩ (PR_S hK hL hS hP [] rfl) rfl rfl hl.1 rfl (lv_room (Nat.le_of_ble_eq_true rfl)) dX6_isOpen_14 ⟨Nat.zero_le _, Nat.zero_le _⟩) ?_
    refine ko_e (va_runV (As := [.int (fX8_slotOf p1 p2)]) (rest := []) ⟨hx, hb, hml, hown, htG⟩ (kX5_isAwarded l g (a 6) (a 7) (a 8) (a 9) (a 10) x.2.2.2.2.2.1 (fX8_slotOf p1 p2) _ rfl) (cwV 1 htG (GV g2_129 g2_130 g2_131 g1_4 g2_132) rfl rfl rfl hd_X5_isAwarded ⟨Nat.le_of_ble_eq_true rfl, Nat.le_of_ble_eq_true rfl⟩) (PR_V hK hL hS hP [6, 7, 8, 9, 10] rfl (ci := 4) rfl 6 rfl) rfl rfl hl.1 rfl (lv_room (Nat.le_of_ble_eq_true rfl)) dX6_isOpen_17 ⟨Nat.zero_le _, Nat.zero_le _⟩) ?_
    refine lv_if_ne (tgt := 27) hx hb dX6_isOpen_20 (by decide) (fun zc2 => ?_) (fun zc2 => ?_)
    · replace hm := (if_neg zc2).symm.trans hm
      refine lv_iconst (v := 0) hx hb dX6_isOpen_27 (by decide) ?_
      exact W.zret (v := 0) (ty := .boolean) hx hb hr rfl (fun t ht hW => ⟨_, rfl, hm, ht⟩) (fun _ h => nomatch h) dX6_isOpen_28
    · replace hm := (if_pos zc2).symm.trans hm
      refine lv_iconst (v := 1) hx hb dX6_isOpen_23 (by decide) ?_
      refine lv_goto (tgt := 28) hx hb dX6_isOpen_24 (by decide) ?_
      exact W.zret (v := 1) (ty := .boolean) hx hb hr rfl (fun t ht hW => ⟨_, rfl, hm, ht⟩) (fun _ h => nomatch h) dX6_isOpen_28
def fX6_heaviestLift (x : SD) (p1 : Int32) (p2 : Int32) : Int32 := (fX8_heaviestAt p1 (rat x.2.2.1 16 p2))
abbrev rm_X6_heaviestLift : Jvm.Room := { frames := 2, cells := 0, slots := 0, locals := 42 }
theorem hd_X6_heaviestLift : yX6_heaviestLift.cls = RX6 ∧ yX6_heaviestLift.cls ≠ "java/lang/invoke/MethodHandle" ∧ yX6_heaviestLift.cls ≠ "java/lang/invoke/VarHandle" ∧ (parseMethodDescriptor yX6_heaviestLift.desc).map (fun d => d.parameters.length) = some 2 := by decide +kernel
set_option maxHeartbeats 4000000 in
set_option maxRecDepth 100000 in
theorem kX6_heaviestLift (l : Launch) (g : CX) (a : Nat → Nat) (x : SD) (p1 : Int32) (p2 : Int32) (res : Int32) (hm0 : fX6_heaviestLift x p1 p2 = res) : Met l yX6_heaviestLift (wg yX6_heaviestLift cX6_heaviestLift 3 (some .int)) rm_X6_heaviestLift (PR g [.ref (a 0), .int p1, .int p2] (w_X6 g a x)) (vp_Si (fun v => v = res)) 0 0 (fun _ => False) := by
  refine Met.ofW (cc := cX6_heaviestLift) (maxL := 3) (ret := (some .int)) (by decide) rfl ?_
  intro p e s m args below meth c s₁ B hml hv
  obtain ⟨rfl, hP, hK, hL⟩ := hv
  have hx := B.exec
  have hb := B.bytes
  have hr := B.returns
  have htG := wg_G (atoms_spec (ws := wg yX6_heaviestLift cX6_heaviestLift 3 (some .int)) B.pre)
  have hown : s.vm.findClass RX6 = some m.cls := findClass_of_methodNamed B.named
  have hlocks := B.notSynchronized
  have hS : va_S (fun _ => False) s.heap s.heap [] := va_S.rf
  have hl := lv_entry ([.ref (a 0), .int p1, .int p2]) (n := 3) (Nat.le_of_ble_eq_true rfl)
  rw [lg_entry_eq]
  generalize (lg_sl ([.ref (a 0), .int p1, .int p2]) ++ List.replicate (3 - (lg_sl ([.ref (a 0), .int p1, .int p2])).length) Slot.unset).toArray = ls at hl ⊢
  have hl : lv_has ls 3 [(0, .ref (a 0)), (1, .int p1), (2, .int p2)] := hl
  have hm := hm0
  unfold fX6_heaviestLift at hm
  refine lv_iload_n hx hb dX6_heaviestLift_0 rfl (lv_at hl 1 rfl) ?_
  refine lv_aload_n hx hb dX6_heaviestLift_1 rfl (lv_at hl 0 rfl) ?_
  refine va_get (D := g.1) (ci := 5) (v := .ref (a 1)) (C := RX6) (T := TX6) (N := 8) hx hb htG in_wsX60 hown hK.1 hP 0 rfl rfl 2 (by decide) (htG _ g1_132) (fun _ h9 => h9) rfl dX6_heaviestLift_2 ?_
  refine lv_iload_n hx hb dX6_heaviestLift_5 rfl (lv_at hl 2 rfl) ?_
  refine ko_e (va_runS (As := [.ref (a 1), .int p2]) (rest := [.int p1]) ⟨hx, hb, hml, hown, htG⟩ (kX4_at l g (a 1) x.2.2.1 16 p2 (by decide)) (va_cwS 2 htG (GS g2_60 g2_61 g1_5 g2_62) rfl rfl rfl hs_X4_at ⟨Nat.le_of_ble_eq_true rfl, Nat.le_of_ble_eq_true rfl⟩) (PT_S hK (va_T_of hK hP 1 rfl)) rfl rfl hl.1 rfl (lv_room (Nat.le_of_ble_eq_true rfl)) dX6_heaviestLift_6 ⟨Nat.zero_le _, Nat.zero_le _⟩) ?_
  refine ko_e (va_runSN (As := [.int p1, .int (rat x.2.2.1 16 p2)]) (rest := []) ⟨hx, hb, hml, hown, htG⟩ (kX8_heaviestAt l g p1 (rat x.2.2.1 16 p2) _ rfl) ⟨va_cnB 2 htG (GC g2_198) rfl rfl rfl (nw_40 hK) (htG _ g1_1) hs_X8_heaviestAt ⟨Nat.le_of_ble_eq_true rfl, Nat.le_of_ble_eq_true rfl⟩, htG _ g2_197, trivial⟩ (PR_S hK hL hS hP [] rfl) rfl rfl hl.1 rfl (lv_room (Nat.le_of_ble_eq_true rfl)) dX6_heaviestLift_9 ⟨Nat.zero_le _, Nat.zero_le _⟩) ?_
  exact W.iret (v := (fX8_heaviestAt p1 (rat x.2.2.1 16 p2))) hx hb hr (fun t ht hW => ⟨_, rfl, hm, ht⟩) (fun _ h => nomatch h) dX6_heaviestLift_12
def fX6_freeCoins (x : SD) (p1 : Int32) : Option (Int32) := ((fX0_offeredBy x.2.2.2.2.1 p1).bind (fun zq1 => some ((rat x.2.2.2.2.2.2.1.1 6 p1) - zq1)))
abbrev rm_X6_freeCoins : Jvm.Room := { frames := 2, cells := 0, slots := 0, locals := 44 }
theorem hd_X6_freeCoins : yX6_freeCoins.cls = RX6 ∧ yX6_freeCoins.cls ≠ "java/lang/invoke/MethodHandle" ∧ yX6_freeCoins.cls ≠ "java/lang/invoke/VarHandle" ∧ (parseMethodDescriptor yX6_freeCoins.desc).map (fun d => d.parameters.length) = some 1 := by decide +kernel
set_option maxHeartbeats 4000000 in
set_option maxRecDepth 100000 in
theorem kX6_freeCoins (l : Launch) (g : CX) (a : Nat → Nat) (x : SD) (p1 : Int32) (res : Int32) (hm0 : fX6_freeCoins x p1 = some res) : Met l yX6_freeCoins (wg yX6_freeCoins cX6_freeCoins 2 (some .int)) rm_X6_freeCoins (PR g [.ref (a 0), .int p1] (w_X6 g a x)) (vp_Si (fun v => v = res)) 0 0 (fun _ => False) := by
  refine Met.ofW (cc := cX6_freeCoins) (maxL := 2) (ret := (some .int)) (by decide) rfl ?_
  intro p e s m args below meth c s₁ B hml hv
  obtain ⟨rfl, hP, hK, hL⟩ := hv
  have hx := B.exec
  have hb := B.bytes
  have hr := B.returns
  have htG := wg_G (atoms_spec (ws := wg yX6_freeCoins cX6_freeCoins 2 (some .int)) B.pre)
  have hown : s.vm.findClass RX6 = some m.cls := findClass_of_methodNamed B.named
  have hlocks := B.notSynchronized
  have hS : va_S (fun _ => False) s.heap s.heap [] := va_S.rf
  have hl := lv_entry ([.ref (a 0), .int p1]) (n := 2) (Nat.le_of_ble_eq_true rfl)
  rw [lg_entry_eq]
  generalize (lg_sl ([.ref (a 0), .int p1]) ++ List.replicate (2 - (lg_sl ([.ref (a 0), .int p1])).length) Slot.unset).toArray = ls at hl ⊢
  have hl : lv_has ls 2 [(0, .ref (a 0)), (1, .int p1)] := hl
  have hm := hm0
  unfold fX6_freeCoins at hm
  refine lv_aload_n hx hb dX6_freeCoins_0 rfl (lv_at hl 0 rfl) ?_
  refine va_get (D := g.1) (ci := 5) (v := .ref (a 11)) (C := RX6) (T := TX6) (N := 8) hx hb htG in_wsX60 hown hK.1 hP 0 rfl rfl 6 (by decide) (htG _ g1_140) (fun _ h9 => h9) rfl dX6_freeCoins_1 ?_
  refine va_getN (D := g.1) (ci := 1) (v := .ref (a 12)) (C := RX1) (T := TX1) (N := 4) hx hb htG in_wsX10 hown hK.1 hP 11 rfl rfl 0 (by decide) (nw_7 hK) (fun _ h9 => h9) rfl dX6_freeCoins_4 ?_
  refine lv_iload_n hx hb dX6_freeCoins_7 rfl (lv_at hl 1 rfl) ?_
  refine ko_e (va_runS (As := [.ref (a 12), .int p1]) (rest := []) ⟨hx, hb, hml, hown, htG⟩ (kX4_at l g (a 12) x.2.2.2.2.2.2.1.1 6 p1 (by decide)) (va_cwS 2 htG (GS g2_60 g2_61 g1_5 g2_62) rfl rfl rfl hs_X4_at ⟨Nat.le_of_ble_eq_true rfl, Nat.le_of_ble_eq_true rfl⟩) (PT_S hK (va_T_of hK hP 12 rfl)) rfl rfl hl.1 rfl (lv_room (Nat.le_of_ble_eq_true rfl)) dX6_freeCoins_8 ⟨Nat.zero_le _, Nat.zero_le _⟩) ?_
  refine lv_aload_n hx hb dX6_freeCoins_11 rfl (lv_at hl 0 rfl) ?_
  refine va_get (D := g.1) (ci := 5) (v := .ref (a 3)) (C := RX6) (T := TX6) (N := 8) hx hb htG in_wsX60 hown hK.1 hP 0 rfl rfl 4 (by decide) (htG _ g1_136) (fun _ h9 => h9) rfl dX6_freeCoins_12 ?_
  refine lv_iload_n hx hb dX6_freeCoins_15 rfl (lv_at hl 1 rfl) ?_
  obtain ⟨zq1, hzq1, hm⟩ := bdk hm
  refine ko_e (va_runV (As := [.int p1]) (rest := [.int (rat x.2.2.2.2.2.2.1.1 6 p1)]) ⟨hx, hb, hml, hown, htG⟩ (kX0_offeredBy l g (a 3) (a 4) (a 5) x.2.2.2.2.1 p1 _ hzq1) (cwV 1 htG (GV g2_146 g2_147 g2_148 g1_3 g2_149) rfl rfl rfl hd_X0_offeredBy ⟨Nat.le_of_ble_eq_true rfl, Nat.le_of_ble_eq_true rfl⟩) (PR_V hK hL hS hP [3, 4, 5] rfl (ci := 0) rfl 3 rfl) rfl rfl hl.1 rfl (lv_room (Nat.le_of_ble_eq_true rfl)) dX6_freeCoins_16 ⟨Nat.zero_le _, Nat.zero_le _⟩) ?_
  refine lv_isub hx hb dX6_freeCoins_19 ?_
  exact W.iret (v := ((rat x.2.2.2.2.2.2.1.1 6 p1) - zq1)) hx hb hr (fun t ht hW => ⟨_, rfl, (Option.some.inj hm), ht⟩) (fun _ h => nomatch h) dX6_freeCoins_20
def fX6_setWind (x : SD) (p1 : Int32) (p2 : Int32) : Int32 × SD := (if (fX8_isHour p1) = 0 then ((-1), x) else (if (fX8_isWind p2) = 0 then ((-2), x) else (if (fX6_isOver x p1) = 0 then (if (rat x.2.2.1 16 p1) = p2 then ((-5), x) else (bnd (rput x.2.2.1 16 p1 p2) (fun zq5 => (rat x.2.2.1 16 p1, (x.1, x.2.1, zq5, x.2.2.2.1, x.2.2.2.2.1, x.2.2.2.2.2.1, x.2.2.2.2.2.2.1, x.2.2.2.2.2.2.2))))) else ((-4), x))))
abbrev rm_X6_setWind : Jvm.Room := { frames := 1, cells := 0, slots := 0, locals := 22 }
theorem hd_X6_setWind : yX6_setWind.cls = RX6 ∧ yX6_setWind.cls ≠ "java/lang/invoke/MethodHandle" ∧ yX6_setWind.cls ≠ "java/lang/invoke/VarHandle" ∧ (parseMethodDescriptor yX6_setWind.desc).map (fun d => d.parameters.length) = some 2 := by decide +kernel
set_option maxHeartbeats 4000000 in
set_option maxRecDepth 100000 in
theorem kX6_setWind (l : Launch) (g : CX) (a : Nat → Nat) (sz : Nat) (x : SD) (p1 : Int32) (p2 : Int32) (res : Int32 × SD) (hm0 : fX6_setWind x p1 p2 = res) : Met l yX6_setWind (wg yX6_setWind cX6_setWind 4 (some .int)) rm_X6_setWind (PW g [.ref (a 0), .int p1, .int p2] sz (w_X6 g a x)) (va_Qi (fun v u => v = res.1 ∧ u = res.2) (fun u t => va_P g.1 vwCl (w_X6 g a u) t.heap) (va_A (w_X6 g a x) sz)) 0 0 (va_A (w_X6 g a x) sz) := by
  refine Met.ofW (cc := cX6_setWind) (maxL := 4) (ret := (some .int)) (by decide) rfl ?_
  intro p e s m args below meth c s₁ B hml hv
  obtain ⟨rfl, hsz, hP, hK, hD0, hL⟩ := hv
  have hx := B.exec
  have hb := B.bytes
  have hr := B.returns
  have htG := wg_G (atoms_spec (ws := wg yX6_setWind cX6_setWind 4 (some .int)) B.pre)
  have hown : s.vm.findClass RX6 = some m.cls := findClass_of_methodNamed B.named
  have hlocks := B.notSynchronized
  subst hsz
  have hD := hD0.self (sz := s.heap.size)
  generalize hAe : va_A (w_X6 g a x) s.heap.size = A at hD hL ⊢
  have hA : ∀ q : Nat, s.heap.size ≤ q → A q := fun q h => by rw [← hAe]; exact Or.inr h
  have hS : va_S A s.heap s.heap [] := va_S.rf
  have hl := lv_entry ([.ref (a 0), .int p1, .int p2]) (n := 4) (Nat.le_of_ble_eq_true rfl)
  rw [lg_entry_eq]
  generalize (lg_sl ([.ref (a 0), .int p1, .int p2]) ++ List.replicate (4 - (lg_sl ([.ref (a 0), .int p1, .int p2])).length) Slot.unset).toArray = ls at hl ⊢
  have hl : lv_has ls 4 [(0, .ref (a 0)), (1, .int p1), (2, .int p2)] := hl
  have hm := hm0
  unfold fX6_setWind at hm
  refine lv_iload_n hx hb dX6_setWind_0 rfl (lv_at hl 1 rfl) ?_
  refine ko_e (va_runSN (As := [.int p1]) (rest := []) ⟨hx, hb, hml, hown, htG⟩ (kX8_isHour l g p1 _ rfl) ⟨va_cnB 1 htG (GC g2_52) rfl rfl rfl (nw_34 hK) (htG _ g1_1) hs_X8_isHour ⟨Nat.le_of_ble_eq_true rfl, Nat.le_of_ble_eq_true rfl⟩, htG _ g2_51, trivial⟩ (PR_S hK hL hS hP [] rfl) rfl rfl hl.1 rfl (lv_room (Nat.le_of_ble_eq_true rfl)) dX6_setWind_1 ⟨Nat.zero_le _, Nat.zero_le _⟩) ?_
  refine lv_if_ne (tgt := 9) hx hb dX6_setWind_4 (by decide) (fun zc1 => ?_) (fun zc1 => ?_)
  · replace hm := (if_neg zc1).symm.trans hm
    refine lv_iload_n hx hb dX6_setWind_9 rfl (lv_at hl 2 rfl) ?_
    refine ko_e (va_runSN (As := [.int p2]) (rest := []) ⟨hx, hb, hml, hown, htG⟩ (kX8_isWind l g p2 _ rfl) ⟨va_cnB 1 htG (GC g2_55) rfl rfl rfl (nw_35 hK) (htG _ g1_1) hs_X8_isWind ⟨Nat.le_of_ble_eq_true rfl, Nat.le_of_ble_eq_true rfl⟩, htG _ g2_54, trivial⟩ (PR_S hK hL hS hP [] rfl) rfl rfl hl.1 rfl (lv_room (Nat.le_of_ble_eq_true rfl)) dX6_setWind_10 ⟨Nat.zero_le _, Nat.zero_le _⟩) ?_
    refine lv_if_ne (tgt := 19) hx hb dX6_setWind_13 (by decide) (fun zc2 => ?_) (fun zc2 => ?_)
    · replace hm := (if_neg zc2).symm.trans hm
      refine lv_aload_n hx hb dX6_setWind_19 rfl (lv_at hl 0 rfl) ?_
      refine lv_iload_n hx hb dX6_setWind_20 rfl (lv_at hl 1 rfl) ?_
      refine ko_e (va_runV (As := [.int p1]) (rest := []) ⟨hx, hb, hml, hown, htG⟩ (kX6_isOver l g a x p1 _ rfl) (cwV 1 htG (GV g2_56 g2_57 g2_58 g1_2 g2_59) rfl rfl rfl hd_X6_isOver ⟨Nat.le_of_ble_eq_true rfl, Nat.le_of_ble_eq_true rfl⟩) (PR_VA hK hL hS hP (ci := 5) rfl 0 rfl) rfl rfl hl.1 rfl (lv_room (Nat.le_of_ble_eq_true rfl)) dX6_setWind_21 ⟨Nat.zero_le _, Nat.zero_le _⟩) ?_
      refine lv_if_eq (tgt := 30) hx hb dX6_setWind_24 (by decide) (fun zc3 => ?_) (fun zc3 => ?_)
      · replace hm := (if_pos zc3).symm.trans hm
        refine lv_aload_n hx hb dX6_setWind_30 rfl (lv_at hl 0 rfl) ?_
        refine va_get (D := g.1) (ci := 5) (v := .ref (a 1)) (C := RX6) (T := TX6) (N := 8) hx hb htG in_wsX60 hown hK.1 hP 0 rfl rfl 2 (by decide) (htG _ g1_132) (fun _ h9 => h9) rfl dX6_setWind_31 ?_
        refine lv_iload_n hx hb dX6_setWind_34 rfl (lv_at hl 1 rfl) ?_
        refine ko_e (va_runS (As := [.ref (a 1), .int p1]) (rest := []) ⟨hx, hb, hml, hown, htG⟩ (kX4_at l g (a 1) x.2.2.1 16 p1 (by decide)) (va_cwS 2 htG (GS g2_60 g2_61 g1_5 g2_62) rfl rfl rfl hs_X4_at ⟨Nat.le_of_ble_eq_true rfl, Nat.le_of_ble_eq_true rfl⟩) (PT_S hK (va_T_of hK hP 1 rfl)) rfl rfl hl.1 rfl (lv_room (Nat.le_of_ble_eq_true rfl)) dX6_setWind_35 ⟨Nat.zero_le _, Nat.zero_le _⟩) ?_
        refine lv_istore_n (lv' := [(3, .int (rat x.2.2.1 16 p1)), (0, .ref (a 0)), (1, .int p1), (2, .int p2)]) hx hb dX6_setWind_38 rfl hl (by decide) rfl (fun ls hl => ?_)
        refine lv_iload_n hx hb dX6_setWind_39 rfl (lv_at hl 0 rfl) ?_
        refine lv_iload_n hx hb dX6_setWind_40 rfl (lv_at hl 3 rfl) ?_
        refine lv_icmp_ne (tgt := 47) hx hb dX6_setWind_41 (by decide) (fun zc4 => ?_) (fun zc4 => ?_)
        · replace hm := (if_neg zc4).symm.trans hm
          refine lv_aload_n hx hb dX6_setWind_47 rfl (lv_at hl 1 rfl) ?_
          refine va_get (D := g.1) (ci := 5) (v := .ref (a 1)) (C := RX6) (T := TX6) (N := 8) hx hb htG in_wsX60 hown hK.1 hP 0 rfl rfl 2 (by decide) (htG _ g1_132) (fun _ h9 => h9) rfl dX6_setWind_48 ?_
          refine lv_iload_n hx hb dX6_setWind_51 rfl (lv_at hl 2 rfl) ?_
          refine lv_iload_n hx hb dX6_setWind_52 rfl (lv_at hl 3 rfl) ?_
          obtain ⟨zq5, hzq5, hm⟩ := bnk hm
          refine kw_ve (va_runS (As := [.ref (a 1), .int p1, .int p2]) (rest := []) ⟨hx, hb, hml, hown, htG⟩ (kX4_put l g (a 1) _ x.2.2.1 16 p1 p2 _ ((t_X4_put _ _ _ _ (by decide)).trans (congrArg some hzq5))) (va_cwS 3 htG (GS g2_63 g2_64 g1_5 g2_65) rfl rfl rfl hs_X4_put ⟨Nat.le_of_ble_eq_true rfl, Nat.le_of_ble_eq_true rfl⟩) (PW_S hK hL hS hP hD hA [1] rfl rfl) rfl rfl hl.1 rfl (lv_room (Nat.le_of_ble_eq_true rfl)) dX6_setWind_53 ⟨Nat.zero_le _, Nat.zero_le _⟩) hP hD hS hA [1] rfl rfl (fun _ => rfl) (fun H locs hP hD hS => ?_)
          have hP : va_P g.1 vwCl (w_X6 g a (x.1, x.2.1, zq5, x.2.2.2.1, x.2.2.2.2.1, x.2.2.2.2.2.1, x.2.2.2.2.2.2.1, x.2.2.2.2.2.2.2)) H := hP
          have hD : va_D A (w_X6 g a (x.1, x.2.1, zq5, x.2.2.2.1, x.2.2.2.2.1, x.2.2.2.2.2.1, x.2.2.2.2.2.2.1, x.2.2.2.2.2.2.2)) := hD
          refine lv_iload_n hx hb dX6_setWind_56 rfl (lv_at hl 0 rfl) ?_
          exact W.iret (v := (rat x.2.2.1 16 p1)) hx hb hr (fun t ht hW => ⟨⟨_, _, rfl, pr1 hm, atH ht hP⟩, hS.F ht⟩) hS.2.2 dX6_setWind_57
        · replace hm := (if_pos zc4).symm.trans hm
          refine lv_bipush (v := (-5)) hx hb dX6_setWind_44 (by decide +kernel) ?_
          exact W.iret (v := (-5)) hx hb hr (fun t ht hW => ⟨⟨_, _, rfl, pr1 hm, atH ht hP⟩, hS.F ht⟩) hS.2.2 dX6_setWind_46
      · replace hm := (if_neg zc3).symm.trans hm
        refine lv_bipush (v := (-4)) hx hb dX6_setWind_27 (by decide +kernel) ?_
        exact W.iret (v := (-4)) hx hb hr (fun t ht hW => ⟨⟨_, _, rfl, pr1 hm, atH ht hP⟩, hS.F ht⟩) hS.2.2 dX6_setWind_29
    · replace hm := (if_pos zc2).symm.trans hm
      refine lv_bipush (v := (-2)) hx hb dX6_setWind_16 (by decide +kernel) ?_
      exact W.iret (v := (-2)) hx hb hr (fun t ht hW => ⟨⟨_, _, rfl, pr1 hm, atH ht hP⟩, hS.F ht⟩) hS.2.2 dX6_setWind_18
  · replace hm := (if_pos zc1).symm.trans hm
    refine lv_iconst (v := (-1)) hx hb dX6_setWind_7 (by decide) ?_
    exact W.iret (v := (-1)) hx hb hr (fun t ht hW => ⟨⟨_, _, rfl, pr1 hm, atH ht hP⟩, hS.F ht⟩) hS.2.2 dX6_setWind_8
def fX6_addCoins (x : SD) (p1 : Int32) (p2 : Int32) : Int32 × SD := (if (fX8_isFirm p1) = 0 then ((-1), x) else (if p2 < 1 then ((-2), x) else (if p2 ≤ 999 then (if ((rat x.2.2.2.2.2.2.1.1 6 p1) + p2) ≤ 9999 then (bnd (radd x.2.2.2.2.2.2.1.1 6 p1 p2) (fun zq5 => (bnd (x.2.2.2.2.2.2.2.2.2.2.1 + p2) (fun zv6 => (rat zq5 6 p1, (x.1, x.2.1, x.2.2.1, x.2.2.2.1, x.2.2.2.2.1, x.2.2.2.2.2.1, (zq5, x.2.2.2.2.2.2.1.2.1, x.2.2.2.2.2.2.1.2.2.1, x.2.2.2.2.2.2.1.2.2.2), (x.2.2.2.2.2.2.2.1, x.2.2.2.2.2.2.2.2.1, x.2.2.2.2.2.2.2.2.2.1, zv6, x.2.2.2.2.2.2.2.2.2.2.2.1, x.2.2.2.2.2.2.2.2.2.2.2.2.1, x.2.2.2.2.2.2.2.2.2.2.2.2.2))))))) else ((-3), x)) else ((-2), x))))
abbrev rm_X6_addCoins : Jvm.Room := { frames := 1, cells := 0, slots := 0, locals := 22 }
theorem hd_X6_addCoins : yX6_addCoins.cls = RX6 ∧ yX6_addCoins.cls ≠ "java/lang/invoke/MethodHandle" ∧ yX6_addCoins.cls ≠ "java/lang/invoke/VarHandle" ∧ (parseMethodDescriptor yX6_addCoins.desc).map (fun d => d.parameters.length) = some 2 := by decide +kernel
set_option maxHeartbeats 4000000 in
set_option maxRecDepth 100000 in
theorem kX6_addCoins (l : Launch) (g : CX) (a : Nat → Nat) (sz : Nat) (x : SD) (p1 : Int32) (p2 : Int32) (res : Int32 × SD) (hm0 : fX6_addCoins x p1 p2 = res) : Met l yX6_addCoins (wg yX6_addCoins cX6_addCoins 3 (some .int)) rm_X6_addCoins (PW g [.ref (a 0), .int p1, .int p2] sz (w_X6 g a x)) (va_Qi (fun v u => v = res.1 ∧ u = res.2) (fun u t => va_P g.1 vwCl (w_X6 g a u) t.heap) (va_A (w_X6 g a x) sz)) 0 0 (va_A (w_X6 g a x) sz) := by
  refine Met.ofW (cc := cX6_addCoins) (maxL := 3) (ret := (some .int)) (by decide) rfl ?_
  intro p e s m args below meth c s₁ B hml hv
  obtain ⟨rfl, hsz, hP, hK, hD0, hL⟩ := hv
  have hx := B.exec
  have hb := B.bytes
  have hr := B.returns
  have htG := wg_G (atoms_spec (ws := wg yX6_addCoins cX6_addCoins 3 (some .int)) B.pre)
  have hown : s.vm.findClass RX6 = some m.cls := findClass_of_methodNamed B.named
  have hlocks := B.notSynchronized
  subst hsz
  have hD := hD0.self (sz := s.heap.size)
  generalize hAe : va_A (w_X6 g a x) s.heap.size = A at hD hL ⊢
  have hA : ∀ q : Nat, s.heap.size ≤ q → A q := fun q h => by rw [← hAe]; exact Or.inr h
  have hS : va_S A s.heap s.heap [] := va_S.rf
  have hl := lv_entry ([.ref (a 0), .int p1, .int p2]) (n := 3) (Nat.le_of_ble_eq_true rfl)
  rw [lg_entry_eq]
  generalize (lg_sl ([.ref (a 0), .int p1, .int p2]) ++ List.replicate (3 - (lg_sl ([.ref (a 0), .int p1, .int p2])).length) Slot.unset).toArray = ls at hl ⊢
  have hl : lv_has ls 3 [(0, .ref (a 0)), (1, .int p1), (2, .int p2)] := hl
  have hm := hm0
  unfold fX6_addCoins at hm
  refine lv_iload_n hx hb dX6_addCoins_0 rfl (lv_at hl 1 rfl) ?_
  refine ko_e (va_runSN (As := [.int p1]) (rest := []) ⟨hx, hb, hml, hown, htG⟩ (kX8_isFirm l g p1 _ rfl) ⟨va_cnB 1 htG (GC g2_93) rfl rfl rfl (nw_36 hK) (htG _ g1_1) hs_X8_isFirm ⟨Nat.le_of_ble_eq_true rfl, Nat.le_of_ble_eq_true rfl⟩, htG _ g2_92, trivial⟩ (PR_S hK hL hS hP [] rfl) rfl rfl hl.1 rfl (lv_room (Nat.le_of_ble_eq_true rfl)) dX6_addCoins_1 ⟨Nat.zero_le _, Nat.zero_le _⟩) ?_
  refine lv_if_ne (tgt := 9) hx hb dX6_addCoins_4 (by decide) (fun zc1 => ?_) (fun zc1 => ?_)
  · replace hm := (if_neg zc1).symm.trans hm
    refine lv_iload_n hx hb dX6_addCoins_9 rfl (lv_at hl 2 rfl) ?_
    refine lv_iconst (v := 1) hx hb dX6_addCoins_10 (by decide) ?_
    refine lv_icmp_lt (tgt := 21) hx hb dX6_addCoins_11 (by decide) (fun zc2 => ?_) (fun zc2 => ?_)
    · replace hm := (if_pos zc2).symm.trans hm
      refine lv_bipush (v := (-2)) hx hb dX6_addCoins_21 (by decide +kernel) ?_
      exact W.iret (v := (-2)) hx hb hr (fun t ht hW => ⟨⟨_, _, rfl, pr1 hm, atH ht hP⟩, hS.F ht⟩) hS.2.2 dX6_addCoins_23
    · replace hm := (if_neg zc2).symm.trans hm
      refine lv_iload_n hx hb dX6_addCoins_14 rfl (lv_at hl 2 rfl) ?_
      refine lv_sipush (v := 999) hx hb dX6_addCoins_15 (by decide +kernel) ?_
      refine lv_icmp_le (tgt := 24) hx hb dX6_addCoins_18 (by decide) (fun zc3 => ?_) (fun zc3 => ?_)
      · replace hm := (if_pos zc3).symm.trans hm
        refine lv_aload_n hx hb dX6_addCoins_24 rfl (lv_at hl 0 rfl) ?_
        refine va_get (D := g.1) (ci := 5) (v := .ref (a 11)) (C := RX6) (T := TX6) (N := 8) hx hb htG in_wsX60 hown hK.1 hP 0 rfl rfl 6 (by decide) (htG _ g1_140) (fun _ h9 => h9) rfl dX6_addCoins_25 ?_
        refine va_getN (D := g.1) (ci := 1) (v := .ref (a 12)) (C := RX1) (T := TX1) (N := 4) hx hb htG in_wsX10 hown hK.1 hP 11 rfl rfl 0 (by decide) (nw_7 hK) (fun _ h9 => h9) rfl dX6_addCoins_28 ?_
        refine lv_iload_n hx hb dX6_addCoins_31 rfl (lv_at hl 1 rfl) ?_
        refine ko_e (va_runS (As := [.ref (a 12), .int p1]) (rest := []) ⟨hx, hb, hml, hown, htG⟩ (kX4_at l g (a 12) x.2.2.2.2.2.2.1.1 6 p1 (by decide)) (va_cwS 2 htG (GS g2_60 g2_61 g1_5 g2_62) rfl rfl rfl hs_X4_at ⟨Nat.le_of_ble_eq_true rfl, Nat.le_of_ble_eq_true rfl⟩) (PT_S hK (va_T_of hK hP 12 rfl)) rfl rfl hl.1 rfl (lv_room (Nat.le_of_ble_eq_true rfl)) dX6_addCoins_32 ⟨Nat.zero_le _, Nat.zero_le _⟩) ?_
        refine lv_iload_n hx hb dX6_addCoins_35 rfl (lv_at hl 2 rfl) ?_
        refine lv_iadd hx hb dX6_addCoins_36 ?_
        refine lv_sipush (v := 9999) hx hb dX6_addCoins_37 (by decide +kernel) ?_
        refine lv_icmp_le (tgt := 46) hx hb dX6_addCoins_40 (by decide) (fun zc4 => ?_) (fun zc4 => ?_)
        · replace hm := (if_pos zc4).symm.trans hm
          refine lv_aload_n hx hb dX6_addCoins_46 rfl (lv_at hl 0 rfl) ?_
          refine va_get (D := g.1) (ci := 5) (v := .ref (a 11)) (C := RX6) (T := TX6) (N := 8) hx hb htG in_wsX60 hown hK.1 hP 0 rfl rfl 6 (by decide) (htG _ g1_140) (fun _ h9 => h9) rfl dX6_addCoins_47 ?_
          refine va_getN (D := g.1) (ci := 1) (v := .ref (a 12)) (C := RX1) (T := TX1) (N := 4) hx hb htG in_wsX10 hown hK.1 hP 11 rfl rfl 0 (by decide) (nw_7 hK) (fun _ h9 => h9) rfl dX6_addCoins_50 ?_
          refine lv_iload_n hx hb dX6_addCoins_53 rfl (lv_at hl 1 rfl) ?_
          refine lv_iload_n hx hb dX6_addCoins_54 rfl (lv_at hl 2 rfl) ?_
          obtain ⟨zq5, hzq5, hm⟩ := bnk hm
          refine kw_ve (va_runS (As := [.ref (a 12), .int p1, .int p2]) (rest := []) ⟨hx, hb, hml, hown, htG⟩ (kX4_add l g (a 12) _ x.2.2.2.2.2.2.1.1 6 p1 p2 _ ((t_X4_add _ _ _ _ (by decide)).trans (congrArg some hzq5))) (va_cwS 3 htG (GS g2_94 g2_95 g1_5 g2_96) rfl rfl rfl hs_X4_add ⟨Nat.le_of_ble_eq_true rfl, Nat.le_of_ble_eq_true rfl⟩) (PW_S hK hL hS hP hD hA [12] rfl rfl) rfl rfl hl.1 rfl (lv_room (Nat.le_of_ble_eq_true rfl)) dX6_addCoins_55 ⟨Nat.zero_le _, Nat.zero_le _⟩) hP hD hS hA [12] rfl rfl (fun _ => rfl) (fun H locs hP hD hS => ?_)
          have hP : va_P g.1 vwCl (w_X6 g a (x.1, x.2.1, x.2.2.1, x.2.2.2.1, x.2.2.2.2.1, x.2.2.2.2.2.1, (zq5, x.2.2.2.2.2.2.1.2.1, x.2.2.2.2.2.2.1.2.2.1, x.2.2.2.2.2.2.1.2.2.2), x.2.2.2.2.2.2.2)) H := hP
          have hD : va_D A (w_X6 g a (x.1, x.2.1, x.2.2.1, x.2.2.2.1, x.2.2.2.2.1, x.2.2.2.2.2.1, (zq5, x.2.2.2.2.2.2.1.2.1, x.2.2.2.2.2.2.1.2.2.1, x.2.2.2.2.2.2.1.2.2.2), x.2.2.2.2.2.2.2)) := hD
          refine lv_aload_n hx hb dX6_addCoins_58 rfl (lv_at hl 0 rfl) ?_
          refine va_get (D := g.1) (ci := 5) (v := .ref (a 16)) (C := RX6) (T := TX6) (N := 8) hx hb htG in_wsX60 hown hK.1 hP 0 rfl rfl 7 (by decide) (htG _ g1_142) (fun _ h9 => h9) rfl dX6_addCoins_59 ?_
          refine lv_dup hx hb dX6_addCoins_62 rfl ?_
          refine va_getN (D := g.1) (ci := 6) (v := .int x.2.2.2.2.2.2.2.2.2.2.1) (C := RX7) (T := TX7) (N := 7) hx hb htG in_wsX70 hown hK.1 hP 16 rfl rfl 3 (by decide) (nw_17 hK) (fun _ h9 => h9) rfl dX6_addCoins_63 ?_
          refine lv_iload_n hx hb dX6_addCoins_66 rfl (lv_at hl 2 rfl) ?_
          refine lv_iadd hx hb dX6_addCoins_67 ?_
          obtain ⟨zv6, ezv6, hm⟩ := bnk hm
          refine tope ezv6 ?_
          refine va_putN (D := g.1) (ci := 6) (v := .int zv6) (ty := .int) (C := RX7) (T := TX7) (N := 7) hx hb htG in_wsX70 tyX7 tyX7_ok nmX7 hown hK.1 hP hD hS 16 rfl rfl 3 (by decide) (nw_17 hK) (fun _ h9 => h9) rfl (by decide +kernel) rfl rfl (Nat.le_of_ble_eq_true rfl) dX6_addCoins_68 (fun H locs hP hD hS => ?_)
          have hP : va_P g.1 vwCl (w_X6 g a (x.1, x.2.1, x.2.2.1, x.2.2.2.1, x.2.2.2.2.1, x.2.2.2.2.2.1, (zq5, x.2.2.2.2.2.2.1.2.1, x.2.2.2.2.2.2.1.2.2.1, x.2.2.2.2.2.2.1.2.2.2), (x.2.2.2.2.2.2.2.1, x.2.2.2.2.2.2.2.2.1, x.2.2.2.2.2.2.2.2.2.1, zv6, x.2.2.2.2.2.2.2.2.2.2.2.1, x.2.2.2.2.2.2.2.2.2.2.2.2.1, x.2.2.2.2.2.2.2.2.2.2.2.2.2))) H := hP
          have hD : va_D A (w_X6 g a (x.1, x.2.1, x.2.2.1, x.2.2.2.1, x.2.2.2.2.1, x.2.2.2.2.2.1, (zq5, x.2.2.2.2.2.2.1.2.1, x.2.2.2.2.2.2.1.2.2.1, x.2.2.2.2.2.2.1.2.2.2), (x.2.2.2.2.2.2.2.1, x.2.2.2.2.2.2.2.2.1, x.2.2.2.2.2.2.2.2.2.1, zv6, x.2.2.2.2.2.2.2.2.2.2.2.1, x.2.2.2.2.2.2.2.2.2.2.2.2.1, x.2.2.2.2.2.2.2.2.2.2.2.2.2))) := hD
          refine lv_aload_n hx hb dX6_addCoins_71 rfl (lv_at hl 0 rfl) ?_
          refine va_get (D := g.1) (ci := 5) (v := .ref (a 11)) (C := RX6) (T := TX6) (N := 8) hx hb htG in_wsX60 hown hK.1 hP 0 rfl rfl 6 (by decide) (htG _ g1_140) (fun _ h9 => h9) rfl dX6_addCoins_72 ?_
          refine va_getN (D := g.1) (ci := 1) (v := .ref (a 12)) (C := RX1) (T := TX1) (N := 4) hx hb htG in_wsX10 hown hK.1 hP 11 rfl rfl 0 (by decide) (nw_7 hK) (fun _ h9 => h9) rfl dX6_addCoins_75 ?_
          refine lv_iload_n hx hb dX6_addCoins_78 rfl (lv_at hl 1 rfl) ?_
          refine ko_e (va_runS (As := [.ref (a 12), .int p1]) (rest := []) ⟨hx, hb, hml, hown, htG⟩ (kX4_at l g (a 12) zq5 6 p1 (by decide)) (va_cwS 2 htG (GS g2_60 g2_61 g1_5 g2_62) rfl rfl rfl hs_X4_at ⟨Nat.le_of_ble_eq_true rfl, Nat.le_of_ble_eq_true rfl⟩) (PT_S hK (va_T_of hK hP 12 rfl)) rfl rfl hl.1 rfl (lv_room (Nat.le_of_ble_eq_true rfl)) dX6_addCoins_79 ⟨Nat.zero_le _, Nat.zero_le _⟩) ?_
          exact W.iret (v := (rat zq5 6 p1)) hx hb hr (fun t ht hW => ⟨⟨_, _, rfl, pr1 hm, atH ht hP⟩, hS.F ht⟩) hS.2.2 dX6_addCoins_82
        · replace hm := (if_neg zc4).symm.trans hm
          refine lv_bipush (v := (-3)) hx hb dX6_addCoins_43 (by decide +kernel) ?_
          exact W.iret (v := (-3)) hx hb hr (fun t ht hW => ⟨⟨_, _, rfl, pr1 hm, atH ht hP⟩, hS.F ht⟩) hS.2.2 dX6_addCoins_45
      · replace hm := (if_neg zc3).symm.trans hm
        refine lv_bipush (v := (-2)) hx hb dX6_addCoins_21 (by decide +kernel) ?_
        exact W.iret (v := (-2)) hx hb hr (fun t ht hW => ⟨⟨_, _, rfl, pr1 hm, atH ht hP⟩, hS.F ht⟩) hS.2.2 dX6_addCoins_23
  · replace hm := (if_pos zc1).symm.trans hm
    refine lv_iconst (v := (-1)) hx hb dX6_addCoins_7 (by decide) ?_
    exact W.iret (v := (-1)) hx hb hr (fun t ht hW => ⟨⟨_, _, rfl, pr1 hm, atH ht hP⟩, hS.F ht⟩) hS.2.2 dX6_addCoins_8
def fX6_bidError (x : SD) (p1 : Int32) (p2 : Int32) (p3 : Int32) (p4 : Int32) (p5 : Int32) : Option (Int32) := (if (fX8_isFirm p1) = 0 then some (-1) else (if (fX8_isSlot p2 p3) = 0 then some (-1) else (if (fX8_isLift p2 p4) = 0 then some (-2) else (if p5 < 1 then some (-2) else (if p5 ≤ 999 then (if (fX6_isOpen x p2 p3) = 0 then some (-4) else (if (fX0_offer x.2.2.2.2.1 p1 (fX8_slotOf p2 p3)) ≤ 0 then ((fX6_freeCoins x p1).bind (fun zq8 => (if p5 ≤ zq8 then ((fX0_countAll x.2.2.2.2.1).bind (fun zq10 => (if 60 ≤ zq10 then some (-3) else some 0))) else some (-6)))) else some (-4))) else some (-2))))))
abbrev rm_X6_bidError : Jvm.Room := { frames := 3, cells := 0, slots := 0, locals := 66 }
theorem hd_X6_bidError : yX6_bidError.cls = RX6 ∧ yX6_bidError.cls ≠ "java/lang/invoke/MethodHandle" ∧ yX6_bidError.cls ≠ "java/lang/invoke/VarHandle" ∧ (parseMethodDescriptor yX6_bidError.desc).map (fun d => d.parameters.length) = some 5 := by decide +kernel
set_option maxHeartbeats 4000000 in
set_option maxRecDepth 100000 in
theorem kX6_bidError (l : Launch) (g : CX) (a : Nat → Nat) (x : SD) (p1 : Int32) (p2 : Int32) (p3 : Int32) (p4 : Int32) (p5 : Int32) (res : Int32) (hm0 : fX6_bidError x p1 p2 p3 p4 p5 = some res) : Met l yX6_bidError (wg yX6_bidError cX6_bidError 6 (some .int)) rm_X6_bidError (PR g [.ref (a 0), .int p1, .int p2, .int p3, .int p4, .int p5] (w_X6 g a x)) (vp_Si (fun v => v = res)) 0 0 (fun _ => False) := by
  refine Met.ofW (cc := cX6_bidError) (maxL := 6) (ret := (some .int)) (by decide) rfl ?_
  intro p e s m args below meth c s₁ B hml hv
  obtain ⟨rfl, hP, hK, hL⟩ := hv
  have hx := B.exec
  have hb := B.bytes
  have hr := B.returns
  have htG := wg_G (atoms_spec (ws := wg yX6_bidError cX6_bidError 6 (some .int)) B.pre)
  have hown : s.vm.findClass RX6 = some m.cls := findClass_of_methodNamed B.named
  have hlocks := B.notSynchronized
  have hS : va_S (fun _ => False) s.heap s.heap [] := va_S.rf
  have hl := lv_entry ([.ref (a 0), .int p1, .int p2, .int p3, .int p4, .int p5]) (n := 6) (Nat.le_of_ble_eq_true rfl)
  rw [lg_entry_eq]
  generalize (lg_sl ([.ref (a 0), .int p1, .int p2, .int p3, .int p4, .int p5]) ++ List.replicate (6 - (lg_sl ([.ref (a 0), .int p1, .int p2, .int p3, .int p4, .int p5])).length) Slot.unset).toArray = ls at hl ⊢
  have hl : lv_has ls 6 [(0, .ref (a 0)), (1, .int p1), (2, .int p2), (3, .int p3), (4, .int p4), (5, .int p5)] := hl
  have hm := hm0
  unfold fX6_bidError at hm
  refine lv_iload_n hx hb dX6_bidError_0 rfl (lv_at hl 1 rfl) ?_
  refine ko_e (va_runSN (As := [.int p1]) (rest := []) ⟨hx, hb, hml, hown, htG⟩ (kX8_isFirm l g p1 _ rfl) ⟨va_cnB 1 htG (GC g2_93) rfl rfl rfl (nw_36 hK) (htG _ g1_1) hs_X8_isFirm ⟨Nat.le_of_ble_eq_true rfl, Nat.le_of_ble_eq_true rfl⟩, htG _ g2_92, trivial⟩ (PR_S hK hL hS hP [] rfl) rfl rfl hl.1 rfl (lv_room (Nat.le_of_ble_eq_true rfl)) dX6_bidError_1 ⟨Nat.zero_le _, Nat.zero_le _⟩) ?_
  refine lv_if_eq (tgt := 15) hx hb dX6_bidError_4 (by decide) (fun zc1 => ?_) (fun zc1 => ?_)
  · replace hm := (if_pos zc1).symm.trans hm
    refine lv_iconst (v := (-1)) hx hb dX6_bidError_15 (by decide) ?_
    exact W.iret (v := (-1)) hx hb hr (fun t ht hW => ⟨_, rfl, (Option.some.inj hm), ht⟩) (fun _ h => nomatch h) dX6_bidError_16
  · replace hm := (if_neg zc1).symm.trans hm
    refine lv_iload_n hx hb dX6_bidError_7 rfl (lv_at hl 2 rfl) ?_
    refine lv_iload_n hx hb dX6_bidError_8 rfl (lv_at hl 3 rfl) ?_
    refine ko_e (va_runSN (As := [.int p2, .int p3]) (rest := []) ⟨hx, hb, hml, hown, htG⟩ (kX8_isSlot l g p2 p3 _ rfl) ⟨va_cnB 2 htG (GC g2_111) rfl rfl rfl (nw_37 hK) (htG _ g1_1) hs_X8_isSlot ⟨Nat.le_of_ble_eq_true rfl, Nat.le_of_ble_eq_true rfl⟩, htG _ g2_110, trivial⟩ (PR_S hK hL hS hP [] rfl) rfl rfl hl.1 rfl (lv_room (Nat.le_of_ble_eq_true rfl)) dX6_bidError_9 ⟨Nat.zero_le _, Nat.zero_le _⟩) ?_
    refine lv_if_ne (tgt := 17) hx hb dX6_bidError_12 (by decide) (fun zc2 => ?_) (fun zc2 => ?_)
    · replace hm := (if_neg zc2).symm.trans hm
      refine lv_iload_n hx hb dX6_bidError_17 rfl (lv_at hl 2 rfl) ?_
      refine lv_iload hx hb dX6_bidError_18 (lv_at hl 4 rfl) ?_
      refine ko_e (va_runSN (As := [.int p2, .int p4]) (rest := []) ⟨hx, hb, hml, hown, htG⟩ (kX8_isLift l g p2 p4 _ rfl) ⟨va_cnB 2 htG (GC g2_118) rfl rfl rfl (nw_38 hK) (htG _ g1_1) hs_X8_isLift ⟨Nat.le_of_ble_eq_true rfl, Nat.le_of_ble_eq_true rfl⟩, htG _ g2_117, trivial⟩ (PR_S hK hL hS hP [] rfl) rfl rfl hl.1 rfl (lv_room (Nat.le_of_ble_eq_true rfl)) dX6_bidError_20 ⟨Nat.zero_le _, Nat.zero_le _⟩) ?_
      refine lv_if_eq (tgt := 40) hx hb dX6_bidError_23 (by decide) (fun zc3 => ?_) (fun zc3 => ?_)
      · replace hm := (if_pos zc3).symm.trans hm
        refine lv_bipush (v := (-2)) hx hb dX6_bidError_40 (by decide +kernel) ?_
        exact W.iret (v := (-2)) hx hb hr (fun t ht hW => ⟨_, rfl, (Option.some.inj hm), ht⟩) (fun _ h => nomatch h) dX6_bidError_42
      · replace hm := (if_neg zc3).symm.trans hm
        refine lv_iload hx hb dX6_bidError_26 (lv_at hl 5 rfl) ?_
        refine lv_iconst (v := 1) hx hb dX6_bidError_28 (by decide) ?_
        refine lv_icmp_lt (tgt := 40) hx hb dX6_bidError_29 (by decide) (fun zc4 => ?_) (fun zc4 => ?_)
        · replace hm := (if_pos zc4).symm.trans hm
          refine lv_bipush (v := (-2)) hx hb dX6_bidError_40 (by decide +kernel) ?_
          exact W.iret (v := (-2)) hx hb hr (fun t ht hW => ⟨_, rfl, (Option.some.inj hm), ht⟩) (fun _ h => nomatch h) dX6_bidError_42
        · replace hm := (if_neg zc4).symm.trans hm
          refine lv_iload hx hb dX6_bidError_32 (lv_at hl 5 rfl) ?_
          refine lv_sipush (v := 999) hx hb dX6_bidError_34 (by decide +kernel) ?_
          refine lv_icmp_le (tgt := 43) hx hb dX6_bidError_37 (by decide) (fun zc5 => ?_) (fun zc5 => ?_)
          · replace hm := (if_pos zc5).symm.trans hm
            refine lv_aload_n hx hb dX6_bidError_43 rfl (lv_at hl 0 rfl) ?_
            refine lv_iload_n hx hb dX6_bidError_44 rfl (lv_at hl 2 rfl) ?_
            refine lv_iload_n hx hb dX6_bidError_45 rfl (lv_at hl 3 rfl) ?_
            refine ko_e (va_runV (As := [.int p2, .int p3]) (rest := []) ⟨hx, hb, hml, hown, htG⟩ (kX6_isOpen l g a x p2 p3 _ rfl) (cwV 2 htG (GV g2_122 g2_123 g2_124 g1_2 g2_125) rfl rfl rfl hd_X6_isOpen ⟨Nat.le_of_ble_eq_true rfl, Nat.le_of_ble_eq_true rfl⟩) (PR_VA hK hL hS hP (ci := 5) rfl 0 rfl) rfl rfl hl.1 rfl (lv_room (Nat.le_of_ble_eq_true rfl)) dX6_bidError_46 ⟨Nat.zero_le _, Nat.zero_le _⟩) ?_
            refine lv_if_eq (tgt := 68) hx hb dX6_bidError_49 (by decide) (fun zc6 => ?_) (fun zc6 => ?_)
            · replace hm := (if_pos zc6).symm.trans hm
              refine lv_bipush (v := (-4)) hx hb dX6_bidError_68 (by decide +kernel) ?_
              exact W.iret (v := (-4)) hx hb hr (fun t ht hW => ⟨_, rfl, (Option.some.inj hm), ht⟩) (fun _ h => nomatch h) dX6_bidError_70
            · replace hm := (if_neg zc6).symm.trans hm
              refine lv_aload_n hx hb dX6_bidError_52 rfl (lv_at hl 0 rfl) ?_
              refine va_get (D := g.1) (ci := 5) (v := .ref (a 3)) (C := RX6) (T := TX6) (N := 8) hx hb htG in_wsX60 hown hK.1 hP 0 rfl rfl 4 (by decide) (htG _ g1_136) (fun _ h9 => h9) rfl dX6_bidError_53 ?_
              refine lv_iload_n hx hb dX6_bidError_56 rfl (lv_at hl 1 rfl) ?_
              refine lv_iload_n hx hb dX6_bidError_57 rfl (lv_at hl 2 rfl) ?_
              refine lv_iload_n hx hb dX6_bidError_58 rfl (lv_at hl 3 rfl) ?_
              refine ko_e (va_runSN (As := [.int p2, .int p3]) (rest := [.int p1, .ref (a 3)]) ⟨hx, hb, hml, hown, htG⟩ (kX8_slotOf l g p2 p3 _ rfl) ⟨va_cnB 2 htG (GC g2_128) rfl rfl rfl (nw_39 hK) (htG _ g1_1) hs_X8_slotOf ⟨Nat.le_of_ble_eq_true rfl, Nat.le_of_ble_eq_true rfl⟩, htG _ g2_127, trivial⟩ (PR_S hK hL hS hP [] rfl) rfl rfl hl.1 rfl (lv_room (Nat.le_of_ble_eq_true rfl)) dX6_bidError_59 ⟨Nat.zero_le _, Nat.zero_le _⟩) ?_
              refine ko_e (va_runV (As := [.int p1, .int (fX8_slotOf p2 p3)]) (rest := []) ⟨hx, hb, hml, hown, htG⟩ (kX0_offer l g (a 3) (a 4) (a 5) x.2.2.2.2.1 p1 (fX8_slotOf p2 p3) _ rfl) (cwV 2 htG (GV g2_134 g2_135 g2_136 g1_3 g2_137) rfl rfl rfl hd_X0_offer ⟨Nat.le_of_ble_eq_true rfl, Nat.le_of_ble_eq_true rfl⟩) (PR_V hK hL hS hP [3, 4, 5] rfl (ci := 0) rfl 3 rfl) rfl rfl hl.1 rfl (lv_room (Nat.le_of_ble_eq_true rfl)) dX6_bidError_62 ⟨Nat.zero_le _, Nat.zero_le _⟩) ?_
              refine lv_if_le (tgt := 71) hx hb dX6_bidError_65 (by decide) (fun zc7 => ?_) (fun zc7 => ?_)
              · replace hm := (if_pos zc7).symm.trans hm
                refine lv_aload_n hx hb dX6_bidError_71 rfl (lv_at hl 0 rfl) ?_
                refine lv_iload_n hx hb dX6_bidError_72 rfl (lv_at hl 1 rfl) ?_
                obtain ⟨zq8, hzq8, hm⟩ := bdk hm
                refine ko_e (va_runV (As := [.int p1]) (rest := []) ⟨hx, hb, hml, hown, htG⟩ (kX6_freeCoins l g a x p1 _ hzq8) (cwV 1 htG (GV g2_142 g2_143 g2_144 g1_2 g2_145) rfl rfl rfl hd_X6_freeCoins ⟨Nat.le_of_ble_eq_true rfl, Nat.le_of_ble_eq_true rfl⟩) (PR_VA hK hL hS hP (ci := 5) rfl 0 rfl) rfl rfl hl.1 rfl (lv_room (Nat.le_of_ble_eq_true rfl)) dX6_bidError_73 ⟨Nat.zero_le _, Nat.zero_le _⟩) ?_
                refine lv_iload hx hb dX6_bidError_76 (lv_at hl 5 rfl) ?_
                refine lv_icmp_ge (tgt := 84) hx hb dX6_bidError_78 (by decide) (fun zc9 => ?_) (fun zc9 => ?_)
                · replace hm := (if_pos zc9).symm.trans hm
                  refine lv_aload_n hx hb dX6_bidError_84 rfl (lv_at hl 0 rfl) ?_
                  refine va_get (D := g.1) (ci := 5) (v := .ref (a 3)) (C := RX6) (T := TX6) (N := 8) hx hb htG in_wsX60 hown hK.1 hP 0 rfl rfl 4 (by decide) (htG _ g1_136) (fun _ h9 => h9) rfl dX6_bidError_85 ?_
                  obtain ⟨zq10, hzq10, hm⟩ := bdk hm
                  refine ko_e (va_runV (As := []) (rest := []) ⟨hx, hb, hml, hown, htG⟩ (kX0_countAll l g (a 3) (a 4) (a 5) x.2.2.2.2.1 _ hzq10) (cwV 0 htG (GV g2_150 g2_151 g2_152 g1_3 g2_153) rfl rfl rfl hd_X0_countAll ⟨Nat.le_of_ble_eq_true rfl, Nat.le_of_ble_eq_true rfl⟩) (PR_V hK hL hS hP [3, 4, 5] rfl (ci := 0) rfl 3 rfl) rfl rfl hl.1 rfl (lv_room (Nat.le_of_ble_eq_true rfl)) dX6_bidError_88 ⟨Nat.zero_le _, Nat.zero_le _⟩) ?_
                  refine lv_bipush (v := 60) hx hb dX6_bidError_91 (by decide +kernel) ?_
                  refine lv_icmp_ge (tgt := 100) hx hb dX6_bidError_93 (by decide) (fun zc11 => ?_) (fun zc11 => ?_)
                  · replace hm := (if_pos zc11).symm.trans hm
                    refine lv_bipush (v := (-3)) hx hb dX6_bidError_100 (by decide +kernel) ?_
                    exact W.iret (v := (-3)) hx hb hr (fun t ht hW => ⟨_, rfl, (Option.some.inj hm), ht⟩) (fun _ h => nomatch h) dX6_bidError_102
                  · replace hm := (if_neg zc11).symm.trans hm
                    refine lv_iconst (v := 0) hx hb dX6_bidError_96 (by decide) ?_
                    refine lv_goto (tgt := 102) hx hb dX6_bidError_97 (by decide) ?_
                    exact W.iret (v := 0) hx hb hr (fun t ht hW => ⟨_, rfl, (Option.some.inj hm), ht⟩) (fun _ h => nomatch h) dX6_bidError_102
                · replace hm := (if_neg zc9).symm.trans hm
                  refine lv_bipush (v := (-6)) hx hb dX6_bidError_81 (by decide +kernel) ?_
                  exact W.iret (v := (-6)) hx hb hr (fun t ht hW => ⟨_, rfl, (Option.some.inj hm), ht⟩) (fun _ h => nomatch h) dX6_bidError_83
              · replace hm := (if_neg zc7).symm.trans hm
                refine lv_bipush (v := (-4)) hx hb dX6_bidError_68 (by decide +kernel) ?_
                exact W.iret (v := (-4)) hx hb hr (fun t ht hW => ⟨_, rfl, (Option.some.inj hm), ht⟩) (fun _ h => nomatch h) dX6_bidError_70
          · replace hm := (if_neg zc5).symm.trans hm
            refine lv_bipush (v := (-2)) hx hb dX6_bidError_40 (by decide +kernel) ?_
            exact W.iret (v := (-2)) hx hb hr (fun t ht hW => ⟨_, rfl, (Option.some.inj hm), ht⟩) (fun _ h => nomatch h) dX6_bidError_42
    · replace hm := (if_pos zc2).symm.trans hm
      refine lv_iconst (v := (-1)) hx hb dX6_bidError_15 (by decide) ?_
      exact W.iret (v := (-1)) hx hb hr (fun t ht hW => ⟨_, rfl, (Option.some.inj hm), ht⟩) (fun _ h => nomatch h) dX6_bidError_16
def fX6_placeBid (x : SD) (p1 : Int32) (p2 : Int32) (p3 : Int32) (p4 : Int32) (p5 : Int32) : Option (Int32 × SD) := ((fX6_bidError x p1 p2 p3 p4 p5).bind (fun zq1 => (if 0 ≤ zq1 then (bnd (fX0_set x.2.2.2.2.1 p1 (fX8_slotOf p2 p3) p4 p5) (fun zq3 => ((fX0_countFor zq3 (fX8_slotOf p2 p3)).bind (fun zq4 => some (zq4, (x.1, x.2.1, x.2.2.1, x.2.2.2.1, zq3, x.2.2.2.2.2.1, x.2.2.2.2.2.2.1, x.2.2.2.2.2.2.2)))))) else some (zq1, x))))
abbrev rm_X6_placeBid : Jvm.Room := { frames := 4, cells := 0, slots := 0, locals := 91 }
theorem hd_X6_placeBid : yX6_placeBid.cls = RX6 ∧ yX6_placeBid.cls ≠ "java/lang/invoke/MethodHandle" ∧ yX6_placeBid.cls ≠ "java/lang/invoke/VarHandle" ∧ (parseMethodDescriptor yX6_placeBid.desc).map (fun d => d.parameters.length) = some 5 := by decide +kernel
set_option maxHeartbeats 4000000 in
set_option maxRecDepth 100000 in
theorem kX6_placeBid (l : Launch) (g : CX) (a : Nat → Nat) (sz : Nat) (x : SD) (p1 : Int32) (p2 : Int32) (p3 : Int32) (p4 : Int32) (p5 : Int32) (res : Int32 × SD) (hm0 : fX6_placeBid x p1 p2 p3 p4 p5 = some res) : Met l yX6_placeBid (wg yX6_placeBid cX6_placeBid 7 (some .int)) rm_X6_placeBid (PW g [.ref (a 0), .int p1, .int p2, .int p3, .int p4, .int p5] sz (w_X6 g a x)) (va_Qi (fun v u => v = res.1 ∧ u = res.2) (fun u t => va_P g.1 vwCl (w_X6 g a u) t.heap) (va_A (w_X6 g a x) sz)) 0 0 (va_A (w_X6 g a x) sz) := by
  refine Met.ofW (cc := cX6_placeBid) (maxL := 7) (ret := (some .int)) (by decide) rfl ?_
  intro p e s m args below meth c s₁ B hml hv
  obtain ⟨rfl, hsz, hP, hK, hD0, hL⟩ := hv
  have hx := B.exec
  have hb := B.bytes
  have hr := B.returns
  have htG := wg_G (atoms_spec (ws := wg yX6_placeBid cX6_placeBid 7 (some .int)) B.pre)
  have hown : s.vm.findClass RX6 = some m.cls := findClass_of_methodNamed B.named
  have hlocks := B.notSynchronized
  subst hsz
  have hD := hD0.self (sz := s.heap.size)
  generalize hAe : va_A (w_X6 g a x) s.heap.size = A at hD hL ⊢
  have hA : ∀ q : Nat, s.heap.size ≤ q → A q := fun q h => by rw [← hAe]; exact Or.inr h
  have hS : va_S A s.heap s.heap [] := va_S.rf
  have hl := lv_entry ([.ref (a 0), .int p1, .int p2, .int p3, .int p4, .int p5]) (n := 7) (Nat.le_of_ble_eq_true rfl)
  rw [lg_entry_eq]
  generalize (lg_sl ([.ref (a 0), .int p1, .int p2, .int p3, .int p4, .int p5]) ++ List.replicate (7 - (lg_sl ([.ref (a 0), .int p1, .int p2, .int p3, .int p4, .int p5])).length) Slot.unset).toArray = ls at hl ⊢
  have hl : lv_has ls 7 [(0, .ref (a 0)), (1, .int p1), (2, .int p2), (3, .int p3), (4, .int p4), (5, .int p5)] := hl
  have hm := hm0
  unfold fX6_placeBid at hm
  refine lv_aload_n hx hb dX6_placeBid_0 rfl (lv_at hl 0 rfl) ?_
  refine lv_iload_n hx hb dX6_placeBid_1 rfl (lv_at hl 1 rfl) ?_
  refine lv_iload_n hx hb dX6_placeBid_2 rfl (lv_at hl 2 rfl) ?_
  refine lv_iload_n hx hb dX6_placeBid_3 rfl (lv_at hl 3 rfl) ?_
  refine lv_iload hx hb dX6_placeBid_4 (lv_at hl 4 rfl) ?_
  refine lv_iload hx hb dX6_placeBid_6 (lv_at hl 5 rfl) ?_
  obtain ⟨zq1, hzq1, hm⟩ := bdk hm
  refine ko_e (va_runV (As := [.int p1, .int p2, .int p3, .int p4, .int p5]) (rest := []) ⟨hx, hb, hml, hown, htG⟩ (kX6_bidError l g a x p1 p2 p3 p4 p5 _ hzq1) (cwV 5 htG (GV g2_105 g2_106 g2_107 g1_2 g2_108) rfl rfl rfl hd_X6_bidError ⟨Nat.le_of_ble_eq_true rfl, Nat.le_of_ble_eq_true rfl⟩) (PR_VA hK hL hS hP (ci := 5) rfl 0 rfl) rfl rfl hl.1 rfl (lv_room (Nat.le_of_ble_eq_true rfl)) dX6_placeBid_8 ⟨Nat.zero_le _, Nat.zero_le _⟩) ?_
  refine lv_istore (lv' := [(6, .int zq1), (0, .ref (a 0)), (1, .int p1), (2, .int p2), (3, .int p3), (4, .int p4), (5, .int p5)]) hx hb dX6_placeBid_11 hl (by decide) rfl (fun ls hl => ?_)
  refine lv_iload hx hb dX6_placeBid_13 (lv_at hl 0 rfl) ?_
  refine lv_if_ge (tgt := 21) hx hb dX6_placeBid_15 (by decide) (fun zc2 => ?_) (fun zc2 => ?_)
  · replace hm := (if_pos zc2).symm.trans hm
    refine lv_aload_n hx hb dX6_placeBid_21 rfl (lv_at hl 1 rfl) ?_
    refine va_get (D := g.1) (ci := 5) (v := .ref (a 3)) (C := RX6) (T := TX6) (N := 8) hx hb htG in_wsX60 hown hK.1 hP 0 rfl rfl 4 (by decide) (htG _ g1_136) (fun _ h9 => h9) rfl dX6_placeBid_22 ?_
    refine lv_iload_n hx hb dX6_placeBid_25 rfl (lv_at hl 2 rfl) ?_
    refine lv_iload_n hx hb dX6_placeBid_26 rfl (lv_at hl 3 rfl) ?_
    refine lv_iload_n hx hb dX6_placeBid_27 rfl (lv_at hl 4 rfl) ?_
    refine ko_e (va_runSN (As := [.int p2, .int p3]) (rest := [.int p1, .ref (a 3)]) ⟨hx, hb, hml, hown, htG⟩ (kX8_slotOf l g p2 p3 _ rfl) ⟨va_cnB 2 htG (GC g2_128) rfl rfl rfl (nw_39 hK) (htG _ g1_1) hs_X8_slotOf ⟨Nat.le_of_ble_eq_true rfl, Nat.le_of_ble_eq_true rfl⟩, htG _ g2_127, trivial⟩ (PR_S hK hL hS hP [] rfl) rfl rfl hl.1 rfl (lv_room (Nat.le_of_ble_eq_true rfl)) dX6_placeBid_28 ⟨Nat.zero_le _, Nat.zero_le _⟩) ?_
    refine lv_iload hx hb dX6_placeBid_31 (lv_at hl 5 rfl) ?_
    refine lv_iload hx hb dX6_placeBid_33 (lv_at hl 6 rfl) ?_
    obtain ⟨zq3, hzq3, hm⟩ := bnk hm
    refine kw_ve (va_runV (As := [.int p1, .int (fX8_slotOf p2 p3), .int p4, .int p5]) (rest := []) ⟨hx, hb, hml, hown, htG⟩ (kX0_set l g (a 3) (a 4) (a 5) _ x.2.2.2.2.1 p1 (fX8_slotOf p2 p3) p4 p5 _ hzq3) (cwV 4 htG (GV g2_158 g2_159 g2_160 g1_3 g2_161) rfl rfl rfl hd_X0_set ⟨Nat.le_of_ble_eq_true rfl, Nat.le_of_ble_eq_true rfl⟩) (PW_V hK hL hS hP hD hA [3, 4, 5] rfl rfl (ci := 0) rfl 3 rfl) rfl rfl hl.1 rfl (lv_room (Nat.le_of_ble_eq_true rfl)) dX6_placeBid_35 ⟨Nat.zero_le _, Nat.zero_le _⟩) hP hD hS hA [3, 4, 5] rfl rfl (fun _ => rfl) (fun H locs hP hD hS => ?_)
    have hP : va_P g.1 vwCl (w_X6 g a (x.1, x.2.1, x.2.2.1, x.2.2.2.1, zq3, x.2.2.2.2.2.1, x.2.2.2.2.2.2.1, x.2.2.2.2.2.2.2)) H := hP
    have hD : va_D A (w_X6 g a (x.1, x.2.1, x.2.2.1, x.2.2.2.1, zq3, x.2.2.2.2.2.1, x.2.2.2.2.2.2.1, x.2.2.2.2.2.2.2)) := hD
    refine lv_aload_n hx hb dX6_placeBid_38 rfl (lv_at hl 1 rfl) ?_
    refine va_get (D := g.1) (ci := 5) (v := .ref (a 3)) (C := RX6) (T := TX6) (N := 8) hx hb htG in_wsX60 hown hK.1 hP 0 rfl rfl 4 (by decide) (htG _ g1_136) (fun _ h9 => h9) rfl dX6_placeBid_39 ?_
    refine lv_iload_n hx hb dX6_placeBid_42 rfl (lv_at hl 3 rfl) ?_
    refine lv_iload_n hx hb dX6_placeBid_43 rfl (lv_at hl 4 rfl) ?_
    refine ko_e (va_runSN (As := [.int p2, .int p3]) (rest := [.ref (a 3)]) ⟨hx, hb, hml, hown, htG⟩ (kX8_slotOf l g p2 p3 _ rfl) ⟨va_cnB 2 htG (GC g2_128) rfl rfl rfl (nw_39 hK) (htG _ g1_1) hs_X8_slotOf ⟨Nat.le_of_ble_eq_true rfl, Nat.le_of_ble_eq_true rfl⟩, htG _ g2_127, trivial⟩ (PR_S hK hL hS hP [] rfl) rfl rfl hl.1 rfl (lv_room (Nat.le_of_ble_eq_true rfl)) dX6_placeBid_44 ⟨Nat.zero_le _, Nat.zero_le _⟩) ?_
    obtain ⟨zq4, hzq4, hm⟩ := bdk hm
    refine ko_e (va_runV (As := [.int (fX8_slotOf p2 p3)]) (rest := []) ⟨hx, hb, hml, hown, htG⟩ (kX0_countFor l g (a 3) (a 4) (a 5) zq3 (fX8_slotOf p2 p3) _ hzq4) (cwV 1 htG (GV g2_163 g2_164 g2_165 g1_3 g2_166) rfl rfl rfl hd_X0_countFor ⟨Nat.le_of_ble_eq_true rfl, Nat.le_of_ble_eq_true rfl⟩) (PR_V hK hL hS hP [3, 4, 5] rfl (ci := 0) rfl 3 rfl) rfl rfl hl.1 rfl (lv_room (Nat.le_of_ble_eq_true rfl)) dX6_placeBid_47 ⟨Nat.zero_le _, Nat.zero_le _⟩) ?_
    exact W.iret (v := zq4) hx hb hr (fun t ht hW => ⟨⟨_, _, rfl, pr1 (Option.some.inj hm), atH ht hP⟩, hS.F ht⟩) hS.2.2 dX6_placeBid_50
  · replace hm := (if_neg zc2).symm.trans hm
    refine lv_iload hx hb dX6_placeBid_18 (lv_at hl 0 rfl) ?_
    exact W.iret (v := zq1) hx hb hr (fun t ht hW => ⟨⟨_, _, rfl, pr1 (Option.some.inj hm), atH ht hP⟩, hS.F ht⟩) hS.2.2 dX6_placeBid_20
def fX6_priceOf (x : SD) (p1 : Int32) (p2 : Int32) (p3 : Int32) (p4 : Int32) (p5 : Int32) : Option (Int32) := (if p4 ≤ (fX6_heaviestLift x p2 p3) then ((fX0_highest x.2.2.2.2.1 (fX8_slotOf p2 p3) (fX6_heaviestLift x p2 p3) (-5)).bind (fun zq2 => ((fX0_winner x.2.2.2.2.1 (fX8_slotOf p2 p3) (fX6_heaviestLift x p2 p3)).bind (fun zq3 => (if zq3 ≤ p1 then (if zq2 < p5 then some zq2 else (if p5 = zq2 then some (-5) else some (-5))) else (if zq2 < p5 then some zq2 else (if p5 = zq2 then some zq2 else some (-5)))))))) else some (-5))
abbrev rm_X6_priceOf : Jvm.Room := { frames := 3, cells := 0, slots := 0, locals := 64 }
theorem hd_X6_priceOf : yX6_priceOf.cls = RX6 ∧ yX6_priceOf.cls ≠ "java/lang/invoke/MethodHandle" ∧ yX6_priceOf.cls ≠ "java/lang/invoke/VarHandle" ∧ (parseMethodDescriptor yX6_priceOf.desc).map (fun d => d.parameters.length) = some 5 := by decide +kernel
set_option maxHeartbeats 4000000 in
set_option maxRecDepth 100000 in
theorem kX6_priceOf (l : Launch) (g : CX) (a : Nat → Nat) (x : SD) (p1 : Int32) (p2 : Int32) (p3 : Int32) (p4 : Int32) (p5 : Int32) (res : Int32) (hm0 : fX6_priceOf x p1 p2 p3 p4 p5 = some res) : Met l yX6_priceOf (wg yX6_priceOf cX6_priceOf 10 (some .int)) rm_X6_priceOf (PR g [.ref (a 0), .int p1, .int p2, .int p3, .int p4, .int p5] (w_X6 g a x)) (vp_Si (fun v => v = res)) 0 0 (fun _ => False) := by
  refine Met.ofW (cc := cX6_priceOf) (maxL := 10) (ret := (some .int)) (by decide) rfl ?_
  intro p e s m args below meth c s₁ B hml hv
  obtain ⟨rfl, hP, hK, hL⟩ := hv
  have hx := B.exec
  have hb := B.bytes
  have hr := B.returns
  have htG := wg_G (atoms_spec (ws := wg yX6_priceOf cX6_priceOf 10 (some .int)) B.pre)
  have hown : s.vm.findClass RX6 = some m.cls := findClass_of_methodNamed B.named
  have hlocks := B.notSynchronized
  have hS : va_S (fun _ => False) s.heap s.heap [] := va_S.rf
  have hl := lv_entry ([.ref (a 0), .int p1, .int p2, .int p3, .int p4, .int p5]) (n := 10) (Nat.le_of_ble_eq_true rfl)
  rw [lg_entry_eq]
  generalize (lg_sl ([.ref (a 0), .int p1, .int p2, .int p3, .int p4, .int p5]) ++ List.replicate (10 - (lg_sl ([.ref (a 0), .int p1, .int p2, .int p3, .int p4, .int p5])).length) Slot.unset).toArray = ls at hl ⊢
  have hl : lv_has ls 10 [(0, .ref (a 0)), (1, .int p1), (2, .int p2), (3, .int p3), (4, .int p4), (5, .int p5)] := hl
  have hm := hm0
  unfold fX6_priceOf at hm
  refine lv_aload_n hx hb dX6_priceOf_0 rfl (lv_at hl 0 rfl) ?_
  refine lv_iload_n hx hb dX6_priceOf_1 rfl (lv_at hl 2 rfl) ?_
  refine lv_iload_n hx hb dX6_priceOf_2 rfl (lv_at hl 3 rfl) ?_
  refine ko_e (va_runV (As := [.int p2, .int p3]) (rest := []) ⟨hx, hb, hml, hown, htG⟩ (kX6_heaviestLift l g a x p2 p3 _ rfl) (cwV 2 htG (GV g2_192 g2_193 g2_194 g1_2 g2_195) rfl rfl rfl hd_X6_heaviestLift ⟨Nat.le_of_ble_eq_true rfl, Nat.le_of_ble_eq_true rfl⟩) (PR_VA hK hL hS hP (ci := 5) rfl 0 rfl) rfl rfl hl.1 rfl (lv_room (Nat.le_of_ble_eq_true rfl)) dX6_priceOf_3 ⟨Nat.zero_le _, Nat.zero_le _⟩) ?_
  refine lv_istore (lv' := [(6, .int (fX6_heaviestLift x p2 p3)), (0, .ref (a 0)), (1, .int p1), (2, .int p2), (3, .int p3), (4, .int p4), (5, .int p5)]) hx hb dX6_priceOf_6 hl (by decide) rfl (fun ls hl => ?_)
  refine lv_iload hx hb dX6_priceOf_8 (lv_at hl 5 rfl) ?_
  refine lv_iload hx hb dX6_priceOf_10 (lv_at hl 0 rfl) ?_
  refine lv_icmp_le (tgt := 18) hx hb dX6_priceOf_12 (by decide) (fun zc1 => ?_) (fun zc1 => ?_)
  · replace hm := (if_pos zc1).symm.trans hm
    refine lv_iload_n hx hb dX6_priceOf_18 rfl (lv_at hl 3 rfl) ?_
    refine lv_iload_n hx hb dX6_priceOf_19 rfl (lv_at hl 4 rfl) ?_
    refine ko_e (va_runSN (As := [.int p2, .int p3]) (rest := []) ⟨hx, hb, hml, hown, htG⟩ (kX8_slotOf l g p2 p3 _ rfl) ⟨va_cnB 2 htG (GC g2_128) rfl rfl rfl (nw_39 hK) (htG _ g1_1) hs_X8_slotOf ⟨Nat.le_of_ble_eq_true rfl, Nat.le_of_ble_eq_true rfl⟩, htG _ g2_127, trivial⟩ (PR_S hK hL hS hP [] rfl) rfl rfl hl.1 rfl (lv_room (Nat.le_of_ble_eq_true rfl)) dX6_priceOf_20 ⟨Nat.zero_le _, Nat.zero_le _⟩) ?_
    refine lv_istore (lv' := [(7, .int (fX8_slotOf p2 p3)), (6, .int (fX6_heaviestLift x p2 p3)), (0, .ref (a 0)), (1, .int p1), (2, .int p2), (3, .int p3), (4, .int p4), (5, .int p5)]) hx hb dX6_priceOf_23 hl (by decide) rfl (fun ls hl => ?_)
    refine lv_aload_n hx hb dX6_priceOf_25 rfl (lv_at hl 2 rfl) ?_
    refine va_get (D := g.1) (ci := 5) (v := .ref (a 3)) (C := RX6) (T := TX6) (N := 8) hx hb htG in_wsX60 hown hK.1 hP 0 rfl rfl 4 (by decide) (htG _ g1_136) (fun _ h9 => h9) rfl dX6_priceOf_26 ?_
    refine lv_iload hx hb dX6_priceOf_29 (lv_at hl 0 rfl) ?_
    refine lv_iload hx hb dX6_priceOf_31 (lv_at hl 1 rfl) ?_
    refine lv_bipush (v := (-5)) hx hb dX6_priceOf_33 (by decide +kernel) ?_
    obtain ⟨zq2, hzq2, hm⟩ := bdk hm
    refine ko_e (va_runV (As := [.int (fX8_slotOf p2 p3), .int (fX6_heaviestLift x p2 p3), .int (-5)]) (rest := []) ⟨hx, hb, hml, hown, htG⟩ (kX0_highest l g (a 3) (a 4) (a 5) x.2.2.2.2.1 (fX8_slotOf p2 p3) (fX6_heaviestLift x p2 p3) (-5) _ hzq2) (cwV 3 htG (GV g2_207 g2_208 g2_209 g1_3 g2_210) rfl rfl rfl hd_X0_highest ⟨Nat.le_of_ble_eq_true rfl, Nat.le_of_ble_eq_true rfl⟩) (PR_V hK hL hS hP [3, 4, 5] rfl (ci := 0) rfl 3 rfl) rfl rfl hl.1 rfl (lv_room (Nat.le_of_ble_eq_true rfl)) dX6_priceOf_35 ⟨Nat.zero_le _, Nat.zero_le _⟩) ?_
    refine lv_istore (lv' := [(8, .int zq2), (7, .int (fX8_slotOf p2 p3)), (6, .int (fX6_heaviestLift x p2 p3)), (0, .ref (a 0)), (1, .int p1), (2, .int p2), (3, .int p3), (4, .int p4), (5, .int p5)]) hx hb dX6_priceOf_38 hl (by decide) rfl (fun ls hl => ?_)
    refine lv_iload_n hx hb dX6_priceOf_40 rfl (lv_at hl 4 rfl) ?_
    refine lv_aload_n hx hb dX6_priceOf_41 rfl (lv_at hl 3 rfl) ?_
    refine va_get (D := g.1) (ci := 5) (v := .ref (a 3)) (C := RX6) (T := TX6) (N := 8) hx hb htG in_wsX60 hown hK.1 hP 0 rfl rfl 4 (by decide) (htG _ g1_136) (fun _ h9 => h9) rfl dX6_priceOf_42 ?_
    refine lv_iload hx hb dX6_priceOf_45 (lv_at hl 1 rfl) ?_
    refine lv_iload hx hb dX6_priceOf_47 (lv_at hl 2 rfl) ?_
    obtain ⟨zq3, hzq3, hm⟩ := bdk hm
    refine ko_e (va_runV (As := [.int (fX8_slotOf p2 p3), .int (fX6_heaviestLift x p2 p3)]) (rest := [.int p1]) ⟨hx, hb, hml, hown, htG⟩ (kX0_winner l g (a 3) (a 4) (a 5) x.2.2.2.2.1 (fX8_slotOf p2 p3) (fX6_heaviestLift x p2 p3) _ hzq3) (cwV 2 htG (GV g2_203 g2_204 g2_205 g1_3 g2_206) rfl rfl rfl hd_X0_winner ⟨Nat.le_of_ble_eq_true rfl, Nat.le_of_ble_eq_true rfl⟩) (PR_V hK hL hS hP [3, 4, 5] rfl (ci := 0) rfl 3 rfl) rfl rfl hl.1 rfl (lv_room (Nat.le_of_ble_eq_true rfl)) dX6_priceOf_49 ⟨Nat.zero_le _, Nat.zero_le _⟩) ?_
    refine lv_icmp_ge (tgt := 59) hx hb dX6_priceOf_52 (by decide) (fun zc4 => ?_) (fun zc4 => ?_)
    · replace hm := (if_pos zc4).symm.trans hm
      refine lv_iconst (v := 0) hx hb dX6_priceOf_59 (by decide) ?_
      refine lv_istore (lv' := [(9, .int 0), (8, .int zq2), (7, .int (fX8_slotOf p2 p3)), (6, .int (fX6_heaviestLift x p2 p3)), (0, .ref (a 0)), (1, .int p1), (2, .int p2), (3, .int p3), (4, .int p4), (5, .int p5)]) hx hb dX6_priceOf_60 hl (by decide) rfl (fun ls hl => ?_)
      refine lv_iload hx hb dX6_priceOf_62 (lv_at hl 9 rfl) ?_
      refine lv_iload hx hb dX6_priceOf_64 (lv_at hl 1 rfl) ?_
      refine lv_icmp_gt (tgt := 81) hx hb dX6_priceOf_66 (by decide) (fun zc5 => ?_) (fun zc5 => ?_)
      · replace hm := (if_pos zc5).symm.trans hm
        refine lv_iload hx hb dX6_priceOf_81 (lv_at hl 1 rfl) ?_
        refine lv_goto (tgt := 88) hx hb dX6_priceOf_83 (by decide) ?_
        exact W.iret (v := zq2) hx hb hr (fun t ht hW => ⟨_, rfl, (Option.some.inj hm), ht⟩) (fun _ h => nomatch h) dX6_priceOf_88
      · replace hm := (if_neg zc5).symm.trans hm
        refine lv_iload hx hb dX6_priceOf_69 (lv_at hl 9 rfl) ?_
        refine lv_iload hx hb dX6_priceOf_71 (lv_at hl 1 rfl) ?_
        refine lv_icmp_ne (tgt := 86) hx hb dX6_priceOf_73 (by decide) (fun zc6 => ?_) (fun zc6 => ?_)
        · replace hm := (if_neg zc6).symm.trans hm
          refine lv_bipush (v := (-5)) hx hb dX6_priceOf_86 (by decide +kernel) ?_
          exact W.iret (v := (-5)) hx hb hr (fun t ht hW => ⟨_, rfl, (Option.some.inj hm), ht⟩) (fun _ h => nomatch h) dX6_priceOf_88
        · replace hm := (if_pos zc6).symm.trans hm
          refine lv_iload hx hb dX6_priceOf_76 (lv_at hl 0 rfl) ?_
          refine lv_if_eq (tgt := 86) hx hb dX6_priceOf_78 (by decide) (fun _ => ?_) (fun zc7 => absurd zc7 (by decide))
          refine lv_bipush (v := (-5)) hx hb dX6_priceOf_86 (by decide +kernel) ?_
          exact W.iret (v := (-5)) hx hb hr (fun t ht hW => ⟨_, rfl, (Option.some.inj hm), ht⟩) (fun _ h => nomatch h) dX6_priceOf_88
    · replace hm := (if_neg zc4).symm.trans hm
      refine lv_iconst (v := 1) hx hb dX6_priceOf_55 (by decide) ?_
      refine lv_goto (tgt := 60) hx hb dX6_priceOf_56 (by decide) ?_
      refine lv_istore (lv' := [(9, .int 1), (8, .int zq2), (7, .int (fX8_slotOf p2 p3)), (6, .int (fX6_heaviestLift x p2 p3)), (0, .ref (a 0)), (1, .int p1), (2, .int p2), (3, .int p3), (4, .int p4), (5, .int p5)]) hx hb dX6_priceOf_60 hl (by decide) rfl (fun ls hl => ?_)
      refine lv_iload hx hb dX6_priceOf_62 (lv_at hl 9 rfl) ?_
      refine lv_iload hx hb dX6_priceOf_64 (lv_at hl 1 rfl) ?_
      refine lv_icmp_gt (tgt := 81) hx hb dX6_priceOf_66 (by decide) (fun zc8 => ?_) (fun zc8 => ?_)
      · replace hm := (if_pos zc8).symm.trans hm
        refine lv_iload hx hb dX6_priceOf_81 (lv_at hl 1 rfl) ?_
        refine lv_goto (tgt := 88) hx hb dX6_priceOf_83 (by decide) ?_
        exact W.iret (v := zq2) hx hb hr (fun t ht hW => ⟨_, rfl, (Option.some.inj hm), ht⟩) (fun _ h => nomatch h) dX6_priceOf_88
      · replace hm := (if_neg zc8).symm.trans hm
        refine lv_iload hx hb dX6_priceOf_69 (lv_at hl 9 rfl) ?_
        refine lv_iload hx hb dX6_priceOf_71 (lv_at hl 1 rfl) ?_
        refine lv_icmp_ne (tgt := 86) hx hb dX6_priceOf_73 (by decide) (fun zc9 => ?_) (fun zc9 => ?_)
        · replace hm := (if_neg zc9).symm.trans hm
          refine lv_bipush (v := (-5)) hx hb dX6_priceOf_86 (by decide +kernel) ?_
          exact W.iret (v := (-5)) hx hb hr (fun t ht hW => ⟨_, rfl, (Option.some.inj hm), ht⟩) (fun _ h => nomatch h) dX6_priceOf_88
        · replace hm := (if_pos zc9).symm.trans hm
          refine lv_iload hx hb dX6_priceOf_76 (lv_at hl 0 rfl) ?_
          refine lv_if_eq (tgt := 86) hx hb dX6_priceOf_78 (by decide) (fun zc10 => absurd zc10 (by decide)) (fun _ => ?_)
          refine lv_iload hx hb dX6_priceOf_81 (lv_at hl 1 rfl) ?_
          refine lv_goto (tgt := 88) hx hb dX6_priceOf_83 (by decide) ?_
          exact W.iret (v := zq2) hx hb hr (fun t ht hW => ⟨_, rfl, (Option.some.inj hm), ht⟩) (fun _ h => nomatch h) dX6_priceOf_88
  · replace hm := (if_neg zc1).symm.trans hm
    refine lv_bipush (v := (-5)) hx hb dX6_priceOf_15 (by decide +kernel) ?_
    exact W.iret (v := (-5)) hx hb hr (fun t ht hW => ⟨_, rfl, (Option.some.inj hm), ht⟩) (fun _ h => nomatch h) dX6_priceOf_17
def fX6_removeBid (x : SD) (p1 : Int32) (p2 : Int32) (p3 : Int32) : Int32 × SD := (if (fX8_isFirm p1) = 0 then ((-1), x) else (if (fX8_isSlot p2 p3) = 0 then ((-1), x) else (bnd (fX0_offer x.2.2.2.2.1 p1 (fX8_slotOf p2 p3)) (fun zv3 => (if zv3 = 0 then ((-1), x) else (bnd (fX0_remove x.2.2.2.2.1 p1 (fX8_slotOf p2 p3)) (fun zq5 => (zv3, (x.1, x.2.1, x.2.2.1, x.2.2.2.1, zq5, x.2.2.2.2.2.1, x.2.2.2.2.2.2.1, x.2.2.2.2.2.2.2)))))))))
abbrev rm_X6_removeBid : Jvm.Room := { frames := 3, cells := 0, slots := 0, locals := 68 }
theorem hd_X6_removeBid : yX6_removeBid.cls = RX6 ∧ yX6_removeBid.cls ≠ "java/lang/invoke/MethodHandle" ∧ yX6_removeBid.cls ≠ "java/lang/invoke/VarHandle" ∧ (parseMethodDescriptor yX6_removeBid.desc).map (fun d => d.parameters.length) = some 3 := by decide +kernel
set_option maxHeartbeats 4000000 in
set_option maxRecDepth 100000 in
theorem kX6_removeBid (l : Launch) (g : CX) (a : Nat → Nat) (sz : Nat) (x : SD) (p1 : Int32) (p2 : Int32) (p3 : Int32) (res : Int32 × SD) (hm0 : fX6_removeBid x p1 p2 p3 = res) : Met l yX6_removeBid (wg yX6_removeBid cX6_removeBid 5 (some .int)) rm_X6_removeBid (PW g [.ref (a 0), .int p1, .int p2, .int p3] sz (w_X6 g a x)) (va_Qi (fun v u => v = res.1 ∧ u = res.2) (fun u t => va_P g.1 vwCl (w_X6 g a u) t.heap) (va_A (w_X6 g a x) sz)) 0 0 (va_A (w_X6 g a x) sz) := by
  refine Met.ofW (cc := cX6_removeBid) (maxL := 5) (ret := (some .int)) (by decide) rfl ?_
  intro p e s m args below meth c s₁ B hml hv
  obtain ⟨rfl, hsz, hP, hK, hD0, hL⟩ := hv
  have hx := B.exec
  have hb := B.bytes
  have hr := B.returns
  have htG := wg_G (atoms_spec (ws := wg yX6_removeBid cX6_removeBid 5 (some .int)) B.pre)
  have hown : s.vm.findClass RX6 = some m.cls := findClass_of_methodNamed B.named
  have hlocks := B.notSynchronized
  subst hsz
  have hD := hD0.self (sz := s.heap.size)
  generalize hAe : va_A (w_X6 g a x) s.heap.size = A at hD hL ⊢
  have hA : ∀ q : Nat, s.heap.size ≤ q → A q := fun q h => by rw [← hAe]; exact Or.inr h
  have hS : va_S A s.heap s.heap [] := va_S.rf
  have hl := lv_entry ([.ref (a 0), .int p1, .int p2, .int p3]) (n := 5) (Nat.le_of_ble_eq_true rfl)
  rw [lg_entry_eq]
  generalize (lg_sl ([.ref (a 0), .int p1, .int p2, .int p3]) ++ List.replicate (5 - (lg_sl ([.ref (a 0), .int p1, .int p2, .int p3])).length) Slot.unset).toArray = ls at hl ⊢
  have hl : lv_has ls 5 [(0, .ref (a 0)), (1, .int p1), (2, .int p2), (3, .int p3)] := hl
  have hm := hm0
  unfold fX6_removeBid at hm
  refine lv_iload_n hx hb dX6_removeBid_0 rfl (lv_at hl 1 rfl) ?_
  refine ko_e (va_runSN (As := [.int p1]) (rest := []) ⟨hx, hb, hml, hown, htG⟩ (kX8_isFirm l g p1 _ rfl) ⟨va_cnB 1 htG (GC g2_93) rfl rfl rfl (nw_36 hK) (htG _ g1_1) hs_X8_isFirm ⟨Nat.le_of_ble_eq_true rfl, Nat.le_of_ble_eq_true rfl⟩, htG _ g2_92, trivial⟩ (PR_S hK hL hS hP [] rfl) rfl rfl hl.1 rfl (lv_room (Nat.le_of_ble_eq_true rfl)) dX6_removeBid_1 ⟨Nat.zero_le _, Nat.zero_le _⟩) ?_
  refine lv_if_eq (tgt := 15) hx hb dX6_removeBid_4 (by decide) (fun zc1 => ?_) (fun zc1 => ?_)
  · replace hm := (if_pos zc1).symm.trans hm
    refine lv_iconst (v := (-1)) hx hb dX6_removeBid_15 (by decide) ?_
    exact W.iret (v := (-1)) hx hb hr (fun t ht hW => ⟨⟨_, _, rfl, pr1 hm, atH ht hP⟩, hS.F ht⟩) hS.2.2 dX6_removeBid_16
  · replace hm := (if_neg zc1).symm.trans hm
    refine lv_iload_n hx hb dX6_removeBid_7 rfl (lv_at hl 2 rfl) ?_
    refine lv_iload_n hx hb dX6_removeBid_8 rfl (lv_at hl 3 rfl) ?_
    refine ko_e (va_runSN (As := [.int p2, .int p3]) (rest := []) ⟨hx, hb, hml, hown, htG⟩ (kX8_isSlot l g p2 p3 _ rfl) ⟨va_cnB 2 htG (GC g2_111) rfl rfl rfl (nw_37 hK) (htG _ g1_1) hs_X8_isSlot ⟨Nat.le_of_ble_eq_true rfl, Nat.le_of_ble_eq_true rfl⟩, htG _ g2_110, trivial⟩ (PR_S hK hL hS hP [] rfl) rfl rfl hl.1 rfl (lv_room (Nat.le_of_ble_eq_true rfl)) dX6_removeBid_9 ⟨Nat.zero_le _, Nat.zero_le _⟩) ?_
    refine lv_if_ne (tgt := 17) hx hb dX6_removeBid_12 (by decide) (fun zc2 => ?_) (fun zc2 => ?_)
    · replace hm := (if_neg zc2).symm.trans hm
      refine lv_aload_n hx hb dX6_removeBid_17 rfl (lv_at hl 0 rfl) ?_
      refine va_get (D := g.1) (ci := 5) (v := .ref (a 3)) (C := RX6) (T := TX6) (N := 8) hx hb htG in_wsX60 hown hK.1 hP 0 rfl rfl 4 (by decide) (htG _ g1_136) (fun _ h9 => h9) rfl dX6_removeBid_18 ?_
      refine lv_iload_n hx hb dX6_removeBid_21 rfl (lv_at hl 1 rfl) ?_
      refine lv_iload_n hx hb dX6_removeBid_22 rfl (lv_at hl 2 rfl) ?_
      refine lv_iload_n hx hb dX6_removeBid_23 rfl (lv_at hl 3 rfl) ?_
      refine ko_e (va_runSN (As := [.int p2, .int p3]) (rest := [.int p1, .ref (a 3)]) ⟨hx, hb, hml, hown, htG⟩ (kX8_slotOf l g p2 p3 _ rfl) ⟨va_cnB 2 htG (GC g2_128) rfl rfl rfl (nw_39 hK) (htG _ g1_1) hs_X8_slotOf ⟨Nat.le_of_ble_eq_true rfl, Nat.le_of_ble_eq_true rfl⟩, htG _ g2_127, trivial⟩ (PR_S hK hL hS hP [] rfl) rfl rfl hl.1 rfl (lv_room (Nat.le_of_ble_eq_true rfl)) dX6_removeBid_24 ⟨Nat.zero_le _, Nat.zero_le _⟩) ?_
      refine ko_e (va_runV (As := [.int p1, .int (fX8_slotOf p2 p3)]) (rest := []) ⟨hx, hb, hml, hown, htG⟩ (kX0_offer l g (a 3) (a 4) (a 5) x.2.2.2.2.1 p1 (fX8_slotOf p2 p3) _ rfl) (cwV 2 htG (GV g2_134 g2_135 g2_136 g1_3 g2_137) rfl rfl rfl hd_X0_offer ⟨Nat.le_of_ble_eq_true rfl, Nat.le_of_ble_eq_true rfl⟩) (PR_V hK hL hS hP [3, 4, 5] rfl (ci := 0) rfl 3 rfl) rfl rfl hl.1 rfl (lv_room (Nat.le_of_ble_eq_true rfl)) dX6_removeBid_27 ⟨Nat.zero_le _, Nat.zero_le _⟩) ?_
      obtain ⟨zv3, ezv3, hm⟩ := bnk hm
      refine tope ezv3 ?_
      refine lv_istore (lv' := [(4, .int zv3), (0, .ref (a 0)), (1, .int p1), (2, .int p2), (3, .int p3)]) hx hb dX6_removeBid_30 hl (by decide) rfl (fun ls hl => ?_)
      refine lv_iload hx hb dX6_removeBid_32 (lv_at hl 0 rfl) ?_
      refine lv_if_ne (tgt := 39) hx hb dX6_removeBid_34 (by decide) (fun zc4 => ?_) (fun zc4 => ?_)
      · replace hm := (if_neg zc4).symm.trans hm
        refine lv_aload_n hx hb dX6_removeBid_39 rfl (lv_at hl 1 rfl) ?_
        refine va_get (D := g.1) (ci := 5) (v := .ref (a 3)) (C := RX6) (T := TX6) (N := 8) hx hb htG in_wsX60 hown hK.1 hP 0 rfl rfl 4 (by decide) (htG _ g1_136) (fun _ h9 => h9) rfl dX6_removeBid_40 ?_
        refine lv_iload_n hx hb dX6_removeBid_43 rfl (lv_at hl 2 rfl) ?_
        refine lv_iload_n hx hb dX6_removeBid_44 rfl (lv_at hl 3 rfl) ?_
        refine lv_iload_n hx hb dX6_removeBid_45 rfl (lv_at hl 4 rfl) ?_
        refine ko_e (va_runSN (As := [.int p2, .int p3]) (rest := [.int p1, .ref (a 3)]) ⟨hx, hb, hml, hown, htG⟩ (kX8_slotOf l g p2 p3 _ rfl) ⟨va_cnB 2 htG (GC g2_128) rfl rfl rfl (nw_39 hK) (htG _ g1_1) hs_X8_slotOf ⟨Nat.le_of_ble_eq_true rfl, Nat.le_of_ble_eq_true rfl⟩, htG _ g2_127, trivial⟩ (PR_S hK hL hS hP [] rfl) rfl rfl hl.1 rfl (lv_room (Nat.le_of_ble_eq_true rfl)) dX6_removeBid_46 ⟨Nat.zero_le _, Nat.zero_le _⟩) ?_
        obtain ⟨zq5, hzq5, hm⟩ := bnk hm
        refine kw_ve (va_runV (As := [.int p1, .int (fX8_slotOf p2 p3)]) (rest := []) ⟨hx, hb, hml, hown, htG⟩ (kX0_remove l g (a 3) (a 4) (a 5) _ x.2.2.2.2.1 p1 (fX8_slotOf p2 p3) _ hzq5) (cwV 2 htG (GV g2_175 g2_176 g2_177 g1_3 g2_178) rfl rfl rfl hd_X0_remove ⟨Nat.le_of_ble_eq_true rfl, Nat.le_of_ble_eq_true rfl⟩) (PW_V hK hL hS hP hD hA [3, 4, 5] rfl rfl (ci := 0) rfl 3 rfl) rfl rfl hl.1 rfl (lv_room (Nat.le_of_ble_eq_true rfl)) dX6_removeBid_49 ⟨Nat.zero_le _, Nat.zero_le _⟩) hP hD hS hA [3, 4, 5] rfl rfl (fun _ => rfl) (fun H locs hP hD hS => ?_)
        have hP : va_P g.1 vwCl (w_X6 g a (x.1, x.2.1, x.2.2.1, x.2.2.2.1, zq5, x.2.2.2.2.2.1, x.2.2.2.2.2.2.1, x.2.2.2.2.2.2.2)) H := hP
        have hD : va_D A (w_X6 g a (x.1, x.2.1, x.2.2.1, x.2.2.2.1, zq5, x.2.2.2.2.2.1, x.2.2.2.2.2.2.1, x.2.2.2.2.2.2.2)) := hD
        refine lv_iload hx hb dX6_removeBid_52 (lv_at hl 0 rfl) ?_
        exact W.iret (v := zv3) hx hb hr (fun t ht hW => ⟨⟨_, _, rfl, pr1 hm, atH ht hP⟩, hS.F ht⟩) hS.2.2 dX6_removeBid_54
      · replace hm := (if_pos zc4).symm.trans hm
        refine lv_iconst (v := (-1)) hx hb dX6_removeBid_37 (by decide) ?_
        exact W.iret (v := (-1)) hx hb hr (fun t ht hW => ⟨⟨_, _, rfl, pr1 hm, atH ht hP⟩, hS.F ht⟩) hS.2.2 dX6_removeBid_38
    · replace hm := (if_pos zc2).symm.trans hm
      refine lv_iconst (v := (-1)) hx hb dX6_removeBid_15 (by decide) ?_
      exact W.iret (v := (-1)) hx hb hr (fun t ht hW => ⟨⟨_, _, rfl, pr1 hm, atH ht hP⟩, hS.F ht⟩) hS.2.2 dX6_removeBid_16
