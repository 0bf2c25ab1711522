def fX6_awardOpen (x : SD) (p1 : Int32) (p2 : Int32) : Option (Int32 × SD) := ((fX0_winner x.2.2.2.2.1 (fX8_slotOf p1 p2) (fX6_heaviestLift x p1 p2)).bind (fun zq1 => (if zq1 = (-5) then some ((-5), x) else ((fX0_highest x.2.2.2.2.1 (fX8_slotOf p1 p2) (fX6_heaviestLift x p1 p2) zq1).bind (fun zq3 => (bnd (fX5_give x.2.2.2.2.2.1 (fX8_slotOf p1 p2) zq1 (fX0_weight x.2.2.2.2.1 zq1 (fX8_slotOf p1 p2))) (fun zq4 => (bnd (rput zq4.2.2.1 48 (fX8_slotOf p1 p2) zq3) (fun zq5 => (bnd (fX1_payYard x.2.2.2.2.2.2.1 zq1 zq3) (fun zq6 => (bnd (x.2.2.2.2.2.2.2.2.1 + zq3) (fun zv7 => ((fX0_removeAll x.2.2.2.2.1 (fX8_slotOf p1 p2)).bind (fun zq8 => some (zq1, (x.1, x.2.1, x.2.2.1, x.2.2.2.1, zq8, (zq4.1, zq4.2.1, zq5, zq4.2.2.2), zq6, (x.2.2.2.2.2.2.2.1, zv7, x.2.2.2.2.2.2.2.2.2.1, x.2.2.2.2.2.2.2.2.2.2.1, x.2.2.2.2.2.2.2.2.2.2.2.1, x.2.2.2.2.2.2.2.2.2.2.2.2.1, x.2.2.2.2.2.2.2.2.2.2.2.2.2))))))))))))))))))
abbrev rm_X6_awardOpen : Jvm.Room := { frames := 3, cells := 0, slots := 0, locals := 68 }
theorem hd_X6_awardOpen : yX6_awardOpen.cls = RX6 ∧ yX6_awardOpen.cls ≠ "java/lang/invoke/MethodHandle" ∧ yX6_awardOpen.cls ≠ "java/lang/invoke/VarHandle" ∧ (parseMethodDescriptor yX6_awardOpen.desc).map (fun d => d.parameters.length) = some 2 := by decide +kernel
set_option maxHeartbeats 4000000 in
set_option maxRecDepth 100000 in
theorem kX6_awardOpen (l : Launch) (g : CX) (a : Nat → Nat) (sz : Nat) (x : SD) (p1 : Int32) (p2 : Int32) (res : Int32 × SD) (hm0 : fX6_awardOpen x p1 p2 = some res) : Met l yX6_awardOpen (wg yX6_awardOpen cX6_awardOpen 7 (some .int)) rm_X6_awardOpen (PW g [.ref (a 0), .int p1, .int p2] sz (w_X6 g a x)) (va_Qi (fun v u => v = res.1 ∧ u = res.2) (fun u t => va_P g.1 vwCl (w_X6 g a u) t.heap) (va_A (w_X6 g a x) sz)) 0 0 (va_A (w_X6 g a x) sz) := by
  refine Met.ofW (cc := cX6_awardOpen) (maxL := 7) (ret := (some .int)) (by decide) rfl ?_
  intro p e s m args below meth c s₁ B hml hv
  obtain ⟨rfl, hsz, hP, hK, hD0, hL⟩ := hv
  have hx := B.exec
  have hb := B.bytes
  have hr := B.returns
  have htG := wg_G (atoms_spec (ws := wg yX6_awardOpen cX6_awardOpen 7 (some .int)) B.pre)
  have hown : s.vm.findClass RX6 = some m.cls := findClass_of_methodNamed B.named
  have hlocks := B.notSynchronized
  subst hsz
  have hD := hD0.self (sz := s.heap.size)
  generalize hAe : va_A (w_X6 g a x) s.heap.size = A at hD hL ⊢
  have hA : ∀ q : Nat, s.heap.size ≤ q → A q := fun q h => by rw [← hAe]; exact Or.inr h
  have hS : va_S A s.heap s.heap [] := va_S.rf
  have hl := lv_entry ([.ref (a 0), .int p1, .int p2]) (n := 7) (Nat.le_of_ble_eq_true rfl)
  rw [lg_entry_eq]
  generalize (lg_sl ([.ref (a 0), .int p1, .int p2]) ++ List.replicate (7 - (lg_sl ([.ref (a 0), .int p1, .int p2])).length) Slot.unset).toArray = ls at hl ⊢
  have hl : lv_has ls 7 [(0, .ref (a 0)), (1, .int p1), (2, .int p2)] := hl
  have hm := hm0
  unfold fX6_awardOpen at hm
  refine lv_iload_n hx hb dX6_awardOpen_0 rfl (lv_at hl 1 rfl) ?_
  refine lv_iload_n hx hb dX6_awardOpen_1 rfl (lv_at hl 2 rfl) ?_
  refine ko_e (va_runSN (As := [.int p1, .int p2]) (rest := []) ⟨hx, hb, hml, hown, htG⟩ (kX8_slotOf l g p1 p2 _ rfl) ⟨va_cnB 2 htG (GC g2_128) rfl rfl rfl (nw_39 hK) (htG _ g1_1) hs_X8_slotOf ⟨Nat.le_of_ble_eq_true rfl, Nat.le_of_ble_eq_true rfl⟩, htG _ g2_127, trivial⟩ (PR_S hK hL hS hP [] rfl) rfl rfl hl.1 rfl (lv_room (Nat.le_of_ble_eq_true rfl)) dX6_awardOpen_2 ⟨Nat.zero_le _, Nat.zero_le _⟩) ?_
  refine lv_istore_n (lv' := [(3, .int (fX8_slotOf p1 p2)), (0, .ref (a 0)), (1, .int p1), (2, .int p2)]) hx hb dX6_awardOpen_5 rfl hl (by decide) rfl (fun ls hl => ?_)
  refine lv_aload_n hx hb dX6_awardOpen_6 rfl (lv_at hl 1 rfl) ?_
  refine lv_iload_n hx hb dX6_awardOpen_7 rfl (lv_at hl 2 rfl) ?_
  refine lv_iload_n hx hb dX6_awardOpen_8 rfl (lv_at hl 3 rfl) ?_
  refine ko_e (va_runV (As := [.int p1, .int p2]) (rest := []) ⟨hx, hb, hml, hown, htG⟩ (kX6_heaviestLift l g a x p1 p2 _ rfl) (cwV 2 htG (GV g2_192 g2_193 g2_194 g1_2 g2_195) rfl rfl rfl hd_X6_heaviestLift ⟨Nat.le_of_ble_eq_true rfl, Nat.le_of_ble_eq_true rfl⟩) (PR_VA hK hL hS hP (ci := 5) rfl 0 rfl) rfl rfl hl.1 rfl (lv_room (Nat.le_of_ble_eq_true rfl)) dX6_awardOpen_9 ⟨Nat.zero_le _, Nat.zero_le _⟩) ?_
  refine lv_istore (lv' := [(4, .int (fX6_heaviestLift x p1 p2)), (3, .int (fX8_slotOf p1 p2)), (0, .ref (a 0)), (1, .int p1), (2, .int p2)]) hx hb dX6_awardOpen_12 hl (by decide) rfl (fun ls hl => ?_)
  refine lv_aload_n hx hb dX6_awardOpen_14 rfl (lv_at hl 2 rfl) ?_
  refine va_get (D := g.1) (ci := 5) (v := .ref (a 3)) (C := RX6) (T := TX6) (N := 8) hx hb htG in_wsX60 hown hK.1 hP 0 rfl rfl 4 (by decide) (htG _ g1_136) (fun _ h9 => h9) rfl dX6_awardOpen_15 ?_
  refine lv_iload_n hx hb dX6_awardOpen_18 rfl (lv_at hl 1 rfl) ?_
  refine lv_iload hx hb dX6_awardOpen_19 (lv_at hl 0 rfl) ?_
  obtain ⟨zq1, hzq1, hm⟩ := bdk hm
  refine ko_e (va_runV (As := [.int (fX8_slotOf p1 p2), .int (fX6_heaviestLift x p1 p2)]) (rest := []) ⟨hx, hb, hml, hown, htG⟩ (kX0_winner l g (a 3) (a 4) (a 5) x.2.2.2.2.1 (fX8_slotOf p1 p2) (fX6_heaviestLift x p1 p2) _ hzq1) (cwV 2 htG (GV g2_203 g2_204 g2_205 g1_3 g2_206) rfl rfl rfl hd_X0_winner ⟨Nat.le_of_ble_eq_true rfl, Nat.le_of_ble_eq_true rfl⟩) (PR_V hK hL hS hP [3, 4, 5] rfl (ci := 0) rfl 3 rfl) rfl rfl hl.1 rfl (lv_room (Nat.le_of_ble_eq_true rfl)) dX6_awardOpen_21 ⟨Nat.zero_le _, Nat.zero_le _⟩) ?_
  refine lv_istore (lv' := [(5, .int zq1), (4, .int (fX6_heaviestLift x p1 p2)), (3, .int (fX8_slotOf p1 p2)), (0, .ref (a 0)), (1, .int p1), (2, .int p2)]) hx hb dX6_awardOpen_24 hl (by decide) rfl (fun ls hl => ?_)
  refine lv_iload hx hb dX6_awardOpen_26 (lv_at hl 0 rfl) ?_
  refine lv_bipush (v := (-5)) hx hb dX6_awardOpen_28 (by decide +kernel) ?_
  refine lv_icmp_ne (tgt := 36) hx hb dX6_awardOpen_30 (by decide) (fun zc2 => ?_) (fun zc2 => ?_)
  · replace hm := (if_neg zc2).symm.trans hm
    refine lv_aload_n hx hb dX6_awardOpen_36 rfl (lv_at hl 3 rfl) ?_
    refine va_get (D := g.1) (ci := 5) (v := .ref (a 3)) (C := RX6) (T := TX6) (N := 8) hx hb htG in_wsX60 hown hK.1 hP 0 rfl rfl 4 (by decide) (htG _ g1_136) (fun _ h9 => h9) rfl dX6_awardOpen_37 ?_
    refine lv_iload_n hx hb dX6_awardOpen_40 rfl (lv_at hl 2 rfl) ?_
    refine lv_iload hx hb dX6_awardOpen_41 (lv_at hl 1 rfl) ?_
    refine lv_iload hx hb dX6_awardOpen_43 (lv_at hl 0 rfl) ?_
    obtain ⟨zq3, hzq3, hm⟩ := bdk hm
    refine ko_e (va_runV (As := [.int (fX8_slotOf p1 p2), .int (fX6_heaviestLift x p1 p2), .int zq1]) (rest := []) ⟨hx, hb, hml, hown, htG⟩ (kX0_highest l g (a 3) (a 4) (a 5) x.2.2.2.2.1 (fX8_slotOf p1 p2) (fX6_heaviestLift x p1 p2) zq1 _ hzq3) (cwV 3 htG (GV g2_207 g2_208 g2_209 g1_3 g2_210) rfl rfl rfl hd_X0_highest ⟨Nat.le_of_ble_eq_true rfl, Nat.le_of_ble_eq_true rfl⟩) (PR_V hK hL hS hP [3, 4, 5] rfl (ci := 0) rfl 3 rfl) rfl rfl hl.1 rfl (lv_room (Nat.le_of_ble_eq_true rfl)) dX6_awardOpen_45 ⟨Nat.zero_le _, Nat.zero_le _⟩) ?_
    refine lv_istore (lv' := [(6, .int zq3), (5, .int zq1), (4, .int (fX6_heaviestLift x p1 p2)), (3, .int (fX8_slotOf p1 p2)), (0, .ref (a 0)), (1, .int p1), (2, .int p2)]) hx hb dX6_awardOpen_48 hl (by decide) rfl (fun ls hl => ?_)
    refine lv_aload_n hx hb dX6_awardOpen_50 rfl (lv_at hl 4 rfl) ?_
    refine va_get (D := g.1) (ci := 5) (v := .ref (a 6)) (C := RX6) (T := TX6) (N := 8) hx hb htG in_wsX60 hown hK.1 hP 0 rfl rfl 5 (by decide) (htG _ g1_138) (fun _ h9 => h9) rfl dX6_awardOpen_51 ?_
    refine lv_iload_n hx hb dX6_awardOpen_54 rfl (lv_at hl 3 rfl) ?_
    refine lv_iload hx hb dX6_awardOpen_55 (lv_at hl 1 rfl) ?_
    refine lv_aload_n hx hb dX6_awardOpen_57 rfl (lv_at hl 4 rfl) ?_
    refine va_get (D := g.1) (ci := 5) (v := .ref (a 3)) (C := RX6) (T := TX6) (N := 8) hx hb htG in_wsX60 hown hK.1 hP 0 rfl rfl 4 (by decide) (htG _ g1_136) (fun _ h9 => h9) rfl dX6_awardOpen_58 ?_
    refine lv_iload hx hb dX6_awardOpen_61 (lv_at hl 1 rfl) ?_
    refine lv_iload_n hx hb dX6_awardOpen_63 rfl (lv_at hl 3 rfl) ?_
    refine ko_e (va_runV (As := [.int zq1, .int (fX8_slotOf p1 p2)]) (rest := [.int zq1, .int (fX8_slotOf p1 p2), .ref (a 6)]) ⟨hx, hb, hml, hown, htG⟩ (kX0_weight l g (a 3) (a 4) (a 5) x.2.2.2.2.1 zq1 (fX8_slotOf p1 p2) _ rfl) (cwV 2 htG (GV g2_211 g2_212 g2_213 g1_3 g2_214) rfl rfl rfl hd_X0_weight ⟨Nat.le_of_ble_eq_true rfl, Nat.le_of_ble_eq_true rfl⟩) (PR_V hK hL hS hP [3, 4, 5] rfl (ci := 0) rfl 3 rfl) rfl rfl hl.1 rfl (lv_room (Nat.le_of_ble_eq_true rfl)) dX6_awardOpen_64 ⟨Nat.zero_le _, Nat.zero_le _⟩) ?_
    obtain ⟨zq4, hzq4, hm⟩ := bnk hm
    refine kw_ve (va_runV (As := [.int (fX8_slotOf p1 p2), .int zq1, .int (fX0_weight x.2.2.2.2.1 zq1 (fX8_slotOf p1 p2))]) (rest := []) ⟨hx, hb, hml, hown, htG⟩ (kX5_give l g (a 6) (a 7) (a 8) (a 9) (a 10) _ x.2.2.2.2.2.1 (fX8_slotOf p1 p2) zq1 (fX0_weight x.2.2.2.2.1 zq1 (fX8_slotOf p1 p2)) _ hzq4) (cwV 3 htG (GV g2_215 g2_216 g2_217 g1_4 g2_218) rfl rfl rfl hd_X5_give ⟨Nat.le_of_ble_eq_true rfl, Nat.le_of_ble_eq_true rfl⟩) (PW_V hK hL hS hP hD hA [6, 7, 8, 9, 10] rfl rfl (ci := 4) rfl 6 rfl) rfl rfl hl.1 rfl (lv_room (Nat.le_of_ble_eq_true rfl)) dX6_awardOpen_67 ⟨Nat.zero_le _, Nat.zero_le _⟩) hP hD hS hA [6, 7, 8, 9, 10] rfl rfl (fun _ => rfl) (fun H locs hP hD hS => ?_)
    have hP : va_P g.1 vwCl (w_X6 g a (x.1, x.2.1, x.2.2.1, x.2.2.2.1, x.2.2.2.2.1, zq4, x.2.2.2.2.2.2.1, x.2.2.2.2.2.2.2)) H := hP
    have hD : va_D A (w_X6 g a (x.1, x.2.1, x.2.2.1, x.2.2.2.1, x.2.2.2.2.1, zq4, x.2.2.2.2.2.2.1, x.2.2.2.2.2.2.2)) := hD
    refine lv_aload_n hx hb dX6_awardOpen_70 rfl (lv_at hl 4 rfl) ?_
    refine va_get (D := g.1) (ci := 5) (v := .ref (a 6)) (C := RX6) (T := TX6) (N := 8) hx hb htG in_wsX60 hown hK.1 hP 0 rfl rfl 5 (by decide) (htG _ g1_138) (fun _ h9 => h9) rfl dX6_awardOpen_71 ?_
    refine va_getN (D := g.1) (ci := 4) (v := .ref (a 9)) (C := RX5) (T := TX5) (N := 4) hx hb htG in_wsX50 hown hK.1 hP 6 rfl rfl 2 (by decide) (nw_3 hK) (fun _ h9 => h9) rfl dX6_awardOpen_74 ?_
    refine lv_iload_n hx hb dX6_awardOpen_77 rfl (lv_at hl 3 rfl) ?_
    refine lv_iload hx hb dX6_awardOpen_78 (lv_at hl 0 rfl) ?_
    obtain ⟨zq5, hzq5, hm⟩ := bnk hm
    refine kw_ve (va_runS (As := [.ref (a 9), .int (fX8_slotOf p1 p2), .int zq3]) (rest := []) ⟨hx, hb, hml, hown, htG⟩ (kX4_put l g (a 9) _ zq4.2.2.1 48 (fX8_slotOf p1 p2) zq3 _ ((t_X4_put _ _ _ _ (by decide)).trans (congrArg some hzq5))) (va_cwS 3 htG (GS g2_63 g2_64 g1_5 g2_65) rfl rfl rfl hs_X4_put ⟨Nat.le_of_ble_eq_true rfl, Nat.le_of_ble_eq_true rfl⟩) (PW_S hK hL hS hP hD hA [9] rfl rfl) rfl rfl hl.1 rfl (lv_room (Nat.le_of_ble_eq_true rfl)) dX6_awardOpen_80 ⟨Nat.zero_le _, Nat.zero_le _⟩) hP hD hS hA [9] rfl rfl (fun _ => rfl) (fun H locs hP hD hS => ?_)
    have hP : va_P g.1 vwCl (w_X6 g a (x.1, x.2.1, x.2.2.1, x.2.2.2.1, x.2.2.2.2.1, (zq4.1, zq4.2.1, zq5, zq4.2.2.2), x.2.2.2.2.2.2.1, x.2.2.2.2.2.2.2)) H := hP
    have hD : va_D A (w_X6 g a (x.1, x.2.1, x.2.2.1, x.2.2.2.1, x.2.2.2.2.1, (zq4.1, zq4.2.1, zq5, zq4.2.2.2), x.2.2.2.2.2.2.1, x.2.2.2.2.2.2.2)) := hD
    refine lv_aload_n hx hb dX6_awardOpen_83 rfl (lv_at hl 4 rfl) ?_
    refine va_get (D := g.1) (ci := 5) (v := .ref (a 11)) (C := RX6) (T := TX6) (N := 8) hx hb htG in_wsX60 hown hK.1 hP 0 rfl rfl 6 (by decide) (htG _ g1_140) (fun _ h9 => h9) rfl dX6_awardOpen_84 ?_
    refine lv_iload hx hb dX6_awardOpen_87 (lv_at hl 1 rfl) ?_
    refine lv_iload hx hb dX6_awardOpen_89 (lv_at hl 0 rfl) ?_
    obtain ⟨zq6, hzq6, hm⟩ := bnk hm
    refine kw_ve (va_runV (As := [.int zq1, .int zq3]) (rest := []) ⟨hx, hb, hml, hown, htG⟩ (kX1_payYard l g (a 11) (a 12) (a 13) (a 14) (a 15) _ x.2.2.2.2.2.2.1 zq1 zq3 _ hzq6) (cwV 2 htG (GV g2_220 g2_221 g2_222 g1_6 g2_223) rfl rfl rfl hd_X1_payYard ⟨Nat.le_of_ble_eq_true rfl, Nat.le_of_ble_eq_true rfl⟩) (PW_V hK hL hS hP hD hA [11, 12, 13, 14, 15] rfl rfl (ci := 1) rfl 11 rfl) rfl rfl hl.1 rfl (lv_room (Nat.le_of_ble_eq_true rfl)) dX6_awardOpen_91 ⟨Nat.zero_le _, Nat.zero_le _⟩) hP hD hS hA [11, 12, 13, 14, 15] rfl rfl (fun _ => rfl) (fun H locs hP hD hS => ?_)
    have hP : va_P g.1 vwCl (w_X6 g a (x.1, x.2.1, x.2.2.1, x.2.2.2.1, x.2.2.2.2.1, (zq4.1, zq4.2.1, zq5, zq4.2.2.2), zq6, x.2.2.2.2.2.2.2)) H := hP
    have hD : va_D A (w_X6 g a (x.1, x.2.1, x.2.2.1, x.2.2.2.1, x.2.2.2.2.1, (zq4.1, zq4.2.1, zq5, zq4.2.2.2), zq6, x.2.2.2.2.2.2.2)) := hD
    refine lv_aload_n hx hb dX6_awardOpen_94 rfl (lv_at hl 4 rfl) ?_
    refine va_get (D := g.1) (ci := 5) (v := .ref (a 16)) (C := RX6) (T := TX6) (N := 8) hx hb htG in_wsX60 hown hK.1 hP 0 rfl rfl 7 (by decide) (htG _ g1_142) (fun _ h9 => h9) rfl dX6_awardOpen_95 ?_
    refine lv_dup hx hb dX6_awardOpen_98 rfl ?_
    refine va_getN (D := g.1) (ci := 6) (v := .int x.2.2.2.2.2.2.2.2.1) (C := RX7) (T := TX7) (N := 7) hx hb htG in_wsX70 hown hK.1 hP 16 rfl rfl 1 (by decide) (nw_15 hK) (fun _ h9 => h9) rfl dX6_awardOpen_99 ?_
    refine lv_iload hx hb dX6_awardOpen_102 (lv_at hl 0 rfl) ?_
    refine lv_iadd hx hb dX6_awardOpen_104 ?_
    obtain ⟨zv7, ezv7, hm⟩ := bnk hm
    refine tope ezv7 ?_
    refine va_putN (D := g.1) (ci := 6) (v := .int zv7) (ty := .int) (C := RX7) (T := TX7) (N := 7) hx hb htG in_wsX70 tyX7 tyX7_ok nmX7 hown hK.1 hP hD hS 16 rfl rfl 1 (by decide) (nw_15 hK) (fun _ h9 => h9) rfl (by decide +kernel) rfl rfl (Nat.le_of_ble_eq_true rfl) dX6_awardOpen_105 (fun H locs hP hD hS => ?_)
    have hP : va_P g.1 vwCl (w_X6 g a (x.1, x.2.1, x.2.2.1, x.2.2.2.1, x.2.2.2.2.1, (zq4.1, zq4.2.1, zq5, zq4.2.2.2), zq6, (x.2.2.2.2.2.2.2.1, zv7, x.2.2.2.2.2.2.2.2.2.1, x.2.2.2.2.2.2.2.2.2.2.1, x.2.2.2.2.2.2.2.2.2.2.2.1, x.2.2.2.2.2.2.2.2.2.2.2.2.1, x.2.2.2.2.2.2.2.2.2.2.2.2.2))) H := hP
    have hD : va_D A (w_X6 g a (x.1, x.2.1, x.2.2.1, x.2.2.2.1, x.2.2.2.2.1, (zq4.1, zq4.2.1, zq5, zq4.2.2.2), zq6, (x.2.2.2.2.2.2.2.1, zv7, x.2.2.2.2.2.2.2.2.2.1, x.2.2.2.2.2.2.2.2.2.2.1, x.2.2.2.2.2.2.2.2.2.2.2.1, x.2.2.2.2.2.2.2.2.2.2.2.2.1, x.2.2.2.2.2.2.2.2.2.2.2.2.2))) := hD
    refine lv_aload_n hx hb dX6_awardOpen_108 rfl (lv_at hl 4 rfl) ?_
    refine va_get (D := g.1) (ci := 5) (v := .ref (a 3)) (C := RX6) (T := TX6) (N := 8) hx hb htG in_wsX60 hown hK.1 hP 0 rfl rfl 4 (by decide) (htG _ g1_136) (fun _ h9 => h9) rfl dX6_awardOpen_109 ?_
    refine lv_iload_n hx hb dX6_awardOpen_112 rfl (lv_at hl 3 rfl) ?_
    obtain ⟨zq8, hzq8, hm⟩ := bdk hm
    refine kw_ve (va_runV (As := [.int (fX8_slotOf p1 p2)]) (rest := []) ⟨hx, hb, hml, hown, htG⟩ (kX0_removeAll l g (a 3) (a 4) (a 5) _ x.2.2.2.2.1 (fX8_slotOf p1 p2) _ hzq8) (cwV 1 htG (GV g2_225 g2_226 g2_227 g1_3 g2_228) rfl rfl rfl hd_X0_removeAll ⟨Nat.le_of_ble_eq_true rfl, Nat.le_of_ble_eq_true rfl⟩) (PW_V hK hL hS hP hD hA [3, 4, 5] rfl rfl (ci := 0) rfl 3 rfl) rfl rfl hl.1 rfl (lv_room (Nat.le_of_ble_eq_true rfl)) dX6_awardOpen_113 ⟨Nat.zero_le _, Nat.zero_le _⟩) hP hD hS hA [3, 4, 5] rfl rfl (fun _ => rfl) (fun H locs hP hD hS => ?_)
    have hP : va_P g.1 vwCl (w_X6 g a (x.1, x.2.1, x.2.2.1, x.2.2.2.1, zq8, (zq4.1, zq4.2.1, zq5, zq4.2.2.2), zq6, (x.2.2.2.2.2.2.2.1, zv7, x.2.2.2.2.2.2.2.2.2.1, x.2.2.2.2.2.2.2.2.2.2.1, x.2.2.2.2.2.2.2.2.2.2.2.1, x.2.2.2.2.2.2.2.2.2.2.2.2.1, x.2.2.2.2.2.2.2.2.2.2.2.2.2))) H := hP
    have hD : va_D A (w_X6 g a (x.1, x.2.1, x.2.2.1, x.2.2.2.1, zq8, (zq4.1, zq4.2.1, zq5, zq4.2.2.2), zq6, (x.2.2.2.2.2.2.2.1, zv7, x.2.2.2.2.2.2.2.2.2.1, x.2.2.2.2.2.2.2.2.2.2.1, x.2.2.2.2.2.2.2.2.2.2.2.1, x.2.2.2.2.2.2.2.2.2.2.2.2.1, x.2.2.2.2.2.2.2.2.2.2.2.2.2))) := hD
    refine lv_iload hx hb dX6_awardOpen_116 (lv_at hl 1 rfl) ?_
    exact W.iret (v := zq1) hx hb hr (fun t ht hW => ⟨⟨_, _, rfl, pr1 (Option.some.inj hm), atH ht hP⟩, hS.F ht⟩) hS.2.2 dX6_awardOpen_118
  · replace hm := (if_pos zc2).symm.trans hm
    refine lv_bipush (v := (-5)) hx hb dX6_awardOpen_33 (by decide +kernel) ?_
    exact W.iret (v := (-5)) hx hb hr (fun t ht hW => ⟨⟨_, _, rfl, pr1 (Option.some.inj hm), atH ht hP⟩, hS.F ht⟩) hS.2.2 dX6_awardOpen_35
