def fX6_sell (x : SD) (p1 : Int32) (p2 : Int32) (p3 : Int32) (p4 : Int32) (p5 : Int32) : Option (Int32 × SD) := (if (fX8_isSlot p1 p2) = 0 then some ((-1), x) else (if (fX8_isFirm p3) = 0 then some ((-1), x) else (if (fX5_isAwarded x.2.2.2.2.2.1 (fX8_slotOf p1 p2)) = 0 then some ((-1), x) else (if (fX8_isLift p1 p4) = 0 then some ((-2), x) else (if p5 < 0 then some ((-2), x) else (if p5 ≤ 999 then (bnd (fX5_ownerOf x.2.2.2.2.2.1 (fX8_slotOf p1 p2)) (fun zv7 => (if (fX6_isOver x p2) = 0 then (if zv7 = p3 then some ((-4), x) else ((fX6_freeCoins x p3).bind (fun zq10 => (if p5 ≤ zq10 then (bnd (fX1_getByTrade x.2.2.2.2.2.2.1 zv7 p5) (fun zq12 => (bnd (fX1_getByTrade zq12 p3 (-p5)) (fun zq13 => (bnd (fX5_give x.2.2.2.2.2.1 (fX8_slotOf p1 p2) p3 p4) (fun zq14 => (bnd (x.2.2.2.2.2.2.2.2.2.2.2.1 + 1) (fun zv15 => some (rat zq13.1 6 zv7, (x.1, x.2.1, x.2.2.1, x.2.2.2.1, x.2.2.2.2.1, zq14, zq13, (x.2.2.2.2.2.2.2.1, x.2.2.2.2.2.2.2.2.1, x.2.2.2.2.2.2.2.2.2.1, x.2.2.2.2.2.2.2.2.2.2.1, zv15, x.2.2.2.2.2.2.2.2.2.2.2.2.1, x.2.2.2.2.2.2.2.2.2.2.2.2.2))))))))))) else some ((-6), x))))) else some ((-4), x)))) else some ((-2), x)))))))
abbrev rm_X6_sell : Jvm.Room := { frames := 3, cells := 0, slots := 0, locals := 65 }
theorem hd_X6_sell : yX6_sell.cls = RX6 ∧ yX6_sell.cls ≠ "java/lang/invoke/MethodHandle" ∧ yX6_sell.cls ≠ "java/lang/invoke/VarHandle" ∧ (parseMethodDescriptor yX6_sell.desc).map (fun d => d.parameters.length) = some 5 := by decide +kernel
set_option maxHeartbeats 4000000 in
set_option maxRecDepth 100000 in
theorem kX6_sell (l : Launch) (g : CX) (a : Nat → Nat) (sz : Nat) (x : SD) (p1 : Int32) (p2 : Int32) (p3 : Int32) (p4 : Int32) (p5 : Int32) (res : Int32 × SD) (hm0 : fX6_sell x p1 p2 p3 p4 p5 = some res) : Met l yX6_sell (wg yX6_sell cX6_sell 7 (some .int)) rm_X6_sell (PW g [.ref (a 0), .int p1, .int p2, .int p3, .int p4, .int p5] sz (w_X6 g a x)) (va_Qi (fun v u => v = res.1 ∧ u = res.2) (fun u t => va_P g.1 vwCl (w_X6 g a u) t.heap) (va_A (w_X6 g a x) sz)) 0 0 (va_A (w_X6 g a x) sz) := by
  refine Met.ofW (cc := cX6_sell) (maxL := 7) (ret := (some .int)) (by decide) rfl ?_
  intro p e s m args below meth c s₁ B hml hv
  obtain ⟨rfl, hsz, hP, hK, hD0, hL⟩ := hv
  have hx := B.exec
  have hb := B.bytes
  have hr := B.returns
  have htG := wg_G (atoms_spec (ws := wg yX6_sell cX6_sell 7 (some .int)) B.pre)
  have hown : s.vm.findClass RX6 = some m.cls := findClass_of_methodNamed B.named
  have hlocks := B.notSynchronized
  subst hsz
  have hD := hD0.self (sz := s.heap.size)
  generalize hAe : va_A (w_X6 g a x) s.heap.size = A at hD hL ⊢
  have hA : ∀ q : Nat, s.heap.size ≤ q → A q := fun q h => by rw [← hAe]; exact Or.inr h
  have hS : va_S A s.heap s.heap [] := va_S.rf
  have hl := lv_entry ([.ref (a 0), .int p1, .int p2, .int p3, .int p4, .int p5]) (n := 7) (Nat.le_of_ble_eq_true rfl)
  rw [lg_entry_eq]
  generalize (lg_sl ([.ref (a 0), .int p1, .int p2, .int p3, .int p4, .int p5]) ++ List.replicate (7 - (lg_sl ([.ref (a 0), .int p1, .int p2, .int p3, .int p4, .int p5])).length) Slot.unset).toArray = ls at hl ⊢
  have hl : lv_has ls 7 [(0, .ref (a 0)), (1, .int p1), (2, .int p2), (3, .int p3), (4, .int p4), (5, .int p5)] := hl
  have hm := hm0
  unfold fX6_sell at hm
  refine lv_iload_n hx hb dX6_sell_0 rfl (lv_at hl 1 rfl) ?_
  refine lv_iload_n hx hb dX6_sell_1 rfl (lv_at hl 2 rfl) ?_
  refine ko_e (va_runSN (As := [.int p1, .int p2]) (rest := []) ⟨hx, hb, hml, hown, htG⟩ (kX8_isSlot l g p1 p2 _ rfl) ⟨va_cnB 2 htG (GC g2_111) rfl rfl rfl (nw_37 hK) (htG _ g1_1) hs_X8_isSlot ⟨Nat.le_of_ble_eq_true rfl, Nat.le_of_ble_eq_true rfl⟩, htG _ g2_110, trivial⟩ (PR_S hK hL hS hP [] rfl) rfl rfl hl.1 rfl (lv_room (Nat.le_of_ble_eq_true rfl)) dX6_sell_2 ⟨Nat.zero_le _, Nat.zero_le _⟩) ?_
  refine lv_if_eq (tgt := 30) hx hb dX6_sell_5 (by decide) (fun zc1 => ?_) (fun zc1 => ?_)
  · replace hm := (if_pos zc1).symm.trans hm
    refine lv_iconst (v := (-1)) hx hb dX6_sell_30 (by decide) ?_
    exact W.iret (v := (-1)) hx hb hr (fun t ht hW => ⟨⟨_, _, rfl, pr1 (Option.some.inj hm), atH ht hP⟩, hS.F ht⟩) hS.2.2 dX6_sell_31
  · replace hm := (if_neg zc1).symm.trans hm
    refine lv_iload_n hx hb dX6_sell_8 rfl (lv_at hl 3 rfl) ?_
    refine ko_e (va_runSN (As := [.int p3]) (rest := []) ⟨hx, hb, hml, hown, htG⟩ (kX8_isFirm l g p3 _ rfl) ⟨va_cnB 1 htG (GC g2_93) rfl rfl rfl (nw_36 hK) (htG _ g1_1) hs_X8_isFirm ⟨Nat.le_of_ble_eq_true rfl, Nat.le_of_ble_eq_true rfl⟩, htG _ g2_92, trivial⟩ (PR_S hK hL hS hP [] rfl) rfl rfl hl.1 rfl (lv_room (Nat.le_of_ble_eq_true rfl)) dX6_sell_9 ⟨Nat.zero_le _, Nat.zero_le _⟩) ?_
    refine lv_if_eq (tgt := 30) hx hb dX6_sell_12 (by decide) (fun zc2 => ?_) (fun zc2 => ?_)
    · replace hm := (if_pos zc2).symm.trans hm
      refine lv_iconst (v := (-1)) hx hb dX6_sell_30 (by decide) ?_
      exact W.iret (v := (-1)) hx hb hr (fun t ht hW => ⟨⟨_, _, rfl, pr1 (Option.some.inj hm), atH ht hP⟩, hS.F ht⟩) hS.2.2 dX6_sell_31
    · replace hm := (if_neg zc2).symm.trans hm
      refine lv_aload_n hx hb dX6_sell_15 rfl (lv_at hl 0 rfl) ?_
      refine va_get (D := g.1) (ci := 5) (v := .ref (a 6)) (C := RX6) (T := TX6) (N := 8) hx hb htG in_wsX60 hown hK.1 hP 0 rfl rfl 5 (by decide) (htG _ g1_138) (fun _ h9 => h9) rfl dX6_sell_16 ?_
      refine lv_iload_n hx hb dX6_sell_19 rfl (lv_at hl 1 rfl) ?_
      refine lv_iload_n hx hb dX6_sell_20 rfl (lv_at hl 2 rfl) ?_
      refine ko_e (va_runSN (As := [.int p1, .int p2]) (rest := [.ref (a 6)]) ⟨hx, hb, hml, hown, htG⟩ (kX8_slotOf l g p1 p2 _ rfl) ⟨va_cnB 2 htG (GC g2_128) rfl rfl rfl (nw_39 hK) (htG _ g1_1) hs_X8_slotOf ⟨Nat.le_of_ble_eq_true rfl, Nat.le_of_ble_eq_true rfl⟩, htG _ g2_127, trivial⟩ (PR_S hK hL hS hP [] rfl) rfl rfl hl.1 rfl (lv_room (Nat.le_of_ble_eq_true rfl)) dX6_sell_21 ⟨Nat.zero_le _, Nat.zero_le _⟩) ?_
      refine ko_e (va_runV (As := [.int (fX8_slotOf p1 p2)]) (rest := []) ⟨hx, hb, hml, hown, htG⟩ (kX5_isAwarded l g (a 6) (a 7) (a 8) (a 9) (a 10) x.2.2.2.2.2.1 (fX8_slotOf p1 p2) _ rfl) (cwV 1 htG (GV g2_129 g2_130 g2_131 g1_4 g2_132) rfl rfl rfl hd_X5_isAwarded ⟨Nat.le_of_ble_eq_true rfl, Nat.le_of_ble_eq_true rfl⟩) (PR_V hK hL hS hP [6, 7, 8, 9, 10] rfl (ci := 4) rfl 6 rfl) rfl rfl hl.1 rfl (lv_room (Nat.le_of_ble_eq_true rfl)) dX6_sell_24 ⟨Nat.zero_le _, Nat.zero_le _⟩) ?_
      refine lv_if_ne (tgt := 32) hx hb dX6_sell_27 (by decide) (fun zc3 => ?_) (fun zc3 => ?_)
      · replace hm := (if_neg zc3).symm.trans hm
        refine lv_iload_n hx hb dX6_sell_32 rfl (lv_at hl 1 rfl) ?_
        refine lv_iload hx hb dX6_sell_33 (lv_at hl 4 rfl) ?_
        refine ko_e (va_runSN (As := [.int p1, .int p4]) (rest := []) ⟨hx, hb, hml, hown, htG⟩ (kX8_isLift l g p1 p4 _ rfl) ⟨va_cnB 2 htG (GC g2_118) rfl rfl rfl (nw_38 hK) (htG _ g1_1) hs_X8_isLift ⟨Nat.le_of_ble_eq_true rfl, Nat.le_of_ble_eq_true rfl⟩, htG _ g2_117, trivial⟩ (PR_S hK hL hS hP [] rfl) rfl rfl hl.1 rfl (lv_room (Nat.le_of_ble_eq_true rfl)) dX6_sell_35 ⟨Nat.zero_le _, Nat.zero_le _⟩) ?_
        refine lv_if_eq (tgt := 54) hx hb dX6_sell_38 (by decide) (fun zc4 => ?_) (fun zc4 => ?_)
        · replace hm := (if_pos zc4).symm.trans hm
          refine lv_bipush (v := (-2)) hx hb dX6_sell_54 (by decide +kernel) ?_
          exact W.iret (v := (-2)) hx hb hr (fun t ht hW => ⟨⟨_, _, rfl, pr1 (Option.some.inj hm), atH ht hP⟩, hS.F ht⟩) hS.2.2 dX6_sell_56
        · replace hm := (if_neg zc4).symm.trans hm
          refine lv_iload hx hb dX6_sell_41 (lv_at hl 5 rfl) ?_
          refine lv_if_lt (tgt := 54) hx hb dX6_sell_43 (by decide) (fun zc5 => ?_) (fun zc5 => ?_)
          · replace hm := (if_pos zc5).symm.trans hm
            refine lv_bipush (v := (-2)) hx hb dX6_sell_54 (by decide +kernel) ?_
            exact W.iret (v := (-2)) hx hb hr (fun t ht hW => ⟨⟨_, _, rfl, pr1 (Option.some.inj hm), atH ht hP⟩, hS.F ht⟩) hS.2.2 dX6_sell_56
          · replace hm := (if_neg zc5).symm.trans hm
            refine lv_iload hx hb dX6_sell_46 (lv_at hl 5 rfl) ?_
            refine lv_sipush (v := 999) hx hb dX6_sell_48 (by decide +kernel) ?_
            refine lv_icmp_le (tgt := 57) hx hb dX6_sell_51 (by decide) (fun zc6 => ?_) (fun zc6 => ?_)
            · replace hm := (if_pos zc6).symm.trans hm
              refine lv_aload_n hx hb dX6_sell_57 rfl (lv_at hl 0 rfl) ?_
              refine va_get (D := g.1) (ci := 5) (v := .ref (a 6)) (C := RX6) (T := TX6) (N := 8) hx hb htG in_wsX60 hown hK.1 hP 0 rfl rfl 5 (by decide) (htG _ g1_138) (fun _ h9 => h9) rfl dX6_sell_58 ?_
              refine lv_iload_n hx hb dX6_sell_61 rfl (lv_at hl 1 rfl) ?_
              refine lv_iload_n hx hb dX6_sell_62 rfl (lv_at hl 2 rfl) ?_
              refine ko_e (va_runSN (As := [.int p1, .int p2]) (rest := [.ref (a 6)]) ⟨hx, hb, hml, hown, htG⟩ (kX8_slotOf l g p1 p2 _ rfl) ⟨va_cnB 2 htG (GC g2_128) rfl rfl rfl (nw_39 hK) (htG _ g1_1) hs_X8_slotOf ⟨Nat.le_of_ble_eq_true rfl, Nat.le_of_ble_eq_true rfl⟩, htG _ g2_127, trivial⟩ (PR_S hK hL hS hP [] rfl) rfl rfl hl.1 rfl (lv_room (Nat.le_of_ble_eq_true rfl)) dX6_sell_63 ⟨Nat.zero_le _, Nat.zero_le _⟩) ?_
              refine ko_e (va_runV (As := [.int (fX8_slotOf p1 p2)]) (rest := []) ⟨hx, hb, hml, hown, htG⟩ (kX5_ownerOf l g (a 6) (a 7) (a 8) (a 9) (a 10) x.2.2.2.2.2.1 (fX8_slotOf p1 p2) _ rfl) (cwV 1 htG (GV g2_237 g2_238 g2_239 g1_4 g3_0) rfl rfl rfl hd_X5_ownerOf ⟨Nat.le_of_ble_eq_true rfl, Nat.le_of_ble_eq_true rfl⟩) (PR_V hK hL hS hP [6, 7, 8, 9, 10] rfl (ci := 4) rfl 6 rfl) rfl rfl hl.1 rfl (lv_room (Nat.le_of_ble_eq_true rfl)) dX6_sell_66 ⟨Nat.zero_le _, Nat.zero_le _⟩) ?_
              obtain ⟨zv7, ezv7, hm⟩ := bnk hm
              refine tope ezv7 ?_
              refine lv_istore (lv' := [(6, .int zv7), (0, .ref (a 0)), (1, .int p1), (2, .int p2), (3, .int p3), (4, .int p4), (5, .int p5)]) hx hb dX6_sell_69 hl (by decide) rfl (fun ls hl => ?_)
              refine lv_aload_n hx hb dX6_sell_71 rfl (lv_at hl 1 rfl) ?_
              refine lv_iload_n hx hb dX6_sell_72 rfl (lv_at hl 3 rfl) ?_
              refine ko_e (va_runV (As := [.int p2]) (rest := []) ⟨hx, hb, hml, hown, htG⟩ (kX6_isOver l g a x p2 _ rfl) (cwV 1 htG (GV g2_56 g2_57 g2_58 g1_2 g2_59) rfl rfl rfl hd_X6_isOver ⟨Nat.le_of_ble_eq_true rfl, Nat.le_of_ble_eq_true rfl⟩) (PR_VA hK hL hS hP (ci := 5) rfl 0 rfl) rfl rfl hl.1 rfl (lv_room (Nat.le_of_ble_eq_true rfl)) dX6_sell_73 ⟨Nat.zero_le _, Nat.zero_le _⟩) ?_
              refine lv_if_ne (tgt := 85) hx hb dX6_sell_76 (by decide) (fun zc8 => ?_) (fun zc8 => ?_)
              · replace hm := (if_neg zc8).symm.trans hm
                refine lv_bipush (v := (-4)) hx hb dX6_sell_85 (by decide +kernel) ?_
                exact W.iret (v := (-4)) hx hb hr (fun t ht hW => ⟨⟨_, _, rfl, pr1 (Option.some.inj hm), atH ht hP⟩, hS.F ht⟩) hS.2.2 dX6_sell_87
              · replace hm := (if_pos zc8).symm.trans hm
                refine lv_iload hx hb dX6_sell_79 (lv_at hl 0 rfl) ?_
                refine lv_iload_n hx hb dX6_sell_81 rfl (lv_at hl 4 rfl) ?_
                refine lv_icmp_ne (tgt := 88) hx hb dX6_sell_82 (by decide) (fun zc9 => ?_) (fun zc9 => ?_)
                · replace hm := (if_neg zc9).symm.trans hm
                  refine lv_aload_n hx hb dX6_sell_88 rfl (lv_at hl 1 rfl) ?_
                  refine lv_iload_n hx hb dX6_sell_89 rfl (lv_at hl 4 rfl) ?_
                  obtain ⟨zq10, hzq10, hm⟩ := bdk hm
                  refine ko_e (va_runV (As := [.int p3]) (rest := []) ⟨hx, hb, hml, hown, htG⟩ (kX6_freeCoins l g a x p3 _ hzq10) (cwV 1 htG (GV g2_142 g2_143 g2_144 g1_2 g2_145) rfl rfl rfl hd_X6_freeCoins ⟨Nat.le_of_ble_eq_true rfl, Nat.le_of_ble_eq_true rfl⟩) (PR_VA hK hL hS hP (ci := 5) rfl 0 rfl) rfl rfl hl.1 rfl (lv_room (Nat.le_of_ble_eq_true rfl)) dX6_sell_90 ⟨Nat.zero_le _, Nat.zero_le _⟩) ?_
                  refine lv_iload hx hb dX6_sell_93 (lv_at hl 6 rfl) ?_
                  refine lv_icmp_ge (tgt := 101) hx hb dX6_sell_95 (by decide) (fun zc11 => ?_) (fun zc11 => ?_)
                  · replace hm := (if_pos zc11).symm.trans hm
                    refine lv_aload_n hx hb dX6_sell_101 rfl (lv_at hl 1 rfl) ?_
                    refine va_get (D := g.1) (ci := 5) (v := .ref (a 11)) (C := RX6) (T := TX6) (N := 8) hx hb htG in_wsX60 hown hK.1 hP 0 rfl rfl 6 (by decide) (htG _ g1_140) (fun _ h9 => h9) rfl dX6_sell_102 ?_
                    refine lv_iload hx hb dX6_sell_105 (lv_at hl 0 rfl) ?_
                    refine lv_iload hx hb dX6_sell_107 (lv_at hl 6 rfl) ?_
                    obtain ⟨zq12, hzq12, hm⟩ := bnk hm
                    refine kw_ve (va_runV (As := [.int zv7, .int p5]) (rest := []) ⟨hx, hb, hml, hown, htG⟩ (kX1_getByTrade l g (a 11) (a 12) (a 13) (a 14) (a 15) _ x.2.2.2.2.2.2.1 zv7 p5 _ hzq12) (cwV 2 htG (GV g3_1 g3_2 g3_3 g1_6 g3_4) rfl rfl rfl hd_X1_getByTrade ⟨Nat.le_of_ble_eq_true rfl, Nat.le_of_ble_eq_true rfl⟩) (PW_V hK hL hS hP hD hA [11, 12, 13, 14, 15] rfl rfl (ci := 1) rfl 11 rfl) rfl rfl hl.1 rfl (lv_room (Nat.le_of_ble_eq_true rfl)) dX6_sell_109 ⟨Nat.zero_le _, Nat.zero_le _⟩) hP hD hS hA [11, 12, 13, 14, 15] rfl rfl (fun _ => rfl) (fun H locs hP hD hS => ?_)
                    have hP : va_P g.1 vwCl (w_X6 g a (x.1, x.2.1, x.2.2.1, x.2.2.2.1, x.2.2.2.2.1, x.2.2.2.2.2.1, zq12, x.2.2.2.2.2.2.2)) H := hP
                    have hD : va_D A (w_X6 g a (x.1, x.2.1, x.2.2.1, x.2.2.2.1, x.2.2.2.2.1, x.2.2.2.2.2.1, zq12, x.2.2.2.2.2.2.2)) := hD
                    refine lv_aload_n hx hb dX6_sell_112 rfl (lv_at hl 1 rfl) ?_
                    refine va_get (D := g.1) (ci := 5) (v := .ref (a 11)) (C := RX6) (T := TX6) (N := 8) hx hb htG in_wsX60 hown hK.1 hP 0 rfl rfl 6 (by decide) (htG _ g1_140) (fun _ h9 => h9) rfl dX6_sell_113 ?_
                    refine lv_iload_n hx hb dX6_sell_116 rfl (lv_at hl 4 rfl) ?_
                    refine lv_iload hx hb dX6_sell_117 (lv_at hl 6 rfl) ?_
                    refine lv_ineg hx hb dX6_sell_119 ?_
                    obtain ⟨zq13, hzq13, hm⟩ := bnk hm
                    refine kw_ve (va_runV (As := [.int p3, .int (-p5)]) (rest := []) ⟨hx, hb, hml, hown, htG⟩ (kX1_getByTrade l g (a 11) (a 12) (a 13) (a 14) (a 15) _ zq12 p3 (-p5) _ hzq13) (cwV 2 htG (GV g3_1 g3_2 g3_3 g1_6 g3_4) rfl rfl rfl hd_X1_getByTrade ⟨Nat.le_of_ble_eq_true rfl, Nat.le_of_ble_eq_true rfl⟩) (PW_V hK hL hS hP hD hA [11, 12, 13, 14, 15] rfl rfl (ci := 1) rfl 11 rfl) rfl rfl hl.1 rfl (lv_room (Nat.le_of_ble_eq_true rfl)) dX6_sell_120 ⟨Nat.zero_le _, Nat.zero_le _⟩) hP hD hS hA [11, 12, 13, 14, 15] rfl rfl (fun _ => rfl) (fun H locs hP hD hS => ?_)
                    have hP : va_P g.1 vwCl (w_X6 g a (x.1, x.2.1, x.2.2.1, x.2.2.2.1, x.2.2.2.2.1, x.2.2.2.2.2.1, zq13, x.2.2.2.2.2.2.2)) H := hP
                    have hD : va_D A (w_X6 g a (x.1, x.2.1, x.2.2.1, x.2.2.2.1, x.2.2.2.2.1, x.2.2.2.2.2.1, zq13, x.2.2.2.2.2.2.2)) := hD
                    refine lv_aload_n hx hb dX6_sell_123 rfl (lv_at hl 1 rfl) ?_
                    refine va_get (D := g.1) (ci := 5) (v := .ref (a 6)) (C := RX6) (T := TX6) (N := 8) hx hb htG in_wsX60 hown hK.1 hP 0 rfl rfl 5 (by decide) (htG _ g1_138) (fun _ h9 => h9) rfl dX6_sell_124 ?_
                    refine lv_iload_n hx hb dX6_sell_127 rfl (lv_at hl 2 rfl) ?_
                    refine lv_iload_n hx hb dX6_sell_128 rfl (lv_at hl 3 rfl) ?_
                    refine ko_e (va_runSN (As := [.int p1, .int p2]) (rest := [.ref (a 6)]) ⟨hx, hb, hml, hown, htG⟩ (kX8_slotOf l g p1 p2 _ rfl) ⟨va_cnB 2 htG (GC g2_128) rfl rfl rfl (nw_39 hK) (htG _ g1_1) hs_X8_slotOf ⟨Nat.le_of_ble_eq_true rfl, Nat.le_of_ble_eq_true rfl⟩, htG _ g2_127, trivial⟩ (PR_S hK hL hS hP [] rfl) rfl rfl hl.1 rfl (lv_room (Nat.le_of_ble_eq_true rfl)) dX6_sell_129 ⟨Nat.zero_le _, Nat.zero_le _⟩) ?_
                    refine lv_iload_n hx hb dX6_sell_132 rfl (lv_at hl 4 rfl) ?_
                    refine lv_iload hx hb dX6_sell_133 (lv_at hl 5 rfl) ?_
                    obtain ⟨zq14, hzq14, hm⟩ := bnk hm
                    refine kw_ve (va_runV (As := [.int (fX8_slotOf p1 p2), .int p3, .int p4]) (rest := []) ⟨hx, hb, hml, hown, htG⟩ (kX5_give l g (a 6) (a 7) (a 8) (a 9) (a 10) _ x.2.2.2.2.2.1 (fX8_slotOf p1 p2) p3 p4 _ hzq14) (cwV 3 htG (GV g2_215 g2_216 g2_217 g1_4 g2_218) rfl rfl rfl hd_X5_give ⟨Nat.le_of_ble_eq_true rfl, Nat.le_of_ble_eq_true rfl⟩) (PW_V hK hL hS hP hD hA [6, 7, 8, 9, 10] rfl rfl (ci := 4) rfl 6 rfl) rfl rfl hl.1 rfl (lv_room (Nat.le_of_ble_eq_true rfl)) dX6_sell_135 ⟨Nat.zero_le _, Nat.zero_le _⟩) hP hD hS hA [6, 7, 8, 9, 10] rfl rfl (fun _ => rfl) (fun H locs hP hD hS => ?_)
                    have hP : va_P g.1 vwCl (w_X6 g a (x.1, x.2.1, x.2.2.1, x.2.2.2.1, x.2.2.2.2.1, zq14, zq13, x.2.2.2.2.2.2.2)) H := hP
                    have hD : va_D A (w_X6 g a (x.1, x.2.1, x.2.2.1, x.2.2.2.1, x.2.2.2.2.1, zq14, zq13, x.2.2.2.2.2.2.2)) := hD
                    refine lv_aload_n hx hb dX6_sell_138 rfl (lv_at hl 1 rfl) ?_
                    refine va_get (D := g.1) (ci := 5) (v := .ref (a 16)) (C := RX6) (T := TX6) (N := 8) hx hb htG in_wsX60 hown hK.1 hP 0 rfl rfl 7 (by decide) (htG _ g1_142) (fun _ h9 => h9) rfl dX6_sell_139 ?_
                    refine lv_dup hx hb dX6_sell_142 rfl ?_
                    refine va_getN (D := g.1) (ci := 6) (v := .int x.2.2.2.2.2.2.2.2.2.2.2.1) (C := RX7) (T := TX7) (N := 7) hx hb htG in_wsX70 hown hK.1 hP 16 rfl rfl 4 (by decide) (nw_18 hK) (fun _ h9 => h9) rfl dX6_sell_143 ?_
                    refine lv_iconst (v := 1) hx hb dX6_sell_146 (by decide) ?_
                    refine lv_iadd hx hb dX6_sell_147 ?_
                    obtain ⟨zv15, ezv15, hm⟩ := bnk hm
                    refine tope ezv15 ?_
                    refine va_putN (D := g.1) (ci := 6) (v := .int zv15) (ty := .int) (C := RX7) (T := TX7) (N := 7) hx hb htG in_wsX70 tyX7 tyX7_ok nmX7 hown hK.1 hP hD hS 16 rfl rfl 4 (by decide) (nw_18 hK) (fun _ h9 => h9) rfl (by decide +kernel) rfl rfl (Nat.le_of_ble_eq_true rfl) dX6_sell_148 (fun H locs hP hD hS => ?_)
                    have hP : va_P g.1 vwCl (w_X6 g a (x.1, x.2.1, x.2.2.1, x.2.2.2.1, x.2.2.2.2.1, zq14, zq13, (x.2.2.2.2.2.2.2.1, x.2.2.2.2.2.2.2.2.1, x.2.2.2.2.2.2.2.2.2.1, x.2.2.2.2.2.2.2.2.2.2.1, zv15, x.2.2.2.2.2.2.2.2.2.2.2.2.1, x.2.2.2.2.2.2.2.2.2.2.2.2.2))) H := hP
                    have hD : va_D A (w_X6 g a (x.1, x.2.1, x.2.2.1, x.2.2.2.1, x.2.2.2.2.1, zq14, zq13, (x.2.2.2.2.2.2.2.1, x.2.2.2.2.2.2.2.2.1, x.2.2.2.2.2.2.2.2.2.1, x.2.2.2.2.2.2.2.2.2.2.1, zv15, x.2.2.2.2.2.2.2.2.2.2.2.2.1, x.2.2.2.2.2.2.2.2.2.2.2.2.2))) := hD
                    refine lv_aload_n hx hb dX6_sell_151 rfl (lv_at hl 1 rfl) ?_
                    refine va_get (D := g.1) (ci := 5) (v := .ref (a 11)) (C := RX6) (T := TX6) (N := 8) hx hb htG in_wsX60 hown hK.1 hP 0 rfl rfl 6 (by decide) (htG _ g1_140) (fun _ h9 => h9) rfl dX6_sell_152 ?_
                    refine va_getN (D := g.1) (ci := 1) (v := .ref (a 12)) (C := RX1) (T := TX1) (N := 4) hx hb htG in_wsX10 hown hK.1 hP 11 rfl rfl 0 (by decide) (nw_7 hK) (fun _ h9 => h9) rfl dX6_sell_155 ?_
                    refine lv_iload hx hb dX6_sell_158 (lv_at hl 0 rfl) ?_
                    refine ko_e (va_runS (As := [.ref (a 12), .int zv7]) (rest := []) ⟨hx, hb, hml, hown, htG⟩ (kX4_at l g (a 12) zq13.1 6 zv7 (by decide)) (va_cwS 2 htG (GS g2_60 g2_61 g1_5 g2_62) rfl rfl rfl hs_X4_at ⟨Nat.le_of_ble_eq_true rfl, Nat.le_of_ble_eq_true rfl⟩) (PT_S hK (va_T_of hK hP 12 rfl)) rfl rfl hl.1 rfl (lv_room (Nat.le_of_ble_eq_true rfl)) dX6_sell_160 ⟨Nat.zero_le _, Nat.zero_le _⟩) ?_
                    exact W.iret (v := (rat zq13.1 6 zv7)) hx hb hr (fun t ht hW => ⟨⟨_, _, rfl, pr1 (Option.some.inj hm), atH ht hP⟩, hS.F ht⟩) hS.2.2 dX6_sell_163
                  · replace hm := (if_neg zc11).symm.trans hm
                    refine lv_bipush (v := (-6)) hx hb dX6_sell_98 (by decide +kernel) ?_
                    exact W.iret (v := (-6)) hx hb hr (fun t ht hW => ⟨⟨_, _, rfl, pr1 (Option.some.inj hm), atH ht hP⟩, hS.F ht⟩) hS.2.2 dX6_sell_100
                · replace hm := (if_pos zc9).symm.trans hm
                  refine lv_bipush (v := (-4)) hx hb dX6_sell_85 (by decide +kernel) ?_
                  exact W.iret (v := (-4)) hx hb hr (fun t ht hW => ⟨⟨_, _, rfl, pr1 (Option.some.inj hm), atH ht hP⟩, hS.F ht⟩) hS.2.2 dX6_sell_87
            · replace hm := (if_neg zc6).symm.trans hm
              refine lv_bipush (v := (-2)) hx hb dX6_sell_54 (by decide +kernel) ?_
              exact W.iret (v := (-2)) hx hb hr (fun t ht hW => ⟨⟨_, _, rfl, pr1 (Option.some.inj hm), atH ht hP⟩, hS.F ht⟩) hS.2.2 dX6_sell_56
      · replace hm := (if_pos zc3).symm.trans hm
        refine lv_iconst (v := (-1)) hx hb dX6_sell_30 (by decide) ?_
        exact W.iret (v := (-1)) hx hb hr (fun t ht hW => ⟨⟨_, _, rfl, pr1 (Option.some.inj hm), atH ht hP⟩, hS.F ht⟩) hS.2.2 dX6_sell_31
