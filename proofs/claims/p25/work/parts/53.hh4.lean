def fX8_firm (y : (Int32 × Int32 × Int32)) (xN : SD) (p1 : Int32) (p2 : Int32) : Option (Int32) := (if (fX8_isFirm p1) = 0 then some (-1) else (if p2 = 0 then some (rat xN.2.2.2.2.2.2.1.1 6 p1) else (if p2 = 1 then ((fX0_offeredBy xN.2.2.2.2.1 p1).bind (fun zq4 => some zq4)) else (if p2 = 2 then ((fX0_countOf xN.2.2.2.2.1 p1).bind (fun zq6 => some zq6)) else (if p2 = 3 then ((fX6_openAwards xN p1).bind (fun zq8 => some zq8)) else (if p2 = 4 then some (rat xN.2.2.2.2.2.2.1.2.1 6 p1) else (if p2 = 5 then some (rat xN.2.2.2.2.2.2.1.2.2.1 6 p1) else (if p2 = 6 then some (rat xN.2.2.2.2.2.2.1.2.2.2 6 p1) else some (-2)))))))))
abbrev rm_X8_firm : Jvm.Room := { frames := 3, cells := 0, slots := 0, locals := 67 }
theorem hd_X8_firm : yX8_firm.cls = RX8 ∧ yX8_firm.cls ≠ "java/lang/invoke/MethodHandle" ∧ yX8_firm.cls ≠ "java/lang/invoke/VarHandle" ∧ (parseMethodDescriptor yX8_firm.desc).map (fun d => d.parameters.length) = some 2 := by decide +kernel
set_option maxHeartbeats 4000000 in
set_option maxRecDepth 100000 in
theorem kX8_firm (l : Launch) (g : CX) (h0 jH jA jP jT : Nat) (aN aB aS : Nat → Nat) (y : (Int32 × Int32 × Int32)) (xN : SD) (p1 : Int32) (p2 : Int32) (res : Int32) (hm0 : fX8_firm y xN p1 p2 = some res) : Met l yX8_firm (wg yX8_firm cX8_firm 3 (some .int)) rm_X8_firm (PR g [.ref h0, .int p1, .int p2] ([w_hh g h0 jH jP aN aB aS y, w_X6 g aN xN].flatten)) (vp_Si (fun v => v = res)) 0 0 (fun _ => False) := by
  refine Met.ofW (cc := cX8_firm) (maxL := 3) (ret := (some .int)) (by decide) rfl ?_
  intro p e s m args below meth c s₁ B hml hv
  obtain ⟨rfl, hP, hK, hL⟩ := hv
  have hx := B.exec
  have hb := B.bytes
  have hr := B.returns
  have htG := wg_G (atoms_spec (ws := wg yX8_firm cX8_firm 3 (some .int)) B.pre)
  have hown : s.vm.findClass RX8 = some m.cls := findClass_of_methodNamed B.named
  have hlocks := B.notSynchronized
  have hS : va_S (fun _ => False) s.heap s.heap [] := va_S.rf
  have hl := lv_entry ([.ref h0, .int p1, .int p2]) (n := 3) (Nat.le_of_ble_eq_true rfl)
  rw [lg_entry_eq]
  generalize (lg_sl ([.ref h0, .int p1, .int p2]) ++ List.replicate (3 - (lg_sl ([.ref h0, .int p1, .int p2])).length) Slot.unset).toArray = ls at hl ⊢
  have hl : lv_has ls 3 [(0, .ref h0), (1, .int p1), (2, .int p2)] := hl
  have hm := hm0
  unfold fX8_firm at hm
  refine lv_iload_n hx hb dX8_firm_0 rfl (lv_at hl 1 rfl) ?_
  refine ko_e (va_runS (As := [.int p1]) (rest := []) ⟨hx, hb, hml, hown, htG⟩ (kX8_isFirm l g p1 _ rfl) (va_cwS 1 htG (GS g3_100 g2_92 g1_1 g2_93) rfl rfl rfl hs_X8_isFirm ⟨Nat.le_of_ble_eq_true rfl, Nat.le_of_ble_eq_true rfl⟩) (PR_S hK hL hS hP [] rfl) rfl rfl hl.1 rfl (lv_room (Nat.le_of_ble_eq_true rfl)) dX8_firm_1 ⟨Nat.zero_le _, Nat.zero_le _⟩) ?_
  refine lv_if_ne (tgt := 9) hx hb dX8_firm_4 (by decide) (fun zc1 => ?_) (fun zc1 => ?_)
  · replace hm := (if_neg zc1).symm.trans hm
    refine lv_iload_n hx hb dX8_firm_9 rfl (lv_at hl 2 rfl) ?_
    by_cases zc2 : p2 = 0
    · replace hm := (if_pos zc2).symm.trans hm
      refine lv_tableIn (tgt := 52) hx hb dX8_firm_10 (by rw [zc2]; decide) (by rw [zc2]; decide) (by rw [zc2]; rfl) (by decide) ?_
      refine lv_aload_n hx hb dX8_firm_52 rfl (lv_at hl 0 rfl) ?_
      refine va_get (D := g.1) (ci := 7) (v := .ref (aN 0)) (C := RX8) (T := TX8) (N := 8) hx hb htG in_wsX80 hown hK.1 hP 0 rfl rfl 0 (by decide) (htG _ g1_224) (fun _ h9 => h9) rfl dX8_firm_53 ?_
      refine va_getN (D := g.1) (ci := 5) (v := .ref (aN 11)) (C := RX6) (T := TX6) (N := 8) hx hb htG in_wsX60 hown hK.1 hP 1 rfl rfl 6 (by decide) (nw_25 hK) (fun _ h9 => h9) rfl dX8_firm_56 ?_
      refine va_getN (D := g.1) (ci := 1) (v := .ref (aN 12)) (C := RX1) (T := TX1) (N := 4) hx hb htG in_wsX10 hown hK.1 hP 12 rfl rfl 0 (by decide) (nw_8 hK) (fun _ h9 => h9) rfl dX8_firm_59 ?_
      refine lv_iload_n hx hb dX8_firm_62 rfl (lv_at hl 1 rfl) ?_
      refine ko_e (va_runS (As := [.ref (aN 12), .int p1]) (rest := []) ⟨hx, hb, hml, hown, htG⟩ (kX4_at l g (aN 12) xN.2.2.2.2.2.2.1.1 6 p1 (by decide)) (va_cwS 2 htG (GS g2_121 g2_61 g1_5 g2_62) rfl rfl rfl hs_X4_at ⟨Nat.le_of_ble_eq_true rfl, Nat.le_of_ble_eq_true rfl⟩) (PT_S hK (va_T_of hK hP 13 rfl)) rfl rfl hl.1 rfl (lv_room (Nat.le_of_ble_eq_true rfl)) dX8_firm_63 ⟨Nat.zero_le _, Nat.zero_le _⟩) ?_
      exact W.iret (v := (rat xN.2.2.2.2.2.2.1.1 6 p1)) hx hb hr (fun t ht hW => ⟨_, rfl, (Option.some.inj hm), ht⟩) (fun _ h => nomatch h) dX8_firm_66
    · replace hm := (if_neg zc2).symm.trans hm
      by_cases zc3 : p2 = 1
      · replace hm := (if_pos zc3).symm.trans hm
        refine lv_tableIn (tgt := 67) hx hb dX8_firm_10 (by rw [zc3]; decide) (by rw [zc3]; decide) (by rw [zc3]; rfl) (by decide) ?_
        refine lv_aload_n hx hb dX8_firm_67 rfl (lv_at hl 0 rfl) ?_
        refine va_get (D := g.1) (ci := 7) (v := .ref (aN 0)) (C := RX8) (T := TX8) (N := 8) hx hb htG in_wsX80 hown hK.1 hP 0 rfl rfl 0 (by decide) (htG _ g1_224) (fun _ h9 => h9) rfl dX8_firm_68 ?_
        refine va_getN (D := g.1) (ci := 5) (v := .ref (aN 3)) (C := RX6) (T := TX6) (N := 8) hx hb htG in_wsX60 hown hK.1 hP 1 rfl rfl 4 (by decide) (nw_23 hK) (fun _ h9 => h9) rfl dX8_firm_71 ?_
        refine lv_iload_n hx hb dX8_firm_74 rfl (lv_at hl 1 rfl) ?_
        obtain ⟨zq4, hzq4, hm⟩ := bdk hm
        refine ko_e (va_runV (As := [.int p1]) (rest := []) ⟨hx, hb, hml, hown, htG⟩ (kX0_offeredBy l g (aN 3) (aN 4) (aN 5) xN.2.2.2.2.1 p1 _ hzq4) (cwV 1 htG (GV g3_101 g2_147 g2_148 g1_3 g2_149) rfl rfl rfl hd_X0_offeredBy ⟨Nat.le_of_ble_eq_true rfl, Nat.le_of_ble_eq_true rfl⟩) (PR_V hK hL hS hP [4, 5, 6] rfl (ci := 0) rfl 4 rfl) rfl rfl hl.1 rfl (lv_room (Nat.le_of_ble_eq_true rfl)) dX8_firm_75 ⟨Nat.zero_le _, Nat.zero_le _⟩) ?_
        exact W.iret (v := zq4) hx hb hr (fun t ht hW => ⟨_, rfl, (Option.some.inj hm), ht⟩) (fun _ h => nomatch h) dX8_firm_78
      · replace hm := (if_neg zc3).symm.trans hm
        by_cases zc5 : p2 = 2
        · replace hm := (if_pos zc5).symm.trans hm
          refine lv_tableIn (tgt := 79) hx hb dX8_firm_10 (by rw [zc5]; decide) (by rw [zc5]; decide) (by rw [zc5]; rfl) (by decide) ?_
          refine lv_aload_n hx hb dX8_firm_79 rfl (lv_at hl 0 rfl) ?_
          refine va_get (D := g.1) (ci := 7) (v := .ref (aN 0)) (C := RX8) (T := TX8) (N := 8) hx hb htG in_wsX80 hown hK.1 hP 0 rfl rfl 0 (by decide) (htG _ g1_224) (fun _ h9 => h9) rfl dX8_firm_80 ?_
          refine va_getN (D := g.1) (ci := 5) (v := .ref (aN 3)) (C := RX6) (T := TX6) (N := 8) hx hb htG in_wsX60 hown hK.1 hP 1 rfl rfl 4 (by decide) (nw_23 hK) (fun _ h9 => h9) rfl dX8_firm_83 ?_
          refine lv_iload_n hx hb dX8_firm_86 rfl (lv_at hl 1 rfl) ?_
          obtain ⟨zq6, hzq6, hm⟩ := bdk hm
          refine ko_e (va_runV (As := [.int p1]) (rest := []) ⟨hx, hb, hml, hown, htG⟩ (kX0_countOf l g (aN 3) (aN 4) (aN 5) xN.2.2.2.2.1 p1 _ hzq6) (cwV 1 htG (GV g3_102 g2_155 g2_156 g1_3 g2_157) rfl rfl rfl hd_X0_countOf ⟨Nat.le_of_ble_eq_true rfl, Nat.le_of_ble_eq_true rfl⟩) (PR_V hK hL hS hP [4, 5, 6] rfl (ci := 0) rfl 4 rfl) rfl rfl hl.1 rfl (lv_room (Nat.le_of_ble_eq_true rfl)) dX8_firm_87 ⟨Nat.zero_le _, Nat.zero_le _⟩) ?_
          exact W.iret (v := zq6) hx hb hr (fun t ht hW => ⟨_, rfl, (Option.some.inj hm), ht⟩) (fun _ h => nomatch h) dX8_firm_90
        · replace hm := (if_neg zc5).symm.trans hm
          by_cases zc7 : p2 = 3
          · replace hm := (if_pos zc7).symm.trans hm
            refine lv_tableIn (tgt := 91) hx hb dX8_firm_10 (by rw [zc7]; decide) (by rw [zc7]; decide) (by rw [zc7]; rfl) (by decide) ?_
            refine lv_aload_n hx hb dX8_firm_91 rfl (lv_at hl 0 rfl) ?_
            refine va_get (D := g.1) (ci := 7) (v := .ref (aN 0)) (C := RX8) (T := TX8) (N := 8) hx hb htG in_wsX80 hown hK.1 hP 0 rfl rfl 0 (by decide) (htG _ g1_224) (fun _ h9 => h9) rfl dX8_firm_92 ?_
            refine lv_iload_n hx hb dX8_firm_95 rfl (lv_at hl 1 rfl) ?_
            obtain ⟨zq8, hzq8, hm⟩ := bdk hm
            refine ko_e (va_runV (As := [.int p1]) (rest := []) ⟨hx, hb, hml, hown, htG⟩ (kX6_openAwards l g aN xN p1 _ hzq8) (cwV 1 htG (GV g3_103 g3_104 g3_105 g1_2 g3_106) rfl rfl rfl hd_X6_openAwards ⟨Nat.le_of_ble_eq_true rfl, Nat.le_of_ble_eq_true rfl⟩) (PR_V hK hL hS hP [1, 2, 3, 4, 5, 6, 7, 8, 9, 10, 11, 12, 13, 14, 15, 16, 17, 18] rfl (ci := 5) rfl 1 rfl) rfl rfl hl.1 rfl (lv_room (Nat.le_of_ble_eq_true rfl)) dX8_firm_96 ⟨Nat.zero_le _, Nat.zero_le _⟩) ?_
            exact W.iret (v := zq8) hx hb hr (fun t ht hW => ⟨_, rfl, (Option.some.inj hm), ht⟩) (fun _ h => nomatch h) dX8_firm_99
          · replace hm := (if_neg zc7).symm.trans hm
            by_cases zc9 : p2 = 4
            · replace hm := (if_pos zc9).symm.trans hm
              refine lv_tableIn (tgt := 100) hx hb dX8_firm_10 (by rw [zc9]; decide) (by rw [zc9]; decide) (by rw [zc9]; rfl) (by decide) ?_
              refine lv_aload_n hx hb dX8_firm_100 rfl (lv_at hl 0 rfl) ?_
              refine va_get (D := g.1) (ci := 7) (v := .ref (aN 0)) (C := RX8) (T := TX8) (N := 8) hx hb htG in_wsX80 hown hK.1 hP 0 rfl rfl 0 (by decide) (htG _ g1_224) (fun _ h9 => h9) rfl dX8_firm_101 ?_
              refine va_getN (D := g.1) (ci := 5) (v := .ref (aN 11)) (C := RX6) (T := TX6) (N := 8) hx hb htG in_wsX60 hown hK.1 hP 1 rfl rfl 6 (by decide) (nw_25 hK) (fun _ h9 => h9) rfl dX8_firm_104 ?_
              refine va_getN (D := g.1) (ci := 1) (v := .ref (aN 13)) (C := RX1) (T := TX1) (N := 4) hx hb htG in_wsX10 hown hK.1 hP 12 rfl rfl 1 (by decide) (nw_10 hK) (fun _ h9 => h9) rfl dX8_firm_107 ?_
              refine lv_iload_n hx hb dX8_firm_110 rfl (lv_at hl 1 rfl) ?_
              refine ko_e (va_runS (As := [.ref (aN 13), .int p1]) (rest := []) ⟨hx, hb, hml, hown, htG⟩ (kX4_at l g (aN 13) xN.2.2.2.2.2.2.1.2.1 6 p1 (by decide)) (va_cwS 2 htG (GS g2_121 g2_61 g1_5 g2_62) rfl rfl rfl hs_X4_at ⟨Nat.le_of_ble_eq_true rfl, Nat.le_of_ble_eq_true rfl⟩) (PT_S hK (va_T_of hK hP 14 rfl)) rfl rfl hl.1 rfl (lv_room (Nat.le_of_ble_eq_true rfl)) dX8_firm_111 ⟨Nat.zero_le _, Nat.zero_le _⟩) ?_
              exact W.iret (v := (rat xN.2.2.2.2.2.2.1.2.1 6 p1)) hx hb hr (fun t ht hW => ⟨_, rfl, (Option.some.inj hm), ht⟩) (fun _ h => nomatch h) dX8_firm_114
            · replace hm := (if_neg zc9).symm.trans hm
              by_cases zc10 : p2 = 5
              · replace hm := (if_pos zc10).symm.trans hm
                refine lv_tableIn (tgt := 115) hx hb dX8_firm_10 (by rw [zc10]; decide) (by rw [zc10]; decide) (by rw [zc10]; rfl) (by decide) ?_
                refine lv_aload_n hx hb dX8_firm_115 rfl (lv_at hl 0 rfl) ?_
                refine va_get (D := g.1) (ci := 7) (v := .ref (aN 0)) (C := RX8) (T := TX8) (N := 8) hx hb htG in_wsX80 hown hK.1 hP 0 rfl rfl 0 (by decide) (htG _ g1_224) (fun _ h9 => h9) rfl dX8_firm_116 ?_
                refine va_getN (D := g.1) (ci := 5) (v := .ref (aN 11)) (C := RX6) (T := TX6) (N := 8) hx hb htG in_wsX60 hown hK.1 hP 1 rfl rfl 6 (by decide) (nw_25 hK) (fun _ h9 => h9) rfl dX8_firm_119 ?_
                refine va_getN (D := g.1) (ci := 1) (v := .ref (aN 14)) (C := RX1) (T := TX1) (N := 4) hx hb htG in_wsX10 hown hK.1 hP 12 rfl rfl 2 (by decide) (nw_11 hK) (fun _ h9 => h9) rfl dX8_firm_122 ?_
                refine lv_iload_n hx hb dX8_firm_125 rfl (lv_at hl 1 rfl) ?_
                refine ko_e (va_runS (As := [.ref (aN 14), .int p1]) (rest := []) ⟨hx, hb, hml, hown, htG⟩ (kX4_at l g (aN 14) xN.2.2.2.2.2.2.1.2.2.1 6 p1 (by decide)) (va_cwS 2 htG (GS g2_121 g2_61 g1_5 g2_62) rfl rfl rfl hs_X4_at ⟨Nat.le_of_ble_eq_true rfl, Nat.le_of_ble_eq_true rfl⟩) (PT_S hK (va_T_of hK hP 15 rfl)) rfl rfl hl.1 rfl (lv_room (Nat.le_of_ble_eq_true rfl)) dX8_firm_126 ⟨Nat.zero_le _, Nat.zero_le _⟩) ?_
                exact W.iret (v := (rat xN.2.2.2.2.2.2.1.2.2.1 6 p1)) hx hb hr (fun t ht hW => ⟨_, rfl, (Option.some.inj hm), ht⟩) (fun _ h => nomatch h) dX8_firm_129
              · replace hm := (if_neg zc10).symm.trans hm
                by_cases zc11 : p2 = 6
                · replace hm := (if_pos zc11).symm.trans hm
                  refine lv_tableIn (tgt := 130) hx hb dX8_firm_10 (by rw [zc11]; decide) (by rw [zc11]; decide) (by rw [zc11]; rfl) (by decide) ?_
                  refine lv_aload_n hx hb dX8_firm_130 rfl (lv_at hl 0 rfl) ?_
                  refine va_get (D := g.1) (ci := 7) (v := .ref (aN 0)) (C := RX8) (T := TX8) (N := 8) hx hb htG in_wsX80 hown hK.1 hP 0 rfl rfl 0 (by decide) (htG _ g1_224) (fun _ h9 => h9) rfl dX8_firm_131 ?_
                  refine va_getN (D := g.1) (ci := 5) (v := .ref (aN 11)) (C := RX6) (T := TX6) (N := 8) hx hb htG in_wsX60 hown hK.1 hP 1 rfl rfl 6 (by decide) (nw_25 hK) (fun _ h9 => h9) rfl dX8_firm_134 ?_
                  refine va_getN (D := g.1) (ci := 1) (v := .ref (aN 15)) (C := RX1) (T := TX1) (N := 4) hx hb htG in_wsX10 hown hK.1 hP 12 rfl rfl 3 (by decide) (nw_12 hK) (fun _ h9 => h9) rfl dX8_firm_137 ?_
                  refine lv_iload_n hx hb dX8_firm_140 rfl (lv_at hl 1 rfl) ?_
                  refine ko_e (va_runS (As := [.ref (aN 15), .int p1]) (rest := []) ⟨hx, hb, hml, hown, htG⟩ (kX4_at l g (aN 15) xN.2.2.2.2.2.2.1.2.2.2 6 p1 (by decide)) (va_cwS 2 htG (GS g2_121 g2_61 g1_5 g2_62) rfl rfl rfl hs_X4_at ⟨Nat.le_of_ble_eq_true rfl, Nat.le_of_ble_eq_true rfl⟩) (PT_S hK (va_T_of hK hP 16 rfl)) rfl rfl hl.1 rfl (lv_room (Nat.le_of_ble_eq_true rfl)) dX8_firm_141 ⟨Nat.zero_le _, Nat.zero_le _⟩) ?_
                  exact W.iret (v := (rat xN.2.2.2.2.2.2.1.2.2.2 6 p1)) hx hb hr (fun t ht hW => ⟨_, rfl, (Option.some.inj hm), ht⟩) (fun _ h => nomatch h) dX8_firm_144
                · replace hm := (if_neg zc11).symm.trans hm
                  have ezc2 : p2.toInt ≠ 0 := fun e => zc2 (Int32.toInt_inj.mp (e.trans (by decide)))
                  have ezc3 : p2.toInt ≠ 1 := fun e => zc3 (Int32.toInt_inj.mp (e.trans (by decide)))
                  have ezc5 : p2.toInt ≠ 2 := fun e => zc5 (Int32.toInt_inj.mp (e.trans (by decide)))
                  have ezc7 : p2.toInt ≠ 3 := fun e => zc7 (Int32.toInt_inj.mp (e.trans (by decide)))
                  have ezc9 : p2.toInt ≠ 4 := fun e => zc9 (Int32.toInt_inj.mp (e.trans (by decide)))
                  have ezc10 : p2.toInt ≠ 5 := fun e => zc10 (Int32.toInt_inj.mp (e.trans (by decide)))
                  have ezc11 : p2.toInt ≠ 6 := fun e => zc11 (Int32.toInt_inj.mp (e.trans (by decide)))
                  refine lv_tableOut (tgt := 145) hx hb dX8_firm_10 (by omega) (by decide) ?_
                  refine lv_bipush (v := (-2)) hx hb dX8_firm_145 (by decide +kernel) ?_
                  exact W.iret (v := (-2)) hx hb hr (fun t ht hW => ⟨_, rfl, (Option.some.inj hm), ht⟩) (fun _ h => nomatch h) dX8_firm_147
  · replace hm := (if_pos zc1).symm.trans hm
    refine lv_iconst (v := (-1)) hx hb dX8_firm_7 (by decide) ?_
    exact W.iret (v := (-1)) hx hb hr (fun t ht hW => ⟨_, rfl, (Option.some.inj hm), ht⟩) (fun _ h => nomatch h) dX8_firm_8
def fX8_slot (y : (Int32 × Int32 × Int32)) (xN : SD) (p1 : Int32) (p2 : Int32) (p3 : Int32) : Option (Int32) := (if (fX8_isSlot p1 p2) = 0 then some (-1) else (if p3 = 0 then some (fX5_ownerOf xN.2.2.2.2.2.1 (fX8_slotOf p1 p2)) else (if p3 = 1 then some (rat xN.2.2.2.2.2.1.2.1 48 (fX8_slotOf p1 p2)) else (if p3 = 2 then some (rat xN.2.2.2.2.2.1.2.2.1 48 (fX8_slotOf p1 p2)) else (if p3 = 3 then ((fX0_countFor xN.2.2.2.2.1 (fX8_slotOf p1 p2)).bind (fun zq6 => some zq6)) else (if p3 = 4 then ((fX0_highest xN.2.2.2.2.1 (fX8_slotOf p1 p2) 60 (-5)).bind (fun zq8 => some zq8)) else (if p3 = 5 then (if (fX6_isOver xN p2) = 0 then some 0 else some 1) else (if p3 = 6 then (if (fX6_isOver xN p2) = 0 then some (-5) else some (rat xN.2.2.2.2.2.1.2.2.2 48 (fX8_slotOf p1 p2))) else some (-2)))))))))
abbrev rm_X8_slot : Jvm.Room := { frames := 2, cells := 0, slots := 0, locals := 48 }
theorem hd_X8_slot : yX8_slot.cls = RX8 ∧ yX8_slot.cls ≠ "java/lang/invoke/MethodHandle" ∧ yX8_slot.cls ≠ "java/lang/invoke/VarHandle" ∧ (parseMethodDescriptor yX8_slot.desc).map (fun d => d.parameters.length) = some 3 := by decide +kernel
set_option maxHeartbeats 4000000 in
set_option maxRecDepth 100000 in
theorem kX8_slot (l : Launch) (g : CX) (h0 jH jA jP jT : Nat) (aN aB aS : Nat → Nat) (y : (Int32 × Int32 × Int32)) (xN : SD) (p1 : Int32) (p2 : Int32) (p3 : Int32) (res : Int32) (hm0 : fX8_slot y xN p1 p2 p3 = some res) : Met l yX8_slot (wg yX8_slot cX8_slot 5 (some .int)) rm_X8_slot (PR g [.ref h0, .int p1, .int p2, .int p3] ([w_hh g h0 jH jP aN aB aS y, w_X6 g aN xN].flatten)) (vp_Si (fun v => v = res)) 0 0 (fun _ => False) := by
  refine Met.ofW (cc := cX8_slot) (maxL := 5) (ret := (some .int)) (by decide) rfl ?_
  intro p e s m args below meth c s₁ B hml hv
  obtain ⟨rfl, hP, hK, hL⟩ := hv
  have hx := B.exec
  have hb := B.bytes
  have hr := B.returns
  have htG := wg_G (atoms_spec (ws := wg yX8_slot cX8_slot 5 (some .int)) B.pre)
  have hown : s.vm.findClass RX8 = some m.cls := findClass_of_methodNamed B.named
  have hlocks := B.notSynchronized
  have hS : va_S (fun _ => False) s.heap s.heap [] := va_S.rf
  have hl := lv_entry ([.ref h0, .int p1, .int p2, .int p3]) (n := 5) (Nat.le_of_ble_eq_true rfl)
  rw [lg_entry_eq]
  generalize (lg_sl ([.ref h0, .int p1, .int p2, .int p3]) ++ List.replicate (5 - (lg_sl ([.ref h0, .int p1, .int p2, .int p3])).length) Slot.unset).toArray = ls at hl ⊢
  have hl : lv_has ls 5 [(0, .ref h0), (1, .int p1), (2, .int p2), (3, .int p3)] := hl
  have hm := hm0
  unfold fX8_slot at hm
  refine lv_iload_n hx hb dX8_slot_0 rfl (lv_at hl 1 rfl) ?_
  refine lv_iload_n hx hb dX8_slot_1 rfl (lv_at hl 2 rfl) ?_
  refine ko_e (va_runS (As := [.int p1, .int p2]) (rest := []) ⟨hx, hb, hml, hown, htG⟩ (kX8_isSlot l g p1 p2 _ rfl) (va_cwS 2 htG (GS g3_111 g2_110 g1_1 g2_111) rfl rfl rfl hs_X8_isSlot ⟨Nat.le_of_ble_eq_true rfl, Nat.le_of_ble_eq_true rfl⟩) (PR_S hK hL hS hP [] rfl) rfl rfl hl.1 rfl (lv_room (Nat.le_of_ble_eq_true rfl)) dX8_slot_2 ⟨Nat.zero_le _, Nat.zero_le _⟩) ?_
  refine lv_if_ne (tgt := 10) hx hb dX8_slot_5 (by decide) (fun zc1 => ?_) (fun zc1 => ?_)
  · replace hm := (if_neg zc1).symm.trans hm
    refine lv_iload_n hx hb dX8_slot_10 rfl (lv_at hl 1 rfl) ?_
    refine lv_iload_n hx hb dX8_slot_11 rfl (lv_at hl 2 rfl) ?_
    refine ko_e (va_runS (As := [.int p1, .int p2]) (rest := []) ⟨hx, hb, hml, hown, htG⟩ (kX8_slotOf l g p1 p2 _ rfl) (va_cwS 2 htG (GS g3_112 g2_127 g1_1 g2_128) rfl rfl rfl hs_X8_slotOf ⟨Nat.le_of_ble_eq_true rfl, Nat.le_of_ble_eq_true rfl⟩) (PR_S hK hL hS hP [] rfl) rfl rfl hl.1 rfl (lv_room (Nat.le_of_ble_eq_true rfl)) dX8_slot_12 ⟨Nat.zero_le _, Nat.zero_le _⟩) ?_
    refine lv_istore (lv' := [(4, .int (fX8_slotOf p1 p2)), (0, .ref h0), (1, .int p1), (2, .int p2), (3, .int p3)]) hx hb dX8_slot_15 hl (by decide) rfl (fun ls hl => ?_)
    refine lv_iload_n hx hb dX8_slot_17 rfl (lv_at hl 4 rfl) ?_
    by_cases zc2 : p3 = 0
    · replace hm := (if_pos zc2).symm.trans hm
      refine lv_tableIn (tgt := 60) hx hb dX8_slot_18 (by rw [zc2]; decide) (by rw [zc2]; decide) (by rw [zc2]; rfl) (by decide) ?_
      refine lv_aload_n hx hb dX8_slot_60 rfl (lv_at hl 1 rfl) ?_
      refine va_get (D := g.1) (ci := 7) (v := .ref (aN 0)) (C := RX8) (T := TX8) (N := 8) hx hb htG in_wsX80 hown hK.1 hP 0 rfl rfl 0 (by decide) (htG _ g1_224) (fun _ h9 => h9) rfl dX8_slot_61 ?_
      refine va_getN (D := g.1) (ci := 5) (v := .ref (aN 6)) (C := RX6) (T := TX6) (N := 8) hx hb htG in_wsX60 hown hK.1 hP 1 rfl rfl 5 (by decide) (nw_24 hK) (fun _ h9 => h9) rfl dX8_slot_64 ?_
      refine lv_iload hx hb dX8_slot_67 (lv_at hl 0 rfl) ?_
      refine ko_e (va_runV (As := [.int (fX8_slotOf p1 p2)]) (rest := []) ⟨hx, hb, hml, hown, htG⟩ (kX5_ownerOf l g (aN 6) (aN 7) (aN 8) (aN 9) (aN 10) xN.2.2.2.2.2.1 (fX8_slotOf p1 p2) _ rfl) (cwV 1 htG (GV g3_113 g2_238 g2_239 g1_4 g3_0) rfl rfl rfl hd_X5_ownerOf ⟨Nat.le_of_ble_eq_true rfl, Nat.le_of_ble_eq_true rfl⟩) (PR_V hK hL hS hP [7, 8, 9, 10, 11] rfl (ci := 4) rfl 7 rfl) rfl rfl hl.1 rfl (lv_room (Nat.le_of_ble_eq_true rfl)) dX8_slot_69 ⟨Nat.zero_le _, Nat.zero_le _⟩) ?_
      exact W.iret (v := (fX5_ownerOf xN.2.2.2.2.2.1 (fX8_slotOf p1 p2))) hx hb hr (fun t ht hW => ⟨_, rfl, (Option.some.inj hm), ht⟩) (fun _ h => nomatch h) dX8_slot_72
    · replace hm := (if_neg zc2).symm.trans hm
      by_cases zc3 : p3 = 1
      · replace hm := (if_pos zc3).symm.trans hm
        refine lv_tableIn (tgt := 73) hx hb dX8_slot_18 (by rw [zc3]; decide) (by rw [zc3]; decide) (by rw [zc3]; rfl) (by decide) ?_
        refine lv_aload_n hx hb dX8_slot_73 rfl (lv_at hl 1 rfl) ?_
        refine va_get (D := g.1) (ci := 7) (v := .ref (aN 0)) (C := RX8) (T := TX8) (N := 8) hx hb htG in_wsX80 hown hK.1 hP 0 rfl rfl 0 (by decide) (htG _ g1_224) (fun _ h9 => h9) rfl dX8_slot_74 ?_
        refine va_getN (D := g.1) (ci := 5) (v := .ref (aN 6)) (C := RX6) (T := TX6) (N := 8) hx hb htG in_wsX60 hown hK.1 hP 1 rfl rfl 5 (by decide) (nw_24 hK) (fun _ h9 => h9) rfl dX8_slot_77 ?_
        refine va_getN (D := g.1) (ci := 4) (v := .ref (aN 8)) (C := RX5) (T := TX5) (N := 4) hx hb htG in_wsX50 hown hK.1 hP 7 rfl rfl 1 (by decide) (nw_2 hK) (fun _ h9 => h9) rfl dX8_slot_80 ?_
        refine lv_iload hx hb dX8_slot_83 (lv_at hl 0 rfl) ?_
        refine ko_e (va_runS (As := [.ref (aN 8), .int (fX8_slotOf p1 p2)]) (rest := []) ⟨hx, hb, hml, hown, htG⟩ (kX4_at l g (aN 8) xN.2.2.2.2.2.1.2.1 48 (fX8_slotOf p1 p2) (by decide)) (va_cwS 2 htG (GS g2_121 g2_61 g1_5 g2_62) rfl rfl rfl hs_X4_at ⟨Nat.le_of_ble_eq_true rfl, Nat.le_of_ble_eq_true rfl⟩) (PT_S hK (va_T_of hK hP 9 rfl)) rfl rfl hl.1 rfl (lv_room (Nat.le_of_ble_eq_true rfl)) dX8_slot_85 ⟨Nat.zero_le _, Nat.zero_le _⟩) ?_
        exact W.iret (v := (rat xN.2.2.2.2.2.1.2.1 48 (fX8_slotOf p1 p2))) hx hb hr (fun t ht hW => ⟨_, rfl, (Option.some.inj hm), ht⟩) (fun _ h => nomatch h) dX8_slot_88
      · replace hm := (if_neg zc3).symm.trans hm
        by_cases zc4 : p3 = 2
        · replace hm := (if_pos zc4).symm.trans hm
          refine lv_tableIn (tgt := 89) hx hb dX8_slot_18 (by rw [zc4]; decide) (by rw [zc4]; decide) (by rw [zc4]; rfl) (by decide) ?_
          refine lv_aload_n hx hb dX8_slot_89 rfl (lv_at hl 1 rfl) ?_
          refine va_get (D := g.1) (ci := 7) (v := .ref (aN 0)) (C := RX8) (T := TX8) (N := 8) hx hb htG in_wsX80 hown hK.1 hP 0 rfl rfl 0 (by decide) (htG _ g1_224) (fun _ h9 => h9) rfl dX8_slot_90 ?_
          refine va_getN (D := g.1) (ci := 5) (v := .ref (aN 6)) (C := RX6) (T := TX6) (N := 8) hx hb htG in_wsX60 hown hK.1 hP 1 rfl rfl 5 (by decide) (nw_24 hK) (fun _ h9 => h9) rfl dX8_slot_93 ?_
          refine va_getN (D := g.1) (ci := 4) (v := .ref (aN 9)) (C := RX5) (T := TX5) (N := 4) hx hb htG in_wsX50 hown hK.1 hP 7 rfl rfl 2 (by decide) (nw_4 hK) (fun _ h9 => h9) rfl dX8_slot_96 ?_
          refine lv_iload hx hb dX8_slot_99 (lv_at hl 0 rfl) ?_
          refine ko_e (va_runS (As := [.ref (aN 9), .int (fX8_slotOf p1 p2)]) (rest := []) ⟨hx, hb, hml, hown, htG⟩ (kX4_at l g (aN 9) xN.2.2.2.2.2.1.2.2.1 48 (fX8_slotOf p1 p2) (by decide)) (va_cwS 2 htG (GS g2_121 g2_61 g1_5 g2_62) rfl rfl rfl hs_X4_at ⟨Nat.le_of_ble_eq_true rfl, Nat.le_of_ble_eq_true rfl⟩) (PT_S hK (va_T_of hK hP 10 rfl)) rfl rfl hl.1 rfl (lv_room (Nat.le_of_ble_eq_true rfl)) dX8_slot_101 ⟨Nat.zero_le _, Nat.zero_le _⟩) ?_
          exact W.iret (v := (rat xN.2.2.2.2.2.1.2.2.1 48 (fX8_slotOf p1 p2))) hx hb hr (fun t ht hW => ⟨_, rfl, (Option.some.inj hm), ht⟩) (fun _ h => nomatch h) dX8_slot_104
        · replace hm := (if_neg zc4).symm.trans hm
          by_cases zc5 : p3 = 3
          · replace hm := (if_pos zc5).symm.trans hm
            refine lv_tableIn (tgt := 105) hx hb dX8_slot_18 (by rw [zc5]; decide) (by rw [zc5]; decide) (by rw [zc5]; rfl) (by decide) ?_
            refine lv_aload_n hx hb dX8_slot_105 rfl (lv_at hl 1 rfl) ?_
            refine va_get (D := g.1) (ci := 7) (v := .ref (aN 0)) (C := RX8) (T := TX8) (N := 8) hx hb htG in_wsX80 hown hK.1 hP 0 rfl rfl 0 (by decide) (htG _ g1_224) (fun _ h9 => h9) rfl dX8_slot_106 ?_
            refine va_getN (D := g.1) (ci := 5) (v := .ref (aN 3)) (C := RX6) (T := TX6) (N := 8) hx hb htG in_wsX60 hown hK.1 hP 1 rfl rfl 4 (by decide) (nw_23 hK) (fun _ h9 => h9) rfl dX8_slot_109 ?_
            refine lv_iload hx hb dX8_slot_112 (lv_at hl 0 rfl) ?_
            obtain ⟨zq6, hzq6, hm⟩ := bdk hm
            refine ko_e (va_runV (As := [.int (fX8_slotOf p1 p2)]) (rest := []) ⟨hx, hb, hml, hown, htG⟩ (kX0_countFor l g (aN 3) (aN 4) (aN 5) xN.2.2.2.2.1 (fX8_slotOf p1 p2) _ hzq6) (cwV 1 htG (GV g3_114 g2_164 g2_165 g1_3 g2_166) rfl rfl rfl hd_X0_countFor ⟨Nat.le_of_ble_eq_true rfl, Nat.le_of_ble_eq_true rfl⟩) (PR_V hK hL hS hP [4, 5, 6] rfl (ci := 0) rfl 4 rfl) rfl rfl hl.1 rfl (lv_room (Nat.le_of_ble_eq_true rfl)) dX8_slot_114 ⟨Nat.zero_le _, Nat.zero_le _⟩) ?_
            exact W.iret (v := zq6) hx hb hr (fun t ht hW => ⟨_, rfl, (Option.some.inj hm), ht⟩) (fun _ h => nomatch h) dX8_slot_117
          · replace hm := (if_neg zc5).symm.trans hm
            by_cases zc7 : p3 = 4
            · replace hm := (if_pos zc7).symm.trans hm
              refine lv_tableIn (tgt := 118) hx hb dX8_slot_18 (by rw [zc7]; decide) (by rw [zc7]; decide) (by rw [zc7]; rfl) (by decide) ?_
              refine lv_aload_n hx hb dX8_slot_118 rfl (lv_at hl 1 rfl) ?_
              refine va_get (D := g.1) (ci := 7) (v := .ref (aN 0)) (C := RX8) (T := TX8) (N := 8) hx hb htG in_wsX80 hown hK.1 hP 0 rfl rfl 0 (by decide) (htG _ g1_224) (fun _ h9 => h9) rfl dX8_slot_119 ?_
              refine va_getN (D := g.1) (ci := 5) (v := .ref (aN 3)) (C := RX6) (T := TX6) (N := 8) hx hb htG in_wsX60 hown hK.1 hP 1 rfl rfl 4 (by decide) (nw_23 hK) (fun _ h9 => h9) rfl dX8_slot_122 ?_
              refine lv_iload hx hb dX8_slot_125 (lv_at hl 0 rfl) ?_
              refine lv_bipush (v := 60) hx hb dX8_slot_127 (by decide +kernel) ?_
              refine lv_bipush (v := (-5)) hx hb dX8_slot_129 (by decide +kernel) ?_
              obtain ⟨zq8, hzq8, hm⟩ := bdk hm
              refine ko_e (va_runV (As := [.int (fX8_slotOf p1 p2), .int 60, .int (-5)]) (rest := []) ⟨hx, hb, hml, hown, htG⟩ (kX0_highest l g (aN 3) (aN 4) (aN 5) xN.2.2.2.2.1 (fX8_slotOf p1 p2) 60 (-5) _ hzq8) (cwV 3 htG (GV g3_115 g2_208 g2_209 g1_3 g2_210) rfl rfl rfl hd_X0_highest ⟨Nat.le_of_ble_eq_true rfl, Nat.le_of_ble_eq_true rfl⟩) (PR_V hK hL hS hP [4, 5, 6] rfl (ci := 0) rfl 4 rfl) rfl rfl hl.1 rfl (lv_room (Nat.le_of_ble_eq_true rfl)) dX8_slot_131 ⟨Nat.zero_le _, Nat.zero_le _⟩) ?_
              exact W.iret (v := zq8) hx hb hr (fun t ht hW => ⟨_, rfl, (Option.some.inj hm), ht⟩) (fun _ h => nomatch h) dX8_slot_134
            · replace hm := (if_neg zc7).symm.trans hm
              by_cases zc9 : p3 = 5
              · replace hm := (if_pos zc9).symm.trans hm
                refine lv_tableIn (tgt := 135) hx hb dX8_slot_18 (by rw [zc9]; decide) (by rw [zc9]; decide) (by rw [zc9]; rfl) (by decide) ?_
                refine lv_aload_n hx hb dX8_slot_135 rfl (lv_at hl 1 rfl) ?_
                refine va_get (D := g.1) (ci := 7) (v := .ref (aN 0)) (C := RX8) (T := TX8) (N := 8) hx hb htG in_wsX80 hown hK.1 hP 0 rfl rfl 0 (by decide) (htG _ g1_224) (fun _ h9 => h9) rfl dX8_slot_136 ?_
                refine lv_iload_n hx hb dX8_slot_139 rfl (lv_at hl 3 rfl) ?_
                refine ko_e (va_runV (As := [.int p2]) (rest := []) ⟨hx, hb, hml, hown, htG⟩ (kX6_isOver l g aN xN p2 _ rfl) (cwV 1 htG (GV g3_116 g2_57 g2_58 g1_2 g2_59) rfl rfl rfl hd_X6_isOver ⟨Nat.le_of_ble_eq_true rfl, Nat.le_of_ble_eq_true rfl⟩) (PR_V hK hL hS hP [1, 2, 3, 4, 5, 6, 7, 8, 9, 10, 11, 12, 13, 14, 15, 16, 17, 18] rfl (ci := 5) rfl 1 rfl) rfl rfl hl.1 rfl (lv_room (Nat.le_of_ble_eq_true rfl)) dX8_slot_140 ⟨Nat.zero_le _, Nat.zero_le _⟩) ?_
                refine lv_if_eq (tgt := 150) hx hb dX8_slot_143 (by decide) (fun zc10 => ?_) (fun zc10 => ?_)
                · replace hm := (if_pos zc10).symm.trans hm
                  refine lv_iconst (v := 0) hx hb dX8_slot_150 (by decide) ?_
                  exact W.iret (v := 0) hx hb hr (fun t ht hW => ⟨_, rfl, (Option.some.inj hm), ht⟩) (fun _ h => nomatch h) dX8_slot_151
                · replace hm := (if_neg zc10).symm.trans hm
                  refine lv_iconst (v := 1) hx hb dX8_slot_146 (by decide) ?_
                  refine lv_goto (tgt := 151) hx hb dX8_slot_147 (by decide) ?_
                  exact W.iret (v := 1) hx hb hr (fun t ht hW => ⟨_, rfl, (Option.some.inj hm), ht⟩) (fun _ h => nomatch h) dX8_slot_151
              · replace hm := (if_neg zc9).symm.trans hm
                by_cases zc11 : p3 = 6
                · replace hm := (if_pos zc11).symm.trans hm
                  refine lv_tableIn (tgt := 152) hx hb dX8_slot_18 (by rw [zc11]; decide) (by rw [zc11]; decide) (by rw [zc11]; rfl) (by decide) ?_
                  refine lv_aload_n hx hb dX8_slot_152 rfl (lv_at hl 1 rfl) ?_
                  refine va_get (D := g.1) (ci := 7) (v := .ref (aN 0)) (C := RX8) (T := TX8) (N := 8) hx hb htG in_wsX80 hown hK.1 hP 0 rfl rfl 0 (by decide) (htG _ g1_224) (fun _ h9 => h9) rfl dX8_slot_153 ?_
                  refine lv_iload_n hx hb dX8_slot_156 rfl (lv_at hl 3 rfl) ?_
                  refine ko_e (va_runV (As := [.int p2]) (rest := []) ⟨hx, hb, hml, hown, htG⟩ (kX6_isOver l g aN xN p2 _ rfl) (cwV 1 htG (GV g3_116 g2_57 g2_58 g1_2 g2_59) rfl rfl rfl hd_X6_isOver ⟨Nat.le_of_ble_eq_true rfl, Nat.le_of_ble_eq_true rfl⟩) (PR_V hK hL hS hP [1, 2, 3, 4, 5, 6, 7, 8, 9, 10, 11, 12, 13, 14, 15, 16, 17, 18] rfl (ci := 5) rfl 1 rfl) rfl rfl hl.1 rfl (lv_room (Nat.le_of_ble_eq_true rfl)) dX8_slot_157 ⟨Nat.zero_le _, Nat.zero_le _⟩) ?_
                  refine lv_if_eq (tgt := 181) hx hb dX8_slot_160 (by decide) (fun zc12 => ?_) (fun zc12 => ?_)
                  · replace hm := (if_pos zc12).symm.trans hm
                    refine lv_bipush (v := (-5)) hx hb dX8_slot_181 (by decide +kernel) ?_
                    exact W.iret (v := (-5)) hx hb hr (fun t ht hW => ⟨_, rfl, (Option.some.inj hm), ht⟩) (fun _ h => nomatch h) dX8_slot_183
                  · replace hm := (if_neg zc12).symm.trans hm
                    refine lv_aload_n hx hb dX8_slot_163 rfl (lv_at hl 1 rfl) ?_
                    refine va_get (D := g.1) (ci := 7) (v := .ref (aN 0)) (C := RX8) (T := TX8) (N := 8) hx hb htG in_wsX80 hown hK.1 hP 0 rfl rfl 0 (by decide) (htG _ g1_224) (fun _ h9 => h9) rfl dX8_slot_164 ?_
                    refine va_getN (D := g.1) (ci := 5) (v := .ref (aN 6)) (C := RX6) (T := TX6) (N := 8) hx hb htG in_wsX60 hown hK.1 hP 1 rfl rfl 5 (by decide) (nw_24 hK) (fun _ h9 => h9) rfl dX8_slot_167 ?_
                    refine va_getN (D := g.1) (ci := 4) (v := .ref (aN 10)) (C := RX5) (T := TX5) (N := 4) hx hb htG in_wsX50 hown hK.1 hP 7 rfl rfl 3 (by decide) (nw_6 hK) (fun _ h9 => h9) rfl dX8_slot_170 ?_
                    refine lv_iload hx hb dX8_slot_173 (lv_at hl 0 rfl) ?_
                    refine ko_e (va_runS (As := [.ref (aN 10), .int (fX8_slotOf p1 p2)]) (rest := []) ⟨hx, hb, hml, hown, htG⟩ (kX4_at l g (aN 10) xN.2.2.2.2.2.1.2.2.2 48 (fX8_slotOf p1 p2) (by decide)) (va_cwS 2 htG (GS g2_121 g2_61 g1_5 g2_62) rfl rfl rfl hs_X4_at ⟨Nat.le_of_ble_eq_true rfl, Nat.le_of_ble_eq_true rfl⟩) (PT_S hK (va_T_of hK hP 11 rfl)) rfl rfl hl.1 rfl (lv_room (Nat.le_of_ble_eq_true rfl)) dX8_slot_175 ⟨Nat.zero_le _, Nat.zero_le _⟩) ?_
                    refine lv_goto (tgt := 183) hx hb dX8_slot_178 (by decide) ?_
                    exact W.iret (v := (rat xN.2.2.2.2.2.1.2.2.2 48 (fX8_slotOf p1 p2))) hx hb hr (fun t ht hW => ⟨_, rfl, (Option.some.inj hm), ht⟩) (fun _ h => nomatch h) dX8_slot_183
                · replace hm := (if_neg zc11).symm.trans hm
                  have ezc2 : p3.toInt ≠ 0 := fun e => zc2 (Int32.toInt_inj.mp (e.trans (by decide)))
                  have ezc3 : p3.toInt ≠ 1 := fun e => zc3 (Int32.toInt_inj.mp (e.trans (by decide)))
                  have ezc4 : p3.toInt ≠ 2 := fun e => zc4 (Int32.toInt_inj.mp (e.trans (by decide)))
                  have ezc5 : p3.toInt ≠ 3 := fun e => zc5 (Int32.toInt_inj.mp (e.trans (by decide)))
                  have ezc7 : p3.toInt ≠ 4 := fun e => zc7 (Int32.toInt_inj.mp (e.trans (by decide)))
                  have ezc9 : p3.toInt ≠ 5 := fun e => zc9 (Int32.toInt_inj.mp (e.trans (by decide)))
                  have ezc11 : p3.toInt ≠ 6 := fun e => zc11 (Int32.toInt_inj.mp (e.trans (by decide)))
                  refine lv_tableOut (tgt := 184) hx hb dX8_slot_18 (by omega) (by decide) ?_
                  refine lv_bipush (v := (-2)) hx hb dX8_slot_184 (by decide +kernel) ?_
                  exact W.iret (v := (-2)) hx hb hr (fun t ht hW => ⟨_, rfl, (Option.some.inj hm), ht⟩) (fun _ h => nomatch h) dX8_slot_186
  · replace hm := (if_pos zc1).symm.trans hm
    refine lv_iconst (v := (-1)) hx hb dX8_slot_8 (by decide) ?_
    exact W.iret (v := (-1)) hx hb hr (fun t ht hW => ⟨_, rfl, (Option.some.inj hm), ht⟩) (fun _ h => nomatch h) dX8_slot_9
def fX8_wouldCost (y : (Int32 × Int32 × Int32)) (xN : SD) (p1 : Int32) (p2 : Int32) (p3 : Int32) (p4 : Int32) (p5 : Int32) : Option (Int32) := ((fX6_bidError xN p1 p2 p3 p4 p5).bind (fun zq1 => (if 0 ≤ zq1 then ((fX6_priceOf xN p1 p2 p3 p4 p5).bind (fun zq3 => some zq3)) else some zq1)))
abbrev rm_X8_wouldCost : Jvm.Room := { frames := 4, cells := 0, slots := 0, locals := 93 }
theorem hd_X8_wouldCost : yX8_wouldCost.cls = RX8 ∧ yX8_wouldCost.cls ≠ "java/lang/invoke/MethodHandle" ∧ yX8_wouldCost.cls ≠ "java/lang/invoke/VarHandle" ∧ (parseMethodDescriptor yX8_wouldCost.desc).map (fun d => d.parameters.length) = some 5 := by decide +kernel
set_option maxHeartbeats 4000000 in
set_option maxRecDepth 100000 in
theorem kX8_wouldCost (l : Launch) (g : CX) (h0 jH jA jP jT : Nat) (aN aB aS : Nat → Nat) (y : (Int32 × Int32 × Int32)) (xN : SD) (p1 : Int32) (p2 : Int32) (p3 : Int32) (p4 : Int32) (p5 : Int32) (res : Int32) (hm0 : fX8_wouldCost y xN p1 p2 p3 p4 p5 = some res) : Met l yX8_wouldCost (wg yX8_wouldCost cX8_wouldCost 7 (some .int)) rm_X8_wouldCost (PR g [.ref h0, .int p1, .int p2, .int p3, .int p4, .int p5] ([w_hh g h0 jH jP aN aB aS y, w_X6 g aN xN].flatten)) (vp_Si (fun v => v = res)) 0 0 (fun _ => False) := by
  refine Met.ofW (cc := cX8_wouldCost) (maxL := 7) (ret := (some .int)) (by decide) rfl ?_
  intro p e s m args below meth c s₁ B hml hv
  obtain ⟨rfl, hP, hK, hL⟩ := hv
  have hx := B.exec
  have hb := B.bytes
  have hr := B.returns
  have htG := wg_G (atoms_spec (ws := wg yX8_wouldCost cX8_wouldCost 7 (some .int)) B.pre)
  have hown : s.vm.findClass RX8 = some m.cls := findClass_of_methodNamed B.named
  have hlocks := B.notSynchronized
  have hS : va_S (fun _ => False) s.heap s.heap [] := va_S.rf
  have hl := lv_entry ([.ref h0, .int p1, .int p2, .int p3, .int p4, .int p5]) (n := 7) (Nat.le_of_ble_eq_true rfl)
  rw [lg_entry_eq]
  generalize (lg_sl ([.ref h0, .int p1, .int p2, .int p3, .int p4, .int p5]) ++ List.replicate (7 - (lg_sl ([.ref h0, .int p1, .int p2, .int p3, .int p4, .int p5])).length) Slot.unset).toArray = ls at hl ⊢
  have hl : lv_has ls 7 [(0, .ref h0), (1, .int p1), (2, .int p2), (3, .int p3), (4, .int p4), (5, .int p5)] := hl
  have hm := hm0
  unfold fX8_wouldCost at hm
  refine lv_aload_n hx hb dX8_wouldCost_0 rfl (lv_at hl 0 rfl) ?_
  refine va_get (D := g.1) (ci := 7) (v := .ref (aN 0)) (C := RX8) (T := TX8) (N := 8) hx hb htG in_wsX80 hown hK.1 hP 0 rfl rfl 0 (by decide) (htG _ g1_224) (fun _ h9 => h9) rfl dX8_wouldCost_1 ?_
  refine lv_iload_n hx hb dX8_wouldCost_4 rfl (lv_at hl 1 rfl) ?_
  refine lv_iload_n hx hb dX8_wouldCost_5 rfl (lv_at hl 2 rfl) ?_
  refine lv_iload_n hx hb dX8_wouldCost_6 rfl (lv_at hl 3 rfl) ?_
  refine lv_iload hx hb dX8_wouldCost_7 (lv_at hl 4 rfl) ?_
  refine lv_iload hx hb dX8_wouldCost_9 (lv_at hl 5 rfl) ?_
  obtain ⟨zq1, hzq1, hm⟩ := bdk hm
  refine ko_e (va_runV (As := [.int p1, .int p2, .int p3, .int p4, .int p5]) (rest := []) ⟨hx, hb, hml, hown, htG⟩ (kX6_bidError l g aN xN p1 p2 p3 p4 p5 _ hzq1) (cwV 5 htG (GV g3_121 g2_106 g2_107 g1_2 g2_108) rfl rfl rfl hd_X6_bidError ⟨Nat.le_of_ble_eq_true rfl, Nat.le_of_ble_eq_true rfl⟩) (PR_V hK hL hS hP [1, 2, 3, 4, 5, 6, 7, 8, 9, 10, 11, 12, 13, 14, 15, 16, 17, 18] rfl (ci := 5) rfl 1 rfl) rfl rfl hl.1 rfl (lv_room (Nat.le_of_ble_eq_true rfl)) dX8_wouldCost_11 ⟨Nat.zero_le _, Nat.zero_le _⟩) ?_
  refine lv_istore (lv' := [(6, .int zq1), (0, .ref h0), (1, .int p1), (2, .int p2), (3, .int p3), (4, .int p4), (5, .int p5)]) hx hb dX8_wouldCost_14 hl (by decide) rfl (fun ls hl => ?_)
  refine lv_iload hx hb dX8_wouldCost_16 (lv_at hl 0 rfl) ?_
  refine lv_if_ge (tgt := 26) hx hb dX8_wouldCost_18 (by decide) (fun zc2 => ?_) (fun zc2 => ?_)
  · replace hm := (if_pos zc2).symm.trans hm
    refine lv_aload_n hx hb dX8_wouldCost_26 rfl (lv_at hl 1 rfl) ?_
    refine va_get (D := g.1) (ci := 7) (v := .ref (aN 0)) (C := RX8) (T := TX8) (N := 8) hx hb htG in_wsX80 hown hK.1 hP 0 rfl rfl 0 (by decide) (htG _ g1_224) (fun _ h9 => h9) rfl dX8_wouldCost_27 ?_
    refine lv_iload_n hx hb dX8_wouldCost_30 rfl (lv_at hl 2 rfl) ?_
    refine lv_iload_n hx hb dX8_wouldCost_31 rfl (lv_at hl 3 rfl) ?_
    refine lv_iload_n hx hb dX8_wouldCost_32 rfl (lv_at hl 4 rfl) ?_
    refine lv_iload hx hb dX8_wouldCost_33 (lv_at hl 5 rfl) ?_
    refine lv_iload hx hb dX8_wouldCost_35 (lv_at hl 6 rfl) ?_
    obtain ⟨zq3, hzq3, hm⟩ := bdk hm
    refine ko_e (va_runV (As := [.int p1, .int p2, .int p3, .int p4, .int p5]) (rest := []) ⟨hx, hb, hml, hown, htG⟩ (kX6_priceOf l g aN xN p1 p2 p3 p4 p5 _ hzq3) (cwV 5 htG (GV g3_122 g3_123 g3_124 g1_2 g3_125) rfl rfl rfl hd_X6_priceOf ⟨Nat.le_of_ble_eq_true rfl, Nat.le_of_ble_eq_true rfl⟩) (PR_V hK hL hS hP [1, 2, 3, 4, 5, 6, 7, 8, 9, 10, 11, 12, 13, 14, 15, 16, 17, 18] rfl (ci := 5) rfl 1 rfl) rfl rfl hl.1 rfl (lv_room (Nat.le_of_ble_eq_true rfl)) dX8_wouldCost_37 ⟨Nat.zero_le _, Nat.zero_le _⟩) ?_
    exact W.iret (v := zq3) hx hb hr (fun t ht hW => ⟨_, rfl, (Option.some.inj hm), ht⟩) (fun _ h => nomatch h) dX8_wouldCost_40
  · replace hm := (if_neg zc2).symm.trans hm
    refine lv_iload hx hb dX8_wouldCost_21 (lv_at hl 0 rfl) ?_
    refine lv_goto (tgt := 40) hx hb dX8_wouldCost_23 (by decide) ?_
    exact W.iret (v := zq1) hx hb hr (fun t ht hW => ⟨_, rfl, (Option.some.inj hm), ht⟩) (fun _ h => nomatch h) dX8_wouldCost_40
def fX8_heaviest (y : (Int32 × Int32 × Int32)) (xN : SD) (p1 : Int32) (p2 : Int32) : Int32 := (if (fX8_isSlot p1 p2) = 0 then (-1) else (fX6_heaviestLift xN p1 p2))
abbrev rm_X8_heaviest : Jvm.Room := { frames := 3, cells := 0, slots := 0, locals := 64 }
theorem hd_X8_heaviest : yX8_heaviest.cls = RX8 ∧ yX8_heaviest.cls ≠ "java/lang/invoke/MethodHandle" ∧ yX8_heaviest.cls ≠ "java/lang/invoke/VarHandle" ∧ (parseMethodDescriptor yX8_heaviest.desc).map (fun d => d.parameters.length) = some 2 := by decide +kernel
set_option maxHeartbeats 4000000 in
set_option maxRecDepth 100000 in
theorem kX8_heaviest (l : Launch) (g : CX) (h0 jH jA jP jT : Nat) (aN aB aS : Nat → Nat) (y : (Int32 × Int32 × Int32)) (xN : SD) (p1 : Int32) (p2 : Int32) (res : Int32) (hm0 : fX8_heaviest y xN p1 p2 = res) : Met l yX8_heaviest (wg yX8_heaviest cX8_heaviest 3 (some .int)) rm_X8_heaviest (PR g [.ref h0, .int p1, .int p2] ([w_hh g h0 jH jP aN aB aS y, w_X6 g aN xN].flatten)) (vp_Si (fun v => v = res)) 0 0 (fun _ => False) := by
  refine Met.ofW (cc := cX8_heaviest) (maxL := 3) (ret := (some .int)) (by decide) rfl ?_
  intro p e s m args below meth c s₁ B hml hv
  obtain ⟨rfl, hP, hK, hL⟩ := hv
  have hx := B.exec
  have hb := B.bytes
  have hr := B.returns
  have htG := wg_G (atoms_spec (ws := wg yX8_heaviest cX8_heaviest 3 (some .int)) B.pre)
  have hown : s.vm.findClass RX8 = some m.cls := findClass_of_methodNamed B.named
  have hlocks := B.notSynchronized
  have hS : va_S (fun _ => False) s.heap s.heap [] := va_S.rf
  have hl := lv_entry ([.ref h0, .int p1, .int p2]) (n := 3) (Nat.le_of_ble_eq_true rfl)
  rw [lg_entry_eq]
  generalize (lg_sl ([.ref h0, .int p1, .int p2]) ++ List.replicate (3 - (lg_sl ([.ref h0, .int p1, .int p2])).length) Slot.unset).toArray = ls at hl ⊢
  have hl : lv_has ls 3 [(0, .ref h0), (1, .int p1), (2, .int p2)] := hl
  have hm := hm0
  unfold fX8_heaviest at hm
  refine lv_iload_n hx hb dX8_heaviest_0 rfl (lv_at hl 1 rfl) ?_
  refine lv_iload_n hx hb dX8_heaviest_1 rfl (lv_at hl 2 rfl) ?_
  refine ko_e (va_runS (As := [.int p1, .int p2]) (rest := []) ⟨hx, hb, hml, hown, htG⟩ (kX8_isSlot l g p1 p2 _ rfl) (va_cwS 2 htG (GS g3_111 g2_110 g1_1 g2_111) rfl rfl rfl hs_X8_isSlot ⟨Nat.le_of_ble_eq_true rfl, Nat.le_of_ble_eq_true rfl⟩) (PR_S hK hL hS hP [] rfl) rfl rfl hl.1 rfl (lv_room (Nat.le_of_ble_eq_true rfl)) dX8_heaviest_2 ⟨Nat.zero_le _, Nat.zero_le _⟩) ?_
  refine lv_if_eq (tgt := 20) hx hb dX8_heaviest_5 (by decide) (fun zc1 => ?_) (fun zc1 => ?_)
  · replace hm := (if_pos zc1).symm.trans hm
    refine lv_iconst (v := (-1)) hx hb dX8_heaviest_20 (by decide) ?_
    exact W.iret (v := (-1)) hx hb hr (fun t ht hW => ⟨_, rfl, hm, ht⟩) (fun _ h => nomatch h) dX8_heaviest_21
  · replace hm := (if_neg zc1).symm.trans hm
    refine lv_aload_n hx hb dX8_heaviest_8 rfl (lv_at hl 0 rfl) ?_
    refine va_get (D := g.1) (ci := 7) (v := .ref (aN 0)) (C := RX8) (T := TX8) (N := 8) hx hb htG in_wsX80 hown hK.1 hP 0 rfl rfl 0 (by decide) (htG _ g1_224) (fun _ h9 => h9) rfl dX8_heaviest_9 ?_
    refine lv_iload_n hx hb dX8_heaviest_12 rfl (lv_at hl 1 rfl) ?_
    refine lv_iload_n hx hb dX8_heaviest_13 rfl (lv_at hl 2 rfl) ?_
    refine ko_e (va_runV (As := [.int p1, .int p2]) (rest := []) ⟨hx, hb, hml, hown, htG⟩ (kX6_heaviestLift l g aN xN p1 p2 _ rfl) (cwV 2 htG (GV g3_130 g2_193 g2_194 g1_2 g2_195) rfl rfl rfl hd_X6_heaviestLift ⟨Nat.le_of_ble_eq_true rfl, Nat.le_of_ble_eq_true rfl⟩) (PR_V hK hL hS hP [1, 2, 3, 4, 5, 6, 7, 8, 9, 10, 11, 12, 13, 14, 15, 16, 17, 18] rfl (ci := 5) rfl 1 rfl) rfl rfl hl.1 rfl (lv_room (Nat.le_of_ble_eq_true rfl)) dX8_heaviest_14 ⟨Nat.zero_le _, Nat.zero_le _⟩) ?_
    refine lv_goto (tgt := 21) hx hb dX8_heaviest_17 (by decide) ?_
    exact W.iret (v := (fX6_heaviestLift xN p1 p2)) hx hb hr (fun t ht hW => ⟨_, rfl, hm, ht⟩) (fun _ h => nomatch h) dX8_heaviest_21
def fX8_wind (y : (Int32 × Int32 × Int32)) (xN : SD) (p1 : Int32) : Int32 := (if (fX8_isHour p1) = 0 then (-1) else (if (fX6_isOver xN p1) = 0 then (rat xN.2.2.1 16 p1) else (rat xN.2.2.2.1 16 p1)))
abbrev rm_X8_wind : Jvm.Room := { frames := 1, cells := 0, slots := 0, locals := 21 }
theorem hd_X8_wind : yX8_wind.cls = RX8 ∧ yX8_wind.cls ≠ "java/lang/invoke/MethodHandle" ∧ yX8_wind.cls ≠ "java/lang/invoke/VarHandle" ∧ (parseMethodDescriptor yX8_wind.desc).map (fun d => d.parameters.length) = some 1 := by decide +kernel
set_option maxHeartbeats 4000000 in
set_option maxRecDepth 100000 in
theorem kX8_wind (l : Launch) (g : CX) (h0 jH jA jP jT : Nat) (aN aB aS : Nat → Nat) (y : (Int32 × Int32 × Int32)) (xN : SD) (p1 : Int32) (res : Int32) (hm0 : fX8_wind y xN p1 = res) : Met l yX8_wind (wg yX8_wind cX8_wind 2 (some .int)) rm_X8_wind (PR g [.ref h0, .int p1] ([w_hh g h0 jH jP aN aB aS y, w_X6 g aN xN].flatten)) (vp_Si (fun v => v = res)) 0 0 (fun _ => False) := by
  refine Met.ofW (cc := cX8_wind) (maxL := 2) (ret := (some .int)) (by decide) rfl ?_
  intro p e s m args below meth c s₁ B hml hv
  obtain ⟨rfl, hP, hK, hL⟩ := hv
  have hx := B.exec
  have hb := B.bytes
  have hr := B.returns
  have htG := wg_G (atoms_spec (ws := wg yX8_wind cX8_wind 2 (some .int)) B.pre)
  have hown : s.vm.findClass RX8 = some m.cls := findClass_of_methodNamed B.named
  have hlocks := B.notSynchronized
  have hS : va_S (fun _ => False) s.heap s.heap [] := va_S.rf
  have hl := lv_entry ([.ref h0, .int p1]) (n := 2) (Nat.le_of_ble_eq_true rfl)
  rw [lg_entry_eq]
  generalize (lg_sl ([.ref h0, .int p1]) ++ List.replicate (2 - (lg_sl ([.ref h0, .int p1])).length) Slot.unset).toArray = ls at hl ⊢
  have hl : lv_has ls 2 [(0, .ref h0), (1, .int p1)] := hl
  have hm := hm0
  unfold fX8_wind at hm
  refine lv_iload_n hx hb dX8_wind_0 rfl (lv_at hl 1 rfl) ?_
  refine ko_e (va_runS (As := [.int p1]) (rest := []) ⟨hx, hb, hml, hown, htG⟩ (kX8_isHour l g p1 _ rfl) (va_cwS 1 htG (GS g2_115 g2_51 g1_1 g2_52) rfl rfl rfl hs_X8_isHour ⟨Nat.le_of_ble_eq_true rfl, Nat.le_of_ble_eq_true rfl⟩) (PR_S hK hL hS hP [] rfl) rfl rfl hl.1 rfl (lv_room (Nat.le_of_ble_eq_true rfl)) dX8_wind_1 ⟨Nat.zero_le _, Nat.zero_le _⟩) ?_
  refine lv_if_ne (tgt := 9) hx hb dX8_wind_4 (by decide) (fun zc1 => ?_) (fun zc1 => ?_)
  · replace hm := (if_neg zc1).symm.trans hm
    refine lv_aload_n hx hb dX8_wind_9 rfl (lv_at hl 0 rfl) ?_
    refine va_get (D := g.1) (ci := 7) (v := .ref (aN 0)) (C := RX8) (T := TX8) (N := 8) hx hb htG in_wsX80 hown hK.1 hP 0 rfl rfl 0 (by decide) (htG _ g1_224) (fun _ h9 => h9) rfl dX8_wind_10 ?_
    refine lv_iload_n hx hb dX8_wind_13 rfl (lv_at hl 1 rfl) ?_
    refine ko_e (va_runV (As := [.int p1]) (rest := []) ⟨hx, hb, hml, hown, htG⟩ (kX6_isOver l g aN xN p1 _ rfl) (cwV 1 htG (GV g3_116 g2_57 g2_58 g1_2 g2_59) rfl rfl rfl hd_X6_isOver ⟨Nat.le_of_ble_eq_true rfl, Nat.le_of_ble_eq_true rfl⟩) (PR_V hK hL hS hP [1, 2, 3, 4, 5, 6, 7, 8, 9, 10, 11, 12, 13, 14, 15, 16, 17, 18] rfl (ci := 5) rfl 1 rfl) rfl rfl hl.1 rfl (lv_room (Nat.le_of_ble_eq_true rfl)) dX8_wind_14 ⟨Nat.zero_le _, Nat.zero_le _⟩) ?_
    refine lv_if_eq (tgt := 30) hx hb dX8_wind_17 (by decide) (fun zc2 => ?_) (fun zc2 => ?_)
    · replace hm := (if_pos zc2).symm.trans hm
      refine lv_aload_n hx hb dX8_wind_30 rfl (lv_at hl 0 rfl) ?_
      refine va_get (D := g.1) (ci := 7) (v := .ref (aN 0)) (C := RX8) (T := TX8) (N := 8) hx hb htG in_wsX80 hown hK.1 hP 0 rfl rfl 0 (by decide) (htG _ g1_224) (fun _ h9 => h9) rfl dX8_wind_31 ?_
      refine va_getN (D := g.1) (ci := 5) (v := .ref (aN 1)) (C := RX6) (T := TX6) (N := 8) hx hb htG in_wsX60 hown hK.1 hP 1 rfl rfl 2 (by decide) (nw_21 hK) (fun _ h9 => h9) rfl dX8_wind_34 ?_
      refine lv_iload_n hx hb dX8_wind_37 rfl (lv_at hl 1 rfl) ?_
      refine ko_e (va_runS (As := [.ref (aN 1), .int p1]) (rest := []) ⟨hx, hb, hml, hown, htG⟩ (kX4_at l g (aN 1) xN.2.2.1 16 p1 (by decide)) (va_cwS 2 htG (GS g2_121 g2_61 g1_5 g2_62) rfl rfl rfl hs_X4_at ⟨Nat.le_of_ble_eq_true rfl, Nat.le_of_ble_eq_true rfl⟩) (PT_S hK (va_T_of hK hP 2 rfl)) rfl rfl hl.1 rfl (lv_room (Nat.le_of_ble_eq_true rfl)) dX8_wind_38 ⟨Nat.zero_le _, Nat.zero_le _⟩) ?_
      exact W.iret (v := (rat xN.2.2.1 16 p1)) hx hb hr (fun t ht hW => ⟨_, rfl, hm, ht⟩) (fun _ h => nomatch h) dX8_wind_41
    · replace hm := (if_neg zc2).symm.trans hm
      refine lv_aload_n hx hb dX8_wind_20 rfl (lv_at hl 0 rfl) ?_
      refine va_get (D := g.1) (ci := 7) (v := .ref (aN 0)) (C := RX8) (T := TX8) (N := 8) hx hb htG in_wsX80 hown hK.1 hP 0 rfl rfl 0 (by decide) (htG _ g1_224) (fun _ h9 => h9) rfl dX8_wind_21 ?_
      refine va_getN (D := g.1) (ci := 5) (v := .ref (aN 2)) (C := RX6) (T := TX6) (N := 8) hx hb htG in_wsX60 hown hK.1 hP 1 rfl rfl 3 (by decide) (nw_22 hK) (fun _ h9 => h9) rfl dX8_wind_24 ?_
      refine lv_goto (tgt := 37) hx hb dX8_wind_27 (by decide) ?_
      refine lv_iload_n hx hb dX8_wind_37 rfl (lv_at hl 1 rfl) ?_
      refine ko_e (va_runS (As := [.ref (aN 2), .int p1]) (rest := []) ⟨hx, hb, hml, hown, htG⟩ (kX4_at l g (aN 2) xN.2.2.2.1 16 p1 (by decide)) (va_cwS 2 htG (GS g2_121 g2_61 g1_5 g2_62) rfl rfl rfl hs_X4_at ⟨Nat.le_of_ble_eq_true rfl, Nat.le_of_ble_eq_true rfl⟩) (PT_S hK (va_T_of hK hP 3 rfl)) rfl rfl hl.1 rfl (lv_room (Nat.le_of_ble_eq_true rfl)) dX8_wind_38 ⟨Nat.zero_le _, Nat.zero_le _⟩) ?_
      exact W.iret (v := (rat xN.2.2.2.1 16 p1)) hx hb hr (fun t ht hW => ⟨_, rfl, hm, ht⟩) (fun _ h => nomatch h) dX8_wind_41
  · replace hm := (if_pos zc1).symm.trans hm
    refine lv_iconst (v := (-1)) hx hb dX8_wind_7 (by decide) ?_
    exact W.iret (v := (-1)) hx hb hr (fun t ht hW => ⟨_, rfl, hm, ht⟩) (fun _ h => nomatch h) dX8_wind_8
def fX8_cheapest (y : (Int32 × Int32 × Int32)) (xN : SD) (p1 : Int32) (p2 : Int32) : Option (Int32) := (if (fX8_isCrane p1) = 0 then some (-1) else (if (fX8_isLift p1 p2) = 0 then some (-2) else ((fX6_cheapestHour xN p1 p2).bind (fun zq3 => some zq3))))
abbrev rm_X8_cheapest : Jvm.Room := { frames := 4, cells := 0, slots := 0, locals := 90 }
theorem hd_X8_cheapest : yX8_cheapest.cls = RX8 ∧ yX8_cheapest.cls ≠ "java/lang/invoke/MethodHandle" ∧ yX8_cheapest.cls ≠ "java/lang/invoke/VarHandle" ∧ (parseMethodDescriptor yX8_cheapest.desc).map (fun d => d.parameters.length) = some 2 := by decide +kernel
set_option maxHeartbeats 4000000 in
set_option maxRecDepth 100000 in
theorem kX8_cheapest (l : Launch) (g : CX) (h0 jH jA jP jT : Nat) (aN aB aS : Nat → Nat) (y : (Int32 × Int32 × Int32)) (xN : SD) (p1 : Int32) (p2 : Int32) (res : Int32) (hm0 : fX8_cheapest y xN p1 p2 = some res) : Met l yX8_cheapest (wg yX8_cheapest cX8_cheapest 3 (some .int)) rm_X8_cheapest (PR g [.ref h0, .int p1, .int p2] ([w_hh g h0 jH jP aN aB aS y, w_X6 g aN xN].flatten)) (vp_Si (fun v => v = res)) 0 0 (fun _ => False) := by
  refine Met.ofW (cc := cX8_cheapest) (maxL := 3) (ret := (some .int)) (by decide) rfl ?_
  intro p e s m args below meth c s₁ B hml hv
  obtain ⟨rfl, hP, hK, hL⟩ := hv
  have hx := B.exec
  have hb := B.bytes
  have hr := B.returns
  have htG := wg_G (atoms_spec (ws := wg yX8_cheapest cX8_cheapest 3 (some .int)) B.pre)
  have hown : s.vm.findClass RX8 = some m.cls := findClass_of_methodNamed B.named
  have hlocks := B.notSynchronized
  have hS : va_S (fun _ => False) s.heap s.heap [] := va_S.rf
  have hl := lv_entry ([.ref h0, .int p1, .int p2]) (n := 3) (Nat.le_of_ble_eq_true rfl)
  rw [lg_entry_eq]
  generalize (lg_sl ([.ref h0, .int p1, .int p2]) ++ List.replicate (3 - (lg_sl ([.ref h0, .int p1, .int p2])).length) Slot.unset).toArray = ls at hl ⊢
  have hl : lv_has ls 3 [(0, .ref h0), (1, .int p1), (2, .int p2)] := hl
  have hm := hm0
  unfold fX8_cheapest at hm
  refine lv_iload_n hx hb dX8_cheapest_0 rfl (lv_at hl 1 rfl) ?_
  refine ko_e (va_runS (As := [.int p1]) (rest := []) ⟨hx, hb, hml, hown, htG⟩ (kX8_isCrane l g p1 _ rfl) (va_cwS 1 htG (GS g2_112 g2_113 g1_1 g2_114) rfl rfl rfl hs_X8_isCrane ⟨Nat.le_of_ble_eq_true rfl, Nat.le_of_ble_eq_true rfl⟩) (PR_S hK hL hS hP [] rfl) rfl rfl hl.1 rfl (lv_room (Nat.le_of_ble_eq_true rfl)) dX8_cheapest_1 ⟨Nat.zero_le _, Nat.zero_le _⟩) ?_
  refine lv_if_ne (tgt := 9) hx hb dX8_cheapest_4 (by decide) (fun zc1 => ?_) (fun zc1 => ?_)
  · replace hm := (if_neg zc1).symm.trans hm
    refine lv_iload_n hx hb dX8_cheapest_9 rfl (lv_at hl 1 rfl) ?_
    refine lv_iload_n hx hb dX8_cheapest_10 rfl (lv_at hl 2 rfl) ?_
    refine ko_e (va_runS (As := [.int p1, .int p2]) (rest := []) ⟨hx, hb, hml, hown, htG⟩ (kX8_isLift l g p1 p2 _ rfl) (va_cwS 2 htG (GS g3_139 g2_117 g1_1 g2_118) rfl rfl rfl hs_X8_isLift ⟨Nat.le_of_ble_eq_true rfl, Nat.le_of_ble_eq_true rfl⟩) (PR_S hK hL hS hP [] rfl) rfl rfl hl.1 rfl (lv_room (Nat.le_of_ble_eq_true rfl)) dX8_cheapest_11 ⟨Nat.zero_le _, Nat.zero_le _⟩) ?_
    refine lv_if_eq (tgt := 29) hx hb dX8_cheapest_14 (by decide) (fun zc2 => ?_) (fun zc2 => ?_)
    · replace hm := (if_pos zc2).symm.trans hm
      refine lv_bipush (v := (-2)) hx hb dX8_cheapest_29 (by decide +kernel) ?_
      exact W.iret (v := (-2)) hx hb hr (fun t ht hW => ⟨_, rfl, (Option.some.inj hm), ht⟩) (fun _ h => nomatch h) dX8_cheapest_31
    · replace hm := (if_neg zc2).symm.trans hm
      refine lv_aload_n hx hb dX8_cheapest_17 rfl (lv_at hl 0 rfl) ?_
      refine va_get (D := g.1) (ci := 7) (v := .ref (aN 0)) (C := RX8) (T := TX8) (N := 8) hx hb htG in_wsX80 hown hK.1 hP 0 rfl rfl 0 (by decide) (htG _ g1_224) (fun _ h9 => h9) rfl dX8_cheapest_18 ?_
      refine lv_iload_n hx hb dX8_cheapest_21 rfl (lv_at hl 1 rfl) ?_
      refine lv_iload_n hx hb dX8_cheapest_22 rfl (lv_at hl 2 rfl) ?_
      obtain ⟨zq3, hzq3, hm⟩ := bdk hm
      refine ko_e (va_runV (As := [.int p1, .int p2]) (rest := []) ⟨hx, hb, hml, hown, htG⟩ (kX6_cheapestHour l g aN xN p1 p2 _ hzq3) (cwV 2 htG (GV g3_140 g3_141 g3_142 g1_2 g3_143) rfl rfl rfl hd_X6_cheapestHour ⟨Nat.le_of_ble_eq_true rfl, Nat.le_of_ble_eq_true rfl⟩) (PR_V hK hL hS hP [1, 2, 3, 4, 5, 6, 7, 8, 9, 10, 11, 12, 13, 14, 15, 16, 17, 18] rfl (ci := 5) rfl 1 rfl) rfl rfl hl.1 rfl (lv_room (Nat.le_of_ble_eq_true rfl)) dX8_cheapest_23 ⟨Nat.zero_le _, Nat.zero_le _⟩) ?_
      refine lv_goto (tgt := 31) hx hb dX8_cheapest_26 (by decide) ?_
      exact W.iret (v := zq3) hx hb hr (fun t ht hW => ⟨_, rfl, (Option.some.inj hm), ht⟩) (fun _ h => nomatch h) dX8_cheapest_31
  · replace hm := (if_pos zc1).symm.trans hm
    refine lv_iconst (v := (-1)) hx hb dX8_cheapest_7 (by decide) ?_
    exact W.iret (v := (-1)) hx hb hr (fun t ht hW => ⟨_, rfl, (Option.some.inj hm), ht⟩) (fun _ h => nomatch h) dX8_cheapest_8
def fX8_count (y : (Int32 × Int32 × Int32)) (xN : SD) (u : HDT) (w : PD) (p1 : Int32) : Option (Int32) := (if p1 = 10 then some (rsum xN.2.2.2.2.2.2.1.1 6) else (if p1 = 14 then some u.1 else (if p1 = 15 then (bnd (fX3_length w) (fun zq4 => some zq4)) else ((fX6_total xN p1).bind (fun zq5 => some zq5)))))
abbrev rm_X8_count : Jvm.Room := { frames := 4, cells := 0, slots := 0, locals := 88 }
theorem hd_X8_count : yX8_count.cls = RX8 ∧ yX8_count.cls ≠ "java/lang/invoke/MethodHandle" ∧ yX8_count.cls ≠ "java/lang/invoke/VarHandle" ∧ (parseMethodDescriptor yX8_count.desc).map (fun d => d.parameters.length) = some 1 := by decide +kernel
set_option maxHeartbeats 4000000 in
set_option maxRecDepth 100000 in
theorem kX8_count (l : Launch) (g : CX) (h0 jH jA jP jT : Nat) (aN aB aS : Nat → Nat) (y : (Int32 × Int32 × Int32)) (xN : SD) (u : HDT) (w : PD) (p1 : Int32) (res : Int32) (hm0 : fX8_count y xN u w p1 = some res) : Met l yX8_count (wg yX8_count cX8_count 2 (some .int)) rm_X8_count (PR g [.ref h0, .int p1] ([w_hh g h0 jH jP aN aB aS y, w_X6 g aN xN, w_hd g jH jA u.1 (u.2.1.1 0) (u.2.2.1.1 0) (u.2.2.2.1.1 0) (u.2.2.2.2.1 0), w_X6 g u.2.1.1 u.2.1.2, w_X6 g u.2.2.1.1 u.2.2.1.2, w_X6 g u.2.2.2.1.1 u.2.2.2.1.2, w_X6 g u.2.2.2.2.1 u.2.2.2.2.2, w_X3 g jP jT w].flatten)) (vp_Si (fun v => v = res)) 0 0 (fun _ => False) := by
  refine Met.ofW (cc := cX8_count) (maxL := 2) (ret := (some .int)) (by decide) rfl ?_
  intro p e s m args below meth c s₁ B hml hv
  obtain ⟨rfl, hP, hK, hL⟩ := hv
  have hx := B.exec
  have hb := B.bytes
  have hr := B.returns
  have htG := wg_G (atoms_spec (ws := wg yX8_count cX8_count 2 (some .int)) B.pre)
  have hown : s.vm.findClass RX8 = some m.cls := findClass_of_methodNamed B.named
  have hlocks := B.notSynchronized
  have hS : va_S (fun _ => False) s.heap s.heap [] := va_S.rf
  have hl := lv_entry ([.ref h0, .int p1]) (n := 2) (Nat.le_of_ble_eq_true rfl)
  rw [lg_entry_eq]
  generalize (lg_sl ([.ref h0, .int p1]) ++ List.replicate (2 - (lg_sl ([.ref h0, .int p1])).length) Slot.unset).toArray = ls at hl ⊢
  have hl : lv_has ls 2 [(0, .ref h0), (1, .int p1)] := hl
  have hm := hm0
  unfold fX8_count at hm
  refine lv_iload_n hx hb dX8_count_0 rfl (lv_at hl 1 rfl) ?_
  by_cases zc1 : p1 = 10
  · replace hm := (if_pos zc1).symm.trans hm
    refine lv_lookup (tgt := 36) (off := 35) hx hb dX8_count_1 (by decide +kernel) (by rw [zc1]; decide) (by decide) ?_
    refine lv_aload_n hx hb dX8_count_36 rfl (lv_at hl 0 rfl) ?_
    refine va_get (D := g.1) (ci := 7) (v := .ref (aN 0)) (C := RX8) (T := TX8) (N := 8) hx hb htG in_wsX80 hown hK.1 hP 0 rfl rfl 0 (by decide) (htG _ g1_224) (fun _ h9 => h9) rfl dX8_count_37 ?_
    refine va_getN (D := g.1) (ci := 5) (v := .ref (aN 11)) (C := RX6) (T := TX6) (N := 8) hx hb htG in_wsX60 hown hK.1 hP 1 rfl rfl 6 (by decide) (nw_25 hK) (fun _ h9 => h9) rfl dX8_count_40 ?_
    refine va_getN (D := g.1) (ci := 1) (v := .ref (aN 12)) (C := RX1) (T := TX1) (N := 4) hx hb htG in_wsX10 hown hK.1 hP 12 rfl rfl 0 (by decide) (nw_8 hK) (fun _ h9 => h9) rfl dX8_count_43 ?_
    refine ko_e (va_runS (As := [.ref (aN 12)]) (rest := []) ⟨hx, hb, hml, hown, htG⟩ (kX4_sum l g (aN 12) xN.2.2.2.2.2.2.1.1 6 _ (t_X4_sum _ _ (by decide))) (va_cwS 1 htG (GS g3_148 g3_149 g1_5 g3_150) rfl rfl rfl hs_X4_sum ⟨Nat.le_of_ble_eq_true rfl, Nat.le_of_ble_eq_true rfl⟩) (PR_S hK hL hS hP [13] rfl) rfl rfl hl.1 rfl (lv_room (Nat.le_of_ble_eq_true rfl)) dX8_count_46 ⟨Nat.zero_le _, Nat.zero_le _⟩) ?_
    exact W.iret (v := (rsum xN.2.2.2.2.2.2.1.1 6)) hx hb hr (fun t ht hW => ⟨_, rfl, (Option.some.inj hm), ht⟩) (fun _ h => nomatch h) dX8_count_49
  · replace hm := (if_neg zc1).symm.trans hm
    by_cases zc2 : p1 = 14
    · replace hm := (if_pos zc2).symm.trans hm
      refine lv_lookup (tgt := 50) (off := 49) hx hb dX8_count_1 (by decide +kernel) (by rw [zc2]; decide) (by decide) ?_
      refine lv_aload_n hx hb dX8_count_50 rfl (lv_at hl 0 rfl) ?_
      refine va_get (D := g.1) (ci := 7) (v := .ref jH) (C := RX8) (T := TX8) (N := 8) hx hb htG in_wsX80 hown hK.1 hP 0 rfl rfl 2 (by decide) (htG _ g1_226) (fun _ h9 => h9) rfl dX8_count_51 ?_
      refine ko_e (va_runV (As := []) (rest := []) ⟨hx, hb, hml, hown, htG⟩ (kX2_size l g jH jA u.1 (u.2.1.1 0) (u.2.2.1.1 0) (u.2.2.2.1.1 0) (u.2.2.2.2.1 0)) (cwV 0 htG (GV g3_87 g3_88 g3_89 g1_8 g3_90) rfl rfl rfl hd_X2_size ⟨Nat.le_of_ble_eq_true rfl, Nat.le_of_ble_eq_true rfl⟩) (PR_V hK hL hS hP [19, 20] rfl (ci := 2) rfl 19 rfl) rfl rfl hl.1 rfl (lv_room (Nat.le_of_ble_eq_true rfl)) dX8_count_54 ⟨Nat.zero_le _, Nat.zero_le _⟩) ?_
      exact W.iret (v := u.1) hx hb hr (fun t ht hW => ⟨_, rfl, (Option.some.inj hm), ht⟩) (fun _ h => nomatch h) dX8_count_57
    · replace hm := (if_neg zc2).symm.trans hm
      by_cases zc3 : p1 = 15
      · replace hm := (if_pos zc3).symm.trans hm
        refine lv_lookup (tgt := 58) (off := 57) hx hb dX8_count_1 (by decide +kernel) (by rw [zc3]; decide) (by decide) ?_
        refine lv_aload_n hx hb dX8_count_58 rfl (lv_at hl 0 rfl) ?_
        refine va_get (D := g.1) (ci := 7) (v := .ref jP) (C := RX8) (T := TX8) (N := 8) hx hb htG in_wsX80 hown hK.1 hP 0 rfl rfl 5 (by decide) (htG _ g1_229) (fun _ h9 => h9) rfl dX8_count_59 ?_
        obtain ⟨zq4, hzq4, hm⟩ := bnk hm
        refine ko_e (va_runV (As := []) (rest := []) ⟨hx, hb, hml, hown, htG⟩ (kX3_length l g jP jT w _ hzq4) (cwV 0 htG (GV g3_151 g3_152 g3_153 g1_9 g3_154) rfl rfl rfl hd_X3_length ⟨Nat.le_of_ble_eq_true rfl, Nat.le_of_ble_eq_true rfl⟩) (PR_V hK hL hS hP [93, 94] rfl (ci := 3) rfl 93 rfl) rfl rfl hl.1 rfl (lv_room (Nat.le_of_ble_eq_true rfl)) dX8_count_62 ⟨Nat.zero_le _, Nat.zero_le _⟩) ?_
        exact W.iret (v := zq4) hx hb hr (fun t ht hW => ⟨_, rfl, (Option.some.inj hm), ht⟩) (fun _ h => nomatch h) dX8_count_65
      · replace hm := (if_neg zc3).symm.trans hm
        have ezc1 : p1.toInt ≠ 10 := fun e => zc1 (Int32.toInt_inj.mp (e.trans (by decide)))
        have ezc2 : p1.toInt ≠ 14 := fun e => zc2 (Int32.toInt_inj.mp (e.trans (by decide)))
        have ezc3 : p1.toInt ≠ 15 := fun e => zc3 (Int32.toInt_inj.mp (e.trans (by decide)))
        refine lv_lookup (tgt := 66) (off := 65) hx hb dX8_count_1 (by decide +kernel) (by show Op.lookupswitch.offset [(10, 35), (14, 49), (15, 57)] 65 _ = _; rw [lv_osw zc1 (by decide), lv_osw zc2 (by decide), lv_osw zc3 (by decide)]; rfl) (by decide) ?_
        refine lv_aload_n hx hb dX8_count_66 rfl (lv_at hl 0 rfl) ?_
        refine va_get (D := g.1) (ci := 7) (v := .ref (aN 0)) (C := RX8) (T := TX8) (N := 8) hx hb htG in_wsX80 hown hK.1 hP 0 rfl rfl 0 (by decide) (htG _ g1_224) (fun _ h9 => h9) rfl dX8_count_67 ?_
        refine lv_iload_n hx hb dX8_count_70 rfl (lv_at hl 1 rfl) ?_
        obtain ⟨zq5, hzq5, hm⟩ := bdk hm
        refine ko_e (va_runV (As := [.int p1]) (rest := []) ⟨hx, hb, hml, hown, htG⟩ (kX6_total l g aN xN p1 _ hzq5) (cwV 1 htG (GV g3_155 g3_156 g3_157 g1_2 g3_158) rfl rfl rfl hd_X6_total ⟨Nat.le_of_ble_eq_true rfl, Nat.le_of_ble_eq_true rfl⟩) (PR_V hK hL hS hP [1, 2, 3, 4, 5, 6, 7, 8, 9, 10, 11, 12, 13, 14, 15, 16, 17, 18] rfl (ci := 5) rfl 1 rfl) rfl rfl hl.1 rfl (lv_room (Nat.le_of_ble_eq_true rfl)) dX8_count_71 ⟨Nat.zero_le _, Nat.zero_le _⟩) ?_
        exact W.iret (v := zq5) hx hb hr (fun t ht hW => ⟨_, rfl, (Option.some.inj hm), ht⟩) (fun _ h => nomatch h) dX8_count_74
