def fX9_firm (x : MD) (p1 : Int32) (p2 : Int32) : Option (Int32) := (if (fX9_in p1 0 5) = 0 then some (-1) else (if p2 = 0 then (if ib (2 + p1) 5845 = true then some (x.1 ((2 + p1).toNatClampNeg)) else none) else (if p2 = 1 then ((fX9_offered x 0 p1).bind (fun zq5 => some zq5)) else (if p2 = 2 then ((fX9_bidsOf x 0 p1).bind (fun zq7 => some zq7)) else (if p2 = 3 then ((fX9_awarded x p1).bind (fun zq9 => some zq9)) else (if p2 = 4 then (if ib (8 + p1) 5845 = true then some (x.1 ((8 + p1).toNatClampNeg)) else none) else (if p2 = 5 then (if ib (14 + p1) 5845 = true then some (x.1 ((14 + p1).toNatClampNeg)) else none) else (if p2 = 6 then (if ib (20 + p1) 5845 = true then some (x.1 ((20 + p1).toNatClampNeg)) else none) else some (-2)))))))))
abbrev rm_X9_firm : Jvm.Room := { frames := 2, cells := 0, slots := 0, locals := 46 }
theorem hd_X9_firm : yX9_firm.cls = RX9 ∧ yX9_firm.cls ≠ "java/lang/invoke/MethodHandle" ∧ yX9_firm.cls ≠ "java/lang/invoke/VarHandle" ∧ (parseMethodDescriptor yX9_firm.desc).map (fun d => d.parameters.length) = some 2 := by decide +kernel
set_option maxHeartbeats 4000000 in
set_option maxRecDepth 100000 in
theorem kX9_firm (l : Launch) (g : CX) (h0 h1 h2 h3 : Nat) (x : MD) (p1 : Int32) (p2 : Int32) (res : Int32) (hm0 : fX9_firm x p1 p2 = some res) : Met l yX9_firm (wg yX9_firm cX9_firm 3 (some .int)) rm_X9_firm (PR g [.ref h0, .int p1, .int p2] (w_X9 g h0 h1 h2 h3 x)) (vp_Si (fun v => v = res)) 0 0 (fun _ => False) := by
  refine Met.ofW (cc := cX9_firm) (maxL := 3) (ret := (some .int)) (by decide) rfl ?_
  intro p e s m args below meth c s₁ B hml hv
  obtain ⟨rfl, hP, hK, hL⟩ := hv
  have hx := B.exec
  have hb := B.bytes
  have hr := B.returns
  have htG := wg_G (atoms_spec (ws := wg yX9_firm cX9_firm 3 (some .int)) B.pre)
  have hown : s.vm.findClass RX9 = some m.cls := findClass_of_methodNamed B.named
  have hlocks := B.notSynchronized
  have hS : va_S (fun _ => False) s.heap s.heap [] := va_S.rf
  have hl := lv_entry ([.ref h0, .int p1, .int p2]) (n := 3) (Nat.le_of_ble_eq_true rfl)
  rw [lg_entry_eq]
  generalize (lg_sl ([.ref h0, .int p1, .int p2]) ++ List.replicate (3 - (lg_sl ([.ref h0, .int p1, .int p2])).length) Slot.unset).toArray = ls at hl ⊢
  have hl : lv_has ls 3 [(0, .ref h0), (1, .int p1), (2, .int p2)] := hl
  have hm := hm0
  unfold fX9_firm at hm
  refine lv_iload_n hx hb dX9_firm_0 rfl (lv_at hl 1 rfl) ?_
  refine lv_iconst (v := 0) hx hb dX9_firm_1 (by decide) ?_
  refine lv_iconst (v := 5) hx hb dX9_firm_2 (by decide) ?_
  refine ko_e (va_runS (As := [.int p1, .int 0, .int 5]) (rest := []) ⟨hx, hb, hml, hown, htG⟩ (kX9_in l g p1 0 5 _ rfl) (va_cwS 3 htG (GS g4_1 g4_2 g1_10 g4_3) rfl rfl rfl hs_X9_in ⟨Nat.le_of_ble_eq_true rfl, Nat.le_of_ble_eq_true rfl⟩) (PR_S hK hL hS hP [] rfl) rfl rfl hl.1 rfl (lv_room (Nat.le_of_ble_eq_true rfl)) dX9_firm_3 ⟨Nat.zero_le _, Nat.zero_le _⟩) ?_
  refine lv_if_ne (tgt := 11) hx hb dX9_firm_6 (by decide) (fun zc1 => ?_) (fun zc1 => ?_)
  · replace hm := (if_neg zc1).symm.trans hm
    refine lv_iload_n hx hb dX9_firm_11 rfl (lv_at hl 2 rfl) ?_
    by_cases zc2 : p2 = 0
    · replace hm := (if_pos zc2).symm.trans hm
      refine lv_tableIn (tgt := 56) hx hb dX9_firm_12 (by rw [zc2]; decide) (by rw [zc2]; decide) (by rw [zc2]; rfl) (by decide) ?_
      refine lv_aload_n hx hb dX9_firm_56 rfl (lv_at hl 0 rfl) ?_
      refine va_get (D := g.1) (ci := 8) (v := .ref h1) (C := RX9) (T := TX9) (N := 11) hx hb htG in_wsX90 hown hK.1 hP 0 rfl rfl 0 (by decide) (htG _ g3_195) (fun _ h9 => h9) rfl dX9_firm_57 ?_
      refine lv_iconst (v := 2) hx hb dX9_firm_60 (by decide) ?_
      refine lv_iload_n hx hb dX9_firm_61 rfl (lv_at hl 1 rfl) ?_
      refine lv_iadd hx hb dX9_firm_62 ?_
      obtain ⟨zb3, hm⟩ := ibk hm
      refine va_iald hx hb hK.1 hP 1 0 rfl rfl zb3 dX9_firm_63 ?_
      exact W.iret (v := (x.1 ((2 + p1).toNatClampNeg))) hx hb hr (fun t ht hW => ⟨_, rfl, (Option.some.inj hm), ht⟩) (fun _ h => nomatch h) dX9_firm_64
    · replace hm := (if_neg zc2).symm.trans hm
      by_cases zc4 : p2 = 1
      · replace hm := (if_pos zc4).symm.trans hm
        refine lv_tableIn (tgt := 65) hx hb dX9_firm_12 (by rw [zc4]; decide) (by rw [zc4]; decide) (by rw [zc4]; rfl) (by decide) ?_
        refine lv_aload_n hx hb dX9_firm_65 rfl (lv_at hl 0 rfl) ?_
        refine lv_iconst (v := 0) hx hb dX9_firm_66 (by decide) ?_
        refine lv_iload_n hx hb dX9_firm_67 rfl (lv_at hl 1 rfl) ?_
        obtain ⟨zq5, hzq5, hm⟩ := bdk hm
        refine ko_e (va_runV (As := [.int 0, .int p1]) (rest := []) ⟨hx, hb, hml, hown, htG⟩ (kX9_offered l g h0 h1 h2 h3 x 0 p1 _ hzq5) (cwV 2 htG (GV g4_38 g4_40 gS_17 g1_10 g4_41) rfl rfl rfl hd_X9_offered ⟨Nat.le_of_ble_eq_true rfl, Nat.le_of_ble_eq_true rfl⟩) (PR_VA hK hL hS hP (ci := 8) rfl 0 rfl) rfl rfl hl.1 rfl (lv_room (Nat.le_of_ble_eq_true rfl)) dX9_firm_68 ⟨Nat.zero_le _, Nat.zero_le _⟩) ?_
        exact W.iret (v := zq5) hx hb hr (fun t ht hW => ⟨_, rfl, (Option.some.inj hm), ht⟩) (fun _ h => nomatch h) dX9_firm_71
      · replace hm := (if_neg zc4).symm.trans hm
        by_cases zc6 : p2 = 2
        · replace hm := (if_pos zc6).symm.trans hm
          refine lv_tableIn (tgt := 72) hx hb dX9_firm_12 (by rw [zc6]; decide) (by rw [zc6]; decide) (by rw [zc6]; rfl) (by decide) ?_
          refine lv_aload_n hx hb dX9_firm_72 rfl (lv_at hl 0 rfl) ?_
          refine lv_iconst (v := 0) hx hb dX9_firm_73 (by decide) ?_
          refine lv_iload_n hx hb dX9_firm_74 rfl (lv_at hl 1 rfl) ?_
          obtain ⟨zq7, hzq7, hm⟩ := bdk hm
          refine ko_e (va_runV (As := [.int 0, .int p1]) (rest := []) ⟨hx, hb, hml, hown, htG⟩ (kX9_bidsOf l g h0 h1 h2 h3 x 0 p1 _ hzq7) (cwV 2 htG (GV g4_156 g4_158 gS_32 g1_10 g4_159) rfl rfl rfl hd_X9_bidsOf ⟨Nat.le_of_ble_eq_true rfl, Nat.le_of_ble_eq_true rfl⟩) (PR_VA hK hL hS hP (ci := 8) rfl 0 rfl) rfl rfl hl.1 rfl (lv_room (Nat.le_of_ble_eq_true rfl)) dX9_firm_75 ⟨Nat.zero_le _, Nat.zero_le _⟩) ?_
          exact W.iret (v := zq7) hx hb hr (fun t ht hW => ⟨_, rfl, (Option.some.inj hm), ht⟩) (fun _ h => nomatch h) dX9_firm_78
        · replace hm := (if_neg zc6).symm.trans hm
          by_cases zc8 : p2 = 3
          · replace hm := (if_pos zc8).symm.trans hm
            refine lv_tableIn (tgt := 79) hx hb dX9_firm_12 (by rw [zc8]; decide) (by rw [zc8]; decide) (by rw [zc8]; rfl) (by decide) ?_
            refine lv_aload_n hx hb dX9_firm_79 rfl (lv_at hl 0 rfl) ?_
            refine lv_iload_n hx hb dX9_firm_80 rfl (lv_at hl 1 rfl) ?_
            obtain ⟨zq9, hzq9, hm⟩ := bdk hm
            refine ko_e (va_runV (As := [.int p1]) (rest := []) ⟨hx, hb, hml, hown, htG⟩ (kX9_awarded l g h0 h1 h2 h3 x p1 _ hzq9) (cwV 1 htG (GV g4_160 g4_162 gS_33 g1_10 g4_163) rfl rfl rfl hd_X9_awarded ⟨Nat.le_of_ble_eq_true rfl, Nat.le_of_ble_eq_true rfl⟩) (PR_VA hK hL hS hP (ci := 8) rfl 0 rfl) rfl rfl hl.1 rfl (lv_room (Nat.le_of_ble_eq_true rfl)) dX9_firm_81 ⟨Nat.zero_le _, Nat.zero_le _⟩) ?_
            exact W.iret (v := zq9) hx hb hr (fun t ht hW => ⟨_, rfl, (Option.some.inj hm), ht⟩) (fun _ h => nomatch h) dX9_firm_84
          · replace hm := (if_neg zc8).symm.trans hm
            by_cases zc10 : p2 = 4
            · replace hm := (if_pos zc10).symm.trans hm
              refine lv_tableIn (tgt := 85) hx hb dX9_firm_12 (by rw [zc10]; decide) (by rw [zc10]; decide) (by rw [zc10]; rfl) (by decide) ?_
              refine lv_aload_n hx hb dX9_firm_85 rfl (lv_at hl 0 rfl) ?_
              refine va_get (D := g.1) (ci := 8) (v := .ref h1) (C := RX9) (T := TX9) (N := 11) hx hb htG in_wsX90 hown hK.1 hP 0 rfl rfl 0 (by decide) (htG _ g3_195) (fun _ h9 => h9) rfl dX9_firm_86 ?_
              refine lv_bipush (v := 8) hx hb dX9_firm_89 (by decide +kernel) ?_
              refine lv_iload_n hx hb dX9_firm_91 rfl (lv_at hl 1 rfl) ?_
              refine lv_iadd hx hb dX9_firm_92 ?_
              obtain ⟨zb11, hm⟩ := ibk hm
              refine va_iald hx hb hK.1 hP 1 0 rfl rfl zb11 dX9_firm_93 ?_
              exact W.iret (v := (x.1 ((8 + p1).toNatClampNeg))) hx hb hr (fun t ht hW => ⟨_, rfl, (Option.some.inj hm), ht⟩) (fun _ h => nomatch h) dX9_firm_94
            · replace hm := (if_neg zc10).symm.trans hm
              by_cases zc12 : p2 = 5
              · replace hm := (if_pos zc12).symm.trans hm
                refine lv_tableIn (tgt := 95) hx hb dX9_firm_12 (by rw [zc12]; decide) (by rw [zc12]; decide) (by rw [zc12]; rfl) (by decide) ?_
                refine lv_aload_n hx hb dX9_firm_95 rfl (lv_at hl 0 rfl) ?_
                refine va_get (D := g.1) (ci := 8) (v := .ref h1) (C := RX9) (T := TX9) (N := 11) hx hb htG in_wsX90 hown hK.1 hP 0 rfl rfl 0 (by decide) (htG _ g3_195) (fun _ h9 => h9) rfl dX9_firm_96 ?_
                refine lv_bipush (v := 14) hx hb dX9_firm_99 (by decide +kernel) ?_
                refine lv_iload_n hx hb dX9_firm_101 rfl (lv_at hl 1 rfl) ?_
                refine lv_iadd hx hb dX9_firm_102 ?_
                obtain ⟨zb13, hm⟩ := ibk hm
                refine va_iald hx hb hK.1 hP 1 0 rfl rfl zb13 dX9_firm_103 ?_
                exact W.iret (v := (x.1 ((14 + p1).toNatClampNeg))) hx hb hr (fun t ht hW => ⟨_, rfl, (Option.some.inj hm), ht⟩) (fun _ h => nomatch h) dX9_firm_104
              · replace hm := (if_neg zc12).symm.trans hm
                by_cases zc14 : p2 = 6
                · replace hm := (if_pos zc14).symm.trans hm
                  refine lv_tableIn (tgt := 105) hx hb dX9_firm_12 (by rw [zc14]; decide) (by rw [zc14]; decide) (by rw [zc14]; rfl) (by decide) ?_
                  refine lv_aload_n hx hb dX9_firm_105 rfl (lv_at hl 0 rfl) ?_
                  refine va_get (D := g.1) (ci := 8) (v := .ref h1) (C := RX9) (T := TX9) (N := 11) hx hb htG in_wsX90 hown hK.1 hP 0 rfl rfl 0 (by decide) (htG _ g3_195) (fun _ h9 => h9) rfl dX9_firm_106 ?_
                  refine lv_bipush (v := 20) hx hb dX9_firm_109 (by decide +kernel) ?_
                  refine lv_iload_n hx hb dX9_firm_111 rfl (lv_at hl 1 rfl) ?_
                  refine lv_iadd hx hb dX9_firm_112 ?_
                  obtain ⟨zb15, hm⟩ := ibk hm
                  refine va_iald hx hb hK.1 hP 1 0 rfl rfl zb15 dX9_firm_113 ?_
                  exact W.iret (v := (x.1 ((20 + p1).toNatClampNeg))) hx hb hr (fun t ht hW => ⟨_, rfl, (Option.some.inj hm), ht⟩) (fun _ h => nomatch h) dX9_firm_114
                · replace hm := (if_neg zc14).symm.trans hm
                  have ezc2 : p2.toInt ≠ 0 := fun e => zc2 (Int32.toInt_inj.mp (e.trans (by decide)))
                  have ezc4 : p2.toInt ≠ 1 := fun e => zc4 (Int32.toInt_inj.mp (e.trans (by decide)))
                  have ezc6 : p2.toInt ≠ 2 := fun e => zc6 (Int32.toInt_inj.mp (e.trans (by decide)))
                  have ezc8 : p2.toInt ≠ 3 := fun e => zc8 (Int32.toInt_inj.mp (e.trans (by decide)))
                  have ezc10 : p2.toInt ≠ 4 := fun e => zc10 (Int32.toInt_inj.mp (e.trans (by decide)))
                  have ezc12 : p2.toInt ≠ 5 := fun e => zc12 (Int32.toInt_inj.mp (e.trans (by decide)))
                  have ezc14 : p2.toInt ≠ 6 := fun e => zc14 (Int32.toInt_inj.mp (e.trans (by decide)))
                  refine lv_tableOut (tgt := 115) hx hb dX9_firm_12 (by omega) (by decide) ?_
                  refine lv_bipush (v := (-2)) hx hb dX9_firm_115 (by decide +kernel) ?_
                  exact W.iret (v := (-2)) hx hb hr (fun t ht hW => ⟨_, rfl, (Option.some.inj hm), ht⟩) (fun _ h => nomatch h) dX9_firm_117
  · replace hm := (if_pos zc1).symm.trans hm
    refine lv_iconst (v := (-1)) hx hb dX9_firm_9 (by decide) ?_
    exact W.iret (v := (-1)) hx hb hr (fun t ht hW => ⟨_, rfl, (Option.some.inj hm), ht⟩) (fun _ h => nomatch h) dX9_firm_10
def fX9_slot (x : MD) (p1 : Int32) (p2 : Int32) (p3 : Int32) : Option (Int32) := (if (fX9_isSlot p1 p2) = 0 then some (-1) else (if p3 = 0 then (if ib (51 + (fX9_place p1 p2)) 5845 = true then (if 0 ≤ (x.1 ((51 + (fX9_place p1 p2)).toNatClampNeg)) then some (x.1 ((51 + (fX9_place p1 p2)).toNatClampNeg)) else some (-5)) else none) else (if p3 = 1 then (if ib (99 + (fX9_place p1 p2)) 5845 = true then some (x.1 ((99 + (fX9_place p1 p2)).toNatClampNeg)) else none) else (if p3 = 2 then (if ib (147 + (fX9_place p1 p2)) 5845 = true then some (x.1 ((147 + (fX9_place p1 p2)).toNatClampNeg)) else none) else (if p3 = 3 then ((fX9_bidsFor x 0 (fX9_place p1 p2)).bind (fun zq10 => some zq10)) else (if p3 = 4 then ((fX9_highest x (fX9_place p1 p2)).bind (fun zq12 => some zq12)) else (if p3 = 5 then ((fX9_isDone x 0 p2).bind (fun zq14 => (if zq14 = 0 then some 0 else some 1))) else (if p3 = 6 then (if ib (195 + (fX9_place p1 p2)) 5845 = true then (if 0 ≤ (x.1 ((195 + (fX9_place p1 p2)).toNatClampNeg)) then some (x.1 ((195 + (fX9_place p1 p2)).toNatClampNeg)) else some (-5)) else none) else some (-2)))))))))
abbrev rm_X9_slot : Jvm.Room := { frames := 2, cells := 0, slots := 0, locals := 43 }
theorem hd_X9_slot : yX9_slot.cls = RX9 ∧ yX9_slot.cls ≠ "java/lang/invoke/MethodHandle" ∧ yX9_slot.cls ≠ "java/lang/invoke/VarHandle" ∧ (parseMethodDescriptor yX9_slot.desc).map (fun d => d.parameters.length) = some 3 := by decide +kernel
set_option maxHeartbeats 4000000 in
set_option maxRecDepth 100000 in
theorem kX9_slot (l : Launch) (g : CX) (h0 h1 h2 h3 : Nat) (x : MD) (p1 : Int32) (p2 : Int32) (p3 : Int32) (res : Int32) (hm0 : fX9_slot x p1 p2 p3 = some res) : Met l yX9_slot (wg yX9_slot cX9_slot 5 (some .int)) rm_X9_slot (PR g [.ref h0, .int p1, .int p2, .int p3] (w_X9 g h0 h1 h2 h3 x)) (vp_Si (fun v => v = res)) 0 0 (fun _ => False) := by
  refine Met.ofW (cc := cX9_slot) (maxL := 5) (ret := (some .int)) (by decide) rfl ?_
  intro p e s m args below meth c s₁ B hml hv
  obtain ⟨rfl, hP, hK, hL⟩ := hv
  have hx := B.exec
  have hb := B.bytes
  have hr := B.returns
  have htG := wg_G (atoms_spec (ws := wg yX9_slot cX9_slot 5 (some .int)) B.pre)
  have hown : s.vm.findClass RX9 = some m.cls := findClass_of_methodNamed B.named
  have hlocks := B.notSynchronized
  have hS : va_S (fun _ => False) s.heap s.heap [] := va_S.rf
  have hl := lv_entry ([.ref h0, .int p1, .int p2, .int p3]) (n := 5) (Nat.le_of_ble_eq_true rfl)
  rw [lg_entry_eq]
  generalize (lg_sl ([.ref h0, .int p1, .int p2, .int p3]) ++ List.replicate (5 - (lg_sl ([.ref h0, .int p1, .int p2, .int p3])).length) Slot.unset).toArray = ls at hl ⊢
  have hl : lv_has ls 5 [(0, .ref h0), (1, .int p1), (2, .int p2), (3, .int p3)] := hl
  have hm := hm0
  unfold fX9_slot at hm
  refine lv_iload_n hx hb dX9_slot_0 rfl (lv_at hl 1 rfl) ?_
  refine lv_iload_n hx hb dX9_slot_1 rfl (lv_at hl 2 rfl) ?_
  refine ko_e (va_runS (As := [.int p1, .int p2]) (rest := []) ⟨hx, hb, hml, hown, htG⟩ (kX9_isSlot l g p1 p2 _ rfl) (va_cwS 2 htG (GS g4_54 g4_55 g1_10 g4_56) rfl rfl rfl hs_X9_isSlot ⟨Nat.le_of_ble_eq_true rfl, Nat.le_of_ble_eq_true rfl⟩) (PR_S hK hL hS hP [] rfl) rfl rfl hl.1 rfl (lv_room (Nat.le_of_ble_eq_true rfl)) dX9_slot_2 ⟨Nat.zero_le _, Nat.zero_le _⟩) ?_
  refine lv_if_ne (tgt := 10) hx hb dX9_slot_5 (by decide) (fun zc1 => ?_) (fun zc1 => ?_)
  · replace hm := (if_neg zc1).symm.trans hm
    refine lv_iload_n hx hb dX9_slot_10 rfl (lv_at hl 1 rfl) ?_
    refine lv_iload_n hx hb dX9_slot_11 rfl (lv_at hl 2 rfl) ?_
    refine ko_e (va_runS (As := [.int p1, .int p2]) (rest := []) ⟨hx, hb, hml, hown, htG⟩ (kX9_place l g p1 p2 _ rfl) (va_cwS 2 htG (GS g4_35 g4_36 g1_10 g4_37) rfl rfl rfl hs_X9_place ⟨Nat.le_of_ble_eq_true rfl, Nat.le_of_ble_eq_true rfl⟩) (PR_S hK hL hS hP [] rfl) rfl rfl hl.1 rfl (lv_room (Nat.le_of_ble_eq_true rfl)) dX9_slot_12 ⟨Nat.zero_le _, Nat.zero_le _⟩) ?_
    refine lv_istore (lv' := [(4, .int (fX9_place p1 p2)), (0, .ref h0), (1, .int p1), (2, .int p2), (3, .int p3)]) hx hb dX9_slot_15 hl (by decide) rfl (fun ls hl => ?_)
    refine lv_iload_n hx hb dX9_slot_17 rfl (lv_at hl 4 rfl) ?_
    by_cases zc2 : p3 = 0
    · replace hm := (if_pos zc2).symm.trans hm
      refine lv_tableIn (tgt := 60) hx hb dX9_slot_18 (by rw [zc2]; decide) (by rw [zc2]; decide) (by rw [zc2]; rfl) (by decide) ?_
      refine lv_aload_n hx hb dX9_slot_60 rfl (lv_at hl 1 rfl) ?_
      refine va_get (D := g.1) (ci := 8) (v := .ref h1) (C := RX9) (T := TX9) (N := 11) hx hb htG in_wsX90 hown hK.1 hP 0 rfl rfl 0 (by decide) (htG _ g3_195) (fun _ h9 => h9) rfl dX9_slot_61 ?_
      refine lv_bipush (v := 51) hx hb dX9_slot_64 (by decide +kernel) ?_
      refine lv_iload hx hb dX9_slot_66 (lv_at hl 0 rfl) ?_
      refine lv_iadd hx hb dX9_slot_68 ?_
      obtain ⟨zb3, hm⟩ := ibk hm
      refine va_iald hx hb hK.1 hP 1 0 rfl rfl zb3 dX9_slot_69 ?_
      refine lv_if_ge (tgt := 78) hx hb dX9_slot_70 (by decide) (fun zc4 => ?_) (fun zc4 => ?_)
      · replace hm := (if_pos zc4).symm.trans hm
        refine lv_aload_n hx hb dX9_slot_78 rfl (lv_at hl 1 rfl) ?_
        refine va_get (D := g.1) (ci := 8) (v := .ref h1) (C := RX9) (T := TX9) (N := 11) hx hb htG in_wsX90 hown hK.1 hP 0 rfl rfl 0 (by decide) (htG _ g3_195) (fun _ h9 => h9) rfl dX9_slot_79 ?_
        refine lv_bipush (v := 51) hx hb dX9_slot_82 (by decide +kernel) ?_
        refine lv_iload hx hb dX9_slot_84 (lv_at hl 0 rfl) ?_
        refine lv_iadd hx hb dX9_slot_86 ?_
        refine va_iald hx hb hK.1 hP 1 0 rfl rfl zb3 dX9_slot_87 ?_
        exact W.iret (v := (x.1 ((51 + (fX9_place p1 p2)).toNatClampNeg))) hx hb hr (fun t ht hW => ⟨_, rfl, (Option.some.inj hm), ht⟩) (fun _ h => nomatch h) dX9_slot_88
      · replace hm := (if_neg zc4).symm.trans hm
        refine lv_bipush (v := (-5)) hx hb dX9_slot_73 (by decide +kernel) ?_
        refine lv_goto (tgt := 88) hx hb dX9_slot_75 (by decide) ?_
        exact W.iret (v := (-5)) hx hb hr (fun t ht hW => ⟨_, rfl, (Option.some.inj hm), ht⟩) (fun _ h => nomatch h) dX9_slot_88
    · replace hm := (if_neg zc2).symm.trans hm
      by_cases zc5 : p3 = 1
      · replace hm := (if_pos zc5).symm.trans hm
        refine lv_tableIn (tgt := 89) hx hb dX9_slot_18 (by rw [zc5]; decide) (by rw [zc5]; decide) (by rw [zc5]; rfl) (by decide) ?_
        refine lv_aload_n hx hb dX9_slot_89 rfl (lv_at hl 1 rfl) ?_
        refine va_get (D := g.1) (ci := 8) (v := .ref h1) (C := RX9) (T := TX9) (N := 11) hx hb htG in_wsX90 hown hK.1 hP 0 rfl rfl 0 (by decide) (htG _ g3_195) (fun _ h9 => h9) rfl dX9_slot_90 ?_
        refine lv_bipush (v := 99) hx hb dX9_slot_93 (by decide +kernel) ?_
        refine lv_iload hx hb dX9_slot_95 (lv_at hl 0 rfl) ?_
        refine lv_iadd hx hb dX9_slot_97 ?_
        obtain ⟨zb6, hm⟩ := ibk hm
        refine va_iald hx hb hK.1 hP 1 0 rfl rfl zb6 dX9_slot_98 ?_
        exact W.iret (v := (x.1 ((99 + (fX9_place p1 p2)).toNatClampNeg))) hx hb hr (fun t ht hW => ⟨_, rfl, (Option.some.inj hm), ht⟩) (fun _ h => nomatch h) dX9_slot_99
      · replace hm := (if_neg zc5).symm.trans hm
        by_cases zc7 : p3 = 2
        · replace hm := (if_pos zc7).symm.trans hm
          refine lv_tableIn (tgt := 100) hx hb dX9_slot_18 (by rw [zc7]; decide) (by rw [zc7]; decide) (by rw [zc7]; rfl) (by decide) ?_
          refine lv_aload_n hx hb dX9_slot_100 rfl (lv_at hl 1 rfl) ?_
          refine va_get (D := g.1) (ci := 8) (v := .ref h1) (C := RX9) (T := TX9) (N := 11) hx hb htG in_wsX90 hown hK.1 hP 0 rfl rfl 0 (by decide) (htG _ g3_195) (fun _ h9 => h9) rfl dX9_slot_101 ?_
          refine lv_sipush (v := 147) hx hb dX9_slot_104 (by decide +kernel) ?_
          refine lv_iload hx hb dX9_slot_107 (lv_at hl 0 rfl) ?_
          refine lv_iadd hx hb dX9_slot_109 ?_
          obtain ⟨zb8, hm⟩ := ibk hm
          refine va_iald hx hb hK.1 hP 1 0 rfl rfl zb8 dX9_slot_110 ?_
          exact W.iret (v := (x.1 ((147 + (fX9_place p1 p2)).toNatClampNeg))) hx hb hr (fun t ht hW => ⟨_, rfl, (Option.some.inj hm), ht⟩) (fun _ h => nomatch h) dX9_slot_111
        · replace hm := (if_neg zc7).symm.trans hm
          by_cases zc9 : p3 = 3
          · replace hm := (if_pos zc9).symm.trans hm
            refine lv_tableIn (tgt := 112) hx hb dX9_slot_18 (by rw [zc9]; decide) (by rw [zc9]; decide) (by rw [zc9]; rfl) (by decide) ?_
            refine lv_aload_n hx hb dX9_slot_112 rfl (lv_at hl 1 rfl) ?_
            refine lv_iconst (v := 0) hx hb dX9_slot_113 (by decide) ?_
            refine lv_iload hx hb dX9_slot_114 (lv_at hl 0 rfl) ?_
            obtain ⟨zq10, hzq10, hm⟩ := bdk hm
            refine ko_e (va_runV (As := [.int 0, .int (fX9_place p1 p2)]) (rest := []) ⟨hx, hb, hml, hown, htG⟩ (kX9_bidsFor l g h0 h1 h2 h3 x 0 (fX9_place p1 p2) _ hzq10) (cwV 2 htG (GV g4_46 g4_48 gS_19 g1_10 g4_49) rfl rfl rfl hd_X9_bidsFor ⟨Nat.le_of_ble_eq_true rfl, Nat.le_of_ble_eq_true rfl⟩) (PR_VA hK hL hS hP (ci := 8) rfl 0 rfl) rfl rfl hl.1 rfl (lv_room (Nat.le_of_ble_eq_true rfl)) dX9_slot_116 ⟨Nat.zero_le _, Nat.zero_le _⟩) ?_
            exact W.iret (v := zq10) hx hb hr (fun t ht hW => ⟨_, rfl, (Option.some.inj hm), ht⟩) (fun _ h => nomatch h) dX9_slot_119
          · replace hm := (if_neg zc9).symm.trans hm
            by_cases zc11 : p3 = 4
            · replace hm := (if_pos zc11).symm.trans hm
              refine lv_tableIn (tgt := 120) hx hb dX9_slot_18 (by rw [zc11]; decide) (by rw [zc11]; decide) (by rw [zc11]; rfl) (by decide) ?_
              refine lv_aload_n hx hb dX9_slot_120 rfl (lv_at hl 1 rfl) ?_
              refine lv_iload hx hb dX9_slot_121 (lv_at hl 0 rfl) ?_
              obtain ⟨zq12, hzq12, hm⟩ := bdk hm
              refine ko_e (va_runV (As := [.int (fX9_place p1 p2)]) (rest := []) ⟨hx, hb, hml, hown, htG⟩ (kX9_highest l g h0 h1 h2 h3 x (fX9_place p1 p2) _ hzq12) (cwV 1 htG (GV g4_168 g4_170 gS_34 g1_10 g4_171) rfl rfl rfl hd_X9_highest ⟨Nat.le_of_ble_eq_true rfl, Nat.le_of_ble_eq_true rfl⟩) (PR_VA hK hL hS hP (ci := 8) rfl 0 rfl) rfl rfl hl.1 rfl (lv_room (Nat.le_of_ble_eq_true rfl)) dX9_slot_123 ⟨Nat.zero_le _, Nat.zero_le _⟩) ?_
              exact W.iret (v := zq12) hx hb hr (fun t ht hW => ⟨_, rfl, (Option.some.inj hm), ht⟩) (fun _ h => nomatch h) dX9_slot_126
            · replace hm := (if_neg zc11).symm.trans hm
              by_cases zc13 : p3 = 5
              · replace hm := (if_pos zc13).symm.trans hm
                refine lv_tableIn (tgt := 127) hx hb dX9_slot_18 (by rw [zc13]; decide) (by rw [zc13]; decide) (by rw [zc13]; rfl) (by decide) ?_
                refine lv_aload_n hx hb dX9_slot_127 rfl (lv_at hl 1 rfl) ?_
                refine lv_iconst (v := 0) hx hb dX9_slot_128 (by decide) ?_
                refine lv_iload_n hx hb dX9_slot_129 rfl (lv_at hl 3 rfl) ?_
                obtain ⟨zq14, hzq14, hm⟩ := bdk hm
                refine ko_e (va_runV (As := [.int 0, .int p2]) (rest := []) ⟨hx, hb, hml, hown, htG⟩ (kX9_isDone l g h0 h1 h2 h3 x 0 p2 _ hzq14) (cwV 2 htG (GV g4_4 g4_6 gS_12 g1_10 g4_7) rfl rfl rfl hd_X9_isDone ⟨Nat.le_of_ble_eq_true rfl, Nat.le_of_ble_eq_true rfl⟩) (PR_VA hK hL hS hP (ci := 8) rfl 0 rfl) rfl rfl hl.1 rfl (lv_room (Nat.le_of_ble_eq_true rfl)) dX9_slot_130 ⟨Nat.zero_le _, Nat.zero_le _⟩) ?_
                refine lv_if_eq (tgt := 140) hx hb dX9_slot_133 (by decide) (fun zc15 => ?_) (fun zc15 => ?_)
                · replace hm := (if_pos zc15).symm.trans hm
                  refine lv_iconst (v := 0) hx hb dX9_slot_140 (by decide) ?_
                  exact W.iret (v := 0) hx hb hr (fun t ht hW => ⟨_, rfl, (Option.some.inj hm), ht⟩) (fun _ h => nomatch h) dX9_slot_141
                · replace hm := (if_neg zc15).symm.trans hm
                  refine lv_iconst (v := 1) hx hb dX9_slot_136 (by decide) ?_
                  refine lv_goto (tgt := 141) hx hb dX9_slot_137 (by decide) ?_
                  exact W.iret (v := 1) hx hb hr (fun t ht hW => ⟨_, rfl, (Option.some.inj hm), ht⟩) (fun _ h => nomatch h) dX9_slot_141
              · replace hm := (if_neg zc13).symm.trans hm
                by_cases zc16 : p3 = 6
                · replace hm := (if_pos zc16).symm.trans hm
                  refine lv_tableIn (tgt := 142) hx hb dX9_slot_18 (by rw [zc16]; decide) (by rw [zc16]; decide) (by rw [zc16]; rfl) (by decide) ?_
                  refine lv_aload_n hx hb dX9_slot_142 rfl (lv_at hl 1 rfl) ?_
                  refine va_get (D := g.1) (ci := 8) (v := .ref h1) (C := RX9) (T := TX9) (N := 11) hx hb htG in_wsX90 hown hK.1 hP 0 rfl rfl 0 (by decide) (htG _ g3_195) (fun _ h9 => h9) rfl dX9_slot_143 ?_
                  refine lv_sipush (v := 195) hx hb dX9_slot_146 (by decide +kernel) ?_
                  refine lv_iload hx hb dX9_slot_149 (lv_at hl 0 rfl) ?_
                  refine lv_iadd hx hb dX9_slot_151 ?_
                  obtain ⟨zb17, hm⟩ := ibk hm
                  refine va_iald hx hb hK.1 hP 1 0 rfl rfl zb17 dX9_slot_152 ?_
                  refine lv_if_ge (tgt := 161) hx hb dX9_slot_153 (by decide) (fun zc18 => ?_) (fun zc18 => ?_)
                  · replace hm := (if_pos zc18).symm.trans hm
                    refine lv_aload_n hx hb dX9_slot_161 rfl (lv_at hl 1 rfl) ?_
                    refine va_get (D := g.1) (ci := 8) (v := .ref h1) (C := RX9) (T := TX9) (N := 11) hx hb htG in_wsX90 hown hK.1 hP 0 rfl rfl 0 (by decide) (htG _ g3_195) (fun _ h9 => h9) rfl dX9_slot_162 ?_
                    refine lv_sipush (v := 195) hx hb dX9_slot_165 (by decide +kernel) ?_
                    refine lv_iload hx hb dX9_slot_168 (lv_at hl 0 rfl) ?_
                    refine lv_iadd hx hb dX9_slot_170 ?_
                    refine va_iald hx hb hK.1 hP 1 0 rfl rfl zb17 dX9_slot_171 ?_
                    exact W.iret (v := (x.1 ((195 + (fX9_place p1 p2)).toNatClampNeg))) hx hb hr (fun t ht hW => ⟨_, rfl, (Option.some.inj hm), ht⟩) (fun _ h => nomatch h) dX9_slot_172
                  · replace hm := (if_neg zc18).symm.trans hm
                    refine lv_bipush (v := (-5)) hx hb dX9_slot_156 (by decide +kernel) ?_
                    refine lv_goto (tgt := 172) hx hb dX9_slot_158 (by decide) ?_
                    exact W.iret (v := (-5)) hx hb hr (fun t ht hW => ⟨_, rfl, (Option.some.inj hm), ht⟩) (fun _ h => nomatch h) dX9_slot_172
                · replace hm := (if_neg zc16).symm.trans hm
                  have ezc2 : p3.toInt ≠ 0 := fun e => zc2 (Int32.toInt_inj.mp (e.trans (by decide)))
                  have ezc5 : p3.toInt ≠ 1 := fun e => zc5 (Int32.toInt_inj.mp (e.trans (by decide)))
                  have ezc7 : p3.toInt ≠ 2 := fun e => zc7 (Int32.toInt_inj.mp (e.trans (by decide)))
                  have ezc9 : p3.toInt ≠ 3 := fun e => zc9 (Int32.toInt_inj.mp (e.trans (by decide)))
                  have ezc11 : p3.toInt ≠ 4 := fun e => zc11 (Int32.toInt_inj.mp (e.trans (by decide)))
                  have ezc13 : p3.toInt ≠ 5 := fun e => zc13 (Int32.toInt_inj.mp (e.trans (by decide)))
                  have ezc16 : p3.toInt ≠ 6 := fun e => zc16 (Int32.toInt_inj.mp (e.trans (by decide)))
                  refine lv_tableOut (tgt := 173) hx hb dX9_slot_18 (by omega) (by decide) ?_
                  refine lv_bipush (v := (-2)) hx hb dX9_slot_173 (by decide +kernel) ?_
                  exact W.iret (v := (-2)) hx hb hr (fun t ht hW => ⟨_, rfl, (Option.some.inj hm), ht⟩) (fun _ h => nomatch h) dX9_slot_175
  · replace hm := (if_pos zc1).symm.trans hm
    refine lv_iconst (v := (-1)) hx hb dX9_slot_8 (by decide) ?_
    exact W.iret (v := (-1)) hx hb hr (fun t ht hW => ⟨_, rfl, (Option.some.inj hm), ht⟩) (fun _ h => nomatch h) dX9_slot_9
def fX9_wouldCost (x : MD) (p1 : Int32) (p2 : Int32) (p3 : Int32) (p4 : Int32) (p5 : Int32) : Option (Int32 × MD) := ((fX9_copies x 0 6).bind (fun zq1 => ((fX9_bidsBy zq1 6 p1 p2 p3 p4 p5).bind (fun zq2 => (if 0 ≤ zq2.1 then ((fX9_awards zq2.2 5010 (fX9_place p2 p3)).bind (fun zq4 => (if zq4.1 = p1 then (if ib ((5010 + 147) + (fX9_place p2 p3)) 5845 = true then some (zq4.2.1 (((5010 + 147) + (fX9_place p2 p3)).toNatClampNeg), zq4.2) else none) else some ((-5), zq4.2)))) else some (zq2.1, zq2.2))))))
abbrev rm_X9_wouldCost : Jvm.Room := { frames := 4, cells := 0, slots := 0, locals := 103 }
theorem hd_X9_wouldCost : yX9_wouldCost.cls = RX9 ∧ yX9_wouldCost.cls ≠ "java/lang/invoke/MethodHandle" ∧ yX9_wouldCost.cls ≠ "java/lang/invoke/VarHandle" ∧ (parseMethodDescriptor yX9_wouldCost.desc).map (fun d => d.parameters.length) = some 5 := by decide +kernel
set_option maxHeartbeats 4000000 in
set_option maxRecDepth 100000 in
theorem kX9_wouldCost (l : Launch) (g : CX) (h0 h1 h2 h3 : Nat) (sz : Nat) (x : MD) (p1 : Int32) (p2 : Int32) (p3 : Int32) (p4 : Int32) (p5 : Int32) (res : Int32 × MD) (hm0 : fX9_wouldCost x p1 p2 p3 p4 p5 = some res) : Met l yX9_wouldCost (wg yX9_wouldCost cX9_wouldCost 9 (some .int)) rm_X9_wouldCost (PW g [.ref h0, .int p1, .int p2, .int p3, .int p4, .int p5] sz (w_X9 g h0 h1 h2 h3 x)) (va_Qi (fun v u => v = res.1 ∧ u = res.2) (fun u t => va_P g.1 vwCl (w_X9 g h0 h1 h2 h3 u) t.heap) (va_A (w_X9 g h0 h1 h2 h3 x) sz)) 0 0 (va_A (w_X9 g h0 h1 h2 h3 x) sz) := by
  refine Met.ofW (cc := cX9_wouldCost) (maxL := 9) (ret := (some .int)) (by decide) rfl ?_
  intro p e s m args below meth c s₁ B hml hv
  obtain ⟨rfl, hsz, hP, hK, hD0, hL⟩ := hv
  have hx := B.exec
  have hb := B.bytes
  have hr := B.returns
  have htG := wg_G (atoms_spec (ws := wg yX9_wouldCost cX9_wouldCost 9 (some .int)) B.pre)
  have hown : s.vm.findClass RX9 = some m.cls := findClass_of_methodNamed B.named
  have hlocks := B.notSynchronized
  subst hsz
  have hD := hD0.self (sz := s.heap.size)
  generalize hAe : va_A (w_X9 g h0 h1 h2 h3 x) s.heap.size = A at hD hL ⊢
  have hA : ∀ q : Nat, s.heap.size ≤ q → A q := fun q h => by rw [← hAe]; exact Or.inr h
  have hS : va_S A s.heap s.heap [] := va_S.rf
  have hl := lv_entry ([.ref h0, .int p1, .int p2, .int p3, .int p4, .int p5]) (n := 9) (Nat.le_of_ble_eq_true rfl)
  rw [lg_entry_eq]
  generalize (lg_sl ([.ref h0, .int p1, .int p2, .int p3, .int p4, .int p5]) ++ List.replicate (9 - (lg_sl ([.ref h0, .int p1, .int p2, .int p3, .int p4, .int p5])).length) Slot.unset).toArray = ls at hl ⊢
  have hl : lv_has ls 9 [(0, .ref h0), (1, .int p1), (2, .int p2), (3, .int p3), (4, .int p4), (5, .int p5)] := hl
  have hm := hm0
  unfold fX9_wouldCost at hm
  refine lv_aload_n hx hb dX9_wouldCost_0 rfl (lv_at hl 0 rfl) ?_
  refine lv_iconst (v := 0) hx hb dX9_wouldCost_1 (by decide) ?_
  refine lv_bipush (v := 6) hx hb dX9_wouldCost_2 (by decide +kernel) ?_
  obtain ⟨zq1, hzq1, hm⟩ := bdk hm
  refine kw_veA (va_runV (As := [.int 0, .int 6]) (rest := []) ⟨hx, hb, hml, hown, htG⟩ (kX9_copies l g h0 h1 h2 h3 _ x 0 6 _ hzq1) (cwV 2 htG (GV g3_233 g3_235 gS_10 g1_10 g3_236) rfl rfl rfl hd_X9_copies ⟨Nat.le_of_ble_eq_true rfl, Nat.le_of_ble_eq_true rfl⟩) (PW_VA hK hL hS hP hD hA (ci := 8) rfl 0 rfl) rfl rfl hl.1 rfl (lv_room (Nat.le_of_ble_eq_true rfl)) dX9_wouldCost_4 ⟨Nat.zero_le _, Nat.zero_le _⟩) hD hS hA (fun _ => rfl) (fun H locs hP hD hS => ?_)
  have hP : va_P g.1 vwCl (w_X9 g h0 h1 h2 h3 zq1) H := hP
  have hD : va_D A (w_X9 g h0 h1 h2 h3 zq1) := hD
  refine lv_aload_n hx hb dX9_wouldCost_7 rfl (lv_at hl 0 rfl) ?_
  refine lv_bipush (v := 6) hx hb dX9_wouldCost_8 (by decide +kernel) ?_
  refine lv_iload_n hx hb dX9_wouldCost_10 rfl (lv_at hl 1 rfl) ?_
  refine lv_iload_n hx hb dX9_wouldCost_11 rfl (lv_at hl 2 rfl) ?_
  refine lv_iload_n hx hb dX9_wouldCost_12 rfl (lv_at hl 3 rfl) ?_
  refine lv_iload hx hb dX9_wouldCost_13 (lv_at hl 4 rfl) ?_
  refine lv_iload hx hb dX9_wouldCost_15 (lv_at hl 5 rfl) ?_
  obtain ⟨zq2, hzq2, hm⟩ := bdk hm
  refine kw_ieA (va_runV (As := [.int 6, .int p1, .int p2, .int p3, .int p4, .int p5]) (rest := []) ⟨hx, hb, hml, hown, htG⟩ (kX9_bidsBy l g h0 h1 h2 h3 _ zq1 6 p1 p2 p3 p4 p5 _ hzq2) (cwV 6 htG (GV g4_24 g4_26 gS_15 g1_10 g4_27) rfl rfl rfl hd_X9_bidsBy ⟨Nat.le_of_ble_eq_true rfl, Nat.le_of_ble_eq_true rfl⟩) (PW_VA hK hL hS hP hD hA (ci := 8) rfl 0 rfl) rfl rfl hl.1 rfl (lv_room (Nat.le_of_ble_eq_true rfl)) dX9_wouldCost_17 ⟨Nat.zero_le _, Nat.zero_le _⟩) hD hS hA (fun _ => rfl) (fun H locs hP hD hS => ?_)
  have hP : va_P g.1 vwCl (w_X9 g h0 h1 h2 h3 zq2.2) H := hP
  have hD : va_D A (w_X9 g h0 h1 h2 h3 zq2.2) := hD
  refine lv_istore (lv' := [(6, .int zq2.1), (0, .ref h0), (1, .int p1), (2, .int p2), (3, .int p3), (4, .int p4), (5, .int p5)]) hx hb dX9_wouldCost_20 hl (by decide) rfl (fun ls hl => ?_)
  refine lv_iload hx hb dX9_wouldCost_22 (lv_at hl 0 rfl) ?_
  refine lv_if_ge (tgt := 30) hx hb dX9_wouldCost_24 (by decide) (fun zc3 => ?_) (fun zc3 => ?_)
  · replace hm := (if_pos zc3).symm.trans hm
    refine lv_sipush (v := 5010) hx hb dX9_wouldCost_30 (by decide +kernel) ?_
    refine lv_istore (lv' := [(7, .int 5010), (6, .int zq2.1), (0, .ref h0), (1, .int p1), (2, .int p2), (3, .int p3), (4, .int p4), (5, .int p5)]) hx hb dX9_wouldCost_33 hl (by decide) rfl (fun ls hl => ?_)
    refine lv_iload_n hx hb dX9_wouldCost_35 rfl (lv_at hl 4 rfl) ?_
    refine lv_iload_n hx hb dX9_wouldCost_36 rfl (lv_at hl 5 rfl) ?_
    refine ko_e (va_runS (As := [.int p2, .int p3]) (rest := []) ⟨hx, hb, hml, hown, htG⟩ (kX9_place l g p2 p3 _ rfl) (va_cwS 2 htG (GS g4_35 g4_36 g1_10 g4_37) rfl rfl rfl hs_X9_place ⟨Nat.le_of_ble_eq_true rfl, Nat.le_of_ble_eq_true rfl⟩) (PR_S hK hL hS hP [] rfl) rfl rfl hl.1 rfl (lv_room (Nat.le_of_ble_eq_true rfl)) dX9_wouldCost_37 ⟨Nat.zero_le _, Nat.zero_le _⟩) ?_
    refine lv_istore (lv' := [(8, .int (fX9_place p2 p3)), (7, .int 5010), (6, .int zq2.1), (0, .ref h0), (1, .int p1), (2, .int p2), (3, .int p3), (4, .int p4), (5, .int p5)]) hx hb dX9_wouldCost_40 hl (by decide) rfl (fun ls hl => ?_)
    refine lv_aload_n hx hb dX9_wouldCost_42 rfl (lv_at hl 3 rfl) ?_
    refine lv_iload hx hb dX9_wouldCost_43 (lv_at hl 1 rfl) ?_
    refine lv_iload hx hb dX9_wouldCost_45 (lv_at hl 0 rfl) ?_
    obtain ⟨zq4, hzq4, hm⟩ := bdk hm
    refine kw_ieA (va_runV (As := [.int 5010, .int (fX9_place p2 p3)]) (rest := []) ⟨hx, hb, hml, hown, htG⟩ (kX9_awards l g h0 h1 h2 h3 _ zq2.2 5010 (fX9_place p2 p3) _ hzq4) (cwV 2 htG (GV g4_72 g4_74 gS_22 g1_10 g4_75) rfl rfl rfl hd_X9_awards ⟨Nat.le_of_ble_eq_true rfl, Nat.le_of_ble_eq_true rfl⟩) (PW_VA hK hL hS hP hD hA (ci := 8) rfl 0 rfl) rfl rfl hl.1 rfl (lv_room (Nat.le_of_ble_eq_true rfl)) dX9_wouldCost_47 ⟨Nat.zero_le _, Nat.zero_le _⟩) hD hS hA (fun _ => rfl) (fun H locs hP hD hS => ?_)
    have hP : va_P g.1 vwCl (w_X9 g h0 h1 h2 h3 zq4.2) H := hP
    have hD : va_D A (w_X9 g h0 h1 h2 h3 zq4.2) := hD
    refine lv_iload_n hx hb dX9_wouldCost_50 rfl (lv_at hl 4 rfl) ?_
    refine lv_icmp_ne (tgt := 71) hx hb dX9_wouldCost_51 (by decide) (fun zc5 => ?_) (fun zc5 => ?_)
    · replace hm := (if_neg zc5).symm.trans hm
      refine lv_bipush (v := (-5)) hx hb dX9_wouldCost_71 (by decide +kernel) ?_
      exact W.iret (v := (-5)) hx hb hr (fun t ht hW => ⟨⟨_, _, rfl, pr1 (Option.some.inj hm), atH ht hP⟩, hS.F ht⟩) hS.2.2 dX9_wouldCost_73
    · replace hm := (if_pos zc5).symm.trans hm
      refine lv_aload_n hx hb dX9_wouldCost_54 rfl (lv_at hl 3 rfl) ?_
      refine va_get (D := g.1) (ci := 8) (v := .ref h1) (C := RX9) (T := TX9) (N := 11) hx hb htG in_wsX90 hown hK.1 hP 0 rfl rfl 0 (by decide) (htG _ g3_195) (fun _ h9 => h9) rfl dX9_wouldCost_55 ?_
      refine lv_iload hx hb dX9_wouldCost_58 (lv_at hl 1 rfl) ?_
      refine lv_sipush (v := 147) hx hb dX9_wouldCost_60 (by decide +kernel) ?_
      refine lv_iadd hx hb dX9_wouldCost_63 ?_
      refine lv_iload hx hb dX9_wouldCost_64 (lv_at hl 0 rfl) ?_
      refine lv_iadd hx hb dX9_wouldCost_66 ?_
      obtain ⟨zb6, hm⟩ := ibk hm
      refine va_iald hx hb hK.1 hP 1 0 rfl rfl zb6 dX9_wouldCost_67 ?_
      refine lv_goto (tgt := 73) hx hb dX9_wouldCost_68 (by decide) ?_
      exact W.iret (v := (zq4.2.1 (((5010 + 147) + (fX9_place p2 p3)).toNatClampNeg))) hx hb hr (fun t ht hW => ⟨⟨_, _, rfl, pr1 (Option.some.inj hm), atH ht hP⟩, hS.F ht⟩) hS.2.2 dX9_wouldCost_73
  · replace hm := (if_neg zc3).symm.trans hm
    refine lv_iload hx hb dX9_wouldCost_27 (lv_at hl 0 rfl) ?_
    exact W.iret (v := zq2.1) hx hb hr (fun t ht hW => ⟨⟨_, _, rfl, pr1 (Option.some.inj hm), atH ht hP⟩, hS.F ht⟩) hS.2.2 dX9_wouldCost_29
def fX9_heaviest (x : MD) (p1 : Int32) (p2 : Int32) : Option (Int32) := (if (fX9_isSlot p1 p2) = 0 then some (-1) else (if ib (35 + p2) 5845 = true then (bnd (70 - (x.1 ((35 + p2).toNatClampNeg))) (fun zv3 => (if 0 ≤ zv3 then (if (fX9_most p1) ≤ zv3 then some (fX9_most p1) else some zv3) else (if (fX9_most p1) ≤ 0 then some (fX9_most p1) else some 0)))) else none))
abbrev rm_X9_heaviest : Jvm.Room := { frames := 2, cells := 0, slots := 0, locals := 43 }
theorem hd_X9_heaviest : yX9_heaviest.cls = RX9 ∧ yX9_heaviest.cls ≠ "java/lang/invoke/MethodHandle" ∧ yX9_heaviest.cls ≠ "java/lang/invoke/VarHandle" ∧ (parseMethodDescriptor yX9_heaviest.desc).map (fun d => d.parameters.length) = some 2 := by decide +kernel
set_option maxHeartbeats 4000000 in
set_option maxRecDepth 100000 in
theorem kX9_heaviest (l : Launch) (g : CX) (h0 h1 h2 h3 : Nat) (x : MD) (p1 : Int32) (p2 : Int32) (res : Int32) (hm0 : fX9_heaviest x p1 p2 = some res) : Met l yX9_heaviest (wg yX9_heaviest cX9_heaviest 4 (some .int)) rm_X9_heaviest (PR g [.ref h0, .int p1, .int p2] (w_X9 g h0 h1 h2 h3 x)) (vp_Si (fun v => v = res)) 0 0 (fun _ => False) := by
  refine Met.ofW (cc := cX9_heaviest) (maxL := 4) (ret := (some .int)) (by decide) rfl ?_
  intro p e s m args below meth c s₁ B hml hv
  obtain ⟨rfl, hP, hK, hL⟩ := hv
  have hx := B.exec
  have hb := B.bytes
  have hr := B.returns
  have htG := wg_G (atoms_spec (ws := wg yX9_heaviest cX9_heaviest 4 (some .int)) B.pre)
  have hown : s.vm.findClass RX9 = some m.cls := findClass_of_methodNamed B.named
  have hlocks := B.notSynchronized
  have hS : va_S (fun _ => False) s.heap s.heap [] := va_S.rf
  have hl := lv_entry ([.ref h0, .int p1, .int p2]) (n := 4) (Nat.le_of_ble_eq_true rfl)
  rw [lg_entry_eq]
  generalize (lg_sl ([.ref h0, .int p1, .int p2]) ++ List.replicate (4 - (lg_sl ([.ref h0, .int p1, .int p2])).length) Slot.unset).toArray = ls at hl ⊢
  have hl : lv_has ls 4 [(0, .ref h0), (1, .int p1), (2, .int p2)] := hl
  have hm := hm0
  unfold fX9_heaviest at hm
  refine lv_iload_n hx hb dX9_heaviest_0 rfl (lv_at hl 1 rfl) ?_
  refine lv_iload_n hx hb dX9_heaviest_1 rfl (lv_at hl 2 rfl) ?_
  refine ko_e (va_runS (As := [.int p1, .int p2]) (rest := []) ⟨hx, hb, hml, hown, htG⟩ (kX9_isSlot l g p1 p2 _ rfl) (va_cwS 2 htG (GS g4_54 g4_55 g1_10 g4_56) rfl rfl rfl hs_X9_isSlot ⟨Nat.le_of_ble_eq_true rfl, Nat.le_of_ble_eq_true rfl⟩) (PR_S hK hL hS hP [] rfl) rfl rfl hl.1 rfl (lv_room (Nat.le_of_ble_eq_true rfl)) dX9_heaviest_2 ⟨Nat.zero_le _, Nat.zero_le _⟩) ?_
  refine lv_if_ne (tgt := 10) hx hb dX9_heaviest_5 (by decide) (fun zc1 => ?_) (fun zc1 => ?_)
  · replace hm := (if_neg zc1).symm.trans hm
    refine lv_bipush (v := 70) hx hb dX9_heaviest_10 (by decide +kernel) ?_
    refine lv_aload_n hx hb dX9_heaviest_12 rfl (lv_at hl 0 rfl) ?_
    refine va_get (D := g.1) (ci := 8) (v := .ref h1) (C := RX9) (T := TX9) (N := 11) hx hb htG in_wsX90 hown hK.1 hP 0 rfl rfl 0 (by decide) (htG _ g3_195) (fun _ h9 => h9) rfl dX9_heaviest_13 ?_
    refine lv_bipush (v := 35) hx hb dX9_heaviest_16 (by decide +kernel) ?_
    refine lv_iload_n hx hb dX9_heaviest_18 rfl (lv_at hl 2 rfl) ?_
    refine lv_iadd hx hb dX9_heaviest_19 ?_
    obtain ⟨zb2, hm⟩ := ibk hm
    refine va_iald hx hb hK.1 hP 1 0 rfl rfl zb2 dX9_heaviest_20 ?_
    refine lv_isub hx hb dX9_heaviest_21 ?_
    obtain ⟨zv3, ezv3, hm⟩ := bnk hm
    refine tope ezv3 ?_
    refine lv_istore_n (lv' := [(3, .int zv3), (0, .ref h0), (1, .int p1), (2, .int p2)]) hx hb dX9_heaviest_22 rfl hl (by decide) rfl (fun ls hl => ?_)
    refine lv_iload_n hx hb dX9_heaviest_23 rfl (lv_at hl 0 rfl) ?_
    refine lv_if_ge (tgt := 31) hx hb dX9_heaviest_24 (by decide) (fun zc4 => ?_) (fun zc4 => ?_)
    · replace hm := (if_pos zc4).symm.trans hm
      refine lv_iload_n hx hb dX9_heaviest_31 rfl (lv_at hl 0 rfl) ?_
      refine lv_istore_n (lv' := [(3, .int zv3), (0, .ref h0), (1, .int p1), (2, .int p2)]) hx hb dX9_heaviest_32 rfl hl (by decide) rfl (fun ls hl => ?_)
      refine lv_iload_n hx hb dX9_heaviest_33 rfl (lv_at hl 0 rfl) ?_
      refine lv_iload_n hx hb dX9_heaviest_34 rfl (lv_at hl 2 rfl) ?_
      refine ko_e (va_runS (As := [.int p1]) (rest := [.int zv3]) ⟨hx, hb, hml, hown, htG⟩ (kX9_most l g p1 _ rfl) (va_cwS 1 htG (GS g4_32 g4_33 g1_10 g4_34) rfl rfl rfl hs_X9_most ⟨Nat.le_of_ble_eq_true rfl, Nat.le_of_ble_eq_true rfl⟩) (PR_S hK hL hS hP [] rfl) rfl rfl hl.1 rfl (lv_room (Nat.le_of_ble_eq_true rfl)) dX9_heaviest_35 ⟨Nat.zero_le _, Nat.zero_le _⟩) ?_
      refine lv_icmp_ge (tgt := 45) hx hb dX9_heaviest_38 (by decide) (fun zc5 => ?_) (fun zc5 => ?_)
      · replace hm := (if_pos zc5).symm.trans hm
        refine lv_iload_n hx hb dX9_heaviest_45 rfl (lv_at hl 2 rfl) ?_
        refine ko_e (va_runS (As := [.int p1]) (rest := []) ⟨hx, hb, hml, hown, htG⟩ (kX9_most l g p1 _ rfl) (va_cwS 1 htG (GS g4_32 g4_33 g1_10 g4_34) rfl rfl rfl hs_X9_most ⟨Nat.le_of_ble_eq_true rfl, Nat.le_of_ble_eq_true rfl⟩) (PR_S hK hL hS hP [] rfl) rfl rfl hl.1 rfl (lv_room (Nat.le_of_ble_eq_true rfl)) dX9_heaviest_46 ⟨Nat.zero_le _, Nat.zero_le _⟩) ?_
        exact W.iret (v := (fX9_most p1)) hx hb hr (fun t ht hW => ⟨_, rfl, (Option.some.inj hm), ht⟩) (fun _ h => nomatch h) dX9_heaviest_49
      · replace hm := (if_neg zc5).symm.trans hm
        refine lv_iload_n hx hb dX9_heaviest_41 rfl (lv_at hl 0 rfl) ?_
        refine lv_goto (tgt := 49) hx hb dX9_heaviest_42 (by decide) ?_
        exact W.iret (v := zv3) hx hb hr (fun t ht hW => ⟨_, rfl, (Option.some.inj hm), ht⟩) (fun _ h => nomatch h) dX9_heaviest_49
    · replace hm := (if_neg zc4).symm.trans hm
      refine lv_iconst (v := 0) hx hb dX9_heaviest_27 (by decide) ?_
      refine lv_goto (tgt := 32) hx hb dX9_heaviest_28 (by decide) ?_
      refine lv_istore_n (lv' := [(3, .int 0), (0, .ref h0), (1, .int p1), (2, .int p2)]) hx hb dX9_heaviest_32 rfl hl (by decide) rfl (fun ls hl => ?_)
      refine lv_iload_n hx hb dX9_heaviest_33 rfl (lv_at hl 0 rfl) ?_
      refine lv_iload_n hx hb dX9_heaviest_34 rfl (lv_at hl 2 rfl) ?_
      refine ko_e (va_runS (As := [.int p1]) (rest := [.int 0]) ⟨hx, hb, hml, hown, htG⟩ (kX9_most l g p1 _ rfl) (va_cwS 1 htG (GS g4_32 g4_33 g1_10 g4_34) rfl rfl rfl hs_X9_most ⟨Nat.le_of_ble_eq_true rfl, Nat.le_of_ble_eq_true rfl⟩) (PR_S hK hL hS hP [] rfl) rfl rfl hl.1 rfl (lv_room (Nat.le_of_ble_eq_true rfl)) dX9_heaviest_35 ⟨Nat.zero_le _, Nat.zero_le _⟩) ?_
      refine lv_icmp_ge (tgt := 45) hx hb dX9_heaviest_38 (by decide) (fun zc6 => ?_) (fun zc6 => ?_)
      · replace hm := (if_pos zc6).symm.trans hm
        refine lv_iload_n hx hb dX9_heaviest_45 rfl (lv_at hl 2 rfl) ?_
        refine ko_e (va_runS (As := [.int p1]) (rest := []) ⟨hx, hb, hml, hown, htG⟩ (kX9_most l g p1 _ rfl) (va_cwS 1 htG (GS g4_32 g4_33 g1_10 g4_34) rfl rfl rfl hs_X9_most ⟨Nat.le_of_ble_eq_true rfl, Nat.le_of_ble_eq_true rfl⟩) (PR_S hK hL hS hP [] rfl) rfl rfl hl.1 rfl (lv_room (Nat.le_of_ble_eq_true rfl)) dX9_heaviest_46 ⟨Nat.zero_le _, Nat.zero_le _⟩) ?_
        exact W.iret (v := (fX9_most p1)) hx hb hr (fun t ht hW => ⟨_, rfl, (Option.some.inj hm), ht⟩) (fun _ h => nomatch h) dX9_heaviest_49
      · replace hm := (if_neg zc6).symm.trans hm
        refine lv_iload_n hx hb dX9_heaviest_41 rfl (lv_at hl 0 rfl) ?_
        refine lv_goto (tgt := 49) hx hb dX9_heaviest_42 (by decide) ?_
        exact W.iret (v := 0) hx hb hr (fun t ht hW => ⟨_, rfl, (Option.some.inj hm), ht⟩) (fun _ h => nomatch h) dX9_heaviest_49
  · replace hm := (if_pos zc1).symm.trans hm
    refine lv_iconst (v := (-1)) hx hb dX9_heaviest_8 (by decide) ?_
    exact W.iret (v := (-1)) hx hb hr (fun t ht hW => ⟨_, rfl, (Option.some.inj hm), ht⟩) (fun _ h => nomatch h) dX9_heaviest_9
def fX9_wind (x : MD) (p1 : Int32) : Option (Int32) := (if (fX9_in p1 0 15) = 0 then some (-1) else ((fX9_isDone x 0 p1).bind (fun zq2 => (if zq2 = 0 then (if ib (35 + p1) 5845 = true then some (x.1 ((35 + p1).toNatClampNeg)) else none) else (if ib (819 + p1) 5845 = true then some (x.1 ((819 + p1).toNatClampNeg)) else none)))))
abbrev rm_X9_wind : Jvm.Room := { frames := 1, cells := 0, slots := 0, locals := 22 }
theorem hd_X9_wind : yX9_wind.cls = RX9 ∧ yX9_wind.cls ≠ "java/lang/invoke/MethodHandle" ∧ yX9_wind.cls ≠ "java/lang/invoke/VarHandle" ∧ (parseMethodDescriptor yX9_wind.desc).map (fun d => d.parameters.length) = some 1 := by decide +kernel
set_option maxHeartbeats 4000000 in
set_option maxRecDepth 100000 in
theorem kX9_wind (l : Launch) (g : CX) (h0 h1 h2 h3 : Nat) (x : MD) (p1 : Int32) (res : Int32) (hm0 : fX9_wind x p1 = some res) : Met l yX9_wind (wg yX9_wind cX9_wind 2 (some .int)) rm_X9_wind (PR g [.ref h0, .int p1] (w_X9 g h0 h1 h2 h3 x)) (vp_Si (fun v => v = res)) 0 0 (fun _ => False) := by
  refine Met.ofW (cc := cX9_wind) (maxL := 2) (ret := (some .int)) (by decide) rfl ?_
  intro p e s m args below meth c s₁ B hml hv
  obtain ⟨rfl, hP, hK, hL⟩ := hv
  have hx := B.exec
  have hb := B.bytes
  have hr := B.returns
  have htG := wg_G (atoms_spec (ws := wg yX9_wind cX9_wind 2 (some .int)) B.pre)
  have hown : s.vm.findClass RX9 = some m.cls := findClass_of_methodNamed B.named
  have hlocks := B.notSynchronized
  have hS : va_S (fun _ => False) s.heap s.heap [] := va_S.rf
  have hl := lv_entry ([.ref h0, .int p1]) (n := 2) (Nat.le_of_ble_eq_true rfl)
  rw [lg_entry_eq]
  generalize (lg_sl ([.ref h0, .int p1]) ++ List.replicate (2 - (lg_sl ([.ref h0, .int p1])).length) Slot.unset).toArray = ls at hl ⊢
  have hl : lv_has ls 2 [(0, .ref h0), (1, .int p1)] := hl
  have hm := hm0
  unfold fX9_wind at hm
  refine lv_iload_n hx hb dX9_wind_0 rfl (lv_at hl 1 rfl) ?_
  refine lv_iconst (v := 0) hx hb dX9_wind_1 (by decide) ?_
  refine lv_bipush (v := 15) hx hb dX9_wind_2 (by decide +kernel) ?_
  refine ko_e (va_runS (As := [.int p1, .int 0, .int 15]) (rest := []) ⟨hx, hb, hml, hown, htG⟩ (kX9_in l g p1 0 15 _ rfl) (va_cwS 3 htG (GS g4_1 g4_2 g1_10 g4_3) rfl rfl rfl hs_X9_in ⟨Nat.le_of_ble_eq_true rfl, Nat.le_of_ble_eq_true rfl⟩) (PR_S hK hL hS hP [] rfl) rfl rfl hl.1 rfl (lv_room (Nat.le_of_ble_eq_true rfl)) dX9_wind_4 ⟨Nat.zero_le _, Nat.zero_le _⟩) ?_
  refine lv_if_ne (tgt := 14) hx hb dX9_wind_7 (by decide) (fun zc1 => ?_) (fun zc1 => ?_)
  · replace hm := (if_neg zc1).symm.trans hm
    refine lv_aload_n hx hb dX9_wind_14 rfl (lv_at hl 0 rfl) ?_
    refine lv_iconst (v := 0) hx hb dX9_wind_15 (by decide) ?_
    refine lv_iload_n hx hb dX9_wind_16 rfl (lv_at hl 1 rfl) ?_
    obtain ⟨zq2, hzq2, hm⟩ := bdk hm
    refine ko_e (va_runV (As := [.int 0, .int p1]) (rest := []) ⟨hx, hb, hml, hown, htG⟩ (kX9_isDone l g h0 h1 h2 h3 x 0 p1 _ hzq2) (cwV 2 htG (GV g4_4 g4_6 gS_12 g1_10 g4_7) rfl rfl rfl hd_X9_isDone ⟨Nat.le_of_ble_eq_true rfl, Nat.le_of_ble_eq_true rfl⟩) (PR_VA hK hL hS hP (ci := 8) rfl 0 rfl) rfl rfl hl.1 rfl (lv_room (Nat.le_of_ble_eq_true rfl)) dX9_wind_17 ⟨Nat.zero_le _, Nat.zero_le _⟩) ?_
    refine lv_if_eq (tgt := 36) hx hb dX9_wind_20 (by decide) (fun zc3 => ?_) (fun zc3 => ?_)
    · replace hm := (if_pos zc3).symm.trans hm
      refine lv_aload_n hx hb dX9_wind_36 rfl (lv_at hl 0 rfl) ?_
      refine va_get (D := g.1) (ci := 8) (v := .ref h1) (C := RX9) (T := TX9) (N := 11) hx hb htG in_wsX90 hown hK.1 hP 0 rfl rfl 0 (by decide) (htG _ g3_195) (fun _ h9 => h9) rfl dX9_wind_37 ?_
      refine lv_bipush (v := 35) hx hb dX9_wind_40 (by decide +kernel) ?_
      refine lv_iload_n hx hb dX9_wind_42 rfl (lv_at hl 1 rfl) ?_
      refine lv_iadd hx hb dX9_wind_43 ?_
      obtain ⟨zb4, hm⟩ := ibk hm
      refine va_iald hx hb hK.1 hP 1 0 rfl rfl zb4 dX9_wind_44 ?_
      exact W.iret (v := (x.1 ((35 + p1).toNatClampNeg))) hx hb hr (fun t ht hW => ⟨_, rfl, (Option.some.inj hm), ht⟩) (fun _ h => nomatch h) dX9_wind_45
    · replace hm := (if_neg zc3).symm.trans hm
      refine lv_aload_n hx hb dX9_wind_23 rfl (lv_at hl 0 rfl) ?_
      refine va_get (D := g.1) (ci := 8) (v := .ref h1) (C := RX9) (T := TX9) (N := 11) hx hb htG in_wsX90 hown hK.1 hP 0 rfl rfl 0 (by decide) (htG _ g3_195) (fun _ h9 => h9) rfl dX9_wind_24 ?_
      refine lv_sipush (v := 819) hx hb dX9_wind_27 (by decide +kernel) ?_
      refine lv_iload_n hx hb dX9_wind_30 rfl (lv_at hl 1 rfl) ?_
      refine lv_iadd hx hb dX9_wind_31 ?_
      obtain ⟨zb5, hm⟩ := ibk hm
      refine va_iald hx hb hK.1 hP 1 0 rfl rfl zb5 dX9_wind_32 ?_
      refine lv_goto (tgt := 45) hx hb dX9_wind_33 (by decide) ?_
      exact W.iret (v := (x.1 ((819 + p1).toNatClampNeg))) hx hb hr (fun t ht hW => ⟨_, rfl, (Option.some.inj hm), ht⟩) (fun _ h => nomatch h) dX9_wind_45
  · replace hm := (if_pos zc1).symm.trans hm
    refine lv_iconst (v := (-1)) hx hb dX9_wind_10 (by decide) ?_
    refine lv_goto (tgt := 45) hx hb dX9_wind_11 (by decide) ?_
    exact W.iret (v := (-1)) hx hb hr (fun t ht hW => ⟨_, rfl, (Option.some.inj hm), ht⟩) (fun _ h => nomatch h) dX9_wind_45
def fX9_cheapest_L0 (x : MD) (p1 : Int32) (p2 : Int32) : Nat → Int32 → Int32 → Option (Int32)
  | 0, _, _ => none
  | n + 1, i0_3, i0_4 => (if 16 ≤ i0_4 then (some i0_3) else (if ib (51 + (fX9_place p1 i0_4)) 5845 = true then (if 0 ≤ (x.1 ((51 + (fX9_place p1 i0_4)).toNatClampNeg)) then (fX9_cheapest_L0 x p1 p2 n i0_3 (i0_4 + 1)) else (if ib (35 + i0_4) 5845 = true then (if (fX9_bears p2 (x.1 ((35 + i0_4).toNatClampNeg))) = 0 then (fX9_cheapest_L0 x p1 p2 n i0_3 (i0_4 + 1)) else (if i0_3 < 0 then (fX9_cheapest_L0 x p1 p2 n i0_4 (i0_4 + 1)) else ((fX9_highest x (fX9_place p1 i0_4)).bind (fun zq10 => ((fX9_highest x (fX9_place p1 i0_3)).bind (fun zq11 => (if zq11 ≤ zq10 then (fX9_cheapest_L0 x p1 p2 n i0_3 (i0_4 + 1)) else (fX9_cheapest_L0 x p1 p2 n i0_4 (i0_4 + 1))))))))) else none)) else none))
def fX9_cheapest (x : MD) (p1 : Int32) (p2 : Int32) : Option (Int32) := (if (fX9_in p1 0 2) = 0 then some (-1) else (if (fX9_in p2 1 (fX9_most p1)) = 0 then some (-2) else (bnd (x.1 ((1 : Int32).toNatClampNeg)) (fun zv3 => ((fX9_cheapest_L0 x p1 p2 1000 (-5) zv3).bind (fun zq13 => some zq13))))))
abbrev rm_X9_cheapest : Jvm.Room := { frames := 1, cells := 0, slots := 0, locals := 23 }
theorem hd_X9_cheapest : yX9_cheapest.cls = RX9 ∧ yX9_cheapest.cls ≠ "java/lang/invoke/MethodHandle" ∧ yX9_cheapest.cls ≠ "java/lang/invoke/VarHandle" ∧ (parseMethodDescriptor yX9_cheapest.desc).map (fun d => d.parameters.length) = some 2 := by decide +kernel
set_option maxHeartbeats 4000000 in
set_option maxRecDepth 100000 in
theorem kX9_cheapest (l : Launch) (g : CX) (h0 h1 h2 h3 : Nat) (x : MD) (p1 : Int32) (p2 : Int32) (res : Int32) (hm0 : fX9_cheapest x p1 p2 = some res) : Met l yX9_cheapest (wg yX9_cheapest cX9_cheapest 6 (some .int)) rm_X9_cheapest (PR g [.ref h0, .int p1, .int p2] (w_X9 g h0 h1 h2 h3 x)) (vp_Si (fun v => v = res)) 0 0 (fun _ => False) := by
  refine Met.ofW (cc := cX9_cheapest) (maxL := 6) (ret := (some .int)) (by decide) rfl ?_
  intro p e s m args below meth c s₁ B hml hv
  obtain ⟨rfl, hP, hK, hL⟩ := hv
  have hx := B.exec
  have hb := B.bytes
  have hr := B.returns
  have htG := wg_G (atoms_spec (ws := wg yX9_cheapest cX9_cheapest 6 (some .int)) B.pre)
  have hown : s.vm.findClass RX9 = some m.cls := findClass_of_methodNamed B.named
  have hlocks := B.notSynchronized
  have hS : va_S (fun _ => False) s.heap s.heap [] := va_S.rf
  have hl := lv_entry ([.ref h0, .int p1, .int p2]) (n := 6) (Nat.le_of_ble_eq_true rfl)
  rw [lg_entry_eq]
  generalize (lg_sl ([.ref h0, .int p1, .int p2]) ++ List.replicate (6 - (lg_sl ([.ref h0, .int p1, .int p2])).length) Slot.unset).toArray = ls at hl ⊢
  have hl : lv_has ls 6 [(0, .ref h0), (1, .int p1), (2, .int p2)] := hl
  have hm := hm0
  unfold fX9_cheapest at hm
  have hL0 : ∀ (Q : State → Prop), ∀ (n : Nat) (i0_3 : Int32) (i0_4 : Int32) (out : Int32) (ls : Array Slot), fX9_cheapest_L0 x p1 p2 n i0_3 i0_4 = some out → lv_has ls 6 [(0, .ref h0), (1, .int p1), (2, .int p2), (3, .int i0_3), (4, .int i0_4)] → (∀ ls : Array Slot, lv_has ls 6 [(3, .int out)] → W p l e (headSpec (wg yX9_cheapest cX9_cheapest 6 (some .int)) rm_X9_cheapest).room s m (([.ref h0, .int p1, .int p2] : List Value).toArray) below meth c s.heap [] 0 0 Q (F0 m 113 ls [])) → W p l e (headSpec (wg yX9_cheapest cX9_cheapest 6 (some .int)) rm_X9_cheapest).room s m (([.ref h0, .int p1, .int p2] : List Value).toArray) below meth c s.heap [] 0 0 Q (F0 m 37 ls []) := by
    intro Q n
    induction n with
    | zero =>
      intro i0_3 i0_4 out ls hm hl hk
      simp [fX9_cheapest_L0] at hm
    | succ n ih =>
      intro i0_3 i0_4 out ls hm hl hk
      rw [fX9_cheapest_L0] at hm
      refine lv_iload hx hb dX9_cheapest_37 (lv_at hl 4 rfl) ?_
      refine lv_bipush (v := 16) hx hb dX9_cheapest_39 (by decide +kernel) ?_
      refine lv_icmp_ge (tgt := 113) hx hb dX9_cheapest_41 (by decide) (fun zc4 => ?_) (fun zc4 => ?_)
      · replace hm := (if_pos zc4).symm.trans hm
        obtain rfl := Option.some.inj hm
        exact hk ls (lv_sub hl [3] rfl)
      · replace hm := (if_neg zc4).symm.trans hm
        refine lv_iload_n hx hb dX9_cheapest_44 rfl (lv_at hl 1 rfl) ?_
        refine lv_iload hx hb dX9_cheapest_45 (lv_at hl 4 rfl) ?_
        refine ko_e (va_runS (As := [.int p1, .int i0_4]) (rest := []) ⟨hx, hb, hml, hown, htG⟩ (kX9_place l g p1 i0_4 _ rfl) (va_cwS 2 htG (GS g4_35 g4_36 g1_10 g4_37) rfl rfl rfl hs_X9_place ⟨Nat.le_of_ble_eq_true rfl, Nat.le_of_ble_eq_true rfl⟩) (PR_S hK hL hS hP [] rfl) rfl rfl hl.1 rfl (lv_room (Nat.le_of_ble_eq_true rfl)) dX9_cheapest_47 ⟨Nat.zero_le _, Nat.zero_le _⟩) ?_
        refine lv_istore (lv' := [(5, .int (fX9_place p1 i0_4)), (0, .ref h0), (1, .int p1), (2, .int p2), (3, .int i0_3), (4, .int i0_4)]) hx hb dX9_cheapest_50 hl (by decide) rfl (fun ls hl => ?_)
        refine lv_aload_n hx hb dX9_cheapest_52 rfl (lv_at hl 1 rfl) ?_
        refine va_get (D := g.1) (ci := 8) (v := .ref h1) (C := RX9) (T := TX9) (N := 11) hx hb htG in_wsX90 hown hK.1 hP 0 rfl rfl 0 (by decide) (htG _ g3_195) (fun _ h9 => h9) rfl dX9_cheapest_53 ?_
        refine lv_bipush (v := 51) hx hb dX9_cheapest_56 (by decide +kernel) ?_
        refine lv_iload hx hb dX9_cheapest_58 (lv_at hl 0 rfl) ?_
        refine lv_iadd hx hb dX9_cheapest_60 ?_
        obtain ⟨zb5, hm⟩ := ibk hm
        refine va_iald hx hb hK.1 hP 1 0 rfl rfl zb5 dX9_cheapest_61 ?_
        refine lv_if_ge (tgt := 107) hx hb dX9_cheapest_62 (by decide) (fun zc6 => ?_) (fun zc6 => ?_)
        · replace hm := (if_pos zc6).symm.trans hm
          refine lv_iinc (v := i0_4 + 1) (lv' := [(4, .int (i0_4 + 1)), (5, .int (fX9_place p1 i0_4)), (0, .ref h0), (1, .int p1), (2, .int p2), (3, .int i0_3)]) hx hb dX9_cheapest_107 hl (k := 5) rfl rfl (by decide) rfl (fun ls hl => ?_)
          refine lv_goto (tgt := 37) hx hb dX9_cheapest_110 (by decide) ?_
          exact ih i0_3 (i0_4 + 1) out ls hm (lv_sub hl [2, 3, 4, 5, 0] rfl) hk
        · replace hm := (if_neg zc6).symm.trans hm
          refine lv_iload_n hx hb dX9_cheapest_65 rfl (lv_at hl 3 rfl) ?_
          refine lv_aload_n hx hb dX9_cheapest_66 rfl (lv_at hl 1 rfl) ?_
          refine va_get (D := g.1) (ci := 8) (v := .ref h1) (C := RX9) (T := TX9) (N := 11) hx hb htG in_wsX90 hown hK.1 hP 0 rfl rfl 0 (by decide) (htG _ g3_195) (fun _ h9 => h9) rfl dX9_cheapest_67 ?_
          refine lv_bipush (v := 35) hx hb dX9_cheapest_70 (by decide +kernel) ?_
          refine lv_iload hx hb dX9_cheapest_72 (lv_at hl 5 rfl) ?_
          refine lv_iadd hx hb dX9_cheapest_74 ?_
          obtain ⟨zb7, hm⟩ := ibk hm
          refine va_iald hx hb hK.1 hP 1 0 rfl rfl zb7 dX9_cheapest_75 ?_
          refine ko_e (va_runS (As := [.int p2, .int (x.1 ((35 + i0_4).toNatClampNeg))]) (rest := []) ⟨hx, hb, hml, hown, htG⟩ (kX9_bears l g p2 (x.1 ((35 + i0_4).toNatClampNeg)) _ rfl) (va_cwS 2 htG (GS g4_69 g4_70 g1_10 g4_71) rfl rfl rfl hs_X9_bears ⟨Nat.le_of_ble_eq_true rfl, Nat.le_of_ble_eq_true rfl⟩) (PR_S hK hL hS hP [] rfl) rfl rfl hl.1 rfl (lv_room (Nat.le_of_ble_eq_true rfl)) dX9_cheapest_76 ⟨Nat.zero_le _, Nat.zero_le _⟩) ?_
          refine lv_if_eq (tgt := 107) hx hb dX9_cheapest_79 (by decide) (fun zc8 => ?_) (fun zc8 => ?_)
          · replace hm := (if_pos zc8).symm.trans hm
            refine lv_iinc (v := i0_4 + 1) (lv' := [(4, .int (i0_4 + 1)), (5, .int (fX9_place p1 i0_4)), (0, .ref h0), (1, .int p1), (2, .int p2), (3, .int i0_3)]) hx hb dX9_cheapest_107 hl (k := 5) rfl rfl (by decide) rfl (fun ls hl => ?_)
            refine lv_goto (tgt := 37) hx hb dX9_cheapest_110 (by decide) ?_
            exact ih i0_3 (i0_4 + 1) out ls hm (lv_sub hl [2, 3, 4, 5, 0] rfl) hk
          · replace hm := (if_neg zc8).symm.trans hm
            refine lv_iload_n hx hb dX9_cheapest_82 rfl (lv_at hl 4 rfl) ?_
            refine lv_if_lt (tgt := 104) hx hb dX9_cheapest_83 (by decide) (fun zc9 => ?_) (fun zc9 => ?_)
            · replace hm := (if_pos zc9).symm.trans hm
              refine lv_iload hx hb dX9_cheapest_104 (lv_at hl 5 rfl) ?_
              refine lv_istore_n (lv' := [(3, .int i0_4), (5, .int (fX9_place p1 i0_4)), (0, .ref h0), (1, .int p1), (2, .int p2), (4, .int i0_4)]) hx hb dX9_cheapest_106 rfl hl (by decide) rfl (fun ls hl => ?_)
              refine lv_iinc (v := i0_4 + 1) (lv' := [(4, .int (i0_4 + 1)), (3, .int i0_4), (5, .int (fX9_place p1 i0_4)), (0, .ref h0), (1, .int p1), (2, .int p2)]) hx hb dX9_cheapest_107 hl (k := 5) rfl rfl (by decide) rfl (fun ls hl => ?_)
              refine lv_goto (tgt := 37) hx hb dX9_cheapest_110 (by decide) ?_
              exact ih i0_4 (i0_4 + 1) out ls hm (lv_sub hl [3, 4, 5, 1, 0] rfl) hk
            · replace hm := (if_neg zc9).symm.trans hm
              refine lv_aload_n hx hb dX9_cheapest_86 rfl (lv_at hl 1 rfl) ?_
              refine lv_iload hx hb dX9_cheapest_87 (lv_at hl 0 rfl) ?_
              obtain ⟨zq10, hzq10, hm⟩ := bdk hm
              refine ko_e (va_runV (As := [.int (fX9_place p1 i0_4)]) (rest := []) ⟨hx, hb, hml, hown, htG⟩ (kX9_highest l g h0 h1 h2 h3 x (fX9_place p1 i0_4) _ hzq10) (cwV 1 htG (GV g4_168 g4_170 gS_34 g1_10 g4_171) rfl rfl rfl hd_X9_highest ⟨Nat.le_of_ble_eq_true rfl, Nat.le_of_ble_eq_true rfl⟩) (PR_VA hK hL hS hP (ci := 8) rfl 0 rfl) rfl rfl hl.1 rfl (lv_room (Nat.le_of_ble_eq_true rfl)) dX9_cheapest_89 ⟨Nat.zero_le _, Nat.zero_le _⟩) ?_
              refine lv_aload_n hx hb dX9_cheapest_92 rfl (lv_at hl 1 rfl) ?_
              refine lv_iload_n hx hb dX9_cheapest_93 rfl (lv_at hl 2 rfl) ?_
              refine lv_iload_n hx hb dX9_cheapest_94 rfl (lv_at hl 4 rfl) ?_
              refine ko_e (va_runS (As := [.int p1, .int i0_3]) (rest := [.ref h0, .int zq10]) ⟨hx, hb, hml, hown, htG⟩ (kX9_place l g p1 i0_3 _ rfl) (va_cwS 2 htG (GS g4_35 g4_36 g1_10 g4_37) rfl rfl rfl hs_X9_place ⟨Nat.le_of_ble_eq_true rfl, Nat.le_of_ble_eq_true rfl⟩) (PR_S hK hL hS hP [] rfl) rfl rfl hl.1 rfl (lv_room (Nat.le_of_ble_eq_true rfl)) dX9_cheapest_95 ⟨Nat.zero_le _, Nat.zero_le _⟩) ?_
              obtain ⟨zq11, hzq11, hm⟩ := bdk hm
              refine ko_e (va_runV (As := [.int (fX9_place p1 i0_3)]) (rest := [.int zq10]) ⟨hx, hb, hml, hown, htG⟩ (kX9_highest l g h0 h1 h2 h3 x (fX9_place p1 i0_3) _ hzq11) (cwV 1 htG (GV g4_168 g4_170 gS_34 g1_10 g4_171) rfl rfl rfl hd_X9_highest ⟨Nat.le_of_ble_eq_true rfl, Nat.le_of_ble_eq_true rfl⟩) (PR_VA hK hL hS hP (ci := 8) rfl 0 rfl) rfl rfl hl.1 rfl (lv_room (Nat.le_of_ble_eq_true rfl)) dX9_cheapest_98 ⟨Nat.zero_le _, Nat.zero_le _⟩) ?_
              refine lv_icmp_ge (tgt := 107) hx hb dX9_cheapest_101 (by decide) (fun zc12 => ?_) (fun zc12 => ?_)
              · replace hm := (if_pos zc12).symm.trans hm
                refine lv_iinc (v := i0_4 + 1) (lv' := [(4, .int (i0_4 + 1)), (5, .int (fX9_place p1 i0_4)), (0, .ref h0), (1, .int p1), (2, .int p2), (3, .int i0_3)]) hx hb dX9_cheapest_107 hl (k := 5) rfl rfl (by decide) rfl (fun ls hl => ?_)
                refine lv_goto (tgt := 37) hx hb dX9_cheapest_110 (by decide) ?_
                exact ih i0_3 (i0_4 + 1) out ls hm (lv_sub hl [2, 3, 4, 5, 0] rfl) hk
              · replace hm := (if_neg zc12).symm.trans hm
                refine lv_iload hx hb dX9_cheapest_104 (lv_at hl 5 rfl) ?_
                refine lv_istore_n (lv' := [(3, .int i0_4), (5, .int (fX9_place p1 i0_4)), (0, .ref h0), (1, .int p1), (2, .int p2), (4, .int i0_4)]) hx hb dX9_cheapest_106 rfl hl (by decide) rfl (fun ls hl => ?_)
                refine lv_iinc (v := i0_4 + 1) (lv' := [(4, .int (i0_4 + 1)), (3, .int i0_4), (5, .int (fX9_place p1 i0_4)), (0, .ref h0), (1, .int p1), (2, .int p2)]) hx hb dX9_cheapest_107 hl (k := 5) rfl rfl (by decide) rfl (fun ls hl => ?_)
                refine lv_goto (tgt := 37) hx hb dX9_cheapest_110 (by decide) ?_
                exact ih i0_4 (i0_4 + 1) out ls hm (lv_sub hl [3, 4, 5, 1, 0] rfl) hk
  refine lv_iload_n hx hb dX9_cheapest_0 rfl (lv_at hl 1 rfl) ?_
  refine lv_iconst (v := 0) hx hb dX9_cheapest_1 (by decide) ?_
  refine lv_iconst (v := 2) hx hb dX9_cheapest_2 (by decide) ?_
  refine ko_e (va_runS (As := [.int p1, .int 0, .int 2]) (rest := []) ⟨hx, hb, hml, hown, htG⟩ (kX9_in l g p1 0 2 _ rfl) (va_cwS 3 htG (GS g4_1 g4_2 g1_10 g4_3) rfl rfl rfl hs_X9_in ⟨Nat.le_of_ble_eq_true rfl, Nat.le_of_ble_eq_true rfl⟩) (PR_S hK hL hS hP [] rfl) rfl rfl hl.1 rfl (lv_room (Nat.le_of_ble_eq_true rfl)) dX9_cheapest_3 ⟨Nat.zero_le _, Nat.zero_le _⟩) ?_
  refine lv_if_ne (tgt := 11) hx hb dX9_cheapest_6 (by decide) (fun zc1 => ?_) (fun zc1 => ?_)
  · replace hm := (if_neg zc1).symm.trans hm
    refine lv_iload_n hx hb dX9_cheapest_11 rfl (lv_at hl 2 rfl) ?_
    refine lv_iconst (v := 1) hx hb dX9_cheapest_12 (by decide) ?_
    refine lv_iload_n hx hb dX9_cheapest_13 rfl (lv_at hl 1 rfl) ?_
    refine ko_e (va_runS (As := [.int p1]) (rest := [.int 1, .int p2]) ⟨hx, hb, hml, hown, htG⟩ (kX9_most l g p1 _ rfl) (va_cwS 1 htG (GS g4_32 g4_33 g1_10 g4_34) rfl rfl rfl hs_X9_most ⟨Nat.le_of_ble_eq_true rfl, Nat.le_of_ble_eq_true rfl⟩) (PR_S hK hL hS hP [] rfl) rfl rfl hl.1 rfl (lv_room (Nat.le_of_ble_eq_true rfl)) dX9_cheapest_14 ⟨Nat.zero_le _, Nat.zero_le _⟩) ?_
    refine ko_e (va_runS (As := [.int p2, .int 1, .int (fX9_most p1)]) (rest := []) ⟨hx, hb, hml, hown, htG⟩ (kX9_in l g p2 1 (fX9_most p1) _ rfl) (va_cwS 3 htG (GS g4_1 g4_2 g1_10 g4_3) rfl rfl rfl hs_X9_in ⟨Nat.le_of_ble_eq_true rfl, Nat.le_of_ble_eq_true rfl⟩) (PR_S hK hL hS hP [] rfl) rfl rfl hl.1 rfl (lv_room (Nat.le_of_ble_eq_true rfl)) dX9_cheapest_17 ⟨Nat.zero_le _, Nat.zero_le _⟩) ?_
    refine lv_if_ne (tgt := 26) hx hb dX9_cheapest_20 (by decide) (fun zc2 => ?_) (fun zc2 => ?_)
    · replace hm := (if_neg zc2).symm.trans hm
      refine lv_bipush (v := (-5)) hx hb dX9_cheapest_26 (by decide +kernel) ?_
      refine lv_istore_n (lv' := [(3, .int (-5)), (0, .ref h0), (1, .int p1), (2, .int p2)]) hx hb dX9_cheapest_28 rfl hl (by decide) rfl (fun ls hl => ?_)
      refine lv_aload_n hx hb dX9_cheapest_29 rfl (lv_at hl 1 rfl) ?_
      refine va_get (D := g.1) (ci := 8) (v := .ref h1) (C := RX9) (T := TX9) (N := 11) hx hb htG in_wsX90 hown hK.1 hP 0 rfl rfl 0 (by decide) (htG _ g3_195) (fun _ h9 => h9) rfl dX9_cheapest_30 ?_
      refine lv_iconst (v := 1) hx hb dX9_cheapest_33 (by decide) ?_
      refine va_iald hx hb hK.1 hP 1 0 rfl rfl (ib_in (by decide +kernel)) dX9_cheapest_34 ?_
      obtain ⟨zv3, ezv3, hm⟩ := bnk hm
      refine tope ezv3 ?_
      refine lv_istore (lv' := [(4, .int zv3), (3, .int (-5)), (0, .ref h0), (1, .int p1), (2, .int p2)]) hx hb dX9_cheapest_35 hl (by decide) rfl (fun ls hl => ?_)
      obtain ⟨zq13, hzq13, hm⟩ := bdk hm
      refine hL0 _ 1000 (-5) zv3 zq13 _ hzq13 (lv_sub hl [2, 3, 4, 1, 0] rfl) (fun ls hl => ?_)
      refine lv_iload_n hx hb dX9_cheapest_113 rfl (lv_at hl 0 rfl) ?_
      exact W.iret (v := zq13) hx hb hr (fun t ht hW => ⟨_, rfl, (Option.some.inj hm), ht⟩) (fun _ h => nomatch h) dX9_cheapest_114
    · replace hm := (if_pos zc2).symm.trans hm
      refine lv_bipush (v := (-2)) hx hb dX9_cheapest_23 (by decide +kernel) ?_
      exact W.iret (v := (-2)) hx hb hr (fun t ht hW => ⟨_, rfl, (Option.some.inj hm), ht⟩) (fun _ h => nomatch h) dX9_cheapest_25
  · replace hm := (if_pos zc1).symm.trans hm
    refine lv_iconst (v := (-1)) hx hb dX9_cheapest_9 (by decide) ?_
    exact W.iret (v := (-1)) hx hb hr (fun t ht hW => ⟨_, rfl, (Option.some.inj hm), ht⟩) (fun _ h => nomatch h) dX9_cheapest_10
def fX9_count_L0 (x : MD) : Nat → Int32 → Int32 → Option (Int32)
  | 0, _, _ => none
  | n + 1, i0_2, i0_3 => (if 6 ≤ i0_3 then (some i0_2) else (if ib (2 + i0_3) 5845 = true then (bnd (i0_2 + (x.1 ((2 + i0_3).toNatClampNeg))) (fun zv24 => (fX9_count_L0 x n zv24 (i0_3 + 1)))) else none))
def fX9_count (x : MD) (p1 : Int32) : Option (Int32) := (if p1 = 0 then (if ib p1 5845 = true then some (x.1 p1.toNatClampNeg) else none) else (if p1 = 1 then (if ib p1 5845 = true then some (x.1 p1.toNatClampNeg) else none) else (if p1 = 2 then ((fX9_bids x 0).bind (fun zq6 => some zq6)) else (if p1 = 3 then ((fX9_awarded x (-1)).bind (fun zq8 => some zq8)) else (if p1 = 4 then (if ib ((26 + p1) - 4) 5845 = true then some (x.1 (((26 + p1) - 4).toNatClampNeg)) else none) else (if p1 = 5 then (if ib ((26 + p1) - 4) 5845 = true then some (x.1 (((26 + p1) - 4).toNatClampNeg)) else none) else (if p1 = 6 then (if ib ((26 + p1) - 4) 5845 = true then some (x.1 (((26 + p1) - 4).toNatClampNeg)) else none) else (if p1 = 7 then (if ib ((26 + p1) - 4) 5845 = true then some (x.1 (((26 + p1) - 4).toNatClampNeg)) else none) else (if p1 = 8 then (if ib ((26 + p1) - 4) 5845 = true then some (x.1 (((26 + p1) - 4).toNatClampNeg)) else none) else (if p1 = 9 then (if ib ((26 + p1) - 4) 5845 = true then some (x.1 (((26 + p1) - 4).toNatClampNeg)) else none) else (if p1 = 10 then ((fX9_count_L0 x 1000 0 0).bind (fun zq25 => some zq25)) else (if p1 = 11 then (if ib ((32 + p1) - 11) 5845 = true then some (x.1 (((32 + p1) - 11).toNatClampNeg)) else none) else (if p1 = 12 then (if ib ((32 + p1) - 11) 5845 = true then some (x.1 (((32 + p1) - 11).toNatClampNeg)) else none) else (if p1 = 13 then (if ib ((32 + p1) - 11) 5845 = true then some (x.1 (((32 + p1) - 11).toNatClampNeg)) else none) else (if p1 = 14 then some x.2.1 else (if p1 = 15 then some x.2.2.2.2.1 else some (-2)))))))))))))))))
abbrev rm_X9_count : Jvm.Room := { frames := 2, cells := 0, slots := 0, locals := 47 }
theorem hd_X9_count : yX9_count.cls = RX9 ∧ yX9_count.cls ≠ "java/lang/invoke/MethodHandle" ∧ yX9_count.cls ≠ "java/lang/invoke/VarHandle" ∧ (parseMethodDescriptor yX9_count.desc).map (fun d => d.parameters.length) = some 1 := by decide +kernel
set_option maxHeartbeats 4000000 in
set_option maxRecDepth 100000 in
theorem kX9_count (l : Launch) (g : CX) (h0 h1 h2 h3 : Nat) (x : MD) (p1 : Int32) (res : Int32) (hm0 : fX9_count x p1 = some res) : Met l yX9_count (wg yX9_count cX9_count 4 (some .int)) rm_X9_count (PR g [.ref h0, .int p1] (w_X9 g h0 h1 h2 h3 x)) (vp_Si (fun v => v = res)) 0 0 (fun _ => False) := by
  refine Met.ofW (cc := cX9_count) (maxL := 4) (ret := (some .int)) (by decide) rfl ?_
  intro p e s m args below meth c s₁ B hml hv
  obtain ⟨rfl, hP, hK, hL⟩ := hv
  have hx := B.exec
  have hb := B.bytes
  have hr := B.returns
  have htG := wg_G (atoms_spec (ws := wg yX9_count cX9_count 4 (some .int)) B.pre)
  have hown : s.vm.findClass RX9 = some m.cls := findClass_of_methodNamed B.named
  have hlocks := B.notSynchronized
  have hS : va_S (fun _ => False) s.heap s.heap [] := va_S.rf
  have hl := lv_entry ([.ref h0, .int p1]) (n := 4) (Nat.le_of_ble_eq_true rfl)
  rw [lg_entry_eq]
  generalize (lg_sl ([.ref h0, .int p1]) ++ List.replicate (4 - (lg_sl ([.ref h0, .int p1])).length) Slot.unset).toArray = ls at hl ⊢
  have hl : lv_has ls 4 [(0, .ref h0), (1, .int p1)] := hl
  have hm := hm0
  unfold fX9_count at hm
  have hL0 : ∀ (Q : State → Prop), ∀ (n : Nat) (i0_2 : Int32) (i0_3 : Int32) (out : Int32) (ls : Array Slot), fX9_count_L0 x n i0_2 i0_3 = some out → lv_has ls 4 [(0, .ref h0), (2, .int i0_2), (3, .int i0_3)] → (∀ ls : Array Slot, lv_has ls 4 [(2, .int out)] → W p l e (headSpec (wg yX9_count cX9_count 4 (some .int)) rm_X9_count).room s m (([.ref h0, .int p1] : List Value).toArray) below meth c s.heap [] 0 0 Q (F0 m 136 ls [])) → W p l e (headSpec (wg yX9_count cX9_count 4 (some .int)) rm_X9_count).room s m (([.ref h0, .int p1] : List Value).toArray) below meth c s.heap [] 0 0 Q (F0 m 113 ls []) := by
    intro Q n
    induction n with
    | zero =>
      intro i0_2 i0_3 out ls hm hl hk
      simp [fX9_count_L0] at hm
    | succ n ih =>
      intro i0_2 i0_3 out ls hm hl hk
      rw [fX9_count_L0] at hm
      refine lv_iload_n hx hb dX9_count_113 rfl (lv_at hl 2 rfl) ?_
      refine lv_bipush (v := 6) hx hb dX9_count_114 (by decide +kernel) ?_
      refine lv_icmp_ge (tgt := 136) hx hb dX9_count_116 (by decide) (fun zc22 => ?_) (fun zc22 => ?_)
      · replace hm := (if_pos zc22).symm.trans hm
        obtain rfl := Option.some.inj hm
        exact hk ls (lv_sub hl [1] rfl)
      · replace hm := (if_neg zc22).symm.trans hm
        refine lv_iload_n hx hb dX9_count_119 rfl (lv_at hl 1 rfl) ?_
        refine lv_aload_n hx hb dX9_count_120 rfl (lv_at hl 0 rfl) ?_
        refine va_get (D := g.1) (ci := 8) (v := .ref h1) (C := RX9) (T := TX9) (N := 11) hx hb htG in_wsX90 hown hK.1 hP 0 rfl rfl 0 (by decide) (htG _ g3_195) (fun _ h9 => h9) rfl dX9_count_121 ?_
        refine lv_iconst (v := 2) hx hb dX9_count_124 (by decide) ?_
        refine lv_iload_n hx hb dX9_count_125 rfl (lv_at hl 2 rfl) ?_
        refine lv_iadd hx hb dX9_count_126 ?_
        obtain ⟨zb23, hm⟩ := ibk hm
        refine va_iald hx hb hK.1 hP 1 0 rfl rfl zb23 dX9_count_127 ?_
        refine lv_iadd hx hb dX9_count_128 ?_
        obtain ⟨zv24, ezv24, hm⟩ := bnk hm
        refine tope ezv24 ?_
        refine lv_istore_n (lv' := [(2, .int zv24), (0, .ref h0), (3, .int i0_3)]) hx hb dX9_count_129 rfl hl (by decide) rfl (fun ls hl => ?_)
        refine lv_iinc (v := i0_3 + 1) (lv' := [(3, .int (i0_3 + 1)), (2, .int zv24), (0, .ref h0)]) hx hb dX9_count_130 hl (k := 2) rfl rfl (by decide) rfl (fun ls hl => ?_)
        refine lv_goto (tgt := 113) hx hb dX9_count_133 (by decide) ?_
        exact ih zv24 (i0_3 + 1) out ls hm (lv_sub hl [2, 1, 0] rfl) hk
  refine lv_iconst (v := 0) hx hb dX9_count_0 (by decide) ?_
  refine lv_istore_n (lv' := [(2, .int 0), (0, .ref h0), (1, .int p1)]) hx hb dX9_count_1 rfl hl (by decide) rfl (fun ls hl => ?_)
  refine lv_iload_n hx hb dX9_count_2 rfl (lv_at hl 2 rfl) ?_
  by_cases zc1 : p1 = 0
  · replace hm := (if_pos zc1).symm.trans hm
    refine lv_tableIn (tgt := 80) hx hb dX9_count_3 (by rw [zc1]; decide) (by rw [zc1]; decide) (by rw [zc1]; rfl) (by decide) ?_
    refine lv_aload_n hx hb dX9_count_80 rfl (lv_at hl 1 rfl) ?_
    refine va_get (D := g.1) (ci := 8) (v := .ref h1) (C := RX9) (T := TX9) (N := 11) hx hb htG in_wsX90 hown hK.1 hP 0 rfl rfl 0 (by decide) (htG _ g3_195) (fun _ h9 => h9) rfl dX9_count_81 ?_
    refine lv_iload_n hx hb dX9_count_84 rfl (lv_at hl 2 rfl) ?_
    obtain ⟨zb2, hm⟩ := ibk hm
    refine va_iald hx hb hK.1 hP 1 0 rfl rfl zb2 dX9_count_85 ?_
    exact W.iret (v := (x.1 p1.toNatClampNeg)) hx hb hr (fun t ht hW => ⟨_, rfl, (Option.some.inj hm), ht⟩) (fun _ h => nomatch h) dX9_count_86
  · replace hm := (if_neg zc1).symm.trans hm
    by_cases zc3 : p1 = 1
    · replace hm := (if_pos zc3).symm.trans hm
      refine lv_tableIn (tgt := 80) hx hb dX9_count_3 (by rw [zc3]; decide) (by rw [zc3]; decide) (by rw [zc3]; rfl) (by decide) ?_
      refine lv_aload_n hx hb dX9_count_80 rfl (lv_at hl 1 rfl) ?_
      refine va_get (D := g.1) (ci := 8) (v := .ref h1) (C := RX9) (T := TX9) (N := 11) hx hb htG in_wsX90 hown hK.1 hP 0 rfl rfl 0 (by decide) (htG _ g3_195) (fun _ h9 => h9) rfl dX9_count_81 ?_
      refine lv_iload_n hx hb dX9_count_84 rfl (lv_at hl 2 rfl) ?_
      obtain ⟨zb4, hm⟩ := ibk hm
      refine va_iald hx hb hK.1 hP 1 0 rfl rfl zb4 dX9_count_85 ?_
      exact W.iret (v := (x.1 p1.toNatClampNeg)) hx hb hr (fun t ht hW => ⟨_, rfl, (Option.some.inj hm), ht⟩) (fun _ h => nomatch h) dX9_count_86
    · replace hm := (if_neg zc3).symm.trans hm
      by_cases zc5 : p1 = 2
      · replace hm := (if_pos zc5).symm.trans hm
        refine lv_tableIn (tgt := 87) hx hb dX9_count_3 (by rw [zc5]; decide) (by rw [zc5]; decide) (by rw [zc5]; rfl) (by decide) ?_
        refine lv_aload_n hx hb dX9_count_87 rfl (lv_at hl 1 rfl) ?_
        refine lv_iconst (v := 0) hx hb dX9_count_88 (by decide) ?_
        obtain ⟨zq6, hzq6, hm⟩ := bdk hm
        refine ko_e (va_runV (As := [.int 0]) (rest := []) ⟨hx, hb, hml, hown, htG⟩ (kX9_bids l g h0 h1 h2 h3 x 0 _ hzq6) (cwV 1 htG (GV g4_42 g4_44 gS_18 g1_10 g4_45) rfl rfl rfl hd_X9_bids ⟨Nat.le_of_ble_eq_true rfl, Nat.le_of_ble_eq_true rfl⟩) (PR_VA hK hL hS hP (ci := 8) rfl 0 rfl) rfl rfl hl.1 rfl (lv_room (Nat.le_of_ble_eq_true rfl)) dX9_count_89 ⟨Nat.zero_le _, Nat.zero_le _⟩) ?_
        exact W.iret (v := zq6) hx hb hr (fun t ht hW => ⟨_, rfl, (Option.some.inj hm), ht⟩) (fun _ h => nomatch h) dX9_count_92
      · replace hm := (if_neg zc5).symm.trans hm
        by_cases zc7 : p1 = 3
        · replace hm := (if_pos zc7).symm.trans hm
          refine lv_tableIn (tgt := 93) hx hb dX9_count_3 (by rw [zc7]; decide) (by rw [zc7]; decide) (by rw [zc7]; rfl) (by decide) ?_
          refine lv_aload_n hx hb dX9_count_93 rfl (lv_at hl 1 rfl) ?_
          refine lv_iconst (v := (-1)) hx hb dX9_count_94 (by decide) ?_
          obtain ⟨zq8, hzq8, hm⟩ := bdk hm
          refine ko_e (va_runV (As := [.int (-1)]) (rest := []) ⟨hx, hb, hml, hown, htG⟩ (kX9_awarded l g h0 h1 h2 h3 x (-1) _ hzq8) (cwV 1 htG (GV g4_160 g4_162 gS_33 g1_10 g4_163) rfl rfl rfl hd_X9_awarded ⟨Nat.le_of_ble_eq_true rfl, Nat.le_of_ble_eq_true rfl⟩) (PR_VA hK hL hS hP (ci := 8) rfl 0 rfl) rfl rfl hl.1 rfl (lv_room (Nat.le_of_ble_eq_true rfl)) dX9_count_95 ⟨Nat.zero_le _, Nat.zero_le _⟩) ?_
          exact W.iret (v := zq8) hx hb hr (fun t ht hW => ⟨_, rfl, (Option.some.inj hm), ht⟩) (fun _ h => nomatch h) dX9_count_98
        · replace hm := (if_neg zc7).symm.trans hm
          by_cases zc9 : p1 = 4
          · replace hm := (if_pos zc9).symm.trans hm
            refine lv_tableIn (tgt := 99) hx hb dX9_count_3 (by rw [zc9]; decide) (by rw [zc9]; decide) (by rw [zc9]; rfl) (by decide) ?_
            refine lv_aload_n hx hb dX9_count_99 rfl (lv_at hl 1 rfl) ?_
            refine va_get (D := g.1) (ci := 8) (v := .ref h1) (C := RX9) (T := TX9) (N := 11) hx hb htG in_wsX90 hown hK.1 hP 0 rfl rfl 0 (by decide) (htG _ g3_195) (fun _ h9 => h9) rfl dX9_count_100 ?_
            refine lv_bipush (v := 26) hx hb dX9_count_103 (by decide +kernel) ?_
            refine lv_iload_n hx hb dX9_count_105 rfl (lv_at hl 2 rfl) ?_
            refine lv_iadd hx hb dX9_count_106 ?_
            refine lv_iconst (v := 4) hx hb dX9_count_107 (by decide) ?_
            refine lv_isub hx hb dX9_count_108 ?_
            obtain ⟨zb10, hm⟩ := ibk hm
            refine va_iald hx hb hK.1 hP 1 0 rfl rfl zb10 dX9_count_109 ?_
            exact W.iret (v := (x.1 (((26 + p1) - 4).toNatClampNeg))) hx hb hr (fun t ht hW => ⟨_, rfl, (Option.some.inj hm), ht⟩) (fun _ h => nomatch h) dX9_count_110
          · replace hm := (if_neg zc9).symm.trans hm
            by_cases zc11 : p1 = 5
            · replace hm := (if_pos zc11).symm.trans hm
              refine lv_tableIn (tgt := 99) hx hb dX9_count_3 (by rw [zc11]; decide) (by rw [zc11]; decide) (by rw [zc11]; rfl) (by decide) ?_
              refine lv_aload_n hx hb dX9_count_99 rfl (lv_at hl 1 rfl) ?_
              refine va_get (D := g.1) (ci := 8) (v := .ref h1) (C := RX9) (T := TX9) (N := 11) hx hb htG in_wsX90 hown hK.1 hP 0 rfl rfl 0 (by decide) (htG _ g3_195) (fun _ h9 => h9) rfl dX9_count_100 ?_
              refine lv_bipush (v := 26) hx hb dX9_count_103 (by decide +kernel) ?_
              refine lv_iload_n hx hb dX9_count_105 rfl (lv_at hl 2 rfl) ?_
              refine lv_iadd hx hb dX9_count_106 ?_
              refine lv_iconst (v := 4) hx hb dX9_count_107 (by decide) ?_
              refine lv_isub hx hb dX9_count_108 ?_
              obtain ⟨zb12, hm⟩ := ibk hm
              refine va_iald hx hb hK.1 hP 1 0 rfl rfl zb12 dX9_count_109 ?_
              exact W.iret (v := (x.1 (((26 + p1) - 4).toNatClampNeg))) hx hb hr (fun t ht hW => ⟨_, rfl, (Option.some.inj hm), ht⟩) (fun _ h => nomatch h) dX9_count_110
            · replace hm := (if_neg zc11).symm.trans hm
              by_cases zc13 : p1 = 6
              · replace hm := (if_pos zc13).symm.trans hm
                refine lv_tableIn (tgt := 99) hx hb dX9_count_3 (by rw [zc13]; decide) (by rw [zc13]; decide) (by rw [zc13]; rfl) (by decide) ?_
                refine lv_aload_n hx hb dX9_count_99 rfl (lv_at hl 1 rfl) ?_
                refine va_get (D := g.1) (ci := 8) (v := .ref h1) (C := RX9) (T := TX9) (N := 11) hx hb htG in_wsX90 hown hK.1 hP 0 rfl rfl 0 (by decide) (htG _ g3_195) (fun _ h9 => h9) rfl dX9_count_100 ?_
                refine lv_bipush (v := 26) hx hb dX9_count_103 (by decide +kernel) ?_
                refine lv_iload_n hx hb dX9_count_105 rfl (lv_at hl 2 rfl) ?_
                refine lv_iadd hx hb dX9_count_106 ?_
                refine lv_iconst (v := 4) hx hb dX9_count_107 (by decide) ?_
                refine lv_isub hx hb dX9_count_108 ?_
                obtain ⟨zb14, hm⟩ := ibk hm
                refine va_iald hx hb hK.1 hP 1 0 rfl rfl zb14 dX9_count_109 ?_
                exact W.iret (v := (x.1 (((26 + p1) - 4).toNatClampNeg))) hx hb hr (fun t ht hW => ⟨_, rfl, (Option.some.inj hm), ht⟩) (fun _ h => nomatch h) dX9_count_110
              · replace hm := (if_neg zc13).symm.trans hm
                by_cases zc15 : p1 = 7
                · replace hm := (if_pos zc15).symm.trans hm
                  refine lv_tableIn (tgt := 99) hx hb dX9_count_3 (by rw [zc15]; decide) (by rw [zc15]; decide) (by rw [zc15]; rfl) (by decide) ?_
                  refine lv_aload_n hx hb dX9_count_99 rfl (lv_at hl 1 rfl) ?_
                  refine va_get (D := g.1) (ci := 8) (v := .ref h1) (C := RX9) (T := TX9) (N := 11) hx hb htG in_wsX90 hown hK.1 hP 0 rfl rfl 0 (by decide) (htG _ g3_195) (fun _ h9 => h9) rfl dX9_count_100 ?_
                  refine lv_bipush (v := 26) hx hb dX9_count_103 (by decide +kernel) ?_
                  refine lv_iload_n hx hb dX9_count_105 rfl (lv_at hl 2 rfl) ?_
                  refine lv_iadd hx hb dX9_count_106 ?_
                  refine lv_iconst (v := 4) hx hb dX9_count_107 (by decide) ?_
                  refine lv_isub hx hb dX9_count_108 ?_
                  obtain ⟨zb16, hm⟩ := ibk hm
                  refine va_iald hx hb hK.1 hP 1 0 rfl rfl zb16 dX9_count_109 ?_
                  exact W.iret (v := (x.1 (((26 + p1) - 4).toNatClampNeg))) hx hb hr (fun t ht hW => ⟨_, rfl, (Option.some.inj hm), ht⟩) (fun _ h => nomatch h) dX9_count_110
                · replace hm := (if_neg zc15).symm.trans hm
                  by_cases zc17 : p1 = 8
                  · replace hm := (if_pos zc17).symm.trans hm
                    refine lv_tableIn (tgt := 99) hx hb dX9_count_3 (by rw [zc17]; decide) (by rw [zc17]; decide) (by rw [zc17]; rfl) (by decide) ?_
                    refine lv_aload_n hx hb dX9_count_99 rfl (lv_at hl 1 rfl) ?_
                    refine va_get (D := g.1) (ci := 8) (v := .ref h1) (C := RX9) (T := TX9) (N := 11) hx hb htG in_wsX90 hown hK.1 hP 0 rfl rfl 0 (by decide) (htG _ g3_195) (fun _ h9 => h9) rfl dX9_count_100 ?_
                    refine lv_bipush (v := 26) hx hb dX9_count_103 (by decide +kernel) ?_
                    refine lv_iload_n hx hb dX9_count_105 rfl (lv_at hl 2 rfl) ?_
                    refine lv_iadd hx hb dX9_count_106 ?_
                    refine lv_iconst (v := 4) hx hb dX9_count_107 (by decide) ?_
                    refine lv_isub hx hb dX9_count_108 ?_
                    obtain ⟨zb18, hm⟩ := ibk hm
                    refine va_iald hx hb hK.1 hP 1 0 rfl rfl zb18 dX9_count_109 ?_
                    exact W.iret (v := (x.1 (((26 + p1) - 4).toNatClampNeg))) hx hb hr (fun t ht hW => ⟨_, rfl, (Option.some.inj hm), ht⟩) (fun _ h => nomatch h) dX9_count_110
                  · replace hm := (if_neg zc17).symm.trans hm
                    by_cases zc19 : p1 = 9
                    · replace hm := (if_pos zc19).symm.trans hm
                      refine lv_tableIn (tgt := 99) hx hb dX9_count_3 (by rw [zc19]; decide) (by rw [zc19]; decide) (by rw [zc19]; rfl) (by decide) ?_
                      refine lv_aload_n hx hb dX9_count_99 rfl (lv_at hl 1 rfl) ?_
                      refine va_get (D := g.1) (ci := 8) (v := .ref h1) (C := RX9) (T := TX9) (N := 11) hx hb htG in_wsX90 hown hK.1 hP 0 rfl rfl 0 (by decide) (htG _ g3_195) (fun _ h9 => h9) rfl dX9_count_100 ?_
                      refine lv_bipush (v := 26) hx hb dX9_count_103 (by decide +kernel) ?_
                      refine lv_iload_n hx hb dX9_count_105 rfl (lv_at hl 2 rfl) ?_
                      refine lv_iadd hx hb dX9_count_106 ?_
                      refine lv_iconst (v := 4) hx hb dX9_count_107 (by decide) ?_
                      refine lv_isub hx hb dX9_count_108 ?_
                      obtain ⟨zb20, hm⟩ := ibk hm
                      refine va_iald hx hb hK.1 hP 1 0 rfl rfl zb20 dX9_count_109 ?_
                      exact W.iret (v := (x.1 (((26 + p1) - 4).toNatClampNeg))) hx hb hr (fun t ht hW => ⟨_, rfl, (Option.some.inj hm), ht⟩) (fun _ h => nomatch h) dX9_count_110
                    · replace hm := (if_neg zc19).symm.trans hm
                      by_cases zc21 : p1 = 10
                      · replace hm := (if_pos zc21).symm.trans hm
                        refine lv_tableIn (tgt := 111) hx hb dX9_count_3 (by rw [zc21]; decide) (by rw [zc21]; decide) (by rw [zc21]; rfl) (by decide) ?_
                        refine lv_iconst (v := 0) hx hb dX9_count_111 (by decide) ?_
                        refine lv_istore_n (lv' := [(3, .int 0), (2, .int 0), (0, .ref h0), (1, .int p1)]) hx hb dX9_count_112 rfl hl (by decide) rfl (fun ls hl => ?_)
                        obtain ⟨zq25, hzq25, hm⟩ := bdk hm
                        refine hL0 _ 1000 0 0 zq25 _ hzq25 (lv_sub hl [2, 1, 0] rfl) (fun ls hl => ?_)
                        refine lv_iload_n hx hb dX9_count_136 rfl (lv_at hl 0 rfl) ?_
                        exact W.iret (v := zq25) hx hb hr (fun t ht hW => ⟨_, rfl, (Option.some.inj hm), ht⟩) (fun _ h => nomatch h) dX9_count_137
                      · replace hm := (if_neg zc21).symm.trans hm
                        by_cases zc26 : p1 = 11
                        · replace hm := (if_pos zc26).symm.trans hm
                          refine lv_tableIn (tgt := 138) hx hb dX9_count_3 (by rw [zc26]; decide) (by rw [zc26]; decide) (by rw [zc26]; rfl) (by decide) ?_
                          refine lv_aload_n hx hb dX9_count_138 rfl (lv_at hl 1 rfl) ?_
                          refine va_get (D := g.1) (ci := 8) (v := .ref h1) (C := RX9) (T := TX9) (N := 11) hx hb htG in_wsX90 hown hK.1 hP 0 rfl rfl 0 (by decide) (htG _ g3_195) (fun _ h9 => h9) rfl dX9_count_139 ?_
                          refine lv_bipush (v := 32) hx hb dX9_count_142 (by decide +kernel) ?_
                          refine lv_iload_n hx hb dX9_count_144 rfl (lv_at hl 2 rfl) ?_
                          refine lv_iadd hx hb dX9_count_145 ?_
                          refine lv_bipush (v := 11) hx hb dX9_count_146 (by decide +kernel) ?_
                          refine lv_isub hx hb dX9_count_148 ?_
                          obtain ⟨zb27, hm⟩ := ibk hm
                          refine va_iald hx hb hK.1 hP 1 0 rfl rfl zb27 dX9_count_149 ?_
                          exact W.iret (v := (x.1 (((32 + p1) - 11).toNatClampNeg))) hx hb hr (fun t ht hW => ⟨_, rfl, (Option.some.inj hm), ht⟩) (fun _ h => nomatch h) dX9_count_150
                        · replace hm := (if_neg zc26).symm.trans hm
                          by_cases zc28 : p1 = 12
                          · replace hm := (if_pos zc28).symm.trans hm
                            refine lv_tableIn (tgt := 138) hx hb dX9_count_3 (by rw [zc28]; decide) (by rw [zc28]; decide) (by rw [zc28]; rfl) (by decide) ?_
                            refine lv_aload_n hx hb dX9_count_138 rfl (lv_at hl 1 rfl) ?_
                            refine va_get (D := g.1) (ci := 8) (v := .ref h1) (C := RX9) (T := TX9) (N := 11) hx hb htG in_wsX90 hown hK.1 hP 0 rfl rfl 0 (by decide) (htG _ g3_195) (fun _ h9 => h9) rfl dX9_count_139 ?_
                            refine lv_bipush (v := 32) hx hb dX9_count_142 (by decide +kernel) ?_
                            refine lv_iload_n hx hb dX9_count_144 rfl (lv_at hl 2 rfl) ?_
                            refine lv_iadd hx hb dX9_count_145 ?_
                            refine lv_bipush (v := 11) hx hb dX9_count_146 (by decide +kernel) ?_
                            refine lv_isub hx hb dX9_count_148 ?_
                            obtain ⟨zb29, hm⟩ := ibk hm
                            refine va_iald hx hb hK.1 hP 1 0 rfl rfl zb29 dX9_count_149 ?_
                            exact W.iret (v := (x.1 (((32 + p1) - 11).toNatClampNeg))) hx hb hr (fun t ht hW => ⟨_, rfl, (Option.some.inj hm), ht⟩) (fun _ h => nomatch h) dX9_count_150
                          · replace hm := (if_neg zc28).symm.trans hm
                            by_cases zc30 : p1 = 13
                            · replace hm := (if_pos zc30).symm.trans hm
                              refine lv_tableIn (tgt := 138) hx hb dX9_count_3 (by rw [zc30]; decide) (by rw [zc30]; decide) (by rw [zc30]; rfl) (by decide) ?_
                              refine lv_aload_n hx hb dX9_count_138 rfl (lv_at hl 1 rfl) ?_
                              refine va_get (D := g.1) (ci := 8) (v := .ref h1) (C := RX9) (T := TX9) (N := 11) hx hb htG in_wsX90 hown hK.1 hP 0 rfl rfl 0 (by decide) (htG _ g3_195) (fun _ h9 => h9) rfl dX9_count_139 ?_
                              refine lv_bipush (v := 32) hx hb dX9_count_142 (by decide +kernel) ?_
                              refine lv_iload_n hx hb dX9_count_144 rfl (lv_at hl 2 rfl) ?_
                              refine lv_iadd hx hb dX9_count_145 ?_
                              refine lv_bipush (v := 11) hx hb dX9_count_146 (by decide +kernel) ?_
                              refine lv_isub hx hb dX9_count_148 ?_
                              obtain ⟨zb31, hm⟩ := ibk hm
                              refine va_iald hx hb hK.1 hP 1 0 rfl rfl zb31 dX9_count_149 ?_
                              exact W.iret (v := (x.1 (((32 + p1) - 11).toNatClampNeg))) hx hb hr (fun t ht hW => ⟨_, rfl, (Option.some.inj hm), ht⟩) (fun _ h => nomatch h) dX9_count_150
                            · replace hm := (if_neg zc30).symm.trans hm
                              by_cases zc32 : p1 = 14
                              · replace hm := (if_pos zc32).symm.trans hm
                                refine lv_tableIn (tgt := 151) hx hb dX9_count_3 (by rw [zc32]; decide) (by rw [zc32]; decide) (by rw [zc32]; rfl) (by decide) ?_
                                refine lv_aload_n hx hb dX9_count_151 rfl (lv_at hl 1 rfl) ?_
                                refine va_get (D := g.1) (ci := 8) (v := .int x.2.1) (C := RX9) (T := TX9) (N := 11) hx hb htG in_wsX90 hown hK.1 hP 0 rfl rfl 1 (by decide) (htG _ g3_196) (fun _ h9 => h9) rfl dX9_count_152 ?_
                                exact W.iret (v := x.2.1) hx hb hr (fun t ht hW => ⟨_, rfl, (Option.some.inj hm), ht⟩) (fun _ h => nomatch h) dX9_count_155
                              · replace hm := (if_neg zc32).symm.trans hm
                                by_cases zc33 : p1 = 15
                                · replace hm := (if_pos zc33).symm.trans hm
                                  refine lv_tableIn (tgt := 156) hx hb dX9_count_3 (by rw [zc33]; decide) (by rw [zc33]; decide) (by rw [zc33]; rfl) (by decide) ?_
                                  refine lv_aload_n hx hb dX9_count_156 rfl (lv_at hl 1 rfl) ?_
                                  refine va_get (D := g.1) (ci := 8) (v := .int x.2.2.2.2.1) (C := RX9) (T := TX9) (N := 11) hx hb htG in_wsX90 hown hK.1 hP 0 rfl rfl 4 (by decide) (htG _ g3_199) (fun _ h9 => h9) rfl dX9_count_157 ?_
                                  exact W.iret (v := x.2.2.2.2.1) hx hb hr (fun t ht hW => ⟨_, rfl, (Option.some.inj hm), ht⟩) (fun _ h => nomatch h) dX9_count_160
                                · replace hm := (if_neg zc33).symm.trans hm
                                  have ezc1 : p1.toInt ≠ 0 := fun e => zc1 (Int32.toInt_inj.mp (e.trans (by decide)))
                                  have ezc3 : p1.toInt ≠ 1 := fun e => zc3 (Int32.toInt_inj.mp (e.trans (by decide)))
                                  have ezc5 : p1.toInt ≠ 2 := fun e => zc5 (Int32.toInt_inj.mp (e.trans (by decide)))
                                  have ezc7 : p1.toInt ≠ 3 := fun e => zc7 (Int32.toInt_inj.mp (e.trans (by decide)))
                                  have ezc9 : p1.toInt ≠ 4 := fun e => zc9 (Int32.toInt_inj.mp (e.trans (by decide)))
                                  have ezc11 : p1.toInt ≠ 5 := fun e => zc11 (Int32.toInt_inj.mp (e.trans (by decide)))
                                  have ezc13 : p1.toInt ≠ 6 := fun e => zc13 (Int32.toInt_inj.mp (e.trans (by decide)))
                                  have ezc15 : p1.toInt ≠ 7 := fun e => zc15 (Int32.toInt_inj.mp (e.trans (by decide)))
                                  have ezc17 : p1.toInt ≠ 8 := fun e => zc17 (Int32.toInt_inj.mp (e.trans (by decide)))
                                  have ezc19 : p1.toInt ≠ 9 := fun e => zc19 (Int32.toInt_inj.mp (e.trans (by decide)))
                                  have ezc21 : p1.toInt ≠ 10 := fun e => zc21 (Int32.toInt_inj.mp (e.trans (by decide)))
                                  have ezc26 : p1.toInt ≠ 11 := fun e => zc26 (Int32.toInt_inj.mp (e.trans (by decide)))
                                  have ezc28 : p1.toInt ≠ 12 := fun e => zc28 (Int32.toInt_inj.mp (e.trans (by decide)))
                                  have ezc30 : p1.toInt ≠ 13 := fun e => zc30 (Int32.toInt_inj.mp (e.trans (by decide)))
                                  have ezc32 : p1.toInt ≠ 14 := fun e => zc32 (Int32.toInt_inj.mp (e.trans (by decide)))
                                  have ezc33 : p1.toInt ≠ 15 := fun e => zc33 (Int32.toInt_inj.mp (e.trans (by decide)))
                                  refine lv_tableOut (tgt := 161) hx hb dX9_count_3 (by omega) (by decide) ?_
                                  refine lv_bipush (v := (-2)) hx hb dX9_count_161 (by decide +kernel) ?_
                                  exact W.iret (v := (-2)) hx hb hr (fun t ht hW => ⟨_, rfl, (Option.some.inj hm), ht⟩) (fun _ h => nomatch h) dX9_count_163
