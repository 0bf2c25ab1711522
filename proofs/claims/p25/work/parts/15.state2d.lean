def fX6_reasonAgainst (x : SD) (p1 : Int32) (p2 : Int32) (p3 : Int32) : Option (Int32) := (if (fX5_isAwarded x.2.2.2.2.2.1 p2) = 0 then ((fX0_countFor x.2.2.2.2.1 p2).bind (fun zq3 => (if zq3 ≤ 0 then some 1 else some 2))) else (if (rat x.2.2.2.2.2.1.2.1 48 p2) ≤ (fX8_heaviestAt p1 p3) then some 0 else some 3))
abbrev rm_X6_reasonAgainst : Jvm.Room := { frames := 2, cells := 0, slots := 0, locals := 44 }
theorem hd_X6_reasonAgainst : yX6_reasonAgainst.cls = RX6 ∧ yX6_reasonAgainst.cls ≠ "java/lang/invoke/MethodHandle" ∧ yX6_reasonAgainst.cls ≠ "java/lang/invoke/VarHandle" ∧ (parseMethodDescriptor yX6_reasonAgainst.desc).map (fun d => d.parameters.length) = some 3 := by decide +kernel
set_option maxHeartbeats 4000000 in
set_option maxRecDepth 100000 in
theorem kX6_reasonAgainst (l : Launch) (g : CX) (a : Nat → Nat) (x : SD) (p1 : Int32) (p2 : Int32) (p3 : Int32) (res : Int32) (hm0 : fX6_reasonAgainst x p1 p2 p3 = some res) : Met l yX6_reasonAgainst (wg yX6_reasonAgainst cX6_reasonAgainst 4 (some .int)) rm_X6_reasonAgainst (PR g [.ref (a 0), .int p1, .int p2, .int p3] (w_X6 g a x)) (vp_Si (fun v => v = res)) 0 0 (fun _ => False) := by
  refine Met.ofW (cc := cX6_reasonAgainst) (maxL := 4) (ret := (some .int)) (by decide) rfl ?_
  intro p e s m args below meth c s₁ B hml hv
  obtain ⟨rfl, hP, hK, hL⟩ := hv
  have hx := B.exec
  have hb := B.bytes
  have hr := B.returns
  have htG := wg_G (atoms_spec (ws := wg yX6_reasonAgainst cX6_reasonAgainst 4 (some .int)) B.pre)
  have hown : s.vm.findClass RX6 = some m.cls := findClass_of_methodNamed B.named
  have hlocks := B.notSynchronized
  have hS : va_S (fun _ => False) s.heap s.heap [] := va_S.rf
  have hl := lv_entry ([.ref (a 0), .int p1, .int p2, .int p3]) (n := 4) (Nat.le_of_ble_eq_true rfl)
  rw [lg_entry_eq]
  generalize (lg_sl ([.ref (a 0), .int p1, .int p2, .int p3]) ++ List.replicate (4 - (lg_sl ([.ref (a 0), .int p1, .int p2, .int p3])).length) Slot.unset).toArray = ls at hl ⊢
  have hl : lv_has ls 4 [(0, .ref (a 0)), (1, .int p1), (2, .int p2), (3, .int p3)] := hl
  have hm := hm0
  unfold fX6_reasonAgainst at hm
  refine lv_aload_n hx hb dX6_reasonAgainst_0 rfl (lv_at hl 0 rfl) ?_
  refine va_get (D := g.1) (ci := 5) (v := .ref (a 6)) (C := RX6) (T := TX6) (N := 8) hx hb htG in_wsX60 hown hK.1 hP 0 rfl rfl 5 (by decide) (htG _ g1_138) (fun _ h9 => h9) rfl dX6_reasonAgainst_1 ?_
  refine lv_iload_n hx hb dX6_reasonAgainst_4 rfl (lv_at hl 2 rfl) ?_
  refine ko_e (va_runV (As := [.int p2]) (rest := []) ⟨hx, hb, hml, hown, htG⟩ (kX5_isAwarded l g (a 6) (a 7) (a 8) (a 9) (a 10) x.2.2.2.2.2.1 p2 _ rfl) (cwV 1 htG (GV g2_129 g2_130 g2_131 g1_4 g2_132) rfl rfl rfl hd_X5_isAwarded ⟨Nat.le_of_ble_eq_true rfl, Nat.le_of_ble_eq_true rfl⟩) (PR_V hK hL hS hP [6, 7, 8, 9, 10] rfl (ci := 4) rfl 6 rfl) rfl rfl hl.1 rfl (lv_room (Nat.le_of_ble_eq_true rfl)) dX6_reasonAgainst_5 ⟨Nat.zero_le _, Nat.zero_le _⟩) ?_
  refine lv_if_ne (tgt := 28) hx hb dX6_reasonAgainst_8 (by decide) (fun zc1 => ?_) (fun zc1 => ?_)
  · replace hm := (if_neg zc1).symm.trans hm
    refine lv_aload_n hx hb dX6_reasonAgainst_28 rfl (lv_at hl 0 rfl) ?_
    refine va_get (D := g.1) (ci := 5) (v := .ref (a 6)) (C := RX6) (T := TX6) (N := 8) hx hb htG in_wsX60 hown hK.1 hP 0 rfl rfl 5 (by decide) (htG _ g1_138) (fun _ h9 => h9) rfl dX6_reasonAgainst_29 ?_
    refine va_getN (D := g.1) (ci := 4) (v := .ref (a 8)) (C := RX5) (T := TX5) (N := 4) hx hb htG in_wsX50 hown hK.1 hP 6 rfl rfl 1 (by decide) (nw_1 hK) (fun _ h9 => h9) rfl dX6_reasonAgainst_32 ?_
    refine lv_iload_n hx hb dX6_reasonAgainst_35 rfl (lv_at hl 2 rfl) ?_
    refine ko_e (va_runS (As := [.ref (a 8), .int p2]) (rest := []) ⟨hx, hb, hml, hown, htG⟩ (kX4_at l g (a 8) x.2.2.2.2.2.1.2.1 48 p2 (by decide)) (va_cwS 2 htG (GS g2_60 g2_61 g1_5 g2_62) rfl rfl rfl hs_X4_at ⟨Nat.le_of_ble_eq_true rfl, Nat.le_of_ble_eq_true rfl⟩) (PT_S hK (va_T_of hK hP 8 rfl)) rfl rfl hl.1 rfl (lv_room (Nat.le_of_ble_eq_true rfl)) dX6_reasonAgainst_36 ⟨Nat.zero_le _, Nat.zero_le _⟩) ?_
    refine lv_iload_n hx hb dX6_reasonAgainst_39 rfl (lv_at hl 1 rfl) ?_
    refine lv_iload_n hx hb dX6_reasonAgainst_40 rfl (lv_at hl 3 rfl) ?_
    refine ko_e (va_runSN (As := [.int p1, .int p3]) (rest := [.int (rat x.2.2.2.2.2.1.2.1 48 p2)]) ⟨hx, hb, hml, hown, htG⟩ (kX8_heaviestAt l g p1 p3 _ rfl) ⟨va_cnB 2 htG (GC g2_198) rfl rfl rfl (nw_40 hK) (htG _ g1_1) hs_X8_heaviestAt ⟨Nat.le_of_ble_eq_true rfl, Nat.le_of_ble_eq_true rfl⟩, htG _ g2_197, trivial⟩ (PR_S hK hL hS hP [] rfl) rfl rfl hl.1 rfl (lv_room (Nat.le_of_ble_eq_true rfl)) dX6_reasonAgainst_41 ⟨Nat.zero_le _, Nat.zero_le _⟩) ?_
    refine lv_icmp_le (tgt := 51) hx hb dX6_reasonAgainst_44 (by decide) (fun zc2 => ?_) (fun zc2 => ?_)
    · replace hm := (if_pos zc2).symm.trans hm
      refine lv_iconst (v := 0) hx hb dX6_reasonAgainst_51 (by decide) ?_
      exact W.iret (v := 0) hx hb hr (fun t ht hW => ⟨_, rfl, (Option.some.inj hm), ht⟩) (fun _ h => nomatch h) dX6_reasonAgainst_52
    · replace hm := (if_neg zc2).symm.trans hm
      refine lv_iconst (v := 3) hx hb dX6_reasonAgainst_47 (by decide) ?_
      refine lv_goto (tgt := 52) hx hb dX6_reasonAgainst_48 (by decide) ?_
      exact W.iret (v := 3) hx hb hr (fun t ht hW => ⟨_, rfl, (Option.some.inj hm), ht⟩) (fun _ h => nomatch h) dX6_reasonAgainst_52
  · replace hm := (if_pos zc1).symm.trans hm
    refine lv_aload_n hx hb dX6_reasonAgainst_11 rfl (lv_at hl 0 rfl) ?_
    refine va_get (D := g.1) (ci := 5) (v := .ref (a 3)) (C := RX6) (T := TX6) (N := 8) hx hb htG in_wsX60 hown hK.1 hP 0 rfl rfl 4 (by decide) (htG _ g1_136) (fun _ h9 => h9) rfl dX6_reasonAgainst_12 ?_
    refine lv_iload_n hx hb dX6_reasonAgainst_15 rfl (lv_at hl 2 rfl) ?_
    obtain ⟨zq3, hzq3, hm⟩ := bdk hm
    refine ko_e (va_runV (As := [.int p2]) (rest := []) ⟨hx, hb, hml, hown, htG⟩ (kX0_countFor l g (a 3) (a 4) (a 5) x.2.2.2.2.1 p2 _ hzq3) (cwV 1 htG (GV g2_163 g2_164 g2_165 g1_3 g2_166) rfl rfl rfl hd_X0_countFor ⟨Nat.le_of_ble_eq_true rfl, Nat.le_of_ble_eq_true rfl⟩) (PR_V hK hL hS hP [3, 4, 5] rfl (ci := 0) rfl 3 rfl) rfl rfl hl.1 rfl (lv_room (Nat.le_of_ble_eq_true rfl)) dX6_reasonAgainst_16 ⟨Nat.zero_le _, Nat.zero_le _⟩) ?_
    refine lv_if_le (tgt := 26) hx hb dX6_reasonAgainst_19 (by decide) (fun zc4 => ?_) (fun zc4 => ?_)
    · replace hm := (if_pos zc4).symm.trans hm
      refine lv_iconst (v := 1) hx hb dX6_reasonAgainst_26 (by decide) ?_
      exact W.iret (v := 1) hx hb hr (fun t ht hW => ⟨_, rfl, (Option.some.inj hm), ht⟩) (fun _ h => nomatch h) dX6_reasonAgainst_27
    · replace hm := (if_neg zc4).symm.trans hm
      refine lv_iconst (v := 2) hx hb dX6_reasonAgainst_22 (by decide) ?_
      refine lv_goto (tgt := 27) hx hb dX6_reasonAgainst_23 (by decide) ?_
      exact W.iret (v := 2) hx hb hr (fun t ht hW => ⟨_, rfl, (Option.some.inj hm), ht⟩) (fun _ h => nomatch h) dX6_reasonAgainst_27
