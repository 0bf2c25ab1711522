def fX6_endSlot (x : SD) (p1 : Int32) (p2 : Int32) : Option (Int32 × SD) := ((fX6_reasonAgainst x p1 (fX8_slotOf p1 x.2.1) p2).bind (fun zq1 => (if zq1 = 0 then (bnd (radd x.2.2.2.2.2.2.1.2.1 6 (fX5_ownerOf x.2.2.2.2.2.1 (fX8_slotOf p1 x.2.1)) 1) (fun zq12 => (bnd (x.2.2.2.2.2.2.2.2.2.2.2.2.1 + 1) (fun zv13 => (bnd (x.2.2.2.2.2.2.2.2.2.2.2.2.2 + (rat x.2.2.2.2.2.1.2.1 48 (fX8_slotOf p1 x.2.1))) (fun zv14 => (if zq1 = 3 then (bnd (fX6_refund (x.1, x.2.1, x.2.2.1, x.2.2.2.1, x.2.2.2.2.1, x.2.2.2.2.2.1, (x.2.2.2.2.2.2.1.1, zq12, x.2.2.2.2.2.2.1.2.2.1, x.2.2.2.2.2.2.1.2.2.2), (x.2.2.2.2.2.2.2.1, x.2.2.2.2.2.2.2.2.1, x.2.2.2.2.2.2.2.2.2.1, x.2.2.2.2.2.2.2.2.2.2.1, x.2.2.2.2.2.2.2.2.2.2.2.1, zv13, zv14)) (fX5_ownerOf x.2.2.2.2.2.1 (fX8_slotOf p1 x.2.1)) (rat x.2.2.2.2.2.1.2.2.1 48 (fX8_slotOf p1 x.2.1))) (fun zq19 => (bnd (rput zq19.2.2.2.2.2.1.2.2.2 48 (fX8_slotOf p1 x.2.1) zq1) (fun zq20 => ((fX0_removeAll zq19.2.2.2.2.1 (fX8_slotOf p1 x.2.1)).bind (fun zq21 => some (1, (zq19.1, zq19.2.1, zq19.2.2.1, zq19.2.2.2.1, zq21, (zq19.2.2.2.2.2.1.1, zq19.2.2.2.2.2.1.2.1, zq19.2.2.2.2.2.1.2.2.1, zq20), zq19.2.2.2.2.2.2.1, zq19.2.2.2.2.2.2.2)))))))) else (bnd (rput x.2.2.2.2.2.1.2.2.2 48 (fX8_slotOf p1 x.2.1) zq1) (fun zq16 => ((fX0_removeAll x.2.2.2.2.1 (fX8_slotOf p1 x.2.1)).bind (fun zq17 => some (1, (x.1, x.2.1, x.2.2.1, x.2.2.2.1, zq17, (x.2.2.2.2.2.1.1, x.2.2.2.2.2.1.2.1, x.2.2.2.2.2.1.2.2.1, zq16), (x.2.2.2.2.2.2.1.1, zq12, x.2.2.2.2.2.2.1.2.2.1, x.2.2.2.2.2.2.1.2.2.2), (x.2.2.2.2.2.2.2.1, x.2.2.2.2.2.2.2.2.1, x.2.2.2.2.2.2.2.2.2.1, x.2.2.2.2.2.2.2.2.2.2.1, x.2.2.2.2.2.2.2.2.2.2.2.1, zv13, zv14)))))))))))))) else (bnd (radd x.2.2.2.2.2.2.2.1 4 zq1 1) (fun zq3 => (if zq1 = 3 then (bnd (fX6_refund (x.1, x.2.1, x.2.2.1, x.2.2.2.1, x.2.2.2.2.1, x.2.2.2.2.2.1, x.2.2.2.2.2.2.1, (zq3, x.2.2.2.2.2.2.2.2.1, x.2.2.2.2.2.2.2.2.2.1, x.2.2.2.2.2.2.2.2.2.2.1, x.2.2.2.2.2.2.2.2.2.2.2.1, x.2.2.2.2.2.2.2.2.2.2.2.2.1, x.2.2.2.2.2.2.2.2.2.2.2.2.2)) (fX5_ownerOf x.2.2.2.2.2.1 (fX8_slotOf p1 x.2.1)) (rat x.2.2.2.2.2.1.2.2.1 48 (fX8_slotOf p1 x.2.1))) (fun zq8 => (bnd (rput zq8.2.2.2.2.2.1.2.2.2 48 (fX8_slotOf p1 x.2.1) zq1) (fun zq9 => ((fX0_removeAll zq8.2.2.2.2.1 (fX8_slotOf p1 x.2.1)).bind (fun zq10 => some (0, (zq8.1, zq8.2.1, zq8.2.2.1, zq8.2.2.2.1, zq10, (zq8.2.2.2.2.2.1.1, zq8.2.2.2.2.2.1.2.1, zq8.2.2.2.2.2.1.2.2.1, zq9), zq8.2.2.2.2.2.2.1, zq8.2.2.2.2.2.2.2)))))))) else (bnd (rput x.2.2.2.2.2.1.2.2.2 48 (fX8_slotOf p1 x.2.1) zq1) (fun zq5 => ((fX0_removeAll x.2.2.2.2.1 (fX8_slotOf p1 x.2.1)).bind (fun zq6 => some (0, (x.1, x.2.1, x.2.2.1, x.2.2.2.1, zq6, (x.2.2.2.2.2.1.1, x.2.2.2.2.2.1.2.1, x.2.2.2.2.2.1.2.2.1, zq5), x.2.2.2.2.2.2.1, (zq3, x.2.2.2.2.2.2.2.2.1, x.2.2.2.2.2.2.2.2.2.1, x.2.2.2.2.2.2.2.2.2.2.1, x.2.2.2.2.2.2.2.2.2.2.2.1, x.2.2.2.2.2.2.2.2.2.2.2.2.1, x.2.2.2.2.2.2.2.2.2.2.2.2.2)))))))))))))
abbrev rm_X6_endSlot : Jvm.Room := { frames := 3, cells := 0, slots := 0, locals := 68 }
theorem hd_X6_endSlot : yX6_endSlot.cls = RX6 ∧ yX6_endSlot.cls ≠ "java/lang/invoke/MethodHandle" ∧ yX6_endSlot.cls ≠ "java/lang/invoke/VarHandle" ∧ (parseMethodDescriptor yX6_endSlot.desc).map (fun d => d.parameters.length) = some 2 := by decide +kernel
set_option maxHeartbeats 4000000 in
set_option maxRecDepth 100000 in
theorem kX6_endSlot (l : Launch) (g : CX) (a : Nat → Nat) (sz : Nat) (x : SD) (p1 : Int32) (p2 : Int32) (res : Int32 × SD) (hm0 : fX6_endSlot x p1 p2 = some res) : Met l yX6_endSlot (wg yX6_endSlot cX6_endSlot 5 (some .boolean)) rm_X6_endSlot (PW g [.ref (a 0), .int p1, .int p2] sz (w_X6 g a x)) (va_Qi (fun v u => v = res.1 ∧ u = res.2) (fun u t => va_P g.1 vwCl (w_X6 g a u) t.heap) (va_A (w_X6 g a x) sz)) 0 0 (va_A (w_X6 g a x) sz) := by
  refine Met.ofW (cc := cX6_endSlot) (maxL := 5) (ret := (some .boolean)) (by decide) rfl ?_
  intro p e s m args below meth c s₁ B hml hv
  obtain ⟨rfl, hsz, hP, hK, hD0, hL⟩ := hv
  have hx := B.exec
  have hb := B.bytes
  have hr := B.returns
  have htG := wg_G (atoms_spec (ws := wg yX6_endSlot cX6_endSlot 5 (some .boolean)) B.pre)
  have hown : s.vm.findClass RX6 = some m.cls := findClass_of_methodNamed B.named
  have hlocks := B.notSynchronized
  subst hsz
  have hD := hD0.self (sz := s.heap.size)
  generalize hAe : va_A (w_X6 g a x) s.heap.size = A at hD hL ⊢
  have hA : ∀ q : Nat, s.heap.size ≤ q → A q := fun q h => by rw [← hAe]; exact Or.inr h
  have hS : va_S A s.heap s.heap [] := va_S.rf
  have hl := lv_entry ([.ref (a 0), .int p1, .int p2]) (n := 5) (Nat.le_of_ble_eq_true rfl)
  rw [lg_entry_eq]
  generalize (lg_sl ([.ref (a 0), .int p1, .int p2]) ++ List.replicate (5 - (lg_sl ([.ref (a 0), .int p1, .int p2])).length) Slot.unset).toArray = ls at hl ⊢
  have hl : lv_has ls 5 [(0, .ref (a 0)), (1, .int p1), (2, .int p2)] := hl
  have hm := hm0
  unfold fX6_endSlot at hm
  refine lv_iload_n hx hb dX6_endSlot_0 rfl (lv_at hl 1 rfl) ?_
  refine lv_aload_n hx hb dX6_endSlot_1 rfl (lv_at hl 0 rfl) ?_
  refine va_get (D := g.1) (ci := 5) (v := .int x.2.1) (C := RX6) (T := TX6) (N := 8) hx hb htG in_wsX60 hown hK.1 hP 0 rfl rfl 1 (by decide) (htG _ g1_131) (fun _ h9 => h9) rfl dX6_endSlot_2 ?_
  refine ko_e (va_runSN (As := [.int p1, .int x.2.1]) (rest := []) ⟨hx, hb, hml, hown, htG⟩ (kX8_slotOf l g p1 x.2.1 _ rfl) ⟨va_cnB 2 htG (GC g2_128) rfl rfl rfl (nw_39 hK) (htG _ g1_1) hs_X8_slotOf ⟨Nat.le_of_ble_eq_true rfl, Nat.le_of_ble_eq_true rfl⟩, htG _ g2_127, trivial⟩ (PR_S hK hL hS hP [] rfl) rfl rfl hl.1 rfl (lv_room (Nat.le_of_ble_eq_true rfl)) dX6_endSlot_5 ⟨Nat.zero_le _, Nat.zero_le _⟩) ?_
  refine lv_istore_n (lv' := [(3, .int (fX8_slotOf p1 x.2.1)), (0, .ref (a 0)), (1, .int p1), (2, .int p2)]) hx hb dX6_endSlot_8 rfl hl (by decide) rfl (fun ls hl => ?_)
  refine lv_aload_n hx hb dX6_endSlot_9 rfl (lv_at hl 1 rfl) ?_
  refine lv_iload_n hx hb dX6_endSlot_10 rfl (lv_at hl 2 rfl) ?_
  refine lv_iload_n hx hb dX6_endSlot_11 rfl (lv_at hl 0 rfl) ?_
  refine lv_iload_n hx hb dX6_endSlot_12 rfl (lv_at hl 3 rfl) ?_
  obtain ⟨zq1, hzq1, hm⟩ := bdk hm
  refine ko_e (va_runV (As := [.int p1, .int (fX8_slotOf p1 x.2.1), .int p2]) (rest := []) ⟨hx, hb, hml, hown, htG⟩ (kX6_reasonAgainst l g a x p1 (fX8_slotOf p1 x.2.1) p2 _ hzq1) (cwV 3 htG (GV g3_17 g3_18 g3_19 g1_2 g3_20) rfl rfl rfl hd_X6_reasonAgainst ⟨Nat.le_of_ble_eq_true rfl, Nat.le_of_ble_eq_true rfl⟩) (PR_VA hK hL hS hP (ci := 5) rfl 0 rfl) rfl rfl hl.1 rfl (lv_room (Nat.le_of_ble_eq_true rfl)) dX6_endSlot_13 ⟨Nat.zero_le _, Nat.zero_le _⟩) ?_
  refine lv_istore (lv' := [(4, .int zq1), (3, .int (fX8_slotOf p1 x.2.1)), (0, .ref (a 0)), (1, .int p1), (2, .int p2)]) hx hb dX6_endSlot_16 hl (by decide) rfl (fun ls hl => ?_)
  refine lv_iload hx hb dX6_endSlot_18 (lv_at hl 0 rfl) ?_
  refine lv_if_ne (tgt := 81) hx hb dX6_endSlot_20 (by decide) (fun zc2 => ?_) (fun zc2 => ?_)
  · replace hm := (if_neg zc2).symm.trans hm
    refine lv_aload_n hx hb dX6_endSlot_81 rfl (lv_at hl 2 rfl) ?_
    refine va_get (D := g.1) (ci := 5) (v := .ref (a 16)) (C := RX6) (T := TX6) (N := 8) hx hb htG in_wsX60 hown hK.1 hP 0 rfl rfl 7 (by decide) (htG _ g1_142) (fun _ h9 => h9) rfl dX6_endSlot_82 ?_
    refine va_getN (D := g.1) (ci := 6) (v := .ref (a 17)) (C := RX7) (T := TX7) (N := 7) hx hb htG in_wsX70 hown hK.1 hP 16 rfl rfl 0 (by decide) (nw_14 hK) (fun _ h9 => h9) rfl dX6_endSlot_85 ?_
    refine lv_iload hx hb dX6_endSlot_88 (lv_at hl 0 rfl) ?_
    refine lv_iconst (v := 1) hx hb dX6_endSlot_90 (by decide) ?_
    obtain ⟨zq3, hzq3, hm⟩ := bnk hm
    refine kw_ve (va_runS (As := [.ref (a 17), .int zq1, .int 1]) (rest := []) ⟨hx, hb, hml, hown, htG⟩ (kX4_add l g (a 17) _ x.2.2.2.2.2.2.2.1 4 zq1 1 _ ((t_X4_add _ _ _ _ (by decide)).trans (congrArg some hzq3))) (va_cwS 3 htG (GS g2_94 g2_95 g1_5 g2_96) rfl rfl rfl hs_X4_add ⟨Nat.le_of_ble_eq_true rfl, Nat.le_of_ble_eq_true rfl⟩) (PW_S hK hL hS hP hD hA [17] rfl rfl) rfl rfl hl.1 rfl (lv_room (Nat.le_of_ble_eq_true rfl)) dX6_endSlot_91 ⟨Nat.zero_le _, Nat.zero_le _⟩) hP hD hS hA [17] rfl rfl (fun _ => rfl) (fun H locs hP hD hS => ?_)
    have hP : va_P g.1 vwCl (w_X6 g a (x.1, x.2.1, x.2.2.1, x.2.2.2.1, x.2.2.2.2.1, x.2.2.2.2.2.1, x.2.2.2.2.2.2.1, (zq3, x.2.2.2.2.2.2.2.2.1, x.2.2.2.2.2.2.2.2.2.1, x.2.2.2.2.2.2.2.2.2.2.1, x.2.2.2.2.2.2.2.2.2.2.2.1, x.2.2.2.2.2.2.2.2.2.2.2.2.1, x.2.2.2.2.2.2.2.2.2.2.2.2.2))) H := hP
    have hD : va_D A (w_X6 g a (x.1, x.2.1, x.2.2.1, x.2.2.2.1, x.2.2.2.2.1, x.2.2.2.2.2.1, x.2.2.2.2.2.2.1, (zq3, x.2.2.2.2.2.2.2.2.1, x.2.2.2.2.2.2.2.2.2.1, x.2.2.2.2.2.2.2.2.2.2.1, x.2.2.2.2.2.2.2.2.2.2.2.1, x.2.2.2.2.2.2.2.2.2.2.2.2.1, x.2.2.2.2.2.2.2.2.2.2.2.2.2))) := hD
    refine lv_iload hx hb dX6_endSlot_94 (lv_at hl 0 rfl) ?_
    refine lv_iconst (v := 3) hx hb dX6_endSlot_96 (by decide) ?_
    refine lv_icmp_ne (tgt := 123) hx hb dX6_endSlot_97 (by decide) (fun zc4 => ?_) (fun zc4 => ?_)
    · replace hm := (if_neg zc4).symm.trans hm
      refine lv_aload_n hx hb dX6_endSlot_123 rfl (lv_at hl 2 rfl) ?_
      refine va_get (D := g.1) (ci := 5) (v := .ref (a 6)) (C := RX6) (T := TX6) (N := 8) hx hb htG in_wsX60 hown hK.1 hP 0 rfl rfl 5 (by decide) (htG _ g1_138) (fun _ h9 => h9) rfl dX6_endSlot_124 ?_
      refine va_getN (D := g.1) (ci := 4) (v := .ref (a 10)) (C := RX5) (T := TX5) (N := 4) hx hb htG in_wsX50 hown hK.1 hP 6 rfl rfl 3 (by decide) (nw_5 hK) (fun _ h9 => h9) rfl dX6_endSlot_127 ?_
      refine lv_iload_n hx hb dX6_endSlot_130 rfl (lv_at hl 1 rfl) ?_
      refine lv_iload hx hb dX6_endSlot_131 (lv_at hl 0 rfl) ?_
      obtain ⟨zq5, hzq5, hm⟩ := bnk hm
      refine kw_ve (va_runS (As := [.ref (a 10), .int (fX8_slotOf p1 x.2.1), .int zq1]) (rest := []) ⟨hx, hb, hml, hown, htG⟩ (kX4_put l g (a 10) _ x.2.2.2.2.2.1.2.2.2 48 (fX8_slotOf p1 x.2.1) zq1 _ ((t_X4_put _ _ _ _ (by decide)).trans (congrArg some hzq5))) (va_cwS 3 htG (GS g2_63 g2_64 g1_5 g2_65) rfl rfl rfl hs_X4_put ⟨Nat.le_of_ble_eq_true rfl, Nat.le_of_ble_eq_true rfl⟩) (PW_S hK hL hS hP hD hA [10] rfl rfl) rfl rfl hl.1 rfl (lv_room (Nat.le_of_ble_eq_true rfl)) dX6_endSlot_133 ⟨Nat.zero_le _, Nat.zero_le _⟩) hP hD hS hA [10] rfl rfl (fun _ => rfl) (fun H locs hP hD hS => ?_)
      have hP : va_P g.1 vwCl (w_X6 g a (x.1, x.2.1, x.2.2.1, x.2.2.2.1, x.2.2.2.2.1, (x.2.2.2.2.2.1.1, x.2.2.2.2.2.1.2.1, x.2.2.2.2.2.1.2.2.1, zq5), x.2.2.2.2.2.2.1, (zq3, x.2.2.2.2.2.2.2.2.1, x.2.2.2.2.2.2.2.2.2.1, x.2.2.2.2.2.2.2.2.2.2.1, x.2.2.2.2.2.2.2.2.2.2.2.1, x.2.2.2.2.2.2.2.2.2.2.2.2.1, x.2.2.2.2.2.2.2.2.2.2.2.2.2))) H := hP
      have hD : va_D A (w_X6 g a (x.1, x.2.1, x.2.2.1, x.2.2.2.1, x.2.2.2.2.1, (x.2.2.2.2.2.1.1, x.2.2.2.2.2.1.2.1, x.2.2.2.2.2.1.2.2.1, zq5), x.2.2.2.2.2.2.1, (zq3, x.2.2.2.2.2.2.2.2.1, x.2.2.2.2.2.2.2.2.2.1, x.2.2.2.2.2.2.2.2.2.2.1, x.2.2.2.2.2.2.2.2.2.2.2.1, x.2.2.2.2.2.2.2.2.2.2.2.2.1, x.2.2.2.2.2.2.2.2.2.2.2.2.2))) := hD
      refine lv_aload_n hx hb dX6_endSlot_136 rfl (lv_at hl 2 rfl) ?_
      refine va_get (D := g.1) (ci := 5) (v := .ref (a 3)) (C := RX6) (T := TX6) (N := 8) hx hb htG in_wsX60 hown hK.1 hP 0 rfl rfl 4 (by decide) (htG _ g1_136) (fun _ h9 => h9) rfl dX6_endSlot_137 ?_
      refine lv_iload_n hx hb dX6_endSlot_140 rfl (lv_at hl 1 rfl) ?_
      obtain ⟨zq6, hzq6, hm⟩ := bdk hm
      refine kw_ve (va_runV (As := [.int (fX8_slotOf p1 x.2.1)]) (rest := []) ⟨hx, hb, hml, hown, htG⟩ (kX0_removeAll l g (a 3) (a 4) (a 5) _ x.2.2.2.2.1 (fX8_slotOf p1 x.2.1) _ hzq6) (cwV 1 htG (GV g2_225 g2_226 g2_227 g1_3 g2_228) rfl rfl rfl hd_X0_removeAll ⟨Nat.le_of_ble_eq_true rfl, Nat.le_of_ble_eq_true rfl⟩) (PW_V hK hL hS hP hD hA [3, 4, 5] rfl rfl (ci := 0) rfl 3 rfl) rfl rfl hl.1 rfl (lv_room (Nat.le_of_ble_eq_true rfl)) dX6_endSlot_141 ⟨Nat.zero_le _, Nat.zero_le _⟩) hP hD hS hA [3, 4, 5] rfl rfl (fun _ => rfl) (fun H locs hP hD hS => ?_)
      have hP : va_P g.1 vwCl (w_X6 g a (x.1, x.2.1, x.2.2.1, x.2.2.2.1, zq6, (x.2.2.2.2.2.1.1, x.2.2.2.2.2.1.2.1, x.2.2.2.2.2.1.2.2.1, zq5), x.2.2.2.2.2.2.1, (zq3, x.2.2.2.2.2.2.2.2.1, x.2.2.2.2.2.2.2.2.2.1, x.2.2.2.2.2.2.2.2.2.2.1, x.2.2.2.2.2.2.2.2.2.2.2.1, x.2.2.2.2.2.2.2.2.2.2.2.2.1, x.2.2.2.2.2.2.2.2.2.2.2.2.2))) H := hP
      have hD : va_D A (w_X6 g a (x.1, x.2.1, x.2.2.1, x.2.2.2.1, zq6, (x.2.2.2.2.2.1.1, x.2.2.2.2.2.1.2.1, x.2.2.2.2.2.1.2.2.1, zq5), x.2.2.2.2.2.2.1, (zq3, x.2.2.2.2.2.2.2.2.1, x.2.2.2.2.2.2.2.2.2.1, x.2.2.2.2.2.2.2.2.2.2.1, x.2.2.2.2.2.2.2.2.2.2.2.1, x.2.2.2.2.2.2.2.2.2.2.2.2.1, x.2.2.2.2.2.2.2.2.2.2.2.2.2))) := hD
      refine lv_iload hx hb dX6_endSlot_144 (lv_at hl 0 rfl) ?_
      refine lv_if_ne (tgt := 153) hx hb dX6_endSlot_146 (by decide) (fun _ => ?_) (fun zc7 => absurd zc7 zc2)
      refine lv_iconst (v := 0) hx hb dX6_endSlot_153 (by decide) ?_
      exact W.zret (v := 0) (ty := .boolean) hx hb hr rfl (fun t ht hW => ⟨⟨_, _, rfl, pr1 (Option.some.inj hm), atH ht hP⟩, hS.F ht⟩) hS.2.2 dX6_endSlot_154
    · replace hm := (if_pos zc4).symm.trans hm
      refine lv_aload_n hx hb dX6_endSlot_100 rfl (lv_at hl 2 rfl) ?_
      refine lv_aload_n hx hb dX6_endSlot_101 rfl (lv_at hl 2 rfl) ?_
      refine va_get (D := g.1) (ci := 5) (v := .ref (a 6)) (C := RX6) (T := TX6) (N := 8) hx hb htG in_wsX60 hown hK.1 hP 0 rfl rfl 5 (by decide) (htG _ g1_138) (fun _ h9 => h9) rfl dX6_endSlot_102 ?_
      refine lv_iload_n hx hb dX6_endSlot_105 rfl (lv_at hl 1 rfl) ?_
      refine ko_e (va_runV (As := [.int (fX8_slotOf p1 x.2.1)]) (rest := [.ref (a 0)]) ⟨hx, hb, hml, hown, htG⟩ (kX5_ownerOf l g (a 6) (a 7) (a 8) (a 9) (a 10) x.2.2.2.2.2.1 (fX8_slotOf p1 x.2.1) _ rfl) (cwV 1 htG (GV g2_237 g2_238 g2_239 g1_4 g3_0) rfl rfl rfl hd_X5_ownerOf ⟨Nat.le_of_ble_eq_true rfl, Nat.le_of_ble_eq_true rfl⟩) (PR_V hK hL hS hP [6, 7, 8, 9, 10] rfl (ci := 4) rfl 6 rfl) rfl rfl hl.1 rfl (lv_room (Nat.le_of_ble_eq_true rfl)) dX6_endSlot_106 ⟨Nat.zero_le _, Nat.zero_le _⟩) ?_
      refine lv_aload_n hx hb dX6_endSlot_109 rfl (lv_at hl 2 rfl) ?_
      refine va_get (D := g.1) (ci := 5) (v := .ref (a 6)) (C := RX6) (T := TX6) (N := 8) hx hb htG in_wsX60 hown hK.1 hP 0 rfl rfl 5 (by decide) (htG _ g1_138) (fun _ h9 => h9) rfl dX6_endSlot_110 ?_
      refine va_getN (D := g.1) (ci := 4) (v := .ref (a 9)) (C := RX5) (T := TX5) (N := 4) hx hb htG in_wsX50 hown hK.1 hP 6 rfl rfl 2 (by decide) (nw_3 hK) (fun _ h9 => h9) rfl dX6_endSlot_113 ?_
      refine lv_iload_n hx hb dX6_endSlot_116 rfl (lv_at hl 1 rfl) ?_
      refine ko_e (va_runS (As := [.ref (a 9), .int (fX8_slotOf p1 x.2.1)]) (rest := [.int (fX5_ownerOf x.2.2.2.2.2.1 (fX8_slotOf p1 x.2.1)), .ref (a 0)]) ⟨hx, hb, hml, hown, htG⟩ (kX4_at l g (a 9) x.2.2.2.2.2.1.2.2.1 48 (fX8_slotOf p1 x.2.1) (by decide)) (va_cwS 2 htG (GS g2_60 g2_61 g1_5 g2_62) rfl rfl rfl hs_X4_at ⟨Nat.le_of_ble_eq_true rfl, Nat.le_of_ble_eq_true rfl⟩) (PT_S hK (va_T_of hK hP 9 rfl)) rfl rfl hl.1 rfl (lv_room (Nat.le_of_ble_eq_true rfl)) dX6_endSlot_117 ⟨Nat.zero_le _, Nat.zero_le _⟩) ?_
      obtain ⟨zq8, hzq8, hm⟩ := bnk hm
      refine kw_veA (va_runV (As := [.int (fX5_ownerOf x.2.2.2.2.2.1 (fX8_slotOf p1 x.2.1)), .int (rat x.2.2.2.2.2.1.2.2.1 48 (fX8_slotOf p1 x.2.1))]) (rest := []) ⟨hx, hb, hml, hown, htG⟩ (kX6_refund l g a _ (x.1, x.2.1, x.2.2.1, x.2.2.2.1, x.2.2.2.2.1, x.2.2.2.2.2.1, x.2.2.2.2.2.2.1, (zq3, x.2.2.2.2.2.2.2.2.1, x.2.2.2.2.2.2.2.2.2.1, x.2.2.2.2.2.2.2.2.2.2.1, x.2.2.2.2.2.2.2.2.2.2.2.1, x.2.2.2.2.2.2.2.2.2.2.2.2.1, x.2.2.2.2.2.2.2.2.2.2.2.2.2)) (fX5_ownerOf x.2.2.2.2.2.1 (fX8_slotOf p1 x.2.1)) (rat x.2.2.2.2.2.1.2.2.1 48 (fX8_slotOf p1 x.2.1)) _ hzq8) (cwV 2 htG (GV g3_21 g3_22 g3_23 g1_2 g3_24) rfl rfl rfl hd_X6_refund ⟨Nat.le_of_ble_eq_true rfl, Nat.le_of_ble_eq_true rfl⟩) (PW_VA hK hL hS hP hD hA (ci := 5) rfl 0 rfl) rfl rfl hl.1 rfl (lv_room (Nat.le_of_ble_eq_true rfl)) dX6_endSlot_120 ⟨Nat.zero_le _, Nat.zero_le _⟩) hD hS hA (fun _ => rfl) (fun H locs hP hD hS => ?_)
      have hP : va_P g.1 vwCl (w_X6 g a zq8) H := hP
      have hD : va_D A (w_X6 g a zq8) := hD
      refine lv_aload_n hx hb dX6_endSlot_123 rfl (lv_at hl 2 rfl) ?_
      refine va_get (D := g.1) (ci := 5) (v := .ref (a 6)) (C := RX6) (T := TX6) (N := 8) hx hb htG in_wsX60 hown hK.1 hP 0 rfl rfl 5 (by decide) (htG _ g1_138) (fun _ h9 => h9) rfl dX6_endSlot_124 ?_
      refine va_getN (D := g.1) (ci := 4) (v := .ref (a 10)) (C := RX5) (T := TX5) (N := 4) hx hb htG in_wsX50 hown hK.1 hP 6 rfl rfl 3 (by decide) (nw_5 hK) (fun _ h9 => h9) rfl dX6_endSlot_127 ?_
      refine lv_iload_n hx hb dX6_endSlot_130 rfl (lv_at hl 1 rfl) ?_
      refine lv_iload hx hb dX6_endSlot_131 (lv_at hl 0 rfl) ?_
      obtain ⟨zq9, hzq9, hm⟩ := bnk hm
      refine kw_ve (va_runS (As := [.ref (a 10), .int (fX8_slotOf p1 x.2.1), .int zq1]) (rest := []) ⟨hx, hb, hml, hown, htG⟩ (kX4_put l g (a 10) _ zq8.2.2.2.2.2.1.2.2.2 48 (fX8_slotOf p1 x.2.1) zq1 _ ((t_X4_put _ _ _ _ (by decide)).trans (congrArg some hzq9))) (va_cwS 3 htG (GS g2_63 g2_64 g1_5 g2_65) rfl rfl rfl hs_X4_put ⟨Nat.le_of_ble_eq_true rfl, Nat.le_of_ble_eq_true rfl⟩) (PW_S hK hL hS hP hD hA [10] rfl rfl) rfl rfl hl.1 rfl (lv_room (Nat.le_of_ble_eq_true rfl)) dX6_endSlot_133 ⟨Nat.zero_le _, Nat.zero_le _⟩) hP hD hS hA [10] rfl rfl (fun _ => rfl) (fun H locs hP hD hS => ?_)
      have hP : va_P g.1 vwCl (w_X6 g a (zq8.1, zq8.2.1, zq8.2.2.1, zq8.2.2.2.1, zq8.2.2.2.2.1, (zq8.2.2.2.2.2.1.1, zq8.2.2.2.2.2.1.2.1, zq8.2.2.2.2.2.1.2.2.1, zq9), zq8.2.2.2.2.2.2.1, zq8.2.2.2.2.2.2.2)) H := hP
      have hD : va_D A (w_X6 g a (zq8.1, zq8.2.1, zq8.2.2.1, zq8.2.2.2.1, zq8.2.2.2.2.1, (zq8.2.2.2.2.2.1.1, zq8.2.2.2.2.2.1.2.1, zq8.2.2.2.2.2.1.2.2.1, zq9), zq8.2.2.2.2.2.2.1, zq8.2.2.2.2.2.2.2)) := hD
      refine lv_aload_n hx hb dX6_endSlot_136 rfl (lv_at hl 2 rfl) ?_
      refine va_get (D := g.1) (ci := 5) (v := .ref (a 3)) (C := RX6) (T := TX6) (N := 8) hx hb htG in_wsX60 hown hK.1 hP 0 rfl rfl 4 (by decide) (htG _ g1_136) (fun _ h9 => h9) rfl dX6_endSlot_137 ?_
      refine lv_iload_n hx hb dX6_endSlot_140 rfl (lv_at hl 1 rfl) ?_
      obtain ⟨zq10, hzq10, hm⟩ := bdk hm
      refine kw_ve (va_runV (As := [.int (fX8_slotOf p1 x.2.1)]) (rest := []) ⟨hx, hb, hml, hown, htG⟩ (kX0_removeAll l g (a 3) (a 4) (a 5) _ zq8.2.2.2.2.1 (fX8_slotOf p1 x.2.1) _ hzq10) (cwV 1 htG (GV g2_225 g2_226 g2_227 g1_3 g2_228) rfl rfl rfl hd_X0_removeAll ⟨Nat.le_of_ble_eq_true rfl, Nat.le_of_ble_eq_true rfl⟩) (PW_V hK hL hS hP hD hA [3, 4, 5] rfl rfl (ci := 0) rfl 3 rfl) rfl rfl hl.1 rfl (lv_room (Nat.le_of_ble_eq_true rfl)) dX6_endSlot_141 ⟨Nat.zero_le _, Nat.zero_le _⟩) hP hD hS hA [3, 4, 5] rfl rfl (fun _ => rfl) (fun H locs hP hD hS => ?_)
      have hP : va_P g.1 vwCl (w_X6 g a (zq8.1, zq8.2.1, zq8.2.2.1, zq8.2.2.2.1, zq10, (zq8.2.2.2.2.2.1.1, zq8.2.2.2.2.2.1.2.1, zq8.2.2.2.2.2.1.2.2.1, zq9), zq8.2.2.2.2.2.2.1, zq8.2.2.2.2.2.2.2)) H := hP
      have hD : va_D A (w_X6 g a (zq8.1, zq8.2.1, zq8.2.2.1, zq8.2.2.2.1, zq10, (zq8.2.2.2.2.2.1.1, zq8.2.2.2.2.2.1.2.1, zq8.2.2.2.2.2.1.2.2.1, zq9), zq8.2.2.2.2.2.2.1, zq8.2.2.2.2.2.2.2)) := hD
      refine lv_iload hx hb dX6_endSlot_144 (lv_at hl 0 rfl) ?_
      refine lv_if_ne (tgt := 153) hx hb dX6_endSlot_146 (by decide) (fun _ => ?_) (fun zc11 => absurd zc11 zc2)
      refine lv_iconst (v := 0) hx hb dX6_endSlot_153 (by decide) ?_
      exact W.zret (v := 0) (ty := .boolean) hx hb hr rfl (fun t ht hW => ⟨⟨_, _, rfl, pr1 (Option.some.inj hm), atH ht hP⟩, hS.F ht⟩) hS.2.2 dX6_endSlot_154
  · replace hm := (if_pos zc2).symm.trans hm
    refine lv_aload_n hx hb dX6_endSlot_23 rfl (lv_at hl 2 rfl) ?_
    refine va_get (D := g.1) (ci := 5) (v := .ref (a 11)) (C := RX6) (T := TX6) (N := 8) hx hb htG in_wsX60 hown hK.1 hP 0 rfl rfl 6 (by decide) (htG _ g1_140) (fun _ h9 => h9) rfl dX6_endSlot_24 ?_
    refine va_getN (D := g.1) (ci := 1) (v := .ref (a 13)) (C := RX1) (T := TX1) (N := 4) hx hb htG in_wsX10 hown hK.1 hP 11 rfl rfl 1 (by decide) (nw_9 hK) (fun _ h9 => h9) rfl dX6_endSlot_27 ?_
    refine lv_aload_n hx hb dX6_endSlot_30 rfl (lv_at hl 2 rfl) ?_
    refine va_get (D := g.1) (ci := 5) (v := .ref (a 6)) (C := RX6) (T := TX6) (N := 8) hx hb htG in_wsX60 hown hK.1 hP 0 rfl rfl 5 (by decide) (htG _ g1_138) (fun _ h9 => h9) rfl dX6_endSlot_31 ?_
    refine lv_iload_n hx hb dX6_endSlot_34 rfl (lv_at hl 1 rfl) ?_
    refine ko_e (va_runV (As := [.int (fX8_slotOf p1 x.2.1)]) (rest := [.ref (a 13)]) ⟨hx, hb, hml, hown, htG⟩ (kX5_ownerOf l g (a 6) (a 7) (a 8) (a 9) (a 10) x.2.2.2.2.2.1 (fX8_slotOf p1 x.2.1) _ rfl) (cwV 1 htG (GV g2_237 g2_238 g2_239 g1_4 g3_0) rfl rfl rfl hd_X5_ownerOf ⟨Nat.le_of_ble_eq_true rfl, Nat.le_of_ble_eq_true rfl⟩) (PR_V hK hL hS hP [6, 7, 8, 9, 10] rfl (ci := 4) rfl 6 rfl) rfl rfl hl.1 rfl (lv_room (Nat.le_of_ble_eq_true rfl)) dX6_endSlot_35 ⟨Nat.zero_le _, Nat.zero_le _⟩) ?_
    refine lv_iconst (v := 1) hx hb dX6_endSlot_38 (by decide) ?_
    obtain ⟨zq12, hzq12, hm⟩ := bnk hm
    refine kw_ve (va_runS (As := [.ref (a 13), .int (fX5_ownerOf x.2.2.2.2.2.1 (fX8_slotOf p1 x.2.1)), .int 1]) (rest := []) ⟨hx, hb, hml, hown, htG⟩ (kX4_add l g (a 13) _ x.2.2.2.2.2.2.1.2.1 6 (fX5_ownerOf x.2.2.2.2.2.1 (fX8_slotOf p1 x.2.1)) 1 _ ((t_X4_add _ _ _ _ (by decide)).trans (congrArg some hzq12))) (va_cwS 3 htG (GS g2_94 g2_95 g1_5 g2_96) rfl rfl rfl hs_X4_add ⟨Nat.le_of_ble_eq_true rfl, Nat.le_of_ble_eq_true rfl⟩) (PW_S hK hL hS hP hD hA [13] rfl rfl) rfl rfl hl.1 rfl (lv_room (Nat.le_of_ble_eq_true rfl)) dX6_endSlot_39 ⟨Nat.zero_le _, Nat.zero_le _⟩) hP hD hS hA [13] rfl rfl (fun _ => rfl) (fun H locs hP hD hS => ?_)
    have hP : va_P g.1 vwCl (w_X6 g a (x.1, x.2.1, x.2.2.1, x.2.2.2.1, x.2.2.2.2.1, x.2.2.2.2.2.1, (x.2.2.2.2.2.2.1.1, zq12, x.2.2.2.2.2.2.1.2.2.1, x.2.2.2.2.2.2.1.2.2.2), x.2.2.2.2.2.2.2)) H := hP
    have hD : va_D A (w_X6 g a (x.1, x.2.1, x.2.2.1, x.2.2.2.1, x.2.2.2.2.1, x.2.2.2.2.2.1, (x.2.2.2.2.2.2.1.1, zq12, x.2.2.2.2.2.2.1.2.2.1, x.2.2.2.2.2.2.1.2.2.2), x.2.2.2.2.2.2.2)) := hD
    refine lv_aload_n hx hb dX6_endSlot_42 rfl (lv_at hl 2 rfl) ?_
    refine va_get (D := g.1) (ci := 5) (v := .ref (a 16)) (C := RX6) (T := TX6) (N := 8) hx hb htG in_wsX60 hown hK.1 hP 0 rfl rfl 7 (by decide) (htG _ g1_142) (fun _ h9 => h9) rfl dX6_endSlot_43 ?_
    refine lv_dup hx hb dX6_endSlot_46 rfl ?_
    refine va_getN (D := g.1) (ci := 6) (v := .int x.2.2.2.2.2.2.2.2.2.2.2.2.1) (C := RX7) (T := TX7) (N := 7) hx hb htG in_wsX70 hown hK.1 hP 16 rfl rfl 5 (by decide) (nw_19 hK) (fun _ h9 => h9) rfl dX6_endSlot_47 ?_
    refine lv_iconst (v := 1) hx hb dX6_endSlot_50 (by decide) ?_
    refine lv_iadd hx hb dX6_endSlot_51 ?_
    obtain ⟨zv13, ezv13, hm⟩ := bnk hm
    refine tope ezv13 ?_
    refine va_putN (D := g.1) (ci := 6) (v := .int zv13) (ty := .int) (C := RX7) (T := TX7) (N := 7) hx hb htG in_wsX70 tyX7 tyX7_ok nmX7 hown hK.1 hP hD hS 16 rfl rfl 5 (by decide) (nw_19 hK) (fun _ h9 => h9) rfl (by decide +kernel) rfl rfl (Nat.le_of_ble_eq_true rfl) dX6_endSlot_52 (fun H locs hP hD hS => ?_)
    have hP : va_P g.1 vwCl (w_X6 g a (x.1, x.2.1, x.2.2.1, x.2.2.2.1, x.2.2.2.2.1, x.2.2.2.2.2.1, (x.2.2.2.2.2.2.1.1, zq12, x.2.2.2.2.2.2.1.2.2.1, x.2.2.2.2.2.2.1.2.2.2), (x.2.2.2.2.2.2.2.1, x.2.2.2.2.2.2.2.2.1, x.2.2.2.2.2.2.2.2.2.1, x.2.2.2.2.2.2.2.2.2.2.1, x.2.2.2.2.2.2.2.2.2.2.2.1, zv13, x.2.2.2.2.2.2.2.2.2.2.2.2.2))) H := hP
    have hD : va_D A (w_X6 g a (x.1, x.2.1, x.2.2.1, x.2.2.2.1, x.2.2.2.2.1, x.2.2.2.2.2.1, (x.2.2.2.2.2.2.1.1, zq12, x.2.2.2.2.2.2.1.2.2.1, x.2.2.2.2.2.2.1.2.2.2), (x.2.2.2.2.2.2.2.1, x.2.2.2.2.2.2.2.2.1, x.2.2.2.2.2.2.2.2.2.1, x.2.2.2.2.2.2.2.2.2.2.1, x.2.2.2.2.2.2.2.2.2.2.2.1, zv13, x.2.2.2.2.2.2.2.2.2.2.2.2.2))) := hD
    refine lv_aload_n hx hb dX6_endSlot_55 rfl (lv_at hl 2 rfl) ?_
    refine va_get (D := g.1) (ci := 5) (v := .ref (a 16)) (C := RX6) (T := TX6) (N := 8) hx hb htG in_wsX60 hown hK.1 hP 0 rfl rfl 7 (by decide) (htG _ g1_142) (fun _ h9 => h9) rfl dX6_endSlot_56 ?_
    refine lv_dup hx hb dX6_endSlot_59 rfl ?_
    refine va_getN (D := g.1) (ci := 6) (v := .int x.2.2.2.2.2.2.2.2.2.2.2.2.2) (C := RX7) (T := TX7) (N := 7) hx hb htG in_wsX70 hown hK.1 hP 16 rfl rfl 6 (by decide) (nw_20 hK) (fun _ h9 => h9) rfl dX6_endSlot_60 ?_
    refine lv_aload_n hx hb dX6_endSlot_63 rfl (lv_at hl 2 rfl) ?_
    refine va_get (D := g.1) (ci := 5) (v := .ref (a 6)) (C := RX6) (T := TX6) (N := 8) hx hb htG in_wsX60 hown hK.1 hP 0 rfl rfl 5 (by decide) (htG _ g1_138) (fun _ h9 => h9) rfl dX6_endSlot_64 ?_
    refine va_getN (D := g.1) (ci := 4) (v := .ref (a 8)) (C := RX5) (T := TX5) (N := 4) hx hb htG in_wsX50 hown hK.1 hP 6 rfl rfl 1 (by decide) (nw_1 hK) (fun _ h9 => h9) rfl dX6_endSlot_67 ?_
    refine lv_iload_n hx hb dX6_endSlot_70 rfl (lv_at hl 1 rfl) ?_
    refine ko_e (va_runS (As := [.ref (a 8), .int (fX8_slotOf p1 x.2.1)]) (rest := [.int x.2.2.2.2.2.2.2.2.2.2.2.2.2, .ref (a 16)]) ⟨hx, hb, hml, hown, htG⟩ (kX4_at l g (a 8) x.2.2.2.2.2.1.2.1 48 (fX8_slotOf p1 x.2.1) (by decide)) (va_cwS 2 htG (GS g2_60 g2_61 g1_5 g2_62) rfl rfl rfl hs_X4_at ⟨Nat.le_of_ble_eq_true rfl, Nat.le_of_ble_eq_true rfl⟩) (PT_S hK (va_T_of hK hP 8 rfl)) rfl rfl hl.1 rfl (lv_room (Nat.le_of_ble_eq_true rfl)) dX6_endSlot_71 ⟨Nat.zero_le _, Nat.zero_le _⟩) ?_
    refine lv_iadd hx hb dX6_endSlot_74 ?_
    obtain ⟨zv14, ezv14, hm⟩ := bnk hm
    refine tope ezv14 ?_
    refine va_putN (D := g.1) (ci := 6) (v := .int zv14) (ty := .int) (C := RX7) (T := TX7) (N := 7) hx hb htG in_wsX70 tyX7 tyX7_ok nmX7 hown hK.1 hP hD hS 16 rfl rfl 6 (by decide) (nw_20 hK) (fun _ h9 => h9) rfl (by decide +kernel) rfl rfl (Nat.le_of_ble_eq_true rfl) dX6_endSlot_75 (fun H locs hP hD hS => ?_)
    have hP : va_P g.1 vwCl (w_X6 g a (x.1, x.2.1, x.2.2.1, x.2.2.2.1, x.2.2.2.2.1, x.2.2.2.2.2.1, (x.2.2.2.2.2.2.1.1, zq12, x.2.2.2.2.2.2.1.2.2.1, x.2.2.2.2.2.2.1.2.2.2), (x.2.2.2.2.2.2.2.1, x.2.2.2.2.2.2.2.2.1, x.2.2.2.2.2.2.2.2.2.1, x.2.2.2.2.2.2.2.2.2.2.1, x.2.2.2.2.2.2.2.2.2.2.2.1, zv13, zv14))) H := hP
    have hD : va_D A (w_X6 g a (x.1, x.2.1, x.2.2.1, x.2.2.2.1, x.2.2.2.2.1, x.2.2.2.2.2.1, (x.2.2.2.2.2.2.1.1, zq12, x.2.2.2.2.2.2.1.2.2.1, x.2.2.2.2.2.2.1.2.2.2), (x.2.2.2.2.2.2.2.1, x.2.2.2.2.2.2.2.2.1, x.2.2.2.2.2.2.2.2.2.1, x.2.2.2.2.2.2.2.2.2.2.1, x.2.2.2.2.2.2.2.2.2.2.2.1, zv13, zv14))) := hD
    refine lv_goto (tgt := 94) hx hb dX6_endSlot_78 (by decide) ?_
    refine lv_iload hx hb dX6_endSlot_94 (lv_at hl 0 rfl) ?_
    refine lv_iconst (v := 3) hx hb dX6_endSlot_96 (by decide) ?_
    refine lv_icmp_ne (tgt := 123) hx hb dX6_endSlot_97 (by decide) (fun zc15 => ?_) (fun zc15 => ?_)
    · replace hm := (if_neg zc15).symm.trans hm
      refine lv_aload_n hx hb dX6_endSlot_123 rfl (lv_at hl 2 rfl) ?_
      refine va_get (D := g.1) (ci := 5) (v := .ref (a 6)) (C := RX6) (T := TX6) (N := 8) hx hb htG in_wsX60 hown hK.1 hP 0 rfl rfl 5 (by decide) (htG _ g1_138) (fun _ h9 => h9) rfl dX6_endSlot_124 ?_
      refine va_getN (D := g.1) (ci := 4) (v := .ref (a 10)) (C := RX5) (T := TX5) (N := 4) hx hb htG in_wsX50 hown hK.1 hP 6 rfl rfl 3 (by decide) (nw_5 hK) (fun _ h9 => h9) rfl dX6_endSlot_127 ?_
      refine lv_iload_n hx hb dX6_endSlot_130 rfl (lv_at hl 1 rfl) ?_
      refine lv_iload hx hb dX6_endSlot_131 (lv_at hl 0 rfl) ?_
      obtain ⟨zq16, hzq16, hm⟩ := bnk hm
      refine kw_ve (va_runS (As := [.ref (a 10), .int (fX8_slotOf p1 x.2.1), .int zq1]) (rest := []) ⟨hx, hb, hml, hown, htG⟩ (kX4_put l g (a 10) _ x.2.2.2.2.2.1.2.2.2 48 (fX8_slotOf p1 x.2.1) zq1 _ ((t_X4_put _ _ _ _ (by decide)).trans (congrArg some hzq16))) (va_cwS 3 htG (GS g2_63 g2_64 g1_5 g2_65) rfl rfl rfl hs_X4_put ⟨Nat.le_of_ble_eq_true rfl, Nat.le_of_ble_eq_true rfl⟩) (PW_S hK hL hS hP hD hA [10] rfl rfl) rfl rfl hl.1 rfl (lv_room (Nat.le_of_ble_eq_true rfl)) dX6_endSlot_133 ⟨Nat.zero_le _, Nat.zero_le _⟩) hP hD hS hA [10] rfl rfl (fun _ => rfl) (fun H locs hP hD hS => ?_)
      have hP : va_P g.1 vwCl (w_X6 g a (x.1, x.2.1, x.2.2.1, x.2.2.2.1, x.2.2.2.2.1, (x.2.2.2.2.2.1.1, x.2.2.2.2.2.1.2.1, x.2.2.2.2.2.1.2.2.1, zq16), (x.2.2.2.2.2.2.1.1, zq12, x.2.2.2.2.2.2.1.2.2.1, x.2.2.2.2.2.2.1.2.2.2), (x.2.2.2.2.2.2.2.1, x.2.2.2.2.2.2.2.2.1, x.2.2.2.2.2.2.2.2.2.1, x.2.2.2.2.2.2.2.2.2.2.1, x.2.2.2.2.2.2.2.2.2.2.2.1, zv13, zv14))) H := hP
      have hD : va_D A (w_X6 g a (x.1, x.2.1, x.2.2.1, x.2.2.2.1, x.2.2.2.2.1, (x.2.2.2.2.2.1.1, x.2.2.2.2.2.1.2.1, x.2.2.2.2.2.1.2.2.1, zq16), (x.2.2.2.2.2.2.1.1, zq12, x.2.2.2.2.2.2.1.2.2.1, x.2.2.2.2.2.2.1.2.2.2), (x.2.2.2.2.2.2.2.1, x.2.2.2.2.2.2.2.2.1, x.2.2.2.2.2.2.2.2.2.1, x.2.2.2.2.2.2.2.2.2.2.1, x.2.2.2.2.2.2.2.2.2.2.2.1, zv13, zv14))) := hD
      refine lv_aload_n hx hb dX6_endSlot_136 rfl (lv_at hl 2 rfl) ?_
      refine va_get (D := g.1) (ci := 5) (v := .ref (a 3)) (C := RX6) (T := TX6) (N := 8) hx hb htG in_wsX60 hown hK.1 hP 0 rfl rfl 4 (by decide) (htG _ g1_136) (fun _ h9 => h9) rfl dX6_endSlot_137 ?_
      refine lv_iload_n hx hb dX6_endSlot_140 rfl (lv_at hl 1 rfl) ?_
      obtain ⟨zq17, hzq17, hm⟩ := bdk hm
      refine kw_ve (va_runV (As := [.int (fX8_slotOf p1 x.2.1)]) (rest := []) ⟨hx, hb, hml, hown, htG⟩ (kX0_removeAll l g (a 3) (a 4) (a 5) _ x.2.2.2.2.1 (fX8_slotOf p1 x.2.1) _ hzq17) (cwV 1 htG (GV g2_225 g2_226 g2_227 g1_3 g2_228) rfl rfl rfl hd_X0_removeAll ⟨Nat.le_of_ble_eq_true rfl, Nat.le_of_ble_eq_true rfl⟩) (PW_V hK hL hS hP hD hA [3, 4, 5] rfl rfl (ci := 0) rfl 3 rfl) rfl rfl hl.1 rfl (lv_room (Nat.le_of_ble_eq_true rfl)) dX6_endSlot_141 ⟨Nat.zero_le _, Nat.zero_le _⟩) hP hD hS hA [3, 4, 5] rfl rfl (fun _ => rfl) (fun H locs hP hD hS => ?_)
      have hP : va_P g.1 vwCl (w_X6 g a (x.1, x.2.1, x.2.2.1, x.2.2.2.1, zq17, (x.2.2.2.2.2.1.1, x.2.2.2.2.2.1.2.1, x.2.2.2.2.2.1.2.2.1, zq16), (x.2.2.2.2.2.2.1.1, zq12, x.2.2.2.2.2.2.1.2.2.1, x.2.2.2.2.2.2.1.2.2.2), (x.2.2.2.2.2.2.2.1, x.2.2.2.2.2.2.2.2.1, x.2.2.2.2.2.2.2.2.2.1, x.2.2.2.2.2.2.2.2.2.2.1, x.2.2.2.2.2.2.2.2.2.2.2.1, zv13, zv14))) H := hP
      have hD : va_D A (w_X6 g a (x.1, x.2.1, x.2.2.1, x.2.2.2.1, zq17, (x.2.2.2.2.2.1.1, x.2.2.2.2.2.1.2.1, x.2.2.2.2.2.1.2.2.1, zq16), (x.2.2.2.2.2.2.1.1, zq12, x.2.2.2.2.2.2.1.2.2.1, x.2.2.2.2.2.2.1.2.2.2), (x.2.2.2.2.2.2.2.1, x.2.2.2.2.2.2.2.2.1, x.2.2.2.2.2.2.2.2.2.1, x.2.2.2.2.2.2.2.2.2.2.1, x.2.2.2.2.2.2.2.2.2.2.2.1, zv13, zv14))) := hD
      refine lv_iload hx hb dX6_endSlot_144 (lv_at hl 0 rfl) ?_
      refine lv_if_ne (tgt := 153) hx hb dX6_endSlot_146 (by decide) (fun zc18 => absurd zc2 zc18) (fun _ => ?_)
      refine lv_iconst (v := 1) hx hb dX6_endSlot_149 (by decide) ?_
      refine lv_goto (tgt := 154) hx hb dX6_endSlot_150 (by decide) ?_
      exact W.zret (v := 1) (ty := .boolean) hx hb hr rfl (fun t ht hW => ⟨⟨_, _, rfl, pr1 (Option.some.inj hm), atH ht hP⟩, hS.F ht⟩) hS.2.2 dX6_endSlot_154
    · replace hm := (if_pos zc15).symm.trans hm
      refine lv_aload_n hx hb dX6_endSlot_100 rfl (lv_at hl 2 rfl) ?_
      refine lv_aload_n hx hb dX6_endSlot_101 rfl (lv_at hl 2 rfl) ?_
      refine va_get (D := g.1) (ci := 5) (v := .ref (a 6)) (C := RX6) (T := TX6) (N := 8) hx hb htG in_wsX60 hown hK.1 hP 0 rfl rfl 5 (by decide) (htG _ g1_138) (fun _ h9 => h9) rfl dX6_endSlot_102 ?_
      refine lv_iload_n hx hb dX6_endSlot_105 rfl (lv_at hl 1 rfl) ?_
      refine ko_e (va_runV (As := [.int (fX8_slotOf p1 x.2.1)]) (rest := [.ref (a 0)]) ⟨hx, hb, hml, hown, htG⟩ (kX5_ownerOf l g (a 6) (a 7) (a 8) (a 9) (a 10) x.2.2.2.2.2.1 (fX8_slotOf p1 x.2.1) _ rfl) (cwV 1 htG (GV g2_237 g2_238 g2_239 g1_4 g3_0) rfl rfl rfl hd_X5_ownerOf ⟨Nat.le_of_ble_eq_true rfl, Nat.le_of_ble_eq_true rfl⟩) (PR_V hK hL hS hP [6, 7, 8, 9, 10] rfl (ci := 4) rfl 6 rfl) rfl rfl hl.1 rfl (lv_room (Nat.le_of_ble_eq_true rfl)) dX6_endSlot_106 ⟨Nat.zero_le _, Nat.zero_le _⟩) ?_
      refine lv_aload_n hx hb dX6_endSlot_109 rfl (lv_at hl 2 rfl) ?_
      refine va_get (D := g.1) (ci := 5) (v := .ref (a 6)) (C := RX6) (T := TX6) (N := 8) hx hb htG in_wsX60 hown hK.1 hP 0 rfl rfl 5 (by decide) (htG _ g1_138) (fun _ h9 => h9) rfl dX6_endSlot_110 ?_
      refine va_getN (D := g.1) (ci := 4) (v := .ref (a 9)) (C := RX5) (T := TX5) (N := 4) hx hb htG in_wsX50 hown hK.1 hP 6 rfl rfl 2 (by decide) (nw_3 hK) (fun _ h9 => h9) rfl dX6_endSlot_113 ?_
      refine lv_iload_n hx hb dX6_endSlot_116 rfl (lv_at hl 1 rfl) ?_
      refine ko_e (va_runS (As := [.ref (a 9), .int (fX8_slotOf p1 x.2.1)]) (rest := [.int (fX5_ownerOf x.2.2.2.2.2.1 (fX8_slotOf p1 x.2.1)), .ref (a 0)]) ⟨hx, hb, hml, hown, htG⟩ (kX4_at l g (a 9) x.2.2.2.2.2.1.2.2.1 48 (fX8_slotOf p1 x.2.1) (by decide)) (va_cwS 2 htG (GS g2_60 g2_61 g1_5 g2_62) rfl rfl rfl hs_X4_at ⟨Nat.le_of_ble_eq_true rfl, Nat.le_of_ble_eq_true rfl⟩) (PT_S hK (va_T_of hK hP 9 rfl)) rfl rfl hl.1 rfl (lv_room (Nat.le_of_ble_eq_true rfl)) dX6_endSlot_117 ⟨Nat.zero_le _, Nat.zero_le _⟩) ?_
      obtain ⟨zq19, hzq19, hm⟩ := bnk hm
      refine kw_veA (va_runV (As := [.int (fX5_ownerOf x.2.2.2.2.2.1 (fX8_slotOf p1 x.2.1)), .int (rat x.2.2.2.2.2.1.2.2.1 48 (fX8_slotOf p1 x.2.1))]) (rest := []) ⟨hx, hb, hml, hown, htG⟩ (kX6_refund l g a _ (x.1, x.2.1, x.2.2.1, x.2.2.2.1, x.2.2.2.2.1, x.2.2.2.2.2.1, (x.2.2.2.2.2.2.1.1, zq12, x.2.2.2.2.2.2.1.2.2.1, x.2.2.2.2.2.2.1.2.2.2), (x.2.2.2.2.2.2.2.1, x.2.2.2.2.2.2.2.2.1, x.2.2.2.2.2.2.2.2.2.1, x.2.2.2.2.2.2.2.2.2.2.1, x.2.2.2.2.2.2.2.2.2.2.2.1, zv13, zv14)) (fX5_ownerOf x.2.2.2.2.2.1 (fX8_slotOf p1 x.2.1)) (rat x.2.2.2.2.2.1.2.2.1 48 (fX8_slotOf p1 x.2.1)) _ hzq19) (cwV 2 htG (GV g3_21 g3_22 g3_23 g1_2 g3_24) rfl rfl rfl hd_X6_refund ⟨Nat.le_of_ble_eq_true rfl, Nat.le_of_ble_eq_true rfl⟩) (PW_VA hK hL hS hP hD hA (ci := 5) rfl 0 rfl) rfl rfl hl.1 rfl (lv_room (Nat.le_of_ble_eq_true rfl)) dX6_endSlot_120 ⟨Nat.zero_le _, Nat.zero_le _⟩) hD hS hA (fun _ => rfl) (fun H locs hP hD hS => ?_)
      have hP : va_P g.1 vwCl (w_X6 g a zq19) H := hP
      have hD : va_D A (w_X6 g a zq19) := hD
      refine lv_aload_n hx hb dX6_endSlot_123 rfl (lv_at hl 2 rfl) ?_
      refine va_get (D := g.1) (ci := 5) (v := .ref (a 6)) (C := RX6) (T := TX6) (N := 8) hx hb htG in_wsX60 hown hK.1 hP 0 rfl rfl 5 (by decide) (htG _ g1_138) (fun _ h9 => h9) rfl dX6_endSlot_124 ?_
      refine va_getN (D := g.1) (ci := 4) (v := .ref (a 10)) (C := RX5) (T := TX5) (N := 4) hx hb htG in_wsX50 hown hK.1 hP 6 rfl rfl 3 (by decide) (nw_5 hK) (fun _ h9 => h9) rfl dX6_endSlot_127 ?_
      refine lv_iload_n hx hb dX6_endSlot_130 rfl (lv_at hl 1 rfl) ?_
      refine lv_iload hx hb dX6_endSlot_131 (lv_at hl 0 rfl) ?_
      obtain ⟨zq20, hzq20, hm⟩ := bnk hm
      refine kw_ve (va_runS (As := [.ref (a 10), .int (fX8_slotOf p1 x.2.1), .int zq1]) (rest := []) ⟨hx, hb, hml, hown, htG⟩ (kX4_put l g (a 10) _ zq19.2.2.2.2.2.1.2.2.2 48 (fX8_slotOf p1 x.2.1) zq1 _ ((t_X4_put _ _ _ _ (by decide)).trans (congrArg some hzq20))) (va_cwS 3 htG (GS g2_63 g2_64 g1_5 g2_65) rfl rfl rfl hs_X4_put ⟨Nat.le_of_ble_eq_true rfl, Nat.le_of_ble_eq_true rfl⟩) (PW_S hK hL hS hP hD hA [10] rfl rfl) rfl rfl hl.1 rfl (lv_room (Nat.le_of_ble_eq_true rfl)) dX6_endSlot_133 ⟨Nat.zero_le _, Nat.zero_le _⟩) hP hD hS hA [10] rfl rfl (fun _ => rfl) (fun H locs hP hD hS => ?_)
      have hP : va_P g.1 vwCl (w_X6 g a (zq19.1, zq19.2.1, zq19.2.2.1, zq19.2.2.2.1, zq19.2.2.2.2.1, (zq19.2.2.2.2.2.1.1, zq19.2.2.2.2.2.1.2.1, zq19.2.2.2.2.2.1.2.2.1, zq20), zq19.2.2.2.2.2.2.1, zq19.2.2.2.2.2.2.2)) H := hP
      have hD : va_D A (w_X6 g a (zq19.1, zq19.2.1, zq19.2.2.1, zq19.2.2.2.1, zq19.2.2.2.2.1, (zq19.2.2.2.2.2.1.1, zq19.2.2.2.2.2.1.2.1, zq19.2.2.2.2.2.1.2.2.1, zq20), zq19.2.2.2.2.2.2.1, zq19.2.2.2.2.2.2.2)) := hD
      refine lv_aload_n hx hb dX6_endSlot_136 rfl (lv_at hl 2 rfl) ?_
      refine va_get (D := g.1) (ci := 5) (v := .ref (a 3)) (C := RX6) (T := TX6) (N := 8) hx hb htG in_wsX60 hown hK.1 hP 0 rfl rfl 4 (by decide) (htG _ g1_136) (fun _ h9 => h9) rfl dX6_endSlot_137 ?_
      refine lv_iload_n hx hb dX6_endSlot_140 rfl (lv_at hl 1 rfl) ?_
      obtain ⟨zq21, hzq21, hm⟩ := bdk hm
      refine kw_ve (va_runV (As := [.int (fX8_slotOf p1 x.2.1)]) (rest := []) ⟨hx, hb, hml, hown, htG⟩ (kX0_removeAll l g (a 3) (a 4) (a 5) _ zq19.2.2.2.2.1 (fX8_slotOf p1 x.2.1) _ hzq21) (cwV 1 htG (GV g2_225 g2_226 g2_227 g1_3 g2_228) rfl rfl rfl hd_X0_removeAll ⟨Nat.le_of_ble_eq_true rfl, Nat.le_of_ble_eq_true rfl⟩) (PW_V hK hL hS hP hD hA [3, 4, 5] rfl rfl (ci := 0) rfl 3 rfl) rfl rfl hl.1 rfl (lv_room (Nat.le_of_ble_eq_true rfl)) dX6_endSlot_141 ⟨Nat.zero_le _, Nat.zero_le _⟩) hP hD hS hA [3, 4, 5] rfl rfl (fun _ => rfl) (fun H locs hP hD hS => ?_)
      have hP : va_P g.1 vwCl (w_X6 g a (zq19.1, zq19.2.1, zq19.2.2.1, zq19.2.2.2.1, zq21, (zq19.2.2.2.2.2.1.1, zq19.2.2.2.2.2.1.2.1, zq19.2.2.2.2.2.1.2.2.1, zq20), zq19.2.2.2.2.2.2.1, zq19.2.2.2.2.2.2.2)) H := hP
      have hD : va_D A (w_X6 g a (zq19.1, zq19.2.1, zq19.2.2.1, zq19.2.2.2.1, zq21, (zq19.2.2.2.2.2.1.1, zq19.2.2.2.2.2.1.2.1, zq19.2.2.2.2.2.1.2.2.1, zq20), zq19.2.2.2.2.2.2.1, zq19.2.2.2.2.2.2.2)) := hD
      refine lv_iload hx hb dX6_endSlot_144 (lv_at hl 0 rfl) ?_
      refine lv_if_ne (tgt := 153) hx hb dX6_endSlot_146 (by decide) (fun zc22 => absurd zc2 zc22) (fun _ => ?_)
      refine lv_iconst (v := 1) hx hb dX6_endSlot_149 (by decide) ?_
      refine lv_goto (tgt := 154) hx hb dX6_endSlot_150 (by decide) ?_
      exact W.zret (v := 1) (ty := .boolean) hx hb hr rfl (fun t ht hW => ⟨⟨_, _, rfl, pr1 (Option.some.inj hm), atH ht hP⟩, hS.F ht⟩) hS.2.2 dX6_endSlot_154
