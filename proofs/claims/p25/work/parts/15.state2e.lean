def fX6_refund (x : SD) (p1 : Int32) (p2 : Int32) : SD := (bnd (fX1_payYard x.2.2.2.2.2.2.1 p1 (-p2)) (fun zq1 => (bnd (x.2.2.2.2.2.2.2.2.1 - p2) (fun zv2 => (bnd (x.2.2.2.2.2.2.2.2.2.1 + p2) (fun zv3 => (x.1, x.2.1, x.2.2.1, x.2.2.2.1, x.2.2.2.2.1, x.2.2.2.2.2.1, zq1, (x.2.2.2.2.2.2.2.1, zv2, zv3, x.2.2.2.2.2.2.2.2.2.2.1, x.2.2.2.2.2.2.2.2.2.2.2.1, x.2.2.2.2.2.2.2.2.2.2.2.2.1, x.2.2.2.2.2.2.2.2.2.2.2.2.2))))))))
abbrev rm_X6_refund : Jvm.Room := { frames := 2, cells := 0, slots := 0, locals := 44 }
theorem hd_X6_refund : yX6_refund.cls = RX6 ∧ yX6_refund.cls ≠ "java/lang/invoke/MethodHandle" ∧ yX6_refund.cls ≠ "java/lang/invoke/VarHandle" ∧ (parseMethodDescriptor yX6_refund.desc).map (fun d => d.parameters.length) = some 2 := by decide +kernel
set_option maxHeartbeats 4000000 in
set_option maxRecDepth 100000 in
theorem kX6_refund (l : Launch) (g : CX) (a : Nat → Nat) (sz : Nat) (x : SD) (p1 : Int32) (p2 : Int32) (res : SD) (hm0 : fX6_refund x p1 p2 = res) : Met l yX6_refund (wg yX6_refund cX6_refund 3 none) rm_X6_refund (PW g [.ref (a 0), .int p1, .int p2] sz (w_X6 g a x)) (va_Qv (fun u => u = res) (fun u t => va_P g.1 vwCl (w_X6 g a u) t.heap) (va_A (w_X6 g a x) sz)) 0 0 (va_A (w_X6 g a x) sz) := by
  refine Met.ofW (cc := cX6_refund) (maxL := 3) (ret := none) (by decide) rfl ?_
  intro p e s m args below meth c s₁ B hml hv
  obtain ⟨rfl, hsz, hP, hK, hD0, hL⟩ := hv
  have hx := B.exec
  have hb := B.bytes
  have hr := B.returns
  have htG := wg_G (atoms_spec (ws := wg yX6_refund cX6_refund 3 none) B.pre)
  have hown : s.vm.findClass RX6 = some m.cls := findClass_of_methodNamed B.named
  have hlocks := B.notSynchronized
  subst hsz
  have hD := hD0.self (sz := s.heap.size)
  generalize hAe : va_A (w_X6 g a x) s.heap.size = A at hD hL ⊢
  have hA : ∀ q : Nat, s.heap.size ≤ q → A q := fun q h => by rw [← hAe]; exact Or.inr h
  have hS : va_S A s.heap s.heap [] := va_S.rf
  have hl := lv_entry ([.ref (a 0), .int p1, .int p2]) (n := 3) (Nat.le_of_ble_eq_true rfl)
  rw [lg_entry_eq]
  generalize (lg_sl ([.ref (a 0), .int p1, .int p2]) ++ List.replicate (3 - (lg_sl ([.ref (a 0), .int p1, .int p2])).length) Slot.unset).toArray = ls at hl ⊢
  have hl : lv_has ls 3 [(0, .ref (a 0)), (1, .int p1), (2, .int p2)] := hl
  have hm := hm0
  unfold fX6_refund at hm
  refine lv_aload_n hx hb dX6_refund_0 rfl (lv_at hl 0 rfl) ?_
  refine va_get (D := g.1) (ci := 5) (v := .ref (a 11)) (C := RX6) (T := TX6) (N := 8) hx hb htG in_wsX60 hown hK.1 hP 0 rfl rfl 6 (by decide) (htG _ g1_140) (fun _ h9 => h9) rfl dX6_refund_1 ?_
  refine lv_iload_n hx hb dX6_refund_4 rfl (lv_at hl 1 rfl) ?_
  refine lv_iload_n hx hb dX6_refund_5 rfl (lv_at hl 2 rfl) ?_
  refine lv_ineg hx hb dX6_refund_6 ?_
  obtain ⟨zq1, hzq1, hm⟩ := bnk hm
  refine kw_ve (va_runV (As := [.int p1, .int (-p2)]) (rest := []) ⟨hx, hb, hml, hown, htG⟩ (kX1_payYard l g (a 11) (a 12) (a 13) (a 14) (a 15) _ x.2.2.2.2.2.2.1 p1 (-p2) _ hzq1) (cwV 2 htG (GV g2_220 g2_221 g2_222 g1_6 g2_223) rfl rfl rfl hd_X1_payYard ⟨Nat.le_of_ble_eq_true rfl, Nat.le_of_ble_eq_true rfl⟩) (PW_V hK hL hS hP hD hA [11, 12, 13, 14, 15] rfl rfl (ci := 1) rfl 11 rfl) rfl rfl hl.1 rfl (lv_room (Nat.le_of_ble_eq_true rfl)) dX6_refund_7 ⟨Nat.zero_le _, Nat.zero_le _⟩) hP hD hS hA [11, 12, 13, 14, 15] rfl rfl (fun _ => rfl) (fun H locs hP hD hS => ?_)
  have hP : va_P g.1 vwCl (w_X6 g a (x.1, x.2.1, x.2.2.1, x.2.2.2.1, x.2.2.2.2.1, x.2.2.2.2.2.1, zq1, x.2.2.2.2.2.2.2)) H := hP
  have hD : va_D A (w_X6 g a (x.1, x.2.1, x.2.2.1, x.2.2.2.1, x.2.2.2.2.1, x.2.2.2.2.2.1, zq1, x.2.2.2.2.2.2.2)) := hD
  refine lv_aload_n hx hb dX6_refund_10 rfl (lv_at hl 0 rfl) ?_
  refine va_get (D := g.1) (ci := 5) (v := .ref (a 16)) (C := RX6) (T := TX6) (N := 8) hx hb htG in_wsX60 hown hK.1 hP 0 rfl rfl 7 (by decide) (htG _ g1_142) (fun _ h9 => h9) rfl dX6_refund_11 ?_
  refine lv_dup hx hb dX6_refund_14 rfl ?_
  refine va_getN (D := g.1) (ci := 6) (v := .int x.2.2.2.2.2.2.2.2.1) (C := RX7) (T := TX7) (N := 7) hx hb htG in_wsX70 hown hK.1 hP 16 rfl rfl 1 (by decide) (nw_15 hK) (fun _ h9 => h9) rfl dX6_refund_15 ?_
  refine lv_iload_n hx hb dX6_refund_18 rfl (lv_at hl 2 rfl) ?_
  refine lv_isub hx hb dX6_refund_19 ?_
  obtain ⟨zv2, ezv2, hm⟩ := bnk hm
  refine tope ezv2 ?_
  refine va_putN (D := g.1) (ci := 6) (v := .int zv2) (ty := .int) (C := RX7) (T := TX7) (N := 7) hx hb htG in_wsX70 tyX7 tyX7_ok nmX7 hown hK.1 hP hD hS 16 rfl rfl 1 (by decide) (nw_15 hK) (fun _ h9 => h9) rfl (by decide +kernel) rfl rfl (Nat.le_of_ble_eq_true rfl) dX6_refund_20 (fun H locs hP hD hS => ?_)
  have hP : va_P g.1 vwCl (w_X6 g a (x.1, x.2.1, x.2.2.1, x.2.2.2.1, x.2.2.2.2.1, x.2.2.2.2.2.1, zq1, (x.2.2.2.2.2.2.2.1, zv2, x.2.2.2.2.2.2.2.2.2.1, x.2.2.2.2.2.2.2.2.2.2.1, x.2.2.2.2.2.2.2.2.2.2.2.1, x.2.2.2.2.2.2.2.2.2.2.2.2.1, x.2.2.2.2.2.2.2.2.2.2.2.2.2))) H := hP
  have hD : va_D A (w_X6 g a (x.1, x.2.1, x.2.2.1, x.2.2.2.1, x.2.2.2.2.1, x.2.2.2.2.2.1, zq1, (x.2.2.2.2.2.2.2.1, zv2, x.2.2.2.2.2.2.2.2.2.1, x.2.2.2.2.2.2.2.2.2.2.1, x.2.2.2.2.2.2.2.2.2.2.2.1, x.2.2.2.2.2.2.2.2.2.2.2.2.1, x.2.2.2.2.2.2.2.2.2.2.2.2.2))) := hD
  refine lv_aload_n hx hb dX6_refund_23 rfl (lv_at hl 0 rfl) ?_
  refine va_get (D := g.1) (ci := 5) (v := .ref (a 16)) (C := RX6) (T := TX6) (N := 8) hx hb htG in_wsX60 hown hK.1 hP 0 rfl rfl 7 (by decide) (htG _ g1_142) (fun _ h9 => h9) rfl dX6_refund_24 ?_
  refine lv_dup hx hb dX6_refund_27 rfl ?_
  refine va_getN (D := g.1) (ci := 6) (v := .int x.2.2.2.2.2.2.2.2.2.1) (C := RX7) (T := TX7) (N := 7) hx hb htG in_wsX70 hown hK.1 hP 16 rfl rfl 2 (by decide) (nw_16 hK) (fun _ h9 => h9) rfl dX6_refund_28 ?_
  refine lv_iload_n hx hb dX6_refund_31 rfl (lv_at hl 2 rfl) ?_
  refine lv_iadd hx hb dX6_refund_32 ?_
  obtain ⟨zv3, ezv3, hm⟩ := bnk hm
  refine tope ezv3 ?_
  refine va_putN (D := g.1) (ci := 6) (v := .int zv3) (ty := .int) (C := RX7) (T := TX7) (N := 7) hx hb htG in_wsX70 tyX7 tyX7_ok nmX7 hown hK.1 hP hD hS 16 rfl rfl 2 (by decide) (nw_16 hK) (fun _ h9 => h9) rfl (by decide +kernel) rfl rfl (Nat.le_of_ble_eq_true rfl) dX6_refund_33 (fun H locs hP hD hS => ?_)
  have hP : va_P g.1 vwCl (w_X6 g a (x.1, x.2.1, x.2.2.1, x.2.2.2.1, x.2.2.2.2.1, x.2.2.2.2.2.1, zq1, (x.2.2.2.2.2.2.2.1, zv2, zv3, x.2.2.2.2.2.2.2.2.2.2.1, x.2.2.2.2.2.2.2.2.2.2.2.1, x.2.2.2.2.2.2.2.2.2.2.2.2.1, x.2.2.2.2.2.2.2.2.2.2.2.2.2))) H := hP
  have hD : va_D A (w_X6 g a (x.1, x.2.1, x.2.2.1, x.2.2.2.1, x.2.2.2.2.1, x.2.2.2.2.2.1, zq1, (x.2.2.2.2.2.2.2.1, zv2, zv3, x.2.2.2.2.2.2.2.2.2.2.1, x.2.2.2.2.2.2.2.2.2.2.2.1, x.2.2.2.2.2.2.2.2.2.2.2.2.1, x.2.2.2.2.2.2.2.2.2.2.2.2.2))) := hD
  exact W.vret hx hb hr (fun t ht hW => ⟨⟨_, rfl, hm, atH ht hP⟩, hS.F ht⟩) hS.2.2 dX6_refund_36
