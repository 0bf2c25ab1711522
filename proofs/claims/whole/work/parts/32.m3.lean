def fX9_awards (x : MD) (p1 : Int32) (p2 : Int32) : Option (Int32 × MD) := ((fX9_best x p1 p2 (-1)).bind (fun zq1 => (if zq1 < 0 then some (zq1, x) else ((fX9_best x p1 p2 zq1).bind (fun zq3 => (if 0 ≤ zq3 then ((fX9_borne x p1 p2 zq3).bind (fun zq5 => (if ib ((p1 + 51) + p2) 5845 = true then (bnd (upd x.1 ((p1 + 51) + p2).toNatClampNeg zq1) (fun zf7 => (if ib (((p1 + 243) + (6 * p2)) + zq1) 5845 = true then (if ib ((p1 + 99) + p2) 5845 = true then (bnd (upd zf7 ((p1 + 99) + p2).toNatClampNeg (zf7 ((((p1 + 243) + (6 * p2)) + zq1).toNatClampNeg))) (fun zf10 => (if ib ((p1 + 147) + p2) 5845 = true then (bnd (upd zf10 ((p1 + 147) + p2).toNatClampNeg zq5) (fun zf12 => (if ib ((p1 + 2) + zq1) 5845 = true then (bnd (upd zf12 ((p1 + 2) + zq1).toNatClampNeg ((zf12 (((p1 + 2) + zq1).toNatClampNeg)) - zq5)) (fun zf14 => (if ib ((p1 + 14) + zq1) 5845 = true then (bnd (upd zf14 ((p1 + 14) + zq1).toNatClampNeg ((zf14 (((p1 + 14) + zq1).toNatClampNeg)) + zq5)) (fun zf16 => (if ib (p1 + 30) 5845 = true then (bnd (upd zf16 (p1 + 30).toNatClampNeg ((zf16 ((p1 + 30).toNatClampNeg)) + zq5)) (fun zf18 => ((fX9_clears (zf18, x.2.1, x.2.2.1, x.2.2.2.1, x.2.2.2.2.1, x.2.2.2.2.2.1, x.2.2.2.2.2.2.1, x.2.2.2.2.2.2.2.1, x.2.2.2.2.2.2.2.2.1, x.2.2.2.2.2.2.2.2.2.1, x.2.2.2.2.2.2.2.2.2.2) p1 p2).bind (fun zq19 => some (zq1, zq19))))) else none))) else none))) else none))) else none))) else none) else none))) else none))) else (if ib ((p1 + 51) + p2) 5845 = true then (bnd (upd x.1 ((p1 + 51) + p2).toNatClampNeg zq1) (fun zf21 => (if ib (((p1 + 243) + (6 * p2)) + zq1) 5845 = true then (if ib ((p1 + 99) + p2) 5845 = true then (bnd (upd zf21 ((p1 + 99) + p2).toNatClampNeg (zf21 ((((p1 + 243) + (6 * p2)) + zq1).toNatClampNeg))) (fun zf24 => (if ib ((p1 + 147) + p2) 5845 = true then (bnd (upd zf24 ((p1 + 147) + p2).toNatClampNeg 0) (fun zf26 => (if ib ((p1 + 2) + zq1) 5845 = true then (bnd (upd zf26 ((p1 + 2) + zq1).toNatClampNeg ((zf26 (((p1 + 2) + zq1).toNatClampNeg)) - 0)) (fun zf28 => (if ib ((p1 + 14) + zq1) 5845 = true then (bnd (upd zf28 ((p1 + 14) + zq1).toNatClampNeg ((zf28 (((p1 + 14) + zq1).toNatClampNeg)) + 0)) (fun zf30 => (if ib (p1 + 30) 5845 = true then (bnd (upd zf30 (p1 + 30).toNatClampNeg ((zf30 ((p1 + 30).toNatClampNeg)) + 0)) (fun zf32 => ((fX9_clears (zf32, x.2.1, x.2.2.1, x.2.2.2.1, x.2.2.2.2.1, x.2.2.2.2.2.1, x.2.2.2.2.2.2.1, x.2.2.2.2.2.2.2.1, x.2.2.2.2.2.2.2.2.1, x.2.2.2.2.2.2.2.2.2.1, x.2.2.2.2.2.2.2.2.2.2) p1 p2).bind (fun zq33 => some (zq1, zq33))))) else none))) else none))) else none))) else none))) else none) else none))) else none)))))))
abbrev rm_X9_awards : Jvm.Room := { frames := 3, cells := 0, slots := 0, locals := 70 }
theorem hd_X9_awards : yX9_awards.cls = RX9 ∧ yX9_awards.cls ≠ "java/lang/invoke/MethodHandle" ∧ yX9_awards.cls ≠ "java/lang/invoke/VarHandle" ∧ (parseMethodDescriptor yX9_awards.desc).map (fun d => d.parameters.length) = some 2 := by decide +kernel
set_option maxHeartbeats 4000000 in
set_option maxRecDepth 100000 in
theorem kX9_awards (l : Launch) (g : CX) (h0 h1 h2 h3 : Nat) (sz : Nat) (x : MD) (p1 : Int32) (p2 : Int32) (res : Int32 × MD) (hm0 : fX9_awards x p1 p2 = some res) : Met l yX9_awards (wg yX9_awards cX9_awards 6 (some .int)) rm_X9_awards (PW g [.ref h0, .int p1, .int p2] sz (w_X9 g h0 h1 h2 h3 x)) (va_Qi (fun v u => v = res.1 ∧ u = res.2) (fun u t => va_P g.1 vwCl (w_X9 g h0 h1 h2 h3 u) t.heap) (va_A (w_X9 g h0 h1 h2 h3 x) sz)) 0 0 (va_A (w_X9 g h0 h1 h2 h3 x) sz) := by
  refine Met.ofW (cc := cX9_awards) (maxL := 6) (ret := (some .int)) (by decide) rfl ?_
  intro p e s m args below meth c s₁ B hml hv
  obtain ⟨rfl, hsz, hP, hK, hD0, hL⟩ := hv
  have hx := B.exec
  have hb := B.bytes
  have hr := B.returns
  have htG := wg_G (atoms_spec (ws := wg yX9_awards cX9_awards 6 (some .int)) B.pre)
  have hown : s.vm.findClass RX9 = some m.cls := findClass_of_methodNamed B.named
  have hlocks := B.notSynchronized
  subst hsz
  have hD := hD0.self (sz := s.heap.size)
  generalize hAe : va_A (w_X9 g h0 h1 h2 h3 x) s.heap.size = A at hD hL ⊢
  have hA : ∀ q : Nat, s.heap.size ≤ q → A q := fun q h => by rw [← hAe]; exact Or.inr h
  have hS : va_S A s.heap s.heap [] := va_S.rf
  have hl := lv_entry ([.ref h0, .int p1, .int p2]) (n := 6) (Nat.le_of_ble_eq_true rfl)
  rw [lg_entry_eq]
  generalize (lg_sl ([.ref h0, .int p1, .int p2]) ++ List.replicate (6 - (lg_sl ([.ref h0, .int p1, .int p2])).length) Slot.unset).toArray = ls at hl ⊢
  have hl : lv_has ls 6 [(0, .ref h0), (1, .int p1), (2, .int p2)] := hl
  have hm := hm0
  unfold fX9_awards at hm
  refine lv_aload_n hx hb dX9_awards_0 rfl (lv_at hl 0 rfl) ?_
  refine lv_iload_n hx hb dX9_awards_1 rfl (lv_at hl 1 rfl) ?_
  refine lv_iload_n hx hb dX9_awards_2 rfl (lv_at hl 2 rfl) ?_
  refine lv_iconst (v := (-1)) hx hb dX9_awards_3 (by decide) ?_
  obtain ⟨zq1, hzq1, hm⟩ := bdk hm
  refine ko_e (va_runV (As := [.int p1, .int p2, .int (-1)]) (rest := []) ⟨hx, hb, hml, hown, htG⟩ (kX9_best l g h0 h1 h2 h3 x p1 p2 (-1) _ hzq1) (cwV 3 htG (GV g4_61 g4_63 gS_20 g1_10 g4_64) rfl rfl rfl hd_X9_best ⟨Nat.le_of_ble_eq_true rfl, Nat.le_of_ble_eq_true rfl⟩) (PR_VA hK hL hS hP (ci := 8) rfl 0 rfl) rfl rfl hl.1 rfl (lv_room (Nat.le_of_ble_eq_true rfl)) dX9_awards_4 ⟨Nat.zero_le _, Nat.zero_le _⟩) ?_
  refine lv_istore_n (lv' := [(3, .int zq1), (0, .ref h0), (1, .int p1), (2, .int p2)]) hx hb dX9_awards_7 rfl hl (by decide) rfl (fun ls hl => ?_)
  refine lv_iload_n hx hb dX9_awards_8 rfl (lv_at hl 0 rfl) ?_
  refine lv_if_lt (tgt := 145) hx hb dX9_awards_9 (by decide) (fun zc2 => ?_) (fun zc2 => ?_)
  · replace hm := (if_pos zc2).symm.trans hm
    refine lv_iload_n hx hb dX9_awards_145 rfl (lv_at hl 0 rfl) ?_
    exact W.iret (v := zq1) hx hb hr (fun t ht hW => ⟨⟨_, _, rfl, pr1 (Option.some.inj hm), atH ht hP⟩, hS.F ht⟩) hS.2.2 dX9_awards_146
  · replace hm := (if_neg zc2).symm.trans hm
    refine lv_aload_n hx hb dX9_awards_12 rfl (lv_at hl 1 rfl) ?_
    refine lv_iload_n hx hb dX9_awards_13 rfl (lv_at hl 2 rfl) ?_
    refine lv_iload_n hx hb dX9_awards_14 rfl (lv_at hl 3 rfl) ?_
    refine lv_iload_n hx hb dX9_awards_15 rfl (lv_at hl 0 rfl) ?_
    obtain ⟨zq3, hzq3, hm⟩ := bdk hm
    refine ko_e (va_runV (As := [.int p1, .int p2, .int zq1]) (rest := []) ⟨hx, hb, hml, hown, htG⟩ (kX9_best l g h0 h1 h2 h3 x p1 p2 zq1 _ hzq3) (cwV 3 htG (GV g4_61 g4_63 gS_20 g1_10 g4_64) rfl rfl rfl hd_X9_best ⟨Nat.le_of_ble_eq_true rfl, Nat.le_of_ble_eq_true rfl⟩) (PR_VA hK hL hS hP (ci := 8) rfl 0 rfl) rfl rfl hl.1 rfl (lv_room (Nat.le_of_ble_eq_true rfl)) dX9_awards_16 ⟨Nat.zero_le _, Nat.zero_le _⟩) ?_
    refine lv_istore (lv' := [(4, .int zq3), (3, .int zq1), (0, .ref h0), (1, .int p1), (2, .int p2)]) hx hb dX9_awards_19 hl (by decide) rfl (fun ls hl => ?_)
    refine lv_iload hx hb dX9_awards_21 (lv_at hl 0 rfl) ?_
    refine lv_if_ge (tgt := 30) hx hb dX9_awards_23 (by decide) (fun zc4 => ?_) (fun zc4 => ?_)
    · replace hm := (if_pos zc4).symm.trans hm
      refine lv_aload_n hx hb dX9_awards_30 rfl (lv_at hl 2 rfl) ?_
      refine lv_iload_n hx hb dX9_awards_31 rfl (lv_at hl 3 rfl) ?_
      refine lv_iload_n hx hb dX9_awards_32 rfl (lv_at hl 4 rfl) ?_
      refine lv_iload hx hb dX9_awards_33 (lv_at hl 0 rfl) ?_
      obtain ⟨zq5, hzq5, hm⟩ := bdk hm
      refine ko_e (va_runV (As := [.int p1, .int p2, .int zq3]) (rest := []) ⟨hx, hb, hml, hown, htG⟩ (kX9_borne l g h0 h1 h2 h3 x p1 p2 zq3 _ hzq5) (cwV 3 htG (GV g4_65 g4_67 gS_21 g1_10 g4_68) rfl rfl rfl hd_X9_borne ⟨Nat.le_of_ble_eq_true rfl, Nat.le_of_ble_eq_true rfl⟩) (PR_VA hK hL hS hP (ci := 8) rfl 0 rfl) rfl rfl hl.1 rfl (lv_room (Nat.le_of_ble_eq_true rfl)) dX9_awards_35 ⟨Nat.zero_le _, Nat.zero_le _⟩) ?_
      refine lv_istore (lv' := [(5, .int zq5), (4, .int zq3), (3, .int zq1), (0, .ref h0), (1, .int p1), (2, .int p2)]) hx hb dX9_awards_38 hl (by decide) rfl (fun ls hl => ?_)
      refine lv_aload_n hx hb dX9_awards_40 rfl (lv_at hl 3 rfl) ?_
      refine va_get (D := g.1) (ci := 8) (v := .ref h1) (C := RX9) (T := TX9) (N := 11) hx hb htG in_wsX90 hown hK.1 hP 0 rfl rfl 0 (by decide) (htG _ g3_195) (fun _ h9 => h9) rfl dX9_awards_41 ?_
      refine lv_iload_n hx hb dX9_awards_44 rfl (lv_at hl 4 rfl) ?_
      refine lv_bipush (v := 51) hx hb dX9_awards_45 (by decide +kernel) ?_
      refine lv_iadd hx hb dX9_awards_47 ?_
      refine lv_iload_n hx hb dX9_awards_48 rfl (lv_at hl 5 rfl) ?_
      refine lv_iadd hx hb dX9_awards_49 ?_
      refine lv_iload_n hx hb dX9_awards_50 rfl (lv_at hl 2 rfl) ?_
      obtain ⟨zb6, hm⟩ := ibk hm
      obtain ⟨zf7, ezf7, hm⟩ := bnk hm
      refine iast_e hx hb hK.1 hP hD hS 1 0 rfl rfl zb6 dX9_awards_51 ezf7 (fun H locs hP hD hS => ?_)
      have hP : va_P g.1 vwCl (w_X9 g h0 h1 h2 h3 (zf7, x.2.1, x.2.2.1, x.2.2.2.1, x.2.2.2.2.1, x.2.2.2.2.2.1, x.2.2.2.2.2.2.1, x.2.2.2.2.2.2.2.1, x.2.2.2.2.2.2.2.2.1, x.2.2.2.2.2.2.2.2.2.1, x.2.2.2.2.2.2.2.2.2.2)) H := hP
      have hD : va_D A (w_X9 g h0 h1 h2 h3 (zf7, x.2.1, x.2.2.1, x.2.2.2.1, x.2.2.2.2.1, x.2.2.2.2.2.1, x.2.2.2.2.2.2.1, x.2.2.2.2.2.2.2.1, x.2.2.2.2.2.2.2.2.1, x.2.2.2.2.2.2.2.2.2.1, x.2.2.2.2.2.2.2.2.2.2)) := hD
      refine lv_aload_n hx hb dX9_awards_52 rfl (lv_at hl 3 rfl) ?_
      refine va_get (D := g.1) (ci := 8) (v := .ref h1) (C := RX9) (T := TX9) (N := 11) hx hb htG in_wsX90 hown hK.1 hP 0 rfl rfl 0 (by decide) (htG _ g3_195) (fun _ h9 => h9) rfl dX9_awards_53 ?_
      refine lv_iload_n hx hb dX9_awards_56 rfl (lv_at hl 4 rfl) ?_
      refine lv_bipush (v := 99) hx hb dX9_awards_57 (by decide +kernel) ?_
      refine lv_iadd hx hb dX9_awards_59 ?_
      refine lv_iload_n hx hb dX9_awards_60 rfl (lv_at hl 5 rfl) ?_
      refine lv_iadd hx hb dX9_awards_61 ?_
      refine lv_aload_n hx hb dX9_awards_62 rfl (lv_at hl 3 rfl) ?_
      refine va_get (D := g.1) (ci := 8) (v := .ref h1) (C := RX9) (T := TX9) (N := 11) hx hb htG in_wsX90 hown hK.1 hP 0 rfl rfl 0 (by decide) (htG _ g3_195) (fun _ h9 => h9) rfl dX9_awards_63 ?_
      refine lv_iload_n hx hb dX9_awards_66 rfl (lv_at hl 4 rfl) ?_
      refine lv_sipush (v := 243) hx hb dX9_awards_67 (by decide +kernel) ?_
      refine lv_iadd hx hb dX9_awards_70 ?_
      refine lv_bipush (v := 6) hx hb dX9_awards_71 (by decide +kernel) ?_
      refine lv_iload_n hx hb dX9_awards_73 rfl (lv_at hl 5 rfl) ?_
      refine lv_imul hx hb dX9_awards_74 ?_
      refine lv_iadd hx hb dX9_awards_75 ?_
      refine lv_iload_n hx hb dX9_awards_76 rfl (lv_at hl 2 rfl) ?_
      refine lv_iadd hx hb dX9_awards_77 ?_
      obtain ⟨zb8, hm⟩ := ibk hm
      refine va_iald hx hb hK.1 hP 1 0 rfl rfl zb8 dX9_awards_78 ?_
      obtain ⟨zb9, hm⟩ := ibk hm
      obtain ⟨zf10, ezf10, hm⟩ := bnk hm
      refine iast_e hx hb hK.1 hP hD hS 1 0 rfl rfl zb9 dX9_awards_79 ezf10 (fun H locs hP hD hS => ?_)
      have hP : va_P g.1 vwCl (w_X9 g h0 h1 h2 h3 (zf10, x.2.1, x.2.2.1, x.2.2.2.1, x.2.2.2.2.1, x.2.2.2.2.2.1, x.2.2.2.2.2.2.1, x.2.2.2.2.2.2.2.1, x.2.2.2.2.2.2.2.2.1, x.2.2.2.2.2.2.2.2.2.1, x.2.2.2.2.2.2.2.2.2.2)) H := hP
      have hD : va_D A (w_X9 g h0 h1 h2 h3 (zf10, x.2.1, x.2.2.1, x.2.2.2.1, x.2.2.2.2.1, x.2.2.2.2.2.1, x.2.2.2.2.2.2.1, x.2.2.2.2.2.2.2.1, x.2.2.2.2.2.2.2.2.1, x.2.2.2.2.2.2.2.2.2.1, x.2.2.2.2.2.2.2.2.2.2)) := hD
      refine lv_aload_n hx hb dX9_awards_80 rfl (lv_at hl 3 rfl) ?_
      refine va_get (D := g.1) (ci := 8) (v := .ref h1) (C := RX9) (T := TX9) (N := 11) hx hb htG in_wsX90 hown hK.1 hP 0 rfl rfl 0 (by decide) (htG _ g3_195) (fun _ h9 => h9) rfl dX9_awards_81 ?_
      refine lv_iload_n hx hb dX9_awards_84 rfl (lv_at hl 4 rfl) ?_
      refine lv_sipush (v := 147) hx hb dX9_awards_85 (by decide +kernel) ?_
      refine lv_iadd hx hb dX9_awards_88 ?_
      refine lv_iload_n hx hb dX9_awards_89 rfl (lv_at hl 5 rfl) ?_
      refine lv_iadd hx hb dX9_awards_90 ?_
      refine lv_iload hx hb dX9_awards_91 (lv_at hl 0 rfl) ?_
      obtain ⟨zb11, hm⟩ := ibk hm
      obtain ⟨zf12, ezf12, hm⟩ := bnk hm
      refine iast_e hx hb hK.1 hP hD hS 1 0 rfl rfl zb11 dX9_awards_93 ezf12 (fun H locs hP hD hS => ?_)
      have hP : va_P g.1 vwCl (w_X9 g h0 h1 h2 h3 (zf12, x.2.1, x.2.2.1, x.2.2.2.1, x.2.2.2.2.1, x.2.2.2.2.2.1, x.2.2.2.2.2.2.1, x.2.2.2.2.2.2.2.1, x.2.2.2.2.2.2.2.2.1, x.2.2.2.2.2.2.2.2.2.1, x.2.2.2.2.2.2.2.2.2.2)) H := hP
      have hD : va_D A (w_X9 g h0 h1 h2 h3 (zf12, x.2.1, x.2.2.1, x.2.2.2.1, x.2.2.2.2.1, x.2.2.2.2.2.1, x.2.2.2.2.2.2.1, x.2.2.2.2.2.2.2.1, x.2.2.2.2.2.2.2.2.1, x.2.2.2.2.2.2.2.2.2.1, x.2.2.2.2.2.2.2.2.2.2)) := hD
      refine lv_aload_n hx hb dX9_awards_94 rfl (lv_at hl 3 rfl) ?_
      refine va_get (D := g.1) (ci := 8) (v := .ref h1) (C := RX9) (T := TX9) (N := 11) hx hb htG in_wsX90 hown hK.1 hP 0 rfl rfl 0 (by decide) (htG _ g3_195) (fun _ h9 => h9) rfl dX9_awards_95 ?_
      refine lv_iload_n hx hb dX9_awards_98 rfl (lv_at hl 4 rfl) ?_
      refine lv_iconst (v := 2) hx hb dX9_awards_99 (by decide) ?_
      refine lv_iadd hx hb dX9_awards_100 ?_
      refine lv_iload_n hx hb dX9_awards_101 rfl (lv_at hl 2 rfl) ?_
      refine lv_iadd hx hb dX9_awards_102 ?_
      refine lv_dup2_11 hx hb dX9_awards_103 rfl rfl ?_
      obtain ⟨zb13, hm⟩ := ibk hm
      refine va_iald hx hb hK.1 hP 1 0 rfl rfl zb13 dX9_awards_104 ?_
      refine lv_iload hx hb dX9_awards_105 (lv_at hl 0 rfl) ?_
      refine lv_isub hx hb dX9_awards_107 ?_
      obtain ⟨zf14, ezf14, hm⟩ := bnk hm
      refine iast_e hx hb hK.1 hP hD hS 1 0 rfl rfl zb13 dX9_awards_108 ezf14 (fun H locs hP hD hS => ?_)
      have hP : va_P g.1 vwCl (w_X9 g h0 h1 h2 h3 (zf14, x.2.1, x.2.2.1, x.2.2.2.1, x.2.2.2.2.1, x.2.2.2.2.2.1, x.2.2.2.2.2.2.1, x.2.2.2.2.2.2.2.1, x.2.2.2.2.2.2.2.2.1, x.2.2.2.2.2.2.2.2.2.1, x.2.2.2.2.2.2.2.2.2.2)) H := hP
      have hD : va_D A (w_X9 g h0 h1 h2 h3 (zf14, x.2.1, x.2.2.1, x.2.2.2.1, x.2.2.2.2.1, x.2.2.2.2.2.1, x.2.2.2.2.2.2.1, x.2.2.2.2.2.2.2.1, x.2.2.2.2.2.2.2.2.1, x.2.2.2.2.2.2.2.2.2.1, x.2.2.2.2.2.2.2.2.2.2)) := hD
      refine lv_aload_n hx hb dX9_awards_109 rfl (lv_at hl 3 rfl) ?_
      refine va_get (D := g.1) (ci := 8) (v := .ref h1) (C := RX9) (T := TX9) (N := 11) hx hb htG in_wsX90 hown hK.1 hP 0 rfl rfl 0 (by decide) (htG _ g3_195) (fun _ h9 => h9) rfl dX9_awards_110 ?_
      refine lv_iload_n hx hb dX9_awards_113 rfl (lv_at hl 4 rfl) ?_
      refine lv_bipush (v := 14) hx hb dX9_awards_114 (by decide +kernel) ?_
      refine lv_iadd hx hb dX9_awards_116 ?_
      refine lv_iload_n hx hb dX9_awards_117 rfl (lv_at hl 2 rfl) ?_
      refine lv_iadd hx hb dX9_awards_118 ?_
      refine lv_dup2_11 hx hb dX9_awards_119 rfl rfl ?_
      obtain ⟨zb15, hm⟩ := ibk hm
      refine va_iald hx hb hK.1 hP 1 0 rfl rfl zb15 dX9_awards_120 ?_
      refine lv_iload hx hb dX9_awards_121 (lv_at hl 0 rfl) ?_
      refine lv_iadd hx hb dX9_awards_123 ?_
      obtain ⟨zf16, ezf16, hm⟩ := bnk hm
      refine iast_e hx hb hK.1 hP hD hS 1 0 rfl rfl zb15 dX9_awards_124 ezf16 (fun H locs hP hD hS => ?_)
      have hP : va_P g.1 vwCl (w_X9 g h0 h1 h2 h3 (zf16, x.2.1, x.2.2.1, x.2.2.2.1, x.2.2.2.2.1, x.2.2.2.2.2.1, x.2.2.2.2.2.2.1, x.2.2.2.2.2.2.2.1, x.2.2.2.2.2.2.2.2.1, x.2.2.2.2.2.2.2.2.2.1, x.2.2.2.2.2.2.2.2.2.2)) H := hP
      have hD : va_D A (w_X9 g h0 h1 h2 h3 (zf16, x.2.1, x.2.2.1, x.2.2.2.1, x.2.2.2.2.1, x.2.2.2.2.2.1, x.2.2.2.2.2.2.1, x.2.2.2.2.2.2.2.1, x.2.2.2.2.2.2.2.2.1, x.2.2.2.2.2.2.2.2.2.1, x.2.2.2.2.2.2.2.2.2.2)) := hD
      refine lv_aload_n hx hb dX9_awards_125 rfl (lv_at hl 3 rfl) ?_
      refine va_get (D := g.1) (ci := 8) (v := .ref h1) (C := RX9) (T := TX9) (N := 11) hx hb htG in_wsX90 hown hK.1 hP 0 rfl rfl 0 (by decide) (htG _ g3_195) (fun _ h9 => h9) rfl dX9_awards_126 ?_
      refine lv_iload_n hx hb dX9_awards_129 rfl (lv_at hl 4 rfl) ?_
      refine lv_bipush (v := 30) hx hb dX9_awards_130 (by decide +kernel) ?_
      refine lv_iadd hx hb dX9_awards_132 ?_
      refine lv_dup2_11 hx hb dX9_awards_133 rfl rfl ?_
      obtain ⟨zb17, hm⟩ := ibk hm
      refine va_iald hx hb hK.1 hP 1 0 rfl rfl zb17 dX9_awards_134 ?_
      refine lv_iload hx hb dX9_awards_135 (lv_at hl 0 rfl) ?_
      refine lv_iadd hx hb dX9_awards_137 ?_
      obtain ⟨zf18, ezf18, hm⟩ := bnk hm
      refine iast_e hx hb hK.1 hP hD hS 1 0 rfl rfl zb17 dX9_awards_138 ezf18 (fun H locs hP hD hS => ?_)
      have hP : va_P g.1 vwCl (w_X9 g h0 h1 h2 h3 (zf18, x.2.1, x.2.2.1, x.2.2.2.1, x.2.2.2.2.1, x.2.2.2.2.2.1, x.2.2.2.2.2.2.1, x.2.2.2.2.2.2.2.1, x.2.2.2.2.2.2.2.2.1, x.2.2.2.2.2.2.2.2.2.1, x.2.2.2.2.2.2.2.2.2.2)) H := hP
      have hD : va_D A (w_X9 g h0 h1 h2 h3 (zf18, x.2.1, x.2.2.1, x.2.2.2.1, x.2.2.2.2.1, x.2.2.2.2.2.1, x.2.2.2.2.2.2.1, x.2.2.2.2.2.2.2.1, x.2.2.2.2.2.2.2.2.1, x.2.2.2.2.2.2.2.2.2.1, x.2.2.2.2.2.2.2.2.2.2)) := hD
      refine lv_aload_n hx hb dX9_awards_139 rfl (lv_at hl 3 rfl) ?_
      refine lv_iload_n hx hb dX9_awards_140 rfl (lv_at hl 4 rfl) ?_
      refine lv_iload_n hx hb dX9_awards_141 rfl (lv_at hl 5 rfl) ?_
      obtain ⟨zq19, hzq19, hm⟩ := bdk hm
      refine kw_veA (va_runV (As := [.int p1, .int p2]) (rest := []) ⟨hx, hb, hml, hown, htG⟩ (kX9_clears l g h0 h1 h2 h3 _ (zf18, x.2.1, x.2.2.1, x.2.2.2.1, x.2.2.2.2.1, x.2.2.2.2.2.1, x.2.2.2.2.2.2.1, x.2.2.2.2.2.2.2.1, x.2.2.2.2.2.2.2.2.1, x.2.2.2.2.2.2.2.2.2.1, x.2.2.2.2.2.2.2.2.2.2) p1 p2 _ hzq19) (cwV 2 htG (GV g3_191 g3_193 gS_9 g1_10 g3_194) rfl rfl rfl hd_X9_clears ⟨Nat.le_of_ble_eq_true rfl, Nat.le_of_ble_eq_true rfl⟩) (PW_VA hK hL hS hP hD hA (ci := 8) rfl 0 rfl) rfl rfl hl.1 rfl (lv_room (Nat.le_of_ble_eq_true rfl)) dX9_awards_142 ⟨Nat.zero_le _, Nat.zero_le _⟩) hD hS hA (fun _ => rfl) (fun H locs hP hD hS => ?_)
      have hP : va_P g.1 vwCl (w_X9 g h0 h1 h2 h3 zq19) H := hP
      have hD : va_D A (w_X9 g h0 h1 h2 h3 zq19) := hD
      refine lv_iload_n hx hb dX9_awards_145 rfl (lv_at hl 2 rfl) ?_
      exact W.iret (v := zq1) hx hb hr (fun t ht hW => ⟨⟨_, _, rfl, pr1 (Option.some.inj hm), atH ht hP⟩, hS.F ht⟩) hS.2.2 dX9_awards_146
    · replace hm := (if_neg zc4).symm.trans hm
      refine lv_iconst (v := 0) hx hb dX9_awards_26 (by decide) ?_
      refine lv_goto (tgt := 38) hx hb dX9_awards_27 (by decide) ?_
      refine lv_istore (lv' := [(5, .int 0), (4, .int zq3), (3, .int zq1), (0, .ref h0), (1, .int p1), (2, .int p2)]) hx hb dX9_awards_38 hl (by decide) rfl (fun ls hl => ?_)
      refine lv_aload_n hx hb dX9_awards_40 rfl (lv_at hl 3 rfl) ?_
      refine va_get (D := g.1) (ci := 8) (v := .ref h1) (C := RX9) (T := TX9) (N := 11) hx hb htG in_wsX90 hown hK.1 hP 0 rfl rfl 0 (by decide) (htG _ g3_195) (fun _ h9 => h9) rfl dX9_awards_41 ?_
      refine lv_iload_n hx hb dX9_awards_44 rfl (lv_at hl 4 rfl) ?_
      refine lv_bipush (v := 51) hx hb dX9_awards_45 (by decide +kernel) ?_
      refine lv_iadd hx hb dX9_awards_47 ?_
      refine lv_iload_n hx hb dX9_awards_48 rfl (lv_at hl 5 rfl) ?_
      refine lv_iadd hx hb dX9_awards_49 ?_
      refine lv_iload_n hx hb dX9_awards_50 rfl (lv_at hl 2 rfl) ?_
      obtain ⟨zb20, hm⟩ := ibk hm
      obtain ⟨zf21, ezf21, hm⟩ := bnk hm
      refine iast_e hx hb hK.1 hP hD hS 1 0 rfl rfl zb20 dX9_awards_51 ezf21 (fun H locs hP hD hS => ?_)
      have hP : va_P g.1 vwCl (w_X9 g h0 h1 h2 h3 (zf21, x.2.1, x.2.2.1, x.2.2.2.1, x.2.2.2.2.1, x.2.2.2.2.2.1, x.2.2.2.2.2.2.1, x.2.2.2.2.2.2.2.1, x.2.2.2.2.2.2.2.2.1, x.2.2.2.2.2.2.2.2.2.1, x.2.2.2.2.2.2.2.2.2.2)) H := hP
      have hD : va_D A (w_X9 g h0 h1 h2 h3 (zf21, x.2.1, x.2.2.1, x.2.2.2.1, x.2.2.2.2.1, x.2.2.2.2.2.1, x.2.2.2.2.2.2.1, x.2.2.2.2.2.2.2.1, x.2.2.2.2.2.2.2.2.1, x.2.2.2.2.2.2.2.2.2.1, x.2.2.2.2.2.2.2.2.2.2)) := hD
      refine lv_aload_n hx hb dX9_awards_52 rfl (lv_at hl 3 rfl) ?_
      refine va_get (D := g.1) (ci := 8) (v := .ref h1) (C := RX9) (T := TX9) (N := 11) hx hb htG in_wsX90 hown hK.1 hP 0 rfl rfl 0 (by decide) (htG _ g3_195) (fun _ h9 => h9) rfl dX9_awards_53 ?_
      refine lv_iload_n hx hb dX9_awards_56 rfl (lv_at hl 4 rfl) ?_
      refine lv_bipush (v := 99) hx hb dX9_awards_57 (by decide +kernel) ?_
      refine lv_iadd hx hb dX9_awards_59 ?_
      refine lv_iload_n hx hb dX9_awards_60 rfl (lv_at hl 5 rfl) ?_
      refine lv_iadd hx hb dX9_awards_61 ?_
      refine lv_aload_n hx hb dX9_awards_62 rfl (lv_at hl 3 rfl) ?_
      refine va_get (D := g.1) (ci := 8) (v := .ref h1) (C := RX9) (T := TX9) (N := 11) hx hb htG in_wsX90 hown hK.1 hP 0 rfl rfl 0 (by decide) (htG _ g3_195) (fun _ h9 => h9) rfl dX9_awards_63 ?_
      refine lv_iload_n hx hb dX9_awards_66 rfl (lv_at hl 4 rfl) ?_
      refine lv_sipush (v := 243) hx hb dX9_awards_67 (by decide +kernel) ?_
      refine lv_iadd hx hb dX9_awards_70 ?_
      refine lv_bipush (v := 6) hx hb dX9_awards_71 (by decide +kernel) ?_
      refine lv_iload_n hx hb dX9_awards_73 rfl (lv_at hl 5 rfl) ?_
      refine lv_imul hx hb dX9_awards_74 ?_
      refine lv_iadd hx hb dX9_awards_75 ?_
      refine lv_iload_n hx hb dX9_awards_76 rfl (lv_at hl 2 rfl) ?_
      refine lv_iadd hx hb dX9_awards_77 ?_
      obtain ⟨zb22, hm⟩ := ibk hm
      refine va_iald hx hb hK.1 hP 1 0 rfl rfl zb22 dX9_awards_78 ?_
      obtain ⟨zb23, hm⟩ := ibk hm
      obtain ⟨zf24, ezf24, hm⟩ := bnk hm
      refine iast_e hx hb hK.1 hP hD hS 1 0 rfl rfl zb23 dX9_awards_79 ezf24 (fun H locs hP hD hS => ?_)
      have hP : va_P g.1 vwCl (w_X9 g h0 h1 h2 h3 (zf24, x.2.1, x.2.2.1, x.2.2.2.1, x.2.2.2.2.1, x.2.2.2.2.2.1, x.2.2.2.2.2.2.1, x.2.2.2.2.2.2.2.1, x.2.2.2.2.2.2.2.2.1, x.2.2.2.2.2.2.2.2.2.1, x.2.2.2.2.2.2.2.2.2.2)) H := hP
      have hD : va_D A (w_X9 g h0 h1 h2 h3 (zf24, x.2.1, x.2.2.1, x.2.2.2.1, x.2.2.2.2.1, x.2.2.2.2.2.1, x.2.2.2.2.2.2.1, x.2.2.2.2.2.2.2.1, x.2.2.2.2.2.2.2.2.1, x.2.2.2.2.2.2.2.2.2.1, x.2.2.2.2.2.2.2.2.2.2)) := hD
      refine lv_aload_n hx hb dX9_awards_80 rfl (lv_at hl 3 rfl) ?_
      refine va_get (D := g.1) (ci := 8) (v := .ref h1) (C := RX9) (T := TX9) (N := 11) hx hb htG in_wsX90 hown hK.1 hP 0 rfl rfl 0 (by decide) (htG _ g3_195) (fun _ h9 => h9) rfl dX9_awards_81 ?_
      refine lv_iload_n hx hb dX9_awards_84 rfl (lv_at hl 4 rfl) ?_
      refine lv_sipush (v := 147) hx hb dX9_awards_85 (by decide +kernel) ?_
      refine lv_iadd hx hb dX9_awards_88 ?_
      refine lv_iload_n hx hb dX9_awards_89 rfl (lv_at hl 5 rfl) ?_
      refine lv_iadd hx hb dX9_awards_90 ?_
      refine lv_iload hx hb dX9_awards_91 (lv_at hl 0 rfl) ?_
      obtain ⟨zb25, hm⟩ := ibk hm
      obtain ⟨zf26, ezf26, hm⟩ := bnk hm
      refine iast_e hx hb hK.1 hP hD hS 1 0 rfl rfl zb25 dX9_awards_93 ezf26 (fun H locs hP hD hS => ?_)
      have hP : va_P g.1 vwCl (w_X9 g h0 h1 h2 h3 (zf26, x.2.1, x.2.2.1, x.2.2.2.1, x.2.2.2.2.1, x.2.2.2.2.2.1, x.2.2.2.2.2.2.1, x.2.2.2.2.2.2.2.1, x.2.2.2.2.2.2.2.2.1, x.2.2.2.2.2.2.2.2.2.1, x.2.2.2.2.2.2.2.2.2.2)) H := hP
      have hD : va_D A (w_X9 g h0 h1 h2 h3 (zf26, x.2.1, x.2.2.1, x.2.2.2.1, x.2.2.2.2.1, x.2.2.2.2.2.1, x.2.2.2.2.2.2.1, x.2.2.2.2.2.2.2.1, x.2.2.2.2.2.2.2.2.1, x.2.2.2.2.2.2.2.2.2.1, x.2.2.2.2.2.2.2.2.2.2)) := hD
      refine lv_aload_n hx hb dX9_awards_94 rfl (lv_at hl 3 rfl) ?_
      refine va_get (D := g.1) (ci := 8) (v := .ref h1) (C := RX9) (T := TX9) (N := 11) hx hb htG in_wsX90 hown hK.1 hP 0 rfl rfl 0 (by decide) (htG _ g3_195) (fun _ h9 => h9) rfl dX9_awards_95 ?_
      refine lv_iload_n hx hb dX9_awards_98 rfl (lv_at hl 4 rfl) ?_
      refine lv_iconst (v := 2) hx hb dX9_awards_99 (by decide) ?_
      refine lv_iadd hx hb dX9_awards_100 ?_
      refine lv_iload_n hx hb dX9_awards_101 rfl (lv_at hl 2 rfl) ?_
      refine lv_iadd hx hb dX9_awards_102 ?_
      refine lv_dup2_11 hx hb dX9_awards_103 rfl rfl ?_
      obtain ⟨zb27, hm⟩ := ibk hm
      refine va_iald hx hb hK.1 hP 1 0 rfl rfl zb27 dX9_awards_104 ?_
      refine lv_iload hx hb dX9_awards_105 (lv_at hl 0 rfl) ?_
      refine lv_isub hx hb dX9_awards_107 ?_
      obtain ⟨zf28, ezf28, hm⟩ := bnk hm
      refine iast_e hx hb hK.1 hP hD hS 1 0 rfl rfl zb27 dX9_awards_108 ezf28 (fun H locs hP hD hS => ?_)
      have hP : va_P g.1 vwCl (w_X9 g h0 h1 h2 h3 (zf28, x.2.1, x.2.2.1, x.2.2.2.1, x.2.2.2.2.1, x.2.2.2.2.2.1, x.2.2.2.2.2.2.1, x.2.2.2.2.2.2.2.1, x.2.2.2.2.2.2.2.2.1, x.2.2.2.2.2.2.2.2.2.1, x.2.2.2.2.2.2.2.2.2.2)) H := hP
      have hD : va_D A (w_X9 g h0 h1 h2 h3 (zf28, x.2.1, x.2.2.1, x.2.2.2.1, x.2.2.2.2.1, x.2.2.2.2.2.1, x.2.2.2.2.2.2.1, x.2.2.2.2.2.2.2.1, x.2.2.2.2.2.2.2.2.1, x.2.2.2.2.2.2.2.2.2.1, x.2.2.2.2.2.2.2.2.2.2)) := hD
      refine lv_aload_n hx hb dX9_awards_109 rfl (lv_at hl 3 rfl) ?_
      refine va_get (D := g.1) (ci := 8) (v := .ref h1) (C := RX9) (T := TX9) (N := 11) hx hb htG in_wsX90 hown hK.1 hP 0 rfl rfl 0 (by decide) (htG _ g3_195) (fun _ h9 => h9) rfl dX9_awards_110 ?_
      refine lv_iload_n hx hb dX9_awards_113 rfl (lv_at hl 4 rfl) ?_
      refine lv_bipush (v := 14) hx hb dX9_awards_114 (by decide +kernel) ?_
      refine lv_iadd hx hb dX9_awards_116 ?_
      refine lv_iload_n hx hb dX9_awards_117 rfl (lv_at hl 2 rfl) ?_
      refine lv_iadd hx hb dX9_awards_118 ?_
      refine lv_dup2_11 hx hb dX9_awards_119 rfl rfl ?_
      obtain ⟨zb29, hm⟩ := ibk hm
      refine va_iald hx hb hK.1 hP 1 0 rfl rfl zb29 dX9_awards_120 ?_
      refine lv_iload hx hb dX9_awards_121 (lv_at hl 0 rfl) ?_
      refine lv_iadd hx hb dX9_awards_123 ?_
      obtain ⟨zf30, ezf30, hm⟩ := bnk hm
      refine iast_e hx hb hK.1 hP hD hS 1 0 rfl rfl zb29 dX9_awards_124 ezf30 (fun H locs hP hD hS => ?_)
      have hP : va_P g.1 vwCl (w_X9 g h0 h1 h2 h3 (zf30, x.2.1, x.2.2.1, x.2.2.2.1, x.2.2.2.2.1, x.2.2.2.2.2.1, x.2.2.2.2.2.2.1, x.2.2.2.2.2.2.2.1, x.2.2.2.2.2.2.2.2.1, x.2.2.2.2.2.2.2.2.2.1, x.2.2.2.2.2.2.2.2.2.2)) H := hP
      have hD : va_D A (w_X9 g h0 h1 h2 h3 (zf30, x.2.1, x.2.2.1, x.2.2.2.1, x.2.2.2.2.1, x.2.2.2.2.2.1, x.2.2.2.2.2.2.1, x.2.2.2.2.2.2.2.1, x.2.2.2.2.2.2.2.2.1, x.2.2.2.2.2.2.2.2.2.1, x.2.2.2.2.2.2.2.2.2.2)) := hD
      refine lv_aload_n hx hb dX9_awards_125 rfl (lv_at hl 3 rfl) ?_
      refine va_get (D := g.1) (ci := 8) (v := .ref h1) (C := RX9) (T := TX9) (N := 11) hx hb htG in_wsX90 hown hK.1 hP 0 rfl rfl 0 (by decide) (htG _ g3_195) (fun _ h9 => h9) rfl dX9_awards_126 ?_
      refine lv_iload_n hx hb dX9_awards_129 rfl (lv_at hl 4 rfl) ?_
      refine lv_bipush (v := 30) hx hb dX9_awards_130 (by decide +kernel) ?_
      refine lv_iadd hx hb dX9_awards_132 ?_
      refine lv_dup2_11 hx hb dX9_awards_133 rfl rfl ?_
      obtain ⟨zb31, hm⟩ := ibk hm
      refine va_iald hx hb hK.1 hP 1 0 rfl rfl zb31 dX9_awards_134 ?_
      refine lv_iload hx hb dX9_awards_135 (lv_at hl 0 rfl) ?_
      refine lv_iadd hx hb dX9_awards_137 ?_
      obtain ⟨zf32, ezf32, hm⟩ := bnk hm
      refine iast_e hx hb hK.1 hP hD hS 1 0 rfl rfl zb31 dX9_awards_138 ezf32 (fun H locs hP hD hS => ?_)
      have hP : va_P g.1 vwCl (w_X9 g h0 h1 h2 h3 (zf32, x.2.1, x.2.2.1, x.2.2.2.1, x.2.2.2.2.1, x.2.2.2.2.2.1, x.2.2.2.2.2.2.1, x.2.2.2.2.2.2.2.1, x.2.2.2.2.2.2.2.2.1, x.2.2.2.2.2.2.2.2.2.1, x.2.2.2.2.2.2.2.2.2.2)) H := hP
      have hD : va_D A (w_X9 g h0 h1 h2 h3 (zf32, x.2.1, x.2.2.1, x.2.2.2.1, x.2.2.2.2.1, x.2.2.2.2.2.1, x.2.2.2.2.2.2.1, x.2.2.2.2.2.2.2.1, x.2.2.2.2.2.2.2.2.1, x.2.2.2.2.2.2.2.2.2.1, x.2.2.2.2.2.2.2.2.2.2)) := hD
      refine lv_aload_n hx hb dX9_awards_139 rfl (lv_at hl 3 rfl) ?_
      refine lv_iload_n hx hb dX9_awards_140 rfl (lv_at hl 4 rfl) ?_
      refine lv_iload_n hx hb dX9_awards_141 rfl (lv_at hl 5 rfl) ?_
      obtain ⟨zq33, hzq33, hm⟩ := bdk hm
      refine kw_veA (va_runV (As := [.int p1, .int p2]) (rest := []) ⟨hx, hb, hml, hown, htG⟩ (kX9_clears l g h0 h1 h2 h3 _ (zf32, x.2.1, x.2.2.1, x.2.2.2.1, x.2.2.2.2.1, x.2.2.2.2.2.1, x.2.2.2.2.2.2.1, x.2.2.2.2.2.2.2.1, x.2.2.2.2.2.2.2.2.1, x.2.2.2.2.2.2.2.2.2.1, x.2.2.2.2.2.2.2.2.2.2) p1 p2 _ hzq33) (cwV 2 htG (GV g3_191 g3_193 gS_9 g1_10 g3_194) rfl rfl rfl hd_X9_clears ⟨Nat.le_of_ble_eq_true rfl, Nat.le_of_ble_eq_true rfl⟩) (PW_VA hK hL hS hP hD hA (ci := 8) rfl 0 rfl) rfl rfl hl.1 rfl (lv_room (Nat.le_of_ble_eq_true rfl)) dX9_awards_142 ⟨Nat.zero_le _, Nat.zero_le _⟩) hD hS hA (fun _ => rfl) (fun H locs hP hD hS => ?_)
      have hP : va_P g.1 vwCl (w_X9 g h0 h1 h2 h3 zq33) H := hP
      have hD : va_D A (w_X9 g h0 h1 h2 h3 zq33) := hD
      refine lv_iload_n hx hb dX9_awards_145 rfl (lv_at hl 2 rfl) ?_
      exact W.iret (v := zq1) hx hb hr (fun t ht hW => ⟨⟨_, _, rfl, pr1 (Option.some.inj hm), atH ht hP⟩, hS.F ht⟩) hS.2.2 dX9_awards_146
def fX9_expects (x : MD) (p1 : Int32) (p2 : Int32) (p3 : Int32) : Option (Int32 × MD) := (if (fX9_in p2 0 15) = 0 then some ((-1), x) else (if (fX9_in p3 0 99) = 0 then some ((-2), x) else ((fX9_isDone x (835 * p1) p2).bind (fun zq3 => (if zq3 = 0 then (if ib (((835 * p1) + 35) + p2) 5845 = true then (bnd (x.1 ((((835 * p1) + 35) + p2).toNatClampNeg)) (fun zv6 => (if zv6 = p3 then some ((-5), x) else (bnd (upd x.1 (((835 * p1) + 35) + p2).toNatClampNeg p3) (fun zf8 => some (zv6, (zf8, x.2.1, x.2.2.1, x.2.2.2.1, x.2.2.2.2.1, x.2.2.2.2.2.1, x.2.2.2.2.2.2.1, x.2.2.2.2.2.2.2.1, x.2.2.2.2.2.2.2.2.1, x.2.2.2.2.2.2.2.2.2.1, x.2.2.2.2.2.2.2.2.2.2))))))) else none) else some ((-4), x))))))
abbrev rm_X9_expects : Jvm.Room := { frames := 1, cells := 0, slots := 0, locals := 22 }
theorem hd_X9_expects : yX9_expects.cls = RX9 ∧ yX9_expects.cls ≠ "java/lang/invoke/MethodHandle" ∧ yX9_expects.cls ≠ "java/lang/invoke/VarHandle" ∧ (parseMethodDescriptor yX9_expects.desc).map (fun d => d.parameters.length) = some 3 := by decide +kernel
set_option maxHeartbeats 4000000 in
set_option maxRecDepth 100000 in
theorem kX9_expects (l : Launch) (g : CX) (h0 h1 h2 h3 : Nat) (sz : Nat) (x : MD) (p1 : Int32) (p2 : Int32) (p3 : Int32) (res : Int32 × MD) (hm0 : fX9_expects x p1 p2 p3 = some res) : Met l yX9_expects (wg yX9_expects cX9_expects 6 (some .int)) rm_X9_expects (PW g [.ref h0, .int p1, .int p2, .int p3] sz (w_X9 g h0 h1 h2 h3 x)) (va_Qi (fun v u => v = res.1 ∧ u = res.2) (fun u t => va_P g.1 vwCl (w_X9 g h0 h1 h2 h3 u) t.heap) (va_A (w_X9 g h0 h1 h2 h3 x) sz)) 0 0 (va_A (w_X9 g h0 h1 h2 h3 x) sz) := by
  refine Met.ofW (cc := cX9_expects) (maxL := 6) (ret := (some .int)) (by decide) rfl ?_
  intro p e s m args below meth c s₁ B hml hv
  obtain ⟨rfl, hsz, hP, hK, hD0, hL⟩ := hv
  have hx := B.exec
  have hb := B.bytes
  have hr := B.returns
  have htG := wg_G (atoms_spec (ws := wg yX9_expects cX9_expects 6 (some .int)) B.pre)
  have hown : s.vm.findClass RX9 = some m.cls := findClass_of_methodNamed B.named
  have hlocks := B.notSynchronized
  subst hsz
  have hD := hD0.self (sz := s.heap.size)
  generalize hAe : va_A (w_X9 g h0 h1 h2 h3 x) s.heap.size = A at hD hL ⊢
  have hA : ∀ q : Nat, s.heap.size ≤ q → A q := fun q h => by rw [← hAe]; exact Or.inr h
  have hS : va_S A s.heap s.heap [] := va_S.rf
  have hl := lv_entry ([.ref h0, .int p1, .int p2, .int p3]) (n := 6) (Nat.le_of_ble_eq_true rfl)
  rw [lg_entry_eq]
  generalize (lg_sl ([.ref h0, .int p1, .int p2, .int p3]) ++ List.replicate (6 - (lg_sl ([.ref h0, .int p1, .int p2, .int p3])).length) Slot.unset).toArray = ls at hl ⊢
  have hl : lv_has ls 6 [(0, .ref h0), (1, .int p1), (2, .int p2), (3, .int p3)] := hl
  have hm := hm0
  unfold fX9_expects at hm
  refine lv_sipush (v := 835) hx hb dX9_expects_0 (by decide +kernel) ?_
  refine lv_iload_n hx hb dX9_expects_3 rfl (lv_at hl 1 rfl) ?_
  refine lv_imul hx hb dX9_expects_4 ?_
  refine lv_istore (lv' := [(4, .int (835 * p1)), (0, .ref h0), (1, .int p1), (2, .int p2), (3, .int p3)]) hx hb dX9_expects_5 hl (by decide) rfl (fun ls hl => ?_)
  refine lv_iload_n hx hb dX9_expects_7 rfl (lv_at hl 3 rfl) ?_
  refine lv_iconst (v := 0) hx hb dX9_expects_8 (by decide) ?_
  refine lv_bipush (v := 15) hx hb dX9_expects_9 (by decide +kernel) ?_
  refine ko_e (va_runS (As := [.int p2, .int 0, .int 15]) (rest := []) ⟨hx, hb, hml, hown, htG⟩ (kX9_in l g p2 0 15 _ rfl) (va_cwS 3 htG (GS g4_1 g4_2 g1_10 g4_3) rfl rfl rfl hs_X9_in ⟨Nat.le_of_ble_eq_true rfl, Nat.le_of_ble_eq_true rfl⟩) (PR_S hK hL hS hP [] rfl) rfl rfl hl.1 rfl (lv_room (Nat.le_of_ble_eq_true rfl)) dX9_expects_11 ⟨Nat.zero_le _, Nat.zero_le _⟩) ?_
  refine lv_if_ne (tgt := 19) hx hb dX9_expects_14 (by decide) (fun zc1 => ?_) (fun zc1 => ?_)
  · replace hm := (if_neg zc1).symm.trans hm
    refine lv_iload_n hx hb dX9_expects_19 rfl (lv_at hl 4 rfl) ?_
    refine lv_iconst (v := 0) hx hb dX9_expects_20 (by decide) ?_
    refine lv_bipush (v := 99) hx hb dX9_expects_21 (by decide +kernel) ?_
    refine ko_e (va_runS (As := [.int p3, .int 0, .int 99]) (rest := []) ⟨hx, hb, hml, hown, htG⟩ (kX9_in l g p3 0 99 _ rfl) (va_cwS 3 htG (GS g4_1 g4_2 g1_10 g4_3) rfl rfl rfl hs_X9_in ⟨Nat.le_of_ble_eq_true rfl, Nat.le_of_ble_eq_true rfl⟩) (PR_S hK hL hS hP [] rfl) rfl rfl hl.1 rfl (lv_room (Nat.le_of_ble_eq_true rfl)) dX9_expects_23 ⟨Nat.zero_le _, Nat.zero_le _⟩) ?_
    refine lv_if_ne (tgt := 32) hx hb dX9_expects_26 (by decide) (fun zc2 => ?_) (fun zc2 => ?_)
    · replace hm := (if_neg zc2).symm.trans hm
      refine lv_aload_n hx hb dX9_expects_32 rfl (lv_at hl 1 rfl) ?_
      refine lv_iload hx hb dX9_expects_33 (lv_at hl 0 rfl) ?_
      refine lv_iload_n hx hb dX9_expects_35 rfl (lv_at hl 3 rfl) ?_
      obtain ⟨zq3, hzq3, hm⟩ := bdk hm
      refine ko_e (va_runV (As := [.int (835 * p1), .int p2]) (rest := []) ⟨hx, hb, hml, hown, htG⟩ (kX9_isDone l g h0 h1 h2 h3 x (835 * p1) p2 _ hzq3) (cwV 2 htG (GV g4_4 g4_6 gS_12 g1_10 g4_7) rfl rfl rfl hd_X9_isDone ⟨Nat.le_of_ble_eq_true rfl, Nat.le_of_ble_eq_true rfl⟩) (PR_VA hK hL hS hP (ci := 8) rfl 0 rfl) rfl rfl hl.1 rfl (lv_room (Nat.le_of_ble_eq_true rfl)) dX9_expects_36 ⟨Nat.zero_le _, Nat.zero_le _⟩) ?_
      refine lv_if_eq (tgt := 45) hx hb dX9_expects_39 (by decide) (fun zc4 => ?_) (fun zc4 => ?_)
      · replace hm := (if_pos zc4).symm.trans hm
        refine lv_aload_n hx hb dX9_expects_45 rfl (lv_at hl 1 rfl) ?_
        refine va_get (D := g.1) (ci := 8) (v := .ref h1) (C := RX9) (T := TX9) (N := 11) hx hb htG in_wsX90 hown hK.1 hP 0 rfl rfl 0 (by decide) (htG _ g3_195) (fun _ h9 => h9) rfl dX9_expects_46 ?_
        refine lv_iload hx hb dX9_expects_49 (lv_at hl 0 rfl) ?_
        refine lv_bipush (v := 35) hx hb dX9_expects_51 (by decide +kernel) ?_
        refine lv_iadd hx hb dX9_expects_53 ?_
        refine lv_iload_n hx hb dX9_expects_54 rfl (lv_at hl 3 rfl) ?_
        refine lv_iadd hx hb dX9_expects_55 ?_
        obtain ⟨zb5, hm⟩ := ibk hm
        refine va_iald hx hb hK.1 hP 1 0 rfl rfl zb5 dX9_expects_56 ?_
        obtain ⟨zv6, ezv6, hm⟩ := bnk hm
        refine tope ezv6 ?_
        refine lv_istore (lv' := [(5, .int zv6), (4, .int (835 * p1)), (0, .ref h0), (1, .int p1), (2, .int p2), (3, .int p3)]) hx hb dX9_expects_57 hl (by decide) rfl (fun ls hl => ?_)
        refine lv_iload hx hb dX9_expects_59 (lv_at hl 0 rfl) ?_
        refine lv_iload_n hx hb dX9_expects_61 rfl (lv_at hl 5 rfl) ?_
        refine lv_icmp_ne (tgt := 68) hx hb dX9_expects_62 (by decide) (fun zc7 => ?_) (fun zc7 => ?_)
        · replace hm := (if_neg zc7).symm.trans hm
          refine lv_aload_n hx hb dX9_expects_68 rfl (lv_at hl 2 rfl) ?_
          refine va_get (D := g.1) (ci := 8) (v := .ref h1) (C := RX9) (T := TX9) (N := 11) hx hb htG in_wsX90 hown hK.1 hP 0 rfl rfl 0 (by decide) (htG _ g3_195) (fun _ h9 => h9) rfl dX9_expects_69 ?_
          refine lv_iload hx hb dX9_expects_72 (lv_at hl 1 rfl) ?_
          refine lv_bipush (v := 35) hx hb dX9_expects_74 (by decide +kernel) ?_
          refine lv_iadd hx hb dX9_expects_76 ?_
          refine lv_iload_n hx hb dX9_expects_77 rfl (lv_at hl 4 rfl) ?_
          refine lv_iadd hx hb dX9_expects_78 ?_
          refine lv_iload_n hx hb dX9_expects_79 rfl (lv_at hl 5 rfl) ?_
          obtain ⟨zf8, ezf8, hm⟩ := bnk hm
          refine iast_e hx hb hK.1 hP hD hS 1 0 rfl rfl zb5 dX9_expects_80 ezf8 (fun H locs hP hD hS => ?_)
          have hP : va_P g.1 vwCl (w_X9 g h0 h1 h2 h3 (zf8, x.2.1, x.2.2.1, x.2.2.2.1, x.2.2.2.2.1, x.2.2.2.2.2.1, x.2.2.2.2.2.2.1, x.2.2.2.2.2.2.2.1, x.2.2.2.2.2.2.2.2.1, x.2.2.2.2.2.2.2.2.2.1, x.2.2.2.2.2.2.2.2.2.2)) H := hP
          have hD : va_D A (w_X9 g h0 h1 h2 h3 (zf8, x.2.1, x.2.2.1, x.2.2.2.1, x.2.2.2.2.1, x.2.2.2.2.2.1, x.2.2.2.2.2.2.1, x.2.2.2.2.2.2.2.1, x.2.2.2.2.2.2.2.2.1, x.2.2.2.2.2.2.2.2.2.1, x.2.2.2.2.2.2.2.2.2.2)) := hD
          refine lv_iload hx hb dX9_expects_81 (lv_at hl 0 rfl) ?_
          exact W.iret (v := zv6) hx hb hr (fun t ht hW => ⟨⟨_, _, rfl, pr1 (Option.some.inj hm), atH ht hP⟩, hS.F ht⟩) hS.2.2 dX9_expects_83
        · replace hm := (if_pos zc7).symm.trans hm
          refine lv_bipush (v := (-5)) hx hb dX9_expects_65 (by decide +kernel) ?_
          exact W.iret (v := (-5)) hx hb hr (fun t ht hW => ⟨⟨_, _, rfl, pr1 (Option.some.inj hm), atH ht hP⟩, hS.F ht⟩) hS.2.2 dX9_expects_67
      · replace hm := (if_neg zc4).symm.trans hm
        refine lv_bipush (v := (-4)) hx hb dX9_expects_42 (by decide +kernel) ?_
        exact W.iret (v := (-4)) hx hb hr (fun t ht hW => ⟨⟨_, _, rfl, pr1 (Option.some.inj hm), atH ht hP⟩, hS.F ht⟩) hS.2.2 dX9_expects_44
    · replace hm := (if_pos zc2).symm.trans hm
      refine lv_bipush (v := (-2)) hx hb dX9_expects_29 (by decide +kernel) ?_
      exact W.iret (v := (-2)) hx hb hr (fun t ht hW => ⟨⟨_, _, rfl, pr1 (Option.some.inj hm), atH ht hP⟩, hS.F ht⟩) hS.2.2 dX9_expects_31
  · replace hm := (if_pos zc1).symm.trans hm
    refine lv_iconst (v := (-1)) hx hb dX9_expects_17 (by decide) ?_
    exact W.iret (v := (-1)) hx hb hr (fun t ht hW => ⟨⟨_, _, rfl, pr1 (Option.some.inj hm), atH ht hP⟩, hS.F ht⟩) hS.2.2 dX9_expects_18
def fX9_wrong (x : MD) (p1 : Int32) (p2 : Int32) (p3 : Int32) (p4 : Int32) (p5 : Int32) (p6 : Int32) : Option (Int32) := (if (fX9_in p2 0 5) = 0 then some (-1) else (if (fX9_in p3 0 2) = 0 then some (-1) else (if (fX9_in p4 0 15) = 0 then some (-1) else (if (fX9_in p5 1 (fX9_most p3)) = 0 then some (-2) else (if (fX9_in p6 1 999) = 0 then some (-2) else ((fX9_isDone x p1 p4).bind (fun zq6 => (if zq6 = 0 then (if ib ((p1 + 51) + (fX9_place p3 p4)) 5845 = true then (if 0 ≤ (x.1 (((p1 + 51) + (fX9_place p3 p4)).toNatClampNeg)) then some (-4) else (if ib (((p1 + 531) + (6 * (fX9_place p3 p4))) + p2) 5845 = true then (if (x.1 ((((p1 + 531) + (6 * (fX9_place p3 p4))) + p2).toNatClampNeg)) ≤ 0 then (if ib ((p1 + 2) + p2) 5845 = true then ((fX9_offered x p1 p2).bind (fun zq13 => (if p6 ≤ ((x.1 (((p1 + 2) + p2).toNatClampNeg)) - zq13) then ((fX9_bids x p1).bind (fun zq15 => (if zq15 = 60 then some (-3) else some 0))) else some (-6)))) else none) else some (-4)) else none)) else none) else some (-4)))))))))
abbrev rm_X9_wrong : Jvm.Room := { frames := 2, cells := 0, slots := 0, locals := 47 }
theorem hd_X9_wrong : yX9_wrong.cls = RX9 ∧ yX9_wrong.cls ≠ "java/lang/invoke/MethodHandle" ∧ yX9_wrong.cls ≠ "java/lang/invoke/VarHandle" ∧ (parseMethodDescriptor yX9_wrong.desc).map (fun d => d.parameters.length) = some 6 := by decide +kernel
set_option maxHeartbeats 4000000 in
set_option maxRecDepth 100000 in
theorem kX9_wrong (l : Launch) (g : CX) (h0 h1 h2 h3 : Nat) (x : MD) (p1 : Int32) (p2 : Int32) (p3 : Int32) (p4 : Int32) (p5 : Int32) (p6 : Int32) (res : Int32) (hm0 : fX9_wrong x p1 p2 p3 p4 p5 p6 = some res) : Met l yX9_wrong (wg yX9_wrong cX9_wrong 8 (some .int)) rm_X9_wrong (PR g [.ref h0, .int p1, .int p2, .int p3, .int p4, .int p5, .int p6] (w_X9 g h0 h1 h2 h3 x)) (vp_Si (fun v => v = res)) 0 0 (fun _ => False) := by
  refine Met.ofW (cc := cX9_wrong) (maxL := 8) (ret := (some .int)) (by decide) rfl ?_
  intro p e s m args below meth c s₁ B hml hv
  obtain ⟨rfl, hP, hK, hL⟩ := hv
  have hx := B.exec
  have hb := B.bytes
  have hr := B.returns
  have htG := wg_G (atoms_spec (ws := wg yX9_wrong cX9_wrong 8 (some .int)) B.pre)
  have hown : s.vm.findClass RX9 = some m.cls := findClass_of_methodNamed B.named
  have hlocks := B.notSynchronized
  have hS : va_S (fun _ => False) s.heap s.heap [] := va_S.rf
  have hl := lv_entry ([.ref h0, .int p1, .int p2, .int p3, .int p4, .int p5, .int p6]) (n := 8) (Nat.le_of_ble_eq_true rfl)
  rw [lg_entry_eq]
  generalize (lg_sl ([.ref h0, .int p1, .int p2, .int p3, .int p4, .int p5, .int p6]) ++ List.replicate (8 - (lg_sl ([.ref h0, .int p1, .int p2, .int p3, .int p4, .int p5, .int p6])).length) Slot.unset).toArray = ls at hl ⊢
  have hl : lv_has ls 8 [(0, .ref h0), (1, .int p1), (2, .int p2), (3, .int p3), (4, .int p4), (5, .int p5), (6, .int p6)] := hl
  have hm := hm0
  unfold fX9_wrong at hm
  refine lv_iload_n hx hb dX9_wrong_0 rfl (lv_at hl 2 rfl) ?_
  refine lv_iconst (v := 0) hx hb dX9_wrong_1 (by decide) ?_
  refine lv_iconst (v := 5) hx hb dX9_wrong_2 (by decide) ?_
  refine ko_e (va_runS (As := [.int p2, .int 0, .int 5]) (rest := []) ⟨hx, hb, hml, hown, htG⟩ (kX9_in l g p2 0 5 _ rfl) (va_cwS 3 htG (GS g4_1 g4_2 g1_10 g4_3) rfl rfl rfl hs_X9_in ⟨Nat.le_of_ble_eq_true rfl, Nat.le_of_ble_eq_true rfl⟩) (PR_S hK hL hS hP [] rfl) rfl rfl hl.1 rfl (lv_room (Nat.le_of_ble_eq_true rfl)) dX9_wrong_3 ⟨Nat.zero_le _, Nat.zero_le _⟩) ?_
  refine lv_if_eq (tgt := 29) hx hb dX9_wrong_6 (by decide) (fun zc1 => ?_) (fun zc1 => ?_)
  · replace hm := (if_pos zc1).symm.trans hm
    refine lv_iconst (v := (-1)) hx hb dX9_wrong_29 (by decide) ?_
    exact W.iret (v := (-1)) hx hb hr (fun t ht hW => ⟨_, rfl, (Option.some.inj hm), ht⟩) (fun _ h => nomatch h) dX9_wrong_30
  · replace hm := (if_neg zc1).symm.trans hm
    refine lv_iload_n hx hb dX9_wrong_9 rfl (lv_at hl 3 rfl) ?_
    refine lv_iconst (v := 0) hx hb dX9_wrong_10 (by decide) ?_
    refine lv_iconst (v := 2) hx hb dX9_wrong_11 (by decide) ?_
    refine ko_e (va_runS (As := [.int p3, .int 0, .int 2]) (rest := []) ⟨hx, hb, hml, hown, htG⟩ (kX9_in l g p3 0 2 _ rfl) (va_cwS 3 htG (GS g4_1 g4_2 g1_10 g4_3) rfl rfl rfl hs_X9_in ⟨Nat.le_of_ble_eq_true rfl, Nat.le_of_ble_eq_true rfl⟩) (PR_S hK hL hS hP [] rfl) rfl rfl hl.1 rfl (lv_room (Nat.le_of_ble_eq_true rfl)) dX9_wrong_12 ⟨Nat.zero_le _, Nat.zero_le _⟩) ?_
    refine lv_if_eq (tgt := 29) hx hb dX9_wrong_15 (by decide) (fun zc2 => ?_) (fun zc2 => ?_)
    · replace hm := (if_pos zc2).symm.trans hm
      refine lv_iconst (v := (-1)) hx hb dX9_wrong_29 (by decide) ?_
      exact W.iret (v := (-1)) hx hb hr (fun t ht hW => ⟨_, rfl, (Option.some.inj hm), ht⟩) (fun _ h => nomatch h) dX9_wrong_30
    · replace hm := (if_neg zc2).symm.trans hm
      refine lv_iload hx hb dX9_wrong_18 (lv_at hl 4 rfl) ?_
      refine lv_iconst (v := 0) hx hb dX9_wrong_20 (by decide) ?_
      refine lv_bipush (v := 15) hx hb dX9_wrong_21 (by decide +kernel) ?_
      refine ko_e (va_runS (As := [.int p4, .int 0, .int 15]) (rest := []) ⟨hx, hb, hml, hown, htG⟩ (kX9_in l g p4 0 15 _ rfl) (va_cwS 3 htG (GS g4_1 g4_2 g1_10 g4_3) rfl rfl rfl hs_X9_in ⟨Nat.le_of_ble_eq_true rfl, Nat.le_of_ble_eq_true rfl⟩) (PR_S hK hL hS hP [] rfl) rfl rfl hl.1 rfl (lv_room (Nat.le_of_ble_eq_true rfl)) dX9_wrong_23 ⟨Nat.zero_le _, Nat.zero_le _⟩) ?_
      refine lv_if_ne (tgt := 31) hx hb dX9_wrong_26 (by decide) (fun zc3 => ?_) (fun zc3 => ?_)
      · replace hm := (if_neg zc3).symm.trans hm
        refine lv_iload hx hb dX9_wrong_31 (lv_at hl 5 rfl) ?_
        refine lv_iconst (v := 1) hx hb dX9_wrong_33 (by decide) ?_
        refine lv_iload_n hx hb dX9_wrong_34 rfl (lv_at hl 3 rfl) ?_
        refine ko_e (va_runS (As := [.int p3]) (rest := [.int 1, .int p5]) ⟨hx, hb, hml, hown, htG⟩ (kX9_most l g p3 _ rfl) (va_cwS 1 htG (GS g4_32 g4_33 g1_10 g4_34) rfl rfl rfl hs_X9_most ⟨Nat.le_of_ble_eq_true rfl, Nat.le_of_ble_eq_true rfl⟩) (PR_S hK hL hS hP [] rfl) rfl rfl hl.1 rfl (lv_room (Nat.le_of_ble_eq_true rfl)) dX9_wrong_35 ⟨Nat.zero_le _, Nat.zero_le _⟩) ?_
        refine ko_e (va_runS (As := [.int p5, .int 1, .int (fX9_most p3)]) (rest := []) ⟨hx, hb, hml, hown, htG⟩ (kX9_in l g p5 1 (fX9_most p3) _ rfl) (va_cwS 3 htG (GS g4_1 g4_2 g1_10 g4_3) rfl rfl rfl hs_X9_in ⟨Nat.le_of_ble_eq_true rfl, Nat.le_of_ble_eq_true rfl⟩) (PR_S hK hL hS hP [] rfl) rfl rfl hl.1 rfl (lv_room (Nat.le_of_ble_eq_true rfl)) dX9_wrong_38 ⟨Nat.zero_le _, Nat.zero_le _⟩) ?_
        refine lv_if_eq (tgt := 56) hx hb dX9_wrong_41 (by decide) (fun zc4 => ?_) (fun zc4 => ?_)
        · replace hm := (if_pos zc4).symm.trans hm
          refine lv_bipush (v := (-2)) hx hb dX9_wrong_56 (by decide +kernel) ?_
          exact W.iret (v := (-2)) hx hb hr (fun t ht hW => ⟨_, rfl, (Option.some.inj hm), ht⟩) (fun _ h => nomatch h) dX9_wrong_58
        · replace hm := (if_neg zc4).symm.trans hm
          refine lv_iload hx hb dX9_wrong_44 (lv_at hl 6 rfl) ?_
          refine lv_iconst (v := 1) hx hb dX9_wrong_46 (by decide) ?_
          refine lv_sipush (v := 999) hx hb dX9_wrong_47 (by decide +kernel) ?_
          refine ko_e (va_runS (As := [.int p6, .int 1, .int 999]) (rest := []) ⟨hx, hb, hml, hown, htG⟩ (kX9_in l g p6 1 999 _ rfl) (va_cwS 3 htG (GS g4_1 g4_2 g1_10 g4_3) rfl rfl rfl hs_X9_in ⟨Nat.le_of_ble_eq_true rfl, Nat.le_of_ble_eq_true rfl⟩) (PR_S hK hL hS hP [] rfl) rfl rfl hl.1 rfl (lv_room (Nat.le_of_ble_eq_true rfl)) dX9_wrong_50 ⟨Nat.zero_le _, Nat.zero_le _⟩) ?_
          refine lv_if_ne (tgt := 59) hx hb dX9_wrong_53 (by decide) (fun zc5 => ?_) (fun zc5 => ?_)
          · replace hm := (if_neg zc5).symm.trans hm
            refine lv_iload_n hx hb dX9_wrong_59 rfl (lv_at hl 3 rfl) ?_
            refine lv_iload hx hb dX9_wrong_60 (lv_at hl 4 rfl) ?_
            refine ko_e (va_runS (As := [.int p3, .int p4]) (rest := []) ⟨hx, hb, hml, hown, htG⟩ (kX9_place l g p3 p4 _ rfl) (va_cwS 2 htG (GS g4_35 g4_36 g1_10 g4_37) rfl rfl rfl hs_X9_place ⟨Nat.le_of_ble_eq_true rfl, Nat.le_of_ble_eq_true rfl⟩) (PR_S hK hL hS hP [] rfl) rfl rfl hl.1 rfl (lv_room (Nat.le_of_ble_eq_true rfl)) dX9_wrong_62 ⟨Nat.zero_le _, Nat.zero_le _⟩) ?_
            refine lv_istore (lv' := [(7, .int (fX9_place p3 p4)), (0, .ref h0), (1, .int p1), (2, .int p2), (3, .int p3), (4, .int p4), (5, .int p5), (6, .int p6)]) hx hb dX9_wrong_65 hl (by decide) rfl (fun ls hl => ?_)
            refine lv_aload_n hx hb dX9_wrong_67 rfl (lv_at hl 1 rfl) ?_
            refine lv_iload_n hx hb dX9_wrong_68 rfl (lv_at hl 2 rfl) ?_
            refine lv_iload hx hb dX9_wrong_69 (lv_at hl 5 rfl) ?_
            obtain ⟨zq6, hzq6, hm⟩ := bdk hm
            refine ko_e (va_runV (As := [.int p1, .int p4]) (rest := []) ⟨hx, hb, hml, hown, htG⟩ (kX9_isDone l g h0 h1 h2 h3 x p1 p4 _ hzq6) (cwV 2 htG (GV g4_4 g4_6 gS_12 g1_10 g4_7) rfl rfl rfl hd_X9_isDone ⟨Nat.le_of_ble_eq_true rfl, Nat.le_of_ble_eq_true rfl⟩) (PR_VA hK hL hS hP (ci := 8) rfl 0 rfl) rfl rfl hl.1 rfl (lv_room (Nat.le_of_ble_eq_true rfl)) dX9_wrong_71 ⟨Nat.zero_le _, Nat.zero_le _⟩) ?_
            refine lv_if_ne (tgt := 113) hx hb dX9_wrong_74 (by decide) (fun zc7 => ?_) (fun zc7 => ?_)
            · replace hm := (if_neg zc7).symm.trans hm
              refine lv_bipush (v := (-4)) hx hb dX9_wrong_113 (by decide +kernel) ?_
              exact W.iret (v := (-4)) hx hb hr (fun t ht hW => ⟨_, rfl, (Option.some.inj hm), ht⟩) (fun _ h => nomatch h) dX9_wrong_115
            · replace hm := (if_pos zc7).symm.trans hm
              refine lv_aload_n hx hb dX9_wrong_77 rfl (lv_at hl 1 rfl) ?_
              refine va_get (D := g.1) (ci := 8) (v := .ref h1) (C := RX9) (T := TX9) (N := 11) hx hb htG in_wsX90 hown hK.1 hP 0 rfl rfl 0 (by decide) (htG _ g3_195) (fun _ h9 => h9) rfl dX9_wrong_78 ?_
              refine lv_iload_n hx hb dX9_wrong_81 rfl (lv_at hl 2 rfl) ?_
              refine lv_bipush (v := 51) hx hb dX9_wrong_82 (by decide +kernel) ?_
              refine lv_iadd hx hb dX9_wrong_84 ?_
              refine lv_iload hx hb dX9_wrong_85 (lv_at hl 0 rfl) ?_
              refine lv_iadd hx hb dX9_wrong_87 ?_
              obtain ⟨zb8, hm⟩ := ibk hm
              refine va_iald hx hb hK.1 hP 1 0 rfl rfl zb8 dX9_wrong_88 ?_
              refine lv_if_ge (tgt := 113) hx hb dX9_wrong_89 (by decide) (fun zc9 => ?_) (fun zc9 => ?_)
              · replace hm := (if_pos zc9).symm.trans hm
                refine lv_bipush (v := (-4)) hx hb dX9_wrong_113 (by decide +kernel) ?_
                exact W.iret (v := (-4)) hx hb hr (fun t ht hW => ⟨_, rfl, (Option.some.inj hm), ht⟩) (fun _ h => nomatch h) dX9_wrong_115
              · replace hm := (if_neg zc9).symm.trans hm
                refine lv_aload_n hx hb dX9_wrong_92 rfl (lv_at hl 1 rfl) ?_
                refine va_get (D := g.1) (ci := 8) (v := .ref h1) (C := RX9) (T := TX9) (N := 11) hx hb htG in_wsX90 hown hK.1 hP 0 rfl rfl 0 (by decide) (htG _ g3_195) (fun _ h9 => h9) rfl dX9_wrong_93 ?_
                refine lv_iload_n hx hb dX9_wrong_96 rfl (lv_at hl 2 rfl) ?_
                refine lv_sipush (v := 531) hx hb dX9_wrong_97 (by decide +kernel) ?_
                refine lv_iadd hx hb dX9_wrong_100 ?_
                refine lv_bipush (v := 6) hx hb dX9_wrong_101 (by decide +kernel) ?_
                refine lv_iload hx hb dX9_wrong_103 (lv_at hl 0 rfl) ?_
                refine lv_imul hx hb dX9_wrong_105 ?_
                refine lv_iadd hx hb dX9_wrong_106 ?_
                refine lv_iload_n hx hb dX9_wrong_107 rfl (lv_at hl 3 rfl) ?_
                refine lv_iadd hx hb dX9_wrong_108 ?_
                obtain ⟨zb10, hm⟩ := ibk hm
                refine va_iald hx hb hK.1 hP 1 0 rfl rfl zb10 dX9_wrong_109 ?_
                refine lv_if_le (tgt := 116) hx hb dX9_wrong_110 (by decide) (fun zc11 => ?_) (fun zc11 => ?_)
                · replace hm := (if_pos zc11).symm.trans hm
                  refine lv_aload_n hx hb dX9_wrong_116 rfl (lv_at hl 1 rfl) ?_
                  refine va_get (D := g.1) (ci := 8) (v := .ref h1) (C := RX9) (T := TX9) (N := 11) hx hb htG in_wsX90 hown hK.1 hP 0 rfl rfl 0 (by decide) (htG _ g3_195) (fun _ h9 => h9) rfl dX9_wrong_117 ?_
                  refine lv_iload_n hx hb dX9_wrong_120 rfl (lv_at hl 2 rfl) ?_
                  refine lv_iconst (v := 2) hx hb dX9_wrong_121 (by decide) ?_
                  refine lv_iadd hx hb dX9_wrong_122 ?_
                  refine lv_iload_n hx hb dX9_wrong_123 rfl (lv_at hl 3 rfl) ?_
                  refine lv_iadd hx hb dX9_wrong_124 ?_
                  obtain ⟨zb12, hm⟩ := ibk hm
                  refine va_iald hx hb hK.1 hP 1 0 rfl rfl zb12 dX9_wrong_125 ?_
                  refine lv_aload_n hx hb dX9_wrong_126 rfl (lv_at hl 1 rfl) ?_
                  refine lv_iload_n hx hb dX9_wrong_127 rfl (lv_at hl 2 rfl) ?_
                  refine lv_iload_n hx hb dX9_wrong_128 rfl (lv_at hl 3 rfl) ?_
                  obtain ⟨zq13, hzq13, hm⟩ := bdk hm
                  refine ko_e (va_runV (As := [.int p1, .int p2]) (rest := [.int (x.1 (((p1 + 2) + p2).toNatClampNeg))]) ⟨hx, hb, hml, hown, htG⟩ (kX9_offered l g h0 h1 h2 h3 x p1 p2 _ hzq13) (cwV 2 htG (GV g4_38 g4_40 gS_17 g1_10 g4_41) rfl rfl rfl hd_X9_offered ⟨Nat.le_of_ble_eq_true rfl, Nat.le_of_ble_eq_true rfl⟩) (PR_VA hK hL hS hP (ci := 8) rfl 0 rfl) rfl rfl hl.1 rfl (lv_room (Nat.le_of_ble_eq_true rfl)) dX9_wrong_129 ⟨Nat.zero_le _, Nat.zero_le _⟩) ?_
                  refine lv_isub hx hb dX9_wrong_132 ?_
                  refine lv_iload hx hb dX9_wrong_133 (lv_at hl 7 rfl) ?_
                  refine lv_icmp_ge (tgt := 141) hx hb dX9_wrong_135 (by decide) (fun zc14 => ?_) (fun zc14 => ?_)
                  · replace hm := (if_pos zc14).symm.trans hm
                    refine lv_aload_n hx hb dX9_wrong_141 rfl (lv_at hl 1 rfl) ?_
                    refine lv_iload_n hx hb dX9_wrong_142 rfl (lv_at hl 2 rfl) ?_
                    obtain ⟨zq15, hzq15, hm⟩ := bdk hm
                    refine ko_e (va_runV (As := [.int p1]) (rest := []) ⟨hx, hb, hml, hown, htG⟩ (kX9_bids l g h0 h1 h2 h3 x p1 _ hzq15) (cwV 1 htG (GV g4_42 g4_44 gS_18 g1_10 g4_45) rfl rfl rfl hd_X9_bids ⟨Nat.le_of_ble_eq_true rfl, Nat.le_of_ble_eq_true rfl⟩) (PR_VA hK hL hS hP (ci := 8) rfl 0 rfl) rfl rfl hl.1 rfl (lv_room (Nat.le_of_ble_eq_true rfl)) dX9_wrong_143 ⟨Nat.zero_le _, Nat.zero_le _⟩) ?_
                    refine lv_bipush (v := 60) hx hb dX9_wrong_146 (by decide +kernel) ?_
                    refine lv_icmp_ne (tgt := 156) hx hb dX9_wrong_148 (by decide) (fun zc16 => ?_) (fun zc16 => ?_)
                    · replace hm := (if_neg zc16).symm.trans hm
                      refine lv_iconst (v := 0) hx hb dX9_wrong_156 (by decide) ?_
                      exact W.iret (v := 0) hx hb hr (fun t ht hW => ⟨_, rfl, (Option.some.inj hm), ht⟩) (fun _ h => nomatch h) dX9_wrong_157
                    · replace hm := (if_pos zc16).symm.trans hm
                      refine lv_bipush (v := (-3)) hx hb dX9_wrong_151 (by decide +kernel) ?_
                      refine lv_goto (tgt := 157) hx hb dX9_wrong_153 (by decide) ?_
                      exact W.iret (v := (-3)) hx hb hr (fun t ht hW => ⟨_, rfl, (Option.some.inj hm), ht⟩) (fun _ h => nomatch h) dX9_wrong_157
                  · replace hm := (if_neg zc14).symm.trans hm
                    refine lv_bipush (v := (-6)) hx hb dX9_wrong_138 (by decide +kernel) ?_
                    exact W.iret (v := (-6)) hx hb hr (fun t ht hW => ⟨_, rfl, (Option.some.inj hm), ht⟩) (fun _ h => nomatch h) dX9_wrong_140
                · replace hm := (if_neg zc11).symm.trans hm
                  refine lv_bipush (v := (-4)) hx hb dX9_wrong_113 (by decide +kernel) ?_
                  exact W.iret (v := (-4)) hx hb hr (fun t ht hW => ⟨_, rfl, (Option.some.inj hm), ht⟩) (fun _ h => nomatch h) dX9_wrong_115
          · replace hm := (if_pos zc5).symm.trans hm
            refine lv_bipush (v := (-2)) hx hb dX9_wrong_56 (by decide +kernel) ?_
            exact W.iret (v := (-2)) hx hb hr (fun t ht hW => ⟨_, rfl, (Option.some.inj hm), ht⟩) (fun _ h => nomatch h) dX9_wrong_58
      · replace hm := (if_pos zc3).symm.trans hm
        refine lv_iconst (v := (-1)) hx hb dX9_wrong_29 (by decide) ?_
        exact W.iret (v := (-1)) hx hb hr (fun t ht hW => ⟨_, rfl, (Option.some.inj hm), ht⟩) (fun _ h => nomatch h) dX9_wrong_30
def fX9_bidsBy (x : MD) (p1 : Int32) (p2 : Int32) (p3 : Int32) (p4 : Int32) (p5 : Int32) (p6 : Int32) : Option (Int32 × MD) := ((fX9_wrong x (835 * p1) p2 p3 p4 p5 p6).bind (fun zq1 => (if 0 ≤ zq1 then (if ib ((((835 * p1) + 243) + (6 * (fX9_place p3 p4))) + p2) 5845 = true then (bnd (upd x.1 ((((835 * p1) + 243) + (6 * (fX9_place p3 p4))) + p2).toNatClampNeg p5) (fun zf4 => (if ib ((((835 * p1) + 531) + (6 * (fX9_place p3 p4))) + p2) 5845 = true then (bnd (upd zf4 ((((835 * p1) + 531) + (6 * (fX9_place p3 p4))) + p2).toNatClampNeg p6) (fun zf6 => ((fX9_bidsFor (zf6, x.2.1, x.2.2.1, x.2.2.2.1, x.2.2.2.2.1, x.2.2.2.2.2.1, x.2.2.2.2.2.2.1, x.2.2.2.2.2.2.2.1, x.2.2.2.2.2.2.2.2.1, x.2.2.2.2.2.2.2.2.2.1, x.2.2.2.2.2.2.2.2.2.2) (835 * p1) (fX9_place p3 p4)).bind (fun zq7 => some (zq7, (zf6, x.2.1, x.2.2.1, x.2.2.2.1, x.2.2.2.2.1, x.2.2.2.2.2.1, x.2.2.2.2.2.2.1, x.2.2.2.2.2.2.2.1, x.2.2.2.2.2.2.2.2.1, x.2.2.2.2.2.2.2.2.2.1, x.2.2.2.2.2.2.2.2.2.2)))))) else none))) else none) else some (zq1, x))))
abbrev rm_X9_bidsBy : Jvm.Room := { frames := 3, cells := 0, slots := 0, locals := 74 }
theorem hd_X9_bidsBy : yX9_bidsBy.cls = RX9 ∧ yX9_bidsBy.cls ≠ "java/lang/invoke/MethodHandle" ∧ yX9_bidsBy.cls ≠ "java/lang/invoke/VarHandle" ∧ (parseMethodDescriptor yX9_bidsBy.desc).map (fun d => d.parameters.length) = some 6 := by decide +kernel
set_option maxHeartbeats 4000000 in
set_option maxRecDepth 100000 in
theorem kX9_bidsBy (l : Launch) (g : CX) (h0 h1 h2 h3 : Nat) (sz : Nat) (x : MD) (p1 : Int32) (p2 : Int32) (p3 : Int32) (p4 : Int32) (p5 : Int32) (p6 : Int32) (res : Int32 × MD) (hm0 : fX9_bidsBy x p1 p2 p3 p4 p5 p6 = some res) : Met l yX9_bidsBy (wg yX9_bidsBy cX9_bidsBy 10 (some .int)) rm_X9_bidsBy (PW g [.ref h0, .int p1, .int p2, .int p3, .int p4, .int p5, .int p6] sz (w_X9 g h0 h1 h2 h3 x)) (va_Qi (fun v u => v = res.1 ∧ u = res.2) (fun u t => va_P g.1 vwCl (w_X9 g h0 h1 h2 h3 u) t.heap) (va_A (w_X9 g h0 h1 h2 h3 x) sz)) 0 0 (va_A (w_X9 g h0 h1 h2 h3 x) sz) := by
  refine Met.ofW (cc := cX9_bidsBy) (maxL := 10) (ret := (some .int)) (by decide) rfl ?_
  intro p e s m args below meth c s₁ B hml hv
  obtain ⟨rfl, hsz, hP, hK, hD0, hL⟩ := hv
  have hx := B.exec
  have hb := B.bytes
  have hr := B.returns
  have htG := wg_G (atoms_spec (ws := wg yX9_bidsBy cX9_bidsBy 10 (some .int)) B.pre)
  have hown : s.vm.findClass RX9 = some m.cls := findClass_of_methodNamed B.named
  have hlocks := B.notSynchronized
  subst hsz
  have hD := hD0.self (sz := s.heap.size)
  generalize hAe : va_A (w_X9 g h0 h1 h2 h3 x) s.heap.size = A at hD hL ⊢
  have hA : ∀ q : Nat, s.heap.size ≤ q → A q := fun q h => by rw [← hAe]; exact Or.inr h
  have hS : va_S A s.heap s.heap [] := va_S.rf
  have hl := lv_entry ([.ref h0, .int p1, .int p2, .int p3, .int p4, .int p5, .int p6]) (n := 10) (Nat.le_of_ble_eq_true rfl)
  rw [lg_entry_eq]
  generalize (lg_sl ([.ref h0, .int p1, .int p2, .int p3, .int p4, .int p5, .int p6]) ++ List.replicate (10 - (lg_sl ([.ref h0, .int p1, .int p2, .int p3, .int p4, .int p5, .int p6])).length) Slot.unset).toArray = ls at hl ⊢
  have hl : lv_has ls 10 [(0, .ref h0), (1, .int p1), (2, .int p2), (3, .int p3), (4, .int p4), (5, .int p5), (6, .int p6)] := hl
  have hm := hm0
  unfold fX9_bidsBy at hm
  refine lv_sipush (v := 835) hx hb dX9_bidsBy_0 (by decide +kernel) ?_
  refine lv_iload_n hx hb dX9_bidsBy_3 rfl (lv_at hl 1 rfl) ?_
  refine lv_imul hx hb dX9_bidsBy_4 ?_
  refine lv_istore (lv' := [(7, .int (835 * p1)), (0, .ref h0), (1, .int p1), (2, .int p2), (3, .int p3), (4, .int p4), (5, .int p5), (6, .int p6)]) hx hb dX9_bidsBy_5 hl (by decide) rfl (fun ls hl => ?_)
  refine lv_aload_n hx hb dX9_bidsBy_7 rfl (lv_at hl 1 rfl) ?_
  refine lv_iload hx hb dX9_bidsBy_8 (lv_at hl 0 rfl) ?_
  refine lv_iload_n hx hb dX9_bidsBy_10 rfl (lv_at hl 3 rfl) ?_
  refine lv_iload_n hx hb dX9_bidsBy_11 rfl (lv_at hl 4 rfl) ?_
  refine lv_iload hx hb dX9_bidsBy_12 (lv_at hl 5 rfl) ?_
  refine lv_iload hx hb dX9_bidsBy_14 (lv_at hl 6 rfl) ?_
  refine lv_iload hx hb dX9_bidsBy_16 (lv_at hl 7 rfl) ?_
  obtain ⟨zq1, hzq1, hm⟩ := bdk hm
  refine ko_e (va_runV (As := [.int (835 * p1), .int p2, .int p3, .int p4, .int p5, .int p6]) (rest := []) ⟨hx, hb, hml, hown, htG⟩ (kX9_wrong l g h0 h1 h2 h3 x (835 * p1) p2 p3 p4 p5 p6 _ hzq1) (cwV 6 htG (GV g4_28 g4_30 gS_16 g1_10 g4_31) rfl rfl rfl hd_X9_wrong ⟨Nat.le_of_ble_eq_true rfl, Nat.le_of_ble_eq_true rfl⟩) (PR_VA hK hL hS hP (ci := 8) rfl 0 rfl) rfl rfl hl.1 rfl (lv_room (Nat.le_of_ble_eq_true rfl)) dX9_bidsBy_18 ⟨Nat.zero_le _, Nat.zero_le _⟩) ?_
  refine lv_istore (lv' := [(8, .int zq1), (7, .int (835 * p1)), (0, .ref h0), (1, .int p1), (2, .int p2), (3, .int p3), (4, .int p4), (5, .int p5), (6, .int p6)]) hx hb dX9_bidsBy_21 hl (by decide) rfl (fun ls hl => ?_)
  refine lv_iload hx hb dX9_bidsBy_23 (lv_at hl 0 rfl) ?_
  refine lv_if_ge (tgt := 31) hx hb dX9_bidsBy_25 (by decide) (fun zc2 => ?_) (fun zc2 => ?_)
  · replace hm := (if_pos zc2).symm.trans hm
    refine lv_iload_n hx hb dX9_bidsBy_31 rfl (lv_at hl 5 rfl) ?_
    refine lv_iload hx hb dX9_bidsBy_32 (lv_at hl 6 rfl) ?_
    refine ko_e (va_runS (As := [.int p3, .int p4]) (rest := []) ⟨hx, hb, hml, hown, htG⟩ (kX9_place l g p3 p4 _ rfl) (va_cwS 2 htG (GS g4_35 g4_36 g1_10 g4_37) rfl rfl rfl hs_X9_place ⟨Nat.le_of_ble_eq_true rfl, Nat.le_of_ble_eq_true rfl⟩) (PR_S hK hL hS hP [] rfl) rfl rfl hl.1 rfl (lv_room (Nat.le_of_ble_eq_true rfl)) dX9_bidsBy_34 ⟨Nat.zero_le _, Nat.zero_le _⟩) ?_
    refine lv_istore (lv' := [(9, .int (fX9_place p3 p4)), (8, .int zq1), (7, .int (835 * p1)), (0, .ref h0), (1, .int p1), (2, .int p2), (3, .int p3), (4, .int p4), (5, .int p5), (6, .int p6)]) hx hb dX9_bidsBy_37 hl (by decide) rfl (fun ls hl => ?_)
    refine lv_aload_n hx hb dX9_bidsBy_39 rfl (lv_at hl 3 rfl) ?_
    refine va_get (D := g.1) (ci := 8) (v := .ref h1) (C := RX9) (T := TX9) (N := 11) hx hb htG in_wsX90 hown hK.1 hP 0 rfl rfl 0 (by decide) (htG _ g3_195) (fun _ h9 => h9) rfl dX9_bidsBy_40 ?_
    refine lv_iload hx hb dX9_bidsBy_43 (lv_at hl 2 rfl) ?_
    refine lv_sipush (v := 243) hx hb dX9_bidsBy_45 (by decide +kernel) ?_
    refine lv_iadd hx hb dX9_bidsBy_48 ?_
    refine lv_bipush (v := 6) hx hb dX9_bidsBy_49 (by decide +kernel) ?_
    refine lv_iload hx hb dX9_bidsBy_51 (lv_at hl 0 rfl) ?_
    refine lv_imul hx hb dX9_bidsBy_53 ?_
    refine lv_iadd hx hb dX9_bidsBy_54 ?_
    refine lv_iload_n hx hb dX9_bidsBy_55 rfl (lv_at hl 5 rfl) ?_
    refine lv_iadd hx hb dX9_bidsBy_56 ?_
    refine lv_iload hx hb dX9_bidsBy_57 (lv_at hl 8 rfl) ?_
    obtain ⟨zb3, hm⟩ := ibk hm
    obtain ⟨zf4, ezf4, hm⟩ := bnk hm
    refine iast_e hx hb hK.1 hP hD hS 1 0 rfl rfl zb3 dX9_bidsBy_59 ezf4 (fun H locs hP hD hS => ?_)
    have hP : va_P g.1 vwCl (w_X9 g h0 h1 h2 h3 (zf4, x.2.1, x.2.2.1, x.2.2.2.1, x.2.2.2.2.1, x.2.2.2.2.2.1, x.2.2.2.2.2.2.1, x.2.2.2.2.2.2.2.1, x.2.2.2.2.2.2.2.2.1, x.2.2.2.2.2.2.2.2.2.1, x.2.2.2.2.2.2.2.2.2.2)) H := hP
    have hD : va_D A (w_X9 g h0 h1 h2 h3 (zf4, x.2.1, x.2.2.1, x.2.2.2.1, x.2.2.2.2.1, x.2.2.2.2.2.1, x.2.2.2.2.2.2.1, x.2.2.2.2.2.2.2.1, x.2.2.2.2.2.2.2.2.1, x.2.2.2.2.2.2.2.2.2.1, x.2.2.2.2.2.2.2.2.2.2)) := hD
    refine lv_aload_n hx hb dX9_bidsBy_60 rfl (lv_at hl 3 rfl) ?_
    refine va_get (D := g.1) (ci := 8) (v := .ref h1) (C := RX9) (T := TX9) (N := 11) hx hb htG in_wsX90 hown hK.1 hP 0 rfl rfl 0 (by decide) (htG _ g3_195) (fun _ h9 => h9) rfl dX9_bidsBy_61 ?_
    refine lv_iload hx hb dX9_bidsBy_64 (lv_at hl 2 rfl) ?_
    refine lv_sipush (v := 531) hx hb dX9_bidsBy_66 (by decide +kernel) ?_
    refine lv_iadd hx hb dX9_bidsBy_69 ?_
    refine lv_bipush (v := 6) hx hb dX9_bidsBy_70 (by decide +kernel) ?_
    refine lv_iload hx hb dX9_bidsBy_72 (lv_at hl 0 rfl) ?_
    refine lv_imul hx hb dX9_bidsBy_74 ?_
    refine lv_iadd hx hb dX9_bidsBy_75 ?_
    refine lv_iload_n hx hb dX9_bidsBy_76 rfl (lv_at hl 5 rfl) ?_
    refine lv_iadd hx hb dX9_bidsBy_77 ?_
    refine lv_iload hx hb dX9_bidsBy_78 (lv_at hl 9 rfl) ?_
    obtain ⟨zb5, hm⟩ := ibk hm
    obtain ⟨zf6, ezf6, hm⟩ := bnk hm
    refine iast_e hx hb hK.1 hP hD hS 1 0 rfl rfl zb5 dX9_bidsBy_80 ezf6 (fun H locs hP hD hS => ?_)
    have hP : va_P g.1 vwCl (w_X9 g h0 h1 h2 h3 (zf6, x.2.1, x.2.2.1, x.2.2.2.1, x.2.2.2.2.1, x.2.2.2.2.2.1, x.2.2.2.2.2.2.1, x.2.2.2.2.2.2.2.1, x.2.2.2.2.2.2.2.2.1, x.2.2.2.2.2.2.2.2.2.1, x.2.2.2.2.2.2.2.2.2.2)) H := hP
    have hD : va_D A (w_X9 g h0 h1 h2 h3 (zf6, x.2.1, x.2.2.1, x.2.2.2.1, x.2.2.2.2.1, x.2.2.2.2.2.1, x.2.2.2.2.2.2.1, x.2.2.2.2.2.2.2.1, x.2.2.2.2.2.2.2.2.1, x.2.2.2.2.2.2.2.2.2.1, x.2.2.2.2.2.2.2.2.2.2)) := hD
    refine lv_aload_n hx hb dX9_bidsBy_81 rfl (lv_at hl 3 rfl) ?_
    refine lv_iload hx hb dX9_bidsBy_82 (lv_at hl 2 rfl) ?_
    refine lv_iload hx hb dX9_bidsBy_84 (lv_at hl 0 rfl) ?_
    obtain ⟨zq7, hzq7, hm⟩ := bdk hm
    refine ko_e (va_runV (As := [.int (835 * p1), .int (fX9_place p3 p4)]) (rest := []) ⟨hx, hb, hml, hown, htG⟩ (kX9_bidsFor l g h0 h1 h2 h3 (zf6, x.2.1, x.2.2.1, x.2.2.2.1, x.2.2.2.2.1, x.2.2.2.2.2.1, x.2.2.2.2.2.2.1, x.2.2.2.2.2.2.2.1, x.2.2.2.2.2.2.2.2.1, x.2.2.2.2.2.2.2.2.2.1, x.2.2.2.2.2.2.2.2.2.2) (835 * p1) (fX9_place p3 p4) _ hzq7) (cwV 2 htG (GV g4_46 g4_48 gS_19 g1_10 g4_49) rfl rfl rfl hd_X9_bidsFor ⟨Nat.le_of_ble_eq_true rfl, Nat.le_of_ble_eq_true rfl⟩) (PR_VA hK hL hS hP (ci := 8) rfl 0 rfl) rfl rfl hl.1 rfl (lv_room (Nat.le_of_ble_eq_true rfl)) dX9_bidsBy_86 ⟨Nat.zero_le _, Nat.zero_le _⟩) ?_
    exact W.iret (v := zq7) hx hb hr (fun t ht hW => ⟨⟨_, _, rfl, pr1 (Option.some.inj hm), atH ht hP⟩, hS.F ht⟩) hS.2.2 dX9_bidsBy_89
  · replace hm := (if_neg zc2).symm.trans hm
    refine lv_iload hx hb dX9_bidsBy_28 (lv_at hl 0 rfl) ?_
    exact W.iret (v := zq1) hx hb hr (fun t ht hW => ⟨⟨_, _, rfl, pr1 (Option.some.inj hm), atH ht hP⟩, hS.F ht⟩) hS.2.2 dX9_bidsBy_30
