def fX9_goesOn (x : MD) (p1 : Int32) (p2 : Int32) (p3 : Int32) (p4 : Int32) : Option (MD) := (if ib ((p1 + 51) + p2) 5845 = true then (bnd (x.1 (((p1 + 51) + p2).toNatClampNeg)) (fun zv2 => (if 0 ≤ zv2 then (if ib ((p1 + 99) + p2) 5845 = true then (if (fX9_bears (x.1 (((p1 + 99) + p2).toNatClampNeg)) p3) = 0 then (if ib ((p1 + 195) + p2) 5845 = true then (bnd (upd x.1 ((p1 + 195) + p2).toNatClampNeg 3) (fun zf7 => (if ib (((p1 + 27) + 3) - 1) 5845 = true then (bnd (upd zf7 (((p1 + 27) + 3) - 1).toNatClampNeg ((zf7 ((((p1 + 27) + 3) - 1).toNatClampNeg)) + 1)) (fun zf10 => (if ib ((p1 + 147) + p2) 5845 = true then (bnd (zf10 (((p1 + 147) + p2).toNatClampNeg)) (fun zv13 => (if ib ((p1 + 2) + zv2) 5845 = true then (bnd (upd zf10 ((p1 + 2) + zv2).toNatClampNeg ((zf10 (((p1 + 2) + zv2).toNatClampNeg)) + zv13)) (fun zf15 => (if ib ((p1 + 14) + zv2) 5845 = true then (bnd (upd zf15 ((p1 + 14) + zv2).toNatClampNeg ((zf15 (((p1 + 14) + zv2).toNatClampNeg)) - zv13)) (fun zf17 => (if ib (p1 + 30) 5845 = true then (bnd (upd zf17 (p1 + 30).toNatClampNeg ((zf17 ((p1 + 30).toNatClampNeg)) - zv13)) (fun zf19 => (if ib (p1 + 31) 5845 = true then (bnd (upd zf19 (p1 + 31).toNatClampNeg ((zf19 ((p1 + 31).toNatClampNeg)) + zv13)) (fun zf21 => some (zf21, x.2.1, x.2.2.1, x.2.2.2.1, x.2.2.2.2.1, x.2.2.2.2.2.1, x.2.2.2.2.2.2.1, x.2.2.2.2.2.2.2.1, x.2.2.2.2.2.2.2.2.1, x.2.2.2.2.2.2.2.2.2.1, x.2.2.2.2.2.2.2.2.2.2))) else none))) else none))) else none))) else none))) else none))) else none))) else none) else (if ib ((p1 + 195) + p2) 5845 = true then (bnd (upd x.1 ((p1 + 195) + p2).toNatClampNeg 0) (fun zf23 => (if ib (p1 + 26) 5845 = true then (bnd (upd zf23 (p1 + 26).toNatClampNeg ((zf23 ((p1 + 26).toNatClampNeg)) + 1)) (fun zf26 => (if ib ((p1 + 8) + zv2) 5845 = true then (bnd (upd zf26 ((p1 + 8) + zv2).toNatClampNeg ((zf26 (((p1 + 8) + zv2).toNatClampNeg)) + 1)) (fun zf28 => (if ib (p1 + 34) 5845 = true then (bnd (upd zf28 (p1 + 34).toNatClampNeg ((zf28 ((p1 + 34).toNatClampNeg)) + (zf28 (((p1 + 99) + p2).toNatClampNeg)))) (fun zf30 => some (zf30, x.2.1, x.2.2.1, x.2.2.2.1, x.2.2.2.2.1, x.2.2.2.2.2.1, x.2.2.2.2.2.2.1, x.2.2.2.2.2.2.2.1, x.2.2.2.2.2.2.2.2.1, x.2.2.2.2.2.2.2.2.2.1, x.2.2.2.2.2.2.2.2.2.2))) else none))) else none))) else none))) else none)) else none) else (if p4 = 0 then (if ib ((p1 + 195) + p2) 5845 = true then (bnd (upd x.1 ((p1 + 195) + p2).toNatClampNeg 1) (fun zf40 => (if ib (((p1 + 27) + 1) - 1) 5845 = true then (bnd (upd zf40 (((p1 + 27) + 1) - 1).toNatClampNeg ((zf40 ((((p1 + 27) + 1) - 1).toNatClampNeg)) + 1)) (fun zf43 => some (zf43, x.2.1, x.2.2.1, x.2.2.2.1, x.2.2.2.2.1, x.2.2.2.2.2.1, x.2.2.2.2.2.2.1, x.2.2.2.2.2.2.2.1, x.2.2.2.2.2.2.2.2.1, x.2.2.2.2.2.2.2.2.2.1, x.2.2.2.2.2.2.2.2.2.2))) else none))) else none) else (if ib ((p1 + 195) + p2) 5845 = true then (bnd (upd x.1 ((p1 + 195) + p2).toNatClampNeg 2) (fun zf34 => (if ib (((p1 + 27) + 2) - 1) 5845 = true then (bnd (upd zf34 (((p1 + 27) + 2) - 1).toNatClampNeg ((zf34 ((((p1 + 27) + 2) - 1).toNatClampNeg)) + 1)) (fun zf37 => some (zf37, x.2.1, x.2.2.1, x.2.2.2.1, x.2.2.2.2.1, x.2.2.2.2.2.1, x.2.2.2.2.2.2.1, x.2.2.2.2.2.2.2.1, x.2.2.2.2.2.2.2.2.1, x.2.2.2.2.2.2.2.2.2.1, x.2.2.2.2.2.2.2.2.2.2))) else none))) else none))))) else none)
abbrev rm_X9_goesOn : Jvm.Room := { frames := 1, cells := 0, slots := 0, locals := 21 }
theorem hd_X9_goesOn : yX9_goesOn.cls = RX9 ∧ yX9_goesOn.cls ≠ "java/lang/invoke/MethodHandle" ∧ yX9_goesOn.cls ≠ "java/lang/invoke/VarHandle" ∧ (parseMethodDescriptor yX9_goesOn.desc).map (fun d => d.parameters.length) = some 4 := by decide +kernel
set_option maxHeartbeats 4000000 in
set_option maxRecDepth 100000 in
theorem kX9_goesOn (l : Launch) (g : CX) (h0 h1 h2 h3 : Nat) (sz : Nat) (x : MD) (p1 : Int32) (p2 : Int32) (p3 : Int32) (p4 : Int32) (res : MD) (hm0 : fX9_goesOn x p1 p2 p3 p4 = some res) : Met l yX9_goesOn (wg yX9_goesOn cX9_goesOn 8 none) rm_X9_goesOn (PW g [.ref h0, .int p1, .int p2, .int p3, .int p4] sz (w_X9 g h0 h1 h2 h3 x)) (va_Qv (fun u => u = res) (fun u t => va_P g.1 vwCl (w_X9 g h0 h1 h2 h3 u) t.heap) (va_A (w_X9 g h0 h1 h2 h3 x) sz)) 0 0 (va_A (w_X9 g h0 h1 h2 h3 x) sz) := by
  refine Met.ofW (cc := cX9_goesOn) (maxL := 8) (ret := none) (by decide) rfl ?_
  intro p e s m args below meth c s₁ B hml hv
  obtain ⟨rfl, hsz, hP, hK, hD0, hL⟩ := hv
  have hx := B.exec
  have hb := B.bytes
  have hr := B.returns
  have htG := wg_G (atoms_spec (ws := wg yX9_goesOn cX9_goesOn 8 none) B.pre)
  have hown : s.vm.findClass RX9 = some m.cls := findClass_of_methodNamed B.named
  have hlocks := B.notSynchronized
  subst hsz
  have hD := hD0.self (sz := s.heap.size)
  generalize hAe : va_A (w_X9 g h0 h1 h2 h3 x) s.heap.size = A at hD hL ⊢
  have hA : ∀ q : Nat, s.heap.size ≤ q → A q := fun q h => by rw [← hAe]; exact Or.inr h
  have hS : va_S A s.heap s.heap [] := va_S.rf
  have hl := lv_entry ([.ref h0, .int p1, .int p2, .int p3, .int p4]) (n := 8) (Nat.le_of_ble_eq_true rfl)
  rw [lg_entry_eq]
  generalize (lg_sl ([.ref h0, .int p1, .int p2, .int p3, .int p4]) ++ List.replicate (8 - (lg_sl ([.ref h0, .int p1, .int p2, .int p3, .int p4])).length) Slot.unset).toArray = ls at hl ⊢
  have hl : lv_has ls 8 [(0, .ref h0), (1, .int p1), (2, .int p2), (3, .int p3), (4, .int p4)] := hl
  have hm := hm0
  unfold fX9_goesOn at hm
  refine lv_aload_n hx hb dX9_goesOn_0 rfl (lv_at hl 0 rfl) ?_
  refine va_get (D := g.1) (ci := 8) (v := .ref h1) (C := RX9) (T := TX9) (N := 11) hx hb htG in_wsX90 hown hK.1 hP 0 rfl rfl 0 (by decide) (htG _ g3_195) (fun _ h9 => h9) rfl dX9_goesOn_1 ?_
  refine lv_iload_n hx hb dX9_goesOn_4 rfl (lv_at hl 1 rfl) ?_
  refine lv_bipush (v := 51) hx hb dX9_goesOn_5 (by decide +kernel) ?_
  refine lv_iadd hx hb dX9_goesOn_7 ?_
  refine lv_iload_n hx hb dX9_goesOn_8 rfl (lv_at hl 2 rfl) ?_
  refine lv_iadd hx hb dX9_goesOn_9 ?_
  obtain ⟨zb1, hm⟩ := ibk hm
  refine va_iald hx hb hK.1 hP 1 0 rfl rfl zb1 dX9_goesOn_10 ?_
  obtain ⟨zv2, ezv2, hm⟩ := bnk hm
  refine tope ezv2 ?_
  refine lv_istore (lv' := [(5, .int zv2), (0, .ref h0), (1, .int p1), (2, .int p2), (3, .int p3), (4, .int p4)]) hx hb dX9_goesOn_11 hl (by decide) rfl (fun ls hl => ?_)
  refine lv_iload hx hb dX9_goesOn_13 (lv_at hl 0 rfl) ?_
  refine lv_if_ge (tgt := 31) hx hb dX9_goesOn_15 (by decide) (fun zc3 => ?_) (fun zc3 => ?_)
  · replace hm := (if_pos zc3).symm.trans hm
    refine lv_aload_n hx hb dX9_goesOn_31 rfl (lv_at hl 1 rfl) ?_
    refine va_get (D := g.1) (ci := 8) (v := .ref h1) (C := RX9) (T := TX9) (N := 11) hx hb htG in_wsX90 hown hK.1 hP 0 rfl rfl 0 (by decide) (htG _ g3_195) (fun _ h9 => h9) rfl dX9_goesOn_32 ?_
    refine lv_iload_n hx hb dX9_goesOn_35 rfl (lv_at hl 2 rfl) ?_
    refine lv_bipush (v := 99) hx hb dX9_goesOn_36 (by decide +kernel) ?_
    refine lv_iadd hx hb dX9_goesOn_38 ?_
    refine lv_iload_n hx hb dX9_goesOn_39 rfl (lv_at hl 3 rfl) ?_
    refine lv_iadd hx hb dX9_goesOn_40 ?_
    obtain ⟨zb4, hm⟩ := ibk hm
    refine va_iald hx hb hK.1 hP 1 0 rfl rfl zb4 dX9_goesOn_41 ?_
    refine lv_iload_n hx hb dX9_goesOn_42 rfl (lv_at hl 4 rfl) ?_
    refine ko_e (va_runS (As := [.int (x.1 (((p1 + 99) + p2).toNatClampNeg)), .int p3]) (rest := []) ⟨hx, hb, hml, hown, htG⟩ (kX9_bears l g (x.1 (((p1 + 99) + p2).toNatClampNeg)) p3 _ rfl) (va_cwS 2 htG (GS g4_69 g4_70 g1_10 g4_71) rfl rfl rfl hs_X9_bears ⟨Nat.le_of_ble_eq_true rfl, Nat.le_of_ble_eq_true rfl⟩) (PR_S hK hL hS hP [] rfl) rfl rfl hl.1 rfl (lv_room (Nat.le_of_ble_eq_true rfl)) dX9_goesOn_43 ⟨Nat.zero_le _, Nat.zero_le _⟩) ?_
    refine lv_if_eq (tgt := 53) hx hb dX9_goesOn_46 (by decide) (fun zc5 => ?_) (fun zc5 => ?_)
    · replace hm := (if_pos zc5).symm.trans hm
      refine lv_iconst (v := 3) hx hb dX9_goesOn_53 (by decide) ?_
      refine lv_istore (lv' := [(6, .int 3), (5, .int zv2), (0, .ref h0), (1, .int p1), (2, .int p2), (3, .int p3), (4, .int p4)]) hx hb dX9_goesOn_54 hl (by decide) rfl (fun ls hl => ?_)
      refine lv_aload_n hx hb dX9_goesOn_56 rfl (lv_at hl 2 rfl) ?_
      refine va_get (D := g.1) (ci := 8) (v := .ref h1) (C := RX9) (T := TX9) (N := 11) hx hb htG in_wsX90 hown hK.1 hP 0 rfl rfl 0 (by decide) (htG _ g3_195) (fun _ h9 => h9) rfl dX9_goesOn_57 ?_
      refine lv_iload_n hx hb dX9_goesOn_60 rfl (lv_at hl 3 rfl) ?_
      refine lv_sipush (v := 195) hx hb dX9_goesOn_61 (by decide +kernel) ?_
      refine lv_iadd hx hb dX9_goesOn_64 ?_
      refine lv_iload_n hx hb dX9_goesOn_65 rfl (lv_at hl 4 rfl) ?_
      refine lv_iadd hx hb dX9_goesOn_66 ?_
      refine lv_iload hx hb dX9_goesOn_67 (lv_at hl 0 rfl) ?_
      obtain ⟨zb6, hm⟩ := ibk hm
      obtain ⟨zf7, ezf7, hm⟩ := bnk hm
      refine iast_e hx hb hK.1 hP hD hS 1 0 rfl rfl zb6 dX9_goesOn_69 ezf7 (fun H locs hP hD hS => ?_)
      have hP : va_P g.1 vwCl (w_X9 g h0 h1 h2 h3 (zf7, x.2.1, x.2.2.1, x.2.2.2.1, x.2.2.2.2.1, x.2.2.2.2.2.1, x.2.2.2.2.2.2.1, x.2.2.2.2.2.2.2.1, x.2.2.2.2.2.2.2.2.1, x.2.2.2.2.2.2.2.2.2.1, x.2.2.2.2.2.2.2.2.2.2)) H := hP
      have hD : va_D A (w_X9 g h0 h1 h2 h3 (zf7, x.2.1, x.2.2.1, x.2.2.2.1, x.2.2.2.2.1, x.2.2.2.2.2.1, x.2.2.2.2.2.2.1, x.2.2.2.2.2.2.2.1, x.2.2.2.2.2.2.2.2.1, x.2.2.2.2.2.2.2.2.2.1, x.2.2.2.2.2.2.2.2.2.2)) := hD
      refine lv_iload hx hb dX9_goesOn_70 (lv_at hl 0 rfl) ?_
      refine lv_if_ne (tgt := 130) hx hb dX9_goesOn_72 (by decide) (fun _ => ?_) (fun zc8 => absurd zc8 (by decide))
      refine lv_aload_n hx hb dX9_goesOn_130 rfl (lv_at hl 2 rfl) ?_
      refine va_get (D := g.1) (ci := 8) (v := .ref h1) (C := RX9) (T := TX9) (N := 11) hx hb htG in_wsX90 hown hK.1 hP 0 rfl rfl 0 (by decide) (htG _ g3_195) (fun _ h9 => h9) rfl dX9_goesOn_131 ?_
      refine lv_iload_n hx hb dX9_goesOn_134 rfl (lv_at hl 3 rfl) ?_
      refine lv_bipush (v := 27) hx hb dX9_goesOn_135 (by decide +kernel) ?_
      refine lv_iadd hx hb dX9_goesOn_137 ?_
      refine lv_iload hx hb dX9_goesOn_138 (lv_at hl 0 rfl) ?_
      refine lv_iadd hx hb dX9_goesOn_140 ?_
      refine lv_iconst (v := 1) hx hb dX9_goesOn_141 (by decide) ?_
      refine lv_isub hx hb dX9_goesOn_142 ?_
      refine lv_dup2_11 hx hb dX9_goesOn_143 rfl rfl ?_
      obtain ⟨zb9, hm⟩ := ibk hm
      refine va_iald hx hb hK.1 hP 1 0 rfl rfl zb9 dX9_goesOn_144 ?_
      refine lv_iconst (v := 1) hx hb dX9_goesOn_145 (by decide) ?_
      refine lv_iadd hx hb dX9_goesOn_146 ?_
      obtain ⟨zf10, ezf10, hm⟩ := bnk hm
      refine iast_e hx hb hK.1 hP hD hS 1 0 rfl rfl zb9 dX9_goesOn_147 ezf10 (fun H locs hP hD hS => ?_)
      have hP : va_P g.1 vwCl (w_X9 g h0 h1 h2 h3 (zf10, x.2.1, x.2.2.1, x.2.2.2.1, x.2.2.2.2.1, x.2.2.2.2.2.1, x.2.2.2.2.2.2.1, x.2.2.2.2.2.2.2.1, x.2.2.2.2.2.2.2.2.1, x.2.2.2.2.2.2.2.2.2.1, x.2.2.2.2.2.2.2.2.2.2)) H := hP
      have hD : va_D A (w_X9 g h0 h1 h2 h3 (zf10, x.2.1, x.2.2.1, x.2.2.2.1, x.2.2.2.2.1, x.2.2.2.2.2.1, x.2.2.2.2.2.2.1, x.2.2.2.2.2.2.2.1, x.2.2.2.2.2.2.2.2.1, x.2.2.2.2.2.2.2.2.2.1, x.2.2.2.2.2.2.2.2.2.2)) := hD
      refine lv_iload hx hb dX9_goesOn_148 (lv_at hl 0 rfl) ?_
      refine lv_iconst (v := 3) hx hb dX9_goesOn_150 (by decide) ?_
      refine lv_icmp_ne (tgt := 229) hx hb dX9_goesOn_151 (by decide) (fun zc11 => absurd zc11 (by decide)) (fun _ => ?_)
      refine lv_aload_n hx hb dX9_goesOn_154 rfl (lv_at hl 2 rfl) ?_
      refine va_get (D := g.1) (ci := 8) (v := .ref h1) (C := RX9) (T := TX9) (N := 11) hx hb htG in_wsX90 hown hK.1 hP 0 rfl rfl 0 (by decide) (htG _ g3_195) (fun _ h9 => h9) rfl dX9_goesOn_155 ?_
      refine lv_iload_n hx hb dX9_goesOn_158 rfl (lv_at hl 3 rfl) ?_
      refine lv_sipush (v := 147) hx hb dX9_goesOn_159 (by decide +kernel) ?_
      refine lv_iadd hx hb dX9_goesOn_162 ?_
      refine lv_iload_n hx hb dX9_goesOn_163 rfl (lv_at hl 4 rfl) ?_
      refine lv_iadd hx hb dX9_goesOn_164 ?_
      obtain ⟨zb12, hm⟩ := ibk hm
      refine va_iald hx hb hK.1 hP 1 0 rfl rfl zb12 dX9_goesOn_165 ?_
      obtain ⟨zv13, ezv13, hm⟩ := bnk hm
      refine tope ezv13 ?_
      refine lv_istore (lv' := [(7, .int zv13), (6, .int 3), (5, .int zv2), (0, .ref h0), (1, .int p1), (2, .int p2), (3, .int p3), (4, .int p4)]) hx hb dX9_goesOn_166 hl (by decide) rfl (fun ls hl => ?_)
      refine lv_aload_n hx hb dX9_goesOn_168 rfl (lv_at hl 3 rfl) ?_
      refine va_get (D := g.1) (ci := 8) (v := .ref h1) (C := RX9) (T := TX9) (N := 11) hx hb htG in_wsX90 hown hK.1 hP 0 rfl rfl 0 (by decide) (htG _ g3_195) (fun _ h9 => h9) rfl dX9_goesOn_169 ?_
      refine lv_iload_n hx hb dX9_goesOn_172 rfl (lv_at hl 4 rfl) ?_
      refine lv_iconst (v := 2) hx hb dX9_goesOn_173 (by decide) ?_
      refine lv_iadd hx hb dX9_goesOn_174 ?_
      refine lv_iload hx hb dX9_goesOn_175 (lv_at hl 2 rfl) ?_
      refine lv_iadd hx hb dX9_goesOn_177 ?_
      refine lv_dup2_11 hx hb dX9_goesOn_178 rfl rfl ?_
      obtain ⟨zb14, hm⟩ := ibk hm
      refine va_iald hx hb hK.1 hP 1 0 rfl rfl zb14 dX9_goesOn_179 ?_
      refine lv_iload hx hb dX9_goesOn_180 (lv_at hl 0 rfl) ?_
      refine lv_iadd hx hb dX9_goesOn_182 ?_
      obtain ⟨zf15, ezf15, hm⟩ := bnk hm
      refine iast_e hx hb hK.1 hP hD hS 1 0 rfl rfl zb14 dX9_goesOn_183 ezf15 (fun H locs hP hD hS => ?_)
      have hP : va_P g.1 vwCl (w_X9 g h0 h1 h2 h3 (zf15, x.2.1, x.2.2.1, x.2.2.2.1, x.2.2.2.2.1, x.2.2.2.2.2.1, x.2.2.2.2.2.2.1, x.2.2.2.2.2.2.2.1, x.2.2.2.2.2.2.2.2.1, x.2.2.2.2.2.2.2.2.2.1, x.2.2.2.2.2.2.2.2.2.2)) H := hP
      have hD : va_D A (w_X9 g h0 h1 h2 h3 (zf15, x.2.1, x.2.2.1, x.2.2.2.1, x.2.2.2.2.1, x.2.2.2.2.2.1, x.2.2.2.2.2.2.1, x.2.2.2.2.2.2.2.1, x.2.2.2.2.2.2.2.2.1, x.2.2.2.2.2.2.2.2.2.1, x.2.2.2.2.2.2.2.2.2.2)) := hD
      refine lv_aload_n hx hb dX9_goesOn_184 rfl (lv_at hl 3 rfl) ?_
      refine va_get (D := g.1) (ci := 8) (v := .ref h1) (C := RX9) (T := TX9) (N := 11) hx hb htG in_wsX90 hown hK.1 hP 0 rfl rfl 0 (by decide) (htG _ g3_195) (fun _ h9 => h9) rfl dX9_goesOn_185 ?_
      refine lv_iload_n hx hb dX9_goesOn_188 rfl (lv_at hl 4 rfl) ?_
      refine lv_bipush (v := 14) hx hb dX9_goesOn_189 (by decide +kernel) ?_
      refine lv_iadd hx hb dX9_goesOn_191 ?_
      refine lv_iload hx hb dX9_goesOn_192 (lv_at hl 2 rfl) ?_
      refine lv_iadd hx hb dX9_goesOn_194 ?_
      refine lv_dup2_11 hx hb dX9_goesOn_195 rfl rfl ?_
      obtain ⟨zb16, hm⟩ := ibk hm
      refine va_iald hx hb hK.1 hP 1 0 rfl rfl zb16 dX9_goesOn_196 ?_
      refine lv_iload hx hb dX9_goesOn_197 (lv_at hl 0 rfl) ?_
      refine lv_isub hx hb dX9_goesOn_199 ?_
      obtain ⟨zf17, ezf17, hm⟩ := bnk hm
      refine iast_e hx hb hK.1 hP hD hS 1 0 rfl rfl zb16 dX9_goesOn_200 ezf17 (fun H locs hP hD hS => ?_)
      have hP : va_P g.1 vwCl (w_X9 g h0 h1 h2 h3 (zf17, x.2.1, x.2.2.1, x.2.2.2.1, x.2.2.2.2.1, x.2.2.2.2.2.1, x.2.2.2.2.2.2.1, x.2.2.2.2.2.2.2.1, x.2.2.2.2.2.2.2.2.1, x.2.2.2.2.2.2.2.2.2.1, x.2.2.2.2.2.2.2.2.2.2)) H := hP
      have hD : va_D A (w_X9 g h0 h1 h2 h3 (zf17, x.2.1, x.2.2.1, x.2.2.2.1, x.2.2.2.2.1, x.2.2.2.2.2.1, x.2.2.2.2.2.2.1, x.2.2.2.2.2.2.2.1, x.2.2.2.2.2.2.2.2.1, x.2.2.2.2.2.2.2.2.2.1, x.2.2.2.2.2.2.2.2.2.2)) := hD
      refine lv_aload_n hx hb dX9_goesOn_201 rfl (lv_at hl 3 rfl) ?_
      refine va_get (D := g.1) (ci := 8) (v := .ref h1) (C := RX9) (T := TX9) (N := 11) hx hb htG in_wsX90 hown hK.1 hP 0 rfl rfl 0 (by decide) (htG _ g3_195) (fun _ h9 => h9) rfl dX9_goesOn_202 ?_
      refine lv_iload_n hx hb dX9_goesOn_205 rfl (lv_at hl 4 rfl) ?_
      refine lv_bipush (v := 30) hx hb dX9_goesOn_206 (by decide +kernel) ?_
      refine lv_iadd hx hb dX9_goesOn_208 ?_
      refine lv_dup2_11 hx hb dX9_goesOn_209 rfl rfl ?_
      obtain ⟨zb18, hm⟩ := ibk hm
      refine va_iald hx hb hK.1 hP 1 0 rfl rfl zb18 dX9_goesOn_210 ?_
      refine lv_iload hx hb dX9_goesOn_211 (lv_at hl 0 rfl) ?_
      refine lv_isub hx hb dX9_goesOn_213 ?_
      obtain ⟨zf19, ezf19, hm⟩ := bnk hm
      refine iast_e hx hb hK.1 hP hD hS 1 0 rfl rfl zb18 dX9_goesOn_214 ezf19 (fun H locs hP hD hS => ?_)
      have hP : va_P g.1 vwCl (w_X9 g h0 h1 h2 h3 (zf19, x.2.1, x.2.2.1, x.2.2.2.1, x.2.2.2.2.1, x.2.2.2.2.2.1, x.2.2.2.2.2.2.1, x.2.2.2.2.2.2.2.1, x.2.2.2.2.2.2.2.2.1, x.2.2.2.2.2.2.2.2.2.1, x.2.2.2.2.2.2.2.2.2.2)) H := hP
      have hD : va_D A (w_X9 g h0 h1 h2 h3 (zf19, x.2.1, x.2.2.1, x.2.2.2.1, x.2.2.2.2.1, x.2.2.2.2.2.1, x.2.2.2.2.2.2.1, x.2.2.2.2.2.2.2.1, x.2.2.2.2.2.2.2.2.1, x.2.2.2.2.2.2.2.2.2.1, x.2.2.2.2.2.2.2.2.2.2)) := hD
      refine lv_aload_n hx hb dX9_goesOn_215 rfl (lv_at hl 3 rfl) ?_
      refine va_get (D := g.1) (ci := 8) (v := .ref h1) (C := RX9) (T := TX9) (N := 11) hx hb htG in_wsX90 hown hK.1 hP 0 rfl rfl 0 (by decide) (htG _ g3_195) (fun _ h9 => h9) rfl dX9_goesOn_216 ?_
      refine lv_iload_n hx hb dX9_goesOn_219 rfl (lv_at hl 4 rfl) ?_
      refine lv_bipush (v := 31) hx hb dX9_goesOn_220 (by decide +kernel) ?_
      refine lv_iadd hx hb dX9_goesOn_222 ?_
      refine lv_dup2_11 hx hb dX9_goesOn_223 rfl rfl ?_
      obtain ⟨zb20, hm⟩ := ibk hm
      refine va_iald hx hb hK.1 hP 1 0 rfl rfl zb20 dX9_goesOn_224 ?_
      refine lv_iload hx hb dX9_goesOn_225 (lv_at hl 0 rfl) ?_
      refine lv_iadd hx hb dX9_goesOn_227 ?_
      obtain ⟨zf21, ezf21, hm⟩ := bnk hm
      refine iast_e hx hb hK.1 hP hD hS 1 0 rfl rfl zb20 dX9_goesOn_228 ezf21 (fun H locs hP hD hS => ?_)
      have hP : va_P g.1 vwCl (w_X9 g h0 h1 h2 h3 (zf21, x.2.1, x.2.2.1, x.2.2.2.1, x.2.2.2.2.1, x.2.2.2.2.2.1, x.2.2.2.2.2.2.1, x.2.2.2.2.2.2.2.1, x.2.2.2.2.2.2.2.2.1, x.2.2.2.2.2.2.2.2.2.1, x.2.2.2.2.2.2.2.2.2.2)) H := hP
      have hD : va_D A (w_X9 g h0 h1 h2 h3 (zf21, x.2.1, x.2.2.1, x.2.2.2.1, x.2.2.2.2.1, x.2.2.2.2.2.1, x.2.2.2.2.2.2.1, x.2.2.2.2.2.2.2.1, x.2.2.2.2.2.2.2.2.1, x.2.2.2.2.2.2.2.2.2.1, x.2.2.2.2.2.2.2.2.2.2)) := hD
      exact W.vret hx hb hr (fun t ht hW => ⟨⟨_, rfl, (Option.some.inj hm), atH ht hP⟩, hS.F ht⟩) hS.2.2 dX9_goesOn_229
    · replace hm := (if_neg zc5).symm.trans hm
      refine lv_iconst (v := 0) hx hb dX9_goesOn_49 (by decide) ?_
      refine lv_goto (tgt := 54) hx hb dX9_goesOn_50 (by decide) ?_
      refine lv_istore (lv' := [(6, .int 0), (5, .int zv2), (0, .ref h0), (1, .int p1), (2, .int p2), (3, .int p3), (4, .int p4)]) hx hb dX9_goesOn_54 hl (by decide) rfl (fun ls hl => ?_)
      refine lv_aload_n hx hb dX9_goesOn_56 rfl (lv_at hl 2 rfl) ?_
      refine va_get (D := g.1) (ci := 8) (v := .ref h1) (C := RX9) (T := TX9) (N := 11) hx hb htG in_wsX90 hown hK.1 hP 0 rfl rfl 0 (by decide) (htG _ g3_195) (fun _ h9 => h9) rfl dX9_goesOn_57 ?_
      refine lv_iload_n hx hb dX9_goesOn_60 rfl (lv_at hl 3 rfl) ?_
      refine lv_sipush (v := 195) hx hb dX9_goesOn_61 (by decide +kernel) ?_
      refine lv_iadd hx hb dX9_goesOn_64 ?_
      refine lv_iload_n hx hb dX9_goesOn_65 rfl (lv_at hl 4 rfl) ?_
      refine lv_iadd hx hb dX9_goesOn_66 ?_
      refine lv_iload hx hb dX9_goesOn_67 (lv_at hl 0 rfl) ?_
      obtain ⟨zb22, hm⟩ := ibk hm
      obtain ⟨zf23, ezf23, hm⟩ := bnk hm
      refine iast_e hx hb hK.1 hP hD hS 1 0 rfl rfl zb22 dX9_goesOn_69 ezf23 (fun H locs hP hD hS => ?_)
      have hP : va_P g.1 vwCl (w_X9 g h0 h1 h2 h3 (zf23, x.2.1, x.2.2.1, x.2.2.2.1, x.2.2.2.2.1, x.2.2.2.2.2.1, x.2.2.2.2.2.2.1, x.2.2.2.2.2.2.2.1, x.2.2.2.2.2.2.2.2.1, x.2.2.2.2.2.2.2.2.2.1, x.2.2.2.2.2.2.2.2.2.2)) H := hP
      have hD : va_D A (w_X9 g h0 h1 h2 h3 (zf23, x.2.1, x.2.2.1, x.2.2.2.1, x.2.2.2.2.1, x.2.2.2.2.2.1, x.2.2.2.2.2.2.1, x.2.2.2.2.2.2.2.1, x.2.2.2.2.2.2.2.2.1, x.2.2.2.2.2.2.2.2.2.1, x.2.2.2.2.2.2.2.2.2.2)) := hD
      refine lv_iload hx hb dX9_goesOn_70 (lv_at hl 0 rfl) ?_
      refine lv_if_ne (tgt := 130) hx hb dX9_goesOn_72 (by decide) (fun zc24 => absurd zc24 (by decide)) (fun _ => ?_)
      refine lv_aload_n hx hb dX9_goesOn_75 rfl (lv_at hl 2 rfl) ?_
      refine va_get (D := g.1) (ci := 8) (v := .ref h1) (C := RX9) (T := TX9) (N := 11) hx hb htG in_wsX90 hown hK.1 hP 0 rfl rfl 0 (by decide) (htG _ g3_195) (fun _ h9 => h9) rfl dX9_goesOn_76 ?_
      refine lv_iload_n hx hb dX9_goesOn_79 rfl (lv_at hl 3 rfl) ?_
      refine lv_bipush (v := 26) hx hb dX9_goesOn_80 (by decide +kernel) ?_
      refine lv_iadd hx hb dX9_goesOn_82 ?_
      refine lv_dup2_11 hx hb dX9_goesOn_83 rfl rfl ?_
      obtain ⟨zb25, hm⟩ := ibk hm
      refine va_iald hx hb hK.1 hP 1 0 rfl rfl zb25 dX9_goesOn_84 ?_
      refine lv_iconst (v := 1) hx hb dX9_goesOn_85 (by decide) ?_
      refine lv_iadd hx hb dX9_goesOn_86 ?_
      obtain ⟨zf26, ezf26, hm⟩ := bnk hm
      refine iast_e hx hb hK.1 hP hD hS 1 0 rfl rfl zb25 dX9_goesOn_87 ezf26 (fun H locs hP hD hS => ?_)
      have hP : va_P g.1 vwCl (w_X9 g h0 h1 h2 h3 (zf26, x.2.1, x.2.2.1, x.2.2.2.1, x.2.2.2.2.1, x.2.2.2.2.2.1, x.2.2.2.2.2.2.1, x.2.2.2.2.2.2.2.1, x.2.2.2.2.2.2.2.2.1, x.2.2.2.2.2.2.2.2.2.1, x.2.2.2.2.2.2.2.2.2.2)) H := hP
      have hD : va_D A (w_X9 g h0 h1 h2 h3 (zf26, x.2.1, x.2.2.1, x.2.2.2.1, x.2.2.2.2.1, x.2.2.2.2.2.1, x.2.2.2.2.2.2.1, x.2.2.2.2.2.2.2.1, x.2.2.2.2.2.2.2.2.1, x.2.2.2.2.2.2.2.2.2.1, x.2.2.2.2.2.2.2.2.2.2)) := hD
      refine lv_aload_n hx hb dX9_goesOn_88 rfl (lv_at hl 2 rfl) ?_
      refine va_get (D := g.1) (ci := 8) (v := .ref h1) (C := RX9) (T := TX9) (N := 11) hx hb htG in_wsX90 hown hK.1 hP 0 rfl rfl 0 (by decide) (htG _ g3_195) (fun _ h9 => h9) rfl dX9_goesOn_89 ?_
      refine lv_iload_n hx hb dX9_goesOn_92 rfl (lv_at hl 3 rfl) ?_
      refine lv_bipush (v := 8) hx hb dX9_goesOn_93 (by decide +kernel) ?_
      refine lv_iadd hx hb dX9_goesOn_95 ?_
      refine lv_iload hx hb dX9_goesOn_96 (lv_at hl 1 rfl) ?_
      refine lv_iadd hx hb dX9_goesOn_98 ?_
      refine lv_dup2_11 hx hb dX9_goesOn_99 rfl rfl ?_
      obtain ⟨zb27, hm⟩ := ibk hm
      refine va_iald hx hb hK.1 hP 1 0 rfl rfl zb27 dX9_goesOn_100 ?_
      refine lv_iconst (v := 1) hx hb dX9_goesOn_101 (by decide) ?_
      refine lv_iadd hx hb dX9_goesOn_102 ?_
      obtain ⟨zf28, ezf28, hm⟩ := bnk hm
      refine iast_e hx hb hK.1 hP hD hS 1 0 rfl rfl zb27 dX9_goesOn_103 ezf28 (fun H locs hP hD hS => ?_)
      have hP : va_P g.1 vwCl (w_X9 g h0 h1 h2 h3 (zf28, x.2.1, x.2.2.1, x.2.2.2.1, x.2.2.2.2.1, x.2.2.2.2.2.1, x.2.2.2.2.2.2.1, x.2.2.2.2.2.2.2.1, x.2.2.2.2.2.2.2.2.1, x.2.2.2.2.2.2.2.2.2.1, x.2.2.2.2.2.2.2.2.2.2)) H := hP
      have hD : va_D A (w_X9 g h0 h1 h2 h3 (zf28, x.2.1, x.2.2.1, x.2.2.2.1, x.2.2.2.2.1, x.2.2.2.2.2.1, x.2.2.2.2.2.2.1, x.2.2.2.2.2.2.2.1, x.2.2.2.2.2.2.2.2.1, x.2.2.2.2.2.2.2.2.2.1, x.2.2.2.2.2.2.2.2.2.2)) := hD
      refine lv_aload_n hx hb dX9_goesOn_104 rfl (lv_at hl 2 rfl) ?_
      refine va_get (D := g.1) (ci := 8) (v := .ref h1) (C := RX9) (T := TX9) (N := 11) hx hb htG in_wsX90 hown hK.1 hP 0 rfl rfl 0 (by decide) (htG _ g3_195) (fun _ h9 => h9) rfl dX9_goesOn_105 ?_
      refine lv_iload_n hx hb dX9_goesOn_108 rfl (lv_at hl 3 rfl) ?_
      refine lv_bipush (v := 34) hx hb dX9_goesOn_109 (by decide +kernel) ?_
      refine lv_iadd hx hb dX9_goesOn_111 ?_
      refine lv_dup2_11 hx hb dX9_goesOn_112 rfl rfl ?_
      obtain ⟨zb29, hm⟩ := ibk hm
      refine va_iald hx hb hK.1 hP 1 0 rfl rfl zb29 dX9_goesOn_113 ?_
      refine lv_aload_n hx hb dX9_goesOn_114 rfl (lv_at hl 2 rfl) ?_
      refine va_get (D := g.1) (ci := 8) (v := .ref h1) (C := RX9) (T := TX9) (N := 11) hx hb htG in_wsX90 hown hK.1 hP 0 rfl rfl 0 (by decide) (htG _ g3_195) (fun _ h9 => h9) rfl dX9_goesOn_115 ?_
      refine lv_iload_n hx hb dX9_goesOn_118 rfl (lv_at hl 3 rfl) ?_
      refine lv_bipush (v := 99) hx hb dX9_goesOn_119 (by decide +kernel) ?_
      refine lv_iadd hx hb dX9_goesOn_121 ?_
      refine lv_iload_n hx hb dX9_goesOn_122 rfl (lv_at hl 4 rfl) ?_
      refine lv_iadd hx hb dX9_goesOn_123 ?_
      refine va_iald hx hb hK.1 hP 1 0 rfl rfl zb4 dX9_goesOn_124 ?_
      refine lv_iadd hx hb dX9_goesOn_125 ?_
      obtain ⟨zf30, ezf30, hm⟩ := bnk hm
      refine iast_e hx hb hK.1 hP hD hS 1 0 rfl rfl zb29 dX9_goesOn_126 ezf30 (fun H locs hP hD hS => ?_)
      have hP : va_P g.1 vwCl (w_X9 g h0 h1 h2 h3 (zf30, x.2.1, x.2.2.1, x.2.2.2.1, x.2.2.2.2.1, x.2.2.2.2.2.1, x.2.2.2.2.2.2.1, x.2.2.2.2.2.2.2.1, x.2.2.2.2.2.2.2.2.1, x.2.2.2.2.2.2.2.2.2.1, x.2.2.2.2.2.2.2.2.2.2)) H := hP
      have hD : va_D A (w_X9 g h0 h1 h2 h3 (zf30, x.2.1, x.2.2.1, x.2.2.2.1, x.2.2.2.2.1, x.2.2.2.2.2.1, x.2.2.2.2.2.2.1, x.2.2.2.2.2.2.2.1, x.2.2.2.2.2.2.2.2.1, x.2.2.2.2.2.2.2.2.2.1, x.2.2.2.2.2.2.2.2.2.2)) := hD
      refine lv_goto (tgt := 148) hx hb dX9_goesOn_127 (by decide) ?_
      refine lv_iload hx hb dX9_goesOn_148 (lv_at hl 0 rfl) ?_
      refine lv_iconst (v := 3) hx hb dX9_goesOn_150 (by decide) ?_
      refine lv_icmp_ne (tgt := 229) hx hb dX9_goesOn_151 (by decide) (fun _ => ?_) (fun zc31 => absurd zc31 (by decide))
      exact W.vret hx hb hr (fun t ht hW => ⟨⟨_, rfl, (Option.some.inj hm), atH ht hP⟩, hS.F ht⟩) hS.2.2 dX9_goesOn_229
  · replace hm := (if_neg zc3).symm.trans hm
    refine lv_iload hx hb dX9_goesOn_18 (lv_at hl 5 rfl) ?_
    refine lv_if_ne (tgt := 27) hx hb dX9_goesOn_20 (by decide) (fun zc32 => ?_) (fun zc32 => ?_)
    · replace hm := (if_neg zc32).symm.trans hm
      refine lv_iconst (v := 2) hx hb dX9_goesOn_27 (by decide) ?_
      refine lv_goto (tgt := 54) hx hb dX9_goesOn_28 (by decide) ?_
      refine lv_istore (lv' := [(6, .int 2), (5, .int zv2), (0, .ref h0), (1, .int p1), (2, .int p2), (3, .int p3), (4, .int p4)]) hx hb dX9_goesOn_54 hl (by decide) rfl (fun ls hl => ?_)
      refine lv_aload_n hx hb dX9_goesOn_56 rfl (lv_at hl 2 rfl) ?_
      refine va_get (D := g.1) (ci := 8) (v := .ref h1) (C := RX9) (T := TX9) (N := 11) hx hb htG in_wsX90 hown hK.1 hP 0 rfl rfl 0 (by decide) (htG _ g3_195) (fun _ h9 => h9) rfl dX9_goesOn_57 ?_
      refine lv_iload_n hx hb dX9_goesOn_60 rfl (lv_at hl 3 rfl) ?_
      refine lv_sipush (v := 195) hx hb dX9_goesOn_61 (by decide +kernel) ?_
      refine lv_iadd hx hb dX9_goesOn_64 ?_
      refine lv_iload_n hx hb dX9_goesOn_65 rfl (lv_at hl 4 rfl) ?_
      refine lv_iadd hx hb dX9_goesOn_66 ?_
      refine lv_iload hx hb dX9_goesOn_67 (lv_at hl 0 rfl) ?_
      obtain ⟨zb33, hm⟩ := ibk hm
      obtain ⟨zf34, ezf34, hm⟩ := bnk hm
      refine iast_e hx hb hK.1 hP hD hS 1 0 rfl rfl zb33 dX9_goesOn_69 ezf34 (fun H locs hP hD hS => ?_)
      have hP : va_P g.1 vwCl (w_X9 g h0 h1 h2 h3 (zf34, x.2.1, x.2.2.1, x.2.2.2.1, x.2.2.2.2.1, x.2.2.2.2.2.1, x.2.2.2.2.2.2.1, x.2.2.2.2.2.2.2.1, x.2.2.2.2.2.2.2.2.1, x.2.2.2.2.2.2.2.2.2.1, x.2.2.2.2.2.2.2.2.2.2)) H := hP
      have hD : va_D A (w_X9 g h0 h1 h2 h3 (zf34, x.2.1, x.2.2.1, x.2.2.2.1, x.2.2.2.2.1, x.2.2.2.2.2.1, x.2.2.2.2.2.2.1, x.2.2.2.2.2.2.2.1, x.2.2.2.2.2.2.2.2.1, x.2.2.2.2.2.2.2.2.2.1, x.2.2.2.2.2.2.2.2.2.2)) := hD
      refine lv_iload hx hb dX9_goesOn_70 (lv_at hl 0 rfl) ?_
      refine lv_if_ne (tgt := 130) hx hb dX9_goesOn_72 (by decide) (fun _ => ?_) (fun zc35 => absurd zc35 (by decide))
      refine lv_aload_n hx hb dX9_goesOn_130 rfl (lv_at hl 2 rfl) ?_
      refine va_get (D := g.1) (ci := 8) (v := .ref h1) (C := RX9) (T := TX9) (N := 11) hx hb htG in_wsX90 hown hK.1 hP 0 rfl rfl 0 (by decide) (htG _ g3_195) (fun _ h9 => h9) rfl dX9_goesOn_131 ?_
      refine lv_iload_n hx hb dX9_goesOn_134 rfl (lv_at hl 3 rfl) ?_
      refine lv_bipush (v := 27) hx hb dX9_goesOn_135 (by decide +kernel) ?_
      refine lv_iadd hx hb dX9_goesOn_137 ?_
      refine lv_iload hx hb dX9_goesOn_138 (lv_at hl 0 rfl) ?_
      refine lv_iadd hx hb dX9_goesOn_140 ?_
      refine lv_iconst (v := 1) hx hb dX9_goesOn_141 (by decide) ?_
      refine lv_isub hx hb dX9_goesOn_142 ?_
      refine lv_dup2_11 hx hb dX9_goesOn_143 rfl rfl ?_
      obtain ⟨zb36, hm⟩ := ibk hm
      refine va_iald hx hb hK.1 hP 1 0 rfl rfl zb36 dX9_goesOn_144 ?_
      refine lv_iconst (v := 1) hx hb dX9_goesOn_145 (by decide) ?_
      refine lv_iadd hx hb dX9_goesOn_146 ?_
      obtain ⟨zf37, ezf37, hm⟩ := bnk hm
      refine iast_e hx hb hK.1 hP hD hS 1 0 rfl rfl zb36 dX9_goesOn_147 ezf37 (fun H locs hP hD hS => ?_)
      have hP : va_P g.1 vwCl (w_X9 g h0 h1 h2 h3 (zf37, x.2.1, x.2.2.1, x.2.2.2.1, x.2.2.2.2.1, x.2.2.2.2.2.1, x.2.2.2.2.2.2.1, x.2.2.2.2.2.2.2.1, x.2.2.2.2.2.2.2.2.1, x.2.2.2.2.2.2.2.2.2.1, x.2.2.2.2.2.2.2.2.2.2)) H := hP
      have hD : va_D A (w_X9 g h0 h1 h2 h3 (zf37, x.2.1, x.2.2.1, x.2.2.2.1, x.2.2.2.2.1, x.2.2.2.2.2.1, x.2.2.2.2.2.2.1, x.2.2.2.2.2.2.2.1, x.2.2.2.2.2.2.2.2.1, x.2.2.2.2.2.2.2.2.2.1, x.2.2.2.2.2.2.2.2.2.2)) := hD
      refine lv_iload hx hb dX9_goesOn_148 (lv_at hl 0 rfl) ?_
      refine lv_iconst (v := 3) hx hb dX9_goesOn_150 (by decide) ?_
      refine lv_icmp_ne (tgt := 229) hx hb dX9_goesOn_151 (by decide) (fun _ => ?_) (fun zc38 => absurd zc38 (by decide))
      exact W.vret hx hb hr (fun t ht hW => ⟨⟨_, rfl, (Option.some.inj hm), atH ht hP⟩, hS.F ht⟩) hS.2.2 dX9_goesOn_229
    · replace hm := (if_pos zc32).symm.trans hm
      refine lv_iconst (v := 1) hx hb dX9_goesOn_23 (by decide) ?_
      refine lv_goto (tgt := 54) hx hb dX9_goesOn_24 (by decide) ?_
      refine lv_istore (lv' := [(6, .int 1), (5, .int zv2), (0, .ref h0), (1, .int p1), (2, .int p2), (3, .int p3), (4, .int p4)]) hx hb dX9_goesOn_54 hl (by decide) rfl (fun ls hl => ?_)
      refine lv_aload_n hx hb dX9_goesOn_56 rfl (lv_at hl 2 rfl) ?_
      refine va_get (D := g.1) (ci := 8) (v := .ref h1) (C := RX9) (T := TX9) (N := 11) hx hb htG in_wsX90 hown hK.1 hP 0 rfl rfl 0 (by decide) (htG _ g3_195) (fun _ h9 => h9) rfl dX9_goesOn_57 ?_
      refine lv_iload_n hx hb dX9_goesOn_60 rfl (lv_at hl 3 rfl) ?_
      refine lv_sipush (v := 195) hx hb dX9_goesOn_61 (by decide +kernel) ?_
      refine lv_iadd hx hb dX9_goesOn_64 ?_
      refine lv_iload_n hx hb dX9_goesOn_65 rfl (lv_at hl 4 rfl) ?_
      refine lv_iadd hx hb dX9_goesOn_66 ?_
      refine lv_iload hx hb dX9_goesOn_67 (lv_at hl 0 rfl) ?_
      obtain ⟨zb39, hm⟩ := ibk hm
      obtain ⟨zf40, ezf40, hm⟩ := bnk hm
      refine iast_e hx hb hK.1 hP hD hS 1 0 rfl rfl zb39 dX9_goesOn_69 ezf40 (fun H locs hP hD hS => ?_)
      have hP : va_P g.1 vwCl (w_X9 g h0 h1 h2 h3 (zf40, x.2.1, x.2.2.1, x.2.2.2.1, x.2.2.2.2.1, x.2.2.2.2.2.1, x.2.2.2.2.2.2.1, x.2.2.2.2.2.2.2.1, x.2.2.2.2.2.2.2.2.1, x.2.2.2.2.2.2.2.2.2.1, x.2.2.2.2.2.2.2.2.2.2)) H := hP
      have hD : va_D A (w_X9 g h0 h1 h2 h3 (zf40, x.2.1, x.2.2.1, x.2.2.2.1, x.2.2.2.2.1, x.2.2.2.2.2.1, x.2.2.2.2.2.2.1, x.2.2.2.2.2.2.2.1, x.2.2.2.2.2.2.2.2.1, x.2.2.2.2.2.2.2.2.2.1, x.2.2.2.2.2.2.2.2.2.2)) := hD
      refine lv_iload hx hb dX9_goesOn_70 (lv_at hl 0 rfl) ?_
      refine lv_if_ne (tgt := 130) hx hb dX9_goesOn_72 (by decide) (fun _ => ?_) (fun zc41 => absurd zc41 (by decide))
      refine lv_aload_n hx hb dX9_goesOn_130 rfl (lv_at hl 2 rfl) ?_
      refine va_get (D := g.1) (ci := 8) (v := .ref h1) (C := RX9) (T := TX9) (N := 11) hx hb htG in_wsX90 hown hK.1 hP 0 rfl rfl 0 (by decide) (htG _ g3_195) (fun _ h9 => h9) rfl dX9_goesOn_131 ?_
      refine lv_iload_n hx hb dX9_goesOn_134 rfl (lv_at hl 3 rfl) ?_
      refine lv_bipush (v := 27) hx hb dX9_goesOn_135 (by decide +kernel) ?_
      refine lv_iadd hx hb dX9_goesOn_137 ?_
      refine lv_iload hx hb dX9_goesOn_138 (lv_at hl 0 rfl) ?_
      refine lv_iadd hx hb dX9_goesOn_140 ?_
      refine lv_iconst (v := 1) hx hb dX9_goesOn_141 (by decide) ?_
      refine lv_isub hx hb dX9_goesOn_142 ?_
      refine lv_dup2_11 hx hb dX9_goesOn_143 rfl rfl ?_
      obtain ⟨zb42, hm⟩ := ibk hm
      refine va_iald hx hb hK.1 hP 1 0 rfl rfl zb42 dX9_goesOn_144 ?_
      refine lv_iconst (v := 1) hx hb dX9_goesOn_145 (by decide) ?_
      refine lv_iadd hx hb dX9_goesOn_146 ?_
      obtain ⟨zf43, ezf43, hm⟩ := bnk hm
      refine iast_e hx hb hK.1 hP hD hS 1 0 rfl rfl zb42 dX9_goesOn_147 ezf43 (fun H locs hP hD hS => ?_)
      have hP : va_P g.1 vwCl (w_X9 g h0 h1 h2 h3 (zf43, x.2.1, x.2.2.1, x.2.2.2.1, x.2.2.2.2.1, x.2.2.2.2.2.1, x.2.2.2.2.2.2.1, x.2.2.2.2.2.2.2.1, x.2.2.2.2.2.2.2.2.1, x.2.2.2.2.2.2.2.2.2.1, x.2.2.2.2.2.2.2.2.2.2)) H := hP
      have hD : va_D A (w_X9 g h0 h1 h2 h3 (zf43, x.2.1, x.2.2.1, x.2.2.2.1, x.2.2.2.2.1, x.2.2.2.2.2.1, x.2.2.2.2.2.2.1, x.2.2.2.2.2.2.2.1, x.2.2.2.2.2.2.2.2.1, x.2.2.2.2.2.2.2.2.2.1, x.2.2.2.2.2.2.2.2.2.2)) := hD
      refine lv_iload hx hb dX9_goesOn_148 (lv_at hl 0 rfl) ?_
      refine lv_iconst (v := 3) hx hb dX9_goesOn_150 (by decide) ?_
      refine lv_icmp_ne (tgt := 229) hx hb dX9_goesOn_151 (by decide) (fun _ => ?_) (fun zc44 => absurd zc44 (by decide))
      exact W.vret hx hb hr (fun t ht hW => ⟨⟨_, rfl, (Option.some.inj hm), atH ht hP⟩, hS.F ht⟩) hS.2.2 dX9_goesOn_229
def fX9_does_L1 (p1 : Int32) (p2 : Int32) (zv4 : Int32) : Nat → Int32 → MD → Option (MD)
  | 0, _, _ => none
  | n + 1, i1_6, x1 => (if 3 ≤ i1_6 then (some x1) else ((fX9_bidsFor x1 (835 * p1) (fX9_place i1_6 zv4)).bind (fun zq15 => ((fX9_goesOn x1 (835 * p1) (fX9_place i1_6 zv4) p2 zq15).bind (fun zq16 => ((fX9_clears zq16 (835 * p1) (fX9_place i1_6 zv4)).bind (fun zq17 => (fX9_does_L1 p1 p2 zv4 n (i1_6 + 1) zq17))))))))
def fX9_does_L0 (p1 : Int32) (zv4 : Int32) : Nat → Int32 → MD → Option (MD)
  | 0, _, _ => none
  | n + 1, i0_6, x0 => (if 3 ≤ i0_6 then (some x0) else (if ib (((835 * p1) + 51) + (fX9_place i0_6 zv4)) 5845 = true then (if 0 ≤ (x0.1 ((((835 * p1) + 51) + (fX9_place i0_6 zv4)).toNatClampNeg)) then (fX9_does_L0 p1 zv4 n (i0_6 + 1) x0) else ((fX9_awards x0 (835 * p1) (fX9_place i0_6 zv4)).bind (fun zq10 => (fX9_does_L0 p1 zv4 n (i0_6 + 1) zq10.2)))) else none))
def fX9_does (x : MD) (p1 : Int32) (p2 : Int32) : Option (Int32 × MD) := (if (fX9_in p2 0 99) = 0 then some ((-2), x) else (if ib ((835 * p1) + 1) 5845 = true then (if (x.1 (((835 * p1) + 1).toNatClampNeg)) = 16 then some ((-4), x) else (bnd (x.1 (((835 * p1) + 1).toNatClampNeg)) (fun zv4 => (if ib ((835 * p1) + 26) 5845 = true then (bnd (x.1 (((835 * p1) + 26).toNatClampNeg)) (fun zv6 => ((fX9_does_L0 p1 zv4 1000 0 x).bind (fun zq11 => (if ib (((835 * p1) + 819) + zv4) 5845 = true then (bnd (upd zq11.1 (((835 * p1) + 819) + zv4).toNatClampNeg p2) (fun zf13 => ((fX9_does_L1 p1 p2 zv4 1000 0 (zf13, zq11.2.1, zq11.2.2.1, zq11.2.2.2.1, zq11.2.2.2.2.1, zq11.2.2.2.2.2.1, zq11.2.2.2.2.2.2.1, zq11.2.2.2.2.2.2.2.1, zq11.2.2.2.2.2.2.2.2.1, zq11.2.2.2.2.2.2.2.2.2.1, zq11.2.2.2.2.2.2.2.2.2.2)).bind (fun zq18 => (if ib ((835 * p1) + 1) 5845 = true then (bnd (upd zq18.1 ((835 * p1) + 1).toNatClampNeg ((zq18.1 (((835 * p1) + 1).toNatClampNeg)) + 1)) (fun zf20 => (if ib ((835 * p1) + 26) 5845 = true then some ((zf20 (((835 * p1) + 26).toNatClampNeg)) - zv6, (zf20, zq18.2.1, zq18.2.2.1, zq18.2.2.2.1, zq18.2.2.2.2.1, zq18.2.2.2.2.2.1, zq18.2.2.2.2.2.2.1, zq18.2.2.2.2.2.2.2.1, zq18.2.2.2.2.2.2.2.2.1, zq18.2.2.2.2.2.2.2.2.2.1, zq18.2.2.2.2.2.2.2.2.2.2)) else none))) else none))))) else none))))) else none)))) else none))
abbrev rm_X9_does : Jvm.Room := { frames := 4, cells := 0, slots := 0, locals := 95 }
theorem hd_X9_does : yX9_does.cls = RX9 ∧ yX9_does.cls ≠ "java/lang/invoke/MethodHandle" ∧ yX9_does.cls ≠ "java/lang/invoke/VarHandle" ∧ (parseMethodDescriptor yX9_does.desc).map (fun d => d.parameters.length) = some 2 := by decide +kernel
set_option maxHeartbeats 4000000 in
set_option maxRecDepth 100000 in
theorem kX9_does (l : Launch) (g : CX) (h0 h1 h2 h3 : Nat) (sz : Nat) (x : MD) (p1 : Int32) (p2 : Int32) (res : Int32 × MD) (hm0 : fX9_does x p1 p2 = some res) : Met l yX9_does (wg yX9_does cX9_does 8 (some .int)) rm_X9_does (PW g [.ref h0, .int p1, .int p2] sz (w_X9 g h0 h1 h2 h3 x)) (va_Qi (fun v u => v = res.1 ∧ u = res.2) (fun u t => va_P g.1 vwCl (w_X9 g h0 h1 h2 h3 u) t.heap) (va_A (w_X9 g h0 h1 h2 h3 x) sz)) 0 0 (va_A (w_X9 g h0 h1 h2 h3 x) sz) := by
  refine Met.ofW (cc := cX9_does) (maxL := 8) (ret := (some .int)) (by decide) rfl ?_
  intro p e s m args below meth c s₁ B hml hv
  obtain ⟨rfl, hsz, hP, hK, hD0, hL⟩ := hv
  have hx := B.exec
  have hb := B.bytes
  have hr := B.returns
  have htG := wg_G (atoms_spec (ws := wg yX9_does cX9_does 8 (some .int)) B.pre)
  have hown : s.vm.findClass RX9 = some m.cls := findClass_of_methodNamed B.named
  have hlocks := B.notSynchronized
  subst hsz
  have hD := hD0.self (sz := s.heap.size)
  generalize hAe : va_A (w_X9 g h0 h1 h2 h3 x) s.heap.size = A at hD hL ⊢
  have hA : ∀ q : Nat, s.heap.size ≤ q → A q := fun q h => by rw [← hAe]; exact Or.inr h
  have hS : va_S A s.heap s.heap [] := va_S.rf
  have hl := lv_entry ([.ref h0, .int p1, .int p2]) (n := 8) (Nat.le_of_ble_eq_true rfl)
  rw [lg_entry_eq]
  generalize (lg_sl ([.ref h0, .int p1, .int p2]) ++ List.replicate (8 - (lg_sl ([.ref h0, .int p1, .int p2])).length) Slot.unset).toArray = ls at hl ⊢
  have hl : lv_has ls 8 [(0, .ref h0), (1, .int p1), (2, .int p2)] := hl
  have hm := hm0
  unfold fX9_does at hm
  refine lv_sipush (v := 835) hx hb dX9_does_0 (by decide +kernel) ?_
  refine lv_iload_n hx hb dX9_does_3 rfl (lv_at hl 1 rfl) ?_
  refine lv_imul hx hb dX9_does_4 ?_
  refine lv_istore_n (lv' := [(3, .int (835 * p1)), (0, .ref h0), (1, .int p1), (2, .int p2)]) hx hb dX9_does_5 rfl hl (by decide) rfl (fun ls hl => ?_)
  refine lv_iload_n hx hb dX9_does_6 rfl (lv_at hl 3 rfl) ?_
  refine lv_iconst (v := 0) hx hb dX9_does_7 (by decide) ?_
  refine lv_bipush (v := 99) hx hb dX9_does_8 (by decide +kernel) ?_
  refine ko_e (va_runS (As := [.int p2, .int 0, .int 99]) (rest := []) ⟨hx, hb, hml, hown, htG⟩ (kX9_in l g p2 0 99 _ rfl) (va_cwS 3 htG (GS g4_1 g4_2 g1_10 g4_3) rfl rfl rfl hs_X9_in ⟨Nat.le_of_ble_eq_true rfl, Nat.le_of_ble_eq_true rfl⟩) (PR_S hK hL hS hP [] rfl) rfl rfl hl.1 rfl (lv_room (Nat.le_of_ble_eq_true rfl)) dX9_does_10 ⟨Nat.zero_le _, Nat.zero_le _⟩) ?_
  refine lv_if_ne (tgt := 19) hx hb dX9_does_13 (by decide) (fun zc1 => ?_) (fun zc1 => ?_)
  · replace hm := (if_neg zc1).symm.trans hm
    refine lv_aload_n hx hb dX9_does_19 rfl (lv_at hl 1 rfl) ?_
    refine va_get (D := g.1) (ci := 8) (v := .ref h1) (C := RX9) (T := TX9) (N := 11) hx hb htG in_wsX90 hown hK.1 hP 0 rfl rfl 0 (by decide) (htG _ g3_195) (fun _ h9 => h9) rfl dX9_does_20 ?_
    refine lv_iload_n hx hb dX9_does_23 rfl (lv_at hl 0 rfl) ?_
    refine lv_iconst (v := 1) hx hb dX9_does_24 (by decide) ?_
    refine lv_iadd hx hb dX9_does_25 ?_
    obtain ⟨zb2, hm⟩ := ibk hm
    refine va_iald hx hb hK.1 hP 1 0 rfl rfl zb2 dX9_does_26 ?_
    refine lv_bipush (v := 16) hx hb dX9_does_27 (by decide +kernel) ?_
    refine lv_icmp_ne (tgt := 35) hx hb dX9_does_29 (by decide) (fun zc3 => ?_) (fun zc3 => ?_)
    · replace hm := (if_neg zc3).symm.trans hm
      refine lv_aload_n hx hb dX9_does_35 rfl (lv_at hl 1 rfl) ?_
      refine va_get (D := g.1) (ci := 8) (v := .ref h1) (C := RX9) (T := TX9) (N := 11) hx hb htG in_wsX90 hown hK.1 hP 0 rfl rfl 0 (by decide) (htG _ g3_195) (fun _ h9 => h9) rfl dX9_does_36 ?_
      refine lv_iload_n hx hb dX9_does_39 rfl (lv_at hl 0 rfl) ?_
      refine lv_iconst (v := 1) hx hb dX9_does_40 (by decide) ?_
      refine lv_iadd hx hb dX9_does_41 ?_
      refine va_iald hx hb hK.1 hP 1 0 rfl rfl zb2 dX9_does_42 ?_
      obtain ⟨zv4, ezv4, hm⟩ := bnk hm
      refine tope ezv4 ?_
      refine lv_istore (lv' := [(4, .int zv4), (3, .int (835 * p1)), (0, .ref h0), (1, .int p1), (2, .int p2)]) hx hb dX9_does_43 hl (by decide) rfl (fun ls hl => ?_)
      refine lv_aload_n hx hb dX9_does_45 rfl (lv_at hl 2 rfl) ?_
      refine va_get (D := g.1) (ci := 8) (v := .ref h1) (C := RX9) (T := TX9) (N := 11) hx hb htG in_wsX90 hown hK.1 hP 0 rfl rfl 0 (by decide) (htG _ g3_195) (fun _ h9 => h9) rfl dX9_does_46 ?_
      refine lv_iload_n hx hb dX9_does_49 rfl (lv_at hl 1 rfl) ?_
      refine lv_bipush (v := 26) hx hb dX9_does_50 (by decide +kernel) ?_
      refine lv_iadd hx hb dX9_does_52 ?_
      obtain ⟨zb5, hm⟩ := ibk hm
      refine va_iald hx hb hK.1 hP 1 0 rfl rfl zb5 dX9_does_53 ?_
      obtain ⟨zv6, ezv6, hm⟩ := bnk hm
      refine tope ezv6 ?_
      refine lv_istore (lv' := [(5, .int zv6), (4, .int zv4), (3, .int (835 * p1)), (0, .ref h0), (1, .int p1), (2, .int p2)]) hx hb dX9_does_54 hl (by decide) rfl (fun ls hl => ?_)
      refine lv_iconst (v := 0) hx hb dX9_does_56 (by decide) ?_
      refine lv_istore (lv' := [(6, .int 0), (5, .int zv6), (4, .int zv4), (3, .int (835 * p1)), (0, .ref h0), (1, .int p1), (2, .int p2)]) hx hb dX9_does_57 hl (by decide) rfl (fun ls hl => ?_)
      have hL0 : ∀ (Q : State → Prop), ∀ (n : Nat) (i0_6 : Int32) (x0 : MD) (out : MD) (H : Heap) (locs : List Loc) (ls : Array Slot), fX9_does_L0 p1 zv4 n i0_6 x0 = some out → va_P g.1 vwCl (w_X9 g h0 h1 h2 h3 x0) H → va_D A (w_X9 g h0 h1 h2 h3 x0) → va_S A s.heap H locs → lv_has ls 8 [(0, .ref h0), (2, .int p2), (3, .int (835 * p1)), (4, .int zv4), (5, .int zv6), (6, .int i0_6)] → (∀ (H : Heap) (locs : List Loc) (ls : Array Slot), va_P g.1 vwCl (w_X9 g h0 h1 h2 h3 out) H → va_D A (w_X9 g h0 h1 h2 h3 out) → va_S A s.heap H locs → lv_has ls 8 [(0, .ref h0), (2, .int p2), (3, .int (835 * p1)), (4, .int zv4), (5, .int zv6)] → W p l e (headSpec (wg yX9_does cX9_does 8 (some .int)) rm_X9_does).room s m (([.ref h0, .int p1, .int p2] : List Value).toArray) below meth c H locs 0 0 Q (F0 m 104 ls [])) → W p l e (headSpec (wg yX9_does cX9_does 8 (some .int)) rm_X9_does).room s m (([.ref h0, .int p1, .int p2] : List Value).toArray) below meth c H locs 0 0 Q (F0 m 59 ls []) := by
        intro Q n
        induction n with
        | zero =>
          intro i0_6 x0 out H locs ls hm hP hD hS hl hk
          simp [fX9_does_L0] at hm
        | succ n ih =>
          intro i0_6 x0 out H locs ls hm hP hD hS hl hk
          rw [fX9_does_L0] at hm
          refine lv_iload hx hb dX9_does_59 (lv_at hl 5 rfl) ?_
          refine lv_iconst (v := 3) hx hb dX9_does_61 (by decide) ?_
          refine lv_icmp_ge (tgt := 104) hx hb dX9_does_62 (by decide) (fun zc7 => ?_) (fun zc7 => ?_)
          · replace hm := (if_pos zc7).symm.trans hm
            obtain rfl := Option.some.inj hm
            exact hk H locs ls hP hD hS (lv_sub hl [0, 1, 2, 3, 4] rfl)
          · replace hm := (if_neg zc7).symm.trans hm
            refine lv_aload_n hx hb dX9_does_65 rfl (lv_at hl 0 rfl) ?_
            refine va_get (D := g.1) (ci := 8) (v := .ref h1) (C := RX9) (T := TX9) (N := 11) hx hb htG in_wsX90 hown hK.1 hP 0 rfl rfl 0 (by decide) (htG _ g3_195) (fun _ h9 => h9) rfl dX9_does_66 ?_
            refine lv_iload_n hx hb dX9_does_69 rfl (lv_at hl 2 rfl) ?_
            refine lv_bipush (v := 51) hx hb dX9_does_70 (by decide +kernel) ?_
            refine lv_iadd hx hb dX9_does_72 ?_
            refine lv_iload hx hb dX9_does_73 (lv_at hl 5 rfl) ?_
            refine lv_iload hx hb dX9_does_75 (lv_at hl 3 rfl) ?_
            refine ko_e (va_runS (As := [.int i0_6, .int zv4]) (rest := [.int ((835 * p1) + 51), .ref h1]) ⟨hx, hb, hml, hown, htG⟩ (kX9_place l g i0_6 zv4 _ rfl) (va_cwS 2 htG (GS g4_35 g4_36 g1_10 g4_37) rfl rfl rfl hs_X9_place ⟨Nat.le_of_ble_eq_true rfl, Nat.le_of_ble_eq_true rfl⟩) (PR_S hK hL hS hP [] rfl) rfl rfl hl.1 rfl (lv_room (Nat.le_of_ble_eq_true rfl)) dX9_does_77 ⟨Nat.zero_le _, Nat.zero_le _⟩) ?_
            refine lv_iadd hx hb dX9_does_80 ?_
            obtain ⟨zb8, hm⟩ := ibk hm
            refine va_iald hx hb hK.1 hP 1 0 rfl rfl zb8 dX9_does_81 ?_
            refine lv_if_ge (tgt := 98) hx hb dX9_does_82 (by decide) (fun zc9 => ?_) (fun zc9 => ?_)
            · replace hm := (if_pos zc9).symm.trans hm
              refine lv_iinc (v := i0_6 + 1) (lv' := [(6, .int (i0_6 + 1)), (0, .ref h0), (2, .int p2), (3, .int (835 * p1)), (4, .int zv4), (5, .int zv6)]) hx hb dX9_does_98 hl (k := 5) rfl rfl (by decide) rfl (fun ls hl => ?_)
              refine lv_goto (tgt := 59) hx hb dX9_does_101 (by decide) ?_
              exact ih (i0_6 + 1) x0 out H locs ls hm hP hD hS (lv_sub hl [1, 2, 3, 4, 5, 0] rfl) hk
            · replace hm := (if_neg zc9).symm.trans hm
              refine lv_aload_n hx hb dX9_does_85 rfl (lv_at hl 0 rfl) ?_
              refine lv_iload_n hx hb dX9_does_86 rfl (lv_at hl 2 rfl) ?_
              refine lv_iload hx hb dX9_does_87 (lv_at hl 5 rfl) ?_
              refine lv_iload hx hb dX9_does_89 (lv_at hl 3 rfl) ?_
              refine ko_e (va_runS (As := [.int i0_6, .int zv4]) (rest := [.int (835 * p1), .ref h0]) ⟨hx, hb, hml, hown, htG⟩ (kX9_place l g i0_6 zv4 _ rfl) (va_cwS 2 htG (GS g4_35 g4_36 g1_10 g4_37) rfl rfl rfl hs_X9_place ⟨Nat.le_of_ble_eq_true rfl, Nat.le_of_ble_eq_true rfl⟩) (PR_S hK hL hS hP [] rfl) rfl rfl hl.1 rfl (lv_room (Nat.le_of_ble_eq_true rfl)) dX9_does_91 ⟨Nat.zero_le _, Nat.zero_le _⟩) ?_
              obtain ⟨zq10, hzq10, hm⟩ := bdk hm
              refine kw_ieA (va_runV (As := [.int (835 * p1), .int (fX9_place i0_6 zv4)]) (rest := []) ⟨hx, hb, hml, hown, htG⟩ (kX9_awards l g h0 h1 h2 h3 _ x0 (835 * p1) (fX9_place i0_6 zv4) _ hzq10) (cwV 2 htG (GV g4_72 g4_74 gS_22 g1_10 g4_75) rfl rfl rfl hd_X9_awards ⟨Nat.le_of_ble_eq_true rfl, Nat.le_of_ble_eq_true rfl⟩) (PW_VA hK hL hS hP hD hA (ci := 8) rfl 0 rfl) rfl rfl hl.1 rfl (lv_room (Nat.le_of_ble_eq_true rfl)) dX9_does_94 ⟨Nat.zero_le _, Nat.zero_le _⟩) hD hS hA (fun _ => rfl) (fun H locs hP hD hS => ?_)
              have hP : va_P g.1 vwCl (w_X9 g h0 h1 h2 h3 zq10.2) H := hP
              have hD : va_D A (w_X9 g h0 h1 h2 h3 zq10.2) := hD
              refine lv_pop hx hb dX9_does_97 rfl ?_
              refine lv_iinc (v := i0_6 + 1) (lv' := [(6, .int (i0_6 + 1)), (0, .ref h0), (2, .int p2), (3, .int (835 * p1)), (4, .int zv4), (5, .int zv6)]) hx hb dX9_does_98 hl (k := 5) rfl rfl (by decide) rfl (fun ls hl => ?_)
              refine lv_goto (tgt := 59) hx hb dX9_does_101 (by decide) ?_
              exact ih (i0_6 + 1) zq10.2 out H locs ls hm hP hD hS (lv_sub hl [1, 2, 3, 4, 5, 0] rfl) hk
      obtain ⟨zq11, hzq11, hm⟩ := bdk hm
      refine hL0 _ 1000 0 x zq11 _ _ _ hzq11 hP hD hS (lv_sub hl [4, 6, 3, 2, 1, 0] rfl) (fun H locs ls hP hD hS hl => ?_)
      refine lv_aload_n hx hb dX9_does_104 rfl (lv_at hl 0 rfl) ?_
      refine va_get (D := g.1) (ci := 8) (v := .ref h1) (C := RX9) (T := TX9) (N := 11) hx hb htG in_wsX90 hown hK.1 hP 0 rfl rfl 0 (by decide) (htG _ g3_195) (fun _ h9 => h9) rfl dX9_does_105 ?_
      refine lv_iload_n hx hb dX9_does_108 rfl (lv_at hl 2 rfl) ?_
      refine lv_sipush (v := 819) hx hb dX9_does_109 (by decide +kernel) ?_
      refine lv_iadd hx hb dX9_does_112 ?_
      refine lv_iload hx hb dX9_does_113 (lv_at hl 3 rfl) ?_
      refine lv_iadd hx hb dX9_does_115 ?_
      refine lv_iload_n hx hb dX9_does_116 rfl (lv_at hl 1 rfl) ?_
      obtain ⟨zb12, hm⟩ := ibk hm
      obtain ⟨zf13, ezf13, hm⟩ := bnk hm
      refine iast_e hx hb hK.1 hP hD hS 1 0 rfl rfl zb12 dX9_does_117 ezf13 (fun H locs hP hD hS => ?_)
      have hP : va_P g.1 vwCl (w_X9 g h0 h1 h2 h3 (zf13, zq11.2.1, zq11.2.2.1, zq11.2.2.2.1, zq11.2.2.2.2.1, zq11.2.2.2.2.2.1, zq11.2.2.2.2.2.2.1, zq11.2.2.2.2.2.2.2.1, zq11.2.2.2.2.2.2.2.2.1, zq11.2.2.2.2.2.2.2.2.2.1, zq11.2.2.2.2.2.2.2.2.2.2)) H := hP
      have hD : va_D A (w_X9 g h0 h1 h2 h3 (zf13, zq11.2.1, zq11.2.2.1, zq11.2.2.2.1, zq11.2.2.2.2.1, zq11.2.2.2.2.2.1, zq11.2.2.2.2.2.2.1, zq11.2.2.2.2.2.2.2.1, zq11.2.2.2.2.2.2.2.2.1, zq11.2.2.2.2.2.2.2.2.2.1, zq11.2.2.2.2.2.2.2.2.2.2)) := hD
      refine lv_iconst (v := 0) hx hb dX9_does_118 (by decide) ?_
      refine lv_istore (lv' := [(6, .int 0), (0, .ref h0), (2, .int p2), (3, .int (835 * p1)), (4, .int zv4), (5, .int zv6)]) hx hb dX9_does_119 hl (by decide) rfl (fun ls hl => ?_)
      have hL1 : ∀ (Q : State → Prop), ∀ (n : Nat) (i1_6 : Int32) (x1 : MD) (out : MD) (H : Heap) (locs : List Loc) (ls : Array Slot), fX9_does_L1 p1 p2 zv4 n i1_6 x1 = some out → va_P g.1 vwCl (w_X9 g h0 h1 h2 h3 x1) H → va_D A (w_X9 g h0 h1 h2 h3 x1) → va_S A s.heap H locs → lv_has ls 8 [(0, .ref h0), (2, .int p2), (3, .int (835 * p1)), (4, .int zv4), (5, .int zv6), (6, .int i1_6)] → (∀ (H : Heap) (locs : List Loc) (ls : Array Slot), va_P g.1 vwCl (w_X9 g h0 h1 h2 h3 out) H → va_D A (w_X9 g h0 h1 h2 h3 out) → va_S A s.heap H locs → lv_has ls 8 [(0, .ref h0), (3, .int (835 * p1)), (5, .int zv6)] → W p l e (headSpec (wg yX9_does cX9_does 8 (some .int)) rm_X9_does).room s m (([.ref h0, .int p1, .int p2] : List Value).toArray) below meth c H locs 0 0 Q (F0 m 164 ls [])) → W p l e (headSpec (wg yX9_does cX9_does 8 (some .int)) rm_X9_does).room s m (([.ref h0, .int p1, .int p2] : List Value).toArray) below meth c H locs 0 0 Q (F0 m 121 ls []) := by
        intro Q n
        induction n with
        | zero =>
          intro i1_6 x1 out H locs ls hm hP hD hS hl hk
          simp [fX9_does_L1] at hm
        | succ n ih =>
          intro i1_6 x1 out H locs ls hm hP hD hS hl hk
          rw [fX9_does_L1] at hm
          refine lv_iload hx hb dX9_does_121 (lv_at hl 5 rfl) ?_
          refine lv_iconst (v := 3) hx hb dX9_does_123 (by decide) ?_
          refine lv_icmp_ge (tgt := 164) hx hb dX9_does_124 (by decide) (fun zc14 => ?_) (fun zc14 => ?_)
          · replace hm := (if_pos zc14).symm.trans hm
            obtain rfl := Option.some.inj hm
            exact hk H locs ls hP hD hS (lv_sub hl [0, 2, 4] rfl)
          · replace hm := (if_neg zc14).symm.trans hm
            refine lv_iload hx hb dX9_does_127 (lv_at hl 5 rfl) ?_
            refine lv_iload hx hb dX9_does_129 (lv_at hl 3 rfl) ?_
            refine ko_e (va_runS (As := [.int i1_6, .int zv4]) (rest := []) ⟨hx, hb, hml, hown, htG⟩ (kX9_place l g i1_6 zv4 _ rfl) (va_cwS 2 htG (GS g4_35 g4_36 g1_10 g4_37) rfl rfl rfl hs_X9_place ⟨Nat.le_of_ble_eq_true rfl, Nat.le_of_ble_eq_true rfl⟩) (PR_S hK hL hS hP [] rfl) rfl rfl hl.1 rfl (lv_room (Nat.le_of_ble_eq_true rfl)) dX9_does_131 ⟨Nat.zero_le _, Nat.zero_le _⟩) ?_
            refine lv_istore (lv' := [(7, .int (fX9_place i1_6 zv4)), (0, .ref h0), (2, .int p2), (3, .int (835 * p1)), (4, .int zv4), (5, .int zv6), (6, .int i1_6)]) hx hb dX9_does_134 hl (by decide) rfl (fun ls hl => ?_)
            refine lv_aload_n hx hb dX9_does_136 rfl (lv_at hl 1 rfl) ?_
            refine lv_iload_n hx hb dX9_does_137 rfl (lv_at hl 3 rfl) ?_
            refine lv_iload hx hb dX9_does_138 (lv_at hl 0 rfl) ?_
            refine lv_iload_n hx hb dX9_does_140 rfl (lv_at hl 2 rfl) ?_
            refine lv_aload_n hx hb dX9_does_141 rfl (lv_at hl 1 rfl) ?_
            refine lv_iload_n hx hb dX9_does_142 rfl (lv_at hl 3 rfl) ?_
            refine lv_iload hx hb dX9_does_143 (lv_at hl 0 rfl) ?_
            obtain ⟨zq15, hzq15, hm⟩ := bdk hm
            refine ko_e (va_runV (As := [.int (835 * p1), .int (fX9_place i1_6 zv4)]) (rest := [.int p2, .int (fX9_place i1_6 zv4), .int (835 * p1), .ref h0]) ⟨hx, hb, hml, hown, htG⟩ (kX9_bidsFor l g h0 h1 h2 h3 x1 (835 * p1) (fX9_place i1_6 zv4) _ hzq15) (cwV 2 htG (GV g4_46 g4_48 gS_19 g1_10 g4_49) rfl rfl rfl hd_X9_bidsFor ⟨Nat.le_of_ble_eq_true rfl, Nat.le_of_ble_eq_true rfl⟩) (PR_VA hK hL hS hP (ci := 8) rfl 0 rfl) rfl rfl hl.1 rfl (lv_room (Nat.le_of_ble_eq_true rfl)) dX9_does_145 ⟨Nat.zero_le _, Nat.zero_le _⟩) ?_
            obtain ⟨zq16, hzq16, hm⟩ := bdk hm
            refine kw_veA (va_runV (As := [.int (835 * p1), .int (fX9_place i1_6 zv4), .int p2, .int zq15]) (rest := []) ⟨hx, hb, hml, hown, htG⟩ (kX9_goesOn l g h0 h1 h2 h3 _ x1 (835 * p1) (fX9_place i1_6 zv4) p2 zq15 _ hzq16) (cwV 4 htG (GV g4_88 g4_90 gS_24 g1_10 g4_91) rfl rfl rfl hd_X9_goesOn ⟨Nat.le_of_ble_eq_true rfl, Nat.le_of_ble_eq_true rfl⟩) (PW_VA hK hL hS hP hD hA (ci := 8) rfl 0 rfl) rfl rfl hl.1 rfl (lv_room (Nat.le_of_ble_eq_true rfl)) dX9_does_148 ⟨Nat.zero_le _, Nat.zero_le _⟩) hD hS hA (fun _ => rfl) (fun H locs hP hD hS => ?_)
            have hP : va_P g.1 vwCl (w_X9 g h0 h1 h2 h3 zq16) H := hP
            have hD : va_D A (w_X9 g h0 h1 h2 h3 zq16) := hD
            refine lv_aload_n hx hb dX9_does_151 rfl (lv_at hl 1 rfl) ?_
            refine lv_iload_n hx hb dX9_does_152 rfl (lv_at hl 3 rfl) ?_
            refine lv_iload hx hb dX9_does_153 (lv_at hl 0 rfl) ?_
            obtain ⟨zq17, hzq17, hm⟩ := bdk hm
            refine kw_veA (va_runV (As := [.int (835 * p1), .int (fX9_place i1_6 zv4)]) (rest := []) ⟨hx, hb, hml, hown, htG⟩ (kX9_clears l g h0 h1 h2 h3 _ zq16 (835 * p1) (fX9_place i1_6 zv4) _ hzq17) (cwV 2 htG (GV g3_191 g3_193 gS_9 g1_10 g3_194) rfl rfl rfl hd_X9_clears ⟨Nat.le_of_ble_eq_true rfl, Nat.le_of_ble_eq_true rfl⟩) (PW_VA hK hL hS hP hD hA (ci := 8) rfl 0 rfl) rfl rfl hl.1 rfl (lv_room (Nat.le_of_ble_eq_true rfl)) dX9_does_155 ⟨Nat.zero_le _, Nat.zero_le _⟩) hD hS hA (fun _ => rfl) (fun H locs hP hD hS => ?_)
            have hP : va_P g.1 vwCl (w_X9 g h0 h1 h2 h3 zq17) H := hP
            have hD : va_D A (w_X9 g h0 h1 h2 h3 zq17) := hD
            refine lv_iinc (v := i1_6 + 1) (lv' := [(6, .int (i1_6 + 1)), (7, .int (fX9_place i1_6 zv4)), (0, .ref h0), (2, .int p2), (3, .int (835 * p1)), (4, .int zv4), (5, .int zv6)]) hx hb dX9_does_158 hl (k := 6) rfl rfl (by decide) rfl (fun ls hl => ?_)
            refine lv_goto (tgt := 121) hx hb dX9_does_161 (by decide) ?_
            exact ih (i1_6 + 1) zq17 out H locs ls hm hP hD hS (lv_sub hl [2, 3, 4, 5, 6, 0] rfl) hk
      obtain ⟨zq18, hzq18, hm⟩ := bdk hm
      refine hL1 _ 1000 0 (zf13, zq11.2.1, zq11.2.2.1, zq11.2.2.2.1, zq11.2.2.2.2.1, zq11.2.2.2.2.2.1, zq11.2.2.2.2.2.2.1, zq11.2.2.2.2.2.2.2.1, zq11.2.2.2.2.2.2.2.2.1, zq11.2.2.2.2.2.2.2.2.2.1, zq11.2.2.2.2.2.2.2.2.2.2) zq18 _ _ _ hzq18 hP hD hS (lv_sub hl [1, 2, 3, 4, 5, 0] rfl) (fun H locs ls hP hD hS hl => ?_)
      refine lv_aload_n hx hb dX9_does_164 rfl (lv_at hl 0 rfl) ?_
      refine va_get (D := g.1) (ci := 8) (v := .ref h1) (C := RX9) (T := TX9) (N := 11) hx hb htG in_wsX90 hown hK.1 hP 0 rfl rfl 0 (by decide) (htG _ g3_195) (fun _ h9 => h9) rfl dX9_does_165 ?_
      refine lv_iload_n hx hb dX9_does_168 rfl (lv_at hl 1 rfl) ?_
      refine lv_iconst (v := 1) hx hb dX9_does_169 (by decide) ?_
      refine lv_iadd hx hb dX9_does_170 ?_
      refine lv_dup2_11 hx hb dX9_does_171 rfl rfl ?_
      obtain ⟨zb19, hm⟩ := ibk hm
      refine va_iald hx hb hK.1 hP 1 0 rfl rfl zb19 dX9_does_172 ?_
      refine lv_iconst (v := 1) hx hb dX9_does_173 (by decide) ?_
      refine lv_iadd hx hb dX9_does_174 ?_
      obtain ⟨zf20, ezf20, hm⟩ := bnk hm
      refine iast_e hx hb hK.1 hP hD hS 1 0 rfl rfl zb19 dX9_does_175 ezf20 (fun H locs hP hD hS => ?_)
      have hP : va_P g.1 vwCl (w_X9 g h0 h1 h2 h3 (zf20, zq18.2.1, zq18.2.2.1, zq18.2.2.2.1, zq18.2.2.2.2.1, zq18.2.2.2.2.2.1, zq18.2.2.2.2.2.2.1, zq18.2.2.2.2.2.2.2.1, zq18.2.2.2.2.2.2.2.2.1, zq18.2.2.2.2.2.2.2.2.2.1, zq18.2.2.2.2.2.2.2.2.2.2)) H := hP
      have hD : va_D A (w_X9 g h0 h1 h2 h3 (zf20, zq18.2.1, zq18.2.2.1, zq18.2.2.2.1, zq18.2.2.2.2.1, zq18.2.2.2.2.2.1, zq18.2.2.2.2.2.2.1, zq18.2.2.2.2.2.2.2.1, zq18.2.2.2.2.2.2.2.2.1, zq18.2.2.2.2.2.2.2.2.2.1, zq18.2.2.2.2.2.2.2.2.2.2)) := hD
      refine lv_aload_n hx hb dX9_does_176 rfl (lv_at hl 0 rfl) ?_
      refine va_get (D := g.1) (ci := 8) (v := .ref h1) (C := RX9) (T := TX9) (N := 11) hx hb htG in_wsX90 hown hK.1 hP 0 rfl rfl 0 (by decide) (htG _ g3_195) (fun _ h9 => h9) rfl dX9_does_177 ?_
      refine lv_iload_n hx hb dX9_does_180 rfl (lv_at hl 1 rfl) ?_
      refine lv_bipush (v := 26) hx hb dX9_does_181 (by decide +kernel) ?_
      refine lv_iadd hx hb dX9_does_183 ?_
      obtain ⟨zb21, hm⟩ := ibk hm
      refine va_iald hx hb hK.1 hP 1 0 rfl rfl zb21 dX9_does_184 ?_
      refine lv_iload hx hb dX9_does_185 (lv_at hl 2 rfl) ?_
      refine lv_isub hx hb dX9_does_187 ?_
      exact W.iret (v := ((zf20 (((835 * p1) + 26).toNatClampNeg)) - zv6)) hx hb hr (fun t ht hW => ⟨⟨_, _, rfl, pr1 (Option.some.inj hm), atH ht hP⟩, hS.F ht⟩) hS.2.2 dX9_does_188
    · replace hm := (if_pos zc3).symm.trans hm
      refine lv_bipush (v := (-4)) hx hb dX9_does_32 (by decide +kernel) ?_
      exact W.iret (v := (-4)) hx hb hr (fun t ht hW => ⟨⟨_, _, rfl, pr1 (Option.some.inj hm), atH ht hP⟩, hS.F ht⟩) hS.2.2 dX9_does_34
  · replace hm := (if_pos zc1).symm.trans hm
    refine lv_bipush (v := (-2)) hx hb dX9_does_16 (by decide +kernel) ?_
    exact W.iret (v := (-2)) hx hb hr (fun t ht hW => ⟨⟨_, _, rfl, pr1 (Option.some.inj hm), atH ht hP⟩, hS.F ht⟩) hS.2.2 dX9_does_18
def fX9_begins (x : MD) (p1 : Int32) : Option (Int32 × MD) := (if ib ((835 * p1) + 1) 5845 = true then (if 16 ≤ (x.1 (((835 * p1) + 1).toNatClampNeg)) then (if ib (835 * p1) 5845 = true then (if (x.1 ((835 * p1).toNatClampNeg)) = 999 then some ((-3), x) else ((fX9_empties x p1).bind (fun zq5 => (bnd (upd zq5.1 (835 * p1).toNatClampNeg ((zq5.1 ((835 * p1).toNatClampNeg)) + 1)) (fun zf6 => some (zf6 ((835 * p1).toNatClampNeg), (zf6, zq5.2.1, zq5.2.2.1, zq5.2.2.2.1, zq5.2.2.2.2.1, zq5.2.2.2.2.2.1, zq5.2.2.2.2.2.2.1, zq5.2.2.2.2.2.2.2.1, zq5.2.2.2.2.2.2.2.2.1, zq5.2.2.2.2.2.2.2.2.2.1, zq5.2.2.2.2.2.2.2.2.2.2))))))) else none) else some ((-4), x)) else none)
abbrev rm_X9_begins : Jvm.Room := { frames := 2, cells := 0, slots := 0, locals := 46 }
theorem hd_X9_begins : yX9_begins.cls = RX9 ∧ yX9_begins.cls ≠ "java/lang/invoke/MethodHandle" ∧ yX9_begins.cls ≠ "java/lang/invoke/VarHandle" ∧ (parseMethodDescriptor yX9_begins.desc).map (fun d => d.parameters.length) = some 1 := by decide +kernel
set_option maxHeartbeats 4000000 in
set_option maxRecDepth 100000 in
theorem kX9_begins (l : Launch) (g : CX) (h0 h1 h2 h3 : Nat) (sz : Nat) (x : MD) (p1 : Int32) (res : Int32 × MD) (hm0 : fX9_begins x p1 = some res) : Met l yX9_begins (wg yX9_begins cX9_begins 3 (some .int)) rm_X9_begins (PW g [.ref h0, .int p1] sz (w_X9 g h0 h1 h2 h3 x)) (va_Qi (fun v u => v = res.1 ∧ u = res.2) (fun u t => va_P g.1 vwCl (w_X9 g h0 h1 h2 h3 u) t.heap) (va_A (w_X9 g h0 h1 h2 h3 x) sz)) 0 0 (va_A (w_X9 g h0 h1 h2 h3 x) sz) := by
  refine Met.ofW (cc := cX9_begins) (maxL := 3) (ret := (some .int)) (by decide) rfl ?_
  intro p e s m args below meth c s₁ B hml hv
  obtain ⟨rfl, hsz, hP, hK, hD0, hL⟩ := hv
  have hx := B.exec
  have hb := B.bytes
  have hr := B.returns
  have htG := wg_G (atoms_spec (ws := wg yX9_begins cX9_begins 3 (some .int)) B.pre)
  have hown : s.vm.findClass RX9 = some m.cls := findClass_of_methodNamed B.named
  have hlocks := B.notSynchronized
  subst hsz
  have hD := hD0.self (sz := s.heap.size)
  generalize hAe : va_A (w_X9 g h0 h1 h2 h3 x) s.heap.size = A at hD hL ⊢
  have hA : ∀ q : Nat, s.heap.size ≤ q → A q := fun q h => by rw [← hAe]; exact Or.inr h
  have hS : va_S A s.heap s.heap [] := va_S.rf
  have hl := lv_entry ([.ref h0, .int p1]) (n := 3) (Nat.le_of_ble_eq_true rfl)
  rw [lg_entry_eq]
  generalize (lg_sl ([.ref h0, .int p1]) ++ List.replicate (3 - (lg_sl ([.ref h0, .int p1])).length) Slot.unset).toArray = ls at hl ⊢
  have hl : lv_has ls 3 [(0, .ref h0), (1, .int p1)] := hl
  have hm := hm0
  unfold fX9_begins at hm
  refine lv_sipush (v := 835) hx hb dX9_begins_0 (by decide +kernel) ?_
  refine lv_iload_n hx hb dX9_begins_3 rfl (lv_at hl 1 rfl) ?_
  refine lv_imul hx hb dX9_begins_4 ?_
  refine lv_istore_n (lv' := [(2, .int (835 * p1)), (0, .ref h0), (1, .int p1)]) hx hb dX9_begins_5 rfl hl (by decide) rfl (fun ls hl => ?_)
  refine lv_aload_n hx hb dX9_begins_6 rfl (lv_at hl 1 rfl) ?_
  refine va_get (D := g.1) (ci := 8) (v := .ref h1) (C := RX9) (T := TX9) (N := 11) hx hb htG in_wsX90 hown hK.1 hP 0 rfl rfl 0 (by decide) (htG _ g3_195) (fun _ h9 => h9) rfl dX9_begins_7 ?_
  refine lv_iload_n hx hb dX9_begins_10 rfl (lv_at hl 0 rfl) ?_
  refine lv_iconst (v := 1) hx hb dX9_begins_11 (by decide) ?_
  refine lv_iadd hx hb dX9_begins_12 ?_
  obtain ⟨zb1, hm⟩ := ibk hm
  refine va_iald hx hb hK.1 hP 1 0 rfl rfl zb1 dX9_begins_13 ?_
  refine lv_bipush (v := 16) hx hb dX9_begins_14 (by decide +kernel) ?_
  refine lv_icmp_ge (tgt := 22) hx hb dX9_begins_16 (by decide) (fun zc2 => ?_) (fun zc2 => ?_)
  · replace hm := (if_pos zc2).symm.trans hm
    refine lv_aload_n hx hb dX9_begins_22 rfl (lv_at hl 1 rfl) ?_
    refine va_get (D := g.1) (ci := 8) (v := .ref h1) (C := RX9) (T := TX9) (N := 11) hx hb htG in_wsX90 hown hK.1 hP 0 rfl rfl 0 (by decide) (htG _ g3_195) (fun _ h9 => h9) rfl dX9_begins_23 ?_
    refine lv_iload_n hx hb dX9_begins_26 rfl (lv_at hl 0 rfl) ?_
    obtain ⟨zb3, hm⟩ := ibk hm
    refine va_iald hx hb hK.1 hP 1 0 rfl rfl zb3 dX9_begins_27 ?_
    refine lv_sipush (v := 999) hx hb dX9_begins_28 (by decide +kernel) ?_
    refine lv_icmp_ne (tgt := 37) hx hb dX9_begins_31 (by decide) (fun zc4 => ?_) (fun zc4 => ?_)
    · replace hm := (if_neg zc4).symm.trans hm
      refine lv_aload_n hx hb dX9_begins_37 rfl (lv_at hl 1 rfl) ?_
      refine lv_iload_n hx hb dX9_begins_38 rfl (lv_at hl 2 rfl) ?_
      obtain ⟨zq5, hzq5, hm⟩ := bdk hm
      refine kw_veA (va_runV (As := [.int p1]) (rest := []) ⟨hx, hb, hml, hown, htG⟩ (kX9_empties l g h0 h1 h2 h3 _ x p1 _ hzq5) (cwV 1 htG (GV g3_187 g3_189 gS_8 g1_10 g3_190) rfl rfl rfl hd_X9_empties ⟨Nat.le_of_ble_eq_true rfl, Nat.le_of_ble_eq_true rfl⟩) (PW_VA hK hL hS hP hD hA (ci := 8) rfl 0 rfl) rfl rfl hl.1 rfl (lv_room (Nat.le_of_ble_eq_true rfl)) dX9_begins_39 ⟨Nat.zero_le _, Nat.zero_le _⟩) hD hS hA (fun _ => rfl) (fun H locs hP hD hS => ?_)
      have hP : va_P g.1 vwCl (w_X9 g h0 h1 h2 h3 zq5) H := hP
      have hD : va_D A (w_X9 g h0 h1 h2 h3 zq5) := hD
      refine lv_aload_n hx hb dX9_begins_42 rfl (lv_at hl 1 rfl) ?_
      refine va_get (D := g.1) (ci := 8) (v := .ref h1) (C := RX9) (T := TX9) (N := 11) hx hb htG in_wsX90 hown hK.1 hP 0 rfl rfl 0 (by decide) (htG _ g3_195) (fun _ h9 => h9) rfl dX9_begins_43 ?_
      refine lv_iload_n hx hb dX9_begins_46 rfl (lv_at hl 0 rfl) ?_
      refine lv_dup2_11 hx hb dX9_begins_47 rfl rfl ?_
      refine va_iald hx hb hK.1 hP 1 0 rfl rfl zb3 dX9_begins_48 ?_
      refine lv_iconst (v := 1) hx hb dX9_begins_49 (by decide) ?_
      refine lv_iadd hx hb dX9_begins_50 ?_
      obtain ⟨zf6, ezf6, hm⟩ := bnk hm
      refine iast_e hx hb hK.1 hP hD hS 1 0 rfl rfl zb3 dX9_begins_51 ezf6 (fun H locs hP hD hS => ?_)
      have hP : va_P g.1 vwCl (w_X9 g h0 h1 h2 h3 (zf6, zq5.2.1, zq5.2.2.1, zq5.2.2.2.1, zq5.2.2.2.2.1, zq5.2.2.2.2.2.1, zq5.2.2.2.2.2.2.1, zq5.2.2.2.2.2.2.2.1, zq5.2.2.2.2.2.2.2.2.1, zq5.2.2.2.2.2.2.2.2.2.1, zq5.2.2.2.2.2.2.2.2.2.2)) H := hP
      have hD : va_D A (w_X9 g h0 h1 h2 h3 (zf6, zq5.2.1, zq5.2.2.1, zq5.2.2.2.1, zq5.2.2.2.2.1, zq5.2.2.2.2.2.1, zq5.2.2.2.2.2.2.1, zq5.2.2.2.2.2.2.2.1, zq5.2.2.2.2.2.2.2.2.1, zq5.2.2.2.2.2.2.2.2.2.1, zq5.2.2.2.2.2.2.2.2.2.2)) := hD
      refine lv_aload_n hx hb dX9_begins_52 rfl (lv_at hl 1 rfl) ?_
      refine va_get (D := g.1) (ci := 8) (v := .ref h1) (C := RX9) (T := TX9) (N := 11) hx hb htG in_wsX90 hown hK.1 hP 0 rfl rfl 0 (by decide) (htG _ g3_195) (fun _ h9 => h9) rfl dX9_begins_53 ?_
      refine lv_iload_n hx hb dX9_begins_56 rfl (lv_at hl 0 rfl) ?_
      refine va_iald hx hb hK.1 hP 1 0 rfl rfl zb3 dX9_begins_57 ?_
      exact W.iret (v := (zf6 ((835 * p1).toNatClampNeg))) hx hb hr (fun t ht hW => ⟨⟨_, _, rfl, pr1 (Option.some.inj hm), atH ht hP⟩, hS.F ht⟩) hS.2.2 dX9_begins_58
    · replace hm := (if_pos zc4).symm.trans hm
      refine lv_bipush (v := (-3)) hx hb dX9_begins_34 (by decide +kernel) ?_
      exact W.iret (v := (-3)) hx hb hr (fun t ht hW => ⟨⟨_, _, rfl, pr1 (Option.some.inj hm), atH ht hP⟩, hS.F ht⟩) hS.2.2 dX9_begins_36
  · replace hm := (if_neg zc2).symm.trans hm
    refine lv_bipush (v := (-4)) hx hb dX9_begins_19 (by decide +kernel) ?_
    exact W.iret (v := (-4)) hx hb hr (fun t ht hW => ⟨⟨_, _, rfl, pr1 (Option.some.inj hm), atH ht hP⟩, hS.F ht⟩) hS.2.2 dX9_begins_21
def fX9_settles (x : MD) (p1 : Int32) : Option (Int32 × MD) := (if p1 < 0 then some (p1, x) else ((fX9_records x).bind (fun zq2 => ((fX9_copies zq2 6 0).bind (fun zq3 => some (p1, zq3))))))
abbrev rm_X9_settles : Jvm.Room := { frames := 2, cells := 0, slots := 0, locals := 44 }
theorem hd_X9_settles : yX9_settles.cls = RX9 ∧ yX9_settles.cls ≠ "java/lang/invoke/MethodHandle" ∧ yX9_settles.cls ≠ "java/lang/invoke/VarHandle" ∧ (parseMethodDescriptor yX9_settles.desc).map (fun d => d.parameters.length) = some 1 := by decide +kernel
set_option maxHeartbeats 4000000 in
set_option maxRecDepth 100000 in
theorem kX9_settles (l : Launch) (g : CX) (h0 h1 h2 h3 : Nat) (sz : Nat) (x : MD) (p1 : Int32) (res : Int32 × MD) (hm0 : fX9_settles x p1 = some res) : Met l yX9_settles (wg yX9_settles cX9_settles 2 (some .int)) rm_X9_settles (PW g [.ref h0, .int p1] sz (w_X9 g h0 h1 h2 h3 x)) (va_Qi (fun v u => v = res.1 ∧ u = res.2) (fun u t => va_P g.1 vwCl (w_X9 g h0 h1 h2 h3 u) t.heap) (va_A (w_X9 g h0 h1 h2 h3 x) sz)) 0 0 (va_A (w_X9 g h0 h1 h2 h3 x) sz) := by
  refine Met.ofW (cc := cX9_settles) (maxL := 2) (ret := (some .int)) (by decide) rfl ?_
  intro p e s m args below meth c s₁ B hml hv
  obtain ⟨rfl, hsz, hP, hK, hD0, hL⟩ := hv
  have hx := B.exec
  have hb := B.bytes
  have hr := B.returns
  have htG := wg_G (atoms_spec (ws := wg yX9_settles cX9_settles 2 (some .int)) B.pre)
  have hown : s.vm.findClass RX9 = some m.cls := findClass_of_methodNamed B.named
  have hlocks := B.notSynchronized
  subst hsz
  have hD := hD0.self (sz := s.heap.size)
  generalize hAe : va_A (w_X9 g h0 h1 h2 h3 x) s.heap.size = A at hD hL ⊢
  have hA : ∀ q : Nat, s.heap.size ≤ q → A q := fun q h => by rw [← hAe]; exact Or.inr h
  have hS : va_S A s.heap s.heap [] := va_S.rf
  have hl := lv_entry ([.ref h0, .int p1]) (n := 2) (Nat.le_of_ble_eq_true rfl)
  rw [lg_entry_eq]
  generalize (lg_sl ([.ref h0, .int p1]) ++ List.replicate (2 - (lg_sl ([.ref h0, .int p1])).length) Slot.unset).toArray = ls at hl ⊢
  have hl : lv_has ls 2 [(0, .ref h0), (1, .int p1)] := hl
  have hm := hm0
  unfold fX9_settles at hm
  refine lv_iload_n hx hb dX9_settles_0 rfl (lv_at hl 1 rfl) ?_
  refine lv_if_lt (tgt := 15) hx hb dX9_settles_1 (by decide) (fun zc1 => ?_) (fun zc1 => ?_)
  · replace hm := (if_pos zc1).symm.trans hm
    refine lv_iload_n hx hb dX9_settles_15 rfl (lv_at hl 1 rfl) ?_
    exact W.iret (v := p1) hx hb hr (fun t ht hW => ⟨⟨_, _, rfl, pr1 (Option.some.inj hm), atH ht hP⟩, hS.F ht⟩) hS.2.2 dX9_settles_16
  · replace hm := (if_neg zc1).symm.trans hm
    refine lv_aload_n hx hb dX9_settles_4 rfl (lv_at hl 0 rfl) ?_
    obtain ⟨zq2, hzq2, hm⟩ := bdk hm
    refine kw_veA (va_runV (As := []) (rest := []) ⟨hx, hb, hml, hown, htG⟩ (kX9_records l g h0 h1 h2 h3 _ x _ hzq2) (cwV 0 htG (GV g4_12 g4_14 gS_14 g1_10 g4_15) rfl rfl rfl hd_X9_records ⟨Nat.le_of_ble_eq_true rfl, Nat.le_of_ble_eq_true rfl⟩) (PW_VA hK hL hS hP hD hA (ci := 8) rfl 0 rfl) rfl rfl hl.1 rfl (lv_room (Nat.le_of_ble_eq_true rfl)) dX9_settles_5 ⟨Nat.zero_le _, Nat.zero_le _⟩) hD hS hA (fun _ => rfl) (fun H locs hP hD hS => ?_)
    have hP : va_P g.1 vwCl (w_X9 g h0 h1 h2 h3 zq2) H := hP
    have hD : va_D A (w_X9 g h0 h1 h2 h3 zq2) := hD
    refine lv_aload_n hx hb dX9_settles_8 rfl (lv_at hl 0 rfl) ?_
    refine lv_bipush (v := 6) hx hb dX9_settles_9 (by decide +kernel) ?_
    refine lv_iconst (v := 0) hx hb dX9_settles_11 (by decide) ?_
    obtain ⟨zq3, hzq3, hm⟩ := bdk hm
    refine kw_veA (va_runV (As := [.int 6, .int 0]) (rest := []) ⟨hx, hb, hml, hown, htG⟩ (kX9_copies l g h0 h1 h2 h3 _ zq2 6 0 _ hzq3) (cwV 2 htG (GV g3_233 g3_235 gS_10 g1_10 g3_236) rfl rfl rfl hd_X9_copies ⟨Nat.le_of_ble_eq_true rfl, Nat.le_of_ble_eq_true rfl⟩) (PW_VA hK hL hS hP hD hA (ci := 8) rfl 0 rfl) rfl rfl hl.1 rfl (lv_room (Nat.le_of_ble_eq_true rfl)) dX9_settles_12 ⟨Nat.zero_le _, Nat.zero_le _⟩) hD hS hA (fun _ => rfl) (fun H locs hP hD hS => ?_)
    have hP : va_P g.1 vwCl (w_X9 g h0 h1 h2 h3 zq3) H := hP
    have hD : va_D A (w_X9 g h0 h1 h2 h3 zq3) := hD
    refine lv_iload_n hx hb dX9_settles_15 rfl (lv_at hl 1 rfl) ?_
    exact W.iret (v := p1) hx hb hr (fun t ht hW => ⟨⟨_, _, rfl, pr1 (Option.some.inj hm), atH ht hP⟩, hS.F ht⟩) hS.2.2 dX9_settles_16
