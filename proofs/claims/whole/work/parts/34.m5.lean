def fX9_expect (x : MD) (p1 : Int32) (p2 : Int32) : Option (Int32 × MD) := ((fX9_copies x 0 6).bind (fun zq1 => ((fX9_expects zq1 6 p1 p2).bind (fun zq2 => ((fX9_settles zq2.2 zq2.1).bind (fun zq3 => some (zq3.1, zq3.2)))))))
abbrev rm_X9_expect : Jvm.Room := { frames := 3, cells := 0, slots := 0, locals := 65 }
theorem hd_X9_expect : yX9_expect.cls = RX9 ∧ yX9_expect.cls ≠ "java/lang/invoke/MethodHandle" ∧ yX9_expect.cls ≠ "java/lang/invoke/VarHandle" ∧ (parseMethodDescriptor yX9_expect.desc).map (fun d => d.parameters.length) = some 2 := by decide +kernel
set_option maxHeartbeats 4000000 in
set_option maxRecDepth 100000 in
theorem kX9_expect (l : Launch) (g : CX) (h0 h1 h2 h3 : Nat) (sz : Nat) (x : MD) (p1 : Int32) (p2 : Int32) (res : Int32 × MD) (hm0 : fX9_expect x p1 p2 = some res) : Met l yX9_expect (wg yX9_expect cX9_expect 3 (some .int)) rm_X9_expect (PW g [.ref h0, .int p1, .int p2] sz (w_X9 g h0 h1 h2 h3 x)) (va_Qi (fun v u => v = res.1 ∧ u = res.2) (fun u t => va_P g.1 vwCl (w_X9 g h0 h1 h2 h3 u) t.heap) (va_A (w_X9 g h0 h1 h2 h3 x) sz)) 0 0 (va_A (w_X9 g h0 h1 h2 h3 x) sz) := by
  refine Met.ofW (cc := cX9_expect) (maxL := 3) (ret := (some .int)) (by decide) rfl ?_
  intro p e s m args below meth c s₁ B hml hv
  obtain ⟨rfl, hsz, hP, hK, hD0, hL⟩ := hv
  have hx := B.exec
  have hb := B.bytes
  have hr := B.returns
  have htG := wg_G (atoms_spec (ws := wg yX9_expect cX9_expect 3 (some .int)) B.pre)
  have hown : s.vm.findClass RX9 = some m.cls := findClass_of_methodNamed B.named
  have hlocks := B.notSynchronized
  subst hsz
  have hD := hD0.self (sz := s.heap.size)
  generalize hAe : va_A (w_X9 g h0 h1 h2 h3 x) s.heap.size = A at hD hL ⊢
  have hA : ∀ q : Nat, s.heap.size ≤ q → A q := fun q h => by rw [← hAe]; exact Or.inr h
  have hS : va_S A s.heap s.heap [] := va_S.rf
  have hl := lv_entry ([.ref h0, .int p1, .int p2]) (n := 3) (Nat.le_of_ble_eq_true rfl)
  rw [lg_entry_eq]
  generalize (lg_sl ([.ref h0, .int p1, .int p2]) ++ List.replicate (3 - (lg_sl ([.ref h0, .int p1, .int p2])).length) Slot.unset).toArray = ls at hl ⊢
  have hl : lv_has ls 3 [(0, .ref h0), (1, .int p1), (2, .int p2)] := hl
  have hm := hm0
  unfold fX9_expect at hm
  refine lv_aload_n hx hb dX9_expect_0 rfl (lv_at hl 0 rfl) ?_
  refine lv_iconst (v := 0) hx hb dX9_expect_1 (by decide) ?_
  refine lv_bipush (v := 6) hx hb dX9_expect_2 (by decide +kernel) ?_
  obtain ⟨zq1, hzq1, hm⟩ := bdk hm
  refine kw_veA (va_runV (As := [.int 0, .int 6]) (rest := []) ⟨hx, hb, hml, hown, htG⟩ (kX9_copies l g h0 h1 h2 h3 _ x 0 6 _ hzq1) (cwV 2 htG (GV g3_233 g3_235 gS_10 g1_10 g3_236) rfl rfl rfl hd_X9_copies ⟨Nat.le_of_ble_eq_true rfl, Nat.le_of_ble_eq_true rfl⟩) (PW_VA hK hL hS hP hD hA (ci := 8) rfl 0 rfl) rfl rfl hl.1 rfl (lv_room (Nat.le_of_ble_eq_true rfl)) dX9_expect_4 ⟨Nat.zero_le _, Nat.zero_le _⟩) hD hS hA (fun _ => rfl) (fun H locs hP hD hS => ?_)
  have hP : va_P g.1 vwCl (w_X9 g h0 h1 h2 h3 zq1) H := hP
  have hD : va_D A (w_X9 g h0 h1 h2 h3 zq1) := hD
  refine lv_aload_n hx hb dX9_expect_7 rfl (lv_at hl 0 rfl) ?_
  refine lv_aload_n hx hb dX9_expect_8 rfl (lv_at hl 0 rfl) ?_
  refine lv_bipush (v := 6) hx hb dX9_expect_9 (by decide +kernel) ?_
  refine lv_iload_n hx hb dX9_expect_11 rfl (lv_at hl 1 rfl) ?_
  refine lv_iload_n hx hb dX9_expect_12 rfl (lv_at hl 2 rfl) ?_
  obtain ⟨zq2, hzq2, hm⟩ := bdk hm
  refine kw_ieA (va_runV (As := [.int 6, .int p1, .int p2]) (rest := [.ref h0]) ⟨hx, hb, hml, hown, htG⟩ (kX9_expects l g h0 h1 h2 h3 _ zq1 6 p1 p2 _ hzq2) (cwV 3 htG (GV g3_237 g3_239 gS_11 g1_10 g4_0) rfl rfl rfl hd_X9_expects ⟨Nat.le_of_ble_eq_true rfl, Nat.le_of_ble_eq_true rfl⟩) (PW_VA hK hL hS hP hD hA (ci := 8) rfl 0 rfl) rfl rfl hl.1 rfl (lv_room (Nat.le_of_ble_eq_true rfl)) dX9_expect_13 ⟨Nat.zero_le _, Nat.zero_le _⟩) hD hS hA (fun _ => rfl) (fun H locs hP hD hS => ?_)
  have hP : va_P g.1 vwCl (w_X9 g h0 h1 h2 h3 zq2.2) H := hP
  have hD : va_D A (w_X9 g h0 h1 h2 h3 zq2.2) := hD
  obtain ⟨zq3, hzq3, hm⟩ := bdk hm
  refine kw_ieA (va_runV (As := [.int zq2.1]) (rest := []) ⟨hx, hb, hml, hown, htG⟩ (kX9_settles l g h0 h1 h2 h3 _ zq2.2 zq2.1 _ hzq3) (cwV 1 htG (GV g4_8 g4_10 gS_13 g1_10 g4_11) rfl rfl rfl hd_X9_settles ⟨Nat.le_of_ble_eq_true rfl, Nat.le_of_ble_eq_true rfl⟩) (PW_VA hK hL hS hP hD hA (ci := 8) rfl 0 rfl) rfl rfl hl.1 rfl (lv_room (Nat.le_of_ble_eq_true rfl)) dX9_expect_16 ⟨Nat.zero_le _, Nat.zero_le _⟩) hD hS hA (fun _ => rfl) (fun H locs hP hD hS => ?_)
  have hP : va_P g.1 vwCl (w_X9 g h0 h1 h2 h3 zq3.2) H := hP
  have hD : va_D A (w_X9 g h0 h1 h2 h3 zq3.2) := hD
  exact W.iret (v := zq3.1) hx hb hr (fun t ht hW => ⟨⟨_, _, rfl, pr1 (Option.some.inj hm), atH ht hP⟩, hS.F ht⟩) hS.2.2 dX9_expect_19
def fX9_fund (x : MD) (p1 : Int32) (p2 : Int32) : Option (Int32 × MD) := (if (fX9_in p1 0 5) = 0 then some ((-1), x) else (if (fX9_in p2 1 999) = 0 then some ((-2), x) else (if ib (2 + p1) 5845 = true then (if (x.1 ((2 + p1).toNatClampNeg)) ≤ (9999 - p2) then ((fX9_records x).bind (fun zq5 => (bnd (upd zq5.1 (2 + p1).toNatClampNeg ((zq5.1 ((2 + p1).toNatClampNeg)) + p2)) (fun zf6 => (bnd (upd zf6 (32 : Int32).toNatClampNeg ((zf6 ((32 : Int32).toNatClampNeg)) + p2)) (fun zf7 => some (zf7 ((2 + p1).toNatClampNeg), (zf7, zq5.2.1, zq5.2.2.1, zq5.2.2.2.1, zq5.2.2.2.2.1, zq5.2.2.2.2.2.1, zq5.2.2.2.2.2.2.1, zq5.2.2.2.2.2.2.2.1, zq5.2.2.2.2.2.2.2.2.1, zq5.2.2.2.2.2.2.2.2.2.1, zq5.2.2.2.2.2.2.2.2.2.2)))))))) else some ((-3), x)) else none)))
abbrev rm_X9_fund : Jvm.Room := { frames := 2, cells := 0, slots := 0, locals := 44 }
theorem hd_X9_fund : yX9_fund.cls = RX9 ∧ yX9_fund.cls ≠ "java/lang/invoke/MethodHandle" ∧ yX9_fund.cls ≠ "java/lang/invoke/VarHandle" ∧ (parseMethodDescriptor yX9_fund.desc).map (fun d => d.parameters.length) = some 2 := by decide +kernel
set_option maxHeartbeats 4000000 in
set_option maxRecDepth 100000 in
theorem kX9_fund (l : Launch) (g : CX) (h0 h1 h2 h3 : Nat) (sz : Nat) (x : MD) (p1 : Int32) (p2 : Int32) (res : Int32 × MD) (hm0 : fX9_fund x p1 p2 = some res) : Met l yX9_fund (wg yX9_fund cX9_fund 3 (some .int)) rm_X9_fund (PW g [.ref h0, .int p1, .int p2] sz (w_X9 g h0 h1 h2 h3 x)) (va_Qi (fun v u => v = res.1 ∧ u = res.2) (fun u t => va_P g.1 vwCl (w_X9 g h0 h1 h2 h3 u) t.heap) (va_A (w_X9 g h0 h1 h2 h3 x) sz)) 0 0 (va_A (w_X9 g h0 h1 h2 h3 x) sz) := by
  refine Met.ofW (cc := cX9_fund) (maxL := 3) (ret := (some .int)) (by decide) rfl ?_
  intro p e s m args below meth c s₁ B hml hv
  obtain ⟨rfl, hsz, hP, hK, hD0, hL⟩ := hv
  have hx := B.exec
  have hb := B.bytes
  have hr := B.returns
  have htG := wg_G (atoms_spec (ws := wg yX9_fund cX9_fund 3 (some .int)) B.pre)
  have hown : s.vm.findClass RX9 = some m.cls := findClass_of_methodNamed B.named
  have hlocks := B.notSynchronized
  subst hsz
  have hD := hD0.self (sz := s.heap.size)
  generalize hAe : va_A (w_X9 g h0 h1 h2 h3 x) s.heap.size = A at hD hL ⊢
  have hA : ∀ q : Nat, s.heap.size ≤ q → A q := fun q h => by rw [← hAe]; exact Or.inr h
  have hS : va_S A s.heap s.heap [] := va_S.rf
  have hl := lv_entry ([.ref h0, .int p1, .int p2]) (n := 3) (Nat.le_of_ble_eq_true rfl)
  rw [lg_entry_eq]
  generalize (lg_sl ([.ref h0, .int p1, .int p2]) ++ List.replicate (3 - (lg_sl ([.ref h0, .int p1, .int p2])).length) Slot.unset).toArray = ls at hl ⊢
  have hl : lv_has ls 3 [(0, .ref h0), (1, .int p1), (2, .int p2)] := hl
  have hm := hm0
  unfold fX9_fund at hm
  refine lv_iload_n hx hb dX9_fund_0 rfl (lv_at hl 1 rfl) ?_
  refine lv_iconst (v := 0) hx hb dX9_fund_1 (by decide) ?_
  refine lv_iconst (v := 5) hx hb dX9_fund_2 (by decide) ?_
  refine ko_e (va_runS (As := [.int p1, .int 0, .int 5]) (rest := []) ⟨hx, hb, hml, hown, htG⟩ (kX9_in l g p1 0 5 _ rfl) (va_cwS 3 htG (GS g4_1 g4_2 g1_10 g4_3) rfl rfl rfl hs_X9_in ⟨Nat.le_of_ble_eq_true rfl, Nat.le_of_ble_eq_true rfl⟩) (PR_S hK hL hS hP [] rfl) rfl rfl hl.1 rfl (lv_room (Nat.le_of_ble_eq_true rfl)) dX9_fund_3 ⟨Nat.zero_le _, Nat.zero_le _⟩) ?_
  refine lv_if_ne (tgt := 11) hx hb dX9_fund_6 (by decide) (fun zc1 => ?_) (fun zc1 => ?_)
  · replace hm := (if_neg zc1).symm.trans hm
    refine lv_iload_n hx hb dX9_fund_11 rfl (lv_at hl 2 rfl) ?_
    refine lv_iconst (v := 1) hx hb dX9_fund_12 (by decide) ?_
    refine lv_sipush (v := 999) hx hb dX9_fund_13 (by decide +kernel) ?_
    refine ko_e (va_runS (As := [.int p2, .int 1, .int 999]) (rest := []) ⟨hx, hb, hml, hown, htG⟩ (kX9_in l g p2 1 999 _ rfl) (va_cwS 3 htG (GS g4_1 g4_2 g1_10 g4_3) rfl rfl rfl hs_X9_in ⟨Nat.le_of_ble_eq_true rfl, Nat.le_of_ble_eq_true rfl⟩) (PR_S hK hL hS hP [] rfl) rfl rfl hl.1 rfl (lv_room (Nat.le_of_ble_eq_true rfl)) dX9_fund_16 ⟨Nat.zero_le _, Nat.zero_le _⟩) ?_
    refine lv_if_ne (tgt := 25) hx hb dX9_fund_19 (by decide) (fun zc2 => ?_) (fun zc2 => ?_)
    · replace hm := (if_neg zc2).symm.trans hm
      refine lv_aload_n hx hb dX9_fund_25 rfl (lv_at hl 0 rfl) ?_
      refine va_get (D := g.1) (ci := 8) (v := .ref h1) (C := RX9) (T := TX9) (N := 11) hx hb htG in_wsX90 hown hK.1 hP 0 rfl rfl 0 (by decide) (htG _ g3_195) (fun _ h9 => h9) rfl dX9_fund_26 ?_
      refine lv_iconst (v := 2) hx hb dX9_fund_29 (by decide) ?_
      refine lv_iload_n hx hb dX9_fund_30 rfl (lv_at hl 1 rfl) ?_
      refine lv_iadd hx hb dX9_fund_31 ?_
      obtain ⟨zb3, hm⟩ := ibk hm
      refine va_iald hx hb hK.1 hP 1 0 rfl rfl zb3 dX9_fund_32 ?_
      refine lv_sipush (v := 9999) hx hb dX9_fund_33 (by decide +kernel) ?_
      refine lv_iload_n hx hb dX9_fund_36 rfl (lv_at hl 2 rfl) ?_
      refine lv_isub hx hb dX9_fund_37 ?_
      refine lv_icmp_le (tgt := 44) hx hb dX9_fund_38 (by decide) (fun zc4 => ?_) (fun zc4 => ?_)
      · replace hm := (if_pos zc4).symm.trans hm
        refine lv_aload_n hx hb dX9_fund_44 rfl (lv_at hl 0 rfl) ?_
        obtain ⟨zq5, hzq5, hm⟩ := bdk hm
        refine kw_veA (va_runV (As := []) (rest := []) ⟨hx, hb, hml, hown, htG⟩ (kX9_records l g h0 h1 h2 h3 _ x _ hzq5) (cwV 0 htG (GV g4_12 g4_14 gS_14 g1_10 g4_15) rfl rfl rfl hd_X9_records ⟨Nat.le_of_ble_eq_true rfl, Nat.le_of_ble_eq_true rfl⟩) (PW_VA hK hL hS hP hD hA (ci := 8) rfl 0 rfl) rfl rfl hl.1 rfl (lv_room (Nat.le_of_ble_eq_true rfl)) dX9_fund_45 ⟨Nat.zero_le _, Nat.zero_le _⟩) hD hS hA (fun _ => rfl) (fun H locs hP hD hS => ?_)
        have hP : va_P g.1 vwCl (w_X9 g h0 h1 h2 h3 zq5) H := hP
        have hD : va_D A (w_X9 g h0 h1 h2 h3 zq5) := hD
        refine lv_aload_n hx hb dX9_fund_48 rfl (lv_at hl 0 rfl) ?_
        refine va_get (D := g.1) (ci := 8) (v := .ref h1) (C := RX9) (T := TX9) (N := 11) hx hb htG in_wsX90 hown hK.1 hP 0 rfl rfl 0 (by decide) (htG _ g3_195) (fun _ h9 => h9) rfl dX9_fund_49 ?_
        refine lv_iconst (v := 2) hx hb dX9_fund_52 (by decide) ?_
        refine lv_iload_n hx hb dX9_fund_53 rfl (lv_at hl 1 rfl) ?_
        refine lv_iadd hx hb dX9_fund_54 ?_
        refine lv_dup2_11 hx hb dX9_fund_55 rfl rfl ?_
        refine va_iald hx hb hK.1 hP 1 0 rfl rfl zb3 dX9_fund_56 ?_
        refine lv_iload_n hx hb dX9_fund_57 rfl (lv_at hl 2 rfl) ?_
        refine lv_iadd hx hb dX9_fund_58 ?_
        obtain ⟨zf6, ezf6, hm⟩ := bnk hm
        refine iast_e hx hb hK.1 hP hD hS 1 0 rfl rfl zb3 dX9_fund_59 ezf6 (fun H locs hP hD hS => ?_)
        have hP : va_P g.1 vwCl (w_X9 g h0 h1 h2 h3 (zf6, zq5.2.1, zq5.2.2.1, zq5.2.2.2.1, zq5.2.2.2.2.1, zq5.2.2.2.2.2.1, zq5.2.2.2.2.2.2.1, zq5.2.2.2.2.2.2.2.1, zq5.2.2.2.2.2.2.2.2.1, zq5.2.2.2.2.2.2.2.2.2.1, zq5.2.2.2.2.2.2.2.2.2.2)) H := hP
        have hD : va_D A (w_X9 g h0 h1 h2 h3 (zf6, zq5.2.1, zq5.2.2.1, zq5.2.2.2.1, zq5.2.2.2.2.1, zq5.2.2.2.2.2.1, zq5.2.2.2.2.2.2.1, zq5.2.2.2.2.2.2.2.1, zq5.2.2.2.2.2.2.2.2.1, zq5.2.2.2.2.2.2.2.2.2.1, zq5.2.2.2.2.2.2.2.2.2.2)) := hD
        refine lv_aload_n hx hb dX9_fund_60 rfl (lv_at hl 0 rfl) ?_
        refine va_get (D := g.1) (ci := 8) (v := .ref h1) (C := RX9) (T := TX9) (N := 11) hx hb htG in_wsX90 hown hK.1 hP 0 rfl rfl 0 (by decide) (htG _ g3_195) (fun _ h9 => h9) rfl dX9_fund_61 ?_
        refine lv_bipush (v := 32) hx hb dX9_fund_64 (by decide +kernel) ?_
        refine lv_dup2_11 hx hb dX9_fund_66 rfl rfl ?_
        refine va_iald hx hb hK.1 hP 1 0 rfl rfl (ib_in (by decide +kernel)) dX9_fund_67 ?_
        refine lv_iload_n hx hb dX9_fund_68 rfl (lv_at hl 2 rfl) ?_
        refine lv_iadd hx hb dX9_fund_69 ?_
        obtain ⟨zf7, ezf7, hm⟩ := bnk hm
        refine iast_e hx hb hK.1 hP hD hS 1 0 rfl rfl (ib_in (by decide +kernel)) dX9_fund_70 ezf7 (fun H locs hP hD hS => ?_)
        have hP : va_P g.1 vwCl (w_X9 g h0 h1 h2 h3 (zf7, zq5.2.1, zq5.2.2.1, zq5.2.2.2.1, zq5.2.2.2.2.1, zq5.2.2.2.2.2.1, zq5.2.2.2.2.2.2.1, zq5.2.2.2.2.2.2.2.1, zq5.2.2.2.2.2.2.2.2.1, zq5.2.2.2.2.2.2.2.2.2.1, zq5.2.2.2.2.2.2.2.2.2.2)) H := hP
        have hD : va_D A (w_X9 g h0 h1 h2 h3 (zf7, zq5.2.1, zq5.2.2.1, zq5.2.2.2.1, zq5.2.2.2.2.1, zq5.2.2.2.2.2.1, zq5.2.2.2.2.2.2.1, zq5.2.2.2.2.2.2.2.1, zq5.2.2.2.2.2.2.2.2.1, zq5.2.2.2.2.2.2.2.2.2.1, zq5.2.2.2.2.2.2.2.2.2.2)) := hD
        refine lv_aload_n hx hb dX9_fund_71 rfl (lv_at hl 0 rfl) ?_
        refine va_get (D := g.1) (ci := 8) (v := .ref h1) (C := RX9) (T := TX9) (N := 11) hx hb htG in_wsX90 hown hK.1 hP 0 rfl rfl 0 (by decide) (htG _ g3_195) (fun _ h9 => h9) rfl dX9_fund_72 ?_
        refine lv_iconst (v := 2) hx hb dX9_fund_75 (by decide) ?_
        refine lv_iload_n hx hb dX9_fund_76 rfl (lv_at hl 1 rfl) ?_
        refine lv_iadd hx hb dX9_fund_77 ?_
        refine va_iald hx hb hK.1 hP 1 0 rfl rfl zb3 dX9_fund_78 ?_
        exact W.iret (v := (zf7 ((2 + p1).toNatClampNeg))) hx hb hr (fun t ht hW => ⟨⟨_, _, rfl, pr1 (Option.some.inj hm), atH ht hP⟩, hS.F ht⟩) hS.2.2 dX9_fund_79
      · replace hm := (if_neg zc4).symm.trans hm
        refine lv_bipush (v := (-3)) hx hb dX9_fund_41 (by decide +kernel) ?_
        exact W.iret (v := (-3)) hx hb hr (fun t ht hW => ⟨⟨_, _, rfl, pr1 (Option.some.inj hm), atH ht hP⟩, hS.F ht⟩) hS.2.2 dX9_fund_43
    · replace hm := (if_pos zc2).symm.trans hm
      refine lv_bipush (v := (-2)) hx hb dX9_fund_22 (by decide +kernel) ?_
      exact W.iret (v := (-2)) hx hb hr (fun t ht hW => ⟨⟨_, _, rfl, pr1 (Option.some.inj hm), atH ht hP⟩, hS.F ht⟩) hS.2.2 dX9_fund_24
  · replace hm := (if_pos zc1).symm.trans hm
    refine lv_iconst (v := (-1)) hx hb dX9_fund_9 (by decide) ?_
    exact W.iret (v := (-1)) hx hb hr (fun t ht hW => ⟨⟨_, _, rfl, pr1 (Option.some.inj hm), atH ht hP⟩, hS.F ht⟩) hS.2.2 dX9_fund_10
def fX9_bid (x : MD) (p1 : Int32) (p2 : Int32) (p3 : Int32) (p4 : Int32) (p5 : Int32) : Option (Int32 × MD) := ((fX9_copies x 0 6).bind (fun zq1 => ((fX9_bidsBy zq1 6 p1 p2 p3 p4 p5).bind (fun zq2 => ((fX9_settles zq2.2 zq2.1).bind (fun zq3 => some (zq3.1, zq3.2)))))))
abbrev rm_X9_bid : Jvm.Room := { frames := 4, cells := 0, slots := 0, locals := 103 }
theorem hd_X9_bid : yX9_bid.cls = RX9 ∧ yX9_bid.cls ≠ "java/lang/invoke/MethodHandle" ∧ yX9_bid.cls ≠ "java/lang/invoke/VarHandle" ∧ (parseMethodDescriptor yX9_bid.desc).map (fun d => d.parameters.length) = some 5 := by decide +kernel
set_option maxHeartbeats 4000000 in
set_option maxRecDepth 100000 in
theorem kX9_bid (l : Launch) (g : CX) (h0 h1 h2 h3 : Nat) (sz : Nat) (x : MD) (p1 : Int32) (p2 : Int32) (p3 : Int32) (p4 : Int32) (p5 : Int32) (res : Int32 × MD) (hm0 : fX9_bid x p1 p2 p3 p4 p5 = some res) : Met l yX9_bid (wg yX9_bid cX9_bid 6 (some .int)) rm_X9_bid (PW g [.ref h0, .int p1, .int p2, .int p3, .int p4, .int p5] sz (w_X9 g h0 h1 h2 h3 x)) (va_Qi (fun v u => v = res.1 ∧ u = res.2) (fun u t => va_P g.1 vwCl (w_X9 g h0 h1 h2 h3 u) t.heap) (va_A (w_X9 g h0 h1 h2 h3 x) sz)) 0 0 (va_A (w_X9 g h0 h1 h2 h3 x) sz) := by
  refine Met.ofW (cc := cX9_bid) (maxL := 6) (ret := (some .int)) (by decide) rfl ?_
  intro p e s m args below meth c s₁ B hml hv
  obtain ⟨rfl, hsz, hP, hK, hD0, hL⟩ := hv
  have hx := B.exec
  have hb := B.bytes
  have hr := B.returns
  have htG := wg_G (atoms_spec (ws := wg yX9_bid cX9_bid 6 (some .int)) B.pre)
  have hown : s.vm.findClass RX9 = some m.cls := findClass_of_methodNamed B.named
  have hlocks := B.notSynchronized
  subst hsz
  have hD := hD0.self (sz := s.heap.size)
  generalize hAe : va_A (w_X9 g h0 h1 h2 h3 x) s.heap.size = A at hD hL ⊢
  have hA : ∀ q : Nat, s.heap.size ≤ q → A q := fun q h => by rw [← hAe]; exact Or.inr h
  have hS : va_S A s.heap s.heap [] := va_S.rf
  have hl := lv_entry ([.ref h0, .int p1, .int p2, .int p3, .int p4, .int p5]) (n := 6) (Nat.le_of_ble_eq_true rfl)
  rw [lg_entry_eq]
  generalize (lg_sl ([.ref h0, .int p1, .int p2, .int p3, .int p4, .int p5]) ++ List.replicate (6 - (lg_sl ([.ref h0, .int p1, .int p2, .int p3, .int p4, .int p5])).length) Slot.unset).toArray = ls at hl ⊢
  have hl : lv_has ls 6 [(0, .ref h0), (1, .int p1), (2, .int p2), (3, .int p3), (4, .int p4), (5, .int p5)] := hl
  have hm := hm0
  unfold fX9_bid at hm
  refine lv_aload_n hx hb dX9_bid_0 rfl (lv_at hl 0 rfl) ?_
  refine lv_iconst (v := 0) hx hb dX9_bid_1 (by decide) ?_
  refine lv_bipush (v := 6) hx hb dX9_bid_2 (by decide +kernel) ?_
  obtain ⟨zq1, hzq1, hm⟩ := bdk hm
  refine kw_veA (va_runV (As := [.int 0, .int 6]) (rest := []) ⟨hx, hb, hml, hown, htG⟩ (kX9_copies l g h0 h1 h2 h3 _ x 0 6 _ hzq1) (cwV 2 htG (GV g3_233 g3_235 gS_10 g1_10 g3_236) rfl rfl rfl hd_X9_copies ⟨Nat.le_of_ble_eq_true rfl, Nat.le_of_ble_eq_true rfl⟩) (PW_VA hK hL hS hP hD hA (ci := 8) rfl 0 rfl) rfl rfl hl.1 rfl (lv_room (Nat.le_of_ble_eq_true rfl)) dX9_bid_4 ⟨Nat.zero_le _, Nat.zero_le _⟩) hD hS hA (fun _ => rfl) (fun H locs hP hD hS => ?_)
  have hP : va_P g.1 vwCl (w_X9 g h0 h1 h2 h3 zq1) H := hP
  have hD : va_D A (w_X9 g h0 h1 h2 h3 zq1) := hD
  refine lv_aload_n hx hb dX9_bid_7 rfl (lv_at hl 0 rfl) ?_
  refine lv_aload_n hx hb dX9_bid_8 rfl (lv_at hl 0 rfl) ?_
  refine lv_bipush (v := 6) hx hb dX9_bid_9 (by decide +kernel) ?_
  refine lv_iload_n hx hb dX9_bid_11 rfl (lv_at hl 1 rfl) ?_
  refine lv_iload_n hx hb dX9_bid_12 rfl (lv_at hl 2 rfl) ?_
  refine lv_iload_n hx hb dX9_bid_13 rfl (lv_at hl 3 rfl) ?_
  refine lv_iload hx hb dX9_bid_14 (lv_at hl 4 rfl) ?_
  refine lv_iload hx hb dX9_bid_16 (lv_at hl 5 rfl) ?_
  obtain ⟨zq2, hzq2, hm⟩ := bdk hm
  refine kw_ieA (va_runV (As := [.int 6, .int p1, .int p2, .int p3, .int p4, .int p5]) (rest := [.ref h0]) ⟨hx, hb, hml, hown, htG⟩ (kX9_bidsBy l g h0 h1 h2 h3 _ zq1 6 p1 p2 p3 p4 p5 _ hzq2) (cwV 6 htG (GV g4_24 g4_26 gS_15 g1_10 g4_27) rfl rfl rfl hd_X9_bidsBy ⟨Nat.le_of_ble_eq_true rfl, Nat.le_of_ble_eq_true rfl⟩) (PW_VA hK hL hS hP hD hA (ci := 8) rfl 0 rfl) rfl rfl hl.1 rfl (lv_room (Nat.le_of_ble_eq_true rfl)) dX9_bid_18 ⟨Nat.zero_le _, Nat.zero_le _⟩) hD hS hA (fun _ => rfl) (fun H locs hP hD hS => ?_)
  have hP : va_P g.1 vwCl (w_X9 g h0 h1 h2 h3 zq2.2) H := hP
  have hD : va_D A (w_X9 g h0 h1 h2 h3 zq2.2) := hD
  obtain ⟨zq3, hzq3, hm⟩ := bdk hm
  refine kw_ieA (va_runV (As := [.int zq2.1]) (rest := []) ⟨hx, hb, hml, hown, htG⟩ (kX9_settles l g h0 h1 h2 h3 _ zq2.2 zq2.1 _ hzq3) (cwV 1 htG (GV g4_8 g4_10 gS_13 g1_10 g4_11) rfl rfl rfl hd_X9_settles ⟨Nat.le_of_ble_eq_true rfl, Nat.le_of_ble_eq_true rfl⟩) (PW_VA hK hL hS hP hD hA (ci := 8) rfl 0 rfl) rfl rfl hl.1 rfl (lv_room (Nat.le_of_ble_eq_true rfl)) dX9_bid_21 ⟨Nat.zero_le _, Nat.zero_le _⟩) hD hS hA (fun _ => rfl) (fun H locs hP hD hS => ?_)
  have hP : va_P g.1 vwCl (w_X9 g h0 h1 h2 h3 zq3.2) H := hP
  have hD : va_D A (w_X9 g h0 h1 h2 h3 zq3.2) := hD
  exact W.iret (v := zq3.1) hx hb hr (fun t ht hW => ⟨⟨_, _, rfl, pr1 (Option.some.inj hm), atH ht hP⟩, hS.F ht⟩) hS.2.2 dX9_bid_24
def fX9_withdraw (x : MD) (p1 : Int32) (p2 : Int32) (p3 : Int32) : Option (Int32 × MD) := (if (fX9_in p1 0 5) = 0 then some ((-1), x) else (if (fX9_isSlot p2 p3) = 0 then some ((-1), x) else (bnd ((6 * (fX9_place p2 p3)) + p1) (fun zv3 => (if ib (531 + zv3) 5845 = true then (bnd (x.1 ((531 + zv3).toNatClampNeg)) (fun zv5 => (if zv5 = 0 then some ((-1), x) else ((fX9_records x).bind (fun zq7 => (if ib (243 + zv3) 5845 = true then (bnd (upd zq7.1 (243 + zv3).toNatClampNeg 0) (fun zf9 => (bnd (upd zf9 (531 + zv3).toNatClampNeg 0) (fun zf10 => some (zv5, (zf10, zq7.2.1, zq7.2.2.1, zq7.2.2.2.1, zq7.2.2.2.2.1, zq7.2.2.2.2.2.1, zq7.2.2.2.2.2.2.1, zq7.2.2.2.2.2.2.2.1, zq7.2.2.2.2.2.2.2.2.1, zq7.2.2.2.2.2.2.2.2.2.1, zq7.2.2.2.2.2.2.2.2.2.2)))))) else none)))))) else none)))))
abbrev rm_X9_withdraw : Jvm.Room := { frames := 2, cells := 0, slots := 0, locals := 44 }
theorem hd_X9_withdraw : yX9_withdraw.cls = RX9 ∧ yX9_withdraw.cls ≠ "java/lang/invoke/MethodHandle" ∧ yX9_withdraw.cls ≠ "java/lang/invoke/VarHandle" ∧ (parseMethodDescriptor yX9_withdraw.desc).map (fun d => d.parameters.length) = some 3 := by decide +kernel
set_option maxHeartbeats 4000000 in
set_option maxRecDepth 100000 in
theorem kX9_withdraw (l : Launch) (g : CX) (h0 h1 h2 h3 : Nat) (sz : Nat) (x : MD) (p1 : Int32) (p2 : Int32) (p3 : Int32) (res : Int32 × MD) (hm0 : fX9_withdraw x p1 p2 p3 = some res) : Met l yX9_withdraw (wg yX9_withdraw cX9_withdraw 6 (some .int)) rm_X9_withdraw (PW g [.ref h0, .int p1, .int p2, .int p3] sz (w_X9 g h0 h1 h2 h3 x)) (va_Qi (fun v u => v = res.1 ∧ u = res.2) (fun u t => va_P g.1 vwCl (w_X9 g h0 h1 h2 h3 u) t.heap) (va_A (w_X9 g h0 h1 h2 h3 x) sz)) 0 0 (va_A (w_X9 g h0 h1 h2 h3 x) sz) := by
  refine Met.ofW (cc := cX9_withdraw) (maxL := 6) (ret := (some .int)) (by decide) rfl ?_
  intro p e s m args below meth c s₁ B hml hv
  obtain ⟨rfl, hsz, hP, hK, hD0, hL⟩ := hv
  have hx := B.exec
  have hb := B.bytes
  have hr := B.returns
  have htG := wg_G (atoms_spec (ws := wg yX9_withdraw cX9_withdraw 6 (some .int)) B.pre)
  have hown : s.vm.findClass RX9 = some m.cls := findClass_of_methodNamed B.named
  have hlocks := B.notSynchronized
  subst hsz
  have hD := hD0.self (sz := s.heap.size)
  generalize hAe : va_A (w_X9 g h0 h1 h2 h3 x) s.heap.size = A at hD hL ⊢
  have hA : ∀ q : Nat, s.heap.size ≤ q → A q := fun q h => by rw [← hAe]; exact Or.inr h
  have hS : va_S A s.heap s.heap [] := va_S.rf
  have hl := lv_entry ([.ref h0, .int p1, .int p2, .int p3]) (n := 6) (Nat.le_of_ble_eq_true rfl)
  rw [lg_entry_eq]
  generalize (lg_sl ([.ref h0, .int p1, .int p2, .int p3]) ++ List.replicate (6 - (lg_sl ([.ref h0, .int p1, .int p2, .int p3])).length) Slot.unset).toArray = ls at hl ⊢
  have hl : lv_has ls 6 [(0, .ref h0), (1, .int p1), (2, .int p2), (3, .int p3)] := hl
  have hm := hm0
  unfold fX9_withdraw at hm
  refine lv_iload_n hx hb dX9_withdraw_0 rfl (lv_at hl 1 rfl) ?_
  refine lv_iconst (v := 0) hx hb dX9_withdraw_1 (by decide) ?_
  refine lv_iconst (v := 5) hx hb dX9_withdraw_2 (by decide) ?_
  refine ko_e (va_runS (As := [.int p1, .int 0, .int 5]) (rest := []) ⟨hx, hb, hml, hown, htG⟩ (kX9_in l g p1 0 5 _ rfl) (va_cwS 3 htG (GS g4_1 g4_2 g1_10 g4_3) rfl rfl rfl hs_X9_in ⟨Nat.le_of_ble_eq_true rfl, Nat.le_of_ble_eq_true rfl⟩) (PR_S hK hL hS hP [] rfl) rfl rfl hl.1 rfl (lv_room (Nat.le_of_ble_eq_true rfl)) dX9_withdraw_3 ⟨Nat.zero_le _, Nat.zero_le _⟩) ?_
  refine lv_if_eq (tgt := 17) hx hb dX9_withdraw_6 (by decide) (fun zc1 => ?_) (fun zc1 => ?_)
  · replace hm := (if_pos zc1).symm.trans hm
    refine lv_iconst (v := (-1)) hx hb dX9_withdraw_17 (by decide) ?_
    exact W.iret (v := (-1)) hx hb hr (fun t ht hW => ⟨⟨_, _, rfl, pr1 (Option.some.inj hm), atH ht hP⟩, hS.F ht⟩) hS.2.2 dX9_withdraw_18
  · replace hm := (if_neg zc1).symm.trans hm
    refine lv_iload_n hx hb dX9_withdraw_9 rfl (lv_at hl 2 rfl) ?_
    refine lv_iload_n hx hb dX9_withdraw_10 rfl (lv_at hl 3 rfl) ?_
    refine ko_e (va_runS (As := [.int p2, .int p3]) (rest := []) ⟨hx, hb, hml, hown, htG⟩ (kX9_isSlot l g p2 p3 _ rfl) (va_cwS 2 htG (GS g4_54 g4_55 g1_10 g4_56) rfl rfl rfl hs_X9_isSlot ⟨Nat.le_of_ble_eq_true rfl, Nat.le_of_ble_eq_true rfl⟩) (PR_S hK hL hS hP [] rfl) rfl rfl hl.1 rfl (lv_room (Nat.le_of_ble_eq_true rfl)) dX9_withdraw_11 ⟨Nat.zero_le _, Nat.zero_le _⟩) ?_
    refine lv_if_ne (tgt := 19) hx hb dX9_withdraw_14 (by decide) (fun zc2 => ?_) (fun zc2 => ?_)
    · replace hm := (if_neg zc2).symm.trans hm
      refine lv_bipush (v := 6) hx hb dX9_withdraw_19 (by decide +kernel) ?_
      refine lv_iload_n hx hb dX9_withdraw_21 rfl (lv_at hl 2 rfl) ?_
      refine lv_iload_n hx hb dX9_withdraw_22 rfl (lv_at hl 3 rfl) ?_
      refine ko_e (va_runS (As := [.int p2, .int p3]) (rest := [.int 6]) ⟨hx, hb, hml, hown, htG⟩ (kX9_place l g p2 p3 _ rfl) (va_cwS 2 htG (GS g4_35 g4_36 g1_10 g4_37) rfl rfl rfl hs_X9_place ⟨Nat.le_of_ble_eq_true rfl, Nat.le_of_ble_eq_true rfl⟩) (PR_S hK hL hS hP [] rfl) rfl rfl hl.1 rfl (lv_room (Nat.le_of_ble_eq_true rfl)) dX9_withdraw_23 ⟨Nat.zero_le _, Nat.zero_le _⟩) ?_
      refine lv_imul hx hb dX9_withdraw_26 ?_
      refine lv_iload_n hx hb dX9_withdraw_27 rfl (lv_at hl 1 rfl) ?_
      refine lv_iadd hx hb dX9_withdraw_28 ?_
      obtain ⟨zv3, ezv3, hm⟩ := bnk hm
      refine tope ezv3 ?_
      refine lv_istore (lv' := [(4, .int zv3), (0, .ref h0), (1, .int p1), (2, .int p2), (3, .int p3)]) hx hb dX9_withdraw_29 hl (by decide) rfl (fun ls hl => ?_)
      refine lv_aload_n hx hb dX9_withdraw_31 rfl (lv_at hl 1 rfl) ?_
      refine va_get (D := g.1) (ci := 8) (v := .ref h1) (C := RX9) (T := TX9) (N := 11) hx hb htG in_wsX90 hown hK.1 hP 0 rfl rfl 0 (by decide) (htG _ g3_195) (fun _ h9 => h9) rfl dX9_withdraw_32 ?_
      refine lv_sipush (v := 531) hx hb dX9_withdraw_35 (by decide +kernel) ?_
      refine lv_iload hx hb dX9_withdraw_38 (lv_at hl 0 rfl) ?_
      refine lv_iadd hx hb dX9_withdraw_40 ?_
      obtain ⟨zb4, hm⟩ := ibk hm
      refine va_iald hx hb hK.1 hP 1 0 rfl rfl zb4 dX9_withdraw_41 ?_
      obtain ⟨zv5, ezv5, hm⟩ := bnk hm
      refine tope ezv5 ?_
      refine lv_istore (lv' := [(5, .int zv5), (4, .int zv3), (0, .ref h0), (1, .int p1), (2, .int p2), (3, .int p3)]) hx hb dX9_withdraw_42 hl (by decide) rfl (fun ls hl => ?_)
      refine lv_iload hx hb dX9_withdraw_44 (lv_at hl 0 rfl) ?_
      refine lv_if_ne (tgt := 51) hx hb dX9_withdraw_46 (by decide) (fun zc6 => ?_) (fun zc6 => ?_)
      · replace hm := (if_neg zc6).symm.trans hm
        refine lv_aload_n hx hb dX9_withdraw_51 rfl (lv_at hl 2 rfl) ?_
        obtain ⟨zq7, hzq7, hm⟩ := bdk hm
        refine kw_veA (va_runV (As := []) (rest := []) ⟨hx, hb, hml, hown, htG⟩ (kX9_records l g h0 h1 h2 h3 _ x _ hzq7) (cwV 0 htG (GV g4_12 g4_14 gS_14 g1_10 g4_15) rfl rfl rfl hd_X9_records ⟨Nat.le_of_ble_eq_true rfl, Nat.le_of_ble_eq_true rfl⟩) (PW_VA hK hL hS hP hD hA (ci := 8) rfl 0 rfl) rfl rfl hl.1 rfl (lv_room (Nat.le_of_ble_eq_true rfl)) dX9_withdraw_52 ⟨Nat.zero_le _, Nat.zero_le _⟩) hD hS hA (fun _ => rfl) (fun H locs hP hD hS => ?_)
        have hP : va_P g.1 vwCl (w_X9 g h0 h1 h2 h3 zq7) H := hP
        have hD : va_D A (w_X9 g h0 h1 h2 h3 zq7) := hD
        refine lv_aload_n hx hb dX9_withdraw_55 rfl (lv_at hl 2 rfl) ?_
        refine va_get (D := g.1) (ci := 8) (v := .ref h1) (C := RX9) (T := TX9) (N := 11) hx hb htG in_wsX90 hown hK.1 hP 0 rfl rfl 0 (by decide) (htG _ g3_195) (fun _ h9 => h9) rfl dX9_withdraw_56 ?_
        refine lv_sipush (v := 243) hx hb dX9_withdraw_59 (by decide +kernel) ?_
        refine lv_iload hx hb dX9_withdraw_62 (lv_at hl 1 rfl) ?_
        refine lv_iadd hx hb dX9_withdraw_64 ?_
        refine lv_iconst (v := 0) hx hb dX9_withdraw_65 (by decide) ?_
        obtain ⟨zb8, hm⟩ := ibk hm
        obtain ⟨zf9, ezf9, hm⟩ := bnk hm
        refine iast_e hx hb hK.1 hP hD hS 1 0 rfl rfl zb8 dX9_withdraw_66 ezf9 (fun H locs hP hD hS => ?_)
        have hP : va_P g.1 vwCl (w_X9 g h0 h1 h2 h3 (zf9, zq7.2.1, zq7.2.2.1, zq7.2.2.2.1, zq7.2.2.2.2.1, zq7.2.2.2.2.2.1, zq7.2.2.2.2.2.2.1, zq7.2.2.2.2.2.2.2.1, zq7.2.2.2.2.2.2.2.2.1, zq7.2.2.2.2.2.2.2.2.2.1, zq7.2.2.2.2.2.2.2.2.2.2)) H := hP
        have hD : va_D A (w_X9 g h0 h1 h2 h3 (zf9, zq7.2.1, zq7.2.2.1, zq7.2.2.2.1, zq7.2.2.2.2.1, zq7.2.2.2.2.2.1, zq7.2.2.2.2.2.2.1, zq7.2.2.2.2.2.2.2.1, zq7.2.2.2.2.2.2.2.2.1, zq7.2.2.2.2.2.2.2.2.2.1, zq7.2.2.2.2.2.2.2.2.2.2)) := hD
        refine lv_aload_n hx hb dX9_withdraw_67 rfl (lv_at hl 2 rfl) ?_
        refine va_get (D := g.1) (ci := 8) (v := .ref h1) (C := RX9) (T := TX9) (N := 11) hx hb htG in_wsX90 hown hK.1 hP 0 rfl rfl 0 (by decide) (htG _ g3_195) (fun _ h9 => h9) rfl dX9_withdraw_68 ?_
        refine lv_sipush (v := 531) hx hb dX9_withdraw_71 (by decide +kernel) ?_
        refine lv_iload hx hb dX9_withdraw_74 (lv_at hl 1 rfl) ?_
        refine lv_iadd hx hb dX9_withdraw_76 ?_
        refine lv_iconst (v := 0) hx hb dX9_withdraw_77 (by decide) ?_
        obtain ⟨zf10, ezf10, hm⟩ := bnk hm
        refine iast_e hx hb hK.1 hP hD hS 1 0 rfl rfl zb4 dX9_withdraw_78 ezf10 (fun H locs hP hD hS => ?_)
        have hP : va_P g.1 vwCl (w_X9 g h0 h1 h2 h3 (zf10, zq7.2.1, zq7.2.2.1, zq7.2.2.2.1, zq7.2.2.2.2.1, zq7.2.2.2.2.2.1, zq7.2.2.2.2.2.2.1, zq7.2.2.2.2.2.2.2.1, zq7.2.2.2.2.2.2.2.2.1, zq7.2.2.2.2.2.2.2.2.2.1, zq7.2.2.2.2.2.2.2.2.2.2)) H := hP
        have hD : va_D A (w_X9 g h0 h1 h2 h3 (zf10, zq7.2.1, zq7.2.2.1, zq7.2.2.2.1, zq7.2.2.2.2.1, zq7.2.2.2.2.2.1, zq7.2.2.2.2.2.2.1, zq7.2.2.2.2.2.2.2.1, zq7.2.2.2.2.2.2.2.2.1, zq7.2.2.2.2.2.2.2.2.2.1, zq7.2.2.2.2.2.2.2.2.2.2)) := hD
        refine lv_iload hx hb dX9_withdraw_79 (lv_at hl 0 rfl) ?_
        exact W.iret (v := zv5) hx hb hr (fun t ht hW => ⟨⟨_, _, rfl, pr1 (Option.some.inj hm), atH ht hP⟩, hS.F ht⟩) hS.2.2 dX9_withdraw_81
      · replace hm := (if_pos zc6).symm.trans hm
        refine lv_iconst (v := (-1)) hx hb dX9_withdraw_49 (by decide) ?_
        exact W.iret (v := (-1)) hx hb hr (fun t ht hW => ⟨⟨_, _, rfl, pr1 (Option.some.inj hm), atH ht hP⟩, hS.F ht⟩) hS.2.2 dX9_withdraw_50
    · replace hm := (if_pos zc2).symm.trans hm
      refine lv_iconst (v := (-1)) hx hb dX9_withdraw_17 (by decide) ?_
      exact W.iret (v := (-1)) hx hb hr (fun t ht hW => ⟨⟨_, _, rfl, pr1 (Option.some.inj hm), atH ht hP⟩, hS.F ht⟩) hS.2.2 dX9_withdraw_18
def fX9_award (x : MD) (p1 : Int32) (p2 : Int32) : Option (Int32 × MD) := (if (fX9_isSlot p1 p2) = 0 then some ((-1), x) else ((fX9_isDone x 0 p2).bind (fun zq2 => (if zq2 = 0 then (if ib (51 + (fX9_place p1 p2)) 5845 = true then (if (x.1 ((51 + (fX9_place p1 p2)).toNatClampNeg)) < 0 then ((fX9_best x 0 (fX9_place p1 p2) (-1)).bind (fun zq6 => (if 0 ≤ zq6 then ((fX9_records x).bind (fun zq8 => ((fX9_awards zq8 0 (fX9_place p1 p2)).bind (fun zq9 => some (zq9.1, zq9.2))))) else some ((-5), x)))) else some ((-4), x)) else none) else some ((-4), x)))))
abbrev rm_X9_award : Jvm.Room := { frames := 4, cells := 0, slots := 0, locals := 95 }
theorem hd_X9_award : yX9_award.cls = RX9 ∧ yX9_award.cls ≠ "java/lang/invoke/MethodHandle" ∧ yX9_award.cls ≠ "java/lang/invoke/VarHandle" ∧ (parseMethodDescriptor yX9_award.desc).map (fun d => d.parameters.length) = some 2 := by decide +kernel
set_option maxHeartbeats 4000000 in
set_option maxRecDepth 100000 in
theorem kX9_award (l : Launch) (g : CX) (h0 h1 h2 h3 : Nat) (sz : Nat) (x : MD) (p1 : Int32) (p2 : Int32) (res : Int32 × MD) (hm0 : fX9_award x p1 p2 = some res) : Met l yX9_award (wg yX9_award cX9_award 4 (some .int)) rm_X9_award (PW g [.ref h0, .int p1, .int p2] sz (w_X9 g h0 h1 h2 h3 x)) (va_Qi (fun v u => v = res.1 ∧ u = res.2) (fun u t => va_P g.1 vwCl (w_X9 g h0 h1 h2 h3 u) t.heap) (va_A (w_X9 g h0 h1 h2 h3 x) sz)) 0 0 (va_A (w_X9 g h0 h1 h2 h3 x) sz) := by
  refine Met.ofW (cc := cX9_award) (maxL := 4) (ret := (some .int)) (by decide) rfl ?_
  intro p e s m args below meth c s₁ B hml hv
  obtain ⟨rfl, hsz, hP, hK, hD0, hL⟩ := hv
  have hx := B.exec
  have hb := B.bytes
  have hr := B.returns
  have htG := wg_G (atoms_spec (ws := wg yX9_award cX9_award 4 (some .int)) B.pre)
  have hown : s.vm.findClass RX9 = some m.cls := findClass_of_methodNamed B.named
  have hlocks := B.notSynchronized
  subst hsz
  have hD := hD0.self (sz := s.heap.size)
  generalize hAe : va_A (w_X9 g h0 h1 h2 h3 x) s.heap.size = A at hD hL ⊢
  have hA : ∀ q : Nat, s.heap.size ≤ q → A q := fun q h => by rw [← hAe]; exact Or.inr h
  have hS : va_S A s.heap s.heap [] := va_S.rf
  have hl := lv_entry ([.ref h0, .int p1, .int p2]) (n := 4) (Nat.le_of_ble_eq_true rfl)
  rw [lg_entry_eq]
  generalize (lg_sl ([.ref h0, .int p1, .int p2]) ++ List.replicate (4 - (lg_sl ([.ref h0, .int p1, .int p2])).length) Slot.unset).toArray = ls at hl ⊢
  have hl : lv_has ls 4 [(0, .ref h0), (1, .int p1), (2, .int p2)] := hl
  have hm := hm0
  unfold fX9_award at hm
  refine lv_iload_n hx hb dX9_award_0 rfl (lv_at hl 1 rfl) ?_
  refine lv_iload_n hx hb dX9_award_1 rfl (lv_at hl 2 rfl) ?_
  refine ko_e (va_runS (As := [.int p1, .int p2]) (rest := []) ⟨hx, hb, hml, hown, htG⟩ (kX9_isSlot l g p1 p2 _ rfl) (va_cwS 2 htG (GS g4_54 g4_55 g1_10 g4_56) rfl rfl rfl hs_X9_isSlot ⟨Nat.le_of_ble_eq_true rfl, Nat.le_of_ble_eq_true rfl⟩) (PR_S hK hL hS hP [] rfl) rfl rfl hl.1 rfl (lv_room (Nat.le_of_ble_eq_true rfl)) dX9_award_2 ⟨Nat.zero_le _, Nat.zero_le _⟩) ?_
  refine lv_if_ne (tgt := 10) hx hb dX9_award_5 (by decide) (fun zc1 => ?_) (fun zc1 => ?_)
  · replace hm := (if_neg zc1).symm.trans hm
    refine lv_iload_n hx hb dX9_award_10 rfl (lv_at hl 1 rfl) ?_
    refine lv_iload_n hx hb dX9_award_11 rfl (lv_at hl 2 rfl) ?_
    refine ko_e (va_runS (As := [.int p1, .int p2]) (rest := []) ⟨hx, hb, hml, hown, htG⟩ (kX9_place l g p1 p2 _ rfl) (va_cwS 2 htG (GS g4_35 g4_36 g1_10 g4_37) rfl rfl rfl hs_X9_place ⟨Nat.le_of_ble_eq_true rfl, Nat.le_of_ble_eq_true rfl⟩) (PR_S hK hL hS hP [] rfl) rfl rfl hl.1 rfl (lv_room (Nat.le_of_ble_eq_true rfl)) dX9_award_12 ⟨Nat.zero_le _, Nat.zero_le _⟩) ?_
    refine lv_istore_n (lv' := [(3, .int (fX9_place p1 p2)), (0, .ref h0), (1, .int p1), (2, .int p2)]) hx hb dX9_award_15 rfl hl (by decide) rfl (fun ls hl => ?_)
    refine lv_aload_n hx hb dX9_award_16 rfl (lv_at hl 1 rfl) ?_
    refine lv_iconst (v := 0) hx hb dX9_award_17 (by decide) ?_
    refine lv_iload_n hx hb dX9_award_18 rfl (lv_at hl 3 rfl) ?_
    obtain ⟨zq2, hzq2, hm⟩ := bdk hm
    refine ko_e (va_runV (As := [.int 0, .int p2]) (rest := []) ⟨hx, hb, hml, hown, htG⟩ (kX9_isDone l g h0 h1 h2 h3 x 0 p2 _ hzq2) (cwV 2 htG (GV g4_4 g4_6 gS_12 g1_10 g4_7) rfl rfl rfl hd_X9_isDone ⟨Nat.le_of_ble_eq_true rfl, Nat.le_of_ble_eq_true rfl⟩) (PR_VA hK hL hS hP (ci := 8) rfl 0 rfl) rfl rfl hl.1 rfl (lv_room (Nat.le_of_ble_eq_true rfl)) dX9_award_19 ⟨Nat.zero_le _, Nat.zero_le _⟩) ?_
    refine lv_if_ne (tgt := 37) hx hb dX9_award_22 (by decide) (fun zc3 => ?_) (fun zc3 => ?_)
    · replace hm := (if_neg zc3).symm.trans hm
      refine lv_bipush (v := (-4)) hx hb dX9_award_37 (by decide +kernel) ?_
      exact W.iret (v := (-4)) hx hb hr (fun t ht hW => ⟨⟨_, _, rfl, pr1 (Option.some.inj hm), atH ht hP⟩, hS.F ht⟩) hS.2.2 dX9_award_39
    · replace hm := (if_pos zc3).symm.trans hm
      refine lv_aload_n hx hb dX9_award_25 rfl (lv_at hl 1 rfl) ?_
      refine va_get (D := g.1) (ci := 8) (v := .ref h1) (C := RX9) (T := TX9) (N := 11) hx hb htG in_wsX90 hown hK.1 hP 0 rfl rfl 0 (by decide) (htG _ g3_195) (fun _ h9 => h9) rfl dX9_award_26 ?_
      refine lv_bipush (v := 51) hx hb dX9_award_29 (by decide +kernel) ?_
      refine lv_iload_n hx hb dX9_award_31 rfl (lv_at hl 0 rfl) ?_
      refine lv_iadd hx hb dX9_award_32 ?_
      obtain ⟨zb4, hm⟩ := ibk hm
      refine va_iald hx hb hK.1 hP 1 0 rfl rfl zb4 dX9_award_33 ?_
      refine lv_if_lt (tgt := 40) hx hb dX9_award_34 (by decide) (fun zc5 => ?_) (fun zc5 => ?_)
      · replace hm := (if_pos zc5).symm.trans hm
        refine lv_aload_n hx hb dX9_award_40 rfl (lv_at hl 1 rfl) ?_
        refine lv_iconst (v := 0) hx hb dX9_award_41 (by decide) ?_
        refine lv_iload_n hx hb dX9_award_42 rfl (lv_at hl 0 rfl) ?_
        refine lv_iconst (v := (-1)) hx hb dX9_award_43 (by decide) ?_
        obtain ⟨zq6, hzq6, hm⟩ := bdk hm
        refine ko_e (va_runV (As := [.int 0, .int (fX9_place p1 p2), .int (-1)]) (rest := []) ⟨hx, hb, hml, hown, htG⟩ (kX9_best l g h0 h1 h2 h3 x 0 (fX9_place p1 p2) (-1) _ hzq6) (cwV 3 htG (GV g4_61 g4_63 gS_20 g1_10 g4_64) rfl rfl rfl hd_X9_best ⟨Nat.le_of_ble_eq_true rfl, Nat.le_of_ble_eq_true rfl⟩) (PR_VA hK hL hS hP (ci := 8) rfl 0 rfl) rfl rfl hl.1 rfl (lv_room (Nat.le_of_ble_eq_true rfl)) dX9_award_44 ⟨Nat.zero_le _, Nat.zero_le _⟩) ?_
        refine lv_if_ge (tgt := 53) hx hb dX9_award_47 (by decide) (fun zc7 => ?_) (fun zc7 => ?_)
        · replace hm := (if_pos zc7).symm.trans hm
          refine lv_aload_n hx hb dX9_award_53 rfl (lv_at hl 1 rfl) ?_
          obtain ⟨zq8, hzq8, hm⟩ := bdk hm
          refine kw_veA (va_runV (As := []) (rest := []) ⟨hx, hb, hml, hown, htG⟩ (kX9_records l g h0 h1 h2 h3 _ x _ hzq8) (cwV 0 htG (GV g4_12 g4_14 gS_14 g1_10 g4_15) rfl rfl rfl hd_X9_records ⟨Nat.le_of_ble_eq_true rfl, Nat.le_of_ble_eq_true rfl⟩) (PW_VA hK hL hS hP hD hA (ci := 8) rfl 0 rfl) rfl rfl hl.1 rfl (lv_room (Nat.le_of_ble_eq_true rfl)) dX9_award_54 ⟨Nat.zero_le _, Nat.zero_le _⟩) hD hS hA (fun _ => rfl) (fun H locs hP hD hS => ?_)
          have hP : va_P g.1 vwCl (w_X9 g h0 h1 h2 h3 zq8) H := hP
          have hD : va_D A (w_X9 g h0 h1 h2 h3 zq8) := hD
          refine lv_aload_n hx hb dX9_award_57 rfl (lv_at hl 1 rfl) ?_
          refine lv_iconst (v := 0) hx hb dX9_award_58 (by decide) ?_
          refine lv_iload_n hx hb dX9_award_59 rfl (lv_at hl 0 rfl) ?_
          obtain ⟨zq9, hzq9, hm⟩ := bdk hm
          refine kw_ieA (va_runV (As := [.int 0, .int (fX9_place p1 p2)]) (rest := []) ⟨hx, hb, hml, hown, htG⟩ (kX9_awards l g h0 h1 h2 h3 _ zq8 0 (fX9_place p1 p2) _ hzq9) (cwV 2 htG (GV g4_72 g4_74 gS_22 g1_10 g4_75) rfl rfl rfl hd_X9_awards ⟨Nat.le_of_ble_eq_true rfl, Nat.le_of_ble_eq_true rfl⟩) (PW_VA hK hL hS hP hD hA (ci := 8) rfl 0 rfl) rfl rfl hl.1 rfl (lv_room (Nat.le_of_ble_eq_true rfl)) dX9_award_60 ⟨Nat.zero_le _, Nat.zero_le _⟩) hD hS hA (fun _ => rfl) (fun H locs hP hD hS => ?_)
          have hP : va_P g.1 vwCl (w_X9 g h0 h1 h2 h3 zq9.2) H := hP
          have hD : va_D A (w_X9 g h0 h1 h2 h3 zq9.2) := hD
          exact W.iret (v := zq9.1) hx hb hr (fun t ht hW => ⟨⟨_, _, rfl, pr1 (Option.some.inj hm), atH ht hP⟩, hS.F ht⟩) hS.2.2 dX9_award_63
        · replace hm := (if_neg zc7).symm.trans hm
          refine lv_bipush (v := (-5)) hx hb dX9_award_50 (by decide +kernel) ?_
          exact W.iret (v := (-5)) hx hb hr (fun t ht hW => ⟨⟨_, _, rfl, pr1 (Option.some.inj hm), atH ht hP⟩, hS.F ht⟩) hS.2.2 dX9_award_52
      · replace hm := (if_neg zc5).symm.trans hm
        refine lv_bipush (v := (-4)) hx hb dX9_award_37 (by decide +kernel) ?_
        exact W.iret (v := (-4)) hx hb hr (fun t ht hW => ⟨⟨_, _, rfl, pr1 (Option.some.inj hm), atH ht hP⟩, hS.F ht⟩) hS.2.2 dX9_award_39
  · replace hm := (if_pos zc1).symm.trans hm
    refine lv_iconst (v := (-1)) hx hb dX9_award_8 (by decide) ?_
    exact W.iret (v := (-1)) hx hb hr (fun t ht hW => ⟨⟨_, _, rfl, pr1 (Option.some.inj hm), atH ht hP⟩, hS.F ht⟩) hS.2.2 dX9_award_9
def fX9_trade (x : MD) (p1 : Int32) (p2 : Int32) (p3 : Int32) (p4 : Int32) (p5 : Int32) : Option (Int32 × MD) := (if (fX9_isSlot p1 p2) = 0 then some ((-1), x) else (if (fX9_in p3 0 5) = 0 then some ((-1), x) else (if ib (51 + (fX9_place p1 p2)) 5845 = true then (if 0 ≤ (x.1 ((51 + (fX9_place p1 p2)).toNatClampNeg)) then (if (fX9_in p4 1 (fX9_most p1)) = 0 then some ((-2), x) else (if (fX9_in p5 0 999) = 0 then some ((-2), x) else (bnd (x.1 ((51 + (fX9_place p1 p2)).toNatClampNeg)) (fun zv7 => ((fX9_isDone x 0 p2).bind (fun zq8 => (if zq8 = 0 then (if zv7 = p3 then some ((-4), x) else (if ib (2 + p3) 5845 = true then ((fX9_offered x 0 p3).bind (fun zq12 => (if p5 ≤ ((x.1 ((2 + p3).toNatClampNeg)) - zq12) then ((fX9_records x).bind (fun zq14 => (bnd (upd zq14.1 (2 + p3).toNatClampNeg ((zq14.1 ((2 + p3).toNatClampNeg)) - p5)) (fun zf15 => (if ib (20 + p3) 5845 = true then (bnd (upd zf15 (20 + p3).toNatClampNeg ((zf15 ((20 + p3).toNatClampNeg)) - p5)) (fun zf17 => (if ib (2 + zv7) 5845 = true then (bnd (upd zf17 (2 + zv7).toNatClampNeg ((zf17 ((2 + zv7).toNatClampNeg)) + p5)) (fun zf19 => (if ib (20 + zv7) 5845 = true then (bnd (upd zf19 (20 + zv7).toNatClampNeg ((zf19 ((20 + zv7).toNatClampNeg)) + p5)) (fun zf21 => (bnd (upd zf21 (51 + (fX9_place p1 p2)).toNatClampNeg p3) (fun zf22 => (if ib (99 + (fX9_place p1 p2)) 5845 = true then (bnd (upd zf22 (99 + (fX9_place p1 p2)).toNatClampNeg p4) (fun zf24 => (bnd (upd zf24 (33 : Int32).toNatClampNeg ((zf24 ((33 : Int32).toNatClampNeg)) + 1)) (fun zf25 => some (zf25 ((2 + zv7).toNatClampNeg), (zf25, zq14.2.1, zq14.2.2.1, zq14.2.2.2.1, zq14.2.2.2.2.1, zq14.2.2.2.2.2.1, zq14.2.2.2.2.2.2.1, zq14.2.2.2.2.2.2.2.1, zq14.2.2.2.2.2.2.2.2.1, zq14.2.2.2.2.2.2.2.2.2.1, zq14.2.2.2.2.2.2.2.2.2.2)))))) else none))))) else none))) else none))) else none))))) else some ((-6), x)))) else none)) else some ((-4), x)))))))) else some ((-1), x)) else none)))
abbrev rm_X9_trade : Jvm.Room := { frames := 2, cells := 0, slots := 0, locals := 44 }
theorem hd_X9_trade : yX9_trade.cls = RX9 ∧ yX9_trade.cls ≠ "java/lang/invoke/MethodHandle" ∧ yX9_trade.cls ≠ "java/lang/invoke/VarHandle" ∧ (parseMethodDescriptor yX9_trade.desc).map (fun d => d.parameters.length) = some 5 := by decide +kernel
set_option maxHeartbeats 4000000 in
set_option maxRecDepth 100000 in
theorem kX9_trade (l : Launch) (g : CX) (h0 h1 h2 h3 : Nat) (sz : Nat) (x : MD) (p1 : Int32) (p2 : Int32) (p3 : Int32) (p4 : Int32) (p5 : Int32) (res : Int32 × MD) (hm0 : fX9_trade x p1 p2 p3 p4 p5 = some res) : Met l yX9_trade (wg yX9_trade cX9_trade 8 (some .int)) rm_X9_trade (PW g [.ref h0, .int p1, .int p2, .int p3, .int p4, .int p5] sz (w_X9 g h0 h1 h2 h3 x)) (va_Qi (fun v u => v = res.1 ∧ u = res.2) (fun u t => va_P g.1 vwCl (w_X9 g h0 h1 h2 h3 u) t.heap) (va_A (w_X9 g h0 h1 h2 h3 x) sz)) 0 0 (va_A (w_X9 g h0 h1 h2 h3 x) sz) := by
  refine Met.ofW (cc := cX9_trade) (maxL := 8) (ret := (some .int)) (by decide) rfl ?_
  intro p e s m args below meth c s₁ B hml hv
  obtain ⟨rfl, hsz, hP, hK, hD0, hL⟩ := hv
  have hx := B.exec
  have hb := B.bytes
  have hr := B.returns
  have htG := wg_G (atoms_spec (ws := wg yX9_trade cX9_trade 8 (some .int)) B.pre)
  have hown : s.vm.findClass RX9 = some m.cls := findClass_of_methodNamed B.named
  have hlocks := B.notSynchronized
  subst hsz
  have hD := hD0.self (sz := s.heap.size)
  generalize hAe : va_A (w_X9 g h0 h1 h2 h3 x) s.heap.size = A at hD hL ⊢
  have hA : ∀ q : Nat, s.heap.size ≤ q → A q := fun q h => by rw [← hAe]; exact Or.inr h
  have hS : va_S A s.heap s.heap [] := va_S.rf
  have hl := lv_entry ([.ref h0, .int p1, .int p2, .int p3, .int p4, .int p5]) (n := 8) (Nat.le_of_ble_eq_true rfl)
  rw [lg_entry_eq]
  generalize (lg_sl ([.ref h0, .int p1, .int p2, .int p3, .int p4, .int p5]) ++ List.replicate (8 - (lg_sl ([.ref h0, .int p1, .int p2, .int p3, .int p4, .int p5])).length) Slot.unset).toArray = ls at hl ⊢
  have hl : lv_has ls 8 [(0, .ref h0), (1, .int p1), (2, .int p2), (3, .int p3), (4, .int p4), (5, .int p5)] := hl
  have hm := hm0
  unfold fX9_trade at hm
  refine lv_iload_n hx hb dX9_trade_0 rfl (lv_at hl 1 rfl) ?_
  refine lv_iload_n hx hb dX9_trade_1 rfl (lv_at hl 2 rfl) ?_
  refine ko_e (va_runS (As := [.int p1, .int p2]) (rest := []) ⟨hx, hb, hml, hown, htG⟩ (kX9_isSlot l g p1 p2 _ rfl) (va_cwS 2 htG (GS g4_54 g4_55 g1_10 g4_56) rfl rfl rfl hs_X9_isSlot ⟨Nat.le_of_ble_eq_true rfl, Nat.le_of_ble_eq_true rfl⟩) (PR_S hK hL hS hP [] rfl) rfl rfl hl.1 rfl (lv_room (Nat.le_of_ble_eq_true rfl)) dX9_trade_2 ⟨Nat.zero_le _, Nat.zero_le _⟩) ?_
  refine lv_if_eq (tgt := 33) hx hb dX9_trade_5 (by decide) (fun zc1 => ?_) (fun zc1 => ?_)
  · replace hm := (if_pos zc1).symm.trans hm
    refine lv_iconst (v := (-1)) hx hb dX9_trade_33 (by decide) ?_
    exact W.iret (v := (-1)) hx hb hr (fun t ht hW => ⟨⟨_, _, rfl, pr1 (Option.some.inj hm), atH ht hP⟩, hS.F ht⟩) hS.2.2 dX9_trade_34
  · replace hm := (if_neg zc1).symm.trans hm
    refine lv_iload_n hx hb dX9_trade_8 rfl (lv_at hl 3 rfl) ?_
    refine lv_iconst (v := 0) hx hb dX9_trade_9 (by decide) ?_
    refine lv_iconst (v := 5) hx hb dX9_trade_10 (by decide) ?_
    refine ko_e (va_runS (As := [.int p3, .int 0, .int 5]) (rest := []) ⟨hx, hb, hml, hown, htG⟩ (kX9_in l g p3 0 5 _ rfl) (va_cwS 3 htG (GS g4_1 g4_2 g1_10 g4_3) rfl rfl rfl hs_X9_in ⟨Nat.le_of_ble_eq_true rfl, Nat.le_of_ble_eq_true rfl⟩) (PR_S hK hL hS hP [] rfl) rfl rfl hl.1 rfl (lv_room (Nat.le_of_ble_eq_true rfl)) dX9_trade_11 ⟨Nat.zero_le _, Nat.zero_le _⟩) ?_
    refine lv_if_eq (tgt := 33) hx hb dX9_trade_14 (by decide) (fun zc2 => ?_) (fun zc2 => ?_)
    · replace hm := (if_pos zc2).symm.trans hm
      refine lv_iconst (v := (-1)) hx hb dX9_trade_33 (by decide) ?_
      exact W.iret (v := (-1)) hx hb hr (fun t ht hW => ⟨⟨_, _, rfl, pr1 (Option.some.inj hm), atH ht hP⟩, hS.F ht⟩) hS.2.2 dX9_trade_34
    · replace hm := (if_neg zc2).symm.trans hm
      refine lv_aload_n hx hb dX9_trade_17 rfl (lv_at hl 0 rfl) ?_
      refine va_get (D := g.1) (ci := 8) (v := .ref h1) (C := RX9) (T := TX9) (N := 11) hx hb htG in_wsX90 hown hK.1 hP 0 rfl rfl 0 (by decide) (htG _ g3_195) (fun _ h9 => h9) rfl dX9_trade_18 ?_
      refine lv_bipush (v := 51) hx hb dX9_trade_21 (by decide +kernel) ?_
      refine lv_iload_n hx hb dX9_trade_23 rfl (lv_at hl 1 rfl) ?_
      refine lv_iload_n hx hb dX9_trade_24 rfl (lv_at hl 2 rfl) ?_
      refine ko_e (va_runS (As := [.int p1, .int p2]) (rest := [.int 51, .ref h1]) ⟨hx, hb, hml, hown, htG⟩ (kX9_place l g p1 p2 _ rfl) (va_cwS 2 htG (GS g4_35 g4_36 g1_10 g4_37) rfl rfl rfl hs_X9_place ⟨Nat.le_of_ble_eq_true rfl, Nat.le_of_ble_eq_true rfl⟩) (PR_S hK hL hS hP [] rfl) rfl rfl hl.1 rfl (lv_room (Nat.le_of_ble_eq_true rfl)) dX9_trade_25 ⟨Nat.zero_le _, Nat.zero_le _⟩) ?_
      refine lv_iadd hx hb dX9_trade_28 ?_
      obtain ⟨zb3, hm⟩ := ibk hm
      refine va_iald hx hb hK.1 hP 1 0 rfl rfl zb3 dX9_trade_29 ?_
      refine lv_if_ge (tgt := 35) hx hb dX9_trade_30 (by decide) (fun zc4 => ?_) (fun zc4 => ?_)
      · replace hm := (if_pos zc4).symm.trans hm
        refine lv_iload hx hb dX9_trade_35 (lv_at hl 4 rfl) ?_
        refine lv_iconst (v := 1) hx hb dX9_trade_37 (by decide) ?_
        refine lv_iload_n hx hb dX9_trade_38 rfl (lv_at hl 1 rfl) ?_
        refine ko_e (va_runS (As := [.int p1]) (rest := [.int 1, .int p4]) ⟨hx, hb, hml, hown, htG⟩ (kX9_most l g p1 _ rfl) (va_cwS 1 htG (GS g4_32 g4_33 g1_10 g4_34) rfl rfl rfl hs_X9_most ⟨Nat.le_of_ble_eq_true rfl, Nat.le_of_ble_eq_true rfl⟩) (PR_S hK hL hS hP [] rfl) rfl rfl hl.1 rfl (lv_room (Nat.le_of_ble_eq_true rfl)) dX9_trade_39 ⟨Nat.zero_le _, Nat.zero_le _⟩) ?_
        refine ko_e (va_runS (As := [.int p4, .int 1, .int (fX9_most p1)]) (rest := []) ⟨hx, hb, hml, hown, htG⟩ (kX9_in l g p4 1 (fX9_most p1) _ rfl) (va_cwS 3 htG (GS g4_1 g4_2 g1_10 g4_3) rfl rfl rfl hs_X9_in ⟨Nat.le_of_ble_eq_true rfl, Nat.le_of_ble_eq_true rfl⟩) (PR_S hK hL hS hP [] rfl) rfl rfl hl.1 rfl (lv_room (Nat.le_of_ble_eq_true rfl)) dX9_trade_42 ⟨Nat.zero_le _, Nat.zero_le _⟩) ?_
        refine lv_if_eq (tgt := 60) hx hb dX9_trade_45 (by decide) (fun zc5 => ?_) (fun zc5 => ?_)
        · replace hm := (if_pos zc5).symm.trans hm
          refine lv_bipush (v := (-2)) hx hb dX9_trade_60 (by decide +kernel) ?_
          exact W.iret (v := (-2)) hx hb hr (fun t ht hW => ⟨⟨_, _, rfl, pr1 (Option.some.inj hm), atH ht hP⟩, hS.F ht⟩) hS.2.2 dX9_trade_62
        · replace hm := (if_neg zc5).symm.trans hm
          refine lv_iload hx hb dX9_trade_48 (lv_at hl 5 rfl) ?_
          refine lv_iconst (v := 0) hx hb dX9_trade_50 (by decide) ?_
          refine lv_sipush (v := 999) hx hb dX9_trade_51 (by decide +kernel) ?_
          refine ko_e (va_runS (As := [.int p5, .int 0, .int 999]) (rest := []) ⟨hx, hb, hml, hown, htG⟩ (kX9_in l g p5 0 999 _ rfl) (va_cwS 3 htG (GS g4_1 g4_2 g1_10 g4_3) rfl rfl rfl hs_X9_in ⟨Nat.le_of_ble_eq_true rfl, Nat.le_of_ble_eq_true rfl⟩) (PR_S hK hL hS hP [] rfl) rfl rfl hl.1 rfl (lv_room (Nat.le_of_ble_eq_true rfl)) dX9_trade_54 ⟨Nat.zero_le _, Nat.zero_le _⟩) ?_
          refine lv_if_ne (tgt := 63) hx hb dX9_trade_57 (by decide) (fun zc6 => ?_) (fun zc6 => ?_)
          · replace hm := (if_neg zc6).symm.trans hm
            refine lv_iload_n hx hb dX9_trade_63 rfl (lv_at hl 1 rfl) ?_
            refine lv_iload_n hx hb dX9_trade_64 rfl (lv_at hl 2 rfl) ?_
            refine ko_e (va_runS (As := [.int p1, .int p2]) (rest := []) ⟨hx, hb, hml, hown, htG⟩ (kX9_place l g p1 p2 _ rfl) (va_cwS 2 htG (GS g4_35 g4_36 g1_10 g4_37) rfl rfl rfl hs_X9_place ⟨Nat.le_of_ble_eq_true rfl, Nat.le_of_ble_eq_true rfl⟩) (PR_S hK hL hS hP [] rfl) rfl rfl hl.1 rfl (lv_room (Nat.le_of_ble_eq_true rfl)) dX9_trade_65 ⟨Nat.zero_le _, Nat.zero_le _⟩) ?_
            refine lv_istore (lv' := [(6, .int (fX9_place p1 p2)), (0, .ref h0), (1, .int p1), (2, .int p2), (3, .int p3), (4, .int p4), (5, .int p5)]) hx hb dX9_trade_68 hl (by decide) rfl (fun ls hl => ?_)
            refine lv_aload_n hx hb dX9_trade_70 rfl (lv_at hl 1 rfl) ?_
            refine va_get (D := g.1) (ci := 8) (v := .ref h1) (C := RX9) (T := TX9) (N := 11) hx hb htG in_wsX90 hown hK.1 hP 0 rfl rfl 0 (by decide) (htG _ g3_195) (fun _ h9 => h9) rfl dX9_trade_71 ?_
            refine lv_bipush (v := 51) hx hb dX9_trade_74 (by decide +kernel) ?_
            refine lv_iload hx hb dX9_trade_76 (lv_at hl 0 rfl) ?_
            refine lv_iadd hx hb dX9_trade_78 ?_
            refine va_iald hx hb hK.1 hP 1 0 rfl rfl zb3 dX9_trade_79 ?_
            obtain ⟨zv7, ezv7, hm⟩ := bnk hm
            refine tope ezv7 ?_
            refine lv_istore (lv' := [(7, .int zv7), (6, .int (fX9_place p1 p2)), (0, .ref h0), (1, .int p1), (2, .int p2), (3, .int p3), (4, .int p4), (5, .int p5)]) hx hb dX9_trade_80 hl (by decide) rfl (fun ls hl => ?_)
            refine lv_aload_n hx hb dX9_trade_82 rfl (lv_at hl 2 rfl) ?_
            refine lv_iconst (v := 0) hx hb dX9_trade_83 (by decide) ?_
            refine lv_iload_n hx hb dX9_trade_84 rfl (lv_at hl 4 rfl) ?_
            obtain ⟨zq8, hzq8, hm⟩ := bdk hm
            refine ko_e (va_runV (As := [.int 0, .int p2]) (rest := []) ⟨hx, hb, hml, hown, htG⟩ (kX9_isDone l g h0 h1 h2 h3 x 0 p2 _ hzq8) (cwV 2 htG (GV g4_4 g4_6 gS_12 g1_10 g4_7) rfl rfl rfl hd_X9_isDone ⟨Nat.le_of_ble_eq_true rfl, Nat.le_of_ble_eq_true rfl⟩) (PR_VA hK hL hS hP (ci := 8) rfl 0 rfl) rfl rfl hl.1 rfl (lv_room (Nat.le_of_ble_eq_true rfl)) dX9_trade_85 ⟨Nat.zero_le _, Nat.zero_le _⟩) ?_
            refine lv_if_ne (tgt := 97) hx hb dX9_trade_88 (by decide) (fun zc9 => ?_) (fun zc9 => ?_)
            · replace hm := (if_neg zc9).symm.trans hm
              refine lv_bipush (v := (-4)) hx hb dX9_trade_97 (by decide +kernel) ?_
              exact W.iret (v := (-4)) hx hb hr (fun t ht hW => ⟨⟨_, _, rfl, pr1 (Option.some.inj hm), atH ht hP⟩, hS.F ht⟩) hS.2.2 dX9_trade_99
            · replace hm := (if_pos zc9).symm.trans hm
              refine lv_iload hx hb dX9_trade_91 (lv_at hl 0 rfl) ?_
              refine lv_iload_n hx hb dX9_trade_93 rfl (lv_at hl 5 rfl) ?_
              refine lv_icmp_ne (tgt := 100) hx hb dX9_trade_94 (by decide) (fun zc10 => ?_) (fun zc10 => ?_)
              · replace hm := (if_neg zc10).symm.trans hm
                refine lv_aload_n hx hb dX9_trade_100 rfl (lv_at hl 2 rfl) ?_
                refine va_get (D := g.1) (ci := 8) (v := .ref h1) (C := RX9) (T := TX9) (N := 11) hx hb htG in_wsX90 hown hK.1 hP 0 rfl rfl 0 (by decide) (htG _ g3_195) (fun _ h9 => h9) rfl dX9_trade_101 ?_
                refine lv_iconst (v := 2) hx hb dX9_trade_104 (by decide) ?_
                refine lv_iload_n hx hb dX9_trade_105 rfl (lv_at hl 5 rfl) ?_
                refine lv_iadd hx hb dX9_trade_106 ?_
                obtain ⟨zb11, hm⟩ := ibk hm
                refine va_iald hx hb hK.1 hP 1 0 rfl rfl zb11 dX9_trade_107 ?_
                refine lv_aload_n hx hb dX9_trade_108 rfl (lv_at hl 2 rfl) ?_
                refine lv_iconst (v := 0) hx hb dX9_trade_109 (by decide) ?_
                refine lv_iload_n hx hb dX9_trade_110 rfl (lv_at hl 5 rfl) ?_
                obtain ⟨zq12, hzq12, hm⟩ := bdk hm
                refine ko_e (va_runV (As := [.int 0, .int p3]) (rest := [.int (x.1 ((2 + p3).toNatClampNeg))]) ⟨hx, hb, hml, hown, htG⟩ (kX9_offered l g h0 h1 h2 h3 x 0 p3 _ hzq12) (cwV 2 htG (GV g4_38 g4_40 gS_17 g1_10 g4_41) rfl rfl rfl hd_X9_offered ⟨Nat.le_of_ble_eq_true rfl, Nat.le_of_ble_eq_true rfl⟩) (PR_VA hK hL hS hP (ci := 8) rfl 0 rfl) rfl rfl hl.1 rfl (lv_room (Nat.le_of_ble_eq_true rfl)) dX9_trade_111 ⟨Nat.zero_le _, Nat.zero_le _⟩) ?_
                refine lv_isub hx hb dX9_trade_114 ?_
                refine lv_iload hx hb dX9_trade_115 (lv_at hl 7 rfl) ?_
                refine lv_icmp_ge (tgt := 123) hx hb dX9_trade_117 (by decide) (fun zc13 => ?_) (fun zc13 => ?_)
                · replace hm := (if_pos zc13).symm.trans hm
                  refine lv_aload_n hx hb dX9_trade_123 rfl (lv_at hl 2 rfl) ?_
                  obtain ⟨zq14, hzq14, hm⟩ := bdk hm
                  refine kw_veA (va_runV (As := []) (rest := []) ⟨hx, hb, hml, hown, htG⟩ (kX9_records l g h0 h1 h2 h3 _ x _ hzq14) (cwV 0 htG (GV g4_12 g4_14 gS_14 g1_10 g4_15) rfl rfl rfl hd_X9_records ⟨Nat.le_of_ble_eq_true rfl, Nat.le_of_ble_eq_true rfl⟩) (PW_VA hK hL hS hP hD hA (ci := 8) rfl 0 rfl) rfl rfl hl.1 rfl (lv_room (Nat.le_of_ble_eq_true rfl)) dX9_trade_124 ⟨Nat.zero_le _, Nat.zero_le _⟩) hD hS hA (fun _ => rfl) (fun H locs hP hD hS => ?_)
                  have hP : va_P g.1 vwCl (w_X9 g h0 h1 h2 h3 zq14) H := hP
                  have hD : va_D A (w_X9 g h0 h1 h2 h3 zq14) := hD
                  refine lv_aload_n hx hb dX9_trade_127 rfl (lv_at hl 2 rfl) ?_
                  refine va_get (D := g.1) (ci := 8) (v := .ref h1) (C := RX9) (T := TX9) (N := 11) hx hb htG in_wsX90 hown hK.1 hP 0 rfl rfl 0 (by decide) (htG _ g3_195) (fun _ h9 => h9) rfl dX9_trade_128 ?_
                  refine lv_iconst (v := 2) hx hb dX9_trade_131 (by decide) ?_
                  refine lv_iload_n hx hb dX9_trade_132 rfl (lv_at hl 5 rfl) ?_
                  refine lv_iadd hx hb dX9_trade_133 ?_
                  refine lv_dup2_11 hx hb dX9_trade_134 rfl rfl ?_
                  refine va_iald hx hb hK.1 hP 1 0 rfl rfl zb11 dX9_trade_135 ?_
                  refine lv_iload hx hb dX9_trade_136 (lv_at hl 7 rfl) ?_
                  refine lv_isub hx hb dX9_trade_138 ?_
                  obtain ⟨zf15, ezf15, hm⟩ := bnk hm
                  refine iast_e hx hb hK.1 hP hD hS 1 0 rfl rfl zb11 dX9_trade_139 ezf15 (fun H locs hP hD hS => ?_)
                  have hP : va_P g.1 vwCl (w_X9 g h0 h1 h2 h3 (zf15, zq14.2.1, zq14.2.2.1, zq14.2.2.2.1, zq14.2.2.2.2.1, zq14.2.2.2.2.2.1, zq14.2.2.2.2.2.2.1, zq14.2.2.2.2.2.2.2.1, zq14.2.2.2.2.2.2.2.2.1, zq14.2.2.2.2.2.2.2.2.2.1, zq14.2.2.2.2.2.2.2.2.2.2)) H := hP
                  have hD : va_D A (w_X9 g h0 h1 h2 h3 (zf15, zq14.2.1, zq14.2.2.1, zq14.2.2.2.1, zq14.2.2.2.2.1, zq14.2.2.2.2.2.1, zq14.2.2.2.2.2.2.1, zq14.2.2.2.2.2.2.2.1, zq14.2.2.2.2.2.2.2.2.1, zq14.2.2.2.2.2.2.2.2.2.1, zq14.2.2.2.2.2.2.2.2.2.2)) := hD
                  refine lv_aload_n hx hb dX9_trade_140 rfl (lv_at hl 2 rfl) ?_
                  refine va_get (D := g.1) (ci := 8) (v := .ref h1) (C := RX9) (T := TX9) (N := 11) hx hb htG in_wsX90 hown hK.1 hP 0 rfl rfl 0 (by decide) (htG _ g3_195) (fun _ h9 => h9) rfl dX9_trade_141 ?_
                  refine lv_bipush (v := 20) hx hb dX9_trade_144 (by decide +kernel) ?_
                  refine lv_iload_n hx hb dX9_trade_146 rfl (lv_at hl 5 rfl) ?_
                  refine lv_iadd hx hb dX9_trade_147 ?_
                  refine lv_dup2_11 hx hb dX9_trade_148 rfl rfl ?_
                  obtain ⟨zb16, hm⟩ := ibk hm
                  refine va_iald hx hb hK.1 hP 1 0 rfl rfl zb16 dX9_trade_149 ?_
                  refine lv_iload hx hb dX9_trade_150 (lv_at hl 7 rfl) ?_
                  refine lv_isub hx hb dX9_trade_152 ?_
                  obtain ⟨zf17, ezf17, hm⟩ := bnk hm
                  refine iast_e hx hb hK.1 hP hD hS 1 0 rfl rfl zb16 dX9_trade_153 ezf17 (fun H locs hP hD hS => ?_)
                  have hP : va_P g.1 vwCl (w_X9 g h0 h1 h2 h3 (zf17, zq14.2.1, zq14.2.2.1, zq14.2.2.2.1, zq14.2.2.2.2.1, zq14.2.2.2.2.2.1, zq14.2.2.2.2.2.2.1, zq14.2.2.2.2.2.2.2.1, zq14.2.2.2.2.2.2.2.2.1, zq14.2.2.2.2.2.2.2.2.2.1, zq14.2.2.2.2.2.2.2.2.2.2)) H := hP
                  have hD : va_D A (w_X9 g h0 h1 h2 h3 (zf17, zq14.2.1, zq14.2.2.1, zq14.2.2.2.1, zq14.2.2.2.2.1, zq14.2.2.2.2.2.1, zq14.2.2.2.2.2.2.1, zq14.2.2.2.2.2.2.2.1, zq14.2.2.2.2.2.2.2.2.1, zq14.2.2.2.2.2.2.2.2.2.1, zq14.2.2.2.2.2.2.2.2.2.2)) := hD
                  refine lv_aload_n hx hb dX9_trade_154 rfl (lv_at hl 2 rfl) ?_
                  refine va_get (D := g.1) (ci := 8) (v := .ref h1) (C := RX9) (T := TX9) (N := 11) hx hb htG in_wsX90 hown hK.1 hP 0 rfl rfl 0 (by decide) (htG _ g3_195) (fun _ h9 => h9) rfl dX9_trade_155 ?_
                  refine lv_iconst (v := 2) hx hb dX9_trade_158 (by decide) ?_
                  refine lv_iload hx hb dX9_trade_159 (lv_at hl 0 rfl) ?_
                  refine lv_iadd hx hb dX9_trade_161 ?_
                  refine lv_dup2_11 hx hb dX9_trade_162 rfl rfl ?_
                  obtain ⟨zb18, hm⟩ := ibk hm
                  refine va_iald hx hb hK.1 hP 1 0 rfl rfl zb18 dX9_trade_163 ?_
                  refine lv_iload hx hb dX9_trade_164 (lv_at hl 7 rfl) ?_
                  refine lv_iadd hx hb dX9_trade_166 ?_
                  obtain ⟨zf19, ezf19, hm⟩ := bnk hm
                  refine iast_e hx hb hK.1 hP hD hS 1 0 rfl rfl zb18 dX9_trade_167 ezf19 (fun H locs hP hD hS => ?_)
                  have hP : va_P g.1 vwCl (w_X9 g h0 h1 h2 h3 (zf19, zq14.2.1, zq14.2.2.1, zq14.2.2.2.1, zq14.2.2.2.2.1, zq14.2.2.2.2.2.1, zq14.2.2.2.2.2.2.1, zq14.2.2.2.2.2.2.2.1, zq14.2.2.2.2.2.2.2.2.1, zq14.2.2.2.2.2.2.2.2.2.1, zq14.2.2.2.2.2.2.2.2.2.2)) H := hP
                  have hD : va_D A (w_X9 g h0 h1 h2 h3 (zf19, zq14.2.1, zq14.2.2.1, zq14.2.2.2.1, zq14.2.2.2.2.1, zq14.2.2.2.2.2.1, zq14.2.2.2.2.2.2.1, zq14.2.2.2.2.2.2.2.1, zq14.2.2.2.2.2.2.2.2.1, zq14.2.2.2.2.2.2.2.2.2.1, zq14.2.2.2.2.2.2.2.2.2.2)) := hD
                  refine lv_aload_n hx hb dX9_trade_168 rfl (lv_at hl 2 rfl) ?_
                  refine va_get (D := g.1) (ci := 8) (v := .ref h1) (C := RX9) (T := TX9) (N := 11) hx hb htG in_wsX90 hown hK.1 hP 0 rfl rfl 0 (by decide) (htG _ g3_195) (fun _ h9 => h9) rfl dX9_trade_169 ?_
                  refine lv_bipush (v := 20) hx hb dX9_trade_172 (by decide +kernel) ?_
                  refine lv_iload hx hb dX9_trade_174 (lv_at hl 0 rfl) ?_
                  refine lv_iadd hx hb dX9_trade_176 ?_
                  refine lv_dup2_11 hx hb dX9_trade_177 rfl rfl ?_
                  obtain ⟨zb20, hm⟩ := ibk hm
                  refine va_iald hx hb hK.1 hP 1 0 rfl rfl zb20 dX9_trade_178 ?_
                  refine lv_iload hx hb dX9_trade_179 (lv_at hl 7 rfl) ?_
                  refine lv_iadd hx hb dX9_trade_181 ?_
                  obtain ⟨zf21, ezf21, hm⟩ := bnk hm
                  refine iast_e hx hb hK.1 hP hD hS 1 0 rfl rfl zb20 dX9_trade_182 ezf21 (fun H locs hP hD hS => ?_)
                  have hP : va_P g.1 vwCl (w_X9 g h0 h1 h2 h3 (zf21, zq14.2.1, zq14.2.2.1, zq14.2.2.2.1, zq14.2.2.2.2.1, zq14.2.2.2.2.2.1, zq14.2.2.2.2.2.2.1, zq14.2.2.2.2.2.2.2.1, zq14.2.2.2.2.2.2.2.2.1, zq14.2.2.2.2.2.2.2.2.2.1, zq14.2.2.2.2.2.2.2.2.2.2)) H := hP
                  have hD : va_D A (w_X9 g h0 h1 h2 h3 (zf21, zq14.2.1, zq14.2.2.1, zq14.2.2.2.1, zq14.2.2.2.2.1, zq14.2.2.2.2.2.1, zq14.2.2.2.2.2.2.1, zq14.2.2.2.2.2.2.2.1, zq14.2.2.2.2.2.2.2.2.1, zq14.2.2.2.2.2.2.2.2.2.1, zq14.2.2.2.2.2.2.2.2.2.2)) := hD
                  refine lv_aload_n hx hb dX9_trade_183 rfl (lv_at hl 2 rfl) ?_
                  refine va_get (D := g.1) (ci := 8) (v := .ref h1) (C := RX9) (T := TX9) (N := 11) hx hb htG in_wsX90 hown hK.1 hP 0 rfl rfl 0 (by decide) (htG _ g3_195) (fun _ h9 => h9) rfl dX9_trade_184 ?_
                  refine lv_bipush (v := 51) hx hb dX9_trade_187 (by decide +kernel) ?_
                  refine lv_iload hx hb dX9_trade_189 (lv_at hl 1 rfl) ?_
                  refine lv_iadd hx hb dX9_trade_191 ?_
                  refine lv_iload_n hx hb dX9_trade_192 rfl (lv_at hl 5 rfl) ?_
                  obtain ⟨zf22, ezf22, hm⟩ := bnk hm
                  refine iast_e hx hb hK.1 hP hD hS 1 0 rfl rfl zb3 dX9_trade_193 ezf22 (fun H locs hP hD hS => ?_)
                  have hP : va_P g.1 vwCl (w_X9 g h0 h1 h2 h3 (zf22, zq14.2.1, zq14.2.2.1, zq14.2.2.2.1, zq14.2.2.2.2.1, zq14.2.2.2.2.2.1, zq14.2.2.2.2.2.2.1, zq14.2.2.2.2.2.2.2.1, zq14.2.2.2.2.2.2.2.2.1, zq14.2.2.2.2.2.2.2.2.2.1, zq14.2.2.2.2.2.2.2.2.2.2)) H := hP
                  have hD : va_D A (w_X9 g h0 h1 h2 h3 (zf22, zq14.2.1, zq14.2.2.1, zq14.2.2.2.1, zq14.2.2.2.2.1, zq14.2.2.2.2.2.1, zq14.2.2.2.2.2.2.1, zq14.2.2.2.2.2.2.2.1, zq14.2.2.2.2.2.2.2.2.1, zq14.2.2.2.2.2.2.2.2.2.1, zq14.2.2.2.2.2.2.2.2.2.2)) := hD
                  refine lv_aload_n hx hb dX9_trade_194 rfl (lv_at hl 2 rfl) ?_
                  refine va_get (D := g.1) (ci := 8) (v := .ref h1) (C := RX9) (T := TX9) (N := 11) hx hb htG in_wsX90 hown hK.1 hP 0 rfl rfl 0 (by decide) (htG _ g3_195) (fun _ h9 => h9) rfl dX9_trade_195 ?_
                  refine lv_bipush (v := 99) hx hb dX9_trade_198 (by decide +kernel) ?_
                  refine lv_iload hx hb dX9_trade_200 (lv_at hl 1 rfl) ?_
                  refine lv_iadd hx hb dX9_trade_202 ?_
                  refine lv_iload hx hb dX9_trade_203 (lv_at hl 6 rfl) ?_
                  obtain ⟨zb23, hm⟩ := ibk hm
                  obtain ⟨zf24, ezf24, hm⟩ := bnk hm
                  refine iast_e hx hb hK.1 hP hD hS 1 0 rfl rfl zb23 dX9_trade_205 ezf24 (fun H locs hP hD hS => ?_)
                  have hP : va_P g.1 vwCl (w_X9 g h0 h1 h2 h3 (zf24, zq14.2.1, zq14.2.2.1, zq14.2.2.2.1, zq14.2.2.2.2.1, zq14.2.2.2.2.2.1, zq14.2.2.2.2.2.2.1, zq14.2.2.2.2.2.2.2.1, zq14.2.2.2.2.2.2.2.2.1, zq14.2.2.2.2.2.2.2.2.2.1, zq14.2.2.2.2.2.2.2.2.2.2)) H := hP
                  have hD : va_D A (w_X9 g h0 h1 h2 h3 (zf24, zq14.2.1, zq14.2.2.1, zq14.2.2.2.1, zq14.2.2.2.2.1, zq14.2.2.2.2.2.1, zq14.2.2.2.2.2.2.1, zq14.2.2.2.2.2.2.2.1, zq14.2.2.2.2.2.2.2.2.1, zq14.2.2.2.2.2.2.2.2.2.1, zq14.2.2.2.2.2.2.2.2.2.2)) := hD
                  refine lv_aload_n hx hb dX9_trade_206 rfl (lv_at hl 2 rfl) ?_
                  refine va_get (D := g.1) (ci := 8) (v := .ref h1) (C := RX9) (T := TX9) (N := 11) hx hb htG in_wsX90 hown hK.1 hP 0 rfl rfl 0 (by decide) (htG _ g3_195) (fun _ h9 => h9) rfl dX9_trade_207 ?_
                  refine lv_bipush (v := 33) hx hb dX9_trade_210 (by decide +kernel) ?_
                  refine lv_dup2_11 hx hb dX9_trade_212 rfl rfl ?_
                  refine va_iald hx hb hK.1 hP 1 0 rfl rfl (ib_in (by decide +kernel)) dX9_trade_213 ?_
                  refine lv_iconst (v := 1) hx hb dX9_trade_214 (by decide) ?_
                  refine lv_iadd hx hb dX9_trade_215 ?_
                  obtain ⟨zf25, ezf25, hm⟩ := bnk hm
                  refine iast_e hx hb hK.1 hP hD hS 1 0 rfl rfl (ib_in (by decide +kernel)) dX9_trade_216 ezf25 (fun H locs hP hD hS => ?_)
                  have hP : va_P g.1 vwCl (w_X9 g h0 h1 h2 h3 (zf25, zq14.2.1, zq14.2.2.1, zq14.2.2.2.1, zq14.2.2.2.2.1, zq14.2.2.2.2.2.1, zq14.2.2.2.2.2.2.1, zq14.2.2.2.2.2.2.2.1, zq14.2.2.2.2.2.2.2.2.1, zq14.2.2.2.2.2.2.2.2.2.1, zq14.2.2.2.2.2.2.2.2.2.2)) H := hP
                  have hD : va_D A (w_X9 g h0 h1 h2 h3 (zf25, zq14.2.1, zq14.2.2.1, zq14.2.2.2.1, zq14.2.2.2.2.1, zq14.2.2.2.2.2.1, zq14.2.2.2.2.2.2.1, zq14.2.2.2.2.2.2.2.1, zq14.2.2.2.2.2.2.2.2.1, zq14.2.2.2.2.2.2.2.2.2.1, zq14.2.2.2.2.2.2.2.2.2.2)) := hD
                  refine lv_aload_n hx hb dX9_trade_217 rfl (lv_at hl 2 rfl) ?_
                  refine va_get (D := g.1) (ci := 8) (v := .ref h1) (C := RX9) (T := TX9) (N := 11) hx hb htG in_wsX90 hown hK.1 hP 0 rfl rfl 0 (by decide) (htG _ g3_195) (fun _ h9 => h9) rfl dX9_trade_218 ?_
                  refine lv_iconst (v := 2) hx hb dX9_trade_221 (by decide) ?_
                  refine lv_iload hx hb dX9_trade_222 (lv_at hl 0 rfl) ?_
                  refine lv_iadd hx hb dX9_trade_224 ?_
                  refine va_iald hx hb hK.1 hP 1 0 rfl rfl zb18 dX9_trade_225 ?_
                  exact W.iret (v := (zf25 ((2 + zv7).toNatClampNeg))) hx hb hr (fun t ht hW => ⟨⟨_, _, rfl, pr1 (Option.some.inj hm), atH ht hP⟩, hS.F ht⟩) hS.2.2 dX9_trade_226
                · replace hm := (if_neg zc13).symm.trans hm
                  refine lv_bipush (v := (-6)) hx hb dX9_trade_120 (by decide +kernel) ?_
                  exact W.iret (v := (-6)) hx hb hr (fun t ht hW => ⟨⟨_, _, rfl, pr1 (Option.some.inj hm), atH ht hP⟩, hS.F ht⟩) hS.2.2 dX9_trade_122
              · replace hm := (if_pos zc10).symm.trans hm
                refine lv_bipush (v := (-4)) hx hb dX9_trade_97 (by decide +kernel) ?_
                exact W.iret (v := (-4)) hx hb hr (fun t ht hW => ⟨⟨_, _, rfl, pr1 (Option.some.inj hm), atH ht hP⟩, hS.F ht⟩) hS.2.2 dX9_trade_99
          · replace hm := (if_pos zc6).symm.trans hm
            refine lv_bipush (v := (-2)) hx hb dX9_trade_60 (by decide +kernel) ?_
            exact W.iret (v := (-2)) hx hb hr (fun t ht hW => ⟨⟨_, _, rfl, pr1 (Option.some.inj hm), atH ht hP⟩, hS.F ht⟩) hS.2.2 dX9_trade_62
      · replace hm := (if_neg zc4).symm.trans hm
        refine lv_iconst (v := (-1)) hx hb dX9_trade_33 (by decide) ?_
        exact W.iret (v := (-1)) hx hb hr (fun t ht hW => ⟨⟨_, _, rfl, pr1 (Option.some.inj hm), atH ht hP⟩, hS.F ht⟩) hS.2.2 dX9_trade_34
