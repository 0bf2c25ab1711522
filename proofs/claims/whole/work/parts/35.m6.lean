def fX9_done (x : MD) (p1 : Int32) : Option (Int32 × MD) := ((fX9_copies x 0 6).bind (fun zq1 => ((fX9_does zq1 6 p1).bind (fun zq2 => ((fX9_settles zq2.2 zq2.1).bind (fun zq3 => some (zq3.1, zq3.2)))))))
abbrev rm_X9_done : Jvm.Room := { frames := 5, cells := 0, slots := 0, locals := 122 }
theorem hd_X9_done : yX9_done.cls = RX9 ∧ yX9_done.cls ≠ "java/lang/invoke/MethodHandle" ∧ yX9_done.cls ≠ "java/lang/invoke/VarHandle" ∧ (parseMethodDescriptor yX9_done.desc).map (fun d => d.parameters.length) = some 1 := by decide +kernel
set_option maxHeartbeats 4000000 in
set_option maxRecDepth 100000 in
theorem kX9_done (l : Launch) (g : CX) (h0 h1 h2 h3 : Nat) (sz : Nat) (x : MD) (p1 : Int32) (res : Int32 × MD) (hm0 : fX9_done x p1 = some res) : Met l yX9_done (wg yX9_done cX9_done 2 (some .int)) rm_X9_done (PW g [.ref h0, .int p1] sz (w_X9 g h0 h1 h2 h3 x)) (va_Qi (fun v u => v = res.1 ∧ u = res.2) (fun u t => va_P g.1 vwCl (w_X9 g h0 h1 h2 h3 u) t.heap) (va_A (w_X9 g h0 h1 h2 h3 x) sz)) 0 0 (va_A (w_X9 g h0 h1 h2 h3 x) sz) := by
  refine Met.ofW (cc := cX9_done) (maxL := 2) (ret := (some .int)) (by decide) rfl ?_
  intro p e s m args below meth c s₁ B hml hv
  obtain ⟨rfl, hsz, hP, hK, hD0, hL⟩ := hv
  have hx := B.exec
  have hb := B.bytes
  have hr := B.returns
  have htG := wg_G (atoms_spec (ws := wg yX9_done cX9_done 2 (some .int)) B.pre)
  have hown : s.vm.findClass RX9 = some m.cls := findClass_of_methodNamed B.named
  have hlocks := B.notSynchronized
  subst hsz
  have hD := hD0.self (sz := s.heap.size)
  generalize hAe : va_A (w_X9 g h0 h1 h2 h3 x) s.heap.size = A at hD hL ⊢
  have hA : ∀ q : Nat, s.heap.size ≤ q → A q := fun q h => by rw [← hAe]; exact Or.inr h
  have hS : va_S A s.heap s.heap [] := va_S.rf
  have hl := lv_entry ([.ref h0, .int p1]) (n := 2) (Nat.le_of_ble_eq_true rfl)
  rw [lg_entry_eq]
  generalize (lg_sl ([.ref h0, .int p1]) ++ List.replicate (2 - (lg_sl ([.ref h0, .int p1])).length) Slot.unset).toArray = ls at hl ⊢
  have hl : lv_has ls 2 [(0, .ref h0), (1, .int p1)] := hl
  have hm := hm0
  unfold fX9_done at hm
  refine lv_aload_n hx hb dX9_done_0 rfl (lv_at hl 0 rfl) ?_
  refine lv_iconst (v := 0) hx hb dX9_done_1 (by decide) ?_
  refine lv_bipush (v := 6) hx hb dX9_done_2 (by decide +kernel) ?_
  obtain ⟨zq1, hzq1, hm⟩ := bdk hm
  refine kw_veA (va_runV (As := [.int 0, .int 6]) (rest := []) ⟨hx, hb, hml, hown, htG⟩ (kX9_copies l g h0 h1 h2 h3 _ x 0 6 _ hzq1) (cwV 2 htG (GV g3_233 g3_235 gS_10 g1_10 g3_236) rfl rfl rfl hd_X9_copies ⟨Nat.le_of_ble_eq_true rfl, Nat.le_of_ble_eq_true rfl⟩) (PW_VA hK hL hS hP hD hA (ci := 8) rfl 0 rfl) rfl rfl hl.1 rfl (lv_room (Nat.le_of_ble_eq_true rfl)) dX9_done_4 ⟨Nat.zero_le _, Nat.zero_le _⟩) hD hS hA (fun _ => rfl) (fun H locs hP hD hS => ?_)
  have hP : va_P g.1 vwCl (w_X9 g h0 h1 h2 h3 zq1) H := hP
  have hD : va_D A (w_X9 g h0 h1 h2 h3 zq1) := hD
  refine lv_aload_n hx hb dX9_done_7 rfl (lv_at hl 0 rfl) ?_
  refine lv_aload_n hx hb dX9_done_8 rfl (lv_at hl 0 rfl) ?_
  refine lv_bipush (v := 6) hx hb dX9_done_9 (by decide +kernel) ?_
  refine lv_iload_n hx hb dX9_done_11 rfl (lv_at hl 1 rfl) ?_
  obtain ⟨zq2, hzq2, hm⟩ := bdk hm
  refine kw_ieA (va_runV (As := [.int 6, .int p1]) (rest := [.ref h0]) ⟨hx, hb, hml, hown, htG⟩ (kX9_does l g h0 h1 h2 h3 _ zq1 6 p1 _ hzq2) (cwV 2 htG (GV g4_84 g4_86 gS_23 g1_10 g4_87) rfl rfl rfl hd_X9_does ⟨Nat.le_of_ble_eq_true rfl, Nat.le_of_ble_eq_true rfl⟩) (PW_VA hK hL hS hP hD hA (ci := 8) rfl 0 rfl) rfl rfl hl.1 rfl (lv_room (Nat.le_of_ble_eq_true rfl)) dX9_done_12 ⟨Nat.zero_le _, Nat.zero_le _⟩) hD hS hA (fun _ => rfl) (fun H locs hP hD hS => ?_)
  have hP : va_P g.1 vwCl (w_X9 g h0 h1 h2 h3 zq2.2) H := hP
  have hD : va_D A (w_X9 g h0 h1 h2 h3 zq2.2) := hD
  obtain ⟨zq3, hzq3, hm⟩ := bdk hm
  refine kw_ieA (va_runV (As := [.int zq2.1]) (rest := []) ⟨hx, hb, hml, hown, htG⟩ (kX9_settles l g h0 h1 h2 h3 _ zq2.2 zq2.1 _ hzq3) (cwV 1 htG (GV g4_8 g4_10 gS_13 g1_10 g4_11) rfl rfl rfl hd_X9_settles ⟨Nat.le_of_ble_eq_true rfl, Nat.le_of_ble_eq_true rfl⟩) (PW_VA hK hL hS hP hD hA (ci := 8) rfl 0 rfl) rfl rfl hl.1 rfl (lv_room (Nat.le_of_ble_eq_true rfl)) dX9_done_15 ⟨Nat.zero_le _, Nat.zero_le _⟩) hD hS hA (fun _ => rfl) (fun H locs hP hD hS => ?_)
  have hP : va_P g.1 vwCl (w_X9 g h0 h1 h2 h3 zq3.2) H := hP
  have hD : va_D A (w_X9 g h0 h1 h2 h3 zq3.2) := hD
  exact W.iret (v := zq3.1) hx hb hr (fun t ht hW => ⟨⟨_, _, rfl, pr1 (Option.some.inj hm), atH ht hP⟩, hS.F ht⟩) hS.2.2 dX9_done_18
def fX9_nextDay (x : MD) : Option (Int32 × MD) := ((fX9_copies x 0 6).bind (fun zq1 => ((fX9_begins zq1 6).bind (fun zq2 => ((fX9_settles zq2.2 zq2.1).bind (fun zq3 => some (zq3.1, zq3.2)))))))
abbrev rm_X9_nextDay : Jvm.Room := { frames := 3, cells := 0, slots := 0, locals := 68 }
theorem hd_X9_nextDay : yX9_nextDay.cls = RX9 ∧ yX9_nextDay.cls ≠ "java/lang/invoke/MethodHandle" ∧ yX9_nextDay.cls ≠ "java/lang/invoke/VarHandle" ∧ (parseMethodDescriptor yX9_nextDay.desc).map (fun d => d.parameters.length) = some 0 := by decide +kernel
set_option maxHeartbeats 4000000 in
set_option maxRecDepth 100000 in
theorem kX9_nextDay (l : Launch) (g : CX) (h0 h1 h2 h3 : Nat) (sz : Nat) (x : MD) (res : Int32 × MD) (hm0 : fX9_nextDay x = some res) : Met l yX9_nextDay (wg yX9_nextDay cX9_nextDay 1 (some .int)) rm_X9_nextDay (PW g [.ref h0] sz (w_X9 g h0 h1 h2 h3 x)) (va_Qi (fun v u => v = res.1 ∧ u = res.2) (fun u t => va_P g.1 vwCl (w_X9 g h0 h1 h2 h3 u) t.heap) (va_A (w_X9 g h0 h1 h2 h3 x) sz)) 0 0 (va_A (w_X9 g h0 h1 h2 h3 x) sz) := by
  refine Met.ofW (cc := cX9_nextDay) (maxL := 1) (ret := (some .int)) (by decide) rfl ?_
  intro p e s m args below meth c s₁ B hml hv
  obtain ⟨rfl, hsz, hP, hK, hD0, hL⟩ := hv
  have hx := B.exec
  have hb := B.bytes
  have hr := B.returns
  have htG := wg_G (atoms_spec (ws := wg yX9_nextDay cX9_nextDay 1 (some .int)) B.pre)
  have hown : s.vm.findClass RX9 = some m.cls := findClass_of_methodNamed B.named
  have hlocks := B.notSynchronized
  subst hsz
  have hD := hD0.self (sz := s.heap.size)
  generalize hAe : va_A (w_X9 g h0 h1 h2 h3 x) s.heap.size = A at hD hL ⊢
  have hA : ∀ q : Nat, s.heap.size ≤ q → A q := fun q h => by rw [← hAe]; exact Or.inr h
  have hS : va_S A s.heap s.heap [] := va_S.rf
  have hl := lv_entry ([.ref h0]) (n := 1) (Nat.le_of_ble_eq_true rfl)
  rw [lg_entry_eq]
  generalize (lg_sl ([.ref h0]) ++ List.replicate (1 - (lg_sl ([.ref h0])).length) Slot.unset).toArray = ls at hl ⊢
  have hl : lv_has ls 1 [(0, .ref h0)] := hl
  have hm := hm0
  unfold fX9_nextDay at hm
  refine lv_aload_n hx hb dX9_nextDay_0 rfl (lv_at hl 0 rfl) ?_
  refine lv_iconst (v := 0) hx hb dX9_nextDay_1 (by decide) ?_
  refine lv_bipush (v := 6) hx hb dX9_nextDay_2 (by decide +kernel) ?_
  obtain ⟨zq1, hzq1, hm⟩ := bdk hm
  refine kw_veA (va_runV (As := [.int 0, .int 6]) (rest := []) ⟨hx, hb, hml, hown, htG⟩ (kX9_copies l g h0 h1 h2 h3 _ x 0 6 _ hzq1) (cwV 2 htG (GV g3_233 g3_235 gS_10 g1_10 g3_236) rfl rfl rfl hd_X9_copies ⟨Nat.le_of_ble_eq_true rfl, Nat.le_of_ble_eq_true rfl⟩) (PW_VA hK hL hS hP hD hA (ci := 8) rfl 0 rfl) rfl rfl hl.1 rfl (lv_room (Nat.le_of_ble_eq_true rfl)) dX9_nextDay_4 ⟨Nat.zero_le _, Nat.zero_le _⟩) hD hS hA (fun _ => rfl) (fun H locs hP hD hS => ?_)
  have hP : va_P g.1 vwCl (w_X9 g h0 h1 h2 h3 zq1) H := hP
  have hD : va_D A (w_X9 g h0 h1 h2 h3 zq1) := hD
  refine lv_aload_n hx hb dX9_nextDay_7 rfl (lv_at hl 0 rfl) ?_
  refine lv_aload_n hx hb dX9_nextDay_8 rfl (lv_at hl 0 rfl) ?_
  refine lv_bipush (v := 6) hx hb dX9_nextDay_9 (by decide +kernel) ?_
  obtain ⟨zq2, hzq2, hm⟩ := bdk hm
  refine kw_ieA (va_runV (As := [.int 6]) (rest := [.ref h0]) ⟨hx, hb, hml, hown, htG⟩ (kX9_begins l g h0 h1 h2 h3 _ zq1 6 _ hzq2) (cwV 1 htG (GV g4_96 g4_98 gS_25 g1_10 g4_99) rfl rfl rfl hd_X9_begins ⟨Nat.le_of_ble_eq_true rfl, Nat.le_of_ble_eq_true rfl⟩) (PW_VA hK hL hS hP hD hA (ci := 8) rfl 0 rfl) rfl rfl hl.1 rfl (lv_room (Nat.le_of_ble_eq_true rfl)) dX9_nextDay_11 ⟨Nat.zero_le _, Nat.zero_le _⟩) hD hS hA (fun _ => rfl) (fun H locs hP hD hS => ?_)
  have hP : va_P g.1 vwCl (w_X9 g h0 h1 h2 h3 zq2.2) H := hP
  have hD : va_D A (w_X9 g h0 h1 h2 h3 zq2.2) := hD
  obtain ⟨zq3, hzq3, hm⟩ := bdk hm
  refine kw_ieA (va_runV (As := [.int zq2.1]) (rest := []) ⟨hx, hb, hml, hown, htG⟩ (kX9_settles l g h0 h1 h2 h3 _ zq2.2 zq2.1 _ hzq3) (cwV 1 htG (GV g4_8 g4_10 gS_13 g1_10 g4_11) rfl rfl rfl hd_X9_settles ⟨Nat.le_of_ble_eq_true rfl, Nat.le_of_ble_eq_true rfl⟩) (PW_VA hK hL hS hP hD hA (ci := 8) rfl 0 rfl) rfl rfl hl.1 rfl (lv_room (Nat.le_of_ble_eq_true rfl)) dX9_nextDay_14 ⟨Nat.zero_le _, Nat.zero_le _⟩) hD hS hA (fun _ => rfl) (fun H locs hP hD hS => ?_)
  have hP : va_P g.1 vwCl (w_X9 g h0 h1 h2 h3 zq3.2) H := hP
  have hD : va_D A (w_X9 g h0 h1 h2 h3 zq3.2) := hD
  exact W.iret (v := zq3.1) hx hb hr (fun t ht hW => ⟨⟨_, _, rfl, pr1 (Option.some.inj hm), atH ht hP⟩, hS.F ht⟩) hS.2.2 dX9_nextDay_17
def fX9_type (x : MD) (p1 : Int32) : Option (Int32 × MD) := (if x.2.2.2.2.1 = 80 then some ((-3), x) else (if ib x.2.2.2.2.1 80 = true then (bnd (upd x.2.2.2.1 x.2.2.2.2.1.toNatClampNeg (vp_nar .char p1)) (fun zf3 => (bnd (x.2.2.2.2.1 + 1) (fun zv4 => some (zv4, (x.1, x.2.1, x.2.2.1, zf3, zv4, x.2.2.2.2.2.1, x.2.2.2.2.2.2.1, x.2.2.2.2.2.2.2.1, x.2.2.2.2.2.2.2.2.1, x.2.2.2.2.2.2.2.2.2.1, x.2.2.2.2.2.2.2.2.2.2)))))) else none))
abbrev rm_X9_type : Jvm.Room := { frames := 0, cells := 0, slots := 0, locals := 0 }
theorem hd_X9_type : yX9_type.cls = RX9 ∧ yX9_type.cls ≠ "java/lang/invoke/MethodHandle" ∧ yX9_type.cls ≠ "java/lang/invoke/VarHandle" ∧ (parseMethodDescriptor yX9_type.desc).map (fun d => d.parameters.length) = some 1 := by decide +kernel
set_option maxHeartbeats 4000000 in
set_option maxRecDepth 100000 in
theorem kX9_type (l : Launch) (g : CX) (h0 h1 h2 h3 : Nat) (sz : Nat) (x : MD) (p1 : Int32) (res : Int32 × MD) (hm0 : fX9_type x p1 = some res) : Met l yX9_type (wg yX9_type cX9_type 2 (some .int)) rm_X9_type (PW g [.ref h0, .int p1] sz (w_X9 g h0 h1 h2 h3 x)) (va_Qi (fun v u => v = res.1 ∧ u = res.2) (fun u t => va_P g.1 vwCl (w_X9 g h0 h1 h2 h3 u) t.heap) (va_A (w_X9 g h0 h1 h2 h3 x) sz)) 0 0 (va_A (w_X9 g h0 h1 h2 h3 x) sz) := by
  refine Met.ofW (cc := cX9_type) (maxL := 2) (ret := (some .int)) (by decide) rfl ?_
  intro p e s m args below meth c s₁ B hml hv
  obtain ⟨rfl, hsz, hP, hK, hD0, hL⟩ := hv
  have hx := B.exec
  have hb := B.bytes
  have hr := B.returns
  have htG := wg_G (atoms_spec (ws := wg yX9_type cX9_type 2 (some .int)) B.pre)
  have hown : s.vm.findClass RX9 = some m.cls := findClass_of_methodNamed B.named
  have hlocks := B.notSynchronized
  subst hsz
  have hD := hD0.self (sz := s.heap.size)
  generalize hAe : va_A (w_X9 g h0 h1 h2 h3 x) s.heap.size = A at hD hL ⊢
  have hA : ∀ q : Nat, s.heap.size ≤ q → A q := fun q h => by rw [← hAe]; exact Or.inr h
  have hS : va_S A s.heap s.heap [] := va_S.rf
  have hl := lv_entry ([.ref h0, .int p1]) (n := 2) (Nat.le_of_ble_eq_true rfl)
  rw [lg_entry_eq]
  generalize (lg_sl ([.ref h0, .int p1]) ++ List.replicate (2 - (lg_sl ([.ref h0, .int p1])).length) Slot.unset).toArray = ls at hl ⊢
  have hl : lv_has ls 2 [(0, .ref h0), (1, .int p1)] := hl
  have hm := hm0
  unfold fX9_type at hm
  refine lv_aload_n hx hb dX9_type_0 rfl (lv_at hl 0 rfl) ?_
  refine va_get (D := g.1) (ci := 8) (v := .int x.2.2.2.2.1) (C := RX9) (T := TX9) (N := 11) hx hb htG in_wsX90 hown hK.1 hP 0 rfl rfl 4 (by decide) (htG _ g3_199) (fun _ h9 => h9) rfl dX9_type_1 ?_
  refine lv_bipush (v := 80) hx hb dX9_type_4 (by decide +kernel) ?_
  refine lv_icmp_ne (tgt := 12) hx hb dX9_type_6 (by decide) (fun zc1 => ?_) (fun zc1 => ?_)
  · replace hm := (if_neg zc1).symm.trans hm
    refine lv_aload_n hx hb dX9_type_12 rfl (lv_at hl 0 rfl) ?_
    refine va_get (D := g.1) (ci := 8) (v := .ref h2) (C := RX9) (T := TX9) (N := 11) hx hb htG in_wsX90 hown hK.1 hP 0 rfl rfl 3 (by decide) (htG _ g3_198) (fun _ h9 => h9) rfl dX9_type_13 ?_
    refine lv_aload_n hx hb dX9_type_16 rfl (lv_at hl 0 rfl) ?_
    refine va_get (D := g.1) (ci := 8) (v := .int x.2.2.2.2.1) (C := RX9) (T := TX9) (N := 11) hx hb htG in_wsX90 hown hK.1 hP 0 rfl rfl 4 (by decide) (htG _ g3_199) (fun _ h9 => h9) rfl dX9_type_17 ?_
    refine lv_iload_n hx hb dX9_type_20 rfl (lv_at hl 1 rfl) ?_
    obtain ⟨zb2, hm⟩ := ibk hm
    obtain ⟨zf3, ezf3, hm⟩ := bnk hm
    refine cast_e hx hb hK.1 hP hD hS 2 1 rfl rfl zb2 dX9_type_21 ezf3 (fun H locs hP hD hS => ?_)
    have hP : va_P g.1 vwCl (w_X9 g h0 h1 h2 h3 (x.1, x.2.1, x.2.2.1, zf3, x.2.2.2.2.1, x.2.2.2.2.2.1, x.2.2.2.2.2.2.1, x.2.2.2.2.2.2.2.1, x.2.2.2.2.2.2.2.2.1, x.2.2.2.2.2.2.2.2.2.1, x.2.2.2.2.2.2.2.2.2.2)) H := hP
    have hD : va_D A (w_X9 g h0 h1 h2 h3 (x.1, x.2.1, x.2.2.1, zf3, x.2.2.2.2.1, x.2.2.2.2.2.1, x.2.2.2.2.2.2.1, x.2.2.2.2.2.2.2.1, x.2.2.2.2.2.2.2.2.1, x.2.2.2.2.2.2.2.2.2.1, x.2.2.2.2.2.2.2.2.2.2)) := hD
    refine lv_aload_n hx hb dX9_type_22 rfl (lv_at hl 0 rfl) ?_
    refine lv_dup hx hb dX9_type_23 rfl ?_
    refine va_get (D := g.1) (ci := 8) (v := .int x.2.2.2.2.1) (C := RX9) (T := TX9) (N := 11) hx hb htG in_wsX90 hown hK.1 hP 0 rfl rfl 4 (by decide) (htG _ g3_199) (fun _ h9 => h9) rfl dX9_type_24 ?_
    refine lv_iconst (v := 1) hx hb dX9_type_27 (by decide) ?_
    refine lv_iadd hx hb dX9_type_28 ?_
    obtain ⟨zv4, ezv4, hm⟩ := bnk hm
    refine tope ezv4 ?_
    refine va_put (D := g.1) (ci := 8) (v := .int zv4) (ty := .int) (C := RX9) (T := TX9) (N := 11) hx hb htG in_wsX90 tyX9 tyX9_ok nmX9 hown hK.1 hP hD hS 0 rfl rfl 4 (by decide) (htG _ g3_199) (fun _ h9 => h9) rfl (by decide +kernel) rfl rfl (Nat.le_of_ble_eq_true rfl) dX9_type_29 (fun H locs hP hD hS => ?_)
    have hP : va_P g.1 vwCl (w_X9 g h0 h1 h2 h3 (x.1, x.2.1, x.2.2.1, zf3, zv4, x.2.2.2.2.2.1, x.2.2.2.2.2.2.1, x.2.2.2.2.2.2.2.1, x.2.2.2.2.2.2.2.2.1, x.2.2.2.2.2.2.2.2.2.1, x.2.2.2.2.2.2.2.2.2.2)) H := hP
    have hD : va_D A (w_X9 g h0 h1 h2 h3 (x.1, x.2.1, x.2.2.1, zf3, zv4, x.2.2.2.2.2.1, x.2.2.2.2.2.2.1, x.2.2.2.2.2.2.2.1, x.2.2.2.2.2.2.2.2.1, x.2.2.2.2.2.2.2.2.2.1, x.2.2.2.2.2.2.2.2.2.2)) := hD
    refine lv_aload_n hx hb dX9_type_32 rfl (lv_at hl 0 rfl) ?_
    refine va_get (D := g.1) (ci := 8) (v := .int zv4) (C := RX9) (T := TX9) (N := 11) hx hb htG in_wsX90 hown hK.1 hP 0 rfl rfl 4 (by decide) (htG _ g3_199) (fun _ h9 => h9) rfl dX9_type_33 ?_
    exact W.iret (v := zv4) hx hb hr (fun t ht hW => ⟨⟨_, _, rfl, pr1 (Option.some.inj hm), atH ht hP⟩, hS.F ht⟩) hS.2.2 dX9_type_36
  · replace hm := (if_pos zc1).symm.trans hm
    refine lv_bipush (v := (-3)) hx hb dX9_type_9 (by decide +kernel) ?_
    exact W.iret (v := (-3)) hx hb hr (fun t ht hW => ⟨⟨_, _, rfl, pr1 (Option.some.inj hm), atH ht hP⟩, hS.F ht⟩) hS.2.2 dX9_type_11
def fX9_clearText (x : MD) : Int32 × MD := (x.2.2.2.2.1, (x.1, x.2.1, x.2.2.1, x.2.2.2.1, 0, x.2.2.2.2.2.1, x.2.2.2.2.2.2.1, x.2.2.2.2.2.2.2.1, x.2.2.2.2.2.2.2.2.1, x.2.2.2.2.2.2.2.2.2.1, x.2.2.2.2.2.2.2.2.2.2))
abbrev rm_X9_clearText : Jvm.Room := { frames := 0, cells := 0, slots := 0, locals := 0 }
theorem hd_X9_clearText : yX9_clearText.cls = RX9 ∧ yX9_clearText.cls ≠ "java/lang/invoke/MethodHandle" ∧ yX9_clearText.cls ≠ "java/lang/invoke/VarHandle" ∧ (parseMethodDescriptor yX9_clearText.desc).map (fun d => d.parameters.length) = some 0 := by decide +kernel
set_option maxHeartbeats 4000000 in
set_option maxRecDepth 100000 in
theorem kX9_clearText (l : Launch) (g : CX) (h0 h1 h2 h3 : Nat) (sz : Nat) (x : MD) (res : Int32 × MD) (hm0 : fX9_clearText x = res) : Met l yX9_clearText (wg yX9_clearText cX9_clearText 2 (some .int)) rm_X9_clearText (PW g [.ref h0] sz (w_X9 g h0 h1 h2 h3 x)) (va_Qi (fun v u => v = res.1 ∧ u = res.2) (fun u t => va_P g.1 vwCl (w_X9 g h0 h1 h2 h3 u) t.heap) (va_A (w_X9 g h0 h1 h2 h3 x) sz)) 0 0 (va_A (w_X9 g h0 h1 h2 h3 x) sz) := by
  refine Met.ofW (cc := cX9_clearText) (maxL := 2) (ret := (some .int)) (by decide) rfl ?_
  intro p e s m args below meth c s₁ B hml hv
  obtain ⟨rfl, hsz, hP, hK, hD0, hL⟩ := hv
  have hx := B.exec
  have hb := B.bytes
  have hr := B.returns
  have htG := wg_G (atoms_spec (ws := wg yX9_clearText cX9_clearText 2 (some .int)) B.pre)
  have hown : s.vm.findClass RX9 = some m.cls := findClass_of_methodNamed B.named
  have hlocks := B.notSynchronized
  subst hsz
  have hD := hD0.self (sz := s.heap.size)
  generalize hAe : va_A (w_X9 g h0 h1 h2 h3 x) s.heap.size = A at hD hL ⊢
  have hA : ∀ q : Nat, s.heap.size ≤ q → A q := fun q h => by rw [← hAe]; exact Or.inr h
  have hS : va_S A s.heap s.heap [] := va_S.rf
  have hl := lv_entry ([.ref h0]) (n := 2) (Nat.le_of_ble_eq_true rfl)
  rw [lg_entry_eq]
  generalize (lg_sl ([.ref h0]) ++ List.replicate (2 - (lg_sl ([.ref h0])).length) Slot.unset).toArray = ls at hl ⊢
  have hl : lv_has ls 2 [(0, .ref h0)] := hl
  have hm := hm0
  unfold fX9_clearText at hm
  refine lv_aload_n hx hb dX9_clearText_0 rfl (lv_at hl 0 rfl) ?_
  refine va_get (D := g.1) (ci := 8) (v := .int x.2.2.2.2.1) (C := RX9) (T := TX9) (N := 11) hx hb htG in_wsX90 hown hK.1 hP 0 rfl rfl 4 (by decide) (htG _ g3_199) (fun _ h9 => h9) rfl dX9_clearText_1 ?_
  refine lv_istore_n (lv' := [(1, .int x.2.2.2.2.1), (0, .ref h0)]) hx hb dX9_clearText_4 rfl hl (by decide) rfl (fun ls hl => ?_)
  refine lv_aload_n hx hb dX9_clearText_5 rfl (lv_at hl 1 rfl) ?_
  refine lv_iconst (v := 0) hx hb dX9_clearText_6 (by decide) ?_
  refine va_put (D := g.1) (ci := 8) (v := .int 0) (ty := .int) (C := RX9) (T := TX9) (N := 11) hx hb htG in_wsX90 tyX9 tyX9_ok nmX9 hown hK.1 hP hD hS 0 rfl rfl 4 (by decide) (htG _ g3_199) (fun _ h9 => h9) rfl (by decide +kernel) rfl rfl (Nat.le_of_ble_eq_true rfl) dX9_clearText_7 (fun H locs hP hD hS => ?_)
  have hP : va_P g.1 vwCl (w_X9 g h0 h1 h2 h3 (x.1, x.2.1, x.2.2.1, x.2.2.2.1, 0, x.2.2.2.2.2.1, x.2.2.2.2.2.2.1, x.2.2.2.2.2.2.2.1, x.2.2.2.2.2.2.2.2.1, x.2.2.2.2.2.2.2.2.2.1, x.2.2.2.2.2.2.2.2.2.2)) H := hP
  have hD : va_D A (w_X9 g h0 h1 h2 h3 (x.1, x.2.1, x.2.2.1, x.2.2.2.1, 0, x.2.2.2.2.2.1, x.2.2.2.2.2.2.1, x.2.2.2.2.2.2.2.1, x.2.2.2.2.2.2.2.2.1, x.2.2.2.2.2.2.2.2.2.1, x.2.2.2.2.2.2.2.2.2.2)) := hD
  refine lv_iload_n hx hb dX9_clearText_10 rfl (lv_at hl 0 rfl) ?_
  exact W.iret (v := x.2.2.2.2.1) hx hb hr (fun t ht hW => ⟨⟨_, _, rfl, pr1 hm, atH ht hP⟩, hS.F ht⟩) hS.2.2 dX9_clearText_11
def fX9_undo (x : MD) : Option (Int32 × MD) := (if x.2.1 = 0 then some ((-5), x) else ((fX9_copies x x.2.1 0).bind (fun zq2 => (bnd (zq2.2.1 - 1) (fun zv3 => some (zv3, (zq2.1, zv3, zq2.2.2.1, zq2.2.2.2.1, zq2.2.2.2.2.1, zq2.2.2.2.2.2.1, zq2.2.2.2.2.2.2.1, zq2.2.2.2.2.2.2.2.1, zq2.2.2.2.2.2.2.2.2.1, zq2.2.2.2.2.2.2.2.2.2.1, zq2.2.2.2.2.2.2.2.2.2.2)))))))
abbrev rm_X9_undo : Jvm.Room := { frames := 1, cells := 0, slots := 0, locals := 23 }
theorem hd_X9_undo : yX9_undo.cls = RX9 ∧ yX9_undo.cls ≠ "java/lang/invoke/MethodHandle" ∧ yX9_undo.cls ≠ "java/lang/invoke/VarHandle" ∧ (parseMethodDescriptor yX9_undo.desc).map (fun d => d.parameters.length) = some 0 := by decide +kernel
set_option maxHeartbeats 4000000 in
set_option maxRecDepth 100000 in
theorem kX9_undo (l : Launch) (g : CX) (h0 h1 h2 h3 : Nat) (sz : Nat) (x : MD) (res : Int32 × MD) (hm0 : fX9_undo x = some res) : Met l yX9_undo (wg yX9_undo cX9_undo 1 (some .int)) rm_X9_undo (PW g [.ref h0] sz (w_X9 g h0 h1 h2 h3 x)) (va_Qi (fun v u => v = res.1 ∧ u = res.2) (fun u t => va_P g.1 vwCl (w_X9 g h0 h1 h2 h3 u) t.heap) (va_A (w_X9 g h0 h1 h2 h3 x) sz)) 0 0 (va_A (w_X9 g h0 h1 h2 h3 x) sz) := by
  refine Met.ofW (cc := cX9_undo) (maxL := 1) (ret := (some .int)) (by decide) rfl ?_
  intro p e s m args below meth c s₁ B hml hv
  obtain ⟨rfl, hsz, hP, hK, hD0, hL⟩ := hv
  have hx := B.exec
  have hb := B.bytes
  have hr := B.returns
  have htG := wg_G (atoms_spec (ws := wg yX9_undo cX9_undo 1 (some .int)) B.pre)
  have hown : s.vm.findClass RX9 = some m.cls := findClass_of_methodNamed B.named
  have hlocks := B.notSynchronized
  subst hsz
  have hD := hD0.self (sz := s.heap.size)
  generalize hAe : va_A (w_X9 g h0 h1 h2 h3 x) s.heap.size = A at hD hL ⊢
  have hA : ∀ q : Nat, s.heap.size ≤ q → A q := fun q h => by rw [← hAe]; exact Or.inr h
  have hS : va_S A s.heap s.heap [] := va_S.rf
  have hl := lv_entry ([.ref h0]) (n := 1) (Nat.le_of_ble_eq_true rfl)
  rw [lg_entry_eq]
  generalize (lg_sl ([.ref h0]) ++ List.replicate (1 - (lg_sl ([.ref h0])).length) Slot.unset).toArray = ls at hl ⊢
  have hl : lv_has ls 1 [(0, .ref h0)] := hl
  have hm := hm0
  unfold fX9_undo at hm
  refine lv_aload_n hx hb dX9_undo_0 rfl (lv_at hl 0 rfl) ?_
  refine va_get (D := g.1) (ci := 8) (v := .int x.2.1) (C := RX9) (T := TX9) (N := 11) hx hb htG in_wsX90 hown hK.1 hP 0 rfl rfl 1 (by decide) (htG _ g3_196) (fun _ h9 => h9) rfl dX9_undo_1 ?_
  refine lv_if_ne (tgt := 10) hx hb dX9_undo_4 (by decide) (fun zc1 => ?_) (fun zc1 => ?_)
  · replace hm := (if_neg zc1).symm.trans hm
    refine lv_aload_n hx hb dX9_undo_10 rfl (lv_at hl 0 rfl) ?_
    refine lv_aload_n hx hb dX9_undo_11 rfl (lv_at hl 0 rfl) ?_
    refine va_get (D := g.1) (ci := 8) (v := .int x.2.1) (C := RX9) (T := TX9) (N := 11) hx hb htG in_wsX90 hown hK.1 hP 0 rfl rfl 1 (by decide) (htG _ g3_196) (fun _ h9 => h9) rfl dX9_undo_12 ?_
    refine lv_iconst (v := 0) hx hb dX9_undo_15 (by decide) ?_
    obtain ⟨zq2, hzq2, hm⟩ := bdk hm
    refine kw_veA (va_runV (As := [.int x.2.1, .int 0]) (rest := []) ⟨hx, hb, hml, hown, htG⟩ (kX9_copies l g h0 h1 h2 h3 _ x x.2.1 0 _ hzq2) (cwV 2 htG (GV g3_233 g3_235 gS_10 g1_10 g3_236) rfl rfl rfl hd_X9_copies ⟨Nat.le_of_ble_eq_true rfl, Nat.le_of_ble_eq_true rfl⟩) (PW_VA hK hL hS hP hD hA (ci := 8) rfl 0 rfl) rfl rfl hl.1 rfl (lv_room (Nat.le_of_ble_eq_true rfl)) dX9_undo_16 ⟨Nat.zero_le _, Nat.zero_le _⟩) hD hS hA (fun _ => rfl) (fun H locs hP hD hS => ?_)
    have hP : va_P g.1 vwCl (w_X9 g h0 h1 h2 h3 zq2) H := hP
    have hD : va_D A (w_X9 g h0 h1 h2 h3 zq2) := hD
    refine lv_aload_n hx hb dX9_undo_19 rfl (lv_at hl 0 rfl) ?_
    refine lv_dup hx hb dX9_undo_20 rfl ?_
    refine va_get (D := g.1) (ci := 8) (v := .int zq2.2.1) (C := RX9) (T := TX9) (N := 11) hx hb htG in_wsX90 hown hK.1 hP 0 rfl rfl 1 (by decide) (htG _ g3_196) (fun _ h9 => h9) rfl dX9_undo_21 ?_
    refine lv_iconst (v := 1) hx hb dX9_undo_24 (by decide) ?_
    refine lv_isub hx hb dX9_undo_25 ?_
    obtain ⟨zv3, ezv3, hm⟩ := bnk hm
    refine tope ezv3 ?_
    refine va_put (D := g.1) (ci := 8) (v := .int zv3) (ty := .int) (C := RX9) (T := TX9) (N := 11) hx hb htG in_wsX90 tyX9 tyX9_ok nmX9 hown hK.1 hP hD hS 0 rfl rfl 1 (by decide) (htG _ g3_196) (fun _ h9 => h9) rfl (by decide +kernel) rfl rfl (Nat.le_of_ble_eq_true rfl) dX9_undo_26 (fun H locs hP hD hS => ?_)
    have hP : va_P g.1 vwCl (w_X9 g h0 h1 h2 h3 (zq2.1, zv3, zq2.2.2.1, zq2.2.2.2.1, zq2.2.2.2.2.1, zq2.2.2.2.2.2.1, zq2.2.2.2.2.2.2.1, zq2.2.2.2.2.2.2.2.1, zq2.2.2.2.2.2.2.2.2.1, zq2.2.2.2.2.2.2.2.2.2.1, zq2.2.2.2.2.2.2.2.2.2.2)) H := hP
    have hD : va_D A (w_X9 g h0 h1 h2 h3 (zq2.1, zv3, zq2.2.2.1, zq2.2.2.2.1, zq2.2.2.2.2.1, zq2.2.2.2.2.2.1, zq2.2.2.2.2.2.2.1, zq2.2.2.2.2.2.2.2.1, zq2.2.2.2.2.2.2.2.2.1, zq2.2.2.2.2.2.2.2.2.2.1, zq2.2.2.2.2.2.2.2.2.2.2)) := hD
    refine lv_aload_n hx hb dX9_undo_29 rfl (lv_at hl 0 rfl) ?_
    refine va_get (D := g.1) (ci := 8) (v := .int zv3) (C := RX9) (T := TX9) (N := 11) hx hb htG in_wsX90 hown hK.1 hP 0 rfl rfl 1 (by decide) (htG _ g3_196) (fun _ h9 => h9) rfl dX9_undo_30 ?_
    exact W.iret (v := zv3) hx hb hr (fun t ht hW => ⟨⟨_, _, rfl, pr1 (Option.some.inj hm), atH ht hP⟩, hS.F ht⟩) hS.2.2 dX9_undo_33
  · replace hm := (if_pos zc1).symm.trans hm
    refine lv_bipush (v := (-5)) hx hb dX9_undo_7 (by decide +kernel) ?_
    exact W.iret (v := (-5)) hx hb hr (fun t ht hW => ⟨⟨_, _, rfl, pr1 (Option.some.inj hm), atH ht hP⟩, hS.F ht⟩) hS.2.2 dX9_undo_9
def fX9_keep (x : MD) : Option (Int32 × MD) := ((fX9_copies x 0 5).bind (fun zq1 => ((fX9_bids (zq1.1, zq1.2.1, 1, zq1.2.2.2.1, zq1.2.2.2.2.1, zq1.2.2.2.2.2.1, zq1.2.2.2.2.2.2.1, zq1.2.2.2.2.2.2.2.1, zq1.2.2.2.2.2.2.2.2.1, zq1.2.2.2.2.2.2.2.2.2.1, zq1.2.2.2.2.2.2.2.2.2.2) 0).bind (fun zq2 => some (zq2, (zq1.1, zq1.2.1, 1, zq1.2.2.2.1, zq1.2.2.2.2.1, zq1.2.2.2.2.2.1, zq1.2.2.2.2.2.2.1, zq1.2.2.2.2.2.2.2.1, zq1.2.2.2.2.2.2.2.2.1, zq1.2.2.2.2.2.2.2.2.2.1, zq1.2.2.2.2.2.2.2.2.2.2))))))
abbrev rm_X9_keep : Jvm.Room := { frames := 2, cells := 0, slots := 0, locals := 47 }
theorem hd_X9_keep : yX9_keep.cls = RX9 ∧ yX9_keep.cls ≠ "java/lang/invoke/MethodHandle" ∧ yX9_keep.cls ≠ "java/lang/invoke/VarHandle" ∧ (parseMethodDescriptor yX9_keep.desc).map (fun d => d.parameters.length) = some 0 := by decide +kernel
set_option maxHeartbeats 4000000 in
set_option maxRecDepth 100000 in
theorem kX9_keep (l : Launch) (g : CX) (h0 h1 h2 h3 : Nat) (sz : Nat) (x : MD) (res : Int32 × MD) (hm0 : fX9_keep x = some res) : Met l yX9_keep (wg yX9_keep cX9_keep 1 (some .int)) rm_X9_keep (PW g [.ref h0] sz (w_X9 g h0 h1 h2 h3 x)) (va_Qi (fun v u => v = res.1 ∧ u = res.2) (fun u t => va_P g.1 vwCl (w_X9 g h0 h1 h2 h3 u) t.heap) (va_A (w_X9 g h0 h1 h2 h3 x) sz)) 0 0 (va_A (w_X9 g h0 h1 h2 h3 x) sz) := by
  refine Met.ofW (cc := cX9_keep) (maxL := 1) (ret := (some .int)) (by decide) rfl ?_
  intro p e s m args below meth c s₁ B hml hv
  obtain ⟨rfl, hsz, hP, hK, hD0, hL⟩ := hv
  have hx := B.exec
  have hb := B.bytes
  have hr := B.returns
  have htG := wg_G (atoms_spec (ws := wg yX9_keep cX9_keep 1 (some .int)) B.pre)
  have hown : s.vm.findClass RX9 = some m.cls := findClass_of_methodNamed B.named
  have hlocks := B.notSynchronized
  subst hsz
  have hD := hD0.self (sz := s.heap.size)
  generalize hAe : va_A (w_X9 g h0 h1 h2 h3 x) s.heap.size = A at hD hL ⊢
  have hA : ∀ q : Nat, s.heap.size ≤ q → A q := fun q h => by rw [← hAe]; exact Or.inr h
  have hS : va_S A s.heap s.heap [] := va_S.rf
  have hl := lv_entry ([.ref h0]) (n := 1) (Nat.le_of_ble_eq_true rfl)
  rw [lg_entry_eq]
  generalize (lg_sl ([.ref h0]) ++ List.replicate (1 - (lg_sl ([.ref h0])).length) Slot.unset).toArray = ls at hl ⊢
  have hl : lv_has ls 1 [(0, .ref h0)] := hl
  have hm := hm0
  unfold fX9_keep at hm
  refine lv_aload_n hx hb dX9_keep_0 rfl (lv_at hl 0 rfl) ?_
  refine lv_iconst (v := 0) hx hb dX9_keep_1 (by decide) ?_
  refine lv_iconst (v := 5) hx hb dX9_keep_2 (by decide) ?_
  obtain ⟨zq1, hzq1, hm⟩ := bdk hm
  refine kw_veA (va_runV (As := [.int 0, .int 5]) (rest := []) ⟨hx, hb, hml, hown, htG⟩ (kX9_copies l g h0 h1 h2 h3 _ x 0 5 _ hzq1) (cwV 2 htG (GV g3_233 g3_235 gS_10 g1_10 g3_236) rfl rfl rfl hd_X9_copies ⟨Nat.le_of_ble_eq_true rfl, Nat.le_of_ble_eq_true rfl⟩) (PW_VA hK hL hS hP hD hA (ci := 8) rfl 0 rfl) rfl rfl hl.1 rfl (lv_room (Nat.le_of_ble_eq_true rfl)) dX9_keep_3 ⟨Nat.zero_le _, Nat.zero_le _⟩) hD hS hA (fun _ => rfl) (fun H locs hP hD hS => ?_)
  have hP : va_P g.1 vwCl (w_X9 g h0 h1 h2 h3 zq1) H := hP
  have hD : va_D A (w_X9 g h0 h1 h2 h3 zq1) := hD
  refine lv_aload_n hx hb dX9_keep_6 rfl (lv_at hl 0 rfl) ?_
  refine lv_iconst (v := 1) hx hb dX9_keep_7 (by decide) ?_
  refine va_put (D := g.1) (ci := 8) (v := .int 1) (ty := .boolean) (C := RX9) (T := TX9) (N := 11) hx hb htG in_wsX90 tyX9 tyX9_ok nmX9 hown hK.1 hP hD hS 0 rfl rfl 2 (by decide) (htG _ g3_197) (fun _ h9 => h9) rfl (by decide +kernel) rfl rfl (Nat.le_of_ble_eq_true rfl) dX9_keep_8 (fun H locs hP hD hS => ?_)
  have hP : va_P g.1 vwCl (w_X9 g h0 h1 h2 h3 (zq1.1, zq1.2.1, 1, zq1.2.2.2.1, zq1.2.2.2.2.1, zq1.2.2.2.2.2.1, zq1.2.2.2.2.2.2.1, zq1.2.2.2.2.2.2.2.1, zq1.2.2.2.2.2.2.2.2.1, zq1.2.2.2.2.2.2.2.2.2.1, zq1.2.2.2.2.2.2.2.2.2.2)) H := hP
  have hD : va_D A (w_X9 g h0 h1 h2 h3 (zq1.1, zq1.2.1, 1, zq1.2.2.2.1, zq1.2.2.2.2.1, zq1.2.2.2.2.2.1, zq1.2.2.2.2.2.2.1, zq1.2.2.2.2.2.2.2.1, zq1.2.2.2.2.2.2.2.2.1, zq1.2.2.2.2.2.2.2.2.2.1, zq1.2.2.2.2.2.2.2.2.2.2)) := hD
  refine lv_aload_n hx hb dX9_keep_11 rfl (lv_at hl 0 rfl) ?_
  refine lv_iconst (v := 0) hx hb dX9_keep_12 (by decide) ?_
  obtain ⟨zq2, hzq2, hm⟩ := bdk hm
  refine ko_e (va_runV (As := [.int 0]) (rest := []) ⟨hx, hb, hml, hown, htG⟩ (kX9_bids l g h0 h1 h2 h3 (zq1.1, zq1.2.1, 1, zq1.2.2.2.1, zq1.2.2.2.2.1, zq1.2.2.2.2.2.1, zq1.2.2.2.2.2.2.1, zq1.2.2.2.2.2.2.2.1, zq1.2.2.2.2.2.2.2.2.1, zq1.2.2.2.2.2.2.2.2.2.1, zq1.2.2.2.2.2.2.2.2.2.2) 0 _ hzq2) (cwV 1 htG (GV g4_42 g4_44 gS_18 g1_10 g4_45) rfl rfl rfl hd_X9_bids ⟨Nat.le_of_ble_eq_true rfl, Nat.le_of_ble_eq_true rfl⟩) (PR_VA hK hL hS hP (ci := 8) rfl 0 rfl) rfl rfl hl.1 rfl (lv_room (Nat.le_of_ble_eq_true rfl)) dX9_keep_13 ⟨Nat.zero_le _, Nat.zero_le _⟩) ?_
  exact W.iret (v := zq2) hx hb hr (fun t ht hW => ⟨⟨_, _, rfl, pr1 (Option.some.inj hm), atH ht hP⟩, hS.F ht⟩) hS.2.2 dX9_keep_16
def fX9_restore (x : MD) : Option (Int32 × MD) := (if x.2.2.1 = 0 then some ((-5), x) else ((fX9_records x).bind (fun zq2 => ((fX9_copies zq2 5 0).bind (fun zq3 => ((fX9_bids zq3 0).bind (fun zq4 => some (zq4, zq3))))))))
abbrev rm_X9_restore : Jvm.Room := { frames := 2, cells := 0, slots := 0, locals := 47 }
theorem hd_X9_restore : yX9_restore.cls = RX9 ∧ yX9_restore.cls ≠ "java/lang/invoke/MethodHandle" ∧ yX9_restore.cls ≠ "java/lang/invoke/VarHandle" ∧ (parseMethodDescriptor yX9_restore.desc).map (fun d => d.parameters.length) = some 0 := by decide +kernel
set_option maxHeartbeats 4000000 in
set_option maxRecDepth 100000 in
theorem kX9_restore (l : Launch) (g : CX) (h0 h1 h2 h3 : Nat) (sz : Nat) (x : MD) (res : Int32 × MD) (hm0 : fX9_restore x = some res) : Met l yX9_restore (wg yX9_restore cX9_restore 1 (some .int)) rm_X9_restore (PW g [.ref h0] sz (w_X9 g h0 h1 h2 h3 x)) (va_Qi (fun v u => v = res.1 ∧ u = res.2) (fun u t => va_P g.1 vwCl (w_X9 g h0 h1 h2 h3 u) t.heap) (va_A (w_X9 g h0 h1 h2 h3 x) sz)) 0 0 (va_A (w_X9 g h0 h1 h2 h3 x) sz) := by
  refine Met.ofW (cc := cX9_restore) (maxL := 1) (ret := (some .int)) (by decide) rfl ?_
  intro p e s m args below meth c s₁ B hml hv
  obtain ⟨rfl, hsz, hP, hK, hD0, hL⟩ := hv
  have hx := B.exec
  have hb := B.bytes
  have hr := B.returns
  have htG := wg_G (atoms_spec (ws := wg yX9_restore cX9_restore 1 (some .int)) B.pre)
  have hown : s.vm.findClass RX9 = some m.cls := findClass_of_methodNamed B.named
  have hlocks := B.notSynchronized
  subst hsz
  have hD := hD0.self (sz := s.heap.size)
  generalize hAe : va_A (w_X9 g h0 h1 h2 h3 x) s.heap.size = A at hD hL ⊢
  have hA : ∀ q : Nat, s.heap.size ≤ q → A q := fun q h => by rw [← hAe]; exact Or.inr h
  have hS : va_S A s.heap s.heap [] := va_S.rf
  have hl := lv_entry ([.ref h0]) (n := 1) (Nat.le_of_ble_eq_true rfl)
  rw [lg_entry_eq]
  generalize (lg_sl ([.ref h0]) ++ List.replicate (1 - (lg_sl ([.ref h0])).length) Slot.unset).toArray = ls at hl ⊢
  have hl : lv_has ls 1 [(0, .ref h0)] := hl
  have hm := hm0
  unfold fX9_restore at hm
  refine lv_aload_n hx hb dX9_restore_0 rfl (lv_at hl 0 rfl) ?_
  refine va_get (D := g.1) (ci := 8) (v := .int x.2.2.1) (C := RX9) (T := TX9) (N := 11) hx hb htG in_wsX90 hown hK.1 hP 0 rfl rfl 2 (by decide) (htG _ g3_197) (fun _ h9 => h9) rfl dX9_restore_1 ?_
  refine lv_if_ne (tgt := 10) hx hb dX9_restore_4 (by decide) (fun zc1 => ?_) (fun zc1 => ?_)
  · replace hm := (if_neg zc1).symm.trans hm
    refine lv_aload_n hx hb dX9_restore_10 rfl (lv_at hl 0 rfl) ?_
    obtain ⟨zq2, hzq2, hm⟩ := bdk hm
    refine kw_veA (va_runV (As := []) (rest := []) ⟨hx, hb, hml, hown, htG⟩ (kX9_records l g h0 h1 h2 h3 _ x _ hzq2) (cwV 0 htG (GV g4_12 g4_14 gS_14 g1_10 g4_15) rfl rfl rfl hd_X9_records ⟨Nat.le_of_ble_eq_true rfl, Nat.le_of_ble_eq_true rfl⟩) (PW_VA hK hL hS hP hD hA (ci := 8) rfl 0 rfl) rfl rfl hl.1 rfl (lv_room (Nat.le_of_ble_eq_true rfl)) dX9_restore_11 ⟨Nat.zero_le _, Nat.zero_le _⟩) hD hS hA (fun _ => rfl) (fun H locs hP hD hS => ?_)
    have hP : va_P g.1 vwCl (w_X9 g h0 h1 h2 h3 zq2) H := hP
    have hD : va_D A (w_X9 g h0 h1 h2 h3 zq2) := hD
    refine lv_aload_n hx hb dX9_restore_14 rfl (lv_at hl 0 rfl) ?_
    refine lv_iconst (v := 5) hx hb dX9_restore_15 (by decide) ?_
    refine lv_iconst (v := 0) hx hb dX9_restore_16 (by decide) ?_
    obtain ⟨zq3, hzq3, hm⟩ := bdk hm
    refine kw_veA (va_runV (As := [.int 5, .int 0]) (rest := []) ⟨hx, hb, hml, hown, htG⟩ (kX9_copies l g h0 h1 h2 h3 _ zq2 5 0 _ hzq3) (cwV 2 htG (GV g3_233 g3_235 gS_10 g1_10 g3_236) rfl rfl rfl hd_X9_copies ⟨Nat.le_of_ble_eq_true rfl, Nat.le_of_ble_eq_true rfl⟩) (PW_VA hK hL hS hP hD hA (ci := 8) rfl 0 rfl) rfl rfl hl.1 rfl (lv_room (Nat.le_of_ble_eq_true rfl)) dX9_restore_17 ⟨Nat.zero_le _, Nat.zero_le _⟩) hD hS hA (fun _ => rfl) (fun H locs hP hD hS => ?_)
    have hP : va_P g.1 vwCl (w_X9 g h0 h1 h2 h3 zq3) H := hP
    have hD : va_D A (w_X9 g h0 h1 h2 h3 zq3) := hD
    refine lv_aload_n hx hb dX9_restore_20 rfl (lv_at hl 0 rfl) ?_
    refine lv_iconst (v := 0) hx hb dX9_restore_21 (by decide) ?_
    obtain ⟨zq4, hzq4, hm⟩ := bdk hm
    refine ko_e (va_runV (As := [.int 0]) (rest := []) ⟨hx, hb, hml, hown, htG⟩ (kX9_bids l g h0 h1 h2 h3 zq3 0 _ hzq4) (cwV 1 htG (GV g4_42 g4_44 gS_18 g1_10 g4_45) rfl rfl rfl hd_X9_bids ⟨Nat.le_of_ble_eq_true rfl, Nat.le_of_ble_eq_true rfl⟩) (PR_VA hK hL hS hP (ci := 8) rfl 0 rfl) rfl rfl hl.1 rfl (lv_room (Nat.le_of_ble_eq_true rfl)) dX9_restore_22 ⟨Nat.zero_le _, Nat.zero_le _⟩) ?_
    exact W.iret (v := zq4) hx hb hr (fun t ht hW => ⟨⟨_, _, rfl, pr1 (Option.some.inj hm), atH ht hP⟩, hS.F ht⟩) hS.2.2 dX9_restore_25
  · replace hm := (if_pos zc1).symm.trans hm
    refine lv_bipush (v := (-5)) hx hb dX9_restore_7 (by decide +kernel) ?_
    exact W.iret (v := (-5)) hx hb hr (fun t ht hW => ⟨⟨_, _, rfl, pr1 (Option.some.inj hm), atH ht hP⟩, hS.F ht⟩) hS.2.2 dX9_restore_9
def fX9_stopped (x : MD) (p1 : Int32) : Int32 := (if (fX9_in p1 0 1) = 0 then (-2) else (if 0 ≤ x.2.2.2.2.2.2.2.2.2.1 then (if p1 = 0 then x.2.2.2.2.2.2.2.2.2.1 else x.2.2.2.2.2.2.2.2.2.2) else (-5)))
abbrev rm_X9_stopped : Jvm.Room := { frames := 1, cells := 0, slots := 0, locals := 22 }
theorem hd_X9_stopped : yX9_stopped.cls = RX9 ∧ yX9_stopped.cls ≠ "java/lang/invoke/MethodHandle" ∧ yX9_stopped.cls ≠ "java/lang/invoke/VarHandle" ∧ (parseMethodDescriptor yX9_stopped.desc).map (fun d => d.parameters.length) = some 1 := by decide +kernel
set_option maxHeartbeats 4000000 in
set_option maxRecDepth 100000 in
theorem kX9_stopped (l : Launch) (g : CX) (h0 h1 h2 h3 : Nat) (x : MD) (p1 : Int32) (res : Int32) (hm0 : fX9_stopped x p1 = res) : Met l yX9_stopped (wg yX9_stopped cX9_stopped 2 (some .int)) rm_X9_stopped (PR g [.ref h0, .int p1] (w_X9 g h0 h1 h2 h3 x)) (vp_Si (fun v => v = res)) 0 0 (fun _ => False) := by
  refine Met.ofW (cc := cX9_stopped) (maxL := 2) (ret := (some .int)) (by decide) rfl ?_
  intro p e s m args below meth c s₁ B hml hv
  obtain ⟨rfl, hP, hK, hL⟩ := hv
  have hx := B.exec
  have hb := B.bytes
  have hr := B.returns
  have htG := wg_G (atoms_spec (ws := wg yX9_stopped cX9_stopped 2 (some .int)) B.pre)
  have hown : s.vm.findClass RX9 = some m.cls := findClass_of_methodNamed B.named
  have hlocks := B.notSynchronized
  have hS : va_S (fun _ => False) s.heap s.heap [] := va_S.rf
  have hl := lv_entry ([.ref h0, .int p1]) (n := 2) (Nat.le_of_ble_eq_true rfl)
  rw [lg_entry_eq]
  generalize (lg_sl ([.ref h0, .int p1]) ++ List.replicate (2 - (lg_sl ([.ref h0, .int p1])).length) Slot.unset).toArray = ls at hl ⊢
  have hl : lv_has ls 2 [(0, .ref h0), (1, .int p1)] := hl
  have hm := hm0
  unfold fX9_stopped at hm
  refine lv_iload_n hx hb dX9_stopped_0 rfl (lv_at hl 1 rfl) ?_
  refine lv_iconst (v := 0) hx hb dX9_stopped_1 (by decide) ?_
  refine lv_iconst (v := 1) hx hb dX9_stopped_2 (by decide) ?_
  refine ko_e (va_runS (As := [.int p1, .int 0, .int 1]) (rest := []) ⟨hx, hb, hml, hown, htG⟩ (kX9_in l g p1 0 1 _ rfl) (va_cwS 3 htG (GS g4_1 g4_2 g1_10 g4_3) rfl rfl rfl hs_X9_in ⟨Nat.le_of_ble_eq_true rfl, Nat.le_of_ble_eq_true rfl⟩) (PR_S hK hL hS hP [] rfl) rfl rfl hl.1 rfl (lv_room (Nat.le_of_ble_eq_true rfl)) dX9_stopped_3 ⟨Nat.zero_le _, Nat.zero_le _⟩) ?_
  refine lv_if_ne (tgt := 12) hx hb dX9_stopped_6 (by decide) (fun zc1 => ?_) (fun zc1 => ?_)
  · replace hm := (if_neg zc1).symm.trans hm
    refine lv_aload_n hx hb dX9_stopped_12 rfl (lv_at hl 0 rfl) ?_
    refine va_get (D := g.1) (ci := 8) (v := .int x.2.2.2.2.2.2.2.2.2.1) (C := RX9) (T := TX9) (N := 11) hx hb htG in_wsX90 hown hK.1 hP 0 rfl rfl 9 (by decide) (htG _ g3_204) (fun _ h9 => h9) rfl dX9_stopped_13 ?_
    refine lv_if_ge (tgt := 24) hx hb dX9_stopped_16 (by decide) (fun zc2 => ?_) (fun zc2 => ?_)
    · replace hm := (if_pos zc2).symm.trans hm
      refine lv_iload_n hx hb dX9_stopped_24 rfl (lv_at hl 1 rfl) ?_
      refine lv_if_ne (tgt := 35) hx hb dX9_stopped_25 (by decide) (fun zc3 => ?_) (fun zc3 => ?_)
      · replace hm := (if_neg zc3).symm.trans hm
        refine lv_aload_n hx hb dX9_stopped_35 rfl (lv_at hl 0 rfl) ?_
        refine va_get (D := g.1) (ci := 8) (v := .int x.2.2.2.2.2.2.2.2.2.2) (C := RX9) (T := TX9) (N := 11) hx hb htG in_wsX90 hown hK.1 hP 0 rfl rfl 10 (by decide) (htG _ g3_205) (fun _ h9 => h9) rfl dX9_stopped_36 ?_
        exact W.iret (v := x.2.2.2.2.2.2.2.2.2.2) hx hb hr (fun t ht hW => ⟨_, rfl, hm, ht⟩) (fun _ h => nomatch h) dX9_stopped_39
      · replace hm := (if_pos zc3).symm.trans hm
        refine lv_aload_n hx hb dX9_stopped_28 rfl (lv_at hl 0 rfl) ?_
        refine va_get (D := g.1) (ci := 8) (v := .int x.2.2.2.2.2.2.2.2.2.1) (C := RX9) (T := TX9) (N := 11) hx hb htG in_wsX90 hown hK.1 hP 0 rfl rfl 9 (by decide) (htG _ g3_204) (fun _ h9 => h9) rfl dX9_stopped_29 ?_
        refine lv_goto (tgt := 39) hx hb dX9_stopped_32 (by decide) ?_
        exact W.iret (v := x.2.2.2.2.2.2.2.2.2.1) hx hb hr (fun t ht hW => ⟨_, rfl, hm, ht⟩) (fun _ h => nomatch h) dX9_stopped_39
    · replace hm := (if_neg zc2).symm.trans hm
      refine lv_bipush (v := (-5)) hx hb dX9_stopped_19 (by decide +kernel) ?_
      refine lv_goto (tgt := 39) hx hb dX9_stopped_21 (by decide) ?_
      exact W.iret (v := (-5)) hx hb hr (fun t ht hW => ⟨_, rfl, hm, ht⟩) (fun _ h => nomatch h) dX9_stopped_39
  · replace hm := (if_pos zc1).symm.trans hm
    refine lv_bipush (v := (-2)) hx hb dX9_stopped_9 (by decide +kernel) ?_
    exact W.iret (v := (-2)) hx hb hr (fun t ht hW => ⟨_, rfl, hm, ht⟩) (fun _ h => nomatch h) dX9_stopped_11
