def fX9_isNext (x : MD) (p1 : Int32) (p2 : Int32) : Option (Int32) := (if x.2.2.2.2.2.2.1 = 0 then some 0 else (if x.2.2.2.2.1 ≤ x.2.2.2.2.2.1 then some 0 else (if ib x.2.2.2.2.2.1 80 = true then (if (fX9_in (x.2.2.2.1 x.2.2.2.2.2.1.toNatClampNeg) p1 p2) = 0 then some 0 else some 1) else none)))
abbrev rm_X9_isNext : Jvm.Room := { frames := 1, cells := 0, slots := 0, locals := 22 }
theorem hd_X9_isNext : yX9_isNext.cls = RX9 ∧ yX9_isNext.cls ≠ "java/lang/invoke/MethodHandle" ∧ yX9_isNext.cls ≠ "java/lang/invoke/VarHandle" ∧ (parseMethodDescriptor yX9_isNext.desc).map (fun d => d.parameters.length) = some 2 := by decide +kernel
set_option maxHeartbeats 4000000 in
set_option maxRecDepth 100000 in
theorem kX9_isNext (l : Launch) (g : CX) (h0 h1 h2 h3 : Nat) (x : MD) (p1 : Int32) (p2 : Int32) (res : Int32) (hm0 : fX9_isNext x p1 p2 = some res) : Met l yX9_isNext (wg yX9_isNext cX9_isNext 3 (some .boolean)) rm_X9_isNext (PR g [.ref h0, .int p1, .int p2] (w_X9 g h0 h1 h2 h3 x)) (vp_Si (fun v => v = res)) 0 0 (fun _ => False) := by
  refine Met.ofW (cc := cX9_isNext) (maxL := 3) (ret := (some .boolean)) (by decide) rfl ?_
  intro p e s m args below meth c s₁ B hml hv
  obtain ⟨rfl, hP, hK, hL⟩ := hv
  have hx := B.exec
  have hb := B.bytes
  have hr := B.returns
  have htG := wg_G (atoms_spec (ws := wg yX9_isNext cX9_isNext 3 (some .boolean)) B.pre)
  have hown : s.vm.findClass RX9 = some m.cls := findClass_of_methodNamed B.named
  have hlocks := B.notSynchronized
  have hS : va_S (fun _ => False) s.heap s.heap [] := va_S.rf
  have hl := lv_entry ([.ref h0, .int p1, .int p2]) (n := 3) (Nat.le_of_ble_eq_true rfl)
  rw [lg_entry_eq]
  generalize (lg_sl ([.ref h0, .int p1, .int p2]) ++ List.replicate (3 - (lg_sl ([.ref h0, .int p1, .int p2])).length) Slot.unset).toArray = ls at hl ⊢
  have hl : lv_has ls 3 [(0, .ref h0), (1, .int p1), (2, .int p2)] := hl
  have hm := hm0
  unfold fX9_isNext at hm
  refine lv_aload_n hx hb dX9_isNext_0 rfl (lv_at hl 0 rfl) ?_
  refine va_get (D := g.1) (ci := 8) (v := .int x.2.2.2.2.2.2.1) (C := RX9) (T := TX9) (N := 11) hx hb htG in_wsX90 hown hK.1 hP 0 rfl rfl 6 (by decide) (htG _ g3_201) (fun _ h9 => h9) rfl dX9_isNext_1 ?_
  refine lv_if_eq (tgt := 39) hx hb dX9_isNext_4 (by decide) (fun zc1 => ?_) (fun zc1 => ?_)
  · replace hm := (if_pos zc1).symm.trans hm
    refine lv_iconst (v := 0) hx hb dX9_isNext_39 (by decide) ?_
    exact W.zret (v := 0) (ty := .boolean) hx hb hr rfl (fun t ht hW => ⟨_, rfl, (Option.some.inj hm), ht⟩) (fun _ h => nomatch h) dX9_isNext_40
  · replace hm := (if_neg zc1).symm.trans hm
    refine lv_aload_n hx hb dX9_isNext_7 rfl (lv_at hl 0 rfl) ?_
    refine va_get (D := g.1) (ci := 8) (v := .int x.2.2.2.2.2.1) (C := RX9) (T := TX9) (N := 11) hx hb htG in_wsX90 hown hK.1 hP 0 rfl rfl 5 (by decide) (htG _ g3_200) (fun _ h9 => h9) rfl dX9_isNext_8 ?_
    refine lv_aload_n hx hb dX9_isNext_11 rfl (lv_at hl 0 rfl) ?_
    refine va_get (D := g.1) (ci := 8) (v := .int x.2.2.2.2.1) (C := RX9) (T := TX9) (N := 11) hx hb htG in_wsX90 hown hK.1 hP 0 rfl rfl 4 (by decide) (htG _ g3_199) (fun _ h9 => h9) rfl dX9_isNext_12 ?_
    refine lv_icmp_ge (tgt := 39) hx hb dX9_isNext_15 (by decide) (fun zc2 => ?_) (fun zc2 => ?_)
    · replace hm := (if_pos zc2).symm.trans hm
      refine lv_iconst (v := 0) hx hb dX9_isNext_39 (by decide) ?_
      exact W.zret (v := 0) (ty := .boolean) hx hb hr rfl (fun t ht hW => ⟨_, rfl, (Option.some.inj hm), ht⟩) (fun _ h => nomatch h) dX9_isNext_40
    · replace hm := (if_neg zc2).symm.trans hm
      refine lv_aload_n hx hb dX9_isNext_18 rfl (lv_at hl 0 rfl) ?_
      refine va_get (D := g.1) (ci := 8) (v := .ref h2) (C := RX9) (T := TX9) (N := 11) hx hb htG in_wsX90 hown hK.1 hP 0 rfl rfl 3 (by decide) (htG _ g3_198) (fun _ h9 => h9) rfl dX9_isNext_19 ?_
      refine lv_aload_n hx hb dX9_isNext_22 rfl (lv_at hl 0 rfl) ?_
      refine va_get (D := g.1) (ci := 8) (v := .int x.2.2.2.2.2.1) (C := RX9) (T := TX9) (N := 11) hx hb htG in_wsX90 hown hK.1 hP 0 rfl rfl 5 (by decide) (htG _ g3_200) (fun _ h9 => h9) rfl dX9_isNext_23 ?_
      obtain ⟨zb3, hm⟩ := ibk hm
      refine va_cald hx hb hK.1 hP 2 1 rfl rfl zb3 dX9_isNext_26 ?_
      refine lv_iload_n hx hb dX9_isNext_27 rfl (lv_at hl 1 rfl) ?_
      refine lv_iload_n hx hb dX9_isNext_28 rfl (lv_at hl 2 rfl) ?_
      refine ko_e (va_runS (As := [.int (x.2.2.2.1 x.2.2.2.2.2.1.toNatClampNeg), .int p1, .int p2]) (rest := []) ⟨hx, hb, hml, hown, htG⟩ (kX9_in l g (x.2.2.2.1 x.2.2.2.2.2.1.toNatClampNeg) p1 p2 _ rfl) (va_cwS 3 htG (GS g4_1 g4_2 g1_10 g4_3) rfl rfl rfl hs_X9_in ⟨Nat.le_of_ble_eq_true rfl, Nat.le_of_ble_eq_true rfl⟩) (PR_S hK hL hS hP [] rfl) rfl rfl hl.1 rfl (lv_room (Nat.le_of_ble_eq_true rfl)) dX9_isNext_29 ⟨Nat.zero_le _, Nat.zero_le _⟩) ?_
      refine lv_if_eq (tgt := 39) hx hb dX9_isNext_32 (by decide) (fun zc4 => ?_) (fun zc4 => ?_)
      · replace hm := (if_pos zc4).symm.trans hm
        refine lv_iconst (v := 0) hx hb dX9_isNext_39 (by decide) ?_
        exact W.zret (v := 0) (ty := .boolean) hx hb hr rfl (fun t ht hW => ⟨_, rfl, (Option.some.inj hm), ht⟩) (fun _ h => nomatch h) dX9_isNext_40
      · replace hm := (if_neg zc4).symm.trans hm
        refine lv_iconst (v := 1) hx hb dX9_isNext_35 (by decide) ?_
        refine lv_goto (tgt := 40) hx hb dX9_isNext_36 (by decide) ?_
        exact W.zret (v := 1) (ty := .boolean) hx hb hr rfl (fun t ht hW => ⟨_, rfl, (Option.some.inj hm), ht⟩) (fun _ h => nomatch h) dX9_isNext_40
theorem b01_X9_isNext {x : MD} {p1 p2 r : Int32} (h : fX9_isNext x p1 p2 = some r) : r = 0 ∨ r = 1 := by
  unfold fX9_isNext at h
  (repeat' split at h) <;> first | exact Or.inl (Option.some.inj h).symm | exact Or.inr (Option.some.inj h).symm | cases h
def fX9_takes (x : MD) (p1 : Int32) : Option (MD) := ((fX9_isNext x p1 p1).bind (fun zq1 => (if zq1 = 0 then (bnd (x.2.2.2.2.2.1 + 0) (fun zv3 => some (x.1, x.2.1, x.2.2.1, x.2.2.2.1, x.2.2.2.2.1, zv3, zq1, x.2.2.2.2.2.2.2.1, x.2.2.2.2.2.2.2.2.1, x.2.2.2.2.2.2.2.2.2.1, x.2.2.2.2.2.2.2.2.2.2))) else (bnd (x.2.2.2.2.2.1 + 1) (fun zv4 => some (x.1, x.2.1, x.2.2.1, x.2.2.2.1, x.2.2.2.2.1, zv4, zq1, x.2.2.2.2.2.2.2.1, x.2.2.2.2.2.2.2.2.1, x.2.2.2.2.2.2.2.2.2.1, x.2.2.2.2.2.2.2.2.2.2))))))
abbrev rm_X9_takes : Jvm.Room := { frames := 2, cells := 0, slots := 0, locals := 44 }
theorem hd_X9_takes : yX9_takes.cls = RX9 ∧ yX9_takes.cls ≠ "java/lang/invoke/MethodHandle" ∧ yX9_takes.cls ≠ "java/lang/invoke/VarHandle" ∧ (parseMethodDescriptor yX9_takes.desc).map (fun d => d.parameters.length) = some 1 := by decide +kernel
set_option maxHeartbeats 4000000 in
set_option maxRecDepth 100000 in
theorem kX9_takes (l : Launch) (g : CX) (h0 h1 h2 h3 : Nat) (sz : Nat) (x : MD) (p1 : Int32) (res : MD) (hm0 : fX9_takes x p1 = some res) : Met l yX9_takes (wg yX9_takes cX9_takes 2 none) rm_X9_takes (PW g [.ref h0, .int p1] sz (w_X9 g h0 h1 h2 h3 x)) (va_Qv (fun u => u = res) (fun u t => va_P g.1 vwCl (w_X9 g h0 h1 h2 h3 u) t.heap) (va_A (w_X9 g h0 h1 h2 h3 x) sz)) 0 0 (va_A (w_X9 g h0 h1 h2 h3 x) sz) := by
  refine Met.ofW (cc := cX9_takes) (maxL := 2) (ret := none) (by decide) rfl ?_
  intro p e s m args below meth c s₁ B hml hv
  obtain ⟨rfl, hsz, hP, hK, hD0, hL⟩ := hv
  have hx := B.exec
  have hb := B.bytes
  have hr := B.returns
  have htG := wg_G (atoms_spec (ws := wg yX9_takes cX9_takes 2 none) B.pre)
  have hown : s.vm.findClass RX9 = some m.cls := findClass_of_methodNamed B.named
  have hlocks := B.notSynchronized
  subst hsz
  have hD := hD0.self (sz := s.heap.size)
  generalize hAe : va_A (w_X9 g h0 h1 h2 h3 x) s.heap.size = A at hD hL ⊢
  have hA : ∀ q : Nat, s.heap.size ≤ q → A q := fun q h => by rw [← hAe]; exact Or.inr h
  have hS : va_S A s.heap s.heap [] := va_S.rf
  have hl := lv_entry ([.ref h0, .int p1]) (n := 2) (Nat.le_of_ble_eq_true rfl)
  rw [lg_entry_eq]
  generalize (lg_sl ([.ref h0, .int p1]) ++ List.replicate (2 - (lg_sl ([.ref h0, .int p1])).length) Slot.unset).toArray = ls at hl ⊢
  have hl : lv_has ls 2 [(0, .ref h0), (1, .int p1)] := hl
  have hm := hm0
  unfold fX9_takes at hm
  refine lv_aload_n hx hb dX9_takes_0 rfl (lv_at hl 0 rfl) ?_
  refine lv_aload_n hx hb dX9_takes_1 rfl (lv_at hl 0 rfl) ?_
  refine lv_iload_n hx hb dX9_takes_2 rfl (lv_at hl 1 rfl) ?_
  refine lv_iload_n hx hb dX9_takes_3 rfl (lv_at hl 1 rfl) ?_
  obtain ⟨zq1, hzq1, hm⟩ := bdk hm
  refine ko_e (va_runV (As := [.int p1, .int p1]) (rest := [.ref h0]) ⟨hx, hb, hml, hown, htG⟩ (kX9_isNext l g h0 h1 h2 h3 x p1 p1 _ hzq1) (cwV 2 htG (GV g4_116 g4_118 gS_29 g1_10 g4_119) rfl rfl rfl hd_X9_isNext ⟨Nat.le_of_ble_eq_true rfl, Nat.le_of_ble_eq_true rfl⟩) (PR_VA hK hL hS hP (ci := 8) rfl 0 rfl) rfl rfl hl.1 rfl (lv_room (Nat.le_of_ble_eq_true rfl)) dX9_takes_4 ⟨Nat.zero_le _, Nat.zero_le _⟩) ?_
  refine va_put (D := g.1) (ci := 8) (v := .int zq1) (ty := .boolean) (C := RX9) (T := TX9) (N := 11) hx hb htG in_wsX90 tyX9 tyX9_ok nmX9 hown hK.1 hP hD hS 0 rfl rfl 6 (by decide) (htG _ g3_201) (fun _ h9 => h9) rfl (by decide +kernel) (nar_b (b01_X9_isNext hzq1)) (fit_b (b01_X9_isNext hzq1)) (Nat.le_of_ble_eq_true rfl) dX9_takes_7 (fun H locs hP hD hS => ?_)
  have hP : va_P g.1 vwCl (w_X9 g h0 h1 h2 h3 (x.1, x.2.1, x.2.2.1, x.2.2.2.1, x.2.2.2.2.1, x.2.2.2.2.2.1, zq1, x.2.2.2.2.2.2.2.1, x.2.2.2.2.2.2.2.2.1, x.2.2.2.2.2.2.2.2.2.1, x.2.2.2.2.2.2.2.2.2.2)) H := hP
  have hD : va_D A (w_X9 g h0 h1 h2 h3 (x.1, x.2.1, x.2.2.1, x.2.2.2.1, x.2.2.2.2.1, x.2.2.2.2.2.1, zq1, x.2.2.2.2.2.2.2.1, x.2.2.2.2.2.2.2.2.1, x.2.2.2.2.2.2.2.2.2.1, x.2.2.2.2.2.2.2.2.2.2)) := hD
  refine lv_aload_n hx hb dX9_takes_10 rfl (lv_at hl 0 rfl) ?_
  refine lv_dup hx hb dX9_takes_11 rfl ?_
  refine va_get (D := g.1) (ci := 8) (v := .int x.2.2.2.2.2.1) (C := RX9) (T := TX9) (N := 11) hx hb htG in_wsX90 hown hK.1 hP 0 rfl rfl 5 (by decide) (htG _ g3_200) (fun _ h9 => h9) rfl dX9_takes_12 ?_
  refine lv_aload_n hx hb dX9_takes_15 rfl (lv_at hl 0 rfl) ?_
  refine va_get (D := g.1) (ci := 8) (v := .int zq1) (C := RX9) (T := TX9) (N := 11) hx hb htG in_wsX90 hown hK.1 hP 0 rfl rfl 6 (by decide) (htG _ g3_201) (fun _ h9 => h9) rfl dX9_takes_16 ?_
  refine lv_if_eq (tgt := 26) hx hb dX9_takes_19 (by decide) (fun zc2 => ?_) (fun zc2 => ?_)
  · replace hm := (if_pos zc2).symm.trans hm
    refine lv_iconst (v := 0) hx hb dX9_takes_26 (by decide) ?_
    refine lv_iadd hx hb dX9_takes_27 ?_
    obtain ⟨zv3, ezv3, hm⟩ := bnk hm
    refine tope ezv3 ?_
    refine va_put (D := g.1) (ci := 8) (v := .int zv3) (ty := .int) (C := RX9) (T := TX9) (N := 11) hx hb htG in_wsX90 tyX9 tyX9_ok nmX9 hown hK.1 hP hD hS 0 rfl rfl 5 (by decide) (htG _ g3_200) (fun _ h9 => h9) rfl (by decide +kernel) rfl rfl (Nat.le_of_ble_eq_true rfl) dX9_takes_28 (fun H locs hP hD hS => ?_)
    have hP : va_P g.1 vwCl (w_X9 g h0 h1 h2 h3 (x.1, x.2.1, x.2.2.1, x.2.2.2.1, x.2.2.2.2.1, zv3, zq1, x.2.2.2.2.2.2.2.1, x.2.2.2.2.2.2.2.2.1, x.2.2.2.2.2.2.2.2.2.1, x.2.2.2.2.2.2.2.2.2.2)) H := hP
    have hD : va_D A (w_X9 g h0 h1 h2 h3 (x.1, x.2.1, x.2.2.1, x.2.2.2.1, x.2.2.2.2.1, zv3, zq1, x.2.2.2.2.2.2.2.1, x.2.2.2.2.2.2.2.2.1, x.2.2.2.2.2.2.2.2.2.1, x.2.2.2.2.2.2.2.2.2.2)) := hD
    exact W.vret hx hb hr (fun t ht hW => ⟨⟨_, rfl, (Option.some.inj hm), atH ht hP⟩, hS.F ht⟩) hS.2.2 dX9_takes_31
  · replace hm := (if_neg zc2).symm.trans hm
    refine lv_iconst (v := 1) hx hb dX9_takes_22 (by decide) ?_
    refine lv_goto (tgt := 27) hx hb dX9_takes_23 (by decide) ?_
    refine lv_iadd hx hb dX9_takes_27 ?_
    obtain ⟨zv4, ezv4, hm⟩ := bnk hm
    refine tope ezv4 ?_
    refine va_put (D := g.1) (ci := 8) (v := .int zv4) (ty := .int) (C := RX9) (T := TX9) (N := 11) hx hb htG in_wsX90 tyX9 tyX9_ok nmX9 hown hK.1 hP hD hS 0 rfl rfl 5 (by decide) (htG _ g3_200) (fun _ h9 => h9) rfl (by decide +kernel) rfl rfl (Nat.le_of_ble_eq_true rfl) dX9_takes_28 (fun H locs hP hD hS => ?_)
    have hP : va_P g.1 vwCl (w_X9 g h0 h1 h2 h3 (x.1, x.2.1, x.2.2.1, x.2.2.2.1, x.2.2.2.2.1, zv4, zq1, x.2.2.2.2.2.2.2.1, x.2.2.2.2.2.2.2.2.1, x.2.2.2.2.2.2.2.2.2.1, x.2.2.2.2.2.2.2.2.2.2)) H := hP
    have hD : va_D A (w_X9 g h0 h1 h2 h3 (x.1, x.2.1, x.2.2.1, x.2.2.2.1, x.2.2.2.2.1, zv4, zq1, x.2.2.2.2.2.2.2.1, x.2.2.2.2.2.2.2.2.1, x.2.2.2.2.2.2.2.2.2.1, x.2.2.2.2.2.2.2.2.2.2)) := hD
    exact W.vret hx hb hr (fun t ht hW => ⟨⟨_, rfl, (Option.some.inj hm), atH ht hP⟩, hS.F ht⟩) hS.2.2 dX9_takes_31
def fX9_number_L0 (p2 : Int32) : Nat → Int32 → MD → Option (Int32 × MD)
  | 0, _, _ => none
  | n + 1, i0_3, x0 => (if i0_3 ≤ 0 then (some (i0_3, x0)) else ((fX9_isNext x0 48 57).bind (fun zq8 => (if zq8 = 0 then (some (i0_3, x0)) else (if ib x0.2.2.2.2.2.1 80 = true then (if p2 < (((10 * i0_3) + (x0.2.2.2.1 x0.2.2.2.2.2.1.toNatClampNeg)) - 48) then (some (i0_3, x0)) else (bnd (((10 * i0_3) + (x0.2.2.2.1 x0.2.2.2.2.2.1.toNatClampNeg)) - 48) (fun zv12 => (bnd (x0.2.2.2.2.2.1 + 1) (fun zv13 => (fX9_number_L0 p2 n zv12 (x0.1, x0.2.1, x0.2.2.1, x0.2.2.2.1, x0.2.2.2.2.1, zv13, x0.2.2.2.2.2.2.1, x0.2.2.2.2.2.2.2.1, x0.2.2.2.2.2.2.2.2.1, x0.2.2.2.2.2.2.2.2.2.1, x0.2.2.2.2.2.2.2.2.2.2))))))) else none)))))
def fX9_number (x : MD) (p1 : Int32) (p2 : Int32) : Option (Int32 × MD) := (if p1 ≤ 0 then (if 9 ≤ p2 then ((fX9_isNext x 48 57).bind (fun zq3 => (if zq3 = 0 then (bnd (x.2.2.2.2.2.1 + 0) (fun zv6 => ((fX9_number_L0 p2 1000 0 (x.1, x.2.1, x.2.2.1, x.2.2.2.1, x.2.2.2.2.1, zv6, zq3, x.2.2.2.2.2.2.2.1, x.2.2.2.2.2.2.2.2.1, x.2.2.2.2.2.2.2.2.2.1, x.2.2.2.2.2.2.2.2.2.2)).bind (fun zq14 => some (zq14.1, zq14.2))))) else (if ib x.2.2.2.2.2.1 80 = true then (bnd ((x.2.2.2.1 x.2.2.2.2.2.1.toNatClampNeg) - 48) (fun zv16 => (bnd (x.2.2.2.2.2.1 + 1) (fun zv18 => ((fX9_number_L0 p2 1000 zv16 (x.1, x.2.1, x.2.2.1, x.2.2.2.1, x.2.2.2.2.1, zv18, zq3, x.2.2.2.2.2.2.2.1, x.2.2.2.2.2.2.2.2.1, x.2.2.2.2.2.2.2.2.2.1, x.2.2.2.2.2.2.2.2.2.2)).bind (fun zq19 => some (zq19.1, zq19.2))))))) else none)))) else ((fX9_isNext x 48 (48 + p2)).bind (fun zq20 => (if zq20 = 0 then (bnd (x.2.2.2.2.2.1 + 0) (fun zv23 => ((fX9_number_L0 p2 1000 0 (x.1, x.2.1, x.2.2.1, x.2.2.2.1, x.2.2.2.2.1, zv23, zq20, x.2.2.2.2.2.2.2.1, x.2.2.2.2.2.2.2.2.1, x.2.2.2.2.2.2.2.2.2.1, x.2.2.2.2.2.2.2.2.2.2)).bind (fun zq24 => some (zq24.1, zq24.2))))) else (if ib x.2.2.2.2.2.1 80 = true then (bnd ((x.2.2.2.1 x.2.2.2.2.2.1.toNatClampNeg) - 48) (fun zv26 => (bnd (x.2.2.2.2.2.1 + 1) (fun zv28 => ((fX9_number_L0 p2 1000 zv26 (x.1, x.2.1, x.2.2.1, x.2.2.2.1, x.2.2.2.2.1, zv28, zq20, x.2.2.2.2.2.2.2.1, x.2.2.2.2.2.2.2.2.1, x.2.2.2.2.2.2.2.2.2.1, x.2.2.2.2.2.2.2.2.2.2)).bind (fun zq29 => some (zq29.1, zq29.2))))))) else none))))) else (if 9 ≤ p2 then ((fX9_isNext x 49 57).bind (fun zq31 => (if zq31 = 0 then (bnd (x.2.2.2.2.2.1 + 0) (fun zv34 => ((fX9_number_L0 p2 1000 0 (x.1, x.2.1, x.2.2.1, x.2.2.2.1, x.2.2.2.2.1, zv34, zq31, x.2.2.2.2.2.2.2.1, x.2.2.2.2.2.2.2.2.1, x.2.2.2.2.2.2.2.2.2.1, x.2.2.2.2.2.2.2.2.2.2)).bind (fun zq35 => some (zq35.1, zq35.2))))) else (if ib x.2.2.2.2.2.1 80 = true then (bnd ((x.2.2.2.1 x.2.2.2.2.2.1.toNatClampNeg) - 48) (fun zv37 => (bnd (x.2.2.2.2.2.1 + 1) (fun zv39 => ((fX9_number_L0 p2 1000 zv37 (x.1, x.2.1, x.2.2.1, x.2.2.2.1, x.2.2.2.2.1, zv39, zq31, x.2.2.2.2.2.2.2.1, x.2.2.2.2.2.2.2.2.1, x.2.2.2.2.2.2.2.2.2.1, x.2.2.2.2.2.2.2.2.2.2)).bind (fun zq40 => some (zq40.1, zq40.2))))))) else none)))) else ((fX9_isNext x 49 (48 + p2)).bind (fun zq41 => (if zq41 = 0 then (bnd (x.2.2.2.2.2.1 + 0) (fun zv44 => ((fX9_number_L0 p2 1000 0 (x.1, x.2.1, x.2.2.1, x.2.2.2.1, x.2.2.2.2.1, zv44, zq41, x.2.2.2.2.2.2.2.1, x.2.2.2.2.2.2.2.2.1, x.2.2.2.2.2.2.2.2.2.1, x.2.2.2.2.2.2.2.2.2.2)).bind (fun zq45 => some (zq45.1, zq45.2))))) else (if ib x.2.2.2.2.2.1 80 = true then (bnd ((x.2.2.2.1 x.2.2.2.2.2.1.toNatClampNeg) - 48) (fun zv47 => (bnd (x.2.2.2.2.2.1 + 1) (fun zv49 => ((fX9_number_L0 p2 1000 zv47 (x.1, x.2.1, x.2.2.1, x.2.2.2.1, x.2.2.2.2.1, zv49, zq41, x.2.2.2.2.2.2.2.1, x.2.2.2.2.2.2.2.2.1, x.2.2.2.2.2.2.2.2.2.1, x.2.2.2.2.2.2.2.2.2.2)).bind (fun zq50 => some (zq50.1, zq50.2))))))) else none))))))
abbrev rm_X9_number : Jvm.Room := { frames := 2, cells := 0, slots := 0, locals := 44 }
theorem hd_X9_number : yX9_number.cls = RX9 ∧ yX9_number.cls ≠ "java/lang/invoke/MethodHandle" ∧ yX9_number.cls ≠ "java/lang/invoke/VarHandle" ∧ (parseMethodDescriptor yX9_number.desc).map (fun d => d.parameters.length) = some 2 := by decide +kernel
set_option maxHeartbeats 4000000 in
set_option maxRecDepth 100000 in
theorem kX9_number (l : Launch) (g : CX) (h0 h1 h2 h3 : Nat) (sz : Nat) (x : MD) (p1 : Int32) (p2 : Int32) (res : Int32 × MD) (hm0 : fX9_number x p1 p2 = some res) : Met l yX9_number (wg yX9_number cX9_number 4 (some .int)) rm_X9_number (PW g [.ref h0, .int p1, .int p2] sz (w_X9 g h0 h1 h2 h3 x)) (va_Qi (fun v u => v = res.1 ∧ u = res.2) (fun u t => va_P g.1 vwCl (w_X9 g h0 h1 h2 h3 u) t.heap) (va_A (w_X9 g h0 h1 h2 h3 x) sz)) 0 0 (va_A (w_X9 g h0 h1 h2 h3 x) sz) := by
  refine Met.ofW (cc := cX9_number) (maxL := 4) (ret := (some .int)) (by decide) rfl ?_
  intro p e s m args below meth c s₁ B hml hv
  obtain ⟨rfl, hsz, hP, hK, hD0, hL⟩ := hv
  have hx := B.exec
  have hb := B.bytes
  have hr := B.returns
  have htG := wg_G (atoms_spec (ws := wg yX9_number cX9_number 4 (some .int)) B.pre)
  have hown : s.vm.findClass RX9 = some m.cls := findClass_of_methodNamed B.named
  have hlocks := B.notSynchronized
  subst hsz
  have hD := hD0.self (sz := s.heap.size)
  generalize hAe : va_A (w_X9 g h0 h1 h2 h3 x) s.heap.size = A at hD hL ⊢
  have hA : ∀ q : Nat, s.heap.size ≤ q → A q := fun q h => by rw [← hAe]; exact Or.inr h
  have hS : va_S A s.heap s.heap [] := va_S.rf
  have hl := lv_entry ([.ref h0, .int p1, .int p2]) (n := 4) (Nat.le_of_ble_eq_true rfl)
  rw [lg_entry_eq]
  generalize (lg_sl ([.ref h0, .int p1, .int p2]) ++ List.replicate (4 - (lg_sl ([.ref h0, .int p1, .int p2])).length) Slot.unset).toArray = ls at hl ⊢
  have hl : lv_has ls 4 [(0, .ref h0), (1, .int p1), (2, .int p2)] := hl
  have hm := hm0
  unfold fX9_number at hm
  have hL0 : ∀ (Q : State → Prop), ∀ (n : Nat) (i0_3 : Int32) (x0 : MD) (out : Int32 × MD) (H : Heap) (locs : List Loc) (ls : Array Slot), fX9_number_L0 p2 n i0_3 x0 = some out → va_P g.1 vwCl (w_X9 g h0 h1 h2 h3 x0) H → va_D A (w_X9 g h0 h1 h2 h3 x0) → va_S A s.heap H locs → lv_has ls 4 [(0, .ref h0), (2, .int p2), (3, .int i0_3)] → (∀ (H : Heap) (locs : List Loc) (ls : Array Slot), va_P g.1 vwCl (w_X9 g h0 h1 h2 h3 out.2) H → va_D A (w_X9 g h0 h1 h2 h3 out.2) → va_S A s.heap H locs → lv_has ls 4 [(3, .int out.1)] → W p l e (headSpec (wg yX9_number cX9_number 4 (some .int)) rm_X9_number).room s m (([.ref h0, .int p1, .int p2] : List Value).toArray) below meth c H locs 0 0 Q (F0 m 146 ls [])) → W p l e (headSpec (wg yX9_number cX9_number 4 (some .int)) rm_X9_number).room s m (([.ref h0, .int p1, .int p2] : List Value).toArray) below meth c H locs 0 0 Q (F0 m 79 ls []) := by
    intro Q n
    induction n with
    | zero =>
      intro i0_3 x0 out H locs ls hm hP hD hS hl hk
      simp [fX9_number_L0] at hm
    | succ n ih =>
      intro i0_3 x0 out H locs ls hm hP hD hS hl hk
      rw [fX9_number_L0] at hm
      refine lv_iload_n hx hb dX9_number_79 rfl (lv_at hl 2 rfl) ?_
      refine lv_if_le (tgt := 146) hx hb dX9_number_80 (by decide) (fun zc7 => ?_) (fun zc7 => ?_)
      · replace hm := (if_pos zc7).symm.trans hm
        obtain rfl := Option.some.inj hm
        exact hk H locs ls hP hD hS (lv_sub hl [2] rfl)
      · replace hm := (if_neg zc7).symm.trans hm
        refine lv_aload_n hx hb dX9_number_83 rfl (lv_at hl 0 rfl) ?_
        refine lv_bipush (v := 48) hx hb dX9_number_84 (by decide +kernel) ?_
        refine lv_bipush (v := 57) hx hb dX9_number_86 (by decide +kernel) ?_
        obtain ⟨zq8, hzq8, hm⟩ := bdk hm
        refine ko_e (va_runV (As := [.int 48, .int 57]) (rest := []) ⟨hx, hb, hml, hown, htG⟩ (kX9_isNext l g h0 h1 h2 h3 x0 48 57 _ hzq8) (cwV 2 htG (GV g4_116 g4_118 gS_29 g1_10 g4_119) rfl rfl rfl hd_X9_isNext ⟨Nat.le_of_ble_eq_true rfl, Nat.le_of_ble_eq_true rfl⟩) (PR_VA hK hL hS hP (ci := 8) rfl 0 rfl) rfl rfl hl.1 rfl (lv_room (Nat.le_of_ble_eq_true rfl)) dX9_number_88 ⟨Nat.zero_le _, Nat.zero_le _⟩) ?_
        refine lv_if_eq (tgt := 146) hx hb dX9_number_91 (by decide) (fun zc9 => ?_) (fun zc9 => ?_)
        · replace hm := (if_pos zc9).symm.trans hm
          obtain rfl := Option.some.inj hm
          exact hk H locs ls hP hD hS (lv_sub hl [2] rfl)
        · replace hm := (if_neg zc9).symm.trans hm
          refine lv_bipush (v := 10) hx hb dX9_number_94 (by decide +kernel) ?_
          refine lv_iload_n hx hb dX9_number_96 rfl (lv_at hl 2 rfl) ?_
          refine lv_imul hx hb dX9_number_97 ?_
          refine lv_aload_n hx hb dX9_number_98 rfl (lv_at hl 0 rfl) ?_
          refine va_get (D := g.1) (ci := 8) (v := .ref h2) (C := RX9) (T := TX9) (N := 11) hx hb htG in_wsX90 hown hK.1 hP 0 rfl rfl 3 (by decide) (htG _ g3_198) (fun _ h9 => h9) rfl dX9_number_99 ?_
          refine lv_aload_n hx hb dX9_number_102 rfl (lv_at hl 0 rfl) ?_
          refine va_get (D := g.1) (ci := 8) (v := .int x0.2.2.2.2.2.1) (C := RX9) (T := TX9) (N := 11) hx hb htG in_wsX90 hown hK.1 hP 0 rfl rfl 5 (by decide) (htG _ g3_200) (fun _ h9 => h9) rfl dX9_number_103 ?_
          obtain ⟨zb10, hm⟩ := ibk hm
          refine va_cald hx hb hK.1 hP 2 1 rfl rfl zb10 dX9_number_106 ?_
          refine lv_iadd hx hb dX9_number_107 ?_
          refine lv_bipush (v := 48) hx hb dX9_number_108 (by decide +kernel) ?_
          refine lv_isub hx hb dX9_number_110 ?_
          refine lv_iload_n hx hb dX9_number_111 rfl (lv_at hl 1 rfl) ?_
          refine lv_icmp_gt (tgt := 146) hx hb dX9_number_112 (by decide) (fun zc11 => ?_) (fun zc11 => ?_)
          · replace hm := (if_pos zc11).symm.trans hm
            obtain rfl := Option.some.inj hm
            exact hk H locs ls hP hD hS (lv_sub hl [2] rfl)
          · replace hm := (if_neg zc11).symm.trans hm
            refine lv_bipush (v := 10) hx hb dX9_number_115 (by decide +kernel) ?_
            refine lv_iload_n hx hb dX9_number_117 rfl (lv_at hl 2 rfl) ?_
            refine lv_imul hx hb dX9_number_118 ?_
            refine lv_aload_n hx hb dX9_number_119 rfl (lv_at hl 0 rfl) ?_
            refine va_get (D := g.1) (ci := 8) (v := .ref h2) (C := RX9) (T := TX9) (N := 11) hx hb htG in_wsX90 hown hK.1 hP 0 rfl rfl 3 (by decide) (htG _ g3_198) (fun _ h9 => h9) rfl dX9_number_120 ?_
            refine lv_aload_n hx hb dX9_number_123 rfl (lv_at hl 0 rfl) ?_
            refine va_get (D := g.1) (ci := 8) (v := .int x0.2.2.2.2.2.1) (C := RX9) (T := TX9) (N := 11) hx hb htG in_wsX90 hown hK.1 hP 0 rfl rfl 5 (by decide) (htG _ g3_200) (fun _ h9 => h9) rfl dX9_number_124 ?_
            refine va_cald hx hb hK.1 hP 2 1 rfl rfl zb10 dX9_number_127 ?_
            refine lv_iadd hx hb dX9_number_128 ?_
            refine lv_bipush (v := 48) hx hb dX9_number_129 (by decide +kernel) ?_
            refine lv_isub hx hb dX9_number_131 ?_
            obtain ⟨zv12, ezv12, hm⟩ := bnk hm
            refine tope ezv12 ?_
            refine lv_istore_n (lv' := [(3, .int zv12), (0, .ref h0), (2, .int p2)]) hx hb dX9_number_132 rfl hl (by decide) rfl (fun ls hl => ?_)
            refine lv_aload_n hx hb dX9_number_133 rfl (lv_at hl 1 rfl) ?_
            refine lv_dup hx hb dX9_number_134 rfl ?_
            refine va_get (D := g.1) (ci := 8) (v := .int x0.2.2.2.2.2.1) (C := RX9) (T := TX9) (N := 11) hx hb htG in_wsX90 hown hK.1 hP 0 rfl rfl 5 (by decide) (htG _ g3_200) (fun _ h9 => h9) rfl dX9_number_135 ?_
            refine lv_iconst (v := 1) hx hb dX9_number_138 (by decide) ?_
            refine lv_iadd hx hb dX9_number_139 ?_
            obtain ⟨zv13, ezv13, hm⟩ := bnk hm
            refine tope ezv13 ?_
            refine va_put (D := g.1) (ci := 8) (v := .int zv13) (ty := .int) (C := RX9) (T := TX9) (N := 11) hx hb htG in_wsX90 tyX9 tyX9_ok nmX9 hown hK.1 hP hD hS 0 rfl rfl 5 (by decide) (htG _ g3_200) (fun _ h9 => h9) rfl (by decide +kernel) rfl rfl (Nat.le_of_ble_eq_true rfl) dX9_number_140 (fun H locs hP hD hS => ?_)
            have hP : va_P g.1 vwCl (w_X9 g h0 h1 h2 h3 (x0.1, x0.2.1, x0.2.2.1, x0.2.2.2.1, x0.2.2.2.2.1, zv13, x0.2.2.2.2.2.2.1, x0.2.2.2.2.2.2.2.1, x0.2.2.2.2.2.2.2.2.1, x0.2.2.2.2.2.2.2.2.2.1, x0.2.2.2.2.2.2.2.2.2.2)) H := hP
            have hD : va_D A (w_X9 g h0 h1 h2 h3 (x0.1, x0.2.1, x0.2.2.1, x0.2.2.2.1, x0.2.2.2.2.1, zv13, x0.2.2.2.2.2.2.1, x0.2.2.2.2.2.2.2.1, x0.2.2.2.2.2.2.2.2.1, x0.2.2.2.2.2.2.2.2.2.1, x0.2.2.2.2.2.2.2.2.2.2)) := hD
            refine lv_goto (tgt := 79) hx hb dX9_number_143 (by decide) ?_
            exact ih zv12 (x0.1, x0.2.1, x0.2.2.1, x0.2.2.2.1, x0.2.2.2.2.1, zv13, x0.2.2.2.2.2.2.1, x0.2.2.2.2.2.2.2.1, x0.2.2.2.2.2.2.2.2.1, x0.2.2.2.2.2.2.2.2.2.1, x0.2.2.2.2.2.2.2.2.2.2) out H locs ls hm hP hD hS (lv_sub hl [1, 2, 0] rfl) hk
  refine lv_aload_n hx hb dX9_number_0 rfl (lv_at hl 0 rfl) ?_
  refine lv_aload_n hx hb dX9_number_1 rfl (lv_at hl 0 rfl) ?_
  refine lv_iload_n hx hb dX9_number_2 rfl (lv_at hl 1 rfl) ?_
  refine lv_if_le (tgt := 11) hx hb dX9_number_3 (by decide) (fun zc1 => ?_) (fun zc1 => ?_)
  · replace hm := (if_pos zc1).symm.trans hm
    refine lv_bipush (v := 48) hx hb dX9_number_11 (by decide +kernel) ?_
    refine lv_iload_n hx hb dX9_number_13 rfl (lv_at hl 2 rfl) ?_
    refine lv_bipush (v := 9) hx hb dX9_number_14 (by decide +kernel) ?_
    refine lv_icmp_ge (tgt := 26) hx hb dX9_number_16 (by decide) (fun zc2 => ?_) (fun zc2 => ?_)
    · replace hm := (if_pos zc2).symm.trans hm
      refine lv_bipush (v := 57) hx hb dX9_number_26 (by decide +kernel) ?_
      obtain ⟨zq3, hzq3, hm⟩ := bdk hm
      refine ko_e (va_runV (As := [.int 48, .int 57]) (rest := [.ref h0]) ⟨hx, hb, hml, hown, htG⟩ (kX9_isNext l g h0 h1 h2 h3 x 48 57 _ hzq3) (cwV 2 htG (GV g4_116 g4_118 gS_29 g1_10 g4_119) rfl rfl rfl hd_X9_isNext ⟨Nat.le_of_ble_eq_true rfl, Nat.le_of_ble_eq_true rfl⟩) (PR_VA hK hL hS hP (ci := 8) rfl 0 rfl) rfl rfl hl.1 rfl (lv_room (Nat.le_of_ble_eq_true rfl)) dX9_number_28 ⟨Nat.zero_le _, Nat.zero_le _⟩) ?_
      refine va_put (D := g.1) (ci := 8) (v := .int zq3) (ty := .boolean) (C := RX9) (T := TX9) (N := 11) hx hb htG in_wsX90 tyX9 tyX9_ok nmX9 hown hK.1 hP hD hS 0 rfl rfl 6 (by decide) (htG _ g3_201) (fun _ h9 => h9) rfl (by decide +kernel) (nar_b (b01_X9_isNext hzq3)) (fit_b (b01_X9_isNext hzq3)) (Nat.le_of_ble_eq_true rfl) dX9_number_31 (fun H locs hP hD hS => ?_)
      have hP : va_P g.1 vwCl (w_X9 g h0 h1 h2 h3 (x.1, x.2.1, x.2.2.1, x.2.2.2.1, x.2.2.2.2.1, x.2.2.2.2.2.1, zq3, x.2.2.2.2.2.2.2.1, x.2.2.2.2.2.2.2.2.1, x.2.2.2.2.2.2.2.2.2.1, x.2.2.2.2.2.2.2.2.2.2)) H := hP
      have hD : va_D A (w_X9 g h0 h1 h2 h3 (x.1, x.2.1, x.2.2.1, x.2.2.2.1, x.2.2.2.2.1, x.2.2.2.2.2.1, zq3, x.2.2.2.2.2.2.2.1, x.2.2.2.2.2.2.2.2.1, x.2.2.2.2.2.2.2.2.2.1, x.2.2.2.2.2.2.2.2.2.2)) := hD
      refine lv_aload_n hx hb dX9_number_34 rfl (lv_at hl 0 rfl) ?_
      refine va_get (D := g.1) (ci := 8) (v := .int zq3) (C := RX9) (T := TX9) (N := 11) hx hb htG in_wsX90 hown hK.1 hP 0 rfl rfl 6 (by decide) (htG _ g3_201) (fun _ h9 => h9) rfl dX9_number_35 ?_
      refine lv_if_eq (tgt := 56) hx hb dX9_number_38 (by decide) (fun zc4 => ?_) (fun zc4 => ?_)
      · replace hm := (if_pos zc4).symm.trans hm
        refine lv_iconst (v := 0) hx hb dX9_number_56 (by decide) ?_
        refine lv_istore_n (lv' := [(3, .int 0), (0, .ref h0), (1, .int p1), (2, .int p2)]) hx hb dX9_number_57 rfl hl (by decide) rfl (fun ls hl => ?_)
        refine lv_aload_n hx hb dX9_number_58 rfl (lv_at hl 1 rfl) ?_
        refine lv_dup hx hb dX9_number_59 rfl ?_
        refine va_get (D := g.1) (ci := 8) (v := .int x.2.2.2.2.2.1) (C := RX9) (T := TX9) (N := 11) hx hb htG in_wsX90 hown hK.1 hP 0 rfl rfl 5 (by decide) (htG _ g3_200) (fun _ h9 => h9) rfl dX9_number_60 ?_
        refine lv_aload_n hx hb dX9_number_63 rfl (lv_at hl 1 rfl) ?_
        refine va_get (D := g.1) (ci := 8) (v := .int zq3) (C := RX9) (T := TX9) (N := 11) hx hb htG in_wsX90 hown hK.1 hP 0 rfl rfl 6 (by decide) (htG _ g3_201) (fun _ h9 => h9) rfl dX9_number_64 ?_
        refine lv_if_eq (tgt := 74) hx hb dX9_number_67 (by decide) (fun _ => ?_) (fun zc5 => absurd zc4 zc5)
        refine lv_iconst (v := 0) hx hb dX9_number_74 (by decide) ?_
        refine lv_iadd hx hb dX9_number_75 ?_
        obtain ⟨zv6, ezv6, hm⟩ := bnk hm
        refine tope ezv6 ?_
        refine va_put (D := g.1) (ci := 8) (v := .int zv6) (ty := .int) (C := RX9) (T := TX9) (N := 11) hx hb htG in_wsX90 tyX9 tyX9_ok nmX9 hown hK.1 hP hD hS 0 rfl rfl 5 (by decide) (htG _ g3_200) (fun _ h9 => h9) rfl (by decide +kernel) rfl rfl (Nat.le_of_ble_eq_true rfl) dX9_number_76 (fun H locs hP hD hS => ?_)
        have hP : va_P g.1 vwCl (w_X9 g h0 h1 h2 h3 (x.1, x.2.1, x.2.2.1, x.2.2.2.1, x.2.2.2.2.1, zv6, zq3, x.2.2.2.2.2.2.2.1, x.2.2.2.2.2.2.2.2.1, x.2.2.2.2.2.2.2.2.2.1, x.2.2.2.2.2.2.2.2.2.2)) H := hP
        have hD : va_D A (w_X9 g h0 h1 h2 h3 (x.1, x.2.1, x.2.2.1, x.2.2.2.1, x.2.2.2.2.1, zv6, zq3, x.2.2.2.2.2.2.2.1, x.2.2.2.2.2.2.2.2.1, x.2.2.2.2.2.2.2.2.2.1, x.2.2.2.2.2.2.2.2.2.2)) := hD
        obtain ⟨zq14, hzq14, hm⟩ := bdk hm
        refine hL0 _ 1000 0 (x.1, x.2.1, x.2.2.1, x.2.2.2.1, x.2.2.2.2.1, zv6, zq3, x.2.2.2.2.2.2.2.1, x.2.2.2.2.2.2.2.2.1, x.2.2.2.2.2.2.2.2.2.1, x.2.2.2.2.2.2.2.2.2.2) zq14 _ _ _ hzq14 hP hD hS (lv_sub hl [1, 3, 0] rfl) (fun H locs ls hP hD hS hl => ?_)
        refine lv_iload_n hx hb dX9_number_146 rfl (lv_at hl 0 rfl) ?_
        exact W.iret (v := zq14.1) hx hb hr (fun t ht hW => ⟨⟨_, _, rfl, pr1 (Option.some.inj hm), atH ht hP⟩, hS.F ht⟩) hS.2.2 dX9_number_147
      · replace hm := (if_neg zc4).symm.trans hm
        refine lv_aload_n hx hb dX9_number_41 rfl (lv_at hl 0 rfl) ?_
        refine va_get (D := g.1) (ci := 8) (v := .ref h2) (C := RX9) (T := TX9) (N := 11) hx hb htG in_wsX90 hown hK.1 hP 0 rfl rfl 3 (by decide) (htG _ g3_198) (fun _ h9 => h9) rfl dX9_number_42 ?_
        refine lv_aload_n hx hb dX9_number_45 rfl (lv_at hl 0 rfl) ?_
        refine va_get (D := g.1) (ci := 8) (v := .int x.2.2.2.2.2.1) (C := RX9) (T := TX9) (N := 11) hx hb htG in_wsX90 hown hK.1 hP 0 rfl rfl 5 (by decide) (htG _ g3_200) (fun _ h9 => h9) rfl dX9_number_46 ?_
        obtain ⟨zb15, hm⟩ := ibk hm
        refine va_cald hx hb hK.1 hP 2 1 rfl rfl zb15 dX9_number_49 ?_
        refine lv_bipush (v := 48) hx hb dX9_number_50 (by decide +kernel) ?_
        refine lv_isub hx hb dX9_number_52 ?_
        refine lv_goto (tgt := 57) hx hb dX9_number_53 (by decide) ?_
        obtain ⟨zv16, ezv16, hm⟩ := bnk hm
        refine tope ezv16 ?_
        refine lv_istore_n (lv' := [(3, .int zv16), (0, .ref h0), (1, .int p1), (2, .int p2)]) hx hb dX9_number_57 rfl hl (by decide) rfl (fun ls hl => ?_)
        refine lv_aload_n hx hb dX9_number_58 rfl (lv_at hl 1 rfl) ?_
        refine lv_dup hx hb dX9_number_59 rfl ?_
        refine va_get (D := g.1) (ci := 8) (v := .int x.2.2.2.2.2.1) (C := RX9) (T := TX9) (N := 11) hx hb htG in_wsX90 hown hK.1 hP 0 rfl rfl 5 (by decide) (htG _ g3_200) (fun _ h9 => h9) rfl dX9_number_60 ?_
        refine lv_aload_n hx hb dX9_number_63 rfl (lv_at hl 1 rfl) ?_
        refine va_get (D := g.1) (ci := 8) (v := .int zq3) (C := RX9) (T := TX9) (N := 11) hx hb htG in_wsX90 hown hK.1 hP 0 rfl rfl 6 (by decide) (htG _ g3_201) (fun _ h9 => h9) rfl dX9_number_64 ?_
        refine lv_if_eq (tgt := 74) hx hb dX9_number_67 (by decide) (fun zc17 => absurd zc17 zc4) (fun _ => ?_)
        refine lv_iconst (v := 1) hx hb dX9_number_70 (by decide) ?_
        refine lv_goto (tgt := 75) hx hb dX9_number_71 (by decide) ?_
        refine lv_iadd hx hb dX9_number_75 ?_
        obtain ⟨zv18, ezv18, hm⟩ := bnk hm
        refine tope ezv18 ?_
        refine va_put (D := g.1) (ci := 8) (v := .int zv18) (ty := .int) (C := RX9) (T := TX9) (N := 11) hx hb htG in_wsX90 tyX9 tyX9_ok nmX9 hown hK.1 hP hD hS 0 rfl rfl 5 (by decide) (htG _ g3_200) (fun _ h9 => h9) rfl (by decide +kernel) rfl rfl (Nat.le_of_ble_eq_true rfl) dX9_number_76 (fun H locs hP hD hS => ?_)
        have hP : va_P g.1 vwCl (w_X9 g h0 h1 h2 h3 (x.1, x.2.1, x.2.2.1, x.2.2.2.1, x.2.2.2.2.1, zv18, zq3, x.2.2.2.2.2.2.2.1, x.2.2.2.2.2.2.2.2.1, x.2.2.2.2.2.2.2.2.2.1, x.2.2.2.2.2.2.2.2.2.2)) H := hP
        have hD : va_D A (w_X9 g h0 h1 h2 h3 (x.1, x.2.1, x.2.2.1, x.2.2.2.1, x.2.2.2.2.1, zv18, zq3, x.2.2.2.2.2.2.2.1, x.2.2.2.2.2.2.2.2.1, x.2.2.2.2.2.2.2.2.2.1, x.2.2.2.2.2.2.2.2.2.2)) := hD
        obtain ⟨zq19, hzq19, hm⟩ := bdk hm
        refine hL0 _ 1000 zv16 (x.1, x.2.1, x.2.2.1, x.2.2.2.1, x.2.2.2.2.1, zv18, zq3, x.2.2.2.2.2.2.2.1, x.2.2.2.2.2.2.2.2.1, x.2.2.2.2.2.2.2.2.2.1, x.2.2.2.2.2.2.2.2.2.2) zq19 _ _ _ hzq19 hP hD hS (lv_sub hl [1, 3, 0] rfl) (fun H locs ls hP hD hS hl => ?_)
        refine lv_iload_n hx hb dX9_number_146 rfl (lv_at hl 0 rfl) ?_
        exact W.iret (v := zq19.1) hx hb hr (fun t ht hW => ⟨⟨_, _, rfl, pr1 (Option.some.inj hm), atH ht hP⟩, hS.F ht⟩) hS.2.2 dX9_number_147
    · replace hm := (if_neg zc2).symm.trans hm
      refine lv_bipush (v := 48) hx hb dX9_number_19 (by decide +kernel) ?_
      refine lv_iload_n hx hb dX9_number_21 rfl (lv_at hl 2 rfl) ?_
      refine lv_iadd hx hb dX9_number_22 ?_
      refine lv_goto (tgt := 28) hx hb dX9_number_23 (by decide) ?_
      obtain ⟨zq20, hzq20, hm⟩ := bdk hm
      refine ko_e (va_runV (As := [.int 48, .int (48 + p2)]) (rest := [.ref h0]) ⟨hx, hb, hml, hown, htG⟩ (kX9_isNext l g h0 h1 h2 h3 x 48 (48 + p2) _ hzq20) (cwV 2 htG (GV g4_116 g4_118 gS_29 g1_10 g4_119) rfl rfl rfl hd_X9_isNext ⟨Nat.le_of_ble_eq_true rfl, Nat.le_of_ble_eq_true rfl⟩) (PR_VA hK hL hS hP (ci := 8) rfl 0 rfl) rfl rfl hl.1 rfl (lv_room (Nat.le_of_ble_eq_true rfl)) dX9_number_28 ⟨Nat.zero_le _, Nat.zero_le _⟩) ?_
      refine va_put (D := g.1) (ci := 8) (v := .int zq20) (ty := .boolean) (C := RX9) (T := TX9) (N := 11) hx hb htG in_wsX90 tyX9 tyX9_ok nmX9 hown hK.1 hP hD hS 0 rfl rfl 6 (by decide) (htG _ g3_201) (fun _ h9 => h9) rfl (by decide +kernel) (nar_b (b01_X9_isNext hzq20)) (fit_b (b01_X9_isNext hzq20)) (Nat.le_of_ble_eq_true rfl) dX9_number_31 (fun H locs hP hD hS => ?_)
      have hP : va_P g.1 vwCl (w_X9 g h0 h1 h2 h3 (x.1, x.2.1, x.2.2.1, x.2.2.2.1, x.2.2.2.2.1, x.2.2.2.2.2.1, zq20, x.2.2.2.2.2.2.2.1, x.2.2.2.2.2.2.2.2.1, x.2.2.2.2.2.2.2.2.2.1, x.2.2.2.2.2.2.2.2.2.2)) H := hP
      have hD : va_D A (w_X9 g h0 h1 h2 h3 (x.1, x.2.1, x.2.2.1, x.2.2.2.1, x.2.2.2.2.1, x.2.2.2.2.2.1, zq20, x.2.2.2.2.2.2.2.1, x.2.2.2.2.2.2.2.2.1, x.2.2.2.2.2.2.2.2.2.1, x.2.2.2.2.2.2.2.2.2.2)) := hD
      refine lv_aload_n hx hb dX9_number_34 rfl (lv_at hl 0 rfl) ?_
      refine va_get (D := g.1) (ci := 8) (v := .int zq20) (C := RX9) (T := TX9) (N := 11) hx hb htG in_wsX90 hown hK.1 hP 0 rfl rfl 6 (by decide) (htG _ g3_201) (fun _ h9 => h9) rfl dX9_number_35 ?_
      refine lv_if_eq (tgt := 56) hx hb dX9_number_38 (by decide) (fun zc21 => ?_) (fun zc21 => ?_)
      · replace hm := (if_pos zc21).symm.trans hm
        refine lv_iconst (v := 0) hx hb dX9_number_56 (by decide) ?_
        refine lv_istore_n (lv' := [(3, .int 0), (0, .ref h0), (1, .int p1), (2, .int p2)]) hx hb dX9_number_57 rfl hl (by decide) rfl (fun ls hl => ?_)
        refine lv_aload_n hx hb dX9_number_58 rfl (lv_at hl 1 rfl) ?_
        refine lv_dup hx hb dX9_number_59 rfl ?_
        refine va_get (D := g.1) (ci := 8) (v := .int x.2.2.2.2.2.1) (C := RX9) (T := TX9) (N := 11) hx hb htG in_wsX90 hown hK.1 hP 0 rfl rfl 5 (by decide) (htG _ g3_200) (fun _ h9 => h9) rfl dX9_number_60 ?_
        refine lv_aload_n hx hb dX9_number_63 rfl (lv_at hl 1 rfl) ?_
        refine va_get (D := g.1) (ci := 8) (v := .int zq20) (C := RX9) (T := TX9) (N := 11) hx hb htG in_wsX90 hown hK.1 hP 0 rfl rfl 6 (by decide) (htG _ g3_201) (fun _ h9 => h9) rfl dX9_number_64 ?_
        refine lv_if_eq (tgt := 74) hx hb dX9_number_67 (by decide) (fun _ => ?_) (fun zc22 => absurd zc21 zc22)
        refine lv_iconst (v := 0) hx hb dX9_number_74 (by decide) ?_
        refine lv_iadd hx hb dX9_number_75 ?_
        obtain ⟨zv23, ezv23, hm⟩ := bnk hm
        refine tope ezv23 ?_
        refine va_put (D := g.1) (ci := 8) (v := .int zv23) (ty := .int) (C := RX9) (T := TX9) (N := 11) hx hb htG in_wsX90 tyX9 tyX9_ok nmX9 hown hK.1 hP hD hS 0 rfl rfl 5 (by decide) (htG _ g3_200) (fun _ h9 => h9) rfl (by decide +kernel) rfl rfl (Nat.le_of_ble_eq_true rfl) dX9_number_76 (fun H locs hP hD hS => ?_)
        have hP : va_P g.1 vwCl (w_X9 g h0 h1 h2 h3 (x.1, x.2.1, x.2.2.1, x.2.2.2.1, x.2.2.2.2.1, zv23, zq20, x.2.2.2.2.2.2.2.1, x.2.2.2.2.2.2.2.2.1, x.2.2.2.2.2.2.2.2.2.1, x.2.2.2.2.2.2.2.2.2.2)) H := hP
        have hD : va_D A (w_X9 g h0 h1 h2 h3 (x.1, x.2.1, x.2.2.1, x.2.2.2.1, x.2.2.2.2.1, zv23, zq20, x.2.2.2.2.2.2.2.1, x.2.2.2.2.2.2.2.2.1, x.2.2.2.2.2.2.2.2.2.1, x.2.2.2.2.2.2.2.2.2.2)) := hD
        obtain ⟨zq24, hzq24, hm⟩ := bdk hm
        refine hL0 _ 1000 0 (x.1, x.2.1, x.2.2.1, x.2.2.2.1, x.2.2.2.2.1, zv23, zq20, x.2.2.2.2.2.2.2.1, x.2.2.2.2.2.2.2.2.1, x.2.2.2.2.2.2.2.2.2.1, x.2.2.2.2.2.2.2.2.2.2) zq24 _ _ _ hzq24 hP hD hS (lv_sub hl [1, 3, 0] rfl) (fun H locs ls hP hD hS hl => ?_)
        refine lv_iload_n hx hb dX9_number_146 rfl (lv_at hl 0 rfl) ?_
        exact W.iret (v := zq24.1) hx hb hr (fun t ht hW => ⟨⟨_, _, rfl, pr1 (Option.some.inj hm), atH ht hP⟩, hS.F ht⟩) hS.2.2 dX9_number_147
      · replace hm := (if_neg zc21).symm.trans hm
        refine lv_aload_n hx hb dX9_number_41 rfl (lv_at hl 0 rfl) ?_
        refine va_get (D := g.1) (ci := 8) (v := .ref h2) (C := RX9) (T := TX9) (N := 11) hx hb htG in_wsX90 hown hK.1 hP 0 rfl rfl 3 (by decide) (htG _ g3_198) (fun _ h9 => h9) rfl dX9_number_42 ?_
        refine lv_aload_n hx hb dX9_number_45 rfl (lv_at hl 0 rfl) ?_
        refine va_get (D := g.1) (ci := 8) (v := .int x.2.2.2.2.2.1) (C := RX9) (T := TX9) (N := 11) hx hb htG in_wsX90 hown hK.1 hP 0 rfl rfl 5 (by decide) (htG _ g3_200) (fun _ h9 => h9) rfl dX9_number_46 ?_
        obtain ⟨zb25, hm⟩ := ibk hm
        refine va_cald hx hb hK.1 hP 2 1 rfl rfl zb25 dX9_number_49 ?_
        refine lv_bipush (v := 48) hx hb dX9_number_50 (by decide +kernel) ?_
        refine lv_isub hx hb dX9_number_52 ?_
        refine lv_goto (tgt := 57) hx hb dX9_number_53 (by decide) ?_
        obtain ⟨zv26, ezv26, hm⟩ := bnk hm
        refine tope ezv26 ?_
        refine lv_istore_n (lv' := [(3, .int zv26), (0, .ref h0), (1, .int p1), (2, .int p2)]) hx hb dX9_number_57 rfl hl (by decide) rfl (fun ls hl => ?_)
        refine lv_aload_n hx hb dX9_number_58 rfl (lv_at hl 1 rfl) ?_
        refine lv_dup hx hb dX9_number_59 rfl ?_
        refine va_get (D := g.1) (ci := 8) (v := .int x.2.2.2.2.2.1) (C := RX9) (T := TX9) (N := 11) hx hb htG in_wsX90 hown hK.1 hP 0 rfl rfl 5 (by decide) (htG _ g3_200) (fun _ h9 => h9) rfl dX9_number_60 ?_
        refine lv_aload_n hx hb dX9_number_63 rfl (lv_at hl 1 rfl) ?_
        refine va_get (D := g.1) (ci := 8) (v := .int zq20) (C := RX9) (T := TX9) (N := 11) hx hb htG in_wsX90 hown hK.1 hP 0 rfl rfl 6 (by decide) (htG _ g3_201) (fun _ h9 => h9) rfl dX9_number_64 ?_
        refine lv_if_eq (tgt := 74) hx hb dX9_number_67 (by decide) (fun zc27 => absurd zc27 zc21) (fun _ => ?_)
        refine lv_iconst (v := 1) hx hb dX9_number_70 (by decide) ?_
        refine lv_goto (tgt := 75) hx hb dX9_number_71 (by decide) ?_
        refine lv_iadd hx hb dX9_number_75 ?_
        obtain ⟨zv28, ezv28, hm⟩ := bnk hm
        refine tope ezv28 ?_
        refine va_put (D := g.1) (ci := 8) (v := .int zv28) (ty := .int) (C := RX9) (T := TX9) (N := 11) hx hb htG in_wsX90 tyX9 tyX9_ok nmX9 hown hK.1 hP hD hS 0 rfl rfl 5 (by decide) (htG _ g3_200) (fun _ h9 => h9) rfl (by decide +kernel) rfl rfl (Nat.le_of_ble_eq_true rfl) dX9_number_76 (fun H locs hP hD hS => ?_)
        have hP : va_P g.1 vwCl (w_X9 g h0 h1 h2 h3 (x.1, x.2.1, x.2.2.1, x.2.2.2.1, x.2.2.2.2.1, zv28, zq20, x.2.2.2.2.2.2.2.1, x.2.2.2.2.2.2.2.2.1, x.2.2.2.2.2.2.2.2.2.1, x.2.2.2.2.2.2.2.2.2.2)) H := hP
        have hD : va_D A (w_X9 g h0 h1 h2 h3 (x.1, x.2.1, x.2.2.1, x.2.2.2.1, x.2.2.2.2.1, zv28, zq20, x.2.2.2.2.2.2.2.1, x.2.2.2.2.2.2.2.2.1, x.2.2.2.2.2.2.2.2.2.1, x.2.2.2.2.2.2.2.2.2.2)) := hD
        obtain ⟨zq29, hzq29, hm⟩ := bdk hm
        refine hL0 _ 1000 zv26 (x.1, x.2.1, x.2.2.1, x.2.2.2.1, x.2.2.2.2.1, zv28, zq20, x.2.2.2.2.2.2.2.1, x.2.2.2.2.2.2.2.2.1, x.2.2.2.2.2.2.2.2.2.1, x.2.2.2.2.2.2.2.2.2.2) zq29 _ _ _ hzq29 hP hD hS (lv_sub hl [1, 3, 0] rfl) (fun H locs ls hP hD hS hl => ?_)
        refine lv_iload_n hx hb dX9_number_146 rfl (lv_at hl 0 rfl) ?_
        exact W.iret (v := zq29.1) hx hb hr (fun t ht hW => ⟨⟨_, _, rfl, pr1 (Option.some.inj hm), atH ht hP⟩, hS.F ht⟩) hS.2.2 dX9_number_147
  · replace hm := (if_neg zc1).symm.trans hm
    refine lv_bipush (v := 49) hx hb dX9_number_6 (by decide +kernel) ?_
    refine lv_goto (tgt := 13) hx hb dX9_number_8 (by decide) ?_
    refine lv_iload_n hx hb dX9_number_13 rfl (lv_at hl 2 rfl) ?_
    refine lv_bipush (v := 9) hx hb dX9_number_14 (by decide +kernel) ?_
    refine lv_icmp_ge (tgt := 26) hx hb dX9_number_16 (by decide) (fun zc30 => ?_) (fun zc30 => ?_)
    · replace hm := (if_pos zc30).symm.trans hm
      refine lv_bipush (v := 57) hx hb dX9_number_26 (by decide +kernel) ?_
      obtain ⟨zq31, hzq31, hm⟩ := bdk hm
      refine ko_e (va_runV (As := [.int 49, .int 57]) (rest := [.ref h0]) ⟨hx, hb, hml, hown, htG⟩ (kX9_isNext l g h0 h1 h2 h3 x 49 57 _ hzq31) (cwV 2 htG (GV g4_116 g4_118 gS_29 g1_10 g4_119) rfl rfl rfl hd_X9_isNext ⟨Nat.le_of_ble_eq_true rfl, Nat.le_of_ble_eq_true rfl⟩) (PR_VA hK hL hS hP (ci := 8) rfl 0 rfl) rfl rfl hl.1 rfl (lv_room (Nat.le_of_ble_eq_true rfl)) dX9_number_28 ⟨Nat.zero_le _, Nat.zero_le _⟩) ?_
      refine va_put (D := g.1) (ci := 8) (v := .int zq31) (ty := .boolean) (C := RX9) (T := TX9) (N := 11) hx hb htG in_wsX90 tyX9 tyX9_ok nmX9 hown hK.1 hP hD hS 0 rfl rfl 6 (by decide) (htG _ g3_201) (fun _ h9 => h9) rfl (by decide +kernel) (nar_b (b01_X9_isNext hzq31)) (fit_b (b01_X9_isNext hzq31)) (Nat.le_of_ble_eq_true rfl) dX9_number_31 (fun H locs hP hD hS => ?_)
      have hP : va_P g.1 vwCl (w_X9 g h0 h1 h2 h3 (x.1, x.2.1, x.2.2.1, x.2.2.2.1, x.2.2.2.2.1, x.2.2.2.2.2.1, zq31, x.2.2.2.2.2.2.2.1, x.2.2.2.2.2.2.2.2.1, x.2.2.2.2.2.2.2.2.2.1, x.2.2.2.2.2.2.2.2.2.2)) H := hP
      have hD : va_D A (w_X9 g h0 h1 h2 h3 (x.1, x.2.1, x.2.2.1, x.2.2.2.1, x.2.2.2.2.1, x.2.2.2.2.2.1, zq31, x.2.2.2.2.2.2.2.1, x.2.2.2.2.2.2.2.2.1, x.2.2.2.2.2.2.2.2.2.1, x.2.2.2.2.2.2.2.2.2.2)) := hD
      refine lv_aload_n hx hb dX9_number_34 rfl (lv_at hl 0 rfl) ?_
      refine va_get (D := g.1) (ci := 8) (v := .int zq31) (C := RX9) (T := TX9) (N := 11) hx hb htG in_wsX90 hown hK.1 hP 0 rfl rfl 6 (by decide) (htG _ g3_201) (fun _ h9 => h9) rfl dX9_number_35 ?_
      refine lv_if_eq (tgt := 56) hx hb dX9_number_38 (by decide) (fun zc32 => ?_) (fun zc32 => ?_)
      · replace hm := (if_pos zc32).symm.trans hm
        refine lv_iconst (v := 0) hx hb dX9_number_56 (by decide) ?_
        refine lv_istore_n (lv' := [(3, .int 0), (0, .ref h0), (1, .int p1), (2, .int p2)]) hx hb dX9_number_57 rfl hl (by decide) rfl (fun ls hl => ?_)
        refine lv_aload_n hx hb dX9_number_58 rfl (lv_at hl 1 rfl) ?_
        refine lv_dup hx hb dX9_number_59 rfl ?_
        refine va_get (D := g.1) (ci := 8) (v := .int x.2.2.2.2.2.1) (C := RX9) (T := TX9) (N := 11) hx hb htG in_wsX90 hown hK.1 hP 0 rfl rfl 5 (by decide) (htG _ g3_200) (fun _ h9 => h9) rfl dX9_number_60 ?_
        refine lv_aload_n hx hb dX9_number_63 rfl (lv_at hl 1 rfl) ?_
        refine va_get (D := g.1) (ci := 8) (v := .int zq31) (C := RX9) (T := TX9) (N := 11) hx hb htG in_wsX90 hown hK.1 hP 0 rfl rfl 6 (by decide) (htG _ g3_201) (fun _ h9 => h9) rfl dX9_number_64 ?_
        refine lv_if_eq (tgt := 74) hx hb dX9_number_67 (by decide) (fun _ => ?_) (fun zc33 => absurd zc32 zc33)
        refine lv_iconst (v := 0) hx hb dX9_number_74 (by decide) ?_
        refine lv_iadd hx hb dX9_number_75 ?_
        obtain ⟨zv34, ezv34, hm⟩ := bnk hm
        refine tope ezv34 ?_
        refine va_put (D := g.1) (ci := 8) (v := .int zv34) (ty := .int) (C := RX9) (T := TX9) (N := 11) hx hb htG in_wsX90 tyX9 tyX9_ok nmX9 hown hK.1 hP hD hS 0 rfl rfl 5 (by decide) (htG _ g3_200) (fun _ h9 => h9) rfl (by decide +kernel) rfl rfl (Nat.le_of_ble_eq_true rfl) dX9_number_76 (fun H locs hP hD hS => ?_)
        have hP : va_P g.1 vwCl (w_X9 g h0 h1 h2 h3 (x.1, x.2.1, x.2.2.1, x.2.2.2.1, x.2.2.2.2.1, zv34, zq31, x.2.2.2.2.2.2.2.1, x.2.2.2.2.2.2.2.2.1, x.2.2.2.2.2.2.2.2.2.1, x.2.2.2.2.2.2.2.2.2.2)) H := hP
        have hD : va_D A (w_X9 g h0 h1 h2 h3 (x.1, x.2.1, x.2.2.1, x.2.2.2.1, x.2.2.2.2.1, zv34, zq31, x.2.2.2.2.2.2.2.1, x.2.2.2.2.2.2.2.2.1, x.2.2.2.2.2.2.2.2.2.1, x.2.2.2.2.2.2.2.2.2.2)) := hD
        obtain ⟨zq35, hzq35, hm⟩ := bdk hm
        refine hL0 _ 1000 0 (x.1, x.2.1, x.2.2.1, x.2.2.2.1, x.2.2.2.2.1, zv34, zq31, x.2.2.2.2.2.2.2.1, x.2.2.2.2.2.2.2.2.1, x.2.2.2.2.2.2.2.2.2.1, x.2.2.2.2.2.2.2.2.2.2) zq35 _ _ _ hzq35 hP hD hS (lv_sub hl [1, 3, 0] rfl) (fun H locs ls hP hD hS hl => ?_)
        refine lv_iload_n hx hb dX9_number_146 rfl (lv_at hl 0 rfl) ?_
        exact W.iret (v := zq35.1) hx hb hr (fun t ht hW => ⟨⟨_, _, rfl, pr1 (Option.some.inj hm), atH ht hP⟩, hS.F ht⟩) hS.2.2 dX9_number_147
      · replace hm := (if_neg zc32).symm.trans hm
        refine lv_aload_n hx hb dX9_number_41 rfl (lv_at hl 0 rfl) ?_
        refine va_get (D := g.1) (ci := 8) (v := .ref h2) (C := RX9) (T := TX9) (N := 11) hx hb htG in_wsX90 hown hK.1 hP 0 rfl rfl 3 (by decide) (htG _ g3_198) (fun _ h9 => h9) rfl dX9_number_42 ?_
        refine lv_aload_n hx hb dX9_number_45 rfl (lv_at hl 0 rfl) ?_
        refine va_get (D := g.1) (ci := 8) (v := .int x.2.2.2.2.2.1) (C := RX9) (T := TX9) (N := 11) hx hb htG in_wsX90 hown hK.1 hP 0 rfl rfl 5 (by decide) (htG _ g3_200) (fun _ h9 => h9) rfl dX9_number_46 ?_
        obtain ⟨zb36, hm⟩ := ibk hm
        refine va_cald hx hb hK.1 hP 2 1 rfl rfl zb36 dX9_number_49 ?_
        refine lv_bipush (v := 48) hx hb dX9_number_50 (by decide +kernel) ?_
        refine lv_isub hx hb dX9_number_52 ?_
        refine lv_goto (tgt := 57) hx hb dX9_number_53 (by decide) ?_
        obtain ⟨zv37, ezv37, hm⟩ := bnk hm
        refine tope ezv37 ?_
        refine lv_istore_n (lv' := [(3, .int zv37), (0, .ref h0), (1, .int p1), (2, .int p2)]) hx hb dX9_number_57 rfl hl (by decide) rfl (fun ls hl => ?_)
        refine lv_aload_n hx hb dX9_number_58 rfl (lv_at hl 1 rfl) ?_
        refine lv_dup hx hb dX9_number_59 rfl ?_
        refine va_get (D := g.1) (ci := 8) (v := .int x.2.2.2.2.2.1) (C := RX9) (T := TX9) (N := 11) hx hb htG in_wsX90 hown hK.1 hP 0 rfl rfl 5 (by decide) (htG _ g3_200) (fun _ h9 => h9) rfl dX9_number_60 ?_
        refine lv_aload_n hx hb dX9_number_63 rfl (lv_at hl 1 rfl) ?_
        refine va_get (D := g.1) (ci := 8) (v := .int zq31) (C := RX9) (T := TX9) (N := 11) hx hb htG in_wsX90 hown hK.1 hP 0 rfl rfl 6 (by decide) (htG _ g3_201) (fun _ h9 => h9) rfl dX9_number_64 ?_
        refine lv_if_eq (tgt := 74) hx hb dX9_number_67 (by decide) (fun zc38 => absurd zc38 zc32) (fun _ => ?_)
        refine lv_iconst (v := 1) hx hb dX9_number_70 (by decide) ?_
        refine lv_goto (tgt := 75) hx hb dX9_number_71 (by decide) ?_
        refine lv_iadd hx hb dX9_number_75 ?_
        obtain ⟨zv39, ezv39, hm⟩ := bnk hm
        refine tope ezv39 ?_
        refine va_put (D := g.1) (ci := 8) (v := .int zv39) (ty := .int) (C := RX9) (T := TX9) (N := 11) hx hb htG in_wsX90 tyX9 tyX9_ok nmX9 hown hK.1 hP hD hS 0 rfl rfl 5 (by decide) (htG _ g3_200) (fun _ h9 => h9) rfl (by decide +kernel) rfl rfl (Nat.le_of_ble_eq_true rfl) dX9_number_76 (fun H locs hP hD hS => ?_)
        have hP : va_P g.1 vwCl (w_X9 g h0 h1 h2 h3 (x.1, x.2.1, x.2.2.1, x.2.2.2.1, x.2.2.2.2.1, zv39, zq31, x.2.2.2.2.2.2.2.1, x.2.2.2.2.2.2.2.2.1, x.2.2.2.2.2.2.2.2.2.1, x.2.2.2.2.2.2.2.2.2.2)) H := hP
        have hD : va_D A (w_X9 g h0 h1 h2 h3 (x.1, x.2.1, x.2.2.1, x.2.2.2.1, x.2.2.2.2.1, zv39, zq31, x.2.2.2.2.2.2.2.1, x.2.2.2.2.2.2.2.2.1, x.2.2.2.2.2.2.2.2.2.1, x.2.2.2.2.2.2.2.2.2.2)) := hD
        obtain ⟨zq40, hzq40, hm⟩ := bdk hm
        refine hL0 _ 1000 zv37 (x.1, x.2.1, x.2.2.1, x.2.2.2.1, x.2.2.2.2.1, zv39, zq31, x.2.2.2.2.2.2.2.1, x.2.2.2.2.2.2.2.2.1, x.2.2.2.2.2.2.2.2.2.1, x.2.2.2.2.2.2.2.2.2.2) zq40 _ _ _ hzq40 hP hD hS (lv_sub hl [1, 3, 0] rfl) (fun H locs ls hP hD hS hl => ?_)
        refine lv_iload_n hx hb dX9_number_146 rfl (lv_at hl 0 rfl) ?_
        exact W.iret (v := zq40.1) hx hb hr (fun t ht hW => ⟨⟨_, _, rfl, pr1 (Option.some.inj hm), atH ht hP⟩, hS.F ht⟩) hS.2.2 dX9_number_147
    · replace hm := (if_neg zc30).symm.trans hm
      refine lv_bipush (v := 48) hx hb dX9_number_19 (by decide +kernel) ?_
      refine lv_iload_n hx hb dX9_number_21 rfl (lv_at hl 2 rfl) ?_
      refine lv_iadd hx hb dX9_number_22 ?_
      refine lv_goto (tgt := 28) hx hb dX9_number_23 (by decide) ?_
      obtain ⟨zq41, hzq41, hm⟩ := bdk hm
      refine ko_e (va_runV (As := [.int 49, .int (48 + p2)]) (rest := [.ref h0]) ⟨hx, hb, hml, hown, htG⟩ (kX9_isNext l g h0 h1 h2 h3 x 49 (48 + p2) _ hzq41) (cwV 2 htG (GV g4_116 g4_118 gS_29 g1_10 g4_119) rfl rfl rfl hd_X9_isNext ⟨Nat.le_of_ble_eq_true rfl, Nat.le_of_ble_eq_true rfl⟩) (PR_VA hK hL hS hP (ci := 8) rfl 0 rfl) rfl rfl hl.1 rfl (lv_room (Nat.le_of_ble_eq_true rfl)) dX9_number_28 ⟨Nat.zero_le _, Nat.zero_le _⟩) ?_
      refine va_put (D := g.1) (ci := 8) (v := .int zq41) (ty := .boolean) (C := RX9) (T := TX9) (N := 11) hx hb htG in_wsX90 tyX9 tyX9_ok nmX9 hown hK.1 hP hD hS 0 rfl rfl 6 (by decide) (htG _ g3_201) (fun _ h9 => h9) rfl (by decide +kernel) (nar_b (b01_X9_isNext hzq41)) (fit_b (b01_X9_isNext hzq41)) (Nat.le_of_ble_eq_true rfl) dX9_number_31 (fun H locs hP hD hS => ?_)
      have hP : va_P g.1 vwCl (w_X9 g h0 h1 h2 h3 (x.1, x.2.1, x.2.2.1, x.2.2.2.1, x.2.2.2.2.1, x.2.2.2.2.2.1, zq41, x.2.2.2.2.2.2.2.1, x.2.2.2.2.2.2.2.2.1, x.2.2.2.2.2.2.2.2.2.1, x.2.2.2.2.2.2.2.2.2.2)) H := hP
      have hD : va_D A (w_X9 g h0 h1 h2 h3 (x.1, x.2.1, x.2.2.1, x.2.2.2.1, x.2.2.2.2.1, x.2.2.2.2.2.1, zq41, x.2.2.2.2.2.2.2.1, x.2.2.2.2.2.2.2.2.1, x.2.2.2.2.2.2.2.2.2.1, x.2.2.2.2.2.2.2.2.2.2)) := hD
      refine lv_aload_n hx hb dX9_number_34 rfl (lv_at hl 0 rfl) ?_
      refine va_get (D := g.1) (ci := 8) (v := .int zq41) (C := RX9) (T := TX9) (N := 11) hx hb htG in_wsX90 hown hK.1 hP 0 rfl rfl 6 (by decide) (htG _ g3_201) (fun _ h9 => h9) rfl dX9_number_35 ?_
      refine lv_if_eq (tgt := 56) hx hb dX9_number_38 (by decide) (fun zc42 => ?_) (fun zc42 => ?_)
      · replace hm := (if_pos zc42).symm.trans hm
        refine lv_iconst (v := 0) hx hb dX9_number_56 (by decide) ?_
        refine lv_istore_n (lv' := [(3, .int 0), (0, .ref h0), (1, .int p1), (2, .int p2)]) hx hb dX9_number_57 rfl hl (by decide) rfl (fun ls hl => ?_)
        refine lv_aload_n hx hb dX9_number_58 rfl (lv_at hl 1 rfl) ?_
        refine lv_dup hx hb dX9_number_59 rfl ?_
        refine va_get (D := g.1) (ci := 8) (v := .int x.2.2.2.2.2.1) (C := RX9) (T := TX9) (N := 11) hx hb htG in_wsX90 hown hK.1 hP 0 rfl rfl 5 (by decide) (htG _ g3_200) (fun _ h9 => h9) rfl dX9_number_60 ?_
        refine lv_aload_n hx hb dX9_number_63 rfl (lv_at hl 1 rfl) ?_
        refine va_get (D := g.1) (ci := 8) (v := .int zq41) (C := RX9) (T := TX9) (N := 11) hx hb htG in_wsX90 hown hK.1 hP 0 rfl rfl 6 (by decide) (htG _ g3_201) (fun _ h9 => h9) rfl dX9_number_64 ?_
        refine lv_if_eq (tgt := 74) hx hb dX9_number_67 (by decide) (fun _ => ?_) (fun zc43 => absurd zc42 zc43)
        refine lv_iconst (v := 0) hx hb dX9_number_74 (by decide) ?_
        refine lv_iadd hx hb dX9_number_75 ?_
        obtain ⟨zv44, ezv44, hm⟩ := bnk hm
        refine tope ezv44 ?_
        refine va_put (D := g.1) (ci := 8) (v := .int zv44) (ty := .int) (C := RX9) (T := TX9) (N := 11) hx hb htG in_wsX90 tyX9 tyX9_ok nmX9 hown hK.1 hP hD hS 0 rfl rfl 5 (by decide) (htG _ g3_200) (fun _ h9 => h9) rfl (by decide +kernel) rfl rfl (Nat.le_of_ble_eq_true rfl) dX9_number_76 (fun H locs hP hD hS => ?_)
        have hP : va_P g.1 vwCl (w_X9 g h0 h1 h2 h3 (x.1, x.2.1, x.2.2.1, x.2.2.2.1, x.2.2.2.2.1, zv44, zq41, x.2.2.2.2.2.2.2.1, x.2.2.2.2.2.2.2.2.1, x.2.2.2.2.2.2.2.2.2.1, x.2.2.2.2.2.2.2.2.2.2)) H := hP
        have hD : va_D A (w_X9 g h0 h1 h2 h3 (x.1, x.2.1, x.2.2.1, x.2.2.2.1, x.2.2.2.2.1, zv44, zq41, x.2.2.2.2.2.2.2.1, x.2.2.2.2.2.2.2.2.1, x.2.2.2.2.2.2.2.2.2.1, x.2.2.2.2.2.2.2.2.2.2)) := hD
        obtain ⟨zq45, hzq45, hm⟩ := bdk hm
        refine hL0 _ 1000 0 (x.1, x.2.1, x.2.2.1, x.2.2.2.1, x.2.2.2.2.1, zv44, zq41, x.2.2.2.2.2.2.2.1, x.2.2.2.2.2.2.2.2.1, x.2.2.2.2.2.2.2.2.2.1, x.2.2.2.2.2.2.2.2.2.2) zq45 _ _ _ hzq45 hP hD hS (lv_sub hl [1, 3, 0] rfl) (fun H locs ls hP hD hS hl => ?_)
        refine lv_iload_n hx hb dX9_number_146 rfl (lv_at hl 0 rfl) ?_
        exact W.iret (v := zq45.1) hx hb hr (fun t ht hW => ⟨⟨_, _, rfl, pr1 (Option.some.inj hm), atH ht hP⟩, hS.F ht⟩) hS.2.2 dX9_number_147
      · replace hm := (if_neg zc42).symm.trans hm
        refine lv_aload_n hx hb dX9_number_41 rfl (lv_at hl 0 rfl) ?_
        refine va_get (D := g.1) (ci := 8) (v := .ref h2) (C := RX9) (T := TX9) (N := 11) hx hb htG in_wsX90 hown hK.1 hP 0 rfl rfl 3 (by decide) (htG _ g3_198) (fun _ h9 => h9) rfl dX9_number_42 ?_
        refine lv_aload_n hx hb dX9_number_45 rfl (lv_at hl 0 rfl) ?_
        refine va_get (D := g.1) (ci := 8) (v := .int x.2.2.2.2.2.1) (C := RX9) (T := TX9) (N := 11) hx hb htG in_wsX90 hown hK.1 hP 0 rfl rfl 5 (by decide) (htG _ g3_200) (fun _ h9 => h9) rfl dX9_number_46 ?_
        obtain ⟨zb46, hm⟩ := ibk hm
        refine va_cald hx hb hK.1 hP 2 1 rfl rfl zb46 dX9_number_49 ?_
        refine lv_bipush (v := 48) hx hb dX9_number_50 (by decide +kernel) ?_
        refine lv_isub hx hb dX9_number_52 ?_
        refine lv_goto (tgt := 57) hx hb dX9_number_53 (by decide) ?_
        obtain ⟨zv47, ezv47, hm⟩ := bnk hm
        refine tope ezv47 ?_
        refine lv_istore_n (lv' := [(3, .int zv47), (0, .ref h0), (1, .int p1), (2, .int p2)]) hx hb dX9_number_57 rfl hl (by decide) rfl (fun ls hl => ?_)
        refine lv_aload_n hx hb dX9_number_58 rfl (lv_at hl 1 rfl) ?_
        refine lv_dup hx hb dX9_number_59 rfl ?_
        refine va_get (D := g.1) (ci := 8) (v := .int x.2.2.2.2.2.1) (C := RX9) (T := TX9) (N := 11) hx hb htG in_wsX90 hown hK.1 hP 0 rfl rfl 5 (by decide) (htG _ g3_200) (fun _ h9 => h9) rfl dX9_number_60 ?_
        refine lv_aload_n hx hb dX9_number_63 rfl (lv_at hl 1 rfl) ?_
        refine va_get (D := g.1) (ci := 8) (v := .int zq41) (C := RX9) (T := TX9) (N := 11) hx hb htG in_wsX90 hown hK.1 hP 0 rfl rfl 6 (by decide) (htG _ g3_201) (fun _ h9 => h9) rfl dX9_number_64 ?_
        refine lv_if_eq (tgt := 74) hx hb dX9_number_67 (by decide) (fun zc48 => absurd zc48 zc42) (fun _ => ?_)
        refine lv_iconst (v := 1) hx hb dX9_number_70 (by decide) ?_
        refine lv_goto (tgt := 75) hx hb dX9_number_71 (by decide) ?_
        refine lv_iadd hx hb dX9_number_75 ?_
        obtain ⟨zv49, ezv49, hm⟩ := bnk hm
        refine tope ezv49 ?_
        refine va_put (D := g.1) (ci := 8) (v := .int zv49) (ty := .int) (C := RX9) (T := TX9) (N := 11) hx hb htG in_wsX90 tyX9 tyX9_ok nmX9 hown hK.1 hP hD hS 0 rfl rfl 5 (by decide) (htG _ g3_200) (fun _ h9 => h9) rfl (by decide +kernel) rfl rfl (Nat.le_of_ble_eq_true rfl) dX9_number_76 (fun H locs hP hD hS => ?_)
        have hP : va_P g.1 vwCl (w_X9 g h0 h1 h2 h3 (x.1, x.2.1, x.2.2.1, x.2.2.2.1, x.2.2.2.2.1, zv49, zq41, x.2.2.2.2.2.2.2.1, x.2.2.2.2.2.2.2.2.1, x.2.2.2.2.2.2.2.2.2.1, x.2.2.2.2.2.2.2.2.2.2)) H := hP
        have hD : va_D A (w_X9 g h0 h1 h2 h3 (x.1, x.2.1, x.2.2.1, x.2.2.2.1, x.2.2.2.2.1, zv49, zq41, x.2.2.2.2.2.2.2.1, x.2.2.2.2.2.2.2.2.1, x.2.2.2.2.2.2.2.2.2.1, x.2.2.2.2.2.2.2.2.2.2)) := hD
        obtain ⟨zq50, hzq50, hm⟩ := bdk hm
        refine hL0 _ 1000 zv47 (x.1, x.2.1, x.2.2.1, x.2.2.2.1, x.2.2.2.2.1, zv49, zq41, x.2.2.2.2.2.2.2.1, x.2.2.2.2.2.2.2.2.1, x.2.2.2.2.2.2.2.2.2.1, x.2.2.2.2.2.2.2.2.2.2) zq50 _ _ _ hzq50 hP hD hS (lv_sub hl [1, 3, 0] rfl) (fun H locs ls hP hD hS hl => ?_)
        refine lv_iload_n hx hb dX9_number_146 rfl (lv_at hl 0 rfl) ?_
        exact W.iret (v := zq50.1) hx hb hr (fun t ht hW => ⟨⟨_, _, rfl, pr1 (Option.some.inj hm), atH ht hP⟩, hS.F ht⟩) hS.2.2 dX9_number_147
def fX9_reads (x : MD) : Option (MD) := (if x.2.2.2.2.2.2.1 = 0 then some (x.1, x.2.1, x.2.2.1, x.2.2.2.1, x.2.2.2.2.1, x.2.2.2.2.2.1, 0, x.2.2.2.2.2.2.2.1, x.2.2.2.2.2.2.2.2.1, x.2.2.2.2.2.2.2.2.2.1, x.2.2.2.2.2.2.2.2.2.2) else (if x.2.2.2.2.1 ≤ x.2.2.2.2.2.1 then some (x.1, x.2.1, x.2.2.1, x.2.2.2.1, x.2.2.2.2.1, x.2.2.2.2.2.1, 0, x.2.2.2.2.2.2.2.1, x.2.2.2.2.2.2.2.2.1, x.2.2.2.2.2.2.2.2.2.1, x.2.2.2.2.2.2.2.2.2.2) else (if ib x.2.2.2.2.2.1 80 = true then (bnd (x.2.2.2.1 x.2.2.2.2.2.1.toNatClampNeg) (fun zv12 => (if zv12 = 98 then (bnd (x.2.2.2.2.2.1 + 1) (fun zv16 => (if ib (6 * x.2.2.2.2.2.2.2.2.1) 246 = true then (bnd (upd x.2.2.2.2.2.2.2.1 (6 * x.2.2.2.2.2.2.2.2.1).toNatClampNeg zv12) (fun zf18 => ((fX9_number (x.1, x.2.1, x.2.2.1, x.2.2.2.1, x.2.2.2.2.1, zv16, 1, zf18, x.2.2.2.2.2.2.2.2.1, x.2.2.2.2.2.2.2.2.2.1, x.2.2.2.2.2.2.2.2.2.2) 0 5).bind (fun zq20 => (if ib ((6 * x.2.2.2.2.2.2.2.2.1) + 1) 246 = true then (bnd (upd zq20.2.2.2.2.2.2.2.2.1 ((6 * x.2.2.2.2.2.2.2.2.1) + 1).toNatClampNeg zq20.1) (fun zf22 => ((fX9_takes (zq20.2.1, zq20.2.2.1, zq20.2.2.2.1, zq20.2.2.2.2.1, zq20.2.2.2.2.2.1, zq20.2.2.2.2.2.2.1, zq20.2.2.2.2.2.2.2.1, zf22, zq20.2.2.2.2.2.2.2.2.2.1, zq20.2.2.2.2.2.2.2.2.2.2.1, zq20.2.2.2.2.2.2.2.2.2.2.2) 99).bind (fun zq23 => ((fX9_number zq23 0 2).bind (fun zq24 => (if ib ((6 * x.2.2.2.2.2.2.2.2.1) + 2) 246 = true then (bnd (upd zq24.2.2.2.2.2.2.2.2.1 ((6 * x.2.2.2.2.2.2.2.2.1) + 2).toNatClampNeg zq24.1) (fun zf26 => ((fX9_takes (zq24.2.1, zq24.2.2.1, zq24.2.2.2.1, zq24.2.2.2.2.1, zq24.2.2.2.2.2.1, zq24.2.2.2.2.2.2.1, zq24.2.2.2.2.2.2.2.1, zf26, zq24.2.2.2.2.2.2.2.2.2.1, zq24.2.2.2.2.2.2.2.2.2.2.1, zq24.2.2.2.2.2.2.2.2.2.2.2) 104).bind (fun zq27 => ((fX9_number zq27 0 15).bind (fun zq28 => (if ib ((6 * x.2.2.2.2.2.2.2.2.1) + 3) 246 = true then (bnd (upd zq28.2.2.2.2.2.2.2.2.1 ((6 * x.2.2.2.2.2.2.2.2.1) + 3).toNatClampNeg zq28.1) (fun zf30 => ((fX9_takes (zq28.2.1, zq28.2.2.1, zq28.2.2.2.1, zq28.2.2.2.2.1, zq28.2.2.2.2.2.1, zq28.2.2.2.2.2.2.1, zq28.2.2.2.2.2.2.2.1, zf30, zq28.2.2.2.2.2.2.2.2.2.1, zq28.2.2.2.2.2.2.2.2.2.2.1, zq28.2.2.2.2.2.2.2.2.2.2.2) 119).bind (fun zq31 => ((fX9_number zq31 1 60).bind (fun zq32 => (if ib ((6 * x.2.2.2.2.2.2.2.2.1) + 4) 246 = true then (bnd (upd zq32.2.2.2.2.2.2.2.2.1 ((6 * x.2.2.2.2.2.2.2.2.1) + 4).toNatClampNeg zq32.1) (fun zf34 => ((fX9_takes (zq32.2.1, zq32.2.2.1, zq32.2.2.2.1, zq32.2.2.2.2.1, zq32.2.2.2.2.2.1, zq32.2.2.2.2.2.2.1, zq32.2.2.2.2.2.2.2.1, zf34, zq32.2.2.2.2.2.2.2.2.2.1, zq32.2.2.2.2.2.2.2.2.2.2.1, zq32.2.2.2.2.2.2.2.2.2.2.2) 61).bind (fun zq35 => ((fX9_number zq35 1 999).bind (fun zq36 => (if ib ((6 * x.2.2.2.2.2.2.2.2.1) + 5) 246 = true then (bnd (upd zq36.2.2.2.2.2.2.2.2.1 ((6 * x.2.2.2.2.2.2.2.2.1) + 5).toNatClampNeg zq36.1) (fun zf38 => (bnd (zq36.2.2.2.2.2.2.2.2.2.1 + 1) (fun zv39 => some (zq36.2.1, zq36.2.2.1, zq36.2.2.2.1, zq36.2.2.2.2.1, zq36.2.2.2.2.2.1, zq36.2.2.2.2.2.2.1, zq36.2.2.2.2.2.2.2.1, zf38, zv39, zq36.2.2.2.2.2.2.2.2.2.2.1, zq36.2.2.2.2.2.2.2.2.2.2.2))))) else none))))))) else none))))))) else none))))))) else none))))))) else none))))) else none))) else (if zv12 = 101 then (bnd (x.2.2.2.2.2.1 + 1) (fun zv42 => (if ib (6 * x.2.2.2.2.2.2.2.2.1) 246 = true then (bnd (upd x.2.2.2.2.2.2.2.1 (6 * x.2.2.2.2.2.2.2.2.1).toNatClampNeg zv12) (fun zf44 => ((fX9_number (x.1, x.2.1, x.2.2.1, x.2.2.2.1, x.2.2.2.2.1, zv42, 1, zf44, x.2.2.2.2.2.2.2.2.1, x.2.2.2.2.2.2.2.2.2.1, x.2.2.2.2.2.2.2.2.2.2) 0 15).bind (fun zq47 => (if ib ((6 * x.2.2.2.2.2.2.2.2.1) + 1) 246 = true then (bnd (upd zq47.2.2.2.2.2.2.2.2.1 ((6 * x.2.2.2.2.2.2.2.2.1) + 1).toNatClampNeg zq47.1) (fun zf49 => ((fX9_takes (zq47.2.1, zq47.2.2.1, zq47.2.2.2.1, zq47.2.2.2.2.1, zq47.2.2.2.2.2.1, zq47.2.2.2.2.2.2.1, zq47.2.2.2.2.2.2.2.1, zf49, zq47.2.2.2.2.2.2.2.2.2.1, zq47.2.2.2.2.2.2.2.2.2.2.1, zq47.2.2.2.2.2.2.2.2.2.2.2) 58).bind (fun zq50 => ((fX9_number zq50 0 99).bind (fun zq51 => (if ib ((6 * x.2.2.2.2.2.2.2.2.1) + 2) 246 = true then (bnd (upd zq51.2.2.2.2.2.2.2.2.1 ((6 * x.2.2.2.2.2.2.2.2.1) + 2).toNatClampNeg zq51.1) (fun zf53 => (bnd (zq51.2.2.2.2.2.2.2.2.2.1 + 1) (fun zv54 => some (zq51.2.1, zq51.2.2.1, zq51.2.2.2.1, zq51.2.2.2.2.1, zq51.2.2.2.2.2.1, zq51.2.2.2.2.2.2.1, zq51.2.2.2.2.2.2.2.1, zf53, zv54, zq51.2.2.2.2.2.2.2.2.2.2.1, zq51.2.2.2.2.2.2.2.2.2.2.2))))) else none))))))) else none))))) else none))) else (if zv12 = 100 then (bnd (x.2.2.2.2.2.1 + 1) (fun zv57 => (if ib (6 * x.2.2.2.2.2.2.2.2.1) 246 = true then (bnd (upd x.2.2.2.2.2.2.2.1 (6 * x.2.2.2.2.2.2.2.2.1).toNatClampNeg zv12) (fun zf59 => ((fX9_number (x.1, x.2.1, x.2.2.1, x.2.2.2.1, x.2.2.2.2.1, zv57, 1, zf59, x.2.2.2.2.2.2.2.2.1, x.2.2.2.2.2.2.2.2.2.1, x.2.2.2.2.2.2.2.2.2.2) 0 99).bind (fun zq63 => (if ib ((6 * x.2.2.2.2.2.2.2.2.1) + 1) 246 = true then (bnd (upd zq63.2.2.2.2.2.2.2.2.1 ((6 * x.2.2.2.2.2.2.2.2.1) + 1).toNatClampNeg zq63.1) (fun zf65 => (bnd (zq63.2.2.2.2.2.2.2.2.2.1 + 1) (fun zv66 => some (zq63.2.1, zq63.2.2.1, zq63.2.2.2.1, zq63.2.2.2.2.1, zq63.2.2.2.2.2.1, zq63.2.2.2.2.2.2.1, zq63.2.2.2.2.2.2.2.1, zf65, zv66, zq63.2.2.2.2.2.2.2.2.2.2.1, zq63.2.2.2.2.2.2.2.2.2.2.2))))) else none))))) else none))) else (if zv12 = 110 then (bnd (x.2.2.2.2.2.1 + 1) (fun zv70 => (if ib (6 * x.2.2.2.2.2.2.2.2.1) 246 = true then (bnd (upd x.2.2.2.2.2.2.2.1 (6 * x.2.2.2.2.2.2.2.2.1).toNatClampNeg zv12) (fun zf72 => (bnd (x.2.2.2.2.2.2.2.2.1 + 1) (fun zv76 => some (x.1, x.2.1, x.2.2.1, x.2.2.2.1, x.2.2.2.2.1, zv70, 1, zf72, zv76, x.2.2.2.2.2.2.2.2.2.1, x.2.2.2.2.2.2.2.2.2.2))))) else none))) else some (x.1, x.2.1, x.2.2.1, x.2.2.2.1, x.2.2.2.2.1, x.2.2.2.2.2.1, 0, x.2.2.2.2.2.2.2.1, x.2.2.2.2.2.2.2.2.1, x.2.2.2.2.2.2.2.2.2.1, x.2.2.2.2.2.2.2.2.2.2))))))) else none)))
abbrev rm_X9_reads : Jvm.Room := { frames := 3, cells := 0, slots := 0, locals := 67 }
theorem hd_X9_reads : yX9_reads.cls = RX9 ∧ yX9_reads.cls ≠ "java/lang/invoke/MethodHandle" ∧ yX9_reads.cls ≠ "java/lang/invoke/VarHandle" ∧ (parseMethodDescriptor yX9_reads.desc).map (fun d => d.parameters.length) = some 0 := by decide +kernel
set_option maxHeartbeats 4000000 in
set_option maxRecDepth 100000 in
theorem kX9_reads (l : Launch) (g : CX) (h0 h1 h2 h3 : Nat) (sz : Nat) (x : MD) (res : MD) (hm0 : fX9_reads x = some res) : Met l yX9_reads (wg yX9_reads cX9_reads 3 none) rm_X9_reads (PW g [.ref h0] sz (w_X9 g h0 h1 h2 h3 x)) (va_Qv (fun u => u = res) (fun u t => va_P g.1 vwCl (w_X9 g h0 h1 h2 h3 u) t.heap) (va_A (w_X9 g h0 h1 h2 h3 x) sz)) 0 0 (va_A (w_X9 g h0 h1 h2 h3 x) sz) := by
  refine Met.ofW (cc := cX9_reads) (maxL := 3) (ret := none) (by decide) rfl ?_
  intro p e s m args below meth c s₁ B hml hv
  obtain ⟨rfl, hsz, hP, hK, hD0, hL⟩ := hv
  have hx := B.exec
  have hb := B.bytes
  have hr := B.returns
  have htG := wg_G (atoms_spec (ws := wg yX9_reads cX9_reads 3 none) B.pre)
  have hown : s.vm.findClass RX9 = some m.cls := findClass_of_methodNamed B.named
  have hlocks := B.notSynchronized
  subst hsz
  have hD := hD0.self (sz := s.heap.size)
  generalize hAe : va_A (w_X9 g h0 h1 h2 h3 x) s.heap.size = A at hD hL ⊢
  have hA : ∀ q : Nat, s.heap.size ≤ q → A q := fun q h => by rw [← hAe]; exact Or.inr h
  have hS : va_S A s.heap s.heap [] := va_S.rf
  have hl := lv_entry ([.ref h0]) (n := 3) (Nat.le_of_ble_eq_true rfl)
  rw [lg_entry_eq]
  generalize (lg_sl ([.ref h0]) ++ List.replicate (3 - (lg_sl ([.ref h0])).length) Slot.unset).toArray = ls at hl ⊢
  have hl : lv_has ls 3 [(0, .ref h0)] := hl
  have hm := hm0
  unfold fX9_reads at hm
  refine lv_bipush (v := 6) hx hb dX9_reads_0 (by decide +kernel) ?_
  refine lv_aload_n hx hb dX9_reads_2 rfl (lv_at hl 0 rfl) ?_
  refine va_get (D := g.1) (ci := 8) (v := .int x.2.2.2.2.2.2.2.2.1) (C := RX9) (T := TX9) (N := 11) hx hb htG in_wsX90 hown hK.1 hP 0 rfl rfl 8 (by decide) (htG _ g3_203) (fun _ h9 => h9) rfl dX9_reads_3 ?_
  refine lv_imul hx hb dX9_reads_6 ?_
  refine lv_istore_n (lv' := [(1, .int (6 * x.2.2.2.2.2.2.2.2.1)), (0, .ref h0)]) hx hb dX9_reads_7 rfl hl (by decide) rfl (fun ls hl => ?_)
  refine lv_aload_n hx hb dX9_reads_8 rfl (lv_at hl 1 rfl) ?_
  refine va_get (D := g.1) (ci := 8) (v := .int x.2.2.2.2.2.2.1) (C := RX9) (T := TX9) (N := 11) hx hb htG in_wsX90 hown hK.1 hP 0 rfl rfl 6 (by decide) (htG _ g3_201) (fun _ h9 => h9) rfl dX9_reads_9 ?_
  refine lv_if_eq (tgt := 38) hx hb dX9_reads_12 (by decide) (fun zc1 => ?_) (fun zc1 => ?_)
  · replace hm := (if_pos zc1).symm.trans hm
    refine lv_iconst (v := 0) hx hb dX9_reads_38 (by decide) ?_
    refine lv_istore_n (lv' := [(2, .int 0), (1, .int (6 * x.2.2.2.2.2.2.2.2.1)), (0, .ref h0)]) hx hb dX9_reads_39 rfl hl (by decide) rfl (fun ls hl => ?_)
    refine lv_aload_n hx hb dX9_reads_40 rfl (lv_at hl 2 rfl) ?_
    refine lv_aload_n hx hb dX9_reads_41 rfl (lv_at hl 2 rfl) ?_
    refine va_get (D := g.1) (ci := 8) (v := .int x.2.2.2.2.2.2.1) (C := RX9) (T := TX9) (N := 11) hx hb htG in_wsX90 hown hK.1 hP 0 rfl rfl 6 (by decide) (htG _ g3_201) (fun _ h9 => h9) rfl dX9_reads_42 ?_
    refine lv_if_eq (tgt := 76) hx hb dX9_reads_45 (by decide) (fun _ => ?_) (fun zc2 => absurd zc1 zc2)
    refine lv_iconst (v := 0) hx hb dX9_reads_76 (by decide) ?_
    refine va_put (D := g.1) (ci := 8) (v := .int 0) (ty := .boolean) (C := RX9) (T := TX9) (N := 11) hx hb htG in_wsX90 tyX9 tyX9_ok nmX9 hown hK.1 hP hD hS 0 rfl rfl 6 (by decide) (htG _ g3_201) (fun _ h9 => h9) rfl (by decide +kernel) rfl rfl (Nat.le_of_ble_eq_true rfl) dX9_reads_77 (fun H locs hP hD hS => ?_)
    have hP : va_P g.1 vwCl (w_X9 g h0 h1 h2 h3 (x.1, x.2.1, x.2.2.1, x.2.2.2.1, x.2.2.2.2.1, x.2.2.2.2.2.1, 0, x.2.2.2.2.2.2.2.1, x.2.2.2.2.2.2.2.2.1, x.2.2.2.2.2.2.2.2.2.1, x.2.2.2.2.2.2.2.2.2.2)) H := hP
    have hD : va_D A (w_X9 g h0 h1 h2 h3 (x.1, x.2.1, x.2.2.1, x.2.2.2.1, x.2.2.2.2.1, x.2.2.2.2.2.1, 0, x.2.2.2.2.2.2.2.1, x.2.2.2.2.2.2.2.2.1, x.2.2.2.2.2.2.2.2.2.1, x.2.2.2.2.2.2.2.2.2.2)) := hD
    refine lv_aload_n hx hb dX9_reads_80 rfl (lv_at hl 2 rfl) ?_
    refine va_get (D := g.1) (ci := 8) (v := .int 0) (C := RX9) (T := TX9) (N := 11) hx hb htG in_wsX90 hown hK.1 hP 0 rfl rfl 6 (by decide) (htG _ g3_201) (fun _ h9 => h9) rfl dX9_reads_81 ?_
    refine lv_if_ne (tgt := 88) hx hb dX9_reads_84 (by decide) (fun zc3 => absurd zc3 (by decide)) (fun _ => ?_)
    exact W.vret hx hb hr (fun t ht hW => ⟨⟨_, rfl, (Option.some.inj hm), atH ht hP⟩, hS.F ht⟩) hS.2.2 dX9_reads_87
  · replace hm := (if_neg zc1).symm.trans hm
    refine lv_aload_n hx hb dX9_reads_15 rfl (lv_at hl 1 rfl) ?_
    refine va_get (D := g.1) (ci := 8) (v := .int x.2.2.2.2.2.1) (C := RX9) (T := TX9) (N := 11) hx hb htG in_wsX90 hown hK.1 hP 0 rfl rfl 5 (by decide) (htG _ g3_200) (fun _ h9 => h9) rfl dX9_reads_16 ?_
    refine lv_aload_n hx hb dX9_reads_19 rfl (lv_at hl 1 rfl) ?_
    refine va_get (D := g.1) (ci := 8) (v := .int x.2.2.2.2.1) (C := RX9) (T := TX9) (N := 11) hx hb htG in_wsX90 hown hK.1 hP 0 rfl rfl 4 (by decide) (htG _ g3_199) (fun _ h9 => h9) rfl dX9_reads_20 ?_
    refine lv_icmp_ge (tgt := 38) hx hb dX9_reads_23 (by decide) (fun zc4 => ?_) (fun zc4 => ?_)
    · replace hm := (if_pos zc4).symm.trans hm
      refine lv_iconst (v := 0) hx hb dX9_reads_38 (by decide) ?_
      refine lv_istore_n (lv' := [(2, .int 0), (1, .int (6 * x.2.2.2.2.2.2.2.2.1)), (0, .ref h0)]) hx hb dX9_reads_39 rfl hl (by decide) rfl (fun ls hl => ?_)
      refine lv_aload_n hx hb dX9_reads_40 rfl (lv_at hl 2 rfl) ?_
      refine lv_aload_n hx hb dX9_reads_41 rfl (lv_at hl 2 rfl) ?_
      refine va_get (D := g.1) (ci := 8) (v := .int x.2.2.2.2.2.2.1) (C := RX9) (T := TX9) (N := 11) hx hb htG in_wsX90 hown hK.1 hP 0 rfl rfl 6 (by decide) (htG _ g3_201) (fun _ h9 => h9) rfl dX9_reads_42 ?_
      refine lv_if_eq (tgt := 76) hx hb dX9_reads_45 (by decide) (fun zc5 => absurd zc5 zc1) (fun _ => ?_)
      refine lv_iload_n hx hb dX9_reads_48 rfl (lv_at hl 0 rfl) ?_
      refine lv_bipush (v := 98) hx hb dX9_reads_49 (by decide +kernel) ?_
      refine lv_icmp_eq (tgt := 72) hx hb dX9_reads_51 (by decide) (fun zc6 => absurd zc6 (by decide)) (fun _ => ?_)
      refine lv_iload_n hx hb dX9_reads_54 rfl (lv_at hl 0 rfl) ?_
      refine lv_bipush (v := 101) hx hb dX9_reads_55 (by decide +kernel) ?_
      refine lv_icmp_eq (tgt := 72) hx hb dX9_reads_57 (by decide) (fun zc7 => absurd zc7 (by decide)) (fun _ => ?_)
      refine lv_iload_n hx hb dX9_reads_60 rfl (lv_at hl 0 rfl) ?_
      refine lv_bipush (v := 100) hx hb dX9_reads_61 (by decide +kernel) ?_
      refine lv_icmp_eq (tgt := 72) hx hb dX9_reads_63 (by decide) (fun zc8 => absurd zc8 (by decide)) (fun _ => ?_)
      refine lv_iload_n hx hb dX9_reads_66 rfl (lv_at hl 0 rfl) ?_
      refine lv_bipush (v := 110) hx hb dX9_reads_67 (by decide +kernel) ?_
      refine lv_icmp_ne (tgt := 76) hx hb dX9_reads_69 (by decide) (fun _ => ?_) (fun zc9 => absurd zc9 (by decide))
      refine lv_iconst (v := 0) hx hb dX9_reads_76 (by decide) ?_
      refine va_put (D := g.1) (ci := 8) (v := .int 0) (ty := .boolean) (C := RX9) (T := TX9) (N := 11) hx hb htG in_wsX90 tyX9 tyX9_ok nmX9 hown hK.1 hP hD hS 0 rfl rfl 6 (by decide) (htG _ g3_201) (fun _ h9 => h9) rfl (by decide +kernel) rfl rfl (Nat.le_of_ble_eq_true rfl) dX9_reads_77 (fun H locs hP hD hS => ?_)
      have hP : va_P g.1 vwCl (w_X9 g h0 h1 h2 h3 (x.1, x.2.1, x.2.2.1, x.2.2.2.1, x.2.2.2.2.1, x.2.2.2.2.2.1, 0, x.2.2.2.2.2.2.2.1, x.2.2.2.2.2.2.2.2.1, x.2.2.2.2.2.2.2.2.2.1, x.2.2.2.2.2.2.2.2.2.2)) H := hP
      have hD : va_D A (w_X9 g h0 h1 h2 h3 (x.1, x.2.1, x.2.2.1, x.2.2.2.1, x.2.2.2.2.1, x.2.2.2.2.2.1, 0, x.2.2.2.2.2.2.2.1, x.2.2.2.2.2.2.2.2.1, x.2.2.2.2.2.2.2.2.2.1, x.2.2.2.2.2.2.2.2.2.2)) := hD
      refine lv_aload_n hx hb dX9_reads_80 rfl (lv_at hl 2 rfl) ?_
      refine va_get (D := g.1) (ci := 8) (v := .int 0) (C := RX9) (T := TX9) (N := 11) hx hb htG in_wsX90 hown hK.1 hP 0 rfl rfl 6 (by decide) (htG _ g3_201) (fun _ h9 => h9) rfl dX9_reads_81 ?_
      refine lv_if_ne (tgt := 88) hx hb dX9_reads_84 (by decide) (fun zc10 => absurd zc10 (by decide)) (fun _ => ?_)
      exact W.vret hx hb hr (fun t ht hW => ⟨⟨_, rfl, (Option.some.inj hm), atH ht hP⟩, hS.F ht⟩) hS.2.2 dX9_reads_87
    · replace hm := (if_neg zc4).symm.trans hm
      refine lv_aload_n hx hb dX9_reads_26 rfl (lv_at hl 1 rfl) ?_
      refine va_get (D := g.1) (ci := 8) (v := .ref h2) (C := RX9) (T := TX9) (N := 11) hx hb htG in_wsX90 hown hK.1 hP 0 rfl rfl 3 (by decide) (htG _ g3_198) (fun _ h9 => h9) rfl dX9_reads_27 ?_
      refine lv_aload_n hx hb dX9_reads_30 rfl (lv_at hl 1 rfl) ?_
      refine va_get (D := g.1) (ci := 8) (v := .int x.2.2.2.2.2.1) (C := RX9) (T := TX9) (N := 11) hx hb htG in_wsX90 hown hK.1 hP 0 rfl rfl 5 (by decide) (htG _ g3_200) (fun _ h9 => h9) rfl dX9_reads_31 ?_
      obtain ⟨zb11, hm⟩ := ibk hm
      refine va_cald hx hb hK.1 hP 2 1 rfl rfl zb11 dX9_reads_34 ?_
      refine lv_goto (tgt := 39) hx hb dX9_reads_35 (by decide) ?_
      obtain ⟨zv12, ezv12, hm⟩ := bnk hm
      refine tope ezv12 ?_
      refine lv_istore_n (lv' := [(2, .int zv12), (1, .int (6 * x.2.2.2.2.2.2.2.2.1)), (0, .ref h0)]) hx hb dX9_reads_39 rfl hl (by decide) rfl (fun ls hl => ?_)
      refine lv_aload_n hx hb dX9_reads_40 rfl (lv_at hl 2 rfl) ?_
      refine lv_aload_n hx hb dX9_reads_41 rfl (lv_at hl 2 rfl) ?_
      refine va_get (D := g.1) (ci := 8) (v := .int x.2.2.2.2.2.2.1) (C := RX9) (T := TX9) (N := 11) hx hb htG in_wsX90 hown hK.1 hP 0 rfl rfl 6 (by decide) (htG _ g3_201) (fun _ h9 => h9) rfl dX9_reads_42 ?_
      refine lv_if_eq (tgt := 76) hx hb dX9_reads_45 (by decide) (fun zc13 => absurd zc13 zc1) (fun _ => ?_)
      refine lv_iload_n hx hb dX9_reads_48 rfl (lv_at hl 0 rfl) ?_
      refine lv_bipush (v := 98) hx hb dX9_reads_49 (by decide +kernel) ?_
      refine lv_icmp_eq (tgt := 72) hx hb dX9_reads_51 (by decide) (fun zc14 => ?_) (fun zc14 => ?_)
      · replace hm := (if_pos zc14).symm.trans hm
        refine lv_iconst (v := 1) hx hb dX9_reads_72 (by decide) ?_
        refine lv_goto (tgt := 77) hx hb dX9_reads_73 (by decide) ?_
        refine va_put (D := g.1) (ci := 8) (v := .int 1) (ty := .boolean) (C := RX9) (T := TX9) (N := 11) hx hb htG in_wsX90 tyX9 tyX9_ok nmX9 hown hK.1 hP hD hS 0 rfl rfl 6 (by decide) (htG _ g3_201) (fun _ h9 => h9) rfl (by decide +kernel) rfl rfl (Nat.le_of_ble_eq_true rfl) dX9_reads_77 (fun H locs hP hD hS => ?_)
        have hP : va_P g.1 vwCl (w_X9 g h0 h1 h2 h3 (x.1, x.2.1, x.2.2.1, x.2.2.2.1, x.2.2.2.2.1, x.2.2.2.2.2.1, 1, x.2.2.2.2.2.2.2.1, x.2.2.2.2.2.2.2.2.1, x.2.2.2.2.2.2.2.2.2.1, x.2.2.2.2.2.2.2.2.2.2)) H := hP
        have hD : va_D A (w_X9 g h0 h1 h2 h3 (x.1, x.2.1, x.2.2.1, x.2.2.2.1, x.2.2.2.2.1, x.2.2.2.2.2.1, 1, x.2.2.2.2.2.2.2.1, x.2.2.2.2.2.2.2.2.1, x.2.2.2.2.2.2.2.2.2.1, x.2.2.2.2.2.2.2.2.2.2)) := hD
        refine lv_aload_n hx hb dX9_reads_80 rfl (lv_at hl 2 rfl) ?_
        refine va_get (D := g.1) (ci := 8) (v := .int 1) (C := RX9) (T := TX9) (N := 11) hx hb htG in_wsX90 hown hK.1 hP 0 rfl rfl 6 (by decide) (htG _ g3_201) (fun _ h9 => h9) rfl dX9_reads_81 ?_
        refine lv_if_ne (tgt := 88) hx hb dX9_reads_84 (by decide) (fun _ => ?_) (fun zc15 => absurd zc15 (by decide))
        refine lv_aload_n hx hb dX9_reads_88 rfl (lv_at hl 2 rfl) ?_
        refine lv_dup hx hb dX9_reads_89 rfl ?_
        refine va_get (D := g.1) (ci := 8) (v := .int x.2.2.2.2.2.1) (C := RX9) (T := TX9) (N := 11) hx hb htG in_wsX90 hown hK.1 hP 0 rfl rfl 5 (by decide) (htG _ g3_200) (fun _ h9 => h9) rfl dX9_reads_90 ?_
        refine lv_iconst (v := 1) hx hb dX9_reads_93 (by decide) ?_
        refine lv_iadd hx hb dX9_reads_94 ?_
        obtain ⟨zv16, ezv16, hm⟩ := bnk hm
        refine tope ezv16 ?_
        refine va_put (D := g.1) (ci := 8) (v := .int zv16) (ty := .int) (C := RX9) (T := TX9) (N := 11) hx hb htG in_wsX90 tyX9 tyX9_ok nmX9 hown hK.1 hP hD hS 0 rfl rfl 5 (by decide) (htG _ g3_200) (fun _ h9 => h9) rfl (by decide +kernel) rfl rfl (Nat.le_of_ble_eq_true rfl) dX9_reads_95 (fun H locs hP hD hS => ?_)
        have hP : va_P g.1 vwCl (w_X9 g h0 h1 h2 h3 (x.1, x.2.1, x.2.2.1, x.2.2.2.1, x.2.2.2.2.1, zv16, 1, x.2.2.2.2.2.2.2.1, x.2.2.2.2.2.2.2.2.1, x.2.2.2.2.2.2.2.2.2.1, x.2.2.2.2.2.2.2.2.2.2)) H := hP
        have hD : va_D A (w_X9 g h0 h1 h2 h3 (x.1, x.2.1, x.2.2.1, x.2.2.2.1, x.2.2.2.2.1, zv16, 1, x.2.2.2.2.2.2.2.1, x.2.2.2.2.2.2.2.2.1, x.2.2.2.2.2.2.2.2.2.1, x.2.2.2.2.2.2.2.2.2.2)) := hD
        refine lv_aload_n hx hb dX9_reads_98 rfl (lv_at hl 2 rfl) ?_
        refine va_get (D := g.1) (ci := 8) (v := .ref h3) (C := RX9) (T := TX9) (N := 11) hx hb htG in_wsX90 hown hK.1 hP 0 rfl rfl 7 (by decide) (htG _ g3_202) (fun _ h9 => h9) rfl dX9_reads_99 ?_
        refine lv_iload_n hx hb dX9_reads_102 rfl (lv_at hl 1 rfl) ?_
        refine lv_iload_n hx hb dX9_reads_103 rfl (lv_at hl 0 rfl) ?_
        obtain ⟨zb17, hm⟩ := ibk hm
        obtain ⟨zf18, ezf18, hm⟩ := bnk hm
        refine iast_e hx hb hK.1 hP hD hS 3 0 rfl rfl zb17 dX9_reads_104 ezf18 (fun H locs hP hD hS => ?_)
        have hP : va_P g.1 vwCl (w_X9 g h0 h1 h2 h3 (x.1, x.2.1, x.2.2.1, x.2.2.2.1, x.2.2.2.2.1, zv16, 1, zf18, x.2.2.2.2.2.2.2.2.1, x.2.2.2.2.2.2.2.2.2.1, x.2.2.2.2.2.2.2.2.2.2)) H := hP
        have hD : va_D A (w_X9 g h0 h1 h2 h3 (x.1, x.2.1, x.2.2.1, x.2.2.2.1, x.2.2.2.2.1, zv16, 1, zf18, x.2.2.2.2.2.2.2.2.1, x.2.2.2.2.2.2.2.2.2.1, x.2.2.2.2.2.2.2.2.2.2)) := hD
        refine lv_iload_n hx hb dX9_reads_105 rfl (lv_at hl 0 rfl) ?_
        refine lv_bipush (v := 98) hx hb dX9_reads_106 (by decide +kernel) ?_
        refine lv_icmp_ne (tgt := 212) hx hb dX9_reads_108 (by decide) (fun zc19 => absurd zc14 zc19) (fun _ => ?_)
        refine lv_aload_n hx hb dX9_reads_111 rfl (lv_at hl 2 rfl) ?_
        refine va_get (D := g.1) (ci := 8) (v := .ref h3) (C := RX9) (T := TX9) (N := 11) hx hb htG in_wsX90 hown hK.1 hP 0 rfl rfl 7 (by decide) (htG _ g3_202) (fun _ h9 => h9) rfl dX9_reads_112 ?_
        refine lv_iload_n hx hb dX9_reads_115 rfl (lv_at hl 1 rfl) ?_
        refine lv_iconst (v := 1) hx hb dX9_reads_116 (by decide) ?_
        refine lv_iadd hx hb dX9_reads_117 ?_
        refine lv_aload_n hx hb dX9_reads_118 rfl (lv_at hl 2 rfl) ?_
        refine lv_iconst (v := 0) hx hb dX9_reads_119 (by decide) ?_
        refine lv_iconst (v := 5) hx hb dX9_reads_120 (by decide) ?_
        obtain ⟨zq20, hzq20, hm⟩ := bdk hm
        refine kw_ieA (va_runV (As := [.int 0, .int 5]) (rest := [.int ((6 * x.2.2.2.2.2.2.2.2.1) + 1), .ref h3]) ⟨hx, hb, hml, hown, htG⟩ (kX9_number l g h0 h1 h2 h3 _ (x.1, x.2.1, x.2.2.1, x.2.2.2.1, x.2.2.2.2.1, zv16, 1, zf18, x.2.2.2.2.2.2.2.2.1, x.2.2.2.2.2.2.2.2.2.1, x.2.2.2.2.2.2.2.2.2.2) 0 5 _ hzq20) (cwV 2 htG (GV g4_112 g4_114 gS_28 g1_10 g4_115) rfl rfl rfl hd_X9_number ⟨Nat.le_of_ble_eq_true rfl, Nat.le_of_ble_eq_true rfl⟩) (PW_VA hK hL hS hP hD hA (ci := 8) rfl 0 rfl) rfl rfl hl.1 rfl (lv_room (Nat.le_of_ble_eq_true rfl)) dX9_reads_121 ⟨Nat.zero_le _, Nat.zero_le _⟩) hD hS hA (fun _ => rfl) (fun H locs hP hD hS => ?_)
        have hP : va_P g.1 vwCl (w_X9 g h0 h1 h2 h3 zq20.2) H := hP
        have hD : va_D A (w_X9 g h0 h1 h2 h3 zq20.2) := hD
        obtain ⟨zb21, hm⟩ := ibk hm
        obtain ⟨zf22, ezf22, hm⟩ := bnk hm
        refine iast_e hx hb hK.1 hP hD hS 3 0 rfl rfl zb21 dX9_reads_124 ezf22 (fun H locs hP hD hS => ?_)
        have hP : va_P g.1 vwCl (w_X9 g h0 h1 h2 h3 (zq20.2.1, zq20.2.2.1, zq20.2.2.2.1, zq20.2.2.2.2.1, zq20.2.2.2.2.2.1, zq20.2.2.2.2.2.2.1, zq20.2.2.2.2.2.2.2.1, zf22, zq20.2.2.2.2.2.2.2.2.2.1, zq20.2.2.2.2.2.2.2.2.2.2.1, zq20.2.2.2.2.2.2.2.2.2.2.2)) H := hP
        have hD : va_D A (w_X9 g h0 h1 h2 h3 (zq20.2.1, zq20.2.2.1, zq20.2.2.2.1, zq20.2.2.2.2.1, zq20.2.2.2.2.2.1, zq20.2.2.2.2.2.2.1, zq20.2.2.2.2.2.2.2.1, zf22, zq20.2.2.2.2.2.2.2.2.2.1, zq20.2.2.2.2.2.2.2.2.2.2.1, zq20.2.2.2.2.2.2.2.2.2.2.2)) := hD
        refine lv_aload_n hx hb dX9_reads_125 rfl (lv_at hl 2 rfl) ?_
        refine lv_bipush (v := 99) hx hb dX9_reads_126 (by decide +kernel) ?_
        obtain ⟨zq23, hzq23, hm⟩ := bdk hm
        refine kw_veA (va_runV (As := [.int 99]) (rest := []) ⟨hx, hb, hml, hown, htG⟩ (kX9_takes l g h0 h1 h2 h3 _ (zq20.2.1, zq20.2.2.1, zq20.2.2.2.1, zq20.2.2.2.2.1, zq20.2.2.2.2.2.1, zq20.2.2.2.2.2.2.1, zq20.2.2.2.2.2.2.2.1, zf22, zq20.2.2.2.2.2.2.2.2.2.1, zq20.2.2.2.2.2.2.2.2.2.2.1, zq20.2.2.2.2.2.2.2.2.2.2.2) 99 _ hzq23) (cwV 1 htG (GV g4_120 g4_122 gS_30 g1_10 g4_123) rfl rfl rfl hd_X9_takes ⟨Nat.le_of_ble_eq_true rfl, Nat.le_of_ble_eq_true rfl⟩) (PW_VA hK hL hS hP hD hA (ci := 8) rfl 0 rfl) rfl rfl hl.1 rfl (lv_room (Nat.le_of_ble_eq_true rfl)) dX9_reads_128 ⟨Nat.zero_le _, Nat.zero_le _⟩) hD hS hA (fun _ => rfl) (fun H locs hP hD hS => ?_)
        have hP : va_P g.1 vwCl (w_X9 g h0 h1 h2 h3 zq23) H := hP
        have hD : va_D A (w_X9 g h0 h1 h2 h3 zq23) := hD
        refine lv_aload_n hx hb dX9_reads_131 rfl (lv_at hl 2 rfl) ?_
        refine va_get (D := g.1) (ci := 8) (v := .ref h3) (C := RX9) (T := TX9) (N := 11) hx hb htG in_wsX90 hown hK.1 hP 0 rfl rfl 7 (by decide) (htG _ g3_202) (fun _ h9 => h9) rfl dX9_reads_132 ?_
        refine lv_iload_n hx hb dX9_reads_135 rfl (lv_at hl 1 rfl) ?_
        refine lv_iconst (v := 2) hx hb dX9_reads_136 (by decide) ?_
        refine lv_iadd hx hb dX9_reads_137 ?_
        refine lv_aload_n hx hb dX9_reads_138 rfl (lv_at hl 2 rfl) ?_
        refine lv_iconst (v := 0) hx hb dX9_reads_139 (by decide) ?_
        refine lv_iconst (v := 2) hx hb dX9_reads_140 (by decide) ?_
        obtain ⟨zq24, hzq24, hm⟩ := bdk hm
        refine kw_ieA (va_runV (As := [.int 0, .int 2]) (rest := [.int ((6 * x.2.2.2.2.2.2.2.2.1) + 2), .ref h3]) ⟨hx, hb, hml, hown, htG⟩ (kX9_number l g h0 h1 h2 h3 _ zq23 0 2 _ hzq24) (cwV 2 htG (GV g4_112 g4_114 gS_28 g1_10 g4_115) rfl rfl rfl hd_X9_number ⟨Nat.le_of_ble_eq_true rfl, Nat.le_of_ble_eq_true rfl⟩) (PW_VA hK hL hS hP hD hA (ci := 8) rfl 0 rfl) rfl rfl hl.1 rfl (lv_room (Nat.le_of_ble_eq_true rfl)) dX9_reads_141 ⟨Nat.zero_le _, Nat.zero_le _⟩) hD hS hA (fun _ => rfl) (fun H locs hP hD hS => ?_)
        have hP : va_P g.1 vwCl (w_X9 g h0 h1 h2 h3 zq24.2) H := hP
        have hD : va_D A (w_X9 g h0 h1 h2 h3 zq24.2) := hD
        obtain ⟨zb25, hm⟩ := ibk hm
        obtain ⟨zf26, ezf26, hm⟩ := bnk hm
        refine iast_e hx hb hK.1 hP hD hS 3 0 rfl rfl zb25 dX9_reads_144 ezf26 (fun H locs hP hD hS => ?_)
        have hP : va_P g.1 vwCl (w_X9 g h0 h1 h2 h3 (zq24.2.1, zq24.2.2.1, zq24.2.2.2.1, zq24.2.2.2.2.1, zq24.2.2.2.2.2.1, zq24.2.2.2.2.2.2.1, zq24.2.2.2.2.2.2.2.1, zf26, zq24.2.2.2.2.2.2.2.2.2.1, zq24.2.2.2.2.2.2.2.2.2.2.1, zq24.2.2.2.2.2.2.2.2.2.2.2)) H := hP
        have hD : va_D A (w_X9 g h0 h1 h2 h3 (zq24.2.1, zq24.2.2.1, zq24.2.2.2.1, zq24.2.2.2.2.1, zq24.2.2.2.2.2.1, zq24.2.2.2.2.2.2.1, zq24.2.2.2.2.2.2.2.1, zf26, zq24.2.2.2.2.2.2.2.2.2.1, zq24.2.2.2.2.2.2.2.2.2.2.1, zq24.2.2.2.2.2.2.2.2.2.2.2)) := hD
        refine lv_aload_n hx hb dX9_reads_145 rfl (lv_at hl 2 rfl) ?_
        refine lv_bipush (v := 104) hx hb dX9_reads_146 (by decide +kernel) ?_
        obtain ⟨zq27, hzq27, hm⟩ := bdk hm
        refine kw_veA (va_runV (As := [.int 104]) (rest := []) ⟨hx, hb, hml, hown, htG⟩ (kX9_takes l g h0 h1 h2 h3 _ (zq24.2.1, zq24.2.2.1, zq24.2.2.2.1, zq24.2.2.2.2.1, zq24.2.2.2.2.2.1, zq24.2.2.2.2.2.2.1, zq24.2.2.2.2.2.2.2.1, zf26, zq24.2.2.2.2.2.2.2.2.2.1, zq24.2.2.2.2.2.2.2.2.2.2.1, zq24.2.2.2.2.2.2.2.2.2.2.2) 104 _ hzq27) (cwV 1 htG (GV g4_120 g4_122 gS_30 g1_10 g4_123) rfl rfl rfl hd_X9_takes ⟨Nat.le_of_ble_eq_true rfl, Nat.le_of_ble_eq_true rfl⟩) (PW_VA hK hL hS hP hD hA (ci := 8) rfl 0 rfl) rfl rfl hl.1 rfl (lv_room (Nat.le_of_ble_eq_true rfl)) dX9_reads_148 ⟨Nat.zero_le _, Nat.zero_le _⟩) hD hS hA (fun _ => rfl) (fun H locs hP hD hS => ?_)
        have hP : va_P g.1 vwCl (w_X9 g h0 h1 h2 h3 zq27) H := hP
        have hD : va_D A (w_X9 g h0 h1 h2 h3 zq27) := hD
        refine lv_aload_n hx hb dX9_reads_151 rfl (lv_at hl 2 rfl) ?_
        refine va_get (D := g.1) (ci := 8) (v := .ref h3) (C := RX9) (T := TX9) (N := 11) hx hb htG in_wsX90 hown hK.1 hP 0 rfl rfl 7 (by decide) (htG _ g3_202) (fun _ h9 => h9) rfl dX9_reads_152 ?_
        refine lv_iload_n hx hb dX9_reads_155 rfl (lv_at hl 1 rfl) ?_
        refine lv_iconst (v := 3) hx hb dX9_reads_156 (by decide) ?_
        refine lv_iadd hx hb dX9_reads_157 ?_
        refine lv_aload_n hx hb dX9_reads_158 rfl (lv_at hl 2 rfl) ?_
        refine lv_iconst (v := 0) hx hb dX9_reads_159 (by decide) ?_
        refine lv_bipush (v := 15) hx hb dX9_reads_160 (by decide +kernel) ?_
        obtain ⟨zq28, hzq28, hm⟩ := bdk hm
        refine kw_ieA (va_runV (As := [.int 0, .int 15]) (rest := [.int ((6 * x.2.2.2.2.2.2.2.2.1) + 3), .ref h3]) ⟨hx, hb, hml, hown, htG⟩ (kX9_number l g h0 h1 h2 h3 _ zq27 0 15 _ hzq28) (cwV 2 htG (GV g4_112 g4_114 gS_28 g1_10 g4_115) rfl rfl rfl hd_X9_number ⟨Nat.le_of_ble_eq_true rfl, Nat.le_of_ble_eq_true rfl⟩) (PW_VA hK hL hS hP hD hA (ci := 8) rfl 0 rfl) rfl rfl hl.1 rfl (lv_room (Nat.le_of_ble_eq_true rfl)) dX9_reads_162 ⟨Nat.zero_le _, Nat.zero_le _⟩) hD hS hA (fun _ => rfl) (fun H locs hP hD hS => ?_)
        have hP : va_P g.1 vwCl (w_X9 g h0 h1 h2 h3 zq28.2) H := hP
        have hD : va_D A (w_X9 g h0 h1 h2 h3 zq28.2) := hD
        obtain ⟨zb29, hm⟩ := ibk hm
        obtain ⟨zf30, ezf30, hm⟩ := bnk hm
        refine iast_e hx hb hK.1 hP hD hS 3 0 rfl rfl zb29 dX9_reads_165 ezf30 (fun H locs hP hD hS => ?_)
        have hP : va_P g.1 vwCl (w_X9 g h0 h1 h2 h3 (zq28.2.1, zq28.2.2.1, zq28.2.2.2.1, zq28.2.2.2.2.1, zq28.2.2.2.2.2.1, zq28.2.2.2.2.2.2.1, zq28.2.2.2.2.2.2.2.1, zf30, zq28.2.2.2.2.2.2.2.2.2.1, zq28.2.2.2.2.2.2.2.2.2.2.1, zq28.2.2.2.2.2.2.2.2.2.2.2)) H := hP
        have hD : va_D A (w_X9 g h0 h1 h2 h3 (zq28.2.1, zq28.2.2.1, zq28.2.2.2.1, zq28.2.2.2.2.1, zq28.2.2.2.2.2.1, zq28.2.2.2.2.2.2.1, zq28.2.2.2.2.2.2.2.1, zf30, zq28.2.2.2.2.2.2.2.2.2.1, zq28.2.2.2.2.2.2.2.2.2.2.1, zq28.2.2.2.2.2.2.2.2.2.2.2)) := hD
        refine lv_aload_n hx hb dX9_reads_166 rfl (lv_at hl 2 rfl) ?_
        refine lv_bipush (v := 119) hx hb dX9_reads_167 (by decide +kernel) ?_
        obtain ⟨zq31, hzq31, hm⟩ := bdk hm
        refine kw_veA (va_runV (As := [.int 119]) (rest := []) ⟨hx, hb, hml, hown, htG⟩ (kX9_takes l g h0 h1 h2 h3 _ (zq28.2.1, zq28.2.2.1, zq28.2.2.2.1, zq28.2.2.2.2.1, zq28.2.2.2.2.2.1, zq28.2.2.2.2.2.2.1, zq28.2.2.2.2.2.2.2.1, zf30, zq28.2.2.2.2.2.2.2.2.2.1, zq28.2.2.2.2.2.2.2.2.2.2.1, zq28.2.2.2.2.2.2.2.2.2.2.2) 119 _ hzq31) (cwV 1 htG (GV g4_120 g4_122 gS_30 g1_10 g4_123) rfl rfl rfl hd_X9_takes ⟨Nat.le_of_ble_eq_true rfl, Nat.le_of_ble_eq_true rfl⟩) (PW_VA hK hL hS hP hD hA (ci := 8) rfl 0 rfl) rfl rfl hl.1 rfl (lv_room (Nat.le_of_ble_eq_true rfl)) dX9_reads_169 ⟨Nat.zero_le _, Nat.zero_le _⟩) hD hS hA (fun _ => rfl) (fun H locs hP hD hS => ?_)
        have hP : va_P g.1 vwCl (w_X9 g h0 h1 h2 h3 zq31) H := hP
        have hD : va_D A (w_X9 g h0 h1 h2 h3 zq31) := hD
        refine lv_aload_n hx hb dX9_reads_172 rfl (lv_at hl 2 rfl) ?_
        refine va_get (D := g.1) (ci := 8) (v := .ref h3) (C := RX9) (T := TX9) (N := 11) hx hb htG in_wsX90 hown hK.1 hP 0 rfl rfl 7 (by decide) (htG _ g3_202) (fun _ h9 => h9) rfl dX9_reads_173 ?_
        refine lv_iload_n hx hb dX9_reads_176 rfl (lv_at hl 1 rfl) ?_
        refine lv_iconst (v := 4) hx hb dX9_reads_177 (by decide) ?_
        refine lv_iadd hx hb dX9_reads_178 ?_
        refine lv_aload_n hx hb dX9_reads_179 rfl (lv_at hl 2 rfl) ?_
        refine lv_iconst (v := 1) hx hb dX9_reads_180 (by decide) ?_
        refine lv_bipush (v := 60) hx hb dX9_reads_181 (by decide +kernel) ?_
        obtain ⟨zq32, hzq32, hm⟩ := bdk hm
        refine kw_ieA (va_runV (As := [.int 1, .int 60]) (rest := [.int ((6 * x.2.2.2.2.2.2.2.2.1) + 4), .ref h3]) ⟨hx, hb, hml, hown, htG⟩ (kX9_number l g h0 h1 h2 h3 _ zq31 1 60 _ hzq32) (cwV 2 htG (GV g4_112 g4_114 gS_28 g1_10 g4_115) rfl rfl rfl hd_X9_number ⟨Nat.le_of_ble_eq_true rfl, Nat.le_of_ble_eq_true rfl⟩) (PW_VA hK hL hS hP hD hA (ci := 8) rfl 0 rfl) rfl rfl hl.1 rfl (lv_room (Nat.le_of_ble_eq_true rfl)) dX9_reads_183 ⟨Nat.zero_le _, Nat.zero_le _⟩) hD hS hA (fun _ => rfl) (fun H locs hP hD hS => ?_)
        have hP : va_P g.1 vwCl (w_X9 g h0 h1 h2 h3 zq32.2) H := hP
        have hD : va_D A (w_X9 g h0 h1 h2 h3 zq32.2) := hD
        obtain ⟨zb33, hm⟩ := ibk hm
        obtain ⟨zf34, ezf34, hm⟩ := bnk hm
        refine iast_e hx hb hK.1 hP hD hS 3 0 rfl rfl zb33 dX9_reads_186 ezf34 (fun H locs hP hD hS => ?_)
        have hP : va_P g.1 vwCl (w_X9 g h0 h1 h2 h3 (zq32.2.1, zq32.2.2.1, zq32.2.2.2.1, zq32.2.2.2.2.1, zq32.2.2.2.2.2.1, zq32.2.2.2.2.2.2.1, zq32.2.2.2.2.2.2.2.1, zf34, zq32.2.2.2.2.2.2.2.2.2.1, zq32.2.2.2.2.2.2.2.2.2.2.1, zq32.2.2.2.2.2.2.2.2.2.2.2)) H := hP
        have hD : va_D A (w_X9 g h0 h1 h2 h3 (zq32.2.1, zq32.2.2.1, zq32.2.2.2.1, zq32.2.2.2.2.1, zq32.2.2.2.2.2.1, zq32.2.2.2.2.2.2.1, zq32.2.2.2.2.2.2.2.1, zf34, zq32.2.2.2.2.2.2.2.2.2.1, zq32.2.2.2.2.2.2.2.2.2.2.1, zq32.2.2.2.2.2.2.2.2.2.2.2)) := hD
        refine lv_aload_n hx hb dX9_reads_187 rfl (lv_at hl 2 rfl) ?_
        refine lv_bipush (v := 61) hx hb dX9_reads_188 (by decide +kernel) ?_
        obtain ⟨zq35, hzq35, hm⟩ := bdk hm
        refine kw_veA (va_runV (As := [.int 61]) (rest := []) ⟨hx, hb, hml, hown, htG⟩ (kX9_takes l g h0 h1 h2 h3 _ (zq32.2.1, zq32.2.2.1, zq32.2.2.2.1, zq32.2.2.2.2.1, zq32.2.2.2.2.2.1, zq32.2.2.2.2.2.2.1, zq32.2.2.2.2.2.2.2.1, zf34, zq32.2.2.2.2.2.2.2.2.2.1, zq32.2.2.2.2.2.2.2.2.2.2.1, zq32.2.2.2.2.2.2.2.2.2.2.2) 61 _ hzq35) (cwV 1 htG (GV g4_120 g4_122 gS_30 g1_10 g4_123) rfl rfl rfl hd_X9_takes ⟨Nat.le_of_ble_eq_true rfl, Nat.le_of_ble_eq_true rfl⟩) (PW_VA hK hL hS hP hD hA (ci := 8) rfl 0 rfl) rfl rfl hl.1 rfl (lv_room (Nat.le_of_ble_eq_true rfl)) dX9_reads_190 ⟨Nat.zero_le _, Nat.zero_le _⟩) hD hS hA (fun _ => rfl) (fun H locs hP hD hS => ?_)
        have hP : va_P g.1 vwCl (w_X9 g h0 h1 h2 h3 zq35) H := hP
        have hD : va_D A (w_X9 g h0 h1 h2 h3 zq35) := hD
        refine lv_aload_n hx hb dX9_reads_193 rfl (lv_at hl 2 rfl) ?_
        refine va_get (D := g.1) (ci := 8) (v := .ref h3) (C := RX9) (T := TX9) (N := 11) hx hb htG in_wsX90 hown hK.1 hP 0 rfl rfl 7 (by decide) (htG _ g3_202) (fun _ h9 => h9) rfl dX9_reads_194 ?_
        refine lv_iload_n hx hb dX9_reads_197 rfl (lv_at hl 1 rfl) ?_
        refine lv_iconst (v := 5) hx hb dX9_reads_198 (by decide) ?_
        refine lv_iadd hx hb dX9_reads_199 ?_
        refine lv_aload_n hx hb dX9_reads_200 rfl (lv_at hl 2 rfl) ?_
        refine lv_iconst (v := 1) hx hb dX9_reads_201 (by decide) ?_
        refine lv_sipush (v := 999) hx hb dX9_reads_202 (by decide +kernel) ?_
        obtain ⟨zq36, hzq36, hm⟩ := bdk hm
        refine kw_ieA (va_runV (As := [.int 1, .int 999]) (rest := [.int ((6 * x.2.2.2.2.2.2.2.2.1) + 5), .ref h3]) ⟨hx, hb, hml, hown, htG⟩ (kX9_number l g h0 h1 h2 h3 _ zq35 1 999 _ hzq36) (cwV 2 htG (GV g4_112 g4_114 gS_28 g1_10 g4_115) rfl rfl rfl hd_X9_number ⟨Nat.le_of_ble_eq_true rfl, Nat.le_of_ble_eq_true rfl⟩) (PW_VA hK hL hS hP hD hA (ci := 8) rfl 0 rfl) rfl rfl hl.1 rfl (lv_room (Nat.le_of_ble_eq_true rfl)) dX9_reads_205 ⟨Nat.zero_le _, Nat.zero_le _⟩) hD hS hA (fun _ => rfl) (fun H locs hP hD hS => ?_)
        have hP : va_P g.1 vwCl (w_X9 g h0 h1 h2 h3 zq36.2) H := hP
        have hD : va_D A (w_X9 g h0 h1 h2 h3 zq36.2) := hD
        obtain ⟨zb37, hm⟩ := ibk hm
        obtain ⟨zf38, ezf38, hm⟩ := bnk hm
        refine iast_e hx hb hK.1 hP hD hS 3 0 rfl rfl zb37 dX9_reads_208 ezf38 (fun H locs hP hD hS => ?_)
        have hP : va_P g.1 vwCl (w_X9 g h0 h1 h2 h3 (zq36.2.1, zq36.2.2.1, zq36.2.2.2.1, zq36.2.2.2.2.1, zq36.2.2.2.2.2.1, zq36.2.2.2.2.2.2.1, zq36.2.2.2.2.2.2.2.1, zf38, zq36.2.2.2.2.2.2.2.2.2.1, zq36.2.2.2.2.2.2.2.2.2.2.1, zq36.2.2.2.2.2.2.2.2.2.2.2)) H := hP
        have hD : va_D A (w_X9 g h0 h1 h2 h3 (zq36.2.1, zq36.2.2.1, zq36.2.2.2.1, zq36.2.2.2.2.1, zq36.2.2.2.2.2.1, zq36.2.2.2.2.2.2.1, zq36.2.2.2.2.2.2.2.1, zf38, zq36.2.2.2.2.2.2.2.2.2.1, zq36.2.2.2.2.2.2.2.2.2.2.1, zq36.2.2.2.2.2.2.2.2.2.2.2)) := hD
        refine lv_goto (tgt := 278) hx hb dX9_reads_209 (by decide) ?_
        refine lv_aload_n hx hb dX9_reads_278 rfl (lv_at hl 2 rfl) ?_
        refine lv_dup hx hb dX9_reads_279 rfl ?_
        refine va_get (D := g.1) (ci := 8) (v := .int zq36.2.2.2.2.2.2.2.2.2.1) (C := RX9) (T := TX9) (N := 11) hx hb htG in_wsX90 hown hK.1 hP 0 rfl rfl 8 (by decide) (htG _ g3_203) (fun _ h9 => h9) rfl dX9_reads_280 ?_
        refine lv_iconst (v := 1) hx hb dX9_reads_283 (by decide) ?_
        refine lv_iadd hx hb dX9_reads_284 ?_
        obtain ⟨zv39, ezv39, hm⟩ := bnk hm
        refine tope ezv39 ?_
        refine va_put (D := g.1) (ci := 8) (v := .int zv39) (ty := .int) (C := RX9) (T := TX9) (N := 11) hx hb htG in_wsX90 tyX9 tyX9_ok nmX9 hown hK.1 hP hD hS 0 rfl rfl 8 (by decide) (htG _ g3_203) (fun _ h9 => h9) rfl (by decide +kernel) rfl rfl (Nat.le_of_ble_eq_true rfl) dX9_reads_285 (fun H locs hP hD hS => ?_)
        have hP : va_P g.1 vwCl (w_X9 g h0 h1 h2 h3 (zq36.2.1, zq36.2.2.1, zq36.2.2.2.1, zq36.2.2.2.2.1, zq36.2.2.2.2.2.1, zq36.2.2.2.2.2.2.1, zq36.2.2.2.2.2.2.2.1, zf38, zv39, zq36.2.2.2.2.2.2.2.2.2.2.1, zq36.2.2.2.2.2.2.2.2.2.2.2)) H := hP
        have hD : va_D A (w_X9 g h0 h1 h2 h3 (zq36.2.1, zq36.2.2.1, zq36.2.2.2.1, zq36.2.2.2.2.1, zq36.2.2.2.2.2.1, zq36.2.2.2.2.2.2.1, zq36.2.2.2.2.2.2.2.1, zf38, zv39, zq36.2.2.2.2.2.2.2.2.2.2.1, zq36.2.2.2.2.2.2.2.2.2.2.2)) := hD
        exact W.vret hx hb hr (fun t ht hW => ⟨⟨_, rfl, (Option.some.inj hm), atH ht hP⟩, hS.F ht⟩) hS.2.2 dX9_reads_288
      · replace hm := (if_neg zc14).symm.trans hm
        refine lv_iload_n hx hb dX9_reads_54 rfl (lv_at hl 0 rfl) ?_
        refine lv_bipush (v := 101) hx hb dX9_reads_55 (by decide +kernel) ?_
        refine lv_icmp_eq (tgt := 72) hx hb dX9_reads_57 (by decide) (fun zc40 => ?_) (fun zc40 => ?_)
        · replace hm := (if_pos zc40).symm.trans hm
          refine lv_iconst (v := 1) hx hb dX9_reads_72 (by decide) ?_
          refine lv_goto (tgt := 77) hx hb dX9_reads_73 (by decide) ?_
          refine va_put (D := g.1) (ci := 8) (v := .int 1) (ty := .boolean) (C := RX9) (T := TX9) (N := 11) hx hb htG in_wsX90 tyX9 tyX9_ok nmX9 hown hK.1 hP hD hS 0 rfl rfl 6 (by decide) (htG _ g3_201) (fun _ h9 => h9) rfl (by decide +kernel) rfl rfl (Nat.le_of_ble_eq_true rfl) dX9_reads_77 (fun H locs hP hD hS => ?_)
          have hP : va_P g.1 vwCl (w_X9 g h0 h1 h2 h3 (x.1, x.2.1, x.2.2.1, x.2.2.2.1, x.2.2.2.2.1, x.2.2.2.2.2.1, 1, x.2.2.2.2.2.2.2.1, x.2.2.2.2.2.2.2.2.1, x.2.2.2.2.2.2.2.2.2.1, x.2.2.2.2.2.2.2.2.2.2)) H := hP
          have hD : va_D A (w_X9 g h0 h1 h2 h3 (x.1, x.2.1, x.2.2.1, x.2.2.2.1, x.2.2.2.2.1, x.2.2.2.2.2.1, 1, x.2.2.2.2.2.2.2.1, x.2.2.2.2.2.2.2.2.1, x.2.2.2.2.2.2.2.2.2.1, x.2.2.2.2.2.2.2.2.2.2)) := hD
          refine lv_aload_n hx hb dX9_reads_80 rfl (lv_at hl 2 rfl) ?_
          refine va_get (D := g.1) (ci := 8) (v := .int 1) (C := RX9) (T := TX9) (N := 11) hx hb htG in_wsX90 hown hK.1 hP 0 rfl rfl 6 (by decide) (htG _ g3_201) (fun _ h9 => h9) rfl dX9_reads_81 ?_
          refine lv_if_ne (tgt := 88) hx hb dX9_reads_84 (by decide) (fun _ => ?_) (fun zc41 => absurd zc41 (by decide))
          refine lv_aload_n hx hb dX9_reads_88 rfl (lv_at hl 2 rfl) ?_
          refine lv_dup hx hb dX9_reads_89 rfl ?_
          refine va_get (D := g.1) (ci := 8) (v := .int x.2.2.2.2.2.1) (C := RX9) (T := TX9) (N := 11) hx hb htG in_wsX90 hown hK.1 hP 0 rfl rfl 5 (by decide) (htG _ g3_200) (fun _ h9 => h9) rfl dX9_reads_90 ?_
          refine lv_iconst (v := 1) hx hb dX9_reads_93 (by decide) ?_
          refine lv_iadd hx hb dX9_reads_94 ?_
          obtain ⟨zv42, ezv42, hm⟩ := bnk hm
          refine tope ezv42 ?_
          refine va_put (D := g.1) (ci := 8) (v := .int zv42) (ty := .int) (C := RX9) (T := TX9) (N := 11) hx hb htG in_wsX90 tyX9 tyX9_ok nmX9 hown hK.1 hP hD hS 0 rfl rfl 5 (by decide) (htG _ g3_200) (fun _ h9 => h9) rfl (by decide +kernel) rfl rfl (Nat.le_of_ble_eq_true rfl) dX9_reads_95 (fun H locs hP hD hS => ?_)
          have hP : va_P g.1 vwCl (w_X9 g h0 h1 h2 h3 (x.1, x.2.1, x.2.2.1, x.2.2.2.1, x.2.2.2.2.1, zv42, 1, x.2.2.2.2.2.2.2.1, x.2.2.2.2.2.2.2.2.1, x.2.2.2.2.2.2.2.2.2.1, x.2.2.2.2.2.2.2.2.2.2)) H := hP
          have hD : va_D A (w_X9 g h0 h1 h2 h3 (x.1, x.2.1, x.2.2.1, x.2.2.2.1, x.2.2.2.2.1, zv42, 1, x.2.2.2.2.2.2.2.1, x.2.2.2.2.2.2.2.2.1, x.2.2.2.2.2.2.2.2.2.1, x.2.2.2.2.2.2.2.2.2.2)) := hD
          refine lv_aload_n hx hb dX9_reads_98 rfl (lv_at hl 2 rfl) ?_
          refine va_get (D := g.1) (ci := 8) (v := .ref h3) (C := RX9) (T := TX9) (N := 11) hx hb htG in_wsX90 hown hK.1 hP 0 rfl rfl 7 (by decide) (htG _ g3_202) (fun _ h9 => h9) rfl dX9_reads_99 ?_
          refine lv_iload_n hx hb dX9_reads_102 rfl (lv_at hl 1 rfl) ?_
          refine lv_iload_n hx hb dX9_reads_103 rfl (lv_at hl 0 rfl) ?_
          obtain ⟨zb43, hm⟩ := ibk hm
          obtain ⟨zf44, ezf44, hm⟩ := bnk hm
          refine iast_e hx hb hK.1 hP hD hS 3 0 rfl rfl zb43 dX9_reads_104 ezf44 (fun H locs hP hD hS => ?_)
          have hP : va_P g.1 vwCl (w_X9 g h0 h1 h2 h3 (x.1, x.2.1, x.2.2.1, x.2.2.2.1, x.2.2.2.2.1, zv42, 1, zf44, x.2.2.2.2.2.2.2.2.1, x.2.2.2.2.2.2.2.2.2.1, x.2.2.2.2.2.2.2.2.2.2)) H := hP
          have hD : va_D A (w_X9 g h0 h1 h2 h3 (x.1, x.2.1, x.2.2.1, x.2.2.2.1, x.2.2.2.2.1, zv42, 1, zf44, x.2.2.2.2.2.2.2.2.1, x.2.2.2.2.2.2.2.2.2.1, x.2.2.2.2.2.2.2.2.2.2)) := hD
          refine lv_iload_n hx hb dX9_reads_105 rfl (lv_at hl 0 rfl) ?_
          refine lv_bipush (v := 98) hx hb dX9_reads_106 (by decide +kernel) ?_
          refine lv_icmp_ne (tgt := 212) hx hb dX9_reads_108 (by decide) (fun _ => ?_) (fun zc45 => absurd zc45 zc14)
          refine lv_iload_n hx hb dX9_reads_212 rfl (lv_at hl 0 rfl) ?_
          refine lv_bipush (v := 101) hx hb dX9_reads_213 (by decide +kernel) ?_
          refine lv_icmp_ne (tgt := 257) hx hb dX9_reads_215 (by decide) (fun zc46 => absurd zc40 zc46) (fun _ => ?_)
          refine lv_aload_n hx hb dX9_reads_218 rfl (lv_at hl 2 rfl) ?_
          refine va_get (D := g.1) (ci := 8) (v := .ref h3) (C := RX9) (T := TX9) (N := 11) hx hb htG in_wsX90 hown hK.1 hP 0 rfl rfl 7 (by decide) (htG _ g3_202) (fun _ h9 => h9) rfl dX9_reads_219 ?_
          refine lv_iload_n hx hb dX9_reads_222 rfl (lv_at hl 1 rfl) ?_
          refine lv_iconst (v := 1) hx hb dX9_reads_223 (by decide) ?_
          refine lv_iadd hx hb dX9_reads_224 ?_
          refine lv_aload_n hx hb dX9_reads_225 rfl (lv_at hl 2 rfl) ?_
          refine lv_iconst (v := 0) hx hb dX9_reads_226 (by decide) ?_
          refine lv_bipush (v := 15) hx hb dX9_reads_227 (by decide +kernel) ?_
          obtain ⟨zq47, hzq47, hm⟩ := bdk hm
          refine kw_ieA (va_runV (As := [.int 0, .int 15]) (rest := [.int ((6 * x.2.2.2.2.2.2.2.2.1) + 1), .ref h3]) ⟨hx, hb, hml, hown, htG⟩ (kX9_number l g h0 h1 h2 h3 _ (x.1, x.2.1, x.2.2.1, x.2.2.2.1, x.2.2.2.2.1, zv42, 1, zf44, x.2.2.2.2.2.2.2.2.1, x.2.2.2.2.2.2.2.2.2.1, x.2.2.2.2.2.2.2.2.2.2) 0 15 _ hzq47) (cwV 2 htG (GV g4_112 g4_114 gS_28 g1_10 g4_115) rfl rfl rfl hd_X9_number ⟨Nat.le_of_ble_eq_true rfl, Nat.le_of_ble_eq_true rfl⟩) (PW_VA hK hL hS hP hD hA (ci := 8) rfl 0 rfl) rfl rfl hl.1 rfl (lv_room (Nat.le_of_ble_eq_true rfl)) dX9_reads_229 ⟨Nat.zero_le _, Nat.zero_le _⟩) hD hS hA (fun _ => rfl) (fun H locs hP hD hS => ?_)
          have hP : va_P g.1 vwCl (w_X9 g h0 h1 h2 h3 zq47.2) H := hP
          have hD : va_D A (w_X9 g h0 h1 h2 h3 zq47.2) := hD
          obtain ⟨zb48, hm⟩ := ibk hm
          obtain ⟨zf49, ezf49, hm⟩ := bnk hm
          refine iast_e hx hb hK.1 hP hD hS 3 0 rfl rfl zb48 dX9_reads_232 ezf49 (fun H locs hP hD hS => ?_)
          have hP : va_P g.1 vwCl (w_X9 g h0 h1 h2 h3 (zq47.2.1, zq47.2.2.1, zq47.2.2.2.1, zq47.2.2.2.2.1, zq47.2.2.2.2.2.1, zq47.2.2.2.2.2.2.1, zq47.2.2.2.2.2.2.2.1, zf49, zq47.2.2.2.2.2.2.2.2.2.1, zq47.2.2.2.2.2.2.2.2.2.2.1, zq47.2.2.2.2.2.2.2.2.2.2.2)) H := hP
          have hD : va_D A (w_X9 g h0 h1 h2 h3 (zq47.2.1, zq47.2.2.1, zq47.2.2.2.1, zq47.2.2.2.2.1, zq47.2.2.2.2.2.1, zq47.2.2.2.2.2.2.1, zq47.2.2.2.2.2.2.2.1, zf49, zq47.2.2.2.2.2.2.2.2.2.1, zq47.2.2.2.2.2.2.2.2.2.2.1, zq47.2.2.2.2.2.2.2.2.2.2.2)) := hD
          refine lv_aload_n hx hb dX9_reads_233 rfl (lv_at hl 2 rfl) ?_
          refine lv_bipush (v := 58) hx hb dX9_reads_234 (by decide +kernel) ?_
          obtain ⟨zq50, hzq50, hm⟩ := bdk hm
          refine kw_veA (va_runV (As := [.int 58]) (rest := []) ⟨hx, hb, hml, hown, htG⟩ (kX9_takes l g h0 h1 h2 h3 _ (zq47.2.1, zq47.2.2.1, zq47.2.2.2.1, zq47.2.2.2.2.1, zq47.2.2.2.2.2.1, zq47.2.2.2.2.2.2.1, zq47.2.2.2.2.2.2.2.1, zf49, zq47.2.2.2.2.2.2.2.2.2.1, zq47.2.2.2.2.2.2.2.2.2.2.1, zq47.2.2.2.2.2.2.2.2.2.2.2) 58 _ hzq50) (cwV 1 htG (GV g4_120 g4_122 gS_30 g1_10 g4_123) rfl rfl rfl hd_X9_takes ⟨Nat.le_of_ble_eq_true rfl, Nat.le_of_ble_eq_true rfl⟩) (PW_VA hK hL hS hP hD hA (ci := 8) rfl 0 rfl) rfl rfl hl.1 rfl (lv_room (Nat.le_of_ble_eq_true rfl)) dX9_reads_236 ⟨Nat.zero_le _, Nat.zero_le _⟩) hD hS hA (fun _ => rfl) (fun H locs hP hD hS => ?_)
          have hP : va_P g.1 vwCl (w_X9 g h0 h1 h2 h3 zq50) H := hP
          have hD : va_D A (w_X9 g h0 h1 h2 h3 zq50) := hD
          refine lv_aload_n hx hb dX9_reads_239 rfl (lv_at hl 2 rfl) ?_
          refine va_get (D := g.1) (ci := 8) (v := .ref h3) (C := RX9) (T := TX9) (N := 11) hx hb htG in_wsX90 hown hK.1 hP 0 rfl rfl 7 (by decide) (htG _ g3_202) (fun _ h9 => h9) rfl dX9_reads_240 ?_
          refine lv_iload_n hx hb dX9_reads_243 rfl (lv_at hl 1 rfl) ?_
          refine lv_iconst (v := 2) hx hb dX9_reads_244 (by decide) ?_
          refine lv_iadd hx hb dX9_reads_245 ?_
          refine lv_aload_n hx hb dX9_reads_246 rfl (lv_at hl 2 rfl) ?_
          refine lv_iconst (v := 0) hx hb dX9_reads_247 (by decide) ?_
          refine lv_bipush (v := 99) hx hb dX9_reads_248 (by decide +kernel) ?_
          obtain ⟨zq51, hzq51, hm⟩ := bdk hm
          refine kw_ieA (va_runV (As := [.int 0, .int 99]) (rest := [.int ((6 * x.2.2.2.2.2.2.2.2.1) + 2), .ref h3]) ⟨hx, hb, hml, hown, htG⟩ (kX9_number l g h0 h1 h2 h3 _ zq50 0 99 _ hzq51) (cwV 2 htG (GV g4_112 g4_114 gS_28 g1_10 g4_115) rfl rfl rfl hd_X9_number ⟨Nat.le_of_ble_eq_true rfl, Nat.le_of_ble_eq_true rfl⟩) (PW_VA hK hL hS hP hD hA (ci := 8) rfl 0 rfl) rfl rfl hl.1 rfl (lv_room (Nat.le_of_ble_eq_true rfl)) dX9_reads_250 ⟨Nat.zero_le _, Nat.zero_le _⟩) hD hS hA (fun _ => rfl) (fun H locs hP hD hS => ?_)
          have hP : va_P g.1 vwCl (w_X9 g h0 h1 h2 h3 zq51.2) H := hP
          have hD : va_D A (w_X9 g h0 h1 h2 h3 zq51.2) := hD
          obtain ⟨zb52, hm⟩ := ibk hm
          obtain ⟨zf53, ezf53, hm⟩ := bnk hm
          refine iast_e hx hb hK.1 hP hD hS 3 0 rfl rfl zb52 dX9_reads_253 ezf53 (fun H locs hP hD hS => ?_)
          have hP : va_P g.1 vwCl (w_X9 g h0 h1 h2 h3 (zq51.2.1, zq51.2.2.1, zq51.2.2.2.1, zq51.2.2.2.2.1, zq51.2.2.2.2.2.1, zq51.2.2.2.2.2.2.1, zq51.2.2.2.2.2.2.2.1, zf53, zq51.2.2.2.2.2.2.2.2.2.1, zq51.2.2.2.2.2.2.2.2.2.2.1, zq51.2.2.2.2.2.2.2.2.2.2.2)) H := hP
          have hD : va_D A (w_X9 g h0 h1 h2 h3 (zq51.2.1, zq51.2.2.1, zq51.2.2.2.1, zq51.2.2.2.2.1, zq51.2.2.2.2.2.1, zq51.2.2.2.2.2.2.1, zq51.2.2.2.2.2.2.2.1, zf53, zq51.2.2.2.2.2.2.2.2.2.1, zq51.2.2.2.2.2.2.2.2.2.2.1, zq51.2.2.2.2.2.2.2.2.2.2.2)) := hD
          refine lv_goto (tgt := 278) hx hb dX9_reads_254 (by decide) ?_
          refine lv_aload_n hx hb dX9_reads_278 rfl (lv_at hl 2 rfl) ?_
          refine lv_dup hx hb dX9_reads_279 rfl ?_
          refine va_get (D := g.1) (ci := 8) (v := .int zq51.2.2.2.2.2.2.2.2.2.1) (C := RX9) (T := TX9) (N := 11) hx hb htG in_wsX90 hown hK.1 hP 0 rfl rfl 8 (by decide) (htG _ g3_203) (fun _ h9 => h9) rfl dX9_reads_280 ?_
          refine lv_iconst (v := 1) hx hb dX9_reads_283 (by decide) ?_
          refine lv_iadd hx hb dX9_reads_284 ?_
          obtain ⟨zv54, ezv54, hm⟩ := bnk hm
          refine tope ezv54 ?_
          refine va_put (D := g.1) (ci := 8) (v := .int zv54) (ty := .int) (C := RX9) (T := TX9) (N := 11) hx hb htG in_wsX90 tyX9 tyX9_ok nmX9 hown hK.1 hP hD hS 0 rfl rfl 8 (by decide) (htG _ g3_203) (fun _ h9 => h9) rfl (by decide +kernel) rfl rfl (Nat.le_of_ble_eq_true rfl) dX9_reads_285 (fun H locs hP hD hS => ?_)
          have hP : va_P g.1 vwCl (w_X9 g h0 h1 h2 h3 (zq51.2.1, zq51.2.2.1, zq51.2.2.2.1, zq51.2.2.2.2.1, zq51.2.2.2.2.2.1, zq51.2.2.2.2.2.2.1, zq51.2.2.2.2.2.2.2.1, zf53, zv54, zq51.2.2.2.2.2.2.2.2.2.2.1, zq51.2.2.2.2.2.2.2.2.2.2.2)) H := hP
          have hD : va_D A (w_X9 g h0 h1 h2 h3 (zq51.2.1, zq51.2.2.1, zq51.2.2.2.1, zq51.2.2.2.2.1, zq51.2.2.2.2.2.1, zq51.2.2.2.2.2.2.1, zq51.2.2.2.2.2.2.2.1, zf53, zv54, zq51.2.2.2.2.2.2.2.2.2.2.1, zq51.2.2.2.2.2.2.2.2.2.2.2)) := hD
          exact W.vret hx hb hr (fun t ht hW => ⟨⟨_, rfl, (Option.some.inj hm), atH ht hP⟩, hS.F ht⟩) hS.2.2 dX9_reads_288
        · replace hm := (if_neg zc40).symm.trans hm
          refine lv_iload_n hx hb dX9_reads_60 rfl (lv_at hl 0 rfl) ?_
          refine lv_bipush (v := 100) hx hb dX9_reads_61 (by decide +kernel) ?_
          refine lv_icmp_eq (tgt := 72) hx hb dX9_reads_63 (by decide) (fun zc55 => ?_) (fun zc55 => ?_)
          · replace hm := (if_pos zc55).symm.trans hm
            refine lv_iconst (v := 1) hx hb dX9_reads_72 (by decide) ?_
            refine lv_goto (tgt := 77) hx hb dX9_reads_73 (by decide) ?_
            refine va_put (D := g.1) (ci := 8) (v := .int 1) (ty := .boolean) (C := RX9) (T := TX9) (N := 11) hx hb htG in_wsX90 tyX9 tyX9_ok nmX9 hown hK.1 hP hD hS 0 rfl rfl 6 (by decide) (htG _ g3_201) (fun _ h9 => h9) rfl (by decide +kernel) rfl rfl (Nat.le_of_ble_eq_true rfl) dX9_reads_77 (fun H locs hP hD hS => ?_)
            have hP : va_P g.1 vwCl (w_X9 g h0 h1 h2 h3 (x.1, x.2.1, x.2.2.1, x.2.2.2.1, x.2.2.2.2.1, x.2.2.2.2.2.1, 1, x.2.2.2.2.2.2.2.1, x.2.2.2.2.2.2.2.2.1, x.2.2.2.2.2.2.2.2.2.1, x.2.2.2.2.2.2.2.2.2.2)) H := hP
            have hD : va_D A (w_X9 g h0 h1 h2 h3 (x.1, x.2.1, x.2.2.1, x.2.2.2.1, x.2.2.2.2.1, x.2.2.2.2.2.1, 1, x.2.2.2.2.2.2.2.1, x.2.2.2.2.2.2.2.2.1, x.2.2.2.2.2.2.2.2.2.1, x.2.2.2.2.2.2.2.2.2.2)) := hD
            refine lv_aload_n hx hb dX9_reads_80 rfl (lv_at hl 2 rfl) ?_
            refine va_get (D := g.1) (ci := 8) (v := .int 1) (C := RX9) (T := TX9) (N := 11) hx hb htG in_wsX90 hown hK.1 hP 0 rfl rfl 6 (by decide) (htG _ g3_201) (fun _ h9 => h9) rfl dX9_reads_81 ?_
            refine lv_if_ne (tgt := 88) hx hb dX9_reads_84 (by decide) (fun _ => ?_) (fun zc56 => absurd zc56 (by decide))
            refine lv_aload_n hx hb dX9_reads_88 rfl (lv_at hl 2 rfl) ?_
            refine lv_dup hx hb dX9_reads_89 rfl ?_
            refine va_get (D := g.1) (ci := 8) (v := .int x.2.2.2.2.2.1) (C := RX9) (T := TX9) (N := 11) hx hb htG in_wsX90 hown hK.1 hP 0 rfl rfl 5 (by decide) (htG _ g3_200) (fun _ h9 => h9) rfl dX9_reads_90 ?_
            refine lv_iconst (v := 1) hx hb dX9_reads_93 (by decide) ?_
            refine lv_iadd hx hb dX9_reads_94 ?_
            obtain ⟨zv57, ezv57, hm⟩ := bnk hm
            refine tope ezv57 ?_
            refine va_put (D := g.1) (ci := 8) (v := .int zv57) (ty := .int) (C := RX9) (T := TX9) (N := 11) hx hb htG in_wsX90 tyX9 tyX9_ok nmX9 hown hK.1 hP hD hS 0 rfl rfl 5 (by decide) (htG _ g3_200) (fun _ h9 => h9) rfl (by decide +kernel) rfl rfl (Nat.le_of_ble_eq_true rfl) dX9_reads_95 (fun H locs hP hD hS => ?_)
            have hP : va_P g.1 vwCl (w_X9 g h0 h1 h2 h3 (x.1, x.2.1, x.2.2.1, x.2.2.2.1, x.2.2.2.2.1, zv57, 1, x.2.2.2.2.2.2.2.1, x.2.2.2.2.2.2.2.2.1, x.2.2.2.2.2.2.2.2.2.1, x.2.2.2.2.2.2.2.2.2.2)) H := hP
            have hD : va_D A (w_X9 g h0 h1 h2 h3 (x.1, x.2.1, x.2.2.1, x.2.2.2.1, x.2.2.2.2.1, zv57, 1, x.2.2.2.2.2.2.2.1, x.2.2.2.2.2.2.2.2.1, x.2.2.2.2.2.2.2.2.2.1, x.2.2.2.2.2.2.2.2.2.2)) := hD
            refine lv_aload_n hx hb dX9_reads_98 rfl (lv_at hl 2 rfl) ?_
            refine va_get (D := g.1) (ci := 8) (v := .ref h3) (C := RX9) (T := TX9) (N := 11) hx hb htG in_wsX90 hown hK.1 hP 0 rfl rfl 7 (by decide) (htG _ g3_202) (fun _ h9 => h9) rfl dX9_reads_99 ?_
            refine lv_iload_n hx hb dX9_reads_102 rfl (lv_at hl 1 rfl) ?_
            refine lv_iload_n hx hb dX9_reads_103 rfl (lv_at hl 0 rfl) ?_
            obtain ⟨zb58, hm⟩ := ibk hm
            obtain ⟨zf59, ezf59, hm⟩ := bnk hm
            refine iast_e hx hb hK.1 hP hD hS 3 0 rfl rfl zb58 dX9_reads_104 ezf59 (fun H locs hP hD hS => ?_)
            have hP : va_P g.1 vwCl (w_X9 g h0 h1 h2 h3 (x.1, x.2.1, x.2.2.1, x.2.2.2.1, x.2.2.2.2.1, zv57, 1, zf59, x.2.2.2.2.2.2.2.2.1, x.2.2.2.2.2.2.2.2.2.1, x.2.2.2.2.2.2.2.2.2.2)) H := hP
            have hD : va_D A (w_X9 g h0 h1 h2 h3 (x.1, x.2.1, x.2.2.1, x.2.2.2.1, x.2.2.2.2.1, zv57, 1, zf59, x.2.2.2.2.2.2.2.2.1, x.2.2.2.2.2.2.2.2.2.1, x.2.2.2.2.2.2.2.2.2.2)) := hD
            refine lv_iload_n hx hb dX9_reads_105 rfl (lv_at hl 0 rfl) ?_
            refine lv_bipush (v := 98) hx hb dX9_reads_106 (by decide +kernel) ?_
            refine lv_icmp_ne (tgt := 212) hx hb dX9_reads_108 (by decide) (fun _ => ?_) (fun zc60 => absurd zc60 zc14)
            refine lv_iload_n hx hb dX9_reads_212 rfl (lv_at hl 0 rfl) ?_
            refine lv_bipush (v := 101) hx hb dX9_reads_213 (by decide +kernel) ?_
            refine lv_icmp_ne (tgt := 257) hx hb dX9_reads_215 (by decide) (fun _ => ?_) (fun zc61 => absurd zc61 zc40)
            refine lv_iload_n hx hb dX9_reads_257 rfl (lv_at hl 0 rfl) ?_
            refine lv_bipush (v := 100) hx hb dX9_reads_258 (by decide +kernel) ?_
            refine lv_icmp_ne (tgt := 278) hx hb dX9_reads_260 (by decide) (fun zc62 => absurd zc55 zc62) (fun _ => ?_)
            refine lv_aload_n hx hb dX9_reads_263 rfl (lv_at hl 2 rfl) ?_
            refine va_get (D := g.1) (ci := 8) (v := .ref h3) (C := RX9) (T := TX9) (N := 11) hx hb htG in_wsX90 hown hK.1 hP 0 rfl rfl 7 (by decide) (htG _ g3_202) (fun _ h9 => h9) rfl dX9_reads_264 ?_
            refine lv_iload_n hx hb dX9_reads_267 rfl (lv_at hl 1 rfl) ?_
            refine lv_iconst (v := 1) hx hb dX9_reads_268 (by decide) ?_
            refine lv_iadd hx hb dX9_reads_269 ?_
            refine lv_aload_n hx hb dX9_reads_270 rfl (lv_at hl 2 rfl) ?_
            refine lv_iconst (v := 0) hx hb dX9_reads_271 (by decide) ?_
            refine lv_bipush (v := 99) hx hb dX9_reads_272 (by decide +kernel) ?_
            obtain ⟨zq63, hzq63, hm⟩ := bdk hm
            refine kw_ieA (va_runV (As := [.int 0, .int 99]) (rest := [.int ((6 * x.2.2.2.2.2.2.2.2.1) + 1), .ref h3]) ⟨hx, hb, hml, hown, htG⟩ (kX9_number l g h0 h1 h2 h3 _ (x.1, x.2.1, x.2.2.1, x.2.2.2.1, x.2.2.2.2.1, zv57, 1, zf59, x.2.2.2.2.2.2.2.2.1, x.2.2.2.2.2.2.2.2.2.1, x.2.2.2.2.2.2.2.2.2.2) 0 99 _ hzq63) (cwV 2 htG (GV g4_112 g4_114 gS_28 g1_10 g4_115) rfl rfl rfl hd_X9_number ⟨Nat.le_of_ble_eq_true rfl, Nat.le_of_ble_eq_true rfl⟩) (PW_VA hK hL hS hP hD hA (ci := 8) rfl 0 rfl) rfl rfl hl.1 rfl (lv_room (Nat.le_of_ble_eq_true rfl)) dX9_reads_274 ⟨Nat.zero_le _, Nat.zero_le _⟩) hD hS hA (fun _ => rfl) (fun H locs hP hD hS => ?_)
            have hP : va_P g.1 vwCl (w_X9 g h0 h1 h2 h3 zq63.2) H := hP
            have hD : va_D A (w_X9 g h0 h1 h2 h3 zq63.2) := hD
            obtain ⟨zb64, hm⟩ := ibk hm
            obtain ⟨zf65, ezf65, hm⟩ := bnk hm
            refine iast_e hx hb hK.1 hP hD hS 3 0 rfl rfl zb64 dX9_reads_277 ezf65 (fun H locs hP hD hS => ?_)
            have hP : va_P g.1 vwCl (w_X9 g h0 h1 h2 h3 (zq63.2.1, zq63.2.2.1, zq63.2.2.2.1, zq63.2.2.2.2.1, zq63.2.2.2.2.2.1, zq63.2.2.2.2.2.2.1, zq63.2.2.2.2.2.2.2.1, zf65, zq63.2.2.2.2.2.2.2.2.2.1, zq63.2.2.2.2.2.2.2.2.2.2.1, zq63.2.2.2.2.2.2.2.2.2.2.2)) H := hP
            have hD : va_D A (w_X9 g h0 h1 h2 h3 (zq63.2.1, zq63.2.2.1, zq63.2.2.2.1, zq63.2.2.2.2.1, zq63.2.2.2.2.2.1, zq63.2.2.2.2.2.2.1, zq63.2.2.2.2.2.2.2.1, zf65, zq63.2.2.2.2.2.2.2.2.2.1, zq63.2.2.2.2.2.2.2.2.2.2.1, zq63.2.2.2.2.2.2.2.2.2.2.2)) := hD
            refine lv_aload_n hx hb dX9_reads_278 rfl (lv_at hl 2 rfl) ?_
            refine lv_dup hx hb dX9_reads_279 rfl ?_
            refine va_get (D := g.1) (ci := 8) (v := .int zq63.2.2.2.2.2.2.2.2.2.1) (C := RX9) (T := TX9) (N := 11) hx hb htG in_wsX90 hown hK.1 hP 0 rfl rfl 8 (by decide) (htG _ g3_203) (fun _ h9 => h9) rfl dX9_reads_280 ?_
            refine lv_iconst (v := 1) hx hb dX9_reads_283 (by decide) ?_
            refine lv_iadd hx hb dX9_reads_284 ?_
            obtain ⟨zv66, ezv66, hm⟩ := bnk hm
            refine tope ezv66 ?_
            refine va_put (D := g.1) (ci := 8) (v := .int zv66) (ty := .int) (C := RX9) (T := TX9) (N := 11) hx hb htG in_wsX90 tyX9 tyX9_ok nmX9 hown hK.1 hP hD hS 0 rfl rfl 8 (by decide) (htG _ g3_203) (fun _ h9 => h9) rfl (by decide +kernel) rfl rfl (Nat.le_of_ble_eq_true rfl) dX9_reads_285 (fun H locs hP hD hS => ?_)
            have hP : va_P g.1 vwCl (w_X9 g h0 h1 h2 h3 (zq63.2.1, zq63.2.2.1, zq63.2.2.2.1, zq63.2.2.2.2.1, zq63.2.2.2.2.2.1, zq63.2.2.2.2.2.2.1, zq63.2.2.2.2.2.2.2.1, zf65, zv66, zq63.2.2.2.2.2.2.2.2.2.2.1, zq63.2.2.2.2.2.2.2.2.2.2.2)) H := hP
            have hD : va_D A (w_X9 g h0 h1 h2 h3 (zq63.2.1, zq63.2.2.1, zq63.2.2.2.1, zq63.2.2.2.2.1, zq63.2.2.2.2.2.1, zq63.2.2.2.2.2.2.1, zq63.2.2.2.2.2.2.2.1, zf65, zv66, zq63.2.2.2.2.2.2.2.2.2.2.1, zq63.2.2.2.2.2.2.2.2.2.2.2)) := hD
            exact W.vret hx hb hr (fun t ht hW => ⟨⟨_, rfl, (Option.some.inj hm), atH ht hP⟩, hS.F ht⟩) hS.2.2 dX9_reads_288
          · replace hm := (if_neg zc55).symm.trans hm
            refine lv_iload_n hx hb dX9_reads_66 rfl (lv_at hl 0 rfl) ?_
            refine lv_bipush (v := 110) hx hb dX9_reads_67 (by decide +kernel) ?_
            refine lv_icmp_ne (tgt := 76) hx hb dX9_reads_69 (by decide) (fun zc67 => ?_) (fun zc67 => ?_)
            · replace hm := (if_neg zc67).symm.trans hm
              refine lv_iconst (v := 0) hx hb dX9_reads_76 (by decide) ?_
              refine va_put (D := g.1) (ci := 8) (v := .int 0) (ty := .boolean) (C := RX9) (T := TX9) (N := 11) hx hb htG in_wsX90 tyX9 tyX9_ok nmX9 hown hK.1 hP hD hS 0 rfl rfl 6 (by decide) (htG _ g3_201) (fun _ h9 => h9) rfl (by decide +kernel) rfl rfl (Nat.le_of_ble_eq_true rfl) dX9_reads_77 (fun H locs hP hD hS => ?_)
              have hP : va_P g.1 vwCl (w_X9 g h0 h1 h2 h3 (x.1, x.2.1, x.2.2.1, x.2.2.2.1, x.2.2.2.2.1, x.2.2.2.2.2.1, 0, x.2.2.2.2.2.2.2.1, x.2.2.2.2.2.2.2.2.1, x.2.2.2.2.2.2.2.2.2.1, x.2.2.2.2.2.2.2.2.2.2)) H := hP
              have hD : va_D A (w_X9 g h0 h1 h2 h3 (x.1, x.2.1, x.2.2.1, x.2.2.2.1, x.2.2.2.2.1, x.2.2.2.2.2.1, 0, x.2.2.2.2.2.2.2.1, x.2.2.2.2.2.2.2.2.1, x.2.2.2.2.2.2.2.2.2.1, x.2.2.2.2.2.2.2.2.2.2)) := hD
              refine lv_aload_n hx hb dX9_reads_80 rfl (lv_at hl 2 rfl) ?_
              refine va_get (D := g.1) (ci := 8) (v := .int 0) (C := RX9) (T := TX9) (N := 11) hx hb htG in_wsX90 hown hK.1 hP 0 rfl rfl 6 (by decide) (htG _ g3_201) (fun _ h9 => h9) rfl dX9_reads_81 ?_
              refine lv_if_ne (tgt := 88) hx hb dX9_reads_84 (by decide) (fun zc68 => absurd zc68 (by decide)) (fun _ => ?_)
              exact W.vret hx hb hr (fun t ht hW => ⟨⟨_, rfl, (Option.some.inj hm), atH ht hP⟩, hS.F ht⟩) hS.2.2 dX9_reads_87
            · replace hm := (if_pos zc67).symm.trans hm
              refine lv_iconst (v := 1) hx hb dX9_reads_72 (by decide) ?_
              refine lv_goto (tgt := 77) hx hb dX9_reads_73 (by decide) ?_
              refine va_put (D := g.1) (ci := 8) (v := .int 1) (ty := .boolean) (C := RX9) (T := TX9) (N := 11) hx hb htG in_wsX90 tyX9 tyX9_ok nmX9 hown hK.1 hP hD hS 0 rfl rfl 6 (by decide) (htG _ g3_201) (fun _ h9 => h9) rfl (by decide +kernel) rfl rfl (Nat.le_of_ble_eq_true rfl) dX9_reads_77 (fun H locs hP hD hS => ?_)
              have hP : va_P g.1 vwCl (w_X9 g h0 h1 h2 h3 (x.1, x.2.1, x.2.2.1, x.2.2.2.1, x.2.2.2.2.1, x.2.2.2.2.2.1, 1, x.2.2.2.2.2.2.2.1, x.2.2.2.2.2.2.2.2.1, x.2.2.2.2.2.2.2.2.2.1, x.2.2.2.2.2.2.2.2.2.2)) H := hP
              have hD : va_D A (w_X9 g h0 h1 h2 h3 (x.1, x.2.1, x.2.2.1, x.2.2.2.1, x.2.2.2.2.1, x.2.2.2.2.2.1, 1, x.2.2.2.2.2.2.2.1, x.2.2.2.2.2.2.2.2.1, x.2.2.2.2.2.2.2.2.2.1, x.2.2.2.2.2.2.2.2.2.2)) := hD
              refine lv_aload_n hx hb dX9_reads_80 rfl (lv_at hl 2 rfl) ?_
              refine va_get (D := g.1) (ci := 8) (v := .int 1) (C := RX9) (T := TX9) (N := 11) hx hb htG in_wsX90 hown hK.1 hP 0 rfl rfl 6 (by decide) (htG _ g3_201) (fun _ h9 => h9) rfl dX9_reads_81 ?_
              refine lv_if_ne (tgt := 88) hx hb dX9_reads_84 (by decide) (fun _ => ?_) (fun zc69 => absurd zc69 (by decide))
              refine lv_aload_n hx hb dX9_reads_88 rfl (lv_at hl 2 rfl) ?_
              refine lv_dup hx hb dX9_reads_89 rfl ?_
              refine va_get (D := g.1) (ci := 8) (v := .int x.2.2.2.2.2.1) (C := RX9) (T := TX9) (N := 11) hx hb htG in_wsX90 hown hK.1 hP 0 rfl rfl 5 (by decide) (htG _ g3_200) (fun _ h9 => h9) rfl dX9_reads_90 ?_
              refine lv_iconst (v := 1) hx hb dX9_reads_93 (by decide) ?_
              refine lv_iadd hx hb dX9_reads_94 ?_
              obtain ⟨zv70, ezv70, hm⟩ := bnk hm
              refine tope ezv70 ?_
              refine va_put (D := g.1) (ci := 8) (v := .int zv70) (ty := .int) (C := RX9) (T := TX9) (N := 11) hx hb htG in_wsX90 tyX9 tyX9_ok nmX9 hown hK.1 hP hD hS 0 rfl rfl 5 (by decide) (htG _ g3_200) (fun _ h9 => h9) rfl (by decide +kernel) rfl rfl (Nat.le_of_ble_eq_true rfl) dX9_reads_95 (fun H locs hP hD hS => ?_)
              have hP : va_P g.1 vwCl (w_X9 g h0 h1 h2 h3 (x.1, x.2.1, x.2.2.1, x.2.2.2.1, x.2.2.2.2.1, zv70, 1, x.2.2.2.2.2.2.2.1, x.2.2.2.2.2.2.2.2.1, x.2.2.2.2.2.2.2.2.2.1, x.2.2.2.2.2.2.2.2.2.2)) H := hP
              have hD : va_D A (w_X9 g h0 h1 h2 h3 (x.1, x.2.1, x.2.2.1, x.2.2.2.1, x.2.2.2.2.1, zv70, 1, x.2.2.2.2.2.2.2.1, x.2.2.2.2.2.2.2.2.1, x.2.2.2.2.2.2.2.2.2.1, x.2.2.2.2.2.2.2.2.2.2)) := hD
              refine lv_aload_n hx hb dX9_reads_98 rfl (lv_at hl 2 rfl) ?_
              refine va_get (D := g.1) (ci := 8) (v := .ref h3) (C := RX9) (T := TX9) (N := 11) hx hb htG in_wsX90 hown hK.1 hP 0 rfl rfl 7 (by decide) (htG _ g3_202) (fun _ h9 => h9) rfl dX9_reads_99 ?_
              refine lv_iload_n hx hb dX9_reads_102 rfl (lv_at hl 1 rfl) ?_
              refine lv_iload_n hx hb dX9_reads_103 rfl (lv_at hl 0 rfl) ?_
              obtain ⟨zb71, hm⟩ := ibk hm
              obtain ⟨zf72, ezf72, hm⟩ := bnk hm
              refine iast_e hx hb hK.1 hP hD hS 3 0 rfl rfl zb71 dX9_reads_104 ezf72 (fun H locs hP hD hS => ?_)
              have hP : va_P g.1 vwCl (w_X9 g h0 h1 h2 h3 (x.1, x.2.1, x.2.2.1, x.2.2.2.1, x.2.2.2.2.1, zv70, 1, zf72, x.2.2.2.2.2.2.2.2.1, x.2.2.2.2.2.2.2.2.2.1, x.2.2.2.2.2.2.2.2.2.2)) H := hP
              have hD : va_D A (w_X9 g h0 h1 h2 h3 (x.1, x.2.1, x.2.2.1, x.2.2.2.1, x.2.2.2.2.1, zv70, 1, zf72, x.2.2.2.2.2.2.2.2.1, x.2.2.2.2.2.2.2.2.2.1, x.2.2.2.2.2.2.2.2.2.2)) := hD
              refine lv_iload_n hx hb dX9_reads_105 rfl (lv_at hl 0 rfl) ?_
              refine lv_bipush (v := 98) hx hb dX9_reads_106 (by decide +kernel) ?_
              refine lv_icmp_ne (tgt := 212) hx hb dX9_reads_108 (by decide) (fun _ => ?_) (fun zc73 => absurd zc73 zc14)
              refine lv_iload_n hx hb dX9_reads_212 rfl (lv_at hl 0 rfl) ?_
              refine lv_bipush (v := 101) hx hb dX9_reads_213 (by decide +kernel) ?_
              refine lv_icmp_ne (tgt := 257) hx hb dX9_reads_215 (by decide) (fun _ => ?_) (fun zc74 => absurd zc74 zc40)
              refine lv_iload_n hx hb dX9_reads_257 rfl (lv_at hl 0 rfl) ?_
              refine lv_bipush (v := 100) hx hb dX9_reads_258 (by decide +kernel) ?_
              refine lv_icmp_ne (tgt := 278) hx hb dX9_reads_260 (by decide) (fun _ => ?_) (fun zc75 => absurd zc75 zc55)
              refine lv_aload_n hx hb dX9_reads_278 rfl (lv_at hl 2 rfl) ?_
              refine lv_dup hx hb dX9_reads_279 rfl ?_
              refine va_get (D := g.1) (ci := 8) (v := .int x.2.2.2.2.2.2.2.2.1) (C := RX9) (T := TX9) (N := 11) hx hb htG in_wsX90 hown hK.1 hP 0 rfl rfl 8 (by decide) (htG _ g3_203) (fun _ h9 => h9) rfl dX9_reads_280 ?_
              refine lv_iconst (v := 1) hx hb dX9_reads_283 (by decide) ?_
              refine lv_iadd hx hb dX9_reads_284 ?_
              obtain ⟨zv76, ezv76, hm⟩ := bnk hm
              refine tope ezv76 ?_
              refine va_put (D := g.1) (ci := 8) (v := .int zv76) (ty := .int) (C := RX9) (T := TX9) (N := 11) hx hb htG in_wsX90 tyX9 tyX9_ok nmX9 hown hK.1 hP hD hS 0 rfl rfl 8 (by decide) (htG _ g3_203) (fun _ h9 => h9) rfl (by decide +kernel) rfl rfl (Nat.le_of_ble_eq_true rfl) dX9_reads_285 (fun H locs hP hD hS => ?_)
              have hP : va_P g.1 vwCl (w_X9 g h0 h1 h2 h3 (x.1, x.2.1, x.2.2.1, x.2.2.2.1, x.2.2.2.2.1, zv70, 1, zf72, zv76, x.2.2.2.2.2.2.2.2.2.1, x.2.2.2.2.2.2.2.2.2.2)) H := hP
              have hD : va_D A (w_X9 g h0 h1 h2 h3 (x.1, x.2.1, x.2.2.1, x.2.2.2.1, x.2.2.2.2.1, zv70, 1, zf72, zv76, x.2.2.2.2.2.2.2.2.2.1, x.2.2.2.2.2.2.2.2.2.2)) := hD
              exact W.vret hx hb hr (fun t ht hW => ⟨⟨_, rfl, (Option.some.inj hm), atH ht hP⟩, hS.F ht⟩) hS.2.2 dX9_reads_288
