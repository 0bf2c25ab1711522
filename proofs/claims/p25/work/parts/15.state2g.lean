def fX6_endHour_L1 (p1 : Int32) : Nat → Int32 → Int32 → SD → Option (Int32 × SD)
  | 0, _, _, _ => none
  | n + 1, i1_2, i1_3, x1 => (if 3 ≤ i1_3 then (some (i1_2, x1)) else ((fX6_endSlot x1 i1_3 p1).bind (fun zq8 => (if zq8.1 = 0 then (fX6_endHour_L1 p1 n (i1_2 + 0) (i1_3 + 1) zq8.2) else (fX6_endHour_L1 p1 n (i1_2 + 1) (i1_3 + 1) zq8.2)))))
def fX6_endHour_L0  : Nat → Int32 → SD → Option (SD)
  | 0, _, _ => none
  | n + 1, i0_2, x0 => (if 3 ≤ i0_2 then (some x0) else (if (fX6_isOpen x0 i0_2 x0.2.1) = 0 then (fX6_endHour_L0  n (i0_2 + 1) x0) else ((fX6_awardOpen x0 i0_2 x0.2.1).bind (fun zq5 => (fX6_endHour_L0  n (i0_2 + 1) zq5.2)))))
def fX6_endHour (x : SD) (p1 : Int32) : Option (Int32 × SD) := (if (fX8_isWind p1) = 0 then some ((-2), x) else (if x.2.1 < 16 then ((fX6_endHour_L0 1000 0 x).bind (fun zq6 => ((fX6_endHour_L1 p1 1000 0 0 zq6).bind (fun zq10 => (bnd (rput zq10.2.2.2.2.1 16 zq10.2.2.1 p1) (fun zq11 => (bnd (zq10.2.2.1 + 1) (fun zv12 => some (zq10.1, (zq10.2.1, zv12, zq10.2.2.2.1, zq11, zq10.2.2.2.2.2.1, zq10.2.2.2.2.2.2.1, zq10.2.2.2.2.2.2.2.1, zq10.2.2.2.2.2.2.2.2)))))))))) else some ((-4), x)))
abbrev rm_X6_endHour : Jvm.Room := { frames := 4, cells := 0, slots := 0, locals := 94 }
theorem hd_X6_endHour : yX6_endHour.cls = RX6 ∧ yX6_endHour.cls ≠ "java/lang/invoke/MethodHandle" ∧ yX6_endHour.cls ≠ "java/lang/invoke/VarHandle" ∧ (parseMethodDescriptor yX6_endHour.desc).map (fun d => d.parameters.length) = some 1 := by decide +kernel
set_option maxHeartbeats 4000000 in
set_option maxRecDepth 100000 in
theorem kX6_endHour (l : Launch) (g : CX) (a : Nat → Nat) (sz : Nat) (x : SD) (p1 : Int32) (res : Int32 × SD) (hm0 : fX6_endHour x p1 = some res) : Met l yX6_endHour (wg yX6_endHour cX6_endHour 4 (some .int)) rm_X6_endHour (PW g [.ref (a 0), .int p1] sz (w_X6 g a x)) (va_Qi (fun v u => v = res.1 ∧ u = res.2) (fun u t => va_P g.1 vwCl (w_X6 g a u) t.heap) (va_A (w_X6 g a x) sz)) 0 0 (va_A (w_X6 g a x) sz) := by
  refine Met.ofW (cc := cX6_endHour) (maxL := 4) (ret := (some .int)) (by decide) rfl ?_
  intro p e s m args below meth c s₁ B hml hv
  obtain ⟨rfl, hsz, hP, hK, hD0, hL⟩ := hv
  have hx := B.exec
  have hb := B.bytes
  have hr := B.returns
  have htG := wg_G (atoms_spec (ws := wg yX6_endHour cX6_endHour 4 (some .int)) B.pre)
  have hown : s.vm.findClass RX6 = some m.cls := findClass_of_methodNamed B.named
  have hlocks := B.notSynchronized
  subst hsz
  have hD := hD0.self (sz := s.heap.size)
  generalize hAe : va_A (w_X6 g a x) s.heap.size = A at hD hL ⊢
  have hA : ∀ q : Nat, s.heap.size ≤ q → A q := fun q h => by rw [← hAe]; exact Or.inr h
  have hS : va_S A s.heap s.heap [] := va_S.rf
  have hl := lv_entry ([.ref (a 0), .int p1]) (n := 4) (Nat.le_of_ble_eq_true rfl)
  rw [lg_entry_eq]
  generalize (lg_sl ([.ref (a 0), .int p1]) ++ List.replicate (4 - (lg_sl ([.ref (a 0), .int p1])).length) Slot.unset).toArray = ls at hl ⊢
  have hl : lv_has ls 4 [(0, .ref (a 0)), (1, .int p1)] := hl
  have hm := hm0
  unfold fX6_endHour at hm
  have hL0 : ∀ (Q : State → Prop), ∀ (n : Nat) (i0_2 : Int32) (x0 : SD) (out : SD) (H : Heap) (locs : List Loc) (ls : Array Slot), fX6_endHour_L0 n i0_2 x0 = some out → va_P g.1 vwCl (w_X6 g a x0) H → va_D A (w_X6 g a x0) → va_S A s.heap H locs → lv_has ls 4 [(0, .ref (a 0)), (1, .int p1), (2, .int i0_2)] → (∀ (H : Heap) (locs : List Loc) (ls : Array Slot), va_P g.1 vwCl (w_X6 g a out) H → va_D A (w_X6 g a out) → va_S A s.heap H locs → lv_has ls 4 [(0, .ref (a 0)), (1, .int p1)] → W p l e (headSpec (wg yX6_endHour cX6_endHour 4 (some .int)) rm_X6_endHour).room s m (([.ref (a 0), .int p1] : List Value).toArray) below meth c H locs 0 0 Q (F0 m 57 ls [])) → W p l e (headSpec (wg yX6_endHour cX6_endHour 4 (some .int)) rm_X6_endHour).room s m (([.ref (a 0), .int p1] : List Value).toArray) below meth c H locs 0 0 Q (F0 m 24 ls []) := by
    intro Q n
    induction n with
    | zero =>
      intro i0_2 x0 out H locs ls hm hP hD hS hl hk
      simp [fX6_endHour_L0] at hm
    | succ n ih =>
      intro i0_2 x0 out H locs ls hm hP hD hS hl hk
      rw [fX6_endHour_L0] at hm
      refine lv_iload_n hx hb dX6_endHour_24 rfl (lv_at hl 2 rfl) ?_
      refine lv_iconst (v := 3) hx hb dX6_endHour_25 (by decide) ?_
      refine lv_icmp_ge (tgt := 57) hx hb dX6_endHour_26 (by decide) (fun zc3 => ?_) (fun zc3 => ?_)
      · replace hm := (if_pos zc3).symm.trans hm
        obtain rfl := Option.some.inj hm
        exact hk H locs ls hP hD hS (lv_sub hl [0, 1] rfl)
      · replace hm := (if_neg zc3).symm.trans hm
        refine lv_aload_n hx hb dX6_endHour_29 rfl (lv_at hl 0 rfl) ?_
        refine lv_iload_n hx hb dX6_endHour_30 rfl (lv_at hl 2 rfl) ?_
        refine lv_aload_n hx hb dX6_endHour_31 rfl (lv_at hl 0 rfl) ?_
        refine va_get (D := g.1) (ci := 5) (v := .int x0.2.1) (C := RX6) (T := TX6) (N := 8) hx hb htG in_wsX60 hown hK.1 hP 0 rfl rfl 1 (by decide) (htG _ g1_131) (fun _ h9 => h9) rfl dX6_endHour_32 ?_
        refine ko_e (va_runV (As := [.int i0_2, .int x0.2.1]) (rest := []) ⟨hx, hb, hml, hown, htG⟩ (kX6_isOpen l g a x0 i0_2 x0.2.1 _ rfl) (cwV 2 htG (GV g2_122 g2_123 g2_124 g1_2 g2_125) rfl rfl rfl hd_X6_isOpen ⟨Nat.le_of_ble_eq_true rfl, Nat.le_of_ble_eq_true rfl⟩) (PR_VA hK hL hS hP (ci := 5) rfl 0 rfl) rfl rfl hl.1 rfl (lv_room (Nat.le_of_ble_eq_true rfl)) dX6_endHour_35 ⟨Nat.zero_le _, Nat.zero_le _⟩) ?_
        refine lv_if_eq (tgt := 51) hx hb dX6_endHour_38 (by decide) (fun zc4 => ?_) (fun zc4 => ?_)
        · replace hm := (if_pos zc4).symm.trans hm
          refine lv_iinc (v := i0_2 + 1) (lv' := [(2, .int (i0_2 + 1)), (0, .ref (a 0)), (1, .int p1)]) hx hb dX6_endHour_51 hl (k := 2) rfl rfl (by decide) rfl (fun ls hl => ?_)
          refine lv_goto (tgt := 24) hx hb dX6_endHour_54 (by decide) ?_
          exact ih (i0_2 + 1) x0 out H locs ls hm hP hD hS (lv_sub hl [1, 2, 0] rfl) hk
        · replace hm := (if_neg zc4).symm.trans hm
          refine lv_aload_n hx hb dX6_endHour_41 rfl (lv_at hl 0 rfl) ?_
          refine lv_iload_n hx hb dX6_endHour_42 rfl (lv_at hl 2 rfl) ?_
          refine lv_aload_n hx hb dX6_endHour_43 rfl (lv_at hl 0 rfl) ?_
          refine va_get (D := g.1) (ci := 5) (v := .int x0.2.1) (C := RX6) (T := TX6) (N := 8) hx hb htG in_wsX60 hown hK.1 hP 0 rfl rfl 1 (by decide) (htG _ g1_131) (fun _ h9 => h9) rfl dX6_endHour_44 ?_
          obtain ⟨zq5, hzq5, hm⟩ := bdk hm
          refine kw_ieA (va_runV (As := [.int i0_2, .int x0.2.1]) (rest := []) ⟨hx, hb, hml, hown, htG⟩ (kX6_awardOpen l g a _ x0 i0_2 x0.2.1 _ hzq5) (cwV 2 htG (GV g2_188 g2_189 g2_190 g1_2 g2_191) rfl rfl rfl hd_X6_awardOpen ⟨Nat.le_of_ble_eq_true rfl, Nat.le_of_ble_eq_true rfl⟩) (PW_VA hK hL hS hP hD hA (ci := 5) rfl 0 rfl) rfl rfl hl.1 rfl (lv_room (Nat.le_of_ble_eq_true rfl)) dX6_endHour_47 ⟨Nat.zero_le _, Nat.zero_le _⟩) hD hS hA (fun _ => rfl) (fun H locs hP hD hS => ?_)
          have hP : va_P g.1 vwCl (w_X6 g a zq5.2) H := hP
          have hD : va_D A (w_X6 g a zq5.2) := hD
          refine lv_pop hx hb dX6_endHour_50 rfl ?_
          refine lv_iinc (v := i0_2 + 1) (lv' := [(2, .int (i0_2 + 1)), (0, .ref (a 0)), (1, .int p1)]) hx hb dX6_endHour_51 hl (k := 2) rfl rfl (by decide) rfl (fun ls hl => ?_)
          refine lv_goto (tgt := 24) hx hb dX6_endHour_54 (by decide) ?_
          exact ih (i0_2 + 1) zq5.2 out H locs ls hm hP hD hS (lv_sub hl [1, 2, 0] rfl) hk
  have hL1 : ∀ (Q : State → Prop), ∀ (n : Nat) (i1_2 : Int32) (i1_3 : Int32) (x1 : SD) (out : Int32 × SD) (H : Heap) (locs : List Loc) (ls : Array Slot), fX6_endHour_L1 p1 n i1_2 i1_3 x1 = some out → va_P g.1 vwCl (w_X6 g a x1) H → va_D A (w_X6 g a x1) → va_S A s.heap H locs → lv_has ls 4 [(0, .ref (a 0)), (1, .int p1), (2, .int i1_2), (3, .int i1_3)] → (∀ (H : Heap) (locs : List Loc) (ls : Array Slot), va_P g.1 vwCl (w_X6 g a out.2) H → va_D A (w_X6 g a out.2) → va_S A s.heap H locs → lv_has ls 4 [(0, .ref (a 0)), (1, .int p1), (2, .int out.1)] → W p l e (headSpec (wg yX6_endHour cX6_endHour 4 (some .int)) rm_X6_endHour).room s m (([.ref (a 0), .int p1] : List Value).toArray) below meth c H locs 0 0 Q (F0 m 89 ls [])) → W p l e (headSpec (wg yX6_endHour cX6_endHour 4 (some .int)) rm_X6_endHour).room s m (([.ref (a 0), .int p1] : List Value).toArray) below meth c H locs 0 0 Q (F0 m 61 ls []) := by
    intro Q n
    induction n with
    | zero =>
      intro i1_2 i1_3 x1 out H locs ls hm hP hD hS hl hk
      simp [fX6_endHour_L1] at hm
    | succ n ih =>
      intro i1_2 i1_3 x1 out H locs ls hm hP hD hS hl hk
      rw [fX6_endHour_L1] at hm
      refine lv_iload_n hx hb dX6_endHour_61 rfl (lv_at hl 3 rfl) ?_
      refine lv_iconst (v := 3) hx hb dX6_endHour_62 (by decide) ?_
      refine lv_icmp_ge (tgt := 89) hx hb dX6_endHour_63 (by decide) (fun zc7 => ?_) (fun zc7 => ?_)
      · replace hm := (if_pos zc7).symm.trans hm
        obtain rfl := Option.some.inj hm
        exact hk H locs ls hP hD hS (lv_sub hl [0, 1, 2] rfl)
      · replace hm := (if_neg zc7).symm.trans hm
        refine lv_iload_n hx hb dX6_endHour_66 rfl (lv_at hl 2 rfl) ?_
        refine lv_aload_n hx hb dX6_endHour_67 rfl (lv_at hl 0 rfl) ?_
        refine lv_iload_n hx hb dX6_endHour_68 rfl (lv_at hl 3 rfl) ?_
        refine lv_iload_n hx hb dX6_endHour_69 rfl (lv_at hl 1 rfl) ?_
        obtain ⟨zq8, hzq8, hm⟩ := bdk hm
        refine kw_ieA (va_runV (As := [.int i1_3, .int p1]) (rest := [.int i1_2]) ⟨hx, hb, hml, hown, htG⟩ (kX6_endSlot l g a _ x1 i1_3 p1 _ hzq8) (cwV 2 htG (GV g3_13 g3_14 g3_15 g1_2 g3_16) rfl rfl rfl hd_X6_endSlot ⟨Nat.le_of_ble_eq_true rfl, Nat.le_of_ble_eq_true rfl⟩) (PW_VA hK hL hS hP hD hA (ci := 5) rfl 0 rfl) rfl rfl hl.1 rfl (lv_room (Nat.le_of_ble_eq_true rfl)) dX6_endHour_70 ⟨Nat.zero_le _, Nat.zero_le _⟩) hD hS hA (fun _ => rfl) (fun H locs hP hD hS => ?_)
        have hP : va_P g.1 vwCl (w_X6 g a zq8.2) H := hP
        have hD : va_D A (w_X6 g a zq8.2) := hD
        refine lv_if_eq (tgt := 80) hx hb dX6_endHour_73 (by decide) (fun zc9 => ?_) (fun zc9 => ?_)
        · replace hm := (if_pos zc9).symm.trans hm
          refine lv_iconst (v := 0) hx hb dX6_endHour_80 (by decide) ?_
          refine lv_iadd hx hb dX6_endHour_81 ?_
          refine lv_istore_n (lv' := [(2, .int (i1_2 + 0)), (0, .ref (a 0)), (1, .int p1), (3, .int i1_3)]) hx hb dX6_endHour_82 rfl hl (by decide) rfl (fun ls hl => ?_)
          refine lv_iinc (v := i1_3 + 1) (lv' := [(3, .int (i1_3 + 1)), (2, .int (i1_2 + 0)), (0, .ref (a 0)), (1, .int p1)]) hx hb dX6_endHour_83 hl (k := 3) rfl rfl (by decide) rfl (fun ls hl => ?_)
          refine lv_goto (tgt := 61) hx hb dX6_endHour_86 (by decide) ?_
          exact ih (i1_2 + 0) (i1_3 + 1) zq8.2 out H locs ls hm hP hD hS (lv_sub hl [2, 3, 1, 0] rfl) hk
        · replace hm := (if_neg zc9).symm.trans hm
          refine lv_iconst (v := 1) hx hb dX6_endHour_76 (by decide) ?_
          refine lv_goto (tgt := 81) hx hb dX6_endHour_77 (by decide) ?_
          refine lv_iadd hx hb dX6_endHour_81 ?_
          refine lv_istore_n (lv' := [(2, .int (i1_2 + 1)), (0, .ref (a 0)), (1, .int p1), (3, .int i1_3)]) hx hb dX6_endHour_82 rfl hl (by decide) rfl (fun ls hl => ?_)
          refine lv_iinc (v := i1_3 + 1) (lv' := [(3, .int (i1_3 + 1)), (2, .int (i1_2 + 1)), (0, .ref (a 0)), (1, .int p1)]) hx hb dX6_endHour_83 hl (k := 3) rfl rfl (by decide) rfl (fun ls hl => ?_)
          refine lv_goto (tgt := 61) hx hb dX6_endHour_86 (by decide) ?_
          exact ih (i1_2 + 1) (i1_3 + 1) zq8.2 out H locs ls hm hP hD hS (lv_sub hl [2, 3, 1, 0] rfl) hk
  refine lv_iload_n hx hb dX6_endHour_0 rfl (lv_at hl 1 rfl) ?_
  refine ko_e (va_runSN (As := [.int p1]) (rest := []) ⟨hx, hb, hml, hown, htG⟩ (kX8_isWind l g p1 _ rfl) ⟨va_cnB 1 htG (GC g2_55) rfl rfl rfl (nw_35 hK) (htG _ g1_1) hs_X8_isWind ⟨Nat.le_of_ble_eq_true rfl, Nat.le_of_ble_eq_true rfl⟩, htG _ g2_54, trivial⟩ (PR_S hK hL hS hP [] rfl) rfl rfl hl.1 rfl (lv_room (Nat.le_of_ble_eq_true rfl)) dX6_endHour_1 ⟨Nat.zero_le _, Nat.zero_le _⟩) ?_
  refine lv_if_ne (tgt := 10) hx hb dX6_endHour_4 (by decide) (fun zc1 => ?_) (fun zc1 => ?_)
  · replace hm := (if_neg zc1).symm.trans hm
    refine lv_aload_n hx hb dX6_endHour_10 rfl (lv_at hl 0 rfl) ?_
    refine va_get (D := g.1) (ci := 5) (v := .int x.2.1) (C := RX6) (T := TX6) (N := 8) hx hb htG in_wsX60 hown hK.1 hP 0 rfl rfl 1 (by decide) (htG _ g1_131) (fun _ h9 => h9) rfl dX6_endHour_11 ?_
    refine lv_bipush (v := 16) hx hb dX6_endHour_14 (by decide +kernel) ?_
    refine lv_icmp_lt (tgt := 22) hx hb dX6_endHour_16 (by decide) (fun zc2 => ?_) (fun zc2 => ?_)
    · replace hm := (if_pos zc2).symm.trans hm
      refine lv_iconst (v := 0) hx hb dX6_endHour_22 (by decide) ?_
      refine lv_istore_n (lv' := [(2, .int 0), (0, .ref (a 0)), (1, .int p1)]) hx hb dX6_endHour_23 rfl hl (by decide) rfl (fun ls hl => ?_)
      obtain ⟨zq6, hzq6, hm⟩ := bdk hm
      refine hL0 _ 1000 0 x zq6 _ _ _ hzq6 hP hD hS (lv_sub hl [1, 2, 0] rfl) (fun H locs ls hP hD hS hl => ?_)
      refine lv_iconst (v := 0) hx hb dX6_endHour_57 (by decide) ?_
      refine lv_istore_n (lv' := [(2, .int 0), (0, .ref (a 0)), (1, .int p1)]) hx hb dX6_endHour_58 rfl hl (by decide) rfl (fun ls hl => ?_)
      refine lv_iconst (v := 0) hx hb dX6_endHour_59 (by decide) ?_
      refine lv_istore_n (lv' := [(3, .int 0), (2, .int 0), (0, .ref (a 0)), (1, .int p1)]) hx hb dX6_endHour_60 rfl hl (by decide) rfl (fun ls hl => ?_)
      obtain ⟨zq10, hzq10, hm⟩ := bdk hm
      refine hL1 _ 1000 0 0 zq6 zq10 _ _ _ hzq10 hP hD hS (lv_sub hl [2, 3, 1, 0] rfl) (fun H locs ls hP hD hS hl => ?_)
      refine lv_aload_n hx hb dX6_endHour_89 rfl (lv_at hl 0 rfl) ?_
      refine va_get (D := g.1) (ci := 5) (v := .ref (a 2)) (C := RX6) (T := TX6) (N := 8) hx hb htG in_wsX60 hown hK.1 hP 0 rfl rfl 3 (by decide) (htG _ g1_134) (fun _ h9 => h9) rfl dX6_endHour_90 ?_
      refine lv_aload_n hx hb dX6_endHour_93 rfl (lv_at hl 0 rfl) ?_
      refine va_get (D := g.1) (ci := 5) (v := .int zq10.2.2.1) (C := RX6) (T := TX6) (N := 8) hx hb htG in_wsX60 hown hK.1 hP 0 rfl rfl 1 (by decide) (htG _ g1_131) (fun _ h9 => h9) rfl dX6_endHour_94 ?_
      refine lv_iload_n hx hb dX6_endHour_97 rfl (lv_at hl 1 rfl) ?_
      obtain ⟨zq11, hzq11, hm⟩ := bnk hm
      refine kw_ve (va_runS (As := [.ref (a 2), .int zq10.2.2.1, .int p1]) (rest := []) ⟨hx, hb, hml, hown, htG⟩ (kX4_put l g (a 2) _ zq10.2.2.2.2.1 16 zq10.2.2.1 p1 _ ((t_X4_put _ _ _ _ (by decide)).trans (congrArg some hzq11))) (va_cwS 3 htG (GS g2_63 g2_64 g1_5 g2_65) rfl rfl rfl hs_X4_put ⟨Nat.le_of_ble_eq_true rfl, Nat.le_of_ble_eq_true rfl⟩) (PW_S hK hL hS hP hD hA [2] rfl rfl) rfl rfl hl.1 rfl (lv_room (Nat.le_of_ble_eq_true rfl)) dX6_endHour_98 ⟨Nat.zero_le _, Nat.zero_le _⟩) hP hD hS hA [2] rfl rfl (fun _ => rfl) (fun H locs hP hD hS => ?_)
      have hP : va_P g.1 vwCl (w_X6 g a (zq10.2.1, zq10.2.2.1, zq10.2.2.2.1, zq11, zq10.2.2.2.2.2.1, zq10.2.2.2.2.2.2.1, zq10.2.2.2.2.2.2.2.1, zq10.2.2.2.2.2.2.2.2)) H := hP
      have hD : va_D A (w_X6 g a (zq10.2.1, zq10.2.2.1, zq10.2.2.2.1, zq11, zq10.2.2.2.2.2.1, zq10.2.2.2.2.2.2.1, zq10.2.2.2.2.2.2.2.1, zq10.2.2.2.2.2.2.2.2)) := hD
      refine lv_aload_n hx hb dX6_endHour_101 rfl (lv_at hl 0 rfl) ?_
      refine lv_dup hx hb dX6_endHour_102 rfl ?_
      refine va_get (D := g.1) (ci := 5) (v := .int zq10.2.2.1) (C := RX6) (T := TX6) (N := 8) hx hb htG in_wsX60 hown hK.1 hP 0 rfl rfl 1 (by decide) (htG _ g1_131) (fun _ h9 => h9) rfl dX6_endHour_103 ?_
      refine lv_iconst (v := 1) hx hb dX6_endHour_106 (by decide) ?_
      refine lv_iadd hx hb dX6_endHour_107 ?_
      obtain ⟨zv12, ezv12, hm⟩ := bnk hm
      refine tope ezv12 ?_
      refine va_put (D := g.1) (ci := 5) (v := .int zv12) (ty := .int) (C := RX6) (T := TX6) (N := 8) hx hb htG in_wsX60 tyX6 tyX6_ok nmX6 hown hK.1 hP hD hS 0 rfl rfl 1 (by decide) (htG _ g1_131) (fun _ h9 => h9) rfl (by decide +kernel) rfl rfl (Nat.le_of_ble_eq_true rfl) dX6_endHour_108 (fun H locs hP hD hS => ?_)
      have hP : va_P g.1 vwCl (w_X6 g a (zq10.2.1, zv12, zq10.2.2.2.1, zq11, zq10.2.2.2.2.2.1, zq10.2.2.2.2.2.2.1, zq10.2.2.2.2.2.2.2.1, zq10.2.2.2.2.2.2.2.2)) H := hP
      have hD : va_D A (w_X6 g a (zq10.2.1, zv12, zq10.2.2.2.1, zq11, zq10.2.2.2.2.2.1, zq10.2.2.2.2.2.2.1, zq10.2.2.2.2.2.2.2.1, zq10.2.2.2.2.2.2.2.2)) := hD
      refine lv_iload_n hx hb dX6_endHour_111 rfl (lv_at hl 2 rfl) ?_
      exact W.iret (v := zq10.1) hx hb hr (fun t ht hW => ⟨⟨_, _, rfl, pr1 (Option.some.inj hm), atH ht hP⟩, hS.F ht⟩) hS.2.2 dX6_endHour_112
    · replace hm := (if_neg zc2).symm.trans hm
      refine lv_bipush (v := (-4)) hx hb dX6_endHour_19 (by decide +kernel) ?_
      exact W.iret (v := (-4)) hx hb hr (fun t ht hW => ⟨⟨_, _, rfl, pr1 (Option.some.inj hm), atH ht hP⟩, hS.F ht⟩) hS.2.2 dX6_endHour_21
  · replace hm := (if_pos zc1).symm.trans hm
    refine lv_bipush (v := (-2)) hx hb dX6_endHour_7 (by decide +kernel) ?_
    exact W.iret (v := (-2)) hx hb hr (fun t ht hW => ⟨⟨_, _, rfl, pr1 (Option.some.inj hm), atH ht hP⟩, hS.F ht⟩) hS.2.2 dX6_endHour_9
