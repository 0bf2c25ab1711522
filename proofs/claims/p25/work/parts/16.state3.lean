def fX6_openAwards_L1 (x : SD) (p1 : Int32) (i0_3 : Int32) : Nat → Int32 → Int32 → Option (Int32)
  | 0, _, _ => none
  | n + 1, i1_2, i1_4 => (if 16 ≤ i1_4 then (some i1_2) else (bnd (fX5_ownerOf x.2.2.2.2.2.1 (fX8_slotOf i0_3 i1_4)) (fun zv3 => (if zv3 = (-5) then (fX6_openAwards_L1 x p1 i0_3 n (i1_2 + 0) (i1_4 + 1)) else (if p1 = (-5) then (fX6_openAwards_L1 x p1 i0_3 n (i1_2 + 1) (i1_4 + 1)) else (if zv3 = p1 then (fX6_openAwards_L1 x p1 i0_3 n (i1_2 + 1) (i1_4 + 1)) else (fX6_openAwards_L1 x p1 i0_3 n (i1_2 + 0) (i1_4 + 1))))))))
def fX6_openAwards_L0 (x : SD) (p1 : Int32) : Nat → Int32 → Int32 → Option (Int32)
  | 0, _, _ => none
  | n + 1, i0_2, i0_3 => (if 3 ≤ i0_3 then (some i0_2) else ((fX6_openAwards_L1 x p1 i0_3 1000 i0_2 x.2.1).bind (fun zq7 => (fX6_openAwards_L0 x p1 n zq7 (i0_3 + 1)))))
def fX6_openAwards (x : SD) (p1 : Int32) : Option (Int32) := ((fX6_openAwards_L0 x p1 1000 0 0).bind (fun zq8 => some zq8))
abbrev rm_X6_openAwards : Jvm.Room := { frames := 2, cells := 0, slots := 0, locals := 42 }
theorem hd_X6_openAwards : yX6_openAwards.cls = RX6 ∧ yX6_openAwards.cls ≠ "java/lang/invoke/MethodHandle" ∧ yX6_openAwards.cls ≠ "java/lang/invoke/VarHandle" ∧ (parseMethodDescriptor yX6_openAwards.desc).map (fun d => d.parameters.length) = some 1 := by decide +kernel
set_option maxHeartbeats 4000000 in
set_option maxRecDepth 100000 in
theorem kX6_openAwards (l : Launch) (g : CX) (a : Nat → Nat) (x : SD) (p1 : Int32) (res : Int32) (hm0 : fX6_openAwards x p1 = some res) : Met l yX6_openAwards (wg yX6_openAwards cX6_openAwards 6 (some .int)) rm_X6_openAwards (PR g [.ref (a 0), .int p1] (w_X6 g a x)) (vp_Si (fun v => v = res)) 0 0 (fun _ => False) := by
  refine Met.ofW (cc := cX6_openAwards) (maxL := 6) (ret := (some .int)) (by decide) rfl ?_
  intro p e s m args below meth c s₁ B hml hv
  obtain ⟨rfl, hP, hK, hL⟩ := hv
  have hx := B.exec
  have hb := B.bytes
  have hr := B.returns
  have htG := wg_G (atoms_spec (ws := wg yX6_openAwards cX6_openAwards 6 (some .int)) B.pre)
  have hown : s.vm.findClass RX6 = some m.cls := findClass_of_methodNamed B.named
  have hlocks := B.notSynchronized
  have hS : va_S (fun _ => False) s.heap s.heap [] := va_S.rf
  have hl := lv_entry ([.ref (a 0), .int p1]) (n := 6) (Nat.le_of_ble_eq_true rfl)
  rw [lg_entry_eq]
  generalize (lg_sl ([.ref (a 0), .int p1]) ++ List.replicate (6 - (lg_sl ([.ref (a 0), .int p1])).length) Slot.unset).toArray = ls at hl ⊢
  have hl : lv_has ls 6 [(0, .ref (a 0)), (1, .int p1)] := hl
  have hm := hm0
  unfold fX6_openAwards at hm
  have hL0 : ∀ (Q : State → Prop), ∀ (n : Nat) (i0_2 : Int32) (i0_3 : Int32) (out : Int32) (ls : Array Slot), fX6_openAwards_L0 x p1 n i0_2 i0_3 = some out → lv_has ls 6 [(0, .ref (a 0)), (1, .int p1), (2, .int i0_2), (3, .int i0_3)] → (∀ ls : Array Slot, lv_has ls 6 [(2, .int out)] → W p l e (headSpec (wg yX6_openAwards cX6_openAwards 6 (some .int)) rm_X6_openAwards).room s m (([.ref (a 0), .int p1] : List Value).toArray) below meth c s.heap [] 0 0 Q (F0 m 76 ls [])) → W p l e (headSpec (wg yX6_openAwards cX6_openAwards 6 (some .int)) rm_X6_openAwards).room s m (([.ref (a 0), .int p1] : List Value).toArray) below meth c s.heap [] 0 0 Q (F0 m 4 ls []) := by
    intro Q n
    induction n with
    | zero =>
      intro i0_2 i0_3 out ls hm hl hk
      simp [fX6_openAwards_L0] at hm
    | succ n ih =>
      intro i0_2 i0_3 out ls hm hl hk
      rw [fX6_openAwards_L0] at hm
      refine lv_iload_n hx hb dX6_openAwards_4 rfl (lv_at hl 3 rfl) ?_
      refine lv_iconst (v := 3) hx hb dX6_openAwards_5 (by decide) ?_
      refine lv_icmp_ge (tgt := 76) hx hb dX6_openAwards_6 (by decide) (fun zc1 => ?_) (fun zc1 => ?_)
      · replace hm := (if_pos zc1).symm.trans hm
        obtain rfl := Option.some.inj hm
        exact hk ls (lv_sub hl [2] rfl)
      · replace hm := (if_neg zc1).symm.trans hm
        refine lv_aload_n hx hb dX6_openAwards_9 rfl (lv_at hl 0 rfl) ?_
        refine va_get (D := g.1) (ci := 5) (v := .int x.2.1) (C := RX6) (T := TX6) (N := 8) hx hb htG in_wsX60 hown hK.1 hP 0 rfl rfl 1 (by decide) (htG _ g1_131) (fun _ h9 => h9) rfl dX6_openAwards_10 ?_
        refine lv_istore (lv' := [(4, .int x.2.1), (0, .ref (a 0)), (1, .int p1), (2, .int i0_2), (3, .int i0_3)]) hx hb dX6_openAwards_13 hl (by decide) rfl (fun ls hl => ?_)
        have hL1 : ∀ (Q : State → Prop), ∀ (n : Nat) (i1_2 : Int32) (i1_4 : Int32) (out : Int32) (ls : Array Slot), fX6_openAwards_L1 x p1 i0_3 n i1_2 i1_4 = some out → lv_has ls 6 [(0, .ref (a 0)), (1, .int p1), (2, .int i1_2), (3, .int i0_3), (4, .int i1_4)] → (∀ ls : Array Slot, lv_has ls 6 [(0, .ref (a 0)), (1, .int p1), (2, .int out), (3, .int i0_3)] → W p l e (headSpec (wg yX6_openAwards cX6_openAwards 6 (some .int)) rm_X6_openAwards).room s m (([.ref (a 0), .int p1] : List Value).toArray) below meth c s.heap [] 0 0 Q (F0 m 70 ls [])) → W p l e (headSpec (wg yX6_openAwards cX6_openAwards 6 (some .int)) rm_X6_openAwards).room s m (([.ref (a 0), .int p1] : List Value).toArray) below meth c s.heap [] 0 0 Q (F0 m 15 ls []) := by
          intro Q n
          induction n with
          | zero =>
            intro i1_2 i1_4 out ls hm hl hk
            simp [fX6_openAwards_L1] at hm
          | succ n ih =>
            intro i1_2 i1_4 out ls hm hl hk
            rw [fX6_openAwards_L1] at hm
            refine lv_iload hx hb dX6_openAwards_15 (lv_at hl 4 rfl) ?_
            refine lv_bipush (v := 16) hx hb dX6_openAwards_17 (by decide +kernel) ?_
            refine lv_icmp_ge (tgt := 70) hx hb dX6_openAwards_19 (by decide) (fun zc2 => ?_) (fun zc2 => ?_)
            · replace hm := (if_pos zc2).symm.trans hm
              obtain rfl := Option.some.inj hm
              exact hk ls (lv_sub hl [0, 1, 2, 3] rfl)
            · replace hm := (if_neg zc2).symm.trans hm
              refine lv_aload_n hx hb dX6_openAwards_22 rfl (lv_at hl 0 rfl) ?_
              refine va_get (D := g.1) (ci := 5) (v := .ref (a 6)) (C := RX6) (T := TX6) (N := 8) hx hb htG in_wsX60 hown hK.1 hP 0 rfl rfl 5 (by decide) (htG _ g1_138) (fun _ h9 => h9) rfl dX6_openAwards_23 ?_
              refine lv_iload_n hx hb dX6_openAwards_26 rfl (lv_at hl 3 rfl) ?_
              refine lv_iload hx hb dX6_openAwards_27 (lv_at hl 4 rfl) ?_
              refine ko_e (va_runSN (As := [.int i0_3, .int i1_4]) (rest := [.ref (a 6)]) ⟨hx, hb, hml, hown, htG⟩ (kX8_slotOf l g i0_3 i1_4 _ rfl) ⟨va_cnB 2 htG (GC g2_128) rfl rfl rfl (nw_39 hK) (htG _ g1_1) hs_X8_slotOf ⟨Nat.le_of_ble_eq_true rfl, Nat.le_of_ble_eq_true rfl⟩, htG _ g2_127, trivial⟩ (PR_S hK hL hS hP [] rfl) rfl rfl hl.1 rfl (lv_room (Nat.le_of_ble_eq_true rfl)) dX6_openAwards_29 ⟨Nat.zero_le _, Nat.zero_le _⟩) ?_
              refine ko_e (va_runV (As := [.int (fX8_slotOf i0_3 i1_4)]) (rest := []) ⟨hx, hb, hml, hown, htG⟩ (kX5_ownerOf l g (a 6) (a 7) (a 8) (a 9) (a 10) x.2.2.2.2.2.1 (fX8_slotOf i0_3 i1_4) _ rfl) (cwV 1 htG (GV g2_237 g2_238 g2_239 g1_4 g3_0) rfl rfl rfl hd_X5_ownerOf ⟨Nat.le_of_ble_eq_true rfl, Nat.le_of_ble_eq_true rfl⟩) (PR_V hK hL hS hP [6, 7, 8, 9, 10] rfl (ci := 4) rfl 6 rfl) rfl rfl hl.1 rfl (lv_room (Nat.le_of_ble_eq_true rfl)) dX6_openAwards_32 ⟨Nat.zero_le _, Nat.zero_le _⟩) ?_
              obtain ⟨zv3, ezv3, hm⟩ := bnk hm
              refine tope ezv3 ?_
              refine lv_istore (lv' := [(5, .int zv3), (0, .ref (a 0)), (1, .int p1), (2, .int i1_2), (3, .int i0_3), (4, .int i1_4)]) hx hb dX6_openAwards_35 hl (by decide) rfl (fun ls hl => ?_)
              refine lv_iload_n hx hb dX6_openAwards_37 rfl (lv_at hl 3 rfl) ?_
              refine lv_iload hx hb dX6_openAwards_38 (lv_at hl 0 rfl) ?_
              refine lv_bipush (v := (-5)) hx hb dX6_openAwards_40 (by decide +kernel) ?_
              refine lv_icmp_eq (tgt := 61) hx hb dX6_openAwards_42 (by decide) (fun zc4 => ?_) (fun zc4 => ?_)
              · replace hm := (if_pos zc4).symm.trans hm
                refine lv_iconst (v := 0) hx hb dX6_openAwards_61 (by decide) ?_
                refine lv_iadd hx hb dX6_openAwards_62 ?_
                refine lv_istore_n (lv' := [(2, .int (i1_2 + 0)), (5, .int zv3), (0, .ref (a 0)), (1, .int p1), (3, .int i0_3), (4, .int i1_4)]) hx hb dX6_openAwards_63 rfl hl (by decide) rfl (fun ls hl => ?_)
                refine lv_iinc (v := i1_4 + 1) (lv' := [(4, .int (i1_4 + 1)), (2, .int (i1_2 + 0)), (5, .int zv3), (0, .ref (a 0)), (1, .int p1), (3, .int i0_3)]) hx hb dX6_openAwards_64 hl (k := 5) rfl rfl (by decide) rfl (fun ls hl => ?_)
                refine lv_goto (tgt := 15) hx hb dX6_openAwards_67 (by decide) ?_
                exact ih (i1_2 + 0) (i1_4 + 1) out ls hm (lv_sub hl [3, 4, 1, 5, 0] rfl) hk
              · replace hm := (if_neg zc4).symm.trans hm
                refine lv_iload_n hx hb dX6_openAwards_45 rfl (lv_at hl 2 rfl) ?_
                refine lv_bipush (v := (-5)) hx hb dX6_openAwards_46 (by decide +kernel) ?_
                refine lv_icmp_eq (tgt := 57) hx hb dX6_openAwards_48 (by decide) (fun zc5 => ?_) (fun zc5 => ?_)
                · replace hm := (if_pos zc5).symm.trans hm
                  refine lv_iconst (v := 1) hx hb dX6_openAwards_57 (by decide) ?_
                  refine lv_goto (tgt := 62) hx hb dX6_openAwards_58 (by decide) ?_
                  refine lv_iadd hx hb dX6_openAwards_62 ?_
                  refine lv_istore_n (lv' := [(2, .int (i1_2 + 1)), (5, .int zv3), (0, .ref (a 0)), (1, .int p1), (3, .int i0_3), (4, .int i1_4)]) hx hb dX6_openAwards_63 rfl hl (by decide) rfl (fun ls hl => ?_)
                  refine lv_iinc (v := i1_4 + 1) (lv' := [(4, .int (i1_4 + 1)), (2, .int (i1_2 + 1)), (5, .int zv3), (0, .ref (a 0)), (1, .int p1), (3, .int i0_3)]) hx hb dX6_openAwards_64 hl (k := 5) rfl rfl (by decide) rfl (fun ls hl => ?_)
                  refine lv_goto (tgt := 15) hx hb dX6_openAwards_67 (by decide) ?_
                  exact ih (i1_2 + 1) (i1_4 + 1) out ls hm (lv_sub hl [3, 4, 1, 5, 0] rfl) hk
                · replace hm := (if_neg zc5).symm.trans hm
                  refine lv_iload hx hb dX6_openAwards_51 (lv_at hl 0 rfl) ?_
                  refine lv_iload_n hx hb dX6_openAwards_53 rfl (lv_at hl 2 rfl) ?_
                  refine lv_icmp_ne (tgt := 61) hx hb dX6_openAwards_54 (by decide) (fun zc6 => ?_) (fun zc6 => ?_)
                  · replace hm := (if_neg zc6).symm.trans hm
                    refine lv_iconst (v := 0) hx hb dX6_openAwards_61 (by decide) ?_
                    refine lv_iadd hx hb dX6_openAwards_62 ?_
                    refine lv_istore_n (lv' := [(2, .int (i1_2 + 0)), (5, .int zv3), (0, .ref (a 0)), (1, .int p1), (3, .int i0_3), (4, .int i1_4)]) hx hb dX6_openAwards_63 rfl hl (by decide) rfl (fun ls hl => ?_)
                    refine lv_iinc (v := i1_4 + 1) (lv' := [(4, .int (i1_4 + 1)), (2, .int (i1_2 + 0)), (5, .int zv3), (0, .ref (a 0)), (1, .int p1), (3, .int i0_3)]) hx hb dX6_openAwards_64 hl (k := 5) rfl rfl (by decide) rfl (fun ls hl => ?_)
                    refine lv_goto (tgt := 15) hx hb dX6_openAwards_67 (by decide) ?_
                    exact ih (i1_2 + 0) (i1_4 + 1) out ls hm (lv_sub hl [3, 4, 1, 5, 0] rfl) hk
                  · replace hm := (if_pos zc6).symm.trans hm
                    refine lv_iconst (v := 1) hx hb dX6_openAwards_57 (by decide) ?_
                    refine lv_goto (tgt := 62) hx hb dX6_openAwards_58 (by decide) ?_
                    refine lv_iadd hx hb dX6_openAwards_62 ?_
                    refine lv_istore_n (lv' := [(2, .int (i1_2 + 1)), (5, .int zv3), (0, .ref (a 0)), (1, .int p1), (3, .int i0_3), (4, .int i1_4)]) hx hb dX6_openAwards_63 rfl hl (by decide) rfl (fun ls hl => ?_)
                    refine lv_iinc (v := i1_4 + 1) (lv' := [(4, .int (i1_4 + 1)), (2, .int (i1_2 + 1)), (5, .int zv3), (0, .ref (a 0)), (1, .int p1), (3, .int i0_3)]) hx hb dX6_openAwards_64 hl (k := 5) rfl rfl (by decide) rfl (fun ls hl => ?_)
                    refine lv_goto (tgt := 15) hx hb dX6_openAwards_67 (by decide) ?_
                    exact ih (i1_2 + 1) (i1_4 + 1) out ls hm (lv_sub hl [3, 4, 1, 5, 0] rfl) hk
        obtain ⟨zq7, hzq7, hm⟩ := bdk hm
        refine hL1 _ 1000 i0_2 x.2.1 zq7 _ hzq7 (lv_sub hl [1, 2, 3, 4, 0] rfl) (fun ls hl => ?_)
        refine lv_iinc (v := i0_3 + 1) (lv' := [(3, .int (i0_3 + 1)), (0, .ref (a 0)), (1, .int p1), (2, .int zq7)]) hx hb dX6_openAwards_70 hl (k := 3) rfl rfl (by decide) rfl (fun ls hl => ?_)
        refine lv_goto (tgt := 4) hx hb dX6_openAwards_73 (by decide) ?_
        exact ih zq7 (i0_3 + 1) out ls hm (lv_sub hl [1, 2, 3, 0] rfl) hk
  refine lv_iconst (v := 0) hx hb dX6_openAwards_0 (by decide) ?_
  refine lv_istore_n (lv' := [(2, .int 0), (0, .ref (a 0)), (1, .int p1)]) hx hb dX6_openAwards_1 rfl hl (by decide) rfl (fun ls hl => ?_)
  refine lv_iconst (v := 0) hx hb dX6_openAwards_2 (by decide) ?_
  refine lv_istore_n (lv' := [(3, .int 0), (2, .int 0), (0, .ref (a 0)), (1, .int p1)]) hx hb dX6_openAwards_3 rfl hl (by decide) rfl (fun ls hl => ?_)
  obtain ⟨zq8, hzq8, hm⟩ := bdk hm
  refine hL0 _ 1000 0 0 zq8 _ hzq8 (lv_sub hl [2, 3, 1, 0] rfl) (fun ls hl => ?_)
  refine lv_iload_n hx hb dX6_openAwards_76 rfl (lv_at hl 0 rfl) ?_
  exact W.iret (v := zq8) hx hb hr (fun t ht hW => ⟨_, rfl, (Option.some.inj hm), ht⟩) (fun _ h => nomatch h) dX6_openAwards_77
def fX6_cheapestHour_L0 (x : SD) (p1 : Int32) (p2 : Int32) : Nat → Int32 → Int32 → Int32 → Option (Int32)
  | 0, _, _, _ => none
  | n + 1, i0_3, i0_4, i0_5 => (if 16 ≤ i0_5 then (some i0_3) else (if (fX6_isOpen x p1 i0_5) = 0 then (fX6_cheapestHour_L0 x p1 p2 n i0_3 i0_4 (i0_5 + 1)) else (if (fX6_heaviestLift x p1 i0_5) < p2 then (fX6_cheapestHour_L0 x p1 p2 n i0_3 i0_4 (i0_5 + 1)) else ((fX0_highest x.2.2.2.2.1 (fX8_slotOf p1 i0_5) 60 (-5)).bind (fun zq4 => (if i0_3 = (-5) then (fX6_cheapestHour_L0 x p1 p2 n i0_5 zq4 (i0_5 + 1)) else (if i0_4 ≤ zq4 then (fX6_cheapestHour_L0 x p1 p2 n i0_3 i0_4 (i0_5 + 1)) else (fX6_cheapestHour_L0 x p1 p2 n i0_5 zq4 (i0_5 + 1)))))))))
def fX6_cheapestHour (x : SD) (p1 : Int32) (p2 : Int32) : Option (Int32) := ((fX6_cheapestHour_L0 x p1 p2 1000 (-5) 0 x.2.1).bind (fun zq7 => some zq7))
abbrev rm_X6_cheapestHour : Jvm.Room := { frames := 3, cells := 0, slots := 0, locals := 64 }
theorem hd_X6_cheapestHour : yX6_cheapestHour.cls = RX6 ∧ yX6_cheapestHour.cls ≠ "java/lang/invoke/MethodHandle" ∧ yX6_cheapestHour.cls ≠ "java/lang/invoke/VarHandle" ∧ (parseMethodDescriptor yX6_cheapestHour.desc).map (fun d => d.parameters.length) = some 2 := by decide +kernel
set_option maxHeartbeats 4000000 in
set_option maxRecDepth 100000 in
theorem kX6_cheapestHour (l : Launch) (g : CX) (a : Nat → Nat) (x : SD) (p1 : Int32) (p2 : Int32) (res : Int32) (hm0 : fX6_cheapestHour x p1 p2 = some res) : Met l yX6_cheapestHour (wg yX6_cheapestHour cX6_cheapestHour 7 (some .int)) rm_X6_cheapestHour (PR g [.ref (a 0), .int p1, .int p2] (w_X6 g a x)) (vp_Si (fun v => v = res)) 0 0 (fun _ => False) := by
  refine Met.ofW (cc := cX6_cheapestHour) (maxL := 7) (ret := (some .int)) (by decide) rfl ?_
  intro p e s m args below meth c s₁ B hml hv
  obtain ⟨rfl, hP, hK, hL⟩ := hv
  have hx := B.exec
  have hb := B.bytes
  have hr := B.returns
  have htG := wg_G (atoms_spec (ws := wg yX6_cheapestHour cX6_cheapestHour 7 (some .int)) B.pre)
  have hown : s.vm.findClass RX6 = some m.cls := findClass_of_methodNamed B.named
  have hlocks := B.notSynchronized
  have hS : va_S (fun _ => False) s.heap s.heap [] := va_S.rf
  have hl := lv_entry ([.ref (a 0), .int p1, .int p2]) (n := 7) (Nat.le_of_ble_eq_true rfl)
  rw [lg_entry_eq]
  generalize (lg_sl ([.ref (a 0), .int p1, .int p2]) ++ List.replicate (7 - (lg_sl ([.ref (a 0), .int p1, .int p2])).length) Slot.unset).toArray = ls at hl ⊢
  have hl : lv_has ls 7 [(0, .ref (a 0)), (1, .int p1), (2, .int p2)] := hl
  have hm := hm0
  unfold fX6_cheapestHour at hm
  have hL0 : ∀ (Q : State → Prop), ∀ (n : Nat) (i0_3 : Int32) (i0_4 : Int32) (i0_5 : Int32) (out : Int32) (ls : Array Slot), fX6_cheapestHour_L0 x p1 p2 n i0_3 i0_4 i0_5 = some out → lv_has ls 7 [(0, .ref (a 0)), (1, .int p1), (2, .int p2), (3, .int i0_3), (4, .int i0_4), (5, .int i0_5)] → (∀ ls : Array Slot, lv_has ls 7 [(3, .int out)] → W p l e (headSpec (wg yX6_cheapestHour cX6_cheapestHour 7 (some .int)) rm_X6_cheapestHour).room s m (([.ref (a 0), .int p1, .int p2] : List Value).toArray) below meth c s.heap [] 0 0 Q (F0 m 85 ls [])) → W p l e (headSpec (wg yX6_cheapestHour cX6_cheapestHour 7 (some .int)) rm_X6_cheapestHour).room s m (([.ref (a 0), .int p1, .int p2] : List Value).toArray) below meth c s.heap [] 0 0 Q (F0 m 12 ls []) := by
    intro Q n
    induction n with
    | zero =>
      intro i0_3 i0_4 i0_5 out ls hm hl hk
      simp [fX6_cheapestHour_L0] at hm
    | succ n ih =>
      intro i0_3 i0_4 i0_5 out ls hm hl hk
      rw [fX6_cheapestHour_L0] at hm
      refine lv_iload hx hb dX6_cheapestHour_12 (lv_at hl 5 rfl) ?_
      refine lv_bipush (v := 16) hx hb dX6_cheapestHour_14 (by decide +kernel) ?_
      refine lv_icmp_ge (tgt := 85) hx hb dX6_cheapestHour_16 (by decide) (fun zc1 => ?_) (fun zc1 => ?_)
      · replace hm := (if_pos zc1).symm.trans hm
        obtain rfl := Option.some.inj hm
        exact hk ls (lv_sub hl [3] rfl)
      · replace hm := (if_neg zc1).symm.trans hm
        refine lv_aload_n hx hb dX6_cheapestHour_19 rfl (lv_at hl 0 rfl) ?_
        refine lv_iload_n hx hb dX6_cheapestHour_20 rfl (lv_at hl 1 rfl) ?_
        refine lv_iload hx hb dX6_cheapestHour_21 (lv_at hl 5 rfl) ?_
        refine ko_e (va_runV (As := [.int p1, .int i0_5]) (rest := []) ⟨hx, hb, hml, hown, htG⟩ (kX6_isOpen l g a x p1 i0_5 _ rfl) (cwV 2 htG (GV g2_122 g2_123 g2_124 g1_2 g2_125) rfl rfl rfl hd_X6_isOpen ⟨Nat.le_of_ble_eq_true rfl, Nat.le_of_ble_eq_true rfl⟩) (PR_VA hK hL hS hP (ci := 5) rfl 0 rfl) rfl rfl hl.1 rfl (lv_room (Nat.le_of_ble_eq_true rfl)) dX6_cheapestHour_23 ⟨Nat.zero_le _, Nat.zero_le _⟩) ?_
        refine lv_if_eq (tgt := 79) hx hb dX6_cheapestHour_26 (by decide) (fun zc2 => ?_) (fun zc2 => ?_)
        · replace hm := (if_pos zc2).symm.trans hm
          refine lv_iinc (v := i0_5 + 1) (lv' := [(5, .int (i0_5 + 1)), (0, .ref (a 0)), (1, .int p1), (2, .int p2), (3, .int i0_3), (4, .int i0_4)]) hx hb dX6_cheapestHour_79 hl (k := 5) rfl rfl (by decide) rfl (fun ls hl => ?_)
          refine lv_goto (tgt := 12) hx hb dX6_cheapestHour_82 (by decide) ?_
          exact ih i0_3 i0_4 (i0_5 + 1) out ls hm (lv_sub hl [1, 2, 3, 4, 5, 0] rfl) hk
        · replace hm := (if_neg zc2).symm.trans hm
          refine lv_iload_n hx hb dX6_cheapestHour_29 rfl (lv_at hl 2 rfl) ?_
          refine lv_aload_n hx hb dX6_cheapestHour_30 rfl (lv_at hl 0 rfl) ?_
          refine lv_iload_n hx hb dX6_cheapestHour_31 rfl (lv_at hl 1 rfl) ?_
          refine lv_iload hx hb dX6_cheapestHour_32 (lv_at hl 5 rfl) ?_
          refine ko_e (va_runV (As := [.int p1, .int i0_5]) (rest := [.int p2]) ⟨hx, hb, hml, hown, htG⟩ (kX6_heaviestLift l g a x p1 i0_5 _ rfl) (cwV 2 htG (GV g2_192 g2_193 g2_194 g1_2 g2_195) rfl rfl rfl hd_X6_heaviestLift ⟨Nat.le_of_ble_eq_true rfl, Nat.le_of_ble_eq_true rfl⟩) (PR_VA hK hL hS hP (ci := 5) rfl 0 rfl) rfl rfl hl.1 rfl (lv_room (Nat.le_of_ble_eq_true rfl)) dX6_cheapestHour_34 ⟨Nat.zero_le _, Nat.zero_le _⟩) ?_
          refine lv_icmp_gt (tgt := 79) hx hb dX6_cheapestHour_37 (by decide) (fun zc3 => ?_) (fun zc3 => ?_)
          · replace hm := (if_pos zc3).symm.trans hm
            refine lv_iinc (v := i0_5 + 1) (lv' := [(5, .int (i0_5 + 1)), (0, .ref (a 0)), (1, .int p1), (2, .int p2), (3, .int i0_3), (4, .int i0_4)]) hx hb dX6_cheapestHour_79 hl (k := 5) rfl rfl (by decide) rfl (fun ls hl => ?_)
            refine lv_goto (tgt := 12) hx hb dX6_cheapestHour_82 (by decide) ?_
            exact ih i0_3 i0_4 (i0_5 + 1) out ls hm (lv_sub hl [1, 2, 3, 4, 5, 0] rfl) hk
          · replace hm := (if_neg zc3).symm.trans hm
            refine lv_aload_n hx hb dX6_cheapestHour_40 rfl (lv_at hl 0 rfl) ?_
            refine va_get (D := g.1) (ci := 5) (v := .ref (a 3)) (C := RX6) (T := TX6) (N := 8) hx hb htG in_wsX60 hown hK.1 hP 0 rfl rfl 4 (by decide) (htG _ g1_136) (fun _ h9 => h9) rfl dX6_cheapestHour_41 ?_
            refine lv_iload_n hx hb dX6_cheapestHour_44 rfl (lv_at hl 1 rfl) ?_
            refine lv_iload hx hb dX6_cheapestHour_45 (lv_at hl 5 rfl) ?_
            refine ko_e (va_runSN (As := [.int p1, .int i0_5]) (rest := [.ref (a 3)]) ⟨hx, hb, hml, hown, htG⟩ (kX8_slotOf l g p1 i0_5 _ rfl) ⟨va_cnB 2 htG (GC g2_128) rfl rfl rfl (nw_39 hK) (htG _ g1_1) hs_X8_slotOf ⟨Nat.le_of_ble_eq_true rfl, Nat.le_of_ble_eq_true rfl⟩, htG _ g2_127, trivial⟩ (PR_S hK hL hS hP [] rfl) rfl rfl hl.1 rfl (lv_room (Nat.le_of_ble_eq_true rfl)) dX6_cheapestHour_47 ⟨Nat.zero_le _, Nat.zero_le _⟩) ?_
            refine lv_bipush (v := 60) hx hb dX6_cheapestHour_50 (by decide +kernel) ?_
            refine lv_bipush (v := (-5)) hx hb dX6_cheapestHour_52 (by decide +kernel) ?_
            obtain ⟨zq4, hzq4, hm⟩ := bdk hm
            refine ko_e (va_runV (As := [.int (fX8_slotOf p1 i0_5), .int 60, .int (-5)]) (rest := []) ⟨hx, hb, hml, hown, htG⟩ (kX0_highest l g (a 3) (a 4) (a 5) x.2.2.2.2.1 (fX8_slotOf p1 i0_5) 60 (-5) _ hzq4) (cwV 3 htG (GV g2_207 g2_208 g2_209 g1_3 g2_210) rfl rfl rfl hd_X0_highest ⟨Nat.le_of_ble_eq_true rfl, Nat.le_of_ble_eq_true rfl⟩) (PR_V hK hL hS hP [3, 4, 5] rfl (ci := 0) rfl 3 rfl) rfl rfl hl.1 rfl (lv_room (Nat.le_of_ble_eq_true rfl)) dX6_cheapestHour_54 ⟨Nat.zero_le _, Nat.zero_le _⟩) ?_
            refine lv_istore (lv' := [(6, .int zq4), (0, .ref (a 0)), (1, .int p1), (2, .int p2), (3, .int i0_3), (4, .int i0_4), (5, .int i0_5)]) hx hb dX6_cheapestHour_57 hl (by decide) rfl (fun ls hl => ?_)
            refine lv_iload_n hx hb dX6_cheapestHour_59 rfl (lv_at hl 4 rfl) ?_
            refine lv_bipush (v := (-5)) hx hb dX6_cheapestHour_60 (by decide +kernel) ?_
            refine lv_icmp_eq (tgt := 72) hx hb dX6_cheapestHour_62 (by decide) (fun zc5 => ?_) (fun zc5 => ?_)
            · replace hm := (if_pos zc5).symm.trans hm
              refine lv_iload hx hb dX6_cheapestHour_72 (lv_at hl 6 rfl) ?_
              refine lv_istore_n (lv' := [(3, .int i0_5), (6, .int zq4), (0, .ref (a 0)), (1, .int p1), (2, .int p2), (4, .int i0_4), (5, .int i0_5)]) hx hb dX6_cheapestHour_74 rfl hl (by decide) rfl (fun ls hl => ?_)
              refine lv_iload hx hb dX6_cheapestHour_75 (lv_at hl 1 rfl) ?_
              refine lv_istore (lv' := [(4, .int zq4), (3, .int i0_5), (6, .int zq4), (0, .ref (a 0)), (1, .int p1), (2, .int p2), (5, .int i0_5)]) hx hb dX6_cheapestHour_77 hl (by decide) rfl (fun ls hl => ?_)
              refine lv_iinc (v := i0_5 + 1) (lv' := [(5, .int (i0_5 + 1)), (4, .int zq4), (3, .int i0_5), (6, .int zq4), (0, .ref (a 0)), (1, .int p1), (2, .int p2)]) hx hb dX6_cheapestHour_79 hl (k := 6) rfl rfl (by decide) rfl (fun ls hl => ?_)
              refine lv_goto (tgt := 12) hx hb dX6_cheapestHour_82 (by decide) ?_
              exact ih i0_5 zq4 (i0_5 + 1) out ls hm (lv_sub hl [4, 5, 6, 2, 1, 0] rfl) hk
            · replace hm := (if_neg zc5).symm.trans hm
              refine lv_iload hx hb dX6_cheapestHour_65 (lv_at hl 0 rfl) ?_
              refine lv_iload hx hb dX6_cheapestHour_67 (lv_at hl 5 rfl) ?_
              refine lv_icmp_ge (tgt := 79) hx hb dX6_cheapestHour_69 (by decide) (fun zc6 => ?_) (fun zc6 => ?_)
              · replace hm := (if_pos zc6).symm.trans hm
                refine lv_iinc (v := i0_5 + 1) (lv' := [(5, .int (i0_5 + 1)), (6, .int zq4), (0, .ref (a 0)), (1, .int p1), (2, .int p2), (3, .int i0_3), (4, .int i0_4)]) hx hb dX6_cheapestHour_79 hl (k := 6) rfl rfl (by decide) rfl (fun ls hl => ?_)
                refine lv_goto (tgt := 12) hx hb dX6_cheapestHour_82 (by decide) ?_
                exact ih i0_3 i0_4 (i0_5 + 1) out ls hm (lv_sub hl [2, 3, 4, 5, 6, 0] rfl) hk
              · replace hm := (if_neg zc6).symm.trans hm
                refine lv_iload hx hb dX6_cheapestHour_72 (lv_at hl 6 rfl) ?_
                refine lv_istore_n (lv' := [(3, .int i0_5), (6, .int zq4), (0, .ref (a 0)), (1, .int p1), (2, .int p2), (4, .int i0_4), (5, .int i0_5)]) hx hb dX6_cheapestHour_74 rfl hl (by decide) rfl (fun ls hl => ?_)
                refine lv_iload hx hb dX6_cheapestHour_75 (lv_at hl 1 rfl) ?_
                refine lv_istore (lv' := [(4, .int zq4), (3, .int i0_5), (6, .int zq4), (0, .ref (a 0)), (1, .int p1), (2, .int p2), (5, .int i0_5)]) hx hb dX6_cheapestHour_77 hl (by decide) rfl (fun ls hl => ?_)
                refine lv_iinc (v := i0_5 + 1) (lv' := [(5, .int (i0_5 + 1)), (4, .int zq4), (3, .int i0_5), (6, .int zq4), (0, .ref (a 0)), (1, .int p1), (2, .int p2)]) hx hb dX6_cheapestHour_79 hl (k := 6) rfl rfl (by decide) rfl (fun ls hl => ?_)
                refine lv_goto (tgt := 12) hx hb dX6_cheapestHour_82 (by decide) ?_
                exact ih i0_5 zq4 (i0_5 + 1) out ls hm (lv_sub hl [4, 5, 6, 2, 1, 0] rfl) hk
  refine lv_bipush (v := (-5)) hx hb dX6_cheapestHour_0 (by decide +kernel) ?_
  refine lv_istore_n (lv' := [(3, .int (-5)), (0, .ref (a 0)), (1, .int p1), (2, .int p2)]) hx hb dX6_cheapestHour_2 rfl hl (by decide) rfl (fun ls hl => ?_)
  refine lv_iconst (v := 0) hx hb dX6_cheapestHour_3 (by decide) ?_
  refine lv_istore (lv' := [(4, .int 0), (3, .int (-5)), (0, .ref (a 0)), (1, .int p1), (2, .int p2)]) hx hb dX6_cheapestHour_4 hl (by decide) rfl (fun ls hl => ?_)
  refine lv_aload_n hx hb dX6_cheapestHour_6 rfl (lv_at hl 2 rfl) ?_
  refine va_get (D := g.1) (ci := 5) (v := .int x.2.1) (C := RX6) (T := TX6) (N := 8) hx hb htG in_wsX60 hown hK.1 hP 0 rfl rfl 1 (by decide) (htG _ g1_131) (fun _ h9 => h9) rfl dX6_cheapestHour_7 ?_
  refine lv_istore (lv' := [(5, .int x.2.1), (4, .int 0), (3, .int (-5)), (0, .ref (a 0)), (1, .int p1), (2, .int p2)]) hx hb dX6_cheapestHour_10 hl (by decide) rfl (fun ls hl => ?_)
  obtain ⟨zq7, hzq7, hm⟩ := bdk hm
  refine hL0 _ 1000 (-5) 0 x.2.1 zq7 _ hzq7 (lv_sub hl [3, 4, 5, 2, 1, 0] rfl) (fun ls hl => ?_)
  refine lv_iload_n hx hb dX6_cheapestHour_85 rfl (lv_at hl 0 rfl) ?_
  exact W.iret (v := zq7) hx hb hr (fun t ht hW => ⟨_, rfl, (Option.some.inj hm), ht⟩) (fun _ h => nomatch h) dX6_cheapestHour_86
def fX6_total (x : SD) (p1 : Int32) : Option (Int32) := (if p1 = 0 then some x.1 else (if p1 = 1 then some x.2.1 else (if p1 = 2 then ((fX0_countAll x.2.2.2.2.1).bind (fun zq4 => some zq4)) else (if p1 = 3 then ((fX6_openAwards x (-5)).bind (fun zq6 => some zq6)) else (if p1 = 4 then some x.2.2.2.2.2.2.2.2.2.2.2.2.1 else (if p1 = 5 then some (rat x.2.2.2.2.2.2.2.1 4 1) else (if p1 = 6 then some (rat x.2.2.2.2.2.2.2.1 4 2) else (if p1 = 7 then some (rat x.2.2.2.2.2.2.2.1 4 3) else (if p1 = 8 then some x.2.2.2.2.2.2.2.2.1 else (if p1 = 9 then some x.2.2.2.2.2.2.2.2.2.1 else (if p1 = 10 then some (-2) else (if p1 = 11 then some x.2.2.2.2.2.2.2.2.2.2.1 else (if p1 = 12 then some x.2.2.2.2.2.2.2.2.2.2.2.1 else (if p1 = 13 then some x.2.2.2.2.2.2.2.2.2.2.2.2.2 else some (-2)))))))))))))))
abbrev rm_X6_total : Jvm.Room := { frames := 3, cells := 0, slots := 0, locals := 67 }
theorem hd_X6_total : yX6_total.cls = RX6 ∧ yX6_total.cls ≠ "java/lang/invoke/MethodHandle" ∧ yX6_total.cls ≠ "java/lang/invoke/VarHandle" ∧ (parseMethodDescriptor yX6_total.desc).map (fun d => d.parameters.length) = some 1 := by decide +kernel
set_option maxHeartbeats 4000000 in
set_option maxRecDepth 100000 in
theorem kX6_total (l : Launch) (g : CX) (a : Nat → Nat) (x : SD) (p1 : Int32) (res : Int32) (hm0 : fX6_total x p1 = some res) : Met l yX6_total (wg yX6_total cX6_total 2 (some .int)) rm_X6_total (PR g [.ref (a 0), .int p1] (w_X6 g a x)) (vp_Si (fun v => v = res)) 0 0 (fun _ => False) := by
  refine Met.ofW (cc := cX6_total) (maxL := 2) (ret := (some .int)) (by decide) rfl ?_
  intro p e s m args below meth c s₁ B hml hv
  obtain ⟨rfl, hP, hK, hL⟩ := hv
  have hx := B.exec
  have hb := B.bytes
  have hr := B.returns
  have htG := wg_G (atoms_spec (ws := wg yX6_total cX6_total 2 (some .int)) B.pre)
  have hown : s.vm.findClass RX6 = some m.cls := findClass_of_methodNamed B.named
  have hlocks := B.notSynchronized
  have hS : va_S (fun _ => False) s.heap s.heap [] := va_S.rf
  have hl := lv_entry ([.ref (a 0), .int p1]) (n := 2) (Nat.le_of_ble_eq_true rfl)
  rw [lg_entry_eq]
  generalize (lg_sl ([.ref (a 0), .int p1]) ++ List.replicate (2 - (lg_sl ([.ref (a 0), .int p1])).length) Slot.unset).toArray = ls at hl ⊢
  have hl : lv_has ls 2 [(0, .ref (a 0)), (1, .int p1)] := hl
  have hm := hm0
  unfold fX6_total at hm
  refine lv_iload_n hx hb dX6_total_0 rfl (lv_at hl 1 rfl) ?_
  by_cases zc1 : p1 = 0
  · replace hm := (if_pos zc1).symm.trans hm
    refine lv_tableIn (tgt := 72) hx hb dX6_total_1 (by rw [zc1]; decide) (by rw [zc1]; decide) (by rw [zc1]; rfl) (by decide) ?_
    refine lv_aload_n hx hb dX6_total_72 rfl (lv_at hl 0 rfl) ?_
    refine va_get (D := g.1) (ci := 5) (v := .int x.1) (C := RX6) (T := TX6) (N := 8) hx hb htG in_wsX60 hown hK.1 hP 0 rfl rfl 0 (by decide) (htG _ g1_130) (fun _ h9 => h9) rfl dX6_total_73 ?_
    exact W.iret (v := x.1) hx hb hr (fun t ht hW => ⟨_, rfl, (Option.some.inj hm), ht⟩) (fun _ h => nomatch h) dX6_total_76
  · replace hm := (if_neg zc1).symm.trans hm
    by_cases zc2 : p1 = 1
    · replace hm := (if_pos zc2).symm.trans hm
      refine lv_tableIn (tgt := 77) hx hb dX6_total_1 (by rw [zc2]; decide) (by rw [zc2]; decide) (by rw [zc2]; rfl) (by decide) ?_
      refine lv_aload_n hx hb dX6_total_77 rfl (lv_at hl 0 rfl) ?_
      refine va_get (D := g.1) (ci := 5) (v := .int x.2.1) (C := RX6) (T := TX6) (N := 8) hx hb htG in_wsX60 hown hK.1 hP 0 rfl rfl 1 (by decide) (htG _ g1_131) (fun _ h9 => h9) rfl dX6_total_78 ?_
      exact W.iret (v := x.2.1) hx hb hr (fun t ht hW => ⟨_, rfl, (Option.some.inj hm), ht⟩) (fun _ h => nomatch h) dX6_total_81
    · replace hm := (if_neg zc2).symm.trans hm
      by_cases zc3 : p1 = 2
      · replace hm := (if_pos zc3).symm.trans hm
        refine lv_tableIn (tgt := 82) hx hb dX6_total_1 (by rw [zc3]; decide) (by rw [zc3]; decide) (by rw [zc3]; rfl) (by decide) ?_
        refine lv_aload_n hx hb dX6_total_82 rfl (lv_at hl 0 rfl) ?_
        refine va_get (D := g.1) (ci := 5) (v := .ref (a 3)) (C := RX6) (T := TX6) (N := 8) hx hb htG in_wsX60 hown hK.1 hP 0 rfl rfl 4 (by decide) (htG _ g1_136) (fun _ h9 => h9) rfl dX6_total_83 ?_
        obtain ⟨zq4, hzq4, hm⟩ := bdk hm
        refine ko_e (va_runV (As := []) (rest := []) ⟨hx, hb, hml, hown, htG⟩ (kX0_countAll l g (a 3) (a 4) (a 5) x.2.2.2.2.1 _ hzq4) (cwV 0 htG (GV g2_150 g2_151 g2_152 g1_3 g2_153) rfl rfl rfl hd_X0_countAll ⟨Nat.le_of_ble_eq_true rfl, Nat.le_of_ble_eq_true rfl⟩) (PR_V hK hL hS hP [3, 4, 5] rfl (ci := 0) rfl 3 rfl) rfl rfl hl.1 rfl (lv_room (Nat.le_of_ble_eq_true rfl)) dX6_total_86 ⟨Nat.zero_le _, Nat.zero_le _⟩) ?_
        exact W.iret (v := zq4) hx hb hr (fun t ht hW => ⟨_, rfl, (Option.some.inj hm), ht⟩) (fun _ h => nomatch h) dX6_total_89
      · replace hm := (if_neg zc3).symm.trans hm
        by_cases zc5 : p1 = 3
        · replace hm := (if_pos zc5).symm.trans hm
          refine lv_tableIn (tgt := 90) hx hb dX6_total_1 (by rw [zc5]; decide) (by rw [zc5]; decide) (by rw [zc5]; rfl) (by decide) ?_
          refine lv_aload_n hx hb dX6_total_90 rfl (lv_at hl 0 rfl) ?_
          refine lv_bipush (v := (-5)) hx hb dX6_total_91 (by decide +kernel) ?_
          obtain ⟨zq6, hzq6, hm⟩ := bdk hm
          refine ko_e (va_runV (As := [.int (-5)]) (rest := []) ⟨hx, hb, hml, hown, htG⟩ (kX6_openAwards l g a x (-5) _ hzq6) (cwV 1 htG (GV g3_159 g3_104 g3_105 g1_2 g3_106) rfl rfl rfl hd_X6_openAwards ⟨Nat.le_of_ble_eq_true rfl, Nat.le_of_ble_eq_true rfl⟩) (PR_VA hK hL hS hP (ci := 5) rfl 0 rfl) rfl rfl hl.1 rfl (lv_room (Nat.le_of_ble_eq_true rfl)) dX6_total_93 ⟨Nat.zero_le _, Nat.zero_le _⟩) ?_
          exact W.iret (v := zq6) hx hb hr (fun t ht hW => ⟨_, rfl, (Option.some.inj hm), ht⟩) (fun _ h => nomatch h) dX6_total_96
        · replace hm := (if_neg zc5).symm.trans hm
          by_cases zc7 : p1 = 4
          · replace hm := (if_pos zc7).symm.trans hm
            refine lv_tableIn (tgt := 97) hx hb dX6_total_1 (by rw [zc7]; decide) (by rw [zc7]; decide) (by rw [zc7]; rfl) (by decide) ?_
            refine lv_aload_n hx hb dX6_total_97 rfl (lv_at hl 0 rfl) ?_
            refine va_get (D := g.1) (ci := 5) (v := .ref (a 16)) (C := RX6) (T := TX6) (N := 8) hx hb htG in_wsX60 hown hK.1 hP 0 rfl rfl 7 (by decide) (htG _ g1_142) (fun _ h9 => h9) rfl dX6_total_98 ?_
            refine va_getN (D := g.1) (ci := 6) (v := .int x.2.2.2.2.2.2.2.2.2.2.2.2.1) (C := RX7) (T := TX7) (N := 7) hx hb htG in_wsX70 hown hK.1 hP 16 rfl rfl 5 (by decide) (nw_19 hK) (fun _ h9 => h9) rfl dX6_total_101 ?_
            exact W.iret (v := x.2.2.2.2.2.2.2.2.2.2.2.2.1) hx hb hr (fun t ht hW => ⟨_, rfl, (Option.some.inj hm), ht⟩) (fun _ h => nomatch h) dX6_total_104
          · replace hm := (if_neg zc7).symm.trans hm
            by_cases zc8 : p1 = 5
            · replace hm := (if_pos zc8).symm.trans hm
              refine lv_tableIn (tgt := 105) hx hb dX6_total_1 (by rw [zc8]; decide) (by rw [zc8]; decide) (by rw [zc8]; rfl) (by decide) ?_
              refine lv_aload_n hx hb dX6_total_105 rfl (lv_at hl 0 rfl) ?_
              refine va_get (D := g.1) (ci := 5) (v := .ref (a 16)) (C := RX6) (T := TX6) (N := 8) hx hb htG in_wsX60 hown hK.1 hP 0 rfl rfl 7 (by decide) (htG _ g1_142) (fun _ h9 => h9) rfl dX6_total_106 ?_
              refine va_getN (D := g.1) (ci := 6) (v := .ref (a 17)) (C := RX7) (T := TX7) (N := 7) hx hb htG in_wsX70 hown hK.1 hP 16 rfl rfl 0 (by decide) (nw_14 hK) (fun _ h9 => h9) rfl dX6_total_109 ?_
              refine lv_iconst (v := 1) hx hb dX6_total_112 (by decide) ?_
              refine ko_e (va_runS (As := [.ref (a 17), .int 1]) (rest := []) ⟨hx, hb, hml, hown, htG⟩ (kX4_at l g (a 17) x.2.2.2.2.2.2.2.1 4 1 (by decide)) (va_cwS 2 htG (GS g2_60 g2_61 g1_5 g2_62) rfl rfl rfl hs_X4_at ⟨Nat.le_of_ble_eq_true rfl, Nat.le_of_ble_eq_true rfl⟩) (PT_S hK (va_T_of hK hP 17 rfl)) rfl rfl hl.1 rfl (lv_room (Nat.le_of_ble_eq_true rfl)) dX6_total_113 ⟨Nat.zero_le _, Nat.zero_le _⟩) ?_
              exact W.iret (v := (rat x.2.2.2.2.2.2.2.1 4 1)) hx hb hr (fun t ht hW => ⟨_, rfl, (Option.some.inj hm), ht⟩) (fun _ h => nomatch h) dX6_total_116
            · replace hm := (if_neg zc8).symm.trans hm
              by_cases zc9 : p1 = 6
              · replace hm := (if_pos zc9).symm.trans hm
                refine lv_tableIn (tgt := 117) hx hb dX6_total_1 (by rw [zc9]; decide) (by rw [zc9]; decide) (by rw [zc9]; rfl) (by decide) ?_
                refine lv_aload_n hx hb dX6_total_117 rfl (lv_at hl 0 rfl) ?_
                refine va_get (D := g.1) (ci := 5) (v := .ref (a 16)) (C := RX6) (T := TX6) (N := 8) hx hb htG in_wsX60 hown hK.1 hP 0 rfl rfl 7 (by decide) (htG _ g1_142) (fun _ h9 => h9) rfl dX6_total_118 ?_
                refine va_getN (D := g.1) (ci := 6) (v := .ref (a 17)) (C := RX7) (T := TX7) (N := 7) hx hb htG in_wsX70 hown hK.1 hP 16 rfl rfl 0 (by decide) (nw_14 hK) (fun _ h9 => h9) rfl dX6_total_121 ?_
                refine lv_iconst (v := 2) hx hb dX6_total_124 (by decide) ?_
                refine ko_e (va_runS (As := [.ref (a 17), .int 2]) (rest := []) ⟨hx, hb, hml, hown, htG⟩ (kX4_at l g (a 17) x.2.2.2.2.2.2.2.1 4 2 (by decide)) (va_cwS 2 htG (GS g2_60 g2_61 g1_5 g2_62) rfl rfl rfl hs_X4_at ⟨Nat.le_of_ble_eq_true rfl, Nat.le_of_ble_eq_true rfl⟩) (PT_S hK (va_T_of hK hP 17 rfl)) rfl rfl hl.1 rfl (lv_room (Nat.le_of_ble_eq_true rfl)) dX6_total_125 ⟨Nat.zero_le _, Nat.zero_le _⟩) ?_
                exact W.iret (v := (rat x.2.2.2.2.2.2.2.1 4 2)) hx hb hr (fun t ht hW => ⟨_, rfl, (Option.some.inj hm), ht⟩) (fun _ h => nomatch h) dX6_total_128
              · replace hm := (if_neg zc9).symm.trans hm
                by_cases zc10 : p1 = 7
                · replace hm := (if_pos zc10).symm.trans hm
                  refine lv_tableIn (tgt := 129) hx hb dX6_total_1 (by rw [zc10]; decide) (by rw [zc10]; decide) (by rw [zc10]; rfl) (by decide) ?_
                  refine lv_aload_n hx hb dX6_total_129 rfl (lv_at hl 0 rfl) ?_
                  refine va_get (D := g.1) (ci := 5) (v := .ref (a 16)) (C := RX6) (T := TX6) (N := 8) hx hb htG in_wsX60 hown hK.1 hP 0 rfl rfl 7 (by decide) (htG _ g1_142) (fun _ h9 => h9) rfl dX6_total_130 ?_
                  refine va_getN (D := g.1) (ci := 6) (v := .ref (a 17)) (C := RX7) (T := TX7) (N := 7) hx hb htG in_wsX70 hown hK.1 hP 16 rfl rfl 0 (by decide) (nw_14 hK) (fun _ h9 => h9) rfl dX6_total_133 ?_
                  refine lv_iconst (v := 3) hx hb dX6_total_136 (by decide) ?_
                  refine ko_e (va_runS (As := [.ref (a 17), .int 3]) (rest := []) ⟨hx, hb, hml, hown, htG⟩ (kX4_at l g (a 17) x.2.2.2.2.2.2.2.1 4 3 (by decide)) (va_cwS 2 htG (GS g2_60 g2_61 g1_5 g2_62) rfl rfl rfl hs_X4_at ⟨Nat.le_of_ble_eq_true rfl, Nat.le_of_ble_eq_true rfl⟩) (PT_S hK (va_T_of hK hP 17 rfl)) rfl rfl hl.1 rfl (lv_room (Nat.le_of_ble_eq_true rfl)) dX6_total_137 ⟨Nat.zero_le _, Nat.zero_le _⟩) ?_
                  exact W.iret (v := (rat x.2.2.2.2.2.2.2.1 4 3)) hx hb hr (fun t ht hW => ⟨_, rfl, (Option.some.inj hm), ht⟩) (fun _ h => nomatch h) dX6_total_140
                · replace hm := (if_neg zc10).symm.trans hm
                  by_cases zc11 : p1 = 8
                  · replace hm := (if_pos zc11).symm.trans hm
                    refine lv_tableIn (tgt := 141) hx hb dX6_total_1 (by rw [zc11]; decide) (by rw [zc11]; decide) (by rw [zc11]; rfl) (by decide) ?_
                    refine lv_aload_n hx hb dX6_total_141 rfl (lv_at hl 0 rfl) ?_
                    refine va_get (D := g.1) (ci := 5) (v := .ref (a 16)) (C := RX6) (T := TX6) (N := 8) hx hb htG in_wsX60 hown hK.1 hP 0 rfl rfl 7 (by decide) (htG _ g1_142) (fun _ h9 => h9) rfl dX6_total_142 ?_
                    refine va_getN (D := g.1) (ci := 6) (v := .int x.2.2.2.2.2.2.2.2.1) (C := RX7) (T := TX7) (N := 7) hx hb htG in_wsX70 hown hK.1 hP 16 rfl rfl 1 (by decide) (nw_15 hK) (fun _ h9 => h9) rfl dX6_total_145 ?_
                    exact W.iret (v := x.2.2.2.2.2.2.2.2.1) hx hb hr (fun t ht hW => ⟨_, rfl, (Option.some.inj hm), ht⟩) (fun _ h => nomatch h) dX6_total_148
                  · replace hm := (if_neg zc11).symm.trans hm
                    by_cases zc12 : p1 = 9
                    · replace hm := (if_pos zc12).symm.trans hm
                      refine lv_tableIn (tgt := 149) hx hb dX6_total_1 (by rw [zc12]; decide) (by rw [zc12]; decide) (by rw [zc12]; rfl) (by decide) ?_
                      refine lv_aload_n hx hb dX6_total_149 rfl (lv_at hl 0 rfl) ?_
                      refine va_get (D := g.1) (ci := 5) (v := .ref (a 16)) (C := RX6) (T := TX6) (N := 8) hx hb htG in_wsX60 hown hK.1 hP 0 rfl rfl 7 (by decide) (htG _ g1_142) (fun _ h9 => h9) rfl dX6_total_150 ?_
                      refine va_getN (D := g.1) (ci := 6) (v := .int x.2.2.2.2.2.2.2.2.2.1) (C := RX7) (T := TX7) (N := 7) hx hb htG in_wsX70 hown hK.1 hP 16 rfl rfl 2 (by decide) (nw_16 hK) (fun _ h9 => h9) rfl dX6_total_153 ?_
                      exact W.iret (v := x.2.2.2.2.2.2.2.2.2.1) hx hb hr (fun t ht hW => ⟨_, rfl, (Option.some.inj hm), ht⟩) (fun _ h => nomatch h) dX6_total_156
                    · replace hm := (if_neg zc12).symm.trans hm
                      by_cases zc13 : p1 = 10
                      · replace hm := (if_pos zc13).symm.trans hm
                        refine lv_tableIn (tgt := 181) hx hb dX6_total_1 (by rw [zc13]; decide) (by rw [zc13]; decide) (by rw [zc13]; rfl) (by decide) ?_
                        refine lv_bipush (v := (-2)) hx hb dX6_total_181 (by decide +kernel) ?_
                        exact W.iret (v := (-2)) hx hb hr (fun t ht hW => ⟨_, rfl, (Option.some.inj hm), ht⟩) (fun _ h => nomatch h) dX6_total_183
                      · replace hm := (if_neg zc13).symm.trans hm
                        by_cases zc14 : p1 = 11
                        · replace hm := (if_pos zc14).symm.trans hm
                          refine lv_tableIn (tgt := 157) hx hb dX6_total_1 (by rw [zc14]; decide) (by rw [zc14]; decide) (by rw [zc14]; rfl) (by decide) ?_
                          refine lv_aload_n hx hb dX6_total_157 rfl (lv_at hl 0 rfl) ?_
                          refine va_get (D := g.1) (ci := 5) (v := .ref (a 16)) (C := RX6) (T := TX6) (N := 8) hx hb htG in_wsX60 hown hK.1 hP 0 rfl rfl 7 (by decide) (htG _ g1_142) (fun _ h9 => h9) rfl dX6_total_158 ?_
                          refine va_getN (D := g.1) (ci := 6) (v := .int x.2.2.2.2.2.2.2.2.2.2.1) (C := RX7) (T := TX7) (N := 7) hx hb htG in_wsX70 hown hK.1 hP 16 rfl rfl 3 (by decide) (nw_17 hK) (fun _ h9 => h9) rfl dX6_total_161 ?_
                          exact W.iret (v := x.2.2.2.2.2.2.2.2.2.2.1) hx hb hr (fun t ht hW => ⟨_, rfl, (Option.some.inj hm), ht⟩) (fun _ h => nomatch h) dX6_total_164
                        · replace hm := (if_neg zc14).symm.trans hm
                          by_cases zc15 : p1 = 12
                          · replace hm := (if_pos zc15).symm.trans hm
                            refine lv_tableIn (tgt := 165) hx hb dX6_total_1 (by rw [zc15]; decide) (by rw [zc15]; decide) (by rw [zc15]; rfl) (by decide) ?_
                            refine lv_aload_n hx hb dX6_total_165 rfl (lv_at hl 0 rfl) ?_
                            refine va_get (D := g.1) (ci := 5) (v := .ref (a 16)) (C := RX6) (T := TX6) (N := 8) hx hb htG in_wsX60 hown hK.1 hP 0 rfl rfl 7 (by decide) (htG _ g1_142) (fun _ h9 => h9) rfl dX6_total_166 ?_
                            refine va_getN (D := g.1) (ci := 6) (v := .int x.2.2.2.2.2.2.2.2.2.2.2.1) (C := RX7) (T := TX7) (N := 7) hx hb htG in_wsX70 hown hK.1 hP 16 rfl rfl 4 (by decide) (nw_18 hK) (fun _ h9 => h9) rfl dX6_total_169 ?_
                            exact W.iret (v := x.2.2.2.2.2.2.2.2.2.2.2.1) hx hb hr (fun t ht hW => ⟨_, rfl, (Option.some.inj hm), ht⟩) (fun _ h => nomatch h) dX6_total_172
                          · replace hm := (if_neg zc15).symm.trans hm
                            by_cases zc16 : p1 = 13
                            · replace hm := (if_pos zc16).symm.trans hm
                              refine lv_tableIn (tgt := 173) hx hb dX6_total_1 (by rw [zc16]; decide) (by rw [zc16]; decide) (by rw [zc16]; rfl) (by decide) ?_
                              refine lv_aload_n hx hb dX6_total_173 rfl (lv_at hl 0 rfl) ?_
                              refine va_get (D := g.1) (ci := 5) (v := .ref (a 16)) (C := RX6) (T := TX6) (N := 8) hx hb htG in_wsX60 hown hK.1 hP 0 rfl rfl 7 (by decide) (htG _ g1_142) (fun _ h9 => h9) rfl dX6_total_174 ?_
                              refine va_getN (D := g.1) (ci := 6) (v := .int x.2.2.2.2.2.2.2.2.2.2.2.2.2) (C := RX7) (T := TX7) (N := 7) hx hb htG in_wsX70 hown hK.1 hP 16 rfl rfl 6 (by decide) (nw_20 hK) (fun _ h9 => h9) rfl dX6_total_177 ?_
                              exact W.iret (v := x.2.2.2.2.2.2.2.2.2.2.2.2.2) hx hb hr (fun t ht hW => ⟨_, rfl, (Option.some.inj hm), ht⟩) (fun _ h => nomatch h) dX6_total_180
                            · replace hm := (if_neg zc16).symm.trans hm
                              have ezc1 : p1.toInt ≠ 0 := fun e => zc1 (Int32.toInt_inj.mp (e.trans (by decide)))
                              have ezc2 : p1.toInt ≠ 1 := fun e => zc2 (Int32.toInt_inj.mp (e.trans (by decide)))
                              have ezc3 : p1.toInt ≠ 2 := fun e => zc3 (Int32.toInt_inj.mp (e.trans (by decide)))
                              have ezc5 : p1.toInt ≠ 3 := fun e => zc5 (Int32.toInt_inj.mp (e.trans (by decide)))
                              have ezc7 : p1.toInt ≠ 4 := fun e => zc7 (Int32.toInt_inj.mp (e.trans (by decide)))
                              have ezc8 : p1.toInt ≠ 5 := fun e => zc8 (Int32.toInt_inj.mp (e.trans (by decide)))
                              have ezc9 : p1.toInt ≠ 6 := fun e => zc9 (Int32.toInt_inj.mp (e.trans (by decide)))
                              have ezc10 : p1.toInt ≠ 7 := fun e => zc10 (Int32.toInt_inj.mp (e.trans (by decide)))
                              have ezc11 : p1.toInt ≠ 8 := fun e => zc11 (Int32.toInt_inj.mp (e.trans (by decide)))
                              have ezc12 : p1.toInt ≠ 9 := fun e => zc12 (Int32.toInt_inj.mp (e.trans (by decide)))
                              have ezc13 : p1.toInt ≠ 10 := fun e => zc13 (Int32.toInt_inj.mp (e.trans (by decide)))
                              have ezc14 : p1.toInt ≠ 11 := fun e => zc14 (Int32.toInt_inj.mp (e.trans (by decide)))
                              have ezc15 : p1.toInt ≠ 12 := fun e => zc15 (Int32.toInt_inj.mp (e.trans (by decide)))
                              have ezc16 : p1.toInt ≠ 13 := fun e => zc16 (Int32.toInt_inj.mp (e.trans (by decide)))
                              refine lv_tableOut (tgt := 181) hx hb dX6_total_1 (by omega) (by decide) ?_
                              refine lv_bipush (v := (-2)) hx hb dX6_total_181 (by decide +kernel) ?_
                              exact W.iret (v := (-2)) hx hb hr (fun t ht hW => ⟨_, rfl, (Option.some.inj hm), ht⟩) (fun _ h => nomatch h) dX6_total_183
