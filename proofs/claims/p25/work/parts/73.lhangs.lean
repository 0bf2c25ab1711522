def fL_hangs_L3 (y : (Int32 × Int32 × Int32)) (xN : SD) (zq1 : (Int32)) (i2_12 : Int32) (zv132 : Int32) : Nat → Int32 → Int32 → Option (Int32)
  | 0, _, _ => none
  | n + 1, i3_14, i3_15 => (if i3_15 < zq1 then (some i3_14) else ((fX8_slot y xN i2_12 i3_15 0).bind (fun zq134 => (((if 0 ≤ zq134 then (some 0) else (bnd (fX8_heaviest y xN i2_12 i3_15) (fun zq137 => (if zq137 < zv132 then (some 0) else (some 1))))) : Option (Int32)).bind (fun zq135 => (((if zq135 = 0 then (some i3_14) else (if i3_14 < 0 then (some i3_15) else ((fX8_slot y xN i2_12 i3_15 4).bind (fun zq142 => ((fX8_slot y xN i2_12 i3_14 4).bind (fun zq143 => (if zq143 < zq142 then (some i3_14) else (some i3_15)))))))) : Option (Int32)).bind (fun zq139 => (fL_hangs_L3 y xN zq1 i2_12 zv132 n zq139 (i3_15 + (-1))))))))))
def fL_hangs_L2 (y : (Int32 × Int32 × Int32)) (xN : SD) (zq1 : (Int32)) : Nat → Int32 → Int32 → Option (Int32)
  | 0, _, _ => none
  | n + 1, i2_9, i2_12 => (if 3 ≤ i2_12 then (some i2_9) else (if i2_9 = 0 then (some i2_9) else (bnd (1 + (7 * i2_12)) (fun zv132 => ((fL_hangs_L3 y xN zq1 i2_12 zv132 1000 (-5) 15).bind (fun zq145 => ((fX8_cheapest y xN i2_12 zv132).bind (fun zq146 => (((if zq146 = zq145 then (some 1) else (some 0)) : Option (Int32)).bind (fun zq147 => (fL_hangs_L2 y xN zq1 n zq147 (i2_12 + 1))))))))))))
def fL_hangs_L1 (y : (Int32 × Int32 × Int32)) (xN : SD) (zq1 : (Int32)) : Nat → Int32 → Int32 → Int32 → Int32 → Option (Int32 × Int32 × Int32)
  | 0, _, _, _, _ => none
  | n + 1, i1_9, i1_10, i1_11, i1_12 => (if 48 ≤ i1_12 then (some (i1_9, i1_10, i1_11)) else (if i1_9 = 0 then (some (i1_9, i1_10, i1_11)) else (bnd (i1_12 / 16) (fun zv51 => (bnd (i1_12 - i1_12 / 16 * 16) (fun zv52 => ((fX8_slot y xN zv51 zv52 0).bind (fun zq53 => ((fX8_slot y xN zv51 zv52 3).bind (fun zq54 => ((fX8_slot y xN zv51 zv52 4).bind (fun zq55 => ((fX8_slot y xN zv51 zv52 6).bind (fun zq56 => ((fX8_slot y xN zv51 zv52 5).bind (fun zq57 => (((if zq57 = 1 then (some 1) else (some 0)) : Option (Int32)).bind (fun zq58 => (bnd (i1_10 + zq54) (fun zv60 => (((if zq53 < 0 then (some 0) else (if zq58 = 0 then (some 1) else (some 0))) : Option (Int32)).bind (fun zq61 => (bnd (i1_11 + zq61) (fun zv64 => (((if zq1 ≤ zv52 then (some 0) else (some 1)) : Option (Int32)).bind (fun zq65 => (((if zq58 = zq65 then (if zq53 < 0 then ((fX8_slot y xN zv51 zv52 1).bind (fun zq70 => (if zq70 = 0 then ((fX8_slot y xN zv51 zv52 2).bind (fun zq72 => (if zq72 = 0 then (((if zq54 = 0 then (some 1) else (some 0)) : Option (Int32)).bind (fun zq74 => (((if zq55 = 0 then (some 1) else (some 0)) : Option (Int32)).bind (fun zq76 => (if zq74 = zq76 then (if zq58 = 0 then (if zq56 = (-5) then (some 1) else (some 0)) else (if zq54 = 0 then (if zq56 < 0 then (some 0) else (if 3 < zq56 then (some 0) else (((if zq56 = 1 then (some 1) else (if zq56 = 2 then (some 1) else (some 0))) : Option (Int32)).bind (fun zq84 => (((if 0 ≤ zq53 then (some 0) else (some 1)) : Option (Int32)).bind (fun zq87 => (if zq84 = zq87 then (some 1) else (some 0)))))))) else (some 0))) else (some 0)))))) else (some 0)))) else (some 0)))) else (if zq54 = 0 then ((fX8_slot y xN zv51 zv52 1).bind (fun zq91 => (if zq91 < 1 then (some 0) else ((fX8_slot y xN zv51 zv52 1).bind (fun zq93 => (if (20 + (20 * zv51)) < zq93 then (some 0) else ((fX8_slot y xN zv51 zv52 2).bind (fun zq95 => (if zq95 < 0 then (some 0) else (((some 1) : Option (Int32)).bind (fun zq97 => (((if zq55 = 0 then (some 1) else (some 0)) : Option (Int32)).bind (fun zq99 => (if zq97 = zq99 then (if zq58 = 0 then (if zq56 = (-5) then (some 1) else (some 0)) else (if zq56 < 0 then (some 0) else (if 3 < zq56 then (some 0) else (((if zq56 = 1 then (some 1) else (if zq56 = 2 then (some 1) else (some 0))) : Option (Int32)).bind (fun zq107 => (((if 0 ≤ zq53 then (some 0) else (some 1)) : Option (Int32)).bind (fun zq110 => (if zq107 = zq110 then (some 1) else (some 0))))))))) else (some 0))))))))))))))) else (some 0))) else (some 0)) : Option (Int32)).bind (fun zq67 => (((if zq67 = 0 then (some 0) else (if zq58 = 0 then (some 1) else (if zq53 < 0 then (some 1) else (((if zq56 = 0 then (some 1) else (some 0)) : Option (Int32)).bind (fun zq117 => (bnd (fX8_wind y xN zv52) (fun zq119 => ((fX8_slot y xN zv51 zv52 1).bind (fun zq120 => (((if (70 - zq120) < zq119 then (some 0) else (some 1)) : Option (Int32)).bind (fun zq121 => (if zq117 = zq121 then (some 1) else (some 0))))))))))))) : Option (Int32)).bind (fun zq113 => (fL_hangs_L1 y xN zq1 n zq113 zv60 zv64 (i1_12 + 1))))))))))))))))))))))))))))))))
def fL_hangs_L0 (y : (Int32 × Int32 × Int32)) (xN : SD) : Nat → Int32 → Int32 → Int32 → Int32 → Int32 → Int32 → Int32 → Int32 → Int32 → Option (Int32 × Int32 × Int32 × Int32 × Int32 × Int32 × Int32 × Int32)
  | 0, _, _, _, _, _, _, _, _, _ => none
  | n + 1, i0_2, i0_3, i0_4, i0_5, i0_6, i0_7, i0_8, i0_9, i0_10 => (if 6 ≤ i0_10 then (some (i0_2, i0_3, i0_4, i0_5, i0_6, i0_7, i0_8, i0_9)) else (if i0_9 = 0 then (some (i0_2, i0_3, i0_4, i0_5, i0_6, i0_7, i0_8, i0_9)) else ((fX8_firm y xN i0_10 0).bind (fun zq4 => (((if zq4 < 0 then (some 0) else ((fX8_firm y xN i0_10 1).bind (fun zq7 => ((fX8_firm y xN i0_10 0).bind (fun zq8 => (if zq8 < zq7 then (some 0) else ((fX8_firm y xN i0_10 2).bind (fun zq10 => (((if zq10 = 0 then (some 1) else (some 0)) : Option (Int32)).bind (fun zq11 => ((fX8_firm y xN i0_10 1).bind (fun zq13 => (((if zq13 = 0 then (some 1) else (some 0)) : Option (Int32)).bind (fun zq14 => (if zq11 = zq14 then (some 1) else (some 0)))))))))))))))) : Option (Int32)).bind (fun zq5 => ((fX8_firm y xN i0_10 0).bind (fun zq17 => (bnd (i0_2 + zq17) (fun zv18 => ((fX8_firm y xN i0_10 1).bind (fun zq19 => (bnd (i0_6 + zq19) (fun zv20 => ((fX8_firm y xN i0_10 2).bind (fun zq21 => (bnd (i0_7 + zq21) (fun zv22 => ((fX8_firm y xN i0_10 3).bind (fun zq23 => (bnd (i0_8 + zq23) (fun zv24 => ((fX8_firm y xN i0_10 4).bind (fun zq25 => (bnd (i0_3 + zq25) (fun zv26 => ((fX8_firm y xN i0_10 5).bind (fun zq27 => (bnd (i0_4 + zq27) (fun zv28 => ((fX8_firm y xN i0_10 6).bind (fun zq29 => (bnd (i0_5 + zq29) (fun zv30 => (fL_hangs_L0 y xN n zv18 zv26 zv28 zv30 zv20 zv22 zv24 zq5 (i0_10 + 1))))))))))))))))))))))))))))))))))))
def fL_hangs (y : (Int32 × Int32 × Int32)) (xN : SD) (u : HDT) (w : PD) : Option (Int32) := ((fX8_count y xN u w 1).bind (fun zq1 => ((fL_hangs_L0 y xN 1000 0 0 0 0 0 0 0 1 0).bind (fun zq31 => (((if zq31.2.2.2.2.2.2.2 = 0 then (some 0) else ((fX8_count y xN u w 10).bind (fun zq34 => (if zq31.1 = zq34 then ((fX8_count y xN u w 8).bind (fun zq36 => ((fX8_count y xN u w 11).bind (fun zq37 => (if (zq31.1 + zq36) = zq37 then ((fX8_count y xN u w 8).bind (fun zq39 => (if zq31.2.2.1 = zq39 then (if zq31.2.2.2.1 = 0 then ((fX8_count y xN u w 4).bind (fun zq42 => (if zq31.2.1 = zq42 then ((fX8_count y xN u w 2).bind (fun zq44 => (if zq31.2.2.2.2.2.1 = zq44 then ((fX8_count y xN u w 3).bind (fun zq46 => (if zq31.2.2.2.2.2.2.1 = zq46 then (if 60 < zq31.2.2.2.2.2.1 then (some 0) else (some 1)) else (some 0)))) else (some 0)))) else (some 0)))) else (some 0)) else (some 0)))) else (some 0)))))) else (some 0))))) : Option (Int32)).bind (fun zq32 => ((fL_hangs_L1 y xN zq1 1000 zq32 0 0 0).bind (fun zq124 => (((if zq124.1 = 0 then (some 0) else (if zq124.2.1 = zq31.2.2.2.2.2.1 then (if zq124.2.2 = zq31.2.2.2.2.2.2.1 then (if zq31.1 < zq31.2.2.2.2.1 then (some 0) else (some 1)) else (some 0)) else (some 0))) : Option (Int32)).bind (fun zq125 => ((fL_hangs_L2 y xN zq1 1000 zq125 0).bind (fun zq149 => (if zq149 = 0 ∨ zq149 = 1 then some zq149 else none)))))))))))))
abbrev rm_L_hangs : Jvm.Room := { frames := 5, cells := 0, slots := 0, locals := 112 }
theorem hs_L_hangs : yL_hangs.cls ≠ "java/lang/invoke/MethodHandle" ∧ yL_hangs.cls ≠ "java/lang/invoke/VarHandle" ∧ (parseMethodDescriptor yL_hangs.desc).map (fun d => d.parameters.length) = some 1 := by decide +kernel
set_option maxHeartbeats 4000000 in
set_option maxRecDepth 100000 in
theorem kL_hangs (l : Launch) (g : CX) (h0 jH jA jP jT : Nat) (aN aB aS : Nat → Nat) (y : (Int32 × Int32 × Int32)) (xN : SD) (u : HDT) (w : PD) (res : Int32) (hm0 : fL_hangs y xN u w = some res) : Met l yL_hangs (wg yL_hangs method_4_code 20 (some .boolean)) rm_L_hangs (PR g [.ref h0] ([w_hh g h0 jH jP aN aB aS y, w_X6 g aN xN, w_hd g jH jA u.1 (u.2.1.1 0) (u.2.2.1.1 0) (u.2.2.2.1.1 0) (u.2.2.2.2.1 0), w_X6 g u.2.1.1 u.2.1.2, w_X6 g u.2.2.1.1 u.2.2.1.2, w_X6 g u.2.2.2.1.1 u.2.2.2.1.2, w_X6 g u.2.2.2.2.1 u.2.2.2.2.2, w_X3 g jP jT w].flatten)) (vp_Si (fun v => v = res)) 0 0 (fun _ => False) := by
  refine Met.ofW (cc := method_4_code) (maxL := 20) (ret := (some .boolean)) (by decide) rfl ?_
  intro p e s m args below meth c s₁ B hml hv
  obtain ⟨rfl, hP, hK, hL⟩ := hv
  have hx := B.exec
  have hb := B.bytes
  have hr := B.returns
  have htG := wg_G (atoms_spec (ws := wg yL_hangs method_4_code 20 (some .boolean)) B.pre)
  have hown : s.vm.findClass RL = some m.cls := findClass_of_methodNamed B.named
  have hlocks := B.notSynchronized
  have hS : va_S (fun _ => False) s.heap s.heap [] := va_S.rf
  have hl := lv_entry ([.ref h0]) (n := 20) (Nat.le_of_ble_eq_true rfl)
  rw [lg_entry_eq]
  generalize (lg_sl ([.ref h0]) ++ List.replicate (20 - (lg_sl ([.ref h0])).length) Slot.unset).toArray = ls at hl ⊢
  have hl : lv_has ls 20 [(0, .ref h0)] := hl
  have hm := hm0
  unfold fL_hangs at hm
  refine lv_aload_n hx hb dL_hangs_0 rfl (lv_at hl 0 rfl) ?_
  refine lv_iconst (v := 1) hx hb dL_hangs_1 (by decide) ?_
  obtain ⟨zq1, hzq1, hm⟩ := bdk hm
  have hPc := va_cutP hP (blkQ (bs := [w_hh g h0 jH jP aN aB aS y, w_X6 g aN xN, w_hd g jH jA u.1 (u.2.1.1 0) (u.2.2.1.1 0) (u.2.2.2.1.1 0) (u.2.2.2.2.1 0), w_X6 g u.2.1.1 u.2.1.2, w_X6 g u.2.2.1.1 u.2.2.1.2, w_X6 g u.2.2.2.1.1 u.2.2.2.1.2, w_X6 g u.2.2.2.2.1 u.2.2.2.2.2, w_X3 g jP jT w]) (cs := [w_hh g h0 jH jP aN aB aS y, w_X6 g aN xN, w_hd g jH jA u.1 (u.2.1.1 0) (u.2.2.1.1 0) (u.2.2.2.1.1 0) (u.2.2.2.2.1 0), w_X6 g u.2.1.1 u.2.1.2, w_X6 g u.2.2.1.1 u.2.2.1.2, w_X6 g u.2.2.2.1.1 u.2.2.2.1.2, w_X6 g u.2.2.2.2.1 u.2.2.2.2.2, w_X3 g jP jT w]) (rs := []) [0, 1, 2, 3, 4, 5, 6, 7] 8 rfl (by decide) rfl (wc := [w_hh g h0 jH jP aN aB aS y, w_X6 g aN xN, w_hd g jH jA u.1 (u.2.1.1 0) (u.2.2.1.1 0) (u.2.2.2.1.1 0) (u.2.2.2.2.1 0), w_X6 g u.2.1.1 u.2.1.2, w_X6 g u.2.2.1.1 u.2.2.1.2, w_X6 g u.2.2.2.1.1 u.2.2.2.1.2, w_X6 g u.2.2.2.2.1 u.2.2.2.2.2, w_X3 g jP jT w].flatten) rfl)
  refine ko_e (va_runV (As := [.int 1]) (rest := []) ⟨hx, hb, hml, hown, htG⟩ (kX8_count l g h0 jH jA jP jT aN aB aS y xN u w 1 _ hzq1) (cwV 1 htG (GV g3_144 g3_145 g3_146 g1_1 g3_147) rfl rfl rfl hd_X8_count ⟨Nat.le_of_ble_eq_true rfl, Nat.le_of_ble_eq_true rfl⟩) (PR_VA hK hL hS hPc (ci := 7) rfl 0 rfl) rfl rfl hl.1 rfl (lv_room (Nat.le_of_ble_eq_true rfl)) dL_hangs_2 ⟨Nat.zero_le _, Nat.zero_le _⟩) ?_
  refine lv_istore_n (lv' := [(1, .int zq1), (0, .ref h0)]) hx hb dL_hangs_5 rfl hl (by decide) rfl (fun ls hl => ?_)
  refine lv_iconst (v := 0) hx hb dL_hangs_6 (by decide) ?_
  refine lv_istore_n (lv' := [(2, .int 0), (1, .int zq1), (0, .ref h0)]) hx hb dL_hangs_7 rfl hl (by decide) rfl (fun ls hl => ?_)
  refine lv_iconst (v := 0) hx hb dL_hangs_8 (by decide) ?_
  refine lv_istore_n (lv' := [(3, .int 0), (2, .int 0), (1, .int zq1), (0, .ref h0)]) hx hb dL_hangs_9 rfl hl (by decide) rfl (fun ls hl => ?_)
  refine lv_iconst (v := 0) hx hb dL_hangs_10 (by decide) ?_
  refine lv_istore (lv' := [(4, .int 0), (3, .int 0), (2, .int 0), (1, .int zq1), (0, .ref h0)]) hx hb dL_hangs_11 hl (by decide) rfl (fun ls hl => ?_)
  refine lv_iconst (v := 0) hx hb dL_hangs_13 (by decide) ?_
  refine lv_istore (lv' := [(5, .int 0), (4, .int 0), (3, .int 0), (2, .int 0), (1, .int zq1), (0, .ref h0)]) hx hb dL_hangs_14 hl (by decide) rfl (fun ls hl => ?_)
  refine lv_iconst (v := 0) hx hb dL_hangs_16 (by decide) ?_
  refine lv_istore (lv' := [(6, .int 0), (5, .int 0), (4, .int 0), (3, .int 0), (2, .int 0), (1, .int zq1), (0, .ref h0)]) hx hb dL_hangs_17 hl (by decide) rfl (fun ls hl => ?_)
  refine lv_iconst (v := 0) hx hb dL_hangs_19 (by decide) ?_
  refine lv_istore (lv' := [(7, .int 0), (6, .int 0), (5, .int 0), (4, .int 0), (3, .int 0), (2, .int 0), (1, .int zq1), (0, .ref h0)]) hx hb dL_hangs_20 hl (by decide) rfl (fun ls hl => ?_)
  refine lv_iconst (v := 0) hx hb dL_hangs_22 (by decide) ?_
  refine lv_istore (lv' := [(8, .int 0), (7, .int 0), (6, .int 0), (5, .int 0), (4, .int 0), (3, .int 0), (2, .int 0), (1, .int zq1), (0, .ref h0)]) hx hb dL_hangs_23 hl (by decide) rfl (fun ls hl => ?_)
  refine lv_iconst (v := 1) hx hb dL_hangs_25 (by decide) ?_
  refine lv_istore (lv' := [(9, .int 1), (8, .int 0), (7, .int 0), (6, .int 0), (5, .int 0), (4, .int 0), (3, .int 0), (2, .int 0), (1, .int zq1), (0, .ref h0)]) hx hb dL_hangs_26 hl (by decide) rfl (fun ls hl => ?_)
  refine lv_iconst (v := 0) hx hb dL_hangs_28 (by decide) ?_
  refine lv_istore (lv' := [(10, .int 0), (9, .int 1), (8, .int 0), (7, .int 0), (6, .int 0), (5, .int 0), (4, .int 0), (3, .int 0), (2, .int 0), (1, .int zq1), (0, .ref h0)]) hx hb dL_hangs_29 hl (by decide) rfl (fun ls hl => ?_)
  have hL0 : ∀ (Q : State → Prop), ∀ (n : Nat) (i0_2 : Int32) (i0_3 : Int32) (i0_4 : Int32) (i0_5 : Int32) (i0_6 : Int32) (i0_7 : Int32) (i0_8 : Int32) (i0_9 : Int32) (i0_10 : Int32) (out : Int32 × Int32 × Int32 × Int32 × Int32 × Int32 × Int32 × Int32) (ls : Array Slot), fL_hangs_L0 y xN n i0_2 i0_3 i0_4 i0_5 i0_6 i0_7 i0_8 i0_9 i0_10 = some out → lv_has ls 20 [(0, .ref h0), (1, .int zq1), (2, .int i0_2), (3, .int i0_3), (4, .int i0_4), (5, .int i0_5), (6, .int i0_6), (7, .int i0_7), (8, .int i0_8), (9, .int i0_9), (10, .int i0_10)] → (∀ ls : Array Slot, lv_has ls 20 [(0, .ref h0), (1, .int zq1), (2, .int out.1), (3, .int out.2.1), (4, .int out.2.2.1), (5, .int out.2.2.2.1), (6, .int out.2.2.2.2.1), (7, .int out.2.2.2.2.2.1), (8, .int out.2.2.2.2.2.2.1), (9, .int out.2.2.2.2.2.2.2)] → W p l e (headSpec (wg yL_hangs method_4_code 20 (some .boolean)) rm_L_hangs).room s m (([.ref h0] : List Value).toArray) below meth c s.heap [] 0 0 Q (F0 m 197 ls [])) → W p l e (headSpec (wg yL_hangs method_4_code 20 (some .boolean)) rm_L_hangs).room s m (([.ref h0] : List Value).toArray) below meth c s.heap [] 0 0 Q (F0 m 31 ls []) := by
    intro Q n
    induction n with
    | zero =>
      intro i0_2 i0_3 i0_4 i0_5 i0_6 i0_7 i0_8 i0_9 i0_10 out ls hm hl hk
      simp [fL_hangs_L0] at hm
    | succ n ih =>
      intro i0_2 i0_3 i0_4 i0_5 i0_6 i0_7 i0_8 i0_9 i0_10 out ls hm hl hk
      rw [fL_hangs_L0] at hm
      refine lv_iload hx hb dL_hangs_31 (lv_at hl 10 rfl) ?_
      refine lv_bipush (v := 6) hx hb dL_hangs_33 (by decide +kernel) ?_
      refine lv_icmp_ge (tgt := 197) hx hb dL_hangs_35 (by decide) (fun zc2 => ?_) (fun zc2 => ?_)
      · replace hm := (if_pos zc2).symm.trans hm
        obtain rfl := Option.some.inj hm
        exact hk ls (lv_sub hl [0, 1, 2, 3, 4, 5, 6, 7, 8, 9] rfl)
      · replace hm := (if_neg zc2).symm.trans hm
        refine lv_iload hx hb dL_hangs_38 (lv_at hl 9 rfl) ?_
        refine lv_if_eq (tgt := 197) hx hb dL_hangs_40 (by decide) (fun zc3 => ?_) (fun zc3 => ?_)
        · replace hm := (if_pos zc3).symm.trans hm
          obtain rfl := Option.some.inj hm
          exact hk ls (lv_sub hl [0, 1, 2, 3, 4, 5, 6, 7, 8, 9] rfl)
        · replace hm := (if_neg zc3).symm.trans hm
          refine lv_aload_n hx hb dL_hangs_43 rfl (lv_at hl 0 rfl) ?_
          refine lv_iload hx hb dL_hangs_44 (lv_at hl 10 rfl) ?_
          refine lv_iconst (v := 0) hx hb dL_hangs_46 (by decide) ?_
          obtain ⟨zq4, hzq4, hm⟩ := bdk hm
          have hPc := va_cutP hP (blkQ (bs := [w_hh g h0 jH jP aN aB aS y, w_X6 g aN xN, w_hd g jH jA u.1 (u.2.1.1 0) (u.2.2.1.1 0) (u.2.2.2.1.1 0) (u.2.2.2.2.1 0), w_X6 g u.2.1.1 u.2.1.2, w_X6 g u.2.2.1.1 u.2.2.1.2, w_X6 g u.2.2.2.1.1 u.2.2.2.1.2, w_X6 g u.2.2.2.2.1 u.2.2.2.2.2, w_X3 g jP jT w]) (cs := [w_hh g h0 jH jP aN aB aS y, w_X6 g aN xN]) (rs := [w_hd g jH jA u.1 (u.2.1.1 0) (u.2.2.1.1 0) (u.2.2.2.1.1 0) (u.2.2.2.2.1 0), w_X6 g u.2.1.1 u.2.1.2, w_X6 g u.2.2.1.1 u.2.2.1.2, w_X6 g u.2.2.2.1.1 u.2.2.2.1.2, w_X6 g u.2.2.2.2.1 u.2.2.2.2.2, w_X3 g jP jT w]) [0, 1, 2, 3, 4, 5, 6, 7] 8 rfl (by decide) rfl (wc := [w_hh g h0 jH jP aN aB aS y, w_X6 g aN xN].flatten) rfl)
          refine ko_e (va_runV (As := [.int i0_10, .int 0]) (rest := []) ⟨hx, hb, hml, hown, htG⟩ (kX8_firm l g h0 jH jA jP jT aN aB aS y xN i0_10 0 _ hzq4) (cwV 2 htG (GV g3_96 g3_97 g3_98 g1_1 g3_99) rfl rfl rfl hd_X8_firm ⟨Nat.le_of_ble_eq_true rfl, Nat.le_of_ble_eq_true rfl⟩) (PR_VA hK hL hS hPc (ci := 7) rfl 0 rfl) rfl rfl hl.1 rfl (lv_room (Nat.le_of_ble_eq_true rfl)) dL_hangs_47 ⟨Nat.zero_le _, Nat.zero_le _⟩) ?_
          obtain ⟨zq5, hzq5, hm⟩ := bdk hm
          refine jnR (n := 20) (lv := [(0, .ref h0), (1, .int zq1), (2, .int i0_2), (3, .int i0_3), (4, .int i0_4), (5, .int i0_5), (6, .int i0_6), (7, .int i0_7), (8, .int i0_8), (10, .int i0_10)]) (stk := [.int zq5]) (J := 108) (fun ls hl => ?_) (fun hJ => ?_)
          · skip
            refine lv_istore (lv' := [(9, .int zq5), (0, .ref h0), (1, .int zq1), (2, .int i0_2), (3, .int i0_3), (4, .int i0_4), (5, .int i0_5), (6, .int i0_6), (7, .int i0_7), (8, .int i0_8), (10, .int i0_10)]) hx hb dL_hangs_108 hl (by decide) rfl (fun ls hl => ?_)
            refine lv_iload_n hx hb dL_hangs_110 rfl (lv_at hl 3 rfl) ?_
            refine lv_aload_n hx hb dL_hangs_111 rfl (lv_at hl 1 rfl) ?_
            refine lv_iload hx hb dL_hangs_112 (lv_at hl 10 rfl) ?_
            refine lv_iconst (v := 0) hx hb dL_hangs_114 (by decide) ?_
            obtain ⟨zq17, hzq17, hm⟩ := bdk hm
            have hPc := va_cutP hP (blkQ (bs := [w_hh g h0 jH jP aN aB aS y, w_X6 g aN xN, w_hd g jH jA u.1 (u.2.1.1 0) (u.2.2.1.1 0) (u.2.2.2.1.1 0) (u.2.2.2.2.1 0), w_X6 g u.2.1.1 u.2.1.2, w_X6 g u.2.2.1.1 u.2.2.1.2, w_X6 g u.2.2.2.1.1 u.2.2.2.1.2, w_X6 g u.2.2.2.2.1 u.2.2.2.2.2, w_X3 g jP jT w]) (cs := [w_hh g h0 jH jP aN aB aS y, w_X6 g aN xN]) (rs := [w_hd g jH jA u.1 (u.2.1.1 0) (u.2.2.1.1 0) (u.2.2.2.1.1 0) (u.2.2.2.2.1 0), w_X6 g u.2.1.1 u.2.1.2, w_X6 g u.2.2.1.1 u.2.2.1.2, w_X6 g u.2.2.2.1.1 u.2.2.2.1.2, w_X6 g u.2.2.2.2.1 u.2.2.2.2.2, w_X3 g jP jT w]) [0, 1, 2, 3, 4, 5, 6, 7] 8 rfl (by decide) rfl (wc := [w_hh g h0 jH jP aN aB aS y, w_X6 g aN xN].flatten) rfl)
            refine ko_e (va_runV (As := [.int i0_10, .int 0]) (rest := [.int i0_2]) ⟨hx, hb, hml, hown, htG⟩ (kX8_firm l g h0 jH jA jP jT aN aB aS y xN i0_10 0 _ hzq17) (cwV 2 htG (GV g3_96 g3_97 g3_98 g1_1 g3_99) rfl rfl rfl hd_X8_firm ⟨Nat.le_of_ble_eq_true rfl, Nat.le_of_ble_eq_true rfl⟩) (PR_VA hK hL hS hPc (ci := 7) rfl 0 rfl) rfl rfl hl.1 rfl (lv_room (Nat.le_of_ble_eq_true rfl)) dL_hangs_115 ⟨Nat.zero_le _, Nat.zero_le _⟩) ?_
            refine lv_iadd hx hb dL_hangs_118 ?_
            obtain ⟨zv18, ezv18, hm⟩ := bnk hm
            refine tope ezv18 ?_
            refine lv_istore_n (lv' := [(2, .int zv18), (9, .int zq5), (0, .ref h0), (1, .int zq1), (3, .int i0_3), (4, .int i0_4), (5, .int i0_5), (6, .int i0_6), (7, .int i0_7), (8, .int i0_8), (10, .int i0_10)]) hx hb dL_hangs_119 rfl hl (by decide) rfl (fun ls hl => ?_)
            refine lv_iload hx hb dL_hangs_120 (lv_at hl 7 rfl) ?_
            refine lv_aload_n hx hb dL_hangs_122 rfl (lv_at hl 2 rfl) ?_
            refine lv_iload hx hb dL_hangs_123 (lv_at hl 10 rfl) ?_
            refine lv_iconst (v := 1) hx hb dL_hangs_125 (by decide) ?_
            obtain ⟨zq19, hzq19, hm⟩ := bdk hm
            have hPc := va_cutP hP (blkQ (bs := [w_hh g h0 jH jP aN aB aS y, w_X6 g aN xN, w_hd g jH jA u.1 (u.2.1.1 0) (u.2.2.1.1 0) (u.2.2.2.1.1 0) (u.2.2.2.2.1 0), w_X6 g u.2.1.1 u.2.1.2, w_X6 g u.2.2.1.1 u.2.2.1.2, w_X6 g u.2.2.2.1.1 u.2.2.2.1.2, w_X6 g u.2.2.2.2.1 u.2.2.2.2.2, w_X3 g jP jT w]) (cs := [w_hh g h0 jH jP aN aB aS y, w_X6 g aN xN]) (rs := [w_hd g jH jA u.1 (u.2.1.1 0) (u.2.2.1.1 0) (u.2.2.2.1.1 0) (u.2.2.2.2.1 0), w_X6 g u.2.1.1 u.2.1.2, w_X6 g u.2.2.1.1 u.2.2.1.2, w_X6 g u.2.2.2.1.1 u.2.2.2.1.2, w_X6 g u.2.2.2.2.1 u.2.2.2.2.2, w_X3 g jP jT w]) [0, 1, 2, 3, 4, 5, 6, 7] 8 rfl (by decide) rfl (wc := [w_hh g h0 jH jP aN aB aS y, w_X6 g aN xN].flatten) rfl)
            refine ko_e (va_runV (As := [.int i0_10, .int 1]) (rest := [.int i0_6]) ⟨hx, hb, hml, hown, htG⟩ (kX8_firm l g h0 jH jA jP jT aN aB aS y xN i0_10 1 _ hzq19) (cwV 2 htG (GV g3_96 g3_97 g3_98 g1_1 g3_99) rfl rfl rfl hd_X8_firm ⟨Nat.le_of_ble_eq_true rfl, Nat.le_of_ble_eq_true rfl⟩) (PR_VA hK hL hS hPc (ci := 7) rfl 0 rfl) rfl rfl hl.1 rfl (lv_room (Nat.le_of_ble_eq_true rfl)) dL_hangs_126 ⟨Nat.zero_le _, Nat.zero_le _⟩) ?_
            refine lv_iadd hx hb dL_hangs_129 ?_
            obtain ⟨zv20, ezv20, hm⟩ := bnk hm
            refine tope ezv20 ?_
            refine lv_istore (lv' := [(6, .int zv20), (2, .int zv18), (9, .int zq5), (0, .ref h0), (1, .int zq1), (3, .int i0_3), (4, .int i0_4), (5, .int i0_5), (7, .int i0_7), (8, .int i0_8), (10, .int i0_10)]) hx hb dL_hangs_130 hl (by decide) rfl (fun ls hl => ?_)
            refine lv_iload hx hb dL_hangs_132 (lv_at hl 8 rfl) ?_
            refine lv_aload_n hx hb dL_hangs_134 rfl (lv_at hl 3 rfl) ?_
            refine lv_iload hx hb dL_hangs_135 (lv_at hl 10 rfl) ?_
            refine lv_iconst (v := 2) hx hb dL_hangs_137 (by decide) ?_
            obtain ⟨zq21, hzq21, hm⟩ := bdk hm
            have hPc := va_cutP hP (blkQ (bs := [w_hh g h0 jH jP aN aB aS y, w_X6 g aN xN, w_hd g jH jA u.1 (u.2.1.1 0) (u.2.2.1.1 0) (u.2.2.2.1.1 0) (u.2.2.2.2.1 0), w_X6 g u.2.1.1 u.2.1.2, w_X6 g u.2.2.1.1 u.2.2.1.2, w_X6 g u.2.2.2.1.1 u.2.2.2.1.2, w_X6 g u.2.2.2.2.1 u.2.2.2.2.2, w_X3 g jP jT w]) (cs := [w_hh g h0 jH jP aN aB aS y, w_X6 g aN xN]) (rs := [w_hd g jH jA u.1 (u.2.1.1 0) (u.2.2.1.1 0) (u.2.2.2.1.1 0) (u.2.2.2.2.1 0), w_X6 g u.2.1.1 u.2.1.2, w_X6 g u.2.2.1.1 u.2.2.1.2, w_X6 g u.2.2.2.1.1 u.2.2.2.1.2, w_X6 g u.2.2.2.2.1 u.2.2.2.2.2, w_X3 g jP jT w]) [0, 1, 2, 3, 4, 5, 6, 7] 8 rfl (by decide) rfl (wc := [w_hh g h0 jH jP aN aB aS y, w_X6 g aN xN].flatten) rfl)
            refine ko_e (va_runV (As := [.int i0_10, .int 2]) (rest := [.int i0_7]) ⟨hx, hb, hml, hown, htG⟩ (kX8_firm l g h0 jH jA jP jT aN aB aS y xN i0_10 2 _ hzq21) (cwV 2 htG (GV g3_96 g3_97 g3_98 g1_1 g3_99) rfl rfl rfl hd_X8_firm ⟨Nat.le_of_ble_eq_true rfl, Nat.le_of_ble_eq_true rfl⟩) (PR_VA hK hL hS hPc (ci := 7) rfl 0 rfl) rfl rfl hl.1 rfl (lv_room (Nat.le_of_ble_eq_true rfl)) dL_hangs_138 ⟨Nat.zero_le _, Nat.zero_le _⟩) ?_
            refine lv_iadd hx hb dL_hangs_141 ?_
            obtain ⟨zv22, ezv22, hm⟩ := bnk hm
            refine tope ezv22 ?_
            refine lv_istore (lv' := [(7, .int zv22), (6, .int zv20), (2, .int zv18), (9, .int zq5), (0, .ref h0), (1, .int zq1), (3, .int i0_3), (4, .int i0_4), (5, .int i0_5), (8, .int i0_8), (10, .int i0_10)]) hx hb dL_hangs_142 hl (by decide) rfl (fun ls hl => ?_)
            refine lv_iload hx hb dL_hangs_144 (lv_at hl 9 rfl) ?_
            refine lv_aload_n hx hb dL_hangs_146 rfl (lv_at hl 4 rfl) ?_
            refine lv_iload hx hb dL_hangs_147 (lv_at hl 10 rfl) ?_
            refine lv_iconst (v := 3) hx hb dL_hangs_149 (by decide) ?_
            obtain ⟨zq23, hzq23, hm⟩ := bdk hm
            have hPc := va_cutP hP (blkQ (bs := [w_hh g h0 jH jP aN aB aS y, w_X6 g aN xN, w_hd g jH jA u.1 (u.2.1.1 0) (u.2.2.1.1 0) (u.2.2.2.1.1 0) (u.2.2.2.2.1 0), w_X6 g u.2.1.1 u.2.1.2, w_X6 g u.2.2.1.1 u.2.2.1.2, w_X6 g u.2.2.2.1.1 u.2.2.2.1.2, w_X6 g u.2.2.2.2.1 u.2.2.2.2.2, w_X3 g jP jT w]) (cs := [w_hh g h0 jH jP aN aB aS y, w_X6 g aN xN]) (rs := [w_hd g jH jA u.1 (u.2.1.1 0) (u.2.2.1.1 0) (u.2.2.2.1.1 0) (u.2.2.2.2.1 0), w_X6 g u.2.1.1 u.2.1.2, w_X6 g u.2.2.1.1 u.2.2.1.2, w_X6 g u.2.2.2.1.1 u.2.2.2.1.2, w_X6 g u.2.2.2.2.1 u.2.2.2.2.2, w_X3 g jP jT w]) [0, 1, 2, 3, 4, 5, 6, 7] 8 rfl (by decide) rfl (wc := [w_hh g h0 jH jP aN aB aS y, w_X6 g aN xN].flatten) rfl)
            refine ko_e (va_runV (As := [.int i0_10, .int 3]) (rest := [.int i0_8]) ⟨hx, hb, hml, hown, htG⟩ (kX8_firm l g h0 jH jA jP jT aN aB aS y xN i0_10 3 _ hzq23) (cwV 2 htG (GV g3_96 g3_97 g3_98 g1_1 g3_99) rfl rfl rfl hd_X8_firm ⟨Nat.le_of_ble_eq_true rfl, Nat.le_of_ble_eq_true rfl⟩) (PR_VA hK hL hS hPc (ci := 7) rfl 0 rfl) rfl rfl hl.1 rfl (lv_room (Nat.le_of_ble_eq_true rfl)) dL_hangs_150 ⟨Nat.zero_le _, Nat.zero_le _⟩) ?_
            refine lv_iadd hx hb dL_hangs_153 ?_
            obtain ⟨zv24, ezv24, hm⟩ := bnk hm
            refine tope ezv24 ?_
            refine lv_istore (lv' := [(8, .int zv24), (7, .int zv22), (6, .int zv20), (2, .int zv18), (9, .int zq5), (0, .ref h0), (1, .int zq1), (3, .int i0_3), (4, .int i0_4), (5, .int i0_5), (10, .int i0_10)]) hx hb dL_hangs_154 hl (by decide) rfl (fun ls hl => ?_)
            refine lv_iload_n hx hb dL_hangs_156 rfl (lv_at hl 7 rfl) ?_
            refine lv_aload_n hx hb dL_hangs_157 rfl (lv_at hl 5 rfl) ?_
            refine lv_iload hx hb dL_hangs_158 (lv_at hl 10 rfl) ?_
            refine lv_iconst (v := 4) hx hb dL_hangs_160 (by decide) ?_
            obtain ⟨zq25, hzq25, hm⟩ := bdk hm
            have hPc := va_cutP hP (blkQ (bs := [w_hh g h0 jH jP aN aB aS y, w_X6 g aN xN, w_hd g jH jA u.1 (u.2.1.1 0) (u.2.2.1.1 0) (u.2.2.2.1.1 0) (u.2.2.2.2.1 0), w_X6 g u.2.1.1 u.2.1.2, w_X6 g u.2.2.1.1 u.2.2.1.2, w_X6 g u.2.2.2.1.1 u.2.2.2.1.2, w_X6 g u.2.2.2.2.1 u.2.2.2.2.2, w_X3 g jP jT w]) (cs := [w_hh g h0 jH jP aN aB aS y, w_X6 g aN xN]) (rs := [w_hd g jH jA u.1 (u.2.1.1 0) (u.2.2.1.1 0) (u.2.2.2.1.1 0) (u.2.2.2.2.1 0), w_X6 g u.2.1.1 u.2.1.2, w_X6 g u.2.2.1.1 u.2.2.1.2, w_X6 g u.2.2.2.1.1 u.2.2.2.1.2, w_X6 g u.2.2.2.2.1 u.2.2.2.2.2, w_X3 g jP jT w]) [0, 1, 2, 3, 4, 5, 6, 7] 8 rfl (by decide) rfl (wc := [w_hh g h0 jH jP aN aB aS y, w_X6 g aN xN].flatten) rfl)
            refine ko_e (va_runV (As := [.int i0_10, .int 4]) (rest := [.int i0_3]) ⟨hx, hb, hml, hown, htG⟩ (kX8_firm l g h0 jH jA jP jT aN aB aS y xN i0_10 4 _ hzq25) (cwV 2 htG (GV g3_96 g3_97 g3_98 g1_1 g3_99) rfl rfl rfl hd_X8_firm ⟨Nat.le_of_ble_eq_true rfl, Nat.le_of_ble_eq_true rfl⟩) (PR_VA hK hL hS hPc (ci := 7) rfl 0 rfl) rfl rfl hl.1 rfl (lv_room (Nat.le_of_ble_eq_true rfl)) dL_hangs_161 ⟨Nat.zero_le _, Nat.zero_le _⟩) ?_
            refine lv_iadd hx hb dL_hangs_164 ?_
            obtain ⟨zv26, ezv26, hm⟩ := bnk hm
            refine tope ezv26 ?_
            refine lv_istore_n (lv' := [(3, .int zv26), (8, .int zv24), (7, .int zv22), (6, .int zv20), (2, .int zv18), (9, .int zq5), (0, .ref h0), (1, .int zq1), (4, .int i0_4), (5, .int i0_5), (10, .int i0_10)]) hx hb dL_hangs_165 rfl hl (by decide) rfl (fun ls hl => ?_)
            refine lv_iload hx hb dL_hangs_166 (lv_at hl 8 rfl) ?_
            refine lv_aload_n hx hb dL_hangs_168 rfl (lv_at hl 6 rfl) ?_
            refine lv_iload hx hb dL_hangs_169 (lv_at hl 10 rfl) ?_
            refine lv_iconst (v := 5) hx hb dL_hangs_171 (by decide) ?_
            obtain ⟨zq27, hzq27, hm⟩ := bdk hm
            have hPc := va_cutP hP (blkQ (bs := [w_hh g h0 jH jP aN aB aS y, w_X6 g aN xN, w_hd g jH jA u.1 (u.2.1.1 0) (u.2.2.1.1 0) (u.2.2.2.1.1 0) (u.2.2.2.2.1 0), w_X6 g u.2.1.1 u.2.1.2, w_X6 g u.2.2.1.1 u.2.2.1.2, w_X6 g u.2.2.2.1.1 u.2.2.2.1.2, w_X6 g u.2.2.2.2.1 u.2.2.2.2.2, w_X3 g jP jT w]) (cs := [w_hh g h0 jH jP aN aB aS y, w_X6 g aN xN]) (rs := [w_hd g jH jA u.1 (u.2.1.1 0) (u.2.2.1.1 0) (u.2.2.2.1.1 0) (u.2.2.2.2.1 0), w_X6 g u.2.1.1 u.2.1.2, w_X6 g u.2.2.1.1 u.2.2.1.2, w_X6 g u.2.2.2.1.1 u.2.2.2.1.2, w_X6 g u.2.2.2.2.1 u.2.2.2.2.2, w_X3 g jP jT w]) [0, 1, 2, 3, 4, 5, 6, 7] 8 rfl (by decide) rfl (wc := [w_hh g h0 jH jP aN aB aS y, w_X6 g aN xN].flatten) rfl)
            refine ko_e (va_runV (As := [.int i0_10, .int 5]) (rest := [.int i0_4]) ⟨hx, hb, hml, hown, htG⟩ (kX8_firm l g h0 jH jA jP jT aN aB aS y xN i0_10 5 _ hzq27) (cwV 2 htG (GV g3_96 g3_97 g3_98 g1_1 g3_99) rfl rfl rfl hd_X8_firm ⟨Nat.le_of_ble_eq_true rfl, Nat.le_of_ble_eq_true rfl⟩) (PR_VA hK hL hS hPc (ci := 7) rfl 0 rfl) rfl rfl hl.1 rfl (lv_room (Nat.le_of_ble_eq_true rfl)) dL_hangs_172 ⟨Nat.zero_le _, Nat.zero_le _⟩) ?_
            refine lv_iadd hx hb dL_hangs_175 ?_
            obtain ⟨zv28, ezv28, hm⟩ := bnk hm
            refine tope ezv28 ?_
            refine lv_istore (lv' := [(4, .int zv28), (3, .int zv26), (8, .int zv24), (7, .int zv22), (6, .int zv20), (2, .int zv18), (9, .int zq5), (0, .ref h0), (1, .int zq1), (5, .int i0_5), (10, .int i0_10)]) hx hb dL_hangs_176 hl (by decide) rfl (fun ls hl => ?_)
            refine lv_iload hx hb dL_hangs_178 (lv_at hl 9 rfl) ?_
            refine lv_aload_n hx hb dL_hangs_180 rfl (lv_at hl 7 rfl) ?_
            refine lv_iload hx hb dL_hangs_181 (lv_at hl 10 rfl) ?_
            refine lv_bipush (v := 6) hx hb dL_hangs_183 (by decide +kernel) ?_
            obtain ⟨zq29, hzq29, hm⟩ := bdk hm
            have hPc := va_cutP hP (blkQ (bs := [w_hh g h0 jH jP aN aB aS y, w_X6 g aN xN, w_hd g jH jA u.1 (u.2.1.1 0) (u.2.2.1.1 0) (u.2.2.2.1.1 0) (u.2.2.2.2.1 0), w_X6 g u.2.1.1 u.2.1.2, w_X6 g u.2.2.1.1 u.2.2.1.2, w_X6 g u.2.2.2.1.1 u.2.2.2.1.2, w_X6 g u.2.2.2.2.1 u.2.2.2.2.2, w_X3 g jP jT w]) (cs := [w_hh g h0 jH jP aN aB aS y, w_X6 g aN xN]) (rs := [w_hd g jH jA u.1 (u.2.1.1 0) (u.2.2.1.1 0) (u.2.2.2.1.1 0) (u.2.2.2.2.1 0), w_X6 g u.2.1.1 u.2.1.2, w_X6 g u.2.2.1.1 u.2.2.1.2, w_X6 g u.2.2.2.1.1 u.2.2.2.1.2, w_X6 g u.2.2.2.2.1 u.2.2.2.2.2, w_X3 g jP jT w]) [0, 1, 2, 3, 4, 5, 6, 7] 8 rfl (by decide) rfl (wc := [w_hh g h0 jH jP aN aB aS y, w_X6 g aN xN].flatten) rfl)
            refine ko_e (va_runV (As := [.int i0_10, .int 6]) (rest := [.int i0_5]) ⟨hx, hb, hml, hown, htG⟩ (kX8_firm l g h0 jH jA jP jT aN aB aS y xN i0_10 6 _ hzq29) (cwV 2 htG (GV g3_96 g3_97 g3_98 g1_1 g3_99) rfl rfl rfl hd_X8_firm ⟨Nat.le_of_ble_eq_true rfl, Nat.le_of_ble_eq_true rfl⟩) (PR_VA hK hL hS hPc (ci := 7) rfl 0 rfl) rfl rfl hl.1 rfl (lv_room (Nat.le_of_ble_eq_true rfl)) dL_hangs_185 ⟨Nat.zero_le _, Nat.zero_le _⟩) ?_
            refine lv_iadd hx hb dL_hangs_188 ?_
            obtain ⟨zv30, ezv30, hm⟩ := bnk hm
            refine tope ezv30 ?_
            refine lv_istore (lv' := [(5, .int zv30), (4, .int zv28), (3, .int zv26), (8, .int zv24), (7, .int zv22), (6, .int zv20), (2, .int zv18), (9, .int zq5), (0, .ref h0), (1, .int zq1), (10, .int i0_10)]) hx hb dL_hangs_189 hl (by decide) rfl (fun ls hl => ?_)
            refine lv_iinc (v := i0_10 + 1) (lv' := [(10, .int (i0_10 + 1)), (5, .int zv30), (4, .int zv28), (3, .int zv26), (8, .int zv24), (7, .int zv22), (6, .int zv20), (2, .int zv18), (9, .int zq5), (0, .ref h0), (1, .int zq1)]) hx hb dL_hangs_191 hl (k := 10) rfl rfl (by decide) rfl (fun ls hl => ?_)
            refine lv_goto (tgt := 31) hx hb dL_hangs_194 (by decide) ?_
            exact ih zv18 zv26 zv28 zv30 zv20 zv22 zv24 zq5 (i0_10 + 1) out ls hm (lv_sub hl [9, 10, 7, 3, 2, 1, 6, 5, 4, 8, 0] rfl) hk
          · replace hm := hzq5
            refine lv_if_lt (tgt := 107) hx hb dL_hangs_50 (by decide) (fun zc6 => ?_) (fun zc6 => ?_)
            · replace hm := (if_pos zc6).symm.trans hm
              refine lv_iconst (v := 0) hx hb dL_hangs_107 (by decide) ?_
              obtain rfl := Option.some.inj hm
              exact hJ ls (lv_sub hl [0, 1, 2, 3, 4, 5, 6, 7, 8, 10] rfl)
            · replace hm := (if_neg zc6).symm.trans hm
              refine lv_aload_n hx hb dL_hangs_53 rfl (lv_at hl 0 rfl) ?_
              refine lv_iload hx hb dL_hangs_54 (lv_at hl 10 rfl) ?_
              refine lv_iconst (v := 1) hx hb dL_hangs_56 (by decide) ?_
              obtain ⟨zq7, hzq7, hm⟩ := bdk hm
              have hPc := va_cutP hP (blkQ (bs := [w_hh g h0 jH jP aN aB aS y, w_X6 g aN xN, w_hd g jH jA u.1 (u.2.1.1 0) (u.2.2.1.1 0) (u.2.2.2.1.1 0) (u.2.2.2.2.1 0), w_X6 g u.2.1.1 u.2.1.2, w_X6 g u.2.2.1.1 u.2.2.1.2, w_X6 g u.2.2.2.1.1 u.2.2.2.1.2, w_X6 g u.2.2.2.2.1 u.2.2.2.2.2, w_X3 g jP jT w]) (cs := [w_hh g h0 jH jP aN aB aS y, w_X6 g aN xN]) (rs := [w_hd g jH jA u.1 (u.2.1.1 0) (u.2.2.1.1 0) (u.2.2.2.1.1 0) (u.2.2.2.2.1 0), w_X6 g u.2.1.1 u.2.1.2, w_X6 g u.2.2.1.1 u.2.2.1.2, w_X6 g u.2.2.2.1.1 u.2.2.2.1.2, w_X6 g u.2.2.2.2.1 u.2.2.2.2.2, w_X3 g jP jT w]) [0, 1, 2, 3, 4, 5, 6, 7] 8 rfl (by decide) rfl (wc := [w_hh g h0 jH jP aN aB aS y, w_X6 g aN xN].flatten) rfl)
              refine ko_e (va_runV (As := [.int i0_10, .int 1]) (rest := []) ⟨hx, hb, hml, hown, htG⟩ (kX8_firm l g h0 jH jA jP jT aN aB aS y xN i0_10 1 _ hzq7) (cwV 2 htG (GV g3_96 g3_97 g3_98 g1_1 g3_99) rfl rfl rfl hd_X8_firm ⟨Nat.le_of_ble_eq_true rfl, Nat.le_of_ble_eq_true rfl⟩) (PR_VA hK hL hS hPc (ci := 7) rfl 0 rfl) rfl rfl hl.1 rfl (lv_room (Nat.le_of_ble_eq_true rfl)) dL_hangs_57 ⟨Nat.zero_le _, Nat.zero_le _⟩) ?_
              refine lv_aload_n hx hb dL_hangs_60 rfl (lv_at hl 0 rfl) ?_
              refine lv_iload hx hb dL_hangs_61 (lv_at hl 10 rfl) ?_
              refine lv_iconst (v := 0) hx hb dL_hangs_63 (by decide) ?_
              obtain ⟨zq8, hzq8, hm⟩ := bdk hm
              have hPc := va_cutP hP (blkQ (bs := [w_hh g h0 jH jP aN aB aS y, w_X6 g aN xN, w_hd g jH jA u.1 (u.2.1.1 0) (u.2.2.1.1 0) (u.2.2.2.1.1 0) (u.2.2.2.2.1 0), w_X6 g u.2.1.1 u.2.1.2, w_X6 g u.2.2.1.1 u.2.2.1.2, w_X6 g u.2.2.2.1.1 u.2.2.2.1.2, w_X6 g u.2.2.2.2.1 u.2.2.2.2.2, w_X3 g jP jT w]) (cs := [w_hh g h0 jH jP aN aB aS y, w_X6 g aN xN]) (rs := [w_hd g jH jA u.1 (u.2.1.1 0) (u.2.2.1.1 0) (u.2.2.2.1.1 0) (u.2.2.2.2.1 0), w_X6 g u.2.1.1 u.2.1.2, w_X6 g u.2.2.1.1 u.2.2.1.2, w_X6 g u.2.2.2.1.1 u.2.2.2.1.2, w_X6 g u.2.2.2.2.1 u.2.2.2.2.2, w_X3 g jP jT w]) [0, 1, 2, 3, 4, 5, 6, 7] 8 rfl (by decide) rfl (wc := [w_hh g h0 jH jP aN aB aS y, w_X6 g aN xN].flatten) rfl)
              refine ko_e (va_runV (As := [.int i0_10, .int 0]) (rest := [.int zq7]) ⟨hx, hb, hml, hown, htG⟩ (kX8_firm l g h0 jH jA jP jT aN aB aS y xN i0_10 0 _ hzq8) (cwV 2 htG (GV g3_96 g3_97 g3_98 g1_1 g3_99) rfl rfl rfl hd_X8_firm ⟨Nat.le_of_ble_eq_true rfl, Nat.le_of_ble_eq_true rfl⟩) (PR_VA hK hL hS hPc (ci := 7) rfl 0 rfl) rfl rfl hl.1 rfl (lv_room (Nat.le_of_ble_eq_true rfl)) dL_hangs_64 ⟨Nat.zero_le _, Nat.zero_le _⟩) ?_
              refine lv_icmp_gt (tgt := 107) hx hb dL_hangs_67 (by decide) (fun zc9 => ?_) (fun zc9 => ?_)
              · replace hm := (if_pos zc9).symm.trans hm
                refine lv_iconst (v := 0) hx hb dL_hangs_107 (by decide) ?_
                obtain rfl := Option.some.inj hm
                exact hJ ls (lv_sub hl [0, 1, 2, 3, 4, 5, 6, 7, 8, 10] rfl)
              · replace hm := (if_neg zc9).symm.trans hm
                refine lv_aload_n hx hb dL_hangs_70 rfl (lv_at hl 0 rfl) ?_
                refine lv_iload hx hb dL_hangs_71 (lv_at hl 10 rfl) ?_
                refine lv_iconst (v := 2) hx hb dL_hangs_73 (by decide) ?_
                obtain ⟨zq10, hzq10, hm⟩ := bdk hm
                have hPc := va_cutP hP (blkQ (bs := [w_hh g h0 jH jP aN aB aS y, w_X6 g aN xN, w_hd g jH jA u.1 (u.2.1.1 0) (u.2.2.1.1 0) (u.2.2.2.1.1 0) (u.2.2.2.2.1 0), w_X6 g u.2.1.1 u.2.1.2, w_X6 g u.2.2.1.1 u.2.2.1.2, w_X6 g u.2.2.2.1.1 u.2.2.2.1.2, w_X6 g u.2.2.2.2.1 u.2.2.2.2.2, w_X3 g jP jT w]) (cs := [w_hh g h0 jH jP aN aB aS y, w_X6 g aN xN]) (rs := [w_hd g jH jA u.1 (u.2.1.1 0) (u.2.2.1.1 0) (u.2.2.2.1.1 0) (u.2.2.2.2.1 0), w_X6 g u.2.1.1 u.2.1.2, w_X6 g u.2.2.1.1 u.2.2.1.2, w_X6 g u.2.2.2.1.1 u.2.2.2.1.2, w_X6 g u.2.2.2.2.1 u.2.2.2.2.2, w_X3 g jP jT w]) [0, 1, 2, 3, 4, 5, 6, 7] 8 rfl (by decide) rfl (wc := [w_hh g h0 jH jP aN aB aS y, w_X6 g aN xN].flatten) rfl)
                refine ko_e (va_runV (As := [.int i0_10, .int 2]) (rest := []) ⟨hx, hb, hml, hown, htG⟩ (kX8_firm l g h0 jH jA jP jT aN aB aS y xN i0_10 2 _ hzq10) (cwV 2 htG (GV g3_96 g3_97 g3_98 g1_1 g3_99) rfl rfl rfl hd_X8_firm ⟨Nat.le_of_ble_eq_true rfl, Nat.le_of_ble_eq_true rfl⟩) (PR_VA hK hL hS hPc (ci := 7) rfl 0 rfl) rfl rfl hl.1 rfl (lv_room (Nat.le_of_ble_eq_true rfl)) dL_hangs_74 ⟨Nat.zero_le _, Nat.zero_le _⟩) ?_
                obtain ⟨zq11, hzq11, hm⟩ := bdk hm
                refine jnR (n := 20) (lv := [(0, .ref h0), (1, .int zq1), (2, .int i0_2), (3, .int i0_3), (4, .int i0_4), (5, .int i0_5), (6, .int i0_6), (7, .int i0_7), (8, .int i0_8), (10, .int i0_10)]) (stk := [.int zq11]) (J := 85) (fun ls hl => ?_) (fun hJ => ?_)
                · skip
                  refine lv_aload_n hx hb dL_hangs_85 rfl (lv_at hl 0 rfl) ?_
                  refine lv_iload hx hb dL_hangs_86 (lv_at hl 9 rfl) ?_
                  refine lv_iconst (v := 1) hx hb dL_hangs_88 (by decide) ?_
                  obtain ⟨zq13, hzq13, hm⟩ := bdk hm
                  have hPc := va_cutP hP (blkQ (bs := [w_hh g h0 jH jP aN aB aS y, w_X6 g aN xN, w_hd g jH jA u.1 (u.2.1.1 0) (u.2.2.1.1 0) (u.2.2.2.1.1 0) (u.2.2.2.2.1 0), w_X6 g u.2.1.1 u.2.1.2, w_X6 g u.2.2.1.1 u.2.2.1.2, w_X6 g u.2.2.2.1.1 u.2.2.2.1.2, w_X6 g u.2.2.2.2.1 u.2.2.2.2.2, w_X3 g jP jT w]) (cs := [w_hh g h0 jH jP aN aB aS y, w_X6 g aN xN]) (rs := [w_hd g jH jA u.1 (u.2.1.1 0) (u.2.2.1.1 0) (u.2.2.2.1.1 0) (u.2.2.2.2.1 0), w_X6 g u.2.1.1 u.2.1.2, w_X6 g u.2.2.1.1 u.2.2.1.2, w_X6 g u.2.2.2.1.1 u.2.2.2.1.2, w_X6 g u.2.2.2.2.1 u.2.2.2.2.2, w_X3 g jP jT w]) [0, 1, 2, 3, 4, 5, 6, 7] 8 rfl (by decide) rfl (wc := [w_hh g h0 jH jP aN aB aS y, w_X6 g aN xN].flatten) rfl)
                  refine ko_e (va_runV (As := [.int i0_10, .int 1]) (rest := [.int zq11]) ⟨hx, hb, hml, hown, htG⟩ (kX8_firm l g h0 jH jA jP jT aN aB aS y xN i0_10 1 _ hzq13) (cwV 2 htG (GV g3_96 g3_97 g3_98 g1_1 g3_99) rfl rfl rfl hd_X8_firm ⟨Nat.le_of_ble_eq_true rfl, Nat.le_of_ble_eq_true rfl⟩) (PR_VA hK hL hS hPc (ci := 7) rfl 0 rfl) rfl rfl hl.1 rfl (lv_room (Nat.le_of_ble_eq_true rfl)) dL_hangs_89 ⟨Nat.zero_le _, Nat.zero_le _⟩) ?_
                  obtain ⟨zq14, hzq14, hm⟩ := bdk hm
                  refine jnR (n := 20) (lv := [(0, .ref h0), (1, .int zq1), (2, .int i0_2), (3, .int i0_3), (4, .int i0_4), (5, .int i0_5), (6, .int i0_6), (7, .int i0_7), (8, .int i0_8), (10, .int i0_10)]) (stk := [.int zq14, .int zq11]) (J := 100) (fun ls hl => ?_) (fun hJ => ?_)
                  · skip
                    refine lv_icmp_ne (tgt := 107) hx hb dL_hangs_100 (by decide) (fun zc16 => ?_) (fun zc16 => ?_)
                    · replace hm := (if_neg zc16).symm.trans hm
                      refine lv_iconst (v := 0) hx hb dL_hangs_107 (by decide) ?_
                      obtain rfl := Option.some.inj hm
                      exact hJ ls (lv_sub hl [0, 1, 2, 3, 4, 5, 6, 7, 8, 9] rfl)
                    · replace hm := (if_pos zc16).symm.trans hm
                      refine lv_iconst (v := 1) hx hb dL_hangs_103 (by decide) ?_
                      refine lv_goto (tgt := 108) hx hb dL_hangs_104 (by decide) ?_
                      obtain rfl := Option.some.inj hm
                      exact hJ ls (lv_sub hl [0, 1, 2, 3, 4, 5, 6, 7, 8, 9] rfl)
                  · replace hm := hzq14
                    refine lv_if_ne (tgt := 99) hx hb dL_hangs_92 (by decide) (fun zc15 => ?_) (fun zc15 => ?_)
                    · replace hm := (if_neg zc15).symm.trans hm
                      refine lv_iconst (v := 0) hx hb dL_hangs_99 (by decide) ?_
                      obtain rfl := Option.some.inj hm
                      exact hJ ls (lv_sub hl [0, 1, 2, 3, 4, 5, 6, 7, 8, 9] rfl)
                    · replace hm := (if_pos zc15).symm.trans hm
                      refine lv_iconst (v := 1) hx hb dL_hangs_95 (by decide) ?_
                      refine lv_goto (tgt := 100) hx hb dL_hangs_96 (by decide) ?_
                      obtain rfl := Option.some.inj hm
                      exact hJ ls (lv_sub hl [0, 1, 2, 3, 4, 5, 6, 7, 8, 9] rfl)
                · replace hm := hzq11
                  refine lv_if_ne (tgt := 84) hx hb dL_hangs_77 (by decide) (fun zc12 => ?_) (fun zc12 => ?_)
                  · replace hm := (if_neg zc12).symm.trans hm
                    refine lv_iconst (v := 0) hx hb dL_hangs_84 (by decide) ?_
                    obtain rfl := Option.some.inj hm
                    exact hJ ls (lv_sub hl [0, 1, 2, 3, 4, 5, 6, 7, 8, 10] rfl)
                  · replace hm := (if_pos zc12).symm.trans hm
                    refine lv_iconst (v := 1) hx hb dL_hangs_80 (by decide) ?_
                    refine lv_goto (tgt := 85) hx hb dL_hangs_81 (by decide) ?_
                    obtain rfl := Option.some.inj hm
                    exact hJ ls (lv_sub hl [0, 1, 2, 3, 4, 5, 6, 7, 8, 10] rfl)
  obtain ⟨zq31, hzq31, hm⟩ := bdk hm
  refine hL0 _ 1000 0 0 0 0 0 0 0 1 0 zq31 _ hzq31 (lv_sub hl [10, 9, 8, 7, 6, 5, 4, 3, 2, 1, 0] rfl) (fun ls hl => ?_)
  refine lv_iload hx hb dL_hangs_197 (lv_at hl 9 rfl) ?_
  obtain ⟨zq32, hzq32, hm⟩ := bdk hm
  refine jnR (n := 20) (lv := [(0, .ref h0), (1, .int zq1), (2, .int zq31.1), (6, .int zq31.2.2.2.2.1), (7, .int zq31.2.2.2.2.2.1), (8, .int zq31.2.2.2.2.2.2.1)]) (stk := [.int zq32]) (J := 286) (fun ls hl => ?_) (fun hJ => ?_)
  · skip
    refine lv_istore (lv' := [(9, .int zq32), (0, .ref h0), (1, .int zq1), (2, .int zq31.1), (6, .int zq31.2.2.2.2.1), (7, .int zq31.2.2.2.2.2.1), (8, .int zq31.2.2.2.2.2.2.1)]) hx hb dL_hangs_286 hl (by decide) rfl (fun ls hl => ?_)
    refine lv_iconst (v := 0) hx hb dL_hangs_288 (by decide) ?_
    refine lv_istore (lv' := [(10, .int 0), (9, .int zq32), (0, .ref h0), (1, .int zq1), (2, .int zq31.1), (6, .int zq31.2.2.2.2.1), (7, .int zq31.2.2.2.2.2.1), (8, .int zq31.2.2.2.2.2.2.1)]) hx hb dL_hangs_289 hl (by decide) rfl (fun ls hl => ?_)
    refine lv_iconst (v := 0) hx hb dL_hangs_291 (by decide) ?_
    refine lv_istore (lv' := [(11, .int 0), (10, .int 0), (9, .int zq32), (0, .ref h0), (1, .int zq1), (2, .int zq31.1), (6, .int zq31.2.2.2.2.1), (7, .int zq31.2.2.2.2.2.1), (8, .int zq31.2.2.2.2.2.2.1)]) hx hb dL_hangs_292 hl (by decide) rfl (fun ls hl => ?_)
    refine lv_iconst (v := 0) hx hb dL_hangs_294 (by decide) ?_
    refine lv_istore (lv' := [(12, .int 0), (11, .int 0), (10, .int 0), (9, .int zq32), (0, .ref h0), (1, .int zq1), (2, .int zq31.1), (6, .int zq31.2.2.2.2.1), (7, .int zq31.2.2.2.2.2.1), (8, .int zq31.2.2.2.2.2.2.1)]) hx hb dL_hangs_295 hl (by decide) rfl (fun ls hl => ?_)
    have hL1 : ∀ (Q : State → Prop), ∀ (n : Nat) (i1_9 : Int32) (i1_10 : Int32) (i1_11 : Int32) (i1_12 : Int32) (out : Int32 × Int32 × Int32) (ls : Array Slot), fL_hangs_L1 y xN zq1 n i1_9 i1_10 i1_11 i1_12 = some out → lv_has ls 20 [(0, .ref h0), (1, .int zq1), (2, .int zq31.1), (6, .int zq31.2.2.2.2.1), (7, .int zq31.2.2.2.2.2.1), (8, .int zq31.2.2.2.2.2.2.1), (9, .int i1_9), (10, .int i1_10), (11, .int i1_11), (12, .int i1_12)] → (∀ ls : Array Slot, lv_has ls 20 [(0, .ref h0), (1, .int zq1), (2, .int zq31.1), (6, .int zq31.2.2.2.2.1), (7, .int zq31.2.2.2.2.2.1), (8, .int zq31.2.2.2.2.2.2.1), (9, .int out.1), (10, .int out.2.1), (11, .int out.2.2)] → W p l e (headSpec (wg yL_hangs method_4_code 20 (some .boolean)) rm_L_hangs).room s m (([.ref h0] : List Value).toArray) below meth c s.heap [] 0 0 Q (F0 m 671 ls [])) → W p l e (headSpec (wg yL_hangs method_4_code 20 (some .boolean)) rm_L_hangs).room s m (([.ref h0] : List Value).toArray) below meth c s.heap [] 0 0 Q (F0 m 297 ls []) := by
      intro Q n
      induction n with
      | zero =>
        intro i1_9 i1_10 i1_11 i1_12 out ls hm hl hk
        simp [fL_hangs_L1] at hm
      | succ n ih =>
        intro i1_9 i1_10 i1_11 i1_12 out ls hm hl hk
        rw [fL_hangs_L1] at hm
        refine lv_iload hx hb dL_hangs_297 (lv_at hl 9 rfl) ?_
        refine lv_bipush (v := 48) hx hb dL_hangs_299 (by decide +kernel) ?_
        refine lv_icmp_ge (tgt := 671) hx hb dL_hangs_301 (by decide) (fun zc49 => ?_) (fun zc49 => ?_)
        · replace hm := (if_pos zc49).symm.trans hm
          obtain rfl := Option.some.inj hm
          exact hk ls (lv_sub hl [0, 1, 2, 3, 4, 5, 6, 7, 8] rfl)
        · replace hm := (if_neg zc49).symm.trans hm
          refine lv_iload hx hb dL_hangs_304 (lv_at hl 6 rfl) ?_
          refine lv_if_eq (tgt := 671) hx hb dL_hangs_306 (by decide) (fun zc50 => ?_) (fun zc50 => ?_)
          · replace hm := (if_pos zc50).symm.trans hm
            obtain rfl := Option.some.inj hm
            exact hk ls (lv_sub hl [0, 1, 2, 3, 4, 5, 6, 7, 8] rfl)
          · replace hm := (if_neg zc50).symm.trans hm
            refine lv_iload hx hb dL_hangs_309 (lv_at hl 9 rfl) ?_
            refine lv_bipush (v := 16) hx hb dL_hangs_311 (by decide +kernel) ?_
            refine lv_idiv hx hb dL_hangs_313 (by decide) ?_
            obtain ⟨zv51, ezv51, hm⟩ := bnk hm
            refine tope ezv51 ?_
            refine lv_istore (lv' := [(13, .int zv51), (0, .ref h0), (1, .int zq1), (2, .int zq31.1), (6, .int zq31.2.2.2.2.1), (7, .int zq31.2.2.2.2.2.1), (8, .int zq31.2.2.2.2.2.2.1), (9, .int i1_9), (10, .int i1_10), (11, .int i1_11), (12, .int i1_12)]) hx hb dL_hangs_314 hl (by decide) rfl (fun ls hl => ?_)
            refine lv_iload hx hb dL_hangs_316 (lv_at hl 10 rfl) ?_
            refine lv_bipush (v := 16) hx hb dL_hangs_318 (by decide +kernel) ?_
            refine lv_irem hx hb dL_hangs_320 (by decide) ?_
            obtain ⟨zv52, ezv52, hm⟩ := bnk hm
            refine tope ezv52 ?_
            refine lv_istore (lv' := [(14, .int zv52), (13, .int zv51), (0, .ref h0), (1, .int zq1), (2, .int zq31.1), (6, .int zq31.2.2.2.2.1), (7, .int zq31.2.2.2.2.2.1), (8, .int zq31.2.2.2.2.2.2.1), (9, .int i1_9), (10, .int i1_10), (11, .int i1_11), (12, .int i1_12)]) hx hb dL_hangs_321 hl (by decide) rfl (fun ls hl => ?_)
            refine lv_aload_n hx hb dL_hangs_323 rfl (lv_at hl 2 rfl) ?_
            refine lv_iload hx hb dL_hangs_324 (lv_at hl 1 rfl) ?_
            refine lv_iload hx hb dL_hangs_326 (lv_at hl 0 rfl) ?_
            refine lv_iconst (v := 0) hx hb dL_hangs_328 (by decide) ?_
            obtain ⟨zq53, hzq53, hm⟩ := bdk hm
            have hPc := va_cutP hP (blkQ (bs := [w_hh g h0 jH jP aN aB aS y, w_X6 g aN xN, w_hd g jH jA u.1 (u.2.1.1 0) (u.2.2.1.1 0) (u.2.2.2.1.1 0) (u.2.2.2.2.1 0), w_X6 g u.2.1.1 u.2.1.2, w_X6 g u.2.2.1.1 u.2.2.1.2, w_X6 g u.2.2.2.1.1 u.2.2.2.1.2, w_X6 g u.2.2.2.2.1 u.2.2.2.2.2, w_X3 g jP jT w]) (cs := [w_hh g h0 jH jP aN aB aS y, w_X6 g aN xN]) (rs := [w_hd g jH jA u.1 (u.2.1.1 0) (u.2.2.1.1 0) (u.2.2.2.1.1 0) (u.2.2.2.2.1 0), w_X6 g u.2.1.1 u.2.1.2, w_X6 g u.2.2.1.1 u.2.2.1.2, w_X6 g u.2.2.2.1.1 u.2.2.2.1.2, w_X6 g u.2.2.2.2.1 u.2.2.2.2.2, w_X3 g jP jT w]) [0, 1, 2, 3, 4, 5, 6, 7] 8 rfl (by decide) rfl (wc := [w_hh g h0 jH jP aN aB aS y, w_X6 g aN xN].flatten) rfl)
            refine ko_e (va_runV (As := [.int zv51, .int zv52, .int 0]) (rest := []) ⟨hx, hb, hml, hown, htG⟩ (kX8_slot l g h0 jH jA jP jT aN aB aS y xN zv51 zv52 0 _ hzq53) (cwV 3 htG (GV g3_107 g3_108 g3_109 g1_1 g3_110) rfl rfl rfl hd_X8_slot ⟨Nat.le_of_ble_eq_true rfl, Nat.le_of_ble_eq_true rfl⟩) (PR_VA hK hL hS hPc (ci := 7) rfl 0 rfl) rfl rfl hl.1 rfl (lv_room (Nat.le_of_ble_eq_true rfl)) dL_hangs_329 ⟨Nat.zero_le _, Nat.zero_le _⟩) ?_
            refine lv_istore (lv' := [(15, .int zq53), (14, .int zv52), (13, .int zv51), (0, .ref h0), (1, .int zq1), (2, .int zq31.1), (6, .int zq31.2.2.2.2.1), (7, .int zq31.2.2.2.2.2.1), (8, .int zq31.2.2.2.2.2.2.1), (9, .int i1_9), (10, .int i1_10), (11, .int i1_11), (12, .int i1_12)]) hx hb dL_hangs_332 hl (by decide) rfl (fun ls hl => ?_)
            refine lv_aload_n hx hb dL_hangs_334 rfl (lv_at hl 3 rfl) ?_
            refine lv_iload hx hb dL_hangs_335 (lv_at hl 2 rfl) ?_
            refine lv_iload hx hb dL_hangs_337 (lv_at hl 1 rfl) ?_
            refine lv_iconst (v := 3) hx hb dL_hangs_339 (by decide) ?_
            obtain ⟨zq54, hzq54, hm⟩ := bdk hm
            have hPc := va_cutP hP (blkQ (bs := [w_hh g h0 jH jP aN aB aS y, w_X6 g aN xN, w_hd g jH jA u.1 (u.2.1.1 0) (u.2.2.1.1 0) (u.2.2.2.1.1 0) (u.2.2.2.2.1 0), w_X6 g u.2.1.1 u.2.1.2, w_X6 g u.2.2.1.1 u.2.2.1.2, w_X6 g u.2.2.2.1.1 u.2.2.2.1.2, w_X6 g u.2.2.2.2.1 u.2.2.2.2.2, w_X3 g jP jT w]) (cs := [w_hh g h0 jH jP aN aB aS y, w_X6 g aN xN]) (rs := [w_hd g jH jA u.1 (u.2.1.1 0) (u.2.2.1.1 0) (u.2.2.2.1.1 0) (u.2.2.2.2.1 0), w_X6 g u.2.1.1 u.2.1.2, w_X6 g u.2.2.1.1 u.2.2.1.2, w_X6 g u.2.2.2.1.1 u.2.2.2.1.2, w_X6 g u.2.2.2.2.1 u.2.2.2.2.2, w_X3 g jP jT w]) [0, 1, 2, 3, 4, 5, 6, 7] 8 rfl (by decide) rfl (wc := [w_hh g h0 jH jP aN aB aS y, w_X6 g aN xN].flatten) rfl)
            refine ko_e (va_runV (As := [.int zv51, .int zv52, .int 3]) (rest := []) ⟨hx, hb, hml, hown, htG⟩ (kX8_slot l g h0 jH jA jP jT aN aB aS y xN zv51 zv52 3 _ hzq54) (cwV 3 htG (GV g3_107 g3_108 g3_109 g1_1 g3_110) rfl rfl rfl hd_X8_slot ⟨Nat.le_of_ble_eq_true rfl, Nat.le_of_ble_eq_true rfl⟩) (PR_VA hK hL hS hPc (ci := 7) rfl 0 rfl) rfl rfl hl.1 rfl (lv_room (Nat.le_of_ble_eq_true rfl)) dL_hangs_340 ⟨Nat.zero_le _, Nat.zero_le _⟩) ?_
            refine lv_istore (lv' := [(16, .int zq54), (15, .int zq53), (14, .int zv52), (13, .int zv51), (0, .ref h0), (1, .int zq1), (2, .int zq31.1), (6, .int zq31.2.2.2.2.1), (7, .int zq31.2.2.2.2.2.1), (8, .int zq31.2.2.2.2.2.2.1), (9, .int i1_9), (10, .int i1_10), (11, .int i1_11), (12, .int i1_12)]) hx hb dL_hangs_343 hl (by decide) rfl (fun ls hl => ?_)
            refine lv_aload_n hx hb dL_hangs_345 rfl (lv_at hl 4 rfl) ?_
            refine lv_iload hx hb dL_hangs_346 (lv_at hl 3 rfl) ?_
            refine lv_iload hx hb dL_hangs_348 (lv_at hl 2 rfl) ?_
            refine lv_iconst (v := 4) hx hb dL_hangs_350 (by decide) ?_
            obtain ⟨zq55, hzq55, hm⟩ := bdk hm
            have hPc := va_cutP hP (blkQ (bs := [w_hh g h0 jH jP aN aB aS y, w_X6 g aN xN, w_hd g jH jA u.1 (u.2.1.1 0) (u.2.2.1.1 0) (u.2.2.2.1.1 0) (u.2.2.2.2.1 0), w_X6 g u.2.1.1 u.2.1.2, w_X6 g u.2.2.1.1 u.2.2.1.2, w_X6 g u.2.2.2.1.1 u.2.2.2.1.2, w_X6 g u.2.2.2.2.1 u.2.2.2.2.2, w_X3 g jP jT w]) (cs := [w_hh g h0 jH jP aN aB aS y, w_X6 g aN xN]) (rs := [w_hd g jH jA u.1 (u.2.1.1 0) (u.2.2.1.1 0) (u.2.2.2.1.1 0) (u.2.2.2.2.1 0), w_X6 g u.2.1.1 u.2.1.2, w_X6 g u.2.2.1.1 u.2.2.1.2, w_X6 g u.2.2.2.1.1 u.2.2.2.1.2, w_X6 g u.2.2.2.2.1 u.2.2.2.2.2, w_X3 g jP jT w]) [0, 1, 2, 3, 4, 5, 6, 7] 8 rfl (by decide) rfl (wc := [w_hh g h0 jH jP aN aB aS y, w_X6 g aN xN].flatten) rfl)
            refine ko_e (va_runV (As := [.int zv51, .int zv52, .int 4]) (rest := []) ⟨hx, hb, hml, hown, htG⟩ (kX8_slot l g h0 jH jA jP jT aN aB aS y xN zv51 zv52 4 _ hzq55) (cwV 3 htG (GV g3_107 g3_108 g3_109 g1_1 g3_110) rfl rfl rfl hd_X8_slot ⟨Nat.le_of_ble_eq_true rfl, Nat.le_of_ble_eq_true rfl⟩) (PR_VA hK hL hS hPc (ci := 7) rfl 0 rfl) rfl rfl hl.1 rfl (lv_room (Nat.le_of_ble_eq_true rfl)) dL_hangs_351 ⟨Nat.zero_le _, Nat.zero_le _⟩) ?_
            refine lv_istore (lv' := [(17, .int zq55), (16, .int zq54), (15, .int zq53), (14, .int zv52), (13, .int zv51), (0, .ref h0), (1, .int zq1), (2, .int zq31.1), (6, .int zq31.2.2.2.2.1), (7, .int zq31.2.2.2.2.2.1), (8, .int zq31.2.2.2.2.2.2.1), (9, .int i1_9), (10, .int i1_10), (11, .int i1_11), (12, .int i1_12)]) hx hb dL_hangs_354 hl (by decide) rfl (fun ls hl => ?_)
            refine lv_aload_n hx hb dL_hangs_356 rfl (lv_at hl 5 rfl) ?_
            refine lv_iload hx hb dL_hangs_357 (lv_at hl 4 rfl) ?_
            refine lv_iload hx hb dL_hangs_359 (lv_at hl 3 rfl) ?_
            refine lv_bipush (v := 6) hx hb dL_hangs_361 (by decide +kernel) ?_
            obtain ⟨zq56, hzq56, hm⟩ := bdk hm
            have hPc := va_cutP hP (blkQ (bs := [w_hh g h0 jH jP aN aB aS y, w_X6 g aN xN, w_hd g jH jA u.1 (u.2.1.1 0) (u.2.2.1.1 0) (u.2.2.2.1.1 0) (u.2.2.2.2.1 0), w_X6 g u.2.1.1 u.2.1.2, w_X6 g u.2.2.1.1 u.2.2.1.2, w_X6 g u.2.2.2.1.1 u.2.2.2.1.2, w_X6 g u.2.2.2.2.1 u.2.2.2.2.2, w_X3 g jP jT w]) (cs := [w_hh g h0 jH jP aN aB aS y, w_X6 g aN xN]) (rs := [w_hd g jH jA u.1 (u.2.1.1 0) (u.2.2.1.1 0) (u.2.2.2.1.1 0) (u.2.2.2.2.1 0), w_X6 g u.2.1.1 u.2.1.2, w_X6 g u.2.2.1.1 u.2.2.1.2, w_X6 g u.2.2.2.1.1 u.2.2.2.1.2, w_X6 g u.2.2.2.2.1 u.2.2.2.2.2, w_X3 g jP jT w]) [0, 1, 2, 3, 4, 5, 6, 7] 8 rfl (by decide) rfl (wc := [w_hh g h0 jH jP aN aB aS y, w_X6 g aN xN].flatten) rfl)
            refine ko_e (va_runV (As := [.int zv51, .int zv52, .int 6]) (rest := []) ⟨hx, hb, hml, hown, htG⟩ (kX8_slot l g h0 jH jA jP jT aN aB aS y xN zv51 zv52 6 _ hzq56) (cwV 3 htG (GV g3_107 g3_108 g3_109 g1_1 g3_110) rfl rfl rfl hd_X8_slot ⟨Nat.le_of_ble_eq_true rfl, Nat.le_of_ble_eq_true rfl⟩) (PR_VA hK hL hS hPc (ci := 7) rfl 0 rfl) rfl rfl hl.1 rfl (lv_room (Nat.le_of_ble_eq_true rfl)) dL_hangs_363 ⟨Nat.zero_le _, Nat.zero_le _⟩) ?_
            refine lv_istore (lv' := [(18, .int zq56), (17, .int zq55), (16, .int zq54), (15, .int zq53), (14, .int zv52), (13, .int zv51), (0, .ref h0), (1, .int zq1), (2, .int zq31.1), (6, .int zq31.2.2.2.2.1), (7, .int zq31.2.2.2.2.2.1), (8, .int zq31.2.2.2.2.2.2.1), (9, .int i1_9), (10, .int i1_10), (11, .int i1_11), (12, .int i1_12)]) hx hb dL_hangs_366 hl (by decide) rfl (fun ls hl => ?_)
            refine lv_aload_n hx hb dL_hangs_368 rfl (lv_at hl 6 rfl) ?_
            refine lv_iload hx hb dL_hangs_369 (lv_at hl 5 rfl) ?_
            refine lv_iload hx hb dL_hangs_371 (lv_at hl 4 rfl) ?_
            refine lv_iconst (v := 5) hx hb dL_hangs_373 (by decide) ?_
            obtain ⟨zq57, hzq57, hm⟩ := bdk hm
            have hPc := va_cutP hP (blkQ (bs := [w_hh g h0 jH jP aN aB aS y, w_X6 g aN xN, w_hd g jH jA u.1 (u.2.1.1 0) (u.2.2.1.1 0) (u.2.2.2.1.1 0) (u.2.2.2.2.1 0), w_X6 g u.2.1.1 u.2.1.2, w_X6 g u.2.2.1.1 u.2.2.1.2, w_X6 g u.2.2.2.1.1 u.2.2.2.1.2, w_X6 g u.2.2.2.2.1 u.2.2.2.2.2, w_X3 g jP jT w]) (cs := [w_hh g h0 jH jP aN aB aS y, w_X6 g aN xN]) (rs := [w_hd g jH jA u.1 (u.2.1.1 0) (u.2.2.1.1 0) (u.2.2.2.1.1 0) (u.2.2.2.2.1 0), w_X6 g u.2.1.1 u.2.1.2, w_X6 g u.2.2.1.1 u.2.2.1.2, w_X6 g u.2.2.2.1.1 u.2.2.2.1.2, w_X6 g u.2.2.2.2.1 u.2.2.2.2.2, w_X3 g jP jT w]) [0, 1, 2, 3, 4, 5, 6, 7] 8 rfl (by decide) rfl (wc := [w_hh g h0 jH jP aN aB aS y, w_X6 g aN xN].flatten) rfl)
            refine ko_e (va_runV (As := [.int zv51, .int zv52, .int 5]) (rest := []) ⟨hx, hb, hml, hown, htG⟩ (kX8_slot l g h0 jH jA jP jT aN aB aS y xN zv51 zv52 5 _ hzq57) (cwV 3 htG (GV g3_107 g3_108 g3_109 g1_1 g3_110) rfl rfl rfl hd_X8_slot ⟨Nat.le_of_ble_eq_true rfl, Nat.le_of_ble_eq_true rfl⟩) (PR_VA hK hL hS hPc (ci := 7) rfl 0 rfl) rfl rfl hl.1 rfl (lv_room (Nat.le_of_ble_eq_true rfl)) dL_hangs_374 ⟨Nat.zero_le _, Nat.zero_le _⟩) ?_
            refine lv_iconst (v := 1) hx hb dL_hangs_377 (by decide) ?_
            obtain ⟨zq58, hzq58, hm⟩ := bdk hm
            refine jnR (n := 20) (lv := [(0, .ref h0), (1, .int zq1), (2, .int zq31.1), (6, .int zq31.2.2.2.2.1), (7, .int zq31.2.2.2.2.2.1), (8, .int zq31.2.2.2.2.2.2.1), (10, .int i1_10), (11, .int i1_11), (12, .int i1_12), (13, .int zv51), (14, .int zv52), (15, .int zq53), (16, .int zq54), (17, .int zq55), (18, .int zq56)]) (stk := [.int zq58]) (J := 386) (fun ls hl => ?_) (fun hJ => ?_)
            · skip
              refine lv_istore (lv' := [(19, .int zq58), (0, .ref h0), (1, .int zq1), (2, .int zq31.1), (6, .int zq31.2.2.2.2.1), (7, .int zq31.2.2.2.2.2.1), (8, .int zq31.2.2.2.2.2.2.1), (10, .int i1_10), (11, .int i1_11), (12, .int i1_12), (13, .int zv51), (14, .int zv52), (15, .int zq53), (16, .int zq54), (17, .int zq55), (18, .int zq56)]) hx hb dL_hangs_386 hl (by decide) rfl (fun ls hl => ?_)
              refine lv_iload hx hb dL_hangs_388 (lv_at hl 7 rfl) ?_
              refine lv_iload hx hb dL_hangs_390 (lv_at hl 13 rfl) ?_
              refine lv_iadd hx hb dL_hangs_392 ?_
              obtain ⟨zv60, ezv60, hm⟩ := bnk hm
              refine tope ezv60 ?_
              refine lv_istore (lv' := [(10, .int zv60), (19, .int zq58), (0, .ref h0), (1, .int zq1), (2, .int zq31.1), (6, .int zq31.2.2.2.2.1), (7, .int zq31.2.2.2.2.2.1), (8, .int zq31.2.2.2.2.2.2.1), (11, .int i1_11), (12, .int i1_12), (13, .int zv51), (14, .int zv52), (15, .int zq53), (16, .int zq54), (17, .int zq55), (18, .int zq56)]) hx hb dL_hangs_393 hl (by decide) rfl (fun ls hl => ?_)
              refine lv_iload hx hb dL_hangs_395 (lv_at hl 8 rfl) ?_
              refine lv_iload hx hb dL_hangs_397 (lv_at hl 12 rfl) ?_
              obtain ⟨zq61, hzq61, hm⟩ := bdk hm
              refine jnR (n := 20) (lv := [(0, .ref h0), (1, .int zq1), (2, .int zq31.1), (6, .int zq31.2.2.2.2.1), (7, .int zq31.2.2.2.2.2.1), (8, .int zq31.2.2.2.2.2.2.1), (10, .int zv60), (12, .int i1_12), (13, .int zv51), (14, .int zv52), (15, .int zq53), (16, .int zq54), (17, .int zq55), (18, .int zq56), (19, .int zq58)]) (stk := [.int zq61, .int i1_11]) (J := 412) (fun ls hl => ?_) (fun hJ => ?_)
              · skip
                refine lv_iadd hx hb dL_hangs_412 ?_
                obtain ⟨zv64, ezv64, hm⟩ := bnk hm
                refine tope ezv64 ?_
                refine lv_istore (lv' := [(11, .int zv64), (0, .ref h0), (1, .int zq1), (2, .int zq31.1), (6, .int zq31.2.2.2.2.1), (7, .int zq31.2.2.2.2.2.1), (8, .int zq31.2.2.2.2.2.2.1), (10, .int zv60), (12, .int i1_12), (13, .int zv51), (14, .int zv52), (15, .int zq53), (16, .int zq54), (17, .int zq55), (18, .int zq56), (19, .int zq58)]) hx hb dL_hangs_413 hl (by decide) rfl (fun ls hl => ?_)
                refine lv_iload hx hb dL_hangs_415 (lv_at hl 15 rfl) ?_
                refine lv_iload hx hb dL_hangs_417 (lv_at hl 10 rfl) ?_
                refine lv_iload_n hx hb dL_hangs_419 rfl (lv_at hl 2 rfl) ?_
                obtain ⟨zq65, hzq65, hm⟩ := bdk hm
                refine jnR (n := 20) (lv := [(0, .ref h0), (1, .int zq1), (2, .int zq31.1), (6, .int zq31.2.2.2.2.1), (7, .int zq31.2.2.2.2.2.1), (8, .int zq31.2.2.2.2.2.2.1), (10, .int zv60), (11, .int zv64), (12, .int i1_12), (13, .int zv51), (14, .int zv52), (15, .int zq53), (16, .int zq54), (17, .int zq55), (18, .int zq56), (19, .int zq58)]) (stk := [.int zq65, .int zq58]) (J := 428) (fun ls hl => ?_) (fun hJ => ?_)
                · skip
                  obtain ⟨zq67, hzq67, hm⟩ := bdk hm
                  refine jnR (n := 20) (lv := [(0, .ref h0), (1, .int zq1), (2, .int zq31.1), (6, .int zq31.2.2.2.2.1), (7, .int zq31.2.2.2.2.2.1), (8, .int zq31.2.2.2.2.2.2.1), (10, .int zv60), (11, .int zv64), (12, .int i1_12), (13, .int zv51), (14, .int zv52), (15, .int zq53), (18, .int zq56), (19, .int zq58)]) (stk := [.int zq67]) (J := 602) (fun ls hl => ?_) (fun hJ => ?_)
                  · skip
                    refine lv_istore (lv' := [(9, .int zq67), (0, .ref h0), (1, .int zq1), (2, .int zq31.1), (6, .int zq31.2.2.2.2.1), (7, .int zq31.2.2.2.2.2.1), (8, .int zq31.2.2.2.2.2.2.1), (10, .int zv60), (11, .int zv64), (12, .int i1_12), (13, .int zv51), (14, .int zv52), (15, .int zq53), (18, .int zq56), (19, .int zq58)]) hx hb dL_hangs_602 hl (by decide) rfl (fun ls hl => ?_)
                    refine lv_iload hx hb dL_hangs_604 (lv_at hl 0 rfl) ?_
                    obtain ⟨zq113, hzq113, hm⟩ := bdk hm
                    refine jnR (n := 20) (lv := [(0, .ref h0), (1, .int zq1), (2, .int zq31.1), (6, .int zq31.2.2.2.2.1), (7, .int zq31.2.2.2.2.2.1), (8, .int zq31.2.2.2.2.2.2.1), (10, .int zv60), (11, .int zv64), (12, .int i1_12)]) (stk := [.int zq113]) (J := 663) (fun ls hl => ?_) (fun hJ => ?_)
                    · skip
                      refine lv_istore (lv' := [(9, .int zq113), (0, .ref h0), (1, .int zq1), (2, .int zq31.1), (6, .int zq31.2.2.2.2.1), (7, .int zq31.2.2.2.2.2.1), (8, .int zq31.2.2.2.2.2.2.1), (10, .int zv60), (11, .int zv64), (12, .int i1_12)]) hx hb dL_hangs_663 hl (by decide) rfl (fun ls hl => ?_)
                      refine lv_iinc (v := i1_12 + 1) (lv' := [(12, .int (i1_12 + 1)), (9, .int zq113), (0, .ref h0), (1, .int zq1), (2, .int zq31.1), (6, .int zq31.2.2.2.2.1), (7, .int zq31.2.2.2.2.2.1), (8, .int zq31.2.2.2.2.2.2.1), (10, .int zv60), (11, .int zv64)]) hx hb dL_hangs_665 hl (k := 9) rfl rfl (by decide) rfl (fun ls hl => ?_)
                      refine lv_goto (tgt := 297) hx hb dL_hangs_668 (by decide) ?_
                      exact ih zq113 zv60 zv64 (i1_12 + 1) out ls hm (lv_sub hl [2, 3, 4, 5, 6, 7, 1, 8, 9, 0] rfl) hk
                    · replace hm := hzq113
                      refine lv_if_eq (tgt := 662) hx hb dL_hangs_606 (by decide) (fun zc114 => ?_) (fun zc114 => ?_)
                      · replace hm := (if_pos zc114).symm.trans hm
                        refine lv_iconst (v := 0) hx hb dL_hangs_662 (by decide) ?_
                        obtain rfl := Option.some.inj hm
                        exact hJ ls (lv_sub hl [1, 2, 3, 4, 5, 6, 7, 8, 9] rfl)
                      · replace hm := (if_neg zc114).symm.trans hm
                        refine lv_iload hx hb dL_hangs_609 (lv_at hl 14 rfl) ?_
                        refine lv_if_eq (tgt := 658) hx hb dL_hangs_611 (by decide) (fun zc115 => ?_) (fun zc115 => ?_)
                        · replace hm := (if_pos zc115).symm.trans hm
                          refine lv_iconst (v := 1) hx hb dL_hangs_658 (by decide) ?_
                          refine lv_goto (tgt := 663) hx hb dL_hangs_659 (by decide) ?_
                          obtain rfl := Option.some.inj hm
                          exact hJ ls (lv_sub hl [1, 2, 3, 4, 5, 6, 7, 8, 9] rfl)
                        · replace hm := (if_neg zc115).symm.trans hm
                          refine lv_iload hx hb dL_hangs_614 (lv_at hl 12 rfl) ?_
                          refine lv_if_lt (tgt := 658) hx hb dL_hangs_616 (by decide) (fun zc116 => ?_) (fun zc116 => ?_)
                          · replace hm := (if_pos zc116).symm.trans hm
                            refine lv_iconst (v := 1) hx hb dL_hangs_658 (by decide) ?_
                            refine lv_goto (tgt := 663) hx hb dL_hangs_659 (by decide) ?_
                            obtain rfl := Option.some.inj hm
                            exact hJ ls (lv_sub hl [1, 2, 3, 4, 5, 6, 7, 8, 9] rfl)
                          · replace hm := (if_neg zc116).symm.trans hm
                            refine lv_iload hx hb dL_hangs_619 (lv_at hl 13 rfl) ?_
                            obtain ⟨zq117, hzq117, hm⟩ := bdk hm
                            refine jnR (n := 20) (lv := [(0, .ref h0), (1, .int zq1), (2, .int zq31.1), (6, .int zq31.2.2.2.2.1), (7, .int zq31.2.2.2.2.2.1), (8, .int zq31.2.2.2.2.2.2.1), (10, .int zv60), (11, .int zv64), (12, .int i1_12), (13, .int zv51), (14, .int zv52)]) (stk := [.int zq117]) (J := 629) (fun ls hl => ?_) (fun hJ => ?_)
                            · skip
                              refine lv_aload_n hx hb dL_hangs_629 rfl (lv_at hl 0 rfl) ?_
                              refine lv_iload hx hb dL_hangs_630 (lv_at hl 10 rfl) ?_
                              obtain ⟨zq119, hzq119, hm⟩ := bnk hm
                              have hPc := va_cutP hP (blkQ (bs := [w_hh g h0 jH jP aN aB aS y, w_X6 g aN xN, w_hd g jH jA u.1 (u.2.1.1 0) (u.2.2.1.1 0) (u.2.2.2.1.1 0) (u.2.2.2.2.1 0), w_X6 g u.2.1.1 u.2.1.2, w_X6 g u.2.2.1.1 u.2.2.1.2, w_X6 g u.2.2.2.1.1 u.2.2.2.1.2, w_X6 g u.2.2.2.2.1 u.2.2.2.2.2, w_X3 g jP jT w]) (cs := [w_hh g h0 jH jP aN aB aS y, w_X6 g aN xN]) (rs := [w_hd g jH jA u.1 (u.2.1.1 0) (u.2.2.1.1 0) (u.2.2.2.1.1 0) (u.2.2.2.2.1 0), w_X6 g u.2.1.1 u.2.1.2, w_X6 g u.2.2.1.1 u.2.2.1.2, w_X6 g u.2.2.2.1.1 u.2.2.2.1.2, w_X6 g u.2.2.2.2.1 u.2.2.2.2.2, w_X3 g jP jT w]) [0, 1, 2, 3, 4, 5, 6, 7] 8 rfl (by decide) rfl (wc := [w_hh g h0 jH jP aN aB aS y, w_X6 g aN xN].flatten) rfl)
                              refine ko_e (va_runV (As := [.int zv52]) (rest := [.int zq117]) ⟨hx, hb, hml, hown, htG⟩ (kX8_wind l g h0 jH jA jP jT aN aB aS y xN zv52 _ hzq119) (cwV 1 htG (GV g3_131 g3_132 g3_133 g1_1 g3_134) rfl rfl rfl hd_X8_wind ⟨Nat.le_of_ble_eq_true rfl, Nat.le_of_ble_eq_true rfl⟩) (PR_VA hK hL hS hPc (ci := 7) rfl 0 rfl) rfl rfl hl.1 rfl (lv_room (Nat.le_of_ble_eq_true rfl)) dL_hangs_632 ⟨Nat.zero_le _, Nat.zero_le _⟩) ?_
                              refine lv_bipush (v := 70) hx hb dL_hangs_635 (by decide +kernel) ?_
                              refine lv_aload_n hx hb dL_hangs_637 rfl (lv_at hl 0 rfl) ?_
                              refine lv_iload hx hb dL_hangs_638 (lv_at hl 9 rfl) ?_
                              refine lv_iload hx hb dL_hangs_640 (lv_at hl 10 rfl) ?_
                              refine lv_iconst (v := 1) hx hb dL_hangs_642 (by decide) ?_
                              obtain ⟨zq120, hzq120, hm⟩ := bdk hm
                              have hPc := va_cutP hP (blkQ (bs := [w_hh g h0 jH jP aN aB aS y, w_X6 g aN xN, w_hd g jH jA u.1 (u.2.1.1 0) (u.2.2.1.1 0) (u.2.2.2.1.1 0) (u.2.2.2.2.1 0), w_X6 g u.2.1.1 u.2.1.2, w_X6 g u.2.2.1.1 u.2.2.1.2, w_X6 g u.2.2.2.1.1 u.2.2.2.1.2, w_X6 g u.2.2.2.2.1 u.2.2.2.2.2, w_X3 g jP jT w]) (cs := [w_hh g h0 jH jP aN aB aS y, w_X6 g aN xN]) (rs := [w_hd g jH jA u.1 (u.2.1.1 0) (u.2.2.1.1 0) (u.2.2.2.1.1 0) (u.2.2.2.2.1 0), w_X6 g u.2.1.1 u.2.1.2, w_X6 g u.2.2.1.1 u.2.2.1.2, w_X6 g u.2.2.2.1.1 u.2.2.2.1.2, w_X6 g u.2.2.2.2.1 u.2.2.2.2.2, w_X3 g jP jT w]) [0, 1, 2, 3, 4, 5, 6, 7] 8 rfl (by decide) rfl (wc := [w_hh g h0 jH jP aN aB aS y, w_X6 g aN xN].flatten) rfl)
                              refine ko_e (va_runV (As := [.int zv51, .int zv52, .int 1]) (rest := [.int 70, .int zq119, .int zq117]) ⟨hx, hb, hml, hown, htG⟩ (kX8_slot l g h0 jH jA jP jT aN aB aS y xN zv51 zv52 1 _ hzq120) (cwV 3 htG (GV g3_107 g3_108 g3_109 g1_1 g3_110) rfl rfl rfl hd_X8_slot ⟨Nat.le_of_ble_eq_true rfl, Nat.le_of_ble_eq_true rfl⟩) (PR_VA hK hL hS hPc (ci := 7) rfl 0 rfl) rfl rfl hl.1 rfl (lv_room (Nat.le_of_ble_eq_true rfl)) dL_hangs_643 ⟨Nat.zero_le _, Nat.zero_le _⟩) ?_
                              refine lv_isub hx hb dL_hangs_646 ?_
                              obtain ⟨zq121, hzq121, hm⟩ := bdk hm
                              refine jnR (n := 20) (lv := [(0, .ref h0), (1, .int zq1), (2, .int zq31.1), (6, .int zq31.2.2.2.2.1), (7, .int zq31.2.2.2.2.2.1), (8, .int zq31.2.2.2.2.2.2.1), (10, .int zv60), (11, .int zv64), (12, .int i1_12)]) (stk := [.int zq121, .int zq117]) (J := 655) (fun ls hl => ?_) (fun hJ => ?_)
                              · skip
                                refine lv_icmp_ne (tgt := 662) hx hb dL_hangs_655 (by decide) (fun zc123 => ?_) (fun zc123 => ?_)
                                · replace hm := (if_neg zc123).symm.trans hm
                                  refine lv_iconst (v := 0) hx hb dL_hangs_662 (by decide) ?_
                                  obtain rfl := Option.some.inj hm
                                  exact hJ ls (lv_sub hl [0, 1, 2, 3, 4, 5, 6, 7, 8] rfl)
                                · replace hm := (if_pos zc123).symm.trans hm
                                  refine lv_iconst (v := 1) hx hb dL_hangs_658 (by decide) ?_
                                  refine lv_goto (tgt := 663) hx hb dL_hangs_659 (by decide) ?_
                                  obtain rfl := Option.some.inj hm
                                  exact hJ ls (lv_sub hl [0, 1, 2, 3, 4, 5, 6, 7, 8] rfl)
                              · replace hm := hzq121
                                refine lv_icmp_gt (tgt := 654) hx hb dL_hangs_647 (by decide) (fun zc122 => ?_) (fun zc122 => ?_)
                                · replace hm := (if_pos zc122).symm.trans hm
                                  refine lv_iconst (v := 0) hx hb dL_hangs_654 (by decide) ?_
                                  obtain rfl := Option.some.inj hm
                                  exact hJ ls (lv_sub hl [0, 1, 2, 3, 4, 5, 6, 7, 8] rfl)
                                · replace hm := (if_neg zc122).symm.trans hm
                                  refine lv_iconst (v := 1) hx hb dL_hangs_650 (by decide) ?_
                                  refine lv_goto (tgt := 655) hx hb dL_hangs_651 (by decide) ?_
                                  obtain rfl := Option.some.inj hm
                                  exact hJ ls (lv_sub hl [0, 1, 2, 3, 4, 5, 6, 7, 8] rfl)
                            · replace hm := hzq117
                              refine lv_if_ne (tgt := 628) hx hb dL_hangs_621 (by decide) (fun zc118 => ?_) (fun zc118 => ?_)
                              · replace hm := (if_neg zc118).symm.trans hm
                                refine lv_iconst (v := 0) hx hb dL_hangs_628 (by decide) ?_
                                obtain rfl := Option.some.inj hm
                                exact hJ ls (lv_sub hl [1, 2, 3, 4, 5, 6, 7, 8, 9, 10, 11] rfl)
                              · replace hm := (if_pos zc118).symm.trans hm
                                refine lv_iconst (v := 1) hx hb dL_hangs_624 (by decide) ?_
                                refine lv_goto (tgt := 629) hx hb dL_hangs_625 (by decide) ?_
                                obtain rfl := Option.some.inj hm
                                exact hJ ls (lv_sub hl [1, 2, 3, 4, 5, 6, 7, 8, 9, 10, 11] rfl)
                  · replace hm := hzq67
                    refine lv_icmp_ne (tgt := 601) hx hb dL_hangs_428 (by decide) (fun zc68 => ?_) (fun zc68 => ?_)
                    · replace hm := (if_neg zc68).symm.trans hm
                      refine lv_iconst (v := 0) hx hb dL_hangs_601 (by decide) ?_
                      obtain rfl := Option.some.inj hm
                      exact hJ ls (lv_sub hl [0, 1, 2, 3, 4, 5, 6, 7, 8, 9, 10, 11, 14, 15] rfl)
                    · replace hm := (if_pos zc68).symm.trans hm
                      refine lv_iload hx hb dL_hangs_431 (lv_at hl 11 rfl) ?_
                      refine lv_if_lt (tgt := 489) hx hb dL_hangs_433 (by decide) (fun zc69 => ?_) (fun zc69 => ?_)
                      · replace hm := (if_pos zc69).symm.trans hm
                        refine lv_aload_n hx hb dL_hangs_489 rfl (lv_at hl 0 rfl) ?_
                        refine lv_iload hx hb dL_hangs_490 (lv_at hl 9 rfl) ?_
                        refine lv_iload hx hb dL_hangs_492 (lv_at hl 10 rfl) ?_
                        refine lv_iconst (v := 1) hx hb dL_hangs_494 (by decide) ?_
                        obtain ⟨zq70, hzq70, hm⟩ := bdk hm
                        have hPc := va_cutP hP (blkQ (bs := [w_hh g h0 jH jP aN aB aS y, w_X6 g aN xN, w_hd g jH jA u.1 (u.2.1.1 0) (u.2.2.1.1 0) (u.2.2.2.1.1 0) (u.2.2.2.2.1 0), w_X6 g u.2.1.1 u.2.1.2, w_X6 g u.2.2.1.1 u.2.2.1.2, w_X6 g u.2.2.2.1.1 u.2.2.2.1.2, w_X6 g u.2.2.2.2.1 u.2.2.2.2.2, w_X3 g jP jT w]) (cs := [w_hh g h0 jH jP aN aB aS y, w_X6 g aN xN]) (rs := [w_hd g jH jA u.1 (u.2.1.1 0) (u.2.2.1.1 0) (u.2.2.2.1.1 0) (u.2.2.2.2.1 0), w_X6 g u.2.1.1 u.2.1.2, w_X6 g u.2.2.1.1 u.2.2.1.2, w_X6 g u.2.2.2.1.1 u.2.2.2.1.2, w_X6 g u.2.2.2.2.1 u.2.2.2.2.2, w_X3 g jP jT w]) [0, 1, 2, 3, 4, 5, 6, 7] 8 rfl (by decide) rfl (wc := [w_hh g h0 jH jP aN aB aS y, w_X6 g aN xN].flatten) rfl)
                        refine ko_e (va_runV (As := [.int zv51, .int zv52, .int 1]) (rest := []) ⟨hx, hb, hml, hown, htG⟩ (kX8_slot l g h0 jH jA jP jT aN aB aS y xN zv51 zv52 1 _ hzq70) (cwV 3 htG (GV g3_107 g3_108 g3_109 g1_1 g3_110) rfl rfl rfl hd_X8_slot ⟨Nat.le_of_ble_eq_true rfl, Nat.le_of_ble_eq_true rfl⟩) (PR_VA hK hL hS hPc (ci := 7) rfl 0 rfl) rfl rfl hl.1 rfl (lv_room (Nat.le_of_ble_eq_true rfl)) dL_hangs_495 ⟨Nat.zero_le _, Nat.zero_le _⟩) ?_
                        refine lv_if_ne (tgt := 601) hx hb dL_hangs_498 (by decide) (fun zc71 => ?_) (fun zc71 => ?_)
                        · replace hm := (if_neg zc71).symm.trans hm
                          refine lv_iconst (v := 0) hx hb dL_hangs_601 (by decide) ?_
                          obtain rfl := Option.some.inj hm
                          exact hJ ls (lv_sub hl [0, 1, 2, 3, 4, 5, 6, 7, 8, 9, 10, 11, 14, 15] rfl)
                        · replace hm := (if_pos zc71).symm.trans hm
                          refine lv_aload_n hx hb dL_hangs_501 rfl (lv_at hl 0 rfl) ?_
                          refine lv_iload hx hb dL_hangs_502 (lv_at hl 9 rfl) ?_
                          refine lv_iload hx hb dL_hangs_504 (lv_at hl 10 rfl) ?_
                          refine lv_iconst (v := 2) hx hb dL_hangs_506 (by decide) ?_
                          obtain ⟨zq72, hzq72, hm⟩ := bdk hm
                          have hPc := va_cutP hP (blkQ (bs := [w_hh g h0 jH jP aN aB aS y, w_X6 g aN xN, w_hd g jH jA u.1 (u.2.1.1 0) (u.2.2.1.1 0) (u.2.2.2.1.1 0) (u.2.2.2.2.1 0), w_X6 g u.2.1.1 u.2.1.2, w_X6 g u.2.2.1.1 u.2.2.1.2, w_X6 g u.2.2.2.1.1 u.2.2.2.1.2, w_X6 g u.2.2.2.2.1 u.2.2.2.2.2, w_X3 g jP jT w]) (cs := [w_hh g h0 jH jP aN aB aS y, w_X6 g aN xN]) (rs := [w_hd g jH jA u.1 (u.2.1.1 0) (u.2.2.1.1 0) (u.2.2.2.1.1 0) (u.2.2.2.2.1 0), w_X6 g u.2.1.1 u.2.1.2, w_X6 g u.2.2.1.1 u.2.2.1.2, w_X6 g u.2.2.2.1.1 u.2.2.2.1.2, w_X6 g u.2.2.2.2.1 u.2.2.2.2.2, w_X3 g jP jT w]) [0, 1, 2, 3, 4, 5, 6, 7] 8 rfl (by decide) rfl (wc := [w_hh g h0 jH jP aN aB aS y, w_X6 g aN xN].flatten) rfl)
                          refine ko_e (va_runV (As := [.int zv51, .int zv52, .int 2]) (rest := []) ⟨hx, hb, hml, hown, htG⟩ (kX8_slot l g h0 jH jA jP jT aN aB aS y xN zv51 zv52 2 _ hzq72) (cwV 3 htG (GV g3_107 g3_108 g3_109 g1_1 g3_110) rfl rfl rfl hd_X8_slot ⟨Nat.le_of_ble_eq_true rfl, Nat.le_of_ble_eq_true rfl⟩) (PR_VA hK hL hS hPc (ci := 7) rfl 0 rfl) rfl rfl hl.1 rfl (lv_room (Nat.le_of_ble_eq_true rfl)) dL_hangs_507 ⟨Nat.zero_le _, Nat.zero_le _⟩) ?_
                          refine lv_if_ne (tgt := 601) hx hb dL_hangs_510 (by decide) (fun zc73 => ?_) (fun zc73 => ?_)
                          · replace hm := (if_neg zc73).symm.trans hm
                            refine lv_iconst (v := 0) hx hb dL_hangs_601 (by decide) ?_
                            obtain rfl := Option.some.inj hm
                            exact hJ ls (lv_sub hl [0, 1, 2, 3, 4, 5, 6, 7, 8, 9, 10, 11, 14, 15] rfl)
                          · replace hm := (if_pos zc73).symm.trans hm
                            refine lv_iload hx hb dL_hangs_513 (lv_at hl 12 rfl) ?_
                            obtain ⟨zq74, hzq74, hm⟩ := bdk hm
                            refine jnR (n := 20) (lv := [(0, .ref h0), (1, .int zq1), (2, .int zq31.1), (6, .int zq31.2.2.2.2.1), (7, .int zq31.2.2.2.2.2.1), (8, .int zq31.2.2.2.2.2.2.1), (10, .int zv60), (11, .int zv64), (12, .int i1_12), (13, .int zv51), (14, .int zv52), (15, .int zq53), (16, .int zq54), (17, .int zq55), (18, .int zq56), (19, .int zq58)]) (stk := [.int zq74]) (J := 523) (fun ls hl => ?_) (fun hJ => ?_)
                            · skip
                              refine lv_iload hx hb dL_hangs_523 (lv_at hl 13 rfl) ?_
                              obtain ⟨zq76, hzq76, hm⟩ := bdk hm
                              refine jnR (n := 20) (lv := [(0, .ref h0), (1, .int zq1), (2, .int zq31.1), (6, .int zq31.2.2.2.2.1), (7, .int zq31.2.2.2.2.2.1), (8, .int zq31.2.2.2.2.2.2.1), (10, .int zv60), (11, .int zv64), (12, .int i1_12), (13, .int zv51), (14, .int zv52), (15, .int zq53), (16, .int zq54), (18, .int zq56), (19, .int zq58)]) (stk := [.int zq76, .int zq74]) (J := 533) (fun ls hl => ?_) (fun hJ => ?_)
                              · skip
                                refine lv_icmp_ne (tgt := 601) hx hb dL_hangs_533 (by decide) (fun zc78 => ?_) (fun zc78 => ?_)
                                · replace hm := (if_neg zc78).symm.trans hm
                                  refine lv_iconst (v := 0) hx hb dL_hangs_601 (by decide) ?_
                                  obtain rfl := Option.some.inj hm
                                  exact hJ ls (lv_sub hl [0, 1, 2, 3, 4, 5, 6, 7, 8, 9, 10, 11, 13, 14] rfl)
                                · replace hm := (if_pos zc78).symm.trans hm
                                  refine lv_iload hx hb dL_hangs_536 (lv_at hl 14 rfl) ?_
                                  refine lv_if_eq (tgt := 590) hx hb dL_hangs_538 (by decide) (fun zc79 => ?_) (fun zc79 => ?_)
                                  · replace hm := (if_pos zc79).symm.trans hm
                                    refine lv_iload hx hb dL_hangs_590 (lv_at hl 13 rfl) ?_
                                    refine lv_bipush (v := (-5)) hx hb dL_hangs_592 (by decide +kernel) ?_
                                    refine lv_icmp_ne (tgt := 601) hx hb dL_hangs_594 (by decide) (fun zc80 => ?_) (fun zc80 => ?_)
                                    · replace hm := (if_neg zc80).symm.trans hm
                                      refine lv_iconst (v := 0) hx hb dL_hangs_601 (by decide) ?_
                                      obtain rfl := Option.some.inj hm
                                      exact hJ ls (lv_sub hl [0, 1, 2, 3, 4, 5, 6, 7, 8, 9, 10, 11, 13, 14] rfl)
                                    · replace hm := (if_pos zc80).symm.trans hm
                                      refine lv_iconst (v := 1) hx hb dL_hangs_597 (by decide) ?_
                                      refine lv_goto (tgt := 602) hx hb dL_hangs_598 (by decide) ?_
                                      obtain rfl := Option.some.inj hm
                                      exact hJ ls (lv_sub hl [0, 1, 2, 3, 4, 5, 6, 7, 8, 9, 10, 11, 13, 14] rfl)
                                  · replace hm := (if_neg zc79).symm.trans hm
                                    refine lv_iload hx hb dL_hangs_541 (lv_at hl 12 rfl) ?_
                                    refine lv_if_ne (tgt := 601) hx hb dL_hangs_543 (by decide) (fun zc81 => ?_) (fun zc81 => ?_)
                                    · replace hm := (if_neg zc81).symm.trans hm
                                      refine lv_iconst (v := 0) hx hb dL_hangs_601 (by decide) ?_
                                      obtain rfl := Option.some.inj hm
                                      exact hJ ls (lv_sub hl [0, 1, 2, 3, 4, 5, 6, 7, 8, 9, 10, 11, 13, 14] rfl)
                                    · replace hm := (if_pos zc81).symm.trans hm
                                      refine lv_iload hx hb dL_hangs_546 (lv_at hl 13 rfl) ?_
                                      refine lv_if_lt (tgt := 601) hx hb dL_hangs_548 (by decide) (fun zc82 => ?_) (fun zc82 => ?_)
                                      · replace hm := (if_pos zc82).symm.trans hm
                                        refine lv_iconst (v := 0) hx hb dL_hangs_601 (by decide) ?_
                                        obtain rfl := Option.some.inj hm
                                        exact hJ ls (lv_sub hl [0, 1, 2, 3, 4, 5, 6, 7, 8, 9, 10, 11, 13, 14] rfl)
                                      · replace hm := (if_neg zc82).symm.trans hm
                                        refine lv_iload hx hb dL_hangs_551 (lv_at hl 13 rfl) ?_
                                        refine lv_iconst (v := 3) hx hb dL_hangs_553 (by decide) ?_
                                        refine lv_icmp_gt (tgt := 601) hx hb dL_hangs_554 (by decide) (fun zc83 => ?_) (fun zc83 => ?_)
                                        · replace hm := (if_pos zc83).symm.trans hm
                                          refine lv_iconst (v := 0) hx hb dL_hangs_601 (by decide) ?_
                                          obtain rfl := Option.some.inj hm
                                          exact hJ ls (lv_sub hl [0, 1, 2, 3, 4, 5, 6, 7, 8, 9, 10, 11, 13, 14] rfl)
                                        · replace hm := (if_neg zc83).symm.trans hm
                                          refine lv_iload hx hb dL_hangs_557 (lv_at hl 13 rfl) ?_
                                          refine lv_iconst (v := 1) hx hb dL_hangs_559 (by decide) ?_
                                          obtain ⟨zq84, hzq84, hm⟩ := bdk hm
                                          refine jnR (n := 20) (lv := [(0, .ref h0), (1, .int zq1), (2, .int zq31.1), (6, .int zq31.2.2.2.2.1), (7, .int zq31.2.2.2.2.2.1), (8, .int zq31.2.2.2.2.2.2.1), (10, .int zv60), (11, .int zv64), (12, .int i1_12), (13, .int zv51), (14, .int zv52), (15, .int zq53), (18, .int zq56), (19, .int zq58)]) (stk := [.int zq84]) (J := 574) (fun ls hl => ?_) (fun hJ => ?_)
                                          · skip
                                            refine lv_iload hx hb dL_hangs_574 (lv_at hl 11 rfl) ?_
                                            obtain ⟨zq87, hzq87, hm⟩ := bdk hm
                                            refine jnR (n := 20) (lv := [(0, .ref h0), (1, .int zq1), (2, .int zq31.1), (6, .int zq31.2.2.2.2.1), (7, .int zq31.2.2.2.2.2.1), (8, .int zq31.2.2.2.2.2.2.1), (10, .int zv60), (11, .int zv64), (12, .int i1_12), (13, .int zv51), (14, .int zv52), (15, .int zq53), (18, .int zq56), (19, .int zq58)]) (stk := [.int zq87, .int zq84]) (J := 584) (fun ls hl => ?_) (fun hJ => ?_)
                                            · skip
                                              refine lv_icmp_ne (tgt := 601) hx hb dL_hangs_584 (by decide) (fun zc89 => ?_) (fun zc89 => ?_)
                                              · replace hm := (if_neg zc89).symm.trans hm
                                                refine lv_iconst (v := 0) hx hb dL_hangs_601 (by decide) ?_
                                                obtain rfl := Option.some.inj hm
                                                exact hJ ls (lv_sub hl [0, 1, 2, 3, 4, 5, 6, 7, 8, 9, 10, 11, 12, 13] rfl)
                                              · replace hm := (if_pos zc89).symm.trans hm
                                                refine lv_goto (tgt := 597) hx hb dL_hangs_587 (by decide) ?_
                                                refine lv_iconst (v := 1) hx hb dL_hangs_597 (by decide) ?_
                                                refine lv_goto (tgt := 602) hx hb dL_hangs_598 (by decide) ?_
                                                obtain rfl := Option.some.inj hm
                                                exact hJ ls (lv_sub hl [0, 1, 2, 3, 4, 5, 6, 7, 8, 9, 10, 11, 12, 13] rfl)
                                            · replace hm := hzq87
                                              refine lv_if_ge (tgt := 583) hx hb dL_hangs_576 (by decide) (fun zc88 => ?_) (fun zc88 => ?_)
                                              · replace hm := (if_pos zc88).symm.trans hm
                                                refine lv_iconst (v := 0) hx hb dL_hangs_583 (by decide) ?_
                                                obtain rfl := Option.some.inj hm
                                                exact hJ ls (lv_sub hl [0, 1, 2, 3, 4, 5, 6, 7, 8, 9, 10, 11, 12, 13] rfl)
                                              · replace hm := (if_neg zc88).symm.trans hm
                                                refine lv_iconst (v := 1) hx hb dL_hangs_579 (by decide) ?_
                                                refine lv_goto (tgt := 584) hx hb dL_hangs_580 (by decide) ?_
                                                obtain rfl := Option.some.inj hm
                                                exact hJ ls (lv_sub hl [0, 1, 2, 3, 4, 5, 6, 7, 8, 9, 10, 11, 12, 13] rfl)
                                          · replace hm := hzq84
                                            refine lv_icmp_eq (tgt := 569) hx hb dL_hangs_560 (by decide) (fun zc85 => ?_) (fun zc85 => ?_)
                                            · replace hm := (if_pos zc85).symm.trans hm
                                              refine lv_iconst (v := 1) hx hb dL_hangs_569 (by decide) ?_
                                              refine lv_goto (tgt := 574) hx hb dL_hangs_570 (by decide) ?_
                                              obtain rfl := Option.some.inj hm
                                              exact hJ ls (lv_sub hl [0, 1, 2, 3, 4, 5, 6, 7, 8, 9, 10, 11, 13, 14] rfl)
                                            · replace hm := (if_neg zc85).symm.trans hm
                                              refine lv_iload hx hb dL_hangs_563 (lv_at hl 13 rfl) ?_
                                              refine lv_iconst (v := 2) hx hb dL_hangs_565 (by decide) ?_
                                              refine lv_icmp_ne (tgt := 573) hx hb dL_hangs_566 (by decide) (fun zc86 => ?_) (fun zc86 => ?_)
                                              · replace hm := (if_neg zc86).symm.trans hm
                                                refine lv_iconst (v := 0) hx hb dL_hangs_573 (by decide) ?_
                                                obtain rfl := Option.some.inj hm
                                                exact hJ ls (lv_sub hl [0, 1, 2, 3, 4, 5, 6, 7, 8, 9, 10, 11, 13, 14] rfl)
                                              · replace hm := (if_pos zc86).symm.trans hm
                                                refine lv_iconst (v := 1) hx hb dL_hangs_569 (by decide) ?_
                                                refine lv_goto (tgt := 574) hx hb dL_hangs_570 (by decide) ?_
                                                obtain rfl := Option.some.inj hm
                                                exact hJ ls (lv_sub hl [0, 1, 2, 3, 4, 5, 6, 7, 8, 9, 10, 11, 13, 14] rfl)
                              · replace hm := hzq76
                                refine lv_if_ne (tgt := 532) hx hb dL_hangs_525 (by decide) (fun zc77 => ?_) (fun zc77 => ?_)
                                · replace hm := (if_neg zc77).symm.trans hm
                                  refine lv_iconst (v := 0) hx hb dL_hangs_532 (by decide) ?_
                                  obtain rfl := Option.some.inj hm
                                  exact hJ ls (lv_sub hl [0, 1, 2, 3, 4, 5, 6, 7, 8, 9, 10, 11, 12, 14, 15] rfl)
                                · replace hm := (if_pos zc77).symm.trans hm
                                  refine lv_iconst (v := 1) hx hb dL_hangs_528 (by decide) ?_
                                  refine lv_goto (tgt := 533) hx hb dL_hangs_529 (by decide) ?_
                                  obtain rfl := Option.some.inj hm
                                  exact hJ ls (lv_sub hl [0, 1, 2, 3, 4, 5, 6, 7, 8, 9, 10, 11, 12, 14, 15] rfl)
                            · replace hm := hzq74
                              refine lv_if_ne (tgt := 522) hx hb dL_hangs_515 (by decide) (fun zc75 => ?_) (fun zc75 => ?_)
                              · replace hm := (if_neg zc75).symm.trans hm
                                refine lv_iconst (v := 0) hx hb dL_hangs_522 (by decide) ?_
                                obtain rfl := Option.some.inj hm
                                exact hJ ls (lv_sub hl [0, 1, 2, 3, 4, 5, 6, 7, 8, 9, 10, 11, 12, 13, 14, 15] rfl)
                              · replace hm := (if_pos zc75).symm.trans hm
                                refine lv_iconst (v := 1) hx hb dL_hangs_518 (by decide) ?_
                                refine lv_goto (tgt := 523) hx hb dL_hangs_519 (by decide) ?_
                                obtain rfl := Option.some.inj hm
                                exact hJ ls (lv_sub hl [0, 1, 2, 3, 4, 5, 6, 7, 8, 9, 10, 11, 12, 13, 14, 15] rfl)
                      · replace hm := (if_neg zc69).symm.trans hm
                        refine lv_iload hx hb dL_hangs_436 (lv_at hl 12 rfl) ?_
                        refine lv_if_ne (tgt := 601) hx hb dL_hangs_438 (by decide) (fun zc90 => ?_) (fun zc90 => ?_)
                        · replace hm := (if_neg zc90).symm.trans hm
                          refine lv_iconst (v := 0) hx hb dL_hangs_601 (by decide) ?_
                          obtain rfl := Option.some.inj hm
                          exact hJ ls (lv_sub hl [0, 1, 2, 3, 4, 5, 6, 7, 8, 9, 10, 11, 14, 15] rfl)
                        · replace hm := (if_pos zc90).symm.trans hm
                          refine lv_aload_n hx hb dL_hangs_441 rfl (lv_at hl 0 rfl) ?_
                          refine lv_iload hx hb dL_hangs_442 (lv_at hl 9 rfl) ?_
                          refine lv_iload hx hb dL_hangs_444 (lv_at hl 10 rfl) ?_
                          refine lv_iconst (v := 1) hx hb dL_hangs_446 (by decide) ?_
                          obtain ⟨zq91, hzq91, hm⟩ := bdk hm
                          have hPc := va_cutP hP (blkQ (bs := [w_hh g h0 jH jP aN aB aS y, w_X6 g aN xN, w_hd g jH jA u.1 (u.2.1.1 0) (u.2.2.1.1 0) (u.2.2.2.1.1 0) (u.2.2.2.2.1 0), w_X6 g u.2.1.1 u.2.1.2, w_X6 g u.2.2.1.1 u.2.2.1.2, w_X6 g u.2.2.2.1.1 u.2.2.2.1.2, w_X6 g u.2.2.2.2.1 u.2.2.2.2.2, w_X3 g jP jT w]) (cs := [w_hh g h0 jH jP aN aB aS y, w_X6 g aN xN]) (rs := [w_hd g jH jA u.1 (u.2.1.1 0) (u.2.2.1.1 0) (u.2.2.2.1.1 0) (u.2.2.2.2.1 0), w_X6 g u.2.1.1 u.2.1.2, w_X6 g u.2.2.1.1 u.2.2.1.2, w_X6 g u.2.2.2.1.1 u.2.2.2.1.2, w_X6 g u.2.2.2.2.1 u.2.2.2.2.2, w_X3 g jP jT w]) [0, 1, 2, 3, 4, 5, 6, 7] 8 rfl (by decide) rfl (wc := [w_hh g h0 jH jP aN aB aS y, w_X6 g aN xN].flatten) rfl)
                          refine ko_e (va_runV (As := [.int zv51, .int zv52, .int 1]) (rest := []) ⟨hx, hb, hml, hown, htG⟩ (kX8_slot l g h0 jH jA jP jT aN aB aS y xN zv51 zv52 1 _ hzq91) (cwV 3 htG (GV g3_107 g3_108 g3_109 g1_1 g3_110) rfl rfl rfl hd_X8_slot ⟨Nat.le_of_ble_eq_true rfl, Nat.le_of_ble_eq_true rfl⟩) (PR_VA hK hL hS hPc (ci := 7) rfl 0 rfl) rfl rfl hl.1 rfl (lv_room (Nat.le_of_ble_eq_true rfl)) dL_hangs_447 ⟨Nat.zero_le _, Nat.zero_le _⟩) ?_
                          refine lv_iconst (v := 1) hx hb dL_hangs_450 (by decide) ?_
                          refine lv_icmp_lt (tgt := 601) hx hb dL_hangs_451 (by decide) (fun zc92 => ?_) (fun zc92 => ?_)
                          · replace hm := (if_pos zc92).symm.trans hm
                            refine lv_iconst (v := 0) hx hb dL_hangs_601 (by decide) ?_
                            obtain rfl := Option.some.inj hm
                            exact hJ ls (lv_sub hl [0, 1, 2, 3, 4, 5, 6, 7, 8, 9, 10, 11, 14, 15] rfl)
                          · replace hm := (if_neg zc92).symm.trans hm
                            refine lv_aload_n hx hb dL_hangs_454 rfl (lv_at hl 0 rfl) ?_
                            refine lv_iload hx hb dL_hangs_455 (lv_at hl 9 rfl) ?_
                            refine lv_iload hx hb dL_hangs_457 (lv_at hl 10 rfl) ?_
                            refine lv_iconst (v := 1) hx hb dL_hangs_459 (by decide) ?_
                            obtain ⟨zq93, hzq93, hm⟩ := bdk hm
                            have hPc := va_cutP hP (blkQ (bs := [w_hh g h0 jH jP aN aB aS y, w_X6 g aN xN, w_hd g jH jA u.1 (u.2.1.1 0) (u.2.2.1.1 0) (u.2.2.2.1.1 0) (u.2.2.2.2.1 0), w_X6 g u.2.1.1 u.2.1.2, w_X6 g u.2.2.1.1 u.2.2.1.2, w_X6 g u.2.2.2.1.1 u.2.2.2.1.2, w_X6 g u.2.2.2.2.1 u.2.2.2.2.2, w_X3 g jP jT w]) (cs := [w_hh g h0 jH jP aN aB aS y, w_X6 g aN xN]) (rs := [w_hd g jH jA u.1 (u.2.1.1 0) (u.2.2.1.1 0) (u.2.2.2.1.1 0) (u.2.2.2.2.1 0), w_X6 g u.2.1.1 u.2.1.2, w_X6 g u.2.2.1.1 u.2.2.1.2, w_X6 g u.2.2.2.1.1 u.2.2.2.1.2, w_X6 g u.2.2.2.2.1 u.2.2.2.2.2, w_X3 g jP jT w]) [0, 1, 2, 3, 4, 5, 6, 7] 8 rfl (by decide) rfl (wc := [w_hh g h0 jH jP aN aB aS y, w_X6 g aN xN].flatten) rfl)
                            refine ko_e (va_runV (As := [.int zv51, .int zv52, .int 1]) (rest := []) ⟨hx, hb, hml, hown, htG⟩ (kX8_slot l g h0 jH jA jP jT aN aB aS y xN zv51 zv52 1 _ hzq93) (cwV 3 htG (GV g3_107 g3_108 g3_109 g1_1 g3_110) rfl rfl rfl hd_X8_slot ⟨Nat.le_of_ble_eq_true rfl, Nat.le_of_ble_eq_true rfl⟩) (PR_VA hK hL hS hPc (ci := 7) rfl 0 rfl) rfl rfl hl.1 rfl (lv_room (Nat.le_of_ble_eq_true rfl)) dL_hangs_460 ⟨Nat.zero_le _, Nat.zero_le _⟩) ?_
                            refine lv_bipush (v := 20) hx hb dL_hangs_463 (by decide +kernel) ?_
                            refine lv_bipush (v := 20) hx hb dL_hangs_465 (by decide +kernel) ?_
                            refine lv_iload hx hb dL_hangs_467 (lv_at hl 9 rfl) ?_
                            refine lv_imul hx hb dL_hangs_469 ?_
                            refine lv_iadd hx hb dL_hangs_470 ?_
                            refine lv_icmp_gt (tgt := 601) hx hb dL_hangs_471 (by decide) (fun zc94 => ?_) (fun zc94 => ?_)
                            · replace hm := (if_pos zc94).symm.trans hm
                              refine lv_iconst (v := 0) hx hb dL_hangs_601 (by decide) ?_
                              obtain rfl := Option.some.inj hm
                              exact hJ ls (lv_sub hl [0, 1, 2, 3, 4, 5, 6, 7, 8, 9, 10, 11, 14, 15] rfl)
                            · replace hm := (if_neg zc94).symm.trans hm
                              refine lv_aload_n hx hb dL_hangs_474 rfl (lv_at hl 0 rfl) ?_
                              refine lv_iload hx hb dL_hangs_475 (lv_at hl 9 rfl) ?_
                              refine lv_iload hx hb dL_hangs_477 (lv_at hl 10 rfl) ?_
                              refine lv_iconst (v := 2) hx hb dL_hangs_479 (by decide) ?_
                              obtain ⟨zq95, hzq95, hm⟩ := bdk hm
                              have hPc := va_cutP hP (blkQ (bs := [w_hh g h0 jH jP aN aB aS y, w_X6 g aN xN, w_hd g jH jA u.1 (u.2.1.1 0) (u.2.2.1.1 0) (u.2.2.2.1.1 0) (u.2.2.2.2.1 0), w_X6 g u.2.1.1 u.2.1.2, w_X6 g u.2.2.1.1 u.2.2.1.2, w_X6 g u.2.2.2.1.1 u.2.2.2.1.2, w_X6 g u.2.2.2.2.1 u.2.2.2.2.2, w_X3 g jP jT w]) (cs := [w_hh g h0 jH jP aN aB aS y, w_X6 g aN xN]) (rs := [w_hd g jH jA u.1 (u.2.1.1 0) (u.2.2.1.1 0) (u.2.2.2.1.1 0) (u.2.2.2.2.1 0), w_X6 g u.2.1.1 u.2.1.2, w_X6 g u.2.2.1.1 u.2.2.1.2, w_X6 g u.2.2.2.1.1 u.2.2.2.1.2, w_X6 g u.2.2.2.2.1 u.2.2.2.2.2, w_X3 g jP jT w]) [0, 1, 2, 3, 4, 5, 6, 7] 8 rfl (by decide) rfl (wc := [w_hh g h0 jH jP aN aB aS y, w_X6 g aN xN].flatten) rfl)
                              refine ko_e (va_runV (As := [.int zv51, .int zv52, .int 2]) (rest := []) ⟨hx, hb, hml, hown, htG⟩ (kX8_slot l g h0 jH jA jP jT aN aB aS y xN zv51 zv52 2 _ hzq95) (cwV 3 htG (GV g3_107 g3_108 g3_109 g1_1 g3_110) rfl rfl rfl hd_X8_slot ⟨Nat.le_of_ble_eq_true rfl, Nat.le_of_ble_eq_true rfl⟩) (PR_VA hK hL hS hPc (ci := 7) rfl 0 rfl) rfl rfl hl.1 rfl (lv_room (Nat.le_of_ble_eq_true rfl)) dL_hangs_480 ⟨Nat.zero_le _, Nat.zero_le _⟩) ?_
                              refine lv_if_lt (tgt := 601) hx hb dL_hangs_483 (by decide) (fun zc96 => ?_) (fun zc96 => ?_)
                              · replace hm := (if_pos zc96).symm.trans hm
                                refine lv_iconst (v := 0) hx hb dL_hangs_601 (by decide) ?_
                                obtain rfl := Option.some.inj hm
                                exact hJ ls (lv_sub hl [0, 1, 2, 3, 4, 5, 6, 7, 8, 9, 10, 11, 14, 15] rfl)
                              · replace hm := (if_neg zc96).symm.trans hm
                                refine lv_goto (tgt := 513) hx hb dL_hangs_486 (by decide) ?_
                                refine lv_iload hx hb dL_hangs_513 (lv_at hl 12 rfl) ?_
                                obtain ⟨zq97, hzq97, hm⟩ := bdk hm
                                refine jnR (n := 20) (lv := [(0, .ref h0), (1, .int zq1), (2, .int zq31.1), (6, .int zq31.2.2.2.2.1), (7, .int zq31.2.2.2.2.2.1), (8, .int zq31.2.2.2.2.2.2.1), (10, .int zv60), (11, .int zv64), (12, .int i1_12), (13, .int zv51), (14, .int zv52), (15, .int zq53), (16, .int zq54), (17, .int zq55), (18, .int zq56), (19, .int zq58)]) (stk := [.int zq97]) (J := 523) (fun ls hl => ?_) (fun hJ => ?_)
                                · skip
                                  refine lv_iload hx hb dL_hangs_523 (lv_at hl 13 rfl) ?_
                                  obtain ⟨zq99, hzq99, hm⟩ := bdk hm
                                  refine jnR (n := 20) (lv := [(0, .ref h0), (1, .int zq1), (2, .int zq31.1), (6, .int zq31.2.2.2.2.1), (7, .int zq31.2.2.2.2.2.1), (8, .int zq31.2.2.2.2.2.2.1), (10, .int zv60), (11, .int zv64), (12, .int i1_12), (13, .int zv51), (14, .int zv52), (15, .int zq53), (16, .int zq54), (18, .int zq56), (19, .int zq58)]) (stk := [.int zq99, .int zq97]) (J := 533) (fun ls hl => ?_) (fun hJ => ?_)
                                  · skip
                                    refine lv_icmp_ne (tgt := 601) hx hb dL_hangs_533 (by decide) (fun zc101 => ?_) (fun zc101 => ?_)
                                    · replace hm := (if_neg zc101).symm.trans hm
                                      refine lv_iconst (v := 0) hx hb dL_hangs_601 (by decide) ?_
                                      obtain rfl := Option.some.inj hm
                                      exact hJ ls (lv_sub hl [0, 1, 2, 3, 4, 5, 6, 7, 8, 9, 10, 11, 13, 14] rfl)
                                    · replace hm := (if_pos zc101).symm.trans hm
                                      refine lv_iload hx hb dL_hangs_536 (lv_at hl 14 rfl) ?_
                                      refine lv_if_eq (tgt := 590) hx hb dL_hangs_538 (by decide) (fun zc102 => ?_) (fun zc102 => ?_)
                                      · replace hm := (if_pos zc102).symm.trans hm
                                        refine lv_iload hx hb dL_hangs_590 (lv_at hl 13 rfl) ?_
                                        refine lv_bipush (v := (-5)) hx hb dL_hangs_592 (by decide +kernel) ?_
                                        refine lv_icmp_ne (tgt := 601) hx hb dL_hangs_594 (by decide) (fun zc103 => ?_) (fun zc103 => ?_)
                                        · replace hm := (if_neg zc103).symm.trans hm
                                          refine lv_iconst (v := 0) hx hb dL_hangs_601 (by decide) ?_
                                          obtain rfl := Option.some.inj hm
                                          exact hJ ls (lv_sub hl [0, 1, 2, 3, 4, 5, 6, 7, 8, 9, 10, 11, 13, 14] rfl)
                                        · replace hm := (if_pos zc103).symm.trans hm
                                          refine lv_iconst (v := 1) hx hb dL_hangs_597 (by decide) ?_
                                          refine lv_goto (tgt := 602) hx hb dL_hangs_598 (by decide) ?_
                                          obtain rfl := Option.some.inj hm
                                          exact hJ ls (lv_sub hl [0, 1, 2, 3, 4, 5, 6, 7, 8, 9, 10, 11, 13, 14] rfl)
                                      · replace hm := (if_neg zc102).symm.trans hm
                                        refine lv_iload hx hb dL_hangs_541 (lv_at hl 12 rfl) ?_
                                        refine lv_if_ne (tgt := 601) hx hb dL_hangs_543 (by decide) (fun zc104 => absurd zc90 zc104) (fun _ => ?_)
                                        refine lv_iload hx hb dL_hangs_546 (lv_at hl 13 rfl) ?_
                                        refine lv_if_lt (tgt := 601) hx hb dL_hangs_548 (by decide) (fun zc105 => ?_) (fun zc105 => ?_)
                                        · replace hm := (if_pos zc105).symm.trans hm
                                          refine lv_iconst (v := 0) hx hb dL_hangs_601 (by decide) ?_
                                          obtain rfl := Option.some.inj hm
                                          exact hJ ls (lv_sub hl [0, 1, 2, 3, 4, 5, 6, 7, 8, 9, 10, 11, 13, 14] rfl)
                                        · replace hm := (if_neg zc105).symm.trans hm
                                          refine lv_iload hx hb dL_hangs_551 (lv_at hl 13 rfl) ?_
                                          refine lv_iconst (v := 3) hx hb dL_hangs_553 (by decide) ?_
                                          refine lv_icmp_gt (tgt := 601) hx hb dL_hangs_554 (by decide) (fun zc106 => ?_) (fun zc106 => ?_)
                                          · replace hm := (if_pos zc106).symm.trans hm
                                            refine lv_iconst (v := 0) hx hb dL_hangs_601 (by decide) ?_
                                            obtain rfl := Option.some.inj hm
                                            exact hJ ls (lv_sub hl [0, 1, 2, 3, 4, 5, 6, 7, 8, 9, 10, 11, 13, 14] rfl)
                                          · replace hm := (if_neg zc106).symm.trans hm
                                            refine lv_iload hx hb dL_hangs_557 (lv_at hl 13 rfl) ?_
                                            refine lv_iconst (v := 1) hx hb dL_hangs_559 (by decide) ?_
                                            obtain ⟨zq107, hzq107, hm⟩ := bdk hm
                                            refine jnR (n := 20) (lv := [(0, .ref h0), (1, .int zq1), (2, .int zq31.1), (6, .int zq31.2.2.2.2.1), (7, .int zq31.2.2.2.2.2.1), (8, .int zq31.2.2.2.2.2.2.1), (10, .int zv60), (11, .int zv64), (12, .int i1_12), (13, .int zv51), (14, .int zv52), (15, .int zq53), (18, .int zq56), (19, .int zq58)]) (stk := [.int zq107]) (J := 574) (fun ls hl => ?_) (fun hJ => ?_)
                                            · skip
                                              refine lv_iload hx hb dL_hangs_574 (lv_at hl 11 rfl) ?_
                                              obtain ⟨zq110, hzq110, hm⟩ := bdk hm
                                              refine jnR (n := 20) (lv := [(0, .ref h0), (1, .int zq1), (2, .int zq31.1), (6, .int zq31.2.2.2.2.1), (7, .int zq31.2.2.2.2.2.1), (8, .int zq31.2.2.2.2.2.2.1), (10, .int zv60), (11, .int zv64), (12, .int i1_12), (13, .int zv51), (14, .int zv52), (15, .int zq53), (18, .int zq56), (19, .int zq58)]) (stk := [.int zq110, .int zq107]) (J := 584) (fun ls hl => ?_) (fun hJ => ?_)
                                              · skip
                                                refine lv_icmp_ne (tgt := 601) hx hb dL_hangs_584 (by decide) (fun zc112 => ?_) (fun zc112 => ?_)
                                                · replace hm := (if_neg zc112).symm.trans hm
                                                  refine lv_iconst (v := 0) hx hb dL_hangs_601 (by decide) ?_
                                                  obtain rfl := Option.some.inj hm
                                                  exact hJ ls (lv_sub hl [0, 1, 2, 3, 4, 5, 6, 7, 8, 9, 10, 11, 12, 13] rfl)
                                                · replace hm := (if_pos zc112).symm.trans hm
                                                  refine lv_goto (tgt := 597) hx hb dL_hangs_587 (by decide) ?_
                                                  refine lv_iconst (v := 1) hx hb dL_hangs_597 (by decide) ?_
                                                  refine lv_goto (tgt := 602) hx hb dL_hangs_598 (by decide) ?_
                                                  obtain rfl := Option.some.inj hm
                                                  exact hJ ls (lv_sub hl [0, 1, 2, 3, 4, 5, 6, 7, 8, 9, 10, 11, 12, 13] rfl)
                                              · replace hm := hzq110
                                                refine lv_if_ge (tgt := 583) hx hb dL_hangs_576 (by decide) (fun zc111 => ?_) (fun zc111 => ?_)
                                                · replace hm := (if_pos zc111).symm.trans hm
                                                  refine lv_iconst (v := 0) hx hb dL_hangs_583 (by decide) ?_
                                                  obtain rfl := Option.some.inj hm
                                                  exact hJ ls (lv_sub hl [0, 1, 2, 3, 4, 5, 6, 7, 8, 9, 10, 11, 12, 13] rfl)
                                                · replace hm := (if_neg zc111).symm.trans hm
                                                  refine lv_iconst (v := 1) hx hb dL_hangs_579 (by decide) ?_
                                                  refine lv_goto (tgt := 584) hx hb dL_hangs_580 (by decide) ?_
                                                  obtain rfl := Option.some.inj hm
                                                  exact hJ ls (lv_sub hl [0, 1, 2, 3, 4, 5, 6, 7, 8, 9, 10, 11, 12, 13] rfl)
                                            · replace hm := hzq107
                                              refine lv_icmp_eq (tgt := 569) hx hb dL_hangs_560 (by decide) (fun zc108 => ?_) (fun zc108 => ?_)
                                              · replace hm := (if_pos zc108).symm.trans hm
                                                refine lv_iconst (v := 1) hx hb dL_hangs_569 (by decide) ?_
                                                refine lv_goto (tgt := 574) hx hb dL_hangs_570 (by decide) ?_
                                                obtain rfl := Option.some.inj hm
                                                exact hJ ls (lv_sub hl [0, 1, 2, 3, 4, 5, 6, 7, 8, 9, 10, 11, 13, 14] rfl)
                                              · replace hm := (if_neg zc108).symm.trans hm
                                                refine lv_iload hx hb dL_hangs_563 (lv_at hl 13 rfl) ?_
                                                refine lv_iconst (v := 2) hx hb dL_hangs_565 (by decide) ?_
                                                refine lv_icmp_ne (tgt := 573) hx hb dL_hangs_566 (by decide) (fun zc109 => ?_) (fun zc109 => ?_)
                                                · replace hm := (if_neg zc109).symm.trans hm
                                                  refine lv_iconst (v := 0) hx hb dL_hangs_573 (by decide) ?_
                                                  obtain rfl := Option.some.inj hm
                                                  exact hJ ls (lv_sub hl [0, 1, 2, 3, 4, 5, 6, 7, 8, 9, 10, 11, 13, 14] rfl)
                                                · replace hm := (if_pos zc109).symm.trans hm
                                                  refine lv_iconst (v := 1) hx hb dL_hangs_569 (by decide) ?_
                                                  refine lv_goto (tgt := 574) hx hb dL_hangs_570 (by decide) ?_
                                                  obtain rfl := Option.some.inj hm
                                                  exact hJ ls (lv_sub hl [0, 1, 2, 3, 4, 5, 6, 7, 8, 9, 10, 11, 13, 14] rfl)
                                  · replace hm := hzq99
                                    refine lv_if_ne (tgt := 532) hx hb dL_hangs_525 (by decide) (fun zc100 => ?_) (fun zc100 => ?_)
                                    · replace hm := (if_neg zc100).symm.trans hm
                                      refine lv_iconst (v := 0) hx hb dL_hangs_532 (by decide) ?_
                                      obtain rfl := Option.some.inj hm
                                      exact hJ ls (lv_sub hl [0, 1, 2, 3, 4, 5, 6, 7, 8, 9, 10, 11, 12, 14, 15] rfl)
                                    · replace hm := (if_pos zc100).symm.trans hm
                                      refine lv_iconst (v := 1) hx hb dL_hangs_528 (by decide) ?_
                                      refine lv_goto (tgt := 533) hx hb dL_hangs_529 (by decide) ?_
                                      obtain rfl := Option.some.inj hm
                                      exact hJ ls (lv_sub hl [0, 1, 2, 3, 4, 5, 6, 7, 8, 9, 10, 11, 12, 14, 15] rfl)
                                · replace hm := hzq97
                                  refine lv_if_ne (tgt := 522) hx hb dL_hangs_515 (by decide) (fun zc98 => absurd zc90 zc98) (fun _ => ?_)
                                  refine lv_iconst (v := 1) hx hb dL_hangs_518 (by decide) ?_
                                  refine lv_goto (tgt := 523) hx hb dL_hangs_519 (by decide) ?_
                                  obtain rfl := Option.some.inj hm
                                  exact hJ ls (lv_sub hl [0, 1, 2, 3, 4, 5, 6, 7, 8, 9, 10, 11, 12, 13, 14, 15] rfl)
                · replace hm := hzq65
                  refine lv_icmp_ge (tgt := 427) hx hb dL_hangs_420 (by decide) (fun zc66 => ?_) (fun zc66 => ?_)
                  · replace hm := (if_pos zc66).symm.trans hm
                    refine lv_iconst (v := 0) hx hb dL_hangs_427 (by decide) ?_
                    obtain rfl := Option.some.inj hm
                    exact hJ ls (lv_sub hl [1, 2, 3, 4, 5, 6, 7, 0, 8, 9, 10, 11, 12, 13, 14, 15] rfl)
                  · replace hm := (if_neg zc66).symm.trans hm
                    refine lv_iconst (v := 1) hx hb dL_hangs_423 (by decide) ?_
                    refine lv_goto (tgt := 428) hx hb dL_hangs_424 (by decide) ?_
                    obtain rfl := Option.some.inj hm
                    exact hJ ls (lv_sub hl [1, 2, 3, 4, 5, 6, 7, 0, 8, 9, 10, 11, 12, 13, 14, 15] rfl)
              · replace hm := hzq61
                refine lv_if_lt (tgt := 411) hx hb dL_hangs_399 (by decide) (fun zc62 => ?_) (fun zc62 => ?_)
                · replace hm := (if_pos zc62).symm.trans hm
                  refine lv_iconst (v := 0) hx hb dL_hangs_411 (by decide) ?_
                  obtain rfl := Option.some.inj hm
                  exact hJ ls (lv_sub hl [2, 3, 4, 5, 6, 7, 0, 9, 10, 11, 12, 13, 14, 15, 1] rfl)
                · replace hm := (if_neg zc62).symm.trans hm
                  refine lv_iload hx hb dL_hangs_402 (lv_at hl 1 rfl) ?_
                  refine lv_if_ne (tgt := 411) hx hb dL_hangs_404 (by decide) (fun zc63 => ?_) (fun zc63 => ?_)
                  · replace hm := (if_neg zc63).symm.trans hm
                    refine lv_iconst (v := 0) hx hb dL_hangs_411 (by decide) ?_
                    obtain rfl := Option.some.inj hm
                    exact hJ ls (lv_sub hl [2, 3, 4, 5, 6, 7, 0, 9, 10, 11, 12, 13, 14, 15, 1] rfl)
                  · replace hm := (if_pos zc63).symm.trans hm
                    refine lv_iconst (v := 1) hx hb dL_hangs_407 (by decide) ?_
                    refine lv_goto (tgt := 412) hx hb dL_hangs_408 (by decide) ?_
                    obtain rfl := Option.some.inj hm
                    exact hJ ls (lv_sub hl [2, 3, 4, 5, 6, 7, 0, 9, 10, 11, 12, 13, 14, 15, 1] rfl)
            · replace hm := hzq58
              refine lv_icmp_ne (tgt := 385) hx hb dL_hangs_378 (by decide) (fun zc59 => ?_) (fun zc59 => ?_)
              · replace hm := (if_neg zc59).symm.trans hm
                refine lv_iconst (v := 0) hx hb dL_hangs_385 (by decide) ?_
                obtain rfl := Option.some.inj hm
                exact hJ ls (lv_sub hl [6, 7, 8, 9, 10, 11, 13, 14, 15, 5, 4, 3, 2, 1, 0] rfl)
              · replace hm := (if_pos zc59).symm.trans hm
                refine lv_iconst (v := 1) hx hb dL_hangs_381 (by decide) ?_
                refine lv_goto (tgt := 386) hx hb dL_hangs_382 (by decide) ?_
                obtain rfl := Option.some.inj hm
                exact hJ ls (lv_sub hl [6, 7, 8, 9, 10, 11, 13, 14, 15, 5, 4, 3, 2, 1, 0] rfl)
    obtain ⟨zq124, hzq124, hm⟩ := bdk hm
    refine hL1 _ 1000 zq32 0 0 0 zq124 _ hzq124 (lv_sub hl [4, 5, 6, 7, 8, 9, 3, 2, 1, 0] rfl) (fun ls hl => ?_)
    refine lv_iload hx hb dL_hangs_671 (lv_at hl 6 rfl) ?_
    obtain ⟨zq125, hzq125, hm⟩ := bdk hm
    refine jnR (n := 20) (lv := [(0, .ref h0), (1, .int zq1)]) (stk := [.int zq125]) (J := 701) (fun ls hl => ?_) (fun hJ => ?_)
    · skip
      refine lv_istore (lv' := [(9, .int zq125), (0, .ref h0), (1, .int zq1)]) hx hb dL_hangs_701 hl (by decide) rfl (fun ls hl => ?_)
      refine lv_iconst (v := 0) hx hb dL_hangs_703 (by decide) ?_
      refine lv_istore (lv' := [(12, .int 0), (9, .int zq125), (0, .ref h0), (1, .int zq1)]) hx hb dL_hangs_704 hl (by decide) rfl (fun ls hl => ?_)
      have hL2 : ∀ (Q : State → Prop), ∀ (n : Nat) (i2_9 : Int32) (i2_12 : Int32) (out : Int32) (ls : Array Slot), fL_hangs_L2 y xN zq1 n i2_9 i2_12 = some out → lv_has ls 20 [(0, .ref h0), (1, .int zq1), (9, .int i2_9), (12, .int i2_12)] → (∀ ls : Array Slot, lv_has ls 20 [(9, .int out)] → W p l e (headSpec (wg yL_hangs method_4_code 20 (some .boolean)) rm_L_hangs).room s m (([.ref h0] : List Value).toArray) below meth c s.heap [] 0 0 Q (F0 m 844 ls [])) → W p l e (headSpec (wg yL_hangs method_4_code 20 (some .boolean)) rm_L_hangs).room s m (([.ref h0] : List Value).toArray) below meth c s.heap [] 0 0 Q (F0 m 706 ls []) := by
        intro Q n
        induction n with
        | zero =>
          intro i2_9 i2_12 out ls hm hl hk
          simp [fL_hangs_L2] at hm
        | succ n ih =>
          intro i2_9 i2_12 out ls hm hl hk
          rw [fL_hangs_L2] at hm
          refine lv_iload hx hb dL_hangs_706 (lv_at hl 3 rfl) ?_
          refine lv_iconst (v := 3) hx hb dL_hangs_708 (by decide) ?_
          refine lv_icmp_ge (tgt := 844) hx hb dL_hangs_709 (by decide) (fun zc130 => ?_) (fun zc130 => ?_)
          · replace hm := (if_pos zc130).symm.trans hm
            obtain rfl := Option.some.inj hm
            exact hk ls (lv_sub hl [2] rfl)
          · replace hm := (if_neg zc130).symm.trans hm
            refine lv_iload hx hb dL_hangs_712 (lv_at hl 2 rfl) ?_
            refine lv_if_eq (tgt := 844) hx hb dL_hangs_714 (by decide) (fun zc131 => ?_) (fun zc131 => ?_)
            · replace hm := (if_pos zc131).symm.trans hm
              obtain rfl := Option.some.inj hm
              exact hk ls (lv_sub hl [2] rfl)
            · replace hm := (if_neg zc131).symm.trans hm
              refine lv_iconst (v := 1) hx hb dL_hangs_717 (by decide) ?_
              refine lv_bipush (v := 7) hx hb dL_hangs_718 (by decide +kernel) ?_
              refine lv_iload hx hb dL_hangs_720 (lv_at hl 3 rfl) ?_
              refine lv_imul hx hb dL_hangs_722 ?_
              refine lv_iadd hx hb dL_hangs_723 ?_
              obtain ⟨zv132, ezv132, hm⟩ := bnk hm
              refine tope ezv132 ?_
              refine lv_istore (lv' := [(13, .int zv132), (0, .ref h0), (1, .int zq1), (9, .int i2_9), (12, .int i2_12)]) hx hb dL_hangs_724 hl (by decide) rfl (fun ls hl => ?_)
              refine lv_bipush (v := (-5)) hx hb dL_hangs_726 (by decide +kernel) ?_
              refine lv_istore (lv' := [(14, .int (-5)), (13, .int zv132), (0, .ref h0), (1, .int zq1), (9, .int i2_9), (12, .int i2_12)]) hx hb dL_hangs_728 hl (by decide) rfl (fun ls hl => ?_)
              refine lv_bipush (v := 15) hx hb dL_hangs_730 (by decide +kernel) ?_
              refine lv_istore (lv' := [(15, .int 15), (14, .int (-5)), (13, .int zv132), (0, .ref h0), (1, .int zq1), (9, .int i2_9), (12, .int i2_12)]) hx hb dL_hangs_732 hl (by decide) rfl (fun ls hl => ?_)
              have hL3 : ∀ (Q : State → Prop), ∀ (n : Nat) (i3_14 : Int32) (i3_15 : Int32) (out : Int32) (ls : Array Slot), fL_hangs_L3 y xN zq1 i2_12 zv132 n i3_14 i3_15 = some out → lv_has ls 20 [(0, .ref h0), (1, .int zq1), (12, .int i2_12), (13, .int zv132), (14, .int i3_14), (15, .int i3_15)] → (∀ ls : Array Slot, lv_has ls 20 [(0, .ref h0), (1, .int zq1), (12, .int i2_12), (13, .int zv132), (14, .int out)] → W p l e (headSpec (wg yL_hangs method_4_code 20 (some .boolean)) rm_L_hangs).room s m (([.ref h0] : List Value).toArray) below meth c s.heap [] 0 0 Q (F0 m 818 ls [])) → W p l e (headSpec (wg yL_hangs method_4_code 20 (some .boolean)) rm_L_hangs).room s m (([.ref h0] : List Value).toArray) below meth c s.heap [] 0 0 Q (F0 m 734 ls []) := by
                intro Q n
                induction n with
                | zero =>
                  intro i3_14 i3_15 out ls hm hl hk
                  simp [fL_hangs_L3] at hm
                | succ n ih =>
                  intro i3_14 i3_15 out ls hm hl hk
                  rw [fL_hangs_L3] at hm
                  refine lv_iload hx hb dL_hangs_734 (lv_at hl 5 rfl) ?_
                  refine lv_iload_n hx hb dL_hangs_736 rfl (lv_at hl 1 rfl) ?_
                  refine lv_icmp_lt (tgt := 818) hx hb dL_hangs_737 (by decide) (fun zc133 => ?_) (fun zc133 => ?_)
                  · replace hm := (if_pos zc133).symm.trans hm
                    obtain rfl := Option.some.inj hm
                    exact hk ls (lv_sub hl [0, 1, 2, 3, 4] rfl)
                  · replace hm := (if_neg zc133).symm.trans hm
                    refine lv_aload_n hx hb dL_hangs_740 rfl (lv_at hl 0 rfl) ?_
                    refine lv_iload hx hb dL_hangs_741 (lv_at hl 2 rfl) ?_
                    refine lv_iload hx hb dL_hangs_743 (lv_at hl 5 rfl) ?_
                    refine lv_iconst (v := 0) hx hb dL_hangs_745 (by decide) ?_
                    obtain ⟨zq134, hzq134, hm⟩ := bdk hm
                    have hPc := va_cutP hP (blkQ (bs := [w_hh g h0 jH jP aN aB aS y, w_X6 g aN xN, w_hd g jH jA u.1 (u.2.1.1 0) (u.2.2.1.1 0) (u.2.2.2.1.1 0) (u.2.2.2.2.1 0), w_X6 g u.2.1.1 u.2.1.2, w_X6 g u.2.2.1.1 u.2.2.1.2, w_X6 g u.2.2.2.1.1 u.2.2.2.1.2, w_X6 g u.2.2.2.2.1 u.2.2.2.2.2, w_X3 g jP jT w]) (cs := [w_hh g h0 jH jP aN aB aS y, w_X6 g aN xN]) (rs := [w_hd g jH jA u.1 (u.2.1.1 0) (u.2.2.1.1 0) (u.2.2.2.1.1 0) (u.2.2.2.2.1 0), w_X6 g u.2.1.1 u.2.1.2, w_X6 g u.2.2.1.1 u.2.2.1.2, w_X6 g u.2.2.2.1.1 u.2.2.2.1.2, w_X6 g u.2.2.2.2.1 u.2.2.2.2.2, w_X3 g jP jT w]) [0, 1, 2, 3, 4, 5, 6, 7] 8 rfl (by decide) rfl (wc := [w_hh g h0 jH jP aN aB aS y, w_X6 g aN xN].flatten) rfl)
                    refine ko_e (va_runV (As := [.int i2_12, .int i3_15, .int 0]) (rest := []) ⟨hx, hb, hml, hown, htG⟩ (kX8_slot l g h0 jH jA jP jT aN aB aS y xN i2_12 i3_15 0 _ hzq134) (cwV 3 htG (GV g3_107 g3_108 g3_109 g1_1 g3_110) rfl rfl rfl hd_X8_slot ⟨Nat.le_of_ble_eq_true rfl, Nat.le_of_ble_eq_true rfl⟩) (PR_VA hK hL hS hPc (ci := 7) rfl 0 rfl) rfl rfl hl.1 rfl (lv_room (Nat.le_of_ble_eq_true rfl)) dL_hangs_746 ⟨Nat.zero_le _, Nat.zero_le _⟩) ?_
                    obtain ⟨zq135, hzq135, hm⟩ := bdk hm
                    refine jnR (n := 20) (lv := [(0, .ref h0), (1, .int zq1), (12, .int i2_12), (13, .int zv132), (14, .int i3_14), (15, .int i3_15)]) (stk := [.int zq135]) (J := 770) (fun ls hl => ?_) (fun hJ => ?_)
                    · skip
                      refine lv_istore (lv' := [(16, .int zq135), (0, .ref h0), (1, .int zq1), (12, .int i2_12), (13, .int zv132), (14, .int i3_14), (15, .int i3_15)]) hx hb dL_hangs_770 hl (by decide) rfl (fun ls hl => ?_)
                      refine lv_iload hx hb dL_hangs_772 (lv_at hl 0 rfl) ?_
                      obtain ⟨zq139, hzq139, hm⟩ := bdk hm
                      refine jnR (n := 20) (lv := [(0, .ref h0), (1, .int zq1), (12, .int i2_12), (13, .int zv132), (15, .int i3_15)]) (stk := [.int zq139]) (J := 810) (fun ls hl => ?_) (fun hJ => ?_)
                      · skip
                        refine lv_istore (lv' := [(14, .int zq139), (0, .ref h0), (1, .int zq1), (12, .int i2_12), (13, .int zv132), (15, .int i3_15)]) hx hb dL_hangs_810 hl (by decide) rfl (fun ls hl => ?_)
                        refine lv_iinc (v := i3_15 + (-1)) (lv' := [(15, .int (i3_15 + (-1))), (14, .int zq139), (0, .ref h0), (1, .int zq1), (12, .int i2_12), (13, .int zv132)]) hx hb dL_hangs_812 hl (k := 5) rfl rfl (by decide) rfl (fun ls hl => ?_)
                        refine lv_goto (tgt := 734) hx hb dL_hangs_815 (by decide) ?_
                        exact ih zq139 (i3_15 + (-1)) out ls hm (lv_sub hl [2, 3, 4, 5, 1, 0] rfl) hk
                      · replace hm := hzq139
                        refine lv_if_eq (tgt := 808) hx hb dL_hangs_774 (by decide) (fun zc140 => ?_) (fun zc140 => ?_)
                        · replace hm := (if_pos zc140).symm.trans hm
                          refine lv_iload hx hb dL_hangs_808 (lv_at hl 5 rfl) ?_
                          obtain rfl := Option.some.inj hm
                          exact hJ ls (lv_sub hl [1, 2, 3, 4, 6] rfl)
                        · replace hm := (if_neg zc140).symm.trans hm
                          refine lv_iload hx hb dL_hangs_777 (lv_at hl 5 rfl) ?_
                          refine lv_if_lt (tgt := 803) hx hb dL_hangs_779 (by decide) (fun zc141 => ?_) (fun zc141 => ?_)
                          · replace hm := (if_pos zc141).symm.trans hm
                            refine lv_iload hx hb dL_hangs_803 (lv_at hl 6 rfl) ?_
                            refine lv_goto (tgt := 810) hx hb dL_hangs_805 (by decide) ?_
                            obtain rfl := Option.some.inj hm
                            exact hJ ls (lv_sub hl [1, 2, 3, 4, 6] rfl)
                          · replace hm := (if_neg zc141).symm.trans hm
                            refine lv_aload_n hx hb dL_hangs_782 rfl (lv_at hl 1 rfl) ?_
                            refine lv_iload hx hb dL_hangs_783 (lv_at hl 3 rfl) ?_
                            refine lv_iload hx hb dL_hangs_785 (lv_at hl 6 rfl) ?_
                            refine lv_iconst (v := 4) hx hb dL_hangs_787 (by decide) ?_
                            obtain ⟨zq142, hzq142, hm⟩ := bdk hm
                            have hPc := va_cutP hP (blkQ (bs := [w_hh g h0 jH jP aN aB aS y, w_X6 g aN xN, w_hd g jH jA u.1 (u.2.1.1 0) (u.2.2.1.1 0) (u.2.2.2.1.1 0) (u.2.2.2.2.1 0), w_X6 g u.2.1.1 u.2.1.2, w_X6 g u.2.2.1.1 u.2.2.1.2, w_X6 g u.2.2.2.1.1 u.2.2.2.1.2, w_X6 g u.2.2.2.2.1 u.2.2.2.2.2, w_X3 g jP jT w]) (cs := [w_hh g h0 jH jP aN aB aS y, w_X6 g aN xN]) (rs := [w_hd g jH jA u.1 (u.2.1.1 0) (u.2.2.1.1 0) (u.2.2.2.1.1 0) (u.2.2.2.2.1 0), w_X6 g u.2.1.1 u.2.1.2, w_X6 g u.2.2.1.1 u.2.2.1.2, w_X6 g u.2.2.2.1.1 u.2.2.2.1.2, w_X6 g u.2.2.2.2.1 u.2.2.2.2.2, w_X3 g jP jT w]) [0, 1, 2, 3, 4, 5, 6, 7] 8 rfl (by decide) rfl (wc := [w_hh g h0 jH jP aN aB aS y, w_X6 g aN xN].flatten) rfl)
                            refine ko_e (va_runV (As := [.int i2_12, .int i3_15, .int 4]) (rest := []) ⟨hx, hb, hml, hown, htG⟩ (kX8_slot l g h0 jH jA jP jT aN aB aS y xN i2_12 i3_15 4 _ hzq142) (cwV 3 htG (GV g3_107 g3_108 g3_109 g1_1 g3_110) rfl rfl rfl hd_X8_slot ⟨Nat.le_of_ble_eq_true rfl, Nat.le_of_ble_eq_true rfl⟩) (PR_VA hK hL hS hPc (ci := 7) rfl 0 rfl) rfl rfl hl.1 rfl (lv_room (Nat.le_of_ble_eq_true rfl)) dL_hangs_788 ⟨Nat.zero_le _, Nat.zero_le _⟩) ?_
                            refine lv_aload_n hx hb dL_hangs_791 rfl (lv_at hl 1 rfl) ?_
                            refine lv_iload hx hb dL_hangs_792 (lv_at hl 3 rfl) ?_
                            refine lv_iload hx hb dL_hangs_794 (lv_at hl 5 rfl) ?_
                            refine lv_iconst (v := 4) hx hb dL_hangs_796 (by decide) ?_
                            obtain ⟨zq143, hzq143, hm⟩ := bdk hm
                            have hPc := va_cutP hP (blkQ (bs := [w_hh g h0 jH jP aN aB aS y, w_X6 g aN xN, w_hd g jH jA u.1 (u.2.1.1 0) (u.2.2.1.1 0) (u.2.2.2.1.1 0) (u.2.2.2.2.1 0), w_X6 g u.2.1.1 u.2.1.2, w_X6 g u.2.2.1.1 u.2.2.1.2, w_X6 g u.2.2.2.1.1 u.2.2.2.1.2, w_X6 g u.2.2.2.2.1 u.2.2.2.2.2, w_X3 g jP jT w]) (cs := [w_hh g h0 jH jP aN aB aS y, w_X6 g aN xN]) (rs := [w_hd g jH jA u.1 (u.2.1.1 0) (u.2.2.1.1 0) (u.2.2.2.1.1 0) (u.2.2.2.2.1 0), w_X6 g u.2.1.1 u.2.1.2, w_X6 g u.2.2.1.1 u.2.2.1.2, w_X6 g u.2.2.2.1.1 u.2.2.2.1.2, w_X6 g u.2.2.2.2.1 u.2.2.2.2.2, w_X3 g jP jT w]) [0, 1, 2, 3, 4, 5, 6, 7] 8 rfl (by decide) rfl (wc := [w_hh g h0 jH jP aN aB aS y, w_X6 g aN xN].flatten) rfl)
                            refine ko_e (va_runV (As := [.int i2_12, .int i3_14, .int 4]) (rest := [.int zq142]) ⟨hx, hb, hml, hown, htG⟩ (kX8_slot l g h0 jH jA jP jT aN aB aS y xN i2_12 i3_14 4 _ hzq143) (cwV 3 htG (GV g3_107 g3_108 g3_109 g1_1 g3_110) rfl rfl rfl hd_X8_slot ⟨Nat.le_of_ble_eq_true rfl, Nat.le_of_ble_eq_true rfl⟩) (PR_VA hK hL hS hPc (ci := 7) rfl 0 rfl) rfl rfl hl.1 rfl (lv_room (Nat.le_of_ble_eq_true rfl)) dL_hangs_797 ⟨Nat.zero_le _, Nat.zero_le _⟩) ?_
                            refine lv_icmp_gt (tgt := 808) hx hb dL_hangs_800 (by decide) (fun zc144 => ?_) (fun zc144 => ?_)
                            · replace hm := (if_pos zc144).symm.trans hm
                              refine lv_iload hx hb dL_hangs_808 (lv_at hl 5 rfl) ?_
                              obtain rfl := Option.some.inj hm
                              exact hJ ls (lv_sub hl [1, 2, 3, 4, 6] rfl)
                            · replace hm := (if_neg zc144).symm.trans hm
                              refine lv_iload hx hb dL_hangs_803 (lv_at hl 6 rfl) ?_
                              refine lv_goto (tgt := 810) hx hb dL_hangs_805 (by decide) ?_
                              obtain rfl := Option.some.inj hm
                              exact hJ ls (lv_sub hl [1, 2, 3, 4, 6] rfl)
                    · replace hm := hzq135
                      refine lv_if_ge (tgt := 769) hx hb dL_hangs_749 (by decide) (fun zc136 => ?_) (fun zc136 => ?_)
                      · replace hm := (if_pos zc136).symm.trans hm
                        refine lv_iconst (v := 0) hx hb dL_hangs_769 (by decide) ?_
                        obtain rfl := Option.some.inj hm
                        exact hJ ls (lv_sub hl [0, 1, 2, 3, 4, 5] rfl)
                      · replace hm := (if_neg zc136).symm.trans hm
                        refine lv_aload_n hx hb dL_hangs_752 rfl (lv_at hl 0 rfl) ?_
                        refine lv_iload hx hb dL_hangs_753 (lv_at hl 2 rfl) ?_
                        refine lv_iload hx hb dL_hangs_755 (lv_at hl 5 rfl) ?_
                        obtain ⟨zq137, hzq137, hm⟩ := bnk hm
                        have hPc := va_cutP hP (blkQ (bs := [w_hh g h0 jH jP aN aB aS y, w_X6 g aN xN, w_hd g jH jA u.1 (u.2.1.1 0) (u.2.2.1.1 0) (u.2.2.2.1.1 0) (u.2.2.2.2.1 0), w_X6 g u.2.1.1 u.2.1.2, w_X6 g u.2.2.1.1 u.2.2.1.2, w_X6 g u.2.2.2.1.1 u.2.2.2.1.2, w_X6 g u.2.2.2.2.1 u.2.2.2.2.2, w_X3 g jP jT w]) (cs := [w_hh g h0 jH jP aN aB aS y, w_X6 g aN xN]) (rs := [w_hd g jH jA u.1 (u.2.1.1 0) (u.2.2.1.1 0) (u.2.2.2.1.1 0) (u.2.2.2.2.1 0), w_X6 g u.2.1.1 u.2.1.2, w_X6 g u.2.2.1.1 u.2.2.1.2, w_X6 g u.2.2.2.1.1 u.2.2.2.1.2, w_X6 g u.2.2.2.2.1 u.2.2.2.2.2, w_X3 g jP jT w]) [0, 1, 2, 3, 4, 5, 6, 7] 8 rfl (by decide) rfl (wc := [w_hh g h0 jH jP aN aB aS y, w_X6 g aN xN].flatten) rfl)
                        refine ko_e (va_runV (As := [.int i2_12, .int i3_15]) (rest := []) ⟨hx, hb, hml, hown, htG⟩ (kX8_heaviest l g h0 jH jA jP jT aN aB aS y xN i2_12 i3_15 _ hzq137) (cwV 2 htG (GV g3_126 g3_127 g3_128 g1_1 g3_129) rfl rfl rfl hd_X8_heaviest ⟨Nat.le_of_ble_eq_true rfl, Nat.le_of_ble_eq_true rfl⟩) (PR_VA hK hL hS hPc (ci := 7) rfl 0 rfl) rfl rfl hl.1 rfl (lv_room (Nat.le_of_ble_eq_true rfl)) dL_hangs_757 ⟨Nat.zero_le _, Nat.zero_le _⟩) ?_
                        refine lv_iload hx hb dL_hangs_760 (lv_at hl 3 rfl) ?_
                        refine lv_icmp_lt (tgt := 769) hx hb dL_hangs_762 (by decide) (fun zc138 => ?_) (fun zc138 => ?_)
                        · replace hm := (if_pos zc138).symm.trans hm
                          refine lv_iconst (v := 0) hx hb dL_hangs_769 (by decide) ?_
                          obtain rfl := Option.some.inj hm
                          exact hJ ls (lv_sub hl [0, 1, 2, 3, 4, 5] rfl)
                        · replace hm := (if_neg zc138).symm.trans hm
                          refine lv_iconst (v := 1) hx hb dL_hangs_765 (by decide) ?_
                          refine lv_goto (tgt := 770) hx hb dL_hangs_766 (by decide) ?_
                          obtain rfl := Option.some.inj hm
                          exact hJ ls (lv_sub hl [0, 1, 2, 3, 4, 5] rfl)
              obtain ⟨zq145, hzq145, hm⟩ := bdk hm
              refine hL3 _ 1000 (-5) 15 zq145 _ hzq145 (lv_sub hl [3, 4, 6, 2, 1, 0] rfl) (fun ls hl => ?_)
              refine lv_aload_n hx hb dL_hangs_818 rfl (lv_at hl 0 rfl) ?_
              refine lv_iload hx hb dL_hangs_819 (lv_at hl 2 rfl) ?_
              refine lv_iload hx hb dL_hangs_821 (lv_at hl 3 rfl) ?_
              obtain ⟨zq146, hzq146, hm⟩ := bdk hm
              have hPc := va_cutP hP (blkQ (bs := [w_hh g h0 jH jP aN aB aS y, w_X6 g aN xN, w_hd g jH jA u.1 (u.2.1.1 0) (u.2.2.1.1 0) (u.2.2.2.1.1 0) (u.2.2.2.2.1 0), w_X6 g u.2.1.1 u.2.1.2, w_X6 g u.2.2.1.1 u.2.2.1.2, w_X6 g u.2.2.2.1.1 u.2.2.2.1.2, w_X6 g u.2.2.2.2.1 u.2.2.2.2.2, w_X3 g jP jT w]) (cs := [w_hh g h0 jH jP aN aB aS y, w_X6 g aN xN]) (rs := [w_hd g jH jA u.1 (u.2.1.1 0) (u.2.2.1.1 0) (u.2.2.2.1.1 0) (u.2.2.2.2.1 0), w_X6 g u.2.1.1 u.2.1.2, w_X6 g u.2.2.1.1 u.2.2.1.2, w_X6 g u.2.2.2.1.1 u.2.2.2.1.2, w_X6 g u.2.2.2.2.1 u.2.2.2.2.2, w_X3 g jP jT w]) [0, 1, 2, 3, 4, 5, 6, 7] 8 rfl (by decide) rfl (wc := [w_hh g h0 jH jP aN aB aS y, w_X6 g aN xN].flatten) rfl)
              refine ko_e (va_runV (As := [.int i2_12, .int zv132]) (rest := []) ⟨hx, hb, hml, hown, htG⟩ (kX8_cheapest l g h0 jH jA jP jT aN aB aS y xN i2_12 zv132 _ hzq146) (cwV 2 htG (GV g3_135 g3_136 g3_137 g1_1 g3_138) rfl rfl rfl hd_X8_cheapest ⟨Nat.le_of_ble_eq_true rfl, Nat.le_of_ble_eq_true rfl⟩) (PR_VA hK hL hS hPc (ci := 7) rfl 0 rfl) rfl rfl hl.1 rfl (lv_room (Nat.le_of_ble_eq_true rfl)) dL_hangs_823 ⟨Nat.zero_le _, Nat.zero_le _⟩) ?_
              refine lv_iload hx hb dL_hangs_826 (lv_at hl 4 rfl) ?_
              obtain ⟨zq147, hzq147, hm⟩ := bdk hm
              refine jnR (n := 20) (lv := [(0, .ref h0), (1, .int zq1), (12, .int i2_12)]) (stk := [.int zq147]) (J := 836) (fun ls hl => ?_) (fun hJ => ?_)
              · skip
                refine lv_istore (lv' := [(9, .int zq147), (0, .ref h0), (1, .int zq1), (12, .int i2_12)]) hx hb dL_hangs_836 hl (by decide) rfl (fun ls hl => ?_)
                refine lv_iinc (v := i2_12 + 1) (lv' := [(12, .int (i2_12 + 1)), (9, .int zq147), (0, .ref h0), (1, .int zq1)]) hx hb dL_hangs_838 hl (k := 3) rfl rfl (by decide) rfl (fun ls hl => ?_)
                refine lv_goto (tgt := 706) hx hb dL_hangs_841 (by decide) ?_
                exact ih zq147 (i2_12 + 1) out ls hm (lv_sub hl [2, 3, 1, 0] rfl) hk
              · replace hm := hzq147
                refine lv_icmp_ne (tgt := 835) hx hb dL_hangs_828 (by decide) (fun zc148 => ?_) (fun zc148 => ?_)
                · replace hm := (if_neg zc148).symm.trans hm
                  refine lv_iconst (v := 0) hx hb dL_hangs_835 (by decide) ?_
                  obtain rfl := Option.some.inj hm
                  exact hJ ls (lv_sub hl [0, 1, 2] rfl)
                · replace hm := (if_pos zc148).symm.trans hm
                  refine lv_iconst (v := 1) hx hb dL_hangs_831 (by decide) ?_
                  refine lv_goto (tgt := 836) hx hb dL_hangs_832 (by decide) ?_
                  obtain rfl := Option.some.inj hm
                  exact hJ ls (lv_sub hl [0, 1, 2] rfl)
      obtain ⟨zq149, hzq149, hm⟩ := bdk hm
      refine hL2 _ 1000 zq125 0 zq149 _ hzq149 (lv_sub hl [2, 3, 1, 0] rfl) (fun ls hl => ?_)
      refine lv_iload hx hb dL_hangs_844 (lv_at hl 0 rfl) ?_
      obtain ⟨hz, hm⟩ := zbk hm
      exact W.zret (v := zq149) (ty := .boolean) hx hb hr (nar_b hz) (fun t ht hW => ⟨_, rfl, hm, ht⟩) (fun _ h => nomatch h) dL_hangs_846
    · replace hm := hzq125
      refine lv_if_eq (tgt := 700) hx hb dL_hangs_673 (by decide) (fun zc126 => ?_) (fun zc126 => ?_)
      · replace hm := (if_pos zc126).symm.trans hm
        refine lv_iconst (v := 0) hx hb dL_hangs_700 (by decide) ?_
        obtain rfl := Option.some.inj hm
        exact hJ ls (lv_sub hl [0, 1] rfl)
      · replace hm := (if_neg zc126).symm.trans hm
        refine lv_iload hx hb dL_hangs_676 (lv_at hl 7 rfl) ?_
        refine lv_iload hx hb dL_hangs_678 (lv_at hl 4 rfl) ?_
        refine lv_icmp_ne (tgt := 700) hx hb dL_hangs_680 (by decide) (fun zc127 => ?_) (fun zc127 => ?_)
        · replace hm := (if_neg zc127).symm.trans hm
          refine lv_iconst (v := 0) hx hb dL_hangs_700 (by decide) ?_
          obtain rfl := Option.some.inj hm
          exact hJ ls (lv_sub hl [0, 1] rfl)
        · replace hm := (if_pos zc127).symm.trans hm
          refine lv_iload hx hb dL_hangs_683 (lv_at hl 8 rfl) ?_
          refine lv_iload hx hb dL_hangs_685 (lv_at hl 5 rfl) ?_
          refine lv_icmp_ne (tgt := 700) hx hb dL_hangs_687 (by decide) (fun zc128 => ?_) (fun zc128 => ?_)
          · replace hm := (if_neg zc128).symm.trans hm
            refine lv_iconst (v := 0) hx hb dL_hangs_700 (by decide) ?_
            obtain rfl := Option.some.inj hm
            exact hJ ls (lv_sub hl [0, 1] rfl)
          · replace hm := (if_pos zc128).symm.trans hm
            refine lv_iload hx hb dL_hangs_690 (lv_at hl 3 rfl) ?_
            refine lv_iload_n hx hb dL_hangs_692 rfl (lv_at hl 2 rfl) ?_
            refine lv_icmp_gt (tgt := 700) hx hb dL_hangs_693 (by decide) (fun zc129 => ?_) (fun zc129 => ?_)
            · replace hm := (if_pos zc129).symm.trans hm
              refine lv_iconst (v := 0) hx hb dL_hangs_700 (by decide) ?_
              obtain rfl := Option.some.inj hm
              exact hJ ls (lv_sub hl [0, 1] rfl)
            · replace hm := (if_neg zc129).symm.trans hm
              refine lv_iconst (v := 1) hx hb dL_hangs_696 (by decide) ?_
              refine lv_goto (tgt := 701) hx hb dL_hangs_697 (by decide) ?_
              obtain rfl := Option.some.inj hm
              exact hJ ls (lv_sub hl [0, 1] rfl)
  · replace hm := hzq32
    refine lv_if_eq (tgt := 285) hx hb dL_hangs_199 (by decide) (fun zc33 => ?_) (fun zc33 => ?_)
    · replace hm := (if_pos zc33).symm.trans hm
      refine lv_iconst (v := 0) hx hb dL_hangs_285 (by decide) ?_
      obtain rfl := Option.some.inj hm
      exact hJ ls (lv_sub hl [0, 1, 2, 6, 7, 8] rfl)
    · replace hm := (if_neg zc33).symm.trans hm
      refine lv_iload_n hx hb dL_hangs_202 rfl (lv_at hl 2 rfl) ?_
      refine lv_aload_n hx hb dL_hangs_203 rfl (lv_at hl 0 rfl) ?_
      refine lv_bipush (v := 10) hx hb dL_hangs_204 (by decide +kernel) ?_
      obtain ⟨zq34, hzq34, hm⟩ := bdk hm
      have hPc := va_cutP hP (blkQ (bs := [w_hh g h0 jH jP aN aB aS y, w_X6 g aN xN, w_hd g jH jA u.1 (u.2.1.1 0) (u.2.2.1.1 0) (u.2.2.2.1.1 0) (u.2.2.2.2.1 0), w_X6 g u.2.1.1 u.2.1.2, w_X6 g u.2.2.1.1 u.2.2.1.2, w_X6 g u.2.2.2.1.1 u.2.2.2.1.2, w_X6 g u.2.2.2.2.1 u.2.2.2.2.2, w_X3 g jP jT w]) (cs := [w_hh g h0 jH jP aN aB aS y, w_X6 g aN xN, w_hd g jH jA u.1 (u.2.1.1 0) (u.2.2.1.1 0) (u.2.2.2.1.1 0) (u.2.2.2.2.1 0), w_X6 g u.2.1.1 u.2.1.2, w_X6 g u.2.2.1.1 u.2.2.1.2, w_X6 g u.2.2.2.1.1 u.2.2.2.1.2, w_X6 g u.2.2.2.2.1 u.2.2.2.2.2, w_X3 g jP jT w]) (rs := []) [0, 1, 2, 3, 4, 5, 6, 7] 8 rfl (by decide) rfl (wc := [w_hh g h0 jH jP aN aB aS y, w_X6 g aN xN, w_hd g jH jA u.1 (u.2.1.1 0) (u.2.2.1.1 0) (u.2.2.2.1.1 0) (u.2.2.2.2.1 0), w_X6 g u.2.1.1 u.2.1.2, w_X6 g u.2.2.1.1 u.2.2.1.2, w_X6 g u.2.2.2.1.1 u.2.2.2.1.2, w_X6 g u.2.2.2.2.1 u.2.2.2.2.2, w_X3 g jP jT w].flatten) rfl)
      refine ko_e (va_runV (As := [.int 10]) (rest := [.int zq31.1]) ⟨hx, hb, hml, hown, htG⟩ (kX8_count l g h0 jH jA jP jT aN aB aS y xN u w 10 _ hzq34) (cwV 1 htG (GV g3_144 g3_145 g3_146 g1_1 g3_147) rfl rfl rfl hd_X8_count ⟨Nat.le_of_ble_eq_true rfl, Nat.le_of_ble_eq_true rfl⟩) (PR_VA hK hL hS hPc (ci := 7) rfl 0 rfl) rfl rfl hl.1 rfl (lv_room (Nat.le_of_ble_eq_true rfl)) dL_hangs_206 ⟨Nat.zero_le _, Nat.zero_le _⟩) ?_
      refine lv_icmp_ne (tgt := 285) hx hb dL_hangs_209 (by decide) (fun zc35 => ?_) (fun zc35 => ?_)
      · replace hm := (if_neg zc35).symm.trans hm
        refine lv_iconst (v := 0) hx hb dL_hangs_285 (by decide) ?_
        obtain rfl := Option.some.inj hm
        exact hJ ls (lv_sub hl [0, 1, 2, 6, 7, 8] rfl)
      · replace hm := (if_pos zc35).symm.trans hm
        refine lv_iload_n hx hb dL_hangs_212 rfl (lv_at hl 2 rfl) ?_
        refine lv_aload_n hx hb dL_hangs_213 rfl (lv_at hl 0 rfl) ?_
        refine lv_bipush (v := 8) hx hb dL_hangs_214 (by decide +kernel) ?_
        obtain ⟨zq36, hzq36, hm⟩ := bdk hm
        have hPc := va_cutP hP (blkQ (bs := [w_hh g h0 jH jP aN aB aS y, w_X6 g aN xN, w_hd g jH jA u.1 (u.2.1.1 0) (u.2.2.1.1 0) (u.2.2.2.1.1 0) (u.2.2.2.2.1 0), w_X6 g u.2.1.1 u.2.1.2, w_X6 g u.2.2.1.1 u.2.2.1.2, w_X6 g u.2.2.2.1.1 u.2.2.2.1.2, w_X6 g u.2.2.2.2.1 u.2.2.2.2.2, w_X3 g jP jT w]) (cs := [w_hh g h0 jH jP aN aB aS y, w_X6 g aN xN, w_hd g jH jA u.1 (u.2.1.1 0) (u.2.2.1.1 0) (u.2.2.2.1.1 0) (u.2.2.2.2.1 0), w_X6 g u.2.1.1 u.2.1.2, w_X6 g u.2.2.1.1 u.2.2.1.2, w_X6 g u.2.2.2.1.1 u.2.2.2.1.2, w_X6 g u.2.2.2.2.1 u.2.2.2.2.2, w_X3 g jP jT w]) (rs := []) [0, 1, 2, 3, 4, 5, 6, 7] 8 rfl (by decide) rfl (wc := [w_hh g h0 jH jP aN aB aS y, w_X6 g aN xN, w_hd g jH jA u.1 (u.2.1.1 0) (u.2.2.1.1 0) (u.2.2.2.1.1 0) (u.2.2.2.2.1 0), w_X6 g u.2.1.1 u.2.1.2, w_X6 g u.2.2.1.1 u.2.2.1.2, w_X6 g u.2.2.2.1.1 u.2.2.2.1.2, w_X6 g u.2.2.2.2.1 u.2.2.2.2.2, w_X3 g jP jT w].flatten) rfl)
        refine ko_e (va_runV (As := [.int 8]) (rest := [.int zq31.1]) ⟨hx, hb, hml, hown, htG⟩ (kX8_count l g h0 jH jA jP jT aN aB aS y xN u w 8 _ hzq36) (cwV 1 htG (GV g3_144 g3_145 g3_146 g1_1 g3_147) rfl rfl rfl hd_X8_count ⟨Nat.le_of_ble_eq_true rfl, Nat.le_of_ble_eq_true rfl⟩) (PR_VA hK hL hS hPc (ci := 7) rfl 0 rfl) rfl rfl hl.1 rfl (lv_room (Nat.le_of_ble_eq_true rfl)) dL_hangs_216 ⟨Nat.zero_le _, Nat.zero_le _⟩) ?_
        refine lv_iadd hx hb dL_hangs_219 ?_
        refine lv_aload_n hx hb dL_hangs_220 rfl (lv_at hl 0 rfl) ?_
        refine lv_bipush (v := 11) hx hb dL_hangs_221 (by decide +kernel) ?_
        obtain ⟨zq37, hzq37, hm⟩ := bdk hm
        have hPc := va_cutP hP (blkQ (bs := [w_hh g h0 jH jP aN aB aS y, w_X6 g aN xN, w_hd g jH jA u.1 (u.2.1.1 0) (u.2.2.1.1 0) (u.2.2.2.1.1 0) (u.2.2.2.2.1 0), w_X6 g u.2.1.1 u.2.1.2, w_X6 g u.2.2.1.1 u.2.2.1.2, w_X6 g u.2.2.2.1.1 u.2.2.2.1.2, w_X6 g u.2.2.2.2.1 u.2.2.2.2.2, w_X3 g jP jT w]) (cs := [w_hh g h0 jH jP aN aB aS y, w_X6 g aN xN, w_hd g jH jA u.1 (u.2.1.1 0) (u.2.2.1.1 0) (u.2.2.2.1.1 0) (u.2.2.2.2.1 0), w_X6 g u.2.1.1 u.2.1.2, w_X6 g u.2.2.1.1 u.2.2.1.2, w_X6 g u.2.2.2.1.1 u.2.2.2.1.2, w_X6 g u.2.2.2.2.1 u.2.2.2.2.2, w_X3 g jP jT w]) (rs := []) [0, 1, 2, 3, 4, 5, 6, 7] 8 rfl (by decide) rfl (wc := [w_hh g h0 jH jP aN aB aS y, w_X6 g aN xN, w_hd g jH jA u.1 (u.2.1.1 0) (u.2.2.1.1 0) (u.2.2.2.1.1 0) (u.2.2.2.2.1 0), w_X6 g u.2.1.1 u.2.1.2, w_X6 g u.2.2.1.1 u.2.2.1.2, w_X6 g u.2.2.2.1.1 u.2.2.2.1.2, w_X6 g u.2.2.2.2.1 u.2.2.2.2.2, w_X3 g jP jT w].flatten) rfl)
        refine ko_e (va_runV (As := [.int 11]) (rest := [.int (zq31.1 + zq36)]) ⟨hx, hb, hml, hown, htG⟩ (kX8_count l g h0 jH jA jP jT aN aB aS y xN u w 11 _ hzq37) (cwV 1 htG (GV g3_144 g3_145 g3_146 g1_1 g3_147) rfl rfl rfl hd_X8_count ⟨Nat.le_of_ble_eq_true rfl, Nat.le_of_ble_eq_true rfl⟩) (PR_VA hK hL hS hPc (ci := 7) rfl 0 rfl) rfl rfl hl.1 rfl (lv_room (Nat.le_of_ble_eq_true rfl)) dL_hangs_223 ⟨Nat.zero_le _, Nat.zero_le _⟩) ?_
        refine lv_icmp_ne (tgt := 285) hx hb dL_hangs_226 (by decide) (fun zc38 => ?_) (fun zc38 => ?_)
        · replace hm := (if_neg zc38).symm.trans hm
          refine lv_iconst (v := 0) hx hb dL_hangs_285 (by decide) ?_
          obtain rfl := Option.some.inj hm
          exact hJ ls (lv_sub hl [0, 1, 2, 6, 7, 8] rfl)
        · replace hm := (if_pos zc38).symm.trans hm
          refine lv_iload hx hb dL_hangs_229 (lv_at hl 4 rfl) ?_
          refine lv_aload_n hx hb dL_hangs_231 rfl (lv_at hl 0 rfl) ?_
          refine lv_bipush (v := 8) hx hb dL_hangs_232 (by decide +kernel) ?_
          obtain ⟨zq39, hzq39, hm⟩ := bdk hm
          have hPc := va_cutP hP (blkQ (bs := [w_hh g h0 jH jP aN aB aS y, w_X6 g aN xN, w_hd g jH jA u.1 (u.2.1.1 0) (u.2.2.1.1 0) (u.2.2.2.1.1 0) (u.2.2.2.2.1 0), w_X6 g u.2.1.1 u.2.1.2, w_X6 g u.2.2.1.1 u.2.2.1.2, w_X6 g u.2.2.2.1.1 u.2.2.2.1.2, w_X6 g u.2.2.2.2.1 u.2.2.2.2.2, w_X3 g jP jT w]) (cs := [w_hh g h0 jH jP aN aB aS y, w_X6 g aN xN, w_hd g jH jA u.1 (u.2.1.1 0) (u.2.2.1.1 0) (u.2.2.2.1.1 0) (u.2.2.2.2.1 0), w_X6 g u.2.1.1 u.2.1.2, w_X6 g u.2.2.1.1 u.2.2.1.2, w_X6 g u.2.2.2.1.1 u.2.2.2.1.2, w_X6 g u.2.2.2.2.1 u.2.2.2.2.2, w_X3 g jP jT w]) (rs := []) [0, 1, 2, 3, 4, 5, 6, 7] 8 rfl (by decide) rfl (wc := [w_hh g h0 jH jP aN aB aS y, w_X6 g aN xN, w_hd g jH jA u.1 (u.2.1.1 0) (u.2.2.1.1 0) (u.2.2.2.1.1 0) (u.2.2.2.2.1 0), w_X6 g u.2.1.1 u.2.1.2, w_X6 g u.2.2.1.1 u.2.2.1.2, w_X6 g u.2.2.2.1.1 u.2.2.2.1.2, w_X6 g u.2.2.2.2.1 u.2.2.2.2.2, w_X3 g jP jT w].flatten) rfl)
          refine ko_e (va_runV (As := [.int 8]) (rest := [.int zq31.2.2.1]) ⟨hx, hb, hml, hown, htG⟩ (kX8_count l g h0 jH jA jP jT aN aB aS y xN u w 8 _ hzq39) (cwV 1 htG (GV g3_144 g3_145 g3_146 g1_1 g3_147) rfl rfl rfl hd_X8_count ⟨Nat.le_of_ble_eq_true rfl, Nat.le_of_ble_eq_true rfl⟩) (PR_VA hK hL hS hPc (ci := 7) rfl 0 rfl) rfl rfl hl.1 rfl (lv_room (Nat.le_of_ble_eq_true rfl)) dL_hangs_234 ⟨Nat.zero_le _, Nat.zero_le _⟩) ?_
          refine lv_icmp_ne (tgt := 285) hx hb dL_hangs_237 (by decide) (fun zc40 => ?_) (fun zc40 => ?_)
          · replace hm := (if_neg zc40).symm.trans hm
            refine lv_iconst (v := 0) hx hb dL_hangs_285 (by decide) ?_
            obtain rfl := Option.some.inj hm
            exact hJ ls (lv_sub hl [0, 1, 2, 6, 7, 8] rfl)
          · replace hm := (if_pos zc40).symm.trans hm
            refine lv_iload hx hb dL_hangs_240 (lv_at hl 5 rfl) ?_
            refine lv_if_ne (tgt := 285) hx hb dL_hangs_242 (by decide) (fun zc41 => ?_) (fun zc41 => ?_)
            · replace hm := (if_neg zc41).symm.trans hm
              refine lv_iconst (v := 0) hx hb dL_hangs_285 (by decide) ?_
              obtain rfl := Option.some.inj hm
              exact hJ ls (lv_sub hl [0, 1, 2, 6, 7, 8] rfl)
            · replace hm := (if_pos zc41).symm.trans hm
              refine lv_iload_n hx hb dL_hangs_245 rfl (lv_at hl 3 rfl) ?_
              refine lv_aload_n hx hb dL_hangs_246 rfl (lv_at hl 0 rfl) ?_
              refine lv_iconst (v := 4) hx hb dL_hangs_247 (by decide) ?_
              obtain ⟨zq42, hzq42, hm⟩ := bdk hm
              have hPc := va_cutP hP (blkQ (bs := [w_hh g h0 jH jP aN aB aS y, w_X6 g aN xN, w_hd g jH jA u.1 (u.2.1.1 0) (u.2.2.1.1 0) (u.2.2.2.1.1 0) (u.2.2.2.2.1 0), w_X6 g u.2.1.1 u.2.1.2, w_X6 g u.2.2.1.1 u.2.2.1.2, w_X6 g u.2.2.2.1.1 u.2.2.2.1.2, w_X6 g u.2.2.2.2.1 u.2.2.2.2.2, w_X3 g jP jT w]) (cs := [w_hh g h0 jH jP aN aB aS y, w_X6 g aN xN, w_hd g jH jA u.1 (u.2.1.1 0) (u.2.2.1.1 0) (u.2.2.2.1.1 0) (u.2.2.2.2.1 0), w_X6 g u.2.1.1 u.2.1.2, w_X6 g u.2.2.1.1 u.2.2.1.2, w_X6 g u.2.2.2.1.1 u.2.2.2.1.2, w_X6 g u.2.2.2.2.1 u.2.2.2.2.2, w_X3 g jP jT w]) (rs := []) [0, 1, 2, 3, 4, 5, 6, 7] 8 rfl (by decide) rfl (wc := [w_hh g h0 jH jP aN aB aS y, w_X6 g aN xN, w_hd g jH jA u.1 (u.2.1.1 0) (u.2.2.1.1 0) (u.2.2.2.1.1 0) (u.2.2.2.2.1 0), w_X6 g u.2.1.1 u.2.1.2, w_X6 g u.2.2.1.1 u.2.2.1.2, w_X6 g u.2.2.2.1.1 u.2.2.2.1.2, w_X6 g u.2.2.2.2.1 u.2.2.2.2.2, w_X3 g jP jT w].flatten) rfl)
              refine ko_e (va_runV (As := [.int 4]) (rest := [.int zq31.2.1]) ⟨hx, hb, hml, hown, htG⟩ (kX8_count l g h0 jH jA jP jT aN aB aS y xN u w 4 _ hzq42) (cwV 1 htG (GV g3_144 g3_145 g3_146 g1_1 g3_147) rfl rfl rfl hd_X8_count ⟨Nat.le_of_ble_eq_true rfl, Nat.le_of_ble_eq_true rfl⟩) (PR_VA hK hL hS hPc (ci := 7) rfl 0 rfl) rfl rfl hl.1 rfl (lv_room (Nat.le_of_ble_eq_true rfl)) dL_hangs_248 ⟨Nat.zero_le _, Nat.zero_le _⟩) ?_
              refine lv_icmp_ne (tgt := 285) hx hb dL_hangs_251 (by decide) (fun zc43 => ?_) (fun zc43 => ?_)
              · replace hm := (if_neg zc43).symm.trans hm
                refine lv_iconst (v := 0) hx hb dL_hangs_285 (by decide) ?_
                obtain rfl := Option.some.inj hm
                exact hJ ls (lv_sub hl [0, 1, 2, 6, 7, 8] rfl)
              · replace hm := (if_pos zc43).symm.trans hm
                refine lv_iload hx hb dL_hangs_254 (lv_at hl 7 rfl) ?_
                refine lv_aload_n hx hb dL_hangs_256 rfl (lv_at hl 0 rfl) ?_
                refine lv_iconst (v := 2) hx hb dL_hangs_257 (by decide) ?_
                obtain ⟨zq44, hzq44, hm⟩ := bdk hm
                have hPc := va_cutP hP (blkQ (bs := [w_hh g h0 jH jP aN aB aS y, w_X6 g aN xN, w_hd g jH jA u.1 (u.2.1.1 0) (u.2.2.1.1 0) (u.2.2.2.1.1 0) (u.2.2.2.2.1 0), w_X6 g u.2.1.1 u.2.1.2, w_X6 g u.2.2.1.1 u.2.2.1.2, w_X6 g u.2.2.2.1.1 u.2.2.2.1.2, w_X6 g u.2.2.2.2.1 u.2.2.2.2.2, w_X3 g jP jT w]) (cs := [w_hh g h0 jH jP aN aB aS y, w_X6 g aN xN, w_hd g jH jA u.1 (u.2.1.1 0) (u.2.2.1.1 0) (u.2.2.2.1.1 0) (u.2.2.2.2.1 0), w_X6 g u.2.1.1 u.2.1.2, w_X6 g u.2.2.1.1 u.2.2.1.2, w_X6 g u.2.2.2.1.1 u.2.2.2.1.2, w_X6 g u.2.2.2.2.1 u.2.2.2.2.2, w_X3 g jP jT w]) (rs := []) [0, 1, 2, 3, 4, 5, 6, 7] 8 rfl (by decide) rfl (wc := [w_hh g h0 jH jP aN aB aS y, w_X6 g aN xN, w_hd g jH jA u.1 (u.2.1.1 0) (u.2.2.1.1 0) (u.2.2.2.1.1 0) (u.2.2.2.2.1 0), w_X6 g u.2.1.1 u.2.1.2, w_X6 g u.2.2.1.1 u.2.2.1.2, w_X6 g u.2.2.2.1.1 u.2.2.2.1.2, w_X6 g u.2.2.2.2.1 u.2.2.2.2.2, w_X3 g jP jT w].flatten) rfl)
                refine ko_e (va_runV (As := [.int 2]) (rest := [.int zq31.2.2.2.2.2.1]) ⟨hx, hb, hml, hown, htG⟩ (kX8_count l g h0 jH jA jP jT aN aB aS y xN u w 2 _ hzq44) (cwV 1 htG (GV g3_144 g3_145 g3_146 g1_1 g3_147) rfl rfl rfl hd_X8_count ⟨Nat.le_of_ble_eq_true rfl, Nat.le_of_ble_eq_true rfl⟩) (PR_VA hK hL hS hPc (ci := 7) rfl 0 rfl) rfl rfl hl.1 rfl (lv_room (Nat.le_of_ble_eq_true rfl)) dL_hangs_258 ⟨Nat.zero_le _, Nat.zero_le _⟩) ?_
                refine lv_icmp_ne (tgt := 285) hx hb dL_hangs_261 (by decide) (fun zc45 => ?_) (fun zc45 => ?_)
                · replace hm := (if_neg zc45).symm.trans hm
                  refine lv_iconst (v := 0) hx hb dL_hangs_285 (by decide) ?_
                  obtain rfl := Option.some.inj hm
                  exact hJ ls (lv_sub hl [0, 1, 2, 6, 7, 8] rfl)
                · replace hm := (if_pos zc45).symm.trans hm
                  refine lv_iload hx hb dL_hangs_264 (lv_at hl 8 rfl) ?_
                  refine lv_aload_n hx hb dL_hangs_266 rfl (lv_at hl 0 rfl) ?_
                  refine lv_iconst (v := 3) hx hb dL_hangs_267 (by decide) ?_
                  obtain ⟨zq46, hzq46, hm⟩ := bdk hm
                  have hPc := va_cutP hP (blkQ (bs := [w_hh g h0 jH jP aN aB aS y, w_X6 g aN xN, w_hd g jH jA u.1 (u.2.1.1 0) (u.2.2.1.1 0) (u.2.2.2.1.1 0) (u.2.2.2.2.1 0), w_X6 g u.2.1.1 u.2.1.2, w_X6 g u.2.2.1.1 u.2.2.1.2, w_X6 g u.2.2.2.1.1 u.2.2.2.1.2, w_X6 g u.2.2.2.2.1 u.2.2.2.2.2, w_X3 g jP jT w]) (cs := [w_hh g h0 jH jP aN aB aS y, w_X6 g aN xN, w_hd g jH jA u.1 (u.2.1.1 0) (u.2.2.1.1 0) (u.2.2.2.1.1 0) (u.2.2.2.2.1 0), w_X6 g u.2.1.1 u.2.1.2, w_X6 g u.2.2.1.1 u.2.2.1.2, w_X6 g u.2.2.2.1.1 u.2.2.2.1.2, w_X6 g u.2.2.2.2.1 u.2.2.2.2.2, w_X3 g jP jT w]) (rs := []) [0, 1, 2, 3, 4, 5, 6, 7] 8 rfl (by decide) rfl (wc := [w_hh g h0 jH jP aN aB aS y, w_X6 g aN xN, w_hd g jH jA u.1 (u.2.1.1 0) (u.2.2.1.1 0) (u.2.2.2.1.1 0) (u.2.2.2.2.1 0), w_X6 g u.2.1.1 u.2.1.2, w_X6 g u.2.2.1.1 u.2.2.1.2, w_X6 g u.2.2.2.1.1 u.2.2.2.1.2, w_X6 g u.2.2.2.2.1 u.2.2.2.2.2, w_X3 g jP jT w].flatten) rfl)
                  refine ko_e (va_runV (As := [.int 3]) (rest := [.int zq31.2.2.2.2.2.2.1]) ⟨hx, hb, hml, hown, htG⟩ (kX8_count l g h0 jH jA jP jT aN aB aS y xN u w 3 _ hzq46) (cwV 1 htG (GV g3_144 g3_145 g3_146 g1_1 g3_147) rfl rfl rfl hd_X8_count ⟨Nat.le_of_ble_eq_true rfl, Nat.le_of_ble_eq_true rfl⟩) (PR_VA hK hL hS hPc (ci := 7) rfl 0 rfl) rfl rfl hl.1 rfl (lv_room (Nat.le_of_ble_eq_true rfl)) dL_hangs_268 ⟨Nat.zero_le _, Nat.zero_le _⟩) ?_
                  refine lv_icmp_ne (tgt := 285) hx hb dL_hangs_271 (by decide) (fun zc47 => ?_) (fun zc47 => ?_)
                  · replace hm := (if_neg zc47).symm.trans hm
                    refine lv_iconst (v := 0) hx hb dL_hangs_285 (by decide) ?_
                    obtain rfl := Option.some.inj hm
                    exact hJ ls (lv_sub hl [0, 1, 2, 6, 7, 8] rfl)
                  · replace hm := (if_pos zc47).symm.trans hm
                    refine lv_iload hx hb dL_hangs_274 (lv_at hl 7 rfl) ?_
                    refine lv_bipush (v := 60) hx hb dL_hangs_276 (by decide +kernel) ?_
                    refine lv_icmp_gt (tgt := 285) hx hb dL_hangs_278 (by decide) (fun zc48 => ?_) (fun zc48 => ?_)
                    · replace hm := (if_pos zc48).symm.trans hm
                      refine lv_iconst (v := 0) hx hb dL_hangs_285 (by decide) ?_
                      obtain rfl := Option.some.inj hm
                      exact hJ ls (lv_sub hl [0, 1, 2, 6, 7, 8] rfl)
                    · replace hm := (if_neg zc48).symm.trans hm
                      refine lv_iconst (v := 1) hx hb dL_hangs_281 (by decide) ?_
                      refine lv_goto (tgt := 286) hx hb dL_hangs_282 (by decide) ?_
                      obtain rfl := Option.some.inj hm
                      exact hJ ls (lv_sub hl [0, 1, 2, 6, 7, 8] rfl)
