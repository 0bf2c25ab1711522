def fX6_awardEarly (x : SD) (p1 : Int32) (p2 : Int32) : Option (Int32 × SD) := (if (fX8_isSlot p1 p2) = 0 then some ((-1), x) else (if (fX6_isOpen x p1 p2) = 0 then some ((-4), x) else ((fX6_awardOpen x p1 p2).bind (fun zq3 => some (zq3.1, zq3.2)))))
abbrev rm_X6_awardEarly : Jvm.Room := { frames := 4, cells := 0, slots := 0, locals := 94 }
theorem hd_X6_awardEarly : yX6_awardEarly.cls = RX6 ∧ yX6_awardEarly.cls ≠ "java/lang/invoke/MethodHandle" ∧ yX6_awardEarly.cls ≠ "java/lang/invoke/VarHandle" ∧ (parseMethodDescriptor yX6_awardEarly.desc).map (fun d => d.parameters.length) = some 2 := by decide +kernel
set_option maxHeartbeats 4000000 in
set_option maxRecDepth 100000 in
theorem kX6_awardEarly (l : Launch) (g : CX) (a : Nat → Nat) (sz : Nat) (x : SD) (p1 : Int32) (p2 : Int32) (res : Int32 × SD) (hm0 : fX6_awardEarly x p1 p2 = some res) : Met l yX6_awardEarly (wg yX6_awardEarly cX6_awardEarly 3 (some .int)) rm_X6_awardEarly (PW g [.ref (a 0), .int p1, .int p2] sz (w_X6 g a x)) (va_Qi (fun v u => v = res.1 ∧ u = res.2) (fun u t => va_P g.1 vwCl (w_X6 g a u) t.heap) (va_A (w_X6 g a x) sz)) 0 0 (va_A (w_X6 g a x) sz) := by
  refine Met.ofW (cc := cX6_awardEarly) (maxL := 3) (ret := (some .int)) (by decide) rfl ?_
  intro p e s m args below meth c s₁ B hml hv
  obtain ⟨rfl, hsz, hP, hK, hD0, hL⟩ := hv
  have hx := B.exec
  have hb := B.bytes
  have hr := B.returns
  have htG := wg_G (atoms_spec (ws := wg yX6_awardEarly cX6_awardEarly 3 (some .int)) B.pre)
  have hown : s.vm.findClass RX6 = some m.cls := findClass_of_methodNamed B.named
  have hlocks := B.notSynchronized
  subst hsz
  have hD := hD0.self (sz := s.heap.size)
  generalize hAe : va_A (w_X6 g a x) s.heap.size = A at hD hL ⊢
  have hA : ∀ q : Nat, s.heap.size ≤ q → A q := fun q h => by rw [← hAe]; exact Or.inr h
  have hS : va_S A s.heap s.heap [] := va_S.rf
  have hl := lv_entry ([.ref (a 0), .int p1, .int p2]) (n := 3) (Nat.le_of_ble_eq_true rfl)
  rw [lg_entry_eq]
  generalize (lg_sl ([.ref (a 0), .int p1, .int p2]) ++ List.replicate (3 - (lg_sl ([.ref (a 0), .int p1, .int p2])).length) Slot.unset).toArray = ls at hl ⊢
  have hl : lv_has ls 3 [(0, .ref (a 0)), (1, .int p1), (2, .int p2)] := hl
  have hm := hm0
  unfold fX6_awardEarly at hm
  refine lv_iload_n hx hb dX6_awardEarly_0 rfl (lv_at hl 1 rfl) ?_
  refine lv_iload_n hx hb dX6_awardEarly_1 rfl (lv_at hl 2 rfl) ?_
  refine ko_e (va_runSN (As := [.int p1, .int p2]) (rest := []) ⟨hx, hb, hml, hown, htG⟩ (kX8_isSlot l g p1 p2 _ rfl) ⟨va_cnB 2 htG (GC g2_111) rfl rfl rfl (nw_37 hK) (htG _ g1_1) hs_X8_isSlot ⟨Nat.le_of_ble_eq_true rfl, Nat.le_of_ble_eq_true rfl⟩, htG _ g2_110, trivial⟩ (PR_S hK hL hS hP [] rfl) rfl rfl hl.1 rfl (lv_room (Nat.le_of_ble_eq_true rfl)) dX6_awardEarly_2 ⟨Nat.zero_le _, Nat.zero_le _⟩) ?_
  refine lv_if_ne (tgt := 10) hx hb dX6_awardEarly_5 (by decide) (fun zc1 => ?_) (fun zc1 => ?_)
  · replace hm := (if_neg zc1).symm.trans hm
    refine lv_aload_n hx hb dX6_awardEarly_10 rfl (lv_at hl 0 rfl) ?_
    refine lv_iload_n hx hb dX6_awardEarly_11 rfl (lv_at hl 1 rfl) ?_
    refine lv_iload_n hx hb dX6_awardEarly_12 rfl (lv_at hl 2 rfl) ?_
    refine ko_e (va_runV (As := [.int p1, .int p2]) (rest := []) ⟨hx, hb, hml, hown, htG⟩ (kX6_isOpen l g a x p1 p2 _ rfl) (cwV 2 htG (GV g2_122 g2_123 g2_124 g1_2 g2_125) rfl rfl rfl hd_X6_isOpen ⟨Nat.le_of_ble_eq_true rfl, Nat.le_of_ble_eq_true rfl⟩) (PR_VA hK hL hS hP (ci := 5) rfl 0 rfl) rfl rfl hl.1 rfl (lv_room (Nat.le_of_ble_eq_true rfl)) dX6_awardEarly_13 ⟨Nat.zero_le _, Nat.zero_le _⟩) ?_
    refine lv_if_eq (tgt := 28) hx hb dX6_awardEarly_16 (by decide) (fun zc2 => ?_) (fun zc2 => ?_)
    · replace hm := (if_pos zc2).symm.trans hm
      refine lv_bipush (v := (-4)) hx hb dX6_awardEarly_28 (by decide +kernel) ?_
      exact W.iret (v := (-4)) hx hb hr (fun t ht hW => ⟨⟨_, _, rfl, pr1 (Option.some.inj hm), atH ht hP⟩, hS.F ht⟩) hS.2.2 dX6_awardEarly_30
    · replace hm := (if_neg zc2).symm.trans hm
      refine lv_aload_n hx hb dX6_awardEarly_19 rfl (lv_at hl 0 rfl) ?_
      refine lv_iload_n hx hb dX6_awardEarly_20 rfl (lv_at hl 1 rfl) ?_
      refine lv_iload_n hx hb dX6_awardEarly_21 rfl (lv_at hl 2 rfl) ?_
      obtain ⟨zq3, hzq3, hm⟩ := bdk hm
      refine kw_ieA (va_runV (As := [.int p1, .int p2]) (rest := []) ⟨hx, hb, hml, hown, htG⟩ (kX6_awardOpen l g a _ x p1 p2 _ hzq3) (cwV 2 htG (GV g2_188 g2_189 g2_190 g1_2 g2_191) rfl rfl rfl hd_X6_awardOpen ⟨Nat.le_of_ble_eq_true rfl, Nat.le_of_ble_eq_true rfl⟩) (PW_VA hK hL hS hP hD hA (ci := 5) rfl 0 rfl) rfl rfl hl.1 rfl (lv_room (Nat.le_of_ble_eq_true rfl)) dX6_awardEarly_22 ⟨Nat.zero_le _, Nat.zero_le _⟩) hD hS hA (fun _ => rfl) (fun H locs hP hD hS => ?_)
      have hP : va_P g.1 vwCl (w_X6 g a zq3.2) H := hP
      have hD : va_D A (w_X6 g a zq3.2) := hD
      refine lv_goto (tgt := 30) hx hb dX6_awardEarly_25 (by decide) ?_
      exact W.iret (v := zq3.1) hx hb hr (fun t ht hW => ⟨⟨_, _, rfl, pr1 (Option.some.inj hm), atH ht hP⟩, hS.F ht⟩) hS.2.2 dX6_awardEarly_30
  · replace hm := (if_pos zc1).symm.trans hm
    refine lv_iconst (v := (-1)) hx hb dX6_awardEarly_8 (by decide) ?_
    exact W.iret (v := (-1)) hx hb hr (fun t ht hW => ⟨⟨_, _, rfl, pr1 (Option.some.inj hm), atH ht hP⟩, hS.F ht⟩) hS.2.2 dX6_awardEarly_9
