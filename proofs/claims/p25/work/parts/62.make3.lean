abbrev rm_X2_init : Jvm.Room := { frames := 3, cells := 73, slots := 3416, locals := 62 }
theorem hi_X2 : yX2_init.cls ≠ "java/lang/invoke/MethodHandle" ∧ yX2_init.cls ≠ "java/lang/invoke/VarHandle" ∧ (parseMethodDescriptor yX2_init.desc).map (fun d => d.parameters.length) = some 0 := by decide +kernel
set_option maxHeartbeats 4000000 in
set_option maxRecDepth 100000 in
theorem kX2_init (l : Launch) (g : CX) (h0 sz : Nat) : Met l yX2_init (wg yX2_init cX2_init 2 none) rm_X2_init (PW g [.ref h0] sz ([(h0, .inr (2, [.null, .int 0]))])) (va_Qv (fun _ : Nat × (Nat → Nat) × (Nat → Nat) × (Nat → Nat) × (Nat → Nat) => True) (fun u t => va_P g.1 vwCl ((B2 g h0 u.1 (HY0 u.2.1 u.2.2.1 u.2.2.2.1 u.2.2.2.2)).flatten) t.heap ∧ va_D (va_A ([(h0, .inr (2, [.null, .int 0]))]) sz) ((B2 g h0 u.1 (HY0 u.2.1 u.2.2.1 u.2.2.2.1 u.2.2.2.2)).flatten)) (va_A ([(h0, .inr (2, [.null, .int 0]))]) sz)) 73 3416 (va_A ([(h0, .inr (2, [.null, .int 0]))]) sz) := by
  refine Met.ofW (cc := cX2_init) (maxL := 2) (ret := none) (by decide) rfl ?_
  intro p e s m args below meth c s₁ B hml hv
  obtain ⟨rfl, hsz, hP, hK, hD0, hL⟩ := hv
  have hx := B.exec
  have hb := B.bytes
  have hr := B.returns
  have htG := wg_G (atoms_spec (ws := wg yX2_init cX2_init 2 none) B.pre)
  have hown : s.vm.findClass RX2 = some m.cls := findClass_of_methodNamed B.named
  have hlocks := B.notSynchronized
  have hin : meth.name = "<init>" := (name_of_methodNamed B.named B.method).1
  subst hsz
  have hD := hD0.self (sz := s.heap.size)
  generalize hAe : va_A ([(h0, .inr (2, [.null, .int 0]))]) s.heap.size = A at hD hL ⊢
  have hA : ∀ q : Nat, s.heap.size ≤ q → A q := fun q h => by rw [← hAe]; exact Or.inr h
  have hS : va_S A s.heap s.heap [] := va_S.rf
  have hl := lv_entry ([.ref h0]) (n := 2) (Nat.le_of_ble_eq_true rfl)
  rw [lg_entry_eq]
  generalize (lg_sl ([.ref h0]) ++ List.replicate (2 - (lg_sl ([.ref h0])).length) Slot.unset).toArray = ls at hl ⊢
  have hl : lv_has ls 2 [(0, .ref h0)] := hl
  refine lv_aload_n hx hb dX2_init_0 rfl (lv_at hl 0 rfl) ?_
  refine W.objInit hx hb hown (htG _ g1_165) (htG _ g1_18) (htG _ g1_19) rfl (by rw [hml]; exact hl.1) rfl dX2_init_1 (Nat.le_of_ble_eq_true rfl) (Nat.le_of_ble_eq_true rfl) ?_
  refine W.eq (g2 := F0 m 4 ls []) rfl ?_
  refine lv_aload_n hx hb dX2_init_4 rfl (lv_at hl 0 rfl) ?_
  refine lv_iconst (v := 4) hx hb dX2_init_5 (by decide) ?_
  refine newq_e (cI := g.2.2.2) (N' := 4) hx hb hown (htG _ g1_166) hK.2.2 hK.1 2 rfl hP hD hS hA (by decide) (by decide +kernel) (by decide +kernel) (Nat.le_of_ble_eq_true rfl) (Nat.le_of_ble_eq_true rfl) dX2_init_6 (fun zq1 H hP hD hS => ?_)
  have hP : va_P g.1 vwCl ([[(h0, .inr (2, [.null, .int 0]))], [(zq1, .inl (g.2.2.2, 4, .inr (.inr (.inr (.inr (fun _ => none))))))]].flatten) H := hP
  have hD : va_D A ([[(h0, .inr (2, [.null, .int 0]))], [(zq1, .inl (g.2.2.2, 4, .inr (.inr (.inr (.inr (fun _ => none))))))]].flatten) := hD
  refine va_putF (D := g.1) (ci := 2) (v := .ref zq1) (ty := .array (.object "HookHours$State")) (C := RX2) (T := TX2) (N := 2) hx hb htG in_wsX20 tyX2 tyX2_ok nmX2 hown hK.1 hP hD hS 0 rfl rfl 0 (by decide) (htG _ g1_169) (fun _ h9 => h9) rfl hin rfl (by decide +kernel) rfl rfl (Nat.le_of_ble_eq_true rfl) dX2_init_9 (fun H locs hP hD hS => ?_)
  have hP : va_P g.1 vwCl ([[(h0, .inr (2, [.ref zq1, .int 0]))], [(zq1, .inl (g.2.2.2, 4, .inr (.inr (.inr (.inr (fun _ => none))))))]].flatten) H := hP
  have hD : va_D A ([[(h0, .inr (2, [.ref zq1, .int 0]))], [(zq1, .inl (g.2.2.2, 4, .inr (.inr (.inr (.inr (fun _ => none))))))]].flatten) := hD
  refine lv_aload_n hx hb dX2_init_12 rfl (lv_at hl 0 rfl) ?_
  refine lv_iconst (v := 0) hx hb dX2_init_13 (by decide) ?_
  refine va_put (D := g.1) (ci := 2) (v := .int 0) (ty := .int) (C := RX2) (T := TX2) (N := 2) hx hb htG in_wsX20 tyX2 tyX2_ok nmX2 hown hK.1 hP hD hS 0 rfl rfl 1 (by decide) (htG _ g1_170) (fun _ h9 => h9) rfl (by decide +kernel) rfl rfl (Nat.le_of_ble_eq_true rfl) dX2_init_14 (fun H locs hP hD hS => ?_)
  have hP : va_P g.1 vwCl ([[(h0, .inr (2, [.ref zq1, .int 0]))], [(zq1, .inl (g.2.2.2, 4, .inr (.inr (.inr (.inr (fun _ => none))))))]].flatten) H := hP
  have hD : va_D A ([[(h0, .inr (2, [.ref zq1, .int 0]))], [(zq1, .inl (g.2.2.2, 4, .inr (.inr (.inr (.inr (fun _ => none))))))]].flatten) := hD
  refine lv_iconst (v := 0) hx hb dX2_init_17 (by decide) ?_
  refine lv_istore_n (lv' := [(1, .int 0), (0, .ref h0)]) hx hb dX2_init_18 rfl hl (by decide) rfl (fun ls hl => ?_)
  refine lv_iload_n hx hb dX2_init_19 rfl (lv_at hl 0 rfl) ?_
  refine lv_aload_n hx hb dX2_init_20 rfl (lv_at hl 1 rfl) ?_
  refine va_get (D := g.1) (ci := 2) (v := .ref zq1) (C := RX2) (T := TX2) (N := 2) hx hb htG in_wsX20 hown hK.1 hP 0 rfl rfl 0 (by decide) (htG _ g1_169) (fun _ h9 => h9) rfl dX2_init_21 ?_
  refine va_alen hx hb hK.1 hP 1 2 rfl rfl (v := 4) rfl dX2_init_24 ?_
  refine lv_icmp_ge (tgt := 47) hx hb dX2_init_25 (by decide) (fun h => absurd h (by decide)) (fun _ => ?_)
  refine lv_aload_n hx hb dX2_init_28 rfl (lv_at hl 1 rfl) ?_
  refine va_get (D := g.1) (ci := 2) (v := .ref zq1) (C := RX2) (T := TX2) (N := 2) hx hb htG in_wsX20 hown hK.1 hP 0 rfl rfl 0 (by decide) (htG _ g1_169) (fun _ h9 => h9) rfl dX2_init_29 ?_
  refine lv_iload_n hx hb dX2_init_32 rfl (lv_at hl 0 rfl) ?_
  refine va_new (ci := 5) (fs := [.int 0, .int 0, .null, .null, .null, .null, .null, .null]) (C := RX6) (T := TX6) (N := 8) hx hb htG in_wsX60 tyX6 tyX6_ok hown (htG _ g1_166) (htG _ g1_21) (htG _ g1_2) hK.1 hP hD hS hA rfl (fun j hj => by rcases (show j = 0 ∨ j = 1 ∨ j = 2 ∨ j = 3 ∨ j = 4 ∨ j = 5 ∨ j = 6 ∨ j = 7 by omega) with rfl | rfl | rfl | rfl | rfl | rfl | rfl | rfl <;> rfl) (Nat.le_of_ble_eq_true rfl) (Nat.le_of_ble_eq_true rfl) dX2_init_33 (fun zq2 H hP hD hS => ?_)
  have hP : va_P g.1 vwCl ([[(h0, .inr (2, [.ref zq1, .int 0]))], [(zq1, .inl (g.2.2.2, 4, .inr (.inr (.inr (.inr (fun _ => none))))))], [(zq2, .inr (5, [.int 0, .int 0, .null, .null, .null, .null, .null, .null]))]].flatten) H := hP
  have hD : va_D A ([[(h0, .inr (2, [.ref zq1, .int 0]))], [(zq1, .inl (g.2.2.2, 4, .inr (.inr (.inr (.inr (fun _ => none))))))], [(zq2, .inr (5, [.int 0, .int 0, .null, .null, .null, .null, .null, .null]))]].flatten) := hD
  refine lv_dup hx hb dX2_init_36 rfl ?_
  have hq := (blkQ (bs := [[(h0, .inr (2, [.ref zq1, .int 0]))], [(zq1, .inl (g.2.2.2, 4, .inr (.inr (.inr (.inr (fun _ => none))))))], [(zq2, .inr (5, [.int 0, .int 0, .null, .null, .null, .null, .null, .null]))]]) (cs := [[(zq2, .inr (5, [.int 0, .int 0, .null, .null, .null, .null, .null, .null]))]]) (rs := [[(h0, .inr (2, [.ref zq1, .int 0]))], [(zq1, .inl (g.2.2.2, 4, .inr (.inr (.inr (.inr (fun _ => none))))))]]) [2, 0, 1] 3 rfl (by decide) rfl (wc := [(zq2, .inr (5, [.int 0, .int 0, .null, .null, .null, .null, .null, .null]))]) (by simp only [List.flatten_cons, List.flatten_nil, List.append_nil]))
  obtain ⟨hPc, hDc⟩ := va_cut hP hD hq
  refine kw_veD (ws' := fun u : Nat → Nat => [[(h0, .inr (2, [.ref zq1, .int 0]))], [(zq1, .inl (g.2.2.2, 4, .inr (.inr (.inr (.inr (fun _ => none))))))], w_X6 g (cadr zq2 u) SD0].flatten) (va_runI (As := []) (rest := [.ref zq2, .int 0, .ref zq1]) ⟨hx, hb, hml, hown, htG⟩ (kX6_init l g zq2 _) (cwI 0 htG (GC g1_24) rfl rfl rfl (htG _ g1_2) (htG _ g1_168) (htG _ g1_23) rfl hi_X6 ⟨Nat.le_of_ble_eq_true rfl, Nat.le_of_ble_eq_true rfl⟩) (PW_SA (As := [.ref zq2]) hK hL hS hPc hDc hA) rfl rfl hl.1 rfl (lv_room (Nat.le_of_ble_eq_true rfl)) dX2_init_37 ⟨Nat.le_of_ble_eq_true rfl, Nat.le_of_ble_eq_true rfl⟩) hP hD hS hA hq (fun u => (blkQ (bs := [[(h0, .inr (2, [.ref zq1, .int 0]))], [(zq1, .inl (g.2.2.2, 4, .inr (.inr (.inr (.inr (fun _ => none))))))], w_X6 g (cadr zq2 u) SD0]) (cs := [w_X6 g (cadr zq2 u) SD0]) (rs := [[(h0, .inr (2, [.ref zq1, .int 0]))], [(zq1, .inl (g.2.2.2, 4, .inr (.inr (.inr (.inr (fun _ => none))))))]]) [2, 0, 1] 3 rfl (by decide) rfl (wc := w_X6 g (cadr zq2 u) SD0) (by simp only [List.flatten_cons, List.flatten_nil, List.append_nil]))) (fun zu3 H locs _ hP hD hS => ?_)
  have hP : va_P g.1 vwCl ([[(h0, .inr (2, [.ref zq1, .int 0]))], [(zq1, .inl (g.2.2.2, 4, .inr (.inr (.inr (.inr (fun _ => none))))))], w_X6 g (cadr zq2 zu3) SD0].flatten) H := hP
  have hD : va_D A ([[(h0, .inr (2, [.ref zq1, .int 0]))], [(zq1, .inl (g.2.2.2, 4, .inr (.inr (.inr (.inr (fun _ => none))))))], w_X6 g (cadr zq2 zu3) SD0].flatten) := hD
  refine astq_e (v := zq2) hx hb hK.1 hP hD hS 1 2 2 5 rfl rfl rfl rfl (ib_in (by decide +kernel)) dX2_init_40 rfl (fun H locs hP hD hS => ?_)
  have hP : va_P g.1 vwCl ([[(h0, .inr (2, [.ref zq1, .int 0]))], [(zq1, .inl (g.2.2.2, 4, .inr (.inr (.inr (.inr (va_up (fun _ => none) 0 (some zq2)))))))], w_X6 g (cadr zq2 zu3) SD0].flatten) H := hP
  have hD : va_D A ([[(h0, .inr (2, [.ref zq1, .int 0]))], [(zq1, .inl (g.2.2.2, 4, .inr (.inr (.inr (.inr (va_up (fun _ => none) 0 (some zq2)))))))], w_X6 g (cadr zq2 zu3) SD0].flatten) := hD
  refine lv_iinc (v := 1) (lv' := [(1, .int 1), (0, .ref h0)]) hx hb dX2_init_41 hl (k := 0) rfl (by decide) (by decide) rfl (fun ls hl => ?_)
  refine lv_goto (tgt := 19) hx hb dX2_init_44 (by decide) ?_
  refine lv_iload_n hx hb dX2_init_19 rfl (lv_at hl 0 rfl) ?_
  refine lv_aload_n hx hb dX2_init_20 rfl (lv_at hl 1 rfl) ?_
  refine va_get (D := g.1) (ci := 2) (v := .ref zq1) (C := RX2) (T := TX2) (N := 2) hx hb htG in_wsX20 hown hK.1 hP 0 rfl rfl 0 (by decide) (htG _ g1_169) (fun _ h9 => h9) rfl dX2_init_21 ?_
  refine va_alen hx hb hK.1 hP 1 2 rfl rfl (v := 4) rfl dX2_init_24 ?_
  refine lv_icmp_ge (tgt := 47) hx hb dX2_init_25 (by decide) (fun h => absurd h (by decide)) (fun _ => ?_)
  refine lv_aload_n hx hb dX2_init_28 rfl (lv_at hl 1 rfl) ?_
  refine va_get (D := g.1) (ci := 2) (v := .ref zq1) (C := RX2) (T := TX2) (N := 2) hx hb htG in_wsX20 hown hK.1 hP 0 rfl rfl 0 (by decide) (htG _ g1_169) (fun _ h9 => h9) rfl dX2_init_29 ?_
  refine lv_iload_n hx hb dX2_init_32 rfl (lv_at hl 0 rfl) ?_
  refine va_new (ci := 5) (fs := [.int 0, .int 0, .null, .null, .null, .null, .null, .null]) (C := RX6) (T := TX6) (N := 8) hx hb htG in_wsX60 tyX6 tyX6_ok hown (htG _ g1_166) (htG _ g1_21) (htG _ g1_2) hK.1 hP hD hS hA rfl (fun j hj => by rcases (show j = 0 ∨ j = 1 ∨ j = 2 ∨ j = 3 ∨ j = 4 ∨ j = 5 ∨ j = 6 ∨ j = 7 by omega) with rfl | rfl | rfl | rfl | rfl | rfl | rfl | rfl <;> rfl) (Nat.le_of_ble_eq_true rfl) (Nat.le_of_ble_eq_true rfl) dX2_init_33 (fun zq4 H hP hD hS => ?_)
  have hP : va_P g.1 vwCl ([[(h0, .inr (2, [.ref zq1, .int 0]))], [(zq1, .inl (g.2.2.2, 4, .inr (.inr (.inr (.inr (va_up (fun _ => none) 0 (some zq2)))))))], w_X6 g (cadr zq2 zu3) SD0, [(zq4, .inr (5, [.int 0, .int 0, .null, .null, .null, .null, .null, .null]))]].flatten) H := hP
  have hD : va_D A ([[(h0, .inr (2, [.ref zq1, .int 0]))], [(zq1, .inl (g.2.2.2, 4, .inr (.inr (.inr (.inr (va_up (fun _ => none) 0 (some zq2)))))))], w_X6 g (cadr zq2 zu3) SD0, [(zq4, .inr (5, [.int 0, .int 0, .null, .null, .null, .null, .null, .null]))]].flatten) := hD
  refine lv_dup hx hb dX2_init_36 rfl ?_
  have hq := (blkQ (bs := [[(h0, .inr (2, [.ref zq1, .int 0]))], [(zq1, .inl (g.2.2.2, 4, .inr (.inr (.inr (.inr (va_up (fun _ => none) 0 (some zq2)))))))], w_X6 g (cadr zq2 zu3) SD0, [(zq4, .inr (5, [.int 0, .int 0, .null, .null, .null, .null, .null, .null]))]]) (cs := [[(zq4, .inr (5, [.int 0, .int 0, .null, .null, .null, .null, .null, .null]))]]) (rs := [[(h0, .inr (2, [.ref zq1, .int 0]))], [(zq1, .inl (g.2.2.2, 4, .inr (.inr (.inr (.inr (va_up (fun _ => none) 0 (some zq2)))))))], w_X6 g (cadr zq2 zu3) SD0]) [3, 0, 1, 2] 4 rfl (by decide) rfl (wc := [(zq4, .inr (5, [.int 0, .int 0, .null, .null, .null, .null, .null, .null]))]) (by simp only [List.flatten_cons, List.flatten_nil, List.append_nil]))
  obtain ⟨hPc, hDc⟩ := va_cut hP hD hq
  refine kw_veD (ws' := fun u : Nat → Nat => [[(h0, .inr (2, [.ref zq1, .int 0]))], [(zq1, .inl (g.2.2.2, 4, .inr (.inr (.inr (.inr (va_up (fun _ => none) 0 (some zq2)))))))], w_X6 g (cadr zq2 zu3) SD0, w_X6 g (cadr zq4 u) SD0].flatten) (va_runI (As := []) (rest := [.ref zq4, .int 1, .ref zq1]) ⟨hx, hb, hml, hown, htG⟩ (kX6_init l g zq4 _) (cwI 0 htG (GC g1_24) rfl rfl rfl (htG _ g1_2) (htG _ g1_168) (htG _ g1_23) rfl hi_X6 ⟨Nat.le_of_ble_eq_true rfl, Nat.le_of_ble_eq_true rfl⟩) (PW_SA (As := [.ref zq4]) hK hL hS hPc hDc hA) rfl rfl hl.1 rfl (lv_room (Nat.le_of_ble_eq_true rfl)) dX2_init_37 ⟨Nat.le_of_ble_eq_true rfl, Nat.le_of_ble_eq_true rfl⟩) hP hD hS hA hq (fun u => (blkQ (bs := [[(h0, .inr (2, [.ref zq1, .int 0]))], [(zq1, .inl (g.2.2.2, 4, .inr (.inr (.inr (.inr (va_up (fun _ => none) 0 (some zq2)))))))], w_X6 g (cadr zq2 zu3) SD0, w_X6 g (cadr zq4 u) SD0]) (cs := [w_X6 g (cadr zq4 u) SD0]) (rs := [[(h0, .inr (2, [.ref zq1, .int 0]))], [(zq1, .inl (g.2.2.2, 4, .inr (.inr (.inr (.inr (va_up (fun _ => none) 0 (some zq2)))))))], w_X6 g (cadr zq2 zu3) SD0]) [3, 0, 1, 2] 4 rfl (by decide) rfl (wc := w_X6 g (cadr zq4 u) SD0) (by simp only [List.flatten_cons, List.flatten_nil, List.append_nil]))) (fun zu5 H locs _ hP hD hS => ?_)
  have hP : va_P g.1 vwCl ([[(h0, .inr (2, [.ref zq1, .int 0]))], [(zq1, .inl (g.2.2.2, 4, .inr (.inr (.inr (.inr (va_up (fun _ => none) 0 (some zq2)))))))], w_X6 g (cadr zq2 zu3) SD0, w_X6 g (cadr zq4 zu5) SD0].flatten) H := hP
  have hD : va_D A ([[(h0, .inr (2, [.ref zq1, .int 0]))], [(zq1, .inl (g.2.2.2, 4, .inr (.inr (.inr (.inr (va_up (fun _ => none) 0 (some zq2)))))))], w_X6 g (cadr zq2 zu3) SD0, w_X6 g (cadr zq4 zu5) SD0].flatten) := hD
  refine astq_e (v := zq4) hx hb hK.1 hP hD hS 1 2 20 5 rfl rfl rfl rfl (ib_in (by decide +kernel)) dX2_init_40 rfl (fun H locs hP hD hS => ?_)
  have hP : va_P g.1 vwCl ([[(h0, .inr (2, [.ref zq1, .int 0]))], [(zq1, .inl (g.2.2.2, 4, .inr (.inr (.inr (.inr (va_up (va_up (fun _ => none) 0 (some zq2)) 1 (some zq4)))))))], w_X6 g (cadr zq2 zu3) SD0, w_X6 g (cadr zq4 zu5) SD0].flatten) H := hP
  have hD : va_D A ([[(h0, .inr (2, [.ref zq1, .int 0]))], [(zq1, .inl (g.2.2.2, 4, .inr (.inr (.inr (.inr (va_up (va_up (fun _ => none) 0 (some zq2)) 1 (some zq4)))))))], w_X6 g (cadr zq2 zu3) SD0, w_X6 g (cadr zq4 zu5) SD0].flatten) := hD
  refine lv_iinc (v := 2) (lv' := [(1, .int 2), (0, .ref h0)]) hx hb dX2_init_41 hl (k := 0) rfl (by decide) (by decide) rfl (fun ls hl => ?_)
  refine lv_goto (tgt := 19) hx hb dX2_init_44 (by decide) ?_
  refine lv_iload_n hx hb dX2_init_19 rfl (lv_at hl 0 rfl) ?_
  refine lv_aload_n hx hb dX2_init_20 rfl (lv_at hl 1 rfl) ?_
  refine va_get (D := g.1) (ci := 2) (v := .ref zq1) (C := RX2) (T := TX2) (N := 2) hx hb htG in_wsX20 hown hK.1 hP 0 rfl rfl 0 (by decide) (htG _ g1_169) (fun _ h9 => h9) rfl dX2_init_21 ?_
  refine va_alen hx hb hK.1 hP 1 2 rfl rfl (v := 4) rfl dX2_init_24 ?_
  refine lv_icmp_ge (tgt := 47) hx hb dX2_init_25 (by decide) (fun h => absurd h (by decide)) (fun _ => ?_)
  refine lv_aload_n hx hb dX2_init_28 rfl (lv_at hl 1 rfl) ?_
  refine va_get (D := g.1) (ci := 2) (v := .ref zq1) (C := RX2) (T := TX2) (N := 2) hx hb htG in_wsX20 hown hK.1 hP 0 rfl rfl 0 (by decide) (htG _ g1_169) (fun _ h9 => h9) rfl dX2_init_29 ?_
  refine lv_iload_n hx hb dX2_init_32 rfl (lv_at hl 0 rfl) ?_
  refine va_new (ci := 5) (fs := [.int 0, .int 0, .null, .null, .null, .null, .null, .null]) (C := RX6) (T := TX6) (N := 8) hx hb htG in_wsX60 tyX6 tyX6_ok hown (htG _ g1_166) (htG _ g1_21) (htG _ g1_2) hK.1 hP hD hS hA rfl (fun j hj => by rcases (show j = 0 ∨ j = 1 ∨ j = 2 ∨ j = 3 ∨ j = 4 ∨ j = 5 ∨ j = 6 ∨ j = 7 by omega) with rfl | rfl | rfl | rfl | rfl | rfl | rfl | rfl <;> rfl) (Nat.le_of_ble_eq_true rfl) (Nat.le_of_ble_eq_true rfl) dX2_init_33 (fun zq6 H hP hD hS => ?_)
  have hP : va_P g.1 vwCl ([[(h0, .inr (2, [.ref zq1, .int 0]))], [(zq1, .inl (g.2.2.2, 4, .inr (.inr (.inr (.inr (va_up (va_up (fun _ => none) 0 (some zq2)) 1 (some zq4)))))))], w_X6 g (cadr zq2 zu3) SD0, w_X6 g (cadr zq4 zu5) SD0, [(zq6, .inr (5, [.int 0, .int 0, .null, .null, .null, .null, .null, .null]))]].flatten) H := hP
  have hD : va_D A ([[(h0, .inr (2, [.ref zq1, .int 0]))], [(zq1, .inl (g.2.2.2, 4, .inr (.inr (.inr (.inr (va_up (va_up (fun _ => none) 0 (some zq2)) 1 (some zq4)))))))], w_X6 g (cadr zq2 zu3) SD0, w_X6 g (cadr zq4 zu5) SD0, [(zq6, .inr (5, [.int 0, .int 0, .null, .null, .null, .null, .null, .null]))]].flatten) := hD
  refine lv_dup hx hb dX2_init_36 rfl ?_
  have hq := (blkQ (bs := [[(h0, .inr (2, [.ref zq1, .int 0]))], [(zq1, .inl (g.2.2.2, 4, .inr (.inr (.inr (.inr (va_up (va_up (fun _ => none) 0 (some zq2)) 1 (some zq4)))))))], w_X6 g (cadr zq2 zu3) SD0, w_X6 g (cadr zq4 zu5) SD0, [(zq6, .inr (5, [.int 0, .int 0, .null, .null, .null, .null, .null, .null]))]]) (cs := [[(zq6, .inr (5, [.int 0, .int 0, .null, .null, .null, .null, .null, .null]))]]) (rs := [[(h0, .inr (2, [.ref zq1, .int 0]))], [(zq1, .inl (g.2.2.2, 4, .inr (.inr (.inr (.inr (va_up (va_up (fun _ => none) 0 (some zq2)) 1 (some zq4)))))))], w_X6 g (cadr zq2 zu3) SD0, w_X6 g (cadr zq4 zu5) SD0]) [4, 0, 1, 2, 3] 5 rfl (by decide) rfl (wc := [(zq6, .inr (5, [.int 0, .int 0, .null, .null, .null, .null, .null, .null]))]) (by simp only [List.flatten_cons, List.flatten_nil, List.append_nil]))
  obtain ⟨hPc, hDc⟩ := va_cut hP hD hq
  refine kw_veD (ws' := fun u : Nat → Nat => [[(h0, .inr (2, [.ref zq1, .int 0]))], [(zq1, .inl (g.2.2.2, 4, .inr (.inr (.inr (.inr (va_up (va_up (fun _ => none) 0 (some zq2)) 1 (some zq4)))))))], w_X6 g (cadr zq2 zu3) SD0, w_X6 g (cadr zq4 zu5) SD0, w_X6 g (cadr zq6 u) SD0].flatten) (va_runI (As := []) (rest := [.ref zq6, .int 2, .ref zq1]) ⟨hx, hb, hml, hown, htG⟩ (kX6_init l g zq6 _) (cwI 0 htG (GC g1_24) rfl rfl rfl (htG _ g1_2) (htG _ g1_168) (htG _ g1_23) rfl hi_X6 ⟨Nat.le_of_ble_eq_true rfl, Nat.le_of_ble_eq_true rfl⟩) (PW_SA (As := [.ref zq6]) hK hL hS hPc hDc hA) rfl rfl hl.1 rfl (lv_room (Nat.le_of_ble_eq_true rfl)) dX2_init_37 ⟨Nat.le_of_ble_eq_true rfl, Nat.le_of_ble_eq_true rfl⟩) hP hD hS hA hq (fun u => (blkQ (bs := [[(h0, .inr (2, [.ref zq1, .int 0]))], [(zq1, .inl (g.2.2.2, 4, .inr (.inr (.inr (.inr (va_up (va_up (fun _ => none) 0 (some zq2)) 1 (some zq4)))))))], w_X6 g (cadr zq2 zu3) SD0, w_X6 g (cadr zq4 zu5) SD0, w_X6 g (cadr zq6 u) SD0]) (cs := [w_X6 g (cadr zq6 u) SD0]) (rs := [[(h0, .inr (2, [.ref zq1, .int 0]))], [(zq1, .inl (g.2.2.2, 4, .inr (.inr (.inr (.inr (va_up (va_up (fun _ => none) 0 (some zq2)) 1 (some zq4)))))))], w_X6 g (cadr zq2 zu3) SD0, w_X6 g (cadr zq4 zu5) SD0]) [4, 0, 1, 2, 3] 5 rfl (by decide) rfl (wc := w_X6 g (cadr zq6 u) SD0) (by simp only [List.flatten_cons, List.flatten_nil, List.append_nil]))) (fun zu7 H locs _ hP hD hS => ?_)
  have hP : va_P g.1 vwCl ([[(h0, .inr (2, [.ref zq1, .int 0]))], [(zq1, .inl (g.2.2.2, 4, .inr (.inr (.inr (.inr (va_up (va_up (fun _ => none) 0 (some zq2)) 1 (some zq4)))))))], w_X6 g (cadr zq2 zu3) SD0, w_X6 g (cadr zq4 zu5) SD0, w_X6 g (cadr zq6 zu7) SD0].flatten) H := hP
  have hD : va_D A ([[(h0, .inr (2, [.ref zq1, .int 0]))], [(zq1, .inl (g.2.2.2, 4, .inr (.inr (.inr (.inr (va_up (va_up (fun _ => none) 0 (some zq2)) 1 (some zq4)))))))], w_X6 g (cadr zq2 zu3) SD0, w_X6 g (cadr zq4 zu5) SD0, w_X6 g (cadr zq6 zu7) SD0].flatten) := hD
  refine astq_e (v := zq6) hx hb hK.1 hP hD hS 1 2 38 5 rfl rfl rfl rfl (ib_in (by decide +kernel)) dX2_init_40 rfl (fun H locs hP hD hS => ?_)
  have hP : va_P g.1 vwCl ([[(h0, .inr (2, [.ref zq1, .int 0]))], [(zq1, .inl (g.2.2.2, 4, .inr (.inr (.inr (.inr (va_up (va_up (va_up (fun _ => none) 0 (some zq2)) 1 (some zq4)) 2 (some zq6)))))))], w_X6 g (cadr zq2 zu3) SD0, w_X6 g (cadr zq4 zu5) SD0, w_X6 g (cadr zq6 zu7) SD0].flatten) H := hP
  have hD : va_D A ([[(h0, .inr (2, [.ref zq1, .int 0]))], [(zq1, .inl (g.2.2.2, 4, .inr (.inr (.inr (.inr (va_up (va_up (va_up (fun _ => none) 0 (some zq2)) 1 (some zq4)) 2 (some zq6)))))))], w_X6 g (cadr zq2 zu3) SD0, w_X6 g (cadr zq4 zu5) SD0, w_X6 g (cadr zq6 zu7) SD0].flatten) := hD
  refine lv_iinc (v := 3) (lv' := [(1, .int 3), (0, .ref h0)]) hx hb dX2_init_41 hl (k := 0) rfl (by decide) (by decide) rfl (fun ls hl => ?_)
  refine lv_goto (tgt := 19) hx hb dX2_init_44 (by decide) ?_
  refine lv_iload_n hx hb dX2_init_19 rfl (lv_at hl 0 rfl) ?_
  refine lv_aload_n hx hb dX2_init_20 rfl (lv_at hl 1 rfl) ?_
  refine va_get (D := g.1) (ci := 2) (v := .ref zq1) (C := RX2) (T := TX2) (N := 2) hx hb htG in_wsX20 hown hK.1 hP 0 rfl rfl 0 (by decide) (htG _ g1_169) (fun _ h9 => h9) rfl dX2_init_21 ?_
  refine va_alen hx hb hK.1 hP 1 2 rfl rfl (v := 4) rfl dX2_init_24 ?_
  refine lv_icmp_ge (tgt := 47) hx hb dX2_init_25 (by decide) (fun h => absurd h (by decide)) (fun _ => ?_)
  refine lv_aload_n hx hb dX2_init_28 rfl (lv_at hl 1 rfl) ?_
  refine va_get (D := g.1) (ci := 2) (v := .ref zq1) (C := RX2) (T := TX2) (N := 2) hx hb htG in_wsX20 hown hK.1 hP 0 rfl rfl 0 (by decide) (htG _ g1_169) (fun _ h9 => h9) rfl dX2_init_29 ?_
  refine lv_iload_n hx hb dX2_init_32 rfl (lv_at hl 0 rfl) ?_
  refine va_new (ci := 5) (fs := [.int 0, .int 0, .null, .null, .null, .null, .null, .null]) (C := RX6) (T := TX6) (N := 8) hx hb htG in_wsX60 tyX6 tyX6_ok hown (htG _ g1_166) (htG _ g1_21) (htG _ g1_2) hK.1 hP hD hS hA rfl (fun j hj => by rcases (show j = 0 ∨ j = 1 ∨ j = 2 ∨ j = 3 ∨ j = 4 ∨ j = 5 ∨ j = 6 ∨ j = 7 by omega) with rfl | rfl | rfl | rfl | rfl | rfl | rfl | rfl <;> rfl) (Nat.le_of_ble_eq_true rfl) (Nat.le_of_ble_eq_true rfl) dX2_init_33 (fun zq8 H hP hD hS => ?_)
  have hP : va_P g.1 vwCl ([[(h0, .inr (2, [.ref zq1, .int 0]))], [(zq1, .inl (g.2.2.2, 4, .inr (.inr (.inr (.inr (va_up (va_up (va_up (fun _ => none) 0 (some zq2)) 1 (some zq4)) 2 (some zq6)))))))], w_X6 g (cadr zq2 zu3) SD0, w_X6 g (cadr zq4 zu5) SD0, w_X6 g (cadr zq6 zu7) SD0, [(zq8, .inr (5, [.int 0, .int 0, .null, .null, .null, .null, .null, .null]))]].flatten) H := hP
  have hD : va_D A ([[(h0, .inr (2, [.ref zq1, .int 0]))], [(zq1, .inl (g.2.2.2, 4, .inr (.inr (.inr (.inr (va_up (va_up (va_up (fun _ => none) 0 (some zq2)) 1 (some zq4)) 2 (some zq6)))))))], w_X6 g (cadr zq2 zu3) SD0, w_X6 g (cadr zq4 zu5) SD0, w_X6 g (cadr zq6 zu7) SD0, [(zq8, .inr (5, [.int 0, .int 0, .null, .null, .null, .null, .null, .null]))]].flatten) := hD
  refine lv_dup hx hb dX2_init_36 rfl ?_
  have hq := (blkQ (bs := [[(h0, .inr (2, [.ref zq1, .int 0]))], [(zq1, .inl (g.2.2.2, 4, .inr (.inr (.inr (.inr (va_up (va_up (va_up (fun _ => none) 0 (some zq2)) 1 (some zq4)) 2 (some zq6)))))))], w_X6 g (cadr zq2 zu3) SD0, w_X6 g (cadr zq4 zu5) SD0, w_X6 g (cadr zq6 zu7) SD0, [(zq8, .inr (5, [.int 0, .int 0, .null, .null, .null, .null, .null, .null]))]]) (cs := [[(zq8, .inr (5, [.int 0, .int 0, .null, .null, .null, .null, .null, .null]))]]) (rs := [[(h0, .inr (2, [.ref zq1, .int 0]))], [(zq1, .inl (g.2.2.2, 4, .inr (.inr (.inr (.inr (va_up (va_up (va_up (fun _ => none) 0 (some zq2)) 1 (some zq4)) 2 (some zq6)))))))], w_X6 g (cadr zq2 zu3) SD0, w_X6 g (cadr zq4 zu5) SD0, w_X6 g (cadr zq6 zu7) SD0]) [5, 0, 1, 2, 3, 4] 6 rfl (by decide) rfl (wc := [(zq8, .inr (5, [.int 0, .int 0, .null, .null, .null, .null, .null, .null]))]) (by simp only [List.flatten_cons, List.flatten_nil, List.append_nil]))
  obtain ⟨hPc, hDc⟩ := va_cut hP hD hq
  refine kw_veD (ws' := fun u : Nat → Nat => [[(h0, .inr (2, [.ref zq1, .int 0]))], [(zq1, .inl (g.2.2.2, 4, .inr (.inr (.inr (.inr (va_up (va_up (va_up (fun _ => none) 0 (some zq2)) 1 (some zq4)) 2 (some zq6)))))))], w_X6 g (cadr zq2 zu3) SD0, w_X6 g (cadr zq4 zu5) SD0, w_X6 g (cadr zq6 zu7) SD0, w_X6 g (cadr zq8 u) SD0].flatten) (va_runI (As := []) (rest := [.ref zq8, .int 3, .ref zq1]) ⟨hx, hb, hml, hown, htG⟩ (kX6_init l g zq8 _) (cwI 0 htG (GC g1_24) rfl rfl rfl (htG _ g1_2) (htG _ g1_168) (htG _ g1_23) rfl hi_X6 ⟨Nat.le_of_ble_eq_true rfl, Nat.le_of_ble_eq_true rfl⟩) (PW_SA (As := [.ref zq8]) hK hL hS hPc hDc hA) rfl rfl hl.1 rfl (lv_room (Nat.le_of_ble_eq_true rfl)) dX2_init_37 ⟨Nat.le_of_ble_eq_true rfl, Nat.le_of_ble_eq_true rfl⟩) hP hD hS hA hq (fun u => (blkQ (bs := [[(h0, .inr (2, [.ref zq1, .int 0]))], [(zq1, .inl (g.2.2.2, 4, .inr (.inr (.inr (.inr (va_up (va_up (va_up (fun _ => none) 0 (some zq2)) 1 (some zq4)) 2 (some zq6)))))))], w_X6 g (cadr zq2 zu3) SD0, w_X6 g (cadr zq4 zu5) SD0, w_X6 g (cadr zq6 zu7) SD0, w_X6 g (cadr zq8 u) SD0]) (cs := [w_X6 g (cadr zq8 u) SD0]) (rs := [[(h0, .inr (2, [.ref zq1, .int 0]))], [(zq1, .inl (g.2.2.2, 4, .inr (.inr (.inr (.inr (va_up (va_up (va_up (fun _ => none) 0 (some zq2)) 1 (some zq4)) 2 (some zq6)))))))], w_X6 g (cadr zq2 zu3) SD0, w_X6 g (cadr zq4 zu5) SD0, w_X6 g (cadr zq6 zu7) SD0]) [5, 0, 1, 2, 3, 4] 6 rfl (by decide) rfl (wc := w_X6 g (cadr zq8 u) SD0) (by simp only [List.flatten_cons, List.flatten_nil, List.append_nil]))) (fun zu9 H locs _ hP hD hS => ?_)
  have hP : va_P g.1 vwCl ([[(h0, .inr (2, [.ref zq1, .int 0]))], [(zq1, .inl (g.2.2.2, 4, .inr (.inr (.inr (.inr (va_up (va_up (va_up (fun _ => none) 0 (some zq2)) 1 (some zq4)) 2 (some zq6)))))))], w_X6 g (cadr zq2 zu3) SD0, w_X6 g (cadr zq4 zu5) SD0, w_X6 g (cadr zq6 zu7) SD0, w_X6 g (cadr zq8 zu9) SD0].flatten) H := hP
  have hD : va_D A ([[(h0, .inr (2, [.ref zq1, .int 0]))], [(zq1, .inl (g.2.2.2, 4, .inr (.inr (.inr (.inr (va_up (va_up (va_up (fun _ => none) 0 (some zq2)) 1 (some zq4)) 2 (some zq6)))))))], w_X6 g (cadr zq2 zu3) SD0, w_X6 g (cadr zq4 zu5) SD0, w_X6 g (cadr zq6 zu7) SD0, w_X6 g (cadr zq8 zu9) SD0].flatten) := hD
  refine astq_e (v := zq8) hx hb hK.1 hP hD hS 1 2 56 5 rfl rfl rfl rfl (ib_in (by decide +kernel)) dX2_init_40 rf4_mk (fun H locs hP hD hS => ?_)
  have hP : va_P g.1 vwCl ([[(h0, .inr (2, [.ref zq1, .int 0]))], [(zq1, .inl (g.2.2.2, 4, .inr (.inr (.inr (.inr (rf4 zq2 zq4 zq6 zq8))))))], w_X6 g (cadr zq2 zu3) SD0, w_X6 g (cadr zq4 zu5) SD0, w_X6 g (cadr zq6 zu7) SD0, w_X6 g (cadr zq8 zu9) SD0].flatten) H := hP
  have hD : va_D A ([[(h0, .inr (2, [.ref zq1, .int 0]))], [(zq1, .inl (g.2.2.2, 4, .inr (.inr (.inr (.inr (rf4 zq2 zq4 zq6 zq8))))))], w_X6 g (cadr zq2 zu3) SD0, w_X6 g (cadr zq4 zu5) SD0, w_X6 g (cadr zq6 zu7) SD0, w_X6 g (cadr zq8 zu9) SD0].flatten) := hD
  refine lv_iinc (v := 4) (lv' := [(1, .int 4), (0, .ref h0)]) hx hb dX2_init_41 hl (k := 0) rfl (by decide) (by decide) rfl (fun ls hl => ?_)
  refine lv_goto (tgt := 19) hx hb dX2_init_44 (by decide) ?_
  refine lv_iload_n hx hb dX2_init_19 rfl (lv_at hl 0 rfl) ?_
  refine lv_aload_n hx hb dX2_init_20 rfl (lv_at hl 1 rfl) ?_
  refine va_get (D := g.1) (ci := 2) (v := .ref zq1) (C := RX2) (T := TX2) (N := 2) hx hb htG in_wsX20 hown hK.1 hP 0 rfl rfl 0 (by decide) (htG _ g1_169) (fun _ h9 => h9) rfl dX2_init_21 ?_
  refine va_alen hx hb hK.1 hP 1 2 rfl rfl (v := 4) rfl dX2_init_24 ?_
  refine lv_icmp_ge (tgt := 47) hx hb dX2_init_25 (by decide) (fun _ => ?_) (fun h => absurd (by decide) h)
  have hP : va_P g.1 vwCl ((B2 g h0 zq1 (HY0 (cadr zq2 zu3) (cadr zq4 zu5) (cadr zq6 zu7) (cadr zq8 zu9))).flatten) H := hP
  have hD : va_D A ((B2 g h0 zq1 (HY0 (cadr zq2 zu3) (cadr zq4 zu5) (cadr zq6 zu7) (cadr zq8 zu9))).flatten) := hD
  exact W.vret hx hb hr (fun t ht hW => ⟨⟨(zq1, cadr zq2 zu3, cadr zq4 zu5, cadr zq6 zu7, cadr zq8 zu9), rfl, trivial, atH ht hP, hD⟩, hS.F ht⟩) hS.2.2 dX2_init_47
