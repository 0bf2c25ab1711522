def fX8_type (y : (Int32 × Int32 × Int32)) (w : PD) (p1 : Int32) : Option (Int32 × PD) := ((fX3_append w p1).bind (fun zq1 => some (zq1.1, zq1.2)))
abbrev rm_X8_type : Jvm.Room := { frames := 1, cells := 0, slots := 0, locals := 21 }
theorem hd_X8_type : yX8_type.cls = RX8 ∧ yX8_type.cls ≠ "java/lang/invoke/MethodHandle" ∧ yX8_type.cls ≠ "java/lang/invoke/VarHandle" ∧ (parseMethodDescriptor yX8_type.desc).map (fun d => d.parameters.length) = some 1 := by decide +kernel
set_option maxHeartbeats 4000000 in
set_option maxRecDepth 100000 in
theorem kX8_type (l : Launch) (g : CX) (h0 jH jA jP jT : Nat) (aN aB aS : Nat → Nat) (sz : Nat) (y : (Int32 × Int32 × Int32)) (w : PD) (p1 : Int32) (res : Int32 × PD) (hm0 : fX8_type y w p1 = some res) : Met l yX8_type (wg yX8_type cX8_type 2 (some .int)) rm_X8_type (PW g [.ref h0, .int p1] sz ([w_hh g h0 jH jP aN aB aS y, w_X3 g jP jT w].flatten)) (va_Qi (fun v r => v = res.1 ∧ r = res.2) (fun r t => va_P g.1 vwCl ([w_hh g h0 jH jP aN aB aS y, w_X3 g jP jT r].flatten) t.heap ∧ va_D (va_A ([w_hh g h0 jH jP aN aB aS y, w_X3 g jP jT w].flatten) sz) ([w_hh g h0 jH jP aN aB aS y, w_X3 g jP jT r].flatten)) (va_A ([w_hh g h0 jH jP aN aB aS y, w_X3 g jP jT w].flatten) sz)) 0 0 (va_A ([w_hh g h0 jH jP aN aB aS y, w_X3 g jP jT w].flatten) sz) := by
  refine Met.ofW (cc := cX8_type) (maxL := 2) (ret := (some .int)) (by decide) rfl ?_
  intro p e s m args below meth c s₁ B hml hv
  obtain ⟨rfl, hsz, hP, hK, hD0, hL⟩ := hv
  have hx := B.exec
  have hb := B.bytes
  have hr := B.returns
  have htG := wg_G (atoms_spec (ws := wg yX8_type cX8_type 2 (some .int)) B.pre)
  have hown : s.vm.findClass RX8 = some m.cls := findClass_of_methodNamed B.named
  have hlocks := B.notSynchronized
  subst hsz
  have hD := hD0.self (sz := s.heap.size)
  generalize hAe : va_A ([w_hh g h0 jH jP aN aB aS y, w_X3 g jP jT w].flatten) s.heap.size = A at hD hL ⊢
  have hA : ∀ q : Nat, s.heap.size ≤ q → A q := fun q h => by rw [← hAe]; exact Or.inr h
  have hS : va_S A s.heap s.heap [] := va_S.rf
  have hl := lv_entry ([.ref h0, .int p1]) (n := 2) (Nat.le_of_ble_eq_true rfl)
  rw [lg_entry_eq]
  generalize (lg_sl ([.ref h0, .int p1]) ++ List.replicate (2 - (lg_sl ([.ref h0, .int p1])).length) Slot.unset).toArray = ls at hl ⊢
  have hl : lv_has ls 2 [(0, .ref h0), (1, .int p1)] := hl
  have hm := hm0
  unfold fX8_type at hm
  refine lv_aload_n hx hb dX8_type_0 rfl (lv_at hl 0 rfl) ?_
  refine va_get (D := g.1) (ci := 7) (v := .ref jP) (C := RX8) (T := TX8) (N := 8) hx hb htG in_wsX80 hown hK.1 hP 0 rfl rfl 5 (by decide) (htG _ g1_230) (fun _ h9 => h9) rfl dX8_type_1 ?_
  refine lv_iload_n hx hb dX8_type_4 rfl (lv_at hl 1 rfl) ?_
  obtain ⟨zq1, hzq1, hm⟩ := bdk hm
  have hq := (blkQ (bs := [w_hh g h0 jH jP aN aB aS y, w_X3 g jP jT w]) (cs := [w_X3 g jP jT w]) (rs := [w_hh g h0 jH jP aN aB aS y]) [1, 0] 2 rfl (by decide) rfl (wc := (w_X3 g jP jT w)) (by simp only [List.flatten_cons, List.flatten_nil, List.append_nil]))
  obtain ⟨hPc, hDc⟩ := va_cut hP hD hq
  refine kw_ieB (va_runV (As := [.int p1]) (rest := []) ⟨hx, hb, hml, hown, htG⟩ (kX3_append l g jP jT _ w p1 _ hzq1) (cwV 1 htG (GV g3_42 g3_43 g3_44 g1_9 g3_45) rfl rfl rfl hd_X3_append ⟨Nat.le_of_ble_eq_true rfl, Nat.le_of_ble_eq_true rfl⟩) (PW_VA hK hL hS hPc hDc hA (ci := 3) rfl 0 rfl) rfl rfl hl.1 rfl (lv_room (Nat.le_of_ble_eq_true rfl)) dX8_type_5 ⟨Nat.zero_le _, Nat.zero_le _⟩) hP hD hS hA hq (blkQ (bs := [w_hh g h0 jH jP aN aB aS y, w_X3 g jP jT zq1.2]) (cs := [w_X3 g jP jT zq1.2]) (rs := [w_hh g h0 jH jP aN aB aS y]) [1, 0] 2 rfl (by decide) rfl (wc := (w_X3 g jP jT zq1.2)) (by simp only [List.flatten_cons, List.flatten_nil, List.append_nil])) (List.Perm.refl _) (fun H locs hP hD hS => ?_)
  have hP : va_P g.1 vwCl ([w_hh g h0 jH jP aN aB aS y, w_X3 g jP jT zq1.2].flatten) H := hP
  have hD : va_D A ([w_hh g h0 jH jP aN aB aS y, w_X3 g jP jT zq1.2].flatten) := hD
  exact W.iret (v := zq1.1) hx hb hr (fun t ht hW => ⟨⟨_, _, rfl, pr1 (Option.some.inj hm), atH ht hP, hD⟩, hS.F ht⟩) hS.2.2 dX8_type_8
def fX8_clearText (y : (Int32 × Int32 × Int32)) (w : PD) : Int32 × PD := (bnd (fX3_empty w) (fun zq1 => (zq1.1, zq1.2)))
abbrev rm_X8_clearText : Jvm.Room := { frames := 1, cells := 0, slots := 0, locals := 21 }
theorem hd_X8_clearText : yX8_clearText.cls = RX8 ∧ yX8_clearText.cls ≠ "java/lang/invoke/MethodHandle" ∧ yX8_clearText.cls ≠ "java/lang/invoke/VarHandle" ∧ (parseMethodDescriptor yX8_clearText.desc).map (fun d => d.parameters.length) = some 0 := by decide +kernel
set_option maxHeartbeats 4000000 in
set_option maxRecDepth 100000 in
theorem kX8_clearText (l : Launch) (g : CX) (h0 jH jA jP jT : Nat) (aN aB aS : Nat → Nat) (sz : Nat) (y : (Int32 × Int32 × Int32)) (w : PD) (res : Int32 × PD) (hm0 : fX8_clearText y w = res) : Met l yX8_clearText (wg yX8_clearText cX8_clearText 1 (some .int)) rm_X8_clearText (PW g [.ref h0] sz ([w_hh g h0 jH jP aN aB aS y, w_X3 g jP jT w].flatten)) (va_Qi (fun v r => v = res.1 ∧ r = res.2) (fun r t => va_P g.1 vwCl ([w_hh g h0 jH jP aN aB aS y, w_X3 g jP jT r].flatten) t.heap ∧ va_D (va_A ([w_hh g h0 jH jP aN aB aS y, w_X3 g jP jT w].flatten) sz) ([w_hh g h0 jH jP aN aB aS y, w_X3 g jP jT r].flatten)) (va_A ([w_hh g h0 jH jP aN aB aS y, w_X3 g jP jT w].flatten) sz)) 0 0 (va_A ([w_hh g h0 jH jP aN aB aS y, w_X3 g jP jT w].flatten) sz) := by
  refine Met.ofW (cc := cX8_clearText) (maxL := 1) (ret := (some .int)) (by decide) rfl ?_
  intro p e s m args below meth c s₁ B hml hv
  obtain ⟨rfl, hsz, hP, hK, hD0, hL⟩ := hv
  have hx := B.exec
  have hb := B.bytes
  have hr := B.returns
  have htG := wg_G (atoms_spec (ws := wg yX8_clearText cX8_clearText 1 (some .int)) B.pre)
  have hown : s.vm.findClass RX8 = some m.cls := findClass_of_methodNamed B.named
  have hlocks := B.notSynchronized
  subst hsz
  have hD := hD0.self (sz := s.heap.size)
  generalize hAe : va_A ([w_hh g h0 jH jP aN aB aS y, w_X3 g jP jT w].flatten) s.heap.size = A at hD hL ⊢
  have hA : ∀ q : Nat, s.heap.size ≤ q → A q := fun q h => by rw [← hAe]; exact Or.inr h
  have hS : va_S A s.heap s.heap [] := va_S.rf
  have hl := lv_entry ([.ref h0]) (n := 1) (Nat.le_of_ble_eq_true rfl)
  rw [lg_entry_eq]
  generalize (lg_sl ([.ref h0]) ++ List.replicate (1 - (lg_sl ([.ref h0])).length) Slot.unset).toArray = ls at hl ⊢
  have hl : lv_has ls 1 [(0, .ref h0)] := hl
  have hm := hm0
  unfold fX8_clearText at hm
  refine lv_aload_n hx hb dX8_clearText_0 rfl (lv_at hl 0 rfl) ?_
  refine va_get (D := g.1) (ci := 7) (v := .ref jP) (C := RX8) (T := TX8) (N := 8) hx hb htG in_wsX80 hown hK.1 hP 0 rfl rfl 5 (by decide) (htG _ g1_230) (fun _ h9 => h9) rfl dX8_clearText_1 ?_
  obtain ⟨zq1, hzq1, hm⟩ := bnk hm
  have hq := (blkQ (bs := [w_hh g h0 jH jP aN aB aS y, w_X3 g jP jT w]) (cs := [w_X3 g jP jT w]) (rs := [w_hh g h0 jH jP aN aB aS y]) [1, 0] 2 rfl (by decide) rfl (wc := (w_X3 g jP jT w)) (by simp only [List.flatten_cons, List.flatten_nil, List.append_nil]))
  obtain ⟨hPc, hDc⟩ := va_cut hP hD hq
  refine kw_ieB (va_runV (As := []) (rest := []) ⟨hx, hb, hml, hown, htG⟩ (kX3_empty l g jP jT _ w _ hzq1) (cwV 0 htG (GV g3_50 g3_51 g3_52 g1_9 g3_53) rfl rfl rfl hd_X3_empty ⟨Nat.le_of_ble_eq_true rfl, Nat.le_of_ble_eq_true rfl⟩) (PW_VA hK hL hS hPc hDc hA (ci := 3) rfl 0 rfl) rfl rfl hl.1 rfl (lv_room (Nat.le_of_ble_eq_true rfl)) dX8_clearText_4 ⟨Nat.zero_le _, Nat.zero_le _⟩) hP hD hS hA hq (blkQ (bs := [w_hh g h0 jH jP aN aB aS y, w_X3 g jP jT zq1.2]) (cs := [w_X3 g jP jT zq1.2]) (rs := [w_hh g h0 jH jP aN aB aS y]) [1, 0] 2 rfl (by decide) rfl (wc := (w_X3 g jP jT zq1.2)) (by simp only [List.flatten_cons, List.flatten_nil, List.append_nil])) (List.Perm.refl _) (fun H locs hP hD hS => ?_)
  have hP : va_P g.1 vwCl ([w_hh g h0 jH jP aN aB aS y, w_X3 g jP jT zq1.2].flatten) H := hP
  have hD : va_D A ([w_hh g h0 jH jP aN aB aS y, w_X3 g jP jT zq1.2].flatten) := hD
  exact W.iret (v := zq1.1) hx hb hr (fun t ht hW => ⟨⟨_, _, rfl, pr1 hm, atH ht hP, hD⟩, hS.F ht⟩) hS.2.2 dX8_clearText_7
def fX8_undo (y : (Int32 × Int32 × Int32)) (xN : SD) (u : HDT) : Option (Int32 × SD × HDT) := ((fX2_takeLatest u xN).bind (fun zq1 => (if zq1.1 = 0 then some ((-5), zq1.2.2, zq1.2.1) else some (zq1.2.1.1, zq1.2.2, zq1.2.1))))
abbrev rm_X8_undo : Jvm.Room := { frames := 5, cells := 0, slots := 0, locals := 125 }
theorem hd_X8_undo : yX8_undo.cls = RX8 ∧ yX8_undo.cls ≠ "java/lang/invoke/MethodHandle" ∧ yX8_undo.cls ≠ "java/lang/invoke/VarHandle" ∧ (parseMethodDescriptor yX8_undo.desc).map (fun d => d.parameters.length) = some 0 := by decide +kernel
set_option maxHeartbeats 4000000 in
set_option maxRecDepth 100000 in
theorem kX8_undo (l : Launch) (g : CX) (h0 jH jA jP jT : Nat) (aN aB aS : Nat → Nat) (sz : Nat) (y : (Int32 × Int32 × Int32)) (xN : SD) (u : HDT) (res : Int32 × SD × HDT) (hm0 : fX8_undo y xN u = some res) : Met l yX8_undo (wg yX8_undo cX8_undo 1 (some .int)) rm_X8_undo (PW g [.ref h0] sz ([w_hh g h0 jH jP aN aB aS y, w_X6 g aN xN, w_hd g jH jA u.1 (u.2.1.1 0) (u.2.2.1.1 0) (u.2.2.2.1.1 0) (u.2.2.2.2.1 0), w_X6 g u.2.1.1 u.2.1.2, w_X6 g u.2.2.1.1 u.2.2.1.2, w_X6 g u.2.2.2.1.1 u.2.2.2.1.2, w_X6 g u.2.2.2.2.1 u.2.2.2.2.2].flatten)) (va_Qi (fun v r => v = res.1 ∧ r = res.2) (fun r t => va_P g.1 vwCl ([w_hh g h0 jH jP aN aB aS y, w_X6 g aN r.1, w_hd g jH jA r.2.1 (r.2.2.1.1 0) (r.2.2.2.1.1 0) (r.2.2.2.2.1.1 0) (r.2.2.2.2.2.1 0), w_X6 g r.2.2.1.1 r.2.2.1.2, w_X6 g r.2.2.2.1.1 r.2.2.2.1.2, w_X6 g r.2.2.2.2.1.1 r.2.2.2.2.1.2, w_X6 g r.2.2.2.2.2.1 r.2.2.2.2.2.2].flatten) t.heap ∧ va_D (va_A ([w_hh g h0 jH jP aN aB aS y, w_X6 g aN xN, w_hd g jH jA u.1 (u.2.1.1 0) (u.2.2.1.1 0) (u.2.2.2.1.1 0) (u.2.2.2.2.1 0), w_X6 g u.2.1.1 u.2.1.2, w_X6 g u.2.2.1.1 u.2.2.1.2, w_X6 g u.2.2.2.1.1 u.2.2.2.1.2, w_X6 g u.2.2.2.2.1 u.2.2.2.2.2].flatten) sz) ([w_hh g h0 jH jP aN aB aS y, w_X6 g aN r.1, w_hd g jH jA r.2.1 (r.2.2.1.1 0) (r.2.2.2.1.1 0) (r.2.2.2.2.1.1 0) (r.2.2.2.2.2.1 0), w_X6 g r.2.2.1.1 r.2.2.1.2, w_X6 g r.2.2.2.1.1 r.2.2.2.1.2, w_X6 g r.2.2.2.2.1.1 r.2.2.2.2.1.2, w_X6 g r.2.2.2.2.2.1 r.2.2.2.2.2.2].flatten)) (va_A ([w_hh g h0 jH jP aN aB aS y, w_X6 g aN xN, w_hd g jH jA u.1 (u.2.1.1 0) (u.2.2.1.1 0) (u.2.2.2.1.1 0) (u.2.2.2.2.1 0), w_X6 g u.2.1.1 u.2.1.2, w_X6 g u.2.2.1.1 u.2.2.1.2, w_X6 g u.2.2.2.1.1 u.2.2.2.1.2, w_X6 g u.2.2.2.2.1 u.2.2.2.2.2].flatten) sz)) 0 0 (va_A ([w_hh g h0 jH jP aN aB aS y, w_X6 g aN xN, w_hd g jH jA u.1 (u.2.1.1 0) (u.2.2.1.1 0) (u.2.2.2.1.1 0) (u.2.2.2.2.1 0), w_X6 g u.2.1.1 u.2.1.2, w_X6 g u.2.2.1.1 u.2.2.1.2, w_X6 g u.2.2.2.1.1 u.2.2.2.1.2, w_X6 g u.2.2.2.2.1 u.2.2.2.2.2].flatten) sz) := by
  refine Met.ofW (cc := cX8_undo) (maxL := 1) (ret := (some .int)) (by decide) rfl ?_
  intro p e s m args below meth c s₁ B hml hv
  obtain ⟨rfl, hsz, hP, hK, hD0, hL⟩ := hv
  have hx := B.exec
  have hb := B.bytes
  have hr := B.returns
  have htG := wg_G (atoms_spec (ws := wg yX8_undo cX8_undo 1 (some .int)) B.pre)
  have hown : s.vm.findClass RX8 = some m.cls := findClass_of_methodNamed B.named
  have hlocks := B.notSynchronized
  subst hsz
  have hD := hD0.self (sz := s.heap.size)
  generalize hAe : va_A ([w_hh g h0 jH jP aN aB aS y, w_X6 g aN xN, w_hd g jH jA u.1 (u.2.1.1 0) (u.2.2.1.1 0) (u.2.2.2.1.1 0) (u.2.2.2.2.1 0), w_X6 g u.2.1.1 u.2.1.2, w_X6 g u.2.2.1.1 u.2.2.1.2, w_X6 g u.2.2.2.1.1 u.2.2.2.1.2, w_X6 g u.2.2.2.2.1 u.2.2.2.2.2].flatten) s.heap.size = A at hD hL ⊢
  have hA : ∀ q : Nat, s.heap.size ≤ q → A q := fun q h => by rw [← hAe]; exact Or.inr h
  have hS : va_S A s.heap s.heap [] := va_S.rf
  have hl := lv_entry ([.ref h0]) (n := 1) (Nat.le_of_ble_eq_true rfl)
  rw [lg_entry_eq]
  generalize (lg_sl ([.ref h0]) ++ List.replicate (1 - (lg_sl ([.ref h0])).length) Slot.unset).toArray = ls at hl ⊢
  have hl : lv_has ls 1 [(0, .ref h0)] := hl
  have hm := hm0
  unfold fX8_undo at hm
  refine lv_aload_n hx hb dX8_undo_0 rfl (lv_at hl 0 rfl) ?_
  refine va_get (D := g.1) (ci := 7) (v := .ref jH) (C := RX8) (T := TX8) (N := 8) hx hb htG in_wsX80 hown hK.1 hP 0 rfl rfl 2 (by decide) (htG _ g1_227) (fun _ h9 => h9) rfl dX8_undo_1 ?_
  refine lv_aload_n hx hb dX8_undo_4 rfl (lv_at hl 0 rfl) ?_
  refine va_get (D := g.1) (ci := 7) (v := .ref (aN 0)) (C := RX8) (T := TX8) (N := 8) hx hb htG in_wsX80 hown hK.1 hP 0 rfl rfl 0 (by decide) (htG _ g1_225) (fun _ h9 => h9) rfl dX8_undo_5 ?_
  obtain ⟨zq1, hzq1, hm⟩ := bdk hm
  have hq := (blkQ (bs := [w_hh g h0 jH jP aN aB aS y, w_X6 g aN xN, w_hd g jH jA u.1 (u.2.1.1 0) (u.2.2.1.1 0) (u.2.2.2.1.1 0) (u.2.2.2.2.1 0), w_X6 g u.2.1.1 u.2.1.2, w_X6 g u.2.2.1.1 u.2.2.1.2, w_X6 g u.2.2.2.1.1 u.2.2.2.1.2, w_X6 g u.2.2.2.2.1 u.2.2.2.2.2]) (cs := [w_hd g jH jA u.1 (u.2.1.1 0) (u.2.2.1.1 0) (u.2.2.2.1.1 0) (u.2.2.2.2.1 0), w_X6 g u.2.1.1 u.2.1.2, w_X6 g u.2.2.1.1 u.2.2.1.2, w_X6 g u.2.2.2.1.1 u.2.2.2.1.2, w_X6 g u.2.2.2.2.1 u.2.2.2.2.2, w_X6 g aN xN]) (rs := [w_hh g h0 jH jP aN aB aS y]) [2, 3, 4, 5, 6, 1, 0] 7 rfl (by decide) rfl (wc := (B2 g jH jA u ++ [w_X6 g aN xN]).flatten) rfl)
  obtain ⟨hPc, hDc⟩ := va_cut hP hD hq
  refine kw_ieD (ws' := fun r => [w_hh g h0 jH jP aN aB aS y, w_X6 g aN r.2, w_hd g jH jA r.1.1 (r.1.2.1.1 0) (r.1.2.2.1.1 0) (r.1.2.2.2.1.1 0) (r.1.2.2.2.2.1 0), w_X6 g r.1.2.1.1 r.1.2.1.2, w_X6 g r.1.2.2.1.1 r.1.2.2.1.2, w_X6 g r.1.2.2.2.1.1 r.1.2.2.2.1.2, w_X6 g r.1.2.2.2.2.1 r.1.2.2.2.2.2].flatten) (va_runV (As := [.ref (aN 0)]) (rest := []) ⟨hx, hb, hml, hown, htG⟩ (kX2_takeLatest l g jH jA aN _ u xN _ hzq1) (cwV 1 htG (GV g3_100 g3_101 g3_102 g1_8 g3_103) rfl rfl rfl hd_X2_takeLatest ⟨Nat.le_of_ble_eq_true rfl, Nat.le_of_ble_eq_true rfl⟩) (PW_VA hK hL hS hPc hDc hA (ci := 2) rfl 0 rfl) rfl rfl hl.1 rfl (lv_room (Nat.le_of_ble_eq_true rfl)) dX8_undo_8 ⟨Nat.zero_le _, Nat.zero_le _⟩) hP hD hS hA hq (fun r => (blkQ (bs := [w_hh g h0 jH jP aN aB aS y, w_X6 g aN r.2, w_hd g jH jA r.1.1 (r.1.2.1.1 0) (r.1.2.2.1.1 0) (r.1.2.2.2.1.1 0) (r.1.2.2.2.2.1 0), w_X6 g r.1.2.1.1 r.1.2.1.2, w_X6 g r.1.2.2.1.1 r.1.2.2.1.2, w_X6 g r.1.2.2.2.1.1 r.1.2.2.2.1.2, w_X6 g r.1.2.2.2.2.1 r.1.2.2.2.2.2]) (cs := [w_hd g jH jA r.1.1 (r.1.2.1.1 0) (r.1.2.2.1.1 0) (r.1.2.2.2.1.1 0) (r.1.2.2.2.2.1 0), w_X6 g r.1.2.1.1 r.1.2.1.2, w_X6 g r.1.2.2.1.1 r.1.2.2.1.2, w_X6 g r.1.2.2.2.1.1 r.1.2.2.2.1.2, w_X6 g r.1.2.2.2.2.1 r.1.2.2.2.2.2, w_X6 g aN r.2]) (rs := [w_hh g h0 jH jP aN aB aS y]) [2, 3, 4, 5, 6, 1, 0] 7 rfl (by decide) rfl (wc := (B2 g jH jA r.1 ++ [w_X6 g aN r.2]).flatten) rfl)) (fun H locs hP hD hS => ?_)
  have hP : va_P g.1 vwCl ([w_hh g h0 jH jP aN aB aS y, w_X6 g aN zq1.2.2, w_hd g jH jA zq1.2.1.1 (zq1.2.1.2.1.1 0) (zq1.2.1.2.2.1.1 0) (zq1.2.1.2.2.2.1.1 0) (zq1.2.1.2.2.2.2.1 0), w_X6 g zq1.2.1.2.1.1 zq1.2.1.2.1.2, w_X6 g zq1.2.1.2.2.1.1 zq1.2.1.2.2.1.2, w_X6 g zq1.2.1.2.2.2.1.1 zq1.2.1.2.2.2.1.2, w_X6 g zq1.2.1.2.2.2.2.1 zq1.2.1.2.2.2.2.2].flatten) H := hP
  have hD : va_D A ([w_hh g h0 jH jP aN aB aS y, w_X6 g aN zq1.2.2, w_hd g jH jA zq1.2.1.1 (zq1.2.1.2.1.1 0) (zq1.2.1.2.2.1.1 0) (zq1.2.1.2.2.2.1.1 0) (zq1.2.1.2.2.2.2.1 0), w_X6 g zq1.2.1.2.1.1 zq1.2.1.2.1.2, w_X6 g zq1.2.1.2.2.1.1 zq1.2.1.2.2.1.2, w_X6 g zq1.2.1.2.2.2.1.1 zq1.2.1.2.2.2.1.2, w_X6 g zq1.2.1.2.2.2.2.1 zq1.2.1.2.2.2.2.2].flatten) := hD
  refine lv_if_eq (tgt := 24) hx hb dX8_undo_11 (by decide) (fun zc2 => ?_) (fun zc2 => ?_)
  · replace hm := (if_pos zc2).symm.trans hm
    refine lv_bipush (v := (-5)) hx hb dX8_undo_24 (by decide +kernel) ?_
    exact W.iret (v := (-5)) hx hb hr (fun t ht hW => ⟨⟨_, _, rfl, pr1 (Option.some.inj hm), atH ht hP, hD⟩, hS.F ht⟩) hS.2.2 dX8_undo_26
  · replace hm := (if_neg zc2).symm.trans hm
    refine lv_aload_n hx hb dX8_undo_14 rfl (lv_at hl 0 rfl) ?_
    refine va_get (D := g.1) (ci := 7) (v := .ref jH) (C := RX8) (T := TX8) (N := 8) hx hb htG in_wsX80 hown hK.1 hP 0 rfl rfl 2 (by decide) (htG _ g1_227) (fun _ h9 => h9) rfl dX8_undo_15 ?_
    refine ko_e (va_runV (As := []) (rest := []) ⟨hx, hb, hml, hown, htG⟩ (kX2_size l g jH jA zq1.2.1.1 (zq1.2.1.2.1.1 0) (zq1.2.1.2.2.1.1 0) (zq1.2.1.2.2.2.1.1 0) (zq1.2.1.2.2.2.2.1 0)) (cwV 0 htG (GV g3_104 g3_105 g3_106 g1_8 g3_107) rfl rfl rfl hd_X2_size ⟨Nat.le_of_ble_eq_true rfl, Nat.le_of_ble_eq_true rfl⟩) (PR_V hK hL hS hP [19, 20] rfl (ci := 2) rfl 19 rfl) rfl rfl hl.1 rfl (lv_room (Nat.le_of_ble_eq_true rfl)) dX8_undo_18 ⟨Nat.zero_le _, Nat.zero_le _⟩) ?_
    refine lv_goto (tgt := 26) hx hb dX8_undo_21 (by decide) ?_
    exact W.iret (v := zq1.2.1.1) hx hb hr (fun t ht hW => ⟨⟨_, _, rfl, pr1 (Option.some.inj hm), atH ht hP, hD⟩, hS.F ht⟩) hS.2.2 dX8_undo_26
def fX8_keep (y : (Int32 × Int32 × Int32)) (xN : SD) (xS : SD) : Option (Int32 × (Int32 × Int32 × Int32) × SD) := ((fX0_countAll xN.2.2.2.2.1).bind (fun zq1 => some (zq1, (1, y.2.1, y.2.2), xN)))
abbrev rm_X8_keep : Jvm.Room := { frames := 4, cells := 0, slots := 0, locals := 103 }
theorem hd_X8_keep : yX8_keep.cls = RX8 ∧ yX8_keep.cls ≠ "java/lang/invoke/MethodHandle" ∧ yX8_keep.cls ≠ "java/lang/invoke/VarHandle" ∧ (parseMethodDescriptor yX8_keep.desc).map (fun d => d.parameters.length) = some 0 := by decide +kernel
set_option maxHeartbeats 4000000 in
set_option maxRecDepth 100000 in
theorem kX8_keep (l : Launch) (g : CX) (h0 jH jA jP jT : Nat) (aN aB aS : Nat → Nat) (sz : Nat) (y : (Int32 × Int32 × Int32)) (xN : SD) (xS : SD) (res : Int32 × (Int32 × Int32 × Int32) × SD) (hm0 : fX8_keep y xN xS = some res) : Met l yX8_keep (wg yX8_keep cX8_keep 1 (some .int)) rm_X8_keep (PW g [.ref h0] sz ([w_hh g h0 jH jP aN aB aS y, w_X6 g aN xN, w_X6 g aS xS].flatten)) (va_Qi (fun v r => v = res.1 ∧ r = res.2) (fun r t => va_P g.1 vwCl ([w_hh g h0 jH jP aN aB aS r.1, w_X6 g aN xN, w_X6 g aS r.2].flatten) t.heap ∧ va_D (va_A ([w_hh g h0 jH jP aN aB aS y, w_X6 g aN xN, w_X6 g aS xS].flatten) sz) ([w_hh g h0 jH jP aN aB aS r.1, w_X6 g aN xN, w_X6 g aS r.2].flatten)) (va_A ([w_hh g h0 jH jP aN aB aS y, w_X6 g aN xN, w_X6 g aS xS].flatten) sz)) 0 0 (va_A ([w_hh g h0 jH jP aN aB aS y, w_X6 g aN xN, w_X6 g aS xS].flatten) sz) := by
  refine Met.ofW (cc := cX8_keep) (maxL := 1) (ret := (some .int)) (by decide) rfl ?_
  intro p e s m args below meth c s₁ B hml hv
  obtain ⟨rfl, hsz, hP, hK, hD0, hL⟩ := hv
  have hx := B.exec
  have hb := B.bytes
  have hr := B.returns
  have htG := wg_G (atoms_spec (ws := wg yX8_keep cX8_keep 1 (some .int)) B.pre)
  have hown : s.vm.findClass RX8 = some m.cls := findClass_of_methodNamed B.named
  have hlocks := B.notSynchronized
  subst hsz
  have hD := hD0.self (sz := s.heap.size)
  generalize hAe : va_A ([w_hh g h0 jH jP aN aB aS y, w_X6 g aN xN, w_X6 g aS xS].flatten) s.heap.size = A at hD hL ⊢
  have hA : ∀ q : Nat, s.heap.size ≤ q → A q := fun q h => by rw [← hAe]; exact Or.inr h
  have hS : va_S A s.heap s.heap [] := va_S.rf
  have hl := lv_entry ([.ref h0]) (n := 1) (Nat.le_of_ble_eq_true rfl)
  rw [lg_entry_eq]
  generalize (lg_sl ([.ref h0]) ++ List.replicate (1 - (lg_sl ([.ref h0])).length) Slot.unset).toArray = ls at hl ⊢
  have hl : lv_has ls 1 [(0, .ref h0)] := hl
  have hm := hm0
  unfold fX8_keep at hm
  refine lv_aload_n hx hb dX8_keep_0 rfl (lv_at hl 0 rfl) ?_
  refine va_get (D := g.1) (ci := 7) (v := .ref (aS 0)) (C := RX8) (T := TX8) (N := 8) hx hb htG in_wsX80 hown hK.1 hP 0 rfl rfl 3 (by decide) (htG _ g1_228) (fun _ h9 => h9) rfl dX8_keep_1 ?_
  refine lv_aload_n hx hb dX8_keep_4 rfl (lv_at hl 0 rfl) ?_
  refine va_get (D := g.1) (ci := 7) (v := .ref (aN 0)) (C := RX8) (T := TX8) (N := 8) hx hb htG in_wsX80 hown hK.1 hP 0 rfl rfl 0 (by decide) (htG _ g1_225) (fun _ h9 => h9) rfl dX8_keep_5 ?_
  have hq := (blkQ (bs := [w_hh g h0 jH jP aN aB aS y, w_X6 g aN xN, w_X6 g aS xS]) (cs := [w_X6 g aS xS, w_X6 g aN xN]) (rs := [w_hh g h0 jH jP aN aB aS y]) [2, 1, 0] 3 rfl (by decide) rfl (wc := (w_X6 g aS xS) ++ (w_X6 g aN xN)) (by simp only [List.flatten_cons, List.flatten_nil, List.append_nil]))
  obtain ⟨hPc, hDc⟩ := va_cut hP hD hq
  refine kw_veB (va_runV (As := [.ref (aN 0)]) (rest := []) ⟨hx, hb, hml, hown, htG⟩ (kX6_copy l g aS aN _ xS xN xN rfl) (cwV 1 htG (GV g2_14 g2_15 g2_16 g1_2 g2_17) rfl rfl rfl hd_X6_copy ⟨Nat.le_of_ble_eq_true rfl, Nat.le_of_ble_eq_true rfl⟩) (PW_VA hK hL hS hPc hDc hA (ci := 5) rfl 0 rfl) rfl rfl hl.1 rfl (lv_room (Nat.le_of_ble_eq_true rfl)) dX8_keep_8 ⟨Nat.zero_le _, Nat.zero_le _⟩) hP hD hS hA hq (blkQ (bs := [w_hh g h0 jH jP aN aB aS y, w_X6 g aN xN, w_X6 g aS xN]) (cs := [w_X6 g aS xN, w_X6 g aN xN]) (rs := [w_hh g h0 jH jP aN aB aS y]) [2, 1, 0] 3 rfl (by decide) rfl (wc := (w_X6 g aS xN) ++ (w_X6 g aN xN)) (by simp only [List.flatten_cons, List.flatten_nil, List.append_nil])) (List.Perm.refl _) (fun H locs hP hD hS => ?_)
  have hP : va_P g.1 vwCl ([w_hh g h0 jH jP aN aB aS y, w_X6 g aN xN, w_X6 g aS xN].flatten) H := hP
  have hD : va_D A ([w_hh g h0 jH jP aN aB aS y, w_X6 g aN xN, w_X6 g aS xN].flatten) := hD
  refine lv_aload_n hx hb dX8_keep_11 rfl (lv_at hl 0 rfl) ?_
  refine lv_iconst (v := 1) hx hb dX8_keep_12 (by decide) ?_
  refine va_put (D := g.1) (ci := 7) (v := .int 1) (ty := .boolean) (C := RX8) (T := TX8) (N := 8) hx hb htG in_wsX80 tyX8 tyX8_ok nmX8 hown hK.1 hP hD hS 0 rfl rfl 4 (by decide) (htG _ g1_229) (fun _ h9 => h9) rfl (by decide +kernel) rfl rfl (Nat.le_of_ble_eq_true rfl) dX8_keep_13 (fun H locs hP hD hS => ?_)
  have hP : va_P g.1 vwCl ([w_hh g h0 jH jP aN aB aS (1, y.2.1, y.2.2), w_X6 g aN xN, w_X6 g aS xN].flatten) H := hP
  have hD : va_D A ([w_hh g h0 jH jP aN aB aS (1, y.2.1, y.2.2), w_X6 g aN xN, w_X6 g aS xN].flatten) := hD
  refine lv_aload_n hx hb dX8_keep_16 rfl (lv_at hl 0 rfl) ?_
  refine va_get (D := g.1) (ci := 7) (v := .ref (aN 0)) (C := RX8) (T := TX8) (N := 8) hx hb htG in_wsX80 hown hK.1 hP 0 rfl rfl 0 (by decide) (htG _ g1_225) (fun _ h9 => h9) rfl dX8_keep_17 ?_
  refine va_getN (D := g.1) (ci := 5) (v := .ref (aN 3)) (C := RX6) (T := TX6) (N := 8) hx hb htG in_wsX60 hown hK.1 hP 1 rfl rfl 4 (by decide) (nw_23 hK) (fun _ h9 => h9) rfl dX8_keep_20 ?_
  obtain ⟨zq1, hzq1, hm⟩ := bdk hm
  refine ko_e (va_runV (As := []) (rest := []) ⟨hx, hb, hml, hown, htG⟩ (kX0_countAll l g (aN 3) (aN 4) (aN 5) xN.2.2.2.2.1 _ hzq1) (cwV 0 htG (GV g3_112 g2_152 g2_153 g1_3 g2_154) rfl rfl rfl hd_X0_countAll ⟨Nat.le_of_ble_eq_true rfl, Nat.le_of_ble_eq_true rfl⟩) (PR_V hK hL hS hP [4, 5, 6] rfl (ci := 0) rfl 4 rfl) rfl rfl hl.1 rfl (lv_room (Nat.le_of_ble_eq_true rfl)) dX8_keep_23 ⟨Nat.zero_le _, Nat.zero_le _⟩) ?_
  exact W.iret (v := zq1) hx hb hr (fun t ht hW => ⟨⟨_, _, rfl, pr1 (Option.some.inj hm), atH ht hP, hD⟩, hS.F ht⟩) hS.2.2 dX8_keep_26
def fX8_restore (y : (Int32 × Int32 × Int32)) (xN : SD) (xB : SD) (u : HDT) (xS : SD) : Option (Int32 × SD × SD × HDT) := (if y.1 = 0 then some ((-5), xN, xB, u) else ((fX0_countAll xS.2.2.2.2.1).bind (fun zq2 => ((fX8_recorded y xN u zq2).bind (fun zq3 => some (zq3.1, xS, xN, zq3.2))))))
abbrev rm_X8_restore : Jvm.Room := { frames := 6, cells := 0, slots := 0, locals := 146 }
theorem hd_X8_restore : yX8_restore.cls = RX8 ∧ yX8_restore.cls ≠ "java/lang/invoke/MethodHandle" ∧ yX8_restore.cls ≠ "java/lang/invoke/VarHandle" ∧ (parseMethodDescriptor yX8_restore.desc).map (fun d => d.parameters.length) = some 0 := by decide +kernel
set_option maxHeartbeats 4000000 in
set_option maxRecDepth 100000 in
theorem kX8_restore (l : Launch) (g : CX) (h0 jH jA jP jT : Nat) (aN aB aS : Nat → Nat) (sz : Nat) (y : (Int32 × Int32 × Int32)) (xN : SD) (xB : SD) (u : HDT) (xS : SD) (res : Int32 × SD × SD × HDT) (hm0 : fX8_restore y xN xB u xS = some res) : Met l yX8_restore (wg yX8_restore cX8_restore 1 (some .int)) rm_X8_restore (PW g [.ref h0] sz ([w_hh g h0 jH jP aN aB aS y, w_X6 g aN xN, w_X6 g aB xB, w_hd g jH jA u.1 (u.2.1.1 0) (u.2.2.1.1 0) (u.2.2.2.1.1 0) (u.2.2.2.2.1 0), w_X6 g u.2.1.1 u.2.1.2, w_X6 g u.2.2.1.1 u.2.2.1.2, w_X6 g u.2.2.2.1.1 u.2.2.2.1.2, w_X6 g u.2.2.2.2.1 u.2.2.2.2.2, w_X6 g aS xS].flatten)) (va_Qi (fun v r => v = res.1 ∧ r = res.2) (fun r t => va_P g.1 vwCl ([w_hh g h0 jH jP aN aB aS y, w_X6 g aN r.1, w_X6 g aB r.2.1, w_hd g jH jA r.2.2.1 (r.2.2.2.1.1 0) (r.2.2.2.2.1.1 0) (r.2.2.2.2.2.1.1 0) (r.2.2.2.2.2.2.1 0), w_X6 g r.2.2.2.1.1 r.2.2.2.1.2, w_X6 g r.2.2.2.2.1.1 r.2.2.2.2.1.2, w_X6 g r.2.2.2.2.2.1.1 r.2.2.2.2.2.1.2, w_X6 g r.2.2.2.2.2.2.1 r.2.2.2.2.2.2.2, w_X6 g aS xS].flatten) t.heap ∧ va_D (va_A ([w_hh g h0 jH jP aN aB aS y, w_X6 g aN xN, w_X6 g aB xB, w_hd g jH jA u.1 (u.2.1.1 0) (u.2.2.1.1 0) (u.2.2.2.1.1 0) (u.2.2.2.2.1 0), w_X6 g u.2.1.1 u.2.1.2, w_X6 g u.2.2.1.1 u.2.2.1.2, w_X6 g u.2.2.2.1.1 u.2.2.2.1.2, w_X6 g u.2.2.2.2.1 u.2.2.2.2.2, w_X6 g aS xS].flatten) sz) ([w_hh g h0 jH jP aN aB aS y, w_X6 g aN r.1, w_X6 g aB r.2.1, w_hd g jH jA r.2.2.1 (r.2.2.2.1.1 0) (r.2.2.2.2.1.1 0) (r.2.2.2.2.2.1.1 0) (r.2.2.2.2.2.2.1 0), w_X6 g r.2.2.2.1.1 r.2.2.2.1.2, w_X6 g r.2.2.2.2.1.1 r.2.2.2.2.1.2, w_X6 g r.2.2.2.2.2.1.1 r.2.2.2.2.2.1.2, w_X6 g r.2.2.2.2.2.2.1 r.2.2.2.2.2.2.2, w_X6 g aS xS].flatten)) (va_A ([w_hh g h0 jH jP aN aB aS y, w_X6 g aN xN, w_X6 g aB xB, w_hd g jH jA u.1 (u.2.1.1 0) (u.2.2.1.1 0) (u.2.2.2.1.1 0) (u.2.2.2.2.1 0), w_X6 g u.2.1.1 u.2.1.2, w_X6 g u.2.2.1.1 u.2.2.1.2, w_X6 g u.2.2.2.1.1 u.2.2.2.1.2, w_X6 g u.2.2.2.2.1 u.2.2.2.2.2, w_X6 g aS xS].flatten) sz)) 0 0 (va_A ([w_hh g h0 jH jP aN aB aS y, w_X6 g aN xN, w_X6 g aB xB, w_hd g jH jA u.1 (u.2.1.1 0) (u.2.2.1.1 0) (u.2.2.2.1.1 0) (u.2.2.2.2.1 0), w_X6 g u.2.1.1 u.2.1.2, w_X6 g u.2.2.1.1 u.2.2.1.2, w_X6 g u.2.2.2.1.1 u.2.2.2.1.2, w_X6 g u.2.2.2.2.1 u.2.2.2.2.2, w_X6 g aS xS].flatten) sz) := by
  refine Met.ofW (cc := cX8_restore) (maxL := 1) (ret := (some .int)) (by decide) rfl ?_
  intro p e s m args below meth c s₁ B hml hv
  obtain ⟨rfl, hsz, hP, hK, hD0, hL⟩ := hv
  have hx := B.exec
  have hb := B.bytes
  have hr := B.returns
  have htG := wg_G (atoms_spec (ws := wg yX8_restore cX8_restore 1 (some .int)) B.pre)
  have hown : s.vm.findClass RX8 = some m.cls := findClass_of_methodNamed B.named
  have hlocks := B.notSynchronized
  subst hsz
  have hD := hD0.self (sz := s.heap.size)
  generalize hAe : va_A ([w_hh g h0 jH jP aN aB aS y, w_X6 g aN xN, w_X6 g aB xB, w_hd g jH jA u.1 (u.2.1.1 0) (u.2.2.1.1 0) (u.2.2.2.1.1 0) (u.2.2.2.2.1 0), w_X6 g u.2.1.1 u.2.1.2, w_X6 g u.2.2.1.1 u.2.2.1.2, w_X6 g u.2.2.2.1.1 u.2.2.2.1.2, w_X6 g u.2.2.2.2.1 u.2.2.2.2.2, w_X6 g aS xS].flatten) s.heap.size = A at hD hL ⊢
  have hA : ∀ q : Nat, s.heap.size ≤ q → A q := fun q h => by rw [← hAe]; exact Or.inr h
  have hS : va_S A s.heap s.heap [] := va_S.rf
  have hl := lv_entry ([.ref h0]) (n := 1) (Nat.le_of_ble_eq_true rfl)
  rw [lg_entry_eq]
  generalize (lg_sl ([.ref h0]) ++ List.replicate (1 - (lg_sl ([.ref h0])).length) Slot.unset).toArray = ls at hl ⊢
  have hl : lv_has ls 1 [(0, .ref h0)] := hl
  have hm := hm0
  unfold fX8_restore at hm
  refine lv_aload_n hx hb dX8_restore_0 rfl (lv_at hl 0 rfl) ?_
  refine va_get (D := g.1) (ci := 7) (v := .int y.1) (C := RX8) (T := TX8) (N := 8) hx hb htG in_wsX80 hown hK.1 hP 0 rfl rfl 4 (by decide) (htG _ g1_229) (fun _ h9 => h9) rfl dX8_restore_1 ?_
  refine lv_if_ne (tgt := 10) hx hb dX8_restore_4 (by decide) (fun zc1 => ?_) (fun zc1 => ?_)
  · replace hm := (if_neg zc1).symm.trans hm
    refine lv_aload_n hx hb dX8_restore_10 rfl (lv_at hl 0 rfl) ?_
    refine va_get (D := g.1) (ci := 7) (v := .ref (aB 0)) (C := RX8) (T := TX8) (N := 8) hx hb htG in_wsX80 hown hK.1 hP 0 rfl rfl 1 (by decide) (htG _ g1_226) (fun _ h9 => h9) rfl dX8_restore_11 ?_
    refine lv_aload_n hx hb dX8_restore_14 rfl (lv_at hl 0 rfl) ?_
    refine va_get (D := g.1) (ci := 7) (v := .ref (aN 0)) (C := RX8) (T := TX8) (N := 8) hx hb htG in_wsX80 hown hK.1 hP 0 rfl rfl 0 (by decide) (htG _ g1_225) (fun _ h9 => h9) rfl dX8_restore_15 ?_
    have hq := (blkQ (bs := [w_hh g h0 jH jP aN aB aS y, w_X6 g aN xN, w_X6 g aB xB, w_hd g jH jA u.1 (u.2.1.1 0) (u.2.2.1.1 0) (u.2.2.2.1.1 0) (u.2.2.2.2.1 0), w_X6 g u.2.1.1 u.2.1.2, w_X6 g u.2.2.1.1 u.2.2.1.2, w_X6 g u.2.2.2.1.1 u.2.2.2.1.2, w_X6 g u.2.2.2.2.1 u.2.2.2.2.2, w_X6 g aS xS]) (cs := [w_X6 g aB xB, w_X6 g aN xN]) (rs := [w_hh g h0 jH jP aN aB aS y, w_hd g jH jA u.1 (u.2.1.1 0) (u.2.2.1.1 0) (u.2.2.2.1.1 0) (u.2.2.2.2.1 0), w_X6 g u.2.1.1 u.2.1.2, w_X6 g u.2.2.1.1 u.2.2.1.2, w_X6 g u.2.2.2.1.1 u.2.2.2.1.2, w_X6 g u.2.2.2.2.1 u.2.2.2.2.2, w_X6 g aS xS]) [2, 1, 0, 3, 4, 5, 6, 7, 8] 9 rfl (by decide) rfl (wc := (w_X6 g aB xB) ++ (w_X6 g aN xN)) (by simp only [List.flatten_cons, List.flatten_nil, List.append_nil]))
    obtain ⟨hPc, hDc⟩ := va_cut hP hD hq
    refine kw_veB (va_runV (As := [.ref (aN 0)]) (rest := []) ⟨hx, hb, hml, hown, htG⟩ (kX6_copy l g aB aN _ xB xN xN rfl) (cwV 1 htG (GV g2_14 g2_15 g2_16 g1_2 g2_17) rfl rfl rfl hd_X6_copy ⟨Nat.le_of_ble_eq_true rfl, Nat.le_of_ble_eq_true rfl⟩) (PW_VA hK hL hS hPc hDc hA (ci := 5) rfl 0 rfl) rfl rfl hl.1 rfl (lv_room (Nat.le_of_ble_eq_true rfl)) dX8_restore_18 ⟨Nat.zero_le _, Nat.zero_le _⟩) hP hD hS hA hq (blkQ (bs := [w_hh g h0 jH jP aN aB aS y, w_X6 g aN xN, w_X6 g aB xN, w_hd g jH jA u.1 (u.2.1.1 0) (u.2.2.1.1 0) (u.2.2.2.1.1 0) (u.2.2.2.2.1 0), w_X6 g u.2.1.1 u.2.1.2, w_X6 g u.2.2.1.1 u.2.2.1.2, w_X6 g u.2.2.2.1.1 u.2.2.2.1.2, w_X6 g u.2.2.2.2.1 u.2.2.2.2.2, w_X6 g aS xS]) (cs := [w_X6 g aB xN, w_X6 g aN xN]) (rs := [w_hh g h0 jH jP aN aB aS y, w_hd g jH jA u.1 (u.2.1.1 0) (u.2.2.1.1 0) (u.2.2.2.1.1 0) (u.2.2.2.2.1 0), w_X6 g u.2.1.1 u.2.1.2, w_X6 g u.2.2.1.1 u.2.2.1.2, w_X6 g u.2.2.2.1.1 u.2.2.2.1.2, w_X6 g u.2.2.2.2.1 u.2.2.2.2.2, w_X6 g aS xS]) [2, 1, 0, 3, 4, 5, 6, 7, 8] 9 rfl (by decide) rfl (wc := (w_X6 g aB xN) ++ (w_X6 g aN xN)) (by simp only [List.flatten_cons, List.flatten_nil, List.append_nil])) (List.Perm.refl _) (fun H locs hP hD hS => ?_)
    have hP : va_P g.1 vwCl ([w_hh g h0 jH jP aN aB aS y, w_X6 g aN xN, w_X6 g aB xN, w_hd g jH jA u.1 (u.2.1.1 0) (u.2.2.1.1 0) (u.2.2.2.1.1 0) (u.2.2.2.2.1 0), w_X6 g u.2.1.1 u.2.1.2, w_X6 g u.2.2.1.1 u.2.2.1.2, w_X6 g u.2.2.2.1.1 u.2.2.2.1.2, w_X6 g u.2.2.2.2.1 u.2.2.2.2.2, w_X6 g aS xS].flatten) H := hP
    have hD : va_D A ([w_hh g h0 jH jP aN aB aS y, w_X6 g aN xN, w_X6 g aB xN, w_hd g jH jA u.1 (u.2.1.1 0) (u.2.2.1.1 0) (u.2.2.2.1.1 0) (u.2.2.2.2.1 0), w_X6 g u.2.1.1 u.2.1.2, w_X6 g u.2.2.1.1 u.2.2.1.2, w_X6 g u.2.2.2.1.1 u.2.2.2.1.2, w_X6 g u.2.2.2.2.1 u.2.2.2.2.2, w_X6 g aS xS].flatten) := hD
    refine lv_aload_n hx hb dX8_restore_21 rfl (lv_at hl 0 rfl) ?_
    refine va_get (D := g.1) (ci := 7) (v := .ref (aN 0)) (C := RX8) (T := TX8) (N := 8) hx hb htG in_wsX80 hown hK.1 hP 0 rfl rfl 0 (by decide) (htG _ g1_225) (fun _ h9 => h9) rfl dX8_restore_22 ?_
    refine lv_aload_n hx hb dX8_restore_25 rfl (lv_at hl 0 rfl) ?_
    refine va_get (D := g.1) (ci := 7) (v := .ref (aS 0)) (C := RX8) (T := TX8) (N := 8) hx hb htG in_wsX80 hown hK.1 hP 0 rfl rfl 3 (by decide) (htG _ g1_228) (fun _ h9 => h9) rfl dX8_restore_26 ?_
    have hq := (blkQ (bs := [w_hh g h0 jH jP aN aB aS y, w_X6 g aN xN, w_X6 g aB xN, w_hd g jH jA u.1 (u.2.1.1 0) (u.2.2.1.1 0) (u.2.2.2.1.1 0) (u.2.2.2.2.1 0), w_X6 g u.2.1.1 u.2.1.2, w_X6 g u.2.2.1.1 u.2.2.1.2, w_X6 g u.2.2.2.1.1 u.2.2.2.1.2, w_X6 g u.2.2.2.2.1 u.2.2.2.2.2, w_X6 g aS xS]) (cs := [w_X6 g aN xN, w_X6 g aS xS]) (rs := [w_hh g h0 jH jP aN aB aS y, w_X6 g aB xN, w_hd g jH jA u.1 (u.2.1.1 0) (u.2.2.1.1 0) (u.2.2.2.1.1 0) (u.2.2.2.2.1 0), w_X6 g u.2.1.1 u.2.1.2, w_X6 g u.2.2.1.1 u.2.2.1.2, w_X6 g u.2.2.2.1.1 u.2.2.2.1.2, w_X6 g u.2.2.2.2.1 u.2.2.2.2.2]) [1, 8, 0, 2, 3, 4, 5, 6, 7] 9 rfl (by decide) rfl (wc := (w_X6 g aN xN) ++ (w_X6 g aS xS)) (by simp only [List.flatten_cons, List.flatten_nil, List.append_nil]))
    obtain ⟨hPc, hDc⟩ := va_cut hP hD hq
    refine kw_veB (va_runV (As := [.ref (aS 0)]) (rest := []) ⟨hx, hb, hml, hown, htG⟩ (kX6_copy l g aN aS _ xN xS xS rfl) (cwV 1 htG (GV g2_14 g2_15 g2_16 g1_2 g2_17) rfl rfl rfl hd_X6_copy ⟨Nat.le_of_ble_eq_true rfl, Nat.le_of_ble_eq_true rfl⟩) (PW_VA hK hL hS hPc hDc hA (ci := 5) rfl 0 rfl) rfl rfl hl.1 rfl (lv_room (Nat.le_of_ble_eq_true rfl)) dX8_restore_29 ⟨Nat.zero_le _, Nat.zero_le _⟩) hP hD hS hA hq (blkQ (bs := [w_hh g h0 jH jP aN aB aS y, w_X6 g aN xS, w_X6 g aB xN, w_hd g jH jA u.1 (u.2.1.1 0) (u.2.2.1.1 0) (u.2.2.2.1.1 0) (u.2.2.2.2.1 0), w_X6 g u.2.1.1 u.2.1.2, w_X6 g u.2.2.1.1 u.2.2.1.2, w_X6 g u.2.2.2.1.1 u.2.2.2.1.2, w_X6 g u.2.2.2.2.1 u.2.2.2.2.2, w_X6 g aS xS]) (cs := [w_X6 g aN xS, w_X6 g aS xS]) (rs := [w_hh g h0 jH jP aN aB aS y, w_X6 g aB xN, w_hd g jH jA u.1 (u.2.1.1 0) (u.2.2.1.1 0) (u.2.2.2.1.1 0) (u.2.2.2.2.1 0), w_X6 g u.2.1.1 u.2.1.2, w_X6 g u.2.2.1.1 u.2.2.1.2, w_X6 g u.2.2.2.1.1 u.2.2.2.1.2, w_X6 g u.2.2.2.2.1 u.2.2.2.2.2]) [1, 8, 0, 2, 3, 4, 5, 6, 7] 9 rfl (by decide) rfl (wc := (w_X6 g aN xS) ++ (w_X6 g aS xS)) (by simp only [List.flatten_cons, List.flatten_nil, List.append_nil])) (List.Perm.refl _) (fun H locs hP hD hS => ?_)
    have hP : va_P g.1 vwCl ([w_hh g h0 jH jP aN aB aS y, w_X6 g aN xS, w_X6 g aB xN, w_hd g jH jA u.1 (u.2.1.1 0) (u.2.2.1.1 0) (u.2.2.2.1.1 0) (u.2.2.2.2.1 0), w_X6 g u.2.1.1 u.2.1.2, w_X6 g u.2.2.1.1 u.2.2.1.2, w_X6 g u.2.2.2.1.1 u.2.2.2.1.2, w_X6 g u.2.2.2.2.1 u.2.2.2.2.2, w_X6 g aS xS].flatten) H := hP
    have hD : va_D A ([w_hh g h0 jH jP aN aB aS y, w_X6 g aN xS, w_X6 g aB xN, w_hd g jH jA u.1 (u.2.1.1 0) (u.2.2.1.1 0) (u.2.2.2.1.1 0) (u.2.2.2.2.1 0), w_X6 g u.2.1.1 u.2.1.2, w_X6 g u.2.2.1.1 u.2.2.1.2, w_X6 g u.2.2.2.1.1 u.2.2.2.1.2, w_X6 g u.2.2.2.2.1 u.2.2.2.2.2, w_X6 g aS xS].flatten) := hD
    refine lv_aload_n hx hb dX8_restore_32 rfl (lv_at hl 0 rfl) ?_
    refine lv_aload_n hx hb dX8_restore_33 rfl (lv_at hl 0 rfl) ?_
    refine va_get (D := g.1) (ci := 7) (v := .ref (aN 0)) (C := RX8) (T := TX8) (N := 8) hx hb htG in_wsX80 hown hK.1 hP 0 rfl rfl 0 (by decide) (htG _ g1_225) (fun _ h9 => h9) rfl dX8_restore_34 ?_
    refine va_getN (D := g.1) (ci := 5) (v := .ref (aN 3)) (C := RX6) (T := TX6) (N := 8) hx hb htG in_wsX60 hown hK.1 hP 1 rfl rfl 4 (by decide) (nw_23 hK) (fun _ h9 => h9) rfl dX8_restore_37 ?_
    obtain ⟨zq2, hzq2, hm⟩ := bdk hm
    refine ko_e (va_runV (As := []) (rest := [.ref h0]) ⟨hx, hb, hml, hown, htG⟩ (kX0_countAll l g (aN 3) (aN 4) (aN 5) xS.2.2.2.2.1 _ hzq2) (cwV 0 htG (GV g3_112 g2_152 g2_153 g1_3 g2_154) rfl rfl rfl hd_X0_countAll ⟨Nat.le_of_ble_eq_true rfl, Nat.le_of_ble_eq_true rfl⟩) (PR_V hK hL hS hP [4, 5, 6] rfl (ci := 0) rfl 4 rfl) rfl rfl hl.1 rfl (lv_room (Nat.le_of_ble_eq_true rfl)) dX8_restore_40 ⟨Nat.zero_le _, Nat.zero_le _⟩) ?_
    obtain ⟨zq3, hzq3, hm⟩ := bdk hm
    have hq := (blkQ (bs := [w_hh g h0 jH jP aN aB aS y, w_X6 g aN xS, w_X6 g aB xN, w_hd g jH jA u.1 (u.2.1.1 0) (u.2.2.1.1 0) (u.2.2.2.1.1 0) (u.2.2.2.2.1 0), w_X6 g u.2.1.1 u.2.1.2, w_X6 g u.2.2.1.1 u.2.2.1.2, w_X6 g u.2.2.2.1.1 u.2.2.2.1.2, w_X6 g u.2.2.2.2.1 u.2.2.2.2.2, w_X6 g aS xS]) (cs := [w_hh g h0 jH jP aN aB aS y, w_X6 g aB xN, w_hd g jH jA u.1 (u.2.1.1 0) (u.2.2.1.1 0) (u.2.2.2.1.1 0) (u.2.2.2.2.1 0), w_X6 g u.2.1.1 u.2.1.2, w_X6 g u.2.2.1.1 u.2.2.1.2, w_X6 g u.2.2.2.1.1 u.2.2.2.1.2, w_X6 g u.2.2.2.2.1 u.2.2.2.2.2]) (rs := [w_X6 g aN xS, w_X6 g aS xS]) [0, 2, 3, 4, 5, 6, 7, 1, 8] 9 rfl (by decide) rfl (wc := [w_hh g h0 jH jP aN aB aS y, w_X6 g aB xN, w_hd g jH jA u.1 (u.2.1.1 0) (u.2.2.1.1 0) (u.2.2.2.1.1 0) (u.2.2.2.2.1 0), w_X6 g u.2.1.1 u.2.1.2, w_X6 g u.2.2.1.1 u.2.2.1.2, w_X6 g u.2.2.2.1.1 u.2.2.2.1.2, w_X6 g u.2.2.2.2.1 u.2.2.2.2.2].flatten) rfl)
    obtain ⟨hPc, hDc⟩ := va_cut hP hD hq
    refine kw_ieD (ws' := fun r => [w_hh g h0 jH jP aN aB aS y, w_X6 g aN xS, w_X6 g aB xN, w_hd g jH jA r.1 (r.2.1.1 0) (r.2.2.1.1 0) (r.2.2.2.1.1 0) (r.2.2.2.2.1 0), w_X6 g r.2.1.1 r.2.1.2, w_X6 g r.2.2.1.1 r.2.2.1.2, w_X6 g r.2.2.2.1.1 r.2.2.2.1.2, w_X6 g r.2.2.2.2.1 r.2.2.2.2.2, w_X6 g aS xS].flatten) (va_runV (As := [.int zq2]) (rest := []) ⟨hx, hb, hml, hown, htG⟩ (kX8_recorded l g h0 jH jA jP jT aN aB aS _ y xN u zq2 _ hzq3) (cwV 1 htG (GV g2_67 g2_69 gS_0 g1_1 g2_70) rfl rfl rfl hd_X8_recorded ⟨Nat.le_of_ble_eq_true rfl, Nat.le_of_ble_eq_true rfl⟩) (PW_VA hK hL hS hPc hDc hA (ci := 7) rfl 0 rfl) rfl rfl hl.1 rfl (lv_room (Nat.le_of_ble_eq_true rfl)) dX8_restore_43 ⟨Nat.zero_le _, Nat.zero_le _⟩) hP hD hS hA hq (fun r => (blkQ (bs := [w_hh g h0 jH jP aN aB aS y, w_X6 g aN xS, w_X6 g aB xN, w_hd g jH jA r.1 (r.2.1.1 0) (r.2.2.1.1 0) (r.2.2.2.1.1 0) (r.2.2.2.2.1 0), w_X6 g r.2.1.1 r.2.1.2, w_X6 g r.2.2.1.1 r.2.2.1.2, w_X6 g r.2.2.2.1.1 r.2.2.2.1.2, w_X6 g r.2.2.2.2.1 r.2.2.2.2.2, w_X6 g aS xS]) (cs := [w_hh g h0 jH jP aN aB aS y, w_X6 g aB xN, w_hd g jH jA r.1 (r.2.1.1 0) (r.2.2.1.1 0) (r.2.2.2.1.1 0) (r.2.2.2.2.1 0), w_X6 g r.2.1.1 r.2.1.2, w_X6 g r.2.2.1.1 r.2.2.1.2, w_X6 g r.2.2.2.1.1 r.2.2.2.1.2, w_X6 g r.2.2.2.2.1 r.2.2.2.2.2]) (rs := [w_X6 g aN xS, w_X6 g aS xS]) [0, 2, 3, 4, 5, 6, 7, 1, 8] 9 rfl (by decide) rfl (wc := [w_hh g h0 jH jP aN aB aS y, w_X6 g aB xN, w_hd g jH jA r.1 (r.2.1.1 0) (r.2.2.1.1 0) (r.2.2.2.1.1 0) (r.2.2.2.2.1 0), w_X6 g r.2.1.1 r.2.1.2, w_X6 g r.2.2.1.1 r.2.2.1.2, w_X6 g r.2.2.2.1.1 r.2.2.2.1.2, w_X6 g r.2.2.2.2.1 r.2.2.2.2.2].flatten) rfl)) (fun H locs hP hD hS => ?_)
    have hP : va_P g.1 vwCl ([w_hh g h0 jH jP aN aB aS y, w_X6 g aN xS, w_X6 g aB xN, w_hd g jH jA zq3.2.1 (zq3.2.2.1.1 0) (zq3.2.2.2.1.1 0) (zq3.2.2.2.2.1.1 0) (zq3.2.2.2.2.2.1 0), w_X6 g zq3.2.2.1.1 zq3.2.2.1.2, w_X6 g zq3.2.2.2.1.1 zq3.2.2.2.1.2, w_X6 g zq3.2.2.2.2.1.1 zq3.2.2.2.2.1.2, w_X6 g zq3.2.2.2.2.2.1 zq3.2.2.2.2.2.2, w_X6 g aS xS].flatten) H := hP
    have hD : va_D A ([w_hh g h0 jH jP aN aB aS y, w_X6 g aN xS, w_X6 g aB xN, w_hd g jH jA zq3.2.1 (zq3.2.2.1.1 0) (zq3.2.2.2.1.1 0) (zq3.2.2.2.2.1.1 0) (zq3.2.2.2.2.2.1 0), w_X6 g zq3.2.2.1.1 zq3.2.2.1.2, w_X6 g zq3.2.2.2.1.1 zq3.2.2.2.1.2, w_X6 g zq3.2.2.2.2.1.1 zq3.2.2.2.2.1.2, w_X6 g zq3.2.2.2.2.2.1 zq3.2.2.2.2.2.2, w_X6 g aS xS].flatten) := hD
    exact W.iret (v := zq3.1) hx hb hr (fun t ht hW => ⟨⟨_, _, rfl, pr1 (Option.some.inj hm), atH ht hP, hD⟩, hS.F ht⟩) hS.2.2 dX8_restore_46
  · replace hm := (if_pos zc1).symm.trans hm
    refine lv_bipush (v := (-5)) hx hb dX8_restore_7 (by decide +kernel) ?_
    exact W.iret (v := (-5)) hx hb hr (fun t ht hW => ⟨⟨_, _, rfl, pr1 (Option.some.inj hm), atH ht hP, hD⟩, hS.F ht⟩) hS.2.2 dX8_restore_9
