set_option maxHeartbeats 4000000 in
set_option maxRecDepth 100000 in
theorem kX2_takeLatest (l : Launch) (g : CX) (h0 h1 : Nat) (b : Nat → Nat) (sz : Nat) (u : HDT) (y : SD) (res : Int32 × HDT × SD) (hm0 : fX2_takeLatest u y = some res) : Met l yX2_takeLatest (wg yX2_takeLatest cX2_takeLatest 3 (some .boolean)) rm_X2_takeLatest (PW g [.ref h0, .ref (b 0)] sz ((B2 g h0 h1 u ++ [w_X6 g b y]).flatten)) (va_Qi (fun v u => v = res.1 ∧ u = res.2) (fun r t => va_P g.1 vwCl ((B2 g h0 h1 r.1 ++ [w_X6 g b r.2]).flatten) t.heap ∧ va_D (va_A ((B2 g h0 h1 u ++ [w_X6 g b y]).flatten) sz) ((B2 g h0 h1 r.1 ++ [w_X6 g b r.2]).flatten)) (va_A ((B2 g h0 h1 u ++ [w_X6 g b y]).flatten) sz)) 0 0 (va_A ((B2 g h0 h1 u ++ [w_X6 g b y]).flatten) sz) := by
  obtain ⟨z, ⟨a0, x0⟩, ⟨a1, x1⟩, ⟨a2, x2⟩, ⟨a3, x3⟩⟩ := u
  refine Met.ofW (cc := cX2_takeLatest) (maxL := 3) (ret := (some .boolean)) (by decide) rfl ?_
  intro p e s m args below meth c s₁ B hml hv
  obtain ⟨rfl, hsz, hP, hK, hD0, hL⟩ := hv
  have hx := B.exec
  have hb := B.bytes
  have hr := B.returns
  have htG := wg_G (atoms_spec (ws := wg yX2_takeLatest cX2_takeLatest 3 (some .boolean)) B.pre)
  have hown : s.vm.findClass RX2 = some m.cls := findClass_of_methodNamed B.named
  have hlocks := B.notSynchronized
  subst hsz
  have hD := hD0.self (sz := s.heap.size)
  generalize hAe : va_A ((B2 g h0 h1 (z, (a0, x0), (a1, x1), (a2, x2), (a3, x3)) ++ [w_X6 g b y]).flatten) s.heap.size = A at hD hL ⊢
  have hA : ∀ q : Nat, s.heap.size ≤ q → A q := fun q h => by rw [← hAe]; exact Or.inr h
  have hS : va_S A s.heap s.heap [] := va_S.rf
  have hl := lv_entry ([.ref h0, .ref (b 0)]) (n := 3) (Nat.le_of_ble_eq_true rfl)
  rw [lg_entry_eq]
  generalize (lg_sl ([.ref h0, .ref (b 0)]) ++ List.replicate (3 - (lg_sl ([.ref h0, .ref (b 0)])).length) Slot.unset).toArray = ls at hl ⊢
  have hl : lv_has ls 3 [(0, .ref h0), (1, .ref (b 0))] := hl
  have hP : va_P g.1 vwCl ([w_hd g h0 h1 z (a0 0) (a1 0) (a2 0) (a3 0), w_X6 g a0 x0, w_X6 g a1 x1, w_X6 g a2 x2, w_X6 g a3 x3, w_X6 g b y].flatten) s.heap := hP
  have hD : va_D A ([w_hd g h0 h1 z (a0 0) (a1 0) (a2 0) (a3 0), w_X6 g a0 x0, w_X6 g a1 x1, w_X6 g a2 x2, w_X6 g a3 x3, w_X6 g b y].flatten) := hD
  have hm := hm0
  simp only [fX2_takeLatest] at hm
  by_cases cz0 : z = 0
  · replace hm := (if_pos cz0).symm.trans hm
    subst cz0
    refine lv_aload_n hx hb dX2_takeLatest_0 rfl (lv_at hl 0 rfl) ?_
    refine lv_aload_n hx hb dX2_takeLatest_1 rfl (lv_at hl 0 rfl) ?_
    refine va_get (D := g.1) (ci := 2) (v := .int 0) (C := RX2) (T := TX2) (N := 2) hx hb htG in_wsX20 hown hK.1 hP 0 rfl rfl 1 (by decide) (htG _ g1_170) (fun _ h9 => h9) rfl dX2_takeLatest_2 ?_
    refine lv_iconst (v := 1) hx hb dX2_takeLatest_5 (by decide) ?_
    refine lv_isub hx hb dX2_takeLatest_6 ?_
    refine tope (y := (-1)) (by decide) ?_
    refine ko_qn (va_runV (As := [.int (-1)]) (rest := []) ⟨hx, hb, hml, hown, htG⟩ (kX2_stateAt l g h0 h1 0 (a0 0) (a1 0) (a2 0) (a3 0) (-1)) (cwV 1 htG (GV g2_78 g2_80 gS_2 g1_8 g2_81) rfl rfl rfl hd_X2_stateAt ⟨Nat.le_of_ble_eq_true rfl, Nat.le_of_ble_eq_true rfl⟩) (PR_V hK hL hS hP [0, 1] rfl (ci := 2) rfl 0 rfl) rfl rfl hl.1 rfl (lv_room (Nat.le_of_ble_eq_true rfl)) dX2_takeLatest_7 ⟨Nat.zero_le _, Nat.zero_le _⟩) rfl ?_
    refine lv_astore_nN (lv' := [(2, .null), (0, .ref h0), (1, .ref (b 0))]) hx hb dX2_takeLatest_10 rfl hl (by decide) rfl (fun ls hl => ?_)
    refine lv_aload_nN hx hb dX2_takeLatest_11 rfl (lv_at hl 0 rfl) ?_
    refine lv_ifnonnullN hx hb dX2_takeLatest_12 ?_
    refine lv_iconst (v := 0) hx hb dX2_takeLatest_15 (by decide) ?_
    have hP : va_P g.1 vwCl ([w_hd g h0 h1 0 (a0 0) (a1 0) (a2 0) (a3 0), w_X6 g a0 x0, w_X6 g a1 x1, w_X6 g a2 x2, w_X6 g a3 x3, w_X6 g b y].flatten) s.heap := hP
    have hD : va_D A ([w_hd g h0 h1 0 (a0 0) (a1 0) (a2 0) (a3 0), w_X6 g a0 x0, w_X6 g a1 x1, w_X6 g a2 x2, w_X6 g a3 x3, w_X6 g b y].flatten) := hD
    exact W.zret (v := 0) (ty := .boolean) hx hb hr rfl (fun t ht hW => ⟨⟨_, (_, _), rfl, pr1 (Option.some.inj hm), atH ht hP, hD⟩, hS.F ht⟩) hS.2.2 dX2_takeLatest_16
  · replace hm := (if_neg cz0).symm.trans hm
    by_cases cz1 : z = 1
    · replace hm := (if_pos cz1).symm.trans hm
      subst cz1
      refine lv_aload_n hx hb dX2_takeLatest_0 rfl (lv_at hl 0 rfl) ?_
      refine lv_aload_n hx hb dX2_takeLatest_1 rfl (lv_at hl 0 rfl) ?_
      refine va_get (D := g.1) (ci := 2) (v := .int 1) (C := RX2) (T := TX2) (N := 2) hx hb htG in_wsX20 hown hK.1 hP 0 rfl rfl 1 (by decide) (htG _ g1_170) (fun _ h9 => h9) rfl dX2_takeLatest_2 ?_
      refine lv_iconst (v := 1) hx hb dX2_takeLatest_5 (by decide) ?_
      refine lv_isub hx hb dX2_takeLatest_6 ?_
      refine tope (y := 0) (by decide) ?_
      refine ko_qs (va_runV (As := [.int 0]) (rest := []) ⟨hx, hb, hml, hown, htG⟩ (kX2_stateAt l g h0 h1 1 (a0 0) (a1 0) (a2 0) (a3 0) 0) (cwV 1 htG (GV g2_78 g2_80 gS_2 g1_8 g2_81) rfl rfl rfl hd_X2_stateAt ⟨Nat.le_of_ble_eq_true rfl, Nat.le_of_ble_eq_true rfl⟩) (PR_V hK hL hS hP [0, 1] rfl (ci := 2) rfl 0 rfl) rfl rfl hl.1 rfl (lv_room (Nat.le_of_ble_eq_true rfl)) dX2_takeLatest_7 ⟨Nat.zero_le _, Nat.zero_le _⟩) (v := a0 0) rfl ?_
      refine lv_astore_n (lv' := [(2, .ref (a0 0)), (0, .ref h0), (1, .ref (b 0))]) hx hb dX2_takeLatest_10 rfl hl (by decide) rfl (fun ls hl => ?_)
      refine lv_aload_n hx hb dX2_takeLatest_11 rfl (lv_at hl 0 rfl) ?_
      refine lv_ifnonnull (tgt := 17) hx hb dX2_takeLatest_12 (by decide) ?_
      refine lv_aload_n hx hb dX2_takeLatest_17 rfl (lv_at hl 2 rfl) ?_
      refine lv_aload_n hx hb dX2_takeLatest_18 rfl (lv_at hl 0 rfl) ?_
      have hq := (blkQ (bs := [w_hd g h0 h1 1 (a0 0) (a1 0) (a2 0) (a3 0), w_X6 g a0 x0, w_X6 g a1 x1, w_X6 g a2 x2, w_X6 g a3 x3, w_X6 g b y]) (cs := [w_X6 g b y, w_X6 g a0 x0]) (rs := [w_hd g h0 h1 1 (a0 0) (a1 0) (a2 0) (a3 0), w_X6 g a1 x1, w_X6 g a2 x2, w_X6 g a3 x3]) [5, 1, 0, 2, 3, 4] 6 rfl (by decide) rfl (wc := w_X6 g b y ++ w_X6 g a0 x0) (by simp only [List.flatten_cons, List.flatten_nil, List.append_nil]))
      obtain ⟨hPc, hDc⟩ := va_cut hP hD hq
      refine kw_veB (va_runV (As := [.ref (a0 0)]) (rest := []) ⟨hx, hb, hml, hown, htG⟩ (kX6_copy l g b a0 _ y x0 x0 rfl) (cwV 1 htG (GV g2_82 g2_14 g2_15 g1_2 g2_16) rfl rfl rfl hd_X6_copy ⟨Nat.le_of_ble_eq_true rfl, Nat.le_of_ble_eq_true rfl⟩) (PW_VA hK hL hS hPc hDc hA (ci := 5) rfl 0 rfl) rfl rfl hl.1 rfl (lv_room (Nat.le_of_ble_eq_true rfl)) dX2_takeLatest_19 ⟨Nat.zero_le _, Nat.zero_le _⟩) hP hD hS hA hq (blkQ (bs := [w_hd g h0 h1 1 (a0 0) (a1 0) (a2 0) (a3 0), w_X6 g a0 x0, w_X6 g a1 x1, w_X6 g a2 x2, w_X6 g a3 x3, w_X6 g b x0]) (cs := [w_X6 g b x0, w_X6 g a0 x0]) (rs := [w_hd g h0 h1 1 (a0 0) (a1 0) (a2 0) (a3 0), w_X6 g a1 x1, w_X6 g a2 x2, w_X6 g a3 x3]) [5, 1, 0, 2, 3, 4] 6 rfl (by decide) rfl (wc := w_X6 g b x0 ++ w_X6 g a0 x0) (by simp only [List.flatten_cons, List.flatten_nil, List.append_nil])) (List.Perm.refl _) (fun H locs hP hD hS => ?_)
      refine lv_aload_n hx hb dX2_takeLatest_22 rfl (lv_at hl 1 rfl) ?_
      refine lv_dup hx hb dX2_takeLatest_23 rfl ?_
      refine va_get (D := g.1) (ci := 2) (v := .int 1) (C := RX2) (T := TX2) (N := 2) hx hb htG in_wsX20 hown hK.1 hP 0 rfl rfl 1 (by decide) (htG _ g1_170) (fun _ h9 => h9) rfl dX2_takeLatest_24 ?_
      refine lv_iconst (v := 1) hx hb dX2_takeLatest_27 (by decide) ?_
      refine lv_isub hx hb dX2_takeLatest_28 ?_
      refine tope (y := 0) (by decide) ?_
      refine va_put (D := g.1) (ci := 2) (v := .int 0) (ty := .int) (C := RX2) (T := TX2) (N := 2) hx hb htG in_wsX20 tyX2 tyX2_ok nmX2 hown hK.1 hP hD hS 0 rfl rfl 1 (by decide) (htG _ g1_170) (fun _ h9 => h9) rfl (by decide +kernel) rfl rfl (Nat.le_of_ble_eq_true rfl) dX2_takeLatest_29 (fun H locs hP hD hS => ?_)
      have hP : va_P g.1 vwCl ([w_hd g h0 h1 0 (a0 0) (a1 0) (a2 0) (a3 0), w_X6 g a0 x0, w_X6 g a1 x1, w_X6 g a2 x2, w_X6 g a3 x3, w_X6 g b x0].flatten) H := hP
      have hD : va_D A ([w_hd g h0 h1 0 (a0 0) (a1 0) (a2 0) (a3 0), w_X6 g a0 x0, w_X6 g a1 x1, w_X6 g a2 x2, w_X6 g a3 x3, w_X6 g b x0].flatten) := hD
      refine lv_iconst (v := 1) hx hb dX2_takeLatest_32 (by decide) ?_
      exact W.zret (v := 1) (ty := .boolean) hx hb hr rfl (fun t ht hW => ⟨⟨_, (_, _), rfl, pr1 (Option.some.inj hm), atH ht hP, hD⟩, hS.F ht⟩) hS.2.2 dX2_takeLatest_33
    · replace hm := (if_neg cz1).symm.trans hm
      by_cases cz2 : z = 2
      · replace hm := (if_pos cz2).symm.trans hm
        subst cz2
        refine lv_aload_n hx hb dX2_takeLatest_0 rfl (lv_at hl 0 rfl) ?_
        refine lv_aload_n hx hb dX2_takeLatest_1 rfl (lv_at hl 0 rfl) ?_
        refine va_get (D := g.1) (ci := 2) (v := .int 2) (C := RX2) (T := TX2) (N := 2) hx hb htG in_wsX20 hown hK.1 hP 0 rfl rfl 1 (by decide) (htG _ g1_170) (fun _ h9 => h9) rfl dX2_takeLatest_2 ?_
        refine lv_iconst (v := 1) hx hb dX2_takeLatest_5 (by decide) ?_
        refine lv_isub hx hb dX2_takeLatest_6 ?_
        refine tope (y := 1) (by decide) ?_
        refine ko_qs (va_runV (As := [.int 1]) (rest := []) ⟨hx, hb, hml, hown, htG⟩ (kX2_stateAt l g h0 h1 2 (a0 0) (a1 0) (a2 0) (a3 0) 1) (cwV 1 htG (GV g2_78 g2_80 gS_2 g1_8 g2_81) rfl rfl rfl hd_X2_stateAt ⟨Nat.le_of_ble_eq_true rfl, Nat.le_of_ble_eq_true rfl⟩) (PR_V hK hL hS hP [0, 1] rfl (ci := 2) rfl 0 rfl) rfl rfl hl.1 rfl (lv_room (Nat.le_of_ble_eq_true rfl)) dX2_takeLatest_7 ⟨Nat.zero_le _, Nat.zero_le _⟩) (v := a1 0) rfl ?_
        refine lv_astore_n (lv' := [(2, .ref (a1 0)), (0, .ref h0), (1, .ref (b 0))]) hx hb dX2_takeLatest_10 rfl hl (by decide) rfl (fun ls hl => ?_)
        refine lv_aload_n hx hb dX2_takeLatest_11 rfl (lv_at hl 0 rfl) ?_
        refine lv_ifnonnull (tgt := 17) hx hb dX2_takeLatest_12 (by decide) ?_
        refine lv_aload_n hx hb dX2_takeLatest_17 rfl (lv_at hl 2 rfl) ?_
        refine lv_aload_n hx hb dX2_takeLatest_18 rfl (lv_at hl 0 rfl) ?_
        have hq := (blkQ (bs := [w_hd g h0 h1 2 (a0 0) (a1 0) (a2 0) (a3 0), w_X6 g a0 x0, w_X6 g a1 x1, w_X6 g a2 x2, w_X6 g a3 x3, w_X6 g b y]) (cs := [w_X6 g b y, w_X6 g a1 x1]) (rs := [w_hd g h0 h1 2 (a0 0) (a1 0) (a2 0) (a3 0), w_X6 g a0 x0, w_X6 g a2 x2, w_X6 g a3 x3]) [5, 2, 0, 1, 3, 4] 6 rfl (by decide) rfl (wc := w_X6 g b y ++ w_X6 g a1 x1) (by simp only [List.flatten_cons, List.flatten_nil, List.append_nil]))
        obtain ⟨hPc, hDc⟩ := va_cut hP hD hq
        refine kw_veB (va_runV (As := [.ref (a1 0)]) (rest := []) ⟨hx, hb, hml, hown, htG⟩ (kX6_copy l g b a1 _ y x1 x1 rfl) (cwV 1 htG (GV g2_82 g2_14 g2_15 g1_2 g2_16) rfl rfl rfl hd_X6_copy ⟨Nat.le_of_ble_eq_true rfl, Nat.le_of_ble_eq_true rfl⟩) (PW_VA hK hL hS hPc hDc hA (ci := 5) rfl 0 rfl) rfl rfl hl.1 rfl (lv_room (Nat.le_of_ble_eq_true rfl)) dX2_takeLatest_19 ⟨Nat.zero_le _, Nat.zero_le _⟩) hP hD hS hA hq (blkQ (bs := [w_hd g h0 h1 2 (a0 0) (a1 0) (a2 0) (a3 0), w_X6 g a0 x0, w_X6 g a1 x1, w_X6 g a2 x2, w_X6 g a3 x3, w_X6 g b x1]) (cs := [w_X6 g b x1, w_X6 g a1 x1]) (rs := [w_hd g h0 h1 2 (a0 0) (a1 0) (a2 0) (a3 0), w_X6 g a0 x0, w_X6 g a2 x2, w_X6 g a3 x3]) [5, 2, 0, 1, 3, 4] 6 rfl (by decide) rfl (wc := w_X6 g b x1 ++ w_X6 g a1 x1) (by simp only [List.flatten_cons, List.flatten_nil, List.append_nil])) (List.Perm.refl _) (fun H locs hP hD hS => ?_)
        refine lv_aload_n hx hb dX2_takeLatest_22 rfl (lv_at hl 1 rfl) ?_
        refine lv_dup hx hb dX2_takeLatest_23 rfl ?_
        refine va_get (D := g.1) (ci := 2) (v := .int 2) (C := RX2) (T := TX2) (N := 2) hx hb htG in_wsX20 hown hK.1 hP 0 rfl rfl 1 (by decide) (htG _ g1_170) (fun _ h9 => h9) rfl dX2_takeLatest_24 ?_
        refine lv_iconst (v := 1) hx hb dX2_takeLatest_27 (by decide) ?_
        refine lv_isub hx hb dX2_takeLatest_28 ?_
        refine tope (y := 1) (by decide) ?_
        refine va_put (D := g.1) (ci := 2) (v := .int 1) (ty := .int) (C := RX2) (T := TX2) (N := 2) hx hb htG in_wsX20 tyX2 tyX2_ok nmX2 hown hK.1 hP hD hS 0 rfl rfl 1 (by decide) (htG _ g1_170) (fun _ h9 => h9) rfl (by decide +kernel) rfl rfl (Nat.le_of_ble_eq_true rfl) dX2_takeLatest_29 (fun H locs hP hD hS => ?_)
        have hP : va_P g.1 vwCl ([w_hd g h0 h1 1 (a0 0) (a1 0) (a2 0) (a3 0), w_X6 g a0 x0, w_X6 g a1 x1, w_X6 g a2 x2, w_X6 g a3 x3, w_X6 g b x1].flatten) H := hP
        have hD : va_D A ([w_hd g h0 h1 1 (a0 0) (a1 0) (a2 0) (a3 0), w_X6 g a0 x0, w_X6 g a1 x1, w_X6 g a2 x2, w_X6 g a3 x3, w_X6 g b x1].flatten) := hD
        refine lv_iconst (v := 1) hx hb dX2_takeLatest_32 (by decide) ?_
        exact W.zret (v := 1) (ty := .boolean) hx hb hr rfl (fun t ht hW => ⟨⟨_, (_, _), rfl, pr1 (Option.some.inj hm), atH ht hP, hD⟩, hS.F ht⟩) hS.2.2 dX2_takeLatest_33
      · replace hm := (if_neg cz2).symm.trans hm
        by_cases cz3 : z = 3
        · replace hm := (if_pos cz3).symm.trans hm
          subst cz3
          refine lv_aload_n hx hb dX2_takeLatest_0 rfl (lv_at hl 0 rfl) ?_
          refine lv_aload_n hx hb dX2_takeLatest_1 rfl (lv_at hl 0 rfl) ?_
          refine va_get (D := g.1) (ci := 2) (v := .int 3) (C := RX2) (T := TX2) (N := 2) hx hb htG in_wsX20 hown hK.1 hP 0 rfl rfl 1 (by decide) (htG _ g1_170) (fun _ h9 => h9) rfl dX2_takeLatest_2 ?_
          refine lv_iconst (v := 1) hx hb dX2_takeLatest_5 (by decide) ?_
          refine lv_isub hx hb dX2_takeLatest_6 ?_
          refine tope (y := 2) (by decide) ?_
          refine ko_qs (va_runV (As := [.int 2]) (rest := []) ⟨hx, hb, hml, hown, htG⟩ (kX2_stateAt l g h0 h1 3 (a0 0) (a1 0) (a2 0) (a3 0) 2) (cwV 1 htG (GV g2_78 g2_80 gS_2 g1_8 g2_81) rfl rfl rfl hd_X2_stateAt ⟨Nat.le_of_ble_eq_true rfl, Nat.le_of_ble_eq_true rfl⟩) (PR_V hK hL hS hP [0, 1] rfl (ci := 2) rfl 0 rfl) rfl rfl hl.1 rfl (lv_room (Nat.le_of_ble_eq_true rfl)) dX2_takeLatest_7 ⟨Nat.zero_le _, Nat.zero_le _⟩) (v := a2 0) rfl ?_
          refine lv_astore_n (lv' := [(2, .ref (a2 0)), (0, .ref h0), (1, .ref (b 0))]) hx hb dX2_takeLatest_10 rfl hl (by decide) rfl (fun ls hl => ?_)
          refine lv_aload_n hx hb dX2_takeLatest_11 rfl (lv_at hl 0 rfl) ?_
          refine lv_ifnonnull (tgt := 17) hx hb dX2_takeLatest_12 (by decide) ?_
          refine lv_aload_n hx hb dX2_takeLatest_17 rfl (lv_at hl 2 rfl) ?_
          refine lv_aload_n hx hb dX2_takeLatest_18 rfl (lv_at hl 0 rfl) ?_
          have hq := (blkQ (bs := [w_hd g h0 h1 3 (a0 0) (a1 0) (a2 0) (a3 0), w_X6 g a0 x0, w_X6 g a1 x1, w_X6 g a2 x2, w_X6 g a3 x3, w_X6 g b y]) (cs := [w_X6 g b y, w_X6 g a2 x2]) (rs := [w_hd g h0 h1 3 (a0 0) (a1 0) (a2 0) (a3 0), w_X6 g a0 x0, w_X6 g a1 x1, w_X6 g a3 x3]) [5, 3, 0, 1, 2, 4] 6 rfl (by decide) rfl (wc := w_X6 g b y ++ w_X6 g a2 x2) (by simp only [List.flatten_cons, List.flatten_nil, List.append_nil]))
          obtain ⟨hPc, hDc⟩ := va_cut hP hD hq
          refine kw_veB (va_runV (As := [.ref (a2 0)]) (rest := []) ⟨hx, hb, hml, hown, htG⟩ (kX6_copy l g b a2 _ y x2 x2 rfl) (cwV 1 htG (GV g2_82 g2_14 g2_15 g1_2 g2_16) rfl rfl rfl hd_X6_copy ⟨Nat.le_of_ble_eq_true rfl, Nat.le_of_ble_eq_true rfl⟩) (PW_VA hK hL hS hPc hDc hA (ci := 5) rfl 0 rfl) rfl rfl hl.1 rfl (lv_room (Nat.le_of_ble_eq_true rfl)) dX2_takeLatest_19 ⟨Nat.zero_le _, Nat.zero_le _⟩) hP hD hS hA hq (blkQ (bs := [w_hd g h0 h1 3 (a0 0) (a1 0) (a2 0) (a3 0), w_X6 g a0 x0, w_X6 g a1 x1, w_X6 g a2 x2, w_X6 g a3 x3, w_X6 g b x2]) (cs := [w_X6 g b x2, w_X6 g a2 x2]) (rs := [w_hd g h0 h1 3 (a0 0) (a1 0) (a2 0) (a3 0), w_X6 g a0 x0, w_X6 g a1 x1, w_X6 g a3 x3]) [5, 3, 0, 1, 2, 4] 6 rfl (by decide) rfl (wc := w_X6 g b x2 ++ w_X6 g a2 x2) (by simp only [List.flatten_cons, List.flatten_nil, List.append_nil])) (List.Perm.refl _) (fun H locs hP hD hS => ?_)
          refine lv_aload_n hx hb dX2_takeLatest_22 rfl (lv_at hl 1 rfl) ?_
          refine lv_dup hx hb dX2_takeLatest_23 rfl ?_
          refine va_get (D := g.1) (ci := 2) (v := .int 3) (C := RX2) (T := TX2) (N := 2) hx hb htG in_wsX20 hown hK.1 hP 0 rfl rfl 1 (by decide) (htG _ g1_170) (fun _ h9 => h9) rfl dX2_takeLatest_24 ?_
          refine lv_iconst (v := 1) hx hb dX2_takeLatest_27 (by decide) ?_
          refine lv_isub hx hb dX2_takeLatest_28 ?_
          refine tope (y := 2) (by decide) ?_
          refine va_put (D := g.1) (ci := 2) (v := .int 2) (ty := .int) (C := RX2) (T := TX2) (N := 2) hx hb htG in_wsX20 tyX2 tyX2_ok nmX2 hown hK.1 hP hD hS 0 rfl rfl 1 (by decide) (htG _ g1_170) (fun _ h9 => h9) rfl (by decide +kernel) rfl rfl (Nat.le_of_ble_eq_true rfl) dX2_takeLatest_29 (fun H locs hP hD hS => ?_)
          have hP : va_P g.1 vwCl ([w_hd g h0 h1 2 (a0 0) (a1 0) (a2 0) (a3 0), w_X6 g a0 x0, w_X6 g a1 x1, w_X6 g a2 x2, w_X6 g a3 x3, w_X6 g b x2].flatten) H := hP
          have hD : va_D A ([w_hd g h0 h1 2 (a0 0) (a1 0) (a2 0) (a3 0), w_X6 g a0 x0, w_X6 g a1 x1, w_X6 g a2 x2, w_X6 g a3 x3, w_X6 g b x2].flatten) := hD
          refine lv_iconst (v := 1) hx hb dX2_takeLatest_32 (by decide) ?_
          exact W.zret (v := 1) (ty := .boolean) hx hb hr rfl (fun t ht hW => ⟨⟨_, (_, _), rfl, pr1 (Option.some.inj hm), atH ht hP, hD⟩, hS.F ht⟩) hS.2.2 dX2_takeLatest_33
        · replace hm := (if_neg cz3).symm.trans hm
          by_cases cz4 : z = 4
          · replace hm := (if_pos cz4).symm.trans hm
            subst cz4
            refine lv_aload_n hx hb dX2_takeLatest_0 rfl (lv_at hl 0 rfl) ?_
            refine lv_aload_n hx hb dX2_takeLatest_1 rfl (lv_at hl 0 rfl) ?_
            refine va_get (D := g.1) (ci := 2) (v := .int 4) (C := RX2) (T := TX2) (N := 2) hx hb htG in_wsX20 hown hK.1 hP 0 rfl rfl 1 (by decide) (htG _ g1_170) (fun _ h9 => h9) rfl dX2_takeLatest_2 ?_
            refine lv_iconst (v := 1) hx hb dX2_takeLatest_5 (by decide) ?_
            refine lv_isub hx hb dX2_takeLatest_6 ?_
            refine tope (y := 3) (by decide) ?_
            refine ko_qs (va_runV (As := [.int 3]) (rest := []) ⟨hx, hb, hml, hown, htG⟩ (kX2_stateAt l g h0 h1 4 (a0 0) (a1 0) (a2 0) (a3 0) 3) (cwV 1 htG (GV g2_78 g2_80 gS_2 g1_8 g2_81) rfl rfl rfl hd_X2_stateAt ⟨Nat.le_of_ble_eq_true rfl, Nat.le_of_ble_eq_true rfl⟩) (PR_V hK hL hS hP [0, 1] rfl (ci := 2) rfl 0 rfl) rfl rfl hl.1 rfl (lv_room (Nat.le_of_ble_eq_true rfl)) dX2_takeLatest_7 ⟨Nat.zero_le _, Nat.zero_le _⟩) (v := a3 0) rfl ?_
            refine lv_astore_n (lv' := [(2, .ref (a3 0)), (0, .ref h0), (1, .ref (b 0))]) hx hb dX2_takeLatest_10 rfl hl (by decide) rfl (fun ls hl => ?_)
            refine lv_aload_n hx hb dX2_takeLatest_11 rfl (lv_at hl 0 rfl) ?_
            refine lv_ifnonnull (tgt := 17) hx hb dX2_takeLatest_12 (by decide) ?_
            refine lv_aload_n hx hb dX2_takeLatest_17 rfl (lv_at hl 2 rfl) ?_
            refine lv_aload_n hx hb dX2_takeLatest_18 rfl (lv_at hl 0 rfl) ?_
            have hq := (blkQ (bs := [w_hd g h0 h1 4 (a0 0) (a1 0) (a2 0) (a3 0), w_X6 g a0 x0, w_X6 g a1 x1, w_X6 g a2 x2, w_X6 g a3 x3, w_X6 g b y]) (cs := [w_X6 g b y, w_X6 g a3 x3]) (rs := [w_hd g h0 h1 4 (a0 0) (a1 0) (a2 0) (a3 0), w_X6 g a0 x0, w_X6 g a1 x1, w_X6 g a2 x2]) [5, 4, 0, 1, 2, 3] 6 rfl (by decide) rfl (wc := w_X6 g b y ++ w_X6 g a3 x3) (by simp only [List.flatten_cons, List.flatten_nil, List.append_nil]))
            obtain ⟨hPc, hDc⟩ := va_cut hP hD hq
            refine kw_veB (va_runV (As := [.ref (a3 0)]) (rest := []) ⟨hx, hb, hml, hown, htG⟩ (kX6_copy l g b a3 _ y x3 x3 rfl) (cwV 1 htG (GV g2_82 g2_14 g2_15 g1_2 g2_16) rfl rfl rfl hd_X6_copy ⟨Nat.le_of_ble_eq_true rfl, Nat.le_of_ble_eq_true rfl⟩) (PW_VA hK hL hS hPc hDc hA (ci := 5) rfl 0 rfl) rfl rfl hl.1 rfl (lv_room (Nat.le_of_ble_eq_true rfl)) dX2_takeLatest_19 ⟨Nat.zero_le _, Nat.zero_le _⟩) hP hD hS hA hq (blkQ (bs := [w_hd g h0 h1 4 (a0 0) (a1 0) (a2 0) (a3 0), w_X6 g a0 x0, w_X6 g a1 x1, w_X6 g a2 x2, w_X6 g a3 x3, w_X6 g b x3]) (cs := [w_X6 g b x3, w_X6 g a3 x3]) (rs := [w_hd g h0 h1 4 (a0 0) (a1 0) (a2 0) (a3 0), w_X6 g a0 x0, w_X6 g a1 x1, w_X6 g a2 x2]) [5, 4, 0, 1, 2, 3] 6 rfl (by decide) rfl (wc := w_X6 g b x3 ++ w_X6 g a3 x3) (by simp only [List.flatten_cons, List.flatten_nil, List.append_nil])) (List.Perm.refl _) (fun H locs hP hD hS => ?_)
            refine lv_aload_n hx hb dX2_takeLatest_22 rfl (lv_at hl 1 rfl) ?_
            refine lv_dup hx hb dX2_takeLatest_23 rfl ?_
            refine va_get (D := g.1) (ci := 2) (v := .int 4) (C := RX2) (T := TX2) (N := 2) hx hb htG in_wsX20 hown hK.1 hP 0 rfl rfl 1 (by decide) (htG _ g1_170) (fun _ h9 => h9) rfl dX2_takeLatest_24 ?_
            refine lv_iconst (v := 1) hx hb dX2_takeLatest_27 (by decide) ?_
            refine lv_isub hx hb dX2_takeLatest_28 ?_
            refine tope (y := 3) (by decide) ?_
            refine va_put (D := g.1) (ci := 2) (v := .int 3) (ty := .int) (C := RX2) (T := TX2) (N := 2) hx hb htG in_wsX20 tyX2 tyX2_ok nmX2 hown hK.1 hP hD hS 0 rfl rfl 1 (by decide) (htG _ g1_170) (fun _ h9 => h9) rfl (by decide +kernel) rfl rfl (Nat.le_of_ble_eq_true rfl) dX2_takeLatest_29 (fun H locs hP hD hS => ?_)
            have hP : va_P g.1 vwCl ([w_hd g h0 h1 3 (a0 0) (a1 0) (a2 0) (a3 0), w_X6 g a0 x0, w_X6 g a1 x1, w_X6 g a2 x2, w_X6 g a3 x3, w_X6 g b x3].flatten) H := hP
            have hD : va_D A ([w_hd g h0 h1 3 (a0 0) (a1 0) (a2 0) (a3 0), w_X6 g a0 x0, w_X6 g a1 x1, w_X6 g a2 x2, w_X6 g a3 x3, w_X6 g b x3].flatten) := hD
            refine lv_iconst (v := 1) hx hb dX2_takeLatest_32 (by decide) ?_
            exact W.zret (v := 1) (ty := .boolean) hx hb hr rfl (fun t ht hW => ⟨⟨_, (_, _), rfl, pr1 (Option.some.inj hm), atH ht hP, hD⟩, hS.F ht⟩) hS.2.2 dX2_takeLatest_33
          · replace hm := (if_neg cz4).symm.trans hm
            cases hm
theorem hd_X2_size : yX2_size.cls = RX2 ∧ yX2_size.cls ≠ "java/lang/invoke/MethodHandle" ∧ yX2_size.cls ≠ "java/lang/invoke/VarHandle" ∧ (parseMethodDescriptor yX2_size.desc).map (fun d => d.parameters.length) = some 0 := by decide +kernel
abbrev rm_X2_size : Jvm.Room := { frames := 0, cells := 0, slots := 0, locals := 0 }
set_option maxHeartbeats 4000000 in
set_option maxRecDepth 100000 in
theorem kX2_size (l : Launch) (g : CX) (h0 h1 : Nat) (z : Int32) (q0 q1 q2 q3 : Nat) : Met l yX2_size (wg yX2_size cX2_size 1 (some .int)) rm_X2_size (PR g [.ref h0] (w_hd g h0 h1 z q0 q1 q2 q3)) (vp_Si (fun v => v = z)) 0 0 (fun _ => False) := by
  refine Met.ofW (cc := cX2_size) (maxL := 1) (ret := (some .int)) (by decide) rfl ?_
  intro p e s m args below meth c s₁ B hml hv
  obtain ⟨rfl, hP, hK, hL⟩ := hv
  have hx := B.exec
  have hb := B.bytes
  have hr := B.returns
  have htG := wg_G (atoms_spec (ws := wg yX2_size cX2_size 1 (some .int)) B.pre)
  have hown : s.vm.findClass RX2 = some m.cls := findClass_of_methodNamed B.named
  have hlocks := B.notSynchronized
  have hS : va_S (fun _ => False) s.heap s.heap [] := va_S.rf
  have hl := lv_entry ([.ref h0]) (n := 1) (Nat.le_of_ble_eq_true rfl)
  rw [lg_entry_eq]
  generalize (lg_sl ([.ref h0]) ++ List.replicate (1 - (lg_sl ([.ref h0])).length) Slot.unset).toArray = ls at hl ⊢
  have hl : lv_has ls 1 [(0, .ref h0)] := hl
  refine lv_aload_n hx hb dX2_size_0 rfl (lv_at hl 0 rfl) ?_
  refine va_get (D := g.1) (ci := 2) (v := .int z) (C := RX2) (T := TX2) (N := 2) hx hb htG in_wsX20 hown hK.1 hP 0 rfl rfl 1 (by decide) (htG _ g1_170) (fun _ h9 => h9) rfl dX2_size_1 ?_
  exact W.iret (v := z) hx hb hr (fun t ht hW => ⟨_, rfl, rfl, ht⟩) (fun _ h => nomatch h) dX2_size_4
