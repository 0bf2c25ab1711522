abbrev HDT : Type := Int32 × ((Nat → Nat) × SD) × ((Nat → Nat) × SD) × ((Nat → Nat) × SD) × ((Nat → Nat) × SD)
abbrev B2 (g : CX) (h0 h1 : Nat) (u : HDT) : List va_W := [w_hd g h0 h1 u.1 (u.2.1.1 0) (u.2.2.1.1 0) (u.2.2.2.1.1 0) (u.2.2.2.2.1 0), w_X6 g u.2.1.1 u.2.1.2, w_X6 g u.2.2.1.1 u.2.2.1.2, w_X6 g u.2.2.2.1.1 u.2.2.2.1.2, w_X6 g u.2.2.2.2.1 u.2.2.2.2.2]
/-- a state is stored: behind the others; the fifth takes the oldest one's place -/
def fX2_store (u : HDT) (y : SD) : Option HDT := if u.1 = 4 then some (4, u.2.2.1, u.2.2.2.1, u.2.2.2.2, (u.2.1.1, y)) else if u.1 = 0 then some (1, (u.2.1.1, y), u.2.2) else if u.1 = 1 then some (2, u.2.1, (u.2.2.1.1, y), u.2.2.2) else if u.1 = 2 then some (3, u.2.1, u.2.2.1, (u.2.2.2.1.1, y), u.2.2.2.2) else if u.1 = 3 then some (4, u.2.1, u.2.2.1, u.2.2.2.1, (u.2.2.2.2.1, y)) else none
def fX2_takeLatest (u : HDT) (y : SD) : Option (Int32 × HDT × SD) := if u.1 = 0 then some (0, u, y) else if u.1 = 1 then some (1, (0, u.2), u.2.1.2) else if u.1 = 2 then some (1, (1, u.2), u.2.2.1.2) else if u.1 = 3 then some (1, (2, u.2), u.2.2.2.1.2) else if u.1 = 4 then some (1, (3, u.2), u.2.2.2.2.2) else none
abbrev rm_X2_store : Jvm.Room := { frames := 4, cells := 0, slots := 0, locals := 103 }
abbrev rm_X2_takeLatest : Jvm.Room := { frames := 4, cells := 0, slots := 0, locals := 103 }
set_option maxHeartbeats 4000000 in
set_option maxRecDepth 100000 in
theorem kX2_store (l : Launch) (g : CX) (h0 h1 : Nat) (b : Nat → Nat) (sz : Nat) (u : HDT) (y : SD) (res : HDT) (hm0 : fX2_store u y = some res) : Met l yX2_store (wg yX2_store cX2_store 3 none) rm_X2_store (PW g [.ref h0, .ref (b 0)] sz ((B2 g h0 h1 u ++ [w_X6 g b y]).flatten)) (va_Qv (fun u => u = res) (fun r t => va_P g.1 vwCl ((B2 g h0 h1 r ++ [w_X6 g b y]).flatten) t.heap ∧ va_D (va_A ((B2 g h0 h1 u ++ [w_X6 g b y]).flatten) sz) ((B2 g h0 h1 r ++ [w_X6 g b y]).flatten)) (va_A ((B2 g h0 h1 u ++ [w_X6 g b y]).flatten) sz)) 0 0 (va_A ((B2 g h0 h1 u ++ [w_X6 g b y]).flatten) sz) := by
  obtain ⟨z, ⟨a0, x0⟩, ⟨a1, x1⟩, ⟨a2, x2⟩, ⟨a3, x3⟩⟩ := u
  refine Met.ofW (cc := cX2_store) (maxL := 3) (ret := none) (by decide) rfl ?_
  intro p e s m args below meth c s₁ B hml hv
  obtain ⟨rfl, hsz, hP, hK, hD0, hL⟩ := hv
  have hx := B.exec
  have hb := B.bytes
  have hr := B.returns
  have htG := wg_G (atoms_spec (ws := wg yX2_store cX2_store 3 none) B.pre)
  have hown : s.vm.findClass RX2 = some m.cls := findClass_of_methodNamed B.named
  have hlocks := B.notSynchronized
  subst hsz
  have hD := hD0.self (sz := s.heap.size)
  generalize hAe : va_A ((B2 g h0 h1 (z, (a0, x0), (a1, x1), (a2, x2), (a3, x3)) ++ [w_X6 g b y]).flatten) s.heap.size = A at hD hL ⊢
  have hA : ∀ q : Nat, s.heap.size ≤ q → A q := fun q h => by rw [← hAe]; exact Or.inr h
  have hS : va_S A s.heap s.heap [] := va_S.rf
  have hl := lv_entry ([.ref h0, .ref (b 0)]) (n := 3) (Nat.le_of_ble_eq_true rfl)
  rw [lg_entry_eq]
  generalize (lg_sl ([.ref h0, .ref (b 0)]) ++ List.replicate (3 - (lg_sl ([.ref h0, .ref (b 0)])).length) Slot.unset).toArray = ls at hl ⊢
  have hl : lv_has ls 3 [(0, .ref h0), (1, .ref (b 0))] := hl
  have hP : va_P g.1 vwCl ([w_hd g h0 h1 z (a0 0) (a1 0) (a2 0) (a3 0), w_X6 g a0 x0, w_X6 g a1 x1, w_X6 g a2 x2, w_X6 g a3 x3, w_X6 g b y].flatten) s.heap := hP
  have hD : va_D A ([w_hd g h0 h1 z (a0 0) (a1 0) (a2 0) (a3 0), w_X6 g a0 x0, w_X6 g a1 x1, w_X6 g a2 x2, w_X6 g a3 x3, w_X6 g b y].flatten) := hD
  have hm := hm0
  simp only [fX2_store] at hm
  by_cases cz4 : z = 4
  · replace hm := (if_pos cz4).symm.trans hm
    subst cz4
    refine lv_aload_n hx hb dX2_store_0 rfl (lv_at hl 0 rfl) ?_
    refine va_get (D := g.1) (ci := 2) (v := .int 4) (C := RX2) (T := TX2) (N := 2) hx hb htG in_wsX20 hown hK.1 hP 0 rfl rfl 1 (by decide) (htG _ g1_170) (fun _ h9 => h9) rfl dX2_store_1 ?_
    refine lv_aload_n hx hb dX2_store_4 rfl (lv_at hl 0 rfl) ?_
    refine va_get (D := g.1) (ci := 2) (v := .ref h1) (C := RX2) (T := TX2) (N := 2) hx hb htG in_wsX20 hown hK.1 hP 0 rfl rfl 0 (by decide) (htG _ g1_169) (fun _ h9 => h9) rfl dX2_store_5 ?_
    refine va_alen hx hb hK.1 hP 1 2 rfl rfl (v := 4) rfl dX2_store_8 ?_
    refine lv_icmp_lt (tgt := 16) hx hb dX2_store_9 (by decide) (fun h => absurd h (by decide)) (fun _ => ?_)
    refine lv_aload_n hx hb dX2_store_12 rfl (lv_at hl 0 rfl) ?_
    have hq := (blkQ (bs := [w_hd g h0 h1 4 (a0 0) (a1 0) (a2 0) (a3 0), [(a0 0, .inr (5, [.int x0.1, .int x0.2.1, .ref (a0 1), .ref (a0 2), .ref (a0 3), .ref (a0 6), .ref (a0 11), .ref (a0 16)]))], (w_X6 g a0 x0).tail, [(a1 0, .inr (5, [.int x1.1, .int x1.2.1, .ref (a1 1), .ref (a1 2), .ref (a1 3), .ref (a1 6), .ref (a1 11), .ref (a1 16)]))], (w_X6 g a1 x1).tail, [(a2 0, .inr (5, [.int x2.1, .int x2.2.1, .ref (a2 1), .ref (a2 2), .ref (a2 3), .ref (a2 6), .ref (a2 11), .ref (a2 16)]))], (w_X6 g a2 x2).tail, [(a3 0, .inr (5, [.int x3.1, .int x3.2.1, .ref (a3 1), .ref (a3 2), .ref (a3 3), .ref (a3 6), .ref (a3 11), .ref (a3 16)]))], (w_X6 g a3 x3).tail, w_X6 g b y]) (cs := [w_hd g h0 h1 4 (a0 0) (a1 0) (a2 0) (a3 0), [(a0 0, .inr (5, [.int x0.1, .int x0.2.1, .ref (a0 1), .ref (a0 2), .ref (a0 3), .ref (a0 6), .ref (a0 11), .ref (a0 16)]))], [(a1 0, .inr (5, [.int x1.1, .int x1.2.1, .ref (a1 1), .ref (a1 2), .ref (a1 3), .ref (a1 6), .ref (a1 11), .ref (a1 16)]))], [(a2 0, .inr (5, [.int x2.1, .int x2.2.1, .ref (a2 1), .ref (a2 2), .ref (a2 3), .ref (a2 6), .ref (a2 11), .ref (a2 16)]))], [(a3 0, .inr (5, [.int x3.1, .int x3.2.1, .ref (a3 1), .ref (a3 2), .ref (a3 3), .ref (a3 6), .ref (a3 11), .ref (a3 16)]))]]) (rs := [(w_X6 g a0 x0).tail, (w_X6 g a1 x1).tail, (w_X6 g a2 x2).tail, (w_X6 g a3 x3).tail, w_X6 g b y]) [0, 1, 3, 5, 7, 2, 4, 6, 8, 9] 10 rfl (by decide) rfl (wc := w_hd g h0 h1 4 (a0 0) (a1 0) (a2 0) (a3 0) ++ [(a0 0, .inr (5, [.int x0.1, .int x0.2.1, .ref (a0 1), .ref (a0 2), .ref (a0 3), .ref (a0 6), .ref (a0 11), .ref (a0 16)])), (a1 0, .inr (5, [.int x1.1, .int x1.2.1, .ref (a1 1), .ref (a1 2), .ref (a1 3), .ref (a1 6), .ref (a1 11), .ref (a1 16)])), (a2 0, .inr (5, [.int x2.1, .int x2.2.1, .ref (a2 1), .ref (a2 2), .ref (a2 3), .ref (a2 6), .ref (a2 11), .ref (a2 16)])), (a3 0, .inr (5, [.int x3.1, .int x3.2.1, .ref (a3 1), .ref (a3 2), .ref (a3 3), .ref (a3 6), .ref (a3 11), .ref (a3 16)]))]) rfl)
    obtain ⟨hPc, hDc⟩ := va_cut hP hD hq
    refine kw_veB (va_runV (As := []) (rest := []) ⟨hx, hb, hml, hown, htG⟩ (kX2_dropOldest l g h0 h1 _ 4 (a0 0) (a1 0) (a2 0) (a3 0) [.int x0.1, .int x0.2.1, .ref (a0 1), .ref (a0 2), .ref (a0 3), .ref (a0 6), .ref (a0 11), .ref (a0 16)] [.int x1.1, .int x1.2.1, .ref (a1 1), .ref (a1 2), .ref (a1 3), .ref (a1 6), .ref (a1 11), .ref (a1 16)] [.int x2.1, .int x2.2.1, .ref (a2 1), .ref (a2 2), .ref (a2 3), .ref (a2 6), .ref (a2 11), .ref (a2 16)] [.int x3.1, .int x3.2.1, .ref (a3 1), .ref (a3 2), .ref (a3 3), .ref (a3 6), .ref (a3 11), .ref (a3 16)]) (cwV 0 htG (GV g2_74 g2_76 gS_1 g1_8 g2_77) rfl rfl rfl hd_X2_dropOldest ⟨Nat.le_of_ble_eq_true rfl, Nat.le_of_ble_eq_true rfl⟩) (PW_VA hK hL hS hPc hDc hA (ci := 2) rfl 0 rfl) rfl rfl hl.1 rfl (lv_room (Nat.le_of_ble_eq_true rfl)) dX2_store_13 ⟨Nat.zero_le _, Nat.zero_le _⟩) hP hD hS hA hq (blkQ (bs := [w_hd g h0 h1 (4 - 1) (a1 0) (a2 0) (a3 0) (a0 0), [(a1 0, .inr (5, [.int x1.1, .int x1.2.1, .ref (a1 1), .ref (a1 2), .ref (a1 3), .ref (a1 6), .ref (a1 11), .ref (a1 16)]))], (w_X6 g a1 x1).tail, [(a2 0, .inr (5, [.int x2.1, .int x2.2.1, .ref (a2 1), .ref (a2 2), .ref (a2 3), .ref (a2 6), .ref (a2 11), .ref (a2 16)]))], (w_X6 g a2 x2).tail, [(a3 0, .inr (5, [.int x3.1, .int x3.2.1, .ref (a3 1), .ref (a3 2), .ref (a3 3), .ref (a3 6), .ref (a3 11), .ref (a3 16)]))], (w_X6 g a3 x3).tail, [(a0 0, .inr (5, [.int x0.1, .int x0.2.1, .ref (a0 1), .ref (a0 2), .ref (a0 3), .ref (a0 6), .ref (a0 11), .ref (a0 16)]))], (w_X6 g a0 x0).tail, w_X6 g b y]) (cs := [w_hd g h0 h1 (4 - 1) (a1 0) (a2 0) (a3 0) (a0 0), [(a0 0, .inr (5, [.int x0.1, .int x0.2.1, .ref (a0 1), .ref (a0 2), .ref (a0 3), .ref (a0 6), .ref (a0 11), .ref (a0 16)]))], [(a1 0, .inr (5, [.int x1.1, .int x1.2.1, .ref (a1 1), .ref (a1 2), .ref (a1 3), .ref (a1 6), .ref (a1 11), .ref (a1 16)]))], [(a2 0, .inr (5, [.int x2.1, .int x2.2.1, .ref (a2 1), .ref (a2 2), .ref (a2 3), .ref (a2 6), .ref (a2 11), .ref (a2 16)]))], [(a3 0, .inr (5, [.int x3.1, .int x3.2.1, .ref (a3 1), .ref (a3 2), .ref (a3 3), .ref (a3 6), .ref (a3 11), .ref (a3 16)]))]]) (rs := [(w_X6 g a0 x0).tail, (w_X6 g a1 x1).tail, (w_X6 g a2 x2).tail, (w_X6 g a3 x3).tail, w_X6 g b y]) [0, 7, 1, 3, 5, 8, 2, 4, 6, 9] 10 rfl (by decide) rfl (wc := w_hd g h0 h1 (4 - 1) (a1 0) (a2 0) (a3 0) (a0 0) ++ [(a0 0, .inr (5, [.int x0.1, .int x0.2.1, .ref (a0 1), .ref (a0 2), .ref (a0 3), .ref (a0 6), .ref (a0 11), .ref (a0 16)])), (a1 0, .inr (5, [.int x1.1, .int x1.2.1, .ref (a1 1), .ref (a1 2), .ref (a1 3), .ref (a1 6), .ref (a1 11), .ref (a1 16)])), (a2 0, .inr (5, [.int x2.1, .int x2.2.1, .ref (a2 1), .ref (a2 2), .ref (a2 3), .ref (a2 6), .ref (a2 11), .ref (a2 16)])), (a3 0, .inr (5, [.int x3.1, .int x3.2.1, .ref (a3 1), .ref (a3 2), .ref (a3 3), .ref (a3 6), .ref (a3 11), .ref (a3 16)]))]) rfl) (List.Perm.refl _) (fun H locs hP hD hS => ?_)
    have hP : va_P g.1 vwCl ([w_hd g h0 h1 3 (a1 0) (a2 0) (a3 0) (a0 0), w_X6 g a1 x1, w_X6 g a2 x2, w_X6 g a3 x3, w_X6 g a0 x0, w_X6 g b y].flatten) H := hP
    have hD : va_D A ([w_hd g h0 h1 3 (a1 0) (a2 0) (a3 0) (a0 0), w_X6 g a1 x1, w_X6 g a2 x2, w_X6 g a3 x3, w_X6 g a0 x0, w_X6 g b y].flatten) := hD
    refine lv_aload_n hx hb dX2_store_16 rfl (lv_at hl 0 rfl) ?_
    refine lv_aload_n hx hb dX2_store_17 rfl (lv_at hl 0 rfl) ?_
    refine va_get (D := g.1) (ci := 2) (v := .int 3) (C := RX2) (T := TX2) (N := 2) hx hb htG in_wsX20 hown hK.1 hP 0 rfl rfl 1 (by decide) (htG _ g1_170) (fun _ h9 => h9) rfl dX2_store_18 ?_
    refine ko_qs (va_runV (As := [.int 3]) (rest := []) ⟨hx, hb, hml, hown, htG⟩ (kX2_stateAt l g h0 h1 3 (a1 0) (a2 0) (a3 0) (a0 0) 3) (cwV 1 htG (GV g2_78 g2_80 gS_2 g1_8 g2_81) rfl rfl rfl hd_X2_stateAt ⟨Nat.le_of_ble_eq_true rfl, Nat.le_of_ble_eq_true rfl⟩) (PR_V hK hL hS hP [0, 1] rfl (ci := 2) rfl 0 rfl) rfl rfl hl.1 rfl (lv_room (Nat.le_of_ble_eq_true rfl)) dX2_store_21 ⟨Nat.zero_le _, Nat.zero_le _⟩) (v := a0 0) rfl ?_
    refine lv_astore_n (lv' := [(2, .ref (a0 0)), (0, .ref h0), (1, .ref (b 0))]) hx hb dX2_store_24 rfl hl (by decide) rfl (fun ls hl => ?_)
    refine lv_aload_n hx hb dX2_store_25 rfl (lv_at hl 0 rfl) ?_
    refine lv_ifnull hx hb dX2_store_26 ?_
    refine lv_aload_n hx hb dX2_store_29 rfl (lv_at hl 0 rfl) ?_
    refine lv_aload_n hx hb dX2_store_30 rfl (lv_at hl 2 rfl) ?_
    have hq := (blkQ (bs := [w_hd g h0 h1 3 (a1 0) (a2 0) (a3 0) (a0 0), w_X6 g a1 x1, w_X6 g a2 x2, w_X6 g a3 x3, w_X6 g a0 x0, w_X6 g b y]) (cs := [w_X6 g a0 x0, w_X6 g b y]) (rs := [w_hd g h0 h1 3 (a1 0) (a2 0) (a3 0) (a0 0), w_X6 g a1 x1, w_X6 g a2 x2, w_X6 g a3 x3]) [4, 5, 0, 1, 2, 3] 6 rfl (by decide) rfl (wc := w_X6 g a0 x0 ++ w_X6 g b y) (by simp only [List.flatten_cons, List.flatten_nil, List.append_nil]))
    obtain ⟨hPc, hDc⟩ := va_cut hP hD hq
    refine kw_veB (va_runV (As := [.ref (b 0)]) (rest := []) ⟨hx, hb, hml, hown, htG⟩ (kX6_copy l g a0 b _ x0 y y rfl) (cwV 1 htG (GV g2_82 g2_14 g2_15 g1_2 g2_16) rfl rfl rfl hd_X6_copy ⟨Nat.le_of_ble_eq_true rfl, Nat.le_of_ble_eq_true rfl⟩) (PW_VA hK hL hS hPc hDc hA (ci := 5) rfl 0 rfl) rfl rfl hl.1 rfl (lv_room (Nat.le_of_ble_eq_true rfl)) dX2_store_31 ⟨Nat.zero_le _, Nat.zero_le _⟩) hP hD hS hA hq (blkQ (bs := [w_hd g h0 h1 3 (a1 0) (a2 0) (a3 0) (a0 0), w_X6 g a1 x1, w_X6 g a2 x2, w_X6 g a3 x3, w_X6 g a0 y, w_X6 g b y]) (cs := [w_X6 g a0 y, w_X6 g b y]) (rs := [w_hd g h0 h1 3 (a1 0) (a2 0) (a3 0) (a0 0), w_X6 g a1 x1, w_X6 g a2 x2, w_X6 g a3 x3]) [4, 5, 0, 1, 2, 3] 6 rfl (by decide) rfl (wc := w_X6 g a0 y ++ w_X6 g b y) (by simp only [List.flatten_cons, List.flatten_nil, List.append_nil])) (List.Perm.refl _) (fun H locs hP hD hS => ?_)
    refine lv_aload_n hx hb dX2_store_34 rfl (lv_at hl 1 rfl) ?_
    refine lv_dup hx hb dX2_store_35 rfl ?_
    refine va_get (D := g.1) (ci := 2) (v := .int 3) (C := RX2) (T := TX2) (N := 2) hx hb htG in_wsX20 hown hK.1 hP 0 rfl rfl 1 (by decide) (htG _ g1_170) (fun _ h9 => h9) rfl dX2_store_36 ?_
    refine lv_iconst (v := 1) hx hb dX2_store_39 (by decide) ?_
    refine lv_iadd hx hb dX2_store_40 ?_
    refine tope (y := 4) (by decide) ?_
    refine va_put (D := g.1) (ci := 2) (v := .int 4) (ty := .int) (C := RX2) (T := TX2) (N := 2) hx hb htG in_wsX20 tyX2 tyX2_ok nmX2 hown hK.1 hP hD hS 0 rfl rfl 1 (by decide) (htG _ g1_170) (fun _ h9 => h9) rfl (by decide +kernel) rfl rfl (Nat.le_of_ble_eq_true rfl) dX2_store_41 (fun H locs hP hD hS => ?_)
    have hP : va_P g.1 vwCl ([w_hd g h0 h1 4 (a1 0) (a2 0) (a3 0) (a0 0), w_X6 g a1 x1, w_X6 g a2 x2, w_X6 g a3 x3, w_X6 g a0 y, w_X6 g b y].flatten) H := hP
    have hD : va_D A ([w_hd g h0 h1 4 (a1 0) (a2 0) (a3 0) (a0 0), w_X6 g a1 x1, w_X6 g a2 x2, w_X6 g a3 x3, w_X6 g a0 y, w_X6 g b y].flatten) := hD
    obtain rfl := Option.some.inj hm
    exact W.vret hx hb hr (fun t ht hW => ⟨⟨_, rfl, rfl, atH ht hP, hD⟩, hS.F ht⟩) hS.2.2 dX2_store_44
  · replace hm := (if_neg cz4).symm.trans hm
    by_cases cz0 : z = 0
    · replace hm := (if_pos cz0).symm.trans hm
      subst cz0
      refine lv_aload_n hx hb dX2_store_0 rfl (lv_at hl 0 rfl) ?_
      refine va_get (D := g.1) (ci := 2) (v := .int 0) (C := RX2) (T := TX2) (N := 2) hx hb htG in_wsX20 hown hK.1 hP 0 rfl rfl 1 (by decide) (htG _ g1_170) (fun _ h9 => h9) rfl dX2_store_1 ?_
      refine lv_aload_n hx hb dX2_store_4 rfl (lv_at hl 0 rfl) ?_
      refine va_get (D := g.1) (ci := 2) (v := .ref h1) (C := RX2) (T := TX2) (N := 2) hx hb htG in_wsX20 hown hK.1 hP 0 rfl rfl 0 (by decide) (htG _ g1_169) (fun _ h9 => h9) rfl dX2_store_5 ?_
      refine va_alen hx hb hK.1 hP 1 2 rfl rfl (v := 4) rfl dX2_store_8 ?_
      refine lv_icmp_lt (tgt := 16) hx hb dX2_store_9 (by decide) (fun _ => ?_) (fun h => absurd (by decide) h)
      refine lv_aload_n hx hb dX2_store_16 rfl (lv_at hl 0 rfl) ?_
      refine lv_aload_n hx hb dX2_store_17 rfl (lv_at hl 0 rfl) ?_
      refine va_get (D := g.1) (ci := 2) (v := .int 0) (C := RX2) (T := TX2) (N := 2) hx hb htG in_wsX20 hown hK.1 hP 0 rfl rfl 1 (by decide) (htG _ g1_170) (fun _ h9 => h9) rfl dX2_store_18 ?_
      refine ko_qs (va_runV (As := [.int 0]) (rest := []) ⟨hx, hb, hml, hown, htG⟩ (kX2_stateAt l g h0 h1 0 (a0 0) (a1 0) (a2 0) (a3 0) 0) (cwV 1 htG (GV g2_78 g2_80 gS_2 g1_8 g2_81) rfl rfl rfl hd_X2_stateAt ⟨Nat.le_of_ble_eq_true rfl, Nat.le_of_ble_eq_true rfl⟩) (PR_V hK hL hS hP [0, 1] rfl (ci := 2) rfl 0 rfl) rfl rfl hl.1 rfl (lv_room (Nat.le_of_ble_eq_true rfl)) dX2_store_21 ⟨Nat.zero_le _, Nat.zero_le _⟩) (v := a0 0) rfl ?_
      refine lv_astore_n (lv' := [(2, .ref (a0 0)), (0, .ref h0), (1, .ref (b 0))]) hx hb dX2_store_24 rfl hl (by decide) rfl (fun ls hl => ?_)
      refine lv_aload_n hx hb dX2_store_25 rfl (lv_at hl 0 rfl) ?_
      refine lv_ifnull hx hb dX2_store_26 ?_
      refine lv_aload_n hx hb dX2_store_29 rfl (lv_at hl 0 rfl) ?_
      refine lv_aload_n hx hb dX2_store_30 rfl (lv_at hl 2 rfl) ?_
      have hq := (blkQ (bs := [w_hd g h0 h1 0 (a0 0) (a1 0) (a2 0) (a3 0), w_X6 g a0 x0, w_X6 g a1 x1, w_X6 g a2 x2, w_X6 g a3 x3, w_X6 g b y]) (cs := [w_X6 g a0 x0, w_X6 g b y]) (rs := [w_hd g h0 h1 0 (a0 0) (a1 0) (a2 0) (a3 0), w_X6 g a1 x1, w_X6 g a2 x2, w_X6 g a3 x3]) [1, 5, 0, 2, 3, 4] 6 rfl (by decide) rfl (wc := w_X6 g a0 x0 ++ w_X6 g b y) (by simp only [List.flatten_cons, List.flatten_nil, List.append_nil]))
      obtain ⟨hPc, hDc⟩ := va_cut hP hD hq
      refine kw_veB (va_runV (As := [.ref (b 0)]) (rest := []) ⟨hx, hb, hml, hown, htG⟩ (kX6_copy l g a0 b _ x0 y y rfl) (cwV 1 htG (GV g2_82 g2_14 g2_15 g1_2 g2_16) rfl rfl rfl hd_X6_copy ⟨Nat.le_of_ble_eq_true rfl, Nat.le_of_ble_eq_true rfl⟩) (PW_VA hK hL hS hPc hDc hA (ci := 5) rfl 0 rfl) rfl rfl hl.1 rfl (lv_room (Nat.le_of_ble_eq_true rfl)) dX2_store_31 ⟨Nat.zero_le _, Nat.zero_le _⟩) hP hD hS hA hq (blkQ (bs := [w_hd g h0 h1 0 (a0 0) (a1 0) (a2 0) (a3 0), w_X6 g a0 y, w_X6 g a1 x1, w_X6 g a2 x2, w_X6 g a3 x3, w_X6 g b y]) (cs := [w_X6 g a0 y, w_X6 g b y]) (rs := [w_hd g h0 h1 0 (a0 0) (a1 0) (a2 0) (a3 0), w_X6 g a1 x1, w_X6 g a2 x2, w_X6 g a3 x3]) [1, 5, 0, 2, 3, 4] 6 rfl (by decide) rfl (wc := w_X6 g a0 y ++ w_X6 g b y) (by simp only [List.flatten_cons, List.flatten_nil, List.append_nil])) (List.Perm.refl _) (fun H locs hP hD hS => ?_)
      refine lv_aload_n hx hb dX2_store_34 rfl (lv_at hl 1 rfl) ?_
      refine lv_dup hx hb dX2_store_35 rfl ?_
      refine va_get (D := g.1) (ci := 2) (v := .int 0) (C := RX2) (T := TX2) (N := 2) hx hb htG in_wsX20 hown hK.1 hP 0 rfl rfl 1 (by decide) (htG _ g1_170) (fun _ h9 => h9) rfl dX2_store_36 ?_
      refine lv_iconst (v := 1) hx hb dX2_store_39 (by decide) ?_
      refine lv_iadd hx hb dX2_store_40 ?_
      refine tope (y := 1) (by decide) ?_
      refine va_put (D := g.1) (ci := 2) (v := .int 1) (ty := .int) (C := RX2) (T := TX2) (N := 2) hx hb htG in_wsX20 tyX2 tyX2_ok nmX2 hown hK.1 hP hD hS 0 rfl rfl 1 (by decide) (htG _ g1_170) (fun _ h9 => h9) rfl (by decide +kernel) rfl rfl (Nat.le_of_ble_eq_true rfl) dX2_store_41 (fun H locs hP hD hS => ?_)
      have hP : va_P g.1 vwCl ([w_hd g h0 h1 1 (a0 0) (a1 0) (a2 0) (a3 0), w_X6 g a0 y, w_X6 g a1 x1, w_X6 g a2 x2, w_X6 g a3 x3, w_X6 g b y].flatten) H := hP
      have hD : va_D A ([w_hd g h0 h1 1 (a0 0) (a1 0) (a2 0) (a3 0), w_X6 g a0 y, w_X6 g a1 x1, w_X6 g a2 x2, w_X6 g a3 x3, w_X6 g b y].flatten) := hD
      obtain rfl := Option.some.inj hm
      exact W.vret hx hb hr (fun t ht hW => ⟨⟨_, rfl, rfl, atH ht hP, hD⟩, hS.F ht⟩) hS.2.2 dX2_store_44
    · replace hm := (if_neg cz0).symm.trans hm
      by_cases cz1 : z = 1
      · replace hm := (if_pos cz1).symm.trans hm
        subst cz1
        refine lv_aload_n hx hb dX2_store_0 rfl (lv_at hl 0 rfl) ?_
        refine va_get (D := g.1) (ci := 2) (v := .int 1) (C := RX2) (T := TX2) (N := 2) hx hb htG in_wsX20 hown hK.1 hP 0 rfl rfl 1 (by decide) (htG _ g1_170) (fun _ h9 => h9) rfl dX2_store_1 ?_
        refine lv_aload_n hx hb dX2_store_4 rfl (lv_at hl 0 rfl) ?_
        refine va_get (D := g.1) (ci := 2) (v := .ref h1) (C := RX2) (T := TX2) (N := 2) hx hb htG in_wsX20 hown hK.1 hP 0 rfl rfl 0 (by decide) (htG _ g1_169) (fun _ h9 => h9) rfl dX2_store_5 ?_
        refine va_alen hx hb hK.1 hP 1 2 rfl rfl (v := 4) rfl dX2_store_8 ?_
        refine lv_icmp_lt (tgt := 16) hx hb dX2_store_9 (by decide) (fun _ => ?_) (fun h => absurd (by decide) h)
        refine lv_aload_n hx hb dX2_store_16 rfl (lv_at hl 0 rfl) ?_
        refine lv_aload_n hx hb dX2_store_17 rfl (lv_at hl 0 rfl) ?_
        refine va_get (D := g.1) (ci := 2) (v := .int 1) (C := RX2) (T := TX2) (N := 2) hx hb htG in_wsX20 hown hK.1 hP 0 rfl rfl 1 (by decide) (htG _ g1_170) (fun _ h9 => h9) rfl dX2_store_18 ?_
        refine ko_qs (va_runV (As := [.int 1]) (rest := []) ⟨hx, hb, hml, hown, htG⟩ (kX2_stateAt l g h0 h1 1 (a0 0) (a1 0) (a2 0) (a3 0) 1) (cwV 1 htG (GV g2_78 g2_80 gS_2 g1_8 g2_81) rfl rfl rfl hd_X2_stateAt ⟨Nat.le_of_ble_eq_true rfl, Nat.le_of_ble_eq_true rfl⟩) (PR_V hK hL hS hP [0, 1] rfl (ci := 2) rfl 0 rfl) rfl rfl hl.1 rfl (lv_room (Nat.le_of_ble_eq_true rfl)) dX2_store_21 ⟨Nat.zero_le _, Nat.zero_le _⟩) (v := a1 0) rfl ?_
        refine lv_astore_n (lv' := [(2, .ref (a1 0)), (0, .ref h0), (1, .ref (b 0))]) hx hb dX2_store_24 rfl hl (by decide) rfl (fun ls hl => ?_)
        refine lv_aload_n hx hb dX2_store_25 rfl (lv_at hl 0 rfl) ?_
        refine lv_ifnull hx hb dX2_store_26 ?_
        refine lv_aload_n hx hb dX2_store_29 rfl (lv_at hl 0 rfl) ?_
        refine lv_aload_n hx hb dX2_store_30 rfl (lv_at hl 2 rfl) ?_
        have hq := (blkQ (bs := [w_hd g h0 h1 1 (a0 0) (a1 0) (a2 0) (a3 0), w_X6 g a0 x0, w_X6 g a1 x1, w_X6 g a2 x2, w_X6 g a3 x3, w_X6 g b y]) (cs := [w_X6 g a1 x1, w_X6 g b y]) (rs := [w_hd g h0 h1 1 (a0 0) (a1 0) (a2 0) (a3 0), w_X6 g a0 x0, w_X6 g a2 x2, w_X6 g a3 x3]) [2, 5, 0, 1, 3, 4] 6 rfl (by decide) rfl (wc := w_X6 g a1 x1 ++ w_X6 g b y) (by simp only [List.flatten_cons, List.flatten_nil, List.append_nil]))
        obtain ⟨hPc, hDc⟩ := va_cut hP hD hq
        refine kw_veB (va_runV (As := [.ref (b 0)]) (rest := []) ⟨hx, hb, hml, hown, htG⟩ (kX6_copy l g a1 b _ x1 y y rfl) (cwV 1 htG (GV g2_82 g2_14 g2_15 g1_2 g2_16) rfl rfl rfl hd_X6_copy ⟨Nat.le_of_ble_eq_true rfl, Nat.le_of_ble_eq_true rfl⟩) (PW_VA hK hL hS hPc hDc hA (ci := 5) rfl 0 rfl) rfl rfl hl.1 rfl (lv_room (Nat.le_of_ble_eq_true rfl)) dX2_store_31 ⟨Nat.zero_le _, Nat.zero_le _⟩) hP hD hS hA hq (blkQ (bs := [w_hd g h0 h1 1 (a0 0) (a1 0) (a2 0) (a3 0), w_X6 g a0 x0, w_X6 g a1 y, w_X6 g a2 x2, w_X6 g a3 x3, w_X6 g b y]) (cs := [w_X6 g a1 y, w_X6 g b y]) (rs := [w_hd g h0 h1 1 (a0 0) (a1 0) (a2 0) (a3 0), w_X6 g a0 x0, w_X6 g a2 x2, w_X6 g a3 x3]) [2, 5, 0, 1, 3, 4] 6 rfl (by decide) rfl (wc := w_X6 g a1 y ++ w_X6 g b y) (by simp only [List.flatten_cons, List.flatten_nil, List.append_nil])) (List.Perm.refl _) (fun H locs hP hD hS => ?_)
        refine lv_aload_n hx hb dX2_store_34 rfl (lv_at hl 1 rfl) ?_
        refine lv_dup hx hb dX2_store_35 rfl ?_
        refine va_get (D := g.1) (ci := 2) (v := .int 1) (C := RX2) (T := TX2) (N := 2) hx hb htG in_wsX20 hown hK.1 hP 0 rfl rfl 1 (by decide) (htG _ g1_170) (fun _ h9 => h9) rfl dX2_store_36 ?_
        refine lv_iconst (v := 1) hx hb dX2_store_39 (by decide) ?_
        refine lv_iadd hx hb dX2_store_40 ?_
        refine tope (y := 2) (by decide) ?_
        refine va_put (D := g.1) (ci := 2) (v := .int 2) (ty := .int) (C := RX2) (T := TX2) (N := 2) hx hb htG in_wsX20 tyX2 tyX2_ok nmX2 hown hK.1 hP hD hS 0 rfl rfl 1 (by decide) (htG _ g1_170) (fun _ h9 => h9) rfl (by decide +kernel) rfl rfl (Nat.le_of_ble_eq_true rfl) dX2_store_41 (fun H locs hP hD hS => ?_)
        have hP : va_P g.1 vwCl ([w_hd g h0 h1 2 (a0 0) (a1 0) (a2 0) (a3 0), w_X6 g a0 x0, w_X6 g a1 y, w_X6 g a2 x2, w_X6 g a3 x3, w_X6 g b y].flatten) H := hP
        have hD : va_D A ([w_hd g h0 h1 2 (a0 0) (a1 0) (a2 0) (a3 0), w_X6 g a0 x0, w_X6 g a1 y, w_X6 g a2 x2, w_X6 g a3 x3, w_X6 g b y].flatten) := hD
        obtain rfl := Option.some.inj hm
        exact W.vret hx hb hr (fun t ht hW => ⟨⟨_, rfl, rfl, atH ht hP, hD⟩, hS.F ht⟩) hS.2.2 dX2_store_44
      · replace hm := (if_neg cz1).symm.trans hm
        by_cases cz2 : z = 2
        · replace hm := (if_pos cz2).symm.trans hm
          subst cz2
          refine lv_aload_n hx hb dX2_store_0 rfl (lv_at hl 0 rfl) ?_
          refine va_get (D := g.1) (ci := 2) (v := .int 2) (C := RX2) (T := TX2) (N := 2) hx hb htG in_wsX20 hown hK.1 hP 0 rfl rfl 1 (by decide) (htG _ g1_170) (fun _ h9 => h9) rfl dX2_store_1 ?_
          refine lv_aload_n hx hb dX2_store_4 rfl (lv_at hl 0 rfl) ?_
          refine va_get (D := g.1) (ci := 2) (v := .ref h1) (C := RX2) (T := TX2) (N := 2) hx hb htG in_wsX20 hown hK.1 hP 0 rfl rfl 0 (by decide) (htG _ g1_169) (fun _ h9 => h9) rfl dX2_store_5 ?_
          refine va_alen hx hb hK.1 hP 1 2 rfl rfl (v := 4) rfl dX2_store_8 ?_
          refine lv_icmp_lt (tgt := 16) hx hb dX2_store_9 (by decide) (fun _ => ?_) (fun h => absurd (by decide) h)
          refine lv_aload_n hx hb dX2_store_16 rfl (lv_at hl 0 rfl) ?_
          refine lv_aload_n hx hb dX2_store_17 rfl (lv_at hl 0 rfl) ?_
          refine va_get (D := g.1) (ci := 2) (v := .int 2) (C := RX2) (T := TX2) (N := 2) hx hb htG in_wsX20 hown hK.1 hP 0 rfl rfl 1 (by decide) (htG _ g1_170) (fun _ h9 => h9) rfl dX2_store_18 ?_
          refine ko_qs (va_runV (As := [.int 2]) (rest := []) ⟨hx, hb, hml, hown, htG⟩ (kX2_stateAt l g h0 h1 2 (a0 0) (a1 0) (a2 0) (a3 0) 2) (cwV 1 htG (GV g2_78 g2_80 gS_2 g1_8 g2_81) rfl rfl rfl hd_X2_stateAt ⟨Nat.le_of_ble_eq_true rfl, Nat.le_of_ble_eq_true rfl⟩) (PR_V hK hL hS hP [0, 1] rfl (ci := 2) rfl 0 rfl) rfl rfl hl.1 rfl (lv_room (Nat.le_of_ble_eq_true rfl)) dX2_store_21 ⟨Nat.zero_le _, Nat.zero_le _⟩) (v := a2 0) rfl ?_
          refine lv_astore_n (lv' := [(2, .ref (a2 0)), (0, .ref h0), (1, .ref (b 0))]) hx hb dX2_store_24 rfl hl (by decide) rfl (fun ls hl => ?_)
          refine lv_aload_n hx hb dX2_store_25 rfl (lv_at hl 0 rfl) ?_
          refine lv_ifnull hx hb dX2_store_26 ?_
          refine lv_aload_n hx hb dX2_store_29 rfl (lv_at hl 0 rfl) ?_
          refine lv_aload_n hx hb dX2_store_30 rfl (lv_at hl 2 rfl) ?_
          have hq := (blkQ (bs := [w_hd g h0 h1 2 (a0 0) (a1 0) (a2 0) (a3 0), w_X6 g a0 x0, w_X6 g a1 x1, w_X6 g a2 x2, w_X6 g a3 x3, w_X6 g b y]) (cs := [w_X6 g a2 x2, w_X6 g b y]) (rs := [w_hd g h0 h1 2 (a0 0) (a1 0) (a2 0) (a3 0), w_X6 g a0 x0, w_X6 g a1 x1, w_X6 g a3 x3]) [3, 5, 0, 1, 2, 4] 6 rfl (by decide) rfl (wc := w_X6 g a2 x2 ++ w_X6 g b y) (by simp only [List.flatten_cons, List.flatten_nil, List.append_nil]))
          obtain ⟨hPc, hDc⟩ := va_cut hP hD hq
          refine kw_veB (va_runV (As := [.ref (b 0)]) (rest := []) ⟨hx, hb, hml, hown, htG⟩ (kX6_copy l g a2 b _ x2 y y rfl) (cwV 1 htG (GV g2_82 g2_14 g2_15 g1_2 g2_16) rfl rfl rfl hd_X6_copy ⟨Nat.le_of_ble_eq_true rfl, Nat.le_of_ble_eq_true rfl⟩) (PW_VA hK hL hS hPc hDc hA (ci := 5) rfl 0 rfl) rfl rfl hl.1 rfl (lv_room (Nat.le_of_ble_eq_true rfl)) dX2_store_31 ⟨Nat.zero_le _, Nat.zero_le _⟩) hP hD hS hA hq (blkQ (bs := [w_hd g h0 h1 2 (a0 0) (a1 0) (a2 0) (a3 0), w_X6 g a0 x0, w_X6 g a1 x1, w_X6 g a2 y, w_X6 g a3 x3, w_X6 g b y]) (cs := [w_X6 g a2 y, w_X6 g b y]) (rs := [w_hd g h0 h1 2 (a0 0) (a1 0) (a2 0) (a3 0), w_X6 g a0 x0, w_X6 g a1 x1, w_X6 g a3 x3]) [3, 5, 0, 1, 2, 4] 6 rfl (by decide) rfl (wc := w_X6 g a2 y ++ w_X6 g b y) (by simp only [List.flatten_cons, List.flatten_nil, List.append_nil])) (List.Perm.refl _) (fun H locs hP hD hS => ?_)
          refine lv_aload_n hx hb dX2_store_34 rfl (lv_at hl 1 rfl) ?_
          refine lv_dup hx hb dX2_store_35 rfl ?_
          refine va_get (D := g.1) (ci := 2) (v := .int 2) (C := RX2) (T := TX2) (N := 2) hx hb htG in_wsX20 hown hK.1 hP 0 rfl rfl 1 (by decide) (htG _ g1_170) (fun _ h9 => h9) rfl dX2_store_36 ?_
          refine lv_iconst (v := 1) hx hb dX2_store_39 (by decide) ?_
          refine lv_iadd hx hb dX2_store_40 ?_
          refine tope (y := 3) (by decide) ?_
          refine va_put (D := g.1) (ci := 2) (v := .int 3) (ty := .int) (C := RX2) (T := TX2) (N := 2) hx hb htG in_wsX20 tyX2 tyX2_ok nmX2 hown hK.1 hP hD hS 0 rfl rfl 1 (by decide) (htG _ g1_170) (fun _ h9 => h9) rfl (by decide +kernel) rfl rfl (Nat.le_of_ble_eq_true rfl) dX2_store_41 (fun H locs hP hD hS => ?_)
          have hP : va_P g.1 vwCl ([w_hd g h0 h1 3 (a0 0) (a1 0) (a2 0) (a3 0), w_X6 g a0 x0, w_X6 g a1 x1, w_X6 g a2 y, w_X6 g a3 x3, w_X6 g b y].flatten) H := hP
          have hD : va_D A ([w_hd g h0 h1 3 (a0 0) (a1 0) (a2 0) (a3 0), w_X6 g a0 x0, w_X6 g a1 x1, w_X6 g a2 y, w_X6 g a3 x3, w_X6 g b y].flatten) := hD
          obtain rfl := Option.some.inj hm
          exact W.vret hx hb hr (fun t ht hW => ⟨⟨_, rfl, rfl, atH ht hP, hD⟩, hS.F ht⟩) hS.2.2 dX2_store_44
        · replace hm := (if_neg cz2).symm.trans hm
          by_cases cz3 : z = 3
          · replace hm := (if_pos cz3).symm.trans hm
            subst cz3
            refine lv_aload_n hx hb dX2_store_0 rfl (lv_at hl 0 rfl) ?_
            refine va_get (D := g.1) (ci := 2) (v := .int 3) (C := RX2) (T := TX2) (N := 2) hx hb htG in_wsX20 hown hK.1 hP 0 rfl rfl 1 (by decide) (htG _ g1_170) (fun _ h9 => h9) rfl dX2_store_1 ?_
            refine lv_aload_n hx hb dX2_store_4 rfl (lv_at hl 0 rfl) ?_
            refine va_get (D := g.1) (ci := 2) (v := .ref h1) (C := RX2) (T := TX2) (N := 2) hx hb htG in_wsX20 hown hK.1 hP 0 rfl rfl 0 (by decide) (htG _ g1_169) (fun _ h9 => h9) rfl dX2_store_5 ?_
            refine va_alen hx hb hK.1 hP 1 2 rfl rfl (v := 4) rfl dX2_store_8 ?_
            refine lv_icmp_lt (tgt := 16) hx hb dX2_store_9 (by decide) (fun _ => ?_) (fun h => absurd (by decide) h)
            refine lv_aload_n hx hb dX2_store_16 rfl (lv_at hl 0 rfl) ?_
            refine lv_aload_n hx hb dX2_store_17 rfl (lv_at hl 0 rfl) ?_
            refine va_get (D := g.1) (ci := 2) (v := .int 3) (C := RX2) (T := TX2) (N := 2) hx hb htG in_wsX20 hown hK.1 hP 0 rfl rfl 1 (by decide) (htG _ g1_170) (fun _ h9 => h9) rfl dX2_store_18 ?_
            refine ko_qs (va_runV (As := [.int 3]) (rest := []) ⟨hx, hb, hml, hown, htG⟩ (kX2_stateAt l g h0 h1 3 (a0 0) (a1 0) (a2 0) (a3 0) 3) (cwV 1 htG (GV g2_78 g2_80 gS_2 g1_8 g2_81) rfl rfl rfl hd_X2_stateAt ⟨Nat.le_of_ble_eq_true rfl, Nat.le_of_ble_eq_true rfl⟩) (PR_V hK hL hS hP [0, 1] rfl (ci := 2) rfl 0 rfl) rfl rfl hl.1 rfl (lv_room (Nat.le_of_ble_eq_true rfl)) dX2_store_21 ⟨Nat.zero_le _, Nat.zero_le _⟩) (v := a3 0) rfl ?_
            refine lv_astore_n (lv' := [(2, .ref (a3 0)), (0, .ref h0), (1, .ref (b 0))]) hx hb dX2_store_24 rfl hl (by decide) rfl (fun ls hl => ?_)
            refine lv_aload_n hx hb dX2_store_25 rfl (lv_at hl 0 rfl) ?_
            refine lv_ifnull hx hb dX2_store_26 ?_
            refine lv_aload_n hx hb dX2_store_29 rfl (lv_at hl 0 rfl) ?_
            refine lv_aload_n hx hb dX2_store_30 rfl (lv_at hl 2 rfl) ?_
            have hq := (blkQ (bs := [w_hd g h0 h1 3 (a0 0) (a1 0) (a2 0) (a3 0), w_X6 g a0 x0, w_X6 g a1 x1, w_X6 g a2 x2, w_X6 g a3 x3, w_X6 g b y]) (cs := [w_X6 g a3 x3, w_X6 g b y]) (rs := [w_hd g h0 h1 3 (a0 0) (a1 0) (a2 0) (a3 0), w_X6 g a0 x0, w_X6 g a1 x1, w_X6 g a2 x2]) [4, 5, 0, 1, 2, 3] 6 rfl (by decide) rfl (wc := w_X6 g a3 x3 ++ w_X6 g b y) (by simp only [List.flatten_cons, List.flatten_nil, List.append_nil]))
            obtain ⟨hPc, hDc⟩ := va_cut hP hD hq
            refine kw_veB (va_runV (As := [.ref (b 0)]) (rest := []) ⟨hx, hb, hml, hown, htG⟩ (kX6_copy l g a3 b _ x3 y y rfl) (cwV 1 htG (GV g2_82 g2_14 g2_15 g1_2 g2_16) rfl rfl rfl hd_X6_copy ⟨Nat.le_of_ble_eq_true rfl, Nat.le_of_ble_eq_true rfl⟩) (PW_VA hK hL hS hPc hDc hA (ci := 5) rfl 0 rfl) rfl rfl hl.1 rfl (lv_room (Nat.le_of_ble_eq_true rfl)) dX2_store_31 ⟨Nat.zero_le _, Nat.zero_le _⟩) hP hD hS hA hq (blkQ (bs := [w_hd g h0 h1 3 (a0 0) (a1 0) (a2 0) (a3 0), w_X6 g a0 x0, w_X6 g a1 x1, w_X6 g a2 x2, w_X6 g a3 y, w_X6 g b y]) (cs := [w_X6 g a3 y, w_X6 g b y]) (rs := [w_hd g h0 h1 3 (a0 0) (a1 0) (a2 0) (a3 0), w_X6 g a0 x0, w_X6 g a1 x1, w_X6 g a2 x2]) [4, 5, 0, 1, 2, 3] 6 rfl (by decide) rfl (wc := w_X6 g a3 y ++ w_X6 g b y) (by simp only [List.flatten_cons, List.flatten_nil, List.append_nil])) (List.Perm.refl _) (fun H locs hP hD hS => ?_)
            refine lv_aload_n hx hb dX2_store_34 rfl (lv_at hl 1 rfl) ?_
            refine lv_dup hx hb dX2_store_35 rfl ?_
            refine va_get (D := g.1) (ci := 2) (v := .int 3) (C := RX2) (T := TX2) (N := 2) hx hb htG in_wsX20 hown hK.1 hP 0 rfl rfl 1 (by decide) (htG _ g1_170) (fun _ h9 => h9) rfl dX2_store_36 ?_
            refine lv_iconst (v := 1) hx hb dX2_store_39 (by decide) ?_
            refine lv_iadd hx hb dX2_store_40 ?_
            refine tope (y := 4) (by decide) ?_
            refine va_put (D := g.1) (ci := 2) (v := .int 4) (ty := .int) (C := RX2) (T := TX2) (N := 2) hx hb htG in_wsX20 tyX2 tyX2_ok nmX2 hown hK.1 hP hD hS 0 rfl rfl 1 (by decide) (htG _ g1_170) (fun _ h9 => h9) rfl (by decide +kernel) rfl rfl (Nat.le_of_ble_eq_true rfl) dX2_store_41 (fun H locs hP hD hS => ?_)
            have hP : va_P g.1 vwCl ([w_hd g h0 h1 4 (a0 0) (a1 0) (a2 0) (a3 0), w_X6 g a0 x0, w_X6 g a1 x1, w_X6 g a2 x2, w_X6 g a3 y, w_X6 g b y].flatten) H := hP
            have hD : va_D A ([w_hd g h0 h1 4 (a0 0) (a1 0) (a2 0) (a3 0), w_X6 g a0 x0, w_X6 g a1 x1, w_X6 g a2 x2, w_X6 g a3 y, w_X6 g b y].flatten) := hD
            obtain rfl := Option.some.inj hm
            exact W.vret hx hb hr (fun t ht hW => ⟨⟨_, rfl, rfl, atH ht hP, hD⟩, hS.F ht⟩) hS.2.2 dX2_store_44
          · replace hm := (if_neg cz3).symm.trans hm
            cases hm
