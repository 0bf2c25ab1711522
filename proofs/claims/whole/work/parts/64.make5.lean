def fX9_init_L0  : Nat → Int32 → MD → Option (MD)
  | 0, _, _ => none
  | n + 1, i0_1, x0 => (if 6 ≤ i0_1 then (some x0) else (if ib (2 + i0_1) 5845 = true then (bnd (upd x0.1 (2 + i0_1).toNatClampNeg 100) (fun zf103 => (fX9_init_L0  n (i0_1 + 1) (zf103, x0.2.1, x0.2.2.1, x0.2.2.2.1, x0.2.2.2.2.1, x0.2.2.2.2.2.1, x0.2.2.2.2.2.2.1, x0.2.2.2.2.2.2.2.1, x0.2.2.2.2.2.2.2.2.1, x0.2.2.2.2.2.2.2.2.2.1, x0.2.2.2.2.2.2.2.2.2.2)))) else none))
def fX9_init : Option MD := ((fX9_init_L0 1000 0 (z0, 0, 0, z0, 0, 0, 0, z0, 0, (-1), 0)).bind (fun zq104 => (bnd (upd zq104.1 (32 : Int32).toNatClampNeg 600) (fun zf105 => ((fX9_empties (zf105, zq104.2.1, zq104.2.2.1, zq104.2.2.2.1, zq104.2.2.2.2.1, zq104.2.2.2.2.2.1, zq104.2.2.2.2.2.2.1, zq104.2.2.2.2.2.2.2.1, zq104.2.2.2.2.2.2.2.2.1, zq104.2.2.2.2.2.2.2.2.2.1, zq104.2.2.2.2.2.2.2.2.2.2) 0).bind (fun zq106 => some zq106))))))
abbrev rm_X9_init : Jvm.Room := { frames := 2, cells := 3, slots := 6171, locals := 46 }
theorem hi_X9 : yX9_init.cls ≠ "java/lang/invoke/MethodHandle" ∧ yX9_init.cls ≠ "java/lang/invoke/VarHandle" ∧ (parseMethodDescriptor yX9_init.desc).map (fun d => d.parameters.length) = some 0 := by decide +kernel
set_option maxHeartbeats 4000000 in
set_option maxRecDepth 100000 in
theorem kX9_init (l : Launch) (g : CX) (h0 sz : Nat) (res : MD) (hm0 : fX9_init = some res) : Met l yX9_init (wg yX9_init cX9_init 2 none) rm_X9_init (PW g [.ref h0] sz ([(h0, .inr (8, [.null, .int 0, .int 0, .null, .int 0, .int 0, .int 0, .null, .int 0, .int 0, .int 0]))])) (va_Qv (fun _ : Nat → Nat => True) (fun u t => va_P g.1 vwCl (w_X9 g h0 (u 1) (u 2) (u 3) res) t.heap ∧ va_D (va_A ([(h0, .inr (8, [.null, .int 0, .int 0, .null, .int 0, .int 0, .int 0, .null, .int 0, .int 0, .int 0]))]) sz) (w_X9 g h0 (u 1) (u 2) (u 3) res)) (va_A ([(h0, .inr (8, [.null, .int 0, .int 0, .null, .int 0, .int 0, .int 0, .null, .int 0, .int 0, .int 0]))]) sz)) 3 6171 (va_A ([(h0, .inr (8, [.null, .int 0, .int 0, .null, .int 0, .int 0, .int 0, .null, .int 0, .int 0, .int 0]))]) sz) := by
  refine Met.ofW (cc := cX9_init) (maxL := 2) (ret := none) (by decide) rfl ?_
  intro p e s m args below meth c s₁ B hml hv
  obtain ⟨rfl, hsz, hP, hK, hD0, hL⟩ := hv
  have hx := B.exec
  have hb := B.bytes
  have hr := B.returns
  have htG := wg_G (atoms_spec (ws := wg yX9_init cX9_init 2 none) B.pre)
  have hown : s.vm.findClass RX9 = some m.cls := findClass_of_methodNamed B.named
  have hlocks := B.notSynchronized
  have hin : meth.name = "<init>" := (name_of_methodNamed B.named B.method).1
  subst hsz
  have hD := hD0.self (sz := s.heap.size)
  generalize hAe : va_A ([(h0, .inr (8, [.null, .int 0, .int 0, .null, .int 0, .int 0, .int 0, .null, .int 0, .int 0, .int 0]))]) s.heap.size = A at hD hL ⊢
  have hA : ∀ q : Nat, s.heap.size ≤ q → A q := fun q h => by rw [← hAe]; exact Or.inr h
  have hS : va_S A s.heap s.heap [] := va_S.rf
  have hl := lv_entry ([.ref h0]) (n := 2) (Nat.le_of_ble_eq_true rfl)
  rw [lg_entry_eq]
  generalize (lg_sl ([.ref h0]) ++ List.replicate (2 - (lg_sl ([.ref h0])).length) Slot.unset).toArray = ls at hl ⊢
  have hl : lv_has ls 2 [(0, .ref h0)] := hl
  refine lv_aload_n hx hb dX9_init_0 rfl (lv_at hl 0 rfl) ?_
  refine W.objInit hx hb hown (htG _ g3_186) (htG _ g1_19) (htG _ g1_20) rfl (by rw [hml]; exact hl.1) rfl dX9_init_1 (Nat.le_of_ble_eq_true rfl) (Nat.le_of_ble_eq_true rfl) ?_
  refine W.eq (g2 := F0 m 4 ls []) rfl ?_
  refine lv_aload_n hx hb dX9_init_4 rfl (lv_at hl 0 rfl) ?_
  refine lv_sipush (v := 5845) hx hb dX9_init_5 (by decide +kernel) ?_
  refine newa_e (atype := .int) (cI := g.2.1) (N' := 5845) (a0 := (5845, .inl z0)) hx hb (htG _ g1_40) rfl (Or.inl rfl) hK.1 0 rfl hP hD hS hA (fun _ => rfl) (by decide) (by decide +kernel) (by decide +kernel) (Nat.le_of_ble_eq_true rfl) (Nat.le_of_ble_eq_true rfl) dX9_init_8 (fun zq1 H hP hD hS => ?_)
  have hP : va_P g.1 vwCl ([[(h0, .inr (8, [.null, .int 0, .int 0, .null, .int 0, .int 0, .int 0, .null, .int 0, .int 0, .int 0]))], [(zq1, .inl (g.2.1, 5845, .inl z0))]].flatten) H := hP
  have hD : va_D A ([[(h0, .inr (8, [.null, .int 0, .int 0, .null, .int 0, .int 0, .int 0, .null, .int 0, .int 0, .int 0]))], [(zq1, .inl (g.2.1, 5845, .inl z0))]].flatten) := hD
  refine va_putF (D := g.1) (ci := 8) (v := .ref zq1) (ty := .array .int) (C := RX9) (T := TX9) (N := 11) hx hb htG in_wsX90 tyX9 tyX9_ok nmX9 hown hK.1 hP hD hS 0 rfl rfl 0 (by decide) (htG _ g3_195) (fun _ h9 => h9) rfl hin rfl (by decide +kernel) rfl rfl (Nat.le_of_ble_eq_true rfl) dX9_init_10 (fun H locs hP hD hS => ?_)
  have hP : va_P g.1 vwCl ([[(h0, .inr (8, [.ref zq1, .int 0, .int 0, .null, .int 0, .int 0, .int 0, .null, .int 0, .int 0, .int 0]))], [(zq1, .inl (g.2.1, 5845, .inl z0))]].flatten) H := hP
  have hD : va_D A ([[(h0, .inr (8, [.ref zq1, .int 0, .int 0, .null, .int 0, .int 0, .int 0, .null, .int 0, .int 0, .int 0]))], [(zq1, .inl (g.2.1, 5845, .inl z0))]].flatten) := hD
  refine lv_aload_n hx hb dX9_init_13 rfl (lv_at hl 0 rfl) ?_
  refine lv_bipush (v := 80) hx hb dX9_init_14 (by decide +kernel) ?_
  refine newa_e (atype := .char) (cI := g.2.2.1) (N' := 80) (a0 := (80, .inl z0)) hx hb (htG _ g1_224) rfl (Or.inr rfl) hK.1 1 rfl hP hD hS hA (fun _ => rfl) (by decide) (by decide +kernel) (by decide +kernel) (Nat.le_of_ble_eq_true rfl) (Nat.le_of_ble_eq_true rfl) dX9_init_16 (fun zq2 H hP hD hS => ?_)
  have hP : va_P g.1 vwCl ([[(h0, .inr (8, [.ref zq1, .int 0, .int 0, .null, .int 0, .int 0, .int 0, .null, .int 0, .int 0, .int 0]))], [(zq1, .inl (g.2.1, 5845, .inl z0))], [(zq2, .inl (g.2.2.1, 80, .inl z0))]].flatten) H := hP
  have hD : va_D A ([[(h0, .inr (8, [.ref zq1, .int 0, .int 0, .null, .int 0, .int 0, .int 0, .null, .int 0, .int 0, .int 0]))], [(zq1, .inl (g.2.1, 5845, .inl z0))], [(zq2, .inl (g.2.2.1, 80, .inl z0))]].flatten) := hD
  refine va_putF (D := g.1) (ci := 8) (v := .ref zq2) (ty := .array .char) (C := RX9) (T := TX9) (N := 11) hx hb htG in_wsX90 tyX9 tyX9_ok nmX9 hown hK.1 hP hD hS 0 rfl rfl 3 (by decide) (htG _ g3_198) (fun _ h9 => h9) rfl hin rfl (by decide +kernel) rfl rfl (Nat.le_of_ble_eq_true rfl) dX9_init_18 (fun H locs hP hD hS => ?_)
  have hP : va_P g.1 vwCl ([[(h0, .inr (8, [.ref zq1, .int 0, .int 0, .ref zq2, .int 0, .int 0, .int 0, .null, .int 0, .int 0, .int 0]))], [(zq1, .inl (g.2.1, 5845, .inl z0))], [(zq2, .inl (g.2.2.1, 80, .inl z0))]].flatten) H := hP
  have hD : va_D A ([[(h0, .inr (8, [.ref zq1, .int 0, .int 0, .ref zq2, .int 0, .int 0, .int 0, .null, .int 0, .int 0, .int 0]))], [(zq1, .inl (g.2.1, 5845, .inl z0))], [(zq2, .inl (g.2.2.1, 80, .inl z0))]].flatten) := hD
  refine lv_aload_n hx hb dX9_init_21 rfl (lv_at hl 0 rfl) ?_
  refine lv_sipush (v := 246) hx hb dX9_init_22 (by decide +kernel) ?_
  refine newa_e (atype := .int) (cI := g.2.1) (N' := 246) (a0 := (246, .inl z0)) hx hb (htG _ g1_40) rfl (Or.inl rfl) hK.1 0 rfl hP hD hS hA (fun _ => rfl) (by decide) (by decide +kernel) (by decide +kernel) (Nat.le_of_ble_eq_true rfl) (Nat.le_of_ble_eq_true rfl) dX9_init_25 (fun zq3 H hP hD hS => ?_)
  have hP : va_P g.1 vwCl ([[(h0, .inr (8, [.ref zq1, .int 0, .int 0, .ref zq2, .int 0, .int 0, .int 0, .null, .int 0, .int 0, .int 0]))], [(zq1, .inl (g.2.1, 5845, .inl z0))], [(zq2, .inl (g.2.2.1, 80, .inl z0))], [(zq3, .inl (g.2.1, 246, .inl z0))]].flatten) H := hP
  have hD : va_D A ([[(h0, .inr (8, [.ref zq1, .int 0, .int 0, .ref zq2, .int 0, .int 0, .int 0, .null, .int 0, .int 0, .int 0]))], [(zq1, .inl (g.2.1, 5845, .inl z0))], [(zq2, .inl (g.2.2.1, 80, .inl z0))], [(zq3, .inl (g.2.1, 246, .inl z0))]].flatten) := hD
  refine va_putF (D := g.1) (ci := 8) (v := .ref zq3) (ty := .array .int) (C := RX9) (T := TX9) (N := 11) hx hb htG in_wsX90 tyX9 tyX9_ok nmX9 hown hK.1 hP hD hS 0 rfl rfl 7 (by decide) (htG _ g3_202) (fun _ h9 => h9) rfl hin rfl (by decide +kernel) rfl rfl (Nat.le_of_ble_eq_true rfl) dX9_init_27 (fun H locs hP hD hS => ?_)
  have hP : va_P g.1 vwCl ([[(h0, .inr (8, [.ref zq1, .int 0, .int 0, .ref zq2, .int 0, .int 0, .int 0, .ref zq3, .int 0, .int 0, .int 0]))], [(zq1, .inl (g.2.1, 5845, .inl z0))], [(zq2, .inl (g.2.2.1, 80, .inl z0))], [(zq3, .inl (g.2.1, 246, .inl z0))]].flatten) H := hP
  have hD : va_D A ([[(h0, .inr (8, [.ref zq1, .int 0, .int 0, .ref zq2, .int 0, .int 0, .int 0, .ref zq3, .int 0, .int 0, .int 0]))], [(zq1, .inl (g.2.1, 5845, .inl z0))], [(zq2, .inl (g.2.2.1, 80, .inl z0))], [(zq3, .inl (g.2.1, 246, .inl z0))]].flatten) := hD
  refine lv_aload_n hx hb dX9_init_30 rfl (lv_at hl 0 rfl) ?_
  refine lv_iconst (v := (-1)) hx hb dX9_init_31 (by decide) ?_
  refine va_put (D := g.1) (ci := 8) (v := .int (-1)) (ty := .int) (C := RX9) (T := TX9) (N := 11) hx hb htG in_wsX90 tyX9 tyX9_ok nmX9 hown hK.1 hP hD hS 0 rfl rfl 9 (by decide) (htG _ g3_204) (fun _ h9 => h9) rfl (by decide +kernel) rfl rfl (Nat.le_of_ble_eq_true rfl) dX9_init_32 (fun H locs hP hD hS => ?_)
  have hP : va_P g.1 vwCl ([[(h0, .inr (8, [.ref zq1, .int 0, .int 0, .ref zq2, .int 0, .int 0, .int 0, .ref zq3, .int 0, .int (-1), .int 0]))], [(zq1, .inl (g.2.1, 5845, .inl z0))], [(zq2, .inl (g.2.2.1, 80, .inl z0))], [(zq3, .inl (g.2.1, 246, .inl z0))]].flatten) H := hP
  have hD : va_D A ([[(h0, .inr (8, [.ref zq1, .int 0, .int 0, .ref zq2, .int 0, .int 0, .int 0, .ref zq3, .int 0, .int (-1), .int 0]))], [(zq1, .inl (g.2.1, 5845, .inl z0))], [(zq2, .inl (g.2.2.1, 80, .inl z0))], [(zq3, .inl (g.2.1, 246, .inl z0))]].flatten) := hD
  have hP : va_P g.1 vwCl (w_X9 g h0 zq1 zq2 zq3 (z0, 0, 0, z0, 0, 0, 0, z0, 0, (-1), 0)) H := hP
  have hD : va_D A (w_X9 g h0 zq1 zq2 zq3 (z0, 0, 0, z0, 0, 0, 0, z0, 0, (-1), 0)) := hD
  have hm := hm0
  unfold fX9_init at hm
  have hL0 : ∀ (Q : State → Prop), ∀ (n : Nat) (i0_1 : Int32) (x0 : MD) (out : MD) (H : Heap) (locs : List Loc) (ls : Array Slot), fX9_init_L0 n i0_1 x0 = some out → va_P g.1 vwCl (w_X9 g h0 zq1 zq2 zq3 x0) H → va_D A (w_X9 g h0 zq1 zq2 zq3 x0) → va_S A s.heap H locs → lv_has ls 2 [(0, .ref h0), (1, .int i0_1)] → (∀ (H : Heap) (locs : List Loc) (ls : Array Slot), va_P g.1 vwCl (w_X9 g h0 zq1 zq2 zq3 out) H → va_D A (w_X9 g h0 zq1 zq2 zq3 out) → va_S A s.heap H locs → lv_has ls 2 [(0, .ref h0)] → W p l e (headSpec (wg yX9_init cX9_init 2 none) rm_X9_init).room s m (([.ref h0] : List Value).toArray) below meth c H locs 3 6171 Q (F0 m 59 ls [])) → W p l e (headSpec (wg yX9_init cX9_init 2 none) rm_X9_init).room s m (([.ref h0] : List Value).toArray) below meth c H locs 3 6171 Q (F0 m 37 ls []) := by
    intro Q n
    induction n with
    | zero =>
      intro i0_1 x0 out H locs ls hm hP hD hS hl hk
      simp [fX9_init_L0] at hm
    | succ n ih =>
      intro i0_1 x0 out H locs ls hm hP hD hS hl hk
      rw [fX9_init_L0] at hm
      refine lv_iload_n hx hb dX9_init_37 rfl (lv_at hl 1 rfl) ?_
      refine lv_bipush (v := 6) hx hb dX9_init_38 (by decide +kernel) ?_
      refine lv_icmp_ge (tgt := 59) hx hb dX9_init_40 (by decide) (fun zc101 => ?_) (fun zc101 => ?_)
      · replace hm := (if_pos zc101).symm.trans hm
        obtain rfl := Option.some.inj hm
        exact hk H locs ls hP hD hS (lv_sub hl [0] rfl)
      · replace hm := (if_neg zc101).symm.trans hm
        refine lv_aload_n hx hb dX9_init_43 rfl (lv_at hl 0 rfl) ?_
        refine va_get (D := g.1) (ci := 8) (v := .ref zq1) (C := RX9) (T := TX9) (N := 11) hx hb htG in_wsX90 hown hK.1 hP 0 rfl rfl 0 (by decide) (htG _ g3_195) (fun _ h9 => h9) rfl dX9_init_44 ?_
        refine lv_iconst (v := 2) hx hb dX9_init_47 (by decide) ?_
        refine lv_iload_n hx hb dX9_init_48 rfl (lv_at hl 1 rfl) ?_
        refine lv_iadd hx hb dX9_init_49 ?_
        refine lv_bipush (v := 100) hx hb dX9_init_50 (by decide +kernel) ?_
        obtain ⟨zb102, hm⟩ := ibk hm
        obtain ⟨zf103, ezf103, hm⟩ := bnk hm
        refine iast_e hx hb hK.1 hP hD hS 1 0 rfl rfl zb102 dX9_init_52 ezf103 (fun H locs hP hD hS => ?_)
        have hP : va_P g.1 vwCl (w_X9 g h0 zq1 zq2 zq3 (zf103, x0.2.1, x0.2.2.1, x0.2.2.2.1, x0.2.2.2.2.1, x0.2.2.2.2.2.1, x0.2.2.2.2.2.2.1, x0.2.2.2.2.2.2.2.1, x0.2.2.2.2.2.2.2.2.1, x0.2.2.2.2.2.2.2.2.2.1, x0.2.2.2.2.2.2.2.2.2.2)) H := hP
        have hD : va_D A (w_X9 g h0 zq1 zq2 zq3 (zf103, x0.2.1, x0.2.2.1, x0.2.2.2.1, x0.2.2.2.2.1, x0.2.2.2.2.2.1, x0.2.2.2.2.2.2.1, x0.2.2.2.2.2.2.2.1, x0.2.2.2.2.2.2.2.2.1, x0.2.2.2.2.2.2.2.2.2.1, x0.2.2.2.2.2.2.2.2.2.2)) := hD
        refine lv_iinc (v := i0_1 + 1) (lv' := [(1, .int (i0_1 + 1)), (0, .ref h0)]) hx hb dX9_init_53 hl (k := 1) rfl rfl (by decide) rfl (fun ls hl => ?_)
        refine lv_goto (tgt := 37) hx hb dX9_init_56 (by decide) ?_
        exact ih (i0_1 + 1) (zf103, x0.2.1, x0.2.2.1, x0.2.2.2.1, x0.2.2.2.2.1, x0.2.2.2.2.2.1, x0.2.2.2.2.2.2.1, x0.2.2.2.2.2.2.2.1, x0.2.2.2.2.2.2.2.2.1, x0.2.2.2.2.2.2.2.2.2.1, x0.2.2.2.2.2.2.2.2.2.2) out H locs ls hm hP hD hS (lv_sub hl [1, 0] rfl) hk
  refine lv_iconst (v := 0) hx hb dX9_init_35 (by decide) ?_
  refine lv_istore_n (lv' := [(1, .int 0), (0, .ref h0)]) hx hb dX9_init_36 rfl hl (by decide) rfl (fun ls hl => ?_)
  obtain ⟨zq104, hzq104, hm⟩ := bdk hm
  refine hL0 _ 1000 0 (z0, 0, 0, z0, 0, 0, 0, z0, 0, (-1), 0) zq104 _ _ _ hzq104 hP hD hS (lv_sub hl [1, 0] rfl) (fun H locs ls hP hD hS hl => ?_)
  refine lv_aload_n hx hb dX9_init_59 rfl (lv_at hl 0 rfl) ?_
  refine va_get (D := g.1) (ci := 8) (v := .ref zq1) (C := RX9) (T := TX9) (N := 11) hx hb htG in_wsX90 hown hK.1 hP 0 rfl rfl 0 (by decide) (htG _ g3_195) (fun _ h9 => h9) rfl dX9_init_60 ?_
  refine lv_bipush (v := 32) hx hb dX9_init_63 (by decide +kernel) ?_
  refine lv_sipush (v := 600) hx hb dX9_init_65 (by decide +kernel) ?_
  obtain ⟨zf105, ezf105, hm⟩ := bnk hm
  refine iast_e hx hb hK.1 hP hD hS 1 0 rfl rfl (ib_in (by decide +kernel)) dX9_init_68 ezf105 (fun H locs hP hD hS => ?_)
  have hP : va_P g.1 vwCl (w_X9 g h0 zq1 zq2 zq3 (zf105, zq104.2.1, zq104.2.2.1, zq104.2.2.2.1, zq104.2.2.2.2.1, zq104.2.2.2.2.2.1, zq104.2.2.2.2.2.2.1, zq104.2.2.2.2.2.2.2.1, zq104.2.2.2.2.2.2.2.2.1, zq104.2.2.2.2.2.2.2.2.2.1, zq104.2.2.2.2.2.2.2.2.2.2)) H := hP
  have hD : va_D A (w_X9 g h0 zq1 zq2 zq3 (zf105, zq104.2.1, zq104.2.2.1, zq104.2.2.2.1, zq104.2.2.2.2.1, zq104.2.2.2.2.2.1, zq104.2.2.2.2.2.2.1, zq104.2.2.2.2.2.2.2.1, zq104.2.2.2.2.2.2.2.2.1, zq104.2.2.2.2.2.2.2.2.2.1, zq104.2.2.2.2.2.2.2.2.2.2)) := hD
  refine lv_aload_n hx hb dX9_init_69 rfl (lv_at hl 0 rfl) ?_
  refine lv_iconst (v := 0) hx hb dX9_init_70 (by decide) ?_
  obtain ⟨zq106, hzq106, hm⟩ := bdk hm
  refine kw_veA (va_runV (As := [.int 0]) (rest := []) ⟨hx, hb, hml, hown, htG⟩ (kX9_empties l g h0 zq1 zq2 zq3 _ (zf105, zq104.2.1, zq104.2.2.1, zq104.2.2.2.1, zq104.2.2.2.2.1, zq104.2.2.2.2.2.1, zq104.2.2.2.2.2.2.1, zq104.2.2.2.2.2.2.2.1, zq104.2.2.2.2.2.2.2.2.1, zq104.2.2.2.2.2.2.2.2.2.1, zq104.2.2.2.2.2.2.2.2.2.2) 0 _ hzq106) (cwV 1 htG (GV g3_187 g3_189 gS_8 g1_10 g3_190) rfl rfl rfl hd_X9_empties ⟨Nat.le_of_ble_eq_true rfl, Nat.le_of_ble_eq_true rfl⟩) (PW_VA hK hL hS hP hD hA (ci := 8) rfl 0 rfl) rfl rfl hl.1 rfl (lv_room (Nat.le_of_ble_eq_true rfl)) dX9_init_71 ⟨Nat.le_of_ble_eq_true rfl, Nat.le_of_ble_eq_true rfl⟩) hD hS hA (fun _ => rfl) (fun H locs hP hD hS => ?_)
  have hP : va_P g.1 vwCl (w_X9 g h0 zq1 zq2 zq3 zq106) H := hP
  have hD : va_D A (w_X9 g h0 zq1 zq2 zq3 zq106) := hD
  obtain rfl := Option.some.inj hm
  exact W.vret hx hb hr (fun t ht hW => ⟨⟨(fun k => [h0, zq1, zq2, zq3].getD k 0), rfl, trivial, atH ht hP, hD⟩, hS.F ht⟩) hS.2.2 dX9_init_74
