/-! making: arrays of a known type; objects -/
section MAKE
variable {p : Program} {l : Launch} {e : Env} {R : Room} {s : State} {m : MethodId} {args : Array Value} {below : List Frame} {meth : Method} {c : Code} {H : Heap} {locs : List Loc} {cells slots : Nat} {Q : State → Prop}
variable {cc : ByteArray} {pc : Nat} {ls : Array Slot} {rest : List Value} {D : va_G} {cl : List vw_C} {A : Nat → Prop} {tys : List (ClassId × FieldType)} {ws : va_W} {H0 : Heap}
theorem newa_e (hexec : p.tables.exec = Jvm.exec) (hb : c.code = cc) {atype : ArrayType} {ty : FieldType} (harr : (Cond.arrayClass (newarray.typeOf atype)).before args s = true) (hty : newarray.typeOf atype = ty) (hk : ty = .int ∨ ty = .char) (hK : va_K D cl tys s) (t0 : Nat) {cI : ClassId} (ht : tys[t0]? = some (cI, ty)) (hP : va_P D cl ws H) (hD : va_D A ws) (hS : va_S A H0 H locs) (hA : ∀ q, H0.size ≤ q → A q)
    {n : Int32} {N' : Nat} {a0 : vp_A} (ha : ∀ cA : ClassId, vp_cell cA a0 = arrV cA N' (fun _ => defaultValue ty)) (hn : ¬ n < 0) (hN : n.toNatClampNeg = N') (hbytes : N' * componentBytes ty ≤ 536870912) (hcells : cells + 1 ≤ R.cells) (hslots : slots + N' ≤ R.slots) (hdg : decode cc pc = .ok (.newarray atype, 2))
    (kk : ∀ (q : Nat) (H1 : Heap), va_P D cl (ws ++ [(q, .inl (cI, a0))]) H1 → va_D A (ws ++ [(q, .inl (cI, a0))]) → va_S A H0 H1 locs →
      W p l e R s m args below meth c H1 locs (cells + 1) (slots + N') Q (F0 m (pc + 2) ls (.ref q :: rest))) : W p l e R s m args below meth c H locs cells slots Q (F0 m pc ls (.int n :: rest)) := by
  refine va_newa hexec hb harr hty hK hP hD hS hA ha hn hN hbytes hcells hslots hdg (fun q cA H1 hK1 hP1 hD1 hS1 => ?_)
  have e1 := (hK.2 t0 _ ht).2
  have e2 := (hK1.2 tys.length (cA, ty) (by simp)).2
  have e3 : cA = cI := by
    rcases hk with rfl | rfl <;> exact Option.some.inj (e2.symm.trans e1)
  subst e3
  exact kk q H1 hP1 hD1 hS1
theorem newq_e (hexec : p.tables.exec = Jvm.exec) (hb : c.code = cc) {own C : String} {index : Nat} (hown : s.vm.findClass own = some m.cls) (hclink : (Cond.classLink own index C).before args s = true) (hover : va_AO C s) (hK : va_K D cl tys s) (t0 : Nat) {cI : ClassId} (ht : tys[t0]? = some (cI, .object C)) (hP : va_P D cl ws H) (hD : va_D A ws) (hS : va_S A H0 H locs) (hA : ∀ q, H0.size ≤ q → A q)
    {n : Int32} {N' : Nat} (hn : ¬ n < 0) (hN : n.toNatClampNeg = N') (hbytes : N' * 4 ≤ 536870912) (hcells : cells + 1 ≤ R.cells) (hslots : slots + N' ≤ R.slots) (hdg : decode cc pc = .ok (.anewarray index, 3))
    (kk : ∀ (q : Nat) (H1 : Heap), va_P D cl (ws ++ [(q, .inl (cI, N', .inr (.inr (.inr (.inr (fun _ => none))))))]) H1 → va_D A (ws ++ [(q, .inl (cI, N', .inr (.inr (.inr (.inr (fun _ => none))))))]) → va_S A H0 H1 locs →
      W p l e R s m args below meth c H1 locs (cells + 1) (slots + N') Q (F0 m (pc + 3) ls (.ref q :: rest))) : W p l e R s m args below meth c H locs cells slots Q (F0 m pc ls (.int n :: rest)) := by
  refine va_newq hexec hb hown hclink hover hK hP hD hS hA hn hN hbytes hcells hslots hdg (fun q cA H1 hK1 hP1 hD1 hS1 => ?_)
  have e1 := (hK.2 t0 _ ht).2
  have e2 := (hK1.2 tys.length (cA, .object C) (by simp)).2
  have e3 : cA = cI := by
    obtain ⟨-, -, -, -, -, e1⟩ := e1
    obtain ⟨-, -, -, -, -, e2⟩ := e2
    exact Option.some.inj (e2.symm.trans e1)
  subst e3
  exact kk q H1 hP1 hD1 hS1
end MAKE
abbrev z0 : AF := fun _ => 0
abbrev BD0 : BD := (z0, z0)
abbrev LD0 : LD := (rfill z0 48 (-5), z0, z0, z0)
abbrev FD0 : FD := (rfill z0 6 100, z0, z0, z0)
abbrev TD0 : TD := (z0, 0, 0, 600, 0, 0, 0)
abbrev SD0 : SD := (0, 0, rfill z0 16 20, z0, BD0, LD0, FD0, TD0)
abbrev PD0 : PD := (z0, 0, 0, 0, -1, 0, 0, 0, 0, 0, 0)
abbrev HY0 (a b c d : Nat → Nat) : HDT := (0, (a, SD0), (b, SD0), (c, SD0), (d, SD0))
def cadr (q : Nat) (u : Nat → Nat) : Nat → Nat := fun k => if k = 0 then q else u k
theorem rf4_mk {a b c d : Nat} : va_up (va_up (va_up (va_up (fun _ => none) 0 (some a)) 1 (some b)) 2 (some c)) 3 (some d) = rf4 a b c d := by
  funext j
  simp only [va_up, rf4]
  by_cases h3 : j = 3
  · subst h3; rfl
  · by_cases h2 : j = 2
    · subst h2; rfl
    · by_cases h1 : j = 1
      · subst h1; rfl
      · simp [h1, h2, h3]
abbrev rm_X0_init : Jvm.Room := { frames := 1, cells := 2, slots := 576, locals := 12 }
theorem hi_X0 : yX0_init.cls ≠ "java/lang/invoke/MethodHandle" ∧ yX0_init.cls ≠ "java/lang/invoke/VarHandle" ∧ (parseMethodDescriptor yX0_init.desc).map (fun d => d.parameters.length) = some 0 := by decide +kernel
set_option maxHeartbeats 4000000 in
set_option maxRecDepth 100000 in
theorem kX0_init (l : Launch) (g : CX) (h0 sz : Nat) : Met l yX0_init (wg yX0_init cX0_init 1 none) rm_X0_init (PW g [.ref h0] sz ([(h0, .inr (0, [.null, .null]))])) (va_Qv (fun _ : Nat → Nat => True) (fun u t => va_P g.1 vwCl (w_X0 g h0 (u 1) (u 2) BD0) t.heap ∧ va_D (va_A ([(h0, .inr (0, [.null, .null]))]) sz) (w_X0 g h0 (u 1) (u 2) BD0)) (va_A ([(h0, .inr (0, [.null, .null]))]) sz)) 2 576 (va_A ([(h0, .inr (0, [.null, .null]))]) sz) := by
  refine Met.ofW (cc := cX0_init) (maxL := 1) (ret := none) (by decide) rfl ?_
  intro p e s m args below meth c s₁ B hml hv
  obtain ⟨rfl, hsz, hP, hK, hD0, hL⟩ := hv
  have hx := B.exec
  have hb := B.bytes
  have hr := B.returns
  have htG := wg_G (atoms_spec (ws := wg yX0_init cX0_init 1 none) B.pre)
  have hown : s.vm.findClass RX0 = some m.cls := findClass_of_methodNamed B.named
  have hlocks := B.notSynchronized
  have hin : meth.name = "<init>" := (name_of_methodNamed B.named B.method).1
  subst hsz
  have hD := hD0.self (sz := s.heap.size)
  generalize hAe : va_A ([(h0, .inr (0, [.null, .null]))]) s.heap.size = A at hD hL ⊢
  have hA : ∀ q : Nat, s.heap.size ≤ q → A q := fun q h => by rw [← hAe]; exact Or.inr h
  have hS : va_S A s.heap s.heap [] := va_S.rf
  have hl := lv_entry ([.ref h0]) (n := 1) (Nat.le_of_ble_eq_true rfl)
  rw [lg_entry_eq]
  generalize (lg_sl ([.ref h0]) ++ List.replicate (1 - (lg_sl ([.ref h0])).length) Slot.unset).toArray = ls at hl ⊢
  have hl : lv_has ls 1 [(0, .ref h0)] := hl
  refine lv_aload_n hx hb dX0_init_0 rfl (lv_at hl 0 rfl) ?_
  refine W.objInit hx hb hown (htG _ g1_31) (htG _ g1_18) (htG _ g1_19) rfl (by rw [hml]; exact hl.1) rfl dX0_init_1 (Nat.le_of_ble_eq_true rfl) (Nat.le_of_ble_eq_true rfl) ?_
  refine W.eq (g2 := F0 m 4 ls []) rfl ?_
  refine lv_aload_n hx hb dX0_init_4 rfl (lv_at hl 0 rfl) ?_
  refine lv_sipush (v := 288) hx hb dX0_init_5 (by decide +kernel) ?_
  refine newa_e (atype := .int) (cI := g.2.1) (N' := 288) (a0 := (288, .inl z0)) hx hb (htG _ g1_39) rfl (Or.inl rfl) hK.1 0 rfl hP hD hS hA (fun _ => rfl) (by decide) (by decide +kernel) (by decide +kernel) (Nat.le_of_ble_eq_true rfl) (Nat.le_of_ble_eq_true rfl) dX0_init_8 (fun zq1 H hP hD hS => ?_)
  have hP : va_P g.1 vwCl ([[(h0, .inr (0, [.null, .null]))], [(zq1, .inl (g.2.1, 288, .inl z0))]].flatten) H := hP
  have hD : va_D A ([[(h0, .inr (0, [.null, .null]))], [(zq1, .inl (g.2.1, 288, .inl z0))]].flatten) := hD
  refine va_putF (D := g.1) (ci := 0) (v := .ref zq1) (ty := .array .int) (C := RX0) (T := TX0) (N := 2) hx hb htG in_wsX00 tyX0 tyX0_ok nmX0 hown hK.1 hP hD hS 0 rfl rfl 0 (by decide) (htG _ g1_32) (fun _ h9 => h9) rfl hin rfl (by decide +kernel) rfl rfl (Nat.le_of_ble_eq_true rfl) dX0_init_10 (fun H locs hP hD hS => ?_)
  have hP : va_P g.1 vwCl ([[(h0, .inr (0, [.ref zq1, .null]))], [(zq1, .inl (g.2.1, 288, .inl z0))]].flatten) H := hP
  have hD : va_D A ([[(h0, .inr (0, [.ref zq1, .null]))], [(zq1, .inl (g.2.1, 288, .inl z0))]].flatten) := hD
  refine lv_aload_n hx hb dX0_init_13 rfl (lv_at hl 0 rfl) ?_
  refine lv_sipush (v := 288) hx hb dX0_init_14 (by decide +kernel) ?_
  refine newa_e (atype := .int) (cI := g.2.1) (N' := 288) (a0 := (288, .inl z0)) hx hb (htG _ g1_39) rfl (Or.inl rfl) hK.1 0 rfl hP hD hS hA (fun _ => rfl) (by decide) (by decide +kernel) (by decide +kernel) (Nat.le_of_ble_eq_true rfl) (Nat.le_of_ble_eq_true rfl) dX0_init_17 (fun zq2 H hP hD hS => ?_)
  have hP : va_P g.1 vwCl ([[(h0, .inr (0, [.ref zq1, .null]))], [(zq1, .inl (g.2.1, 288, .inl z0))], [(zq2, .inl (g.2.1, 288, .inl z0))]].flatten) H := hP
  have hD : va_D A ([[(h0, .inr (0, [.ref zq1, .null]))], [(zq1, .inl (g.2.1, 288, .inl z0))], [(zq2, .inl (g.2.1, 288, .inl z0))]].flatten) := hD
  refine va_putF (D := g.1) (ci := 0) (v := .ref zq2) (ty := .array .int) (C := RX0) (T := TX0) (N := 2) hx hb htG in_wsX00 tyX0 tyX0_ok nmX0 hown hK.1 hP hD hS 0 rfl rfl 1 (by decide) (htG _ g1_33) (fun _ h9 => h9) rfl hin rfl (by decide +kernel) rfl rfl (Nat.le_of_ble_eq_true rfl) dX0_init_19 (fun H locs hP hD hS => ?_)
  have hP : va_P g.1 vwCl ([[(h0, .inr (0, [.ref zq1, .ref zq2]))], [(zq1, .inl (g.2.1, 288, .inl z0))], [(zq2, .inl (g.2.1, 288, .inl z0))]].flatten) H := hP
  have hD : va_D A ([[(h0, .inr (0, [.ref zq1, .ref zq2]))], [(zq1, .inl (g.2.1, 288, .inl z0))], [(zq2, .inl (g.2.1, 288, .inl z0))]].flatten) := hD
  have hP : va_P g.1 vwCl (w_X0 g h0 zq1 zq2 BD0) H := hP
  have hD : va_D A (w_X0 g h0 zq1 zq2 BD0) := hD
  exact W.vret hx hb hr (fun t ht hW => ⟨⟨(fun k => [h0, zq1, zq2].getD k 0), rfl, trivial, atH ht hP, hD⟩, hS.F ht⟩) hS.2.2 dX0_init_22
abbrev rm_X5_init : Jvm.Room := { frames := 1, cells := 4, slots := 192, locals := 22 }
theorem hi_X5 : yX5_init.cls ≠ "java/lang/invoke/MethodHandle" ∧ yX5_init.cls ≠ "java/lang/invoke/VarHandle" ∧ (parseMethodDescriptor yX5_init.desc).map (fun d => d.parameters.length) = some 0 := by decide +kernel
set_option maxHeartbeats 4000000 in
set_option maxRecDepth 100000 in
theorem kX5_init (l : Launch) (g : CX) (h0 sz : Nat) : Met l yX5_init (wg yX5_init cX5_init 1 none) rm_X5_init (PW g [.ref h0] sz ([(h0, .inr (4, [.null, .null, .null, .null]))])) (va_Qv (fun _ : Nat → Nat => True) (fun u t => va_P g.1 vwCl (w_X5 g h0 (u 1) (u 2) (u 3) (u 4) LD0) t.heap ∧ va_D (va_A ([(h0, .inr (4, [.null, .null, .null, .null]))]) sz) (w_X5 g h0 (u 1) (u 2) (u 3) (u 4) LD0)) (va_A ([(h0, .inr (4, [.null, .null, .null, .null]))]) sz)) 4 192 (va_A ([(h0, .inr (4, [.null, .null, .null, .null]))]) sz) := by
  refine Met.ofW (cc := cX5_init) (maxL := 1) (ret := none) (by decide) rfl ?_
  intro p e s m args below meth c s₁ B hml hv
  obtain ⟨rfl, hsz, hP, hK, hD0, hL⟩ := hv
  have hx := B.exec
  have hb := B.bytes
  have hr := B.returns
  have htG := wg_G (atoms_spec (ws := wg yX5_init cX5_init 1 none) B.pre)
  have hown : s.vm.findClass RX5 = some m.cls := findClass_of_methodNamed B.named
  have hlocks := B.notSynchronized
  have hin : meth.name = "<init>" := (name_of_methodNamed B.named B.method).1
  subst hsz
  have hD := hD0.self (sz := s.heap.size)
  generalize hAe : va_A ([(h0, .inr (4, [.null, .null, .null, .null]))]) s.heap.size = A at hD hL ⊢
  have hA : ∀ q : Nat, s.heap.size ≤ q → A q := fun q h => by rw [← hAe]; exact Or.inr h
  have hS : va_S A s.heap s.heap [] := va_S.rf
  have hl := lv_entry ([.ref h0]) (n := 1) (Nat.le_of_ble_eq_true rfl)
  rw [lg_entry_eq]
  generalize (lg_sl ([.ref h0]) ++ List.replicate (1 - (lg_sl ([.ref h0])).length) Slot.unset).toArray = ls at hl ⊢
  have hl : lv_has ls 1 [(0, .ref h0)] := hl
  refine lv_aload_n hx hb dX5_init_0 rfl (lv_at hl 0 rfl) ?_
  refine W.objInit hx hb hown (htG _ g1_45) (htG _ g1_18) (htG _ g1_19) rfl (by rw [hml]; exact hl.1) rfl dX5_init_1 (Nat.le_of_ble_eq_true rfl) (Nat.le_of_ble_eq_true rfl) ?_
  refine W.eq (g2 := F0 m 4 ls []) rfl ?_
  refine lv_aload_n hx hb dX5_init_4 rfl (lv_at hl 0 rfl) ?_
  refine lv_bipush (v := 48) hx hb dX5_init_5 (by decide +kernel) ?_
  refine newa_e (atype := .int) (cI := g.2.1) (N' := 48) (a0 := (48, .inl z0)) hx hb (htG _ g1_39) rfl (Or.inl rfl) hK.1 0 rfl hP hD hS hA (fun _ => rfl) (by decide) (by decide +kernel) (by decide +kernel) (Nat.le_of_ble_eq_true rfl) (Nat.le_of_ble_eq_true rfl) dX5_init_7 (fun zq1 H hP hD hS => ?_)
  have hP : va_P g.1 vwCl ([[(h0, .inr (4, [.null, .null, .null, .null]))], [(zq1, .inl (g.2.1, 48, .inl z0))]].flatten) H := hP
  have hD : va_D A ([[(h0, .inr (4, [.null, .null, .null, .null]))], [(zq1, .inl (g.2.1, 48, .inl z0))]].flatten) := hD
  refine va_putF (D := g.1) (ci := 4) (v := .ref zq1) (ty := .array .int) (C := RX5) (T := TX5) (N := 4) hx hb htG in_wsX50 tyX5 tyX5_ok nmX5 hown hK.1 hP hD hS 0 rfl rfl 0 (by decide) (htG _ g1_49) (fun _ h9 => h9) rfl hin rfl (by decide +kernel) rfl rfl (Nat.le_of_ble_eq_true rfl) dX5_init_9 (fun H locs hP hD hS => ?_)
  have hP : va_P g.1 vwCl ([[(h0, .inr (4, [.ref zq1, .null, .null, .null]))], [(zq1, .inl (g.2.1, 48, .inl z0))]].flatten) H := hP
  have hD : va_D A ([[(h0, .inr (4, [.ref zq1, .null, .null, .null]))], [(zq1, .inl (g.2.1, 48, .inl z0))]].flatten) := hD
  refine lv_aload_n hx hb dX5_init_12 rfl (lv_at hl 0 rfl) ?_
  refine lv_bipush (v := 48) hx hb dX5_init_13 (by decide +kernel) ?_
  refine newa_e (atype := .int) (cI := g.2.1) (N' := 48) (a0 := (48, .inl z0)) hx hb (htG _ g1_39) rfl (Or.inl rfl) hK.1 0 rfl hP hD hS hA (fun _ => rfl) (by decide) (by decide +kernel) (by decide +kernel) (Nat.le_of_ble_eq_true rfl) (Nat.le_of_ble_eq_true rfl) dX5_init_15 (fun zq2 H hP hD hS => ?_)
  have hP : va_P g.1 vwCl ([[(h0, .inr (4, [.ref zq1, .null, .null, .null]))], [(zq1, .inl (g.2.1, 48, .inl z0))], [(zq2, .inl (g.2.1, 48, .inl z0))]].flatten) H := hP
  have hD : va_D A ([[(h0, .inr (4, [.ref zq1, .null, .null, .null]))], [(zq1, .inl (g.2.1, 48, .inl z0))], [(zq2, .inl (g.2.1, 48, .inl z0))]].flatten) := hD
  refine va_putF (D := g.1) (ci := 4) (v := .ref zq2) (ty := .array .int) (C := RX5) (T := TX5) (N := 4) hx hb htG in_wsX50 tyX5 tyX5_ok nmX5 hown hK.1 hP hD hS 0 rfl rfl 1 (by decide) (htG _ g1_50) (fun _ h9 => h9) rfl hin rfl (by decide +kernel) rfl rfl (Nat.le_of_ble_eq_true rfl) dX5_init_17 (fun H locs hP hD hS => ?_)
  have hP : va_P g.1 vwCl ([[(h0, .inr (4, [.ref zq1, .ref zq2, .null, .null]))], [(zq1, .inl (g.2.1, 48, .inl z0))], [(zq2, .inl (g.2.1, 48, .inl z0))]].flatten) H := hP
  have hD : va_D A ([[(h0, .inr (4, [.ref zq1, .ref zq2, .null, .null]))], [(zq1, .inl (g.2.1, 48, .inl z0))], [(zq2, .inl (g.2.1, 48, .inl z0))]].flatten) := hD
  refine lv_aload_n hx hb dX5_init_20 rfl (lv_at hl 0 rfl) ?_
  refine lv_bipush (v := 48) hx hb dX5_init_21 (by decide +kernel) ?_
  refine newa_e (atype := .int) (cI := g.2.1) (N' := 48) (a0 := (48, .inl z0)) hx hb (htG _ g1_39) rfl (Or.inl rfl) hK.1 0 rfl hP hD hS hA (fun _ => rfl) (by decide) (by decide +kernel) (by decide +kernel) (Nat.le_of_ble_eq_true rfl) (Nat.le_of_ble_eq_true rfl) dX5_init_23 (fun zq3 H hP hD hS => ?_)
  have hP : va_P g.1 vwCl ([[(h0, .inr (4, [.ref zq1, .ref zq2, .null, .null]))], [(zq1, .inl (g.2.1, 48, .inl z0))], [(zq2, .inl (g.2.1, 48, .inl z0))], [(zq3, .inl (g.2.1, 48, .inl z0))]].flatten) H := hP
  have hD : va_D A ([[(h0, .inr (4, [.ref zq1, .ref zq2, .null, .null]))], [(zq1, .inl (g.2.1, 48, .inl z0))], [(zq2, .inl (g.2.1, 48, .inl z0))], [(zq3, .inl (g.2.1, 48, .inl z0))]].flatten) := hD
  refine va_putF (D := g.1) (ci := 4) (v := .ref zq3) (ty := .array .int) (C := RX5) (T := TX5) (N := 4) hx hb htG in_wsX50 tyX5 tyX5_ok nmX5 hown hK.1 hP hD hS 0 rfl rfl 2 (by decide) (htG _ g1_53) (fun _ h9 => h9) rfl hin rfl (by decide +kernel) rfl rfl (Nat.le_of_ble_eq_true rfl) dX5_init_25 (fun H locs hP hD hS => ?_)
  have hP : va_P g.1 vwCl ([[(h0, .inr (4, [.ref zq1, .ref zq2, .ref zq3, .null]))], [(zq1, .inl (g.2.1, 48, .inl z0))], [(zq2, .inl (g.2.1, 48, .inl z0))], [(zq3, .inl (g.2.1, 48, .inl z0))]].flatten) H := hP
  have hD : va_D A ([[(h0, .inr (4, [.ref zq1, .ref zq2, .ref zq3, .null]))], [(zq1, .inl (g.2.1, 48, .inl z0))], [(zq2, .inl (g.2.1, 48, .inl z0))], [(zq3, .inl (g.2.1, 48, .inl z0))]].flatten) := hD
  refine lv_aload_n hx hb dX5_init_28 rfl (lv_at hl 0 rfl) ?_
  refine lv_bipush (v := 48) hx hb dX5_init_29 (by decide +kernel) ?_
  refine newa_e (atype := .int) (cI := g.2.1) (N' := 48) (a0 := (48, .inl z0)) hx hb (htG _ g1_39) rfl (Or.inl rfl) hK.1 0 rfl hP hD hS hA (fun _ => rfl) (by decide) (by decide +kernel) (by decide +kernel) (Nat.le_of_ble_eq_true rfl) (Nat.le_of_ble_eq_true rfl) dX5_init_31 (fun zq4 H hP hD hS => ?_)
  have hP : va_P g.1 vwCl ([[(h0, .inr (4, [.ref zq1, .ref zq2, .ref zq3, .null]))], [(zq1, .inl (g.2.1, 48, .inl z0))], [(zq2, .inl (g.2.1, 48, .inl z0))], [(zq3, .inl (g.2.1, 48, .inl z0))], [(zq4, .inl (g.2.1, 48, .inl z0))]].flatten) H := hP
  have hD : va_D A ([[(h0, .inr (4, [.ref zq1, .ref zq2, .ref zq3, .null]))], [(zq1, .inl (g.2.1, 48, .inl z0))], [(zq2, .inl (g.2.1, 48, .inl z0))], [(zq3, .inl (g.2.1, 48, .inl z0))], [(zq4, .inl (g.2.1, 48, .inl z0))]].flatten) := hD
  refine va_putF (D := g.1) (ci := 4) (v := .ref zq4) (ty := .array .int) (C := RX5) (T := TX5) (N := 4) hx hb htG in_wsX50 tyX5 tyX5_ok nmX5 hown hK.1 hP hD hS 0 rfl rfl 3 (by decide) (htG _ g1_56) (fun _ h9 => h9) rfl hin rfl (by decide +kernel) rfl rfl (Nat.le_of_ble_eq_true rfl) dX5_init_33 (fun H locs hP hD hS => ?_)
  have hP : va_P g.1 vwCl ([[(h0, .inr (4, [.ref zq1, .ref zq2, .ref zq3, .ref zq4]))], [(zq1, .inl (g.2.1, 48, .inl z0))], [(zq2, .inl (g.2.1, 48, .inl z0))], [(zq3, .inl (g.2.1, 48, .inl z0))], [(zq4, .inl (g.2.1, 48, .inl z0))]].flatten) H := hP
  have hD : va_D A ([[(h0, .inr (4, [.ref zq1, .ref zq2, .ref zq3, .ref zq4]))], [(zq1, .inl (g.2.1, 48, .inl z0))], [(zq2, .inl (g.2.1, 48, .inl z0))], [(zq3, .inl (g.2.1, 48, .inl z0))], [(zq4, .inl (g.2.1, 48, .inl z0))]].flatten) := hD
  refine lv_aload_n hx hb dX5_init_36 rfl (lv_at hl 0 rfl) ?_
  refine va_get (D := g.1) (ci := 4) (v := .ref zq1) (C := RX5) (T := TX5) (N := 4) hx hb htG in_wsX50 hown hK.1 hP 0 rfl rfl 0 (by decide) (htG _ g1_49) (fun _ h9 => h9) rfl dX5_init_37 ?_
  refine lv_bipush (v := (-5)) hx hb dX5_init_40 (by decide +kernel) ?_
  have hq := (blkQ (bs := [[(h0, .inr (4, [.ref zq1, .ref zq2, .ref zq3, .ref zq4]))], [(zq1, .inl (g.2.1, 48, .inl z0))], [(zq2, .inl (g.2.1, 48, .inl z0))], [(zq3, .inl (g.2.1, 48, .inl z0))], [(zq4, .inl (g.2.1, 48, .inl z0))]]) (cs := [[(zq1, .inl (g.2.1, 48, .inl z0))]]) (rs := [[(h0, .inr (4, [.ref zq1, .ref zq2, .ref zq3, .ref zq4]))], [(zq2, .inl (g.2.1, 48, .inl z0))], [(zq3, .inl (g.2.1, 48, .inl z0))], [(zq4, .inl (g.2.1, 48, .inl z0))]]) [1, 0, 2, 3, 4] 5 rfl (by decide) rfl (wc := [(zq1, .inl (g.2.1, 48, .inl z0))]) (by simp only [List.flatten_cons, List.flatten_nil, List.append_nil]))
  obtain ⟨hPc, hDc⟩ := va_cut hP hD hq
  refine kw_veB (va_runS (As := [.ref zq1, .int (-5)]) (rest := []) ⟨hx, hb, hml, hown, htG⟩ (kX4_fill l g zq1 _ z0 48 (-5) _ (t_X4_fill _ _ _ (by decide))) (va_cwS 2 htG (GS g1_46 g1_47 g1_5 g1_48) rfl rfl rfl hs_X4_fill ⟨Nat.le_of_ble_eq_true rfl, Nat.le_of_ble_eq_true rfl⟩) (PW_SA hK hL hS hPc hDc hA) rfl rfl hl.1 rfl (lv_room (Nat.le_of_ble_eq_true rfl)) dX5_init_42 ⟨Nat.le_of_ble_eq_true rfl, Nat.le_of_ble_eq_true rfl⟩) hP hD hS hA hq (blkQ (bs := [[(h0, .inr (4, [.ref zq1, .ref zq2, .ref zq3, .ref zq4]))], [(zq1, .inl (g.2.1, 48, .inl (rfill z0 48 (-5))))], [(zq2, .inl (g.2.1, 48, .inl z0))], [(zq3, .inl (g.2.1, 48, .inl z0))], [(zq4, .inl (g.2.1, 48, .inl z0))]]) (cs := [[(zq1, .inl (g.2.1, 48, .inl (rfill z0 48 (-5))))]]) (rs := [[(h0, .inr (4, [.ref zq1, .ref zq2, .ref zq3, .ref zq4]))], [(zq2, .inl (g.2.1, 48, .inl z0))], [(zq3, .inl (g.2.1, 48, .inl z0))], [(zq4, .inl (g.2.1, 48, .inl z0))]]) [1, 0, 2, 3, 4] 5 rfl (by decide) rfl (wc := [(zq1, .inl (g.2.1, 48, .inl (rfill z0 48 (-5))))]) (by simp only [List.flatten_cons, List.flatten_nil, List.append_nil])) (List.Perm.refl _) (fun H locs hP hD hS => ?_)
  have hP : va_P g.1 vwCl ([[(h0, .inr (4, [.ref zq1, .ref zq2, .ref zq3, .ref zq4]))], [(zq1, .inl (g.2.1, 48, .inl (rfill z0 48 (-5))))], [(zq2, .inl (g.2.1, 48, .inl z0))], [(zq3, .inl (g.2.1, 48, .inl z0))], [(zq4, .inl (g.2.1, 48, .inl z0))]].flatten) H := hP
  have hD : va_D A ([[(h0, .inr (4, [.ref zq1, .ref zq2, .ref zq3, .ref zq4]))], [(zq1, .inl (g.2.1, 48, .inl (rfill z0 48 (-5))))], [(zq2, .inl (g.2.1, 48, .inl z0))], [(zq3, .inl (g.2.1, 48, .inl z0))], [(zq4, .inl (g.2.1, 48, .inl z0))]].flatten) := hD
  have hP : va_P g.1 vwCl (w_X5 g h0 zq1 zq2 zq3 zq4 LD0) H := hP
  have hD : va_D A (w_X5 g h0 zq1 zq2 zq3 zq4 LD0) := hD
  exact W.vret hx hb hr (fun t ht hW => ⟨⟨(fun k => [h0, zq1, zq2, zq3, zq4].getD k 0), rfl, trivial, atH ht hP, hD⟩, hS.F ht⟩) hS.2.2 dX5_init_45
abbrev rm_X1_init : Jvm.Room := { frames := 1, cells := 4, slots := 24, locals := 22 }
theorem hi_X1 : yX1_init.cls ≠ "java/lang/invoke/MethodHandle" ∧ yX1_init.cls ≠ "java/lang/invoke/VarHandle" ∧ (parseMethodDescriptor yX1_init.desc).map (fun d => d.parameters.length) = some 0 := by decide +kernel
set_option maxHeartbeats 4000000 in
set_option maxRecDepth 100000 in
theorem kX1_init (l : Launch) (g : CX) (h0 sz : Nat) : Met l yX1_init (wg yX1_init cX1_init 1 none) rm_X1_init (PW g [.ref h0] sz ([(h0, .inr (1, [.null, .null, .null, .null]))])) (va_Qv (fun _ : Nat → Nat => True) (fun u t => va_P g.1 vwCl (w_X1 g h0 (u 1) (u 2) (u 3) (u 4) FD0) t.heap ∧ va_D (va_A ([(h0, .inr (1, [.null, .null, .null, .null]))]) sz) (w_X1 g h0 (u 1) (u 2) (u 3) (u 4) FD0)) (va_A ([(h0, .inr (1, [.null, .null, .null, .null]))]) sz)) 4 24 (va_A ([(h0, .inr (1, [.null, .null, .null, .null]))]) sz) := by
  refine Met.ofW (cc := cX1_init) (maxL := 1) (ret := none) (by decide) rfl ?_
  intro p e s m args below meth c s₁ B hml hv
  obtain ⟨rfl, hsz, hP, hK, hD0, hL⟩ := hv
  have hx := B.exec
  have hb := B.bytes
  have hr := B.returns
  have htG := wg_G (atoms_spec (ws := wg yX1_init cX1_init 1 none) B.pre)
  have hown : s.vm.findClass RX1 = some m.cls := findClass_of_methodNamed B.named
  have hlocks := B.notSynchronized
  have hin : meth.name = "<init>" := (name_of_methodNamed B.named B.method).1
  subst hsz
  have hD := hD0.self (sz := s.heap.size)
  generalize hAe : va_A ([(h0, .inr (1, [.null, .null, .null, .null]))]) s.heap.size = A at hD hL ⊢
  have hA : ∀ q : Nat, s.heap.size ≤ q → A q := fun q h => by rw [← hAe]; exact Or.inr h
  have hS : va_S A s.heap s.heap [] := va_S.rf
  have hl := lv_entry ([.ref h0]) (n := 1) (Nat.le_of_ble_eq_true rfl)
  rw [lg_entry_eq]
  generalize (lg_sl ([.ref h0]) ++ List.replicate (1 - (lg_sl ([.ref h0])).length) Slot.unset).toArray = ls at hl ⊢
  have hl : lv_has ls 1 [(0, .ref h0)] := hl
  refine lv_aload_n hx hb dX1_init_0 rfl (lv_at hl 0 rfl) ?_
  refine W.objInit hx hb hown (htG _ g1_73) (htG _ g1_18) (htG _ g1_19) rfl (by rw [hml]; exact hl.1) rfl dX1_init_1 (Nat.le_of_ble_eq_true rfl) (Nat.le_of_ble_eq_true rfl) ?_
  refine W.eq (g2 := F0 m 4 ls []) rfl ?_
  refine lv_aload_n hx hb dX1_init_4 rfl (lv_at hl 0 rfl) ?_
  refine lv_bipush (v := 6) hx hb dX1_init_5 (by decide +kernel) ?_
  refine newa_e (atype := .int) (cI := g.2.1) (N' := 6) (a0 := (6, .inl z0)) hx hb (htG _ g1_39) rfl (Or.inl rfl) hK.1 0 rfl hP hD hS hA (fun _ => rfl) (by decide) (by decide +kernel) (by decide +kernel) (Nat.le_of_ble_eq_true rfl) (Nat.le_of_ble_eq_true rfl) dX1_init_7 (fun zq1 H hP hD hS => ?_)
  have hP : va_P g.1 vwCl ([[(h0, .inr (1, [.null, .null, .null, .null]))], [(zq1, .inl (g.2.1, 6, .inl z0))]].flatten) H := hP
  have hD : va_D A ([[(h0, .inr (1, [.null, .null, .null, .null]))], [(zq1, .inl (g.2.1, 6, .inl z0))]].flatten) := hD
  refine va_putF (D := g.1) (ci := 1) (v := .ref zq1) (ty := .array .int) (C := RX1) (T := TX1) (N := 4) hx hb htG in_wsX10 tyX1 tyX1_ok nmX1 hown hK.1 hP hD hS 0 rfl rfl 0 (by decide) (htG _ g1_75) (fun _ h9 => h9) rfl hin rfl (by decide +kernel) rfl rfl (Nat.le_of_ble_eq_true rfl) dX1_init_9 (fun H locs hP hD hS => ?_)
  have hP : va_P g.1 vwCl ([[(h0, .inr (1, [.ref zq1, .null, .null, .null]))], [(zq1, .inl (g.2.1, 6, .inl z0))]].flatten) H := hP
  have hD : va_D A ([[(h0, .inr (1, [.ref zq1, .null, .null, .null]))], [(zq1, .inl (g.2.1, 6, .inl z0))]].flatten) := hD
  refine lv_aload_n hx hb dX1_init_12 rfl (lv_at hl 0 rfl) ?_
  refine lv_bipush (v := 6) hx hb dX1_init_13 (by decide +kernel) ?_
  refine newa_e (atype := .int) (cI := g.2.1) (N' := 6) (a0 := (6, .inl z0)) hx hb (htG _ g1_39) rfl (Or.inl rfl) hK.1 0 rfl hP hD hS hA (fun _ => rfl) (by decide) (by decide +kernel) (by decide +kernel) (Nat.le_of_ble_eq_true rfl) (Nat.le_of_ble_eq_true rfl) dX1_init_15 (fun zq2 H hP hD hS => ?_)
  have hP : va_P g.1 vwCl ([[(h0, .inr (1, [.ref zq1, .null, .null, .null]))], [(zq1, .inl (g.2.1, 6, .inl z0))], [(zq2, .inl (g.2.1, 6, .inl z0))]].flatten) H := hP
  have hD : va_D A ([[(h0, .inr (1, [.ref zq1, .null, .null, .null]))], [(zq1, .inl (g.2.1, 6, .inl z0))], [(zq2, .inl (g.2.1, 6, .inl z0))]].flatten) := hD
  refine va_putF (D := g.1) (ci := 1) (v := .ref zq2) (ty := .array .int) (C := RX1) (T := TX1) (N := 4) hx hb htG in_wsX10 tyX1 tyX1_ok nmX1 hown hK.1 hP hD hS 0 rfl rfl 1 (by decide) (htG _ g1_78) (fun _ h9 => h9) rfl hin rfl (by decide +kernel) rfl rfl (Nat.le_of_ble_eq_true rfl) dX1_init_17 (fun H locs hP hD hS => ?_)
  have hP : va_P g.1 vwCl ([[(h0, .inr (1, [.ref zq1, .ref zq2, .null, .null]))], [(zq1, .inl (g.2.1, 6, .inl z0))], [(zq2, .inl (g.2.1, 6, .inl z0))]].flatten) H := hP
  have hD : va_D A ([[(h0, .inr (1, [.ref zq1, .ref zq2, .null, .null]))], [(zq1, .inl (g.2.1, 6, .inl z0))], [(zq2, .inl (g.2.1, 6, .inl z0))]].flatten) := hD
  refine lv_aload_n hx hb dX1_init_20 rfl (lv_at hl 0 rfl) ?_
  refine lv_bipush (v := 6) hx hb dX1_init_21 (by decide +kernel) ?_
  refine newa_e (atype := .int) (cI := g.2.1) (N' := 6) (a0 := (6, .inl z0)) hx hb (htG _ g1_39) rfl (Or.inl rfl) hK.1 0 rfl hP hD hS hA (fun _ => rfl) (by decide) (by decide +kernel) (by decide +kernel) (Nat.le_of_ble_eq_true rfl) (Nat.le_of_ble_eq_true rfl) dX1_init_23 (fun zq3 H hP hD hS => ?_)
  have hP : va_P g.1 vwCl ([[(h0, .inr (1, [.ref zq1, .ref zq2, .null, .null]))], [(zq1, .inl (g.2.1, 6, .inl z0))], [(zq2, .inl (g.2.1, 6, .inl z0))], [(zq3, .inl (g.2.1, 6, .inl z0))]].flatten) H := hP
  have hD : va_D A ([[(h0, .inr (1, [.ref zq1, .ref zq2, .null, .null]))], [(zq1, .inl (g.2.1, 6, .inl z0))], [(zq2, .inl (g.2.1, 6, .inl z0))], [(zq3, .inl (g.2.1, 6, .inl z0))]].flatten) := hD
  refine va_putF (D := g.1) (ci := 1) (v := .ref zq3) (ty := .array .int) (C := RX1) (T := TX1) (N := 4) hx hb htG in_wsX10 tyX1 tyX1_ok nmX1 hown hK.1 hP hD hS 0 rfl rfl 2 (by decide) (htG _ g1_81) (fun _ h9 => h9) rfl hin rfl (by decide +kernel) rfl rfl (Nat.le_of_ble_eq_true rfl) dX1_init_25 (fun H locs hP hD hS => ?_)
  have hP : va_P g.1 vwCl ([[(h0, .inr (1, [.ref zq1, .ref zq2, .ref zq3, .null]))], [(zq1, .inl (g.2.1, 6, .inl z0))], [(zq2, .inl (g.2.1, 6, .inl z0))], [(zq3, .inl (g.2.1, 6, .inl z0))]].flatten) H := hP
  have hD : va_D A ([[(h0, .inr (1, [.ref zq1, .ref zq2, .ref zq3, .null]))], [(zq1, .inl (g.2.1, 6, .inl z0))], [(zq2, .inl (g.2.1, 6, .inl z0))], [(zq3, .inl (g.2.1, 6, .inl z0))]].flatten) := hD
  refine lv_aload_n hx hb dX1_init_28 rfl (lv_at hl 0 rfl) ?_
  refine lv_bipush (v := 6) hx hb dX1_init_29 (by decide +kernel) ?_
  refine newa_e (atype := .int) (cI := g.2.1) (N' := 6) (a0 := (6, .inl z0)) hx hb (htG _ g1_39) rfl (Or.inl rfl) hK.1 0 rfl hP hD hS hA (fun _ => rfl) (by decide) (by decide +kernel) (by decide +kernel) (Nat.le_of_ble_eq_true rfl) (Nat.le_of_ble_eq_true rfl) dX1_init_31 (fun zq4 H hP hD hS => ?_)
  have hP : va_P g.1 vwCl ([[(h0, .inr (1, [.ref zq1, .ref zq2, .ref zq3, .null]))], [(zq1, .inl (g.2.1, 6, .inl z0))], [(zq2, .inl (g.2.1, 6, .inl z0))], [(zq3, .inl (g.2.1, 6, .inl z0))], [(zq4, .inl (g.2.1, 6, .inl z0))]].flatten) H := hP
  have hD : va_D A ([[(h0, .inr (1, [.ref zq1, .ref zq2, .ref zq3, .null]))], [(zq1, .inl (g.2.1, 6, .inl z0))], [(zq2, .inl (g.2.1, 6, .inl z0))], [(zq3, .inl (g.2.1, 6, .inl z0))], [(zq4, .inl (g.2.1, 6, .inl z0))]].flatten) := hD
  refine va_putF (D := g.1) (ci := 1) (v := .ref zq4) (ty := .array .int) (C := RX1) (T := TX1) (N := 4) hx hb htG in_wsX10 tyX1 tyX1_ok nmX1 hown hK.1 hP hD hS 0 rfl rfl 3 (by decide) (htG _ g1_83) (fun _ h9 => h9) rfl hin rfl (by decide +kernel) rfl rfl (Nat.le_of_ble_eq_true rfl) dX1_init_33 (fun H locs hP hD hS => ?_)
  have hP : va_P g.1 vwCl ([[(h0, .inr (1, [.ref zq1, .ref zq2, .ref zq3, .ref zq4]))], [(zq1, .inl (g.2.1, 6, .inl z0))], [(zq2, .inl (g.2.1, 6, .inl z0))], [(zq3, .inl (g.2.1, 6, .inl z0))], [(zq4, .inl (g.2.1, 6, .inl z0))]].flatten) H := hP
  have hD : va_D A ([[(h0, .inr (1, [.ref zq1, .ref zq2, .ref zq3, .ref zq4]))], [(zq1, .inl (g.2.1, 6, .inl z0))], [(zq2, .inl (g.2.1, 6, .inl z0))], [(zq3, .inl (g.2.1, 6, .inl z0))], [(zq4, .inl (g.2.1, 6, .inl z0))]].flatten) := hD
  refine lv_aload_n hx hb dX1_init_36 rfl (lv_at hl 0 rfl) ?_
  refine va_get (D := g.1) (ci := 1) (v := .ref zq1) (C := RX1) (T := TX1) (N := 4) hx hb htG in_wsX10 hown hK.1 hP 0 rfl rfl 0 (by decide) (htG _ g1_75) (fun _ h9 => h9) rfl dX1_init_37 ?_
  refine lv_bipush (v := 100) hx hb dX1_init_40 (by decide +kernel) ?_
  have hq := (blkQ (bs := [[(h0, .inr (1, [.ref zq1, .ref zq2, .ref zq3, .ref zq4]))], [(zq1, .inl (g.2.1, 6, .inl z0))], [(zq2, .inl (g.2.1, 6, .inl z0))], [(zq3, .inl (g.2.1, 6, .inl z0))], [(zq4, .inl (g.2.1, 6, .inl z0))]]) (cs := [[(zq1, .inl (g.2.1, 6, .inl z0))]]) (rs := [[(h0, .inr (1, [.ref zq1, .ref zq2, .ref zq3, .ref zq4]))], [(zq2, .inl (g.2.1, 6, .inl z0))], [(zq3, .inl (g.2.1, 6, .inl z0))], [(zq4, .inl (g.2.1, 6, .inl z0))]]) [1, 0, 2, 3, 4] 5 rfl (by decide) rfl (wc := [(zq1, .inl (g.2.1, 6, .inl z0))]) (by simp only [List.flatten_cons, List.flatten_nil, List.append_nil]))
  obtain ⟨hPc, hDc⟩ := va_cut hP hD hq
  refine kw_veB (va_runS (As := [.ref zq1, .int 100]) (rest := []) ⟨hx, hb, hml, hown, htG⟩ (kX4_fill l g zq1 _ z0 6 100 _ (t_X4_fill _ _ _ (by decide))) (va_cwS 2 htG (GS g1_74 g1_47 g1_5 g1_48) rfl rfl rfl hs_X4_fill ⟨Nat.le_of_ble_eq_true rfl, Nat.le_of_ble_eq_true rfl⟩) (PW_SA hK hL hS hPc hDc hA) rfl rfl hl.1 rfl (lv_room (Nat.le_of_ble_eq_true rfl)) dX1_init_42 ⟨Nat.le_of_ble_eq_true rfl, Nat.le_of_ble_eq_true rfl⟩) hP hD hS hA hq (blkQ (bs := [[(h0, .inr (1, [.ref zq1, .ref zq2, .ref zq3, .ref zq4]))], [(zq1, .inl (g.2.1, 6, .inl (rfill z0 6 100)))], [(zq2, .inl (g.2.1, 6, .inl z0))], [(zq3, .inl (g.2.1, 6, .inl z0))], [(zq4, .inl (g.2.1, 6, .inl z0))]]) (cs := [[(zq1, .inl (g.2.1, 6, .inl (rfill z0 6 100)))]]) (rs := [[(h0, .inr (1, [.ref zq1, .ref zq2, .ref zq3, .ref zq4]))], [(zq2, .inl (g.2.1, 6, .inl z0))], [(zq3, .inl (g.2.1, 6, .inl z0))], [(zq4, .inl (g.2.1, 6, .inl z0))]]) [1, 0, 2, 3, 4] 5 rfl (by decide) rfl (wc := [(zq1, .inl (g.2.1, 6, .inl (rfill z0 6 100)))]) (by simp only [List.flatten_cons, List.flatten_nil, List.append_nil])) (List.Perm.refl _) (fun H locs hP hD hS => ?_)
  have hP : va_P g.1 vwCl ([[(h0, .inr (1, [.ref zq1, .ref zq2, .ref zq3, .ref zq4]))], [(zq1, .inl (g.2.1, 6, .inl (rfill z0 6 100)))], [(zq2, .inl (g.2.1, 6, .inl z0))], [(zq3, .inl (g.2.1, 6, .inl z0))], [(zq4, .inl (g.2.1, 6, .inl z0))]].flatten) H := hP
  have hD : va_D A ([[(h0, .inr (1, [.ref zq1, .ref zq2, .ref zq3, .ref zq4]))], [(zq1, .inl (g.2.1, 6, .inl (rfill z0 6 100)))], [(zq2, .inl (g.2.1, 6, .inl z0))], [(zq3, .inl (g.2.1, 6, .inl z0))], [(zq4, .inl (g.2.1, 6, .inl z0))]].flatten) := hD
  have hP : va_P g.1 vwCl (w_X1 g h0 zq1 zq2 zq3 zq4 FD0) H := hP
  have hD : va_D A (w_X1 g h0 zq1 zq2 zq3 zq4 FD0) := hD
  exact W.vret hx hb hr (fun t ht hW => ⟨⟨(fun k => [h0, zq1, zq2, zq3, zq4].getD k 0), rfl, trivial, atH ht hP, hD⟩, hS.F ht⟩) hS.2.2 dX1_init_45
abbrev rm_X7_init : Jvm.Room := { frames := 1, cells := 1, slots := 4, locals := 12 }
theorem hi_X7 : yX7_init.cls ≠ "java/lang/invoke/MethodHandle" ∧ yX7_init.cls ≠ "java/lang/invoke/VarHandle" ∧ (parseMethodDescriptor yX7_init.desc).map (fun d => d.parameters.length) = some 0 := by decide +kernel
set_option maxHeartbeats 4000000 in
set_option maxRecDepth 100000 in
theorem kX7_init (l : Launch) (g : CX) (h0 sz : Nat) : Met l yX7_init (wg yX7_init cX7_init 1 none) rm_X7_init (PW g [.ref h0] sz ([(h0, .inr (6, [.null, .int 0, .int 0, .int 0, .int 0, .int 0, .int 0]))])) (va_Qv (fun _ : Nat → Nat => True) (fun u t => va_P g.1 vwCl (w_X7 g h0 (u 1) TD0) t.heap ∧ va_D (va_A ([(h0, .inr (6, [.null, .int 0, .int 0, .int 0, .int 0, .int 0, .int 0]))]) sz) (w_X7 g h0 (u 1) TD0)) (va_A ([(h0, .inr (6, [.null, .int 0, .int 0, .int 0, .int 0, .int 0, .int 0]))]) sz)) 1 4 (va_A ([(h0, .inr (6, [.null, .int 0, .int 0, .int 0, .int 0, .int 0, .int 0]))]) sz) := by
  refine Met.ofW (cc := cX7_init) (maxL := 1) (ret := none) (by decide) rfl ?_
  intro p e s m args below meth c s₁ B hml hv
  obtain ⟨rfl, hsz, hP, hK, hD0, hL⟩ := hv
  have hx := B.exec
  have hb := B.bytes
  have hr := B.returns
  have htG := wg_G (atoms_spec (ws := wg yX7_init cX7_init 1 none) B.pre)
  have hown : s.vm.findClass RX7 = some m.cls := findClass_of_methodNamed B.named
  have hlocks := B.notSynchronized
  have hin : meth.name = "<init>" := (name_of_methodNamed B.named B.method).1
  subst hsz
  have hD := hD0.self (sz := s.heap.size)
  generalize hAe : va_A ([(h0, .inr (6, [.null, .int 0, .int 0, .int 0, .int 0, .int 0, .int 0]))]) s.heap.size = A at hD hL ⊢
  have hA : ∀ q : Nat, s.heap.size ≤ q → A q := fun q h => by rw [← hAe]; exact Or.inr h
  have hS : va_S A s.heap s.heap [] := va_S.rf
  have hl := lv_entry ([.ref h0]) (n := 1) (Nat.le_of_ble_eq_true rfl)
  rw [lg_entry_eq]
  generalize (lg_sl ([.ref h0]) ++ List.replicate (1 - (lg_sl ([.ref h0])).length) Slot.unset).toArray = ls at hl ⊢
  have hl : lv_has ls 1 [(0, .ref h0)] := hl
  refine lv_aload_n hx hb dX7_init_0 rfl (lv_at hl 0 rfl) ?_
  refine W.objInit hx hb hown (htG _ g1_99) (htG _ g1_18) (htG _ g1_19) rfl (by rw [hml]; exact hl.1) rfl dX7_init_1 (Nat.le_of_ble_eq_true rfl) (Nat.le_of_ble_eq_true rfl) ?_
  refine W.eq (g2 := F0 m 4 ls []) rfl ?_
  refine lv_aload_n hx hb dX7_init_4 rfl (lv_at hl 0 rfl) ?_
  refine lv_iconst (v := 4) hx hb dX7_init_5 (by decide) ?_
  refine newa_e (atype := .int) (cI := g.2.1) (N' := 4) (a0 := (4, .inl z0)) hx hb (htG _ g1_39) rfl (Or.inl rfl) hK.1 0 rfl hP hD hS hA (fun _ => rfl) (by decide) (by decide +kernel) (by decide +kernel) (Nat.le_of_ble_eq_true rfl) (Nat.le_of_ble_eq_true rfl) dX7_init_6 (fun zq1 H hP hD hS => ?_)
  have hP : va_P g.1 vwCl ([[(h0, .inr (6, [.null, .int 0, .int 0, .int 0, .int 0, .int 0, .int 0]))], [(zq1, .inl (g.2.1, 4, .inl z0))]].flatten) H := hP
  have hD : va_D A ([[(h0, .inr (6, [.null, .int 0, .int 0, .int 0, .int 0, .int 0, .int 0]))], [(zq1, .inl (g.2.1, 4, .inl z0))]].flatten) := hD
  refine va_putF (D := g.1) (ci := 6) (v := .ref zq1) (ty := .array .int) (C := RX7) (T := TX7) (N := 7) hx hb htG in_wsX70 tyX7 tyX7_ok nmX7 hown hK.1 hP hD hS 0 rfl rfl 0 (by decide) (htG _ g1_100) (fun _ h9 => h9) rfl hin rfl (by decide +kernel) rfl rfl (Nat.le_of_ble_eq_true rfl) dX7_init_8 (fun H locs hP hD hS => ?_)
  have hP : va_P g.1 vwCl ([[(h0, .inr (6, [.ref zq1, .int 0, .int 0, .int 0, .int 0, .int 0, .int 0]))], [(zq1, .inl (g.2.1, 4, .inl z0))]].flatten) H := hP
  have hD : va_D A ([[(h0, .inr (6, [.ref zq1, .int 0, .int 0, .int 0, .int 0, .int 0, .int 0]))], [(zq1, .inl (g.2.1, 4, .inl z0))]].flatten) := hD
  refine lv_aload_n hx hb dX7_init_11 rfl (lv_at hl 0 rfl) ?_
  refine lv_iconst (v := 0) hx hb dX7_init_12 (by decide) ?_
  refine va_put (D := g.1) (ci := 6) (v := .int 0) (ty := .int) (C := RX7) (T := TX7) (N := 7) hx hb htG in_wsX70 tyX7 tyX7_ok nmX7 hown hK.1 hP hD hS 0 rfl rfl 1 (by decide) (htG _ g1_102) (fun _ h9 => h9) rfl (by decide +kernel) rfl rfl (Nat.le_of_ble_eq_true rfl) dX7_init_13 (fun H locs hP hD hS => ?_)
  have hP : va_P g.1 vwCl ([[(h0, .inr (6, [.ref zq1, .int 0, .int 0, .int 0, .int 0, .int 0, .int 0]))], [(zq1, .inl (g.2.1, 4, .inl z0))]].flatten) H := hP
  have hD : va_D A ([[(h0, .inr (6, [.ref zq1, .int 0, .int 0, .int 0, .int 0, .int 0, .int 0]))], [(zq1, .inl (g.2.1, 4, .inl z0))]].flatten) := hD
  refine lv_aload_n hx hb dX7_init_16 rfl (lv_at hl 0 rfl) ?_
  refine lv_iconst (v := 0) hx hb dX7_init_17 (by decide) ?_
  refine va_put (D := g.1) (ci := 6) (v := .int 0) (ty := .int) (C := RX7) (T := TX7) (N := 7) hx hb htG in_wsX70 tyX7 tyX7_ok nmX7 hown hK.1 hP hD hS 0 rfl rfl 2 (by decide) (htG _ g1_104) (fun _ h9 => h9) rfl (by decide +kernel) rfl rfl (Nat.le_of_ble_eq_true rfl) dX7_init_18 (fun H locs hP hD hS => ?_)
  have hP : va_P g.1 vwCl ([[(h0, .inr (6, [.ref zq1, .int 0, .int 0, .int 0, .int 0, .int 0, .int 0]))], [(zq1, .inl (g.2.1, 4, .inl z0))]].flatten) H := hP
  have hD : va_D A ([[(h0, .inr (6, [.ref zq1, .int 0, .int 0, .int 0, .int 0, .int 0, .int 0]))], [(zq1, .inl (g.2.1, 4, .inl z0))]].flatten) := hD
  refine lv_aload_n hx hb dX7_init_21 rfl (lv_at hl 0 rfl) ?_
  refine lv_sipush (v := 600) hx hb dX7_init_22 (by decide +kernel) ?_
  refine va_put (D := g.1) (ci := 6) (v := .int 600) (ty := .int) (C := RX7) (T := TX7) (N := 7) hx hb htG in_wsX70 tyX7 tyX7_ok nmX7 hown hK.1 hP hD hS 0 rfl rfl 3 (by decide) (htG _ g1_106) (fun _ h9 => h9) rfl (by decide +kernel) rfl rfl (Nat.le_of_ble_eq_true rfl) dX7_init_25 (fun H locs hP hD hS => ?_)
  have hP : va_P g.1 vwCl ([[(h0, .inr (6, [.ref zq1, .int 0, .int 0, .int 600, .int 0, .int 0, .int 0]))], [(zq1, .inl (g.2.1, 4, .inl z0))]].flatten) H := hP
  have hD : va_D A ([[(h0, .inr (6, [.ref zq1, .int 0, .int 0, .int 600, .int 0, .int 0, .int 0]))], [(zq1, .inl (g.2.1, 4, .inl z0))]].flatten) := hD
  refine lv_aload_n hx hb dX7_init_28 rfl (lv_at hl 0 rfl) ?_
  refine lv_iconst (v := 0) hx hb dX7_init_29 (by decide) ?_
  refine va_put (D := g.1) (ci := 6) (v := .int 0) (ty := .int) (C := RX7) (T := TX7) (N := 7) hx hb htG in_wsX70 tyX7 tyX7_ok nmX7 hown hK.1 hP hD hS 0 rfl rfl 4 (by decide) (htG _ g1_108) (fun _ h9 => h9) rfl (by decide +kernel) rfl rfl (Nat.le_of_ble_eq_true rfl) dX7_init_30 (fun H locs hP hD hS => ?_)
  have hP : va_P g.1 vwCl ([[(h0, .inr (6, [.ref zq1, .int 0, .int 0, .int 600, .int 0, .int 0, .int 0]))], [(zq1, .inl (g.2.1, 4, .inl z0))]].flatten) H := hP
  have hD : va_D A ([[(h0, .inr (6, [.ref zq1, .int 0, .int 0, .int 600, .int 0, .int 0, .int 0]))], [(zq1, .inl (g.2.1, 4, .inl z0))]].flatten) := hD
  refine lv_aload_n hx hb dX7_init_33 rfl (lv_at hl 0 rfl) ?_
  refine lv_iconst (v := 0) hx hb dX7_init_34 (by decide) ?_
  refine va_put (D := g.1) (ci := 6) (v := .int 0) (ty := .int) (C := RX7) (T := TX7) (N := 7) hx hb htG in_wsX70 tyX7 tyX7_ok nmX7 hown hK.1 hP hD hS 0 rfl rfl 5 (by decide) (htG _ g1_110) (fun _ h9 => h9) rfl (by decide +kernel) rfl rfl (Nat.le_of_ble_eq_true rfl) dX7_init_35 (fun H locs hP hD hS => ?_)
  have hP : va_P g.1 vwCl ([[(h0, .inr (6, [.ref zq1, .int 0, .int 0, .int 600, .int 0, .int 0, .int 0]))], [(zq1, .inl (g.2.1, 4, .inl z0))]].flatten) H := hP
  have hD : va_D A ([[(h0, .inr (6, [.ref zq1, .int 0, .int 0, .int 600, .int 0, .int 0, .int 0]))], [(zq1, .inl (g.2.1, 4, .inl z0))]].flatten) := hD
  refine lv_aload_n hx hb dX7_init_38 rfl (lv_at hl 0 rfl) ?_
  refine lv_iconst (v := 0) hx hb dX7_init_39 (by decide) ?_
  refine va_put (D := g.1) (ci := 6) (v := .int 0) (ty := .int) (C := RX7) (T := TX7) (N := 7) hx hb htG in_wsX70 tyX7 tyX7_ok nmX7 hown hK.1 hP hD hS 0 rfl rfl 6 (by decide) (htG _ g1_112) (fun _ h9 => h9) rfl (by decide +kernel) rfl rfl (Nat.le_of_ble_eq_true rfl) dX7_init_40 (fun H locs hP hD hS => ?_)
  have hP : va_P g.1 vwCl ([[(h0, .inr (6, [.ref zq1, .int 0, .int 0, .int 600, .int 0, .int 0, .int 0]))], [(zq1, .inl (g.2.1, 4, .inl z0))]].flatten) H := hP
  have hD : va_D A ([[(h0, .inr (6, [.ref zq1, .int 0, .int 0, .int 600, .int 0, .int 0, .int 0]))], [(zq1, .inl (g.2.1, 4, .inl z0))]].flatten) := hD
  have hP : va_P g.1 vwCl (w_X7 g h0 zq1 TD0) H := hP
  have hD : va_D A (w_X7 g h0 zq1 TD0) := hD
  exact W.vret hx hb hr (fun t ht hW => ⟨⟨(fun k => [h0, zq1].getD k 0), rfl, trivial, atH ht hP, hD⟩, hS.F ht⟩) hS.2.2 dX7_init_43
abbrev rm_X3_init : Jvm.Room := { frames := 1, cells := 1, slots := 80, locals := 12 }
theorem hi_X3 : yX3_init.cls ≠ "java/lang/invoke/MethodHandle" ∧ yX3_init.cls ≠ "java/lang/invoke/VarHandle" ∧ (parseMethodDescriptor yX3_init.desc).map (fun d => d.parameters.length) = some 0 := by decide +kernel
set_option maxHeartbeats 4000000 in
set_option maxRecDepth 100000 in
theorem kX3_init (l : Launch) (g : CX) (h0 sz : Nat) : Met l yX3_init (wg yX3_init cX3_init 1 none) rm_X3_init (PW g [.ref h0] sz ([(h0, .inr (3, [.null, .int 0, .int 0, .int 0, .int 0, .int 0, .int 0, .int 0, .int 0, .int 0, .int 0]))])) (va_Qv (fun _ : Nat → Nat => True) (fun u t => va_P g.1 vwCl (w_X3 g h0 (u 1) PD0) t.heap ∧ va_D (va_A ([(h0, .inr (3, [.null, .int 0, .int 0, .int 0, .int 0, .int 0, .int 0, .int 0, .int 0, .int 0, .int 0]))]) sz) (w_X3 g h0 (u 1) PD0)) (va_A ([(h0, .inr (3, [.null, .int 0, .int 0, .int 0, .int 0, .int 0, .int 0, .int 0, .int 0, .int 0, .int 0]))]) sz)) 1 80 (va_A ([(h0, .inr (3, [.null, .int 0, .int 0, .int 0, .int 0, .int 0, .int 0, .int 0, .int 0, .int 0, .int 0]))]) sz) := by
  refine Met.ofW (cc := cX3_init) (maxL := 1) (ret := none) (by decide) rfl ?_
  intro p e s m args below meth c s₁ B hml hv
  obtain ⟨rfl, hsz, hP, hK, hD0, hL⟩ := hv
  have hx := B.exec
  have hb := B.bytes
  have hr := B.returns
  have htG := wg_G (atoms_spec (ws := wg yX3_init cX3_init 1 none) B.pre)
  have hown : s.vm.findClass RX3 = some m.cls := findClass_of_methodNamed B.named
  have hlocks := B.notSynchronized
  have hin : meth.name = "<init>" := (name_of_methodNamed B.named B.method).1
  subst hsz
  have hD := hD0.self (sz := s.heap.size)
  generalize hAe : va_A ([(h0, .inr (3, [.null, .int 0, .int 0, .int 0, .int 0, .int 0, .int 0, .int 0, .int 0, .int 0, .int 0]))]) s.heap.size = A at hD hL ⊢
  have hA : ∀ q : Nat, s.heap.size ≤ q → A q := fun q h => by rw [← hAe]; exact Or.inr h
  have hS : va_S A s.heap s.heap [] := va_S.rf
  have hl := lv_entry ([.ref h0]) (n := 1) (Nat.le_of_ble_eq_true rfl)
  rw [lg_entry_eq]
  generalize (lg_sl ([.ref h0]) ++ List.replicate (1 - (lg_sl ([.ref h0])).length) Slot.unset).toArray = ls at hl ⊢
  have hl : lv_has ls 1 [(0, .ref h0)] := hl
  refine lv_aload_n hx hb dX3_init_0 rfl (lv_at hl 0 rfl) ?_
  refine W.objInit hx hb hown (htG _ g1_181) (htG _ g1_18) (htG _ g1_19) rfl (by rw [hml]; exact hl.1) rfl dX3_init_1 (Nat.le_of_ble_eq_true rfl) (Nat.le_of_ble_eq_true rfl) ?_
  refine W.eq (g2 := F0 m 4 ls []) rfl ?_
  refine lv_aload_n hx hb dX3_init_4 rfl (lv_at hl 0 rfl) ?_
  refine lv_bipush (v := 80) hx hb dX3_init_5 (by decide +kernel) ?_
  refine newa_e (atype := .char) (cI := g.2.2.1) (N' := 80) (a0 := (80, .inl z0)) hx hb (htG _ g1_223) rfl (Or.inr rfl) hK.1 1 rfl hP hD hS hA (fun _ => rfl) (by decide) (by decide +kernel) (by decide +kernel) (Nat.le_of_ble_eq_true rfl) (Nat.le_of_ble_eq_true rfl) dX3_init_7 (fun zq1 H hP hD hS => ?_)
  have hP : va_P g.1 vwCl ([[(h0, .inr (3, [.null, .int 0, .int 0, .int 0, .int 0, .int 0, .int 0, .int 0, .int 0, .int 0, .int 0]))], [(zq1, .inl (g.2.2.1, 80, .inl z0))]].flatten) H := hP
  have hD : va_D A ([[(h0, .inr (3, [.null, .int 0, .int 0, .int 0, .int 0, .int 0, .int 0, .int 0, .int 0, .int 0, .int 0]))], [(zq1, .inl (g.2.2.1, 80, .inl z0))]].flatten) := hD
  refine va_putF (D := g.1) (ci := 3) (v := .ref zq1) (ty := .array .char) (C := RX3) (T := TX3) (N := 11) hx hb htG in_wsX30 tyX3 tyX3_ok nmX3 hown hK.1 hP hD hS 0 rfl rfl 0 (by decide) (htG _ g1_182) (fun _ h9 => h9) rfl hin rfl (by decide +kernel) rfl rfl (Nat.le_of_ble_eq_true rfl) dX3_init_9 (fun H locs hP hD hS => ?_)
  have hP : va_P g.1 vwCl ([[(h0, .inr (3, [.ref zq1, .int 0, .int 0, .int 0, .int 0, .int 0, .int 0, .int 0, .int 0, .int 0, .int 0]))], [(zq1, .inl (g.2.2.1, 80, .inl z0))]].flatten) H := hP
  have hD : va_D A ([[(h0, .inr (3, [.ref zq1, .int 0, .int 0, .int 0, .int 0, .int 0, .int 0, .int 0, .int 0, .int 0, .int 0]))], [(zq1, .inl (g.2.2.1, 80, .inl z0))]].flatten) := hD
  refine lv_aload_n hx hb dX3_init_12 rfl (lv_at hl 0 rfl) ?_
  refine lv_iconst (v := 0) hx hb dX3_init_13 (by decide) ?_
  refine va_put (D := g.1) (ci := 3) (v := .int 0) (ty := .int) (C := RX3) (T := TX3) (N := 11) hx hb htG in_wsX30 tyX3 tyX3_ok nmX3 hown hK.1 hP hD hS 0 rfl rfl 1 (by decide) (htG _ g1_183) (fun _ h9 => h9) rfl (by decide +kernel) rfl rfl (Nat.le_of_ble_eq_true rfl) dX3_init_14 (fun H locs hP hD hS => ?_)
  have hP : va_P g.1 vwCl ([[(h0, .inr (3, [.ref zq1, .int 0, .int 0, .int 0, .int 0, .int 0, .int 0, .int 0, .int 0, .int 0, .int 0]))], [(zq1, .inl (g.2.2.1, 80, .inl z0))]].flatten) H := hP
  have hD : va_D A ([[(h0, .inr (3, [.ref zq1, .int 0, .int 0, .int 0, .int 0, .int 0, .int 0, .int 0, .int 0, .int 0, .int 0]))], [(zq1, .inl (g.2.2.1, 80, .inl z0))]].flatten) := hD
  refine lv_aload_n hx hb dX3_init_17 rfl (lv_at hl 0 rfl) ?_
  refine lv_iconst (v := 0) hx hb dX3_init_18 (by decide) ?_
  refine va_put (D := g.1) (ci := 3) (v := .int 0) (ty := .int) (C := RX3) (T := TX3) (N := 11) hx hb htG in_wsX30 tyX3 tyX3_ok nmX3 hown hK.1 hP hD hS 0 rfl rfl 2 (by decide) (htG _ g1_184) (fun _ h9 => h9) rfl (by decide +kernel) rfl rfl (Nat.le_of_ble_eq_true rfl) dX3_init_19 (fun H locs hP hD hS => ?_)
  have hP : va_P g.1 vwCl ([[(h0, .inr (3, [.ref zq1, .int 0, .int 0, .int 0, .int 0, .int 0, .int 0, .int 0, .int 0, .int 0, .int 0]))], [(zq1, .inl (g.2.2.1, 80, .inl z0))]].flatten) H := hP
  have hD : va_D A ([[(h0, .inr (3, [.ref zq1, .int 0, .int 0, .int 0, .int 0, .int 0, .int 0, .int 0, .int 0, .int 0, .int 0]))], [(zq1, .inl (g.2.2.1, 80, .inl z0))]].flatten) := hD
  refine lv_aload_n hx hb dX3_init_22 rfl (lv_at hl 0 rfl) ?_
  refine lv_iconst (v := 0) hx hb dX3_init_23 (by decide) ?_
  refine va_put (D := g.1) (ci := 3) (v := .int 0) (ty := .boolean) (C := RX3) (T := TX3) (N := 11) hx hb htG in_wsX30 tyX3 tyX3_ok nmX3 hown hK.1 hP hD hS 0 rfl rfl 3 (by decide) (htG _ g1_185) (fun _ h9 => h9) rfl (by decide +kernel) rfl rfl (Nat.le_of_ble_eq_true rfl) dX3_init_24 (fun H locs hP hD hS => ?_)
  have hP : va_P g.1 vwCl ([[(h0, .inr (3, [.ref zq1, .int 0, .int 0, .int 0, .int 0, .int 0, .int 0, .int 0, .int 0, .int 0, .int 0]))], [(zq1, .inl (g.2.2.1, 80, .inl z0))]].flatten) H := hP
  have hD : va_D A ([[(h0, .inr (3, [.ref zq1, .int 0, .int 0, .int 0, .int 0, .int 0, .int 0, .int 0, .int 0, .int 0, .int 0]))], [(zq1, .inl (g.2.2.1, 80, .inl z0))]].flatten) := hD
  refine lv_aload_n hx hb dX3_init_27 rfl (lv_at hl 0 rfl) ?_
  refine lv_iconst (v := (-1)) hx hb dX3_init_28 (by decide) ?_
  refine va_put (D := g.1) (ci := 3) (v := .int (-1)) (ty := .int) (C := RX3) (T := TX3) (N := 11) hx hb htG in_wsX30 tyX3 tyX3_ok nmX3 hown hK.1 hP hD hS 0 rfl rfl 4 (by decide) (htG _ g1_186) (fun _ h9 => h9) rfl (by decide +kernel) rfl rfl (Nat.le_of_ble_eq_true rfl) dX3_init_29 (fun H locs hP hD hS => ?_)
  have hP : va_P g.1 vwCl ([[(h0, .inr (3, [.ref zq1, .int 0, .int 0, .int 0, .int (-1), .int 0, .int 0, .int 0, .int 0, .int 0, .int 0]))], [(zq1, .inl (g.2.2.1, 80, .inl z0))]].flatten) H := hP
  have hD : va_D A ([[(h0, .inr (3, [.ref zq1, .int 0, .int 0, .int 0, .int (-1), .int 0, .int 0, .int 0, .int 0, .int 0, .int 0]))], [(zq1, .inl (g.2.2.1, 80, .inl z0))]].flatten) := hD
  refine lv_aload_n hx hb dX3_init_32 rfl (lv_at hl 0 rfl) ?_
  refine lv_iconst (v := 0) hx hb dX3_init_33 (by decide) ?_
  refine va_put (D := g.1) (ci := 3) (v := .int 0) (ty := .int) (C := RX3) (T := TX3) (N := 11) hx hb htG in_wsX30 tyX3 tyX3_ok nmX3 hown hK.1 hP hD hS 0 rfl rfl 5 (by decide) (htG _ g1_188) (fun _ h9 => h9) rfl (by decide +kernel) rfl rfl (Nat.le_of_ble_eq_true rfl) dX3_init_34 (fun H locs hP hD hS => ?_)
  have hP : va_P g.1 vwCl ([[(h0, .inr (3, [.ref zq1, .int 0, .int 0, .int 0, .int (-1), .int 0, .int 0, .int 0, .int 0, .int 0, .int 0]))], [(zq1, .inl (g.2.2.1, 80, .inl z0))]].flatten) H := hP
  have hD : va_D A ([[(h0, .inr (3, [.ref zq1, .int 0, .int 0, .int 0, .int (-1), .int 0, .int 0, .int 0, .int 0, .int 0, .int 0]))], [(zq1, .inl (g.2.2.1, 80, .inl z0))]].flatten) := hD
  refine lv_aload_n hx hb dX3_init_37 rfl (lv_at hl 0 rfl) ?_
  refine lv_iconst (v := 0) hx hb dX3_init_38 (by decide) ?_
  refine va_put (D := g.1) (ci := 3) (v := .int 0) (ty := .int) (C := RX3) (T := TX3) (N := 11) hx hb htG in_wsX30 tyX3 tyX3_ok nmX3 hown hK.1 hP hD hS 0 rfl rfl 6 (by decide) (htG _ g1_190) (fun _ h9 => h9) rfl (by decide +kernel) rfl rfl (Nat.le_of_ble_eq_true rfl) dX3_init_39 (fun H locs hP hD hS => ?_)
  have hP : va_P g.1 vwCl ([[(h0, .inr (3, [.ref zq1, .int 0, .int 0, .int 0, .int (-1), .int 0, .int 0, .int 0, .int 0, .int 0, .int 0]))], [(zq1, .inl (g.2.2.1, 80, .inl z0))]].flatten) H := hP
  have hD : va_D A ([[(h0, .inr (3, [.ref zq1, .int 0, .int 0, .int 0, .int (-1), .int 0, .int 0, .int 0, .int 0, .int 0, .int 0]))], [(zq1, .inl (g.2.2.1, 80, .inl z0))]].flatten) := hD
  refine lv_aload_n hx hb dX3_init_42 rfl (lv_at hl 0 rfl) ?_
  refine lv_iconst (v := 0) hx hb dX3_init_43 (by decide) ?_
  refine va_put (D := g.1) (ci := 3) (v := .int 0) (ty := .int) (C := RX3) (T := TX3) (N := 11) hx hb htG in_wsX30 tyX3 tyX3_ok nmX3 hown hK.1 hP hD hS 0 rfl rfl 7 (by decide) (htG _ g1_192) (fun _ h9 => h9) rfl (by decide +kernel) rfl rfl (Nat.le_of_ble_eq_true rfl) dX3_init_44 (fun H locs hP hD hS => ?_)
  have hP : va_P g.1 vwCl ([[(h0, .inr (3, [.ref zq1, .int 0, .int 0, .int 0, .int (-1), .int 0, .int 0, .int 0, .int 0, .int 0, .int 0]))], [(zq1, .inl (g.2.2.1, 80, .inl z0))]].flatten) H := hP
  have hD : va_D A ([[(h0, .inr (3, [.ref zq1, .int 0, .int 0, .int 0, .int (-1), .int 0, .int 0, .int 0, .int 0, .int 0, .int 0]))], [(zq1, .inl (g.2.2.1, 80, .inl z0))]].flatten) := hD
  refine lv_aload_n hx hb dX3_init_47 rfl (lv_at hl 0 rfl) ?_
  refine lv_iconst (v := 0) hx hb dX3_init_48 (by decide) ?_
  refine va_put (D := g.1) (ci := 3) (v := .int 0) (ty := .int) (C := RX3) (T := TX3) (N := 11) hx hb htG in_wsX30 tyX3 tyX3_ok nmX3 hown hK.1 hP hD hS 0 rfl rfl 8 (by decide) (htG _ g1_194) (fun _ h9 => h9) rfl (by decide +kernel) rfl rfl (Nat.le_of_ble_eq_true rfl) dX3_init_49 (fun H locs hP hD hS => ?_)
  have hP : va_P g.1 vwCl ([[(h0, .inr (3, [.ref zq1, .int 0, .int 0, .int 0, .int (-1), .int 0, .int 0, .int 0, .int 0, .int 0, .int 0]))], [(zq1, .inl (g.2.2.1, 80, .inl z0))]].flatten) H := hP
  have hD : va_D A ([[(h0, .inr (3, [.ref zq1, .int 0, .int 0, .int 0, .int (-1), .int 0, .int 0, .int 0, .int 0, .int 0, .int 0]))], [(zq1, .inl (g.2.2.1, 80, .inl z0))]].flatten) := hD
  refine lv_aload_n hx hb dX3_init_52 rfl (lv_at hl 0 rfl) ?_
  refine lv_iconst (v := 0) hx hb dX3_init_53 (by decide) ?_
  refine va_put (D := g.1) (ci := 3) (v := .int 0) (ty := .int) (C := RX3) (T := TX3) (N := 11) hx hb htG in_wsX30 tyX3 tyX3_ok nmX3 hown hK.1 hP hD hS 0 rfl rfl 9 (by decide) (htG _ g1_196) (fun _ h9 => h9) rfl (by decide +kernel) rfl rfl (Nat.le_of_ble_eq_true rfl) dX3_init_54 (fun H locs hP hD hS => ?_)
  have hP : va_P g.1 vwCl ([[(h0, .inr (3, [.ref zq1, .int 0, .int 0, .int 0, .int (-1), .int 0, .int 0, .int 0, .int 0, .int 0, .int 0]))], [(zq1, .inl (g.2.2.1, 80, .inl z0))]].flatten) H := hP
  have hD : va_D A ([[(h0, .inr (3, [.ref zq1, .int 0, .int 0, .int 0, .int (-1), .int 0, .int 0, .int 0, .int 0, .int 0, .int 0]))], [(zq1, .inl (g.2.2.1, 80, .inl z0))]].flatten) := hD
  refine lv_aload_n hx hb dX3_init_57 rfl (lv_at hl 0 rfl) ?_
  refine lv_iconst (v := 0) hx hb dX3_init_58 (by decide) ?_
  refine va_put (D := g.1) (ci := 3) (v := .int 0) (ty := .int) (C := RX3) (T := TX3) (N := 11) hx hb htG in_wsX30 tyX3 tyX3_ok nmX3 hown hK.1 hP hD hS 0 rfl rfl 10 (by decide) (htG _ g1_198) (fun _ h9 => h9) rfl (by decide +kernel) rfl rfl (Nat.le_of_ble_eq_true rfl) dX3_init_59 (fun H locs hP hD hS => ?_)
  have hP : va_P g.1 vwCl ([[(h0, .inr (3, [.ref zq1, .int 0, .int 0, .int 0, .int (-1), .int 0, .int 0, .int 0, .int 0, .int 0, .int 0]))], [(zq1, .inl (g.2.2.1, 80, .inl z0))]].flatten) H := hP
  have hD : va_D A ([[(h0, .inr (3, [.ref zq1, .int 0, .int 0, .int 0, .int (-1), .int 0, .int 0, .int 0, .int 0, .int 0, .int 0]))], [(zq1, .inl (g.2.2.1, 80, .inl z0))]].flatten) := hD
  have hP : va_P g.1 vwCl (w_X3 g h0 zq1 PD0) H := hP
  have hD : va_D A (w_X3 g h0 zq1 PD0) := hD
  exact W.vret hx hb hr (fun t ht hW => ⟨⟨(fun k => [h0, zq1].getD k 0), rfl, trivial, atH ht hP, hD⟩, hS.F ht⟩) hS.2.2 dX3_init_62
