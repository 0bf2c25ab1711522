/-! what comes together again; a remainder by a number that may be 0; the script -/
theorem dvk {α : Type} {d : Int32} {K : Option α} {r : α} (h : (if d = 0 then none else K) = some r) : ¬ d = 0 ∧ K = some r := by
  by_cases hb : d = 0
  · rw [if_pos hb] at h
    cases h
  · rw [if_neg hb] at h
    exact ⟨hb, h⟩
theorem zbk {v r : Int32} (h : (if v = 0 ∨ v = 1 then some v else none) = some r) : (v = 0 ∨ v = 1) ∧ v = r := by
  by_cases hb : v = 0 ∨ v = 1
  · rw [if_pos hb] at h
    exact ⟨hb, Option.some.inj h⟩
  · rw [if_neg hb] at h
    cases h
theorem va_cutP {D : va_G} {cl : List vw_C} {ws wc wr : va_W} {H : Heap} (hP : va_P D cl ws H) (p : ws.Perm (wc ++ wr)) : va_P D cl wc H := by
  rw [va_P_mem] at *
  exact fun q hq => hP q (p.mem_iff.mpr (List.mem_append_left _ hq))
section JOIN
variable {p : Program} {l : Launch} {e : Env} {R : Room} {s : State} {m : MethodId} {args : Array Value} {below : List Frame} {meth : Method} {c : Code} {H0 : Heap} {locs0 : List Loc} {cells slots : Nat} {Q : State → Prop}
theorem jnR {n J : Nat} {lv : List (Nat × Value)} {stk : List Value} {g : JFrame} (h1 : ∀ ls : Array Slot, lv_has ls n lv → W p l e R s m args below meth c H0 locs0 cells slots Q (F0 m J ls stk))
    (h2 : (∀ ls : Array Slot, lv_has ls n lv → W p l e R s m args below meth c H0 locs0 cells slots Q (F0 m J ls stk)) → W p l e R s m args below meth c H0 locs0 cells slots Q g) : W p l e R s m args below meth c H0 locs0 cells slots Q g := h2 h1
theorem jnW {D : va_G} {cl : List vw_C} {A : Nat → Prop} {ws : va_W} {n J : Nat} {lv : List (Nat × Value)} {stk : List Value} {g : JFrame} (h1 : ∀ (H : Heap) (locs : List Loc) (ls : Array Slot), va_P D cl ws H → va_D A ws → va_S A s.heap H locs → lv_has ls n lv → W p l e R s m args below meth c H locs cells slots Q (F0 m J ls stk))
    (h2 : (∀ (H : Heap) (locs : List Loc) (ls : Array Slot), va_P D cl ws H → va_D A ws → va_S A s.heap H locs → lv_has ls n lv → W p l e R s m args below meth c H locs cells slots Q (F0 m J ls stk)) → W p l e R s m args below meth c H0 locs0 cells slots Q g) : W p l e R s m args below meth c H0 locs0 cells slots Q g := h2 h1
end JOIN
/-- the script, at a call that reads it -/
def PX (g : CX) (av : List Value) (b L : Nat) (xs : Nat → Int32) : Array Value → State → Prop := va_Pc av (fun U => va_X b L xs U U.heap ∧ b < U.heap.size ∧ KX g U)
theorem PX_blind {g : CX} {av : List Value} {b L : Nat} {xs : Nat → Int32} : FrameBlind (PX g av b L xs) := fun _ _ _ _ h => ⟨h.1, h.2.1.moved (Vm.Alike.refl _), h.2.2.1, h.2.2.2.calling⟩
theorem PX_S {g : CX} {s : State} {H : Heap} {locs : List Loc} {A : Nat → Prop} {b L : Nat} {xs : Nat → Int32} {As : List Value} (hK : KX g s) (hX : va_X b L xs s s.heap) (hbl : b < s.heap.size) (hbA : ¬ A b) (hS : va_S A s.heap H locs) : PreS s H (PX g As b L xs) As :=
  ⟨PX_blind, fun U hU hW => ⟨rfl, by rw [hU]; exact (hX.kept (hS.2.1 b hbl hbA)).moved hW.alike, by rw [hU]; exact Nat.lt_of_lt_of_le hbl hS.1, hK.warm hW⟩⟩
def fL_cell (xs : Nat → Int32) (L : Nat) (p1 : Int32) : Option Int32 := if nI L ≤ p1 then some (((42443 * (p1 - p1 / 4096 * 4096)) + 229) &&& 2147483647) else (if ib p1 L = true then some ((xs p1.toNatClampNeg) &&& 2147483647) else none)
abbrev rm_L_cell : Jvm.Room := { frames := 0, cells := 0, slots := 0, locals := 0 }
theorem hs_L_cell : yL_cell.cls ≠ "java/lang/invoke/MethodHandle" ∧ yL_cell.cls ≠ "java/lang/invoke/VarHandle" ∧ (parseMethodDescriptor yL_cell.desc).map (fun d => d.parameters.length) = some 2 := by decide +kernel
set_option maxHeartbeats 4000000 in
set_option maxRecDepth 100000 in
theorem kL_cell (l : Launch) (g : CX) (b L : Nat) (xs : Nat → Int32) (p1 : Int32) (res : Int32) (hm0 : fL_cell xs L p1 = some res) : Met l yL_cell (wg yL_cell method_2_code 2 (some .int)) rm_L_cell (PX g [.ref b, .int p1] b L xs) (vp_Si (fun v => v = res)) 0 0 (fun _ => False) := by
  refine Met.ofW (cc := method_2_code) (maxL := 2) (ret := (some .int)) (by decide) rfl ?_
  intro p e s m args below meth c s₁ B hml hv
  obtain ⟨rfl, hX, hbl, hK⟩ := hv
  have hx := B.exec
  have hb := B.bytes
  have hr := B.returns
  have htG := wg_G (atoms_spec (ws := wg yL_cell method_2_code 2 (some .int)) B.pre)
  have hown : s.vm.findClass RL = some m.cls := findClass_of_methodNamed B.named
  have hlocks := B.notSynchronized
  have hS : va_S (fun _ => False) s.heap s.heap [] := va_S.rf
  have hbA : ¬ (fun _ : Nat => False) b := fun h => h
  have hl := lv_entry ([.ref b, .int p1]) (n := 2) (Nat.le_of_ble_eq_true rfl)
  rw [lg_entry_eq]
  generalize (lg_sl ([.ref b, .int p1]) ++ List.replicate (2 - (lg_sl ([.ref b, .int p1])).length) Slot.unset).toArray = ls at hl ⊢
  have hl : lv_has ls 2 [(0, .ref b), (1, .int p1)] := hl
  have hm := hm0
  unfold fL_cell at hm
  refine lv_iload_n hx hb dL_cell_0 rfl (lv_at hl 1 rfl) ?_
  refine lv_aload_n hx hb dL_cell_1 rfl (lv_at hl 0 rfl) ?_
  refine va_slen hx hb hX hbl hbA hS dL_cell_2 ?_
  refine lv_icmp_ge (tgt := 12) hx hb dL_cell_3 (by decide) (fun c1 => ?_) (fun c1 => ?_)
  · replace hm := (if_pos c1).symm.trans hm
    refine lv_ldc hx hb hown (htG _ g3_163) dL_cell_12 ?_
    refine lv_iload_n hx hb dL_cell_14 rfl (lv_at hl 1 rfl) ?_
    refine lv_sipush (v := 4096) hx hb dL_cell_15 (by decide +kernel) ?_
    refine lv_irem hx hb dL_cell_18 (by decide) ?_
    refine lv_imul hx hb dL_cell_19 ?_
    refine lv_sipush (v := 229) hx hb dL_cell_20 (by decide +kernel) ?_
    refine lv_iadd hx hb dL_cell_23 ?_
    refine lv_ldc hx hb hown (htG _ g3_164) dL_cell_24 ?_
    refine lv_iand hx hb dL_cell_26 ?_
    exact W.iret hx hb hr (fun t ht hW => ⟨_, rfl, Option.some.inj hm, ht⟩) (fun _ h => nomatch h) dL_cell_27
  · replace hm := (if_neg c1).symm.trans hm
    obtain ⟨hin, hm⟩ := ibk hm
    refine lv_aload_n hx hb dL_cell_6 rfl (lv_at hl 0 rfl) ?_
    refine lv_iload_n hx hb dL_cell_7 rfl (lv_at hl 1 rfl) ?_
    refine va_sld hx hb hX hbl hbA hS hin dL_cell_8 ?_
    refine lv_goto (tgt := 24) hx hb dL_cell_9 (by decide) ?_
    refine lv_ldc hx hb hown (htG _ g3_164) dL_cell_24 ?_
    refine lv_iand hx hb dL_cell_26 ?_
    exact W.iret hx hb hr (fun t ht hW => ⟨_, rfl, Option.some.inj hm, ht⟩) (fun _ h => nomatch h) dL_cell_27
