/-! Rows: what its methods do in one word each; Rows.at and Rows.copy by hand -/
def rat (f : AF) (n : Nat) (i : Int32) : Int32 := if i < 0 then 0 else if nI n ≤ i then 0 else f i.toNatClampNeg
def rput (f : AF) (n : Nat) (i v : Int32) : AF := if i < 0 then f else if nI n ≤ i then f else upd f i.toNatClampNeg v
def radd (f : AF) (n : Nat) (i v : Int32) : AF := if i < 0 then f else if nI n ≤ i then f else upd f i.toNatClampNeg (f i.toNatClampNeg + v)
theorem ib_of {i : Int32} {n : Nat} (hn : n < 2 ^ 31) (h1 : ¬ i < 0) (h2 : ¬ nI n ≤ i) : ib i n = true := by
  obtain ⟨j, hj, rfl⟩ := nI_of h1
  have h3 : j < n := by
    rcases Nat.lt_or_ge j n with q | q
    · exact q
    · exact absurd (nI_le q hj) h2
  simp only [ib, Bool.and_eq_true, decide_eq_true_eq]
  exact ⟨nI_pos' hj, by rw [nI_clamp hj]; exact h3⟩
theorem t_X4_put (f : AF) (n : Nat) (i v : Int32) (hn : n < 2 ^ 31) : fX4_put f n i v = some (rput f n i v) := by
  unfold fX4_put rput
  by_cases h1 : i < 0
  · rw [if_pos h1, if_pos h1]
  · by_cases h2 : nI n ≤ i
    · rw [if_neg h1, if_neg h1, if_pos h2, if_pos h2]
    · rw [if_neg h1, if_neg h1, if_neg h2, if_neg h2, if_pos (ib_of hn h1 h2)]
theorem t_X4_add (f : AF) (n : Nat) (i v : Int32) (hn : n < 2 ^ 31) : fX4_add f n i v = some (radd f n i v) := by
  unfold fX4_add radd
  by_cases h1 : i < 0
  · rw [if_pos h1, if_pos h1]
  · by_cases h2 : nI n ≤ i
    · rw [if_neg h1, if_neg h1, if_pos h2, if_pos h2]
    · rw [if_neg h1, if_neg h1, if_neg h2, if_neg h2, if_pos (ib_of hn h1 h2)]
/-- the first n numbers together; the first n numbers all v -/
def rsum (f : AF) : Nat → Int32
  | 0 => 0
  | n + 1 => rsum f n + f n
def rfill (f : AF) (n : Nat) (v : Int32) : AF := fun j => if j < n then v else f j
theorem ib_nI {k n : Nat} (hn : n < 2 ^ 31) (h : k < n) : ib (nI k) n = true := by
  simp only [ib, Bool.and_eq_true, decide_eq_true_eq]
  exact ⟨nI_pos' (by omega), by rw [nI_clamp (by omega)]; exact h⟩
theorem sumL (f : AF) (n : Nat) (hn : n < 2 ^ 31) : ∀ (d k fu : Nat) (a : Int32), k + d = n → d < fu → a = rsum f k → fX4_sum_L0 f n fu a (nI k) = some (rsum f n) := by
  intro d
  induction d with
  | zero =>
    intro k fu a hk hf ha
    obtain ⟨fu, rfl⟩ : ∃ q, fu = q + 1 := ⟨fu - 1, by omega⟩
    rw [fX4_sum_L0, if_pos (by rw [show k = n by omega]; exact Int32.le_refl _), ha, show k = n by omega]
  | succ d ih =>
    intro k fu a hk hf ha
    obtain ⟨fu, rfl⟩ : ∃ q, fu = q + 1 := ⟨fu - 1, by omega⟩
    rw [fX4_sum_L0, if_neg (nI_ge (by omega) hn), if_pos (ib_nI hn (by omega)), nI_clamp (by omega), nI_1]
    exact ih (k + 1) fu _ (by omega) (by omega) (by rw [ha]; rfl)
theorem t_X4_sum (f : AF) (n : Nat) (hn : n < 1000) : fX4_sum f n = some (rsum f n) := by
  unfold fX4_sum
  have h := sumL f n (by omega) n 0 1000 0 (by omega) (by omega) rfl
  rw [nI_0] at h
  rw [h]; rfl
theorem fillL (v : Int32) (n : Nat) (hn : n < 2 ^ 31) (f0 : AF) : ∀ (d k fu : Nat) (f : AF), k + d = n → d < fu → f = rfill f0 k v → fX4_fill_L0 n v fu (nI k) f = some (rfill f0 n v) := by
  intro d
  induction d with
  | zero =>
    intro k fu f hk hf ha
    obtain ⟨fu, rfl⟩ : ∃ q, fu = q + 1 := ⟨fu - 1, by omega⟩
    rw [fX4_fill_L0, if_pos (by rw [show k = n by omega]; exact Int32.le_refl _), ha, show k = n by omega]
  | succ d ih =>
    intro k fu f hk hf ha
    obtain ⟨fu, rfl⟩ : ∃ q, fu = q + 1 := ⟨fu - 1, by omega⟩
    rw [fX4_fill_L0, if_neg (nI_ge (by omega) hn), if_pos (ib_nI hn (by omega)), nI_clamp (by omega), nI_1]
    refine ih (k + 1) fu _ (by omega) (by omega) ?_
    funext j
    by_cases hj : j = k
    · subst hj
      simp [upd, rfill]
    · simp only [upd, rfill, ha, if_neg hj]
      by_cases h2 : j < k
      · rw [if_pos h2, if_pos (by omega)]
      · rw [if_neg h2, if_neg (by omega)]
theorem t_X4_fill (f : AF) (n : Nat) (v : Int32) (hn : n < 1000) : fX4_fill f n v = some (rfill f n v) := by
  unfold fX4_fill
  have h := fillL v n (by omega) f n 0 1000 f (by omega) (by omega) (by funext j; simp [rfill])
  rw [nI_0] at h
  rw [h]; rfl
/-- a row's content matters only within its length -/
theorem cell_congr {cA : ClassId} {n : Nat} {f h : AF} (e : ∀ j, j < n → f j = h j) : vp_cell cA (n, .inl f) = vp_cell cA (n, .inl h) := by
  rw [vp_cell_i, vp_cell_i]
  unfold arrV
  congr 1
  apply Array.ext
  · simp
  · intro i h1 h2
    simp only [Array.getElem_ofFn]
    rw [e i (by simpa using h1)]

theorem hs_X4_at : yX4_at.cls ≠ "java/lang/invoke/MethodHandle" ∧ yX4_at.cls ≠ "java/lang/invoke/VarHandle" ∧ (parseMethodDescriptor yX4_at.desc).map (fun d => d.parameters.length) = some 2 := by decide +kernel
abbrev rm_X4_at : Jvm.Room := { frames := 0, cells := 0, slots := 0, locals := 0 }
set_option maxHeartbeats 4000000 in
set_option maxRecDepth 100000 in
theorem kX4_at (l : Launch) (g : CX) (t0 : Nat) (f0 : AF) (n0 : Nat) (p1 : Int32) (hn : n0 < 2 ^ 31) : Met l yX4_at (wg yX4_at cX4_at 2 (some .int)) rm_X4_at (PT g [.ref t0, .int p1] t0 n0 f0) (vp_Si (fun v => v = rat f0 n0 p1)) 0 0 (fun _ => False) := by
  refine Met.ofW (cc := cX4_at) (maxL := 2) (ret := some .int) (by decide) rfl ?_
  intro p e s m args below meth c s₁ B hml hv
  obtain ⟨rfl, hT, hK⟩ := hv
  have hx := B.exec
  have hb := B.bytes
  have hr := B.returns
  have hlocks := B.notSynchronized
  have hS : va_S (fun _ => False) s.heap s.heap [] := va_S.rf
  have hl := lv_entry ([.ref t0, .int p1]) (n := 2) (Nat.le_of_ble_eq_true rfl)
  rw [lg_entry_eq]
  generalize (lg_sl ([.ref t0, .int p1]) ++ List.replicate (2 - (lg_sl ([.ref t0, .int p1])).length) Slot.unset).toArray = ls at hl ⊢
  have hl : lv_has ls 2 [(0, .ref t0), (1, .int p1)] := hl
  refine lv_aload_n hx hb dX4_at_0 rfl (lv_at hl 0 rfl) ?_
  refine lv_ifnull hx hb dX4_at_1 ?_
  refine lv_iload_n hx hb dX4_at_4 rfl (lv_at hl 1 rfl) ?_
  refine lv_if_lt (tgt := 20) hx hb dX4_at_5 (by decide) (fun c1 => ?_) (fun c1 => ?_)
  · refine lv_iconst (v := 0) hx hb dX4_at_20 (by decide) ?_
    exact W.iret (v := 0) hx hb hr (fun t ht hW => ⟨_, rfl, by rw [rat, if_pos c1], ht⟩) (fun _ h => nomatch h) dX4_at_21
  · refine lv_iload_n hx hb dX4_at_8 rfl (lv_at hl 1 rfl) ?_
    refine lv_aload_n hx hb dX4_at_9 rfl (lv_at hl 0 rfl) ?_
    refine va_tlen hx hb hT hS (v := nI n0) rfl dX4_at_10 ?_
    refine lv_icmp_ge (tgt := 20) hx hb dX4_at_11 (by decide) (fun c2 => ?_) (fun c2 => ?_)
    · refine lv_iconst (v := 0) hx hb dX4_at_20 (by decide) ?_
      exact W.iret (v := 0) hx hb hr (fun t ht hW => ⟨_, rfl, by rw [rat, if_neg c1, if_pos c2], ht⟩) (fun _ h => nomatch h) dX4_at_21
    · refine lv_aload_n hx hb dX4_at_14 rfl (lv_at hl 0 rfl) ?_
      refine lv_iload_n hx hb dX4_at_15 rfl (lv_at hl 1 rfl) ?_
      refine va_ti hx hb hT hS (ib_in (ib_of hn c1 c2)) rfl dX4_at_16 ?_
      refine lv_goto (tgt := 21) hx hb dX4_at_17 (by decide) ?_
      exact W.iret (v := f0 p1.toNatClampNeg) hx hb hr (fun t ht hW => ⟨_, rfl, by rw [rat, if_neg c1, if_neg c2], ht⟩) (fun _ h => nomatch h) dX4_at_21
theorem hs_X4_copy : yX4_copy.cls ≠ "java/lang/invoke/MethodHandle" ∧ yX4_copy.cls ≠ "java/lang/invoke/VarHandle" ∧ (parseMethodDescriptor yX4_copy.desc).map (fun d => d.parameters.length) = some 2 := by decide +kernel
abbrev rm_X4_copy : Jvm.Room := { frames := 1, cells := 0, slots := 0, locals := 40 }
set_option maxHeartbeats 4000000 in
set_option maxRecDepth 100000 in
theorem kX4_copy (l : Launch) (g : CX) (t0 t1 : Nat) (sz : Nat) (f0 f1 : AF) (n : Nat) (hn : n < 2 ^ 31) : Met l yX4_copy (wg yX4_copy cX4_copy 2 none) rm_X4_copy (PW g [.ref t0, .ref t1] sz ([(t0, .inl (g.2.1, n, .inl f0))] ++ [(t1, .inl (g.2.1, n, .inl f1))])) (va_Qv (fun u : AF => u = f0) (fun u t => va_P g.1 vwCl ([(t0, .inl (g.2.1, n, .inl f0))] ++ [(t1, .inl (g.2.1, n, .inl u))]) t.heap) (va_A ([(t0, .inl (g.2.1, n, .inl f0))] ++ [(t1, .inl (g.2.1, n, .inl f1))]) sz)) 0 0 (va_A ([(t0, .inl (g.2.1, n, .inl f0))] ++ [(t1, .inl (g.2.1, n, .inl f1))]) sz) := by
  refine Met.ofW (cc := cX4_copy) (maxL := 2) (ret := none) (by decide) rfl ?_
  intro p e s m args below meth c s₁ B hml hv
  obtain ⟨rfl, hsz, hP, hK, hD0, hL⟩ := hv
  have hx := B.exec
  have hb := B.bytes
  have hr := B.returns
  have htG := wg_G (atoms_spec (ws := wg yX4_copy cX4_copy 2 none) B.pre)
  have hown : s.vm.findClass RX4 = some m.cls := findClass_of_methodNamed B.named
  have hlocks := B.notSynchronized
  subst hsz
  have hD := hD0.self (sz := s.heap.size)
  generalize hAe : va_A ([(t0, .inl (g.2.1, n, .inl f0))] ++ [(t1, .inl (g.2.1, n, .inl f1))]) s.heap.size = A at hD hL ⊢
  have hS : va_S A s.heap s.heap [] := va_S.rf
  have hl := lv_entry ([.ref t0, .ref t1]) (n := 2) (Nat.le_of_ble_eq_true rfl)
  rw [lg_entry_eq]
  generalize (lg_sl ([.ref t0, .ref t1]) ++ List.replicate (2 - (lg_sl ([.ref t0, .ref t1])).length) Slot.unset).toArray = ls at hl ⊢
  have hl : lv_has ls 2 [(0, .ref t0), (1, .ref t1)] := hl
  refine lv_aload_n hx hb dX4_copy_0 rfl (lv_at hl 0 rfl) ?_
  refine lv_ifnull hx hb dX4_copy_1 ?_
  refine lv_aload_n hx hb dX4_copy_4 rfl (lv_at hl 1 rfl) ?_
  refine lv_ifnull hx hb dX4_copy_5 ?_
  refine lv_aload_n hx hb dX4_copy_8 rfl (lv_at hl 0 rfl) ?_
  refine lv_iconst (v := 0) hx hb dX4_copy_9 (by decide) ?_
  refine lv_aload_n hx hb dX4_copy_10 rfl (lv_at hl 1 rfl) ?_
  refine lv_iconst (v := 0) hx hb dX4_copy_11 (by decide) ?_
  refine lv_aload_n hx hb dX4_copy_12 rfl (lv_at hl 0 rfl) ?_
  refine va_alen hx hb hK.1 hP 0 0 rfl rfl (v := (nI n)) rfl dX4_copy_13 ?_
  refine lv_aload_n hx hb dX4_copy_14 rfl (lv_at hl 1 rfl) ?_
  refine va_alen hx hb hK.1 hP 1 0 rfl rfl (v := (nI n)) rfl dX4_copy_15 ?_
  refine va_mmin hx hb (hml.trans hl.1.symm) hown (htG _ g2_20) (htG _ g2_21) (htG _ g1_10) (htG _ g2_22) (Nat.le_of_ble_eq_true rfl) (Nat.le_of_ble_eq_true rfl) (Nat.zero_le _) (Nat.zero_le _) dX4_copy_16 ?_
  refine tope (y := nI n) (by split <;> rfl) ?_
  have hc : (nI n).toNatClampNeg = n := nI_clamp hn
  refine va_copyi hx hb (hml.trans hl.1.symm) hown (htG _ g2_23) (htG _ g2_25) (htG _ g2_24) (htG _ g1_11) hK.1 hP hD hS 0 1 0 0 rfl rfl rfl rfl rfl (by decide) (by decide) (nI_pos hn) (by rw [hc]; exact Nat.le_of_eq (Nat.zero_add _)) (by rw [hc]; exact Nat.le_of_eq (Nat.zero_add _)) (fun _ _ => rfl) (Nat.le_of_ble_eq_true rfl) (by decide +kernel) dX4_copy_19 (fun H locs hP hD hS => ?_)
  have hP2 : va_P g.1 vwCl ([(t0, .inl (g.2.1, n, .inl f0))] ++ [(t1, .inl (g.2.1, n, .inl f0))]) H := by
    intro k q hk
    match k, hk with
    | 0, hk => exact hP 0 q hk
    | 1, hk =>
      cases hk
      refine Eq.trans (hP 1 _ rfl) (congrArg some (cell_congr (fun j hj => ?_)))
      rw [hc]
      have := pk_cpy_in (f := f0) (g := f1) (sp := 0) (dp := 0) (n := n) (j := j) (Nat.zero_le _) (by omega)
      rw [Nat.zero_add, Nat.sub_zero] at this
      exact this
    | k + 2, hk => simp at hk
  exact W.vret hx hb hr (fun t ht hW => ⟨⟨_, rfl, rfl, atH ht hP2⟩, hS.F ht⟩) hS.2.2 dX4_copy_22
