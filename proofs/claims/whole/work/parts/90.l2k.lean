/-! the award on both sides -/
theorem mm_aw {M : MD} {B K : Nat} (hB : B + 835 ≤ 5845) (hK : K < 48) {g : Nat} (hg : g < 6) (h : bst (brn M.1 B K) (fun _ => true) 6 = some g) : fX9_awards M (nI B) (nI K) = some (nI g, (awS M.1 B K g (hif (brn M.1 B K) (fun f => !decide (nI f = nI g)) 6), M.2)) := by
  unfold fX9_awards awS
  rw [mm_best M hB hK, bst_true (by decide), h, show enc (-1) (some g) = nI g from rfl, Option.bind_some, if_neg (nI_pos (by omega)), mm_best M hB hK]
  cases hr : bst (brn M.1 B K) (fun f => !decide (nI f = nI g)) 6 with
  | none =>
    rw [bst_none hr, show enc (-1) none = -1 from rfl, Option.bind_some, if_neg (show ¬ (0 : Int32) ≤ -1 by decide)]
    simp only [bnd]
    rw [show ((nI B + 51) + nI K) = nI (B + 51 + K) from ix2 B 51 _, show (((nI B + 243) + (6 * nI K)) + nI g) = nI (B + 243 + 6 * K + g) from ix6 B 243 _ _, show ((nI B + 99) + nI K) = nI (B + 99 + K) from ix2 B 99 _, show ((nI B + 147) + nI K) = nI (B + 147 + K) from ix2 B 147 _, show ((nI B + 2) + nI g) = nI (B + 2 + g) from ix2 B 2 _, show ((nI B + 14) + nI g) = nI (B + 14 + g) from ix2 B 14 _, show (nI B + 30) = nI (B + 30) from nI_add B 30]
    rw [if_pos (ib_nI (k := B + 51 + K) (by omega) (by omega)), if_pos (ib_nI (k := B + 243 + 6 * K + g) (by omega) (by omega)), if_pos (ib_nI (k := B + 99 + K) (by omega) (by omega)), if_pos (ib_nI (k := B + 147 + K) (by omega) (by omega)), if_pos (ib_nI (k := B + 2 + g) (by omega) (by omega)), if_pos (ib_nI (k := B + 14 + g) (by omega) (by omega)), if_pos (ib_nI (k := B + 30) (by omega) (by omega))]
    rw [nI_clamp (n := B + 51 + K) (by omega), nI_clamp (n := B + 243 + 6 * K + g) (by omega), nI_clamp (n := B + 99 + K) (by omega), nI_clamp (n := B + 147 + K) (by omega), nI_clamp (n := B + 2 + g) (by omega), nI_clamp (n := B + 14 + g) (by omega), nI_clamp (n := B + 30) (by omega)]
    repeat rw [upd_n (by omega)]
    rw [mm_clears _ hB hK]
    rfl
  | some g2 =>
    obtain ⟨q1, -, q3, -⟩ := bst_some hr
    rw [q3, show enc (-1) (some g2) = nI g2 from rfl, Option.bind_some, if_pos (nI_pos' (by omega)), mm_borne M hB hK q1, Option.bind_some]
    simp only [bnd]
    rw [show ((nI B + 51) + nI K) = nI (B + 51 + K) from ix2 B 51 _, show (((nI B + 243) + (6 * nI K)) + nI g) = nI (B + 243 + 6 * K + g) from ix6 B 243 _ _, show ((nI B + 99) + nI K) = nI (B + 99 + K) from ix2 B 99 _, show ((nI B + 147) + nI K) = nI (B + 147 + K) from ix2 B 147 _, show ((nI B + 2) + nI g) = nI (B + 2 + g) from ix2 B 2 _, show ((nI B + 14) + nI g) = nI (B + 14 + g) from ix2 B 14 _, show (nI B + 30) = nI (B + 30) from nI_add B 30]
    rw [if_pos (ib_nI (k := B + 51 + K) (by omega) (by omega)), if_pos (ib_nI (k := B + 243 + 6 * K + g) (by omega) (by omega)), if_pos (ib_nI (k := B + 99 + K) (by omega) (by omega)), if_pos (ib_nI (k := B + 147 + K) (by omega) (by omega)), if_pos (ib_nI (k := B + 2 + g) (by omega) (by omega)), if_pos (ib_nI (k := B + 14 + g) (by omega) (by omega)), if_pos (ib_nI (k := B + 30) (by omega) (by omega))]
    rw [nI_clamp (n := B + 51 + K) (by omega), nI_clamp (n := B + 243 + 6 * K + g) (by omega), nI_clamp (n := B + 99 + K) (by omega), nI_clamp (n := B + 147 + K) (by omega), nI_clamp (n := B + 2 + g) (by omega), nI_clamp (n := B + 14 + g) (by omega), nI_clamp (n := B + 30) (by omega)]
    repeat rw [upd_n (by omega)]
    rw [mm_clears _ hB hK]
    rfl
theorem mm_aw0 {M : MD} {B K : Nat} (hB : B + 835 ≤ 5845) (hK : K < 48) (h : bst (brn M.1 B K) (fun _ => true) 6 = none) : fX9_awards M (nI B) (nI K) = some (-1, M) := by
  unfold fX9_awards
  rw [mm_best M hB hK, bst_true (by decide), h]
  rfl
theorem cc_aw0 {c N D : Nat} {Pd : Nat → Prop} {blw : AF} {x : SD} {S : AF} {B : Nat} (h : RM c N D Pd blw x S B) {C H : Nat} (hC : C < 3) (hH : H < 16) (hb : bst (brn S B (C * 16 + H)) (fun _ => true) 6 = none) : fX6_awardOpen x (nI C) (nI H) = some (-5, x) := by
  obtain ⟨hd, hW, hb2, hcn, hs, hf, ht⟩ := h
  have hK : C * 16 + H < 48 := by omega
  have e := zq_win hb2 hW hK
  rw [show (C * 16 + H) / 16 = C by omega, show (C * 16 + H) % 16 = H by omega, hb] at e
  unfold fX6_awardOpen fX6_heaviestLift
  rw [slot_nI, rat_nI hH (by omega), e]
  rfl
theorem cc_aw {c N D : Nat} {Pd : Nat → Prop} {blw : AF} {x : SD} {S : AF} {B : Nat} (h : RM c N D Pd blw x S B) {C H g : Nat} (hC : C < 3) (hH : H < 16) (hg : g < 6) (hb : bst (brn S B (C * 16 + H)) (fun _ => true) 6 = some g) : fX6_awardOpen x (nI C) (nI H) = some (nI g, awX x (C * 16 + H) g (hif (brn S B (C * 16 + H)) (fun f => !decide (nI f = nI g)) 6)) := by
  obtain ⟨hd, hW, hb2, hcn, hs, hf, ht⟩ := h
  have hK : C * 16 + H < 48 := by omega
  have e := zq_win hb2 hW hK
  have e2 := zq_hi hb2 hW hK (nI g)
  rw [show (C * 16 + H) / 16 = C by omega, show (C * 16 + H) % 16 = H by omega] at e e2
  rw [hb, show enc (-5) (some g) = nI g from rfl] at e
  unfold fX6_awardOpen fX6_heaviestLift awX
  rw [slot_nI, rat_nI hH (by omega), e, Option.bind_some, if_neg (n5_nI (by omega)), e2, Option.bind_some]
  simp only [bnd]
  unfold fX5_give fX1_payYard fX0_weight
  rw [rput_nI hK (by omega), cell_nI, rat_nI (by omega) (by omega), rput_nI hK (by omega), rput_nI hK (by omega), radd_nI hg (by omega), radd_nI hg (by omega), cc_removeAll _ hK, Int32.sub_eq_add_neg]
  rfl
