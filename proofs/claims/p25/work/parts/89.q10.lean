/-! THE LAW answers true -/
theorem SD0_ok : CR 100 0 0 SD0 := by
  refine ⟨⟨rfl, rfl, by omega⟩, fun j hj => ⟨20, by omega, ?_⟩, fun f k hf hk => ⟨0, 0, by omega, rfl, rfl, fun q => absurd q (by omega), fun _ => rfl⟩, ?_, fun k hk => ⟨⟨0, by omega, rfl⟩, .inl ⟨?_, rfl, rfl⟩, fun q => absurd q (Nat.not_lt_zero _)⟩, fun f hf => ⟨100, by omega, ?_, ?_⟩, by decide, by decide, by decide, by decide⟩
  · show rfill z0 16 20 j = nI 20
    unfold rfill
    rw [if_pos hj]
    rfl
  · show cntB z0 ≤ 60
    rw [show cntB z0 = 0 from nsum_eq0 (fun f hf => nsum_eq0 (fun k hk => rfl))]
    omega
  · show rfill z0 48 (-5) k = -5
    unfold rfill
    rw [if_pos hk]
  · show rfill z0 6 100 f = nI 100
    unfold rfill
    rw [if_pos hf]
    rfl
  · show ofB z0 f ≤ 100
    rw [show ofB z0 f = 0 from nsum_eq0 (fun k hk => rfl)]
    omega
theorem check0 : ∃ w' : PD, fX3_check PD0 = some (-100, w') := by
  have e1 : fX3_readNext PD0 = some (z0, 0, 0, 1, -1, 0, 0, 0, 0, 0, 0) := rfl
  have e2 : fX3_check_L0 1000 0 0 PD0 = some (0 + 1, (z0, 0, 0, 1, -1, 0, 0, 0, 0, 0, 0)) := by
    rw [show fX3_check_L0 1000 0 0 PD0 = ((fX3_readNext PD0).bind (fun q => fX3_check_L0 999 (0 + 1) (0 + 1) q)) from (if_neg (show ¬ (80 : Int32) < 0 by decide)).trans ((if_pos rfl).trans (if_pos rfl)), e1, Option.bind_some]
    exact (if_neg (show ¬ (80 : Int32) < 0 + 1 by decide)).trans (if_neg (show ¬ (1 : Int32) = 0 by decide))
  refine ⟨(z0, 0, 0, 1, -1, 0, 0, 0, 0, 0, 0), ?_⟩
  unfold fX3_check
  rw [show fX3_rewind PD0 = PD0 from rfl]
  simp only [bnd]
  rw [e2, Option.bind_some]
  exact if_neg (show ¬ (1 : Int32) = 0 by decide)
section LAWEND
variable {y : Int32 × Int32 × Int32} {x xB : SD} {u : HDT} {w : PD}
theorem er_expect1 : fX8_expect y x xB u 16 100 = some (-1, x, x, u) := by
  unfold fX8_expect
  rw [show fX6_setWind x 16 100 = (-1, x) from if_pos (by decide)]
  rfl
theorem er_expect2 : fX8_expect y x xB u 0 100 = some (-2, x, x, u) := by
  unfold fX8_expect
  rw [show fX6_setWind x 0 100 = (-2, x) from (if_neg (by decide)).trans (if_pos (by decide))]
  rfl
theorem er_fund1 : fX8_fund y x xB u 6 0 = some (-1, x, x, u) := by
  unfold fX8_fund
  rw [show fX6_addCoins x 6 0 = (-1, x) from if_pos (by decide)]
  rfl
theorem er_fund2 : fX8_fund y x xB u 0 0 = some (-2, x, x, u) := by
  unfold fX8_fund
  rw [show fX6_addCoins x 0 0 = (-2, x) from (if_neg (by decide)).trans (if_pos (by decide))]
  rfl
theorem er_bid1 : fX8_bid y x xB u 0 3 0 1 1 = some (-1, x, x, u) := by
  unfold fX8_bid fX6_placeBid
  rw [show fX6_bidError x 0 3 0 1 1 = some (-1) from (if_neg (by decide)).trans (if_pos (by decide))]
  rfl
theorem er_bid2 : fX8_bid y x xB u 0 0 0 21 1 = some (-2, x, x, u) := by
  unfold fX8_bid fX6_placeBid
  rw [show fX6_bidError x 0 0 0 21 1 = some (-2) from (if_neg (by decide)).trans ((if_neg (by decide)).trans (if_pos (by decide)))]
  rfl
theorem er_rm : fX8_withdraw y x xB u 0 0 16 = some (-1, x, x, u) := by
  unfold fX8_withdraw
  rw [show fX6_removeBid x 0 0 16 = (-1, x) from (if_neg (by decide)).trans (if_pos (by decide))]
  rfl
theorem er_award : fX8_award y x xB u 3 0 = some (-1, x, x, u) := by
  unfold fX8_award
  rw [show fX6_awardEarly x 3 0 = some (-1, x) from if_pos (by decide)]
  rfl
theorem er_done1 : fX8_done y x xB u 100 = some (-2, x, x, u) := by
  unfold fX8_done
  rw [show fX6_endHour x 100 = some (-2, x) from if_pos (by decide)]
  rfl
theorem er_done2 {c D : Nat} (h : CR c 16 D x) : fX8_done y x xB u 0 = some (-4, x, x, u) := by
  unfold fX8_done
  rw [show fX6_endHour x 0 = some (-4, x) from (if_neg (by decide)).trans (if_neg (by rw [h.1.2.1]; decide))]
  rfl
theorem er_firm1 : fX8_firm y x 6 0 = some (-1) := if_pos (by decide)
theorem er_firm2 : fX8_firm y x 0 7 = some (-2) := rfl
theorem er_slot : fX8_slot y x 0 0 7 = some (-2) := rfl
theorem er_heav : fX8_heaviest y x 0 16 = -1 := if_pos (by decide)
theorem er_wind : fX8_wind y x (-1) = -1 := if_pos (by decide)
theorem er_cheap1 : fX8_cheapest y x 3 1 = some (-1) := if_pos (by decide)
theorem er_cheap2 : fX8_cheapest y x 1 41 = some (-2) := (if_neg (by decide)).trans (if_pos (by decide))
theorem er_count : fX8_count y x u w 16 = some (-2) := rfl
end LAWEND
/-! the first calls, on a new object -/
section LAW0
variable {u : HDT} {w : PD}
theorem b0_undo {a b c d : (Nat → Nat) × SD} : fX8_undo (0, -5, -5) SD0 (0, a, b, c, d) = some (-5, SD0, (0, a, b, c, d)) := rfl
theorem b0_rest : fX8_restore (0, -5, -5) SD0 SD0 u SD0 = some (-5, SD0, SD0, u) := if_pos rfl
theorem b0_perf {w' : PD} (h : fX3_check PD0 = some (-100, w')) : fX8_perform (0, -5, -5) SD0 SD0 u PD0 = some (-100, (0, -5, -5), SD0, SD0, u, w') := by
  unfold fX8_perform
  rw [h, Option.bind_some]
  exact if_neg (show ¬ (0 : Int32) ≤ -100 by decide)
theorem b0_day : fX8_nextDay (0, -5, -5) SD0 SD0 u = some (-4, SD0, SD0, u) := by
  unfold fX8_nextDay
  rw [show fX6_beginDay SD0 = (-4, SD0) from if_neg (show ¬ (16 : Int32) ≤ 0 by decide)]
  rfl
theorem bst_0 {b : Nat → Int32} {e : Nat → Bool} : ∀ {n : Nat}, (∀ f, f < n → b f = 0) → bst b e n = none
  | 0, _ => rfl
  | n + 1, h => by
    unfold bst
    rw [bst_0 (n := n) (fun f hf => h f (by omega)), h n (by omega), hif_0 (n := n) (fun f hf => h f (by omega))]
    split
    · rw [if_pos (Int32.le_refl _)]
    · rfl
theorem b0_award : fX8_award (0, -5, -5) SD0 SD0 u 0 0 = some (-5, SD0, SD0, u) := by
  have e1 : fX6_awardOpen SD0 0 0 = some (-5, SD0) := cr_aw0 (x := SD0) (C := 0) (H := 0) (by omega) (by omega) (bst_0 (fun f hf => ite_self _))
  have e2 : fX6_awardEarly SD0 0 0 = some (-5, SD0) := by
    unfold fX6_awardEarly
    rw [if_neg (show ¬ fX8_isSlot 0 0 = 0 by decide), if_neg (show ¬ fX6_isOpen SD0 0 0 = 0 by decide), e1]
    rfl
  unfold fX8_award
  rw [e2]
  rfl
theorem b0_trade : fX8_trade (0, -5, -5) SD0 SD0 u 0 0 0 1 0 = some (-1, SD0, SD0, u) := by
  unfold fX8_trade
  rw [show fX6_sell SD0 0 0 0 1 0 = some (-1, SD0) from (if_neg (by decide)).trans ((if_neg (by decide)).trans (if_pos (by decide)))]
  rfl
theorem b0_c11 {y : Int32 × Int32 × Int32} : fX8_count y SD0 u w 11 = some 600 := rfl
theorem b0_c8 {y : Int32 × Int32 × Int32} : fX8_count y SD0 u w 8 = some 0 := rfl
end LAW0
theorem law_true (xs : Nat → Int32) {L : Nat} (hL : L ≤ 260) (A0 A1 A2 A3 : Nat → Nat) : fL_law xs L (0, -5, -5) SD0 SD0 (HY0 A0 A1 A2 A3) SD0 PD0 = some 1 := by
  obtain ⟨w', hw⟩ := check0
  obtain ⟨x1, xB1, u1, e1, N, D, hD, h1, hu1⟩ := law0 xs hL (0, -5, -5) w' 28 0 1000 SD0 SD0 (HY0 A0 A1 A2 A3) (by omega) (by omega) ⟨0, 0, by omega, SD0_ok, 0, by omega, rfl⟩
  have h16 := h1.1.2.2
  obtain ⟨x2, xB2, u2, e2, hJ2⟩ := law1 xs hL (0, -5, -5) w' h16 (D := D) 4 0 1000 x1 xB1 u1 (by omega) (by omega) ⟨hD, h1, hu1⟩
  obtain ⟨x3, xB3, u3, e3, hJ3⟩ := law2 (0, -5, -5) w' (N := N) (D := D) (M := 16 - N) (by omega) (16 - N) 0 1000 x2 xB2 u2 (by omega) (by omega) hJ2
  obtain ⟨hD3, h3, hu3⟩ := hJ3
  obtain ⟨x4, e5, h4, n4, w4⟩ := cr_day h3 (by omega)
  obtain ⟨u4, r1, -, r2⟩ := rec_yes (y := ((0, -5, -5) : Int32 × Int32 × Int32)) (x := x3) (r := nI (D + 1)) (nI_pos' (by omega)) hu3
  obtain ⟨u5, ⟨k5, hk5, hu5⟩, e7⟩ := r2 x4
  have e6 : fX8_nextDay (0, -5, -5) x3 x3 u3 = some (nI (D + 1), x4, x3, u4) := by
    unfold fX8_nextDay
    rw [e5]
    simp only [bnd]
    rw [r1]
    rfl
  have e8 : fX8_undo (0, -5, -5) x4 u4 = some (u5.1, x3, u5) := by
    unfold fX8_undo
    rw [e7, Option.bind_some]
    exact if_neg (show ¬ (1 : Int32) = 0 by decide)
  have z1 : fX8_count (0, -5, -5) x1 u1 w' 1 = some (nI N) := by rw [rd_c1, h1.1.2.1]
  have z2 : fX8_count (0, -5, -5) x2 u2 w' 0 = some (nI D) := by rw [rd_c0, hJ2.2.1.1.1]
  have z3 : fX8_count (0, -5, -5) x2 u2 w' 1 = some (nI N) := by rw [rd_c1, hJ2.2.1.1.2.1]
  have z4 : (16 : Int32) - nI N = nI (16 - N) := pk_sub (a := 16) h16
  have hh : ∀ u : HDT, fL_hangs (0, -5, -5) x3 u w' = some 1 := fun u => hangs_ok h3 (by omega)
  have z5 : fX8_count (0, -5, -5) x3 u3 w' 2 = some 0 := by rw [rd_c2, cnt_0 h3]; rfl
  have z6 : fX8_count (0, -5, -5) x4 u4 w' 1 = some 0 := by rw [rd_c1, n4]
  have z7 : fX8_slot (0, -5, -5) x4 2 15 6 = some (-5) := (rd_s6 (C := 2) (H := 15) h4.1.2.1 h4.1.2.2 (by omega) (by omega)).trans (congrArg some (if_pos (by omega)))
  have z8 : fX8_wind (0, -5, -5) x4 15 = 20 := (rd_wind (H := 15) h4.1.2.1 h4.1.2.2 (by omega)).trans ((if_pos (by omega)).trans w4)
  have z9 : fX8_count (0, -5, -5) x3 u5 w' 0 = some (nI D) := by rw [rd_c0, h3.1.1]
  have z10 : ¬ u5.1 < 0 := by rw [hu5]; exact nI_pos (by omega)
  unfold fL_law
  simp only [bnd]
  refine bz' b0_undo (bz' (v := (1, (0, -5, -5), SD0, SD0, HY0 A0 A1 A2 A3, w')) ?_ (bz' e1 (bz' z1 (bz' e2 (bz' z2 (bz' z3 ?_))))))
  · exact (if_pos rfl).trans (bz' b0_rest ((if_pos rfl).trans ((if_pos rfl).trans (bz' (b0_perf hw) ((if_pos rfl).trans (bz' b0_day ((if_pos rfl).trans (bz' b0_award ((if_pos rfl).trans (bz' b0_trade ((if_pos rfl).trans (bz' b0_c11 ((if_pos rfl).trans (bz' b0_c8 (if_pos rfl)))))))))))))))
  · rw [z4]
    refine bz' e3 (bz' (v := (1, (0, -5, -5), x3, x3, u5, w')) ?_ (bz' (v := (1, (0, -5, -5), x3, x3, u5, w')) ?_ rfl))
    · refine (if_neg o10).trans (bz' (hh _) ((if_neg o10).trans (bz' (er_done2 h3) ((if_pos rfl).trans (bz' z5 ((if_pos rfl).trans (bz' e6 ((if_pos (nI_1 D).symm).trans (bz' z6 ((if_pos rfl).trans (bz' z7 ((if_pos rfl).trans ((if_pos z8).trans (bz' e8 ((if_neg z10).trans (bz' z9 ((if_pos rfl).trans (bz' (hh _) (if_neg o10)))))))))))))))))))
    · refine (if_neg o10).trans (bz' er_expect1 ((if_pos rfl).trans (bz' er_expect2 ((if_pos rfl).trans (bz' er_fund1 ((if_pos rfl).trans (bz' er_fund2 ((if_pos rfl).trans (bz' er_bid1 ((if_pos rfl).trans (bz' er_bid2 ((if_pos rfl).trans (bz' er_rm ((if_pos rfl).trans (bz' er_award ((if_pos rfl).trans (bz' er_done1 ((if_pos rfl).trans (bz' er_firm1 ((if_pos rfl).trans (bz' er_firm2 ((if_pos rfl).trans (bz' er_slot ((if_pos rfl).trans ((if_pos er_heav).trans ((if_pos er_wind).trans (bz' er_cheap1 ((if_pos rfl).trans (bz' er_cheap2 ((if_pos rfl).trans (bz' er_count ((if_pos rfl).trans (if_pos rfl)))))))))))))))))))))))))))))))))
