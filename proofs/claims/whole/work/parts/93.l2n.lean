/-! the end of a slot on both sides -/
theorem ix27 (B r : Nat) : ((nI B + nI 27) + nI r) - 1 = nI (B + 26 + r) := by
  rw [nI_add, nI_add, show B + 27 + r = B + 26 + r + 1 by omega, nI_pred]
theorem mm_go1 {M : MD} {B K : Nat} (hB : B + 835 ≤ 5845) (hK : K < 48) (wd cnt : Int32) (ho : M.1 (B + 51 + K) = -1) (hc : cnt = 0) : fX9_goesOn M (nI B) (nI K) wd cnt = some (enS1 M.1 B K 1, M.2) := by
  unfold fX9_goesOn enS1
  rw [show ((nI B + 51) + nI K) = nI (B + 51 + K) from ix2 B 51 _, if_pos (ib_nI (by omega) (by omega)), nI_clamp (by omega), ho]
  simp only [bnd]
  rw [if_neg (show ¬ (0 : Int32) ≤ -1 by decide), if_pos hc, show ((nI B + 195) + nI K) = nI (B + 195 + K) from ix2 B 195 _, show (((nI B + 27) + 1) - 1) = nI (B + 26 + 1) from ix27 B 1, if_pos (ib_nI (k := B + 195 + K) (by omega) (by omega)), if_pos (ib_nI (k := B + 26 + 1) (by omega) (by omega)), nI_clamp (n := B + 195 + K) (by omega), nI_clamp (n := B + 26 + 1) (by omega), upd_n (by omega)]
  rfl
theorem mm_go2 {M : MD} {B K : Nat} (hB : B + 835 ≤ 5845) (hK : K < 48) (wd cnt : Int32) (ho : M.1 (B + 51 + K) = -1) (hc : ¬ cnt = 0) : fX9_goesOn M (nI B) (nI K) wd cnt = some (enS1 M.1 B K 2, M.2) := by
  unfold fX9_goesOn enS1
  rw [show ((nI B + 51) + nI K) = nI (B + 51 + K) from ix2 B 51 _, if_pos (ib_nI (by omega) (by omega)), nI_clamp (by omega), ho]
  simp only [bnd]
  rw [if_neg (show ¬ (0 : Int32) ≤ -1 by decide), if_neg hc, show ((nI B + 195) + nI K) = nI (B + 195 + K) from ix2 B 195 _, show (((nI B + 27) + 2) - 1) = nI (B + 26 + 2) from ix27 B 2, if_pos (ib_nI (k := B + 195 + K) (by omega) (by omega)), if_pos (ib_nI (k := B + 26 + 2) (by omega) (by omega)), nI_clamp (n := B + 195 + K) (by omega), nI_clamp (n := B + 26 + 2) (by omega), upd_n (by omega)]
  rfl
theorem mm_go0 {M : MD} {B K g wt wd : Nat} (hB : B + 835 ≤ 5845) (hK : K < 48) (hg : g < 6) (cnt : Int32) (ho : M.1 (B + 51 + K) = nI g) (hw : M.1 (B + 99 + K) = nI wt) (h1 : wt < 2 ^ 30) (h2 : wd < 2 ^ 30) (hn : ¬ 70 < wt + wd) : fX9_goesOn M (nI B) (nI K) (nI wd) cnt = some (enS0 M.1 B K g, M.2) := by
  unfold fX9_goesOn enS0
  rw [show ((nI B + 51) + nI K) = nI (B + 51 + K) from ix2 B 51 _, if_pos (ib_nI (by omega) (by omega)), nI_clamp (by omega), ho]
  simp only [bnd]
  have hb := bears_nI h1 h2
  rw [if_neg hn] at hb
  rw [if_pos (nI_pos' (by omega)), show ((nI B + 99) + nI K) = nI (B + 99 + K) from ix2 B 99 _, if_pos (ib_nI (k := B + 99 + K) (by omega) (by omega)), nI_clamp (n := B + 99 + K) (by omega), if_neg (show ¬ fX9_bears (M.1 (B + 99 + K)) (nI wd) = 0 by rw [hw, hb]; exact o10), show ((nI B + 195) + nI K) = nI (B + 195 + K) from ix2 B 195 _, show (nI B + 26) = nI (B + 26) from nI_add B 26, show ((nI B + 8) + nI g) = nI (B + 8 + g) from ix2 B 8 _, show (nI B + 34) = nI (B + 34) from nI_add B 34]
  rw [if_pos (ib_nI (k := B + 195 + K) (by omega) (by omega)), if_pos (ib_nI (k := B + 26) (by omega) (by omega)), if_pos (ib_nI (k := B + 8 + g) (by omega) (by omega)), if_pos (ib_nI (k := B + 34) (by omega) (by omega)), nI_clamp (n := B + 195 + K) (by omega), nI_clamp (n := B + 26) (by omega), nI_clamp (n := B + 8 + g) (by omega), nI_clamp (n := B + 34) (by omega)]
  repeat rw [upd_n (by omega)]
theorem mm_go3 {M : MD} {B K g wt wd : Nat} (hB : B + 835 ≤ 5845) (hK : K < 48) (hg : g < 6) (cnt : Int32) (ho : M.1 (B + 51 + K) = nI g) (hw : M.1 (B + 99 + K) = nI wt) (h1 : wt < 2 ^ 30) (h2 : wd < 2 ^ 30) (hn : 70 < wt + wd) : fX9_goesOn M (nI B) (nI K) (nI wd) cnt = some (enS3 M.1 B K g, M.2) := by
  unfold fX9_goesOn enS3
  rw [show ((nI B + 51) + nI K) = nI (B + 51 + K) from ix2 B 51 _, if_pos (ib_nI (by omega) (by omega)), nI_clamp (by omega), ho]
  simp only [bnd]
  have hb := bears_nI h1 h2
  rw [if_pos hn] at hb
  rw [if_pos (nI_pos' (by omega)), show ((nI B + 99) + nI K) = nI (B + 99 + K) from ix2 B 99 _, if_pos (ib_nI (k := B + 99 + K) (by omega) (by omega)), nI_clamp (n := B + 99 + K) (by omega), if_pos (show fX9_bears (M.1 (B + 99 + K)) (nI wd) = 0 by rw [hw, hb]), show ((nI B + 195) + nI K) = nI (B + 195 + K) from ix2 B 195 _, show (((nI B + 27) + 3) - 1) = nI (B + 29) from ix27 B 3, show ((nI B + 147) + nI K) = nI (B + 147 + K) from ix2 B 147 _, show ((nI B + 2) + nI g) = nI (B + 2 + g) from ix2 B 2 _, show ((nI B + 14) + nI g) = nI (B + 14 + g) from ix2 B 14 _, show (nI B + 30) = nI (B + 30) from nI_add B 30, show (nI B + 31) = nI (B + 31) from nI_add B 31]
  rw [if_pos (ib_nI (k := B + 195 + K) (by omega) (by omega)), if_pos (ib_nI (k := B + 29) (by omega) (by omega)), if_pos (ib_nI (k := B + 147 + K) (by omega) (by omega)), if_pos (ib_nI (k := B + 2 + g) (by omega) (by omega)), if_pos (ib_nI (k := B + 14 + g) (by omega) (by omega)), if_pos (ib_nI (k := B + 30) (by omega) (by omega)), if_pos (ib_nI (k := B + 31) (by omega) (by omega)), nI_clamp (n := B + 195 + K) (by omega), nI_clamp (n := B + 29) (by omega), nI_clamp (n := B + 147 + K) (by omega), nI_clamp (n := B + 2 + g) (by omega), nI_clamp (n := B + 14 + g) (by omega), nI_clamp (n := B + 30) (by omega), nI_clamp (n := B + 31) (by omega)]
  repeat rw [upd_n (by omega)]
theorem cc_end1 {x : SD} {C N cnt : Nat} (hN : x.2.1 = nI N) (hC : C < 3) (hN16 : N < 16) (p2 : Int32) (ha : fX5_isAwarded x.2.2.2.2.2.1 (nI (C * 16 + N)) = 0) (hc : fX0_countFor x.2.2.2.2.1 (nI (C * 16 + N)) = some (nI cnt)) (hz : cnt = 0) : fX6_endSlot x (nI C) p2 = some (0, (x.1, x.2.1, x.2.2.1, x.2.2.2.1, rmS x.2.2.2.2.1 (C * 16 + N) 6, (x.2.2.2.2.2.1.1, x.2.2.2.2.2.1.2.1, x.2.2.2.2.2.1.2.2.1, upd x.2.2.2.2.2.1.2.2.2 (C * 16 + N) (nI 1)), x.2.2.2.2.2.2.1, (upd x.2.2.2.2.2.2.2.1 1 (x.2.2.2.2.2.2.2.1 1 + 1), x.2.2.2.2.2.2.2.2))) := by
  have hK : C * 16 + N < 48 := by omega
  subst hz
  unfold fX6_endSlot fX6_reasonAgainst
  rw [hN, slot_nI, if_pos ha, hc, Option.bind_some, if_pos (show nI 0 ≤ 0 from Int32.le_refl _), Option.bind_some, if_neg o10]
  simp only [bnd]
  rw [if_neg (show ¬ (1 : Int32) = 3 by decide), show radd x.2.2.2.2.2.2.2.1 4 1 1 = _ from radd_nI (k := 1) (by omega) (by omega), rput_nI hK (by omega), cc_removeAll _ hK]
  rfl
theorem cc_end2 {x : SD} {C N cnt : Nat} (hN : x.2.1 = nI N) (hC : C < 3) (hN16 : N < 16) (p2 : Int32) (ha : fX5_isAwarded x.2.2.2.2.2.1 (nI (C * 16 + N)) = 0) (hc : fX0_countFor x.2.2.2.2.1 (nI (C * 16 + N)) = some (nI cnt)) (hz : 0 < cnt) (hz2 : cnt < 2 ^ 31) : fX6_endSlot x (nI C) p2 = some (0, (x.1, x.2.1, x.2.2.1, x.2.2.2.1, rmS x.2.2.2.2.1 (C * 16 + N) 6, (x.2.2.2.2.2.1.1, x.2.2.2.2.2.1.2.1, x.2.2.2.2.2.1.2.2.1, upd x.2.2.2.2.2.1.2.2.2 (C * 16 + N) (nI 2)), x.2.2.2.2.2.2.1, (upd x.2.2.2.2.2.2.2.1 2 (x.2.2.2.2.2.2.2.1 2 + 1), x.2.2.2.2.2.2.2.2))) := by
  have hK : C * 16 + N < 48 := by omega
  unfold fX6_endSlot fX6_reasonAgainst
  rw [hN, slot_nI, if_pos ha, hc, Option.bind_some, if_neg (nI_nle hz hz2), Option.bind_some, if_neg (show ¬ (2 : Int32) = 0 by decide)]
  simp only [bnd]
  rw [if_neg (show ¬ (2 : Int32) = 3 by decide), show radd x.2.2.2.2.2.2.2.1 4 2 1 = _ from radd_nI (k := 2) (by omega) (by omega), rput_nI hK (by omega), cc_removeAll _ hK]
  rfl
theorem cc_end0 {x : SD} {C N g wt wd : Nat} (hN : x.2.1 = nI N) (hC : C < 3) (hN16 : N < 16) (hg : g < 6) (ha : fX5_isAwarded x.2.2.2.2.2.1 (nI (C * 16 + N)) = 1) (ho : fX5_ownerOf x.2.2.2.2.2.1 (nI (C * 16 + N)) = nI g) (hw : x.2.2.2.2.2.1.2.1 (C * 16 + N) = nI wt) (hwt : wt ≤ 20 + 20 * C) (hwd : wd ≤ 99) (hn : ¬ 70 < wt + wd) : fX6_endSlot x (nI C) (nI wd) = some (1, (x.1, x.2.1, x.2.2.1, x.2.2.2.1, rmS x.2.2.2.2.1 (C * 16 + N) 6, (x.2.2.2.2.2.1.1, x.2.2.2.2.2.1.2.1, x.2.2.2.2.2.1.2.2.1, upd x.2.2.2.2.2.1.2.2.2 (C * 16 + N) 0), (x.2.2.2.2.2.2.1.1, upd x.2.2.2.2.2.2.1.2.1 g (x.2.2.2.2.2.2.1.2.1 g + 1), x.2.2.2.2.2.2.1.2.2.1, x.2.2.2.2.2.2.1.2.2.2), (x.2.2.2.2.2.2.2.1, x.2.2.2.2.2.2.2.2.1, x.2.2.2.2.2.2.2.2.2.1, x.2.2.2.2.2.2.2.2.2.2.1, x.2.2.2.2.2.2.2.2.2.2.2.1, x.2.2.2.2.2.2.2.2.2.2.2.2.1 + 1, x.2.2.2.2.2.2.2.2.2.2.2.2.2 + x.2.2.2.2.2.1.2.1 (C * 16 + N)))) := by
  have hK : C * 16 + N < 48 := by omega
  unfold fX6_endSlot fX6_reasonAgainst
  rw [hN, slot_nI, if_neg (show ¬ fX5_isAwarded x.2.2.2.2.2.1 (nI (C * 16 + N)) = 0 by rw [ha]; exact o10), rat_nI hK (by omega), ho, heav_nI hC hwd, if_pos (show x.2.2.2.2.2.1.2.1 (C * 16 + N) ≤ nI (min (70 - wd) (20 + 20 * C)) by rw [hw]; exact nI_le (by omega) (by omega)), Option.bind_some, if_pos (show (0 : Int32) = 0 from rfl)]
  simp only [bnd]
  rw [if_neg (show ¬ (0 : Int32) = 3 by decide), radd_nI hg (by omega), rput_nI hK (by omega), cc_removeAll _ hK]
  rfl
theorem cc_end3 {x : SD} {C N g wt wd : Nat} (hN : x.2.1 = nI N) (hC : C < 3) (hN16 : N < 16) (hg : g < 6) (ha : fX5_isAwarded x.2.2.2.2.2.1 (nI (C * 16 + N)) = 1) (ho : fX5_ownerOf x.2.2.2.2.2.1 (nI (C * 16 + N)) = nI g) (hw : x.2.2.2.2.2.1.2.1 (C * 16 + N) = nI wt) (hw1 : 1 ≤ wt) (hwt : wt ≤ 20 + 20 * C) (hwd : wd ≤ 99) (hn : 70 < wt + wd) : fX6_endSlot x (nI C) (nI wd) = some (0, (x.1, x.2.1, x.2.2.1, x.2.2.2.1, rmS x.2.2.2.2.1 (C * 16 + N) 6, (x.2.2.2.2.2.1.1, x.2.2.2.2.2.1.2.1, x.2.2.2.2.2.1.2.2.1, upd x.2.2.2.2.2.1.2.2.2 (C * 16 + N) 3), (upd x.2.2.2.2.2.2.1.1 g (x.2.2.2.2.2.2.1.1 g + x.2.2.2.2.2.1.2.2.1 (C * 16 + N)), x.2.2.2.2.2.2.1.2.1, upd x.2.2.2.2.2.2.1.2.2.1 g (x.2.2.2.2.2.2.1.2.2.1 g - x.2.2.2.2.2.1.2.2.1 (C * 16 + N)), x.2.2.2.2.2.2.1.2.2.2), (upd x.2.2.2.2.2.2.2.1 3 (x.2.2.2.2.2.2.2.1 3 + 1), x.2.2.2.2.2.2.2.2.1 - x.2.2.2.2.2.1.2.2.1 (C * 16 + N), x.2.2.2.2.2.2.2.2.2.1 + x.2.2.2.2.2.1.2.2.1 (C * 16 + N), x.2.2.2.2.2.2.2.2.2.2))) := by
  have hK : C * 16 + N < 48 := by omega
  unfold fX6_endSlot fX6_reasonAgainst
  rw [hN, slot_nI, if_neg (show ¬ fX5_isAwarded x.2.2.2.2.2.1 (nI (C * 16 + N)) = 0 by rw [ha]; exact o10), rat_nI hK (by omega), ho, heav_nI hC hwd, if_neg (show ¬ x.2.2.2.2.2.1.2.1 (C * 16 + N) ≤ nI (min (70 - wd) (20 + 20 * C)) by rw [hw]; exact nI_ge (by omega) (by omega)), Option.bind_some, if_neg (show ¬ (3 : Int32) = 0 by decide)]
  simp only [bnd]
  rw [if_pos trivial]
  unfold fX6_refund fX1_payYard
  simp only [bnd]
  rw [show radd x.2.2.2.2.2.2.2.1 4 3 1 = _ from radd_nI (k := 3) (by omega) (by omega), rat_nI hK (by omega), radd_nI hg (by omega), radd_nI hg (by omega), rput_nI hK (by omega), cc_removeAll _ hK, Int32.neg_neg, ← Int32.sub_eq_add_neg]
  rfl
