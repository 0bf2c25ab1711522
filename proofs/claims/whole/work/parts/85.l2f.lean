/-! bids: what is wrong with one -/
theorem o10 : ¬ (1 : Int32) = 0 := by decide
theorem le_nil {v : Int32} {o : Nat} (ho : o ≤ 999) (h : v = nI o) (h2 : v ≤ 0) : v = 0 := by
  subst h
  rcases Nat.eq_zero_or_pos o with z | z
  · subst z
    rfl
  · exact absurd h2 (nI_nle z (by omega))
theorem sim_bidError {c N D : Nat} {x : SD} {M : MD} {B : Nat} (h : RR c N D x M.1 B) (hc : c < 2 ^ 30) (hB : B + 835 ≤ 5845) (p1 p2 p3 p4 p5 : Int32) : ∃ e : Int32, fX6_bidError x p1 p2 p3 p4 p5 = some e ∧ fX9_wrong M (nI B) p1 p2 p3 p4 p5 = some e ∧ (e < 0 ∨ (e = 0 ∧ ∃ F C H w q p : Nat, F < 6 ∧ C < 3 ∧ H < 16 ∧ 1 ≤ w ∧ w ≤ 20 + 20 * C ∧ 1 ≤ q ∧ q ≤ 999 ∧ p1 = nI F ∧ p2 = nI C ∧ p3 = nI H ∧ p4 = nI w ∧ p5 = nI q ∧ N ≤ H ∧ M.1 (B + 51 + (C * 16 + H)) = -1 ∧ x.2.2.2.2.1.2 (F * 48 + (C * 16 + H)) = 0 ∧ x.2.2.2.2.2.2.1.1 F = nI p ∧ p ≤ c ∧ q + ofB x.2.2.2.2.1.2 F ≤ p ∧ cntB x.2.2.2.2.1.2 < 60)) := by
  obtain ⟨⟨d1, d2, d3, d4, d5, d6⟩, hW, hb, hcn, hs, hf, ht⟩ := h
  unfold fX6_bidError fX9_wrong
  rcases zq_firm p1 with ⟨a1, a2⟩ | ⟨F, hF, rfl, a1, a2⟩
  · exact ⟨-1, if_pos a1, if_pos a2, .inl (by decide)⟩
  rw [if_neg (show ¬ fX8_isFirm (nI F) = 0 by rw [a1]; exact o10), if_neg (show ¬ fX9_in (nI F) 0 5 = 0 by rw [a2]; exact o10)]
  rcases zq_crane p2 with ⟨b1, b2⟩ | ⟨C, hC, rfl, b1, b2⟩
  · exact ⟨-1, if_pos (show fX8_isSlot p2 p3 = 0 from if_pos b1), if_pos b2, .inl (by decide)⟩
  rw [if_neg (show ¬ fX9_in (nI C) 0 2 = 0 by rw [b2]; exact o10)]
  rcases zq_hour p3 with ⟨e1, e2⟩ | ⟨H, hH, rfl, e1, e2⟩
  · exact ⟨-1, if_pos (show fX8_isSlot (nI C) p3 = 0 by unfold fX8_isSlot; rw [b1, e1]; decide), if_pos e2, .inl (by decide)⟩
  rw [if_neg (show ¬ fX8_isSlot (nI C) (nI H) = 0 by unfold fX8_isSlot; rw [b1, e1]; decide), if_neg (show ¬ fX9_in (nI H) 0 15 = 0 by rw [e2]; exact o10)]
  rcases zq_lift hC p4 with ⟨g1, g2⟩ | ⟨w, hw1, hw2, rfl, g1, g2⟩
  · exact ⟨-2, if_pos g1, if_pos g2, .inl (by decide)⟩
  rw [if_neg (show ¬ fX8_isLift (nI C) (nI w) = 0 by rw [g1]; exact o10), if_neg (show ¬ fX9_in (nI w) 1 (fX9_most (nI C)) = 0 by rw [g2]; exact o10)]
  rcases zq_coin p5 with ⟨i2, i1⟩ | ⟨q, hq1, hq2, rfl, i2, i3, i4⟩
  · refine ⟨-2, ?_, if_pos i2, .inl (by decide)⟩
    by_cases z : p5 < 1
    · rw [if_pos z]
    · rw [if_neg z, if_neg (i1.resolve_left z)]
  rw [if_neg i3, if_pos i4, if_neg (show ¬ fX9_in (nI q) 1 999 = 0 by rw [i2]; exact o10), slot_nI, place_nI, show 16 * C + H = C * 16 + H by omega]
  have hK : C * 16 + H < 48 := by omega
  have hd := mm_done M hB d5 d6 hH
  have ho := cc_over d4 d6 hH
  by_cases z : N ≤ H
  case neg =>
    rw [if_neg z] at hd ho
    refine ⟨-4, if_pos ?_, ?_, .inl (by decide)⟩
    · unfold fX6_isOpen
      rw [ho]
      rfl
    · rw [hd]
      rfl
  rw [if_pos z] at hd ho
  rw [hd]
  simp only [Option.bind_some]
  rw [if_pos trivial, show ((nI B + 51) + nI (C * 16 + H)) = nI (B + 51 + (C * 16 + H)) from ix2 B 51 _, if_pos (ib_nI (by omega) (by omega)), nI_clamp (by omega)]
  rcases hs.own hK with ⟨o1, o2, o3⟩ | ⟨f, w', hf6, o1, o2, o3, o4, -⟩
  case inr =>
    refine ⟨-4, if_pos ?_, if_pos ?_, .inl (by decide)⟩
    · unfold fX6_isOpen
      rw [ho, slot_nI, o1]
      rfl
    · rw [o4]
      exact nI_pos' (by omega)
  rw [if_neg (show ¬ fX6_isOpen x (nI C) (nI H) = 0 by unfold fX6_isOpen; rw [ho, slot_nI, o1]; decide), if_neg (show ¬ 0 ≤ M.1 (B + 51 + (C * 16 + H)) by rw [o3]; decide)]
  unfold fX0_offer
  rw [cell_nI, rat_nI (by omega) (by omega), show (((nI B + 531) + (6 * nI (C * 16 + H))) + nI F) = nI (B + 531 + 6 * (C * 16 + H) + F) from ix6 B 531 _ _, if_pos (ib_nI (by omega) (by omega)), nI_clamp (by omega)]
  obtain ⟨h1, h2, o, w', h3, h4, h5, h6, h7⟩ := hb F (C * 16 + H) hF hK
  rw [← h2]
  by_cases zo : x.2.2.2.2.1.2 (F * 48 + (C * 16 + H)) ≤ 0
  case neg => exact ⟨-4, if_neg zo, if_neg zo, .inl (by decide)⟩
  rw [if_pos zo, if_pos zo, show ((nI B + 2) + nI F) = nI (B + 2 + F) from ix2 B 2 _, if_pos (ib_nI (by omega) (by omega)), nI_clamp (by omega), mm_off hb hB hF]
  unfold fX6_freeCoins
  rw [cc_off hb hF, rat_nI hF (by omega)]
  obtain ⟨f1, -, -, -, p, f2, f3, f4⟩ := hf F hF
  rw [← f1, f3]
  simp only [Option.bind_some]
  rw [pk_sub f4]
  by_cases zq : q ≤ p - ofB x.2.2.2.2.1.2 F
  case neg => exact ⟨-6, if_neg (nI_ge (by omega) (by omega)), if_neg (nI_ge (by omega) (by omega)), .inl (by decide)⟩
  rw [if_pos (nI_le zq (by omega)), if_pos (nI_le zq (by omega)), cc_all, mm_all hb hB]
  simp only [Option.bind_some]
  by_cases zc : cntB x.2.2.2.2.1.2 = 60
  · rw [zc]
    exact ⟨-3, rfl, rfl, .inl (by decide)⟩
  · refine ⟨0, if_neg (nI_ge (b := 60) (by omega) (by omega)), if_neg (fun e => zc ((nI_eq (b := 60) (by omega) (by omega)).mp e)), .inr ⟨rfl, F, C, H, w, q, p, hF, hC, hH, hw1, hw2, hq1, hq2, rfl, rfl, rfl, rfl, rfl, z, o3, le_nil h3 h4 zo, f3, f2, by omega, by omega⟩⟩
