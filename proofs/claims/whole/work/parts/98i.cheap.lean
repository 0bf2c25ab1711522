theorem sim_cheapest : SIM_cheapest INV := fun n X M hI hn p1 p2 => by
  have hnop := INV_nop n X M hI hn
  obtain ⟨N, D, h⟩ := hI.1
  obtain ⟨⟨d1, d2, d3, d4, d5, d6⟩, hW, hb, hcn', hs, hf, ht⟩ := id h
  unfold fX8_cheapest fX9_cheapest
  rcases zq_crane p1 with ⟨a1, a2⟩ | ⟨C, hC, rfl, a1, a2⟩
  · rw [if_pos a1, if_pos a2]
    exact ⟨_, rfl, rfl, hnop⟩
  rw [if_neg (show ¬ fX8_isCrane (nI C) = 0 by rw [a1]; exact o10), if_neg (show ¬ fX9_in (nI C) 0 2 = 0 by rw [a2]; exact o10)]
  rcases zq_lift hC p2 with ⟨g1, g2⟩ | ⟨w, hw1, hw2, rfl, g1, g2⟩
  · rw [if_pos g1, if_pos g2]
    exact ⟨_, rfl, rfl, hnop⟩
  rw [if_neg (show ¬ fX8_isLift (nI C) (nI w) = 0 by rw [g1]; exact o10), if_neg (show ¬ fX9_in (nI w) 1 (fX9_most (nI C)) = 0 by rw [g2]; exact o10)]
  have key : ∀ (d k fu : Nat) (b v : Int32), N ≤ k → k + d = 16 → d < fu → ((b = -5) ∨ ∃ j, j < 16 ∧ b = nI j ∧ fX9_highest M (nI (C * 16 + j)) = some v) → ∃ r, fX6_cheapestHour_L0 X.2.1 (nI C) (nI w) fu b v (nI k) = some r ∧ fX9_cheapest_L0 M (nI C) (nI w) fu b (nI k) = some r := by
    intro d
    induction d with
    | zero =>
      intro k fu b v hk hd hfu hbv
      obtain ⟨fu, rfl⟩ : ∃ q, fu = q + 1 := ⟨fu - 1, by omega⟩
      rw [show k = 16 by omega, fX6_cheapestHour_L0, fX9_cheapest_L0, if_pos ler16, if_pos ler16]
      exact ⟨_, rfl, rfl⟩
    | succ d ih =>
      intro k fu b v hk hd hfu hbv
      obtain ⟨fu, rfl⟩ : ∃ q, fu = q + 1 := ⟨fu - 1, by omega⟩
      have hk16 : k < 16 := by omega
      have hK : C * 16 + k < 48 := by omega
      have skip := ih (k + 1) fu b v (by omega) (by omega) (by omega) hbv
      have hov := cc_over (h := k) d4 d6 hk16
      rw [if_pos hk] at hov
      rw [fX6_cheapestHour_L0, fX9_cheapest_L0, if_neg (nle16 hk16), if_neg (nle16 hk16), place_nI, slot_nI, show 16 * C + k = C * 16 + k by omega, show (51 : Int32) + nI (C * 16 + k) = nI (51 + (C * 16 + k)) from nI_add 51 _, if_pos (ib_nI (by omega) (by omega)), nI_clamp (n := 51 + (C * 16 + k)) (by omega), nI_1 k]
      rcases hs.own hK with ⟨o1, o2, o3⟩ | ⟨f, w', hf6, o1, o2, o3, o4, -⟩
      case inr =>
        rw [Nat.zero_add] at o4
        rw [if_pos (show fX6_isOpen X.2.1 (nI C) (nI k) = 0 by unfold fX6_isOpen; rw [hov, slot_nI, o1]; rfl), if_pos (show 0 ≤ M.1 (51 + (C * 16 + k)) by rw [o4]; exact nI_pos' (by omega))]
        exact skip
      rw [Nat.zero_add] at o3
      obtain ⟨w1, w2, dd, hdd, w3⟩ := hW k hk16
      rw [Nat.zero_add] at w2
      have hm35 : M.1 (35 + k) = nI dd := by rw [← w2, w3]
      rw [if_neg (show ¬ fX6_isOpen X.2.1 (nI C) (nI k) = 0 by unfold fX6_isOpen; rw [hov, slot_nI, o1]; decide), if_neg (show ¬ 0 ≤ M.1 (51 + (C * 16 + k)) by rw [o3]; decide), show (35 : Int32) + nI k = nI (35 + k) from nI_add 35 _, if_pos (ib_nI (by omega) (by omega)), nI_clamp (n := 35 + k) (by omega)]
      have hb2 := bears_nI (w := w) (d := dd) (by omega) (by omega)
      have hh : fX6_heaviestLift X.2.1 (nI C) (nI k) = nI (min (70 - dd) (20 + 20 * C)) := by
        unfold fX6_heaviestLift
        rw [rat_nI hk16 (by omega), w3, heav_nI hC hdd]
      by_cases z : 70 < w + dd
      · rw [if_pos z] at hb2
        rw [if_pos (show fX6_heaviestLift X.2.1 (nI C) (nI k) < nI w by rw [hh]; exact nI_lt (by omega) (by omega)), if_pos (show fX9_bears (nI w) (M.1 (35 + k)) = 0 by rw [hm35, hb2])]
        exact skip
      rw [if_neg z] at hb2
      rw [if_neg (show ¬ fX6_heaviestLift X.2.1 (nI C) (nI k) < nI w by rw [hh]; exact nI_nlt (by omega) (by omega)), if_neg (show ¬ fX9_bears (nI w) (M.1 (35 + k)) = 0 by rw [hm35, hb2]; exact o10), cc_high hb hK]
      have hq := mm_high (M := M) hK
      generalize hif (fun f => M.1 (531 + 6 * (C * 16 + k) + f)) (fun _ => true) 6 = q at hq
      have take := ih (k + 1) fu (nI k) q (by omega) (by omega) (by omega) (.inr ⟨k, hk16, rfl, hq⟩)
      rw [hq, Option.bind_some]
      rcases hbv with rfl | ⟨j, hj, rfl, hv⟩
      · rw [if_pos rfl, if_pos (show (-5 : Int32) < 0 by decide)]
        exact take
      · rw [if_neg (n5_nI (by omega)), if_neg (nI_pos (by omega)), Option.bind_some, place_nI, show 16 * C + j = C * 16 + j by omega, hv, Option.bind_some]
        by_cases z2 : v ≤ q
        · rw [if_pos z2, if_pos z2]
          exact skip
        · rw [if_neg z2, if_neg z2]
          exact take
  obtain ⟨r, k1, k2⟩ := key (16 - N) N 1000 (-5) 0 (Nat.le_refl _) (by omega) (by omega) (.inl rfl)
  unfold fX6_cheapestHour
  simp only [bnd]
  rw [d4, k1, show M.1 ((1 : Int32).toNatClampNeg) = nI N from d5, k2]
  exact ⟨_, rfl, rfl, hnop⟩
