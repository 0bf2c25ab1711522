theorem ans {E1 E2 : Option Int32} {Q : Prop} (h : E1 = E2) (hq : Q) (h2 : E1.isSome = true) : ∃ r, E1 = some r ∧ E2 = some r ∧ Q := by
  subst h
  obtain ⟨r, hr⟩ := Option.isSome_iff_exists.mp h2
  exact ⟨r, hr, hr, hq⟩
theorem sim_firm : SIM_firm INV := fun n X M hI hn p1 p2 => by
  have hnop := INV_nop n X M hI hn
  have hcn := cN_lt hn
  obtain ⟨N, D, h⟩ := hI.1
  obtain ⟨⟨d1, d2, d3, d4, d5, d6⟩, hW, hb, hcn', hs, hf, ht⟩ := id h
  unfold fX8_firm fX9_firm
  rcases zq_firm p1 with ⟨a1, a2⟩ | ⟨F, hF, rfl, a1, a2⟩
  · rw [if_pos a1, if_pos a2]
    exact ⟨_, rfl, rfl, hnop⟩
  rw [if_neg (show ¬ fX8_isFirm (nI F) = 0 by rw [a1]; exact o10), if_neg (show ¬ fX9_in (nI F) 0 5 = 0 by rw [a2]; exact o10)]
  obtain ⟨f1, f2, f3, f4, p, f5, f6, f7⟩ := hf F hF
  rw [Nat.zero_add] at f1 f2 f3 f4
  rw [rat_nI hF (by omega), rat_nI hF (by omega), rat_nI hF (by omega), rat_nI hF (by omega), show (2 : Int32) + nI F = nI (2 + F) from nI_add 2 F, show (8 : Int32) + nI F = nI (8 + F) from nI_add 8 F, show (14 : Int32) + nI F = nI (14 + F) from nI_add 14 F, show (20 : Int32) + nI F = nI (20 + F) from nI_add 20 F, if_pos (ib_nI (k := 2 + F) (by omega) (by omega)), if_pos (ib_nI (k := 8 + F) (by omega) (by omega)), if_pos (ib_nI (k := 14 + F) (by omega) (by omega)), if_pos (ib_nI (k := 20 + F) (by omega) (by omega)), nI_clamp (n := 2 + F) (by omega), nI_clamp (n := 8 + F) (by omega), nI_clamp (n := 14 + F) (by omega), nI_clamp (n := 20 + F) (by omega), cc_off hb hF, show fX9_offered M 0 (nI F) = _ from mm_off (B := 0) hb (by omega) hF, cc_countOf _ hF, show fX9_bidsOf M 0 (nI F) = _ from mm_bidsOf M (B := 0) (by omega) hF, cc_open d4 d6, mm_open h (p := nI F) (p' := nI F) (.inr ⟨nI_pos (by omega), rfl⟩)]
  have e : rsum (fun k => pos1 (M.1 (0 + 531 + 6 * k + F))) 48 = rsum (fun k => pos1 (X.2.1.2.2.2.2.1.2 (F * 48 + k))) 48 := rsum_congr (fun k hk => by
    show pos1 _ = pos1 _
    rw [(hb F k hF hk).2.1])
  rw [e, f1, f2, f3, f4]
  refine ans rfl hnop ?_
  repeat' (first | rfl | split)
theorem mm_high {M : MD} {K : Nat} (hK : K < 48) : fX9_highest M (nI K) = some (hif (fun f => M.1 (531 + 6 * K + f)) (fun _ => true) 6) := by
  unfold fX9_highest
  have h := lpN (fun fu k => fX9_highest_L0 M (nI K) fu (hif (fun f => M.1 (531 + 6 * K + f)) (fun _ => true) k) (nI k)) 6 _ (fun fu k hk => by
    show fX9_highest_L0 M (nI K) (fu + 1) _ _ = fX9_highest_L0 M (nI K) fu (if true = true then (if M.1 (531 + 6 * K + k) ≤ hif (fun f => M.1 (531 + 6 * K + f)) (fun _ => true) k then hif (fun f => M.1 (531 + 6 * K + f)) (fun _ => true) k else M.1 (531 + 6 * K + k)) else _) _
    rw [fX9_highest_L0, if_neg (nle6 hk), show ((531 : Int32) + (6 * nI K)) + nI k = nI (531 + 6 * K + k) by rw [show (6 : Int32) = nI 6 from rfl, show (531 : Int32) = nI 531 from rfl, pk_mul, nI_add, nI_add], if_pos (ib_nI (by omega) (by omega)), nI_clamp (by omega), nI_1 k, if_pos (rfl : true = true)]
    by_cases z : M.1 (531 + 6 * K + k) ≤ hif (fun f => M.1 (531 + 6 * K + f)) (fun _ => true) k
    · rw [if_pos z, if_pos z]
    · rw [if_neg z, if_neg z]
      rfl) (fun fu => by
    show fX9_highest_L0 M (nI K) (fu + 1) _ _ = _
    rw [fX9_highest_L0, if_pos ler6]) 1000 0 (by omega) (by omega)
  have h2 : fX9_highest_L0 M (nI K) 1000 0 0 = some (hif (fun f => M.1 (531 + 6 * K + f)) (fun _ => true) 6) := h
  rw [h2]
  rfl
theorem cc_high {x : BD} {P : Nat → Prop} {M : MD} {K : Nat} (hb : RB x P M.1 0) (hK : K < 48) : fX0_highest x (nI K) 60 (-5) = fX9_highest M (nI K) := by
  rw [cc_highest x hK, mm_high hK, hif_mask (fun f => x.2 (f * 48 + K)) (fun f => !decide ((60 : Int32) < x.1 (f * 48 + K))) (fun f => !decide (nI f = -5)) 6, hif_true (by decide)]
  refine congrArg some (hif_congr (fun f hf => ⟨?_, rfl⟩))
  obtain ⟨b1, b2, o, w, b3, b4, b5, b6, b7⟩ := hb f K hf hK
  rw [Nat.zero_add] at b2
  rw [← b2]
  by_cases z : (60 : Int32) < x.1 (f * 48 + K)
  · have ho : o = 0 := by
      rcases Nat.eq_zero_or_pos o with q | q
      · exact q
      · obtain ⟨c1, c2⟩ := b6 q
        rw [b5] at z
        exact absurd z (nI_nlt (a := 60) (by omega) (by omega))
    rw [b4, ho]
    simp only [z, decide_true, Bool.not_true]
    rfl
  · simp [z]
theorem sim_slot : SIM_slot INV := fun n X M hI hn p1 p2 p3 => by
  have hnop := INV_nop n X M hI hn
  obtain ⟨N, D, h⟩ := hI.1
  obtain ⟨⟨d1, d2, d3, d4, d5, d6⟩, hW, hb, hcn', hs, hf, ht⟩ := id h
  unfold fX8_slot fX9_slot
  rcases zq_slot p1 p2 with ⟨a1, a2⟩ | ⟨C, H, hC, hH, rfl, rfl, a1, a2⟩
  · rw [if_pos a1, if_pos a2]
    exact ⟨_, rfl, rfl, hnop⟩
  have hK : C * 16 + H < 48 := by omega
  obtain ⟨s1, s2, s3, s4, s5, s6⟩ := hs _ hK
  rw [Nat.zero_add] at s1 s2
  rw [if_neg (show ¬ fX8_isSlot (nI C) (nI H) = 0 by rw [a1]; exact o10), if_neg (show ¬ fX9_isSlot (nI C) (nI H) = 0 by rw [a2]; exact o10), place_nI, slot_nI, show 16 * C + H = C * 16 + H by omega]
  have hm : (C * 16 + H) % 16 = H := by omega
  generalize C * 16 + H = K at hK s1 s2 s3 s4 s5 s6 hm ⊢
  rw [rat_nI hK (by omega), rat_nI hK (by omega), rat_nI hK (by omega), show (51 : Int32) + nI K = nI (51 + K) from nI_add 51 K, show (99 : Int32) + nI K = nI (99 + K) from nI_add 99 K, show (147 : Int32) + nI K = nI (147 + K) from nI_add 147 K, show (195 : Int32) + nI K = nI (195 + K) from nI_add 195 K, if_pos (ib_nI (k := 51 + K) (by omega) (by omega)), if_pos (ib_nI (k := 99 + K) (by omega) (by omega)), if_pos (ib_nI (k := 147 + K) (by omega) (by omega)), if_pos (ib_nI (k := 195 + K) (by omega) (by omega)), nI_clamp (n := 51 + K) (by omega), nI_clamp (n := 99 + K) (by omega), nI_clamp (n := 147 + K) (by omega), nI_clamp (n := 195 + K) (by omega), show fX9_bidsFor M 0 (nI K) = _ from mm_for (B := 0) hb (by omega) hK, cc_high hb hK, mm_high hK, cc_forN _ hK, cc_over d4 d6 hH, show fX9_isDone M 0 (nI H) = _ from mm_done M (B := 0) (by omega) d5 d6 hH, s1, s2, Option.bind_some]
  have e0 : (if 0 ≤ M.1 (51 + K) then some (M.1 (51 + K)) else some (-5)) = some (fX5_ownerOf X.2.1.2.2.2.2.2.1 (nI K)) := by
    rcases hs.own hK with ⟨o1, o2, o3⟩ | ⟨g, w', hg, o1, o2, o5, o4, -⟩
    · rw [Nat.zero_add] at o3
      rw [o2, o3]
      rfl
    · rw [Nat.zero_add] at o4
      rw [o2, o4, if_pos (nI_pos' (by omega))]
  have e6 : (if 0 ≤ M.1 (195 + K) then some (M.1 (195 + K)) else some (-5)) = (if (if N ≤ H then (0 : Int32) else 1) = 0 then some (-5) else some (X.2.1.2.2.2.2.2.1.2.2.2 K)) := by
    rw [Nat.zero_add] at s5 s6
    by_cases z : N ≤ H
    · rw [s6 (show ¬ K % 16 < N by omega), if_pos z]
      rfl
    · obtain ⟨r, r1, r2, r3⟩ := s5 (show K % 16 < N by omega)
      rw [r2, r3, if_pos (nI_pos' (by omega)), if_neg z, if_neg o10]
  rw [e0, e6]
  refine ans ?_ hnop ?_
  · by_cases z : N ≤ H
    · rw [if_pos z]
      rfl
    · rw [if_neg z]
      rfl
  · repeat' (first | rfl | split)
