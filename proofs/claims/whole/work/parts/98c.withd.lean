theorem sim_withdraw : SIM_withdraw INV := fun n X M hI hn p1 p2 p3 => by
  have hcn := cN_lt hn
  have hnop := INV_nop n X M hI hn
  have keep : ∀ r : Int32, r < 0 → ∃ (r' : Int32) (wnow wbefore : SD) (whist : HDT) (M2 : MD), (bnd (r, X.2.1) (fun zq1 => ((fX8_recorded X.1 X.2.1 X.2.2.2.1 zq1.1).bind (fun zq2 => some (zq2.1, zq1.2, X.2.1, zq2.2))))) = some (r', wnow, wbefore, whist) ∧ some (r, M) = some (r', M2) ∧ INV (n + 1) (X.1, wnow, wbefore, whist, X.2.2.2.2.1, X.2.2.2.2.2) M2 := fun r hr => by
    refine ⟨r, X.2.1, X.2.1, X.2.2.2.1, M, ?_, rfl, hnop⟩
    unfold fX8_recorded
    simp only [bnd]
    rw [if_pos hr]
    rfl
  unfold fX8_withdraw fX6_removeBid fX9_withdraw
  rcases zq_firm p1 with ⟨a1, a2⟩ | ⟨F, hF, rfl, a1, a2⟩
  · rw [if_pos a1, if_pos a2]
    exact keep _ (by decide)
  rw [if_neg (show ¬ fX8_isFirm (nI F) = 0 by rw [a1]; exact o10), if_neg (show ¬ fX9_in (nI F) 0 5 = 0 by rw [a2]; exact o10)]
  rcases zq_slot p2 p3 with ⟨a1, a2⟩ | ⟨C, H, hC, hH, rfl, rfl, a1, a2⟩
  · rw [if_pos a1, if_pos a2]
    exact keep _ (by decide)
  have hK : C * 16 + H < 48 := by omega
  rw [if_neg (show ¬ fX8_isSlot (nI C) (nI H) = 0 by rw [a1]; exact o10), if_neg (show ¬ fX9_isSlot (nI C) (nI H) = 0 by rw [a2]; exact o10), slot_nI, place_nI, show 16 * C + H = C * 16 + H by omega, show (6 * nI (C * 16 + H)) + nI F = nI (6 * (C * 16 + H) + F) by rw [show (6 : Int32) = nI 6 from rfl, pk_mul, nI_add]]
  generalize hKe : C * 16 + H = K at hK
  obtain ⟨N, D, h⟩ := hI.1
  obtain ⟨b1, b2, o, w, b3, b4, b5, b6, b7⟩ := h.2.2.1 F K hF hK
  unfold fX0_offer
  rw [cell_nI, rat_nI (by omega) (by omega)]
  simp only [bnd] at keep ⊢
  rw [show (531 : Int32) + nI (6 * K + F) = nI (531 + (6 * K + F)) from nI_add 531 _, if_pos (ib_nI (by omega) (by omega)), nI_clamp (n := 531 + (6 * K + F)) (by omega), show M.1 (531 + (6 * K + F)) = nI o by rw [← b4, b2]; exact congrArg M.1 (by omega), b4]
  by_cases z : o = 0
  · subst z
    rw [if_pos (show nI 0 = 0 from rfl), if_pos (show nI 0 = 0 from rfl)]
    exact keep (-1) (by decide)
  rw [if_neg (nI_ne0 (by omega) (by omega)), if_neg (nI_ne0 (by omega) (by omega))]
  obtain ⟨wh, S1, st, e1, e2, e3, e4⟩ := rec0 hI (r := nI o) (nI_pos (by omega))
  unfold fX0_remove
  rw [set_nI _ hF hK, e1, e2, Option.bind_some, Option.bind_some]
  dsimp only
  rw [show (243 : Int32) + nI (6 * K + F) = nI (243 + (6 * K + F)) from nI_add 243 _, if_pos (ib_nI (by omega) (by omega)), nI_clamp (n := 243 + (6 * K + F)) (by omega)]
  have hR : RR (cN n) N D X.2.1 S1 0 := RM.to h (Nat.le_refl _) (fun j hj => e3 _ (by omega))
  obtain ⟨hd, hW, hb, hcn', hs, hf, ht⟩ := hR
  have ho : ∀ i, i ≠ 243 + (6 * K + F) → i ≠ 531 + (6 * K + F) → upd (upd S1 (243 + (6 * K + F)) 0) (531 + (6 * K + F)) 0 i = S1 i := fun i h1 h2 => by rw [upd_n h2, upd_n h1]
  refine ⟨_, _, _, _, _, rfl, rfl, e4 _ _ ⟨N, D, hd.to (ho _ (by omega) (by omega)) (ho _ (by omega) (by omega)), hW.to (fun j hj => ⟨ho _ (by omega) (by omega), ho _ (by omega) (by omega)⟩), fun f k hf' hk => ?_, ?_, hs.to (fun k hk => ⟨ho _ (by omega) (by omega), ho _ (by omega) (by omega), ho _ (by omega) (by omega), ho _ (by omega) (by omega)⟩), ?_, ht.to (fun j h1 h2 => ho _ (by omega) (by omega))⟩ (fun i hi => ho i (by omega) (by omega))⟩
  · show upd X.2.1.2.2.2.2.1.1 (F * 48 + K) 0 (f * 48 + k) = _ ∧ upd X.2.1.2.2.2.2.1.2 (F * 48 + K) 0 (f * 48 + k) = _ ∧ ∃ o w : Nat, o ≤ 999 ∧ upd X.2.1.2.2.2.2.1.2 (F * 48 + K) 0 (f * 48 + k) = nI o ∧ upd X.2.1.2.2.2.2.1.1 (F * 48 + K) 0 (f * 48 + k) = nI w ∧ _
    by_cases e : f = F ∧ k = K
    · obtain ⟨rfl, rfl⟩ := e
      rw [upd_s, upd_s, show 0 + 243 + 6 * k + f = 243 + (6 * k + f) by omega, show 0 + 531 + 6 * k + f = 531 + (6 * k + f) by omega, upd_s, upd_n (by omega), upd_s]
      exact ⟨rfl, rfl, 0, 0, by omega, rfl, rfl, fun q => absurd q (by omega), fun _ => ⟨rfl, rfl⟩⟩
    · rw [upd_n (show f * 48 + k ≠ F * 48 + K by omega), upd_n (show f * 48 + k ≠ F * 48 + K by omega), ho _ (by omega) (by omega), ho _ (by omega) (by omega)]
      exact hb f k hf' hk
  · show cntB (upd _ _ _) ≤ 60
    have h1 := cntB_upd X.2.1.2.2.2.2.1.2 (v := 0) hF hK
    rw [show pos1n 0 = 0 from rfl] at h1
    omega
  · refine (hf.to (cN_le n) (fun f hf' => ⟨ho _ (by omega) (by omega), ho _ (by omega) (by omega), ho _ (by omega) (by omega), ho _ (by omega) (by omega)⟩)).bo (fun f hf' => ?_)
    show ofB (upd X.2.1.2.2.2.2.1.2 (F * 48 + K) 0) f ≤ _
    by_cases e : f = F
    · subst e
      have h1 := ofB_upd X.2.1.2.2.2.2.1.2 (F := f) (v := 0) hK
      rw [show (0 : Int32).toNatClampNeg = 0 from rfl] at h1
      omega
    · rw [ofB_oth _ hK e]
      exact Nat.le_refl _
theorem sim_award : SIM_award INV := fun n X M hI hn p1 p2 => by
  have hcn := cN_lt hn
  have hnop := INV_nop n X M hI hn
  have keep : ∀ r : Int32, r < 0 → ∃ (r' : Int32) (wnow wbefore : SD) (whist : HDT) (M2 : MD), ((some (r, X.2.1)).bind (fun zq1 => ((fX8_recorded X.1 X.2.1 X.2.2.2.1 zq1.1).bind (fun zq2 => some (zq2.1, zq1.2, X.2.1, zq2.2))))) = some (r', wnow, wbefore, whist) ∧ some (r, M) = some (r', M2) ∧ INV (n + 1) (X.1, wnow, wbefore, whist, X.2.2.2.2.1, X.2.2.2.2.2) M2 := fun r hr => by
    refine ⟨r, X.2.1, X.2.1, X.2.2.2.1, M, ?_, rfl, hnop⟩
    unfold fX8_recorded
    rw [Option.bind_some, if_pos hr]
    rfl
  unfold fX8_award fX6_awardEarly fX9_award
  rcases zq_slot p1 p2 with ⟨a1, a2⟩ | ⟨C, H, hC, hH, rfl, rfl, a1, a2⟩
  · rw [if_pos a1, if_pos a2]
    exact keep _ (by decide)
  have hK : C * 16 + H < 48 := by omega
  obtain ⟨N, D, h⟩ := hI.1
  obtain ⟨⟨d1, d2, d3, d4, d5, d6⟩, hW, hb, hcn', hs, hf, ht⟩ := id h
  have hd := mm_done M (B := 0) (by omega) d5 d6 hH
  have ho := cc_over d4 d6 hH
  rw [if_neg (show ¬ fX8_isSlot (nI C) (nI H) = 0 by rw [a1]; exact o10), if_neg (show ¬ fX9_isSlot (nI C) (nI H) = 0 by rw [a2]; exact o10), place_nI, show 16 * C + H = C * 16 + H by omega]
  by_cases z : N ≤ H
  case neg =>
    rw [if_neg z] at hd ho
    rw [if_pos (show fX6_isOpen X.2.1 (nI C) (nI H) = 0 by unfold fX6_isOpen; rw [ho]; rfl), show fX9_isDone M 0 (nI H) = _ from hd]
    exact keep _ (by decide)
  rw [if_pos z] at hd ho
  rw [show fX9_isDone M 0 (nI H) = _ from hd, Option.bind_some, if_pos (show (0 : Int32) = 0 from rfl), show (51 : Int32) + nI (C * 16 + H) = nI (51 + (C * 16 + H)) from nI_add 51 _, if_pos (ib_nI (by omega) (by omega)), nI_clamp (n := 51 + (C * 16 + H)) (by omega)]
  rcases hs.own hK with ⟨o1, o2, o3⟩ | ⟨f, w', hf6, o1, o2, o3, o4, -⟩
  case inr =>
    rw [Nat.zero_add] at o4
    rw [if_pos (show fX6_isOpen X.2.1 (nI C) (nI H) = 0 by unfold fX6_isOpen; rw [ho, slot_nI, o1]; rfl), if_neg (show ¬ M.1 (51 + (C * 16 + H)) < 0 by rw [o4]; exact nI_pos (by omega))]
    exact keep _ (by decide)
  rw [Nat.zero_add] at o3
  rw [if_neg (show ¬ fX6_isOpen X.2.1 (nI C) (nI H) = 0 by unfold fX6_isOpen; rw [ho, slot_nI, o1]; decide), if_pos (show M.1 (51 + (C * 16 + H)) < 0 by rw [o3]; decide), show fX9_best M 0 (nI (C * 16 + H)) (-1) = _ from mm_best M (B := 0) (by omega) hK (-1), bst_true (by decide)]
  cases hw : bst (brn M.1 0 (C * 16 + H)) (fun _ => true) 6 with
  | none =>
    rw [cc_aw0 h hC hH hw]
    exact keep (-5) (by decide)
  | some g =>
    obtain ⟨hg, o, w, p, q1, q2, q3, q4, q5, q6, q7, q8⟩ := zq_got hb hW hK hw
    obtain ⟨wh, S1, st, e1, e2, e3, e4⟩ := rec0 hI (r := nI g) (nI_pos (by omega))
    have hR : RR (cN n) N D X.2.1 S1 0 := RM.to h (Nat.le_refl _) (fun j hj => e3 _ (by omega))
    have hbr : ∀ j, j < 6 → brn S1 0 (C * 16 + H) j = brn M.1 0 (C * 16 + H) j := fun j hj => by
      unfold brn
      rw [e3 _ (by omega), e3 _ (by omega), e3 _ (by omega)]
    have hw2 : bst (brn S1 0 (C * 16 + H)) (fun _ => true) 6 = some g := by
      rw [← hw]
      exact bst_congr (fun j hj => ⟨hbr j hj, rfl⟩)
    have q9 : hif (brn S1 0 (C * 16 + H)) (fun f => !decide (nI f = nI g)) 6 = nI p := by
      rw [← q8]
      exact hif_congr (fun j hj => ⟨hbr j hj, rfl⟩)
    rw [cc_aw h hC hH hg hw, q8, Option.bind_some, Option.bind_some, e1, show enc (-1) (some g) = nI g from rfl, Option.bind_some, Option.bind_some, if_pos (nI_pos' (by omega)), e2, Option.bind_some, show fX9_awards (S1, st, M.2.2) 0 (nI (C * 16 + H)) = _ from mm_aw (M := (S1, st, M.2.2)) (B := 0) (by omega) hK hg hw2, q9]
    exact ⟨_, _, _, _, _, rfl, rfl, e4 _ _ ⟨N, D, RM.purse (RM_aw hR (by omega) hK hg q1 q2 q3 q4 q5 q6) (cN_le n)⟩ (fun i hi => aw_Out S1 hK hg _ i (by omega))⟩
