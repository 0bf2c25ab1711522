theorem sim_trade : SIM_trade INV := fun n X M hI hn p1 p2 p3 p4 p5 => by
  have hcn := cN_lt hn
  have hnop := INV_nop n X M hI hn
  have keep : ∀ r : Int32, r < 0 → ∃ (r' : Int32) (wnow wbefore : SD) (whist : HDT) (M2 : MD), ((some (r, X.2.1)).bind (fun zq1 => ((fX8_recorded X.1 X.2.1 X.2.2.2.1 zq1.1).bind (fun zq2 => some (zq2.1, zq1.2, X.2.1, zq2.2))))) = some (r', wnow, wbefore, whist) ∧ some (r, M) = some (r', M2) ∧ INV (n + 1) (X.1, wnow, wbefore, whist, X.2.2.2.2.1, X.2.2.2.2.2) M2 := fun r hr => by
    refine ⟨r, X.2.1, X.2.1, X.2.2.2.1, M, ?_, rfl, hnop⟩
    unfold fX8_recorded
    rw [Option.bind_some, if_pos hr]
    rfl
  unfold fX8_trade fX6_sell fX9_trade
  rcases zq_slot p1 p2 with ⟨a1, a2⟩ | ⟨C, H, hC, hH, rfl, rfl, a1, a2⟩
  · rw [if_pos a1, if_pos a2]
    exact keep (-1) (by decide)
  have hK : C * 16 + H < 48 := by omega
  obtain ⟨N, D, h⟩ := hI.1
  obtain ⟨⟨d1, d2, d3, d4, d5, d6⟩, hW, hb, hcn', hs, hf, ht⟩ := id h
  have hd := mm_done M (B := 0) (by omega) d5 d6 hH
  have ho := cc_over d4 d6 hH
  rw [if_neg (show ¬ fX8_isSlot (nI C) (nI H) = 0 by rw [a1]; exact o10), if_neg (show ¬ fX9_isSlot (nI C) (nI H) = 0 by rw [a2]; exact o10), place_nI, slot_nI, show 16 * C + H = C * 16 + H by omega]
  generalize hKe : C * 16 + H = K at hK
  rcases zq_firm p3 with ⟨a1, a2⟩ | ⟨F, hF, rfl, a1, a2⟩
  · rw [if_pos a1, if_pos a2]
    exact keep (-1) (by decide)
  rw [if_neg (show ¬ fX8_isFirm (nI F) = 0 by rw [a1]; exact o10), if_neg (show ¬ fX9_in (nI F) 0 5 = 0 by rw [a2]; exact o10), show (51 : Int32) + nI K = nI (51 + K) from nI_add 51 _, if_pos (ib_nI (by omega) (by omega)), nI_clamp (n := 51 + K) (by omega)]
  rcases hs.own hK with ⟨o1, o2, o3⟩ | ⟨g, w', hg, o1, o2, o5, o4, -⟩
  · rw [Nat.zero_add] at o3
    rw [if_pos o1, if_neg (show ¬ 0 ≤ M.1 (51 + K) by rw [o3]; decide)]
    exact keep (-1) (by decide)
  rw [Nat.zero_add] at o4
  rw [if_neg (show ¬ fX5_isAwarded X.2.1.2.2.2.2.2.1 (nI K) = 0 by rw [o1]; exact o10), if_pos (show 0 ≤ M.1 (51 + K) by rw [o4]; exact nI_pos' (by omega))]
  rcases zq_lift hC p4 with ⟨g1, g2⟩ | ⟨w, hw1, hw2, rfl, g1, g2⟩
  · rw [if_pos g1, if_pos g2]
    exact keep (-2) (by decide)
  rw [if_neg (show ¬ fX8_isLift (nI C) (nI w) = 0 by rw [g1]; exact o10), if_neg (show ¬ fX9_in (nI w) 1 (fX9_most (nI C)) = 0 by rw [g2]; exact o10)]
  rcases zq_coin0 p5 with ⟨i2, i1⟩ | ⟨q, hq2, rfl, i2, i3, i4⟩
  · rw [if_pos i2]
    by_cases z : p5 < 0
    · rw [if_pos z]
      exact keep (-2) (by decide)
    · rw [if_neg z, if_neg (i1.resolve_left z)]
      exact keep (-2) (by decide)
  rw [if_neg i3, if_pos i4, if_neg (show ¬ fX9_in (nI q) 0 999 = 0 by rw [i2]; exact o10), o2, o4]
  simp only [bnd]
  by_cases z : N ≤ H
  case neg =>
    rw [if_neg z] at hd ho
    rw [if_neg (show ¬ fX6_isOver X.2.1 (nI H) = 0 by rw [ho]; exact o10), show fX9_isDone M 0 (nI H) = _ from hd]
    exact keep (-4) (by decide)
  rw [if_pos z] at hd ho
  rw [if_pos ho, show fX9_isDone M 0 (nI H) = _ from hd, Option.bind_some, if_pos (show (0 : Int32) = 0 from rfl)]
  by_cases zf : g = F
  · subst zf
    rw [if_pos rfl, if_pos rfl]
    exact keep (-4) (by decide)
  rw [if_neg (fun e => zf ((nI_eq (by omega) (by omega)).mp e)), if_neg (fun e => zf ((nI_eq (by omega) (by omega)).mp e)), show (2 : Int32) + nI F = nI (2 + F) from nI_add 2 F, if_pos (ib_nI (by omega) (by omega)), nI_clamp (n := 2 + F) (by omega)]
  unfold fX6_freeCoins
  obtain ⟨f1, f2, f3, f4, p, f5, f6, f7⟩ := hf F hF
  rw [cc_off hb hF, show fX9_offered M 0 (nI F) = _ from mm_off (B := 0) hb (by omega) hF, Option.bind_some, Option.bind_some, Option.bind_some, rat_nI hF (by omega), f6, show M.1 (2 + F) = nI p by rw [← f6, f1, Nat.zero_add], pk_sub f7]
  by_cases zq : q ≤ p - ofB X.2.1.2.2.2.2.1.2 F
  case neg =>
    rw [if_neg (nI_ge (by omega) (by omega)), if_neg (nI_ge (by omega) (by omega))]
    exact keep (-6) (by decide)
  rw [if_pos (nI_le zq (by omega)), if_pos (nI_le zq (by omega))]
  obtain ⟨G1, G2, G3, G4, P, G5, G6, G7⟩ := hf g hg
  obtain ⟨wh, S1, st, e1, e2, e3, e4⟩ := rec0 hI (r := nI (P + q)) (nI_pos (by omega))
  have g1 : S1 (2 + F) = nI p := by rw [e3 _ (by omega), ← f6, f1, Nat.zero_add]
  have g2 : S1 (2 + g) = nI P := by rw [e3 _ (by omega), ← G6, G1, Nat.zero_add]
  have hFg : F ≠ g := fun e => zf e.symm
  unfold fX1_getByTrade fX5_give
  dsimp only
  rw [radd_nI hg (by omega), radd_nI hF (by omega), radd_nI hg (by omega), radd_nI hF (by omega), rput_nI hK (by omega), rput_nI hK (by omega), rat_nI hg (by omega), G6, nI_add, upd_n hFg, upd_n hFg, f6, ← Int32.sub_eq_add_neg, ← Int32.sub_eq_add_neg, pk_sub (show q ≤ p by omega), upd_n zf, upd_s]
  rw [Option.bind_some]
  dsimp only
  rw [e1, e2, Option.bind_some, Option.bind_some]
  dsimp only
  rw [show (20 : Int32) + nI F = nI (20 + F) from nI_add 20 F, show (2 : Int32) + nI g = nI (2 + g) from nI_add 2 g, show (20 : Int32) + nI g = nI (20 + g) from nI_add 20 g, show (99 : Int32) + nI K = nI (99 + K) from nI_add 99 K, if_pos (ib_nI (k := 20 + F) (by omega) (by omega)), if_pos (ib_nI (k := 2 + g) (by omega) (by omega)), if_pos (ib_nI (k := 20 + g) (by omega) (by omega)), if_pos (ib_nI (k := 99 + K) (by omega) (by omega)), nI_clamp (n := 20 + F) (by omega), nI_clamp (n := 2 + g) (by omega), nI_clamp (n := 20 + g) (by omega), nI_clamp (n := 99 + K) (by omega), show (33 : Int32).toNatClampNeg = 33 from rfl]
  rw [g1, pk_sub (show q ≤ p by omega)]
  rw [upd_n (show 20 + F ≠ 2 + F by omega), upd_n (show 2 + g ≠ 20 + F by omega), upd_n (show 2 + g ≠ 2 + F by omega), g2, nI_add]
  rw [upd_n (show 20 + g ≠ 2 + g by omega), upd_n (show 20 + g ≠ 20 + F by omega), upd_n (show 20 + g ≠ 2 + F by omega)]
  rw [upd_n (show 33 ≠ 99 + K by omega), upd_n (show 33 ≠ 51 + K by omega), upd_n (show 33 ≠ 20 + g by omega), upd_n (show 33 ≠ 2 + g by omega), upd_n (show 33 ≠ 20 + F by omega), upd_n (show 33 ≠ 2 + F by omega)]
  rw [upd_n (show 2 + g ≠ 33 by omega), upd_n (show 2 + g ≠ 99 + K by omega), upd_n (show 2 + g ≠ 51 + K by omega), upd_n (show 2 + g ≠ 20 + g by omega), upd_s]
  have hR : RR (cN n) N D X.2.1 S1 0 := RM.to h (Nat.le_refl _) (fun j hj => e3 _ (by omega))
  obtain ⟨hd', hW', hb', hcn2, hs', hf', ht'⟩ := hR
  have ho : ∀ i, i ≠ 2 + F → i ≠ 20 + F → i ≠ 2 + g → i ≠ 20 + g → i ≠ 51 + K → i ≠ 99 + K → i ≠ 33 → upd (upd (upd (upd (upd (upd (upd S1 (2 + F) (nI (p - q))) (20 + F) (S1 (20 + F) - nI q)) (2 + g) (nI (P + q))) (20 + g) (S1 (20 + g) + nI q)) (51 + K) (nI F)) (99 + K) (nI w)) 33 (S1 33 + 1) i = S1 i := fun i h1 h2 h3 h4 h5 h6 h7 => by
    rw [upd_n h7, upd_n h6, upd_n h5, upd_n h4, upd_n h3, upd_n h2, upd_n h1]
  refine ⟨_, _, _, _, _, rfl, rfl, e4 _ _ ⟨N, D, hd'.to (ho _ (by omega) (by omega) (by omega) (by omega) (by omega) (by omega) (by omega)) (ho _ (by omega) (by omega) (by omega) (by omega) (by omega) (by omega) (by omega)), hW'.to (fun j hj => ⟨ho _ (by omega) (by omega) (by omega) (by omega) (by omega) (by omega) (by omega), ho _ (by omega) (by omega) (by omega) (by omega) (by omega) (by omega) (by omega)⟩), hb'.to (fun f k hf2 hk => ⟨ho _ (by omega) (by omega) (by omega) (by omega) (by omega) (by omega) (by omega), ho _ (by omega) (by omega) (by omega) (by omega) (by omega) (by omega) (by omega)⟩), hcn2, fun k hk => ?_, fun f hf2 => ?_, ?_⟩ (fun i hi => ho i (by omega) (by omega) (by omega) (by omega) (by omega) (by omega) (by omega))⟩
  · obtain ⟨s1, s2, s3, s4, s5, s6⟩ := hs' k hk
    show upd X.2.1.2.2.2.2.2.1.2.1 K (nI w) k = _ ∧ _ ∧ _ ∧ ((upd X.2.1.2.2.2.2.2.1.1 K (nI F) k = -5 ∧ _) ∨ ∃ f w' : Nat, f < 6 ∧ upd X.2.1.2.2.2.2.2.1.1 K (nI F) k = nI f ∧ _ ∧ upd X.2.1.2.2.2.2.2.1.2.1 K (nI w) k = nI w' ∧ _) ∧ _ ∧ _
    rw [ho (0 + 147 + k) (by omega) (by omega) (by omega) (by omega) (by omega) (by omega) (by omega), ho (0 + 195 + k) (by omega) (by omega) (by omega) (by omega) (by omega) (by omega) (by omega)]
    by_cases e : k = K
    · subst e
      rw [upd_s, upd_s, show 0 + 99 + k = 99 + k by omega, show 0 + 51 + k = 51 + k by omega, upd_n (show 99 + k ≠ 33 by omega), upd_s, upd_n (show 51 + k ≠ 33 by omega), upd_n (show 51 + k ≠ 99 + k by omega), upd_s]
      exact ⟨rfl, s2, s3, .inr ⟨F, w, hF, rfl, rfl, rfl, hw1, by rw [show k / 16 = C by omega]; exact hw2⟩, s5, s6⟩
    · rw [upd_n e, upd_n e, ho (0 + 99 + k) (by omega) (by omega) (by omega) (by omega) (by omega) (by omega) (by omega), ho (0 + 51 + k) (by omega) (by omega) (by omega) (by omega) (by omega) (by omega) (by omega)]
      exact ⟨s1, s2, s3, s4, s5, s6⟩
  · obtain ⟨b1, b2, b3, b4, p', b5, b6, b7⟩ := hf' f hf2
    show upd (upd X.2.1.2.2.2.2.2.2.1.1 g (nI (P + q))) F (nI (p - q)) f = _ ∧ _ ∧ _ ∧ upd (upd X.2.1.2.2.2.2.2.2.1.2.2.2 g (X.2.1.2.2.2.2.2.2.1.2.2.2 g + nI q)) F (X.2.1.2.2.2.2.2.2.1.2.2.2 F - nI q) f = _ ∧ ∃ v : Nat, v ≤ cN (n + 1) ∧ upd (upd X.2.1.2.2.2.2.2.2.1.1 g (nI (P + q))) F (nI (p - q)) f = nI v ∧ ofB X.2.1.2.2.2.2.1.2 f ≤ v
    rw [ho (0 + 8 + f) (by omega) (by omega) (by omega) (by omega) (by omega) (by omega) (by omega), ho (0 + 14 + f) (by omega) (by omega) (by omega) (by omega) (by omega) (by omega) (by omega), show 0 + 2 + f = 2 + f by omega, show 0 + 20 + f = 20 + f by omega]
    rw [Nat.zero_add] at b4
    have hcs := cN_s n
    by_cases e : f = F
    · subst e
      rw [upd_s, upd_s, upd_n (show 2 + f ≠ 33 by omega), upd_n (show 2 + f ≠ 99 + K by omega), upd_n (show 2 + f ≠ 51 + K by omega), upd_n (show 2 + f ≠ 20 + g by omega), upd_n (show 2 + f ≠ 2 + g by omega), upd_n (show 2 + f ≠ 20 + f by omega), upd_s, upd_n (show 20 + f ≠ 33 by omega), upd_n (show 20 + f ≠ 99 + K by omega), upd_n (show 20 + f ≠ 51 + K by omega), upd_n (show 20 + f ≠ 20 + g by omega), upd_n (show 20 + f ≠ 2 + g by omega), upd_s, b4]
      exact ⟨rfl, b2, b3, rfl, p - q, by omega, rfl, by omega⟩
    · rw [upd_n e, upd_n e]
      by_cases e' : f = g
      · subst e'
        have hpp : p' = P := (nI_eq (by omega) (by omega)).mp (by rw [← b6, ← G6])
        rw [upd_s, upd_s, upd_n (show 2 + f ≠ 33 by omega), upd_n (show 2 + f ≠ 99 + K by omega), upd_n (show 2 + f ≠ 51 + K by omega), upd_n (show 2 + f ≠ 20 + f by omega), upd_s, upd_n (show 20 + f ≠ 33 by omega), upd_n (show 20 + f ≠ 99 + K by omega), upd_n (show 20 + f ≠ 51 + K by omega), upd_s, b4]
        exact ⟨rfl, b2, b3, rfl, P + q, by omega, rfl, by omega⟩
      · rw [upd_n e', upd_n e', ho (2 + f) (by omega) (by omega) (by omega) (by omega) (by omega) (by omega) (by omega), ho (20 + f) (by omega) (by omega) (by omega) (by omega) (by omega) (by omega) (by omega)]
        rw [Nat.zero_add] at b1
        exact ⟨b1, b2, b3, b4, p', by omega, b6, b7⟩
  · obtain ⟨t1, t2, t3, t4, t5, t6, t7, t8, t9⟩ := ht'
    have hj : ∀ j, 26 ≤ j → j ≤ 34 → j ≠ 33 → upd (upd (upd (upd (upd (upd (upd S1 (2 + F) (nI (p - q))) (20 + F) (S1 (20 + F) - nI q)) (2 + g) (nI (P + q))) (20 + g) (S1 (20 + g) + nI q)) (51 + K) (nI F)) (99 + K) (nI w)) 33 (S1 33 + 1) (0 + j) = S1 (0 + j) := fun j h1 h2 h3 => ho _ (by omega) (by omega) (by omega) (by omega) (by omega) (by omega) (by omega)
    refine ⟨t1.trans (hj 27 (by omega) (by omega) (by omega)).symm, t2.trans (hj 28 (by omega) (by omega) (by omega)).symm, t3.trans (hj 29 (by omega) (by omega) (by omega)).symm, t4.trans (hj 30 (by omega) (by omega) (by omega)).symm, t5.trans (hj 31 (by omega) (by omega) (by omega)).symm, t6.trans (hj 32 (by omega) (by omega) (by omega)).symm, ?_, t8.trans (hj 26 (by omega) (by omega) (by omega)).symm, t9.trans (hj 34 (by omega) (by omega) (by omega)).symm⟩
    show X.2.1.2.2.2.2.2.2.2.2.2.2.2.1 + 1 = upd _ 33 _ 33
    rw [upd_s]
    exact congrArg (· + 1) t7
