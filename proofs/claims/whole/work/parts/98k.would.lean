/-! one bid more: who bids most then -/
theorem bst_add {b b' : Nat → Int32} {F : Nat} (hF : b F = 0) (h0 : 0 < b' F) (he : ∀ f, f < 6 → f ≠ F → b' f = b f) : ∀ n, n ≤ 6 → F < n → (hif b (fun _ => true) n < b' F → hif b' (fun _ => true) n = b' F ∧ bst b' (fun _ => true) n = some F) ∧ (0 < b' F → hif b (fun _ => true) n = b' F → hif b' (fun _ => true) n = b' F ∧ ∃ g, bst b (fun _ => true) n = some g ∧ g ≠ F ∧ bst b' (fun _ => true) n = some (if g < F then g else F)) ∧ (b' F < hif b (fun _ => true) n → hif b' (fun _ => true) n = hif b (fun _ => true) n ∧ bst b' (fun _ => true) n = bst b (fun _ => true) n)
  | 0, _, h => absurd h (by omega)
  | n + 1, h6, h => by
    have hS : ∀ c : Nat → Int32, hif c (fun _ => true) (n + 1) = if c n ≤ hif c (fun _ => true) n then hif c (fun _ => true) n else c n := fun c => if_pos rfl
    have hT : ∀ c : Nat → Int32, bst c (fun _ => true) (n + 1) = if c n ≤ hif c (fun _ => true) n then bst c (fun _ => true) n else some n := fun c => if_pos rfl
    by_cases q : F = n
    · subst q
      have e1 : hif b' (fun _ => true) F = hif b (fun _ => true) F := hif_congr (fun j hj => ⟨he j (by omega) (by omega), rfl⟩)
      have e2 : bst b' (fun _ => true) F = bst b (fun _ => true) F := bst_congr (fun j hj => ⟨he j (by omega) (by omega), rfl⟩)
      have e3 : hif b (fun _ => true) (F + 1) = hif b (fun _ => true) F := by
        rw [hS, if_pos (by rw [hF]; exact hif_pos _ _ _)]
      have e4 : bst b (fun _ => true) (F + 1) = bst b (fun _ => true) F := by
        rw [hT, if_pos (by rw [hF]; exact hif_pos _ _ _)]
      rw [e3, e4, hS b', hT b', e1, e2]
      refine ⟨fun z => ?_, fun z1 z => ?_, fun z => ?_⟩
      · rw [if_neg (Int32.not_le.mpr z), if_neg (Int32.not_le.mpr z)]
        exact ⟨rfl, rfl⟩
      · rw [if_pos (by rw [z]; exact Int32.le_refl _), if_pos (by rw [z]; exact Int32.le_refl _)]
        cases hb : bst b (fun _ => true) F with
        | none =>
          rw [bst_none hb] at z
          exact absurd z1 (by rw [← z]; decide)
        | some g =>
          have hg := (bst_some hb).1
          exact ⟨z, g, rfl, by omega, by rw [if_pos hg]⟩
      · rw [if_pos (Int32.le_of_lt z), if_pos (Int32.le_of_lt z)]
        exact ⟨rfl, rfl⟩
    · obtain ⟨i1, i2, i3⟩ := bst_add hF h0 he n (by omega) (by omega)
      have en : b' n = b n := he n (by omega) (fun e => q e.symm)
      rw [hS b, hT b, hS b', hT b', en]
      by_cases z0 : b n ≤ hif b (fun _ => true) n
      · rw [if_pos z0, if_pos z0]
        refine ⟨fun z => ?_, fun z1 z => ?_, fun z => ?_⟩
        · obtain ⟨j1, j2⟩ := i1 z
          have hle := Int32.le_trans z0 (Int32.le_of_lt z)
          rw [j1, if_pos hle, if_pos hle]
          exact ⟨rfl, j2⟩
        · obtain ⟨j1, g, j2, j3, j4⟩ := i2 z1 z
          rw [j1, if_pos (by rw [← z]; exact z0), if_pos (by rw [← z]; exact z0)]
          exact ⟨rfl, g, j2, j3, j4⟩
        · obtain ⟨j1, j2⟩ := i3 z
          rw [j1, if_pos z0, if_pos z0]
          exact ⟨rfl, j2⟩
      · have z9 := Int32.not_le.mp z0
        rw [if_neg z0, if_neg z0]
        refine ⟨fun z => ?_, fun z1 z => ?_, fun z => ?_⟩
        · obtain ⟨j1, j2⟩ := i1 (Int32.lt_trans z9 z)
          rw [j1, if_pos (Int32.le_of_lt z), if_pos (Int32.le_of_lt z)]
          exact ⟨rfl, j2⟩
        · obtain ⟨j1, j2⟩ := i1 (by rw [← z]; exact z9)
          rw [j1, if_pos (by rw [z]; exact Int32.le_refl _), if_pos (by rw [z]; exact Int32.le_refl _)]
          exact ⟨rfl, n, rfl, fun e => q e.symm, by rw [if_neg (by omega)]; exact j2⟩
        · have hmax : ¬ b n ≤ hif b' (fun _ => true) n := by
            rcases Int32.lt_or_le (hif b (fun _ => true) n) (b' F) with y | y
            · rw [(i1 y).1]
              exact Int32.not_le.mpr z
            · rcases Int32.lt_or_eq_of_le y with y | y
              · rw [(i3 y).1]
                exact z0
              · by_cases w : 0 < b' F
                · rw [(i2 w y.symm).1]
                  exact Int32.not_le.mpr z
                · exact absurd h0 w
          rw [if_neg hmax, if_neg hmax]
          exact ⟨rfl, rfl⟩
/-- without the new one it is as before -/
theorem hif_exc {b b' : Nat → Int32} {F : Nat} (hF : b F = 0) (he : ∀ f, f < 6 → f ≠ F → b' f = b f) (hF31 : F < 2 ^ 31) : ∀ n, n ≤ 6 → hif b' (fun f => !decide (nI f = nI F)) n = hif b (fun _ => true) n
  | 0, _ => rfl
  | n + 1, hn => by
    have ih := hif_exc hF he hF31 n (by omega)
    have hS : hif b (fun _ => true) (n + 1) = if b n ≤ hif b (fun _ => true) n then hif b (fun _ => true) n else b n := if_pos rfl
    rw [hS]
    show (if (!decide (nI n = nI F)) = true then (if b' n ≤ hif b' (fun f => !decide (nI f = nI F)) n then hif b' (fun f => !decide (nI f = nI F)) n else b' n) else hif b' (fun f => !decide (nI f = nI F)) n) = _
    rw [ih]
    by_cases e : n = F
    · subst e
      rw [if_neg (by simp), hF, if_pos (hif_pos _ _ _)]
    · have e2 : ¬ nI n = nI F := fun q => e ((nI_eq (by omega) hF31).mp q)
      rw [if_pos (by simp [e2]), he n (by omega) e]
theorem sim_wouldCost : SIM_wouldCost INV := fun n X M hI hn p1 p2 p3 p4 p5 => by
  have hcn := cN_lt hn
  obtain ⟨N, D, h⟩ := INV_six hI
  have hB : 835 * 6 + 835 ≤ 5845 := by omega
  obtain ⟨e, e1, e2, e3⟩ := sim_bidError (M := (cpS M.1 0 6 835, M.2)) h (by omega) hB p1 p2 p3 p4 p5
  unfold fX8_wouldCost fX9_wouldCost fX9_bidsBy
  rw [e1, show fX9_copies M 0 6 = _ from mm_copies (a := 0) (b := 6) M (by omega) (by omega) (by omega), Option.bind_some, Option.bind_some, show (835 : Int32) * 6 = nI (835 * 6) from rfl, e2, Option.bind_some]
  have hrow : ∀ S : AF, Out (cpS M.1 0 6 835) S (835 * 6) → INV (n + 1) X (S, M.2) := fun S hS => INV_row6 hI (fun i hi => (hS i (.inl hi)).trans (cpS_out (by omega)))
  rcases e3 with e3 | ⟨rfl, F, C, H, w, q, p, hF, hC, hH, hw1, hw2, hq1, hq2, rfl, rfl, rfl, rfl, rfl, hN, ho, hz, hp, hpc, hpo, hc60⟩
  · rw [if_neg (Int32.not_le.mpr e3), if_neg (Int32.not_le.mpr e3), Option.bind_some]
    dsimp only
    rw [if_neg (Int32.not_le.mpr e3)]
    exact ⟨_, _, rfl, rfl, hrow _ (Out.rfl' _ _)⟩
  have hK : C * 16 + H < 48 := by omega
  have hR := RM_bid h (by omega) hF hC hH hw1 hw2 hq1 hq2 hN hz hp hpc hpo hc60
  rw [if_pos (Int32.le_refl _), if_pos (Int32.le_refl _), place_nI, show 16 * C + H = C * 16 + H by omega]
  simp only [bnd]
  rw [show (((nI (835 * 6) + 243) + (6 * nI (C * 16 + H))) + nI F) = nI (835 * 6 + 243 + 6 * (C * 16 + H) + F) from ix6 _ 243 _ _, show (((nI (835 * 6) + 531) + (6 * nI (C * 16 + H))) + nI F) = nI (835 * 6 + 531 + 6 * (C * 16 + H) + F) from ix6 _ 531 _ _, if_pos (ib_nI (by omega) (by omega)), if_pos (ib_nI (by omega) (by omega)), nI_clamp (by omega), nI_clamp (by omega)]
  have hfo := mm_for (M := (upd (upd (cpS M.1 0 6 835) (835 * 6 + 243 + 6 * (C * 16 + H) + F) (nI w)) (835 * 6 + 531 + 6 * (C * 16 + H) + F) (nI q), M.2)) hR.2.2.1 hB hK
  rw [show fX9_bidsFor _ (nI (835 * 6)) (nI (C * 16 + H)) = _ from hfo, cc_forN _ hK, Option.bind_some, Option.bind_some]
  dsimp only
  rw [if_pos (nI_pos' (Nat.lt_of_le_of_lt (nsum_cap (fun j => pos1n_le _)) (by omega)))]
  have hO2 : Out (cpS M.1 0 6 835) (upd (upd (cpS M.1 0 6 835) (835 * 6 + 243 + 6 * (C * 16 + H) + F) (nI w)) (835 * 6 + 531 + 6 * (C * 16 + H) + F) (nI q)) (835 * 6) := fun i hi => by rw [upd_n (by omega), upd_n (by omega)]
  obtain ⟨hd, hW, hb, hcn', hs, hf, ht⟩ := id h
  obtain ⟨b1, b2, o, wo, b3, b4, b5, b6, b7⟩ := hb F _ hF hK
  obtain ⟨w1, w2, d, hdd, w3⟩ := hW H hH
  have hm : (C * 16 + H) % 16 = H := by omega
  have hb0 : brn (cpS M.1 0 6 835) (835 * 6) (C * 16 + H) F = 0 := by
    unfold brn
    rw [← b2, hz, ite_self]
  have hbo : ∀ f, f < 6 → f ≠ F → brn (upd (upd (cpS M.1 0 6 835) (835 * 6 + 243 + 6 * (C * 16 + H) + F) (nI w)) (835 * 6 + 531 + 6 * (C * 16 + H) + F) (nI q)) (835 * 6) (C * 16 + H) f = brn (cpS M.1 0 6 835) (835 * 6) (C * 16 + H) f := fun f hf6 hf' => by
    unfold brn
    rw [upd_n (by omega), upd_n (by omega), upd_n (by omega), upd_n (by omega), upd_n (by omega), upd_n (by omega)]
  have hbF : brn (upd (upd (cpS M.1 0 6 835) (835 * 6 + 243 + 6 * (C * 16 + H) + F) (nI w)) (835 * 6 + 531 + 6 * (C * 16 + H) + F) (nI q)) (835 * 6) (C * 16 + H) F = if 70 < w + d then 0 else nI q := by
    unfold brn
    rw [upd_n (show 835 * 6 + 243 + 6 * (C * 16 + H) + F ≠ 835 * 6 + 531 + 6 * (C * 16 + H) + F by omega), upd_s, upd_s, upd_n (by omega), upd_n (by omega), hm, ← w2, w3]
    exact ite_congr (propext (n70 (by omega) (by omega))) (fun _ => rfl) (fun _ => rfl)
  have e5 := zq_win hb hW hK
  have e6 := zq_hi hb hW hK (-5)
  rw [hif_true (by decide)] at e6
  rw [show (C * 16 + H) / 16 = C by omega, hm] at e5 e6
  unfold fX6_priceOf fX6_heaviestLift
  rw [rat_nI hH (by omega), slot_nI, e5, e6, w3, heav_nI hC hdd]
  rw [Option.bind_some, Option.bind_some]
  have hexc := hif_exc hb0 hbo (by omega) 6 (by omega)
  have hkeep : ∀ (S3 : AF), Out (upd (upd (cpS M.1 0 6 835) (835 * 6 + 243 + 6 * (C * 16 + H) + F) (nI w)) (835 * 6 + 531 + 6 * (C * 16 + H) + F) (nI q)) S3 (835 * 6) → INV (n + 1) X (S3, M.2) := fun S3 h3 => hrow S3 (hO2.trans h3)
  have hnone : bst (brn (upd (upd (cpS M.1 0 6 835) (835 * 6 + 243 + 6 * (C * 16 + H) + F) (nI w)) (835 * 6 + 531 + 6 * (C * 16 + H) + F) (nI q)) (835 * 6) (C * 16 + H)) (fun _ => true) 6 ≠ some F → ∃ S3, (INV (n + 1) X (S3, M.2)) ∧ ∃ z, z ≠ nI F ∧ fX9_awards (upd (upd (cpS M.1 0 6 835) (835 * 6 + 243 + 6 * (C * 16 + H) + F) (nI w)) (835 * 6 + 531 + 6 * (C * 16 + H) + F) (nI q), M.2) (nI (835 * 6)) (nI (C * 16 + H)) = some (z, (S3, M.2)) := fun hne => by
    cases hg : bst (brn (upd (upd (cpS M.1 0 6 835) (835 * 6 + 243 + 6 * (C * 16 + H) + F) (nI w)) (835 * 6 + 531 + 6 * (C * 16 + H) + F) (nI q)) (835 * 6) (C * 16 + H)) (fun _ => true) 6 with
    | none => exact ⟨_, hrow _ hO2, -1, fun e => n1_nI (f := F) (by omega) e.symm, mm_aw0 (M := (_, M.2)) hB hK hg⟩
    | some g =>
      have g6 := (bst_some hg).1
      exact ⟨_, hkeep _ (aw_Out _ hK g6 _), nI g, fun e => hne (by rw [hg, (nI_eq (by omega) (by omega)).mp e]), mm_aw (M := (_, M.2)) hB hK g6 hg⟩
  have lose : ∀ r : Int32, r = -5 → bst (brn (upd (upd (cpS M.1 0 6 835) (835 * 6 + 243 + 6 * (C * 16 + H) + F) (nI w)) (835 * 6 + 531 + 6 * (C * 16 + H) + F) (nI q)) (835 * 6) (C * 16 + H)) (fun _ => true) 6 ≠ some F → ∃ (r' : Int32) (M2 : MD), (some r).bind (fun zq3 => some zq3) = some r' ∧ (fX9_awards (upd (upd (cpS M.1 0 6 835) (835 * 6 + 243 + 6 * (C * 16 + H) + F) (nI w)) (835 * 6 + 531 + 6 * (C * 16 + H) + F) (nI q), M.2) 5010 (nI (C * 16 + H))).bind (fun zq4 => if zq4.1 = nI F then (if ib ((5010 + 147) + nI (C * 16 + H)) 5845 = true then some (zq4.2.1 (((5010 + 147) + nI (C * 16 + H)).toNatClampNeg), zq4.2) else none) else some ((-5), zq4.2)) = some (r', M2) ∧ INV (n + 1) X M2 := fun r hr hne => by
    subst hr
    obtain ⟨S3, hi, zz, hz1, hz2⟩ := hnone hne
    rw [show fX9_awards _ 5010 (nI (C * 16 + H)) = _ from hz2, Option.bind_some, Option.bind_some]
    dsimp only
    rw [if_neg hz1]
    exact ⟨_, _, rfl, rfl, hi⟩
  have win : ∀ r : Int32, r = hif (brn (cpS M.1 0 6 835) (835 * 6) (C * 16 + H)) (fun _ => true) 6 → bst (brn (upd (upd (cpS M.1 0 6 835) (835 * 6 + 243 + 6 * (C * 16 + H) + F) (nI w)) (835 * 6 + 531 + 6 * (C * 16 + H) + F) (nI q)) (835 * 6) (C * 16 + H)) (fun _ => true) 6 = some F → ∃ (r' : Int32) (M2 : MD), (some r).bind (fun zq3 => some zq3) = some r' ∧ (fX9_awards (upd (upd (cpS M.1 0 6 835) (835 * 6 + 243 + 6 * (C * 16 + H) + F) (nI w)) (835 * 6 + 531 + 6 * (C * 16 + H) + F) (nI q), M.2) 5010 (nI (C * 16 + H))).bind (fun zq4 => if zq4.1 = nI F then (if ib ((5010 + 147) + nI (C * 16 + H)) 5845 = true then some (zq4.2.1 (((5010 + 147) + nI (C * 16 + H)).toNatClampNeg), zq4.2) else none) else some ((-5), zq4.2)) = some (r', M2) ∧ INV (n + 1) X M2 := fun r hr hw => by
    have hz2 := mm_aw (M := (upd (upd (cpS M.1 0 6 835) (835 * 6 + 243 + 6 * (C * 16 + H) + F) (nI w)) (835 * 6 + 531 + 6 * (C * 16 + H) + F) (nI q), M.2)) hB hK hF hw
    rw [show fX9_awards _ 5010 (nI (C * 16 + H)) = _ from hz2, Option.bind_some, Option.bind_some]
    dsimp only
    rw [if_pos rfl, show ((5010 : Int32) + 147) + nI (C * 16 + H) = nI (835 * 6 + 147 + (C * 16 + H)) from ix2 (835 * 6) 147 _, if_pos (ib_nI (by omega) (by omega)), nI_clamp (by omega), (awS_in hK hF).2.2.1, hexc, ← hr]
    exact ⟨_, _, rfl, rfl, hkeep _ (aw_Out _ hK hF _)⟩
  by_cases z : 70 < w + d
  · rw [if_pos z] at hbF
    rw [if_neg (show ¬ nI w ≤ nI (min (70 - d) (20 + 20 * C)) from nI_ge (by omega) (by omega))]
    exact lose _ rfl (fun q9 => by have := (bst_some q9).2.2.2; rw [hbF] at this; exact absurd this (by decide))
  rw [if_neg z] at hbF
  rw [if_pos (show nI w ≤ nI (min (70 - d) (20 + 20 * C)) from nI_le (by omega) (by omega))]
  obtain ⟨x1, x2, x3⟩ := bst_add hb0 (by rw [hbF]; exact nI_lt (a := 0) (by omega) (by omega)) hbo 6 (by omega) hF
  rw [hbF] at x1 x2 x3
  rcases Int32.lt_or_le (hif (brn (cpS M.1 0 6 835) (835 * 6) (C * 16 + H)) (fun _ => true) 6) (nI q) with y | y
  · rw [if_pos y, if_pos y, ite_self]
    exact win _ rfl (x1 y).2
  rw [if_neg (Int32.not_lt.mpr y), if_neg (Int32.not_lt.mpr y)]
  by_cases y2 : nI q = hif (brn (cpS M.1 0 6 835) (835 * 6) (C * 16 + H)) (fun _ => true) 6
  · obtain ⟨j1, g, j2, j3, j4⟩ := x2 (nI_lt (a := 0) (by omega) (by omega)) y2.symm
    rw [if_pos y2, if_pos y2, j2]
    have g6 := (bst_some j2).1
    show ∃ r M2, (if nI g ≤ nI F then _ else _ : Option Int32).bind _ = _ ∧ _
    by_cases y3 : g < F
    · rw [if_pos (nI_le (by omega) (by omega))]
      exact lose _ rfl (by rw [j4, if_pos y3]; intro e; cases e; omega)
    · rw [if_neg (nI_ge (by omega) (by omega))]
      exact win _ rfl (by rw [j4, if_neg y3])
  · rw [if_neg y2, if_neg y2, ite_self]
    have y4 : nI q < hif (brn (cpS M.1 0 6 835) (835 * 6) (C * 16 + H)) (fun _ => true) 6 := by
      rcases Int32.lt_or_eq_of_le y with k | k
      · exact k
      · exact absurd k y2
    exact lose _ rfl (fun e => by
      rw [(x3 y4).2] at e
      have := (bst_some e).2.2.2
      rw [hb0] at this
      exact absurd this (by decide))
