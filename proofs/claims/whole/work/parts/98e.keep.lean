theorem sim_stopped : SIM_stopped INV := fun n X M hI hn p1 => by
  have hnop := INV_nop n X M hI hn
  refine ⟨_, rfl, ?_, hnop⟩
  obtain ⟨-, -, -, -, h5⟩ := hI
  unfold fX9_stopped fX8_stopped
  rcases rgI p1 0 1 (by omega) (by omega) with h | ⟨j, -, h2, rfl⟩
  · rw [if_pos (show fX9_in p1 0 1 = 0 from in0 h), if_neg (show ¬ p1 = 0 by rintro rfl; rcases h with h | h <;> exact absurd h (by decide)), if_neg (show ¬ p1 = 1 by rintro rfl; rcases h with h | h <;> exact absurd h (by decide))]
  · have e : ¬ fX9_in (nI j) 0 1 = 0 := by
      rw [show fX9_in (nI j) 0 1 = 1 from in1 (lo := 0) (hi := 1) (by omega) h2 (by omega)]
      exact o10
    rw [if_neg e]
    rcases (show j = 0 ∨ j = 1 by omega) with rfl | rfl
    · rw [if_pos (show nI 0 = 0 from rfl), if_pos (show nI 0 = 0 from rfl)]
      rcases h5 with ⟨a, b, c⟩ | ⟨k, hk, a, b, c⟩
      · rw [a, c]
        rfl
      · rw [a, b, if_pos (nI_pos' (by omega))]
    · rw [if_neg (show ¬ nI 1 = 0 by decide), if_neg (show ¬ nI 1 = 0 by decide), if_pos (show nI 1 = 1 from rfl)]
      rcases h5 with ⟨a, b, c⟩ | ⟨k, hk, a, b, c⟩
      · rw [b, c]
        rfl
      · rw [c, b, if_pos (nI_pos' (by omega))]
theorem nar_nI (v : Int32) : ∃ q, q < 65536 ∧ vp_nar .char v = nI q := by
  rw [vp_nar_char, UInt32.toUInt32_toUInt16]
  exact ⟨_, Nat.mod_lt _ (by omega), pk_char v⟩
theorem sim_clearText : SIM_clearText INV := fun n X M hI hn => by
  obtain ⟨h1, h2, h3, ⟨len, t1, t2, t3, t4⟩, h5⟩ := INV_nop n X M hI hn
  refine ⟨_, _, (M.1, M.2.1, M.2.2.1, M.2.2.2.1, 0, M.2.2.2.2.2), rfl, ?_, h1, h2, h3, ⟨0, by omega, rfl, rfl, t4⟩, h5⟩
  unfold fX9_clearText
  rw [t3]
  exact Prod.ext t2.symm rfl
theorem sim_type : SIM_type INV := fun n X M hI hn p1 => by
  have hI2 := INV_nop n X M hI hn
  obtain ⟨h1, h2, h3, ⟨len, t1, t2, t3, t4⟩, h5⟩ := id hI2
  unfold fX8_type fX3_append fX9_type
  rw [t2, t3, if_neg (nI_pos (by omega))]
  by_cases z : len = 80
  · subst z
    rw [if_neg (show ¬ nI 80 < 80 by decide), if_pos (show nI 80 = 80 from rfl), Option.bind_some]
    exact ⟨_, _, _, rfl, rfl, hI2⟩
  rw [if_pos (show nI len < 80 from nI_lt (b := 80) (by omega) (by omega)), if_neg (show ¬ nI len = 80 from fun q => z ((nI_eq (b := 80) (by omega) (by omega)).mp q)), if_pos (ib_nI (by omega) (by omega)), if_pos (ib_nI (by omega) (by omega)), nI_clamp (by omega)]
  simp only [bnd]
  rw [Option.bind_some, nI_1]
  refine ⟨_, _, _, rfl, rfl, h1, h2, h3, ⟨len + 1, by omega, rfl, rfl, fun j hj => ?_⟩, h5⟩
  show upd _ len _ j = upd _ len _ j ∧ ∃ q, q < 65536 ∧ upd _ len _ j = nI q
  by_cases e : j = len
  · subst e
    rw [upd_s, upd_s]
    exact ⟨rfl, nar_nI p1⟩
  · rw [upd_n e, upd_n e]
    exact t4 j hj
theorem sim_keep : SIM_keep INV := fun n X M hI hn => by
  obtain ⟨h1, h2, h3, h4, h5⟩ := INV_nop n X M hI hn
  unfold fX8_keep fX9_keep
  rw [cc_all, Option.bind_some, show fX9_copies M 0 5 = _ from mm_copies (a := 0) (b := 5) M (by omega) (by omega) (by omega), Option.bind_some]
  obtain ⟨N, D, h⟩ := id h1
  have hb : RB X.2.1.2.2.2.2.1 (fun k => k % 16 < N) (cpS M.1 0 5 835) 0 := (RM.to (B' := 0) (S' := cpS M.1 0 5 835) h (Nat.le_refl _) (fun j hj => cpS_out (by omega))).2.2.1
  rw [show fX9_bids _ 0 = _ from mm_all (M := (cpS M.1 0 5 835, M.2.1, 1, M.2.2.2)) (B := 0) hb (by omega), Option.bind_some]
  exact ⟨_, _, _, _, rfl, rfl, h1.to (Nat.le_refl _) (fun j hj => cpS_out (by omega)), h2.to (Nat.le_refl _) (fun i a b => cpS_out (by omega)), ⟨rfl, .inr ⟨rfl, h1.to (Nat.le_refl _) (fun j hj => (cpS_in (b := 5) hj).trans (by rw [Nat.mul_zero]))⟩⟩, h4, h5⟩
theorem sim_restore : SIM_restore INV := fun n X M hI hn => by
  have hI2 := INV_nop n X M hI hn
  obtain ⟨h1, h2, ⟨k1, k2⟩, h4, h5⟩ := id hI2
  unfold fX8_restore fX9_restore
  rw [← k1]
  rcases k2 with k2 | ⟨k2, h6⟩
  · rw [if_pos k2, if_pos k2]
    exact ⟨_, _, _, _, _, rfl, rfl, hI2⟩
  rw [if_neg (show ¬ X.1.1 = 0 by rw [k2]; exact o10), if_neg (show ¬ X.1.1 = 0 by rw [k2]; exact o10), cc_all, Option.bind_some]
  obtain ⟨N, D, h⟩ := id h6
  obtain ⟨wh, S1, st, e1, e2, e3, e4⟩ := rec0 hI (r := nI (cntB X.2.2.2.2.1.2.2.2.2.1.2)) (nI_pos (by have := h.2.2.2.1; omega))
  obtain ⟨u', S1', st', d1, d2, d3, d4⟩ := sim_store h2 h1
  have hS : S1' = S1 := by
    rw [e2] at d2
    cases d2
    rfl
  subst hS
  have h7 : RX (cN (n + 1)) X.2.2.2.2.1 (cpS S1' 5 0 835) 0 := h6.to (Nat.le_refl _) (fun j hj => (cpS_in (b := 0) hj).trans (d4 _ (by omega)))
  obtain ⟨N', D', h8⟩ := id h7
  rw [e1, e2, Option.bind_some, Option.bind_some, show fX9_copies _ 5 0 = _ from mm_copies (a := 5) (b := 0) (S1', st, M.2.2) (by omega) (by omega) (by omega), Option.bind_some, show fX9_bids _ 0 = _ from mm_all (M := (cpS S1' 5 0 835, st, M.2.2)) (B := 0) h8.2.2.1 (by omega), Option.bind_some]
  exact ⟨_, _, _, _, _, rfl, rfl, e4 _ _ h7 (fun i hi => cpS_out (by omega))⟩
theorem cp0 {S : AF} {j : Nat} (hj : j < 835) (a B : Nat) (hB : B = 835 * a) : cpS S a 0 835 (0 + j) = S (B + j) := by
  subst hB
  have h := cpS_in (S := S) (a := a) (b := 0) hj
  rw [Nat.mul_zero] at h
  exact h
theorem sim_undo : SIM_undo INV := fun n X M hI hn => by
  have hI2 := INV_nop n X M hI hn
  obtain ⟨h1, ⟨k, u1, u2, u3, u4, u5, u6, u7⟩, h3, h4, h5⟩ := id hI2
  unfold fX8_undo fX2_takeLatest fX9_undo
  rcases (show k = 0 ∨ k = 1 ∨ k = 2 ∨ k = 3 ∨ k = 4 by omega) with rfl | rfl | rfl | rfl | rfl
  · rw [u2, u3, if_pos (show nI 0 = 0 from rfl), if_pos (show nI 0 = 0 from rfl), Option.bind_some]
    exact ⟨_, _, _, _, rfl, rfl, hI2⟩
  · rw [u2, u3, if_neg (show ¬ nI 1 = 0 by decide), if_neg (show ¬ nI 1 = 0 by decide), if_pos (show nI 1 = 1 from rfl), Option.bind_some, show fX9_copies M (nI 1) 0 = _ from mm_copies (a := 1) (b := 0) M (by omega) (by omega) (by omega), Option.bind_some]
    simp only [bnd]
    rw [u3, show nI 1 - 1 = nI 0 from nI_pred 0]
    exact ⟨_, _, _, _, rfl, rfl, (u4 (by omega)).to (Nat.le_refl _) (fun j hj => cp0 hj 1 835 (by omega)), ⟨0, by omega, rfl, rfl, fun q => absurd q (by omega), fun q => absurd q (by omega), fun q => absurd q (by omega), fun q => absurd q (by omega)⟩, h3.to (Nat.le_refl _) (fun i a b => cpS_out (by omega)), h4, h5⟩
  · rw [u2, u3, if_neg (show ¬ nI 2 = 0 by decide), if_neg (show ¬ nI 2 = 0 by decide), if_neg (show ¬ nI 2 = 1 by decide), if_pos (show nI 2 = 2 from rfl), Option.bind_some, show fX9_copies M (nI 2) 0 = _ from mm_copies (a := 2) (b := 0) M (by omega) (by omega) (by omega), Option.bind_some]
    simp only [bnd]
    rw [u3, show nI 2 - 1 = nI 1 from nI_pred 1]
    exact ⟨_, _, _, _, rfl, rfl, (u5 (by omega)).to (Nat.le_refl _) (fun j hj => cp0 hj 2 1670 (by omega)), ⟨1, by omega, rfl, rfl, fun q => (u4 (by omega)).to (Nat.le_refl _) (fun j hj => cpS_out (by omega)), fun q => absurd q (by omega), fun q => absurd q (by omega), fun q => absurd q (by omega)⟩, h3.to (Nat.le_refl _) (fun i a b => cpS_out (by omega)), h4, h5⟩
  · rw [u2, u3, if_neg (show ¬ nI 3 = 0 by decide), if_neg (show ¬ nI 3 = 0 by decide), if_neg (show ¬ nI 3 = 1 by decide), if_neg (show ¬ nI 3 = 2 by decide), if_pos (show nI 3 = 3 from rfl), Option.bind_some, show fX9_copies M (nI 3) 0 = _ from mm_copies (a := 3) (b := 0) M (by omega) (by omega) (by omega), Option.bind_some]
    simp only [bnd]
    rw [u3, show nI 3 - 1 = nI 2 from nI_pred 2]
    exact ⟨_, _, _, _, rfl, rfl, (u6 (by omega)).to (Nat.le_refl _) (fun j hj => cp0 hj 3 2505 (by omega)), ⟨2, by omega, rfl, rfl, fun q => (u4 (by omega)).to (Nat.le_refl _) (fun j hj => cpS_out (by omega)), fun q => (u5 (by omega)).to (Nat.le_refl _) (fun j hj => cpS_out (by omega)), fun q => absurd q (by omega), fun q => absurd q (by omega)⟩, h3.to (Nat.le_refl _) (fun i a b => cpS_out (by omega)), h4, h5⟩
  · rw [u2, u3, if_neg (show ¬ nI 4 = 0 by decide), if_neg (show ¬ nI 4 = 0 by decide), if_neg (show ¬ nI 4 = 1 by decide), if_neg (show ¬ nI 4 = 2 by decide), if_neg (show ¬ nI 4 = 3 by decide), if_pos (show nI 4 = 4 from rfl), Option.bind_some, show fX9_copies M (nI 4) 0 = _ from mm_copies (a := 4) (b := 0) M (by omega) (by omega) (by omega), Option.bind_some]
    simp only [bnd]
    rw [u3, show nI 4 - 1 = nI 3 from nI_pred 3]
    exact ⟨_, _, _, _, rfl, rfl, (u7 (by omega)).to (Nat.le_refl _) (fun j hj => cp0 hj 4 3340 (by omega)), ⟨3, by omega, rfl, rfl, fun q => (u4 (by omega)).to (Nat.le_refl _) (fun j hj => cpS_out (by omega)), fun q => (u5 (by omega)).to (Nat.le_refl _) (fun j hj => cpS_out (by omega)), fun q => (u6 (by omega)).to (Nat.le_refl _) (fun j hj => cpS_out (by omega)), fun q => absurd q (by omega)⟩, h3.to (Nat.le_refl _) (fun i a b => cpS_out (by omega)), h4, h5⟩
