/-! rows copied; the states kept -/
def cpS (S : AF) (a b n : Nat) : AF := fun i => if 835 * b ≤ i ∧ i < 835 * b + n then S (835 * a + (i - 835 * b)) else S i
theorem cpS_in {S : AF} {a b j : Nat} (hj : j < 835) : cpS S a b 835 (835 * b + j) = S (835 * a + j) := by
  unfold cpS
  rw [if_pos (by omega), show 835 * b + j - 835 * b = j by omega]
theorem cpS_out {S : AF} {a b n i : Nat} (h : i < 835 * b ∨ 835 * b + n ≤ i) : cpS S a b n i = S i := by
  unfold cpS
  rw [if_neg (by omega)]
theorem mm_copies (M : MD) {a b : Nat} (ha : a ≤ 6) (hb : b ≤ 6) (hab : a ≠ b) : fX9_copies M (nI a) (nI b) = some (cpS M.1 a b 835, M.2) := by
  have h1 := lpN (fun fu k => fX9_copies_L0 (nI a) (nI b) fu (nI k) (cpS M.1 a b k, M.2)) 835 _ (fun fu k hk => by
    show fX9_copies_L0 (nI a) (nI b) (fu + 1) _ _ = _
    rw [fX9_copies_L0, if_neg (nle835 hk), b835, b835, nI_add, nI_add, if_pos (ib_nI (by omega) (by omega)), if_pos (ib_nI (by omega) (by omega)), nI_clamp (by omega), nI_clamp (by omega), nI_1]
    simp only [bnd]
    have e : upd (cpS M.1 a b k) (835 * b + k) (cpS M.1 a b k (835 * a + k)) = cpS M.1 a b (k + 1) := by
      funext i
      by_cases q : i = 835 * b + k
      · subst q
        rw [upd_s, cpS_out (by omega)]
        unfold cpS
        rw [if_pos (by omega), show 835 * b + k - 835 * b = k by omega]
      · rw [upd_n q]
        unfold cpS
        by_cases q2 : 835 * b ≤ i ∧ i < 835 * b + k
        · rw [if_pos q2, if_pos (by omega)]
        · rw [if_neg q2, if_neg (by omega)]
    rw [e]) (fun fu => by
    show fX9_copies_L0 (nI a) (nI b) (fu + 1) _ _ = _
    rw [fX9_copies_L0, if_pos ler835]) 1000 0 (by omega) (by omega)
  have e0 : cpS M.1 a b 0 = M.1 := by
    funext i
    exact cpS_out (by omega)
  have h2 : fX9_copies_L0 (nI a) (nI b) 1000 (nI 0) (cpS M.1 a b 0, M.2) = some (cpS M.1 a b 835, M.2) := h1
  rw [e0] at h2
  unfold fX9_copies
  rw [show fX9_copies_L0 (nI a) (nI b) 1000 0 M = _ from h2]
  rfl
def RX (c : Nat) (x : SD) (S : AF) (B : Nat) : Prop := ∃ N D, RR c N D x S B
theorem RX.to {c c' : Nat} {x : SD} {S S' : AF} {B B' : Nat} (h : RX c x S B) (hc : c ≤ c') (e : ∀ j, j < 835 → S' (B' + j) = S (B + j)) : RX c' x S' B' := by
  obtain ⟨N, D, h⟩ := h
  exact ⟨N, D, RM.to h hc e⟩
def HR (c : Nat) (u : HDT) (S : AF) (st : Int32) : Prop := ∃ k, k ≤ 4 ∧ u.1 = nI k ∧ st = nI k ∧ (1 ≤ k → RX c u.2.1.2 S 835) ∧ (2 ≤ k → RX c u.2.2.1.2 S 1670) ∧ (3 ≤ k → RX c u.2.2.2.1.2 S 2505) ∧ (4 ≤ k → RX c u.2.2.2.2.2 S 3340)
theorem HR.to {c c' : Nat} {u : HDT} {S S' : AF} {st : Int32} (h : HR c u S st) (hc : c ≤ c') (e : ∀ i, 835 ≤ i → i < 4175 → S' i = S i) : HR c' u S' st := by
  obtain ⟨k, h1, h2, h3, h4, h5, h6, h7⟩ := h
  exact ⟨k, h1, h2, h3, fun q => (h4 q).to hc (fun j hj => e _ (by omega) (by omega)), fun q => (h5 q).to hc (fun j hj => e _ (by omega) (by omega)), fun q => (h6 q).to hc (fun j hj => e _ (by omega) (by omega)), fun q => (h7 q).to hc (fun j hj => e _ (by omega) (by omega))⟩
theorem sim_store {c : Nat} {u : HDT} {M : MD} {y : SD} (h : HR c u M.1 M.2.1) (hy : RX c y M.1 0) : ∃ (u' : HDT) (S' : AF) (st : Int32), fX2_store u y = some u' ∧ fX9_records M = some (S', st, M.2.2) ∧ HR c u' S' st ∧ ∀ i, (i < 835 ∨ 4175 ≤ i) → S' i = M.1 i := by
  obtain ⟨k, h1, h2, h3, h4, h5, h6, h7⟩ := h
  unfold fX2_store fX9_records
  have hlt : ∀ j, j < 4 → k = j → fX9_copies (M.1, nI (j + 1), M.2.2.1, M.2.2.2.1, M.2.2.2.2.1, M.2.2.2.2.2.1, M.2.2.2.2.2.2.1, M.2.2.2.2.2.2.2.1, M.2.2.2.2.2.2.2.2.1, M.2.2.2.2.2.2.2.2.2.1, M.2.2.2.2.2.2.2.2.2.2) 0 (nI (j + 1)) = some (cpS M.1 0 (j + 1) 835, nI (j + 1), M.2.2) := fun j hj _ => mm_copies (a := 0) (b := j + 1) (M.1, nI (j + 1), M.2.2) (by omega) (by omega) (by omega)
  rcases (show k = 0 ∨ k = 1 ∨ k = 2 ∨ k = 3 ∨ k = 4 by omega) with rfl | rfl | rfl | rfl | rfl
  · rw [h2, h3, if_neg (show ¬ nI 0 = 4 by decide), if_neg (show ¬ nI 0 = 4 by decide), if_pos (show nI 0 = 0 from rfl)]
    refine ⟨_, cpS M.1 0 1 835, nI 1, rfl, ?_, ⟨1, by omega, rfl, rfl, fun _ => hy.to (Nat.le_refl _) (fun j hj => ?_), fun q => absurd q (by omega), fun q => absurd q (by omega), fun q => absurd q (by omega)⟩, fun i hi => cpS_out (by omega)⟩
    · simp only [bnd]
      rw [show nI 0 + 1 = nI (0 + 1) from nI_1 0, hlt 0 (by omega) rfl]
      rfl
    · rw [Nat.zero_add]
      exact (cpS_in (b := 1) hj).trans (by rw [Nat.mul_zero, Nat.zero_add])
  · rw [h2, h3, if_neg (show ¬ nI 1 = 4 by decide), if_neg (show ¬ nI 1 = 4 by decide), if_neg (show ¬ nI 1 = 0 by decide), if_pos (show nI 1 = 1 from rfl)]
    refine ⟨_, cpS M.1 0 2 835, nI 2, rfl, ?_, ⟨2, by omega, rfl, rfl, fun _ => (h4 (by omega)).to (Nat.le_refl _) (fun j hj => cpS_out (by omega)), fun _ => hy.to (Nat.le_refl _) (fun j hj => ?_), fun q => absurd q (by omega), fun q => absurd q (by omega)⟩, fun i hi => cpS_out (by omega)⟩
    · simp only [bnd]
      rw [show nI 1 + 1 = nI (1 + 1) from nI_1 1, hlt 1 (by omega) rfl]
      rfl
    · rw [Nat.zero_add]
      exact (cpS_in (b := 2) hj).trans (by rw [Nat.mul_zero, Nat.zero_add])
  · rw [h2, h3, if_neg (show ¬ nI 2 = 4 by decide), if_neg (show ¬ nI 2 = 4 by decide), if_neg (show ¬ nI 2 = 0 by decide), if_neg (show ¬ nI 2 = 1 by decide), if_pos (show nI 2 = 2 from rfl)]
    refine ⟨_, cpS M.1 0 3 835, nI 3, rfl, ?_, ⟨3, by omega, rfl, rfl, fun _ => (h4 (by omega)).to (Nat.le_refl _) (fun j hj => cpS_out (by omega)), fun _ => (h5 (by omega)).to (Nat.le_refl _) (fun j hj => cpS_out (by omega)), fun _ => hy.to (Nat.le_refl _) (fun j hj => ?_), fun q => absurd q (by omega)⟩, fun i hi => cpS_out (by omega)⟩
    · simp only [bnd]
      rw [show nI 2 + 1 = nI (2 + 1) from nI_1 2, hlt 2 (by omega) rfl]
      rfl
    · rw [Nat.zero_add]
      exact (cpS_in (b := 3) hj).trans (by rw [Nat.mul_zero, Nat.zero_add])
  · rw [h2, h3, if_neg (show ¬ nI 3 = 4 by decide), if_neg (show ¬ nI 3 = 4 by decide), if_neg (show ¬ nI 3 = 0 by decide), if_neg (show ¬ nI 3 = 1 by decide), if_neg (show ¬ nI 3 = 2 by decide), if_pos (show nI 3 = 3 from rfl)]
    refine ⟨_, cpS M.1 0 4 835, nI 4, rfl, ?_, ⟨4, by omega, rfl, rfl, fun _ => (h4 (by omega)).to (Nat.le_refl _) (fun j hj => cpS_out (by omega)), fun _ => (h5 (by omega)).to (Nat.le_refl _) (fun j hj => cpS_out (by omega)), fun _ => (h6 (by omega)).to (Nat.le_refl _) (fun j hj => cpS_out (by omega)), fun _ => hy.to (Nat.le_refl _) (fun j hj => ?_)⟩, fun i hi => cpS_out (by omega)⟩
    · simp only [bnd]
      rw [show nI 3 + 1 = nI (3 + 1) from nI_1 3, hlt 3 (by omega) rfl]
      rfl
    · rw [Nat.zero_add]
      exact (cpS_in (b := 4) hj).trans (by rw [Nat.mul_zero, Nat.zero_add])
  · rw [h2, h3, if_pos (show nI 4 = 4 from rfl), if_pos (show nI 4 = 4 from rfl)]
    have e1 : fX9_records_L0 1000 1 M = some (cpS (cpS (cpS M.1 2 1 835) 3 2 835) 4 3 835, M.2) := by
      rw [fX9_records_L0, if_neg (show ¬ (4 : Int32) ≤ 1 by decide), show (1 : Int32) + 1 = nI 2 from rfl, show fX9_copies M (nI 2) 1 = _ from mm_copies (a := 2) (b := 1) M (by omega) (by omega) (by omega), Option.bind_some, fX9_records_L0, if_neg (show ¬ (4 : Int32) ≤ nI 2 by decide), show nI 2 + 1 = nI 3 from rfl, mm_copies (a := 3) (b := 2) _ (by omega) (by omega) (by omega), Option.bind_some, fX9_records_L0, if_neg (show ¬ (4 : Int32) ≤ nI 3 by decide), show nI 3 + 1 = nI 4 from rfl, mm_copies (a := 4) (b := 3) _ (by omega) (by omega) (by omega), Option.bind_some, fX9_records_L0, if_pos ler4]
    have hlt4 := mm_copies (a := 0) (b := 4) (cpS (cpS (cpS M.1 2 1 835) 3 2 835) 4 3 835, nI 4, M.2.2) (by omega) (by omega) (by omega)
    refine ⟨_, cpS (cpS (cpS (cpS M.1 2 1 835) 3 2 835) 4 3 835) 0 4 835, nI 4, rfl, ?_, ⟨4, by omega, rfl, rfl, fun _ => (h5 (by omega)).to (Nat.le_refl _) (fun j hj => ?_), fun _ => (h6 (by omega)).to (Nat.le_refl _) (fun j hj => ?_), fun _ => (h7 (by omega)).to (Nat.le_refl _) (fun j hj => ?_), fun _ => hy.to (Nat.le_refl _) (fun j hj => ?_)⟩, fun i hi => ?_⟩
    · rw [e1, Option.bind_some]
      simp only [bnd]
      rw [h3, show nI 4 - 1 + 1 = nI 4 from rfl, show fX9_copies _ 0 (nI 4) = _ from hlt4]
      rfl
    · rw [cpS_out (by omega), cpS_out (by omega), cpS_out (by omega)]
      exact cpS_in (b := 1) hj
    · rw [cpS_out (by omega), cpS_out (by omega)]
      exact (cpS_in (b := 2) hj).trans (cpS_out (by omega))
    · rw [cpS_out (by omega)]
      exact (cpS_in (b := 3) hj).trans ((cpS_out (by omega)).trans (cpS_out (by omega)))
    · rw [Nat.zero_add]
      exact (cpS_in (b := 4) hj).trans (by rw [Nat.mul_zero, Nat.zero_add, cpS_out (by omega), cpS_out (by omega), cpS_out (by omega)])
    · rw [cpS_out (by omega), cpS_out (by omega), cpS_out (by omega), cpS_out (by omega)]
