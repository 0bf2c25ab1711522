/-! the start -/
def inS : Nat → AF
  | 0 => z0
  | n + 1 => upd (inS n) (2 + n) 100
theorem inS_out {i : Nat} : ∀ {n : Nat}, (i < 2 ∨ 2 + n ≤ i) → inS n i = 0
  | 0, _ => rfl
  | n + 1, h => by
    unfold inS
    rw [upd_n (by omega)]
    exact inS_out (by omega)
theorem inS_in : ∀ {n : Nat} (f : Nat), f < n → inS n (2 + f) = 100
  | 0, f, h => absurd h (by omega)
  | n + 1, f, h => by
    unfold inS
    by_cases e : f = n
    · subst e
      rw [upd_s]
    · rw [upd_n (by omega)]
      exact inS_in f (by omega)
theorem init_ok : INIT INV := fun A0 A1 A2 A3 => by
  have h1 := lpN (fun fu k => fX9_init_L0 fu (nI k) (inS k, 0, 0, z0, 0, 0, 0, z0, 0, -1, 0)) 6 _ (fun fu k hk => by
    show fX9_init_L0 (fu + 1) _ _ = _
    rw [fX9_init_L0, if_neg (nle6 hk), show (2 : Int32) + nI k = nI (2 + k) from nI_add 2 k, if_pos (ib_nI (by omega) (by omega)), nI_clamp (by omega), nI_1 k]
    rfl) (fun fu => by
    show fX9_init_L0 (fu + 1) _ _ = _
    rw [fX9_init_L0, if_pos ler6]) 1000 0 (by omega) (by omega)
  have h2 : fX9_init_L0 1000 0 (z0, 0, 0, z0, 0, 0, 0, z0, 0, -1, 0) = some (inS 6, 0, 0, z0, 0, 0, 0, z0, 0, -1, 0) := h1
  have h3 := mm_empties (upd (inS 6) 32 600, 0, 0, z0, 0, 0, 0, z0, 0, -1, 0) (sl := 0) (by omega)
  unfold fX9_init
  rw [h2, Option.bind_some]
  simp only [bnd]
  rw [show (32 : Int32).toNatClampNeg = 32 from rfl, show fX9_empties _ 0 = _ from h3, Option.bind_some]
  refine ⟨_, rfl, ⟨0, 0, ?_⟩, ⟨0, by omega, rfl, rfl, fun q => absurd q (by omega), fun q => absurd q (by omega), fun q => absurd q (by omega), fun q => absurd q (by omega)⟩, ⟨rfl, .inl rfl⟩, ⟨0, by omega, rfl, rfl, fun j hj => ⟨rfl, 0, by omega, rfl⟩⟩, .inl ⟨rfl, rfl, rfl⟩⟩
  have e3 := emB_in (S := emA (upd (upd (inS 6) 32 600) (835 * 0 + 1) 0) (835 * 0) 16) (B := 835 * 0) (n := 48) (by omega)
  have e2 : ∀ j, j < 16 → emB (emA (upd (upd (inS 6) 32 600) (835 * 0 + 1) 0) (835 * 0) 16) (835 * 0) 48 (835 * 0 + 35 + j) = 20 ∧ emB (emA (upd (upd (inS 6) 32 600) (835 * 0 + 1) 0) (835 * 0) 16) (835 * 0) 48 (835 * 0 + 819 + j) = 0 := fun j hj => by
    rw [emB_out (by omega) (by omega), emB_out (by omega) (by omega)]
    exact emA_in (by omega) j hj
  have e4 : ∀ i, i < 35 → i ≠ 1 → i ≠ 32 → emB (emA (upd (upd (inS 6) 32 600) (835 * 0 + 1) 0) (835 * 0) 16) (835 * 0) 48 i = inS 6 i := fun i h1 h2 h3 => by
    rw [emB_out (by omega) (by omega), emA_out (fun j hj => by omega), upd_n (by omega), upd_n h3]
  have e5 : emB (emA (upd (upd (inS 6) 32 600) (835 * 0 + 1) 0) (835 * 0) 16) (835 * 0) 48 1 = 0 := by
    rw [emB_out (by omega) (by omega), emA_out (fun j hj => by omega), show 835 * 0 + 1 = 1 from rfl, upd_s]
  have e6 : emB (emA (upd (upd (inS 6) 32 600) (835 * 0 + 1) 0) (835 * 0) 16) (835 * 0) 48 32 = 600 := by
    rw [emB_out (by omega) (by omega), emA_out (fun j hj => by omega), upd_n (by omega), upd_s]
  show RR (cN 0) 0 0 SD0 (emB (emA (upd (upd (inS 6) 32 600) (835 * 0 + 1) 0) (835 * 0) 16) (835 * 0) 48) 0
  generalize emB (emA (upd (upd (inS 6) 32 600) (835 * 0 + 1) 0) (835 * 0) 16) (835 * 0) 48 = T at e2 e3 e4 e5 e6 ⊢
  rw [Nat.mul_zero] at e2 e3
  have ez : ∀ i, (i = 0 ∨ 8 ≤ i) → i < 35 → i ≠ 32 → T i = 0 := fun i h1 h2 h3 => by
    rw [e4 i h2 (by omega) h3, inS_out (by omega)]
  refine ⟨⟨rfl, ez 0 (by omega) (by omega) (by omega), by omega, rfl, e5, by omega⟩, fun j hj => ?_, fun f k hf hk => ?_, ?_, fun k hk => ?_, fun f hf => ?_, ?_⟩
  · obtain ⟨q1, q2⟩ := e2 j hj
    show (0 : Int32) = _ ∧ rfill z0 16 20 j = _ ∧ ∃ w : Nat, w ≤ 99 ∧ rfill z0 16 20 j = nI w
    unfold rfill
    rw [if_pos hj, q1, q2]
    exact ⟨rfl, rfl, 20, by omega, rfl⟩
  · obtain ⟨q1, q2⟩ := (e3 k hk).2.2.2.2 f hf
    rw [q1, q2]
    exact ⟨rfl, rfl, 0, 0, by omega, rfl, rfl, fun q => absurd q (by omega), fun _ => ⟨rfl, rfl⟩⟩
  · show cntB z0 ≤ 60
    decide +kernel
  · obtain ⟨i1, i2, i3, i4, -⟩ := e3 k hk
    rw [i1, i2, i3, i4]
    show (0 : Int32) = 0 ∧ (0 : Int32) = 0 ∧ (∃ p : Nat, p ≤ 999 ∧ (0 : Int32) = nI p) ∧ ((rfill z0 48 (-5) k = -5 ∧ _) ∨ _) ∧ _ ∧ _
    unfold rfill
    rw [if_pos hk]
    exact ⟨rfl, rfl, ⟨0, by omega, rfl⟩, .inl ⟨rfl, rfl⟩, fun q => absurd q (Nat.not_lt_zero _), fun _ => rfl⟩
  · rw [ez (0 + 8 + f) (by omega) (by omega) (by omega), ez (0 + 14 + f) (by omega) (by omega) (by omega), ez (0 + 20 + f) (by omega) (by omega) (by omega), e4 (0 + 2 + f) (by omega) (by omega) (by omega), show 0 + 2 + f = 2 + f by omega, inS_in f hf]
    show rfill z0 6 100 f = _ ∧ _ ∧ _ ∧ _ ∧ ∃ p : Nat, p ≤ cN 0 ∧ rfill z0 6 100 f = nI p ∧ _
    unfold rfill
    rw [if_pos hf]
    refine ⟨rfl, rfl, rfl, rfl, 100, by unfold cN; omega, rfl, ?_⟩
    show ofB z0 f ≤ 100
    have e : ofB z0 f = 0 := nsum_0
    omega
  · exact ⟨(ez 27 (by omega) (by omega) (by omega)).symm, (ez 28 (by omega) (by omega) (by omega)).symm, (ez 29 (by omega) (by omega) (by omega)).symm, (ez 30 (by omega) (by omega) (by omega)).symm, (ez 31 (by omega) (by omega) (by omega)).symm, e6.symm, (ez 33 (by omega) (by omega) (by omega)).symm, (ez 26 (by omega) (by omega) (by omega)).symm, (ez 34 (by omega) (by omega) (by omega)).symm⟩
