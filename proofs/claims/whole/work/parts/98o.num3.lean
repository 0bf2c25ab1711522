theorem mm_number {len i : Nat} {ok : Bool} {w : PD} {M : MD} (h : RDR len i ok w M) {lo hi : Nat} (hlo : lo ≤ 1) (hhi : hi ≤ 999) : (¬ (ok = true ∧ i < len ∧ ∃ q, 48 + lo ≤ q ∧ q ≤ min 57 (48 + hi) ∧ M.2.2.2.1 i = nI q) ∧ fX9_number M (nI lo) (nI hi) = some (0, mdS M (nI i) 0)) ∨ (ok = true ∧ i < len ∧ ∃ q, 48 + lo ≤ q ∧ q ≤ min 57 (48 + hi) ∧ M.2.2.2.1 i = nI q ∧ fX9_number M (nI lo) (nI hi) = (fX9_number_L0 (nI hi) 1000 (nI (q - 48)) (mdS M (nI (i + 1)) 1)).bind (fun zq14 => some (zq14.1, zq14.2))) := by
  obtain ⟨h1, h2, h3, h4, h5, h6, h7, h8, h9⟩ := id h
  have zero : ∀ n, fX9_number_L0 (nI hi) (n + 1) 0 (mdS M (nI i) 0) = some (0, mdS M (nI i) 0) := fun n => by
    rw [fX9_number_L0, if_pos (Int32.le_refl _)]
  unfold fX9_number
  sorry
