/-! the readers of a text: i the place, ok whether it was right so far -/
def okc (ok : Bool) : Int32 := if ok = true then 0 else 1
def okr (ok : Bool) : Int32 := if ok = true then 1 else 0
/-- text, length and place are those of the reference -/
def RDR (len i : Nat) (ok : Bool) (w : PD) (M : MD) : Prop := len ≤ 80 ∧ i ≤ len ∧ w.2.1 = nI len ∧ M.2.2.2.2.1 = nI len ∧ (∀ j, j < 80 → w.1 j = M.2.2.2.1 j ∧ ∃ q, q < 65536 ∧ w.1 j = nI q) ∧ w.2.2.1 = nI i ∧ w.2.2.2.1 = okc ok ∧ M.2.2.2.2.2.1 = nI i ∧ M.2.2.2.2.2.2.1 = okr ok
theorem rd_sign {len i : Nat} {ok : Bool} {w : PD} {M : MD} (h : RDR len i ok w M) : (i = len ∧ fX3_sign w = some (-1)) ∨ (i < len ∧ fX3_sign w = some (M.2.2.2.1 i) ∧ ∃ q, q < 65536 ∧ M.2.2.2.1 i = nI q) := by
  obtain ⟨h1, h2, h3, h4, h5, h6, h7, h8, h9⟩ := h
  unfold fX3_sign
  rw [h3, h6, if_neg (nI_pos (by omega))]
  by_cases z : i = len
  · exact .inl ⟨z, if_pos (nI_le (by omega) (by omega))⟩
  · obtain ⟨e1, q, e2, e3⟩ := h5 i (by omega)
    refine .inr ⟨by omega, ?_, q, e2, by rw [← e1, e3]⟩
    rw [if_neg (nI_ge (by omega) (by omega)), if_neg (show ¬ 80 ≤ nI i from nI_ge (b := 80) (by omega) (by omega)), if_pos (ib_nI (by omega) (by omega)), nI_clamp (by omega), e1]
