theorem cc_number {len i fu : Nat} {ok : Bool} {w : PD} {M : MD} (h : RDR len i ok w M) {lo hi : Nat} (hlo : lo ≤ 1) (hhi : hi ≤ 999) : (¬ (ok = true ∧ i < len ∧ ∃ q, 48 + lo ≤ q ∧ q ≤ min 57 (48 + hi) ∧ M.2.2.2.1 i = nI q) ∧ fX3_number_L0 (nI lo) (nI hi) (fu + 1) 0 0 w = some (0, pdS w (nI i) 1)) ∨ (ok = true ∧ i < len ∧ ∃ q, 48 + lo ≤ q ∧ q ≤ min 57 (48 + hi) ∧ M.2.2.2.1 i = nI q ∧ fX3_number_L0 (nI lo) (nI hi) (fu + 1) 0 0 w = fX3_number_L0 (nI lo) (nI hi) fu (nI (q - 48)) (nI 1) (pdS w (nI (i + 1)) 0)) := by
  have hs := rd_sign h
  obtain ⟨h1, h2, h3, h4, h5, h6, h7, h8, h9⟩ := id h
  rw [fX3_number_L0]
  cases ok with
  | false =>
    refine .inl ⟨fun z => absurd z.1 (by decide), ?_⟩
    rw [if_neg (show ¬ w.2.2.2.1 = 0 by rw [h7]; decide)]
    unfold pdS
    rw [← h6, show (1 : Int32) = w.2.2.2.1 by rw [h7]; rfl]
  | true =>
    rw [if_pos (show w.2.2.2.1 = 0 by rw [h7]; rfl), if_neg (show ¬ (3 : Int32) ≤ 0 by decide)]
    rcases hs with ⟨s1, s2⟩ | ⟨s1, s2, q, s3, s4⟩
    · refine .inl ⟨fun z => by omega, ?_⟩
      rw [s2, h6]
      rfl
    · rw [s2, s4, Option.bind_some, h6]
      have e1 : nI q - 48 < 0 ∨ (48 ≤ q ∧ nI q - 48 = nI (q - 48)) := by
        by_cases y : q < 48
        · exact .inl (pk_sneg (b := 48) (by omega) y)
        · exact .inr ⟨by omega, pk_sub (b := 48) (by omega)⟩
      have no : ¬ (48 + lo ≤ q ∧ q ≤ min 57 (48 + hi)) → ¬ (true = true ∧ i < len ∧ ∃ q, 48 + lo ≤ q ∧ q ≤ min 57 (48 + hi) ∧ M.2.2.2.1 i = nI q) := fun z y => by
        obtain ⟨-, -, q', a, b, c⟩ := y
        rw [s4] at c
        have := (nI_eq (by omega) (by omega)).mp c
        exact z (by omega)
      simp only [if_pos (show (0 : Int32) = 0 from rfl)]
      rcases e1 with e1 | ⟨e1, e2⟩
      · rw [if_pos e1]
        have : q < 48 := by
          by_cases y : q < 48
          · exact y
          · exact absurd e1 (by rw [show nI q - 48 = nI (q - 48) from pk_sub (b := 48) (by omega)]; exact nI_pos (by omega))
        exact .inl ⟨by have hno := no (by omega); intro hz; rw [← s4] at hz; exact hno ⟨rfl, hz.2⟩, rfl⟩
      rw [e2, if_neg (nI_pos (by omega))]
      by_cases y1 : 9 < q - 48
      · rw [if_pos (show (9 : Int32) < nI (q - 48) from nI_lt (a := 9) y1 (by omega))]
        exact .inl ⟨by have hno := no (by omega); intro hz; rw [← s4] at hz; exact hno ⟨rfl, hz.2⟩, rfl⟩
      rw [if_neg (show ¬ (9 : Int32) < nI (q - 48) from nI_nlt (a := 9) (by omega) (by omega)), show (0 : Int32) * 10 + nI (q - 48) = nI (q - 48) by rw [show (0 : Int32) * 10 = nI 0 from rfl, nI_add, Nat.zero_add]]
      by_cases y2 : hi < q - 48
      · rw [if_pos (nI_lt y2 (by omega))]
        exact .inl ⟨by have hno := no (by omega); intro hz; rw [← s4] at hz; exact hno ⟨rfl, hz.2⟩, rfl⟩
      rw [if_neg (nI_nlt (by omega) (by omega))]
      by_cases y3 : lo ≤ q - 48
      · rw [if_pos (nI_le y3 (by omega))]
        simp only [bnd]
        rw [nI_1, h7, show (0 : Int32) + 1 = nI 1 from rfl, show okc true = 0 from rfl]
        unfold pdS
        exact .inr ⟨trivial, s1, q, by omega, by omega, rfl, rfl⟩
      · rw [if_neg (nI_ge (by omega) (by omega))]
        exact .inl ⟨by have hno := no (by omega); intro hz; rw [← s4] at hz; exact hno ⟨rfl, hz.2⟩, rfl⟩
