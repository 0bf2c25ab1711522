/-! the readers of a text: i the place, ok whether it was right so far -/
def okc (ok : Bool) : Int32 := if ok = true then 0 else 1
def okr (ok : Bool) : Int32 := if ok = true then 1 else 0
/-- text, length and place are those of the reference -/
def RDR (len i : Nat) (ok : Bool) (w : PD) (M : MD) : Prop := len ≤ 80 ∧ i ≤ len ∧ w.2.1 = nI len ∧ M.2.2.2.2.1 = nI len ∧ (∀ j, j < 80 → w.1 j = M.2.2.2.1 j ∧ ∃ q, q < 65536 ∧ w.1 j = nI q) ∧ w.2.2.1 = nI i ∧ w.2.2.2.1 = okc ok ∧ M.2.2.2.2.2.1 = nI i ∧ M.2.2.2.2.2.2.1 = okr ok
theorem rd_sign {len i : Nat} {ok : Bool} {w : PD} {M : MD} (h : RDR len i ok w M) : (i = len ∧ fX3_sign w = some (-1)) ∨ (i < len ∧ fX3_sign w = some (M.2.2.2.1 i) ∧ ∃ q, q < 65536 ∧ M.2.2.2.1 i = nI q) := by
  obtain ⟨h1, h2, h3, h4, h5, h6, h7, h8, h9⟩ := h
  unfold fX3_sign
  rw [h3, h6, if_neg (nI_pos (by omega))]
  by_cases z : i = len
  · exact .inl ⟨z, if_pos (nI_le (by omega) (by omega))⟩
  · obtain ⟨e1, q, e2, e3⟩ := h5 i (by omega)
    refine .inr ⟨by omega, ?_, q, e2, by rw [← e1, e3]⟩
    rw [if_neg (nI_ge (by omega) (by omega)), if_neg (show ¬ 80 ≤ nI i from nI_ge (b := 80) (by omega) (by omega)), if_pos (ib_nI (by omega) (by omega)), nI_clamp (by omega), e1]
def pdS (w : PD) (a b : Int32) : PD := (w.1, w.2.1, a, b, w.2.2.2.2)
def mdS (M : MD) (a b : Int32) : MD := (M.1, M.2.1, M.2.2.1, M.2.2.2.1, M.2.2.2.2.1, a, b, M.2.2.2.2.2.2.2)
theorem rd_next {len i : Nat} {ok : Bool} {w : PD} {M : MD} (h : RDR len i ok w M) (lo hi : Nat) (hlo : lo < 2 ^ 31) (hhi : hi < 2 ^ 31) : (fX9_isNext M (nI lo) (nI hi) = some 0 ∧ ¬ (ok = true ∧ i < len ∧ ∃ q, lo ≤ q ∧ q ≤ hi ∧ M.2.2.2.1 i = nI q)) ∨ (fX9_isNext M (nI lo) (nI hi) = some 1 ∧ ok = true ∧ i < len ∧ ∃ q, q < 65536 ∧ lo ≤ q ∧ q ≤ hi ∧ M.2.2.2.1 i = nI q) := by
  obtain ⟨h1, h2, h3, h4, h5, h6, h7, h8, h9⟩ := h
  unfold fX9_isNext
  rw [h4, h8, h9]
  cases ok with
  | false => exact .inl ⟨if_pos rfl, fun q => absurd q.1 (by decide)⟩
  | true =>
    rw [if_neg (show ¬ okr true = 0 by decide)]
    by_cases z : i = len
    · exact .inl ⟨if_pos (nI_le (by omega) (by omega)), fun q => by omega⟩
    · obtain ⟨e1, q, e2, e3⟩ := h5 i (by omega)
      rw [if_neg (nI_ge (by omega) (by omega)), if_pos (ib_nI (by omega) (by omega)), nI_clamp (by omega)]
      have e4 : M.2.2.2.1 i = nI q := by rw [← e1, e3]
      rw [e4]
      by_cases y : lo ≤ q ∧ q ≤ hi
      · refine .inr ⟨?_, rfl, by omega, q, e2, y.1, y.2, rfl⟩
        rw [in1 y.1 y.2 hhi]
        rfl
      · refine .inl ⟨?_, fun ⟨_, _, q', a, b, e⟩ => y ?_⟩
        · rw [in0 (show nI q < nI lo ∨ nI hi < nI q from by
            rcases Nat.lt_or_ge q lo with k | k
            · exact .inl (nI_lt k hlo)
            · exact .inr (nI_lt (by omega) (by omega)))]
          rfl
        · by_cases k : q' < 2 ^ 31
          · have := (nI_eq (by omega) k).mp e
            omega
          · omega
theorem rd_take {len i : Nat} {ok : Bool} {w : PD} {M : MD} (h : RDR len i ok w M) (c : Nat) (hc : c < 65536) : ∃ (i' : Nat) (ok' : Bool), fX3_take w (nI c) = some (pdS w (nI i') (okc ok')) ∧ fX9_takes M (nI c) = some (mdS M (nI i') (okr ok')) ∧ i ≤ i' ∧ i' ≤ len ∧ (ok' = true → i < i') := by
  have hs := rd_sign h
  have hn := rd_next h c c (by omega) (by omega)
  obtain ⟨h1, h2, h3, h4, h5, h6, h7, h8, h9⟩ := id h
  unfold fX3_take fX9_takes
  rcases hn with ⟨n1, n2⟩ | ⟨n1, rfl, n3, q, n4, n5, n6, n7⟩
  · refine ⟨i, false, ?_, ?_, Nat.le_refl _, h2, fun e => absurd e (by decide)⟩
    · rcases hs with ⟨s1, s2⟩ | ⟨s1, s2, q, s3, s4⟩
      · rw [s2, Option.bind_some, if_neg (fun e => n1_nI (f := c) (by omega) e.symm)]
        rw [h6]
        rfl
      · rw [s2, Option.bind_some]
        by_cases e : M.2.2.2.1 i = nI c
        · have hok : ok = false := by
            cases ok with
            | false => rfl
            | true => exact absurd ⟨rfl, s1, c, Nat.le_refl _, Nat.le_refl _, e⟩ n2
          subst hok
          rw [if_pos e, if_neg (show ¬ w.2.2.2.1 = 0 by rw [h7]; decide)]
          unfold pdS
          rw [← h6, ← h7]
        · rw [if_neg e, h6]
          rfl
    · rw [n1, Option.bind_some, if_pos (show (0 : Int32) = 0 from rfl)]
      simp only [bnd]
      rw [h8, Int32.add_zero]
      rfl
  · have hq : q = c := by omega
    subst hq
    refine ⟨i + 1, true, ?_, ?_, by omega, by omega, fun _ => by omega⟩
    · rcases hs with ⟨s1, s2⟩ | ⟨s1, s2, -⟩
      · omega
      · rw [s2, Option.bind_some, if_pos n7, if_pos (show w.2.2.2.1 = 0 by rw [h7]; rfl)]
        simp only [bnd]
        rw [h6, h7, nI_1]
        rfl
    · rw [n1, Option.bind_some, if_neg o10]
      simp only [bnd]
      rw [h8, nI_1]
      rfl
