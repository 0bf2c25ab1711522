/-! Rows: what its methods do in one word each; Rows.at and Rows.copy by hand -/
def rat (f : AF) (n : Nat) (i : Int32) : Int32 := if i < 0 then 0 else if nI n ≤ i then 0 else f i.toNatClampNeg
def rput (f : AF) (n : Nat) (i v : Int32) : AF := if i < 0 then f else if nI n ≤ i then f else upd f i.toNatClampNeg v
def radd (f : AF) (n : Nat) (i v : Int32) : AF := if i < 0 then f else if nI n ≤ i then f else upd f i.toNatClampNeg (f i.toNatClampNeg + v)
theorem ib_of {i : Int32} {n : Nat} (hn : n < 2 ^ 31) (h1 : ¬ i < 0) (h2 : ¬ nI n ≤ i) : ib i n = true := by
  obtain ⟨j, hj, rfl⟩ := nI_of h1
  have h3 : j < n := by
    rcases Nat.lt_or_ge j n with q | q
    · exact q
    · exact absurd (nI_le q hj) h2
  simp only [ib, Bool.and_eq_true, decide_eq_true_eq]
  exact ⟨nI_pos' hj, by rw [nI_clamp hj]; exact h3⟩
theorem t_X4_put (f : AF) (n : Nat) (i v : Int32) (hn : n < 2 ^ 31) : fX4_put f n i v = some (rput f n i v) := by
  unfold fX4_put rput
  by_cases h1 : i < 0
  · rw [if_pos h1, if_pos h1]
  · by_cases h2 : nI n ≤ i
    · rw [if_neg h1, if_neg h1, if_pos h2, if_pos h2]
    · rw [if_neg h1, if_neg h1, if_neg h2, if_neg h2, if_pos (ib_of hn h1 h2)]
theorem t_X4_add (f : AF) (n : Nat) (i v : Int32) (hn : n < 2 ^ 31) : fX4_add f n i v = some (radd f n i v) := by
  unfold fX4_add radd
  by_cases h1 : i < 0
  · rw [if_pos h1, if_pos h1]
  · by_cases h2 : nI n ≤ i
    · rw [if_neg h1, if_neg h1, if_pos h2, if_pos h2]
    · rw [if_neg h1, if_neg h1, if_neg h2, if_neg h2, if_pos (ib_of hn h1 h2)]
/-- the first n numbers together; the first n numbers all v -/
def rsum (f : AF) : Nat → Int32
  | 0 => 0
  | n + 1 => rsum f n + f n
def rfill (f : AF) (n : Nat) (v : Int32) : AF := fun j => if j < n then v else f j
theorem ib_nI {k n : Nat} (hn : n < 2 ^ 31) (h : k < n) : ib (nI k) n = true := by
  simp only [ib, Bool.and_eq_true, decide_eq_true_eq]
  exact ⟨nI_pos' (by omega), by rw [nI_clamp (by omega)]; exact h⟩
theorem sumL (f : AF) (n : Nat) (hn : n < 2 ^ 31) : ∀ (d k fu : Nat) (a : Int32), k + d = n → d < fu → a = rsum f k → fX4_sum_L0 f n fu a (nI k) = some (rsum f n) := by
  intro d
  induction d with
  | zero =>
    intro k fu a hk hf ha
    obtain ⟨fu, rfl⟩ : ∃ q, fu = q + 1 := ⟨fu - 1, by omega⟩
    rw [fX4_sum_L0, if_pos (by rw [show k = n by omega]; exact Int32.le_refl _), ha, show k = n by omega]
  | succ d ih =>
    intro k fu a hk hf ha
    obtain ⟨fu, rfl⟩ : ∃ q, fu = q + 1 := ⟨fu - 1, by omega⟩
    rw [fX4_sum_L0, if_neg (nI_ge (by omega) hn), if_pos (ib_nI hn (by omega)), nI_clamp (by omega), nI_1]
    exact ih (k + 1) fu _ (by omega) (by omega) (by rw [ha]; rfl)
theorem t_X4_sum (f : AF) (n : Nat) (hn : n < 1000) : fX4_sum f n = some (rsum f n) := by
  unfold fX4_sum
  have h := sumL f n (by omega) n 0 1000 0 (by omega) (by omega) rfl
  rw [nI_0] at h
  rw [h]; rfl
theorem fillL (v : Int32) (n : Nat) (hn : n < 2 ^ 31) : ∀ (d k fu : Nat) (f f0 : AF), k + d = n → d < fu → f = rfill f0 k v → ∃ q, fX4_fill_L0 n v fu (nI k) f = some q ∧ ∀ j, j < n → q j = v := by
  intro d
  induction d with
  | zero =>
    intro k fu f f0 hk hf ha
    obtain ⟨fu, rfl⟩ : ∃ q, fu = q + 1 := ⟨fu - 1, by omega⟩
    rw [fX4_fill_L0, if_pos (by rw [show k = n by omega]; exact Int32.le_refl _)]
    refine ⟨f, rfl, fun j hj => ?_⟩
    rw [ha]
    exact if_pos (by omega)
  | succ d ih =>
    intro k fu f f0 hk hf ha
    obtain ⟨fu, rfl⟩ : ∃ q, fu = q + 1 := ⟨fu - 1, by omega⟩
    rw [fX4_fill_L0, if_neg (nI_ge (by omega) hn), if_pos (ib_nI hn (by omega)), nI_clamp (by omega), nI_1]
    refine ih (k + 1) fu _ f0 (by omega) (by omega) ?_
    funext j
    by_cases hj : j = k
    · subst hj
      simp [upd, rfill]
    · simp only [upd, rfill, ha, if_neg hj]
      by_cases h2 : j < k
      · rw [if_pos h2, if_pos (by omega)]
      · rw [if_neg h2, if_neg (by omega)]
/-- a row's content matters only within its length -/
theorem cell_congr {cA : ClassId} {n : Nat} {f h : AF} (e : ∀ j, j < n → f j = h j) : vp_cell cA (n, .inl f) = vp_cell cA (n, .inl h) := by
  rw [vp_cell_i, vp_cell_i]
  unfold arrV
  congr 1
  apply Array.ext
  · simp
  · intro i h1 h2
    simp only [Array.getElem_ofFn]
    rw [e i (by simpa using h1)]
