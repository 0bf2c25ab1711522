/-! arguments: what the class and the reference let through is the same -/
theorem in0 {p lo hi : Int32} (h : p < lo ∨ hi < p) : fX9_in p lo hi = 0 := by
  unfold fX9_in
  by_cases h1 : p < lo
  · rw [if_pos h1]
  · rw [if_neg h1, if_pos (h.resolve_left h1)]
theorem in1 {lo j hi : Nat} (h1 : lo ≤ j) (h2 : j ≤ hi) (h3 : hi < 2 ^ 31) : fX9_in (nI j) (nI lo) (nI hi) = 1 := by
  unfold fX9_in
  rw [if_neg (nI_nlt h1 (by omega)), if_neg (nI_nlt h2 h3)]
theorem rgI (p : Int32) (lo hi : Nat) (h : lo < 2 ^ 31) (h2 : hi < 2 ^ 31) : (p < nI lo ∨ nI hi < p) ∨ ∃ j, lo ≤ j ∧ j ≤ hi ∧ p = nI j := by
  by_cases h1 : p < nI lo
  · exact .inl (.inl h1)
  by_cases h3 : nI hi < p
  · exact .inl (.inr h3)
  obtain ⟨j, hj, rfl⟩ := nI_of (x := p) (fun hq => h1 (Int32.lt_of_lt_of_le hq (nI_pos' h)))
  exact .inr ⟨j, Nat.not_lt.mp (fun q => h1 ((nI_ltI hj h).mpr q)), Nat.not_lt.mp (fun q => h3 ((nI_ltI h2 hj).mpr q)), rfl⟩
theorem suc_le {n : Nat} {p : Int32} (hn : n + 1 < 2 ^ 31) (h : nI n < p) : nI (n + 1) ≤ p := Int32.le_iff_toInt_le.mpr (by
  have h2 := Int32.lt_iff_toInt_lt.mp h
  rw [nI_toInt (by omega)] at h2
  rw [nI_toInt hn]
  omega)
theorem zq_firm (p : Int32) : (fX8_isFirm p = 0 ∧ fX9_in p 0 5 = 0) ∨ ∃ f, f < 6 ∧ p = nI f ∧ fX8_isFirm p = 1 ∧ fX9_in p 0 5 = 1 := by
  rcases rgI p 0 5 (by omega) (by omega) with h | ⟨j, _, h2, rfl⟩
  · refine .inl ⟨?_, in0 h⟩
    unfold fX8_isFirm
    by_cases h0 : p < 0
    · exact if_pos h0
    · rw [if_neg h0]
      exact if_pos (suc_le (n := 5) (by omega) (h.resolve_left h0))
  · refine .inr ⟨j, by omega, rfl, ?_, in1 (lo := 0) (hi := 5) (by omega) h2 (by omega)⟩
    unfold fX8_isFirm
    rw [if_neg (nI_pos (by omega)), if_neg (nle6 (by omega))]
theorem zq_crane (p : Int32) : (fX8_isCrane p = 0 ∧ fX9_in p 0 2 = 0) ∨ ∃ f, f < 3 ∧ p = nI f ∧ fX8_isCrane p = 1 ∧ fX9_in p 0 2 = 1 := by
  rcases rgI p 0 2 (by omega) (by omega) with h | ⟨j, _, h2, rfl⟩
  · refine .inl ⟨?_, in0 h⟩
    unfold fX8_isCrane
    by_cases h0 : p < 0
    · exact if_pos h0
    · rw [if_neg h0]
      exact if_pos (suc_le (n := 2) (by omega) (h.resolve_left h0))
  · refine .inr ⟨j, by omega, rfl, ?_, in1 (lo := 0) (hi := 2) (by omega) h2 (by omega)⟩
    unfold fX8_isCrane
    rw [if_neg (nI_pos (by omega)), if_neg (nle3 (by omega))]
theorem zq_hour (p : Int32) : (fX8_isHour p = 0 ∧ fX9_in p 0 15 = 0) ∨ ∃ f, f < 16 ∧ p = nI f ∧ fX8_isHour p = 1 ∧ fX9_in p 0 15 = 1 := by
  rcases rgI p 0 15 (by omega) (by omega) with h | ⟨j, _, h2, rfl⟩
  · refine .inl ⟨?_, in0 h⟩
    unfold fX8_isHour
    by_cases h0 : p < 0
    · exact if_pos h0
    · rw [if_neg h0]
      exact if_pos (suc_le (n := 15) (by omega) (h.resolve_left h0))
  · refine .inr ⟨j, by omega, rfl, ?_, in1 (lo := 0) (hi := 15) (by omega) h2 (by omega)⟩
    unfold fX8_isHour
    rw [if_neg (nI_pos (by omega)), if_neg (nle16 (by omega))]
theorem zq_wind (p : Int32) : (fX8_isWind p = 0 ∧ fX9_in p 0 99 = 0) ∨ ∃ w, w ≤ 99 ∧ p = nI w ∧ fX8_isWind p = 1 ∧ fX9_in p 0 99 = 1 := by
  rcases rgI p 0 99 (by omega) (by omega) with h | ⟨j, _, h2, rfl⟩
  · refine .inl ⟨?_, in0 h⟩
    unfold fX8_isWind
    by_cases h0 : p < 0
    · exact if_pos h0
    · rw [if_neg h0]
      exact if_pos (h.resolve_left h0)
  · refine .inr ⟨j, by omega, rfl, ?_, in1 (lo := 0) (hi := 99) (by omega) h2 (by omega)⟩
    unfold fX8_isWind
    rw [if_neg (nI_pos (by omega))]
    exact if_neg (nI_nlt (a := 99) h2 (by omega))
theorem fL_nI {c : Nat} (hc : c < 3) : rat fL 3 (nI c) = nI (20 + 20 * c) := by
  rw [rat_nI hc (by omega)]
  rcases (show c = 0 ∨ c = 1 ∨ c = 2 by omega) with rfl | rfl | rfl <;> rfl
theorem most_nI (c : Nat) : fX9_most (nI c) = nI (20 + 20 * c) := by
  unfold fX9_most
  rw [show (20 : Int32) = nI 20 from rfl, pk_mul, nI_add]
theorem zq_lift {c : Nat} (hc : c < 3) (p : Int32) : (fX8_isLift (nI c) p = 0 ∧ fX9_in p 1 (fX9_most (nI c)) = 0) ∨ ∃ w, 1 ≤ w ∧ w ≤ 20 + 20 * c ∧ p = nI w ∧ fX8_isLift (nI c) p = 1 ∧ fX9_in p 1 (fX9_most (nI c)) = 1 := by
  rw [most_nI]
  unfold fX8_isLift
  rw [fL_nI hc]
  rcases rgI p 1 (20 + 20 * c) (by omega) (by omega) with h | ⟨j, h1, h2, rfl⟩
  · refine .inl ⟨?_, in0 h⟩
    by_cases h0 : p < 1
    · exact if_pos h0
    · rw [if_neg h0]
      exact if_pos (h.resolve_left h0)
  · refine .inr ⟨j, h1, h2, rfl, ?_, in1 (lo := 1) h1 h2 (by omega)⟩
    rw [if_neg (show ¬ nI j < 1 from nI_nlt (b := 1) h1 (by omega)), if_neg (nI_nlt h2 (by omega))]
theorem zq_coin (p : Int32) : (fX9_in p 1 999 = 0 ∧ (p < 1 ∨ ¬ p ≤ 999)) ∨ ∃ q, 1 ≤ q ∧ q ≤ 999 ∧ p = nI q ∧ fX9_in p 1 999 = 1 ∧ ¬ p < 1 ∧ p ≤ 999 := by
  rcases rgI p 1 999 (by omega) (by omega) with h | ⟨j, h1, h2, rfl⟩
  · exact .inl ⟨in0 h, h.imp_right (fun q => Int32.not_le.mpr q)⟩
  · exact .inr ⟨j, h1, h2, rfl, in1 (lo := 1) (hi := 999) h1 h2 (by omega), nI_nlt (b := 1) h1 (by omega), nI_le (b := 999) h2 (by omega)⟩
theorem zq_coin0 (p : Int32) : (fX9_in p 0 999 = 0 ∧ (p < 0 ∨ ¬ p ≤ 999)) ∨ ∃ q, q ≤ 999 ∧ p = nI q ∧ fX9_in p 0 999 = 1 ∧ ¬ p < 0 ∧ p ≤ 999 := by
  rcases rgI p 0 999 (by omega) (by omega) with h | ⟨j, h1, h2, rfl⟩
  · exact .inl ⟨in0 h, h.imp_right (fun q => Int32.not_le.mpr q)⟩
  · exact .inr ⟨j, h2, rfl, in1 (lo := 0) (hi := 999) h1 h2 (by omega), nI_pos (by omega), nI_le (b := 999) h2 (by omega)⟩
theorem zq_slot (p q : Int32) : (fX8_isSlot p q = 0 ∧ fX9_isSlot p q = 0) ∨ ∃ c h, c < 3 ∧ h < 16 ∧ p = nI c ∧ q = nI h ∧ fX8_isSlot p q = 1 ∧ fX9_isSlot p q = 1 := by
  unfold fX8_isSlot fX9_isSlot
  rcases zq_crane p with ⟨h1, h2⟩ | ⟨c, hc, rfl, h1, h2⟩
  · exact .inl ⟨if_pos h1, if_pos h2⟩
  rw [h1, h2]
  rcases zq_hour q with ⟨h3, h4⟩ | ⟨h, hh, rfl, h3, h4⟩
  · rw [h3, h4]
    exact .inl ⟨rfl, rfl⟩
  · rw [h3, h4]
    exact .inr ⟨c, h, hc, hh, rfl, rfl, rfl, rfl⟩
/-! the wind -/
theorem n70 {w d : Nat} (hw : w < 2 ^ 30) (hd : d < 2 ^ 30) : (70 : Int32) - nI w < nI d ↔ 70 < w + d := by
  have h := pk_sub_toInt (a := 70) (b := w) (by omega) hw
  rw [show (70 : Int32) = nI 70 from rfl, Int32.lt_iff_toInt_lt, h, nI_toInt (by omega)]
  omega
theorem bears_nI {w d : Nat} (hw : w < 2 ^ 30) (hd : d < 2 ^ 30) : fX9_bears (nI w) (nI d) = if 70 < w + d then 0 else 1 := by
  unfold fX9_bears
  exact ite_congr (propext (n70 hw hd)) (fun _ => rfl) (fun _ => rfl)
theorem heav_nI {c d : Nat} (hc : c < 3) (hd : d ≤ 99) : fX8_heaviestAt (nI c) (nI d) = nI (min (70 - d) (20 + 20 * c)) := by
  unfold fX8_heaviestAt
  rw [fL_nI hc]
  have e1 : (70 : Int32) - nI d < nI (20 + 20 * c) ↔ 70 < d + (20 + 20 * c) := n70 (by omega) (by omega)
  by_cases h1 : 70 < d + (20 + 20 * c)
  · rw [if_pos (e1.mpr h1)]
    by_cases h2 : d < 70
    · have e2 : (70 : Int32) - nI d = nI (70 - d) := pk_sub (a := 70) (by omega)
      rw [e2, if_pos (show (0 : Int32) < nI (70 - d) from nI_lt (a := 0) (by omega) (by omega)), show min (70 - d) (20 + 20 * c) = 70 - d by omega]
    · have e3 : ¬ (0 : Int32) < 70 - nI d := by
        rw [Int32.lt_iff_toInt_lt, show (70 : Int32) = nI 70 from rfl, pk_sub_toInt (by omega) (by omega)]
        show ¬ (0 : Int) < _
        omega
      rw [if_neg e3, show min (70 - d) (20 + 20 * c) = 0 by omega]
      rfl
  · rw [if_neg (fun q => h1 (e1.mp q)), if_pos (show (0 : Int32) < nI (20 + 20 * c) from nI_lt (a := 0) (by omega) (by omega)), show min (70 - d) (20 + 20 * c) = 20 + 20 * c by omega]
