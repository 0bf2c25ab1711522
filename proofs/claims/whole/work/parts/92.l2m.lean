/-- a lift is made -/
def enS0 (S : AF) (B K g : Nat) : AF := upd (upd (upd (upd S (B + 195 + K) 0) (B + 26) (S (B + 26) + 1)) (B + 8 + g) (S (B + 8 + g) + 1)) (B + 34) (S (B + 34) + S (B + 99 + K))
theorem RM_end0 {c N D : Nat} {P P' : Nat → Prop} {blw : AF} {x : SD} {S : AF} {B : Nat} (h : RM c N D P blw x S B) {K g : Nat} (hK : K < 48) (hg : g < 6) (hP : ∀ k, k < 48 → (P' k ↔ P k ∨ k = K)) :
    RM c N D P' blw (x.1, x.2.1, x.2.2.1, x.2.2.2.1, rmS x.2.2.2.2.1 K 6, (x.2.2.2.2.2.1.1, x.2.2.2.2.2.1.2.1, x.2.2.2.2.2.1.2.2.1, upd x.2.2.2.2.2.1.2.2.2 K 0), (x.2.2.2.2.2.2.1.1, upd x.2.2.2.2.2.2.1.2.1 g (x.2.2.2.2.2.2.1.2.1 g + 1), x.2.2.2.2.2.2.1.2.2.1, x.2.2.2.2.2.2.1.2.2.2), (x.2.2.2.2.2.2.2.1, x.2.2.2.2.2.2.2.2.1, x.2.2.2.2.2.2.2.2.2.1, x.2.2.2.2.2.2.2.2.2.2.1, x.2.2.2.2.2.2.2.2.2.2.2.1, x.2.2.2.2.2.2.2.2.2.2.2.2.1 + 1, x.2.2.2.2.2.2.2.2.2.2.2.2.2 + x.2.2.2.2.2.1.2.1 K)) (clrS (enS0 S B K g) B K 6) B := by
  have ho : ∀ i, i ≠ B + 195 + K → i ≠ B + 26 → i ≠ B + 8 + g → i ≠ B + 34 → enS0 S B K g i = S i := fun i h1 h2 h3 h4 => by
    unfold enS0
    rw [upd_n h4, upd_n h3, upd_n h2, upd_n h1]
  have i1 : enS0 S B K g (B + 195 + K) = 0 := by
    unfold enS0
    rw [upd_n (by omega), upd_n (by omega), upd_n (by omega), upd_s]
  have i2 : enS0 S B K g (B + 26) = S (B + 26) + 1 := by
    unfold enS0
    rw [upd_n (by omega), upd_n (by omega), upd_s]
  have i3 : enS0 S B K g (B + 8 + g) = S (B + 8 + g) + 1 := by
    unfold enS0
    rw [upd_n (by omega), upd_s]
  have i4 : enS0 S B K g (B + 34) = S (B + 34) + S (B + 99 + K) := by
    unfold enS0
    rw [upd_s]
  refine RM_end (r := 0) h hK (by omega) hP (fun i h1 h2 => ho i h2 (by omega) (by omega) (by omega)) i1 (fun f hf' => ?_) ?_
  · obtain ⟨f1, f2, f3, f4, f5⟩ := h.2.2.2.2.2.1 f hf'
    refine ⟨by rw [ho _ (by omega) (by omega) (by omega) (by omega)]; exact f1, ?_, by rw [ho _ (by omega) (by omega) (by omega) (by omega)]; exact f3, by rw [ho _ (by omega) (by omega) (by omega) (by omega)]; exact f4, f5⟩
    show upd x.2.2.2.2.2.2.1.2.1 g (x.2.2.2.2.2.2.1.2.1 g + 1) f = _
    by_cases e : f = g
    · subst e
      rw [upd_s, i3, f2]
    · rw [upd_n e, ho _ (by omega) (by omega) (by omega) (by omega)]
      exact f2
  · obtain ⟨t1, t2, t3, t4, t5, t6, t7, t8, t9⟩ := h.2.2.2.2.2.2
    refine ⟨?_, ?_, ?_, ?_, ?_, ?_, ?_, ?_, ?_⟩
    · rw [ho _ (by omega) (by omega) (by omega) (by omega)]; exact t1
    · rw [ho _ (by omega) (by omega) (by omega) (by omega)]; exact t2
    · rw [ho _ (by omega) (by omega) (by omega) (by omega)]; exact t3
    · rw [ho _ (by omega) (by omega) (by omega) (by omega)]; exact t4
    · rw [ho _ (by omega) (by omega) (by omega) (by omega)]; exact t5
    · rw [ho _ (by omega) (by omega) (by omega) (by omega)]; exact t6
    · rw [ho _ (by omega) (by omega) (by omega) (by omega)]; exact t7
    · rw [i2, ← t8]
    · rw [i4, ← t9, ← (h.2.2.2.2.1 K hK).1]
/-- too heavy for the wind: the price goes back -/
def enS3 (S : AF) (B K g : Nat) : AF := upd (upd (upd (upd (upd (upd S (B + 195 + K) 3) (B + 29) (S (B + 29) + 1)) (B + 2 + g) (S (B + 2 + g) + S (B + 147 + K))) (B + 14 + g) (S (B + 14 + g) - S (B + 147 + K))) (B + 30) (S (B + 30) - S (B + 147 + K))) (B + 31) (S (B + 31) + S (B + 147 + K))
theorem RM_end3 {c N D : Nat} {P P' : Nat → Prop} {blw : AF} {x : SD} {S : AF} {B : Nat} (h : RM c N D P blw x S B) {K g : Nat} (hK : K < 48) (hg : g < 6) (hP : ∀ k, k < 48 → (P' k ↔ P k ∨ k = K)) :
    RM (c + 999) N D P' blw (x.1, x.2.1, x.2.2.1, x.2.2.2.1, rmS x.2.2.2.2.1 K 6, (x.2.2.2.2.2.1.1, x.2.2.2.2.2.1.2.1, x.2.2.2.2.2.1.2.2.1, upd x.2.2.2.2.2.1.2.2.2 K 3), (upd x.2.2.2.2.2.2.1.1 g (x.2.2.2.2.2.2.1.1 g + x.2.2.2.2.2.1.2.2.1 K), x.2.2.2.2.2.2.1.2.1, upd x.2.2.2.2.2.2.1.2.2.1 g (x.2.2.2.2.2.2.1.2.2.1 g - x.2.2.2.2.2.1.2.2.1 K), x.2.2.2.2.2.2.1.2.2.2), (upd x.2.2.2.2.2.2.2.1 3 (x.2.2.2.2.2.2.2.1 3 + 1), x.2.2.2.2.2.2.2.2.1 - x.2.2.2.2.2.1.2.2.1 K, x.2.2.2.2.2.2.2.2.2.1 + x.2.2.2.2.2.1.2.2.1 K, x.2.2.2.2.2.2.2.2.2.2)) (clrS (enS3 S B K g) B K 6) B := by
  have ho : ∀ i, i ≠ B + 195 + K → i ≠ B + 29 → i ≠ B + 2 + g → i ≠ B + 14 + g → i ≠ B + 30 → i ≠ B + 31 → enS3 S B K g i = S i := fun i h1 h2 h3 h4 h5 h6 => by
    unfold enS3
    rw [upd_n h6, upd_n h5, upd_n h4, upd_n h3, upd_n h2, upd_n h1]
  have i1 : enS3 S B K g (B + 195 + K) = 3 := by
    unfold enS3
    rw [upd_n (by omega), upd_n (by omega), upd_n (by omega), upd_n (by omega), upd_n (by omega), upd_s]
  have i2 : enS3 S B K g (B + 29) = S (B + 29) + 1 := by
    unfold enS3
    rw [upd_n (by omega), upd_n (by omega), upd_n (by omega), upd_n (by omega), upd_s]
  have i3 : enS3 S B K g (B + 2 + g) = S (B + 2 + g) + S (B + 147 + K) := by
    unfold enS3
    rw [upd_n (by omega), upd_n (by omega), upd_n (by omega), upd_s]
  have i4 : enS3 S B K g (B + 14 + g) = S (B + 14 + g) - S (B + 147 + K) := by
    unfold enS3
    rw [upd_n (by omega), upd_n (by omega), upd_s]
  have i5 : enS3 S B K g (B + 30) = S (B + 30) - S (B + 147 + K) := by
    unfold enS3
    rw [upd_n (by omega), upd_s]
  have i6 : enS3 S B K g (B + 31) = S (B + 31) + S (B + 147 + K) := by
    unfold enS3
    rw [upd_s]
  obtain ⟨-, hv, ⟨p, hp, hvp⟩, -⟩ := h.2.2.2.2.1 K hK
  refine RM_end (r := 3) h hK (by omega) hP (fun i h1 h2 => ho i h2 (by omega) (by omega) (by omega) (by omega) (by omega)) i1 (fun f hf' => ?_) ?_
  · obtain ⟨f1, f2, f3, f4, p', f5, f6, f7⟩ := h.2.2.2.2.2.1 f hf'
    show upd x.2.2.2.2.2.2.1.1 g (x.2.2.2.2.2.2.1.1 g + x.2.2.2.2.2.1.2.2.1 K) f = _ ∧ _ ∧ upd x.2.2.2.2.2.2.1.2.2.1 g (x.2.2.2.2.2.2.1.2.2.1 g - x.2.2.2.2.2.1.2.2.1 K) f = _ ∧ _ ∧ ∃ q : Nat, q ≤ c + 999 ∧ upd x.2.2.2.2.2.2.1.1 g (x.2.2.2.2.2.2.1.1 g + x.2.2.2.2.2.1.2.2.1 K) f = nI q ∧ ofB x.2.2.2.2.1.2 f ≤ q
    rw [ho (B + 8 + f) (by omega) (by omega) (by omega) (by omega) (by omega) (by omega), ho (B + 20 + f) (by omega) (by omega) (by omega) (by omega) (by omega) (by omega)]
    by_cases e : f = g
    · subst e
      rw [upd_s, upd_s, i3, i4, f1, f3, hv]
      refine ⟨rfl, f2, rfl, f4, p' + p, by omega, ?_, by omega⟩
      rw [← f1, f6, ← hv, hvp, nI_add]
    · rw [upd_n e, upd_n e, ho (B + 2 + f) (by omega) (by omega) (by omega) (by omega) (by omega) (by omega), ho (B + 14 + f) (by omega) (by omega) (by omega) (by omega) (by omega) (by omega)]
      exact ⟨f1, f2, f3, f4, p', by omega, f6, f7⟩
  · obtain ⟨t1, t2, t3, t4, t5, t6, t7, t8, t9⟩ := h.2.2.2.2.2.2
    refine ⟨?_, ?_, ?_, ?_, ?_, ?_, ?_, ?_, ?_⟩
    · show upd x.2.2.2.2.2.2.2.1 3 (x.2.2.2.2.2.2.2.1 3 + 1) 1 = _
      rw [upd_n (by omega), ho _ (by omega) (by omega) (by omega) (by omega) (by omega) (by omega)]
      exact t1
    · show upd x.2.2.2.2.2.2.2.1 3 (x.2.2.2.2.2.2.2.1 3 + 1) 2 = _
      rw [upd_n (by omega), ho _ (by omega) (by omega) (by omega) (by omega) (by omega) (by omega)]
      exact t2
    · show upd x.2.2.2.2.2.2.2.1 3 (x.2.2.2.2.2.2.2.1 3 + 1) 3 = _
      rw [upd_s, i2, t3]
    · rw [i5, ← t4, hv]
    · rw [i6, ← t5, hv]
    · rw [ho _ (by omega) (by omega) (by omega) (by omega) (by omega) (by omega)]; exact t6
    · rw [ho _ (by omega) (by omega) (by omega) (by omega) (by omega) (by omega)]; exact t7
    · rw [ho _ (by omega) (by omega) (by omega) (by omega) (by omega) (by omega)]; exact t8
    · rw [ho _ (by omega) (by omega) (by omega) (by omega) (by omega) (by omega)]; exact t9
