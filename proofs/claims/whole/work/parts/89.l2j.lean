/-! a slot is given to who bids most -/
def awX (x : SD) (K g : Nat) (P : Int32) : SD := (x.1, x.2.1, x.2.2.1, x.2.2.2.1, rmS x.2.2.2.2.1 K 6, (upd x.2.2.2.2.2.1.1 K (nI g), upd x.2.2.2.2.2.1.2.1 K (x.2.2.2.2.1.1 (g * 48 + K)), upd x.2.2.2.2.2.1.2.2.1 K P, x.2.2.2.2.2.1.2.2.2), (upd x.2.2.2.2.2.2.1.1 g (x.2.2.2.2.2.2.1.1 g - P), x.2.2.2.2.2.2.1.2.1, upd x.2.2.2.2.2.2.1.2.2.1 g (x.2.2.2.2.2.2.1.2.2.1 g + P), x.2.2.2.2.2.2.1.2.2.2), (x.2.2.2.2.2.2.2.1, x.2.2.2.2.2.2.2.2.1 + P, x.2.2.2.2.2.2.2.2.2))
def awS (S : AF) (B K g : Nat) (P : Int32) : AF := clrS (upd (upd (upd (upd (upd (upd S (B + 51 + K) (nI g)) (B + 99 + K) (S (B + 243 + 6 * K + g))) (B + 147 + K) P) (B + 2 + g) (S (B + 2 + g) - P)) (B + 14 + g) (S (B + 14 + g) + P)) (B + 30) (S (B + 30) + P)) B K 6
theorem awS_out {S : AF} {B K g i : Nat} {P : Int32} (h1 : i ≠ B + 51 + K) (h2 : i ≠ B + 99 + K) (h3 : i ≠ B + 147 + K) (h4 : i ≠ B + 2 + g) (h5 : i ≠ B + 14 + g) (h6 : i ≠ B + 30) (h7 : ∀ f, f < 6 → i ≠ B + 243 + 6 * K + f ∧ i ≠ B + 531 + 6 * K + f) : awS S B K g P i = S i := by
  unfold awS
  rw [clrS_out h7, upd_n h6, upd_n h5, upd_n h4, upd_n h3, upd_n h2, upd_n h1]
theorem awS_in {S : AF} {B K g : Nat} {P : Int32} (hK : K < 48) (hg : g < 6) : awS S B K g P (B + 51 + K) = nI g ∧ awS S B K g P (B + 99 + K) = S (B + 243 + 6 * K + g) ∧ awS S B K g P (B + 147 + K) = P ∧ awS S B K g P (B + 2 + g) = S (B + 2 + g) - P ∧ awS S B K g P (B + 14 + g) = S (B + 14 + g) + P ∧ awS S B K g P (B + 30) = S (B + 30) + P := by
  unfold awS
  refine ⟨?_, ?_, ?_, ?_, ?_, ?_⟩
  · rw [clrS_out (fun f hf => by omega), upd_n (by omega), upd_n (by omega), upd_n (by omega), upd_n (by omega), upd_n (by omega), upd_s]
  · rw [clrS_out (fun f hf => by omega), upd_n (by omega), upd_n (by omega), upd_n (by omega), upd_n (by omega), upd_s]
  · rw [clrS_out (fun f hf => by omega), upd_n (by omega), upd_n (by omega), upd_n (by omega), upd_s]
  · rw [clrS_out (fun f hf => by omega), upd_n (by omega), upd_n (by omega), upd_s]
  · rw [clrS_out (fun f hf => by omega), upd_n (by omega), upd_s]
  · rw [clrS_out (fun f hf => by omega), upd_s]
theorem RM_aw {c N D : Nat} {Pd : Nat → Prop} {blw : AF} {x : SD} {S : AF} {B : Nat} (h : RM c N D Pd blw x S B) (hc : c < 2 ^ 30) {K g o w p : Nat} (hK : K < 48) (hg : g < 6) (ho : o ≤ 999) (hpo : p ≤ o) (hxo : x.2.2.2.2.1.2 (g * 48 + K) = nI o) (hxw : x.2.2.2.2.1.1 (g * 48 + K) = nI w) (hw1 : 1 ≤ w) (hw2 : w ≤ 20 + 20 * (K / 16)) : RM c N D Pd blw (awX x K g (nI p)) (awS S B K g (nI p)) B := by
  obtain ⟨hd, hW, hb, hcn, hs, hf, ht⟩ := h
  obtain ⟨i1, i2, i3, i4, i5, i6⟩ := awS_in (S := S) (B := B) (P := nI p) hK hg
  refine ⟨hd.to (awS_out (by omega) (by omega) (by omega) (by omega) (by omega) (by omega) (by omega)) (awS_out (by omega) (by omega) (by omega) (by omega) (by omega) (by omega) (by omega)), hW.to (fun j hj => ⟨awS_out (by omega) (by omega) (by omega) (by omega) (by omega) (by omega) (by omega), awS_out (by omega) (by omega) (by omega) (by omega) (by omega) (by omega) (by omega)⟩), ?_, Nat.le_trans (cnt_rm _ _ hK) hcn, fun k hk => ?_, fun f hf' => ?_, ?_⟩
  · unfold awS
    refine RB_clr (hb.to (fun f k hf' hk => ⟨?_, ?_⟩)) hK
    · rw [upd_n (by omega), upd_n (by omega), upd_n (by omega), upd_n (by omega), upd_n (by omega), upd_n (by omega)]
    · rw [upd_n (by omega), upd_n (by omega), upd_n (by omega), upd_n (by omega), upd_n (by omega), upd_n (by omega)]
  · obtain ⟨s1, s2, s3, s4, s5, s6⟩ := hs k hk
    have e195 : awS S B K g (nI p) (B + 195 + k) = S (B + 195 + k) := awS_out (by omega) (by omega) (by omega) (by omega) (by omega) (by omega) (by omega)
    show upd _ _ _ _ = _ ∧ upd _ _ _ _ = _ ∧ (∃ q : Nat, q ≤ 999 ∧ upd _ _ _ _ = nI q) ∧ ((upd _ _ _ _ = _ ∧ _) ∨ ∃ f w' : Nat, f < 6 ∧ upd _ _ _ _ = _ ∧ _ ∧ upd _ _ _ _ = _ ∧ _) ∧ _ ∧ _
    rw [e195]
    by_cases e : k = K
    · subst e
      rw [upd_s, upd_s, upd_s, i1, i2, i3]
      exact ⟨(hb g k hg hk).1, rfl, ⟨p, by omega, rfl⟩, .inr ⟨g, w, hg, rfl, rfl, hxw, hw1, hw2⟩, s5, s6⟩
    · rw [upd_n e, upd_n e, upd_n e, awS_out (by omega) (by omega) (by omega) (by omega) (by omega) (by omega) (by omega), awS_out (by omega) (by omega) (by omega) (by omega) (by omega) (by omega) (by omega), awS_out (by omega) (by omega) (by omega) (by omega) (by omega) (by omega) (by omega)]
      exact ⟨s1, s2, s3, s4, s5, s6⟩
  · obtain ⟨f1, f2, f3, f4, p', f5, f6, f7⟩ := hf f hf'
    have e8 : awS S B K g (nI p) (B + 8 + f) = S (B + 8 + f) := awS_out (by omega) (by omega) (by omega) (by omega) (by omega) (by omega) (by omega)
    have e20 : awS S B K g (nI p) (B + 20 + f) = S (B + 20 + f) := awS_out (by omega) (by omega) (by omega) (by omega) (by omega) (by omega) (by omega)
    have hrm := ofB_rm x.2.2.2.2.1 hf' hK
    show upd _ _ _ _ = _ ∧ _ = _ ∧ upd _ _ _ _ = _ ∧ _ = _ ∧ ∃ q : Nat, q ≤ c ∧ upd _ _ _ _ = nI q ∧ ofB (rmS x.2.2.2.2.1 K 6).2 f ≤ q
    rw [e8, e20]
    by_cases e : f = g
    · subst e
      rw [hxo, nI_clamp (by omega)] at hrm
      rw [upd_s, upd_s, i4, i5, f1, f3]
      refine ⟨rfl, f2, rfl, f4, p' - p, by omega, ?_, by omega⟩
      rw [← f1, f6]
      exact pk_sub (by omega)
    · rw [upd_n e, upd_n e, awS_out (by omega) (by omega) (by omega) (by omega) (by omega) (by omega) (by omega), awS_out (by omega) (by omega) (by omega) (by omega) (by omega) (by omega) (by omega)]
      exact ⟨f1, f2, f3, f4, p', f5, f6, by omega⟩
  · obtain ⟨t1, t2, t3, t4, t5, t6, t7, t8, t9⟩ := ht
    have e : ∀ j, 26 ≤ j → j ≤ 34 → j ≠ 30 → awS S B K g (nI p) (B + j) = S (B + j) := fun j h1 h2 h3 => awS_out (by omega) (by omega) (by omega) (by omega) (by omega) (by omega) (by omega)
    show _ = _ ∧ _ = _ ∧ _ = _ ∧ x.2.2.2.2.2.2.2.2.1 + nI p = _ ∧ _ = _ ∧ _ = _ ∧ _ = _ ∧ _ = _ ∧ _ = _
    rw [i6, e 27 (by omega) (by omega) (by omega), e 28 (by omega) (by omega) (by omega), e 29 (by omega) (by omega) (by omega), e 31 (by omega) (by omega) (by omega), e 32 (by omega) (by omega) (by omega), e 33 (by omega) (by omega) (by omega), e 26 (by omega) (by omega) (by omega), e 34 (by omega) (by omega) (by omega), t4]
    exact ⟨t1, t2, t3, rfl, t5, t6, t7, t8, t9⟩
