/-! arguments; the invariant of one object's state -/
theorem zp_firm (p : Int32) : fX8_isFirm p = 0 ∨ ∃ f, f < 6 ∧ p = nI f ∧ fX8_isFirm p = 1 := by
  rcases rgI p 0 5 (by omega) (by omega) with h | ⟨j, _, h2, rfl⟩
  · refine .inl ?_
    unfold fX8_isFirm
    by_cases h0 : p < 0
    · exact if_pos h0
    · rw [if_neg h0]
      exact if_pos (suc_le (n := 5) (by omega) (h.resolve_left h0))
  · refine .inr ⟨j, by omega, rfl, ?_⟩
    unfold fX8_isFirm
    rw [if_neg (nI_pos (by omega)), if_neg (nle6 (by omega))]
theorem zp_crane (p : Int32) : fX8_isCrane p = 0 ∨ ∃ f, f < 3 ∧ p = nI f ∧ fX8_isCrane p = 1 := by
  rcases rgI p 0 2 (by omega) (by omega) with h | ⟨j, _, h2, rfl⟩
  · refine .inl ?_
    unfold fX8_isCrane
    by_cases h0 : p < 0
    · exact if_pos h0
    · rw [if_neg h0]
      exact if_pos (suc_le (n := 2) (by omega) (h.resolve_left h0))
  · refine .inr ⟨j, by omega, rfl, ?_⟩
    unfold fX8_isCrane
    rw [if_neg (nI_pos (by omega)), if_neg (nle3 (by omega))]
theorem zp_hour (p : Int32) : fX8_isHour p = 0 ∨ ∃ f, f < 16 ∧ p = nI f ∧ fX8_isHour p = 1 := by
  rcases rgI p 0 15 (by omega) (by omega) with h | ⟨j, _, h2, rfl⟩
  · refine .inl ?_
    unfold fX8_isHour
    by_cases h0 : p < 0
    · exact if_pos h0
    · rw [if_neg h0]
      exact if_pos (suc_le (n := 15) (by omega) (h.resolve_left h0))
  · refine .inr ⟨j, by omega, rfl, ?_⟩
    unfold fX8_isHour
    rw [if_neg (nI_pos (by omega)), if_neg (nle16 (by omega))]
theorem zp_wind (p : Int32) : fX8_isWind p = 0 ∨ ∃ w, w ≤ 99 ∧ p = nI w ∧ fX8_isWind p = 1 := by
  rcases rgI p 0 99 (by omega) (by omega) with h | ⟨j, _, h2, rfl⟩
  · refine .inl ?_
    unfold fX8_isWind
    by_cases h0 : p < 0
    · exact if_pos h0
    · rw [if_neg h0]
      exact if_pos (h.resolve_left h0)
  · refine .inr ⟨j, by omega, rfl, ?_⟩
    unfold fX8_isWind
    rw [if_neg (nI_pos (by omega))]
    exact if_neg (nI_nlt (a := 99) h2 (by omega))
theorem zp_lift {c : Nat} (hc : c < 3) (p : Int32) : fX8_isLift (nI c) p = 0 ∨ ∃ w, 1 ≤ w ∧ w ≤ 20 + 20 * c ∧ p = nI w ∧ fX8_isLift (nI c) p = 1 := by
  unfold fX8_isLift
  rw [fL_nI hc]
  rcases rgI p 1 (20 + 20 * c) (by omega) (by omega) with h | ⟨j, h1, h2, rfl⟩
  · refine .inl ?_
    by_cases h0 : p < 1
    · exact if_pos h0
    · rw [if_neg h0]
      exact if_pos (h.resolve_left h0)
  · refine .inr ⟨j, h1, h2, rfl, ?_⟩
    rw [if_neg (show ¬ nI j < 1 from nI_nlt (b := 1) h1 (by omega)), if_neg (nI_nlt h2 (by omega))]
theorem zp_coin (p : Int32) : (p < 1 ∨ ¬ p ≤ 999) ∨ ∃ q, 1 ≤ q ∧ q ≤ 999 ∧ p = nI q ∧ ¬ p < 1 ∧ p ≤ 999 := by
  rcases rgI p 1 999 (by omega) (by omega) with h | ⟨j, h1, h2, rfl⟩
  · exact .inl (h.imp_right (fun q => Int32.not_le.mpr q))
  · exact .inr ⟨j, h1, h2, rfl, nI_nlt (b := 1) h1 (by omega), nI_le (b := 999) h2 (by omega)⟩
theorem zp_coin0 (p : Int32) : (p < 0 ∨ ¬ p ≤ 999) ∨ ∃ q, q ≤ 999 ∧ p = nI q ∧ ¬ p < 0 ∧ p ≤ 999 := by
  rcases rgI p 0 999 (by omega) (by omega) with h | ⟨j, h1, h2, rfl⟩
  · exact .inl (h.imp_right (fun q => Int32.not_le.mpr q))
  · exact .inr ⟨j, h2, rfl, nI_pos (by omega), nI_le (b := 999) h2 (by omega)⟩
theorem zp_slot (p q : Int32) : fX8_isSlot p q = 0 ∨ ∃ c h, c < 3 ∧ h < 16 ∧ p = nI c ∧ q = nI h ∧ fX8_isSlot p q = 1 := by
  unfold fX8_isSlot
  rcases zp_crane p with h1 | ⟨c, hc, rfl, h1⟩
  · exact .inl (if_pos h1)
  rw [h1]
  rcases zp_hour q with h3 | ⟨h, hh, rfl, h3⟩
  · rw [h3]
    exact .inl rfl
  · rw [h3]
    exact .inr ⟨c, h, hc, hh, rfl, rfl, rfl⟩
theorem slot1 {c h : Nat} (hc : c < 3) (hh : h < 16) : ¬ fX8_isSlot (nI c) (nI h) = 0 := by
  unfold fX8_isSlot fX8_isCrane fX8_isHour
  rw [if_neg (nI_pos (by omega)), if_neg (nle3 hc), if_neg o10, if_neg (nI_pos (by omega)), if_neg (nle16 hh), if_neg o10]
  exact o10
theorem firm1 {f : Nat} (hf : f < 6) : ¬ fX8_isFirm (nI f) = 0 := by
  unfold fX8_isFirm
  rw [if_neg (nI_pos (by omega)), if_neg (nle6 hf)]
  exact o10
theorem hour1 {h : Nat} (hh : h < 16) : ¬ fX8_isHour (nI h) = 0 := by
  unfold fX8_isHour
  rw [if_neg (nI_pos (by omega)), if_neg (nle16 hh)]
  exact o10
/-! sums modulo 2 to the 32 -/
theorem rsum_upd {f : AF} {k : Nat} {v : Int32} : ∀ {n : Nat}, k < n → rsum (upd f k (f k + v)) n = rsum f n + v
  | 0, h => absurd h (by omega)
  | n + 1, h => by
    show rsum (upd f k (f k + v)) n + upd f k (f k + v) n = rsum f n + f n + v
    by_cases e : k = n
    · subst e
      rw [upd_s, rsum_congr (h := f) (fun j hj => upd_n (by omega)), Int32.add_assoc]
    · rw [rsum_upd (by omega), upd_n (fun q => e q.symm), Int32.add_assoc, Int32.add_comm v, ← Int32.add_assoc]
theorem rsum_upds {f : AF} {k n : Nat} {v : Int32} (h : k < n) : rsum (upd f k (f k - v)) n = rsum f n - v := by
  rw [Int32.sub_eq_add_neg, rsum_upd h, ← Int32.sub_eq_add_neg]
theorem i_aw (a b p : Int32) : (a - p) + (b + p) = a + b := by
  rw [Int32.sub_eq_add_neg, Int32.add_assoc, ← Int32.add_assoc (-p), Int32.add_comm (-p), Int32.add_assoc, Int32.add_left_neg, Int32.add_zero]
theorem i_rf (a b p : Int32) : (a + p) + (b - p) = a + b := by
  rw [Int32.add_comm (a + p), Int32.add_comm a p, ← Int32.add_assoc, Int32.sub_eq_add_neg, Int32.add_assoc b, Int32.add_left_neg, Int32.add_zero, Int32.add_comm]
theorem i_cc (a p : Int32) : a + p + (-p) = a := by
  rw [Int32.add_assoc, Int32.add_right_neg, Int32.add_zero]
/-! THE INVARIANT. P: the slots whose half hour is done; blw: the winds that blew; c bounds the purses -/
def CD (x : SD) (N D : Nat) : Prop := x.1 = nI D ∧ x.2.1 = nI N ∧ N ≤ 16
def CW (e : AF) : Prop := ∀ h, h < 16 → ∃ w : Nat, w ≤ 99 ∧ e h = nI w
def CB (x : BD) (ow : AF) (P : Nat → Prop) : Prop := ∀ f k, f < 6 → k < 48 → ∃ o w : Nat, o ≤ 999 ∧ x.2 (f * 48 + k) = nI o ∧ x.1 (f * 48 + k) = nI w ∧ (0 < o → 1 ≤ w ∧ w ≤ 20 + 20 * (k / 16)) ∧ ((P k ∨ ow k ≠ -5) → o = 0)
def CS (x : LD) (blw : AF) (P : Nat → Prop) : Prop := ∀ k, k < 48 → (∃ p : Nat, p ≤ 999 ∧ x.2.2.1 k = nI p) ∧ ((x.1 k = -5 ∧ x.2.1 k = 0 ∧ x.2.2.1 k = 0) ∨ ∃ f w : Nat, f < 6 ∧ x.1 k = nI f ∧ x.2.1 k = nI w ∧ 1 ≤ w ∧ w ≤ 20 + 20 * (k / 16)) ∧ (P k → ∃ r : Nat, r ≤ 3 ∧ x.2.2.2 k = nI r ∧ ((r = 1 ∨ r = 2) ↔ x.1 k = -5) ∧ (x.1 k ≠ -5 → ∃ w b : Nat, w ≤ 60 ∧ b ≤ 99 ∧ x.2.1 k = nI w ∧ blw (k % 16) = nI b ∧ (r = 0 ↔ w + b ≤ 70)))
def CF (x : FD) (bo : AF) (c : Nat) : Prop := ∀ f, f < 6 → ∃ p : Nat, p ≤ c ∧ x.1 f = nI p ∧ ofB bo f ≤ p
def CT (x : FD) (t : TD) : Prop := rsum x.1 6 + t.2.1 = t.2.2.2.1 ∧ rsum x.2.2.1 6 = t.2.1 ∧ rsum x.2.2.2 6 = 0 ∧ rsum x.2.1 6 = t.2.2.2.2.2.1
def CI (c N D : Nat) (P : Nat → Prop) (blw : AF) (x : SD) : Prop := CD x N D ∧ CW x.2.2.1 ∧ CB x.2.2.2.2.1 x.2.2.2.2.2.1.1 P ∧ cntB x.2.2.2.2.1.2 ≤ 60 ∧ CS x.2.2.2.2.2.1 blw P ∧ CF x.2.2.2.2.2.2.1 x.2.2.2.2.1.2 c ∧ CT x.2.2.2.2.2.2.1 x.2.2.2.2.2.2.2
def CR (c N D : Nat) (x : SD) : Prop := CI c N D (fun k => k % 16 < N) x.2.2.2.1 x
theorem CF.le {x : FD} {bo bo' : AF} {c c' : Nat} (h : CF x bo c) (hc : c ≤ c') (e : ∀ f, f < 6 → ofB bo' f ≤ ofB bo f) : CF x bo' c' := fun f hf => by
  obtain ⟨p, h1, h2, h3⟩ := h f hf
  exact ⟨p, by omega, h2, Nat.le_trans (e f hf) h3⟩
theorem CB.iff {x : BD} {ow : AF} {P P' : Nat → Prop} (h : CB x ow P) (e : ∀ k, k < 48 → (P' k ↔ P k)) : CB x ow P' := fun f k hf hk => by
  obtain ⟨o, w, h1, h2, h3, h4, h5⟩ := h f k hf hk
  exact ⟨o, w, h1, h2, h3, h4, fun q => h5 (q.imp_left (e k hk).mp)⟩
theorem CS.iff {x : LD} {blw : AF} {P P' : Nat → Prop} (h : CS x blw P) (e : ∀ k, k < 48 → (P' k ↔ P k)) : CS x blw P' := fun k hk => by
  obtain ⟨h1, h2, h3⟩ := h k hk
  exact ⟨h1, h2, fun q => h3 ((e k hk).mp q)⟩
theorem CI.iff {c N D : Nat} {P P' : Nat → Prop} {blw : AF} {x : SD} (h : CI c N D P blw x) (e : ∀ k, k < 48 → (P' k ↔ P k)) : CI c N D P' blw x :=
  ⟨h.1, h.2.1, h.2.2.1.iff e, h.2.2.2.1, h.2.2.2.2.1.iff e, h.2.2.2.2.2.1, h.2.2.2.2.2.2⟩
theorem CI.le {c c' N D : Nat} {P : Nat → Prop} {blw : AF} {x : SD} (h : CI c N D P blw x) (hc : c ≤ c') : CI c' N D P blw x :=
  ⟨h.1, h.2.1, h.2.2.1, h.2.2.2.1, h.2.2.2.2.1, h.2.2.2.2.2.1.le hc (fun _ _ => Nat.le_refl _), h.2.2.2.2.2.2⟩
/-- whether a slot is given away -/
theorem CS.own {x : LD} {blw : AF} {P : Nat → Prop} {K : Nat} (h : CS x blw P) (hK : K < 48) : (fX5_isAwarded x (nI K) = 0 ∧ fX5_ownerOf x (nI K) = -5 ∧ x.1 K = -5) ∨ ∃ f w : Nat, f < 6 ∧ fX5_isAwarded x (nI K) = 1 ∧ fX5_ownerOf x (nI K) = nI f ∧ x.1 K = nI f ∧ x.2.1 K = nI w ∧ 1 ≤ w ∧ w ≤ 20 + 20 * (K / 16) := by
  obtain ⟨-, h4, -⟩ := h K hK
  unfold fX5_isAwarded fX5_ownerOf
  rw [rat_nI hK (by omega)]
  rcases h4 with ⟨a, -⟩ | ⟨f, w, h1, h2, h5, h6, h7⟩
  · exact .inl ⟨if_pos a, a, a⟩
  · exact .inr ⟨f, w, h1, if_neg (by rw [h2]; exact n5_nI (by omega)), h2, h2, h5, h6, h7⟩
theorem cb_off {x : BD} {ow : AF} {P : Nat → Prop} {F : Nat} (h : CB x ow P) (hF : F < 6) : fX0_offeredBy x (nI F) = some (nI (ofB x.2 F)) := by
  rw [cc_offeredBy x hF]
  exact congrArg some (rsum_nI (fun k hk => by
    obtain ⟨o, w, h1, h2, -⟩ := h F k hF hk
    show x.2 (F * 48 + k) = nI (x.2 (F * 48 + k)).toNatClampNeg
    rw [h2, nI_clamp (by omega)]))
