/-! a slot's half hour is over -/
theorem RB_clr2 {x : BD} {P P' : Nat → Prop} {S : AF} {B K : Nat} (h : RB x P S B) (hK : K < 48) (hP : ∀ k, k < 48 → P' k → P k ∨ k = K) : RB (rmS x K 6) P' (clrS S B K 6) B := fun f k hf hk => by
  obtain ⟨h1, h2, o, w, h3, h4, h5, h6, h7⟩ := h f k hf hk
  by_cases e : k = K
  · subst e
    rw [(rmS_in f hf).1, (rmS_in f hf).2, (clrS_in (by omega) f hf).1, (clrS_in (by omega) f hf).2]
    exact ⟨rfl, rfl, 0, 0, by omega, rfl, rfl, fun q => absurd q (by omega), fun _ => ⟨rfl, rfl⟩⟩
  · have e1 := rmS_out (x := x) (K := K) (i := f * 48 + k) (n := 6) (fun f' hf' => by omega)
    rw [e1.1, e1.2, clrS_out (fun f' hf' => by omega), clrS_out (fun f' hf' => by omega)]
    exact ⟨h1, h2, o, w, h3, h4, h5, h6, fun z => h7 ((hP k hk z).resolve_right e)⟩
theorem RF.bo {x : FD} {bo bo' : AF} {c : Nat} {S : AF} {B : Nat} (h : RF x bo c S B) (e : ∀ f, f < 6 → ofB bo' f ≤ ofB bo f) : RF x bo' c S B := fun f hf => by
  obtain ⟨f1, f2, f3, f4, p, f5, f6, f7⟩ := h f hf
  exact ⟨f1, f2, f3, f4, p, f5, f6, Nat.le_trans (e f hf) f7⟩
theorem RM_end {c c' N D : Nat} {P P' : Nat → Prop} {blw : AF} {x : SD} {S S2 : AF} {B : Nat} (h : RM c N D P blw x S B) {K r : Nat} (hK : K < 48) (hr : r ≤ 3) (hP : ∀ k, k < 48 → (P' k ↔ P k ∨ k = K)) {FD' : FD} {TD' : TD} (hS : ∀ i, (i < B + 2 ∨ B + 35 ≤ i) → i ≠ B + 195 + K → S2 i = S i) (hS2 : S2 (B + 195 + K) = nI r) (hF : RF FD' x.2.2.2.2.1.2 c' S2 B) (hT : RT TD' S2 B) :
    RM c' N D P' blw (x.1, x.2.1, x.2.2.1, x.2.2.2.1, rmS x.2.2.2.2.1 K 6, (x.2.2.2.2.2.1.1, x.2.2.2.2.2.1.2.1, x.2.2.2.2.2.1.2.2.1, upd x.2.2.2.2.2.1.2.2.2 K (nI r)), FD', TD') (clrS S2 B K 6) B := by
  obtain ⟨hd, hW, hb, hcn, hs, hf, ht⟩ := h
  have hc : ∀ i, (i < B + 243 ∨ B + 819 ≤ i) → clrS S2 B K 6 i = S2 i := fun i hi => clrS_out (fun f hf => by omega)
  have ho : ∀ i, (i < B + 2 ∨ (B + 35 ≤ i ∧ i < B + 195) ∨ B + 819 ≤ i) → clrS S2 B K 6 i = S i := fun i hi => by rw [hc i (by omega), hS i (by omega) (by omega)]
  refine ⟨hd.to (ho _ (by omega)) (ho _ (by omega)), hW.to (fun j hj => ⟨ho _ (by omega), ho _ (by omega)⟩), RB_clr2 (P := P) (hb.to (fun f k hf' hk => ⟨hS _ (by omega) (by omega), hS _ (by omega) (by omega)⟩)) hK (fun k hk => (hP k hk).mp), Nat.le_trans (cnt_rm _ _ hK) hcn, fun k hk => ?_, ?_, hT.to (fun j h1 h2 => hc _ (by omega))⟩
  · obtain ⟨s1, s2, s3, s4, s5, s6⟩ := hs k hk
    rw [ho _ (by omega), ho _ (by omega), ho _ (by omega), hc _ (by omega)]
    refine ⟨s1, s2, s3, s4, ?_, ?_⟩
    · show P' k → ∃ q : Nat, q ≤ 3 ∧ upd _ _ _ _ = nI q ∧ _
      intro z
      by_cases e : k = K
      · subst e
        rw [upd_s, hS2]
        exact ⟨r, hr, rfl, rfl⟩
      · rw [upd_n e, hS _ (by omega) (by omega)]
        exact s5 (((hP k hk).mp z).resolve_right e)
    · intro z
      have e : k ≠ K := fun e => z ((hP k hk).mpr (.inr e))
      rw [hS _ (by omega) (by omega)]
      exact s6 (fun q => z ((hP k hk).mpr (.inl q)))
  · refine (hF.to (Nat.le_refl _) (fun f hf' => ⟨hc _ (by omega), hc _ (by omega), hc _ (by omega), hc _ (by omega)⟩)).bo (fun f hf' => ?_)
    have := ofB_rm x.2.2.2.2.1 hf' hK
    show ofB (rmS x.2.2.2.2.1 K 6).2 f ≤ _
    omega
/-- no lift: nobody has it -/
def enS1 (S : AF) (B K r : Nat) : AF := upd (upd S (B + 195 + K) (nI r)) (B + 26 + r) (S (B + 26 + r) + 1)
theorem RM_end1 {c N D : Nat} {P P' : Nat → Prop} {blw : AF} {x : SD} {S : AF} {B : Nat} (h : RM c N D P blw x S B) {K r : Nat} (hK : K < 48) (hr : r = 1 ∨ r = 2) (hP : ∀ k, k < 48 → (P' k ↔ P k ∨ k = K)) :
    RM c N D P' blw (x.1, x.2.1, x.2.2.1, x.2.2.2.1, rmS x.2.2.2.2.1 K 6, (x.2.2.2.2.2.1.1, x.2.2.2.2.2.1.2.1, x.2.2.2.2.2.1.2.2.1, upd x.2.2.2.2.2.1.2.2.2 K (nI r)), x.2.2.2.2.2.2.1, (upd x.2.2.2.2.2.2.2.1 r (x.2.2.2.2.2.2.2.1 r + 1), x.2.2.2.2.2.2.2.2)) (clrS (enS1 S B K r) B K 6) B := by
  have ho : ∀ i, i ≠ B + 195 + K → i ≠ B + 26 + r → enS1 S B K r i = S i := fun i h1 h2 => by
    unfold enS1
    rw [upd_n h2, upd_n h1]
  refine RM_end h hK (by omega) hP (fun i h1 h2 => ho i h2 (by omega)) ?_ (h.2.2.2.2.2.1.to (Nat.le_refl _) (fun f hf' => ⟨ho _ (by omega) (by omega), ho _ (by omega) (by omega), ho _ (by omega) (by omega), ho _ (by omega) (by omega)⟩)) ?_
  · unfold enS1
    rw [upd_n (by omega), upd_s]
  · obtain ⟨t1, t2, t3, t4, t5, t6, t7, t8, t9⟩ := h.2.2.2.2.2.2
    have hi : enS1 S B K r (B + 26 + r) = S (B + 26 + r) + 1 := by
      unfold enS1
      rw [upd_s]
    rcases hr with rfl | rfl
    · refine ⟨?_, ?_, ?_, ?_, ?_, ?_, ?_, ?_, ?_⟩
      · show upd x.2.2.2.2.2.2.2.1 1 (x.2.2.2.2.2.2.2.1 1 + 1) 1 = _
        rw [upd_s, t1]
        exact hi.symm
      · show upd x.2.2.2.2.2.2.2.1 1 (x.2.2.2.2.2.2.2.1 1 + 1) 2 = _
        rw [upd_n (by omega), ho _ (by omega) (by omega)]
        exact t2
      · show upd x.2.2.2.2.2.2.2.1 1 (x.2.2.2.2.2.2.2.1 1 + 1) 3 = _
        rw [upd_n (by omega), ho _ (by omega) (by omega)]
        exact t3
      all_goals (rw [ho _ (by omega) (by omega)]; assumption)
    · refine ⟨?_, ?_, ?_, ?_, ?_, ?_, ?_, ?_, ?_⟩
      · show upd x.2.2.2.2.2.2.2.1 2 (x.2.2.2.2.2.2.2.1 2 + 1) 1 = _
        rw [upd_n (by omega), ho _ (by omega) (by omega)]
        exact t1
      · show upd x.2.2.2.2.2.2.2.1 2 (x.2.2.2.2.2.2.2.1 2 + 1) 2 = _
        rw [upd_s, t2]
        exact hi.symm
      · show upd x.2.2.2.2.2.2.2.1 2 (x.2.2.2.2.2.2.2.1 2 + 1) 3 = _
        rw [upd_n (by omega), ho _ (by omega) (by omega)]
        exact t3
      all_goals (rw [ho _ (by omega) (by omega)]; assumption)
