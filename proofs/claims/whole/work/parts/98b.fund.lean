/-! acts on row 0 itself -/
theorem rec0 {n : Nat} {X : HX} {M : MD} (hI : INV n X M) {r : Int32} (hr : ¬ r < 0) : ∃ (wh : HDT) (S1 : AF) (st : Int32), fX8_recorded X.1 X.2.1 X.2.2.2.1 r = some (r, wh) ∧ fX9_records M = some (S1, st, M.2.2) ∧ (∀ i, i < 835 → S1 i = M.1 i) ∧ ∀ (x' : SD) (S2 : AF), RX (cN (n + 1)) x' S2 0 → (∀ i, 835 ≤ i → S2 i = S1 i) → INV (n + 1) (X.1, x', X.2.1, wh, X.2.2.2.2.1, X.2.2.2.2.2) (S2, st, M.2.2) := by
  obtain ⟨h1, h2, h3, h4, h5⟩ := INV_nop' hI
  obtain ⟨u', S1, st, e1, e2, e3, e4⟩ := sim_store h2 h1
  unfold fX8_recorded
  rw [if_neg hr, e1]
  exact ⟨u', S1, st, rfl, e2, fun i hi => e4 i (.inl hi), fun x' S2 q1 q2 => ⟨q1, e3.to (Nat.le_refl _) (fun i a _ => q2 i a), h3.to (Nat.le_refl _) (fun i a b => (q2 i (by omega)).trans (e4 i (by omega))), h4, h5⟩⟩
theorem sim_fund : SIM_fund INV := fun n X M hI hn p1 p2 => by
  have hcn := cN_lt hn
  have hnop := INV_nop n X M hI hn
  have keep : ∀ r : Int32, r < 0 → ∃ (r' : Int32) (wnow wbefore : SD) (whist : HDT) (M2 : MD), (bnd (r, X.2.1) (fun zq1 => ((fX8_recorded X.1 X.2.1 X.2.2.2.1 zq1.1).bind (fun zq2 => some (zq2.1, zq1.2, X.2.1, zq2.2))))) = some (r', wnow, wbefore, whist) ∧ some (r, M) = some (r', M2) ∧ INV (n + 1) (X.1, wnow, wbefore, whist, X.2.2.2.2.1, X.2.2.2.2.2) M2 := fun r hr => by
    refine ⟨r, X.2.1, X.2.1, X.2.2.2.1, M, ?_, rfl, hnop⟩
    unfold fX8_recorded
    simp only [bnd]
    rw [if_pos hr]
    rfl
  unfold fX8_fund fX6_addCoins fX9_fund
  rcases zq_firm p1 with ⟨a1, a2⟩ | ⟨F, hF, rfl, a1, a2⟩
  · rw [if_pos a1, if_pos a2]
    exact keep _ (by decide)
  rw [if_neg (show ¬ fX8_isFirm (nI F) = 0 by rw [a1]; exact o10), if_neg (show ¬ fX9_in (nI F) 0 5 = 0 by rw [a2]; exact o10)]
  rcases zq_coin p2 with ⟨i2, i1⟩ | ⟨q, hq1, hq2, rfl, i2, i3, i4⟩
  · rw [if_pos i2]
    by_cases z : p2 < 1
    · rw [if_pos z]
      exact keep _ (by decide)
    · rw [if_neg z, if_neg (i1.resolve_left z)]
      exact keep _ (by decide)
  rw [if_neg i3, if_pos i4, if_neg (show ¬ fX9_in (nI q) 1 999 = 0 by rw [i2]; exact o10), show (2 : Int32) + nI F = nI (2 + F) from nI_add 2 F, if_pos (ib_nI (by omega) (by omega)), nI_clamp (n := 2 + F) (by omega), rat_nI hF (by omega)]
  obtain ⟨N, D, h⟩ := hI.1
  obtain ⟨f1, f2, f3, f4, p, f5, f6, f7⟩ := h.2.2.2.2.2.1 F hF
  rw [show M.1 (2 + F) = nI p by rw [← f6, f1, Nat.zero_add], f6, nI_add, show (9999 : Int32) - nI q = nI (9999 - q) from pk_sub (a := 9999) (by omega)]
  by_cases z : p + q ≤ 9999
  case neg =>
    rw [if_neg (show ¬ nI (p + q) ≤ 9999 from nI_ge (b := p + q) (a := 9999) (by omega) (by omega)), if_neg (nI_ge (by omega) (by omega))]
    exact keep _ (by decide)
  rw [if_pos (show nI (p + q) ≤ 9999 from nI_le (b := 9999) z (by omega)), if_pos (nI_le (by omega) (by omega)), radd_nI hF (by omega)]
  simp only [bnd]
  obtain ⟨wh, S1, st, e1, e2, e3, e4⟩ := rec0 hI (r := nI (p + q)) (nI_pos (by omega))
  have hv : upd X.2.1.2.2.2.2.2.2.1.1 F (X.2.1.2.2.2.2.2.2.1.1 F + nI q) F = nI (p + q) := by rw [upd_s, f6, nI_add]
  have g1 : S1 (2 + F) = nI p := by rw [e3 _ (by omega), ← f6, f1, Nat.zero_add]
  rw [rat_nI hF (by omega), hv, e1, e2, Option.bind_some, Option.bind_some]
  dsimp only
  rw [show (32 : Int32).toNatClampNeg = 32 from rfl, upd_n (show 2 + F ≠ 32 by omega), upd_s, g1, nI_add, upd_n (show 32 ≠ 2 + F by omega)]
  have hR : RR (cN n) N D X.2.1 S1 0 := RM.to h (Nat.le_refl _) (fun j hj => e3 _ (by omega))
  obtain ⟨hd, hW, hb, hcn', hs, hf, ht⟩ := hR
  have ho : ∀ i, i ≠ 2 + F → i ≠ 32 → upd (upd S1 (2 + F) (nI (p + q))) 32 (S1 32 + nI q) i = S1 i := fun i h1 h2 => by rw [upd_n h2, upd_n h1]
  refine ⟨_, _, _, _, _, rfl, rfl, e4 _ _ ⟨N, D, hd.to (ho _ (by omega) (by omega)) (ho _ (by omega) (by omega)), hW.to (fun j hj => ⟨ho _ (by omega) (by omega), ho _ (by omega) (by omega)⟩), hb.to (fun f k hf' hk => ⟨ho _ (by omega) (by omega), ho _ (by omega) (by omega)⟩), hcn', hs.to (fun k hk => ⟨ho _ (by omega) (by omega), ho _ (by omega) (by omega), ho _ (by omega) (by omega), ho _ (by omega) (by omega)⟩), fun f hf' => ?_, ?_⟩ (fun i hi => ho i (by omega) (by omega))⟩
  · obtain ⟨b1, b2, b3, b4, p', b5, b6, b7⟩ := hf f hf'
    show upd X.2.1.2.2.2.2.2.2.1.1 F (X.2.1.2.2.2.2.2.2.1.1 F + nI q) f = _ ∧ _ ∧ _ ∧ _ ∧ ∃ v : Nat, v ≤ cN (n + 1) ∧ upd X.2.1.2.2.2.2.2.2.1.1 F (X.2.1.2.2.2.2.2.2.1.1 F + nI q) f = nI v ∧ _
    rw [ho (0 + 8 + f) (by omega) (by omega), ho (0 + 14 + f) (by omega) (by omega), ho (0 + 20 + f) (by omega) (by omega)]
    by_cases e : f = F
    · subst e
      rw [hv, show 0 + 2 + f = 2 + f by omega, upd_n (by omega), upd_s]
      have hpp : p' = p := (nI_eq (by omega) (by omega)).mp (by rw [← b6, ← f6])
      have b8 : ofB X.2.1.2.2.2.2.1.2 f ≤ p + q := by omega
      exact ⟨rfl, b2, b3, b4, p + q, by have := cN_s n; omega, rfl, b8⟩
    · rw [upd_n e, ho (0 + 2 + f) (by omega) (by omega)]
      exact ⟨b1, b2, b3, b4, p', Nat.le_trans b5 (cN_le n), b6, b7⟩
  · obtain ⟨t1, t2, t3, t4, t5, t6, t7, t8, t9⟩ := ht
    refine ⟨?_, ?_, ?_, ?_, ?_, ?_, ?_, ?_, ?_⟩
    · rw [ho _ (by omega) (by omega)]; exact t1
    · rw [ho _ (by omega) (by omega)]; exact t2
    · rw [ho _ (by omega) (by omega)]; exact t3
    · rw [ho _ (by omega) (by omega)]; exact t4
    · rw [ho _ (by omega) (by omega)]; exact t5
    · show X.2.1.2.2.2.2.2.2.2.2.2.2.1 + nI q = upd _ 32 _ 32
      rw [upd_s]
      exact congrArg (· + nI q) t6
    · rw [ho _ (by omega) (by omega)]; exact t7
    · rw [ho _ (by omega) (by omega)]; exact t8
    · rw [ho _ (by omega) (by omega)]; exact t9
