/-! what keeps the invariant: a bid, a bid less, an award, a sale -/
theorem CI_bid {c N D : Nat} {P : Nat → Prop} {blw : AF} {x : SD} (h : CI c N D P blw x) (hc : c < 2 ^ 30) {F K w q p : Nat} (hF : F < 6) (hK : K < 48) (hw1 : 1 ≤ w) (hw2 : w ≤ 20 + 20 * (K / 16)) (hq2 : q ≤ 999) (hP : ¬ P K) (ho : x.2.2.2.2.2.1.1 K = -5) (hz : x.2.2.2.2.1.2 (F * 48 + K) = 0) (hp : x.2.2.2.2.2.2.1.1 F = nI p) (hpc : p ≤ c) (hpo : q + ofB x.2.2.2.2.1.2 F ≤ p) (hcn : cntB x.2.2.2.2.1.2 < 60) :
    CI c N D P blw (x.1, x.2.1, x.2.2.1, x.2.2.2.1, (upd x.2.2.2.2.1.1 (F * 48 + K) (nI w), upd x.2.2.2.2.1.2 (F * 48 + K) (nI q)), x.2.2.2.2.2.1, x.2.2.2.2.2.2.1, x.2.2.2.2.2.2.2) := by
  obtain ⟨hd, hW, hb, hcn', hs, hf, ht⟩ := h
  refine ⟨hd, hW, fun f k hf' hk => ?_, ?_, hs, fun f hf' => ?_, ht⟩
  · show ∃ o w' : Nat, o ≤ 999 ∧ upd _ _ _ _ = _ ∧ upd _ _ _ _ = _ ∧ _
    by_cases e : f = F ∧ k = K
    · obtain ⟨rfl, rfl⟩ := e
      rw [upd_s, upd_s]
      exact ⟨q, w, hq2, rfl, rfl, fun _ => ⟨hw1, hw2⟩, fun z => z.elim (fun z => absurd z hP) (fun z => absurd ho z)⟩
    · have e1 : f * 48 + k ≠ F * 48 + K := by omega
      rw [upd_n e1, upd_n e1]
      exact hb f k hf' hk
  · show cntB (upd _ _ _) ≤ 60
    have h1 := cntB_upd x.2.2.2.2.1.2 (v := nI q) hF hK
    have h2 := pos1n_le (nI q)
    omega
  · obtain ⟨p', f5, f6, f7⟩ := hf f hf'
    refine ⟨p', f5, f6, ?_⟩
    show ofB (upd _ _ _) f ≤ p'
    by_cases e : f = F
    · subst e
      have h1 := ofB_upd x.2.2.2.2.1.2 (F := f) (v := nI q) hK
      rw [hz, nI_clamp (by omega), show (0 : Int32).toNatClampNeg = 0 from rfl] at h1
      have h2 : p' = p := (nI_eq (by omega) (by omega)).mp (by rw [← f6]; exact hp)
      omega
    · rw [ofB_oth _ hK e]
      exact f7
theorem CI_rm {c N D : Nat} {P : Nat → Prop} {blw : AF} {x : SD} (h : CI c N D P blw x) {F K : Nat} (hF : F < 6) (hK : K < 48) :
    CI c N D P blw (x.1, x.2.1, x.2.2.1, x.2.2.2.1, (upd x.2.2.2.2.1.1 (F * 48 + K) 0, upd x.2.2.2.2.1.2 (F * 48 + K) 0), x.2.2.2.2.2.1, x.2.2.2.2.2.2.1, x.2.2.2.2.2.2.2) := by
  obtain ⟨hd, hW, hb, hcn', hs, hf, ht⟩ := h
  refine ⟨hd, hW, fun f k hf' hk => ?_, ?_, hs, fun f hf' => ?_, ht⟩
  · show ∃ o w' : Nat, o ≤ 999 ∧ upd _ _ _ _ = _ ∧ upd _ _ _ _ = _ ∧ _
    by_cases e : f = F ∧ k = K
    · obtain ⟨rfl, rfl⟩ := e
      rw [upd_s, upd_s]
      exact ⟨0, 0, by omega, rfl, rfl, fun z => absurd z (by omega), fun _ => rfl⟩
    · have e1 : f * 48 + k ≠ F * 48 + K := by omega
      rw [upd_n e1, upd_n e1]
      exact hb f k hf' hk
  · show cntB (upd _ _ _) ≤ 60
    have h1 := cntB_upd x.2.2.2.2.1.2 (v := 0) hF hK
    have h2 : pos1n 0 = 0 := rfl
    omega
  · obtain ⟨p', f5, f6, f7⟩ := hf f hf'
    refine ⟨p', f5, f6, ?_⟩
    show ofB (upd _ _ _) f ≤ p'
    by_cases e : f = F
    · subst e
      have h1 := ofB_upd x.2.2.2.2.1.2 (F := f) (v := 0) hK
      rw [show (0 : Int32).toNatClampNeg = 0 from rfl] at h1
      omega
    · rw [ofB_oth _ hK e]
      exact f7
theorem CB_clr {x : BD} {ow ow' : AF} {P P' : Nat → Prop} {K : Nat} (h : CB x ow P) (hK : K < 48) (hP : ∀ k, k < 48 → k ≠ K → (P' k ∨ ow' k ≠ -5) → (P k ∨ ow k ≠ -5)) : CB (rmS x K 6) ow' P' := fun f k hf hk => by
  obtain ⟨o, w, h3, h4, h5, h6, h7⟩ := h f k hf hk
  by_cases e : k = K
  · subst e
    rw [(rmS_in f hf).1, (rmS_in f hf).2]
    exact ⟨0, 0, by omega, rfl, rfl, fun q => absurd q (by omega), fun _ => rfl⟩
  · have e1 := rmS_out (x := x) (K := K) (i := f * 48 + k) (n := 6) (fun f' hf' => by omega)
    rw [e1.1, e1.2]
    exact ⟨o, w, h3, h4, h5, h6, fun q => h7 (hP k hk e q)⟩
theorem CI_aw {c N D : Nat} {P : Nat → Prop} {blw : AF} {x : SD} (h : CI c N D P blw x) (hc : c < 2 ^ 30) {K g o w p : Nat} (hK : K < 48) (hg : g < 6) (ho : o ≤ 999) (hpo : p ≤ o) (hxo : x.2.2.2.2.1.2 (g * 48 + K) = nI o) (hxw : x.2.2.2.2.1.1 (g * 48 + K) = nI w) (hw1 : 1 ≤ w) (hw2 : w ≤ 20 + 20 * (K / 16)) (hP : ¬ P K) : CI c N D P blw (awX x K g (nI p)) := by
  obtain ⟨hd, hW, hb, hcn, hs, hf, ht⟩ := h
  refine ⟨hd, hW, CB_clr hb hK (fun k hk e q => ?_), Nat.le_trans (cnt_rm _ _ hK) hcn, fun k hk => ?_, fun f hf' => ?_, ?_⟩
  · refine q.imp_right (fun z => ?_)
    have z : upd x.2.2.2.2.2.1.1 K (nI g) k ≠ -5 := z
    rwa [upd_n e] at z
  · obtain ⟨s1, s2, s3⟩ := hs k hk
    show (∃ q : Nat, q ≤ 999 ∧ upd _ _ _ _ = nI q) ∧ ((upd _ _ _ _ = _ ∧ upd _ _ _ _ = _ ∧ upd _ _ _ _ = _) ∨ ∃ f w' : Nat, f < 6 ∧ upd _ _ _ _ = _ ∧ upd _ _ _ _ = _ ∧ _) ∧ (P k → ∃ r : Nat, r ≤ 3 ∧ x.2.2.2.2.2.1.2.2.2 k = nI r ∧ ((r = 1 ∨ r = 2) ↔ upd _ _ _ _ = -5) ∧ (upd _ _ _ _ ≠ -5 → ∃ w b : Nat, w ≤ 60 ∧ b ≤ 99 ∧ upd _ _ _ _ = nI w ∧ blw (k % 16) = nI b ∧ (r = 0 ↔ w + b ≤ 70)))
    by_cases e : k = K
    · subst e
      rw [upd_s, upd_s, upd_s]
      exact ⟨⟨p, by omega, rfl⟩, .inr ⟨g, w, hg, rfl, hxw, hw1, hw2⟩, fun z => absurd z hP⟩
    · rw [upd_n e, upd_n e, upd_n e]
      exact ⟨s1, s2, s3⟩
  · obtain ⟨p', f5, f6, f7⟩ := hf f hf'
    have hrm := ofB_rm x.2.2.2.2.1 hf' hK
    show ∃ q : Nat, q ≤ c ∧ upd _ _ _ _ = nI q ∧ ofB (rmS x.2.2.2.2.1 K 6).2 f ≤ q
    by_cases e : f = g
    · subst e
      rw [hxo, nI_clamp (by omega)] at hrm
      rw [upd_s, f6]
      exact ⟨p' - p, by omega, pk_sub (by omega), by omega⟩
    · rw [upd_n e]
      exact ⟨p', f5, f6, by omega⟩
  · obtain ⟨t1, t2, t3, t4⟩ := ht
    refine ⟨?_, ?_, t3, t4⟩
    · show rsum (upd _ _ _) 6 + (x.2.2.2.2.2.2.2.2.1 + nI p) = _
      rw [rsum_upds hg, i_aw]
      exact t1
    · show rsum (upd _ _ _) 6 = x.2.2.2.2.2.2.2.2.1 + nI p
      rw [rsum_upd hg, t2]
def slX (x : SD) (K s g : Nat) (w v : Int32) : SD := (x.1, x.2.1, x.2.2.1, x.2.2.2.1, x.2.2.2.2.1, (upd x.2.2.2.2.2.1.1 K (nI g), upd x.2.2.2.2.2.1.2.1 K w, x.2.2.2.2.2.1.2.2.1, x.2.2.2.2.2.1.2.2.2), (upd (upd x.2.2.2.2.2.2.1.1 s (x.2.2.2.2.2.2.1.1 s + v)) g (upd x.2.2.2.2.2.2.1.1 s (x.2.2.2.2.2.2.1.1 s + v) g + -v), x.2.2.2.2.2.2.1.2.1, x.2.2.2.2.2.2.1.2.2.1, upd (upd x.2.2.2.2.2.2.1.2.2.2 s (x.2.2.2.2.2.2.1.2.2.2 s + v)) g (upd x.2.2.2.2.2.2.1.2.2.2 s (x.2.2.2.2.2.2.1.2.2.2 s + v) g + -v)), (x.2.2.2.2.2.2.2.1, x.2.2.2.2.2.2.2.2.1, x.2.2.2.2.2.2.2.2.2.1, x.2.2.2.2.2.2.2.2.2.2.1, x.2.2.2.2.2.2.2.2.2.2.2.1 + 1, x.2.2.2.2.2.2.2.2.2.2.2.2.1, x.2.2.2.2.2.2.2.2.2.2.2.2.2))
theorem CI_sell {c N D : Nat} {P : Nat → Prop} {blw : AF} {x : SD} (h : CI c N D P blw x) (hc : c < 2 ^ 29) {K s g w v pg : Nat} (hK : K < 48) (hs6 : s < 6) (hg : g < 6) (hsg : s ≠ g) (hw1 : 1 ≤ w) (hw2 : w ≤ 20 + 20 * (K / 16)) (hv : v ≤ 999) (hP : ¬ P K) (how : x.2.2.2.2.2.1.1 K = nI s) (hp : x.2.2.2.2.2.2.1.1 g = nI pg) (hpc : pg ≤ c) (hpo : v + ofB x.2.2.2.2.1.2 g ≤ pg) : CI (c + 999) N D P blw (slX x K s g (nI w) (nI v)) := by
  obtain ⟨hd, hW, hb, hcn, hs, hf, ht⟩ := h
  have own5 : x.2.2.2.2.2.1.1 K ≠ -5 := by rw [how]; exact n5_nI (by omega)
  refine ⟨hd, hW, fun f k hf' hk => ?_, hcn, fun k hk => ?_, fun f hf' => ?_, ?_⟩
  · obtain ⟨o, w', h3, h4, h5, h6, h7⟩ := hb f k hf' hk
    refine ⟨o, w', h3, h4, h5, h6, fun q => h7 (q.imp_right (fun z => ?_))⟩
    have z : upd x.2.2.2.2.2.1.1 K (nI g) k ≠ -5 := z
    by_cases e : k = K
    · subst e
      exact own5
    · rwa [upd_n e] at z
  · obtain ⟨s1, s2, s3⟩ := hs k hk
    show _ ∧ ((upd _ _ _ _ = _ ∧ upd _ _ _ _ = _ ∧ _) ∨ ∃ f w' : Nat, f < 6 ∧ upd _ _ _ _ = _ ∧ upd _ _ _ _ = _ ∧ _) ∧ (P k → ∃ r : Nat, r ≤ 3 ∧ x.2.2.2.2.2.1.2.2.2 k = nI r ∧ ((r = 1 ∨ r = 2) ↔ upd _ _ _ _ = -5) ∧ (upd _ _ _ _ ≠ -5 → ∃ w b : Nat, w ≤ 60 ∧ b ≤ 99 ∧ upd _ _ _ _ = nI w ∧ blw (k % 16) = nI b ∧ (r = 0 ↔ w + b ≤ 70)))
    by_cases e : k = K
    · subst e
      rw [upd_s, upd_s]
      exact ⟨s1, .inr ⟨g, w, hg, rfl, rfl, hw1, hw2⟩, fun z => absurd z hP⟩
    · rw [upd_n e, upd_n e]
      exact ⟨s1, s2, s3⟩
  · obtain ⟨p', f5, f6, f7⟩ := hf f hf'
    show ∃ q : Nat, q ≤ c + 999 ∧ upd _ _ _ _ = nI q ∧ ofB x.2.2.2.2.1.2 f ≤ q
    by_cases e : f = g
    · subst e
      rw [upd_s, upd_n (fun z => hsg z.symm), hp, ← Int32.sub_eq_add_neg]
      exact ⟨pg - v, by omega, pk_sub (by omega), by omega⟩
    · rw [upd_n e]
      by_cases e2 : f = s
      · subst e2
        rw [upd_s, f6, nI_add]
        exact ⟨p' + v, by omega, rfl, by omega⟩
      · rw [upd_n e2]
        exact ⟨p', by omega, f6, f7⟩
  · obtain ⟨t1, t2, t3, t4⟩ := ht
    refine ⟨?_, t2, ?_, t4⟩
    · show rsum (upd (upd _ _ _) _ _) 6 + _ = _
      rw [rsum_upd hg, rsum_upd hs6, i_cc]
      exact t1
    · show rsum (upd (upd _ _ _) _ _) 6 = 0
      rw [rsum_upd hg, rsum_upd hs6, i_cc]
      exact t3
theorem CI_wind {c N D : Nat} {P : Nat → Prop} {blw : AF} {x : SD} (h : CI c N D P blw x) {H w : Nat} (hw : w ≤ 99) : CI c N D P blw (x.1, x.2.1, upd x.2.2.1 H (nI w), x.2.2.2.1, x.2.2.2.2.1, x.2.2.2.2.2.1, x.2.2.2.2.2.2.1, x.2.2.2.2.2.2.2) := by
  obtain ⟨hd, hW, hb, hcn, hs, hf, ht⟩ := h
  refine ⟨hd, fun j hj => ?_, hb, hcn, hs, hf, ht⟩
  show ∃ v : Nat, v ≤ 99 ∧ upd _ _ _ _ = nI v
  by_cases e : j = H
  · subst e
    rw [upd_s]
    exact ⟨w, hw, rfl⟩
  · rw [upd_n e]
    exact hW j hj
theorem CI_fund {c N D : Nat} {P : Nat → Prop} {blw : AF} {x : SD} (h : CI c N D P blw x) {F q p : Nat} (hF : F < 6) (hq : q ≤ 999) (hp : x.2.2.2.2.2.2.1.1 F = nI p) (hpc : p ≤ c) (hpo : ofB x.2.2.2.2.1.2 F ≤ p) : CI (c + 999) N D P blw (x.1, x.2.1, x.2.2.1, x.2.2.2.1, x.2.2.2.2.1, x.2.2.2.2.2.1, (upd x.2.2.2.2.2.2.1.1 F (x.2.2.2.2.2.2.1.1 F + nI q), x.2.2.2.2.2.2.1.2.1, x.2.2.2.2.2.2.1.2.2.1, x.2.2.2.2.2.2.1.2.2.2), (x.2.2.2.2.2.2.2.1, x.2.2.2.2.2.2.2.2.1, x.2.2.2.2.2.2.2.2.2.1, x.2.2.2.2.2.2.2.2.2.2.1 + nI q, x.2.2.2.2.2.2.2.2.2.2.2.1, x.2.2.2.2.2.2.2.2.2.2.2.2.1, x.2.2.2.2.2.2.2.2.2.2.2.2.2)) := by
  obtain ⟨hd, hW, hb, hcn, hs, hf, ht⟩ := h
  refine ⟨hd, hW, hb, hcn, hs, fun f hf' => ?_, ?_⟩
  · show ∃ z : Nat, z ≤ c + 999 ∧ upd _ _ _ _ = nI z ∧ ofB x.2.2.2.2.1.2 f ≤ z
    by_cases e : f = F
    · subst e
      rw [upd_s, hp, nI_add]
      exact ⟨p + q, by omega, rfl, by omega⟩
    · rw [upd_n e]
      obtain ⟨p', f5, f6, f7⟩ := hf f hf'
      exact ⟨p', by omega, f6, f7⟩
  · obtain ⟨t1, t2, t3, t4⟩ := ht
    refine ⟨?_, t2, t3, t4⟩
    show rsum (upd _ _ _) 6 + _ = x.2.2.2.2.2.2.2.2.2.2.1 + nI q
    rw [rsum_upd hF, ← t1, Int32.add_assoc, Int32.add_comm (nI q), ← Int32.add_assoc]
/-- a slot whose half hour is done: its reason, its bids gone -/
theorem CI_end {c c' N D : Nat} {P P' : Nat → Prop} {blw : AF} {x : SD} (h : CI c N D P blw x) {K r : Nat} (hK : K < 48) (hr : r ≤ 3) (hP : ∀ k, k < 48 → (P' k ↔ P k ∨ k = K)) (hr2 : (r = 1 ∨ r = 2) ↔ x.2.2.2.2.2.1.1 K = -5) (hr3 : x.2.2.2.2.2.1.1 K ≠ -5 → ∃ w b : Nat, w ≤ 60 ∧ b ≤ 99 ∧ x.2.2.2.2.2.1.2.1 K = nI w ∧ blw (K % 16) = nI b ∧ (r = 0 ↔ w + b ≤ 70)) {FD' : FD} {TD' : TD} (hF : CF FD' x.2.2.2.2.1.2 c') (hT : CT FD' TD') :
    CI c' N D P' blw (x.1, x.2.1, x.2.2.1, x.2.2.2.1, rmS x.2.2.2.2.1 K 6, (x.2.2.2.2.2.1.1, x.2.2.2.2.2.1.2.1, x.2.2.2.2.2.1.2.2.1, upd x.2.2.2.2.2.1.2.2.2 K (nI r)), FD', TD') := by
  obtain ⟨hd, hW, hb, hcn, hs, hf, ht⟩ := h
  refine ⟨hd, hW, CB_clr hb hK (fun k hk e q => q.imp_left (fun z => ((hP k hk).mp z).resolve_right e)), Nat.le_trans (cnt_rm _ _ hK) hcn, fun k hk => ?_, hF.le (Nat.le_refl _) (fun f hf' => ?_), hT⟩
  · obtain ⟨s1, s2, s3⟩ := hs k hk
    refine ⟨s1, s2, fun z => ?_⟩
    show ∃ r : Nat, r ≤ 3 ∧ upd _ _ _ _ = nI r ∧ _
    by_cases e : k = K
    · subst e
      rw [upd_s]
      exact ⟨r, hr, rfl, hr2, hr3⟩
    · rw [upd_n e]
      exact s3 (((hP k hk).mp z).resolve_right e)
  · have := ofB_rm x.2.2.2.2.1 hf' hK
    show ofB (rmS x.2.2.2.2.1 K 6).2 f ≤ _
    omega
