/-! who bids most; awards; half hours -/
def msk (x : BD) (hv : Int32) (K f : Nat) : Int32 := if (!decide (hv < x.1 (f * 48 + K))) = true then x.2 (f * 48 + K) else 0
theorem zr_win (x : BD) {K : Nat} (hK : K < 48) (hv : Int32) : fX0_winner x (nI K) hv = some (enc (-5) (bst (msk x hv K) (fun _ => true) 6)) := by
  rw [cc_winner x hK]
  have e1 := bst_mask (fun f => x.2 (f * 48 + K)) (fun f => !decide (hv < x.1 (f * 48 + K))) (fun _ => true) 6
  exact congrArg (fun z => some (enc (-5) z)) e1
theorem zr_hi (x : BD) {K : Nat} (hK : K < 48) (hv bf : Int32) : fX0_highest x (nI K) hv bf = some (hif (msk x hv K) (fun f => !decide (nI f = bf)) 6) := by
  rw [cc_highest x hK]
  exact congrArg some (hif_mask (fun f => x.2 (f * 48 + K)) (fun f => !decide (hv < x.1 (f * 48 + K))) (fun f => !decide (nI f = bf)) 6)
/-- the one who gets a slot: what is known of it -/
theorem zr_got {x : BD} {ow : AF} {P : Nat → Prop} {K g : Nat} {hv : Int32} (hb : CB x ow P) (hK : K < 48) (h : bst (msk x hv K) (fun _ => true) 6 = some g) : g < 6 ∧ ∃ o w p : Nat, o ≤ 999 ∧ p ≤ o ∧ x.2 (g * 48 + K) = nI o ∧ x.1 (g * 48 + K) = nI w ∧ 1 ≤ w ∧ w ≤ 20 + 20 * (K / 16) ∧ 0 < o ∧ hif (msk x hv K) (fun f => !decide (nI f = nI g)) 6 = nI p := by
  obtain ⟨h1, -, h2, h3⟩ := bst_some h
  obtain ⟨o, w, b3, b4, b5, b6, -⟩ := hb g K h1 hK
  have e2 : msk x hv K g = nI o := by
    unfold msk at h3 ⊢
    by_cases z : (!decide (hv < x.1 (g * 48 + K))) = true
    · rw [if_pos z]
      exact b4
    · rw [if_neg z] at h3
      exact absurd h3 (by decide)
  have ho : 0 < o := by
    rcases Nat.eq_zero_or_pos o with z | z
    · subst z
      rw [e2] at h3
      exact absurd h3 (by decide)
    · exact z
  have h4 := hif_mono (msk x hv K) (fun f => !decide (nI f = nI g)) 6
  rw [h2, e2] at h4
  obtain ⟨p, h5, h6⟩ := nI_of2 (M := nI o) (n := o) (nI_toInt (by omega)) (Int32.not_lt.mpr (hif_pos _ _ _)) h4
  exact ⟨h1, o, w, p, b3, h5, b4, b5, (b6 ho).1, (b6 ho).2, ho, h6⟩
/-- the heaviest lift at the expected wind -/
def hvv (x : SD) (C H : Nat) : Int32 := fX8_heaviestAt (nI C) (x.2.2.1 H)
theorem hvv_eq (x : SD) {C H : Nat} (hH : H < 16) : fX6_heaviestLift x (nI C) (nI H) = hvv x C H := by
  unfold fX6_heaviestLift hvv
  rw [rat_nI hH (by omega)]
theorem cr_aw0 {x : SD} {C H : Nat} (hC : C < 3) (hH : H < 16) (hb : bst (msk x.2.2.2.2.1 (hvv x C H) (C * 16 + H)) (fun _ => true) 6 = none) : fX6_awardOpen x (nI C) (nI H) = some (-5, x) := by
  have hK : C * 16 + H < 48 := by omega
  have e := zr_win x.2.2.2.2.1 hK (hvv x C H)
  rw [hb] at e
  unfold fX6_awardOpen
  rw [slot_nI, hvv_eq x hH, e]
  rfl
theorem cr_aw {x : SD} {C H g : Nat} (hC : C < 3) (hH : H < 16) (hg : g < 6) (hb : bst (msk x.2.2.2.2.1 (hvv x C H) (C * 16 + H)) (fun _ => true) 6 = some g) : fX6_awardOpen x (nI C) (nI H) = some (nI g, awX x (C * 16 + H) g (hif (msk x.2.2.2.2.1 (hvv x C H) (C * 16 + H)) (fun f => !decide (nI f = nI g)) 6)) := by
  have hK : C * 16 + H < 48 := by omega
  have e := zr_win x.2.2.2.2.1 hK (hvv x C H)
  have e2 := zr_hi x.2.2.2.2.1 hK (hvv x C H) (nI g)
  rw [hb, show enc (-5) (some g) = nI g from rfl] at e
  unfold fX6_awardOpen awX
  rw [slot_nI, hvv_eq x hH, e, Option.bind_some, if_neg (n5_nI (by omega)), e2, Option.bind_some]
  simp only [bnd]
  unfold fX5_give fX1_payYard fX0_weight
  rw [rput_nI hK (by omega), cell_nI, rat_nI (by omega) (by omega), rput_nI hK (by omega), rput_nI hK (by omega), radd_nI hg (by omega), radd_nI hg (by omega), cc_removeAll _ hK, Int32.sub_eq_add_neg]
  rfl
/-- a slot that is still free is awarded, or nothing is changed -/
theorem cr_award {c N D : Nat} {P : Nat → Prop} {blw : AF} {x : SD} (h : CI c N D P blw x) (hc : c < 2 ^ 30) {C H : Nat} (hC : C < 3) (hH : H < 16) (hP : ¬ P (C * 16 + H)) : ∃ (r : Int32) (x1 : SD), fX6_awardOpen x (nI C) (nI H) = some (r, x1) ∧ CI c N D P blw x1 ∧ x1.2.2.2.1 = x.2.2.2.1 ∧ ((r = -5 ∧ x1 = x) ∨ 0 ≤ r) := by
  have hK : C * 16 + H < 48 := by omega
  cases hw : bst (msk x.2.2.2.2.1 (hvv x C H) (C * 16 + H)) (fun _ => true) 6 with
  | none => exact ⟨-5, x, cr_aw0 hC hH hw, h, rfl, .inl ⟨rfl, rfl⟩⟩
  | some g =>
    obtain ⟨hg, o, w, p, q1, q2, q3, q4, q5, q6, q7, q8⟩ := zr_got h.2.2.1 hK hw
    refine ⟨nI g, awX x (C * 16 + H) g (nI p), ?_, CI_aw h hc hK hg q1 q2 q3 q4 q5 q6 hP, rfl, .inr (nI_pos' (by omega))⟩
    rw [cr_aw hC hH hg hw, q8]
theorem cp0 {c N D C : Nat} {P : Nat → Prop} {blw : AF} {x : SD} (h : CI c N D P blw x) (hc : c < 2 ^ 30) (hN : N < 16) (hC : C < 3) (hP : ¬ P (C * 16 + N)) : ∃ x1 : SD, (∀ n, fX6_endHour_L0 (n + 1) (nI C) x = fX6_endHour_L0 n (nI (C + 1)) x1) ∧ CI c N D P blw x1 ∧ x1.2.2.2.1 = x.2.2.2.1 := by
  have hK : C * 16 + N < 48 := by omega
  have hov := cc_over (h := N) h.1.2.1 h.1.2.2 hN
  rw [if_pos (Nat.le_refl _)] at hov
  rcases h.2.2.2.2.1.own hK with ⟨o1, o2, o3⟩ | ⟨f, w', hf6, o1, o2, o3, o4, -⟩
  · have hop : ¬ fX6_isOpen x (nI C) (nI N) = 0 := by
      unfold fX6_isOpen
      rw [hov, slot_nI, o1]
      decide
    obtain ⟨r, x1, e, h1, h2, -⟩ := cr_award h hc hC hN hP
    refine ⟨x1, fun n => ?_, h1, h2⟩
    rw [fX6_endHour_L0, if_neg (nle3 hC), h.1.2.1, if_neg hop, e, nI_1]
    rfl
  · refine ⟨x, fun n => ?_, h, rfl⟩
    rw [fX6_endHour_L0, if_neg (nle3 hC), h.1.2.1, if_pos (show fX6_isOpen x (nI C) (nI N) = 0 by unfold fX6_isOpen; rw [hov, slot_nI, o1]; rfl), nI_1]
def PC (N C : Nat) (k : Nat) : Prop := k % 16 < N ∨ (k % 16 = N ∧ k / 16 < C)
theorem cp1 {c N D C wd : Nat} {blw : AF} {x : SD} (h : CI c N D (PC N C) blw x) (hc : c < 2 ^ 30) (hN : N < 16) (hC : C < 3) (hwd : wd ≤ 99) (hbl : blw N = nI wd) : ∃ (d : Nat) (x1 : SD), d ≤ 1 ∧ (∀ n a, fX6_endHour_L1 (nI wd) (n + 1) a (nI C) x = fX6_endHour_L1 (nI wd) n (a + nI d) (nI (C + 1)) x1) ∧ CI (c + 999) N D (PC N (C + 1)) blw x1 ∧ x1.2.2.2.1 = x.2.2.2.1 := by
  have hK : C * 16 + N < 48 := by omega
  have hP : ∀ k, k < 48 → (PC N (C + 1) k ↔ PC N C k ∨ k = C * 16 + N) := fun k hk => by
    unfold PC
    omega
  have hKm : (C * 16 + N) % 16 = N := by omega
  have hKd : (C * 16 + N) / 16 = C := by omega
  obtain ⟨⟨d1, d4, d6⟩, hW, hb, hcn, hs, hf, ht⟩ := id h
  have hfn := cc_forN x.2.2.2.2.1 hK
  have hcap : nsum (fun f => pos1n (x.2.2.2.2.1.2 (f * 48 + (C * 16 + N)))) 6 ≤ 6 := nsum_cap (fun j => pos1n_le _)
  generalize nsum (fun f => pos1n (x.2.2.2.2.1.2 (f * 48 + (C * 16 + N)))) 6 = cnt at hfn hcap
  obtain ⟨t1, t2, t3, t4⟩ := ht
  rcases hs.own hK with ⟨o1, o2, o3⟩ | ⟨g, wt, hg, o1, o2, o3, o5, o6, o7⟩
  · rcases Nat.eq_zero_or_pos cnt with z | z
    · refine ⟨0, _, by omega, fun n a => ?_, CI_end h hK (r := 1) (by omega) hP ⟨fun _ => o3, fun _ => .inl rfl⟩ (fun q => absurd o3 q) (hf.le (Nat.le_add_right _ _) (fun _ _ => Nat.le_refl _)) (TD' := (upd x.2.2.2.2.2.2.2.1 1 (x.2.2.2.2.2.2.2.1 1 + 1), x.2.2.2.2.2.2.2.2)) ⟨t1, t2, t3, t4⟩, rfl⟩
      rw [fX6_endHour_L1, if_neg (nle3 hC), cc_end1 d4 hC hN _ o1 hfn z, nI_1]
      rfl
    · refine ⟨0, _, by omega, fun n a => ?_, CI_end h hK (r := 2) (by omega) hP ⟨fun _ => o3, fun _ => .inr rfl⟩ (fun q => absurd o3 q) (hf.le (Nat.le_add_right _ _) (fun _ _ => Nat.le_refl _)) (TD' := (upd x.2.2.2.2.2.2.2.1 2 (x.2.2.2.2.2.2.2.1 2 + 1), x.2.2.2.2.2.2.2.2)) ⟨t1, t2, t3, t4⟩, rfl⟩
      rw [fX6_endHour_L1, if_neg (nle3 hC), cc_end2 d4 hC hN _ o1 hfn z (by omega), nI_1]
      rfl
  · rw [hKd] at o7
    have own5 : ¬ x.2.2.2.2.2.1.1 (C * 16 + N) = -5 := by rw [o3]; exact n5_nI (by omega)
    by_cases z : 70 < wt + wd
    · obtain ⟨⟨pr, hpr, pe⟩, -⟩ := hs _ hK
      refine ⟨0, _, by omega, fun n a => ?_, CI_end h hK (r := 3) (by omega) hP ⟨fun q => absurd q (by omega), fun q => absurd q own5⟩ (fun _ => ⟨wt, wd, by omega, hwd, o5, by rw [hKm]; exact hbl, by omega⟩) (c' := c + 999) (FD' := (upd x.2.2.2.2.2.2.1.1 g (x.2.2.2.2.2.2.1.1 g + x.2.2.2.2.2.1.2.2.1 (C * 16 + N)), x.2.2.2.2.2.2.1.2.1, upd x.2.2.2.2.2.2.1.2.2.1 g (x.2.2.2.2.2.2.1.2.2.1 g - x.2.2.2.2.2.1.2.2.1 (C * 16 + N)), x.2.2.2.2.2.2.1.2.2.2)) (fun f hf' => ?_) (TD' := (upd x.2.2.2.2.2.2.2.1 3 (x.2.2.2.2.2.2.2.1 3 + 1), x.2.2.2.2.2.2.2.2.1 - x.2.2.2.2.2.1.2.2.1 (C * 16 + N), x.2.2.2.2.2.2.2.2.2.1 + x.2.2.2.2.2.1.2.2.1 (C * 16 + N), x.2.2.2.2.2.2.2.2.2.2)) ⟨?_, ?_, t3, t4⟩, rfl⟩
      · rw [fX6_endHour_L1, if_neg (nle3 hC), cc_end3 d4 hC hN hg o1 o2 o5 o6 o7 hwd z, nI_1]
        rfl
      · obtain ⟨p', f5, f6, f7⟩ := hf f hf'
        show ∃ q : Nat, q ≤ c + 999 ∧ upd _ _ _ _ = nI q ∧ _
        by_cases e : f = g
        · subst e
          rw [upd_s, f6, pe, nI_add]
          exact ⟨p' + pr, by omega, rfl, by omega⟩
        · rw [upd_n e]
          exact ⟨p', by omega, f6, f7⟩
      · show rsum (upd _ _ _) 6 + (x.2.2.2.2.2.2.2.2.1 - _) = _
        rw [rsum_upd hg, i_rf]
        exact t1
      · show rsum (upd _ _ _) 6 = x.2.2.2.2.2.2.2.2.1 - _
        rw [rsum_upds hg, t2]
    · refine ⟨1, _, by omega, fun n a => ?_, CI_end h hK (r := 0) (by omega) hP ⟨fun q => absurd q (by omega), fun q => absurd q own5⟩ (fun _ => ⟨wt, wd, by omega, hwd, o5, by rw [hKm]; exact hbl, by omega⟩) (c' := c + 999) (FD' := (x.2.2.2.2.2.2.1.1, upd x.2.2.2.2.2.2.1.2.1 g (x.2.2.2.2.2.2.1.2.1 g + 1), x.2.2.2.2.2.2.1.2.2.1, x.2.2.2.2.2.2.1.2.2.2)) (hf.le (Nat.le_add_right _ _) (fun _ _ => Nat.le_refl _)) (TD' := (x.2.2.2.2.2.2.2.1, x.2.2.2.2.2.2.2.2.1, x.2.2.2.2.2.2.2.2.2.1, x.2.2.2.2.2.2.2.2.2.2.1, x.2.2.2.2.2.2.2.2.2.2.2.1, x.2.2.2.2.2.2.2.2.2.2.2.2.1 + 1, x.2.2.2.2.2.2.2.2.2.2.2.2.2 + x.2.2.2.2.2.1.2.1 (C * 16 + N))) ⟨t1, t2, t3, ?_⟩, rfl⟩
      · rw [fX6_endHour_L1, if_neg (nle3 hC), cc_end0 d4 hC hN hg o1 o2 o5 o7 hwd z, nI_1]
        rfl
      · show rsum (upd _ _ _) 6 = x.2.2.2.2.2.2.2.2.2.2.2.2.1 + 1
        rw [rsum_upd hg, t4]
/-- a half hour is done -/
theorem cr_end {c N D wd : Nat} {x : SD} (h : CR c N D x) (hc : c < 2 ^ 29) (hN : N < 16) (hwd : wd ≤ 99) : ∃ (d : Nat) (x' : SD), d ≤ 3 ∧ fX6_endHour x (nI wd) = some (nI d, x') ∧ CR (c + 2997) (N + 1) D x' := by
  have hP : ∀ C, ¬ (C * 16 + N) % 16 < N := fun C => by omega
  obtain ⟨x1, e1, r1, b1⟩ := cp0 (C := 0) h (by omega) hN (by omega) (hP 0)
  obtain ⟨x2, e2, r2, b2⟩ := cp0 (C := 1) r1 (by omega) hN (by omega) (hP 1)
  obtain ⟨x3, e3, r3, b3⟩ := cp0 (C := 2) r2 (by omega) hN (by omega) (hP 2)
  have c1 : fX6_endHour_L0 1000 0 x = some x3 := by
    rw [show fX6_endHour_L0 1000 0 x = _ from e1 999, show fX6_endHour_L0 999 (nI (0 + 1)) x1 = _ from e2 998, show fX6_endHour_L0 998 (nI (1 + 1)) x2 = _ from e3 997]
    exact if_pos ler3
  have r4 : CI c N D (PC N 0) (upd x.2.2.2.1 N (nI wd)) x3 := by
    obtain ⟨q1, q2, q3, q4, q5, q6, q7⟩ := CI.iff (P' := PC N 0) r3 (fun k hk => by show (k % 16 < N ∨ (k % 16 = N ∧ k / 16 < 0)) ↔ k % 16 < N; omega)
    refine ⟨q1, q2, q3, q4, fun k hk => ?_, q6, q7⟩
    obtain ⟨s1, s2, s3⟩ := q5 k hk
    refine ⟨s1, s2, fun z => ?_⟩
    have z2 : k % 16 ≠ N := by
      have z : k % 16 < N ∨ (k % 16 = N ∧ k / 16 < 0) := z
      omega
    rw [upd_n z2]
    exact s3 z
  have hbl : upd x.2.2.2.1 N (nI wd) N = nI wd := upd_s
  obtain ⟨k1, x4, z1, e4, r5, b5⟩ := cp1 (C := 0) r4 (by omega) hN (by omega) hwd hbl
  obtain ⟨k2, x5, z2, e5, r6, b6⟩ := cp1 (C := 1) r5 (by omega) hN (by omega) hwd hbl
  obtain ⟨k3, x6, z3, e6, r7, b7⟩ := cp1 (C := 2) r6 (by omega) hN (by omega) hwd hbl
  have c3 : fX6_endHour_L1 (nI wd) 1000 0 0 x3 = some (nI (k1 + k2 + k3), x6) := by
    rw [show fX6_endHour_L1 (nI wd) 1000 0 0 x3 = _ from e4 999 0, show fX6_endHour_L1 (nI wd) 999 (0 + nI k1) (nI (0 + 1)) x4 = _ from e5 998 _, show fX6_endHour_L1 (nI wd) 998 (0 + nI k1 + nI k2) (nI (1 + 1)) x5 = _ from e6 997 _, Int32.zero_add, nI_add, nI_add]
    exact if_pos ler3
  have hbl2 : x6.2.2.2.1 = x.2.2.2.1 := by rw [b7, b6, b5, b3, b2, b1]
  obtain ⟨⟨g1, g4, g6⟩, q2, q3, q4, q5, q6, q7⟩ := r7
  have hP2 : ∀ k, k < 48 → (k % 16 < N + 1 ↔ PC N (2 + 1) k) := fun k hk => by
    unfold PC
    omega
  refine ⟨k1 + k2 + k3, (x6.1, nI (N + 1), x6.2.2.1, upd x.2.2.2.1 N (nI wd), x6.2.2.2.2.1, x6.2.2.2.2.2.1, x6.2.2.2.2.2.2.1, x6.2.2.2.2.2.2.2), by omega, ?_, ⟨g1, rfl, by omega⟩, q2, q3.iff hP2, q4, q5.iff hP2, q6, q7⟩
  unfold fX6_endHour
  have hw1 : ¬ fX8_isWind (nI wd) = 0 := by
    unfold fX8_isWind
    rw [if_neg (nI_pos (by omega)), if_neg (show ¬ 99 < nI wd from nI_nlt (a := 99) hwd (by omega))]
    exact o10
  rw [if_neg hw1, h.1.2.1, if_pos (show nI N < 16 from nI_lt (b := 16) hN (by omega)), c1, Option.bind_some, c3, Option.bind_some]
  simp only [bnd]
  rw [g4, hbl2, rput_nI hN (by omega), nI_1]
/-! acts: what each answers, and what is then -/
def AC (c D : Nat) (x : SD) (r : Int32) (x' : SD) : Prop := (r < 0 ∧ -6 ≤ r ∧ x' = x) ∨ (0 ≤ r ∧ ∃ N' D', D' ≤ D + 1 ∧ CR (c + 4000) N' D' x')
theorem AC.no {c D : Nat} {x : SD} {r : Int32} (h1 : r < 0) (h2 : -6 ≤ r) : AC c D x r x := .inl ⟨h1, h2, rfl⟩
theorem CR.le {c c' N D : Nat} {x : SD} (h : CR c N D x) (hc : c ≤ c') : CR c' N D x := CI.le h hc
theorem ac_wind {c N D : Nat} {x : SD} (h : CR c N D x) (p1 p2 : Int32) : ∃ (r : Int32) (x' : SD), fX6_setWind x p1 p2 = (r, x') ∧ AC c D x r x' := by
  unfold fX6_setWind
  rcases zp_hour p1 with e1 | ⟨H, hH, rfl, e1⟩
  · exact ⟨-1, x, if_pos e1, AC.no (by decide) (by decide)⟩
  rw [if_neg (show ¬ fX8_isHour (nI H) = 0 by rw [e1]; exact o10)]
  rcases zp_wind p2 with a1 | ⟨w, hw, rfl, a1⟩
  · exact ⟨-2, x, if_pos a1, AC.no (by decide) (by decide)⟩
  rw [if_neg (show ¬ fX8_isWind (nI w) = 0 by rw [a1]; exact o10)]
  have ho := cc_over h.1.2.1 h.1.2.2 hH
  by_cases z : N ≤ H
  case neg =>
    rw [if_neg z] at ho
    exact ⟨-4, x, if_neg (by rw [ho]; exact o10), AC.no (by decide) (by decide)⟩
  rw [if_pos z] at ho
  obtain ⟨v, hv, w3⟩ := h.2.1 H hH
  rw [if_pos ho, rat_nI hH (by omega), rput_nI hH (by omega)]
  by_cases zz : x.2.2.1 H = nI w
  · exact ⟨-5, x, if_pos zz, AC.no (by decide) (by decide)⟩
  rw [if_neg zz]
  refine ⟨_, _, rfl, .inr ⟨by rw [w3]; exact nI_pos' (by omega), N, D, by omega, ?_⟩⟩
  exact CR.le (show CR c N D (x.1, x.2.1, upd x.2.2.1 H (nI w), x.2.2.2.1, x.2.2.2.2.1, x.2.2.2.2.2.1, x.2.2.2.2.2.2.1, x.2.2.2.2.2.2.2) from CI_wind h hw) (by omega)
theorem ac_fund {c N D : Nat} {x : SD} (h : CR c N D x) (hc : c < 2 ^ 28) (p1 p2 : Int32) : ∃ (r : Int32) (x' : SD), fX6_addCoins x p1 p2 = (r, x') ∧ AC c D x r x' := by
  unfold fX6_addCoins
  rcases zp_firm p1 with a1 | ⟨F, hF, rfl, a1⟩
  · exact ⟨-1, x, if_pos a1, AC.no (by decide) (by decide)⟩
  rw [if_neg (show ¬ fX8_isFirm (nI F) = 0 by rw [a1]; exact o10)]
  rcases zp_coin p2 with i1 | ⟨q, hq1, hq2, rfl, i3, i4⟩
  · refine ⟨-2, x, ?_, AC.no (by decide) (by decide)⟩
    by_cases z : p2 < 1
    · rw [if_pos z]
    · rw [if_neg z, if_neg (i1.resolve_left z)]
  rw [if_neg i3, if_pos i4, rat_nI hF (by omega)]
  by_cases z : x.2.2.2.2.2.2.1.1 F + nI q ≤ 9999
  case neg => exact ⟨-3, x, if_neg z, AC.no (by decide) (by decide)⟩
  rw [if_pos z]
  simp only [bnd]
  obtain ⟨p, f5, f6, f7⟩ := h.2.2.2.2.2.1 F hF
  rw [radd_nI hF (by omega), rat_nI hF (by omega)]
  refine ⟨_, _, rfl, .inr ⟨?_, N, D, by omega, CR.le (CI_fund h hF hq2 f6 f5 f7) (by omega)⟩⟩
  rw [upd_s, f6, nI_add]
  exact nI_pos' (by omega)
theorem cr_bidError {c N D : Nat} {x : SD} (h : CR c N D x) (hc : c < 2 ^ 28) (p1 p2 p3 p4 p5 : Int32) : ∃ e : Int32, fX6_bidError x p1 p2 p3 p4 p5 = some e ∧ ((e < 0 ∧ -6 ≤ e) ∨ (e = 0 ∧ ∃ F C H w q p : Nat, F < 6 ∧ C < 3 ∧ H < 16 ∧ 1 ≤ w ∧ w ≤ 20 + 20 * C ∧ 1 ≤ q ∧ q ≤ 999 ∧ p1 = nI F ∧ p2 = nI C ∧ p3 = nI H ∧ p4 = nI w ∧ p5 = nI q ∧ N ≤ H ∧ x.2.2.2.2.2.1.1 (C * 16 + H) = -5 ∧ x.2.2.2.2.1.2 (F * 48 + (C * 16 + H)) = 0 ∧ x.2.2.2.2.2.2.1.1 F = nI p ∧ p ≤ c ∧ q + ofB x.2.2.2.2.1.2 F ≤ p ∧ cntB x.2.2.2.2.1.2 < 60)) := by
  obtain ⟨⟨d1, d4, d6⟩, hW, hb, hcn, hs, hf, ht⟩ := h
  unfold fX6_bidError
  rcases zp_firm p1 with a1 | ⟨F, hF, rfl, a1⟩
  · exact ⟨-1, if_pos a1, .inl (by decide)⟩
  rw [if_neg (show ¬ fX8_isFirm (nI F) = 0 by rw [a1]; exact o10)]
  rcases zp_slot p2 p3 with b1 | ⟨C, H, hC, hH, rfl, rfl, b1⟩
  · exact ⟨-1, if_pos b1, .inl (by decide)⟩
  rw [if_neg (show ¬ fX8_isSlot (nI C) (nI H) = 0 by rw [b1]; exact o10)]
  rcases zp_lift hC p4 with g1 | ⟨w, hw1, hw2, rfl, g1⟩
  · exact ⟨-2, if_pos g1, .inl (by decide)⟩
  rw [if_neg (show ¬ fX8_isLift (nI C) (nI w) = 0 by rw [g1]; exact o10)]
  rcases zp_coin p5 with i1 | ⟨q, hq1, hq2, rfl, i3, i4⟩
  · refine ⟨-2, ?_, .inl (by decide)⟩
    by_cases z : p5 < 1
    · rw [if_pos z]
    · rw [if_neg z, if_neg (i1.resolve_left z)]
  rw [if_neg i3, if_pos i4, slot_nI]
  have hK : C * 16 + H < 48 := by omega
  have ho := cc_over d4 d6 hH
  by_cases z : N ≤ H
  case neg =>
    rw [if_neg z] at ho
    refine ⟨-4, if_pos ?_, .inl (by decide)⟩
    unfold fX6_isOpen
    rw [ho]
    rfl
  rw [if_pos z] at ho
  rcases hs.own hK with ⟨o1, o2, o3⟩ | ⟨f, w', hf6, o1, o2, o3, o4, -⟩
  case inr =>
    refine ⟨-4, if_pos ?_, .inl (by decide)⟩
    unfold fX6_isOpen
    rw [ho, slot_nI, o1]
    rfl
  rw [if_neg (show ¬ fX6_isOpen x (nI C) (nI H) = 0 by unfold fX6_isOpen; rw [ho, slot_nI, o1]; decide)]
  unfold fX0_offer
  rw [cell_nI, rat_nI (by omega) (by omega)]
  obtain ⟨o, w', h3, h4, h5, h6, h7⟩ := hb F (C * 16 + H) hF hK
  by_cases zo : x.2.2.2.2.1.2 (F * 48 + (C * 16 + H)) ≤ 0
  case neg => exact ⟨-4, if_neg zo, .inl (by decide)⟩
  rw [if_pos zo]
  have hz := le_nil h3 h4 zo
  unfold fX6_freeCoins
  obtain ⟨p, f5, f6, f7⟩ := hf F hF
  rw [cb_off hb hF, Option.bind_some, Option.bind_some, rat_nI hF (by omega), f6, pk_sub f7]
  by_cases zq : q ≤ p - ofB x.2.2.2.2.1.2 F
  case neg => exact ⟨-6, if_neg (nI_ge (by omega) (by omega)), .inl (by decide)⟩
  rw [if_pos (nI_le zq (by omega)), cc_all, Option.bind_some]
  by_cases zc : 60 ≤ cntB x.2.2.2.2.1.2
  · exact ⟨-3, if_pos (nI_le (a := 60) zc (by omega)), .inl (by decide)⟩
  · exact ⟨0, if_neg (nI_ge (b := 60) (by omega) (by omega)), .inr ⟨rfl, F, C, H, w, q, p, hF, hC, hH, hw1, hw2, hq1, hq2, rfl, rfl, rfl, rfl, rfl, z, o3, hz, f6, f5, by omega, by omega⟩⟩
def biX (x : SD) (F K w q : Nat) : SD := (x.1, x.2.1, x.2.2.1, x.2.2.2.1, (upd x.2.2.2.2.1.1 (F * 48 + K) (nI w), upd x.2.2.2.2.1.2 (F * 48 + K) (nI q)), x.2.2.2.2.2.1, x.2.2.2.2.2.2.1, x.2.2.2.2.2.2.2)
theorem cr_place {x : SD} {F C H w q : Nat} (hF : F < 6) (hC : C < 3) (hH : H < 16) (e : fX6_bidError x (nI F) (nI C) (nI H) (nI w) (nI q) = some 0) : ∃ k : Nat, k ≤ 6 ∧ fX6_placeBid x (nI F) (nI C) (nI H) (nI w) (nI q) = some (nI k, biX x F (C * 16 + H) w q) := by
  have hK : C * 16 + H < 48 := by omega
  unfold fX6_placeBid
  rw [e, Option.bind_some, if_pos (Int32.le_refl _), slot_nI, set_nI _ hF hK]
  simp only [bnd]
  rw [cc_forN _ hK]
  exact ⟨_, nsum_cap (fun j => pos1n_le _), rfl⟩
theorem ac_bid {c N D : Nat} {x : SD} (h : CR c N D x) (hc : c < 2 ^ 28) (p1 p2 p3 p4 p5 : Int32) : ∃ (r : Int32) (x' : SD), fX6_placeBid x p1 p2 p3 p4 p5 = some (r, x') ∧ AC c D x r x' := by
  obtain ⟨e, e1, e3⟩ := cr_bidError h hc p1 p2 p3 p4 p5
  rcases e3 with ⟨e3, e4⟩ | ⟨rfl, F, C, H, w, q, p, hF, hC, hH, hw1, hw2, hq1, hq2, rfl, rfl, rfl, rfl, rfl, hN, ho, hz, hp, hpc, hpo, hcn⟩
  · refine ⟨e, x, ?_, AC.no e3 e4⟩
    unfold fX6_placeBid
    rw [e1, Option.bind_some, if_neg (Int32.not_le.mpr e3)]
  · obtain ⟨k, hk, e5⟩ := cr_place hF hC hH e1
    refine ⟨_, _, e5, .inr ⟨nI_pos' (by omega), N, D, by omega, CR.le (show CR c N D (biX x F (C * 16 + H) w q) from CI_bid h (by omega) hF (by omega) hw1 (by rw [show (C * 16 + H) / 16 = C by omega]; exact hw2) hq2 (by show ¬ (C * 16 + H) % 16 < N; omega) ho hz hp hpc hpo hcn) (by omega)⟩⟩
theorem ac_rm {c N D : Nat} {x : SD} (h : CR c N D x) (p1 p2 p3 : Int32) : ∃ (r : Int32) (x' : SD), fX6_removeBid x p1 p2 p3 = (r, x') ∧ AC c D x r x' := by
  unfold fX6_removeBid
  rcases zp_firm p1 with a1 | ⟨F, hF, rfl, a1⟩
  · exact ⟨-1, x, if_pos a1, AC.no (by decide) (by decide)⟩
  rw [if_neg (show ¬ fX8_isFirm (nI F) = 0 by rw [a1]; exact o10)]
  rcases zp_slot p2 p3 with b1 | ⟨C, H, hC, hH, rfl, rfl, b1⟩
  · exact ⟨-1, x, if_pos b1, AC.no (by decide) (by decide)⟩
  have hK : C * 16 + H < 48 := by omega
  rw [if_neg (show ¬ fX8_isSlot (nI C) (nI H) = 0 by rw [b1]; exact o10), slot_nI]
  unfold fX0_offer fX0_remove
  rw [cell_nI, rat_nI (by omega) (by omega), set_nI _ hF hK]
  simp only [bnd]
  obtain ⟨o, w', h3, h4, -⟩ := h.2.2.1 F (C * 16 + H) hF hK
  by_cases z : x.2.2.2.2.1.2 (F * 48 + (C * 16 + H)) = 0
  · exact ⟨-1, x, if_pos z, AC.no (by decide) (by decide)⟩
  · rw [if_neg z]
    exact ⟨_, _, rfl, .inr ⟨by rw [h4]; exact nI_pos' (by omega), N, D, by omega, CR.le (CI_rm h hF hK) (by omega)⟩⟩
theorem cr_isOpen {c N D : Nat} {x : SD} (h : CR c N D x) {C H : Nat} (hC : C < 3) (hH : H < 16) : (fX6_isOpen x (nI C) (nI H) = 0) ∨ (fX6_isOpen x (nI C) (nI H) = 1 ∧ N ≤ H ∧ x.2.2.2.2.2.1.1 (C * 16 + H) = -5) := by
  have hK : C * 16 + H < 48 := by omega
  have ho := cc_over h.1.2.1 h.1.2.2 hH
  unfold fX6_isOpen
  by_cases z : N ≤ H
  case neg =>
    rw [if_neg z] at ho
    exact .inl (if_neg (by rw [ho]; exact o10))
  rw [if_pos z] at ho
  rw [if_pos ho, slot_nI]
  rcases h.2.2.2.2.1.own hK with ⟨o1, o2, o3⟩ | ⟨f, w', hf6, o1, o2, o3, o4, -⟩
  · exact .inr ⟨if_pos o1, z, o3⟩
  · exact .inl (if_neg (by rw [o1]; exact o10))
theorem ac_award {c N D : Nat} {x : SD} (h : CR c N D x) (hc : c < 2 ^ 28) (p1 p2 : Int32) : ∃ (r : Int32) (x' : SD), fX6_awardEarly x p1 p2 = some (r, x') ∧ AC c D x r x' := by
  unfold fX6_awardEarly
  rcases zp_slot p1 p2 with b1 | ⟨C, H, hC, hH, rfl, rfl, b1⟩
  · exact ⟨-1, x, if_pos b1, AC.no (by decide) (by decide)⟩
  rw [if_neg (show ¬ fX8_isSlot (nI C) (nI H) = 0 by rw [b1]; exact o10)]
  rcases cr_isOpen h hC hH with o | ⟨o, hN, -⟩
  · exact ⟨-4, x, if_pos o, AC.no (by decide) (by decide)⟩
  rw [if_neg (by rw [o]; exact o10)]
  obtain ⟨r, x1, e, h1, h2, h3⟩ := cr_award h (by omega) hC hH (by show ¬ (C * 16 + H) % 16 < N; omega)
  rw [e, Option.bind_some]
  refine ⟨r, x1, rfl, ?_⟩
  rcases h3 with ⟨rfl, rfl⟩ | h3
  · exact AC.no (by decide) (by decide)
  · refine .inr ⟨h3, N, D, by omega, CR.le (c := c) ?_ (by omega)⟩
    unfold CR
    rw [h2]
    exact h1
theorem ac_sell {c N D : Nat} {x : SD} (h : CR c N D x) (hc : c < 2 ^ 28) (p1 p2 p3 p4 p5 : Int32) : ∃ (r : Int32) (x' : SD), fX6_sell x p1 p2 p3 p4 p5 = some (r, x') ∧ AC c D x r x' := by
  unfold fX6_sell
  rcases zp_slot p1 p2 with b1 | ⟨C, H, hC, hH, rfl, rfl, b1⟩
  · exact ⟨-1, x, if_pos b1, AC.no (by decide) (by decide)⟩
  have hK : C * 16 + H < 48 := by omega
  rw [if_neg (show ¬ fX8_isSlot (nI C) (nI H) = 0 by rw [b1]; exact o10), slot_nI]
  rcases zp_firm p3 with a1 | ⟨F, hF, rfl, a1⟩
  · exact ⟨-1, x, if_pos a1, AC.no (by decide) (by decide)⟩
  rw [if_neg (show ¬ fX8_isFirm (nI F) = 0 by rw [a1]; exact o10)]
  obtain ⟨⟨d1, d4, d6⟩, hW, hb, hcn, hs, hf, ht⟩ := id h
  rcases hs.own hK with ⟨o1, o2, o3⟩ | ⟨g, w', hg, o1, o2, o5, o4, -⟩
  · exact ⟨-1, x, if_pos o1, AC.no (by decide) (by decide)⟩
  rw [if_neg (show ¬ fX5_isAwarded x.2.2.2.2.2.1 (nI (C * 16 + H)) = 0 by rw [o1]; exact o10)]
  rcases zp_lift hC p4 with g1 | ⟨w, hw1, hw2, rfl, g1⟩
  · exact ⟨-2, x, if_pos g1, AC.no (by decide) (by decide)⟩
  rw [if_neg (show ¬ fX8_isLift (nI C) (nI w) = 0 by rw [g1]; exact o10)]
  rcases zp_coin0 p5 with i1 | ⟨q, hq2, rfl, i3, i4⟩
  · refine ⟨-2, x, ?_, AC.no (by decide) (by decide)⟩
    by_cases z : p5 < 0
    · rw [if_pos z]
    · rw [if_neg z, if_neg (i1.resolve_left z)]
  rw [if_neg i3, if_pos i4, o2]
  simp only [bnd]
  have ho := cc_over d4 d6 hH
  by_cases z : N ≤ H
  case neg =>
    rw [if_neg z] at ho
    exact ⟨-4, x, if_neg (by rw [ho]; exact o10), AC.no (by decide) (by decide)⟩
  rw [if_pos z] at ho
  rw [if_pos ho]
  by_cases zf : g = F
  · subst zf
    exact ⟨-4, x, if_pos rfl, AC.no (by decide) (by decide)⟩
  rw [if_neg (fun e => zf ((nI_eq (by omega) (by omega)).mp e))]
  unfold fX6_freeCoins
  obtain ⟨p, f5, f6, f7⟩ := hf F hF
  rw [cb_off hb hF, Option.bind_some, Option.bind_some, rat_nI hF (by omega), f6, pk_sub f7]
  by_cases zq : q ≤ p - ofB x.2.2.2.2.1.2 F
  case neg => exact ⟨-6, x, if_neg (nI_ge (by omega) (by omega)), AC.no (by decide) (by decide)⟩
  rw [if_pos (nI_le zq (by omega))]
  unfold fX1_getByTrade fX5_give
  rw [radd_nI hg (by omega), radd_nI hg (by omega)]
  dsimp only
  rw [radd_nI hF (by omega), radd_nI hF (by omega), rput_nI hK (by omega), rput_nI hK (by omega), rat_nI hg (by omega)]
  obtain ⟨pg, k5, k6, k7⟩ := hf g hg
  refine ⟨_, slX x (C * 16 + H) g F (nI w) (nI q), rfl, .inr ⟨?_, N, D, by omega, CR.le (c := c + 999) (CI_sell h (by omega) hK hg hF zf hw1 (by rw [show (C * 16 + H) / 16 = C by omega]; exact hw2) hq2 (by show ¬ (C * 16 + H) % 16 < N; omega) o5 f6 f5 (by omega)) (by omega)⟩⟩
  rw [upd_n zf, upd_s, k6, nI_add]
  exact nI_pos' (by omega)
theorem ac_end {c N D : Nat} {x : SD} (h : CR c N D x) (hc : c < 2 ^ 28) (p1 : Int32) : ∃ (r : Int32) (x' : SD), fX6_endHour x p1 = some (r, x') ∧ AC c D x r x' := by
  rcases zp_wind p1 with a1 | ⟨w, hw, rfl, a1⟩
  · exact ⟨-2, x, if_pos a1, AC.no (by decide) (by decide)⟩
  by_cases z : N < 16
  · obtain ⟨d, x', hd, e, h'⟩ := cr_end h (by omega) z hw
    exact ⟨_, _, e, .inr ⟨nI_pos' (by omega), N + 1, D, by omega, h'.le (by omega)⟩⟩
  · refine ⟨-4, x, ?_, AC.no (by decide) (by decide)⟩
    unfold fX6_endHour
    rw [if_neg (show ¬ fX8_isWind (nI w) = 0 by rw [a1]; exact o10), h.1.2.1, if_neg (show ¬ nI N < 16 from nI_nlt (b := 16) (by omega) (by have := h.1.2.2; omega))]
theorem cr_day {c D : Nat} {x : SD} (h : CR c 16 D x) (hD : D < 999) : ∃ x' : SD, fX6_beginDay x = (nI (D + 1), x') ∧ CR c 0 (D + 1) x' ∧ x'.2.1 = 0 ∧ x'.2.2.1 15 = 20 := by
  obtain ⟨⟨d1, d4, d6⟩, hW, hb, hcn, hs, hf, ht⟩ := id h
  unfold fX6_beginDay
  rw [d4, if_pos ler16, d1, if_pos (show nI D < 999 from nI_lt (b := 999) hD (by omega))]
  simp only [bnd]
  rw [nI_1]
  refine ⟨_, rfl, ⟨⟨rfl, rfl, by omega⟩, fun j hj => ?_, fun f k hf' hk => ?_, hcn, fun k hk => ?_, hf, ht⟩, rfl, ?_⟩
  · show ∃ w : Nat, w ≤ 99 ∧ rfill x.2.2.1 16 20 j = nI w
    unfold rfill
    rw [if_pos hj]
    exact ⟨20, by omega, rfl⟩
  · obtain ⟨o, w, h3, h4, h5, h6, h7⟩ := hb f k hf' hk
    have z := h7 (.inl (Nat.mod_lt _ (by omega)))
    exact ⟨o, w, h3, h4, h5, h6, fun _ => z⟩
  · unfold fX5_clear
    show (∃ p : Nat, p ≤ 999 ∧ rfill x.2.2.2.2.2.1.2.2.1 48 0 k = nI p) ∧ ((rfill x.2.2.2.2.2.1.1 48 (-5) k = -5 ∧ rfill x.2.2.2.2.2.1.2.1 48 0 k = 0 ∧ rfill x.2.2.2.2.2.1.2.2.1 48 0 k = 0) ∨ _) ∧ (k % 16 < 0 → _)
    unfold rfill
    rw [if_pos hk, if_pos hk, if_pos hk]
    exact ⟨⟨0, by omega, rfl⟩, .inl ⟨rfl, rfl, rfl⟩, fun q => absurd q (Nat.not_lt_zero _)⟩
  · show rfill x.2.2.1 16 20 15 = 20
    unfold rfill
    rw [if_pos (by omega)]
theorem ac_day {c N D : Nat} {x : SD} (h : CR c N D x) (hD : D ≤ 999) : ∃ (r : Int32) (x' : SD), fX6_beginDay x = (r, x') ∧ AC c D x r x' := by
  by_cases z : N = 16
  · subst z
    by_cases zd : D < 999
    · obtain ⟨x', e, h', -⟩ := cr_day h zd
      exact ⟨_, _, e, .inr ⟨nI_pos' (by omega), 0, D + 1, by omega, h'.le (by omega)⟩⟩
    · refine ⟨-3, x, ?_, AC.no (by decide) (by decide)⟩
      unfold fX6_beginDay
      rw [h.1.2.1, if_pos ler16, h.1.1, if_neg (show ¬ nI D < 999 from nI_nlt (b := 999) (by omega) (by omega))]
  · refine ⟨-4, x, ?_, AC.no (by decide) (by decide)⟩
    unfold fX6_beginDay
    rw [h.1.2.1, if_neg (nle16 (by have := h.1.2.2; omega))]
