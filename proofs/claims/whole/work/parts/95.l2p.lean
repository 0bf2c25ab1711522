theorem RB.iff {x : BD} {P P' : Nat → Prop} {S : AF} {B : Nat} (h : RB x P S B) (e : ∀ k, k < 48 → (P' k ↔ P k)) : RB x P' S B := fun f k hf hk => by
  obtain ⟨h1, h2, o, w, h3, h4, h5, h6, h7⟩ := h f k hf hk
  exact ⟨h1, h2, o, w, h3, h4, h5, h6, fun z => h7 ((e k hk).mp z)⟩
theorem RS.iff {x : LD} {P P' : Nat → Prop} {S : AF} {B : Nat} (h : RS x P S B) (e : ∀ k, k < 48 → (P' k ↔ P k)) : RS x P' S B := fun k hk => by
  obtain ⟨s1, s2, s3, s4, s5, s6⟩ := h k hk
  exact ⟨s1, s2, s3, s4, fun z => s5 ((e k hk).mp z), fun z => s6 (fun q => z ((e k hk).mpr q))⟩
theorem RM.iff {c N D : Nat} {P P' : Nat → Prop} {blw : AF} {x : SD} {S : AF} {B : Nat} (h : RM c N D P blw x S B) (e : ∀ k, k < 48 → (P' k ↔ P k)) : RM c N D P' blw x S B :=
  ⟨h.1, h.2.1, h.2.2.1.iff e, h.2.2.2.1, h.2.2.2.2.1.iff e, h.2.2.2.2.2.1, h.2.2.2.2.2.2⟩
theorem sim_endHour {c N D sl : Nat} {x : SD} {M : MD} (h : RR c N D x M.1 (835 * sl)) (hc : c < 2 ^ 29) (hsl : sl ≤ 6) (p1 : Int32) : ∃ (r : Int32) (x' : SD) (S' : AF), fX6_endHour x p1 = some (r, x') ∧ fX9_does M (nI sl) p1 = some (r, (S', M.2)) ∧ (∃ N', RR (c + 2997) N' D x' S' (835 * sl)) ∧ Out M.1 S' (835 * sl) ∧ (r < 0 → x' = x ∧ S' = M.1) := by
  have hB : 835 * sl + 835 ≤ 5845 := by omega
  have h0 := h
  obtain ⟨⟨d1, d2, d3, d4, d5, d6⟩, hW, hb, hcn, hs, hf, ht⟩ := id h
  have keep : ∀ r : Int32, ∃ (r' : Int32) (x' : SD) (S' : AF), some (r, x) = some (r', x') ∧ some (r, M) = some (r', (S', M.2)) ∧ (∃ N', RR (c + 2997) N' D x' S' (835 * sl)) ∧ Out M.1 S' (835 * sl) ∧ (r' < 0 → x' = x ∧ S' = M.1) := fun r => ⟨r, x, M.1, rfl, rfl, ⟨N, h0.purse (Nat.le_add_right _ _)⟩, fun _ _ => rfl, fun _ => ⟨rfl, rfl⟩⟩
  unfold fX6_endHour fX9_does
  rcases zq_wind p1 with ⟨a1, a2⟩ | ⟨wd, hwd, rfl, a1, a2⟩
  · rw [if_pos a1, if_pos a2]
    exact keep _
  rw [if_neg (show ¬ fX8_isWind (nI wd) = 0 by rw [a1]; exact o10), if_neg (show ¬ fX9_in (nI wd) 0 99 = 0 by rw [a2]; exact o10), b835, d4, show (nI (835 * sl) + 1) = nI (835 * sl + 1) from nI_add _ 1, if_pos (ib_nI (by omega) (by omega)), nI_clamp (by omega), d5]
  by_cases z : N = 16
  · subst z
    rw [if_neg (show ¬ nI 16 < 16 by decide), if_pos (show nI 16 = 16 from rfl)]
    exact keep _
  have hN : N < 16 := by omega
  rw [if_pos (show nI N < 16 from nI_lt (b := 16) hN (by omega)), if_neg (show ¬ nI N = 16 from fun q => z ((nI_eq (b := 16) (by omega) (by omega)).mp q))]
  simp only [bnd]
  rw [show (nI (835 * sl) + 26) = nI (835 * sl + 26) from nI_add _ 26, if_pos (ib_nI (by omega) (by omega)), nI_clamp (by omega)]
  obtain ⟨x1, S1, e1, m1, r1, t1, b1, l1⟩ := st0 (C := 0) h (by omega) hsl hN (by omega)
  obtain ⟨x2, S2, e2, m2, r2, t2, b2, l2⟩ := st0 (C := 1) (M := (S1, M.2)) r1 (by omega) hsl hN (by omega)
  obtain ⟨x3, S3, e3, m3, r3, t3, b3, l3⟩ := st0 (C := 2) (M := (S2, M.2)) r2 (by omega) hsl hN (by omega)
  have c1 : fX6_endHour_L0 1000 0 x = some x3 := by
    rw [show fX6_endHour_L0 1000 0 x = _ from e1 999, show fX6_endHour_L0 999 (nI (0 + 1)) x1 = _ from e2 998, show fX6_endHour_L0 998 (nI (1 + 1)) x2 = _ from e3 997]
    exact if_pos ler3
  have c2 : fX9_does_L0 (nI sl) (nI N) 1000 0 M = some (S3, M.2) := by
    rw [show fX9_does_L0 (nI sl) (nI N) 1000 0 M = _ from m1 999, show fX9_does_L0 (nI sl) (nI N) 999 (nI (0 + 1)) (S1, M.2) = _ from m2 998, show fX9_does_L0 (nI sl) (nI N) 998 (nI (1 + 1)) (S2, M.2) = _ from m3 997]
    exact if_pos ler3
  rw [c1, c2, Option.bind_some, Option.bind_some, show ((nI (835 * sl) + 819) + nI N) = nI (835 * sl + 819 + N) from ix2 _ 819 _, if_pos (ib_nI (by omega) (by omega)), nI_clamp (by omega)]
  have r4 : RM c N D (PC N 0) (upd x.2.2.2.1 N (nI wd)) x3 (upd S3 (835 * sl + 819 + N) (nI wd)) (835 * sl) := by
    have ho : ∀ i, i ≠ 835 * sl + 819 + N → upd S3 (835 * sl + 819 + N) (nI wd) i = S3 i := fun i hi => upd_n hi
    have r3' := RM.iff (P' := PC N 0) r3 (fun k hk => by show (k % 16 < N ∨ (k % 16 = N ∧ k / 16 < 0)) ↔ k % 16 < N; omega)
    obtain ⟨q1, q2, q3, q4, q5, q6, q7⟩ := r3'
    refine ⟨q1.to (ho _ (by omega)) (ho _ (by omega)), fun j hj => ?_, q3.to (fun f k hf' hk => ⟨ho _ (by omega), ho _ (by omega)⟩), q4, q5.to (fun k hk => ⟨ho _ (by omega), ho _ (by omega), ho _ (by omega), ho _ (by omega)⟩), q6.to (Nat.le_refl _) (fun f hf' => ⟨ho _ (by omega), ho _ (by omega), ho _ (by omega), ho _ (by omega)⟩), q7.to (fun j h1 h2 => ho _ (by omega))⟩
    obtain ⟨w1, w2, w3⟩ := q2 j hj
    refine ⟨?_, by rw [ho _ (by omega)]; exact w2, w3⟩
    by_cases e : j = N
    · subst e
      rw [upd_s, upd_s]
    · rw [upd_n e, upd_n (by omega)]
      exact w1
  have t4 : Out S3 (upd S3 (835 * sl + 819 + N) (nI wd)) (835 * sl) := fun i hi => upd_n (by omega)
  obtain ⟨k1, x4, S4, z1, e4, m4, r5, t5, b5, l5⟩ := st1 (C := 0) (M := (upd S3 (835 * sl + 819 + N) (nI wd), M.2)) r4 hsl hN (by omega) hwd
  obtain ⟨k2, x5, S5, z2, e5, m5, r6, t6, b6, l6⟩ := st1 (C := 1) (M := (S4, M.2)) r5 hsl hN (by omega) hwd
  obtain ⟨k3, x6, S6, z3, e6, m6, r7, t7, b7, l7⟩ := st1 (C := 2) (M := (S5, M.2)) r6 hsl hN (by omega) hwd
  have c3 : fX6_endHour_L1 (nI wd) 1000 0 0 x3 = some (nI (k1 + k2 + k3), x6) := by
    rw [show fX6_endHour_L1 (nI wd) 1000 0 0 x3 = _ from e4 999 0, show fX6_endHour_L1 (nI wd) 999 (0 + nI k1) (nI (0 + 1)) x4 = _ from e5 998 _, show fX6_endHour_L1 (nI wd) 998 (0 + nI k1 + nI k2) (nI (1 + 1)) x5 = _ from e6 997 _, Int32.zero_add, nI_add, nI_add]
    exact if_pos ler3
  have c4 : fX9_does_L1 (nI sl) (nI wd) (nI N) 1000 0 (upd S3 (835 * sl + 819 + N) (nI wd), M.2) = some (S6, M.2) := by
    rw [show fX9_does_L1 (nI sl) (nI wd) (nI N) 1000 0 (upd S3 (835 * sl + 819 + N) (nI wd), M.2) = _ from m4 999, show fX9_does_L1 (nI sl) (nI wd) (nI N) 999 (nI (0 + 1)) (S4, M.2) = _ from m5 998, show fX9_does_L1 (nI sl) (nI wd) (nI N) 998 (nI (1 + 1)) (S5, M.2) = _ from m6 997]
    exact if_pos ler3
  rw [c3, Option.bind_some, show fX9_does_L1 (nI sl) (nI wd) (nI N) 1000 0 _ = _ from c4, Option.bind_some]
  obtain ⟨⟨g1, g2, g3, g4, g5, g6⟩, q2, q3, q4, q5, q6, q7⟩ := r7
  have hl : lifO x6 = lifO x + nI (k1 + k2 + k3) := by
    rw [l7, l6, l5, l3, l2, l1, ← nI_add, ← nI_add, Int32.add_assoc, Int32.add_assoc, Int32.add_assoc]
  have hbl : x6.2.2.2.1 = x.2.2.2.1 := by rw [b7, b6, b5, b3, b2, b1]
  have hr : upd S6 (835 * sl + 1) (S6 (835 * sl + 1) + 1) (835 * sl + 26) - M.1 (835 * sl + 26) = nI (k1 + k2 + k3) := by
    rw [upd_n (by omega), ← q7.2.2.2.2.2.2.2.1, ← ht.2.2.2.2.2.2.2.1]
    show lifO x6 - lifO x = _
    rw [hl, Int32.add_comm, Int32.add_sub_cancel]
  dsimp only
  rw [if_pos (ib_nI (k := 835 * sl + 1) (by omega) (by omega)), if_pos (ib_nI (k := 835 * sl + 26) (by omega) (by omega)), hr, g5, g4, hbl, rput_nI hN (by omega), nI_1]
  refine ⟨_, _, _, rfl, rfl, ⟨N + 1, ?_⟩, ?_, fun q => absurd q (nI_pos (by omega))⟩
  · have ho : ∀ i, i ≠ 835 * sl + 1 → upd S6 (835 * sl + 1) (nI (N + 1)) i = S6 i := fun i hi => upd_n hi
    have hP : ∀ k, k < 48 → (k % 16 < N + 1 ↔ PC N (2 + 1) k) := fun k hk => by
      unfold PC
      omega
    exact ⟨⟨g1, by rw [ho _ (by omega)]; exact g2, g3, rfl, upd_s, by omega⟩, q2.to (fun j hj => ⟨ho _ (by omega), ho _ (by omega)⟩), (q3.to (fun f k hf' hk => ⟨ho _ (by omega), ho _ (by omega)⟩)).iff hP, q4, (q5.to (fun k hk => ⟨ho _ (by omega), ho _ (by omega), ho _ (by omega), ho _ (by omega)⟩)).iff hP, q6.to (by omega) (fun f hf' => ⟨ho _ (by omega), ho _ (by omega), ho _ (by omega), ho _ (by omega)⟩), q7.to (fun j h1 h2 => ho _ (by omega))⟩
  · exact (((((t1.trans t2).trans t3).trans t4).trans t5).trans (t6.trans t7)).trans (fun i hi => upd_n (by omega))
