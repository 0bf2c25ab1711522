/-! a half hour is done -/
theorem Out.trans {S S' S2 : AF} {B : Nat} (h : Out S S' B) (h2 : Out S' S2 B) : Out S S2 B := fun i hi => by rw [h2 i hi, h i hi]
theorem Out.rfl' (S : AF) (B : Nat) : Out S S B := fun _ _ => rfl
def lifO (x : SD) : Int32 := x.2.2.2.2.2.2.2.2.2.2.2.2.1
theorem clr_Out (S : AF) {B K : Nat} (hK : K < 48) : Out S (clrS S B K 6) B := fun i hi => clrS_out (fun f hf => by omega)
theorem aw_Out (S : AF) {B K g : Nat} (hK : K < 48) (hg : g < 6) (P : Int32) : Out S (awS S B K g P) B := fun i hi => awS_out (by omega) (by omega) (by omega) (by omega) (by omega) (by omega) (by omega)
theorem st0 {c N D sl C : Nat} {P : Nat → Prop} {blw : AF} {x : SD} {M : MD} (h : RM c N D P blw x M.1 (835 * sl)) (hc : c < 2 ^ 30) (hsl : sl ≤ 6) (hN : N < 16) (hC : C < 3) : ∃ (x1 : SD) (S1 : AF), (∀ n, fX6_endHour_L0 (n + 1) (nI C) x = fX6_endHour_L0 n (nI (C + 1)) x1) ∧ (∀ n, fX9_does_L0 (nI sl) (nI N) (n + 1) (nI C) M = fX9_does_L0 (nI sl) (nI N) n (nI (C + 1)) (S1, M.2)) ∧ RM c N D P blw x1 S1 (835 * sl) ∧ Out M.1 S1 (835 * sl) ∧ x1.2.2.2.1 = x.2.2.2.1 ∧ lifO x1 = lifO x := by
  have hB : 835 * sl + 835 ≤ 5845 := by omega
  have hK : C * 16 + N < 48 := by omega
  obtain ⟨⟨d1, d2, d3, d4, d5, d6⟩, hW, hb, hcn, hs, hf, ht⟩ := id h
  have hov := cc_over (h := N) d4 d6 hN
  rw [if_pos (Nat.le_refl _)] at hov
  rcases hs.own hK with ⟨o1, o2, o3⟩ | ⟨f, w', hf6, o1, o2, o3, o4, -⟩
  · have hop : ¬ fX6_isOpen x (nI C) (nI N) = 0 := by
      unfold fX6_isOpen
      rw [hov, slot_nI, o1]
      decide
    have hneg : ¬ 0 ≤ M.1 (835 * sl + 51 + (C * 16 + N)) := by
      rw [o3]
      decide
    cases hw : bst (brn M.1 (835 * sl) (C * 16 + N)) (fun _ => true) 6 with
    | none =>
      refine ⟨x, M.1, fun n => ?_, fun n => ?_, h, Out.rfl' _ _, rfl, rfl⟩
      · rw [fX6_endHour_L0, if_neg (nle3 hC), d4, if_neg hop, cc_aw0 h hC hN hw, nI_1]
        rfl
      · rw [fX9_does_L0, if_neg (nle3 hC), b835, place_nI, show 16 * C + N = C * 16 + N by omega, show ((nI (835 * sl) + 51) + nI (C * 16 + N)) = nI (835 * sl + 51 + (C * 16 + N)) from ix2 _ 51 _, if_pos (ib_nI (by omega) (by omega)), nI_clamp (by omega), if_neg hneg, mm_aw0 hB hK hw, nI_1]
        rfl
    | some g =>
      obtain ⟨hg, o, w, p, q1, q2, q3, q4, q5, q6, q7, q8⟩ := zq_got hb hW hK hw
      refine ⟨awX x (C * 16 + N) g (nI p), awS M.1 (835 * sl) (C * 16 + N) g (nI p), fun n => ?_, fun n => ?_, RM_aw h hc hK hg q1 q2 q3 q4 q5 q6, aw_Out _ hK hg _, rfl, rfl⟩
      · rw [fX6_endHour_L0, if_neg (nle3 hC), d4, if_neg hop, cc_aw h hC hN hg hw, nI_1, q8]
        rfl
      · rw [fX9_does_L0, if_neg (nle3 hC), b835, place_nI, show 16 * C + N = C * 16 + N by omega, show ((nI (835 * sl) + 51) + nI (C * 16 + N)) = nI (835 * sl + 51 + (C * 16 + N)) from ix2 _ 51 _, if_pos (ib_nI (by omega) (by omega)), nI_clamp (by omega), if_neg hneg, mm_aw hB hK hg hw, nI_1, q8]
        rfl
  · refine ⟨x, M.1, fun n => ?_, fun n => ?_, h, Out.rfl' _ _, rfl, rfl⟩
    · rw [fX6_endHour_L0, if_neg (nle3 hC), d4, if_pos (show fX6_isOpen x (nI C) (nI N) = 0 by unfold fX6_isOpen; rw [hov, slot_nI, o1]; rfl), nI_1]
    · rw [fX9_does_L0, if_neg (nle3 hC), b835, place_nI, show 16 * C + N = C * 16 + N by omega, show ((nI (835 * sl) + 51) + nI (C * 16 + N)) = nI (835 * sl + 51 + (C * 16 + N)) from ix2 _ 51 _, if_pos (ib_nI (by omega) (by omega)), nI_clamp (by omega), if_pos (show 0 ≤ M.1 (835 * sl + 51 + (C * 16 + N)) by rw [o4]; exact nI_pos' (by omega)), nI_1]
def PC (N C : Nat) (k : Nat) : Prop := k % 16 < N ∨ (k % 16 = N ∧ k / 16 < C)
theorem st1 {c N D sl C wd : Nat} {blw : AF} {x : SD} {M : MD} (h : RM c N D (PC N C) blw x M.1 (835 * sl)) (hsl : sl ≤ 6) (hN : N < 16) (hC : C < 3) (hwd : wd ≤ 99) : ∃ (d : Nat) (x1 : SD) (S1 : AF), d ≤ 1 ∧ (∀ n a, fX6_endHour_L1 (nI wd) (n + 1) a (nI C) x = fX6_endHour_L1 (nI wd) n (a + nI d) (nI (C + 1)) x1) ∧ (∀ n, fX9_does_L1 (nI sl) (nI wd) (nI N) (n + 1) (nI C) M = fX9_does_L1 (nI sl) (nI wd) (nI N) n (nI (C + 1)) (S1, M.2)) ∧ RM (c + 999) N D (PC N (C + 1)) blw x1 S1 (835 * sl) ∧ Out M.1 S1 (835 * sl) ∧ x1.2.2.2.1 = x.2.2.2.1 ∧ lifO x1 = lifO x + nI d := by
  have hB : 835 * sl + 835 ≤ 5845 := by omega
  have hK : C * 16 + N < 48 := by omega
  have hP : ∀ k, k < 48 → (PC N (C + 1) k ↔ PC N C k ∨ k = C * 16 + N) := fun k hk => by
    unfold PC
    omega
  obtain ⟨⟨d1, d2, d3, d4, d5, d6⟩, hW, hb, hcn, hs, hf, ht⟩ := id h
  have hfo := mm_for hb hB hK
  have hfn := cc_forN x.2.2.2.2.1 hK
  have hcap : nsum (fun f => pos1n (x.2.2.2.2.1.2 (f * 48 + (C * 16 + N)))) 6 ≤ 6 := nsum_cap (fun j => pos1n_le _)
  generalize nsum (fun f => pos1n (x.2.2.2.2.1.2 (f * 48 + (C * 16 + N)))) 6 = cnt at hfn hcap
  rw [hfn] at hfo
  rcases hs.own hK with ⟨o1, o2, o3⟩ | ⟨g, wt, hg, o1, o2, o3, o4, o5, o6, o7⟩
  · rcases Nat.eq_zero_or_pos cnt with z | z
    · refine ⟨0, _, _, by omega, fun n a => ?_, fun n => ?_, (RM_end1 h hK (.inl rfl) hP).purse (Nat.le_add_right _ _), ?_, rfl, (Int32.add_zero _).symm⟩
      · rw [fX6_endHour_L1, if_neg (nle3 hC), cc_end1 d4 hC hN _ o1 hfn z, nI_1]
        rfl
      · rw [fX9_does_L1, if_neg (nle3 hC), b835, place_nI, show 16 * C + N = C * 16 + N by omega, hfo, Option.bind_some, mm_go1 hB hK _ _ o3 (by rw [z]; rfl), Option.bind_some, mm_clears _ hB hK, Option.bind_some, nI_1]
      · exact Out.trans (fun i hi => by unfold enS1; rw [upd_n (by omega), upd_n (by omega)]) (clr_Out _ hK)
    · refine ⟨0, _, _, by omega, fun n a => ?_, fun n => ?_, (RM_end1 h hK (.inr rfl) hP).purse (Nat.le_add_right _ _), ?_, rfl, (Int32.add_zero _).symm⟩
      · rw [fX6_endHour_L1, if_neg (nle3 hC), cc_end2 d4 hC hN _ o1 hfn z (by omega), nI_1]
        rfl
      · rw [fX9_does_L1, if_neg (nle3 hC), b835, place_nI, show 16 * C + N = C * 16 + N by omega, hfo, Option.bind_some, mm_go2 hB hK _ _ o3 (nI_ne0 z (by omega)), Option.bind_some, mm_clears _ hB hK, Option.bind_some, nI_1]
      · exact Out.trans (fun i hi => by unfold enS1; rw [upd_n (by omega), upd_n (by omega)]) (clr_Out _ hK)
  · have o8 : M.1 (835 * sl + 99 + (C * 16 + N)) = nI wt := by rw [← (hs _ hK).1, o5]
    rw [show (C * 16 + N) / 16 = C by omega] at o7
    by_cases z : 70 < wt + wd
    · refine ⟨0, _, _, by omega, fun n a => ?_, fun n => ?_, RM_end3 h hK hg hP, ?_, rfl, (Int32.add_zero _).symm⟩
      · rw [fX6_endHour_L1, if_neg (nle3 hC), cc_end3 d4 hC hN hg o1 o2 o5 o6 o7 hwd z, nI_1]
        rfl
      · rw [fX9_does_L1, if_neg (nle3 hC), b835, place_nI, show 16 * C + N = C * 16 + N by omega, hfo, Option.bind_some, mm_go3 hB hK hg _ o4 o8 (by omega) (by omega) z, Option.bind_some, mm_clears _ hB hK, Option.bind_some, nI_1]
      · exact Out.trans (fun i hi => by unfold enS3; rw [upd_n (by omega), upd_n (by omega), upd_n (by omega), upd_n (by omega), upd_n (by omega), upd_n (by omega)]) (clr_Out _ hK)
    · refine ⟨1, _, _, by omega, fun n a => ?_, fun n => ?_, (RM_end0 h hK hg hP).purse (Nat.le_add_right _ _), ?_, rfl, rfl⟩
      · rw [fX6_endHour_L1, if_neg (nle3 hC), cc_end0 d4 hC hN hg o1 o2 o5 o7 hwd z, nI_1]
        rfl
      · rw [fX9_does_L1, if_neg (nle3 hC), b835, place_nI, show 16 * C + N = C * 16 + N by omega, hfo, Option.bind_some, mm_go0 hB hK hg _ o4 o8 (by omega) (by omega) z, Option.bind_some, mm_clears _ hB hK, Option.bind_some, nI_1]
      · exact Out.trans (fun i hi => by unfold enS0; rw [upd_n (by omega), upd_n (by omega), upd_n (by omega), upd_n (by omega)]) (clr_Out _ hK)
