/-! bids: placed on both sides -/
theorem b835 (sl : Nat) : (835 : Int32) * nI sl = nI (835 * sl) := pk_mul 835 sl
theorem RM_bid {c N D : Nat} {x : SD} {S : AF} {B : Nat} (h : RR c N D x S B) (hc : c < 2 ^ 30) {F C H w q p : Nat} (hF : F < 6) (hC : C < 3) (hH : H < 16) (hw1 : 1 ≤ w) (hw2 : w ≤ 20 + 20 * C) (hq1 : 1 ≤ q) (hq2 : q ≤ 999) (hN : N ≤ H) (hz : x.2.2.2.2.1.2 (F * 48 + (C * 16 + H)) = 0) (hp : x.2.2.2.2.2.2.1.1 F = nI p) (hpc : p ≤ c) (hpo : q + ofB x.2.2.2.2.1.2 F ≤ p) (hcn : cntB x.2.2.2.2.1.2 < 60) :
    RR c N D (x.1, x.2.1, x.2.2.1, x.2.2.2.1, (upd x.2.2.2.2.1.1 (F * 48 + (C * 16 + H)) (nI w), upd x.2.2.2.2.1.2 (F * 48 + (C * 16 + H)) (nI q)), x.2.2.2.2.2.1, x.2.2.2.2.2.2.1, x.2.2.2.2.2.2.2) (upd (upd S (B + 243 + 6 * (C * 16 + H) + F) (nI w)) (B + 531 + 6 * (C * 16 + H) + F) (nI q)) B := by
  obtain ⟨hd, hW, hb, hcn', hs, hf, ht⟩ := h
  have hK : C * 16 + H < 48 := by omega
  generalize hKe : C * 16 + H = K at hz hK ⊢
  have hout : ∀ i, (i < B + 243 ∨ B + 819 ≤ i) → upd (upd S (B + 243 + 6 * K + F) (nI w)) (B + 531 + 6 * K + F) (nI q) i = S i := fun i hi => by rw [upd_n (by omega), upd_n (by omega)]
  refine ⟨hd.to (hout _ (by omega)) (hout _ (by omega)), hW.to (fun j hj => ⟨hout _ (by omega), hout _ (by omega)⟩), fun f k hf' hk => ?_, ?_, hs.to (fun k hk => ⟨hout _ (by omega), hout _ (by omega), hout _ (by omega), hout _ (by omega)⟩), fun f hf' => ?_, ht.to (fun j h1 h2 => hout _ (by omega))⟩
  · show upd _ _ _ _ = _ ∧ upd _ _ _ _ = _ ∧ ∃ o w', o ≤ 999 ∧ upd _ _ _ _ = _ ∧ upd _ _ _ _ = _ ∧ _
    by_cases e : f = F ∧ k = K
    · obtain ⟨rfl, rfl⟩ := e
      rw [upd_s, upd_s, upd_s, upd_n (by omega), upd_s]
      exact ⟨rfl, rfl, q, w, hq2, rfl, rfl, fun _ => ⟨hw1, by rw [show k / 16 = C by omega]; exact hw2⟩, fun z => absurd z (by show ¬ k % 16 < N; omega)⟩
    · have e1 : f * 48 + k ≠ F * 48 + K := by omega
      rw [upd_n e1, upd_n e1, upd_n (by omega), upd_n (by omega), upd_n (by omega), upd_n (by omega)]
      exact hb f k hf' hk
  · show cntB (upd _ _ _) ≤ 60
    have h1 := cntB_upd x.2.2.2.2.1.2 (v := nI q) hF hK
    have h2 := pos1n_le (nI q)
    omega
  · obtain ⟨f1, f2, f3, f4, p', f5, f6, f7⟩ := hf f hf'
    refine ⟨by rw [hout _ (by omega)]; exact f1, by rw [hout _ (by omega)]; exact f2, by rw [hout _ (by omega)]; exact f3, by rw [hout _ (by omega)]; exact f4, p', f5, f6, ?_⟩
    show ofB (upd _ _ _) f ≤ p'
    by_cases e : f = F
    · subst e
      have h1 := ofB_upd x.2.2.2.2.1.2 (F := f) (v := nI q) hK
      rw [hz, nI_clamp (by omega), show (0 : Int32).toNatClampNeg = 0 from rfl] at h1
      have h2 : p' = p := (nI_eq (by omega) (by omega)).mp (by rw [← f6]; exact hp)
      omega
    · rw [ofB_oth _ hK e]
      exact f7
theorem sim_placeBid {c N D sl : Nat} {x : SD} {M : MD} (h : RR c N D x M.1 (835 * sl)) (hc : c < 2 ^ 30) (hsl : sl ≤ 6) (p1 p2 p3 p4 p5 : Int32) : ∃ (r : Int32) (x' : SD) (S' : AF), fX6_placeBid x p1 p2 p3 p4 p5 = some (r, x') ∧ fX9_bidsBy M (nI sl) p1 p2 p3 p4 p5 = some (r, (S', M.2)) ∧ RR c N D x' S' (835 * sl) ∧ Out M.1 S' (835 * sl) ∧ (r < 0 → x' = x ∧ S' = M.1) := by
  have hB : 835 * sl + 835 ≤ 5845 := by omega
  obtain ⟨e, e1, e2, e3⟩ := sim_bidError h hc hB p1 p2 p3 p4 p5
  unfold fX6_placeBid fX9_bidsBy
  rw [b835, e1, e2]
  simp only [Option.bind_some]
  rcases e3 with e3 | ⟨rfl, F, C, H, w, q, p, hF, hC, hH, hw1, hw2, hq1, hq2, rfl, rfl, rfl, rfl, rfl, hN, ho, hz, hp, hpc, hpo, hcn⟩
  · rw [if_neg (Int32.not_le.mpr e3), if_neg (Int32.not_le.mpr e3)]
    exact ⟨e, x, M.1, rfl, rfl, h, fun _ _ => rfl, fun _ => ⟨rfl, rfl⟩⟩
  · have hK : C * 16 + H < 48 := by omega
    have hR := RM_bid h hc hF hC hH hw1 hw2 hq1 hq2 hN hz hp hpc hpo hcn
    rw [if_pos (Int32.le_refl _), if_pos (Int32.le_refl _), slot_nI, place_nI, show 16 * C + H = C * 16 + H by omega, set_nI _ hF hK]
    simp only [bnd]
    rw [show (((nI (835 * sl) + 243) + (6 * nI (C * 16 + H))) + nI F) = nI (835 * sl + 243 + 6 * (C * 16 + H) + F) from ix6 _ 243 _ _, show (((nI (835 * sl) + 531) + (6 * nI (C * 16 + H))) + nI F) = nI (835 * sl + 531 + 6 * (C * 16 + H) + F) from ix6 _ 531 _ _, if_pos (ib_nI (by omega) (by omega)), if_pos (ib_nI (by omega) (by omega)), nI_clamp (by omega), nI_clamp (by omega)]
    have hf := mm_for (M := (upd (upd M.1 (835 * sl + 243 + 6 * (C * 16 + H) + F) (nI w)) (835 * sl + 531 + 6 * (C * 16 + H) + F) (nI q), M.2)) hR.2.2.1 hB hK
    rw [show fX9_bidsFor _ (nI (835 * sl)) (nI (C * 16 + H)) = _ from hf, cc_forN _ hK]
    exact ⟨_, _, _, rfl, rfl, hR, fun i hi => by rw [upd_n (by omega), upd_n (by omega)], fun z => absurd z (nI_pos (Nat.lt_of_le_of_lt (nsum_cap (fun j => pos1n_le _)) (by omega)))⟩
