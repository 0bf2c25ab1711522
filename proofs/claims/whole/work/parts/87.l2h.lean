/-! the wind that is expected -/
theorem RM.purse {c c' N D : Nat} {P : Nat → Prop} {blw : AF} {x : SD} {S : AF} {B : Nat} (h : RM c N D P blw x S B) (hc : c ≤ c') : RM c' N D P blw x S B := h.to hc (fun _ _ => rfl)
theorem sim_setWind {c N D sl : Nat} {x : SD} {M : MD} (h : RR c N D x M.1 (835 * sl)) (hsl : sl ≤ 6) (p1 p2 : Int32) : ∃ (r : Int32) (x' : SD) (S' : AF), fX6_setWind x p1 p2 = (r, x') ∧ fX9_expects M (nI sl) p1 p2 = some (r, (S', M.2)) ∧ RR c N D x' S' (835 * sl) ∧ Out M.1 S' (835 * sl) ∧ (r < 0 → x' = x ∧ S' = M.1) := by
  have hB : 835 * sl + 835 ≤ 5845 := by omega
  have h0 := h
  obtain ⟨⟨d1, d2, d3, d4, d5, d6⟩, hW, hb, hcn, hs, hf, ht⟩ := h
  have keep : ∀ r : Int32, ∃ (r' : Int32) (x' : SD) (S' : AF), (r, x) = (r', x') ∧ some (r, M) = some (r', (S', M.2)) ∧ RR c N D x' S' (835 * sl) ∧ Out M.1 S' (835 * sl) ∧ (r' < 0 → x' = x ∧ S' = M.1) := fun r => ⟨r, x, M.1, rfl, rfl, h0, fun _ _ => rfl, fun _ => ⟨rfl, rfl⟩⟩
  unfold fX6_setWind fX9_expects
  rcases zq_hour p1 with ⟨e1, e2⟩ | ⟨H, hH, rfl, e1, e2⟩
  · rw [if_pos e1, if_pos e2]
    exact keep _
  rw [if_neg (show ¬ fX8_isHour (nI H) = 0 by rw [e1]; exact o10), if_neg (show ¬ fX9_in (nI H) 0 15 = 0 by rw [e2]; exact o10)]
  rcases zq_wind p2 with ⟨a1, a2⟩ | ⟨w, hw, rfl, a1, a2⟩
  · rw [if_pos a1, if_pos a2]
    exact keep _
  rw [if_neg (show ¬ fX8_isWind (nI w) = 0 by rw [a1]; exact o10), if_neg (show ¬ fX9_in (nI w) 0 99 = 0 by rw [a2]; exact o10), b835]
  have hd := mm_done M hB d5 d6 hH
  have ho := cc_over d4 d6 hH
  by_cases z : N ≤ H
  case neg =>
    rw [if_neg z] at hd ho
    rw [hd, if_neg (show ¬ fX6_isOver x (nI H) = 0 by rw [ho]; exact o10)]
    exact keep _
  rw [if_pos z] at hd ho
  rw [hd, if_pos ho]
  simp only [Option.bind_some]
  obtain ⟨w1, w2, v, hv, w3⟩ := hW H hH
  rw [if_pos trivial, show ((nI (835 * sl) + 35) + nI H) = nI (835 * sl + 35 + H) from ix2 _ 35 _, if_pos (ib_nI (by omega) (by omega)), nI_clamp (by omega), ← w2, rat_nI hH (by omega), rput_nI hH (by omega)]
  simp only [bnd]
  by_cases zz : x.2.2.1 H = nI w
  · rw [if_pos zz, if_pos zz]
    exact keep _
  rw [if_neg zz, if_neg zz]
  have hout : ∀ i, (i < 835 * sl + 35 ∨ 835 * sl + 51 ≤ i) → upd M.1 (835 * sl + 35 + H) (nI w) i = M.1 i := fun i hi => by rw [upd_n (by omega)]
  refine ⟨_, _, _, rfl, rfl, ⟨RD.to ⟨d1, d2, d3, d4, d5, d6⟩ (hout _ (by omega)) (hout _ (by omega)), fun j hj => ?_, hb.to (fun f k hf' hk => ⟨hout _ (by omega), hout _ (by omega)⟩), hcn, hs.to (fun k hk => ⟨hout _ (by omega), hout _ (by omega), hout _ (by omega), hout _ (by omega)⟩), hf.to (Nat.le_refl _) (fun f hf' => ⟨hout _ (by omega), hout _ (by omega), hout _ (by omega), hout _ (by omega)⟩), ht.to (fun j h1 h2 => hout _ (by omega))⟩, fun i hi => hout i (by omega), fun q => absurd q (by rw [w3]; exact nI_pos (by omega))⟩
  show _ = _ ∧ upd _ _ _ _ = _ ∧ ∃ w : Nat, w ≤ 99 ∧ upd _ _ _ _ = _
  rw [hout (835 * sl + 819 + j) (by omega)]
  by_cases e : j = H
  · subst e
    rw [upd_s, upd_s]
    exact ⟨w1, rfl, w, hw, rfl⟩
  · rw [upd_n e, upd_n (by omega)]
    exact hW j hj
