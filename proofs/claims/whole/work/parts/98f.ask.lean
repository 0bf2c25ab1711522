/-! questions -/
theorem sim_heaviest : SIM_heaviest INV := fun n X M hI hn p1 p2 => by
  refine ⟨_, rfl, ?_, INV_nop n X M hI hn⟩
  obtain ⟨N, D, h⟩ := hI.1
  unfold fX9_heaviest fX8_heaviest fX6_heaviestLift
  rcases zq_slot p1 p2 with ⟨a1, a2⟩ | ⟨C, H, hC, hH, rfl, rfl, a1, a2⟩
  · rw [if_pos a1, if_pos a2]
  obtain ⟨w1, w2, d, hd, w3⟩ := h.2.1 H hH
  rw [if_neg (show ¬ fX8_isSlot (nI C) (nI H) = 0 by rw [a1]; exact o10), if_neg (show ¬ fX9_isSlot (nI C) (nI H) = 0 by rw [a2]; exact o10), rat_nI hH (by omega), show (35 : Int32) + nI H = nI (35 + H) from nI_add 35 H, if_pos (ib_nI (by omega) (by omega)), nI_clamp (by omega), show M.1 (35 + H) = nI d by rw [← w3, w2, Nat.zero_add], w3, heav_nI hC hd, most_nI]
  simp only [bnd]
  by_cases z : d ≤ 70
  · rw [show (70 : Int32) - nI d = nI (70 - d) from pk_sub (a := 70) z, if_pos (nI_pos' (by omega))]
    by_cases z2 : 20 + 20 * C ≤ 70 - d
    · rw [if_pos (nI_le z2 (by omega)), show min (70 - d) (20 + 20 * C) = 20 + 20 * C by omega]
    · rw [if_neg (nI_ge (by omega) (by omega)), show min (70 - d) (20 + 20 * C) = 70 - d by omega]
  · rw [if_neg (show ¬ 0 ≤ (70 : Int32) - nI d from Int32.not_le.mpr (pk_sneg (a := 70) (by omega) (by omega))), if_neg (show ¬ nI (20 + 20 * C) ≤ 0 from nI_nle (by omega) (by omega)), show min (70 - d) (20 + 20 * C) = 0 by omega]
    rfl
theorem sim_wind : SIM_wind INV := fun n X M hI hn p1 => by
  refine ⟨_, rfl, ?_, INV_nop n X M hI hn⟩
  obtain ⟨N, D, ⟨d1, d2, d3, d4, d5, d6⟩, hW, -⟩ := hI.1
  unfold fX9_wind fX8_wind
  rcases zq_hour p1 with ⟨a1, a2⟩ | ⟨H, hH, rfl, a1, a2⟩
  · rw [if_pos a1, if_pos a2]
  obtain ⟨w1, w2, -⟩ := hW H hH
  rw [if_neg (show ¬ fX8_isHour (nI H) = 0 by rw [a1]; exact o10), if_neg (show ¬ fX9_in (nI H) 0 15 = 0 by rw [a2]; exact o10), rat_nI hH (by omega), rat_nI hH (by omega), show (35 : Int32) + nI H = nI (35 + H) from nI_add 35 H, show (819 : Int32) + nI H = nI (819 + H) from nI_add 819 H, if_pos (ib_nI (by omega) (by omega)), if_pos (ib_nI (by omega) (by omega)), nI_clamp (by omega), nI_clamp (by omega), cc_over d4 d6 hH, show fX9_isDone M 0 (nI H) = _ from mm_done M (B := 0) (by omega) d5 d6 hH, Option.bind_some, w1, w2, Nat.zero_add, Nat.zero_add]
  split <;> rfl
/-- given and not yet over, of one firm or of all -/
def gav (x : SD) (N : Nat) (p : Int32) (k : Nat) : Nat := if k % 16 < N then 0 else if x.2.2.2.2.2.1.1 k = -5 then 0 else if p = -5 ∨ x.2.2.2.2.2.1.1 k = p then 1 else 0
theorem nsum_zero {g : Nat → Nat} {a : Nat} : ∀ {d : Nat}, (∀ j, a ≤ j → j < a + d → g j = 0) → nsum g (a + d) = nsum g a
  | 0, _ => rfl
  | d + 1, e => by
    show nsum g (a + d) + g (a + d) = nsum g a
    rw [nsum_zero (fun j h1 h2 => e j h1 (by omega)), e (a + d) (by omega) (by omega)]
    rfl
theorem lpM {ρ : Type} (F : Nat → Nat → Option ρ) (a N : Nat) (out : ρ) (hs : ∀ fu k, a ≤ k → k < N → F (fu + 1) k = F fu (k + 1)) (he : ∀ fu, F (fu + 1) N = some out) (fu : Nat) (h0 : a ≤ N) (h : N - a < fu) : F fu a = some out := by
  have key : ∀ (d k fu : Nat), a ≤ k → k + d = N → d < fu → F fu k = some out := by
    intro d
    induction d with
    | zero =>
      intro k fu ha hk hf
      obtain ⟨fu, rfl⟩ : ∃ q, fu = q + 1 := ⟨fu - 1, by omega⟩
      rw [show k = N by omega]
      exact he fu
    | succ d ih =>
      intro k fu ha hk hf
      obtain ⟨fu, rfl⟩ : ∃ q, fu = q + 1 := ⟨fu - 1, by omega⟩
      rw [hs fu k ha (by omega)]
      exact ih (k + 1) fu (by omega) (by omega) (by omega)
  exact key (N - a) a fu (Nat.le_refl _) (by omega) h
theorem cc_open {x : SD} {N : Nat} (hN : x.2.1 = nI N) (h16 : N ≤ 16) (p : Int32) : fX6_openAwards x p = some (nI (nsum (gav x N p) 48)) := by
  have inner : ∀ c, c < 3 → fX6_openAwards_L1 x p (nI c) 1000 (nI (nsum (gav x N p) (c * 16))) (nI N) = some (nI (nsum (gav x N p) (c * 16 + 16))) := fun c hc => by
    have h := lpM (fun fu k => fX6_openAwards_L1 x p (nI c) fu (nI (nsum (gav x N p) (c * 16 + k))) (nI k)) N 16 (nI (nsum (gav x N p) (c * 16 + 16))) (fun fu k ha hk => by
      show fX6_openAwards_L1 x p (nI c) (fu + 1) _ _ = fX6_openAwards_L1 x p (nI c) fu (nI (nsum (gav x N p) (c * 16 + k) + gav x N p (c * 16 + k))) _
      rw [fX6_openAwards_L1, if_neg (nle16 hk), slot_nI]
      unfold fX5_ownerOf
      rw [rat_nI (by omega) (by omega), nI_1 k]
      simp only [bnd]
      have e0 : gav x N p (c * 16 + k) = if x.2.2.2.2.2.1.1 (c * 16 + k) = -5 then 0 else if p = -5 ∨ x.2.2.2.2.2.1.1 (c * 16 + k) = p then 1 else 0 := if_neg (by omega)
      rw [e0]
      by_cases z : x.2.2.2.2.2.1.1 (c * 16 + k) = -5
      · rw [if_pos z, if_pos z, Int32.add_zero]; rfl
      rw [if_neg z, if_neg z]
      by_cases z1 : p = -5
      · rw [if_pos z1, if_pos (.inl z1), nI_1]
      rw [if_neg z1]
      by_cases z2 : x.2.2.2.2.2.1.1 (c * 16 + k) = p
      · rw [if_pos z2, if_pos (.inr z2), nI_1]
      · rw [if_neg z2, if_neg (fun q => q.elim z1 z2), Int32.add_zero]; rfl) (fun fu => by
      show fX6_openAwards_L1 x p (nI c) (fu + 1) _ _ = _
      rw [fX6_openAwards_L1, if_pos ler16]) 1000 h16 (by omega)
    have e : nsum (gav x N p) (c * 16 + N) = nsum (gav x N p) (c * 16) := nsum_zero (fun j h1 h2 => if_pos (by omega))
    rw [← e]
    exact h
  unfold fX6_openAwards
  have h := lpN (fun fu k => fX6_openAwards_L0 x p fu (nI (nsum (gav x N p) (k * 16))) (nI k)) 3 _ (fun fu k hk => by
    show fX6_openAwards_L0 x p (fu + 1) _ _ = _
    rw [fX6_openAwards_L0, if_neg (nle3 hk), hN, inner k hk, Option.bind_some, nI_1, show k * 16 + 16 = (k + 1) * 16 by omega]) (fun fu => by
    show fX6_openAwards_L0 x p (fu + 1) _ _ = _
    rw [fX6_openAwards_L0, if_pos ler3]) 1000 0 (by omega) (by omega)
  have h2 : fX6_openAwards_L0 x p 1000 0 0 = some (nI (nsum (gav x N p) 48)) := h
  rw [h2]
  rfl
/-- p: a firm, or a number below 0 for all -/
theorem mm_open {c N D : Nat} {x : SD} {M : MD} (h : RR c N D x M.1 0) {p p' : Int32} (hp : (p < 0 ∧ p' = -5) ∨ (¬ p < 0 ∧ p' = p)) : fX9_awarded M p = some (nI (nsum (gav x N p') 48)) := by
  obtain ⟨⟨d1, d2, d3, d4, d5, d6⟩, hW, hb, hcn, hs, hf, ht⟩ := h
  unfold fX9_awarded
  have hl := lpN (fun fu k => fX9_awarded_L0 M p fu (nI (nsum (gav x N p') k)) (nI k)) 48 _ (fun fu k hk => by
    show fX9_awarded_L0 M p (fu + 1) _ _ = fX9_awarded_L0 M p fu (nI (nsum (gav x N p') k + gav x N p' k)) _
    have hm : nI k - nI k / 16 * 16 = nI (k % 16) := pk_rem (d := 16) (by omega) (by omega) (by omega)
    have hd := mm_done M (B := 0) (h := k % 16) (by omega) d5 d6 (Nat.mod_lt _ (by omega))
    rw [fX9_awarded_L0, if_neg (nle48 hk), show (51 : Int32) + nI k = nI (51 + k) from nI_add 51 k, if_pos (ib_nI (by omega) (by omega)), nI_clamp (by omega), hm, show fX9_isDone M 0 (nI (k % 16)) = _ from hd, nI_1 k, Option.bind_some]
    obtain ⟨-, -, -, h4, -⟩ := hs k hk
    rcases h4 with ⟨a, b⟩ | ⟨f, w, h1, h2, h3, -⟩
    · rw [Nat.zero_add] at b
      have e0 : gav x N p' k = 0 := by
        unfold gav
        rw [if_pos a, ite_self]
      rw [if_pos (show M.1 (51 + k) < 0 by rw [b]; decide), e0, Int32.add_zero]; rfl
    · rw [Nat.zero_add] at h3
      rw [if_neg (show ¬ M.1 (51 + k) < 0 by rw [h3]; exact nI_pos (by omega)), h3]
      by_cases z : N ≤ k % 16
      case neg =>
        have e0 : gav x N p' k = 0 := if_pos (by omega)
        rw [if_neg z, if_neg o10, e0, Int32.add_zero]; rfl
      have e0 : gav x N p' k = if p' = -5 ∨ nI f = p' then 1 else 0 := by
        unfold gav
        rw [if_neg (show ¬ k % 16 < N by omega), h2, if_neg (n5_nI (by omega))]
      rw [if_pos z, if_pos (show (0 : Int32) = 0 from rfl), e0]
      rcases hp with ⟨q1, q2⟩ | ⟨q1, q2⟩
      · rw [if_pos q1, if_pos (.inl q2), nI_1]
      · have q3 : ¬ p = -5 := fun e => q1 (by rw [e]; decide)
        rw [if_neg q1, q2]
        by_cases z2 : nI f = p
        · rw [if_pos z2, if_pos (.inr z2), nI_1]
        · rw [if_neg z2, if_neg (fun q => q.elim q3 z2), Int32.add_zero]; rfl) (fun fu => by
    show fX9_awarded_L0 M p (fu + 1) _ _ = _
    rw [fX9_awarded_L0, if_pos ler48]) 1000 0 (by omega) (by omega)
  have h2 : fX9_awarded_L0 M p 1000 0 0 = some (nI (nsum (gav x N p') 48)) := hl
  rw [h2]
  rfl
