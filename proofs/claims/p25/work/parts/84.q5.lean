/-! what is told of a state that keeps the invariant -/
def ctK (x : BD) (k : Nat) : Nat := nsum (fun f => pos1n (x.2 (f * 48 + k))) 6
def hiK (x : BD) (k : Nat) : Int32 := hif (fun f => x.2 (f * 48 + k)) (fun f => (!decide (nI f = -5)) && !decide (60 < x.1 (f * 48 + k))) 6
def coF (x : BD) (f : Nat) : Nat := nsum (fun k => pos1n (x.2 (f * 48 + k))) 48
theorem rd_s0 {y : Int32 × Int32 × Int32} {x : SD} {C H : Nat} (hC : C < 3) (hH : H < 16) : fX8_slot y x (nI C) (nI H) 0 = some (x.2.2.2.2.2.1.1 (C * 16 + H)) := by
  unfold fX8_slot fX5_ownerOf
  rw [if_neg (slot1 hC hH), if_pos rfl, slot_nI, rat_nI (by omega) (by omega)]
theorem rd_s1 {y : Int32 × Int32 × Int32} {x : SD} {C H : Nat} (hC : C < 3) (hH : H < 16) : fX8_slot y x (nI C) (nI H) 1 = some (x.2.2.2.2.2.1.2.1 (C * 16 + H)) := by
  unfold fX8_slot
  rw [if_neg (slot1 hC hH), if_neg (show ¬ (1 : Int32) = 0 by decide), if_pos rfl, slot_nI, rat_nI (by omega) (by omega)]
theorem rd_s2 {y : Int32 × Int32 × Int32} {x : SD} {C H : Nat} (hC : C < 3) (hH : H < 16) : fX8_slot y x (nI C) (nI H) 2 = some (x.2.2.2.2.2.1.2.2.1 (C * 16 + H)) := by
  unfold fX8_slot
  rw [if_neg (slot1 hC hH), if_neg (show ¬ (2 : Int32) = 0 by decide), if_neg (show ¬ (2 : Int32) = 1 by decide), if_pos rfl, slot_nI, rat_nI (by omega) (by omega)]
theorem rd_s3 {y : Int32 × Int32 × Int32} {x : SD} {C H : Nat} (hC : C < 3) (hH : H < 16) : fX8_slot y x (nI C) (nI H) 3 = some (nI (ctK x.2.2.2.2.1 (C * 16 + H))) := by
  unfold fX8_slot
  rw [if_neg (slot1 hC hH), if_neg (show ¬ (3 : Int32) = 0 by decide), if_neg (show ¬ (3 : Int32) = 1 by decide), if_neg (show ¬ (3 : Int32) = 2 by decide), if_pos rfl, slot_nI, cc_forN _ (by omega)]
  rfl
theorem rd_s4 {y : Int32 × Int32 × Int32} {x : SD} {C H : Nat} (hC : C < 3) (hH : H < 16) : fX8_slot y x (nI C) (nI H) 4 = some (hiK x.2.2.2.2.1 (C * 16 + H)) := by
  unfold fX8_slot
  rw [if_neg (slot1 hC hH), if_neg (show ¬ (4 : Int32) = 0 by decide), if_neg (show ¬ (4 : Int32) = 1 by decide), if_neg (show ¬ (4 : Int32) = 2 by decide), if_neg (show ¬ (4 : Int32) = 3 by decide), if_pos rfl, slot_nI, cc_highest _ (by omega)]
  rfl
theorem rd_s5 {y : Int32 × Int32 × Int32} {x : SD} {N C H : Nat} (hN : x.2.1 = nI N) (h16 : N ≤ 16) (hC : C < 3) (hH : H < 16) : fX8_slot y x (nI C) (nI H) 5 = some (if N ≤ H then 0 else 1) := by
  unfold fX8_slot
  rw [if_neg (slot1 hC hH), if_neg (show ¬ (5 : Int32) = 0 by decide), if_neg (show ¬ (5 : Int32) = 1 by decide), if_neg (show ¬ (5 : Int32) = 2 by decide), if_neg (show ¬ (5 : Int32) = 3 by decide), if_neg (show ¬ (5 : Int32) = 4 by decide), if_pos rfl, cc_over hN h16 hH]
  by_cases z : N ≤ H
  · rw [if_pos z, if_pos rfl]
  · rw [if_neg z, if_neg o10]
theorem rd_s6 {y : Int32 × Int32 × Int32} {x : SD} {N C H : Nat} (hN : x.2.1 = nI N) (h16 : N ≤ 16) (hC : C < 3) (hH : H < 16) : fX8_slot y x (nI C) (nI H) 6 = some (if N ≤ H then -5 else x.2.2.2.2.2.1.2.2.2 (C * 16 + H)) := by
  unfold fX8_slot
  rw [if_neg (slot1 hC hH), if_neg (show ¬ (6 : Int32) = 0 by decide), if_neg (show ¬ (6 : Int32) = 1 by decide), if_neg (show ¬ (6 : Int32) = 2 by decide), if_neg (show ¬ (6 : Int32) = 3 by decide), if_neg (show ¬ (6 : Int32) = 4 by decide), if_neg (show ¬ (6 : Int32) = 5 by decide), if_pos rfl, cc_over hN h16 hH, slot_nI, rat_nI (by omega) (by omega)]
  by_cases z : N ≤ H
  · rw [if_pos z, if_pos z, if_pos rfl]
  · rw [if_neg z, if_neg z, if_neg o10]
theorem rd_heav {y : Int32 × Int32 × Int32} {x : SD} {C H : Nat} (hC : C < 3) (hH : H < 16) : fX8_heaviest y x (nI C) (nI H) = hvv x C H := by
  unfold fX8_heaviest
  rw [if_neg (slot1 hC hH), hvv_eq x hH]
theorem rd_wind {y : Int32 × Int32 × Int32} {x : SD} {N H : Nat} (hN : x.2.1 = nI N) (h16 : N ≤ 16) (hH : H < 16) : fX8_wind y x (nI H) = if N ≤ H then x.2.2.1 H else x.2.2.2.1 H := by
  unfold fX8_wind
  rw [if_neg (hour1 hH), cc_over hN h16 hH, rat_nI hH (by omega), rat_nI hH (by omega)]
  by_cases z : N ≤ H
  · rw [if_pos z, if_pos z, if_pos rfl]
  · rw [if_neg z, if_neg z, if_neg o10]
theorem rd_f0 {y : Int32 × Int32 × Int32} {x : SD} {F : Nat} (hF : F < 6) : fX8_firm y x (nI F) 0 = some (x.2.2.2.2.2.2.1.1 F) := by
  unfold fX8_firm
  rw [if_neg (firm1 hF), if_pos rfl, rat_nI hF (by omega)]
theorem rd_f1 {y : Int32 × Int32 × Int32} {x : SD} {ow : AF} {P : Nat → Prop} (hb : CB x.2.2.2.2.1 ow P) {F : Nat} (hF : F < 6) : fX8_firm y x (nI F) 1 = some (nI (ofB x.2.2.2.2.1.2 F)) := by
  unfold fX8_firm
  rw [if_neg (firm1 hF), if_neg (show ¬ (1 : Int32) = 0 by decide), if_pos rfl, cb_off hb hF]
  rfl
theorem rd_f2 {y : Int32 × Int32 × Int32} {x : SD} {F : Nat} (hF : F < 6) : fX8_firm y x (nI F) 2 = some (nI (coF x.2.2.2.2.1 F)) := by
  unfold fX8_firm
  rw [if_neg (firm1 hF), if_neg (show ¬ (2 : Int32) = 0 by decide), if_neg (show ¬ (2 : Int32) = 1 by decide), if_pos rfl, cc_countOf _ hF, rsum_nI (g := fun k => pos1n (x.2.2.2.2.1.2 (F * 48 + k))) (fun k hk => pos1_nI _)]
  rfl
theorem rd_f3 {y : Int32 × Int32 × Int32} {x : SD} {N F : Nat} (hN : x.2.1 = nI N) (h16 : N ≤ 16) (hF : F < 6) : fX8_firm y x (nI F) 3 = some (nI (nsum (gav x N (nI F)) 48)) := by
  unfold fX8_firm
  rw [if_neg (firm1 hF), if_neg (show ¬ (3 : Int32) = 0 by decide), if_neg (show ¬ (3 : Int32) = 1 by decide), if_neg (show ¬ (3 : Int32) = 2 by decide), if_pos rfl, cc_open hN h16]
  rfl
theorem rd_f4 {y : Int32 × Int32 × Int32} {x : SD} {F : Nat} (hF : F < 6) : fX8_firm y x (nI F) 4 = some (x.2.2.2.2.2.2.1.2.1 F) := by
  unfold fX8_firm
  rw [if_neg (firm1 hF), if_neg (show ¬ (4 : Int32) = 0 by decide), if_neg (show ¬ (4 : Int32) = 1 by decide), if_neg (show ¬ (4 : Int32) = 2 by decide), if_neg (show ¬ (4 : Int32) = 3 by decide), if_pos rfl, rat_nI hF (by omega)]
theorem rd_f5 {y : Int32 × Int32 × Int32} {x : SD} {F : Nat} (hF : F < 6) : fX8_firm y x (nI F) 5 = some (x.2.2.2.2.2.2.1.2.2.1 F) := by
  unfold fX8_firm
  rw [if_neg (firm1 hF), if_neg (show ¬ (5 : Int32) = 0 by decide), if_neg (show ¬ (5 : Int32) = 1 by decide), if_neg (show ¬ (5 : Int32) = 2 by decide), if_neg (show ¬ (5 : Int32) = 3 by decide), if_neg (show ¬ (5 : Int32) = 4 by decide), if_pos rfl, rat_nI hF (by omega)]
theorem rd_f6 {y : Int32 × Int32 × Int32} {x : SD} {F : Nat} (hF : F < 6) : fX8_firm y x (nI F) 6 = some (x.2.2.2.2.2.2.1.2.2.2 F) := by
  unfold fX8_firm
  rw [if_neg (firm1 hF), if_neg (show ¬ (6 : Int32) = 0 by decide), if_neg (show ¬ (6 : Int32) = 1 by decide), if_neg (show ¬ (6 : Int32) = 2 by decide), if_neg (show ¬ (6 : Int32) = 3 by decide), if_neg (show ¬ (6 : Int32) = 4 by decide), if_neg (show ¬ (6 : Int32) = 5 by decide), if_pos rfl, rat_nI hF (by omega)]
theorem rd_c10 {y : Int32 × Int32 × Int32} {x : SD} {u : HDT} {w : PD} : fX8_count y x u w 10 = some (rsum x.2.2.2.2.2.2.1.1 6) := rfl
theorem rd_c14 {y : Int32 × Int32 × Int32} {x : SD} {u : HDT} {w : PD} : fX8_count y x u w 14 = some u.1 := rfl
theorem rd_c0 {y : Int32 × Int32 × Int32} {x : SD} {u : HDT} {w : PD} : fX8_count y x u w 0 = some x.1 := rfl
theorem rd_c1 {y : Int32 × Int32 × Int32} {x : SD} {u : HDT} {w : PD} : fX8_count y x u w 1 = some x.2.1 := rfl
theorem rd_c4 {y : Int32 × Int32 × Int32} {x : SD} {u : HDT} {w : PD} : fX8_count y x u w 4 = some x.2.2.2.2.2.2.2.2.2.2.2.2.1 := rfl
theorem rd_c8 {y : Int32 × Int32 × Int32} {x : SD} {u : HDT} {w : PD} : fX8_count y x u w 8 = some x.2.2.2.2.2.2.2.2.1 := rfl
theorem rd_c11 {y : Int32 × Int32 × Int32} {x : SD} {u : HDT} {w : PD} : fX8_count y x u w 11 = some x.2.2.2.2.2.2.2.2.2.2.1 := rfl
theorem rd_c2 {y : Int32 × Int32 × Int32} {x : SD} {u : HDT} {w : PD} : fX8_count y x u w 2 = some (nI (cntB x.2.2.2.2.1.2)) := by
  show ((fX6_total x 2).bind (fun q => some q)) = _
  rw [show fX6_total x 2 = ((fX0_countAll x.2.2.2.2.1).bind (fun q => some q)) from rfl, cc_all]
  rfl
theorem rd_c3 {y : Int32 × Int32 × Int32} {x : SD} {u : HDT} {w : PD} {N : Nat} (hN : x.2.1 = nI N) (h16 : N ≤ 16) : fX8_count y x u w 3 = some (nI (nsum (gav x N (-5)) 48)) := by
  show ((fX6_total x 3).bind (fun q => some q)) = _
  rw [show fX6_total x 3 = ((fX6_openAwards x (-5)).bind (fun q => some q)) from rfl, cc_open hN h16]
  rfl
/-! counts and offers -/
theorem nsum_eq0 {g : Nat → Nat} : ∀ {n : Nat}, (∀ j, j < n → g j = 0) → nsum g n = 0
  | 0, _ => rfl
  | n + 1, e => by
    show nsum g n + g n = 0
    rw [nsum_eq0 (fun j hj => e j (by omega)), e n (by omega)]
theorem nsum_0of {g : Nat → Nat} : ∀ {n : Nat}, nsum g n = 0 → ∀ j, j < n → g j = 0
  | 0, _, j, hj => absurd hj (by omega)
  | n + 1, e, j, hj => by
    have e : nsum g n + g n = 0 := e
    by_cases q : j = n
    · subst q
      omega
    · exact nsum_0of (n := n) (by omega) j (by omega)
theorem pos1n_nI {o : Nat} (ho : o ≤ 999) : pos1n (nI o) = 0 ↔ o = 0 := by
  unfold pos1n
  rcases Nat.eq_zero_or_pos o with z | z
  · subst z
    exact ⟨fun _ => rfl, fun _ => rfl⟩
  · rw [if_neg (nI_nle z (by omega))]
    exact ⟨fun q => absurd q (by omega), fun q => absurd q (by omega)⟩
/-- a firm has no bids where it offers nothing -/
theorem co_of {x : BD} {ow : AF} {P : Nat → Prop} (h : CB x ow P) {F : Nat} (hF : F < 6) : coF x F = 0 ↔ ofB x.2 F = 0 := by
  unfold coF ofB
  constructor
  · intro e
    refine nsum_eq0 (fun k hk => ?_)
    obtain ⟨o, w, h1, h2, -⟩ := h F k hF hk
    have e1 := nsum_0of e k hk
    rw [h2] at e1 ⊢
    rw [nI_clamp (by omega)]
    exact (pos1n_nI h1).mp e1
  · intro e
    refine nsum_eq0 (fun k hk => ?_)
    obtain ⟨o, w, h1, h2, -⟩ := h F k hF hk
    have e1 := nsum_0of e k hk
    rw [h2] at e1 ⊢
    rw [nI_clamp (by omega)] at e1
    exact (pos1n_nI h1).mpr e1
theorem hif_0 {b : Nat → Int32} {e : Nat → Bool} : ∀ {n : Nat}, (∀ f, f < n → b f = 0) → hif b e n = 0
  | 0, _ => rfl
  | n + 1, h => by
    unfold hif
    rw [hif_0 (n := n) (fun f hf => h f (by omega)), h n (by omega)]
    split
    · rw [if_pos (Int32.le_refl _)]
    · rfl
theorem hif_0of {b : Nat → Int32} {e : Nat → Bool} : ∀ {n : Nat}, hif b e n = 0 → ∀ f, f < n → e f = true → b f ≤ 0
  | 0, _, f, hf, _ => absurd hf (by omega)
  | n + 1, h, f, hf, he => by
    unfold hif at h
    have hp := hif_pos b e n
    by_cases q : f = n
    · subst q
      rw [if_pos he] at h
      by_cases z : b f ≤ hif b e f
      · rw [if_pos z] at h
        rwa [h] at z
      · rw [if_neg z] at h
        rw [h]
        exact Int32.le_refl _
    · refine hif_0of (n := n) ?_ f (by omega) he
      by_cases w : e n = true
      · rw [if_pos w] at h
        by_cases z : b n ≤ hif b e n
        · rwa [if_pos z] at h
        · rw [if_neg z] at h
          have z2 := Int32.not_le.mp z
          rw [h] at z2
          exact absurd hp (Int32.not_le.mpr z2)
      · rwa [if_neg w] at h
/-- the highest offer is 0 where there are no bids -/
theorem ct_hi {x : BD} {ow : AF} {P : Nat → Prop} (h : CB x ow P) {k : Nat} (hk : k < 48) : ctK x k = 0 ↔ hiK x k = 0 := by
  unfold ctK hiK
  constructor
  · intro e
    refine hif_0 (fun f hf => ?_)
    obtain ⟨o, w, h1, h2, -⟩ := h f k hf hk
    have e1 := nsum_0of e f hf
    have e1 : pos1n (x.2 (f * 48 + k)) = 0 := e1
    rw [h2] at e1 ⊢
    rw [(pos1n_nI h1).mp e1]
    rfl
  · intro e
    refine nsum_eq0 (fun f hf => ?_)
    obtain ⟨o, w, h1, h2, h3, h4, -⟩ := h f k hf hk
    rw [h2]
    refine (pos1n_nI h1).mpr ?_
    rcases Nat.eq_zero_or_pos o with z | z
    · exact z
    · obtain ⟨h5, h6⟩ := h4 z
      have e1 : ¬ nI f = -5 := n5_nI (by omega)
      have e2 : ¬ (60 : Int32) < x.1 (f * 48 + k) := by
        rw [h3]
        exact nI_nlt (a := 60) (by omega) (by omega)
      have e3 := hif_0of e f hf (by simp [e1, e2])
      have e3 : x.2 (f * 48 + k) ≤ 0 := e3
      rw [h2] at e3
      exact absurd e3 (nI_nle z (by omega))
theorem ct_0 {x : BD} {ow : AF} {P : Nat → Prop} (h : CB x ow P) {k : Nat} (hk : k < 48) (hp : P k ∨ ow k ≠ -5) : ctK x k = 0 := by
  unfold ctK
  refine nsum_eq0 (fun f hf => ?_)
  obtain ⟨o, w, h1, h2, h3, h4, h5⟩ := h f k hf hk
  rw [h2]
  exact (pos1n_nI h1).mpr (h5 hp)
/-- all awards are those of the firms together -/
theorem gav_sum {c N D : Nat} {x : SD} (h : CR c N D x) : nsum (fun f => nsum (gav x N (nI f)) 48) 6 = nsum (gav x N (-5)) 48 := by
  rw [nsum_swap (fun f k => gav x N (nI f) k) 48]
  refine nsum_congr (fun k hk => ?_)
  obtain ⟨-, h4, -⟩ := h.2.2.2.2.1 k hk
  unfold gav
  by_cases z : k % 16 < N
  · simp only [if_pos z]
    rfl
  simp only [if_neg z]
  rcases h4 with ⟨a, -⟩ | ⟨g, w, h1, h2, -⟩
  · simp only [if_pos a]
    rfl
  · have own5 : ¬ x.2.2.2.2.2.1.1 k = -5 := by rw [h2]; exact n5_nI (by omega)
    simp only [if_neg own5]
    rw [if_pos (.inl trivial), h2]
    have e : ∀ j, j < 6 → (if nI j = -5 ∨ nI g = nI j then 1 else 0) = (if j = g then 1 else 0 : Nat) := fun j hj => by
      have e1 : ¬ nI j = -5 := n5_nI (by omega)
      by_cases q : j = g
      · subst q
        rw [if_pos (.inr rfl), if_pos rfl]
      · rw [if_neg q, if_neg (fun z => z.elim e1 (fun z => q ((nI_eq (by omega) (by omega)).mp z).symm))]
    rw [nsum_congr e]
    rcases (show g = 0 ∨ g = 1 ∨ g = 2 ∨ g = 3 ∨ g = 4 ∨ g = 5 by omega) with rfl | rfl | rfl | rfl | rfl | rfl <;> rfl
