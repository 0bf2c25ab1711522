/-! the cheapest half hour: the first with the least highest offer, found from either end -/
def can (x : SD) (C w h : Nat) : Prop := x.2.2.2.2.2.1.1 (C * 16 + h) = -5 ∧ ¬ hvv x C h < nI w
def AM (x : SD) (C w a b : Nat) (r : Option Nat) : Prop := match r with
  | none => ∀ h, a ≤ h → h < b → ¬ can x C w h
  | some g => a ≤ g ∧ g < b ∧ can x C w g ∧ ∀ h, a ≤ h → h < b → can x C w h → hiK x.2.2.2.2.1 (C * 16 + g) ≤ hiK x.2.2.2.2.1 (C * 16 + h) ∧ (h < g → hiK x.2.2.2.2.1 (C * 16 + g) < hiK x.2.2.2.2.1 (C * 16 + h))
theorem AM_one {x : SD} {C w a b : Nat} {r s : Option Nat} (hr : AM x C w a b r) (hs : AM x C w a b s) : r = s := by
  cases r with
  | none =>
    cases s with
    | none => rfl
    | some g => exact absurd hs.2.2.1 (hr g hs.1 hs.2.1)
  | some f =>
    cases s with
    | none => exact absurd hr.2.2.1 (hs f hr.1 hr.2.1)
    | some g =>
      have h1 := hr.2.2.2 g hs.1 hs.2.1 hs.2.2.1
      have h2 := hs.2.2.2 f hr.1 hr.2.1 hr.2.2.1
      rcases Nat.lt_trichotomy f g with q | q | q
      · exact absurd h1.1 (Int32.not_le.mpr (h2.2 q))
      · rw [q]
      · exact absurd h2.1 (Int32.not_le.mpr (h1.2 q))
theorem AM_up0 {x : SD} {C w a : Nat} : AM x C w a a none := fun h h1 h2 => absurd h1 (by omega)
theorem AM_no {x : SD} {C w a k : Nat} {r : Option Nat} (h : AM x C w a k r) (hk : ¬ can x C w k) : AM x C w a (k + 1) r := by
  cases r with
  | none =>
    intro j h1 h2
    by_cases e : j = k
    · subst e
      exact hk
    · exact h j h1 (by omega)
  | some g =>
    refine ⟨h.1, by have := h.2.1; omega, h.2.2.1, fun j h1 h2 h3 => ?_⟩
    by_cases e : j = k
    · subst e
      exact absurd h3 hk
    · exact h.2.2.2 j h1 (by omega) h3
theorem AM_first {x : SD} {C w a k : Nat} (h : AM x C w a k none) (ha : a ≤ k) (hk : can x C w k) : AM x C w a (k + 1) (some k) := by
  refine ⟨ha, by omega, hk, fun j h1 h2 h3 => ?_⟩
  by_cases e : j = k
  · subst e
    exact ⟨Int32.le_refl _, fun q => absurd q (by omega)⟩
  · exact absurd h3 (h j h1 (by omega))
theorem AM_keep {x : SD} {C w a k g : Nat} (h : AM x C w a k (some g)) (hle : hiK x.2.2.2.2.1 (C * 16 + g) ≤ hiK x.2.2.2.2.1 (C * 16 + k)) : AM x C w a (k + 1) (some g) := by
  refine ⟨h.1, by have := h.2.1; omega, h.2.2.1, fun j h1 h2 h3 => ?_⟩
  by_cases e : j = k
  · subst e
    exact ⟨hle, fun q => absurd q (by have := h.2.1; omega)⟩
  · exact h.2.2.2 j h1 (by omega) h3
theorem AM_less {x : SD} {C w a k g : Nat} (h : AM x C w a k (some g)) (hk : can x C w k) (hlt : hiK x.2.2.2.2.1 (C * 16 + k) < hiK x.2.2.2.2.1 (C * 16 + g)) : AM x C w a (k + 1) (some k) := by
  refine ⟨by have := h.1; have := h.2.1; omega, by omega, hk, fun j h1 h2 h3 => ?_⟩
  by_cases e : j = k
  · subst e
    exact ⟨Int32.le_refl _, fun q => absurd q (by omega)⟩
  · have := Int32.lt_of_lt_of_le hlt (h.2.2.2 j h1 (by omega) h3).1
    exact ⟨Int32.le_of_lt this, fun _ => this⟩
/-- downwards: the one below comes first where it isn't dearer -/
theorem AM_dno {x : SD} {C w k b : Nat} {r : Option Nat} (h : AM x C w (k + 1) b r) (hk : ¬ can x C w k) : AM x C w k b r := by
  cases r with
  | none =>
    intro j h1 h2
    by_cases e : j = k
    · subst e
      exact hk
    · exact h j (by omega) h2
  | some g =>
    refine ⟨by have := h.1; omega, h.2.1, h.2.2.1, fun j h1 h2 h3 => ?_⟩
    by_cases e : j = k
    · subst e
      exact absurd h3 hk
    · exact h.2.2.2 j (by omega) h2 h3
theorem AM_dfirst {x : SD} {C w k b : Nat} (h : AM x C w (k + 1) b none) (hb : k < b) (hk : can x C w k) : AM x C w k b (some k) := by
  refine ⟨Nat.le_refl _, hb, hk, fun j h1 h2 h3 => ?_⟩
  by_cases e : j = k
  · subst e
    exact ⟨Int32.le_refl _, fun q => absurd q (by omega)⟩
  · exact absurd h3 (h j (by omega) h2)
theorem AM_dkeep {x : SD} {C w k b g : Nat} (h : AM x C w (k + 1) b (some g)) (hlt : hiK x.2.2.2.2.1 (C * 16 + g) < hiK x.2.2.2.2.1 (C * 16 + k)) : AM x C w k b (some g) := by
  refine ⟨by have := h.1; omega, h.2.1, h.2.2.1, fun j h1 h2 h3 => ?_⟩
  by_cases e : j = k
  · subst e
    exact ⟨Int32.le_of_lt hlt, fun _ => hlt⟩
  · exact h.2.2.2 j (by omega) h2 h3
theorem AM_dless {x : SD} {C w k b g : Nat} (h : AM x C w (k + 1) b (some g)) (hk : can x C w k) (hle : hiK x.2.2.2.2.1 (C * 16 + k) ≤ hiK x.2.2.2.2.1 (C * 16 + g)) : AM x C w k b (some k) := by
  refine ⟨Nat.le_refl _, by have := h.1; have := h.2.1; omega, hk, fun j h1 h2 h3 => ?_⟩
  by_cases e : j = k
  · subst e
    exact ⟨Int32.le_refl _, fun q => absurd q (by omega)⟩
  · exact ⟨Int32.le_trans hle (h.2.2.2 j (by omega) h2 h3).1, fun q => absurd q (by omega)⟩
/-- the class' own search -/
theorem up_cheap {c N D : Nat} {x : SD} (h : CR c N D x) {C w : Nat} (hC : C < 3) : ∃ r : Option Nat, (∀ g, r = some g → g < 16) ∧ AM x C w N 16 r ∧ fX6_cheapestHour x (nI C) (nI w) = some (enc (-5) r) := by
  obtain ⟨⟨d1, d4, d6⟩, hW, hb, hcn, hs, hf, ht⟩ := id h
  have key : ∀ (d k fu : Nat) (r : Option Nat) (lo : Int32), N ≤ k → k + d = 16 → d < fu → AM x C w N k r → (∀ g, r = some g → lo = hiK x.2.2.2.2.1 (C * 16 + g)) → ∃ r' : Option Nat, AM x C w N 16 r' ∧ fX6_cheapestHour_L0 x (nI C) (nI w) fu (enc (-5) r) lo (nI k) = some (enc (-5) r') := by
    intro d
    induction d with
    | zero =>
      intro k fu r lo hN hk hf hA hlo
      obtain ⟨fu, rfl⟩ : ∃ q, fu = q + 1 := ⟨fu - 1, by omega⟩
      have e : k = 16 := by omega
      subst e
      exact ⟨r, hA, by rw [fX6_cheapestHour_L0, if_pos ler16]⟩
    | succ d ih =>
      intro k fu r lo hN hk hf hA hlo
      obtain ⟨fu, rfl⟩ : ∃ q, fu = q + 1 := ⟨fu - 1, by omega⟩
      have hk16 : k < 16 := by omega
      rw [fX6_cheapestHour_L0, if_neg (nle16 hk16), hvv_eq x hk16, nI_1, slot_nI, cc_highest _ (by omega)]
      have ho := cc_over d4 d6 hk16
      rw [if_pos hN] at ho
      rcases hs.own (K := C * 16 + k) (by omega) with ⟨o1, o2, o3⟩ | ⟨f, w', hf6, o1, o2, o3, o4, -⟩
      · rw [if_neg (show ¬ fX6_isOpen x (nI C) (nI k) = 0 by unfold fX6_isOpen; rw [ho, slot_nI, o1]; decide)]
        by_cases z : hvv x C k < nI w
        · rw [if_pos z]
          exact ih (k + 1) fu r lo (by omega) (by omega) (by omega) (AM_no hA (fun q => q.2 z)) hlo
        rw [if_neg z, Option.bind_some]
        have hcan : can x C w k := ⟨o3, z⟩
        cases r with
        | none =>
          rw [if_pos (show enc (-5) none = -5 from rfl)]
          exact ih (k + 1) fu (some k) _ (by omega) (by omega) (by omega) (AM_first hA hN hcan) (fun g hg => by cases hg; rfl)
        | some g =>
          have hg : g < 16 := by have := hA.2.1; omega
          rw [if_neg (show ¬ enc (-5) (some g) = -5 from n5_nI (by omega))]
          by_cases q : lo ≤ hiK x.2.2.2.2.1 (C * 16 + k)
          · rw [if_pos (show lo ≤ hif _ _ 6 from q)]
            exact ih (k + 1) fu (some g) lo (by omega) (by omega) (by omega) (AM_keep hA (by rw [← hlo g rfl]; exact q)) hlo
          · rw [if_neg (show ¬ lo ≤ hif _ _ 6 from q)]
            exact ih (k + 1) fu (some k) _ (by omega) (by omega) (by omega) (AM_less hA hcan (by rw [← hlo g rfl]; exact Int32.not_le.mp q)) (fun g hg => by cases hg; rfl)
      · rw [if_pos (show fX6_isOpen x (nI C) (nI k) = 0 by unfold fX6_isOpen; rw [ho, slot_nI, o1]; rfl)]
        exact ih (k + 1) fu r lo (by omega) (by omega) (by omega) (AM_no hA (fun q => by have := q.1; rw [o3] at this; exact n5_nI (by omega) this)) hlo
  obtain ⟨r', h1, h2⟩ := key (16 - N) N 1000 none 0 (Nat.le_refl _) (by omega) (by omega) AM_up0 (fun g hg => by cases hg)
  refine ⟨r', fun g hg => by subst hg; exact h1.2.1, h1, ?_⟩
  unfold fX6_cheapestHour
  rw [d4, show fX6_cheapestHour_L0 x (nI C) (nI w) 1000 (-5) 0 (nI N) = _ from h2]
  rfl
/-- the law's own search -/
theorem dn_cheap {c N D : Nat} {y : Int32 × Int32 × Int32} {x : SD} (h : CR c N D x) {C w : Nat} (hC : C < 3) : ∃ r : Option Nat, (∀ g, r = some g → g < 16) ∧ AM x C w N 16 r ∧ fL_hangs_L3 y x (nI N) (nI C) (nI w) 1000 (-5) 15 = some (enc (-5) r) := by
  obtain ⟨⟨d1, d4, d6⟩, hW, hb, hcn, hs, hf, ht⟩ := id h
  -- k: the half hours from N + k on have been seen
  have key : ∀ (d fu : Nat) (r : Option Nat) (p : Int32), N + d ≤ 16 → d < fu → AM x C w (N + d) 16 r → (∀ g, r = some g → g < 16) → p + 1 = nI (N + d) → ∃ r' : Option Nat, (∀ g, r' = some g → g < 16) ∧ AM x C w N 16 r' ∧ fL_hangs_L3 y x (nI N) (nI C) (nI w) fu (enc (-5) r) p = some (enc (-5) r') := by
    intro d
    induction d with
    | zero =>
      intro fu r p hd hf hA hr hp
      obtain ⟨fu, rfl⟩ : ∃ q, fu = q + 1 := ⟨fu - 1, by omega⟩
      have e : p < nI N := by
        have e1 : p = nI N + -1 := by rw [← show p + 1 = nI N from hp, Int32.add_assoc, Int32.add_right_neg, Int32.add_zero]
        rw [e1]
        rcases Nat.eq_zero_or_pos N with z | z
        · subst z
          decide
        · obtain ⟨m, rfl⟩ : ∃ m, N = m + 1 := ⟨N - 1, by omega⟩
          rw [pk_m1]
          exact nI_lt (by omega) (by omega)
      exact ⟨r, hr, hA, by rw [fL_hangs_L3, if_pos e]⟩
    | succ d ih =>
      intro fu r p hd hf hA hr hp
      obtain ⟨fu, rfl⟩ : ∃ q, fu = q + 1 := ⟨fu - 1, by omega⟩
      have e1 : p = nI (N + d) := by
        have e2 : p + 1 = nI (N + d) + 1 := by rw [hp, nI_1]; rfl
        have e3 := congrArg (fun z : Int32 => z + -1) e2
        rwa [Int32.add_assoc, Int32.add_right_neg, Int32.add_zero, Int32.add_assoc, Int32.add_right_neg, Int32.add_zero] at e3
      subst e1
      have hk16 : N + d < 16 := by omega
      have hp2 : nI (N + d) + -1 + 1 = nI (N + d) := by rw [Int32.add_assoc, Int32.add_left_neg, Int32.add_zero]
      have s0 := rd_s0 (y := y) (x := x) hC hk16
      have s4 := rd_s4 (y := y) (x := x) hC hk16
      have sh := rd_heav (y := y) (x := x) hC hk16
      rw [fL_hangs_L3, if_neg (nI_nlt (by omega) (by omega)), s0, Option.bind_some]
      simp only [bnd]
      rw [sh]
      rcases hs.own (K := C * 16 + (N + d)) (by omega) with ⟨o1, o2, o3⟩ | ⟨f, w', hf6, o1, o2, o3, o4, -⟩
      · rw [o3, if_neg (show ¬ (0 : Int32) ≤ -5 by decide)]
        by_cases z : hvv x C (N + d) < nI w
        · rw [if_pos z, Option.bind_some, if_pos rfl, Option.bind_some]
          exact ih fu r _ (by omega) (by omega) (AM_dno hA (fun q => q.2 z)) hr hp2
        rw [if_neg z, Option.bind_some, if_neg o10]
        have hcan : can x C w (N + d) := ⟨o3, z⟩
        cases r with
        | none =>
          rw [if_pos (show enc (-5) none < 0 by decide), Option.bind_some]
          exact ih fu (some (N + d)) _ (by omega) (by omega) (AM_dfirst hA hk16 hcan) (fun g hg => by cases hg; exact hk16) hp2
        | some g =>
          have hg : g < 16 := hr g rfl
          have s4g := rd_s4 (y := y) (x := x) hC hg
          rw [if_neg (show ¬ enc (-5) (some g) < 0 from nI_pos (by omega)), s4, Option.bind_some, show fX8_slot y x (nI C) (enc (-5) (some g)) 4 = _ from s4g, Option.bind_some]
          by_cases q : hiK x.2.2.2.2.1 (C * 16 + g) < hiK x.2.2.2.2.1 (C * 16 + (N + d))
          · rw [if_pos q, Option.bind_some]
            exact ih fu (some g) _ (by omega) (by omega) (AM_dkeep hA q) hr hp2
          · rw [if_neg q, Option.bind_some]
            exact ih fu (some (N + d)) _ (by omega) (by omega) (AM_dless hA hcan (Int32.not_lt.mp q)) (fun g hg => by cases hg; exact hk16) hp2
      · rw [o3, if_pos (nI_pos' (by omega)), Option.bind_some, if_pos rfl, Option.bind_some]
        exact ih fu r _ (by omega) (by omega) (AM_dno hA (fun q => by have := q.1; rw [o3] at this; exact n5_nI (by omega) this)) hr hp2
  have h16 : N + (16 - N) = 16 := by omega
  obtain ⟨r', h1, h2, h3⟩ := key (16 - N) 1000 none 15 (by omega) (by omega) (by rw [h16]; exact AM_up0) (fun g hg => by cases hg) (by rw [h16]; rfl)
  exact ⟨r', h1, h2, h3⟩
theorem rd_cheap {c N D : Nat} {y : Int32 × Int32 × Int32} {x : SD} (h : CR c N D x) {C w : Nat} (hC : C < 3) (hw1 : 1 ≤ w) (hw2 : w ≤ 20 + 20 * C) : ∃ v : Int32, fL_hangs_L3 y x (nI N) (nI C) (nI w) 1000 (-5) 15 = some v ∧ fX8_cheapest y x (nI C) (nI w) = some v := by
  obtain ⟨r, h1, h2, h3⟩ := up_cheap h (w := w) hC
  obtain ⟨r', h4, h5, h6⟩ := dn_cheap (y := y) h (w := w) hC
  have e := AM_one h2 h5
  subst e
  refine ⟨_, h6, ?_⟩
  unfold fX8_cheapest fX8_isCrane fX8_isLift
  rw [if_neg (nI_pos (by omega)), if_neg (nle3 hC), if_neg o10, fL_nI hC, if_neg (show ¬ nI w < 1 from nI_nlt (b := 1) hw1 (by omega)), if_neg (nI_nlt hw2 (by omega)), if_neg o10, h3]
  rfl
theorem hg2 {c N D : Nat} {y : Int32 × Int32 × Int32} {x : SD} (h : CR c N D x) : fL_hangs_L2 y x (nI N) 1000 1 0 = some 1 := by
  have hl := lpN (fun fu k => fL_hangs_L2 y x (nI N) fu 1 (nI k)) 3 _ (fun fu k hk => by
    show fL_hangs_L2 y x (nI N) (fu + 1) _ _ = _
    have e : (1 : Int32) + 7 * nI k = nI (1 + 7 * k) := by rw [show (7 : Int32) = nI 7 from rfl, show (1 : Int32) = nI 1 from rfl, pk_mul, nI_add]
    obtain ⟨v, e1, e2⟩ := rd_cheap (y := y) h (C := k) (w := 1 + 7 * k) hk (by omega) (by omega)
    rw [fL_hangs_L2, if_neg (nle3 hk), if_neg o10]
    simp only [bnd]
    rw [e, e1, Option.bind_some, e2, Option.bind_some, if_pos rfl, Option.bind_some, nI_1]) (fun fu => by
    show fL_hangs_L2 y x (nI N) (fu + 1) _ _ = _
    rw [fL_hangs_L2, if_pos ler3]) 1000 0 (by omega) (by omega)
  exact hl
theorem of_le {c : Nat} {x : SD} (hf : CF x.2.2.2.2.2.2.1 x.2.2.2.2.1.2 c) (hc : c < 2 ^ 28) : ¬ rsum x.2.2.2.2.2.2.1.1 6 < rsum (fun f => nI (ofB x.2.2.2.2.1.2 f)) 6 := by
  obtain ⟨p0, a0, b0, c0⟩ := hf 0 (by omega)
  obtain ⟨p1, a1, b1, c1⟩ := hf 1 (by omega)
  obtain ⟨p2, a2, b2, c2⟩ := hf 2 (by omega)
  obtain ⟨p3, a3, b3, c3⟩ := hf 3 (by omega)
  obtain ⟨p4, a4, b4, c4⟩ := hf 4 (by omega)
  obtain ⟨p5, a5, b5, c5⟩ := hf 5 (by omega)
  have e1 : rsum x.2.2.2.2.2.2.1.1 6 = nI (0 + p0 + p1 + p2 + p3 + p4 + p5) := by
    show 0 + _ + _ + _ + _ + _ + _ = _
    rw [b0, b1, b2, b3, b4, b5, show (0 : Int32) = nI 0 from rfl, nI_add, nI_add, nI_add, nI_add, nI_add, nI_add]
  have e2 : rsum (fun f => nI (ofB x.2.2.2.2.1.2 f)) 6 = nI (nsum (ofB x.2.2.2.2.1.2) 6) := rsum_nI (fun j hj => rfl)
  rw [e1, e2]
  refine nI_nlt ?_ (by omega)
  have e3 : nsum (ofB x.2.2.2.2.1.2) 6 = 0 + ofB x.2.2.2.2.1.2 0 + ofB x.2.2.2.2.1.2 1 + ofB x.2.2.2.2.1.2 2 + ofB x.2.2.2.2.1.2 3 + ofB x.2.2.2.2.1.2 4 + ofB x.2.2.2.2.1.2 5 := rfl
  rw [e3]
  omega
theorem bz' {α β : Type} {v : β} {o : Option β} {k : β → Option α} {r : Option α} (h : o = some v) (hk : k v = r) : o.bind k = r := by rw [h]; exact hk
/-- hangs answers true -/
theorem hangs_ok {c N D : Nat} {y : Int32 × Int32 × Int32} {x : SD} {u : HDT} {w : PD} (h : CR c N D x) (hc : c < 2 ^ 28) : fL_hangs y x u w = some 1 := by
  obtain ⟨⟨d1, d4, d6⟩, hW, hb, hcn, hs, hf, t1, t2, t3, t4⟩ := id h
  unfold fL_hangs
  have e1 : fX8_count y x u w 1 = some (nI N) := by rw [rd_c1, d4]
  have q0 : rsum (fun f => nI (coF x.2.2.2.2.1 f)) 6 = nI (cntB x.2.2.2.2.1.2) := rsum_nI (fun j hj => rfl)
  have q1 : rsum (fun f => nI (nsum (gav x N (nI f)) 48)) 6 = nI (nsum (gav x N (-5)) 48) := (rsum_nI (fun j hj => rfl)).trans (congrArg nI (gav_sum h))
  have q2 : nsum (ctK x.2.2.2.2.1) 48 = cntB x.2.2.2.2.1.2 := (nsum_swap (fun f k => pos1n (x.2.2.2.2.1.2 (f * 48 + k))) 48 (n := 6)).symm
  refine bz e1 (bz' (hg0 h (by omega)) (bz (v := 1) ?_ (bz' (hg1 h (by omega)) (bz (v := 1) ?_ (bz (hg2 h) ((if_pos (.inr rfl)).trans rfl))))))
  · refine (if_neg o10).trans (bz rd_c10 ((if_pos rfl).trans (bz rd_c8 (bz rd_c11 ((if_pos t1).trans (bz rd_c8 ((if_pos t2).trans ((if_pos t3).trans (bz rd_c4 ((if_pos t4).trans (bz rd_c2 ((if_pos q0).trans (bz (rd_c3 d4 d6) ((if_pos q1).trans (if_neg ?_)))))))))))))))
    show ¬ (60 : Int32) < rsum (fun f => nI (coF x.2.2.2.2.1 f)) 6
    rw [q0]
    exact nI_nlt (a := 60) hcn (by omega)
  · refine (if_neg o10).trans ((if_pos ?_).trans ((if_pos ?_).trans (if_neg (of_le hf hc))))
    · show nI (nsum (ctK x.2.2.2.2.1) 48) = rsum (fun f => nI (coF x.2.2.2.2.1 f)) 6
      rw [q0, q2]
    · exact q1.symm
