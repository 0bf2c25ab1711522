theorem RDR.at {len i0 i : Nat} {ok0 ok : Bool} {w : PD} {M : MD} (h : RDR len i0 ok0 w M) (hi : i ≤ len) : RDR len i ok (pdS w (nI i) (okc ok)) (mdS M (nI i) (okr ok)) := ⟨h.1, hi, h.2.2.1, h.2.2.2.1, h.2.2.2.2.1, rfl, rfl, rfl, rfl⟩
theorem rd_numL {len i0 : Nat} {ok0 : Bool} {w : PD} {M : MD} (h : RDR len i0 ok0 w M) {lo hi : Nat} (hhi : hi ≤ 999) : ∀ (d dg i a fu fv : Nat), dg + d = 3 → 1 ≤ dg → i ≤ len → a ≤ hi → (3 ≤ dg → 100 ≤ a) → (2 ≤ dg → 10 ≤ a) → d < fu → d < fv → ∃ n i', i ≤ i' ∧ i' ≤ len ∧ n ≤ hi ∧ a ≤ n ∧ fX3_number_L0 (nI lo) (nI hi) fu (nI a) (nI dg) (pdS w (nI i) 0) = some (nI n, pdS w (nI i') 0) ∧ fX9_number_L0 (nI hi) fv (nI a) (mdS M (nI i) 1) = some (nI n, mdS M (nI i') 1) := by
  intro d
  induction d with
  | zero =>
    intro dg i a fu fv h1 h2 h3 h4 h5 h6 h7 h8
    obtain ⟨fu, rfl⟩ : ∃ q, fu = q + 1 := ⟨fu - 1, by omega⟩
    obtain ⟨fv, rfl⟩ : ∃ q, fv = q + 1 := ⟨fv - 1, by omega⟩
    have hr := RDR.at (ok := true) h h3
    refine ⟨a, i, Nat.le_refl _, h3, h4, Nat.le_refl _, ?_, ?_⟩
    · rw [fX3_number_L0, if_pos (show (pdS w (nI i) 0).2.2.2.1 = 0 from rfl), if_pos (show (3 : Int32) ≤ nI dg from nI_le (a := 3) (by omega) (by omega))]
    · rw [fX9_number_L0, if_neg (nI_nle (by have := h5 (by omega); omega) (by omega))]
      rcases rd_next hr 48 57 (by omega) (by omega) with ⟨n1, -⟩ | ⟨n1, -, n3, q, n4, n5, n6, n7⟩
      · rw [show fX9_isNext (mdS M (nI i) 1) 48 57 = _ from n1, Option.bind_some, if_pos (show (0 : Int32) = 0 from rfl)]
      · rw [show fX9_isNext (mdS M (nI i) 1) 48 57 = _ from n1, Option.bind_some, if_neg o10, if_pos (show ib (mdS M (nI i) 1).2.2.2.2.2.1 80 = true from ib_nI (by omega) (by have := h.1; omega))]
        rw [show (mdS M (nI i) 1).2.2.2.1 (mdS M (nI i) 1).2.2.2.2.2.1.toNatClampNeg = nI q by
          show M.2.2.2.1 (nI i).toNatClampNeg = _
          rw [nI_clamp (by have := h.1; omega)]
          exact n7]
        rw [if_pos (show nI hi < ((10 * nI a) + nI q) - 48 by
          rw [show (10 : Int32) = nI 10 from rfl, show (48 : Int32) = nI 48 from rfl, pk_mul, nI_add, pk_sub (by omega)]
          have := h5 (by omega)
          exact nI_lt (by omega) (by omega))]
  | succ d ih =>
    intro dg i a fu fv h1 h2 h3 h4 h5 h6 h7 h8
    obtain ⟨fu, rfl⟩ : ∃ q, fu = q + 1 := ⟨fu - 1, by omega⟩
    obtain ⟨fv, rfl⟩ : ∃ q, fv = q + 1 := ⟨fv - 1, by omega⟩
    have hr := RDR.at (ok := true) h h3
    have hlen := h.1
    have hs := rd_sign hr
    have hn := rd_next hr 48 57 (by omega) (by omega)
    have stay : ∀ E1 E2, fX3_number_L0 (nI lo) (nI hi) (fu + 1) (nI a) (nI dg) (pdS w (nI i) 0) = E1 → fX9_number_L0 (nI hi) (fv + 1) (nI a) (mdS M (nI i) 1) = E2 → E1 = some (nI a, pdS w (nI i) 0) → E2 = some (nI a, mdS M (nI i) 1) → ∃ n i', i ≤ i' ∧ i' ≤ len ∧ n ≤ hi ∧ a ≤ n ∧ fX3_number_L0 (nI lo) (nI hi) (fu + 1) (nI a) (nI dg) (pdS w (nI i) 0) = some (nI n, pdS w (nI i') 0) ∧ fX9_number_L0 (nI hi) (fv + 1) (nI a) (mdS M (nI i) 1) = some (nI n, mdS M (nI i') 1) := fun E1 E2 a1 a2 a3 a4 => ⟨a, i, Nat.le_refl _, h3, h4, Nat.le_refl _, a1.trans a3, a2.trans a4⟩
    have hdg : ¬ nI dg = 0 := nI_ne0 (by omega) (by omega)
    have c0 : ∀ s : Int32, fX3_sign (pdS w (nI i) 0) = some s → fX3_number_L0 (nI lo) (nI hi) (fu + 1) (nI a) (nI dg) (pdS w (nI i) 0) = (if (s - 48) < 0 then some (nI a, pdS w (nI i) 0) else (if 9 < (s - 48) then some (nI a, pdS w (nI i) 0) else (if nI hi < ((nI a * 10) + (s - 48)) then some (nI a, pdS w (nI i) 0) else (if nI a = 0 then some (nI a, pdS w (nI i) 0) else fX3_number_L0 (nI lo) (nI hi) fu ((nI a * 10) + (s - 48)) (nI dg + 1) (pdS w (nI i + 1) 0))))) := fun s hs => by
      rw [fX3_number_L0, if_pos (show (pdS w (nI i) 0).2.2.2.1 = 0 from rfl), if_neg (nle3 (by omega)), hs, Option.bind_some]
      simp only [if_neg hdg]
      rfl
    by_cases ha : a = 0
    · subst ha
      have r0 : fX9_number_L0 (nI hi) (fv + 1) (nI 0) (mdS M (nI i) 1) = some (nI 0, mdS M (nI i) 1) := by
        rw [fX9_number_L0, if_pos (show nI 0 ≤ 0 from Int32.le_refl _)]
      refine stay _ _ rfl rfl ?_ r0
      rcases hs with ⟨-, s2⟩ | ⟨-, s2, -⟩
      · rw [c0 _ s2]
        rfl
      · rw [c0 _ s2]
        split
        · rfl
        · split
          · rfl
          · split
            · rfl
            · rfl
    have ha0 : ¬ nI a = 0 := nI_ne0 (by omega) (by omega)
    have hale : ¬ nI a ≤ 0 := nI_nle (by omega) (by omega)
    rcases hn with ⟨n1, n2⟩ | ⟨n1, -, n3, q, n4, n5, n6, n7⟩
    · have r0 : fX9_number_L0 (nI hi) (fv + 1) (nI a) (mdS M (nI i) 1) = some (nI a, mdS M (nI i) 1) := by
        rw [fX9_number_L0, if_neg hale, show fX9_isNext (mdS M (nI i) 1) 48 57 = _ from n1, Option.bind_some, if_pos (show (0 : Int32) = 0 from rfl)]
      refine stay _ _ rfl rfl ?_ r0
      rcases hs with ⟨-, s2⟩ | ⟨s1, s2, q, s3, s4⟩
      · rw [c0 _ s2]
        rfl
      · rw [c0 _ s2, s4]
        by_cases y : q < 48
        · rw [if_pos (show nI q - 48 < 0 from pk_sneg (b := 48) (by omega) y)]
        · rw [show nI q - 48 = nI (q - 48) from pk_sub (b := 48) (by omega), if_neg (nI_pos (by omega))]
          by_cases y2 : q ≤ 57
          · exact absurd ⟨rfl, s1, q, by omega, y2, s4⟩ n2
          · rw [if_pos (show (9 : Int32) < nI (q - 48) from nI_lt (a := 9) (by omega) (by omega))]
    · rcases hs with ⟨s1, s2⟩ | ⟨s1, s2, -⟩
      · omega
      have r0 : fX9_number_L0 (nI hi) (fv + 1) (nI a) (mdS M (nI i) 1) = (if nI hi < nI (10 * a + q - 48) then some (nI a, mdS M (nI i) 1) else fX9_number_L0 (nI hi) fv (nI (10 * a + q - 48)) (mdS M (nI (i + 1)) 1)) := by
        rw [fX9_number_L0, if_neg hale, show fX9_isNext (mdS M (nI i) 1) 48 57 = _ from n1, Option.bind_some, if_neg o10, if_pos (show ib (mdS M (nI i) 1).2.2.2.2.2.1 80 = true from ib_nI (by omega) (by omega))]
        rw [show (mdS M (nI i) 1).2.2.2.1 (mdS M (nI i) 1).2.2.2.2.2.1.toNatClampNeg = nI q by
          show M.2.2.2.1 (nI i).toNatClampNeg = _
          rw [nI_clamp (by omega)]
          exact n7]
        rw [show ((10 * nI a) + nI q) - 48 = nI (10 * a + q - 48) by rw [show (10 : Int32) = nI 10 from rfl, show (48 : Int32) = nI 48 from rfl, pk_mul, nI_add, pk_sub (by omega)]]
        simp only [bnd]
        rw [show (mdS M (nI i) 1).2.2.2.2.2.1 + 1 = nI (i + 1) from nI_1 i]
        rfl
      have e7 : M.2.2.2.1 i = nI q := n7
      have c1 := c0 _ s2
      rw [show (mdS M (nI i) (okr true)).2.2.2.1 i = nI q from n7, show nI q - 48 = nI (q - 48) from pk_sub (b := 48) (by omega), if_neg (nI_pos (by omega)), if_neg (show ¬ (9 : Int32) < nI (q - 48) from nI_nlt (a := 9) (by omega) (by omega)), show nI a * 10 + nI (q - 48) = nI (10 * a + q - 48) by rw [show (10 : Int32) = nI 10 from rfl, pk_mul, nI_add, show a * 10 + (q - 48) = 10 * a + q - 48 by omega], if_neg ha0, nI_1, nI_1] at c1
      by_cases y : hi < 10 * a + q - 48
      · rw [if_pos (nI_lt y (by omega))] at r0 c1
        exact stay _ _ c1 r0 rfl rfl
      · rw [if_neg (nI_nlt (by omega) (by omega))] at r0 c1
        obtain ⟨n, i', k1, k2, k3, k4, k5, k6⟩ := ih (dg + 1) (i + 1) (10 * a + q - 48) fu fv (by omega) (by omega) (by omega) (by omega) (fun z => by have := h6 (by omega); omega) (fun z => by omega) (by omega) (by omega)
        exact ⟨n, i', by omega, k2, k3, by omega, c1.trans k5, r0.trans k6⟩
