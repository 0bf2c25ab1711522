/-! the first digit, reference side; a whole number on both sides -/
def nbB (M : MD) (p2 a b : Int32) : Option (Int32 × MD) := (fX9_isNext M a b).bind (fun zq3 => (if zq3 = 0 then (bnd (M.2.2.2.2.2.1 + 0) (fun zv6 => ((fX9_number_L0 p2 1000 0 (mdS M zv6 zq3)).bind (fun zq14 => some (zq14.1, zq14.2))))) else (if ib M.2.2.2.2.2.1 80 = true then (bnd ((M.2.2.2.1 M.2.2.2.2.2.1.toNatClampNeg) - 48) (fun zv16 => (bnd (M.2.2.2.2.2.1 + 1) (fun zv18 => ((fX9_number_L0 p2 1000 zv16 (mdS M zv18 zq3)).bind (fun zq19 => some (zq19.1, zq19.2))))))) else none)))
theorem nbB_eq (M : MD) (p1 p2 : Int32) : fX9_number M p1 p2 = (if p1 ≤ 0 then (if 9 ≤ p2 then nbB M p2 48 57 else nbB M p2 48 (48 + p2)) else (if 9 ≤ p2 then nbB M p2 49 57 else nbB M p2 49 (48 + p2))) := rfl
theorem nbB_ok {len i : Nat} {ok : Bool} {w : PD} {M : MD} (h : RDR len i ok w M) {a b hi : Nat} (ha : 48 ≤ a) (ha2 : a ≤ 49) (hb : b ≤ 57) : (¬ (ok = true ∧ i < len ∧ ∃ q, a ≤ q ∧ q ≤ b ∧ M.2.2.2.1 i = nI q) ∧ nbB M (nI hi) (nI a) (nI b) = some (0, mdS M (nI i) 0)) ∨ (ok = true ∧ i < len ∧ ∃ q, a ≤ q ∧ q ≤ b ∧ M.2.2.2.1 i = nI q ∧ nbB M (nI hi) (nI a) (nI b) = (fX9_number_L0 (nI hi) 1000 (nI (q - 48)) (mdS M (nI (i + 1)) 1)).bind (fun zq14 => some (zq14.1, zq14.2))) := by
  have hn := rd_next h a b (by omega) (by omega)
  obtain ⟨h1, h2, h3, h4, h5, h6, h7, h8, h9⟩ := id h
  have zero : ∀ M', fX9_number_L0 (nI hi) 1000 0 M' = some (0, M') := fun M' => by
    show fX9_number_L0 (nI hi) (999 + 1) 0 M' = _
    rw [fX9_number_L0, if_pos (Int32.le_refl _)]
  unfold nbB
  rcases hn with ⟨n1, n2⟩ | ⟨n1, n2, n3, q, n4, n5, n6, n7⟩
  · refine .inl ⟨n2, ?_⟩
    rw [n1, Option.bind_some, if_pos (show (0 : Int32) = 0 from rfl)]
    simp only [bnd]
    rw [h8, Int32.add_zero, zero]
    rfl
  · refine .inr ⟨n2, n3, q, n5, n6, n7, ?_⟩
    rw [n1, Option.bind_some, if_neg o10, h8, if_pos (ib_nI (by omega) (by omega)), nI_clamp (by omega), n7]
    simp only [bnd]
    rw [show nI q - 48 = nI (q - 48) from pk_sub (b := 48) (by omega), nI_1]
theorem mm_number {len i : Nat} {ok : Bool} {w : PD} {M : MD} (h : RDR len i ok w M) {lo hi : Nat} (hlo : lo ≤ 1) (hhi : hi ≤ 999) : (¬ (ok = true ∧ i < len ∧ ∃ q, 48 + lo ≤ q ∧ q ≤ min 57 (48 + hi) ∧ M.2.2.2.1 i = nI q) ∧ fX9_number M (nI lo) (nI hi) = some (0, mdS M (nI i) 0)) ∨ (ok = true ∧ i < len ∧ ∃ q, 48 + lo ≤ q ∧ q ≤ min 57 (48 + hi) ∧ M.2.2.2.1 i = nI q ∧ fX9_number M (nI lo) (nI hi) = (fX9_number_L0 (nI hi) 1000 (nI (q - 48)) (mdS M (nI (i + 1)) 1)).bind (fun zq14 => some (zq14.1, zq14.2))) := by
  have key : fX9_number M (nI lo) (nI hi) = nbB M (nI hi) (nI (48 + lo)) (nI (min 57 (48 + hi))) := by
    rw [nbB_eq]
    rcases (show lo = 0 ∨ lo = 1 by omega) with rfl | rfl
    · rw [if_pos (show nI 0 ≤ 0 from Int32.le_refl _)]
      by_cases y : 9 ≤ hi
      · rw [if_pos (show (9 : Int32) ≤ nI hi from nI_le (a := 9) y (by omega)), show min 57 (48 + hi) = 57 by omega]
        rfl
      · rw [if_neg (show ¬ (9 : Int32) ≤ nI hi from nI_ge (b := 9) (by omega) (by omega)), show min 57 (48 + hi) = 48 + hi by omega, ← nI_add 48 hi]
        rfl
    · rw [if_neg (show ¬ nI 1 ≤ 0 from nI_nle (by omega) (by omega))]
      by_cases y : 9 ≤ hi
      · rw [if_pos (show (9 : Int32) ≤ nI hi from nI_le (a := 9) y (by omega)), show min 57 (48 + hi) = 57 by omega]
        rfl
      · rw [if_neg (show ¬ (9 : Int32) ≤ nI hi from nI_ge (b := 9) (by omega) (by omega)), show min 57 (48 + hi) = 48 + hi by omega, ← nI_add 48 hi]
        rfl
  rw [key]
  exact nbB_ok h (by omega) (by omega) (by omega)
theorem rd_number {len i : Nat} {ok : Bool} {w : PD} {M : MD} (h : RDR len i ok w M) {lo hi : Nat} (hlo : lo ≤ 1) (hhi : hi ≤ 999) : ∃ (n i' : Nat) (ok' : Bool), fX3_number w (nI lo) (nI hi) = some (nI n, pdS w (nI i') (okc ok')) ∧ fX9_number M (nI lo) (nI hi) = some (nI n, mdS M (nI i') (okr ok')) ∧ i ≤ i' ∧ i' ≤ len ∧ (ok' = true → i < i') ∧ n ≤ 999 := by
  have hc := cc_number (fu := 999) h hlo hhi
  have hm := mm_number h hlo hhi
  have hl := h.1
  rcases hc with ⟨c1, c2⟩ | ⟨c1, c2, q, c3, c4, c5, c6⟩
  · rcases hm with ⟨-, m2⟩ | ⟨m1, m2, q, m3, m4, m5, -⟩
    · refine ⟨0, i, false, ?_, m2, Nat.le_refl _, h.2.1, fun e => absurd e (by decide), by omega⟩
      unfold fX3_number
      rw [show fX3_number_L0 (nI lo) (nI hi) 1000 0 0 w = _ from c2]
      rfl
    · exact absurd ⟨m1, m2, q, m3, m4, m5⟩ c1
  · rcases hm with ⟨m1, -⟩ | ⟨m1, m2, q', m3, m4, m5, m6⟩
    · exact absurd ⟨c1, c2, q, c3, c4, c5⟩ m1
    · have e : q = q' := (nI_eq (by omega) (by omega)).mp (c5.symm.trans m5)
      subst e
      obtain ⟨n, i', k1, k2, k3, k4, k5, k6⟩ := rd_numL h (lo := lo) hhi 2 1 (i + 1) (q - 48) 999 1000 (by omega) (by omega) (by omega) (by omega) (fun z => by omega) (fun z => by omega) (by omega) (by omega)
      refine ⟨n, i', true, ?_, ?_, by omega, k2, fun _ => by omega, by omega⟩
      · unfold fX3_number
        rw [show fX3_number_L0 (nI lo) (nI hi) 1000 0 0 w = _ from c6, k5]
        rfl
      · rw [m6, k6]
        rfl
