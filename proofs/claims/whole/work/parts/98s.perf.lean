/-! perform -/
theorem Out.tr {S S1 S2 : AF} {B : Nat} (h1 : Out S S1 B) (h2 : Out S1 S2 B) : Out S S2 B := fun i hi => (h2 i hi).trans (h1 i hi)
theorem sim_performed {cc e : Nat} {x : SD} {M : MD} {k f c hh wt co wi : Int32} (h : RX cc x M.1 5010) (hc : cc < 2 ^ 29) (he : e ≤ 40) (hE : ENT M.2.2.2.2.2.2.2.1 e k f c hh wt co wi) (y : Int32 × Int32 × Int32) (w : PD) (a o : Int32) : ∃ (r : Int32) (x' : SD) (S' : AF), fX8_performed y x (pdF w a o k f c hh wt co wi) = some (r, x') ∧ fX9_performs M (nI e) = some (r, (S', M.2)) ∧ RX (cc + 2997) x' S' 5010 ∧ Out M.1 S' 5010 := by
  obtain ⟨N, D, h⟩ := h
  have i1 : ((6 * nI e) + 1).toNatClampNeg = 6 * e + 1 := sx he 1 (by omega)
  have i2 : ((6 * nI e) + 2).toNatClampNeg = 6 * e + 2 := sx he 2 (by omega)
  have i3 : ((6 * nI e) + 3).toNatClampNeg = 6 * e + 3 := sx he 3 (by omega)
  have i4 : ((6 * nI e) + 4).toNatClampNeg = 6 * e + 4 := sx he 4 (by omega)
  have i5 : ((6 * nI e) + 5).toNatClampNeg = 6 * e + 5 := sx he 5 (by omega)
  rcases hE with ⟨rfl, t0, rfl, rfl, rfl, rfl, rfl⟩ | ⟨rfl, t0, rfl, rfl⟩ | ⟨rfl, t0, rfl⟩ | ⟨rfl, t0⟩
  · obtain ⟨r, x', S', e1, e2, e3, e4, -⟩ := sim_placeBid (sl := 6) h (by omega) (by omega) (M.2.2.2.2.2.2.2.1 (6 * e + 1)) (M.2.2.2.2.2.2.2.1 (6 * e + 2)) (M.2.2.2.2.2.2.2.1 (6 * e + 3)) (M.2.2.2.2.2.2.2.1 (6 * e + 4)) (M.2.2.2.2.2.2.2.1 (6 * e + 5))
    refine ⟨r, x', S', ?_, ?_, ⟨N, D, e3.purse (by omega)⟩, e4⟩
    · unfold fX8_performed
      exact (if_pos rfl).trans (bind_of e1 rfl)
    · unfold fX9_performs
      rw [i1, i2, i3, i4, i5, sx0 he]
      refine ibp (sb0 he) ?_
      refine (if_pos t0).trans ?_
      refine ibp (sb he 1 (by omega)) ?_
      refine ibp (sb he 2 (by omega)) ?_
      refine ibp (sb he 3 (by omega)) ?_
      refine ibp (sb he 4 (by omega)) ?_
      refine ibp (sb he 5 (by omega)) ?_
      exact bind_of e2 rfl
  · obtain ⟨r, x', S', e1, e2, e3, e4, -⟩ := sim_setWind (sl := 6) h (by omega) (M.2.2.2.2.2.2.2.1 (6 * e + 1)) (M.2.2.2.2.2.2.2.1 (6 * e + 2))
    refine ⟨r, x', S', ?_, ?_, ⟨N, D, e3.purse (by omega)⟩, e4⟩
    · unfold fX8_performed
      refine (if_neg (show ¬ (101 : Int32) = 98 by decide)).trans ?_
      refine (if_neg (show ¬ (101 : Int32) = 99 by decide)).trans ?_
      refine (if_neg (show ¬ (101 : Int32) = 100 by decide)).trans ?_
      exact (if_pos rfl).trans (bne e1 rfl)
    · unfold fX9_performs
      rw [i1, i2, i3, i4, i5, sx0 he]
      refine ibp (sb0 he) ?_
      refine (if_neg (show ¬ M.2.2.2.2.2.2.2.1 (6 * e) = 98 by rw [t0]; decide)).trans ?_
      refine (if_neg (show ¬ M.2.2.2.2.2.2.2.1 (6 * e) = 99 by rw [t0]; decide)).trans ?_
      refine (if_neg (show ¬ M.2.2.2.2.2.2.2.1 (6 * e) = 100 by rw [t0]; decide)).trans ?_
      refine (if_pos t0).trans ?_
      refine ibp (sb he 1 (by omega)) ?_
      refine ibp (sb he 2 (by omega)) ?_
      exact bind_of e2 rfl
  · obtain ⟨r, x', S', e1, e2, ⟨N', e3⟩, e4, -⟩ := sim_endHour (sl := 6) h hc (by omega) (M.2.2.2.2.2.2.2.1 (6 * e + 1))
    refine ⟨r, x', S', ?_, ?_, ⟨N', D, e3⟩, e4⟩
    · unfold fX8_performed
      refine (if_neg (show ¬ (100 : Int32) = 98 by decide)).trans ?_
      refine (if_neg (show ¬ (100 : Int32) = 99 by decide)).trans ?_
      exact (if_pos rfl).trans (bind_of e1 rfl)
    · unfold fX9_performs
      rw [i1, i2, i3, i4, i5, sx0 he]
      refine ibp (sb0 he) ?_
      refine (if_neg (show ¬ M.2.2.2.2.2.2.2.1 (6 * e) = 98 by rw [t0]; decide)).trans ?_
      refine (if_neg (show ¬ M.2.2.2.2.2.2.2.1 (6 * e) = 99 by rw [t0]; decide)).trans ?_
      refine (if_pos t0).trans ?_
      refine ibp (sb he 1 (by omega)) ?_
      exact bind_of e2 rfl
  · obtain ⟨r, x', S', e1, e2, ⟨N', D', e3⟩, e4, -⟩ := sim_beginDay (sl := 6) h (by omega)
    refine ⟨r, x', S', ?_, ?_, ⟨N', D', e3.purse (by omega)⟩, e4⟩
    · unfold fX8_performed
      refine (if_neg (show ¬ (110 : Int32) = 98 by decide)).trans ?_
      refine (if_neg (show ¬ (110 : Int32) = 99 by decide)).trans ?_
      refine (if_neg (show ¬ (110 : Int32) = 100 by decide)).trans ?_
      refine (if_neg (show ¬ (110 : Int32) = 101 by decide)).trans ?_
      exact bne e1 rfl
    · unfold fX9_performs
      rw [i1, i2, i3, i4, i5, sx0 he]
      refine ibp (sb0 he) ?_
      refine (if_neg (show ¬ M.2.2.2.2.2.2.2.1 (6 * e) = 98 by rw [t0]; decide)).trans ?_
      refine (if_neg (show ¬ M.2.2.2.2.2.2.2.1 (6 * e) = 99 by rw [t0]; decide)).trans ?_
      refine (if_neg (show ¬ M.2.2.2.2.2.2.2.1 (6 * e) = 100 by rw [t0]; decide)).trans ?_
      refine (if_neg (show ¬ M.2.2.2.2.2.2.2.1 (6 * e) = 101 by rw [t0]; decide)).trans ?_
      exact bind_of e2 rfl
theorem lp_perf {w : PD} {y : Int32 × Int32 × Int32} {u : HDT} {xB : SD} {E cc : Nat} {z : Int32 × PD} (hz : z.1 = nI E) (hE : E ≤ 40) (hc : cc + 2997 * 40 < 2 ^ 29) : ∀ (n e i : Nat) (x : SD) (M : MD) (k f c hh wt co wi : Int32) (fu fv : Nat), e + n = E → n < fu → n < fv → M.2.2.2.2.2.2.2.2.1 = nI E → TRC w M.2.2.2.2.2.2.2.1 n i e → RX (cc + 2997 * e) x M.1 5010 → ∃ (i' : Nat) (x' : SD) (S' : AF) (k' f' c' hh' wt' co' wi' : Int32), Out M.1 S' 5010 ∧ ((fX8_perform_L0 z fu (nI e) y x xB u (pdF w (nI i) 0 k f c hh wt co wi) = some (Sum.inl (y, x', xB, u, pdF w (nI i') 0 k' f' c' hh' wt' co' wi')) ∧ fX9_perform_L0 fv (nI e) M = some (Sum.inl (S', M.2)) ∧ RX (cc + 2997 * E) x' S' 5010) ∨ ∃ (a : Nat) (r : Int32), a ≤ 40 ∧ fX8_perform_L0 z fu (nI e) y x xB u (pdF w (nI i) 0 k f c hh wt co wi) = some (Sum.inr (nI a, r, y, x', xB, u, pdF w (nI i') 0 k' f' c' hh' wt' co' wi')) ∧ fX9_perform_L0 fv (nI e) M = some (Sum.inr (nI a, r, (S', M.2)))) := by
  intro n
  induction n with
  | zero =>
    intro e i x M k f c hh wt co wi fu fv h1 h2 h3 h4 h5 h6
    obtain ⟨fu, rfl⟩ : ∃ q, fu = q + 1 := ⟨fu - 1, by omega⟩
    obtain ⟨fv, rfl⟩ : ∃ q, fv = q + 1 := ⟨fv - 1, by omega⟩
    have e1 : e = E := by omega
    subst e1
    refine ⟨i, x, M.1, k, f, c, hh, wt, co, wi, fun _ _ => rfl, .inl ⟨?_, ?_, h6⟩⟩
    · rw [fX8_perform_L0]
      exact if_pos (show z.1 ≤ nI e by rw [hz]; exact Int32.le_refl _)
    · rw [fX9_perform_L0]
      exact if_pos (show M.2.2.2.2.2.2.2.2.1 ≤ nI e by rw [h4]; exact Int32.le_refl _)
  | succ n ih =>
    intro e i x M k f c hh wt co wi fu fv h1 h2 h3 h4 h5 h6
    obtain ⟨fu, rfl⟩ : ∃ q, fu = q + 1 := ⟨fu - 1, by omega⟩
    obtain ⟨fv, rfl⟩ : ∃ q, fv = q + 1 := ⟨fv - 1, by omega⟩
    obtain ⟨i2, p1, p2⟩ := h5
    obtain ⟨k2, f2, c2, hh2, wt2, co2, wi2, q1, q2⟩ := p1 k f c hh wt co wi
    obtain ⟨r, x', S', e1, e2, e3, e4⟩ := sim_performed h6 (by omega) (by omega) (q2 rfl) y w (nI i2) (okc true)
    have d1 : fX8_perform_L0 z (fu + 1) (nI e) y x xB u (pdF w (nI i) 0 k f c hh wt co wi) = (if 0 ≤ r then fX8_perform_L0 z fu (nI (e + 1)) y x' xB u (pdF w (nI i2) 0 k2 f2 c2 hh2 wt2 co2 wi2) else (if r = (-5) then fX8_perform_L0 z fu (nI (e + 1)) y x' xB u (pdF w (nI i2) 0 k2 f2 c2 hh2 wt2 co2 wi2) else some (Sum.inr (nI e, r, y, x', xB, u, pdF w (nI i2) 0 k2 f2 c2 hh2 wt2 co2 wi2)))) := by
      rw [fX8_perform_L0]
      refine (if_neg (show ¬ z.1 ≤ nI e by rw [hz]; exact nI_ge (by omega) (by omega))).trans ?_
      rw [nI_1]
      exact bind_of q1 (bind_of e1 rfl)
    have d2 : fX9_perform_L0 (fv + 1) (nI e) M = (if 0 ≤ r then fX9_perform_L0 fv (nI (e + 1)) (S', M.2) else (if r = (-5) then fX9_perform_L0 fv (nI (e + 1)) (S', M.2) else some (Sum.inr (nI e, r, (S', M.2))))) := by
      rw [fX9_perform_L0]
      refine (if_neg (show ¬ M.2.2.2.2.2.2.2.2.1 ≤ nI e by rw [h4]; exact nI_ge (by omega) (by omega))).trans ?_
      rw [nI_1]
      exact bind_of e2 rfl
    have go := ih (e + 1) i2 x' (S', M.2) k2 f2 c2 hh2 wt2 co2 wi2 fu fv (by omega) (by omega) (by omega) h4 p2 (by rw [show cc + 2997 * (e + 1) = cc + 2997 * e + 2997 by omega]; exact e3)
    obtain ⟨i', x3, S3, k3, f3, c3, hh3, wt3, co3, wi3, g1, g2⟩ := go
    rw [d1, d2]
    by_cases z1 : 0 ≤ r
    · rw [if_pos z1, if_pos z1]
      exact ⟨i', x3, S3, k3, f3, c3, hh3, wt3, co3, wi3, e4.tr g1, g2⟩
    · rw [if_neg z1, if_neg z1]
      by_cases z2 : r = -5
      · rw [if_pos z2, if_pos z2]
        exact ⟨i', x3, S3, k3, f3, c3, hh3, wt3, co3, wi3, e4.tr g1, g2⟩
      · rw [if_neg z2, if_neg z2]
        exact ⟨i2, x', S', k2, f2, c2, hh2, wt2, co2, wi2, e4, .inr ⟨e, r, by omega, rfl, rfl⟩⟩
theorem m100 : ∀ i : Fin 81, ¬ (0 : Int32) ≤ (-100) - nI i.val := by decide +kernel
theorem sim_perform : SIM_perform INV := fun n X M hI hn => by
  have hI2 := INV_nop n X M hI hn
  have hcn := cN_lt hn
  have hT := hI.2.2.2.1
  obtain ⟨len, t1, t2, t3, t4⟩ := hT
  have h : RD0 len X.2.2.2.2.2 M := ⟨t1, t2, t3, t4⟩
  obtain ⟨i', en', k', f', c', hh', wt', co', wi', l1, l2⟩ := rd_all h
  rcases l2 with ⟨cn, u1, u2⟩ | ⟨E, u1, u2, u3, u4⟩
  · refine ⟨(-100) - nI i', X.1, X.2.1, X.2.2.1, X.2.2.2.1, pdF X.2.2.2.2.2 (nI i') 1 k' f' c' hh' wt' co' wi', mdE M (nI i') 0 en' cn, ?_, ?_, hI2.1, hI2.2.1, hI2.2.2.1, ⟨len, t1, t2, t3, t4⟩, hI2.2.2.2.2⟩
    · unfold fX8_perform
      refine bind_of u1 ?_
      exact if_neg (m100 ⟨i', by omega⟩)
    · unfold fX9_perform
      refine bind_of u2 ?_
      exact if_neg (nI_pos (by omega))
  · have hIE : INV n (X.1, X.2.1, X.2.2.1, X.2.2.2.1, X.2.2.2.2.1, X.2.2.2.2.2) (mdE M (nI i') 1 en' (nI E)) := ⟨hI.1, hI.2.1, hI.2.2.1, ⟨len, t1, t2, t3, t4⟩, hI.2.2.2.2⟩
    obtain ⟨N, D, h6⟩ := INV_six hIE
    have hc6 : cN n + 2997 * 40 < 2 ^ 29 := by omega
    obtain ⟨i2, x', S', k2, f2, c2, hh2, wt2, co2, wi2, g1, g2⟩ := lp_perf (w := X.2.2.2.2.2) (y := X.1) (u := X.2.2.2.1) (xB := X.2.1) (E := E) (cc := cN n) (z := (nI E, pdF X.2.2.2.2.2 (nI i') 0 k' f' c' hh' wt' co' wi')) rfl u3 hc6 E 0 0 X.2.1 (cpS M.1 0 6 835, (mdE M (nI i') 1 en' (nI E)).2) k' f' c' hh' wt' co' wi' 1000 1000 (by omega) (by omega) (by omega) rfl u4 ⟨N, D, h6⟩
    have cp : fX9_copies (mdE M (nI i') 1 en' (nI E)) 0 6 = some (cpS M.1 0 6 835, (mdE M (nI i') 1 en' (nI E)).2) := mm_copies (a := 0) (b := 6) (mdE M (nI i') 1 en' (nI E)) (by omega) (by omega) (by omega)
    rcases g2 with ⟨v1, v2, v3⟩ | ⟨a, r, v0, v1, v2⟩
    · have hIF : INV n (X.1, X.2.1, X.2.2.1, X.2.2.2.1, X.2.2.2.2.1, pdF X.2.2.2.2.2 (nI i2) 0 k2 f2 c2 hh2 wt2 co2 wi2) (mdE M (nI i') 1 en' (nI E)) := ⟨hI.1, hI.2.1, hI.2.2.1, ⟨len, t1, t2, t3, t4⟩, hI.2.2.2.2⟩
      obtain ⟨wh, M2, s1, s2, s3⟩ := settle hIF (r := nI E) (v3.to (by unfold cN; omega) (fun _ _ => rfl)) g1 (fun q => absurd q (nI_pos (by omega)))
      refine ⟨nI E, X.1, x', X.2.1, wh, pdF X.2.2.2.2.2 (nI i2) 0 k2 f2 c2 hh2 wt2 co2 wi2, M2, ?_, ?_, s3⟩
      · unfold fX8_perform
        refine bind_of u1 ?_
        refine (if_pos (show 0 ≤ nI E from nI_pos' (by omega))).trans ?_
        refine bne rfl ?_
        refine bind_of v1 ?_
        exact bind_of s1 rfl
      · unfold fX9_perform
        refine bind_of u2 ?_
        refine (if_pos (show (-1 : Int32) < 0 by decide)).trans ?_
        refine bind_of cp ?_
        refine bind_of v2 ?_
        exact bind_of s2 rfl
    · have e : ∀ i, i < 5010 → S' i = M.1 i := fun i hi => (g1 i (.inl hi)).trans (cpS_out (by omega))
      have hR := INV_row6 (S := S') hI e
      refine ⟨-4, (X.1.1, nI a, r), X.2.1, X.2.1, X.2.2.2.1, pdF X.2.2.2.2.2 (nI i2) 0 k2 f2 c2 hh2 wt2 co2 wi2, (S', M.2.1, M.2.2.1, M.2.2.2.1, M.2.2.2.2.1, nI i', 1, en', nI E, nI a, r), ?_, ?_, hR.1, hR.2.1, hR.2.2.1, ⟨len, t1, t2, t3, t4⟩, .inr ⟨a, by omega, rfl, rfl, rfl⟩⟩
      · unfold fX8_perform
        refine bind_of u1 ?_
        refine (if_pos (show 0 ≤ nI E from nI_pos' (by omega))).trans ?_
        refine bne rfl ?_
        exact bind_of v1 rfl
      · unfold fX9_perform
        refine bind_of u2 ?_
        refine (if_pos (show (-1 : Int32) < 0 by decide)).trans ?_
        refine bind_of cp ?_
        exact bind_of v2 rfl
