/-! THE LAW answers true: its three loops -/
def LI (n : Nat) (x : SD) (u : HDT) : Prop := ∃ N D, D ≤ n ∧ CR (100 + 4000 * n) N D x ∧ HK u
def LJ (n N D : Nat) (x : SD) (u : HDT) : Prop := D ≤ n ∧ CR (100 + 4000 * n) N D x ∧ HK u
theorem cell_ok (xs : Nat → Int32) {L k : Nat} (hL : L ≤ 260) (hk : k < 2 ^ 30) : ∃ a : Nat, a < 2 ^ 31 ∧ fL_cell xs L (nI k) = some (nI a) := by
  unfold fL_cell
  by_cases z : nI L ≤ nI k
  · rw [if_pos z]
    obtain ⟨j, h1, h2⟩ := pk_andE ((42443 * (nI k - nI k / 4096 * 4096)) + 229) (m := 2147483647) 31 (by decide)
    exact ⟨j, h1, by rw [h2]⟩
  · rw [if_neg z]
    have hkL : k < L := by
      rcases Nat.lt_or_ge k L with q | q
      · exact q
      · exact absurd (nI_le q (by omega)) z
    obtain ⟨j, h1, h2⟩ := pk_andE (xs (nI k).toNatClampNeg) (m := 2147483647) 31 (by decide)
    rw [if_pos (ib_nI (by omega) hkL)]
    exact ⟨j, h1, by rw [h2]⟩
theorem law0 (xs : Nat → Int32) {L : Nat} (hL : L ≤ 260) (y : Int32 × Int32 × Int32) (w : PD) : ∀ (d k fu : Nat) (x xB : SD) (u : HDT), k + d = 28 → d < fu → LI k x u → ∃ (x' xB' : SD) (u' : HDT), fL_law_L0 xs L fu 1 (nI k) y x xB u w = some (1, y, x', xB', u', w) ∧ LI 28 x' u' := by
  intro d
  induction d with
  | zero =>
    intro k fu x xB u hk hf hI
    obtain ⟨fu, rfl⟩ : ∃ q, fu = q + 1 := ⟨fu - 1, by omega⟩
    have e : k = 28 := by omega
    subst e
    exact ⟨x, xB, u, by rw [fL_law_L0, if_pos (show (28 : Int32) ≤ nI 28 from Int32.le_refl _)], hI⟩
  | succ d ih =>
    intro k fu x xB u hk hf hI
    obtain ⟨fu, rfl⟩ : ∃ q, fu = q + 1 := ⟨fu - 1, by omega⟩
    obtain ⟨N, D, hD, h, hu⟩ := hI
    obtain ⟨a, ha, ec⟩ := cell_ok xs (k := k) hL (by omega)
    obtain ⟨r, x', xB', u', ea, hr, hcase⟩ := acts_ok (y := y) (xB := xB) h (by omega) (by omega) hu w ha
    rw [fL_law_L0, if_neg (show ¬ (28 : Int32) ≤ nI k from nI_ge (b := 28) (by omega) (by omega)), if_neg o10, ec, Option.bind_some, ea]
    simp only [rd_c14, rd_c10, rd_c2, rd_c1, Option.bind_some]
    have go : ∀ (x2 : SD) (u2 : HDT), LI (k + 1) x2 u2 → ∃ (x' xB'' : SD) (u' : HDT), ((((if (1 : Int32) = 0 then (some 0) else ((fL_hangs y x2 u2 w).bind (fun zq45 => (if zq45 = 0 then (some 0) else (some 1))))) : Option Int32).bind (fun zq43 => (fL_law_L0 xs L fu zq43 (nI k + 1) y x2 xB' u2 w)))) = some (1, y, x', xB'', u', w) ∧ LI 28 x' u' := fun x2 u2 h2 => by
      obtain ⟨N2, D2, hD2, h2', hu2⟩ := id h2
      rw [if_neg o10, hangs_ok h2' (by omega), Option.bind_some, if_neg o10, Option.bind_some, nI_1]
      exact ih (k + 1) fu x2 xB' u2 (by omega) (by omega) h2
    rcases hcase with ⟨h1, rfl, rfl⟩ | ⟨h1, ⟨N', D', hD', h'⟩, hs⟩
    · rw [if_pos h1, if_neg (Int32.not_lt.mpr hr), if_pos rfl, if_pos rfl, if_pos rfl, if_pos rfl, Option.bind_some]
      exact go x' u' ⟨N, D, by omega, h.le (by omega), hu⟩
    · rw [if_neg (Int32.not_lt.mpr h1)]
      have hn := hs.hk
      obtain ⟨⟨kk, k1, k2, k3⟩, -⟩ := hs
      have e4 : ((if u.1 = 4 then some 4 else some (u.1 + 1)) : Option Int32) = some u'.1 := by
        rw [k2, k3]
        by_cases z : kk = 4
        · subst z
          rfl
        · rw [if_neg (show ¬ nI kk = 4 from fun q => z ((nI_eq (b := 4) (by omega) (by omega)).mp q)), nI_1, Nat.min_eq_left (by omega)]
      rw [e4, Option.bind_some, if_pos rfl, Option.bind_some]
      exact go x' u' ⟨N', D', by omega, h'.le (by omega), hn⟩
theorem ofr {x : SD} {F C H w q : Nat} {c N D : Nat} (h : CR c N D x) (hc : c < 2 ^ 28) {e : Int32} (h1 : fX6_bidError x (nI F) (nI C) (nI H) (nI w) (nI q) = some e) (he : e < 0) {y : Int32 × Int32 × Int32} {xB : SD} {u : HDT} : fX8_wouldCost y x (nI F) (nI C) (nI H) (nI w) (nI q) = some e ∧ fX8_bid y x xB u (nI F) (nI C) (nI H) (nI w) (nI q) = some (e, x, x, u) := by
  constructor
  · unfold fX8_wouldCost
    rw [h1, Option.bind_some, if_neg (Int32.not_le.mpr he)]
  · unfold fX8_bid fX6_placeBid
    rw [h1, Option.bind_some, if_neg (Int32.not_le.mpr he), Option.bind_some, rec_no he, Option.bind_some]
/-- one of the four bids -/
theorem law1s {n N D : Nat} {y : Int32 × Int32 × Int32} {x xB : SD} {u : HDT} (w : PD) (hn : n ≤ 100) (hJ : LJ n N D x u) (hN : N < 16) {F C W q : Nat} (hF : F < 6) (hC : C < 3) (hW1 : 1 ≤ W) (hW2 : W ≤ 20 + 20 * C) (hq1 : 1 ≤ q) (hq2 : q ≤ 999) :
    ∃ (due r pu : Int32) (x1 xB1 : SD) (u1 : HDT), fX8_wouldCost y x (nI F) (nI C) (nI N) (nI W) (nI q) = some due ∧ fX8_bid y x xB u (nI F) (nI C) (nI N) (nI W) (nI q) = some (r, x1, xB1, u1) ∧ fX8_firm y x1 (nI F) 0 = some pu ∧
      ((r < 0 ∧ due = r ∧ LJ (n + 2) N D x1 u1) ∨ (0 ≤ r ∧ ∃ (g : Int32) (x2 xB2 : SD) (u2 : HDT), fX8_award y x1 xB1 u1 (nI C) (nI N) = some (g, x2, xB2, u2) ∧ LJ (n + 2) N D x2 u2 ∧ ((due < 0 ∧ ¬ g = nI F) ∨ (0 ≤ due ∧ g = nI F ∧ fX8_slot y x2 (nI C) (nI N) 2 = some due ∧ fX8_firm y x2 (nI F) 0 = some (pu - due) ∧ ¬ nI q < due)))) := by
  obtain ⟨hD, h, hu⟩ := hJ
  have hc : 100 + 4000 * n < 2 ^ 28 := by omega
  obtain ⟨e, e1, e3⟩ := cr_bidError h hc (nI F) (nI C) (nI N) (nI W) (nI q)
  rcases e3 with ⟨e3, e4⟩ | ⟨rfl, F', C', H', w', q', p, hF', hC', hH', hw1, hw2, hq1', hq2', eF, eC, eH, eW, eq, hN', ho, hz, hp, hpc, hpo, hcn⟩
  · obtain ⟨a1, a2⟩ := ofr h hc e1 e3 (y := y) (xB := xB) (u := u)
    exact ⟨e, e, _, x, x, u, a1, a2, rd_f0 hF, .inl ⟨e3, rfl, by omega, h.le (by omega), hu⟩⟩
  · have i1 : F = F' := (nI_eq (by omega) (by omega)).mp eF
    have i2 : C = C' := (nI_eq (by omega) (by omega)).mp eC
    have i3 : N = H' := (nI_eq (by omega) (by omega)).mp eH
    have i4 : W = w' := (nI_eq (by omega) (by omega)).mp eW
    have i5 : q = q' := (nI_eq (by omega) (by omega)).mp eq
    subst i1 i2 i3 i4 i5
    have hK : C * 16 + N < 48 := by omega
    have hPn : ¬ (C * 16 + N) % 16 < N := by omega
    obtain ⟨k, hk, e5⟩ := cr_place hF hC hN e1
    obtain ⟨due, d1, d2⟩ := would_ok h (w := W) hF hC hN hq1 hq2 hz
    have hB : CR (100 + 4000 * n) N D (biX x F (C * 16 + N) W q) := CI_bid h (by omega) hF hK hW1 (by rw [show (C * 16 + N) / 16 = C by omega]; exact hW2) hq2 hPn ho hz hp hpc hpo hcn
    obtain ⟨u1, r1, r2⟩ := rec_yes (y := y) (x := x) (r := nI k) (nI_pos' (by omega)) hu
    have hu1 := r2.hk
    refine ⟨due, nI k, x.2.2.2.2.2.2.1.1 F, biX x F (C * 16 + N) W q, x, u1, ?_, ?_, rd_f0 hF, .inr ⟨nI_pos' (by omega), ?_⟩⟩
    · unfold fX8_wouldCost
      rw [e1, Option.bind_some, if_pos (Int32.le_refl _), d1, Option.bind_some]
    · unfold fX8_bid
      rw [e5, Option.bind_some, r1, Option.bind_some]
    have hop : ¬ fX6_isOpen (biX x F (C * 16 + N) W q) (nI C) (nI N) = 0 := by
      have hov := cc_over (h := N) hB.1.2.1 hB.1.2.2 hN
      rw [if_pos (Nat.le_refl _)] at hov
      unfold fX6_isOpen
      rw [if_pos hov, slot_nI]
      unfold fX5_isAwarded
      have ho' : (biX x F (C * 16 + N) W q).2.2.2.2.2.1.1 (C * 16 + N) = -5 := ho
      rw [rat_nI hK (by omega), if_pos (if_pos ho')]
      exact o10
    obtain ⟨g, x2, a1, a2, a3, a4⟩ := cr_award hB (by omega) hC hN hPn
    have a2' : CR (100 + 4000 * n) N D x2 := by
      unfold CR
      rw [a3]
      exact a2
    have eaw : ∀ xB1 : SD, ∃ u2 : HDT, HK u2 ∧ fX8_award y (biX x F (C * 16 + N) W q) xB1 u1 (nI C) (nI N) = some (g, x2, biX x F (C * 16 + N) W q, u2) := fun xB1 => by
      have e6 : fX6_awardEarly (biX x F (C * 16 + N) W q) (nI C) (nI N) = some (g, x2) := by
        unfold fX6_awardEarly
        rw [if_neg (slot1 hC hN), if_neg hop, a1, Option.bind_some]
      unfold fX8_award
      rw [e6, Option.bind_some]
      rcases a4 with ⟨rfl, -⟩ | a4
      · exact ⟨u1, hu1, bz' (rec_no (r := -5) (by decide)) rfl⟩
      · obtain ⟨u2, b1, b2⟩ := rec_yes (y := y) (x := biX x F (C * 16 + N) W q) a4 hu1
        exact ⟨u2, b2.hk, by rw [b1, Option.bind_some]⟩
    obtain ⟨u2, hu2, e7⟩ := eaw x
    refine ⟨g, x2, _, u2, e7, ⟨by omega, a2'.le (by omega), hu2⟩, ?_⟩
    rcases d2 with ⟨rfl, d3⟩ | ⟨d3, d4, d5, d6⟩
    · refine .inl ⟨by decide, fun eg => ?_⟩
      cases hw : bst (msk (biX x F (C * 16 + N) W q).2.2.2.2.1 (hvv x C N) (C * 16 + N)) (fun _ => true) 6 with
      | none =>
        have e8 := cr_aw0 (x := biX x F (C * 16 + N) W q) hC hN hw
        rw [a1] at e8
        have e9 := congrArg Prod.fst (Option.some.inj e8)
        dsimp only at e9
        rw [eg] at e9
        exact n5_nI (by omega) e9
      | some g' =>
        have hg' := (bst_some hw).1
        have e8 := cr_aw (x := biX x F (C * 16 + N) W q) hC hN hg' hw
        rw [a1] at e8
        have e9 := congrArg Prod.fst (Option.some.inj e8)
        dsimp only at e9
        rw [eg] at e9
        exact d3 g' hw ((nI_eq (by omega) (by omega)).mp e9).symm
    · have e8 := cr_aw (x := biX x F (C * 16 + N) W q) hC hN hF d5
      rw [a1] at e8
      have e9 := Option.some.inj e8
      have eg := congrArg Prod.fst e9
      have ex := congrArg Prod.snd e9
      dsimp only at eg ex
      have d6' : hif (msk (biX x F (C * 16 + N) W q).2.2.2.2.1 (hvv (biX x F (C * 16 + N) W q) C N) (C * 16 + N)) (fun f => !decide (nI f = nI F)) 6 = due := d6
      rw [d6'] at ex
      refine .inr ⟨d3, eg, ?_, ?_, d4⟩
      · rw [rd_s2 hC hN, ex]
        show some (upd _ _ _ _) = _
        rw [upd_s]
      · rw [rd_f0 hF, ex]
        show some (upd _ _ _ _) = _
        rw [upd_s]
        rfl
theorem law1 (xs : Nat → Int32) {L : Nat} (hL : L ≤ 260) (y : Int32 × Int32 × Int32) (w : PD) {N D : Nat} (h16 : N ≤ 16) : ∀ (d k fu : Nat) (x xB : SD) (u : HDT), k + d = 4 → d < fu → LJ (28 + 2 * k) N D x u → ∃ (x' xB' : SD) (u' : HDT), fL_law_L1 xs L (nI N) fu 1 (nI k) y x xB u w = some (1, y, x', xB', u', w) ∧ LJ 36 N D x' u' := by
  intro d
  induction d with
  | zero =>
    intro k fu x xB u hk hf hI
    obtain ⟨fu, rfl⟩ : ∃ q, fu = q + 1 := ⟨fu - 1, by omega⟩
    have e : k = 4 := by omega
    subst e
    exact ⟨x, xB, u, by rw [fL_law_L1, if_pos ler4], hI⟩
  | succ d ih =>
    intro k fu x xB u hk hf hI
    obtain ⟨fu, rfl⟩ : ∃ q, fu = q + 1 := ⟨fu - 1, by omega⟩
    rw [fL_law_L1, if_neg (nle4 (by omega)), if_neg o10]
    by_cases z : N = 16
    · subst z
      rw [if_pos ler16]
      exact ⟨x, xB, u, rfl, by have := hI.1; omega, hI.2.1.le (by omega), hI.2.2⟩
    rw [if_neg (nle16 (by omega)), show (30 : Int32) + nI k = nI (30 + k) from nI_add 30 k]
    obtain ⟨a, ha, ec⟩ := cell_ok xs (k := 30 + k) hL (by omega)
    have e1 : nI a - nI a / 6 * 6 = nI (a % 6) := pk_rem (d := 6) ha (by omega) (by omega)
    have e2 : nI a / 8 - nI a / 8 / 3 * 3 = nI (a / 8 % 3) := by
      rw [show nI a / 8 = nI (a / 8) from pk_div (d := 8) ha (by omega) (by omega)]
      exact pk_rem (d := 3) (by omega) (by omega) (by omega)
    have e3 : (20 : Int32) + 20 * nI (a / 8 % 3) = nI (20 + 20 * (a / 8 % 3)) := by rw [show (20 : Int32) = nI 20 from rfl, pk_mul, nI_add]
    have e4 : (1 : Int32) + (nI a / 32 - nI a / 32 / nI (20 + 20 * (a / 8 % 3)) * nI (20 + 20 * (a / 8 % 3))) = nI (1 + a / 32 % (20 + 20 * (a / 8 % 3))) := by
      rw [show nI a / 32 = nI (a / 32) from pk_div (d := 32) ha (by omega) (by omega), pk_rem (by omega) (by omega) (by omega), show (1 : Int32) = nI 1 from rfl, nI_add]
    have e5 : (1 : Int32) + (nI a / 4096 - nI a / 4096 / 90 * 90) = nI (1 + a / 4096 % 90) := by
      rw [show nI a / 4096 = nI (a / 4096) from pk_div (d := 4096) ha (by omega) (by omega), show nI (a / 4096) - nI (a / 4096) / 90 * 90 = nI (a / 4096 % 90) from pk_rem (d := 90) (by omega) (by omega) (by omega), show (1 : Int32) = nI 1 from rfl, nI_add]
    have hF : a % 6 < 6 := Nat.mod_lt _ (by omega)
    have hC : a / 8 % 3 < 3 := Nat.mod_lt _ (by omega)
    have hW : a / 32 % (20 + 20 * (a / 8 % 3)) < 20 + 20 * (a / 8 % 3) := Nat.mod_lt _ (by omega)
    have hq : a / 4096 % 90 < 90 := Nat.mod_lt _ (by omega)
    rw [ec, Option.bind_some]
    simp only [bnd]
    rw [e2, e3, if_neg (nI_ne0 (by omega) (by omega)), e1, e4, e5]
    generalize a % 6 = F at hF ⊢
    generalize a / 32 % (20 + 20 * (a / 8 % 3)) = W at hW ⊢
    generalize a / 8 % 3 = C at hC hW ⊢
    generalize a / 4096 % 90 = q at hq ⊢
    obtain ⟨due, r, pu, x1, xB1, u1, s1, s2, s3, s4⟩ := law1s (y := y) (xB := xB) w (by omega) hI (by omega) hF hC (W := 1 + W) (by omega) (by omega) (q := 1 + q) (by omega) (by omega)
    rw [s1, Option.bind_some, s2, Option.bind_some]
    dsimp only
    rw [s3, Option.bind_some]
    have go : ∀ (x2 xB2 : SD) (u2 : HDT), LJ (28 + 2 * k + 2) N D x2 u2 → ∃ (x' xB'' : SD) (u' : HDT), ((((if (1 : Int32) = 0 then (some 0) else ((fL_hangs y x2 u2 w).bind (fun zq77 => (if zq77 = 0 then (some 0) else (some 1))))) : Option Int32).bind (fun zq75 => (fL_law_L1 xs L (nI N) fu zq75 (nI k + 1) y x2 xB2 u2 w)))) = some (1, y, x', xB'', u', w) ∧ LJ 36 N D x' u' := fun x2 xB2 u2 h2 => by
      rw [if_neg o10, hangs_ok h2.2.1 (by omega), Option.bind_some, if_neg o10, Option.bind_some, nI_1]
      exact ih (k + 1) fu x2 xB2 u2 (by omega) (by omega) h2
    rcases s4 with ⟨t1, t2, t3⟩ | ⟨t1, g, x2, xB2, u2, t2, t3, t4⟩
    · rw [if_neg (Int32.not_le.mpr t1), if_pos t2, Option.bind_some, Option.bind_some]
      exact go x1 xB1 u1 t3
    · rw [if_pos t1, t2, Option.bind_some]
      dsimp only
      rcases t4 with ⟨v1, v2⟩ | ⟨v1, v2, v3, v4, v5⟩
      · rw [if_pos v1, if_neg v2, Option.bind_some, Option.bind_some]
        exact go x2 xB2 u2 t3
      · rw [if_neg (Int32.not_lt.mpr v1), if_pos v2, v3, Option.bind_some, if_pos rfl, v4, Option.bind_some, if_pos rfl, if_neg v5, Option.bind_some, Option.bind_some]
        exact go x2 xB2 u2 t3
theorem law2 (y : Int32 × Int32 × Int32) (w : PD) {N D M : Nat} (hM : N + M = 16) : ∀ (d k fu : Nat) (x xB : SD) (u : HDT), k + d = M → d < fu → LJ (36 + k) (N + k) D x u → ∃ (x' xB' : SD) (u' : HDT), fL_law_L2 (nI M) fu 1 (nI k) y x xB u w = some (1, y, x', xB', u', w) ∧ LJ 52 16 D x' u' := by
  intro d
  induction d with
  | zero =>
    intro k fu x xB u hk hf hI
    obtain ⟨fu, rfl⟩ : ∃ q, fu = q + 1 := ⟨fu - 1, by omega⟩
    have e : k = M := by omega
    subst e
    rw [hM] at hI
    exact ⟨x, xB, u, by rw [fL_law_L2, if_pos (Int32.le_refl _)], by have := hI.1; omega, hI.2.1.le (by omega), hI.2.2⟩
  | succ d ih =>
    intro k fu x xB u hk hf hI
    obtain ⟨fu, rfl⟩ : ∃ q, fu = q + 1 := ⟨fu - 1, by omega⟩
    obtain ⟨hD, h, hu⟩ := hI
    obtain ⟨dd, x', hd, e, h'⟩ := cr_end h (by omega) (by omega) (wd := k) (by omega)
    obtain ⟨u', r1, r2⟩ := rec_yes (y := y) (x := x) (r := nI dd) (nI_pos' (by omega)) hu
    have e2 : fX8_done y x xB u (nI k) = some (nI dd, x', x, u') := by
      unfold fX8_done
      rw [e, Option.bind_some, r1, Option.bind_some]
    rw [fL_law_L2, if_neg (nI_ge (by omega) (by omega)), if_neg o10, e2, Option.bind_some]
    dsimp only
    rw [if_neg (nI_pos (by omega)), Option.bind_some, nI_1]
    exact ih (k + 1) fu x' x u' (by omega) (by omega) ⟨by omega, h'.le (by omega), r2.hk⟩
theorem cnt_0 {c D : Nat} {x : SD} (h : CR c 16 D x) : cntB x.2.2.2.2.1.2 = 0 := by
  unfold cntB
  refine nsum_eq0 (fun f hf => nsum_eq0 (fun k hk => ?_))
  obtain ⟨o, w, h1, h2, h3, h4, h5⟩ := h.2.2.1 f k hf hk
  rw [h2]
  exact (pos1n_nI h1).mpr (h5 (.inl (Nat.mod_lt _ (by omega))))
