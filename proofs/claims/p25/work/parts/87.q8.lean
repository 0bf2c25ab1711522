/-! what a bid would cost is what it costs -/
theorem msk_of {x : BD} {hv a o : Int32} {K f : Nat} (h1 : x.1 (f * 48 + K) = a) (h2 : x.2 (f * 48 + K) = o) : msk x hv K f = if (!decide (hv < a)) = true then o else 0 := by
  subst h1 h2
  rfl
theorem would_ok {c N D : Nat} {x : SD} (h : CR c N D x) {F C H w q : Nat} (hF : F < 6) (hC : C < 3) (hH : H < 16) (hq1 : 1 ≤ q) (hq2 : q ≤ 999) (hz : x.2.2.2.2.1.2 (F * 48 + (C * 16 + H)) = 0) :
    ∃ due : Int32, fX6_priceOf x (nI F) (nI C) (nI H) (nI w) (nI q) = some due ∧
      ((due = -5 ∧ ∀ g, bst (msk (biX x F (C * 16 + H) w q).2.2.2.2.1 (hvv x C H) (C * 16 + H)) (fun _ => true) 6 = some g → g ≠ F) ∨ (0 ≤ due ∧ ¬ nI q < due ∧ bst (msk (biX x F (C * 16 + H) w q).2.2.2.2.1 (hvv x C H) (C * 16 + H)) (fun _ => true) 6 = some F ∧ hif (msk (biX x F (C * 16 + H) w q).2.2.2.2.1 (hvv x C H) (C * 16 + H)) (fun f => !decide (nI f = nI F)) 6 = due)) := by
  have hK : C * 16 + H < 48 := by omega
  have hbF : msk x.2.2.2.2.1 (hvv x C H) (C * 16 + H) F = 0 := by
    unfold msk
    rw [hz, ite_self]
  have he : ∀ f, f < 6 → f ≠ F → msk (biX x F (C * 16 + H) w q).2.2.2.2.1 (hvv x C H) (C * 16 + H) f = msk x.2.2.2.2.1 (hvv x C H) (C * 16 + H) f := fun f hf hne =>
    (msk_of (x := (biX x F (C * 16 + H) w q).2.2.2.2.1) (show upd _ _ _ _ = _ from upd_n (by omega)) (show upd _ _ _ _ = _ from upd_n (by omega))).trans (msk_of rfl rfl).symm
  have hb' : msk (biX x F (C * 16 + H) w q).2.2.2.2.1 (hvv x C H) (C * 16 + H) F = if (!decide (hvv x C H < nI w)) = true then nI q else 0 :=
    msk_of (x := (biX x F (C * 16 + H) w q).2.2.2.2.1) (show upd _ _ _ _ = _ from upd_s) (show upd _ _ _ _ = _ from upd_s)
  have hw := zr_win x.2.2.2.2.1 hK (hvv x C H)
  have hh := zr_hi x.2.2.2.2.1 hK (hvv x C H) (-5)
  rw [hif_true n5lt] at hh
  have hpos : (0 : Int32) < nI q := nI_lt (a := 0) (by omega) (by omega)
  have hexc := hif_exc hbF he (by omega) 6 (Nat.le_refl _)
  unfold fX6_priceOf
  rw [hvv_eq x hH, slot_nI]
  generalize hvv x C H = hv at hbF he hb' hw hh hexc ⊢
  generalize C * 16 + H = K at hK hbF he hb' hw hh hexc ⊢
  generalize msk (biX x F K w q).2.2.2.2.1 hv K = b' at he hb' hexc ⊢
  generalize msk x.2.2.2.2.1 hv K = b at hbF he hw hh hexc
  by_cases z : nI w ≤ hv
  case neg =>
    have z2 := Int32.not_le.mp z
    rw [if_neg z]
    refine ⟨-5, rfl, .inl ⟨rfl, fun g hg e => ?_⟩⟩
    subst e
    obtain ⟨-, -, -, q4⟩ := bst_some hg
    rw [hb', if_neg (by simp [z2])] at q4
    exact absurd q4 (by decide)
  have z2 : ¬ hv < nI w := Int32.not_lt.mpr z
  rw [if_pos (by simp [z2])] at hb'
  rw [if_pos z, hh, Option.bind_some, hw, Option.bind_some]
  obtain ⟨A1, A2, A3⟩ := bst_add hbF (by rw [hb']; exact hpos) he 6 (Nat.le_refl _) hF
  rw [hb'] at A1 A2 A3
  have hge : (0 : Int32) ≤ hif b (fun _ => true) 6 := hif_pos _ _ _
  rcases Int32.lt_or_le (hif b (fun _ => true) 6) (nI q) with y1 | y1
  · -- it bids most
    obtain ⟨j1, j2⟩ := A1 y1
    refine ⟨hif b (fun _ => true) 6, ?_, .inr ⟨hge, Int32.not_lt.mpr (Int32.le_of_lt y1), j2, hexc⟩⟩
    by_cases s : enc (-5) (bst b (fun _ => true) 6) ≤ nI F
    · rw [if_pos s, if_pos y1]
    · rw [if_neg s, if_pos y1]
  · rcases Int32.lt_or_eq_of_le y1 with y2 | y2
    · -- another one bids more
      obtain ⟨j1, j2⟩ := A3 y2
      have n1 : ¬ hif b (fun _ => true) 6 < nI q := Int32.not_lt.mpr y1
      have n2 : ¬ nI q = hif b (fun _ => true) 6 := fun e => by rw [← e] at y2; exact Int32.lt_irrefl y2
      refine ⟨-5, ?_, .inl ⟨rfl, fun g hg e => ?_⟩⟩
      · by_cases s : enc (-5) (bst b (fun _ => true) 6) ≤ nI F
        · rw [if_pos s, if_neg n1, if_neg n2]
        · rw [if_neg s, if_neg n1, if_neg n2]
      · subst e
        rw [j2] at hg
        obtain ⟨-, -, -, q4⟩ := bst_some hg
        rw [hbF] at q4
        exact absurd q4 (by decide)
    · -- as much as another one
      obtain ⟨j1, g, j2, j3, j4⟩ := A2 hpos y2.symm
      obtain ⟨hg6, -, -, -⟩ := bst_some j2
      have n1 : ¬ hif b (fun _ => true) 6 < nI q := Int32.not_lt.mpr y1
      rw [j2]
      show ∃ due : Int32, (if nI g ≤ nI F then _ else _) = _ ∧ _
      by_cases s : g < F
      · rw [if_pos (nI_le (by omega) (by omega)), if_neg n1, if_pos y2]
        rw [if_pos s] at j4
        exact ⟨-5, rfl, .inl ⟨rfl, fun g' hg' e => by rw [j4] at hg'; cases hg'; omega⟩⟩
      · rw [if_neg (nI_ge (by omega) (by omega)), if_neg n1, if_pos y2]
        rw [if_neg s] at j4
        exact ⟨_, rfl, .inr ⟨hge, by rw [← y2]; exact fun z => Int32.lt_irrefl z, j4, hexc⟩⟩
/-! the history; acts on the object -/
def HK (u : HDT) : Prop := ∃ k, k ≤ 4 ∧ u.1 = nI k
def HS (u u' : HDT) (y : SD) : Prop := (∃ k, k ≤ 4 ∧ u.1 = nI k ∧ u'.1 = nI (min (k + 1) 4)) ∧ ∀ z, ∃ u'', HK u'' ∧ fX2_takeLatest u' z = some (1, u'', y)
theorem HS.hk {u u' : HDT} {y : SD} (h : HS u u' y) : HK u' := by
  obtain ⟨⟨k, h1, h2, h3⟩, -⟩ := h
  exact ⟨min (k + 1) 4, Nat.min_le_right _ _, h3⟩
theorem st_step {u : HDT} {y : SD} (hu : HK u) : ∃ u', fX2_store u y = some u' ∧ HS u u' y := by
  obtain ⟨k, hk, e⟩ := hu
  obtain ⟨s, a0, a1, a2, a3⟩ := u
  have e : s = nI k := e
  subst e
  unfold fX2_store
  rcases (show k = 0 ∨ k = 1 ∨ k = 2 ∨ k = 3 ∨ k = 4 by omega) with rfl | rfl | rfl | rfl | rfl
  · exact ⟨_, (if_neg (show ¬ nI 0 = 4 by decide)).trans (if_pos rfl), ⟨0, by omega, rfl, rfl⟩, fun z => ⟨_, ⟨0, by omega, rfl⟩, (if_neg (show ¬ (1 : Int32) = 0 by decide)).trans (if_pos rfl)⟩⟩
  · exact ⟨_, (if_neg (show ¬ nI 1 = 4 by decide)).trans ((if_neg (show ¬ nI 1 = 0 by decide)).trans (if_pos rfl)), ⟨1, by omega, rfl, rfl⟩, fun z => ⟨_, ⟨1, by omega, rfl⟩, (if_neg (show ¬ (2 : Int32) = 0 by decide)).trans ((if_neg (show ¬ (2 : Int32) = 1 by decide)).trans (if_pos rfl))⟩⟩
  · exact ⟨_, (if_neg (show ¬ nI 2 = 4 by decide)).trans ((if_neg (show ¬ nI 2 = 0 by decide)).trans ((if_neg (show ¬ nI 2 = 1 by decide)).trans (if_pos rfl))), ⟨2, by omega, rfl, rfl⟩, fun z => ⟨_, ⟨2, by omega, rfl⟩, (if_neg (show ¬ (3 : Int32) = 0 by decide)).trans ((if_neg (show ¬ (3 : Int32) = 1 by decide)).trans ((if_neg (show ¬ (3 : Int32) = 2 by decide)).trans (if_pos rfl)))⟩⟩
  · exact ⟨_, (if_neg (show ¬ nI 3 = 4 by decide)).trans ((if_neg (show ¬ nI 3 = 0 by decide)).trans ((if_neg (show ¬ nI 3 = 1 by decide)).trans ((if_neg (show ¬ nI 3 = 2 by decide)).trans (if_pos rfl)))), ⟨3, by omega, rfl, rfl⟩, fun z => ⟨_, ⟨3, by omega, rfl⟩, (if_neg (show ¬ (4 : Int32) = 0 by decide)).trans ((if_neg (show ¬ (4 : Int32) = 1 by decide)).trans ((if_neg (show ¬ (4 : Int32) = 2 by decide)).trans ((if_neg (show ¬ (4 : Int32) = 3 by decide)).trans (if_pos rfl))))⟩⟩
  · exact ⟨_, if_pos rfl, ⟨4, by omega, rfl, rfl⟩, fun z => ⟨_, ⟨3, by omega, rfl⟩, (if_neg (show ¬ (4 : Int32) = 0 by decide)).trans ((if_neg (show ¬ (4 : Int32) = 1 by decide)).trans ((if_neg (show ¬ (4 : Int32) = 2 by decide)).trans ((if_neg (show ¬ (4 : Int32) = 3 by decide)).trans (if_pos rfl))))⟩⟩
theorem rec_no {y : Int32 × Int32 × Int32} {x : SD} {u : HDT} {r : Int32} (h : r < 0) : fX8_recorded y x u r = some (r, u) := if_pos h
theorem rec_yes {y : Int32 × Int32 × Int32} {x : SD} {u : HDT} {r : Int32} (h : 0 ≤ r) (hu : HK u) : ∃ u', fX8_recorded y x u r = some (r, u') ∧ HS u u' x := by
  obtain ⟨u', e, h'⟩ := st_step (y := x) hu
  refine ⟨u', ?_, h'⟩
  unfold fX8_recorded
  rw [if_neg (Int32.not_lt.mpr h), e, Option.bind_some]
def OA (c D : Nat) (x : SD) (u : HDT) (o : Option (Int32 × SD × SD × HDT)) : Prop := ∃ (r : Int32) (x' xB' : SD) (u' : HDT), o = some (r, x', xB', u') ∧ -6 ≤ r ∧ ((r < 0 ∧ x' = x ∧ u' = u) ∨ (0 ≤ r ∧ (∃ N' D', D' ≤ D + 1 ∧ CR (c + 4000) N' D' x') ∧ HS u u' x))
theorem oa_of {c D : Nat} {y : Int32 × Int32 × Int32} {x x' : SD} {u : HDT} {r : Int32} (hu : HK u) (h : AC c D x r x') : OA c D x u ((fX8_recorded y x u r).bind (fun q => some (q.1, x', x, q.2))) := by
  rcases h with ⟨h1, h2, h3⟩ | ⟨h1, h2⟩
  · refine ⟨r, x', x, u, ?_, h2, .inl ⟨h1, h3, rfl⟩⟩
    rw [rec_no h1, Option.bind_some]
  · obtain ⟨u', e, h'⟩ := rec_yes (y := y) (x := x) h1 hu
    refine ⟨r, x', x, u', ?_, Int32.le_trans (by decide) h1, .inr ⟨h1, h2, h'⟩⟩
    rw [e, Option.bind_some]
theorem OA.tup {c D : Nat} {x : SD} {u : HDT} {o : Option (Int32 × SD × SD × HDT)} (h : OA c D x u o) : OA c D x u (o.bind (fun q => some (q.1, q.2.1, q.2.2.1, q.2.2.2))) := by
  obtain ⟨r, x', xB', u', e, h1, h2⟩ := h
  exact ⟨r, x', xB', u', by rw [e]; rfl, h1, h2⟩
section ACTS
variable {c N D : Nat} {y : Int32 × Int32 × Int32} {x xB : SD} {u : HDT}
theorem oa_expect (h : CR c N D x) (hu : HK u) (p1 p2 : Int32) : OA c D x u (fX8_expect y x xB u p1 p2) := by
  obtain ⟨r, x', e, h'⟩ := ac_wind h p1 p2
  unfold fX8_expect
  rw [e]
  exact oa_of hu h'
theorem oa_fund (h : CR c N D x) (hc : c < 2 ^ 28) (hu : HK u) (p1 p2 : Int32) : OA c D x u (fX8_fund y x xB u p1 p2) := by
  obtain ⟨r, x', e, h'⟩ := ac_fund h hc p1 p2
  unfold fX8_fund
  rw [e]
  exact oa_of hu h'
theorem oa_bid (h : CR c N D x) (hc : c < 2 ^ 28) (hu : HK u) (p1 p2 p3 p4 p5 : Int32) : OA c D x u (fX8_bid y x xB u p1 p2 p3 p4 p5) := by
  obtain ⟨r, x', e, h'⟩ := ac_bid h hc p1 p2 p3 p4 p5
  unfold fX8_bid
  rw [e, Option.bind_some]
  exact oa_of hu h'
theorem oa_rm (h : CR c N D x) (hu : HK u) (p1 p2 p3 : Int32) : OA c D x u (fX8_withdraw y x xB u p1 p2 p3) := by
  obtain ⟨r, x', e, h'⟩ := ac_rm h p1 p2 p3
  unfold fX8_withdraw
  rw [e]
  exact oa_of hu h'
theorem oa_award (h : CR c N D x) (hc : c < 2 ^ 28) (hu : HK u) (p1 p2 : Int32) : OA c D x u (fX8_award y x xB u p1 p2) := by
  obtain ⟨r, x', e, h'⟩ := ac_award h hc p1 p2
  unfold fX8_award
  rw [e, Option.bind_some]
  exact oa_of hu h'
theorem oa_trade (h : CR c N D x) (hc : c < 2 ^ 28) (hu : HK u) (p1 p2 p3 p4 p5 : Int32) : OA c D x u (fX8_trade y x xB u p1 p2 p3 p4 p5) := by
  obtain ⟨r, x', e, h'⟩ := ac_sell h hc p1 p2 p3 p4 p5
  unfold fX8_trade
  rw [e, Option.bind_some]
  exact oa_of hu h'
theorem oa_done (h : CR c N D x) (hc : c < 2 ^ 28) (hu : HK u) (p1 : Int32) : OA c D x u (fX8_done y x xB u p1) := by
  obtain ⟨r, x', e, h'⟩ := ac_end h hc p1
  unfold fX8_done
  rw [e, Option.bind_some]
  exact oa_of hu h'
theorem oa_day (h : CR c N D x) (hD : D ≤ 999) (hu : HK u) : OA c D x u (fX8_nextDay y x xB u) := by
  obtain ⟨r, x', e, h'⟩ := ac_day h hD
  unfold fX8_nextDay
  rw [e]
  exact oa_of hu h'
theorem OA.ite {q : Prop} [Decidable q] {o1 o2 : Option (Int32 × SD × SD × HDT)} (h1 : OA c D x u o1) (h2 : OA c D x u o2) : OA c D x u (if q then o1 else o2) := by
  split
  · exact h1
  · exact h2
theorem oa_last {q : Prop} [Decidable q] {o1 o2 : Option (Int32 × SD × SD × HDT)} (h1 : OA c D x u o1) (h2 : OA c D x u o2) : OA c D x u ((if q then (o1.bind (fun q => some (q.1, q.2.1, q.2.2.1, q.2.2.2))) else (o2.bind (fun q => some (q.1, q.2.1, q.2.2.1, q.2.2.2)))).bind (fun q => some (q.1, q.2.1, q.2.2.1, q.2.2.2))) := OA.tup (OA.ite (OA.tup h1) (OA.tup h2))
/-- an act by a cell -/
theorem acts_ok (h : CR c N D x) (hc : c < 2 ^ 28) (hD : D ≤ 999) (hu : HK u) (w : PD) {a : Nat} (ha : a < 2 ^ 31) : OA c D x u (fL_acts y x xB u w (nI a)) := by
  have e1 : nI a / 16 = nI (a / 16) := pk_div (d := 16) ha (by omega) (by omega)
  have e2 : nI (a / 16) - nI (a / 16) / 3 * 3 = nI (a / 16 % 3) := pk_rem (d := 3) (by omega) (by omega) (by omega)
  have e3 : ¬ (20 : Int32) + 20 * nI (a / 16 % 3) = 0 := by
    rw [show (20 : Int32) = nI 20 from rfl, pk_mul, nI_add]
    exact nI_ne0 (by omega) (by omega)
  unfold fL_acts
  simp only [bnd]
  rw [e1, e2]
  simp only [rd_c1, Option.bind_some]
  have hb : ∀ p1 p2 p3 p4 p5 : Int32, OA c D x u (if (20 : Int32) + 20 * nI (a / 16 % 3) = 0 then none else (fX8_bid y x xB u p1 p2 p3 p4 p5).bind (fun q => some (q.1, q.2.1, q.2.2.1, q.2.2.2))) := fun p1 p2 p3 p4 p5 => by
    rw [if_neg e3]
    exact OA.tup (oa_bid h hc hu _ _ _ _ _)
  have ht : ∀ p1 p2 p3 p4 p5 : Int32, OA c D x u (if (20 : Int32) + 20 * nI (a / 16 % 3) = 0 then none else (fX8_trade y x xB u p1 p2 p3 p4 p5).bind (fun q => some (q.1, q.2.1, q.2.2.1, q.2.2.2))) := fun p1 p2 p3 p4 p5 => by
    rw [if_neg e3]
    exact OA.tup (oa_trade h hc hu _ _ _ _ _)
  refine OA.ite (OA.tup (oa_expect h hu _ _)) (OA.ite (OA.tup (oa_fund h hc hu _ _)) (OA.ite (hb _ _ _ _ _) (OA.ite (hb _ _ _ _ _) (OA.ite (hb _ _ _ _ _) (OA.ite (hb _ _ _ _ _) (OA.ite (hb _ _ _ _ _) (OA.ite (hb _ _ _ _ _) (OA.ite (OA.tup (oa_rm h hu _ _ _)) (OA.ite (OA.tup (oa_award h hc hu _ _)) (OA.ite (OA.tup (oa_award h hc hu _ _)) (OA.ite (ht _ _ _ _ _) (OA.ite (ht _ _ _ _ _) (OA.ite (OA.tup (oa_done h hc hu _)) (OA.ite (OA.tup (oa_done h hc hu _)) ?_))))))))))))))
  exact oa_last (oa_day h hD hu) (oa_done h hc hu _)
end ACTS
