/-! THE LAW: the machine's start -/
/-- the machine's start: classes, arrays, nest -/
theorem KX_start {s : State} {args : Array Value} (htb : ∀ w ∈ lw_tbl, w.before args s = true) : ∃ g : CX, KX g s := by
  have htG : ∀ w ∈ G, w.before args s = true := fun w h => htb w (G_tbl w h)
  obtain ⟨c0, i0, k0⟩ := u_known (C := RX0) (T := TX0) (N := 2) (n := 2) htG in_wsX00 (htG _ g1_27)
  obtain ⟨c1, i1, k1⟩ := u_known (C := RX1) (T := TX1) (N := 4) (n := 4) htG in_wsX10 (htG _ g1_69)
  obtain ⟨c2, i2, k2⟩ := u_known (C := RX2) (T := TX2) (N := 2) (n := 2) htG in_wsX20 (htG _ g1_161)
  obtain ⟨c3, i3, k3⟩ := u_known (C := RX3) (T := TX3) (N := 11) (n := 11) htG in_wsX30 (htG _ g1_177)
  obtain ⟨c4, i4, k4⟩ := u_known (C := RX5) (T := TX5) (N := 4) (n := 4) htG in_wsX50 (htG _ g1_41)
  obtain ⟨c5, i5, k5⟩ := u_known (C := RX6) (T := TX6) (N := 8) (n := 8) htG in_wsX60 (htG _ g1_21)
  obtain ⟨c6, i6, k6⟩ := u_known (C := RX7) (T := TX7) (N := 7) (n := 7) htG in_wsX70 (htG _ g1_95)
  obtain ⟨c7, i7, k7⟩ := u_known (C := RX8) (T := TX8) (N := 8) (n := 8) htG in_wsX80 (htG _ g1_13)
  obtain ⟨cI, kI, pI, aI, bI, dI⟩ := Cond.arrayClass_spec (htG _ g1_39)
  obtain ⟨cC, kC, pC, aC, bC, dC⟩ := Cond.arrayClass_spec (htG _ g1_223)
  have hover : (Cond.arrayOver (.object "HookHours$State")).before args s = true := htb _ (tm1 167 (by decide +kernel))
  obtain ⟨pO, cO, kO, aO, -, bO, dO, eO⟩ := Cond.arrayOver_spec hover
  refine ⟨((fun k => [c0, c1, c2, c3, c4, c5, c6, c7].getD k 0, fun k => [i0, i1, i2, i3, i4, i5, i6, i7].getD k (fun _ => 0)), cI, cC, cO), ⟨fun k q hq => ?_, fun k q hq => ?_⟩, fun w hw => va_Nw.of (nestW_tab w hw) (htb w (nestW_tbl w hw)), va_AO.of hover⟩
  · match k, hq with
    | 0, hq => cases hq; exact k0
    | 1, hq => cases hq; exact k1
    | 2, hq => cases hq; exact k2
    | 3, hq => cases hq; exact k3
    | 4, hq => cases hq; exact k4
    | 5, hq => cases hq; exact k5
    | 6, hq => cases hq; exact k6
    | 7, hq => cases hq; exact k7
    | k + 8, hq => simp [vwCl] at hq
  · match k, hq with
    | 0, hq => cases hq; exact ⟨fun n z => ⟨fun k h => (by cases h), kI, bI, pI, dI⟩, aI⟩
    | 1, hq => cases hq; exact ⟨fun n z => ⟨fun k h => (by cases h), kC, bC, pC, dC⟩, aC⟩
    | 2, hq => cases hq; exact ⟨fun n z => ⟨fun k h => (by cases h), kO, bO, pO, dO⟩, kO, pO, bO, dO, aO, eO⟩
    | k + 3, hq => simp at hq
theorem LF_start {s : State} {args : Array Value} (htb : ∀ w ∈ lw_tbl, w.before args s = true) (hgv : (Jvm.Cond.and given_1 narrow_1).before args s = true) : LF (fun q : Nat => s.heap.size ≤ q) s s.heap := by
  have hs := flat_of_before _ hgv
  have hA : ∀ a : Nat, a < s.heap.size → ¬ (fun q : Nat => s.heap.size ≤ q) a := fun a h => Nat.not_le.mpr h
  have harr : (Cond.arrayOf (.static "HookHours" "LIFTS" "[I") .int).before args s = true := hs _ (by decide +kernel)
  have hlen : (Cond.eq (.length (.static "HookHours" "LIFTS" "[I")) (.int 3)).before args s = true := hs _ (by decide +kernel)
  have h0 : (Cond.eq (.elem (.static "HookHours" "LIFTS" "[I") (.int 0)) (.int 20)).before args s = true := hs _ (by decide +kernel)
  have h1 : (Cond.eq (.elem (.static "HookHours" "LIFTS" "[I") (.int 1)) (.int 40)).before args s = true := hs _ (by decide +kernel)
  have h2 : (Cond.eq (.elem (.static "HookHours" "LIFTS" "[I") (.int 2)) (.int 60)).before args s = true := hs _ (by decide +kernel)
  obtain ⟨t, ht, hT⟩ := va_Tof (N := 3) (f := fun j => .int (fL j)) (by decide) harr (va_eqt hlen) (fun j hj => by
    rcases (show j = 0 ∨ j = 1 ∨ j = 2 by omega) with rfl | rfl | rfl
    · exact va_eqt h0
    · exact va_eqt h1
    · exact va_eqt h2) hA
  exact ⟨t, va_Zref (htb _ (tm2 120 (by decide +kernel))) (htb _ (G_tbl _ g1_1)) ht hA, hT⟩
