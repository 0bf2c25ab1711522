/-! THE LAW: what the walk asks of the functions (SIM_..), the machine's start, the loop -/
abbrev HX : Type := (Int32 × Int32 × Int32) × SD × SD × HDT × SD × PD
def SIM_expect (Inv : Nat → HX → MD → Prop) : Prop := ∀ (n : Nat) (X : HX) (M : MD), Inv n X M → n < 512 → ∀ p1 p2 : Int32, ∃ (r : Int32) (wnow : SD) (wbefore : SD) (whist : HDT) (M2 : MD), fX8_expect X.1 X.2.1 X.2.2.1 X.2.2.2.1 p1 p2 = some (r, wnow, wbefore, whist) ∧ fX9_expect M p1 p2 = some (r, M2) ∧ Inv (n + 1) (X.1, wnow, wbefore, whist, X.2.2.2.2.1, X.2.2.2.2.2) M2
def SIM_fund (Inv : Nat → HX → MD → Prop) : Prop := ∀ (n : Nat) (X : HX) (M : MD), Inv n X M → n < 512 → ∀ p1 p2 : Int32, ∃ (r : Int32) (wnow : SD) (wbefore : SD) (whist : HDT) (M2 : MD), fX8_fund X.1 X.2.1 X.2.2.1 X.2.2.2.1 p1 p2 = some (r, wnow, wbefore, whist) ∧ fX9_fund M p1 p2 = some (r, M2) ∧ Inv (n + 1) (X.1, wnow, wbefore, whist, X.2.2.2.2.1, X.2.2.2.2.2) M2
def SIM_bid (Inv : Nat → HX → MD → Prop) : Prop := ∀ (n : Nat) (X : HX) (M : MD), Inv n X M → n < 512 → ∀ p1 p2 p3 p4 p5 : Int32, ∃ (r : Int32) (wnow : SD) (wbefore : SD) (whist : HDT) (M2 : MD), fX8_bid X.1 X.2.1 X.2.2.1 X.2.2.2.1 p1 p2 p3 p4 p5 = some (r, wnow, wbefore, whist) ∧ fX9_bid M p1 p2 p3 p4 p5 = some (r, M2) ∧ Inv (n + 1) (X.1, wnow, wbefore, whist, X.2.2.2.2.1, X.2.2.2.2.2) M2
def SIM_withdraw (Inv : Nat → HX → MD → Prop) : Prop := ∀ (n : Nat) (X : HX) (M : MD), Inv n X M → n < 512 → ∀ p1 p2 p3 : Int32, ∃ (r : Int32) (wnow : SD) (wbefore : SD) (whist : HDT) (M2 : MD), fX8_withdraw X.1 X.2.1 X.2.2.1 X.2.2.2.1 p1 p2 p3 = some (r, wnow, wbefore, whist) ∧ fX9_withdraw M p1 p2 p3 = some (r, M2) ∧ Inv (n + 1) (X.1, wnow, wbefore, whist, X.2.2.2.2.1, X.2.2.2.2.2) M2
def SIM_award (Inv : Nat → HX → MD → Prop) : Prop := ∀ (n : Nat) (X : HX) (M : MD), Inv n X M → n < 512 → ∀ p1 p2 : Int32, ∃ (r : Int32) (wnow : SD) (wbefore : SD) (whist : HDT) (M2 : MD), fX8_award X.1 X.2.1 X.2.2.1 X.2.2.2.1 p1 p2 = some (r, wnow, wbefore, whist) ∧ fX9_award M p1 p2 = some (r, M2) ∧ Inv (n + 1) (X.1, wnow, wbefore, whist, X.2.2.2.2.1, X.2.2.2.2.2) M2
def SIM_trade (Inv : Nat → HX → MD → Prop) : Prop := ∀ (n : Nat) (X : HX) (M : MD), Inv n X M → n < 512 → ∀ p1 p2 p3 p4 p5 : Int32, ∃ (r : Int32) (wnow : SD) (wbefore : SD) (whist : HDT) (M2 : MD), fX8_trade X.1 X.2.1 X.2.2.1 X.2.2.2.1 p1 p2 p3 p4 p5 = some (r, wnow, wbefore, whist) ∧ fX9_trade M p1 p2 p3 p4 p5 = some (r, M2) ∧ Inv (n + 1) (X.1, wnow, wbefore, whist, X.2.2.2.2.1, X.2.2.2.2.2) M2
def SIM_done (Inv : Nat → HX → MD → Prop) : Prop := ∀ (n : Nat) (X : HX) (M : MD), Inv n X M → n < 512 → ∀ p1 : Int32, ∃ (r : Int32) (wnow : SD) (wbefore : SD) (whist : HDT) (M2 : MD), fX8_done X.1 X.2.1 X.2.2.1 X.2.2.2.1 p1 = some (r, wnow, wbefore, whist) ∧ fX9_done M p1 = some (r, M2) ∧ Inv (n + 1) (X.1, wnow, wbefore, whist, X.2.2.2.2.1, X.2.2.2.2.2) M2
def SIM_nextDay (Inv : Nat → HX → MD → Prop) : Prop := ∀ (n : Nat) (X : HX) (M : MD), Inv n X M → n < 512 → ∃ (r : Int32) (wnow : SD) (wbefore : SD) (whist : HDT) (M2 : MD), fX8_nextDay X.1 X.2.1 X.2.2.1 X.2.2.2.1 = some (r, wnow, wbefore, whist) ∧ fX9_nextDay M = some (r, M2) ∧ Inv (n + 1) (X.1, wnow, wbefore, whist, X.2.2.2.2.1, X.2.2.2.2.2) M2
def SIM_type (Inv : Nat → HX → MD → Prop) : Prop := ∀ (n : Nat) (X : HX) (M : MD), Inv n X M → n < 512 → ∀ p1 : Int32, ∃ (r : Int32) (wplan : PD) (M2 : MD), fX8_type X.1 X.2.2.2.2.2 p1 = some (r, wplan) ∧ fX9_type M p1 = some (r, M2) ∧ Inv (n + 1) (X.1, X.2.1, X.2.2.1, X.2.2.2.1, X.2.2.2.2.1, wplan) M2
def SIM_clearText (Inv : Nat → HX → MD → Prop) : Prop := ∀ (n : Nat) (X : HX) (M : MD), Inv n X M → n < 512 → ∃ (r : Int32) (wplan : PD) (M2 : MD), fX8_clearText X.1 X.2.2.2.2.2 = (r, wplan) ∧ fX9_clearText M = (r, M2) ∧ Inv (n + 1) (X.1, X.2.1, X.2.2.1, X.2.2.2.1, X.2.2.2.2.1, wplan) M2
def SIM_perform (Inv : Nat → HX → MD → Prop) : Prop := ∀ (n : Nat) (X : HX) (M : MD), Inv n X M → n < 512 → ∃ (r : Int32) (whh : (Int32 × Int32 × Int32)) (wnow : SD) (wbefore : SD) (whist : HDT) (wplan : PD) (M2 : MD), fX8_perform X.1 X.2.1 X.2.2.1 X.2.2.2.1 X.2.2.2.2.2 = some (r, whh, wnow, wbefore, whist, wplan) ∧ fX9_perform M = some (r, M2) ∧ Inv (n + 1) (whh, wnow, wbefore, whist, X.2.2.2.2.1, wplan) M2
def SIM_stopped (Inv : Nat → HX → MD → Prop) : Prop := ∀ (n : Nat) (X : HX) (M : MD), Inv n X M → n < 512 → ∀ p1 : Int32, ∃ (r : Int32), fX8_stopped X.1 p1 = r ∧ fX9_stopped M p1 = r ∧ Inv (n + 1) (X.1, X.2.1, X.2.2.1, X.2.2.2.1, X.2.2.2.2.1, X.2.2.2.2.2) M
def SIM_undo (Inv : Nat → HX → MD → Prop) : Prop := ∀ (n : Nat) (X : HX) (M : MD), Inv n X M → n < 512 → ∃ (r : Int32) (wnow : SD) (whist : HDT) (M2 : MD), fX8_undo X.1 X.2.1 X.2.2.2.1 = some (r, wnow, whist) ∧ fX9_undo M = some (r, M2) ∧ Inv (n + 1) (X.1, wnow, X.2.2.1, whist, X.2.2.2.2.1, X.2.2.2.2.2) M2
def SIM_keep (Inv : Nat → HX → MD → Prop) : Prop := ∀ (n : Nat) (X : HX) (M : MD), Inv n X M → n < 512 → ∃ (r : Int32) (whh : (Int32 × Int32 × Int32)) (wsnap : SD) (M2 : MD), fX8_keep X.1 X.2.1 X.2.2.2.2.1 = some (r, whh, wsnap) ∧ fX9_keep M = some (r, M2) ∧ Inv (n + 1) (whh, X.2.1, X.2.2.1, X.2.2.2.1, wsnap, X.2.2.2.2.2) M2
def SIM_restore (Inv : Nat → HX → MD → Prop) : Prop := ∀ (n : Nat) (X : HX) (M : MD), Inv n X M → n < 512 → ∃ (r : Int32) (wnow : SD) (wbefore : SD) (whist : HDT) (M2 : MD), fX8_restore X.1 X.2.1 X.2.2.1 X.2.2.2.1 X.2.2.2.2.1 = some (r, wnow, wbefore, whist) ∧ fX9_restore M = some (r, M2) ∧ Inv (n + 1) (X.1, wnow, wbefore, whist, X.2.2.2.2.1, X.2.2.2.2.2) M2
def SIM_firm (Inv : Nat → HX → MD → Prop) : Prop := ∀ (n : Nat) (X : HX) (M : MD), Inv n X M → n < 512 → ∀ p1 p2 : Int32, ∃ (r : Int32), fX8_firm X.1 X.2.1 p1 p2 = some r ∧ fX9_firm M p1 p2 = some r ∧ Inv (n + 1) (X.1, X.2.1, X.2.2.1, X.2.2.2.1, X.2.2.2.2.1, X.2.2.2.2.2) M
def SIM_slot (Inv : Nat → HX → MD → Prop) : Prop := ∀ (n : Nat) (X : HX) (M : MD), Inv n X M → n < 512 → ∀ p1 p2 p3 : Int32, ∃ (r : Int32), fX8_slot X.1 X.2.1 p1 p2 p3 = some r ∧ fX9_slot M p1 p2 p3 = some r ∧ Inv (n + 1) (X.1, X.2.1, X.2.2.1, X.2.2.2.1, X.2.2.2.2.1, X.2.2.2.2.2) M
def SIM_wouldCost (Inv : Nat → HX → MD → Prop) : Prop := ∀ (n : Nat) (X : HX) (M : MD), Inv n X M → n < 512 → ∀ p1 p2 p3 p4 p5 : Int32, ∃ (r : Int32) (M2 : MD), fX8_wouldCost X.1 X.2.1 p1 p2 p3 p4 p5 = some r ∧ fX9_wouldCost M p1 p2 p3 p4 p5 = some (r, M2) ∧ Inv (n + 1) (X.1, X.2.1, X.2.2.1, X.2.2.2.1, X.2.2.2.2.1, X.2.2.2.2.2) M2
def SIM_heaviest (Inv : Nat → HX → MD → Prop) : Prop := ∀ (n : Nat) (X : HX) (M : MD), Inv n X M → n < 512 → ∀ p1 p2 : Int32, ∃ (r : Int32), fX8_heaviest X.1 X.2.1 p1 p2 = r ∧ fX9_heaviest M p1 p2 = some r ∧ Inv (n + 1) (X.1, X.2.1, X.2.2.1, X.2.2.2.1, X.2.2.2.2.1, X.2.2.2.2.2) M
def SIM_wind (Inv : Nat → HX → MD → Prop) : Prop := ∀ (n : Nat) (X : HX) (M : MD), Inv n X M → n < 512 → ∀ p1 : Int32, ∃ (r : Int32), fX8_wind X.1 X.2.1 p1 = r ∧ fX9_wind M p1 = some r ∧ Inv (n + 1) (X.1, X.2.1, X.2.2.1, X.2.2.2.1, X.2.2.2.2.1, X.2.2.2.2.2) M
def SIM_cheapest (Inv : Nat → HX → MD → Prop) : Prop := ∀ (n : Nat) (X : HX) (M : MD), Inv n X M → n < 512 → ∀ p1 p2 : Int32, ∃ (r : Int32), fX8_cheapest X.1 X.2.1 p1 p2 = some r ∧ fX9_cheapest M p1 p2 = some r ∧ Inv (n + 1) (X.1, X.2.1, X.2.2.1, X.2.2.2.1, X.2.2.2.2.1, X.2.2.2.2.2) M
def SIM_count (Inv : Nat → HX → MD → Prop) : Prop := ∀ (n : Nat) (X : HX) (M : MD), Inv n X M → n < 512 → ∀ p1 : Int32, ∃ (r : Int32), fX8_count X.1 X.2.1 X.2.2.2.1 X.2.2.2.2.2 p1 = some r ∧ fX9_count M p1 = some r ∧ Inv (n + 1) (X.1, X.2.1, X.2.2.1, X.2.2.2.1, X.2.2.2.2.1, X.2.2.2.2.2) M
theorem u_fc {s : State} {C : String} {T : u_T} {N : Nat} {cC : ClassId} {iS : Nat → Nat} (h : u_Kn s C T N cC iS) : u_Kn s C T N cC iS := h
/-- the machine's start: classes, arrays, nest -/
theorem KX_start {s : State} {args : Array Value} (htb : ∀ w ∈ lw_tbl, w.before args s = true) : ∃ g : CX, KX g s := by
  have htG : ∀ w ∈ G, w.before args s = true := fun w h => htb w (G_tbl w h)
  obtain ⟨c0, i0, k0⟩ := u_known (C := RX0) (T := TX0) (N := 2) (n := 2) htG in_wsX00 (htG _ g1_28)
  obtain ⟨c1, i1, k1⟩ := u_known (C := RX1) (T := TX1) (N := 4) (n := 4) htG in_wsX10 (htG _ g1_70)
  obtain ⟨c2, i2, k2⟩ := u_known (C := RX2) (T := TX2) (N := 2) (n := 2) htG in_wsX20 (htG _ g1_162)
  obtain ⟨c3, i3, k3⟩ := u_known (C := RX3) (T := TX3) (N := 11) (n := 11) htG in_wsX30 (htG _ g1_178)
  obtain ⟨c4, i4, k4⟩ := u_known (C := RX5) (T := TX5) (N := 4) (n := 4) htG in_wsX50 (htG _ g1_42)
  obtain ⟨c5, i5, k5⟩ := u_known (C := RX6) (T := TX6) (N := 8) (n := 8) htG in_wsX60 (htG _ g1_22)
  obtain ⟨c6, i6, k6⟩ := u_known (C := RX7) (T := TX7) (N := 7) (n := 7) htG in_wsX70 (htG _ g1_96)
  obtain ⟨c7, i7, k7⟩ := u_known (C := RX8) (T := TX8) (N := 8) (n := 8) htG in_wsX80 (htG _ g1_14)
  obtain ⟨c8, i8, k8⟩ := u_known (C := RX9) (T := TX9) (N := 11) (n := 11) htG in_wsX90 (htG _ g3_182)
  obtain ⟨cI, kI, pI, aI, bI, dI⟩ := Cond.arrayClass_spec (htG _ g1_40)
  obtain ⟨cC, kC, pC, aC, bC, dC⟩ := Cond.arrayClass_spec (htG _ g1_224)
  have hover : (Cond.arrayOver (.object "HookHours$State")).before args s = true := htb _ (tm1 168 (by decide +kernel))
  obtain ⟨pO, cO, kO, aO, -, bO, dO, eO⟩ := Cond.arrayOver_spec hover
  refine ⟨((fun k => [c0, c1, c2, c3, c4, c5, c6, c7, c8].getD k 0, fun k => [i0, i1, i2, i3, i4, i5, i6, i7, i8].getD k (fun _ => 0)), cI, cC, cO), ⟨fun k q hq => ?_, fun k q hq => ?_⟩, fun w hw => va_Nw.of (nestW_tab w hw) (htb w (nestW_tbl w hw)), va_AO.of hover⟩
  · match k, hq with
    | 0, hq => cases hq; exact k0
    | 1, hq => cases hq; exact k1
    | 2, hq => cases hq; exact k2
    | 3, hq => cases hq; exact k3
    | 4, hq => cases hq; exact k4
    | 5, hq => cases hq; exact k5
    | 6, hq => cases hq; exact k6
    | 7, hq => cases hq; exact k7
    | 8, hq => cases hq; exact k8
    | k + 9, hq => simp [vwCl] at hq
  · match k, hq with
    | 0, hq => cases hq; exact ⟨fun n z => ⟨fun k h => (by cases h), kI, bI, pI, dI⟩, aI⟩
    | 1, hq => cases hq; exact ⟨fun n z => ⟨fun k h => (by cases h), kC, bC, pC, dC⟩, aC⟩
    | 2, hq => cases hq; exact ⟨fun n z => ⟨fun k h => (by cases h), kO, bO, pO, dO⟩, kO, pO, bO, dO, aO, eO⟩
    | k + 3, hq => simp at hq
theorem LF_start {s : State} {args : Array Value} (htb : ∀ w ∈ lw_tbl, w.before args s = true) (hgv : (Jvm.Cond.and given_1 narrow_1).before args s = true) : LF (fun q : Nat => s.heap.size ≤ q) s s.heap := by
  have hs := flat_of_before _ hgv
  have hA : ∀ a : Nat, a < s.heap.size → ¬ (fun q : Nat => s.heap.size ≤ q) a := fun a h => Nat.not_le.mpr h
  have harr : (Cond.arrayOf (.static "HookHours" "LIFTS" "[I") .int).before args s = true := hs _ (by decide +kernel)
  have hlen : (Cond.eq (.length (.static "HookHours" "LIFTS" "[I")) (.int 3)).before args s = true := hs _ (by decide +kernel)
  have h0 : (Cond.eq (.elem (.static "HookHours" "LIFTS" "[I") (.int 0)) (.int 20)).before args s = true := hs _ (by decide +kernel)
  have h1 : (Cond.eq (.elem (.static "HookHours" "LIFTS" "[I") (.int 1)) (.int 40)).before args s = true := hs _ (by decide +kernel)
  have h2 : (Cond.eq (.elem (.static "HookHours" "LIFTS" "[I") (.int 2)) (.int 60)).before args s = true := hs _ (by decide +kernel)
  obtain ⟨t, ht, hT⟩ := va_Tof (N := 3) (f := fun j => .int (fL j)) (by decide) harr (va_eqt hlen) (fun j hj => by
    rcases (show j = 0 ∨ j = 1 ∨ j = 2 by omega) with rfl | rfl | rfl
    · exact va_eqt h0
    · exact va_eqt h1
    · exact va_eqt h2) hA
  exact ⟨t, va_Zref (htb _ (tm2 121 (by decide +kernel))) (htb _ (G_tbl _ g1_1)) ht hA, hT⟩
