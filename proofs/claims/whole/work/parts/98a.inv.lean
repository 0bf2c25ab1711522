/-! what holds between two acts of the walk -/
def cN (n : Nat) : Nat := 100 + 131072 * n
def KP (c : Nat) (y : Int32) (sn : SD) (S : AF) (k : Int32) : Prop := y = k ∧ (y = 0 ∨ (y = 1 ∧ RX c sn S 4175))
def TXT (w : PD) (t : AF) (m : Int32) : Prop := ∃ len, len ≤ 80 ∧ w.2.1 = nI len ∧ m = nI len ∧ ∀ j, j < 80 → w.1 j = t j ∧ ∃ q, q < 65536 ∧ w.1 j = nI q
def STP (y : Int32 × Int32 × Int32) (a b : Int32) : Prop := (y.2.1 = -5 ∧ y.2.2 = -5 ∧ a = -1) ∨ ∃ k, k < 2 ^ 30 ∧ y.2.1 = nI k ∧ a = nI k ∧ y.2.2 = b
def INV (n : Nat) (X : HX) (M : MD) : Prop := RX (cN n) X.2.1 M.1 0 ∧ HR (cN n) X.2.2.2.1 M.1 M.2.1 ∧ KP (cN n) X.1.1 X.2.2.2.2.1 M.1 M.2.2.1 ∧ TXT X.2.2.2.2.2 M.2.2.2.1 M.2.2.2.2.1 ∧ STP X.1 M.2.2.2.2.2.2.2.2.2.1 M.2.2.2.2.2.2.2.2.2.2
theorem cN_le (n : Nat) : cN n ≤ cN (n + 1) := by
  unfold cN
  omega
theorem cN_s (n : Nat) : cN n + 131072 = cN (n + 1) := by
  unfold cN
  omega
theorem cN_lt {n : Nat} (h : n < 512) : cN n < 2 ^ 28 := by
  unfold cN
  omega
theorem KP.to {c c' : Nat} {y k : Int32} {sn : SD} {S S' : AF} (h : KP c y sn S k) (hc : c ≤ c') (e : ∀ i, 4175 ≤ i → i < 5010 → S' i = S i) : KP c' y sn S' k := ⟨h.1, h.2.imp_right (fun q => ⟨q.1, q.2.to hc (fun j hj => e _ (by omega) (by omega))⟩)⟩
theorem INV_nop (n : Nat) (X : HX) (M : MD) (h : INV n X M) (_ : n < 512) : INV (n + 1) X M := by
  obtain ⟨h1, h2, h3, h4, h5⟩ := h
  exact ⟨h1.to (cN_le n) (fun _ _ => rfl), h2.to (cN_le n) (fun _ _ _ => rfl), h3.to (cN_le n) (fun _ _ _ => rfl), h4, h5⟩
theorem INV_nop' {n : Nat} {X : HX} {M : MD} (h : INV n X M) : INV (n + 1) X M := by
  obtain ⟨h1, h2, h3, h4, h5⟩ := h
  exact ⟨h1.to (cN_le n) (fun _ _ => rfl), h2.to (cN_le n) (fun _ _ _ => rfl), h3.to (cN_le n) (fun _ _ _ => rfl), h4, h5⟩
/-- the reference's row 6 changes: nothing of note -/
theorem INV_row6 {n : Nat} {X : HX} {M : MD} {S : AF} (h : INV n X M) (e : ∀ i, i < 5010 → S i = M.1 i) : INV (n + 1) X (S, M.2) := by
  obtain ⟨h1, h2, h3, h4, h5⟩ := h
  exact ⟨h1.to (cN_le n) (fun j hj => e _ (by omega)), h2.to (cN_le n) (fun i _ hi => e _ (by omega)), h3.to (cN_le n) (fun i _ hi => e _ (by omega)), h4, h5⟩
theorem settle {n : Nat} {X : HX} {M : MD} (hI : INV n X M) {r : Int32} {x' : SD} {S' : AF} (hx : RX (cN (n + 1)) x' S' 5010) (hO : Out (cpS M.1 0 6 835) S' 5010) (hneg : r < 0 → x' = X.2.1) : ∃ (wh : HDT) (M2 : MD), fX8_recorded X.1 X.2.1 X.2.2.2.1 r = some (r, wh) ∧ fX9_settles (S', M.2) r = some (r, M2) ∧ INV (n + 1) (X.1, x', X.2.1, wh, X.2.2.2.2.1, X.2.2.2.2.2) M2 := by
  have e : ∀ i, i < 5010 → S' i = M.1 i := fun i hi => (hO i (.inl hi)).trans (cpS_out (by omega))
  unfold fX8_recorded fX9_settles
  by_cases z : r < 0
  · rw [if_pos z, if_pos z]
    have h := INV_row6 hI e
    exact ⟨_, _, rfl, rfl, ⟨by rw [hneg z]; exact h.1, h.2⟩⟩
  · rw [if_neg z, if_neg z]
    have h := INV_row6 (S := S') hI e
    obtain ⟨h1, h2, h3, h4, h5⟩ := h
    obtain ⟨u', S2, st, e1, e2, e3, e4⟩ := sim_store (M := (S', M.2)) h2 h1
    rw [e1, e2, Option.bind_some, Option.bind_some, show fX9_copies (S2, st, M.2.2) 6 0 = _ from mm_copies (a := 6) (b := 0) (S2, st, M.2.2) (by omega) (by omega) (by omega), Option.bind_some]
    refine ⟨_, _, rfl, rfl, hx.to (Nat.le_refl _) (fun j hj => ?_), e3.to (Nat.le_refl _) (fun i q1 q2 => cpS_out (by omega)), h3.to (Nat.le_refl _) (fun i q1 q2 => (cpS_out (by omega)).trans (e4 i (by omega))), h4, h5⟩
    exact (cpS_in (b := 0) hj).trans (e4 _ (by omega))
/-- the now, copied to row 6 -/
theorem INV_six {n : Nat} {X : HX} {M : MD} (h : INV n X M) : ∃ N D, RR (cN n) N D X.2.1 (cpS M.1 0 6 835) (835 * 6) := by
  obtain ⟨N, D, h1⟩ := h.1
  exact ⟨N, D, RM.to h1 (Nat.le_refl _) (fun j hj => cpS_in (a := 0) (b := 6) hj)⟩
theorem sim_expect : SIM_expect INV := fun n X M hI hn p1 p2 => by
  obtain ⟨N, D, h⟩ := INV_six hI
  obtain ⟨r, x', S', e1, e2, e3, e4, e5⟩ := sim_setWind (M := (cpS M.1 0 6 835, M.2)) h (by omega) p1 p2
  obtain ⟨wh, M2, s1, s2, s3⟩ := settle hI (r := r) ⟨N, D, e3.purse (cN_le n)⟩ e4 (fun q => (e5 q).1)
  refine ⟨r, x', X.2.1, wh, M2, ?_, ?_, s3⟩
  · unfold fX8_expect
    simp only [bnd]
    rw [e1, s1]
    rfl
  · unfold fX9_expect
    rw [show fX9_copies M 0 6 = _ from mm_copies (a := 0) (b := 6) M (by omega) (by omega) (by omega), Option.bind_some, show fX9_expects (cpS M.1 0 6 835, M.2) 6 p1 p2 = _ from e2, Option.bind_some, s2]
    rfl
theorem sim_bid : SIM_bid INV := fun n X M hI hn p1 p2 p3 p4 p5 => by
  obtain ⟨N, D, h⟩ := INV_six hI
  obtain ⟨r, x', S', e1, e2, e3, e4, e5⟩ := sim_placeBid (M := (cpS M.1 0 6 835, M.2)) h (by have := cN_lt hn; omega) (by omega) p1 p2 p3 p4 p5
  obtain ⟨wh, M2, s1, s2, s3⟩ := settle hI (r := r) ⟨N, D, e3.purse (cN_le n)⟩ e4 (fun q => (e5 q).1)
  refine ⟨r, x', X.2.1, wh, M2, ?_, ?_, s3⟩
  · unfold fX8_bid
    rw [e1, Option.bind_some, s1]
    rfl
  · unfold fX9_bid
    rw [show fX9_copies M 0 6 = _ from mm_copies (a := 0) (b := 6) M (by omega) (by omega) (by omega), Option.bind_some, show fX9_bidsBy (cpS M.1 0 6 835, M.2) 6 p1 p2 p3 p4 p5 = _ from e2, Option.bind_some, s2]
    rfl
theorem sim_done : SIM_done INV := fun n X M hI hn p1 => by
  obtain ⟨N, D, h⟩ := INV_six hI
  obtain ⟨r, x', S', e1, e2, ⟨N', e3⟩, e4, e5⟩ := sim_endHour (M := (cpS M.1 0 6 835, M.2)) h (by have := cN_lt hn; omega) (by omega) p1
  obtain ⟨wh, M2, s1, s2, s3⟩ := settle hI (r := r) ⟨N', D, e3.purse (by unfold cN; omega)⟩ e4 (fun q => (e5 q).1)
  refine ⟨r, x', X.2.1, wh, M2, ?_, ?_, s3⟩
  · unfold fX8_done
    rw [e1, Option.bind_some, s1]
    rfl
  · unfold fX9_done
    rw [show fX9_copies M 0 6 = _ from mm_copies (a := 0) (b := 6) M (by omega) (by omega) (by omega), Option.bind_some, show fX9_does (cpS M.1 0 6 835, M.2) 6 p1 = _ from e2, Option.bind_some, s2]
    rfl
theorem sim_nextDay : SIM_nextDay INV := fun n X M hI hn => by
  obtain ⟨N, D, h⟩ := INV_six hI
  obtain ⟨r, x', S', e1, e2, ⟨N', D', e3⟩, e4, e5⟩ := sim_beginDay (M := (cpS M.1 0 6 835, M.2)) h (by omega)
  obtain ⟨wh, M2, s1, s2, s3⟩ := settle hI (r := r) ⟨N', D', e3.purse (cN_le n)⟩ e4 (fun q => (e5 q).1)
  refine ⟨r, x', X.2.1, wh, M2, ?_, ?_, s3⟩
  · unfold fX8_nextDay
    simp only [bnd]
    rw [e1, s1]
    rfl
  · unfold fX9_nextDay
    rw [show fX9_copies M 0 6 = _ from mm_copies (a := 0) (b := 6) M (by omega) (by omega) (by omega), Option.bind_some, show fX9_begins (cpS M.1 0 6 835, M.2) 6 = _ from e2, Option.bind_some, s2]
    rfl
