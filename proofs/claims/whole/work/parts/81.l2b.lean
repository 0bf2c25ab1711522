/-! the reference's loops: B a state's base, K a slot below 48, F a firm below 6 -/
theorem mm_bidsFor (M : MD) {B K : Nat} (hB : B + 835 ≤ 5845) (hK : K < 48) : fX9_bidsFor M (nI B) (nI K) = some (rsum (fun f => pos1 (M.1 (B + 531 + 6 * K + f))) 6) := by
  unfold fX9_bidsFor
  have h := lpN (fun fu k => fX9_bidsFor_L0 M (nI B) (nI K) fu (rsum (fun f => pos1 (M.1 (B + 531 + 6 * K + f))) k) (nI k)) 6 _ (fun fu k hk => by
    show fX9_bidsFor_L0 M (nI B) (nI K) (fu + 1) _ _ = _
    have e : ((nI B + 531) + (6 * nI K)) + nI k = nI (B + 531 + 6 * K + k) := ix6 B 531 K k
    rw [fX9_bidsFor_L0, if_neg (nle6 hk), e, if_pos (ib_nI (by omega) (by omega)), nI_clamp (by omega), nI_1]
    by_cases hv : M.1 (B + 531 + 6 * K + k) ≤ 0
    · rw [if_pos hv]; show _ = fX9_bidsFor_L0 M (nI B) (nI K) fu (rsum _ k + pos1 _) _; rw [pos1, if_pos hv]
    · rw [if_neg hv]; show _ = fX9_bidsFor_L0 M (nI B) (nI K) fu (rsum _ k + pos1 _) _; rw [pos1, if_neg hv]) (fun fu => by
    show fX9_bidsFor_L0 M (nI B) (nI K) (fu + 1) _ _ = _
    rw [fX9_bidsFor_L0, if_pos ler6]) 1000 0 (by omega) (by omega)
  have h2 : fX9_bidsFor_L0 M (nI B) (nI K) 1000 0 0 = some (rsum (fun f => pos1 (M.1 (B + 531 + 6 * K + f))) 6) := h
  rw [h2]
  rfl
theorem mm_bidsOf (M : MD) {B F : Nat} (hB : B + 835 ≤ 5845) (hF : F < 6) : fX9_bidsOf M (nI B) (nI F) = some (rsum (fun k => pos1 (M.1 (B + 531 + 6 * k + F))) 48) := by
  unfold fX9_bidsOf
  have h := lpN (fun fu k => fX9_bidsOf_L0 M (nI B) (nI F) fu (rsum (fun k => pos1 (M.1 (B + 531 + 6 * k + F))) k) (nI k)) 48 _ (fun fu k hk => by
    show fX9_bidsOf_L0 M (nI B) (nI F) (fu + 1) _ _ = _
    have e : ((nI B + 531) + (6 * nI k)) + nI F = nI (B + 531 + 6 * k + F) := ix6 B 531 k F
    rw [fX9_bidsOf_L0, if_neg (nle48 hk), e, if_pos (ib_nI (by omega) (by omega)), nI_clamp (by omega), nI_1]
    by_cases hv : M.1 (B + 531 + 6 * k + F) ≤ 0
    · rw [if_pos hv]; show _ = fX9_bidsOf_L0 M (nI B) (nI F) fu (rsum _ k + pos1 _) _; rw [pos1, if_pos hv]
    · rw [if_neg hv]; show _ = fX9_bidsOf_L0 M (nI B) (nI F) fu (rsum _ k + pos1 _) _; rw [pos1, if_neg hv]) (fun fu => by
    show fX9_bidsOf_L0 M (nI B) (nI F) (fu + 1) _ _ = _
    rw [fX9_bidsOf_L0, if_pos ler48]) 1000 0 (by omega) (by omega)
  have h2 : fX9_bidsOf_L0 M (nI B) (nI F) 1000 0 0 = some (rsum (fun k => pos1 (M.1 (B + 531 + 6 * k + F))) 48) := h
  rw [h2]
  rfl
theorem mm_bids (M : MD) {B : Nat} (hB : B + 835 ≤ 5845) : fX9_bids M (nI B) = some (rsum (fun k => rsum (fun f => pos1 (M.1 (B + 531 + 6 * k + f))) 6) 48) := by
  unfold fX9_bids
  have h := lpN (fun fu k => fX9_bids_L0 M (nI B) fu (rsum (fun k => rsum (fun f => pos1 (M.1 (B + 531 + 6 * k + f))) 6) k) (nI k)) 48 _ (fun fu k hk => by
    show fX9_bids_L0 M (nI B) (fu + 1) _ _ = _
    rw [fX9_bids_L0, if_neg (nle48 hk), mm_bidsFor M hB hk, nI_1]
    rfl) (fun fu => by
    show fX9_bids_L0 M (nI B) (fu + 1) _ _ = _
    rw [fX9_bids_L0, if_pos ler48]) 1000 0 (by omega) (by omega)
  have h2 : fX9_bids_L0 M (nI B) 1000 0 0 = some (rsum (fun k => rsum (fun f => pos1 (M.1 (B + 531 + 6 * k + f))) 6) 48) := h
  rw [h2]
  rfl
theorem mm_offered (M : MD) {B F : Nat} (hB : B + 835 ≤ 5845) (hF : F < 6) : fX9_offered M (nI B) (nI F) = some (rsum (fun k => M.1 (B + 531 + 6 * k + F)) 48) := by
  unfold fX9_offered
  have h := lpN (fun fu k => fX9_offered_L0 M (nI B) (nI F) fu (rsum (fun k => M.1 (B + 531 + 6 * k + F)) k) (nI k)) 48 _ (fun fu k hk => by
    show fX9_offered_L0 M (nI B) (nI F) (fu + 1) _ _ = _
    have e : ((nI B + 531) + (6 * nI k)) + nI F = nI (B + 531 + 6 * k + F) := ix6 B 531 k F
    rw [fX9_offered_L0, if_neg (nle48 hk), e, if_pos (ib_nI (by omega) (by omega)), nI_clamp (by omega), nI_1]
    rfl) (fun fu => by
    show fX9_offered_L0 M (nI B) (nI F) (fu + 1) _ _ = _
    rw [fX9_offered_L0, if_pos ler48]) 1000 0 (by omega) (by omega)
  have h2 : fX9_offered_L0 M (nI B) (nI F) 1000 0 0 = some (rsum (fun k => M.1 (B + 531 + 6 * k + F)) 48) := h
  rw [h2]
  rfl
/-! the highest of some numbers, and whose it is -/
def hif (b : Nat → Int32) (e : Nat → Bool) : Nat → Int32
  | 0 => 0
  | n + 1 => if e n = true then (if b n ≤ hif b e n then hif b e n else b n) else hif b e n
def bst (b : Nat → Int32) (e : Nat → Bool) : Nat → Option Nat
  | 0 => none
  | n + 1 => if e n = true then (if b n ≤ hif b e n then bst b e n else some n) else bst b e n
theorem hif_pos (b : Nat → Int32) (e : Nat → Bool) : ∀ n, 0 ≤ hif b e n
  | 0 => Int32.le_refl _
  | n + 1 => by
    have h := hif_pos b e n
    unfold hif
    split
    · split
      · exact h
      · rename_i h2
        exact Int32.le_trans h (Int32.le_of_lt (Int32.not_le.mp h2))
    · exact h
theorem hif_congr {b b' : Nat → Int32} {e e' : Nat → Bool} : ∀ {n : Nat}, (∀ j, j < n → b j = b' j ∧ e j = e' j) → hif b e n = hif b' e' n
  | 0, _ => rfl
  | n + 1, h => by
    unfold hif
    rw [hif_congr (fun j hj => h j (by omega)), (h n (by omega)).1, (h n (by omega)).2]
theorem bst_congr {b b' : Nat → Int32} {e e' : Nat → Bool} : ∀ {n : Nat}, (∀ j, j < n → b j = b' j ∧ e j = e' j) → bst b e n = bst b' e' n
  | 0, _ => rfl
  | n + 1, h => by
    unfold bst
    rw [bst_congr (fun j hj => h j (by omega)), hif_congr (fun j hj => h j (by omega)), (h n (by omega)).1, (h n (by omega)).2]
theorem bst_some {b : Nat → Int32} {e : Nat → Bool} : ∀ {n f : Nat}, bst b e n = some f → f < n ∧ e f = true ∧ hif b e n = b f ∧ 0 < b f
  | 0, f, h => by simp [bst] at h
  | n + 1, f, h => by
    unfold bst at h
    unfold hif
    by_cases he : e n = true
    · rw [if_pos he] at h ⊢
      by_cases hb : b n ≤ hif b e n
      · rw [if_pos hb] at h ⊢
        obtain ⟨h1, h2, h3, h4⟩ := bst_some h
        exact ⟨by omega, h2, h3, h4⟩
      · rw [if_neg hb] at h ⊢
        cases h
        exact ⟨by omega, he, rfl, Int32.lt_of_le_of_lt (hif_pos b e n) (Int32.not_le.mp hb)⟩
    · rw [if_neg he] at h ⊢
      obtain ⟨h1, h2, h3, h4⟩ := bst_some h
      exact ⟨by omega, h2, h3, h4⟩
theorem bst_none {b : Nat → Int32} {e : Nat → Bool} : ∀ {n : Nat}, bst b e n = none → hif b e n = 0
  | 0, _ => rfl
  | n + 1, h => by
    unfold bst at h
    unfold hif
    by_cases he : e n = true
    · rw [if_pos he] at h ⊢
      by_cases hb : b n ≤ hif b e n
      · rw [if_pos hb] at h ⊢
        exact bst_none h
      · rw [if_neg hb] at h
        cases h
    · rw [if_neg he] at h ⊢
      exact bst_none h
/-- what isn't borne counts as nothing -/
theorem hif_mask (b : Nat → Int32) (o e : Nat → Bool) : ∀ n, hif b (fun f => e f && o f) n = hif (fun f => if o f = true then b f else 0) e n
  | 0 => rfl
  | n + 1 => by
    unfold hif
    rw [hif_mask b o e n]
    by_cases he : e n = true
    · by_cases ho : o n = true
      · simp [he, ho]
      · simp [he, ho, hif_pos]
    · simp [he]
theorem bst_mask (b : Nat → Int32) (o e : Nat → Bool) : ∀ n, bst b (fun f => e f && o f) n = bst (fun f => if o f = true then b f else 0) e n
  | 0 => rfl
  | n + 1 => by
    unfold bst
    rw [bst_mask b o e n, hif_mask b o e n]
    by_cases he : e n = true
    · by_cases ho : o n = true
      · simp [he, ho]
      · simp [he, ho, hif_pos]
    · simp [he]
def enc (none_ : Int32) (r : Option Nat) : Int32 := match r with
  | none => none_
  | some f => nI f
theorem cc_highest (x : BD) {K : Nat} (hK : K < 48) (hv bf : Int32) : fX0_highest x (nI K) hv bf = some (hif (fun f => x.2 (f * 48 + K)) (fun f => (!decide (nI f = bf)) && !decide (hv < x.1 (f * 48 + K))) 6) := by
  unfold fX0_highest
  have h := lpN (fun fu k => fX0_highest_L0 x (nI K) hv bf fu (hif (fun f => x.2 (f * 48 + K)) (fun f => (!decide (nI f = bf)) && !decide (hv < x.1 (f * 48 + K))) k) (nI k)) 6 _ (fun fu k hk => by
    show fX0_highest_L0 x (nI K) hv bf (fu + 1) _ _ = _
    rw [fX0_highest_L0, if_neg (nle6 hk), cell_nI, rat_nI (by omega) (by omega), rat_nI (by omega) (by omega), nI_1]
    simp only [bnd]
    show _ = fX0_highest_L0 x (nI K) hv bf fu (if _ = true then _ else _) _
    by_cases h1 : nI k = bf
    · simp [h1]
    · by_cases h2 : hv < x.1 (k * 48 + K)
      · simp [h1, h2]
      · rw [if_neg h1, if_neg h2]
        simp only [h1, h2, decide_false, Bool.not_false, Bool.and_self, if_pos]
        by_cases h3 : x.2 (k * 48 + K) ≤ hif (fun f => x.2 (f * 48 + K)) (fun f => (!decide (nI f = bf)) && !decide (hv < x.1 (f * 48 + K))) k
        · rw [if_pos h3, if_pos h3]
        · rw [if_neg h3, if_neg h3]) (fun fu => by
    show fX0_highest_L0 x (nI K) hv bf (fu + 1) _ _ = _
    rw [fX0_highest_L0, if_pos ler6]) 1000 0 (by omega) (by omega)
  have h2 : fX0_highest_L0 x (nI K) hv bf 1000 0 0 = some (hif (fun f => x.2 (f * 48 + K)) (fun f => (!decide (nI f = bf)) && !decide (hv < x.1 (f * 48 + K))) 6) := h
  rw [h2]
  rfl
theorem cc_winner (x : BD) {K : Nat} (hK : K < 48) (hv : Int32) : fX0_winner x (nI K) hv = some (enc (-5) (bst (fun f => x.2 (f * 48 + K)) (fun f => !decide (hv < x.1 (f * 48 + K))) 6)) := by
  unfold fX0_winner
  have h := lpN (fun fu k => fX0_winner_L0 x (nI K) hv fu (enc (-5) (bst (fun f => x.2 (f * 48 + K)) (fun f => !decide (hv < x.1 (f * 48 + K))) k)) (hif (fun f => x.2 (f * 48 + K)) (fun f => !decide (hv < x.1 (f * 48 + K))) k) (nI k)) 6 _ (fun fu k hk => by
    show fX0_winner_L0 x (nI K) hv (fu + 1) _ _ _ = _
    rw [fX0_winner_L0, if_neg (nle6 hk), cell_nI, rat_nI (by omega) (by omega), rat_nI (by omega) (by omega), nI_1]
    simp only [bnd]
    show _ = fX0_winner_L0 x (nI K) hv fu (enc (-5) (if _ = true then _ else _)) (if _ = true then _ else _) _
    by_cases h2 : hv < x.1 (k * 48 + K)
    · simp only [h2, decide_true, Bool.not_true, if_true, ite_self]
      rfl
    · rw [if_neg h2]
      simp only [h2, decide_false, Bool.not_false, if_pos]
      by_cases h3 : x.2 (k * 48 + K) ≤ hif (fun f => x.2 (f * 48 + K)) (fun f => !decide (hv < x.1 (f * 48 + K))) k
      · rw [if_pos h3, if_pos h3, if_pos h3]
      · rw [if_neg h3, if_neg h3, if_neg h3]
        rfl) (fun fu => by
    show fX0_winner_L0 x (nI K) hv (fu + 1) _ _ _ = _
    rw [fX0_winner_L0, if_pos ler6]) 1000 0 (by omega) (by omega)
  have h2 : fX0_winner_L0 x (nI K) hv 1000 (-5) 0 0 = some (enc (-5) (bst (fun f => x.2 (f * 48 + K)) (fun f => !decide (hv < x.1 (f * 48 + K))) 6)) := h
  rw [h2]
  rfl

/-- what a firm offers, if it is borne -/
def brn (S : AF) (B K f : Nat) : Int32 := if (70 - S (B + 243 + 6 * K + f)) < S (B + 35 + K % 16) then 0 else S (B + 531 + 6 * K + f)
theorem mm_borne (M : MD) {B K F : Nat} (hB : B + 835 ≤ 5845) (hK : K < 48) (hF : F < 6) : fX9_borne M (nI B) (nI K) (nI F) = some (brn M.1 B K F) := by
  unfold fX9_borne
  have e1 : ((nI B + 243) + (6 * nI K)) + nI F = nI (B + 243 + 6 * K + F) := ix6 B 243 K F
  have e2 : ((nI B + 531) + (6 * nI K)) + nI F = nI (B + 531 + 6 * K + F) := ix6 B 531 K F
  have e0 : nI K - nI K / 16 * 16 = nI (K % 16) := pk_rem (d := 16) (by omega) (by omega) (by omega)
  have e3 : (nI B + 35) + (nI K - nI K / 16 * 16) = nI (B + 35 + K % 16) := by rw [e0]; exact ix2 B 35 (K % 16)
  have hm : K % 16 < 16 := Nat.mod_lt _ (by omega)
  rw [e1, e2, e3, if_pos (ib_nI (by omega) (by omega)), if_pos (ib_nI (by omega) (by omega)), nI_clamp (by omega), nI_clamp (by omega)]
  show (if fX9_bears _ _ = 0 then some 0 else _) = _
  rw [if_pos (ib_nI (by omega) (by omega)), nI_clamp (by omega)]
  unfold brn
  by_cases h : (70 - M.1 (B + 243 + 6 * K + F)) < M.1 (B + 35 + K % 16)
  · rw [if_pos h, if_pos (show fX9_bears (M.1 (B + 243 + 6 * K + F)) (M.1 (B + 35 + K % 16)) = 0 from if_pos h)]
  · rw [if_neg h, if_neg (show ¬ fX9_bears (M.1 (B + 243 + 6 * K + F)) (M.1 (B + 35 + K % 16)) = 0 by unfold fX9_bears; rw [if_neg h]; decide)]
theorem enc_neg {r : Option Nat} {n : Nat} (hn : ∀ f, r = some f → f < n) (h31 : n < 2 ^ 31) {z : Int32} (hz : z < 0) : (0 ≤ enc z r) ↔ r ≠ none := by
  cases r with
  | none =>
    constructor
    · intro h
      exact absurd hz (Int32.not_lt.mpr h)
    · intro h
      exact absurd rfl h
  | some f =>
    constructor
    · intro _ h
      cases h
    · intro _
      exact nI_pos' (by have := hn f rfl; omega)
theorem mm_best (M : MD) {B K : Nat} (hB : B + 835 ≤ 5845) (hK : K < 48) (wo : Int32) : fX9_best M (nI B) (nI K) wo = some (enc (-1) (bst (brn M.1 B K) (fun f => !decide (nI f = wo)) 6)) := by
  unfold fX9_best
  have h := lpN (fun fu k => fX9_best_L0 M (nI B) (nI K) wo fu (enc (-1) (bst (brn M.1 B K) (fun f => !decide (nI f = wo)) k)) (nI k)) 6 _ (fun fu k hk => by
    show fX9_best_L0 M (nI B) (nI K) wo (fu + 1) _ _ = _
    rw [fX9_best_L0, if_neg (nle6 hk), mm_borne M hB hK hk, nI_1]
    show _ = fX9_best_L0 M (nI B) (nI K) wo fu (enc (-1) (if _ = true then _ else _)) _
    by_cases h1 : nI k = wo
    · simp [h1]
    · rw [if_neg h1]
      simp only [h1, decide_false, Bool.not_false, if_pos, Option.bind_some]
      cases hr : bst (brn M.1 B K) (fun f => !decide (nI f = wo)) k with
      | none =>
        rw [if_neg (show ¬ (0 : Int32) ≤ enc (-1) none by decide), bst_none hr]
        by_cases h3 : brn M.1 B K k ≤ 0
        · rw [if_pos h3, if_pos h3]
        · rw [if_neg h3, if_neg h3]
          rfl
      | some f =>
        obtain ⟨q1, q2, q3, q4⟩ := bst_some hr
        rw [if_pos (show (0 : Int32) ≤ enc (-1) (some f) from nI_pos' (by omega))]
        show (fX9_borne M (nI B) (nI K) (nI f)).bind _ = _
        rw [mm_borne M hB hK (by omega), q3]
        simp only [Option.bind_some]
        by_cases h3 : brn M.1 B K k ≤ brn M.1 B K f
        · rw [if_pos h3, if_pos h3]
        · rw [if_neg h3, if_neg h3]
          rfl) (fun fu => by
    show fX9_best_L0 M (nI B) (nI K) wo (fu + 1) _ _ = _
    rw [fX9_best_L0, if_pos ler6]) 1000 0 (by omega) (by omega)
  have h2 : fX9_best_L0 M (nI B) (nI K) wo 1000 (-1) 0 = some (enc (-1) (bst (brn M.1 B K) (fun f => !decide (nI f = wo)) 6)) := h
  rw [h2]
  rfl
