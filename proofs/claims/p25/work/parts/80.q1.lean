/-! LAYER 2: loops with a counter, indices, the class' bids (begun with rows of the whole claim) -/
theorem lpN {ρ : Type} (F : Nat → Nat → Option ρ) (N : Nat) (out : ρ) (hs : ∀ fu k, k < N → F (fu + 1) k = F fu (k + 1)) (he : ∀ fu, F (fu + 1) N = some out) (fu k0 : Nat) (h0 : k0 ≤ N) (h : N - k0 < fu) : F fu k0 = some out := by
  have key : ∀ (d k fu : Nat), k + d = N → d < fu → F fu k = some out := by
    intro d
    induction d with
    | zero =>
      intro k fu hk hf
      obtain ⟨fu, rfl⟩ : ∃ q, fu = q + 1 := ⟨fu - 1, by omega⟩
      rw [show k = N by omega]
      exact he fu
    | succ d ih =>
      intro k fu hk hf
      obtain ⟨fu, rfl⟩ : ∃ q, fu = q + 1 := ⟨fu - 1, by omega⟩
      rw [hs fu k (by omega)]
      exact ih (k + 1) fu (by omega) (by omega)
  exact key (N - k0) k0 fu (by omega) h
theorem nle3 {k : Nat} (h : k < 3) : ¬ (3 : Int32) ≤ nI k := nI_ge (b := 3) h (by omega)
theorem ler3 : (3 : Int32) ≤ nI 3 := Int32.le_refl _
theorem nle4 {k : Nat} (h : k < 4) : ¬ (4 : Int32) ≤ nI k := nI_ge (b := 4) h (by omega)
theorem ler4 : (4 : Int32) ≤ nI 4 := Int32.le_refl _
theorem nle6 {k : Nat} (h : k < 6) : ¬ (6 : Int32) ≤ nI k := nI_ge (b := 6) h (by omega)
theorem ler6 : (6 : Int32) ≤ nI 6 := Int32.le_refl _
theorem nle16 {k : Nat} (h : k < 16) : ¬ (16 : Int32) ≤ nI k := nI_ge (b := 16) h (by omega)
theorem ler16 : (16 : Int32) ≤ nI 16 := Int32.le_refl _
theorem nle48 {k : Nat} (h : k < 48) : ¬ (48 : Int32) ≤ nI k := nI_ge (b := 48) h (by omega)
theorem ler48 : (48 : Int32) ≤ nI 48 := Int32.le_refl _
theorem rat_nI {f : AF} {n k : Nat} (h : k < n) (hn : n < 2 ^ 31) : rat f n (nI k) = f k := by
  unfold rat
  rw [if_neg (nI_pos (by omega)), if_neg (nI_ge h hn), nI_clamp (by omega)]
theorem rput_nI {f : AF} {n k : Nat} {v : Int32} (h : k < n) (hn : n < 2 ^ 31) : rput f n (nI k) v = upd f k v := by
  unfold rput
  rw [if_neg (nI_pos (by omega)), if_neg (nI_ge h hn), nI_clamp (by omega)]
theorem radd_nI {f : AF} {n k : Nat} {v : Int32} (h : k < n) (hn : n < 2 ^ 31) : radd f n (nI k) v = upd f k (f k + v) := by
  unfold radd
  rw [if_neg (nI_pos (by omega)), if_neg (nI_ge h hn), nI_clamp (by omega)]
theorem upd_s {f : AF} {k : Nat} {v : Int32} : upd f k v k = v := by simp [upd]
theorem upd_n {f : AF} {k j : Nat} {v : Int32} (h : j ≠ k) : upd f k v j = f j := by simp [upd, h]
theorem cell_nI {f k : Nat} : fX0_cellOf (nI f) (nI k) = nI (f * 48 + k) := by
  unfold fX0_cellOf
  rw [show (48 : Int32) = nI 48 from rfl, pk_mul, nI_add]
theorem slot_nI {c h : Nat} : fX8_slotOf (nI c) (nI h) = nI (c * 16 + h) := by
  unfold fX8_slotOf
  rw [show (16 : Int32) = nI 16 from rfl, pk_mul, nI_add]
/-- 1 where a number is above 0 -/
def pos1 (v : Int32) : Int32 := if v ≤ 0 then 0 else 1
theorem rsum_congr {f h : AF} : ∀ {n : Nat}, (∀ j, j < n → f j = h j) → rsum f n = rsum h n
  | 0, _ => rfl
  | n + 1, e => by
    show rsum f n + f n = rsum h n + h n
    rw [rsum_congr (fun j hj => e j (by omega)), e n (by omega)]
theorem cc_countFor (x : BD) {K : Nat} (hK : K < 48) : fX0_countFor x (nI K) = some (rsum (fun f => pos1 (x.2 (f * 48 + K))) 6) := by
  unfold fX0_countFor
  have h := lpN (fun fu k => fX0_countFor_L0 x (nI K) fu (rsum (fun f => pos1 (x.2 (f * 48 + K))) k) (nI k)) 6 _ (fun fu k hk => by
    show fX0_countFor_L0 x (nI K) (fu + 1) _ _ = _
    rw [fX0_countFor_L0, if_neg (nle6 hk), cell_nI, rat_nI (by omega) (by omega), nI_1]
    by_cases hv : x.2 (k * 48 + K) ≤ 0
    · rw [if_pos hv]; show _ = fX0_countFor_L0 x (nI K) fu (rsum _ k + pos1 _) _; rw [pos1, if_pos hv]
    · rw [if_neg hv]; show _ = fX0_countFor_L0 x (nI K) fu (rsum _ k + pos1 _) _; rw [pos1, if_neg hv]) (fun fu => by
    show fX0_countFor_L0 x (nI K) (fu + 1) _ _ = _
    rw [fX0_countFor_L0, if_pos ler6]) 1000 0 (by omega) (by omega)
  have h2 : fX0_countFor_L0 x (nI K) 1000 0 0 = some (rsum (fun f => pos1 (x.2 (f * 48 + K))) 6) := h
  rw [h2]
  rfl
theorem cc_countOf (x : BD) {F : Nat} (hF : F < 6) : fX0_countOf x (nI F) = some (rsum (fun k => pos1 (x.2 (F * 48 + k))) 48) := by
  unfold fX0_countOf
  have h := lpN (fun fu k => fX0_countOf_L0 x (nI F) fu (rsum (fun k => pos1 (x.2 (F * 48 + k))) k) (nI k)) 48 _ (fun fu k hk => by
    show fX0_countOf_L0 x (nI F) (fu + 1) _ _ = _
    rw [fX0_countOf_L0, if_neg (nle48 hk), cell_nI, rat_nI (by omega) (by omega), nI_1]
    by_cases hv : x.2 (F * 48 + k) ≤ 0
    · rw [if_pos hv]; show _ = fX0_countOf_L0 x (nI F) fu (rsum _ k + pos1 _) _; rw [pos1, if_pos hv]
    · rw [if_neg hv]; show _ = fX0_countOf_L0 x (nI F) fu (rsum _ k + pos1 _) _; rw [pos1, if_neg hv]) (fun fu => by
    show fX0_countOf_L0 x (nI F) (fu + 1) _ _ = _
    rw [fX0_countOf_L0, if_pos ler48]) 1000 0 (by omega) (by omega)
  have h2 : fX0_countOf_L0 x (nI F) 1000 0 0 = some (rsum (fun k => pos1 (x.2 (F * 48 + k))) 48) := h
  rw [h2]
  rfl
theorem cc_countAll (x : BD) : fX0_countAll x = some (rsum (fun f => rsum (fun k => pos1 (x.2 (f * 48 + k))) 48) 6) := by
  unfold fX0_countAll
  have h := lpN (fun fu k => fX0_countAll_L0 x fu (rsum (fun f => rsum (fun k => pos1 (x.2 (f * 48 + k))) 48) k) (nI k)) 6 _ (fun fu k hk => by
    show fX0_countAll_L0 x (fu + 1) _ _ = _
    rw [fX0_countAll_L0, if_neg (nle6 hk), cc_countOf x hk, nI_1]
    rfl) (fun fu => by
    show fX0_countAll_L0 x (fu + 1) _ _ = _
    rw [fX0_countAll_L0, if_pos ler6]) 1000 0 (by omega) (by omega)
  have h2 : fX0_countAll_L0 x 1000 0 0 = some (rsum (fun f => rsum (fun k => pos1 (x.2 (f * 48 + k))) 48) 6) := h
  rw [h2]
  rfl
theorem cc_offeredBy (x : BD) {F : Nat} (hF : F < 6) : fX0_offeredBy x (nI F) = some (rsum (fun k => x.2 (F * 48 + k)) 48) := by
  unfold fX0_offeredBy
  have h := lpN (fun fu k => fX0_offeredBy_L0 x (nI F) fu (rsum (fun k => x.2 (F * 48 + k)) k) (nI k)) 48 _ (fun fu k hk => by
    show fX0_offeredBy_L0 x (nI F) (fu + 1) _ _ = _
    rw [fX0_offeredBy_L0, if_neg (nle48 hk), cell_nI, rat_nI (by omega) (by omega), nI_1]
    rfl) (fun fu => by
    show fX0_offeredBy_L0 x (nI F) (fu + 1) _ _ = _
    rw [fX0_offeredBy_L0, if_pos ler48]) 1000 0 (by omega) (by omega)
  have h2 : fX0_offeredBy_L0 x (nI F) 1000 0 0 = some (rsum (fun k => x.2 (F * 48 + k)) 48) := h
  rw [h2]
  rfl
def hif (b : Nat → Int32) (e : Nat → Bool) : Nat → Int32
  | 0 => 0
  | n + 1 => if e n = true then (if b n ≤ hif b e n then hif b e n else b n) else hif b e n
def bst (b : Nat → Int32) (e : Nat → Bool) : Nat → Option Nat
  | 0 => none
  | n + 1 => if e n = true then (if b n ≤ hif b e n then bst b e n else some n) else bst b e n
theorem hif_pos (b : Nat → Int32) (e : Nat → Bool) : ∀ n, 0 ≤ hif b e n
  | 0 => Int32.le_refl _
  | n + 1 => by
    have h := hif_pos b e n
    unfold hif
    split
    · split
      · exact h
      · rename_i h2
        exact Int32.le_trans h (Int32.le_of_lt (Int32.not_le.mp h2))
    · exact h
theorem hif_congr {b b' : Nat → Int32} {e e' : Nat → Bool} : ∀ {n : Nat}, (∀ j, j < n → b j = b' j ∧ e j = e' j) → hif b e n = hif b' e' n
  | 0, _ => rfl
  | n + 1, h => by
    unfold hif
    rw [hif_congr (fun j hj => h j (by omega)), (h n (by omega)).1, (h n (by omega)).2]
theorem bst_congr {b b' : Nat → Int32} {e e' : Nat → Bool} : ∀ {n : Nat}, (∀ j, j < n → b j = b' j ∧ e j = e' j) → bst b e n = bst b' e' n
  | 0, _ => rfl
  | n + 1, h => by
    unfold bst
    rw [bst_congr (fun j hj => h j (by omega)), hif_congr (fun j hj => h j (by omega)), (h n (by omega)).1, (h n (by omega)).2]
theorem bst_some {b : Nat → Int32} {e : Nat → Bool} : ∀ {n f : Nat}, bst b e n = some f → f < n ∧ e f = true ∧ hif b e n = b f ∧ 0 < b f
  | 0, f, h => by simp [bst] at h
  | n + 1, f, h => by
    unfold bst at h
    unfold hif
    by_cases he : e n = true
    · rw [if_pos he] at h ⊢
      by_cases hb : b n ≤ hif b e n
      · rw [if_pos hb] at h ⊢
        obtain ⟨h1, h2, h3, h4⟩ := bst_some h
        exact ⟨by omega, h2, h3, h4⟩
      · rw [if_neg hb] at h ⊢
        cases h
        exact ⟨by omega, he, rfl, Int32.lt_of_le_of_lt (hif_pos b e n) (Int32.not_le.mp hb)⟩
    · rw [if_neg he] at h ⊢
      obtain ⟨h1, h2, h3, h4⟩ := bst_some h
      exact ⟨by omega, h2, h3, h4⟩
theorem bst_none {b : Nat → Int32} {e : Nat → Bool} : ∀ {n : Nat}, bst b e n = none → hif b e n = 0
  | 0, _ => rfl
  | n + 1, h => by
    unfold bst at h
    unfold hif
    by_cases he : e n = true
    · rw [if_pos he] at h ⊢
      by_cases hb : b n ≤ hif b e n
      · rw [if_pos hb] at h ⊢
        exact bst_none h
      · rw [if_neg hb] at h
        cases h
    · rw [if_neg he] at h ⊢
      exact bst_none h
/-- what isn't borne counts as nothing -/
theorem hif_mask (b : Nat → Int32) (o e : Nat → Bool) : ∀ n, hif b (fun f => e f && o f) n = hif (fun f => if o f = true then b f else 0) e n
  | 0 => rfl
  | n + 1 => by
    unfold hif
    rw [hif_mask b o e n]
    by_cases he : e n = true
    · by_cases ho : o n = true
      · simp [he, ho]
      · simp [he, ho, hif_pos]
    · simp [he]
theorem bst_mask (b : Nat → Int32) (o e : Nat → Bool) : ∀ n, bst b (fun f => e f && o f) n = bst (fun f => if o f = true then b f else 0) e n
  | 0 => rfl
  | n + 1 => by
    unfold bst
    rw [bst_mask b o e n, hif_mask b o e n]
    by_cases he : e n = true
    · by_cases ho : o n = true
      · simp [he, ho]
      · simp [he, ho, hif_pos]
    · simp [he]
def enc (none_ : Int32) (r : Option Nat) : Int32 := match r with
  | none => none_
  | some f => nI f
theorem cc_highest (x : BD) {K : Nat} (hK : K < 48) (hv bf : Int32) : fX0_highest x (nI K) hv bf = some (hif (fun f => x.2 (f * 48 + K)) (fun f => (!decide (nI f = bf)) && !decide (hv < x.1 (f * 48 + K))) 6) := by
  unfold fX0_highest
  have h := lpN (fun fu k => fX0_highest_L0 x (nI K) hv bf fu (hif (fun f => x.2 (f * 48 + K)) (fun f => (!decide (nI f = bf)) && !decide (hv < x.1 (f * 48 + K))) k) (nI k)) 6 _ (fun fu k hk => by
    show fX0_highest_L0 x (nI K) hv bf (fu + 1) _ _ = _
    rw [fX0_highest_L0, if_neg (nle6 hk), cell_nI, rat_nI (by omega) (by omega), rat_nI (by omega) (by omega), nI_1]
    simp only [bnd]
    show _ = fX0_highest_L0 x (nI K) hv bf fu (if _ = true then _ else _) _
    by_cases h1 : nI k = bf
    · simp [h1]
    · by_cases h2 : hv < x.1 (k * 48 + K)
      · simp [h1, h2]
      · rw [if_neg h1, if_neg h2]
        simp only [h1, h2, decide_false, Bool.not_false, Bool.and_self, if_pos]
        by_cases h3 : x.2 (k * 48 + K) ≤ hif (fun f => x.2 (f * 48 + K)) (fun f => (!decide (nI f = bf)) && !decide (hv < x.1 (f * 48 + K))) k
        · rw [if_pos h3, if_pos h3]
        · rw [if_neg h3, if_neg h3]) (fun fu => by
    show fX0_highest_L0 x (nI K) hv bf (fu + 1) _ _ = _
    rw [fX0_highest_L0, if_pos ler6]) 1000 0 (by omega) (by omega)
  have h2 : fX0_highest_L0 x (nI K) hv bf 1000 0 0 = some (hif (fun f => x.2 (f * 48 + K)) (fun f => (!decide (nI f = bf)) && !decide (hv < x.1 (f * 48 + K))) 6) := h
  rw [h2]
  rfl
theorem cc_winner (x : BD) {K : Nat} (hK : K < 48) (hv : Int32) : fX0_winner x (nI K) hv = some (enc (-5) (bst (fun f => x.2 (f * 48 + K)) (fun f => !decide (hv < x.1 (f * 48 + K))) 6)) := by
  unfold fX0_winner
  have h := lpN (fun fu k => fX0_winner_L0 x (nI K) hv fu (enc (-5) (bst (fun f => x.2 (f * 48 + K)) (fun f => !decide (hv < x.1 (f * 48 + K))) k)) (hif (fun f => x.2 (f * 48 + K)) (fun f => !decide (hv < x.1 (f * 48 + K))) k) (nI k)) 6 _ (fun fu k hk => by
    show fX0_winner_L0 x (nI K) hv (fu + 1) _ _ _ = _
    rw [fX0_winner_L0, if_neg (nle6 hk), cell_nI, rat_nI (by omega) (by omega), rat_nI (by omega) (by omega), nI_1]
    simp only [bnd]
    show _ = fX0_winner_L0 x (nI K) hv fu (enc (-5) (if _ = true then _ else _)) (if _ = true then _ else _) _
    by_cases h2 : hv < x.1 (k * 48 + K)
    · simp only [h2, decide_true, Bool.not_true, if_true, ite_self]
      rfl
    · rw [if_neg h2]
      simp only [h2, decide_false, Bool.not_false, if_pos]
      by_cases h3 : x.2 (k * 48 + K) ≤ hif (fun f => x.2 (f * 48 + K)) (fun f => !decide (hv < x.1 (f * 48 + K))) k
      · rw [if_pos h3, if_pos h3, if_pos h3]
      · rw [if_neg h3, if_neg h3, if_neg h3]
        rfl) (fun fu => by
    show fX0_winner_L0 x (nI K) hv (fu + 1) _ _ _ = _
    rw [fX0_winner_L0, if_pos ler6]) 1000 0 (by omega) (by omega)
  have h2 : fX0_winner_L0 x (nI K) hv 1000 (-5) 0 0 = some (enc (-5) (bst (fun f => x.2 (f * 48 + K)) (fun f => !decide (hv < x.1 (f * 48 + K))) 6)) := h
  rw [h2]
  rfl
theorem enc_neg {r : Option Nat} {n : Nat} (hn : ∀ f, r = some f → f < n) (h31 : n < 2 ^ 31) {z : Int32} (hz : z < 0) : (0 ≤ enc z r) ↔ r ≠ none := by
  cases r with
  | none =>
    constructor
    · intro h
      exact absurd hz (Int32.not_lt.mpr h)
    · intro h
      exact absurd rfl h
  | some f =>
    constructor
    · intro _ h
      cases h
    · intro _
      exact nI_pos' (by have := hn f rfl; omega)
def nsum (f : Nat → Nat) : Nat → Nat
  | 0 => 0
  | n + 1 => nsum f n + f n
def pos1n (v : Int32) : Nat := if v ≤ 0 then 0 else 1
def cntB (bo : AF) : Nat := nsum (fun f => nsum (fun k => pos1n (bo (f * 48 + k))) 48) 6
/-- what a firm offers in all -/
def ofB (bo : AF) (f : Nat) : Nat := nsum (fun k => (bo (f * 48 + k)).toNatClampNeg) 48
def rmS (x : BD) (K : Nat) : Nat → BD
  | 0 => x
  | n + 1 => (upd (rmS x K n).1 (n * 48 + K) 0, upd (rmS x K n).2 (n * 48 + K) 0)
theorem rmS_out {x : BD} {K i : Nat} : ∀ {n : Nat}, (∀ f, f < n → i ≠ f * 48 + K) → (rmS x K n).1 i = x.1 i ∧ (rmS x K n).2 i = x.2 i
  | 0, _ => ⟨rfl, rfl⟩
  | n + 1, h => by
    unfold rmS
    show upd _ _ _ _ = _ ∧ upd _ _ _ _ = _
    rw [upd_n (h n (by omega)), upd_n (h n (by omega))]
    exact rmS_out (fun f hf => h f (by omega))
theorem rmS_in {x : BD} {K : Nat} : ∀ {n : Nat}, ∀ f, f < n → (rmS x K n).1 (f * 48 + K) = 0 ∧ (rmS x K n).2 (f * 48 + K) = 0
  | 0, f, hf => absurd hf (by omega)
  | n + 1, f, hf => by
    unfold rmS
    show upd _ _ _ _ = _ ∧ upd _ _ _ _ = _
    by_cases h : f = n
    · subst h
      rw [upd_s, upd_s]
      exact ⟨rfl, rfl⟩
    · rw [upd_n (by omega), upd_n (by omega)]
      exact rmS_in f (by omega)
theorem set_nI (x : BD) {f K : Nat} (hf : f < 6) (hK : K < 48) (w o : Int32) : fX0_set x (nI f) (nI K) w o = (upd x.1 (f * 48 + K) w, upd x.2 (f * 48 + K) o) := by
  unfold fX0_set
  rw [cell_nI, rput_nI (by omega) (by omega), rput_nI (by omega) (by omega)]
theorem cc_removeAll (x : BD) {K : Nat} (hK : K < 48) : fX0_removeAll x (nI K) = some (rmS x K 6) := by
  unfold fX0_removeAll
  have h := lpN (fun fu k => fX0_removeAll_L0 (nI K) fu (nI k) (rmS x K k)) 6 _ (fun fu k hk => by
    show fX0_removeAll_L0 (nI K) (fu + 1) _ _ = _
    rw [fX0_removeAll_L0, if_neg (nle6 hk), set_nI _ hk hK, nI_1]
    rfl) (fun fu => by
    show fX0_removeAll_L0 (nI K) (fu + 1) _ _ = _
    rw [fX0_removeAll_L0, if_pos ler6]) 1000 0 (by omega) (by omega)
  have h2 : fX0_removeAll_L0 (nI K) 1000 0 x = some (rmS x K 6) := h
  rw [h2]
  rfl
theorem nsum_le {f h : Nat → Nat} : ∀ {n : Nat}, (∀ j, j < n → f j ≤ h j) → nsum f n ≤ nsum h n
  | 0, _ => Nat.le_refl _
  | n + 1, e => by
    unfold nsum
    have h1 := nsum_le (n := n) (fun j hj => e j (by omega))
    have h2 := e n (by omega)
    omega
theorem nsum_congr {f h : Nat → Nat} : ∀ {n : Nat}, (∀ j, j < n → f j = h j) → nsum f n = nsum h n
  | 0, _ => rfl
  | n + 1, e => by
    unfold nsum
    rw [nsum_congr (fun j hj => e j (by omega)), e n (by omega)]
theorem cnt_rm (x : BD) (K : Nat) (hK : K < 48) : cntB (rmS x K 6).2 ≤ cntB x.2 := by
  unfold cntB
  refine nsum_le (fun f hf => nsum_le (fun k hk => ?_))
  by_cases h : k = K
  · subst h
    rw [(rmS_in f hf).2]
    exact Nat.zero_le _
  · rw [(rmS_out (i := f * 48 + k) (fun f' hf' => by omega)).2]
    exact Nat.le_refl _
theorem rgI (p : Int32) (lo hi : Nat) (h : lo < 2 ^ 31) (h2 : hi < 2 ^ 31) : (p < nI lo ∨ nI hi < p) ∨ ∃ j, lo ≤ j ∧ j ≤ hi ∧ p = nI j := by
  by_cases h1 : p < nI lo
  · exact .inl (.inl h1)
  by_cases h3 : nI hi < p
  · exact .inl (.inr h3)
  obtain ⟨j, hj, rfl⟩ := nI_of (x := p) (fun hq => h1 (Int32.lt_of_lt_of_le hq (nI_pos' h)))
  exact .inr ⟨j, Nat.not_lt.mp (fun q => h1 ((nI_ltI hj h).mpr q)), Nat.not_lt.mp (fun q => h3 ((nI_ltI h2 hj).mpr q)), rfl⟩
theorem suc_le {n : Nat} {p : Int32} (hn : n + 1 < 2 ^ 31) (h : nI n < p) : nI (n + 1) ≤ p := Int32.le_iff_toInt_le.mpr (by
  have h2 := Int32.lt_iff_toInt_lt.mp h
  rw [nI_toInt (by omega)] at h2
  rw [nI_toInt hn]
  omega)
theorem fL_nI {c : Nat} (hc : c < 3) : rat fL 3 (nI c) = nI (20 + 20 * c) := by
  rw [rat_nI hc (by omega)]
  rcases (show c = 0 ∨ c = 1 ∨ c = 2 by omega) with rfl | rfl | rfl <;> rfl
theorem n70 {w d : Nat} (hw : w < 2 ^ 30) (hd : d < 2 ^ 30) : (70 : Int32) - nI w < nI d ↔ 70 < w + d := by
  have h := pk_sub_toInt (a := 70) (b := w) (by omega) hw
  rw [show (70 : Int32) = nI 70 from rfl, Int32.lt_iff_toInt_lt, h, nI_toInt (by omega)]
  omega
theorem heav_nI {c d : Nat} (hc : c < 3) (hd : d ≤ 99) : fX8_heaviestAt (nI c) (nI d) = nI (min (70 - d) (20 + 20 * c)) := by
  unfold fX8_heaviestAt
  rw [fL_nI hc]
  have e1 : (70 : Int32) - nI d < nI (20 + 20 * c) ↔ 70 < d + (20 + 20 * c) := n70 (by omega) (by omega)
  by_cases h1 : 70 < d + (20 + 20 * c)
  · rw [if_pos (e1.mpr h1)]
    by_cases h2 : d < 70
    · have e2 : (70 : Int32) - nI d = nI (70 - d) := pk_sub (a := 70) (by omega)
      rw [e2, if_pos (show (0 : Int32) < nI (70 - d) from nI_lt (a := 0) (by omega) (by omega)), show min (70 - d) (20 + 20 * c) = 70 - d by omega]
    · have e3 : ¬ (0 : Int32) < 70 - nI d := by
        rw [Int32.lt_iff_toInt_lt, show (70 : Int32) = nI 70 from rfl, pk_sub_toInt (by omega) (by omega)]
        show ¬ (0 : Int) < _
        omega
      rw [if_neg e3, show min (70 - d) (20 + 20 * c) = 0 by omega]
      rfl
  · rw [if_neg (fun q => h1 (e1.mp q)), if_pos (show (0 : Int32) < nI (20 + 20 * c) from nI_lt (a := 0) (by omega) (by omega)), show min (70 - d) (20 + 20 * c) = 20 + 20 * c by omega]
theorem nsum_off {g h : Nat → Nat} {K : Nat} : ∀ {n : Nat}, K < n → (∀ j, j < n → j ≠ K → g j = h j) → nsum g n + h K = nsum h n + g K
  | 0, hK, _ => absurd hK (by omega)
  | n + 1, hK, e => by
    unfold nsum
    by_cases q : K = n
    · subst q
      rw [nsum_congr (fun j hj => e j (by omega) (by omega))]
      omega
    · have h1 := nsum_off (n := n) (by omega) (fun j hj hq => e j (by omega) hq)
      have h2 := e n (by omega) (fun q2 => q q2.symm)
      omega
theorem ofB_upd (bo : AF) {F K : Nat} {v : Int32} (hK : K < 48) : ofB (upd bo (F * 48 + K) v) F + (bo (F * 48 + K)).toNatClampNeg = ofB bo F + v.toNatClampNeg := by
  have h := nsum_off (g := fun k => (upd bo (F * 48 + K) v (F * 48 + k)).toNatClampNeg) (h := fun k => (bo (F * 48 + k)).toNatClampNeg) hK (fun j hj hq => by
    show (upd _ _ _ _).toNatClampNeg = _
    rw [upd_n (by omega)])
  rw [upd_s] at h
  exact h
theorem ofB_oth (bo : AF) {F F' K : Nat} {v : Int32} (hK : K < 48) (h : F' ≠ F) : ofB (upd bo (F * 48 + K) v) F' = ofB bo F' := nsum_congr (fun k hk => by
    show (upd _ _ _ _).toNatClampNeg = _
    rw [upd_n (by omega)])
theorem cntB_upd (bo : AF) {F K : Nat} {v : Int32} (hF : F < 6) (hK : K < 48) : cntB (upd bo (F * 48 + K) v) + pos1n (bo (F * 48 + K)) = cntB bo + pos1n v := by
  have h1 := nsum_off (g := fun k => pos1n (upd bo (F * 48 + K) v (F * 48 + k))) (h := fun k => pos1n (bo (F * 48 + k))) hK (fun j hj hq => by
    show pos1n (upd _ _ _ _) = _
    rw [upd_n (by omega)])
  rw [upd_s] at h1
  have h2 := nsum_off (g := fun f => nsum (fun k => pos1n (upd bo (F * 48 + K) v (f * 48 + k))) 48) (h := fun f => nsum (fun k => pos1n (bo (f * 48 + k))) 48) hF (fun f hf hq => nsum_congr (fun k hk => by
    show pos1n (upd _ _ _ _) = _
    rw [upd_n (by omega)]))
  unfold cntB
  omega
theorem ofB_rm (x : BD) {F K : Nat} (hF : F < 6) (hK : K < 48) : ofB (rmS x K 6).2 F + (x.2 (F * 48 + K)).toNatClampNeg = ofB x.2 F := by
  have h := nsum_off (g := fun k => ((rmS x K 6).2 (F * 48 + k)).toNatClampNeg) (h := fun k => (x.2 (F * 48 + k)).toNatClampNeg) hK (fun j hj hq => by
    show ((rmS x K 6).2 (F * 48 + j)).toNatClampNeg = _
    rw [(rmS_out (i := F * 48 + j) (fun f' hf' => by omega)).2])
  rw [(rmS_in F hF).2, show (0 : Int32).toNatClampNeg = 0 from rfl] at h
  exact h
theorem rsum_nI {f : AF} {g : Nat → Nat} : ∀ {n : Nat}, (∀ j, j < n → f j = nI (g j)) → rsum f n = nI (nsum g n)
  | 0, _ => rfl
  | n + 1, e => by
    show rsum f n + f n = nI (nsum g n + g n)
    rw [rsum_nI (fun j hj => e j (by omega)), e n (by omega), nI_add]
theorem pos1_nI (v : Int32) : pos1 v = nI (pos1n v) := by
  unfold pos1 pos1n
  split <;> rfl
theorem nsum_0 : ∀ {n : Nat}, nsum (fun _ => 0) n = 0
  | 0 => rfl
  | n + 1 => by
    unfold nsum
    rw [nsum_0]
theorem nsum_add (a b : Nat → Nat) : ∀ {n : Nat}, nsum (fun j => a j + b j) n = nsum a n + nsum b n
  | 0 => rfl
  | n + 1 => by
    unfold nsum
    rw [nsum_add a b]
    omega
theorem nsum_swap (g : Nat → Nat → Nat) (m : Nat) : ∀ {n : Nat}, nsum (fun i => nsum (g i) m) n = nsum (fun j => nsum (fun i => g i j) n) m
  | 0 => nsum_0.symm
  | n + 1 => by
    show nsum (fun i => nsum (g i) m) n + nsum (g n) m = nsum (fun j => nsum (fun i => g i j) n + g n j) m
    rw [nsum_add, nsum_swap g m]
theorem cc_all (x : BD) : fX0_countAll x = some (nI (cntB x.2)) := by
  rw [cc_countAll]
  exact congrArg some (rsum_nI (fun f hf => rsum_nI (fun k hk => pos1_nI _)))
/-- the bids for a slot as a plain number -/
theorem cc_forN (x : BD) {K : Nat} (hK : K < 48) : fX0_countFor x (nI K) = some (nI (nsum (fun f => pos1n (x.2 (f * 48 + K))) 6)) := by
  rw [cc_countFor x hK]
  exact congrArg some (rsum_nI (fun k hk => pos1_nI _))
theorem nsum_cap {g : Nat → Nat} (h : ∀ j, g j ≤ 1) : ∀ {n : Nat}, nsum g n ≤ n
  | 0 => Nat.le_refl _
  | n + 1 => by
    unfold nsum
    have h1 := nsum_cap h (n := n)
    have h2 := h n
    omega
theorem pos1n_le (v : Int32) : pos1n v ≤ 1 := by
  unfold pos1n
  split <;> omega
theorem cc_over {x : SD} {N h : Nat} (hN : x.2.1 = nI N) (h16 : N ≤ 16) (hh : h < 16) : fX6_isOver x (nI h) = if N ≤ h then 0 else 1 := by
  unfold fX6_isOver
  rw [hN]
  by_cases q : N ≤ h
  · rw [if_pos (nI_le q (by omega)), if_pos q]
  · rw [if_neg (nI_ge (by omega) (by omega)), if_neg q]
theorem n5_nI {f : Nat} (h : f < 2 ^ 31) : ¬ nI f = -5 := fun q => nI_pos h (by rw [q]; decide)
theorem n1_nI {f : Nat} (h : f < 2 ^ 31) : ¬ nI f = -1 := fun q => nI_pos h (by rw [q]; decide)
theorem o10 : ¬ (1 : Int32) = 0 := by decide
theorem le_nil {v : Int32} {o : Nat} (ho : o ≤ 999) (h : v = nI o) (h2 : v ≤ 0) : v = 0 := by
  subst h
  rcases Nat.eq_zero_or_pos o with z | z
  · subst z
    rfl
  · exact absurd h2 (nI_nle z (by omega))
theorem bst_true {b : Nat → Int32} {z : Int32} (hz : z < 0) : bst b (fun f => !decide (nI f = z)) 6 = bst b (fun _ => true) 6 := bst_congr (fun j hj => ⟨rfl, by
  have e : ¬ nI j = z := fun q => nI_pos (n := j) (by omega) (by rw [q]; exact hz)
  simp [e]⟩)
theorem hif_true {b : Nat → Int32} {z : Int32} (hz : z < 0) : hif b (fun f => !decide (nI f = z)) 6 = hif b (fun _ => true) 6 := hif_congr (fun j hj => ⟨rfl, by
  have e : ¬ nI j = z := fun q => nI_pos (n := j) (by omega) (by rw [q]; exact hz)
  simp [e]⟩)
theorem hif_mono (b : Nat → Int32) (e : Nat → Bool) : ∀ n, hif b e n ≤ hif b (fun _ => true) n
  | 0 => Int32.le_refl _
  | n + 1 => by
    have ih := hif_mono b e n
    show (if e n = true then (if b n ≤ hif b e n then hif b e n else b n) else hif b e n) ≤ (if true = true then (if b n ≤ hif b (fun _ => true) n then hif b (fun _ => true) n else b n) else hif b (fun _ => true) n)
    rw [if_pos rfl]
    by_cases h3 : b n ≤ hif b (fun _ => true) n
    · rw [if_pos h3]
      split
      · split
        · exact ih
        · exact h3
      · exact ih
    · rw [if_neg h3]
      have h4 := Int32.le_of_lt (Int32.not_le.mp h3)
      split
      · split
        · exact Int32.le_trans ih h4
        · exact Int32.le_refl _
      · exact Int32.le_trans ih h4
def awX (x : SD) (K g : Nat) (P : Int32) : SD := (x.1, x.2.1, x.2.2.1, x.2.2.2.1, rmS x.2.2.2.2.1 K 6, (upd x.2.2.2.2.2.1.1 K (nI g), upd x.2.2.2.2.2.1.2.1 K (x.2.2.2.2.1.1 (g * 48 + K)), upd x.2.2.2.2.2.1.2.2.1 K P, x.2.2.2.2.2.1.2.2.2), (upd x.2.2.2.2.2.2.1.1 g (x.2.2.2.2.2.2.1.1 g - P), x.2.2.2.2.2.2.1.2.1, upd x.2.2.2.2.2.2.1.2.2.1 g (x.2.2.2.2.2.2.1.2.2.1 g + P), x.2.2.2.2.2.2.1.2.2.2), (x.2.2.2.2.2.2.2.1, x.2.2.2.2.2.2.2.2.1 + P, x.2.2.2.2.2.2.2.2.2))
theorem cc_end1 {x : SD} {C N cnt : Nat} (hN : x.2.1 = nI N) (hC : C < 3) (hN16 : N < 16) (p2 : Int32) (ha : fX5_isAwarded x.2.2.2.2.2.1 (nI (C * 16 + N)) = 0) (hc : fX0_countFor x.2.2.2.2.1 (nI (C * 16 + N)) = some (nI cnt)) (hz : cnt = 0) : fX6_endSlot x (nI C) p2 = some (0, (x.1, x.2.1, x.2.2.1, x.2.2.2.1, rmS x.2.2.2.2.1 (C * 16 + N) 6, (x.2.2.2.2.2.1.1, x.2.2.2.2.2.1.2.1, x.2.2.2.2.2.1.2.2.1, upd x.2.2.2.2.2.1.2.2.2 (C * 16 + N) (nI 1)), x.2.2.2.2.2.2.1, (upd x.2.2.2.2.2.2.2.1 1 (x.2.2.2.2.2.2.2.1 1 + 1), x.2.2.2.2.2.2.2.2))) := by
  have hK : C * 16 + N < 48 := by omega
  subst hz
  unfold fX6_endSlot fX6_reasonAgainst
  rw [hN, slot_nI, if_pos ha, hc, Option.bind_some, if_pos (show nI 0 ≤ 0 from Int32.le_refl _), Option.bind_some, if_neg o10]
  simp only [bnd]
  rw [if_neg (show ¬ (1 : Int32) = 3 by decide), show radd x.2.2.2.2.2.2.2.1 4 1 1 = _ from radd_nI (k := 1) (by omega) (by omega), rput_nI hK (by omega), cc_removeAll _ hK]
  rfl
theorem cc_end2 {x : SD} {C N cnt : Nat} (hN : x.2.1 = nI N) (hC : C < 3) (hN16 : N < 16) (p2 : Int32) (ha : fX5_isAwarded x.2.2.2.2.2.1 (nI (C * 16 + N)) = 0) (hc : fX0_countFor x.2.2.2.2.1 (nI (C * 16 + N)) = some (nI cnt)) (hz : 0 < cnt) (hz2 : cnt < 2 ^ 31) : fX6_endSlot x (nI C) p2 = some (0, (x.1, x.2.1, x.2.2.1, x.2.2.2.1, rmS x.2.2.2.2.1 (C * 16 + N) 6, (x.2.2.2.2.2.1.1, x.2.2.2.2.2.1.2.1, x.2.2.2.2.2.1.2.2.1, upd x.2.2.2.2.2.1.2.2.2 (C * 16 + N) (nI 2)), x.2.2.2.2.2.2.1, (upd x.2.2.2.2.2.2.2.1 2 (x.2.2.2.2.2.2.2.1 2 + 1), x.2.2.2.2.2.2.2.2))) := by
  have hK : C * 16 + N < 48 := by omega
  unfold fX6_endSlot fX6_reasonAgainst
  rw [hN, slot_nI, if_pos ha, hc, Option.bind_some, if_neg (nI_nle hz hz2), Option.bind_some, if_neg (show ¬ (2 : Int32) = 0 by decide)]
  simp only [bnd]
  rw [if_neg (show ¬ (2 : Int32) = 3 by decide), show radd x.2.2.2.2.2.2.2.1 4 2 1 = _ from radd_nI (k := 2) (by omega) (by omega), rput_nI hK (by omega), cc_removeAll _ hK]
  rfl
theorem cc_end0 {x : SD} {C N g wt wd : Nat} (hN : x.2.1 = nI N) (hC : C < 3) (hN16 : N < 16) (hg : g < 6) (ha : fX5_isAwarded x.2.2.2.2.2.1 (nI (C * 16 + N)) = 1) (ho : fX5_ownerOf x.2.2.2.2.2.1 (nI (C * 16 + N)) = nI g) (hw : x.2.2.2.2.2.1.2.1 (C * 16 + N) = nI wt) (hwt : wt ≤ 20 + 20 * C) (hwd : wd ≤ 99) (hn : ¬ 70 < wt + wd) : fX6_endSlot x (nI C) (nI wd) = some (1, (x.1, x.2.1, x.2.2.1, x.2.2.2.1, rmS x.2.2.2.2.1 (C * 16 + N) 6, (x.2.2.2.2.2.1.1, x.2.2.2.2.2.1.2.1, x.2.2.2.2.2.1.2.2.1, upd x.2.2.2.2.2.1.2.2.2 (C * 16 + N) 0), (x.2.2.2.2.2.2.1.1, upd x.2.2.2.2.2.2.1.2.1 g (x.2.2.2.2.2.2.1.2.1 g + 1), x.2.2.2.2.2.2.1.2.2.1, x.2.2.2.2.2.2.1.2.2.2), (x.2.2.2.2.2.2.2.1, x.2.2.2.2.2.2.2.2.1, x.2.2.2.2.2.2.2.2.2.1, x.2.2.2.2.2.2.2.2.2.2.1, x.2.2.2.2.2.2.2.2.2.2.2.1, x.2.2.2.2.2.2.2.2.2.2.2.2.1 + 1, x.2.2.2.2.2.2.2.2.2.2.2.2.2 + x.2.2.2.2.2.1.2.1 (C * 16 + N)))) := by
  have hK : C * 16 + N < 48 := by omega
  unfold fX6_endSlot fX6_reasonAgainst
  rw [hN, slot_nI, if_neg (show ¬ fX5_isAwarded x.2.2.2.2.2.1 (nI (C * 16 + N)) = 0 by rw [ha]; exact o10), rat_nI hK (by omega), ho, heav_nI hC hwd, if_pos (show x.2.2.2.2.2.1.2.1 (C * 16 + N) ≤ nI (min (70 - wd) (20 + 20 * C)) by rw [hw]; exact nI_le (by omega) (by omega)), Option.bind_some, if_pos (show (0 : Int32) = 0 from rfl)]
  simp only [bnd]
  rw [if_neg (show ¬ (0 : Int32) = 3 by decide), radd_nI hg (by omega), rput_nI hK (by omega), cc_removeAll _ hK]
  rfl
theorem cc_end3 {x : SD} {C N g wt wd : Nat} (hN : x.2.1 = nI N) (hC : C < 3) (hN16 : N < 16) (hg : g < 6) (ha : fX5_isAwarded x.2.2.2.2.2.1 (nI (C * 16 + N)) = 1) (ho : fX5_ownerOf x.2.2.2.2.2.1 (nI (C * 16 + N)) = nI g) (hw : x.2.2.2.2.2.1.2.1 (C * 16 + N) = nI wt) (hw1 : 1 ≤ wt) (hwt : wt ≤ 20 + 20 * C) (hwd : wd ≤ 99) (hn : 70 < wt + wd) : fX6_endSlot x (nI C) (nI wd) = some (0, (x.1, x.2.1, x.2.2.1, x.2.2.2.1, rmS x.2.2.2.2.1 (C * 16 + N) 6, (x.2.2.2.2.2.1.1, x.2.2.2.2.2.1.2.1, x.2.2.2.2.2.1.2.2.1, upd x.2.2.2.2.2.1.2.2.2 (C * 16 + N) 3), (upd x.2.2.2.2.2.2.1.1 g (x.2.2.2.2.2.2.1.1 g + x.2.2.2.2.2.1.2.2.1 (C * 16 + N)), x.2.2.2.2.2.2.1.2.1, upd x.2.2.2.2.2.2.1.2.2.1 g (x.2.2.2.2.2.2.1.2.2.1 g - x.2.2.2.2.2.1.2.2.1 (C * 16 + N)), x.2.2.2.2.2.2.1.2.2.2), (upd x.2.2.2.2.2.2.2.1 3 (x.2.2.2.2.2.2.2.1 3 + 1), x.2.2.2.2.2.2.2.2.1 - x.2.2.2.2.2.1.2.2.1 (C * 16 + N), x.2.2.2.2.2.2.2.2.2.1 + x.2.2.2.2.2.1.2.2.1 (C * 16 + N), x.2.2.2.2.2.2.2.2.2.2))) := by
  have hK : C * 16 + N < 48 := by omega
  unfold fX6_endSlot fX6_reasonAgainst
  rw [hN, slot_nI, if_neg (show ¬ fX5_isAwarded x.2.2.2.2.2.1 (nI (C * 16 + N)) = 0 by rw [ha]; exact o10), rat_nI hK (by omega), ho, heav_nI hC hwd, if_neg (show ¬ x.2.2.2.2.2.1.2.1 (C * 16 + N) ≤ nI (min (70 - wd) (20 + 20 * C)) by rw [hw]; exact nI_ge (by omega) (by omega)), Option.bind_some, if_neg (show ¬ (3 : Int32) = 0 by decide)]
  simp only [bnd]
  rw [if_pos trivial]
  unfold fX6_refund fX1_payYard
  simp only [bnd]
  rw [show radd x.2.2.2.2.2.2.2.1 4 3 1 = _ from radd_nI (k := 3) (by omega) (by omega), rat_nI hK (by omega), radd_nI hg (by omega), radd_nI hg (by omega), rput_nI hK (by omega), cc_removeAll _ hK, Int32.neg_neg, ← Int32.sub_eq_add_neg]
  rfl
/-- given and not yet over, of one firm or of all -/
def gav (x : SD) (N : Nat) (p : Int32) (k : Nat) : Nat := if k % 16 < N then 0 else if x.2.2.2.2.2.1.1 k = -5 then 0 else if p = -5 ∨ x.2.2.2.2.2.1.1 k = p then 1 else 0
theorem nsum_zero {g : Nat → Nat} {a : Nat} : ∀ {d : Nat}, (∀ j, a ≤ j → j < a + d → g j = 0) → nsum g (a + d) = nsum g a
  | 0, _ => rfl
  | d + 1, e => by
    show nsum g (a + d) + g (a + d) = nsum g a
    rw [nsum_zero (fun j h1 h2 => e j h1 (by omega)), e (a + d) (by omega) (by omega)]
    rfl
theorem lpM {ρ : Type} (F : Nat → Nat → Option ρ) (a N : Nat) (out : ρ) (hs : ∀ fu k, a ≤ k → k < N → F (fu + 1) k = F fu (k + 1)) (he : ∀ fu, F (fu + 1) N = some out) (fu : Nat) (h0 : a ≤ N) (h : N - a < fu) : F fu a = some out := by
  have key : ∀ (d k fu : Nat), a ≤ k → k + d = N → d < fu → F fu k = some out := by
    intro d
    induction d with
    | zero =>
      intro k fu ha hk hf
      obtain ⟨fu, rfl⟩ : ∃ q, fu = q + 1 := ⟨fu - 1, by omega⟩
      rw [show k = N by omega]
      exact he fu
    | succ d ih =>
      intro k fu ha hk hf
      obtain ⟨fu, rfl⟩ : ∃ q, fu = q + 1 := ⟨fu - 1, by omega⟩
      rw [hs fu k ha (by omega)]
      exact ih (k + 1) fu (by omega) (by omega) (by omega)
  exact key (N - a) a fu (Nat.le_refl _) (by omega) h
theorem cc_open {x : SD} {N : Nat} (hN : x.2.1 = nI N) (h16 : N ≤ 16) (p : Int32) : fX6_openAwards x p = some (nI (nsum (gav x N p) 48)) := by
  have inner : ∀ c, c < 3 → fX6_openAwards_L1 x p (nI c) 1000 (nI (nsum (gav x N p) (c * 16))) (nI N) = some (nI (nsum (gav x N p) (c * 16 + 16))) := fun c hc => by
    have h := lpM (fun fu k => fX6_openAwards_L1 x p (nI c) fu (nI (nsum (gav x N p) (c * 16 + k))) (nI k)) N 16 (nI (nsum (gav x N p) (c * 16 + 16))) (fun fu k ha hk => by
      show fX6_openAwards_L1 x p (nI c) (fu + 1) _ _ = fX6_openAwards_L1 x p (nI c) fu (nI (nsum (gav x N p) (c * 16 + k) + gav x N p (c * 16 + k))) _
      rw [fX6_openAwards_L1, if_neg (nle16 hk), slot_nI]
      unfold fX5_ownerOf
      rw [rat_nI (by omega) (by omega), nI_1 k]
      simp only [bnd]
      have e0 : gav x N p (c * 16 + k) = if x.2.2.2.2.2.1.1 (c * 16 + k) = -5 then 0 else if p = -5 ∨ x.2.2.2.2.2.1.1 (c * 16 + k) = p then 1 else 0 := if_neg (by omega)
      rw [e0]
      by_cases z : x.2.2.2.2.2.1.1 (c * 16 + k) = -5
      · rw [if_pos z, if_pos z, Int32.add_zero]; rfl
      rw [if_neg z, if_neg z]
      by_cases z1 : p = -5
      · rw [if_pos z1, if_pos (.inl z1), nI_1]
      rw [if_neg z1]
      by_cases z2 : x.2.2.2.2.2.1.1 (c * 16 + k) = p
      · rw [if_pos z2, if_pos (.inr z2), nI_1]
      · rw [if_neg z2, if_neg (fun q => q.elim z1 z2), Int32.add_zero]; rfl) (fun fu => by
      show fX6_openAwards_L1 x p (nI c) (fu + 1) _ _ = _
      rw [fX6_openAwards_L1, if_pos ler16]) 1000 h16 (by omega)
    have e : nsum (gav x N p) (c * 16 + N) = nsum (gav x N p) (c * 16) := nsum_zero (fun j h1 h2 => if_pos (by omega))
    rw [← e]
    exact h
  unfold fX6_openAwards
  have h := lpN (fun fu k => fX6_openAwards_L0 x p fu (nI (nsum (gav x N p) (k * 16))) (nI k)) 3 _ (fun fu k hk => by
    show fX6_openAwards_L0 x p (fu + 1) _ _ = _
    rw [fX6_openAwards_L0, if_neg (nle3 hk), hN, inner k hk, Option.bind_some, nI_1, show k * 16 + 16 = (k + 1) * 16 by omega]) (fun fu => by
    show fX6_openAwards_L0 x p (fu + 1) _ _ = _
    rw [fX6_openAwards_L0, if_pos ler3]) 1000 0 (by omega) (by omega)
  have h2 : fX6_openAwards_L0 x p 1000 0 0 = some (nI (nsum (gav x N p) 48)) := h
  rw [h2]
  rfl
theorem bst_add {b b' : Nat → Int32} {F : Nat} (hF : b F = 0) (h0 : 0 < b' F) (he : ∀ f, f < 6 → f ≠ F → b' f = b f) : ∀ n, n ≤ 6 → F < n → (hif b (fun _ => true) n < b' F → hif b' (fun _ => true) n = b' F ∧ bst b' (fun _ => true) n = some F) ∧ (0 < b' F → hif b (fun _ => true) n = b' F → hif b' (fun _ => true) n = b' F ∧ ∃ g, bst b (fun _ => true) n = some g ∧ g ≠ F ∧ bst b' (fun _ => true) n = some (if g < F then g else F)) ∧ (b' F < hif b (fun _ => true) n → hif b' (fun _ => true) n = hif b (fun _ => true) n ∧ bst b' (fun _ => true) n = bst b (fun _ => true) n)
  | 0, _, h => absurd h (by omega)
  | n + 1, h6, h => by
    have hS : ∀ c : Nat → Int32, hif c (fun _ => true) (n + 1) = if c n ≤ hif c (fun _ => true) n then hif c (fun _ => true) n else c n := fun c => if_pos rfl
    have hT : ∀ c : Nat → Int32, bst c (fun _ => true) (n + 1) = if c n ≤ hif c (fun _ => true) n then bst c (fun _ => true) n else some n := fun c => if_pos rfl
    by_cases q : F = n
    · subst q
      have e1 : hif b' (fun _ => true) F = hif b (fun _ => true) F := hif_congr (fun j hj => ⟨he j (by omega) (by omega), rfl⟩)
      have e2 : bst b' (fun _ => true) F = bst b (fun _ => true) F := bst_congr (fun j hj => ⟨he j (by omega) (by omega), rfl⟩)
      have e3 : hif b (fun _ => true) (F + 1) = hif b (fun _ => true) F := by
        rw [hS, if_pos (by rw [hF]; exact hif_pos _ _ _)]
      have e4 : bst b (fun _ => true) (F + 1) = bst b (fun _ => true) F := by
        rw [hT, if_pos (by rw [hF]; exact hif_pos _ _ _)]
      rw [e3, e4, hS b', hT b', e1, e2]
      refine ⟨fun z => ?_, fun z1 z => ?_, fun z => ?_⟩
      · rw [if_neg (Int32.not_le.mpr z), if_neg (Int32.not_le.mpr z)]
        exact ⟨rfl, rfl⟩
      · rw [if_pos (by rw [z]; exact Int32.le_refl _), if_pos (by rw [z]; exact Int32.le_refl _)]
        cases hb : bst b (fun _ => true) F with
        | none =>
          rw [bst_none hb] at z
          exact absurd z1 (by rw [← z]; decide)
        | some g =>
          have hg := (bst_some hb).1
          exact ⟨z, g, rfl, by omega, by rw [if_pos hg]⟩
      · rw [if_pos (Int32.le_of_lt z), if_pos (Int32.le_of_lt z)]
        exact ⟨rfl, rfl⟩
    · obtain ⟨i1, i2, i3⟩ := bst_add hF h0 he n (by omega) (by omega)
      have en : b' n = b n := he n (by omega) (fun e => q e.symm)
      rw [hS b, hT b, hS b', hT b', en]
      by_cases z0 : b n ≤ hif b (fun _ => true) n
      · rw [if_pos z0, if_pos z0]
        refine ⟨fun z => ?_, fun z1 z => ?_, fun z => ?_⟩
        · obtain ⟨j1, j2⟩ := i1 z
          have hle := Int32.le_trans z0 (Int32.le_of_lt z)
          rw [j1, if_pos hle, if_pos hle]
          exact ⟨rfl, j2⟩
        · obtain ⟨j1, g, j2, j3, j4⟩ := i2 z1 z
          rw [j1, if_pos (by rw [← z]; exact z0), if_pos (by rw [← z]; exact z0)]
          exact ⟨rfl, g, j2, j3, j4⟩
        · obtain ⟨j1, j2⟩ := i3 z
          rw [j1, if_pos z0, if_pos z0]
          exact ⟨rfl, j2⟩
      · have z9 := Int32.not_le.mp z0
        rw [if_neg z0, if_neg z0]
        refine ⟨fun z => ?_, fun z1 z => ?_, fun z => ?_⟩
        · obtain ⟨j1, j2⟩ := i1 (Int32.lt_trans z9 z)
          rw [j1, if_pos (Int32.le_of_lt z), if_pos (Int32.le_of_lt z)]
          exact ⟨rfl, j2⟩
        · obtain ⟨j1, j2⟩ := i1 (by rw [← z]; exact z9)
          rw [j1, if_pos (by rw [z]; exact Int32.le_refl _), if_pos (by rw [z]; exact Int32.le_refl _)]
          exact ⟨rfl, n, rfl, fun e => q e.symm, by rw [if_neg (by omega)]; exact j2⟩
        · have hmax : ¬ b n ≤ hif b' (fun _ => true) n := by
            rcases Int32.lt_or_le (hif b (fun _ => true) n) (b' F) with y | y
            · rw [(i1 y).1]
              exact Int32.not_le.mpr z
            · rcases Int32.lt_or_eq_of_le y with y | y
              · rw [(i3 y).1]
                exact z0
              · by_cases w : 0 < b' F
                · rw [(i2 w y.symm).1]
                  exact Int32.not_le.mpr z
                · exact absurd h0 w
          rw [if_neg hmax, if_neg hmax]
          exact ⟨rfl, rfl⟩
/-- without the new one it is as before -/
theorem hif_exc {b b' : Nat → Int32} {F : Nat} (hF : b F = 0) (he : ∀ f, f < 6 → f ≠ F → b' f = b f) (hF31 : F < 2 ^ 31) : ∀ n, n ≤ 6 → hif b' (fun f => !decide (nI f = nI F)) n = hif b (fun _ => true) n
  | 0, _ => rfl
  | n + 1, hn => by
    have ih := hif_exc hF he hF31 n (by omega)
    have hS : hif b (fun _ => true) (n + 1) = if b n ≤ hif b (fun _ => true) n then hif b (fun _ => true) n else b n := if_pos rfl
    rw [hS]
    show (if (!decide (nI n = nI F)) = true then (if b' n ≤ hif b' (fun f => !decide (nI f = nI F)) n then hif b' (fun f => !decide (nI f = nI F)) n else b' n) else hif b' (fun f => !decide (nI f = nI F)) n) = _
    rw [ih]
    by_cases e : n = F
    · subst e
      rw [if_neg (by simp), hF, if_pos (hif_pos _ _ _)]
    · have e2 : ¬ nI n = nI F := fun q => e ((nI_eq (by omega) hF31).mp q)
      rw [if_pos (by simp [e2]), he n (by omega) e]
