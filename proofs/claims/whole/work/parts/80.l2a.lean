/-! LAYER 2: plain rows about the functions. Loops with a counter; indices -/
theorem lpN {ρ : Type} (F : Nat → Nat → Option ρ) (N : Nat) (out : ρ) (hs : ∀ fu k, k < N → F (fu + 1) k = F fu (k + 1)) (he : ∀ fu, F (fu + 1) N = some out) (fu k0 : Nat) (h0 : k0 ≤ N) (h : N - k0 < fu) : F fu k0 = some out := by
  have key : ∀ (d k fu : Nat), k + d = N → d < fu → F fu k = some out := by
    intro d
    induction d with
    | zero =>
      intro k fu hk hf
      obtain ⟨fu, rfl⟩ : ∃ q, fu = q + 1 := ⟨fu - 1, by omega⟩
      rw [show k = N by omega]
      exact he fu
    | succ d ih =>
      intro k fu hk hf
      obtain ⟨fu, rfl⟩ : ∃ q, fu = q + 1 := ⟨fu - 1, by omega⟩
      rw [hs fu k (by omega)]
      exact ih (k + 1) fu (by omega) (by omega)
  exact key (N - k0) k0 fu (by omega) h
theorem nle3 {k : Nat} (h : k < 3) : ¬ (3 : Int32) ≤ nI k := nI_ge (b := 3) h (by omega)
theorem ler3 : (3 : Int32) ≤ nI 3 := Int32.le_refl _
theorem nle4 {k : Nat} (h : k < 4) : ¬ (4 : Int32) ≤ nI k := nI_ge (b := 4) h (by omega)
theorem ler4 : (4 : Int32) ≤ nI 4 := Int32.le_refl _
theorem nle6 {k : Nat} (h : k < 6) : ¬ (6 : Int32) ≤ nI k := nI_ge (b := 6) h (by omega)
theorem ler6 : (6 : Int32) ≤ nI 6 := Int32.le_refl _
theorem nle16 {k : Nat} (h : k < 16) : ¬ (16 : Int32) ≤ nI k := nI_ge (b := 16) h (by omega)
theorem ler16 : (16 : Int32) ≤ nI 16 := Int32.le_refl _
theorem nle48 {k : Nat} (h : k < 48) : ¬ (48 : Int32) ≤ nI k := nI_ge (b := 48) h (by omega)
theorem ler48 : (48 : Int32) ≤ nI 48 := Int32.le_refl _
theorem nle835 {k : Nat} (h : k < 835) : ¬ (835 : Int32) ≤ nI k := nI_ge (b := 835) h (by omega)
theorem ler835 : (835 : Int32) ≤ nI 835 := Int32.le_refl _
theorem rat_nI {f : AF} {n k : Nat} (h : k < n) (hn : n < 2 ^ 31) : rat f n (nI k) = f k := by
  unfold rat
  rw [if_neg (nI_pos (by omega)), if_neg (nI_ge h hn), nI_clamp (by omega)]
theorem rput_nI {f : AF} {n k : Nat} {v : Int32} (h : k < n) (hn : n < 2 ^ 31) : rput f n (nI k) v = upd f k v := by
  unfold rput
  rw [if_neg (nI_pos (by omega)), if_neg (nI_ge h hn), nI_clamp (by omega)]
theorem radd_nI {f : AF} {n k : Nat} {v : Int32} (h : k < n) (hn : n < 2 ^ 31) : radd f n (nI k) v = upd f k (f k + v) := by
  unfold radd
  rw [if_neg (nI_pos (by omega)), if_neg (nI_ge h hn), nI_clamp (by omega)]
theorem upd_s {f : AF} {k : Nat} {v : Int32} : upd f k v k = v := by simp [upd]
theorem upd_n {f : AF} {k j : Nat} {v : Int32} (h : j ≠ k) : upd f k v j = f j := by simp [upd, h]
theorem cell_nI {f k : Nat} : fX0_cellOf (nI f) (nI k) = nI (f * 48 + k) := by
  unfold fX0_cellOf
  rw [show (48 : Int32) = nI 48 from rfl, pk_mul, nI_add]
theorem slot_nI {c h : Nat} : fX8_slotOf (nI c) (nI h) = nI (c * 16 + h) := by
  unfold fX8_slotOf
  rw [show (16 : Int32) = nI 16 from rfl, pk_mul, nI_add]
theorem place_nI {c h : Nat} : fX9_place (nI c) (nI h) = nI (16 * c + h) := by
  unfold fX9_place
  rw [show (16 : Int32) = nI 16 from rfl, pk_mul, nI_add]
theorem ix6 (B c k f : Nat) : ((nI B + nI c) + (nI 6 * nI k)) + nI f = nI (B + c + 6 * k + f) := by rw [pk_mul, nI_add, nI_add, nI_add]
theorem ix2 (B c k : Nat) : (nI B + nI c) + nI k = nI (B + c + k) := by rw [nI_add, nI_add]
/-- 1 where a number is above 0 -/
def pos1 (v : Int32) : Int32 := if v ≤ 0 then 0 else 1
theorem rsum_congr {f h : AF} : ∀ {n : Nat}, (∀ j, j < n → f j = h j) → rsum f n = rsum h n
  | 0, _ => rfl
  | n + 1, e => by
    show rsum f n + f n = rsum h n + h n
    rw [rsum_congr (fun j hj => e j (by omega)), e n (by omega)]
/-! the class' bids: K a slot below 48, F a firm below 6 -/
theorem cc_countFor (x : BD) {K : Nat} (hK : K < 48) : fX0_countFor x (nI K) = some (rsum (fun f => pos1 (x.2 (f * 48 + K))) 6) := by
  unfold fX0_countFor
  have h := lpN (fun fu k => fX0_countFor_L0 x (nI K) fu (rsum (fun f => pos1 (x.2 (f * 48 + K))) k) (nI k)) 6 _ (fun fu k hk => by
    show fX0_countFor_L0 x (nI K) (fu + 1) _ _ = _
    rw [fX0_countFor_L0, if_neg (nle6 hk), cell_nI, rat_nI (by omega) (by omega), nI_1]
    by_cases hv : x.2 (k * 48 + K) ≤ 0
    · rw [if_pos hv]; show _ = fX0_countFor_L0 x (nI K) fu (rsum _ k + pos1 _) _; rw [pos1, if_pos hv]
    · rw [if_neg hv]; show _ = fX0_countFor_L0 x (nI K) fu (rsum _ k + pos1 _) _; rw [pos1, if_neg hv]) (fun fu => by
    show fX0_countFor_L0 x (nI K) (fu + 1) _ _ = _
    rw [fX0_countFor_L0, if_pos ler6]) 1000 0 (by omega) (by omega)
  have h2 : fX0_countFor_L0 x (nI K) 1000 0 0 = some (rsum (fun f => pos1 (x.2 (f * 48 + K))) 6) := h
  rw [h2]
  rfl
theorem cc_countOf (x : BD) {F : Nat} (hF : F < 6) : fX0_countOf x (nI F) = some (rsum (fun k => pos1 (x.2 (F * 48 + k))) 48) := by
  unfold fX0_countOf
  have h := lpN (fun fu k => fX0_countOf_L0 x (nI F) fu (rsum (fun k => pos1 (x.2 (F * 48 + k))) k) (nI k)) 48 _ (fun fu k hk => by
    show fX0_countOf_L0 x (nI F) (fu + 1) _ _ = _
    rw [fX0_countOf_L0, if_neg (nle48 hk), cell_nI, rat_nI (by omega) (by omega), nI_1]
    by_cases hv : x.2 (F * 48 + k) ≤ 0
    · rw [if_pos hv]; show _ = fX0_countOf_L0 x (nI F) fu (rsum _ k + pos1 _) _; rw [pos1, if_pos hv]
    · rw [if_neg hv]; show _ = fX0_countOf_L0 x (nI F) fu (rsum _ k + pos1 _) _; rw [pos1, if_neg hv]) (fun fu => by
    show fX0_countOf_L0 x (nI F) (fu + 1) _ _ = _
    rw [fX0_countOf_L0, if_pos ler48]) 1000 0 (by omega) (by omega)
  have h2 : fX0_countOf_L0 x (nI F) 1000 0 0 = some (rsum (fun k => pos1 (x.2 (F * 48 + k))) 48) := h
  rw [h2]
  rfl
theorem cc_countAll (x : BD) : fX0_countAll x = some (rsum (fun f => rsum (fun k => pos1 (x.2 (f * 48 + k))) 48) 6) := by
  unfold fX0_countAll
  have h := lpN (fun fu k => fX0_countAll_L0 x fu (rsum (fun f => rsum (fun k => pos1 (x.2 (f * 48 + k))) 48) k) (nI k)) 6 _ (fun fu k hk => by
    show fX0_countAll_L0 x (fu + 1) _ _ = _
    rw [fX0_countAll_L0, if_neg (nle6 hk), cc_countOf x hk, nI_1]
    rfl) (fun fu => by
    show fX0_countAll_L0 x (fu + 1) _ _ = _
    rw [fX0_countAll_L0, if_pos ler6]) 1000 0 (by omega) (by omega)
  have h2 : fX0_countAll_L0 x 1000 0 0 = some (rsum (fun f => rsum (fun k => pos1 (x.2 (f * 48 + k))) 48) 6) := h
  rw [h2]
  rfl
theorem cc_offeredBy (x : BD) {F : Nat} (hF : F < 6) : fX0_offeredBy x (nI F) = some (rsum (fun k => x.2 (F * 48 + k)) 48) := by
  unfold fX0_offeredBy
  have h := lpN (fun fu k => fX0_offeredBy_L0 x (nI F) fu (rsum (fun k => x.2 (F * 48 + k)) k) (nI k)) 48 _ (fun fu k hk => by
    show fX0_offeredBy_L0 x (nI F) (fu + 1) _ _ = _
    rw [fX0_offeredBy_L0, if_neg (nle48 hk), cell_nI, rat_nI (by omega) (by omega), nI_1]
    rfl) (fun fu => by
    show fX0_offeredBy_L0 x (nI F) (fu + 1) _ _ = _
    rw [fX0_offeredBy_L0, if_pos ler48]) 1000 0 (by omega) (by omega)
  have h2 : fX0_offeredBy_L0 x (nI F) 1000 0 0 = some (rsum (fun k => x.2 (F * 48 + k)) 48) := h
  rw [h2]
  rfl
