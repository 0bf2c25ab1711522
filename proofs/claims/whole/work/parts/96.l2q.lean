/-! a day begins -/
def emA (S : AF) (B : Nat) : Nat → AF
  | 0 => S
  | n + 1 => upd (upd (emA S B n) (B + 35 + n) 20) (B + 819 + n) 0
def emB (S : AF) (B : Nat) : Nat → AF
  | 0 => S
  | n + 1 => clrS (upd (upd (upd (upd (emB S B n) (B + 51 + n) (-1)) (B + 99 + n) 0) (B + 147 + n) 0) (B + 195 + n) (-1)) B n 6
theorem emA_out {S : AF} {B i : Nat} : ∀ {n : Nat}, (∀ j, j < n → i ≠ B + 35 + j ∧ i ≠ B + 819 + j) → emA S B n i = S i
  | 0, _ => rfl
  | n + 1, h => by
    unfold emA
    rw [upd_n (h n (by omega)).2, upd_n (h n (by omega)).1]
    exact emA_out (fun f hf => h f (by omega))
theorem emA_in {S : AF} {B : Nat} : ∀ {n : Nat}, n ≤ 16 → ∀ j, j < n → emA S B n (B + 35 + j) = 20 ∧ emA S B n (B + 819 + j) = 0
  | 0, _, f, hf => absurd hf (by omega)
  | n + 1, hn, j, hj => by
    unfold emA
    by_cases h : j = n
    · subst h
      rw [upd_n (by omega), upd_s, upd_s]
      exact ⟨rfl, rfl⟩
    · rw [upd_n (by omega), upd_n (by omega), upd_n (by omega), upd_n (by omega)]
      exact emA_in (by omega) j (by omega)
theorem emB_out {S : AF} {B i : Nat} (hi : i < B + 51 ∨ B + 819 ≤ i) : ∀ {n : Nat}, n ≤ 48 → emB S B n i = S i
  | 0, _ => rfl
  | n + 1, hn => by
    unfold emB
    rw [clrS_out (fun f hf => by omega), upd_n (by omega), upd_n (by omega), upd_n (by omega), upd_n (by omega)]
    exact emB_out hi (by omega)
theorem emB_in {S : AF} {B : Nat} : ∀ {n : Nat}, n ≤ 48 → ∀ k, k < n → emB S B n (B + 51 + k) = -1 ∧ emB S B n (B + 99 + k) = 0 ∧ emB S B n (B + 147 + k) = 0 ∧ emB S B n (B + 195 + k) = -1 ∧ ∀ f, f < 6 → emB S B n (B + 243 + 6 * k + f) = 0 ∧ emB S B n (B + 531 + 6 * k + f) = 0
  | 0, _, f, hf => absurd hf (by omega)
  | n + 1, hn, k, hk => by
    unfold emB
    by_cases h : k = n
    · subst h
      refine ⟨?_, ?_, ?_, ?_, fun f hf => clrS_in (by omega) f hf⟩
      · rw [clrS_out (fun f hf => by omega), upd_n (by omega), upd_n (by omega), upd_n (by omega), upd_s]
      · rw [clrS_out (fun f hf => by omega), upd_n (by omega), upd_n (by omega), upd_s]
      · rw [clrS_out (fun f hf => by omega), upd_n (by omega), upd_s]
      · rw [clrS_out (fun f hf => by omega), upd_s]
    · obtain ⟨h1, h2, h3, h4, h5⟩ := emB_in (S := S) (B := B) (n := n) (by omega) k (by omega)
      refine ⟨?_, ?_, ?_, ?_, fun f hf => ⟨?_, ?_⟩⟩
      · rw [clrS_out (fun f hf => by omega), upd_n (by omega), upd_n (by omega), upd_n (by omega), upd_n (by omega)]
        exact h1
      · rw [clrS_out (fun f hf => by omega), upd_n (by omega), upd_n (by omega), upd_n (by omega), upd_n (by omega)]
        exact h2
      · rw [clrS_out (fun f hf => by omega), upd_n (by omega), upd_n (by omega), upd_n (by omega), upd_n (by omega)]
        exact h3
      · rw [clrS_out (fun f hf => by omega), upd_n (by omega), upd_n (by omega), upd_n (by omega), upd_n (by omega)]
        exact h4
      · rw [clrS_out (fun f hf => by omega), upd_n (by omega), upd_n (by omega), upd_n (by omega), upd_n (by omega)]
        exact (h5 f hf).1
      · rw [clrS_out (fun f hf => by omega), upd_n (by omega), upd_n (by omega), upd_n (by omega), upd_n (by omega)]
        exact (h5 f hf).2
theorem mm_empties (M : MD) {sl : Nat} (hsl : sl ≤ 6) : fX9_empties M (nI sl) = some (emB (emA (upd M.1 (835 * sl + 1) 0) (835 * sl) 16) (835 * sl) 48, M.2) := by
  have h1 := lpN (fun fu k => fX9_empties_L0 (nI sl) fu (nI k) (emA (upd M.1 (835 * sl + 1) 0) (835 * sl) k, M.2)) 16 _ (fun fu k hk => by
    show fX9_empties_L0 (nI sl) (fu + 1) _ _ = _
    rw [fX9_empties_L0, if_neg (nle16 hk), b835, show ((nI (835 * sl) + 35) + nI k) = nI (835 * sl + 35 + k) from ix2 _ 35 _, show ((nI (835 * sl) + 819) + nI k) = nI (835 * sl + 819 + k) from ix2 _ 819 _, if_pos (ib_nI (by omega) (by omega)), nI_clamp (by omega), nI_clamp (by omega), nI_1]
    simp only [bnd]
    rw [if_pos (ib_nI (by omega) (by omega))]
    rfl) (fun fu => by
    show fX9_empties_L0 (nI sl) (fu + 1) _ _ = _
    rw [fX9_empties_L0, if_pos ler16]) 1000 0 (by omega) (by omega)
  have h2 := lpN (fun fu k => fX9_empties_L1 (nI sl) fu (nI k) (emB (emA (upd M.1 (835 * sl + 1) 0) (835 * sl) 16) (835 * sl) k, M.2)) 48 _ (fun fu k hk => by
    show fX9_empties_L1 (nI sl) (fu + 1) _ _ = _
    rw [fX9_empties_L1, if_neg (nle48 hk), b835]
    simp only [bnd]
    rw [show ((nI (835 * sl) + 51) + nI k) = nI (835 * sl + 51 + k) from ix2 _ 51 _, show ((nI (835 * sl) + 99) + nI k) = nI (835 * sl + 99 + k) from ix2 _ 99 _, show ((nI (835 * sl) + 147) + nI k) = nI (835 * sl + 147 + k) from ix2 _ 147 _, show ((nI (835 * sl) + 195) + nI k) = nI (835 * sl + 195 + k) from ix2 _ 195 _, if_pos (ib_nI (by omega) (by omega)), if_pos (ib_nI (by omega) (by omega)), if_pos (ib_nI (by omega) (by omega)), if_pos (ib_nI (by omega) (by omega)), nI_clamp (by omega), nI_clamp (by omega), nI_clamp (by omega), nI_clamp (by omega), mm_clears _ (by omega) hk, Option.bind_some, nI_1]
    rfl) (fun fu => by
    show fX9_empties_L1 (nI sl) (fu + 1) _ _ = _
    rw [fX9_empties_L1, if_pos ler48]) 1000 0 (by omega) (by omega)
  unfold fX9_empties
  simp only [bnd]
  rw [b835, show (nI (835 * sl) + 1) = nI (835 * sl + 1) from nI_add _ 1, if_pos (ib_nI (by omega) (by omega)), nI_clamp (by omega)]
  have h3 : fX9_empties_L0 (nI sl) 1000 0 (upd M.1 (835 * sl + 1) 0, M.2) = some (emA (upd M.1 (835 * sl + 1) 0) (835 * sl) 16, M.2) := h1
  have h4 : fX9_empties_L1 (nI sl) 1000 0 (emA (upd M.1 (835 * sl + 1) 0) (835 * sl) 16, M.2) = some (emB (emA (upd M.1 (835 * sl + 1) 0) (835 * sl) 16) (835 * sl) 48, M.2) := h2
  show ((fX9_empties_L0 (nI sl) 1000 0 (upd M.1 (835 * sl + 1) 0, M.2)).bind _) = _
  rw [h3, Option.bind_some, h4]
  rfl
theorem sim_beginDay {c N D sl : Nat} {x : SD} {M : MD} (h : RR c N D x M.1 (835 * sl)) (hsl : sl ≤ 6) : ∃ (r : Int32) (x' : SD) (S' : AF), fX6_beginDay x = (r, x') ∧ fX9_begins M (nI sl) = some (r, (S', M.2)) ∧ (∃ N' D', RR c N' D' x' S' (835 * sl)) ∧ Out M.1 S' (835 * sl) ∧ (r < 0 → x' = x ∧ S' = M.1) := by
  have hB : 835 * sl + 835 ≤ 5845 := by omega
  have h0 := h
  obtain ⟨⟨d1, d2, d3, d4, d5, d6⟩, hW, hb, hcn, hs, hf, ht⟩ := id h
  have keep : ∀ r : Int32, ∃ (r' : Int32) (x' : SD) (S' : AF), (r, x) = (r', x') ∧ some (r, M) = some (r', (S', M.2)) ∧ (∃ N' D', RR c N' D' x' S' (835 * sl)) ∧ Out M.1 S' (835 * sl) ∧ (r' < 0 → x' = x ∧ S' = M.1) := fun r => ⟨r, x, M.1, rfl, rfl, ⟨N, D, h0⟩, fun _ _ => rfl, fun _ => ⟨rfl, rfl⟩⟩
  unfold fX6_beginDay fX9_begins
  rw [b835, show (nI (835 * sl) + 1) = nI (835 * sl + 1) from nI_add _ 1, if_pos (ib_nI (by omega) (by omega)), nI_clamp (by omega), d4, d5]
  by_cases z : N = 16
  case neg =>
    rw [if_neg (nle16 (by omega)), if_neg (nle16 (by omega))]
    exact keep _
  subst z
  rw [if_pos ler16, if_pos ler16, if_pos (ib_nI (by omega) (by omega)), nI_clamp (by omega), d1, d2]
  by_cases z : D = 999
  · subst z
    rw [if_neg (show ¬ nI 999 < 999 by decide), if_pos (show nI 999 = 999 from rfl)]
    exact keep _
  rw [if_pos (show nI D < 999 from nI_lt (b := 999) (by omega) (by omega)), if_neg (show ¬ nI D = 999 from fun q => z ((nI_eq (b := 999) (by omega) (by omega)).mp q)), mm_empties M hsl, Option.bind_some]
  simp only [bnd]
  have ho : ∀ i, (i < 835 * sl ∨ (835 * sl + 2 ≤ i ∧ i < 835 * sl + 35) ∨ 835 * sl + 835 ≤ i) → emB (emA (upd M.1 (835 * sl + 1) 0) (835 * sl) 16) (835 * sl) 48 i = M.1 i := fun i hi => by
    rw [emB_out (by omega) (by omega), emA_out (fun j hj => by omega), upd_n (by omega)]
  have e0 : emB (emA (upd M.1 (835 * sl + 1) 0) (835 * sl) 16) (835 * sl) 48 (835 * sl) = nI D := by
    rw [emB_out (by omega) (by omega), emA_out (fun j hj => by omega), upd_n (by omega), d2]
  have e1 : emB (emA (upd M.1 (835 * sl + 1) 0) (835 * sl) 16) (835 * sl) 48 (835 * sl + 1) = 0 := by
    rw [emB_out (by omega) (by omega), emA_out (fun j hj => by omega), upd_s]
  have e2 : ∀ j, j < 16 → emB (emA (upd M.1 (835 * sl + 1) 0) (835 * sl) 16) (835 * sl) 48 (835 * sl + 35 + j) = 20 ∧ emB (emA (upd M.1 (835 * sl + 1) 0) (835 * sl) 16) (835 * sl) 48 (835 * sl + 819 + j) = 0 := fun j hj => by
    rw [emB_out (by omega) (by omega), emB_out (by omega) (by omega)]
    exact emA_in (by omega) j hj
  have e3 := emB_in (S := emA (upd M.1 (835 * sl + 1) 0) (835 * sl) 16) (B := 835 * sl) (n := 48) (by omega)
  generalize emB (emA (upd M.1 (835 * sl + 1) 0) (835 * sl) 16) (835 * sl) 48 = T at ho e0 e1 e2 e3 ⊢
  have u : ∀ i, i ≠ 835 * sl → upd T (835 * sl) (nI (D + 1)) i = T i := fun i hi => upd_n hi
  rw [upd_s, e0, nI_1]
  refine ⟨_, _, _, rfl, rfl, ⟨0, D + 1, ⟨rfl, upd_s, by omega, rfl, by rw [u _ (by omega)]; exact e1, by omega⟩, fun j hj => ?_, fun f k hf' hk => ?_, hcn, fun k hk => ?_, hf.to (Nat.le_refl _) (fun f hf' => ?_), ht.to (fun j h1 h2 => by rw [u _ (by omega), ho _ (by omega)])⟩, fun i hi => by rw [u _ (by omega), ho _ (by omega)], fun q => absurd q (nI_pos (by omega))⟩
  · show rfill x.2.2.2.1 16 0 j = _ ∧ rfill x.2.2.1 16 20 j = _ ∧ ∃ w : Nat, w ≤ 99 ∧ rfill x.2.2.1 16 20 j = nI w
    unfold rfill
    rw [if_pos hj, if_pos hj, u _ (by omega), u _ (by omega), (e2 j hj).1, (e2 j hj).2]
    exact ⟨rfl, rfl, 20, by omega, rfl⟩
  · obtain ⟨h1, h2, o, w, h3, h4, h5, h6, h7⟩ := hb f k hf' hk
    obtain ⟨rfl, rfl⟩ := h7 (Nat.mod_lt _ (by omega))
    rw [u _ (by omega), u _ (by omega), ((e3 k hk).2.2.2.2 f hf').1, ((e3 k hk).2.2.2.2 f hf').2]
    exact ⟨h5, h4, 0, 0, by omega, h4, h5, fun q => absurd q (by omega), fun _ => ⟨rfl, rfl⟩⟩
  · obtain ⟨i1, i2, i3, i4, -⟩ := e3 k hk
    rw [u _ (by omega), u _ (by omega), u _ (by omega), u _ (by omega), i1, i2, i3, i4]
    unfold fX5_clear
    show rfill x.2.2.2.2.2.1.2.1 48 0 k = _ ∧ rfill x.2.2.2.2.2.1.2.2.1 48 0 k = _ ∧ (∃ p : Nat, p ≤ 999 ∧ rfill x.2.2.2.2.2.1.2.2.1 48 0 k = nI p) ∧ ((rfill x.2.2.2.2.2.1.1 48 (-5) k = -5 ∧ _) ∨ _) ∧ _ ∧ _
    unfold rfill
    rw [if_pos hk, if_pos hk, if_pos hk]
    exact ⟨rfl, rfl, ⟨0, by omega, rfl⟩, .inl ⟨rfl, rfl⟩, fun q => absurd q (Nat.not_lt_zero _), fun _ => rfl⟩
  · rw [u _ (by omega), u _ (by omega), u _ (by omega), u _ (by omega), ho _ (by omega), ho _ (by omega), ho _ (by omega), ho _ (by omega)]
    exact ⟨rfl, rfl, rfl, rfl⟩
