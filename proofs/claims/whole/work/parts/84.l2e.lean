/-! sums of which one term differs; counts and offers of the two sides -/
theorem nsum_off {g h : Nat → Nat} {K : Nat} : ∀ {n : Nat}, K < n → (∀ j, j < n → j ≠ K → g j = h j) → nsum g n + h K = nsum h n + g K
  | 0, hK, _ => absurd hK (by omega)
  | n + 1, hK, e => by
    unfold nsum
    by_cases q : K = n
    · subst q
      rw [nsum_congr (fun j hj => e j (by omega) (by omega))]
      omega
    · have h1 := nsum_off (n := n) (by omega) (fun j hj hq => e j (by omega) hq)
      have h2 := e n (by omega) (fun q2 => q q2.symm)
      omega
theorem ofB_upd (bo : AF) {F K : Nat} {v : Int32} (hK : K < 48) : ofB (upd bo (F * 48 + K) v) F + (bo (F * 48 + K)).toNatClampNeg = ofB bo F + v.toNatClampNeg := by
  have h := nsum_off (g := fun k => (upd bo (F * 48 + K) v (F * 48 + k)).toNatClampNeg) (h := fun k => (bo (F * 48 + k)).toNatClampNeg) hK (fun j hj hq => by
    show (upd _ _ _ _).toNatClampNeg = _
    rw [upd_n (by omega)])
  rw [upd_s] at h
  exact h
theorem ofB_oth (bo : AF) {F F' K : Nat} {v : Int32} (hK : K < 48) (h : F' ≠ F) : ofB (upd bo (F * 48 + K) v) F' = ofB bo F' := nsum_congr (fun k hk => by
    show (upd _ _ _ _).toNatClampNeg = _
    rw [upd_n (by omega)])
theorem cntB_upd (bo : AF) {F K : Nat} {v : Int32} (hF : F < 6) (hK : K < 48) : cntB (upd bo (F * 48 + K) v) + pos1n (bo (F * 48 + K)) = cntB bo + pos1n v := by
  have h1 := nsum_off (g := fun k => pos1n (upd bo (F * 48 + K) v (F * 48 + k))) (h := fun k => pos1n (bo (F * 48 + k))) hK (fun j hj hq => by
    show pos1n (upd _ _ _ _) = _
    rw [upd_n (by omega)])
  rw [upd_s] at h1
  have h2 := nsum_off (g := fun f => nsum (fun k => pos1n (upd bo (F * 48 + K) v (f * 48 + k))) 48) (h := fun f => nsum (fun k => pos1n (bo (f * 48 + k))) 48) hF (fun f hf hq => nsum_congr (fun k hk => by
    show pos1n (upd _ _ _ _) = _
    rw [upd_n (by omega)]))
  unfold cntB
  omega
theorem ofB_rm (x : BD) {F K : Nat} (hF : F < 6) (hK : K < 48) : ofB (rmS x K 6).2 F + (x.2 (F * 48 + K)).toNatClampNeg = ofB x.2 F := by
  have h := nsum_off (g := fun k => ((rmS x K 6).2 (F * 48 + k)).toNatClampNeg) (h := fun k => (x.2 (F * 48 + k)).toNatClampNeg) hK (fun j hj hq => by
    show ((rmS x K 6).2 (F * 48 + j)).toNatClampNeg = _
    rw [(rmS_out (i := F * 48 + j) (fun f' hf' => by omega)).2])
  rw [(rmS_in F hF).2, show (0 : Int32).toNatClampNeg = 0 from rfl] at h
  exact h
theorem rsum_nI {f : AF} {g : Nat → Nat} : ∀ {n : Nat}, (∀ j, j < n → f j = nI (g j)) → rsum f n = nI (nsum g n)
  | 0, _ => rfl
  | n + 1, e => by
    show rsum f n + f n = nI (nsum g n + g n)
    rw [rsum_nI (fun j hj => e j (by omega)), e n (by omega), nI_add]
theorem pos1_nI (v : Int32) : pos1 v = nI (pos1n v) := by
  unfold pos1 pos1n
  split <;> rfl
theorem nsum_0 : ∀ {n : Nat}, nsum (fun _ => 0) n = 0
  | 0 => rfl
  | n + 1 => by
    unfold nsum
    rw [nsum_0]
theorem nsum_add (a b : Nat → Nat) : ∀ {n : Nat}, nsum (fun j => a j + b j) n = nsum a n + nsum b n
  | 0 => rfl
  | n + 1 => by
    unfold nsum
    rw [nsum_add a b]
    omega
theorem nsum_swap (g : Nat → Nat → Nat) (m : Nat) : ∀ {n : Nat}, nsum (fun i => nsum (g i) m) n = nsum (fun j => nsum (fun i => g i j) n) m
  | 0 => nsum_0.symm
  | n + 1 => by
    show nsum (fun i => nsum (g i) m) n + nsum (g n) m = nsum (fun j => nsum (fun i => g i j) n + g n j) m
    rw [nsum_add, nsum_swap g m]
theorem cc_all (x : BD) : fX0_countAll x = some (nI (cntB x.2)) := by
  rw [cc_countAll]
  exact congrArg some (rsum_nI (fun f hf => rsum_nI (fun k hk => pos1_nI _)))
theorem mm_all {x : BD} {P : Nat → Prop} {M : MD} {B : Nat} (h : RB x P M.1 B) (hB : B + 835 ≤ 5845) : fX9_bids M (nI B) = some (nI (cntB x.2)) := by
  rw [mm_bids M hB]
  have e : rsum (fun k => rsum (fun f => pos1 (M.1 (B + 531 + 6 * k + f))) 6) 48 = nI (nsum (fun k => nsum (fun f => pos1n (x.2 (f * 48 + k))) 6) 48) := rsum_nI (fun k hk => rsum_nI (fun f hf => by
    show pos1 (M.1 (B + 531 + 6 * k + f)) = nI (pos1n (x.2 (f * 48 + k)))
    rw [← (h f k hf hk).2.1]
    exact pos1_nI _))
  rw [e, ← nsum_swap (fun f k => pos1n (x.2 (f * 48 + k))) 48]
  rfl
theorem cc_off {x : BD} {P : Nat → Prop} {S : AF} {B F : Nat} (h : RB x P S B) (hF : F < 6) : fX0_offeredBy x (nI F) = some (nI (ofB x.2 F)) := by
  rw [cc_offeredBy x hF]
  exact congrArg some (rsum_nI (fun k hk => by
    obtain ⟨o, w, h1, h2, -⟩ := (h F k hF hk).2.2
    show x.2 (F * 48 + k) = nI (x.2 (F * 48 + k)).toNatClampNeg
    rw [h2, nI_clamp (by omega)]))
theorem mm_off {x : BD} {P : Nat → Prop} {M : MD} {B F : Nat} (h : RB x P M.1 B) (hB : B + 835 ≤ 5845) (hF : F < 6) : fX9_offered M (nI B) (nI F) = some (nI (ofB x.2 F)) := by
  rw [mm_offered M hB hF]
  exact congrArg some (rsum_nI (fun k hk => by
    obtain ⟨h0, h3, o, w, h1, h2, -⟩ := h F k hF hk
    show M.1 (B + 531 + 6 * k + F) = nI (x.2 (F * 48 + k)).toNatClampNeg
    rw [← h3, h2, nI_clamp (by omega)]))
theorem mm_for {x : BD} {P : Nat → Prop} {M : MD} {B K : Nat} (h : RB x P M.1 B) (hB : B + 835 ≤ 5845) (hK : K < 48) : fX9_bidsFor M (nI B) (nI K) = fX0_countFor x (nI K) := by
  rw [mm_bidsFor M hB hK, cc_countFor x hK]
  exact congrArg some (rsum_congr (fun f hf => by
    show pos1 _ = pos1 _
    rw [(h f K hf hK).2.1]))
/-- the bids for a slot as a plain number -/
theorem cc_forN (x : BD) {K : Nat} (hK : K < 48) : fX0_countFor x (nI K) = some (nI (nsum (fun f => pos1n (x.2 (f * 48 + K))) 6)) := by
  rw [cc_countFor x hK]
  exact congrArg some (rsum_nI (fun k hk => pos1_nI _))
theorem nsum_cap {g : Nat → Nat} (h : ∀ j, g j ≤ 1) : ∀ {n : Nat}, nsum g n ≤ n
  | 0 => Nat.le_refl _
  | n + 1 => by
    unfold nsum
    have h1 := nsum_cap h (n := n)
    have h2 := h n
    omega
theorem pos1n_le (v : Int32) : pos1n v ≤ 1 := by
  unfold pos1n
  split <;> omega
/-! half hours that are over -/
theorem mm_done (M : MD) {B N h : Nat} (hB : B + 835 ≤ 5845) (hN : M.1 (B + 1) = nI N) (h16 : N ≤ 16) (hh : h < 16) : fX9_isDone M (nI B) (nI h) = some (if N ≤ h then 0 else 1) := by
  unfold fX9_isDone
  rw [nI_1, if_pos (ib_nI (by omega) (by omega)), nI_clamp (by omega), hN]
  by_cases q : N ≤ h
  · rw [if_pos (nI_le q (by omega)), if_pos q]
  · rw [if_neg (nI_ge (by omega) (by omega)), if_neg q]
theorem cc_over {x : SD} {N h : Nat} (hN : x.2.1 = nI N) (h16 : N ≤ 16) (hh : h < 16) : fX6_isOver x (nI h) = if N ≤ h then 0 else 1 := by
  unfold fX6_isOver
  rw [hN]
  by_cases q : N ≤ h
  · rw [if_pos (nI_le q (by omega)), if_pos q]
  · rw [if_neg (nI_ge (by omega) (by omega)), if_neg q]
theorem n5_nI {f : Nat} (h : f < 2 ^ 31) : ¬ nI f = -5 := fun q => nI_pos h (by rw [q]; decide)
theorem n1_nI {f : Nat} (h : f < 2 ^ 31) : ¬ nI f = -1 := fun q => nI_pos h (by rw [q]; decide)
/-- whether a slot is given away -/
theorem RS.own {x : LD} {P : Nat → Prop} {S : AF} {B K : Nat} (h : RS x P S B) (hK : K < 48) : (fX5_isAwarded x (nI K) = 0 ∧ fX5_ownerOf x (nI K) = -5 ∧ S (B + 51 + K) = -1) ∨ ∃ f w : Nat, f < 6 ∧ fX5_isAwarded x (nI K) = 1 ∧ fX5_ownerOf x (nI K) = nI f ∧ x.1 K = nI f ∧ S (B + 51 + K) = nI f ∧ x.2.1 K = nI w ∧ 1 ≤ w ∧ w ≤ 20 + 20 * (K / 16) := by
  obtain ⟨-, -, -, h4, -⟩ := h K hK
  unfold fX5_isAwarded fX5_ownerOf
  rw [rat_nI hK (by omega)]
  rcases h4 with ⟨a, b⟩ | ⟨f, w, h1, h2, h3, h5, h6, h7⟩
  · exact .inl ⟨if_pos a, a, b⟩
  · exact .inr ⟨f, w, h1, if_neg (by rw [h2]; exact n5_nI (by omega)), h2, h2, h3, h5, h6, h7⟩
