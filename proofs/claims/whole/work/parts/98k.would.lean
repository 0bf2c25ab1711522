/-! one bid more: who bids most then -/
theorem bst_add {b b' : Nat → Int32} {F : Nat} (hF : b F = 0) (h0 : 0 < b' F) (he : ∀ f, f ≠ F → b' f = b f) : ∀ n, F < n → (hif b (fun _ => true) n < b' F → hif b' (fun _ => true) n = b' F ∧ bst b' (fun _ => true) n = some F) ∧ (0 < b' F → hif b (fun _ => true) n = b' F → hif b' (fun _ => true) n = b' F ∧ ∃ g, bst b (fun _ => true) n = some g ∧ g ≠ F ∧ bst b' (fun _ => true) n = some (if g < F then g else F)) ∧ (b' F < hif b (fun _ => true) n → hif b' (fun _ => true) n = hif b (fun _ => true) n ∧ bst b' (fun _ => true) n = bst b (fun _ => true) n)
  | 0, h => absurd h (by omega)
  | n + 1, h => by
    have hS : ∀ c : Nat → Int32, hif c (fun _ => true) (n + 1) = if c n ≤ hif c (fun _ => true) n then hif c (fun _ => true) n else c n := fun c => if_pos rfl
    have hT : ∀ c : Nat → Int32, bst c (fun _ => true) (n + 1) = if c n ≤ hif c (fun _ => true) n then bst c (fun _ => true) n else some n := fun c => if_pos rfl
    by_cases q : F = n
    · subst q
      have e1 : hif b' (fun _ => true) F = hif b (fun _ => true) F := hif_congr (fun j hj => ⟨he j (by omega), rfl⟩)
      have e2 : bst b' (fun _ => true) F = bst b (fun _ => true) F := bst_congr (fun j hj => ⟨he j (by omega), rfl⟩)
      have e3 : hif b (fun _ => true) (F + 1) = hif b (fun _ => true) F := by
        rw [hS, if_pos (by rw [hF]; exact hif_pos _ _ _)]
      have e4 : bst b (fun _ => true) (F + 1) = bst b (fun _ => true) F := by
        rw [hT, if_pos (by rw [hF]; exact hif_pos _ _ _)]
      rw [e3, e4, hS b', hT b', e1, e2]
      refine ⟨fun z => ?_, fun z1 z => ?_, fun z => ?_⟩
      · rw [if_neg (Int32.not_le.mpr z), if_neg (Int32.not_le.mpr z)]
        exact ⟨rfl, rfl⟩
      · rw [if_pos (by rw [z]; exact Int32.le_refl _), if_pos (by rw [z]; exact Int32.le_refl _)]
        cases hb : bst b (fun _ => true) F with
        | none =>
          rw [bst_none hb] at z
          exact absurd z1 (by rw [← z]; decide)
        | some g =>
          have hg := (bst_some hb).1
          exact ⟨z, g, rfl, by omega, by rw [if_pos hg]⟩
      · rw [if_pos (Int32.le_of_lt z), if_pos (Int32.le_of_lt z)]
        exact ⟨rfl, rfl⟩
    · obtain ⟨i1, i2, i3⟩ := bst_add hF h0 he n (by omega)
      have en : b' n = b n := he n (fun e => q e.symm)
      rw [hS b, hT b, hS b', hT b', en]
      by_cases z0 : b n ≤ hif b (fun _ => true) n
      · rw [if_pos z0, if_pos z0]
        refine ⟨fun z => ?_, fun z1 z => ?_, fun z => ?_⟩
        · obtain ⟨j1, j2⟩ := i1 z
          have hle := Int32.le_trans z0 (Int32.le_of_lt z)
          rw [j1, if_pos hle, if_pos hle]
          exact ⟨rfl, j2⟩
        · obtain ⟨j1, g, j2, j3, j4⟩ := i2 z1 z
          rw [j1, if_pos (by rw [← z]; exact z0), if_pos (by rw [← z]; exact z0)]
          exact ⟨rfl, g, j2, j3, j4⟩
        · obtain ⟨j1, j2⟩ := i3 z
          rw [j1, if_pos z0, if_pos z0]
          exact ⟨rfl, j2⟩
      · have z9 := Int32.not_le.mp z0
        rw [if_neg z0, if_neg z0]
        refine ⟨fun z => ?_, fun z1 z => ?_, fun z => ?_⟩
        · obtain ⟨j1, j2⟩ := i1 (Int32.lt_trans z9 z)
          rw [j1, if_pos (Int32.le_of_lt z), if_pos (Int32.le_of_lt z)]
          exact ⟨rfl, j2⟩
        · obtain ⟨j1, j2⟩ := i1 (by rw [← z]; exact z9)
          rw [j1, if_pos (by rw [z]; exact Int32.le_refl _), if_pos (by rw [z]; exact Int32.le_refl _)]
          exact ⟨rfl, n, rfl, fun e => q e.symm, by rw [if_neg (by omega)]; exact j2⟩
        · have hmax : ¬ b n ≤ hif b' (fun _ => true) n := by
            rcases Int32.lt_or_le (hif b (fun _ => true) n) (b' F) with y | y
            · rw [(i1 y).1]
              exact Int32.not_le.mpr z
            · rcases Int32.lt_or_eq_of_le y with y | y
              · rw [(i3 y).1]
                exact z0
              · by_cases w : 0 < b' F
                · rw [(i2 w y.symm).1]
                  exact Int32.not_le.mpr z
                · exact absurd h0 w
          rw [if_neg hmax, if_neg hmax]
          exact ⟨rfl, rfl⟩
/-- without the new one it is as before -/
theorem hif_exc {b b' : Nat → Int32} {F : Nat} (hF : b F = 0) (he : ∀ f, f ≠ F → b' f = b f) (hF31 : F < 2 ^ 31) : ∀ n, n ≤ 6 → hif b' (fun f => !decide (nI f = nI F)) n = hif b (fun _ => true) n
  | 0, _ => rfl
  | n + 1, hn => by
    have ih := hif_exc hF he hF31 n (by omega)
    have hS : hif b (fun _ => true) (n + 1) = if b n ≤ hif b (fun _ => true) n then hif b (fun _ => true) n else b n := if_pos rfl
    rw [hS]
    show (if (!decide (nI n = nI F)) = true then (if b' n ≤ hif b' (fun f => !decide (nI f = nI F)) n then hif b' (fun f => !decide (nI f = nI F)) n else b' n) else hif b' (fun f => !decide (nI f = nI F)) n) = _
    rw [ih]
    by_cases e : n = F
    · subst e
      rw [if_neg (by simp), hF, if_pos (hif_pos _ _ _)]
    · have e2 : ¬ nI n = nI F := fun q => e ((nI_eq (by omega) hF31).mp q)
      rw [if_pos (by simp [e2]), he n e]
