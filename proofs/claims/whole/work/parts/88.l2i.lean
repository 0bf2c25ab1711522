/-! who bids most, on both sides -/
theorem brn_eq {x : BD} {P : Nat → Prop} {exp blw : AF} {S : AF} {B K : Nat} (hb : RB x P S B) (hW : RW exp blw S B) (hK : K < 48) : ∀ f, f < 6 → brn S B K f = if (!decide (fX8_heaviestAt (nI (K / 16)) (exp (K % 16)) < x.1 (f * 48 + K))) = true then x.2 (f * 48 + K) else 0 := fun f hf => by
  obtain ⟨h1, h2, o, w, h3, h4, h5, h6, -⟩ := hb f K hf hK
  obtain ⟨w1, w2, d, hd, w3⟩ := hW (K % 16) (Nat.mod_lt _ (by omega))
  unfold brn
  rw [← h1, ← h2, ← w2, w3, h5, heav_nI (by omega) hd, h4]
  rcases Nat.eq_zero_or_pos o with z | z
  · subst z
    rw [show nI 0 = 0 from rfl, ite_self, ite_self]
  · obtain ⟨h7, h8⟩ := h6 z
    have e := n70 (w := w) (d := d) (by omega) (by omega)
    by_cases q : 70 < w + d
    · rw [if_pos (e.mpr q)]
      have e2 : nI (min (70 - d) (20 + 20 * (K / 16))) < nI w := nI_lt (by omega) (by omega)
      simp [e2]
    · rw [if_neg (fun z => q (e.mp z))]
      have e2 : ¬ nI (min (70 - d) (20 + 20 * (K / 16))) < nI w := nI_nlt (by omega) (by omega)
      simp [e2]
theorem zq_win {x : BD} {P : Nat → Prop} {exp blw : AF} {S : AF} {B K : Nat} (hb : RB x P S B) (hW : RW exp blw S B) (hK : K < 48) : fX0_winner x (nI K) (fX8_heaviestAt (nI (K / 16)) (exp (K % 16))) = some (enc (-5) (bst (brn S B K) (fun _ => true) 6)) := by
  rw [cc_winner x hK]
  have e1 := bst_mask (fun f => x.2 (f * 48 + K)) (fun f => !decide (fX8_heaviestAt (nI (K / 16)) (exp (K % 16)) < x.1 (f * 48 + K))) (fun _ => true) 6
  have e2 := bst_congr (b := brn S B K) (e := fun _ => true) (n := 6) (fun f hf => ⟨brn_eq hb hW hK f hf, rfl⟩)
  rw [e2, ← e1]
  rfl
theorem zq_hi {x : BD} {P : Nat → Prop} {exp blw : AF} {S : AF} {B K : Nat} (hb : RB x P S B) (hW : RW exp blw S B) (hK : K < 48) (bf : Int32) : fX0_highest x (nI K) (fX8_heaviestAt (nI (K / 16)) (exp (K % 16))) bf = some (hif (brn S B K) (fun f => !decide (nI f = bf)) 6) := by
  rw [cc_highest x hK]
  have e1 := hif_mask (fun f => x.2 (f * 48 + K)) (fun f => !decide (fX8_heaviestAt (nI (K / 16)) (exp (K % 16)) < x.1 (f * 48 + K))) (fun f => !decide (nI f = bf)) 6
  have e2 := hif_congr (b := brn S B K) (e := fun f => !decide (nI f = bf)) (n := 6) (fun f hf => ⟨brn_eq hb hW hK f hf, rfl⟩)
  rw [e2, ← e1]
theorem bst_true {b : Nat → Int32} {z : Int32} (hz : z < 0) : bst b (fun f => !decide (nI f = z)) 6 = bst b (fun _ => true) 6 := bst_congr (fun j hj => ⟨rfl, by
  have e : ¬ nI j = z := fun q => nI_pos (n := j) (by omega) (by rw [q]; exact hz)
  simp [e]⟩)
theorem hif_true {b : Nat → Int32} {z : Int32} (hz : z < 0) : hif b (fun f => !decide (nI f = z)) 6 = hif b (fun _ => true) 6 := hif_congr (fun j hj => ⟨rfl, by
  have e : ¬ nI j = z := fun q => nI_pos (n := j) (by omega) (by rw [q]; exact hz)
  simp [e]⟩)
theorem hif_mono (b : Nat → Int32) (e : Nat → Bool) : ∀ n, hif b e n ≤ hif b (fun _ => true) n
  | 0 => Int32.le_refl _
  | n + 1 => by
    have ih := hif_mono b e n
    show (if e n = true then (if b n ≤ hif b e n then hif b e n else b n) else hif b e n) ≤ (if true = true then (if b n ≤ hif b (fun _ => true) n then hif b (fun _ => true) n else b n) else hif b (fun _ => true) n)
    rw [if_pos rfl]
    by_cases h3 : b n ≤ hif b (fun _ => true) n
    · rw [if_pos h3]
      split
      · split
        · exact ih
        · exact h3
      · exact ih
    · rw [if_neg h3]
      have h4 := Int32.le_of_lt (Int32.not_le.mp h3)
      split
      · split
        · exact Int32.le_trans ih h4
        · exact Int32.le_refl _
      · exact Int32.le_trans ih h4
/-- the one who gets a slot: what is known of it -/
theorem zq_got {x : BD} {P : Nat → Prop} {exp blw : AF} {S : AF} {B K g : Nat} (hb : RB x P S B) (hW : RW exp blw S B) (hK : K < 48) (h : bst (brn S B K) (fun _ => true) 6 = some g) : g < 6 ∧ ∃ o w p : Nat, o ≤ 999 ∧ p ≤ o ∧ x.2 (g * 48 + K) = nI o ∧ x.1 (g * 48 + K) = nI w ∧ 1 ≤ w ∧ w ≤ 20 + 20 * (K / 16) ∧ 0 < o ∧ hif (brn S B K) (fun f => !decide (nI f = nI g)) 6 = nI p := by
  obtain ⟨h1, -, h2, h3⟩ := bst_some h
  obtain ⟨b1, b2, o, w, b3, b4, b5, b6, -⟩ := hb g K h1 hK
  have e := brn_eq hb hW hK g h1
  have e2 : brn S B K g = nI o := by
    rw [e] at h3 ⊢
    by_cases z : (!decide (fX8_heaviestAt (nI (K / 16)) (exp (K % 16)) < x.1 (g * 48 + K))) = true
    · rw [if_pos z]
      exact b4
    · rw [if_neg z] at h3
      exact absurd h3 (by decide)
  have ho : 0 < o := by
    rcases Nat.eq_zero_or_pos o with z | z
    · subst z
      rw [e2] at h3
      exact absurd h3 (by decide)
    · exact z
  have h4 := hif_mono (brn S B K) (fun f => !decide (nI f = nI g)) 6
  rw [h2, e2] at h4
  obtain ⟨p, h5, h6⟩ := nI_of2 (M := nI o) (n := o) (nI_toInt (by omega)) (Int32.not_lt.mpr (hif_pos _ _ _)) h4
  exact ⟨h1, o, w, p, b3, h5, b4, b5, (b6 ho).1, (b6 ho).2, ho, h6⟩
