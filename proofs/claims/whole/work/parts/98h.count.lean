theorem mm_purses (M : MD) : fX9_count_L0 M 1000 0 0 = some (rsum (fun f => M.1 (2 + f)) 6) := by
  have h := lpN (fun fu k => fX9_count_L0 M fu (rsum (fun f => M.1 (2 + f)) k) (nI k)) 6 _ (fun fu k hk => by
    show fX9_count_L0 M (fu + 1) _ _ = fX9_count_L0 M fu (rsum (fun f => M.1 (2 + f)) k + M.1 (2 + k)) _
    rw [fX9_count_L0, if_neg (nle6 hk), show (2 : Int32) + nI k = nI (2 + k) from nI_add 2 k, if_pos (ib_nI (by omega) (by omega)), nI_clamp (by omega), nI_1 k]
    rfl) (fun fu => by
    show fX9_count_L0 M (fu + 1) _ _ = _
    rw [fX9_count_L0, if_pos ler6]) 1000 0 (by omega) (by omega)
  exact h
theorem sim_count : SIM_count INV := fun n X M hI hn p1 => by
  have hnop := INV_nop n X M hI hn
  obtain ⟨N, D, h⟩ := hI.1
  obtain ⟨⟨d1, d2, d3, d4, d5, d6⟩, hW, hb, hcn', hs, hf, t1, t2, t3, t4, t5, t6, t7, t8, t9⟩ := id h
  obtain ⟨k, u1, u2, u3, -⟩ := hI.2.1
  obtain ⟨len, l1, l2, l3, -⟩ := hI.2.2.2.1
  have c2 := cc_all X.2.1.2.2.2.2.1
  have m2 := mm_all (B := 0) hb (by omega)
  have c3 := cc_open d4 d6 (-5)
  have m3 := mm_open h (p := -1) (p' := -5) (.inl ⟨by decide, rfl⟩)
  have m10 := mm_purses M
  have e10 : rsum (fun f => M.1 (2 + f)) 6 = rsum X.2.1.2.2.2.2.2.2.1.1 6 := rsum_congr (fun f hf' => by
    have := (hf f hf').1
    rw [Nat.zero_add] at this
    exact this.symm)
  unfold fX8_count fX6_total fX9_count
  by_cases h0 : p1 = 0
  · subst h0
    exact ⟨nI D, congrArg some d1, congrArg some d2, hnop⟩
  by_cases h1 : p1 = 1
  · subst h1
    exact ⟨nI N, congrArg some d4, congrArg some d5, hnop⟩
  rw [if_neg h0, if_neg h0, if_neg h1, if_neg h1]
  by_cases h2 : p1 = 2
  · subst h2
    rw [if_pos (show (2 : Int32) = 2 from rfl), if_pos (show (2 : Int32) = 2 from rfl), c2, show fX9_bids M 0 = _ from m2]
    exact ⟨_, rfl, rfl, hnop⟩
  rw [if_neg h2, if_neg h2]
  by_cases h3 : p1 = 3
  · subst h3
    rw [if_pos (show (3 : Int32) = 3 from rfl), if_pos (show (3 : Int32) = 3 from rfl), c3, m3]
    exact ⟨_, rfl, rfl, hnop⟩
  rw [if_neg h3, if_neg h3]
  by_cases h4 : p1 = 4
  · subst h4
    exact ⟨M.1 (0 + 26), congrArg some t8, rfl, hnop⟩
  rw [if_neg h4, if_neg h4]
  by_cases h5 : p1 = 5
  · subst h5
    exact ⟨M.1 (0 + 27), congrArg some t1, rfl, hnop⟩
  rw [if_neg h5, if_neg h5]
  by_cases h6 : p1 = 6
  · subst h6
    exact ⟨M.1 (0 + 28), congrArg some t2, rfl, hnop⟩
  rw [if_neg h6, if_neg h6]
  by_cases h7 : p1 = 7
  · subst h7
    exact ⟨M.1 (0 + 29), congrArg some t3, rfl, hnop⟩
  rw [if_neg h7, if_neg h7]
  by_cases h8 : p1 = 8
  · subst h8
    exact ⟨M.1 (0 + 30), congrArg some t4, rfl, hnop⟩
  rw [if_neg h8, if_neg h8]
  by_cases h9 : p1 = 9
  · subst h9
    exact ⟨M.1 (0 + 31), congrArg some t5, rfl, hnop⟩
  rw [if_neg h9, if_neg h9]
  by_cases h10 : p1 = 10
  · subst h10
    rw [if_pos (show (10 : Int32) = 10 from rfl), if_pos (show (10 : Int32) = 10 from rfl), m10, e10]
    exact ⟨_, rfl, rfl, hnop⟩
  rw [if_neg h10, if_neg h10, if_neg h10]
  by_cases h11 : p1 = 11
  · subst h11
    exact ⟨M.1 (0 + 32), congrArg some t6, rfl, hnop⟩
  rw [if_neg h11, if_neg h11]
  by_cases h12 : p1 = 12
  · subst h12
    exact ⟨M.1 (0 + 33), congrArg some t7, rfl, hnop⟩
  rw [if_neg h12, if_neg h12]
  by_cases h13 : p1 = 13
  · subst h13
    exact ⟨M.1 (0 + 34), congrArg some t9, rfl, hnop⟩
  rw [if_neg h13, if_neg h13]
  by_cases h14 : p1 = 14
  · rw [if_pos h14, if_pos h14, u2, u3]
    exact ⟨_, rfl, rfl, hnop⟩
  rw [if_neg h14, if_neg h14]
  by_cases h15 : p1 = 15
  · rw [if_pos h15, if_pos h15]
    unfold fX3_length
    rw [l2, l3]
    exact ⟨_, rfl, rfl, hnop⟩
  rw [if_neg h15, if_neg h15]
  exact ⟨_, rfl, rfl, hnop⟩
