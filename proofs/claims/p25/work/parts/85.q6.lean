/-! HANGS: all adds up in a state that keeps the invariant -/
theorem nge0 {a : Nat} (h : a < 2 ^ 31) : ¬ nI a < 0 := nI_pos h
theorem n5lt : (-5 : Int32) < 0 := by decide
theorem hg0 {c N D : Nat} {y : Int32 × Int32 × Int32} {x : SD} (h : CR c N D x) (hc : c < 2 ^ 30) : fL_hangs_L0 y x 1000 0 0 0 0 0 0 0 1 0 = some (rsum x.2.2.2.2.2.2.1.1 6, rsum x.2.2.2.2.2.2.1.2.1 6, rsum x.2.2.2.2.2.2.1.2.2.1 6, rsum x.2.2.2.2.2.2.1.2.2.2 6, rsum (fun f => nI (ofB x.2.2.2.2.1.2 f)) 6, rsum (fun f => nI (coF x.2.2.2.2.1 f)) 6, rsum (fun f => nI (nsum (gav x N (nI f)) 48)) 6, 1) := by
  have hl := lpN (fun fu k => fL_hangs_L0 y x fu (rsum x.2.2.2.2.2.2.1.1 k) (rsum x.2.2.2.2.2.2.1.2.1 k) (rsum x.2.2.2.2.2.2.1.2.2.1 k) (rsum x.2.2.2.2.2.2.1.2.2.2 k) (rsum (fun f => nI (ofB x.2.2.2.2.1.2 f)) k) (rsum (fun f => nI (coF x.2.2.2.2.1 f)) k) (rsum (fun f => nI (nsum (gav x N (nI f)) 48)) k) 1 (nI k)) 6 _ (fun fu k hk => by
    show fL_hangs_L0 y x (fu + 1) _ _ _ _ _ _ _ _ _ = fL_hangs_L0 y x fu (rsum x.2.2.2.2.2.2.1.1 k + _) (rsum x.2.2.2.2.2.2.1.2.1 k + _) (rsum x.2.2.2.2.2.2.1.2.2.1 k + _) (rsum x.2.2.2.2.2.2.1.2.2.2 k + _) (rsum (fun f => nI (ofB x.2.2.2.2.1.2 f)) k + _) (rsum (fun f => nI (coF x.2.2.2.2.1 f)) k + _) (rsum (fun f => nI (nsum (gav x N (nI f)) 48)) k + _) 1 _
    rw [fL_hangs_L0, if_neg (nle6 hk), if_neg o10]
    rw [rd_f0 hk, rd_f1 h.2.2.1 hk, rd_f2 hk, rd_f3 h.1.2.1 h.1.2.2 hk, rd_f4 hk, rd_f5 hk, rd_f6 hk]
    simp only [bnd, Option.bind_some]
    obtain ⟨p, h1, h2, h3⟩ := h.2.2.2.2.2.1 k hk
    rw [if_neg (show ¬ x.2.2.2.2.2.2.1.1 k < 0 by rw [h2]; exact nI_pos (by omega)), if_neg (show ¬ x.2.2.2.2.2.2.1.1 k < nI (ofB x.2.2.2.2.1.2 k) by rw [h2]; exact nI_nlt h3 (by omega))]
    have e := co_of h.2.2.1 hk
    by_cases z : ofB x.2.2.2.2.1.2 k = 0
    · rw [if_pos (show nI (coF x.2.2.2.2.1 k) = 0 by rw [e.mpr z]; rfl), if_pos (show nI (ofB x.2.2.2.2.1.2 k) = 0 by rw [z]; rfl)]
      simp only [Option.bind_some]
      rw [if_pos trivial, Option.bind_some, nI_1]
    · have zc : coF x.2.2.2.2.1 k < 2 ^ 31 := Nat.lt_of_le_of_lt (nsum_cap (fun j => pos1n_le _)) (by omega)
      rw [if_neg (nI_ne0 (Nat.pos_of_ne_zero (fun q => z (e.mp q))) zc), if_neg (nI_ne0 (Nat.pos_of_ne_zero z) (by omega))]
      simp only [Option.bind_some]
      rw [if_pos trivial, Option.bind_some, nI_1]) (fun fu => by
    show fL_hangs_L0 y x (fu + 1) _ _ _ _ _ _ _ _ _ = _
    rw [fL_hangs_L0, if_pos ler6]) 1000 0 (by omega) (by omega)
  exact hl
theorem bz {α : Type} {v : Int32} {o : Option Int32} {k : Int32 → Option α} {r : Option α} (h : o = some v) (hk : k v = r) : o.bind k = r := by rw [h]; exact hk
theorem hg1 {c N D : Nat} {y : Int32 × Int32 × Int32} {x : SD} (h : CR c N D x) (hc : c < 2 ^ 30) : fL_hangs_L1 y x (nI N) 1000 1 0 0 0 = some (1, nI (nsum (ctK x.2.2.2.2.1) 48), nI (nsum (gav x N (-5)) 48)) := by
  obtain ⟨⟨d1, d4, d6⟩, hW, hb, hcn, hs, hf, ht⟩ := id h
  have hl := lpN (fun fu k => fL_hangs_L1 y x (nI N) fu 1 (nI (nsum (ctK x.2.2.2.2.1) k)) (nI (nsum (gav x N (-5)) k)) (nI k)) 48 _ (fun fu k hk => by
    show fL_hangs_L1 y x (nI N) (fu + 1) _ _ _ _ = fL_hangs_L1 y x (nI N) fu 1 (nI (nsum (ctK x.2.2.2.2.1) k + ctK x.2.2.2.2.1 k)) (nI (nsum (gav x N (-5)) k + gav x N (-5) k)) _
    have hC : k / 16 < 3 := by omega
    have hH : k % 16 < 16 := Nat.mod_lt _ (by omega)
    have hk2 : k / 16 * 16 + k % 16 = k := by omega
    have e1 : nI k / 16 = nI (k / 16) := pk_div (d := 16) (by omega) (by omega) (by omega)
    have e2 : nI k - nI k / 16 * 16 = nI (k % 16) := pk_rem (d := 16) (by omega) (by omega) (by omega)
    have s0 := rd_s0 (y := y) (x := x) hC hH
    have s1 := rd_s1 (y := y) (x := x) hC hH
    have s2 := rd_s2 (y := y) (x := x) hC hH
    have s3 := rd_s3 (y := y) (x := x) hC hH
    have s4 := rd_s4 (y := y) (x := x) hC hH
    have s5 := rd_s5 (y := y) d4 d6 hC hH
    have s6 := rd_s6 (y := y) d4 d6 hC hH
    have sw := rd_wind (y := y) d4 d6 hH
    rw [hk2] at s0 s1 s2 s3 s4 s6
    obtain ⟨⟨pr, hpr, pe⟩, h4, h5⟩ := hs k hk
    have eh := ct_hi hb hk
    have ecap : ctK x.2.2.2.2.1 k ≤ 6 := nsum_cap (fun j => pos1n_le _)
    rw [fL_hangs_L1, if_neg (nle48 hk), if_neg o10]
    simp only [bnd]
    rw [e2, e1]
    have t20 : (20 : Int32) + 20 * nI (k / 16) = nI (20 + 20 * (k / 16)) := by
      rw [show (20 : Int32) = nI 20 from rfl, pk_mul, nI_add]
    -- what the counts add
    have g0 : gav x N (-5) k = if k % 16 < N then 0 else if x.2.2.2.2.2.1.1 k = -5 then 0 else 1 := by
      unfold gav
      simp
    by_cases z : N ≤ k % 16
    · rw [if_pos z] at s5 s6 sw
      have zq : nI N ≤ nI (k % 16) := nI_le z (by omega)
      rw [if_neg (show ¬ k % 16 < N by omega)] at g0
      rcases h4 with ⟨a, a2, a3⟩ | ⟨g, w, b1, b2, b3, b4, b5⟩
      · rw [a] at s0
        rw [if_pos a] at g0
        rw [a2] at s1
        rw [a3] at s2
        refine bz s0 (bz s3 (bz s4 (bz s6 (bz s5 (bz (v := 0) (if_neg (show ¬ (0 : Int32) = 1 by decide)) (bz (v := 0) (if_pos n5lt) (bz (v := 0) (if_pos zq) (bz (v := 1) ?_ (bz (v := 1) ?_ ?_)))))))))
        · rw [if_pos rfl, if_pos n5lt]
          refine bz s1 ((if_pos rfl).trans (bz s2 ((if_pos rfl).trans ?_)))
          by_cases q : ctK x.2.2.2.2.1 k = 0
          · refine bz (v := 1) (if_pos (show nI (ctK x.2.2.2.2.1 k) = 0 by rw [q]; rfl)) (bz (v := 1) (if_pos (eh.mp q)) ((if_pos rfl).trans ((if_pos rfl).trans (if_pos rfl))))
          · refine bz (v := 0) (if_neg (nI_ne0 (Nat.pos_of_ne_zero q) (by omega))) (bz (v := 0) (if_neg (fun r => q (eh.mpr r))) ((if_pos rfl).trans ((if_pos rfl).trans (if_pos rfl))))
        · exact (if_neg o10).trans (if_pos rfl)
        · rw [g0, nI_add, nI_1, Int32.add_zero, Nat.add_zero]
          rfl
      · have own5 : ¬ x.2.2.2.2.2.1.1 k = -5 := by rw [b2]; exact n5_nI (by omega)
        rw [if_neg own5] at g0
        have c0 := ct_0 hb hk (.inr own5)
        rw [b2] at s0
        rw [b3] at s1
        rw [pe] at s2
        rw [c0] at s3
        refine bz s0 (bz s3 (bz s4 (bz s6 (bz s5 (bz (v := 0) (if_neg (show ¬ (0 : Int32) = 1 by decide)) (bz (v := 1) ((if_neg (nge0 (by omega))).trans (if_pos rfl)) (bz (v := 0) (if_pos zq) (bz (v := 1) ?_ (bz (v := 1) ?_ ?_)))))))))
        · rw [if_pos rfl, if_neg (nge0 (by omega))]
          refine (if_pos rfl).trans (bz s1 ((if_neg (nI_nlt (b := 1) b4 (by omega))).trans (bz s1 (?_))))
          rw [t20, if_neg (nI_nlt b5 (by omega))]
          refine bz s2 ((if_neg (nge0 (by omega))).trans ?_)
          refine bz (v := 1) rfl (bz (v := 1) (if_pos (eh.mp c0)) ((if_pos rfl).trans ((if_pos rfl).trans (if_pos rfl))))
        · exact (if_neg o10).trans (if_pos rfl)
        · rw [g0, c0, nI_add, nI_1, nI_1]
    · rw [if_neg z] at s5 s6 sw
      have zq : ¬ nI N ≤ nI (k % 16) := nI_ge (by omega) (by omega)
      have zP : k % 16 < N := by omega
      rw [if_pos zP] at g0
      have c0 := ct_0 hb hk (.inl zP)
      rw [c0] at s3
      obtain ⟨r, r1, r2, r3, r4⟩ := h5 zP
      rw [r2] at s6
      rcases h4 with ⟨a, a2, a3⟩ | ⟨g, w, b1, b2, b3, b4, b5⟩
      · rw [a] at s0
        rw [a2] at s1
        rw [a3] at s2
        have r5 := r3.mpr a
        refine bz s0 (bz s3 (bz s4 (bz s6 (bz s5 (bz (v := 1) (if_pos rfl) (bz (v := 0) (if_pos n5lt) (bz (v := 1) (if_neg zq) (bz (v := 1) ?_ (bz (v := 1) ?_ ?_)))))))))
        · rw [if_pos rfl, if_pos n5lt]
          refine bz s1 ((if_pos rfl).trans (bz s2 ((if_pos rfl).trans ?_)))
          refine bz (v := 1) (if_pos rfl) (bz (v := 1) (if_pos (eh.mp c0)) ((if_pos rfl).trans ((if_neg o10).trans ((if_pos rfl).trans ((if_neg (nge0 (by omega))).trans ((if_neg (nI_nlt (a := 3) r1 (by omega))).trans ?_))))))
          refine bz (v := 1) ?_ (bz (v := 1) (if_neg (show ¬ (0 : Int32) ≤ -5 by decide)) (if_pos rfl))
          rcases r5 with rfl | rfl
          · rfl
          · rfl
        · exact (if_neg o10).trans ((if_neg o10).trans (if_pos n5lt))
        · rw [g0, c0, nI_1, Nat.add_zero, Nat.add_zero, Int32.add_zero]
          show fL_hangs_L1 y x (nI N) fu 1 (nI _ + nI 0) _ _ = _
          rw [nI_add, Nat.add_zero]
          rfl
      · have own5 : ¬ x.2.2.2.2.2.1.1 k = -5 := by rw [b2]; exact n5_nI (by omega)
        rw [b2] at s0
        rw [b3] at s1
        rw [pe] at s2
        obtain ⟨w2, bb, q1, q2, q3, q4, q5⟩ := r4 own5
        rw [b3] at q3
        have q6 : w = w2 := (nI_eq (by omega) (by omega)).mp q3
        subst q6
        rw [q4] at sw
        have r5 : ¬ (r = 1 ∨ r = 2) := fun q => own5 (r3.mp q)
        refine bz s0 (bz s3 (bz s4 (bz s6 (bz s5 (bz (v := 1) (if_pos rfl) (bz (v := 0) ((if_neg (nge0 (by omega))).trans (if_neg o10)) (bz (v := 1) (if_neg zq) (bz (v := 1) ?_ (bz (v := 1) ?_ ?_)))))))))
        · rw [if_pos rfl, if_neg (nge0 (by omega))]
          refine (if_pos rfl).trans (bz s1 ((if_neg (nI_nlt (b := 1) b4 (by omega))).trans (bz s1 (?_))))
          rw [t20, if_neg (nI_nlt b5 (by omega))]
          refine bz s2 ((if_neg (nge0 (by omega))).trans ?_)
          refine bz (v := 1) rfl (bz (v := 1) (if_pos (eh.mp c0)) ((if_pos rfl).trans ((if_neg o10).trans ((if_neg (nge0 (by omega))).trans ((if_neg (nI_nlt (a := 3) r1 (by omega))).trans ?_)))))
          refine bz (v := 0) ?_ (bz (v := 0) (if_pos (nI_pos' (by omega))) (if_pos rfl))
          rcases (show r = 0 ∨ r = 3 by omega) with rfl | rfl
          · rfl
          · rfl
        · refine (if_neg o10).trans ((if_neg o10).trans ((if_neg (nge0 (by omega))).trans ?_))
          rw [sw]
          have n7 := n70 (w := w) (d := bb) (by omega) (by omega)
          by_cases q : r = 0
          · have q7 := q5.mp q
            refine bz (v := 1) (if_pos (show nI r = 0 by rw [q]; rfl)) (bz s1 (bz (v := 1) (if_neg (fun e => by have := n7.mp e; omega)) (if_pos rfl)))
          · have q7 : 70 < w + bb := by
              rcases Nat.lt_or_ge 70 (w + bb) with e | e
              · exact e
              · exact absurd (q5.mpr e) q
            refine bz (v := 0) (if_neg (nI_ne0 (Nat.pos_of_ne_zero q) (by omega))) (bz s1 (bz (v := 0) (if_pos (n7.mpr q7)) (if_pos rfl)))
        · rw [g0, c0, nI_1, Nat.add_zero, Nat.add_zero, Int32.add_zero]
          show fL_hangs_L1 y x (nI N) fu 1 (nI _ + nI 0) _ _ = _
          rw [nI_add, Nat.add_zero]
          rfl) (fun fu => by
    show fL_hangs_L1 y x (nI N) (fu + 1) _ _ _ _ = _
    rw [fL_hangs_L1, if_pos ler48]) 1000 0 (by omega) (by omega)
  exact hl
