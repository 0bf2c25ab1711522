/-! entry e of the row: what the class holds of it -/
def ENT (en : AF) (e : Nat) (k f c hh wt co wi : Int32) : Prop := (k = 98 ∧ en (6 * e) = 98 ∧ en (6 * e + 1) = f ∧ en (6 * e + 2) = c ∧ en (6 * e + 3) = hh ∧ en (6 * e + 4) = wt ∧ en (6 * e + 5) = co) ∨ (k = 101 ∧ en (6 * e) = 101 ∧ en (6 * e + 1) = hh ∧ en (6 * e + 2) = wi) ∨ (k = 100 ∧ en (6 * e) = 100 ∧ en (6 * e + 1) = wi) ∨ (k = 110 ∧ en (6 * e) = 110)
theorem sx0 {e : Nat} (he : e ≤ 40) : ((6 : Int32) * nI e).toNatClampNeg = 6 * e := by
  rw [show (6 : Int32) = nI 6 from rfl, pk_mul, nI_clamp (by omega)]
theorem sx {e : Nat} (he : e ≤ 40) (j : Nat) (hj : j ≤ 5) : (((6 : Int32) * nI e) + nI j).toNatClampNeg = 6 * e + j := by
  rw [show (6 : Int32) = nI 6 from rfl, pk_mul, nI_add, nI_clamp (by omega)]
theorem sb0 {e : Nat} (he : e ≤ 40) : ib ((6 : Int32) * nI e) 246 = true := by
  rw [show (6 : Int32) = nI 6 from rfl, pk_mul]
  exact ib_nI (by omega) (by omega)
theorem sb {e : Nat} (he : e ≤ 40) (j : Nat) (hj : j ≤ 5) : ib (((6 : Int32) * nI e) + nI j) 246 = true := by
  rw [show (6 : Int32) = nI 6 from rfl, pk_mul, nI_add]
  exact ib_nI (by omega) (by omega)
/-- reads where the place is right and a character is there -/
theorem rr_sign {len i : Nat} {w : PD} {M : MD} (h : RD0 len w M) (hi : i < len) : ∃ q, q < 65536 ∧ M.2.2.2.1 (nI i).toNatClampNeg = nI q ∧ ∀ k f c hh wt co wi, fX3_sign (pdF w (nI i) 0 k f c hh wt co wi) = some (nI q) := by
  have hl := h.1
  have e : (nI i).toNatClampNeg = i := nI_clamp (by omega)
  rcases rd_sign (RD0.at h (Nat.le_of_lt hi) true 0 0 0 0 0 0 0 (fun _ => 0) 0) with ⟨s1, -⟩ | ⟨-, s2, q, s3, s4⟩
  · omega
  · refine ⟨q, s3, by rw [e]; exact s4, fun k f c hh wt co wi => ?_⟩
    exact s2.trans (congrArg some s4)
section
variable {len i e : Nat} {w : PD} {M : MD}
theorem rd_b (h : RD0 len w M) (hi : i < len) (he : e ≤ 40) (hv : M.2.2.2.1 (nI i).toNatClampNeg = nI 98) (hs : ∀ k f c hh wt co wi, fX3_sign (pdF w (nI i) 0 k f c hh wt co wi) = some (nI 98)) (en : AF) : ∃ (i' : Nat) (ok' : Bool) (en' : AF) (e' : Nat), fX9_reads (mdE M (nI i) (okr true) en (nI e)) = some (mdE M (nI i') (okr ok') en' (nI e')) ∧ i ≤ i' ∧ i' ≤ len ∧ (∀ j, j < 6 * e → en' j = en j) ∧ (ok' = true → i < i' ∧ e' = e + 1) ∧ ∀ k f c hh wt co wi, ∃ k' f' c' hh' wt' co' wi', rcN (pdF w (nI i) (okc true) k f c hh wt co wi) = some (pdF w (nI i') (okc ok') k' f' c' hh' wt' co' wi') ∧ (ok' = true → ENT en' e k' f' c' hh' wt' co' wi') := by
  have hl := h.1
  obtain ⟨n1, i1, o1, a1, b1, c1, d1⟩ := nu h (i := i + 1) (by omega) true 0 5 (by omega) (by omega)
  obtain ⟨i2, o2, a2, b2, c2, d2, -⟩ := tk h d1 o1 99 (by omega)
  obtain ⟨n3, i3, o3, a3, b3, c3, d3⟩ := nu h d2 o2 0 2 (by omega) (by omega)
  obtain ⟨i4, o4, a4, b4, c4, d4, -⟩ := tk h d3 o3 104 (by omega)
  obtain ⟨n5, i5, o5, a5, b5, c5, d5⟩ := nu h d4 o4 0 15 (by omega) (by omega)
  obtain ⟨i6, o6, a6, b6, c6, d6, -⟩ := tk h d5 o5 119 (by omega)
  obtain ⟨n7, i7, o7, a7, b7, c7, d7⟩ := nu h d6 o6 1 60 (by omega) (by omega)
  obtain ⟨i8, o8, a8, b8, c8, d8, -⟩ := tk h d7 o7 61 (by omega)
  obtain ⟨n9, i9, o9, a9, b9, c9, d9⟩ := nu h d8 o8 1 999 (by omega) (by omega)
  refine ⟨i9, o9, upd (upd (upd (upd (upd (upd en (6 * e) 98) (6 * e + 1) (nI n1)) (6 * e + 2) (nI n3)) (6 * e + 3) (nI n5)) (6 * e + 4) (nI n7)) (6 * e + 5) (nI n9), e + 1, ?_, by omega, d9, fun j hj => ?_, fun _ => ⟨by omega, rfl⟩, fun k f c hh wt co wi => ⟨98, nI n1, nI n3, nI n5, nI n7, nI n9, wi, ?_, fun _ => .inl ⟨rfl, ?_, ?_, ?_, ?_, ?_, ?_⟩⟩⟩
  · unfold fX9_reads
    refine (if_neg (show ¬ okr true = 0 by decide)).trans ?_
    refine (if_neg (show ¬ M.2.2.2.2.1 ≤ nI i by rw [h.2.2.1]; exact nI_ge (by omega) (by omega))).trans ?_
    refine ibp (ib_nI (n := 80) (k := i) (by omega) (by omega)) ?_
    refine bne hv ?_
    refine (if_pos (show nI 98 = 98 from rfl)).trans ?_
    refine bne (nI_1 i) ?_
    refine ibp (sb0 he) ?_
    refine bne (congrArg (fun z => upd en z 98) (sx0 he)) ?_
    refine bind_of (b1 _ _) ?_
    refine ibp (sb he 1 (by omega)) ?_
    refine bne (congrArg (fun z => upd (upd en (6 * e) 98) z (nI n1)) (sx he 1 (by omega))) ?_
    refine bind_of (b2 _ _) ?_
    refine bind_of (b3 _ _) ?_
    refine ibp (sb he 2 (by omega)) ?_
    refine bne (congrArg (fun z => upd (upd (upd en (6 * e) 98) (6 * e + 1) (nI n1)) z (nI n3)) (sx he 2 (by omega))) ?_
    refine bind_of (b4 _ _) ?_
    refine bind_of (b5 _ _) ?_
    refine ibp (sb he 3 (by omega)) ?_
    refine bne (congrArg (fun z => upd (upd (upd (upd en (6 * e) 98) (6 * e + 1) (nI n1)) (6 * e + 2) (nI n3)) z (nI n5)) (sx he 3 (by omega))) ?_
    refine bind_of (b6 _ _) ?_
    refine bind_of (b7 _ _) ?_
    refine ibp (sb he 4 (by omega)) ?_
    refine bne (congrArg (fun z => upd (upd (upd (upd (upd en (6 * e) 98) (6 * e + 1) (nI n1)) (6 * e + 2) (nI n3)) (6 * e + 3) (nI n5)) z (nI n7)) (sx he 4 (by omega))) ?_
    refine bind_of (b8 _ _) ?_
    refine bind_of (b9 _ _) ?_
    refine ibp (sb he 5 (by omega)) ?_
    refine bne (congrArg (fun z => upd (upd (upd (upd (upd (upd en (6 * e) 98) (6 * e + 1) (nI n1)) (6 * e + 2) (nI n3)) (6 * e + 3) (nI n5)) (6 * e + 4) (nI n7)) z (nI n9)) (sx he 5 (by omega))) ?_
    exact bne (nI_1 e) rfl
  · rw [upd_n (by omega), upd_n (by omega), upd_n (by omega), upd_n (by omega), upd_n (by omega), upd_n (by omega)]
  · unfold rcN
    refine bind_of (hs _ _ _ _ _ _ _) ?_
    refine (if_pos (show nI 98 = 98 from rfl)).trans ?_
    refine bind_of (v := pdF w (nI i9) (okc o9) 98 (nI n1) (nI n3) (nI n5) (nI n7) (nI n9) wi) ?_ rfl
    unfold fX3_readBid
    refine bind_of (tkY (hs 98 f c hh wt co wi)) ?_
    refine bind_of (a1 _ _ _ _ _ _ _) ?_
    refine bind_of (a2 _ _ _ _ _ _ _) ?_
    refine bind_of (a3 _ _ _ _ _ _ _) ?_
    refine bind_of (a4 _ _ _ _ _ _ _) ?_
    refine bind_of (a5 _ _ _ _ _ _ _) ?_
    refine bind_of (a6 _ _ _ _ _ _ _) ?_
    refine bind_of (a7 _ _ _ _ _ _ _) ?_
    refine bind_of (a8 _ _ _ _ _ _ _) ?_
    exact bind_of (a9 _ _ _ _ _ _ _) rfl
  · rw [upd_n (by omega), upd_n (by omega), upd_n (by omega), upd_n (by omega), upd_n (by omega), upd_s]
  · rw [upd_n (by omega), upd_n (by omega), upd_n (by omega), upd_n (by omega), upd_s]
  · rw [upd_n (by omega), upd_n (by omega), upd_n (by omega), upd_s]
  · rw [upd_n (by omega), upd_n (by omega), upd_s]
  · rw [upd_n (by omega), upd_s]
  · rw [upd_s]
theorem rd_e (h : RD0 len w M) (hi : i < len) (he : e ≤ 40) (hv : M.2.2.2.1 (nI i).toNatClampNeg = nI 101) (hs : ∀ k f c hh wt co wi, fX3_sign (pdF w (nI i) 0 k f c hh wt co wi) = some (nI 101)) (en : AF) : ∃ (i' : Nat) (ok' : Bool) (en' : AF) (e' : Nat), fX9_reads (mdE M (nI i) (okr true) en (nI e)) = some (mdE M (nI i') (okr ok') en' (nI e')) ∧ i ≤ i' ∧ i' ≤ len ∧ (∀ j, j < 6 * e → en' j = en j) ∧ (ok' = true → i < i' ∧ e' = e + 1) ∧ ∀ k f c hh wt co wi, ∃ k' f' c' hh' wt' co' wi', rcN (pdF w (nI i) (okc true) k f c hh wt co wi) = some (pdF w (nI i') (okc ok') k' f' c' hh' wt' co' wi') ∧ (ok' = true → ENT en' e k' f' c' hh' wt' co' wi') := by
  have hl := h.1
  obtain ⟨n1, i1, o1, a1, b1, c1, d1⟩ := nu h (i := i + 1) (by omega) true 0 15 (by omega) (by omega)
  obtain ⟨i2, o2, a2, b2, c2, d2, -⟩ := tk h d1 o1 58 (by omega)
  obtain ⟨n3, i3, o3, a3, b3, c3, d3⟩ := nu h d2 o2 0 99 (by omega) (by omega)
  refine ⟨i3, o3, upd (upd (upd en (6 * e) 101) (6 * e + 1) (nI n1)) (6 * e + 2) (nI n3), e + 1, ?_, by omega, d3, fun j hj => ?_, fun _ => ⟨by omega, rfl⟩, fun k f c hh wt co wi => ⟨101, f, c, nI n1, wt, co, nI n3, ?_, fun _ => .inr (.inl ⟨rfl, ?_, ?_, ?_⟩)⟩⟩
  · unfold fX9_reads
    refine (if_neg (show ¬ okr true = 0 by decide)).trans ?_
    refine (if_neg (show ¬ M.2.2.2.2.1 ≤ nI i by rw [h.2.2.1]; exact nI_ge (by omega) (by omega))).trans ?_
    refine ibp (ib_nI (n := 80) (k := i) (by omega) (by omega)) ?_
    refine bne hv ?_
    refine (if_neg (show ¬ nI 101 = 98 by decide)).trans ?_
    refine (if_pos (show nI 101 = 101 from rfl)).trans ?_
    refine bne (nI_1 i) ?_
    refine ibp (sb0 he) ?_
    refine bne (congrArg (fun z => upd en z 101) (sx0 he)) ?_
    refine bind_of (b1 _ _) ?_
    refine ibp (sb he 1 (by omega)) ?_
    refine bne (congrArg (fun z => upd (upd en (6 * e) 101) z (nI n1)) (sx he 1 (by omega))) ?_
    refine bind_of (b2 _ _) ?_
    refine bind_of (b3 _ _) ?_
    refine ibp (sb he 2 (by omega)) ?_
    refine bne (congrArg (fun z => upd (upd (upd en (6 * e) 101) (6 * e + 1) (nI n1)) z (nI n3)) (sx he 2 (by omega))) ?_
    exact bne (nI_1 e) rfl
  · rw [upd_n (by omega), upd_n (by omega), upd_n (by omega)]
  · unfold rcN
    refine bind_of (hs _ _ _ _ _ _ _) ?_
    refine (if_neg (show ¬ nI 101 = 98 by decide)).trans ?_
    refine (if_neg (show ¬ nI 101 = 99 by decide)).trans ?_
    refine (if_neg (show ¬ nI 101 = 100 by decide)).trans ?_
    refine (if_pos (show nI 101 = 101 from rfl)).trans ?_
    refine bind_of (tkY (hs 101 f c hh wt co wi)) ?_
    refine bind_of (a1 _ _ _ _ _ _ _) ?_
    refine bind_of (a2 _ _ _ _ _ _ _) ?_
    exact bind_of (a3 _ _ _ _ _ _ _) rfl
  · rw [upd_n (by omega), upd_n (by omega), upd_s]
  · rw [upd_n (by omega), upd_s]
  · rw [upd_s]
theorem rd_d (h : RD0 len w M) (hi : i < len) (he : e ≤ 40) (hv : M.2.2.2.1 (nI i).toNatClampNeg = nI 100) (hs : ∀ k f c hh wt co wi, fX3_sign (pdF w (nI i) 0 k f c hh wt co wi) = some (nI 100)) (en : AF) : ∃ (i' : Nat) (ok' : Bool) (en' : AF) (e' : Nat), fX9_reads (mdE M (nI i) (okr true) en (nI e)) = some (mdE M (nI i') (okr ok') en' (nI e')) ∧ i ≤ i' ∧ i' ≤ len ∧ (∀ j, j < 6 * e → en' j = en j) ∧ (ok' = true → i < i' ∧ e' = e + 1) ∧ ∀ k f c hh wt co wi, ∃ k' f' c' hh' wt' co' wi', rcN (pdF w (nI i) (okc true) k f c hh wt co wi) = some (pdF w (nI i') (okc ok') k' f' c' hh' wt' co' wi') ∧ (ok' = true → ENT en' e k' f' c' hh' wt' co' wi') := by
  have hl := h.1
  obtain ⟨n1, i1, o1, a1, b1, c1, d1⟩ := nu h (i := i + 1) (by omega) true 0 99 (by omega) (by omega)
  refine ⟨i1, o1, upd (upd en (6 * e) 100) (6 * e + 1) (nI n1), e + 1, ?_, by omega, d1, fun j hj => ?_, fun _ => ⟨by omega, rfl⟩, fun k f c hh wt co wi => ⟨100, f, c, hh, wt, co, nI n1, ?_, fun _ => .inr (.inr (.inl ⟨rfl, ?_, ?_⟩))⟩⟩
  · unfold fX9_reads
    refine (if_neg (show ¬ okr true = 0 by decide)).trans ?_
    refine (if_neg (show ¬ M.2.2.2.2.1 ≤ nI i by rw [h.2.2.1]; exact nI_ge (by omega) (by omega))).trans ?_
    refine ibp (ib_nI (n := 80) (k := i) (by omega) (by omega)) ?_
    refine bne hv ?_
    refine (if_neg (show ¬ nI 100 = 98 by decide)).trans ?_
    refine (if_neg (show ¬ nI 100 = 101 by decide)).trans ?_
    refine (if_pos (show nI 100 = 100 from rfl)).trans ?_
    refine bne (nI_1 i) ?_
    refine ibp (sb0 he) ?_
    refine bne (congrArg (fun z => upd en z 100) (sx0 he)) ?_
    refine bind_of (b1 _ _) ?_
    refine ibp (sb he 1 (by omega)) ?_
    refine bne (congrArg (fun z => upd (upd en (6 * e) 100) z (nI n1)) (sx he 1 (by omega))) ?_
    exact bne (nI_1 e) rfl
  · rw [upd_n (by omega), upd_n (by omega)]
  · unfold rcN
    refine bind_of (hs _ _ _ _ _ _ _) ?_
    refine (if_neg (show ¬ nI 100 = 98 by decide)).trans ?_
    refine (if_neg (show ¬ nI 100 = 99 by decide)).trans ?_
    refine (if_pos (show nI 100 = 100 from rfl)).trans ?_
    refine bind_of (tkY (hs 100 f c hh wt co wi)) ?_
    exact bind_of (a1 _ _ _ _ _ _ _) rfl
  · rw [upd_n (by omega), upd_s]
  · rw [upd_s]
theorem rd_n (h : RD0 len w M) (hi : i < len) (he : e ≤ 40) (hv : M.2.2.2.1 (nI i).toNatClampNeg = nI 110) (hs : ∀ k f c hh wt co wi, fX3_sign (pdF w (nI i) 0 k f c hh wt co wi) = some (nI 110)) (en : AF) : ∃ (i' : Nat) (ok' : Bool) (en' : AF) (e' : Nat), fX9_reads (mdE M (nI i) (okr true) en (nI e)) = some (mdE M (nI i') (okr ok') en' (nI e')) ∧ i ≤ i' ∧ i' ≤ len ∧ (∀ j, j < 6 * e → en' j = en j) ∧ (ok' = true → i < i' ∧ e' = e + 1) ∧ ∀ k f c hh wt co wi, ∃ k' f' c' hh' wt' co' wi', rcN (pdF w (nI i) (okc true) k f c hh wt co wi) = some (pdF w (nI i') (okc ok') k' f' c' hh' wt' co' wi') ∧ (ok' = true → ENT en' e k' f' c' hh' wt' co' wi') := by
  have hl := h.1
  refine ⟨i + 1, true, upd en (6 * e) 110, e + 1, ?_, by omega, by omega, fun j hj => ?_, fun _ => ⟨by omega, rfl⟩, fun k f c hh wt co wi => ⟨110, f, c, hh, wt, co, wi, ?_, fun _ => .inr (.inr (.inr ⟨rfl, ?_⟩))⟩⟩
  · unfold fX9_reads
    refine (if_neg (show ¬ okr true = 0 by decide)).trans ?_
    refine (if_neg (show ¬ M.2.2.2.2.1 ≤ nI i by rw [h.2.2.1]; exact nI_ge (by omega) (by omega))).trans ?_
    refine ibp (ib_nI (n := 80) (k := i) (by omega) (by omega)) ?_
    refine bne hv ?_
    refine (if_neg (show ¬ nI 110 = 98 by decide)).trans ?_
    refine (if_neg (show ¬ nI 110 = 101 by decide)).trans ?_
    refine (if_neg (show ¬ nI 110 = 100 by decide)).trans ?_
    refine (if_pos (show nI 110 = 110 from rfl)).trans ?_
    refine bne (nI_1 i) ?_
    refine ibp (sb0 he) ?_
    refine bne (congrArg (fun z => upd en z 110) (sx0 he)) ?_
    exact bne (nI_1 e) rfl
  · rw [upd_n (by omega)]
  · unfold rcN
    refine bind_of (hs _ _ _ _ _ _ _) ?_
    refine (if_neg (show ¬ nI 110 = 98 by decide)).trans ?_
    refine (if_neg (show ¬ nI 110 = 99 by decide)).trans ?_
    refine (if_neg (show ¬ nI 110 = 100 by decide)).trans ?_
    refine (if_neg (show ¬ nI 110 = 101 by decide)).trans ?_
    exact bind_of (tkY (hs 110 f c hh wt co wi)) rfl
  · rw [upd_s]
theorem rd_entry {ok : Bool} (h : RD0 len w M) (hi : i ≤ len) (he : ok = true → 2 * e ≤ i) (en : AF) : ∃ (i' : Nat) (ok' : Bool) (en' : AF) (e' : Nat), fX9_reads (mdE M (nI i) (okr ok) en (nI e)) = some (mdE M (nI i') (okr ok') en' (nI e')) ∧ i ≤ i' ∧ i' ≤ len ∧ (∀ j, j < 6 * e → en' j = en j) ∧ (ok' = true → i < i' ∧ e' = e + 1) ∧ ∀ k f c hh wt co wi, ∃ k' f' c' hh' wt' co' wi', rcN (pdF w (nI i) (okc ok) k f c hh wt co wi) = some (pdF w (nI i') (okc ok') k' f' c' hh' wt' co' wi') ∧ (ok' = true → ENT en' e k' f' c' hh' wt' co' wi') := by
  have hl := h.1
  cases ok with
  | false =>
    refine ⟨i, false, en, e, ?_, Nat.le_refl _, hi, fun _ _ => rfl, fun q => absurd q (by decide), fun k f c hh wt co wi => ?_⟩
    · unfold fX9_reads
      exact if_pos rfl
    · obtain ⟨k', f', c', hh', wt', co', wi', e1⟩ := rc_F h hi k f c hh wt co wi
      exact ⟨k', f', c', hh', wt', co', wi', e1, fun q => absurd q (by decide)⟩
  | true =>
    by_cases z : i = len
    · refine ⟨i, false, en, e, ?_, Nat.le_refl _, hi, fun _ _ => rfl, fun q => absurd q (by decide), fun k f c hh wt co wi => ?_⟩
      · unfold fX9_reads
        refine (if_neg (show ¬ okr true = 0 by decide)).trans ?_
        exact if_pos (show M.2.2.2.2.1 ≤ nI i by rw [h.2.2.1]; exact nI_le (by omega) (by omega))
      · have hs : ∀ k f c hh wt co wi, fX3_sign (pdF w (nI i) 0 k f c hh wt co wi) = some (-1) := fun k f c hh wt co wi => by
          rcases rd_sign (RD0.at h hi true k f c hh wt co wi (fun _ => 0) 0) with ⟨-, s2⟩ | ⟨s1, -, -⟩
          · exact s2
          · omega
        exact ⟨_, _, _, _, _, _, _, rc_bad hs (by decide) (by decide) (by decide) (by decide) k f c hh wt co wi, fun q => absurd q (by decide)⟩
    · have hi2 : i < len := by omega
      have he2 := he rfl
      obtain ⟨q, hq, hv, hs⟩ := rr_sign h hi2
      by_cases q1 : q = 98
      · subst q1
        exact rd_b h hi2 (by omega) hv hs en
      by_cases q2 : q = 101
      · subst q2
        exact rd_e h hi2 (by omega) hv hs en
      by_cases q3 : q = 100
      · subst q3
        exact rd_d h hi2 (by omega) hv hs en
      by_cases q4 : q = 110
      · subst q4
        exact rd_n h hi2 (by omega) hv hs en
      have r1 : ¬ nI q = 98 := fun y => q1 ((nI_eq (b := 98) (by omega) (by omega)).mp y)
      have r2 : ¬ nI q = 101 := fun y => q2 ((nI_eq (b := 101) (by omega) (by omega)).mp y)
      have r3 : ¬ nI q = 100 := fun y => q3 ((nI_eq (b := 100) (by omega) (by omega)).mp y)
      have r4 : ¬ nI q = 110 := fun y => q4 ((nI_eq (b := 110) (by omega) (by omega)).mp y)
      refine ⟨i, false, en, e, ?_, Nat.le_refl _, hi, fun _ _ => rfl, fun q => absurd q (by decide), fun k f c hh wt co wi => ⟨_, _, _, _, _, _, _, rc_bad hs r1 r3 r2 r4 k f c hh wt co wi, fun q => absurd q (by decide)⟩⟩
      unfold fX9_reads
      refine (if_neg (show ¬ okr true = 0 by decide)).trans ?_
      refine (if_neg (show ¬ M.2.2.2.2.1 ≤ nI i by rw [h.2.2.1]; exact nI_ge (by omega) (by omega))).trans ?_
      refine ibp (ib_nI (n := 80) (k := i) (by omega) (by omega)) ?_
      refine bne hv ?_
      exact (if_neg r1).trans ((if_neg r2).trans ((if_neg r3).trans (if_neg r4)))
end
