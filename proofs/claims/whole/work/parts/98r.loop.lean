/-! all entries of a plan, read by both -/
theorem ENT.to {en en' : AF} {e : Nat} {k f c hh wt co wi : Int32} (h : ENT en e k f c hh wt co wi) (q : ∀ j, j < 6 * (e + 1) → en' j = en j) : ENT en' e k f c hh wt co wi := by
  rcases h with ⟨h0, h1, h2, h3, h4, h5, h6⟩ | ⟨h0, h1, h2, h3⟩ | ⟨h0, h1, h2⟩ | ⟨h0, h1⟩
  · exact .inl ⟨h0, by rw [q _ (by omega)]; exact h1, by rw [q _ (by omega)]; exact h2, by rw [q _ (by omega)]; exact h3, by rw [q _ (by omega)]; exact h4, by rw [q _ (by omega)]; exact h5, by rw [q _ (by omega)]; exact h6⟩
  · exact .inr (.inl ⟨h0, by rw [q _ (by omega)]; exact h1, by rw [q _ (by omega)]; exact h2, by rw [q _ (by omega)]; exact h3⟩)
  · exact .inr (.inr (.inl ⟨h0, by rw [q _ (by omega)]; exact h1, by rw [q _ (by omega)]; exact h2⟩))
  · exact .inr (.inr (.inr ⟨h0, by rw [q _ (by omega)]; exact h1⟩))
def NXT (w : PD) (en : AF) (i i' e : Nat) (ok : Bool) : Prop := ∀ k f c hh wt co wi, ∃ k' f' c' hh' wt' co' wi', fX3_readNext (pdF w (nI i) 0 k f c hh wt co wi) = some (pdF w (nI i') (okc ok) k' f' c' hh' wt' co' wi') ∧ (ok = true → ENT en e k' f' c' hh' wt' co' wi')
theorem NXT.to {w : PD} {en en' : AF} {i i' e : Nat} {ok : Bool} (h : NXT w en i i' e ok) (q : ∀ j, j < 6 * (e + 1) → en' j = en j) : NXT w en' i i' e ok := fun k f c hh wt co wi => by
  obtain ⟨k', f', c', hh', wt', co', wi', e1, e2⟩ := h k f c hh wt co wi
  exact ⟨k', f', c', hh', wt', co', wi', e1, fun z => (e2 z).to q⟩
/-- n entries more can be read from place i, e are read -/
def TRC (w : PD) (en : AF) : Nat → Nat → Nat → Prop
  | 0, _, _ => True
  | n + 1, i, e => ∃ i', NXT w en i i' e true ∧ TRC w en n i' (e + 1)
theorem ck_stop {w : PD} {fu : Nat} {p a b k f c hh wt co wi : Int32} : fX3_check_L0 (fu + 1) p b (pdF w a 1 k f c hh wt co wi) = some (p, pdF w a 1 k f c hh wt co wi) := by
  rw [fX3_check_L0]
  by_cases z : 80 < b
  · exact if_pos z
  · exact (if_neg z).trans (if_neg (show ¬ (1 : Int32) = 0 by decide))
theorem ft_stop {M : MD} {fv : Nat} {a cn : Int32} {en : AF} : fX9_fault_L0 (fv + 1) (mdE M a 0 en cn) = some (mdE M a 0 en cn) := by
  rw [fX9_fault_L0]
  exact if_pos rfl
section
variable {len : Nat} {w : PD} {M : MD}
/-- an entry behind another -/
theorem rd_more (h : RD0 len w M) {i e : Nat} (h0 : 0 < i) (hi : i ≤ len) (he : 2 * e ≤ i + 1) (en : AF) : ∃ (i' : Nat) (ok' : Bool) (en' : AF) (e' : Nat), (fX9_takes (mdE M (nI i) 1 en (nI e)) 44).bind (fun z => fX9_reads z) = some (mdE M (nI i') (okr ok') en' (nI e')) ∧ i' ≤ len ∧ (∀ j, j < 6 * e → en' j = en j) ∧ (ok' = true → i + 2 ≤ i' ∧ e' = e + 1) ∧ NXT w en' i i' e ok' := by
  obtain ⟨i1, o1, a1, b1, c1, d1, g1⟩ := tk h hi true 44 (by omega)
  obtain ⟨i2, o2, en2, e2, r1, r2, r3, r4, r5, r6⟩ := rd_entry (e := e) (ok := o1) h d1 (fun z => by have := g1 z; omega) en
  refine ⟨i2, o2, en2, e2, bind_of (b1 en (nI e)) r1, r3, r4, fun z => ?_, fun k f c hh wt co wi => ?_⟩
  · have := r5 z
    cases o1 with
    | true =>
      have := g1 rfl
      exact ⟨by omega, (r5 z).2⟩
    | false =>
      have q : fX9_reads (mdE M (nI i1) (okr false) en (nI e)) = some (mdE M (nI i1) (okr false) en (nI e)) := by
        unfold fX9_reads
        exact if_pos rfl
      have q2 := Option.some.inj (q.symm.trans r1)
      have q3 : okr false = okr o2 := congrArg (fun m : MD => m.2.2.2.2.2.2.1) q2
      have q4 := okr_inj q3
      rw [z] at q4
      exact absurd q4 (by decide)
  · obtain ⟨k', f', c', hh', wt', co', wi', t1, t2⟩ := r6 k f c hh wt co wi
    refine ⟨k', f', c', hh', wt', co', wi', ?_, t2⟩
    rw [rcN_eq]
    refine (if_neg (show ¬ nI i ≤ 0 from nI_nle h0 (by have := h.1; omega))).trans ?_
    exact bind_of (a1 _ _ _ _ _ _ _) t1
theorem lp_read (h : RD0 len w M) : ∀ (d i e : Nat) (en : AF) (k f c hh wt co wi : Int32) (fu fv : Nat), len - i ≤ d → 0 < i → i ≤ len → 1 ≤ e → 2 * e ≤ i + 1 → d + 1 < fu → d + 1 < fv → ∃ (i' : Nat) (ok' : Bool) (en' : AF) (e' n : Nat) (k' f' c' hh' wt' co' wi' : Int32), fX3_check_L0 fu (nI e) (nI e) (pdF w (nI i) 0 k f c hh wt co wi) = some (nI (e + n), pdF w (nI i') (okc ok') k' f' c' hh' wt' co' wi') ∧ fX9_fault_L0 fv (mdE M (nI i) 1 en (nI e)) = some (mdE M (nI i') (okr ok') en' (nI e')) ∧ i' ≤ len ∧ (∀ j, j < 6 * e → en' j = en j) ∧ (ok' = true → e' = e + n ∧ e + n ≤ 40 ∧ TRC w en' n i e) := by
  have hl := h.1
  intro d
  induction d with
  | zero =>
    intro i e en k f c hh wt co wi fu fv h1 h2 h3 h4 h5 h6 h7
    obtain ⟨fu, rfl⟩ : ∃ q, fu = q + 1 := ⟨fu - 1, by omega⟩
    obtain ⟨fv, rfl⟩ : ∃ q, fv = q + 1 := ⟨fv - 1, by omega⟩
    refine ⟨i, true, en, e, 0, k, f, c, hh, wt, co, wi, ?_, ?_, h3, fun _ _ => rfl, fun _ => ⟨rfl, by omega, trivial⟩⟩
    · rw [fX3_check_L0]
      refine (if_neg (show ¬ (80 : Int32) < nI e from nI_nlt (a := 80) (by omega) (by omega))).trans ?_
      refine (if_pos rfl).trans ?_
      refine (if_neg (show ¬ nI e = 0 from nI_ne0 (by omega) (by omega))).trans ?_
      exact if_pos (show w.2.1 ≤ nI i by rw [h.2.1]; exact nI_le (by omega) (by omega))
    · rw [fX9_fault_L0]
      refine (if_neg (show ¬ (1 : Int32) = 0 by decide)).trans ?_
      exact if_pos (show M.2.2.2.2.1 ≤ nI i by rw [h.2.2.1]; exact nI_le (by omega) (by omega))
  | succ d ih =>
    intro i e en k f c hh wt co wi fu fv h1 h2 h3 h4 h5 h6 h7
    obtain ⟨fu, rfl⟩ : ∃ q, fu = q + 2 := ⟨fu - 2, by omega⟩
    obtain ⟨fv, rfl⟩ : ∃ q, fv = q + 2 := ⟨fv - 2, by omega⟩
    by_cases z : i = len
    · exact ih i e en k f c hh wt co wi (fu + 2) (fv + 2) (by omega) h2 h3 h4 h5 (by omega) (by omega)
    obtain ⟨i2, o2, en2, e2, r1, r3, r4, r5, r6⟩ := rd_more h h2 h3 h5 en
    obtain ⟨k', f', c', hh', wt', co', wi', t1, t2⟩ := id r6 k f c hh wt co wi
    have c1 : fX3_check_L0 (fu + 2) (nI e) (nI e) (pdF w (nI i) 0 k f c hh wt co wi) = fX3_check_L0 (fu + 1) (nI (e + 1)) (nI (e + 1)) (pdF w (nI i2) (okc o2) k' f' c' hh' wt' co' wi') := by
      rw [fX3_check_L0]
      refine (if_neg (show ¬ (80 : Int32) < nI e from nI_nlt (a := 80) (by omega) (by omega))).trans ?_
      refine (if_pos rfl).trans ?_
      refine (if_neg (show ¬ nI e = 0 from nI_ne0 (by omega) (by omega))).trans ?_
      refine (if_neg (show ¬ w.2.1 ≤ nI i by rw [h.2.1]; exact nI_ge (by omega) (by omega))).trans ?_
      rw [nI_1]
      exact bind_of t1 rfl
    have c2 : fX9_fault_L0 (fv + 2) (mdE M (nI i) 1 en (nI e)) = fX9_fault_L0 (fv + 1) (mdE M (nI i2) (okr o2) en2 (nI e2)) := by
      rw [fX9_fault_L0]
      refine (if_neg (show ¬ (1 : Int32) = 0 by decide)).trans ?_
      refine (if_neg (show ¬ M.2.2.2.2.1 ≤ nI i by rw [h.2.2.1]; exact nI_ge (by omega) (by omega))).trans ?_
      obtain ⟨m, p1, p2⟩ := bdk r1
      refine bind_of p1 ?_
      exact bind_of p2 rfl
    rw [c1, c2]
    cases o2 with
    | false =>
      exact ⟨i2, false, en2, e2, 1, k', f', c', hh', wt', co', wi', ck_stop, ft_stop, r3, r4, fun q => absurd q (by decide)⟩
    | true =>
      obtain ⟨g1, rfl⟩ := r5 rfl
      obtain ⟨i', ok', en', e', n, k2, f2, c2', hh2, wt2, co2, wi2, s1, s2, s3, s4, s5⟩ := ih i2 (e + 1) en2 k' f' c' hh' wt' co' wi' (fu + 1) (fv + 1) (by omega) (by omega) r3 (by omega) (by omega) (by omega) (by omega)
      refine ⟨i', ok', en', e', n + 1, k2, f2, c2', hh2, wt2, co2, wi2, ?_, s2, s3, fun j hj => (s4 j (by omega)).trans (r4 j hj), fun q => ?_⟩
      · rw [show e + (n + 1) = e + 1 + n by omega]
        exact s1
      · obtain ⟨u1, u2, u3⟩ := s5 q
        exact ⟨by omega, by omega, i2, r6.to s4, u3⟩
theorem rd_all (h : RD0 len w M) : ∃ (i' : Nat) (en' : AF) (k' f' c' hh' wt' co' wi' : Int32), i' ≤ len ∧ ((∃ cn, fX3_check w = some ((-100) - nI i', pdF w (nI i') 1 k' f' c' hh' wt' co' wi') ∧ fX9_fault M = some (nI i', mdE M (nI i') 0 en' cn)) ∨ ∃ E, fX3_check w = some (nI E, pdF w (nI i') 0 k' f' c' hh' wt' co' wi') ∧ fX9_fault M = some (-1, mdE M (nI i') 1 en' (nI E)) ∧ E ≤ 40 ∧ TRC w en' E 0 0) := by
  have hl := h.1
  obtain ⟨i2, o2, en2, e2, r1, r2, r3, r4, r5, r6⟩ := rd_entry (i := 0) (e := 0) (ok := true) h (by omega) (fun _ => by omega) M.2.2.2.2.2.2.2.1
  have nx : NXT w en2 0 i2 0 o2 := fun k f c hh wt co wi => by
    obtain ⟨k', f', c', hh', wt', co', wi', t1, t2⟩ := r6 k f c hh wt co wi
    refine ⟨k', f', c', hh', wt', co', wi', ?_, t2⟩
    rw [rcN_eq]
    exact (if_pos (show nI 0 ≤ 0 from Int32.le_refl _)).trans t1
  obtain ⟨k', f', c', hh', wt', co', wi', t1, t2⟩ := id nx w.2.2.2.2.1 w.2.2.2.2.2.1 w.2.2.2.2.2.2.1 w.2.2.2.2.2.2.2.1 w.2.2.2.2.2.2.2.2.1 w.2.2.2.2.2.2.2.2.2.1 w.2.2.2.2.2.2.2.2.2.2
  have c1 : fX3_check_L0 1000 0 0 (fX3_rewind w) = fX3_check_L0 (998 + 1) (nI 1) (nI 1) (pdF w (nI i2) (okc o2) k' f' c' hh' wt' co' wi') := by
    show fX3_check_L0 (999 + 1) 0 0 (fX3_rewind w) = _
    rw [fX3_check_L0]
    refine (if_neg (show ¬ (80 : Int32) < 0 by decide)).trans ?_
    refine (if_pos rfl).trans ?_
    refine (if_pos rfl).trans ?_
    exact bind_of t1 rfl
  have fin1 : ∀ {p : Int32} {x : PD}, fX3_check_L0 (998 + 1) (nI 1) (nI 1) (pdF w (nI i2) (okc o2) k' f' c' hh' wt' co' wi') = some (p, x) → fX3_check w = (if x.2.2.2.1 = 0 then some (p, x) else some ((-100) - x.2.2.1, x)) := fun {p x} q => by
    unfold fX3_check
    exact bne rfl (bind_of (c1.trans q) rfl)
  have fin2 : ∀ {x : MD}, fX9_fault_L0 (999 + 1) (mdE M (nI i2) (okr o2) en2 (nI e2)) = some x → fX9_fault M = (if x.2.2.2.2.2.2.1 = 0 then some (x.2.2.2.2.2.1, x) else some (-1, x)) := fun {x} q => by
    unfold fX9_fault
    exact bind_of r1 (bind_of q rfl)
  cases o2 with
  | false =>
    refine ⟨i2, en2, k', f', c', hh', wt', co', wi', r3, .inl ⟨nI e2, ?_, ?_⟩⟩
    · rw [fin1 ck_stop]
      exact if_neg (show ¬ (1 : Int32) = 0 by decide)
    · rw [fin2 ft_stop]
      exact if_pos rfl
  | true =>
    obtain ⟨g1, rfl⟩ := r5 rfl
    obtain ⟨i', ok', en', e', n, k2, f2, c2', hh2, wt2, co2, wi2, s1, s2, s3, s4, s5⟩ := lp_read h 80 i2 1 en2 k' f' c' hh' wt' co' wi' (998 + 1) (999 + 1) (by omega) (by omega) r3 (by omega) (by omega) (by omega) (by omega)
    refine ⟨i', en', k2, f2, c2', hh2, wt2, co2, wi2, s3, ?_⟩
    cases ok' with
    | false =>
      refine .inl ⟨nI e', ?_, ?_⟩
      · rw [fin1 s1]
        exact if_neg (show ¬ (1 : Int32) = 0 by decide)
      · rw [fin2 s2]
        exact if_pos rfl
    | true =>
      obtain ⟨u1, u2, u3⟩ := s5 rfl
      subst u1
      refine .inr ⟨1 + n, ?_, ?_, u2, ?_⟩
      · rw [fin1 s1]
        exact if_pos rfl
      · rw [fin2 s2]
        exact if_neg (show ¬ (1 : Int32) = 0 by decide)
      · rw [Nat.add_comm]
        exact ⟨i2, nx.to s4, u3⟩
end
