/-! one entry of a plan, read by both -/
theorem bind_of {α β : Type} {o : Option α} {v : α} {k : α → Option β} {r : Option β} (h : o = some v) (hk : k v = r) : o.bind k = r := by
  rw [h]
  exact hk
theorem ibp {α : Type} {i : Int32} {n : Nat} {K r : Option α} (h : ib i n = true) (hk : K = r) : (if ib i n = true then K else none) = r := by
  rw [if_pos h]
  exact hk
theorem bne {α β : Type} {a a' : α} {k : α → β} {r : β} (ha : a = a') (hk : k a' = r) : bnd a k = r := by
  rw [ha]
  exact hk
def pdF (w : PD) (a o k f c h wt co wi : Int32) : PD := (w.1, w.2.1, a, o, k, f, c, h, wt, co, wi)
def mdE (M : MD) (a o : Int32) (en : AF) (cn : Int32) : MD := (M.1, M.2.1, M.2.2.1, M.2.2.2.1, M.2.2.2.2.1, a, o, en, cn, M.2.2.2.2.2.2.2.2.2.1, M.2.2.2.2.2.2.2.2.2.2)
def RD0 (len : Nat) (w : PD) (M : MD) : Prop := len ≤ 80 ∧ w.2.1 = nI len ∧ M.2.2.2.2.1 = nI len ∧ ∀ j, j < 80 → w.1 j = M.2.2.2.1 j ∧ ∃ q, q < 65536 ∧ w.1 j = nI q
theorem RD0.at {len i : Nat} {w : PD} {M : MD} (h : RD0 len w M) (hi : i ≤ len) (ok : Bool) (k f c hh wt co wi : Int32) (en : AF) (cn : Int32) : RDR len i ok (pdF w (nI i) (okc ok) k f c hh wt co wi) (mdE M (nI i) (okr ok) en cn) := ⟨h.1, hi, h.2.1, h.2.2.1, h.2.2.2, rfl, rfl, rfl, rfl⟩
theorem okr_inj {a b : Bool} (h : okr a = okr b) : a = b := by
  cases a <;> cases b <;> first | rfl | exact absurd h (by decide)
theorem okc_inj {a b : Bool} (h : okc a = okc b) : a = b := by
  cases a <;> cases b <;> first | rfl | exact absurd h (by decide)
theorem tk {len i : Nat} {w : PD} {M : MD} (h : RD0 len w M) (hi : i ≤ len) (ok : Bool) (ch : Nat) (hc : ch < 65536) : ∃ (i' : Nat) (ok' : Bool), (∀ k f c hh wt co wi, fX3_take (pdF w (nI i) (okc ok) k f c hh wt co wi) (nI ch) = some (pdF w (nI i') (okc ok') k f c hh wt co wi)) ∧ (∀ en cn, fX9_takes (mdE M (nI i) (okr ok) en cn) (nI ch) = some (mdE M (nI i') (okr ok') en cn)) ∧ i ≤ i' ∧ i' ≤ len ∧ (ok' = true → i < i') := by
  have hl := h.1
  obtain ⟨i', ok', t1, t2, t3, t4, t5⟩ := rd_take (RD0.at h hi ok 0 0 0 0 0 0 0 (fun _ => 0) 0) ch hc
  refine ⟨i', ok', fun k f c hh wt co wi => ?_, fun en cn => ?_, t3, t4, t5⟩
  · obtain ⟨i2, ok2, u1, u2, u3, u4, u5⟩ := rd_take (RD0.at h hi ok k f c hh wt co wi (fun _ => 0) 0) ch hc
    have e := Option.some.inj (u2.symm.trans t2)
    have e1 : nI i2 = nI i' := congrArg (fun m : MD => m.2.2.2.2.2.1) e
    have e2 : okr ok2 = okr ok' := congrArg (fun m : MD => m.2.2.2.2.2.2.1) e
    have e3 := (nI_eq (by omega) (by omega)).mp e1
    have e4 := okr_inj e2
    subst e3 e4
    exact u1
  · obtain ⟨i2, ok2, u1, u2, u3, u4, u5⟩ := rd_take (RD0.at h hi ok 0 0 0 0 0 0 0 en cn) ch hc
    have e := Option.some.inj (u1.symm.trans t1)
    have e1 : nI i2 = nI i' := congrArg (fun m : PD => m.2.2.1) e
    have e2 : okc ok2 = okc ok' := congrArg (fun m : PD => m.2.2.2.1) e
    have e3 := (nI_eq (by omega) (by omega)).mp e1
    have e4 := okc_inj e2
    subst e3 e4
    exact u2
theorem nu {len i : Nat} {w : PD} {M : MD} (h : RD0 len w M) (hi : i ≤ len) (ok : Bool) (lo mx : Nat) (hlo : lo ≤ 1) (hmx : mx ≤ 999) : ∃ (n i' : Nat) (ok' : Bool), (∀ k f c hh wt co wi, fX3_number (pdF w (nI i) (okc ok) k f c hh wt co wi) (nI lo) (nI mx) = some (nI n, pdF w (nI i') (okc ok') k f c hh wt co wi)) ∧ (∀ en cn, fX9_number (mdE M (nI i) (okr ok) en cn) (nI lo) (nI mx) = some (nI n, mdE M (nI i') (okr ok') en cn)) ∧ i ≤ i' ∧ i' ≤ len := by
  have hl := h.1
  obtain ⟨n, i', ok', t1, t2, t3, t4, t5, t6⟩ := rd_number (RD0.at h hi ok 0 0 0 0 0 0 0 (fun _ => 0) 0) hlo hmx
  refine ⟨n, i', ok', fun k f c hh wt co wi => ?_, fun en cn => ?_, t3, t4⟩
  · obtain ⟨n2, i2, ok2, u1, u2, u3, u4, u5, u6⟩ := rd_number (RD0.at h hi ok k f c hh wt co wi (fun _ => 0) 0) hlo hmx
    have e := Option.some.inj (u2.symm.trans t2)
    have e0 : nI n2 = nI n := congrArg (fun m : Int32 × MD => m.1) e
    have e1 : nI i2 = nI i' := congrArg (fun m : Int32 × MD => m.2.2.2.2.2.2.1) e
    have e2 : okr ok2 = okr ok' := congrArg (fun m : Int32 × MD => m.2.2.2.2.2.2.2.1) e
    have e3 := (nI_eq (by omega) (by omega)).mp e1
    have e4 := okr_inj e2
    subst e3 e4
    rw [← e0]
    exact u1
  · obtain ⟨n2, i2, ok2, u1, u2, u3, u4, u5, u6⟩ := rd_number (RD0.at h hi ok 0 0 0 0 0 0 0 en cn) hlo hmx
    have e := Option.some.inj (u1.symm.trans t1)
    have e0 : nI n2 = nI n := congrArg (fun m : Int32 × PD => m.1) e
    have e1 : nI i2 = nI i' := congrArg (fun m : Int32 × PD => m.2.2.2.1) e
    have e2 : okc ok2 = okc ok' := congrArg (fun m : Int32 × PD => m.2.2.2.2.1) e
    have e3 := (nI_eq (by omega) (by omega)).mp e1
    have e4 := okc_inj e2
    subst e3 e4
    rw [← e0]
    exact u2
/-- the class' reading of an entry, behind its comma -/
def rcN (x : PD) : Option (PD) := ((fX3_sign x).bind (fun zq2 => (if zq2 = 98 then ((fX3_readBid (x.1, x.2.1, x.2.2.1, x.2.2.2.1, zq2, x.2.2.2.2.2.1, x.2.2.2.2.2.2.1, x.2.2.2.2.2.2.2.1, x.2.2.2.2.2.2.2.2.1, x.2.2.2.2.2.2.2.2.2.1, x.2.2.2.2.2.2.2.2.2.2)).bind (fun zq4 => some zq4)) else (if zq2 = 99 then ((fX3_take (x.1, x.2.1, x.2.2.1, x.2.2.2.1, zq2, x.2.2.2.2.2.1, x.2.2.2.2.2.2.1, x.2.2.2.2.2.2.2.1, x.2.2.2.2.2.2.2.2.1, x.2.2.2.2.2.2.2.2.2.1, x.2.2.2.2.2.2.2.2.2.2) 110).bind (fun zq6 => some zq6)) else (if zq2 = 100 then ((fX3_take (x.1, x.2.1, x.2.2.1, x.2.2.2.1, zq2, x.2.2.2.2.2.1, x.2.2.2.2.2.2.1, x.2.2.2.2.2.2.2.1, x.2.2.2.2.2.2.2.2.1, x.2.2.2.2.2.2.2.2.2.1, x.2.2.2.2.2.2.2.2.2.2) 100).bind (fun zq8 => ((fX3_number zq8 0 99).bind (fun zq9 => some (zq9.2.1, zq9.2.2.1, zq9.2.2.2.1, zq9.2.2.2.2.1, zq9.2.2.2.2.2.1, zq9.2.2.2.2.2.2.1, zq9.2.2.2.2.2.2.2.1, zq9.2.2.2.2.2.2.2.2.1, zq9.2.2.2.2.2.2.2.2.2.1, zq9.2.2.2.2.2.2.2.2.2.2.1, zq9.1))))) else (if zq2 = 101 then ((fX3_take (x.1, x.2.1, x.2.2.1, x.2.2.2.1, zq2, x.2.2.2.2.2.1, x.2.2.2.2.2.2.1, x.2.2.2.2.2.2.2.1, x.2.2.2.2.2.2.2.2.1, x.2.2.2.2.2.2.2.2.2.1, x.2.2.2.2.2.2.2.2.2.2) 101).bind (fun zq11 => ((fX3_number zq11 0 15).bind (fun zq12 => ((fX3_take (zq12.2.1, zq12.2.2.1, zq12.2.2.2.1, zq12.2.2.2.2.1, zq12.2.2.2.2.2.1, zq12.2.2.2.2.2.2.1, zq12.2.2.2.2.2.2.2.1, zq12.1, zq12.2.2.2.2.2.2.2.2.2.1, zq12.2.2.2.2.2.2.2.2.2.2.1, zq12.2.2.2.2.2.2.2.2.2.2.2) 58).bind (fun zq13 => ((fX3_number zq13 0 99).bind (fun zq14 => some (zq14.2.1, zq14.2.2.1, zq14.2.2.2.1, zq14.2.2.2.2.1, zq14.2.2.2.2.2.1, zq14.2.2.2.2.2.2.1, zq14.2.2.2.2.2.2.2.1, zq14.2.2.2.2.2.2.2.2.1, zq14.2.2.2.2.2.2.2.2.2.1, zq14.2.2.2.2.2.2.2.2.2.2.1, zq14.1))))))))) else ((fX3_take (x.1, x.2.1, x.2.2.1, x.2.2.2.1, zq2, x.2.2.2.2.2.1, x.2.2.2.2.2.2.1, x.2.2.2.2.2.2.2.1, x.2.2.2.2.2.2.2.2.1, x.2.2.2.2.2.2.2.2.2.1, x.2.2.2.2.2.2.2.2.2.2) 110).bind (fun zq15 => some zq15))))))))
theorem rcN_eq (x : PD) : fX3_readNext x = (if x.2.2.1 ≤ 0 then rcN x else (fX3_take x 44).bind (fun z => rcN z)) := rfl
theorem tkN {w : PD} {a o s ch k f c hh wt co wi : Int32} (hs : fX3_sign (pdF w a o k f c hh wt co wi) = some s) (n : ¬ s = ch) : fX3_take (pdF w a o k f c hh wt co wi) ch = some (pdF w a 1 k f c hh wt co wi) := by
  unfold fX3_take
  refine bind_of hs ?_
  exact if_neg n
theorem tkY {w : PD} {i : Nat} {s k f c hh wt co wi : Int32} (hs : fX3_sign (pdF w (nI i) 0 k f c hh wt co wi) = some s) : fX3_take (pdF w (nI i) 0 k f c hh wt co wi) s = some (pdF w (nI (i + 1)) 0 k f c hh wt co wi) := by
  unfold fX3_take
  refine bind_of hs ?_
  refine (if_pos rfl).trans ?_
  refine (if_pos rfl).trans ?_
  exact bne (nI_1 i) rfl
theorem tkF {len i : Nat} {w : PD} {M : MD} (h : RD0 len w M) (hi : i ≤ len) (ch k f c hh wt co wi : Int32) : fX3_take (pdF w (nI i) 1 k f c hh wt co wi) ch = some (pdF w (nI i) 1 k f c hh wt co wi) := by
  have hs : ∃ s, fX3_sign (pdF w (nI i) 1 k f c hh wt co wi) = some s := by
    rcases rd_sign (RD0.at h hi false k f c hh wt co wi (fun _ => 0) 0) with ⟨-, s⟩ | ⟨-, s, -⟩
    · exact ⟨_, s⟩
    · exact ⟨_, s⟩
  obtain ⟨s, hs⟩ := hs
  by_cases e : s = ch
  · unfold fX3_take
    refine bind_of hs ?_
    refine (if_pos e).trans ?_
    exact if_neg (show ¬ (1 : Int32) = 0 by decide)
  · exact tkN hs e
theorem nuF {w : PD} {a lo mx k f c hh wt co wi : Int32} : fX3_number (pdF w a 1 k f c hh wt co wi) lo mx = some (0, pdF w a 1 k f c hh wt co wi) := by
  unfold fX3_number
  have h : fX3_number_L0 lo mx 1000 0 0 (pdF w a 1 k f c hh wt co wi) = some (0, pdF w a 1 k f c hh wt co wi) := by
    show fX3_number_L0 lo mx (999 + 1) 0 0 (pdF w a 1 k f c hh wt co wi) = _
    rw [fX3_number_L0]
    exact if_neg (show ¬ (1 : Int32) = 0 by decide)
  exact bind_of h rfl
theorem rc_bad {w : PD} {a o s : Int32} (hs : ∀ k f c hh wt co wi, fX3_sign (pdF w a o k f c hh wt co wi) = some s) (n1 : ¬ s = 98) (n3 : ¬ s = 100) (n4 : ¬ s = 101) (n5 : ¬ s = 110) (k f c hh wt co wi : Int32) : rcN (pdF w a o k f c hh wt co wi) = some (pdF w a 1 s f c hh wt co wi) := by
  unfold rcN
  refine bind_of (hs _ _ _ _ _ _ _) ?_
  refine (if_neg n1).trans ?_
  have ht : fX3_take (pdF w a o s f c hh wt co wi) 110 = some (pdF w a 1 s f c hh wt co wi) := tkN (hs _ _ _ _ _ _ _) n5
  by_cases e : s = 99
  · exact (if_pos e).trans (bind_of ht rfl)
  · exact (if_neg e).trans ((if_neg n3).trans ((if_neg n4).trans (bind_of ht rfl)))
theorem rc_F {len i : Nat} {w : PD} {M : MD} (h : RD0 len w M) (hi : i ≤ len) (k f c hh wt co wi : Int32) : ∃ k' f' c' hh' wt' co' wi', rcN (pdF w (nI i) 1 k f c hh wt co wi) = some (pdF w (nI i) 1 k' f' c' hh' wt' co' wi') := by
  have hs : ∃ s, ∀ k f c hh wt co wi, fX3_sign (pdF w (nI i) 1 k f c hh wt co wi) = some s := by
    rcases rd_sign (RD0.at h hi false k f c hh wt co wi (fun _ => 0) 0) with ⟨-, s⟩ | ⟨-, s, -⟩
    · exact ⟨_, fun _ _ _ _ _ _ _ => s⟩
    · exact ⟨_, fun _ _ _ _ _ _ _ => s⟩
  obtain ⟨s, hs⟩ := hs
  by_cases n1 : s = 98
  · refine ⟨s, 0, 0, 0, 0, 0, wi, ?_⟩
    unfold rcN
    refine bind_of (hs _ _ _ _ _ _ _) ?_
    refine (if_pos n1).trans ?_
    refine bind_of (v := pdF w (nI i) 1 s 0 0 0 0 0 wi) ?_ rfl
    unfold fX3_readBid
    refine bind_of (tkF h hi 98 s f c hh wt co wi) ?_
    refine bind_of nuF ?_
    refine bind_of (tkF h hi 99 s 0 c hh wt co wi) ?_
    refine bind_of nuF ?_
    refine bind_of (tkF h hi 104 s 0 0 hh wt co wi) ?_
    refine bind_of nuF ?_
    refine bind_of (tkF h hi 119 s 0 0 0 wt co wi) ?_
    refine bind_of nuF ?_
    refine bind_of (tkF h hi 61 s 0 0 0 0 co wi) ?_
    exact bind_of nuF rfl
  by_cases n2 : s = 99
  · refine ⟨s, f, c, hh, wt, co, wi, ?_⟩
    unfold rcN
    refine bind_of (hs _ _ _ _ _ _ _) ?_
    refine (if_neg n1).trans ?_
    exact (if_pos n2).trans (bind_of (tkF h hi 110 s f c hh wt co wi) rfl)
  by_cases n3 : s = 100
  · refine ⟨s, f, c, hh, wt, co, 0, ?_⟩
    unfold rcN
    refine bind_of (hs _ _ _ _ _ _ _) ?_
    refine (if_neg n1).trans ((if_neg n2).trans ((if_pos n3).trans ?_))
    refine bind_of (tkF h hi 100 s f c hh wt co wi) ?_
    exact bind_of nuF rfl
  by_cases n4 : s = 101
  · refine ⟨s, f, c, 0, wt, co, 0, ?_⟩
    unfold rcN
    refine bind_of (hs _ _ _ _ _ _ _) ?_
    refine (if_neg n1).trans ((if_neg n2).trans ((if_neg n3).trans ((if_pos n4).trans ?_)))
    refine bind_of (tkF h hi 101 s f c hh wt co wi) ?_
    refine bind_of nuF ?_
    refine bind_of (tkF h hi 58 s f c 0 wt co wi) ?_
    exact bind_of nuF rfl
  · refine ⟨s, f, c, hh, wt, co, wi, ?_⟩
    unfold rcN
    refine bind_of (hs _ _ _ _ _ _ _) ?_
    refine (if_neg n1).trans ((if_neg n2).trans ((if_neg n3).trans ((if_neg n4).trans ?_)))
    exact bind_of (tkF h hi 110 s f c hh wt co wi) rfl
