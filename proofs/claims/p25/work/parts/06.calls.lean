/-! bounds, binds and branches of the functions; calls -/
def ib (i : Int32) (n : Nat) : Bool := decide (0 ≤ i) && decide (i.toNatClampNeg < n)
theorem ib_in {i : Int32} {n : Nat} (h : ib i n = true) : vp_in i n := by
  simp only [ib, Bool.and_eq_true, decide_eq_true_eq] at h
  intro z
  rcases z with z | z
  · exact absurd h.1 (Int32.not_le.mpr z)
  · omega
theorem ibk {α : Type} {i : Int32} {n : Nat} {K : Option α} {r : α} (h : (if ib i n = true then K else none) = some r) : vp_in i n ∧ K = some r := by
  by_cases hb : ib i n = true
  · rw [if_pos hb] at h
    exact ⟨ib_in hb, h⟩
  · rw [if_neg hb] at h
    cases h
theorem bdk {α β : Type} {o : Option α} {k : α → Option β} {r : β} (h : o.bind k = some r) : ∃ q, o = some q ∧ k q = some r := by
  cases o with
  | none => cases h
  | some q => exact ⟨q, rfl, h⟩
/-- a name for a value -/
def bnd {α β : Type} (a : α) (k : α → β) : β := k a
theorem bnk {α β : Type} {a : α} {k : α → β} {r : β} (h : bnd a k = r) : ∃ q, a = q ∧ k q = r := ⟨a, rfl, h⟩
section CALLS
variable {p : Program} {l : Launch} {e : Env} {R : Room} {s : State} {m : MethodId} {args : Array Value} {below : List Frame} {meth : Method} {c : Code} {H : Heap} {locs : List Loc} {cells slots : Nat} {Q : State → Prop}
variable {pc : Nat} {ls : Array Slot} {rest st0 : List Value} {a : Array Value} {A : Nat → Prop}
theorem tope {x y : Int32} (h : x = y) (k : W p l e R s m args below meth c H locs cells slots Q (F0 m pc ls (.int y :: rest))) : W p l e R s m args below meth c H locs cells slots Q (F0 m pc ls (.int x :: rest)) := by rw [h]; exact k
theorem ko_x {T T' : State} {L : List Loc} {free : Addr → Prop} (hL : ∀ q ∈ L, (fun _ : Addr => False) q.base) (X' : Stand p l e R s m args below meth c T' (locs ++ L) (cells + 0) (slots + 0)) : Stand p l e R s m args below meth c T' locs cells slots := by
  have hL0 : L = [] := by
    cases L with
    | nil => rfl
    | cons q L => exact (hL q List.mem_cons_self).elim
  subst hL0
  rw [List.append_nil] at X'
  exact X'
theorem ko_i {post : Int32 → Prop} (hr : va_Run p l e R s m args below meth c H locs cells slots 0 0 (F0 m pc ls st0) rest (vp_Si post a) (fun _ => False))
    (kk : ∀ r : Int32, post r → W p l e R s m args below meth c H locs cells slots Q (F0 m (pc + 3) ls (.int r :: rest))) : W p l e R s m args below meth c H locs cells slots Q (F0 m pc ls st0) := by
  intro T hT X
  obtain ⟨v, st₀, t, T', L, h0, X', hL, e1, e2, ⟨r, hv, hp, hh⟩, st⟩ := hr T hT X
  cases hv
  obtain ⟨t2, a1, b1⟩ := kk r hp T' (by rw [e1, hh, h0]) (ko_x (T := T) (free := fun _ => False) hL X')
  exact ⟨t2, st t2 a1, b1⟩
theorem ko_q {post : Option Nat → Prop} (hr : va_Run p l e R s m args below meth c H locs cells slots 0 0 (F0 m pc ls st0) rest (va_Sq post a) (fun _ => False))
    (kk : ∀ r : Option Nat, post r → W p l e R s m args below meth c H locs cells slots Q (F0 m (pc + 3) ls (va_rf r :: rest))) : W p l e R s m args below meth c H locs cells slots Q (F0 m pc ls st0) := by
  intro T hT X
  obtain ⟨v, st₀, t, T', L, h0, X', hL, e1, e2, ⟨r, hv, hp, hh⟩, st⟩ := hr T hT X
  cases hv
  obtain ⟨t2, a1, b1⟩ := kk r hp T' (by rw [e1, hh, h0]) (ko_x (T := T) (free := fun _ => False) hL X')
  exact ⟨t2, st t2 a1, b1⟩
variable {S : Type} {D : va_G} {cl : List vw_C} {ws wc : va_W} {wc' : S → va_W}
theorem kw_i {post : Int32 → S → Prop} (hr : va_Run p l e R s m args below meth c H locs cells slots 0 0 (F0 m pc ls st0) rest (va_Qi post (fun u t => va_P D cl (wc' u) t.heap) (va_A wc H.size) a) (va_A wc H.size)) (hP : va_P D cl ws H) (hD : va_D A ws) (hS : va_S A s.heap H locs) (hA : ∀ q, s.heap.size ≤ q → A q) (is : List Nat) (hn : va_nd is = true) (hC : is.map (fun i => ws[i]?) = wc.map some) (hadr : ∀ u, (wc' u).map Prod.fst = wc.map Prod.fst)
    (kk : ∀ (r : Int32) (u : S) (H1 : Heap) (locs1 : List Loc), post r u → va_P D cl (pbl ws is (wc' u)) H1 → va_D A (pbl ws is (wc' u)) → va_S A s.heap H1 locs1 → W p l e R s m args below meth c H1 locs1 cells slots Q (F0 m (pc + 3) ls (.int r :: rest))) : W p l e R s m args below meth c H locs cells slots Q (F0 m pc ls st0) := by
  have hF := va_free hD hS hA is hC
  refine va_calli hr hS (fun q _ h => hF q h) hF (fun r u t H1 locs1 ht hvm hp hb hz hk hS1 => ?_)
  rw [ht] at hb
  obtain ⟨h1, h2⟩ := pb hP hD is hn hC (hadr u) hk hb
  exact kk r u H1 locs1 hp h1 h2 hS1
theorem kw_v {post : S → Prop} (hr : va_Run p l e R s m args below meth c H locs cells slots 0 0 (F0 m pc ls st0) rest (va_Qv post (fun u t => va_P D cl (wc' u) t.heap) (va_A wc H.size) a) (va_A wc H.size)) (hP : va_P D cl ws H) (hD : va_D A ws) (hS : va_S A s.heap H locs) (hA : ∀ q, s.heap.size ≤ q → A q) (is : List Nat) (hn : va_nd is = true) (hC : is.map (fun i => ws[i]?) = wc.map some) (hadr : ∀ u, (wc' u).map Prod.fst = wc.map Prod.fst)
    (kk : ∀ (u : S) (H1 : Heap) (locs1 : List Loc), post u → va_P D cl (pbl ws is (wc' u)) H1 → va_D A (pbl ws is (wc' u)) → va_S A s.heap H1 locs1 → W p l e R s m args below meth c H1 locs1 cells slots Q (F0 m (pc + 3) ls rest)) : W p l e R s m args below meth c H locs cells slots Q (F0 m pc ls st0) := by
  have hF := va_free hD hS hA is hC
  refine va_callv hr hS (fun q _ h => hF q h) hF (fun u t H1 locs1 ht hvm hp hb hz hk hS1 => ?_)
  rw [ht] at hb
  obtain ⟨h1, h2⟩ := pb hP hD is hn hC (hadr u) hk hb
  exact kk u H1 locs1 hp h1 h2 hS1
end CALLS
theorem atH {D : va_G} {cl : List vw_C} {w : va_W} {t : State} {H : Heap} (ht : t.heap = H) (hP : va_P D cl w H) : va_P D cl w t.heap := by rw [ht]; exact hP
section CALLE
variable {p : Program} {l : Launch} {e : Env} {R : Room} {s : State} {m : MethodId} {args : Array Value} {below : List Frame} {meth : Method} {c : Code} {H : Heap} {locs : List Loc} {cells slots : Nat} {Q : State → Prop}
variable {pc : Nat} {ls : Array Slot} {rest st0 : List Value} {a : Array Value} {A : Nat → Prop}
theorem ko_e {res : Int32} (hr : va_Run p l e R s m args below meth c H locs cells slots 0 0 (F0 m pc ls st0) rest (vp_Si (fun v => v = res) a) (fun _ => False))
    (kk : W p l e R s m args below meth c H locs cells slots Q (F0 m (pc + 3) ls (.int res :: rest))) : W p l e R s m args below meth c H locs cells slots Q (F0 m pc ls st0) :=
  ko_i hr (fun r h => by rw [h]; exact kk)
variable {S : Type} {D : va_G} {cl : List vw_C} {ws wc : va_W} {wc' : S → va_W}
theorem kw_ie {res : Int32 × S} (hr : va_Run p l e R s m args below meth c H locs cells slots 0 0 (F0 m pc ls st0) rest (va_Qi (fun v u => v = res.1 ∧ u = res.2) (fun u t => va_P D cl (wc' u) t.heap) (va_A wc H.size) a) (va_A wc H.size)) (hP : va_P D cl ws H) (hD : va_D A ws) (hS : va_S A s.heap H locs) (hA : ∀ q, s.heap.size ≤ q → A q) (is : List Nat) (hn : va_nd is = true) (hC : is.map (fun i => ws[i]?) = wc.map some) (hadr : ∀ u, (wc' u).map Prod.fst = wc.map Prod.fst)
    (kk : ∀ (H1 : Heap) (locs1 : List Loc), va_P D cl (pbl ws is (wc' res.2)) H1 → va_D A (pbl ws is (wc' res.2)) → va_S A s.heap H1 locs1 → W p l e R s m args below meth c H1 locs1 cells slots Q (F0 m (pc + 3) ls (.int res.1 :: rest))) : W p l e R s m args below meth c H locs cells slots Q (F0 m pc ls st0) :=
  kw_i hr hP hD hS hA is hn hC hadr (fun r u H1 locs1 h => by rw [h.1, h.2]; exact kk H1 locs1)
theorem kw_ve {res : S} (hr : va_Run p l e R s m args below meth c H locs cells slots 0 0 (F0 m pc ls st0) rest (va_Qv (fun u => u = res) (fun u t => va_P D cl (wc' u) t.heap) (va_A wc H.size) a) (va_A wc H.size)) (hP : va_P D cl ws H) (hD : va_D A ws) (hS : va_S A s.heap H locs) (hA : ∀ q, s.heap.size ≤ q → A q) (is : List Nat) (hn : va_nd is = true) (hC : is.map (fun i => ws[i]?) = wc.map some) (hadr : ∀ u, (wc' u).map Prod.fst = wc.map Prod.fst)
    (kk : ∀ (H1 : Heap) (locs1 : List Loc), va_P D cl (pbl ws is (wc' res)) H1 → va_D A (pbl ws is (wc' res)) → va_S A s.heap H1 locs1 → W p l e R s m args below meth c H1 locs1 cells slots Q (F0 m (pc + 3) ls rest)) : W p l e R s m args below meth c H locs cells slots Q (F0 m pc ls st0) :=
  kw_v hr hP hD hS hA is hn hC hadr (fun u H1 locs1 h => by rw [h]; exact kk H1 locs1)
end CALLE
theorem pr1 {α β : Type} {a : α} {b : β} {r : α × β} (h : (a, b) = r) : a = r.1 ∧ b = r.2 := by subst h; exact ⟨rfl, rfl⟩
section STORE
variable {p : Program} {l : Launch} {e : Env} {R : Room} {s : State} {m : MethodId} {args : Array Value} {below : List Frame} {meth : Method} {c : Code} {H : Heap} {locs : List Loc} {cells slots : Nat} {Q : State → Prop}
variable {cc : ByteArray} {pc : Nat} {ls : Array Slot} {rest : List Value} {D : va_G} {cl : List vw_C} {A : Nat → Prop} {a : Nat} {tys : List (ClassId × FieldType)} {ws : va_W} {H0 : Heap}
theorem iast_e (hexec : p.tables.exec = Jvm.exec) (hb : c.code = cc) (hK : va_K D cl tys s) (hP : va_P D cl ws H) (hD : va_D A ws) (hS : va_S A H0 H locs) (q0 t0 : Nat) {cA : ClassId} {n : Nat} {f f' : Nat → Int32} (ha : ws[q0]? = some (a, .inl (cA, n, .inl f))) (ht : tys[t0]? = some (cA, .int)) {i : Int32} {x : Int32} (hin : vp_in i n) (hdg : decode cc pc = .ok (.iastore, 1)) (he : upd f i.toNatClampNeg x = f')
    (kk : ∀ (H1 : Heap) (locs1 : List Loc), va_P D cl (ws.set q0 (a, .inl (cA, n, .inl f'))) H1 → va_D A (ws.set q0 (a, .inl (cA, n, .inl f'))) → va_S A H0 H1 locs1 → W p l e R s m args below meth c H1 locs1 cells slots Q (F0 m (pc + 1) ls rest)) : W p l e R s m args below meth c H locs cells slots Q (F0 m pc ls (.int x :: .int i :: .ref a :: rest)) := by
  subst he
  exact va_iast hexec hb hK hP hD hS q0 t0 ha ht hin hdg kk
theorem cast_e (hexec : p.tables.exec = Jvm.exec) (hb : c.code = cc) (hK : va_K D cl tys s) (hP : va_P D cl ws H) (hD : va_D A ws) (hS : va_S A H0 H locs) (q0 t0 : Nat) {cA : ClassId} {n : Nat} {f f' : Nat → Int32} (ha : ws[q0]? = some (a, .inl (cA, n, .inl f))) (ht : tys[t0]? = some (cA, .char)) {i : Int32} {x : Int32} (hin : vp_in i n) (hdg : decode cc pc = .ok (.castore, 1)) (he : upd f i.toNatClampNeg (vp_nar .char x) = f')
    (kk : ∀ (H1 : Heap) (locs1 : List Loc), va_P D cl (ws.set q0 (a, .inl (cA, n, .inl f'))) H1 → va_D A (ws.set q0 (a, .inl (cA, n, .inl f'))) → va_S A H0 H1 locs1 → W p l e R s m args below meth c H1 locs1 cells slots Q (F0 m (pc + 1) ls rest)) : W p l e R s m args below meth c H locs cells slots Q (F0 m pc ls (.int x :: .int i :: .ref a :: rest)) := by
  subst he
  exact va_cast hexec hb hK hP hD hS q0 t0 ha ht hin hdg kk
end STORE
/-! a call whose world is the caller's whole world -/
section PREA
variable {g : CX} {s : State} {H : Heap} {locs : List Loc} {A : Nat → Prop} {ws : va_W} {As : List Value} {b ci : Nat} {q : vw_C} {fs : List Value}
theorem PR_SA (hK : KX g s) (hL : LF A s s.heap) (hS : va_S A s.heap H locs) (hP : va_P g.1 vwCl ws H) : PreS s H (PR g As ws) As :=
  ⟨PR_blind, fun U hU hW => ⟨rfl, by rw [hU]; exact hP, hK.warm hW, by rw [hU]; exact ((hL.at hS).narrow (fun _ h => h.elim)).moved hW.alike⟩⟩
theorem PR_VA (hK : KX g s) (hL : LF A s s.heap) (hS : va_S A s.heap H locs) (hP : va_P g.1 vwCl ws H) (hc : vwCl[ci]? = some q) (q0 : Nat) (he : ws[q0]? = some (b, .inr (ci, fs))) : PreV s H q.1 b (PR g (.ref b :: As) ws) As :=
  ⟨PR_blind, va_recv hK.1 hP hc he, (PR_SA (As := .ref b :: As) hK hL hS hP).2⟩
theorem va_freeA (hD : va_D A ws) (hS : va_S A s.heap H locs) (hA : ∀ q, s.heap.size ≤ q → A q) : ∀ q, va_A ws H.size q → A q := fun q h => by
  rcases h with ⟨k, e, h⟩ | h
  · exact hD.2 k (q, e) h
  · exact hA q (Nat.le_trans hS.1 h)
theorem PW_SA (hK : KX g s) (hL : LF A s s.heap) (hS : va_S A s.heap H locs) (hP : va_P g.1 vwCl ws H) (hD : va_D A ws) (hA : ∀ q, s.heap.size ≤ q → A q) : PreS s H (PW g As H.size ws) As := by
  refine ⟨PW_blind, fun U hU hW => ⟨rfl, by rw [hU], by rw [hU]; exact hP, hK.warm hW, hD.weaken (fun _ _ _ _ => trivial), ?_⟩⟩
  rw [hU]
  exact ((hL.at hS).narrow (va_freeA hD hS hA)).moved hW.alike
theorem PW_VA (hK : KX g s) (hL : LF A s s.heap) (hS : va_S A s.heap H locs) (hP : va_P g.1 vwCl ws H) (hD : va_D A ws) (hA : ∀ q, s.heap.size ≤ q → A q) (hc : vwCl[ci]? = some q) (q0 : Nat) (he : ws[q0]? = some (b, .inr (ci, fs))) : PreV s H q.1 b (PW g (.ref b :: As) H.size ws) As :=
  ⟨PW_blind, va_recv hK.1 hP hc he, (PW_SA (As := .ref b :: As) hK hL hS hP hD hA).2⟩
end PREA
section CALLA
variable {p : Program} {l : Launch} {e : Env} {R : Room} {s : State} {m : MethodId} {args : Array Value} {below : List Frame} {meth : Method} {c : Code} {H : Heap} {locs : List Loc} {cells slots : Nat} {Q : State → Prop}
variable {pc : Nat} {ls : Array Slot} {rest st0 : List Value} {a : Array Value} {A : Nat → Prop}
variable {S : Type} {D : va_G} {cl : List vw_C} {ws : va_W} {wc' : S → va_W}
theorem kw_ieA {res : Int32 × S} (hr : va_Run p l e R s m args below meth c H locs cells slots 0 0 (F0 m pc ls st0) rest (va_Qi (fun v u => v = res.1 ∧ u = res.2) (fun u t => va_P D cl (wc' u) t.heap) (va_A ws H.size) a) (va_A ws H.size)) (hD : va_D A ws) (hS : va_S A s.heap H locs) (hA : ∀ q, s.heap.size ≤ q → A q) (hadr : ∀ u, (wc' u).map Prod.fst = ws.map Prod.fst)
    (kk : ∀ (H1 : Heap) (locs1 : List Loc), va_P D cl (wc' res.2) H1 → va_D A (wc' res.2) → va_S A s.heap H1 locs1 → W p l e R s m args below meth c H1 locs1 cells slots Q (F0 m (pc + 3) ls (.int res.1 :: rest))) : W p l e R s m args below meth c H locs cells slots Q (F0 m pc ls st0) := by
  have hF := va_freeA hD hS hA
  refine va_calli hr hS (fun q _ h => hF q h) hF (fun r u t H1 locs1 ht hvm hp hb hz hk hS1 => ?_)
  rw [ht, hp.2] at hb
  rw [hp.1]
  exact kk H1 locs1 hb (va_D_adr hD (hadr _)) hS1
theorem kw_veA {res : S} (hr : va_Run p l e R s m args below meth c H locs cells slots 0 0 (F0 m pc ls st0) rest (va_Qv (fun u => u = res) (fun u t => va_P D cl (wc' u) t.heap) (va_A ws H.size) a) (va_A ws H.size)) (hD : va_D A ws) (hS : va_S A s.heap H locs) (hA : ∀ q, s.heap.size ≤ q → A q) (hadr : ∀ u, (wc' u).map Prod.fst = ws.map Prod.fst)
    (kk : ∀ (H1 : Heap) (locs1 : List Loc), va_P D cl (wc' res) H1 → va_D A (wc' res) → va_S A s.heap H1 locs1 → W p l e R s m args below meth c H1 locs1 cells slots Q (F0 m (pc + 3) ls rest)) : W p l e R s m args below meth c H locs cells slots Q (F0 m pc ls st0) := by
  have hF := va_freeA hD hS hA
  refine va_callv hr hS (fun q _ h => hF q h) hF (fun u t H1 locs1 ht hvm hp hb hz hk hS1 => ?_)
  rw [ht, hp] at hb
  exact kk H1 locs1 hb (va_D_adr hD (hadr _)) hS1
end CALLA
