/-! worlds of blocks: what a call needs is cut out of the list of blocks by places, and put back -/
theorem va_D_nd {A : Nat → Prop} {ws : va_W} : va_D A ws ↔ (ws.map Prod.fst).Nodup ∧ ∀ q ∈ ws, A q.1 := by
  constructor
  · intro h
    refine ⟨?_, fun q hq => ?_⟩
    · rw [List.nodup_iff_pairwise_ne, List.pairwise_iff_getElem]
      intro i j hi hj hij e
      rw [List.length_map] at hi hj
      simp only [List.getElem_map] at e
      have := h.1 i j ws[i] ws[j] (List.getElem?_eq_getElem hi) (List.getElem?_eq_getElem hj) e
      omega
    · obtain ⟨k, hk⟩ := List.getElem?_of_mem hq
      exact h.2 k q hk
  · intro h
    refine ⟨fun i j p q hi hj e => ?_, fun k q hk => h.2 q (List.mem_of_getElem? hk)⟩
    have h1 := h.1
    rw [List.nodup_iff_pairwise_ne, List.pairwise_iff_getElem] at h1
    obtain ⟨li, ei⟩ := List.getElem?_eq_some_iff.mp hi
    obtain ⟨lj, ej⟩ := List.getElem?_eq_some_iff.mp hj
    rcases Nat.lt_trichotomy i j with z | z | z
    · exact (h1 i j (by simpa using li) (by simpa using lj) z (by simp only [List.getElem_map]; rw [ei, ej]; exact e)).elim
    · exact z
    · exact (h1 j i (by simpa using lj) (by simpa using li) z (by simp only [List.getElem_map]; rw [ei, ej]; exact e.symm)).elim
theorem va_P_mem {D : va_G} {cl : List vw_C} {ws : va_W} {H : Heap} : va_P D cl ws H ↔ ∀ q ∈ ws, va_at D cl q H := by
  constructor
  · intro h q hq
    obtain ⟨k, hk⟩ := List.getElem?_of_mem hq
    exact h k q hk
  · exact fun h k q hk => h q (List.mem_of_getElem? hk)
theorem va_cut {D : va_G} {cl : List vw_C} {A : Nat → Prop} {ws wc wr : va_W} {H : Heap} (hP : va_P D cl ws H) (hD : va_D A ws) (p : ws.Perm (wc ++ wr)) : va_P D cl wc H ∧ va_D A wc := by
  rw [va_P_mem] at *
  rw [va_D_nd] at *
  have h2 : ((wc ++ wr).map Prod.fst).Nodup := (p.map Prod.fst).nodup_iff.mp hD.1
  rw [List.map_append, List.nodup_append] at h2
  exact ⟨fun q hq => hP q (p.mem_iff.mpr (List.mem_append_left _ hq)), h2.1, fun q hq => hD.2 q (p.mem_iff.mpr (List.mem_append_left _ hq))⟩
/-- behind a call of the part wc: wc' in its place -/
theorem va_back {D : va_G} {cl : List vw_C} {A : Nat → Prop} {ws wc wr ws' wc' : va_W} {H H1 : Heap} (hP : va_P D cl ws H) (hD : va_D A ws) (p : ws.Perm (wc ++ wr)) (p' : ws'.Perm (wc' ++ wr)) (hadr : (wc'.map Prod.fst).Perm (wc.map Prod.fst))
    (hk : ∀ q : Nat, q < H.size → ¬ va_A wc H.size q → H1[q]? = H[q]?) (hP1 : va_P D cl wc' H1) : va_P D cl ws' H1 ∧ va_D A ws' := by
  have hlt : ∀ q ∈ wr, q.1 < H.size := fun q hq => by
    have h1 := va_P_mem.mp hP q (p.mem_iff.mpr (List.mem_append_right _ hq))
    exact h1.lt
  rw [va_D_nd] at *
  have h2 : ((wc ++ wr).map Prod.fst).Nodup := (p.map Prod.fst).nodup_iff.mp hD.1
  have p2 : (ws'.map Prod.fst).Perm ((wc ++ wr).map Prod.fst) := (p'.map Prod.fst).trans (by rw [List.map_append, List.map_append]; exact hadr.append_right _)
  have hA : ∀ x, x ∈ (wc ++ wr).map Prod.fst → A x := fun x hx => by
    obtain ⟨q, hq, rfl⟩ := List.mem_map.mp hx
    exact hD.2 q (p.mem_iff.mpr hq)
  refine ⟨va_P_mem.mpr fun q hq => ?_, p2.nodup_iff.mpr h2, fun q hq => hA q.1 (p2.mem_iff.mp (List.mem_map.mpr ⟨q, hq, rfl⟩))⟩
  rcases List.mem_append.mp (p'.mem_iff.mp hq) with h | h
  · exact va_P_mem.mp hP1 q h
  · refine (va_P_mem.mp hP q (p.mem_iff.mpr (List.mem_append_right _ h))).kept (hk q.1 (hlt q h) (fun hz => ?_))
    rcases hz with ⟨j, e, hz⟩ | hz
    · rw [List.map_append, List.nodup_append] at h2
      exact h2.2.2 q.1 (List.mem_map.mpr ⟨_, List.mem_of_getElem? hz, rfl⟩) q.1 (List.mem_map.mpr ⟨q, h, rfl⟩) rfl
    · have := hlt q h
      omega
theorem fm_range {α : Type} : ∀ bs : List α, (List.range bs.length).filterMap (fun i => bs[i]?) = bs
  | [] => rfl
  | b :: t => by
    rw [List.length_cons, List.range_succ_eq_map, List.filterMap_cons]
    show b :: ((List.range t.length).map Nat.succ).filterMap (fun i => (b :: t)[i]?) = b :: t
    rw [List.filterMap_map]
    congr 1
    exact fm_range t
theorem blkP {bs cs rs : List va_W} (is : List Nat) (h : is.Perm (List.range bs.length)) (he : is.filterMap (fun i => bs[i]?) = cs ++ rs) : bs.flatten.Perm (cs.flatten ++ rs.flatten) := by
  have h1 : bs.Perm (cs ++ rs) := by
    have := (h.filterMap (fun i => bs[i]?)).symm
    rw [fm_range, he] at this
    exact this
  rw [← List.flatten_append]
  exact h1.flatten
section CALLB
variable {p : Program} {l : Launch} {e : Env} {R : Room} {s : State} {m : MethodId} {args : Array Value} {below : List Frame} {meth : Method} {c : Code} {H : Heap} {locs : List Loc} {cells slots : Nat} {Q : State → Prop}
variable {pc : Nat} {ls : Array Slot} {rest st0 : List Value} {a : Array Value} {A : Nat → Prop}
variable {S : Type} {D : va_G} {cl : List vw_C} {ws ws' wc wr : va_W} {wc' : S → va_W}
theorem kw_ieB {res : Int32 × S} (hr : va_Run p l e R s m args below meth c H locs cells slots 0 0 (F0 m pc ls st0) rest (va_Qi (fun v u => v = res.1 ∧ u = res.2) (fun u t => va_P D cl (wc' u) t.heap) (va_A wc H.size) a) (va_A wc H.size)) (hP : va_P D cl ws H) (hD : va_D A ws) (hS : va_S A s.heap H locs) (hA : ∀ q, s.heap.size ≤ q → A q) (q : ws.Perm (wc ++ wr)) (q' : ws'.Perm (wc' res.2 ++ wr)) (hadr : ((wc' res.2).map Prod.fst).Perm (wc.map Prod.fst))
    (kk : ∀ (H1 : Heap) (locs1 : List Loc), va_P D cl ws' H1 → va_D A ws' → va_S A s.heap H1 locs1 → W p l e R s m args below meth c H1 locs1 cells slots Q (F0 m (pc + 3) ls (.int res.1 :: rest))) : W p l e R s m args below meth c H locs cells slots Q (F0 m pc ls st0) := by
  have hF := va_freeA (va_cut hP hD q).2 hS hA
  refine va_calli hr hS (fun q _ h => hF q h) hF (fun r u t H1 locs1 ht hvm hp hb hz hk hS1 => ?_)
  rw [ht, hp.2] at hb
  rw [hp.1]
  obtain ⟨h1, h2⟩ := va_back hP hD q q' hadr hk hb
  exact kk H1 locs1 h1 h2 hS1
theorem kw_veB {res : S} (hr : va_Run p l e R s m args below meth c H locs cells slots 0 0 (F0 m pc ls st0) rest (va_Qv (fun u => u = res) (fun u t => va_P D cl (wc' u) t.heap) (va_A wc H.size) a) (va_A wc H.size)) (hP : va_P D cl ws H) (hD : va_D A ws) (hS : va_S A s.heap H locs) (hA : ∀ q, s.heap.size ≤ q → A q) (q : ws.Perm (wc ++ wr)) (q' : ws'.Perm (wc' res ++ wr)) (hadr : ((wc' res).map Prod.fst).Perm (wc.map Prod.fst))
    (kk : ∀ (H1 : Heap) (locs1 : List Loc), va_P D cl ws' H1 → va_D A ws' → va_S A s.heap H1 locs1 → W p l e R s m args below meth c H1 locs1 cells slots Q (F0 m (pc + 3) ls rest)) : W p l e R s m args below meth c H locs cells slots Q (F0 m pc ls st0) := by
  have hF := va_freeA (va_cut hP hD q).2 hS hA
  refine va_callv hr hS (fun q _ h => hF q h) hF (fun u t H1 locs1 ht hvm hp hb hz hk hS1 => ?_)
  rw [ht, hp] at hb
  obtain ⟨h1, h2⟩ := va_back hP hD q q' hadr hk hb
  exact kk H1 locs1 h1 h2 hS1
end CALLB
/-- four references -/
def rf4 (a b c d : Nat) : Nat → Option Nat := fun j => if j = 0 then some a else if j = 1 then some b else if j = 2 then some c else if j = 3 then some d else none
theorem rf4_0 {a b c d v : Nat} : va_up (rf4 a b c d) 0 (some v) = rf4 v b c d := by
  funext j
  simp only [va_up, rf4]
  by_cases h : j = 0 <;> simp [h]
theorem rf4_1 {a b c d v : Nat} : va_up (rf4 a b c d) 1 (some v) = rf4 a v c d := by
  funext j
  simp only [va_up, rf4]
  by_cases h : j = 1 <;> simp [h]
theorem rf4_2 {a b c d v : Nat} : va_up (rf4 a b c d) 2 (some v) = rf4 a b v d := by
  funext j
  simp only [va_up, rf4]
  by_cases h : j = 2 <;> simp [h]
theorem rf4_3 {a b c d v : Nat} : va_up (rf4 a b c d) 3 (some v) = rf4 a b c v := by
  funext j
  simp only [va_up, rf4]
  by_cases h : j = 3 <;> simp [h]
section STOREQ
variable {p : Program} {l : Launch} {e : Env} {R : Room} {s : State} {m : MethodId} {args : Array Value} {below : List Frame} {meth : Method} {c : Code} {H : Heap} {locs : List Loc} {cells slots : Nat} {Q : State → Prop}
variable {cc : ByteArray} {pc : Nat} {ls : Array Slot} {rest : List Value} {D : va_G} {cl : List vw_C} {A : Nat → Prop} {a : Nat} {tys : List (ClassId × FieldType)} {ws : va_W} {H0 : Heap}
theorem aldq_e (hexec : p.tables.exec = Jvm.exec) (hb : c.code = cc) (hK : va_K D cl tys s) (hP : va_P D cl ws H) (q0 t0 : Nat) {cA : ClassId} {C : String} {n : Nat} {f : Nat → Option Nat} (ha : ws[q0]? = some (a, .inl (cA, n, .inr (.inr (.inr (.inr f)))))) (ht : tys[t0]? = some (cA, .object C)) {i : Int32} (hin : vp_in i n) (hdg : decode cc pc = .ok (.aaload, 1)) {v : Nat} (he : f i.toNatClampNeg = some v)
    (kk : W p l e R s m args below meth c H locs cells slots Q (F0 m (pc + 1) ls (.ref v :: rest))) : W p l e R s m args below meth c H locs cells slots Q (F0 m pc ls (.int i :: .ref a :: rest)) := by
  refine va_aldq hexec hb hK hP q0 t0 ha ht hin hdg ?_
  rw [he]
  exact kk
theorem astq_e (hexec : p.tables.exec = Jvm.exec) (hb : c.code = cc) (hK : va_K D cl tys s) (hP : va_P D cl ws H) (hD : va_D A ws) (hS : va_S A H0 H locs) (q0 t0 qk ci : Nat) {cA : ClassId} {r : vw_C} {n v : Nat} {vs : List Value} {f f' : Nat → Option Nat} (ha : ws[q0]? = some (a, .inl (cA, n, .inr (.inr (.inr (.inr f)))))) (ht : tys[t0]? = some (cA, .object r.1)) (hv : ws[qk]? = some (v, .inr (ci, vs))) (hc : cl[ci]? = some r) {i : Int32} (hin : vp_in i n) (hdg : decode cc pc = .ok (.aastore, 1)) (he : va_up f i.toNatClampNeg (some v) = f')
    (kk : ∀ (H1 : Heap) (locs1 : List Loc), va_P D cl (ws.set q0 (a, .inl (cA, n, .inr (.inr (.inr (.inr f')))))) H1 → va_D A (ws.set q0 (a, .inl (cA, n, .inr (.inr (.inr (.inr f')))))) → va_S A H0 H1 locs1 → W p l e R s m args below meth c H1 locs1 cells slots Q (F0 m (pc + 1) ls rest)) : W p l e R s m args below meth c H locs cells slots Q (F0 m pc ls (.ref v :: .int i :: .ref a :: rest)) := by
  subst he
  exact va_astq hexec hb hK hP hD hS q0 t0 qk ci ha ht hv hc hin hdg kk
end STOREQ
theorem blkQ {bs cs rs : List va_W} (is : List Nat) (n : Nat) (hn : bs.length = n) (h : is.Perm (List.range n)) (he : is.filterMap (fun i => bs[i]?) = cs ++ rs) {wc : va_W} (hc : cs.flatten = wc) : bs.flatten.Perm (wc ++ rs.flatten) := by
  rw [← hc]
  exact blkP is (by rw [hn]; exact h) he
section CALLQ
variable {p : Program} {l : Launch} {e : Env} {R : Room} {s : State} {m : MethodId} {args : Array Value} {below : List Frame} {meth : Method} {c : Code} {H : Heap} {locs : List Loc} {cells slots : Nat} {Q : State → Prop}
variable {pc : Nat} {ls : Array Slot} {rest st0 : List Value} {a : Array Value}
theorem ko_qs {res : Option Nat} {v : Nat} (hr : va_Run p l e R s m args below meth c H locs cells slots 0 0 (F0 m pc ls st0) rest (va_Sq (fun r => r = res) a) (fun _ => False)) (he : res = some v)
    (kk : W p l e R s m args below meth c H locs cells slots Q (F0 m (pc + 3) ls (.ref v :: rest))) : W p l e R s m args below meth c H locs cells slots Q (F0 m pc ls st0) :=
  ko_q hr (fun r h => by rw [h, he]; exact kk)
theorem ko_qn {res : Option Nat} (hr : va_Run p l e R s m args below meth c H locs cells slots 0 0 (F0 m pc ls st0) rest (va_Sq (fun r => r = res) a) (fun _ => False)) (he : res = none)
    (kk : W p l e R s m args below meth c H locs cells slots Q (F0 m (pc + 3) ls (.null :: rest))) : W p l e R s m args below meth c H locs cells slots Q (F0 m pc ls st0) :=
  ko_q hr (fun r h => by rw [h, he]; exact kk)
end CALLQ
/-- behind a call whose end says itself that its cells are apart (they may be new, or in another order) -/
theorem va_backD {D : va_G} {cl : List vw_C} {A : Nat → Prop} {ws wc wr ws' wc' : va_W} {H H1 : Heap} (hP : va_P D cl ws H) (hD : va_D A ws) (p : ws.Perm (wc ++ wr)) (p' : ws'.Perm (wc' ++ wr)) (hF : ∀ q, va_A wc H.size q → A q)
    (hk : ∀ q : Nat, q < H.size → ¬ va_A wc H.size q → H1[q]? = H[q]?) (hP1 : va_P D cl wc' H1) (hD1 : va_D (va_A wc H.size) wc') : va_P D cl ws' H1 ∧ va_D A ws' := by
  have hlt : ∀ q ∈ wr, q.1 < H.size := fun q hq => (va_P_mem.mp hP q (p.mem_iff.mpr (List.mem_append_right _ hq))).lt
  rw [va_D_nd] at hD hD1
  have h2 : ((wc ++ wr).map Prod.fst).Nodup := (p.map Prod.fst).nodup_iff.mp hD.1
  rw [List.map_append, List.nodup_append] at h2
  have hn : ∀ q ∈ wr, ¬ va_A wc H.size q.1 := fun q h hz => by
    rcases hz with ⟨j, e, hz⟩ | hz
    · exact h2.2.2 q.1 (List.mem_map.mpr ⟨_, List.mem_of_getElem? hz, rfl⟩) q.1 (List.mem_map.mpr ⟨q, h, rfl⟩) rfl
    · have := hlt q h
      omega
  refine ⟨va_P_mem.mpr fun q hq => ?_, va_D_nd.mpr ⟨?_, fun q hq => ?_⟩⟩
  · rcases List.mem_append.mp (p'.mem_iff.mp hq) with h | h
    · exact va_P_mem.mp hP1 q h
    · exact (va_P_mem.mp hP q (p.mem_iff.mpr (List.mem_append_right _ h))).kept (hk q.1 (hlt q h) (hn q h))
  · rw [(p'.map Prod.fst).nodup_iff, List.map_append, List.nodup_append]
    refine ⟨hD1.1, h2.2.1, fun x hx y hy e => ?_⟩
    obtain ⟨a, ha, rfl⟩ := List.mem_map.mp hx
    obtain ⟨b, hb, rfl⟩ := List.mem_map.mp hy
    have := hD1.2 a ha
    rw [e] at this
    exact hn b hb this
  · rcases List.mem_append.mp (p'.mem_iff.mp hq) with h | h
    · exact hF _ (hD1.2 q h)
    · exact hD.2 q (p.mem_iff.mpr (List.mem_append_right _ h))
section CALLD
variable {p : Program} {l : Launch} {e : Env} {R : Room} {s : State} {m : MethodId} {args : Array Value} {below : List Frame} {meth : Method} {c : Code} {H : Heap} {locs : List Loc} {cells slots mc ms : Nat} {Q : State → Prop}
variable {pc : Nat} {ls : Array Slot} {rest st0 : List Value} {a : Array Value} {A : Nat → Prop}
variable {S : Type} {D : va_G} {cl : List vw_C} {ws wc wr : va_W} {wc' ws' : S → va_W}
theorem kw_ieD {res : Int32 × S} (hr : va_Run p l e R s m args below meth c H locs cells slots mc ms (F0 m pc ls st0) rest (va_Qi (fun v u => v = res.1 ∧ u = res.2) (fun u t => va_P D cl (wc' u) t.heap ∧ va_D (va_A wc H.size) (wc' u)) (va_A wc H.size) a) (va_A wc H.size)) (hP : va_P D cl ws H) (hD : va_D A ws) (hS : va_S A s.heap H locs) (hA : ∀ q, s.heap.size ≤ q → A q) (q : ws.Perm (wc ++ wr)) (q' : ∀ u, (ws' u).Perm (wc' u ++ wr))
    (kk : ∀ (H1 : Heap) (locs1 : List Loc), va_P D cl (ws' res.2) H1 → va_D A (ws' res.2) → va_S A s.heap H1 locs1 → W p l e R s m args below meth c H1 locs1 (cells + mc) (slots + ms) Q (F0 m (pc + 3) ls (.int res.1 :: rest))) : W p l e R s m args below meth c H locs cells slots Q (F0 m pc ls st0) := by
  have hF := va_freeA (va_cut hP hD q).2 hS hA
  refine va_calli hr hS (fun q _ h => hF q h) hF (fun r u t H1 locs1 ht hvm hp hb hz hk hS1 => ?_)
  rw [ht, hp.2] at hb
  rw [hp.1]
  obtain ⟨h1, h2⟩ := va_backD hP hD q (q' _) hF hk hb.1 hb.2
  exact kk H1 locs1 h1 h2 hS1
theorem kw_veD {post : S → Prop} (hr : va_Run p l e R s m args below meth c H locs cells slots mc ms (F0 m pc ls st0) rest (va_Qv post (fun u t => va_P D cl (wc' u) t.heap ∧ va_D (va_A wc H.size) (wc' u)) (va_A wc H.size) a) (va_A wc H.size)) (hP : va_P D cl ws H) (hD : va_D A ws) (hS : va_S A s.heap H locs) (hA : ∀ q, s.heap.size ≤ q → A q) (q : ws.Perm (wc ++ wr)) (q' : ∀ u, (ws' u).Perm (wc' u ++ wr))
    (kk : ∀ (u : S) (H1 : Heap) (locs1 : List Loc), post u → va_P D cl (ws' u) H1 → va_D A (ws' u) → va_S A s.heap H1 locs1 → W p l e R s m args below meth c H1 locs1 (cells + mc) (slots + ms) Q (F0 m (pc + 3) ls rest)) : W p l e R s m args below meth c H locs cells slots Q (F0 m pc ls st0) := by
  have hF := va_freeA (va_cut hP hD q).2 hS hA
  refine va_callv hr hS (fun q _ h => hF q h) hF (fun u t H1 locs1 ht hvm hp hb hz hk hS1 => ?_)
  rw [ht] at hb
  obtain ⟨h1, h2⟩ := va_backD hP hD q (q' _) hF hk hb.1 hb.2
  exact kk u H1 locs1 hp h1 h2 hS1
end CALLD
section CALLE2
variable {p : Program} {l : Launch} {e : Env} {R : Room} {s : State} {m : MethodId} {args : Array Value} {below : List Frame} {meth : Method} {c : Code} {H : Heap} {locs : List Loc} {cells slots mc ms : Nat} {Q : State → Prop}
variable {pc : Nat} {ls : Array Slot} {rest st0 : List Value} {a : Array Value} {A : Nat → Prop}
variable {S : Type} {D : va_G} {cl : List vw_C} {ws wc wr : va_W} {wc' ws' : S → va_W}
theorem kw_veE {res : S} (hr : va_Run p l e R s m args below meth c H locs cells slots mc ms (F0 m pc ls st0) rest (va_Qv (fun u => u = res) (fun u t => va_P D cl (wc' u) t.heap ∧ va_D (va_A wc H.size) (wc' u)) (va_A wc H.size) a) (va_A wc H.size)) (hP : va_P D cl ws H) (hD : va_D A ws) (hS : va_S A s.heap H locs) (hA : ∀ q, s.heap.size ≤ q → A q) (q : ws.Perm (wc ++ wr)) (q' : ∀ u, (ws' u).Perm (wc' u ++ wr))
    (kk : ∀ (H1 : Heap) (locs1 : List Loc), va_P D cl (ws' res) H1 → va_D A (ws' res) → va_S A s.heap H1 locs1 → W p l e R s m args below meth c H1 locs1 (cells + mc) (slots + ms) Q (F0 m (pc + 3) ls rest)) : W p l e R s m args below meth c H locs cells slots Q (F0 m pc ls st0) :=
  kw_veD hr hP hD hS hA q q' (fun u H1 locs1 h => by rw [h]; exact kk H1 locs1)
end CALLE2
