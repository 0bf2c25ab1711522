/-! data of each object, worlds, the shapes of contracts, calls -/
abbrev AF : Type := Nat → Int32
abbrev BD : Type := AF × AF
abbrev LD : Type := AF × AF × AF × AF
abbrev FD : Type := AF × AF × AF × AF
abbrev TD : Type := AF × Int32 × Int32 × Int32 × Int32 × Int32 × Int32
abbrev SD : Type := Int32 × Int32 × AF × AF × BD × LD × FD × TD
abbrev PD : Type := AF × Int32 × Int32 × Int32 × Int32 × Int32 × Int32 × Int32 × Int32 × Int32 × Int32
abbrev MD : Type := AF × Int32 × Int32 × AF × Int32 × Int32 × Int32 × AF × Int32 × Int32 × Int32
abbrev CX : Type := va_G × ClassId × ClassId × ClassId
def wg (y : MethodName) (cc : ByteArray) (n : Nat) (ret : Option FieldType) : List Cond := Cond.code y cc n ret :: G
theorem wg_G {y : MethodName} {cc : ByteArray} {n : Nat} {ret : Option FieldType} {args : Array Value} {s : State} (h : ∀ w ∈ wg y cc n ret, w.before args s = true) : ∀ w ∈ G, w.before args s = true := fun w hw => h w (List.mem_cons_of_mem _ hw)
theorem GC {y : MethodName} {cc : ByteArray} {n : Nat} {ret : Option FieldType} (h : Cond.code y cc n ret ∈ G) : GoodIn G (wg y cc n ret) := G_in (fun w hw => by
  rcases List.mem_cons.mp hw with rfl | hw
  · exact h
  · exact hw)
theorem GV {own C : String} {idx : Nat} {y : MethodName} {cc : ByteArray} {n : Nat} {ret : Option FieldType} (h1 : Cond.methodLink own idx y ∈ G) (h2 : Cond.instanceMethod y ∈ G) (h3 : Cond.selects C y y ∈ G) (h4 : Cond.initialized C ∈ G) (h5 : Cond.code y cc n ret ∈ G) : GoodIn G (wsV own idx C y (wg y cc n ret)) := G_in (fun w hw => by
  simp only [wsV, wg, List.cons_append, List.nil_append, List.mem_cons] at hw
  rcases hw with rfl | rfl | rfl | rfl | rfl | hw <;> assumption)
theorem GS {own : String} {idx : Nat} {y : MethodName} {cc : ByteArray} {n : Nat} {ret : Option FieldType} (h1 : Cond.methodLink own idx y ∈ G) (h2 : Cond.static y ∈ G) (h4 : Cond.initialized y.cls ∈ G) (h5 : Cond.code y cc n ret ∈ G) : GoodIn G (va_wsS own idx y (wg y cc n ret)) := G_in (fun w hw => by
  simp only [va_wsS, wg, List.cons_append, List.nil_append, List.mem_cons] at hw
  rcases hw with rfl | rfl | rfl | rfl | hw <;> assumption)
/-- what the tables say of the classes, the arrays and the nest -/
def KX (g : CX) (U : State) : Prop := va_K g.1 vwCl [(g.2.1, .int), (g.2.2.1, .char), (g.2.2.2, .object "HookHours$State")] U ∧ (∀ w ∈ nestW, va_Nw w U) ∧ va_AO "HookHours$State" U
theorem nestW_tab : ∀ w ∈ nestW, w.onTables = true := List.all_eq_true.mp (by decide +kernel : nestW.all (fun w => w.onTables) = true)
theorem nestW_warm {s U : State} (hW : s.WarmedH U.vm) (h : ∀ w ∈ nestW, va_Nw w s) : ∀ w ∈ nestW, va_Nw w U := by
  have key : ∀ w ∈ nestW, va_Nw w s → va_Nw w U := by
    simp only [nestW, List.forall_mem_cons]
    refine ⟨?_, ?_, ?_, ?_, ?_, ?_, ?_, ?_, ?_, ?_, ?_, ?_, ?_, ?_, ?_, ?_, ?_, ?_, ?_, ?_, ?_, ?_, ?_, ?_, ?_, ?_, ?_, ?_, ?_, ?_, ?_, ?_, ?_, ?_, ?_, ?_, ?_, ?_, ?_, ?_, ?_, ?_⟩
    all_goals first | exact fun q => va_Nw.warmF hW q | exact fun q => va_Nw.warmM hW q | exact fun _ h => absurd h List.not_mem_nil
  exact fun w hw => key w hw (h w hw)
theorem KX.warm {g : CX} {s U : State} (h : KX g s) (hW : s.WarmedH U.vm) : KX g U := ⟨va_K.moved hW.alike h.1, nestW_warm hW h.2.1, va_AO.moved hW.alike h.2.2⟩
theorem KX.calling {g : CX} {U : State} {fr : JFrame} {mk : MethodId} {a : Array Value} (h : KX g U) : KX g (U.calling fr mk a) := ⟨va_K.moved (u := U) (U := U.calling fr mk a) (Vm.Alike.refl U.vm) h.1, fun w hw => va_Nw.same (nestW_tab w hw) (u := U) (U := U.calling fr mk a) rfl (h.2.1 w hw), va_AO.moved (u := U) (U := U.calling fr mk a) (Vm.Alike.refl U.vm) h.2.2⟩
theorem KX.nF {g : CX} {U : State} {A : Array Value} {w : Cond} (h : KX g U) (hw : w ∈ nestW) : w.before A U = true := va_Nw.use (nestW_tab w hw) (h.2.1 w hw)
/-- what the cranes lift -/
def fL : AF := fun k => if k = 0 then 20 else if k = 1 then 40 else 60
def LF (A : Nat → Prop) (U : State) (H : Heap) : Prop := ∃ tl : Nat, va_Z "HookHours" "LIFTS" "[I" (.ref tl) A U H ∧ va_T .int tl 3 (fun j => .int (fL j)) A U H
theorem LF.moved {A : Nat → Prop} {u U : State} {H : Heap} (hvm : u.vm.Alike U.vm) (h : LF A u H) : LF A U H := by
  obtain ⟨tl, h1, h2⟩ := h
  exact ⟨tl, h1.moved hvm, h2.moved hvm⟩
theorem LF.kept {A : Nat → Prop} {U : State} {H H1 : Heap} (h : LF A U H) (hq : ∀ a : Nat, a < H.size → ¬ A a → H1[a]? = H[a]?) : LF A U H1 := by
  obtain ⟨tl, h1, h2⟩ := h
  exact ⟨tl, h1.kept hq, h2.kept hq⟩
theorem LF.narrow {A B : Nat → Prop} {U : State} {H : Heap} (h : LF A U H) (hAB : ∀ q, B q → A q) : LF B U H := by
  obtain ⟨tl, h1, h2⟩ := h
  exact ⟨tl, h1.narrow hAB, h2.narrow hAB⟩
theorem LF.at {A : Nat → Prop} {s : State} {H : Heap} {locs : List Loc} (h : LF A s s.heap) (hS : va_S A s.heap H locs) : LF A s H := h.kept hS.2.1
/-- contracts: a start that is only read; one that is written; one array that is read -/
def PR (g : CX) (av : List Value) (w : va_W) : Array Value → State → Prop := va_Pc av (fun U => va_P g.1 vwCl w U.heap ∧ KX g U ∧ LF (fun _ => False) U U.heap)
def PW (g : CX) (av : List Value) (sz : Nat) (w : va_W) : Array Value → State → Prop := va_Pc av (fun U => U.heap.size = sz ∧ va_P g.1 vwCl w U.heap ∧ KX g U ∧ va_D (fun _ => True) w ∧ LF (va_A w sz) U U.heap)
def PT (g : CX) (av : List Value) (t n : Nat) (f : AF) : Array Value → State → Prop := va_Pc av (fun U => va_T .int t n (fun j => .int (f j)) (fun _ => False) U U.heap ∧ KX g U)
theorem PR_blind {g : CX} {av : List Value} {w : va_W} : FrameBlind (PR g av w) := fun _ _ _ _ h => ⟨h.1, h.2.1, h.2.2.1.calling, h.2.2.2.moved (Vm.Alike.refl _)⟩
theorem PW_blind {g : CX} {av : List Value} {sz : Nat} {w : va_W} : FrameBlind (PW g av sz w) := fun _ _ _ _ h => ⟨h.1, h.2.1, h.2.2.1, h.2.2.2.1.calling, h.2.2.2.2.1, h.2.2.2.2.2.moved (Vm.Alike.refl _)⟩
theorem PT_blind {g : CX} {av : List Value} {t n : Nat} {f : AF} : FrameBlind (PT g av t n f) := fun _ _ _ _ h => ⟨h.1, h.2.1.moved (Vm.Alike.refl _), h.2.2.calling⟩
section PRE
variable {g : CX} {s : State} {H : Heap} {locs : List Loc} {A : Nat → Prop} {ws w : va_W} {As : List Value} {b ci : Nat} {q : vw_C} {fs : List Value}
theorem PR_S (hK : KX g s) (hL : LF A s s.heap) (hS : va_S A s.heap H locs) (hP : va_P g.1 vwCl ws H) (is : List Nat) (hw : is.filterMap (fun i => ws[i]?) = w) : PreS s H (PR g As w) As :=
  ⟨PR_blind, fun U hU hW => ⟨rfl, by rw [hU]; exact hP.sub is hw, hK.warm hW, by rw [hU]; exact ((hL.at hS).narrow (fun _ h => h.elim)).moved hW.alike⟩⟩
theorem PR_V (hK : KX g s) (hL : LF A s s.heap) (hS : va_S A s.heap H locs) (hP : va_P g.1 vwCl ws H) (is : List Nat) (hw : is.filterMap (fun i => ws[i]?) = w) (hc : vwCl[ci]? = some q) (q0 : Nat) (he : ws[q0]? = some (b, .inr (ci, fs))) : PreV s H q.1 b (PR g (.ref b :: As) w) As :=
  ⟨PR_blind, va_recv hK.1 hP hc he, (PR_S (As := .ref b :: As) hK hL hS hP is hw).2⟩
theorem PW_S (hK : KX g s) (hL : LF A s s.heap) (hS : va_S A s.heap H locs) (hP : va_P g.1 vwCl ws H) (hD : va_D A ws) (hA : ∀ q, s.heap.size ≤ q → A q) (is : List Nat) (hn : va_nd is = true) (hw : is.map (fun i => ws[i]?) = w.map some) : PreS s H (PW g As H.size w) As := by
  have hf : is.filterMap (fun i => ws[i]?) = w := by
    have e : is.filterMap (fun i => ws[i]?) = (is.map (fun i => ws[i]?)).filterMap id := by rw [List.filterMap_map]; rfl
    rw [e, hw, List.filterMap_map]
    simp
  refine ⟨PW_blind, fun U hU hW => ⟨rfl, by rw [hU], by rw [hU]; exact hP.sub is hf, hK.warm hW, (hD.sub is hn hw).weaken (fun _ _ _ _ => trivial), ?_⟩⟩
  rw [hU]
  exact ((hL.at hS).narrow (va_free hD hS hA is hw)).moved hW.alike
theorem PW_V (hK : KX g s) (hL : LF A s s.heap) (hS : va_S A s.heap H locs) (hP : va_P g.1 vwCl ws H) (hD : va_D A ws) (hA : ∀ q, s.heap.size ≤ q → A q) (is : List Nat) (hn : va_nd is = true) (hw : is.map (fun i => ws[i]?) = w.map some) (hc : vwCl[ci]? = some q) (q0 : Nat) (he : ws[q0]? = some (b, .inr (ci, fs))) : PreV s H q.1 b (PW g (.ref b :: As) H.size w) As :=
  ⟨PW_blind, va_recv hK.1 hP hc he, (PW_S (As := .ref b :: As) hK hL hS hP hD hA is hn hw).2⟩
theorem va_T_of {t n : Nat} {f : AF} (hK : KX g s) (hP : va_P g.1 vwCl ws H) (q0 : Nat) (he : ws[q0]? = some (t, .inl (g.2.1, n, .inl f))) : va_T .int t n (fun j => .int (f j)) (fun _ => False) s H := by
  have h1 := hP q0 _ he
  have h2 := (hK.1.2 0 _ rfl).1 n (fun j => .int (f j))
  refine ⟨_, h1, h2, (fun q => by cases q), ?_, ?_, (fun j hj => ?_), id⟩
  · show n ≤ (arrV _ _ _).slots.size
    rw [arrV_size]; exact Nat.le_refl _
  · show (arrV _ _ _).slots.size.toInt32 = _
    rw [arrV_size]
  · exact arrV_read _ _ hj
theorem PT_S {t n : Nat} {f : AF} (hK : KX g s) (hT : va_T .int t n (fun j => .int (f j)) (fun _ => False) s H) : PreS s H (PT g As t n f) As :=
  ⟨PT_blind, fun U hU hW => ⟨rfl, by rw [hU]; exact hT.moved hW.alike, hK.warm hW⟩⟩
end PRE
/-- a written part of a world is put back at its places -/
def pbl : va_W → List Nat → va_W → va_W
  | ws, i :: is, c :: cs => pbl (ws.set i c) is cs
  | ws, _, _ => ws
theorem pbl_get : ∀ (is : List Nat) (cs ws : va_W) (k : Nat) (q : Nat × va_E), is.length = cs.length → (pbl ws is cs)[k]? = some q → q ∈ cs ∨ (k ∉ is ∧ ws[k]? = some q) := by
  intro is
  induction is with
  | nil =>
    intro cs ws k q _ h
    exact Or.inr ⟨List.not_mem_nil, by simpa [pbl] using h⟩
  | cons i is ih =>
    intro cs ws k q hl h
    cases cs with
    | nil => simp at hl
    | cons c cs =>
      have h' : (pbl (ws.set i c) is cs)[k]? = some q := h
      rcases ih cs (ws.set i c) k q (by simpa using hl) h' with h2 | ⟨h2, h3⟩
      · exact Or.inl (List.mem_cons_of_mem _ h2)
      · by_cases hk : k = i
        · subst hk
          by_cases hlt : k < ws.length
          · rw [List.getElem?_set_self hlt] at h3
            cases h3
            exact Or.inl List.mem_cons_self
          · rw [List.getElem?_set] at h3
            simp [hlt] at h3
        · rw [List.getElem?_set_ne (Ne.symm hk)] at h3
          exact Or.inr ⟨fun z => by
            rcases List.mem_cons.mp z with z | z
            · exact hk z
            · exact h2 z, h3⟩
theorem pbl_len : ∀ (is : List Nat) (cs ws : va_W), (pbl ws is cs).length = ws.length := by
  intro is
  induction is with
  | nil => intro cs ws; simp [pbl]
  | cons i is ih =>
    intro cs ws
    cases cs with
    | nil => simp [pbl]
    | cons c cs => show (pbl (ws.set i c) is cs).length = _; rw [ih]; simp
theorem pbl_adr : ∀ (is : List Nat) (cs wc ws : va_W), is.map (fun i => ws[i]?) = wc.map some → cs.map Prod.fst = wc.map Prod.fst → va_nd is = true → (pbl ws is cs).map Prod.fst = ws.map Prod.fst := by
  intro is
  induction is with
  | nil => intro cs wc ws _ _ _; simp [pbl]
  | cons i is ih =>
    intro cs wc ws h1 h2 hn
    cases cs with
    | nil => simp [pbl]
    | cons c cs =>
      cases wc with
      | nil => simp at h1
      | cons d wc =>
        simp only [List.map_cons, List.cons.injEq] at h1 h2
        simp only [va_nd, Bool.and_eq_true, decide_eq_true_eq] at hn
        have hset : (ws.set i c).map Prod.fst = ws.map Prod.fst := by
          rw [List.map_set, h2.1]
          apply List.ext_getElem?
          intro k
          rw [List.getElem?_set]
          have h5 : (ws.map Prod.fst)[i]? = some d.1 := by rw [List.getElem?_map, h1.1]; rfl
          by_cases hk : i = k
          · subst hk
            have h6 := (List.getElem?_eq_some_iff.mp h5).1
            simp [h5]
            simpa using h6
          · simp [hk]
        show (pbl (ws.set i c) is cs).map Prod.fst = _
        rw [ih cs wc (ws.set i c) ?_ h2.2 hn.2, hset]
        rw [← h1.2]
        apply List.map_congr_left
        intro j hj
        rw [List.getElem?_set_ne]
        intro z
        subst z
        exact hn.1 hj
theorem va_D_adr {A : Nat → Prop} {w w' : va_W} (h : va_D A w) (ha : w'.map Prod.fst = w.map Prod.fst) : va_D A w' := by
  have key : ∀ (k : Nat) (q : Nat × va_E), w'[k]? = some q → ∃ q0, w[k]? = some q0 ∧ q0.1 = q.1 := by
    intro k q hk
    have h1 : (w'.map Prod.fst)[k]? = some q.1 := by rw [List.getElem?_map, hk]; rfl
    rw [ha, List.getElem?_map] at h1
    cases hw : w[k]? with
    | none => rw [hw] at h1; cases h1
    | some q0 => rw [hw] at h1; exact ⟨q0, rfl, Option.some.inj h1⟩
  refine ⟨fun i j x y hi hj hxy => ?_, fun k q hk => ?_⟩
  · obtain ⟨x0, h1, h2⟩ := key i x hi
    obtain ⟨y0, h3, h4⟩ := key j y hj
    exact h.1 i j x0 y0 h1 h3 (h2.trans (hxy.trans h4.symm))
  · obtain ⟨q0, h1, h2⟩ := key k q hk
    rw [← h2]
    exact h.2 k q0 h1
theorem pb {A0 : Nat → Prop} {D : va_G} {cl : List vw_C} {ws wc wc' : va_W} {H H1 : Heap} (hP : va_P D cl ws H) (hD : va_D A0 ws) (is : List Nat) (hn : va_nd is = true) (hC : is.map (fun i => ws[i]?) = wc.map some) (hadr : wc'.map Prod.fst = wc.map Prod.fst)
    (hk : ∀ q : Nat, q < H.size → ¬ va_A wc H.size q → H1[q]? = H[q]?) (hP1 : va_P D cl wc' H1) : va_P D cl (pbl ws is wc') H1 ∧ va_D A0 (pbl ws is wc') := by
  have hlen : is.length = wc'.length := by
    have e1 : is.length = wc.length := by have := congrArg List.length hC; simpa using this
    have e2 : wc'.length = wc.length := by have := congrArg List.length hadr; simpa using this
    omega
  refine ⟨fun k q hq => ?_, va_D_adr hD (pbl_adr is wc' wc ws hC hadr hn)⟩
  rcases pbl_get is wc' ws k q hlen hq with h | ⟨h1, h2⟩
  · obtain ⟨j, hj⟩ := List.getElem?_of_mem h
    exact hP1 j q hj
  · refine (hP k q h2).kept (hk q.1 (hP k q h2).lt (fun hz => ?_))
    rcases hz with ⟨j, e, hz⟩ | hz
    · have h3 : (is.map (fun i => ws[i]?))[j]? = some (some (q.1, e)) := by rw [hC, List.getElem?_map, hz]; rfl
      rw [List.getElem?_map] at h3
      cases hi : is[j]? with
      | none => rw [hi] at h3; cases h3
      | some i =>
        rw [hi] at h3
        have h4 : ws[i]? = some (q.1, e) := Option.some.inj h3
        have := hD.1 k i q (q.1, e) h2 h4 rfl
        subst this
        exact h1 (List.mem_of_getElem? hi)
    · have := (hP k q h2).lt
      omega
