theorem law_room {L n : Nat} (hL : L ≤ 3072) (hn : 6 * n ≤ 3072) (h : ¬ nI L - 6 < nI (6 * n)) : 6 * n + 6 ≤ L := by
  rcases Nat.lt_or_ge L (6 * n + 6) with q | q
  · refine absurd ?_ h
    rw [Int32.lt_iff_toInt_lt, show (6 : Int32) = nI 6 from rfl, pk_sub_toInt (by omega) (by omega), nI_toInt (by omega)]
    omega
  · exact q
set_option maxHeartbeats 4000000 in
set_option maxRecDepth 100000 in
theorem law_loop {p : Program} {l : Launch} {e : Env} {s : State} {m : MethodId} {below : List Frame} {meth : Method} {c : Code} {b L : Nat} {xs : Nat → Int32} {g : CX} (hL0 : L ≤ 3072) (C0 : lw_At p s m meth c b L xs) (hK : KX g s) (hL : LF (fun q : Nat => s.heap.size ≤ q) s s.heap) {Inv : Nat → HX → MD → Prop} (h_expect : SIM_expect Inv) (h_fund : SIM_fund Inv) (h_bid : SIM_bid Inv) (h_withdraw : SIM_withdraw Inv) (h_award : SIM_award Inv) (h_trade : SIM_trade Inv) (h_done : SIM_done Inv) (h_nextDay : SIM_nextDay Inv) (h_type : SIM_type Inv) (h_clearText : SIM_clearText Inv) (h_perform : SIM_perform Inv) (h_stopped : SIM_stopped Inv) (h_undo : SIM_undo Inv) (h_keep : SIM_keep Inv) (h_restore : SIM_restore Inv) (h_firm : SIM_firm Inv) (h_slot : SIM_slot Inv) (h_wouldCost : SIM_wouldCost Inv) (h_heaviest : SIM_heaviest Inv) (h_wind : SIM_wind Inv) (h_cheapest : SIM_cheapest Inv) (h_count : SIM_count Inv) (hnop : ∀ n X M, Inv n X M → n < 512 → Inv (n + 1) X M) (h0 jH jA jP jT : Nat) (aN aB aS : Nat → Nat) (mo ms mt me : Nat) : ∀ (f n : Nat) (X : HX) (M : MD) (x3 : Int32) (H : Heap) (locs : List Loc) (ls : Array Slot), L + 6 < 6 * n + 6 * f → 6 * n ≤ L → Inv n X M → x3 = nI (6 * n) → va_P g.1 vwCl (LW g h0 jH jA jP jT aN aB aS mo ms mt me X M).flatten H → va_D (fun q : Nat => s.heap.size ≤ q) (LW g h0 jH jA jP jT aN aB aS mo ms mt me X M).flatten → va_S (fun q : Nat => s.heap.size ≤ q) s.heap H locs → lv_has ls 4 [(0, .ref b), (1, .ref h0), (2, .ref mo), (3, .int x3)] → W p l e room_1 s m #[Value.ref b] below meth c H locs 600000 7302249 (lw_Z below #[Value.ref b] s) (F0 m 18 ls []) := by
  have C1 := C0
  obtain ⟨hx, hb, hr, hml, hown, hts, hX, hbl, hlocks, hgv⟩ := C1
  have hA : ∀ q : Nat, s.heap.size ≤ q → (fun q : Nat => s.heap.size ≤ q) q := fun _ h => h
  have hbA : ¬ (fun q : Nat => s.heap.size ≤ q) b := Nat.not_le.mpr hbl
  intro f
  induction f with
  | zero =>
    intro n X M x3 H locs ls h1 h2 hI hx3 hP hD hS hl
    exfalso
    omega
  | succ f ih =>
    intro n X M x3 H locs ls h1 h2 hI hx3 hP hD hS hl
    refine lv_iload_n hx hb dL_law_18 rfl (lv_at hl 3 rfl) ?_
    refine lv_aload_n hx hb dL_law_19 rfl (lv_at hl 0 rfl) ?_
    refine va_slen hx hb hX hbl hbA hS dL_law_20 ?_
    refine lv_bipush (v := 6) hx hb dL_law_21 (by decide +kernel) ?_
    refine lv_isub hx hb dL_law_23 ?_
    refine lv_icmp_gt (tgt := 810) hx hb dL_law_24 (by decide) (fun c1 => ?_) (fun c1 => ?_)
    · refine lv_iconst (v := 1) hx hb dL_law_810 (by decide) ?_
      refine va_forget (fun q hq => hS.2.2 q hq) ?_
      exact lw_ret hx hb hr hlocks dL_law_811
    · rw [hx3] at c1
      have hiL : 6 * n + 6 ≤ L := law_room hL0 (by omega) c1
      have hn : n < 512 := by omega
      have hin0 : vp_in x3 L := by rw [hx3]; exact vp_in_nI (by omega) (by omega)
      have kk : ∀ (X : HX) (M : MD) (H : Heap) (locs : List Loc) (ls : Array Slot), Inv (n + 1) X M → va_P g.1 vwCl (LW g h0 jH jA jP jT aN aB aS mo ms mt me X M).flatten H → va_D (fun q : Nat => s.heap.size ≤ q) (LW g h0 jH jA jP jT aN aB aS mo ms mt me X M).flatten → va_S (fun q : Nat => s.heap.size ≤ q) s.heap H locs → lv_has ls 4 [(0, .ref b), (1, .ref h0), (2, .ref mo), (3, .int x3)] → W p l e room_1 s m #[Value.ref b] below meth c H locs 600000 7302249 (lw_Z below #[Value.ref b] s) (F0 m 804 ls []) := by
        intro X M H locs ls hI hP hD hS hl
        refine lv_iinc (v := x3 + 6) (lv' := [(3, .int (x3 + 6)), (0, .ref b), (1, .ref h0), (2, .ref mo)]) hx hb dL_law_804 hl (k := 3) rfl rfl (by decide) rfl (fun ls hl => ?_)
        refine lv_goto (tgt := 18) hx hb dL_law_807 (by decide) ?_
        refine ih (n + 1) X M (x3 + 6) H locs ls (by omega) (by omega) hI ?_ hP hD hS (lv_sub hl [1, 2, 3, 0] rfl)
        rw [hx3, show (6 : Int32) = nI 6 from rfl, nI_add]
        congr 1
      refine lv_aload_n hx hb dL_law_27 rfl (lv_at hl 0 rfl) ?_
      refine lv_iload_n hx hb dL_law_28 rfl (lv_at hl 3 rfl) ?_
      refine va_sld hx hb hX hbl hbA hS hin0 dL_law_29 ?_
      refine lv_bipush (v := 31) hx hb dL_law_30 (by decide +kernel) ?_
      refine lv_iand hx hb dL_law_32 ?_
      generalize (xs x3.toNatClampNeg &&& 31) = sw
      by_cases k0 : sw = 0
      · refine lv_tableIn (tgt := 136) hx hb dL_law_33 (by rw [k0]; decide) (by rw [k0]; decide) (by rw [k0]; rfl) (by decide) ?_
        exact case_expect hL0 C0 hK hL h_expect h0 jH jA jP jT aN aB aS mo ms mt me hI hn hx3 hiL hP hD hS hl _ kk
      · by_cases k1 : sw = 1
        · refine lv_tableIn (tgt := 169) hx hb dL_law_33 (by rw [k1]; decide) (by rw [k1]; decide) (by rw [k1]; rfl) (by decide) ?_
          exact case_fund hL0 C0 hK hL h_fund h0 jH jA jP jT aN aB aS mo ms mt me hI hn hx3 hiL hP hD hS hl _ kk
        · by_cases k2 : sw = 2
          · refine lv_tableIn (tgt := 202) hx hb dL_law_33 (by rw [k2]; decide) (by rw [k2]; decide) (by rw [k2]; rfl) (by decide) ?_
            exact case_bid hL0 C0 hK hL h_bid h0 jH jA jP jT aN aB aS mo ms mt me hI hn hx3 hiL hP hD hS hl _ kk
          · by_cases k3 : sw = 3
            · refine lv_tableIn (tgt := 265) hx hb dL_law_33 (by rw [k3]; decide) (by rw [k3]; decide) (by rw [k3]; rfl) (by decide) ?_
              exact case_withdraw hL0 C0 hK hL h_withdraw h0 jH jA jP jT aN aB aS mo ms mt me hI hn hx3 hiL hP hD hS hl _ kk
            · by_cases k4 : sw = 4
              · refine lv_tableIn (tgt := 308) hx hb dL_law_33 (by rw [k4]; decide) (by rw [k4]; decide) (by rw [k4]; rfl) (by decide) ?_
                exact case_award hL0 C0 hK hL h_award h0 jH jA jP jT aN aB aS mo ms mt me hI hn hx3 hiL hP hD hS hl _ kk
              · by_cases k5 : sw = 5
                · refine lv_tableIn (tgt := 341) hx hb dL_law_33 (by rw [k5]; decide) (by rw [k5]; decide) (by rw [k5]; rfl) (by decide) ?_
                  exact case_trade hL0 C0 hK hL h_trade h0 jH jA jP jT aN aB aS mo ms mt me hI hn hx3 hiL hP hD hS hl _ kk
                · by_cases k6 : sw = 6
                  · refine lv_tableIn (tgt := 404) hx hb dL_law_33 (by rw [k6]; decide) (by rw [k6]; decide) (by rw [k6]; rfl) (by decide) ?_
                    exact case_done hL0 C0 hK hL h_done h0 jH jA jP jT aN aB aS mo ms mt me hI hn hx3 hiL hP hD hS hl _ kk
                  · by_cases k7 : sw = 7
                    · refine lv_tableIn (tgt := 427) hx hb dL_law_33 (by rw [k7]; decide) (by rw [k7]; decide) (by rw [k7]; rfl) (by decide) ?_
                      exact case_nextDay hL0 C0 hK hL h_nextDay h0 jH jA jP jT aN aB aS mo ms mt me hI hn hx3 hiL hP hD hS hl _ kk
                    · by_cases k8 : sw = 8
                      · refine lv_tableIn (tgt := 440) hx hb dL_law_33 (by rw [k8]; decide) (by rw [k8]; decide) (by rw [k8]; rfl) (by decide) ?_
                        exact case_type hL0 C0 hK hL h_type h0 jH jA jP jT aN aB aS mo ms mt me hI hn hx3 hiL hP hD hS hl _ kk
                      · by_cases k9 : sw = 9
                        · refine lv_tableIn (tgt := 465) hx hb dL_law_33 (by rw [k9]; decide) (by rw [k9]; decide) (by rw [k9]; rfl) (by decide) ?_
                          exact case_clearText hL0 C0 hK hL h_clearText h0 jH jA jP jT aN aB aS mo ms mt me hI hn hx3 hiL hP hD hS hl _ kk
                        · by_cases k10 : sw = 10
                          · refine lv_tableIn (tgt := 478) hx hb dL_law_33 (by rw [k10]; decide) (by rw [k10]; decide) (by rw [k10]; rfl) (by decide) ?_
                            exact case_perform hL0 C0 hK hL h_perform h0 jH jA jP jT aN aB aS mo ms mt me hI hn hx3 hiL hP hD hS hl _ kk
                          · by_cases k11 : sw = 11
                            · refine lv_tableIn (tgt := 491) hx hb dL_law_33 (by rw [k11]; decide) (by rw [k11]; decide) (by rw [k11]; rfl) (by decide) ?_
                              exact case_stopped hL0 C0 hK hL h_stopped h0 jH jA jP jT aN aB aS mo ms mt me hI hn hx3 hiL hP hD hS hl _ kk
                            · by_cases k12 : sw = 12
                              · refine lv_tableIn (tgt := 514) hx hb dL_law_33 (by rw [k12]; decide) (by rw [k12]; decide) (by rw [k12]; rfl) (by decide) ?_
                                exact case_undo hL0 C0 hK hL h_undo h0 jH jA jP jT aN aB aS mo ms mt me hI hn hx3 hiL hP hD hS hl _ kk
                              · by_cases k13 : sw = 13
                                · refine lv_tableIn (tgt := 527) hx hb dL_law_33 (by rw [k13]; decide) (by rw [k13]; decide) (by rw [k13]; rfl) (by decide) ?_
                                  exact case_keep hL0 C0 hK hL h_keep h0 jH jA jP jT aN aB aS mo ms mt me hI hn hx3 hiL hP hD hS hl _ kk
                                · by_cases k14 : sw = 14
                                  · refine lv_tableIn (tgt := 540) hx hb dL_law_33 (by rw [k14]; decide) (by rw [k14]; decide) (by rw [k14]; rfl) (by decide) ?_
                                    exact case_restore hL0 C0 hK hL h_restore h0 jH jA jP jT aN aB aS mo ms mt me hI hn hx3 hiL hP hD hS hl _ kk
                                  · by_cases k15 : sw = 15
                                    · refine lv_tableIn (tgt := 553) hx hb dL_law_33 (by rw [k15]; decide) (by rw [k15]; decide) (by rw [k15]; rfl) (by decide) ?_
                                      exact case_firm hL0 C0 hK hL h_firm h0 jH jA jP jT aN aB aS mo ms mt me hI hn hx3 hiL hP hD hS hl _ kk
                                    · by_cases k16 : sw = 16
                                      · refine lv_tableIn (tgt := 586) hx hb dL_law_33 (by rw [k16]; decide) (by rw [k16]; decide) (by rw [k16]; rfl) (by decide) ?_
                                        exact case_slot hL0 C0 hK hL h_slot h0 jH jA jP jT aN aB aS mo ms mt me hI hn hx3 hiL hP hD hS hl _ kk
                                      · by_cases k17 : sw = 17
                                        · refine lv_tableIn (tgt := 629) hx hb dL_law_33 (by rw [k17]; decide) (by rw [k17]; decide) (by rw [k17]; rfl) (by decide) ?_
                                          exact case_wouldCost hL0 C0 hK hL h_wouldCost h0 jH jA jP jT aN aB aS mo ms mt me hI hn hx3 hiL hP hD hS hl _ kk
                                        · by_cases k18 : sw = 18
                                          · refine lv_tableIn (tgt := 692) hx hb dL_law_33 (by rw [k18]; decide) (by rw [k18]; decide) (by rw [k18]; rfl) (by decide) ?_
                                            exact case_heaviest hL0 C0 hK hL h_heaviest h0 jH jA jP jT aN aB aS mo ms mt me hI hn hx3 hiL hP hD hS hl _ kk
                                          · by_cases k19 : sw = 19
                                            · refine lv_tableIn (tgt := 725) hx hb dL_law_33 (by rw [k19]; decide) (by rw [k19]; decide) (by rw [k19]; rfl) (by decide) ?_
                                              exact case_wind hL0 C0 hK hL h_wind h0 jH jA jP jT aN aB aS mo ms mt me hI hn hx3 hiL hP hD hS hl _ kk
                                            · by_cases k20 : sw = 20
                                              · refine lv_tableIn (tgt := 748) hx hb dL_law_33 (by rw [k20]; decide) (by rw [k20]; decide) (by rw [k20]; rfl) (by decide) ?_
                                                exact case_cheapest hL0 C0 hK hL h_cheapest h0 jH jA jP jT aN aB aS mo ms mt me hI hn hx3 hiL hP hD hS hl _ kk
                                              · by_cases k21 : sw = 21
                                                · refine lv_tableIn (tgt := 781) hx hb dL_law_33 (by rw [k21]; decide) (by rw [k21]; decide) (by rw [k21]; rfl) (by decide) ?_
                                                  exact case_count hL0 C0 hK hL h_count h0 jH jA jP jT aN aB aS mo ms mt me hI hn hx3 hiL hP hD hS hl _ kk
                                                · have e0 : sw.toInt ≠ 0 := fun e => k0 (Int32.toInt_inj.mp (e.trans (by decide)))
                                                  have e1 : sw.toInt ≠ 1 := fun e => k1 (Int32.toInt_inj.mp (e.trans (by decide)))
                                                  have e2 : sw.toInt ≠ 2 := fun e => k2 (Int32.toInt_inj.mp (e.trans (by decide)))
                                                  have e3 : sw.toInt ≠ 3 := fun e => k3 (Int32.toInt_inj.mp (e.trans (by decide)))
                                                  have e4 : sw.toInt ≠ 4 := fun e => k4 (Int32.toInt_inj.mp (e.trans (by decide)))
                                                  have e5 : sw.toInt ≠ 5 := fun e => k5 (Int32.toInt_inj.mp (e.trans (by decide)))
                                                  have e6 : sw.toInt ≠ 6 := fun e => k6 (Int32.toInt_inj.mp (e.trans (by decide)))
                                                  have e7 : sw.toInt ≠ 7 := fun e => k7 (Int32.toInt_inj.mp (e.trans (by decide)))
                                                  have e8 : sw.toInt ≠ 8 := fun e => k8 (Int32.toInt_inj.mp (e.trans (by decide)))
                                                  have e9 : sw.toInt ≠ 9 := fun e => k9 (Int32.toInt_inj.mp (e.trans (by decide)))
                                                  have e10 : sw.toInt ≠ 10 := fun e => k10 (Int32.toInt_inj.mp (e.trans (by decide)))
                                                  have e11 : sw.toInt ≠ 11 := fun e => k11 (Int32.toInt_inj.mp (e.trans (by decide)))
                                                  have e12 : sw.toInt ≠ 12 := fun e => k12 (Int32.toInt_inj.mp (e.trans (by decide)))
                                                  have e13 : sw.toInt ≠ 13 := fun e => k13 (Int32.toInt_inj.mp (e.trans (by decide)))
                                                  have e14 : sw.toInt ≠ 14 := fun e => k14 (Int32.toInt_inj.mp (e.trans (by decide)))
                                                  have e15 : sw.toInt ≠ 15 := fun e => k15 (Int32.toInt_inj.mp (e.trans (by decide)))
                                                  have e16 : sw.toInt ≠ 16 := fun e => k16 (Int32.toInt_inj.mp (e.trans (by decide)))
                                                  have e17 : sw.toInt ≠ 17 := fun e => k17 (Int32.toInt_inj.mp (e.trans (by decide)))
                                                  have e18 : sw.toInt ≠ 18 := fun e => k18 (Int32.toInt_inj.mp (e.trans (by decide)))
                                                  have e19 : sw.toInt ≠ 19 := fun e => k19 (Int32.toInt_inj.mp (e.trans (by decide)))
                                                  have e20 : sw.toInt ≠ 20 := fun e => k20 (Int32.toInt_inj.mp (e.trans (by decide)))
                                                  have e21 : sw.toInt ≠ 21 := fun e => k21 (Int32.toInt_inj.mp (e.trans (by decide)))
                                                  refine lv_tableOut (tgt := 804) hx hb dL_law_33 (by omega) (by decide) ?_
                                                  exact kk X M H locs ls (hnop n X M hI hn) hP hD hS hl
def INIT (Inv : Nat → HX → MD → Prop) : Prop := ∀ A0 A1 A2 A3 : Nat → Nat, ∃ M : MD, fX9_init = some M ∧ Inv 0 ((0, -5, -5), SD0, SD0, HY0 A0 A1 A2 A3, SD0, PD0) M
set_option maxHeartbeats 4000000 in
set_option maxRecDepth 100000 in
theorem whole_open {p : Program} {e : Env} {s : State} {m : MethodId} {below : List Frame} {meth : Method} {c : Code} (l : Launch) {b L : Nat} {xs : Nat → Int32} (hL0 : L ≤ 3072) (C0 : lw_At p s m meth c b L xs) {Inv : Nat → HX → MD → Prop} (hinit : INIT Inv) (h_expect : SIM_expect Inv) (h_fund : SIM_fund Inv) (h_bid : SIM_bid Inv) (h_withdraw : SIM_withdraw Inv) (h_award : SIM_award Inv) (h_trade : SIM_trade Inv) (h_done : SIM_done Inv) (h_nextDay : SIM_nextDay Inv) (h_type : SIM_type Inv) (h_clearText : SIM_clearText Inv) (h_perform : SIM_perform Inv) (h_stopped : SIM_stopped Inv) (h_undo : SIM_undo Inv) (h_keep : SIM_keep Inv) (h_restore : SIM_restore Inv) (h_firm : SIM_firm Inv) (h_slot : SIM_slot Inv) (h_wouldCost : SIM_wouldCost Inv) (h_heaviest : SIM_heaviest Inv) (h_wind : SIM_wind Inv) (h_cheapest : SIM_cheapest Inv) (h_count : SIM_count Inv) (hnop : ∀ n X M, Inv n X M → n < 512 → Inv (n + 1) X M) : W p l e room_1 s m #[Value.ref b] below meth c s.heap [] 0 0 (lw_Z below #[Value.ref b] s) (entryFrame m ([Value.ref b] : List Value).toArray 4) := by
  obtain ⟨hx, hb, hr, hml, hown, hts, hX, hbl, hlocks, hgv⟩ := id C0
  have htG : ∀ w ∈ G, w.before #[Value.ref b] s = true := fun w h => hts w (G_tbl w h)
  have hA : ∀ q : Nat, s.heap.size ≤ q → (fun q : Nat => s.heap.size ≤ q) q := fun _ h => h
  obtain ⟨g, hK⟩ := KX_start hts
  have hL : LF (fun q : Nat => s.heap.size ≤ q) s s.heap := LF_start hts hgv
  have hS : va_S (fun q : Nat => s.heap.size ≤ q) s.heap s.heap [] := va_S.rf
  have hP : va_P g.1 vwCl [] s.heap := fun k q h => by simp at h
  have hD : va_D (fun q : Nat => s.heap.size ≤ q) [] := ⟨fun i j p q h => by simp at h, fun k q h => by simp at h⟩
  have hl := lv_entry ([.ref b]) (n := 4) (Nat.le_of_ble_eq_true rfl)
  rw [lg_entry_eq]
  generalize (lg_sl ([.ref b]) ++ List.replicate (4 - (lg_sl ([.ref b])).length) Slot.unset).toArray = ls at hl ⊢
  have hl : lv_has ls 4 [(0, .ref b)] := hl
  refine va_new (ci := 7) (fs := [.null, .null, .null, .null, .int 0, .null, .int 0, .int 0]) (C := RX8) (T := TX8) (N := 8) hx hb htG in_wsX80 tyX8 tyX8_ok hown (htG _ g1_13) (htG _ g1_14) (htG _ g1_1) hK.1 hP hD hS hA rfl (fun j hj => by rcases (show j = 0 ∨ j = 1 ∨ j = 2 ∨ j = 3 ∨ j = 4 ∨ j = 5 ∨ j = 6 ∨ j = 7 by omega) with rfl | rfl | rfl | rfl | rfl | rfl | rfl | rfl <;> rfl) (Nat.le_of_ble_eq_true rfl) (Nat.le_of_ble_eq_true rfl) dL_law_0 (fun h0 H hP hD hS => ?_)
  have hP : va_P g.1 vwCl ([[(h0, .inr (7, [.null, .null, .null, .null, .int 0, .null, .int 0, .int 0]))]].flatten) H := hP
  have hD : va_D (fun q : Nat => s.heap.size ≤ q) ([[(h0, .inr (7, [.null, .null, .null, .null, .int 0, .null, .int 0, .int 0]))]].flatten) := hD
  refine lv_dup hx hb dL_law_3 rfl ?_
  have hq := (blkQ (bs := [[(h0, .inr (7, [.null, .null, .null, .null, .int 0, .null, .int 0, .int 0]))]]) (cs := [[(h0, .inr (7, [.null, .null, .null, .null, .int 0, .null, .int 0, .int 0]))]]) (rs := []) [0] 1 rfl (by decide) rfl (wc := [(h0, .inr (7, [.null, .null, .null, .null, .int 0, .null, .int 0, .int 0]))]) rfl)
  obtain ⟨hPc, hDc⟩ := va_cut hP hD hq
  refine kw_veD (ws' := fun u : Nat × Nat × Nat × Nat × (Nat → Nat) × (Nat → Nat) × (Nat → Nat) × (Nat → Nat) × (Nat → Nat) × (Nat → Nat) × (Nat → Nat) => [[w_hh g h0 u.1 u.2.2.1 (u.2.2.2.2.1) (u.2.2.2.2.2.1) (u.2.2.2.2.2.2.1) (0, -5, -5), w_X6 g (u.2.2.2.2.1) SD0, w_X6 g (u.2.2.2.2.2.1) SD0, w_hd g u.1 u.2.1 0 (u.2.2.2.2.2.2.2.1 0) (u.2.2.2.2.2.2.2.2.1 0) (u.2.2.2.2.2.2.2.2.2.1 0) (u.2.2.2.2.2.2.2.2.2.2 0), w_X6 g (u.2.2.2.2.2.2.2.1) SD0, w_X6 g (u.2.2.2.2.2.2.2.2.1) SD0, w_X6 g (u.2.2.2.2.2.2.2.2.2.1) SD0, w_X6 g (u.2.2.2.2.2.2.2.2.2.2) SD0, w_X6 g (u.2.2.2.2.2.2.1) SD0, w_X3 g u.2.2.1 u.2.2.2.1 PD0].flatten].flatten) (va_runI (As := []) (rest := [.ref h0]) ⟨hx, hb, hml, hown, htG⟩ (kX8_init l g h0 _) (cwI 0 htG (GC g1_17) rfl rfl rfl (htG _ g1_1) (htG _ g1_15) (htG _ g1_16) rfl hi_X8 ⟨Nat.le_of_ble_eq_true rfl, Nat.le_of_ble_eq_true rfl⟩) (PW_SA (As := [.ref h0]) hK hL hS hPc hDc hA) rfl rfl hl.1 rfl (lv_room (Nat.le_of_ble_eq_true rfl)) dL_law_4 ⟨Nat.le_of_ble_eq_true rfl, Nat.le_of_ble_eq_true rfl⟩) hP hD hS hA hq (fun u => (blkQ (bs := [[w_hh g h0 u.1 u.2.2.1 (u.2.2.2.2.1) (u.2.2.2.2.2.1) (u.2.2.2.2.2.2.1) (0, -5, -5), w_X6 g (u.2.2.2.2.1) SD0, w_X6 g (u.2.2.2.2.2.1) SD0, w_hd g u.1 u.2.1 0 (u.2.2.2.2.2.2.2.1 0) (u.2.2.2.2.2.2.2.2.1 0) (u.2.2.2.2.2.2.2.2.2.1 0) (u.2.2.2.2.2.2.2.2.2.2 0), w_X6 g (u.2.2.2.2.2.2.2.1) SD0, w_X6 g (u.2.2.2.2.2.2.2.2.1) SD0, w_X6 g (u.2.2.2.2.2.2.2.2.2.1) SD0, w_X6 g (u.2.2.2.2.2.2.2.2.2.2) SD0, w_X6 g (u.2.2.2.2.2.2.1) SD0, w_X3 g u.2.2.1 u.2.2.2.1 PD0].flatten]) (cs := [[w_hh g h0 u.1 u.2.2.1 (u.2.2.2.2.1) (u.2.2.2.2.2.1) (u.2.2.2.2.2.2.1) (0, -5, -5), w_X6 g (u.2.2.2.2.1) SD0, w_X6 g (u.2.2.2.2.2.1) SD0, w_hd g u.1 u.2.1 0 (u.2.2.2.2.2.2.2.1 0) (u.2.2.2.2.2.2.2.2.1 0) (u.2.2.2.2.2.2.2.2.2.1 0) (u.2.2.2.2.2.2.2.2.2.2 0), w_X6 g (u.2.2.2.2.2.2.2.1) SD0, w_X6 g (u.2.2.2.2.2.2.2.2.1) SD0, w_X6 g (u.2.2.2.2.2.2.2.2.2.1) SD0, w_X6 g (u.2.2.2.2.2.2.2.2.2.2) SD0, w_X6 g (u.2.2.2.2.2.2.1) SD0, w_X3 g u.2.2.1 u.2.2.2.1 PD0].flatten]) (rs := []) [0] 1 rfl (by decide) rfl (wc := [w_hh g h0 u.1 u.2.2.1 (u.2.2.2.2.1) (u.2.2.2.2.2.1) (u.2.2.2.2.2.2.1) (0, -5, -5), w_X6 g (u.2.2.2.2.1) SD0, w_X6 g (u.2.2.2.2.2.1) SD0, w_hd g u.1 u.2.1 0 (u.2.2.2.2.2.2.2.1 0) (u.2.2.2.2.2.2.2.2.1 0) (u.2.2.2.2.2.2.2.2.2.1 0) (u.2.2.2.2.2.2.2.2.2.2 0), w_X6 g (u.2.2.2.2.2.2.2.1) SD0, w_X6 g (u.2.2.2.2.2.2.2.2.1) SD0, w_X6 g (u.2.2.2.2.2.2.2.2.2.1) SD0, w_X6 g (u.2.2.2.2.2.2.2.2.2.2) SD0, w_X6 g (u.2.2.2.2.2.2.1) SD0, w_X3 g u.2.2.1 u.2.2.2.1 PD0].flatten) (by simp only [List.flatten_cons, List.flatten_nil, List.append_nil]))) (fun u H locs _ hP hD hS => ?_)
  obtain ⟨jH, jA, jP, jT, aN, aB, aS, A0, A1, A2, A3⟩ := u
  have hP : va_P g.1 vwCl ([w_hh g h0 jH jP aN aB aS (0, -5, -5), w_X6 g aN SD0, w_X6 g aB SD0, w_hd g jH jA ((HY0 A0 A1 A2 A3).1) ((HY0 A0 A1 A2 A3).2.1.1 0) ((HY0 A0 A1 A2 A3).2.2.1.1 0) ((HY0 A0 A1 A2 A3).2.2.2.1.1 0) ((HY0 A0 A1 A2 A3).2.2.2.2.1 0), w_X6 g (HY0 A0 A1 A2 A3).2.1.1 (HY0 A0 A1 A2 A3).2.1.2, w_X6 g (HY0 A0 A1 A2 A3).2.2.1.1 (HY0 A0 A1 A2 A3).2.2.1.2, w_X6 g (HY0 A0 A1 A2 A3).2.2.2.1.1 (HY0 A0 A1 A2 A3).2.2.2.1.2, w_X6 g (HY0 A0 A1 A2 A3).2.2.2.2.1 (HY0 A0 A1 A2 A3).2.2.2.2.2, w_X6 g aS SD0, w_X3 g jP jT PD0].flatten) H := hP
  have hD : va_D (fun q : Nat => s.heap.size ≤ q) ([w_hh g h0 jH jP aN aB aS (0, -5, -5), w_X6 g aN SD0, w_X6 g aB SD0, w_hd g jH jA ((HY0 A0 A1 A2 A3).1) ((HY0 A0 A1 A2 A3).2.1.1 0) ((HY0 A0 A1 A2 A3).2.2.1.1 0) ((HY0 A0 A1 A2 A3).2.2.2.1.1 0) ((HY0 A0 A1 A2 A3).2.2.2.2.1 0), w_X6 g (HY0 A0 A1 A2 A3).2.1.1 (HY0 A0 A1 A2 A3).2.1.2, w_X6 g (HY0 A0 A1 A2 A3).2.2.1.1 (HY0 A0 A1 A2 A3).2.2.1.2, w_X6 g (HY0 A0 A1 A2 A3).2.2.2.1.1 (HY0 A0 A1 A2 A3).2.2.2.1.2, w_X6 g (HY0 A0 A1 A2 A3).2.2.2.2.1 (HY0 A0 A1 A2 A3).2.2.2.2.2, w_X6 g aS SD0, w_X3 g jP jT PD0].flatten) := hD
  refine lv_astore_n (lv' := [(1, .ref h0), (0, .ref b)]) hx hb dL_law_7 rfl hl (by decide) rfl (fun ls hl => ?_)
  refine va_new (ci := 8) (fs := [.null, .int 0, .int 0, .null, .int 0, .int 0, .int 0, .null, .int 0, .int 0, .int 0]) (C := RX9) (T := TX9) (N := 11) hx hb htG in_wsX90 tyX9 tyX9_ok hown (htG _ g3_181) (htG _ g3_182) (htG _ g1_10) hK.1 hP hD hS hA rfl (fun j hj => by rcases (show j = 0 ∨ j = 1 ∨ j = 2 ∨ j = 3 ∨ j = 4 ∨ j = 5 ∨ j = 6 ∨ j = 7 ∨ j = 8 ∨ j = 9 ∨ j = 10 by omega) with rfl | rfl | rfl | rfl | rfl | rfl | rfl | rfl | rfl | rfl | rfl <;> rfl) (Nat.le_of_ble_eq_true rfl) (Nat.le_of_ble_eq_true rfl) dL_law_8 (fun mo H hP hD hS => ?_)
  have hP : va_P g.1 vwCl ([w_hh g h0 jH jP aN aB aS (0, -5, -5), w_X6 g aN SD0, w_X6 g aB SD0, w_hd g jH jA ((HY0 A0 A1 A2 A3).1) ((HY0 A0 A1 A2 A3).2.1.1 0) ((HY0 A0 A1 A2 A3).2.2.1.1 0) ((HY0 A0 A1 A2 A3).2.2.2.1.1 0) ((HY0 A0 A1 A2 A3).2.2.2.2.1 0), w_X6 g (HY0 A0 A1 A2 A3).2.1.1 (HY0 A0 A1 A2 A3).2.1.2, w_X6 g (HY0 A0 A1 A2 A3).2.2.1.1 (HY0 A0 A1 A2 A3).2.2.1.2, w_X6 g (HY0 A0 A1 A2 A3).2.2.2.1.1 (HY0 A0 A1 A2 A3).2.2.2.1.2, w_X6 g (HY0 A0 A1 A2 A3).2.2.2.2.1 (HY0 A0 A1 A2 A3).2.2.2.2.2, w_X6 g aS SD0, w_X3 g jP jT PD0, [(mo, .inr (8, [.null, .int 0, .int 0, .null, .int 0, .int 0, .int 0, .null, .int 0, .int 0, .int 0]))]].flatten) H := hP
  have hD : va_D (fun q : Nat => s.heap.size ≤ q) ([w_hh g h0 jH jP aN aB aS (0, -5, -5), w_X6 g aN SD0, w_X6 g aB SD0, w_hd g jH jA ((HY0 A0 A1 A2 A3).1) ((HY0 A0 A1 A2 A3).2.1.1 0) ((HY0 A0 A1 A2 A3).2.2.1.1 0) ((HY0 A0 A1 A2 A3).2.2.2.1.1 0) ((HY0 A0 A1 A2 A3).2.2.2.2.1 0), w_X6 g (HY0 A0 A1 A2 A3).2.1.1 (HY0 A0 A1 A2 A3).2.1.2, w_X6 g (HY0 A0 A1 A2 A3).2.2.1.1 (HY0 A0 A1 A2 A3).2.2.1.2, w_X6 g (HY0 A0 A1 A2 A3).2.2.2.1.1 (HY0 A0 A1 A2 A3).2.2.2.1.2, w_X6 g (HY0 A0 A1 A2 A3).2.2.2.2.1 (HY0 A0 A1 A2 A3).2.2.2.2.2, w_X6 g aS SD0, w_X3 g jP jT PD0, [(mo, .inr (8, [.null, .int 0, .int 0, .null, .int 0, .int 0, .int 0, .null, .int 0, .int 0, .int 0]))]].flatten) := hD
  refine lv_dup hx hb dL_law_11 rfl ?_
  obtain ⟨M, hm0, hI⟩ := hinit A0 A1 A2 A3
  have hq := (blkQ (bs := [w_hh g h0 jH jP aN aB aS (0, -5, -5), w_X6 g aN SD0, w_X6 g aB SD0, w_hd g jH jA ((HY0 A0 A1 A2 A3).1) ((HY0 A0 A1 A2 A3).2.1.1 0) ((HY0 A0 A1 A2 A3).2.2.1.1 0) ((HY0 A0 A1 A2 A3).2.2.2.1.1 0) ((HY0 A0 A1 A2 A3).2.2.2.2.1 0), w_X6 g (HY0 A0 A1 A2 A3).2.1.1 (HY0 A0 A1 A2 A3).2.1.2, w_X6 g (HY0 A0 A1 A2 A3).2.2.1.1 (HY0 A0 A1 A2 A3).2.2.1.2, w_X6 g (HY0 A0 A1 A2 A3).2.2.2.1.1 (HY0 A0 A1 A2 A3).2.2.2.1.2, w_X6 g (HY0 A0 A1 A2 A3).2.2.2.2.1 (HY0 A0 A1 A2 A3).2.2.2.2.2, w_X6 g aS SD0, w_X3 g jP jT PD0, [(mo, .inr (8, [.null, .int 0, .int 0, .null, .int 0, .int 0, .int 0, .null, .int 0, .int 0, .int 0]))]]) (cs := [[(mo, .inr (8, [.null, .int 0, .int 0, .null, .int 0, .int 0, .int 0, .null, .int 0, .int 0, .int 0]))]]) (rs := [w_hh g h0 jH jP aN aB aS (0, -5, -5), w_X6 g aN SD0, w_X6 g aB SD0, w_hd g jH jA ((HY0 A0 A1 A2 A3).1) ((HY0 A0 A1 A2 A3).2.1.1 0) ((HY0 A0 A1 A2 A3).2.2.1.1 0) ((HY0 A0 A1 A2 A3).2.2.2.1.1 0) ((HY0 A0 A1 A2 A3).2.2.2.2.1 0), w_X6 g (HY0 A0 A1 A2 A3).2.1.1 (HY0 A0 A1 A2 A3).2.1.2, w_X6 g (HY0 A0 A1 A2 A3).2.2.1.1 (HY0 A0 A1 A2 A3).2.2.1.2, w_X6 g (HY0 A0 A1 A2 A3).2.2.2.1.1 (HY0 A0 A1 A2 A3).2.2.2.1.2, w_X6 g (HY0 A0 A1 A2 A3).2.2.2.2.1 (HY0 A0 A1 A2 A3).2.2.2.2.2, w_X6 g aS SD0, w_X3 g jP jT PD0]) [10, 0, 1, 2, 3, 4, 5, 6, 7, 8, 9] 11 rfl (by decide) rfl (wc := [(mo, .inr (8, [.null, .int 0, .int 0, .null, .int 0, .int 0, .int 0, .null, .int 0, .int 0, .int 0]))]) rfl)
  obtain ⟨hPc, hDc⟩ := va_cut hP hD hq
  refine kw_veD (ws' := fun u : Nat → Nat => [w_hh g h0 jH jP aN aB aS (0, -5, -5), w_X6 g aN SD0, w_X6 g aB SD0, w_hd g jH jA ((HY0 A0 A1 A2 A3).1) ((HY0 A0 A1 A2 A3).2.1.1 0) ((HY0 A0 A1 A2 A3).2.2.1.1 0) ((HY0 A0 A1 A2 A3).2.2.2.1.1 0) ((HY0 A0 A1 A2 A3).2.2.2.2.1 0), w_X6 g (HY0 A0 A1 A2 A3).2.1.1 (HY0 A0 A1 A2 A3).2.1.2, w_X6 g (HY0 A0 A1 A2 A3).2.2.1.1 (HY0 A0 A1 A2 A3).2.2.1.2, w_X6 g (HY0 A0 A1 A2 A3).2.2.2.1.1 (HY0 A0 A1 A2 A3).2.2.2.1.2, w_X6 g (HY0 A0 A1 A2 A3).2.2.2.2.1 (HY0 A0 A1 A2 A3).2.2.2.2.2, w_X6 g aS SD0, w_X3 g jP jT PD0, w_X9 g mo (u 1) (u 2) (u 3) M].flatten) (va_runI (As := []) (rest := [.ref mo]) ⟨hx, hb, hml, hown, htG⟩ (kX9_init l g mo _ M hm0) (cwI 0 htG (GC g3_185) rfl rfl rfl (htG _ g1_10) (htG _ g3_183) (htG _ g3_184) rfl hi_X9 ⟨Nat.le_of_ble_eq_true rfl, Nat.le_of_ble_eq_true rfl⟩) (PW_SA (As := [.ref mo]) hK hL hS hPc hDc hA) rfl rfl hl.1 rfl (lv_room (Nat.le_of_ble_eq_true rfl)) dL_law_12 ⟨Nat.le_of_ble_eq_true rfl, Nat.le_of_ble_eq_true rfl⟩) hP hD hS hA hq (fun u => (blkQ (bs := [w_hh g h0 jH jP aN aB aS (0, -5, -5), w_X6 g aN SD0, w_X6 g aB SD0, w_hd g jH jA ((HY0 A0 A1 A2 A3).1) ((HY0 A0 A1 A2 A3).2.1.1 0) ((HY0 A0 A1 A2 A3).2.2.1.1 0) ((HY0 A0 A1 A2 A3).2.2.2.1.1 0) ((HY0 A0 A1 A2 A3).2.2.2.2.1 0), w_X6 g (HY0 A0 A1 A2 A3).2.1.1 (HY0 A0 A1 A2 A3).2.1.2, w_X6 g (HY0 A0 A1 A2 A3).2.2.1.1 (HY0 A0 A1 A2 A3).2.2.1.2, w_X6 g (HY0 A0 A1 A2 A3).2.2.2.1.1 (HY0 A0 A1 A2 A3).2.2.2.1.2, w_X6 g (HY0 A0 A1 A2 A3).2.2.2.2.1 (HY0 A0 A1 A2 A3).2.2.2.2.2, w_X6 g aS SD0, w_X3 g jP jT PD0, w_X9 g mo (u 1) (u 2) (u 3) M]) (cs := [w_X9 g mo (u 1) (u 2) (u 3) M]) (rs := [w_hh g h0 jH jP aN aB aS (0, -5, -5), w_X6 g aN SD0, w_X6 g aB SD0, w_hd g jH jA ((HY0 A0 A1 A2 A3).1) ((HY0 A0 A1 A2 A3).2.1.1 0) ((HY0 A0 A1 A2 A3).2.2.1.1 0) ((HY0 A0 A1 A2 A3).2.2.2.1.1 0) ((HY0 A0 A1 A2 A3).2.2.2.2.1 0), w_X6 g (HY0 A0 A1 A2 A3).2.1.1 (HY0 A0 A1 A2 A3).2.1.2, w_X6 g (HY0 A0 A1 A2 A3).2.2.1.1 (HY0 A0 A1 A2 A3).2.2.1.2, w_X6 g (HY0 A0 A1 A2 A3).2.2.2.1.1 (HY0 A0 A1 A2 A3).2.2.2.1.2, w_X6 g (HY0 A0 A1 A2 A3).2.2.2.2.1 (HY0 A0 A1 A2 A3).2.2.2.2.2, w_X6 g aS SD0, w_X3 g jP jT PD0]) [10, 0, 1, 2, 3, 4, 5, 6, 7, 8, 9] 11 rfl (by decide) rfl (wc := w_X9 g mo (u 1) (u 2) (u 3) M) (by simp only [List.flatten_cons, List.flatten_nil, List.append_nil]))) (fun v H locs _ hP hD hS => ?_)
  refine lv_astore_n (lv' := [(2, .ref mo), (1, .ref h0), (0, .ref b)]) hx hb dL_law_15 rfl hl (by decide) rfl (fun ls hl => ?_)
  refine lv_iconst (v := 0) hx hb dL_law_16 (by decide) ?_
  refine lv_istore_n (lv' := [(3, .int 0), (2, .ref mo), (1, .ref h0), (0, .ref b)]) hx hb dL_law_17 rfl hl (by decide) rfl (fun ls hl => ?_)
  refine W.widen (k := 600000) (n := 7302249) (Nat.le_of_ble_eq_true rfl) (Nat.le_of_ble_eq_true rfl) ?_
  exact law_loop hL0 C0 hK hL h_expect h_fund h_bid h_withdraw h_award h_trade h_done h_nextDay h_type h_clearText h_perform h_stopped h_undo h_keep h_restore h_firm h_slot h_wouldCost h_heaviest h_wind h_cheapest h_count hnop h0 jH jA jP jT aN aB aS mo (v 1) (v 2) (v 3) (L + 2) 0 ((0, -5, -5), SD0, SD0, HY0 A0 A1 A2 A3, SD0, PD0) M 0 H locs ls (by omega) (by omega) hI rfl hP hD hS (lv_sub hl [3, 2, 1, 0] rfl)
