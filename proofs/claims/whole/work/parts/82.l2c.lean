/-! the relation of a class' state x and the reference's row S at base B: c bounds the purses, N is the next half hour, D the day -/
def nsum (f : Nat → Nat) : Nat → Nat
  | 0 => 0
  | n + 1 => nsum f n + f n
def pos1n (v : Int32) : Nat := if v ≤ 0 then 0 else 1
def cntB (bo : AF) : Nat := nsum (fun f => nsum (fun k => pos1n (bo (f * 48 + k))) 48) 6
def RW (exp blw : AF) (S : AF) (B : Nat) : Prop := ∀ h, h < 16 → blw h = S (B + 819 + h) ∧ exp h = S (B + 35 + h) ∧ ∃ w : Nat, w ≤ 99 ∧ exp h = nI w
def RB (x : BD) (P : Nat → Prop) (S : AF) (B : Nat) : Prop := ∀ f k, f < 6 → k < 48 → x.1 (f * 48 + k) = S (B + 243 + 6 * k + f) ∧ x.2 (f * 48 + k) = S (B + 531 + 6 * k + f) ∧ ∃ o w : Nat, o ≤ 999 ∧ x.2 (f * 48 + k) = nI o ∧ x.1 (f * 48 + k) = nI w ∧ (0 < o → 1 ≤ w ∧ w ≤ 20 + 20 * (k / 16)) ∧ (P k → o = 0 ∧ w = 0)
def RS (x : LD) (P : Nat → Prop) (S : AF) (B : Nat) : Prop := ∀ k, k < 48 → x.2.1 k = S (B + 99 + k) ∧ x.2.2.1 k = S (B + 147 + k) ∧ (∃ p : Nat, p ≤ 999 ∧ x.2.2.1 k = nI p) ∧ ((x.1 k = -5 ∧ S (B + 51 + k) = -1) ∨ ∃ f w : Nat, f < 6 ∧ x.1 k = nI f ∧ S (B + 51 + k) = nI f ∧ x.2.1 k = nI w ∧ 1 ≤ w ∧ w ≤ 20 + 20 * (k / 16)) ∧ (P k → ∃ r : Nat, r ≤ 3 ∧ x.2.2.2 k = nI r ∧ S (B + 195 + k) = nI r) ∧ (¬ P k → S (B + 195 + k) = -1)
/-- what a firm offers in all -/
def ofB (bo : AF) (f : Nat) : Nat := nsum (fun k => (bo (f * 48 + k)).toNatClampNeg) 48
def RF (x : FD) (bo : AF) (c : Nat) (S : AF) (B : Nat) : Prop := ∀ f, f < 6 → x.1 f = S (B + 2 + f) ∧ x.2.1 f = S (B + 8 + f) ∧ x.2.2.1 f = S (B + 14 + f) ∧ x.2.2.2 f = S (B + 20 + f) ∧ ∃ p : Nat, p ≤ c ∧ x.1 f = nI p ∧ ofB bo f ≤ p
def RT (x : TD) (S : AF) (B : Nat) : Prop := x.1 1 = S (B + 27) ∧ x.1 2 = S (B + 28) ∧ x.1 3 = S (B + 29) ∧ x.2.1 = S (B + 30) ∧ x.2.2.1 = S (B + 31) ∧ x.2.2.2.1 = S (B + 32) ∧ x.2.2.2.2.1 = S (B + 33) ∧ x.2.2.2.2.2.1 = S (B + 26) ∧ x.2.2.2.2.2.2 = S (B + 34)
def RD (x : SD) (N D : Nat) (S : AF) (B : Nat) : Prop := x.1 = nI D ∧ S B = nI D ∧ D ≤ 999 ∧ x.2.1 = nI N ∧ S (B + 1) = nI N ∧ N ≤ 16
/-- P: the slots whose half hour is done; blw: the blown winds -/
def RM (c N D : Nat) (P : Nat → Prop) (blw : AF) (x : SD) (S : AF) (B : Nat) : Prop := RD x N D S B ∧ RW x.2.2.1 blw S B ∧ RB x.2.2.2.2.1 P S B ∧ cntB x.2.2.2.2.1.2 ≤ 60 ∧ RS x.2.2.2.2.2.1 P S B ∧ RF x.2.2.2.2.2.2.1 x.2.2.2.2.1.2 c S B ∧ RT x.2.2.2.2.2.2.2 S B
def RR (c N D : Nat) (x : SD) (S : AF) (B : Nat) : Prop := RM c N D (fun k => k % 16 < N) x.2.2.2.1 x S B
/-- outside of its row nothing is changed -/
def Out (S S' : AF) (B : Nat) : Prop := ∀ i, (i < B ∨ B + 835 ≤ i) → S' i = S i
theorem RW.to {exp blw S S' : AF} {B B' : Nat} (h : RW exp blw S B) (e : ∀ j, j < 16 → S' (B' + 819 + j) = S (B + 819 + j) ∧ S' (B' + 35 + j) = S (B + 35 + j)) : RW exp blw S' B' := fun j hj => by
  obtain ⟨h1, h2, h3⟩ := h j hj
  exact ⟨by rw [(e j hj).1]; exact h1, by rw [(e j hj).2]; exact h2, h3⟩
theorem RB.to {x : BD} {P : Nat → Prop} {S S' : AF} {B B' : Nat} (h : RB x P S B) (e : ∀ f k, f < 6 → k < 48 → S' (B' + 243 + 6 * k + f) = S (B + 243 + 6 * k + f) ∧ S' (B' + 531 + 6 * k + f) = S (B + 531 + 6 * k + f)) : RB x P S' B' := fun f k hf hk => by
  obtain ⟨h1, h2, h3⟩ := h f k hf hk
  exact ⟨by rw [(e f k hf hk).1]; exact h1, by rw [(e f k hf hk).2]; exact h2, h3⟩
theorem RS.to {x : LD} {P : Nat → Prop} {S S' : AF} {B B' : Nat} (h : RS x P S B) (e : ∀ k, k < 48 → S' (B' + 51 + k) = S (B + 51 + k) ∧ S' (B' + 99 + k) = S (B + 99 + k) ∧ S' (B' + 147 + k) = S (B + 147 + k) ∧ S' (B' + 195 + k) = S (B + 195 + k)) : RS x P S' B' := fun k hk => by
  obtain ⟨h1, h2, h3, h4, h5, h6⟩ := h k hk
  obtain ⟨e1, e2, e3, e4⟩ := e k hk
  exact ⟨by rw [e2]; exact h1, by rw [e3]; exact h2, h3, by rw [e1]; exact h4, by rw [e4]; exact h5, by rw [e4]; exact h6⟩
theorem RF.to {x : FD} {bo : AF} {c c' : Nat} {S S' : AF} {B B' : Nat} (h : RF x bo c S B) (hc : c ≤ c') (e : ∀ f, f < 6 → S' (B' + 2 + f) = S (B + 2 + f) ∧ S' (B' + 8 + f) = S (B + 8 + f) ∧ S' (B' + 14 + f) = S (B + 14 + f) ∧ S' (B' + 20 + f) = S (B + 20 + f)) : RF x bo c' S' B' := fun f hf => by
  obtain ⟨h1, h2, h3, h4, h5, h6, h7⟩ := h f hf
  obtain ⟨e1, e2, e3, e4⟩ := e f hf
  exact ⟨by rw [e1]; exact h1, by rw [e2]; exact h2, by rw [e3]; exact h3, by rw [e4]; exact h4, h5, by omega, h7⟩
theorem RT.to {x : TD} {S S' : AF} {B B' : Nat} (h : RT x S B) (e : ∀ j, 26 ≤ j → j ≤ 34 → S' (B' + j) = S (B + j)) : RT x S' B' := by
  obtain ⟨h1, h2, h3, h4, h5, h6, h7, h8, h9⟩ := h
  refine ⟨?_, ?_, ?_, ?_, ?_, ?_, ?_, ?_, ?_⟩ <;> rw [e _ (by omega) (by omega)] <;> assumption
theorem RD.to {x : SD} {N D : Nat} {S S' : AF} {B B' : Nat} (h : RD x N D S B) (e0 : S' B' = S B) (e1 : S' (B' + 1) = S (B + 1)) : RD x N D S' B' := ⟨h.1, by rw [e0]; exact h.2.1, h.2.2.1, h.2.2.2.1, by rw [e1]; exact h.2.2.2.2.1, h.2.2.2.2.2⟩
/-- the same row elsewhere -/
theorem RM.to {c c' N D : Nat} {P : Nat → Prop} {blw : AF} {x : SD} {S S' : AF} {B B' : Nat} (h : RM c N D P blw x S B) (hc : c ≤ c') (e : ∀ j, j < 835 → S' (B' + j) = S (B + j)) : RM c' N D P blw x S' B' := by
  obtain ⟨h1, h2, h3, h4, h5, h6, h7⟩ := h
  have e' : ∀ a j, a + j < 835 → S' (B' + a + j) = S (B + a + j) := fun a j hj => by rw [Nat.add_assoc, Nat.add_assoc]; exact e _ hj
  have e2 : ∀ a k f, a + 6 * k + f < 835 → S' (B' + a + 6 * k + f) = S (B + a + 6 * k + f) := fun a k f hj => by
    rw [show B' + a + 6 * k + f = B' + (a + 6 * k + f) by omega, show B + a + 6 * k + f = B + (a + 6 * k + f) by omega]; exact e _ hj
  exact ⟨h1.to (e 0 (by omega)) (e 1 (by omega)), h2.to (fun j hj => ⟨e' _ _ (by omega), e' _ _ (by omega)⟩), h3.to (fun f k hf hk => ⟨e2 _ _ _ (by omega), e2 _ _ _ (by omega)⟩), h4, h5.to (fun k hk => ⟨e' _ _ (by omega), e' _ _ (by omega), e' _ _ (by omega), e' _ _ (by omega)⟩), h6.to hc (fun f hf => ⟨e' _ _ (by omega), e' _ _ (by omega), e' _ _ (by omega), e' _ _ (by omega)⟩), h7.to (fun j h1 h2 => e j (by omega))⟩
/-! bids of a slot are gone -/
def clrS (S : AF) (B K : Nat) : Nat → AF
  | 0 => S
  | n + 1 => upd (upd (clrS S B K n) (B + 243 + 6 * K + n) 0) (B + 531 + 6 * K + n) 0
theorem clrS_out {S : AF} {B K i : Nat} : ∀ {n : Nat}, (∀ f, f < n → i ≠ B + 243 + 6 * K + f ∧ i ≠ B + 531 + 6 * K + f) → clrS S B K n i = S i
  | 0, _ => rfl
  | n + 1, h => by
    unfold clrS
    rw [upd_n (h n (by omega)).2, upd_n (h n (by omega)).1]
    exact clrS_out (fun f hf => h f (by omega))
theorem clrS_in {S : AF} {B K : Nat} : ∀ {n : Nat}, n ≤ 6 → ∀ f, f < n → clrS S B K n (B + 243 + 6 * K + f) = 0 ∧ clrS S B K n (B + 531 + 6 * K + f) = 0
  | 0, _, f, hf => absurd hf (by omega)
  | n + 1, hn, f, hf => by
    unfold clrS
    by_cases h : f = n
    · subst h
      rw [upd_n (by omega), upd_s, upd_s]
      exact ⟨rfl, rfl⟩
    · rw [upd_n (by omega), upd_n (by omega), upd_n (by omega), upd_n (by omega)]
      exact clrS_in (by omega) f (by omega)
theorem mm_clears (M : MD) {B K : Nat} (hB : B + 835 ≤ 5845) (hK : K < 48) : fX9_clears M (nI B) (nI K) = some (clrS M.1 B K 6, M.2) := by
  unfold fX9_clears
  have h := lpN (fun fu k => fX9_clears_L0 (nI B) (nI K) fu (nI k) (clrS M.1 B K k, M.2)) 6 _ (fun fu k hk => by
    show fX9_clears_L0 (nI B) (nI K) (fu + 1) _ _ = _
    have e1 : ((nI B + 243) + (6 * nI K)) + nI k = nI (B + 243 + 6 * K + k) := ix6 B 243 K k
    have e2 : ((nI B + 531) + (6 * nI K)) + nI k = nI (B + 531 + 6 * K + k) := ix6 B 531 K k
    rw [fX9_clears_L0, if_neg (nle6 hk), e1, e2]
    simp only [bnd]
    rw [if_pos (ib_nI (by omega) (by omega)), if_pos (ib_nI (by omega) (by omega)), nI_clamp (by omega), nI_clamp (by omega), nI_1]
    rfl) (fun fu => by
    show fX9_clears_L0 (nI B) (nI K) (fu + 1) _ _ = _
    rw [fX9_clears_L0, if_pos ler6]) 1000 0 (by omega) (by omega)
  have h2 : fX9_clears_L0 (nI B) (nI K) 1000 0 M = some (clrS M.1 B K 6, M.2) := h
  rw [h2]
  rfl
def rmS (x : BD) (K : Nat) : Nat → BD
  | 0 => x
  | n + 1 => (upd (rmS x K n).1 (n * 48 + K) 0, upd (rmS x K n).2 (n * 48 + K) 0)
theorem rmS_out {x : BD} {K i : Nat} : ∀ {n : Nat}, (∀ f, f < n → i ≠ f * 48 + K) → (rmS x K n).1 i = x.1 i ∧ (rmS x K n).2 i = x.2 i
  | 0, _ => ⟨rfl, rfl⟩
  | n + 1, h => by
    unfold rmS
    show upd _ _ _ _ = _ ∧ upd _ _ _ _ = _
    rw [upd_n (h n (by omega)), upd_n (h n (by omega))]
    exact rmS_out (fun f hf => h f (by omega))
theorem rmS_in {x : BD} {K : Nat} : ∀ {n : Nat}, ∀ f, f < n → (rmS x K n).1 (f * 48 + K) = 0 ∧ (rmS x K n).2 (f * 48 + K) = 0
  | 0, f, hf => absurd hf (by omega)
  | n + 1, f, hf => by
    unfold rmS
    show upd _ _ _ _ = _ ∧ upd _ _ _ _ = _
    by_cases h : f = n
    · subst h
      rw [upd_s, upd_s]
      exact ⟨rfl, rfl⟩
    · rw [upd_n (by omega), upd_n (by omega)]
      exact rmS_in f (by omega)
theorem set_nI (x : BD) {f K : Nat} (hf : f < 6) (hK : K < 48) (w o : Int32) : fX0_set x (nI f) (nI K) w o = (upd x.1 (f * 48 + K) w, upd x.2 (f * 48 + K) o) := by
  unfold fX0_set
  rw [cell_nI, rput_nI (by omega) (by omega), rput_nI (by omega) (by omega)]
theorem cc_removeAll (x : BD) {K : Nat} (hK : K < 48) : fX0_removeAll x (nI K) = some (rmS x K 6) := by
  unfold fX0_removeAll
  have h := lpN (fun fu k => fX0_removeAll_L0 (nI K) fu (nI k) (rmS x K k)) 6 _ (fun fu k hk => by
    show fX0_removeAll_L0 (nI K) (fu + 1) _ _ = _
    rw [fX0_removeAll_L0, if_neg (nle6 hk), set_nI _ hk hK, nI_1]
    rfl) (fun fu => by
    show fX0_removeAll_L0 (nI K) (fu + 1) _ _ = _
    rw [fX0_removeAll_L0, if_pos ler6]) 1000 0 (by omega) (by omega)
  have h2 : fX0_removeAll_L0 (nI K) 1000 0 x = some (rmS x K 6) := h
  rw [h2]
  rfl
theorem nsum_le {f h : Nat → Nat} : ∀ {n : Nat}, (∀ j, j < n → f j ≤ h j) → nsum f n ≤ nsum h n
  | 0, _ => Nat.le_refl _
  | n + 1, e => by
    unfold nsum
    have h1 := nsum_le (n := n) (fun j hj => e j (by omega))
    have h2 := e n (by omega)
    omega
theorem nsum_congr {f h : Nat → Nat} : ∀ {n : Nat}, (∀ j, j < n → f j = h j) → nsum f n = nsum h n
  | 0, _ => rfl
  | n + 1, e => by
    unfold nsum
    rw [nsum_congr (fun j hj => e j (by omega)), e n (by omega)]
theorem cnt_rm (x : BD) (K : Nat) (hK : K < 48) : cntB (rmS x K 6).2 ≤ cntB x.2 := by
  unfold cntB
  refine nsum_le (fun f hf => nsum_le (fun k hk => ?_))
  by_cases h : k = K
  · subst h
    rw [(rmS_in f hf).2]
    exact Nat.zero_le _
  · rw [(rmS_out (i := f * 48 + k) (fun f' hf' => by omega)).2]
    exact Nat.le_refl _
/-- the bids of a slot are gone on both sides -/
theorem RB_clr {x : BD} {P : Nat → Prop} {S : AF} {B K : Nat} (h : RB x P S B) (hK : K < 48) : RB (rmS x K 6) P (clrS S B K 6) B := fun f k hf hk => by
  obtain ⟨h1, h2, o, w, h3, h4, h5, h6, h7⟩ := h f k hf hk
  by_cases e : k = K
  · subst e
    rw [(rmS_in f hf).1, (rmS_in f hf).2, (clrS_in (by omega) f hf).1, (clrS_in (by omega) f hf).2]
    exact ⟨rfl, rfl, 0, 0, by omega, rfl, rfl, fun q => absurd q (by omega), fun _ => ⟨rfl, rfl⟩⟩
  · have e1 := rmS_out (x := x) (K := K) (i := f * 48 + k) (n := 6) (fun f' hf' => by omega)
    rw [e1.1, e1.2, clrS_out (fun f' hf' => by omega), clrS_out (fun f' hf' => by omega)]
    exact ⟨h1, h2, o, w, h3, h4, h5, h6, h7⟩
