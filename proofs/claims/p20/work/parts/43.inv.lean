/-! LAYER 2: what holds between two calls, on either side -/
def xi_sX (sn : Option xa_S) (M : xm_M) : Prop := match sn with
  | none => M 0 2 = 0
  | some B => M 0 2 = 1 ∧ xa_XS B M 35
def xi_sM (sn : Option xa_S) (N : xm_M) : Prop := match sn with
  | none => N 0 5 = 0
  | some B => N 0 5 = 1 ∧ xa_MS B (N 4) 0
def xi_X (A : xa_S) (h : Nat → xa_S) (hn ho : Nat) (sn : Option xa_S) (tx : Nat → Nat) (tl : Nat) (M : xm_M) : Prop := xa_XS A M 18 ∧ xh_X h hn ho M ∧ xi_sX sn M ∧ M 6 1 = nI tl ∧ ∀ i, i < tl → M 7 i = nI (tx i)
def xi_M (A : xa_S) (h : Nat → xa_S) (hn : Nat) (sn : Option xa_S) (tx : Nat → Nat) (tl : Nat) (N : xm_M) : Prop := xa_MS A (N 1) 0 ∧ xh_M h hn N ∧ xi_sM sn N ∧ N 0 17 = nI tl ∧ ∀ i, i < tl → N 11 i = nI (tx i)
def xi_W (A : xa_S) (h : Nat → xa_S) (hn ho : Nat) (sn : Option xa_S) (tx : Nat → Nat) (tl : Nat) : Prop := xa_WS A ∧ hn ≤ 4 ∧ ho < 4 ∧ (∀ i, i < hn → xa_WS (h i)) ∧ (∀ B, sn = some B → xa_WS B) ∧ tl ≤ 80 ∧ ∀ i, i < tl → tx i < 65536
section XI
variable {A A' : xa_S} {h : Nat → xa_S} {hn ho : Nat} {sn : Option xa_S} {tx : Nat → Nat} {tl : Nat} {M M' N N' : xm_M}
theorem xi_sX.fr (hW : ∀ B, sn = some B → xa_WS B) (hI : xi_sX sn M) (h0 : M' 0 2 = M 0 2) (hk : ∀ k, 35 ≤ k → k < 52 → M' k = M k) : xi_sX sn M' := by
  cases sn with
  | none => exact h0.trans hI
  | some B => exact ⟨h0.trans hI.1, hI.2.fr (hW B rfl).2.2.2.1 (fun k k1 k2 => hk k (by omega) (by omega))⟩
theorem xh_X.fr (hWh : ∀ i, i < hn → xa_WS (h i)) (hI : xh_X h hn ho M) (h1 : M' 4 1 = M 4 1) (h2 : M' 4 2 = M 4 2) (hk : ∀ k, 52 ≤ k → M' k = M k) : xh_X h hn ho M' :=
  ⟨h1.trans hI.1, h2.trans hI.2.1, fun i hi => (hI.2.2 i hi).fr (hWh i hi).2.2.2.1 (fun k k1 k2 => hk k (by omega))⟩
/-- what isn't read between two calls may change -/
theorem xi_X.fr (hW : xi_W A h hn ho sn tx tl) (hI : xi_X A h hn ho sn tx tl M) (h0 : M' 0 2 = M 0 2) (h4 : M' 4 = M 4) (h6 : M' 6 1 = M 6 1) (h7 : M' 7 = M 7) (hk : ∀ k, 18 ≤ k → M' k = M k) : xi_X A h hn ho sn tx tl M' := by
  obtain ⟨a1, a2, a3, a4, a5⟩ := hI
  obtain ⟨w1, w2, w3, w4, w5, w6, w7⟩ := hW
  exact ⟨a1.fr w1.2.2.2.1 (fun k k1 k2 => hk k (by omega)), a2.fr w4 (by rw [h4]) (by rw [h4]) (fun k k1 => hk k (by omega)), a3.fr w5 h0 (fun k k1 k2 => hk k (by omega)), h6.trans a4, fun i hi => by rw [h7]; exact a5 i hi⟩
theorem xi_M.fr (hI : xi_M A h hn sn tx tl N) (h3 : N' 0 3 = N 0 3) (h5 : N' 0 5 = N 0 5) (h17 : N' 0 17 = N 0 17) (r1 : N' 1 = N 1) (r3 : N' 3 = N 3) (r4 : N' 4 = N 4) (r11 : N' 11 = N 11) : xi_M A h hn sn tx tl N' := by
  obtain ⟨a1, ⟨a2, a6⟩, a3, a4, a5⟩ := hI
  refine ⟨by rw [r1]; exact a1, ⟨h3.trans a2, fun i hi => by rw [r3]; exact a6 i hi⟩, ?_, h17.trans a4, fun i hi => by rw [r11]; exact a5 i hi⟩
  cases sn with
  | none => exact h5.trans a3
  | some B => exact ⟨h5.trans a3.1, by rw [r4]; exact a3.2⟩
/-- the state that is now is exchanged -/
theorem xi_X.now (hW : xi_W A h hn ho sn tx tl) (hI : xi_X A h hn ho sn tx tl M) (hA : xa_XS A' M' 18) (hk : ∀ k, ¬ (18 ≤ k ∧ k < 35) → M' k = M k) : xi_X A' h hn ho sn tx tl M' := by
  obtain ⟨a1, a2, a3, a4, a5⟩ := hI
  obtain ⟨w1, w2, w3, w4, w5, w6, w7⟩ := hW
  have e0 := hk 0 (by omega)
  have e4 := hk 4 (by omega)
  have e6 := hk 6 (by omega)
  have e7 := hk 7 (by omega)
  exact ⟨hA, a2.fr w4 (by rw [e4]) (by rw [e4]) (fun k k1 => hk k (by omega)), a3.fr w5 (by rw [e0]) (fun k k1 k2 => hk k (by omega)), by rw [e6]; exact a4, fun i hi => by rw [e7]; exact a5 i hi⟩
/-- an act: what was goes into the history; x does so first -/
theorem xi_rec (hW : xi_W A h hn ho sn tx tl) (hI : xi_X A h hn ho sn tx tl M) {n : Nat} (hf : 60 < n) : ∃ M', f_X0_record n M 18 = some M' ∧ xi_X A (xh_push A h hn) (xh_n hn) (xh_o ho hn) sn tx tl M' ∧ ∀ k, k ≠ 4 → k < 52 → M' k = M k := by
  obtain ⟨a1, a2, a3, a4, a5⟩ := hI
  obtain ⟨w1, w2, w3, w4, w5, w6, w7⟩ := hW
  obtain ⟨M', c1, c2, c3⟩ := xp_record a1 w1 a2 w4 w2 w3 hf
  have e0 := c3 0 (by omega) (by omega)
  have e6 := c3 6 (by omega) (by omega)
  have e7 := c3 7 (by omega) (by omega)
  exact ⟨M', c1, ⟨a1.fr w1.2.2.2.1 (fun k k1 k2 => c3 k (by omega) (by omega)), c2, a3.fr w5 (by rw [e0]) (fun k k1 k2 => c3 k (by omega) (by omega)), by rw [e6]; exact a4, fun i hi => by rw [e7]; exact a5 i hi⟩, c3⟩
theorem xi_W.act (hW : xi_W A h hn ho sn tx tl) (hA : xa_WS A') : xi_W A' (xh_push A h hn) (xh_n hn) (xh_o ho hn) sn tx tl := by
  obtain ⟨w1, w2, w3, w4, w5, w6, w7⟩ := hW
  exact ⟨hA, xh_n_le hn, xh_o_lt w3, xh_push_W w1 w4, w5, w6, w7⟩
end XI
theorem xi_m2 : (-2 : Int32) = -2 := rfl
