/-! LAYER 2: the text: steps -/
theorem xz_c {k : Nat} (h : k < 65536) : xm_c (nI k) = true := decide_eq_true (xz_nc h)
def pR (M0 N0 : xm_M) (tx : Nat → Nat) (tl a : Nat) (M N : xm_M) : Prop := tX tx tl a M ∧ tM tx tl a N ∧ a ≤ tl ∧ (∀ k, k = 0 ∨ 4 ≤ k → k ≠ 6 → M k = M0 k) ∧ (∀ k, k ≠ 0 → k ≠ 12 → N k = N0 k) ∧ ∀ j, j ≠ 18 → j ≠ 20 → N 0 j = N0 0 j
def pQ (P : xa_P) (M N : xm_M) : Prop := xa_XP P M 1 ∧ xa_MP P (N 12) 0 ∧ N 0 20 = nI P.1.2.2.2
section PR
variable {M0 N0 M N : xm_M} {tx : Nat → Nat} {tl a : Nat} {P : xa_P}
theorem pR.to (h : pR M0 N0 tx tl a M N) {b : Nat} (hb : b ≤ tl) : pR M0 N0 tx tl b (xm_up M 6 2 (nI b)) (xm_up N 0 18 (nI b)) := by
  obtain ⟨h1, h2, h3, h4, h5, h6⟩ := h
  exact ⟨h1.to b, h2.to b, hb, fun k hk k6 => by rw [xm_up_r _ _ k6]; exact h4 k hk k6, fun k k1 k2 => by rw [xm_up_r _ _ k1]; exact h5 k k1 k2, fun j j1 j2 => by rw [xm_up_j _ _ j1]; exact h6 j j1 j2⟩
theorem pR.x (h : pR M0 N0 tx tl a M N) {r : Nat} (hr : r = 1 ∨ r = 2 ∨ r = 3) (j : Nat) (v : Int32) : pR M0 N0 tx tl a (xm_up M r j v) N := by
  obtain ⟨⟨g1, g2, g3⟩, h2, h3, h4, h5, h6⟩ := h
  exact ⟨⟨by rw [xm_up_k _ _ (by omega)]; exact g1, by rw [xm_up_k _ _ (by omega)]; exact g2, fun i hi => by rw [xm_up_k _ _ (by omega)]; exact g3 i hi⟩, h2, h3, fun k hk k6 => by rw [xm_up_r _ _ (by omega)]; exact h4 k hk k6, h5, h6⟩
theorem pR.m (h : pR M0 N0 tx tl a M N) (j : Nat) (v : Int32) : pR M0 N0 tx tl a M (xm_up N 12 j v) := by
  obtain ⟨h1, ⟨g1, g2, g3⟩, h3, h4, h5, h6⟩ := h
  exact ⟨h1, ⟨by rw [xm_up_k _ _ (by omega)]; exact g1, by rw [xm_up_k _ _ (by omega)]; exact g2, fun i hi => by rw [xm_up_k _ _ (by omega)]; exact g3 i hi⟩, h3, h4, fun k k1 k2 => by rw [xm_up_r _ _ k2]; exact h5 k k1 k2, fun j j1 j2 => by rw [xm_up_k _ _ (by omega)]; exact h6 j j1 j2⟩
theorem pR.m2 (h : pR M0 N0 tx tl a M N) (v : Int32) : pR M0 N0 tx tl a M (xm_up N 0 20 v) := by
  obtain ⟨h1, ⟨g1, g2, g3⟩, h3, h4, h5, h6⟩ := h
  exact ⟨h1, ⟨by rw [xm_up_j _ _ (by omega)]; exact g1, by rw [xm_up_j _ _ (by omega)]; exact g2, fun i hi => by rw [xm_up_k _ _ (by omega)]; exact g3 i hi⟩, h3, h4, fun k k1 k2 => by rw [xm_up_r _ _ k1]; exact h5 k k1 k2, fun j j1 j2 => by rw [xm_up_j _ _ j2]; exact h6 j j1 j2⟩
theorem pQ.to (h : pQ P M N) (v w : Int32) : pQ P (xm_up M 6 2 v) (xm_up N 0 18 w) := by
  obtain ⟨h1, h2, h3⟩ := h
  exact ⟨h1.fr (fun k k1 k2 => xm_up_r _ _ (by omega)), by rw [xm_up_r _ _ (by omega)]; exact h2, by rw [xm_up_j _ _ (by omega)]; exact h3⟩
theorem tx_next (htx : ∀ i, i < tl → tx i < 65536) (htl : tl ≤ 80) (h : tX tx tl a M) (ha : a ≤ tl) {n : Nat} : f_X5_next n M = some (if a < tl then nI (tx a) else 0, M) := by
  obtain ⟨h1, h2, h3⟩ := h
  unfold f_X5_next
  rw [h1, h2]
  by_cases hl : a < tl
  · rw [if_neg (mt (xz_le (by omega) (by omega)).mp (by omega)), xz_ci (show a < 80 by omega) (by omega), xz_cl (by omega), h3 a hl, xz_c (htx a hl), xz_ct, if_pos hl]
  · rw [if_pos ((xz_le (by omega) (by omega)).mpr (by omega)), if_neg hl]
end PR
/-- a pattern with one step more -/
def pA (P : xa_P) (c : Nat) : xa_P := ((P.1.1, P.1.2.1, P.1.2.2.1 + 1, P.1.2.2.2 + (if c < 8 then 1 else 0)), fun i => if i = P.1.2.2.1 then c else P.2 i)
abbrev pL (P : xa_P) : Prop := 0 < P.1.2.2.1 ∧ P.2 (P.1.2.2.1 - 1) < 8
def pJ (P : xa_P) : Prop := P.1.2.2.1 ≤ 2 * P.1.2.2.2 ∧ (pL P → P.1.2.2.1 + 1 ≤ 2 * P.1.2.2.2) ∧ P.1.2.2.2 ≤ 4 ∧ (P.1.2.2.2 ≤ P.1.2.2.1 ∧ (0 < P.1.2.2.1 → P.2 0 < 8)) ∧ P.1.2.2.2 = xa_ct P.2 P.1.2.2.1 ∧ ∀ i, i < P.1.2.2.1 → P.2 i < 16
theorem xa_ctc {f g : Nat → Nat} : ∀ n, (∀ i, i < n → f i = g i) → xa_ct f n = xa_ct g n
  | 0, _ => rfl
  | n + 1, h => by rw [xa_ct, xa_ct, xa_ctc n (fun i hi => h i (by omega)), h n (by omega)]
theorem pJ.add {P : xa_P} (h : pJ P) {c : Nat} (hc : c < 16) (h1 : c < 8 → P.1.2.2.2 < 4) (h2 : 8 ≤ c → pL P) : pJ (pA P c) := by
  obtain ⟨g1, g2, g3, g4, g5, g6⟩ := h
  have e1 : (pA P c).1.2.2.1 = P.1.2.2.1 + 1 := rfl
  have e2 : (pA P c).1.2.2.2 = P.1.2.2.2 + (if c < 8 then 1 else 0) := rfl
  have e3 : ∀ i, (pA P c).2 i = if i = P.1.2.2.1 then c else P.2 i := fun i => rfl
  have ec : (pA P c).1.2.2.2 = xa_ct (pA P c).2 (pA P c).1.2.2.1 := by
    rw [e1, e2, xa_ct, e3, if_pos rfl, xa_ctc (g := P.2) _ (fun i hi => by rw [e3, if_neg (by omega)]), ← g5]
  refine ⟨?_, ?_, ?_, ?_, ec, fun i hi => ?_⟩
  · rw [e1, e2]
    by_cases q : c < 8
    · rw [if_pos q]; omega
    · rw [if_neg q]
      have := g2 (h2 (by omega))
      omega
  · intro ⟨_, q2⟩
    rw [e1, e3, if_pos (by omega)] at q2
    rw [e1, e2, if_pos q2]
    omega
  · rw [e2]
    by_cases q : c < 8
    · rw [if_pos q]
      have := h1 q
      omega
    · rw [if_neg q]; omega
  · refine ⟨by rw [e1, e2]; split <;> omega, fun _ => ?_⟩
    rw [e3]
    by_cases q : 0 = P.1.2.2.1
    · rw [if_pos q]
      rcases Nat.lt_or_ge c 8 with g | g
      · exact g
      · have := (h2 g).1
        omega
    · rw [if_neg q]
      exact g4.2 (by omega)
  · rw [e3]
    by_cases q : i = P.1.2.2.1
    · rw [if_pos q]; exact hc
    · rw [if_neg q]
      rw [e1] at hi
      exact g6 i (by omega)
theorem pk_ends {P : xa_P} {M : xm_M} (h : xa_XP P M 1) (hJ : pJ P) (h8 : P.1.2.2.1 ≤ 8) {n : Nat} : f_X2_endsWithPlainStep n M 1 = some (if pL P then 1 else 0, M) := by
  obtain ⟨h0, h1, h2, h3, h4⟩ := h
  unfold f_X2_endsWithPlainStep
  rw [h2]
  by_cases q0 : P.1.2.2.1 = 0
  · rw [if_pos ((xz_lec (c := 0) 0 rfl (by omega) (by omega)).mpr (by omega)), if_neg (fun q => by have := q.1; omega)]
  · obtain ⟨s, hs⟩ : ∃ s, P.1.2.2.1 = s + 1 := ⟨P.1.2.2.1 - 1, by omega⟩
    have e := (h4 s (by omega)).2
    have w := hJ.2.2.2.2.2 s (by omega)
    rw [if_neg (mt (xz_lec (c := 0) 0 rfl (by omega) (by omega)).mp (by omega)), if_neg (mt (xz_clt (c := 8) 8 rfl (by omega) (by omega)).mp (by omega)), show nI P.1.2.2.1 = nI (s + 1) from congrArg nI hs, nI_pred, xz_ci (show s < 8 by omega) (by omega), xz_cl (by omega), e]
    by_cases q : P.2 s < 8
    · rw [if_pos ((xz_ec (c := 0) 0 rfl (by omega) (by omega)).mpr (by omega)), if_pos ⟨by omega, by rw [hs]; exact q⟩]
    · rw [if_neg (mt (xz_ec (c := 0) 0 rfl (by omega) (by omega)).mp (by omega)), if_neg (fun t => q (by have := t.2; rw [hs] at this; exact this))]
theorem xz_31 (s : Nat) : (3 : Int32) + nI s = nI (3 + s) := nI_add 3 s
section PK
variable {M0 N0 M N : xm_M} {tx : Nat → Nat} {tl a : Nat} {P : xa_P}
/-- what a step's end is, on both sides -/
def pE (M0 N0 : xm_M) (tx : Nat → Nat) (tl : Nat) (P : xa_P) (X Y : Option (Int32 × xm_M)) : Prop := ∃ M' N' a', pR M0 N0 tx tl a' M' N' ∧ ((X = some (0, M') ∧ Y = some (0, N')) ∨ ∃ c, c < 16 ∧ (c < 8 → P.1.2.2.2 < 4) ∧ (8 ≤ c → pL P) ∧ X = some (1, M') ∧ Y = some (1, N') ∧ pQ (pA P c) M' N')
end PK
