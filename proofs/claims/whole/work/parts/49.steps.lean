/-! LAYER 2: the text: steps -/
theorem xz_c {k : Nat} (h : k < 65536) : xm_c (nI k) = true := decide_eq_true (xz_nc h)
def pR (M0 N0 : xm_M) (tx : Nat → Nat) (tl a : Nat) (M N : xm_M) : Prop := tX tx tl a M ∧ tM tx tl a N ∧ a ≤ tl ∧ (∀ k, k = 0 ∨ 4 ≤ k → k ≠ 6 → M k = M0 k) ∧ (∀ k, k ≠ 0 → k ≠ 12 → N k = N0 k) ∧ ∀ j, j ≠ 18 → j ≠ 20 → N 0 j = N0 0 j
def pQ (P : xa_P) (M N : xm_M) : Prop := xa_XP P M 1 ∧ xa_MP P (N 12) 0 ∧ N 0 20 = nI P.1.2.2.2
section PR
variable {M0 N0 M N : xm_M} {tx : Nat → Nat} {tl a : Nat} {P : xa_P}
theorem pR.to (h : pR M0 N0 tx tl a M N) {b : Nat} (hb : b ≤ tl) : pR M0 N0 tx tl b (xm_up M 6 2 (nI b)) (xm_up N 0 18 (nI b)) := by
  obtain ⟨h1, h2, h3, h4, h5, h6⟩ := h
  exact ⟨h1.to b, h2.to b, hb, fun k hk k6 => by rw [xm_up_r _ _ k6]; exact h4 k hk k6, fun k k1 k2 => by rw [xm_up_r _ _ k1]; exact h5 k k1 k2, fun j j1 j2 => by rw [xm_up_j _ _ j1]; exact h6 j j1 j2⟩
theorem pR.x (h : pR M0 N0 tx tl a M N) {r : Nat} (hr : r = 1 ∨ r = 2 ∨ r = 3) (j : Nat) (v : Int32) : pR M0 N0 tx tl a (xm_up M r j v) N := by
  obtain ⟨⟨g1, g2, g3⟩, h2, h3, h4, h5, h6⟩ := h
  exact ⟨⟨by rw [xm_up_k _ _ (by omega)]; exact g1, by rw [xm_up_k _ _ (by omega)]; exact g2, fun i hi => by rw [xm_up_k _ _ (by omega)]; exact g3 i hi⟩, h2, h3, fun k hk k6 => by rw [xm_up_r _ _ (by omega)]; exact h4 k hk k6, h5, h6⟩
theorem pR.m (h : pR M0 N0 tx tl a M N) (j : Nat) (v : Int32) : pR M0 N0 tx tl a M (xm_up N 12 j v) := by
  obtain ⟨h1, ⟨g1, g2, g3⟩, h3, h4, h5, h6⟩ := h
  exact ⟨h1, ⟨by rw [xm_up_k _ _ (by omega)]; exact g1, by rw [xm_up_k _ _ (by omega)]; exact g2, fun i hi => by rw [xm_up_k _ _ (by omega)]; exact g3 i hi⟩, h3, h4, fun k k1 k2 => by rw [xm_up_r _ _ k2]; exact h5 k k1 k2, fun j j1 j2 => by rw [xm_up_k _ _ (by omega)]; exact h6 j j1 j2⟩
theorem pR.m2 (h : pR M0 N0 tx tl a M N) (v : Int32) : pR M0 N0 tx tl a M (xm_up N 0 20 v) := by
  obtain ⟨h1, ⟨g1, g2, g3⟩, h3, h4, h5, h6⟩ := h
  exact ⟨h1, ⟨by rw [xm_up_j _ _ (by omega)]; exact g1, by rw [xm_up_j _ _ (by omega)]; exact g2, fun i hi => by rw [xm_up_k _ _ (by omega)]; exact g3 i hi⟩, h3, h4, fun k k1 k2 => by rw [xm_up_r _ _ k1]; exact h5 k k1 k2, fun j j1 j2 => by rw [xm_up_j _ _ j2]; exact h6 j j1 j2⟩
theorem pQ.to (h : pQ P M N) (v w : Int32) : pQ P (xm_up M 6 2 v) (xm_up N 0 18 w) := by
  obtain ⟨h1, h2, h3⟩ := h
  exact ⟨h1.fr (fun k k1 k2 => xm_up_r _ _ (by omega)), by rw [xm_up_r _ _ (by omega)]; exact h2, by rw [xm_up_j _ _ (by omega)]; exact h3⟩
theorem tx_next (htx : ∀ i, i < tl → tx i < 65536) (htl : tl ≤ 80) (h : tX tx tl a M) (ha : a ≤ tl) {n : Nat} : f_X5_next n M = some (if a < tl then nI (tx a) else 0, M) := by
  obtain ⟨h1, h2, h3⟩ := h
  unfold f_X5_next
  rw [h1, h2]
  by_cases hl : a < tl
  · rw [if_neg (mt (xz_le (by omega) (by omega)).mp (by omega)), xz_ci (show a < 80 by omega) (by omega), xz_cl (by omega), h3 a hl, xz_c (htx a hl), xz_ct, if_pos hl]
  · rw [if_pos ((xz_le (by omega) (by omega)).mpr (by omega)), if_neg hl]
end PR
/-- a pattern with one step more -/
def pA (P : xa_P) (c : Nat) : xa_P := ((P.1.1, P.1.2.1, P.1.2.2.1 + 1, P.1.2.2.2 + (if c < 8 then 1 else 0)), fun i => if i = P.1.2.2.1 then c else P.2 i)
abbrev pL (P : xa_P) : Prop := 0 < P.1.2.2.1 ∧ P.2 (P.1.2.2.1 - 1) < 8
def pJ (P : xa_P) : Prop := P.1.2.2.1 ≤ 2 * P.1.2.2.2 ∧ (pL P → P.1.2.2.1 + 1 ≤ 2 * P.1.2.2.2) ∧ P.1.2.2.2 ≤ 4 ∧ (P.1.2.2.2 ≤ P.1.2.2.1 ∧ (0 < P.1.2.2.1 → P.2 0 < 8)) ∧ P.1.2.2.2 = xa_ct P.2 P.1.2.2.1 ∧ ∀ i, i < P.1.2.2.1 → P.2 i < 16
theorem xa_ctc {f g : Nat → Nat} : ∀ n, (∀ i, i < n → f i = g i) → xa_ct f n = xa_ct g n
  | 0, _ => rfl
  | n + 1, h => by rw [xa_ct, xa_ct, xa_ctc n (fun i hi => h i (by omega)), h n (by omega)]
theorem pJ.add {P : xa_P} (h : pJ P) {c : Nat} (hc : c < 16) (h1 : c < 8 → P.1.2.2.2 < 4) (h2 : 8 ≤ c → pL P) : pJ (pA P c) := by
  obtain ⟨g1, g2, g3, g4, g5, g6⟩ := h
  have e1 : (pA P c).1.2.2.1 = P.1.2.2.1 + 1 := rfl
  have e2 : (pA P c).1.2.2.2 = P.1.2.2.2 + (if c < 8 then 1 else 0) := rfl
  have e3 : ∀ i, (pA P c).2 i = if i = P.1.2.2.1 then c else P.2 i := fun i => rfl
  have ec : (pA P c).1.2.2.2 = xa_ct (pA P c).2 (pA P c).1.2.2.1 := by
    rw [e1, e2, xa_ct, e3, if_pos rfl, xa_ctc (g := P.2) _ (fun i hi => by rw [e3, if_neg (by omega)]), ← g5]
  refine ⟨?_, ?_, ?_, ?_, ec, fun i hi => ?_⟩
  · rw [e1, e2]
    by_cases q : c < 8
    · rw [if_pos q]; omega
    · rw [if_neg q]
      have := g2 (h2 (by omega))
      omega
  · intro ⟨_, q2⟩
    rw [e1, e3, if_pos (by omega)] at q2
    rw [e1, e2, if_pos q2]
    omega
  · rw [e2]
    by_cases q : c < 8
    · rw [if_pos q]
      have := h1 q
      omega
    · rw [if_neg q]; omega
  · refine ⟨by rw [e1, e2]; split <;> omega, fun _ => ?_⟩
    rw [e3]
    by_cases q : 0 = P.1.2.2.1
    · rw [if_pos q]
      rcases Nat.lt_or_ge c 8 with g | g
      · exact g
      · have := (h2 g).1
        omega
    · rw [if_neg q]
      exact g4.2 (by omega)
  · rw [e3]
    by_cases q : i = P.1.2.2.1
    · rw [if_pos q]; exact hc
    · rw [if_neg q]
      rw [e1] at hi
      exact g6 i (by omega)
theorem pk_ends {P : xa_P} {M : xm_M} (h : xa_XP P M 1) (hJ : pJ P) (h8 : P.1.2.2.1 ≤ 8) {n : Nat} : f_X2_endsWithPlainStep n M 1 = some (if pL P then 1 else 0, M) := by
  obtain ⟨h0, h1, h2, h3, h4⟩ := h
  unfold f_X2_endsWithPlainStep
  rw [h2]
  by_cases q0 : P.1.2.2.1 = 0
  · rw [if_pos ((xz_lec (c := 0) 0 rfl (by omega) (by omega)).mpr (by omega)), if_neg (fun q => by have := q.1; omega)]
  · obtain ⟨s, hs⟩ : ∃ s, P.1.2.2.1 = s + 1 := ⟨P.1.2.2.1 - 1, by omega⟩
    have e := (h4 s (by omega)).2
    have w := hJ.2.2.2.2.2 s (by omega)
    rw [if_neg (mt (xz_lec (c := 0) 0 rfl (by omega) (by omega)).mp (by omega)), if_neg (mt (xz_clt (c := 8) 8 rfl (by omega) (by omega)).mp (by omega)), show nI P.1.2.2.1 = nI (s + 1) from congrArg nI hs, nI_pred, xz_ci (show s < 8 by omega) (by omega), xz_cl (by omega), e]
    by_cases q : P.2 s < 8
    · rw [if_pos ((xz_ec (c := 0) 0 rfl (by omega) (by omega)).mpr (by omega)), if_pos ⟨by omega, by rw [hs]; exact q⟩]
    · rw [if_neg (mt (xz_ec (c := 0) 0 rfl (by omega) (by omega)).mp (by omega)), if_neg (fun t => q (by have := t.2; rw [hs] at this; exact this))]
theorem xz_31 (s : Nat) : (3 : Int32) + nI s = nI (3 + s) := nI_add 3 s
theorem pk_absent {P : xa_P} {N : xm_M} (h : xa_MP P (N 12) 0) (hJ : pJ P) (h8 : P.1.2.2.1 ≤ 8) {n : Nat} : f_X7_isBehindAbsent n N = some (if 0 < P.1.2.2.1 ∧ ¬ pL P then 1 else 0, N) := by
  obtain ⟨h0, h1, h2, h3⟩ := h
  have h2' : N 12 2 = nI P.1.2.2.1 := h2
  unfold f_X7_isBehindAbsent
  rw [xz_i6, xz_ct, xz_ct, xz_t2, h2']
  by_cases q0 : P.1.2.2.1 = 0
  · rw [if_pos ((xz_lec (c := 0) 0 rfl (by omega) (by omega)).mpr (by omega)), if_neg (fun q => by have := q.1; omega)]
  · obtain ⟨s, hs⟩ : ∃ s, P.1.2.2.1 = s + 1 := ⟨P.1.2.2.1 - 1, by omega⟩
    have e := h3 s (by omega)
    rw [Nat.zero_add] at e
    have w := hJ.2.2.2.2.2 s (by omega)
    have e9 : nI (3 + (s + 1)) - 1 = nI (3 + s) := nI_pred (3 + s)
    rw [if_neg (mt (xz_lec (c := 0) 0 rfl (by omega) (by omega)).mp (by omega)), show nI P.1.2.2.1 = nI (s + 1) from congrArg nI hs, xz_31, e9, xz_ci (show 3 + s < 11 by omega) (by omega), xz_cl (by omega), e]
    by_cases q : P.2 s < 8
    · rw [if_pos ((xz_ltc (c := 8) 8 rfl (by omega) (by omega)).mpr (by omega)), if_neg (fun t => t.2 ⟨by omega, by rw [hs]; exact q⟩)]
    · rw [if_neg (mt (xz_ltc (c := 8) 8 rfl (by omega) (by omega)).mp (by omega)), if_pos ⟨by omega, fun t => q (by have := t.2; rw [hs] at this; exact this)⟩]
section PK
variable {M0 N0 M N : xm_M} {tx : Nat → Nat} {tl a : Nat} {P : xa_P}
/-- what a step's end is, on both sides -/
def pE (M0 N0 : xm_M) (tx : Nat → Nat) (tl : Nat) (P : xa_P) (X Y : Option (Int32 × xm_M)) : Prop := ∃ M' N' a', pR M0 N0 tx tl a' M' N' ∧ ((X = some (0, M') ∧ Y = some (0, N')) ∨ ∃ c, c < 16 ∧ (c < 8 → P.1.2.2.2 < 4) ∧ (8 ≤ c → pL P) ∧ X = some (1, M') ∧ Y = some (1, N') ∧ pQ (pA P c) M' N')
theorem pk_kind (htl : tl ≤ 80) (htx : ∀ i, i < tl → tx i < 65536) (h : pR M0 N0 tx tl a M N) (hQ : pQ P M N) (hJ : pJ P) {f : Nat} (hf : f = 0 ∨ f = 1) (hf0 : f = 0 → P.1.2.2.2 < 4) (hf1 : f = 1 → pL P) {n : Nat} : pE M0 N0 tx tl P (f_X5_takesStep_47 n M 1 (nI f)) (f_X7_readsStep_55 n N (nI f)) := by
  have h9 := h
  have hQ9 := hQ
  obtain ⟨hx, hm, ha, -, -, -⟩ := h
  obtain ⟨q1, q2, q3⟩ := hQ
  have e1 : f_X7_isHere n N 97 104 = some (tb (decide (a < tl ∧ 97 ≤ tx a ∧ tx a ≤ 104)), N) := tm_here htl htx (lo := 97) (hi := 104) hm ha (by omega) (by omega)
  have h7 : P.1.2.2.1 ≤ 7 := by
    have := hJ.1
    have := hJ.2.2.1
    rcases hf with q | q
    · have := hf0 q; omega
    · have := hJ.2.1 (hf1 q); omega
  unfold f_X5_takesStep_47 f_X7_readsStep_55
  rw [tx_next htx htl hx ha, xz_b2, e1, xz_b2]
  by_cases hk : a < tl ∧ 97 ≤ tx a ∧ tx a ≤ 104
  · obtain ⟨k1, k2, k3⟩ := hk
    obtain ⟨k, hk8, ek⟩ : ∃ k, k < 8 ∧ tx a = 97 + k := ⟨tx a - 97, by omega, by omega⟩
    have e2 : f_X6_isKind n M (nI (tx a)) = some (1, M) := by
      unfold f_X6_isKind
      rw [if_neg (mt (xz_ltc (c := 97) 97 rfl (by omega) (by omega)).mp (by omega)), if_neg (mt (xz_clt (c := 104) 104 rfl (by omega) (by omega)).mp (by omega))]
    have e3 : f_X2_hasRoomForStep n M 1 = some (1, M) := by
      unfold f_X2_hasRoomForStep
      rw [q1.2.2.1, if_neg (mt (xz_cle (c := 8) 8 rfl (by omega) (by omega)).mp (by omega))]
    have e4 : (if nI f = 0 then if N 0 20 = 4 then some ((0 : Int32), N) else f_X7_readsStep_80 n N (nI f) else f_X7_readsStep_80 n N (nI f)) = f_X7_readsStep_80 n N (nI f) := by
      by_cases g : nI f = 0
      · have g0 : f = 0 := (xz_ec (c := 0) 0 rfl (by omega) (by omega)).mp g
        have := hf0 g0
        rw [if_pos g, q3, if_neg (mt (xz_ec (c := 4) 4 rfl (by omega) (by omega)).mp (by omega))]
      · rw [if_neg g]
    rw [if_pos k1, e2, xz_b2, if_neg xz_10, e3, xz_b2, if_neg xz_10, decide_eq_true ⟨k1, k2, k3⟩]
    show pE M0 N0 tx tl P _ (if (1 : Int32) = 0 then _ else _)
    rw [if_neg xz_10, e4]
    unfold f_X2_addStep f_X7_readsStep_80
    rw [e3, xz_b2, if_neg xz_10, q1.2.2.1, xz_ci (show P.1.2.2.1 < 8 by omega) (by omega), xz_cl (by omega), ek, xz_nc (by omega), xz_nz f (by omega)]
    have x12 : ∀ j v, xm_up M (1 + 1) j v 1 2 = nI P.1.2.2.1 := fun j v => by rw [xm_up_k _ _ (by omega)]; exact q1.2.2.1
    simp only [x12, xz_ci (show P.1.2.2.1 < 8 by omega) (show 8 ≤ 1000 by omega), xz_cl (show P.1.2.2.1 < 2 ^ 31 by omega), xz_lt, xz_b1]
    obtain ⟨c, hc⟩ : ∃ c, c = k + 8 * f := ⟨_, rfl⟩
    have hc1 : 97 + c % 8 = 97 + k := by omega
    have hc2 : c / 8 = f := by omega
    have n12 : ∀ v, xm_up N 0 20 v 12 2 = nI P.1.2.2.1 := fun v => by rw [xm_up_k _ _ (by omega)]; exact q2.2.2.1
    have n11 : ∀ v, xm_up N 0 20 v 11 a = nI (97 + k) := fun v => by rw [xm_up_k _ _ (by omega), hm.2.2 a k1, ek]
    have n18 : ∀ v, xm_up N 0 20 v 0 18 = nI a := fun v => by rw [xm_up_j _ _ (by omega)]; exact hm.2.1
    have n97 : nI (97 + k) - 97 = nI k := by
      rw [show (97 : Int32) = nI 97 from rfl, pk_sub (by omega), show 97 + k - 97 = k by omega]
    have key : ∀ v : Int32, v = nI (pA P c).1.2.2.2 → ∀ M2 : xm_M, (∀ i, i ≠ 2 → i ≠ 3 → M2 1 i = M 1 i) → M2 1 2 = nI (P.1.2.2.1 + 1) → M2 1 3 = nI (pA P c).1.2.2.2 → M2 2 = xm_up M 2 P.1.2.2.1 (nI (97 + k)) 2 → M2 3 = xm_up M 3 P.1.2.2.1 (nI f) 3 → (∀ r, r ≠ 1 → r ≠ 2 → r ≠ 3 → M2 r = M r) → pE M0 N0 tx tl P (some (1, xm_up M2 6 2 (M2 6 2 + 1))) (some (1, xm_up (xm_up (xm_up (xm_up N 0 20 v) 12 (3 + P.1.2.2.1) (nI c)) 12 2 (nI (P.1.2.2.1 + 1))) 0 18 (nI (a + 1)))) := by
      intro v hv M2 m1 m2 m3 m4 m5 m6
      have r0 : pR M0 N0 tx tl a M2 (xm_up (xm_up (xm_up N 0 20 v) 12 (3 + P.1.2.2.1) (nI c)) 12 2 (nI (P.1.2.2.1 + 1))) := by
        obtain ⟨⟨t1, t2, t3⟩, t4, t5, t6, t7⟩ := ((h9.m2 v).m (3 + P.1.2.2.1) (nI c)).m 2 (nI (P.1.2.2.1 + 1))
        exact ⟨⟨by rw [m6 6 (by omega) (by omega) (by omega)]; exact t1, by rw [m6 6 (by omega) (by omega) (by omega)]; exact t2, fun i hi => by rw [m6 7 (by omega) (by omega) (by omega)]; exact t3 i hi⟩, t4, t5, fun r hr r6 => by rw [m6 r (by omega) (by omega) (by omega)]; exact t6 r hr r6, t7⟩
      have s6 : M2 6 2 = nI a := r0.1.2.1
      rw [s6, nI_1]
      refine ⟨_, _, a + 1, r0.to (b := a + 1) k1, Or.inr ⟨c, by omega, fun g => hf0 (by omega), fun g => hf1 (by omega), rfl, rfl, ?_⟩⟩
      refine pQ.to (P := pA P c) ⟨⟨?_, ?_, m2, m3, fun i hi => ?_⟩, ⟨?_, ?_, ?_, fun i hi => ?_⟩, ?_⟩ _ _
      · rw [m1 0 (by omega) (by omega)]; exact q1.1
      · rw [m1 1 (by omega) (by omega)]; exact q1.2.1
      · have hi2 : i < P.1.2.2.1 + 1 := hi
        show M2 2 i = nI (97 + (if i = P.1.2.2.1 then c else P.2 i) % 8) ∧ M2 3 i = nI ((if i = P.1.2.2.1 then c else P.2 i) / 8)
        rw [m4, m5]
        by_cases g : i = P.1.2.2.1
        · rw [if_pos g, g, xm_up_s, xm_up_s, hc1, hc2]
          exact ⟨rfl, rfl⟩
        · rw [if_neg g, xm_up_j _ _ g, xm_up_j _ _ g]
          exact q1.2.2.2.2 i (by omega)
      · rw [xm_up_j _ _ (by omega), xm_up_j _ _ (by omega), xm_up_k _ _ (by omega)]; exact q2.1
      · rw [xm_up_j _ _ (by omega), xm_up_j _ _ (by omega), xm_up_k _ _ (by omega)]; exact q2.2.1
      · rw [xm_up_s]; rfl
      · have hi2 : i < P.1.2.2.1 + 1 := hi
        show _ = nI (if i = P.1.2.2.1 then c else P.2 i)
        rw [xm_up_j _ _ (by omega)]
        by_cases g : i = P.1.2.2.1
        · rw [if_pos g, g, Nat.zero_add, xm_up_s]
        · rw [if_neg g, xm_up_j _ _ (by omega), xm_up_k _ _ (by omega)]
          exact q2.2.2.2 i (by omega)
      · rw [xm_up_k _ _ (by omega), xm_up_k _ _ (by omega), xm_up_s, hv]
    rcases hf with rfl | rfl
    · have hp := hf0 rfl
      have e5 : (pA P c).1.2.2.2 = P.1.2.2.2 + 1 := by
        show P.1.2.2.2 + (if c < 8 then 1 else 0) = _
        rw [if_pos (by omega)]
      have c0 : nI k + 0 = nI c := by rw [xz_a0]; exact congrArg nI (by omega)
      rw [show nI 0 = (0 : Int32) from rfl, if_pos rfl, if_pos rfl, if_pos rfl, q3, nI_1, xz_i6, xz_ct, xz_t2, n12, n18, xz_31, xz_ci (show a < 80 by omega) (by omega), xz_ci (show 3 + P.1.2.2.1 < 11 by omega) (by omega), xz_cl (by omega), xz_cl (by omega), n11, n97, c0, xz_ct, xz_ct, xm_up_j _ _ (show 2 ≠ 3 + P.1.2.2.1 by omega), n12, nI_1, xm_up_k _ _ (show 0 ≠ 12 by omega), xm_up_k _ _ (show 0 ≠ 12 by omega), n18, nI_1]
      simp only [xz_b1]
      refine key _ (by rw [e5]) _ (fun i i2 i3 => ?_) ?_ ?_ ?_ ?_ (fun r r1 r2 r3 => ?_)
      · rw [xm_up_j _ _ i3, xm_up_j _ _ i2, xm_up_k _ _ (by omega), xm_up_k _ _ (by omega)]
      · rw [xm_up_j _ _ (by omega), xm_up_s, xm_up_k _ _ (by omega), xm_up_k _ _ (by omega), q1.2.2.1, nI_1]
      · rw [xm_up_s, xm_up_j _ _ (by omega), xm_up_k _ _ (by omega), xm_up_k _ _ (by omega), q1.2.2.2.1, nI_1, e5]
      · rw [xm_up_r _ _ (by omega), xm_up_r _ _ (by omega), xm_up_r _ _ (by omega)]
      · rw [xm_up_r _ _ (by omega), xm_up_r _ _ (by omega)]
        funext i
        rw [xm_up_ap, xm_up_k M _ (show 3 ≠ 1 + 1 by omega), xm_up_ap M 3]
        rfl
      · rw [xm_up_r _ _ r1, xm_up_r _ _ r1, xm_up_r _ _ r3, xm_up_r _ _ r2]
    · have e5 : (pA P c).1.2.2.2 = P.1.2.2.2 := by
        show P.1.2.2.2 + (if c < 8 then 1 else 0) = _
        rw [if_neg (by omega)]
        rfl
      have c1 : nI k + 8 = nI c := by
        rw [show (8 : Int32) = nI 8 from rfl, nI_add]
        exact congrArg nI (by omega)
      rw [show nI 1 = (1 : Int32) from rfl, if_neg xz_10, if_neg xz_10, if_neg xz_10, q3, xz_a0, xz_i6, xz_ct, xz_t2, n12, n18, xz_31, xz_ci (show a < 80 by omega) (by omega), xz_ci (show 3 + P.1.2.2.1 < 11 by omega) (by omega), xz_cl (by omega), xz_cl (by omega), n11, n97, c1, xz_ct, xz_ct, xm_up_j _ _ (show 2 ≠ 3 + P.1.2.2.1 by omega), n12, nI_1, xm_up_k _ _ (show 0 ≠ 12 by omega), xm_up_k _ _ (show 0 ≠ 12 by omega), n18, nI_1]
      simp only [xz_b1]
      refine key _ (by rw [e5]) _ (fun i i2 i3 => ?_) ?_ ?_ ?_ ?_ (fun r r1 r2 r3 => ?_)
      · rw [xm_up_j _ _ i2, xm_up_k _ _ (by omega), xm_up_k _ _ (by omega)]
      · rw [xm_up_s, xm_up_k _ _ (by omega), xm_up_k _ _ (by omega), q1.2.2.1, nI_1]
      · rw [xm_up_j _ _ (by omega), xm_up_k _ _ (by omega), xm_up_k _ _ (by omega), q1.2.2.2.1, e5]
      · rw [xm_up_r _ _ (by omega), xm_up_r _ _ (by omega)]
      · rw [xm_up_r _ _ (by omega)]
        funext i
        rw [xm_up_ap, xm_up_k M _ (show 3 ≠ 1 + 1 by omega), xm_up_ap M 3]
        rfl
      · rw [xm_up_r _ _ r1, xm_up_r _ _ r3, xm_up_r _ _ r2]
  · have e2 : f_X6_isKind n M (if a < tl then nI (tx a) else 0) = some (0, M) := by
      unfold f_X6_isKind
      by_cases hl : a < tl
      · have := htx a hl
        rw [if_pos hl]
        by_cases g : tx a < 97
        · rw [if_pos ((xz_ltc (c := 97) 97 rfl (by omega) (by omega)).mpr g)]
        · rw [if_neg (mt (xz_ltc (c := 97) 97 rfl (by omega) (by omega)).mp g), if_pos ((xz_clt (c := 104) 104 rfl (by omega) (by omega)).mpr (by omega))]
      · rw [if_neg hl, if_pos (by decide)]
    rw [e2, xz_b2, if_pos rfl, decide_eq_false hk]
    exact ⟨M, N, a, h9, Or.inl ⟨rfl, rfl⟩⟩
end PK
