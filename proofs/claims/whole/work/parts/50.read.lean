/-! LAYER 2: the text is read -/
section PS
variable {M0 N0 M N : xm_M} {tx : Nat → Nat} {tl a : Nat} {P : xa_P}
theorem p55 (htl : tl ≤ 80) (htx : ∀ i, i < tl → tx i < 65536) (hm : tM tx tl a N) (ha : a ≤ tl) (h : ¬ (a < tl ∧ 97 ≤ tx a ∧ tx a ≤ 104) ∨ N 0 20 = 4) {n : Nat} : f_X7_readsStep_55 n N 0 = some (0, N) := by
  have e1 : f_X7_isHere n N 97 104 = some (tb (decide (a < tl ∧ 97 ≤ tx a ∧ tx a ≤ 104)), N) := tm_here htl htx (lo := 97) (hi := 104) hm ha (by omega) (by omega)
  unfold f_X7_readsStep_55
  rw [e1, xz_b2]
  by_cases hk : a < tl ∧ 97 ≤ tx a ∧ tx a ≤ 104
  · rw [decide_eq_true hk]
    show (if (1 : Int32) = 0 then _ else _) = _
    rw [if_neg xz_10, if_pos rfl, if_pos (h.resolve_left (fun q => q hk))]
  · rw [decide_eq_false hk]
    rfl
theorem p29 (htl : tl ≤ 80) (htx : ∀ i, i < tl → tx i < 65536) (hm : tM tx tl a N) (ha : a ≤ tl) (hQ : pQ P M N) (hJ : pJ P) (h : ¬ (a < tl ∧ tx a = 110) ∨ ¬ pL P) {n : Nat} : f_X7_readsStep n N = f_X7_readsStep_55 n N 0 := by
  have h8 : P.1.2.2.1 ≤ 8 := by have := hJ.1; have := hJ.2.2.1; omega
  have h2 : N 12 2 = nI P.1.2.2.1 := hQ.2.1.2.2.1
  have e1 : f_X7_takes n N 110 = _ := tm_takes htl htx (c := 110) (n := n) hm ha (by omega)
  unfold f_X7_readsStep f_X7_readsStep_29
  rw [xz_i6, xz_ct, xz_t2, h2, pk_absent hQ.2.1 hJ h8, xz_b2]
  by_cases q0 : P.1.2.2.1 = 0
  · rw [if_pos ((xz_lec (c := 0) 0 rfl (by omega) (by omega)).mpr (by omega))]
  · rw [if_neg (mt (xz_lec (c := 0) 0 rfl (by omega) (by omega)).mp (by omega))]
    by_cases q1 : pL P
    · rw [if_neg (show ¬ (0 < P.1.2.2.1 ∧ ¬ pL P) from fun t => t.2 q1), if_pos rfl, e1, if_neg (h.resolve_right (fun q => q q1)), xz_b2, if_pos rfl]
    · rw [if_pos (show 0 < P.1.2.2.1 ∧ ¬ pL P from ⟨by omega, q1⟩), if_neg xz_10]
theorem p_step (htl : tl ≤ 80) (htx : ∀ i, i < tl → tx i < 65536) (h : pR M0 N0 tx tl a M N) (hQ : pQ P M N) (hJ : pJ P) {n : Nat} (hn : 10 < n) : pE M0 N0 tx tl P (f_X5_takesStep n M 1) (f_X7_readsStep n N) := by
  have h8 : P.1.2.2.1 ≤ 8 := by have := hJ.1; have := hJ.2.2.1; omega
  unfold f_X5_takesStep
  rw [tx_next htx htl h.1 h.2.2.1, xz_b2, pk_ends hQ.1 hJ h8, xz_b2, hQ.1.2.2.2.1]
  by_cases hb : a < tl ∧ tx a = 110
  · rw [if_pos hb.1, if_pos (show nI (tx a) = 110 by rw [hb.2]; rfl)]
    by_cases hl : pL P
    · have e0 : f_X5_takesWord n M 4 = _ := tx_word htl htx (k := 4) (by omega) [110, 111, 32] 0 M a n rfl (by omega) h.1 h.2.2.1 (by simp; omega)
      have h2 : N 12 2 = nI P.1.2.2.1 := hQ.2.1.2.2.1
      have e1 : f_X7_takes n N 110 = _ := tm_takes htl htx (c := 110) (n := n) h.2.1 h.2.2.1 (by omega)
      have e2 : f_X7_takes n (xm_up N 0 18 (nI (a + 1))) 111 = _ := tm_takes htl htx (c := 111) (n := n) (h.2.1.to (a + 1)) hb.1 (by omega)
      have hL0 := hl.1
      rw [if_pos hl, if_neg xz_10, e0, xz_b2]
      unfold f_X7_readsStep
      rw [xz_i6, xz_ct, xz_t2, h2, if_neg (mt (xz_lec (c := 0) 0 rfl (by omega) (by omega)).mp (by omega)), pk_absent hQ.2.1 hJ h8, xz_b2, if_neg (show ¬ (0 < P.1.2.2.1 ∧ ¬ pL P) from fun t => t.2 hl), if_pos rfl, e1, if_pos hb, xz_b2, if_neg xz_10, e2, tk, if_pos hb, tk]
      by_cases b1 : a + 1 < tl ∧ tx (a + 1) = 111
      · have e3 : f_X7_takes n (xm_up (xm_up N 0 18 (nI (a + 1))) 0 18 (nI (a + 2))) 32 = _ := tm_takes htl htx (c := 32) (n := n) ((h.2.1.to (a + 1)).to (a + 2)) b1.1 (by omega)
        rw [if_pos b1, if_pos b1, xz_b2, if_neg xz_10, e3, tk]
        by_cases b2 : a + 1 + 1 < tl ∧ tx (a + 1 + 1) = 32
        · rw [if_pos b2, if_pos b2, xz_b2, if_neg xz_10, tk, xm_up_up, xm_up_up]
          show pE M0 N0 tx tl P (if (1 : Int32) = 0 then _ else _) _
          rw [if_neg xz_10]
          exact pk_kind htl htx (h.to (b := a + 3) b2.1) (hQ.to _ _) hJ (f := 1) (Or.inr rfl) (fun q => absurd q (by omega)) (fun _ => hl)
        · rw [if_neg b2, if_neg b2, xz_b2, if_pos rfl, xm_up_up]
          exact ⟨_, _, a + 2, h.to (b := a + 2) b1.1, Or.inl ⟨rfl, rfl⟩⟩
      · rw [if_neg b1, if_neg b1, xz_b2, if_pos rfl]
        exact ⟨_, _, a + 1, h.to (b := a + 1) hb.1, Or.inl ⟨rfl, rfl⟩⟩
    · rw [if_neg hl, if_pos rfl, p29 htl htx h.2.1 h.2.2.1 hQ hJ (Or.inr hl), p55 htl htx h.2.1 h.2.2.1 (Or.inl (by omega))]
      exact ⟨M, N, a, h, Or.inl ⟨rfl, rfl⟩⟩
  · rw [p29 htl htx h.2.1 h.2.2.1 hQ hJ (Or.inl hb)]
    have e9 : ¬ (if a < tl then nI (tx a) else 0) = 110 := by
      by_cases hl : a < tl
      · have := htx a hl
        rw [if_pos hl]
        exact mt (xz_ec (c := 110) 110 rfl (by omega) (by omega)).mp (fun q => hb ⟨hl, q⟩)
      · rw [if_neg hl]
        decide
    have hp4 := hJ.2.2.1
    rw [if_neg e9]
    by_cases hp : P.1.2.2.2 < 4
    · rw [if_pos ((xz_ltc (c := 4) 4 rfl (by omega) (by omega)).mpr hp)]
      exact pk_kind htl htx h hQ hJ (f := 0) (Or.inl rfl) (fun _ => hp) (fun q => absurd q (by omega))
    · rw [if_neg (mt (xz_ltc (c := 4) 4 rfl (by omega) (by omega)).mp hp), p55 htl htx h.2.1 h.2.2.1 (Or.inr (by rw [hQ.2.2]; exact congrArg nI (show P.1.2.2.2 = 4 by omega)))]
      exact ⟨M, N, a, h, Or.inl ⟨rfl, rfl⟩⟩
/-- what the end of the whole text's reading is -/
def pF (M0 N0 : xm_M) (tx : Nat → Nat) (tl : Nat) (P : xa_P) (X Y : Option (Int32 × xm_M)) : Prop := ∃ M' N' a', pR M0 N0 tx tl a' M' N' ∧ ((X = some (0, M') ∧ Y = some (nI a', N')) ∨ (X = some (1, M') ∧ Y = some (-5, N') ∧ ∃ P', pQ P' M' N' ∧ pJ P' ∧ pL P' ∧ 2 ≤ P'.1.2.2.1 ∧ P'.1.1 = P.1.1 ∧ P'.1.2.1 = P.1.2.1))
theorem p_last (h : pR M0 N0 tx tl a M N) (hQ : pQ P M N) (hJ : pJ P) (hs : 0 < P.1.2.2.1) (he : a = tl) {n n2 : Nat} : pF M0 N0 tx tl P (xm_b2 (f_X2_endsWithPlainStep n M 1) (fun r12 M11 => if r12 = 0 then some (0, M11) else if (M11 1 2) ≤ 1 then some (0, M11) else some (1, M11))) (f_X7_fault_59 (n2 + 1) N 0) := by
  have h8 : P.1.2.2.1 ≤ 8 := by have := hJ.1; have := hJ.2.2.1; omega
  have htl : tl < 2 ^ 31 ∨ True := Or.inr trivial
  have e0 : N 0 18 = nI a := h.2.1.2.1
  have e1 : N 0 17 = nI tl := h.2.1.1
  have l1 := hJ.2.1
  have l4 := hJ.2.2.2.1.1
  have l3 := hJ.2.2.1
  rw [f_X7_fault_59, if_pos rfl, e0, e1, he, if_neg (fun q => absurd q (by rw [Int32.lt_iff_toInt_lt]; omega)), hQ.2.2, pk_ends hQ.1 hJ h8, xz_b2, hQ.1.2.2.1, pk_absent hQ.2.1 hJ h8, xz_b2, e0, he]
  have hF : ∀ X Y, X = some ((0 : Int32), M) → Y = some (nI tl, N) → pF M0 N0 tx tl P X Y := fun X Y hX hY => ⟨M, N, a, h, Or.inl ⟨hX, by rw [he]; exact hY⟩⟩
  by_cases hl : pL P
  · have l5 := l1 hl
    rw [if_pos hl, if_neg xz_10, if_neg (show ¬ (0 < P.1.2.2.1 ∧ ¬ pL P) from fun t => t.2 hl), if_pos rfl]
    by_cases h2 : 2 ≤ P.1.2.2.1
    · rw [if_neg (mt (xz_lec (c := 1) 1 rfl (by omega) (by omega)).mp (by omega)), if_neg (mt (xz_ltc (c := 2) 2 rfl (by omega) (by omega)).mp (by omega))]
      exact ⟨M, N, a, h, Or.inr ⟨rfl, rfl, P, hQ, hJ, hl, h2, rfl, rfl⟩⟩
    · rw [if_pos ((xz_lec (c := 1) 1 rfl (by omega) (by omega)).mpr (by omega)), if_pos ((xz_ltc (c := 2) 2 rfl (by omega) (by omega)).mpr (by omega))]
      exact hF _ _ rfl rfl
  · rw [if_neg hl, if_pos rfl, if_pos (show 0 < P.1.2.2.1 ∧ ¬ pL P from ⟨hs, hl⟩), if_neg xz_10]
    refine hF _ _ rfl ?_
    split <;> rfl
theorem p_steps (htl : tl ≤ 80) (htx : ∀ i, i < tl → tx i < 65536) : ∀ (d : Nat) (P : xa_P) (M N : xm_M) (a n : Nat), pR M0 N0 tx tl a M N → pQ P M N → pJ P → 9 ≤ P.1.2.2.1 + d → d + 20 < n → pF M0 N0 tx tl P (f_X5_takesSteps_2 n M 1 (nI P.1.2.2.1)) (f_X7_fault_59 n N 1)
  | 0, P, M, N, a, n, h, hQ, hJ, hd, hn => by
    have := hJ.1
    have := hJ.2.2.1
    omega
  | d + 1, P, M, N, a, n, h, hQ, hJ, hd, hn => by
    have h8 : P.1.2.2.1 ≤ 8 := by have := hJ.1; have := hJ.2.2.1; omega
    obtain ⟨n, rfl⟩ : ∃ q, n = q + 2 := ⟨n - 2, by omega⟩
    rw [f_X5_takesSteps_2, f_X7_fault_59, if_neg (mt (xz_clt (c := 8) 8 rfl (by omega) (by omega)).mp (by omega)), if_neg xz_10]
    obtain ⟨M', N', a', r, hE⟩ := p_step htl htx h hQ hJ (n := n + 1) (by omega)
    rcases hE with ⟨e1, e2⟩ | ⟨c, hc, hc1, hc2, e1, e2, hQ'⟩
    · rw [e1, e2, xz_b2, xz_b2, if_pos rfl, if_pos rfl, r.2.1.2.1]
      exact ⟨M', N', a', r, Or.inl ⟨rfl, rfl⟩⟩
    · have hJ' := hJ.add hc hc1 hc2
      have ra := r.2.2.1
      have f0 : f_X5_takesWord (n + 1) M' 5 = _ := tx_word htl htx (k := 5) (by omega) [44, 32] 0 M' a' (n + 1) rfl (by omega) r.1 ra (by simp; omega)
      have f1 : f_X7_takes (n + 1) N' 44 = _ := tm_takes htl htx (c := 44) (n := n + 1) r.2.1 ra (by omega)
      rw [e1, e2, xz_b2, xz_b2, if_neg xz_10, if_neg xz_10, r.1.2.1, r.1.1, f0, f1]
      by_cases hl : a' < tl
      · rw [if_pos ((xz_l (by omega) (by omega)).mpr hl), xz_b2, tk]
        by_cases b1 : a' < tl ∧ tx a' = 44
        · have f2 : f_X7_takes (n + 1) (xm_up N' 0 18 (nI (a' + 1))) 32 = _ := tm_takes htl htx (c := 32) (n := n + 1) (r.2.1.to (a' + 1)) b1.1 (by omega)
          rw [if_pos b1, if_pos b1, xz_b2, if_neg xz_10, f2, tk]
          by_cases b2 : a' + 1 < tl ∧ tx (a' + 1) = 32
          · rw [if_pos b2, if_pos b2, xz_b2, if_neg xz_10, tk, xm_up_up, nI_1]
            show pF M0 N0 tx tl P (if (1 : Int32) = 0 then _ else _) _
            rw [if_neg xz_10]
            obtain ⟨M2, N2, a2, r2, hE2⟩ := p_steps htl htx d (pA P c) _ _ (a' + 2) (n + 1) (r.to (b := a' + 2) b2.1) (hQ'.to _ _) hJ' (by show 9 ≤ P.1.2.2.1 + 1 + d; omega) (by omega)
            exact ⟨M2, N2, a2, r2, hE2⟩
          · rw [if_neg b2, if_neg b2, xz_b2, if_pos rfl, xm_up_s]
            exact ⟨_, _, a' + 1, r.to (b := a' + 1) b1.1, Or.inl ⟨rfl, rfl⟩⟩
        · rw [if_neg b1, if_neg b1, xz_b2, if_pos rfl, f_X7_fault_59, if_pos rfl, r.2.1.2.1, r.2.1.1, if_pos ((xz_l (by omega) (by omega)).mpr hl)]
          refine ⟨_, _, a', r, Or.inl ⟨?_, rfl⟩⟩
          show some ((0 : Int32), xm_up M' 6 2 (nI a')) = _
          rw [xm_up_same r.1.2.1]
      · rw [if_neg (mt (xz_l (by omega) (by omega)).mp hl), if_neg (fun q => hl q.1), xz_b2, if_pos rfl]
        obtain ⟨M2, N2, a2, r2, hE2⟩ := p_last r hQ' hJ' (by show 0 < P.1.2.2.1 + 1; omega) (by omega) (n := n + 1) (n2 := n)
        exact ⟨M2, N2, a2, r2, hE2⟩
/-- the window: digits behind a first one -/
def pW (M0 N0 : xm_M) (tx : Nat → Nat) (tl : Nat) (M N : xm_M) (X Y : Option (Int32 × xm_M)) : Prop := ∃ M' N' a' w, pR M0 N0 tx tl a' M' N' ∧ 1 ≤ w ∧ w ≤ 1000 ∧ Y = some (1, N') ∧ N' 12 0 = nI w ∧ (∀ j, j ≠ 0 → N' 12 j = N 12 j) ∧ N' 0 20 = N 0 20 ∧ (∀ j, j ≠ 0 → M' 1 j = M 1 j) ∧ ((X = some (1, M') ∧ M' 1 0 = nI w) ∨ (X = some (0, M') ∧ a' < tl ∧ tx a' ≠ 32))
theorem xz_dig {w t : Nat} (hw : w ≤ 1000) (ht : 48 ≤ t) (ht2 : t ≤ 57) : nI w * 10 + (nI t - 48) = nI (10 * w + (t - 48)) ∧ 10 * nI w + nI t - 48 = nI (10 * w + (t - 48)) := by
  have e1 : nI t - 48 = nI (t - 48) := by
    rw [show (48 : Int32) = nI 48 from rfl, pk_sub (by omega)]
  have e2 : nI w * 10 = nI (10 * w) := by
    rw [show (10 : Int32) = nI 10 from rfl, pk_mul, Nat.mul_comm]
  have e3 : 10 * nI w = nI (10 * w) := by
    rw [show (10 : Int32) = nI 10 from rfl, pk_mul]
  refine ⟨by rw [e1, e2, nI_add], ?_⟩
  rw [e3, nI_add, show (48 : Int32) = nI 48 from rfl, pk_sub (by omega)]
  exact congrArg nI (by omega)
theorem p_win (htl : tl ≤ 80) (htx : ∀ i, i < tl → tx i < 65536) : ∀ (d w : Nat) (M N : xm_M) (a n m : Nat), pR M0 N0 tx tl a M N → tl < a + d → 1 ≤ w → w ≤ 1000 → d < n → d < m → pW M0 N0 tx tl M N (f_X5_takesWindow_2 n M 1 (nI w)) (f_X7_readsWindow_36 m N (nI w))
  | 0, w, M, N, a, n, m, h, hd, h1, h2, hn, hm => by have := h.2.2.1; omega
  | d + 1, w, M, N, a, n, m, h, hd, h1, h2, hn, hm => by
    obtain ⟨n, rfl⟩ : ∃ q, n = q + 1 := ⟨n - 1, by omega⟩
    obtain ⟨m, rfl⟩ : ∃ q, m = q + 1 := ⟨m - 1, by omega⟩
    have ha := h.2.2.1
    have e1 : f_X7_isHere m N 48 57 = some (tb (decide (a < tl ∧ 48 ≤ tx a ∧ tx a ≤ 57)), N) := tm_here htl htx (lo := 48) (hi := 57) h.2.1 ha (by omega) (by omega)
    have stop : ∀ X : Option (Int32 × xm_M), ((X = some (1, xm_up M 1 0 (nI w))) ∨ (X = some (0, M) ∧ a < tl ∧ tx a ≠ 32)) → pW M0 N0 tx tl M N X (some (1, xm_up N 12 0 (nI w))) := by
      intro X hX
      rcases hX with hX | ⟨hX, hX2⟩
      · exact ⟨_, _, a, w, (h.x (r := 1) (Or.inl rfl) 0 (nI w)).m 0 (nI w), h1, h2, rfl, xm_up_s _ _ _ _, fun j hj => xm_up_j _ _ hj, by rw [xm_up_k _ _ (by omega)], fun j hj => xm_up_j _ _ hj, Or.inl ⟨hX, xm_up_s _ _ _ _⟩⟩
      · exact ⟨_, _, a, w, h.m 0 (nI w), h1, h2, rfl, xm_up_s _ _ _ _, fun j hj => xm_up_j _ _ hj, by rw [xm_up_k _ _ (by omega)], fun j hj => rfl, Or.inr ⟨hX, hX2⟩⟩
    rw [f_X5_takesWindow_2, f_X7_readsWindow_36, e1, xz_b2, h.1.1, h.1.2.1, h.2.1.2.1]
    have w0 : ¬ nI w ≤ 0 := mt (xz_lec (c := 0) 0 rfl (by omega) (by omega)).mp (by omega)
    by_cases hl : a < tl
    · have hx := htx a hl
      rw [if_neg (mt (xz_le (by omega) (by omega)).mp (by omega)), xz_ci (show a < 80 by omega) (by omega), xz_cl (by omega), h.1.2.2 a hl, h.2.1.2.2 a hl]
      by_cases hb : 48 ≤ tx a ∧ tx a ≤ 57
      · have i1 : f_X6_isWithin n M (nI (tx a)) 48 57 = some (1, M) := xz_iw1 (lo := 48) (hi := 57) hb.1 hb.2 (by omega)
        obtain ⟨d1, d2⟩ := xz_dig h2 hb.1 hb.2
        rw [i1, xz_b2, if_neg xz_10, h.1.2.1, xz_cl (by omega), h.1.2.2 a hl, xz_ci (show a < 80 by omega) (by omega), d1, d2, decide_eq_true ⟨hl, hb⟩]
        show pW M0 N0 tx tl M N _ (if (1 : Int32) = 0 then _ else _)
        rw [if_neg xz_10]
        by_cases hv : 10 * w + (tx a - 48) ≤ 1000
        · have i2 : f_X6_isWithin n M (nI (10 * w + (tx a - 48))) 1 1000 = some (1, M) := xz_iw1 (lo := 1) (hi := 1000) (by omega) hv (by omega)
          rw [i2, xz_b2, if_neg xz_10, if_neg (mt (xz_clt (c := 1000) 1000 rfl (by omega) (by omega)).mp (by omega)), xz_ci (show a < 80 by omega) (by omega), xz_ci (show a < 80 by omega) (by omega), xz_lt, xz_lt, h.1.2.1, nI_1]
          obtain ⟨M', N', a', w', r, g1, g2, g3, g4, g5, g6, g7, g8⟩ := p_win htl htx d (10 * w + (tx a - 48)) _ _ (a + 1) n m (h.to (b := a + 1) hl) (by omega) (by omega) hv (by omega) (by omega)
          exact ⟨M', N', a', w', r, g1, g2, g3, g4, fun j hj => (g5 j hj).trans (xm_up_k _ _ (by omega)), g6.trans (xm_up_j _ _ (by omega)), fun j hj => (g7 j hj).trans (xm_up_k _ _ (by omega)), g8⟩
        · have i2 : f_X6_isWithin n M (nI (10 * w + (tx a - 48))) 1 1000 = some (0, M) := xz_iw0 (lo := 1) (hi := 1000) (Or.inr ((xz_clt (c := 1000) 1000 rfl (by omega) (by omega)).mpr (by omega)))
          rw [i2, xz_b2, if_pos rfl, if_pos ((xz_clt (c := 1000) 1000 rfl (by omega) (by omega)).mpr (by omega)), xz_i4, xz_ct, xz_t0, xz_lt, xz_ci (show a < 80 by omega) (by omega)]
          exact stop _ (Or.inr ⟨rfl, hl, by omega⟩)
      · have i1 : f_X6_isWithin n M (nI (tx a)) 48 57 = some (0, M) := xz_iw0 (lo := 48) (hi := 57) (by
          rw [xz_ltc (c := 48) 48 rfl (by omega) (by omega), xz_clt (c := 57) 57 rfl (by omega) (by omega)]
          omega)
        rw [i1, xz_b2, if_pos rfl, xz_lt, if_neg w0, decide_eq_false (fun q => hb q.2)]
        exact stop _ (Or.inl rfl)
    · rw [if_pos ((xz_le (by omega) (by omega)).mpr (by omega)), xz_lt, if_neg w0, decide_eq_false (fun q => hl q.1)]
      exact stop _ (Or.inl rfl)
/-- the window, from its first digit on -/
theorem p_window (htl : tl ≤ 80) (htx : ∀ i, i < tl → tx i < 65536) (h : pR M0 N0 tx tl a M N) {n : Nat} (hn : 100 < n) : (∃ M', (∀ j, j ≠ 0 → M' 1 j = M 1 j) ∧ f_X5_takesWindow n M 1 = some (0, M') ∧ f_X7_readsWindow n N = some (0, N) ∧ pR M0 N0 tx tl a M' N) ∨ pW M0 N0 tx tl M N (f_X5_takesWindow n M 1) (f_X7_readsWindow n N) := by
  have ha := h.2.2.1
  obtain ⟨n, rfl⟩ : ∃ q, n = q + 1 := ⟨n - 1, by omega⟩
  have e1 : f_X7_isHere (n + 1) N 49 57 = some (tb (decide (a < tl ∧ 49 ≤ tx a ∧ tx a ≤ 57)), N) := tm_here htl htx (lo := 49) (hi := 57) h.2.1 ha (by omega) (by omega)
  unfold f_X5_takesWindow f_X7_readsWindow
  rw [f_X5_takesWindow_2, e1, xz_b2, h.1.1, h.1.2.1, h.2.1.2.1]
  by_cases hl : a < tl
  · have hx := htx a hl
    rw [if_neg (mt (xz_le (by omega) (by omega)).mp (by omega)), xz_ci (show a < 80 by omega) (by omega), xz_cl (by omega), h.1.2.2 a hl, h.2.1.2.2 a hl]
    by_cases hb : 48 ≤ tx a ∧ tx a ≤ 57
    · have i1 : f_X6_isWithin n M (nI (tx a)) 48 57 = some (1, M) := xz_iw1 (lo := 48) (hi := 57) hb.1 hb.2 (by omega)
      obtain ⟨d1, d2⟩ := xz_dig (show 0 ≤ 1000 by omega) hb.1 hb.2
      have d3 : (0 : Int32) * 10 + (nI (tx a) - 48) = nI (tx a - 48) := d1.trans (congrArg nI (by omega))
      have d4 : nI (tx a) - 48 = nI (tx a - 48) := by rw [show (48 : Int32) = nI 48 from rfl, pk_sub (by omega)]
      rw [i1, xz_b2, if_neg xz_10, h.1.2.1, xz_cl (by omega), h.1.2.2 a hl, xz_ci (show a < 80 by omega) (by omega), d3]
      by_cases h49 : 49 ≤ tx a
      · have i2 : f_X6_isWithin n M (nI (tx a - 48)) 1 1000 = some (1, M) := xz_iw1 (lo := 1) (hi := 1000) (by omega) (by omega) (by omega)
        rw [i2, xz_b2, if_neg xz_10, xz_ci (show a < 80 by omega) (by omega), d4, decide_eq_true ⟨hl, h49, hb.2⟩, xz_lt, xz_lt, h.1.2.1, nI_1]
        refine Or.inr ?_
        show pW M0 N0 tx tl M N _ (if (1 : Int32) = 0 then _ else _)
        rw [if_neg xz_10]
        obtain ⟨M', N', a', w', r, g1, g2, g3, g4, g5, g6, g7, g8⟩ := p_win htl htx 90 (tx a - 48) _ _ (a + 1) n (n + 1) (h.to (b := a + 1) hl) (by omega) (by omega) (by omega) (by omega) (by omega)
        exact ⟨M', N', a', w', r, g1, g2, g3, g4, fun j hj => (g5 j hj).trans (xm_up_k _ _ (by omega)), g6.trans (xm_up_j _ _ (by omega)), fun j hj => (g7 j hj).trans (xm_up_k _ _ (by omega)), g8⟩
      · have i2 : f_X6_isWithin n M (nI (tx a - 48)) 1 1000 = some (0, M) := xz_iw0 (lo := 1) (hi := 1000) (Or.inl ((xz_ltc (c := 1) 1 rfl (by omega) (by omega)).mpr (by omega)))
        rw [i2, xz_b2, if_pos rfl, decide_eq_false (fun q => h49 q.2.1)]
        exact Or.inl ⟨M, fun j _ => rfl, rfl, rfl, h⟩
    · have i1 : f_X6_isWithin n M (nI (tx a)) 48 57 = some (0, M) := xz_iw0 (lo := 48) (hi := 57) (by
        rw [xz_ltc (c := 48) 48 rfl (by omega) (by omega), xz_clt (c := 57) 57 rfl (by omega) (by omega)]
        omega)
      rw [i1, xz_b2, if_pos rfl, xz_lt, if_pos (by decide), decide_eq_false (fun q => hb (by omega))]
      exact Or.inl ⟨xm_up M 1 0 0, fun j hj => xm_up_j _ _ hj, rfl, rfl, h.x (r := 1) (Or.inl rfl) 0 0⟩
  · rw [if_pos ((xz_le (by omega) (by omega)).mpr (by omega)), xz_lt, if_pos (by decide), decide_eq_false (fun q => hl q.1)]
    exact Or.inl ⟨xm_up M 1 0 0, fun j hj => xm_up_j _ _ hj, rfl, rfl, h.x (r := 1) (Or.inl rfl) 0 0⟩
end PS
