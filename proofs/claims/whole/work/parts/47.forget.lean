/-! LAYER 2: forget -/
def xf_c (A : xa_S) (t : Nat) : Nat → Nat
  | 0 => 0
  | i + 1 => xf_c A t i + (if t ≤ (A.2.1 i).2.2 then 1 else 0)
def xf_e (A : xa_S) (t : Nat) : Nat → Nat → Nat × Nat × Nat
  | 0 => fun _ => (0, 0, 0)
  | i + 1 => fun k => if t ≤ (A.2.1 i).2.2 ∧ k = xf_c A t i then A.2.1 i else xf_e A t i k
theorem xf_e1 (A : xa_S) (t i k : Nat) : xf_e A t (i + 1) k = if t ≤ (A.2.1 i).2.2 ∧ k = xf_c A t i then A.2.1 i else xf_e A t i k := rfl
def xf_A (A : xa_S) (t : Nat) : xa_S := ((xf_c A t A.1.1, A.1.2.1, A.1.2.2.1, A.1.2.2.2), xf_e A t A.1.1, A.2.2)
theorem xf_c1 (A : xa_S) (t i : Nat) (h : t ≤ (A.2.1 i).2.2) : xf_c A t (i + 1) = xf_c A t i + 1 := by rw [xf_c, if_pos h]
theorem xf_c0 (A : xa_S) (t i : Nat) (h : ¬ t ≤ (A.2.1 i).2.2) : xf_c A t (i + 1) = xf_c A t i := by rw [xf_c, if_neg h]; rfl
theorem xf_le (A : xa_S) (t : Nat) : ∀ i, xf_c A t i ≤ i
  | 0 => Nat.le_refl 0
  | i + 1 => by
    have := xf_le A t i
    rw [xf_c]
    split <;> omega
theorem xf_W {A : xa_S} {t : Nat} (hW : xa_WS A) : ∀ i, i ≤ A.1.1 → ∀ k, k < xf_c A t i → (xf_e A t i k).1 < 8 ∧ (xf_e A t i k).2.1 ≤ 99 ∧ (xf_e A t i k).2.2 ≤ 9999
  | 0, _, k, hk => absurd hk (Nat.not_lt_zero k)
  | i + 1, hi, k, hk => by
    rw [xf_e1]
    by_cases h : t ≤ (A.2.1 i).2.2 ∧ k = xf_c A t i
    · rw [if_pos h]
      exact hW.2.2.2.2.1 i (by omega)
    · rw [if_neg h]
      refine xf_W hW i (by omega) k ?_
      by_cases ht : t ≤ (A.2.1 i).2.2
      · rw [xf_c1 A t i ht] at hk
        have : ¬ k = xf_c A t i := fun q => h ⟨ht, q⟩
        omega
      · rw [xf_c0 A t i ht] at hk
        exact hk
theorem xf_all (A : xa_S) (t : Nat) : ∀ i, xf_c A t i = i → ∀ k, k < i → xf_e A t i k = A.2.1 k
  | 0, _, k, hk => absurd hk (Nat.not_lt_zero k)
  | i + 1, h, k, hk => by
    have hle := xf_le A t i
    by_cases ht : t ≤ (A.2.1 i).2.2
    · rw [xf_c1 A t i ht] at h
      have hi : xf_c A t i = i := by omega
      rw [xf_e1]
      by_cases hki : k = i
      · rw [if_pos ⟨ht, by rw [hi]; exact hki⟩, hki]
      · rw [if_neg (fun q => hki (by rw [← hi]; exact q.2))]
        exact xf_all A t i hi k (by omega)
    · rw [xf_c0 A t i ht] at h
      omega
theorem xf_WA {A : xa_S} {t : Nat} (hW : xa_WS A) : xa_WS (xf_A A t) := by
  have := xf_le A t A.1.1
  have w0 := hW.1
  exact ⟨show xf_c A t A.1.1 ≤ 24 by omega, hW.2.1, hW.2.2.1, hW.2.2.2.1, xf_W hW A.1.1 (Nat.le_refl _), hW.2.2.2.2.2⟩
theorem xp_ahead {M : xm_M} {A : xa_S} {t : Nat} (hA : xa_XS A M 18) (hW : xa_WS A) (ht : t ≤ 9999) {n : Nat} (hf : 30 < n) : f_X4_eventsAheadOf n M 18 (nI t) = some (nI (A.1.1 - xf_c A t A.1.1), M) := by
  obtain ⟨a0, a1, a2, a3, a4, a5⟩ := hA
  obtain ⟨w0, w1, w2, w3, w4, w5⟩ := hW
  unfold f_X4_eventsAheadOf
  obtain ⟨r, h1, h2⟩ := xz_for (fun n M i => f_X4_eventsAheadOf_4 n M 18 (nI t) (nI (i - xf_c A t i)) (nI i)) A.1.1 0 (fun i M2 => M2 = M) (fun r => r = (nI (A.1.1 - xf_c A t A.1.1), M)) (by
    intro n M2 _ hI
    subst hI
    refine ⟨_, ?_, rfl⟩
    show f_X4_eventsAheadOf_4 (n + 1) M2 18 (nI t) (nI (A.1.1 - xf_c A t A.1.1)) (nI A.1.1) = _
    rw [f_X4_eventsAheadOf_4, if_pos (by rw [a0, xz_le (by omega) (by omega)]; omega)]) (by
    intro n i M2 _ hi hI
    subst hI
    refine ⟨M2, rfl, ?_⟩
    obtain ⟨b1, b2, b3⟩ := a4 i hi
    have c3 := (w4 i hi).2.2
    have hle := xf_le A t i
    show f_X4_eventsAheadOf_4 (n + 1) M2 18 (nI t) (nI (i - xf_c A t i)) (nI i) = f_X4_eventsAheadOf_4 n M2 18 (nI t) (nI (i + 1 - xf_c A t (i + 1))) (nI (i + 1))
    rw [f_X4_eventsAheadOf_4, if_neg (by rw [a0, xz_le (by omega) (by omega)]; omega), xz_ci (show i < 24 by omega) (by omega), xz_cl (by omega), b3, nI_1]
    by_cases h : t ≤ (A.2.1 i).2.2
    · rw [if_pos ((xz_le (by omega) (by omega)).mpr h), xf_c1 A t i h, show i + 1 - (xf_c A t i + 1) = i - xf_c A t i by omega]
    · rw [if_neg (mt (xz_le (by omega) (by omega)).mp h), xf_c0 A t i h, nI_1, show i - xf_c A t i + 1 = i + 1 - xf_c A t i by omega]) n 0 M (by omega) (by omega) rfl
  rw [h2] at h1
  exact h1
theorem xp_forget {M : xm_M} {A : xa_S} {t : Nat} (hA : xa_XS A M 18) (hW : xa_WS A) (ht : t ≤ 9999) {n : Nat} (hf : 30 < n) : ∃ M', f_X4_removeEventsAheadOf n M 18 (nI t) = some M' ∧ (xa_XS (xf_A A t) M' 18 ∧ ∀ r, ¬ (18 ≤ r ∧ r < 35) → M' r = M r) := by
  obtain ⟨a0, a1, a2, a3, a4, a5⟩ := hA
  obtain ⟨w0, w1, w2, w3, w4, w5⟩ := hW
  unfold f_X4_removeEventsAheadOf
  refine xz_for (fun n M i => f_X4_removeEventsAheadOf_4 n M 18 (nI t) (nI (xf_c A t i)) (nI i)) A.1.1 0 (fun i M2 => (∀ k, ¬ (19 ≤ k ∧ k < 22) → M2 k = M k) ∧ (∀ k, k < xf_c A t i → M2 19 k = nI (97 + (xf_e A t i k).1) ∧ M2 20 k = nI (xf_e A t i k).2.1 ∧ M2 21 k = nI (xf_e A t i k).2.2) ∧ ∀ k, i ≤ k → k < A.1.1 → M2 19 k = nI (97 + (A.2.1 k).1) ∧ M2 20 k = nI (A.2.1 k).2.1 ∧ M2 21 k = nI (A.2.1 k).2.2) _ ?_ ?_ n 0 M (by omega) (by omega) ⟨fun _ _ => rfl, fun k hk => absurd hk (Nat.not_lt_zero k), fun k _ hk => a4 k hk⟩
  · intro n M2 _ hI
    obtain ⟨i1, i2, i3⟩ := hI
    have e8 : M2 18 = M 18 := i1 18 (by omega)
    refine ⟨xm_up M2 18 0 (nI (xf_c A t A.1.1)), ?_, ⟨by rw [xm_up_s]; rfl, by rw [xm_up_j _ _ (by omega), e8]; exact a1, by rw [xm_up_j _ _ (by omega), e8]; exact a2, by rw [xm_up_j _ _ (by omega), e8]; exact a3, fun i hi => ?_, fun j hj => ?_⟩, fun r hr => ?_⟩
    · show f_X4_removeEventsAheadOf_4 (n + 1) M2 18 (nI t) (nI (xf_c A t A.1.1)) (nI A.1.1) = _
      rw [f_X4_removeEventsAheadOf_4, if_pos (by rw [e8, a0, xz_le (by omega) (by omega)]; omega), xz_lt]
    · rw [xm_up_k _ _ (by omega), xm_up_k _ _ (by omega), xm_up_k _ _ (by omega)]
      exact i2 i hi
    · exact (a5 j hj).fr (fun r k1 k2 => by rw [xm_up_r _ _ (by omega), i1 r (by omega)])
    · rw [xm_up_r _ _ (by omega), i1 r (by omega)]
  · intro n i M2 _ hi hI
    obtain ⟨i1, i2, i3⟩ := hI
    have e8 : M2 18 = M 18 := i1 18 (by omega)
    obtain ⟨b1, b2, b3⟩ := i3 i (Nat.le_refl _) hi
    obtain ⟨c1, c2, c3⟩ := w4 i hi
    have hle := xf_le A t i
    by_cases h : t ≤ (A.2.1 i).2.2
    · refine ⟨xm_up (xm_up (xm_up M2 19 (xf_c A t i) (nI (97 + (A.2.1 i).1))) 20 (xf_c A t i) (nI (A.2.1 i).2.1)) 21 (xf_c A t i) (nI (A.2.1 i).2.2), ⟨fun k hk => by rw [xm_up_r _ _ (by omega), xm_up_r _ _ (by omega), xm_up_r _ _ (by omega)]; exact i1 k hk, fun k hk => ?_, fun k k1 k2 => ?_⟩, ?_⟩
      · rw [xf_c1 A t i h] at hk
        rw [xf_e1]
        by_cases hki : k = xf_c A t i
        · rw [if_pos ⟨h, hki⟩, hki, xm_up_k _ _ (by omega), xm_up_k _ _ (by omega), xm_up_s, xm_up_k _ _ (by omega), xm_up_s, xm_up_s]
          exact ⟨rfl, rfl, rfl⟩
        · rw [if_neg (fun q => hki q.2), xm_up_j _ _ hki, xm_up_j _ _ hki, xm_up_j _ _ hki, xm_up_j _ _ hki, xm_up_j _ _ hki, xm_up_j _ _ hki, xm_up_j _ _ hki, xm_up_j _ _ hki, xm_up_j _ _ hki]
          exact i2 k (by omega)
      · have hki : k ≠ xf_c A t i := by omega
        rw [xm_up_j _ _ hki, xm_up_j _ _ hki, xm_up_j _ _ hki, xm_up_j _ _ hki, xm_up_j _ _ hki, xm_up_j _ _ hki, xm_up_j _ _ hki, xm_up_j _ _ hki, xm_up_j _ _ hki]
        exact i3 k (by omega) k2
      · show f_X4_removeEventsAheadOf_4 (n + 1) M2 18 (nI t) (nI (xf_c A t i)) (nI i) = f_X4_removeEventsAheadOf_4 n _ 18 (nI t) (nI (xf_c A t (i + 1))) (nI (i + 1))
        rw [f_X4_removeEventsAheadOf_4, if_neg (by rw [e8, a0, xz_le (by omega) (by omega)]; omega)]
        unfold f_X4_putEvent
        simp only [xz_ci (show i < 24 by omega) (show 24 ≤ 1000 by omega), xz_ci (show xf_c A t i < 24 by omega) (show 24 ≤ 1000 by omega), xz_cl (show i < 2 ^ 31 by omega), xz_cl (show xf_c A t i < 2 ^ 31 by omega), xz_lt, xz_b1, Nat.reduceAdd]
        rw [b1, b2, b3, if_neg (mt (xz_l (by omega) (by omega)).mp (by omega)), xz_nc (by omega), xf_c1 A t i h, nI_1, nI_1]
    · refine ⟨M2, ⟨i1, fun k hk => ?_, fun k k1 k2 => i3 k (by omega) k2⟩, ?_⟩
      · rw [xf_c0 A t i h] at hk
        rw [xf_e1, if_neg (fun q => h q.1)]
        exact i2 k hk
      · show f_X4_removeEventsAheadOf_4 (n + 1) M2 18 (nI t) (nI (xf_c A t i)) (nI i) = f_X4_removeEventsAheadOf_4 n _ 18 (nI t) (nI (xf_c A t (i + 1))) (nI (i + 1))
        rw [f_X4_removeEventsAheadOf_4, if_neg (by rw [e8, a0, xz_le (by omega) (by omega)]; omega), xz_ci (show i < 24 by omega) (by omega), xz_cl (by omega)]
        simp only [Nat.reduceAdd]
        rw [b3, if_pos ((xz_l (by omega) (by omega)).mpr (by omega)), xf_c0 A t i h, nI_1]
theorem xz_43a (j : Nat) : (4 : Int32) + 3 * nI j = nI (4 + 3 * j) := by
  show nI 4 + nI 3 * nI j = _
  rw [pk_mul, nI_add]
/-- forget -/
theorem xr_forget {M N : xm_M} (hI : xr_Inv M N) (a1 : Int32) : ∃ n1 n2 r M' N', f_X6_forget n1 M a1 = some (r, M') ∧ f_X7_forget n2 N a1 = some (r, N') ∧ xr_Inv M' N' := by
  have hI9 := hI
  obtain ⟨A, h, hn, ho, sn, tx, tl, hW, hX, hM⟩ := hI
  refine ⟨1000, 1000, ?_⟩
  unfold f_X6_forget f_X7_forget
  rcases xz_rng a1 0 9999 (by omega) (by omega) with hb | ⟨t, -, ht, rfl⟩
  · have e1 : f_X6_isWithin 1000 M a1 0 9999 = some (0, M) := xz_iw0 hb
    have e2 : f_X7_in 1000 N a1.toInt64 0 9999 = some (0, N) := xz_mn0 (lo := 0) (hi := 9999) (by omega) (by omega) hb
    rw [e1, e2, xz_b2, xz_b2, if_pos rfl, if_pos rfl]
    exact ⟨-2, M, N, rfl, rfl, hI9⟩
  · have e1 : f_X6_isWithin 1000 M (nI t) 0 9999 = some (1, M) := xz_iw1 (lo := 0) (hi := 9999) (by omega) ht (by omega)
    have e2 : f_X7_in 1000 N (nI t).toInt64 0 9999 = some (1, N) := xz_mn1 (lo := 0) (hi := 9999) (by omega) ht (by omega)
    obtain ⟨N1, d1, d2, d3⟩ := xm_remember (N := N) (n := 1000) (by omega)
    have hle := xf_le A t A.1.1
    obtain ⟨w0, w1, w2, w3, w4, w5⟩ := hW.1
    rw [e1, e2, xz_b2, xz_b2, if_neg xz_10, if_neg xz_10, xp_ahead hX.1 hW.1 ht (by omega), xz_b2, d1, xz_b1, xz_i0, xz_ct, xz_t0, xz_lt]
    have e9 : N1 1 = N 1 := d2 1 (by omega)
    obtain ⟨m0, m1, m2, m3, m4, m5⟩ := hM.1
    have key : ∃ q, f_X7_forget_28 1000 (xm_up N1 1 0 0) (nI t) 4 = some q ∧ (if xf_c A t A.1.1 = A.1.1 then q.1 = -5 ∧ xi_M A h hn sn tx tl q.2 else q.1 = nI (A.1.1 - xf_c A t A.1.1) ∧ xi_M (xf_A A t) (xh_push A h hn) (xh_n hn) sn tx tl q.2) := by
      refine xz_for (fun n N i => f_X7_forget_28 n N (nI t) (nI (4 + 3 * i))) A.1.1 600 (fun i N2 => (∀ k, k ≠ 1 → N2 k = N1 k) ∧ N2 1 0 = nI (xf_c A t i) ∧ (∀ j, (1 ≤ j ∧ j < 4) ∨ 79 ≤ j → N2 1 j = N 1 j) ∧ ∀ k, k < xf_c A t i → N2 1 (4 + 3 * k) = nI (xf_e A t i k).1 ∧ N2 1 (4 + 3 * k + 1) = nI (xf_e A t i k).2.1 ∧ N2 1 (4 + 3 * k + 2) = nI (xf_e A t i k).2.2) _ ?_ ?_ 1000 0 _ (by omega) (by omega) ⟨fun k hk => xm_up_r _ _ hk, by rw [xm_up_s]; rfl, fun j hj => by rw [xm_up_j _ _ (by omega), e9], fun k hk => absurd hk (Nat.not_lt_zero k)⟩
      · intro n N2 hK hJ
        obtain ⟨j1, j2, j3, j4⟩ := hJ
        have n2 : ∀ j, j < 119 → N2 2 j = N 1 j := fun j hj => by rw [j1 2 (by omega)]; exact d3 j hj
        have eA : xa_MS (xf_A A t) (N2 1) 0 := by
          refine ⟨j2, by rw [j3 _ (by omega)]; exact m1, by rw [j3 _ (by omega)]; exact m2, by rw [j3 _ (by omega)]; exact m3, fun i hi => ?_, fun j hj => (m5 j hj).fr (w5 j hj) (fun k hk => by rw [j3 _ (by omega)])⟩
          rw [show 0 + 4 + 3 * i = 4 + 3 * i by omega]
          exact j4 i hi
        have hd : nI A.1.1 - nI (xf_c A t A.1.1) = nI (A.1.1 - xf_c A t A.1.1) := pk_sub hle
        by_cases hc : xf_c A t A.1.1 = A.1.1
        · refine ⟨(-5, N2), ?_, ?_⟩
          · show f_X7_forget_28 (n + 1) N2 (nI t) (nI (4 + 3 * A.1.1)) = _
            rw [f_X7_forget_28, xz_i0, xz_ct, xz_t0, n2 0 (by omega), m0, xz_43a, if_pos ((xz_le (by omega) (by omega)).mpr (Nat.le_refl _)), xz_ct, xz_ct, j2, if_pos ((xz_s2 (by omega) (by omega)).mpr (by omega))]
          · rw [if_pos hc]
            show (-5 : Int32) = -5 ∧ xi_M A h hn sn tx tl N2
            refine ⟨rfl, ?_, ⟨by rw [j1 0 (by omega), d2 0 (by omega)]; exact hM.2.1.1, fun i hi => by rw [j1 3 (by omega), d2 3 (by omega)]; exact hM.2.1.2 i hi⟩, ?_, by rw [j1 0 (by omega), d2 0 (by omega)]; exact hM.2.2.2.1, fun i hi => by rw [j1 11 (by omega), d2 11 (by omega)]; exact hM.2.2.2.2 i hi⟩
            · obtain ⟨p0, p1, p2, p3, p4, p5⟩ := eA
              refine ⟨by rw [p0]; exact congrArg nI hc, p1, p2, p3, fun i hi => ?_, p5⟩
              have hx := p4 i (show i < xf_c A t A.1.1 by omega)
              have hy : (xf_A A t).2.1 i = A.2.1 i := xf_all A t A.1.1 hc i hi
              rw [hy] at hx
              exact hx
            · have h3 := hM.2.2.1
              cases sn with
              | none => show _ = _; rw [j1 0 (by omega), d2 0 (by omega)]; exact h3
              | some B => exact ⟨by rw [j1 0 (by omega), d2 0 (by omega)]; exact h3.1, by rw [j1 4 (by omega), d2 4 (by omega)]; exact h3.2⟩
        · obtain ⟨N', f1, f2⟩ := xi_act (A' := xf_A A t) hW hM (N1 := N2) n2 eA (fun r k1 k2 => by rw [j1 r k1]; exact d2 r k2) (nI (A.1.1 - xf_c A t A.1.1)) (n := n) (by omega)
          refine ⟨(nI (A.1.1 - xf_c A t A.1.1), N'), ?_, ?_⟩
          · show f_X7_forget_28 (n + 1) N2 (nI t) (nI (4 + 3 * A.1.1)) = _
            rw [f_X7_forget_28, xz_i0, xz_ct, xz_t0, n2 0 (by omega), m0, xz_43a, if_pos ((xz_le (by omega) (by omega)).mpr (Nat.le_refl _)), xz_ct, xz_ct, j2, if_neg (mt (xz_s2 (by omega) (by omega)).mp (by omega)), hd, f1, xz_b2]
          · rw [if_neg hc]
            exact ⟨rfl, f2⟩
      · intro n i N2 _ hi hJ
        obtain ⟨j1, j2, j3, j4⟩ := hJ
        have n2 : ∀ j, j < 119 → N2 2 j = N 1 j := fun j hj => by rw [j1 2 (by omega)]; exact d3 j hj
        obtain ⟨b1, b2, b3⟩ := m4 i hi
        rw [show 0 + 4 + 3 * i = 4 + 3 * i by omega] at b1 b2 b3
        obtain ⟨c1, c2, c3⟩ := w4 i hi
        have hle2 := xf_le A t i
        have x0 : nI (4 + 3 * i) + (0 : Int32) = nI (4 + 3 * i + 0) := nI_add _ 0
        have x1 : nI (4 + 3 * i) + (1 : Int32) = nI (4 + 3 * i + 1) := nI_add _ 1
        have x2 : nI (4 + 3 * i) + (2 : Int32) = nI (4 + 3 * i + 2) := nI_add _ 2
        have x3 : nI (4 + 3 * i) + (3 : Int32) = nI (4 + 3 * (i + 1)) := nI_add _ 3
        by_cases hk : t ≤ (A.2.1 i).2.2
        · have i0 : (4 : Int32) + 3 * nI (xf_c A t i) + 0 = nI (4 + 3 * xf_c A t i + 0) := xz_43 _ 0
          have i1 : (4 : Int32) + 3 * nI (xf_c A t i) + 1 = nI (4 + 3 * xf_c A t i + 1) := xz_43 _ 1
          have i2 : (4 : Int32) + 3 * nI (xf_c A t i) + 2 = nI (4 + 3 * xf_c A t i + 2) := xz_43 _ 2
          refine ⟨xm_up (xm_up (xm_up (xm_up N2 1 (4 + 3 * xf_c A t i + 0) (nI (A.2.1 i).1)) 1 (4 + 3 * xf_c A t i + 1) (nI (A.2.1 i).2.1)) 1 (4 + 3 * xf_c A t i + 2) (nI (A.2.1 i).2.2)) 1 0 (nI (xf_c A t i + 1)), ⟨fun k hk9 => by rw [xm_up_r _ _ hk9, xm_up_r _ _ hk9, xm_up_r _ _ hk9, xm_up_r _ _ hk9]; exact j1 k hk9, by rw [xm_up_s, xf_c1 A t i hk], fun j hj => by rw [xm_up_j _ _ (by omega), xm_up_j _ _ (by omega), xm_up_j _ _ (by omega), xm_up_j _ _ (by omega)]; exact j3 j hj, fun k hk9 => ?_⟩, ?_⟩
          · rw [xf_c1 A t i hk] at hk9
            rw [xf_e1]
            by_cases hki : k = xf_c A t i
            · subst hki
              rw [if_pos ⟨hk, rfl⟩]
              refine ⟨?_, ?_, ?_⟩
              · rw [xm_up_j _ _ (by omega), xm_up_j _ _ (by omega), xm_up_j _ _ (by omega)]
                exact xm_up_s _ _ _ _
              · rw [xm_up_j _ _ (by omega), xm_up_j _ _ (by omega)]
                exact xm_up_s _ _ _ _
              · rw [xm_up_j _ _ (by omega)]
                exact xm_up_s _ _ _ _
            · rw [if_neg (fun q => hki q.2), xm_up_j _ _ (by omega), xm_up_j _ _ (by omega), xm_up_j _ _ (by omega), xm_up_j _ _ (by omega), xm_up_j _ _ (by omega), xm_up_j _ _ (by omega), xm_up_j _ _ (by omega), xm_up_j _ _ (by omega), xm_up_j _ _ (by omega), xm_up_j _ _ (by omega), xm_up_j _ _ (by omega), xm_up_j _ _ (by omega)]
              exact j4 k (by omega)
          · show f_X7_forget_28 (n + 1) N2 (nI t) (nI (4 + 3 * i)) = f_X7_forget_28 n _ (nI t) (nI (4 + 3 * (i + 1)))
            rw [f_X7_forget_28, xz_i0, xz_ct, xz_t0, n2 0 (by omega), m0, xz_43a, if_neg (mt (xz_le (by omega) (by omega)).mp (by omega)), x0, x1, x2, x3]
            simp only [xz_ci (show 4 + 3 * i + 0 < 119 by omega) (show 119 ≤ 1000 by omega), xz_ci (show 4 + 3 * i + 1 < 119 by omega) (show 119 ≤ 1000 by omega), xz_ci (show 4 + 3 * i + 2 < 119 by omega) (show 119 ≤ 1000 by omega), xz_cl (show 4 + 3 * i + 0 < 2 ^ 31 by omega), xz_cl (show 4 + 3 * i + 1 < 2 ^ 31 by omega), xz_cl (show 4 + 3 * i + 2 < 2 ^ 31 by omega), xz_lt, xz_ct]
            rw [n2 _ (by omega), b3, if_neg (mt (xz_l (by omega) (by omega)).mp (by omega)), j2, i0, i1, i2]
            simp only [xz_ci (show 4 + 3 * xf_c A t i + 0 < 119 by omega) (show 119 ≤ 1000 by omega), xz_ci (show 4 + 3 * xf_c A t i + 1 < 119 by omega) (show 119 ≤ 1000 by omega), xz_ci (show 4 + 3 * xf_c A t i + 2 < 119 by omega) (show 119 ≤ 1000 by omega), xz_cl (show 4 + 3 * xf_c A t i + 0 < 2 ^ 31 by omega), xz_cl (show 4 + 3 * xf_c A t i + 1 < 2 ^ 31 by omega), xz_cl (show 4 + 3 * xf_c A t i + 2 < 2 ^ 31 by omega)]
            rw [n2 _ (by omega), show 4 + 3 * i + 0 = 4 + 3 * i by omega, b1, xm_up_k _ _ (by omega), n2 _ (by omega), b2, xm_up_k _ _ (by omega), xm_up_k _ _ (by omega), n2 _ (by omega), b3, xm_up_j _ _ (by omega), xm_up_j _ _ (by omega), xm_up_j _ _ (by omega), j2, nI_1]
        · refine ⟨N2, ⟨j1, by rw [xf_c0 A t i hk]; exact j2, j3, fun k hk9 => ?_⟩, ?_⟩
          · rw [xf_c0 A t i hk] at hk9
            rw [xf_e1, if_neg (fun q => hk q.1)]
            exact j4 k hk9
          · show f_X7_forget_28 (n + 1) N2 (nI t) (nI (4 + 3 * i)) = f_X7_forget_28 n _ (nI t) (nI (4 + 3 * (i + 1)))
            rw [f_X7_forget_28, xz_i0, xz_ct, xz_t0, n2 0 (by omega), m0, xz_43a, if_neg (mt (xz_le (by omega) (by omega)).mp (by omega)), x2, x3, xz_ci (show 4 + 3 * i + 2 < 119 by omega) (by omega), xz_cl (by omega), n2 _ (by omega), b3, if_pos ((xz_l (by omega) (by omega)).mpr (by omega))]
    obtain ⟨⟨r, N'⟩, k1, k2⟩ := key
    dsimp only at k2
    rw [k1]
    by_cases hc : xf_c A t A.1.1 = A.1.1
    · rw [if_pos hc] at k2
      rw [if_pos (show nI (A.1.1 - xf_c A t A.1.1) = 0 by rw [hc, Nat.sub_self]; rfl)]
      exact ⟨-5, M, N', rfl, by rw [k2.1], A, h, hn, ho, sn, tx, tl, hW, hX, k2.2⟩
    · rw [if_neg hc] at k2
      rw [if_neg (mt (xz_ec (c := 0) 0 rfl (by omega) (by omega)).mp (by omega))]
      obtain ⟨M1, c1, c2, c3⟩ := xi_rec hW hX (n := 1000) (by omega)
      obtain ⟨M2, b1, b2, b3⟩ := xp_forget c2.1 hW.1 ht (n := 1000) (by omega)
      rw [c1, xz_b1, b1, xz_b1]
      exact ⟨_, M2, N', rfl, by rw [k2.1], xf_A A t, _, _, _, sn, tx, tl, hW.act (xf_WA hW.1), c2.now (hW.act hW.1) b2 b3, k2.2⟩
