/-! LAYER 2: forget -/
def xf_c (A : xa_S) (t : Nat) : Nat → Nat
  | 0 => 0
  | i + 1 => xf_c A t i + (if t ≤ (A.2.1 i).2.2 then 1 else 0)
def xf_e (A : xa_S) (t : Nat) : Nat → Nat → Nat × Nat × Nat
  | 0 => fun _ => (0, 0, 0)
  | i + 1 => fun k => if t ≤ (A.2.1 i).2.2 ∧ k = xf_c A t i then A.2.1 i else xf_e A t i k
theorem xf_e1 (A : xa_S) (t i k : Nat) : xf_e A t (i + 1) k = if t ≤ (A.2.1 i).2.2 ∧ k = xf_c A t i then A.2.1 i else xf_e A t i k := rfl
def xf_A (A : xa_S) (t : Nat) : xa_S := ((xf_c A t A.1.1, A.1.2.1, A.1.2.2.1, A.1.2.2.2), xf_e A t A.1.1, A.2.2)
theorem xf_c1 (A : xa_S) (t i : Nat) (h : t ≤ (A.2.1 i).2.2) : xf_c A t (i + 1) = xf_c A t i + 1 := by rw [xf_c, if_pos h]
theorem xf_c0 (A : xa_S) (t i : Nat) (h : ¬ t ≤ (A.2.1 i).2.2) : xf_c A t (i + 1) = xf_c A t i := by rw [xf_c, if_neg h]; rfl
theorem xf_le (A : xa_S) (t : Nat) : ∀ i, xf_c A t i ≤ i
  | 0 => Nat.le_refl 0
  | i + 1 => by
    have := xf_le A t i
    rw [xf_c]
    split <;> omega
theorem xf_W {A : xa_S} {t : Nat} (hW : xa_WS A) : ∀ i, i ≤ A.1.1 → ∀ k, k < xf_c A t i → (xf_e A t i k).1 < 8 ∧ (xf_e A t i k).2.1 ≤ 99 ∧ (xf_e A t i k).2.2 ≤ 9999
  | 0, _, k, hk => absurd hk (Nat.not_lt_zero k)
  | i + 1, hi, k, hk => by
    rw [xf_e1]
    by_cases h : t ≤ (A.2.1 i).2.2 ∧ k = xf_c A t i
    · rw [if_pos h]
      exact hW.2.2.2.2.1 i (by omega)
    · rw [if_neg h]
      refine xf_W hW i (by omega) k ?_
      by_cases ht : t ≤ (A.2.1 i).2.2
      · rw [xf_c1 A t i ht] at hk
        have : ¬ k = xf_c A t i := fun q => h ⟨ht, q⟩
        omega
      · rw [xf_c0 A t i ht] at hk
        exact hk
theorem xf_all (A : xa_S) (t : Nat) : ∀ i, xf_c A t i = i → ∀ k, k < i → xf_e A t i k = A.2.1 k
  | 0, _, k, hk => absurd hk (Nat.not_lt_zero k)
  | i + 1, h, k, hk => by
    have hle := xf_le A t i
    by_cases ht : t ≤ (A.2.1 i).2.2
    · rw [xf_c1 A t i ht] at h
      have hi : xf_c A t i = i := by omega
      rw [xf_e1]
      by_cases hki : k = i
      · rw [if_pos ⟨ht, by rw [hi]; exact hki⟩, hki]
      · rw [if_neg (fun q => hki (by rw [← hi]; exact q.2))]
        exact xf_all A t i hi k (by omega)
    · rw [xf_c0 A t i ht] at h
      omega
theorem xf_WA {A : xa_S} {t : Nat} (hW : xa_WS A) : xa_WS (xf_A A t) := by
  have := xf_le A t A.1.1
  have w0 := hW.1
  exact ⟨show xf_c A t A.1.1 ≤ 24 by omega, hW.2.1, hW.2.2.1, hW.2.2.2.1, xf_W hW A.1.1 (Nat.le_refl _), hW.2.2.2.2.2⟩
theorem xp_ahead {M : xm_M} {A : xa_S} {t : Nat} (hA : xa_XS A M 18) (hW : xa_WS A) (ht : t ≤ 9999) {n : Nat} (hf : 30 < n) : f_X4_eventsAheadOf n M 18 (nI t) = some (nI (A.1.1 - xf_c A t A.1.1), M) := by
  obtain ⟨a0, a1, a2, a3, a4, a5⟩ := hA
  obtain ⟨w0, w1, w2, w3, w4, w5⟩ := hW
  unfold f_X4_eventsAheadOf
  obtain ⟨r, h1, h2⟩ := xz_for (fun n M i => f_X4_eventsAheadOf_4 n M 18 (nI t) (nI (i - xf_c A t i)) (nI i)) A.1.1 0 (fun i M2 => M2 = M) (fun r => r = (nI (A.1.1 - xf_c A t A.1.1), M)) (by
    intro n M2 _ hI
    subst hI
    refine ⟨_, ?_, rfl⟩
    show f_X4_eventsAheadOf_4 (n + 1) M2 18 (nI t) (nI (A.1.1 - xf_c A t A.1.1)) (nI A.1.1) = _
    rw [f_X4_eventsAheadOf_4, if_pos (by rw [a0, xz_le (by omega) (by omega)]; omega)]) (by
    intro n i M2 _ hi hI
    subst hI
    refine ⟨M2, rfl, ?_⟩
    obtain ⟨b1, b2, b3⟩ := a4 i hi
    have c3 := (w4 i hi).2.2
    have hle := xf_le A t i
    show f_X4_eventsAheadOf_4 (n + 1) M2 18 (nI t) (nI (i - xf_c A t i)) (nI i) = f_X4_eventsAheadOf_4 n M2 18 (nI t) (nI (i + 1 - xf_c A t (i + 1))) (nI (i + 1))
    rw [f_X4_eventsAheadOf_4, if_neg (by rw [a0, xz_le (by omega) (by omega)]; omega), xz_ci (show i < 24 by omega) (by omega), xz_cl (by omega), b3, nI_1]
    by_cases h : t ≤ (A.2.1 i).2.2
    · rw [if_pos ((xz_le (by omega) (by omega)).mpr h), xf_c1 A t i h, show i + 1 - (xf_c A t i + 1) = i - xf_c A t i by omega]
    · rw [if_neg (mt (xz_le (by omega) (by omega)).mp h), xf_c0 A t i h, nI_1, show i - xf_c A t i + 1 = i + 1 - xf_c A t i by omega]) n 0 M (by omega) (by omega) rfl
  rw [h2] at h1
  exact h1
theorem xp_forget {M : xm_M} {A : xa_S} {t : Nat} (hA : xa_XS A M 18) (hW : xa_WS A) (ht : t ≤ 9999) {n : Nat} (hf : 30 < n) : ∃ M', f_X4_removeEventsAheadOf n M 18 (nI t) = some M' ∧ (xa_XS (xf_A A t) M' 18 ∧ ∀ r, ¬ (18 ≤ r ∧ r < 35) → M' r = M r) := by
  obtain ⟨a0, a1, a2, a3, a4, a5⟩ := hA
  obtain ⟨w0, w1, w2, w3, w4, w5⟩ := hW
  unfold f_X4_removeEventsAheadOf
  refine xz_for (fun n M i => f_X4_removeEventsAheadOf_4 n M 18 (nI t) (nI (xf_c A t i)) (nI i)) A.1.1 0 (fun i M2 => (∀ k, ¬ (19 ≤ k ∧ k < 22) → M2 k = M k) ∧ (∀ k, k < xf_c A t i → M2 19 k = nI (97 + (xf_e A t i k).1) ∧ M2 20 k = nI (xf_e A t i k).2.1 ∧ M2 21 k = nI (xf_e A t i k).2.2) ∧ ∀ k, i ≤ k → k < A.1.1 → M2 19 k = nI (97 + (A.2.1 k).1) ∧ M2 20 k = nI (A.2.1 k).2.1 ∧ M2 21 k = nI (A.2.1 k).2.2) _ ?_ ?_ n 0 M (by omega) (by omega) ⟨fun _ _ => rfl, fun k hk => absurd hk (Nat.not_lt_zero k), fun k _ hk => a4 k hk⟩
  · intro n M2 _ hI
    obtain ⟨i1, i2, i3⟩ := hI
    have e8 : M2 18 = M 18 := i1 18 (by omega)
    refine ⟨xm_up M2 18 0 (nI (xf_c A t A.1.1)), ?_, ⟨by rw [xm_up_s]; rfl, by rw [xm_up_j _ _ (by omega), e8]; exact a1, by rw [xm_up_j _ _ (by omega), e8]; exact a2, by rw [xm_up_j _ _ (by omega), e8]; exact a3, fun i hi => ?_, fun j hj => ?_⟩, fun r hr => ?_⟩
    · show f_X4_removeEventsAheadOf_4 (n + 1) M2 18 (nI t) (nI (xf_c A t A.1.1)) (nI A.1.1) = _
      rw [f_X4_removeEventsAheadOf_4, if_pos (by rw [e8, a0, xz_le (by omega) (by omega)]; omega), xz_lt]
    · rw [xm_up_k _ _ (by omega), xm_up_k _ _ (by omega), xm_up_k _ _ (by omega)]
      exact i2 i hi
    · exact (a5 j hj).fr (fun r k1 k2 => by rw [xm_up_r _ _ (by omega), i1 r (by omega)])
    · rw [xm_up_r _ _ (by omega), i1 r (by omega)]
  · intro n i M2 _ hi hI
    obtain ⟨i1, i2, i3⟩ := hI
    have e8 : M2 18 = M 18 := i1 18 (by omega)
    obtain ⟨b1, b2, b3⟩ := i3 i (Nat.le_refl _) hi
    obtain ⟨c1, c2, c3⟩ := w4 i hi
    have hle := xf_le A t i
    by_cases h : t ≤ (A.2.1 i).2.2
    · refine ⟨xm_up (xm_up (xm_up M2 19 (xf_c A t i) (nI (97 + (A.2.1 i).1))) 20 (xf_c A t i) (nI (A.2.1 i).2.1)) 21 (xf_c A t i) (nI (A.2.1 i).2.2), ⟨fun k hk => by rw [xm_up_r _ _ (by omega), xm_up_r _ _ (by omega), xm_up_r _ _ (by omega)]; exact i1 k hk, fun k hk => ?_, fun k k1 k2 => ?_⟩, ?_⟩
      · rw [xf_c1 A t i h] at hk
        rw [xf_e1]
        by_cases hki : k = xf_c A t i
        · rw [if_pos ⟨h, hki⟩, hki, xm_up_k _ _ (by omega), xm_up_k _ _ (by omega), xm_up_s, xm_up_k _ _ (by omega), xm_up_s, xm_up_s]
          exact ⟨rfl, rfl, rfl⟩
        · rw [if_neg (fun q => hki q.2), xm_up_j _ _ hki, xm_up_j _ _ hki, xm_up_j _ _ hki, xm_up_j _ _ hki, xm_up_j _ _ hki, xm_up_j _ _ hki, xm_up_j _ _ hki, xm_up_j _ _ hki, xm_up_j _ _ hki]
          exact i2 k (by omega)
      · have hki : k ≠ xf_c A t i := by omega
        rw [xm_up_j _ _ hki, xm_up_j _ _ hki, xm_up_j _ _ hki, xm_up_j _ _ hki, xm_up_j _ _ hki, xm_up_j _ _ hki, xm_up_j _ _ hki, xm_up_j _ _ hki, xm_up_j _ _ hki]
        exact i3 k (by omega) k2
      · show f_X4_removeEventsAheadOf_4 (n + 1) M2 18 (nI t) (nI (xf_c A t i)) (nI i) = f_X4_removeEventsAheadOf_4 n _ 18 (nI t) (nI (xf_c A t (i + 1))) (nI (i + 1))
        rw [f_X4_removeEventsAheadOf_4, if_neg (by rw [e8, a0, xz_le (by omega) (by omega)]; omega)]
        unfold f_X4_putEvent
        simp only [xz_ci (show i < 24 by omega) (show 24 ≤ 1000 by omega), xz_ci (show xf_c A t i < 24 by omega) (show 24 ≤ 1000 by omega), xz_cl (show i < 2 ^ 31 by omega), xz_cl (show xf_c A t i < 2 ^ 31 by omega), xz_lt, xz_b1, Nat.reduceAdd]
        rw [b1, b2, b3, if_neg (mt (xz_l (by omega) (by omega)).mp (by omega)), xz_nc (by omega), xf_c1 A t i h, nI_1, nI_1]
    · refine ⟨M2, ⟨i1, fun k hk => ?_, fun k k1 k2 => i3 k (by omega) k2⟩, ?_⟩
      · rw [xf_c0 A t i h] at hk
        rw [xf_e1, if_neg (fun q => h q.1)]
        exact i2 k hk
      · show f_X4_removeEventsAheadOf_4 (n + 1) M2 18 (nI t) (nI (xf_c A t i)) (nI i) = f_X4_removeEventsAheadOf_4 n _ 18 (nI t) (nI (xf_c A t (i + 1))) (nI (i + 1))
        rw [f_X4_removeEventsAheadOf_4, if_neg (by rw [e8, a0, xz_le (by omega) (by omega)]; omega), xz_ci (show i < 24 by omega) (by omega), xz_cl (by omega)]
        simp only [Nat.reduceAdd]
        rw [b3, if_pos ((xz_l (by omega) (by omega)).mpr (by omega)), xf_c0 A t i h, nI_1]
theorem xz_43a (j : Nat) : (4 : Int32) + 3 * nI j = nI (4 + 3 * j) := by
  show nI 4 + nI 3 * nI j = _
  rw [pk_mul, nI_add]
