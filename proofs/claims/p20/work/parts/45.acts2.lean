/-! LAYER 2: dropPattern, step -/
/-- the patterns without one -/
def xd_A (A : xa_S) (p : Nat) : xa_S := ((A.1.1, A.1.2.1, A.1.2.2.1, A.1.2.2.2 - 1), A.2.1, fun j => if j < p then A.2.2 j else A.2.2 (j + 1))
theorem xd_W {A : xa_S} {p : Nat} (h : xa_WS A) (hp : p < A.1.2.2.2) : xa_WS (xd_A A p) := by
  obtain ⟨v1, v2, v3, v4, v5, v6⟩ := h
  refine ⟨v1, v2, v3, ?_, v5, fun j hj => ?_⟩
  · show A.1.2.2.2 - 1 ≤ 4
    omega
  · have hj2 : j < A.1.2.2.2 - 1 := hj
    show xa_WP (if j < p then A.2.2 j else A.2.2 (j + 1))
    split
    · exact v6 j (by omega)
    · exact v6 (j + 1) (by omega)
theorem xp_drop {M : xm_M} {A : xa_S} {p : Nat} (hA : xa_XS A M 18) (hW : xa_WS A) (hp : p < A.1.2.2.2) {n : Nat} (hf : 60 < n) : ∃ q, f_X4_removePattern n M 18 (nI p) = some q ∧ (q.1 = nI (A.1.2.2.2 - 1) ∧ xa_XS (xd_A A p) q.2 18 ∧ ∀ k, ¬ (18 ≤ k ∧ k < 35) → q.2 k = M k) := by
  obtain ⟨a0, a1, a2, a3, a4, a5⟩ := hA
  obtain ⟨v1, v2, v3, v4, v5, v6⟩ := hW
  unfold f_X4_removePattern
  refine xz_for (fun n M i => f_X4_removePattern_2 n M 18 (nI i)) (A.1.2.2.2 - 1) 12 (fun i M2 => p ≤ i ∧ (∀ k, (k < 23 ∨ 35 ≤ k) → M2 k = M k) ∧ (∀ j, j < i → xa_XP ((xd_A A p).2.2 j) M2 (18 + 5 + 3 * j)) ∧ ∀ j, i ≤ j → j < A.1.2.2.2 → xa_XP (A.2.2 j) M2 (18 + 5 + 3 * j)) _ ?_ ?_ n p M (by omega) (by omega) ⟨Nat.le_refl _, fun _ _ => rfl, fun j hj => ?_, fun j _ hj => a5 j hj⟩
  · intro n M2 _ hI
    obtain ⟨i0, i1, i2, i3⟩ := hI
    have e3 : M2 18 6 = nI A.1.2.2.2 := by rw [i1 18 (by omega)]; exact a3
    refine ⟨(nI (A.1.2.2.2 - 1), xm_up M2 18 6 (nI (A.1.2.2.2 - 1))), ?_, rfl, ⟨?_, ?_, ?_, xm_up_s M2 18 6 (nI (A.1.2.2.2 - 1)), fun i hi => ?_, fun j hj => ?_⟩, fun k hk => ?_⟩
    · show f_X4_removePattern_2 (n + 1) M2 18 (nI (A.1.2.2.2 - 1)) = _
      have e9 : nI A.1.2.2.2 - 1 = nI (A.1.2.2.2 - 1) := pk_sub (b := 1) (by omega)
      rw [f_X4_removePattern_2, nI_1, e3, if_pos ((xz_le (by omega) (by omega)).mpr (by omega)), xz_lt, e9, xm_up_s]
    · show xm_up M2 18 6 (nI (A.1.2.2.2 - 1)) 18 0 = _
      rw [xm_up_j _ _ (by omega), i1 18 (by omega)]; exact a0
    · show xm_up M2 18 6 (nI (A.1.2.2.2 - 1)) 18 4 = _
      rw [xm_up_j _ _ (by omega), i1 18 (by omega)]; exact a1
    · show xm_up M2 18 6 (nI (A.1.2.2.2 - 1)) 18 5 = _
      rw [xm_up_j _ _ (by omega), i1 18 (by omega)]; exact a2
    · show xm_up M2 18 6 (nI (A.1.2.2.2 - 1)) (18 + 1) i = _ ∧ xm_up M2 18 6 (nI (A.1.2.2.2 - 1)) (18 + 2) i = _ ∧ xm_up M2 18 6 (nI (A.1.2.2.2 - 1)) (18 + 3) i = _
      rw [xm_up_k _ _ (by omega), xm_up_k _ _ (by omega), xm_up_k _ _ (by omega), i1 (18 + 1) (by omega), i1 (18 + 2) (by omega), i1 (18 + 3) (by omega)]
      exact a4 i hi
    · have hj2 : j < A.1.2.2.2 - 1 := hj
      exact (i2 j hj2).fr (fun k k1 k2 => xm_up_r _ _ (by omega))
    · show xm_up M2 18 6 (nI (A.1.2.2.2 - 1)) k = _
      rw [xm_up_r _ _ (by omega), i1 k (by omega)]
  · intro n i M2 hK hi hI
    obtain ⟨i0, i1, i2, i3⟩ := hI
    have e3 : M2 18 6 = nI A.1.2.2.2 := by rw [i1 18 (by omega)]; exact a3
    obtain ⟨M3, c1, c2, c3⟩ := xp_copyP (M := M2) (o0 := 18 + 5 + 3 * i) (o1 := 18 + 5 + 3 * (i + 1)) (by omega) (i3 (i + 1) (by omega) (by omega)) (v6 (i + 1) (by omega)) (n := n) (by omega)
    refine ⟨M3, ⟨by omega, fun k hk => ?_, fun j hj => ?_, fun j hj hjn => ?_⟩, ?_⟩
    · rw [c3 k (by omega)]
      exact i1 k hk
    · by_cases hji : j = i
      · subst hji
        show xa_XP (if j < p then A.2.2 j else A.2.2 (j + 1)) _ _
        rw [if_neg (by omega)]
        exact c2
      · exact (i2 j (by omega)).fr (fun k k1 k2 => c3 k (by omega))
    · exact (i3 j (by omega) hjn).fr (fun k k1 k2 => c3 k (by omega))
    · show f_X4_removePattern_2 (n + 1) M2 18 (nI i) = f_X4_removePattern_2 n _ 18 (nI (i + 1))
      rw [f_X4_removePattern_2, nI_1, e3, if_neg (mt (xz_le (by omega) (by omega)).mp (by omega)), xz_ci (show i < 4 by omega) (by omega), xz_ci (show i + 1 < 4 by omega) (by omega), xz_cl (by omega), xz_cl (by omega), c1, xz_b1]
  · show xa_XP (if j < p then A.2.2 j else A.2.2 (j + 1)) _ _
    rw [if_pos hj]
    exact a5 j (by omega)
