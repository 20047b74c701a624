/-! LAYER 2: addPattern -/
theorem nI_neg {a : Nat} (ha : a < 2 ^ 30) {c : Int32} (hc : c < 0) : ¬ nI a = c := by
  intro q
  rw [← q, Int32.lt_iff_toInt_lt, nI_toInt (by omega), Int32.toInt_zero] at hc
  omega
def xg_A (A : xa_S) (P : xa_P) : xa_S := ((A.1.1, A.1.2.1, A.1.2.2.1, A.1.2.2.2 + 1), A.2.1, fun j => if j = A.1.2.2.2 then P else A.2.2 j)
theorem xg_W {A : xa_S} {P : xa_P} (h : xa_WS A) (hP : xa_WP P) (hn : A.1.2.2.2 < 4) : xa_WS (xg_A A P) := by
  obtain ⟨v1, v2, v3, v4, v5, v6⟩ := h
  refine ⟨v1, v2, v3, hn, v5, fun j hj => ?_⟩
  have hj2 : j < A.1.2.2.2 + 1 := hj
  show xa_WP (if j = A.1.2.2.2 then P else A.2.2 j)
  split
  · exact hP
  · exact v6 j (by omega)
theorem xp_addc {M : xm_M} {A : xa_S} {P : xa_P} (hA : xa_XS A M 18) (hP : xa_XP P M 1) (hW : xa_WP P) (hn : A.1.2.2.2 < 4) {n : Nat} (hf : 10 < n) : ∃ M', f_X4_addCopyOf n M 18 1 = some (nI A.1.2.2.2, M') ∧ xa_XS (xg_A A P) M' 18 ∧ ∀ k, ¬ (18 ≤ k ∧ k < 35) → M' k = M k := by
  obtain ⟨a0, a1, a2, a3, a4, a5⟩ := hA
  obtain ⟨M2, c1, c2, c3⟩ := xp_copyP (M := M) (o0 := 18 + 5 + 3 * A.1.2.2.2) (o1 := 1) (by omega) hP hW (n := n) hf
  unfold f_X4_addCopyOf
  have e8 := c3 18 (by omega)
  rw [a3, if_pos ((xz_ltc (c := 4) 4 rfl (by omega) (by omega)).mpr hn), xz_ci (show A.1.2.2.2 < 4 by omega) (by omega), xz_cl (by omega), c1, xz_b1, xz_lt, e8, a3, nI_1]
  refine ⟨_, rfl, ⟨by rw [xm_up_j _ _ (by omega), e8]; exact a0, by rw [xm_up_j _ _ (by omega), e8]; exact a1, by rw [xm_up_j _ _ (by omega), e8]; exact a2, xm_up_s _ _ _ _, fun i hi => ?_, fun j hj => ?_⟩, fun k hk => ?_⟩
  · rw [xm_up_k _ _ (by omega), xm_up_k _ _ (by omega), xm_up_k _ _ (by omega), c3 (18 + 1) (by omega), c3 (18 + 2) (by omega), c3 (18 + 3) (by omega)]
    exact a4 i hi
  · have hj2 : j < A.1.2.2.2 + 1 := hj
    show xa_XP (if j = A.1.2.2.2 then P else A.2.2 j) _ _
    by_cases hj3 : j = A.1.2.2.2
    · rw [if_pos hj3, hj3]
      exact c2.fr (fun k k1 k2 => xm_up_r _ _ (by omega))
    · rw [if_neg hj3]
      exact (a5 j (by omega)).fr (fun k k1 k2 => by rw [xm_up_r _ _ (by omega), c3 k (by omega)])
  · rw [xm_up_r _ _ (by omega), c3 k (by omega)]
