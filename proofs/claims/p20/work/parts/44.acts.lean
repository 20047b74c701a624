/-! LAYER 2: acts on patterns, history -/
theorem xz_z0 : xm_z 0 = true := by decide
theorem xz_z1 : xm_z 1 = true := by decide
theorem xp_isP0 {M : xm_M} {np n : Nat} {x : Int32} (h6 : M 18 6 = nI np) (h : x < 0 ∨ nI np ≤ x) : f_X6_isPattern n M x = some (0, M) := by
  unfold f_X6_isPattern
  rw [h6]
  by_cases h0 : x < 0
  · rw [if_pos h0]
  · rw [if_neg h0, if_pos (h.resolve_left h0)]
theorem xp_isP1 {M : xm_M} {np n j : Nat} (h6 : M 18 6 = nI np) (hj : j < np) (hn : np ≤ 4) : f_X6_isPattern n M (nI j) = some (1, M) := by
  unfold f_X6_isPattern
  rw [h6, if_neg (nI_pos (by omega)), if_neg (mt (xz_le (by omega) (by omega)).mp (by omega))]
theorem xz_79 (j k : Nat) : (79 : Int32) + 10 * nI j + nI k = nI (79 + 10 * j + k) := by
  show nI 79 + nI 10 * nI j + nI k = _
  rw [pk_mul, nI_add, nI_add]
