/-! LAYER 2: event, forget -/
def xe_A (A : xa_S) (k v t : Nat) : xa_S := ((A.1.1 + 1, (if A.1.2.1 < t then t else A.1.2.1), A.1.2.2.1, A.1.2.2.2), (fun i => if i = A.1.1 then (k, v, t) else A.2.1 i), A.2.2)
theorem xp_errB {n : Nat} {M : xm_M} {k v t : Int32} (hb : (k < 97 ∨ 104 < k) ∨ (v < 0 ∨ 99 < v) ∨ (t < 0 ∨ 9999 < t)) : f_X6_errorOfEvent n M k v t = some (-2, M) := by
  unfold f_X6_errorOfEvent f_X6_isKind
  by_cases h1 : k < 97
  · rw [if_pos h1, xz_b2, if_pos rfl]
  · by_cases h2 : 104 < k
    · rw [if_neg h1, if_pos h2, xz_b2, if_pos rfl]
    · rw [if_neg h1, if_neg h2, xz_b2, if_neg xz_10]
      by_cases h3 : v < 0 ∨ 99 < v
      · rw [xz_iw0 h3, xz_b2, if_pos rfl]
      · have h5 : f_X6_isWithin n M v 0 99 = some (1, M) := by
          unfold f_X6_isWithin
          rw [if_neg (fun q => h3 (Or.inl q)), if_neg (fun q => h3 (Or.inr q))]
        have h4 : t < 0 ∨ 9999 < t := by
          rcases hb with (q | q) | q | q
          · exact absurd q h1
          · exact absurd q h2
          · exact absurd q h3
          · exact q
        rw [h5, xz_b2, if_neg xz_10, xz_iw0 h4, xz_b2, if_pos rfl]
theorem xp_errG {n : Nat} {M : xm_M} {k v t nw la : Nat} (hk : k < 8) (hv : v ≤ 99) (ht : t ≤ 9999) (h4 : M 18 4 = nI nw) (h5 : M 18 5 = nI la) (w4 : nw ≤ 9999) (w5 : la ≤ 500) : f_X6_errorOfEvent n M (nI (97 + k)) (nI v) (nI t) = some (if nw ≤ t + la then 0 else -4, M) := by
  have e1 : f_X6_isWithin n M (nI v) 0 99 = some (1, M) := xz_iw1 (lo := 0) (hi := 99) (by omega) hv (by omega)
  have e2 : f_X6_isWithin n M (nI t) 0 9999 = some (1, M) := xz_iw1 (lo := 0) (hi := 9999) (by omega) ht (by omega)
  unfold f_X6_errorOfEvent f_X6_isKind
  rw [if_neg (mt (xz_ltc (c := 97) 97 rfl (by omega) (by omega)).mp (by omega)), if_neg (mt (xz_clt (c := 104) 104 rfl (by omega) (by omega)).mp (by omega)), xz_b2, if_neg xz_10, e1, xz_b2, if_neg xz_10, e2, xz_b2, if_neg xz_10, h4, h5]
  by_cases hl : nw ≤ t + la
  · rw [if_pos ((xz_sle (by omega) (by omega) (by omega)).mpr hl), if_pos hl]
  · rw [if_neg (mt (xz_sle (by omega) (by omega) (by omega)).mp hl), if_neg hl]
theorem xz_43 (j k : Nat) : (4 : Int32) + 3 * nI j + nI k = nI (4 + 3 * j + k) := by
  show nI 4 + nI 3 * nI j + nI k = _
  rw [pk_mul, nI_add, nI_add]
/-- an argument of event: well, or not -/
theorem xe_split {c : Nat} (hc : c < 65536) (v t : Int32) : ((nI c < 97 ∨ 104 < nI c) ∨ (v < 0 ∨ 99 < v) ∨ (t < 0 ∨ 9999 < t)) ∨ ∃ k v' t' : Nat, k < 8 ∧ v' ≤ 99 ∧ t' ≤ 9999 ∧ nI c = nI (97 + k) ∧ v = nI v' ∧ t = nI t' := by
  rcases xz_rng (nI c) 97 104 (by omega) (by omega) with q | ⟨j, j1, j2, hj⟩
  · exact Or.inl (Or.inl q)
  · rcases xz_rng v 0 99 (by omega) (by omega) with q | ⟨i, i1, i2, rfl⟩
    · exact Or.inl (Or.inr (Or.inl q))
    · rcases xz_rng t 0 9999 (by omega) (by omega) with q | ⟨l, l1, l2, rfl⟩
      · exact Or.inl (Or.inr (Or.inr q))
      · exact Or.inr ⟨j - 97, i, l, by omega, i2, l2, by rw [hj]; congr 1; omega, rfl, rfl⟩
theorem xp_add {M : xm_M} {A : xa_S} {k v t : Nat} (hA : xa_XS A M 18) (hW : xa_WS A) (h24 : A.1.1 < 24) (hk : k < 8) (ht : t ≤ 9999) {n : Nat} : ∃ M', f_X4_addEvent n M 18 (nI (97 + k)) (nI v) (nI t) = some (nI A.1.1, M') ∧ xa_XS (xe_A A k v t) M' 18 ∧ ∀ r, ¬ (18 ≤ r ∧ r < 35) → M' r = M r := by
  obtain ⟨a0, a1, a2, a3, a4, a5⟩ := hA
  obtain ⟨w0, w1, w2, w3, w4, w5⟩ := hW
  unfold f_X4_addEvent f_X4_putEvent
  rw [a0, if_pos ((xz_ltc (c := 24) 24 rfl (by omega) (by omega)).mpr h24)]
  simp only [xz_ci h24 (show 24 ≤ 1000 by omega), xz_lt, xz_b1, xz_cl (show A.1.1 < 2 ^ 31 by omega)]
  refine ⟨_, rfl, ⟨?_, ?_, ?_, ?_, fun i hi => ?_, fun j hj => ?_⟩, fun r hr => ?_⟩
  · rw [xm_up_j _ _ (by omega), xm_up_s, xm_up_k _ _ (by omega), xm_up_k _ _ (by omega), xm_up_k _ _ (by omega), a0, nI_1]
    rfl
  · rw [xm_up_s, xm_up_j _ _ (by omega), xm_up_k _ _ (by omega), xm_up_k _ _ (by omega), xm_up_k _ _ (by omega), a1]
    show _ = nI (if A.1.2.1 < t then t else A.1.2.1)
    by_cases hl : A.1.2.1 < t
    · rw [if_pos ((xz_l (by omega) (by omega)).mpr hl), if_pos hl]
    · rw [if_neg (mt (xz_l (by omega) (by omega)).mp hl), if_neg hl]
  · rw [xm_up_j _ _ (by omega), xm_up_j _ _ (by omega), xm_up_k _ _ (by omega), xm_up_k _ _ (by omega), xm_up_k _ _ (by omega)]
    exact a2
  · rw [xm_up_j _ _ (by omega), xm_up_j _ _ (by omega), xm_up_k _ _ (by omega), xm_up_k _ _ (by omega), xm_up_k _ _ (by omega)]
    exact a3
  · have hi2 : i < A.1.1 + 1 := hi
    show _ = nI (97 + (if i = A.1.1 then (k, v, t) else A.2.1 i).1) ∧ _ = nI (if i = A.1.1 then (k, v, t) else A.2.1 i).2.1 ∧ _ = nI (if i = A.1.1 then (k, v, t) else A.2.1 i).2.2
    by_cases hin : i = A.1.1
    · subst hin
      rw [if_pos rfl, xm_up_k _ _ (by omega), xm_up_k _ _ (by omega), xm_up_k _ _ (by omega), xm_up_k _ _ (by omega), xm_up_s, xm_up_k _ _ (by omega), xm_up_k _ _ (by omega), xm_up_k _ _ (by omega), xm_up_s, xm_up_k _ _ (by omega), xm_up_k _ _ (by omega), xm_up_s, xz_nc (by omega)]
      exact ⟨rfl, rfl, rfl⟩
    · rw [if_neg hin, xm_up_k _ _ (by omega), xm_up_k _ _ (by omega), xm_up_j _ _ hin, xm_up_j _ _ hin, xm_up_j _ _ hin, xm_up_k _ _ (by omega), xm_up_k _ _ (by omega), xm_up_j _ _ hin, xm_up_j _ _ hin, xm_up_j _ _ hin, xm_up_k _ _ (by omega), xm_up_k _ _ (by omega), xm_up_j _ _ hin, xm_up_j _ _ hin, xm_up_j _ _ hin]
      exact a4 i (by omega)
  · exact (a5 j hj).fr (fun r k1 k2 => by rw [xm_up_r _ _ (by omega), xm_up_r _ _ (by omega), xm_up_r _ _ (by omega), xm_up_r _ _ (by omega), xm_up_r _ _ (by omega)])
  · rw [xm_up_r _ _ (by omega), xm_up_r _ _ (by omega), xm_up_r _ _ (by omega), xm_up_r _ _ (by omega), xm_up_r _ _ (by omega)]
theorem xe_W {A : xa_S} {k v t : Nat} (hW : xa_WS A) (h24 : A.1.1 < 24) (hk : k < 8) (hv : v ≤ 99) (ht : t ≤ 9999) : xa_WS (xe_A A k v t) := by
  obtain ⟨w0, w1, w2, w3, w4, w5⟩ := hW
  refine ⟨h24, ?_, w2, w3, fun i hi => ?_, w5⟩
  · show (if A.1.2.1 < t then t else A.1.2.1) ≤ 9999
    split <;> omega
  · have hi2 : i < A.1.1 + 1 := hi
    show (if i = A.1.1 then (k, v, t) else A.2.1 i).1 < 8 ∧ (if i = A.1.1 then (k, v, t) else A.2.1 i).2.1 ≤ 99 ∧ (if i = A.1.1 then (k, v, t) else A.2.1 i).2.2 ≤ 9999
    by_cases hin : i = A.1.1
    · rw [if_pos hin]; exact ⟨hk, hv, ht⟩
    · rw [if_neg hin]; exact w4 i (by omega)
theorem xz_m4 : ¬ (-4 : Int32) = 0 := by decide
