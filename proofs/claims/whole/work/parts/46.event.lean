/-! LAYER 2: event, forget -/
def xe_A (A : xa_S) (k v t : Nat) : xa_S := ((A.1.1 + 1, (if A.1.2.1 < t then t else A.1.2.1), A.1.2.2.1, A.1.2.2.2), (fun i => if i = A.1.1 then (k, v, t) else A.2.1 i), A.2.2)
theorem xp_errB {n : Nat} {M : xm_M} {k v t : Int32} (hb : (k < 97 ∨ 104 < k) ∨ (v < 0 ∨ 99 < v) ∨ (t < 0 ∨ 9999 < t)) : f_X6_errorOfEvent n M k v t = some (-2, M) := by
  unfold f_X6_errorOfEvent f_X6_isKind
  by_cases h1 : k < 97
  · rw [if_pos h1, xz_b2, if_pos rfl]
  · by_cases h2 : 104 < k
    · rw [if_neg h1, if_pos h2, xz_b2, if_pos rfl]
    · rw [if_neg h1, if_neg h2, xz_b2, if_neg xz_10]
      by_cases h3 : v < 0 ∨ 99 < v
      · rw [xz_iw0 h3, xz_b2, if_pos rfl]
      · have h5 : f_X6_isWithin n M v 0 99 = some (1, M) := by
          unfold f_X6_isWithin
          rw [if_neg (fun q => h3 (Or.inl q)), if_neg (fun q => h3 (Or.inr q))]
        have h4 : t < 0 ∨ 9999 < t := by
          rcases hb with (q | q) | q | q
          · exact absurd q h1
          · exact absurd q h2
          · exact absurd q h3
          · exact q
        rw [h5, xz_b2, if_neg xz_10, xz_iw0 h4, xz_b2, if_pos rfl]
theorem xp_errG {n : Nat} {M : xm_M} {k v t nw la : Nat} (hk : k < 8) (hv : v ≤ 99) (ht : t ≤ 9999) (h4 : M 18 4 = nI nw) (h5 : M 18 5 = nI la) (w4 : nw ≤ 9999) (w5 : la ≤ 500) : f_X6_errorOfEvent n M (nI (97 + k)) (nI v) (nI t) = some (if nw ≤ t + la then 0 else -4, M) := by
  have e1 : f_X6_isWithin n M (nI v) 0 99 = some (1, M) := xz_iw1 (lo := 0) (hi := 99) (by omega) hv (by omega)
  have e2 : f_X6_isWithin n M (nI t) 0 9999 = some (1, M) := xz_iw1 (lo := 0) (hi := 9999) (by omega) ht (by omega)
  unfold f_X6_errorOfEvent f_X6_isKind
  rw [if_neg (mt (xz_ltc (c := 97) 97 rfl (by omega) (by omega)).mp (by omega)), if_neg (mt (xz_clt (c := 104) 104 rfl (by omega) (by omega)).mp (by omega)), xz_b2, if_neg xz_10, e1, xz_b2, if_neg xz_10, e2, xz_b2, if_neg xz_10, h4, h5]
  by_cases hl : nw ≤ t + la
  · rw [if_pos ((xz_sle (by omega) (by omega) (by omega)).mpr hl), if_pos hl]
  · rw [if_neg (mt (xz_sle (by omega) (by omega) (by omega)).mp hl), if_neg hl]
theorem xm_wellB {n : Nat} {N : xm_M} {k v t : Int32} (hb : (k < 97 ∨ 104 < k) ∨ (v < 0 ∨ 99 < v) ∨ (t < 0 ∨ 9999 < t)) : f_X7_isWell n N k v t = some (0, N) := by
  unfold f_X7_isWell
  rcases xz_rng k 97 104 (by omega) (by omega) with q | ⟨j, j1, j2, rfl⟩
  · have e1 : f_X7_in n N k.toInt64 97 104 = some (0, N) := xz_mn0 (lo := 97) (hi := 104) (by omega) (by omega) q
    rw [e1, xz_b2, if_pos rfl]
  · have e1 : f_X7_in n N (nI j).toInt64 97 104 = some (1, N) := xz_mn1 (lo := 97) (hi := 104) j1 j2 (by omega)
    rw [e1, xz_b2, if_neg xz_10]
    have h0 : ¬ (nI j < 97 ∨ 104 < nI j) := by
      rw [xz_ltc (c := 97) 97 rfl (by omega) (by omega), xz_clt (c := 104) 104 rfl (by omega) (by omega)]
      omega
    rcases xz_rng v 0 99 (by omega) (by omega) with q | ⟨i, i1, i2, rfl⟩
    · have e2 : f_X7_in n N v.toInt64 0 99 = some (0, N) := xz_mn0 (lo := 0) (hi := 99) (by omega) (by omega) q
      rw [e2, xz_b2, if_pos rfl]
    · have e2 : f_X7_in n N (nI i).toInt64 0 99 = some (1, N) := xz_mn1 (lo := 0) (hi := 99) i1 i2 (by omega)
      rw [e2, xz_b2, if_neg xz_10]
      have h1 : ¬ (nI i < 0 ∨ 99 < nI i) := by
        rw [xz_ltc (c := 0) 0 rfl (by omega) (by omega), xz_clt (c := 99) 99 rfl (by omega) (by omega)]
        omega
      have h4 : t < 0 ∨ 9999 < t := by
        rcases hb with q | q | q
        · exact absurd q h0
        · exact absurd q h1
        · exact q
      have e3 : f_X7_in n N t.toInt64 0 9999 = some (0, N) := xz_mn0 (lo := 0) (hi := 9999) (by omega) (by omega) h4
      rw [e3, xz_b2, if_pos rfl]
theorem xm_wellG {n : Nat} {N : xm_M} {k v t : Nat} (hk : k < 8) (hv : v ≤ 99) (ht : t ≤ 9999) : f_X7_isWell n N (nI (97 + k)) (nI v) (nI t) = some (1, N) := by
  unfold f_X7_isWell
  have e1 : f_X7_in n N (nI (97 + k)).toInt64 97 104 = some (1, N) := xz_mn1 (lo := 97) (hi := 104) (by omega) (by omega) (by omega)
  have e2 : f_X7_in n N (nI v).toInt64 0 99 = some (1, N) := xz_mn1 (lo := 0) (hi := 99) (by omega) hv (by omega)
  have e3 : f_X7_in n N (nI t).toInt64 0 9999 = some (1, N) := xz_mn1 (lo := 0) (hi := 9999) (by omega) ht (by omega)
  rw [e1, xz_b2, if_neg xz_10, e2, xz_b2, if_neg xz_10, e3, xz_b2, if_neg xz_10]
theorem xm_lateG {n : Nat} {N : xm_M} {t nw la : Nat} (ht : t ≤ 9999) (h1 : N 1 1 = nI nw) (h2 : N 1 2 = nI la) (w4 : nw ≤ 9999) (w5 : la ≤ 500) : f_X7_isLate n N (nI t) = some (if nw ≤ t + la then 0 else 1, N) := by
  unfold f_X7_isLate
  rw [xz_i1, xz_i2, xz_ct, xz_ct, xz_t1, xz_t2, h1, h2]
  by_cases hl : nw ≤ t + la
  · rw [if_pos ((xz_sle (by omega) (by omega) (by omega)).mpr hl), if_pos hl]
  · rw [if_neg (mt (xz_sle (by omega) (by omega) (by omega)).mp hl), if_neg hl]
theorem xz_43 (j k : Nat) : (4 : Int32) + 3 * nI j + nI k = nI (4 + 3 * j + k) := by
  show nI 4 + nI 3 * nI j + nI k = _
  rw [pk_mul, nI_add, nI_add]
/-- an argument of event: well, or not -/
theorem xe_split {c : Nat} (hc : c < 65536) (v t : Int32) : ((nI c < 97 ∨ 104 < nI c) ∨ (v < 0 ∨ 99 < v) ∨ (t < 0 ∨ 9999 < t)) ∨ ∃ k v' t' : Nat, k < 8 ∧ v' ≤ 99 ∧ t' ≤ 9999 ∧ nI c = nI (97 + k) ∧ v = nI v' ∧ t = nI t' := by
  rcases xz_rng (nI c) 97 104 (by omega) (by omega) with q | ⟨j, j1, j2, hj⟩
  · exact Or.inl (Or.inl q)
  · rcases xz_rng v 0 99 (by omega) (by omega) with q | ⟨i, i1, i2, rfl⟩
    · exact Or.inl (Or.inr (Or.inl q))
    · rcases xz_rng t 0 9999 (by omega) (by omega) with q | ⟨l, l1, l2, rfl⟩
      · exact Or.inl (Or.inr (Or.inr q))
      · exact Or.inr ⟨j - 97, i, l, by omega, i2, l2, by rw [hj]; congr 1; omega, rfl, rfl⟩
theorem xp_add {M : xm_M} {A : xa_S} {k v t : Nat} (hA : xa_XS A M 18) (hW : xa_WS A) (h24 : A.1.1 < 24) (hk : k < 8) (ht : t ≤ 9999) {n : Nat} : ∃ M', f_X4_addEvent n M 18 (nI (97 + k)) (nI v) (nI t) = some (nI A.1.1, M') ∧ xa_XS (xe_A A k v t) M' 18 ∧ ∀ r, ¬ (18 ≤ r ∧ r < 35) → M' r = M r := by
  obtain ⟨a0, a1, a2, a3, a4, a5⟩ := hA
  obtain ⟨w0, w1, w2, w3, w4, w5⟩ := hW
  unfold f_X4_addEvent f_X4_putEvent
  rw [a0, if_pos ((xz_ltc (c := 24) 24 rfl (by omega) (by omega)).mpr h24)]
  simp only [xz_ci h24 (show 24 ≤ 1000 by omega), xz_lt, xz_b1, xz_cl (show A.1.1 < 2 ^ 31 by omega)]
  refine ⟨_, rfl, ⟨?_, ?_, ?_, ?_, fun i hi => ?_, fun j hj => ?_⟩, fun r hr => ?_⟩
  · rw [xm_up_j _ _ (by omega), xm_up_s, xm_up_k _ _ (by omega), xm_up_k _ _ (by omega), xm_up_k _ _ (by omega), a0, nI_1]
    rfl
  · rw [xm_up_s, xm_up_j _ _ (by omega), xm_up_k _ _ (by omega), xm_up_k _ _ (by omega), xm_up_k _ _ (by omega), a1]
    show _ = nI (if A.1.2.1 < t then t else A.1.2.1)
    by_cases hl : A.1.2.1 < t
    · rw [if_pos ((xz_l (by omega) (by omega)).mpr hl), if_pos hl]
    · rw [if_neg (mt (xz_l (by omega) (by omega)).mp hl), if_neg hl]
  · rw [xm_up_j _ _ (by omega), xm_up_j _ _ (by omega), xm_up_k _ _ (by omega), xm_up_k _ _ (by omega), xm_up_k _ _ (by omega)]
    exact a2
  · rw [xm_up_j _ _ (by omega), xm_up_j _ _ (by omega), xm_up_k _ _ (by omega), xm_up_k _ _ (by omega), xm_up_k _ _ (by omega)]
    exact a3
  · have hi2 : i < A.1.1 + 1 := hi
    show _ = nI (97 + (if i = A.1.1 then (k, v, t) else A.2.1 i).1) ∧ _ = nI (if i = A.1.1 then (k, v, t) else A.2.1 i).2.1 ∧ _ = nI (if i = A.1.1 then (k, v, t) else A.2.1 i).2.2
    by_cases hin : i = A.1.1
    · subst hin
      rw [if_pos rfl, xm_up_k _ _ (by omega), xm_up_k _ _ (by omega), xm_up_k _ _ (by omega), xm_up_k _ _ (by omega), xm_up_s, xm_up_k _ _ (by omega), xm_up_k _ _ (by omega), xm_up_k _ _ (by omega), xm_up_s, xm_up_k _ _ (by omega), xm_up_k _ _ (by omega), xm_up_s, xz_nc (by omega)]
      exact ⟨rfl, rfl, rfl⟩
    · rw [if_neg hin, xm_up_k _ _ (by omega), xm_up_k _ _ (by omega), xm_up_j _ _ hin, xm_up_j _ _ hin, xm_up_j _ _ hin, xm_up_k _ _ (by omega), xm_up_k _ _ (by omega), xm_up_j _ _ hin, xm_up_j _ _ hin, xm_up_j _ _ hin, xm_up_k _ _ (by omega), xm_up_k _ _ (by omega), xm_up_j _ _ hin, xm_up_j _ _ hin, xm_up_j _ _ hin]
      exact a4 i (by omega)
  · exact (a5 j hj).fr (fun r k1 k2 => by rw [xm_up_r _ _ (by omega), xm_up_r _ _ (by omega), xm_up_r _ _ (by omega), xm_up_r _ _ (by omega), xm_up_r _ _ (by omega)])
  · rw [xm_up_r _ _ (by omega), xm_up_r _ _ (by omega), xm_up_r _ _ (by omega), xm_up_r _ _ (by omega), xm_up_r _ _ (by omega)]
theorem xm_comes {N : xm_M} {A : xa_S} {k v t : Nat} (hA : xa_MS A (N 1) 0) (hW : xa_WS A) (hk : k < 8) (hv : v ≤ 99) (ht : t ≤ 9999) {n : Nat} : ∃ N', f_X7_comes n N (nI (97 + k)) (nI v) (nI t) = some N' ∧ xa_MS (xe_A A k v t) (N' 1) 0 ∧ ∀ r, r ≠ 1 → N' r = N r := by
  obtain ⟨a0, a1, a2, a3, a4, a5⟩ := hA
  obtain ⟨w0, w1, w2, w3, w4, w5⟩ := hW
  have i0 : (4 : Int32) + 3 * nI A.1.1 + 0 = nI (4 + 3 * A.1.1 + 0) := xz_43 _ 0
  have i1 : (4 : Int32) + 3 * nI A.1.1 + 1 = nI (4 + 3 * A.1.1 + 1) := xz_43 _ 1
  have i2 : (4 : Int32) + 3 * nI A.1.1 + 2 = nI (4 + 3 * A.1.1 + 2) := xz_43 _ 2
  have i9 : nI (97 + k) - 97 = nI k := by
    rw [show (97 : Int32) = nI 97 from rfl, pk_sub (by omega), show 97 + k - 97 = k by omega]
  unfold f_X7_comes
  rw [xz_t0, xz_t1, a0, i0, i1, i2, i9]
  simp only [xz_i0, xz_i1, xz_ct, xz_ci (show 4 + 3 * A.1.1 + 0 < 119 by omega) (show 119 ≤ 1000 by omega), xz_ci (show 4 + 3 * A.1.1 + 1 < 119 by omega) (show 119 ≤ 1000 by omega), xz_ci (show 4 + 3 * A.1.1 + 2 < 119 by omega) (show 119 ≤ 1000 by omega), xz_lt, xz_cl (show 4 + 3 * A.1.1 + 0 < 2 ^ 31 by omega), xz_cl (show 4 + 3 * A.1.1 + 1 < 2 ^ 31 by omega), xz_cl (show 4 + 3 * A.1.1 + 2 < 2 ^ 31 by omega)]
  generalize hG : xm_up (xm_up (xm_up N 1 (4 + 3 * A.1.1 + 0) (nI k)) 1 (4 + 3 * A.1.1 + 1) (nI v)) 1 (4 + 3 * A.1.1 + 2) (nI t) = G
  have g1 : ∀ j, j ≠ 4 + 3 * A.1.1 → j ≠ 4 + 3 * A.1.1 + 1 → j ≠ 4 + 3 * A.1.1 + 2 → G 1 j = N 1 j := fun j j1 j2 j3 => by rw [← hG, xm_up_j _ _ j3, xm_up_j _ _ j2, xm_up_j _ _ (by omega)]
  have g2 : G 1 (4 + 3 * A.1.1) = nI k ∧ G 1 (4 + 3 * A.1.1 + 1) = nI v ∧ G 1 (4 + 3 * A.1.1 + 2) = nI t := by
    rw [← hG]
    exact ⟨by rw [xm_up_j _ _ (by omega), xm_up_j _ _ (by omega)]; exact xm_up_s _ _ _ _, by rw [xm_up_j _ _ (by omega), xm_up_s], by rw [xm_up_s]⟩
  have g3 : ∀ r, r ≠ 1 → G r = N r := fun r hr => by rw [← hG, xm_up_r _ _ hr, xm_up_r _ _ hr, xm_up_r _ _ hr]
  have e0 : G 1 0 = nI A.1.1 := by rw [g1 0 (by omega) (by omega) (by omega)]; exact a0
  have e1 : G 1 1 = nI A.1.2.1 := by rw [g1 1 (by omega) (by omega) (by omega)]; exact a1
  rw [xm_up_j _ _ (show 1 ≠ 0 by omega), e0, e1, nI_1]
  have key : ∀ w : Nat, w = (if A.1.2.1 < t then t else A.1.2.1) → xa_MS (xe_A A k v t) (xm_up (xm_up G 1 0 (nI (A.1.1 + 1))) 1 1 (nI w) 1) 0 ∧ ∀ r, r ≠ 1 → xm_up (xm_up G 1 0 (nI (A.1.1 + 1))) 1 1 (nI w) r = N r := by
    intro w hw
    have lo : ∀ j, 2 ≤ j → xm_up (xm_up G 1 0 (nI (A.1.1 + 1))) 1 1 (nI w) 1 j = G 1 j := fun j hj => by rw [xm_up_j _ _ (by omega), xm_up_j _ _ (by omega)]
    refine ⟨⟨by rw [xm_up_j _ _ (by omega), xm_up_s]; rfl, by rw [show 0 + 1 = 1 by omega, xm_up_s, hw]; rfl, ?_, ?_, fun i hi => ?_, fun j hj => ?_⟩, fun r hr => by rw [xm_up_r _ _ hr, xm_up_r _ _ hr, g3 r hr]⟩
    · rw [lo _ (by omega), g1 _ (by omega) (by omega) (by omega)]; exact a2
    · rw [lo _ (by omega), g1 _ (by omega) (by omega) (by omega)]; exact a3
    · have hi2 : i < A.1.1 + 1 := hi
      rw [lo _ (by omega), lo _ (by omega), lo _ (by omega)]
      show _ = nI (if i = A.1.1 then (k, v, t) else A.2.1 i).1 ∧ _ = nI (if i = A.1.1 then (k, v, t) else A.2.1 i).2.1 ∧ _ = nI (if i = A.1.1 then (k, v, t) else A.2.1 i).2.2
      by_cases hin : i = A.1.1
      · subst hin
        rw [if_pos rfl, show 0 + 4 + 3 * A.1.1 = 4 + 3 * A.1.1 by omega]
        exact g2
      · rw [if_neg hin, g1 _ (by omega) (by omega) (by omega), g1 _ (by omega) (by omega) (by omega), g1 _ (by omega) (by omega) (by omega)]
        exact a4 i (by omega)
    · refine (a5 j hj).fr (w5 j hj) (fun r hr => ?_)
      have hj4 : j < A.1.2.2.2 := hj
      rw [lo _ (by omega), g1 _ (by omega) (by omega) (by omega)]
  by_cases hl : A.1.2.1 < t
  · rw [if_neg (mt (xz_le (by omega) (by omega)).mp (by omega))]
    exact ⟨_, rfl, key t (by rw [if_pos hl])⟩
  · rw [if_pos ((xz_le (by omega) (by omega)).mpr (by omega))]
    exact ⟨_, rfl, key A.1.2.1 (by rw [if_neg hl])⟩
theorem xe_W {A : xa_S} {k v t : Nat} (hW : xa_WS A) (h24 : A.1.1 < 24) (hk : k < 8) (hv : v ≤ 99) (ht : t ≤ 9999) : xa_WS (xe_A A k v t) := by
  obtain ⟨w0, w1, w2, w3, w4, w5⟩ := hW
  refine ⟨h24, ?_, w2, w3, fun i hi => ?_, w5⟩
  · show (if A.1.2.1 < t then t else A.1.2.1) ≤ 9999
    split <;> omega
  · have hi2 : i < A.1.1 + 1 := hi
    show (if i = A.1.1 then (k, v, t) else A.2.1 i).1 < 8 ∧ (if i = A.1.1 then (k, v, t) else A.2.1 i).2.1 ≤ 99 ∧ (if i = A.1.1 then (k, v, t) else A.2.1 i).2.2 ≤ 9999
    by_cases hin : i = A.1.1
    · rw [if_pos hin]; exact ⟨hk, hv, ht⟩
    · rw [if_neg hin]; exact w4 i (by omega)
theorem xz_m4 : ¬ (-4 : Int32) = 0 := by decide
/-- event -/
theorem xr_event {M N : xm_M} (hI : xr_Inv M N) {c1 : Nat} (hc1 : c1 < 65536) (a2 a3 : Int32) : ∃ n1 n2 r M' N', f_X6_event n1 M (nI c1) a2 a3 = some (r, M') ∧ f_X7_event n2 N (nI c1) a2 a3 = some (r, N') ∧ xr_Inv M' N' := by
  have hI9 := hI
  obtain ⟨A, h, hn, ho, sn, tx, tl, hW, hX, hM⟩ := hI
  refine ⟨1000, 1000, ?_⟩
  unfold f_X6_event f_X7_event
  rcases xe_split hc1 a2 a3 with hb | ⟨k, v, t, hk, hv, ht, e1, rfl, rfl⟩
  · rw [xp_errB hb, xm_wellB hb, xz_b2, xz_b2, if_neg (by decide : ¬ (-2 : Int32) = 0), if_pos rfl]
    exact ⟨-2, M, N, rfl, rfl, hI9⟩
  · rw [e1, xp_errG hk hv ht hX.1.2.1 hX.1.2.2.1 hW.1.2.1 hW.1.2.2.1, xm_wellG hk hv ht, xz_b2, xz_b2, if_neg xz_10, xm_lateG ht hM.1.2.1 hM.1.2.2.1 hW.1.2.1 hW.1.2.2.1, xz_b2]
    by_cases hl : A.1.2.1 ≤ t + A.1.2.2.1
    · rw [if_pos hl, if_pos hl, if_pos rfl, if_pos rfl, xz_i0, xz_ct, xz_t0, hX.1.1, hM.1.1]
      have w0 := hW.1.1
      by_cases h24 : A.1.1 = 24
      · rw [h24, if_neg (by decide : ¬ nI 24 < 24), if_pos (by decide : nI 24 = 24)]
        exact ⟨-3, M, N, rfl, rfl, hI9⟩
      · have hlt : A.1.1 < 24 := by omega
        rw [if_pos ((xz_ltc (c := 24) 24 rfl (by omega) (by omega)).mpr hlt), if_neg (mt (xz_ec (c := 24) 24 rfl (by omega) (by omega)).mp h24)]
        obtain ⟨M1, c1, c2, c3⟩ := xi_rec hW hX (n := 1000) (by omega)
        obtain ⟨N1, d1, d2, d3⟩ := xm_remember (N := N) (n := 1000) (by omega)
        obtain ⟨M2, b1, b2, b3⟩ := xp_add (v := v) c2.1 hW.1 hlt hk ht (n := 1000)
        have e9 : N1 1 = N 1 := d2 1 (by omega)
        obtain ⟨N2, g1, g2, g3⟩ := xm_comes (N := N1) (by rw [e9]; exact hM.1) hW.1 hk hv ht (n := 1000)
        rw [c1, d1, xz_b1, xz_b1, b1, xz_b2, g1, xz_b1, xz_ct, g2.1]
        obtain ⟨N', f1, f2⟩ := xi_act (A' := xe_A A k v t) hW hM (N1 := N2) (fun j hj => by rw [g3 2 (by omega)]; exact d3 j hj) g2 (fun r k1 k2 => by rw [g3 r k1]; exact d2 r k2) (nI A.1.1) (n := 1000) (by omega)
        have e8 : nI (xe_A A k v t).1.1 - 1 = nI A.1.1 := nI_pred A.1.1
        rw [e8, f1, xz_b2]
        exact ⟨_, M2, N', rfl, rfl, xe_A A k v t, _, _, _, sn, tx, tl, hW.act (xe_W hW.1 hlt hk hv ht), c2.now (hW.act hW.1) b2 b3, f2⟩
    · rw [if_neg hl, if_neg hl, if_neg xz_m4, if_neg xz_10]
      exact ⟨-4, M, N, rfl, rfl, hI9⟩
