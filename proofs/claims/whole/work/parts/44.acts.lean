/-! LAYER 2: acts on patterns, history -/
theorem xz_z0 : xm_z 0 = true := by decide
theorem xz_z1 : xm_z 1 = true := by decide
theorem xp_isP0 {M : xm_M} {np n : Nat} {x : Int32} (h6 : M 18 6 = nI np) (h : x < 0 ∨ nI np ≤ x) : f_X6_isPattern n M x = some (0, M) := by
  unfold f_X6_isPattern
  rw [h6]
  by_cases h0 : x < 0
  · rw [if_pos h0]
  · rw [if_neg h0, if_pos (h.resolve_left h0)]
theorem xp_isP1 {M : xm_M} {np n j : Nat} (h6 : M 18 6 = nI np) (hj : j < np) (hn : np ≤ 4) : f_X6_isPattern n M (nI j) = some (1, M) := by
  unfold f_X6_isPattern
  rw [h6, if_neg (nI_pos (by omega)), if_neg (mt (xz_le (by omega) (by omega)).mp (by omega))]
theorem xm_isP0 {N : xm_M} {np n : Nat} {x : Int32} (h3 : N 1 3 = nI np) (hn : np ≤ 4) (h : x < 0 ∨ nI np ≤ x) : f_X7_isPattern n N x = some (0, N) := by
  unfold f_X7_isPattern
  rw [xz_i3, xz_ct, xz_t3, h3, xz_mt0 (by omega) h, xz_b2, xz_z0, xz_ct]
theorem xm_isP1 {N : xm_M} {np n j : Nat} (h3 : N 1 3 = nI np) (hj : j < np) (hn : np ≤ 4) : f_X7_isPattern n N (nI j) = some (1, N) := by
  unfold f_X7_isPattern
  rw [xz_i3, xz_ct, xz_t3, h3, xz_mt1 hj (by omega), xz_b2, xz_z1, xz_ct]
theorem xz_79 (j k : Nat) : (79 : Int32) + 10 * nI j + nI k = nI (79 + 10 * j + k) := by
  show nI 79 + nI 10 * nI j + nI k = _
  rw [pk_mul, nI_add, nI_add]
theorem xm_ofP {N : xm_M} {n j k : Nat} (h : 79 + 10 * j + k < 119) : f_X7_ofPattern n N (nI j) (nI k) = some (N 1 (79 + 10 * j + k), N) := by
  unfold f_X7_ofPattern
  rw [xz_79, xz_ci h (by omega), xz_cl (by omega)]
/-- setWindow -/
theorem xr_setWindow {M N : xm_M} (hI : xr_Inv M N) (a1 a2 : Int32) : ∃ n1 n2 r M' N', f_X6_setWindow n1 M a1 a2 = some (r, M') ∧ f_X7_setWindow n2 N a1 a2 = some (r, N') ∧ xr_Inv M' N' := by
  have hI9 := hI
  obtain ⟨A, h, hn, ho, sn, tx, tl, hW, hX, hM⟩ := hI
  refine ⟨1000, 1000, ?_⟩
  unfold f_X6_setWindow f_X7_setWindow
  have x6 : M 18 6 = nI A.1.2.2.2 := hX.1.2.2.2.1
  have m3 : N 1 3 = nI A.1.2.2.2 := hM.1.2.2.2.1
  have wn : A.1.2.2.2 ≤ 4 := hW.1.2.2.2.1
  rcases xz_idx a1 A.1.2.2.2 (by omega) with hb | ⟨j, hj, rfl⟩
  · rw [xp_isP0 x6 hb, xm_isP0 m3 wn hb, xz_b2, xz_b2, if_pos rfl, if_pos rfl]
    exact ⟨-1, M, N, rfl, rfl, hI9⟩
  · rw [xp_isP1 x6 hj wn, xm_isP1 m3 hj wn, xz_b2, xz_b2, if_neg xz_10, if_neg xz_10]
    rcases xz_rng a2 1 1000 (by omega) (by omega) with hb | ⟨w, hw1, hw2, rfl⟩
    · have e1 : f_X6_isWithin 1000 M a2 1 1000 = some (0, M) := xz_iw0 hb
      have e2 : f_X7_in 1000 N a2.toInt64 1 1000 = some (0, N) := xz_mn0 (lo := 1) (hi := 1000) (by omega) (by omega) hb
      rw [e1, e2, xz_b2, xz_b2, if_pos rfl, if_pos rfl]
      exact ⟨-2, M, N, rfl, rfl, hI9⟩
    · have e1 : f_X6_isWithin 1000 M (nI w) 1 1000 = some (1, M) := xz_iw1 (lo := 1) (hi := 1000) hw1 hw2 (by omega)
      have e2 : f_X7_in 1000 N (nI w).toInt64 1 1000 = some (1, N) := xz_mn1 (lo := 1) (hi := 1000) hw1 hw2 (by omega)
      have e3 : f_X7_ofPattern 1000 N (nI j) 0 = some (N 1 (79 + 10 * j + 0), N) := xm_ofP (k := 0) (by omega)
      have e4 : (79 : Int32) + 10 * nI j + 0 = nI (79 + 10 * j + 0) := xz_79 j 0
      have wP := hW.1.2.2.2.2.2 j hj
      have pX := hX.1.2.2.2.2.2 j hj
      have pM := hM.1.2.2.2.2.2 j hj
      have px0 : M (18 + 5 + 3 * j) 0 = nI (A.2.2 j).1.1 := pX.1
      have pm0 : N 1 (79 + 10 * j + 0) = nI (A.2.2 j).1.1 := by
        have := pM.1
        rw [show 0 + 79 + 10 * j = 79 + 10 * j + 0 by omega] at this
        exact this
      rw [e1, e2, xz_b2, xz_b2, if_neg xz_10, if_neg xz_10, e3, xz_b2, xz_ci (show j < 4 by omega) (by omega), xz_cl (by omega), px0, pm0, e4]
      by_cases he : (A.2.2 j).1.1 = w
      · rw [if_pos (congrArg nI he), if_pos (congrArg nI he)]
        exact ⟨-5, M, N, rfl, rfl, hI9⟩
      · have w1 := wP.2.1
        rw [if_neg (mt (xz_e (by omega) (by omega)).mp he), if_neg (mt (xz_e (by omega) (by omega)).mp he)]
        obtain ⟨M1, c1, c2, c3⟩ := xi_rec hW hX (n := 1000) (by omega)
        obtain ⟨N1, d1, d2, d3⟩ := xm_remember (N := N) (n := 1000) (by omega)
        rw [c1, d1, xz_b1, xz_b1, xz_ci (show j < 4 by omega) (by omega), xz_ci (show 79 + 10 * j + 0 < 119 by omega) (by omega), xz_lt, xz_lt, xz_cl (by omega)]
        obtain ⟨A', hA'⟩ : ∃ A' : xa_S, A' = (A.1, A.2.1, fun i => if i = j then ((w, (A.2.2 j).1.2), (A.2.2 j).2) else A.2.2 i) := ⟨_, rfl⟩
        have hP1 : ∀ i, A'.2.2 i = if i = j then ((w, (A.2.2 j).1.2), (A.2.2 j).2) else A.2.2 i := by intro i; rw [hA']
        have h11 : A'.1 = A.1 := by rw [hA']
        have h21 : A'.2.1 = A.2.1 := by rw [hA']
        have wA : xa_WS A' := by
          obtain ⟨v1, v2, v3, v4, v5, v6⟩ := hW.1
          refine ⟨by rw [h11]; exact v1, by rw [h11]; exact v2, by rw [h11]; exact v3, by rw [h11]; exact v4, by rw [h11, h21]; exact v5, fun i hi => ?_⟩
          rw [h11] at hi
          rw [hP1]
          by_cases hij : i = j
          · rw [if_pos hij]
            exact ⟨hw1, hw2, wP.2.2⟩
          · rw [if_neg hij]
            exact v6 i hi
        have e9 : N1 1 = N 1 := d2 1 (by omega)
        obtain ⟨N', f1, f2⟩ := xi_act (A' := A') hW hM (N1 := xm_up N1 1 (79 + 10 * j + 0) (nI w)) (fun k hk => by rw [xm_up_k _ _ (by omega)]; exact d3 k hk) (by
          obtain ⟨g0, g1, g2, g3, g4, g5⟩ := hM.1
          refine ⟨by rw [xm_up_j _ _ (by omega), e9, h11]; exact g0, by rw [xm_up_j _ _ (by omega), e9, h11]; exact g1, by rw [xm_up_j _ _ (by omega), e9, h11]; exact g2, by rw [xm_up_j _ _ (by omega), e9, h11]; exact g3, fun i hi => ?_, fun i hi => ?_⟩
          · rw [h11] at hi
            have := hW.1.1
            rw [xm_up_j _ _ (by omega), xm_up_j _ _ (by omega), xm_up_j _ _ (by omega), e9, h21]
            exact g4 i hi
          · rw [h11] at hi
            rw [hP1]
            by_cases hij : i = j
            · subst hij
              rw [if_pos rfl]
              obtain ⟨u0, u1, u2, u3⟩ := g5 i hi
              refine ⟨by rw [show 0 + 79 + 10 * i = 79 + 10 * i + 0 by omega, xm_up_s], by rw [xm_up_j _ _ (by omega), e9]; exact u1, by rw [xm_up_j _ _ (by omega), e9]; exact u2, fun k hk => ?_⟩
              rw [xm_up_j _ _ (by omega), e9]
              exact u3 k hk
            · rw [if_neg hij]
              exact (g5 i hi).fr (hW.1.2.2.2.2.2 i hi) (fun k hk => by rw [xm_up_j _ _ (by omega), e9])) (fun k k1 k2 => by rw [xm_up_r _ _ k1]; exact d2 k k2) (nI (A.2.2 j).1.1) (n := 1000) (by omega)
        rw [f1, xz_b2]
        refine ⟨_, _, N', rfl, rfl, A', _, _, _, sn, tx, tl, hW.act wA, c2.now (hW.act hW.1) ?_ (fun k hk => by rw [xm_up_r _ _ (by omega)]), f2⟩
        obtain ⟨g0, g1, g2, g3, g4, g5⟩ := c2.1
        refine ⟨by rw [xm_up_k _ _ (by omega), h11]; exact g0, by rw [xm_up_k _ _ (by omega), h11]; exact g1, by rw [xm_up_k _ _ (by omega), h11]; exact g2, by rw [xm_up_k _ _ (by omega), h11]; exact g3, fun i hi => ?_, fun i hi => ?_⟩
        · rw [h11] at hi
          rw [xm_up_k _ _ (by omega), xm_up_k _ _ (by omega), xm_up_k _ _ (by omega), h21]
          exact g4 i hi
        · rw [h11] at hi
          rw [hP1]
          by_cases hij : i = j
          · subst hij
            rw [if_pos rfl]
            obtain ⟨u0, u1, u2, u3, u4⟩ := g5 i hi
            refine ⟨by rw [xm_up_s], by rw [xm_up_j _ _ (by omega)]; exact u1, by rw [xm_up_j _ _ (by omega)]; exact u2, by rw [xm_up_j _ _ (by omega)]; exact u3, fun k hk => ?_⟩
            rw [xm_up_k _ _ (by omega), xm_up_k _ _ (by omega)]
            exact u4 k hk
          · rw [if_neg hij]
            exact (g5 i hi).fr (fun k k1 k2 => xm_up_r _ _ (by omega))
/-- keep -/
theorem xm_keep {N : xm_M} {n : Nat} (hf : 200 < n) : ∃ q, f_X7_keep n N = some q ∧ (q.1 = N 1 0 ∧ (∀ k, k ≠ 0 → k ≠ 4 → q.2 k = N k) ∧ (∀ j, j ≠ 5 → q.2 0 j = N 0 j) ∧ q.2 0 5 = 1 ∧ ∀ j, j < 119 → q.2 4 j = N 1 j) := by
  unfold f_X7_keep
  refine xz_for (fun n M i => f_X7_keep_2 n M (nI i)) 119 0 (fun i M2 => (∀ k, k ≠ 4 → M2 k = N k) ∧ ∀ j, j < i → M2 4 j = N 1 j) _ ?_ ?_ n 0 N (by omega) (by omega) ⟨fun _ _ => rfl, fun j hj => by omega⟩
  · intro n M2 _ hI
    refine ⟨(N 1 0, xm_up M2 0 5 1), ?_, rfl, fun k k1 k2 => ?_, fun j hj => ?_, ?_, fun j hj => ?_⟩
    · show f_X7_keep_2 (n + 1) M2 (nI 119) = _
      rw [f_X7_keep_2, if_pos (by decide), xz_lt, xz_i0, xz_ct, xz_t0, xm_up_k _ _ (by omega), hI.1 1 (by omega)]
    · show xm_up M2 0 5 1 k = _
      rw [xm_up_r _ _ k1]
      exact hI.1 k k2
    · show xm_up M2 0 5 1 0 j = _
      rw [xm_up_j _ _ hj, hI.1 0 (by omega)]
    · show xm_up M2 0 5 1 0 5 = 1
      exact xm_up_s _ _ _ _
    · show xm_up M2 0 5 1 4 j = _
      rw [xm_up_k _ _ (by omega)]
      exact hI.2 j hj
  · intro n i M2 _ hi hI
    refine ⟨xm_up M2 4 i (M2 1 i), ⟨fun k hk => by rw [xm_up_r _ _ hk]; exact hI.1 k hk, fun j hj => ?_⟩, ?_⟩
    · by_cases hji : j = i
      · subst hji
        rw [xm_up_s, hI.1 1 (by omega)]
      · rw [xm_up_j _ _ hji]
        exact hI.2 j (by omega)
    · show f_X7_keep_2 (n + 1) M2 (nI i) = f_X7_keep_2 n _ (nI (i + 1))
      rw [f_X7_keep_2, if_neg (mt (xz_cle (c := 119) 119 rfl (by omega) (by omega)).mp (by omega))]
      simp only [xz_ci hi (show 119 ≤ 1000 by omega), xz_lt, xz_cl (show i < 2 ^ 31 by omega), nI_1]
theorem xr_keep {M N : xm_M} (hI : xr_Inv M N) : ∃ n1 n2 r M' N', f_X6_keep n1 M = some (r, M') ∧ f_X7_keep n2 N = some (r, N') ∧ xr_Inv M' N' := by
  obtain ⟨A, h, hn, ho, sn, tx, tl, hW, hX, hM⟩ := hI
  refine ⟨1000, 1000, ?_⟩
  obtain ⟨⟨r, N'⟩, d1, d2, d3, d4, d5, d6⟩ := xm_keep (N := N) (n := 1000) (by omega)
  dsimp only at d2 d3 d4 d5 d6
  rw [d1]
  unfold f_X6_keep
  obtain ⟨w1, w2, w3, w4, w5, w6, w7⟩ := hW
  obtain ⟨x1, x2, x3, x4, x5⟩ := hX
  obtain ⟨m1, m2, m3, m4, m5⟩ := hM
  obtain ⟨M1, c1, c2, c3⟩ := xp_copyS (M := M) (s := 35) (o := 18) (by omega) x1 w1 (n := 1000) (by omega)
  rw [c1, xz_b1, xz_lt, xm_up_k _ _ (by omega), c3 18 (by omega), x1.1]
  refine ⟨_, _, N', rfl, ?_, A, h, hn, ho, some A, tx, tl, ⟨w1, w2, w3, w4, fun B hB => by cases hB; exact w1, w6, w7⟩, ⟨?_, ?_, ⟨by rw [xm_up_s], ?_⟩, ?_, fun i hi => ?_⟩, ⟨?_, ⟨?_, fun i hi => ?_⟩, ⟨d5, ?_⟩, ?_, fun i hi => ?_⟩⟩
  · rw [d2, m1.1]
  · exact x1.fr w1.2.2.2.1 (fun k k1 k2 => by rw [xm_up_r _ _ (by omega), c3 k (by omega)])
  · exact x2.fr w4 (by rw [xm_up_k _ _ (by omega), c3 4 (by omega)]) (by rw [xm_up_k _ _ (by omega), c3 4 (by omega)]) (fun k k1 => by rw [xm_up_r _ _ (by omega), c3 k (by omega)])
  · exact c2.fr w1.2.2.2.1 (fun k k1 k2 => by rw [xm_up_r _ _ (by omega)])
  · rw [xm_up_k _ _ (by omega), c3 6 (by omega)]; exact x4
  · rw [xm_up_k _ _ (by omega), c3 7 (by omega)]; exact x5 i hi
  · rw [d3 1 (by omega) (by omega)]; exact m1
  · rw [d4 3 (by omega)]; exact m2.1
  · rw [d3 3 (by omega) (by omega)]; exact m2.2 i hi
  · exact m1.fr w1 (fun k hk => by rw [Nat.zero_add]; exact d6 k hk)
  · rw [d4 17 (by omega)]; exact m4
  · rw [d3 11 (by omega) (by omega)]; exact m5 i hi
/-- undo -/
theorem xm_undo {N : xm_M} {hn : Nat} (h3 : N 0 3 = nI (hn + 1)) (h4 : hn < 4) {n : Nat} (hf : 200 < n) : ∃ q, f_X7_undo n N = some q ∧ (q.1 = nI hn ∧ (∀ k, k ≠ 0 → k ≠ 1 → q.2 k = N k) ∧ (∀ j, j ≠ 3 → q.2 0 j = N 0 j) ∧ q.2 0 3 = nI hn ∧ ∀ j, j < 119 → q.2 1 j = N 3 (119 * hn + j)) := by
  unfold f_X7_undo
  rw [h3, if_neg (mt (xz_ec (c := 0) 0 rfl (by omega) (by omega)).mp (by omega)), xz_lt, nI_pred]
  have g3 : xm_up N 0 3 (nI hn) 0 3 = nI hn := xm_up_s _ _ _ _
  refine xz_for (fun n M i => f_X7_undo_22 n M (nI i)) 119 0 (fun i M2 => (∀ k, k ≠ 1 → M2 k = xm_up N 0 3 (nI hn) k) ∧ ∀ j, j < i → M2 1 j = N 3 (119 * hn + j)) _ ?_ ?_ n 0 _ (by omega) (by omega) ⟨fun _ _ => rfl, fun j hj => by omega⟩
  · intro n M2 _ hI
    refine ⟨(nI hn, M2), ?_, rfl, fun k k1 k2 => ?_, fun j hj => ?_, ?_, fun j hj => hI.2 j hj⟩
    · show f_X7_undo_22 (n + 1) M2 (nI 119) = _
      rw [f_X7_undo_22, if_pos (by decide), hI.1 0 (by omega), g3]
    · show M2 k = _
      rw [hI.1 k k2, xm_up_r _ _ k1]
    · show M2 0 j = _
      rw [hI.1 0 (by omega), xm_up_j _ _ hj]
    · show M2 0 3 = _
      rw [hI.1 0 (by omega), g3]
  · intro n i M2 _ hi hI
    have g4 : M2 0 3 = nI hn := by rw [hI.1 0 (by omega), g3]
    have g5 : M2 3 = N 3 := by rw [hI.1 3 (by omega), xm_up_r _ _ (by omega)]
    refine ⟨xm_up M2 1 i (M2 3 (119 * hn + i)), ⟨fun k hk => by rw [xm_up_r _ _ hk]; exact hI.1 k hk, fun j hj => ?_⟩, ?_⟩
    · by_cases hji : j = i
      · subst hji
        rw [xm_up_s, g5]
      · rw [xm_up_j _ _ hji]
        exact hI.2 j (by omega)
    · show f_X7_undo_22 (n + 1) M2 (nI i) = f_X7_undo_22 n _ (nI (i + 1))
      rw [f_X7_undo_22, if_neg (mt (xz_cle (c := 119) 119 rfl (by omega) (by omega)).mp (by omega)), g4, xz_119]
      simp only [xz_ci hi (show 119 ≤ 1000 by omega), xz_ci (show 119 * hn + i < 476 by omega) (show 476 ≤ 1000 by omega), xz_lt, xz_cl (show i < 2 ^ 31 by omega), xz_cl (show 119 * hn + i < 2 ^ 31 by omega), nI_1]
theorem xr_undo {M N : xm_M} (hI : xr_Inv M N) : ∃ n1 n2 r M' N', f_X6_undo n1 M = some (r, M') ∧ f_X7_undo n2 N = some (r, N') ∧ xr_Inv M' N' := by
  have hI9 := hI
  obtain ⟨A, h, hn, ho, sn, tx, tl, hW, hX, hM⟩ := hI
  obtain ⟨w1, w2, w3, w4, w5, w6, w7⟩ := hW
  obtain ⟨x1, x2, x3, x4, x5⟩ := hX
  obtain ⟨m1, m2, m3, m4, m5⟩ := hM
  refine ⟨1000, 1000, ?_⟩
  unfold f_X6_undo
  cases hn with
  | zero =>
    have y1 : M 4 2 = 0 := x2.2.1
    have y2 : N 0 3 = 0 := m2.1
    unfold f_X7_undo
    rw [y1, y2, if_pos rfl, if_pos rfl]
    exact ⟨-5, M, N, rfl, rfl, hI9⟩
  | succ hn =>
    obtain ⟨⟨r, N'⟩, d1, d2, d3, d4, d5, d6⟩ := xm_undo (N := N) m2.1 (by omega) (n := 1000) (by omega)
    dsimp only at d2 d3 d4 d5 d6
    rw [d1]
    obtain ⟨e1, e2, e3⟩ := x2
    unfold f_X0_removeLatestInto
    rw [e2, if_neg (mt (xz_ec (c := 0) 0 rfl (by omega) (by omega)).mp (by omega)), if_pos ((xz_clt (c := 0) 0 rfl (by omega) (by omega)).mpr (by omega)), nI_pred, xz_lt, xm_up_s, xm_up_j _ _ (by omega), e1, nI_add, xz_rem4 _ (by omega), xz_ci (Nat.mod_lt _ (by omega)) (by omega), xz_cl (by omega)]
    have hB := e3 hn (by omega)
    have wB := w4 hn (by omega)
    obtain ⟨M1, c1, c2, c3⟩ := xp_copyS (M := xm_up M 4 2 (nI hn)) (s := 18) (o := 52 + 17 * ((ho + hn) % 4)) (by omega) (hB.fr wB.2.2.2.1 (fun k k1 k2 => xm_up_r _ _ (by omega))) wB (n := 1000) (by omega)
    rw [c1, xz_b1, xz_b1, c3 4 (by omega), xm_up_s]
    refine ⟨_, _, N', rfl, by rw [d2], h hn, h, hn, ho, sn, tx, tl, ⟨wB, by omega, w3, fun i hi => w4 i (by omega), w5, w6, w7⟩, ⟨c2, ⟨?_, ?_, fun i hi => ?_⟩, ?_, ?_, fun i hi => ?_⟩, ⟨?_, ⟨d5, fun i hi => ?_⟩, ?_, ?_, fun i hi => ?_⟩⟩
    · rw [c3 4 (by omega), xm_up_j _ _ (by omega)]; exact e1
    · rw [c3 4 (by omega), xm_up_s]
    · exact (e3 i (by omega)).fr (w4 i (by omega)).2.2.2.1 (fun k k1 k2 => by rw [c3 k (by omega), xm_up_r _ _ (by omega)])
    · exact x3.fr w5 (by rw [c3 0 (by omega), xm_up_k _ _ (by omega)]) (fun k k1 k2 => by rw [c3 k (by omega), xm_up_r _ _ (by omega)])
    · rw [c3 6 (by omega), xm_up_k _ _ (by omega)]; exact x4
    · rw [c3 7 (by omega), xm_up_k _ _ (by omega)]; exact x5 i hi
    · exact (m2.2 hn (by omega)).fr wB (fun k hk => by rw [Nat.zero_add]; exact d6 k hk)
    · rw [d3 3 (by omega) (by omega)]; exact m2.2 i (by omega)
    · cases sn with
      | none => show _ = _; rw [d4 5 (by omega)]; exact m3
      | some B => exact ⟨by rw [d4 5 (by omega)]; exact m3.1, by rw [d3 4 (by omega) (by omega)]; exact m3.2⟩
    · rw [d4 17 (by omega)]; exact m4
    · rw [d3 11 (by omega) (by omega)]; exact m5 i hi
/-- restore -/
theorem xr_restore {M N : xm_M} (hI : xr_Inv M N) : ∃ n1 n2 r M' N', f_X6_restore n1 M = some (r, M') ∧ f_X7_restore n2 N = some (r, N') ∧ xr_Inv M' N' := by
  have hI9 := hI
  obtain ⟨A, h, hn, ho, sn, tx, tl, hW, hX, hM⟩ := hI
  refine ⟨1000, 1000, ?_⟩
  unfold f_X6_restore f_X7_restore
  cases sn with
  | none =>
    have y1 : M 0 2 = 0 := hX.2.2.1
    have y2 : N 0 5 = 0 := hM.2.2.1
    rw [y1, y2, if_pos rfl, if_pos rfl]
    exact ⟨-5, M, N, rfl, rfl, hI9⟩
  | some B =>
    have y1 : M 0 2 = 1 := hX.2.2.1.1
    have y2 : N 0 5 = 1 := hM.2.2.1.1
    have wB := hW.2.2.2.2.1 B rfl
    rw [y1, y2, if_neg xz_10, if_neg xz_10]
    obtain ⟨M1, c1, c2, c3⟩ := xi_rec hW hX (n := 1000) (by omega)
    obtain ⟨N1, d1, d2, d3⟩ := xm_remember (N := N) (n := 1000) (by omega)
    obtain ⟨M2, a1, a2, a3⟩ := xp_copyS (M := M1) (s := 18) (o := 35) (by omega) c2.2.2.1.2 wB (n := 1000) (by omega)
    rw [c1, d1, xz_b1, xz_b1, a1, xz_b1, a2.1]
    have n4 : N1 4 = N 4 := d2 4 (by omega)
    have key : ∃ q, f_X7_restore_16 1000 N1 0 = some q ∧ (q.1 = nI B.1.1 ∧ xi_M B (xh_push A h hn) (xh_n hn) (some B) tx tl q.2) := by
      refine xz_for (fun n M i => f_X7_restore_16 n M (nI i)) 119 600 (fun i N2 => (∀ k, k ≠ 1 → N2 k = N1 k) ∧ ∀ j, j < i → N2 1 j = N 4 j) _ ?_ ?_ 1000 0 _ (by omega) (by omega) ⟨fun _ _ => rfl, fun j hj => by omega⟩
      · intro n N2 hK hJ
        have e4 : xa_MS B (N2 1) 0 := (hM.2.2.1.2).fr wB (fun k hk => by rw [Nat.zero_add]; exact hJ.2 k hk)
        obtain ⟨N', f1, f2⟩ := xi_act (A' := B) hW hM (N1 := N2) (fun k hk => by rw [hJ.1 2 (by omega)]; exact d3 k hk) e4 (fun k k1 k2 => by rw [hJ.1 k k1]; exact d2 k k2) (N2 1 0) (n := n) (by omega)
        refine ⟨(N2 1 0, N'), ?_, e4.1, f2⟩
        show f_X7_restore_16 (n + 1) N2 (nI 119) = _
        rw [f_X7_restore_16, if_pos (by decide), xz_i0, xz_ct, xz_t0, f1, xz_b2]
      · intro n i N2 _ hi hJ
        refine ⟨xm_up N2 1 i (N2 4 i), ⟨fun k hk => by rw [xm_up_r _ _ hk]; exact hJ.1 k hk, fun j hj => ?_⟩, ?_⟩
        · by_cases hji : j = i
          · subst hji
            rw [xm_up_s, hJ.1 4 (by omega), n4]
          · rw [xm_up_j _ _ hji]
            exact hJ.2 j (by omega)
        · show f_X7_restore_16 (n + 1) N2 (nI i) = f_X7_restore_16 n _ (nI (i + 1))
          rw [f_X7_restore_16, if_neg (mt (xz_cle (c := 119) 119 rfl (by omega) (by omega)).mp (by omega))]
          simp only [xz_ci hi (show 119 ≤ 1000 by omega), xz_lt, xz_cl (show i < 2 ^ 31 by omega), nI_1]
    obtain ⟨⟨r, N'⟩, k1, k2, k3⟩ := key
    dsimp only at k2 k3
    rw [k1]
    exact ⟨_, M2, N', rfl, by rw [k2], B, _, _, _, some B, tx, tl, hW.act wB, c2.now (hW.act hW.1) a2 a3, k3⟩
