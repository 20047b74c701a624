/-! LAYER 2: all patterns; the line and the events of a state -/
def zr (N : xm_M) : Nat → xm_M
  | 0 => N
  | i + 1 => xm_up (zr N i) 9 i 0
theorem zr_k (N : xm_M) : ∀ i k, k ≠ 9 → zr N i k = N k
  | 0, _, _ => rfl
  | i + 1, k, h => by rw [zr, xm_up_r _ _ h]; exact zr_k N i k h
theorem zr_9 (N : xm_M) : ∀ i e, e < i → zr N i 9 e = 0
  | 0, e, h => absurd h (Nat.not_lt_zero e)
  | i + 1, e, h => by
    rw [zr]
    by_cases q : e = i
    · rw [q, xm_up_s]
    · rw [xm_up_j _ _ q]; exact zr_9 N i e (by omega)
section ALL
variable {ev : Nat → Nat × Nat × Nat} {ne np : Nat} {M N M' N' : xm_M} {Ps : Nat → xa_P}
def aX (ev : Nat → Nat × Nat × Nat) (ne np : Nat) (Ps : Nat → xa_P) (M : xm_M) : Prop := xL ev (io (eT ev) ne) ne M ∧ M 18 6 = nI np ∧ M 8 3 = -1 ∧ ∀ j, j < np → xa_XP (Ps j) M (18 + 5 + 3 * j)
def aM (ev : Nat → Nat × Nat × Nat) (ne np : Nat) (Ps : Nat → xa_P) (N : xm_M) : Prop := mE ev ne (N 1) ∧ N 1 3 = nI np ∧ N 0 14 = -5 ∧ ∀ j, j < np → xa_MP (Ps j) (N 1) (79 + 10 * j)
theorem j_all35 (hne : ne ≤ 25) (hE : eW ev ne) (hnp : np ≤ 4) (hP : ∀ j, j < np → xa_WP (Ps j)) : ∀ (d j : Nat) (M N : xm_M), j + d = np → aX ev ne np Ps M → aM ev ne np Ps N → (∀ s, s < ne → M 12 s = N 9 (pO ev ne s)) → ∃ (r : Nat) (M' N' : xm_M) (K : Nat), (∀ n, K ≤ n → ∀ x, f_X3_runAll_4 n M 18 x (nI j) = some (x + nI r, M')) ∧ (∀ n, K ≤ n → ∀ x, f_X7_allMatches_35 n N x (nI j) = some (x + nI r, N')) ∧ (∀ s, s < ne → M' 12 s = N' 9 (pO ev ne s)) ∧ (∀ k, k < 8 ∨ 13 ≤ k → M' k = M k) ∧ (∀ k, (1 ≤ k ∧ k ≤ 4) ∨ 11 ≤ k → N' k = N k) ∧ ∀ j, j ≠ 10 → j ≠ 11 → j ≠ 12 → N' 0 j = N 0 j
  | 0, j, M, N, hd, hX, hM, hS => by
    have : j = np := by omega
    subst this
    refine ⟨0, M, N, 1, fun n hn x => ?_, fun n hn x => ?_, hS, fun _ _ => rfl, fun _ _ => rfl, fun _ _ _ _ => rfl⟩
    · obtain ⟨n, rfl⟩ : ∃ q, n = q + 1 := ⟨n - 1, by omega⟩
      rw [f_X3_runAll_4, hX.2.1, if_pos ((xz_le (by omega) (by omega)).mpr (Nat.le_refl _))]
      exact congrArg (fun z => some (z, M)) (xz_a0 x).symm
    · obtain ⟨n, rfl⟩ : ∃ q, n = q + 1 := ⟨n - 1, by omega⟩
      rw [f_X7_allMatches_35, xz_i3, xz_ct, xz_t3, hM.2.1, if_pos ((xz_le (by omega) (by omega)).mpr (Nat.le_refl _))]
      exact congrArg (fun z => some (z, N)) (xz_a0 x).symm
  | d + 1, j, M, N, hd, hX, hM, hS => by
    obtain ⟨x1, x2, x3, x4⟩ := hX
    obtain ⟨m1, m2, m3, m4⟩ := hM
    have hj : j < np := by omega
    obtain ⟨r, dl, M1, N1, K, g1, g2, g3, g4, g5, g6, g7, g8, g9, -⟩ := j_run (T := False) (wr := none) (nw := 0) (la := 0) (o := 18 + 5 + 3 * j) hne hE (hP j hj) (show j < 4 by omega) (by omega) x1 (x4 j hj) m1 (m4 j hj) (fun t => t.elim) ⟨x3, m3⟩
    have n1 : N1 1 = N 1 := g8 1 (by omega)
    obtain ⟨r2, M2, N2, K2, h1, h2, h3, h4, h5, h6⟩ := j_all35 hne hE hnp hP d (j + 1) M1 N1 (by omega) ⟨⟨by rw [g6 13 (by omega)]; exact x1.1, fun k hk => by rw [g6 14 (by omega), g6 15 (by omega), g6 16 (by omega), g6 17 (by omega)]; exact x1.2 k hk⟩, by rw [g6 18 (by omega)]; exact x2, by rw [g7 3 (by omega)]; exact x3, fun i hi => (x4 i hi).fr (fun k k1 k2 => g6 k (by omega))⟩ ⟨by rw [n1]; exact m1, by rw [n1]; exact m2, by rw [g9 14 (by omega) (by omega) (by omega)]; exact m3, by rw [n1]; exact m4⟩ (fun s hs => by rw [(g5 s hs).1, (g5 s hs).2, hS s hs])
    refine ⟨r + r2, M2, N2, K + K2 + 1, fun n hn x => ?_, fun n hn x => ?_, h3, fun k hk => (h4 k hk).trans (g6 k hk), fun k hk => (h5 k hk).trans (g8 k hk), fun i i1 i2 i3 => (h6 i i1 i2 i3).trans (g9 i i1 i2 i3)⟩
    · obtain ⟨n, rfl⟩ : ∃ q, n = q + 1 := ⟨n - 1, by omega⟩
      rw [f_X3_runAll_4, x2, if_neg (mt (xz_le (by omega) (by omega)).mp (by omega)), xz_ci (show j < 4 by omega) (by omega), xz_cl (by omega), g1 n (by omega), xz_b1, g4.1, nI_1, h1 n (by omega)]
      exact congrArg (fun z => some (z, M2)) (xz_2 _ _ _ _ rfl)
    · obtain ⟨n, rfl⟩ : ∃ q, n = q + 1 := ⟨n - 1, by omega⟩
      rw [f_X7_allMatches_35, xz_i3, xz_ct, xz_t3, m2, if_neg (mt (xz_le (by omega) (by omega)).mp (by omega)), g2 n (by omega), xz_b1, g4.2.1, nI_1, h2 n (by omega)]
      exact congrArg (fun z => some (z, N2)) (xz_2 _ _ _ _ rfl)
theorem m_zero (hne : ne ≤ 25) : ∀ (d i : Nat) (N : xm_M), i + d = ne → N 1 0 = nI ne → ∀ n x, f_X7_allMatches_10 (n + d + 1) (zr N i) x (nI i) = f_X7_allMatches_35 n (zr N ne) x 0
  | 0, i, N, hd, h0, n, x => by
    have : i = ne := by omega
    subst this
    rw [f_X7_allMatches_10, xz_i0, xz_ct, xz_t0, zr_k _ _ 1 (by omega), h0, if_pos ((xz_le (by omega) (by omega)).mpr (Nat.le_refl _))]
  | d + 1, i, N, hd, h0, n, x => by
    rw [show n + (d + 1) + 1 = (n + d + 1) + 1 by omega, f_X7_allMatches_10, xz_i0, xz_ct, xz_t0, zr_k _ _ 1 (by omega), h0, if_neg (mt (xz_le (by omega) (by omega)).mp (by omega)), xz_ci (show i < 25 by omega) (by omega), xz_lt, xz_cl (by omega), nI_1]
    exact m_zero hne d (i + 1) N (by omega) h0 n x
/-- all patterns, on both sides; the class's shares begin at 0 -/
theorem j_all (hne : ne ≤ 25) (hE : eW ev ne) (hnp : np ≤ 4) (hP : ∀ j, j < np → xa_WP (Ps j)) (hX : aX ev ne np Ps M) (hM : mE ev ne (N 1) ∧ N 1 3 = nI np ∧ ∀ j, j < np → xa_MP (Ps j) (N 1) (79 + 10 * j)) (h12 : ∀ s, s < 25 → M 12 s = 0) : ∃ (r : Nat) (M' N' : xm_M) (K : Nat), (∀ n, K ≤ n → f_X3_runAll n M 18 = some (nI r, M')) ∧ (∀ n, K ≤ n → f_X7_allMatches n N = some (nI r, N')) ∧ (∀ s, s < ne → M' 12 s = N' 9 (pO ev ne s)) ∧ (∀ k, k < 8 ∨ 13 ≤ k → M' k = M k) ∧ (∀ k, (1 ≤ k ∧ k ≤ 4) ∨ 11 ≤ k → N' k = N k) ∧ ∀ j, j ≠ 10 → j ≠ 11 → j ≠ 12 → j ≠ 14 → N' 0 j = N 0 j := by
  obtain ⟨m1, m2, m4⟩ := hM
  have zk : ∀ k, k ≠ 0 → k ≠ 9 → zr (xm_up N 0 14 (-5)) ne k = N k := fun k k0 k9 => by rw [zr_k _ _ k k9, xm_up_r _ _ k0]
  have z1 := zk 1 (by omega) (by omega)
  have z0 : zr (xm_up N 0 14 (-5)) ne 0 = xm_up N 0 14 (-5) 0 := zr_k _ _ 0 (by omega)
  obtain ⟨r, M', N', K, h1, h2, h3, h4, h5, h6⟩ := j_all35 hne hE hnp hP np 0 M (zr (xm_up N 0 14 (-5)) ne) (by omega) hX ⟨by rw [z1]; exact m1, by rw [z1]; exact m2, by rw [z0, xm_up_s], by rw [z1]; exact m4⟩ (fun s hs => by
    have : pO ev ne s < ne := io_lt (eT ev) ne s hs
    rw [h12 s (by omega), zr_9 _ _ _ this])
  refine ⟨r, M', N', K + ne + 1, fun n hn => ?_, fun n hn => ?_, h3, h4, fun k hk => by rw [h5 k hk]; exact zk k (by omega) (by omega), fun j j1 j2 j3 j4 => by rw [h6 j j1 j2 j3, z0, xm_up_j _ _ j4]⟩
  · unfold f_X3_runAll
    have := h1 n (by omega) 0
    rw [Int32.zero_add] at this
    exact this
  · unfold f_X7_allMatches
    have := h2 (n - ne - 1) (by omega) 0
    rw [Int32.zero_add] at this
    rw [xz_lt, show n = (n - ne - 1) + ne + 1 by omega]
    have q := m_zero hne ne 0 (xm_up N 0 14 (-5)) (by omega) (by rw [xm_up_k _ _ (by omega)]; exact m1.1) (n - ne - 1) 0
    change f_X7_allMatches_10 (n - ne - 1 + ne + 1) (xm_up N 0 14 (-5)) 0 0 = _ at q
    rw [q]
    exact this
end ALL
section STT
variable {A : xa_S} {M N : xm_M}
theorem st_E (h : xa_WS A) : eW A.2.1 A.1.1 := h.2.2.2.2.1
theorem st_M (h : xa_MS A (N 1) 0) : mE A.2.1 A.1.1 (N 1) ∧ N 1 3 = nI A.1.2.2.2 ∧ ∀ j, j < A.1.2.2.2 → xa_MP (A.2.2 j) (N 1) (79 + 10 * j) := by
  obtain ⟨h0, h1, h2, h3, h4, h5⟩ := h
  refine ⟨⟨h0, fun e he => ?_⟩, h3, fun j hj => ?_⟩
  · have := h4 e he
    rw [show 0 + 4 + 3 * e = 4 + 3 * e by omega] at this
    exact this
  · have := h5 j hj
    rw [show 0 + 79 + 10 * j = 79 + 10 * j by omega] at this
    exact this
end STT
