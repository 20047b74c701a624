/-! THE LAW, pure: areAlike -/
section LA
variable {A : xa_S} {h : Nat → xa_S} {hn ho : Nat} {tx tx' : Nat → Nat} {tl : Nat} {M N : xm_M}
theorem j_count (hI : jI A h hn ho tx tx' tl M N) {w : Nat} (hw : w < 8) {n : Nat} (hn9 : 500 < n) : ∃ M' N', f_X6_count n M (nI w) = some (nI (cntV A hn w), M') ∧ f_X6_count n N (nI w) = some (nI (cntV A hn w), N') ∧ jI A h hn ho tx tx' tl M' N' := by
  obtain ⟨M', a1, a2⟩ := y_count hI.1 hw
  obtain ⟨N', b1, b2⟩ := y_count hI.2 hw
  refine ⟨M', N', a1 n hn9, ?_, a2, b2⟩
  rw [b1 n hn9, m_cnt hI.1.1.1 hn hw]
theorem j_pattern (hI : jI A h hn ho tx tx' tl M N) {j w : Nat} (hj : j < A.1.2.2.2) (hw : w < 7) {n : Nat} (hn9 : 500 < n) : ∃ M' N', f_X6_pattern n M (nI j) (nI w) = some (nI (patV A j w), M') ∧ f_X6_pattern n N (nI j) (nI w) = some (nI (patV A j w), N') ∧ jI A h hn ho tx tx' tl M' N' := by
  obtain ⟨M', a1, a2⟩ := y_pattern hI.1 hj hw
  obtain ⟨N', b1, b2⟩ := y_pattern hI.2 (j := j) (by rw [mirS_1]; exact hj) hw
  refine ⟨M', N', a1 n hn9, ?_, a2, b2⟩
  rw [b1 n hn9, m_pat hI.1.1.1 hj hw]
theorem j_match (hI : jI A h hn ho tx tx' tl M N) {j rk ix : Nat} (hj : j < A.1.2.2.2) (hr : rk < 2 ^ 31) (hx : ix < (A.2.2 j).1.2.2.2) {n : Nat} (hn9 : 500 < n) : ∃ M' N', f_X6_match n M (nI j) (nI rk) (nI ix) = some (matV A j rk ix, M') ∧ f_X6_match n N (nI j) (nI rk) (nI ix) = some (matV A j rk ix, N') ∧ jI A h hn ho tx tx' tl M' N' := by
  obtain ⟨M', a1, a2⟩ := y_match hI.1 hj hr hx
  obtain ⟨N', b1, b2⟩ := y_match hI.2 (j := j) (by rw [mirS_1]; exact hj) hr (by rw [mirS_p, mirP_1]; exact hx)
  refine ⟨M', N', a1 n hn9, ?_, a2, b2⟩
  rw [b1 n hn9, m_mat hI.1.1.1 hj]
/-- two plain steps at least -/
theorem pl_two {P : xa_P} (hP : xa_WP P) (hL : pL P) : 2 ≤ P.1.2.2.2 := by
  obtain ⟨w1, w2, w3, w4, w5, w6, ⟨w7, w7'⟩, w8, w9⟩ := hP
  obtain ⟨s, hs⟩ : ∃ s, P.1.2.2.1 = s + 1 := ⟨P.1.2.2.1 - 1, by omega⟩
  have h1 := xa_ct_le P.2 s 1 (by omega)
  have h2 : xa_ct P.2 1 = 1 := by
    show 0 + (if P.2 0 < 8 then 1 else 0) = 1
    rw [if_pos w7']
  have hl : P.2 s < 8 := by
    have := hL.2
    rw [hs] at this
    exact this
  have h3 : xa_ct P.2 (s + 1) = xa_ct P.2 s + 1 := by rw [xa_ct, if_pos hl]
  rw [w6, hs, h3]
  omega
/-- the counts -/
theorem v_al4 : ∀ (d k n : Nat) (M N : xm_M), k + d = 8 → 600 + d < n → jI A h hn ho tx tx' tl M N → ∃ m M' N', 600 ≤ m ∧ n ≤ m + d + 1 ∧ f_L_areAlike_S4 n 0 M N 1 (nI k) = f_L_areAlike_S41 m 0 M' N' 1 0 0 ∧ jI A h hn ho tx tx' tl M' N'
  | 0, k, n, M, N, hd, hn9, hI => by
    obtain ⟨n, rfl⟩ : ∃ q, n = q + 1 := ⟨n - 1, by omega⟩
    refine ⟨n, M, N, by omega, by omega, ?_, hI⟩
    rw [f_L_areAlike_S4, if_pos ((xz_cle (c := 8) 8 rfl (by omega) (by omega)).mpr (by omega))]
    rfl
  | d + 1, k, n, M, N, hd, hn9, hI => by
    obtain ⟨n, rfl⟩ : ∃ q, n = q + 1 := ⟨n - 1, by omega⟩
    obtain ⟨M1, N1, a1, a2, a3⟩ := j_count hI (w := k) (by omega) (n := n) (by omega)
    obtain ⟨m, M', N', g1, g2, g3, g4⟩ := v_al4 d (k + 1) n M1 N1 (by omega) (by omega) a3
    refine ⟨m, M', N', g1, by omega, ?_, g4⟩
    rw [f_L_areAlike_S4, if_neg (mt (xz_cle (c := 8) 8 rfl (by omega) (by omega)).mp (by omega)), if_neg xz_10, a1, xz_b2, a2, xz_b2, if_pos rfl, nI_1]
    exact g3
/-- a pattern's numbers -/
theorem v_al57 {j : Nat} (hj : j < A.1.2.2.2) : ∀ (d k n : Nat) (M N : xm_M), k + d = 7 → 600 + d < n → jI A h hn ho tx tx' tl M N → ∃ m M' N', n = m + d + 1 ∧ f_L_areAlike_S41 n 1 M N 1 (nI j) (nI k) = f_L_areAlike_S41 m 2 M' N' 1 (nI j) 0 ∧ jI A h hn ho tx tx' tl M' N'
  | 0, k, n, M, N, hd, hn9, hI => by
    obtain ⟨n, rfl⟩ : ∃ q, n = q + 1 := ⟨n - 1, by omega⟩
    refine ⟨n, M, N, by omega, ?_, hI⟩
    rw [f_L_areAlike_S41, if_pos ((xz_cle (c := 7) 7 rfl (by omega) (by omega)).mpr (by omega))]
  | d + 1, k, n, M, N, hd, hn9, hI => by
    obtain ⟨n, rfl⟩ : ∃ q, n = q + 1 := ⟨n - 1, by omega⟩
    obtain ⟨M1, N1, a1, a2, a3⟩ := j_pattern hI hj (w := k) (by omega) (n := n) (by omega)
    obtain ⟨m, M', N', g1, g3, g4⟩ := v_al57 hj d (k + 1) n M1 N1 (by omega) (by omega) a3
    refine ⟨m, M', N', by omega, ?_, g4⟩
    rw [f_L_areAlike_S41, if_neg (mt (xz_cle (c := 7) 7 rfl (by omega) (by omega)).mp (by omega)), if_neg xz_10, a1, xz_b2, a2, xz_b2, if_pos rfl, nI_1]
    exact g3
/-- a pattern's steps -/
theorem v_al100 {j : Nat} (hj : j < A.1.2.2.2) : ∀ (d k n : Nat) (M N : xm_M), k + d = (A.2.2 j).1.2.2.1 → 600 + d < n → jI A h hn ho tx tx' tl M N → ∃ m M' N', n = m + d + 1 ∧ f_L_areAlike_S41 n 2 M N 1 (nI j) (nI k) = f_L_areAlike_S41 m 3 M' N' 1 (nI j) 0 ∧ jI A h hn ho tx tx' tl M' N'
  | 0, k, n, M, N, hd, hn9, hI => by
    obtain ⟨n, rfl⟩ : ∃ q, n = q + 1 := ⟨n - 1, by omega⟩
    have wP := hI.1.1.1.2.2.2.2.2 j hj
    have w5 := wP.2.2.2.2.1
    obtain ⟨M1, a1, a2⟩ := y_pattern hI.1 hj (w := 2) (by omega)
    have a1 : f_X6_pattern n M (nI j) 2 = some (nI (A.2.2 j).1.2.2.1, M1) := a1 n (by omega)
    refine ⟨n, M1, N, by omega, ?_, a2, hI.2⟩
    rw [f_L_areAlike_S41, a1, xz_b2, if_pos ((xz_le (by omega) (by omega)).mpr (by omega))]
  | d + 1, k, n, M, N, hd, hn9, hI => by
    obtain ⟨n, rfl⟩ : ∃ q, n = q + 1 := ⟨n - 1, by omega⟩
    have wP := hI.1.1.1.2.2.2.2.2 j hj
    have w5 := wP.2.2.2.2.1
    have wc := wP.2.2.2.2.2.2.2.2 k (by omega)
    obtain ⟨M1, a1, a2⟩ := y_pattern hI.1 hj (w := 2) (by omega)
    have a1 : f_X6_pattern n M (nI j) 2 = some (nI (A.2.2 j).1.2.2.1, M1) := a1 n (by omega)
    obtain ⟨s1, s2⟩ := y_step a2 hj (i := k) (by omega) n
    obtain ⟨s3, s4⟩ := y_step hI.2 (j := j) (by rw [mirS_1]; exact hj) (i := k) (by rw [mirS_p, mirP_1]; omega) n
    have ec := mc_mod wc
    have e1 : ((mirS A).2.2 j).2 k = mirC ((A.2.2 j).2 k) := by rw [mirS_p]; unfold mirP; rfl
    rw [e1, ec.1] at s3
    rw [e1, ec.2] at s4
    have et := v_there n M1 N (k := (A.2.2 j).2 k % 8) (by omega)
    obtain ⟨m, M', N', g1, g3, g4⟩ := v_al100 hj d (k + 1) n M1 N (by omega) (by omega) ⟨a2, hI.2⟩
    refine ⟨m, M', N', by omega, ?_, g4⟩
    rw [f_L_areAlike_S41, a1, xz_b2, if_neg (mt (xz_le (by omega) (by omega)).mp (by omega)), if_neg xz_10, s1, xz_b2, et, xz_b3, s3, xz_b2, if_pos rfl, s2, xz_b2, s4, xz_b2, if_pos rfl, nI_1]
    exact g3
/-- a pattern's matches -/
theorem v_al171 {j : Nat} (hj : j < A.1.2.2.2) (h2 : 2 ≤ (A.2.2 j).1.2.2.2) : ∀ (d k n : Nat) (M N : xm_M), k + d = 12 → 600 + d < n → jI A h hn ho tx tx' tl M N → ∃ m M' N', n = m + d + 1 ∧ f_L_areAlike_S41 n 3 M N 1 (nI j) (nI k) = f_L_areAlike_S41 m 0 M' N' 1 (nI (j + 1)) 0 ∧ jI A h hn ho tx tx' tl M' N'
  | 0, k, n, M, N, hd, hn9, hI => by
    obtain ⟨n, rfl⟩ : ∃ q, n = q + 1 := ⟨n - 1, by omega⟩
    refine ⟨n, M, N, by omega, ?_, hI⟩
    rw [f_L_areAlike_S41, if_pos ((xz_cle (c := 12) 12 rfl (by omega) (by omega)).mpr (by omega)), nI_1]
  | d + 1, k, n, M, N, hd, hn9, hI => by
    obtain ⟨n, rfl⟩ : ∃ q, n = q + 1 := ⟨n - 1, by omega⟩
    obtain ⟨M1, N1, a1, a2, a3⟩ := j_match hI hj (rk := k) (ix := 0) (by omega) (by omega) (n := n) (by omega)
    obtain ⟨M2, N2, b1, b2, b3⟩ := j_match a3 hj (rk := k) (ix := 1) (by omega) (by omega) (n := n) (by omega)
    have a1 : f_X6_match n M (nI j) (nI k) 0 = _ := a1
    have a2 : f_X6_match n N (nI j) (nI k) 0 = _ := a2
    have b1 : f_X6_match n M1 (nI j) (nI k) 1 = _ := b1
    have b2 : f_X6_match n N1 (nI j) (nI k) 1 = _ := b2
    obtain ⟨m, M', N', g1, g3, g4⟩ := v_al171 hj h2 d (k + 1) n M2 N2 (by omega) (by omega) b3
    refine ⟨m, M', N', by omega, ?_, g4⟩
    rw [f_L_areAlike_S41, if_neg (mt (xz_cle (c := 12) 12 rfl (by omega) (by omega)).mp (by omega)), if_neg xz_10, a1, xz_b2, a2, xz_b2, if_pos rfl, b1, xz_b2, b2, xz_b2, if_pos rfl, nI_1]
    exact g3
/-- the patterns -/
theorem v_al41 (hp : ∀ j, j < A.1.2.2.2 → pL (A.2.2 j)) : ∀ (d j n : Nat) (M N : xm_M), j + d = A.1.2.2.2 → 700 + 40 * d < n → jI A h hn ho tx tx' tl M N → ∃ m M' N', 600 ≤ m ∧ f_L_areAlike_S41 n 0 M N 1 (nI j) 0 = f_L_areAlike_S240 m 0 M' N' 1 0 ∧ jI A h hn ho tx tx' tl M' N'
  | 0, j, n, M, N, hd, hn9, hI => by
    obtain ⟨n, rfl⟩ : ∃ q, n = q + 1 := ⟨n - 1, by omega⟩
    have w4 := hI.1.1.1.2.2.2.1
    obtain ⟨M1, a1, a2⟩ := y_count hI.1 (w := 1) (by omega)
    have a1 : f_X6_count n M 1 = some (nI A.1.2.2.2, M1) := a1 n (by omega)
    refine ⟨n, M1, N, by omega, ?_, a2, hI.2⟩
    rw [f_L_areAlike_S41, a1, xz_b2, if_pos ((xz_le (by omega) (by omega)).mpr (by omega))]
    rfl
  | d + 1, j, n, M, N, hd, hn9, hI => by
    obtain ⟨n, rfl⟩ : ∃ q, n = q + 1 := ⟨n - 1, by omega⟩
    have w4 := hI.1.1.1.2.2.2.1
    have hj : j < A.1.2.2.2 := by omega
    have wP := hI.1.1.1.2.2.2.2.2 j hj
    have w5 := wP.2.2.2.2.1
    obtain ⟨M1, a1, a2⟩ := y_count hI.1 (w := 1) (by omega)
    have a1 : f_X6_count n M 1 = some (nI A.1.2.2.2, M1) := a1 n (by omega)
    obtain ⟨m1, M2, N2, e1, g1, g2⟩ := v_al57 hj 7 0 n M1 N (by omega) (by omega) ⟨a2, hI.2⟩
    obtain ⟨m2, M3, N3, e2, g3, g4⟩ := v_al100 hj (A.2.2 j).1.2.2.1 0 m1 M2 N2 (by omega) (by omega) g2
    obtain ⟨m3, M4, N4, e3, g5, g6⟩ := v_al171 hj (pl_two wP (hp j hj)) 12 0 m2 M3 N3 (by omega) (by omega) g4
    obtain ⟨m, M', N', g7, g8, g9⟩ := v_al41 hp d (j + 1) m3 M4 N4 (by omega) (by omega) g6
    have g1 : f_L_areAlike_S41 n 1 M1 N 1 (nI j) 0 = _ := g1
    have g3 : f_L_areAlike_S41 m1 2 M2 N2 1 (nI j) 0 = _ := g3
    have g5 : f_L_areAlike_S41 m2 3 M3 N3 1 (nI j) 0 = _ := g5
    refine ⟨m, M', N', g7, ?_, g9⟩
    rw [f_L_areAlike_S41, a1, xz_b2, if_neg (mt (xz_le (by omega) (by omega)).mp (by omega)), if_neg xz_10, g1, g3, g5, g8]
/-- an event's numbers on both -/
theorem j_event (hI : jI A h hn ho tx tx' tl M N) {e : Nat} (he : e < A.1.1) {n : Nat} (hn9 : 500 < n) : ∃ k v t p s, k < 8 ∧ (∀ M N : xm_M, jI A h hn ho tx tx' tl M N → f_X6_eventOf n M (nI e) 0 = some (nI (97 + k), M) ∧ f_X6_eventOf n N (nI e) 0 = some (nI (97 + (7 - k)), N) ∧ f_X6_eventOf n M (nI e) 1 = some (nI v, M) ∧ f_X6_eventOf n N (nI e) 1 = some (nI (2 * v + 1), N) ∧ f_X6_eventOf n M (nI e) 2 = some (nI t, M) ∧ f_X6_eventOf n N (nI e) 2 = some (nI t, N)) ∧ (∀ M N : xm_M, jI A h hn ho tx tx' tl M N → ∃ M' N', f_X6_eventOf n M (nI e) 3 = some (nI p, M') ∧ f_X6_eventOf n N (nI e) 3 = some (nI p, N') ∧ jI A h hn ho tx tx' tl M' N') ∧ ∀ M N : xm_M, jI A h hn ho tx tx' tl M N → ∃ M' N', f_X6_eventOf n M (nI e) 4 = some (nI s, M') ∧ f_X6_eventOf n N (nI e) 4 = some (nI s, N') ∧ jI A h hn ho tx tx' tl M' N' := by
  obtain ⟨q, hq, hqe⟩ := io_sur (eT A.2.1) A.1.1 e he
  have hqe : pO A.2.1 A.1.1 q = e := hqe
  have hq2 : q < (mirS A).1.1 := by rw [mirS_1]; exact hq
  have hO : pO (mirS A).2.1 (mirS A).1.1 q = e := by rw [m_O]; exact hqe
  have hk : pKd A.2.1 A.1.1 q < 8 := (hI.1.1.1.2.2.2.2.1 (pO A.2.1 A.1.1 q) (by rw [hqe]; exact he)).1
  have m1 : pKd (mirS A).2.1 (mirS A).1.1 q = 7 - pKd A.2.1 A.1.1 q := by
    rw [← mk_lt hk]
    unfold mirS
    rfl
  have m2 : pVl (mirS A).2.1 (mirS A).1.1 q = 2 * pVl A.2.1 A.1.1 q + 1 := by
    unfold mirS
    rfl
  have m3 : pTm (mirS A).2.1 (mirS A).1.1 q = pTm A.2.1 A.1.1 q := by rw [m_T]
  refine ⟨pKd A.2.1 A.1.1 q, pVl A.2.1 A.1.1 q, pTm A.2.1 A.1.1 q, q, allS A.2.1 A.1.1 A.2.2 q A.1.2.2.2, hk, fun M N hI => ?_, fun M N hI => ?_, fun M N hI => ?_⟩
  · obtain ⟨a1, a2, a3⟩ := (y_eventOf hI.1 hq).1 n
    obtain ⟨b1, b2, b3⟩ := (y_eventOf hI.2 hq2).1 n
    rw [hqe] at a1 a2 a3
    rw [hO] at b1 b2 b3
    rw [m1] at b1
    rw [m2] at b2
    rw [m3] at b3
    exact ⟨a1, b1, a2, b2, a3, b3⟩
  · obtain ⟨M', a1, a2⟩ := (y_eventOf hI.1 hq).2.1
    obtain ⟨N', b1, b2⟩ := (y_eventOf hI.2 hq2).2.1
    rw [hqe] at a1
    rw [hO] at b1
    exact ⟨M', N', a1 n hn9, b1 n hn9, a2, b2⟩
  · obtain ⟨M', a1, a2⟩ := (y_eventOf hI.1 hq).2.2
    obtain ⟨N', b1, b2⟩ := (y_eventOf hI.2 hq2).2.2
    rw [hqe] at a1
    rw [hO, m_sha hI.1.1.1] at b1
    exact ⟨M', N', a1 n hn9, b1 n hn9, a2, b2⟩
/-- the events -/
theorem v_al240 : ∀ (d k n : Nat) (M N : xm_M), k + d = A.1.1 → 550 + d < n → jI A h hn ho tx tx' tl M N → ∃ M' N', f_L_areAlike_S240 n 0 M N 1 (nI k) = some (1, M', N') ∧ jI A h hn ho tx tx' tl M' N'
  | 0, k, n, M, N, hd, hn9, hI => by
    obtain ⟨n, rfl⟩ : ∃ q, n = q + 1 := ⟨n - 1, by omega⟩
    have w0 := hI.1.1.1.1
    obtain ⟨M1, a1, a2⟩ := y_count hI.1 (w := 0) (by omega)
    have a1 : f_X6_count n M 0 = some (nI A.1.1, M1) := a1 n (by omega)
    refine ⟨M1, N, ?_, a2, hI.2⟩
    rw [f_L_areAlike_S240, a1, xz_b2, if_pos ((xz_le (by omega) (by omega)).mpr (by omega)), xz_z1, xz_ct]
  | d + 1, k, n, M, N, hd, hn9, hI => by
    obtain ⟨n, rfl⟩ : ∃ q, n = q + 1 := ⟨n - 1, by omega⟩
    have w0 := hI.1.1.1.1
    obtain ⟨M1, a1, a2⟩ := y_count hI.1 (w := 0) (by omega)
    have a1 : f_X6_count n M 0 = some (nI A.1.1, M1) := a1 n (by omega)
    have hI1 : jI A h hn ho tx tx' tl M1 N := ⟨a2, hI.2⟩
    obtain ⟨kk, v, t, p, s, hk, h1, h2, h3⟩ := j_event hI1 (e := k) (by omega) (n := n) (by omega)
    obtain ⟨b1, b2, b3, b4, b5, b6⟩ := h1 M1 N hI1
    obtain ⟨M2, N2, c1, c2, c3⟩ := h2 M1 N hI1
    obtain ⟨M3, N3, d1, d2, d3⟩ := h3 M2 N2 c3
    obtain ⟨M', N', g1, g2⟩ := v_al240 d (k + 1) n M3 N3 (by omega) (by omega) d3
    refine ⟨M', N', ?_, g2⟩
    rw [f_L_areAlike_S240, a1, xz_b2, if_neg (mt (xz_le (by omega) (by omega)).mp (by omega)), if_neg xz_10, b1, xz_b2, v_there n _ _ hk, xz_b3, b2, xz_b2, if_pos rfl, b3, xz_b2, b4, xz_b2, if_pos (xz_21 v), b5, xz_b2, b6, xz_b2, if_pos rfl, c1, xz_b2, c2, xz_b2, if_pos rfl, d1, xz_b2, d2, xz_b2, if_pos rfl, nI_1]
    exact g1
theorem v_areAlike {B : Nat} (hs : sI B M N) {n : Nat} (hn9 : 1500 < n) : ∃ M' N', f_L_areAlike n M N = some (1, M', N') := by
  obtain ⟨A, h, hn, ho, tx, tx', tl, hI, hS, hh⟩ := hs
  have w0 := hI.1.1.1.1
  have w4 := hI.1.1.1.2.2.2.1
  obtain ⟨m, M1, N1, a1, a2, a3, a4⟩ := v_al4 8 0 n M N (by omega) (by omega) hI
  obtain ⟨m2, M2, N2, b1, b2, b3⟩ := v_al41 hS.2.1 A.1.2.2.2 0 m M1 N1 (by omega) (by omega) a4
  obtain ⟨M', N', c1, c2⟩ := v_al240 A.1.1 0 m2 M2 N2 (by omega) (by omega) b3
  refine ⟨M', N', ?_⟩
  have a3 : f_L_areAlike_S4 n 0 M N 1 0 = _ := a3
  have b2 : f_L_areAlike_S41 m 0 M1 N1 1 0 0 = _ := b2
  have c1 : f_L_areAlike_S240 m2 0 M2 N2 1 0 = _ := c1
  unfold f_L_areAlike f_L_areAlike_4
  rw [a3, b2, c1]
end LA
