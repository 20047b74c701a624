/-! LAYER 2: dropPattern, step -/
/-- the patterns without one -/
def xd_A (A : xa_S) (p : Nat) : xa_S := ((A.1.1, A.1.2.1, A.1.2.2.1, A.1.2.2.2 - 1), A.2.1, fun j => if j < p then A.2.2 j else A.2.2 (j + 1))
theorem xd_W {A : xa_S} {p : Nat} (h : xa_WS A) (hp : p < A.1.2.2.2) : xa_WS (xd_A A p) := by
  obtain ⟨v1, v2, v3, v4, v5, v6⟩ := h
  refine ⟨v1, v2, v3, ?_, v5, fun j hj => ?_⟩
  · show A.1.2.2.2 - 1 ≤ 4
    omega
  · have hj2 : j < A.1.2.2.2 - 1 := hj
    show xa_WP (if j < p then A.2.2 j else A.2.2 (j + 1))
    split
    · exact v6 j (by omega)
    · exact v6 (j + 1) (by omega)
theorem xp_drop {M : xm_M} {A : xa_S} {p : Nat} (hA : xa_XS A M 18) (hW : xa_WS A) (hp : p < A.1.2.2.2) {n : Nat} (hf : 60 < n) : ∃ q, f_X4_removePattern n M 18 (nI p) = some q ∧ (q.1 = nI (A.1.2.2.2 - 1) ∧ xa_XS (xd_A A p) q.2 18 ∧ ∀ k, ¬ (18 ≤ k ∧ k < 35) → q.2 k = M k) := by
  obtain ⟨a0, a1, a2, a3, a4, a5⟩ := hA
  obtain ⟨v1, v2, v3, v4, v5, v6⟩ := hW
  unfold f_X4_removePattern
  refine xz_for (fun n M i => f_X4_removePattern_2 n M 18 (nI i)) (A.1.2.2.2 - 1) 12 (fun i M2 => p ≤ i ∧ (∀ k, (k < 23 ∨ 35 ≤ k) → M2 k = M k) ∧ (∀ j, j < i → xa_XP ((xd_A A p).2.2 j) M2 (18 + 5 + 3 * j)) ∧ ∀ j, i ≤ j → j < A.1.2.2.2 → xa_XP (A.2.2 j) M2 (18 + 5 + 3 * j)) _ ?_ ?_ n p M (by omega) (by omega) ⟨Nat.le_refl _, fun _ _ => rfl, fun j hj => ?_, fun j _ hj => a5 j hj⟩
  · intro n M2 _ hI
    obtain ⟨i0, i1, i2, i3⟩ := hI
    have e3 : M2 18 6 = nI A.1.2.2.2 := by rw [i1 18 (by omega)]; exact a3
    refine ⟨(nI (A.1.2.2.2 - 1), xm_up M2 18 6 (nI (A.1.2.2.2 - 1))), ?_, rfl, ⟨?_, ?_, ?_, xm_up_s M2 18 6 (nI (A.1.2.2.2 - 1)), fun i hi => ?_, fun j hj => ?_⟩, fun k hk => ?_⟩
    · show f_X4_removePattern_2 (n + 1) M2 18 (nI (A.1.2.2.2 - 1)) = _
      have e9 : nI A.1.2.2.2 - 1 = nI (A.1.2.2.2 - 1) := pk_sub (b := 1) (by omega)
      rw [f_X4_removePattern_2, nI_1, e3, if_pos ((xz_le (by omega) (by omega)).mpr (by omega)), xz_lt, e9, xm_up_s]
    · show xm_up M2 18 6 (nI (A.1.2.2.2 - 1)) 18 0 = _
      rw [xm_up_j _ _ (by omega), i1 18 (by omega)]; exact a0
    · show xm_up M2 18 6 (nI (A.1.2.2.2 - 1)) 18 4 = _
      rw [xm_up_j _ _ (by omega), i1 18 (by omega)]; exact a1
    · show xm_up M2 18 6 (nI (A.1.2.2.2 - 1)) 18 5 = _
      rw [xm_up_j _ _ (by omega), i1 18 (by omega)]; exact a2
    · show xm_up M2 18 6 (nI (A.1.2.2.2 - 1)) (18 + 1) i = _ ∧ xm_up M2 18 6 (nI (A.1.2.2.2 - 1)) (18 + 2) i = _ ∧ xm_up M2 18 6 (nI (A.1.2.2.2 - 1)) (18 + 3) i = _
      rw [xm_up_k _ _ (by omega), xm_up_k _ _ (by omega), xm_up_k _ _ (by omega), i1 (18 + 1) (by omega), i1 (18 + 2) (by omega), i1 (18 + 3) (by omega)]
      exact a4 i hi
    · have hj2 : j < A.1.2.2.2 - 1 := hj
      exact (i2 j hj2).fr (fun k k1 k2 => xm_up_r _ _ (by omega))
    · show xm_up M2 18 6 (nI (A.1.2.2.2 - 1)) k = _
      rw [xm_up_r _ _ (by omega), i1 k (by omega)]
  · intro n i M2 hK hi hI
    obtain ⟨i0, i1, i2, i3⟩ := hI
    have e3 : M2 18 6 = nI A.1.2.2.2 := by rw [i1 18 (by omega)]; exact a3
    obtain ⟨M3, c1, c2, c3⟩ := xp_copyP (M := M2) (o0 := 18 + 5 + 3 * i) (o1 := 18 + 5 + 3 * (i + 1)) (by omega) (i3 (i + 1) (by omega) (by omega)) (v6 (i + 1) (by omega)) (n := n) (by omega)
    refine ⟨M3, ⟨by omega, fun k hk => ?_, fun j hj => ?_, fun j hj hjn => ?_⟩, ?_⟩
    · rw [c3 k (by omega)]
      exact i1 k hk
    · by_cases hji : j = i
      · subst hji
        show xa_XP (if j < p then A.2.2 j else A.2.2 (j + 1)) _ _
        rw [if_neg (by omega)]
        exact c2
      · exact (i2 j (by omega)).fr (fun k k1 k2 => c3 k (by omega))
    · exact (i3 j (by omega) hjn).fr (fun k k1 k2 => c3 k (by omega))
    · show f_X4_removePattern_2 (n + 1) M2 18 (nI i) = f_X4_removePattern_2 n _ 18 (nI (i + 1))
      rw [f_X4_removePattern_2, nI_1, e3, if_neg (mt (xz_le (by omega) (by omega)).mp (by omega)), xz_ci (show i < 4 by omega) (by omega), xz_ci (show i + 1 < 4 by omega) (by omega), xz_cl (by omega), xz_cl (by omega), c1, xz_b1]
  · show xa_XP (if j < p then A.2.2 j else A.2.2 (j + 1)) _ _
    rw [if_pos hj]
    exact a5 j (by omega)
theorem xr_dropPattern {M N : xm_M} (hI : xr_Inv M N) (a1 : Int32) : ∃ n1 n2 r M' N', f_X6_dropPattern n1 M a1 = some (r, M') ∧ f_X7_dropPattern n2 N a1 = some (r, N') ∧ xr_Inv M' N' := by
  have hI9 := hI
  obtain ⟨A, h, hn, ho, sn, tx, tl, hW, hX, hM⟩ := hI
  refine ⟨1000, 1000, ?_⟩
  unfold f_X6_dropPattern f_X7_dropPattern
  have x6 : M 18 6 = nI A.1.2.2.2 := hX.1.2.2.2.1
  have m3 : N 1 3 = nI A.1.2.2.2 := hM.1.2.2.2.1
  have wn : A.1.2.2.2 ≤ 4 := hW.1.2.2.2.1
  rcases xz_idx a1 A.1.2.2.2 (by omega) with hb | ⟨p, hp, rfl⟩
  · rw [xp_isP0 x6 hb, xm_isP0 m3 wn hb, xz_b2, xz_b2, if_pos rfl, if_pos rfl]
    exact ⟨-1, M, N, rfl, rfl, hI9⟩
  · rw [xp_isP1 x6 hp wn, xm_isP1 m3 hp wn, xz_b2, xz_b2, if_neg xz_10, if_neg xz_10]
    obtain ⟨M1, c1, c2, c3⟩ := xi_rec hW hX (n := 1000) (by omega)
    obtain ⟨N1, d1, d2, d3⟩ := xm_remember (N := N) (n := 1000) (by omega)
    obtain ⟨⟨r, M2⟩, b1, b2, b3, b4⟩ := xp_drop c2.1 hW.1 hp (n := 1000) (by omega)
    dsimp only at b2 b3 b4
    have e9 : N1 1 = N 1 := d2 1 (by omega)
    have e8 : nI A.1.2.2.2 - 1 = nI (A.1.2.2.2 - 1) := pk_sub (b := 1) (by omega)
    rw [c1, d1, xz_b1, xz_b1, b1, xz_b2, xz_i3, xz_ct, xz_ct, xz_t3, e9, m3, e8, xz_lt]
    have key : ∃ q, f_X7_dropPattern_32 1000 (xm_up N1 1 3 (nI (A.1.2.2.2 - 1))) (nI (79 + 10 * p)) = some q ∧ (q.1 = nI (A.1.2.2.2 - 1) ∧ xi_M (xd_A A p) (xh_push A h hn) (xh_n hn) sn tx tl q.2) := by
      refine xz_for (fun n M i => f_X7_dropPattern_32 n M (nI i)) (79 + 10 * (A.1.2.2.2 - 1)) 600 (fun i N2 => 79 + 10 * p ≤ i ∧ (∀ k, k ≠ 1 → N2 k = N1 k) ∧ (∀ j, j < 79 → N2 1 j = xm_up N1 1 3 (nI (A.1.2.2.2 - 1)) 1 j) ∧ (∀ j, 79 ≤ j → j < i → N2 1 j = if j < 79 + 10 * p then N 1 j else N 1 (j + 10)) ∧ ∀ j, 79 ≤ j → i ≤ j → N2 1 j = N 1 j) _ ?_ ?_ 1000 (79 + 10 * p) _ (by omega) (by omega) ⟨Nat.le_refl _, fun k hk => xm_up_r _ _ hk, fun j hj => rfl, fun j j1 j2 => ?_, fun j j1 j2 => ?_⟩
      · intro n N2 hK hJ
        obtain ⟨t0, t1, t2, t3, t4⟩ := hJ
        have u3 : N2 1 3 = nI (A.1.2.2.2 - 1) := by rw [t2 3 (by omega), xm_up_s]
        obtain ⟨g0, g1, g2, g3, g4, g5⟩ := hM.1
        obtain ⟨v1, v2, v3, v4, v5, v6⟩ := hW.1
        have lo : ∀ j, j < 79 → j ≠ 3 → N2 1 j = N 1 j := fun j j1 j2 => by rw [t2 j j1, xm_up_j _ _ j2, e9]
        have e4 : xa_MS (xd_A A p) (N2 1) 0 := by
          refine ⟨by rw [lo 0 (by omega) (by omega)]; exact g0, by rw [lo (0 + 1) (by omega) (by omega)]; exact g1, by rw [lo (0 + 2) (by omega) (by omega)]; exact g2, u3, fun i hi => ?_, fun j hj => ?_⟩
          · have hi2 : i < A.1.1 := hi
            rw [lo _ (by omega) (by omega), lo _ (by omega) (by omega), lo _ (by omega) (by omega)]
            exact g4 i hi
          · have hj2 : j < A.1.2.2.2 - 1 := hj
            show xa_MP (if j < p then A.2.2 j else A.2.2 (j + 1)) _ _
            by_cases hjp : j < p
            · rw [if_pos hjp]
              refine (g5 j (by omega)).fr (v6 j (by omega)) (fun k hk => ?_)
              rw [t3 _ (by omega) (by omega), if_pos (by omega)]
            · rw [if_neg hjp]
              refine (g5 (j + 1) (by omega)).fr (v6 (j + 1) (by omega)) (fun k hk => ?_)
              rw [t3 _ (by omega) (by omega), if_neg (by omega)]
              exact congrArg (N 1) (by omega)
        obtain ⟨N', f1, f2⟩ := xi_act (A' := xd_A A p) hW hM (N1 := N2) (fun k hk => by rw [t1 2 (by omega)]; exact d3 k hk) e4 (fun k k1 k2 => by rw [t1 k k1]; exact d2 k k2) (nI (A.1.2.2.2 - 1)) (n := n) (by omega)
        refine ⟨(nI (A.1.2.2.2 - 1), N'), ?_, rfl, f2⟩
        show f_X7_dropPattern_32 (n + 1) N2 (nI (79 + 10 * (A.1.2.2.2 - 1))) = _
        have e7 : (79 : Int32) + 10 * nI (A.1.2.2.2 - 1) = nI (79 + 10 * (A.1.2.2.2 - 1)) := by
          show nI 79 + nI 10 * nI _ = _
          rw [pk_mul, nI_add]
        rw [f_X7_dropPattern_32, xz_i3, xz_ct, xz_t3, u3, e7, if_pos ((xz_le (by omega) (by omega)).mpr (Nat.le_refl _)), xz_ct, f1, xz_b2]
      · intro n i N2 _ hi hJ
        obtain ⟨t0, t1, t2, t3, t4⟩ := hJ
        have u3 : N2 1 3 = nI (A.1.2.2.2 - 1) := by rw [t2 3 (by omega), xm_up_s]
        refine ⟨xm_up N2 1 i (N2 1 (i + 10)), ⟨by omega, fun k hk => by rw [xm_up_r _ _ hk]; exact t1 k hk, fun j hj => by rw [xm_up_j _ _ (by omega)]; exact t2 j hj, fun j j1 j2 => ?_, fun j j1 j2 => by rw [xm_up_j _ _ (by omega)]; exact t4 j j1 (by omega)⟩, ?_⟩
        · by_cases hji : j = i
          · subst hji
            rw [xm_up_s, if_neg (by omega)]
            exact t4 _ (by omega) (by omega)
          · rw [xm_up_j _ _ hji]
            exact t3 j j1 (by omega)
        · show f_X7_dropPattern_32 (n + 1) N2 (nI i) = f_X7_dropPattern_32 n _ (nI (i + 1))
          have e7 : (79 : Int32) + 10 * nI (A.1.2.2.2 - 1) = nI (79 + 10 * (A.1.2.2.2 - 1)) := by
            show nI 79 + nI 10 * nI _ = _
            rw [pk_mul, nI_add]
          have e6 : nI i + (10 : Int32) = nI (i + 10) := nI_add i 10
          rw [f_X7_dropPattern_32, xz_i3, xz_ct, xz_t3, u3, e7, if_neg (mt (xz_le (by omega) (by omega)).mp (by omega)), e6, xz_ci (show i + 10 < 119 by omega) (by omega), xz_ci (show i < 119 by omega) (by omega), xz_lt, xz_cl (by omega), xz_cl (by omega), nI_1]
      · rw [if_pos (by omega), xm_up_j _ _ (by omega), e9]
      · rw [xm_up_j _ _ (by omega), e9]
    obtain ⟨⟨r2, N'⟩, k1, k2, k3⟩ := key
    dsimp only at k2 k3
    have e5 : (79 : Int32) + 10 * nI p = nI (79 + 10 * p) := by
      show nI 79 + nI 10 * nI _ = _
      rw [pk_mul, nI_add]
    rw [e5, k1]
    exact ⟨_, M2, N', rfl, by rw [k2, b2], xd_A A p, _, _, _, sn, tx, tl, hW.act (xd_W hW.1 hp), c2.now (hW.act hW.1) b3 b4, k3⟩
/-- step -/
theorem xr_step {M N : xm_M} (hI : xr_Inv M N) (a1 a2 a3 : Int32) : ∃ n1 n2 r M' N', f_X6_step n1 M a1 a2 a3 = some (r, M') ∧ f_X7_step n2 N a1 a2 a3 = some (r, N') ∧ xr_Inv M' N' := by
  have hI9 := hI
  obtain ⟨A, h, hn, ho, sn, tx, tl, hW, hX, hM⟩ := hI
  refine ⟨1000, 1000, ?_⟩
  unfold f_X6_step f_X7_step
  have x6 : M 18 6 = nI A.1.2.2.2 := hX.1.2.2.2.1
  have m3 : N 1 3 = nI A.1.2.2.2 := hM.1.2.2.2.1
  have wn : A.1.2.2.2 ≤ 4 := hW.1.2.2.2.1
  rcases xz_idx a1 A.1.2.2.2 (by omega) with hb | ⟨p, hp, rfl⟩
  · rw [xp_isP0 x6 hb, xm_isP0 m3 wn hb, xz_b2, xz_b2, if_pos rfl, if_pos rfl]
    exact ⟨-1, M, N, rfl, rfl, hI9⟩
  · have e3 : f_X7_ofPattern 1000 N (nI p) 2 = some (N 1 (79 + 10 * p + 2), N) := xm_ofP (k := 2) (by omega)
    have wP := hW.1.2.2.2.2.2 p hp
    obtain ⟨q0, q1, q2, q3, q4⟩ := hX.1.2.2.2.2.2 p hp
    obtain ⟨s0, s1, s2, s3⟩ := hM.1.2.2.2.2.2 p hp
    have wst := wP.2.2.2.2.1
    have s2' : N 1 (79 + 10 * p + 2) = nI (A.2.2 p).1.2.2.1 := by
      rw [show 79 + 10 * p + 2 = 0 + 79 + 10 * p + 2 by omega]
      exact s2
    rw [xp_isP1 x6 hp wn, xm_isP1 m3 hp wn, xz_b2, xz_b2, if_neg xz_10, if_neg xz_10, e3, xz_b2, s2', xz_ci (show p < 4 by omega) (by omega), xz_cl (by omega), q2]
    rcases xz_idx a2 (A.2.2 p).1.2.2.1 (by omega) with hb | ⟨k, hk, rfl⟩
    · rw [xz_mt0 (by omega) hb, xz_b2, if_pos rfl]
      by_cases hb0 : a2 < 0
      · rw [if_pos hb0]
        exact ⟨-2, M, N, rfl, rfl, hI9⟩
      · rw [if_neg hb0, if_neg (fun q => ?_)]
        · exact ⟨-2, M, N, rfl, rfl, hI9⟩
        · have := hb.resolve_left hb0
          rw [Int32.le_iff_toInt_le] at this
          rw [Int32.lt_iff_toInt_lt] at q
          omega
    · have e5 : f_X7_ofPattern 1000 N (nI p) (3 + nI k) = some (N 1 (79 + 10 * p + (3 + k)), N) := by
        have e6 : (3 : Int32) + nI k = nI (3 + k) := nI_add 3 k
        rw [e6]
        exact xm_ofP (by omega)
      have wc := wP.2.2.2.2.2.2.2.2 k hk
      obtain ⟨y1, y2⟩ := q4 k hk
      have y3 : N 1 (79 + 10 * p + (3 + k)) = nI ((A.2.2 p).2 k) := by
        rw [show 79 + 10 * p + (3 + k) = 0 + 79 + 10 * p + 3 + k by omega]
        exact s3 k hk
      rw [xz_mt1 hk (by omega), xz_b2, if_neg xz_10, if_neg (nI_pos (by omega)), if_pos (nI_lt hk (by omega))]
      have e8 : nI ((A.2.2 p).2 k) - nI ((A.2.2 p).2 k) / 8 * 8 = nI ((A.2.2 p).2 k % 8) := pk_rem (d := 8) (by omega) (by omega) (by omega)
      have e9 : nI ((A.2.2 p).2 k) / 8 = nI ((A.2.2 p).2 k / 8) := pk_div (d := 8) (by omega) (by omega) (by omega)
      have e7 : (97 : Int32) + nI ((A.2.2 p).2 k % 8) = nI (97 + (A.2.2 p).2 k % 8) := nI_add 97 _
      rcases xz_rng a3 0 1 (by omega) (by omega) with hb | ⟨j, -, hj, rfl⟩
      · have e2 : f_X7_in 1000 N a3.toInt64 0 1 = some (0, N) := xz_mn0 (lo := 0) (hi := 1) (by omega) (by omega) hb
        have b0 : ¬ a3 = 0 := by
          intro q
          rw [q] at hb
          exact absurd hb (by decide)
        have b1 : ¬ a3 = 1 := by
          intro q
          rw [q] at hb
          exact absurd hb (by decide)
        rw [e2, xz_b2, if_pos rfl, if_neg b0, if_neg b1]
        exact ⟨-2, M, N, rfl, rfl, hI9⟩
      · have e2 : f_X7_in 1000 N (nI j).toInt64 0 1 = some (1, N) := xz_mn1 (lo := 0) (hi := 1) (by omega) hj (by omega)
        rw [e2, xz_b2, if_neg xz_10, e5, xz_b2, y3, e8, e9, e7, xz_ci (show k < 8 by omega) (by omega), xz_ci (show k < 8 by omega) (by omega), xz_cl (by omega), y1, y2]
        rcases (show j = 0 ∨ j = 1 by omega) with rfl | rfl
        · rw [if_pos (show nI 0 = 0 from rfl), if_pos (show nI 0 = 0 from rfl)]
          exact ⟨_, M, N, rfl, rfl, hI9⟩
        · rw [if_neg (show ¬ nI 1 = 0 by decide), if_neg (show ¬ nI 1 = 0 by decide), if_pos (show nI 1 = 1 from rfl)]
          rcases (show (A.2.2 p).2 k / 8 = 0 ∨ (A.2.2 p).2 k / 8 = 1 by omega) with e | e
          · rw [e, if_pos (show nI 0 = 0 from rfl)]
            exact ⟨0, M, N, rfl, rfl, hI9⟩
          · rw [e, if_neg (show ¬ nI 1 = 0 by decide)]
            exact ⟨1, M, N, rfl, rfl, hI9⟩
