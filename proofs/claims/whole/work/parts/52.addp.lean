/-! LAYER 2: addPattern -/
theorem nI_neg {a : Nat} (ha : a < 2 ^ 30) {c : Int32} (hc : c < 0) : ¬ nI a = c := by
  intro q
  rw [← q, Int32.lt_iff_toInt_lt, nI_toInt (by omega), Int32.toInt_zero] at hc
  omega
def xg_A (A : xa_S) (P : xa_P) : xa_S := ((A.1.1, A.1.2.1, A.1.2.2.1, A.1.2.2.2 + 1), A.2.1, fun j => if j = A.1.2.2.2 then P else A.2.2 j)
theorem xg_W {A : xa_S} {P : xa_P} (h : xa_WS A) (hP : xa_WP P) (hn : A.1.2.2.2 < 4) : xa_WS (xg_A A P) := by
  obtain ⟨v1, v2, v3, v4, v5, v6⟩ := h
  refine ⟨v1, v2, v3, hn, v5, fun j hj => ?_⟩
  have hj2 : j < A.1.2.2.2 + 1 := hj
  show xa_WP (if j = A.1.2.2.2 then P else A.2.2 j)
  split
  · exact hP
  · exact v6 j (by omega)
theorem xp_addc {M : xm_M} {A : xa_S} {P : xa_P} (hA : xa_XS A M 18) (hP : xa_XP P M 1) (hW : xa_WP P) (hn : A.1.2.2.2 < 4) {n : Nat} (hf : 10 < n) : ∃ M', f_X4_addCopyOf n M 18 1 = some (nI A.1.2.2.2, M') ∧ xa_XS (xg_A A P) M' 18 ∧ ∀ k, ¬ (18 ≤ k ∧ k < 35) → M' k = M k := by
  obtain ⟨a0, a1, a2, a3, a4, a5⟩ := hA
  obtain ⟨M2, c1, c2, c3⟩ := xp_copyP (M := M) (o0 := 18 + 5 + 3 * A.1.2.2.2) (o1 := 1) (by omega) hP hW (n := n) hf
  unfold f_X4_addCopyOf
  have e8 := c3 18 (by omega)
  rw [a3, if_pos ((xz_ltc (c := 4) 4 rfl (by omega) (by omega)).mpr hn), xz_ci (show A.1.2.2.2 < 4 by omega) (by omega), xz_cl (by omega), c1, xz_b1, xz_lt, e8, a3, nI_1]
  refine ⟨_, rfl, ⟨by rw [xm_up_j _ _ (by omega), e8]; exact a0, by rw [xm_up_j _ _ (by omega), e8]; exact a1, by rw [xm_up_j _ _ (by omega), e8]; exact a2, xm_up_s _ _ _ _, fun i hi => ?_, fun j hj => ?_⟩, fun k hk => ?_⟩
  · rw [xm_up_k _ _ (by omega), xm_up_k _ _ (by omega), xm_up_k _ _ (by omega), c3 (18 + 1) (by omega), c3 (18 + 2) (by omega), c3 (18 + 3) (by omega)]
    exact a4 i hi
  · have hj2 : j < A.1.2.2.2 + 1 := hj
    show xa_XP (if j = A.1.2.2.2 then P else A.2.2 j) _ _
    by_cases hj3 : j = A.1.2.2.2
    · rw [if_pos hj3, hj3]
      exact c2.fr (fun k k1 k2 => xm_up_r _ _ (by omega))
    · rw [if_neg hj3]
      exact (a5 j (by omega)).fr (fun k k1 k2 => by rw [xm_up_r _ _ (by omega), c3 k (by omega)])
  · rw [xm_up_r _ _ (by omega), c3 k (by omega)]
theorem xr_addPattern {M N : xm_M} (hI : xr_Inv M N) : ∃ n1 n2 r M' N', f_X6_addPattern n1 M = some (r, M') ∧ f_X7_addPattern n2 N = some (r, N') ∧ xr_Inv M' N' := by
  obtain ⟨A, h, hn, ho, sn, tx, tl, hW, hX, hM⟩ := hI
  refine ⟨1000, 1000, ?_⟩
  unfold f_X6_addPattern f_X7_addPattern
  obtain ⟨M1, N1, a, r, hr⟩ := p_read hW.2.2.2.2.2.1 hW.2.2.2.2.2.2 hX.2.2.2.1 hX.2.2.2.2 hM.2.2.2.1 hM.2.2.2.2 (n := 1000) (by omega)
  obtain ⟨r1, r2, r3, r4, r5, r6⟩ := r
  have htl := hW.2.2.2.2.2.1
  have X1 : xi_X A h hn ho sn tx tl M1 := hX.fr hW (by rw [r4 0 (by omega) (by omega)]) (r4 4 (by omega) (by omega)) (by rw [r1.1]; exact hX.2.2.2.1.symm) (r4 7 (by omega) (by omega)) (fun k hk => r4 k (by omega) (by omega))
  have Y1 : xi_M A h hn sn tx tl N1 := hM.fr (r6 3 (by omega) (by omega)) (r6 5 (by omega) (by omega)) (r6 17 (by omega) (by omega)) (r5 1 (by omega) (by omega)) (r5 3 (by omega) (by omega)) (r5 4 (by omega) (by omega)) (r5 11 (by omega) (by omega))
  rcases hr with ⟨e1, e2⟩ | ⟨e1, e2, P, hP, hPX, hPM⟩
  · rw [e1, e2, xz_b2, xz_b2, if_neg (nI_neg (by omega) (by decide)), if_neg (nI_neg (by omega) (by decide))]
    exact ⟨_, M1, N1, rfl, rfl, A, h, hn, ho, sn, tx, tl, hW, X1, Y1⟩
  · have wn := hW.1.2.2.2.1
    rw [e1, e2, xz_b2, xz_b2, if_pos rfl, if_pos rfl, X1.1.2.2.2.1, xz_i3, xz_ct, xz_t3, Y1.1.2.2.2.1]
    by_cases h4 : A.1.2.2.2 = 4
    · rw [h4, if_neg (by decide : ¬ nI 4 < 4), if_pos (by decide : nI 4 = 4)]
      exact ⟨_, M1, N1, rfl, rfl, A, h, hn, ho, sn, tx, tl, hW, X1, Y1⟩
    · have hlt : A.1.2.2.2 < 4 := by omega
      rw [if_pos ((xz_ltc (c := 4) 4 rfl (by omega) (by omega)).mpr hlt), if_neg (mt (xz_ec (c := 4) 4 rfl (by omega) (by omega)).mp h4)]
      obtain ⟨M2, c1, c2, c3⟩ := xi_rec hW X1 (n := 1000) (by omega)
      obtain ⟨N2, d1, d2, d3⟩ := xm_remember (N := N1) (n := 1000) (by omega)
      obtain ⟨M3, b1, b2, b3⟩ := xp_addc c2.1 (hPX.fr (fun k k1 k2 => c3 k (by omega) (by omega))) hP hlt (n := 1000) (by omega)
      rw [c1, d1, xz_b1, xz_b1, b1, xz_b2]
      have e9 : N2 1 = N1 1 := d2 1 (by omega)
      have e12 : N2 12 = N1 12 := d2 12 (by omega)
      have st7 := hP.2.2.2.2.1
      obtain ⟨p0, p1, p2, p3⟩ := hPM
      have key : ∃ q, f_X7_addPattern_35 1000 N2 0 = some q ∧ (q.1 = nI A.1.2.2.2 ∧ xi_M (xg_A A P) (xh_push A h hn) (xh_n hn) sn tx tl q.2) := by
        refine xz_for (fun n M i => f_X7_addPattern_35 n M (nI i)) 10 600 (fun i N3 => (∀ k, k ≠ 1 → N3 k = N2 k) ∧ (∀ j, j < 79 + 10 * A.1.2.2.2 → N3 1 j = N2 1 j) ∧ ∀ j, j < i → j < 3 + P.1.2.2.1 → N3 1 (79 + 10 * A.1.2.2.2 + j) = N1 12 j) _ ?_ ?_ 1000 0 _ (by omega) (by omega) ⟨fun _ _ => rfl, fun j hj => rfl, fun j hj => by omega⟩
        · intro n N3 hK hJ
          obtain ⟨t1, t2, t3⟩ := hJ
          have u3 : N3 1 3 = nI A.1.2.2.2 := by rw [t2 3 (by omega), e9]; exact Y1.1.2.2.2.1
          have lo : ∀ j, j ≠ 3 → xm_up N3 1 3 (nI (A.1.2.2.2 + 1)) 1 j = N3 1 j := fun j hj => xm_up_j _ _ hj
          have e4 : xa_MS (xg_A A P) (xm_up N3 1 3 (nI (A.1.2.2.2 + 1)) 1) 0 := by
            obtain ⟨g0, g1, g2, g3, g4, g5⟩ := Y1.1
            have old : ∀ j, j ≠ 3 → j < 79 + 10 * A.1.2.2.2 → xm_up N3 1 3 (nI (A.1.2.2.2 + 1)) 1 j = N1 1 j := fun j j1 j2 => by rw [lo j j1, t2 j j2, e9]
            have v1 := hW.1.1
            refine ⟨by rw [old 0 (by omega) (by omega)]; exact g0, by rw [old (0 + 1) (by omega) (by omega)]; exact g1, by rw [old (0 + 2) (by omega) (by omega)]; exact g2, xm_up_s _ _ _ _, fun i hi => ?_, fun j hj => ?_⟩
            · have hi2 : i < A.1.1 := hi
              rw [old _ (by omega) (by omega), old _ (by omega) (by omega), old _ (by omega) (by omega)]
              exact g4 i hi
            · have hj2 : j < A.1.2.2.2 + 1 := hj
              show xa_MP (if j = A.1.2.2.2 then P else A.2.2 j) _ _
              by_cases hj3 : j = A.1.2.2.2
              · rw [if_pos hj3, hj3]
                have nw : ∀ k, k < 3 + P.1.2.2.1 → xm_up N3 1 3 (nI (A.1.2.2.2 + 1)) 1 (79 + 10 * A.1.2.2.2 + k) = N1 12 k := fun k hk => by rw [lo _ (by omega), t3 k (by omega) hk]
                refine ⟨?_, ?_, ?_, fun i hi => ?_⟩
                · rw [Nat.zero_add, show 79 + 10 * A.1.2.2.2 = 79 + 10 * A.1.2.2.2 + 0 by omega, nw 0 (by omega)]; exact p0
                · rw [Nat.zero_add, nw 1 (by omega)]; exact p1
                · rw [Nat.zero_add, nw 2 (by omega)]; exact p2
                · rw [show 0 + 79 + 10 * A.1.2.2.2 + 3 + i = 79 + 10 * A.1.2.2.2 + (3 + i) by omega, nw (3 + i) (by omega)]
                  have := p3 i hi
                  rw [Nat.zero_add] at this
                  exact this
              · rw [if_neg hj3]
                refine (g5 j (by omega)).fr (hW.1.2.2.2.2.2 j (by omega)) (fun k hk => ?_)
                rw [old _ (by omega) (by omega)]
          obtain ⟨N', f1, f2⟩ := xi_act (A' := xg_A A P) hW Y1 (N1 := xm_up N3 1 3 (nI (A.1.2.2.2 + 1))) (fun k hk => by rw [xm_up_k _ _ (by omega), t1 2 (by omega)]; exact d3 k hk) e4 (fun k k1 k2 => by rw [xm_up_r _ _ k1, t1 k k1]; exact d2 k k2) (nI A.1.2.2.2) (n := n) (by omega)
          refine ⟨(nI A.1.2.2.2, N'), ?_, rfl, f2⟩
          show f_X7_addPattern_35 (n + 1) N3 (nI 10) = _
          rw [f_X7_addPattern_35, if_pos (by decide), xz_i3, xz_ct, xz_ct, xz_t3, u3, xz_lt, xz_ct, nI_1, xm_up_s, nI_pred, f1, xz_b2]
        · intro n i N3 _ hi hJ
          obtain ⟨t1, t2, t3⟩ := hJ
          have u3 : N3 1 3 = nI A.1.2.2.2 := by rw [t2 3 (by omega), e9]; exact Y1.1.2.2.2.1
          have u2 : N3 12 2 = nI P.1.2.2.1 := by rw [t1 12 (by omega), e12]; exact p2
          have e7 : (79 : Int32) + 10 * nI A.1.2.2.2 + nI i = nI (79 + 10 * A.1.2.2.2 + i) := xz_79 _ _
          have step : ∀ v : Int32, (i < 3 + P.1.2.2.1 → v = N1 12 i) → (∀ k, k ≠ 1 → xm_up N3 1 (79 + 10 * A.1.2.2.2 + i) v k = N2 k) ∧ (∀ j, j < 79 + 10 * A.1.2.2.2 → xm_up N3 1 (79 + 10 * A.1.2.2.2 + i) v 1 j = N2 1 j) ∧ ∀ j, j < i + 1 → j < 3 + P.1.2.2.1 → xm_up N3 1 (79 + 10 * A.1.2.2.2 + i) v 1 (79 + 10 * A.1.2.2.2 + j) = N1 12 j := by
            intro v hv
            refine ⟨fun k hk => by rw [xm_up_r _ _ hk]; exact t1 k hk, fun j hj => by rw [xm_up_j _ _ (by omega)]; exact t2 j hj, fun j hj hj2 => ?_⟩
            by_cases hji : j = i
            · rw [hji, xm_up_s]; exact hv (by omega)
            · rw [xm_up_j _ _ (by omega)]; exact t3 j (by omega) hj2
          by_cases hs : 3 + P.1.2.2.1 ≤ i
          · refine ⟨_, step 0 (fun q => by omega), ?_⟩
            show f_X7_addPattern_35 (n + 1) N3 (nI i) = f_X7_addPattern_35 n _ (nI (i + 1))
            rw [f_X7_addPattern_35, if_neg (mt (xz_cle (c := 10) 10 rfl (by omega) (by omega)).mp (by omega)), xz_i3, xz_i6, xz_ct, xz_ct, xz_t3, xz_t2, u3, u2, xz_31, if_pos ((xz_le (by omega) (by omega)).mpr hs), e7, xz_ci (show 79 + 10 * A.1.2.2.2 + i < 119 by omega) (by omega), xz_lt, xz_cl (by omega), nI_1]
          · refine ⟨_, step (N1 12 i) (fun _ => rfl), ?_⟩
            show f_X7_addPattern_35 (n + 1) N3 (nI i) = f_X7_addPattern_35 n _ (nI (i + 1))
            rw [f_X7_addPattern_35, if_neg (mt (xz_cle (c := 10) 10 rfl (by omega) (by omega)).mp (by omega)), xz_i3, xz_i6, xz_ct, xz_ct, xz_t3, xz_t2, u3, u2, xz_31, if_neg (mt (xz_le (by omega) (by omega)).mp hs), e7, xz_ci (show i < 11 by omega) (by omega), xz_ci (show 79 + 10 * A.1.2.2.2 + i < 119 by omega) (by omega), xz_lt, xz_cl (show 79 + 10 * A.1.2.2.2 + i < 2 ^ 31 by omega), xz_cl (show i < 2 ^ 31 by omega), t1 12 (by omega), e12, nI_1]
      obtain ⟨⟨r0, N'⟩, k1, k2, k3⟩ := key
      dsimp only at k2 k3
      rw [k1]
      exact ⟨_, M3, N', rfl, by rw [k2], xg_A A P, _, _, _, sn, tx, tl, hW.act (xg_W hW.1 hP hlt), c2.now (hW.act hW.1) b2 b3, k3⟩
