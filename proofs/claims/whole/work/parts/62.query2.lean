/-! LAYER 2: pattern, match, ifEvent; the start -/
theorem xz_03 : ¬ (3 : Int32) ≤ 0 := by decide
/-- pattern -/
theorem xr_pattern {M N : xm_M} (hI : xr_Inv M N) (a1 a2 : Int32) : ∃ n1 n2 r M' N', f_X6_pattern n1 M a1 a2 = some (r, M') ∧ f_X7_pattern n2 N a1 a2 = some (r, N') ∧ xr_Inv M' N' := by
  have hI9 := hI
  obtain ⟨A, h, hn, ho, sn, tx, tl, hW, hX, hM⟩ := hI
  have x6 : M 18 6 = nI A.1.2.2.2 := hX.1.2.2.2.1
  have m3 : N 1 3 = nI A.1.2.2.2 := hM.1.2.2.2.1
  have wn : A.1.2.2.2 ≤ 4 := hW.1.2.2.2.1
  have w0 := hW.1.1
  rcases xz_idx a1 A.1.2.2.2 (by omega) with hb | ⟨p, hp, rfl⟩
  · refine ⟨1000, 1000, ?_⟩
    unfold f_X6_pattern f_X7_pattern
    rw [xp_isP0 x6 hb, xm_isP0 m3 wn hb, xz_b2, xz_b2, if_pos rfl, if_pos rfl]
    exact ⟨-1, M, N, rfl, rfl, hI9⟩
  · have wP := hW.1.2.2.2.2.2 p hp
    obtain ⟨Mb, g1, g2, g3, g4, g5, g6, -, g8⟩ := q_begin hW hX
    have hXb := q_X hW hX g8
    have sM := st_M hM.1
    have n1 : xm_up N 0 14 (-5) 1 = N 1 := xm_up_r _ _ (by omega)
    obtain ⟨r, dl, M', N', K, c1, c2, c3, c4, c5, c6, c7, c8, c9, -⟩ := j_run (T := True) (wr := none) (nw := A.1.2.1) (la := A.1.2.2.1) (ev := A.2.1) (ne := A.1.1) (p := p) (P := A.2.2 p) (M := Mb) (N := xm_up N 0 14 (-5)) (o := 18 + 5 + 3 * p) (by omega) (st_E hW.1) wP (by omega) (by omega) g2 (hXb.1.2.2.2.2.2 p hp) (by rw [n1]; exact sM.1) (by rw [n1]; exact sM.2.2 p hp) (fun _ => ⟨g3, g4, by rw [n1]; exact hM.1.2.1, by rw [n1]; exact hM.1.2.2.1, hW.1.2.1, hW.1.2.2.1⟩) ⟨g5, xm_up_s _ _ _ _⟩
    have hM2 : xi_M A h hn sn tx tl N' := q_M hM (fun k hk => by rw [c8 k hk, xm_up_r _ _ (by omega)]) (fun j j1 j2 j3 j4 => by rw [c9 j j1 j2 j3, xm_up_j _ _ j4])
    have hX2 : xi_X A h hn ho sn tx tl M' := q_X hW hXb (fun k hk => c6 k (by omega))
    have inv : xr_Inv M' N' := ⟨A, h, hn, ho, sn, tx, tl, hW, hX2, hM2⟩
    have inv1 : xr_Inv M N' := ⟨A, h, hn, ho, sn, tx, tl, hW, hX, hM2⟩
    obtain ⟨s1, s2⟩ := c4.2.2.1 trivial
    obtain ⟨q0, q1, q2, q3, q4⟩ := hX.1.2.2.2.2.2 p hp
    obtain ⟨y0, y1, y2, y3⟩ := sM.2.2 p hp
    have sf : ∀ n, K + 1000 ≤ n → f_X6_searchFor n M (18 + 5 + 3 * p) = some M' := fun n hn => by
      unfold f_X6_searchFor
      rw [g1 n (by omega), xz_b1, c1 n (by omega), xz_b1]
    refine ⟨K + 1000, K + 1000, ?_⟩
    unfold f_X6_pattern f_X7_pattern
    rw [xp_isP1 x6 hp wn, xm_isP1 m3 hp wn, xz_b2, xz_b2, if_neg xz_10, if_neg xz_10, xz_ci (show p < 4 by omega) (by omega), xz_cl (by omega)]
    rcases xz_rng a2 0 6 (by omega) (by omega) with hb | ⟨k, -, hk, rfl⟩
    · have e2 : f_X7_in (K + 1000) N a2.toInt64 0 6 = some (0, N) := xz_mn0 (lo := 0) (hi := 6) (by omega) (by omega) hb
      have nk : ∀ c : Nat, c ≤ 6 → a2 ≠ nI c := by
        intro c hc t
        rw [t] at hb
        rcases hb with z | z
        · exact absurd z (by rw [xz_l (by omega) (by omega)]; omega)
        · exact absurd z (by rw [xz_l (by omega) (by omega)]; omega)
      rw [e2, xz_b2, if_pos rfl, if_neg (show ¬ a2 = 0 from nk 0 (by omega)), if_neg (show ¬ a2 = 1 from nk 1 (by omega)), if_neg (show ¬ a2 = 2 from nk 2 (by omega)), if_neg (show ¬ a2 = 3 from nk 3 (by omega)), if_neg (show ¬ a2 = 4 from nk 4 (by omega)), if_neg (show ¬ a2 = 5 from nk 5 (by omega)), if_neg (show ¬ a2 = 6 from nk 6 (by omega))]
      exact ⟨_, M, N, rfl, rfl, hI9⟩
    · have e2 : f_X7_in (K + 1000) N (nI k).toInt64 0 6 = some (1, N) := xz_mn1 (lo := 0) (hi := 6) (by omega) hk (by omega)
      rw [e2, xz_b2, if_neg xz_10]
      have p0 : f_X7_ofPattern (K + 1000) N (nI p) (nI 0) = _ := m_ofP (k := 0) (show p < 4 by omega) (by omega)
      have p1 : f_X7_ofPattern (K + 1000) N (nI p) (nI 1) = _ := m_ofP (k := 1) (show p < 4 by omega) (by omega)
      have p2 : f_X7_ofPattern (K + 1000) N (nI p) (nI 2) = _ := m_ofP (k := 2) (show p < 4 by omega) (by omega)
      have pl9 : f_X7_plainSteps (K + 1000) N' (nI p) = some (nI (A.2.2 p).1.2.2.2, N') := by
        have sM2 := st_M hM2.1
        exact m_plainN (show p < 4 by omega) (sM2.2.2 p hp) wP (by omega)
      rcases (show k = 0 ∨ k = 1 ∨ k = 2 ∨ k = 3 ∨ k = 4 ∨ k = 5 ∨ k = 6 by omega) with rfl | rfl | rfl | rfl | rfl | rfl | rfl
      · rw [if_pos (show nI 0 = 0 from rfl), if_neg (by decide), p0, xz_b2, q0]
        exact ⟨_, M, N, rfl, by rw [show N 1 (79 + 10 * p + 0) = _ from y0], hI9⟩
      · rw [if_neg (by decide), if_pos (show nI 1 = 1 from rfl), if_neg (by decide), p1, xz_b2, q1, y1]
        exact ⟨_, M, N, rfl, rfl, hI9⟩
      · rw [if_neg (by decide), if_neg (by decide), if_pos (show nI 2 = 2 from rfl), if_neg (by decide), p2, xz_b2, q2, y2]
        exact ⟨_, M, N, rfl, rfl, hI9⟩
      · rw [if_neg (by decide), if_neg (by decide), if_neg (by decide), if_pos (show nI 3 = 3 from rfl), if_pos (by decide), xz_lt, c2 _ (by omega), xz_b1, if_pos (show nI 3 = 3 from rfl), pl9, xz_b2, q3]
        exact ⟨_, M, N', rfl, rfl, inv1⟩
      · rw [if_neg (by decide), if_neg (by decide), if_neg (by decide), if_neg (by decide), if_pos (show nI 4 = 4 from rfl), if_pos (by decide), xz_lt, c2 _ (by omega), xz_b1, if_neg (by decide), if_pos (show nI 4 = 4 from rfl), sf _ (by omega), xz_b1, c4.1, c4.2.1]
        exact ⟨_, M', N', rfl, rfl, inv⟩
      · rw [if_neg (by decide), if_neg (by decide), if_neg (by decide), if_neg (by decide), if_neg (by decide), if_pos (show nI 5 = 5 from rfl), if_pos (by decide), xz_lt, c2 _ (by omega), xz_b1, if_neg (by decide), if_neg (by decide), if_pos (show nI 5 = 5 from rfl), sf _ (by omega), xz_b1, s1]
        exact ⟨_, M', N', rfl, rfl, inv⟩
      · rw [if_neg (by decide), if_neg (by decide), if_neg (by decide), if_neg (by decide), if_neg (by decide), if_neg (by decide), if_pos (show nI 6 = 6 from rfl), if_pos (by decide), xz_lt, c2 _ (by omega), xz_b1, if_neg (by decide), if_neg (by decide), if_neg (by decide), sf _ (by omega), xz_b1, s2]
        exact ⟨_, M', N', rfl, rfl, inv⟩
/-- match -/
theorem xr_match {M N : xm_M} (hI : xr_Inv M N) (a1 a2 a3 : Int32) : ∃ n1 n2 r M' N', f_X6_match n1 M a1 a2 a3 = some (r, M') ∧ f_X7_match n2 N a1 a2 a3 = some (r, N') ∧ xr_Inv M' N' := by
  have hI9 := hI
  obtain ⟨A, h, hn, ho, sn, tx, tl, hW, hX, hM⟩ := hI
  have x6 : M 18 6 = nI A.1.2.2.2 := hX.1.2.2.2.1
  have m3 : N 1 3 = nI A.1.2.2.2 := hM.1.2.2.2.1
  have wn : A.1.2.2.2 ≤ 4 := hW.1.2.2.2.1
  have w0 := hW.1.1
  rcases xz_idx a1 A.1.2.2.2 (by omega) with hb | ⟨p, hp, rfl⟩
  · refine ⟨1000, 1000, ?_⟩
    unfold f_X6_match f_X7_match
    rw [xp_isP0 x6 hb, xm_isP0 m3 wn hb, xz_b2, xz_b2, if_pos rfl, if_pos rfl]
    exact ⟨-1, M, N, rfl, rfl, hI9⟩
  · have wP := hW.1.2.2.2.2.2 p hp
    have w8 := wP.2.2.2.2.2.2.2.1
    have sM := st_M hM.1
    obtain ⟨q0, q1, q2, q3, q4⟩ := hX.1.2.2.2.2.2 p hp
    by_cases h2 : a2 < 0
    · refine ⟨1000, 1000, ?_⟩
      unfold f_X6_match f_X7_match
      rw [xp_isP1 x6 hp wn, xm_isP1 m3 hp wn, xz_b2, xz_b2, if_neg xz_10, if_neg xz_10, xz_ci (show p < 4 by omega) (by omega), if_pos h2, if_pos h2]
      exact ⟨_, M, N, rfl, rfl, hI9⟩
    · obtain ⟨rk, hrk, rfl⟩ := nI_of h2
      have pl9 : ∀ n, 20 < n → f_X7_plainSteps n N (nI p) = some (nI (A.2.2 p).1.2.2.2, N) := fun n hn => m_plainN (show p < 4 by omega) (sM.2.2 p hp) wP hn
      rcases xz_idx a3 (A.2.2 p).1.2.2.2 (by omega) with hb | ⟨ix, hix, rfl⟩
      · refine ⟨1000, 1000, ?_⟩
        unfold f_X6_match f_X7_match
        rw [xp_isP1 x6 hp wn, xm_isP1 m3 hp wn, xz_b2, xz_b2, if_neg xz_10, if_neg xz_10, xz_ci (show p < 4 by omega) (by omega), xz_cl (by omega), if_neg h2, if_neg h2, pl9 1000 (by omega), xz_b2, xz_mt0 (by omega) hb, xz_b2, if_pos rfl, q3]
        by_cases z : a3 < 0
        · rw [if_pos z]; exact ⟨_, M, N, rfl, rfl, hI9⟩
        · have z2 := hb.resolve_left z
          rw [if_neg z, if_neg (fun t => by rw [Int32.le_iff_toInt_le] at z2; rw [Int32.lt_iff_toInt_lt] at t; omega)]
          exact ⟨_, M, N, rfl, rfl, hI9⟩
      · obtain ⟨Mb, g1, g2, g3, g4, g5, g6, -, g8⟩ := q_begin hW hX
        obtain ⟨Mc, hMc⟩ : ∃ G, G = xm_up (xm_up Mb 8 3 (nI rk)) 8 4 (nI ix) := ⟨_, rfl⟩
        have k1 : (∀ k, k ≠ 8 → Mc k = Mb k) ∧ Mc 8 3 = nI rk ∧ Mc 8 4 = nI ix ∧ Mc 8 5 = -5 := by
          rw [hMc]
          exact ⟨fun k hk => by rw [xm_up_r _ _ hk, xm_up_r _ _ hk], by rw [xm_up_j _ _ (by omega), xm_up_s], xm_up_s _ _ _ _, by rw [xm_up_j _ _ (by omega), xm_up_j _ _ (by omega)]; exact g6⟩
        obtain ⟨k1, k2, k3, k4⟩ := k1
        have hXc := q_X hW hX (M' := Mc) (fun k hk => by rw [k1 k (by omega)]; exact g8 k hk)
        have n1 : xm_up N 0 14 (nI rk) 1 = N 1 := xm_up_r _ _ (by omega)
        obtain ⟨r, dl, M', N', K, c1, c2, c3, c4, c5, c6, c7, c8, c9, -⟩ := j_run (T := False) (wr := some (rk, ix)) (nw := 0) (la := 0) (ev := A.2.1) (ne := A.1.1) (p := p) (P := A.2.2 p) (M := Mc) (N := xm_up N 0 14 (nI rk)) (o := 18 + 5 + 3 * p) (by omega) (st_E hW.1) wP (by omega) (by omega) ⟨by rw [k1 13 (by omega)]; exact g2.1, fun k hk => by rw [k1 14 (by omega), k1 15 (by omega), k1 16 (by omega), k1 17 (by omega)]; exact g2.2 k hk⟩ (hXc.1.2.2.2.2.2 p hp) (by rw [n1]; exact sM.1) (by rw [n1]; exact sM.2.2 p hp) (fun t => t.elim) ⟨k2, xm_up_s _ _ _ _, k3, hix, hrk, Or.inl ⟨Nat.zero_le _, k4⟩⟩
        have hM2 : xi_M A h hn sn tx tl N' := q_M hM (fun k hk => by rw [c8 k hk, xm_up_r _ _ (by omega)]) (fun j j1 j2 j3 j4 => by rw [c9 j j1 j2 j3, xm_up_j _ _ j4])
        have hX2 : xi_X A h hn ho sn tx tl M' := q_X hW hXc (fun k hk => c6 k (by omega))
        have inv : xr_Inv M' N' := ⟨A, h, hn, ho, sn, tx, tl, hW, hX2, hM2⟩
        refine ⟨K + 1000, K + 1000, ?_⟩
        unfold f_X6_match f_X7_match f_X3_want
        rw [xp_isP1 x6 hp wn, xm_isP1 m3 hp wn, xz_b2, xz_b2, if_neg xz_10, if_neg xz_10, xz_ci (show p < 4 by omega) (by omega), xz_cl (by omega), if_neg h2, if_neg h2, pl9 _ (by omega), xz_b2, xz_mt1 hix (by omega), xz_b2, if_neg xz_10, if_neg (nI_pos (by omega)), q3, if_pos ((xz_l (by omega) (by omega)).mpr hix), g1 _ (by omega), xz_b1, xz_lt, xz_lt, xz_b1, ← hMc, c1 _ (by omega), xz_b1, xz_lt, c2 _ (by omega), xz_b1, c4.2.1]
        obtain ⟨-, -, -, -, -, f6⟩ := c4.2.2.2
        rcases f6 with ⟨f1, f2⟩ | ⟨f1, f2⟩
        · rw [if_pos ((xz_le (by omega) hrk).mpr f1), f2]
          exact ⟨_, M', N', rfl, rfl, inv⟩
        · rw [if_neg (mt (xz_le (by omega) hrk).mp (by omega)), f2, xz_ci (show ix < 4 by omega) (by omega), xz_cl (by omega)]
          exact ⟨_, M', N', rfl, rfl, inv⟩
/-- ifEvent -/
theorem xr_ifEvent {M N : xm_M} (hI : xr_Inv M N) {c1 : Nat} (hc1 : c1 < 65536) (a2 a3 : Int32) : ∃ n1 n2 r M' N', f_X6_ifEvent n1 M (nI c1) a2 a3 = some (r, M') ∧ f_X7_ifEvent n2 N (nI c1) a2 a3 = some (r, N') ∧ xr_Inv M' N' := by
  have hI9 := hI
  obtain ⟨A, h, hn, ho, sn, tx, tl, hW, hX, hM⟩ := hI
  have w0 := hW.1.1
  rcases xe_split hc1 a2 a3 with hb | ⟨k, v, t, hk, hv, ht, e1, rfl, rfl⟩
  · refine ⟨1000, 1000, ?_⟩
    unfold f_X6_ifEvent f_X7_ifEvent
    rw [xp_errB hb, xm_wellB hb, xz_b2, xz_b2, if_neg (by decide : ¬ (-2 : Int32) = 0), if_pos rfl]
    exact ⟨-2, M, N, rfl, rfl, hI9⟩
  · by_cases hl : A.1.2.1 ≤ t + A.1.2.2.1
    · have ee : ∀ e, (xe_A A k v t).2.1 e = if e = A.1.1 then (k, v, t) else A.2.1 e := fun e => rfl
      have e9 : (xe_A A k v t).2.1 A.1.1 = (k, v, t) := by rw [ee, if_pos rfl]
      have hE : eW (xe_A A k v t).2.1 (A.1.1 + 1) := by
        intro e he
        rw [ee]
        by_cases q : e = A.1.1
        · rw [if_pos q]; exact ⟨hk, hv, ht⟩
        · rw [if_neg q]; exact hW.1.2.2.2.2.1 e (by omega)
      obtain ⟨M1, g1, g2, g3, g4, g5, g6, g7, g8⟩ := x_begin (ev := (xe_A A k v t).2.1) w0 (fun e he => hE e (by omega)) hX.1.1 hX.1.2.1 hX.1.2.2.1 hW.1.2.1 hW.1.2.2.1 (fun e he => by
        rw [ee, if_neg (show ¬ e = A.1.1 by omega)]
        exact hX.1.2.2.2.2.1 e he)
      obtain ⟨M2, i1, i2, i3⟩ := x_insert (show A.1.1 < 25 by omega) hE g2
      rw [e9] at i1
      have fr : ∀ r, r < 8 ∨ 18 ≤ r → M2 r = M r := fun r hr => by rw [i3 r (by omega)]; exact g8 r hr
      have hX2 := q_X hW hX fr
      obtain ⟨N1, d1, d2, d3⟩ := xm_comes (N := N) (n := 1000) hM.1 hW.1 hk hv ht
      have d1' : ∀ n, f_X7_comes n N (nI (97 + k)) (nI v) (nI t) = some N1 := fun n => d1
      have sM := st_M d2
      obtain ⟨r, M3, N2, K, c1, c2, c3, c4, c5, c6⟩ := j_all (Ps := A.2.2) (M := M2) (N := N1) (np := A.1.2.2.2) (show A.1.1 + 1 ≤ 25 by omega) hE hW.1.2.2.2.1 hW.1.2.2.2.2.2 ⟨i2, hX2.1.2.2.2.1, by rw [i3 8 (by omega)]; exact g5, hX2.1.2.2.2.2.2⟩ sM (fun s hs => by rw [i3 12 (by omega)]; exact g7 s hs)
      have n21 : N2 1 = N1 1 := c5 1 (by omega)
      have inv : xr_Inv M3 (xm_up (xm_up N2 1 0 (nI A.1.1)) 1 1 (nI A.1.2.1)) := by
        refine ⟨A, h, hn, ho, sn, tx, tl, hW, q_X hW hX2 (fun r hr => c4 r (by omega)), ?_⟩
        obtain ⟨m1, ⟨m2, m6⟩, m3, m4, m5⟩ := hM
        have rk : ∀ r, r ≠ 1 → (1 ≤ r ∧ r ≤ 4) ∨ 11 ≤ r → xm_up (xm_up N2 1 0 (nI A.1.1)) 1 1 (nI A.1.2.1) r = N r := fun r r1 r2 => by rw [xm_up_r _ _ r1, xm_up_r _ _ r1, c5 r r2, d3 r r1]
        have r0 : ∀ j, j ≠ 10 → j ≠ 11 → j ≠ 12 → j ≠ 14 → xm_up (xm_up N2 1 0 (nI A.1.1)) 1 1 (nI A.1.2.1) 0 j = N 0 j := fun j j1 j2 j3 j4 => by rw [xm_up_k _ _ (by omega), xm_up_k _ _ (by omega), c6 j j1 j2 j3 j4, d3 0 (by omega)]
        have lo : ∀ j, 2 ≤ j → xm_up (xm_up N2 1 0 (nI A.1.1)) 1 1 (nI A.1.2.1) 1 j = N1 1 j := fun j hj => by rw [xm_up_j _ _ (by omega), xm_up_j _ _ (by omega), n21]
        obtain ⟨z0, z1, z2, z3, z4, z5⟩ := d2
        refine ⟨⟨by rw [xm_up_j _ _ (by omega), xm_up_s], by rw [show 0 + 1 = 1 by omega, xm_up_s], by rw [lo _ (by omega)]; exact z2, by rw [lo _ (by omega)]; exact z3, fun i hi => ?_, fun j hj => ?_⟩, ⟨by rw [r0 3 (by omega) (by omega) (by omega) (by omega)]; exact m2, fun i hi => by rw [rk 3 (by omega) (by omega)]; exact m6 i hi⟩, ?_, by rw [r0 17 (by omega) (by omega) (by omega) (by omega)]; exact m4, fun i hi => by rw [rk 11 (by omega) (by omega)]; exact m5 i hi⟩
        · have := z4 i (show i < A.1.1 + 1 by omega)
          rw [ee, if_neg (show ¬ i = A.1.1 by omega)] at this
          rw [lo _ (by omega), lo _ (by omega), lo _ (by omega)]
          exact this
        · refine (z5 j hj).fr (hW.1.2.2.2.2.2 j hj) (fun r hr => ?_)
          rw [lo _ (by omega)]
        · cases sn with
          | none => show _ = _; rw [r0 5 (by omega) (by omega) (by omega) (by omega)]; exact m3
          | some B => exact ⟨by rw [r0 5 (by omega) (by omega) (by omega) (by omega)]; exact m3.1, by rw [rk 4 (by omega) (by omega)]; exact m3.2⟩
      have z0 : N2 1 0 = nI (A.1.1 + 1) := by rw [n21]; exact d2.1
      refine ⟨K + 1000, K + 1000, ?_⟩
      unfold f_X6_ifEvent f_X7_ifEvent
      rw [e1, xp_errG hk hv ht hX.1.2.1 hX.1.2.2.1 hW.1.2.1 hW.1.2.2.1, xm_wellG hk hv ht, xz_b2, xz_b2, if_neg xz_10, xm_lateG ht hM.1.2.1 hM.1.2.2.1 hW.1.2.1 hW.1.2.2.1, xz_b2, if_pos hl, if_pos hl, if_pos rfl, if_pos rfl, xz_i1, xz_ct, d1', xz_b1, c2 _ (by omega), xz_b2, xz_i0, xz_ct, xz_ct, xz_lt, xz_t0, z0, nI_pred, xz_ct, xz_lt, xz_t1, g1 _ (by omega), xz_b1, show M1 18 0 = nI A.1.1 by rw [g8 18 (by omega)]; exact hX.1.1, i1 _ (by omega), xz_b1, c1 _ (by omega), xz_b2, show N 1 1 = nI A.1.2.1 from hM.1.2.1]
      exact ⟨_, M3, _, rfl, rfl, inv⟩
    · refine ⟨1000, 1000, ?_⟩
      unfold f_X6_ifEvent f_X7_ifEvent
      rw [e1, xp_errG hk hv ht hX.1.2.1 hX.1.2.2.1 hW.1.2.1 hW.1.2.2.1, xm_wellG hk hv ht, xz_b2, xz_b2, if_neg xz_10, xm_lateG ht hM.1.2.1 hM.1.2.2.1 hW.1.2.1 hW.1.2.2.1, xz_b2, if_neg hl, if_neg hl, if_neg xz_m4, if_neg xz_10]
      exact ⟨-4, M, N, rfl, rfl, hI9⟩
/-- the start -/
theorem xr_start : xr_Inv xm_0 xm_1 := by
  refine ⟨((0, 0, 20, 0), fun _ => (0, 0, 0), fun _ => ((0, 0, 0, 0), fun _ => 0)), fun _ => ((0, 0, 20, 0), fun _ => (0, 0, 0), fun _ => ((0, 0, 0, 0), fun _ => 0)), 0, 0, none, fun _ => 0, 0, ⟨⟨by decide, by decide, by decide, by decide, fun i hi => absurd hi (Nat.not_lt_zero i), fun j hj => absurd hj (Nat.not_lt_zero j)⟩, by decide, by decide, fun i hi => absurd hi (Nat.not_lt_zero i), fun B hB => (by cases hB), by decide, fun i hi => absurd hi (Nat.not_lt_zero i)⟩, ⟨⟨by decide, by decide, by decide, by decide, fun i hi => absurd hi (Nat.not_lt_zero i), fun j hj => absurd hj (Nat.not_lt_zero j)⟩, ⟨by decide, by decide, fun i hi => absurd hi (Nat.not_lt_zero i)⟩, (by show xm_0 0 2 = 0; decide), by decide, fun i hi => absurd hi (Nat.not_lt_zero i)⟩, ⟨⟨by decide, by decide, by decide, by decide, fun i hi => absurd hi (Nat.not_lt_zero i), fun j hj => absurd hj (Nat.not_lt_zero j)⟩, ⟨by decide, fun i hi => absurd hi (Nat.not_lt_zero i)⟩, (by show xm_1 0 5 = 0; decide), by decide, fun i hi => absurd hi (Nat.not_lt_zero i)⟩⟩
