/-! THE LAW, pure: isStep, whole -/
section LS2
variable {A : xa_S} {h : Nat → xa_S} {hn ho : Nat} {tx tx' : Nat → Nat} {tl B : Nat} {M N : xm_M}
theorem jT.jI {T T' : List Nat} (hI : jT A h hn ho T T' M N) : jI A h hn ho (fun i => T.getD i 0) (fun i => T'.getD i 0) T.length M N := by
  obtain ⟨a, b, c⟩ := hI
  refine ⟨a, ?_⟩
  rw [c]
  exact b
theorem v_pat (hI : jI A h hn ho tx tx' tl M N) (hS : sOK B A) (hh : ∀ i, i < hn → sOK B (h i)) (x2 x3 : Int32) {n : Nat} (hn9 : 1000 < n) : ∃ M' N', xm_b3 (f_L_isPattern n M N x2 x3) (fun r M N => xm_ck (xm_z r) (some (r, M, N))) = some (1, M', N') ∧ sI (B + 17) M' N' := by
  obtain ⟨M', N', e, q⟩ := v_isPattern hI x2 x3 hn9
  refine ⟨M', N', by rw [e, xz_b3, xz_z1, xz_ct], ?_⟩
  rcases q with ⟨-, T, T', q⟩ | ⟨P, T, T', qp, q⟩
  · exact ⟨A, h, hn, ho, _, _, _, q.jI, hS.le (by omega), fun i hi => (hh i hi).le (by omega)⟩
  · refine ⟨xg_A A P, _, _, _, _, _, _, q.jI, ⟨by show A.1.2.1 ≤ _; have := hS.1; omega, fun j hj => ?_, hS.2.2⟩, fun i hi => (xh_push_B (p := sOK B) hS hh i hi).le (by omega)⟩
    have hj : j < A.1.2.2.2 + 1 := hj
    show pL (if j = A.1.2.2.2 then P else A.2.2 j)
    split
    · exact qp
    · exact hS.2.1 j (by omega)
theorem PL_back {ev : Nat → Nat × Nat × Nat} {ne : Nat} {P : xa_P} {w : Nat} (h : w ≤ P.1.1) : nM (PL ev ne ((w, P.1.2), P.2)) ≤ nM (PL ev ne P) := by
  have e : nM (PL ev ne ((w, P.1.2), P.2)) ≤ nM (PL ev ne ((P.1.1, P.1.2), P.2)) := PL_mono (P := ((w, P.1.2), P.2)) h
  exact e

set_option maxHeartbeats 4000000 in
theorem v_isStep (hs : sI B M N) (hB25 : 25 ≤ B) (hB9 : B ≤ 900) (x2 x3 : Int32) {n : Nat} (hn9 : 1000 < n) : ∃ M' N', f_L_isStep n M N x2 x3 = some (1, M', N') ∧ sI (B + 17) M' N' := by
  obtain ⟨A, h, hn, ho, tx, tx', tl, ⟨h1, h2⟩, hS, hh⟩ := hs
  have hB := hS.1
  obtain ⟨M1, a1, h1⟩ := y_count h1 (w := 0) (by omega)
  obtain ⟨M2, a2, h1⟩ := y_count h1 (w := 3) (by omega)
  obtain ⟨M3, a3, h1⟩ := y_count h1 (w := 5) (by omega)
  have a1 : f_X6_count n M 0 = some (nI A.1.1, M1) := a1 n (by omega)
  have a2 : f_X6_count n M1 3 = some (nI A.1.2.1, M2) := a2 n (by omega)
  have a3 : f_X6_count n M2 5 = some (nI A.1.2.2.1, M3) := a3 n (by omega)
  have w0 := h1.1.1.1
  have w1 := h1.1.1.2.1
  have w2 := h1.1.1.2.2.1
  have w4 := h1.1.1.2.2.2.1
  obtain ⟨r, hr, ar⟩ := v_up n M3 N x2 (d := 15) (by omega) (by omega)
  have ar : f_L_up n M3 N x2 15 = some (nI r, M3, N) := ar
  obtain ⟨c4, hc4, e4⟩ := v_up n M3 N x3 (d := 30) (by omega) (by omega)
  obtain ⟨c5, hc5, e5⟩ := v_up n M3 N x3 (d := 50) (by omega) (by omega)
  have e4 : f_L_up n M3 N x3 30 = some (nI c4, M3, N) := e4
  have e5 : f_L_up n M3 N x3 50 = some (nI c5, M3, N) := e5
  unfold f_L_isStep
  rw [a1, xz_b2, a2, xz_b2, a3, xz_b2, ar, xz_b3]
  rcases (show r = 0 ∨ r = 1 ∨ r = 2 ∨ r = 3 ∨ r = 4 ∨ r = 5 ∨ r = 6 ∨ r = 7 ∨ r = 8 ∨ r = 9 ∨ r = 10 ∨ r = 11 ∨ r = 12 ∨ r = 13 ∨ r = 14 by omega) with rfl | rfl | rfl | rfl | rfl | rfl | rfl | rfl | rfl | rfl | rfl | rfl | rfl | rfl | rfl
  · rw [if_pos (show nI 0 = 0 from rfl)]
    exact v_104 h1 h2 hS hB9 hh hB25 x3 _ hn9
  · rw [if_neg (show ¬ nI 1 = 0 by decide), if_pos (show nI 1 = 1 from rfl)]
    exact v_104 h1 h2 hS hB9 hh hB25 x3 _ hn9
  · rw [if_neg (show ¬ nI 2 = 0 by decide), if_neg (show ¬ nI 2 = 1 by decide), if_pos (show nI 2 = 2 from rfl)]
    exact v_104 h1 h2 hS hB9 hh hB25 x3 _ hn9
  · rw [if_neg (show ¬ nI 3 = 0 by decide), if_neg (show ¬ nI 3 = 1 by decide), if_neg (show ¬ nI 3 = 2 by decide), if_pos (show nI 3 = 3 from rfl)]
    exact v_104 h1 h2 hS hB9 hh hB25 x3 _ hn9
  · rw [if_neg (show ¬ nI 4 = 0 by decide), if_neg (show ¬ nI 4 = 1 by decide), if_neg (show ¬ nI 4 = 2 by decide), if_neg (show ¬ nI 4 = 3 by decide), if_pos (show nI 4 = 4 from rfl)]
    exact v_104 h1 h2 hS hB9 hh hB25 x3 _ hn9
  · rw [if_neg (show ¬ nI 5 = 0 by decide), if_neg (show ¬ nI 5 = 1 by decide), if_neg (show ¬ nI 5 = 2 by decide), if_neg (show ¬ nI 5 = 3 by decide), if_neg (show ¬ nI 5 = 4 by decide), if_pos (show nI 5 = 5 from rfl)]
    exact v_104 h1 h2 hS hB9 hh hB25 x3 _ hn9
  · rw [if_neg (show ¬ nI 6 = 0 by decide), if_neg (show ¬ nI 6 = 1 by decide), if_neg (show ¬ nI 6 = 2 by decide), if_neg (show ¬ nI 6 = 3 by decide), if_neg (show ¬ nI 6 = 4 by decide), if_neg (show ¬ nI 6 = 5 by decide), if_pos (show nI 6 = 6 from rfl)]
    exact v_104 h1 h2 hS hB9 hh hB25 x3 _ hn9
  · rw [if_neg (show ¬ nI 7 = 0 by decide), if_neg (show ¬ nI 7 = 1 by decide), if_neg (show ¬ nI 7 = 2 by decide), if_neg (show ¬ nI 7 = 3 by decide), if_neg (show ¬ nI 7 = 4 by decide), if_neg (show ¬ nI 7 = 5 by decide), if_neg (show ¬ nI 7 = 6 by decide), if_pos (show nI 7 = 7 from rfl)]
    exact v_pat ⟨h1, h2⟩ hS hh _ _ hn9
  · rw [if_neg (show ¬ nI 8 = 0 by decide), if_neg (show ¬ nI 8 = 1 by decide), if_neg (show ¬ nI 8 = 2 by decide), if_neg (show ¬ nI 8 = 3 by decide), if_neg (show ¬ nI 8 = 4 by decide), if_neg (show ¬ nI 8 = 5 by decide), if_neg (show ¬ nI 8 = 6 by decide), if_neg (show ¬ nI 8 = 7 by decide), if_pos (show nI 8 = 8 from rfl)]
    exact v_pat ⟨h1, h2⟩ hS hh _ _ hn9
  · rw [if_neg (show ¬ nI 9 = 0 by decide), if_neg (show ¬ nI 9 = 1 by decide), if_neg (show ¬ nI 9 = 2 by decide), if_neg (show ¬ nI 9 = 3 by decide), if_neg (show ¬ nI 9 = 4 by decide), if_neg (show ¬ nI 9 = 5 by decide), if_neg (show ¬ nI 9 = 6 by decide), if_neg (show ¬ nI 9 = 7 by decide), if_neg (show ¬ nI 9 = 8 by decide), if_pos (show nI 9 = 9 from rfl)]
    exact v_pat ⟨h1, h2⟩ hS hh _ _ hn9
  · rw [if_neg (show ¬ nI 10 = 0 by decide), if_neg (show ¬ nI 10 = 1 by decide), if_neg (show ¬ nI 10 = 2 by decide), if_neg (show ¬ nI 10 = 3 by decide), if_neg (show ¬ nI 10 = 4 by decide), if_neg (show ¬ nI 10 = 5 by decide), if_neg (show ¬ nI 10 = 6 by decide), if_neg (show ¬ nI 10 = 7 by decide), if_neg (show ¬ nI 10 = 8 by decide), if_neg (show ¬ nI 10 = 9 by decide), if_pos (show nI 10 = 10 from rfl)]
    obtain ⟨M4, b1, h1⟩ := y_count h1 (w := 1) (by omega)
    have b1 : f_X6_count n M3 1 = some (nI A.1.2.2.2, M4) := b1 n (by omega)
    obtain ⟨p, hp, b2⟩ := v_up n M4 N (x2 >>> ((4 : Int32) &&& 31)) (d := A.1.2.2.2 + 1) (by omega) (by omega)
    obtain ⟨M5, b3, h1⟩ := y_count h1 (w := 1) (by omega)
    have b3 : f_X6_count n M4 1 = some (nI A.1.2.2.2, M5) := b3 n (by omega)
    rw [b1, xz_b2, nI_1, b2, xz_b3, b3, xz_b2]
    by_cases q : p = A.1.2.2.2
    · have d1 := y_drop0 h1 (j := p) (by omega) (by omega) n
      have d2 := y_drop0 h2 (j := p) (by show A.1.2.2.2 ≤ p; omega) (by omega) n
      rw [d1, xz_b2, d2, xz_b2, if_pos rfl, if_pos (by rw [q]), if_pos rfl]
      exact ⟨M5, N, rfl, sI_same hS hh h1 h2⟩
    · obtain ⟨M6, d1, g1⟩ := y_drop h1 (p := p) (by omega) (n := n) (by omega)
      obtain ⟨N6, d2, g2⟩ := y_drop h2 (p := p) (by show p < A.1.2.2.2; omega) (n := n) (by omega)
      have d2 : f_X6_dropPattern n N (nI p) = some (nI (A.1.2.2.2 - 1), N6) := d2
      rw [m_drop] at g2
      have e1 : nI A.1.2.2.2 - 1 = nI (A.1.2.2.2 - 1) := pk_sub (b := 1) (by omega)
      rw [d1, xz_b2, d2, xz_b2, if_pos rfl, if_neg (mt (xz_e (by omega) (by omega)).mp q), e1, if_pos rfl]
      refine ⟨M6, N6, rfl, sI_act (A' := xd_A A p) hS hh ⟨by show A.1.2.1 ≤ _; omega, fun j hj => ?_, hS.2.2⟩ g1 g2⟩
      have hj : j < A.1.2.2.2 - 1 := hj
      show pL (if j < p then A.2.2 j else A.2.2 (j + 1))
      split
      · exact hS.2.1 j (by omega)
      · exact hS.2.1 (j + 1) (by omega)
  · rw [if_neg (show ¬ nI 11 = 0 by decide), if_neg (show ¬ nI 11 = 1 by decide), if_neg (show ¬ nI 11 = 2 by decide), if_neg (show ¬ nI 11 = 3 by decide), if_neg (show ¬ nI 11 = 4 by decide), if_neg (show ¬ nI 11 = 5 by decide), if_neg (show ¬ nI 11 = 6 by decide), if_neg (show ¬ nI 11 = 7 by decide), if_neg (show ¬ nI 11 = 8 by decide), if_neg (show ¬ nI 11 = 9 by decide), if_neg (show ¬ nI 11 = 10 by decide), if_pos (show nI 11 = 11 from rfl)]
    obtain ⟨M4, b1, h1⟩ := y_count h1 (w := 1) (by omega)
    have b1 : f_X6_count n M3 1 = some (nI A.1.2.2.2, M4) := b1 n (by omega)
    obtain ⟨p, hp, b2⟩ := v_up n M4 N (x2 >>> ((4 : Int32) &&& 31)) (d := A.1.2.2.2 + 1) (by omega) (by omega)
    obtain ⟨u, hu, b3⟩ := v_up n M4 N x3 (d := 100) (by omega) (by omega)
    have b3 : f_L_up n M4 N x3 100 = some (nI u, M4, N) := b3
    have ew : (1 : Int32) + nI u = nI (1 + u) := nI_add 1 u
    rw [b1, xz_b2, nI_1, b2, xz_b3, b3, xz_b3, ew]
    by_cases q : p = A.1.2.2.2
    · have p1 := fun x => y_pat0 h1 (j := p) (by omega) (by omega) x n
      have d1 := y_win0 h1 (j := p) (by omega) (by omega) (nI (1 + u)) n
      have d2 := y_win0 h2 (j := p) (by show A.1.2.2.2 ≤ p; omega) (by omega) (nI (1 + u)) n
      rw [p1, xz_b2, p1, xz_b2, d1, xz_b2, d2, xz_b2, if_pos rfl, if_neg (show ¬ (0 : Int32) ≤ -1 by decide), if_pos rfl]
      exact ⟨M4, N, rfl, sI_same hS hh h1 h2⟩
    · have hj : p < A.1.2.2.2 := by omega
      have wP := h1.1.1.2.2.2.2.2 p hj
      have wP2 := wP.2.1
      have wP1 := wP.1
      obtain ⟨M5, c1, h1⟩ := y_pattern h1 hj (w := 0) (by omega)
      obtain ⟨M6, c2, h1⟩ := y_pattern h1 hj (w := 4) (by omega)
      have c1 : f_X6_pattern n M4 (nI p) 0 = some (nI (A.2.2 p).1.1, M5) := c1 n (by omega)
      have c2 : f_X6_pattern n M5 (nI p) 4 = some (nI (patV A p 4), M6) := c2 n (by omega)
      have b4 : patV A p 4 < 2 ^ 30 := by
        have z1 := PL_len (ev := A.2.1) (show A.1.1 ≤ 25 by omega) wP
        have z2 := nM_le (PL A.2.1 A.1.1 (A.2.2 p))
        rw [patV_4]
        omega
      rw [c1, xz_b2, c2, xz_b2]
      by_cases he : (A.2.2 p).1.1 = 1 + u
      · have d1 := y_win1 h1 hj (w := 1 + u) (by omega) (by omega) he n
        have d2 := y_win1 h2 (j := p) (by show p < A.1.2.2.2; omega) (w := 1 + u) (by omega) (by omega) (by rw [mirS_p, mirP_1]; exact he) n
        obtain ⟨M7, c3, h1⟩ := y_pattern h1 hj (w := 4) (by omega)
        have c3 : f_X6_pattern n M6 (nI p) 4 = some (nI (patV A p 4), M7) := c3 n (by omega)
        obtain ⟨M8, k1, h1⟩ := v_513 (N := N) h1 hj (w := 1 + u) (w0 := 1 + u) (m0 := patV A p 4) (by omega) (by omega) b4 (fun _ => Nat.le_refl _) hn9
        rw [d1, xz_b2, d2, xz_b2, if_pos rfl, if_pos ((xz_cle (c := 0) 0 rfl (by omega) (by omega)).mpr (Nat.zero_le _)), he, if_pos rfl, if_pos rfl, if_neg (mt (xz_l (by omega) (by omega)).mp (Nat.lt_irrefl _)), c3, xz_b2, if_neg (mt (xz_l (by omega) (by omega)).mp (Nat.lt_irrefl _)), k1]
        exact ⟨M8, N, rfl, sI_same hS hh h1 h2⟩
      · obtain ⟨M7, d1, g1⟩ := y_win h1 hj (w := 1 + u) (by omega) (by omega) he (n := n) (by omega)
        obtain ⟨N7, d2, g2⟩ := y_win h2 (j := p) (by show p < A.1.2.2.2; omega) (w := 1 + u) (by omega) (by omega) (by rw [mirS_p, mirP_1]; exact he) (n := n) (by omega)
        have d2 : f_X6_setWindow n N (nI p) (nI (1 + u)) = some (nI (A.2.2 p).1.1, N7) := by
          rw [d2, mirS_p, mirP_1]
        rw [m_wind] at g2
        have hj2 : p < (ya_W A p (1 + u)).1.2.2.2 := hj
        have okW : sOK (B + 17) (ya_W A p (1 + u)) := ⟨by show A.1.2.1 ≤ _; omega, fun j hj3 => by
          show pL (if j = p then ((1 + u, (A.2.2 p).1.2), (A.2.2 p).2) else A.2.2 j)
          split
          · exact hS.2.1 p hj
          · exact hS.2.1 j hj3, hS.2.2⟩
        have eP : (ya_W A p (1 + u)).2.2 p = ((1 + u, (A.2.2 p).1.2), (A.2.2 p).2) := if_pos rfl
        have eV : patV (ya_W A p (1 + u)) p 4 = nM (PL A.2.1 A.1.1 ((1 + u, (A.2.2 p).1.2), (A.2.2 p).2)) := by
          rw [patV_4, eP]
          rfl
        have wP9 := g1.1.1.2.2.2.2.2 p hj2
        have b5 : patV (ya_W A p (1 + u)) p 4 < 2 ^ 30 := by
          have z1 := PL_len (ev := (ya_W A p (1 + u)).2.1) (ne := (ya_W A p (1 + u)).1.1) (show A.1.1 ≤ 25 by omega) wP9
          have z2 := nM_le (PL (ya_W A p (1 + u)).2.1 (ya_W A p (1 + u)).1.1 ((ya_W A p (1 + u)).2.2 p))
          rw [patV_4]
          omega
        rw [d1, xz_b2, d2, xz_b2, if_pos rfl, if_pos ((xz_cle (c := 0) 0 rfl (by omega) (by omega)).mpr (Nat.zero_le _)), if_neg (mt (xz_e (by omega) (by omega)).mp he), if_pos rfl]
        by_cases lw : 1 + u < (A.2.2 p).1.1
        · obtain ⟨M8, k1, g3⟩ := v_513 (N := N7) g1 hj2 (w := 1 + u) (w0 := (A.2.2 p).1.1) (m0 := patV A p 4) (by omega) (by omega) b4 (fun _ => by rw [eV, patV_4]; exact PL_back (by omega)) hn9
          rw [if_pos ((xz_l (by omega) (by omega)).mpr lw), k1]
          exact ⟨M8, N7, rfl, sI_act hS hh okW g3 g2⟩
        · obtain ⟨M8, c3, g3⟩ := y_pattern g1 hj2 (w := 4) (by omega)
          have c3 : f_X6_pattern n M7 (nI p) 4 = some (nI (patV (ya_W A p (1 + u)) p 4), M8) := c3 n (by omega)
          have mono : patV A p 4 ≤ patV (ya_W A p (1 + u)) p 4 := by rw [eV, patV_4]; exact PL_mono (by omega)
          obtain ⟨M9, k1, g4⟩ := v_513 (N := N7) g3 hj2 (w := 1 + u) (w0 := (A.2.2 p).1.1) (m0 := patV A p 4) (by omega) (by omega) b4 (fun z => absurd (show (A.2.2 p).1.1 < 1 + u by omega) z) hn9
          rw [if_neg (mt (xz_l (by omega) (by omega)).mp lw), c3, xz_b2, if_neg (mt (xz_l (by omega) (by omega)).mp (by omega)), k1]
          exact ⟨M9, N7, rfl, sI_act hS hh okW g4 g2⟩
  · rw [if_neg (show ¬ nI 12 = 0 by decide), if_neg (show ¬ nI 12 = 1 by decide), if_neg (show ¬ nI 12 = 2 by decide), if_neg (show ¬ nI 12 = 3 by decide), if_neg (show ¬ nI 12 = 4 by decide), if_neg (show ¬ nI 12 = 5 by decide), if_neg (show ¬ nI 12 = 6 by decide), if_neg (show ¬ nI 12 = 7 by decide), if_neg (show ¬ nI 12 = 8 by decide), if_neg (show ¬ nI 12 = 9 by decide), if_neg (show ¬ nI 12 = 10 by decide), if_neg (show ¬ nI 12 = 11 by decide), if_pos (show nI 12 = 12 from rfl)]
    by_cases q : 30 ≤ A.1.2.1
    · have e1 : nI A.1.2.1 - nI c4 = nI (A.1.2.1 - c4) := pk_sub (by omega)
      rw [if_pos ((xz_cle (c := 30) 30 rfl (by omega) (by omega)).mpr q), e4, xz_b3, e1]
      exact v_565 h1 h2 hS hh (by omega) hn9
    · rw [if_neg (mt (xz_cle (c := 30) 30 rfl (by omega) (by omega)).mp q), e4, xz_b3]
      exact v_565 h1 h2 hS hh (by omega) hn9
  · rw [if_neg (show ¬ nI 13 = 0 by decide), if_neg (show ¬ nI 13 = 1 by decide), if_neg (show ¬ nI 13 = 2 by decide), if_neg (show ¬ nI 13 = 3 by decide), if_neg (show ¬ nI 13 = 4 by decide), if_neg (show ¬ nI 13 = 5 by decide), if_neg (show ¬ nI 13 = 6 by decide), if_neg (show ¬ nI 13 = 7 by decide), if_neg (show ¬ nI 13 = 8 by decide), if_neg (show ¬ nI 13 = 9 by decide), if_neg (show ¬ nI 13 = 10 by decide), if_neg (show ¬ nI 13 = 11 by decide), if_neg (show ¬ nI 13 = 12 by decide), if_pos (show nI 13 = 13 from rfl)]
    have cnt : ∀ (A' : xa_S) (h' : Nat → xa_S) (hn' ho' : Nat) (M' : xm_M), yI A' h' hn' ho' tx tl M' → A'.1.2.1 = A.1.2.1 → A'.1.2.2.1 = c5 → ∃ M8, yI A' h' hn' ho' tx tl M8 ∧ ∀ N' : xm_M, xm_b2 (f_X6_count n M' 5) (fun r122 M123 => if r122 = nI c5 then xm_b2 (f_X6_count n M123 4) (fun r126 M127 => if nI A.1.2.1 ≤ nI c5 then if r126 = 0 then some ((1 : Int32), M127, N') else some (0, M127, N') else if r126 = nI A.1.2.1 - nI c5 then some (1, M127, N') else some (0, M127, N')) else some (0, M123, N')) = some (1, M8, N') := by
      intro A' h' hn' ho' M' g1 g2 g3
      obtain ⟨M7, k1, k2⟩ := y_count g1 (w := 5) (by omega)
      obtain ⟨M8, k3, k4⟩ := y_count k2 (w := 4) (by omega)
      have k1 : f_X6_count n M' 5 = some (nI A'.1.2.2.1, M7) := k1 n (by omega)
      have k3 : f_X6_count n M7 4 = some (nI (A'.1.2.1 - A'.1.2.2.1), M8) := k3 n (by omega)
      rw [g3] at k1
      rw [g2, g3] at k3
      refine ⟨M8, k4, fun N' => ?_⟩
      rw [k1, xz_b2, if_pos rfl, k3, xz_b2]
      by_cases q : A.1.2.1 ≤ c5
      · rw [if_pos ((xz_le (by omega) (by omega)).mpr q), if_pos (by rw [show A.1.2.1 - c5 = 0 by omega]; rfl)]
      · rw [if_neg (mt (xz_le (by omega) (by omega)).mp q), pk_sub (by omega), if_pos rfl]
    by_cases q : A.1.2.2.1 = c5
    · have d1 := y_late0 h1 (j := c5) (by omega) q n
      have d2 := y_late0 h2 (j := c5) (by omega) q n
      obtain ⟨M8, g1, g2⟩ := cnt A h hn ho M3 h1 rfl q
      rw [e5, xz_b3, d1, xz_b2, d2, xz_b2, if_pos rfl]
      exact ⟨M8, N, g2 N, sI_same hS hh g1 h2⟩
    · obtain ⟨M7, d1, g1⟩ := y_late h1 (j := c5) (by omega) q (n := n) (by omega)
      obtain ⟨N7, d2, g2⟩ := y_late h2 (j := c5) (by omega) q (n := n) (by omega)
      have d2 : f_X6_setLateness n N (nI c5) = some (nI A.1.2.2.1, N7) := d2
      rw [m_late] at g2
      obtain ⟨M8, g3, g4⟩ := cnt _ _ _ _ M7 g1 rfl rfl
      rw [e5, xz_b3, d1, xz_b2, d2, xz_b2, if_pos rfl]
      exact ⟨M8, N7, g4 N7, sI_act (A' := ya_L A c5) hS hh ⟨by show A.1.2.1 ≤ _; omega, hS.2⟩ g3 g2⟩
  · rw [if_neg (show ¬ nI 14 = 0 by decide), if_neg (show ¬ nI 14 = 1 by decide), if_neg (show ¬ nI 14 = 2 by decide), if_neg (show ¬ nI 14 = 3 by decide), if_neg (show ¬ nI 14 = 4 by decide), if_neg (show ¬ nI 14 = 5 by decide), if_neg (show ¬ nI 14 = 6 by decide), if_neg (show ¬ nI 14 = 7 by decide), if_neg (show ¬ nI 14 = 8 by decide), if_neg (show ¬ nI 14 = 9 by decide), if_neg (show ¬ nI 14 = 10 by decide), if_neg (show ¬ nI 14 = 11 by decide), if_neg (show ¬ nI 14 = 12 by decide), if_neg (show ¬ nI 14 = 13 by decide)]
    obtain ⟨M4, b1, h1⟩ := y_count h1 (w := 7) (by omega)
    have b1 : f_X6_count n M3 7 = some (nI hn, M4) := b1 n (by omega)
    rw [b1, xz_b2]
    cases hn with
    | zero =>
      rw [if_pos (show nI 0 = 0 from rfl)]
      exact ⟨M4, N, rfl, sI_same hS hh h1 h2⟩
    | succ k =>
      have w5 := h1.1.2.1
      obtain ⟨M5, d1, g1⟩ := y_undo h1 (n := n) (by omega)
      obtain ⟨N5, d2, g2⟩ := y_undo h2 (n := n) (by omega)
      rw [if_neg (mt (xz_ec (c := 0) 0 rfl (by omega) (by omega)).mp (by omega)), d1, xz_b2, d2, xz_b2, if_pos rfl]
      exact ⟨M5, N5, rfl, h k, h, k, ho, tx, tx', tl, ⟨g1, g2⟩, (hh k (by omega)).le (by omega), fun i hi => (hh i (by omega)).le (by omega)⟩
end LS2
