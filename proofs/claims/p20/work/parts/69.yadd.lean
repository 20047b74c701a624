/-! LAYER 2: a whole pattern in words is read and added -/
def rul (ru : Nat) : List Nat := if ru = 1 then tw_l 2 else if ru = 2 then tw_l 3 else []
def txP (w1 w2 ru : Nat) (cs : List Nat) : List Nat := tw_l 0 ++ (w1 :: w2 :: 32 :: (rul ru ++ stx cs))
def yP0 (w1 w2 ru : Nat) (f : Nat → Nat) : xa_P := ((10 * (w1 - 48) + (w2 - 48), ru, 0, 0), f)
section YA2
variable {A : xa_S} {h : Nat → xa_S} {hn ho : Nat} {M M0 : xm_M} {T R : List Nat} {P : xa_P} {a c : Nat}
theorem pJ_pp : ∀ (cs : List Nat) (P : xa_P), pJ P → okS P cs → pJ (ppA P cs) ∧ (ppA P cs).1.1 = P.1.1 ∧ (ppA P cs).1.2.1 = P.1.2.1 ∧ (ppA P cs).1.2.2.1 = P.1.2.2.1 + cs.length
  | [], P, hJ, _ => ⟨hJ, rfl, rfl, rfl⟩
  | c :: cs, P, hJ, ⟨⟨o1, o2, o3, o4⟩, o5⟩ => by
    obtain ⟨g1, g2, g3, g4⟩ := pJ_pp cs (pA P c) (hJ.add o1 o2 o3) o5
    refine ⟨g1, g2, g3, ?_⟩
    have e : (pA P c).1.2.2.1 = P.1.2.2.1 + 1 := rfl
    rw [e] at g4
    rw [List.length_cons]
    show (ppA (pA P c) cs).1.2.2.1 = _
    omega
theorem r_digit (hT : T.length ≤ 80) (h : rR M0 T a M) {w t : Nat} (hw : w ≤ 99) (ht : 48 ≤ t) (ht2 : t ≤ 57) (h1 : 1 ≤ 10 * w + (t - 48)) (hd : T.drop a = t :: R) (n : Nat) : f_X5_takesWindow_2 (n + 1) M 1 (nI w) = f_X5_takesWindow_2 n (xm_up M 6 2 (nI (a + 1))) 1 (nI (10 * w + (t - 48))) ∧ rR M0 T (a + 1) (xm_up M 6 2 (nI (a + 1))) ∧ T.drop (a + 1) = R := by
  obtain ⟨q1, q2, q3⟩ := at_c hd
  obtain ⟨x1, x2, x3⟩ := h.1
  have x4 : M 7 a = nI t := by rw [x3 a q1]; exact congrArg nI q2
  have e1 : f_X6_isWithin n M (nI t) 48 57 = some (1, M) := xz_iw1 (lo := 48) (hi := 57) ht ht2 (by omega)
  have e2 : f_X6_isWithin n M (nI (10 * w + (t - 48))) 1 1000 = some (1, M) := xz_iw1 (lo := 1) (hi := 1000) h1 (by omega) (by omega)
  refine ⟨?_, h.to q1, q3⟩
  rw [f_X5_takesWindow_2, x1, x2, if_neg (mt (xz_le (by omega) (by omega)).mp (by omega)), xz_ci (show a < 80 by omega) (by omega), xz_cl (by omega), x4, e1, xz_b2, if_neg xz_10, x2, xz_ci (show a < 80 by omega) (by omega), xz_cl (by omega), x4, (xz_dig (by omega) ht ht2).1, e2, xz_b2, if_neg xz_10, x2, xz_lt, nI_1]
theorem r_win (hT : T.length ≤ 80) (h : rR M0 T a M) {w1 w2 : Nat} (a1 : 49 ≤ w1) (a2 : w1 ≤ 57) (b1 : 48 ≤ w2) (b2 : w2 ≤ 57) (hd : T.drop a = w1 :: w2 :: 32 :: R) {n : Nat} (hn : 5 < n) : ∃ M', f_X5_takesWindow n M 1 = some (1, M') ∧ rR M0 T (a + 2) M' ∧ T.drop (a + 2) = 32 :: R ∧ M' 1 0 = nI (10 * (w1 - 48) + (w2 - 48)) ∧ ∀ j, j ≠ 0 → M' 1 j = M 1 j := by
  obtain ⟨n, rfl⟩ : ∃ q, n = q + 3 := ⟨n - 3, by omega⟩
  obtain ⟨g1, g2, g3⟩ := r_digit hT h (w := 0) (by omega) (by omega) a2 (by omega) hd (n + 2)
  obtain ⟨k1, k2, k3⟩ := r_digit hT g2 (w := 10 * 0 + (w1 - 48)) (by omega) b1 b2 (by omega) g3 (n + 1)
  obtain ⟨q1, q2, q3⟩ := at_c k3
  rw [xm_up_up] at k1 k2
  obtain ⟨x1, x2, x3⟩ := k2.1
  have ew : 10 * (10 * 0 + (w1 - 48)) + (w2 - 48) = 10 * (w1 - 48) + (w2 - 48) := by omega
  rw [ew] at k1
  obtain ⟨M2, hM2⟩ : ∃ G, G = xm_up M 6 2 (nI (a + 1 + 1)) := ⟨_, rfl⟩
  rw [← hM2] at k1 k2 x1 x2 x3
  have x4 : M2 7 (a + 1 + 1) = nI 32 := by rw [x3 _ q1]; exact congrArg nI q2
  have e1 : f_X6_isWithin n M2 (nI 32) 48 57 = some (0, M2) := xz_iw0 (Or.inl (by decide))
  refine ⟨xm_up M2 1 0 (nI (10 * (w1 - 48) + (w2 - 48))), ?_, k2.x (by omega) _ _, k3, xm_up_s _ _ _ _, fun j hj => by rw [xm_up_j _ _ hj, hM2, xm_up_k _ _ (by omega)]⟩
  unfold f_X5_takesWindow
  have e0 : f_X5_takesWindow_2 (n + 3) M 1 0 = _ := g1
  rw [e0, k1, f_X5_takesWindow_2, x1, x2, if_neg (mt (xz_le (by omega) (by omega)).mp (by omega)), xz_ci (show a + 1 + 1 < 80 by omega) (by omega), xz_cl (by omega), x4, e1, xz_b2, if_pos rfl, xz_lt, if_neg (mt (xz_lec (c := 0) 0 rfl (by omega) (by omega)).mp (by omega))]
theorem r_rule (hT : T.length ≤ 80) (hC : ∀ i, i < T.length → T.getD i 0 < 65536) (h : rR M0 T a M) {ru c c2 : Nat} {cs : List Nat} (hr : ru ≤ 2) (hc : c < 8) (hd : T.drop a = rul ru ++ stx (c :: c2 :: cs)) {n : Nat} (hn : 20 < n) : ∃ M' a', f_X5_takesRule n M 1 = some (1, M') ∧ rR M0 T a' M' ∧ T.drop a' = stx (c :: c2 :: cs) ∧ M' 1 1 = nI ru ∧ ∀ j, j ≠ 1 → M' 1 j = M 1 j := by
  have h0 : rR M0 T a (xm_up M 1 1 0) := h.x (by omega) _ _
  rcases (show ru = 0 ∨ ru = 1 ∨ ru = 2 by omega) with rfl | rfl | rfl
  · have hd1 : T.drop a = (97 + c) :: 44 :: 32 :: stx (c2 :: cs) := by
      rw [hd]
      show stt c ++ _ = _
      rw [stt, if_pos hc]
      rfl
    obtain ⟨q1, q2, q3⟩ := at_c hd1
    obtain ⟨q4, q5, q6⟩ := at_c q3
    obtain ⟨x1, x2, x3⟩ := h0.1
    refine ⟨xm_up M 1 1 0, a, ?_, h0, hd, xm_up_s _ _ _ _, fun j hj => xm_up_j _ _ hj⟩
    unfold f_X5_takesRule
    rw [xz_lt, r_next hT hC h0 hd1, xz_b2, if_neg (mt (xz_ec (c := 114) 114 rfl (by omega) (by omega)).mp (by omega)), r_next hT hC h0 hd1, xz_b2]
    by_cases e : c = 0
    · have x4 : xm_up M 1 1 0 7 (a + 1) = nI 44 := by rw [x3 _ q4]; exact congrArg nI q5
      rw [if_pos (by rw [e]; rfl), x1, x2, nI_1, if_neg (mt (xz_le (by omega) (by omega)).mp (by omega)), xz_ci (show a + 1 < 80 by omega) (by omega), xz_cl (by omega), x4, if_neg (by decide)]
    · rw [if_neg (mt (xz_ec (c := 97) 97 rfl (by omega) (by omega)).mp (by omega))]
  · have hd1 : T.drop a = 114 :: (105 :: 115 :: 105 :: 110 :: 103 :: 32 :: stx (c :: c2 :: cs)) := hd
    have hd2 : T.drop a = tw_l 2 ++ stx (c :: c2 :: cs) := hd
    have h1 : rR M0 T a (xm_up (xm_up M 1 1 0) 1 1 1) := h0.x (by omega) _ _
    obtain ⟨w1, w2, w3⟩ := r_word hT hC h1 (k := 2) (by omega) hd2 (n := n) (by omega)
    refine ⟨_, _, ?_, w2, w3, by rw [xm_up_k _ _ (by omega), xm_up_s]; rfl, fun j hj => by rw [xm_up_k _ _ (by omega), xm_up_j _ _ hj, xm_up_j _ _ hj]⟩
    unfold f_X5_takesRule
    rw [xz_lt, r_next hT hC h0 hd1, xz_b2, if_pos (show nI 114 = 114 from rfl), xz_lt, w1, xz_b2, xz_z1, xz_ct]
  · have hd1 : T.drop a = 97 :: (108 :: 105 :: 107 :: 101 :: 32 :: stx (c :: c2 :: cs)) := hd
    have hd2 : T.drop a = tw_l 3 ++ stx (c :: c2 :: cs) := hd
    obtain ⟨q1, q2, q3⟩ := at_c hd1
    obtain ⟨q4, q5, q6⟩ := at_c q3
    obtain ⟨x1, x2, x3⟩ := h0.1
    have x4 : xm_up M 1 1 0 7 (a + 1) = nI 108 := by rw [x3 _ q4]; exact congrArg nI q5
    have h1 : rR M0 T a (xm_up (xm_up M 1 1 0) 1 1 2) := h0.x (by omega) _ _
    obtain ⟨w1, w2, w3⟩ := r_word hT hC h1 (k := 3) (by omega) hd2 (n := n) (by omega)
    refine ⟨_, _, ?_, w2, w3, by rw [xm_up_k _ _ (by omega), xm_up_s]; rfl, fun j hj => by rw [xm_up_k _ _ (by omega), xm_up_j _ _ hj, xm_up_j _ _ hj]⟩
    unfold f_X5_takesRule
    rw [xz_lt, r_next hT hC h0 hd1, xz_b2, if_neg (by decide), r_next hT hC h0 hd1, xz_b2, if_pos (show nI 97 = 97 from rfl), x1, x2, nI_1, if_neg (mt (xz_le (by omega) (by omega)).mp (by omega)), xz_ci (show a + 1 < 80 by omega) (by omega), xz_cl (by omega), x4, if_pos (show nI 108 = 108 from rfl), xz_lt, w1, xz_b2, xz_z1, xz_ct]
/-- the whole text -/
theorem r_read {w1 w2 ru c c2 : Nat} {cs : List Nat} {f : Nat → Nat} (hx : T = txP w1 w2 ru (c :: c2 :: cs)) (hT : T.length ≤ 80) (hC : ∀ i, i < T.length → T.getD i 0 < 65536) (a1 : 49 ≤ w1) (a2 : w1 ≤ 57) (b1 : 48 ≤ w2) (b2 : w2 ≤ 57) (hr : ru ≤ 2) (hO : okS (yP0 w1 w2 ru f) (c :: c2 :: cs)) (hL : pL (ppA (yP0 w1 w2 ru f) (c :: c2 :: cs))) (h1 : M 6 1 = nI T.length) (h7 : ∀ i, i < T.length → M 7 i = nI (T.getD i 0)) {n : Nat} (hn : 100 < n) : ∃ M', f_X5_readInto n M 1 = some (-1, M') ∧ xa_XP (ppA (yP0 w1 w2 ru f) (c :: c2 :: cs)) M' 1 ∧ xa_WP (ppA (yP0 w1 w2 ru f) (c :: c2 :: cs)) ∧ M' 6 1 = M 6 1 ∧ ∀ k, k = 0 ∨ 4 ≤ k → k ≠ 6 → M' k = M k := by
  have hJ0 : pJ (yP0 w1 w2 ru f) := ⟨Nat.le_refl _, fun t => absurd t.1 (Nat.lt_irrefl 0), Nat.zero_le _, ⟨Nat.le_refl _, fun t => absurd t (Nat.lt_irrefl 0)⟩, rfl, fun i hi => absurd hi (Nat.not_lt_zero i)⟩
  obtain ⟨jJ, j1, j2, j3⟩ := pJ_pp _ _ hJ0 hO
  have j3 : (ppA (yP0 w1 w2 ru f) (c :: c2 :: cs)).1.2.2.1 = 0 + (cs.length + 1 + 1) := j3
  have j4 := jJ.2.1 hL
  have j5 := jJ.2.2.1
  have hc : c < 8 := by
    rcases Nat.lt_or_ge c 8 with q | q
    · exact q
    · exact absurd (hO.1.2.2.1 q).1 (Nat.lt_irrefl 0)
  have hWP : xa_WP (ppA (yP0 w1 w2 ru f) (c :: c2 :: cs)) := by
    have e1 : (yP0 w1 w2 ru f).1.1 = 10 * (w1 - 48) + (w2 - 48) := rfl
    have e2 : (yP0 w1 w2 ru f).1.2.1 = ru := rfl
    refine ⟨by rw [j1, e1]; omega, by rw [j1, e1]; omega, by rw [j2, e2]; exact hr, by omega, by omega, jJ.2.2.2.2.1, ⟨by omega, jJ.2.2.2.1.2 (by omega)⟩, j5, jJ.2.2.2.2.2⟩
  obtain ⟨M1, hM1⟩ : ∃ G, G = xm_up (xm_up (xm_up M 6 2 0) 1 2 0) 1 3 0 := ⟨_, rfl⟩
  have r1 : rR M T 0 M1 := by
    rw [hM1]
    refine rR.x (rR.x ⟨⟨by rw [xm_up_j _ _ (by omega)]; exact h1, xm_up_s _ _ _ _, fun i hi => by rw [xm_up_k _ _ (by omega)]; exact h7 i hi⟩, Nat.zero_le _, fun k k1 k2 => xm_up_r _ _ k2⟩ (by omega) _ _) (by omega) _ _
  have z2 : M1 1 2 = 0 := by rw [hM1, xm_up_j _ _ (by omega), xm_up_s]
  have z3 : M1 1 3 = 0 := by rw [hM1, xm_up_s]
  have hd0 : T.drop 0 = tw_l 0 ++ (w1 :: w2 :: 32 :: (rul ru ++ stx (c :: c2 :: cs))) := hx
  obtain ⟨g1, g2, g3⟩ := r_word hT hC r1 (k := 0) (by omega) hd0 (n := n) (by omega)
  obtain ⟨M2, k1, k2, k3, k4, k5⟩ := r_win hT g2 a1 a2 b1 b2 g3 (n := n) (by omega)
  have k3' : T.drop _ = tw_l 1 ++ (rul ru ++ stx (c :: c2 :: cs)) := k3
  obtain ⟨l1, l2, l3⟩ := r_word hT hC k2 (k := 1) (by omega) k3' (n := n) (by omega)
  obtain ⟨M3, a3, m1, m2, m3, m4, m5⟩ := r_rule hT hC l2 hr hc l3 (n := n) (by omega)
  have hP3 : xa_XP (yP0 w1 w2 ru f) M3 1 := by
    refine ⟨?_, m4, ?_, ?_, fun i hi => absurd hi (Nat.not_lt_zero i)⟩
    · rw [m5 0 (by omega), xm_up_k _ _ (by omega)]; exact k4
    · rw [m5 2 (by omega), xm_up_k _ _ (by omega), k5 2 (by omega), xm_up_k _ _ (by omega), z2]; rfl
    · rw [m5 3 (by omega), xm_up_k _ _ (by omega), k5 3 (by omega), xm_up_k _ _ (by omega), z3]; rfl
  obtain ⟨M4, s1, s2, s3, s4, a4, s5⟩ := r_steps hT hC (c2 :: cs) c 0 a3 M3 (yP0 w1 w2 ru f) n m2 hP3 hJ0 hO hL (by omega) (by omega) (by rw [List.length_cons]; omega) m3 (by rw [List.length_cons]; omega)
  refine ⟨M4, ?_, s2, hWP, by rw [h1]; exact s5.1.1, s5.2.2⟩
  have s1 : f_X5_takesSteps_2 n M3 1 0 = some (1, M4) := s1
  unfold f_X5_readInto f_X2_clearSteps f_X5_takesSteps
  rw [xz_lt, xz_lt, xz_lt, xz_b1, ← hM1, g1, xz_b2, if_neg xz_10, k1, xz_b2, if_neg xz_10, l1, xz_b2, if_neg xz_10, m1, xz_b2, if_neg xz_10, s1, xz_b2, if_neg xz_10]
theorem y_addT {w1 w2 ru c c2 : Nat} {cs : List Nat} {f : Nat → Nat} (hI : yT A h hn ho T M) (hx : T = txP w1 w2 ru (c :: c2 :: cs)) (a1 : 49 ≤ w1) (a2 : w1 ≤ 57) (b1 : 48 ≤ w2) (b2 : w2 ≤ 57) (hr : ru ≤ 2) (hO : okS (yP0 w1 w2 ru f) (c :: c2 :: cs)) (hL : pL (ppA (yP0 w1 w2 ru f) (c :: c2 :: cs))) {n : Nat} (hn9 : 500 < n) : ∃ M', (A.1.2.2.2 = 4 → f_X6_addPattern n M = some (-3, M') ∧ yT A h hn ho T M') ∧ (A.1.2.2.2 < 4 → f_X6_addPattern n M = some (nI A.1.2.2.2, M') ∧ yT (xg_A A (ppA (yP0 w1 w2 ru f) (c :: c2 :: cs))) (xh_push A h hn) (xh_n hn) (xh_o ho hn) T M') := by
  obtain ⟨M1, g1, g2, g3, g4, g5⟩ := r_read hx hI.1.2.2.2.2.2.1 hI.1.2.2.2.2.2.2 a1 a2 b1 b2 hr hO hL hI.2.2.2.2.1 hI.2.2.2.2.2 (n := n) (by omega)
  have hX1 : xi_X A h hn ho none (fun i => T.getD i 0) T.length M1 := hI.2.fr hI.1 (by rw [g5 0 (by omega) (by omega)]) (g5 4 (by omega) (by omega)) g4 (g5 7 (by omega) (by omega)) (fun k hk => g5 k (by omega) (by omega))
  have hI1 : yI A h hn ho (fun i => T.getD i 0) T.length M1 := ⟨hI.1, hX1⟩
  have w4 : A.1.2.2.2 ≤ 4 := hI.1.1.2.2.2.1
  rcases Nat.lt_or_ge A.1.2.2.2 4 with q | q
  · obtain ⟨M2, c1, c2', c3⟩ := y_rec hI1 (n := n) (by omega)
    have hP2 : xa_XP (ppA (yP0 w1 w2 ru f) (c :: c2 :: cs)) M2 1 := by
      obtain ⟨M3, d1, d2, d3⟩ := xi_rec hI1.1 hI1.2 (n := n) (by omega)
      rw [c1] at d1
      cases d1
      exact g2.fr (fun k k1 k2 => d3 k (by omega) (by omega))
    obtain ⟨M3, b1, b2, b3⟩ := xp_addc c2'.1 hP2 g3 q (n := n) (by omega)
    refine ⟨M3, fun e => by omega, fun _ => ⟨?_, hI.1.act (xg_W hI.1.1 g3 q), c2'.now c3 b2 b3⟩⟩
    unfold f_X6_addPattern
    rw [g1, xz_b2, if_pos rfl, hX1.1.2.2.2.1, if_pos ((xz_ltc (c := 4) 4 rfl (by omega) (by omega)).mpr q), c1, xz_b1, b1, xz_b2]
  · refine ⟨M1, fun _ => ⟨?_, hI1⟩, fun e => by omega⟩
    unfold f_X6_addPattern
    rw [g1, xz_b2, if_pos rfl, hX1.1.2.2.2.1, if_neg (mt (xz_ltc (c := 4) 4 rfl (by omega) (by omega)).mp (by omega))]
end YA2
