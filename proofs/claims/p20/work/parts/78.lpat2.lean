/-! THE LAW, pure: isPattern, whole -/
section LP2
variable {A : xa_S} {h : Nat → xa_S} {hn ho k : Nat} {cs : List Nat} {w1 w2 ru : Nat} {M N : xm_M} {x3 : Int32}
theorem v_add (hI : lI A h hn ho w1 w2 ru k cs M N) (hk : 2 ≤ k) (hk4 : k ≤ 4) (a1 : 49 ≤ w1) (a2 : w1 ≤ 57) (b1 : 48 ≤ w2) (b2 : w2 ≤ 57) (hr : ru ≤ 2) {n : Nat} (hn9 : 600 < n) : ∃ M' N', f_L_isPattern_S136 (n + 1) 0 M N x3 (nI k) 1 (nI k) 0 0 = some (1, M', N') ∧ ((A.1.2.2.2 = 4 ∧ ∃ T T', jT A h hn ho T T' M' N') ∨ ∃ P T T', pL P ∧ jT (xg_A A P) (xh_push A h hn) (xh_n hn) (xh_o ho hn) T T' M' N') := by
  obtain ⟨i1, i2, i3, i4, i5, i6, i7, i8⟩ := hI
  have hpl := i4 (by omega)
  have w4 := i1.1.1.1.2.2.2.1
  match cs, i1, i2, i3, i5, i6, i7, i8, hpl with
  | [], _, _, _, _, _, _, i8, _ => exact absurd i8 (by show ¬ k ≤ 0; omega)
  | [c], _, _, _, _, _, _, i8, _ => exact absurd i8 (by show ¬ k ≤ 1; omega)
  | c :: c2 :: cs, i1, i2, i3, i5, i6, i7, i8, hpl =>
    obtain ⟨j1, j2, j3⟩ := i1
    obtain ⟨Mc, c1, c2'⟩ := y_count j1 (w := 1) (by omega)
    have ex : bsP w1 w2 ru ++ stx (c :: c2 :: cs) = txP w1 w2 ru (c :: c2 :: cs) := (bsP_x _ _ _ _).symm
    have ey : bsP w1 w2 ru ++ stx ((c :: c2 :: cs).map mirC) = txP w1 w2 ru (mirC c :: mirC c2 :: cs.map mirC) := (bsP_x _ _ _ _).symm
    have eP : yP0 w1 w2 ru (fun _ => mirC 0) = mirP (yP0 w1 w2 ru (fun _ => 0)) := by
      unfold yP0 mirP
      rfl
    have eQ : ppA (yP0 w1 w2 ru (fun _ => mirC 0)) (mirC c :: mirC c2 :: cs.map mirC) = mirP (ppA (yP0 w1 w2 ru (fun _ => 0)) (c :: c2 :: cs)) := by
      rw [eP]
      exact m_ppA (c :: c2 :: cs) _
    have oQ : okS (yP0 w1 w2 ru (fun _ => mirC 0)) (mirC c :: mirC c2 :: cs.map mirC) := by
      rw [eP]
      exact m_okS (c :: c2 :: cs) _ i2
    obtain ⟨M', d1, d2⟩ := y_addT (n := n) (f := fun _ => 0) (T := bsP w1 w2 ru ++ stx (c :: c2 :: cs)) c2' ex a1 a2 b1 b2 hr i2 hpl (by omega)
    obtain ⟨N', e1, e2⟩ := y_addT (n := n) (f := fun _ => mirC 0) j2 ey a1 a2 b1 b2 hr oQ (by rw [eQ]; exact m_pL hpl) (by omega)
    have c1 : f_X6_count n M 1 = some (nI A.1.2.2.2, Mc) := c1 n (by omega)
    have hN4 : (mirS A).1.2.2.2 = A.1.2.2.2 := by rw [mirS_1]
    rw [hN4] at e1 e2
    rcases Nat.lt_or_ge A.1.2.2.2 4 with q | q
    · obtain ⟨f1, f2⟩ := d2 q
      obtain ⟨g1, g2⟩ := e2 q
      rw [eQ, m_add, m_push] at g2
      obtain ⟨M2, k1, k2⟩ := y_pattern (j := A.1.2.2.2) (w := 3) f2 (by show A.1.2.2.2 < A.1.2.2.2 + 1; omega) (by omega)
      have k1 : f_X6_pattern n M' (nI A.1.2.2.2) 3 = some (nI (patV (xg_A A (ppA (yP0 w1 w2 ru fun x => 0) (c :: c2 :: cs))) A.1.2.2.2 3), M2) := k1 n (by omega)
      have ek : patV (xg_A A (ppA (yP0 w1 w2 ru fun x => 0) (c :: c2 :: cs))) A.1.2.2.2 3 = k := by
        rw [patV_3]
        show (if A.1.2.2.2 = A.1.2.2.2 then ppA (yP0 w1 w2 ru fun x => 0) (c :: c2 :: cs) else A.2.2 A.1.2.2.2).1.2.2.2 = k
        rw [if_pos rfl, i3]
      rw [ek] at k1
      refine ⟨M2, N', ?_, Or.inr ⟨_, _, _, hpl, k2, g2, j3⟩⟩
      have n4 : ¬ nI A.1.2.2.2 = 4 := mt (xz_ec (c := 4) 4 rfl (by omega) (by omega)).mp (by omega)
      rw [f_L_isPattern_S136, if_pos ((xz_le (by omega) (by omega)).mpr (Nat.le_refl _)), c1, xz_b2, f1, xz_b2, if_neg xz_10, g1, xz_b2, if_pos rfl, if_neg n4, if_pos rfl, if_neg n4, k1, xz_b2, if_pos rfl]
    · have q4 : A.1.2.2.2 = 4 := by omega
      obtain ⟨f1, f2⟩ := d1 q4
      obtain ⟨g1, g2⟩ := e1 q4
      refine ⟨M', N', ?_, Or.inl ⟨q4, _, _, f2, g2, j3⟩⟩
      have n4 : nI A.1.2.2.2 = 4 := by rw [q4]; rfl
      rw [f_L_isPattern_S136, if_pos ((xz_le (by omega) (by omega)).mpr (Nat.le_refl _)), c1, xz_b2, f1, xz_b2, if_neg xz_10, g1, xz_b2, if_pos rfl, if_pos n4, if_pos rfl, if_pos n4]
theorem v_ploop {many : Nat} (hm2 : 2 ≤ many) (hm : many ≤ 4) (a1 : 49 ≤ w1) (a2 : w1 ≤ 57) (b1 : 48 ≤ w2) (b2 : w2 ≤ 57) (hr : ru ≤ 2) : ∀ (d k : Nat) (cs : List Nat) (M N : xm_M) (n : Nat), k + d = many → 700 + 4 * d < n → lI A h hn ho w1 w2 ru k cs M N → ∃ M' N', f_L_isPattern_S136 n 0 M N x3 (nI many) 1 (nI k) 0 0 = some (1, M', N') ∧ ((A.1.2.2.2 = 4 ∧ ∃ T T', jT A h hn ho T T' M' N') ∨ ∃ P T T', pL P ∧ jT (xg_A A P) (xh_push A h hn) (xh_n hn) (xh_o ho hn) T T' M' N')
  | 0, k, cs, M, N, n, hd, hn9, hI => by
    obtain ⟨n, rfl⟩ : ∃ q, n = q + 1 := ⟨n - 1, by omega⟩
    have : k = many := by omega
    subst this
    exact v_add hI hm2 hm a1 a2 b1 b2 hr (by omega)
  | d + 1, k, cs, M, N, n, hd, hn9, hI => by
    obtain ⟨n, rfl⟩ : ∃ q, n = q + 4 := ⟨n - 4, by omega⟩
    obtain ⟨M1, N1, cs', g1, g2⟩ := v_pstep (x3 := x3) hI (many := many) (by omega) hm n (by omega)
    rw [g1]
    exact v_ploop hm2 hm a1 a2 b1 b2 hr d (k + 1) cs' M1 N1 n (by omega) (by omega) g2
/-- isPattern, whole -/
theorem v_isPattern {tx tx' : Nat → Nat} {tl : Nat} (hI : jI A h hn ho tx tx' tl M N) (x2 x3 : Int32) {n : Nat} (hn9 : 1000 < n) : ∃ M' N', f_L_isPattern n M N x2 x3 = some (1, M', N') ∧ ((A.1.2.2.2 = 4 ∧ ∃ T T', jT A h hn ho T T' M' N') ∨ ∃ P T T', pL P ∧ jT (xg_A A P) (xh_push A h hn) (xh_n hn) (xh_o ho hn) T T' M' N') := by
  obtain ⟨i1, i2⟩ := hI
  obtain ⟨u1, hu1, e1⟩ := v_up n M N x2 (d := 3) (by omega) (by omega)
  obtain ⟨u2, hu2, e2⟩ := v_up n M N (x2 >>> ((2 : Int32) &&& 31)) (d := 5) (by omega) (by omega)
  obtain ⟨M1, c1, c2⟩ := y_clearT i1 n
  obtain ⟨N1, d1, d2⟩ := y_clearT i2 n
  have t0 : jT A h hn ho [] [] M1 N1 := ⟨c2, d2, rfl⟩
  obtain ⟨M2, N2, g1, g2⟩ := v_types tby_within.1 tby_within.2 (n := n) (by omega) t0 (by decide)
  obtain ⟨u3, hu3, e3⟩ := v_up n M2 N2 (x2 >>> ((4 : Int32) &&& 31)) (d := 9) (by omega) (by omega)
  have w49 : (49 : Int32) + nI u3 = nI (49 + u3) := nI_add 49 u3
  obtain ⟨M3, N3, k1, k2⟩ := v_types (tby_c (49 + u3) (by omega) (by omega)).1 (tby_c (49 + u3) (by omega) (by omega)).2 (n := n) (by omega) g2 (by rw [List.nil_append]; show 7 + 1 ≤ 80; omega)
  obtain ⟨u4, hu4, e4⟩ := v_up n M3 N3 (x2 >>> ((6 : Int32) &&& 31)) (d := 10) (by omega) (by omega)
  have w48 : (48 : Int32) + nI u4 = nI (48 + u4) := nI_add 48 u4
  obtain ⟨M4, N4, l1, l2⟩ := v_types (tby_c (48 + u4) (by omega) (by omega)).1 (tby_c (48 + u4) (by omega) (by omega)).2 (n := n) (by omega) k2 (by rw [List.nil_append, List.length_append]; show 7 + 1 + 1 ≤ 80; omega)
  obtain ⟨M5, N5, m1, m2⟩ := v_types tby_32.1 tby_32.2 (n := n) (by omega) l2 (by rw [List.nil_append, List.length_append, List.length_append]; show 7 + 1 + 1 + 1 ≤ 80; omega)
  rw [List.nil_append] at m2
  have lm : (tw_l 0 ++ [49 + u3] ++ [48 + u4] ++ [32]).length = 10 := by rw [List.length_append, List.length_append, List.length_append]; rfl
  have start : ∀ (ru : Nat) (M N : xm_M), jT A h hn ho (tw_l 0 ++ [49 + u3] ++ [48 + u4] ++ [32] ++ rul ru) (tw_l 0 ++ [49 + u3] ++ [48 + u4] ++ [32] ++ rul ru) M N → lI A h hn ho (49 + u3) (48 + u4) ru 0 [] M N := fun ru M N hj => by
    have eb : tw_l 0 ++ [49 + u3] ++ [48 + u4] ++ [32] ++ rul ru = bsP (49 + u3) (48 + u4) ru ++ [] := by
      unfold bsP
      simp [List.append_assoc]
    rw [eb] at hj
    exact ⟨hj, trivial, rfl, fun t => absurd t (Nat.lt_irrefl 0), fun _ => rfl, fun t => absurd t (Nat.lt_irrefl 0), Nat.le_refl _, Nat.le_refl _⟩
  have two : (2 : Int32) + nI u1 = nI (2 + u1) := nI_add 2 u1
  have e1 : f_L_up n M N x2 3 = some (nI u1, M, N) := e1
  have e2 : f_L_up n M N (x2 >>> ((2 : Int32) &&& 31)) 5 = some (nI u2, M, N) := e2
  have e3 : f_L_up n M2 N2 (x2 >>> ((4 : Int32) &&& 31)) 9 = some (nI u3, M2, N2) := e3
  have e4 : f_L_up n M3 N3 (x2 >>> ((6 : Int32) &&& 31)) 10 = some (nI u4, M3, N3) := e4
  unfold f_L_isPattern
  rw [e1, xz_b3, e2, xz_b3, c1, xz_b2, d1, xz_b2, if_pos rfl, g1, xz_b3, if_neg xz_10, e3, xz_b3, w49, k1, xz_b3, if_neg xz_10, e4, xz_b3, w48, l1, xz_b3, if_neg xz_10, m1, xz_b3, if_neg xz_10, two]
  unfold f_L_isPattern_136
  by_cases r2 : 2 < u2
  · rw [if_pos ((xz_clt (c := 2) 2 rfl (by omega) (by omega)).mpr r2)]
    exact v_ploop (ru := 0) (by omega) (by omega) (by omega) (by omega) (by omega) (by omega) (by omega) (2 + u1) 0 [] M5 N5 n (by omega) (by omega) (start 0 M5 N5 (by show jT A h hn ho (_ ++ []) (_ ++ []) M5 N5; rw [List.append_nil]; exact m2))
  · rw [if_neg (mt (xz_clt (c := 2) 2 rfl (by omega) (by omega)).mp r2)]
    by_cases r0 : u2 = 0
    · rw [if_pos (by rw [r0]; rfl)]
      exact v_ploop (ru := 0) (by omega) (by omega) (by omega) (by omega) (by omega) (by omega) (by omega) (2 + u1) 0 [] M5 N5 n (by omega) (by omega) (start 0 M5 N5 (by show jT A h hn ho (_ ++ []) (_ ++ []) M5 N5; rw [List.append_nil]; exact m2))
    · rw [if_neg (mt (xz_ec (c := 0) 0 rfl (by omega) (by omega)).mp r0)]
      by_cases r1 : u2 = 1
      · obtain ⟨M6, N6, p1, p2⟩ := v_types tby_rising.1 tby_rising.2 (n := n) (by omega) m2 (by rw [lm]; decide)
        rw [if_pos (by rw [r1]; rfl), p1, xz_b3, if_neg xz_10]
        exact v_ploop (ru := 1) (by omega) (by omega) (by omega) (by omega) (by omega) (by omega) (by omega) (2 + u1) 0 [] M6 N6 n (by omega) (by omega) (start 1 M6 N6 p2)
      · obtain ⟨M6, N6, p1, p2⟩ := v_types tby_alike.1 tby_alike.2 (n := n) (by omega) m2 (by rw [lm]; decide)
        rw [if_neg (mt (xz_ec (c := 1) 1 rfl (by omega) (by omega)).mp r1), p1, xz_b3, if_neg xz_10]
        exact v_ploop (ru := 2) (by omega) (by omega) (by omega) (by omega) (by omega) (by omega) (by omega) (2 + u1) 0 [] M6 N6 n (by omega) (by omega) (start 2 M6 N6 p2)
end LP2
