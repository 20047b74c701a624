/-! LAYER 2: the queries -/
section QRY
variable {A : xa_S} {h : Nat → xa_S} {hn ho : Nat} {sn : Option xa_S} {tx : Nat → Nat} {tl : Nat} {M N M' N' : xm_M}
/-- a search leaves what holds between two calls -/
theorem q_X (hW : xi_W A h hn ho sn tx tl) (hX : xi_X A h hn ho sn tx tl M) (hk : ∀ k, k < 8 ∨ 18 ≤ k → M' k = M k) : xi_X A h hn ho sn tx tl M' :=
  hX.fr hW (by rw [hk 0 (by omega)]) (hk 4 (by omega)) (by rw [hk 6 (by omega)]) (hk 7 (by omega)) (fun k h1 => hk k (by omega))
theorem q_M (hM : xi_M A h hn sn tx tl N) (hk : ∀ k, (1 ≤ k ∧ k ≤ 4) ∨ 11 ≤ k → N' k = N k) (h0 : ∀ j, j ≠ 10 → j ≠ 11 → j ≠ 12 → j ≠ 14 → N' 0 j = N 0 j) : xi_M A h hn sn tx tl N' :=
  hM.fr (h0 3 (by omega) (by omega) (by omega) (by omega)) (h0 5 (by omega) (by omega) (by omega) (by omega)) (h0 17 (by omega) (by omega) (by omega) (by omega)) (hk 1 (by omega)) (hk 3 (by omega)) (hk 4 (by omega)) (hk 11 (by omega))
theorem q_begin (hW : xi_W A h hn ho sn tx tl) (hX : xi_X A h hn ho sn tx tl M) : ∃ M', (∀ n, 200 < n → f_X3_begin n M 18 = some M') ∧ xL A.2.1 (io (eT A.2.1) A.1.1) A.1.1 M' ∧ M' 8 1 = nI A.1.2.1 ∧ M' 8 2 = nI (A.1.2.1 - A.1.2.2.1) ∧ M' 8 3 = -1 ∧ M' 8 5 = -5 ∧ (∀ s, s < 25 → M' 12 s = 0) ∧ ∀ k, k < 8 ∨ 18 ≤ k → M' k = M k :=
  x_begin hW.1.1 (st_E hW.1) hX.1.1 hX.1.2.1 hX.1.2.2.1 hW.1.2.1 hW.1.2.2.1 hX.1.2.2.2.2.1
theorem q_all (hW : xi_W A h hn ho sn tx tl) (hX : xi_X A h hn ho sn tx tl M) (hM : xi_M A h hn sn tx tl N) : ∃ (r : Nat) (M1 M' N' : xm_M) (K : Nat), (∀ n, K ≤ n → f_X3_begin n M 18 = some M1) ∧ (∀ n, K ≤ n → f_X3_runAll n M1 18 = some (nI r, M')) ∧ (∀ n, K ≤ n → f_X7_allMatches n N = some (nI r, N')) ∧ xL A.2.1 (io (eT A.2.1) A.1.1) A.1.1 M' ∧ (∀ s, s < A.1.1 → M' 12 s = N' 9 (pO A.2.1 A.1.1 s)) ∧ xi_X A h hn ho sn tx tl M' ∧ xi_M A h hn sn tx tl N' := by
  obtain ⟨M1, b1, b2, b3, b4, b5, b6, b7, b8⟩ := q_begin hW hX
  have w0 := hW.1.1
  have hX1 := q_X hW hX b8
  obtain ⟨r, M', N', K, c1, c2, c3, c4, c5, c6⟩ := j_all (Ps := A.2.2) (M := M1) (N := N) (show A.1.1 ≤ 25 by omega) (st_E hW.1) hW.1.2.2.2.1 hW.1.2.2.2.2.2 ⟨b2, hX1.1.2.2.2.1, b5, hX1.1.2.2.2.2.2⟩ (st_M hM.1) b7
  refine ⟨r, M1, M', N', K + 201, fun n hn => b1 n (by omega), fun n hn => c1 n (by omega), fun n hn => c2 n (by omega), ⟨by rw [c4 13 (by omega)]; exact b2.1, fun k hk => by rw [c4 14 (by omega), c4 15 (by omega), c4 16 (by omega), c4 17 (by omega)]; exact b2.2 k hk⟩, c3, q_X hW hX1 (fun k hk => c4 k (by omega)), q_M hM c5 c6⟩
/-- how many have no share -/
theorem q_un (hne : A.1.1 ≤ 25) (hL : xL A.2.1 (io (eT A.2.1) A.1.1) A.1.1 M) (hN : N 1 0 = nI A.1.1) (hS : ∀ s, s < A.1.1 → M 12 s = N 9 (pO A.2.1 A.1.1 s)) {n : Nat} (hf : 100 < n) : ∃ r, f_X3_placesWithoutShare n M = some (r, M) ∧ f_X7_unmatched_9 n N 0 0 = some (r, N) := by
  obtain ⟨f, hf9⟩ : ∃ f : Nat → Nat, f = fun e => if N 9 e = 0 then 1 else 0 := ⟨_, rfl⟩
  have hf1 : ∀ e, f e = if N 9 e = 0 then 1 else 0 := fun e => by rw [hf9]
  have key1 : ∀ d i n, i + d = A.1.1 → d < n → f_X3_placesWithoutShare_4 n M (nI (io_c f (io (eT A.2.1) A.1.1) i)) (nI i) = some (nI (io_c f (io (eT A.2.1) A.1.1) A.1.1), M) := by
    intro d
    induction d with
    | zero =>
      intro i n hd hn
      obtain ⟨n, rfl⟩ : ∃ q, n = q + 1 := ⟨n - 1, by omega⟩
      have : i = A.1.1 := by omega
      rw [this, f_X3_placesWithoutShare_4, hL.1, if_pos ((xz_le (by omega) (by omega)).mpr (Nat.le_refl _))]
    | succ d ih =>
      intro i n hd hn
      obtain ⟨n, rfl⟩ : ∃ q, n = q + 1 := ⟨n - 1, by omega⟩
      have g := ih (i + 1) n (by omega) (by omega)
      have hs : M 12 i = N 9 (io (eT A.2.1) A.1.1 i) := hS i (by omega)
      rw [io_c, hf1] at g
      rw [f_X3_placesWithoutShare_4, hL.1, if_neg (mt (xz_le (by omega) (by omega)).mp (by omega)), xz_ci (show i < 25 by omega) (by omega), xz_cl (by omega), hs, nI_1]
      by_cases z : N 9 (io (eT A.2.1) A.1.1 i) = 0
      · rw [if_pos z] at g
        rw [if_pos z, nI_1]
        exact g
      · rw [if_neg z] at g
        rw [if_neg z, nI_1]
        exact g
  have key2 : ∀ d i n, i + d = A.1.1 → d < n → f_X7_unmatched_9 n N (nI (io_c f (fun e => e) i)) (nI i) = some (nI (io_c f (fun e => e) A.1.1), N) := by
    intro d
    induction d with
    | zero =>
      intro i n hd hn
      obtain ⟨n, rfl⟩ : ∃ q, n = q + 1 := ⟨n - 1, by omega⟩
      have : i = A.1.1 := by omega
      rw [this, f_X7_unmatched_9, xz_i0, xz_ct, xz_t0, hN, if_pos ((xz_le (by omega) (by omega)).mpr (Nat.le_refl _))]
    | succ d ih =>
      intro i n hd hn
      obtain ⟨n, rfl⟩ : ∃ q, n = q + 1 := ⟨n - 1, by omega⟩
      have g := ih (i + 1) n (by omega) (by omega)
      rw [io_c, hf1] at g
      rw [f_X7_unmatched_9, xz_i0, xz_ct, xz_t0, hN, if_neg (mt (xz_le (by omega) (by omega)).mp (by omega)), xz_ci (show i < 25 by omega) (by omega), xz_cl (by omega), nI_1]
      by_cases z : N 9 i = 0
      · rw [if_pos z] at g
        rw [if_pos z, nI_1]
        exact g
      · rw [if_neg z] at g
        rw [if_neg z, xz_a0, nI_1]
        exact g
  refine ⟨nI (io_c f (fun e => e) A.1.1), ?_, key2 A.1.1 0 n (by omega) (by omega)⟩
  unfold f_X3_placesWithoutShare
  rw [← io_sum f (eT A.2.1) A.1.1]
  exact key1 A.1.1 0 n (by omega) (by omega)
end QRY
/-- count -/
theorem xr_count {M N : xm_M} (hI : xr_Inv M N) (a1 : Int32) : ∃ n1 n2 r M' N', f_X6_count n1 M a1 = some (r, M') ∧ f_X7_count n2 N a1 = some (r, N') ∧ xr_Inv M' N' := by
  have hI9 := hI
  obtain ⟨A, h, hn, ho, sn, tx, tl, hW, hX, hM⟩ := hI
  obtain ⟨r, M1, M', N', K, b1, b2, b3, b4, b5, b6, b7⟩ := q_all hW hX hM
  refine ⟨K + 1000, K + 1000, ?_⟩
  unfold f_X6_count f_X7_count
  by_cases e0 : a1 = 0
  · rw [if_pos e0, if_pos e0, xz_i0, xz_ct, xz_t0, hX.1.1, hM.1.1]; exact ⟨_, M, N, rfl, rfl, hI9⟩
  rw [if_neg e0, if_neg e0]
  by_cases e1 : a1 = 1
  · rw [if_pos e1, if_pos e1, xz_i3, xz_ct, xz_t3, hX.1.2.2.2.1, hM.1.2.2.2.1]; exact ⟨_, M, N, rfl, rfl, hI9⟩
  rw [if_neg e1, if_neg e1]
  by_cases e2 : a1 = 2
  · rw [if_pos e2, if_pos e2, b1 _ (by omega), xz_b1, b2 _ (by omega), xz_b2, b3 _ (by omega), xz_b2]
    exact ⟨_, M', N', rfl, rfl, A, h, hn, ho, sn, tx, tl, hW, b6, b7⟩
  rw [if_neg e2, if_neg e2]
  by_cases e3 : a1 = 3
  · rw [if_pos e3, if_pos e3, xz_i1, xz_ct, xz_t1, hX.1.2.1, hM.1.2.1]; exact ⟨_, M, N, rfl, rfl, hI9⟩
  rw [if_neg e3, if_neg e3]
  by_cases e4 : a1 = 4
  · rw [if_pos e4, if_pos e4, x_wm hX.1.2.1 hX.1.2.2.1 hW.1.2.1 hW.1.2.2.1, m_wm hM.1.2.1 hM.1.2.2.1 hW.1.2.1 hW.1.2.2.1]; exact ⟨_, M, N, rfl, rfl, hI9⟩
  rw [if_neg e4, if_neg e4]
  by_cases e5 : a1 = 5
  · rw [if_pos e5, if_pos e5, xz_i2, xz_ct, xz_t2, hX.1.2.2.1, hM.1.2.2.1]; exact ⟨_, M, N, rfl, rfl, hI9⟩
  rw [if_neg e5, if_neg e5]
  by_cases e6 : a1 = 6
  · have w0 := hW.1.1
    obtain ⟨r2, u1, u2⟩ := q_un (n := K + 1000) (show A.1.1 ≤ 25 by omega) b4 b7.1.1 b5 (by omega)
    unfold f_X7_unmatched
    rw [if_pos e6, if_pos e6, b1 _ (by omega), xz_b1, b2 _ (by omega), xz_b2, u1, xz_b2, b3 _ (by omega), xz_b2, u2, xz_b2]
    exact ⟨_, M', N', rfl, rfl, A, h, hn, ho, sn, tx, tl, hW, b6, b7⟩
  rw [if_neg e6, if_neg e6]
  by_cases e7 : a1 = 7
  · rw [if_pos e7, if_pos e7, hX.2.1.2.1, hM.2.1.1]; exact ⟨_, M, N, rfl, rfl, hI9⟩
  rw [if_neg e7, if_neg e7]
  by_cases e8 : a1 = 8
  · rw [if_pos e8, if_pos e8, hX.2.2.2.1, hM.2.2.2.1]; exact ⟨_, M, N, rfl, rfl, hI9⟩
  rw [if_neg e8, if_neg e8]
  exact ⟨_, M, N, rfl, rfl, hI9⟩
/-- eventOf -/
theorem xr_eventOf {M N : xm_M} (hI : xr_Inv M N) (a1 a2 : Int32) : ∃ n1 n2 r M' N', f_X6_eventOf n1 M a1 a2 = some (r, M') ∧ f_X7_eventOf n2 N a1 a2 = some (r, N') ∧ xr_Inv M' N' := by
  have hI9 := hI
  obtain ⟨A, h, hn, ho, sn, tx, tl, hW, hX, hM⟩ := hI
  obtain ⟨r, M1, M', N', K, b1, b2, b3, b4, b5, b6, b7⟩ := q_all hW hX hM
  obtain ⟨Mb, g1, g2, -, -, -, -, -, g8⟩ := q_begin hW hX
  have w0 := hW.1.1
  have x0 : M 18 0 = nI A.1.1 := hX.1.1
  have m0 : N 1 0 = nI A.1.1 := hM.1.1
  refine ⟨K + 2000, K + 2000, ?_⟩
  unfold f_X6_eventOf f_X7_eventOf f_X7_isEvent
  rw [x0, xz_i0, xz_ct, xz_t0, m0]
  rcases xz_idx a1 A.1.1 (by omega) with hb | ⟨e, he, rfl⟩
  · rw [xz_mt0 (by omega) hb, xz_b2, xz_z0, xz_ct, xz_b2, if_pos rfl]
    by_cases q : a1 < 0
    · rw [if_pos q]; exact ⟨_, M, N, rfl, rfl, hI9⟩
    · have q2 := hb.resolve_left q
      rw [if_neg q, if_neg (fun t => by rw [Int32.le_iff_toInt_le] at q2; rw [Int32.lt_iff_toInt_lt] at t; omega)]
      exact ⟨_, M, N, rfl, rfl, hI9⟩
  · obtain ⟨q, hq, hqe⟩ := io_sur (eT A.2.1) A.1.1 e he
    obtain ⟨v1, v2, v3⟩ := hX.1.2.2.2.2.1 e he
    obtain ⟨u1, u2, u3⟩ := (st_M hM.1).1.2 e he
    have we := hW.1.2.2.2.2.1 e he
    have o0 : f_X7_of (K + 2000) N (nI e) 0 = _ := m_of (c := 0) (by omega) (by omega)
    have o1 : f_X7_of (K + 2000) N (nI e) 1 = _ := m_of (c := 1) (by omega) (by omega)
    have o2 : f_X7_of (K + 2000) N (nI e) 2 = _ := m_of (c := 2) (by omega) (by omega)
    rw [u1] at o0
    rw [u2] at o1
    rw [u3] at o2
    rw [xz_mt1 he (by omega), xz_b2, xz_z1, xz_ct, xz_b2, if_neg xz_10, if_neg (nI_pos (by omega)), if_pos ((xz_l (by omega) (by omega)).mpr he), xz_ci (show e < 24 by omega) (by omega), xz_cl (by omega)]
    by_cases e0 : a2 = 0
    · rw [if_pos e0, if_pos e0, o0, xz_b2, v1, show (97 : Int32) + nI (A.2.1 e).1 = nI (97 + (A.2.1 e).1) from nI_add 97 _]
      exact ⟨_, M, N, rfl, rfl, hI9⟩
    rw [if_neg e0, if_neg e0]
    by_cases e1 : a2 = 1
    · rw [if_pos e1, if_pos e1, e1, o1, xz_b2, xz_ci (show e < 24 by omega) (by omega), v2]
      exact ⟨_, M, N, rfl, rfl, hI9⟩
    rw [if_neg e1, if_neg e1]
    by_cases e2 : a2 = 2
    · rw [if_pos e2, if_pos e2, e2, o2, xz_b2, xz_ci (show e < 24 by omega) (by omega), v3]
      exact ⟨_, M, N, rfl, rfl, hI9⟩
    rw [if_neg e2, if_neg e2]
    by_cases e3 : a2 = 3
    · obtain ⟨No, p1, p2, p3⟩ := m_order (N := N) (show A.1.1 ≤ 25 by omega) (st_E hW.1) (st_M hM.1).1
      unfold f_X7_placeOf
      rw [if_pos e3, if_pos e3, g1 _ (by omega), xz_b1, p1 _ (by omega), xz_b1, ← hqe, x_place (by omega) g2 hq (by omega), m_place (by omega) p2 hq (by omega), xz_b2, xz_b2]
      exact ⟨_, Mb, No, rfl, rfl, A, h, hn, ho, sn, tx, tl, hW, q_X hW hX g8, q_M hM (fun k hk => p3 k (by omega)) (fun j _ _ _ _ => by rw [p3 0 (by omega)])⟩
    rw [if_neg e3, if_neg e3]
    by_cases e4 : a2 = 4
    · have hs : M' 12 q = N' 9 (io (eT A.2.1) A.1.1 q) := b5 q hq
      unfold f_X3_shareOf
      rw [if_pos e4, if_pos e4, b1 _ (by omega), xz_b1, b2 _ (by omega), xz_b2, b3 _ (by omega), xz_b2, xz_ci (show e < 25 by omega) (by omega), ← hqe, x_place (by omega) b4 hq (by omega), xz_b2, xz_ci (show q < 25 by omega) (by omega), xz_cl (by omega), hs, xz_b2]
      exact ⟨_, M', N', rfl, rfl, A, h, hn, ho, sn, tx, tl, hW, b6, b7⟩
    rw [if_neg e4, if_neg e4]
    exact ⟨_, M, N, rfl, rfl, hI9⟩
