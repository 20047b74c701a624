/-! THE LAW, pure: isWell -/
theorem io_cf (f o : Nat → Nat) : ∀ n, io_c f o n = sm (fun q => f (o q)) n
  | 0 => rfl
  | n + 1 => by
    rw [io_c, io_cf f o n]
    rfl
/-- a sum over the events is one over their places -/
theorem sm_g {t g : Nat → Nat} {n : Nat} (hg : ∀ e, e < n → g e < n ∧ io t n (g e) = e) (F : Nat → Nat) : sm (fun e => F (g e)) n = sm F n := by
  have h1 := io_sum (fun e => F (g e)) t n
  show io_c (fun e => F (g e)) (fun e => e) n = _
  rw [← h1, io_cf]
  refine sm_cc n (fun q hq => ?_)
  have h2 := io_lt t n q hq
  obtain ⟨g1, g2⟩ := hg _ h2
  show F (g (io t n q)) = F q
  rw [io_inj t n _ _ g1 hq g2]
theorem sm_mono (f : Nat → Nat) : ∀ {n j : Nat}, j < n → sm f j + f j ≤ sm f n
  | 0, j, h => absurd h (Nat.not_lt_zero j)
  | n + 1, j, h => by
    rw [sm_s]
    by_cases e : j = n
    · rw [e]
      exact Nat.le_refl _
    · have := sm_mono f (n := n) (j := j) (by omega)
      omega
section LW
variable {A : xa_S} {h : Nat → xa_S} {hn ho : Nat} {tx : Nat → Nat} {tl : Nat} {M N : xm_M} {x1 x3 x4 x5 x6 : Int32}
/-- the array is filled -/
theorem v_w25 : ∀ (d k n : Nat) (M N : xm_M), k + d = 25 → d < n → (∀ j, j < k → N 0 j = -1) → ∃ m N', n = m + d + 1 ∧ f_L_isWell_S25 n 0 M N x1 x3 x4 x5 x6 (nI k) = f_L_isWell_S46 m 0 M N' x1 x3 x4 x5 x6 0 ∧ ∀ j, j < 25 → N' 0 j = -1
  | 0, k, n, M, N, hd, hn9, hN => by
    obtain ⟨n, rfl⟩ : ∃ q, n = q + 1 := ⟨n - 1, by omega⟩
    refine ⟨n, N, by omega, ?_, fun j hj => hN j (by omega)⟩
    rw [f_L_isWell_S25, if_pos ((xz_cle (c := 25) 25 rfl (by omega) (by omega)).mpr (by omega))]
    rfl
  | d + 1, k, n, M, N, hd, hn9, hN => by
    obtain ⟨n, rfl⟩ : ∃ q, n = q + 1 := ⟨n - 1, by omega⟩
    obtain ⟨m, N', g1, g2, g3⟩ := v_w25 d (k + 1) n M (xm_up N 0 k (-1)) (by omega) (by omega) (fun j hj => by
      by_cases e : j = k
      · rw [e, xm_up_s]
      · rw [xm_up_j _ _ e]; exact hN j (by omega))
    refine ⟨m, N', by omega, ?_, g3⟩
    rw [f_L_isWell_S25, if_neg (mt (xz_cle (c := 25) 25 rfl (by omega) (by omega)).mp (by omega)), xz_ci (show k < 25 by omega) (by omega), xz_lt, xz_cl (by omega), nI_1]
    exact g2
/-- the places -/
theorem v_w46 (hT : ∀ i, i < A.1.1 → (A.2.1 i).2.2 ≤ A.1.2.1) {g : Nat → Nat} (hg : ∀ e, e < A.1.1 → g e < A.1.1 ∧ io (eT A.2.1) A.1.1 (g e) = e) : ∀ (d k n : Nat) (M N : xm_M), k + d = A.1.1 → 600 + 2 * d < n → yI A h hn ho tx tl M → (∀ i, i < k → N 0 (g i) = nI i) → (∀ j, j < 25 → (∀ i, i < k → j ≠ g i) → N 0 j = -1) → ∃ m M' N', n = m + 2 * d + 1 ∧ f_L_isWell_S46 n 0 M N (nI A.1.1) (nI (sm (fun e => if allS A.2.1 A.1.1 A.2.2 (g e) A.1.2.2.2 = 0 then 1 else 0) k)) 0 (nI (sm (fun e => allS A.2.1 A.1.1 A.2.2 (g e) A.1.2.2.2) k)) 1 (nI k) = f_L_isWell_S161 m 0 M' N' (nI A.1.1) (nI (sm (fun e => if allS A.2.1 A.1.1 A.2.2 (g e) A.1.2.2.2 = 0 then 1 else 0) A.1.1)) 0 (nI (sm (fun e => allS A.2.1 A.1.1 A.2.2 (g e) A.1.2.2.2) A.1.1)) 1 1 ∧ yI A h hn ho tx tl M' ∧ ∀ i, i < A.1.1 → N' 0 (g i) = nI i
  | 0, k, n, M, N, hd, hn9, hI, h1, h2 => by
    obtain ⟨n, rfl⟩ : ∃ q, n = q + 1 := ⟨n - 1, by omega⟩
    have w0 := hI.1.1.1
    have ek : k = A.1.1 := by omega
    refine ⟨n, M, N, by omega, ?_, hI, fun i hi => h1 i (by omega)⟩
    rw [f_L_isWell_S46, if_pos ((xz_le (by omega) (by omega)).mpr (by omega)), ek]
    rfl
  | d + 1, k, n, M, N, hd, hn9, hI, h1, h2 => by
    obtain ⟨n, rfl⟩ : ∃ q, n = q + 2 := ⟨n - 2, by omega⟩
    have w0 := hI.1.1.1
    have w1 := hI.1.1.2.1
    have w4 := hI.1.1.2.2.2.1
    have hk : k < A.1.1 := by omega
    obtain ⟨g1, g2⟩ := hg k hk
    have hO : pO A.2.1 A.1.1 (g k) = k := g2
    obtain ⟨M1, a1, a2⟩ := (y_eventOf hI g1).2.1
    have b3 := ((y_eventOf a2 g1).1 (n + 1)).2.2
    obtain ⟨M2, c1, c2⟩ := y_count a2 (w := 3) (by omega)
    have c1 : f_X6_count (n + 1) M1 3 = some (nI A.1.2.1, M2) := c1 (n + 1) (by omega)
    obtain ⟨M3, d1, d2⟩ := (y_eventOf c2 g1).2.2
    obtain ⟨M4, e1, e2⟩ := (y_eventOf d2 g1).2.2
    rw [hO] at a1 b3 d1 e1
    have a1 := a1 (n + 1) (by omega)
    have d1 := d1 n (by omega)
    have e1 := e1 n (by omega)
    have hF := allS_le (ev := A.2.1) (show A.1.1 ≤ 25 by omega) hI.1.1.2.2.2.2.2 (g k) A.1.2.2.2 (Nat.le_refl _)
    have ht : pTm A.2.1 A.1.1 (g k) ≤ A.1.2.1 := by
      have := hT k hk
      unfold pTm
      rw [hO]
      exact this
    have hnew : N 0 (g k) = -1 := h2 (g k) (by omega) (fun i hi z => by
      have z1 := (hg i (by omega)).2
      rw [← z, g2] at z1
      omega)
    have hN1 : ∀ i, i < k + 1 → xm_up N 0 (g k) (nI k) 0 (g i) = nI i := fun i hi => by
      by_cases z : i = k
      · rw [z, xm_up_s]
      · have ne : g i ≠ g k := fun y => by
          have z1 := (hg i (by omega)).2
          rw [y, g2] at z1
          omega
        rw [xm_up_j _ _ ne]
        exact h1 i (by omega)
    have hN2 : ∀ j, j < 25 → (∀ i, i < k + 1 → j ≠ g i) → xm_up N 0 (g k) (nI k) 0 j = -1 := fun j hj hne => by
      rw [xm_up_j _ _ (hne k (by omega))]
      exact h2 j hj (fun i hi => hne i (by omega))
    obtain ⟨m, M', N', k1, k2, k3, k4⟩ := v_w46 hT hg d (k + 1) n M4 (xm_up N 0 (g k) (nI k)) (by omega) (by omega) e2 hN1 hN2
    refine ⟨m, M', N', by omega, ?_, k3, k4⟩
    have m1 : ¬ (0 : Int32) ≤ -1 := by decide
    rw [f_L_isWell_S46, if_neg (mt (xz_le (by omega) (by omega)).mp (by omega)), if_neg xz_10, a1, xz_b2, if_neg (nI_pos (by omega)), if_neg (mt (xz_le (by omega) (by omega)).mp (by omega)), xz_ci (show g k < 25 by omega) (by omega), xz_cl (show g k < 2 ^ 31 by omega), hnew, if_neg m1, b3, xz_b2, c1, xz_b2, if_neg (mt (xz_l (by omega) (by omega)).mp (by omega)), if_pos ((xz_cle (c := 0) 0 rfl (by omega) (by omega)).mpr (Nat.zero_le _)), xz_ci (show g k < 25 by omega) (by omega), xz_lt, f_L_isWell_S46, d1, xz_b2, nI_1 k]
    have q1 : ∀ f : Nat → Nat, nI (sm f k) + nI (f k) = nI (sm f (k + 1)) := fun f => nI_add _ _
    have q5 : nI (sm (fun e => allS A.2.1 A.1.1 A.2.2 (g e) A.1.2.2.2) k) + nI (allS A.2.1 A.1.1 A.2.2 (g k) A.1.2.2.2) = nI (sm (fun e => allS A.2.1 A.1.1 A.2.2 (g e) A.1.2.2.2) (k + 1)) := q1 (fun e => allS A.2.1 A.1.1 A.2.2 (g e) A.1.2.2.2)
    have q3 : nI (sm (fun e => if allS A.2.1 A.1.1 A.2.2 (g e) A.1.2.2.2 = 0 then 1 else 0) k) + nI (if allS A.2.1 A.1.1 A.2.2 (g k) A.1.2.2.2 = 0 then 1 else 0) = nI (sm (fun e => if allS A.2.1 A.1.1 A.2.2 (g e) A.1.2.2.2 = 0 then 1 else 0) (k + 1)) := q1 (fun e => if allS A.2.1 A.1.1 A.2.2 (g e) A.1.2.2.2 = 0 then 1 else 0)
    by_cases z : allS A.2.1 A.1.1 A.2.2 (g k) A.1.2.2.2 = 0
    · rw [if_pos (by rw [z]; rfl), e1, xz_b2, q5]
      rw [if_pos z] at q3
      have q3 : _ + (1 : Int32) = _ := q3
      rw [q3]
      exact k2
    · rw [if_neg (mt (xz_ec (c := 0) 0 rfl (by omega) (by omega)).mp z), e1, xz_b2, q5]
      rw [if_neg z] at q3
      have q3 : _ + (0 : Int32) = _ := q3
      rw [q3]
      exact k2
/-- the order -/
theorem v_w161 {a b : Int32} : ∀ (d k n : Nat) (M : xm_M), 1 ≤ k ∧ k ≤ 30 → A.1.1 ≤ k + d → 600 + d < n → yI A h hn ho tx tl M → (∀ q, q < A.1.1 → N 0 q = nI (pO A.2.1 A.1.1 q)) → ∃ m M', n ≤ m + d + 1 ∧ 600 ≤ m ∧ f_L_isWell_S161 n 0 M N (nI A.1.1) a 0 b 1 (nI k) = f_L_isWell_S234 m 0 M' N a 0 b 1 0 ∧ yI A h hn ho tx tl M'
  | 0, k, n, M, h1, hd, hn9, hI, hN => by
    obtain ⟨n, rfl⟩ : ∃ q, n = q + 1 := ⟨n - 1, by omega⟩
    have w0 := hI.1.1.1
    refine ⟨n, M, by omega, by omega, ?_, hI⟩
    by_cases hk : k < 2 ^ 31
    · rw [f_L_isWell_S161, if_pos ((xz_le (by omega) hk).mpr (by omega))]
      rfl
    · exact absurd hk (by omega)
  | d + 1, k, n, M, h1, hd, hn9, hI, hN => by
    obtain ⟨n, rfl⟩ : ∃ q, n = q + 1 := ⟨n - 1, by omega⟩
    have w0 := hI.1.1.1
    by_cases hle : A.1.1 ≤ k
    · refine ⟨n, M, by omega, by omega, ?_, hI⟩
      by_cases hk : k < 2 ^ 31
      · rw [f_L_isWell_S161, if_pos ((xz_le (by omega) hk).mpr hle)]
        rfl
      · exact absurd hk (by omega)
    · obtain ⟨k, rfl⟩ : ∃ q, k = q + 1 := ⟨k - 1, by omega⟩
      have b1 := ((y_eventOf hI (q := k + 1) (by omega)).1 n).2.2
      have b2 := ((y_eventOf hI (q := k) (by omega)).1 n).2.2
      have e1 := hN (k + 1) (by omega)
      have e2 := hN k (by omega)
      have o1 : pO A.2.1 A.1.1 (k + 1) < A.1.1 := io_lt (eT A.2.1) A.1.1 (k + 1) (by omega)
      have o2 : pO A.2.1 A.1.1 k < A.1.1 := io_lt (eT A.2.1) A.1.1 k (by omega)
      have t1 : pTm A.2.1 A.1.1 (k + 1) ≤ 9999 := (hI.1.1.2.2.2.2.1 _ o1).2.2
      have t2 : pTm A.2.1 A.1.1 k ≤ 9999 := (hI.1.1.2.2.2.2.1 _ o2).2.2
      have srt : pTm A.2.1 A.1.1 k ≤ pTm A.2.1 A.1.1 (k + 1) := io_srt (eT A.2.1) A.1.1 k (k + 1) (by omega) (by omega)
      obtain ⟨m, M', g1, g2, g3, g4⟩ := v_w161 (a := a) (b := b) d (k + 1 + 1) n M ⟨by omega, by omega⟩ (by omega) (by omega) hI hN
      refine ⟨m, M', by omega, g2, ?_, g4⟩
      rw [f_L_isWell_S161, if_neg (mt (xz_le (by omega) (by omega)).mp (by omega)), if_neg xz_10, nI_pred k, xz_ci (show k + 1 < 25 by omega) (by omega), xz_cl (show k + 1 < 2 ^ 31 by omega), e1, b1, xz_b2, xz_ci (show k < 25 by omega) (by omega), xz_cl (show k < 2 ^ 31 by omega), e2, b2, xz_b2]
      by_cases z : pTm A.2.1 A.1.1 k < pTm A.2.1 A.1.1 (k + 1)
      · rw [if_pos ((xz_s0 (by omega) (by omega)).mpr z), nI_1]
        exact g3
      · have eq : pTm A.2.1 A.1.1 k = pTm A.2.1 A.1.1 (k + 1) := by omega
        have stb : pO A.2.1 A.1.1 k < pO A.2.1 A.1.1 (k + 1) := io_stb (eT A.2.1) A.1.1 k (by omega) eq
        rw [if_neg (mt (xz_s0 (by omega) (by omega)).mp z), if_pos ((xz_s2 (by omega) (by omega)).mpr eq.symm), xz_ci (show k + 1 < 25 by omega) (by omega), xz_ci (show k < 25 by omega) (by omega), if_neg (mt (xz_le (by omega) (by omega)).mp (by omega)), nI_1]
        exact g3
/-- the end -/
theorem v_w413 (hI : yI A h hn ho tx tl M) {n : Nat} (hn9 : 500 < n) : ∃ M', f_L_isWell_413 n M N (nI (aloneN A.2.1 A.1.1 A.2.2 A.1.2.2.2)) (nI (allM A.2.1 A.1.1 A.2.2 A.1.2.2.2)) 0 1 = some (1, M', N) ∧ yI A h hn ho tx tl M' := by
  have w1 := hI.1.1.2.1
  have w2 := hI.1.1.2.2.1
  obtain ⟨M1, a1, a2⟩ := y_count hI (w := 2) (by omega)
  obtain ⟨M2, b1, b2⟩ := y_count a2 (w := 6) (by omega)
  obtain ⟨M3, c1, c2⟩ := y_count b2 (w := 4) (by omega)
  obtain ⟨M4, d1, d2⟩ := y_count c2 (w := 3) (by omega)
  obtain ⟨M5, e1, e2⟩ := y_count d2 (w := 4) (by omega)
  obtain ⟨M6, f1, f2⟩ := y_count e2 (w := 3) (by omega)
  obtain ⟨M7, g1, g2⟩ := y_count f2 (w := 5) (by omega)
  have a1 : f_X6_count n M 2 = some (nI (allM A.2.1 A.1.1 A.2.2 A.1.2.2.2), M1) := a1 n hn9
  have b1 : f_X6_count n M1 6 = some (nI (aloneN A.2.1 A.1.1 A.2.2 A.1.2.2.2), M2) := b1 n hn9
  have c1 : f_X6_count n M2 4 = some (nI (A.1.2.1 - A.1.2.2.1), M3) := c1 n hn9
  have d1 : f_X6_count n M3 3 = some (nI A.1.2.1, M4) := d1 n hn9
  have e1 : f_X6_count n M4 4 = some (nI (A.1.2.1 - A.1.2.2.1), M5) := e1 n hn9
  have f1 : f_X6_count n M5 3 = some (nI A.1.2.1, M6) := f1 n hn9
  have g1 : f_X6_count n M6 5 = some (nI A.1.2.2.1, M7) := g1 n hn9
  have hlt : ¬ nI (A.1.2.1 - A.1.2.2.1) < nI A.1.2.1 - nI A.1.2.2.1 := by
    rw [Int32.lt_iff_toInt_lt, pk_sub_toInt (by omega) (by omega), nI_toInt (by omega)]
    omega
  refine ⟨M7, ?_, g2⟩
  unfold f_L_isWell_413
  rw [if_neg xz_10, if_pos rfl, a1, xz_b2, if_pos rfl, b1, xz_b2, if_pos rfl, c1, xz_b2, d1, xz_b2, if_neg (mt (xz_l (by omega) (by omega)).mp (by omega)), e1, xz_b2, f1, xz_b2, g1, xz_b2, if_neg hlt]
/-- the patterns -/
theorem v_w234 (hp : ∀ j, j < A.1.2.2.2 → pL (A.2.2 j)) : ∀ (d j n : Nat) (M : xm_M), j + d = A.1.2.2.2 → 550 + d < n → yI A h hn ho tx tl M → ∃ M', f_L_isWell_S234 n 0 M N (nI (aloneN A.2.1 A.1.1 A.2.2 A.1.2.2.2)) (nI (allM A.2.1 A.1.1 A.2.2 j)) (nI (sm (fun i => nM (PL A.2.1 A.1.1 (A.2.2 i)) * (A.2.2 i).1.2.2.2) A.1.2.2.2 - sm (fun i => nM (PL A.2.1 A.1.1 (A.2.2 i)) * (A.2.2 i).1.2.2.2) j)) 1 (nI j) = some (1, M', N) ∧ yI A h hn ho tx tl M'
  | 0, j, n, M, hd, hn9, hI => by
    obtain ⟨n, rfl⟩ : ∃ q, n = q + 1 := ⟨n - 1, by omega⟩
    have w4 := hI.1.1.2.2.2.1
    obtain ⟨M1, a1, a2⟩ := y_count hI (w := 1) (by omega)
    have a1 : f_X6_count n M 1 = some (nI A.1.2.2.2, M1) := a1 n (by omega)
    have ej : j = A.1.2.2.2 := by omega
    obtain ⟨M', b1, b2⟩ := v_w413 (N := N) a2 (n := n) (by omega)
    refine ⟨M', ?_, b2⟩
    rw [f_L_isWell_S234, a1, xz_b2, if_pos ((xz_le (by omega) (by omega)).mpr (by omega)), ej, Nat.sub_self]
    exact b1
  | d + 1, j, n, M, hd, hn9, hI => by
    obtain ⟨n, rfl⟩ : ∃ q, n = q + 1 := ⟨n - 1, by omega⟩
    have w0 := hI.1.1.1
    have w4 := hI.1.1.2.2.2.1
    have hj : j < A.1.2.2.2 := by omega
    have wP := hI.1.1.2.2.2.2.2 j hj
    have hL := hp j hj
    have p2 := pl_two wP hL
    have p4 := wP.2.2.2.2.2.2.2.1
    have s2 := wP.2.2.2.1
    have s7 := wP.2.2.2.2.1
    have z1 := PL_len (ev := A.2.1) (show A.1.1 ≤ 25 by omega) wP
    have z2 := nM_le (PL A.2.1 A.1.1 (A.2.2 j))
    have z3 := nS_le (pTm A.2.1 A.1.1) (A.1.2.1 - A.1.2.2.1) ((A.2.2 j).1.2.2.2 - 1) (PL A.2.1 A.1.1 (A.2.2 j))
    have z4 := nB_le (pTm A.2.1 A.1.1) (A.2.2 j).1.1 A.1.2.1 (PL A.2.1 A.1.1 (A.2.2 j))
    obtain ⟨m, hm⟩ : ∃ m, m = nM (PL A.2.1 A.1.1 (A.2.2 j)) := ⟨_, rfl⟩
    obtain ⟨M1, a1, i1⟩ := y_count hI (w := 1) (by omega)
    obtain ⟨M2, a2, i2⟩ := y_pattern i1 hj (w := 4) (by omega)
    obtain ⟨M3, a3, i3⟩ := y_pattern i2 hj (w := 3) (by omega)
    obtain ⟨M4, a4, i4⟩ := y_pattern i3 hj (w := 5) (by omega)
    obtain ⟨M5, a5, i5⟩ := y_pattern i4 hj (w := 6) (by omega)
    obtain ⟨M6, a6, i6⟩ := y_pattern i5 hj (w := 2) (by omega)
    obtain ⟨M7, a7, i7⟩ := y_pattern i6 hj (w := 3) (by omega)
    obtain ⟨M8, a8, i8⟩ := y_pattern i7 hj (w := 3) (by omega)
    have t1 := (y_step i8 hj (i := 0) (by omega) n).2
    obtain ⟨M9, a9, i9⟩ := y_pattern i8 hj (w := 2) (by omega)
    have t2 := (y_step i9 hj (i := (A.2.2 j).1.2.2.1 - 1) (by omega) n).2
    obtain ⟨M10, a10, i10⟩ := y_match i9 hj (rk := m) (ix := 0) (by omega) (by omega)
    have a1 : f_X6_count n M 1 = some (nI A.1.2.2.2, M1) := a1 n (by omega)
    have a2 : f_X6_pattern n M1 (nI j) 4 = some (nI m, M2) := by rw [hm]; exact a2 n (by omega)
    have a3 : f_X6_pattern n M2 (nI j) 3 = some (nI (A.2.2 j).1.2.2.2, M3) := a3 n (by omega)
    have a4 : f_X6_pattern n M3 (nI j) 5 = some (nI (patV A j 5), M4) := a4 n (by omega)
    have a5 : f_X6_pattern n M4 (nI j) 6 = some (nI (patV A j 6), M5) := a5 n (by omega)
    have a6 : f_X6_pattern n M5 (nI j) 2 = some (nI (A.2.2 j).1.2.2.1, M6) := a6 n (by omega)
    have a7 : f_X6_pattern n M6 (nI j) 3 = some (nI (A.2.2 j).1.2.2.2, M7) := a7 n (by omega)
    have a8 : f_X6_pattern n M7 (nI j) 3 = some (nI (A.2.2 j).1.2.2.2, M8) := a8 n (by omega)
    have a9 : f_X6_pattern n M8 (nI j) 2 = some (nI (A.2.2 j).1.2.2.1, M9) := a9 n (by omega)
    have a10 : f_X6_match n M9 (nI j) (nI m) 0 = some (-5, M10) := by
      have := a10 n (by omega)
      rw [matV_no (by rw [hm]; exact Nat.le_refl _)] at this
      exact this
    have t1 : f_X6_step n M8 (nI j) 0 1 = some (0, M8) := by
      have e : (A.2.2 j).2 0 / 8 = 0 := Nat.div_eq_of_lt wP.2.2.2.2.2.2.1.2
      rw [e] at t1
      exact t1
    have t2 : f_X6_step n M9 (nI j) (nI (A.2.2 j).1.2.2.1 - 1) 1 = some (0, M9) := by
      have e : (A.2.2 j).2 ((A.2.2 j).1.2.2.1 - 1) / 8 = 0 := Nat.div_eq_of_lt hL.2
      rw [e] at t2
      have e2 : nI (A.2.2 j).1.2.2.1 - 1 = nI ((A.2.2 j).1.2.2.1 - 1) := pk_sub (b := 1) (by omega)
      rw [e2]
      exact t2
    rw [patV_5] at a4
    rw [patV_6] at a5
    obtain ⟨f, hf⟩ : ∃ f : Nat → Nat, f = fun i => nM (PL A.2.1 A.1.1 (A.2.2 i)) * (A.2.2 i).1.2.2.2 := ⟨_, rfl⟩
    have hfj : f j = m * (A.2.2 j).1.2.2.2 := by rw [hf, hm]
    have e4 : nI (allM A.2.1 A.1.1 A.2.2 j) + nI m = nI (allM A.2.1 A.1.1 A.2.2 (j + 1)) := by rw [nI_add, hm]; rfl
    have mono := sm_mono f hj
    have e5 : nI (sm f A.1.2.2.2 - sm f j) - nI m * nI (A.2.2 j).1.2.2.2 = nI (sm f A.1.2.2.2 - sm f (j + 1)) := by
      rw [pk_mul, ← hfj, pk_sub (by omega), sm_s]
      exact congrArg nI (by omega)
    rw [← hf]
    have back : ∀ M', yI A h hn ho tx tl M' → ∃ M'', f_L_isWell_S234 n 0 M' N (nI (aloneN A.2.1 A.1.1 A.2.2 A.1.2.2.2)) (nI (allM A.2.1 A.1.1 A.2.2 (j + 1))) (nI (sm f A.1.2.2.2 - sm f (j + 1))) 1 (nI (j + 1)) = some (1, M'', N) ∧ yI A h hn ho tx tl M'' := fun M' hI' => by
      rw [hf]
      exact v_w234 hp d (j + 1) n M' (by omega) (by omega) hI'
    by_cases hm0 : m = 0
    · obtain ⟨M', b1, b2⟩ := back M10 i10
      refine ⟨M', ?_, b2⟩
      rw [f_L_isWell_S234, a1, xz_b2, if_neg (mt (xz_le (by omega) (by omega)).mp (by omega)), if_neg xz_10, a2, xz_b2, a3, xz_b2, a4, xz_b2, if_neg (mt (xz_l (by omega) (by omega)).mp (by omega)), a5, xz_b2, if_neg (nI_pos (by omega)), a6, xz_b2, if_neg (mt (xz_clt (c := 7) 7 rfl (by omega) (by omega)).mp (by omega)), a7, xz_b2, if_neg (mt (xz_ltc (c := 2) 2 rfl (by omega) (by omega)).mp (by omega)), a8, xz_b2, if_neg (mt (xz_clt (c := 4) 4 rfl (by omega) (by omega)).mp (by omega)), t1, xz_b2, if_pos rfl, a9, xz_b2, t2, xz_b2, if_pos rfl, a10, xz_b2, if_pos rfl, if_pos (by rw [hm0]; rfl), e4, e5, nI_1]
      exact b1
    · obtain ⟨M11, a11, i11⟩ := y_match i10 hj (rk := m - 1) (ix := 0) (by omega) (by omega)
      obtain ⟨e, he, hv⟩ := matV_yes (rk := m - 1) (ix := 0) wP (by omega) (by rw [← hm]; omega)
      have a11 : f_X6_match n M10 (nI j) (nI (m - 1)) 0 = some (nI e, M11) := by
        have := a11 n (by omega)
        rw [hv] at this
        exact this
      have e6 : nI m - 1 = nI (m - 1) := pk_sub (b := 1) (by omega)
      obtain ⟨M', b1, b2⟩ := back M11 i11
      refine ⟨M', ?_, b2⟩
      rw [f_L_isWell_S234, a1, xz_b2, if_neg (mt (xz_le (by omega) (by omega)).mp (by omega)), if_neg xz_10, a2, xz_b2, a3, xz_b2, a4, xz_b2, if_neg (mt (xz_l (by omega) (by omega)).mp (by omega)), a5, xz_b2, if_neg (nI_pos (by omega)), a6, xz_b2, if_neg (mt (xz_clt (c := 7) 7 rfl (by omega) (by omega)).mp (by omega)), a7, xz_b2, if_neg (mt (xz_ltc (c := 2) 2 rfl (by omega) (by omega)).mp (by omega)), a8, xz_b2, if_neg (mt (xz_clt (c := 4) 4 rfl (by omega) (by omega)).mp (by omega)), t1, xz_b2, if_pos rfl, a9, xz_b2, t2, xz_b2, if_pos rfl, a10, xz_b2, if_pos rfl, if_neg (mt (xz_ec (c := 0) 0 rfl (by omega) (by omega)).mp hm0), e6, a11, xz_b2, if_neg (nI_pos (by omega)), e4, e5, nI_1]
      exact b1
/-- isWell, from the array on -/
theorem v_isWell (hI : yI A h hn ho tx tl M) (hp : ∀ j, j < A.1.2.2.2 → pL (A.2.2 j)) (hT : ∀ i, i < A.1.1 → (A.2.1 i).2.2 ≤ A.1.2.1) {n : Nat} (hn9 : 1500 < n) : ∃ M' N', f_L_isWell_11 n M N (nI A.1.1) = some (1, M', N') ∧ yI A h hn ho tx tl M' := by
  have w0 := hI.1.1.1
  have w4 := hI.1.1.2.2.2.1
  have hex : ∀ e, ∃ q, e < A.1.1 → q < A.1.1 ∧ io (eT A.2.1) A.1.1 q = e := fun e => by
    by_cases he : e < A.1.1
    · obtain ⟨q, hq, hqe⟩ := io_sur (eT A.2.1) A.1.1 e he
      exact ⟨q, fun _ => ⟨hq, hqe⟩⟩
    · exact ⟨0, fun z => absurd z he⟩
  obtain ⟨g, hg⟩ : ∃ g : Nat → Nat, ∀ e, e < A.1.1 → g e < A.1.1 ∧ io (eT A.2.1) A.1.1 (g e) = e := ⟨fun e => Classical.choose (hex e), fun e => Classical.choose_spec (hex e)⟩
  obtain ⟨m1, N1, a1, a2, a3⟩ := v_w25 (x1 := nI A.1.1) (x3 := 0) (x4 := 0) (x5 := 0) (x6 := 1) 25 0 n M N (by omega) (by omega) (fun j hj => absurd hj (Nat.not_lt_zero j))
  obtain ⟨m2, M2, N2, b1, b2, b3, b4⟩ := v_w46 hT hg A.1.1 0 m1 M N1 (by omega) (by omega) hI (fun i hi => absurd hi (Nat.not_lt_zero i)) (fun j hj _ => a3 j hj)
  have hN2 : ∀ q, q < A.1.1 → N2 0 q = nI (pO A.2.1 A.1.1 q) := fun q hq => by
    have h1 : pO A.2.1 A.1.1 q < A.1.1 := io_lt (eT A.2.1) A.1.1 q hq
    obtain ⟨g1, g2⟩ := hg _ h1
    have h2 := b4 _ h1
    have h3 : g (pO A.2.1 A.1.1 q) = q := io_inj (eT A.2.1) A.1.1 _ _ g1 hq g2
    rw [h3] at h2
    exact h2
  obtain ⟨m3, M3, c1, c2, c3, c4⟩ := v_w161 (N := N2) (a := nI (sm (fun e => if allS A.2.1 A.1.1 A.2.2 (g e) A.1.2.2.2 = 0 then 1 else 0) A.1.1)) (b := nI (sm (fun e => allS A.2.1 A.1.1 A.2.2 (g e) A.1.2.2.2) A.1.1)) A.1.1 1 m2 M2 ⟨by omega, by omega⟩ (by omega) (by omega) b3 hN2
  obtain ⟨M4, d1, d2⟩ := v_w234 (N := N2) hp A.1.2.2.2 0 m3 M3 (by omega) (by omega) c4
  refine ⟨M4, N2, ?_, d2⟩
  have s1 : sm (fun e => if allS A.2.1 A.1.1 A.2.2 (g e) A.1.2.2.2 = 0 then 1 else 0) A.1.1 = aloneN A.2.1 A.1.1 A.2.2 A.1.2.2.2 := sm_g hg (fun s => if allS A.2.1 A.1.1 A.2.2 s A.1.2.2.2 = 0 then 1 else 0)
  have s2 : sm (fun e => allS A.2.1 A.1.1 A.2.2 (g e) A.1.2.2.2) A.1.1 = sm (fun i => nM (PL A.2.1 A.1.1 (A.2.2 i)) * (A.2.2 i).1.2.2.2) A.1.2.2.2 := by
    rw [sm_g hg (fun s => allS A.2.1 A.1.1 A.2.2 s A.1.2.2.2)]
    exact sm_allS hI.1.1.2.2.2.2.2 A.1.2.2.2 (Nat.le_refl _)
  have a2 : f_L_isWell_S25 n 0 M N (nI A.1.1) 0 0 0 1 0 = _ := a2
  have b2 : f_L_isWell_S46 m1 0 M N1 (nI A.1.1) 0 0 0 1 0 = _ := b2
  have c3 : f_L_isWell_S161 m2 0 M2 N2 (nI A.1.1) _ 0 _ 1 1 = _ := c3
  have d1 : f_L_isWell_S234 m3 0 M3 N2 _ 0 (nI (_ - 0)) 1 0 = _ := d1
  rw [Nat.sub_zero] at d1
  unfold f_L_isWell_11 f_L_isWell_25
  rw [a2, b2, c3, s1, s2, d1]
end LW
