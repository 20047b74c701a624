/-! LAYER 2: the history, on either side -/
def xh_n (hn : Nat) : Nat := if hn < 4 then hn + 1 else 4
def xh_o (ho hn : Nat) : Nat := if hn < 4 then ho else (ho + 1) % 4
def xh_push (A : xa_S) (h : Nat → xa_S) (hn : Nat) : Nat → xa_S := fun i => if hn < 4 then (if i = hn then A else h i) else (if i = 3 then A else h (i + 1))
def xh_X (h : Nat → xa_S) (hn ho : Nat) (M : xm_M) : Prop := M 4 1 = nI ho ∧ M 4 2 = nI hn ∧ ∀ i, i < hn → xa_XS (h i) M (52 + 17 * ((ho + i) % 4))
def xh_M (h : Nat → xa_S) (hn : Nat) (N : xm_M) : Prop := N 0 3 = nI hn ∧ ∀ i, i < hn → xa_MS (h i) (N 3) (119 * i)
theorem xz_rem4 (a : Nat) (ha : a < 2 ^ 31) : nI a - nI a / 4 * 4 = nI (a % 4) := pk_rem (d := 4) ha (by omega) (by omega)
theorem xp_rec30 {M : xm_M} {A : xa_S} {h : Nat → xa_S} {hn ho : Nat} (hA : xa_XS A M 18) (hW : xa_WS A) (hh : xh_X h hn ho M) (hWh : ∀ i, i < hn → xa_WS (h i)) (h4 : hn < 4) (ho4 : ho < 4) {n : Nat} (hf : 60 < n) : ∃ M', f_X0_record_30 n M 18 = some M' ∧ xh_X (fun i => if i = hn then A else h i) (hn + 1) ho M' ∧ ∀ k, k ≠ 4 → k < 52 → M' k = M k := by
  obtain ⟨e1, e2, e3⟩ := hh
  have hm : (ho + hn) % 4 < 4 := Nat.mod_lt _ (by omega)
  obtain ⟨M2, c1, c2, c3⟩ := xp_copyS (M := M) (s := 52 + 17 * ((ho + hn) % 4)) (o := 18) (by omega) hA hW (n := n) hf
  unfold f_X0_record_30
  rw [e1, e2, nI_add, xz_rem4 _ (by omega), xz_ci hm (by omega), xz_cl (by omega), c1, xz_b1, xz_lt]
  have f2 : M2 4 = M 4 := c3 4 (by omega)
  refine ⟨_, rfl, ⟨?_, ?_, fun i hi => ?_⟩, fun k k1 k2 => ?_⟩
  · rw [xm_up_j _ _ (by omega), f2]
    exact e1
  · rw [xm_up_s, f2, e2, nI_1]
  · show xa_XS (if i = hn then A else h i) _ _
    by_cases hin : i = hn
    · subst hin
      rw [if_pos rfl]
      exact c2.fr hW.2.2.2.1 (fun k k1 k2 => xm_up_r _ _ (by omega))
    · rw [if_neg hin]
      have hi2 : i < hn := by omega
      have hd : (ho + i) % 4 ≠ (ho + hn) % 4 := by omega
      refine (e3 i hi2).fr (hWh i hi2).2.2.2.1 (fun k k1 k2 => ?_)
      rw [xm_up_r _ _ (by omega), c3 k (by omega)]
  · rw [xm_up_r _ _ k1, c3 k (by omega)]
theorem xp_record {M : xm_M} {A : xa_S} {h : Nat → xa_S} {hn ho : Nat} (hA : xa_XS A M 18) (hW : xa_WS A) (hh : xh_X h hn ho M) (hWh : ∀ i, i < hn → xa_WS (h i)) (h4 : hn ≤ 4) (ho4 : ho < 4) {n : Nat} (hf : 60 < n) : ∃ M', f_X0_record n M 18 = some M' ∧ xh_X (xh_push A h hn) (xh_n hn) (xh_o ho hn) M' ∧ ∀ k, k ≠ 4 → k < 52 → M' k = M k := by
  unfold f_X0_record
  by_cases hl : hn < 4
  · obtain ⟨M', c1, c2, c3⟩ := xp_rec30 hA hW hh hWh hl ho4 hf
    refine ⟨M', ?_, ?_, c3⟩
    · rw [hh.2.1, if_pos ((xz_ltc (c := 4) 4 rfl (by omega) (by omega)).mpr hl)]
      exact c1
    · have e1 : xh_push A h hn = fun i => if i = hn then A else h i := by funext i; simp only [xh_push, if_pos hl]
      rw [e1, xh_n, if_pos hl, xh_o, if_pos hl]
      exact c2
  · have hn4 : hn = 4 := by omega
    subst hn4
    obtain ⟨e1, e2, e3⟩ := hh
    rw [e2, if_neg (by decide)]
    simp only [xz_lt]
    generalize hM2 : xm_up (xm_up M 4 1 (M 4 1 + 1 - (M 4 1 + 1) / 4 * 4)) 4 2 (xm_up M 4 1 (M 4 1 + 1 - (M 4 1 + 1) / 4 * 4) 4 2 - 1) = M2
    have f1 : ∀ k, k ≠ 4 → M2 k = M k := fun k hk => by rw [← hM2, xm_up_r _ _ hk, xm_up_r _ _ hk]
    have g1 : M2 4 1 = nI ((ho + 1) % 4) := by
      rw [← hM2, xm_up_j _ _ (by omega), xm_up_s, e1, nI_1, xz_rem4 _ (by omega)]
    have g2 : M2 4 2 = nI 3 := by
      rw [← hM2, xm_up_s, xm_up_j _ _ (by omega), e2]
      decide
    have hh2 : xh_X (fun i => h (i + 1)) 3 ((ho + 1) % 4) M2 := by
      refine ⟨g1, g2, fun i hi => ?_⟩
      have e9 : ((ho + 1) % 4 + i) % 4 = (ho + (i + 1)) % 4 := by omega
      rw [e9]
      exact (e3 (i + 1) (by omega)).fr (hWh (i + 1) (by omega)).2.2.2.1 (fun k k1 k2 => f1 k (by omega))
    obtain ⟨M', c1, c2, c3⟩ := xp_rec30 (M := M2) (hA.fr hW.2.2.2.1 (fun k k1 k2 => f1 k (by omega))) hW hh2 (fun i hi => hWh (i + 1) (by omega)) (by omega) (by omega) hf
    refine ⟨M', c1, ?_, fun k k1 k2 => by rw [c3 k k1 k2, f1 k k1]⟩
    have e8 : xh_push A h 4 = fun i => if i = 3 then A else h (i + 1) := by funext i; simp [xh_push]
    rw [e8]
    exact c2
theorem xz_119 (h i : Nat) : (119 : Int32) * nI h + nI i = nI (119 * h + i) := by
  show nI 119 * nI h + nI i = _
  rw [pk_mul, nI_add]
theorem xm_remember {N : xm_M} {n : Nat} (hf : 119 < n) : ∃ N', f_X7_remember n N = some N' ∧ (∀ k, k ≠ 2 → N' k = N k) ∧ ∀ j, j < 119 → N' 2 j = N 1 j := by
  unfold f_X7_remember
  refine xz_for (fun n M i => f_X7_remember_2 n M (nI i)) 119 0 (fun i M2 => (∀ k, k ≠ 2 → M2 k = N k) ∧ ∀ j, j < i → M2 2 j = N 1 j) _ ?_ ?_ n 0 N (by omega) (by omega) ⟨fun _ _ => rfl, fun j hj => by omega⟩
  · intro n M2 _ hI
    refine ⟨M2, ?_, hI⟩
    show f_X7_remember_2 (n + 1) M2 (nI 119) = _
    rw [f_X7_remember_2]
    exact if_pos (by decide)
  · intro n i M2 _ hi hI
    refine ⟨xm_up M2 2 i (M2 1 i), ⟨fun k hk => by rw [xm_up_r _ _ hk]; exact hI.1 k hk, fun j hj => ?_⟩, ?_⟩
    · by_cases hji : j = i
      · subst hji
        rw [xm_up_s, hI.1 1 (by omega)]
      · rw [xm_up_j _ _ hji]
        exact hI.2 j (by omega)
    · show f_X7_remember_2 (n + 1) M2 (nI i) = f_X7_remember_2 n _ (nI (i + 1))
      rw [f_X7_remember_2, if_neg (mt (xz_cle (c := 119) 119 rfl (by omega) (by omega)).mp (by omega))]
      simp only [xz_ci hi (show 119 ≤ 1000 by omega), xz_lt, xz_cl (show i < 2 ^ 31 by omega), nI_1]
theorem xm_act50 {N : xm_M} {hn : Nat} (h3 : N 0 3 = nI hn) (h4 : hn < 4) (r : Int32) {n : Nat} (hf : 119 < n) : ∃ q, f_X7_acted_50 n N r 0 = some q ∧ (q.1 = r ∧ (∀ k, k ≠ 0 → k ≠ 3 → q.2 k = N k) ∧ (∀ j, j ≠ 3 → q.2 0 j = N 0 j) ∧ q.2 0 3 = nI (hn + 1) ∧ (∀ j, j < 119 * hn → q.2 3 j = N 3 j) ∧ ∀ j, j < 119 → q.2 3 (119 * hn + j) = N 2 j) := by
  refine xz_for (fun n M i => f_X7_acted_50 n M r (nI i)) 119 0 (fun i M2 => (∀ k, k ≠ 3 → M2 k = N k) ∧ (∀ j, j < 119 * hn → M2 3 j = N 3 j) ∧ ∀ j, j < i → M2 3 (119 * hn + j) = N 2 j) _ ?_ ?_ n 0 N (by omega) (by omega) ⟨fun _ _ => rfl, fun j hj => rfl, fun j hj => by omega⟩
  · intro n M2 _ hI
    refine ⟨(r, xm_up M2 0 3 (M2 0 3 + 1)), ?_, rfl, fun k k1 k2 => ?_, fun j hj => ?_, ?_, fun j hj => ?_, fun j hj => ?_⟩
    · show f_X7_acted_50 (n + 1) M2 r (nI 119) = _
      rw [f_X7_acted_50]
      exact if_pos (by decide)
    · show xm_up M2 0 3 (M2 0 3 + 1) k = _
      rw [xm_up_r _ _ k1]
      exact hI.1 k k2
    · show xm_up M2 0 3 (M2 0 3 + 1) 0 j = _
      rw [xm_up_j _ _ hj, hI.1 0 (by omega)]
    · show xm_up M2 0 3 (M2 0 3 + 1) 0 3 = _
      rw [xm_up_s, hI.1 0 (by omega), h3, nI_1]
    · show xm_up M2 0 3 (M2 0 3 + 1) 3 j = _
      rw [xm_up_r _ _ (by omega)]
      exact hI.2.1 j hj
    · show xm_up M2 0 3 (M2 0 3 + 1) 3 (119 * hn + j) = _
      rw [xm_up_r _ _ (by omega)]
      exact hI.2.2 j hj
  · intro n i M2 _ hi hI
    have g3 : M2 0 3 = nI hn := by rw [hI.1 0 (by omega)]; exact h3
    refine ⟨xm_up M2 3 (119 * hn + i) (M2 2 i), ⟨fun k hk => by rw [xm_up_r _ _ hk]; exact hI.1 k hk, fun j hj => ?_, fun j hj => ?_⟩, ?_⟩
    · rw [xm_up_j _ _ (by omega)]
      exact hI.2.1 j hj
    · by_cases hji : j = i
      · subst hji
        rw [xm_up_s, hI.1 2 (by omega)]
      · rw [xm_up_j _ _ (by omega)]
        exact hI.2.2 j (by omega)
    · show f_X7_acted_50 (n + 1) M2 r (nI i) = f_X7_acted_50 n _ r (nI (i + 1))
      rw [f_X7_acted_50, if_neg (mt (xz_cle (c := 119) 119 rfl (by omega) (by omega)).mp (by omega)), g3, xz_119]
      simp only [xz_ci hi (show 119 ≤ 1000 by omega), xz_ci (show 119 * hn + i < 476 by omega) (show 476 ≤ 1000 by omega), xz_lt, xz_cl (show i < 2 ^ 31 by omega), xz_cl (show 119 * hn + i < 2 ^ 31 by omega), nI_1]
theorem xm_act10 {N : xm_M} (h3 : N 0 3 = nI 4) (r : Int32) {n : Nat} (hf : 500 < n) : ∃ q, f_X7_acted_10 n N r 0 = some q ∧ (q.1 = r ∧ (∀ k, k ≠ 0 → k ≠ 3 → q.2 k = N k) ∧ (∀ j, j ≠ 3 → q.2 0 j = N 0 j) ∧ q.2 0 3 = nI 4 ∧ (∀ j, j < 357 → q.2 3 j = N 3 (j + 119)) ∧ ∀ j, j < 119 → q.2 3 (357 + j) = N 2 j) := by
  refine xz_for (fun n M i => f_X7_acted_10 n M r (nI i)) 357 130 (fun i M2 => (∀ k, k ≠ 3 → M2 k = N k) ∧ (∀ j, i ≤ j → M2 3 j = N 3 j) ∧ ∀ j, j < i → M2 3 j = N 3 (j + 119)) _ ?_ ?_ n 0 N (by omega) (by omega) ⟨fun _ _ => rfl, fun j hj => rfl, fun j hj => by omega⟩
  · intro n M2 hK hI
    have g3 : xm_up M2 0 3 (M2 0 3 - 1) 0 3 = nI 3 := by
      rw [xm_up_s, hI.1 0 (by omega), h3]
      decide
    obtain ⟨q, c1, c2, c3, c4, c5, c6, c7⟩ := xm_act50 (N := xm_up M2 0 3 (M2 0 3 - 1)) (hn := 3) g3 (by omega) r (n := n) (by omega)
    refine ⟨q, ?_, c2, fun k k1 k2 => ?_, fun j hj => ?_, c5, fun j hj => ?_, fun j hj => ?_⟩
    · show f_X7_acted_10 (n + 1) M2 r (nI 357) = _
      rw [f_X7_acted_10, if_pos (by decide), xz_lt]
      exact c1
    · rw [c3 k k1 k2, xm_up_r _ _ k1, hI.1 k k2]
    · rw [c4 j hj, xm_up_j _ _ hj, hI.1 0 (by omega)]
    · rw [c6 j hj, xm_up_r _ _ (by omega)]
      exact hI.2.2 j hj
    · rw [c7 j hj, xm_up_r _ _ (by omega), hI.1 2 (by omega)]
  · intro n i M2 _ hi hI
    refine ⟨xm_up M2 3 i (M2 3 (i + 119)), ⟨fun k hk => by rw [xm_up_r _ _ hk]; exact hI.1 k hk, fun j hj => ?_, fun j hj => ?_⟩, ?_⟩
    · rw [xm_up_j _ _ (by omega)]
      exact hI.2.1 j (by omega)
    · by_cases hji : j = i
      · subst hji
        rw [xm_up_s]
        exact hI.2.1 _ (by omega)
      · rw [xm_up_j _ _ hji]
        exact hI.2.2 j (by omega)
    · show f_X7_acted_10 (n + 1) M2 r (nI i) = f_X7_acted_10 n _ r (nI (i + 1))
      have e9 : nI i + (119 : Int32) = nI (i + 119) := nI_add i 119
      rw [f_X7_acted_10, if_neg (mt (xz_cle (c := 357) 357 rfl (by omega) (by omega)).mp (by omega)), e9]
      simp only [xz_ci (show i < 476 by omega) (show 476 ≤ 1000 by omega), xz_ci (show i + 119 < 476 by omega) (show 476 ≤ 1000 by omega), xz_lt, xz_cl (show i < 2 ^ 31 by omega), xz_cl (show i + 119 < 2 ^ 31 by omega), nI_1]
/-- acted: what was remembered comes into the history -/
theorem xm_acted {N : xm_M} {A : xa_S} {h : Nat → xa_S} {hn : Nat} (hA : xa_MS A (N 2) 0) (hW : xa_WS A) (hh : xh_M h hn N) (hWh : ∀ i, i < hn → xa_WS (h i)) (h4 : hn ≤ 4) (r : Int32) {n : Nat} (hf : 500 < n) : ∃ N', f_X7_acted n N r = some (r, N') ∧ xh_M (xh_push A h hn) (xh_n hn) N' ∧ (∀ k, k ≠ 0 → k ≠ 3 → N' k = N k) ∧ ∀ j, j ≠ 3 → N' 0 j = N 0 j := by
  obtain ⟨h3, hs⟩ := hh
  unfold f_X7_acted
  by_cases hl : hn < 4
  · obtain ⟨⟨r2, N'⟩, c1, c2, c3, c4, c5, c6, c7⟩ := xm_act50 h3 hl r (n := n) (by omega)
    dsimp only at c2 c3 c4 c5 c6 c7
    subst c2
    rw [h3, if_neg (mt (xz_ec (c := 4) 4 rfl (by omega) (by omega)).mp (by omega))]
    refine ⟨N', c1, ⟨?_, fun i hi => ?_⟩, c3, c4⟩
    · rw [xh_n, if_pos hl]
      exact c5
    · rw [xh_n, if_pos hl] at hi
      simp only [xh_push, if_pos hl]
      by_cases hin : i = hn
      · subst hin
        rw [if_pos rfl]
        refine hA.fr hW (fun k hk => ?_)
        rw [c7 k hk, Nat.zero_add]
      · rw [if_neg hin]
        exact (hs i (by omega)).fr (hWh i (by omega)) (fun k hk => c6 _ (by omega))
  · have hn4 : hn = 4 := by omega
    subst hn4
    obtain ⟨⟨r2, N'⟩, c1, c2, c3, c4, c5, c6, c7⟩ := xm_act10 h3 r (n := n) hf
    dsimp only at c2 c3 c4 c5 c6 c7
    subst c2
    rw [h3, if_pos (by decide)]
    refine ⟨N', c1, ⟨c5, fun i hi => ?_⟩, c3, c4⟩
    have hi4 : i < 4 := hi
    simp only [xh_push, Nat.lt_irrefl, if_false]
    by_cases hin : i = 3
    · subst hin
      rw [if_pos rfl]
      refine hA.fr hW (fun k hk => ?_)
      rw [show 119 * 3 + k = 357 + k by omega, c7 k hk, Nat.zero_add]
    · rw [if_neg hin]
      refine (hs (i + 1) (by omega)).fr (hWh (i + 1) (by omega)) (fun k hk => ?_)
      rw [c6 _ (by omega), show 119 * i + k + 119 = 119 * (i + 1) + k by omega]
theorem xh_push_W {A : xa_S} {h : Nat → xa_S} {hn : Nat} (hW : xa_WS A) (hWh : ∀ i, i < hn → xa_WS (h i)) : ∀ i, i < xh_n hn → xa_WS (xh_push A h hn i) := by
  intro i hi
  unfold xh_push
  unfold xh_n at hi
  by_cases hl : hn < 4
  · rw [if_pos hl] at hi ⊢
    by_cases hin : i = hn
    · rw [if_pos hin]; exact hW
    · rw [if_neg hin]; exact hWh i (by omega)
  · rw [if_neg hl] at hi ⊢
    by_cases hin : i = 3
    · rw [if_pos hin]; exact hW
    · rw [if_neg hin]; exact hWh (i + 1) (by omega)
theorem xh_n_le (hn : Nat) : xh_n hn ≤ 4 := by unfold xh_n; split <;> omega
theorem xh_o_lt {ho hn : Nat} (h : ho < 4) : xh_o ho hn < 4 := by unfold xh_o; split <;> omega
