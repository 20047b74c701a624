/-! LAYER 2: what a state is, on either side; copies -/
abbrev xa_P : Type := (Nat × Nat × Nat × Nat) × (Nat → Nat)
abbrev xa_S : Type := (Nat × Nat × Nat × Nat) × (Nat → Nat × Nat × Nat) × (Nat → xa_P)
/-- a pattern: window, rule, steps, plain steps; the steps' codes: the kind, and 8 more if it is absent -/
def xa_XP (P : xa_P) (M : xm_M) (p : Nat) : Prop := M p 0 = nI P.1.1 ∧ M p 1 = nI P.1.2.1 ∧ M p 2 = nI P.1.2.2.1 ∧ M p 3 = nI P.1.2.2.2 ∧ ∀ i, i < P.1.2.2.1 → M (p + 1) i = nI (97 + P.2 i % 8) ∧ M (p + 2) i = nI (P.2 i / 8)
def xa_MP (P : xa_P) (g : Nat → Int32) (o : Nat) : Prop := g o = nI P.1.1 ∧ g (o + 1) = nI P.1.2.1 ∧ g (o + 2) = nI P.1.2.2.1 ∧ ∀ i, i < P.1.2.2.1 → g (o + 3 + i) = nI (P.2 i)
def xa_ct (c : Nat → Nat) : Nat → Nat
  | 0 => 0
  | i + 1 => xa_ct c i + (if c i < 8 then 1 else 0)
def xa_WP (P : xa_P) : Prop := 1 ≤ P.1.1 ∧ P.1.1 ≤ 1000 ∧ P.1.2.1 ≤ 2 ∧ 2 ≤ P.1.2.2.1 ∧ P.1.2.2.1 ≤ 7 ∧ P.1.2.2.2 = xa_ct P.2 P.1.2.2.1 ∧ (1 ≤ P.1.2.2.2 ∧ P.2 0 < 8) ∧ P.1.2.2.2 ≤ 4 ∧ ∀ i, i < P.1.2.2.1 → P.2 i < 16
/-- a state: how many events, the newest time, the lateness, how many patterns; the events (kind, value, time), the patterns -/
def xa_XS (A : xa_S) (M : xm_M) (s : Nat) : Prop := M s 0 = nI A.1.1 ∧ M s 4 = nI A.1.2.1 ∧ M s 5 = nI A.1.2.2.1 ∧ M s 6 = nI A.1.2.2.2 ∧ (∀ i, i < A.1.1 → M (s + 1) i = nI (97 + (A.2.1 i).1) ∧ M (s + 2) i = nI (A.2.1 i).2.1 ∧ M (s + 3) i = nI (A.2.1 i).2.2) ∧ ∀ j, j < A.1.2.2.2 → xa_XP (A.2.2 j) M (s + 5 + 3 * j)
def xa_MS (A : xa_S) (g : Nat → Int32) (o : Nat) : Prop := g o = nI A.1.1 ∧ g (o + 1) = nI A.1.2.1 ∧ g (o + 2) = nI A.1.2.2.1 ∧ g (o + 3) = nI A.1.2.2.2 ∧ (∀ i, i < A.1.1 → g (o + 4 + 3 * i) = nI (A.2.1 i).1 ∧ g (o + 4 + 3 * i + 1) = nI (A.2.1 i).2.1 ∧ g (o + 4 + 3 * i + 2) = nI (A.2.1 i).2.2) ∧ ∀ j, j < A.1.2.2.2 → xa_MP (A.2.2 j) g (o + 79 + 10 * j)
def xa_WS (A : xa_S) : Prop := A.1.1 ≤ 24 ∧ A.1.2.1 ≤ 9999 ∧ A.1.2.2.1 ≤ 500 ∧ A.1.2.2.2 ≤ 4 ∧ (∀ i, i < A.1.1 → (A.2.1 i).1 < 8 ∧ (A.2.1 i).2.1 ≤ 99 ∧ (A.2.1 i).2.2 ≤ 9999) ∧ ∀ j, j < A.1.2.2.2 → xa_WP (A.2.2 j)
theorem xa_XP.fr {P : xa_P} {M M' : xm_M} {p : Nat} (h : xa_XP P M p) (hk : ∀ k, p ≤ k → k < p + 3 → M' k = M k) : xa_XP P M' p := by
  obtain ⟨h0, h1, h2, h3, h4⟩ := h
  have e0 := hk p (by omega) (by omega)
  have e1 := hk (p + 1) (by omega) (by omega)
  have e2 := hk (p + 2) (by omega) (by omega)
  refine ⟨by rw [e0]; exact h0, by rw [e0]; exact h1, by rw [e0]; exact h2, by rw [e0]; exact h3, fun i hi => ?_⟩
  rw [e1, e2]
  exact h4 i hi
theorem xa_XS.fr {A : xa_S} {M M' : xm_M} {s : Nat} (hn : A.1.2.2.2 ≤ 4) (h : xa_XS A M s) (hk : ∀ k, s ≤ k → k < s + 17 → M' k = M k) : xa_XS A M' s := by
  obtain ⟨h0, h1, h2, h3, h4, h5⟩ := h
  have e0 := hk s (by omega) (by omega)
  have e1 := hk (s + 1) (by omega) (by omega)
  have e2 := hk (s + 2) (by omega) (by omega)
  have e3 := hk (s + 3) (by omega) (by omega)
  refine ⟨by rw [e0]; exact h0, by rw [e0]; exact h1, by rw [e0]; exact h2, by rw [e0]; exact h3, fun i hi => ?_, fun j hj => (h5 j hj).fr (fun k k1 k2 => hk k (by omega) (by omega))⟩
  rw [e1, e2, e3]
  exact h4 i hi
theorem xa_MP.fr {P : xa_P} {g g' : Nat → Int32} {o o' : Nat} (hW : xa_WP P) (h : xa_MP P g o) (hk : ∀ k, k < 10 → g' (o' + k) = g (o + k)) : xa_MP P g' o' := by
  obtain ⟨h0, h1, h2, h3⟩ := h
  have hs := hW.2.2.2.2.1
  refine ⟨(hk 0 (by omega)).trans h0, (hk 1 (by omega)).trans h1, (hk 2 (by omega)).trans h2, fun i hi => ?_⟩
  have := hk (3 + i) (by omega)
  rw [show o' + 3 + i = o' + (3 + i) by omega, this, show o + (3 + i) = o + 3 + i by omega]
  exact h3 i hi
theorem xa_MS.fr {A : xa_S} {g g' : Nat → Int32} {o o' : Nat} (hW : xa_WS A) (h : xa_MS A g o) (hk : ∀ k, k < 119 → g' (o' + k) = g (o + k)) : xa_MS A g' o' := by
  obtain ⟨h0, h1, h2, h3, h4, h5⟩ := h
  obtain ⟨w0, -, -, w3, w4, w5⟩ := hW
  refine ⟨(hk 0 (by omega)).trans h0, (hk 1 (by omega)).trans h1, (hk 2 (by omega)).trans h2, (hk 3 (by omega)).trans h3, fun i hi => ?_, fun j hj => (h5 j hj).fr (w5 j hj) (fun k hk9 => ?_)⟩
  · obtain ⟨a, b, c⟩ := h4 i hi
    refine ⟨?_, ?_, ?_⟩
    · rw [show o' + 4 + 3 * i = o' + (4 + 3 * i) by omega, hk _ (by omega), show o + (4 + 3 * i) = o + 4 + 3 * i by omega]
      exact a
    · rw [show o' + 4 + 3 * i + 1 = o' + (4 + 3 * i + 1) by omega, hk _ (by omega), show o + (4 + 3 * i + 1) = o + 4 + 3 * i + 1 by omega]
      exact b
    · rw [show o' + 4 + 3 * i + 2 = o' + (4 + 3 * i + 2) by omega, hk _ (by omega), show o + (4 + 3 * i + 2) = o + 4 + 3 * i + 2 by omega]
      exact c
  · rw [show o' + 79 + 10 * j + k = o' + (79 + 10 * j + k) by omega, hk _ (by omega), show o + (79 + 10 * j + k) = o + 79 + 10 * j + k by omega]
/-- Pattern.copyFrom -/
theorem xp_copyP {M : xm_M} {o0 o1 : Nat} (hd : o0 + 3 ≤ o1 ∨ o1 + 3 ≤ o0) {P : xa_P} (hP : xa_XP P M o1) (hW : xa_WP P) {n : Nat} (hn : 10 < n) : ∃ M', f_X2_copyFrom n M o0 o1 = some M' ∧ xa_XP P M' o0 ∧ ∀ k, ¬ (o0 ≤ k ∧ k < o0 + 3) → M' k = M k := by
  obtain ⟨h0, h1, h2, h3, h4⟩ := hP
  have hst := hW.2.2.2.2.1
  have hcd := hW.2.2.2.2.2.2.2.2
  unfold f_X2_copyFrom
  simp only [xz_lt]
  have q : o1 ≠ o0 ∧ o1 ≠ o0 + 1 ∧ o1 ≠ o0 + 2 ∧ o1 + 1 ≠ o0 ∧ o1 + 1 ≠ o0 + 1 ∧ o1 + 1 ≠ o0 + 2 ∧ o1 + 2 ≠ o0 ∧ o1 + 2 ≠ o0 + 1 ∧ o1 + 2 ≠ o0 + 2 := by omega
  obtain ⟨q1, q2, q3, q4, q5, q6, q7, q8, q9⟩ := q
  generalize hM1 : xm_up (xm_up (xm_up (xm_up M o0 0 (M o1 0)) o0 1 (xm_up M o0 0 (M o1 0) o1 1)) o0 2 (xm_up (xm_up M o0 0 (M o1 0)) o0 1 (xm_up M o0 0 (M o1 0) o1 1) o1 2)) o0 3 (xm_up (xm_up (xm_up M o0 0 (M o1 0)) o0 1 (xm_up M o0 0 (M o1 0) o1 1)) o0 2 (xm_up (xm_up M o0 0 (M o1 0)) o0 1 (xm_up M o0 0 (M o1 0) o1 1) o1 2) o1 3) = M1
  have f1 : ∀ k, k ≠ o0 → M1 k = M k := fun k hk => by rw [← hM1, xm_up_r _ _ hk, xm_up_r _ _ hk, xm_up_r _ _ hk, xm_up_r _ _ hk]
  have v0 : M1 o0 0 = nI P.1.1 := by
    rw [← hM1, xm_up_j _ _ (by omega), xm_up_j _ _ (by omega), xm_up_j _ _ (by omega), xm_up_s]
    exact h0
  have v1 : M1 o0 1 = nI P.1.2.1 := by
    rw [← hM1, xm_up_j _ _ (by omega), xm_up_j _ _ (by omega), xm_up_s, xm_up_k _ _ q1]
    exact h1
  have v2 : M1 o0 2 = nI P.1.2.2.1 := by
    rw [← hM1, xm_up_j _ _ (by omega), xm_up_s, xm_up_k _ _ q1, xm_up_k _ _ q1]
    exact h2
  have v3 : M1 o0 3 = nI P.1.2.2.2 := by
    rw [← hM1, xm_up_s, xm_up_k _ _ q1, xm_up_k _ _ q1, xm_up_k _ _ q1]
    exact h3
  refine xz_for (fun n M i => f_X2_copyFrom_34 n M o0 o1 (nI i)) 8 0 (fun i M2 => (∀ k, k ≠ o0 + 1 → k ≠ o0 + 2 → M2 k = M1 k) ∧ ∀ j, j < i → j < P.1.2.2.1 → M2 (o0 + 1) j = nI (97 + P.2 j % 8) ∧ M2 (o0 + 2) j = nI (P.2 j / 8)) _ ?_ ?_ n 0 M1 (by omega) (by omega) ⟨fun _ _ _ => rfl, fun j hj => by omega⟩
  · intro n M2 _ hI
    refine ⟨M2, ?_, ?_, ?_⟩
    · show f_X2_copyFrom_34 (n + 1) M2 o0 o1 (nI 8) = _
      rw [f_X2_copyFrom_34]
      exact if_pos (by decide)
    · have e0 := hI.1 o0 (by omega) (by omega)
      exact ⟨by rw [e0]; exact v0, by rw [e0]; exact v1, by rw [e0]; exact v2, by rw [e0]; exact v3, fun i hi => hI.2 i (by omega) hi⟩
    · intro k hk
      rw [hI.1 k (by omega) (by omega), f1 k (by omega)]
  · intro n i M2 _ hi hI
    refine ⟨xm_up (xm_up M2 (o0 + 1) i (vp_nar .char (M2 (o1 + 1) i))) (o0 + 2) i (vp_nar .boolean (M2 (o1 + 2) i)), ⟨fun k k1 k2 => ?_, fun j hj hjs => ?_⟩, ?_⟩
    · rw [xm_up_r _ _ k2, xm_up_r _ _ k1]
      exact hI.1 k k1 k2
    · by_cases hji : j = i
      · subst hji
        obtain ⟨a1, a2⟩ := h4 j hjs
        have b1 := hcd j hjs
        rw [xm_up_k _ _ (show o0 + 1 ≠ o0 + 2 by omega), xm_up_s, xm_up_s, hI.1 (o1 + 1) q5 q6, hI.1 (o1 + 2) q8 q9, f1 _ q4, f1 _ q7, a1, a2, xz_nc (by omega), xz_nz _ (by omega)]
        exact ⟨rfl, rfl⟩
      · rw [xm_up_k _ _ (show o0 + 1 ≠ o0 + 2 by omega), xm_up_j _ _ hji, xm_up_j _ _ hji, xm_up_k _ _ (show o0 + 2 ≠ o0 + 1 by omega)]
        exact hI.2 j (by omega) hjs
    · show f_X2_copyFrom_34 (n + 1) M2 o0 o1 (nI i) = f_X2_copyFrom_34 n _ o0 o1 (nI (i + 1))
      rw [f_X2_copyFrom_34, if_neg (mt (xz_cle (c := 8) 8 rfl (by omega) (by omega)).mp (by omega))]
      simp only [xz_ci hi (show 8 ≤ 1000 by omega), xz_lt, xz_cl (show i < 2 ^ 31 by omega), nI_1]
      rw [xm_up_k _ _ (show o1 + 2 ≠ o0 + 1 by omega)]
/-- State.copyFrom -/
theorem xp_copyS {M : xm_M} {s o : Nat} (hd : s + 17 ≤ o ∨ o + 17 ≤ s) {A : xa_S} (hA : xa_XS A M o) (hW : xa_WS A) {n : Nat} (hn : 60 < n) : ∃ M', f_X4_copyFrom n M s o = some M' ∧ xa_XS A M' s ∧ ∀ k, ¬ (s ≤ k ∧ k < s + 17) → M' k = M k := by
  have hA9 := hA
  obtain ⟨h0, h1, h2, h3, h4, h5⟩ := hA
  obtain ⟨w0, w1, w2, w3, w4, w5⟩ := hW
  unfold f_X4_copyFrom
  simp only [xz_lt]
  have fr0 : ∀ {M2 : xm_M}, (∀ k, ¬ (s ≤ k ∧ k < s + 17) → M2 k = M k) → xa_XS A M2 o := fun h => hA9.fr w3 (fun k k1 k2 => h k (by omega))
  refine xz_for (fun n M i => f_X4_copyFrom_10 n M s o (nI i)) A.1.1 20 (fun i M2 => (∀ k, ¬ (s ≤ k ∧ k < s + 17) → M2 k = M k) ∧ M2 s 0 = nI A.1.1 ∧ ∀ j, j < i → M2 (s + 1) j = nI (97 + (A.2.1 j).1) ∧ M2 (s + 2) j = nI (A.2.1 j).2.1 ∧ M2 (s + 3) j = nI (A.2.1 j).2.2) _ ?_ ?_ n 0 _ (by omega) (by omega) ⟨fun k hk => by rw [xm_up_r _ _ (by omega)], by rw [xm_up_s]; exact h0, fun j hj => by omega⟩
  · intro n M2 hK hI
    obtain ⟨i1, i2, i3⟩ := hI
    obtain ⟨a0, a1, a2, a3, a4, a5⟩ := fr0 i1
    have q1 : o ≠ s := by omega
    have e : f_X4_copyFrom_10 (n + 1) M2 s o (nI A.1.1) = f_X4_copyFrom_86 n (xm_up (xm_up (xm_up M2 s 4 (M2 o 4)) s 5 (M2 o 5)) s 6 (M2 o 6)) s o (nI 0) := by
      rw [f_X4_copyFrom_10, if_pos (by rw [a0, xz_le (by omega) (by omega)]; omega)]
      simp only [xz_lt]
      rw [xm_up_k _ _ q1, xm_up_k _ _ q1, xm_up_k _ _ q1]
      rfl
    show ∃ r, f_X4_copyFrom_10 (n + 1) M2 s o (nI A.1.1) = some r ∧ _
    rw [e]
    refine xz_for (fun n M i => f_X4_copyFrom_86 n M s o (nI i)) A.1.2.2.2 11 (fun i M3 => (∀ k, ¬ (s ≤ k ∧ k < s + 17) → M3 k = M k) ∧ (M3 s 0 = nI A.1.1 ∧ M3 s 4 = nI A.1.2.1 ∧ M3 s 5 = nI A.1.2.2.1 ∧ M3 s 6 = nI A.1.2.2.2) ∧ (∀ j, j < A.1.1 → M3 (s + 1) j = nI (97 + (A.2.1 j).1) ∧ M3 (s + 2) j = nI (A.2.1 j).2.1 ∧ M3 (s + 3) j = nI (A.2.1 j).2.2) ∧ ∀ j, j < i → xa_XP (A.2.2 j) M3 (s + 5 + 3 * j)) _ ?_ ?_ n 0 _ (by omega) (by omega) ?_
    · intro n M3 _ hJ
      obtain ⟨j1, ⟨j2, j3, j4, j5⟩, j6, j7⟩ := hJ
      obtain ⟨b0, b1, b2, b3, b4, b5⟩ := fr0 j1
      refine ⟨M3, ?_, ⟨j2, j3, j4, j5, j6, j7⟩, j1⟩
      show f_X4_copyFrom_86 (n + 1) M3 s o (nI A.1.2.2.2) = _
      rw [f_X4_copyFrom_86, if_pos (by rw [b3, xz_le (by omega) (by omega)]; omega)]
    · intro n i M3 hK2 hi hJ
      obtain ⟨j1, ⟨j2, j3, j4, j5⟩, j6, j7⟩ := hJ
      obtain ⟨b0, b1, b2, b3, b4, b5⟩ := fr0 j1
      obtain ⟨M4, c1, c2, c3⟩ := xp_copyP (o0 := s + 5 + 3 * i) (o1 := o + 5 + 3 * i) (M := M3) (by omega) (b5 i hi) (w5 i hi) (n := n) (by omega)
      refine ⟨M4, ⟨fun k hk => ?_, ⟨?_, ?_, ?_, ?_⟩, fun j hj => ?_, fun j hj => ?_⟩, ?_⟩
      · rw [c3 k (by omega)]
        exact j1 k hk
      · rw [c3 s (by omega)]; exact j2
      · rw [c3 s (by omega)]; exact j3
      · rw [c3 s (by omega)]; exact j4
      · rw [c3 s (by omega)]; exact j5
      · rw [c3 (s + 1) (by omega), c3 (s + 2) (by omega), c3 (s + 3) (by omega)]
        exact j6 j hj
      · by_cases hji : j = i
        · subst hji
          exact c2
        · exact (j7 j (by omega)).fr (fun k k1 k2 => c3 k (by omega))
      · show f_X4_copyFrom_86 (n + 1) M3 s o (nI i) = f_X4_copyFrom_86 n M4 s o (nI (i + 1))
        rw [f_X4_copyFrom_86, if_neg (by rw [b3, xz_le (by omega) (by omega)]; omega)]
        simp only [xz_ci (show i < 4 by omega) (show 4 ≤ 1000 by omega), xz_cl (show i < 2 ^ 31 by omega), nI_1]
        rw [c1, xz_b1]
    · refine ⟨fun k hk => ?_, ⟨?_, ?_, ?_, ?_⟩, fun j hj => ?_, fun j hj => by omega⟩
      · rw [xm_up_r _ _ (by omega), xm_up_r _ _ (by omega), xm_up_r _ _ (by omega)]
        exact i1 k hk
      · rw [xm_up_j _ _ (by omega), xm_up_j _ _ (by omega), xm_up_j _ _ (by omega)]
        exact i2
      · rw [xm_up_j _ _ (by omega), xm_up_j _ _ (by omega), xm_up_s]
        exact a1
      · rw [xm_up_j _ _ (by omega), xm_up_s]
        exact a2
      · rw [xm_up_s]
        exact a3
      · rw [xm_up_r _ _ (by omega), xm_up_r _ _ (by omega), xm_up_r _ _ (by omega), xm_up_r _ _ (by omega), xm_up_r _ _ (by omega), xm_up_r _ _ (by omega), xm_up_r _ _ (by omega), xm_up_r _ _ (by omega), xm_up_r _ _ (by omega)]
        exact i3 j hj
  · intro n i M2 _ hi hI
    obtain ⟨i1, i2, i3⟩ := hI
    obtain ⟨a0, a1, a2, a3, a4, a5⟩ := fr0 i1
    obtain ⟨x1, x2, x3⟩ := a4 i hi
    obtain ⟨y1, y2, y3⟩ := w4 i hi
    refine ⟨xm_up (xm_up (xm_up M2 (s + 1) i (nI (97 + (A.2.1 i).1))) (s + 2) i (nI (A.2.1 i).2.1)) (s + 3) i (nI (A.2.1 i).2.2), ⟨fun k hk => ?_, ?_, fun j hj => ?_⟩, ?_⟩
    · rw [xm_up_r _ _ (by omega), xm_up_r _ _ (by omega), xm_up_r _ _ (by omega)]
      exact i1 k hk
    · rw [xm_up_r _ _ (by omega), xm_up_r _ _ (by omega), xm_up_r _ _ (by omega)]
      exact i2
    · by_cases hji : j = i
      · subst hji
        rw [xm_up_k _ _ (by omega), xm_up_k _ _ (by omega), xm_up_s, xm_up_k _ _ (by omega), xm_up_s, xm_up_s]
        exact ⟨rfl, rfl, rfl⟩
      · rw [xm_up_j _ _ hji, xm_up_j _ _ hji, xm_up_j _ _ hji, xm_up_j _ _ hji, xm_up_j _ _ hji, xm_up_j _ _ hji, xm_up_j _ _ hji, xm_up_j _ _ hji, xm_up_j _ _ hji]
        exact i3 j (by omega)
    · show f_X4_copyFrom_10 (n + 1) M2 s o (nI i) = f_X4_copyFrom_10 n _ s o (nI (i + 1))
      rw [f_X4_copyFrom_10, if_neg (by rw [a0, xz_le (by omega) (by omega)]; omega)]
      simp only [xz_ci (show i < 24 by omega) (show 24 ≤ 1000 by omega), xz_lt, xz_cl (show i < 2 ^ 31 by omega), nI_1]
      rw [x1, xz_nc (by omega), xm_up_k _ _ (by omega), x2, xm_up_k _ _ (by omega), xm_up_k _ _ (by omega), x3]
