/-! LAYER 2: a pattern's search, whole -/
theorem pB_le {pl : Nat} (h1 : 1 ≤ pl) (h4 : pl ≤ 4) : pB (pl - 1) ≤ 15625 := by
  rcases (show pl = 1 ∨ pl = 2 ∨ pl = 3 ∨ pl = 4 by omega) with e | e | e | e
  · rw [e]; decide
  · rw [e]; decide
  · rw [e]; decide
  · rw [e]; decide
section RUN
variable {ev : Nat → Nat × Nat × Nat} {ne p nw la : Nat} {M N M' N' : xm_M} {T : Prop} {wr : Option (Nat × Nat)} {P : xa_P}
theorem sW_pat (hne : ne ≤ 25) (hE : eW ev ne) (hP : xa_WP P) (hp : p < 4) : sW ev ne (pkk P.2 P.1.2.2.1) (pkb P.2 P.1.2.2.1) P.1.2.2.2 P.1.1 P.1.2.1 p := by
  obtain ⟨w1, w2, w3, w4, w5, w6, ⟨w7, w7'⟩, w8, w9⟩ := hP
  exact ⟨hne, hE, fun j => pkk_lt _ _ _, fun j => pkb_le w9 _ j (Nat.le_refl _), pkb_0 _ w7' _, w7, w8, w2, w3, hp⟩
theorem j_run (hne : ne ≤ 25) (hE : eW ev ne) (hP : xa_WP P) (hp : p < 4) {o : Nat} (ho : 18 ≤ o) (hL : xL ev (io (eT ev) ne) ne M) (hX : xa_XP P M o) (hM : mE ev ne (N 1)) (hMP : xa_MP P (N 1) (79 + 10 * p)) (hT : kT T nw la M N) (hR : wR wr P.1.2.2.2 0 M N) : ∃ (r : Nat) (dl : Nat → Nat) (M' N' : xm_M) (K : Nat), (∀ n, K ≤ n → f_X3_run n M o = some M') ∧ (∀ n, K ≤ n → f_X7_finds n N (nI p) = some N') ∧ r < 2 ^ 30 ∧ dR T wr P.1.2.2.2 r M' N' ∧ (∀ s, s < ne → M' 12 s = M 12 s + nI (dl s) ∧ N' 9 (pO ev ne s) = N 9 (pO ev ne s) + nI (dl s)) ∧ (∀ k, k < 8 ∨ 13 ≤ k → M' k = M k) ∧ (∀ j, j = 1 ∨ j = 2 ∨ j = 3 ∨ j = 4 → M' 8 j = M 8 j) ∧ (∀ k, (1 ≤ k ∧ k ≤ 4) ∨ 11 ≤ k → N' k = N k) ∧ (∀ j, j ≠ 10 → j ≠ 11 → j ≠ 12 → N' 0 j = N 0 j) ∧ fM N' N' := by
  have hW := sW_pat hne hE hP hp
  have p1 := hW.2.2.2.2.2.1
  have p4 := hW.2.2.2.2.2.2.1
  obtain ⟨M1, hM1⟩ : ∃ G, G = xm_up (xm_up (xm_up (xm_up (xm_up M 8 6 (nI P.1.1)) 8 7 (nI P.1.2.1)) 8 12 0) 8 13 0) 8 14 0 := ⟨_, rfl⟩
  have a1 : (∀ k, k ≠ 8 → M1 k = M k) ∧ (∀ j, j ≠ 6 → j ≠ 7 → j ≠ 12 → j ≠ 13 → j ≠ 14 → M1 8 j = M 8 j) ∧ M1 8 6 = nI P.1.1 ∧ M1 8 7 = nI P.1.2.1 ∧ M1 8 12 = 0 ∧ M1 8 13 = 0 ∧ M1 8 14 = 0 := by
    rw [hM1]
    exact ⟨fun k hk => by rw [xm_up_r _ _ hk, xm_up_r _ _ hk, xm_up_r _ _ hk, xm_up_r _ _ hk, xm_up_r _ _ hk], fun j h1 h2 h3 h4 h5 => by rw [xm_up_j _ _ h5, xm_up_j _ _ h4, xm_up_j _ _ h3, xm_up_j _ _ h2, xm_up_j _ _ h1], by rw [xm_up_j _ _ (by omega), xm_up_j _ _ (by omega), xm_up_j _ _ (by omega), xm_up_j _ _ (by omega), xm_up_s], by rw [xm_up_j _ _ (by omega), xm_up_j _ _ (by omega), xm_up_j _ _ (by omega), xm_up_s], by rw [xm_up_j _ _ (by omega), xm_up_j _ _ (by omega), xm_up_s], by rw [xm_up_j _ _ (by omega), xm_up_s], xm_up_s _ _ _ _⟩
  obtain ⟨b1, b2, b3, b4, b5, b6, b7⟩ := a1
  obtain ⟨M2, ⟨c1, c2, c3⟩, c4⟩ := x_plain (M := M1) (o := o) (by omega) (hX.fr (fun k k1 k2 => b1 k (by omega))) hP
  have sx : sX ev ne (pkk P.2 P.1.2.2.1) (pkb P.2 P.1.2.2.1) P.1.2.2.2 P.1.1 P.1.2.1 M2 := by
    have fr : ∀ k, 13 ≤ k → M2 k = M k := fun k hk => by rw [c2 k (by omega) (by omega) (by omega), b1 k (by omega)]
    refine ⟨⟨by rw [fr 13 (by omega)]; exact hL.1, fun k hk => ?_⟩, c1, by rw [c3 6 (by omega)]; exact b3, by rw [c3 7 (by omega)]; exact b4⟩
    rw [fr 14 (by omega), fr 15 (by omega), fr 16 (by omega), fr 17 (by omega)]
    exact hL.2 k hk
  obtain ⟨N1, hN1⟩ : ∃ G, G = xm_up (xm_up (xm_up N 0 10 0) 0 11 0) 0 12 0 := ⟨_, rfl⟩
  have d1 : (∀ k, k ≠ 0 → N1 k = N k) ∧ (∀ j, j ≠ 10 → j ≠ 11 → j ≠ 12 → N1 0 j = N 0 j) ∧ N1 0 10 = 0 ∧ N1 0 11 = 0 ∧ N1 0 12 = 0 := by
    rw [hN1]
    exact ⟨fun k hk => by rw [xm_up_r _ _ hk, xm_up_r _ _ hk, xm_up_r _ _ hk], fun j h1 h2 h3 => by rw [xm_up_j _ _ h3, xm_up_j _ _ h2, xm_up_j _ _ h1], by rw [xm_up_j _ _ (by omega), xm_up_j _ _ (by omega), xm_up_s], by rw [xm_up_j _ _ (by omega), xm_up_s], xm_up_s _ _ _ _⟩
  obtain ⟨d1, d2, d3, d4, d5⟩ := d1
  obtain ⟨N2, e1, e2, e3⟩ := m_order (N := N1) hne hE (by rw [d1 1 (by omega)]; exact hM)
  obtain ⟨N3, ⟨f1, f2⟩, f3⟩ := m_plain (N := N2) hp (by rw [e3 1 (by omega), d1 1 (by omega)]; exact hMP) hP
  have n1 : N3 1 = N 1 := by rw [f2 1 (by omega) (by omega), e3 1 (by omega), d1 1 (by omega)]
  have sm : sM ev ne (pkk P.2 P.1.2.2.1) (pkb P.2 P.1.2.2.1) P.1.2.2.2 P.1.1 P.1.2.1 p (xm_up N3 8 0 (-1)) := by
    refine sM.u8 ⟨by rw [n1]; exact hM, fun k hk => by rw [f2 5 (by omega) (by omega)]; exact e2 k hk, f1, by rw [n1]; exact hMP.1, by rw [n1]; exact hMP.2.1⟩ 0 (-1)
  have z0 : ∀ j, xm_up N3 8 0 (-1) 0 j = N1 0 j := fun j => by rw [xm_up_k _ _ (by omega), f2 0 (by omega) (by omega), e3 0 (by omega)]
  have zk : ∀ k, k ≠ 0 → k ≠ 5 → k ≠ 6 → k ≠ 7 → k ≠ 8 → xm_up N3 8 0 (-1) k = N k := fun k k0 k5 k6 k7 k8 => by rw [xm_up_r _ _ k8, f2 k k6 k7, e3 k k5, d1 k k0]
  have kt : kT T nw la M2 (xm_up N3 8 0 (-1)) := fun t => by
    rw [c3 1 (by omega), b2 1 (by omega) (by omega) (by omega) (by omega) (by omega), c3 2 (by omega), b2 2 (by omega) (by omega) (by omega) (by omega) (by omega), zk 1 (by omega) (by omega) (by omega) (by omega) (by omega)]
    exact hT t
  have m8 : ∀ j, j = 1 ∨ j = 2 ∨ j = 3 ∨ j = 4 ∨ j = 5 → M2 8 j = M 8 j := fun j hj => by rw [c3 j (by omega), b2 j (by omega) (by omega) (by omega) (by omega) (by omega)]
  have dr : dR T wr P.1.2.2.2 0 M2 (xm_up N3 8 0 (-1)) := by
    refine ⟨by rw [c3 12 (by omega)]; exact b5, by rw [z0]; exact d3, fun t => ⟨by rw [c3 13 (by omega), z0, b6, d4], by rw [c3 14 (by omega), z0, b7, d5]⟩, ?_⟩
    cases wr with
    | none => exact ⟨by rw [m8 3 (by omega)]; exact hR.1, by rw [z0, d2 14 (by omega) (by omega) (by omega)]; exact hR.2⟩
    | some ri =>
      obtain ⟨rk, ix⟩ := ri
      obtain ⟨q1, q2, q3, q4, q5, q6⟩ := hR
      refine ⟨by rw [m8 3 (by omega)]; exact q1, by rw [z0, d2 14 (by omega) (by omega) (by omega)]; exact q2, by rw [m8 4 (by omega)]; exact q3, q4, q5, ?_⟩
      rcases q6 with ⟨s1, s2⟩ | ⟨s1, s2⟩
      · exact Or.inl ⟨s1, by rw [m8 5 (by omega)]; exact s2⟩
      · exact absurd s1 (Nat.not_lt_zero _)
  have bound : ne * pB (P.1.2.2.2 - 1) ≤ 25 * 15625 := Nat.mul_le_mul hne (pB_le p1 p4)
  obtain ⟨r, dl, M', N', g1, ⟨K1, g2⟩, ⟨k1, g3⟩, ⟨g4, g5, g6, -, -, g7⟩⟩ := j_walk (nw := nw) (la := la) (T := T) (wr := wr) hW (P.1.2.2.2 - 1) 0 (by omega) ne 0 (by omega) M2 (xm_up N3 8 0 (-1)) (fun _ => 0) 0 sx sm kt dr (fun j hj => absurd hj (Nat.not_lt_zero j)) (by rw [xm_up_s]; decide) (fun t => absurd t (Nat.lt_irrefl 0)) (fun t => absurd t (Nat.lt_irrefl 0)) (by omega)
  refine ⟨r, dl, M', N', K1 + k1 + 2000, fun n hn => ?_, fun n hn => ?_, by omega, by rw [Nat.zero_add] at g4; exact g4, fun s hs => ?_, fun k hk => ?_, fun j hj => ?_, fun k hk => ?_, fun j j1 j2 j3 => ?_, fM.rf N'⟩
  · obtain ⟨n, rfl⟩ : ∃ q, n = q + 1 := ⟨n - 1, by omega⟩
    have gg := g2 n (by omega) 0
    change f_X3_walkFrom_S n 1 M2 0 0 0 = _ at gg
    have hm : xm_up (xm_up (xm_up (xm_up (xm_up M 8 6 (M o 0)) 8 7 (xm_up M 8 6 (M o 0) o 1)) 8 12 0) 8 13 0) 8 14 0 = M1 := by
      rw [hM1, xm_up_k _ _ (show o ≠ 8 by omega), hX.1, hX.2.1]
    unfold f_X3_run f_X3_walkFrom
    simp only [xz_lt]
    rw [hm, c4 (n + 1) (by omega), xz_b1, c1.1, if_neg (mt (xz_lec (c := 0) 0 rfl (by omega) (by omega)).mp (by omega)), f_X3_walkFrom_S, c1.1, if_neg (mt (xz_lec (c := 0) 0 rfl (by omega) (by omega)).mp (by omega)), if_pos (by decide : (0 : Int32) < 4), if_pos rfl, gg, xz_b2]
  · have hm : xm_up (xm_up (xm_up N 0 10 0) 0 11 0) 0 12 0 = N1 := hN1.symm
    have gg := g3 (n - k1) (by omega)
    rw [show n - k1 + k1 = n by omega] at gg
    change f_X7_finds_39 n (xm_up N3 8 0 (-1)) (nI p) (nI P.1.2.2.2) 0 = f_X7_finds_39 (n - k1) N' (nI p) (nI P.1.2.2.2) (0 + (-1)) at gg
    obtain ⟨m, hm2⟩ : ∃ q, n - k1 = q + 1 := ⟨n - k1 - 1, by omega⟩
    unfold f_X7_finds
    rw [m_plainN hp hMP hP (by omega), xz_b2, xz_lt, xz_lt, xz_lt, hm, e1 n (by omega), xz_b1, f3 n (by omega), xz_b1, xz_i7, xz_ct, xz_lt, xz_t0, gg, hm2, f_X7_finds_39, if_pos (by decide)]
  · obtain ⟨s1, s2⟩ := g7 s hs
    refine ⟨by rw [s1, c2 12 (by omega) (by omega) (by omega), b1 12 (by omega)], ?_⟩
    rw [s2, zk 9 (by omega) (by omega) (by omega) (by omega) (by omega)]
    rfl
  · rw [g5.1 k (by omega) (by omega) (by omega), c2 k (by omega) (by omega) (by omega), b1 k (by omega)]
  · rw [g5.2 j (by omega) (by omega) (by omega) (by omega), m8 j (by omega)]
  · rw [g6.1 k (by omega) (by omega) (by omega) (by omega), zk k (by omega) (by omega) (by omega) (by omega) (by omega)]
  · rw [g6.2 j j1 j2 j3, z0, d2 j j1 j2 j3]
/-- begin -/
theorem x_wm {n : Nat} (h4 : M 18 4 = nI nw) (h5 : M 18 5 = nI la) (w1 : nw ≤ 9999) (w2 : la ≤ 500) : f_X4_watermark n M 18 = some (nI (nw - la), M) := by
  unfold f_X4_watermark
  rw [h4, h5]
  by_cases g : la < nw
  · rw [if_pos ((xz_s0 (by omega) (by omega)).mpr g), pk_sub (by omega)]
  · rw [if_neg (mt (xz_s0 (by omega) (by omega)).mp g), show nw - la = 0 by omega]
    rfl
theorem x_begin (hne : ne ≤ 24) (hE : eW ev ne) (h0 : M 18 0 = nI ne) (h4 : M 18 4 = nI nw) (h5 : M 18 5 = nI la) (w1 : nw ≤ 9999) (w2 : la ≤ 500) (hev : ∀ e, e < ne → M (18 + 1) e = nI (97 + (ev e).1) ∧ M (18 + 2) e = nI (ev e).2.1 ∧ M (18 + 3) e = nI (ev e).2.2) : ∃ M', (∀ n, 200 < n → f_X3_begin n M 18 = some M') ∧ xL ev (io (eT ev) ne) ne M' ∧ M' 8 1 = nI nw ∧ M' 8 2 = nI (nw - la) ∧ M' 8 3 = -1 ∧ M' 8 5 = -5 ∧ (∀ s, s < 25 → M' 12 s = 0) ∧ ∀ k, k < 8 ∨ 18 ≤ k → M' k = M k := by
  obtain ⟨M1, ⟨c1, c2⟩, c3⟩ := x_fill (s := 18) (M := M) (by omega) hne hE h0 hev
  obtain ⟨M2, hM2⟩ : ∃ G, G = xm_up (xm_up (xm_up (xm_up M1 8 1 (nI nw)) 8 2 (nI (nw - la))) 8 3 (-1)) 8 5 (-5) := ⟨_, rfl⟩
  have a1 : (∀ k, k ≠ 8 → M2 k = M1 k) ∧ M2 8 1 = nI nw ∧ M2 8 2 = nI (nw - la) ∧ M2 8 3 = -1 ∧ M2 8 5 = -5 := by
    rw [hM2]
    exact ⟨fun k hk => by rw [xm_up_r _ _ hk, xm_up_r _ _ hk, xm_up_r _ _ hk, xm_up_r _ _ hk], by rw [xm_up_j _ _ (by omega), xm_up_j _ _ (by omega), xm_up_j _ _ (by omega), xm_up_s], by rw [xm_up_j _ _ (by omega), xm_up_j _ _ (by omega), xm_up_s], by rw [xm_up_j _ _ (by omega), xm_up_s], xm_up_s _ _ _ _⟩
  obtain ⟨b1, b2, b3, b4, b5⟩ := a1
  obtain ⟨M3, ⟨d1, d2⟩, d3⟩ := xz_forU (fun n M i => f_X3_begin_37 n M (nI i)) 25 0 (fun i M3 => (∀ k, k ≠ 12 → M3 k = M2 k) ∧ ∀ s, s < i → M3 12 s = 0) (fun M3 => (∀ k, k ≠ 12 → M3 k = M2 k) ∧ ∀ s, s < 25 → M3 12 s = 0) (by
    intro M3 hI
    refine ⟨M3, hI, fun n _ => ?_⟩
    show f_X3_begin_37 (n + 1) M3 (nI 25) = _
    rw [f_X3_begin_37]
    exact if_pos (by decide)) (by
    intro i M3 hi hI
    refine ⟨xm_up M3 12 i 0, ⟨fun k hk => by rw [xm_up_r _ _ hk]; exact hI.1 k hk, fun s hs => ?_⟩, fun n _ => ?_⟩
    · by_cases e : s = i
      · rw [e, xm_up_s]
      · rw [xm_up_j _ _ e]; exact hI.2 s (by omega)
    · show f_X3_begin_37 (n + 1) M3 (nI i) = f_X3_begin_37 n _ (nI (i + 1))
      rw [f_X3_begin_37, if_neg (mt (xz_cle (c := 25) 25 rfl (by omega) (by omega)).mp (by omega)), xz_ci (show i < 25 by omega) (by omega), xz_lt, xz_cl (by omega), nI_1]) 25 0 M2 (by omega) ⟨fun _ _ => rfl, fun s hs => absurd hs (Nat.not_lt_zero s)⟩
  refine ⟨M3, fun n hn => ?_, ⟨?_, fun k hk => ?_⟩, by rw [d1 8 (by omega)]; exact b2, by rw [d1 8 (by omega)]; exact b3, by rw [d1 8 (by omega)]; exact b4, by rw [d1 8 (by omega)]; exact b5, d2, fun k hk => by rw [d1 k (by omega), b1 k (by omega), c2 k (by omega)]⟩
  · have e4 : M1 18 4 = nI nw := by rw [c2 18 (by omega)]; exact h4
    have wm : f_X4_watermark n (xm_up M1 8 1 (nI nw)) 18 = some (nI (nw - la), xm_up M1 8 1 (nI nw)) := x_wm (by rw [xm_up_k _ _ (by omega)]; exact e4) (by rw [xm_up_k _ _ (by omega), c2 18 (by omega)]; exact h5) w1 w2
    unfold f_X3_begin
    rw [c3 n (by omega), xz_b1, xz_lt, e4, wm, xz_b2, xz_lt, xz_lt, xz_lt, ← hM2]
    exact d3 n (by omega)
  · rw [d1 13 (by omega), b1 13 (by omega)]; exact c1.1
  · rw [d1 14 (by omega), b1 14 (by omega), d1 15 (by omega), b1 15 (by omega), d1 16 (by omega), b1 16 (by omega), d1 17 (by omega), b1 17 (by omega)]
    exact c1.2 k hk
end RUN
