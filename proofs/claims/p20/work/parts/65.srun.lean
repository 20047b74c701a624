/-! LAYER 2: a pattern's search and that of all patterns -/
def PL (ev : Nat → Nat × Nat × Nat) (ne : Nat) (P : xa_P) : sG := sL ev ne (pkk P.2 P.1.2.2.1) (pkb P.2 P.1.2.2.1) P.1.1 P.1.2.1 (P.1.2.2.2 - 1) 0 (fun _ => 0) ne 0
def allM (ev : Nat → Nat × Nat × Nat) (ne : Nat) (Ps : Nat → xa_P) : Nat → Nat
  | 0 => 0
  | j + 1 => allM ev ne Ps j + nM (PL ev ne (Ps j))
def allS (ev : Nat → Nat × Nat × Nat) (ne : Nat) (Ps : Nat → xa_P) (s : Nat) : Nat → Nat
  | 0 => 0
  | j + 1 => allS ev ne Ps s j + sh s (Ps j).1.2.2.2 0 (PL ev ne (Ps j))
theorem LB_le {pl : Nat} (h4 : pl ≤ 4) : LB (pl - 1) ≤ 16276 := by
  rcases (show pl = 0 ∨ pl = 1 ∨ pl = 2 ∨ pl = 3 ∨ pl = 4 by omega) with e | e | e | e | e <;> rw [e] <;> decide
section RUN
variable {ev : Nat → Nat × Nat × Nat} {ne nw wm : Nat} {M M' : xm_M} {wr : Option (Nat × Nat)} {P : xa_P}
theorem PL_len (hne : ne ≤ 25) (hP : xa_WP P) : (PL ev ne P).length ≤ 406900 := by
  have h4 := hP.2.2.2.2.2.2.2.1
  have hc := s_child_len (wn := wnP ev ne P.1.1) (su := suP ev ne (pkk P.2 P.1.2.2.1) P.1.2.1) (ba := baP ev ne (pkb P.2 P.1.2.2.1)) hne (P.1.2.2.2 - 1) 0
  have h := s_loop_len (wn := wnP ev ne P.1.1) (su := suP ev ne (pkk P.2 P.1.2.2.1) P.1.2.1) (ba := baP ev ne (pkb P.2 P.1.2.2.1)) (d := 0) (at0 := fun _ => 0) hc ne 0
  have h2 := LB_le h4
  have h3 : ne * LB (P.1.2.2.2 - 1) ≤ 25 * 16276 := Nat.mul_le_mul hne h2
  show (s_loop _ _ _ _ _ _ _ _).length ≤ _
  exact Nat.le_trans h h3
theorem s_run (hne : ne ≤ 25) (hE : eW ev ne) (hP : xa_WP P) {o : Nat} (ho : 18 ≤ o) (hL : xL ev (io (eT ev) ne) ne M) (hX : xa_XP P M o) (h1 : M 8 1 = nI nw) (h2 : M 8 2 = nI wm) (hnw : nw ≤ 9999) (hwm : wm ≤ 9999) (hR : s_wr (pO ev ne) P.1.2.2.2 wr [] M) : ∃ M', (∀ n, 200 < n → f_X3_run n M o = some M') ∧ dL (pO ev ne) (pTm ev ne) P.1.2.2.2 P.1.1 nw wm wr (PL ev ne P) M' ∧ (∀ s, s < ne → M' 12 s = M 12 s + nI (sh s P.1.2.2.2 0 (PL ev ne P))) ∧ (∀ k, k < 8 ∨ 13 ≤ k → M' k = M k) ∧ ∀ j, j = 1 ∨ j = 2 ∨ j = 3 ∨ j = 4 → M' 8 j = M 8 j := by
  have hW := sW_pat hne hE hP (p := 0) (by omega)
  have p1 := hW.2.2.2.2.2.1
  have p4 := hW.2.2.2.2.2.2.1
  obtain ⟨M1, hM1⟩ : ∃ G, G = xm_up (xm_up (xm_up (xm_up (xm_up M 8 6 (nI P.1.1)) 8 7 (nI P.1.2.1)) 8 12 0) 8 13 0) 8 14 0 := ⟨_, rfl⟩
  have a1 : (∀ k, k ≠ 8 → M1 k = M k) ∧ (∀ j, j ≠ 6 → j ≠ 7 → j ≠ 12 → j ≠ 13 → j ≠ 14 → M1 8 j = M 8 j) ∧ M1 8 6 = nI P.1.1 ∧ M1 8 7 = nI P.1.2.1 ∧ M1 8 12 = 0 ∧ M1 8 13 = 0 ∧ M1 8 14 = 0 := by
    rw [hM1]
    exact ⟨fun k hk => by rw [xm_up_r _ _ hk, xm_up_r _ _ hk, xm_up_r _ _ hk, xm_up_r _ _ hk, xm_up_r _ _ hk], fun j h1 h2 h3 h4 h5 => by rw [xm_up_j _ _ h5, xm_up_j _ _ h4, xm_up_j _ _ h3, xm_up_j _ _ h2, xm_up_j _ _ h1], by rw [xm_up_j _ _ (by omega), xm_up_j _ _ (by omega), xm_up_j _ _ (by omega), xm_up_j _ _ (by omega), xm_up_s], by rw [xm_up_j _ _ (by omega), xm_up_j _ _ (by omega), xm_up_j _ _ (by omega), xm_up_s], by rw [xm_up_j _ _ (by omega), xm_up_j _ _ (by omega), xm_up_s], by rw [xm_up_j _ _ (by omega), xm_up_s], xm_up_s _ _ _ _⟩
  obtain ⟨b1, b2, b3, b4, b5, b6, b7⟩ := a1
  obtain ⟨M2, ⟨c1, c2, c3⟩, c4⟩ := x_plain (M := M1) (o := o) (by omega) (hX.fr (fun k k1 k2 => b1 k (by omega))) hP
  have sx : sX ev ne (pkk P.2 P.1.2.2.1) (pkb P.2 P.1.2.2.1) P.1.2.2.2 P.1.1 P.1.2.1 M2 := by
    have fr : ∀ k, 13 ≤ k → M2 k = M k := fun k hk => by rw [c2 k (by omega) (by omega) (by omega), b1 k (by omega)]
    refine ⟨⟨by rw [fr 13 (by omega)]; exact hL.1, fun k hk => ?_⟩, c1, by rw [c3 6 (by omega)]; exact b3, by rw [c3 7 (by omega)]; exact b4⟩
    rw [fr 14 (by omega), fr 15 (by omega), fr 16 (by omega), fr 17 (by omega)]
    exact hL.2 k hk
  have m8 : ∀ j, j = 1 ∨ j = 2 ∨ j = 3 ∨ j = 4 ∨ j = 5 → M2 8 j = M 8 j := fun j hj => by rw [c3 j (by omega), b2 j (by omega) (by omega) (by omega) (by omega) (by omega)]
  have dr : dL (pO ev ne) (pTm ev ne) P.1.2.2.2 P.1.1 nw wm wr [] M2 := by
    refine ⟨by rw [c3 12 (by omega)]; exact b5, by rw [c3 13 (by omega)]; exact b6, by rw [c3 14 (by omega)]; exact b7, ?_⟩
    cases wr with
    | none => show M2 8 3 = -1; rw [m8 3 (by omega)]; exact hR
    | some ri =>
      obtain ⟨q1, q2, q3, q4, q5⟩ := hR
      exact ⟨by rw [m8 3 (by omega)]; exact q1, by rw [m8 4 (by omega)]; exact q2, q3, q4, by rw [m8 5 (by omega)]; exact q5⟩
  have bound : ne * LB (P.1.2.2.2 - 1) ≤ 25 * 16276 := Nat.mul_le_mul hne (LB_le p4)
  obtain ⟨M', g2, g3, g4, -, g6⟩ := s_go (nw := nw) (wm := wm) (wr := wr) hW hnw hwm (P.1.2.2.2 - 1) 0 (by omega) ne 0 (by omega) M2 (fun _ => 0) [] sx (by rw [m8 1 (by omega)]; exact h1) (by rw [m8 2 (by omega)]; exact h2) dr (fun j hj => absurd hj (Nat.not_lt_zero j)) (by show 0 + _ < _; omega)
  refine ⟨M', fun n hn => ?_, g3, fun s hs => ?_, fun k hk => ?_, fun j hj => ?_⟩
  · obtain ⟨n, rfl⟩ : ∃ q, n = q + 1 := ⟨n - 1, by omega⟩
    have gg := g2 n (by omega) 0
    change f_X3_walkFrom_S n 1 M2 0 0 0 = _ at gg
    have hm : xm_up (xm_up (xm_up (xm_up (xm_up M 8 6 (M o 0)) 8 7 (xm_up M 8 6 (M o 0) o 1)) 8 12 0) 8 13 0) 8 14 0 = M1 := by
      rw [hM1, xm_up_k _ _ (show o ≠ 8 by omega), hX.1, hX.2.1]
    unfold f_X3_run f_X3_walkFrom
    simp only [xz_lt]
    rw [hm, c4 (n + 1) (by omega), xz_b1, c1.1, if_neg (mt (xz_lec (c := 0) 0 rfl (by omega) (by omega)).mp (by omega)), f_X3_walkFrom_S, c1.1, if_neg (mt (xz_lec (c := 0) 0 rfl (by omega) (by omega)).mp (by omega)), if_pos (by decide : (0 : Int32) < 4), if_pos rfl, gg, xz_b2]
  · rw [g6 s hs, show P.1.2.2.2 - 1 + 1 = P.1.2.2.2 by omega, c2 12 (by omega) (by omega) (by omega), b1 12 (by omega)]
    rfl
  · rw [g4.1 k (by omega) (by omega) (by omega), c2 k (by omega) (by omega) (by omega), b1 k (by omega)]
  · rw [g4.2 j (by omega) (by omega) (by omega) (by omega), m8 j (by omega)]
theorem s_all4 {np : Nat} {Ps : Nat → xa_P} (hne : ne ≤ 25) (hE : eW ev ne) (hnp : np ≤ 4) (hP : ∀ j, j < np → xa_WP (Ps j)) (hnw : nw ≤ 9999) (hwm : wm ≤ 9999) : ∀ (d j : Nat) (M : xm_M), j + d = np → aX ev ne np Ps M → M 8 1 = nI nw → M 8 2 = nI wm → (∀ s, s < ne → M 12 s = nI (allS ev ne Ps s j)) → ∃ M', (∀ n, 210 + d < n → f_X3_runAll_4 n M 18 (nI (allM ev ne Ps j)) (nI j) = some (nI (allM ev ne Ps np), M')) ∧ (∀ s, s < ne → M' 12 s = nI (allS ev ne Ps s np)) ∧ ∀ k, k < 8 ∨ 13 ≤ k → M' k = M k
  | 0, j, M, hd, hX, h1, h2, hS => by
    have : j = np := by omega
    subst this
    refine ⟨M, fun n hn => ?_, hS, fun _ _ => rfl⟩
    obtain ⟨n, rfl⟩ : ∃ q, n = q + 1 := ⟨n - 1, by omega⟩
    rw [f_X3_runAll_4, hX.2.1, if_pos ((xz_le (by omega) (by omega)).mpr (Nat.le_refl _))]
  | d + 1, j, M, hd, hX, h1, h2, hS => by
    obtain ⟨x1, x2, x3, x4⟩ := hX
    have hj : j < np := by omega
    obtain ⟨M1, g1, g4, g5, g6, g7⟩ := s_run (wr := none) (o := 18 + 5 + 3 * j) hne hE (hP j hj) (by omega) x1 (x4 j hj) h1 h2 hnw hwm x3
    obtain ⟨M2, k1, k3, k4⟩ := s_all4 hne hE hnp hP hnw hwm d (j + 1) M1 (by omega) ⟨⟨by rw [g6 13 (by omega)]; exact x1.1, fun k hk => by rw [g6 14 (by omega), g6 15 (by omega), g6 16 (by omega), g6 17 (by omega)]; exact x1.2 k hk⟩, by rw [g6 18 (by omega)]; exact x2, by rw [g7 3 (by omega)]; exact x3, fun i hi => (x4 i hi).fr (fun k k1 k2 => g6 k (by omega))⟩ (by rw [g7 1 (by omega)]; exact h1) (by rw [g7 2 (by omega)]; exact h2) (fun s hs => by rw [g5 s hs, hS s hs, nI_add]; rfl)
    refine ⟨M2, fun n hn => ?_, k3, fun k hk => (k4 k hk).trans (g6 k hk)⟩
    obtain ⟨n, rfl⟩ : ∃ q, n = q + 1 := ⟨n - 1, by omega⟩
    rw [f_X3_runAll_4, x2, if_neg (mt (xz_le (by omega) (by omega)).mp (by omega)), xz_ci (show j < 4 by omega) (by omega), xz_cl (by omega), g1 n (by omega), xz_b1, g4.1, nI_1, nI_add]
    exact k1 n (by omega)
theorem s_all {np : Nat} {Ps : Nat → xa_P} (hne : ne ≤ 25) (hE : eW ev ne) (hnp : np ≤ 4) (hP : ∀ j, j < np → xa_WP (Ps j)) (hnw : nw ≤ 9999) (hwm : wm ≤ 9999) (hX : aX ev ne np Ps M) (h1 : M 8 1 = nI nw) (h2 : M 8 2 = nI wm) (h12 : ∀ s, s < 25 → M 12 s = 0) : ∃ M', (∀ n, 300 < n → f_X3_runAll n M 18 = some (nI (allM ev ne Ps np), M')) ∧ (∀ s, s < ne → M' 12 s = nI (allS ev ne Ps s np)) ∧ ∀ k, k < 8 ∨ 13 ≤ k → M' k = M k := by
  obtain ⟨M', g1, g2, g3⟩ := s_all4 hne hE hnp hP hnw hwm np 0 M (by omega) hX h1 h2 (fun s hs => h12 s (by omega))
  exact ⟨M', fun n hn => g1 n (by omega), g2, g3⟩
end RUN
