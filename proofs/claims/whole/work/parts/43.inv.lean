/-! LAYER 2: what holds between two calls, on either side -/
def xi_sX (sn : Option xa_S) (M : xm_M) : Prop := match sn with
  | none => M 0 2 = 0
  | some B => M 0 2 = 1 ∧ xa_XS B M 35
def xi_sM (sn : Option xa_S) (N : xm_M) : Prop := match sn with
  | none => N 0 5 = 0
  | some B => N 0 5 = 1 ∧ xa_MS B (N 4) 0
def xi_X (A : xa_S) (h : Nat → xa_S) (hn ho : Nat) (sn : Option xa_S) (tx : Nat → Nat) (tl : Nat) (M : xm_M) : Prop := xa_XS A M 18 ∧ xh_X h hn ho M ∧ xi_sX sn M ∧ M 6 1 = nI tl ∧ ∀ i, i < tl → M 7 i = nI (tx i)
def xi_M (A : xa_S) (h : Nat → xa_S) (hn : Nat) (sn : Option xa_S) (tx : Nat → Nat) (tl : Nat) (N : xm_M) : Prop := xa_MS A (N 1) 0 ∧ xh_M h hn N ∧ xi_sM sn N ∧ N 0 17 = nI tl ∧ ∀ i, i < tl → N 11 i = nI (tx i)
def xi_W (A : xa_S) (h : Nat → xa_S) (hn ho : Nat) (sn : Option xa_S) (tx : Nat → Nat) (tl : Nat) : Prop := xa_WS A ∧ hn ≤ 4 ∧ ho < 4 ∧ (∀ i, i < hn → xa_WS (h i)) ∧ (∀ B, sn = some B → xa_WS B) ∧ tl ≤ 80 ∧ ∀ i, i < tl → tx i < 65536
def xr_Inv (M N : xm_M) : Prop := ∃ (A : xa_S) (h : Nat → xa_S) (hn ho : Nat) (sn : Option xa_S) (tx : Nat → Nat) (tl : Nat), xi_W A h hn ho sn tx tl ∧ xi_X A h hn ho sn tx tl M ∧ xi_M A h hn sn tx tl N
section XI
variable {A A' : xa_S} {h : Nat → xa_S} {hn ho : Nat} {sn : Option xa_S} {tx : Nat → Nat} {tl : Nat} {M M' N N' : xm_M}
theorem xi_sX.fr (hW : ∀ B, sn = some B → xa_WS B) (hI : xi_sX sn M) (h0 : M' 0 2 = M 0 2) (hk : ∀ k, 35 ≤ k → k < 52 → M' k = M k) : xi_sX sn M' := by
  cases sn with
  | none => exact h0.trans hI
  | some B => exact ⟨h0.trans hI.1, hI.2.fr (hW B rfl).2.2.2.1 (fun k k1 k2 => hk k (by omega) (by omega))⟩
theorem xh_X.fr (hWh : ∀ i, i < hn → xa_WS (h i)) (hI : xh_X h hn ho M) (h1 : M' 4 1 = M 4 1) (h2 : M' 4 2 = M 4 2) (hk : ∀ k, 52 ≤ k → M' k = M k) : xh_X h hn ho M' :=
  ⟨h1.trans hI.1, h2.trans hI.2.1, fun i hi => (hI.2.2 i hi).fr (hWh i hi).2.2.2.1 (fun k k1 k2 => hk k (by omega))⟩
/-- what isn't read between two calls may change -/
theorem xi_X.fr (hW : xi_W A h hn ho sn tx tl) (hI : xi_X A h hn ho sn tx tl M) (h0 : M' 0 2 = M 0 2) (h4 : M' 4 = M 4) (h6 : M' 6 1 = M 6 1) (h7 : M' 7 = M 7) (hk : ∀ k, 18 ≤ k → M' k = M k) : xi_X A h hn ho sn tx tl M' := by
  obtain ⟨a1, a2, a3, a4, a5⟩ := hI
  obtain ⟨w1, w2, w3, w4, w5, w6, w7⟩ := hW
  exact ⟨a1.fr w1.2.2.2.1 (fun k k1 k2 => hk k (by omega)), a2.fr w4 (by rw [h4]) (by rw [h4]) (fun k k1 => hk k (by omega)), a3.fr w5 h0 (fun k k1 k2 => hk k (by omega)), h6.trans a4, fun i hi => by rw [h7]; exact a5 i hi⟩
theorem xi_M.fr (hI : xi_M A h hn sn tx tl N) (h3 : N' 0 3 = N 0 3) (h5 : N' 0 5 = N 0 5) (h17 : N' 0 17 = N 0 17) (r1 : N' 1 = N 1) (r3 : N' 3 = N 3) (r4 : N' 4 = N 4) (r11 : N' 11 = N 11) : xi_M A h hn sn tx tl N' := by
  obtain ⟨a1, ⟨a2, a6⟩, a3, a4, a5⟩ := hI
  refine ⟨by rw [r1]; exact a1, ⟨h3.trans a2, fun i hi => by rw [r3]; exact a6 i hi⟩, ?_, h17.trans a4, fun i hi => by rw [r11]; exact a5 i hi⟩
  cases sn with
  | none => exact h5.trans a3
  | some B => exact ⟨h5.trans a3.1, by rw [r4]; exact a3.2⟩
/-- the state that is now is exchanged -/
theorem xi_X.now (hW : xi_W A h hn ho sn tx tl) (hI : xi_X A h hn ho sn tx tl M) (hA : xa_XS A' M' 18) (hk : ∀ k, ¬ (18 ≤ k ∧ k < 35) → M' k = M k) : xi_X A' h hn ho sn tx tl M' := by
  obtain ⟨a1, a2, a3, a4, a5⟩ := hI
  obtain ⟨w1, w2, w3, w4, w5, w6, w7⟩ := hW
  have e0 := hk 0 (by omega)
  have e4 := hk 4 (by omega)
  have e6 := hk 6 (by omega)
  have e7 := hk 7 (by omega)
  exact ⟨hA, a2.fr w4 (by rw [e4]) (by rw [e4]) (fun k k1 => hk k (by omega)), a3.fr w5 (by rw [e0]) (fun k k1 k2 => hk k (by omega)), by rw [e6]; exact a4, fun i hi => by rw [e7]; exact a5 i hi⟩
/-- an act: what was goes into the history; x does so first -/
theorem xi_rec (hW : xi_W A h hn ho sn tx tl) (hI : xi_X A h hn ho sn tx tl M) {n : Nat} (hf : 60 < n) : ∃ M', f_X0_record n M 18 = some M' ∧ xi_X A (xh_push A h hn) (xh_n hn) (xh_o ho hn) sn tx tl M' ∧ ∀ k, k ≠ 4 → k < 52 → M' k = M k := by
  obtain ⟨a1, a2, a3, a4, a5⟩ := hI
  obtain ⟨w1, w2, w3, w4, w5, w6, w7⟩ := hW
  obtain ⟨M', c1, c2, c3⟩ := xp_record a1 w1 a2 w4 w2 w3 hf
  have e0 := c3 0 (by omega) (by omega)
  have e6 := c3 6 (by omega) (by omega)
  have e7 := c3 7 (by omega) (by omega)
  exact ⟨M', c1, ⟨a1.fr w1.2.2.2.1 (fun k k1 k2 => c3 k (by omega) (by omega)), c2, a3.fr w5 (by rw [e0]) (fun k k1 k2 => c3 k (by omega) (by omega)), by rw [e6]; exact a4, fun i hi => by rw [e7]; exact a5 i hi⟩, c3⟩
theorem xi_W.act (hW : xi_W A h hn ho sn tx tl) (hA : xa_WS A') : xi_W A' (xh_push A h hn) (xh_n hn) (xh_o ho hn) sn tx tl := by
  obtain ⟨w1, w2, w3, w4, w5, w6, w7⟩ := hW
  exact ⟨hA, xh_n_le hn, xh_o_lt w3, xh_push_W w1 w4, w5, w6, w7⟩
/-- .. the reference last: N is what it was, N1 has it in its row 2, and the new state in row 1 -/
theorem xi_act (hW : xi_W A h hn ho sn tx tl) (hI : xi_M A h hn sn tx tl N) {N1 : xm_M} (h2 : ∀ j, j < 119 → N1 2 j = N 1 j) (hA : xa_MS A' (N1 1) 0) (hk : ∀ k, k ≠ 1 → k ≠ 2 → N1 k = N k) (r : Int32) {n : Nat} (hf : 500 < n) : ∃ N', f_X7_acted n N1 r = some (r, N') ∧ xi_M A' (xh_push A h hn) (xh_n hn) sn tx tl N' := by
  obtain ⟨a1, ⟨a2, a6⟩, a3, a4, a5⟩ := hI
  obtain ⟨w1, w2, w3, w4, w5, w6, w7⟩ := hW
  have e0 := hk 0 (by omega) (by omega)
  have e3 := hk 3 (by omega) (by omega)
  have e4 := hk 4 (by omega) (by omega)
  have e11 := hk 11 (by omega) (by omega)
  obtain ⟨N', c1, c2, c3, c4⟩ := xm_acted (N := N1) (a1.fr w1 (fun k hk9 => by rw [Nat.zero_add]; exact h2 k hk9)) w1 (h := h) (hn := hn) ⟨by rw [e0]; exact a2, fun i hi => by rw [e3]; exact a6 i hi⟩ w4 w2 r hf
  refine ⟨N', c1, ?_, c2, ?_, ?_, fun i hi => ?_⟩
  · rw [c3 1 (by omega) (by omega)]
    exact hA
  · cases sn with
    | none =>
      show N' 0 5 = 0
      rw [c4 5 (by omega), e0]
      exact a3
    | some B =>
      refine ⟨?_, ?_⟩
      · rw [c4 5 (by omega), e0]
        exact a3.1
      · rw [c3 4 (by omega) (by omega), e4]
        exact a3.2
  · rw [c4 17 (by omega), e0]
    exact a4
  · rw [c3 11 (by omega) (by omega), e11]
    exact a5 i hi
end XI
theorem xi_m2 : (-2 : Int32) = -2 := rfl
/-- type -/
theorem xr_type {M N : xm_M} (hI : xr_Inv M N) {c1 : Nat} (hc1 : c1 < 65536) : ∃ n1 n2 r M' N', f_X6_type n1 M (nI c1) = some (r, M') ∧ f_X7_type n2 N (nI c1) = some (r, N') ∧ xr_Inv M' N' := by
  obtain ⟨A, h, hn, ho, sn, tx, tl, hW, hX, hM⟩ := hI
  have hW9 := hW
  obtain ⟨w1, w2, w3, w4, w5, w6, w7⟩ := hW
  obtain ⟨x1, x2, x3, x4, x5⟩ := hX
  obtain ⟨m1, m2, m3, m4, m5⟩ := hM
  refine ⟨0, 0, ?_⟩
  unfold f_X6_type f_X5_append f_X7_type
  rw [x4, m4]
  by_cases hl : tl = 80
  · subst hl
    rw [if_neg (by decide), if_pos (by decide), xz_b2]
    exact ⟨-3, M, N, rfl, rfl, A, h, hn, ho, sn, tx, 80, hW9, ⟨x1, x2, x3, x4, x5⟩, ⟨m1, m2, m3, m4, m5⟩⟩
  · have hl2 : tl < 80 := by omega
    rw [if_pos ((xz_ltc (c := 80) 80 rfl (by omega) (by omega)).mpr hl2), if_neg (mt (xz_ec (c := 80) 80 rfl (by omega) (by omega)).mp hl), xz_ci hl2 (by omega), xz_ci hl2 (by omega), xz_cl (by omega)]
    simp only [xz_lt, xz_b2]
    rw [xz_nc hc1, xm_up_k _ _ (show 6 ≠ 7 by omega), xm_up_k _ _ (show 0 ≠ 11 by omega), x4, m4, nI_1, xm_up_s, xm_up_s]
    refine ⟨nI (tl + 1), _, _, rfl, rfl, A, h, hn, ho, sn, (fun i => if i = tl then c1 else tx i), tl + 1, ⟨w1, w2, w3, w4, w5, by omega, fun i hi => ?_⟩, ⟨?_, ?_, ?_, by rw [xm_up_s], fun i hi => ?_⟩, ⟨?_, ⟨?_, fun i hi => ?_⟩, ?_, by rw [xm_up_s], fun i hi => ?_⟩⟩
    · show (if i = tl then c1 else tx i) < 65536
      by_cases hit : i = tl
      · rw [if_pos hit]; exact hc1
      · rw [if_neg hit]; exact w7 i (by omega)
    · exact x1.fr w1.2.2.2.1 (fun k k1 k2 => by rw [xm_up_r _ _ (by omega), xm_up_r _ _ (by omega)])
    · exact x2.fr w4 (by rw [xm_up_k _ _ (by omega), xm_up_k _ _ (by omega)]) (by rw [xm_up_k _ _ (by omega), xm_up_k _ _ (by omega)]) (fun k k1 => by rw [xm_up_r _ _ (by omega), xm_up_r _ _ (by omega)])
    · exact x3.fr w5 (by rw [xm_up_k _ _ (by omega), xm_up_k _ _ (by omega)]) (fun k k1 k2 => by rw [xm_up_r _ _ (by omega), xm_up_r _ _ (by omega)])
    · rw [xm_up_k _ _ (by omega)]
      show _ = nI (if i = tl then c1 else tx i)
      by_cases hit : i = tl
      · rw [if_pos hit, hit, xm_up_s]
      · rw [if_neg hit, xm_up_j _ _ hit]; exact x5 i (by omega)
    · rw [xm_up_r _ _ (by omega), xm_up_r _ _ (by omega)]; exact m1
    · rw [xm_up_j _ _ (by omega), xm_up_k _ _ (by omega)]; exact m2.1
    · rw [xm_up_r _ _ (by omega), xm_up_r _ _ (by omega)]; exact m2.2 i hi
    · cases sn with
      | none => show _ = _; rw [xm_up_j _ _ (by omega), xm_up_k _ _ (by omega)]; exact m3
      | some B => exact ⟨by rw [xm_up_j _ _ (by omega), xm_up_k _ _ (by omega)]; exact m3.1, by rw [xm_up_r _ _ (by omega), xm_up_r _ _ (by omega)]; exact m3.2⟩
    · rw [xm_up_k _ _ (by omega)]
      show _ = nI (if i = tl then c1 else tx i)
      by_cases hit : i = tl
      · rw [if_pos hit, hit, xm_up_s]
      · rw [if_neg hit, xm_up_j _ _ hit]; exact m5 i (by omega)
/-- clearText -/
theorem xr_clearText {M N : xm_M} (hI : xr_Inv M N) : ∃ n1 n2 r M' N', f_X6_clearText n1 M = some (r, M') ∧ f_X7_clearText n2 N = some (r, N') ∧ xr_Inv M' N' := by
  obtain ⟨A, h, hn, ho, sn, tx, tl, hW, hX, hM⟩ := hI
  obtain ⟨w1, w2, w3, w4, w5, w6, w7⟩ := hW
  obtain ⟨x1, x2, x3, x4, x5⟩ := hX
  obtain ⟨m1, m2, m3, m4, m5⟩ := hM
  refine ⟨0, 0, nI tl, ?_⟩
  unfold f_X6_clearText f_X7_clearText
  rw [x4, m4]
  simp only [xz_lt]
  refine ⟨_, _, rfl, rfl, A, h, hn, ho, sn, tx, 0, ⟨w1, w2, w3, w4, w5, by omega, fun i hi => by omega⟩, ⟨?_, ?_, ?_, by rw [xm_up_s]; exact nI_0.symm, fun i hi => by omega⟩, ⟨?_, ⟨?_, fun i hi => ?_⟩, ?_, by rw [xm_up_s]; exact nI_0.symm, fun i hi => by omega⟩⟩
  · exact x1.fr w1.2.2.2.1 (fun k k1 k2 => by rw [xm_up_r _ _ (by omega)])
  · exact x2.fr w4 (by rw [xm_up_k _ _ (by omega)]) (by rw [xm_up_k _ _ (by omega)]) (fun k k1 => by rw [xm_up_r _ _ (by omega)])
  · exact x3.fr w5 (by rw [xm_up_k _ _ (by omega)]) (fun k k1 k2 => by rw [xm_up_r _ _ (by omega)])
  · rw [xm_up_r _ _ (by omega)]; exact m1
  · rw [xm_up_j _ _ (by omega)]; exact m2.1
  · rw [xm_up_r _ _ (by omega)]; exact m2.2 i hi
  · cases sn with
    | none => show _ = _; rw [xm_up_j _ _ (by omega)]; exact m3
    | some B => exact ⟨by rw [xm_up_j _ _ (by omega)]; exact m3.1, by rw [xm_up_r _ _ (by omega)]; exact m3.2⟩
/-- setLateness -/
theorem xr_setLateness {M N : xm_M} (hI : xr_Inv M N) (a1 : Int32) : ∃ n1 n2 r M' N', f_X6_setLateness n1 M a1 = some (r, M') ∧ f_X7_setLateness n2 N a1 = some (r, N') ∧ xr_Inv M' N' := by
  have hI9 := hI
  obtain ⟨A, h, hn, ho, sn, tx, tl, hW, hX, hM⟩ := hI
  refine ⟨1000, 1000, ?_⟩
  unfold f_X6_setLateness f_X7_setLateness
  rcases xz_rng a1 0 500 (by omega) (by omega) with hb | ⟨j, -, hj, rfl⟩
  · have e1 : f_X6_isWithin 1000 M a1 0 500 = some (0, M) := xz_iw0 hb
    have e2 : f_X7_in 1000 N a1.toInt64 0 500 = some (0, N) := xz_mn0 (lo := 0) (hi := 500) (by omega) (by omega) hb
    rw [e1, e2, xz_b2, xz_b2, if_pos rfl, if_pos rfl]
    exact ⟨-2, M, N, rfl, rfl, hI9⟩
  · have e1 : f_X6_isWithin 1000 M (nI j) 0 500 = some (1, M) := xz_iw1 (lo := 0) (hi := 500) (by omega) hj (by omega)
    have e2 : f_X7_in 1000 N (nI j).toInt64 0 500 = some (1, N) := xz_mn1 (lo := 0) (hi := 500) (by omega) hj (by omega)
    rw [e1, e2, xz_b2, xz_b2, if_neg xz_10, if_neg xz_10, xz_i2, xz_ct, xz_t2]
    have x5 : M 18 5 = nI A.1.2.2.1 := hX.1.2.2.1
    have m5 : N 1 2 = nI A.1.2.2.1 := hM.1.2.2.1
    have wl : A.1.2.2.1 ≤ 500 := hW.1.2.2.1
    rw [x5, m5]
    by_cases he : A.1.2.2.1 = j
    · rw [if_pos (congrArg nI he), if_pos (congrArg nI he)]
      exact ⟨-5, M, N, rfl, rfl, hI9⟩
    · rw [if_neg (mt (xz_e (by omega) (by omega)).mp he), if_neg (mt (xz_e (by omega) (by omega)).mp he)]
      obtain ⟨M1, c1, c2, c3⟩ := xi_rec hW hX (n := 1000) (by omega)
      obtain ⟨N1, d1, d2, d3⟩ := xm_remember (N := N) (n := 1000) (by omega)
      rw [c1, d1, xz_b1, xz_b1, xz_lt, xz_ct, xz_lt]
      have wA : xa_WS ((A.1.1, A.1.2.1, j, A.1.2.2.2), A.2) := ⟨hW.1.1, hW.1.2.1, hj, hW.1.2.2.2⟩
      have e9 : N1 1 = N 1 := d2 1 (by omega)
      obtain ⟨N', f1, f2⟩ := xi_act (A' := ((A.1.1, A.1.2.1, j, A.1.2.2.2), A.2)) hW hM (N1 := xm_up N1 1 2 (nI j)) (fun k hk => by rw [xm_up_k _ _ (by omega)]; exact d3 k hk) (by
        obtain ⟨g0, g1, g2, g3, g4, g5⟩ := hM.1
        refine ⟨by rw [xm_up_j _ _ (by omega), e9]; exact g0, by rw [xm_up_j _ _ (by omega), e9]; exact g1, by rw [show 0 + 2 = 2 by omega, xm_up_s], by rw [xm_up_j _ _ (by omega), e9]; exact g3, fun i hi => ?_, fun i hi => (g5 i hi).fr (hW.1.2.2.2.2.2 i hi) (fun k hk => by rw [xm_up_j _ _ (by omega), e9])⟩
        rw [xm_up_j _ _ (by omega), xm_up_j _ _ (by omega), xm_up_j _ _ (by omega), e9]
        exact g4 i hi) (fun k k1 k2 => by rw [xm_up_r _ _ k1]; exact d2 k k2) (nI A.1.2.2.1) (n := 1000) (by omega)
      rw [f1, xz_b2]
      refine ⟨_, _, N', rfl, rfl, ((A.1.1, A.1.2.1, j, A.1.2.2.2), A.2), _, _, _, sn, tx, tl, hW.act wA, c2.now (hW.act hW.1) ?_ (fun k hk => by rw [xm_up_r _ _ (by omega)]), f2⟩
      have e8 : M1 18 = M 18 := c3 18 (by omega) (by omega)
      obtain ⟨g0, g1, g2, g3, g4, g5⟩ := c2.1
      refine ⟨by rw [xm_up_j _ _ (by omega)]; exact g0, by rw [xm_up_j _ _ (by omega)]; exact g1, by rw [xm_up_s], by rw [xm_up_j _ _ (by omega)]; exact g3, fun i hi => ?_, fun i hi => (g5 i hi).fr (fun k k1 k2 => xm_up_r _ _ (by omega))⟩
      rw [xm_up_k _ _ (by omega), xm_up_k _ _ (by omega), xm_up_k _ _ (by omega)]
      exact g4 i hi
