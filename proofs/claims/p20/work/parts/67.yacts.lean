/-! LAYER 2: what the class's acts do to its state -/
def ya_L (A : xa_S) (j : Nat) : xa_S := ((A.1.1, A.1.2.1, j, A.1.2.2.2), A.2)
def ya_W (A : xa_S) (j w : Nat) : xa_S := (A.1, A.2.1, fun i => if i = j then ((w, (A.2.2 j).1.2), (A.2.2 j).2) else A.2.2 i)
section YA
variable {A : xa_S} {h : Nat → xa_S} {hn ho : Nat} {tx : Nat → Nat} {tl : Nat} {M : xm_M}
theorem y_rec (hI : yI A h hn ho tx tl M) {n : Nat} (hf : 60 < n) : ∃ M1, f_X0_record n M 18 = some M1 ∧ xi_X A (xh_push A h hn) (xh_n hn) (xh_o ho hn) none tx tl M1 ∧ xi_W A (xh_push A h hn) (xh_n hn) (xh_o ho hn) none tx tl := by
  obtain ⟨M1, c1, c2, c3⟩ := xi_rec hI.1 hI.2 hf
  exact ⟨M1, c1, c2, hI.1.act hI.1.1⟩
theorem y_event0 (hI : yI A h hn ho tx tl M) {k v t : Nat} (hk : k < 8) (hv : v ≤ 99) (ht : t ≤ 9999) (hl : ¬ A.1.2.1 ≤ t + A.1.2.2.1) (n : Nat) : f_X6_event n M (nI (97 + k)) (nI v) (nI t) = some (-4, M) := by
  unfold f_X6_event
  rw [xp_errG hk hv ht hI.2.1.2.1 hI.2.1.2.2.1 hI.1.1.2.1 hI.1.1.2.2.1, xz_b2, if_neg hl, if_neg xz_m4]
theorem y_event1 (hI : yI A h hn ho tx tl M) {k v t : Nat} (hk : k < 8) (hv : v ≤ 99) (ht : t ≤ 9999) (hl : A.1.2.1 ≤ t + A.1.2.2.1) (h24 : A.1.1 = 24) (n : Nat) : f_X6_event n M (nI (97 + k)) (nI v) (nI t) = some (-3, M) := by
  unfold f_X6_event
  rw [xp_errG hk hv ht hI.2.1.2.1 hI.2.1.2.2.1 hI.1.1.2.1 hI.1.1.2.2.1, xz_b2, if_pos hl, if_pos rfl, hI.2.1.1, h24, if_neg (by decide : ¬ nI 24 < 24)]
theorem y_event (hI : yI A h hn ho tx tl M) {k v t : Nat} (hk : k < 8) (hv : v ≤ 99) (ht : t ≤ 9999) (hl : A.1.2.1 ≤ t + A.1.2.2.1) (hlt : A.1.1 < 24) {n : Nat} (hf : 500 < n) : ∃ M', f_X6_event n M (nI (97 + k)) (nI v) (nI t) = some (nI A.1.1, M') ∧ yI (xe_A A k v t) (xh_push A h hn) (xh_n hn) (xh_o ho hn) tx tl M' := by
  obtain ⟨M1, c1, c2, c3⟩ := y_rec hI (n := n) (by omega)
  obtain ⟨M2, b1, b2, b3⟩ := xp_add (v := v) c2.1 hI.1.1 hlt hk ht (n := n)
  refine ⟨M2, ?_, hI.1.act (xe_W hI.1.1 hlt hk hv ht), c2.now c3 b2 b3⟩
  unfold f_X6_event
  rw [xp_errG hk hv ht hI.2.1.2.1 hI.2.1.2.2.1 hI.1.1.2.1 hI.1.1.2.2.1, xz_b2, if_pos hl, if_pos rfl, hI.2.1.1, if_pos ((xz_ltc (c := 24) 24 rfl (by omega) (by omega)).mpr hlt), c1, xz_b1, b1, xz_b2]
theorem y_forget (hI : yI A h hn ho tx tl M) {t : Nat} (ht : t ≤ 9999) {n : Nat} (hf : 500 < n) : ∃ M', (xf_c A t A.1.1 = A.1.1 → f_X6_forget n M (nI t) = some (-5, M)) ∧ (xf_c A t A.1.1 ≠ A.1.1 → f_X6_forget n M (nI t) = some (nI (A.1.1 - xf_c A t A.1.1), M') ∧ yI (xf_A A t) (xh_push A h hn) (xh_n hn) (xh_o ho hn) tx tl M') := by
  have e1 : f_X6_isWithin n M (nI t) 0 9999 = some (1, M) := xz_iw1 (lo := 0) (hi := 9999) (by omega) ht (by omega)
  have hle := xf_le A t A.1.1
  have w0 := hI.1.1.1
  obtain ⟨M1, c1, c2, c3⟩ := y_rec hI (n := n) (by omega)
  obtain ⟨M2, b1, b2, b3⟩ := xp_forget c2.1 hI.1.1 ht (n := n) (by omega)
  refine ⟨M2, fun hc => ?_, fun hc => ⟨?_, hI.1.act (xf_WA hI.1.1), c2.now c3 b2 b3⟩⟩
  · unfold f_X6_forget
    rw [e1, xz_b2, if_neg xz_10, xp_ahead hI.2.1 hI.1.1 ht (by omega), xz_b2, if_pos (show nI (A.1.1 - xf_c A t A.1.1) = 0 by rw [hc, Nat.sub_self]; rfl)]
  · unfold f_X6_forget
    rw [e1, xz_b2, if_neg xz_10, xp_ahead hI.2.1 hI.1.1 ht (by omega), xz_b2, if_neg (mt (xz_ec (c := 0) 0 rfl (by omega) (by omega)).mp (by omega)), c1, xz_b1, b1, xz_b1]
theorem y_late0 (hI : yI A h hn ho tx tl M) {j : Nat} (hj : j ≤ 500) (he : A.1.2.2.1 = j) (n : Nat) : f_X6_setLateness n M (nI j) = some (-5, M) := by
  have e1 : f_X6_isWithin n M (nI j) 0 500 = some (1, M) := xz_iw1 (lo := 0) (hi := 500) (by omega) hj (by omega)
  unfold f_X6_setLateness
  rw [e1, xz_b2, if_neg xz_10, hI.2.1.2.2.1, if_pos (congrArg nI he)]
theorem y_late (hI : yI A h hn ho tx tl M) {j : Nat} (hj : j ≤ 500) (he : ¬ A.1.2.2.1 = j) {n : Nat} (hf : 500 < n) : ∃ M', f_X6_setLateness n M (nI j) = some (nI A.1.2.2.1, M') ∧ yI (ya_L A j) (xh_push A h hn) (xh_n hn) (xh_o ho hn) tx tl M' := by
  have e1 : f_X6_isWithin n M (nI j) 0 500 = some (1, M) := xz_iw1 (lo := 0) (hi := 500) (by omega) hj (by omega)
  have wl : A.1.2.2.1 ≤ 500 := hI.1.1.2.2.1
  obtain ⟨M1, c1, c2, c3⟩ := y_rec hI (n := n) (by omega)
  have wA : xa_WS (ya_L A j) := ⟨hI.1.1.1, hI.1.1.2.1, hj, hI.1.1.2.2.2⟩
  refine ⟨xm_up M1 18 5 (nI j), ?_, hI.1.act wA, c2.now c3 ?_ (fun k hk => by rw [xm_up_r _ _ (by omega)])⟩
  · unfold f_X6_setLateness
    rw [e1, xz_b2, if_neg xz_10, hI.2.1.2.2.1, if_neg (mt (xz_e (by omega) (by omega)).mp he), c1, xz_b1, xz_lt]
  · obtain ⟨g0, g1, g2, g3, g4, g5⟩ := c2.1
    refine ⟨by rw [xm_up_j _ _ (by omega)]; exact g0, by rw [xm_up_j _ _ (by omega)]; exact g1, by rw [xm_up_s]; rfl, by rw [xm_up_j _ _ (by omega)]; exact g3, fun i hi => ?_, fun i hi => (g5 i hi).fr (fun k k1 k2 => xm_up_r _ _ (by omega))⟩
    rw [xm_up_k _ _ (by omega), xm_up_k _ _ (by omega), xm_up_k _ _ (by omega)]
    exact g4 i hi
theorem y_drop0 (hI : yI A h hn ho tx tl M) {j : Nat} (hj : A.1.2.2.2 ≤ j) (hj2 : j < 2 ^ 31) (n : Nat) : f_X6_dropPattern n M (nI j) = some (-1, M) := by
  have w4 := hI.1.1.2.2.2.1
  unfold f_X6_dropPattern
  rw [xp_isP0 hI.2.1.2.2.2.1 (Or.inr ((xz_le (by omega) hj2).mpr hj)), xz_b2, if_pos rfl]
theorem y_drop (hI : yI A h hn ho tx tl M) {p : Nat} (hp : p < A.1.2.2.2) {n : Nat} (hf : 500 < n) : ∃ M', f_X6_dropPattern n M (nI p) = some (nI (A.1.2.2.2 - 1), M') ∧ yI (xd_A A p) (xh_push A h hn) (xh_n hn) (xh_o ho hn) tx tl M' := by
  have wn : A.1.2.2.2 ≤ 4 := hI.1.1.2.2.2.1
  obtain ⟨M1, c1, c2, c3⟩ := y_rec hI (n := n) (by omega)
  obtain ⟨⟨r, M2⟩, b1, b2, b3, b4⟩ := xp_drop c2.1 hI.1.1 hp (n := n) (by omega)
  dsimp only at b2 b3 b4
  refine ⟨M2, ?_, hI.1.act (xd_W hI.1.1 hp), c2.now c3 b3 b4⟩
  unfold f_X6_dropPattern
  rw [xp_isP1 hI.2.1.2.2.2.1 hp wn, xz_b2, if_neg xz_10, c1, xz_b1, b1, xz_b2, b2]
theorem y_win0 (hI : yI A h hn ho tx tl M) {j : Nat} (hj : A.1.2.2.2 ≤ j) (hj2 : j < 2 ^ 31) (x : Int32) (n : Nat) : f_X6_setWindow n M (nI j) x = some (-1, M) := by
  have w4 := hI.1.1.2.2.2.1
  unfold f_X6_setWindow
  rw [xp_isP0 hI.2.1.2.2.2.1 (Or.inr ((xz_le (by omega) hj2).mpr hj)), xz_b2, if_pos rfl]
theorem y_win1 (hI : yI A h hn ho tx tl M) {j w : Nat} (hj : j < A.1.2.2.2) (hw1 : 1 ≤ w) (hw2 : w ≤ 1000) (he : (A.2.2 j).1.1 = w) (n : Nat) : f_X6_setWindow n M (nI j) (nI w) = some (-5, M) := by
  have wn : A.1.2.2.2 ≤ 4 := hI.1.1.2.2.2.1
  have e1 : f_X6_isWithin n M (nI w) 1 1000 = some (1, M) := xz_iw1 (lo := 1) (hi := 1000) hw1 hw2 (by omega)
  have px0 : M (18 + 5 + 3 * j) 0 = nI (A.2.2 j).1.1 := (hI.2.1.2.2.2.2.2 j hj).1
  unfold f_X6_setWindow
  rw [xp_isP1 hI.2.1.2.2.2.1 hj wn, xz_b2, if_neg xz_10, e1, xz_b2, if_neg xz_10, xz_ci (show j < 4 by omega) (by omega), xz_cl (by omega), px0, if_pos (congrArg nI he)]
theorem ya_WW (hA : xa_WS A) {j w : Nat} (hj : j < A.1.2.2.2) (hw1 : 1 ≤ w) (hw2 : w ≤ 1000) : xa_WS (ya_W A j w) := by
  obtain ⟨v1, v2, v3, v4, v5, v6⟩ := hA
  refine ⟨v1, v2, v3, v4, v5, fun i hi => ?_⟩
  show xa_WP (if i = j then ((w, (A.2.2 j).1.2), (A.2.2 j).2) else A.2.2 i)
  by_cases hij : i = j
  · rw [if_pos hij]
    exact ⟨hw1, hw2, (v6 j hj).2.2⟩
  · rw [if_neg hij]
    exact v6 i hi
theorem y_win (hI : yI A h hn ho tx tl M) {j w : Nat} (hj : j < A.1.2.2.2) (hw1 : 1 ≤ w) (hw2 : w ≤ 1000) (he : ¬ (A.2.2 j).1.1 = w) {n : Nat} (hf : 500 < n) : ∃ M', f_X6_setWindow n M (nI j) (nI w) = some (nI (A.2.2 j).1.1, M') ∧ yI (ya_W A j w) (xh_push A h hn) (xh_n hn) (xh_o ho hn) tx tl M' := by
  have wn : A.1.2.2.2 ≤ 4 := hI.1.1.2.2.2.1
  have e1 : f_X6_isWithin n M (nI w) 1 1000 = some (1, M) := xz_iw1 (lo := 1) (hi := 1000) hw1 hw2 (by omega)
  have px0 : M (18 + 5 + 3 * j) 0 = nI (A.2.2 j).1.1 := (hI.2.1.2.2.2.2.2 j hj).1
  have w1 := (hI.1.1.2.2.2.2.2 j hj).2.1
  obtain ⟨M1, c1, c2, c3⟩ := y_rec hI (n := n) (by omega)
  refine ⟨xm_up M1 (18 + 5 + 3 * j) 0 (nI w), ?_, hI.1.act (ya_WW hI.1.1 hj hw1 hw2), c2.now c3 ?_ (fun k hk => by rw [xm_up_r _ _ (by omega)])⟩
  · unfold f_X6_setWindow
    rw [xp_isP1 hI.2.1.2.2.2.1 hj wn, xz_b2, if_neg xz_10, e1, xz_b2, if_neg xz_10, xz_ci (show j < 4 by omega) (by omega), xz_cl (by omega), px0, if_neg (mt (xz_e (by omega) (by omega)).mp he), c1, xz_b1, xz_ci (show j < 4 by omega) (by omega), xz_lt]
  · obtain ⟨g0, g1, g2, g3, g4, g5⟩ := c2.1
    refine ⟨by rw [xm_up_k _ _ (by omega)]; exact g0, by rw [xm_up_k _ _ (by omega)]; exact g1, by rw [xm_up_k _ _ (by omega)]; exact g2, by rw [xm_up_k _ _ (by omega)]; exact g3, fun i hi => ?_, fun i hi => ?_⟩
    · rw [xm_up_k _ _ (by omega), xm_up_k _ _ (by omega), xm_up_k _ _ (by omega)]
      exact g4 i hi
    · have hi2 : i < A.1.2.2.2 := hi
      show xa_XP (if i = j then ((w, (A.2.2 j).1.2), (A.2.2 j).2) else A.2.2 i) _ _
      by_cases hij : i = j
      · subst hij
        rw [if_pos rfl]
        obtain ⟨u0, u1, u2, u3, u4⟩ := g5 i hi2
        refine ⟨by rw [xm_up_s], by rw [xm_up_j _ _ (by omega)]; exact u1, by rw [xm_up_j _ _ (by omega)]; exact u2, by rw [xm_up_j _ _ (by omega)]; exact u3, fun k hk => ?_⟩
        rw [xm_up_k _ _ (by omega), xm_up_k _ _ (by omega)]
        exact u4 k hk
      · rw [if_neg hij]
        exact (g5 i hi2).fr (fun k k1 k2 => xm_up_r _ _ (by omega))
theorem y_undo (hI : yI A h (hn + 1) ho tx tl M) {n : Nat} (hf : 500 < n) : ∃ M', f_X6_undo n M = some (nI hn, M') ∧ yI (h hn) h hn ho tx tl M' := by
  obtain ⟨⟨w1, w2, w3, w4, w5, w6, w7⟩, x1, x2, x3, x4, x5⟩ := hI
  obtain ⟨e1, e2, e3⟩ := x2
  have hB := e3 hn (by omega)
  have wB := w4 hn (by omega)
  obtain ⟨M1, c1, c2, c3⟩ := xp_copyS (M := xm_up M 4 2 (nI hn)) (s := 18) (o := 52 + 17 * ((ho + hn) % 4)) (by omega) (hB.fr wB.2.2.2.1 (fun k k1 k2 => xm_up_r _ _ (by omega))) wB (n := n) (by omega)
  refine ⟨M1, ?_, ⟨wB, by omega, w3, fun i hi => w4 i (by omega), w5, w6, w7⟩, ⟨c2, ⟨?_, ?_, fun i hi => ?_⟩, ?_, ?_, fun i hi => ?_⟩⟩
  · unfold f_X6_undo f_X0_removeLatestInto
    rw [e2, if_neg (mt (xz_ec (c := 0) 0 rfl (by omega) (by omega)).mp (by omega)), if_pos ((xz_clt (c := 0) 0 rfl (by omega) (by omega)).mpr (by omega)), nI_pred, xz_lt, xm_up_s, xm_up_j _ _ (by omega), e1, nI_add, xz_rem4 _ (by omega), xz_ci (Nat.mod_lt _ (by omega)) (by omega), xz_cl (by omega), c1, xz_b1, xz_b1, c3 4 (by omega), xm_up_s]
  · rw [c3 4 (by omega), xm_up_j _ _ (by omega)]; exact e1
  · rw [c3 4 (by omega), xm_up_s]
  · exact (e3 i (by omega)).fr (w4 i (by omega)).2.2.2.1 (fun k k1 k2 => by rw [c3 k (by omega), xm_up_r _ _ (by omega)])
  · exact x3.fr w5 (by rw [c3 0 (by omega), xm_up_k _ _ (by omega)]) (fun k k1 k2 => by rw [c3 k (by omega), xm_up_r _ _ (by omega)])
  · rw [c3 6 (by omega), xm_up_k _ _ (by omega)]; exact x4
  · rw [c3 7 (by omega), xm_up_k _ _ (by omega)]; exact x5 i hi
theorem y_type (hI : yI A h hn ho tx tl M) {c : Nat} (hc : c < 65536) (hl : tl < 80) (n : Nat) : ∃ M', f_X6_type n M (nI c) = some (nI (tl + 1), M') ∧ yI A h hn ho (fun i => if i = tl then c else tx i) (tl + 1) M' := by
  obtain ⟨⟨w1, w2, w3, w4, w5, w6, w7⟩, x1, x2, x3, x4, x5⟩ := hI
  have e : f_X6_type n M (nI c) = some (nI (tl + 1), xm_up (xm_up M 7 tl (nI c)) 6 1 (nI (tl + 1))) := by
    unfold f_X6_type f_X5_append
    rw [x4, if_pos ((xz_ltc (c := 80) 80 rfl (by omega) (by omega)).mpr hl), xz_ci hl (by omega), xz_cl (by omega)]
    simp only [xz_lt, xz_b2]
    rw [xz_nc hc, xm_up_k _ _ (show 6 ≠ 7 by omega), x4, nI_1, xm_up_s]
  refine ⟨_, e, ⟨w1, w2, w3, w4, w5, by omega, fun i hi => ?_⟩, ⟨?_, ?_, ?_, by rw [xm_up_s], fun i hi => ?_⟩⟩
  · show (if i = tl then c else tx i) < 65536
    by_cases hit : i = tl
    · rw [if_pos hit]; exact hc
    · rw [if_neg hit]; exact w7 i (by omega)
  · exact x1.fr w1.2.2.2.1 (fun k k1 k2 => by rw [xm_up_r _ _ (by omega), xm_up_r _ _ (by omega)])
  · exact x2.fr w4 (by rw [xm_up_k _ _ (by omega), xm_up_k _ _ (by omega)]) (by rw [xm_up_k _ _ (by omega), xm_up_k _ _ (by omega)]) (fun k k1 => by rw [xm_up_r _ _ (by omega), xm_up_r _ _ (by omega)])
  · exact x3.fr w5 (by rw [xm_up_k _ _ (by omega), xm_up_k _ _ (by omega)]) (fun k k1 k2 => by rw [xm_up_r _ _ (by omega), xm_up_r _ _ (by omega)])
  · rw [xm_up_k _ _ (by omega)]
    show _ = nI (if i = tl then c else tx i)
    by_cases hit : i = tl
    · rw [if_pos hit, hit, xm_up_s]
    · rw [if_neg hit, xm_up_j _ _ hit]; exact x5 i (by omega)
theorem y_clear (hI : yI A h hn ho tx tl M) (n : Nat) : ∃ M', f_X6_clearText n M = some (nI tl, M') ∧ yI A h hn ho tx 0 M' := by
  obtain ⟨⟨w1, w2, w3, w4, w5, w6, w7⟩, x1, x2, x3, x4, x5⟩ := hI
  have e : f_X6_clearText n M = some (nI tl, xm_up M 6 1 0) := by
    unfold f_X6_clearText
    rw [x4]
    rfl
  refine ⟨_, e, ⟨w1, w2, w3, w4, w5, by omega, fun i hi => by omega⟩, ⟨?_, ?_, ?_, by rw [xm_up_s]; exact nI_0.symm, fun i hi => by omega⟩⟩
  · exact x1.fr w1.2.2.2.1 (fun k k1 k2 => by rw [xm_up_r _ _ (by omega)])
  · exact x2.fr w4 (by rw [xm_up_k _ _ (by omega)]) (by rw [xm_up_k _ _ (by omega)]) (fun k k1 => by rw [xm_up_r _ _ (by omega)])
  · exact x3.fr w5 (by rw [xm_up_k _ _ (by omega)]) (fun k k1 k2 => by rw [xm_up_r _ _ (by omega)])
end YA
