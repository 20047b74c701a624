/-! LAYER 2: what the class tells, as numbers of its state -/
def yI (A : xa_S) (h : Nat → xa_S) (hn ho : Nat) (tx : Nat → Nat) (tl : Nat) (M : xm_M) : Prop := xi_W A h hn ho none tx tl ∧ xi_X A h hn ho none tx tl M
def aloneN (ev : Nat → Nat × Nat × Nat) (ne : Nat) (Ps : Nat → xa_P) (np : Nat) : Nat := io_c (fun s => if allS ev ne Ps s np = 0 then 1 else 0) (fun e => e) ne
def cntV (A : xa_S) (hn : Nat) : Nat → Nat
  | 0 => A.1.1
  | 1 => A.1.2.2.2
  | 2 => allM A.2.1 A.1.1 A.2.2 A.1.2.2.2
  | 3 => A.1.2.1
  | 4 => A.1.2.1 - A.1.2.2.1
  | 5 => A.1.2.2.1
  | 6 => aloneN A.2.1 A.1.1 A.2.2 A.1.2.2.2
  | _ => hn
def patV (A : xa_S) (j : Nat) : Nat → Nat
  | 0 => (A.2.2 j).1.1
  | 1 => (A.2.2 j).1.2.1
  | 2 => (A.2.2 j).1.2.2.1
  | 3 => (A.2.2 j).1.2.2.2
  | 4 => nM (PL A.2.1 A.1.1 (A.2.2 j))
  | 5 => nS (pTm A.2.1 A.1.1) (A.1.2.1 - A.1.2.2.1) ((A.2.2 j).1.2.2.2 - 1) (PL A.2.1 A.1.1 (A.2.2 j))
  | _ => nB (pTm A.2.1 A.1.1) (A.2.2 j).1.1 A.1.2.1 (PL A.2.1 A.1.1 (A.2.2 j))
def matV (A : xa_S) (j rk ix : Nat) : Int32 := match (mL (PL A.2.1 A.1.1 (A.2.2 j)))[rk]? with
  | some a => nI (pO A.2.1 A.1.1 (a ix))
  | none => -5
theorem cn_le (a : Nat → Nat) (s : Nat) : ∀ e d, cn a s e d ≤ e
  | 0, d => Nat.le_refl _
  | e + 1, d => by
    have := cn_le a s e (d + 1)
    rw [cn]
    split <;> omega
theorem sh_le (s e d : Nat) : ∀ (L : sG), sh s e d L ≤ e * L.length
  | [] => Nat.zero_le _
  | x :: L => by
    have h1 := sh_le s e d L
    have h2 := cn_le x.2 s e d
    have h3 : e * (L.length + 1) = e * L.length + e := Nat.mul_succ e _
    show (if x.1 = true then cn x.2 s e d else 0) + sh s e d L ≤ e * (L.length + 1)
    split <;> omega
section BND
variable {ev : Nat → Nat × Nat × Nat} {ne np : Nat} {Ps : Nat → xa_P}
theorem allM_le (hne : ne ≤ 25) (hP : ∀ j, j < np → xa_WP (Ps j)) : ∀ j, j ≤ np → allM ev ne Ps j ≤ j * 406900
  | 0, _ => Nat.le_refl _
  | j + 1, hj => by
    have h1 := allM_le hne hP j (by omega)
    have h2 := PL_len (ev := ev) hne (hP j (by omega))
    have h3 := nM_le (PL ev ne (Ps j))
    rw [allM]
    omega
theorem allS_le (hne : ne ≤ 25) (hP : ∀ j, j < np → xa_WP (Ps j)) (s : Nat) : ∀ j, j ≤ np → allS ev ne Ps s j ≤ j * 1627600
  | 0, _ => Nat.le_refl _
  | j + 1, hj => by
    have h1 := allS_le hne hP s j (by omega)
    have h2 := PL_len (ev := ev) hne (hP j (by omega))
    have h4 := (hP j (by omega)).2.2.2.2.2.2.2.1
    have h3 := sh_le s (Ps j).1.2.2.2 0 (PL ev ne (Ps j))
    have h5 : (Ps j).1.2.2.2 * (PL ev ne (Ps j)).length ≤ 4 * 406900 := Nat.mul_le_mul h4 h2
    rw [allS]
    omega
end BND
section YQ
variable {A : xa_S} {h : Nat → xa_S} {hn ho : Nat} {tx : Nat → Nat} {tl : Nat} {M : xm_M}
theorem y_all (hI : yI A h hn ho tx tl M) : ∃ M1 M', (∀ n, 300 < n → f_X3_begin n M 18 = some M1) ∧ (∀ n, 300 < n → f_X3_runAll n M1 18 = some (nI (allM A.2.1 A.1.1 A.2.2 A.1.2.2.2), M')) ∧ xL A.2.1 (io (eT A.2.1) A.1.1) A.1.1 M' ∧ (∀ s, s < A.1.1 → M' 12 s = nI (allS A.2.1 A.1.1 A.2.2 s A.1.2.2.2)) ∧ yI A h hn ho tx tl M' := by
  obtain ⟨hW, hX⟩ := hI
  obtain ⟨M1, g1, g2, g3, g4, g5, g6, g7, g8⟩ := q_begin hW hX
  have hX1 := q_X hW hX g8
  have w0 := hW.1.1
  have w1 := hW.1.2.1
  obtain ⟨M', c1, c2, c3⟩ := s_all (np := A.1.2.2.2) (Ps := A.2.2) (M := M1) (nw := A.1.2.1) (wm := A.1.2.1 - A.1.2.2.1) (show A.1.1 ≤ 25 by omega) (st_E hW.1) hW.1.2.2.2.1 hW.1.2.2.2.2.2 (by omega) (by omega) ⟨g2, hX1.1.2.2.2.1, g5, hX1.1.2.2.2.2.2⟩ g3 g4 g7
  refine ⟨M1, M', fun n hn => g1 n (by omega), c1, ⟨by rw [c3 13 (by omega)]; exact g2.1, fun k hk => ?_⟩, c2, hW, q_X hW hX1 (fun k hk => c3 k (by omega))⟩
  rw [c3 14 (by omega), c3 15 (by omega), c3 16 (by omega), c3 17 (by omega)]
  exact g2.2 k hk
theorem y_un (hI : yI A h hn ho tx tl M) {M' : xm_M} (hL : xL A.2.1 (io (eT A.2.1) A.1.1) A.1.1 M') (hS : ∀ s, s < A.1.1 → M' 12 s = nI (allS A.2.1 A.1.1 A.2.2 s A.1.2.2.2)) {n : Nat} (hf : 100 < n) : f_X3_placesWithoutShare n M' = some (nI (aloneN A.2.1 A.1.1 A.2.2 A.1.2.2.2), M') := by
  have w0 := hI.1.1.1
  have w4 := hI.1.1.2.2.2.1
  obtain ⟨f, hf9⟩ : ∃ f : Nat → Nat, f = fun s => if allS A.2.1 A.1.1 A.2.2 s A.1.2.2.2 = 0 then 1 else 0 := ⟨_, rfl⟩
  have hf1 : ∀ e, f e = if allS A.2.1 A.1.1 A.2.2 e A.1.2.2.2 = 0 then 1 else 0 := fun e => by rw [hf9]
  have key1 : ∀ d i n, i + d = A.1.1 → d < n → f_X3_placesWithoutShare_4 n M' (nI (io_c f (fun e => e) i)) (nI i) = some (nI (io_c f (fun e => e) A.1.1), M') := by
    intro d
    induction d with
    | zero =>
      intro i n hd hn
      obtain ⟨n, rfl⟩ : ∃ q, n = q + 1 := ⟨n - 1, by omega⟩
      have : i = A.1.1 := by omega
      rw [this, f_X3_placesWithoutShare_4, hL.1, if_pos ((xz_le (by omega) (by omega)).mpr (Nat.le_refl _))]
    | succ d ih =>
      intro i n hd hn
      obtain ⟨n, rfl⟩ : ∃ q, n = q + 1 := ⟨n - 1, by omega⟩
      have g := ih (i + 1) n (by omega) (by omega)
      have hs := hS i (by omega)
      have hb := allS_le (ev := A.2.1) (show A.1.1 ≤ 25 by omega) hI.1.1.2.2.2.2.2 i A.1.2.2.2 (Nat.le_refl _)
      rw [io_c, hf1] at g
      rw [f_X3_placesWithoutShare_4, hL.1, if_neg (mt (xz_le (by omega) (by omega)).mp (by omega)), xz_ci (show i < 25 by omega) (by omega), xz_cl (by omega), hs, nI_1]
      by_cases z : allS A.2.1 A.1.1 A.2.2 i A.1.2.2.2 = 0
      · rw [if_pos z] at g
        rw [if_pos (by rw [z]; rfl), nI_1]
        exact g
      · rw [if_neg z] at g
        rw [if_neg (mt (xz_ec (c := 0) 0 rfl (by omega) (by omega)).mp z), nI_1]
        exact g
  unfold f_X3_placesWithoutShare aloneN
  rw [← hf9]
  exact key1 A.1.1 0 n (by omega) (by omega)
theorem y_count (hI : yI A h hn ho tx tl M) {w : Nat} (hw : w < 8) : ∃ M', (∀ n, 500 < n → f_X6_count n M (nI w) = some (nI (cntV A hn w), M')) ∧ yI A h hn ho tx tl M' := by
  obtain ⟨M1, M', b1, b2, b3, b4, b5⟩ := y_all hI
  have hI9 := hI
  obtain ⟨hW, hX⟩ := hI
  rcases (show w = 0 ∨ w = 1 ∨ w = 2 ∨ w = 3 ∨ w = 4 ∨ w = 5 ∨ w = 6 ∨ w = 7 by omega) with rfl | rfl | rfl | rfl | rfl | rfl | rfl | rfl
  · refine ⟨M, fun n hn => ?_, hI9⟩
    unfold f_X6_count
    rw [if_pos (show nI 0 = 0 from rfl), hX.1.1]
    rfl
  · refine ⟨M, fun n hn => ?_, hI9⟩
    unfold f_X6_count
    rw [if_neg (by decide), if_pos (show nI 1 = 1 from rfl), hX.1.2.2.2.1]
    rfl
  · refine ⟨M', fun n hn => ?_, b5⟩
    unfold f_X6_count
    rw [if_neg (by decide), if_neg (by decide), if_pos (show nI 2 = 2 from rfl), b1 _ (by omega), xz_b1, b2 _ (by omega), xz_b2]
    rfl
  · refine ⟨M, fun n hn => ?_, hI9⟩
    unfold f_X6_count
    rw [if_neg (by decide), if_neg (by decide), if_neg (by decide), if_pos (show nI 3 = 3 from rfl), hX.1.2.1]
    rfl
  · refine ⟨M, fun n hn => ?_, hI9⟩
    unfold f_X6_count
    rw [if_neg (by decide), if_neg (by decide), if_neg (by decide), if_neg (by decide), if_pos (show nI 4 = 4 from rfl), x_wm hX.1.2.1 hX.1.2.2.1 hW.1.2.1 hW.1.2.2.1, xz_b2]
    rfl
  · refine ⟨M, fun n hn => ?_, hI9⟩
    unfold f_X6_count
    rw [if_neg (by decide), if_neg (by decide), if_neg (by decide), if_neg (by decide), if_neg (by decide), if_pos (show nI 5 = 5 from rfl), hX.1.2.2.1]
    rfl
  · refine ⟨M', fun n hn => ?_, b5⟩
    unfold f_X6_count
    rw [if_neg (by decide), if_neg (by decide), if_neg (by decide), if_neg (by decide), if_neg (by decide), if_neg (by decide), if_pos (show nI 6 = 6 from rfl), b1 _ (by omega), xz_b1, b2 _ (by omega), xz_b2, y_un hI9 b3 b4 (by omega), xz_b2]
    rfl
  · refine ⟨M, fun n hn => ?_, hI9⟩
    unfold f_X6_count
    rw [if_neg (by decide), if_neg (by decide), if_neg (by decide), if_neg (by decide), if_neg (by decide), if_neg (by decide), if_neg (by decide), if_pos (show nI 7 = 7 from rfl), hX.2.1.2.1]
    rfl
theorem y_pat0 (hI : yI A h hn ho tx tl M) {j : Nat} (hj : A.1.2.2.2 ≤ j) (hj2 : j < 2 ^ 31) (x : Int32) (n : Nat) : f_X6_pattern n M (nI j) x = some (-1, M) := by
  have w4 := hI.1.1.2.2.2.1
  unfold f_X6_pattern
  rw [xp_isP0 hI.2.1.2.2.2.1 (Or.inr ((xz_le (by omega) hj2).mpr hj)), xz_b2, if_pos rfl]
theorem y_srun (hI : yI A h hn ho tx tl M) {j : Nat} (hj : j < A.1.2.2.2) : ∃ M', (∀ n, 300 < n → f_X6_searchFor n M (18 + 5 + 3 * j) = some M') ∧ M' 8 12 = nI (patV A j 4) ∧ M' 8 13 = nI (patV A j 5) ∧ M' 8 14 = nI (patV A j 6) ∧ yI A h hn ho tx tl M' := by
  obtain ⟨hW, hX⟩ := hI
  obtain ⟨M1, g1, g2, g3, g4, g5, g6, g7, g8⟩ := q_begin hW hX
  have hX1 := q_X hW hX g8
  have w0 := hW.1.1
  have w1 := hW.1.2.1
  obtain ⟨M', c1, ⟨c2, c3, c4, -⟩, -, c5, -⟩ := s_run (wr := none) (nw := A.1.2.1) (wm := A.1.2.1 - A.1.2.2.1) (show A.1.1 ≤ 25 by omega) (st_E hW.1) (hW.1.2.2.2.2.2 j hj) (o := 18 + 5 + 3 * j) (by omega) g2 (hX1.1.2.2.2.2.2 j hj) g3 g4 (by omega) (by omega) g5
  refine ⟨M', fun n hn => ?_, c2, c3, c4, hW, q_X hW hX1 (fun k hk => c5 k (by omega))⟩
  unfold f_X6_searchFor
  rw [g1 n (by omega), xz_b1, c1 n (by omega), xz_b1]
theorem y_pattern (hI : yI A h hn ho tx tl M) {j w : Nat} (hj : j < A.1.2.2.2) (hw : w < 7) : ∃ M', (∀ n, 500 < n → f_X6_pattern n M (nI j) (nI w) = some (nI (patV A j w), M')) ∧ yI A h hn ho tx tl M' := by
  obtain ⟨M', b1, b2, b3, b4, b5⟩ := y_srun hI hj
  have hI9 := hI
  obtain ⟨hW, hX⟩ := hI
  have wn : A.1.2.2.2 ≤ 4 := hW.1.2.2.2.1
  have hP1 := fun n => xp_isP1 (n := n) hX.1.2.2.2.1 hj wn
  obtain ⟨q0, q1, q2, q3, q4⟩ := hX.1.2.2.2.2.2 j hj
  rcases (show w = 0 ∨ w = 1 ∨ w = 2 ∨ w = 3 ∨ w = 4 ∨ w = 5 ∨ w = 6 by omega) with rfl | rfl | rfl | rfl | rfl | rfl | rfl
  · refine ⟨M, fun n hn => ?_, hI9⟩
    unfold f_X6_pattern
    rw [hP1, xz_b2, if_neg xz_10, xz_ci (show j < 4 by omega) (by omega), xz_cl (by omega), if_pos (show nI 0 = 0 from rfl), q0]
    rfl
  · refine ⟨M, fun n hn => ?_, hI9⟩
    unfold f_X6_pattern
    rw [hP1, xz_b2, if_neg xz_10, xz_ci (show j < 4 by omega) (by omega), xz_cl (by omega), if_neg (by decide), if_pos (show nI 1 = 1 from rfl), q1]
    rfl
  · refine ⟨M, fun n hn => ?_, hI9⟩
    unfold f_X6_pattern
    rw [hP1, xz_b2, if_neg xz_10, xz_ci (show j < 4 by omega) (by omega), xz_cl (by omega), if_neg (by decide), if_neg (by decide), if_pos (show nI 2 = 2 from rfl), q2]
    rfl
  · refine ⟨M, fun n hn => ?_, hI9⟩
    unfold f_X6_pattern
    rw [hP1, xz_b2, if_neg xz_10, xz_ci (show j < 4 by omega) (by omega), xz_cl (by omega), if_neg (by decide), if_neg (by decide), if_neg (by decide), if_pos (show nI 3 = 3 from rfl), q3]
    rfl
  · refine ⟨M', fun n hn => ?_, b5⟩
    unfold f_X6_pattern
    rw [hP1, xz_b2, if_neg xz_10, xz_ci (show j < 4 by omega) (by omega), xz_cl (by omega), if_neg (by decide), if_neg (by decide), if_neg (by decide), if_neg (by decide), if_pos (show nI 4 = 4 from rfl), b1 _ (by omega), xz_b1, b2]
  · refine ⟨M', fun n hn => ?_, b5⟩
    unfold f_X6_pattern
    rw [hP1, xz_b2, if_neg xz_10, xz_ci (show j < 4 by omega) (by omega), xz_cl (by omega), if_neg (by decide), if_neg (by decide), if_neg (by decide), if_neg (by decide), if_neg (by decide), if_pos (show nI 5 = 5 from rfl), b1 _ (by omega), xz_b1, b3]
  · refine ⟨M', fun n hn => ?_, b5⟩
    unfold f_X6_pattern
    rw [hP1, xz_b2, if_neg xz_10, xz_ci (show j < 4 by omega) (by omega), xz_cl (by omega), if_neg (by decide), if_neg (by decide), if_neg (by decide), if_neg (by decide), if_neg (by decide), if_neg (by decide), if_pos (show nI 6 = 6 from rfl), b1 _ (by omega), xz_b1, b4]
theorem y_step (hI : yI A h hn ho tx tl M) {j i : Nat} (hj : j < A.1.2.2.2) (hi : i < (A.2.2 j).1.2.2.1) (n : Nat) : f_X6_step n M (nI j) (nI i) 0 = some (nI (97 + (A.2.2 j).2 i % 8), M) ∧ f_X6_step n M (nI j) (nI i) 1 = some (nI ((A.2.2 j).2 i / 8), M) := by
  obtain ⟨hW, hX⟩ := hI
  have wn : A.1.2.2.2 ≤ 4 := hW.1.2.2.2.1
  have hP1 := xp_isP1 (n := n) hX.1.2.2.2.1 hj wn
  obtain ⟨q0, q1, q2, q3, q4⟩ := hX.1.2.2.2.2.2 j hj
  obtain ⟨q5, q6⟩ := q4 i hi
  obtain ⟨w1, w2, w3, w4, w5, w6, w7, w8, w9⟩ := hW.1.2.2.2.2.2 j hj
  have hc := w9 i hi
  have hu : f_X6_step n M (nI j) (nI i) 0 = some (M (18 + 5 + 3 * j + 1) i, M) ∧ f_X6_step n M (nI j) (nI i) 1 = (if M (18 + 5 + 3 * j + 2) i = 0 then some (0, M) else some (1, M)) := by
    constructor
    · unfold f_X6_step
      rw [hP1, xz_b2, if_neg xz_10, xz_ci (show j < 4 by omega) (by omega), xz_cl (show j < 2 ^ 31 by omega), if_neg (nI_pos (by omega)), q2, if_pos ((xz_l (by omega) (by omega)).mpr hi), if_pos rfl, xz_ci (show i < 8 by omega) (by omega), xz_cl (by omega)]
    · unfold f_X6_step
      rw [hP1, xz_b2, if_neg xz_10, xz_ci (show j < 4 by omega) (by omega), xz_cl (show j < 2 ^ 31 by omega), if_neg (nI_pos (by omega)), q2, if_pos ((xz_l (by omega) (by omega)).mpr hi), if_neg (by decide), if_pos rfl, xz_ci (show i < 8 by omega) (by omega), xz_cl (by omega)]
  refine ⟨by rw [hu.1, q5], ?_⟩
  rw [hu.2, q6]
  rcases (show (A.2.2 j).2 i / 8 = 0 ∨ (A.2.2 j).2 i / 8 = 1 by omega) with e | e
  · rw [e]; rfl
  · rw [e]; rfl
theorem y_match (hI : yI A h hn ho tx tl M) {j rk ix : Nat} (hj : j < A.1.2.2.2) (hr : rk < 2 ^ 31) (hx : ix < (A.2.2 j).1.2.2.2) : ∃ M', (∀ n, 500 < n → f_X6_match n M (nI j) (nI rk) (nI ix) = some (matV A j rk ix, M')) ∧ yI A h hn ho tx tl M' := by
  obtain ⟨hW, hX⟩ := hI
  obtain ⟨Mb, g1, g2, g3, g4, g5, g6, -, g8⟩ := q_begin hW hX
  have wn : A.1.2.2.2 ≤ 4 := hW.1.2.2.2.1
  have w0 := hW.1.1
  have w1 := hW.1.2.1
  have wP := hW.1.2.2.2.2.2 j hj
  have w8 := wP.2.2.2.2.2.2.2.1
  obtain ⟨q0, q1, q2, q3, q4⟩ := hX.1.2.2.2.2.2 j hj
  obtain ⟨Mc, hMc⟩ : ∃ G, G = xm_up (xm_up Mb 8 3 (nI rk)) 8 4 (nI ix) := ⟨_, rfl⟩
  have k1 : (∀ k, k ≠ 8 → Mc k = Mb k) ∧ Mc 8 3 = nI rk ∧ Mc 8 4 = nI ix ∧ Mc 8 5 = -5 ∧ Mc 8 1 = Mb 8 1 ∧ Mc 8 2 = Mb 8 2 := by
    rw [hMc]
    exact ⟨fun k hk => by rw [xm_up_r _ _ hk, xm_up_r _ _ hk], by rw [xm_up_j _ _ (by omega), xm_up_s], xm_up_s _ _ _ _, by rw [xm_up_j _ _ (by omega), xm_up_j _ _ (by omega)]; exact g6, by rw [xm_up_j _ _ (by omega), xm_up_j _ _ (by omega)], by rw [xm_up_j _ _ (by omega), xm_up_j _ _ (by omega)]⟩
  obtain ⟨k1, k2, k3, k4, k5, k6⟩ := k1
  have hXc := q_X hW hX (M' := Mc) (fun k hk => by rw [k1 k (by omega)]; exact g8 k hk)
  obtain ⟨M', c1, ⟨-, -, -, c2⟩, -, c5, -⟩ := s_run (wr := some (rk, ix)) (nw := A.1.2.1) (wm := A.1.2.1 - A.1.2.2.1) (show A.1.1 ≤ 25 by omega) (st_E hW.1) wP (o := 18 + 5 + 3 * j) (M := Mc) (by omega) ⟨by rw [k1 13 (by omega)]; exact g2.1, fun k hk => by rw [k1 14 (by omega), k1 15 (by omega), k1 16 (by omega), k1 17 (by omega)]; exact g2.2 k hk⟩ (hXc.1.2.2.2.2.2 j hj) (by rw [k5]; exact g3) (by rw [k6]; exact g4) (by omega) (by omega) ⟨k2, k3, hx, hr, k4⟩
  refine ⟨M', fun n hn => ?_, hW, q_X hW hXc (fun k hk => c5 k (by omega))⟩
  unfold f_X6_match f_X3_want
  rw [xp_isP1 hX.1.2.2.2.1 hj wn, xz_b2, if_neg xz_10, xz_ci (show j < 4 by omega) (by omega), xz_cl (by omega), if_neg (nI_pos hr), if_neg (nI_pos (by omega)), q3, if_pos ((xz_l (by omega) (by omega)).mpr hx), g1 _ (by omega), xz_b1, xz_lt, xz_lt, xz_b1, ← hMc, c1 _ (by omega), xz_b1]
  exact congrArg (fun z => some (z, M')) c2.2.2.2.2
theorem y_eventOf (hI : yI A h hn ho tx tl M) {q : Nat} (hq : q < A.1.1) : (∀ n, f_X6_eventOf n M (nI (pO A.2.1 A.1.1 q)) 0 = some (nI (97 + pKd A.2.1 A.1.1 q), M) ∧ f_X6_eventOf n M (nI (pO A.2.1 A.1.1 q)) 1 = some (nI (pVl A.2.1 A.1.1 q), M) ∧ f_X6_eventOf n M (nI (pO A.2.1 A.1.1 q)) 2 = some (nI (pTm A.2.1 A.1.1 q), M)) ∧ (∃ M', (∀ n, 500 < n → f_X6_eventOf n M (nI (pO A.2.1 A.1.1 q)) 3 = some (nI q, M')) ∧ yI A h hn ho tx tl M') ∧ ∃ M', (∀ n, 500 < n → f_X6_eventOf n M (nI (pO A.2.1 A.1.1 q)) 4 = some (nI (allS A.2.1 A.1.1 A.2.2 q A.1.2.2.2), M')) ∧ yI A h hn ho tx tl M' := by
  obtain ⟨M1, M', b1, b2, b3, b4, b5⟩ := y_all hI
  obtain ⟨hW, hX⟩ := hI
  obtain ⟨Mb, g1, g2, -, -, -, -, -, g8⟩ := q_begin hW hX
  have w0 := hW.1.1
  obtain ⟨e, he9⟩ : ∃ e, e = pO A.2.1 A.1.1 q := ⟨_, rfl⟩
  have he : e < A.1.1 := by rw [he9]; exact io_lt (eT A.2.1) A.1.1 q hq
  obtain ⟨v1, v2, v3⟩ := hX.1.2.2.2.2.1 e he
  unfold pKd pVl pTm
  rw [← he9]
  have hd : ¬ nI e < 0 := nI_pos (by omega)
  have hl : nI e < nI A.1.1 := (xz_l (by omega) (by omega)).mpr he
  refine ⟨fun n => ⟨?_, ?_, ?_⟩, ⟨Mb, fun n hn => ?_, hW, q_X hW hX g8⟩, M', fun n hn => ?_, b5⟩
  · unfold f_X6_eventOf
    rw [if_neg hd, hX.1.1, if_pos hl, if_pos rfl, xz_ci (show e < 24 by omega) (by omega), xz_cl (by omega), v1]
  · unfold f_X6_eventOf
    rw [if_neg hd, hX.1.1, if_pos hl, if_neg (by decide), if_pos rfl, xz_ci (show e < 24 by omega) (by omega), xz_cl (by omega), v2]
  · unfold f_X6_eventOf
    rw [if_neg hd, hX.1.1, if_pos hl, if_neg (by decide), if_neg (by decide), if_pos rfl, xz_ci (show e < 24 by omega) (by omega), xz_cl (by omega), v3]
  · unfold f_X6_eventOf
    rw [if_neg hd, hX.1.1, if_pos hl, if_neg (by decide), if_neg (by decide), if_neg (by decide), if_pos rfl, g1 _ (by omega), xz_b1, he9]
    show xm_b2 (f_X1_placeOf n Mb (nI (io (eT A.2.1) A.1.1 q))) _ = _
    rw [x_place (by omega) g2 hq (by omega), xz_b2]
  · unfold f_X6_eventOf f_X3_shareOf
    rw [if_neg hd, hX.1.1, if_pos hl, if_neg (by decide), if_neg (by decide), if_neg (by decide), if_neg (by decide), if_pos rfl, b1 _ (by omega), xz_b1, b2 _ (by omega), xz_b2, he9]
    show xm_b2 (xm_b2 (f_X1_placeOf n M' (nI (io (eT A.2.1) A.1.1 q))) _) _ = _
    rw [x_place (by omega) b3 hq (by omega), xz_b2, xz_ci (show q < 25 by omega) (by omega), xz_cl (by omega), b4 q hq, xz_b2]
theorem y_ifEvent0 (hI : yI A h hn ho tx tl M) {k v t : Nat} (hk : k < 8) (hv : v ≤ 99) (ht : t ≤ 9999) (hl : ¬ A.1.2.1 ≤ t + A.1.2.2.1) (n : Nat) : f_X6_ifEvent n M (nI (97 + k)) (nI v) (nI t) = some (-4, M) := by
  obtain ⟨hW, hX⟩ := hI
  unfold f_X6_ifEvent
  rw [xp_errG hk hv ht hX.1.2.1 hX.1.2.2.1 hW.1.2.1 hW.1.2.2.1, xz_b2, if_neg hl, if_neg xz_m4]
theorem y_ifEvent (hI : yI A h hn ho tx tl M) {k v t : Nat} (hk : k < 8) (hv : v ≤ 99) (ht : t ≤ 9999) (hl : A.1.2.1 ≤ t + A.1.2.2.1) : ∃ M', (∀ n, 500 < n → f_X6_ifEvent n M (nI (97 + k)) (nI v) (nI t) = some (nI (allM (xe_A A k v t).2.1 (A.1.1 + 1) A.2.2 A.1.2.2.2), M')) ∧ yI A h hn ho tx tl M' := by
  obtain ⟨hW, hX⟩ := hI
  have w0 := hW.1.1
  have w1 := hW.1.2.1
  have ee : ∀ e, (xe_A A k v t).2.1 e = if e = A.1.1 then (k, v, t) else A.2.1 e := fun e => rfl
  have e9 : (xe_A A k v t).2.1 A.1.1 = (k, v, t) := by rw [ee, if_pos rfl]
  have hE : eW (xe_A A k v t).2.1 (A.1.1 + 1) := by
    intro e he
    rw [ee]
    by_cases q : e = A.1.1
    · rw [if_pos q]; exact ⟨hk, hv, ht⟩
    · rw [if_neg q]; exact hW.1.2.2.2.2.1 e (by omega)
  obtain ⟨M1, g1, g2, g3, g4, g5, g6, g7, g8⟩ := x_begin (ev := (xe_A A k v t).2.1) w0 (fun e he => hE e (by omega)) hX.1.1 hX.1.2.1 hX.1.2.2.1 hW.1.2.1 hW.1.2.2.1 (fun e he => by
    rw [ee, if_neg (show ¬ e = A.1.1 by omega)]
    exact hX.1.2.2.2.2.1 e he)
  obtain ⟨M2, i1, i2, i3⟩ := x_insert (show A.1.1 < 25 by omega) hE g2
  rw [e9] at i1
  have fr : ∀ r, r < 8 ∨ 18 ≤ r → M2 r = M r := fun r hr => by rw [i3 r (by omega)]; exact g8 r hr
  have hX2 := q_X hW hX fr
  obtain ⟨M3, c1, c2, c3⟩ := s_all (Ps := A.2.2) (M := M2) (np := A.1.2.2.2) (nw := A.1.2.1) (wm := A.1.2.1 - A.1.2.2.1) (show A.1.1 + 1 ≤ 25 by omega) hE hW.1.2.2.2.1 hW.1.2.2.2.2.2 (by omega) (by omega) ⟨i2, hX2.1.2.2.2.1, by rw [i3 8 (by omega)]; exact g5, hX2.1.2.2.2.2.2⟩ (by rw [i3 8 (by omega)]; exact g3) (by rw [i3 8 (by omega)]; exact g4) (fun s hs => by rw [i3 12 (by omega)]; exact g7 s hs)
  refine ⟨M3, fun n hn => ?_, hW, q_X hW hX2 (fun r hr => c3 r (by omega))⟩
  have e8 : M1 18 0 = nI A.1.1 := by rw [g8 18 (by omega)]; exact hX.1.1
  unfold f_X6_ifEvent
  rw [xp_errG hk hv ht hX.1.2.1 hX.1.2.2.1 hW.1.2.1 hW.1.2.2.1, xz_b2, if_pos hl, if_pos rfl, g1 _ (by omega), xz_b1, e8, i1 n (by omega), xz_b1, c1 _ (by omega), xz_b2]
end YQ
