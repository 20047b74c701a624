/-! LAYER 2: a text that is well formed is read -/
def yT (A : xa_S) (h : Nat → xa_S) (hn ho : Nat) (T : List Nat) (M : xm_M) : Prop := yI A h hn ho (fun i => T.getD i 0) T.length M
def stt (c : Nat) : List Nat := if c < 8 then [97 + c] else [110, 111, 32, 97 + c % 8]
def stx : List Nat → List Nat
  | [] => []
  | c :: cs => stt c ++ (match cs with
    | [] => []
    | _ :: _ => 44 :: 32 :: stx cs)
def ppA : xa_P → List Nat → xa_P
  | P, [] => P
  | P, c :: cs => ppA (pA P c) cs
def okS : xa_P → List Nat → Prop
  | _, [] => True
  | P, c :: cs => (c < 16 ∧ (c < 8 → P.1.2.2.2 < 4) ∧ (8 ≤ c → pL P) ∧ P.1.2.2.1 < 8) ∧ okS (pA P c) cs
section YT
variable {A : xa_S} {h : Nat → xa_S} {hn ho : Nat} {tx : Nat → Nat} {tl : Nat} {M M0 : xm_M} {T R : List Nat} {P : xa_P} {a c : Nat}
theorem y_tx {tx' : Nat → Nat} (hI : yI A h hn ho tx tl M) (ht : ∀ i, i < tl → tx' i = tx i) : yI A h hn ho tx' tl M := by
  obtain ⟨⟨w1, w2, w3, w4, w5, w6, w7⟩, x1, x2, x3, x4, x5⟩ := hI
  exact ⟨⟨w1, w2, w3, w4, w5, w6, fun i hi => by rw [ht i hi]; exact w7 i hi⟩, x1, x2, x3, x4, fun i hi => by rw [ht i hi]; exact x5 i hi⟩
theorem y_typeT (hI : yT A h hn ho T M) (hc : c < 65536) (hl : T.length < 80) (n : Nat) : ∃ M', f_X6_type n M (nI c) = some (nI (T.length + 1), M') ∧ yT A h hn ho (T ++ [c]) M' := by
  obtain ⟨M', e1, e2⟩ := y_type hI hc hl n
  refine ⟨M', e1, ?_⟩
  have e3 : (T ++ [c]).length = T.length + 1 := by rw [List.length_append]; rfl
  unfold yT
  rw [e3]
  refine y_tx e2 (fun i hi => ?_)
  show (T ++ [c]).getD i 0 = if i = T.length then c else T.getD i 0
  rw [List.getD_eq_getElem?_getD, List.getD_eq_getElem?_getD]
  by_cases e : i = T.length
  · rw [if_pos e, e, List.getElem?_append_right (Nat.le_refl _), Nat.sub_self]
    rfl
  · rw [if_neg e, List.getElem?_append_left (by omega)]
theorem y_clearT (hI : yI A h hn ho tx tl M) (n : Nat) : ∃ M', f_X6_clearText n M = some (nI tl, M') ∧ yT A h hn ho [] M' := by
  obtain ⟨M', e1, e2⟩ := y_clear hI n
  exact ⟨M', e1, y_tx e2 (fun i hi => absurd hi (Nat.not_lt_zero i))⟩
/-- at a place of the text -/
theorem at_c (hd : T.drop a = c :: R) : a < T.length ∧ T.getD a 0 = c ∧ T.drop (a + 1) = R := by
  have hl : a < T.length := by
    rcases Nat.lt_or_ge a T.length with q | q
    · exact q
    · rw [List.drop_eq_nil_iff.mpr q] at hd
      cases hd
  rw [List.drop_eq_getElem_cons hl] at hd
  obtain ⟨d1, d2⟩ := List.cons.inj hd
  exact ⟨hl, by rw [List.getD_eq_getElem?_getD, List.getElem?_eq_getElem hl]; exact d1, d2⟩
theorem at_w : ∀ (w : List Nat) (a : Nat), T.drop a = w ++ R → tk (fun i => T.getD i 0) T.length w a = (true, a + w.length) ∧ T.drop (a + w.length) = R
  | [], a, h => ⟨rfl, h⟩
  | c :: w, a, h => by
    obtain ⟨h1, h2, h3⟩ := at_c h
    obtain ⟨g1, g2⟩ := at_w w (a + 1) h3
    refine ⟨?_, by rw [show a + (c :: w).length = a + 1 + w.length by rw [List.length_cons]; omega]; exact g2⟩
    rw [tk, if_pos ⟨h1, h2⟩, g1, List.length_cons, show a + 1 + w.length = a + (w.length + 1) by omega]
/-- what holds while the text is read -/
def rR (M0 : xm_M) (T : List Nat) (a : Nat) (M : xm_M) : Prop := tX (fun i => T.getD i 0) T.length a M ∧ a ≤ T.length ∧ ∀ k, k = 0 ∨ 4 ≤ k → k ≠ 6 → M k = M0 k
theorem rR.to (h : rR M0 T a M) {b : Nat} (hb : b ≤ T.length) : rR M0 T b (xm_up M 6 2 (nI b)) := ⟨h.1.to b, hb, fun k k1 k2 => by rw [xm_up_r _ _ k2]; exact h.2.2 k k1 k2⟩
theorem rR.x (h : rR M0 T a M) {r : Nat} (hr : r = 1 ∨ r = 2 ∨ r = 3) (j : Nat) (v : Int32) : rR M0 T a (xm_up M r j v) := ⟨⟨by rw [xm_up_k _ _ (by omega)]; exact h.1.1, by rw [xm_up_k _ _ (by omega)]; exact h.1.2.1, fun i hi => by rw [xm_up_k _ _ (by omega)]; exact h.1.2.2 i hi⟩, h.2.1, fun k k1 k2 => by rw [xm_up_r _ _ (by omega)]; exact h.2.2 k k1 k2⟩
variable (hT : T.length ≤ 80) (hC : ∀ i, i < T.length → T.getD i 0 < 65536)
theorem r_word (hT : T.length ≤ 80) (hC : ∀ i, i < T.length → T.getD i 0 < 65536) (h : rR M0 T a M) {k : Nat} (hk : k < 6) (hd : T.drop a = tw_l k ++ R) {n : Nat} (hn : 10 < n) : f_X5_takesWord n M k = some (1, xm_up M 6 2 (nI (a + (tw_l k).length))) ∧ rR M0 T (a + (tw_l k).length) (xm_up M 6 2 (nI (a + (tw_l k).length))) ∧ T.drop (a + (tw_l k).length) = R := by
  obtain ⟨g1, g2⟩ := at_w (tw_l k) a hd
  have hb : a + (tw_l k).length ≤ T.length := by
    have := tk_le (fun i => T.getD i 0) T.length (tw_l k) a h.2.1
    rw [g1] at this
    exact this
  refine ⟨?_, h.to hb, g2⟩
  rw [px_word hT hC h.1 h.2.1 hk hn, g1]
  rfl
theorem r_next (hT : T.length ≤ 80) (hC : ∀ i, i < T.length → T.getD i 0 < 65536) (h : rR M0 T a M) (hd : T.drop a = c :: R) {n : Nat} : f_X5_next n M = some (nI c, M) := by
  obtain ⟨h1, h2, h3⟩ := at_c hd
  rw [tx_next hC hT h.1 h.2.1, if_pos h1, h2]
/-- a kind is taken -/
theorem r_kind (hT : T.length ≤ 80) (hC : ∀ i, i < T.length → T.getD i 0 < 65536) (h : rR M0 T a M) (hP : xa_XP P M 1) {k f : Nat} (hk : k < 8) (hf : f < 2) (h8 : P.1.2.2.1 < 8) (hd : T.drop a = (97 + k) :: R) {n : Nat} : ∃ M', f_X5_takesStep_47 n M 1 (nI f) = some (1, M') ∧ rR M0 T (a + 1) M' ∧ T.drop (a + 1) = R ∧ xa_XP (pA P (k + 8 * f)) M' 1 ∧ M' 1 0 = M 1 0 := by
  obtain ⟨q1, q2, q3⟩ := at_c hd
  obtain ⟨p0, p1, p2, p3, p4⟩ := hP
  have e1 : f_X6_isKind n M (nI (97 + k)) = some (1, M) := by
    unfold f_X6_isKind
    rw [if_neg (mt (xz_ltc (c := 97) 97 rfl (by omega) (by omega)).mp (by omega)), if_neg (mt (xz_clt (c := 104) 104 rfl (by omega) (by omega)).mp (by omega))]
  have e2 : f_X2_hasRoomForStep n M 1 = some (1, M) := by
    unfold f_X2_hasRoomForStep
    rw [p2, if_neg (mt (xz_cle (c := 8) 8 rfl (by omega) (by omega)).mp (by omega))]
  have hp3 : M 1 3 + 1 = nI (P.1.2.2.2 + 1) := by rw [p3, nI_1]
  obtain ⟨M1, hM1⟩ : ∃ G, G = xm_up (xm_up (xm_up M 2 P.1.2.2.1 (nI (97 + k))) 3 P.1.2.2.1 (nI f)) 1 2 (nI (P.1.2.2.1 + 1)) := ⟨_, rfl⟩
  have r1 : rR M0 T a M1 := by rw [hM1]; exact ((h.x (by omega) _ _).x (by omega) _ _).x (by omega) _ _
  have c1 : M1 1 0 = M 1 0 ∧ M1 1 1 = M 1 1 ∧ M1 1 2 = nI (P.1.2.2.1 + 1) ∧ M1 1 3 = M 1 3 := by
    rw [hM1]
    exact ⟨by rw [xm_up_j _ _ (by omega), xm_up_k _ _ (by omega), xm_up_k _ _ (by omega)], by rw [xm_up_j _ _ (by omega), xm_up_k _ _ (by omega), xm_up_k _ _ (by omega)], xm_up_s _ _ _ _, by rw [xm_up_j _ _ (by omega), xm_up_k _ _ (by omega), xm_up_k _ _ (by omega)]⟩
  have c2 : ∀ i, i < P.1.2.2.1 + 1 → M1 2 i = nI (97 + (pA P (k + 8 * f)).2 i % 8) ∧ M1 3 i = nI ((pA P (k + 8 * f)).2 i / 8) := by
    intro i hi
    have e3 : (pA P (k + 8 * f)).2 i = if i = P.1.2.2.1 then k + 8 * f else P.2 i := rfl
    rw [e3, hM1]
    by_cases e : i = P.1.2.2.1
    · rw [if_pos e, e]
      exact ⟨by rw [xm_up_k _ _ (by omega), xm_up_k _ _ (by omega), xm_up_s]; exact congrArg nI (by omega), by rw [xm_up_k _ _ (by omega), xm_up_s]; exact congrArg nI (by omega)⟩
    · obtain ⟨u1, u2⟩ := p4 i (by omega)
      rw [if_neg e]
      exact ⟨by rw [xm_up_k _ _ (by omega), xm_up_k _ _ (by omega), xm_up_j _ _ e]; exact u1, by rw [xm_up_k _ _ (by omega), xm_up_j _ _ e, xm_up_k _ _ (by omega)]; exact u2⟩
  obtain ⟨c11, c12, c13, c14⟩ := c1
  have ea : f_X2_addStep n M 1 (nI (97 + k)) (nI f) = some (if f = 0 then xm_up M1 1 3 (nI (P.1.2.2.2 + 1)) else M1) := by
    unfold f_X2_addStep
    rw [e2, xz_b2, if_neg xz_10, p2, xz_ci h8 (by omega), xz_cl (by omega), xz_lt, xm_up_k _ _ (by omega), p2, xz_ci h8 (by omega), xz_cl (by omega), xz_lt, xm_up_k _ _ (by omega), xm_up_k _ _ (by omega), p2, xz_lt, nI_1, xz_nc (by omega), xz_nz f hf, ← hM1]
    by_cases e : f = 0
    · rw [if_pos e, if_pos (by rw [e]; rfl), xz_lt, c14, hp3]
    · rw [if_neg e, if_neg (mt (xz_ec (c := 0) 0 rfl (by omega) (by omega)).mp e)]
  obtain ⟨M2, hM2⟩ : ∃ G, G = if f = 0 then xm_up M1 1 3 (nI (P.1.2.2.2 + 1)) else M1 := ⟨_, rfl⟩
  rw [← hM2] at ea
  have r2 : rR M0 T a M2 := by
    rw [hM2]
    split
    · exact r1.x (by omega) _ _
    · exact r1
  have x2 : xa_XP (pA P (k + 8 * f)) M2 1 ∧ M2 1 0 = M 1 0 := by
    have ep : (pA P (k + 8 * f)).1.2.2.2 = P.1.2.2.2 + (if k + 8 * f < 8 then 1 else 0) := rfl
    rw [hM2]
    by_cases e : f = 0
    · rw [if_pos e]
      refine ⟨⟨by rw [xm_up_j _ _ (by omega), c11]; exact p0, by rw [xm_up_j _ _ (by omega), c12]; exact p1, by rw [xm_up_j _ _ (by omega)]; exact c13, by rw [xm_up_s, ep, if_pos (by omega)], fun i hi => ?_⟩, by rw [xm_up_j _ _ (by omega)]; exact c11⟩
      rw [xm_up_k _ _ (by omega), xm_up_k _ _ (by omega)]
      exact c2 i hi
    · rw [if_neg e]
      exact ⟨⟨by rw [c11]; exact p0, by rw [c12]; exact p1, c13, by rw [c14, ep, if_neg (by omega)]; exact p3, c2⟩, c11⟩
  refine ⟨xm_up M2 6 2 (nI (a + 1)), ?_, r2.to q1, q3, x2.1.fr (fun k k1 k2 => xm_up_r _ _ (by omega)), by rw [xm_up_k _ _ (by omega)]; exact x2.2⟩
  unfold f_X5_takesStep_47
  rw [r_next hT hC h hd, xz_b2, e1, xz_b2, if_neg xz_10, e2, xz_b2, if_neg xz_10, ea, xz_b1, r2.1.2.1, nI_1, xz_lt]
/-- a step is taken -/
theorem r_step (hT : T.length ≤ 80) (hC : ∀ i, i < T.length → T.getD i 0 < 65536) (h : rR M0 T a M) (hP : xa_XP P M 1) (hJ : pJ P) (h1 : c < 16) (h2 : c < 8 → P.1.2.2.2 < 4) (h3 : 8 ≤ c → pL P) (h8 : P.1.2.2.1 < 8) (hd : T.drop a = stt c ++ R) {n : Nat} (hn : 20 < n) : ∃ M' a', f_X5_takesStep n M 1 = some (1, M') ∧ rR M0 T a' M' ∧ T.drop a' = R ∧ xa_XP (pA P c) M' 1 ∧ M' 1 0 = M 1 0 := by
  by_cases hc : c < 8
  · have hd2 : T.drop a = (97 + c) :: R := by rw [hd, stt, if_pos hc]; rfl
    obtain ⟨M', g1, g2, g3, g4, g5⟩ := r_kind hT hC h hP (k := c) (f := 0) hc (by omega) h8 hd2 (n := n)
    refine ⟨M', a + 1, ?_, g2, g3, g4, g5⟩
    have p4 := h2 hc
    unfold f_X5_takesStep
    rw [r_next hT hC h hd2, xz_b2, if_neg (mt (xz_ec (c := 110) 110 rfl (by omega) (by omega)).mp (by omega)), hP.2.2.2.1, if_pos ((xz_ltc (c := 4) 4 rfl (by omega) (by omega)).mpr p4)]
    exact g1
  · have hd2 : T.drop a = 110 :: (111 :: 32 :: (97 + c % 8) :: R) := by rw [hd, stt, if_neg hc]; rfl
    have hd3 : T.drop a = tw_l 4 ++ ((97 + c % 8) :: R) := hd2
    obtain ⟨w1, w2, w3⟩ := r_word hT hC h (k := 4) (by omega) hd3 (n := n) (by omega)
    have hP2 : xa_XP P (xm_up M 6 2 (nI (a + (tw_l 4).length))) 1 := hP.fr (fun k k1 k2 => xm_up_r _ _ (by omega))
    obtain ⟨M', g1, g2, g3, g4, g5⟩ := r_kind hT hC w2 hP2 (k := c % 8) (f := 1) (by omega) (by omega) h8 w3 (n := n)
    rw [show c % 8 + 8 * 1 = c by omega] at g4
    refine ⟨M', _, ?_, g2, g3, g4, by rw [g5, xm_up_k _ _ (by omega)]⟩
    unfold f_X5_takesStep
    rw [r_next hT hC h hd2, xz_b2, if_pos (show nI 110 = 110 from rfl), pk_ends hP hJ (by omega), xz_b2, if_pos (h3 (by omega)), if_neg xz_10, w1, xz_b2, if_neg xz_10]
    exact g1
/-- the steps are taken -/
theorem r_steps (hT : T.length ≤ 80) (hC : ∀ i, i < T.length → T.getD i 0 < 65536) : ∀ (cs : List Nat) (c i a : Nat) (M : xm_M) (P : xa_P) (n : Nat), rR M0 T a M → xa_XP P M 1 → pJ P → okS P (c :: cs) → pL (ppA P (c :: cs)) → 1 < (ppA P (c :: cs)).1.2.2.1 → (ppA P (c :: cs)).1.2.2.1 ≤ 8 → i + cs.length ≤ 8 → T.drop a = stx (c :: cs) → 40 + cs.length < n → ∃ M', f_X5_takesSteps_2 n M 1 (nI i) = some (1, M') ∧ xa_XP (ppA P (c :: cs)) M' 1 ∧ pJ (ppA P (c :: cs)) ∧ M' 1 0 = M 1 0 ∧ ∃ a', rR M0 T a' M'
  | [], c, i, a, M, P, n, h, hP, hJ, hO, hL, h2, h9, hi, hd, hn => by
    obtain ⟨n, rfl⟩ : ∃ q, n = q + 1 := ⟨n - 1, by omega⟩
    obtain ⟨⟨o1, o2, o3, o4⟩, -⟩ := hO
    have hi : i + 0 ≤ 8 := hi
    have hd : T.drop a = stt c ++ [] := hd
    obtain ⟨M', a', g1, g2, g3, g4, g5⟩ := r_step hT hC h hP hJ o1 o2 o3 o4 hd (n := n) (by omega)
    have hJ2 : pJ (pA P c) := hJ.add o1 o2 o3
    have ea : a' = T.length := by
      have := List.drop_eq_nil_iff.mp g3
      have := g2.2.1
      omega
    have hL : pL (pA P c) := hL
    have h2 : 1 < (pA P c).1.2.2.1 := h2
    have h9 : (pA P c).1.2.2.1 ≤ 8 := h9
    refine ⟨M', ?_, g4, hJ2, g5, a', g2⟩
    rw [f_X5_takesSteps_2, if_neg (mt (xz_clt (c := 8) 8 rfl (by omega) (by omega)).mp (by omega)), g1, xz_b2, if_neg xz_10, g2.1.2.1, g2.1.1, ea, if_neg (mt (xz_l (by omega) (by omega)).mp (Nat.lt_irrefl _)), pk_ends g4 hJ2 h9, xz_b2, if_pos hL, if_neg xz_10, g4.2.2.1, if_neg (mt (xz_lec (c := 1) 1 rfl (by omega) (by omega)).mp (by omega))]
  | c2 :: cs, c, i, a, M, P, n, h, hP, hJ, hO, hL, h2, h9, hi, hd, hn => by
    obtain ⟨n, rfl⟩ : ∃ q, n = q + 1 := ⟨n - 1, by omega⟩
    obtain ⟨⟨o1, o2, o3, o4⟩, o5⟩ := hO
    have hi : i + (cs.length + 1) ≤ 8 := hi
    have hn : 40 + (cs.length + 1) < n + 1 := hn
    have hd : T.drop a = stt c ++ (44 :: 32 :: stx (c2 :: cs)) := hd
    obtain ⟨M1, a1, g1, g2, g3, g4, g5⟩ := r_step hT hC h hP hJ o1 o2 o3 o4 hd (n := n) (by omega)
    have hJ2 : pJ (pA P c) := hJ.add o1 o2 o3
    have g3' : T.drop a1 = tw_l 5 ++ stx (c2 :: cs) := g3
    obtain ⟨w1, w2, w3⟩ := r_word hT hC g2 (k := 5) (by omega) g3' (n := n) (by omega)
    have hlt : a1 < T.length := (at_c g3).1
    have g4' : xa_XP (pA P c) (xm_up M1 6 2 (nI (a1 + (tw_l 5).length))) 1 := g4.fr (fun k k1 k2 => xm_up_r _ _ (by omega))
    obtain ⟨M', k1, k2, k3, k4, k5⟩ := r_steps hT hC cs c2 (i + 1) _ _ (pA P c) n w2 g4' hJ2 o5 hL h2 h9 (by omega) w3 (by omega)
    refine ⟨M', ?_, k2, k3, by rw [k4, xm_up_k _ _ (by omega), g5], k5⟩
    rw [f_X5_takesSteps_2, if_neg (mt (xz_clt (c := 8) 8 rfl (by omega) (by omega)).mp (by omega)), g1, xz_b2, if_neg xz_10, g2.1.2.1, g2.1.1, if_pos ((xz_l (by omega) (by omega)).mpr hlt), w1, xz_b2, if_neg xz_10, nI_1]
    exact k1
end YT
