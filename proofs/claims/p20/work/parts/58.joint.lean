/-! LAYER 2: the two searches walk alike -/
def jR (ev : Nat → Nat × Nat × Nat) (ne pl : Nat) (T : Prop) (wr : Option (Nat × Nat)) (d cm r : Nat) (at0 dl : Nat → Nat) (M M' N N' : xm_M) : Prop := dR T wr pl (cm + r) M' N' ∧ fX M M' ∧ fM N N' ∧ (∀ j, j < d → M' 11 j = M 11 j) ∧ (∀ j, j < d → N' 8 j = N 8 j) ∧ ∀ s, s < ne → M' 12 s = M 12 s + nI (dl s) ∧ N' 9 (pO ev ne s) = N 9 (pO ev ne s) + nI (dl s + r * cnt at0 d s)
section JNT
variable {ev : Nat → Nat × Nat × Nat} {ne : Nat} {kd br : Nat → Nat} {pl w ru p nw la : Nat} {M N M' N' : xm_M} {at0 : Nat → Nat} {T : Prop} {wr : Option (Nat × Nat)} {d q cm : Nat}
theorem xz_2 (a : Int32) (x y z : Nat) (h : z = x + y) : a + nI x + nI y = a + nI z := by rw [Int32.add_assoc, nI_add, h]
theorem jR.tr {r1 r2 : Nat} {e1 e2 : Nat → Nat} {M1 M2 N1 N2 : xm_M} (h1 : jR ev ne pl T wr d cm r1 at0 e1 M M1 N N1) (h2 : jR ev ne pl T wr d (cm + r1) r2 at0 e2 M1 M2 N1 N2) : jR ev ne pl T wr d cm (r1 + r2) at0 (fun s => e1 s + e2 s) M M2 N N2 := by
  obtain ⟨a1, a2, a3, a4, a5, a6⟩ := h1
  obtain ⟨b1, b2, b3, b4, b5, b6⟩ := h2
  refine ⟨by rw [← Nat.add_assoc]; exact b1, a2.tr b2, a3.tr b3, fun j hj => (b4 j hj).trans (a4 j hj), fun j hj => (b5 j hj).trans (a5 j hj), fun s hs => ?_⟩
  obtain ⟨c1, c2⟩ := a6 s hs
  obtain ⟨d1, d2⟩ := b6 s hs
  refine ⟨by rw [d1, c1]; exact xz_2 _ _ _ _ rfl, ?_⟩
  rw [d2, c2]
  refine xz_2 _ _ _ _ ?_
  show e1 s + e2 s + (r1 + r2) * cnt at0 d s = _
  rw [Nat.add_mul]
  omega
theorem jR.rf (hD : dR T wr pl cm M N) (v : Int32) (hd : fM N (xm_up N 8 d v)) : jR ev ne pl T wr d cm 0 at0 (fun _ => 0) M M N (xm_up N 8 d v) := by
  obtain ⟨d1, d2, d3, d4⟩ := hD
  refine ⟨⟨d1, by rw [xm_up_k _ _ (by omega)]; exact d2, fun t => by rw [xm_up_k _ _ (by omega), xm_up_k _ _ (by omega)]; exact d3 t, ?_⟩, fX.rf M, hd, fun j hj => rfl, fun j hj => xm_up_j _ _ (by omega), fun s hs => ⟨(xz_a0 _).symm, ?_⟩⟩
  · cases wr with
    | none => exact ⟨d4.1, by rw [xm_up_k _ _ (by omega)]; exact d4.2⟩
    | some ri =>
      obtain ⟨rk, ix⟩ := ri
      obtain ⟨q1, q2, q3, q4, q5, q6⟩ := d4
      exact ⟨q1, by rw [xm_up_k _ _ (by omega)]; exact q2, q3, q4, q5, by rw [xm_up_k _ _ (by omega)]; exact q6⟩
  · rw [xm_up_k _ _ (by omega), Nat.zero_mul]
    exact (xz_a0 _).symm
theorem x_br1 (h : sX ev ne kd br pl w ru M) (hpl : pl ≤ 4) (hd : d + 1 = pl) {n : Nat} : f_X3_tellBranch n M (nI d) = some M := by
  unfold f_X3_tellBranch
  rw [h.2.1.1, nI_1, if_pos ((xz_le (by omega) (by omega)).mpr (by omega))]
theorem x_br2 (hW : sW ev ne kd br pl w ru p) (h : sX ev ne kd br pl w ru M) (hd : d + 1 < pl) {a0 : Nat} (h0 : M 11 0 = nI a0) (ha : a0 < ne) {n : Nat} : f_X3_tellBranch n M (nI d) = some (xm_up M 8 14 (M 8 14 + (if nI (pTm ev ne a0 + w) < M 8 1 then 0 else 1))) := by
  have h25 := hW.1
  have h4 := hW.2.2.2.2.2.2.1
  have r17 : M 17 a0 = nI (pTm ev ne a0) := (h.1.2 _ ha).2.2.2
  unfold f_X3_tellBranch
  rw [h.2.1.1, nI_1, if_neg (mt (xz_le (by omega) (by omega)).mp (by omega)), xz_i7, xz_ct, xz_t0, h0, xz_ci (show a0 < 25 by omega) (by omega), xz_cl (by omega), r17, h.2.2.1, nI_add]
  by_cases z : nI (pTm ev ne a0 + w) < M 8 1
  · rw [if_pos z, if_pos z, xz_a0, xm_up_same rfl]
  · rw [if_neg z, if_neg z, xz_lt]
theorem dR.fr (h : dR T wr pl cm M N) (hx : ∀ j, j = 3 ∨ j = 4 ∨ j = 5 ∨ j = 12 → M' 8 j = M 8 j) (hn : N' 0 10 = N 0 10) (hn2 : N' 0 14 = N 0 14) (h10 : N' 10 = N 10) (ht : T → M' 8 13 = N' 0 11 ∧ M' 8 14 = N' 0 12) : dR T wr pl cm M' N' := by
  obtain ⟨d1, d2, d3, d4⟩ := h
  refine ⟨by rw [hx 12 (by omega)]; exact d1, by rw [hn]; exact d2, ht, ?_⟩
  cases wr with
  | none => exact ⟨by rw [hx 3 (by omega)]; exact d4.1, by rw [hn2]; exact d4.2⟩
  | some ri =>
    obtain ⟨rk, ix⟩ := ri
    obtain ⟨q1, q2, q3, q4, q5, q6⟩ := d4
    exact ⟨by rw [hx 3 (by omega)]; exact q1, by rw [hn2]; exact q2, by rw [hx 4 (by omega)]; exact q3, q4, q5, by rw [hx 5 (by omega), h10]; exact q6⟩
theorem fit_su (hb : 0 < d → lB (pKd ev ne) (br d) (at0 (d - 1)) q = false) : fit ev ne kd br w ru at0 d q = ((decide (pKd ev ne q = kd d) && (decide (d = 0) || rO ru (pVl ev ne (at0 (d - 1))) (pVl ev ne q))) && decide (d = 0 ∨ pTm ev ne q ≤ pTm ev ne (at0 0) + w)) := by
  unfold fit
  by_cases e : d = 0
  · rw [decide_eq_true e, decide_eq_true (Or.inl e), Bool.true_or, Bool.true_or, Bool.and_true, Bool.and_true]
  · have e2 : decide (d = 0 ∨ pTm ev ne q ≤ pTm ev ne (at0 0) + w) = decide (pTm ev ne q ≤ pTm ev ne (at0 0) + w) := by
      by_cases g : pTm ev ne q ≤ pTm ev ne (at0 0) + w
      · rw [decide_eq_true g, decide_eq_true (Or.inr g)]
      · rw [decide_eq_false g, decide_eq_false (by omega)]
    rw [decide_eq_false e, hb (by omega), e2, Bool.not_false, Bool.or_true, Bool.and_true, Bool.false_or, Bool.false_or]
    cases decide (pKd ev ne q = kd d) <;> cases decide (pTm ev ne q ≤ pTm ev ne (at0 0) + w) <;> cases rO ru (pVl ev ne (at0 (d - 1))) (pVl ev ne q) <;> rfl
theorem fit_bar {q' : Nat} (hd : 0 < d) (hl : at0 (d - 1) < q) (hq : q < q') (hk : pKd ev ne q = br d) (h8 : pKd ev ne q < 8) : fit ev ne kd br w ru at0 d q' = false := by
  have e : lB (pKd ev ne) (br d) (at0 (d - 1)) q' = true := (lB_i _ _ _ _).mpr ⟨q, hq, hl, hk⟩
  unfold fit
  rw [e, decide_eq_false (show ¬ d = 0 by omega), decide_eq_false (show ¬ br d = 8 by omega), Bool.not_true, Bool.or_false, Bool.and_false, Bool.and_false, Bool.or_false, Bool.and_false]
theorem fit_late {q' : Nat} (hd : 0 < d) (h : ¬ pTm ev ne q' ≤ pTm ev ne (at0 0) + w) : fit ev ne kd br w ru at0 d q' = false := by
  unfold fit
  rw [decide_eq_false (show ¬ d = 0 by omega), decide_eq_false h, Bool.false_and, Bool.or_false, Bool.and_false]
end JNT
