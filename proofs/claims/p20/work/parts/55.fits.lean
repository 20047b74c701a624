/-! LAYER 2: what fits a step -/
def pO (ev : Nat → Nat × Nat × Nat) (ne q : Nat) : Nat := io (eT ev) ne q
def pKd (ev : Nat → Nat × Nat × Nat) (ne q : Nat) : Nat := (ev (pO ev ne q)).1
def pVl (ev : Nat → Nat × Nat × Nat) (ne q : Nat) : Nat := (ev (pO ev ne q)).2.1
def pTm (ev : Nat → Nat × Nat × Nat) (ne q : Nat) : Nat := (ev (pO ev ne q)).2.2
def sX (ev : Nat → Nat × Nat × Nat) (ne : Nat) (kd br : Nat → Nat) (pl w ru : Nat) (M : xm_M) : Prop := xL ev (io (eT ev) ne) ne M ∧ xK kd br pl M ∧ M 8 6 = nI w ∧ M 8 7 = nI ru
def sM (ev : Nat → Nat × Nat × Nat) (ne : Nat) (kd br : Nat → Nat) (pl w ru p : Nat) (N : xm_M) : Prop := mE ev ne (N 1) ∧ (∀ k, k < ne → N 5 k = nI (pO ev ne k)) ∧ mK kd br pl N ∧ N 1 (79 + 10 * p + 0) = nI w ∧ N 1 (79 + 10 * p + 1) = nI ru
def sW (ev : Nat → Nat × Nat × Nat) (ne : Nat) (kd br : Nat → Nat) (pl w ru p : Nat) : Prop := ne ≤ 25 ∧ eW ev ne ∧ (∀ j, kd j < 8) ∧ (∀ j, br j ≤ 8) ∧ br 0 = 8 ∧ 1 ≤ pl ∧ pl ≤ 4 ∧ w ≤ 1000 ∧ ru ≤ 2 ∧ p < 4
def rO (ru a b : Nat) : Bool := decide (ru = 0 ∨ (ru = 1 ∧ a < b) ∨ (ru = 2 ∧ a = b))
def lB (K : Nat → Nat) (b a : Nat) : Nat → Bool
  | 0 => false
  | i + 1 => lB K b a i || decide (a < i ∧ K i = b)
theorem lB_i (K : Nat → Nat) (b a : Nat) : ∀ i, lB K b a i = true ↔ ∃ r, r < i ∧ a < r ∧ K r = b
  | 0 => ⟨fun h => absurd h (by rw [lB]; decide), fun ⟨r, h, _⟩ => absurd h (Nat.not_lt_zero r)⟩
  | i + 1 => by
    rw [lB, Bool.or_eq_true, lB_i K b a i, decide_eq_true_eq]
    constructor
    · rintro (⟨r, h1, h2, h3⟩ | ⟨h1, h2⟩)
      · exact ⟨r, by omega, h2, h3⟩
      · exact ⟨i, by omega, h1, h2⟩
    · rintro ⟨r, h1, h2, h3⟩
      by_cases e : r = i
      · exact Or.inr ⟨by omega, by rw [← e]; exact h3⟩
      · exact Or.inl ⟨r, by omega, h2, h3⟩
theorem lB_0 (K : Nat → Nat) (b a i : Nat) (h : i ≤ a + 1) : lB K b a i = false := by
  rcases Bool.eq_false_or_eq_true (lB K b a i) with q | q
  · obtain ⟨r, h1, h2, _⟩ := (lB_i K b a i).mp q
    omega
  · exact q
section FIT
variable {ev : Nat → Nat × Nat × Nat} {ne : Nat} {kd br : Nat → Nat} {pl w ru p : Nat} {M N M' N' : xm_M} {at0 : Nat → Nat} {d q : Nat}
theorem sX.fr (h : sX ev ne kd br pl w ru M) (hk : ∀ k, k = 9 ∨ k = 10 ∨ (13 ≤ k ∧ k ≤ 17) → M' k = M k) (h8 : ∀ j, 6 ≤ j → j ≤ 8 → M' 8 j = M 8 j) : sX ev ne kd br pl w ru M' := by
  obtain ⟨⟨a1, a2⟩, ⟨a3, a4⟩, a5, a6⟩ := h
  refine ⟨⟨by rw [hk 13 (by omega)]; exact a1, fun k hq => ?_⟩, ⟨by rw [h8 8 (by omega) (by omega)]; exact a3, fun j hj => ?_⟩, by rw [h8 6 (by omega) (by omega)]; exact a5, by rw [h8 7 (by omega) (by omega)]; exact a6⟩
  · rw [hk 14 (by omega), hk 15 (by omega), hk 16 (by omega), hk 17 (by omega)]; exact a2 k hq
  · rw [hk 9 (by omega), hk 10 (by omega)]; exact a4 j hj
theorem sM.fr (h : sM ev ne kd br pl w ru p N) (h1 : N' 1 = N 1) (h5 : N' 5 = N 5) (h6 : N' 6 = N 6) (h7 : N' 7 = N 7) : sM ev ne kd br pl w ru p N' := by
  obtain ⟨a1, a2, a3, a4, a5⟩ := h
  refine ⟨by rw [h1]; exact a1, by rw [h5]; exact a2, fun j hj => by rw [h6, h7]; exact a3 j hj, by rw [h1]; exact a4, by rw [h1]; exact a5⟩
theorem sW.t (hW : sW ev ne kd br pl w ru p) (hq : q < ne) : pO ev ne q < ne ∧ pKd ev ne q < 8 ∧ pVl ev ne q ≤ 99 ∧ pTm ev ne q ≤ 9999 := by
  have := io_lt (eT ev) ne q hq
  exact ⟨this, hW.2.1 _ this⟩
theorem x_win (hW : sW ev ne kd br pl w ru p) (h : sX ev ne kd br pl w ru M) (hd : d < 4) (ha : 0 < d → M 11 0 = nI (at0 0) ∧ at0 0 < ne) (hq : q < ne) {n : Nat} : f_X3_isInWindow n M (nI d) (nI q) = some (tb (decide (d = 0 ∨ pTm ev ne q ≤ pTm ev ne (at0 0) + w)), M) := by
  have h25 := hW.1
  have hw := hW.2.2.2.2.2.2.2.1
  unfold f_X3_isInWindow
  by_cases e : d = 0
  · rw [if_pos (by rw [e]; rfl), decide_eq_true (show d = 0 ∨ pTm ev ne q ≤ pTm ev ne (at0 0) + w from Or.inl e)]; rfl
  · obtain ⟨a1, a2⟩ := ha (by omega)
    have t1 := hW.t hq
    have t2 := hW.t a2
    have r1 : M 17 q = nI (pTm ev ne q) := (h.1.2 q hq).2.2.2
    have r2 : M 17 (at0 0) = nI (pTm ev ne (at0 0)) := (h.1.2 (at0 0) a2).2.2.2
    rw [if_neg (mt (xz_ec (c := 0) 0 rfl (by omega) (by omega)).mp e), xz_t0, a1, xz_ci (show q < 25 by omega) (by omega), xz_i7, xz_ct, xz_ci (show at0 0 < 25 by omega) (by omega), xz_cl (by omega), xz_cl (by omega), r1, r2, h.2.2.1, nI_add]
    by_cases g : pTm ev ne q ≤ pTm ev ne (at0 0) + w
    · rw [if_neg (mt (xz_l (by omega) (by omega)).mp (by omega)), decide_eq_true (show d = 0 ∨ _ from Or.inr g)]; rfl
    · rw [if_pos ((xz_l (by omega) (by omega)).mpr (by omega)), decide_eq_false (show ¬ (d = 0 ∨ pTm ev ne q ≤ pTm ev ne (at0 0) + w) by omega)]; rfl
theorem x_suits (hW : sW ev ne kd br pl w ru p) (h : sX ev ne kd br pl w ru M) (hd : d < pl) (ha : 0 < d → M 11 (d - 1) = nI (at0 (d - 1)) ∧ at0 (d - 1) < ne) (hq : q < ne) {n : Nat} : f_X3_suits n M (nI d) (nI q) = some (tb (decide (pKd ev ne q = kd d) && (decide (d = 0) || rO ru (pVl ev ne (at0 (d - 1))) (pVl ev ne q))), M) := by
  have h25 := hW.1
  have h4 := hW.2.2.2.2.2.2.1
  have hr := hW.2.2.2.2.2.2.2.2.1
  have t1 := hW.t hq
  have k8 := hW.2.2.1 d
  have r1 : M 15 q = nI (97 + pKd ev ne q) := (h.1.2 q hq).2.1
  have r2 : M 16 q = nI (pVl ev ne q) := (h.1.2 q hq).2.2.1
  unfold f_X3_suits
  rw [xz_ci (show q < 25 by omega) (by omega), xz_ci (show d < 4 by omega) (by omega), xz_cl (by omega), xz_cl (by omega), r1, (h.2.1.2 d hd).1]
  by_cases e : pKd ev ne q = kd d
  · rw [if_pos (by rw [e]), decide_eq_true e, Bool.true_and]
    by_cases e0 : d = 0
    · rw [if_pos (by rw [e0]; rfl), decide_eq_true e0, Bool.true_or]; rfl
    · obtain ⟨a1, a2⟩ := ha (by omega)
      have t2 := hW.t a2
      obtain ⟨d', rfl⟩ : ∃ d', d = d' + 1 := ⟨d - 1, by omega⟩
      rw [Nat.add_sub_cancel] at a1 a2 t2 ⊢
      have r3 : M 16 (at0 d') = nI (pVl ev ne (at0 d')) := (h.1.2 _ a2).2.2.1
      rw [if_neg (mt (xz_ec (c := 0) 0 rfl (by omega) (by omega)).mp e0), decide_eq_false e0, Bool.false_or, h.2.2.2, rO, nI_pred, xz_ci (show d' < 4 by omega) (by omega), xz_cl (show d' < 2 ^ 31 by omega), a1, xz_ci (show at0 d' < 25 by omega) (by omega), xz_cl (by omega), r2, r3, xz_ci (show q < 25 by omega) (by omega)]
      rcases (show ru = 0 ∨ ru = 1 ∨ ru = 2 by omega) with g | g | g
      · rw [g, if_pos (show nI 0 = 0 from rfl), decide_eq_true (Or.inl rfl)]; rfl
      · rw [g, if_neg (show ¬ nI 1 = 0 by decide), if_pos (show nI 1 = 1 from rfl)]
        by_cases l : pVl ev ne (at0 d') < pVl ev ne q
        · rw [if_neg (mt (xz_le (by omega) (by omega)).mp (by omega)), decide_eq_true (Or.inr (Or.inl ⟨rfl, l⟩))]; rfl
        · rw [if_pos ((xz_le (by omega) (by omega)).mpr (by omega)), decide_eq_false (by omega)]; rfl
      · rw [g, if_neg (show ¬ nI 2 = 0 by decide), if_neg (show ¬ nI 2 = 1 by decide)]
        by_cases l : pVl ev ne (at0 d') = pVl ev ne q
        · rw [if_pos ((xz_e (by omega) (by omega)).mpr l.symm), decide_eq_true (Or.inr (Or.inr ⟨rfl, l⟩)), xz_ci (show q < 25 by omega) (by omega)]; rfl
        · rw [if_neg (mt (xz_e (by omega) (by omega)).mp (fun t => l t.symm)), decide_eq_false (by omega), xz_ci (show q < 25 by omega) (by omega)]; rfl
  · rw [if_neg (fun t => e (by have := (xz_e (by omega) (by omega)).mp t; omega)), decide_eq_false e, Bool.false_and]; rfl
theorem x_bar (hW : sW ev ne kd br pl w ru p) (h : sX ev ne kd br pl w ru M) (hd : d < pl) (hq : q < ne) : (M 15 q = M 10 d) ↔ pKd ev ne q = br d := by
  have t1 := hW.t hq
  have b8 := hW.2.2.2.1 d
  have r1 : M 15 q = nI (97 + pKd ev ne q) := (h.1.2 q hq).2.1
  rw [r1, (h.2.1.2 d hd).2, bX]
  by_cases e : br d = 8
  · rw [if_pos e]
    constructor
    · intro t
      exact absurd t (mt (xz_ec (c := 0) 0 rfl (by omega) (by omega)).mp (by omega))
    · intro t
      omega
  · rw [if_neg e, xz_e (by omega) (by omega)]
    omega
/-- what fits, all in all -/
def fit (ev : Nat → Nat × Nat × Nat) (ne : Nat) (kd br : Nat → Nat) (w ru : Nat) (at0 : Nat → Nat) (d q : Nat) : Bool := decide (pKd ev ne q = kd d) && (decide (d = 0) || (decide (pTm ev ne q ≤ pTm ev ne (at0 0) + w) && (rO ru (pVl ev ne (at0 (d - 1))) (pVl ev ne q) && (decide (br d = 8) || !(lB (pKd ev ne) (br d) (at0 (d - 1)) q)))))
end FIT
