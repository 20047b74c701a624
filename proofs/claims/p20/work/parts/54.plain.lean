/-! LAYER 2: the plain steps, and what is barred before each -/
def pn (c : Nat → Nat) : Nat → Nat
  | 0 => 8
  | i + 1 => if c i < 8 then 8 else c i - 8
def pkk (c : Nat → Nat) : Nat → Nat → Nat
  | 0, _ => 0
  | i + 1, j => if c i < 8 ∧ j = xa_ct c i then c i else pkk c i j
def pkb (c : Nat → Nat) : Nat → Nat → Nat
  | 0, _ => 8
  | i + 1, j => if c i < 8 ∧ j = xa_ct c i then pn c i else pkb c i j
def bX (b : Nat) : Int32 := if b = 8 then 0 else nI (97 + b)
def bM (b : Nat) : Int32 := if b = 8 then -5 else nI b
theorem xa_ct_le (c : Nat → Nat) : ∀ n i, i ≤ n → xa_ct c i ≤ xa_ct c n
  | 0, i, h => by
    have : i = 0 := by omega
    rw [this]
    exact Nat.le_refl _
  | n + 1, i, h => by
    by_cases e : i = n + 1
    · rw [e]; exact Nat.le_refl _
    · rw [xa_ct]
      have := xa_ct_le c n i (by omega)
      omega
theorem pn_lt {c : Nat → Nat} {n : Nat} (h : ∀ i, i < n → c i < 16) : ∀ i, i ≤ n → pn c i ≤ 8
  | 0, _ => Nat.le_refl _
  | i + 1, hi => by
    rw [pn]
    have := h i (by omega)
    split <;> omega
theorem pkk_lt (c : Nat → Nat) : ∀ i j, pkk c i j < 8
  | 0, j => by rw [pkk]; omega
  | i + 1, j => by
    rw [pkk]
    by_cases q : c i < 8 ∧ j = xa_ct c i
    · rw [if_pos q]; exact q.1
    · rw [if_neg q]; exact pkk_lt c i j
theorem pkb_le {c : Nat → Nat} {n : Nat} (h : ∀ i, i < n → c i < 16) : ∀ i j, i ≤ n → pkb c i j ≤ 8
  | 0, j, _ => by rw [pkb]; omega
  | i + 1, j, hi => by
    rw [pkb]
    by_cases q : c i < 8 ∧ j = xa_ct c i
    · rw [if_pos q]; exact pn_lt h i (by omega)
    · rw [if_neg q]; exact pkb_le h i j (by omega)
theorem pkb_0 (c : Nat → Nat) (h0 : c 0 < 8) : ∀ i, pkb c i 0 = 8
  | 0 => rfl
  | i + 1 => by
    rw [pkb]
    by_cases q : c i < 8 ∧ 0 = xa_ct c i
    · rw [if_pos q]
      have hi : i = 0 := by
        rcases Nat.eq_zero_or_pos i with g | g
        · exact g
        · have := xa_ct_le c i 1 g
          have e : xa_ct c 1 = 1 := by
            rw [xa_ct, xa_ct, if_pos h0]
          omega
      rw [hi]
      rfl
    · rw [if_neg q]; exact pkb_0 c h0 i
theorem bX_nc {b : Nat} (h : b ≤ 8) : vp_nar .char (bX b) = bX b := by
  unfold bX
  by_cases q : b = 8
  · rw [if_pos q]; exact xz_nc (k := 0) (by omega)
  · rw [if_neg q]; exact xz_nc (by omega)
def xK (kd br : Nat → Nat) (pl : Nat) (M : xm_M) : Prop := M 8 8 = nI pl ∧ ∀ j, j < pl → M 9 j = nI (97 + kd j) ∧ M 10 j = bX (br j)
def mK (kd br : Nat → Nat) (pl : Nat) (N : xm_M) : Prop := ∀ j, j < pl → N 6 j = nI (kd j) ∧ N 7 j = bM (br j)
section PLN
variable {P : xa_P} {M N : xm_M}
theorem x_plain {o : Nat} (ho : 11 ≤ o) (h : xa_XP P M o) (hW : xa_WP P) : ∃ M', (xK (pkk P.2 P.1.2.2.1) (pkb P.2 P.1.2.2.1) P.1.2.2.2 M' ∧ (∀ k, k ≠ 8 → k ≠ 9 → k ≠ 10 → M' k = M k) ∧ ∀ j, j ≠ 8 → M' 8 j = M 8 j) ∧ ∀ n, 20 < n → f_X3_takePlainSteps n M o = some M' := by
  obtain ⟨h0, h1, h2, h3, h4⟩ := h
  obtain ⟨w1, w2, w3, w4, w5, w6, w7, w8, w9⟩ := hW
  rw [w6]
  suffices hh : ∃ M', (xK (pkk P.2 P.1.2.2.1) (pkb P.2 P.1.2.2.1) (xa_ct P.2 P.1.2.2.1) M' ∧ (∀ k, k ≠ 8 → k ≠ 9 → k ≠ 10 → M' k = M k) ∧ ∀ j, j ≠ 8 → M' 8 j = M 8 j) ∧ ∀ n, P.1.2.2.1 + 1 < n → f_X3_takePlainSteps_9 n (xm_up M 8 8 0) o (bX (pn P.2 0)) (nI 0) = some M' by
    obtain ⟨M', q1, q2⟩ := hh
    exact ⟨M', q1, fun n hn => q2 n (by omega)⟩
  refine xz_forU (fun n M i => f_X3_takePlainSteps_9 n M o (bX (pn P.2 i)) (nI i)) P.1.2.2.1 1 (fun i M2 => xK (pkk P.2 i) (pkb P.2 i) (xa_ct P.2 i) M2 ∧ (∀ k, k ≠ 8 → k ≠ 9 → k ≠ 10 → M2 k = M k) ∧ ∀ j, j ≠ 8 → M2 8 j = M 8 j) _ ?_ ?_ P.1.2.2.1 0 _ (by omega) ⟨⟨xm_up_s _ _ _ _, fun j hj => absurd hj (Nat.not_lt_zero j)⟩, fun k k1 k2 k3 => xm_up_r _ _ k1, fun j hj => xm_up_j _ _ hj⟩
  · intro M2 hI
    refine ⟨M2, hI, fun n hK => ?_⟩
    show f_X3_takePlainSteps_9 (n + 1) M2 o (bX (pn P.2 P.1.2.2.1)) (nI P.1.2.2.1) = _
    rw [f_X3_takePlainSteps_9, hI.2.1 o (by omega) (by omega) (by omega), h2, if_pos ((xz_le (by omega) (by omega)).mpr (Nat.le_refl _))]
  · intro i M2 hi hI
    obtain ⟨⟨i1, i2⟩, i3, i4⟩ := hI
    obtain ⟨a1, a2⟩ := h4 i hi
    have c16 := w9 i hi
    have ple := pn_lt w9 i (by omega)
    have b0 : M2 o 2 = nI P.1.2.2.1 := by rw [i3 o (by omega) (by omega) (by omega)]; exact h2
    have b1 : M2 (o + 1) i = nI (97 + P.2 i % 8) := by rw [i3 (o + 1) (by omega) (by omega) (by omega)]; exact a1
    have b2 : M2 (o + 2) i = nI (P.2 i / 8) := by rw [i3 (o + 2) (by omega) (by omega) (by omega)]; exact a2
    by_cases q : P.2 i < 8
    · have l4 : xa_ct P.2 i < 4 := by
        have e1 := xa_ct_le P.2 P.1.2.2.1 (i + 1) (by omega)
        have e2 : xa_ct P.2 (i + 1) = xa_ct P.2 i + 1 := by rw [xa_ct, if_pos q]
        omega
      refine ⟨xm_up (xm_up (xm_up M2 9 (xa_ct P.2 i) (nI (97 + P.2 i))) 10 (xa_ct P.2 i) (bX (pn P.2 i))) 8 8 (nI (xa_ct P.2 i + 1)), ⟨⟨?_, fun j hj => ?_⟩, fun k k1 k2 k3 => ?_, fun j hj => ?_⟩, fun n hK => ?_⟩
      · rw [xm_up_s, xa_ct, if_pos q]
      · have e2 : xa_ct P.2 (i + 1) = xa_ct P.2 i + 1 := by rw [xa_ct, if_pos q]
        rw [e2] at hj
        rw [xm_up_k _ _ (show 9 ≠ 8 by omega), xm_up_k _ _ (show 9 ≠ 10 by omega), xm_up_k _ _ (show 10 ≠ 8 by omega), pkk, pkb]
        show _ = nI (97 + if P.2 i < 8 ∧ j = xa_ct P.2 i then P.2 i else pkk P.2 i j) ∧ _ = bX (if P.2 i < 8 ∧ j = xa_ct P.2 i then pn P.2 i else pkb P.2 i j)
        by_cases e : j = xa_ct P.2 i
        · rw [if_pos ⟨q, e⟩, if_pos ⟨q, e⟩, e, xm_up_s, xm_up_s]
          exact ⟨rfl, rfl⟩
        · rw [if_neg (fun t => e t.2), if_neg (fun t => e t.2), xm_up_j _ _ e, xm_up_j _ _ e, xm_up_k _ _ (show 10 ≠ 9 by omega)]
          exact i2 j (by omega)
      · rw [xm_up_r _ _ k1, xm_up_r _ _ k3, xm_up_r _ _ k2]; exact i3 k k1 k2 k3
      · rw [xm_up_j _ _ hj, xm_up_k _ _ (by omega), xm_up_k _ _ (by omega)]; exact i4 j hj
      · show f_X3_takePlainSteps_9 (n + 1) M2 o (bX (pn P.2 i)) (nI i) = f_X3_takePlainSteps_9 n _ o (bX (pn P.2 (i + 1))) (nI (i + 1))
        have e5 : pn P.2 (i + 1) = 8 := by rw [pn, if_pos q]
        rw [f_X3_takePlainSteps_9, b0, if_neg (mt (xz_le (by omega) (by omega)).mp (by omega)), xz_ci (show i < 8 by omega) (by omega), xz_cl (by omega), b2, if_pos ((xz_ec (c := 0) 0 rfl (by omega) (by omega)).mpr (by omega)), i1, if_neg (mt (xz_cle (c := 4) 4 rfl (by omega) (by omega)).mp (by omega)), xz_ci (show i < 8 by omega) (by omega), xz_ci (show xa_ct P.2 i < 4 by omega) (by omega), xz_lt, xm_up_k _ _ (show 8 ≠ 9 by omega), i1, xz_ci (show xa_ct P.2 i < 4 by omega) (by omega), xz_lt, xz_lt, xz_cl (by omega), xm_up_k _ _ (show 8 ≠ 10 by omega), xm_up_k _ _ (show 8 ≠ 9 by omega), i1, b1, xz_nc (by omega), bX_nc ple, nI_1, nI_1, e5, show P.2 i % 8 = P.2 i by omega]
        rfl
    · refine ⟨M2, ⟨⟨?_, fun j hj => ?_⟩, i3, i4⟩, fun n hK => ?_⟩
      · rw [i1, xa_ct, if_neg q]; rfl
      · rw [xa_ct, if_neg q] at hj
        rw [pkk, pkb]
        show _ = nI (97 + if P.2 i < 8 ∧ j = xa_ct P.2 i then P.2 i else pkk P.2 i j) ∧ _ = bX (if P.2 i < 8 ∧ j = xa_ct P.2 i then pn P.2 i else pkb P.2 i j)
        rw [if_neg (fun t => q t.1), if_neg (fun t => q t.1)]
        exact i2 j hj
      · show f_X3_takePlainSteps_9 (n + 1) M2 o (bX (pn P.2 i)) (nI i) = f_X3_takePlainSteps_9 n _ o (bX (pn P.2 (i + 1))) (nI (i + 1))
        have e5 : bX (pn P.2 (i + 1)) = nI (97 + P.2 i % 8) := by
          rw [pn, if_neg q, bX, if_neg (by omega)]
          exact congrArg nI (by omega)
        rw [f_X3_takePlainSteps_9, b0, if_neg (mt (xz_le (by omega) (by omega)).mp (by omega)), xz_ci (show i < 8 by omega) (by omega), xz_cl (by omega), b2, if_neg (mt (xz_ec (c := 0) 0 rfl (by omega) (by omega)).mp (by omega)), xz_ci (show i < 8 by omega) (by omega), b1, nI_1, e5]
end PLN
