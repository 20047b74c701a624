/-! THE LAW, pure: isStep -/
/-- both streams, how new the newest time can be, that patterns end with plain steps, and no event is newer than the newest time -/
def sOK (B : Nat) (A : xa_S) : Prop := A.1.2.1 ≤ B ∧ (∀ j, j < A.1.2.2.2 → pL (A.2.2 j)) ∧ ∀ i, i < A.1.1 → (A.2.1 i).2.2 ≤ A.1.2.1
def sI (B : Nat) (M N : xm_M) : Prop := ∃ (A : xa_S) (h : Nat → xa_S) (hn ho : Nat) (tx tx' : Nat → Nat) (tl : Nat), jI A h hn ho tx tx' tl M N ∧ sOK B A ∧ ∀ i, i < hn → sOK B (h i)
theorem sOK.le {B C : Nat} {A : xa_S} (h : sOK B A) (hBC : B ≤ C) : sOK C A := ⟨Nat.le_trans h.1 hBC, h.2⟩
theorem xh_push_B {p : xa_S → Prop} {A : xa_S} {h : Nat → xa_S} {hn : Nat} (hA : p A) (hh : ∀ i, i < hn → p (h i)) : ∀ i, i < xh_n hn → p (xh_push A h hn i) := by
  intro i hi
  unfold xh_n at hi
  unfold xh_push
  by_cases q : hn < 4
  · rw [if_pos q] at hi ⊢
    by_cases e : i = hn
    · rw [if_pos e]; exact hA
    · rw [if_neg e]; exact hh i (by omega)
  · rw [if_neg q] at hi ⊢
    by_cases e : i = 3
    · rw [if_pos e]; exact hA
    · rw [if_neg e]; exact hh (i + 1) (by omega)
theorem sI.le {B C : Nat} {M N : xm_M} (h : sI B M N) (hBC : B ≤ C) : sI C M N := by
  obtain ⟨A, h, hn, ho, tx, tx', tl, h1, h2, h3⟩ := h
  exact ⟨A, h, hn, ho, tx, tx', tl, h1, h2.le hBC, fun i hi => (h3 i hi).le hBC⟩
theorem xf_new {A : xa_S} {t w : Nat} (h : ∀ i, i < A.1.1 → (A.2.1 i).2.2 ≤ w) : ∀ i, i ≤ A.1.1 → ∀ k, k < xf_c A t i → (xf_e A t i k).2.2 ≤ w
  | 0, _, k, hk => absurd hk (Nat.not_lt_zero k)
  | i + 1, hi, k, hk => by
    rw [xf_e1]
    by_cases q : t ≤ (A.2.1 i).2.2 ∧ k = xf_c A t i
    · rw [if_pos q]
      exact h i (by omega)
    · rw [if_neg q]
      refine xf_new h i (by omega) k ?_
      rw [xf_c] at hk
      by_cases q2 : t ≤ (A.2.1 i).2.2
      · rw [if_pos q2] at hk
        have : ¬ k = xf_c A t i := fun z => q ⟨q2, z⟩
        omega
      · rw [if_neg q2] at hk
        exact hk
section LS
variable {A : xa_S} {h : Nat → xa_S} {hn ho : Nat} {tx tx' : Nat → Nat} {tl B : Nat} {M N : xm_M}
/-- after an act on both -/
theorem sI_act {A' : xa_S} (hB : sOK B A) (hh : ∀ i, i < hn → sOK B (h i)) (hA : sOK (B + 17) A') (h1 : yI A' (xh_push A h hn) (xh_n hn) (xh_o ho hn) tx tl M) (h2 : yI (mirS A') (xh_push (mirS A) (fun i => mirS (h i)) hn) (xh_n hn) (xh_o ho hn) tx' tl N) : sI (B + 17) M N := by
  rw [m_push] at h2
  exact ⟨A', _, _, _, tx, tx', tl, ⟨h1, h2⟩, hA, fun i hi => (xh_push_B (p := sOK B) hB hh i hi).le (by omega)⟩
theorem sI_same (hB : sOK B A) (hh : ∀ i, i < hn → sOK B (h i)) (h1 : yI A h hn ho tx tl M) (h2 : yI (mirS A) (fun i => mirS (h i)) hn ho tx' tl N) : sI (B + 17) M N :=
  ⟨A, h, hn, ho, tx, tx', tl, ⟨h1, h2⟩, hB.le (by omega), fun i hi => (hh i hi).le (by omega)⟩
theorem xz_21 (v : Nat) : (2 : Int32) * nI v + 1 = nI (2 * v + 1) := by
  show nI 2 * nI v + 1 = _
  rw [pk_mul, nI_1]
theorem xz_t25 (w j : Nat) : nI w - 25 + nI j = nI (w + j) - nI 25 := by
  rw [← nI_add, Int32.sub_eq_add_neg, Int32.sub_eq_add_neg, Int32.add_assoc, Int32.add_assoc, Int32.add_comm (-25) (nI j)]
  rfl
theorem xz_neg (a b : Nat) : -(nI a - nI b) = nI b - nI a := Int32.neg_sub
/-- an event comes to both -/
theorem v_215 (h1 : yI A h hn ho tx tl M) (h2 : yI (mirS A) (fun i => mirS (h i)) hn ho tx' tl N) (hS : sOK B A) (hB9 : B ≤ 900) (hh : ∀ i, i < hn → sOK B (h i)) {k v t : Nat} (hk : k < 4) (hv : v ≤ 49) (ht : t ≤ A.1.2.1 + 16 ∨ t ≤ 25) (hB25 : 25 ≤ B) {n : Nat} (hn9 : 1000 < n) : ∃ M' N', f_L_isStep_172 n M N (nI A.1.1) (nI A.1.2.1) (nI A.1.2.2.1) (nI (97 + k)) (nI v) (nI t) = some (1, M', N') ∧ sI (B + 17) M' N' := by
  have hB := hS.1
  have w0 := h1.1.1.1
  have w1 := h1.1.1.2.1
  have w2 := h1.1.1.2.2.1
  have ht9 : t ≤ 9999 := by omega
  have hnb : (if A.1.2.1 < t then t else A.1.2.1) ≤ B + 17 := by split <;> omega
  have ek : f_L_there n M N (nI (97 + k)) = some (nI (97 + (7 - k)), M, N) := v_there n M N (by omega)
  unfold f_L_isStep_172
  rw [cv8 _ (by omega)]
  by_cases hl : A.1.2.1 ≤ t + A.1.2.2.1
  · obtain ⟨M1, a1, a2⟩ := y_ifEvent h1 (k := k) (v := v) (t := t) (by omega) (by omega) ht9 hl
    have hle : nI A.1.2.1 - nI A.1.2.2.1 ≤ nI t := (xz_sle (by omega) (by omega) (by omega)).mpr hl
    by_cases h24 : A.1.1 = 24
    · have e1 := y_event1 a2 (k := k) (v := v) (t := t) (by omega) (by omega) ht9 hl h24 n
      have e2 := y_event1 h2 (k := 7 - k) (v := 2 * v + 1) (t := t) (by omega) (by omega) ht9 hl h24 n
      refine ⟨M1, N, ?_, sI_same hS hh a2 h2⟩
      rw [a1 n (by omega), xz_b2, e1, xz_b2, if_pos hle]
      unfold f_L_isStep_215
      rw [v_there n _ _ (show k < 8 by omega), xz_b3, xz_21, e2, xz_b2, if_pos rfl, if_pos rfl, if_pos (by rw [h24]; rfl), if_pos rfl]
    · obtain ⟨M2, e1, e3⟩ := y_event a2 (k := k) (v := v) (t := t) (by omega) (by omega) ht9 hl (by omega) (n := n) (by omega)
      obtain ⟨N2, e2, e4⟩ := y_event h2 (k := 7 - k) (v := 2 * v + 1) (t := t) (by omega) (by omega) ht9 hl (by show A.1.1 < 24; omega) (n := n) (by omega)
      have e2 : f_X6_event n N (nI (97 + (7 - k))) (nI (2 * v + 1)) (nI t) = some (nI A.1.1, N2) := e2
      rw [← mk_lt (show k < 8 by omega), m_event] at e4
      obtain ⟨M3, c1, c2⟩ := y_count e3 (w := 2) (by omega)
      obtain ⟨M4, c3, c4⟩ := y_count c2 (w := 3) (by omega)
      have c1 : f_X6_count n M2 2 = some (nI (allM (xe_A A k v t).2.1 (A.1.1 + 1) A.2.2 A.1.2.2.2), M3) := c1 n (by omega)
      have c3 : f_X6_count n M3 3 = some (nI (if A.1.2.1 < t then t else A.1.2.1), M4) := c3 n (by omega)
      have hnew : ∀ i, i < (xe_A A k v t).1.1 → ((xe_A A k v t).2.1 i).2.2 ≤ (xe_A A k v t).1.2.1 := fun i hi => by
        have hi : i < A.1.1 + 1 := hi
        show (if i = A.1.1 then (k, v, t) else A.2.1 i).2.2 ≤ (if A.1.2.1 < t then t else A.1.2.1)
        by_cases z : i = A.1.1
        · rw [if_pos z]
          show t ≤ _
          split <;> omega
        · rw [if_neg z]
          have := hS.2.2 i (by omega)
          split <;> omega
      refine ⟨M4, N2, ?_, sI_act (A' := xe_A A k v t) hS hh ⟨hnb, hS.2.1, hnew⟩ c4 e4⟩
      rw [a1 n (by omega), xz_b2, e1, xz_b2, if_pos hle]
      unfold f_L_isStep_215
      rw [v_there n _ _ (show k < 8 by omega), xz_b3, xz_21, e2, xz_b2, if_pos rfl, if_pos rfl, if_neg (mt (xz_ec (c := 24) 24 rfl (by omega) (by omega)).mp h24), if_pos rfl, c1, xz_b2, if_pos rfl, c3, xz_b2]
      by_cases q : A.1.2.1 < t
      · rw [if_neg (mt (xz_le (by omega) (by omega)).mp (by omega)), if_pos q, if_pos rfl]
      · rw [if_pos ((xz_le (by omega) (by omega)).mpr (by omega)), if_neg q, if_pos rfl]
  · have a1 := y_ifEvent0 h1 (k := k) (v := v) (t := t) (by omega) (by omega) ht9 hl n
    have e1 := y_event0 h1 (k := k) (v := v) (t := t) (by omega) (by omega) ht9 hl n
    have e2 := y_event0 h2 (k := 7 - k) (v := 2 * v + 1) (t := t) (by omega) (by omega) ht9 hl n
    refine ⟨M, N, ?_, sI_same hS hh h1 h2⟩
    rw [a1, xz_b2, e1, xz_b2, if_neg (mt (xz_sle (by omega) (by omega) (by omega)).mp hl)]
    unfold f_L_isStep_215
    rw [ek, xz_b3, xz_21, e2, xz_b2, if_pos rfl, if_neg xz_10, if_pos rfl, if_pos rfl]
theorem v_104 (h1 : yI A h hn ho tx tl M) (h2 : yI (mirS A) (fun i => mirS (h i)) hn ho tx' tl N) (hS : sOK B A) (hB9 : B ≤ 900) (hh : ∀ i, i < hn → sOK B (h i)) (hB25 : 25 ≤ B) (x3 x4 : Int32) {n : Nat} (hn9 : 1000 < n) : ∃ M' N', f_L_isStep_104 n M N x3 x4 (nI A.1.1) (nI A.1.2.1) (nI A.1.2.2.1) = some (1, M', N') ∧ sI (B + 17) M' N' := by
  obtain ⟨u1, hu1, e1⟩ := v_up n M N x4 (d := 4) (by omega) (by omega)
  obtain ⟨u2, hu2, e2⟩ := v_up n M N (x4 >>> ((6 : Int32) &&& 31)) (d := 4) (by omega) (by omega)
  obtain ⟨u3, hu3, e3⟩ := v_up n M N (x4 >>> ((3 : Int32) &&& 31)) (d := 50) (by omega) (by omega)
  obtain ⟨u4, hu4, e4⟩ := v_up n M N (x4 >>> ((3 : Int32) &&& 31)) (d := 6) (by omega) (by omega)
  obtain ⟨u5, hu5, e5⟩ := v_up n M N x3 (d := 42) (by omega) (by omega)
  have w1 := h1.1.1.2.1
  have hB := hS.1
  have e1 : f_L_up n M N x4 4 = some (nI u1, M, N) := e1
  have e2 : f_L_up n M N (x4 >>> ((6 : Int32) &&& 31)) 4 = some (nI u2, M, N) := e2
  have e3 : f_L_up n M N (x4 >>> ((3 : Int32) &&& 31)) 50 = some (nI u3, M, N) := e3
  have e4 : f_L_up n M N (x4 >>> ((3 : Int32) &&& 31)) 6 = some (nI u4, M, N) := e4
  have e5 : f_L_up n M N x3 42 = some (nI u5, M, N) := e5
  have k143 : ∀ v, v ≤ 49 → ∃ M' N', f_L_isStep_143 n M N x3 (nI A.1.1) (nI A.1.2.1) (nI A.1.2.2.1) (nI (97 + u1)) (nI v) = some (1, M', N') ∧ sI (B + 17) M' N' := fun v hv => by
    unfold f_L_isStep_143
    rw [e5, xz_b3, xz_t25]
    by_cases q : 25 ≤ A.1.2.1 + u5
    · rw [if_pos ((xz_s1 (by omega) (by omega)).mpr q), pk_sub q]
      exact v_215 h1 h2 hS hB9 hh hu1 hv (by omega) hB25 hn9
    · rw [if_neg (mt (xz_s1 (by omega) (by omega)).mp q), xz_neg, pk_sub (by omega)]
      exact v_215 h1 h2 hS hB9 hh hu1 hv (by omega) hB25 hn9
  have e97 : (97 : Int32) + nI u1 = nI (97 + u1) := nI_add 97 u1
  unfold f_L_isStep_104
  rw [e1, xz_b3, e2, xz_b3, e97]
  by_cases q : u2 = 0
  · rw [if_pos (by rw [q]; rfl), e3, xz_b3]
    exact k143 u3 (by omega)
  · rw [if_neg (mt (xz_ec (c := 0) 0 rfl (by omega) (by omega)).mp q), e4, xz_b3]
    exact k143 u4 (by omega)
/-- forget -/
theorem v_565 (h1 : yI A h hn ho tx tl M) (h2 : yI (mirS A) (fun i => mirS (h i)) hn ho tx' tl N) (hS : sOK B A) (hh : ∀ i, i < hn → sOK B (h i)) {t : Nat} (ht : t ≤ 9999) {n : Nat} (hn9 : 1000 < n) : ∃ M' N', f_L_isStep_565 n M N (nI A.1.1) (nI A.1.2.1) (nI t) = some (1, M', N') ∧ sI (B + 17) M' N' := by
  have w0 := h1.1.1.1
  have w1 := h1.1.1.2.1
  obtain ⟨M1, a1, a2⟩ := y_forget h1 ht (n := n) (by omega)
  obtain ⟨N1, b1, b2⟩ := y_forget h2 ht (n := n) (by omega)
  have hle := xf_le A t A.1.1
  have e9 : xf_c (mirS A) t (mirS A).1.1 = xf_c A t A.1.1 := by
    rw [m_fc]
    rfl
  have e8 : (mirS A).1.1 = A.1.1 := by rw [mirS_1]
  rw [e9, e8] at b1 b2
  unfold f_L_isStep_565
  by_cases hc : xf_c A t A.1.1 = A.1.1
  · obtain ⟨M2, c1, c2⟩ := y_count h1 (w := 0) (by omega)
    obtain ⟨M3, c3, c4⟩ := y_count c2 (w := 3) (by omega)
    have c1 : f_X6_count n M 0 = some (nI A.1.1, M2) := c1 n (by omega)
    have c3 : f_X6_count n M2 3 = some (nI A.1.2.1, M3) := c3 n (by omega)
    refine ⟨M3, N, ?_, sI_same hS hh c4 h2⟩
    rw [a1 hc, xz_b2, b1 hc, xz_b2, if_pos rfl, c1, xz_b2, if_neg (show ¬ (0 : Int32) ≤ -5 by decide), if_pos rfl, c3, xz_b2, if_pos rfl]
  · obtain ⟨f1, f2⟩ := a2 hc
    obtain ⟨g1, g2⟩ := b2 hc
    obtain ⟨M2, c1, c2⟩ := y_count f2 (w := 0) (by omega)
    obtain ⟨M3, c3, c4⟩ := y_count c2 (w := 3) (by omega)
    have c1 : f_X6_count n M1 0 = some (nI (xf_c A t A.1.1), M2) := c1 n (by omega)
    have c3 : f_X6_count n M2 3 = some (nI A.1.2.1, M3) := c3 n (by omega)
    have g3 : yI (mirS (xf_A A t)) (xh_push (mirS A) (fun i => mirS (h i)) hn) (xh_n hn) (xh_o ho hn) tx' tl N1 := by
      have hf1 : (mirS (xf_A A t)).1 = (xf_A (mirS A) t).1 := by
        rw [mirS_1]
        unfold xf_A
        rw [e9, mirS_1]
      refine y_ext g2 hf1 (fun i hi => ?_) rfl
      have hi : i < xf_c (mirS A) t (mirS A).1.1 := hi
      rw [e9] at hi
      exact (m_fe t A.1.1 i hi).symm
    refine ⟨M3, N1, ?_, sI_act (A' := xf_A A t) hS hh ⟨by show A.1.2.1 ≤ _; have := hS.1; omega, hS.2.1, xf_new (t := t) hS.2.2 A.1.1 (Nat.le_refl _)⟩ c4 g3⟩
    have e5 : nI A.1.1 - nI (A.1.1 - xf_c A t A.1.1) = nI (xf_c A t A.1.1) := by
      rw [pk_sub (by omega)]
      exact congrArg nI (by omega)
    rw [f1, xz_b2, g1, xz_b2, if_pos rfl, c1, xz_b2, if_pos ((xz_cle (c := 0) 0 rfl (by omega) (by omega)).mpr (Nat.zero_le _)), e5, if_pos rfl, c3, xz_b2, if_pos rfl]
/-- setWindow -/
theorem v_513 {A' : xa_S} {h' : Nat → xa_S} {hn' ho' : Nat} (h1 : yI A' h' hn' ho' tx tl M) {j w w0 m0 : Nat} (hj : j < A'.1.2.2.2) (hw : w ≤ 1000) (hw0 : w0 ≤ 1000) (hm0 : m0 < 2 ^ 30) (hm : ¬ w0 < w → patV A' j 4 ≤ m0) {n : Nat} (hn9 : 1000 < n) : ∃ M', f_L_isStep_513 n M N (nI j) (nI w) (nI w0) (nI m0) = some (1, M', N) ∧ yI A' h' hn' ho' tx tl M' := by
  unfold f_L_isStep_513
  by_cases q : w0 < w
  · rw [if_pos ((xz_l (by omega) (by omega)).mpr q)]
    exact ⟨M, rfl, h1⟩
  · obtain ⟨M1, c1, c2⟩ := y_pattern h1 hj (w := 4) (by omega)
    have c1 : f_X6_pattern n M (nI j) 4 = some (nI (patV A' j 4), M1) := c1 n (by omega)
    have := hm q
    rw [if_neg (mt (xz_l (by omega) (by omega)).mp q), c1, xz_b2, if_neg (mt (xz_l (by omega) (by omega)).mp (by omega))]
    exact ⟨M1, rfl, c2⟩
end LS
