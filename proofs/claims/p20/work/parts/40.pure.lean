/-! LAYER 2, base: pure rows over the memory, no machine -/
theorem xm_up_ap (M : xm_M) (r j : Nat) (v : Int32) (k i : Nat) : xm_up M r j v k i = if k = r ∧ i = j then v else M k i := by
  unfold xm_up xm_row upd
  by_cases hk : k = r
  · subst hk
    by_cases hi : i = j <;> simp [hi]
  · simp [hk]
theorem xm_up_s (M : xm_M) (r j : Nat) (v : Int32) : xm_up M r j v r j = v := by rw [xm_up_ap, if_pos ⟨rfl, rfl⟩]
theorem xm_up_r (M : xm_M) {r j : Nat} (v : Int32) {k : Nat} (h : k ≠ r) : xm_up M r j v k = M k := by
  funext i
  rw [xm_up_ap, if_neg (fun q => h q.1)]
theorem xm_up_k (M : xm_M) {r j : Nat} (v : Int32) {k i : Nat} (h : k ≠ r) : xm_up M r j v k i = M k i := by rw [xm_up_r M v h]
theorem xm_up_j (M : xm_M) {r j : Nat} (v : Int32) {k i : Nat} (h : i ≠ j) : xm_up M r j v k i = M k i := by rw [xm_up_ap, if_neg (fun q => h q.2)]
theorem xz_lt {α β : Type} (x : α) (f : α → Option β) : xm_lt x f = f x := rfl
theorem xz_b2 {β : Type} (r : Int32) (M : xm_M) (f : Int32 → xm_M → Option β) : xm_b2 (some (r, M)) f = f r M := rfl
theorem xz_b1 {β : Type} (M : xm_M) (f : xm_M → Option β) : xm_b1 (some M) f = f M := rfl
theorem xz_ct {α : Type} (x : Option α) : xm_ck true x = x := rfl
theorem xz_in {i n : Nat} (h : i < n) (hn : n ≤ 1000) : xm_in (nI i) n = true := by
  unfold xm_in
  exact decide_eq_true (vp_in_nI (n := i) (N := n) h (by omega))
theorem xz_ci {α : Type} {i n : Nat} {x : Option α} (h : i < n) (hn : n ≤ 1000) : xm_ck (xm_in (nI i) n) x = x := by rw [xz_in h hn]; rfl
theorem xz_cl {i : Nat} (h : i < 2 ^ 31) : (nI i).toNatClampNeg = i := nI_clamp h
theorem xz_i0 : xm_in 0 119 = true := by decide
theorem xz_i1 : xm_in 1 119 = true := by decide
theorem xz_i2 : xm_in 2 119 = true := by decide
theorem xz_i3 : xm_in 3 119 = true := by decide
theorem xz_i4 : xm_in 0 11 = true := by decide
theorem xz_i5 : xm_in 1 11 = true := by decide
theorem xz_i6 : xm_in 2 11 = true := by decide
theorem xz_i7 : xm_in 0 4 = true := by decide
theorem xz_t0 : (0 : Int32).toNatClampNeg = 0 := by decide
theorem xz_t1 : (1 : Int32).toNatClampNeg = 1 := by decide
theorem xz_t2 : (2 : Int32).toNatClampNeg = 2 := by decide
theorem xz_t3 : (3 : Int32).toNatClampNeg = 3 := by decide
/-- narrowing leaves small numbers -/
theorem xz_nc {k : Nat} (h : k < 65536) : vp_nar .char (nI k) = nI k := by
  have := (pk_charN h).1
  rw [xm_nar_c] at this
  exact Value.int.inj this
theorem xz_nz : ∀ k, k < 2 → vp_nar .boolean (nI k) = nI k := by decide +kernel
/-- compares of numbers -/
theorem xz_le {a b : Nat} (ha : a < 2 ^ 31) (hb : b < 2 ^ 31) : nI a ≤ nI b ↔ a ≤ b := nI_leI ha hb
theorem xz_l {a b : Nat} (ha : a < 2 ^ 31) (hb : b < 2 ^ 31) : nI a < nI b ↔ a < b := nI_ltI ha hb
theorem xz_e {a b : Nat} (ha : a < 2 ^ 31) (hb : b < 2 ^ 31) : nI a = nI b ↔ a = b := nI_eq ha hb
theorem xz_sle {a b c : Nat} (ha : a < 2 ^ 30) (hb : b < 2 ^ 30) (hc : c < 2 ^ 30) : nI a - nI b ≤ nI c ↔ a ≤ c + b := by
  rw [Int32.le_iff_toInt_le, pk_sub_toInt ha hb, nI_toInt (by omega)]
  omega
theorem xz_s0 {a b : Nat} (ha : a < 2 ^ 30) (hb : b < 2 ^ 30) : (0 : Int32) < nI a - nI b ↔ b < a := by
  rw [Int32.lt_iff_toInt_lt, pk_sub_toInt ha hb, Int32.toInt_zero]
  omega
theorem xz_s1 {a b : Nat} (ha : a < 2 ^ 30) (hb : b < 2 ^ 30) : (0 : Int32) ≤ nI a - nI b ↔ b ≤ a := by
  rw [Int32.le_iff_toInt_le, pk_sub_toInt ha hb, Int32.toInt_zero]
  omega
theorem xz_s2 {a b : Nat} (ha : a < 2 ^ 30) (hb : b < 2 ^ 30) : nI a - nI b = 0 ↔ a = b := by
  rw [← Int32.toInt_inj, pk_sub_toInt ha hb, Int32.toInt_zero]
  omega
theorem xz_s3 {a b : Nat} (ha : a < 2 ^ 30) (hb : b < 2 ^ 30) : nI a - nI b ≤ 0 ↔ a ≤ b := by
  rw [Int32.le_iff_toInt_le, pk_sub_toInt ha hb, Int32.toInt_zero]
  omega
/-- an argument: out of a range, or a number in it -/
theorem xz_rng (x : Int32) (lo hi : Nat) (hlo : lo < 2 ^ 31) (hhi : hi < 2 ^ 31) : (x < nI lo ∨ nI hi < x) ∨ ∃ j, lo ≤ j ∧ j ≤ hi ∧ x = nI j := by
  by_cases h1 : x < nI lo
  · exact Or.inl (Or.inl h1)
  · by_cases h2 : nI hi < x
    · exact Or.inl (Or.inr h2)
    · refine Or.inr ?_
      have h0 : ¬ x < 0 := by
        intro q
        rw [Int32.lt_iff_toInt_lt, nI_toInt hlo] at h1
        rw [Int32.lt_iff_toInt_lt, Int32.toInt_zero] at q
        omega
      obtain ⟨j, hj, rfl⟩ := nI_of h0
      rw [xz_l hj hlo] at h1
      rw [xz_l hhi hj] at h2
      exact ⟨j, by omega, by omega, rfl⟩
theorem xz_iw0 {n : Nat} {M : xm_M} {x lo hi : Int32} (h : x < lo ∨ hi < x) : f_X6_isWithin n M x lo hi = some (0, M) := by
  unfold f_X6_isWithin
  rcases h with h | h
  · rw [if_pos h]
  · by_cases h1 : x < lo
    · rw [if_pos h1]
    · rw [if_neg h1, if_pos h]
theorem xz_iw1 {n : Nat} {M : xm_M} {j lo hi : Nat} (h1 : lo ≤ j) (h2 : j ≤ hi) (hh : hi < 2 ^ 31) : f_X6_isWithin n M (nI j) (nI lo) (nI hi) = some (1, M) := by
  unfold f_X6_isWithin
  rw [if_neg (by rw [xz_l (by omega) (by omega)]; omega), if_neg (by rw [xz_l (by omega) (by omega)]; omega)]
theorem xz_wide {x : Int32} {k : Nat} (hk : k < 2 ^ 31) : (x.toInt64 < lN k ↔ x < nI k) ∧ (lN k < x.toInt64 ↔ nI k < x) := by
  rw [← nI_l hk]
  simp only [Int64.lt_iff_toInt_lt, Int32.lt_iff_toInt_lt, Int32.toInt_toInt64]
  exact ⟨trivial, trivial⟩
/-- the range up to a number less one -/
theorem xz_top {x : Int32} {k : Nat} (hk : k < 2 ^ 31) : ((nI k).toInt64 - 1 < x.toInt64 ↔ nI k ≤ x) := by
  have e1 : ((nI k).toInt64 - 1).toInt = (k : Int) - 1 := by
    rw [nI_l hk]
    rcases Nat.eq_zero_or_pos k with rfl | h
    · decide
    · have : lN k - 1 = lN (k - 1) := lN_sub h
      rw [this, lN_toInt (by omega)]
      omega
  rw [Int64.lt_iff_toInt_lt, Int32.le_iff_toInt_le, Int32.toInt_toInt64, e1, nI_toInt hk]
  omega
theorem xz_idx (x : Int32) (k : Nat) (hk : k < 2 ^ 31) : (x < 0 ∨ nI k ≤ x) ∨ ∃ j, j < k ∧ x = nI j := by
  rcases pk_ix x hk with h | h | h
  · exact Or.inl (Or.inl h)
  · exact Or.inl (Or.inr h)
  · exact Or.inr h
/-- a loop that counts up: f its picture (fuel, memory, counter), e its end, K the fuel that its body and its end want -/
theorem xz_for {ρ : Type} (f : Nat → xm_M → Nat → Option ρ) (e K : Nat) (I : Nat → xm_M → Prop) (Qf : ρ → Prop) (hx : ∀ n M, K ≤ n → I e M → ∃ r, f (n + 1) M e = some r ∧ Qf r) (hs : ∀ n i M, K ≤ n → i < e → I i M → ∃ M', I (i + 1) M' ∧ f (n + 1) M i = f n M' (i + 1)) : ∀ n i M, i ≤ e → e - i + K < n → I i M → ∃ r, f n M i = some r ∧ Qf r := by
  intro n
  induction n with
  | zero => intro i M _ h; omega
  | succ n ih =>
    intro i M hi hn hI
    by_cases he : i = e
    · subst he
      exact hx n M (by omega) hI
    · obtain ⟨M', hI', hf⟩ := hs n i M (by omega) (by omega) hI
      rw [hf]
      exact ih (i + 1) M' (by omega) (by omega) hI'
/-- compares of a written number with a number, by what the number is -/
theorem xz_cle {c : Int32} (k : Nat) (hc : c = nI k) (hk : k < 2 ^ 31) {i : Nat} (hi : i < 2 ^ 31) : c ≤ nI i ↔ k ≤ i := by rw [hc, xz_le hk hi]
theorem xz_clt {c : Int32} (k : Nat) (hc : c = nI k) (hk : k < 2 ^ 31) {i : Nat} (hi : i < 2 ^ 31) : c < nI i ↔ k < i := by rw [hc, xz_l hk hi]
theorem xz_lec {c : Int32} (k : Nat) (hc : c = nI k) (hk : k < 2 ^ 31) {i : Nat} (hi : i < 2 ^ 31) : nI i ≤ c ↔ i ≤ k := by rw [hc, xz_le hi hk]
theorem xz_ltc {c : Int32} (k : Nat) (hc : c = nI k) (hk : k < 2 ^ 31) {i : Nat} (hi : i < 2 ^ 31) : nI i < c ↔ i < k := by rw [hc, xz_l hi hk]
theorem xz_ec {c : Int32} (k : Nat) (hc : c = nI k) (hk : k < 2 ^ 31) {i : Nat} (hi : i < 2 ^ 31) : nI i = c ↔ i = k := by rw [hc, xz_e hi hk]
theorem xz_10 : ¬ (1 : Int32) = 0 := by decide
theorem xz_00 : (0 : Int32) = 0 := rfl
