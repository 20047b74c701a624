/-! THE LAW, pure: its small methods, and what it types -/
theorem v_up (n : Nat) (M N : xm_M) (x : Int32) {d : Nat} (h0 : 0 < d) (hd : d < 2 ^ 31) : ∃ j, j < d ∧ f_L_up n M N x (nI d) = some (nI j, M, N) := by
  obtain ⟨k, hk, e⟩ := pk_andE x (m := 2147483647) 31 (by decide)
  refine ⟨k % d, Nat.mod_lt _ h0, ?_⟩
  have ez : ¬ nI d = 0 := mt (xz_ec (c := 0) 0 rfl (by omega) (by omega)).mp (by omega)
  unfold f_L_up
  rw [decide_eq_true ez, xz_ct, e, pk_rem (d := d) (by omega) h0 (by omega)]
theorem cv8 : ∀ c, c < 256 → ((nI c).toUInt32 % 65536).toInt32 = nI c := by decide +kernel
theorem v_there (n : Nat) (M N : xm_M) {k : Nat} (hk : k < 8) : f_L_there n M N (nI (97 + k)) = some (nI (97 + (7 - k)), M, N) := by
  have e : (201 : Int32) - nI (97 + k) = nI (97 + (7 - k)) := by
    show nI 201 - nI (97 + k) = _
    rw [pk_sub (by omega)]
    exact congrArg nI (by omega)
  unfold f_L_there
  rw [e, cv8 _ (by omega), xz_c (by omega), xz_ct]
/-- both texts -/
def jT (A : xa_S) (h : Nat → xa_S) (hn ho : Nat) (T T' : List Nat) (M N : xm_M) : Prop := yT A h hn ho T M ∧ yT (mirS A) (fun i => mirS (h i)) hn ho T' N ∧ T.length = T'.length
def bts (f : Nat → Nat) : Nat → List Nat
  | 0 => []
  | j + 1 => (if f j = 0 then [] else [f j]) ++ bts f j
theorem bts_len (f : Nat → Nat) : ∀ j, (bts f j).length ≤ j
  | 0 => Nat.le_refl _
  | j + 1 => by
    have := bts_len f j
    rw [bts, List.length_append]
    split
    · simp; omega
    · simp; omega
def tby (x : Int64) (f : Nat → Nat) : Prop := ∀ i, i < 8 → f i < 256 ∧ ((x >>> ((nI (8 * i)).toInt64 &&& 63)) &&& 255).toInt32 = nI (f i)
theorem xz_m8 (a : Nat) : nI (a + 8) + (-8) = nI a := by
  rw [← nI_add, Int32.add_assoc]
  have e : nI 8 + (-8) = 0 := by decide
  rw [e]
  exact xz_a0 _
section LT
variable {A : xa_S} {h : Nat → xa_S} {hn ho : Nat}
theorem v_types7 {x : Int64} {f : Nat → Nat} (hx : tby x f) : ∀ (j n : Nat) (T T' : List Nat) (M N : xm_M), j ≤ 8 → j < n → jT A h hn ho T T' M N → T.length + (bts f j).length ≤ 80 → ∃ M' N', f_L_types_S7 n 0 M N x 1 (nI (8 * j) + (-8)) = some (1, M', N') ∧ jT A h hn ho (T ++ bts f j) (T' ++ bts f j) M' N'
  | 0, n, T, T', M, N, _, hn9, hI, _ => by
    obtain ⟨n, rfl⟩ : ∃ q, n = q + 1 := ⟨n - 1, by omega⟩
    refine ⟨M, N, ?_, by rw [bts, List.append_nil, List.append_nil]; exact hI⟩
    rw [f_L_types_S7, if_pos (by decide), xz_z1, xz_ct]
  | j + 1, n, T, T', M, N, hj, hn9, hI, hl => by
    obtain ⟨n, rfl⟩ : ∃ q, n = q + 1 := ⟨n - 1, by omega⟩
    obtain ⟨h1, h2⟩ := hx j (by omega)
    have e : nI (8 * (j + 1)) + (-8) = nI (8 * j) := xz_m8 (8 * j)
    rw [e, f_L_types_S7, if_neg (nI_pos (by omega)), if_neg (by decide), h2]
    by_cases c : f j = 0
    · rw [if_pos (by rw [c]; rfl)]
      have eb : bts f (j + 1) = bts f j := by rw [bts, if_pos c, List.nil_append]
      rw [eb] at hl ⊢
      exact v_types7 hx j n T T' M N (by omega) (by omega) hI hl
    · have eb : bts f (j + 1) = f j :: bts f j := by rw [bts, if_neg c]; rfl
      rw [eb] at hl
      rw [List.length_cons] at hl
      obtain ⟨i1, i2, i3⟩ := hI
      obtain ⟨M1, a1, a2⟩ := y_typeT i1 (c := f j) (by omega) (by omega) n
      obtain ⟨N1, b1, b2⟩ := y_typeT i2 (c := f j) (by omega) (by omega) n
      have l1 : (T ++ [f j]).length = T.length + 1 := by rw [List.length_append]; rfl
      have l2 : (T' ++ [f j]).length = T'.length + 1 := by rw [List.length_append]; rfl
      obtain ⟨M', N', g1, g2⟩ := v_types7 hx j n (T ++ [f j]) (T' ++ [f j]) M1 N1 (by omega) (by omega) ⟨a2, b2, by rw [l1, l2, i3]⟩ (by rw [l1]; omega)
      refine ⟨M', N', ?_, by rw [eb]; rw [List.append_assoc, List.append_assoc] at g2; exact g2⟩
      rw [if_neg (mt (xz_ec (c := 0) 0 rfl (by omega) (by omega)).mp c), cv8 _ h1, a1, xz_b2, b1, xz_b2, if_pos (by rw [i3]), g1]
theorem v_types {x : Int64} {f : Nat → Nat} (hx : tby x f) {w : List Nat} (hw : bts f 8 = w) {n : Nat} {T T' : List Nat} {M N : xm_M} (hn9 : 8 < n) (hI : jT A h hn ho T T' M N) (hl : T.length + w.length ≤ 80) : ∃ M' N', f_L_types n M N x = some (1, M', N') ∧ jT A h hn ho (T ++ w) (T' ++ w) M' N' := by
  subst hw
  obtain ⟨M', N', g1, g2⟩ := v_types7 hx 8 n T T' M N (Nat.le_refl _) hn9 hI hl
  refine ⟨M', N', ?_, g2⟩
  unfold f_L_types f_L_types_7
  rw [← g1]
  rfl
/-- one character each -/
theorem v_type2 {n : Nat} {T T' : List Nat} {M N : xm_M} {c c' : Nat} (hI : jT A h hn ho T T' M N) (hc : c < 65536) (hc' : c' < 65536) (hl : T.length < 80) : ∃ M' N', f_X6_type n M (nI c) = some (nI (T.length + 1), M') ∧ f_X6_type n N (nI c') = some (nI (T.length + 1), N') ∧ jT A h hn ho (T ++ [c]) (T' ++ [c']) M' N' := by
  obtain ⟨i1, i2, i3⟩ := hI
  obtain ⟨M1, a1, a2⟩ := y_typeT i1 hc hl n
  obtain ⟨N1, b1, b2⟩ := y_typeT i2 hc' (by omega) n
  exact ⟨M1, N1, a1, by rw [i3]; exact b1, a2, b2, by rw [List.length_append, List.length_append, i3]; rfl⟩
end LT
/-! the words -/
def byt_w (w : List Nat) : Nat → Nat := fun i => w.reverse.getD i 0
theorem tby_within : tby 33611470917430816 (byt_w (tw_l 0)) ∧ bts (byt_w (tw_l 0)) 8 = tw_l 0 := by
  unfold tby
  decide +kernel
theorem tby_rising : tby 32204091756013344 (byt_w (tw_l 2)) ∧ bts (byt_w (tw_l 2)) 8 = tw_l 2 := by
  unfold tby
  decide +kernel
theorem tby_alike : tby 107118253008160 (byt_w (tw_l 3)) ∧ bts (byt_w (tw_l 3)) 8 = tw_l 3 := by
  unfold tby
  decide +kernel
theorem tby_no : tby 7237408 (byt_w (tw_l 4)) ∧ bts (byt_w (tw_l 4)) 8 = tw_l 4 := by
  unfold tby
  decide +kernel
theorem tby_comma : tby 11296 (byt_w (tw_l 5)) ∧ bts (byt_w (tw_l 5)) 8 = tw_l 5 := by
  unfold tby
  decide +kernel
theorem tby_c : ∀ c, c < 64 → 0 < c → tby (nI c).toInt64 (byt_w [c]) ∧ bts (byt_w [c]) 8 = [c] := by
  unfold tby
  decide +kernel
theorem tby_32 : tby 32 (byt_w [32]) ∧ bts (byt_w [32]) 8 = [32] := by
  unfold tby
  decide +kernel
