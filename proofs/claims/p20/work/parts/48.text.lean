/-! LAYER 2: the text: words, window, rule -/
theorem xm_up_up (M : xm_M) (r j : Nat) (v w : Int32) : xm_up (xm_up M r j v) r j w = xm_up M r j w := by
  funext k i
  rw [xm_up_ap, xm_up_ap, xm_up_ap]
  by_cases h : k = r ∧ i = j
  · rw [if_pos h, if_pos h]
  · rw [if_neg h, if_neg h, if_neg h]
theorem xm_up_same {M : xm_M} {r j : Nat} {v : Int32} (h : M r j = v) : xm_up M r j v = M := by
  funext k i
  rw [xm_up_ap]
  by_cases q : k = r ∧ i = j
  · rw [if_pos q, q.1, q.2, h]
  · rw [if_neg q]
theorem xz_a0 (x : Int32) : x + 0 = x := Int32.add_zero x
/-- what is taken of a word, character by character -/
def tk (tx : Nat → Nat) (tl : Nat) : List Nat → Nat → Bool × Nat
  | [], a => (true, a)
  | c :: w, a => if a < tl ∧ tx a = c then tk tx tl w (a + 1) else (false, a)
theorem tk_le (tx : Nat → Nat) (tl : Nat) : ∀ (w : List Nat) (a : Nat), a ≤ tl → (tk tx tl w a).2 ≤ tl
  | [], a, h => h
  | c :: w, a, h => by
    rw [tk]
    by_cases q : a < tl ∧ tx a = c
    · rw [if_pos q]; exact tk_le tx tl w (a + 1) q.1
    · rw [if_neg q]; exact h
def tb (b : Bool) : Int32 := if b then 1 else 0
def tX (tx : Nat → Nat) (tl a : Nat) (M : xm_M) : Prop := M 6 1 = nI tl ∧ M 6 2 = nI a ∧ ∀ i, i < tl → M 7 i = nI (tx i)
def tM (tx : Nat → Nat) (tl a : Nat) (N : xm_M) : Prop := N 0 17 = nI tl ∧ N 0 18 = nI a ∧ ∀ i, i < tl → N 11 i = nI (tx i)
theorem tX.to {tx : Nat → Nat} {tl a : Nat} {M : xm_M} (h : tX tx tl a M) (b : Nat) : tX tx tl b (xm_up M 6 2 (nI b)) := ⟨by rw [xm_up_j _ _ (by omega)]; exact h.1, xm_up_s _ _ _ _, fun i hi => by rw [xm_up_k _ _ (by omega)]; exact h.2.2 i hi⟩
theorem tM.to {tx : Nat → Nat} {tl a : Nat} {N : xm_M} (h : tM tx tl a N) (b : Nat) : tM tx tl b (xm_up N 0 18 (nI b)) := ⟨by rw [xm_up_j _ _ (by omega)]; exact h.1, xm_up_s _ _ _ _, fun i hi => by rw [xm_up_k _ _ (by omega)]; exact h.2.2 i hi⟩
/-- a word's bytes in a long -/
def twOK (x : Int64) : List Nat → Prop
  | [] => True
  | c :: w => ((x >>> ((nI (8 * w.length)).toInt64 &&& 63)) &&& 255).toInt32 = nI c ∧ c < 65536 ∧ twOK x w
theorem tw_within : twOK 33611470917430816 [119, 105, 116, 104, 105, 110, 32] := by
  refine ⟨by decide +kernel, by omega, by decide +kernel, by omega, by decide +kernel, by omega, by decide +kernel, by omega, by decide +kernel, by omega, by decide +kernel, by omega, by decide +kernel, by omega, trivial⟩
theorem tw_rising : twOK 32204091756013344 [114, 105, 115, 105, 110, 103, 32] := by
  refine ⟨by decide +kernel, by omega, by decide +kernel, by omega, by decide +kernel, by omega, by decide +kernel, by omega, by decide +kernel, by omega, by decide +kernel, by omega, by decide +kernel, by omega, trivial⟩
theorem tw_alike : twOK 107118253008160 [97, 108, 105, 107, 101, 32] := by
  refine ⟨by decide +kernel, by omega, by decide +kernel, by omega, by decide +kernel, by omega, by decide +kernel, by omega, by decide +kernel, by omega, by decide +kernel, by omega, trivial⟩
/-- the literals' characters -/
def tw_l : Nat → List Nat
  | 0 => [119, 105, 116, 104, 105, 110, 32]
  | 1 => [32]
  | 2 => [114, 105, 115, 105, 110, 103, 32]
  | 3 => [97, 108, 105, 107, 101, 32]
  | 4 => [110, 111, 32]
  | _ => [44, 32]
theorem tw_ch : ∀ k, k < 6 → xm_len.getD k 0 = (tw_l k).length ∧ (tw_l k).length ≤ 7 ∧ ∀ i, i < (tw_l k).length → xm_ch k (nI i) = nI ((tw_l k).getD i 0) ∧ xm_c (nI ((tw_l k).getD i 0)) = true ∧ (tw_l k).getD i 0 < 65536 := by decide +kernel
theorem tx_word {tx : Nat → Nat} {tl : Nat} (htl : tl ≤ 80) (htx : ∀ i, i < tl → tx i < 65536) {k : Nat} (hk : k < 6) : ∀ (w : List Nat) (i : Nat) (M : xm_M) (a n : Nat), (tw_l k).drop i = w → i ≤ (tw_l k).length → tX tx tl a M → a ≤ tl → w.length < n → f_X5_takesWord_2 n M k (nI i) = some (tb (tk tx tl w a).1, xm_up M 6 2 (nI (tk tx tl w a).2))
  | [], i, M, a, n, hd, hi, h, ha, hn => by
    obtain ⟨c1, c2, c3⟩ := tw_ch k hk
    obtain ⟨m, rfl⟩ : ∃ m, n = m + 1 := ⟨n - 1, by simp at hn; omega⟩
    have he : (tw_l k).length ≤ i := List.drop_eq_nil_iff.mp hd
    rw [f_X5_takesWord_2]
    unfold f_slen
    rw [xz_b2, c1, if_pos ((xz_le (by omega) (by omega)).mpr (by omega))]
    show _ = some ((1 : Int32), xm_up M 6 2 (nI a))
    rw [xm_up_same h.2.1]
  | c :: w, i, M, a, n, hd, hi, h, ha, hn => by
    obtain ⟨c1, c2, c3⟩ := tw_ch k hk
    obtain ⟨m, rfl⟩ : ∃ m, n = m + 1 := ⟨n - 1, by simp at hn; omega⟩
    have hlt : i < (tw_l k).length := by
      rcases Nat.lt_or_ge i (tw_l k).length with q | q
      · exact q
      · rw [List.drop_eq_nil_iff.mpr q] at hd
        cases hd
    have hc : (tw_l k).getD i 0 = c ∧ (tw_l k).drop (i + 1) = w := by
      rw [List.drop_eq_getElem_cons hlt] at hd
      obtain ⟨d1, d2⟩ := List.cons.inj hd
      refine ⟨?_, d2⟩
      rw [List.getD_eq_getElem?_getD, List.getElem?_eq_getElem hlt]
      exact d1
    obtain ⟨e1, e2, e3⟩ := c3 i hlt
    rw [hc.1] at e1 e2 e3
    obtain ⟨h1, h2, h3⟩ := h
    rw [f_X5_takesWord_2]
    unfold f_slen f_schr
    rw [xz_b2, c1, if_neg (mt (xz_le (by omega) (by omega)).mp (by omega)), h1, h2]
    by_cases hl : a < tl
    · have hx := htx a hl
      rw [if_neg (mt (xz_le (by omega) (by omega)).mp (by omega)), xz_ci (show a < 80 by omega) (by omega), xz_ci hlt (by omega), e1, e2, xz_ct, xz_b2, xz_cl (by omega), h3 a hl, h2]
      by_cases hb : tx a = c
      · have hb2 : a < tl ∧ tx a = c := ⟨hl, hb⟩
        rw [if_pos (by rw [hb]), xz_lt, nI_1, nI_1, tk, if_pos hb2, tx_word htl htx hk w (i + 1) _ (a + 1) m hc.2 hlt (tX.to (tx := tx) (tl := tl) (a := a) (M := M) ⟨h1, h2, h3⟩ (a + 1)) hl (by simp at hn; exact hn), xm_up_up]
      · rw [if_neg (mt (xz_e (by omega) (by omega)).mp hb), tk, if_neg (fun q => hb q.2)]
        show _ = some ((0 : Int32), xm_up M 6 2 (nI a))
        rw [xm_up_same h2]
    · rw [if_pos ((xz_le (by omega) (by omega)).mpr (by omega)), tk, if_neg (fun q => hl q.1)]
      show _ = some ((0 : Int32), xm_up M 6 2 (nI a))
      rw [xm_up_same h2]
