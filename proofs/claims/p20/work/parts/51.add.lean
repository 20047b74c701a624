/-! LAYER 2: rule, the whole text, addPattern -/
section PA
variable {M0 N0 M N : xm_M} {tx : Nat → Nat} {tl a : Nat} {P : xa_P}
theorem xz_tb (b : Bool) : xm_z (tb b) = true := by cases b <;> decide
theorem tb_t : tb true = 1 := rfl
theorem tb_f : tb false = 0 := rfl
theorem px_word (htl : tl ≤ 80) (htx : ∀ i, i < tl → tx i < 65536) (h : tX tx tl a M) (ha : a ≤ tl) {k : Nat} (hk : k < 6) {n : Nat} (hn : 10 < n) : f_X5_takesWord n M k = some (tb (tk tx tl (tw_l k) a).1, xm_up M 6 2 (nI (tk tx tl (tw_l k) a).2)) :=
  tx_word htl htx hk (tw_l k) 0 M a n rfl (Nat.zero_le _) h ha (by have := (tw_ch k hk).2.1; omega)
def pU (M0 N0 : xm_M) (tx : Nat → Nat) (tl : Nat) (M N : xm_M) (X Y : Option (Int32 × xm_M)) : Prop := ∃ M' N' a', pR M0 N0 tx tl a' M' N' ∧ ((X = some (0, M') ∧ Y = some (0, N')) ∨ ∃ r, r ≤ 2 ∧ X = some (1, M') ∧ Y = some (1, N') ∧ M' 1 1 = nI r ∧ N' 12 1 = nI r ∧ (∀ j, j ≠ 1 → M' 1 j = M 1 j) ∧ (∀ j, j ≠ 1 → N' 12 j = N 12 j) ∧ N' 0 20 = N 0 20)
def pV (M N : xm_M) (tx : Nat → Nat) (tl : Nat) (X Y : Option (Int32 × xm_M)) : Prop := ∃ M' N' a, pR M N tx tl a M' N' ∧ ((X = some (nI a, M') ∧ Y = some (nI a, N')) ∨ (X = some (-1, M') ∧ Y = some (-5, N') ∧ ∃ P, xa_WP P ∧ xa_XP P M' 1 ∧ xa_MP P (N' 12) 0))
end PA
