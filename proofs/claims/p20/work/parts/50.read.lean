/-! LAYER 2: the text is read -/
section PS
variable {M0 N0 M N : xm_M} {tx : Nat → Nat} {tl a : Nat} {P : xa_P}
/-- what the end of the whole text's reading is -/
def pF (M0 N0 : xm_M) (tx : Nat → Nat) (tl : Nat) (P : xa_P) (X Y : Option (Int32 × xm_M)) : Prop := ∃ M' N' a', pR M0 N0 tx tl a' M' N' ∧ ((X = some (0, M') ∧ Y = some (nI a', N')) ∨ (X = some (1, M') ∧ Y = some (-5, N') ∧ ∃ P', pQ P' M' N' ∧ pJ P' ∧ pL P' ∧ 2 ≤ P'.1.2.2.1 ∧ P'.1.1 = P.1.1 ∧ P'.1.2.1 = P.1.2.1))
/-- the window: digits behind a first one -/
def pW (M0 N0 : xm_M) (tx : Nat → Nat) (tl : Nat) (M N : xm_M) (X Y : Option (Int32 × xm_M)) : Prop := ∃ M' N' a' w, pR M0 N0 tx tl a' M' N' ∧ 1 ≤ w ∧ w ≤ 1000 ∧ Y = some (1, N') ∧ N' 12 0 = nI w ∧ (∀ j, j ≠ 0 → N' 12 j = N 12 j) ∧ N' 0 20 = N 0 20 ∧ (∀ j, j ≠ 0 → M' 1 j = M 1 j) ∧ ((X = some (1, M') ∧ M' 1 0 = nI w) ∨ (X = some (0, M') ∧ a' < tl ∧ tx a' ≠ 32))
theorem xz_dig {w t : Nat} (hw : w ≤ 1000) (ht : 48 ≤ t) (ht2 : t ≤ 57) : nI w * 10 + (nI t - 48) = nI (10 * w + (t - 48)) ∧ 10 * nI w + nI t - 48 = nI (10 * w + (t - 48)) := by
  have e1 : nI t - 48 = nI (t - 48) := by
    rw [show (48 : Int32) = nI 48 from rfl, pk_sub (by omega)]
  have e2 : nI w * 10 = nI (10 * w) := by
    rw [show (10 : Int32) = nI 10 from rfl, pk_mul, Nat.mul_comm]
  have e3 : 10 * nI w = nI (10 * w) := by
    rw [show (10 : Int32) = nI 10 from rfl, pk_mul]
  refine ⟨by rw [e1, e2, nI_add], ?_⟩
  rw [e3, nI_add, show (48 : Int32) = nI 48 from rfl, pk_sub (by omega)]
  exact congrArg nI (by omega)
end PS
