/-! LAYER 2: all patterns; the line and the events of a state -/
def zr (N : xm_M) : Nat → xm_M
  | 0 => N
  | i + 1 => xm_up (zr N i) 9 i 0
theorem zr_k (N : xm_M) : ∀ i k, k ≠ 9 → zr N i k = N k
  | 0, _, _ => rfl
  | i + 1, k, h => by rw [zr, xm_up_r _ _ h]; exact zr_k N i k h
theorem zr_9 (N : xm_M) : ∀ i e, e < i → zr N i 9 e = 0
  | 0, e, h => absurd h (Nat.not_lt_zero e)
  | i + 1, e, h => by
    rw [zr]
    by_cases q : e = i
    · rw [q, xm_up_s]
    · rw [xm_up_j _ _ q]; exact zr_9 N i e (by omega)
section ALL
variable {ev : Nat → Nat × Nat × Nat} {ne np : Nat} {M N M' N' : xm_M} {Ps : Nat → xa_P}
def aX (ev : Nat → Nat × Nat × Nat) (ne np : Nat) (Ps : Nat → xa_P) (M : xm_M) : Prop := xL ev (io (eT ev) ne) ne M ∧ M 18 6 = nI np ∧ M 8 3 = -1 ∧ ∀ j, j < np → xa_XP (Ps j) M (18 + 5 + 3 * j)
def aM (ev : Nat → Nat × Nat × Nat) (ne np : Nat) (Ps : Nat → xa_P) (N : xm_M) : Prop := mE ev ne (N 1) ∧ N 1 3 = nI np ∧ N 0 14 = -5 ∧ ∀ j, j < np → xa_MP (Ps j) (N 1) (79 + 10 * j)
end ALL
section STT
variable {A : xa_S} {M N : xm_M}
theorem st_E (h : xa_WS A) : eW A.2.1 A.1.1 := h.2.2.2.2.1
theorem st_M (h : xa_MS A (N 1) 0) : mE A.2.1 A.1.1 (N 1) ∧ N 1 3 = nI A.1.2.2.2 ∧ ∀ j, j < A.1.2.2.2 → xa_MP (A.2.2 j) (N 1) (79 + 10 * j) := by
  obtain ⟨h0, h1, h2, h3, h4, h5⟩ := h
  refine ⟨⟨h0, fun e he => ?_⟩, h3, fun j hj => ?_⟩
  · have := h4 e he
    rw [show 0 + 4 + 3 * e = 4 + 3 * e by omega] at this
    exact this
  · have := h5 j hj
    rw [show 0 + 79 + 10 * j = 79 + 10 * j by omega] at this
    exact this
end STT
