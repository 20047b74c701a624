/-! LAYER 2: a match is told -/
def cnt (at0 : Nat → Nat) : Nat → Nat → Nat
  | 0, _ => 0
  | d + 1, q => cnt at0 d q + (if at0 d = q then 1 else 0)
theorem cnt_c {a b : Nat → Nat} (q : Nat) : ∀ d, (∀ j, j < d → a j = b j) → cnt a d q = cnt b d q
  | 0, _ => rfl
  | d + 1, h => by rw [cnt, cnt, cnt_c q d (fun j hj => h j (by omega)), h d (by omega)]
def fX (M M' : xm_M) : Prop := (∀ k, k ≠ 8 → k ≠ 11 → k ≠ 12 → M' k = M k) ∧ ∀ j, j ≠ 5 → j ≠ 12 → j ≠ 13 → j ≠ 14 → M' 8 j = M 8 j
def fM (N N' : xm_M) : Prop := (∀ k, k ≠ 0 → k ≠ 8 → k ≠ 9 → k ≠ 10 → N' k = N k) ∧ ∀ j, j ≠ 10 → j ≠ 11 → j ≠ 12 → N' 0 j = N 0 j
theorem fX.rf (M : xm_M) : fX M M := ⟨fun _ _ _ _ => rfl, fun _ _ _ _ _ => rfl⟩
theorem fM.rf (N : xm_M) : fM N N := ⟨fun _ _ _ _ _ => rfl, fun _ _ _ _ => rfl⟩
theorem fX.tr {M M1 M2 : xm_M} (h1 : fX M M1) (h2 : fX M1 M2) : fX M M2 := ⟨fun k a b c => (h2.1 k a b c).trans (h1.1 k a b c), fun j a b c d => (h2.2 j a b c d).trans (h1.2 j a b c d)⟩
theorem fM.tr {N N1 N2 : xm_M} (h1 : fM N N1) (h2 : fM N1 N2) : fM N N2 := ⟨fun k a b c d => (h2.1 k a b c d).trans (h1.1 k a b c d), fun j a b c => (h2.2 j a b c).trans (h1.2 j a b c)⟩
def kT (T : Prop) (nw la : Nat) (M N : xm_M) : Prop := T → M 8 1 = nI nw ∧ M 8 2 = nI (nw - la) ∧ N 1 1 = nI nw ∧ N 1 2 = nI la ∧ nw ≤ 9999 ∧ la ≤ 500
def wR (wr : Option (Nat × Nat)) (pl cm : Nat) (M N : xm_M) : Prop := match wr with
  | none => M 8 3 = -1 ∧ N 0 14 = -5
  | some (rk, ix) => M 8 3 = nI rk ∧ N 0 14 = nI rk ∧ M 8 4 = nI ix ∧ ix < pl ∧ rk < 2 ^ 31 ∧ ((cm ≤ rk ∧ M 8 5 = -5) ∨ (rk < cm ∧ M 8 5 = N 10 ix))
def dR (T : Prop) (wr : Option (Nat × Nat)) (pl cm : Nat) (M N : xm_M) : Prop := M 8 12 = nI cm ∧ N 0 10 = nI cm ∧ (T → M 8 13 = N 0 11 ∧ M 8 14 = N 0 12) ∧ wR wr pl cm M N
section MAT
variable {ev : Nat → Nat × Nat × Nat} {ne : Nat} {kd br : Nat → Nat} {pl w ru p nw la cm : Nat} {M N M' N' : xm_M} {at0 : Nat → Nat} {T : Prop} {wr : Option (Nat × Nat)}
theorem sX.f (h : sX ev ne kd br pl w ru M) (f : fX M M') : sX ev ne kd br pl w ru M' := h.fr (fun k hk => f.1 k (by omega) (by omega) (by omega)) (fun j h1 h2 => f.2 j (by omega) (by omega) (by omega) (by omega))
theorem sM.f (h : sM ev ne kd br pl w ru p N) (f : fM N N') : sM ev ne kd br pl w ru p N' := h.fr (f.1 1 (by omega) (by omega) (by omega) (by omega)) (f.1 5 (by omega) (by omega) (by omega) (by omega)) (f.1 6 (by omega) (by omega) (by omega) (by omega)) (f.1 7 (by omega) (by omega) (by omega) (by omega))
theorem kT.f (h : kT T nw la M N) (f : fX M M') (g : fM N N') : kT T nw la M' N' := fun t => by
  have e := g.1 1 (by omega) (by omega) (by omega) (by omega)
  rw [f.2 1 (by omega) (by omega) (by omega) (by omega), f.2 2 (by omega) (by omega) (by omega) (by omega), e]
  exact h t
/-- what a match does to the row of shares, and to the row of what is wanted -/
def mU (o at0 : Nat → Nat) (N : xm_M) : Nat → xm_M
  | 0 => N
  | i + 1 => xm_up (mU o at0 N i) 9 (o (at0 i)) (mU o at0 N i 9 (o (at0 i)) + 1)
def mV (o at0 : Nat → Nat) (N : xm_M) : Nat → xm_M
  | 0 => N
  | i + 1 => xm_up (mV o at0 N i) 10 i (nI (o (at0 i)))
theorem mU_k (o at0 : Nat → Nat) (N : xm_M) : ∀ i k, k ≠ 9 → mU o at0 N i k = N k
  | 0, k, _ => rfl
  | i + 1, k, h => by rw [mU, xm_up_r _ _ h]; exact mU_k o at0 N i k h
theorem mU_9 (N : xm_M) : ∀ i, (∀ j, j < i → at0 j < ne) → ∀ q, q < ne → mU (pO ev ne) at0 N i 9 (pO ev ne q) = N 9 (pO ev ne q) + nI (cnt at0 i q)
  | 0, _, q, _ => (xz_a0 _).symm
  | i + 1, h, q, hq => by
    rw [mU, cnt]
    have ih := mU_9 N i (fun j hj => h j (by omega))
    by_cases e : at0 i = q
    · rw [e, xm_up_s, ih q hq, if_pos rfl, ← nI_add, Int32.add_assoc]
      rfl
    · rw [if_neg e, xm_up_j _ _ (show pO ev ne q ≠ pO ev ne (at0 i) from fun t => e (io_inj (eT ev) ne _ _ hq (h i (by omega)) t).symm), ih q hq]
      rfl
theorem mV_k (o at0 : Nat → Nat) (N : xm_M) : ∀ i k, k ≠ 10 → mV o at0 N i k = N k
  | 0, k, _ => rfl
  | i + 1, k, h => by rw [mV, xm_up_r _ _ h]; exact mV_k o at0 N i k h
theorem mV_10 (o at0 : Nat → Nat) (N : xm_M) : ∀ i j, j < i → mV o at0 N i 10 j = nI (o (at0 j))
  | 0, j, h => absurd h (Nat.not_lt_zero j)
  | i + 1, j, h => by
    rw [mV]
    by_cases e : j = i
    · rw [e, xm_up_s]
    · rw [xm_up_j _ _ e]; exact mV_10 o at0 N i j (by omega)
end MAT
