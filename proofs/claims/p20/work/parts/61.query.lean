/-! LAYER 2: the queries -/
section QRY
variable {A : xa_S} {h : Nat → xa_S} {hn ho : Nat} {sn : Option xa_S} {tx : Nat → Nat} {tl : Nat} {M N M' N' : xm_M}
/-- a search leaves what holds between two calls -/
theorem q_X (hW : xi_W A h hn ho sn tx tl) (hX : xi_X A h hn ho sn tx tl M) (hk : ∀ k, k < 8 ∨ 18 ≤ k → M' k = M k) : xi_X A h hn ho sn tx tl M' :=
  hX.fr hW (by rw [hk 0 (by omega)]) (hk 4 (by omega)) (by rw [hk 6 (by omega)]) (hk 7 (by omega)) (fun k h1 => hk k (by omega))
theorem q_M (hM : xi_M A h hn sn tx tl N) (hk : ∀ k, (1 ≤ k ∧ k ≤ 4) ∨ 11 ≤ k → N' k = N k) (h0 : ∀ j, j ≠ 10 → j ≠ 11 → j ≠ 12 → j ≠ 14 → N' 0 j = N 0 j) : xi_M A h hn sn tx tl N' :=
  hM.fr (h0 3 (by omega) (by omega) (by omega) (by omega)) (h0 5 (by omega) (by omega) (by omega) (by omega)) (h0 17 (by omega) (by omega) (by omega) (by omega)) (hk 1 (by omega)) (hk 3 (by omega)) (hk 4 (by omega)) (hk 11 (by omega))
theorem q_begin (hW : xi_W A h hn ho sn tx tl) (hX : xi_X A h hn ho sn tx tl M) : ∃ M', (∀ n, 200 < n → f_X3_begin n M 18 = some M') ∧ xL A.2.1 (io (eT A.2.1) A.1.1) A.1.1 M' ∧ M' 8 1 = nI A.1.2.1 ∧ M' 8 2 = nI (A.1.2.1 - A.1.2.2.1) ∧ M' 8 3 = -1 ∧ M' 8 5 = -5 ∧ (∀ s, s < 25 → M' 12 s = 0) ∧ ∀ k, k < 8 ∨ 18 ≤ k → M' k = M k :=
  x_begin hW.1.1 (st_E hW.1) hX.1.1 hX.1.2.1 hX.1.2.2.1 hW.1.2.1 hW.1.2.2.1 hX.1.2.2.2.2.1
end QRY
