/-! LAYER 2: the search, place by place -/
def Wlk (M : xm_M) (x1 x5 : Int32) (r : Nat) (M' : xm_M) : Prop := ∃ K, ∀ n, K ≤ n → ∀ x3, f_X3_walkFrom_S n 1 M x1 x3 x5 = some (x3 + nI r, M')
def pB : Nat → Nat
  | 0 => 1
  | e + 1 => 25 * pB e
section WLK
variable {ev : Nat → Nat × Nat × Nat} {ne : Nat} {kd br : Nat → Nat} {pl w ru p nw la : Nat} {M N M' N' : xm_M} {at0 : Nat → Nat} {T : Prop} {wr : Option (Nat × Nat)} {d q : Nat}
theorem sM.u8 (h : sM ev ne kd br pl w ru p N) (j : Nat) (v : Int32) : sM ev ne kd br pl w ru p (xm_up N 8 j v) := h.fr (xm_up_r _ _ (by omega)) (xm_up_r _ _ (by omega)) (xm_up_r _ _ (by omega)) (xm_up_r _ _ (by omega))
theorem fM.u8 (N : xm_M) (j : Nat) (v : Int32) : fM N (xm_up N 8 j v) := ⟨fun k k0 k8 _ _ => xm_up_r _ _ k8, fun j _ _ _ => xm_up_k _ _ (by omega)⟩
end WLK
