/-! LAYER 2: the search, place by place -/
def Rch (p pl : Nat) (N : xm_M) (x : Int32) (N' : xm_M) (x' : Int32) : Prop := ∃ k, ∀ n, 200 ≤ n → f_X7_finds_39 (n + k) N (nI p) (nI pl) x = f_X7_finds_39 n N' (nI p) (nI pl) x'
theorem Rch.tr {p pl : Nat} {N N1 N2 : xm_M} {x x1 x2 : Int32} (h1 : Rch p pl N x N1 x1) (h2 : Rch p pl N1 x1 N2 x2) : Rch p pl N x N2 x2 := by
  obtain ⟨k1, g1⟩ := h1
  obtain ⟨k2, g2⟩ := h2
  refine ⟨k2 + k1, fun n hn => ?_⟩
  rw [← Nat.add_assoc, g1 (n + k2) (by omega), g2 n hn]
theorem Rch.st {p pl : Nat} {N N1 : xm_M} {x x1 : Int32} (h : ∀ n, 200 ≤ n → f_X7_finds_39 (n + 1) N (nI p) (nI pl) x = f_X7_finds_39 n N1 (nI p) (nI pl) x1) : Rch p pl N x N1 x1 := ⟨1, h⟩
def Wlk (M : xm_M) (x1 x5 : Int32) (r : Nat) (M' : xm_M) : Prop := ∃ K, ∀ n, K ≤ n → ∀ x3, f_X3_walkFrom_S n 1 M x1 x3 x5 = some (x3 + nI r, M')
def pB : Nat → Nat
  | 0 => 1
  | e + 1 => 25 * pB e
section WLK
variable {ev : Nat → Nat × Nat × Nat} {ne : Nat} {kd br : Nat → Nat} {pl w ru p nw la : Nat} {M N M' N' : xm_M} {at0 : Nat → Nat} {T : Prop} {wr : Option (Nat × Nat)} {d q : Nat}
theorem sM.u8 (h : sM ev ne kd br pl w ru p N) (j : Nat) (v : Int32) : sM ev ne kd br pl w ru p (xm_up N 8 j v) := h.fr (xm_up_r _ _ (by omega)) (xm_up_r _ _ (by omega)) (xm_up_r _ _ (by omega)) (xm_up_r _ _ (by omega))
theorem fM.u8 (N : xm_M) (j : Nat) (v : Int32) : fM N (xm_up N 8 j v) := ⟨fun k k0 k8 _ _ => xm_up_r _ _ k8, fun j _ _ _ => xm_up_k _ _ (by omega)⟩
theorem fd_end (hW : sW ev ne kd br pl w ru p) (h : sM ev ne kd br pl w ru p N) (hd : d < pl) (hq : N 8 d + 1 = nI ne) : Rch p pl N (nI d) (xm_up N 8 d (nI ne)) (nI d + (-1)) := by
  have h25 := hW.1
  have h4 := hW.2.2.2.2.2.2.1
  refine Rch.st fun n hn => ?_
  rw [f_X7_finds_39, if_neg (nI_pos (by omega)), xz_ci (show d < 4 by omega) (by omega), xz_ci (show d < 4 by omega) (by omega), xz_lt, xz_cl (by omega), hq, xz_ci (show d < 4 by omega) (by omega), xz_i0, xz_ct, xz_t0, xm_up_s, xm_up_k _ _ (show 1 ≠ 8 by omega), h.1.1, if_neg (mt (xz_l (by omega) (by omega)).mp (by omega))]
theorem fd_no (hW : sW ev ne kd br pl w ru p) (h : sM ev ne kd br pl w ru p N) (hd : d < pl) (ha : ∀ j, j < d → N 8 j = nI (at0 j) ∧ at0 j < ne) (hq : N 8 d + 1 = nI q) (hq2 : q < ne) (hl : 0 < d → at0 (d - 1) < q) (hf : fit ev ne kd br w ru at0 d q = false) : Rch p pl N (nI d) (xm_up N 8 d (nI q)) (nI d) := by
  have h25 := hW.1
  have h4 := hW.2.2.2.2.2.2.1
  refine Rch.st fun n hn => ?_
  have f := m_fits (at0 := at0) hW (h.u8 d (nI q)) hd (fun j hj => by rw [xm_up_j _ _ (by omega)]; exact ha j hj) (xm_up_s _ _ _ _) hq2 hl (n := n) (by omega)
  rw [f_X7_finds_39, if_neg (nI_pos (by omega)), xz_ci (show d < 4 by omega) (by omega), xz_ci (show d < 4 by omega) (by omega), xz_lt, xz_cl (by omega), hq, xz_ci (show d < 4 by omega) (by omega), xz_i0, xz_ct, xz_t0, xm_up_s, xm_up_k _ _ (show 1 ≠ 8 by omega), h.1.1, if_pos ((xz_l (by omega) (by omega)).mpr hq2), f, xz_b2, hf, tb_f, if_pos rfl]
theorem fd_skip (hW : sW ev ne kd br pl w ru p) (hd : d < pl) : ∀ (k q : Nat) (N : xm_M), q + k = ne → sM ev ne kd br pl w ru p N → (∀ j, j < d → N 8 j = nI (at0 j) ∧ at0 j < ne) → N 8 d + 1 = nI q → (0 < d → at0 (d - 1) < q) → (∀ q', q ≤ q' → q' < ne → fit ev ne kd br w ru at0 d q' = false) → Rch p pl N (nI d) (xm_up N 8 d (nI ne)) (nI d + (-1))
  | 0, q, N, hk, h, ha, hq, hl, hf => by
    have : q = ne := by omega
    subst this
    exact fd_end hW h hd hq
  | k + 1, q, N, hk, h, ha, hq, hl, hf => by
    have s1 := fd_no hW h hd ha hq (by omega) hl (hf q (Nat.le_refl _) (by omega))
    have s2 := fd_skip hW hd k (q + 1) (xm_up N 8 d (nI q)) (by omega) (h.u8 d _) (fun j hj => by rw [xm_up_j _ _ (by omega)]; exact ha j hj) (by rw [xm_up_s, nI_1]) (fun t => by have := hl t; omega) (fun q' h1 h2 => hf q' (by omega) h2)
    rw [xm_up_up] at s2
    exact s1.tr s2
/-- a place fits, and it is the last step's -/
theorem fd_last (hW : sW ev ne kd br pl w ru p) (h : sM ev ne kd br pl w ru p N) (hd : d + 1 = pl) (ha : ∀ j, j < d → N 8 j = nI (at0 j) ∧ at0 j < ne) (hq : N 8 d + 1 = nI q) (hq2 : q < ne) (hl : 0 < d → at0 (d - 1) < q) (hf : fit ev ne kd br w ru at0 d q = true) (hm : ∀ n, 70 < n → f_X7_isMatch n (xm_up N 8 d (nI q)) (nI pl) = some N') : Rch p pl N (nI d) N' (nI d) := by
  have h25 := hW.1
  have h4 := hW.2.2.2.2.2.2.1
  refine Rch.st fun n hn => ?_
  have f := m_fits (at0 := at0) hW (h.u8 d (nI q)) (show d < pl by omega) (fun j hj => by rw [xm_up_j _ _ (by omega)]; exact ha j hj) (xm_up_s _ _ _ _) hq2 hl (n := n) (by omega)
  have e9 : nI pl - 1 = nI d := by rw [← hd]; exact nI_pred d
  rw [f_X7_finds_39, if_neg (nI_pos (by omega)), xz_ci (show d < 4 by omega) (by omega), xz_ci (show d < 4 by omega) (by omega), xz_lt, xz_cl (by omega), hq, xz_ci (show d < 4 by omega) (by omega), xz_i0, xz_ct, xz_t0, xm_up_s, xm_up_k _ _ (show 1 ≠ 8 by omega), h.1.1, if_pos ((xz_l (by omega) (by omega)).mpr hq2), f, xz_b2, hf, tb_t, if_neg xz_10, e9, if_pos rfl, hm n (by omega), xz_b1]
/-- .. and it isn't -/
theorem fd_more (hW : sW ev ne kd br pl w ru p) (h : sM ev ne kd br pl w ru p N) (hd : d + 1 < pl) (ha : ∀ j, j < d → N 8 j = nI (at0 j) ∧ at0 j < ne) (hq : N 8 d + 1 = nI q) (hq2 : q < ne) (hl : 0 < d → at0 (d - 1) < q) (hf : fit ev ne kd br w ru at0 d q = true) : Rch p pl N (nI d) (xm_up (xm_up (xm_up N 8 d (nI q)) 0 12 (N 0 12 + (if nI (pTm ev ne (if d = 0 then q else at0 0) + w) < N 1 1 then 0 else 1))) 8 (d + 1) (nI q)) (nI (d + 1)) := by
  have h25 := hW.1
  have h4 := hW.2.2.2.2.2.2.1
  have hp := hW.2.2.2.2.2.2.2.2.2
  refine Rch.st fun n hn => ?_
  have h1 := h.u8 d (nI q)
  have f := m_fits (at0 := at0) hW h1 (show d < pl by omega) (fun j hj => by rw [xm_up_j _ _ (by omega)]; exact ha j hj) (xm_up_s _ _ _ _) hq2 hl (n := n) (by omega)
  have e9 : ¬ nI d = nI pl - 1 := by
    have : nI pl - 1 = nI (pl - 1) := pk_sub (b := 1) (by omega)
    rw [this, xz_e (by omega) (by omega)]
    omega
  have z0 : (if d = 0 then q else at0 0) < ne ∧ xm_up N 8 d (nI q) 8 0 = nI (if d = 0 then q else at0 0) := by
    by_cases e : d = 0
    · rw [if_pos e, e]; exact ⟨hq2, xm_up_s _ _ _ _⟩
    · rw [if_neg e]
      obtain ⟨a1, a2⟩ := ha 0 (by omega)
      exact ⟨a2, by rw [xm_up_j _ _ (by omega)]; exact a1⟩
  have c0 : f_X7_chosen n (xm_up N 8 d (nI q)) 0 2 = some (nI (pTm ev ne (if d = 0 then q else at0 0)), xm_up N 8 d (nI q)) := (m_chosen (at0 := fun _ => if d = 0 then q else at0 0) hW h1 (j := 0) (by omega) z0.2 z0.1 (n := n)).2.2
  have w0 : f_X7_ofPattern n (xm_up N 8 d (nI q)) (nI p) 0 = some (nI w, xm_up N 8 d (nI q)) := by
    have := h1.2.2.2.1
    rw [← this]
    exact m_ofP (k := 0) hp (by omega)
  rw [f_X7_finds_39, if_neg (nI_pos (by omega)), xz_ci (show d < 4 by omega) (by omega), xz_ci (show d < 4 by omega) (by omega), xz_lt, xz_cl (by omega), hq, xz_ci (show d < 4 by omega) (by omega), xz_i0, xz_ct, xz_t0, xm_up_s, xm_up_k _ _ (show 1 ≠ 8 by omega), h.1.1, if_pos ((xz_l (by omega) (by omega)).mpr hq2), f, xz_b2, hf, tb_t, if_neg xz_10, if_neg e9, c0, xz_b2, w0, xz_b2, xz_i1, xz_ct, xz_t1, xm_up_k _ _ (show 1 ≠ 8 by omega), xm_up_k _ _ (show 0 ≠ 8 by omega), nI_add, nI_1]
  by_cases z : nI (pTm ev ne (if d = 0 then q else at0 0) + w) < N 1 1
  · rw [if_pos z, if_pos z, xz_lt, xz_ci (show d < 4 by omega) (by omega), xz_ci (show d + 1 < 4 by omega) (by omega), xz_lt, xz_cl (show d + 1 < 2 ^ 31 by omega), xm_up_k _ _ (show 8 ≠ 0 by omega), xm_up_s]
  · rw [if_neg z, if_neg z, xz_lt, xz_ci (show d < 4 by omega) (by omega), xz_ci (show d + 1 < 4 by omega) (by omega), xz_lt, xz_cl (show d + 1 < 2 ^ 31 by omega), xm_up_k _ _ (show 8 ≠ 0 by omega), xm_up_s]
end WLK
