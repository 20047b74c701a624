/-! LAYER 2: the two searches walk alike -/
def jR (ev : Nat → Nat × Nat × Nat) (ne pl : Nat) (T : Prop) (wr : Option (Nat × Nat)) (d cm r : Nat) (at0 dl : Nat → Nat) (M M' N N' : xm_M) : Prop := dR T wr pl (cm + r) M' N' ∧ fX M M' ∧ fM N N' ∧ (∀ j, j < d → M' 11 j = M 11 j) ∧ (∀ j, j < d → N' 8 j = N 8 j) ∧ ∀ s, s < ne → M' 12 s = M 12 s + nI (dl s) ∧ N' 9 (pO ev ne s) = N 9 (pO ev ne s) + nI (dl s + r * cnt at0 d s)
section JNT
variable {ev : Nat → Nat × Nat × Nat} {ne : Nat} {kd br : Nat → Nat} {pl w ru p nw la : Nat} {M N M' N' : xm_M} {at0 : Nat → Nat} {T : Prop} {wr : Option (Nat × Nat)} {d q cm : Nat}
theorem xz_2 (a : Int32) (x y z : Nat) (h : z = x + y) : a + nI x + nI y = a + nI z := by rw [Int32.add_assoc, nI_add, h]
theorem jR.tr {r1 r2 : Nat} {e1 e2 : Nat → Nat} {M1 M2 N1 N2 : xm_M} (h1 : jR ev ne pl T wr d cm r1 at0 e1 M M1 N N1) (h2 : jR ev ne pl T wr d (cm + r1) r2 at0 e2 M1 M2 N1 N2) : jR ev ne pl T wr d cm (r1 + r2) at0 (fun s => e1 s + e2 s) M M2 N N2 := by
  obtain ⟨a1, a2, a3, a4, a5, a6⟩ := h1
  obtain ⟨b1, b2, b3, b4, b5, b6⟩ := h2
  refine ⟨by rw [← Nat.add_assoc]; exact b1, a2.tr b2, a3.tr b3, fun j hj => (b4 j hj).trans (a4 j hj), fun j hj => (b5 j hj).trans (a5 j hj), fun s hs => ?_⟩
  obtain ⟨c1, c2⟩ := a6 s hs
  obtain ⟨d1, d2⟩ := b6 s hs
  refine ⟨by rw [d1, c1]; exact xz_2 _ _ _ _ rfl, ?_⟩
  rw [d2, c2]
  refine xz_2 _ _ _ _ ?_
  show e1 s + e2 s + (r1 + r2) * cnt at0 d s = _
  rw [Nat.add_mul]
  omega
theorem jR.rf (hD : dR T wr pl cm M N) (v : Int32) (hd : fM N (xm_up N 8 d v)) : jR ev ne pl T wr d cm 0 at0 (fun _ => 0) M M N (xm_up N 8 d v) := by
  obtain ⟨d1, d2, d3, d4⟩ := hD
  refine ⟨⟨d1, by rw [xm_up_k _ _ (by omega)]; exact d2, fun t => by rw [xm_up_k _ _ (by omega), xm_up_k _ _ (by omega)]; exact d3 t, ?_⟩, fX.rf M, hd, fun j hj => rfl, fun j hj => xm_up_j _ _ (by omega), fun s hs => ⟨(xz_a0 _).symm, ?_⟩⟩
  · cases wr with
    | none => exact ⟨d4.1, by rw [xm_up_k _ _ (by omega)]; exact d4.2⟩
    | some ri =>
      obtain ⟨rk, ix⟩ := ri
      obtain ⟨q1, q2, q3, q4, q5, q6⟩ := d4
      exact ⟨q1, by rw [xm_up_k _ _ (by omega)]; exact q2, q3, q4, q5, by rw [xm_up_k _ _ (by omega)]; exact q6⟩
  · rw [xm_up_k _ _ (by omega), Nat.zero_mul]
    exact (xz_a0 _).symm
theorem x_br1 (h : sX ev ne kd br pl w ru M) (hpl : pl ≤ 4) (hd : d + 1 = pl) {n : Nat} : f_X3_tellBranch n M (nI d) = some M := by
  unfold f_X3_tellBranch
  rw [h.2.1.1, nI_1, if_pos ((xz_le (by omega) (by omega)).mpr (by omega))]
theorem x_br2 (hW : sW ev ne kd br pl w ru p) (h : sX ev ne kd br pl w ru M) (hd : d + 1 < pl) {a0 : Nat} (h0 : M 11 0 = nI a0) (ha : a0 < ne) {n : Nat} : f_X3_tellBranch n M (nI d) = some (xm_up M 8 14 (M 8 14 + (if nI (pTm ev ne a0 + w) < M 8 1 then 0 else 1))) := by
  have h25 := hW.1
  have h4 := hW.2.2.2.2.2.2.1
  have r17 : M 17 a0 = nI (pTm ev ne a0) := (h.1.2 _ ha).2.2.2
  unfold f_X3_tellBranch
  rw [h.2.1.1, nI_1, if_neg (mt (xz_le (by omega) (by omega)).mp (by omega)), xz_i7, xz_ct, xz_t0, h0, xz_ci (show a0 < 25 by omega) (by omega), xz_cl (by omega), r17, h.2.2.1, nI_add]
  by_cases z : nI (pTm ev ne a0 + w) < M 8 1
  · rw [if_pos z, if_pos z, xz_a0, xm_up_same rfl]
  · rw [if_neg z, if_neg z, xz_lt]
theorem dR.fr (h : dR T wr pl cm M N) (hx : ∀ j, j = 3 ∨ j = 4 ∨ j = 5 ∨ j = 12 → M' 8 j = M 8 j) (hn : N' 0 10 = N 0 10) (hn2 : N' 0 14 = N 0 14) (h10 : N' 10 = N 10) (ht : T → M' 8 13 = N' 0 11 ∧ M' 8 14 = N' 0 12) : dR T wr pl cm M' N' := by
  obtain ⟨d1, d2, d3, d4⟩ := h
  refine ⟨by rw [hx 12 (by omega)]; exact d1, by rw [hn]; exact d2, ht, ?_⟩
  cases wr with
  | none => exact ⟨by rw [hx 3 (by omega)]; exact d4.1, by rw [hn2]; exact d4.2⟩
  | some ri =>
    obtain ⟨rk, ix⟩ := ri
    obtain ⟨q1, q2, q3, q4, q5, q6⟩ := d4
    exact ⟨by rw [hx 3 (by omega)]; exact q1, by rw [hn2]; exact q2, by rw [hx 4 (by omega)]; exact q3, q4, q5, by rw [hx 5 (by omega), h10]; exact q6⟩
/-- what is asked of a subsearch at a depth, from a place on -/
def jW (ev : Nat → Nat × Nat × Nat) (ne : Nat) (kd br : Nat → Nat) (pl w ru p nw la : Nat) (T : Prop) (wr : Option (Nat × Nat)) (d e k q : Nat) (M N : xm_M) (at0 : Nat → Nat) (cm : Nat) : Prop := sX ev ne kd br pl w ru M → sM ev ne kd br pl w ru p N → kT T nw la M N → dR T wr pl cm M N → (∀ j, j < d → M 11 j = nI (at0 j) ∧ N 8 j = nI (at0 j) ∧ at0 j < ne) → N 8 d + 1 = nI q → (0 < d → at0 (d - 1) < q) → (0 < d → lB (pKd ev ne) (br d) (at0 (d - 1)) q = false) → cm + k * pB e < 2 ^ 30 → ∃ r dl M' N', r ≤ k * pB e ∧ Wlk M (nI d) (nI q) r M' ∧ Rch p pl N (nI d) N' (nI d + (-1)) ∧ jR ev ne pl T wr d cm r at0 dl M M' N N'
/-- a place that fits -/
theorem j_place (hW : sW ev ne kd br pl w ru p) {e : Nat} (hd : d + e + 1 = pl) (hq : q < ne) (ih : ∀ e', e = e' + 1 → ∀ M N at0 cm, jW ev ne kd br pl w ru p nw la T wr (d + 1) e' (ne - (q + 1)) (q + 1) M N at0 cm) (hX : sX ev ne kd br pl w ru M) (hM : sM ev ne kd br pl w ru p N) (hT : kT T nw la M N) (hD : dR T wr pl cm M N) (ha : ∀ j, j < d → M 11 j = nI (at0 j) ∧ N 8 j = nI (at0 j) ∧ at0 j < ne) (h8 : N 8 d + 1 = nI q) (hl : 0 < d → at0 (d - 1) < q) (hcm : cm + pB e < 2 ^ 30) (hf : fit ev ne kd br w ru at0 d q = true) (hwin : d = 0 ∨ pTm ev ne q ≤ pTm ev ne (at0 0) + w) (hsu : (decide (pKd ev ne q = kd d) && (decide (d = 0) || rO ru (pVl ev ne (at0 (d - 1))) (pVl ev ne q))) = true) : ∃ r dl M' N', r ≤ pB e ∧ (∃ K, ∀ n, K ≤ n → ∀ x3, f_X3_walkFrom_S (n + 1) 1 M (nI d) x3 (nI q) = if pKd ev ne q = br d then some (x3 + nI r, M') else f_X3_walkFrom_S n 1 M' (nI d) (x3 + nI r) (nI (q + 1))) ∧ Rch p pl N (nI d) N' (nI d) ∧ N' 8 d = nI q ∧ jR ev ne pl T wr d cm r at0 dl M M' N N' := by
  have h25 := hW.1
  have h4 := hW.2.2.2.2.2.2.1
  have haN : ∀ j, j < d → N 8 j = nI (at0 j) ∧ at0 j < ne := fun j hj => (ha j hj).2
  obtain ⟨at1, hat⟩ : ∃ at1 : Nat → Nat, at1 = fun j => if j = d then q else at0 j := ⟨_, rfl⟩
  have at_d : at1 d = q := by rw [hat]; exact if_pos rfl
  have at_j : ∀ j, j < d → at1 j = at0 j := fun j hj => by rw [hat]; exact if_neg (by omega)
  have cn : ∀ s, cnt at1 (d + 1) s = cnt at0 d s + (if q = s then 1 else 0) := fun s => by rw [cnt, at_d, cnt_c s d at_j]
  have fX0 : fX M (xm_up M 11 d (nI q)) := ⟨fun k _ k11 _ => xm_up_r _ _ k11, fun j _ _ _ _ => xm_up_k _ _ (by omega)⟩
  have hX0 := hX.f fX0
  have e0 : (if d = 0 then q else at0 0) < ne ∧ xm_up M 11 d (nI q) 11 0 = nI (if d = 0 then q else at0 0) := by
    by_cases e : d = 0
    · rw [if_pos e, e]; exact ⟨hq, xm_up_s _ _ _ _⟩
    · rw [if_neg e]
      obtain ⟨a1, _, a2⟩ := ha 0 (by omega)
      exact ⟨a2, by rw [xm_up_j _ _ (by omega)]; exact a1⟩
  /- the head of the class's loop, for any child -/
  have head : ∀ (r : Nat) (M16 M19 : xm_M) (K : Nat), (∀ n, f_X3_tellBranch n (xm_up M 11 d (nI q)) (nI d) = some M16) → (∀ n, K ≤ n → f_X3_walkFrom_S n 0 M16 (nI (d + 1)) 0 0 = some (nI r, M19)) → fX M M19 → ∀ n, K ≤ n → ∀ x3, f_X3_walkFrom_S (n + 1) 1 M (nI d) x3 (nI q) = if pKd ev ne q = br d then some (x3 + nI r, xm_up M19 12 q (M19 12 q + nI r)) else f_X3_walkFrom_S n 1 (xm_up M19 12 q (M19 12 q + nI r)) (nI d) (x3 + nI r) (nI (q + 1)) := by
    intro r M16 M19 K g1 g2 g3 n hn x3
    have sx : sX ev ne kd br pl w ru (xm_up M19 12 q (M19 12 q + nI r)) := (hX.f g3).f ⟨fun k _ _ k12 => xm_up_r _ _ k12, fun j _ _ _ _ => xm_up_k _ _ (by omega)⟩
    have bar := x_bar hW sx (show d < pl by omega) hq
    rw [f_X3_walkFrom_S, hX.1.1, if_neg (mt (xz_le (by omega) (by omega)).mp (by omega)), x_win (at0 := at0) hW hX (show d < 4 by omega) (fun t => ⟨(ha 0 t).1, (ha 0 t).2.2⟩) hq, xz_b2, decide_eq_true hwin, tb_t, if_neg xz_10, x_suits (at0 := at0) hW hX (show d < pl by omega) (fun t => ⟨(ha (d - 1) (by omega)).1, (ha (d - 1) (by omega)).2.2⟩) hq, xz_b2, hsu, tb_t, if_neg xz_10, xz_ci (show d < 4 by omega) (by omega), xz_lt, xz_cl (show d < 2 ^ 31 by omega), g1, xz_b1, nI_1, g2 n hn, xz_b2, xz_ci (show q < 25 by omega) (by omega), xz_ci (show q < 25 by omega) (by omega), xz_lt, xz_cl (show q < 2 ^ 31 by omega), xz_ci (show q < 25 by omega) (by omega), xz_ci (show d < 4 by omega) (by omega), nI_1]
    by_cases b : pKd ev ne q = br d
    · rw [if_pos (bar.mpr b), if_pos b]
    · rw [if_neg (mt bar.mp b), if_neg b]
  /- the shares of a child -/
  have shr : ∀ (r : Nat) (dl : Nat → Nat) (M16 M19 N32 N34 : xm_M), (∀ s, s < ne → M16 12 s = M 12 s) → (∀ s, N32 9 s = N 9 s) → (∀ s, s < ne → M19 12 s = M16 12 s + nI (dl s) ∧ N34 9 (pO ev ne s) = N32 9 (pO ev ne s) + nI (dl s + r * cnt at1 (d + 1) s)) → ∀ s, s < ne → xm_up M19 12 q (M19 12 q + nI r) 12 s = M 12 s + nI (dl s + (if q = s then r else 0)) ∧ N34 9 (pO ev ne s) = N 9 (pO ev ne s) + nI (dl s + (if q = s then r else 0) + r * cnt at0 d s) := by
    intro r dl M16 M19 N32 N34 g1 g2 g3 s hs
    obtain ⟨c1, c2⟩ := g3 s hs
    refine ⟨?_, ?_⟩
    · by_cases e : q = s
      · rw [if_pos e, ← e, xm_up_s, e, c1, g1 s hs]
        exact xz_2 _ _ _ _ rfl
      · rw [if_neg e, xm_up_j _ _ (fun t => e t.symm), c1, g1 s hs]
        rfl
    · rw [c2, g2, cn]
      refine congrArg (fun z => N 9 (pO ev ne s) + nI z) ?_
      by_cases e : q = s
      · rw [if_pos e, if_pos e, Nat.mul_add]
        omega
      · rw [if_neg e, if_neg e]
        rfl
  cases e with
  | zero =>
    have hd1 : d + 1 = pl := by omega
    have fN : fM N (xm_up N 8 d (nI q)) := fM.u8 N d (nI q)
    have dD : dR T wr pl cm (xm_up M 11 d (nI q)) (xm_up N 8 d (nI q)) := by
      obtain ⟨d1, d2, d3, d4⟩ := (jR.rf (ev := ev) (ne := ne) (at0 := at0) hD (nI q) fN).1
      refine ⟨by rw [xm_up_k _ _ (by omega)]; exact d1, d2, fun t => by rw [xm_up_k _ _ (by omega), xm_up_k _ _ (by omega)]; exact d3 t, ?_⟩
      cases wr with
      | none => exact ⟨by rw [xm_up_k _ _ (by omega)]; exact d4.1, d4.2⟩
      | some ri =>
        obtain ⟨rk, ix⟩ := ri
        obtain ⟨q1, q2, q3, q4, q5, q6⟩ := d4
        exact ⟨by rw [xm_up_k _ _ (by omega)]; exact q1, q2, by rw [xm_up_k _ _ (by omega)]; exact q3, q4, q5, by rw [xm_up_k _ _ (by omega)]; exact q6⟩
    obtain ⟨M2, N2, c1, c2, c3, c4, c5, c6, c7, c8, c9⟩ := mm_match (at0 := at1) hW hX0 (hM.u8 d (nI q)) (hT.f fX0 fN) dD (by omega) (fun j hj => by
      by_cases e : j = d
      · rw [e, at_d, xm_up_s, xm_up_s]; exact ⟨rfl, rfl, hq⟩
      · rw [at_j j (by omega), xm_up_j _ _ e, xm_up_j _ _ e]; exact ha j (by omega))
    refine ⟨1, fun s => 0 + (if q = s then 1 else 0), _, N2, Nat.le_refl _, ⟨1, head 1 (xm_up M 11 d (nI q)) M2 1 (fun n => x_br1 hX0 h4 hd1) (fun n hn => ?_) (fX0.tr c4)⟩, fd_last hW hM hd1 haN h8 hq hl hf c2, by rw [c8, xm_up_s], ?_, fX0.tr (c4.tr ⟨fun k _ _ k12 => xm_up_r _ _ k12, fun j _ _ _ _ => xm_up_k _ _ (by omega)⟩), fN.tr c7, fun j hj => by rw [xm_up_k _ _ (by omega), c5, xm_up_j _ _ (by omega)], fun j hj => by rw [c8, xm_up_j _ _ (by omega)], shr 1 (fun _ => 0) (xm_up M 11 d (nI q)) M2 (xm_up N 8 d (nI q)) N2 (fun s _ => xm_up_k _ _ (by omega)) (fun s => xm_up_k _ _ (by omega)) (fun s hs => ⟨by rw [c6]; exact (xz_a0 _).symm, ?_⟩)⟩
    · obtain ⟨n, rfl⟩ : ∃ q, n = q + 1 := ⟨n - 1, by omega⟩
      rw [f_X3_walkFrom_S, hX0.2.1.1, if_pos ((xz_le (by omega) (by omega)).mpr (by omega)), c1, xz_b1]
      rfl
    · obtain ⟨d1, d2, d3, d4⟩ := c3
      refine ⟨by rw [xm_up_k _ _ (by omega)]; exact d1, d2, fun t => by rw [xm_up_k _ _ (by omega), xm_up_k _ _ (by omega)]; exact d3 t, ?_⟩
      cases wr with
      | none => exact ⟨by rw [xm_up_k _ _ (by omega)]; exact d4.1, d4.2⟩
      | some ri =>
        obtain ⟨rk, ix⟩ := ri
        obtain ⟨q1, q2, q3, q4, q5, q6⟩ := d4
        exact ⟨by rw [xm_up_k _ _ (by omega)]; exact q1, q2, by rw [xm_up_k _ _ (by omega)]; exact q3, q4, q5, by rw [xm_up_k _ _ (by omega)]; exact q6⟩
    · rw [c9 s hs, hd1, Nat.one_mul, Nat.zero_add]
  | succ e =>
    have hd1 : d + 1 < pl := by omega
    have le1 : (ne - (q + 1)) * pB e ≤ pB (e + 1) := Nat.mul_le_mul_right _ (by omega)
    have b0 := fun n => x_br2 hW hX0 hd1 e0.2 e0.1 (n := n)
    have hN32 := fd_more hW hM hd1 haN h8 hq hl hf
    have w1 : xm_up M 11 d (nI q) 8 1 = M 8 1 := xm_up_k _ _ (by omega)
    have w14 : xm_up M 11 d (nI q) 8 14 = M 8 14 := xm_up_k _ _ (by omega)
    rw [w1, w14] at b0
    obtain ⟨M16, hM16⟩ : ∃ G, G = xm_up (xm_up M 11 d (nI q)) 8 14 (M 8 14 + (if nI (pTm ev ne (if d = 0 then q else at0 0) + w) < M 8 1 then 0 else 1)) := ⟨_, rfl⟩
    obtain ⟨N32, hN2⟩ : ∃ G, G = xm_up (xm_up (xm_up N 8 d (nI q)) 0 12 (N 0 12 + (if nI (pTm ev ne (if d = 0 then q else at0 0) + w) < N 1 1 then 0 else 1))) 8 (d + 1) (nI q) := ⟨_, rfl⟩
    rw [← hN2] at hN32
    have b1 : ∀ n, f_X3_tellBranch n (xm_up M 11 d (nI q)) (nI d) = some M16 := fun n => by rw [hM16]; exact b0 n
    have x1 : fX M M16 := by
      rw [hM16]
      exact fX0.tr ⟨fun k k8 _ _ => xm_up_r _ _ k8, fun j _ _ _ j14 => xm_up_j _ _ j14⟩
    have x2 : M16 11 d = nI q ∧ (∀ j, j < d → M16 11 j = M 11 j) ∧ M16 12 = M 12 ∧ (∀ j, j ≠ 14 → M16 8 j = M 8 j) ∧ M16 8 14 = M 8 14 + (if nI (pTm ev ne (if d = 0 then q else at0 0) + w) < M 8 1 then 0 else 1) := by
      rw [hM16]
      exact ⟨by rw [xm_up_k _ _ (by omega), xm_up_s], fun j hj => by rw [xm_up_k _ _ (by omega), xm_up_j _ _ (by omega)], by rw [xm_up_r _ _ (by omega), xm_up_r _ _ (by omega)], fun j hj => by rw [xm_up_j _ _ hj, xm_up_k _ _ (by omega)], xm_up_s _ _ _ _⟩
    have n1 : fM N N32 := by
      rw [hN2]
      exact (fM.u8 N d (nI q)).tr (fM.tr ⟨fun k k0 _ _ _ => xm_up_r _ _ k0, fun j _ _ j12 => xm_up_j _ _ j12⟩ (fM.u8 _ (d + 1) (nI q)))
    have n2 : N32 8 (d + 1) = nI q ∧ N32 8 d = nI q ∧ (∀ j, j < d → N32 8 j = N 8 j) ∧ N32 9 = N 9 ∧ N32 10 = N 10 ∧ (∀ j, j ≠ 12 → N32 0 j = N 0 j) ∧ N32 0 12 = N 0 12 + (if nI (pTm ev ne (if d = 0 then q else at0 0) + w) < N 1 1 then 0 else 1) := by
      rw [hN2]
      exact ⟨xm_up_s _ _ _ _, by rw [xm_up_j _ _ (by omega), xm_up_k _ _ (by omega), xm_up_s], fun j hj => by rw [xm_up_j _ _ (by omega), xm_up_k _ _ (by omega), xm_up_j _ _ (by omega)], by rw [xm_up_r _ _ (by omega), xm_up_r _ _ (by omega), xm_up_r _ _ (by omega)], by rw [xm_up_r _ _ (by omega), xm_up_r _ _ (by omega), xm_up_r _ _ (by omega)], fun j hj => by rw [xm_up_k _ _ (by omega), xm_up_j _ _ hj, xm_up_k _ _ (by omega)], by rw [xm_up_k _ _ (by omega), xm_up_s]⟩
    obtain ⟨x3, x4, x5, x6, x7⟩ := x2
    obtain ⟨n3, n4, n5, n6, n7, n8, n9⟩ := n2
    clear hM16 hN2 b0
    have dD : dR T wr pl cm M16 N32 := hD.fr (fun j hj => x6 j (by omega)) (n8 10 (by omega)) (n8 14 (by omega)) n7 (fun t => by
      obtain ⟨k1, _, k3, _⟩ := hT t
      obtain ⟨t1, t2⟩ := hD.2.2.1 t
      rw [x6 13 (by omega), n8 11 (by omega), x7, n9, k1, k3, t2]
      exact ⟨t1, rfl⟩)
    obtain ⟨r, dl, M19, N34, g1, g2, g3, g4⟩ := ih e rfl M16 N32 at1 cm (hX.f x1) (hM.f n1) (hT.f x1 n1) dD (fun j hj => by
      by_cases e : j = d
      · rw [e, at_d]; exact ⟨x3, n4, hq⟩
      · rw [at_j j (by omega), x4 j (by omega), n5 j (by omega)]; exact ha j (by omega)) (by rw [n3, nI_1]) (fun _ => by show at1 d < q + 1; rw [at_d]; omega) (fun _ => by show lB _ _ (at1 d) _ = false; rw [at_d]; exact lB_0 _ _ _ _ (Nat.le_refl _)) (by omega)
    obtain ⟨j1, j2, j3, j4, j5, j6⟩ := g4
    obtain ⟨K, g2⟩ := g2
    have e9 : nI (d + 1) + (-1) = nI d := (Int32.sub_eq_add_neg _ _).symm.trans (nI_pred d)
    rw [e9] at g3
    refine ⟨r, fun s => dl s + (if q = s then r else 0), xm_up M19 12 q (M19 12 q + nI r), N34, by omega, ⟨K + 1, fun n hn => head r M16 M19 (K + 1) b1 (fun n hn => ?_) (x1.tr j2) n hn⟩, hN32.tr g3, by rw [j5 d (by omega)]; exact n4, j1.fr (fun j hj => xm_up_k _ _ (by omega)) rfl rfl rfl (fun t => by rw [xm_up_k _ _ (by omega), xm_up_k _ _ (by omega)]; exact j1.2.2.1 t), x1.tr (j2.tr ⟨fun k _ _ k12 => xm_up_r _ _ k12, fun j _ _ _ _ => xm_up_k _ _ (by omega)⟩), n1.tr j3, fun j hj => by rw [xm_up_k _ _ (by omega), j4 j (by omega), x4 j hj], fun j hj => by rw [j5 j (by omega), n5 j hj], shr r dl M16 M19 N32 N34 (fun s _ => by rw [x5]) (fun s => by rw [n6]) j6⟩
    obtain ⟨n, rfl⟩ : ∃ q, n = q + 1 := ⟨n - 1, by omega⟩
    have sx16 := hX.f x1
    have gg := g2 n (by omega) 0
    rw [f_X3_walkFrom_S, sx16.2.1.1, if_neg (mt (xz_le (by omega) (by omega)).mp (by omega)), if_pos ((xz_ltc (c := 4) 4 rfl (by omega) (by omega)).mpr (by omega)), if_neg (mt (xz_ec (c := 0) 0 rfl (by omega) (by omega)).mp (by omega)), nI_pred, xz_ci (show d < 4 by omega) (by omega), xz_cl (by omega), x3, nI_1, gg, Int32.zero_add]
theorem fit_su (hb : 0 < d → lB (pKd ev ne) (br d) (at0 (d - 1)) q = false) : fit ev ne kd br w ru at0 d q = ((decide (pKd ev ne q = kd d) && (decide (d = 0) || rO ru (pVl ev ne (at0 (d - 1))) (pVl ev ne q))) && decide (d = 0 ∨ pTm ev ne q ≤ pTm ev ne (at0 0) + w)) := by
  unfold fit
  by_cases e : d = 0
  · rw [decide_eq_true e, decide_eq_true (Or.inl e), Bool.true_or, Bool.true_or, Bool.and_true, Bool.and_true]
  · have e2 : decide (d = 0 ∨ pTm ev ne q ≤ pTm ev ne (at0 0) + w) = decide (pTm ev ne q ≤ pTm ev ne (at0 0) + w) := by
      by_cases g : pTm ev ne q ≤ pTm ev ne (at0 0) + w
      · rw [decide_eq_true g, decide_eq_true (Or.inr g)]
      · rw [decide_eq_false g, decide_eq_false (by omega)]
    rw [decide_eq_false e, hb (by omega), e2, Bool.not_false, Bool.or_true, Bool.and_true, Bool.false_or, Bool.false_or]
    cases decide (pKd ev ne q = kd d) <;> cases decide (pTm ev ne q ≤ pTm ev ne (at0 0) + w) <;> cases rO ru (pVl ev ne (at0 (d - 1))) (pVl ev ne q) <;> rfl
theorem fit_bar {q' : Nat} (hd : 0 < d) (hl : at0 (d - 1) < q) (hq : q < q') (hk : pKd ev ne q = br d) (h8 : pKd ev ne q < 8) : fit ev ne kd br w ru at0 d q' = false := by
  have e : lB (pKd ev ne) (br d) (at0 (d - 1)) q' = true := (lB_i _ _ _ _).mpr ⟨q, hq, hl, hk⟩
  unfold fit
  rw [e, decide_eq_false (show ¬ d = 0 by omega), decide_eq_false (show ¬ br d = 8 by omega), Bool.not_true, Bool.or_false, Bool.and_false, Bool.and_false, Bool.or_false, Bool.and_false]
theorem fit_late {q' : Nat} (hd : 0 < d) (h : ¬ pTm ev ne q' ≤ pTm ev ne (at0 0) + w) : fit ev ne kd br w ru at0 d q' = false := by
  unfold fit
  rw [decide_eq_false (show ¬ d = 0 by omega), decide_eq_false h, Bool.false_and, Bool.or_false, Bool.and_false]
/-- the loop over the places -/
theorem j_loop (hW : sW ev ne kd br pl w ru p) {e d : Nat} (hd : d + e + 1 = pl) (ih : ∀ e', e = e' + 1 → ∀ q, q < ne → ∀ M N at0 cm, jW ev ne kd br pl w ru p nw la T wr (d + 1) e' (ne - (q + 1)) (q + 1) M N at0 cm) : ∀ (k q : Nat), q + k = ne → ∀ M N at0 cm, jW ev ne kd br pl w ru p nw la T wr d e k q M N at0 cm
  | 0, q, hk, M, N, at0, cm, hX, hM, hT, hD, ha, h8, hl, hb, hcm => by
    have : q = ne := by omega
    subst this
    refine ⟨0, fun _ => 0, M, _, Nat.zero_le _, ⟨1, fun n hn x3 => ?_⟩, fd_end hW hM (by omega) h8, jR.rf hD _ (fM.u8 N d _)⟩
    obtain ⟨n, rfl⟩ : ∃ q, n = q + 1 := ⟨n - 1, by omega⟩
    have h25 := hW.1
    rw [f_X3_walkFrom_S, hX.1.1, if_pos ((xz_le (by omega) (by omega)).mpr (Nat.le_refl _))]
    exact congrArg (fun z => some (z, M)) (xz_a0 x3).symm
  | k + 1, q, hk, M, N, at0, cm, hX, hM, hT, hD, ha, h8, hl, hb, hcm => by
    have h25 := hW.1
    have h4 := hW.2.2.2.2.2.2.1
    have hq : q < ne := by omega
    have kq := (hW.t hq).2.1
    have haN : ∀ j, j < d → N 8 j = nI (at0 j) ∧ at0 j < ne := fun j hj => (ha j hj).2
    have bar := x_bar hW hX (show d < pl by omega) hq
    have win := fun n => x_win (at0 := at0) hW hX (show d < 4 by omega) (fun t => ⟨(ha 0 t).1, (ha 0 t).2.2⟩) hq (n := n)
    have su := fun n => x_suits (at0 := at0) hW hX (show d < pl by omega) (fun t => ⟨(ha (d - 1) (by omega)).1, (ha (d - 1) (by omega)).2.2⟩) hq (n := n)
    have fs := fit_su (kd := kd) (w := w) (ru := ru) hb
    have hb2 : pKd ev ne q ≠ br d → 0 < d → lB (pKd ev ne) (br d) (at0 (d - 1)) (q + 1) = false := by
      intro t t2
      rw [lB, hb t2, decide_eq_false (fun z => t z.2)]
      rfl
    have bd : pKd ev ne q = br d → 0 < d := by
      intro t
      rcases Nat.eq_zero_or_pos d with z | z
      · rw [z, hW.2.2.2.2.1] at t; omega
      · exact z
    have pbs : (k + 1) * pB e = k * pB e + pB e := Nat.succ_mul k (pB e)
    have stop : ∀ X : Int32 → Option (Int32 × xm_M), (∀ n x3, 1 ≤ n → f_X3_walkFrom_S n 1 M (nI d) x3 (nI q) = X x3) → (∀ x3, X x3 = some (x3, M)) → (∀ q', q ≤ q' → q' < ne → fit ev ne kd br w ru at0 d q' = false) → ∃ r dl M' N', r ≤ (k + 1) * pB e ∧ Wlk M (nI d) (nI q) r M' ∧ Rch p pl N (nI d) N' (nI d + (-1)) ∧ jR ev ne pl T wr d cm r at0 dl M M' N N' := by
      intro X h1 h2 h3
      refine ⟨0, fun _ => 0, M, _, Nat.zero_le _, ⟨1, fun n hn x3 => ?_⟩, fd_skip hW (by omega) (k + 1) q N hk hM haN h8 hl h3, jR.rf hD _ (fM.u8 N d _)⟩
      rw [h1 n x3 hn, h2]
      exact congrArg (fun z => some (z, M)) (xz_a0 x3).symm
    by_cases hwin : d = 0 ∨ pTm ev ne q ≤ pTm ev ne (at0 0) + w
    · by_cases hsu : (decide (pKd ev ne q = kd d) && (decide (d = 0) || rO ru (pVl ev ne (at0 (d - 1))) (pVl ev ne q))) = true
      · have hf : fit ev ne kd br w ru at0 d q = true := by rw [fs, hsu, decide_eq_true hwin]; rfl
        obtain ⟨r1, dl1, M1, N1, a1, ⟨K1, a2⟩, a3, a4, a5⟩ := j_place hW hd hq (fun e' he => ih e' he q hq) hX hM hT hD ha h8 hl (by omega) hf hwin hsu
        by_cases b : pKd ev ne q = br d
        · have s2 := fd_skip (at0 := at0) hW (show d < pl by omega) k (q + 1) N1 (by omega) (hM.f a5.2.2.1) (fun j hj => by rw [a5.2.2.2.2.1 j hj]; exact haN j hj) (by rw [a4, nI_1]) (fun t => by have := hl t; omega) (fun q' h1 h2 => fit_bar (bd b) (hl (bd b)) (by omega) b kq)
          refine ⟨r1, dl1, M1, _, by omega, ⟨K1 + 1, fun n hn x3 => ?_⟩, a3.tr s2, ?_⟩
          · obtain ⟨n, rfl⟩ : ∃ q, n = q + 1 := ⟨n - 1, by omega⟩
            rw [a2 n (by omega) x3, if_pos b]
          · have := a5.tr (jR.rf (ev := ev) (ne := ne) (at0 := at0) a5.1 (nI ne) (fM.u8 N1 d (nI ne)))
            exact this
        · obtain ⟨r2, dl2, M2, N2, b1, ⟨K2, b2⟩, b3, b4⟩ := j_loop hW hd ih k (q + 1) (by omega) M1 N1 at0 (cm + r1) (hX.f a5.2.1) (hM.f a5.2.2.1) (hT.f a5.2.1 a5.2.2.1) a5.1 (fun j hj => by rw [a5.2.2.2.1 j hj, a5.2.2.2.2.1 j hj]; exact ha j hj) (by rw [a4, nI_1]) (fun t => by have := hl t; omega) (hb2 b) (by omega)
          refine ⟨r1 + r2, _, M2, N2, by omega, ⟨K1 + K2 + 1, fun n hn x3 => ?_⟩, a3.tr b3, a5.tr b4⟩
          obtain ⟨n, rfl⟩ : ∃ q, n = q + 1 := ⟨n - 1, by omega⟩
          rw [a2 n (by omega) x3, if_neg b, b2 n (by omega)]
          exact congrArg (fun z => some (z, M2)) (xz_2 _ _ _ _ rfl)
      · have hs2 : (decide (pKd ev ne q = kd d) && (decide (d = 0) || rO ru (pVl ev ne (at0 (d - 1))) (pVl ev ne q))) = false := by
          rcases Bool.eq_false_or_eq_true (decide (pKd ev ne q = kd d) && (decide (d = 0) || rO ru (pVl ev ne (at0 (d - 1))) (pVl ev ne q))) with z | z
          · exact absurd z hsu
          · exact z
        have hf : fit ev ne kd br w ru at0 d q = false := by rw [fs, hs2]; rfl
        have hx : ∀ n x3, f_X3_walkFrom_S (n + 1) 1 M (nI d) x3 (nI q) = if pKd ev ne q = br d then some (x3, M) else f_X3_walkFrom_S n 1 M (nI d) x3 (nI (q + 1)) := by
          intro n x3
          rw [f_X3_walkFrom_S, hX.1.1, if_neg (mt (xz_le (by omega) (by omega)).mp (by omega)), win, xz_b2, decide_eq_true hwin, tb_t, if_neg xz_10, su, xz_b2, hs2, tb_f, if_pos rfl, xz_ci (show q < 25 by omega) (by omega), xz_ci (show d < 4 by omega) (by omega), xz_cl (show q < 2 ^ 31 by omega), xz_cl (show d < 2 ^ 31 by omega), nI_1]
          by_cases b : pKd ev ne q = br d
          · rw [if_pos (bar.mpr b), if_pos b]
          · rw [if_neg (mt bar.mp b), if_neg b]
        by_cases b : pKd ev ne q = br d
        · refine stop (fun x3 => some (x3, M)) (fun n x3 hn => ?_) (fun _ => rfl) (fun q' h1 h2 => ?_)
          · obtain ⟨n, rfl⟩ : ∃ q, n = q + 1 := ⟨n - 1, by omega⟩
            rw [hx, if_pos b]
          · by_cases z : q' = q
            · rw [z]; exact hf
            · exact fit_bar (bd b) (hl (bd b)) (by omega) b kq
        · have s1 := fd_no hW hM (show d < pl by omega) haN h8 hq hl hf
          have f1 := fM.u8 N d (nI q)
          have j1 := jR.rf (ev := ev) (ne := ne) (at0 := at0) hD (nI q) f1
          obtain ⟨r2, dl2, M2, N2, b1, ⟨K2, b2⟩, b3, b4⟩ := j_loop hW hd ih k (q + 1) (by omega) M (xm_up N 8 d (nI q)) at0 cm hX (hM.u8 d _) (hT.f (fX.rf M) f1) j1.1 (fun j hj => by rw [xm_up_j _ _ (by omega)]; exact ha j hj) (by rw [xm_up_s, nI_1]) (fun t => by have := hl t; omega) (hb2 b) (by omega)
          refine ⟨0 + r2, _, M2, N2, by omega, ⟨K2 + 1, fun n hn x3 => ?_⟩, s1.tr b3, j1.tr b4⟩
          obtain ⟨n, rfl⟩ : ∃ q, n = q + 1 := ⟨n - 1, by omega⟩
          rw [hx, if_neg b, b2 n (by omega), Nat.zero_add]
    · have d0 : 0 < d := by omega
      refine stop (fun x3 => some (x3, M)) (fun n x3 hn => ?_) (fun _ => rfl) (fun q' h1 h2 => fit_late d0 ?_)
      · obtain ⟨n, rfl⟩ : ∃ q, n = q + 1 := ⟨n - 1, by omega⟩
        rw [f_X3_walkFrom_S, hX.1.1, if_neg (mt (xz_le (by omega) (by omega)).mp (by omega)), win, xz_b2, decide_eq_false hwin, tb_f, if_pos rfl]
      · have srt : pTm ev ne q ≤ pTm ev ne q' := by
          by_cases z : q = q'
          · rw [z]; exact Nat.le_refl _
          · exact io_srt (eT ev) ne q q' (by omega) h2
        omega
/-- the walk -/
theorem j_walk (hW : sW ev ne kd br pl w ru p) : ∀ (e d : Nat), d + e + 1 = pl → ∀ (k q : Nat), q + k = ne → ∀ M N at0 cm, jW ev ne kd br pl w ru p nw la T wr d e k q M N at0 cm
  | 0, d, hd => j_loop hW hd (fun e' he => absurd he (by omega))
  | e + 1, d, hd => j_loop hW hd (fun e' he q hq M N at0 cm => by
    have : e' = e := by omega
    subst this
    exact j_walk hW e' (d + 1) (by omega) (ne - (q + 1)) (q + 1) (by omega) M N at0 cm)
end JNT
