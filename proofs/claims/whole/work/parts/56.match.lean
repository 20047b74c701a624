/-! LAYER 2: a match is told -/
def cnt (at0 : Nat → Nat) : Nat → Nat → Nat
  | 0, _ => 0
  | d + 1, q => cnt at0 d q + (if at0 d = q then 1 else 0)
theorem cnt_c {a b : Nat → Nat} (q : Nat) : ∀ d, (∀ j, j < d → a j = b j) → cnt a d q = cnt b d q
  | 0, _ => rfl
  | d + 1, h => by rw [cnt, cnt, cnt_c q d (fun j hj => h j (by omega)), h d (by omega)]
def fX (M M' : xm_M) : Prop := (∀ k, k ≠ 8 → k ≠ 11 → k ≠ 12 → M' k = M k) ∧ ∀ j, j ≠ 5 → j ≠ 12 → j ≠ 13 → j ≠ 14 → M' 8 j = M 8 j
def fM (N N' : xm_M) : Prop := (∀ k, k ≠ 0 → k ≠ 8 → k ≠ 9 → k ≠ 10 → N' k = N k) ∧ ∀ j, j ≠ 10 → j ≠ 11 → j ≠ 12 → N' 0 j = N 0 j
theorem fX.rf (M : xm_M) : fX M M := ⟨fun _ _ _ _ => rfl, fun _ _ _ _ _ => rfl⟩
theorem fM.rf (N : xm_M) : fM N N := ⟨fun _ _ _ _ _ => rfl, fun _ _ _ _ => rfl⟩
theorem fX.tr {M M1 M2 : xm_M} (h1 : fX M M1) (h2 : fX M1 M2) : fX M M2 := ⟨fun k a b c => (h2.1 k a b c).trans (h1.1 k a b c), fun j a b c d => (h2.2 j a b c d).trans (h1.2 j a b c d)⟩
theorem fM.tr {N N1 N2 : xm_M} (h1 : fM N N1) (h2 : fM N1 N2) : fM N N2 := ⟨fun k a b c d => (h2.1 k a b c d).trans (h1.1 k a b c d), fun j a b c => (h2.2 j a b c).trans (h1.2 j a b c)⟩
def kT (T : Prop) (nw la : Nat) (M N : xm_M) : Prop := T → M 8 1 = nI nw ∧ M 8 2 = nI (nw - la) ∧ N 1 1 = nI nw ∧ N 1 2 = nI la ∧ nw ≤ 9999 ∧ la ≤ 500
def wR (wr : Option (Nat × Nat)) (pl cm : Nat) (M N : xm_M) : Prop := match wr with
  | none => M 8 3 = -1 ∧ N 0 14 = -5
  | some (rk, ix) => M 8 3 = nI rk ∧ N 0 14 = nI rk ∧ M 8 4 = nI ix ∧ ix < pl ∧ rk < 2 ^ 31 ∧ ((cm ≤ rk ∧ M 8 5 = -5) ∨ (rk < cm ∧ M 8 5 = N 10 ix))
def dR (T : Prop) (wr : Option (Nat × Nat)) (pl cm : Nat) (M N : xm_M) : Prop := M 8 12 = nI cm ∧ N 0 10 = nI cm ∧ (T → M 8 13 = N 0 11 ∧ M 8 14 = N 0 12) ∧ wR wr pl cm M N
section MAT
variable {ev : Nat → Nat × Nat × Nat} {ne : Nat} {kd br : Nat → Nat} {pl w ru p nw la cm : Nat} {M N M' N' : xm_M} {at0 : Nat → Nat} {T : Prop} {wr : Option (Nat × Nat)}
theorem sX.f (h : sX ev ne kd br pl w ru M) (f : fX M M') : sX ev ne kd br pl w ru M' := h.fr (fun k hk => f.1 k (by omega) (by omega) (by omega)) (fun j h1 h2 => f.2 j (by omega) (by omega) (by omega) (by omega))
theorem sM.f (h : sM ev ne kd br pl w ru p N) (f : fM N N') : sM ev ne kd br pl w ru p N' := h.fr (f.1 1 (by omega) (by omega) (by omega) (by omega)) (f.1 5 (by omega) (by omega) (by omega) (by omega)) (f.1 6 (by omega) (by omega) (by omega) (by omega)) (f.1 7 (by omega) (by omega) (by omega) (by omega))
theorem kT.f (h : kT T nw la M N) (f : fX M M') (g : fM N N') : kT T nw la M' N' := fun t => by
  have e := g.1 1 (by omega) (by omega) (by omega) (by omega)
  rw [f.2 1 (by omega) (by omega) (by omega) (by omega), f.2 2 (by omega) (by omega) (by omega) (by omega), e]
  exact h t
theorem m_wm (h1 : N 1 1 = nI nw) (h2 : N 1 2 = nI la) (w1 : nw ≤ 9999) (w2 : la ≤ 500) {n : Nat} : f_X7_watermark n N = some (nI (nw - la), N) := by
  unfold f_X7_watermark
  rw [xz_i1, xz_i2, xz_ct, xz_ct, xz_t1, xz_t2, h1, h2]
  by_cases g : la ≤ nw
  · rw [if_pos ((xz_s1 (by omega) (by omega)).mpr g), pk_sub g]
  · rw [if_neg (mt (xz_s1 (by omega) (by omega)).mp g), show nw - la = 0 by omega]
    rfl
theorem m_wm2 (N : xm_M) (n : Nat) : ∃ r, f_X7_watermark n N = some (r, N) := by
  unfold f_X7_watermark
  rw [xz_i1, xz_i2, xz_ct, xz_ct]
  split
  · exact ⟨_, rfl⟩
  · exact ⟨_, rfl⟩
/-- what a match does to the row of shares, and to the row of what is wanted -/
def mU (o at0 : Nat → Nat) (N : xm_M) : Nat → xm_M
  | 0 => N
  | i + 1 => xm_up (mU o at0 N i) 9 (o (at0 i)) (mU o at0 N i 9 (o (at0 i)) + 1)
def mV (o at0 : Nat → Nat) (N : xm_M) : Nat → xm_M
  | 0 => N
  | i + 1 => xm_up (mV o at0 N i) 10 i (nI (o (at0 i)))
theorem mU_k (o at0 : Nat → Nat) (N : xm_M) : ∀ i k, k ≠ 9 → mU o at0 N i k = N k
  | 0, k, _ => rfl
  | i + 1, k, h => by rw [mU, xm_up_r _ _ h]; exact mU_k o at0 N i k h
theorem mU_9 (N : xm_M) : ∀ i, (∀ j, j < i → at0 j < ne) → ∀ q, q < ne → mU (pO ev ne) at0 N i 9 (pO ev ne q) = N 9 (pO ev ne q) + nI (cnt at0 i q)
  | 0, _, q, _ => (xz_a0 _).symm
  | i + 1, h, q, hq => by
    rw [mU, cnt]
    have ih := mU_9 N i (fun j hj => h j (by omega))
    by_cases e : at0 i = q
    · rw [e, xm_up_s, ih q hq, if_pos rfl, ← nI_add, Int32.add_assoc]
      rfl
    · rw [if_neg e, xm_up_j _ _ (show pO ev ne q ≠ pO ev ne (at0 i) from fun t => e (io_inj (eT ev) ne _ _ hq (h i (by omega)) t).symm), ih q hq]
      rfl
theorem mV_k (o at0 : Nat → Nat) (N : xm_M) : ∀ i k, k ≠ 10 → mV o at0 N i k = N k
  | 0, k, _ => rfl
  | i + 1, k, h => by rw [mV, xm_up_r _ _ h]; exact mV_k o at0 N i k h
theorem mV_10 (o at0 : Nat → Nat) (N : xm_M) : ∀ i j, j < i → mV o at0 N i 10 j = nI (o (at0 j))
  | 0, j, h => absurd h (Nat.not_lt_zero j)
  | i + 1, j, h => by
    rw [mV]
    by_cases e : j = i
    · rw [e, xm_up_s]
    · rw [xm_up_j _ _ e]; exact mV_10 o at0 N i j (by omega)
theorem m_match43 (hW : sW ev ne kd br pl w ru p) (h : sM ev ne kd br pl w ru p N) (ha : ∀ j, j < pl → N 8 j = nI (at0 j) ∧ at0 j < ne) {r8 : Int32} (h8 : ∀ n N2, N2 1 = N 1 → f_X7_watermark n N2 = some (r8, N2)) : ∃ N', (∀ n, 30 < n → f_X7_isMatch_43 n N (nI pl) 0 = some N') ∧ (∀ k, k ≠ 0 → k ≠ 9 → N' k = N k) ∧ (∀ j, j ≠ 10 → j ≠ 11 → N' 0 j = N 0 j) ∧ N' 0 10 = N 0 10 + 1 ∧ N' 0 11 = N 0 11 + (if r8 < nI (pTm ev ne (at0 (pl - 1))) then 0 else 1) ∧ ∀ q, q < ne → N' 9 (pO ev ne q) = N 9 (pO ev ne q) + nI (cnt at0 pl q) := by
  have h25 := hW.1
  have p1 := hW.2.2.2.2.2.1
  have p4 := hW.2.2.2.2.2.2.1
  have u0 : mU (pO ev ne) at0 N pl 0 = N 0 := mU_k _ _ _ _ 0 (by omega)
  refine ⟨xm_up (xm_up (mU (pO ev ne) at0 N pl) 0 10 (N 0 10 + 1)) 0 11 (N 0 11 + (if r8 < nI (pTm ev ne (at0 (pl - 1))) then 0 else 1)), fun n hn => ?_, fun k k0 k9 => by rw [xm_up_r _ _ k0, xm_up_r _ _ k0]; exact mU_k _ _ _ _ k k9, fun j j0 j1 => by rw [xm_up_j _ _ j1, xm_up_j _ _ j0, u0], by rw [xm_up_j _ _ (by omega), xm_up_s], xm_up_s _ _ _ _, fun q hq => by rw [xm_up_k _ _ (by omega), xm_up_k _ _ (by omega)]; exact mU_9 N pl (fun j hj => (ha j hj).2) q hq⟩
  obtain ⟨r, g1, g2⟩ := xz_for (fun n M i => f_X7_isMatch_43 n M (nI pl) (nI i)) pl 5 (fun i N2 => N2 = mU (pO ev ne) at0 N i) (fun r => r = xm_up (xm_up (mU (pO ev ne) at0 N pl) 0 10 (N 0 10 + 1)) 0 11 (N 0 11 + (if r8 < nI (pTm ev ne (at0 (pl - 1))) then 0 else 1))) (by
    intro n N2 hK hI
    subst hI
    obtain ⟨a1, a2⟩ := ha (pl - 1) (by omega)
    have i1 := fun k hk => mU_k (pO ev ne) at0 N pl k hk
    generalize mU (pO ev ne) at0 N pl = N2 at i1 u0
    have fr : ∀ v, ∀ k, k ≠ 0 → xm_up N2 0 10 v k = N2 k := fun v k hk => xm_up_r _ _ hk
    have g : sM ev ne kd br pl w ru p (xm_up N2 0 10 (N2 0 10 + 1)) := h.fr (by rw [fr _ 1 (by omega), i1 1 (by omega)]) (by rw [fr _ 5 (by omega), i1 5 (by omega)]) (by rw [fr _ 6 (by omega), i1 6 (by omega)]) (by rw [fr _ 7 (by omega), i1 7 (by omega)])
    have c2 := (m_chosen (at0 := at0) hW g (j := pl - 1) (by omega) (by rw [fr _ 8 (by omega), i1 8 (by omega)]; exact a1) a2 (n := n)).2.2
    have e9 : nI pl - 1 = nI (pl - 1) := pk_sub (b := 1) p1
    refine ⟨_, ?_, rfl⟩
    show f_X7_isMatch_43 (n + 1) N2 (nI pl) (nI pl) = _
    rw [f_X7_isMatch_43, if_pos ((xz_le (by omega) (by omega)).mpr (Nat.le_refl _)), xz_lt, e9, c2, xz_b2, h8 n _ (by rw [fr _ 1 (by omega), i1 1 (by omega)]), xz_b2, xm_up_j _ _ (show 11 ≠ 10 by omega), u0]
    by_cases z : r8 < nI (pTm ev ne (at0 (pl - 1)))
    · rw [if_pos z, if_pos z]; rfl
    · rw [if_neg z, if_neg z]; rfl) (by
    intro n i N2 hK hi hI
    subst hI
    obtain ⟨a1, a2⟩ := ha i hi
    have t1 := (hW.t a2).1
    have b8 : mU (pO ev ne) at0 N i 8 i = nI (at0 i) := by rw [mU_k _ _ _ _ 8 (by omega)]; exact a1
    have b5 : mU (pO ev ne) at0 N i 5 (at0 i) = nI (pO ev ne (at0 i)) := by rw [mU_k _ _ _ _ 5 (by omega)]; exact h.2.1 _ a2
    refine ⟨mU (pO ev ne) at0 N (i + 1), rfl, ?_⟩
    show f_X7_isMatch_43 (n + 1) (mU (pO ev ne) at0 N i) (nI pl) (nI i) = f_X7_isMatch_43 n (mU (pO ev ne) at0 N (i + 1)) (nI pl) (nI (i + 1))
    rw [mU, f_X7_isMatch_43, if_neg (mt (xz_le (by omega) (by omega)).mp (by omega)), xz_ci (show i < 4 by omega) (by omega), xz_cl (by omega), b8, xz_ci (show at0 i < 25 by omega) (by omega), xz_cl (by omega), b5, xz_ci (show pO ev ne (at0 i) < 25 by omega) (by omega), xz_ci (show pO ev ne (at0 i) < 25 by omega) (by omega), xz_lt, xz_cl (by omega), nI_1]) n 0 N (by omega) (by omega) rfl
  rw [g2] at g1
  exact g1
theorem m_match13 (hW : sW ev ne kd br pl w ru p) (h : sM ev ne kd br pl w ru p N) (ha : ∀ j, j < pl → N 8 j = nI (at0 j) ∧ at0 j < ne) {n : Nat} (hn : 60 < n) : ∃ m, 30 < m ∧ f_X7_isMatch_13 n N (nI pl) 0 = f_X7_isMatch_43 m (mV (pO ev ne) at0 N pl) (nI pl) 0 := by
  have h25 := hW.1
  have p4 := hW.2.2.2.2.2.2.1
  have key : ∀ d i n, i + d = pl → d + 40 < n → ∃ m, 30 < m ∧ f_X7_isMatch_13 n (mV (pO ev ne) at0 N i) (nI pl) (nI i) = f_X7_isMatch_43 m (mV (pO ev ne) at0 N pl) (nI pl) 0 := by
    intro d
    induction d with
    | zero =>
      intro i n hd hn
      obtain ⟨n, rfl⟩ : ∃ q, n = q + 1 := ⟨n - 1, by omega⟩
      have : i = pl := by omega
      subst this
      refine ⟨n, by omega, ?_⟩
      rw [f_X7_isMatch_13, if_pos ((xz_le (by omega) (by omega)).mpr (Nat.le_refl _))]
    | succ d ih =>
      intro i n hd hn
      obtain ⟨n, rfl⟩ : ∃ q, n = q + 1 := ⟨n - 1, by omega⟩
      obtain ⟨a1, a2⟩ := ha i (by omega)
      have b8 : mV (pO ev ne) at0 N i 8 i = nI (at0 i) := by rw [mV_k _ _ _ _ 8 (by omega)]; exact a1
      have b5 : mV (pO ev ne) at0 N i 5 (at0 i) = nI (pO ev ne (at0 i)) := by rw [mV_k _ _ _ _ 5 (by omega)]; exact h.2.1 _ a2
      obtain ⟨m, c1, c2⟩ := ih (i + 1) n (by omega) (by omega)
      refine ⟨m, c1, ?_⟩
      rw [f_X7_isMatch_13, if_neg (mt (xz_le (by omega) (by omega)).mp (by omega)), xz_ci (show i < 4 by omega) (by omega), xz_cl (by omega), b8, xz_ci (show at0 i < 25 by omega) (by omega), xz_ci (show i < 4 by omega) (by omega), xz_lt, xz_cl (by omega), b5, nI_1]
      exact c2
  exact key pl 0 n (by omega) (by omega)
/-- a match, on both sides -/
theorem mm_match (hW : sW ev ne kd br pl w ru p) (hX : sX ev ne kd br pl w ru M) (hM : sM ev ne kd br pl w ru p N) (hT : kT T nw la M N) (hD : dR T wr pl cm M N) (hcm : cm < 2 ^ 30) (ha : ∀ j, j < pl → M 11 j = nI (at0 j) ∧ N 8 j = nI (at0 j) ∧ at0 j < ne) : ∃ M' N', (∀ n, f_X3_tellMatch n M = some M') ∧ (∀ n, 70 < n → f_X7_isMatch n N (nI pl) = some N') ∧ dR T wr pl (cm + 1) M' N' ∧ fX M M' ∧ M' 11 = M 11 ∧ M' 12 = M 12 ∧ fM N N' ∧ N' 8 = N 8 ∧ ∀ q, q < ne → N' 9 (pO ev ne q) = N 9 (pO ev ne q) + nI (cnt at0 pl q) := by
  have h25 := hW.1
  have p1 := hW.2.2.2.2.2.1
  have p4 := hW.2.2.2.2.2.2.1
  obtain ⟨d1, d2, d3, d4⟩ := hD
  obtain ⟨l1, l2, l3⟩ := ha (pl - 1) (by omega)
  have tl := hW.t l3
  obtain ⟨r8, h8, h9⟩ : ∃ r8, (∀ n N2, N2 1 = N 1 → f_X7_watermark n N2 = some (r8, N2)) ∧ (T → r8 = nI (nw - la)) := by
    by_cases t : T
    · obtain ⟨k1, k2, k3, k4, k5, k6⟩ := hT t
      exact ⟨nI (nw - la), fun n N2 e => m_wm (by rw [e]; exact k3) (by rw [e]; exact k4) k5 k6, fun _ => rfl⟩
    · obtain ⟨r, hr⟩ := m_wm2 N 0
      refine ⟨r, fun n N2 e => ?_, fun q => absurd q t⟩
      have e2 : f_X7_watermark n N2 = some (if (0 : Int32) ≤ N 1 1 - N 1 2 then N 1 1 - N 1 2 else 0, N2) := by
        unfold f_X7_watermark
        rw [xz_i1, xz_i2, xz_ct, xz_ct, xz_t1, xz_t2, e]
        split <;> rfl
      have e3 : f_X7_watermark 0 N = some (if (0 : Int32) ≤ N 1 1 - N 1 2 then N 1 1 - N 1 2 else 0, N) := by
        unfold f_X7_watermark
        rw [xz_i1, xz_i2, xz_ct, xz_ct, xz_t1, xz_t2]
        split <;> rfl
      rw [e3] at hr
      rw [e2]
      have := (Prod.mk.inj (Option.some.inj hr)).1
      rw [this]
  have e9 : nI pl - 1 = nI (pl - 1) := pk_sub (b := 1) p1
  have r17 : M 17 (at0 (pl - 1)) = nI (pTm ev ne (at0 (pl - 1))) := (hX.1.2 _ l3).2.2.2
  /- the class -/
  obtain ⟨M1, x1, x2, x3, x4⟩ : ∃ M1 : xm_M, (∀ n, f_X3_tellMatch n M = f_X3_tellMatch_36 n M1) ∧ (∀ k, k ≠ 8 → M1 k = M k) ∧ (∀ j, j ≠ 13 → M1 8 j = M 8 j) ∧ (T → M1 8 13 = M 8 13 + (if r8 < nI (pTm ev ne (at0 (pl - 1))) then 0 else 1)) := by
    by_cases z : M 8 2 < nI (pTm ev ne (at0 (pl - 1)))
    · refine ⟨M, fun n => ?_, fun _ _ => rfl, fun _ _ => rfl, fun t => ?_⟩
      · unfold f_X3_tellMatch
        rw [hX.2.1.1, e9, xz_ci (show pl - 1 < 4 by omega) (by omega), xz_cl (by omega), l1, xz_ci (show at0 (pl - 1) < 25 by omega) (by omega), xz_cl (by omega), r17, if_pos z]
      · rw [if_pos (by rw [h9 t, ← (hT t).2.1]; exact z)]
        exact (xz_a0 _).symm
    · refine ⟨xm_up M 8 13 (M 8 13 + 1), fun n => ?_, fun k hk => xm_up_r _ _ hk, fun j hj => xm_up_j _ _ hj, fun t => ?_⟩
      · unfold f_X3_tellMatch
        rw [hX.2.1.1, e9, xz_ci (show pl - 1 < 4 by omega) (by omega), xz_cl (by omega), l1, xz_ci (show at0 (pl - 1) < 25 by omega) (by omega), xz_cl (by omega), r17, if_neg z, xz_lt]
      · rw [if_neg (by rw [h9 t, ← (hT t).2.1]; exact z), xm_up_s]
  have y12 : M1 8 12 = nI cm := by rw [x3 12 (by omega)]; exact d1
  have y3 : M1 8 3 = M 8 3 := x3 3 (by omega)
  have fX1 : ∀ (v : Option Int32) (G : xm_M), G = (match v with | none => xm_up M1 8 12 (nI (cm + 1)) | some u => xm_up (xm_up M1 8 5 u) 8 12 (nI (cm + 1))) → fX M G ∧ G 11 = M 11 ∧ G 12 = M 12 ∧ G 8 12 = nI (cm + 1) ∧ (T → G 8 13 = M1 8 13 ∧ G 8 14 = M 8 14) ∧ (∀ j, j ≠ 5 → j ≠ 12 → j ≠ 13 → G 8 j = M 8 j) ∧ (match v with | none => G 8 5 = M 8 5 | some u => G 8 5 = u) := by
    intro v G hG
    subst hG
    cases v with
    | none =>
      refine ⟨⟨fun k k8 k11 k12 => ?_, fun j j5 j12 j13 j14 => ?_⟩, ?_, ?_, xm_up_s _ _ _ _, fun t => ⟨?_, ?_⟩, fun j j5 j12 j13 => ?_, ?_⟩
      · show xm_up M1 8 12 _ k = _; rw [xm_up_r _ _ k8, x2 k k8]
      · show xm_up M1 8 12 _ 8 j = _; rw [xm_up_j _ _ j12, x3 j j13]
      · show xm_up M1 8 12 _ 11 = _; rw [xm_up_r _ _ (by omega), x2 11 (by omega)]
      · show xm_up M1 8 12 _ 12 = _; rw [xm_up_r _ _ (by omega), x2 12 (by omega)]
      · show xm_up M1 8 12 _ 8 13 = _; rw [xm_up_j _ _ (by omega)]
      · show xm_up M1 8 12 _ 8 14 = _; rw [xm_up_j _ _ (by omega), x3 14 (by omega)]
      · show xm_up M1 8 12 _ 8 j = _; rw [xm_up_j _ _ j12, x3 j j13]
      · show xm_up M1 8 12 _ 8 5 = _; rw [xm_up_j _ _ (by omega), x3 5 (by omega)]
    | some u =>
      refine ⟨⟨fun k k8 k11 k12 => ?_, fun j j5 j12 j13 j14 => ?_⟩, ?_, ?_, xm_up_s _ _ _ _, fun t => ⟨?_, ?_⟩, fun j j5 j12 j13 => ?_, ?_⟩
      · show xm_up (xm_up M1 8 5 u) 8 12 _ k = _; rw [xm_up_r _ _ k8, xm_up_r _ _ k8, x2 k k8]
      · show xm_up (xm_up M1 8 5 u) 8 12 _ 8 j = _; rw [xm_up_j _ _ j12, xm_up_j _ _ j5, x3 j j13]
      · show xm_up (xm_up M1 8 5 u) 8 12 _ 11 = _; rw [xm_up_r _ _ (by omega), xm_up_r _ _ (by omega), x2 11 (by omega)]
      · show xm_up (xm_up M1 8 5 u) 8 12 _ 12 = _; rw [xm_up_r _ _ (by omega), xm_up_r _ _ (by omega), x2 12 (by omega)]
      · show xm_up (xm_up M1 8 5 u) 8 12 _ 8 13 = _; rw [xm_up_j _ _ (by omega), xm_up_j _ _ (by omega)]
      · show xm_up (xm_up M1 8 5 u) 8 12 _ 8 14 = _; rw [xm_up_j _ _ (by omega), xm_up_j _ _ (by omega), x3 14 (by omega)]
      · show xm_up (xm_up M1 8 5 u) 8 12 _ 8 j = _; rw [xm_up_j _ _ j12, xm_up_j _ _ j5, x3 j j13]
      · show xm_up (xm_up M1 8 5 u) 8 12 _ 8 5 = _; rw [xm_up_j _ _ (by omega), xm_up_s]
  have ha2 : ∀ j, j < pl → N 8 j = nI (at0 j) ∧ at0 j < ne := fun j hj => (ha j hj).2
  have sums : ∀ N2 : xm_M, N2 0 11 = N 0 11 + (if r8 < nI (pTm ev ne (at0 (pl - 1))) then 0 else 1) → T → M1 8 13 = N2 0 11 := by
    intro N2 e t
    rw [x4 t, e, (d3 t).1]
  by_cases hit : ∃ ix, wr = some (cm, ix)
  · obtain ⟨ix, hwr⟩ := hit
    subst hwr
    obtain ⟨q1, q2, q3, q4, q5, q6⟩ := d4
    obtain ⟨a1, a2, a3⟩ := ha ix q4
    have ti := hW.t a3
    have g14 : M 14 (at0 ix) = nI (pO ev ne (at0 ix)) := (hX.1.2 _ a3).1
    obtain ⟨z1, z2, z3, z4, z5, z6, z7⟩ := fX1 (some (nI (pO ev ne (at0 ix)))) _ rfl
    have v1 : sM ev ne kd br pl w ru p (mV (pO ev ne) at0 N pl) := hM.fr (mV_k _ _ _ _ 1 (by omega)) (mV_k _ _ _ _ 5 (by omega)) (mV_k _ _ _ _ 6 (by omega)) (mV_k _ _ _ _ 7 (by omega))
    have v8 : mV (pO ev ne) at0 N pl 8 = N 8 := mV_k _ _ _ _ 8 (by omega)
    have v0 : mV (pO ev ne) at0 N pl 0 = N 0 := mV_k _ _ _ _ 0 (by omega)
    have v9 : mV (pO ev ne) at0 N pl 9 = N 9 := mV_k _ _ _ _ 9 (by omega)
    obtain ⟨N', c1, c2, c3, c4, c5, c6⟩ := m_match43 (r8 := r8) hW v1 (at0 := at0) (fun j hj => by rw [v8]; exact ha2 j hj) (fun n N2 e => h8 n N2 (by rw [e]; exact mV_k _ _ _ _ 1 (by omega)))
    rw [v0] at c3 c4 c5
    rw [v9] at c6
    refine ⟨_, N', fun n => ?_, fun n hn => ?_, ⟨z4, by rw [c4, d2, nI_1], fun t => ⟨by rw [(z5 t).1]; exact sums N' c5 t, by rw [(z5 t).2, (d3 t).2, c3 12 (by omega) (by omega)]⟩, ⟨by rw [z6 3 (by omega) (by omega) (by omega)]; exact q1, by rw [c3 14 (by omega) (by omega)]; exact q2, by rw [z6 4 (by omega) (by omega) (by omega)]; exact q3, q4, q5, Or.inr ⟨by omega, ?_⟩⟩⟩, z1, z2, z3, ⟨fun k k0 k8 k9 k10 => by rw [c2 k k0 k9]; exact mV_k _ _ _ _ k k10, fun j j10 j11 j12 => c3 j j10 j11⟩, by rw [c2 8 (by omega) (by omega), v8], c6⟩
    · rw [x1]
      unfold f_X3_tellMatch_36
      rw [y12, y3, q1, if_pos rfl, x3 4 (by omega), q3, xz_ci (show ix < 4 by omega) (by omega), xz_cl (by omega), x2 11 (by omega), a1, xz_ci (show at0 ix < 25 by omega) (by omega), xz_lt, xz_lt, xz_cl (by omega), x2 14 (by omega), g14, xm_up_j _ _ (show 12 ≠ 5 by omega), y12, nI_1]
    · unfold f_X7_isMatch
      rw [d2, q2, if_pos rfl]
      obtain ⟨m, m1, m2⟩ := m_match13 hW hM ha2 (n := n) (by omega)
      rw [m2]
      exact c1 m m1
    · have : N' 10 ix = nI (pO ev ne (at0 ix)) := by rw [c2 10 (by omega) (by omega)]; exact mV_10 _ _ _ _ ix q4
      rw [this]
      exact z7
  · obtain ⟨z1, z2, z3, z4, z5, z6, z7⟩ := fX1 none _ rfl
    obtain ⟨N', c1, c2, c3, c4, c5, c6⟩ := m_match43 (r8 := r8) hW hM (at0 := at0) ha2 h8
    have e10 : N' 10 = N 10 := c2 10 (by omega) (by omega)
    have nohit : ¬ nI cm = M 8 3 ∧ ¬ nI cm = N 0 14 ∧ wR wr pl (cm + 1) (xm_up M1 8 12 (nI (cm + 1))) N' := by
      cases wr with
      | none =>
        obtain ⟨q1, q2⟩ := d4
        exact ⟨by rw [q1]; exact nI_neg hcm (by decide), by rw [q2]; exact nI_neg hcm (by decide), ⟨(z6 3 (by omega) (by omega) (by omega)).trans q1, by rw [c3 14 (by omega) (by omega)]; exact q2⟩⟩
      | some ri =>
        obtain ⟨rk, ix⟩ := ri
        obtain ⟨q1, q2, q3, q4, q5, q6⟩ := d4
        have ne1 : cm ≠ rk := fun t => hit ⟨ix, by rw [t]⟩
        refine ⟨by rw [q1, xz_e (by omega) q5]; exact ne1, by rw [q2, xz_e (by omega) q5]; exact ne1, ⟨(z6 3 (by omega) (by omega) (by omega)).trans q1, by rw [c3 14 (by omega) (by omega)]; exact q2, (z6 4 (by omega) (by omega) (by omega)).trans q3, q4, q5, ?_⟩⟩
        rcases q6 with ⟨s1, s2⟩ | ⟨s1, s2⟩
        · exact Or.inl ⟨by omega, z7.trans s2⟩
        · exact Or.inr ⟨by omega, by rw [e10, ← s2]; exact z7⟩
    obtain ⟨n1, n2, n3⟩ := nohit
    refine ⟨_, N', fun n => ?_, fun n hn => ?_, ⟨z4, by rw [c4, d2, nI_1], fun t => ⟨by rw [(z5 t).1]; exact sums N' c5 t, by rw [(z5 t).2, (d3 t).2, c3 12 (by omega) (by omega)]⟩, n3⟩, z1, z2, z3, ⟨fun k k0 k8 k9 k10 => c2 k k0 k9, fun j j10 j11 j12 => c3 j j10 j11⟩, c2 8 (by omega) (by omega), c6⟩
    · rw [x1]
      unfold f_X3_tellMatch_36
      rw [y12, y3, if_neg n1, xz_lt, nI_1]
    · unfold f_X7_isMatch
      rw [d2, if_neg n2]
      exact c1 n (by omega)
end MAT
