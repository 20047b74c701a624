/-! LAYER 2: the history, on either side -/
def xh_n (hn : Nat) : Nat := if hn < 4 then hn + 1 else 4
def xh_o (ho hn : Nat) : Nat := if hn < 4 then ho else (ho + 1) % 4
def xh_push (A : xa_S) (h : Nat → xa_S) (hn : Nat) : Nat → xa_S := fun i => if hn < 4 then (if i = hn then A else h i) else (if i = 3 then A else h (i + 1))
def xh_X (h : Nat → xa_S) (hn ho : Nat) (M : xm_M) : Prop := M 4 1 = nI ho ∧ M 4 2 = nI hn ∧ ∀ i, i < hn → xa_XS (h i) M (52 + 17 * ((ho + i) % 4))
def xh_M (h : Nat → xa_S) (hn : Nat) (N : xm_M) : Prop := N 0 3 = nI hn ∧ ∀ i, i < hn → xa_MS (h i) (N 3) (119 * i)
theorem xz_rem4 (a : Nat) (ha : a < 2 ^ 31) : nI a - nI a / 4 * 4 = nI (a % 4) := pk_rem (d := 4) ha (by omega) (by omega)
theorem xp_rec30 {M : xm_M} {A : xa_S} {h : Nat → xa_S} {hn ho : Nat} (hA : xa_XS A M 18) (hW : xa_WS A) (hh : xh_X h hn ho M) (hWh : ∀ i, i < hn → xa_WS (h i)) (h4 : hn < 4) (ho4 : ho < 4) {n : Nat} (hf : 60 < n) : ∃ M', f_X0_record_30 n M 18 = some M' ∧ xh_X (fun i => if i = hn then A else h i) (hn + 1) ho M' ∧ ∀ k, k ≠ 4 → k < 52 → M' k = M k := by
  obtain ⟨e1, e2, e3⟩ := hh
  have hm : (ho + hn) % 4 < 4 := Nat.mod_lt _ (by omega)
  obtain ⟨M2, c1, c2, c3⟩ := xp_copyS (M := M) (s := 52 + 17 * ((ho + hn) % 4)) (o := 18) (by omega) hA hW (n := n) hf
  unfold f_X0_record_30
  rw [e1, e2, nI_add, xz_rem4 _ (by omega), xz_ci hm (by omega), xz_cl (by omega), c1, xz_b1, xz_lt]
  have f2 : M2 4 = M 4 := c3 4 (by omega)
  refine ⟨_, rfl, ⟨?_, ?_, fun i hi => ?_⟩, fun k k1 k2 => ?_⟩
  · rw [xm_up_j _ _ (by omega), f2]
    exact e1
  · rw [xm_up_s, f2, e2, nI_1]
  · show xa_XS (if i = hn then A else h i) _ _
    by_cases hin : i = hn
    · subst hin
      rw [if_pos rfl]
      exact c2.fr hW.2.2.2.1 (fun k k1 k2 => xm_up_r _ _ (by omega))
    · rw [if_neg hin]
      have hi2 : i < hn := by omega
      have hd : (ho + i) % 4 ≠ (ho + hn) % 4 := by omega
      refine (e3 i hi2).fr (hWh i hi2).2.2.2.1 (fun k k1 k2 => ?_)
      rw [xm_up_r _ _ (by omega), c3 k (by omega)]
  · rw [xm_up_r _ _ k1, c3 k (by omega)]
theorem xp_record {M : xm_M} {A : xa_S} {h : Nat → xa_S} {hn ho : Nat} (hA : xa_XS A M 18) (hW : xa_WS A) (hh : xh_X h hn ho M) (hWh : ∀ i, i < hn → xa_WS (h i)) (h4 : hn ≤ 4) (ho4 : ho < 4) {n : Nat} (hf : 60 < n) : ∃ M', f_X0_record n M 18 = some M' ∧ xh_X (xh_push A h hn) (xh_n hn) (xh_o ho hn) M' ∧ ∀ k, k ≠ 4 → k < 52 → M' k = M k := by
  unfold f_X0_record
  by_cases hl : hn < 4
  · obtain ⟨M', c1, c2, c3⟩ := xp_rec30 hA hW hh hWh hl ho4 hf
    refine ⟨M', ?_, ?_, c3⟩
    · rw [hh.2.1, if_pos ((xz_ltc (c := 4) 4 rfl (by omega) (by omega)).mpr hl)]
      exact c1
    · have e1 : xh_push A h hn = fun i => if i = hn then A else h i := by funext i; simp only [xh_push, if_pos hl]
      rw [e1, xh_n, if_pos hl, xh_o, if_pos hl]
      exact c2
  · have hn4 : hn = 4 := by omega
    subst hn4
    obtain ⟨e1, e2, e3⟩ := hh
    rw [e2, if_neg (by decide)]
    simp only [xz_lt]
    generalize hM2 : xm_up (xm_up M 4 1 (M 4 1 + 1 - (M 4 1 + 1) / 4 * 4)) 4 2 (xm_up M 4 1 (M 4 1 + 1 - (M 4 1 + 1) / 4 * 4) 4 2 - 1) = M2
    have f1 : ∀ k, k ≠ 4 → M2 k = M k := fun k hk => by rw [← hM2, xm_up_r _ _ hk, xm_up_r _ _ hk]
    have g1 : M2 4 1 = nI ((ho + 1) % 4) := by
      rw [← hM2, xm_up_j _ _ (by omega), xm_up_s, e1, nI_1, xz_rem4 _ (by omega)]
    have g2 : M2 4 2 = nI 3 := by
      rw [← hM2, xm_up_s, xm_up_j _ _ (by omega), e2]
      decide
    have hh2 : xh_X (fun i => h (i + 1)) 3 ((ho + 1) % 4) M2 := by
      refine ⟨g1, g2, fun i hi => ?_⟩
      have e9 : ((ho + 1) % 4 + i) % 4 = (ho + (i + 1)) % 4 := by omega
      rw [e9]
      exact (e3 (i + 1) (by omega)).fr (hWh (i + 1) (by omega)).2.2.2.1 (fun k k1 k2 => f1 k (by omega))
    obtain ⟨M', c1, c2, c3⟩ := xp_rec30 (M := M2) (hA.fr hW.2.2.2.1 (fun k k1 k2 => f1 k (by omega))) hW hh2 (fun i hi => hWh (i + 1) (by omega)) (by omega) (by omega) hf
    refine ⟨M', c1, ?_, fun k k1 k2 => by rw [c3 k k1 k2, f1 k k1]⟩
    have e8 : xh_push A h 4 = fun i => if i = 3 then A else h (i + 1) := by funext i; simp [xh_push]
    rw [e8]
    exact c2
theorem xz_119 (h i : Nat) : (119 : Int32) * nI h + nI i = nI (119 * h + i) := by
  show nI 119 * nI h + nI i = _
  rw [pk_mul, nI_add]
theorem xh_push_W {A : xa_S} {h : Nat → xa_S} {hn : Nat} (hW : xa_WS A) (hWh : ∀ i, i < hn → xa_WS (h i)) : ∀ i, i < xh_n hn → xa_WS (xh_push A h hn i) := by
  intro i hi
  unfold xh_push
  unfold xh_n at hi
  by_cases hl : hn < 4
  · rw [if_pos hl] at hi ⊢
    by_cases hin : i = hn
    · rw [if_pos hin]; exact hW
    · rw [if_neg hin]; exact hWh i (by omega)
  · rw [if_neg hl] at hi ⊢
    by_cases hin : i = 3
    · rw [if_pos hin]; exact hW
    · rw [if_neg hin]; exact hWh (i + 1) (by omega)
theorem xh_n_le (hn : Nat) : xh_n hn ≤ 4 := by unfold xh_n; split <;> omega
theorem xh_o_lt {ho hn : Nat} (h : ho < 4) : xh_o ho hn < 4 := by unfold xh_o; split <;> omega
