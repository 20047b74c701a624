/-! LAYER 2: a pattern's search, whole -/
theorem pB_le {pl : Nat} (h1 : 1 ≤ pl) (h4 : pl ≤ 4) : pB (pl - 1) ≤ 15625 := by
  rcases (show pl = 1 ∨ pl = 2 ∨ pl = 3 ∨ pl = 4 by omega) with e | e | e | e
  · rw [e]; decide
  · rw [e]; decide
  · rw [e]; decide
  · rw [e]; decide
section RUN
variable {ev : Nat → Nat × Nat × Nat} {ne p nw la : Nat} {M N M' N' : xm_M} {T : Prop} {wr : Option (Nat × Nat)} {P : xa_P}
theorem sW_pat (hne : ne ≤ 25) (hE : eW ev ne) (hP : xa_WP P) (hp : p < 4) : sW ev ne (pkk P.2 P.1.2.2.1) (pkb P.2 P.1.2.2.1) P.1.2.2.2 P.1.1 P.1.2.1 p := by
  obtain ⟨w1, w2, w3, w4, w5, w6, ⟨w7, w7'⟩, w8, w9⟩ := hP
  exact ⟨hne, hE, fun j => pkk_lt _ _ _, fun j => pkb_le w9 _ j (Nat.le_refl _), pkb_0 _ w7' _, w7, w8, w2, w3, hp⟩
/-- begin -/
theorem x_wm {n : Nat} (h4 : M 18 4 = nI nw) (h5 : M 18 5 = nI la) (w1 : nw ≤ 9999) (w2 : la ≤ 500) : f_X4_watermark n M 18 = some (nI (nw - la), M) := by
  unfold f_X4_watermark
  rw [h4, h5]
  by_cases g : la < nw
  · rw [if_pos ((xz_s0 (by omega) (by omega)).mpr g), pk_sub (by omega)]
  · rw [if_neg (mt (xz_s0 (by omega) (by omega)).mp g), show nw - la = 0 by omega]
    rfl
theorem x_begin (hne : ne ≤ 24) (hE : eW ev ne) (h0 : M 18 0 = nI ne) (h4 : M 18 4 = nI nw) (h5 : M 18 5 = nI la) (w1 : nw ≤ 9999) (w2 : la ≤ 500) (hev : ∀ e, e < ne → M (18 + 1) e = nI (97 + (ev e).1) ∧ M (18 + 2) e = nI (ev e).2.1 ∧ M (18 + 3) e = nI (ev e).2.2) : ∃ M', (∀ n, 200 < n → f_X3_begin n M 18 = some M') ∧ xL ev (io (eT ev) ne) ne M' ∧ M' 8 1 = nI nw ∧ M' 8 2 = nI (nw - la) ∧ M' 8 3 = -1 ∧ M' 8 5 = -5 ∧ (∀ s, s < 25 → M' 12 s = 0) ∧ ∀ k, k < 8 ∨ 18 ≤ k → M' k = M k := by
  obtain ⟨M1, ⟨c1, c2⟩, c3⟩ := x_fill (s := 18) (M := M) (by omega) hne hE h0 hev
  obtain ⟨M2, hM2⟩ : ∃ G, G = xm_up (xm_up (xm_up (xm_up M1 8 1 (nI nw)) 8 2 (nI (nw - la))) 8 3 (-1)) 8 5 (-5) := ⟨_, rfl⟩
  have a1 : (∀ k, k ≠ 8 → M2 k = M1 k) ∧ M2 8 1 = nI nw ∧ M2 8 2 = nI (nw - la) ∧ M2 8 3 = -1 ∧ M2 8 5 = -5 := by
    rw [hM2]
    exact ⟨fun k hk => by rw [xm_up_r _ _ hk, xm_up_r _ _ hk, xm_up_r _ _ hk, xm_up_r _ _ hk], by rw [xm_up_j _ _ (by omega), xm_up_j _ _ (by omega), xm_up_j _ _ (by omega), xm_up_s], by rw [xm_up_j _ _ (by omega), xm_up_j _ _ (by omega), xm_up_s], by rw [xm_up_j _ _ (by omega), xm_up_s], xm_up_s _ _ _ _⟩
  obtain ⟨b1, b2, b3, b4, b5⟩ := a1
  obtain ⟨M3, ⟨d1, d2⟩, d3⟩ := xz_forU (fun n M i => f_X3_begin_37 n M (nI i)) 25 0 (fun i M3 => (∀ k, k ≠ 12 → M3 k = M2 k) ∧ ∀ s, s < i → M3 12 s = 0) (fun M3 => (∀ k, k ≠ 12 → M3 k = M2 k) ∧ ∀ s, s < 25 → M3 12 s = 0) (by
    intro M3 hI
    refine ⟨M3, hI, fun n _ => ?_⟩
    show f_X3_begin_37 (n + 1) M3 (nI 25) = _
    rw [f_X3_begin_37]
    exact if_pos (by decide)) (by
    intro i M3 hi hI
    refine ⟨xm_up M3 12 i 0, ⟨fun k hk => by rw [xm_up_r _ _ hk]; exact hI.1 k hk, fun s hs => ?_⟩, fun n _ => ?_⟩
    · by_cases e : s = i
      · rw [e, xm_up_s]
      · rw [xm_up_j _ _ e]; exact hI.2 s (by omega)
    · show f_X3_begin_37 (n + 1) M3 (nI i) = f_X3_begin_37 n _ (nI (i + 1))
      rw [f_X3_begin_37, if_neg (mt (xz_cle (c := 25) 25 rfl (by omega) (by omega)).mp (by omega)), xz_ci (show i < 25 by omega) (by omega), xz_lt, xz_cl (by omega), nI_1]) 25 0 M2 (by omega) ⟨fun _ _ => rfl, fun s hs => absurd hs (Nat.not_lt_zero s)⟩
  refine ⟨M3, fun n hn => ?_, ⟨?_, fun k hk => ?_⟩, by rw [d1 8 (by omega)]; exact b2, by rw [d1 8 (by omega)]; exact b3, by rw [d1 8 (by omega)]; exact b4, by rw [d1 8 (by omega)]; exact b5, d2, fun k hk => by rw [d1 k (by omega), b1 k (by omega), c2 k (by omega)]⟩
  · have e4 : M1 18 4 = nI nw := by rw [c2 18 (by omega)]; exact h4
    have wm : f_X4_watermark n (xm_up M1 8 1 (nI nw)) 18 = some (nI (nw - la), xm_up M1 8 1 (nI nw)) := x_wm (by rw [xm_up_k _ _ (by omega)]; exact e4) (by rw [xm_up_k _ _ (by omega), c2 18 (by omega)]; exact h5) w1 w2
    unfold f_X3_begin
    rw [c3 n (by omega), xz_b1, xz_lt, e4, wm, xz_b2, xz_lt, xz_lt, xz_lt, ← hM2]
    exact d3 n (by omega)
  · rw [d1 13 (by omega), b1 13 (by omega)]; exact c1.1
  · rw [d1 14 (by omega), b1 14 (by omega), d1 15 (by omega), b1 15 (by omega), d1 16 (by omega), b1 16 (by omega), d1 17 (by omega), b1 17 (by omega)]
    exact c1.2 k hk
end RUN
