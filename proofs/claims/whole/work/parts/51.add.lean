/-! LAYER 2: rule, the whole text, addPattern -/
section PA
variable {M0 N0 M N : xm_M} {tx : Nat → Nat} {tl a : Nat} {P : xa_P}
theorem xz_tb (b : Bool) : xm_z (tb b) = true := by cases b <;> decide
theorem tb_t : tb true = 1 := rfl
theorem tb_f : tb false = 0 := rfl
theorem px_word (htl : tl ≤ 80) (htx : ∀ i, i < tl → tx i < 65536) (h : tX tx tl a M) (ha : a ≤ tl) {k : Nat} (hk : k < 6) {n : Nat} (hn : 10 < n) : f_X5_takesWord n M k = some (tb (tk tx tl (tw_l k) a).1, xm_up M 6 2 (nI (tk tx tl (tw_l k) a).2)) :=
  tx_word htl htx hk (tw_l k) 0 M a n rfl (Nat.zero_le _) h ha (by have := (tw_ch k hk).2.1; omega)
theorem pm_word (htl : tl ≤ 80) (htx : ∀ i, i < tl → tx i < 65536) (h : tM tx tl a N) (ha : a ≤ tl) {x : Int64} {w : List Nat} (hx : twOK x w) (hw : w.length ≤ 7) {z : Int32} (hz : 8 * (z - 1) = nI (8 * w.length) + (-8)) {n : Nat} (hn : 10 < n) : f_X7_takesWord n N x z = some (tb (tk tx tl w a).1, xm_up N 0 18 (nI (tk tx tl w a).2)) := by
  unfold f_X7_takesWord
  rw [hz]
  exact tm_word htl htx x w N a n hx (by omega) h ha (by omega)
def pU (M0 N0 : xm_M) (tx : Nat → Nat) (tl : Nat) (M N : xm_M) (X Y : Option (Int32 × xm_M)) : Prop := ∃ M' N' a', pR M0 N0 tx tl a' M' N' ∧ ((X = some (0, M') ∧ Y = some (0, N')) ∨ ∃ r, r ≤ 2 ∧ X = some (1, M') ∧ Y = some (1, N') ∧ M' 1 1 = nI r ∧ N' 12 1 = nI r ∧ (∀ j, j ≠ 1 → M' 1 j = M 1 j) ∧ (∀ j, j ≠ 1 → N' 12 j = N 12 j) ∧ N' 0 20 = N 0 20)
def pV (M N : xm_M) (tx : Nat → Nat) (tl : Nat) (X Y : Option (Int32 × xm_M)) : Prop := ∃ M' N' a, pR M N tx tl a M' N' ∧ ((X = some (nI a, M') ∧ Y = some (nI a, N')) ∨ (X = some (-1, M') ∧ Y = some (-5, N') ∧ ∃ P, xa_WP P ∧ xa_XP P M' 1 ∧ xa_MP P (N' 12) 0))
theorem p_rule (htl : tl ≤ 80) (htx : ∀ i, i < tl → tx i < 65536) (h : pR M0 N0 tx tl a M N) {n : Nat} (hn : 10 < n) : pU M0 N0 tx tl M N (f_X5_takesRule n M 1) (f_X7_readsRule n N) := by
  have h1 := (h.x (r := 1) (Or.inl rfl) 1 0).m 1 0
  have ha := h1.2.2.1
  have e1 : f_X7_isHere n (xm_up N 12 1 0) 114 114 = some (tb (decide (a < tl ∧ 114 ≤ tx a ∧ tx a ≤ 114)), xm_up N 12 1 0) := tm_here htl htx (lo := 114) (hi := 114) h1.2.1 ha (by omega) (by omega)
  have e2 : f_X7_isHere n (xm_up N 12 1 0) 97 97 = some (tb (decide (a < tl ∧ 97 ≤ tx a ∧ tx a ≤ 97)), xm_up N 12 1 0) := tm_here htl htx (lo := 97) (hi := 97) h1.2.1 ha (by omega) (by omega)
  unfold f_X5_takesRule f_X7_readsRule
  simp only [xz_lt, xz_i5, xz_ct, xz_t1]
  rw [tx_next htx htl h1.1 ha, xz_b2, tx_next htx htl h1.1 ha, xz_b2, e1, xz_b2, e2, xz_b2, h1.1.1, h1.1.2.1, h1.2.1.1, h1.2.1.2.1]
  have word : ∀ (v : Int32) (r : Nat), r ≤ 2 → v = nI r → ∀ (b : Bool) (b' : Nat), b' ≤ tl → ∀ X Y, X = some (tb b, xm_up (xm_up (xm_up M 1 1 0) 1 1 v) 6 2 (nI b')) → Y = some (tb b, xm_up (xm_up (xm_up N 12 1 0) 12 1 v) 0 18 (nI b')) → pU M0 N0 tx tl M N X Y := by
    intro v r hr hv b b' hb X Y hX hY
    refine ⟨_, _, b', ((h1.x (r := 1) (Or.inl rfl) 1 v).m 1 v).to hb, ?_⟩
    cases b with
    | false => exact Or.inl ⟨hX, hY⟩
    | true => exact Or.inr ⟨r, hr, hX, hY, by rw [xm_up_k _ _ (by omega), xm_up_s, hv], by rw [xm_up_k _ _ (by omega), xm_up_s, hv], fun j hj => by rw [xm_up_k _ _ (by omega), xm_up_j _ _ hj, xm_up_j _ _ hj], fun j hj => by rw [xm_up_k _ _ (by omega), xm_up_j _ _ hj, xm_up_j _ _ hj], by rw [xm_up_j _ _ (by omega), xm_up_k _ _ (by omega), xm_up_k _ _ (by omega)]⟩
  have plain : pU M0 N0 tx tl M N (some ((1 : Int32), xm_up M 1 1 0)) (some ((1 : Int32), xm_up N 12 1 0)) :=
    ⟨_, _, a, h1, Or.inr ⟨0, by omega, rfl, rfl, xm_up_s _ _ _ _, xm_up_s _ _ _ _, fun j hj => xm_up_j _ _ hj, fun j hj => xm_up_j _ _ hj, xm_up_k _ _ (by omega)⟩⟩
  by_cases b1 : a < tl ∧ tx a = 114
  · have e3 := px_word htl htx (h1.x (r := 1) (Or.inl rfl) 1 1).1 ha (k := 2) (by omega) hn
    have e4 := pm_word htl htx (h1.m 1 1).2.1 ha tw_rising (by decide) (z := 7) (by decide) hn
    rw [if_pos b1.1, if_pos (show nI (tx a) = 114 by rw [b1.2]; rfl), e3, xz_b2, xz_tb, xz_ct, decide_eq_true (show a < tl ∧ 114 ≤ tx a ∧ tx a ≤ 114 by omega), tb_t, if_neg xz_10, e4, xz_b2, xz_tb, xz_ct]
    exact word 1 1 (by omega) rfl _ _ (tk_le tx tl _ a ha) _ _ rfl rfl
  · have g1 : ¬ (if a < tl then nI (tx a) else 0) = 114 := by
      by_cases hl : a < tl
      · have := htx a hl
        rw [if_pos hl]
        exact mt (xz_ec (c := 114) 114 rfl (by omega) (by omega)).mp (fun q => b1 ⟨hl, q⟩)
      · rw [if_neg hl]
        decide
    rw [if_neg g1, decide_eq_false (show ¬ (a < tl ∧ 114 ≤ tx a ∧ tx a ≤ 114) by omega), tb_f, if_pos rfl]
    by_cases b2 : a < tl ∧ tx a = 97
    · rw [if_pos b2.1, if_pos (show nI (tx a) = 97 by rw [b2.2]; rfl), decide_eq_true (show a < tl ∧ 97 ≤ tx a ∧ tx a ≤ 97 by omega), tb_t, if_neg xz_10, nI_1]
      by_cases b3 : tl ≤ a + 1
      · rw [if_pos ((xz_le (by omega) (by omega)).mpr b3), if_pos ((xz_le (by omega) (by omega)).mpr b3)]
        exact plain
      · have hx := htx (a + 1) (by omega)
        rw [if_neg (mt (xz_le (by omega) (by omega)).mp b3), if_neg (mt (xz_le (by omega) (by omega)).mp b3), xz_ci (show a + 1 < 80 by omega) (by omega), xz_ci (show a + 1 < 80 by omega) (by omega), xz_cl (by omega), h1.1.2.2 (a + 1) (by omega), h1.2.1.2.2 (a + 1) (by omega)]
        by_cases b4 : tx (a + 1) = 108
        · have e3 := px_word htl htx (h1.x (r := 1) (Or.inl rfl) 1 2).1 ha (k := 3) (by omega) hn
          have e4 := pm_word htl htx (h1.m 1 2).2.1 ha tw_alike (by decide) (z := 6) (by decide) hn
          have b5 : nI (tx (a + 1)) = 108 := by rw [b4]; rfl
          rw [if_pos b5, if_pos b5, e3, xz_b2, xz_tb, xz_ct, e4, xz_b2, xz_tb, xz_ct]
          exact word 2 2 (by omega) rfl _ _ (tk_le tx tl _ a ha) _ _ rfl rfl
        · have b5 : ¬ nI (tx (a + 1)) = 108 := mt (xz_ec (c := 108) 108 rfl (by omega) (by omega)).mp b4
          rw [if_neg b5, if_neg b5]
          exact plain
    · have g2 : ¬ (if a < tl then nI (tx a) else 0) = 97 := by
        by_cases hl : a < tl
        · have := htx a hl
          rw [if_pos hl]
          exact mt (xz_ec (c := 97) 97 rfl (by omega) (by omega)).mp (fun q => b2 ⟨hl, q⟩)
        · rw [if_neg hl]
          decide
      rw [if_neg g2, decide_eq_false (show ¬ (a < tl ∧ 97 ≤ tx a ∧ tx a ≤ 97) by omega), tb_f, if_pos rfl]
      exact plain
/-- the whole text -/
theorem p_read (htl : tl ≤ 80) (htx : ∀ i, i < tl → tx i < 65536) (x1 : M 6 1 = nI tl) (x2 : ∀ i, i < tl → M 7 i = nI (tx i)) (m1 : N 0 17 = nI tl) (m2 : ∀ i, i < tl → N 11 i = nI (tx i)) {n : Nat} (hn : 100 < n) : pV M N tx tl (f_X5_readInto n M 1) (f_X7_fault n N) := by
  have h0 : pR M N tx tl 0 (xm_up M 6 2 (nI 0)) (xm_up N 0 18 (nI 0)) := ⟨⟨by rw [xm_up_j _ _ (by omega)]; exact x1, xm_up_s _ _ _ _, fun i hi => by rw [xm_up_k _ _ (by omega)]; exact x2 i hi⟩, ⟨by rw [xm_up_j _ _ (by omega)]; exact m1, xm_up_s _ _ _ _, fun i hi => by rw [xm_up_k _ _ (by omega)]; exact m2 i hi⟩, Nat.zero_le _, fun k hk k6 => xm_up_r _ _ k6, fun k k1 k2 => xm_up_r _ _ k1, fun j j1 j2 => xm_up_j _ _ j1⟩
  have h1 := (((h0.x (r := 1) (Or.inl rfl) 2 0).x (r := 1) (Or.inl rfl) 3 0).m 2 0).m2 0
  unfold f_X5_readInto f_X7_fault f_X2_clearSteps
  simp only [xz_lt, xz_b1, xz_i6, xz_ct, xz_t2]
  generalize hMa : xm_up (xm_up (xm_up M 6 2 0) 1 2 0) 1 3 0 = Ma
  generalize hNa : xm_up (xm_up (xm_up N 0 18 0) 12 2 0) 0 20 0 = Na
  have ra : pR M N tx tl 0 Ma Na := by rw [← hMa, ← hNa]; exact h1
  have sa : Ma 1 2 = 0 ∧ Ma 1 3 = 0 ∧ Na 12 2 = 0 ∧ Na 0 20 = 0 := by
    rw [← hMa, ← hNa]
    exact ⟨by rw [xm_up_j _ _ (by omega), xm_up_s], xm_up_s _ _ _ _, by rw [xm_up_k _ _ (by omega), xm_up_s], xm_up_s _ _ _ _⟩
  clear hMa hNa h0 h1
  have e1 := px_word htl htx ra.1 ra.2.2.1 (k := 0) (by omega) (n := n) (by omega)
  have e2 := pm_word htl htx ra.2.1 ra.2.2.1 tw_within (by decide) (z := 7) (by decide) (n := n) (by omega)
  have t1 := tk_le tx tl (tw_l 0) 0 (Nat.zero_le _)
  change f_X7_takesWord n Na 33611470917430816 7 = some (tb (tk tx tl (tw_l 0) 0).1, xm_up Na 0 18 (nI (tk tx tl (tw_l 0) 0).2)) at e2
  rw [e1, e2, xz_b2, xz_b2]
  generalize tk tx tl (tw_l 0) 0 = q at t1
  obtain ⟨b, a⟩ := q
  have rb := ra.to (b := a) t1
  have fail : ∀ {Mx Nx : xm_M} {ax : Nat}, pR M N tx tl ax Mx Nx → pV M N tx tl (some (Mx 6 2, Mx)) (some (Nx 0 18, Nx)) := fun {Mx Nx ax} r => ⟨Mx, Nx, ax, r, Or.inl ⟨by rw [r.1.2.1], by rw [r.2.1.2.1]⟩⟩
  cases b with
  | false => exact fail rb
  | true =>
    show pV M N tx tl (if (1 : Int32) = 0 then _ else _) (if (1 : Int32) = 0 then _ else _)
    rw [if_neg xz_10, if_neg xz_10]
    generalize hMb : xm_up Ma 6 2 (nI a) = Mb at rb
    generalize hNb : xm_up Na 0 18 (nI a) = Nb at rb
    have sb : Mb 1 2 = 0 ∧ Mb 1 3 = 0 ∧ Nb 12 2 = 0 ∧ Nb 0 20 = 0 := by
      rw [← hMb, ← hNb]
      exact ⟨by rw [xm_up_k _ _ (by omega)]; exact sa.1, by rw [xm_up_k _ _ (by omega)]; exact sa.2.1, by rw [xm_up_k _ _ (by omega)]; exact sa.2.2.1, by rw [xm_up_j _ _ (by omega)]; exact sa.2.2.2⟩
    rcases p_window htl htx rb (n := n) hn with ⟨Mc, c1, c2, c3, c4⟩ | ⟨Mc, Nc, c, w, rc, w1, w2, c3, c4, c5, c6, c7, c8⟩
    · rw [c2, c3, xz_b2, xz_b2, if_pos rfl, if_pos rfl]
      exact fail c4
    · have d2 := tm_takes htl htx (c := 32) (n := n) rc.2.1 rc.2.2.1 (by omega)
      change f_X7_takes n Nc 32 = _ at d2
      rcases c8 with ⟨c9, c10⟩ | ⟨c9, c10, c11⟩
      · have d1 := px_word htl htx rc.1 rc.2.2.1 (k := 1) (by omega) (n := n) (by omega)
        change f_X5_takesWord n Mc 1 = some (tb (tk tx tl [32] c).1, xm_up Mc 6 2 (nI (tk tx tl [32] c).2)) at d1
        rw [c9, c3, xz_b2, xz_b2, if_neg xz_10, if_neg xz_10, d1, d2, xz_b2, tk]
        by_cases b1 : c < tl ∧ tx c = 32
        · rw [if_pos b1, if_pos b1, xz_b2, if_neg xz_10, tk]
          show pV M N tx tl (if (1 : Int32) = 0 then _ else _) _
          rw [if_neg xz_10]
          have rd := rc.to (b := c + 1) b1.1
          generalize hMd : xm_up Mc 6 2 (nI (c + 1)) = Md at rd
          generalize hNd : xm_up Nc 0 18 (nI (c + 1)) = Nd at rd
          have fd : Md 1 = Mc 1 ∧ Nd 12 = Nc 12 ∧ Nd 0 20 = Nc 0 20 := by
            rw [← hMd, ← hNd]
            exact ⟨xm_up_r _ _ (by omega), xm_up_r _ _ (by omega), xm_up_j _ _ (by omega)⟩
          obtain ⟨Me, Ne, e, re, hr⟩ := p_rule htl htx rd (n := n) (by omega)
          rcases hr with ⟨r1, r2⟩ | ⟨r, r1, r2, r3, r4, r5, r6, r7, r8⟩
          · rw [r1, r2, xz_b2, xz_b2, if_pos rfl, if_pos rfl]
            exact fail re
          · rw [r2, r3, xz_b2, xz_b2, if_neg xz_10, if_neg xz_10]
            have hQ : pQ ((w, r, 0, 0), fun _ => 0) Me Ne := by
              refine ⟨⟨?_, r4, ?_, ?_, fun i hi => absurd hi (Nat.not_lt_zero i)⟩, ⟨?_, r5, ?_, fun i hi => absurd hi (Nat.not_lt_zero i)⟩, ?_⟩
              · rw [r6 0 (by omega), fd.1]; exact c10
              · rw [r6 2 (by omega), fd.1, c7 2 (by omega)]; exact sb.1
              · rw [r6 3 (by omega), fd.1, c7 3 (by omega)]; exact sb.2.1
              · rw [r7 0 (by omega), fd.2.1]; exact c4
              · show Ne 12 2 = 0
                rw [r7 2 (by omega), fd.2.1, c5 2 (by omega)]; exact sb.2.2.1
              · rw [r8, fd.2.2, c6]; exact sb.2.2.2
            have hJ : pJ ((w, r, 0, 0), fun _ => 0) := ⟨Nat.le_refl _, fun q => absurd q.1 (Nat.lt_irrefl 0), Nat.zero_le _, ⟨Nat.le_refl _, fun q => absurd q (Nat.lt_irrefl 0)⟩, rfl, fun i hi => absurd hi (Nat.not_lt_zero i)⟩
            obtain ⟨Mf, Nf, f, rf, hf⟩ := p_steps htl htx 9 _ Me Ne e n re hQ hJ (by show 9 ≤ 0 + 9; omega) (by omega)
            unfold f_X5_takesSteps
            rcases hf with ⟨f1, f2⟩ | ⟨f1, f2, P', f3, f4, f5, f6, f7, f8⟩
            · change f_X5_takesSteps_2 n Me 1 0 = _ at f1
              rw [f1, f2, xz_b2, if_pos rfl]
              exact ⟨Mf, Nf, f, rf, Or.inl ⟨by rw [rf.1.2.1], rfl⟩⟩
            · change f_X5_takesSteps_2 n Me 1 0 = _ at f1
              rw [f1, f2, xz_b2, if_neg xz_10]
              have j1 := f4.2.1 f5
              refine ⟨Mf, Nf, f, rf, Or.inr ⟨rfl, rfl, P', ⟨by rw [f7]; exact w1, by rw [f7]; exact w2, by rw [f8]; exact r1, f6, ?_, f4.2.2.2.2.1, ?_, f4.2.2.1, f4.2.2.2.2.2⟩, f3.1, f3.2.1⟩⟩
              · have := f4.2.2.1; omega
              · exact ⟨by omega, f4.2.2.2.1.2 (by omega)⟩
        · rw [if_neg b1, if_neg b1, xz_b2, if_pos rfl]
          show pV M N tx tl (some (xm_up Mc 6 2 (nI c) 6 2, xm_up Mc 6 2 (nI c))) _
          rw [xm_up_same rc.1.2.1]
          exact fail rc
      · rw [c9, c3, xz_b2, xz_b2, if_pos rfl, if_neg xz_10, d2, if_neg (fun q => c11 q.2), xz_b2, if_pos rfl]
        exact fail rc
end PA
