/-! THE SECOND STREAM: the kinds the other way round, 2 v + 1 for a value v -/
def mirK (k : Nat) : Nat := if k < 8 then 7 - k else k
def mirE (x : Nat × Nat × Nat) : Nat × Nat × Nat := (mirK x.1, 2 * x.2.1 + 1, x.2.2)
def mirC (c : Nat) : Nat := if c < 8 then 7 - c else if c < 16 then 23 - c else c
def mirP (P : xa_P) : xa_P := (P.1, fun i => mirC (P.2 i))
def mirS (A : xa_S) : xa_S := (A.1, fun i => mirE (A.2.1 i), fun j => mirP (A.2.2 j))
theorem mk_inj (a b : Nat) : mirK a = mirK b ↔ a = b := by
  unfold mirK
  split <;> split <;> omega
theorem mk_lt {k : Nat} (h : k < 8) : mirK k = 7 - k := if_pos h
theorem mc_lt (c : Nat) : mirC c < 8 ↔ c < 8 := by
  unfold mirC
  split
  · omega
  · split <;> omega
theorem mc_lo {c : Nat} (h : c < 8) : mirC c = mirK c := by
  unfold mirC mirK
  rw [if_pos h, if_pos h]
theorem mc_hi {c : Nat} (h : ¬ c < 8) (h2 : c < 16) : mirC c = 23 - c := by
  unfold mirC
  rw [if_neg h, if_pos h2]
theorem mc_mod {c : Nat} (h : c < 16) : mirC c % 8 = 7 - c % 8 ∧ mirC c / 8 = c / 8 := by
  unfold mirC
  by_cases q : c < 8
  · rw [if_pos q]
    omega
  · rw [if_neg q, if_pos h]
    omega
theorem m_ct (c : Nat → Nat) : ∀ n, xa_ct (fun i => mirC (c i)) n = xa_ct c n
  | 0 => rfl
  | n + 1 => by
    rw [xa_ct, xa_ct, m_ct c n]
    by_cases q : c n < 8
    · rw [if_pos q, if_pos ((mc_lt _).mpr q)]
    · rw [if_neg q, if_neg (mt (mc_lt _).mp q)]
theorem m_pn (c : Nat → Nat) {n : Nat} (h : ∀ i, i < n → c i < 16) : ∀ i, i ≤ n → pn (fun i => mirC (c i)) i = mirK (pn c i)
  | 0, _ => rfl
  | i + 1, hi => by
    have h1 := h i (by omega)
    rw [pn, pn]
    by_cases q : c i < 8
    · rw [if_pos q, if_pos ((mc_lt _).mpr q)]; rfl
    · rw [if_neg q, if_neg (mt (mc_lt _).mp q)]
      rw [mc_hi q h1, mk_lt (show c i - 8 < 8 by omega)]
      omega
theorem m_kb (c : Nat → Nat) {n : Nat} (h : ∀ i, i < n → c i < 16) : ∀ i j, i ≤ n → pkb (fun i => mirC (c i)) i j = mirK (pkb c i j) ∧ (j < xa_ct c i → pkk (fun i => mirC (c i)) i j = mirK (pkk c i j))
  | 0, j, _ => ⟨rfl, fun t => absurd t (Nat.not_lt_zero j)⟩
  | i + 1, j, hi => by
    obtain ⟨g1, g2⟩ := m_kb c h i j (by omega)
    have e1 : (mirC (c i) < 8 ∧ j = xa_ct (fun i => mirC (c i)) i) ↔ (c i < 8 ∧ j = xa_ct c i) := by rw [mc_lt, m_ct]
    rw [pkb, pkb, pkk, pkk]
    by_cases q : c i < 8 ∧ j = xa_ct c i
    · rw [if_pos q, if_pos q, if_pos (e1.mpr q), if_pos (e1.mpr q)]
      exact ⟨m_pn c h i (by omega), fun _ => mc_lo q.1⟩
    · rw [if_neg q, if_neg q, if_neg (mt e1.mp q), if_neg (mt e1.mp q)]
      refine ⟨g1, fun t => g2 ?_⟩
      rw [xa_ct] at t
      by_cases q2 : c i < 8
      · rw [if_pos q2] at t
        have : ¬ j = xa_ct c i := fun z => q ⟨q2, z⟩
        omega
      · rw [if_neg q2] at t
        exact t
theorem m_rO {ru a b : Nat} (hr : ru ≤ 2) : rO ru (2 * a + 1) (2 * b + 1) = rO ru a b := by
  unfold rO
  refine decide_eq_decide.mpr ?_
  omega
section MIR
variable {ev : Nat → Nat × Nat × Nat} {ne np : Nat} {P : xa_P} {Ps : Nat → xa_P} {A : xa_S}
theorem m_PL (hP : xa_WP P) : PL (fun i => mirE (ev i)) ne (mirP P) = PL ev ne P := by
  obtain ⟨w1, w2, w3, w4, w5, w6, ⟨w7, w7'⟩, w8, w9⟩ := hP
  have hk := m_kb P.2 w9 P.1.2.2.1
  have s1 : ∀ d, d < P.1.2.2.2 → ∀ (a : Nat → Nat) (q : Nat), wnP (fun i => mirE (ev i)) ne P.1.1 a d q = wnP ev ne P.1.1 a d q := fun d _ a q => rfl
  have s2 : ∀ d, d < P.1.2.2.2 → ∀ (a : Nat → Nat) (q : Nat), suP (fun i => mirE (ev i)) ne (pkk (fun i => mirC (P.2 i)) P.1.2.2.1) P.1.2.1 a d q = suP ev ne (pkk P.2 P.1.2.2.1) P.1.2.1 a d q := fun d hd a q => by
    have e1 : pKd (fun i => mirE (ev i)) ne q = mirK (pKd ev ne q) := rfl
    have e2 : ∀ q, pVl (fun i => mirE (ev i)) ne q = 2 * pVl ev ne q + 1 := fun q => rfl
    unfold suP
    rw [e1, e2, e2, m_rO w3, (hk d (Nat.le_refl _)).2 (by rw [← w6]; exact hd)]
    congr 1
    exact decide_eq_decide.mpr (mk_inj _ _)
  have s3 : ∀ d, d < P.1.2.2.2 → ∀ (q : Nat), baP (fun i => mirE (ev i)) ne (pkb (fun i => mirC (P.2 i)) P.1.2.2.1) d q = baP ev ne (pkb P.2 P.1.2.2.1) d q := fun d hd q => by
    have e1 : pKd (fun i => mirE (ev i)) ne q = mirK (pKd ev ne q) := rfl
    unfold baP
    rw [e1, (hk d (Nat.le_refl _)).1]
    exact decide_eq_decide.mpr (mk_inj _ _)
  exact s_alike1 (s1 0 (by omega)) (s2 0 (by omega)) (s3 0 (by omega)) (fun a q => s_alike s1 s2 s3 (P.1.2.2.2 - 1) 0 a q (by omega)) _ _ _
theorem m_allM (hP : ∀ j, j < np → xa_WP (Ps j)) : ∀ j, j ≤ np → allM (fun i => mirE (ev i)) ne (fun j => mirP (Ps j)) j = allM ev ne Ps j
  | 0, _ => rfl
  | j + 1, hj => by rw [allM, allM, m_allM hP j (by omega), m_PL (hP j (by omega))]
theorem m_allS (hP : ∀ j, j < np → xa_WP (Ps j)) (s : Nat) : ∀ j, j ≤ np → allS (fun i => mirE (ev i)) ne (fun j => mirP (Ps j)) s j = allS ev ne Ps s j
  | 0, _ => rfl
  | j + 1, hj => by
    rw [allS, allS, m_allS hP s j (by omega), m_PL (hP j (by omega))]
    rfl
theorem m_tot (hW : xa_WS A) : allM (mirS A).2.1 (mirS A).1.1 (mirS A).2.2 (mirS A).1.2.2.2 = allM A.2.1 A.1.1 A.2.2 A.1.2.2.2 := m_allM hW.2.2.2.2.2 A.1.2.2.2 (Nat.le_refl _)
theorem m_sha (hW : xa_WS A) (s : Nat) : allS (mirS A).2.1 (mirS A).1.1 (mirS A).2.2 s (mirS A).1.2.2.2 = allS A.2.1 A.1.1 A.2.2 s A.1.2.2.2 := m_allS hW.2.2.2.2.2 s A.1.2.2.2 (Nat.le_refl _)
theorem m_alone (hW : xa_WS A) : aloneN (mirS A).2.1 (mirS A).1.1 (mirS A).2.2 (mirS A).1.2.2.2 = aloneN A.2.1 A.1.1 A.2.2 A.1.2.2.2 := by
  have e : (fun s => if allS (mirS A).2.1 (mirS A).1.1 (mirS A).2.2 s (mirS A).1.2.2.2 = 0 then 1 else 0) = fun s => if allS A.2.1 A.1.1 A.2.2 s A.1.2.2.2 = 0 then 1 else 0 := by
    funext s
    rw [m_sha hW s]
  unfold aloneN
  rw [e]
  rfl
theorem cntV_0 (A : xa_S) (hn : Nat) : cntV A hn 0 = A.1.1 := rfl
theorem cntV_1 (A : xa_S) (hn : Nat) : cntV A hn 1 = A.1.2.2.2 := rfl
theorem cntV_2 (A : xa_S) (hn : Nat) : cntV A hn 2 = allM A.2.1 A.1.1 A.2.2 A.1.2.2.2 := rfl
theorem cntV_3 (A : xa_S) (hn : Nat) : cntV A hn 3 = A.1.2.1 := rfl
theorem cntV_4 (A : xa_S) (hn : Nat) : cntV A hn 4 = A.1.2.1 - A.1.2.2.1 := rfl
theorem cntV_5 (A : xa_S) (hn : Nat) : cntV A hn 5 = A.1.2.2.1 := rfl
theorem cntV_6 (A : xa_S) (hn : Nat) : cntV A hn 6 = aloneN A.2.1 A.1.1 A.2.2 A.1.2.2.2 := rfl
theorem cntV_7 (A : xa_S) (hn : Nat) : cntV A hn 7 = hn := rfl
theorem mirS_1 (A : xa_S) : (mirS A).1 = A.1 := by unfold mirS; rfl
theorem mirS_p (A : xa_S) (j : Nat) : (mirS A).2.2 j = mirP (A.2.2 j) := by unfold mirS; rfl
theorem mirP_1 (P : xa_P) : (mirP P).1 = P.1 := by unfold mirP; rfl
theorem m_cnt (hW : xa_WS A) (hn : Nat) {w : Nat} (hw : w < 8) : cntV (mirS A) hn w = cntV A hn w := by
  rcases (show w = 0 ∨ w = 1 ∨ w = 2 ∨ w = 3 ∨ w = 4 ∨ w = 5 ∨ w = 6 ∨ w = 7 by omega) with e | e | e | e | e | e | e | e
  · rw [e, cntV_0, cntV_0, mirS_1]
  · rw [e, cntV_1, cntV_1, mirS_1]
  · rw [e, cntV_2, cntV_2]; exact m_tot hW
  · rw [e, cntV_3, cntV_3, mirS_1]
  · rw [e, cntV_4, cntV_4, mirS_1]
  · rw [e, cntV_5, cntV_5, mirS_1]
  · rw [e, cntV_6, cntV_6]; exact m_alone hW
  · rw [e, cntV_7, cntV_7]
theorem patV_0 (A : xa_S) (j : Nat) : patV A j 0 = (A.2.2 j).1.1 := rfl
theorem patV_1 (A : xa_S) (j : Nat) : patV A j 1 = (A.2.2 j).1.2.1 := rfl
theorem patV_2 (A : xa_S) (j : Nat) : patV A j 2 = (A.2.2 j).1.2.2.1 := rfl
theorem patV_3 (A : xa_S) (j : Nat) : patV A j 3 = (A.2.2 j).1.2.2.2 := rfl
theorem patV_4 (A : xa_S) (j : Nat) : patV A j 4 = nM (PL A.2.1 A.1.1 (A.2.2 j)) := rfl
theorem patV_5 (A : xa_S) (j : Nat) : patV A j 5 = nS (pTm A.2.1 A.1.1) (A.1.2.1 - A.1.2.2.1) ((A.2.2 j).1.2.2.2 - 1) (PL A.2.1 A.1.1 (A.2.2 j)) := rfl
theorem patV_6 (A : xa_S) (j : Nat) : patV A j 6 = nB (pTm A.2.1 A.1.1) (A.2.2 j).1.1 A.1.2.1 (PL A.2.1 A.1.1 (A.2.2 j)) := rfl
theorem m_T (A : xa_S) : pTm (mirS A).2.1 (mirS A).1.1 = pTm A.2.1 A.1.1 := by
  unfold mirS
  rfl
theorem m_PLj (hW : xa_WS A) {j : Nat} (hj : j < A.1.2.2.2) : PL (mirS A).2.1 (mirS A).1.1 ((mirS A).2.2 j) = PL A.2.1 A.1.1 (A.2.2 j) := m_PL (ev := A.2.1) (ne := A.1.1) (hW.2.2.2.2.2 j hj)
theorem m_pat (hW : xa_WS A) {j : Nat} (hj : j < A.1.2.2.2) {w : Nat} (hw : w < 7) : patV (mirS A) j w = patV A j w := by
  have hP := m_PLj hW hj
  rcases (show w = 0 ∨ w = 1 ∨ w = 2 ∨ w = 3 ∨ w = 4 ∨ w = 5 ∨ w = 6 by omega) with e | e | e | e | e | e | e
  · rw [e, patV_0, patV_0, mirS_p, mirP_1]
  · rw [e, patV_1, patV_1, mirS_p, mirP_1]
  · rw [e, patV_2, patV_2, mirS_p, mirP_1]
  · rw [e, patV_3, patV_3, mirS_p, mirP_1]
  · rw [e, patV_4, patV_4, hP]
  · rw [e, patV_5, patV_5, hP, m_T, mirS_p, mirP_1, mirS_1]
  · rw [e, patV_6, patV_6, hP, m_T, mirS_p, mirP_1, mirS_1]
theorem m_O (A : xa_S) : pO (mirS A).2.1 (mirS A).1.1 = pO A.2.1 A.1.1 := by
  unfold mirS
  rfl
theorem m_mat (hW : xa_WS A) {j : Nat} (hj : j < A.1.2.2.2) (rk ix : Nat) : matV (mirS A) j rk ix = matV A j rk ix := by
  unfold matV
  rw [m_PLj hW hj, m_O]
/-- the acts on both streams -/
theorem m_event (k v t : Nat) : xe_A (mirS A) (mirK k) (2 * v + 1) t = mirS (xe_A A k v t) := by
  have e : (fun i => if i = A.1.1 then (mirK k, 2 * v + 1, t) else mirE (A.2.1 i)) = fun i => mirE (if i = A.1.1 then (k, v, t) else A.2.1 i) := by
    funext i
    split <;> rfl
  show ((A.1.1 + 1, (if A.1.2.1 < t then t else A.1.2.1), A.1.2.2.1, A.1.2.2.2), (fun i => if i = A.1.1 then (mirK k, 2 * v + 1, t) else mirE (A.2.1 i)), fun j => mirP (A.2.2 j)) = _
  rw [e]
  rfl
theorem m_late (j : Nat) : ya_L (mirS A) j = mirS (ya_L A j) := rfl
theorem m_wind (j w : Nat) : ya_W (mirS A) j w = mirS (ya_W A j w) := by
  have e : (fun i => if i = j then ((w, (A.2.2 j).1.2), fun i => mirC ((A.2.2 j).2 i)) else mirP (A.2.2 i)) = fun i => mirP (if i = j then ((w, (A.2.2 j).1.2), (A.2.2 j).2) else A.2.2 i) := by
    funext i
    split <;> rfl
  show (A.1, (fun i => mirE (A.2.1 i)), (fun i => if i = j then ((w, (A.2.2 j).1.2), fun i => mirC ((A.2.2 j).2 i)) else mirP (A.2.2 i))) = _
  rw [e]
  rfl
theorem m_drop (p : Nat) : xd_A (mirS A) p = mirS (xd_A A p) := by
  have e : (fun j => if j < p then mirP (A.2.2 j) else mirP (A.2.2 (j + 1))) = fun j => mirP (if j < p then A.2.2 j else A.2.2 (j + 1)) := by
    funext i
    split <;> rfl
  show ((A.1.1, A.1.2.1, A.1.2.2.1, A.1.2.2.2 - 1), (fun i => mirE (A.2.1 i)), (fun j => if j < p then mirP (A.2.2 j) else mirP (A.2.2 (j + 1)))) = _
  rw [e]
  rfl
theorem m_add (P : xa_P) : xg_A (mirS A) (mirP P) = mirS (xg_A A P) := by
  have e : (fun j => if j = A.1.2.2.2 then mirP P else mirP (A.2.2 j)) = fun j => mirP (if j = A.1.2.2.2 then P else A.2.2 j) := by
    funext i
    split <;> rfl
  show ((A.1.1, A.1.2.1, A.1.2.2.1, A.1.2.2.2 + 1), (fun i => mirE (A.2.1 i)), (fun j => if j = A.1.2.2.2 then mirP P else mirP (A.2.2 j))) = _
  rw [e]
  rfl
theorem m_push (h : Nat → xa_S) (hn : Nat) : xh_push (mirS A) (fun i => mirS (h i)) hn = fun i => mirS (xh_push A h hn i) := by
  funext i
  unfold xh_push
  split <;> split <;> rfl
theorem m_fc (t : Nat) : ∀ i, xf_c (mirS A) t i = xf_c A t i
  | 0 => rfl
  | i + 1 => by
    rw [xf_c, xf_c, m_fc t i]
    rfl
theorem m_fe (t : Nat) : ∀ i k, k < xf_c A t i → xf_e (mirS A) t i k = mirE (xf_e A t i k)
  | 0, k, h => absurd h (Nat.not_lt_zero k)
  | i + 1, k, h => by
    rw [xf_e1, xf_e1, m_fc]
    show (if t ≤ (A.2.1 i).2.2 ∧ k = xf_c A t i then mirE (A.2.1 i) else xf_e (mirS A) t i k) = _
    by_cases q : t ≤ (A.2.1 i).2.2 ∧ k = xf_c A t i
    · rw [if_pos q, if_pos q]
    · rw [if_neg q, if_neg q]
      refine m_fe t i k ?_
      rw [xf_c] at h
      by_cases q2 : t ≤ (A.2.1 i).2.2
      · rw [if_pos q2] at h
        have : ¬ k = xf_c A t i := fun z => q ⟨q2, z⟩
        omega
      · rw [if_neg q2] at h
        exact h
end MIR
/-- what is behind the events is not told -/
theorem y_ext {A A' : xa_S} {h : Nat → xa_S} {hn ho : Nat} {tx : Nat → Nat} {tl : Nat} {M : xm_M} (hI : yI A h hn ho tx tl M) (h1 : A'.1 = A.1) (h2 : ∀ i, i < A.1.1 → A'.2.1 i = A.2.1 i) (h3 : A'.2.2 = A.2.2) : yI A' h hn ho tx tl M := by
  obtain ⟨⟨w1, w2, w3, w4, w5, w6, w7⟩, x1, x2, x3, x4, x5⟩ := hI
  obtain ⟨v1, v2, v3, v4, v5, v6⟩ := w1
  obtain ⟨a0, a1, a2, a3, a4, a5⟩ := x1
  refine ⟨⟨⟨by rw [h1]; exact v1, by rw [h1]; exact v2, by rw [h1]; exact v3, by rw [h1]; exact v4, fun i hi => ?_, fun j hj => ?_⟩, w2, w3, w4, w5, w6, w7⟩, ⟨by rw [h1]; exact a0, by rw [h1]; exact a1, by rw [h1]; exact a2, by rw [h1]; exact a3, fun i hi => ?_, fun j hj => ?_⟩, x2, x3, x4, x5⟩
  · rw [h1] at hi
    rw [h2 i hi]
    exact v5 i hi
  · rw [h1] at hj
    rw [h3]
    exact v6 j hj
  · rw [h1] at hi
    rw [h2 i hi]
    exact a4 i hi
  · rw [h1] at hj
    rw [h3]
    exact a5 j hj
/-- both streams -/
def jI (A : xa_S) (h : Nat → xa_S) (hn ho : Nat) (tx tx' : Nat → Nat) (tl : Nat) (M N : xm_M) : Prop := yI A h hn ho tx tl M ∧ yI (mirS A) (fun i => mirS (h i)) hn ho tx' tl N
