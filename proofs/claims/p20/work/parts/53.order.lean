/-! LAYER 2: the events in their order -/
/-- a loop that counts up, and whose end is the same for every fuel that suffices -/
theorem xz_forU {ρ : Type} (f : Nat → xm_M → Nat → Option ρ) (e K : Nat) (I : Nat → xm_M → Prop) (Qf : ρ → Prop) (hx : ∀ M, I e M → ∃ r, Qf r ∧ ∀ n, K ≤ n → f (n + 1) M e = some r) (hs : ∀ i M, i < e → I i M → ∃ M', I (i + 1) M' ∧ ∀ n, K ≤ n → f (n + 1) M i = f n M' (i + 1)) : ∀ d i M, i + d = e → I i M → ∃ r, Qf r ∧ ∀ n, d + K < n → f n M i = some r
  | 0, i, M, hd, hI => by
    have : i = e := by omega
    subst this
    obtain ⟨r, h1, h2⟩ := hx M hI
    refine ⟨r, h1, fun n hn => ?_⟩
    obtain ⟨n, rfl⟩ : ∃ q, n = q + 1 := ⟨n - 1, by omega⟩
    exact h2 n (by omega)
  | d + 1, i, M, hd, hI => by
    obtain ⟨M', h1, h2⟩ := hs i M (by omega) hI
    obtain ⟨r, h3, h4⟩ := xz_forU f e K I Qf hx hs d (i + 1) M' (by omega) h1
    refine ⟨r, h3, fun n hn => ?_⟩
    obtain ⟨n, rfl⟩ : ∃ q, n = q + 1 := ⟨n - 1, by omega⟩
    rw [h2 n (by omega)]
    exact h4 n (by omega)
def io_p (t : Nat → Nat) (o : Nat → Nat) (i : Nat) : Nat → Nat
  | 0 => 0
  | j + 1 => if t (o j) ≤ t i then j + 1 else io_p t o i j
def io_i (o : Nat → Nat) (i p : Nat) : Nat → Nat := fun k => if k < p then o k else if k = p then i else o (k - 1)
def io (t : Nat → Nat) : Nat → Nat → Nat
  | 0 => fun _ => 0
  | i + 1 => io_i (io t i) i (io_p t (io t i) i i)
theorem io_p_le (t o : Nat → Nat) (i : Nat) : ∀ j, io_p t o i j ≤ j
  | 0 => Nat.le_refl _
  | j + 1 => by
    rw [io_p]
    split
    · exact Nat.le_refl _
    · have := io_p_le t o i j; omega
theorem io_p_hi (t o : Nat → Nat) (i : Nat) : ∀ j k, io_p t o i j ≤ k → k < j → t i < t (o k)
  | 0, k, _, h => by omega
  | j + 1, k, h, hk => by
    rw [io_p] at h
    by_cases q : t (o j) ≤ t i
    · rw [if_pos q] at h; omega
    · rw [if_neg q] at h
      by_cases e : k = j
      · rw [e]; omega
      · exact io_p_hi t o i j k h (by omega)
theorem io_p_lo (t o : Nat → Nat) (i : Nat) : ∀ j, 0 < io_p t o i j → t (o (io_p t o i j - 1)) ≤ t i
  | 0, h => absurd h (Nat.lt_irrefl 0)
  | j + 1, h => by
    rw [io_p] at h ⊢
    by_cases q : t (o j) ≤ t i
    · rw [if_pos q]; exact q
    · rw [if_neg q] at h ⊢
      exact io_p_lo t o i j h
theorem io_lt (t : Nat → Nat) : ∀ i k, k < i → io t i k < i
  | 0, k, h => by omega
  | i + 1, k, h => by
    have hp := io_p_le t (io t i) i i
    rw [io, io_i]
    by_cases q : k < io_p t (io t i) i i
    · rw [if_pos q]; have := io_lt t i k (by omega); omega
    · rw [if_neg q]
      by_cases e : k = io_p t (io t i) i i
      · rw [if_pos e]; omega
      · rw [if_neg e]; have := io_lt t i (k - 1) (by omega); omega
theorem io_srt (t : Nat → Nat) : ∀ i k l, k < l → l < i → t (io t i k) ≤ t (io t i l)
  | 0, k, l, _, h => by omega
  | i + 1, k, l, hkl, hl => by
    have hp := io_p_le t (io t i) i i
    have hhi := io_p_hi t (io t i) i i
    have hlo := io_p_lo t (io t i) i i
    have ih := io_srt t i
    rw [io]
    unfold io_i
    generalize io_p t (io t i) i i = p at hp hhi hlo
    by_cases q : l < p
    · rw [if_pos (show k < p by omega), if_pos q]; exact ih k l hkl (by omega)
    · by_cases e : l = p
      · rw [if_pos (show k < p by omega), if_neg q, if_pos e]
        have := hlo (by omega)
        by_cases g : k = p - 1
        · rw [g]; exact this
        · exact Nat.le_trans (ih k (p - 1) (by omega) (by omega)) this
      · rw [if_neg q, if_neg e]
        by_cases q1 : k < p
        · rw [if_pos q1]
          by_cases g : k = l - 1
          · rw [g]; exact Nat.le_refl _
          · exact ih k (l - 1) (by omega) (by omega)
        · rw [if_neg q1]
          by_cases e1 : k = p
          · rw [if_pos e1]; have := hhi (l - 1) (by omega) (by omega); omega
          · rw [if_neg e1]; exact ih (k - 1) (l - 1) (by omega) (by omega)
theorem io_inj (t : Nat → Nat) : ∀ i k l, k < i → l < i → io t i k = io t i l → k = l
  | 0, k, l, h, _ => by omega
  | i + 1, k, l, hk, hl => by
    have hp := io_p_le t (io t i) i i
    have ih := io_inj t i
    have lt := io_lt t i
    rw [io]
    unfold io_i
    generalize io_p t (io t i) i i = p at hp
    have h1 : ∀ k, k < i + 1 → ((if k < p then io t i k else if k = p then i else io t i (k - 1)) = i ↔ k = p) := by
      intro k hk
      by_cases q : k < p
      · rw [if_pos q]
        have := lt k (by omega)
        omega
      · rw [if_neg q]
        by_cases e : k = p
        · rw [if_pos e]; omega
        · rw [if_neg e]
          have := lt (k - 1) (by omega)
          omega
    have h2 : ∀ k, k < i + 1 → k ≠ p → ∃ k', k' < i ∧ (if k < p then io t i k else if k = p then i else io t i (k - 1)) = io t i k' ∧ k = if k' < p then k' else k' + 1 := by
      intro k hk e
      by_cases q : k < p
      · exact ⟨k, by omega, by rw [if_pos q], by rw [if_pos q]⟩
      · refine ⟨k - 1, by omega, by rw [if_neg q, if_neg e], ?_⟩
        rw [if_neg (by omega)]; omega
    intro h
    by_cases e : k = p
    · have := (h1 k hk).mpr e
      rw [h] at this
      rw [(h1 l hl).mp this]; exact e
    · by_cases e2 : l = p
      · have := (h1 l hl).mpr e2
        rw [← h] at this
        exact absurd ((h1 k hk).mp this) e
      · obtain ⟨k', a1, a2, a3⟩ := h2 k hk e
        obtain ⟨l', b1, b2, b3⟩ := h2 l hl e2
        rw [a2, b2] at h
        have := ih k' l' a1 b1 h
        rw [a3, b3, this]
theorem io_sur (t : Nat → Nat) : ∀ i e, e < i → ∃ k, k < i ∧ io t i k = e
  | 0, e, h => by omega
  | i + 1, e, he => by
    have hp := io_p_le t (io t i) i i
    rw [io]
    unfold io_i
    generalize io_p t (io t i) i i = p at hp
    by_cases q : e = i
    · exact ⟨p, by omega, by rw [if_neg (Nat.lt_irrefl _), if_pos rfl, q]⟩
    · obtain ⟨k, k1, k2⟩ := io_sur t i e (by omega)
      by_cases g : k < p
      · exact ⟨k, by omega, by rw [if_pos g]; exact k2⟩
      · exact ⟨k + 1, by omega, by rw [if_neg (by omega), if_neg (by omega)]; exact k2⟩
/-- counting over the places is counting over the events -/
def io_c (f : Nat → Nat) (o : Nat → Nat) : Nat → Nat
  | 0 => 0
  | i + 1 => io_c f o i + f (o i)
theorem io_cc (f : Nat → Nat) {o o' : Nat → Nat} : ∀ i, (∀ k, k < i → o k = o' k) → io_c f o i = io_c f o' i
  | 0, _ => rfl
  | i + 1, h => by rw [io_c, io_c, io_cc f i (fun k hk => h k (by omega)), h i (by omega)]
theorem io_ci (f o : Nat → Nat) (e : Nat) : ∀ i p, p ≤ i → io_c f (io_i o e p) (i + 1) = io_c f o i + f e
  | 0, p, h => by
    have : p = 0 := by omega
    subst this
    rfl
  | i + 1, p, h => by
    rw [io_c]
    by_cases q : p = i + 1
    · subst q
      have e1 : io_i o e (i + 1) (i + 1) = e := by rw [io_i, if_neg (Nat.lt_irrefl _), if_pos rfl]
      rw [e1, io_cc f (o' := o) (i + 1) (fun k hk => by rw [io_i, if_pos hk])]
    · have e1 : io_i o e p (i + 1) = o i := by rw [io_i, if_neg (by omega), if_neg (by omega)]; rfl
      rw [e1, io_ci f o e i p (by omega), io_c]
      omega
theorem io_sum (f t : Nat → Nat) : ∀ i, io_c f (io t i) i = io_c f (fun e => e) i
  | 0 => rfl
  | i + 1 => by
    rw [io, io_ci f (io t i) i i _ (io_p_le _ _ _ _), io_sum f t i]
    rfl
/-- the line of the class, and the events of the reference -/
def xL (ev : Nat → Nat × Nat × Nat) (o : Nat → Nat) (i : Nat) (M : xm_M) : Prop := M 13 0 = nI i ∧ ∀ k, k < i → M 14 k = nI (o k) ∧ M 15 k = nI (97 + (ev (o k)).1) ∧ M 16 k = nI (ev (o k)).2.1 ∧ M 17 k = nI (ev (o k)).2.2
def mE (ev : Nat → Nat × Nat × Nat) (ne : Nat) (g : Nat → Int32) : Prop := g 0 = nI ne ∧ ∀ e, e < ne → g (4 + 3 * e + 0) = nI (ev e).1 ∧ g (4 + 3 * e + 1) = nI (ev e).2.1 ∧ g (4 + 3 * e + 2) = nI (ev e).2.2
def eW (ev : Nat → Nat × Nat × Nat) (ne : Nat) : Prop := ∀ e, e < ne → (ev e).1 < 8 ∧ (ev e).2.1 ≤ 99 ∧ (ev e).2.2 ≤ 9999
def eT (ev : Nat → Nat × Nat × Nat) : Nat → Nat := fun e => (ev e).2.2
section ORD
variable {ev : Nat → Nat × Nat × Nat} {ne i : Nat} {M N : xm_M} {o : Nat → Nat}
theorem xL_put (M : xm_M) {j : Nat} (hj : j < 25) (a : Nat) {b : Nat} (c d : Nat) (hb : b < 65536) : ∃ G, (∀ n, f_X1_put n M (nI j) (nI a) (nI b) (nI c) (nI d) = some G) ∧ (G 14 j = nI a ∧ G 15 j = nI b ∧ G 16 j = nI c ∧ G 17 j = nI d) ∧ (∀ r k, k ≠ j → G r k = M r k) ∧ ∀ k, k < 14 ∨ 17 < k → G k = M k := by
  unfold f_X1_put
  simp only [xz_ci hj (show 25 ≤ 1000 by omega), xz_lt, xz_cl (show j < 2 ^ 31 by omega), xz_nc hb]
  exact ⟨_, fun _ => rfl, ⟨by rw [xm_up_k _ _ (by omega), xm_up_k _ _ (by omega), xm_up_k _ _ (by omega), xm_up_s], by rw [xm_up_k _ _ (by omega), xm_up_k _ _ (by omega), xm_up_s], by rw [xm_up_k _ _ (by omega), xm_up_s], xm_up_s _ _ _ _⟩, fun r k hk => by rw [xm_up_j _ _ hk, xm_up_j _ _ hk, xm_up_j _ _ hk, xm_up_j _ _ hk], fun k hk => by rw [xm_up_r _ _ (by omega), xm_up_r _ _ (by omega), xm_up_r _ _ (by omega), xm_up_r _ _ (by omega)]⟩
def xR (ev : Nat → Nat × Nat × Nat) (e k : Nat) (M : xm_M) : Prop := M 14 k = nI e ∧ M 15 k = nI (97 + (ev e).1) ∧ M 16 k = nI (ev e).2.1 ∧ M 17 k = nI (ev e).2.2
theorem x_ins (hi : i < 25) (hE : eW ev (i + 1)) (ho : ∀ k, k < i → o k < i) : ∀ (j : Nat) (M : xm_M), j ≤ i → M 13 0 = nI i → (∀ k, k < j → xR ev (o k) k M) → (∀ k, j < k → k ≤ i → xR ev (o (k - 1)) k M) → ∃ M', (∀ n, j < n → f_X1_insert_16 n M (nI i) (nI (97 + (ev i).1)) (nI (ev i).2.1) (nI (ev i).2.2) (nI j) = some M') ∧ xL ev (io_i o i (io_p (eT ev) o i j)) (i + 1) M' ∧ (∀ k, k < 13 ∨ 17 < k → M' k = M k)
  | j, M, hj, h13, hlo, hhi => by
    obtain ⟨w1, w2, w3⟩ := hE i (by omega)
    have fin : ∀ p, p = j → ∃ M', (∀ n, f_X1_insert_83 n M (nI i) (nI (97 + (ev i).1)) (nI (ev i).2.1) (nI (ev i).2.2) (nI j) = some M') ∧ xL ev (io_i o i p) (i + 1) M' ∧ (∀ k, k < 13 ∨ 17 < k → M' k = M k) := by
      intro p hp
      subst hp
      obtain ⟨G, s0, ⟨s1, s2, s3, s4⟩, s5, s6⟩ := xL_put M (show p < 25 by omega) i (ev i).2.1 (ev i).2.2 (show 97 + (ev i).1 < 65536 by omega)
      refine ⟨xm_up G 13 0 (nI (i + 1)), fun n => by unfold f_X1_insert_83; rw [s0, xz_b1, xz_lt, s6 13 (by omega), h13, nI_1], ⟨xm_up_s _ _ _ _, fun k hk => ?_⟩, fun k hk => by rw [xm_up_r _ _ (by omega), s6 k (by omega)]⟩
      rw [xm_up_k _ _ (by omega), xm_up_k _ _ (by omega), xm_up_k _ _ (by omega), xm_up_k _ _ (by omega), io_i]
      by_cases q : k < p
      · rw [if_pos q, s5 14 k (by omega), s5 15 k (by omega), s5 16 k (by omega), s5 17 k (by omega)]
        exact hlo k q
      · rw [if_neg q]
        by_cases e : k = p
        · rw [if_pos e, e, s1, s2, s3, s4]
          exact ⟨rfl, rfl, rfl, rfl⟩
        · rw [if_neg e, s5 14 k (by omega), s5 15 k (by omega), s5 16 k (by omega), s5 17 k (by omega)]
          exact hhi k (by omega) (by omega)
    cases j with
    | zero =>
      obtain ⟨M', c1, c2, c3⟩ := fin _ rfl
      refine ⟨M', fun n hn => ?_, c2, c3⟩
      obtain ⟨n, rfl⟩ : ∃ q, n = q + 1 := ⟨n - 1, by omega⟩
      rw [f_X1_insert_16, if_pos (by decide)]
      exact c1 n
    | succ j =>
      obtain ⟨r1, r2, r3, r4⟩ := hlo j (by omega)
      have woj := hE (o j) (by have := ho j (by omega); omega)
      have head : ∀ n, f_X1_insert_16 (n + 1) M (nI i) (nI (97 + (ev i).1)) (nI (ev i).2.1) (nI (ev i).2.2) (nI (j + 1)) = if nI (ev (o j)).2.2 ≤ nI (ev i).2.2 then f_X1_insert_83 n M (nI i) (nI (97 + (ev i).1)) (nI (ev i).2.1) (nI (ev i).2.2) (nI (j + 1)) else xm_b1 (f_X1_put n M (nI (j + 1)) (nI (o j)) (nI (97 + (ev (o j)).1)) (nI (ev (o j)).2.1) (nI (ev (o j)).2.2)) (fun M8 => f_X1_insert_16 n M8 (nI i) (nI (97 + (ev i).1)) (nI (ev i).2.1) (nI (ev i).2.2) (nI (j + 1) + (-1))) := by
        intro n
        rw [f_X1_insert_16, if_neg (mt (xz_lec (c := 0) 0 rfl (by omega) (by omega)).mp (by omega)), nI_pred]
        simp only [xz_ci (show j < 25 by omega) (show 25 ≤ 1000 by omega), xz_cl (show j < 2 ^ 31 by omega)]
        rw [r4, r1, r2, r3]
      by_cases q : (ev (o j)).2.2 ≤ (ev i).2.2
      · obtain ⟨M', c1, c2, c3⟩ := fin (io_p (eT ev) o i (j + 1)) (by rw [io_p]; exact if_pos q)
        refine ⟨M', fun n hn => ?_, c2, c3⟩
        obtain ⟨n, rfl⟩ : ∃ q, n = q + 1 := ⟨n - 1, by omega⟩
        rw [head, if_pos ((xz_le (by omega) (by omega)).mpr q)]
        exact c1 n
      · have e9 : nI (j + 1) + (-1) = nI j := (Int32.sub_eq_add_neg _ _).symm.trans (nI_pred j)
        obtain ⟨G, s0, ⟨s1, s2, s3, s4⟩, s5, s6⟩ := xL_put M (show j + 1 < 25 by omega) (o j) (ev (o j)).2.1 (ev (o j)).2.2 (show 97 + (ev (o j)).1 < 65536 by omega)
        obtain ⟨M', c1, c2, c3⟩ := x_ins hi hE ho j G (by omega) (by rw [s6 13 (by omega)]; exact h13) (fun k hk => by
          unfold xR
          rw [s5 14 k (by omega), s5 15 k (by omega), s5 16 k (by omega), s5 17 k (by omega)]
          exact hlo k (by omega)) (fun k hk hk2 => by
          unfold xR
          by_cases e : k = j + 1
          · rw [e, s1, s2, s3, s4]
            exact ⟨rfl, rfl, rfl, rfl⟩
          · rw [s5 14 k e, s5 15 k e, s5 16 k e, s5 17 k e]
            exact hhi k (by omega) hk2)
        refine ⟨M', fun n hn => ?_, ?_, fun k hk => by rw [c3 k hk, s6 k (by omega)]⟩
        · obtain ⟨n, rfl⟩ : ∃ q, n = q + 1 := ⟨n - 1, by omega⟩
          rw [head, if_neg (mt (xz_le (by omega) (by omega)).mp q), s0, xz_b1, e9]
          exact c1 n (by omega)
        · have : io_p (eT ev) o i (j + 1) = io_p (eT ev) o i j := by
            rw [io_p]
            exact if_neg q
          rw [this]
          exact c2
theorem x_insert (hi : i < 25) (hE : eW ev (i + 1)) (h : xL ev (io (eT ev) i) i M) : ∃ M', (∀ n, 30 < n → f_X1_insert n M (nI i) (nI (97 + (ev i).1)) (nI (ev i).2.1) (nI (ev i).2.2) = some M') ∧ xL ev (io (eT ev) (i + 1)) (i + 1) M' ∧ (∀ k, k < 13 ∨ 17 < k → M' k = M k) := by
  obtain ⟨M', c1, c2, c3⟩ := x_ins hi hE (io_lt _ i) i M (Nat.le_refl _) h.1 (fun k hk => h.2 k hk) (fun k h1 h2 => by omega)
  refine ⟨M', fun n hn => ?_, c2, c3⟩
  unfold f_X1_insert
  rw [h.1, if_pos ((xz_ltc (c := 25) 25 rfl (by omega) (by omega)).mpr hi)]
  exact c1 n (by omega)
theorem x_fill {s : Nat} (hs : 17 < s) (hne : ne ≤ 24) (hE : eW ev ne) (h0 : M s 0 = nI ne) (hev : ∀ e, e < ne → M (s + 1) e = nI (97 + (ev e).1) ∧ M (s + 2) e = nI (ev e).2.1 ∧ M (s + 3) e = nI (ev e).2.2) : ∃ M', (xL ev (io (eT ev) ne) ne M' ∧ (∀ k, k < 13 ∨ 17 < k → M' k = M k)) ∧ ∀ n, 100 < n → f_X1_fillFrom n M s = some M' := by
  obtain ⟨M', h1, h2⟩ := xz_forU (fun n M i => f_X1_fillFrom_7 n M s (nI i)) ne 40 (fun i M2 => xL ev (io (eT ev) i) i M2 ∧ ∀ k, k < 13 ∨ 17 < k → M2 k = M k) (fun M2 => xL ev (io (eT ev) ne) ne M2 ∧ ∀ k, k < 13 ∨ 17 < k → M2 k = M k) (by
    intro M2 hI
    refine ⟨M2, hI, fun n hK => ?_⟩
    show f_X1_fillFrom_7 (n + 1) M2 s (nI ne) = _
    rw [f_X1_fillFrom_7, hI.2 s (by omega), h0, if_pos ((xz_le (by omega) (by omega)).mpr (Nat.le_refl _))]) (by
    intro i M2 hi hI
    obtain ⟨a1, a2, a3⟩ := hev i hi
    obtain ⟨M3, c1, c2, c3⟩ := x_insert (show i < 25 by omega) (fun e he => hE e (by omega)) hI.1
    refine ⟨M3, ⟨c2, fun k hk => by rw [c3 k hk]; exact hI.2 k hk⟩, fun n hK => ?_⟩
    show f_X1_fillFrom_7 (n + 1) M2 s (nI i) = f_X1_fillFrom_7 n _ s (nI (i + 1))
    rw [f_X1_fillFrom_7, hI.2 s (by omega), h0, if_neg (mt (xz_le (by omega) (by omega)).mp (by omega))]
    simp only [xz_ci (show i < 24 by omega) (show 24 ≤ 1000 by omega), xz_cl (show i < 2 ^ 31 by omega)]
    rw [hI.2 (s + 1) (by omega), hI.2 (s + 2) (by omega), hI.2 (s + 3) (by omega), a1, a2, a3, c1 n (by omega), xz_b1, nI_1]) ne 0 (xm_up M 13 0 0) (by omega) ⟨⟨xm_up_s _ _ _ _, fun k hk => absurd hk (Nat.not_lt_zero k)⟩, fun k hk => xm_up_r _ _ (by omega)⟩
  refine ⟨M', h1, fun n hn => ?_⟩
  unfold f_X1_fillFrom
  rw [xz_lt]
  exact h2 n (by omega)
/-- where an event is -/
theorem x_place (hne : ne ≤ 25) (h : xL ev (io (eT ev) ne) ne M) {q : Nat} (hq : q < ne) {n : Nat} (hn : 100 < n) : f_X1_placeOf n M (nI (io (eT ev) ne q)) = some (nI q, M) := by
  have key : ∀ d i n, i + d = ne → d < n → f_X1_placeOf_4 n M (nI (io (eT ev) ne q)) (nI (if q < i then q else 0)) (nI i) = some (nI q, M) := by
    intro d
    induction d with
    | zero =>
      intro i n hd hn
      obtain ⟨n, rfl⟩ : ∃ q, n = q + 1 := ⟨n - 1, by omega⟩
      rw [f_X1_placeOf_4, h.1, if_pos ((xz_le (by omega) (by omega)).mpr (by omega)), if_pos (by omega)]
    | succ d ih =>
      intro i n hd hn
      obtain ⟨n, rfl⟩ : ∃ q, n = q + 1 := ⟨n - 1, by omega⟩
      have lt := io_lt (eT ev) ne
      have l1 := lt i (by omega)
      have l2 := lt q hq
      have := ih (i + 1) n (by omega) (by omega)
      rw [f_X1_placeOf_4, h.1, if_neg (mt (xz_le (by omega) (by omega)).mp (by omega)), xz_ci (show i < 25 by omega) (by omega), xz_cl (by omega), (h.2 i (by omega)).1, nI_1]
      by_cases e : i = q
      · rw [if_pos (by rw [e])]
        rw [if_pos (by omega), ← e] at this
        rw [← e]
        exact this
      · rw [if_neg (fun g => e (io_inj (eT ev) ne i q (by omega) hq ((xz_e (by omega) (by omega)).mp g)))]
        have e2 : (if q < i + 1 then q else 0) = if q < i then q else 0 := by
          by_cases g : q < i
          · rw [if_pos g, if_pos (by omega)]
          · rw [if_neg g, if_neg (by omega)]
        rw [e2] at this
        exact this
  unfold f_X1_placeOf
  have := key ne 0 n (by omega) (by omega)
  rw [if_neg (Nat.not_lt_zero q)] at this
  exact this
end ORD
