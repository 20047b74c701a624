/-! FACTS of the list that a search tells: sums, places, windows -/
theorem io_stb (t : Nat → Nat) : ∀ i q, q + 1 < i → t (io t i q) = t (io t i (q + 1)) → io t i q < io t i (q + 1)
  | 0, q, h, _ => by omega
  | i + 1, q, h, he => by
    have hp := io_p_le t (io t i) i i
    have hlo := io_p_lo t (io t i) i i
    have hhi := io_p_hi t (io t i) i i
    rw [io] at he ⊢
    unfold io_i at he ⊢
    obtain ⟨p, hpp⟩ : ∃ p, p = io_p t (io t i) i i := ⟨_, rfl⟩
    rw [← hpp] at he hp hlo hhi ⊢
    by_cases c1 : q + 1 < p
    · rw [if_pos (show q < p by omega), if_pos c1] at he ⊢
      exact io_stb t i q (by omega) he
    · by_cases c2 : q + 1 = p
      · rw [if_pos (show q < p by omega), if_neg c1, if_pos c2] at he ⊢
        exact io_lt t i q (by omega)
      · by_cases c3 : q = p
        · rw [if_neg (show ¬ q < p by omega), if_pos c3, if_neg c1, if_neg c2] at he
          have := hhi (q + 1 - 1) (by omega) (by omega)
          omega
        · rw [if_neg (show ¬ q < p by omega), if_neg c3, if_neg c1, if_neg c2] at he ⊢
          obtain ⟨q', rfl⟩ : ∃ q', q = q' + 1 := ⟨q - 1, by omega⟩
          exact io_stb t i q' (by omega) he
/-- sums over the places -/
abbrev sm (f : Nat → Nat) (n : Nat) : Nat := io_c f (fun e => e) n
theorem sm_s (f : Nat → Nat) (n : Nat) : sm f (n + 1) = sm f n + f n := rfl
theorem sm_add (f g : Nat → Nat) : ∀ n, sm (fun s => f s + g s) n = sm f n + sm g n
  | 0 => rfl
  | n + 1 => by
    rw [sm_s, sm_s, sm_s, sm_add f g n]
    omega
theorem sm_0 : ∀ n, sm (fun _ => 0) n = 0
  | 0 => rfl
  | n + 1 => by rw [sm_s, sm_0 n]
theorem sm_cc {f g : Nat → Nat} : ∀ n, (∀ s, s < n → f s = g s) → sm f n = sm g n
  | 0, _ => rfl
  | n + 1, h => by rw [sm_s, sm_s, sm_cc n (fun s hs => h s (by omega)), h n (by omega)]
theorem sm_q (q : Nat) : ∀ n, sm (fun s => if q = s then 1 else 0) n = if q < n then 1 else 0
  | 0 => rfl
  | n + 1 => by
    rw [sm_s, sm_q q n]
    by_cases c1 : q < n
    · rw [if_pos c1, if_neg (by omega), if_pos (by omega)]
    · by_cases c2 : q = n
      · rw [if_neg c1, if_pos c2, if_pos (by omega)]
      · rw [if_neg c1, if_neg c2, if_neg (by omega)]
theorem sm_cn (a : Nat → Nat) (n : Nat) : ∀ e d, (∀ j, d ≤ j → j < d + e → a j < n) → sm (fun s => cn a s e d) n = e
  | 0, d, _ => sm_0 n
  | e + 1, d, h => by
    have h1 := sm_cn a n e (d + 1) (fun j j1 j2 => h j (by omega) (by omega))
    show sm (fun s => (if a d = s then 1 else 0) + cn a s e (d + 1)) n = e + 1
    rw [sm_add (fun s => if a d = s then 1 else 0), h1, sm_q, if_pos (h d (by omega) (by omega))]
    omega
theorem sm_sh (n e d : Nat) : ∀ (L : sG), (∀ x, x ∈ L → x.1 = true → ∀ j, d ≤ j → j < d + e → x.2 j < n) → sm (fun s => sh s e d L) n = nM L * e
  | [], _ => by
    show sm (fun _ => 0) n = 0 * e
    rw [sm_0, Nat.zero_mul]
  | x :: L, h => by
    have h1 := sm_sh n e d L (fun y hy => h y (List.mem_cons_of_mem _ hy))
    have h3 : nM (x :: L) = nM L + (if x.1 = true then 1 else 0) := List.countP_cons
    show sm (fun s => (if x.1 = true then cn x.2 s e d else 0) + sh s e d L) n = nM (x :: L) * e
    rw [sm_add (fun s => if x.1 = true then cn x.2 s e d else 0), h1, h3, Nat.add_mul]
    by_cases c : x.1 = true
    · have h2 := sm_cn x.2 n e d (h x List.mem_cons_self c)
      rw [if_pos c, Nat.one_mul, sm_cc (g := fun s => cn x.2 s e d) n (fun s _ => if_pos c), h2]
      omega
    · rw [if_neg c, Nat.zero_mul, sm_cc (g := fun _ => 0) n (fun s _ => if_neg c), sm_0]
      omega
section FG
variable {wn wn' su su' : (Nat → Nat) → Nat → Nat → Bool} {ba ba' : Nat → Nat → Bool} {ne : Nat}
/-- the places of a match are places -/
theorem s_lt : ∀ (e d : Nat) (a : Nat → Nat) (q : Nat) (x : Bool × (Nat → Nat)), x ∈ s_child wn su ba ne e d a q → x.1 = true → (∀ j, j ≤ d → a j < ne) → ∀ j, j < d + e + 1 → x.2 j < ne
  | 0, d, a, q, x, h, _, ha, j, hj => by
    have h : x ∈ [(true, a)] := h
    rw [List.mem_singleton] at h
    rw [h]
    exact ha j (by omega)
  | e + 1, d, a, q, x, h, ht, ha, j, hj => by
    rcases List.mem_cons.mp h with h | h
    · rw [h] at ht
      cases ht
    · obtain ⟨q', h1, h2, h3⟩ := s_mem _ _ h
      refine s_lt e (d + 1) _ q' x h3 ht (fun i hi => ?_) j (by omega)
      show (if i = d + 1 then q' else a i) < ne
      split
      · omega
      · exact ha i (by omega)
/-- a greater window brings no fewer matches -/
theorem s_mono1 {ch ch' : (Nat → Nat) → Nat → sG} {d : Nat} (hw : ∀ a d q, wn a d q = true → wn' a d q = true) (hc : ∀ a q, nM (ch a q) ≤ nM (ch' a q)) (at0 : Nat → Nat) : ∀ (k q : Nat), nM (s_loop wn su ba ch d at0 k q) ≤ nM (s_loop wn' su ba ch' d at0 k q)
  | 0, q => Nat.le_refl _
  | k + 1, q => by
    have h1 := s_mono1 (d := d) hw hc at0 k (q + 1)
    rw [s_loop, s_loop]
    by_cases c : wn at0 d q = true
    · rw [if_pos c, if_pos (hw _ _ _ c), nM_app, nM_app]
      have h2 : nM (if su at0 d q = true then ch (sp at0 d q) q else []) ≤ nM (if su at0 d q = true then ch' (sp at0 d q) q else []) := by
        split
        · exact hc _ _
        · exact Nat.le_refl _
      have h3 : nM (if ba d q = true then [] else s_loop wn su ba ch d at0 k (q + 1)) ≤ nM (if ba d q = true then [] else s_loop wn' su ba ch' d at0 k (q + 1)) := by
        split
        · exact Nat.le_refl _
        · exact h1
      omega
    · rw [if_neg c]
      exact Nat.zero_le _
theorem s_mono (hw : ∀ a d q, wn a d q = true → wn' a d q = true) : ∀ (e d : Nat) (a : Nat → Nat) (q : Nat), nM (s_child wn su ba ne e d a q) ≤ nM (s_child wn' su ba ne e d a q)
  | 0, d, a, q => Nat.le_refl _
  | e + 1, d, a, q => s_mono1 (d := d + 1) hw (s_mono hw e (d + 1)) a (ne - (q + 1)) (q + 1)
/-- alike questions bring alike lists -/
theorem s_alike1 {ch ch' : (Nat → Nat) → Nat → sG} {d : Nat} (h1 : ∀ a q, wn a d q = wn' a d q) (h2 : ∀ a q, su a d q = su' a d q) (h3 : ∀ q, ba d q = ba' d q) (hc : ∀ a q, ch a q = ch' a q) (at0 : Nat → Nat) : ∀ (k q : Nat), s_loop wn su ba ch d at0 k q = s_loop wn' su' ba' ch' d at0 k q
  | 0, q => rfl
  | k + 1, q => by rw [s_loop, s_loop, h1, h2, h3, hc, s_alike1 h1 h2 h3 hc at0 k (q + 1)]
theorem s_alike {pl : Nat} (h1 : ∀ d, d < pl → ∀ a q, wn a d q = wn' a d q) (h2 : ∀ d, d < pl → ∀ a q, su a d q = su' a d q) (h3 : ∀ d, d < pl → ∀ q, ba d q = ba' d q) : ∀ (e d : Nat) (a : Nat → Nat) (q : Nat), d + e < pl → s_child wn su ba ne e d a q = s_child wn' su' ba' ne e d a q
  | 0, d, a, q, _ => rfl
  | e + 1, d, a, q, hd => congrArg (fun z => (false, a) :: z) (s_alike1 (h1 _ (by omega)) (h2 _ (by omega)) (h3 _ (by omega)) (fun a q => s_alike h1 h2 h3 e (d + 1) a q (by omega)) a (ne - (q + 1)) (q + 1))
end FG
section FP
variable {ev : Nat → Nat × Nat × Nat} {ne np : Nat} {P : xa_P} {Ps : Nat → xa_P}
theorem PL_lt (hP : xa_WP P) {x : Bool × (Nat → Nat)} (h : x ∈ PL ev ne P) (ht : x.1 = true) {j : Nat} (hj : j < P.1.2.2.2) : x.2 j < ne := by
  have p1 := hP.2.2.2.2.2.2.1.1
  obtain ⟨q', h1, h2, h3⟩ := s_mem _ _ h
  refine s_lt (P.1.2.2.2 - 1) 0 _ q' x h3 ht (fun i hi => ?_) j (by omega)
  show (if i = 0 then q' else 0) < ne
  rw [if_pos (by omega)]
  omega
theorem sm_allS (hP : ∀ j, j < np → xa_WP (Ps j)) : ∀ j, j ≤ np → sm (fun s => allS ev ne Ps s j) ne = io_c (fun i => nM (PL ev ne (Ps i)) * (Ps i).1.2.2.2) (fun e => e) j
  | 0, _ => sm_0 ne
  | j + 1, hj => by
    have h1 := sm_allS hP j (by omega)
    show sm (fun s => allS ev ne Ps s j + sh s (Ps j).1.2.2.2 0 (PL ev ne (Ps j))) ne = _
    rw [sm_add (fun s => allS ev ne Ps s j), h1, sm_sh ne _ 0 _ (fun x hx ht j2 _ h3 => PL_lt (hP j (by omega)) hx ht (by omega))]
    rfl
theorem mL_mem {L : sG} {rk : Nat} {a : Nat → Nat} (h : (mL L)[rk]? = some a) : (true, a) ∈ L := by
  have h1 := List.mem_of_getElem? h
  unfold mL at h1
  obtain ⟨x, hx, rfl⟩ := List.mem_map.mp h1
  obtain ⟨h2, h3⟩ := List.mem_filter.mp hx
  obtain ⟨b, f⟩ := x
  have h3 : b = true := h3
  subst h3
  exact h2
/-- what match tells -/
theorem matV_no {A : xa_S} {j rk ix : Nat} (h : nM (PL A.2.1 A.1.1 (A.2.2 j)) ≤ rk) : matV A j rk ix = -5 := by
  unfold matV
  rw [List.getElem?_eq_none (by rw [mL_len]; exact h)]
theorem matV_yes {A : xa_S} {j rk ix : Nat} (hP : xa_WP (A.2.2 j)) (hx : ix < (A.2.2 j).1.2.2.2) (h : rk < nM (PL A.2.1 A.1.1 (A.2.2 j))) : ∃ e, e < A.1.1 ∧ matV A j rk ix = nI e := by
  have hl : rk < (mL (PL A.2.1 A.1.1 (A.2.2 j))).length := by rw [mL_len]; exact h
  obtain ⟨a, ha⟩ : ∃ a, (mL (PL A.2.1 A.1.1 (A.2.2 j)))[rk]? = some a := ⟨_, List.getElem?_eq_getElem hl⟩
  refine ⟨pO A.2.1 A.1.1 (a ix), io_lt (eT A.2.1) A.1.1 (a ix) (PL_lt (x := (true, a)) hP (mL_mem ha) rfl hx), ?_⟩
  unfold matV
  rw [ha]
/-- windows -/
theorem PL_mono {w : Nat} (h : P.1.1 ≤ w) : nM (PL ev ne P) ≤ nM (PL ev ne ((w, P.1.2), P.2)) := by
  have hw : ∀ a d q, wnP ev ne P.1.1 a d q = true → wnP ev ne w a d q = true := fun a d q t => by
    have t := of_decide_eq_true (p := d = 0 ∨ pTm ev ne q ≤ pTm ev ne (a 0) + P.1.1) t
    refine decide_eq_true (p := d = 0 ∨ pTm ev ne q ≤ pTm ev ne (a 0) + w) ?_
    omega
  exact s_mono1 hw (s_mono hw (P.1.2.2.2 - 1) 0) _ _ _
end FP
