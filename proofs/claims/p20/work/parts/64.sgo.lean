/-! LAYER 2: the class's search tells that list -/
def wnP (ev : Nat → Nat × Nat × Nat) (ne w : Nat) (at0 : Nat → Nat) (d q : Nat) : Bool := decide (d = 0 ∨ pTm ev ne q ≤ pTm ev ne (at0 0) + w)
def suP (ev : Nat → Nat × Nat × Nat) (ne : Nat) (kd : Nat → Nat) (ru : Nat) (at0 : Nat → Nat) (d q : Nat) : Bool := decide (pKd ev ne q = kd d) && (decide (d = 0) || rO ru (pVl ev ne (at0 (d - 1))) (pVl ev ne q))
def baP (ev : Nat → Nat × Nat × Nat) (ne : Nat) (br : Nat → Nat) (d q : Nat) : Bool := decide (pKd ev ne q = br d)
abbrev sC (ev : Nat → Nat × Nat × Nat) (ne : Nat) (kd br : Nat → Nat) (w ru : Nat) : Nat → Nat → (Nat → Nat) → Nat → sG := s_child (wnP ev ne w) (suP ev ne kd ru) (baP ev ne br) ne
abbrev sL (ev : Nat → Nat × Nat × Nat) (ne : Nat) (kd br : Nat → Nat) (w ru e d : Nat) (at0 : Nat → Nat) (k q : Nat) : sG := s_loop (wnP ev ne w) (suP ev ne kd ru) (baP ev ne br) (sC ev ne kd br w ru e d) d at0 k q
section GEN
variable {wn su : (Nat → Nat) → Nat → Nat → Bool} {ba : Nat → Nat → Bool} {ch : (Nat → Nat) → Nat → sG} {d ne : Nat} {at0 : Nat → Nat}
theorem s_mem {x : Bool × (Nat → Nat)} : ∀ (k q : Nat), x ∈ s_loop wn su ba ch d at0 k q → ∃ q', q ≤ q' ∧ q' < q + k ∧ x ∈ ch (sp at0 d q') q'
  | 0, q, h => by cases h
  | k + 1, q, h => by
    rw [s_loop] at h
    split at h
    · rcases List.mem_append.mp h with h | h
      · split at h
        · exact ⟨q, Nat.le_refl _, by omega, h⟩
        · cases h
      · split at h
        · cases h
        · obtain ⟨q', a1, a2, a3⟩ := s_mem k (q + 1) h
          exact ⟨q', by omega, by omega, a3⟩
    · cases h
def LB : Nat → Nat
  | 0 => 1
  | e + 1 => 1 + 25 * LB e
theorem s_loop_len {B : Nat} (hB : ∀ a q, (ch a q).length ≤ B) : ∀ (k q : Nat), (s_loop wn su ba ch d at0 k q).length ≤ k * B
  | 0, q => Nat.zero_le _
  | k + 1, q => by
    have h1 := s_loop_len hB k (q + 1)
    have h2 := hB (sp at0 d q) q
    have h3 : (k + 1) * B = k * B + B := Nat.succ_mul k B
    rw [s_loop]
    split
    · rw [List.length_append]
      have a1 : (if su at0 d q = true then ch (sp at0 d q) q else []).length ≤ B := by
        split
        · exact h2
        · exact Nat.zero_le _
      have a2 : (if ba d q = true then [] else s_loop wn su ba ch d at0 k (q + 1)).length ≤ k * B := by
        split
        · exact Nat.zero_le _
        · exact h1
      omega
    · exact Nat.zero_le _
theorem s_child_len (hne : ne ≤ 25) : ∀ (e d : Nat) (a : Nat → Nat) (q : Nat), (s_child wn su ba ne e d a q).length ≤ LB e
  | 0, d, a, q => Nat.le_refl _
  | e + 1, d, a, q => by
    have h := s_loop_len (wn := wn) (su := su) (ba := ba) (d := d + 1) (at0 := a) (s_child_len hne e (d + 1)) (ne - (q + 1)) (q + 1)
    have h2 : (ne - (q + 1)) * LB e ≤ 25 * LB e := Nat.mul_le_mul_right _ (by omega)
    show (s_loop _ _ _ _ _ _ _ _).length + 1 ≤ 1 + 25 * LB e
    omega
theorem s_pre : ∀ (e d : Nat) (a : Nat → Nat) (q : Nat) (x : Bool × (Nat → Nat)), x ∈ s_child wn su ba ne e d a q → ∀ j, j ≤ d → x.2 j = a j
  | 0, d, a, q, x, h, j, hj => by
    have h : x ∈ [(true, a)] := h
    rw [List.mem_singleton] at h
    rw [h]
  | e + 1, d, a, q, x, h, j, hj => by
    rcases List.mem_cons.mp h with h | h
    · rw [h]
    · obtain ⟨q', -, -, h3⟩ := s_mem _ _ h
      rw [s_pre e (d + 1) _ q' x h3 j (by omega)]
      exact if_neg (by omega)
theorem sh_split {q s e : Nat} : ∀ (G : sG), (∀ x, x ∈ G → x.2 d = q) → sh s (e + 1) d G = sh s e (d + 1) G + (if q = s then nM G else 0)
  | [], _ => by split <;> rfl
  | x :: G, h => by
    have h1 := sh_split (s := s) (e := e) G (fun y hy => h y (List.mem_cons_of_mem _ hy))
    have h2 : x.2 d = q := h x List.mem_cons_self
    have h3 : nM (x :: G) = nM G + (if x.1 = true then 1 else 0) := List.countP_cons
    show (if x.1 = true then (if x.2 d = s then 1 else 0) + cn x.2 s e (d + 1) else 0) + sh s (e + 1) d G = (if x.1 = true then cn x.2 s e (d + 1) else 0) + sh s e (d + 1) G + _
    rw [h1, h2, h3]
    by_cases c1 : x.1 = true <;> by_cases c2 : q = s <;> simp [c1, c2] <;> omega
end GEN
section GO
variable {ev : Nat → Nat × Nat × Nat} {ne : Nat} {kd br : Nat → Nat} {pl w ru p nw wm : Nat} {M M' : xm_M} {at0 : Nat → Nat} {wr : Option (Nat × Nat)} {d q : Nat} {L : sG}
def s_post (ev : Nat → Nat × Nat × Nat) (ne : Nat) (kd br : Nat → Nat) (pl w ru nw wm : Nat) (wr : Option (Nat × Nat)) (e d k q : Nat) (M : xm_M) (at0 : Nat → Nat) (L : sG) : Prop := ∃ M', (∀ n, k + 2 + 30 * e ≤ n → ∀ x3, f_X3_walkFrom_S n 1 M (nI d) x3 (nI q) = some (x3 + nI (nM (sL ev ne kd br w ru e d at0 k q)), M')) ∧ dL (pO ev ne) (pTm ev ne) pl w nw wm wr (L ++ sL ev ne kd br w ru e d at0 k q) M' ∧ fX M M' ∧ (∀ j, j < d → M' 11 j = M 11 j) ∧ ∀ s, s < ne → M' 12 s = M 12 s + nI (sh s (e + 1) d (sL ev ne kd br w ru e d at0 k q))
def s_ask (ev : Nat → Nat × Nat × Nat) (ne : Nat) (kd br : Nat → Nat) (pl w ru nw wm : Nat) (wr : Option (Nat × Nat)) (e d k q : Nat) (M : xm_M) (at0 : Nat → Nat) (L : sG) : Prop := sX ev ne kd br pl w ru M → M 8 1 = nI nw → M 8 2 = nI wm → dL (pO ev ne) (pTm ev ne) pl w nw wm wr L M → (∀ j, j < d → M 11 j = nI (at0 j) ∧ at0 j < ne) → L.length + k * LB e < 2 ^ 30 → s_post ev ne kd br pl w ru nw wm wr e d k q M at0 L
/-- a place that fits -/
theorem s_place (hW : sW ev ne kd br pl w ru p) (hnw : nw ≤ 9999) (hwm : wm ≤ 9999) {e : Nat} (hd : d + e + 1 = pl) (hq : q < ne) (ih : ∀ e', e = e' + 1 → ∀ M at0 L, s_ask ev ne kd br pl w ru nw wm wr e' (d + 1) (ne - (q + 1)) (q + 1) M at0 L) (hX : sX ev ne kd br pl w ru M) (h1 : M 8 1 = nI nw) (h2 : M 8 2 = nI wm) (hD : dL (pO ev ne) (pTm ev ne) pl w nw wm wr L M) (ha : ∀ j, j < d → M 11 j = nI (at0 j) ∧ at0 j < ne) (hL : L.length + LB e < 2 ^ 30) (hwin : wnP ev ne w at0 d q = true) (hsu : suP ev ne kd ru at0 d q = true) : ∃ M', (∀ n, 30 * e + 1 ≤ n → ∀ x3, f_X3_walkFrom_S (n + 1) 1 M (nI d) x3 (nI q) = if pKd ev ne q = br d then some (x3 + nI (nM (sC ev ne kd br w ru e d (sp at0 d q) q)), M') else f_X3_walkFrom_S n 1 M' (nI d) (x3 + nI (nM (sC ev ne kd br w ru e d (sp at0 d q) q))) (nI (q + 1))) ∧ dL (pO ev ne) (pTm ev ne) pl w nw wm wr (L ++ sC ev ne kd br w ru e d (sp at0 d q) q) M' ∧ fX M M' ∧ (∀ j, j < d → M' 11 j = M 11 j) ∧ ∀ s, s < ne → M' 12 s = M 12 s + nI (sh s (e + 1) d (sC ev ne kd br w ru e d (sp at0 d q) q)) := by
  have h25 := hW.1
  have h4 := hW.2.2.2.2.2.2.1
  obtain ⟨at1, hat⟩ : ∃ at1 : Nat → Nat, at1 = sp at0 d q := ⟨_, rfl⟩
  rw [← hat]
  have at_d : at1 d = q := by rw [hat]; exact if_pos rfl
  have at_j : ∀ j, j < d → at1 j = at0 j := fun j hj => by rw [hat]; exact if_neg (by omega)
  have fX0 : fX M (xm_up M 11 d (nI q)) := ⟨fun k _ k11 _ => xm_up_r _ _ k11, fun j _ _ _ _ => xm_up_k _ _ (by omega)⟩
  have hX0 := hX.f fX0
  have hD0 : dL (pO ev ne) (pTm ev ne) pl w nw wm wr L (xm_up M 11 d (nI q)) := by
    obtain ⟨d1, d2, d3, d4⟩ := hD
    refine ⟨by rw [xm_up_k _ _ (by omega)]; exact d1, by rw [xm_up_k _ _ (by omega)]; exact d2, by rw [xm_up_k _ _ (by omega)]; exact d3, ?_⟩
    cases wr with
    | none => show xm_up M 11 d _ 8 3 = -1; rw [xm_up_k _ _ (by omega)]; exact d4
    | some ri =>
      obtain ⟨w1, w2, w3, w4, w5⟩ := d4
      exact ⟨by rw [xm_up_k _ _ (by omega)]; exact w1, by rw [xm_up_k _ _ (by omega)]; exact w2, w3, w4, by rw [xm_up_k _ _ (by omega)]; exact w5⟩
  have ha1 : ∀ j, j < d + 1 → xm_up M 11 d (nI q) 11 j = nI (at1 j) ∧ at1 j < ne := fun j hj => by
    by_cases e : j = d
    · rw [e, at_d, xm_up_s]; exact ⟨rfl, hq⟩
    · rw [at_j j (by omega), xm_up_j _ _ e]; exact ha j (by omega)
  have hsu2 : (decide (pKd ev ne q = kd d) && (decide (d = 0) || rO ru (pVl ev ne (at0 (d - 1))) (pVl ev ne q))) = true := hsu
  have hwin2 : decide (d = 0 ∨ pTm ev ne q ≤ pTm ev ne (at0 0) + w) = true := hwin
  have head : ∀ (r : Nat) (M16 M19 : xm_M) (K : Nat), (∀ n, f_X3_tellBranch n (xm_up M 11 d (nI q)) (nI d) = some M16) → (∀ n, K ≤ n → f_X3_walkFrom_S n 0 M16 (nI (d + 1)) 0 0 = some (nI r, M19)) → fX M M19 → ∀ n, K ≤ n → ∀ x3, f_X3_walkFrom_S (n + 1) 1 M (nI d) x3 (nI q) = if pKd ev ne q = br d then some (x3 + nI r, xm_up M19 12 q (M19 12 q + nI r)) else f_X3_walkFrom_S n 1 (xm_up M19 12 q (M19 12 q + nI r)) (nI d) (x3 + nI r) (nI (q + 1)) := by
    intro r M16 M19 K g1 g2 g3 n hn x3
    have sx : sX ev ne kd br pl w ru (xm_up M19 12 q (M19 12 q + nI r)) := (hX.f g3).f ⟨fun k _ _ k12 => xm_up_r _ _ k12, fun j _ _ _ _ => xm_up_k _ _ (by omega)⟩
    have bar := x_bar hW sx (show d < pl by omega) hq
    rw [f_X3_walkFrom_S, hX.1.1, if_neg (mt (xz_le (by omega) (by omega)).mp (by omega)), x_win (at0 := at0) hW hX (show d < 4 by omega) (fun t => ha 0 t) hq, xz_b2, hwin2, tb_t, if_neg xz_10, x_suits (at0 := at0) hW hX (show d < pl by omega) (fun t => ha (d - 1) (by omega)) hq, xz_b2, hsu2, tb_t, if_neg xz_10, xz_ci (show d < 4 by omega) (by omega), xz_lt, xz_cl (show d < 2 ^ 31 by omega), g1, xz_b1, nI_1, g2 n hn, xz_b2, xz_ci (show q < 25 by omega) (by omega), xz_ci (show q < 25 by omega) (by omega), xz_lt, xz_ci (show q < 25 by omega) (by omega), xz_ci (show d < 4 by omega) (by omega), xz_cl (show q < 2 ^ 31 by omega), nI_1]
    by_cases b : pKd ev ne q = br d
    · rw [if_pos (bar.mpr b), if_pos b]
    · rw [if_neg (mt bar.mp b), if_neg b]
  have shr : ∀ (G : sG) (M16 M19 : xm_M), (∀ x, x ∈ G → x.2 d = q) → (∀ s, s < ne → M16 12 s = M 12 s) → (∀ s, s < ne → M19 12 s = M16 12 s + nI (sh s e (d + 1) G)) → ∀ s, s < ne → xm_up M19 12 q (M19 12 q + nI (nM G)) 12 s = M 12 s + nI (sh s (e + 1) d G) := by
    intro G M16 M19 g0 g1 g2 s hs
    rw [sh_split G g0]
    by_cases e : q = s
    · rw [if_pos e, ← e, xm_up_s, e, g2 s hs, g1 s hs]
      exact xz_2 _ _ _ _ rfl
    · rw [if_neg e, xm_up_j _ _ (fun t => e t.symm), g2 s hs, g1 s hs]
      rfl
  have dl12 : ∀ {G : sG} {M19 : xm_M} (v : Int32), dL (pO ev ne) (pTm ev ne) pl w nw wm wr G M19 → dL (pO ev ne) (pTm ev ne) pl w nw wm wr G (xm_up M19 12 q v) := by
    intro G M19 v hD
    obtain ⟨d1, d2, d3, d4⟩ := hD
    refine ⟨by rw [xm_up_k _ _ (by omega)]; exact d1, by rw [xm_up_k _ _ (by omega)]; exact d2, by rw [xm_up_k _ _ (by omega)]; exact d3, ?_⟩
    cases wr with
    | none => show xm_up M19 12 q _ 8 3 = -1; rw [xm_up_k _ _ (by omega)]; exact d4
    | some ri =>
      obtain ⟨w1, w2, w3, w4, w5⟩ := d4
      exact ⟨by rw [xm_up_k _ _ (by omega)]; exact w1, by rw [xm_up_k _ _ (by omega)]; exact w2, w3, w4, by rw [xm_up_k _ _ (by omega)]; exact w5⟩
  cases e with
  | zero =>
    have hd1 : d + 1 = pl := by omega
    have hL : L.length + 1 < 2 ^ 30 := hL
    obtain ⟨M2, c1, c2, c3, c4, c5⟩ := s_match (a := at1) hW hX0 (by rw [xm_up_k _ _ (by omega)]; exact h2) hwm hD0 (by omega) (fun j hj => ha1 j (by omega))
    refine ⟨_, head 1 (xm_up M 11 d (nI q)) M2 1 (fun n => x_br1 hX0 h4 hd1) (fun n hn => ?_) (fX0.tr c3), dl12 _ c2, fX0.tr (c3.tr ⟨fun k _ _ k12 => xm_up_r _ _ k12, fun j _ _ _ _ => xm_up_k _ _ (by omega)⟩), fun j hj => by rw [xm_up_k _ _ (by omega), c4, xm_up_j _ _ (by omega)], ?_⟩
    · obtain ⟨n, rfl⟩ : ∃ q, n = q + 1 := ⟨n - 1, by omega⟩
      rw [f_X3_walkFrom_S, hX0.2.1.1, if_pos ((xz_le (by omega) (by omega)).mpr (by omega)), c1, xz_b1]
      rfl
    · exact shr [(true, at1)] M M2 (fun x hx => by rw [List.mem_singleton] at hx; rw [hx]; exact at_d) (fun _ _ => rfl) (fun s hs => by rw [c5, xm_up_k _ _ (by omega)]; exact (xz_a0 _).symm)
  | succ e =>
    have hd1 : d + 1 < pl := by omega
    have hL : L.length + (1 + 25 * LB e) < 2 ^ 30 := hL
    have le1 : (ne - (q + 1)) * LB e ≤ 25 * LB e := Nat.mul_le_mul_right _ (by omega)
    obtain ⟨M16, b1, b2, b3, b4, b5⟩ := s_branch (a := at1) hW hX0 (by rw [xm_up_k _ _ (by omega)]; exact h1) hnw hD0 hd1 (ha1 0 (by omega)).1 (ha1 0 (by omega)).2
    have x1 : fX M M16 := fX0.tr b3
    obtain ⟨M19, g2, g3, g4, g5, g6⟩ := ih e rfl M16 at1 (L ++ [(false, at1)]) (hX.f x1) (by rw [x1.2 1 (by omega) (by omega) (by omega) (by omega)]; exact h1) (by rw [x1.2 2 (by omega) (by omega) (by omega) (by omega)]; exact h2) b2 (fun j hj => by rw [b4]; exact ha1 j hj) (by rw [List.length_append]; show L.length + 1 + _ < _; omega)
    have eG : sC ev ne kd br w ru (e + 1) d at1 q = (false, at1) :: sL ev ne kd br w ru e (d + 1) at1 (ne - (q + 1)) (q + 1) := rfl
    have eM : nM (sC ev ne kd br w ru (e + 1) d at1 q) = nM (sL ev ne kd br w ru e (d + 1) at1 (ne - (q + 1)) (q + 1)) := by rw [eG]; rfl
    refine ⟨xm_up M19 12 q (M19 12 q + nI (nM (sC ev ne kd br w ru (e + 1) d at1 q))), fun n hn => head _ M16 M19 (30 * (e + 1) + 1) b1 (fun n hn => ?_) (x1.tr g4) n hn, dl12 _ (by rw [eG]; rw [List.append_assoc] at g3; exact g3), x1.tr (g4.tr ⟨fun k _ _ k12 => xm_up_r _ _ k12, fun j _ _ _ _ => xm_up_k _ _ (by omega)⟩), fun j hj => by rw [xm_up_k _ _ (by omega), g5 j (by omega), b4, xm_up_j _ _ (by omega)], ?_⟩
    · obtain ⟨n, rfl⟩ : ∃ q, n = q + 1 := ⟨n - 1, by omega⟩
      have sx16 := hX.f x1
      have gg := g2 n (by omega) 0
      rw [f_X3_walkFrom_S, sx16.2.1.1, if_neg (mt (xz_le (by omega) (by omega)).mp (by omega)), if_pos ((xz_ltc (c := 4) 4 rfl (by omega) (by omega)).mpr (by omega)), if_neg (mt (xz_ec (c := 0) 0 rfl (by omega) (by omega)).mp (by omega)), nI_pred, xz_ci (show d < 4 by omega) (by omega), xz_cl (by omega), b4, xm_up_s, nI_1, gg, Int32.zero_add, eM]
    · refine shr (sC ev ne kd br w ru (e + 1) d at1 q) M16 M19 (fun x hx => by rw [s_pre (e + 1) d at1 q x hx d (Nat.le_refl _)]; exact at_d) (fun s hs => by rw [b5, xm_up_k _ _ (by omega)]) (fun s hs => ?_)
      rw [g6 s hs, eG]
      show _ = _ + nI (0 + sh s (e + 1) (d + 1) _)
      rw [Nat.zero_add]
/-- the loop over the places -/
theorem s_go1 (hW : sW ev ne kd br pl w ru p) (hnw : nw ≤ 9999) (hwm : wm ≤ 9999) {e d : Nat} (hd : d + e + 1 = pl) (ih : ∀ e', e = e' + 1 → ∀ q, q < ne → ∀ M at0 L, s_ask ev ne kd br pl w ru nw wm wr e' (d + 1) (ne - (q + 1)) (q + 1) M at0 L) : ∀ (k q : Nat), q + k = ne → ∀ M at0 L, s_ask ev ne kd br pl w ru nw wm wr e d k q M at0 L
  | 0, q, hk, M, at0, L, hX, h1, h2, hD, ha, hL => by
    have h25 := hW.1
    have eL : L ++ sL ev ne kd br w ru e d at0 0 q = L := List.append_nil L
    refine ⟨M, fun n hn x3 => ?_, by rw [eL]; exact hD, fX.rf M, fun j hj => rfl, fun s hs => (xz_a0 _).symm⟩
    obtain ⟨n, rfl⟩ : ∃ q, n = q + 1 := ⟨n - 1, by omega⟩
    rw [f_X3_walkFrom_S, hX.1.1, if_pos ((xz_le (by omega) (by omega)).mpr (by omega))]
    exact congrArg (fun z => some (z, M)) (xz_a0 x3).symm
  | k + 1, q, hk, M, at0, L, hX, h1, h2, hD, ha, hL => by
    have h25 := hW.1
    have h4 := hW.2.2.2.2.2.2.1
    have hq : q < ne := by omega
    have bar := x_bar hW hX (show d < pl by omega) hq
    have win := fun n => x_win (at0 := at0) hW hX (show d < 4 by omega) (fun t => ha 0 t) hq (n := n)
    have su := fun n => x_suits (at0 := at0) hW hX (show d < pl by omega) (fun t => ha (d - 1) (by omega)) hq (n := n)
    have pbs : (k + 1) * LB e = k * LB e + LB e := Nat.succ_mul k (LB e)
    by_cases hwin : wnP ev ne w at0 d q = true
    · by_cases hsu : suP ev ne kd ru at0 d q = true
      · obtain ⟨M1, a2, a3, a4, a5, a6⟩ := s_place hW hnw hwm hd hq (fun e' he => ih e' he q hq) hX h1 h2 hD ha (by omega) hwin hsu
        by_cases b : pKd ev ne q = br d
        · have eL : sL ev ne kd br w ru e d at0 (k + 1) q = sC ev ne kd br w ru e d (sp at0 d q) q := by
            show s_loop _ _ _ _ _ _ (k + 1) q = _
            rw [s_loop, if_pos hwin, if_pos hsu, if_pos (show baP ev ne br d q = true from decide_eq_true b), List.append_nil]
          unfold s_post
          rw [eL]
          refine ⟨M1, fun n hn x3 => ?_, a3, a4, a5, a6⟩
          obtain ⟨n, rfl⟩ : ∃ q, n = q + 1 := ⟨n - 1, by omega⟩
          rw [a2 n (by omega) x3, if_pos b]
        · have eL : sL ev ne kd br w ru e d at0 (k + 1) q = sC ev ne kd br w ru e d (sp at0 d q) q ++ sL ev ne kd br w ru e d at0 k (q + 1) := by
            show s_loop _ _ _ _ _ _ (k + 1) q = _
            rw [s_loop, if_pos hwin, if_pos hsu, if_neg (show ¬ baP ev ne br d q = true from fun z => b (of_decide_eq_true z))]
          have hlen := s_child_len (wn := wnP ev ne w) (su := suP ev ne kd ru) (ba := baP ev ne br) h25 e d (sp at0 d q) q
          obtain ⟨M2, b2, b3, b4, b5, b6⟩ := s_go1 hW hnw hwm hd ih k (q + 1) (by omega) M1 at0 (L ++ sC ev ne kd br w ru e d (sp at0 d q) q) (hX.f a4) (by rw [a4.2 1 (by omega) (by omega) (by omega) (by omega)]; exact h1) (by rw [a4.2 2 (by omega) (by omega) (by omega) (by omega)]; exact h2) a3 (fun j hj => by rw [a5 j hj]; exact ha j hj) (by rw [List.length_append]; have : (sC ev ne kd br w ru e d (sp at0 d q) q).length ≤ LB e := hlen; omega)
          unfold s_post
          rw [eL]
          refine ⟨M2, fun n hn x3 => ?_, by rw [← List.append_assoc]; exact b3, a4.tr b4, fun j hj => (b5 j hj).trans (a5 j hj), fun s hs => ?_⟩
          · obtain ⟨n, rfl⟩ : ∃ q, n = q + 1 := ⟨n - 1, by omega⟩
            rw [a2 n (by omega) x3, if_neg b, b2 n (by omega)]
            exact congrArg (fun z => some (z, M2)) (xz_2 _ _ _ _ (nM_app _ _))
          · rw [b6 s hs, a6 s hs]
            exact xz_2 _ _ _ _ (sh_app _ _ _ _ _)
      · have hs2 : (decide (pKd ev ne q = kd d) && (decide (d = 0) || rO ru (pVl ev ne (at0 (d - 1))) (pVl ev ne q))) = false := Bool.not_eq_true _ ▸ (fun z => hsu z)
        have hx : ∀ n x3, f_X3_walkFrom_S (n + 1) 1 M (nI d) x3 (nI q) = if pKd ev ne q = br d then some (x3, M) else f_X3_walkFrom_S n 1 M (nI d) x3 (nI (q + 1)) := by
          intro n x3
          have hwin2 : decide (d = 0 ∨ pTm ev ne q ≤ pTm ev ne (at0 0) + w) = true := hwin
          rw [f_X3_walkFrom_S, hX.1.1, if_neg (mt (xz_le (by omega) (by omega)).mp (by omega)), win, xz_b2, hwin2, tb_t, if_neg xz_10, su, xz_b2, hs2, tb_f, if_pos rfl, xz_ci (show q < 25 by omega) (by omega), xz_ci (show d < 4 by omega) (by omega), xz_cl (show q < 2 ^ 31 by omega), xz_cl (show d < 2 ^ 31 by omega), nI_1]
          by_cases b : pKd ev ne q = br d
          · rw [if_pos (bar.mpr b), if_pos b]
          · rw [if_neg (mt bar.mp b), if_neg b]
        by_cases b : pKd ev ne q = br d
        · have eL : sL ev ne kd br w ru e d at0 (k + 1) q = [] := by
            show s_loop _ _ _ _ _ _ (k + 1) q = _
            rw [s_loop, if_pos hwin, if_neg hsu, if_pos (show baP ev ne br d q = true from decide_eq_true b)]
            rfl
          unfold s_post
          rw [eL]
          refine ⟨M, fun n hn x3 => ?_, by rw [List.append_nil]; exact hD, fX.rf M, fun j hj => rfl, fun s hs => (xz_a0 _).symm⟩
          obtain ⟨n, rfl⟩ : ∃ q, n = q + 1 := ⟨n - 1, by omega⟩
          rw [hx, if_pos b]
          exact congrArg (fun z => some (z, M)) (xz_a0 x3).symm
        · have eL : sL ev ne kd br w ru e d at0 (k + 1) q = sL ev ne kd br w ru e d at0 k (q + 1) := by
            show s_loop _ _ _ _ _ _ (k + 1) q = _
            rw [s_loop, if_pos hwin, if_neg hsu, if_neg (show ¬ baP ev ne br d q = true from fun z => b (of_decide_eq_true z)), List.nil_append]
          obtain ⟨M2, b2, b3, b4, b5, b6⟩ := s_go1 hW hnw hwm hd ih k (q + 1) (by omega) M at0 L hX h1 h2 hD ha (by omega)
          unfold s_post
          rw [eL]
          refine ⟨M2, fun n hn x3 => ?_, b3, b4, b5, b6⟩
          obtain ⟨n, rfl⟩ : ∃ q, n = q + 1 := ⟨n - 1, by omega⟩
          rw [hx, if_neg b, b2 n (by omega)]
    · have eL : sL ev ne kd br w ru e d at0 (k + 1) q = [] := by
        show s_loop _ _ _ _ _ _ (k + 1) q = _
        rw [s_loop, if_neg hwin]
      unfold s_post
      rw [eL]
      refine ⟨M, fun n hn x3 => ?_, by rw [List.append_nil]; exact hD, fX.rf M, fun j hj => rfl, fun s hs => (xz_a0 _).symm⟩
      obtain ⟨n, rfl⟩ : ∃ q, n = q + 1 := ⟨n - 1, by omega⟩
      have hw2 : decide (d = 0 ∨ pTm ev ne q ≤ pTm ev ne (at0 0) + w) = false := Bool.not_eq_true _ ▸ (fun z => hwin z)
      rw [f_X3_walkFrom_S, hX.1.1, if_neg (mt (xz_le (by omega) (by omega)).mp (by omega)), win, xz_b2, hw2, tb_f, if_pos rfl]
      exact congrArg (fun z => some (z, M)) (xz_a0 x3).symm
theorem s_go (hW : sW ev ne kd br pl w ru p) (hnw : nw ≤ 9999) (hwm : wm ≤ 9999) : ∀ (e d : Nat), d + e + 1 = pl → ∀ (k q : Nat), q + k = ne → ∀ M at0 L, s_ask ev ne kd br pl w ru nw wm wr e d k q M at0 L
  | 0, d, hd => s_go1 hW hnw hwm hd (fun e' he => absurd he (by omega))
  | e + 1, d, hd => s_go1 hW hnw hwm hd (fun e' he q hq M at0 L => by
    have : e' = e := by omega
    subst this
    exact s_go hW hnw hwm e' (d + 1) (by omega) (ne - (q + 1)) (q + 1) (by omega) M at0 L)
end GO
