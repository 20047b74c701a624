/-! LAYER 2: what a search tells, as a list of its branches and matches in their order -/
abbrev sG : Type := List (Bool × (Nat → Nat))
def sp (at0 : Nat → Nat) (d q : Nat) : Nat → Nat := fun j => if j = d then q else at0 j
def s_loop (wn su : (Nat → Nat) → Nat → Nat → Bool) (ba : Nat → Nat → Bool) (ch : (Nat → Nat) → Nat → sG) (d : Nat) (at0 : Nat → Nat) : Nat → Nat → sG
  | 0, _ => []
  | k + 1, q => if wn at0 d q = true then (if su at0 d q = true then ch (sp at0 d q) q else []) ++ (if ba d q = true then [] else s_loop wn su ba ch d at0 k (q + 1)) else []
def s_child (wn su : (Nat → Nat) → Nat → Nat → Bool) (ba : Nat → Nat → Bool) (ne : Nat) : Nat → Nat → (Nat → Nat) → Nat → sG
  | 0, _, a, _ => [(true, a)]
  | e + 1, d, a, q => (false, a) :: s_loop wn su ba (s_child wn su ba ne e (d + 1)) (d + 1) a (ne - (q + 1)) (q + 1)
def nM (L : sG) : Nat := L.countP (fun x => x.1)
def nS (T : Nat → Nat) (wm j : Nat) (L : sG) : Nat := L.countP (fun x => x.1 && decide (T (x.2 j) ≤ wm))
def nB (T : Nat → Nat) (w nw : Nat) (L : sG) : Nat := L.countP (fun x => !x.1 && decide (nw ≤ T (x.2 0) + w))
def mL (L : sG) : List (Nat → Nat) := (L.filter (fun x => x.1)).map (fun x => x.2)
def cn (a : Nat → Nat) (s : Nat) : Nat → Nat → Nat
  | 0, _ => 0
  | e + 1, d => (if a d = s then 1 else 0) + cn a s e (d + 1)
def sh (s e d : Nat) : sG → Nat
  | [] => 0
  | x :: L => (if x.1 = true then cn x.2 s e d else 0) + sh s e d L
theorem nM_app (L G : sG) : nM (L ++ G) = nM L + nM G := List.countP_append
theorem nS_app (T : Nat → Nat) (wm j : Nat) (L G : sG) : nS T wm j (L ++ G) = nS T wm j L + nS T wm j G := List.countP_append
theorem nB_app (T : Nat → Nat) (w nw : Nat) (L G : sG) : nB T w nw (L ++ G) = nB T w nw L + nB T w nw G := List.countP_append
theorem mL_app (L G : sG) : mL (L ++ G) = mL L ++ mL G := by simp [mL]
theorem mL_len (L : sG) : (mL L).length = nM L := by
  unfold mL nM
  rw [List.length_map, List.countP_eq_length_filter]
theorem sh_app (s e d : Nat) : ∀ (L G : sG), sh s e d (L ++ G) = sh s e d L + sh s e d G
  | [], G => (Nat.zero_add _).symm
  | x :: L, G => by
    show _ + sh s e d (L ++ G) = _ + sh s e d L + _
    rw [sh_app s e d L G]
    omega
theorem nM_le (L : sG) : nM L ≤ L.length := List.countP_le_length
theorem nS_le (T : Nat → Nat) (wm j : Nat) (L : sG) : nS T wm j L ≤ nM L := by
  unfold nS nM
  exact List.countP_mono_left (fun x _ h => by
    rw [Bool.and_eq_true] at h
    exact h.1)
theorem nB_le (T : Nat → Nat) (w nw : Nat) (L : sG) : nB T w nw L ≤ L.length := List.countP_le_length
/-- the wanted match -/
def s_wr (o : Nat → Nat) (pl : Nat) (wr : Option (Nat × Nat)) (L : sG) (M : xm_M) : Prop := match wr with
  | none => M 8 3 = -1
  | some (rk, ix) => M 8 3 = nI rk ∧ M 8 4 = nI ix ∧ ix < pl ∧ rk < 2 ^ 31 ∧ M 8 5 = (match (mL L)[rk]? with | some a => nI (o (a ix)) | none => -5)
def dL (o T : Nat → Nat) (pl w nw wm : Nat) (wr : Option (Nat × Nat)) (L : sG) (M : xm_M) : Prop := M 8 12 = nI (nM L) ∧ M 8 13 = nI (nS T wm (pl - 1) L) ∧ M 8 14 = nI (nB T w nw L) ∧ s_wr o pl wr L M
theorem xz_nm {c : Nat} (h : c < 2 ^ 31) : ¬ nI c = -1 := fun q => by
  have := congrArg Int32.toInt q
  rw [nI_toInt h] at this
  have e : (-1 : Int32).toInt = -1 := by decide
  omega
section SLG
variable {ev : Nat → Nat × Nat × Nat} {ne : Nat} {kd br : Nat → Nat} {pl w ru p nw wm : Nat} {M M' : xm_M} {a : Nat → Nat} {wr : Option (Nat × Nat)} {d q : Nat} {L : sG}
theorem s_m36 (h4 : pl ≤ 4) (h25 : ne ≤ 25) (h12 : M 8 12 = nI (nM L)) (hL : L.length < 2 ^ 30) (hw : s_wr (pO ev ne) pl wr L M) (ha : ∀ j, j < pl → M 11 j = nI (a j) ∧ a j < ne) (hO : ∀ k, k < ne → M 14 k = nI (pO ev ne k)) : ∃ M', (∀ n, f_X3_tellMatch_36 n M = some M') ∧ M' 8 12 = nI (nM L + 1) ∧ s_wr (pO ev ne) pl wr (L ++ [(true, a)]) M' ∧ (∀ k, k ≠ 8 → M' k = M k) ∧ ∀ j, j ≠ 5 → j ≠ 12 → M' 8 j = M 8 j := by
  have hc : nM L < 2 ^ 31 := by have := nM_le L; omega
  have em : mL (L ++ [(true, a)]) = mL L ++ [a] := by rw [mL_app]; rfl
  unfold f_X3_tellMatch_36
  cases wr with
  | none =>
    have hw : M 8 3 = -1 := hw
    rw [h12, hw, if_neg (xz_nm hc), xz_lt]
    refine ⟨_, fun n => rfl, by rw [xm_up_s, nI_1], ?_, fun k hk => xm_up_r _ _ hk, fun j h5 h12 => xm_up_j _ _ h12⟩
    show xm_up M 8 12 _ 8 3 = -1
    rw [xm_up_j _ _ (by omega)]
    exact hw
  | some ri =>
    obtain ⟨rk, ix⟩ := ri
    obtain ⟨w1, w2, w3, w4, w5⟩ := hw
    rw [h12, w1]
    by_cases e : nM L = rk
    · obtain ⟨a1, a2⟩ := ha ix w3
      rw [if_pos (by rw [e]), w2, xz_ci (show ix < 4 by omega) (by omega), xz_cl (show ix < 2 ^ 31 by omega), a1, xz_ci (show a ix < 25 by omega) (by omega), xz_cl (show a ix < 2 ^ 31 by omega), hO _ a2]
      refine ⟨_, fun n => rfl, ?_, ⟨?_, ?_, w3, w4, ?_⟩, fun k hk => by rw [xm_up_r _ _ hk, xm_up_r _ _ hk], fun j h5 h12 => by rw [xm_up_j _ _ h12, xm_up_j _ _ h5]⟩
      · rw [xm_up_s, xm_up_j _ _ (by omega), h12, nI_1]
      · rw [xm_up_j _ _ (by omega), xm_up_j _ _ (by omega)]; exact w1
      · rw [xm_up_j _ _ (by omega), xm_up_j _ _ (by omega)]; exact w2
      · have e2 : (mL L ++ [a])[rk]? = some a := by
          rw [← e, ← mL_len, List.getElem?_append_right (Nat.le_refl _), Nat.sub_self]
          rfl
        rw [em, e2, xm_up_j _ _ (by omega), xm_up_s]
    · rw [if_neg (mt (xz_e hc w4).mp e), xz_lt]
      refine ⟨_, fun n => rfl, by rw [xm_up_s, nI_1], ⟨?_, ?_, w3, w4, ?_⟩, fun k hk => xm_up_r _ _ hk, fun j h5 h12 => xm_up_j _ _ h12⟩
      · rw [xm_up_j _ _ (by omega)]; exact w1
      · rw [xm_up_j _ _ (by omega)]; exact w2
      · rw [em, xm_up_j _ _ (by omega), w5]
        rcases Nat.lt_or_ge rk (nM L) with q | q
        · rw [List.getElem?_append_left (by rw [mL_len]; exact q)]
        · rw [List.getElem?_eq_none (by rw [mL_len]; exact q), List.getElem?_eq_none (by rw [List.length_append, mL_len]; show nM L + 1 ≤ rk; omega)]
theorem s_match (hW : sW ev ne kd br pl w ru p) (hX : sX ev ne kd br pl w ru M) (h2 : M 8 2 = nI wm) (hwm : wm ≤ 9999) (hD : dL (pO ev ne) (pTm ev ne) pl w nw wm wr L M) (hL : L.length < 2 ^ 30) (ha : ∀ j, j < pl → M 11 j = nI (a j) ∧ a j < ne) : ∃ M', (∀ n, f_X3_tellMatch n M = some M') ∧ dL (pO ev ne) (pTm ev ne) pl w nw wm wr (L ++ [(true, a)]) M' ∧ fX M M' ∧ M' 11 = M 11 ∧ M' 12 = M 12 := by
  have h25 := hW.1
  have h4 := hW.2.2.2.2.2.2.1
  have h1 := hW.2.2.2.2.2.1
  obtain ⟨d1, d2, d3, d4⟩ := hD
  obtain ⟨pp, rfl⟩ : ∃ pp, pl = pp + 1 := ⟨pl - 1, by omega⟩
  obtain ⟨a1, a2⟩ := ha pp (by omega)
  have r17 : M 17 (a pp) = nI (pTm ev ne (a pp)) := (hX.1.2 _ a2).2.2.2
  have hO : ∀ k, k < ne → M 14 k = nI (pO ev ne k) := fun k hk => (hX.1.2 k hk).1
  have e1 : nI (pp + 1) - 1 = nI pp := nI_pred pp
  have tw := (hW.t a2).2.2.2
  have lS : nS (pTm ev ne) wm pp L < 2 ^ 31 := by have := nS_le (pTm ev ne) wm pp L; have := nM_le L; omega
  have eM : nM (L ++ [(true, a)]) = nM L + 1 := nM_app _ _
  have eS : nS (pTm ev ne) wm pp (L ++ [(true, a)]) = nS (pTm ev ne) wm pp L + (if pTm ev ne (a pp) ≤ wm then 1 else 0) := by
    rw [nS_app]
    congr 1
    unfold nS
    rw [List.countP_singleton]
    by_cases z : pTm ev ne (a pp) ≤ wm <;> simp [z]
  have eB : nB (pTm ev ne) w nw (L ++ [(true, a)]) = nB (pTm ev ne) w nw L := by rw [nB_app]; rfl
  have un : ∀ n, f_X3_tellMatch n M = if nI wm < nI (pTm ev ne (a pp)) then f_X3_tellMatch_36 n M else f_X3_tellMatch_36 n (xm_up M 8 13 (M 8 13 + 1)) := fun n => by
    unfold f_X3_tellMatch
    rw [hX.2.1.1, e1, xz_ci (show pp < 4 by omega) (by omega), xz_cl (show pp < 2 ^ 31 by omega), a1, xz_ci (show a pp < 25 by omega) (by omega), xz_cl (show a pp < 2 ^ 31 by omega), r17, h2]
    rfl
  by_cases z : pTm ev ne (a pp) ≤ wm
  · have zz : ¬ nI wm < nI (pTm ev ne (a pp)) := mt (xz_l (by omega) (by omega)).mp (by omega)
    obtain ⟨M', g1, g2, g3, g4, g5⟩ := s_m36 (M := xm_up M 8 13 (M 8 13 + 1)) (a := a) (wr := wr) (ev := ev) h4 h25 (by rw [xm_up_j _ _ (by omega)]; exact d1) hL (by
      cases wr with
      | none => show xm_up M 8 13 _ 8 3 = -1; rw [xm_up_j _ _ (by omega)]; exact d4
      | some ri =>
        obtain ⟨w1, w2, w3, w4, w5⟩ := d4
        exact ⟨by rw [xm_up_j _ _ (by omega)]; exact w1, by rw [xm_up_j _ _ (by omega)]; exact w2, w3, w4, by rw [xm_up_j _ _ (by omega)]; exact w5⟩) (fun j hj => by rw [xm_up_k _ _ (by omega)]; exact ha j hj) (fun k hk => by rw [xm_up_k _ _ (by omega)]; exact hO k hk)
    refine ⟨M', fun n => by rw [un, if_neg zz, g1], ⟨by rw [eM]; exact g2, ?_, ?_, g3⟩, ⟨fun k k1 _ _ => by rw [g4 k k1, xm_up_r _ _ k1], fun j j1 j2 j3 j4 => by rw [g5 j j1 j2, xm_up_j _ _ j3]⟩, by rw [g4 11 (by omega), xm_up_r _ _ (by omega)], by rw [g4 12 (by omega), xm_up_r _ _ (by omega)]⟩
    · rw [g5 13 (by omega) (by omega), xm_up_s, d2]
      show nI (nS _ _ pp L) + 1 = nI (nS _ _ pp _)
      rw [eS, if_pos z, nI_1]
    · rw [g5 14 (by omega) (by omega), xm_up_j _ _ (by omega), eB]; exact d3
  · have zz : nI wm < nI (pTm ev ne (a pp)) := (xz_l (by omega) (by omega)).mpr (by omega)
    obtain ⟨M', g1, g2, g3, g4, g5⟩ := s_m36 (a := a) (wr := wr) (ev := ev) h4 h25 d1 hL d4 ha hO
    refine ⟨M', fun n => by rw [un, if_pos zz, g1], ⟨by rw [eM]; exact g2, ?_, ?_, g3⟩, ⟨fun k k1 _ _ => g4 k k1, fun j j1 j2 j3 j4 => g5 j j1 j2⟩, g4 11 (by omega), g4 12 (by omega)⟩
    · rw [g5 13 (by omega) (by omega), d2]
      show nI (nS _ _ pp L) = nI (nS _ _ pp _)
      rw [eS, if_neg z]
      rfl
    · rw [g5 14 (by omega) (by omega), eB]; exact d3
theorem s_branch (hW : sW ev ne kd br pl w ru p) (hX : sX ev ne kd br pl w ru M) (h1 : M 8 1 = nI nw) (hnw : nw ≤ 9999) (hD : dL (pO ev ne) (pTm ev ne) pl w nw wm wr L M) (hd : d + 1 < pl) (h0 : M 11 0 = nI (a 0)) (ha : a 0 < ne) : ∃ M', (∀ n, f_X3_tellBranch n M (nI d) = some M') ∧ dL (pO ev ne) (pTm ev ne) pl w nw wm wr (L ++ [(false, a)]) M' ∧ fX M M' ∧ M' 11 = M 11 ∧ M' 12 = M 12 := by
  obtain ⟨d1, d2, d3, d4⟩ := hD
  have tw := (hW.t ha).2.2.2
  have w1000 := hW.2.2.2.2.2.2.2.1
  refine ⟨_, fun n => x_br2 hW hX hd h0 ha, ⟨?_, ?_, ?_, ?_⟩, ⟨fun k k1 _ _ => xm_up_r _ _ k1, fun j _ _ _ j4 => xm_up_j _ _ j4⟩, xm_up_r _ _ (by omega), xm_up_r _ _ (by omega)⟩
  · rw [xm_up_j _ _ (by omega), d1, nM_app]; rfl
  · rw [xm_up_j _ _ (by omega), d2, nS_app]; rfl
  · have eB : nB (pTm ev ne) w nw [(false, a)] = if nw ≤ pTm ev ne (a 0) + w then 1 else 0 := by
      unfold nB
      rw [List.countP_singleton]
      by_cases z : nw ≤ pTm ev ne (a 0) + w <;> simp [z]
    rw [xm_up_s, d3, h1, nB_app, eB]
    by_cases z : nw ≤ pTm ev ne (a 0) + w
    · rw [if_neg (mt (xz_l (by omega) (by omega)).mp (by omega)), if_pos z, nI_1]
    · rw [if_pos ((xz_l (by omega) (by omega)).mpr (by omega)), if_neg z]
      exact xz_a0 _
  · have em : mL (L ++ [(false, a)]) = mL L := by rw [mL_app]; exact List.append_nil _
    cases wr with
    | none => show xm_up M 8 14 _ 8 3 = -1; rw [xm_up_j _ _ (by omega)]; exact d4
    | some ri =>
      obtain ⟨w1, w2, w3, w4, w5⟩ := d4
      exact ⟨by rw [xm_up_j _ _ (by omega)]; exact w1, by rw [xm_up_j _ _ (by omega)]; exact w2, w3, w4, by rw [em, xm_up_j _ _ (by omega)]; exact w5⟩
end SLG
