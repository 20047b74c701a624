/-! THE LAW's other two methods at the machine: isWell makes an array; cell reads the script -/
theorem xl_split {A : Nat → Prop} {V U : xm_V} {M N : xm_M} (h : va_D A (xm_w V M ++ xm_w U N)) : xm_D V ∧ xm_D U ∧ (∀ i j, i < V.2.2 → j < U.2.2 → V.1 i ≠ U.1 j) ∧ (∀ i, i < V.2.2 → A (V.1 i)) ∧ ∀ i, i < U.2.2 → A (U.1 i) := by
  have hl : (xm_w V M).length = V.2.2 := by simp [xm_w]
  have p1 : ∀ i, i < V.2.2 → (xm_w V M ++ xm_w U N)[i]? = some (V.1 i, V.2.1 i (M i)) := fun i hi => by
    rw [List.getElem?_append_left (by omega)]
    exact xm_at hi rfl
  have p2 : ∀ i, i < U.2.2 → (xm_w V M ++ xm_w U N)[V.2.2 + i]? = some (U.1 i, U.2.1 i (N i)) := fun i hi => by
    rw [List.getElem?_append_right (by omega), hl, Nat.add_sub_cancel_left]
    exact xm_at hi rfl
  refine ⟨fun i j hi hj he => h.1 i j _ _ (p1 i hi) (p1 j hj) he, fun i j hi hj he => ?_, fun i j hi hj he => ?_, fun i hi => h.2 i _ (p1 i hi), fun i hi => h.2 _ _ (p2 i hi)⟩
  · have := h.1 _ _ _ _ (p2 i hi) (p2 j hj) he
    omega
  · have := h.1 _ _ _ _ (p1 i hi) (p2 j hj) he
    omega
theorem xl_splitP {D : va_G} {cl : List vw_C} {ws wt : va_W} {H : Heap} (h : va_P D cl (ws ++ wt) H) : va_P D cl ws H ∧ va_P D cl wt H := by
  refine ⟨fun k q hq => h k q ?_, fun k q hq => h (ws.length + k) q ?_⟩
  · rw [List.getElem?_append_left (List.getElem?_eq_some_iff.mp hq).1]
    exact hq
  · rw [List.getElem?_append_right (by omega), Nat.add_sub_cancel_left]
    exact hq
theorem c_L_isWell {l : Launch} {E : xm_E} {a : Nat → Nat} (hD : xm_D (xv E a)) (n : Nat) (M M1 M' N' : xm_M) (ne r : Int32) (h0 : f_X6_count n M 0 = some (ne, M1)) (h1 : f_L_isWell_11 n M1 (fun _ _ => 0) ne = some (r, M', N')) : ∀ sz, Met l yL_isWell (Cond.code yL_isWell cL_isWell 9 (some .boolean) :: xm_tb) { frames := 9, cells := 1, slots := 25, locals := 219 } (va_Pc [.ref (a 0)] (xm_Pre E (xv E a) M sz)) (xm_Q E (xv E a) M' sz (some r)) 1 25 (xm_A (xv E a) sz) := by
  intro sz
  refine Met.ofW (cc := cL_isWell) (maxL := 9) (ret := some .boolean) (by decide +kernel) rfl ?_
  intro p e s m args below meth c s₁ B hml hv
  obtain ⟨rfl, hsz, hP, hK, hS0⟩ := hv
  subst hsz
  have hts := atoms_spec (ws := Cond.code yL_isWell cL_isWell 9 (some .boolean) :: xm_tb) B.pre
  have hown : s.vm.findClass RL = some m.cls := findClass_of_methodNamed B.named
  have hl := lv_entry [.ref (a 0)] (n := 9) (Nat.le_of_ble_eq_true rfl)
  rw [lg_entry_eq]
  generalize (lg_sl ([.ref (a 0)]) ++ List.replicate (9 - (lg_sl ([.ref (a 0)])).length) Slot.unset).toArray = ls at hl ⊢
  have hl : lv_has ls 9 [(0, .ref (a 0))] := hl
  have C : xm_C E (xv E a) p s m [Value.ref (a 0)].toArray meth c RL cL_isWell 9 (some .boolean) := ⟨B.exec, B.bytes, hml, hown, fun w hw => hts w (List.mem_cons_of_mem _ hw), B.returns, B.notSynchronized, hD, hK, hS0⟩
  have C9 := C
  obtain ⟨hx, hb, hml, hown, hts, hr, hlk, hD, hK, hS9⟩ := C9
  have hS : va_S (xm_A (xv E a) s.heap.size) s.heap s.heap [] := va_S.rf
  refine lv_aload_n hx hb dL_isWell_0 rfl (lv_at hl 0 rfl) ?_
  refine lv_iconst (v := 0) hx hb dL_isWell_1 (by decide) ?_
  refine xm_callV C hP hS [.int 0] [] (c_X6_count hD n M 0 ne M1 h0) k_L_47 (xm_recv C hP 0 (ci := 6) rfl (Nat.le_of_ble_eq_true rfl) rfl) rfl rfl ⟨Nat.le_of_ble_eq_true rfl, Nat.le_of_ble_eq_true rfl⟩ hl.1 (Nat.le_of_ble_eq_true rfl) ⟨Nat.zero_le _, Nat.zero_le _⟩ dL_isWell_2 (fun H locs hP hS => ?_)
  change W p l e _ s m _ below meth c H locs 0 0 _ (F0 m 5 ls [.int ne])
  refine lv_istore_n (lv' := [(1, .int ne), (0, .ref (a 0))]) hx hb dL_isWell_5 rfl hl (by decide) rfl (fun ls hl => ?_)
  refine lv_bipush (v := 25) hx hb dL_isWell_6 (by decide) ?_
  refine xn_newa hx hb hts hK (atype := .int) (ty := .int) ac_int rfl 0 rfl (fun cA h1 h2 => xn_ra (fun _ h => by cases h) h1 h2) hP (xm_vaD hD M1 s.heap.size) hS (fun q hq => Or.inr hq) (N' := 25) (a0 := (25, .inl (fun _ => 0))) (fun _ => rfl) (by decide) (by decide) (Nat.le_of_ble_eq_true rfl) (Nat.le_of_ble_eq_true rfl) (Nat.le_of_ble_eq_true rfl) dL_isWell_8 (fun q H hP hDq hS => ?_)
  refine lv_astore_n (lv' := [(2, .ref q), (1, .int ne), (0, .ref (a 0))]) hx hb dL_isWell_10 rfl hl (by decide) rfl (fun ls hl => ?_)
  have hwl : (xm_w (xv E a) M1).length = 120 := by simp [xm_w]
  have pq : (xm_w (xv E a) M1 ++ [(q, (.inl (E.2.1 0, 25, .inl (fun _ => 0)) : va_E))])[120]? = some (q, .inl (E.2.1 0, 25, .inl (fun _ => 0))) := by
    rw [List.getElem?_append_right (by omega), hwl]
    rfl
  have pa : ∀ i, i < 120 → (xm_w (xv E a) M1 ++ [(q, (.inl (E.2.1 0, 25, .inl (fun _ => 0)) : va_E))])[i]? = some ((xv E a).1 i, (xv E a).2.1 i (M1 i)) := fun i hi => by
    rw [List.getElem?_append_left (by omega)]
    exact xm_at hi rfl
  have hq : xm_A (xv E a) s.heap.size q := hDq.2 _ _ pq
  have hne : ∀ i j, i < (xv E a).2.2 → j < (xq E q).2.2 → (xv E a).1 i ≠ (xq E q).1 j := fun i j hi _ he => by
    have hi : i < 120 := hi
    have := hDq.1 i 120 _ _ (pa i hi) pq he
    omega
  have hDx : xm_D (xj (xv E a) (xq E q)) := xj_D hD (fun i j hi hj _ => by have hi : i < 1 := hi; have hj : j < 1 := hj; omega) hne
  have hAA : xm_A (xj (xv E a) (xq E q)) s.heap.size = xm_A (xv E a) s.heap.size := by
    funext z
    refine propext ⟨fun h => ?_, fun h => ?_⟩
    · rcases h with ⟨k, hk, rfl⟩ | h
      · have hk : k < 120 + 1 := hk
        by_cases c : k < 120
        · rw [xj_1 (V := xv E a) (U := xq E q) c]
          exact Or.inl ⟨k, c, rfl⟩
        · have e : k = 120 + 0 := by omega
          rw [e]
          have := xj_2 (V := xv E a) (U := xq E q) 0
          rw [show (xj (xv E a) (xq E q)).1 (120 + 0) = q from this]
          exact hq
      · exact Or.inr h
    · rcases h with ⟨k, hk, rfl⟩ | h
      · exact xj_A1 hk
      · exact Or.inr h
  obtain ⟨hP1, hP2⟩ := xl_splitP hP
  have hPj : va_P E.1 vwCl (xm_w (xj (xv E a) (xq E q)) (xk 120 M1 (fun _ _ => 0))) H := xj_P (V := xv E a) hP1 hP2
  have Cj : xm_C E (xj (xv E a) (xq E q)) p s m [Value.ref (a 0)].toArray meth c RL cL_isWell 9 (some .boolean) := ⟨hx, hb, hml, hown, hts, hr, hlk, hDx, hK, by rw [hAA]; exact hS9⟩
  have fin := t_L_isWell_11 (l := l) (e := e) (below := below) Cj n M1 (fun _ _ => 0) ne r M' N' h1 H _ _ hPj (by rw [hAA]; exact hS) (lv_sub hl [2, 1, 0] rfl)
  intro T hT X
  obtain ⟨t, st, o, q1, q2, q3, q4⟩ := fin T hT X
  have q5 : va_F (xm_A (xj (xv E a) (xq E q)) s.heap.size) s t := q3.2
  rw [hAA] at q5 q4
  exact ⟨t, st, o, q1, q2, ⟨⟨q3.1.1, xj_P1 (V := xv E a) q3.1.2⟩, q5⟩, q4⟩
/-- cell -/
def lc_v (L : Nat) (xs : Nat → Int32) (k : Int32) : Int32 := if nI L ≤ k then 2125846721 * (k + 1087) else xs k.toNatClampNeg
def lc_Pre (b L : Nat) (xs : Nat → Int32) (sz : Nat) (U : State) : Prop := U.heap.size = sz ∧ b < sz ∧ va_X b L xs U U.heap
def lc_Q (sz : Nat) (v : Int32) : Array Value → State → Outcome → State → Prop := fun _ st oc t => oc = .returned (some (.int v)) ∧ va_F (fun q => sz ≤ q) st t
theorem lc_blind {b L : Nat} {xs : Nat → Int32} {sz : Nat} {as : List Value} : FrameBlind (va_Pc as (lc_Pre b L xs sz)) := fun _ U g mk q => ⟨q.1, q.2.1, q.2.2.1, va_X.moved (u := U) (Vm.Alike.refl U.vm) q.2.2.2⟩
theorem c_L_cell (l : Launch) {b L : Nat} (hL : L ≤ 260) (xs : Nat → Int32) {k : Nat} (hk : k ≤ 300) : ∀ sz, Met l yL_cell (Cond.code yL_cell cL_cell 2 (some .int) :: xm_tb) { frames := 0, cells := 0, slots := 0, locals := 0 } (va_Pc [.ref b, .int (nI k)] (lc_Pre b L xs sz)) (lc_Q sz (lc_v L xs (nI k))) 0 0 (fun q => sz ≤ q) := by
  intro sz
  refine Met.ofW (cc := cL_cell) (maxL := 2) (ret := some .int) (by decide +kernel) rfl ?_
  intro p e s m args below meth c s₁ B hml hv
  obtain ⟨rfl, hsz, hbl, hX⟩ := hv
  subst hsz
  have hts := atoms_spec (ws := Cond.code yL_cell cL_cell 2 (some .int) :: xm_tb) B.pre
  have hown : s.vm.findClass RL = some m.cls := findClass_of_methodNamed B.named
  have hl := lv_entry [.ref b, .int (nI k)] (n := 2) (Nat.le_of_ble_eq_true rfl)
  rw [lg_entry_eq]
  generalize (lg_sl ([.ref b, .int (nI k)]) ++ List.replicate (2 - (lg_sl ([.ref b, .int (nI k)])).length) Slot.unset).toArray = ls at hl ⊢
  have hl : lv_has ls 2 [(0, .ref b), (1, .int (nI k))] := hl
  have hx := B.exec
  have hb := B.bytes
  have hS : va_S (fun q : Nat => s.heap.size ≤ q) s.heap s.heap [] := va_S.rf
  have hbA : ¬ (fun q : Nat => s.heap.size ≤ q) b := Nat.not_le.mpr hbl
  have hts2 : ∀ w ∈ xm_tb, w.before [Value.ref b, .int (nI k)].toArray s = true := fun w hw => hts w (List.mem_cons_of_mem _ hw)
  refine lv_iload_n hx hb dL_cell_0 rfl (lv_at hl 1 rfl) ?_
  refine lv_aload_n hx hb dL_cell_1 rfl (lv_at hl 0 rfl) ?_
  refine va_slen hx hb hX hbl hbA hS dL_cell_2 ?_
  refine lv_icmp_ge (tgt := 12) hx hb dL_cell_3 (by decide) (fun c9 => ?_) (fun c9 => ?_)
  · refine lv_ldc (v := 2125846721) hx hb hown (hts2 _ q_L_7) dL_cell_12 ?_
    refine lv_iload_n hx hb dL_cell_14 rfl (lv_at hl 1 rfl) ?_
    refine lv_sipush (v := 1087) hx hb dL_cell_15 (by decide) ?_
    refine lv_iadd hx hb dL_cell_18 ?_
    refine lv_imul hx hb dL_cell_19 ?_
    have e9 : lc_v L xs (nI k) = 2125846721 * (nI k + 1087) := if_pos c9
    rw [e9]
    exact W.iret hx hb B.returns (fun t ht hW => ⟨rfl, hS.F ht⟩) hS.2.2 dL_cell_20 B.notSynchronized
  · have hkL : k < L := by
      have c9 : ¬ nI L ≤ nI k := c9
      rw [xz_le (by omega) (by omega)] at c9
      omega
    refine lv_aload_n hx hb dL_cell_6 rfl (lv_at hl 0 rfl) ?_
    refine lv_iload_n hx hb dL_cell_7 rfl (lv_at hl 1 rfl) ?_
    refine va_sld hx hb hX hbl hbA hS (vp_in_nI hkL (by omega)) dL_cell_8 ?_
    refine lv_goto (tgt := 20) hx hb dL_cell_9 (by decide) ?_
    have e9 : lc_v L xs (nI k) = xs (nI k).toNatClampNeg := if_neg c9
    rw [e9]
    exact W.iret hx hb B.returns (fun t ht hW => ⟨rfl, hS.F ht⟩) hS.2.2 dL_cell_20 B.notSynchronized
