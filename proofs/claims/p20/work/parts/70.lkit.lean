/-! TWO WORLDS IN ONE: the law's methods walk over both objects (or an object and an array) -/
def xj (V U : xm_V) : xm_V := (fun i => if i < V.2.2 then V.1 i else U.1 (i - V.2.2), fun i f => if i < V.2.2 then V.2.1 i f else U.2.1 (i - V.2.2) f, V.2.2 + U.2.2)
def xk (n : Nat) (M N : xm_M) : xm_M := fun i => if i < n then M i else N (i - n)
theorem xk_up {n r : Nat} {M N : xm_M} {i : Nat} {v : Int32} : xm_up (xk n M N) (n + r) i v = xk n M (xm_up N r i v) := by
  funext k
  unfold xm_up xm_row xk
  by_cases h : k < n
  · have h2 : ¬ k = n + r := by omega
    simp [h, h2]
  · by_cases h2 : k = n + r
    · subst h2
      have e : n + r - n = r := by omega
      rw [if_pos rfl, if_neg h, if_neg h, e]
      exact (if_pos rfl).symm
    · have h3 : ¬ k - n = r := by omega
      simp [h, h2, h3]
theorem xj_at1 {V U : xm_V} {M N : xm_M} {k : Nat} (h : k < V.2.2) : (xm_w (xj V U) (xk V.2.2 M N))[k]? = some (V.1 k, V.2.1 k (M k)) := by
  rw [xm_at (V := xj V U) (show k < V.2.2 + U.2.2 by omega) rfl]
  simp [xj, xk, h]
theorem xj_at2 {V U : xm_V} {M N : xm_M} {k : Nat} (h : k < U.2.2) : (xm_w (xj V U) (xk V.2.2 M N))[V.2.2 + k]? = some (U.1 k, U.2.1 k (N k)) := by
  rw [xm_at (V := xj V U) (show V.2.2 + k < V.2.2 + U.2.2 by omega) rfl]
  have h2 : ¬ V.2.2 + k < V.2.2 := by omega
  have e : V.2.2 + k - V.2.2 = k := by omega
  show some (if V.2.2 + k < V.2.2 then V.1 (V.2.2 + k) else U.1 (V.2.2 + k - V.2.2), if V.2.2 + k < V.2.2 then V.2.1 (V.2.2 + k) (if V.2.2 + k < V.2.2 then M (V.2.2 + k) else N (V.2.2 + k - V.2.2)) else U.2.1 (V.2.2 + k - V.2.2) (if V.2.2 + k < V.2.2 then M (V.2.2 + k) else N (V.2.2 + k - V.2.2))) = _
  rw [if_neg h2, if_neg h2, if_neg h2, e]
theorem xj_P1 {V U : xm_V} {M N : xm_M} {D : va_G} {cl : List vw_C} {H : Heap} (h : va_P D cl (xm_w (xj V U) (xk V.2.2 M N)) H) : va_P D cl (xm_w V M) H := fun k q hq => by
  obtain ⟨h1, rfl⟩ := xm_get? hq
  exact h k _ (xj_at1 h1)
theorem xj_P2 {V U : xm_V} {M N : xm_M} {D : va_G} {cl : List vw_C} {H : Heap} (h : va_P D cl (xm_w (xj V U) (xk V.2.2 M N)) H) : va_P D cl (xm_w U N) H := fun k q hq => by
  obtain ⟨h1, rfl⟩ := xm_get? hq
  exact h (V.2.2 + k) _ (xj_at2 h1)
theorem xj_P {V U : xm_V} {M N : xm_M} {D : va_G} {cl : List vw_C} {H : Heap} (h1 : va_P D cl (xm_w V M) H) (h2 : va_P D cl (xm_w U N) H) : va_P D cl (xm_w (xj V U) (xk V.2.2 M N)) H := fun k q hq => by
  obtain ⟨hk, -⟩ := xm_get? hq
  have hk : k < V.2.2 + U.2.2 := hk
  by_cases h : k < V.2.2
  · rw [xj_at1 h] at hq
    cases hq
    exact h1 k _ (xm_at h rfl)
  · obtain ⟨j, rfl⟩ : ∃ j, k = V.2.2 + j := ⟨k - V.2.2, by omega⟩
    rw [xj_at2 (by omega)] at hq
    cases hq
    exact h2 j _ (xm_at (by omega) rfl)
theorem xj_1 {V U : xm_V} {i : Nat} (h : i < V.2.2) : (xj V U).1 i = V.1 i := if_pos h
theorem xj_2 {V U : xm_V} (i : Nat) : (xj V U).1 (V.2.2 + i) = U.1 i := by
  show (if V.2.2 + i < V.2.2 then V.1 (V.2.2 + i) else U.1 (V.2.2 + i - V.2.2)) = _
  rw [if_neg (by omega), Nat.add_sub_cancel_left]
theorem xj_D1 {V U : xm_V} (h : xm_D (xj V U)) : xm_D V := fun i j hi hj he => h i j (show i < V.2.2 + U.2.2 by omega) (show j < V.2.2 + U.2.2 by omega) (by rw [xj_1 hi, xj_1 hj]; exact he)
theorem xj_D2 {V U : xm_V} (h : xm_D (xj V U)) : xm_D U := fun i j hi hj he => by
  have := h (V.2.2 + i) (V.2.2 + j) (show V.2.2 + i < V.2.2 + U.2.2 by omega) (show V.2.2 + j < V.2.2 + U.2.2 by omega) (by rw [xj_2, xj_2]; exact he)
  omega
theorem xj_D3 {V U : xm_V} (h : xm_D (xj V U)) : ∀ i j, i < V.2.2 → j < U.2.2 → V.1 i ≠ U.1 j := fun i j hi hj he => by
  have := h i (V.2.2 + j) (show i < V.2.2 + U.2.2 by omega) (show V.2.2 + j < V.2.2 + U.2.2 by omega) (by rw [xj_1 hi, xj_2]; exact he)
  omega
theorem xj_D {V U : xm_V} (h1 : xm_D V) (h2 : xm_D U) (h3 : ∀ i j, i < V.2.2 → j < U.2.2 → V.1 i ≠ U.1 j) : xm_D (xj V U) := fun i j hi hj he => by
  have hi : i < V.2.2 + U.2.2 := hi
  have hj : j < V.2.2 + U.2.2 := hj
  by_cases ci : i < V.2.2
  · rw [xj_1 ci] at he
    by_cases cj : j < V.2.2
    · rw [xj_1 cj] at he
      exact h1 i j ci cj he
    · obtain ⟨k, rfl⟩ : ∃ k, j = V.2.2 + k := ⟨j - V.2.2, by omega⟩
      rw [xj_2] at he
      exact absurd he (h3 i k ci (by omega))
  · obtain ⟨k, rfl⟩ : ∃ k, i = V.2.2 + k := ⟨i - V.2.2, by omega⟩
    rw [xj_2] at he
    by_cases cj : j < V.2.2
    · rw [xj_1 cj] at he
      exact absurd he.symm (h3 j k cj (by omega))
    · obtain ⟨k2, rfl⟩ : ∃ k, j = V.2.2 + k := ⟨j - V.2.2, by omega⟩
      rw [xj_2] at he
      rw [h2 k k2 (by omega) (by omega) he]
theorem xj_A1 {V U : xm_V} {sz i : Nat} (h : i < V.2.2) : xm_A (xj V U) sz (V.1 i) := Or.inl ⟨i, show i < V.2.2 + U.2.2 by omega, (xj_1 h).symm⟩
theorem xj_A2 {V U : xm_V} {sz i : Nat} (h : i < U.2.2) : xm_A (xj V U) sz (U.1 i) := Or.inl ⟨V.2.2 + i, show V.2.2 + i < V.2.2 + U.2.2 by omega, (xj_2 i).symm⟩
def xm_b3 {β : Type} (x : Option (Int32 × xm_M × xm_M)) (f : Int32 → xm_M → xm_M → Option β) : Option β := match x with
  | some (r, M, N) => f r M N
  | none => none
theorem xm_b3_s {β : Type} {x : Option (Int32 × xm_M × xm_M)} {f : Int32 → xm_M → xm_M → Option β} {y : β} (h : xm_b3 x f = some y) : ∃ r M N, x = some (r, M, N) ∧ f r M N = some y := by
  cases x with
  | none => cases h
  | some q =>
    obtain ⟨r, M, N⟩ := q
    exact ⟨r, M, N, rfl, h⟩
theorem xm_p3 {a c : Int32} {b d u v : xm_M} (h : some (a, b, u) = some (c, d, v)) : a = c ∧ b = d ∧ u = v := by
  cases h
  exact ⟨rfl, rfl, rfl⟩
section LROWS
variable {p : Program} {l : Launch} {e : Env} {R : Room} {s : State} {m : MethodId} {args : Array Value} {below : List Frame} {meth : Method} {c : Code} {H : Heap} {locs : List Loc} {cells slots : Nat} {Q : State → Prop}
variable {cc : ByteArray} {pc : Nat} {ls : Array Slot} {rest : List Value} {E : xm_E} {V U : xm_V} {M N : xm_M} {own : String} {nL : Nat} {ret : Option FieldType}
theorem lm_retI {below : List Frame} (C : xm_C E V p s m args meth c own cc nL (some .int)) (hP : va_P E.1 vwCl (xm_w V M) H) (hS : va_S (xm_A V s.heap.size) s.heap H locs) {v : Int32} (hdg : decode cc pc = .ok (.ireturn, 1)) : W p l e R s m args below meth c H locs cells slots (MQ below (xm_Q E V M s.heap.size (some v)) args s cells slots (xm_A V s.heap.size)) (F0 m pc ls [.int v]) := by
  obtain ⟨hx, hb, hml, hown, hts, hr, hlk, hD, hK, -⟩ := C
  exact W.iret hx hb hr (fun t ht hW => ⟨⟨rfl, by rw [ht]; exact hP⟩, hS.F ht⟩) hS.2.2 hdg hlk
theorem lm_retZ {below : List Frame} {ty : FieldType} (C : xm_C E V p s m args meth c own cc nL (some ty)) (hP : va_P E.1 vwCl (xm_w V M) H) (hS : va_S (xm_A V s.heap.size) s.heap H locs) {v : Int32} (hn : narrow ty (.int v) = .int v) (hdg : decode cc pc = .ok (.ireturn, 1)) : W p l e R s m args below meth c H locs cells slots (MQ below (xm_Q E V M s.heap.size (some v)) args s cells slots (xm_A V s.heap.size)) (F0 m pc ls [.int v]) := by
  obtain ⟨hx, hb, hml, hown, hts, hr, hlk, hD, hK, -⟩ := C
  exact W.zret hx hb hr hn (fun t ht hW => ⟨⟨rfl, by rw [ht]; exact hP⟩, hS.F ht⟩) hS.2.2 hdg hlk
variable {y : MethodName} {bytes : ByteArray} {maxL index n fr lo : Nat} {yret : Option FieldType} {M' : xm_M} {r : Option Int32} {st0 : List Value} {A : Nat → Prop}
/-- a call on an object that is one of two worlds -/
theorem lm_sub (hx : p.tables.exec = Jvm.exec) (hb : c.code = cc) (hml : c.maxLocals = nL) (hown : s.vm.findClass own = some m.cls) (hts : ∀ w ∈ xm_tb, w.before args s = true) (hK : xm_K E s) (hS0 : xm_S E A s s.heap) (hA : ∀ i, i < V.2.2 → A (V.1 i)) (hA2 : ∀ q, s.heap.size ≤ q → A q)
    (hP : va_P E.1 vwCl (xm_w V M) H) (hPu : va_P E.1 vwCl (xm_w U N) H) (hVU : ∀ i j, i < V.2.2 → j < U.2.2 → V.1 i ≠ U.1 j) (hS : va_S A s.heap H locs) {b : Nat}
    (As rest : List Value) (hM : xm_Met l E V y bytes maxL yret fr lo (.ref b :: As) M M' r) (F : xm_FV own index y bytes maxL yret n) (hrv : ∃ cell : Cell, H[b]? = some cell ∧ cell.vm.isStatics = false ∧ s.vm.findClass y.cls = some cell.cls) (hst : st0 = As.reverse ++ .ref b :: rest) (hn : As.length = n) (hR : fr + 1 ≤ R.frames ∧ 8 + (maxL + 11) + lo ≤ R.locals) (hsz : ls.size = nL) (hW : (rest.map fun v => v.category).sum ≤ 8) (hcs : cells ≤ R.cells ∧ slots ≤ R.slots) (hdg : decode cc pc = .ok (.invokevirtual index, 3))
    (kk : ∀ (H1 : Heap) (locs1 : List Loc), va_P E.1 vwCl (xm_w V M') H1 → va_P E.1 vwCl (xm_w U N) H1 → va_S A s.heap H1 locs1 → W p l e R s m args below meth c H1 locs1 cells slots Q (F0 m (pc + 3) ls ((r.map Value.int).toList ++ rest))) : W p l e R s m args below meth c H locs cells slots Q (F0 m pc ls st0) := by
  obtain ⟨f1, f2, f3, f4, f5, f6⟩ := F
  have hAH : ∀ q, xm_A V H.size q → A q := fun q hq => by
    rcases hq with ⟨k, hk, rfl⟩ | hq
    · exact hA k hk
    · exact hA2 q (Nat.le_trans hS.1 hq)
  have hpre : ∀ T : State, T.heap = H → s.WarmedH T.vm → va_Pc (.ref b :: As) (xm_Pre E V M H.size) (Value.ref b :: As).toArray T := by
    intro T hT hW
    subst hT
    exact ⟨rfl, rfl, hP, hK.warm hW, (hS0.kept hS.2.1 |>.moved hW.alike).narrow hAH⟩
  have hr := va_runV (l := l) (e := e) (R := R) (below := below) (meth := meth) (cells := cells) (slots := slots) (locs := locs) (Ts := xm_tb) (C := y.cls) (As := As) (rest := rest) (b := b) (g := F0 m pc ls st0) ⟨hx, hb, hml, hown, hts⟩ (hM H.size) ⟨callB_of n hts (xm_good f1 fun _ h => h) rfl rfl rfl (hts _ f5) (hts _ f2) f6 hR, hts _ f3, hts _ f4⟩ ⟨xm_blind, hrv, hpre⟩ rfl hn hsz hst (lv_room hW) hdg hcs
  intro T hT X
  obtain ⟨v, st₀, t, T', L, h0, X', hL, e1, e2, ⟨⟨hv, hp⟩, hz, hk⟩, st⟩ := hr T hT X
  cases hv
  rw [h0] at hz hk
  obtain ⟨t2, a1, b1⟩ := kk T'.heap (locs ++ L) (by rw [e1]; exact hp) (hPu.kept (fun k q hq => by
      obtain ⟨hkl, rfl⟩ := xm_get? hq
      rw [e1]
      have hlt := (hPu k _ hq).lt
      refine hk _ hlt (fun z => ?_)
      rcases z with ⟨i, hi, he⟩ | z
      · exact hVU i k hi hkl he.symm
      · exact absurd hlt (Nat.not_lt.mpr z))) ⟨Nat.le_trans hS.1 (by rw [e1]; exact hz), fun q h1 h2 => by rw [e1, hk q (Nat.lt_of_lt_of_le h1 hS.1) (fun z => h2 (hAH q z))]; exact hS.2.1 q h1 h2, fun q hq => by
      rcases List.mem_append.mp hq with h | h
      · exact hS.2.2 q h
      · exact hAH _ (hL q h)⟩ T' rfl X'
  exact ⟨t2, st t2 a1, b1⟩
theorem lm_o {a : Nat → Nat} (C : xm_C E (xj (xv E a) U) p s m args meth c own cc nL ret) (hP : va_P E.1 vwCl (xm_w (xj (xv E a) U) (xk 120 M N)) H) (hS : va_S (xm_A (xj (xv E a) U) s.heap.size) s.heap H locs) (As rest : List Value) (hM : xm_Met l E (xv E a) y bytes maxL yret fr lo (.ref (a 0) :: As) M M' r) (F : xm_FV own index y bytes maxL yret n) (hyc : y.cls = RX6) (hst : st0 = As.reverse ++ .ref (a 0) :: rest) (hn : As.length = n) (hR : fr + 1 ≤ R.frames ∧ 8 + (maxL + 11) + lo ≤ R.locals) (hsz : ls.size = nL) (hW : (rest.map fun v => v.category).sum ≤ 8) (hcs : cells ≤ R.cells ∧ slots ≤ R.slots) (hdg : decode cc pc = .ok (.invokevirtual index, 3))
    (kk : ∀ (H1 : Heap) (locs1 : List Loc), va_P E.1 vwCl (xm_w (xj (xv E a) U) (xk 120 M' N)) H1 → va_S (xm_A (xj (xv E a) U) s.heap.size) s.heap H1 locs1 → W p l e R s m args below meth c H1 locs1 cells slots Q (F0 m (pc + 3) ls ((r.map Value.int).toList ++ rest))) : W p l e R s m args below meth c H locs cells slots Q (F0 m pc ls st0) := by
  obtain ⟨hx, hb, hml, hown, hts, -, -, hD, hK, hS0⟩ := C
  have hPx : va_P E.1 vwCl (xm_w (xv E a) M) H := xj_P1 (V := xv E a) hP
  have hPu : va_P E.1 vwCl (xm_w U N) H := xj_P2 (V := xv E a) hP
  exact lm_sub (V := xv E a) (U := U) hx hb hml hown hts hK hS0 (fun i hi => xj_A1 hi) (fun q hq => Or.inr hq) hPx hPu (xj_D3 hD) hS As rest hM F (by rw [hyc]; exact va_recv hK.1 hPx (ci := 6) (q0 := 0) rfl (xm_at (Nat.le_of_ble_eq_true rfl) rfl)) hst hn hR hsz hW hcs hdg (fun H1 locs1 h1 h2 h3 => kk H1 locs1 (xj_P (V := xv E a) h1 h2) h3)
theorem lm_p {a bb : Nat → Nat} (C : xm_C E (xj (xv E a) (xv E bb)) p s m args meth c own cc nL ret) (hP : va_P E.1 vwCl (xm_w (xj (xv E a) (xv E bb)) (xk 120 M N)) H) (hS : va_S (xm_A (xj (xv E a) (xv E bb)) s.heap.size) s.heap H locs) (As rest : List Value) (hM : xm_Met l E (xv E bb) y bytes maxL yret fr lo (.ref (bb 0) :: As) N M' r) (F : xm_FV own index y bytes maxL yret n) (hyc : y.cls = RX6) (hst : st0 = As.reverse ++ .ref (bb 0) :: rest) (hn : As.length = n) (hR : fr + 1 ≤ R.frames ∧ 8 + (maxL + 11) + lo ≤ R.locals) (hsz : ls.size = nL) (hW : (rest.map fun v => v.category).sum ≤ 8) (hcs : cells ≤ R.cells ∧ slots ≤ R.slots) (hdg : decode cc pc = .ok (.invokevirtual index, 3))
    (kk : ∀ (H1 : Heap) (locs1 : List Loc), va_P E.1 vwCl (xm_w (xj (xv E a) (xv E bb)) (xk 120 M M')) H1 → va_S (xm_A (xj (xv E a) (xv E bb)) s.heap.size) s.heap H1 locs1 → W p l e R s m args below meth c H1 locs1 cells slots Q (F0 m (pc + 3) ls ((r.map Value.int).toList ++ rest))) : W p l e R s m args below meth c H locs cells slots Q (F0 m pc ls st0) := by
  obtain ⟨hx, hb, hml, hown, hts, -, -, hD, hK, hS0⟩ := C
  have hPx : va_P E.1 vwCl (xm_w (xv E a) M) H := xj_P1 (V := xv E a) hP
  have hPu : va_P E.1 vwCl (xm_w (xv E bb) N) H := xj_P2 (V := xv E a) hP
  exact lm_sub (V := xv E bb) (U := xv E a) hx hb hml hown hts hK hS0 (fun i hi => xj_A2 hi) (fun q hq => Or.inr hq) hPu hPx (fun i j hi hj h => xj_D3 hD j i hj hi h.symm) hS As rest hM F (by rw [hyc]; exact va_recv hK.1 hPu (ci := 6) (q0 := 0) rfl (xm_at (Nat.le_of_ble_eq_true rfl) rfl)) hst hn hR hsz hW hcs hdg (fun H1 locs1 h1 h2 h3 => kk H1 locs1 (xj_P (V := xv E a) h2 h1) h3)
end LROWS
/-- the array that isWell makes -/
abbrev xq (E : xm_E) (q : Nat) : xm_V := (fun _ => q, fun _ f => .inl (E.2.1 0, 25, .inl f), 1)
