/-! THE LAW's body -/
section LB
variable {p : Program} {l : Launch} {e : Env} {R : Room} {s : State} {m : MethodId} {args : Array Value} {below : List Frame} {meth : Method} {c : Code} {H : Heap} {locs : List Loc} {cells slots : Nat} {Q : State → Prop}
variable {cc : ByteArray} {pc : Nat} {ls : Array Slot} {E : xm_E} {V : xm_V} {M M' : xm_M} {own : String} {nL : Nat}
theorem lw_callS {y : MethodName} {bytes : ByteArray} {maxL index n fr lo mc ms : Nat} {yret : Option FieldType} {r : Option Int32} {st0 : List Value} (hx : p.tables.exec = Jvm.exec) (hb : c.code = cc) (hml : c.maxLocals = nL) (hown : s.vm.findClass own = some m.cls) (hts : ∀ w ∈ xm_tb, w.before args s = true) (hK : xm_K E s) (hS0 : xm_S E (fun q : Nat => s.heap.size ≤ q) s s.heap)
    (hP : va_P E.1 vwCl (xm_w V M) H) (hVA : ∀ i, i < V.2.2 → s.heap.size ≤ V.1 i) (hS : va_S (fun q : Nat => s.heap.size ≤ q) s.heap H locs)
    (As rest : List Value) (hM : ∀ sz, Met l y (Cond.code y bytes maxL yret :: xm_tb) { frames := fr, cells := mc, slots := ms, locals := lo } (va_Pc As (xm_Pre E V M sz)) (xm_Q E V M' sz r) mc ms (xm_A V sz)) (F : xm_FS own index y bytes maxL yret n) (hst : st0 = As.reverse ++ rest) (hn : As.length = n) (hR : fr + 1 ≤ R.frames ∧ 8 + (maxL + 11) + lo ≤ R.locals) (hsz : ls.size = nL) (hW : (rest.map fun v => v.category).sum ≤ 8) (hcs : cells + mc ≤ R.cells ∧ slots + ms ≤ R.slots) (hdg : decode cc pc = .ok (.invokestatic index, 3))
    (kk : ∀ (H1 : Heap) (locs1 : List Loc), va_P E.1 vwCl (xm_w V M') H1 → (∀ (U : xm_V) (N : xm_M), (∀ i j, i < V.2.2 → j < U.2.2 → V.1 i ≠ U.1 j) → va_P E.1 vwCl (xm_w U N) H → va_P E.1 vwCl (xm_w U N) H1) → va_S (fun q : Nat => s.heap.size ≤ q) s.heap H1 locs1 → W p l e R s m args below meth c H1 locs1 (cells + mc) (slots + ms) Q (F0 m (pc + 3) ls ((r.map Value.int).toList ++ rest))) : W p l e R s m args below meth c H locs cells slots Q (F0 m pc ls st0) := by
  obtain ⟨f1, f2, f3, f5, f6⟩ := F
  have hA : ∀ q, xm_A V H.size q → s.heap.size ≤ q := fun q hq => by
    rcases hq with ⟨k, hk, rfl⟩ | hq
    · exact hVA k hk
    · exact Nat.le_trans hS.1 hq
  have hpre : ∀ T : State, T.heap = H → s.WarmedH T.vm → va_Pc As (xm_Pre E V M H.size) As.toArray T := by
    intro T hT hW
    subst hT
    exact ⟨rfl, rfl, hP, hK.warm hW, (hS0.kept hS.2.1 |>.moved hW.alike).narrow hA⟩
  have hr := va_runS (l := l) (e := e) (R := R) (below := below) (meth := meth) (cells := cells) (slots := slots) (locs := locs) (Ts := xm_tb) (As := As) (rest := rest) (g := F0 m pc ls st0) ⟨hx, hb, hml, hown, hts⟩ (hM H.size) ⟨callB_of n hts (xm_good f1 fun _ h => h) rfl rfl rfl (hts _ f5) (hts _ f2) f6 hR, hts _ f3⟩ ⟨xm_blind, hpre⟩ rfl hn hsz hst (lv_room hW) hdg hcs
  intro T hT X
  obtain ⟨v, st₀, t, T', L, h0, X', hL, e1, e2, ⟨⟨hv, hp⟩, hz, hk⟩, st⟩ := hr T hT X
  cases hv
  rw [h0] at hz hk
  obtain ⟨t2, a1, b1⟩ := kk T'.heap (locs ++ L) (by rw [e1]; exact hp) (fun U N hVU hPu => hPu.kept (fun k q hq => by
      obtain ⟨hkl, rfl⟩ := xm_get? hq
      rw [e1]
      have hlt := (hPu k _ hq).lt
      refine hk _ hlt (fun z => ?_)
      rcases z with ⟨i, hi, he⟩ | z
      · exact hVU i k hi hkl he.symm
      · exact absurd hlt (Nat.not_lt.mpr z))) ⟨Nat.le_trans hS.1 (by rw [e1]; exact hz), fun q h1 h2 => by rw [e1, hk q (Nat.lt_of_lt_of_le h1 hS.1) (fun z => h2 (hA q z))]; exact hS.2.1 q h1 h2, fun q hq => by
      rcases List.mem_append.mp hq with h | h
      · exact hS.2.2 q h
      · exact hA _ (hL q h)⟩ T' rfl X'
  exact ⟨t2, st t2 a1, b1⟩
theorem lw_cell {b L k : Nat} {xs : Nat → Int32} {st0 : List Value} (hx : p.tables.exec = Jvm.exec) (hb : c.code = cc) (hml : c.maxLocals = nL) (hown : s.vm.findClass RL = some m.cls) (hts : ∀ w ∈ xm_tb, w.before args s = true) (hX : va_X b L xs s s.heap) (hbl : b < s.heap.size) (hL : L ≤ 260) (hk : k ≤ 300) (hS : va_S (fun q : Nat => s.heap.size ≤ q) s.heap H locs) (rest : List Value) (hst : st0 = .int (nI k) :: .ref b :: rest) (hR : 0 + 1 ≤ R.frames ∧ 8 + (2 + 11) + 0 ≤ R.locals) (hsz : ls.size = nL) (hW : (rest.map fun v => v.category).sum ≤ 8) (hcs : cells ≤ R.cells ∧ slots ≤ R.slots) (hdg : decode cc pc = .ok (.invokestatic 94, 3))
    (kk : ∀ (H1 : Heap) (locs1 : List Loc), (∀ ws : va_W, va_P E.1 vwCl ws H → va_P E.1 vwCl ws H1) → va_S (fun q : Nat => s.heap.size ≤ q) s.heap H1 locs1 → W p l e R s m args below meth c H1 locs1 cells slots Q (F0 m (pc + 3) ls (.int (lc_v L xs (nI k)) :: rest))) : W p l e R s m args below meth c H locs cells slots Q (F0 m pc ls st0) := by
  obtain ⟨f1, f2, f3, f5, f6⟩ := k_L_94
  have hbA : ¬ (fun q : Nat => s.heap.size ≤ q) b := Nat.not_le.mpr hbl
  have hpre : ∀ T : State, T.heap = H → s.WarmedH T.vm → va_Pc [.ref b, .int (nI k)] (lc_Pre b L xs H.size) [Value.ref b, .int (nI k)].toArray T := by
    intro T hT hW
    subst hT
    exact ⟨rfl, rfl, Nat.lt_of_lt_of_le hbl hS.1, (hX.kept (hS.2.1 b hbl hbA)).moved hW.alike⟩
  have hr := va_runS (l := l) (e := e) (R := R) (below := below) (meth := meth) (cells := cells) (slots := slots) (locs := locs) (Ts := xm_tb) (As := [.ref b, .int (nI k)]) (rest := rest) (g := F0 m pc ls st0) ⟨hx, hb, hml, hown, hts⟩ (c_L_cell l hL xs hk H.size) ⟨callB_of 2 hts (xm_good f1 fun _ h => h) rfl rfl rfl (hts _ f5) (hts _ f2) f6 hR, hts _ f3⟩ ⟨lc_blind, hpre⟩ rfl rfl hsz hst (lv_room hW) hdg hcs
  intro T hT X
  obtain ⟨v, st₀, t, T', L, h0, X', hL, e1, e2, ⟨hv, hz, hk⟩, st⟩ := hr T hT X
  cases hv
  rw [h0] at hz hk
  obtain ⟨t2, a1, b1⟩ := kk T'.heap (locs ++ L) (fun ws hPu => hPu.kept (fun k q hq => by
      rw [e1]
      have hlt := (hPu k _ hq).lt
      exact hk _ hlt (Nat.not_le.mpr hlt))) ⟨Nat.le_trans hS.1 (by rw [e1]; exact hz), fun q h1 h2 => by rw [e1, hk q (Nat.lt_of_lt_of_le h1 hS.1) (Nat.not_le.mpr (Nat.lt_of_lt_of_le h1 hS.1))]; exact hS.2.1 q h1 h2, fun q hq => by
      rcases List.mem_append.mp hq with h | h
      · exact hS.2.2 q h
      · exact Nat.le_trans hS.1 (hL q h)⟩ T' rfl X'
  exact ⟨t2, st t2 a1, b1⟩
end LB
/-- isWell, as the law asks it -/
theorem v_well {B : Nat} {M N : xm_M} (hs : sI B M N) : ∃ M1 M' N' ne, f_X6_count 2000 M 0 = some (ne, M1) ∧ f_L_isWell_11 2000 M1 (fun _ _ => 0) ne = some (1, M', N') ∧ sI B M' N := by
  obtain ⟨A, h, hn, ho, tx, tx', tl, hI, hS, hh⟩ := hs
  obtain ⟨M1, a1, a2⟩ := y_count hI.1 (w := 0) (by omega)
  obtain ⟨M', N', b1, b2⟩ := v_isWell (N := fun _ _ => 0) a2 hS.2.1 hS.2.2 (n := 2000) (by omega)
  exact ⟨M1, M', N', nI A.1.1, a1 2000 (by omega), b1, A, h, hn, ho, tx, tx', tl, ⟨b2, hI.2⟩, hS, hh⟩
set_option maxHeartbeats 4000000 in
set_option maxRecDepth 100000 in
theorem xl_loop {p : Program} {l : Launch} {e : Env} {s : State} {m : MethodId} {below : List Frame} {meth : Method} {c : Code} {E : xm_E} {a bb : Nat → Nat} {b L : Nat} {xs : Nat → Int32} (C0 : lw_At p s m meth c b L xs) (hL : L ≤ 260) (hK : xm_K E s) (hS0 : xm_S E (fun q : Nat => s.heap.size ≤ q) s s.heap) (hDj : xm_D (xj (xv E a) (xv E bb))) (hXA : ∀ i, i < 120 → s.heap.size ≤ a i) (hYA : ∀ i, i < 120 → s.heap.size ≤ bb i) :
    ∀ (d k : Nat), k + d = 48 → ∀ (M N : xm_M), sI (25 + 17 * k) M N → ∀ (H : Heap) (locs : List Loc), va_P E.1 vwCl (xm_w (xj (xv E a) (xv E bb)) (xk 120 M N)) H → va_S (fun q : Nat => s.heap.size ≤ q) s.heap H locs → ∀ (ls : Array Slot), lv_has ls 5 [(0, .ref b), (1, .ref (a 0)), (2, .ref (bb 0)), (3, .int 1), (4, .int (nI k))] → W p l e room_1 s m #[Value.ref b] below meth c H locs (500 + k) (10000 + 25 * k) (lw_Z below #[Value.ref b] s) (F0 m 21 ls []) := by
  have C9 := C0
  obtain ⟨hx, hb, hr, hml, hown, hts9, hX, hbl, hlocks, hgv⟩ := C9
  have hts := xl_tb hts9
  have hDo := xj_D1 hDj
  have hD3 := xj_D3 hDj
  have hVA : ∀ i, i < (xj (xv E a) (xv E bb)).2.2 → s.heap.size ≤ (xj (xv E a) (xv E bb)).1 i := fun i hi => by
    have hi : i < 120 + 120 := hi
    by_cases q : i < 120
    · rw [xj_1 (V := xv E a) (U := xv E bb) q]; exact hXA i q
    · obtain ⟨j, rfl⟩ : ∃ j, i = 120 + j := ⟨i - 120, by omega⟩
      have e9 : (xj (xv E a) (xv E bb)).1 (120 + j) = bb j := xj_2 (V := xv E a) (U := xv E bb) j
      rw [e9]
      exact hYA j (by omega)
  /- isWell from a place of the body: 1 on the stack behind it -/
  have well : ∀ (cells slots pc : Nat) (M N : xm_M) (B : Nat) (H : Heap) (locs : List Loc) (ls : Array Slot), cells ≤ 1000 → slots ≤ 100000 → sI B M N → va_P E.1 vwCl (xm_w (xj (xv E a) (xv E bb)) (xk 120 M N)) H → va_S (fun q : Nat => s.heap.size ≤ q) s.heap H locs → ls.size = 5 → decode cL_law pc = .ok (.invokestatic 101, 3) → (∀ (M' : xm_M) (H1 : Heap) (locs1 : List Loc), sI B M' N → va_P E.1 vwCl (xm_w (xj (xv E a) (xv E bb)) (xk 120 M' N)) H1 → va_S (fun q : Nat => s.heap.size ≤ q) s.heap H1 locs1 → W p l e room_1 s m #[Value.ref b] below meth c H1 locs1 (cells + 1) (slots + 25) (lw_Z below #[Value.ref b] s) (F0 m (pc + 3) ls [.int 1])) → W p l e room_1 s m #[Value.ref b] below meth c H locs cells slots (lw_Z below #[Value.ref b] s) (F0 m pc ls [.ref (a 0)]) := by
    intro cells slots pc M N B H locs ls hc1 hc2 hs hP hS hsz hdg kk
    obtain ⟨M1, M', N', ne, w1, w2, w3⟩ := v_well hs
    have hPx : va_P E.1 vwCl (xm_w (xv E a) M) H := xj_P1 (V := xv E a) hP
    have hPy : va_P E.1 vwCl (xm_w (xv E bb) N) H := xj_P2 (V := xv E a) hP
    refine lw_callS (V := xv E a) hx hb hml hown hts hK hS0 hPx hXA hS [.ref (a 0)] [] (c_L_isWell hDo 2000 M M1 M' N' ne 1 w1 w2) k_L_101 rfl rfl ⟨Nat.le_of_ble_eq_true rfl, Nat.le_of_ble_eq_true rfl⟩ hsz (Nat.zero_le _) ⟨by show cells + 1 ≤ 600000; omega, by show slots + 25 ≤ 7302250; omega⟩ hdg (fun H1 locs1 h1 h2 h3 => ?_)
    exact kk M' H1 locs1 w3 (xj_P (V := xv E a) h1 (h2 (xv E bb) N hD3 hPy)) h3
  intro d
  induction d with
  | zero =>
    intro k hk M N hs H locs hP hS ls hl
    have ek : k = 48 := by omega
    subst ek
    refine lv_iload hx hb dL_law_21 (lv_at hl 4 rfl) ?_
    refine lv_bipush (v := 48) hx hb dL_law_23 (by decide) ?_
    refine lv_icmp_ge (tgt := 83) hx hb dL_law_25 (by decide) (fun _ => ?_) (fun c9 => absurd (by decide) c9)
    refine lv_iload_n hx hb dL_law_83 rfl (lv_at hl 3 rfl) ?_
    refine lv_if_eq (tgt := 106) hx hb dL_law_84 (by decide) (fun c9 => absurd c9 (by decide)) (fun _ => ?_)
    refine lv_aload_n hx hb dL_law_87 rfl (lv_at hl 1 rfl) ?_
    refine well _ _ 88 M N _ H locs ls (by omega) (by omega) hs hP hS hl.1 dL_law_88 (fun M1 H locs hs hP hS => ?_)
    refine lv_if_eq (tgt := 106) hx hb dL_law_91 (by decide) (fun c9 => absurd c9 (by decide)) (fun _ => ?_)
    refine lv_aload_n hx hb dL_law_94 rfl (lv_at hl 1 rfl) ?_
    refine lv_aload_n hx hb dL_law_95 rfl (lv_at hl 2 rfl) ?_
    obtain ⟨M2, N2, g1⟩ := v_areAlike hs (n := 2000) (by omega)
    refine lw_callS (V := xj (xv E a) (xv E bb)) hx hb hml hown hts hK hS0 hP hVA hS [.ref (a 0), .ref (bb 0)] [] (c_L_areAlike hDj 2000 M1 N 1 M2 N2 g1) k_L_105 rfl rfl ⟨Nat.le_of_ble_eq_true rfl, Nat.le_of_ble_eq_true rfl⟩ hl.1 (Nat.zero_le _) ⟨by decide, by decide⟩ dL_law_96 (fun H locs hP _ hS => ?_)
    change W p l e room_1 s m _ below meth c H locs _ _ _ (F0 m 99 ls [.int 1])
    refine lv_if_eq (tgt := 106) hx hb dL_law_99 (by decide) (fun c9 => absurd c9 (by decide)) (fun _ => ?_)
    refine lv_iconst (v := 1) hx hb dL_law_102 (by decide) ?_
    refine lv_goto (tgt := 107) hx hb dL_law_103 (by decide) ?_
    refine W.widen (k := 600000) (n := 7302250) (by decide) (by decide) ?_
    refine va_forget (fun q hq => hS.2.2 q hq) ?_
    exact lw_ret hx hb hr hlocks dL_law_107
  | succ d ih =>
    intro k hk M N hs H locs hP hS ls hl
    have hk48 : k < 48 := by omega
    have i48 : ¬ (48 : Int32) ≤ nI k := mt (xz_cle (c := 48) 48 rfl (by omega) (by omega)).mp (by omega)
    /- from 71 on -/
    have back : ∀ (M N : xm_M), sI (25 + 17 * (k + 1)) M N → ∀ (H : Heap) (locs : List Loc), va_P E.1 vwCl (xm_w (xj (xv E a) (xv E bb)) (xk 120 M N)) H → va_S (fun q : Nat => s.heap.size ≤ q) s.heap H locs → W p l e room_1 s m #[Value.ref b] below meth c H locs (500 + (k + 1)) (10000 + 25 * (k + 1)) (lw_Z below #[Value.ref b] s) (F0 m 71 ls []) := by
      intro M N hs H locs hP hS
      obtain ⟨y4, hy4⟩ : ∃ y : Int32, y = nI k + 1 := ⟨_, rfl⟩
      refine lv_iconst (v := 1) hx hb dL_law_71 (by decide) ?_
      refine lv_goto (tgt := 76) hx hb dL_law_72 (by decide) ?_
      refine lv_istore_n (lv' := [(3, .int 1), (0, .ref b), (1, .ref (a 0)), (2, .ref (bb 0)), (4, .int (nI k))]) hx hb dL_law_76 rfl hl (by decide) rfl (fun ls hl => ?_)
      refine lv_iinc (v := y4) (lv' := [(4, .int y4), (3, .int 1), (0, .ref b), (1, .ref (a 0)), (2, .ref (bb 0))]) hx hb dL_law_77 hl (k := 4) rfl (by rw [hy4]; rfl) (by decide) rfl (fun ls hl => ?_)
      refine lv_goto (tgt := 21) hx hb dL_law_80 (by decide) ?_
      rw [hy4, nI_1] at hl
      exact ih (k + 1) (by omega) M N hs H locs hP hS ls (lv_sub hl [2, 3, 4, 1, 0] rfl)
    refine lv_iload hx hb dL_law_21 (lv_at hl 4 rfl) ?_
    refine lv_bipush (v := 48) hx hb dL_law_23 (by decide) ?_
    refine lv_icmp_ge (tgt := 83) hx hb dL_law_25 (by decide) (fun c9 => absurd c9 i48) (fun _ => ?_)
    refine lv_iload_n hx hb dL_law_28 rfl (lv_at hl 3 rfl) ?_
    refine lv_if_eq (tgt := 83) hx hb dL_law_29 (by decide) (fun c9 => absurd c9 (by decide)) (fun _ => ?_)
    refine lv_aload_n hx hb dL_law_32 rfl (lv_at hl 1 rfl) ?_
    refine lv_aload_n hx hb dL_law_33 rfl (lv_at hl 2 rfl) ?_
    refine lv_aload_n hx hb dL_law_34 rfl (lv_at hl 0 rfl) ?_
    refine lv_iload hx hb dL_law_35 (lv_at hl 4 rfl) ?_
    refine lw_cell (E := E) (k := k) hx hb hml hown hts hX hbl hL (by omega) hS [.ref (bb 0), .ref (a 0)] rfl ⟨Nat.le_of_ble_eq_true rfl, Nat.le_of_ble_eq_true rfl⟩ hl.1 (Nat.le_of_ble_eq_true rfl) ⟨by show 500 + k ≤ 600000; omega, by show 10000 + 25 * k ≤ 7302250; omega⟩ dL_law_37 (fun H1 locs1 fP hS => ?_)
    have hP := fP _ hP
    change W p l e room_1 s m _ below meth c H1 locs1 _ _ _ (F0 m 40 ls [.int (lc_v L xs (nI k)), .ref (bb 0), .ref (a 0)])
    refine lv_aload_n hx hb dL_law_40 rfl (lv_at hl 0 rfl) ?_
    refine lv_iload hx hb dL_law_41 (lv_at hl 4 rfl) ?_
    refine lv_iconst (v := 1) hx hb dL_law_43 (by decide) ?_
    refine lv_iadd hx hb dL_law_44 ?_
    rw [nI_1]
    refine lw_cell (E := E) (k := k + 1) hx hb hml hown hts hX hbl hL (by omega) hS [.int (lc_v L xs (nI k)), .ref (bb 0), .ref (a 0)] rfl ⟨Nat.le_of_ble_eq_true rfl, Nat.le_of_ble_eq_true rfl⟩ hl.1 (Nat.le_of_ble_eq_true rfl) ⟨by show 500 + k ≤ 600000; omega, by show 10000 + 25 * k ≤ 7302250; omega⟩ dL_law_45 (fun H1 locs1 fP hS => ?_)
    have hP := fP _ hP
    change W p l e room_1 s m _ below meth c H1 locs1 _ _ _ (F0 m 48 ls [.int (lc_v L xs (nI (k + 1))), .int (lc_v L xs (nI k)), .ref (bb 0), .ref (a 0)])
    refine lv_iconst (v := 2) hx hb dL_law_48 (by decide) ?_
    refine lv_ishr hx hb dL_law_49 ?_
    obtain ⟨M1, N1, g1, g2⟩ := v_isStep hs (by omega) (by omega) (lc_v L xs (nI k)) (lc_v L xs (nI (k + 1)) >>> ((2 : Int32) &&& 31)) (n := 2000) (by omega)
    refine lw_callS (V := xj (xv E a) (xv E bb)) hx hb hml hown hts hK hS0 hP hVA hS [.ref (a 0), .ref (bb 0), .int (lc_v L xs (nI k)), .int (lc_v L xs (nI (k + 1)) >>> ((2 : Int32) &&& 31))] [] (c_L_isStep hDj 2000 M N _ _ 1 M1 N1 g1) k_L_98 rfl rfl ⟨Nat.le_of_ble_eq_true rfl, Nat.le_of_ble_eq_true rfl⟩ hl.1 (Nat.zero_le _) ⟨by show 500 + k + 0 ≤ 600000; omega, by show 10000 + 25 * k + 0 ≤ 7302250; omega⟩ dL_law_50 (fun H1 locs1 hP _ hS => ?_)
    change W p l e room_1 s m _ below meth c H1 locs1 (500 + k) (10000 + 25 * k) _ (F0 m 53 ls [.int 1])
    have g3 : sI (25 + 17 * (k + 1)) M1 N1 := by
      have e9 : 25 + 17 * (k + 1) = 25 + 17 * k + 17 := by omega
      rw [e9]
      exact g2
    refine lv_if_eq (tgt := 75) hx hb dL_law_53 (by decide) (fun c9 => absurd c9 (by decide)) (fun _ => ?_)
    refine lv_iload hx hb dL_law_56 (lv_at hl 4 rfl) ?_
    refine lv_bipush (v := 8) hx hb dL_law_58 (by decide) ?_
    refine lv_irem hx hb dL_law_60 (by decide) ?_
    refine lv_if_gt (tgt := 71) hx hb dL_law_61 (by decide) (fun _ => ?_) (fun _ => ?_)
    · refine W.widen (k := 500 + (k + 1)) (n := 10000 + 25 * (k + 1)) (by omega) (by omega) ?_
      exact back M1 N1 g3 H1 locs1 hP hS
    · refine lv_aload_n hx hb dL_law_64 rfl (lv_at hl 1 rfl) ?_
      refine well _ _ 65 M1 N1 _ H1 locs1 ls (by omega) (by omega) g3 hP hS hl.1 dL_law_65 (fun M2 H locs hs hP hS => ?_)
      refine lv_if_eq (tgt := 75) hx hb dL_law_68 (by decide) (fun c9 => absurd c9 (by decide)) (fun _ => ?_)
      exact back M2 N1 hs H locs hP hS
/-- the start -/
theorem sI_start : sI 25 xm_0 xm_0 := by
  have hW : ∀ (A : xa_S), A.1 = (0, 0, 20, 0) → ∀ h, yI A h 0 0 (fun _ => 0) 0 xm_0 := fun A hA h => by
    have e0 : A.1.1 = 0 := by rw [hA]
    have e1 : A.1.2.1 = 0 := by rw [hA]
    have e2 : A.1.2.2.1 = 20 := by rw [hA]
    have e3 : A.1.2.2.2 = 0 := by rw [hA]
    refine ⟨⟨⟨by omega, by omega, by omega, by omega, fun i hi => by omega, fun j hj => by omega⟩, by omega, by omega, fun i hi => by omega, (fun B hB => by cases hB), by omega, fun i hi => by omega⟩, ⟨by rw [e0]; rfl, by rw [e1]; rfl, by rw [e2]; rfl, by rw [e3]; rfl, fun i hi => by omega, fun j hj => by omega⟩, ⟨rfl, rfl, fun i hi => by omega⟩, rfl, rfl, fun i hi => by omega⟩
  exact ⟨((0, 0, 20, 0), (fun _ => (0, 0, 0)), fun _ => ((1, 0, 0, 0), fun _ => 0)), fun _ => ((0, 0, 20, 0), (fun _ => (0, 0, 0)), fun _ => ((1, 0, 0, 0), fun _ => 0)), 0, 0, _, _, 0, ⟨hW _ rfl _, hW _ (by rw [mirS_1]) _⟩, ⟨by show 0 ≤ 25; omega, fun j hj => absurd hj (Nat.not_lt_zero j), fun i hi => absurd hi (Nat.not_lt_zero i)⟩, fun i hi => absurd hi (Nat.not_lt_zero i)⟩
set_option maxHeartbeats 4000000 in
set_option maxRecDepth 100000 in
theorem whole_start {p : Program} {e : Env} {s : State} {m : MethodId} {below : List Frame} {meth : Method} {c : Code} (l : Launch) (hflags : l.flags = flags0) {b L : Nat} {xs : Nat → Int32} (hL : L ≤ 260) (C0 : lw_At p s m meth c b L xs) : W p l e room_1 s m #[Value.ref b] below meth c s.heap [] 0 0 (lw_Z below #[Value.ref b] s) (entryFrame m ([Value.ref b] : List Value).toArray 5) := by
  have C9 := C0
  obtain ⟨hx, hb, hr, hml, hown, hts9, hX, hbl, hlocks, hgv⟩ := C0
  have hts := xl_tb hts9
  have hA : ∀ q : Nat, s.heap.size ≤ q → (fun q : Nat => s.heap.size ≤ q) q := fun _ h => h
  obtain ⟨E, hK, hS0⟩ := xl_start hts9 hgv
  have hS : va_S (fun q : Nat => s.heap.size ≤ q) s.heap s.heap [] := va_S.rf
  have hP : va_P E.1 vwCl [] s.heap := fun k q h => by simp at h
  have hD : va_D (fun q : Nat => s.heap.size ≤ q) [] := ⟨fun i j p q h => by simp at h, fun k q h => by simp at h⟩
  have hl := lv_entry ([.ref b]) (n := 5) (Nat.le_of_ble_eq_true rfl)
  rw [lg_entry_eq]
  generalize (lg_sl ([.ref b]) ++ List.replicate (5 - (lg_sl ([.ref b])).length) Slot.unset).toArray = ls at hl ⊢
  have hl : lv_has ls 5 [(0, .ref b)] := hl
  refine va_new (ci := 6) (fs := [.null, .null, .int 0, .null, .null, .null, .null]) (C := RX6) (T := TX6) (N := 7) hx hb hts xi_6 tyX6 tyX6_ok hown (hts _ cl_L_12) (hts _ ibL_X6.1) (hts _ ibL_X6.2) hK.1 hP hD hS hA rfl (by decide +kernel) (Nat.le_of_ble_eq_true rfl) (Nat.le_of_ble_eq_true rfl) dL_law_0 (fun q0 H hP hD hS => ?_)
  refine lv_dup hx hb dL_law_3 rfl ?_
  refine xn_callI (q := q0) (rest := [.ref q0]) hx hb hml hown hts hK hP hD hS hA (c_X6_init l E) ki_L_93 rfl ⟨(Nat.le_of_ble_eq_true rfl), (Nat.le_of_ble_eq_true rfl)⟩ hl.1 (Nat.le_of_ble_eq_true rfl) ⟨(Nat.le_of_ble_eq_true rfl), (Nat.le_of_ble_eq_true rfl)⟩ dL_law_4 (fun w1 H locs hw hP hD hS => ?_)
  obtain ⟨a, rfl, rfl⟩ := hw
  have hP : va_P E.1 vwCl (xm_w (xv E a) xm_0) H := hP
  have hD : va_D (fun q : Nat => s.heap.size ≤ q) (xm_w (xv E a) xm_0) := hD
  refine lv_astore_n (lv' := [(1, .ref (a 0)), (0, .ref b)]) hx hb dL_law_7 rfl hl (by decide) rfl (fun ls hl => ?_)
  refine va_new (ci := 6) (fs := [.null, .null, .int 0, .null, .null, .null, .null]) (C := RX6) (T := TX6) (N := 7) hx hb hts xi_6 tyX6 tyX6_ok hown (hts _ cl_L_12) (hts _ ibL_X6.1) (hts _ ibL_X6.2) hK.1 hP hD hS hA rfl (by decide +kernel) (Nat.le_of_ble_eq_true rfl) (Nat.le_of_ble_eq_true rfl) dL_law_8 (fun q1 H hP hD hS => ?_)
  refine lv_dup hx hb dL_law_11 rfl ?_
  refine xn_callI (q := q1) (rest := [.ref q1]) hx hb hml hown hts hK hP hD hS hA (c_X6_init l E) ki_L_93 rfl ⟨(Nat.le_of_ble_eq_true rfl), (Nat.le_of_ble_eq_true rfl)⟩ hl.1 (Nat.le_of_ble_eq_true rfl) ⟨(Nat.le_of_ble_eq_true rfl), (Nat.le_of_ble_eq_true rfl)⟩ dL_law_12 (fun w1 H locs hw hP hD hS => ?_)
  obtain ⟨bb, rfl, rfl⟩ := hw
  refine lv_astore_n (lv' := [(2, .ref (bb 0)), (1, .ref (a 0)), (0, .ref b)]) hx hb dL_law_15 rfl hl (by decide) rfl (fun ls hl => ?_)
  refine lv_iconst (v := 1) hx hb dL_law_16 (by decide) ?_
  refine lv_istore_n (lv' := [(3, .int 1), (2, .ref (bb 0)), (1, .ref (a 0)), (0, .ref b)]) hx hb dL_law_17 rfl hl (by decide) rfl (fun ls hl => ?_)
  refine lv_iconst (v := 0) hx hb dL_law_18 (by decide) ?_
  refine lv_istore (lv' := [(4, .int 0), (3, .int 1), (2, .ref (bb 0)), (1, .ref (a 0)), (0, .ref b)]) hx hb dL_law_19 hl (by decide) rfl (fun ls hl => ?_)
  obtain ⟨d1, d2, d3, d4, d5⟩ := xl_split hD
  obtain ⟨hPx, hPm⟩ := xl_splitP hP
  refine W.widen (k := 500 + 0) (n := 10000 + 25 * 0) (Nat.le_of_ble_eq_true rfl) (Nat.le_of_ble_eq_true rfl) ?_
  exact xl_loop C9 hL hK hS0 (xj_D d1 d2 d3) d4 d5 48 0 (by omega) xm_0 xm_0 sI_start H locs (xj_P (V := xv E a) hPx hPm) hS ls (lv_sub hl [4, 3, 2, 1, 0] rfl)
