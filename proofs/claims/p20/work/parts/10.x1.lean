theorem l_X2_18 : Cond.fieldLink RX2 18 "WindowMatches$Pattern" "steps" "I" ∈ xm_tb := xm_tb_of (List.mem_of_getElem? (i := 42) (by decide +kernel)) rfl
theorem l_X2_21 : Cond.fieldLink RX2 21 "WindowMatches$Pattern" "plainSteps" "I" ∈ xm_tb := xm_tb_of (List.mem_of_getElem? (i := 46) (by decide +kernel)) rfl
theorem l_X2_28 : Cond.fieldLink RX2 28 "WindowMatches$Pattern" "absent" "[Z" ∈ xm_tb := xm_tb_of (List.mem_of_getElem? (i := 52) (by decide +kernel)) rfl
theorem k_X2_32 : xm_FV RX2 32 yX2_hasRoomForStep cX2_hasRoomForStep 1 (some .boolean) 0 := ⟨xm_tb_of (List.mem_of_getElem? (i := 498) (by decide +kernel)) rfl, xm_tb_of (List.mem_of_getElem? (i := 503) (by decide +kernel)) rfl, xm_tb_of (List.mem_of_getElem? (i := 497) (by decide +kernel)) rfl, xm_tb_sel (List.mem_of_getElem? (i := 29) (by decide +kernel)) rfl, xm_tb_of (List.mem_of_getElem? (i := 3) (by decide +kernel)) rfl, ⟨by decide +kernel, by decide +kernel, by decide +kernel⟩⟩
theorem l_X2_24 : Cond.fieldLink RX2 24 "WindowMatches$Pattern" "kinds" "[C" ∈ xm_tb := xm_tb_of (List.mem_of_getElem? (i := 49) (by decide +kernel)) rfl
theorem l_X2_9 : Cond.fieldLink RX2 9 "WindowMatches$Pattern" "window" "I" ∈ xm_tb := xm_tb_of (List.mem_of_getElem? (i := 34) (by decide +kernel)) rfl
theorem l_X2_15 : Cond.fieldLink RX2 15 "WindowMatches$Pattern" "rule" "I" ∈ xm_tb := xm_tb_of (List.mem_of_getElem? (i := 38) (by decide +kernel)) rfl
def f_X2_clearSteps (n : Nat) (M : xm_M) (o0 : Nat) : Option xm_M := xm_lt (xm_up M o0 2 0) (fun M1 => xm_lt (xm_up M1 o0 3 0) (fun M3 => some M3))
set_option maxHeartbeats 4000000 in
set_option maxRecDepth 100000 in
theorem t_X2_clearSteps_0 {l : Launch} {p : Program} {e : Env} {s : State} {m : MethodId} {args : Array Value} {below : List Frame} {meth : Method} {c : Code} {E : xm_E} {a : Nat → Nat} (C : xm_C E (xv E a) p s m args meth c RX2 cX2_clearSteps 1 none) {o0 : Nat} (h0 : xm_Pa o0) (n : Nat) (M : xm_M) (M' : xm_M) : f_X2_clearSteps n M o0 = some M' → ∀ (H : Heap) (locs : List Loc) (ls : Array Slot), va_P E.1 vwCl (xm_w (xv E a) M) H → va_S (xm_A (xv E a) s.heap.size) s.heap H locs → lv_has ls 1 [(0, .ref (a o0))] → W p l e { frames := 0, cells := 0, slots := 0, locals := 0 } s m args below meth c H locs 0 0 (MQ below (xm_Q E (xv E a) M' s.heap.size none) args s 0 0 (xm_A (xv E a) s.heap.size)) (F0 m 0 ls []) := by
  have C9 := C
  obtain ⟨hx, hb, hml, hown, hts, hr, hlk, hD, hK, hS9⟩ := C9
  intro h H locs ls hP hS hl
  unfold f_X2_clearSteps at h
  refine lv_aload_n hx hb dX2_clearSteps_0 rfl (lv_at hl 0 rfl) ?_
  refine lv_iconst (v := 0) hx hb dX2_clearSteps_1 (by decide) ?_
  obtain ⟨M1, e2, h⟩ := xm_lt_s h
  refine xm_put (V := (xv E a)) (T := TX2) (ty := .int) (x := 0) C hP hS o0 2 xi_2 rfl l_X2_18 rfl tyX2_ok nmX2 (xp_lt h0 0 (by omega)) ((xp_0 h0 E a) _) (Nat.le_of_ble_eq_true rfl) rfl (by decide +kernel) rfl rfl (Nat.le_of_ble_eq_true rfl) ((xp_0 h0 E a) _) dX2_clearSteps_2 (fun H locs hP hS => ?_)
  rw [← e2] at hP
  refine lv_aload_n hx hb dX2_clearSteps_5 rfl (lv_at hl 0 rfl) ?_
  refine lv_iconst (v := 0) hx hb dX2_clearSteps_6 (by decide) ?_
  obtain ⟨M3, e4, h⟩ := xm_lt_s h
  refine xm_put (V := (xv E a)) (T := TX2) (ty := .int) (x := 0) C hP hS o0 3 xi_2 rfl l_X2_21 rfl tyX2_ok nmX2 (xp_lt h0 0 (by omega)) ((xp_0 h0 E a) _) (Nat.le_of_ble_eq_true rfl) rfl (by decide +kernel) rfl rfl (Nat.le_of_ble_eq_true rfl) ((xp_0 h0 E a) _) dX2_clearSteps_7 (fun H locs hP hS => ?_)
  rw [← e4] at hP
  cases xm_on h
  exact xm_retV C hP hS dX2_clearSteps_10
theorem c_X2_clearSteps {l : Launch} {E : xm_E} {a : Nat → Nat} (hD : xm_D (xv E a)) {o0 : Nat} (h0 : xm_Pa o0) (n : Nat) (M : xm_M) (M' : xm_M) (h : f_X2_clearSteps n M o0 = some M') : xm_Met l E (xv E a) yX2_clearSteps cX2_clearSteps 1 none 0 0 [.ref (a o0)] M M' none :=
  xm_met (by decide +kernel) rfl (Nat.le_of_ble_eq_true rfl) hD (fun p e s m below meth c C hP ls hl => t_X2_clearSteps_0 C h0 n M M' h _ _ _ hP va_S.rf hl)
def f_X2_hasRoomForStep (n : Nat) (M : xm_M) (o0 : Nat) : Option (Int32 × xm_M) := if (8 : Int32) ≤ (M o0 2) then some (0, M) else some (1, M)
set_option maxHeartbeats 4000000 in
set_option maxRecDepth 100000 in
theorem t_X2_hasRoomForStep_0 {l : Launch} {p : Program} {e : Env} {s : State} {m : MethodId} {args : Array Value} {below : List Frame} {meth : Method} {c : Code} {E : xm_E} {a : Nat → Nat} (C : xm_C E (xv E a) p s m args meth c RX2 cX2_hasRoomForStep 1 (some .boolean)) {o0 : Nat} (h0 : xm_Pa o0) (n : Nat) (M : xm_M) (r : Int32) (M' : xm_M) : f_X2_hasRoomForStep n M o0 = some (r, M') → ∀ (H : Heap) (locs : List Loc) (ls : Array Slot), va_P E.1 vwCl (xm_w (xv E a) M) H → va_S (xm_A (xv E a) s.heap.size) s.heap H locs → lv_has ls 1 [(0, .ref (a o0))] → W p l e { frames := 0, cells := 0, slots := 0, locals := 0 } s m args below meth c H locs 0 0 (MQ below (xm_Q E (xv E a) M' s.heap.size (some r)) args s 0 0 (xm_A (xv E a) s.heap.size)) (F0 m 0 ls []) := by
  have C9 := C
  obtain ⟨hx, hb, hml, hown, hts, hr, hlk, hD, hK, hS9⟩ := C9
  intro h H locs ls hP hS hl
  unfold f_X2_hasRoomForStep at h
  refine lv_aload_n hx hb dX2_hasRoomForStep_0 rfl (lv_at hl 0 rfl) ?_
  refine xm_get (V := (xv E a)) (T := TX2) (v := .int (M o0 2)) C hP o0 2 xi_2 rfl l_X2_18 rfl (xp_lt h0 0 (by omega)) ((xp_0 h0 E a) _) (Nat.le_of_ble_eq_true rfl) rfl dX2_hasRoomForStep_1 ?_
  refine lv_bipush (v := 8) hx hb dX2_hasRoomForStep_4 (by decide) ?_
  refine lv_icmp_ge (tgt := 13) hx hb dX2_hasRoomForStep_6 (by decide) (fun c1 => ?_) (fun c1 => ?_)
  · rw [if_pos c1] at h
    refine lv_iconst (v := 0) hx hb dX2_hasRoomForStep_13 (by decide) ?_
    obtain ⟨rfl, rfl⟩ := xm_pr h
    exact xm_retZ C hP hS (by rfl) dX2_hasRoomForStep_14
  · rw [if_neg c1] at h
    refine lv_iconst (v := 1) hx hb dX2_hasRoomForStep_9 (by decide) ?_
    refine lv_goto (tgt := 14) hx hb dX2_hasRoomForStep_10 (by decide) ?_
    obtain ⟨rfl, rfl⟩ := xm_pr h
    exact xm_retZ C hP hS (by rfl) dX2_hasRoomForStep_14
theorem c_X2_hasRoomForStep {l : Launch} {E : xm_E} {a : Nat → Nat} (hD : xm_D (xv E a)) {o0 : Nat} (h0 : xm_Pa o0) (n : Nat) (M : xm_M) (r : Int32) (M' : xm_M) (h : f_X2_hasRoomForStep n M o0 = some (r, M')) : xm_Met l E (xv E a) yX2_hasRoomForStep cX2_hasRoomForStep 1 (some .boolean) 0 0 [.ref (a o0)] M M' (some r) :=
  xm_met (by decide +kernel) rfl (Nat.le_of_ble_eq_true rfl) hD (fun p e s m below meth c C hP ls hl => t_X2_hasRoomForStep_0 C h0 n M r M' h _ _ _ hP va_S.rf hl)
def f_X2_endsWithPlainStep (n : Nat) (M : xm_M) (o0 : Nat) : Option (Int32 × xm_M) := if (M o0 2) ≤ 0 then some (0, M) else if (8 : Int32) < (M o0 2) then some (0, M) else xm_ck (xm_in ((M o0 2) - 1) 8) (if (M (o0 + 2) ((M o0 2) - 1).toNatClampNeg) = 0 then some (1, M) else some (0, M))
set_option maxHeartbeats 4000000 in
set_option maxRecDepth 100000 in
theorem t_X2_endsWithPlainStep_0 {l : Launch} {p : Program} {e : Env} {s : State} {m : MethodId} {args : Array Value} {below : List Frame} {meth : Method} {c : Code} {E : xm_E} {a : Nat → Nat} (C : xm_C E (xv E a) p s m args meth c RX2 cX2_endsWithPlainStep 1 (some .boolean)) {o0 : Nat} (h0 : xm_Pa o0) (n : Nat) (M : xm_M) (r : Int32) (M' : xm_M) : f_X2_endsWithPlainStep n M o0 = some (r, M') → ∀ (H : Heap) (locs : List Loc) (ls : Array Slot), va_P E.1 vwCl (xm_w (xv E a) M) H → va_S (xm_A (xv E a) s.heap.size) s.heap H locs → lv_has ls 1 [(0, .ref (a o0))] → W p l e { frames := 0, cells := 0, slots := 0, locals := 0 } s m args below meth c H locs 0 0 (MQ below (xm_Q E (xv E a) M' s.heap.size (some r)) args s 0 0 (xm_A (xv E a) s.heap.size)) (F0 m 0 ls []) := by
  have C9 := C
  obtain ⟨hx, hb, hml, hown, hts, hr, hlk, hD, hK, hS9⟩ := C9
  intro h H locs ls hP hS hl
  unfold f_X2_endsWithPlainStep at h
  refine lv_aload_n hx hb dX2_endsWithPlainStep_0 rfl (lv_at hl 0 rfl) ?_
  refine xm_get (V := (xv E a)) (T := TX2) (v := .int (M o0 2)) C hP o0 2 xi_2 rfl l_X2_18 rfl (xp_lt h0 0 (by omega)) ((xp_0 h0 E a) _) (Nat.le_of_ble_eq_true rfl) rfl dX2_endsWithPlainStep_1 ?_
  refine lv_if_le (tgt := 34) hx hb dX2_endsWithPlainStep_4 (by decide) (fun c1 => ?_) (fun c1 => ?_)
  · rw [if_pos c1] at h
    refine lv_iconst (v := 0) hx hb dX2_endsWithPlainStep_34 (by decide) ?_
    obtain ⟨rfl, rfl⟩ := xm_pr h
    exact xm_retZ C hP hS (by rfl) dX2_endsWithPlainStep_35
  · rw [if_neg c1] at h
    refine lv_aload_n hx hb dX2_endsWithPlainStep_7 rfl (lv_at hl 0 rfl) ?_
    refine xm_get (V := (xv E a)) (T := TX2) (v := .int (M o0 2)) C hP o0 2 xi_2 rfl l_X2_18 rfl (xp_lt h0 0 (by omega)) ((xp_0 h0 E a) _) (Nat.le_of_ble_eq_true rfl) rfl dX2_endsWithPlainStep_8 ?_
    refine lv_bipush (v := 8) hx hb dX2_endsWithPlainStep_11 (by decide) ?_
    refine lv_icmp_gt (tgt := 34) hx hb dX2_endsWithPlainStep_13 (by decide) (fun c2 => ?_) (fun c2 => ?_)
    · rw [if_pos c2] at h
      refine lv_iconst (v := 0) hx hb dX2_endsWithPlainStep_34 (by decide) ?_
      obtain ⟨rfl, rfl⟩ := xm_pr h
      exact xm_retZ C hP hS (by rfl) dX2_endsWithPlainStep_35
    · rw [if_neg c2] at h
      refine lv_aload_n hx hb dX2_endsWithPlainStep_16 rfl (lv_at hl 0 rfl) ?_
      refine xm_get (V := (xv E a)) (T := TX2) (v := .ref (a (o0 + 2))) C hP o0 5 xi_2 rfl l_X2_28 rfl (xp_lt h0 0 (by omega)) ((xp_0 h0 E a) _) (Nat.le_of_ble_eq_true rfl) rfl dX2_endsWithPlainStep_17 ?_
      refine lv_aload_n hx hb dX2_endsWithPlainStep_20 rfl (lv_at hl 0 rfl) ?_
      refine xm_get (V := (xv E a)) (T := TX2) (v := .int (M o0 2)) C hP o0 2 xi_2 rfl l_X2_18 rfl (xp_lt h0 0 (by omega)) ((xp_0 h0 E a) _) (Nat.le_of_ble_eq_true rfl) rfl dX2_endsWithPlainStep_21 ?_
      refine lv_iconst (v := 1) hx hb dX2_endsWithPlainStep_24 (by decide) ?_
      refine lv_isub hx hb dX2_endsWithPlainStep_25 ?_
      obtain ⟨b3, h⟩ := xm_ck_s h
      refine xm_zald (V := (xv E a)) C hP (o0 + 2) 8 (xp_lt h0 2 (by omega)) (xp_2 h0 E a) b3 dX2_endsWithPlainStep_26 ?_
      refine lv_if_ne (tgt := 34) hx hb dX2_endsWithPlainStep_27 (by decide) (fun c4 => ?_) (fun c4 => ?_)
      · rw [if_neg c4] at h
        refine lv_iconst (v := 0) hx hb dX2_endsWithPlainStep_34 (by decide) ?_
        obtain ⟨rfl, rfl⟩ := xm_pr h
        exact xm_retZ C hP hS (by rfl) dX2_endsWithPlainStep_35
      · rw [if_pos c4] at h
        refine lv_iconst (v := 1) hx hb dX2_endsWithPlainStep_30 (by decide) ?_
        refine lv_goto (tgt := 35) hx hb dX2_endsWithPlainStep_31 (by decide) ?_
        obtain ⟨rfl, rfl⟩ := xm_pr h
        exact xm_retZ C hP hS (by rfl) dX2_endsWithPlainStep_35
theorem c_X2_endsWithPlainStep {l : Launch} {E : xm_E} {a : Nat → Nat} (hD : xm_D (xv E a)) {o0 : Nat} (h0 : xm_Pa o0) (n : Nat) (M : xm_M) (r : Int32) (M' : xm_M) (h : f_X2_endsWithPlainStep n M o0 = some (r, M')) : xm_Met l E (xv E a) yX2_endsWithPlainStep cX2_endsWithPlainStep 1 (some .boolean) 0 0 [.ref (a o0)] M M' (some r) :=
  xm_met (by decide +kernel) rfl (Nat.le_of_ble_eq_true rfl) hD (fun p e s m below meth c C hP ls hl => t_X2_endsWithPlainStep_0 C h0 n M r M' h _ _ _ hP va_S.rf hl)
def f_X2_addStep (n : Nat) (M : xm_M) (o0 : Nat) (x1 : Int32) (x2 : Int32) : Option xm_M := xm_b2 (f_X2_hasRoomForStep n M o0) (fun r2 M1 => if r2 = 0 then some M1 else xm_ck (xm_in (M1 o0 2) 8) (xm_lt (xm_up M1 (o0 + 1) (M1 o0 2).toNatClampNeg (vp_nar .char x1)) (fun M6 => xm_ck (xm_in (M6 o0 2) 8) (xm_lt (xm_up M6 (o0 + 2) (M6 o0 2).toNatClampNeg (vp_nar .boolean x2)) (fun M9 => xm_lt (xm_up M9 o0 2 ((M9 o0 2) + 1)) (fun M11 => if x2 = 0 then xm_lt (xm_up M11 o0 3 ((M11 o0 3) + 1)) (fun M14 => some M14) else some M11))))))
set_option maxHeartbeats 4000000 in
set_option maxRecDepth 100000 in
theorem t_X2_addStep_0 {l : Launch} {p : Program} {e : Env} {s : State} {m : MethodId} {args : Array Value} {below : List Frame} {meth : Method} {c : Code} {E : xm_E} {a : Nat → Nat} (C : xm_C E (xv E a) p s m args meth c RX2 cX2_addStep 3 none) {o0 : Nat} (h0 : xm_Pa o0) (n : Nat) (M : xm_M) (x1 : Int32) (x2 : Int32) (M' : xm_M) : f_X2_addStep n M o0 x1 x2 = some M' → ∀ (H : Heap) (locs : List Loc) (ls : Array Slot), va_P E.1 vwCl (xm_w (xv E a) M) H → va_S (xm_A (xv E a) s.heap.size) s.heap H locs → lv_has ls 3 [(0, .ref (a o0)), (1, .int x1), (2, .int x2)] → W p l e { frames := 1, cells := 0, slots := 0, locals := 20 } s m args below meth c H locs 0 0 (MQ below (xm_Q E (xv E a) M' s.heap.size none) args s 0 0 (xm_A (xv E a) s.heap.size)) (F0 m 0 ls []) := by
  have C9 := C
  obtain ⟨hx, hb, hml, hown, hts, hr, hlk, hD, hK, hS9⟩ := C9
  intro h H locs ls hP hS hl
  unfold f_X2_addStep at h
  refine lv_aload_n hx hb dX2_addStep_0 rfl (lv_at hl 0 rfl) ?_
  obtain ⟨r2, M1, e3, h⟩ := xm_b2_s h
  refine xm_callV C hP hS [] [] (c_X2_hasRoomForStep hD h0 n M  r2 M1 e3) k_X2_32 (xm_recv C hP o0 rfl (xp_lt h0 0 (by omega)) ((xp_0 h0 E a) _)) rfl rfl ⟨(Nat.le_of_ble_eq_true rfl), (Nat.le_of_ble_eq_true rfl)⟩ hl.1 (Nat.le_of_ble_eq_true rfl) ⟨Nat.zero_le _, Nat.zero_le _⟩ dX2_addStep_1 (fun H locs hP hS => ?_)
  change W p l e _ s m _ below meth c H locs 0 0 _ (F0 m 4 ls [.int r2])
  refine lv_if_ne (tgt := 8) hx hb dX2_addStep_4 (by decide) (fun c4 => ?_) (fun c4 => ?_)
  · rw [if_neg c4] at h
    refine lv_aload_n hx hb dX2_addStep_8 rfl (lv_at hl 0 rfl) ?_
    refine xm_get (V := (xv E a)) (T := TX2) (v := .ref (a (o0 + 1))) C hP o0 4 xi_2 rfl l_X2_24 rfl (xp_lt h0 0 (by omega)) ((xp_0 h0 E a) _) (Nat.le_of_ble_eq_true rfl) rfl dX2_addStep_9 ?_
    refine lv_aload_n hx hb dX2_addStep_12 rfl (lv_at hl 0 rfl) ?_
    refine xm_get (V := (xv E a)) (T := TX2) (v := .int (M1 o0 2)) C hP o0 2 xi_2 rfl l_X2_18 rfl (xp_lt h0 0 (by omega)) ((xp_0 h0 E a) _) (Nat.le_of_ble_eq_true rfl) rfl dX2_addStep_13 ?_
    refine lv_iload_n hx hb dX2_addStep_16 rfl (lv_at hl 1 rfl) ?_
    obtain ⟨b5, h⟩ := xm_ck_s h
    obtain ⟨M6, e7, h⟩ := xm_lt_s h
    refine xm_cast (V := (xv E a)) C hP hS (o0 + 1) 8 (xp_lt h0 1 (by omega)) (xp_1 h0 E a) b5 dX2_addStep_17 (fun H locs hP hS => ?_)
    rw [← e7] at hP
    refine lv_aload_n hx hb dX2_addStep_18 rfl (lv_at hl 0 rfl) ?_
    refine xm_get (V := (xv E a)) (T := TX2) (v := .ref (a (o0 + 2))) C hP o0 5 xi_2 rfl l_X2_28 rfl (xp_lt h0 0 (by omega)) ((xp_0 h0 E a) _) (Nat.le_of_ble_eq_true rfl) rfl dX2_addStep_19 ?_
    refine lv_aload_n hx hb dX2_addStep_22 rfl (lv_at hl 0 rfl) ?_
    refine xm_get (V := (xv E a)) (T := TX2) (v := .int (M6 o0 2)) C hP o0 2 xi_2 rfl l_X2_18 rfl (xp_lt h0 0 (by omega)) ((xp_0 h0 E a) _) (Nat.le_of_ble_eq_true rfl) rfl dX2_addStep_23 ?_
    refine lv_iload_n hx hb dX2_addStep_26 rfl (lv_at hl 2 rfl) ?_
    obtain ⟨b8, h⟩ := xm_ck_s h
    obtain ⟨M9, e10, h⟩ := xm_lt_s h
    refine xm_zast (V := (xv E a)) C hP hS (o0 + 2) 8 (xp_lt h0 2 (by omega)) (xp_2 h0 E a) b8 dX2_addStep_27 (fun H locs hP hS => ?_)
    rw [← e10] at hP
    refine lv_aload_n hx hb dX2_addStep_28 rfl (lv_at hl 0 rfl) ?_
    refine lv_dup hx hb dX2_addStep_29 rfl ?_
    refine xm_get (V := (xv E a)) (T := TX2) (v := .int (M9 o0 2)) C hP o0 2 xi_2 rfl l_X2_18 rfl (xp_lt h0 0 (by omega)) ((xp_0 h0 E a) _) (Nat.le_of_ble_eq_true rfl) rfl dX2_addStep_30 ?_
    refine lv_iconst (v := 1) hx hb dX2_addStep_33 (by decide) ?_
    refine lv_iadd hx hb dX2_addStep_34 ?_
    obtain ⟨M11, e12, h⟩ := xm_lt_s h
    refine xm_put (V := (xv E a)) (T := TX2) (ty := .int) (x := (M9 o0 2) + 1) C hP hS o0 2 xi_2 rfl l_X2_18 rfl tyX2_ok nmX2 (xp_lt h0 0 (by omega)) ((xp_0 h0 E a) _) (Nat.le_of_ble_eq_true rfl) rfl (by decide +kernel) rfl rfl (Nat.le_of_ble_eq_true rfl) ((xp_0 h0 E a) _) dX2_addStep_35 (fun H locs hP hS => ?_)
    rw [← e12] at hP
    refine lv_iload_n hx hb dX2_addStep_38 rfl (lv_at hl 2 rfl) ?_
    refine lv_if_ne (tgt := 52) hx hb dX2_addStep_39 (by decide) (fun c13 => ?_) (fun c13 => ?_)
    · rw [if_neg c13] at h
      cases xm_on h
      exact xm_retV C hP hS dX2_addStep_52
    · rw [if_pos c13] at h
      refine lv_aload_n hx hb dX2_addStep_42 rfl (lv_at hl 0 rfl) ?_
      refine lv_dup hx hb dX2_addStep_43 rfl ?_
      refine xm_get (V := (xv E a)) (T := TX2) (v := .int (M11 o0 3)) C hP o0 3 xi_2 rfl l_X2_21 rfl (xp_lt h0 0 (by omega)) ((xp_0 h0 E a) _) (Nat.le_of_ble_eq_true rfl) rfl dX2_addStep_44 ?_
      refine lv_iconst (v := 1) hx hb dX2_addStep_47 (by decide) ?_
      refine lv_iadd hx hb dX2_addStep_48 ?_
      obtain ⟨M14, e15, h⟩ := xm_lt_s h
      refine xm_put (V := (xv E a)) (T := TX2) (ty := .int) (x := (M11 o0 3) + 1) C hP hS o0 3 xi_2 rfl l_X2_21 rfl tyX2_ok nmX2 (xp_lt h0 0 (by omega)) ((xp_0 h0 E a) _) (Nat.le_of_ble_eq_true rfl) rfl (by decide +kernel) rfl rfl (Nat.le_of_ble_eq_true rfl) ((xp_0 h0 E a) _) dX2_addStep_49 (fun H locs hP hS => ?_)
      rw [← e15] at hP
      cases xm_on h
      exact xm_retV C hP hS dX2_addStep_52
  · rw [if_pos c4] at h
    cases xm_on h
    exact xm_retV C hP hS dX2_addStep_7
theorem c_X2_addStep {l : Launch} {E : xm_E} {a : Nat → Nat} (hD : xm_D (xv E a)) {o0 : Nat} (h0 : xm_Pa o0) (n : Nat) (M : xm_M) (x1 : Int32) (x2 : Int32) (M' : xm_M) (h : f_X2_addStep n M o0 x1 x2 = some M') : xm_Met l E (xv E a) yX2_addStep cX2_addStep 3 none 1 20 [.ref (a o0), .int x1, .int x2] M M' none :=
  xm_met (by decide +kernel) rfl (Nat.le_of_ble_eq_true rfl) hD (fun p e s m below meth c C hP ls hl => t_X2_addStep_0 C h0 n M x1 x2 M' h _ _ _ hP va_S.rf hl)
def f_X2_copyFrom_34 : Nat → xm_M → Nat → Nat → Int32 → Option xm_M
  | 0, _, _, _, _ => none
  | n + 1, M, o0, o1, x2 => if (8 : Int32) ≤ x2 then some M else xm_ck (xm_in x2 8) (xm_ck (xm_in x2 8) (xm_lt (xm_up M (o0 + 1) x2.toNatClampNeg (vp_nar .char (M (o1 + 1) x2.toNatClampNeg))) (fun M4 => xm_ck (xm_in x2 8) (xm_ck (xm_in x2 8) (xm_lt (xm_up M4 (o0 + 2) x2.toNatClampNeg (vp_nar .boolean (M4 (o1 + 2) x2.toNatClampNeg))) (fun M8 => f_X2_copyFrom_34 n M8 o0 o1 (x2 + 1)))))))
set_option maxHeartbeats 4000000 in
set_option maxRecDepth 100000 in
theorem t_X2_copyFrom_34 {l : Launch} {p : Program} {e : Env} {s : State} {m : MethodId} {args : Array Value} {below : List Frame} {meth : Method} {c : Code} {E : xm_E} {a : Nat → Nat} (C : xm_C E (xv E a) p s m args meth c RX2 cX2_copyFrom 3 none) {o0 : Nat} {o1 : Nat} (h0 : xm_Pa o0) (h1 : xm_Pa o1) : ∀ (n : Nat) (M : xm_M) (x2 : Int32) (M' : xm_M), f_X2_copyFrom_34 n M o0 o1 x2 = some M' → ∀ (H : Heap) (locs : List Loc) (ls : Array Slot), va_P E.1 vwCl (xm_w (xv E a) M) H → va_S (xm_A (xv E a) s.heap.size) s.heap H locs → lv_has ls 3 [(0, .ref (a o0)), (1, .ref (a o1)), (2, .int x2)] → W p l e { frames := 0, cells := 0, slots := 0, locals := 0 } s m args below meth c H locs 0 0 (MQ below (xm_Q E (xv E a) M' s.heap.size none) args s 0 0 (xm_A (xv E a) s.heap.size)) (F0 m 34 ls []) := by
  have C9 := C
  obtain ⟨hx, hb, hml, hown, hts, hr, hlk, hD, hK, hS9⟩ := C9
  intro n
  induction n with
  | zero =>
    intro M x2 M' h
    cases h
  | succ n ih =>
    intro M x2 M' h H locs ls hP hS hl
    rw [f_X2_copyFrom_34] at h
    refine lv_iload_n hx hb dX2_copyFrom_34 rfl (lv_at hl 2 rfl) ?_
    refine lv_bipush (v := 8) hx hb dX2_copyFrom_35 (by decide) ?_
    refine lv_icmp_ge (tgt := 70) hx hb dX2_copyFrom_37 (by decide) (fun c1 => ?_) (fun c1 => ?_)
    · rw [if_pos c1] at h
      cases xm_on h
      exact xm_retV C hP hS dX2_copyFrom_70
    · rw [if_neg c1] at h
      refine lv_aload_n hx hb dX2_copyFrom_40 rfl (lv_at hl 0 rfl) ?_
      refine xm_get (V := (xv E a)) (T := TX2) (v := .ref (a (o0 + 1))) C hP o0 4 xi_2 rfl l_X2_24 rfl (xp_lt h0 0 (by omega)) ((xp_0 h0 E a) _) (Nat.le_of_ble_eq_true rfl) rfl dX2_copyFrom_41 ?_
      refine lv_iload_n hx hb dX2_copyFrom_44 rfl (lv_at hl 2 rfl) ?_
      refine lv_aload_n hx hb dX2_copyFrom_45 rfl (lv_at hl 1 rfl) ?_
      refine xm_get (V := (xv E a)) (T := TX2) (v := .ref (a (o1 + 1))) C hP o1 4 xi_2 rfl l_X2_24 rfl (xp_lt h1 0 (by omega)) ((xp_0 h1 E a) _) (Nat.le_of_ble_eq_true rfl) rfl dX2_copyFrom_46 ?_
      refine lv_iload_n hx hb dX2_copyFrom_49 rfl (lv_at hl 2 rfl) ?_
      obtain ⟨b2, h⟩ := xm_ck_s h
      refine xm_cald (V := (xv E a)) C hP (o1 + 1) 8 (xp_lt h1 1 (by omega)) (xp_1 h1 E a) b2 dX2_copyFrom_50 ?_
      obtain ⟨b3, h⟩ := xm_ck_s h
      obtain ⟨M4, e5, h⟩ := xm_lt_s h
      refine xm_cast (V := (xv E a)) C hP hS (o0 + 1) 8 (xp_lt h0 1 (by omega)) (xp_1 h0 E a) b3 dX2_copyFrom_51 (fun H locs hP hS => ?_)
      rw [← e5] at hP
      refine lv_aload_n hx hb dX2_copyFrom_52 rfl (lv_at hl 0 rfl) ?_
      refine xm_get (V := (xv E a)) (T := TX2) (v := .ref (a (o0 + 2))) C hP o0 5 xi_2 rfl l_X2_28 rfl (xp_lt h0 0 (by omega)) ((xp_0 h0 E a) _) (Nat.le_of_ble_eq_true rfl) rfl dX2_copyFrom_53 ?_
      refine lv_iload_n hx hb dX2_copyFrom_56 rfl (lv_at hl 2 rfl) ?_
      refine lv_aload_n hx hb dX2_copyFrom_57 rfl (lv_at hl 1 rfl) ?_
      refine xm_get (V := (xv E a)) (T := TX2) (v := .ref (a (o1 + 2))) C hP o1 5 xi_2 rfl l_X2_28 rfl (xp_lt h1 0 (by omega)) ((xp_0 h1 E a) _) (Nat.le_of_ble_eq_true rfl) rfl dX2_copyFrom_58 ?_
      refine lv_iload_n hx hb dX2_copyFrom_61 rfl (lv_at hl 2 rfl) ?_
      obtain ⟨b6, h⟩ := xm_ck_s h
      refine xm_zald (V := (xv E a)) C hP (o1 + 2) 8 (xp_lt h1 2 (by omega)) (xp_2 h1 E a) b6 dX2_copyFrom_62 ?_
      obtain ⟨b7, h⟩ := xm_ck_s h
      obtain ⟨M8, e9, h⟩ := xm_lt_s h
      refine xm_zast (V := (xv E a)) C hP hS (o0 + 2) 8 (xp_lt h0 2 (by omega)) (xp_2 h0 E a) b7 dX2_copyFrom_63 (fun H locs hP hS => ?_)
      rw [← e9] at hP
      refine lv_iinc (v := x2 + 1) (lv' := [(2, .int (x2 + 1)), (0, .ref (a o0)), (1, .ref (a o1))]) hx hb dX2_copyFrom_64 hl (k := 2) rfl (xm_add (by decide)) (by decide) rfl (fun ls hl => ?_)
      refine lv_goto (tgt := 34) hx hb dX2_copyFrom_67 (by decide) ?_
      exact ih M8 (x2 + 1) M' h _ _ _ hP hS (lv_sub hl [1, 2, 0] rfl)
def f_X2_copyFrom (n : Nat) (M : xm_M) (o0 : Nat) (o1 : Nat) : Option xm_M := xm_lt (xm_up M o0 0 (M o1 0)) (fun M1 => xm_lt (xm_up M1 o0 1 (M1 o1 1)) (fun M3 => xm_lt (xm_up M3 o0 2 (M3 o1 2)) (fun M5 => xm_lt (xm_up M5 o0 3 (M5 o1 3)) (fun M7 => f_X2_copyFrom_34 n M7 o0 o1 0))))
set_option maxHeartbeats 4000000 in
set_option maxRecDepth 100000 in
theorem t_X2_copyFrom_0 {l : Launch} {p : Program} {e : Env} {s : State} {m : MethodId} {args : Array Value} {below : List Frame} {meth : Method} {c : Code} {E : xm_E} {a : Nat → Nat} (C : xm_C E (xv E a) p s m args meth c RX2 cX2_copyFrom 3 none) {o0 : Nat} {o1 : Nat} (h0 : xm_Pa o0) (h1 : xm_Pa o1) (n : Nat) (M : xm_M) (M' : xm_M) : f_X2_copyFrom n M o0 o1 = some M' → ∀ (H : Heap) (locs : List Loc) (ls : Array Slot), va_P E.1 vwCl (xm_w (xv E a) M) H → va_S (xm_A (xv E a) s.heap.size) s.heap H locs → lv_has ls 3 [(0, .ref (a o0)), (1, .ref (a o1))] → W p l e { frames := 0, cells := 0, slots := 0, locals := 0 } s m args below meth c H locs 0 0 (MQ below (xm_Q E (xv E a) M' s.heap.size none) args s 0 0 (xm_A (xv E a) s.heap.size)) (F0 m 0 ls []) := by
  have C9 := C
  obtain ⟨hx, hb, hml, hown, hts, hr, hlk, hD, hK, hS9⟩ := C9
  intro h H locs ls hP hS hl
  unfold f_X2_copyFrom at h
  refine lv_aload_n hx hb dX2_copyFrom_0 rfl (lv_at hl 0 rfl) ?_
  refine lv_aload_n hx hb dX2_copyFrom_1 rfl (lv_at hl 1 rfl) ?_
  refine xm_get (V := (xv E a)) (T := TX2) (v := .int (M o1 0)) C hP o1 0 xi_2 rfl l_X2_9 rfl (xp_lt h1 0 (by omega)) ((xp_0 h1 E a) _) (Nat.le_of_ble_eq_true rfl) rfl dX2_copyFrom_2 ?_
  obtain ⟨M1, e2, h⟩ := xm_lt_s h
  refine xm_put (V := (xv E a)) (T := TX2) (ty := .int) (x := M o1 0) C hP hS o0 0 xi_2 rfl l_X2_9 rfl tyX2_ok nmX2 (xp_lt h0 0 (by omega)) ((xp_0 h0 E a) _) (Nat.le_of_ble_eq_true rfl) rfl (by decide +kernel) rfl rfl (Nat.le_of_ble_eq_true rfl) ((xp_0 h0 E a) _) dX2_copyFrom_5 (fun H locs hP hS => ?_)
  rw [← e2] at hP
  refine lv_aload_n hx hb dX2_copyFrom_8 rfl (lv_at hl 0 rfl) ?_
  refine lv_aload_n hx hb dX2_copyFrom_9 rfl (lv_at hl 1 rfl) ?_
  refine xm_get (V := (xv E a)) (T := TX2) (v := .int (M1 o1 1)) C hP o1 1 xi_2 rfl l_X2_15 rfl (xp_lt h1 0 (by omega)) ((xp_0 h1 E a) _) (Nat.le_of_ble_eq_true rfl) rfl dX2_copyFrom_10 ?_
  obtain ⟨M3, e4, h⟩ := xm_lt_s h
  refine xm_put (V := (xv E a)) (T := TX2) (ty := .int) (x := M1 o1 1) C hP hS o0 1 xi_2 rfl l_X2_15 rfl tyX2_ok nmX2 (xp_lt h0 0 (by omega)) ((xp_0 h0 E a) _) (Nat.le_of_ble_eq_true rfl) rfl (by decide +kernel) rfl rfl (Nat.le_of_ble_eq_true rfl) ((xp_0 h0 E a) _) dX2_copyFrom_13 (fun H locs hP hS => ?_)
  rw [← e4] at hP
  refine lv_aload_n hx hb dX2_copyFrom_16 rfl (lv_at hl 0 rfl) ?_
  refine lv_aload_n hx hb dX2_copyFrom_17 rfl (lv_at hl 1 rfl) ?_
  refine xm_get (V := (xv E a)) (T := TX2) (v := .int (M3 o1 2)) C hP o1 2 xi_2 rfl l_X2_18 rfl (xp_lt h1 0 (by omega)) ((xp_0 h1 E a) _) (Nat.le_of_ble_eq_true rfl) rfl dX2_copyFrom_18 ?_
  obtain ⟨M5, e6, h⟩ := xm_lt_s h
  refine xm_put (V := (xv E a)) (T := TX2) (ty := .int) (x := M3 o1 2) C hP hS o0 2 xi_2 rfl l_X2_18 rfl tyX2_ok nmX2 (xp_lt h0 0 (by omega)) ((xp_0 h0 E a) _) (Nat.le_of_ble_eq_true rfl) rfl (by decide +kernel) rfl rfl (Nat.le_of_ble_eq_true rfl) ((xp_0 h0 E a) _) dX2_copyFrom_21 (fun H locs hP hS => ?_)
  rw [← e6] at hP
  refine lv_aload_n hx hb dX2_copyFrom_24 rfl (lv_at hl 0 rfl) ?_
  refine lv_aload_n hx hb dX2_copyFrom_25 rfl (lv_at hl 1 rfl) ?_
  refine xm_get (V := (xv E a)) (T := TX2) (v := .int (M5 o1 3)) C hP o1 3 xi_2 rfl l_X2_21 rfl (xp_lt h1 0 (by omega)) ((xp_0 h1 E a) _) (Nat.le_of_ble_eq_true rfl) rfl dX2_copyFrom_26 ?_
  obtain ⟨M7, e8, h⟩ := xm_lt_s h
  refine xm_put (V := (xv E a)) (T := TX2) (ty := .int) (x := M5 o1 3) C hP hS o0 3 xi_2 rfl l_X2_21 rfl tyX2_ok nmX2 (xp_lt h0 0 (by omega)) ((xp_0 h0 E a) _) (Nat.le_of_ble_eq_true rfl) rfl (by decide +kernel) rfl rfl (Nat.le_of_ble_eq_true rfl) ((xp_0 h0 E a) _) dX2_copyFrom_29 (fun H locs hP hS => ?_)
  rw [← e8] at hP
  refine lv_iconst (v := 0) hx hb dX2_copyFrom_32 (by decide) ?_
  refine lv_istore_n (lv' := [(2, .int 0), (0, .ref (a o0)), (1, .ref (a o1))]) hx hb dX2_copyFrom_33 rfl hl (by decide) rfl (fun ls hl => ?_)
  exact t_X2_copyFrom_34 C h0 h1 n M7 0 M' h _ _ _ hP hS (lv_sub hl [1, 2, 0] rfl)
theorem c_X2_copyFrom {l : Launch} {E : xm_E} {a : Nat → Nat} (hD : xm_D (xv E a)) {o0 : Nat} {o1 : Nat} (h0 : xm_Pa o0) (h1 : xm_Pa o1) (n : Nat) (M : xm_M) (M' : xm_M) (h : f_X2_copyFrom n M o0 o1 = some M') : xm_Met l E (xv E a) yX2_copyFrom cX2_copyFrom 3 none 0 0 [.ref (a o0), .ref (a o1)] M M' none :=
  xm_met (by decide +kernel) rfl (Nat.le_of_ble_eq_true rfl) hD (fun p e s m below meth c C hP ls hl => t_X2_copyFrom_0 C h0 h1 n M M' h _ _ _ hP va_S.rf hl)
