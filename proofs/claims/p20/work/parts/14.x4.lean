theorem l_X5_15 : Cond.fieldLink RX5 15 "WindowMatches$Words" "length" "I" ∈ xm_tb := xm_tb_of (List.mem_of_getElem? (i := 138) (by decide +kernel)) rfl
theorem l_X5_9 : Cond.fieldLink RX5 9 "WindowMatches$Words" "characters" "[C" ∈ xm_tb := xm_tb_of (List.mem_of_getElem? (i := 137) (by decide +kernel)) rfl
theorem l_X5_19 : Cond.fieldLink RX5 19 "WindowMatches$Words" "at" "I" ∈ xm_tb := xm_tb_of (List.mem_of_getElem? (i := 140) (by decide +kernel)) rfl
theorem l_X5_58 : Cond.fieldLinkNest RX5 58 "WindowMatches$Pattern" "window" "I" "WindowMatches" ∈ xm_nest := xm_nest_of (List.mem_of_getElem? (i := 36) (by decide +kernel)) rfl
theorem k_X5_54 : xm_FSN RX5 54 yX6_isWithin "WindowMatches" cX6_isWithin 3 (some .boolean) 3 := ⟨xm_tb_of (List.mem_of_getElem? (i := 346) (by decide +kernel)) rfl, xm_nest_of (List.mem_of_getElem? (i := 469) (by decide +kernel)) rfl, xm_tb_of (List.mem_of_getElem? (i := 345) (by decide +kernel)) rfl, xm_tb_of (List.mem_of_getElem? (i := 1) (by decide +kernel)) rfl, ⟨by decide +kernel, by decide +kernel, by decide +kernel⟩⟩
theorem l_X5_61 : Cond.fieldLinkNest RX5 61 "WindowMatches$Pattern" "rule" "I" "WindowMatches" ∈ xm_nest := xm_nest_of (List.mem_of_getElem? (i := 40) (by decide +kernel)) rfl
theorem k_X5_64 : xm_FV RX5 64 yX5_next cX5_next 1 (some .char) 0 := ⟨xm_tb_of (List.mem_of_getElem? (i := 478) (by decide +kernel)) rfl, xm_tb_of (List.mem_of_getElem? (i := 475) (by decide +kernel)) rfl, xm_tb_of (List.mem_of_getElem? (i := 477) (by decide +kernel)) rfl, xm_tb_sel (List.mem_of_getElem? (i := 25) (by decide +kernel)) rfl, xm_tb_of (List.mem_of_getElem? (i := 5) (by decide +kernel)) rfl, ⟨by decide +kernel, by decide +kernel, by decide +kernel⟩⟩
theorem k_X5_29 : xm_FV RX5 29 yX5_takesWord cX5_takesWord 3 (some .boolean) 1 := ⟨xm_tb_of (List.mem_of_getElem? (i := 416) (by decide +kernel)) rfl, xm_tb_of (List.mem_of_getElem? (i := 413) (by decide +kernel)) rfl, xm_tb_of (List.mem_of_getElem? (i := 415) (by decide +kernel)) rfl, xm_tb_sel (List.mem_of_getElem? (i := 22) (by decide +kernel)) rfl, xm_tb_of (List.mem_of_getElem? (i := 5) (by decide +kernel)) rfl, ⟨by decide +kernel, by decide +kernel, by decide +kernel⟩⟩
theorem l_X5_86 : Cond.fieldLinkNest RX5 86 "WindowMatches$Pattern" "plainSteps" "I" "WindowMatches" ∈ xm_nest := xm_nest_of (List.mem_of_getElem? (i := 47) (by decide +kernel)) rfl
theorem k_X5_75 : xm_FVN RX5 75 yX2_endsWithPlainStep "WindowMatches" cX2_endsWithPlainStep 1 (some .boolean) 0 := ⟨xm_tb_of (List.mem_of_getElem? (i := 492) (by decide +kernel)) rfl, xm_nest_of (List.mem_of_getElem? (i := 489) (by decide +kernel)) rfl, xm_tb_of (List.mem_of_getElem? (i := 491) (by decide +kernel)) rfl, xm_tb_sel (List.mem_of_getElem? (i := 28) (by decide +kernel)) rfl, xm_tb_of (List.mem_of_getElem? (i := 3) (by decide +kernel)) rfl, ⟨by decide +kernel, by decide +kernel, by decide +kernel⟩⟩
theorem k_X5_89 : xm_FSN RX5 89 yX6_isKind "WindowMatches" cX6_isKind 1 (some .boolean) 1 := ⟨xm_tb_of (List.mem_of_getElem? (i := 343) (by decide +kernel)) rfl, xm_nest_of (List.mem_of_getElem? (i := 494) (by decide +kernel)) rfl, xm_tb_of (List.mem_of_getElem? (i := 342) (by decide +kernel)) rfl, xm_tb_of (List.mem_of_getElem? (i := 1) (by decide +kernel)) rfl, ⟨by decide +kernel, by decide +kernel, by decide +kernel⟩⟩
theorem k_X5_93 : xm_FVN RX5 93 yX2_hasRoomForStep "WindowMatches" cX2_hasRoomForStep 1 (some .boolean) 0 := ⟨xm_tb_of (List.mem_of_getElem? (i := 498) (by decide +kernel)) rfl, xm_nest_of (List.mem_of_getElem? (i := 495) (by decide +kernel)) rfl, xm_tb_of (List.mem_of_getElem? (i := 497) (by decide +kernel)) rfl, xm_tb_sel (List.mem_of_getElem? (i := 29) (by decide +kernel)) rfl, xm_tb_of (List.mem_of_getElem? (i := 3) (by decide +kernel)) rfl, ⟨by decide +kernel, by decide +kernel, by decide +kernel⟩⟩
theorem k_X5_96 : xm_FVN RX5 96 yX2_addStep "WindowMatches" cX2_addStep 3 none 2 := ⟨xm_tb_of (List.mem_of_getElem? (i := 502) (by decide +kernel)) rfl, xm_nest_of (List.mem_of_getElem? (i := 499) (by decide +kernel)) rfl, xm_tb_of (List.mem_of_getElem? (i := 501) (by decide +kernel)) rfl, xm_tb_sel (List.mem_of_getElem? (i := 30) (by decide +kernel)) rfl, xm_tb_of (List.mem_of_getElem? (i := 3) (by decide +kernel)) rfl, ⟨by decide +kernel, by decide +kernel, by decide +kernel⟩⟩
theorem k_X5_72 : xm_FV RX5 72 yX5_takesStep cX5_takesStep 4 (some .boolean) 1 := ⟨xm_tb_of (List.mem_of_getElem? (i := 488) (by decide +kernel)) rfl, xm_tb_of (List.mem_of_getElem? (i := 485) (by decide +kernel)) rfl, xm_tb_of (List.mem_of_getElem? (i := 487) (by decide +kernel)) rfl, xm_tb_sel (List.mem_of_getElem? (i := 27) (by decide +kernel)) rfl, xm_tb_of (List.mem_of_getElem? (i := 5) (by decide +kernel)) rfl, ⟨by decide +kernel, by decide +kernel, by decide +kernel⟩⟩
theorem l_X5_79 : Cond.fieldLinkNest RX5 79 "WindowMatches$Pattern" "steps" "I" "WindowMatches" ∈ xm_nest := xm_nest_of (List.mem_of_getElem? (i := 44) (by decide +kernel)) rfl
theorem k_X5_22 : xm_FVN RX5 22 yX2_clearSteps "WindowMatches" cX2_clearSteps 1 none 0 := ⟨xm_tb_of (List.mem_of_getElem? (i := 411) (by decide +kernel)) rfl, xm_nest_of (List.mem_of_getElem? (i := 408) (by decide +kernel)) rfl, xm_tb_of (List.mem_of_getElem? (i := 410) (by decide +kernel)) rfl, xm_tb_sel (List.mem_of_getElem? (i := 21) (by decide +kernel)) rfl, xm_tb_of (List.mem_of_getElem? (i := 3) (by decide +kernel)) rfl, ⟨by decide +kernel, by decide +kernel, by decide +kernel⟩⟩
theorem k_X5_33 : xm_FV RX5 33 yX5_takesWindow cX5_takesWindow 4 (some .boolean) 1 := ⟨xm_tb_of (List.mem_of_getElem? (i := 468) (by decide +kernel)) rfl, xm_tb_of (List.mem_of_getElem? (i := 465) (by decide +kernel)) rfl, xm_tb_of (List.mem_of_getElem? (i := 467) (by decide +kernel)) rfl, xm_tb_sel (List.mem_of_getElem? (i := 23) (by decide +kernel)) rfl, xm_tb_of (List.mem_of_getElem? (i := 5) (by decide +kernel)) rfl, ⟨by decide +kernel, by decide +kernel, by decide +kernel⟩⟩
theorem k_X5_39 : xm_FV RX5 39 yX5_takesRule cX5_takesRule 2 (some .boolean) 1 := ⟨xm_tb_of (List.mem_of_getElem? (i := 474) (by decide +kernel)) rfl, xm_tb_of (List.mem_of_getElem? (i := 471) (by decide +kernel)) rfl, xm_tb_of (List.mem_of_getElem? (i := 473) (by decide +kernel)) rfl, xm_tb_sel (List.mem_of_getElem? (i := 24) (by decide +kernel)) rfl, xm_tb_of (List.mem_of_getElem? (i := 5) (by decide +kernel)) rfl, ⟨by decide +kernel, by decide +kernel, by decide +kernel⟩⟩
theorem k_X5_42 : xm_FV RX5 42 yX5_takesSteps cX5_takesSteps 3 (some .boolean) 1 := ⟨xm_tb_of (List.mem_of_getElem? (i := 484) (by decide +kernel)) rfl, xm_tb_of (List.mem_of_getElem? (i := 481) (by decide +kernel)) rfl, xm_tb_of (List.mem_of_getElem? (i := 483) (by decide +kernel)) rfl, xm_tb_sel (List.mem_of_getElem? (i := 26) (by decide +kernel)) rfl, xm_tb_of (List.mem_of_getElem? (i := 5) (by decide +kernel)) rfl, ⟨by decide +kernel, by decide +kernel, by decide +kernel⟩⟩
def f_X6_isWithin (n : Nat) (M : xm_M) (x0 : Int32) (x1 : Int32) (x2 : Int32) : Option (Int32 × xm_M) := if x0 < x1 then some (0, M) else if x2 < x0 then some (0, M) else some (1, M)
set_option maxHeartbeats 4000000 in
set_option maxRecDepth 100000 in
theorem t_X6_isWithin_0 {l : Launch} {p : Program} {e : Env} {s : State} {m : MethodId} {args : Array Value} {below : List Frame} {meth : Method} {c : Code} {E : xm_E} {a : Nat → Nat} (C : xm_C E (xv E a) p s m args meth c RX6 cX6_isWithin 3 (some .boolean)) (n : Nat) (M : xm_M) (x0 : Int32) (x1 : Int32) (x2 : Int32) (r : Int32) (M' : xm_M) : f_X6_isWithin n M x0 x1 x2 = some (r, M') → ∀ (H : Heap) (locs : List Loc) (ls : Array Slot), va_P E.1 vwCl (xm_w (xv E a) M) H → va_S (xm_A (xv E a) s.heap.size) s.heap H locs → lv_has ls 3 [(0, .int x0), (1, .int x1), (2, .int x2)] → W p l e { frames := 0, cells := 0, slots := 0, locals := 0 } s m args below meth c H locs 0 0 (MQ below (xm_Q E (xv E a) M' s.heap.size (some r)) args s 0 0 (xm_A (xv E a) s.heap.size)) (F0 m 0 ls []) := by
  have C9 := C
  obtain ⟨hx, hb, hml, hown, hts, hr, hlk, hD, hK, hS9⟩ := C9
  intro h H locs ls hP hS hl
  unfold f_X6_isWithin at h
  refine lv_iload_n hx hb dX6_isWithin_0 rfl (lv_at hl 0 rfl) ?_
  refine lv_iload_n hx hb dX6_isWithin_1 rfl (lv_at hl 1 rfl) ?_
  refine lv_icmp_lt (tgt := 14) hx hb dX6_isWithin_2 (by decide) (fun c1 => ?_) (fun c1 => ?_)
  · rw [if_pos c1] at h
    refine lv_iconst (v := 0) hx hb dX6_isWithin_14 (by decide) ?_
    obtain ⟨rfl, rfl⟩ := xm_pr h
    exact xm_retZ C hP hS (by rfl) dX6_isWithin_15
  · rw [if_neg c1] at h
    refine lv_iload_n hx hb dX6_isWithin_5 rfl (lv_at hl 0 rfl) ?_
    refine lv_iload_n hx hb dX6_isWithin_6 rfl (lv_at hl 2 rfl) ?_
    refine lv_icmp_gt (tgt := 14) hx hb dX6_isWithin_7 (by decide) (fun c2 => ?_) (fun c2 => ?_)
    · rw [if_pos c2] at h
      refine lv_iconst (v := 0) hx hb dX6_isWithin_14 (by decide) ?_
      obtain ⟨rfl, rfl⟩ := xm_pr h
      exact xm_retZ C hP hS (by rfl) dX6_isWithin_15
    · rw [if_neg c2] at h
      refine lv_iconst (v := 1) hx hb dX6_isWithin_10 (by decide) ?_
      refine lv_goto (tgt := 15) hx hb dX6_isWithin_11 (by decide) ?_
      obtain ⟨rfl, rfl⟩ := xm_pr h
      exact xm_retZ C hP hS (by rfl) dX6_isWithin_15
theorem c_X6_isWithin {l : Launch} {E : xm_E} {a : Nat → Nat} (hD : xm_D (xv E a)) (n : Nat) (M : xm_M) (x0 : Int32) (x1 : Int32) (x2 : Int32) (r : Int32) (M' : xm_M) (h : f_X6_isWithin n M x0 x1 x2 = some (r, M')) : xm_Met l E (xv E a) yX6_isWithin cX6_isWithin 3 (some .boolean) 0 0 [.int x0, .int x1, .int x2] M M' (some r) :=
  xm_met (by decide +kernel) rfl (Nat.le_of_ble_eq_true rfl) hD (fun p e s m below meth c C hP ls hl => t_X6_isWithin_0 C  n M x0 x1 x2 r M' h _ _ _ hP va_S.rf hl)
def f_X6_isKind (n : Nat) (M : xm_M) (x0 : Int32) : Option (Int32 × xm_M) := if x0 < 97 then some (0, M) else if (104 : Int32) < x0 then some (0, M) else some (1, M)
set_option maxHeartbeats 4000000 in
set_option maxRecDepth 100000 in
theorem t_X6_isKind_0 {l : Launch} {p : Program} {e : Env} {s : State} {m : MethodId} {args : Array Value} {below : List Frame} {meth : Method} {c : Code} {E : xm_E} {a : Nat → Nat} (C : xm_C E (xv E a) p s m args meth c RX6 cX6_isKind 1 (some .boolean)) (n : Nat) (M : xm_M) (x0 : Int32) (r : Int32) (M' : xm_M) : f_X6_isKind n M x0 = some (r, M') → ∀ (H : Heap) (locs : List Loc) (ls : Array Slot), va_P E.1 vwCl (xm_w (xv E a) M) H → va_S (xm_A (xv E a) s.heap.size) s.heap H locs → lv_has ls 1 [(0, .int x0)] → W p l e { frames := 0, cells := 0, slots := 0, locals := 0 } s m args below meth c H locs 0 0 (MQ below (xm_Q E (xv E a) M' s.heap.size (some r)) args s 0 0 (xm_A (xv E a) s.heap.size)) (F0 m 0 ls []) := by
  have C9 := C
  obtain ⟨hx, hb, hml, hown, hts, hr, hlk, hD, hK, hS9⟩ := C9
  intro h H locs ls hP hS hl
  unfold f_X6_isKind at h
  refine lv_iload_n hx hb dX6_isKind_0 rfl (lv_at hl 0 rfl) ?_
  refine lv_bipush (v := 97) hx hb dX6_isKind_1 (by decide) ?_
  refine lv_icmp_lt (tgt := 16) hx hb dX6_isKind_3 (by decide) (fun c1 => ?_) (fun c1 => ?_)
  · rw [if_pos c1] at h
    refine lv_iconst (v := 0) hx hb dX6_isKind_16 (by decide) ?_
    obtain ⟨rfl, rfl⟩ := xm_pr h
    exact xm_retZ C hP hS (by rfl) dX6_isKind_17
  · rw [if_neg c1] at h
    refine lv_iload_n hx hb dX6_isKind_6 rfl (lv_at hl 0 rfl) ?_
    refine lv_bipush (v := 104) hx hb dX6_isKind_7 (by decide) ?_
    refine lv_icmp_gt (tgt := 16) hx hb dX6_isKind_9 (by decide) (fun c2 => ?_) (fun c2 => ?_)
    · rw [if_pos c2] at h
      refine lv_iconst (v := 0) hx hb dX6_isKind_16 (by decide) ?_
      obtain ⟨rfl, rfl⟩ := xm_pr h
      exact xm_retZ C hP hS (by rfl) dX6_isKind_17
    · rw [if_neg c2] at h
      refine lv_iconst (v := 1) hx hb dX6_isKind_12 (by decide) ?_
      refine lv_goto (tgt := 17) hx hb dX6_isKind_13 (by decide) ?_
      obtain ⟨rfl, rfl⟩ := xm_pr h
      exact xm_retZ C hP hS (by rfl) dX6_isKind_17
theorem c_X6_isKind {l : Launch} {E : xm_E} {a : Nat → Nat} (hD : xm_D (xv E a)) (n : Nat) (M : xm_M) (x0 : Int32) (r : Int32) (M' : xm_M) (h : f_X6_isKind n M x0 = some (r, M')) : xm_Met l E (xv E a) yX6_isKind cX6_isKind 1 (some .boolean) 0 0 [.int x0] M M' (some r) :=
  xm_met (by decide +kernel) rfl (Nat.le_of_ble_eq_true rfl) hD (fun p e s m below meth c C hP ls hl => t_X6_isKind_0 C  n M x0 r M' h _ _ _ hP va_S.rf hl)
def f_X5_append (n : Nat) (M : xm_M) (x1 : Int32) : Option (Int32 × xm_M) := if (M 6 1) < 80 then xm_ck (xm_in (M 6 1) 80) (xm_lt (xm_up M 7 (M 6 1).toNatClampNeg (vp_nar .char x1)) (fun M3 => xm_lt (xm_up M3 6 1 ((M3 6 1) + 1)) (fun M5 => some (M5 6 1, M5)))) else some ((-3), M)
set_option maxHeartbeats 4000000 in
set_option maxRecDepth 100000 in
theorem t_X5_append_0 {l : Launch} {p : Program} {e : Env} {s : State} {m : MethodId} {args : Array Value} {below : List Frame} {meth : Method} {c : Code} {E : xm_E} {a : Nat → Nat} (C : xm_C E (xv E a) p s m args meth c RX5 cX5_append 2 (some .int)) (n : Nat) (M : xm_M) (x1 : Int32) (r : Int32) (M' : xm_M) : f_X5_append n M x1 = some (r, M') → ∀ (H : Heap) (locs : List Loc) (ls : Array Slot), va_P E.1 vwCl (xm_w (xv E a) M) H → va_S (xm_A (xv E a) s.heap.size) s.heap H locs → lv_has ls 2 [(0, .ref (a 6)), (1, .int x1)] → W p l e { frames := 0, cells := 0, slots := 0, locals := 0 } s m args below meth c H locs 0 0 (MQ below (xm_Q E (xv E a) M' s.heap.size (some r)) args s 0 0 (xm_A (xv E a) s.heap.size)) (F0 m 0 ls []) := by
  have C9 := C
  obtain ⟨hx, hb, hml, hown, hts, hr, hlk, hD, hK, hS9⟩ := C9
  intro h H locs ls hP hS hl
  unfold f_X5_append at h
  refine lv_aload_n hx hb dX5_append_0 rfl (lv_at hl 0 rfl) ?_
  refine xm_get (V := (xv E a)) (T := TX5) (v := .int (M 6 1)) C hP 6 1 xi_5 rfl l_X5_15 rfl (Nat.le_of_ble_eq_true rfl) ((xe_6 E a) _) (Nat.le_of_ble_eq_true rfl) rfl dX5_append_1 ?_
  refine lv_bipush (v := 80) hx hb dX5_append_4 (by decide) ?_
  refine lv_icmp_lt (tgt := 12) hx hb dX5_append_6 (by decide) (fun c1 => ?_) (fun c1 => ?_)
  · rw [if_pos c1] at h
    refine lv_aload_n hx hb dX5_append_12 rfl (lv_at hl 0 rfl) ?_
    refine xm_get (V := (xv E a)) (T := TX5) (v := .ref (a 7)) C hP 6 0 xi_5 rfl l_X5_9 rfl (Nat.le_of_ble_eq_true rfl) ((xe_6 E a) _) (Nat.le_of_ble_eq_true rfl) rfl dX5_append_13 ?_
    refine lv_aload_n hx hb dX5_append_16 rfl (lv_at hl 0 rfl) ?_
    refine xm_get (V := (xv E a)) (T := TX5) (v := .int (M 6 1)) C hP 6 1 xi_5 rfl l_X5_15 rfl (Nat.le_of_ble_eq_true rfl) ((xe_6 E a) _) (Nat.le_of_ble_eq_true rfl) rfl dX5_append_17 ?_
    refine lv_iload_n hx hb dX5_append_20 rfl (lv_at hl 1 rfl) ?_
    obtain ⟨b2, h⟩ := xm_ck_s h
    obtain ⟨M3, e4, h⟩ := xm_lt_s h
    refine xm_cast (V := (xv E a)) C hP hS 7 80 (Nat.le_of_ble_eq_true rfl) (xe_7 E a) b2 dX5_append_21 (fun H locs hP hS => ?_)
    rw [← e4] at hP
    refine lv_aload_n hx hb dX5_append_22 rfl (lv_at hl 0 rfl) ?_
    refine lv_dup hx hb dX5_append_23 rfl ?_
    refine xm_get (V := (xv E a)) (T := TX5) (v := .int (M3 6 1)) C hP 6 1 xi_5 rfl l_X5_15 rfl (Nat.le_of_ble_eq_true rfl) ((xe_6 E a) _) (Nat.le_of_ble_eq_true rfl) rfl dX5_append_24 ?_
    refine lv_iconst (v := 1) hx hb dX5_append_27 (by decide) ?_
    refine lv_iadd hx hb dX5_append_28 ?_
    obtain ⟨M5, e6, h⟩ := xm_lt_s h
    refine xm_put (V := (xv E a)) (T := TX5) (ty := .int) (x := (M3 6 1) + 1) C hP hS 6 1 xi_5 rfl l_X5_15 rfl tyX5_ok nmX5 (Nat.le_of_ble_eq_true rfl) ((xe_6 E a) _) (Nat.le_of_ble_eq_true rfl) rfl (by decide +kernel) rfl rfl (Nat.le_of_ble_eq_true rfl) ((xe_6 E a) _) dX5_append_29 (fun H locs hP hS => ?_)
    rw [← e6] at hP
    refine lv_aload_n hx hb dX5_append_32 rfl (lv_at hl 0 rfl) ?_
    refine xm_get (V := (xv E a)) (T := TX5) (v := .int (M5 6 1)) C hP 6 1 xi_5 rfl l_X5_15 rfl (Nat.le_of_ble_eq_true rfl) ((xe_6 E a) _) (Nat.le_of_ble_eq_true rfl) rfl dX5_append_33 ?_
    obtain ⟨rfl, rfl⟩ := xm_pr h
    exact xm_retI C hP hS dX5_append_36
  · rw [if_neg c1] at h
    refine lv_bipush (v := (-3)) hx hb dX5_append_9 (by decide) ?_
    obtain ⟨rfl, rfl⟩ := xm_pr h
    exact xm_retI C hP hS dX5_append_11
theorem c_X5_append {l : Launch} {E : xm_E} {a : Nat → Nat} (hD : xm_D (xv E a)) (n : Nat) (M : xm_M) (x1 : Int32) (r : Int32) (M' : xm_M) (h : f_X5_append n M x1 = some (r, M')) : xm_Met l E (xv E a) yX5_append cX5_append 2 (some .int) 0 0 [.ref (a 6), .int x1] M M' (some r) :=
  xm_met (by decide +kernel) rfl (Nat.le_of_ble_eq_true rfl) hD (fun p e s m below meth c C hP ls hl => t_X5_append_0 C  n M x1 r M' h _ _ _ hP va_S.rf hl)
def f_X5_next (n : Nat) (M : xm_M) : Option (Int32 × xm_M) := if (M 6 1) ≤ (M 6 2) then some (0, M) else xm_ck (xm_in (M 6 2) 80) (xm_ck (xm_c (M 7 (M 6 2).toNatClampNeg)) (some (M 7 (M 6 2).toNatClampNeg, M)))
set_option maxHeartbeats 4000000 in
set_option maxRecDepth 100000 in
theorem t_X5_next_0 {l : Launch} {p : Program} {e : Env} {s : State} {m : MethodId} {args : Array Value} {below : List Frame} {meth : Method} {c : Code} {E : xm_E} {a : Nat → Nat} (C : xm_C E (xv E a) p s m args meth c RX5 cX5_next 1 (some .char)) (n : Nat) (M : xm_M) (r : Int32) (M' : xm_M) : f_X5_next n M = some (r, M') → ∀ (H : Heap) (locs : List Loc) (ls : Array Slot), va_P E.1 vwCl (xm_w (xv E a) M) H → va_S (xm_A (xv E a) s.heap.size) s.heap H locs → lv_has ls 1 [(0, .ref (a 6))] → W p l e { frames := 0, cells := 0, slots := 0, locals := 0 } s m args below meth c H locs 0 0 (MQ below (xm_Q E (xv E a) M' s.heap.size (some r)) args s 0 0 (xm_A (xv E a) s.heap.size)) (F0 m 0 ls []) := by
  have C9 := C
  obtain ⟨hx, hb, hml, hown, hts, hr, hlk, hD, hK, hS9⟩ := C9
  intro h H locs ls hP hS hl
  unfold f_X5_next at h
  refine lv_aload_n hx hb dX5_next_0 rfl (lv_at hl 0 rfl) ?_
  refine xm_get (V := (xv E a)) (T := TX5) (v := .int (M 6 2)) C hP 6 2 xi_5 rfl l_X5_19 rfl (Nat.le_of_ble_eq_true rfl) ((xe_6 E a) _) (Nat.le_of_ble_eq_true rfl) rfl dX5_next_1 ?_
  refine lv_aload_n hx hb dX5_next_4 rfl (lv_at hl 0 rfl) ?_
  refine xm_get (V := (xv E a)) (T := TX5) (v := .int (M 6 1)) C hP 6 1 xi_5 rfl l_X5_15 rfl (Nat.le_of_ble_eq_true rfl) ((xe_6 E a) _) (Nat.le_of_ble_eq_true rfl) rfl dX5_next_5 ?_
  refine lv_icmp_ge (tgt := 23) hx hb dX5_next_8 (by decide) (fun c1 => ?_) (fun c1 => ?_)
  · rw [if_pos c1] at h
    refine lv_iconst (v := 0) hx hb dX5_next_23 (by decide) ?_
    obtain ⟨rfl, rfl⟩ := xm_pr h
    exact xm_retZ C hP hS (by rfl) dX5_next_24
  · rw [if_neg c1] at h
    refine lv_aload_n hx hb dX5_next_11 rfl (lv_at hl 0 rfl) ?_
    refine xm_get (V := (xv E a)) (T := TX5) (v := .ref (a 7)) C hP 6 0 xi_5 rfl l_X5_9 rfl (Nat.le_of_ble_eq_true rfl) ((xe_6 E a) _) (Nat.le_of_ble_eq_true rfl) rfl dX5_next_12 ?_
    refine lv_aload_n hx hb dX5_next_15 rfl (lv_at hl 0 rfl) ?_
    refine xm_get (V := (xv E a)) (T := TX5) (v := .int (M 6 2)) C hP 6 2 xi_5 rfl l_X5_19 rfl (Nat.le_of_ble_eq_true rfl) ((xe_6 E a) _) (Nat.le_of_ble_eq_true rfl) rfl dX5_next_16 ?_
    obtain ⟨b2, h⟩ := xm_ck_s h
    refine xm_cald (V := (xv E a)) C hP 7 80 (Nat.le_of_ble_eq_true rfl) (xe_7 E a) b2 dX5_next_19 ?_
    refine lv_goto (tgt := 24) hx hb dX5_next_20 (by decide) ?_
    obtain ⟨z3, h⟩ := xm_ck_s h
    obtain ⟨rfl, rfl⟩ := xm_pr h
    exact xm_retZ C hP hS (xm_c_s z3) dX5_next_24
theorem c_X5_next {l : Launch} {E : xm_E} {a : Nat → Nat} (hD : xm_D (xv E a)) (n : Nat) (M : xm_M) (r : Int32) (M' : xm_M) (h : f_X5_next n M = some (r, M')) : xm_Met l E (xv E a) yX5_next cX5_next 1 (some .char) 0 0 [.ref (a 6)] M M' (some r) :=
  xm_met (by decide +kernel) rfl (Nat.le_of_ble_eq_true rfl) hD (fun p e s m below meth c C hP ls hl => t_X5_next_0 C  n M r M' h _ _ _ hP va_S.rf hl)
def f_X5_takesWord_2 : Nat → xm_M → Nat → Int32 → Option (Int32 × xm_M)
  | 0, _, _, _ => none
  | n + 1, M, w1, x2 => xm_b2 (f_slen n M w1) (fun r2 M1 => if r2 ≤ x2 then some (1, M1) else if (M1 6 1) ≤ (M1 6 2) then some (0, M1) else xm_ck (xm_in (M1 6 2) 80) (xm_b2 (f_schr n M1 w1 x2) (fun r8 M7 => if (M1 7 (M1 6 2).toNatClampNeg) = r8 then xm_lt (xm_up M7 6 2 ((M7 6 2) + 1)) (fun M11 => f_X5_takesWord_2 n M11 w1 (x2 + 1)) else some (0, M7))))
set_option maxHeartbeats 4000000 in
set_option maxRecDepth 100000 in
theorem t_X5_takesWord_2 {l : Launch} {p : Program} {e : Env} {s : State} {m : MethodId} {args : Array Value} {below : List Frame} {meth : Method} {c : Code} {E : xm_E} {a : Nat → Nat} (C : xm_C E (xv E a) p s m args meth c RX5 cX5_takesWord 3 (some .boolean)) {w1 : Nat} (h1 : w1 < 6) : ∀ (n : Nat) (M : xm_M) (x2 : Int32) (r : Int32) (M' : xm_M), f_X5_takesWord_2 n M w1 x2 = some (r, M') → ∀ (H : Heap) (locs : List Loc) (ls : Array Slot), va_P E.1 vwCl (xm_w (xv E a) M) H → va_S (xm_A (xv E a) s.heap.size) s.heap H locs → lv_has ls 3 [(0, .ref (a 6)), (1, .ref (E.2.2.1 w1)), (2, .int x2)] → W p l e { frames := 4, cells := 0, slots := 0, locals := 85 } s m args below meth c H locs 0 0 (MQ below (xm_Q E (xv E a) M' s.heap.size (some r)) args s 0 0 (xm_A (xv E a) s.heap.size)) (F0 m 2 ls []) := by
  have C9 := C
  obtain ⟨hx, hb, hml, hown, hts, hr, hlk, hD, hK, hS9⟩ := C9
  intro n
  induction n with
  | zero =>
    intro M x2 r M' h
    cases h
  | succ n ih =>
    intro M x2 r M' h H locs ls hP hS hl
    rw [f_X5_takesWord_2] at h
    refine lv_iload_n hx hb dX5_takesWord_2 rfl (lv_at hl 2 rfl) ?_
    refine lv_aload_n hx hb dX5_takesWord_3 rfl (lv_at hl 1 rfl) ?_
    obtain ⟨r2, M1, e3, h⟩ := xm_b2_s h
    refine xm_callV C hP hS [] [.int x2] (c_slen hD h1 n M  r2 M1 e3) k_X5_45 (xm_srecv C hS h1) rfl rfl ⟨(Nat.le_of_ble_eq_true rfl), (Nat.le_of_ble_eq_true rfl)⟩ hl.1 (Nat.le_of_ble_eq_true rfl) ⟨Nat.zero_le _, Nat.zero_le _⟩ dX5_takesWord_4 (fun H locs hP hS => ?_)
    change W p l e _ s m _ below meth c H locs 0 0 _ (F0 m 7 ls [.int r2, .int x2])
    refine lv_icmp_ge (tgt := 56) hx hb dX5_takesWord_7 (by decide) (fun c4 => ?_) (fun c4 => ?_)
    · rw [if_pos c4] at h
      refine lv_iconst (v := 1) hx hb dX5_takesWord_56 (by decide) ?_
      obtain ⟨rfl, rfl⟩ := xm_pr h
      exact xm_retZ C hP hS (by rfl) dX5_takesWord_57
    · rw [if_neg c4] at h
      refine lv_aload_n hx hb dX5_takesWord_10 rfl (lv_at hl 0 rfl) ?_
      refine xm_get (V := (xv E a)) (T := TX5) (v := .int (M1 6 2)) C hP 6 2 xi_5 rfl l_X5_19 rfl (Nat.le_of_ble_eq_true rfl) ((xe_6 E a) _) (Nat.le_of_ble_eq_true rfl) rfl dX5_takesWord_11 ?_
      refine lv_aload_n hx hb dX5_takesWord_14 rfl (lv_at hl 0 rfl) ?_
      refine xm_get (V := (xv E a)) (T := TX5) (v := .int (M1 6 1)) C hP 6 1 xi_5 rfl l_X5_15 rfl (Nat.le_of_ble_eq_true rfl) ((xe_6 E a) _) (Nat.le_of_ble_eq_true rfl) rfl dX5_takesWord_15 ?_
      refine lv_icmp_ge (tgt := 38) hx hb dX5_takesWord_18 (by decide) (fun c5 => ?_) (fun c5 => ?_)
      · rw [if_pos c5] at h
        refine lv_iconst (v := 0) hx hb dX5_takesWord_38 (by decide) ?_
        obtain ⟨rfl, rfl⟩ := xm_pr h
        exact xm_retZ C hP hS (by rfl) dX5_takesWord_39
      · rw [if_neg c5] at h
        refine lv_aload_n hx hb dX5_takesWord_21 rfl (lv_at hl 0 rfl) ?_
        refine xm_get (V := (xv E a)) (T := TX5) (v := .ref (a 7)) C hP 6 0 xi_5 rfl l_X5_9 rfl (Nat.le_of_ble_eq_true rfl) ((xe_6 E a) _) (Nat.le_of_ble_eq_true rfl) rfl dX5_takesWord_22 ?_
        refine lv_aload_n hx hb dX5_takesWord_25 rfl (lv_at hl 0 rfl) ?_
        refine xm_get (V := (xv E a)) (T := TX5) (v := .int (M1 6 2)) C hP 6 2 xi_5 rfl l_X5_19 rfl (Nat.le_of_ble_eq_true rfl) ((xe_6 E a) _) (Nat.le_of_ble_eq_true rfl) rfl dX5_takesWord_26 ?_
        obtain ⟨b6, h⟩ := xm_ck_s h
        refine xm_cald (V := (xv E a)) C hP 7 80 (Nat.le_of_ble_eq_true rfl) (xe_7 E a) b6 dX5_takesWord_29 ?_
        refine lv_aload_n hx hb dX5_takesWord_30 rfl (lv_at hl 1 rfl) ?_
        refine lv_iload_n hx hb dX5_takesWord_31 rfl (lv_at hl 2 rfl) ?_
        obtain ⟨r8, M7, e9, h⟩ := xm_b2_s h
        refine xm_callV C hP hS [.int x2] [.int (M1 7 (M1 6 2).toNatClampNeg)] (c_schr hD h1 n M1 x2 r8 M7 e9) k_X5_50 (xm_srecv C hS h1) rfl rfl ⟨(Nat.le_of_ble_eq_true rfl), (Nat.le_of_ble_eq_true rfl)⟩ hl.1 (Nat.le_of_ble_eq_true rfl) ⟨Nat.zero_le _, Nat.zero_le _⟩ dX5_takesWord_32 (fun H locs hP hS => ?_)
        change W p l e _ s m _ below meth c H locs 0 0 _ (F0 m 35 ls [.int r8, .int (M1 7 (M1 6 2).toNatClampNeg)])
        refine lv_icmp_eq (tgt := 40) hx hb dX5_takesWord_35 (by decide) (fun c10 => ?_) (fun c10 => ?_)
        · rw [if_pos c10] at h
          refine lv_aload_n hx hb dX5_takesWord_40 rfl (lv_at hl 0 rfl) ?_
          refine lv_dup hx hb dX5_takesWord_41 rfl ?_
          refine xm_get (V := (xv E a)) (T := TX5) (v := .int (M7 6 2)) C hP 6 2 xi_5 rfl l_X5_19 rfl (Nat.le_of_ble_eq_true rfl) ((xe_6 E a) _) (Nat.le_of_ble_eq_true rfl) rfl dX5_takesWord_42 ?_
          refine lv_iconst (v := 1) hx hb dX5_takesWord_45 (by decide) ?_
          refine lv_iadd hx hb dX5_takesWord_46 ?_
          obtain ⟨M11, e12, h⟩ := xm_lt_s h
          refine xm_put (V := (xv E a)) (T := TX5) (ty := .int) (x := (M7 6 2) + 1) C hP hS 6 2 xi_5 rfl l_X5_19 rfl tyX5_ok nmX5 (Nat.le_of_ble_eq_true rfl) ((xe_6 E a) _) (Nat.le_of_ble_eq_true rfl) rfl (by decide +kernel) rfl rfl (Nat.le_of_ble_eq_true rfl) ((xe_6 E a) _) dX5_takesWord_47 (fun H locs hP hS => ?_)
          rw [← e12] at hP
          refine lv_iinc (v := x2 + 1) (lv' := [(2, .int (x2 + 1)), (0, .ref (a 6)), (1, .ref (E.2.2.1 w1))]) hx hb dX5_takesWord_50 hl (k := 2) rfl (xm_add (by decide)) (by decide) rfl (fun ls hl => ?_)
          refine lv_goto (tgt := 2) hx hb dX5_takesWord_53 (by decide) ?_
          exact ih M11 (x2 + 1) r M' h _ _ _ hP hS (lv_sub hl [1, 2, 0] rfl)
        · rw [if_neg c10] at h
          refine lv_iconst (v := 0) hx hb dX5_takesWord_38 (by decide) ?_
          obtain ⟨rfl, rfl⟩ := xm_pr h
          exact xm_retZ C hP hS (by rfl) dX5_takesWord_39
def f_X5_takesWord (n : Nat) (M : xm_M) (w1 : Nat) : Option (Int32 × xm_M) := f_X5_takesWord_2 n M w1 0
set_option maxHeartbeats 4000000 in
set_option maxRecDepth 100000 in
theorem t_X5_takesWord_0 {l : Launch} {p : Program} {e : Env} {s : State} {m : MethodId} {args : Array Value} {below : List Frame} {meth : Method} {c : Code} {E : xm_E} {a : Nat → Nat} (C : xm_C E (xv E a) p s m args meth c RX5 cX5_takesWord 3 (some .boolean)) {w1 : Nat} (h1 : w1 < 6) (n : Nat) (M : xm_M) (r : Int32) (M' : xm_M) : f_X5_takesWord n M w1 = some (r, M') → ∀ (H : Heap) (locs : List Loc) (ls : Array Slot), va_P E.1 vwCl (xm_w (xv E a) M) H → va_S (xm_A (xv E a) s.heap.size) s.heap H locs → lv_has ls 3 [(0, .ref (a 6)), (1, .ref (E.2.2.1 w1))] → W p l e { frames := 4, cells := 0, slots := 0, locals := 85 } s m args below meth c H locs 0 0 (MQ below (xm_Q E (xv E a) M' s.heap.size (some r)) args s 0 0 (xm_A (xv E a) s.heap.size)) (F0 m 0 ls []) := by
  have C9 := C
  obtain ⟨hx, hb, hml, hown, hts, hr, hlk, hD, hK, hS9⟩ := C9
  intro h H locs ls hP hS hl
  unfold f_X5_takesWord at h
  refine lv_iconst (v := 0) hx hb dX5_takesWord_0 (by decide) ?_
  refine lv_istore_n (lv' := [(2, .int 0), (0, .ref (a 6)), (1, .ref (E.2.2.1 w1))]) hx hb dX5_takesWord_1 rfl hl (by decide) rfl (fun ls hl => ?_)
  exact t_X5_takesWord_2 C h1 n M 0 r M' h _ _ _ hP hS (lv_sub hl [1, 2, 0] rfl)
theorem c_X5_takesWord {l : Launch} {E : xm_E} {a : Nat → Nat} (hD : xm_D (xv E a)) {w1 : Nat} (h1 : w1 < 6) (n : Nat) (M : xm_M) (r : Int32) (M' : xm_M) (h : f_X5_takesWord n M w1 = some (r, M')) : xm_Met l E (xv E a) yX5_takesWord cX5_takesWord 3 (some .boolean) 4 85 [.ref (a 6), .ref (E.2.2.1 w1)] M M' (some r) :=
  xm_met (by decide +kernel) rfl (Nat.le_of_ble_eq_true rfl) hD (fun p e s m below meth c C hP ls hl => t_X5_takesWord_0 C h1 n M r M' h _ _ _ hP va_S.rf hl)
def f_X5_takesWindow_2 : Nat → xm_M → Nat → Int32 → Option (Int32 × xm_M)
  | 0, _, _, _ => none
  | n + 1, M, o1, x2 => if (M 6 1) ≤ (M 6 2) then xm_lt (xm_up M o1 0 x2) (fun M2 => if x2 ≤ 0 then some (0, M2) else some (1, M2)) else xm_ck (xm_in (M 6 2) 80) (xm_b2 (f_X6_isWithin n M (M 7 (M 6 2).toNatClampNeg) 48 57) (fun r7 M6 => if r7 = 0 then xm_lt (xm_up M6 o1 0 x2) (fun M10 => if x2 ≤ 0 then some (0, M10) else some (1, M10)) else xm_ck (xm_in (M6 6 2) 80) (xm_b2 (f_X6_isWithin n M6 ((x2 * 10) + ((M6 7 (M6 6 2).toNatClampNeg) - 48)) 1 1000) (fun r15 M14 => if r15 = 0 then some (0, M14) else xm_lt (xm_up M14 6 2 ((M14 6 2) + 1)) (fun M18 => f_X5_takesWindow_2 n M18 o1 ((x2 * 10) + ((M6 7 (M6 6 2).toNatClampNeg) - 48)))))))
set_option maxHeartbeats 4000000 in
set_option maxRecDepth 100000 in
theorem t_X5_takesWindow_2 {l : Launch} {p : Program} {e : Env} {s : State} {m : MethodId} {args : Array Value} {below : List Frame} {meth : Method} {c : Code} {E : xm_E} {a : Nat → Nat} (C : xm_C E (xv E a) p s m args meth c RX5 cX5_takesWindow 4 (some .boolean)) {o1 : Nat} (h1 : xm_Pa o1) : ∀ (n : Nat) (M : xm_M) (x2 : Int32) (r : Int32) (M' : xm_M), f_X5_takesWindow_2 n M o1 x2 = some (r, M') → ∀ (H : Heap) (locs : List Loc) (ls : Array Slot), va_P E.1 vwCl (xm_w (xv E a) M) H → va_S (xm_A (xv E a) s.heap.size) s.heap H locs → lv_has ls 4 [(0, .ref (a 6)), (1, .ref (a o1)), (2, .int x2)] → W p l e { frames := 1, cells := 0, slots := 0, locals := 22 } s m args below meth c H locs 0 0 (MQ below (xm_Q E (xv E a) M' s.heap.size (some r)) args s 0 0 (xm_A (xv E a) s.heap.size)) (F0 m 2 ls []) := by
  have C9 := C
  obtain ⟨hx, hb, hml, hown, hts, hr, hlk, hD, hK, hS9⟩ := C9
  intro n
  induction n with
  | zero =>
    intro M x2 r M' h
    cases h
  | succ n ih =>
    intro M x2 r M' h H locs ls hP hS hl
    rw [f_X5_takesWindow_2] at h
    refine lv_aload_n hx hb dX5_takesWindow_2 rfl (lv_at hl 0 rfl) ?_
    refine xm_get (V := (xv E a)) (T := TX5) (v := .int (M 6 2)) C hP 6 2 xi_5 rfl l_X5_19 rfl (Nat.le_of_ble_eq_true rfl) ((xe_6 E a) _) (Nat.le_of_ble_eq_true rfl) rfl dX5_takesWindow_3 ?_
    refine lv_aload_n hx hb dX5_takesWindow_6 rfl (lv_at hl 0 rfl) ?_
    refine xm_get (V := (xv E a)) (T := TX5) (v := .int (M 6 1)) C hP 6 1 xi_5 rfl l_X5_15 rfl (Nat.le_of_ble_eq_true rfl) ((xe_6 E a) _) (Nat.le_of_ble_eq_true rfl) rfl dX5_takesWindow_7 ?_
    refine lv_icmp_ge (tgt := 78) hx hb dX5_takesWindow_10 (by decide) (fun c1 => ?_) (fun c1 => ?_)
    · rw [if_pos c1] at h
      refine lv_aload_n hx hb dX5_takesWindow_78 rfl (lv_at hl 1 rfl) ?_
      refine lv_iload_n hx hb dX5_takesWindow_79 rfl (lv_at hl 2 rfl) ?_
      obtain ⟨M2, e3, h⟩ := xm_lt_s h
      refine xm_putN (V := (xv E a)) (T := TX2) (ty := .int) (x := x2) C hP hS o1 0 xi_2 rfl l_X5_58 rfl tyX2_ok nmX2 (xp_lt h1 0 (by omega)) ((xp_0 h1 E a) _) (Nat.le_of_ble_eq_true rfl) rfl (by decide +kernel) rfl rfl (Nat.le_of_ble_eq_true rfl) ((xp_0 h1 E a) _) dX5_takesWindow_80 (fun H locs hP hS => ?_)
      rw [← e3] at hP
      refine lv_iload_n hx hb dX5_takesWindow_83 rfl (lv_at hl 2 rfl) ?_
      refine lv_if_le (tgt := 91) hx hb dX5_takesWindow_84 (by decide) (fun c4 => ?_) (fun c4 => ?_)
      · rw [if_pos c4] at h
        refine lv_iconst (v := 0) hx hb dX5_takesWindow_91 (by decide) ?_
        obtain ⟨rfl, rfl⟩ := xm_pr h
        exact xm_retZ C hP hS (by rfl) dX5_takesWindow_92
      · rw [if_neg c4] at h
        refine lv_iconst (v := 1) hx hb dX5_takesWindow_87 (by decide) ?_
        refine lv_goto (tgt := 92) hx hb dX5_takesWindow_88 (by decide) ?_
        obtain ⟨rfl, rfl⟩ := xm_pr h
        exact xm_retZ C hP hS (by rfl) dX5_takesWindow_92
    · rw [if_neg c1] at h
      refine lv_aload_n hx hb dX5_takesWindow_13 rfl (lv_at hl 0 rfl) ?_
      refine xm_get (V := (xv E a)) (T := TX5) (v := .ref (a 7)) C hP 6 0 xi_5 rfl l_X5_9 rfl (Nat.le_of_ble_eq_true rfl) ((xe_6 E a) _) (Nat.le_of_ble_eq_true rfl) rfl dX5_takesWindow_14 ?_
      refine lv_aload_n hx hb dX5_takesWindow_17 rfl (lv_at hl 0 rfl) ?_
      refine xm_get (V := (xv E a)) (T := TX5) (v := .int (M 6 2)) C hP 6 2 xi_5 rfl l_X5_19 rfl (Nat.le_of_ble_eq_true rfl) ((xe_6 E a) _) (Nat.le_of_ble_eq_true rfl) rfl dX5_takesWindow_18 ?_
      obtain ⟨b5, h⟩ := xm_ck_s h
      refine xm_cald (V := (xv E a)) C hP 7 80 (Nat.le_of_ble_eq_true rfl) (xe_7 E a) b5 dX5_takesWindow_21 ?_
      refine lv_bipush (v := 48) hx hb dX5_takesWindow_22 (by decide) ?_
      refine lv_bipush (v := 57) hx hb dX5_takesWindow_24 (by decide) ?_
      obtain ⟨r7, M6, e8, h⟩ := xm_b2_s h
      refine xm_callSN C hP hS [.int (M 7 (M 6 2).toNatClampNeg), .int 48, .int 57] [] (c_X6_isWithin hD  n M (M 7 (M 6 2).toNatClampNeg) 48 57 r7 M6 e8) k_X5_54  rfl rfl ⟨(Nat.le_of_ble_eq_true rfl), (Nat.le_of_ble_eq_true rfl)⟩ hl.1 (Nat.le_of_ble_eq_true rfl) ⟨Nat.zero_le _, Nat.zero_le _⟩ dX5_takesWindow_26 (fun H locs hP hS => ?_)
      change W p l e _ s m _ below meth c H locs 0 0 _ (F0 m 29 ls [.int r7])
      refine lv_if_eq (tgt := 78) hx hb dX5_takesWindow_29 (by decide) (fun c9 => ?_) (fun c9 => ?_)
      · rw [if_pos c9] at h
        refine lv_aload_n hx hb dX5_takesWindow_78 rfl (lv_at hl 1 rfl) ?_
        refine lv_iload_n hx hb dX5_takesWindow_79 rfl (lv_at hl 2 rfl) ?_
        obtain ⟨M10, e11, h⟩ := xm_lt_s h
        refine xm_putN (V := (xv E a)) (T := TX2) (ty := .int) (x := x2) C hP hS o1 0 xi_2 rfl l_X5_58 rfl tyX2_ok nmX2 (xp_lt h1 0 (by omega)) ((xp_0 h1 E a) _) (Nat.le_of_ble_eq_true rfl) rfl (by decide +kernel) rfl rfl (Nat.le_of_ble_eq_true rfl) ((xp_0 h1 E a) _) dX5_takesWindow_80 (fun H locs hP hS => ?_)
        rw [← e11] at hP
        refine lv_iload_n hx hb dX5_takesWindow_83 rfl (lv_at hl 2 rfl) ?_
        refine lv_if_le (tgt := 91) hx hb dX5_takesWindow_84 (by decide) (fun c12 => ?_) (fun c12 => ?_)
        · rw [if_pos c12] at h
          refine lv_iconst (v := 0) hx hb dX5_takesWindow_91 (by decide) ?_
          obtain ⟨rfl, rfl⟩ := xm_pr h
          exact xm_retZ C hP hS (by rfl) dX5_takesWindow_92
        · rw [if_neg c12] at h
          refine lv_iconst (v := 1) hx hb dX5_takesWindow_87 (by decide) ?_
          refine lv_goto (tgt := 92) hx hb dX5_takesWindow_88 (by decide) ?_
          obtain ⟨rfl, rfl⟩ := xm_pr h
          exact xm_retZ C hP hS (by rfl) dX5_takesWindow_92
      · rw [if_neg c9] at h
        refine lv_iload_n hx hb dX5_takesWindow_32 rfl (lv_at hl 2 rfl) ?_
        refine lv_bipush (v := 10) hx hb dX5_takesWindow_33 (by decide) ?_
        refine lv_imul hx hb dX5_takesWindow_35 ?_
        refine lv_aload_n hx hb dX5_takesWindow_36 rfl (lv_at hl 0 rfl) ?_
        refine xm_get (V := (xv E a)) (T := TX5) (v := .ref (a 7)) C hP 6 0 xi_5 rfl l_X5_9 rfl (Nat.le_of_ble_eq_true rfl) ((xe_6 E a) _) (Nat.le_of_ble_eq_true rfl) rfl dX5_takesWindow_37 ?_
        refine lv_aload_n hx hb dX5_takesWindow_40 rfl (lv_at hl 0 rfl) ?_
        refine xm_get (V := (xv E a)) (T := TX5) (v := .int (M6 6 2)) C hP 6 2 xi_5 rfl l_X5_19 rfl (Nat.le_of_ble_eq_true rfl) ((xe_6 E a) _) (Nat.le_of_ble_eq_true rfl) rfl dX5_takesWindow_41 ?_
        obtain ⟨b13, h⟩ := xm_ck_s h
        refine xm_cald (V := (xv E a)) C hP 7 80 (Nat.le_of_ble_eq_true rfl) (xe_7 E a) b13 dX5_takesWindow_44 ?_
        refine lv_bipush (v := 48) hx hb dX5_takesWindow_45 (by decide) ?_
        refine lv_isub hx hb dX5_takesWindow_47 ?_
        refine lv_iadd hx hb dX5_takesWindow_48 ?_
        refine lv_istore_n (lv' := [(3, .int ((x2 * 10) + ((M6 7 (M6 6 2).toNatClampNeg) - 48))), (0, .ref (a 6)), (1, .ref (a o1)), (2, .int x2)]) hx hb dX5_takesWindow_49 rfl hl (by decide) rfl (fun ls hl => ?_)
        refine lv_iload_n hx hb dX5_takesWindow_50 rfl (lv_at hl 0 rfl) ?_
        refine lv_iconst (v := 1) hx hb dX5_takesWindow_51 (by decide) ?_
        refine lv_sipush (v := 1000) hx hb dX5_takesWindow_52 (by decide) ?_
        obtain ⟨r15, M14, e16, h⟩ := xm_b2_s h
        refine xm_callSN C hP hS [.int ((x2 * 10) + ((M6 7 (M6 6 2).toNatClampNeg) - 48)), .int 1, .int 1000] [] (c_X6_isWithin hD  n M6 ((x2 * 10) + ((M6 7 (M6 6 2).toNatClampNeg) - 48)) 1 1000 r15 M14 e16) k_X5_54  rfl rfl ⟨(Nat.le_of_ble_eq_true rfl), (Nat.le_of_ble_eq_true rfl)⟩ hl.1 (Nat.le_of_ble_eq_true rfl) ⟨Nat.zero_le _, Nat.zero_le _⟩ dX5_takesWindow_55 (fun H locs hP hS => ?_)
        change W p l e _ s m _ below meth c H locs 0 0 _ (F0 m 58 ls [.int r15])
        refine lv_if_ne (tgt := 63) hx hb dX5_takesWindow_58 (by decide) (fun c17 => ?_) (fun c17 => ?_)
        · rw [if_neg c17] at h
          refine lv_iload_n hx hb dX5_takesWindow_63 rfl (lv_at hl 0 rfl) ?_
          refine lv_istore_n (lv' := [(2, .int ((x2 * 10) + ((M6 7 (M6 6 2).toNatClampNeg) - 48))), (3, .int ((x2 * 10) + ((M6 7 (M6 6 2).toNatClampNeg) - 48))), (0, .ref (a 6)), (1, .ref (a o1))]) hx hb dX5_takesWindow_64 rfl hl (by decide) rfl (fun ls hl => ?_)
          refine lv_aload_n hx hb dX5_takesWindow_65 rfl (lv_at hl 2 rfl) ?_
          refine lv_dup hx hb dX5_takesWindow_66 rfl ?_
          refine xm_get (V := (xv E a)) (T := TX5) (v := .int (M14 6 2)) C hP 6 2 xi_5 rfl l_X5_19 rfl (Nat.le_of_ble_eq_true rfl) ((xe_6 E a) _) (Nat.le_of_ble_eq_true rfl) rfl dX5_takesWindow_67 ?_
          refine lv_iconst (v := 1) hx hb dX5_takesWindow_70 (by decide) ?_
          refine lv_iadd hx hb dX5_takesWindow_71 ?_
          obtain ⟨M18, e19, h⟩ := xm_lt_s h
          refine xm_put (V := (xv E a)) (T := TX5) (ty := .int) (x := (M14 6 2) + 1) C hP hS 6 2 xi_5 rfl l_X5_19 rfl tyX5_ok nmX5 (Nat.le_of_ble_eq_true rfl) ((xe_6 E a) _) (Nat.le_of_ble_eq_true rfl) rfl (by decide +kernel) rfl rfl (Nat.le_of_ble_eq_true rfl) ((xe_6 E a) _) dX5_takesWindow_72 (fun H locs hP hS => ?_)
          rw [← e19] at hP
          refine lv_goto (tgt := 2) hx hb dX5_takesWindow_75 (by decide) ?_
          exact ih M18 ((x2 * 10) + ((M6 7 (M6 6 2).toNatClampNeg) - 48)) r M' h _ _ _ hP hS (lv_sub hl [2, 3, 0] rfl)
        · rw [if_pos c17] at h
          refine lv_iconst (v := 0) hx hb dX5_takesWindow_61 (by decide) ?_
          obtain ⟨rfl, rfl⟩ := xm_pr h
          exact xm_retZ C hP hS (by rfl) dX5_takesWindow_62
def f_X5_takesWindow (n : Nat) (M : xm_M) (o1 : Nat) : Option (Int32 × xm_M) := f_X5_takesWindow_2 n M o1 0
set_option maxHeartbeats 4000000 in
set_option maxRecDepth 100000 in
theorem t_X5_takesWindow_0 {l : Launch} {p : Program} {e : Env} {s : State} {m : MethodId} {args : Array Value} {below : List Frame} {meth : Method} {c : Code} {E : xm_E} {a : Nat → Nat} (C : xm_C E (xv E a) p s m args meth c RX5 cX5_takesWindow 4 (some .boolean)) {o1 : Nat} (h1 : xm_Pa o1) (n : Nat) (M : xm_M) (r : Int32) (M' : xm_M) : f_X5_takesWindow n M o1 = some (r, M') → ∀ (H : Heap) (locs : List Loc) (ls : Array Slot), va_P E.1 vwCl (xm_w (xv E a) M) H → va_S (xm_A (xv E a) s.heap.size) s.heap H locs → lv_has ls 4 [(0, .ref (a 6)), (1, .ref (a o1))] → W p l e { frames := 1, cells := 0, slots := 0, locals := 22 } s m args below meth c H locs 0 0 (MQ below (xm_Q E (xv E a) M' s.heap.size (some r)) args s 0 0 (xm_A (xv E a) s.heap.size)) (F0 m 0 ls []) := by
  have C9 := C
  obtain ⟨hx, hb, hml, hown, hts, hr, hlk, hD, hK, hS9⟩ := C9
  intro h H locs ls hP hS hl
  unfold f_X5_takesWindow at h
  refine lv_iconst (v := 0) hx hb dX5_takesWindow_0 (by decide) ?_
  refine lv_istore_n (lv' := [(2, .int 0), (0, .ref (a 6)), (1, .ref (a o1))]) hx hb dX5_takesWindow_1 rfl hl (by decide) rfl (fun ls hl => ?_)
  exact t_X5_takesWindow_2 C h1 n M 0 r M' h _ _ _ hP hS (lv_sub hl [1, 2, 0] rfl)
theorem c_X5_takesWindow {l : Launch} {E : xm_E} {a : Nat → Nat} (hD : xm_D (xv E a)) {o1 : Nat} (h1 : xm_Pa o1) (n : Nat) (M : xm_M) (r : Int32) (M' : xm_M) (h : f_X5_takesWindow n M o1 = some (r, M')) : xm_Met l E (xv E a) yX5_takesWindow cX5_takesWindow 4 (some .boolean) 1 22 [.ref (a 6), .ref (a o1)] M M' (some r) :=
  xm_met (by decide +kernel) rfl (Nat.le_of_ble_eq_true rfl) hD (fun p e s m below meth c C hP ls hl => t_X5_takesWindow_0 C h1 n M r M' h _ _ _ hP va_S.rf hl)
def f_X5_takesRule (n : Nat) (M : xm_M) (o1 : Nat) : Option (Int32 × xm_M) := xm_lt (xm_up M o1 1 0) (fun M1 => xm_b2 (f_X5_next n M1) (fun r4 M3 => if r4 = 114 then xm_lt (xm_up M3 o1 1 1) (fun M20 => xm_b2 (f_X5_takesWord n M20 2) (fun r23 M22 => xm_ck (xm_z r23) (some (r23, M22)))) else xm_b2 (f_X5_next n M3) (fun r8 M7 => if r8 = 97 then if (M7 6 1) ≤ ((M7 6 2) + 1) then some (1, M7) else xm_ck (xm_in ((M7 6 2) + 1) 80) (if (M7 7 ((M7 6 2) + 1).toNatClampNeg) = 108 then xm_lt (xm_up M7 o1 1 2) (fun M14 => xm_b2 (f_X5_takesWord n M14 3) (fun r17 M16 => xm_ck (xm_z r17) (some (r17, M16)))) else some (1, M7)) else some (1, M7))))
set_option maxHeartbeats 4000000 in
set_option maxRecDepth 100000 in
theorem t_X5_takesRule_0 {l : Launch} {p : Program} {e : Env} {s : State} {m : MethodId} {args : Array Value} {below : List Frame} {meth : Method} {c : Code} {E : xm_E} {a : Nat → Nat} (C : xm_C E (xv E a) p s m args meth c RX5 cX5_takesRule 2 (some .boolean)) {o1 : Nat} (h1 : xm_Pa o1) (n : Nat) (M : xm_M) (r : Int32) (M' : xm_M) : f_X5_takesRule n M o1 = some (r, M') → ∀ (H : Heap) (locs : List Loc) (ls : Array Slot), va_P E.1 vwCl (xm_w (xv E a) M) H → va_S (xm_A (xv E a) s.heap.size) s.heap H locs → lv_has ls 2 [(0, .ref (a 6)), (1, .ref (a o1))] → W p l e { frames := 5, cells := 0, slots := 0, locals := 107 } s m args below meth c H locs 0 0 (MQ below (xm_Q E (xv E a) M' s.heap.size (some r)) args s 0 0 (xm_A (xv E a) s.heap.size)) (F0 m 0 ls []) := by
  have C9 := C
  obtain ⟨hx, hb, hml, hown, hts, hr, hlk, hD, hK, hS9⟩ := C9
  intro h H locs ls hP hS hl
  unfold f_X5_takesRule at h
  refine lv_aload_n hx hb dX5_takesRule_0 rfl (lv_at hl 1 rfl) ?_
  refine lv_iconst (v := 0) hx hb dX5_takesRule_1 (by decide) ?_
  obtain ⟨M1, e2, h⟩ := xm_lt_s h
  refine xm_putN (V := (xv E a)) (T := TX2) (ty := .int) (x := 0) C hP hS o1 1 xi_2 rfl l_X5_61 rfl tyX2_ok nmX2 (xp_lt h1 0 (by omega)) ((xp_0 h1 E a) _) (Nat.le_of_ble_eq_true rfl) rfl (by decide +kernel) rfl rfl (Nat.le_of_ble_eq_true rfl) ((xp_0 h1 E a) _) dX5_takesRule_2 (fun H locs hP hS => ?_)
  rw [← e2] at hP
  refine lv_aload_n hx hb dX5_takesRule_5 rfl (lv_at hl 0 rfl) ?_
  obtain ⟨r4, M3, e5, h⟩ := xm_b2_s h
  refine xm_callV C hP hS [] [] (c_X5_next hD  n M1  r4 M3 e5) k_X5_64 (xm_recv C hP 6 rfl (Nat.le_of_ble_eq_true rfl) ((xe_6 E a) _)) rfl rfl ⟨(Nat.le_of_ble_eq_true rfl), (Nat.le_of_ble_eq_true rfl)⟩ hl.1 (Nat.le_of_ble_eq_true rfl) ⟨Nat.zero_le _, Nat.zero_le _⟩ dX5_takesRule_6 (fun H locs hP hS => ?_)
  change W p l e _ s m _ below meth c H locs 0 0 _ (F0 m 9 ls [.int r4])
  refine lv_bipush (v := 114) hx hb dX5_takesRule_9 (by decide) ?_
  refine lv_icmp_ne (tgt := 26) hx hb dX5_takesRule_11 (by decide) (fun c6 => ?_) (fun c6 => ?_)
  · rw [if_neg c6] at h
    refine lv_aload_n hx hb dX5_takesRule_26 rfl (lv_at hl 0 rfl) ?_
    obtain ⟨r8, M7, e9, h⟩ := xm_b2_s h
    refine xm_callV C hP hS [] [] (c_X5_next hD  n M3  r8 M7 e9) k_X5_64 (xm_recv C hP 6 rfl (Nat.le_of_ble_eq_true rfl) ((xe_6 E a) _)) rfl rfl ⟨(Nat.le_of_ble_eq_true rfl), (Nat.le_of_ble_eq_true rfl)⟩ hl.1 (Nat.le_of_ble_eq_true rfl) ⟨Nat.zero_le _, Nat.zero_le _⟩ dX5_takesRule_27 (fun H locs hP hS => ?_)
    change W p l e _ s m _ below meth c H locs 0 0 _ (F0 m 30 ls [.int r8])
    refine lv_bipush (v := 97) hx hb dX5_takesRule_30 (by decide) ?_
    refine lv_icmp_ne (tgt := 76) hx hb dX5_takesRule_32 (by decide) (fun c10 => ?_) (fun c10 => ?_)
    · rw [if_neg c10] at h
      refine lv_iconst (v := 1) hx hb dX5_takesRule_76 (by decide) ?_
      obtain ⟨rfl, rfl⟩ := xm_pr h
      exact xm_retZ C hP hS (by rfl) dX5_takesRule_77
    · rw [if_pos c10] at h
      refine lv_aload_n hx hb dX5_takesRule_35 rfl (lv_at hl 0 rfl) ?_
      refine xm_get (V := (xv E a)) (T := TX5) (v := .int (M7 6 2)) C hP 6 2 xi_5 rfl l_X5_19 rfl (Nat.le_of_ble_eq_true rfl) ((xe_6 E a) _) (Nat.le_of_ble_eq_true rfl) rfl dX5_takesRule_36 ?_
      refine lv_iconst (v := 1) hx hb dX5_takesRule_39 (by decide) ?_
      refine lv_iadd hx hb dX5_takesRule_40 ?_
      refine lv_aload_n hx hb dX5_takesRule_41 rfl (lv_at hl 0 rfl) ?_
      refine xm_get (V := (xv E a)) (T := TX5) (v := .int (M7 6 1)) C hP 6 1 xi_5 rfl l_X5_15 rfl (Nat.le_of_ble_eq_true rfl) ((xe_6 E a) _) (Nat.le_of_ble_eq_true rfl) rfl dX5_takesRule_42 ?_
      refine lv_icmp_ge (tgt := 76) hx hb dX5_takesRule_45 (by decide) (fun c11 => ?_) (fun c11 => ?_)
      · rw [if_pos c11] at h
        refine lv_iconst (v := 1) hx hb dX5_takesRule_76 (by decide) ?_
        obtain ⟨rfl, rfl⟩ := xm_pr h
        exact xm_retZ C hP hS (by rfl) dX5_takesRule_77
      · rw [if_neg c11] at h
        refine lv_aload_n hx hb dX5_takesRule_48 rfl (lv_at hl 0 rfl) ?_
        refine xm_get (V := (xv E a)) (T := TX5) (v := .ref (a 7)) C hP 6 0 xi_5 rfl l_X5_9 rfl (Nat.le_of_ble_eq_true rfl) ((xe_6 E a) _) (Nat.le_of_ble_eq_true rfl) rfl dX5_takesRule_49 ?_
        refine lv_aload_n hx hb dX5_takesRule_52 rfl (lv_at hl 0 rfl) ?_
        refine xm_get (V := (xv E a)) (T := TX5) (v := .int (M7 6 2)) C hP 6 2 xi_5 rfl l_X5_19 rfl (Nat.le_of_ble_eq_true rfl) ((xe_6 E a) _) (Nat.le_of_ble_eq_true rfl) rfl dX5_takesRule_53 ?_
        refine lv_iconst (v := 1) hx hb dX5_takesRule_56 (by decide) ?_
        refine lv_iadd hx hb dX5_takesRule_57 ?_
        obtain ⟨b12, h⟩ := xm_ck_s h
        refine xm_cald (V := (xv E a)) C hP 7 80 (Nat.le_of_ble_eq_true rfl) (xe_7 E a) b12 dX5_takesRule_58 ?_
        refine lv_bipush (v := 108) hx hb dX5_takesRule_59 (by decide) ?_
        refine lv_icmp_ne (tgt := 76) hx hb dX5_takesRule_61 (by decide) (fun c13 => ?_) (fun c13 => ?_)
        · rw [if_neg c13] at h
          refine lv_iconst (v := 1) hx hb dX5_takesRule_76 (by decide) ?_
          obtain ⟨rfl, rfl⟩ := xm_pr h
          exact xm_retZ C hP hS (by rfl) dX5_takesRule_77
        · rw [if_pos c13] at h
          refine lv_aload_n hx hb dX5_takesRule_64 rfl (lv_at hl 1 rfl) ?_
          refine lv_iconst (v := 2) hx hb dX5_takesRule_65 (by decide) ?_
          obtain ⟨M14, e15, h⟩ := xm_lt_s h
          refine xm_putN (V := (xv E a)) (T := TX2) (ty := .int) (x := 2) C hP hS o1 1 xi_2 rfl l_X5_61 rfl tyX2_ok nmX2 (xp_lt h1 0 (by omega)) ((xp_0 h1 E a) _) (Nat.le_of_ble_eq_true rfl) rfl (by decide +kernel) rfl rfl (Nat.le_of_ble_eq_true rfl) ((xp_0 h1 E a) _) dX5_takesRule_66 (fun H locs hP hS => ?_)
          rw [← e15] at hP
          refine lv_aload_n hx hb dX5_takesRule_69 rfl (lv_at hl 0 rfl) ?_
          refine va_ldcS hx hb hown (C.2.2.2.2.2.2.2.2.1.2.2.1 3 (by omega)) dX5_takesRule_70 ?_
          obtain ⟨r17, M16, e18, h⟩ := xm_b2_s h
          refine xm_callV C hP hS [.ref (E.2.2.1 3)] [] (c_X5_takesWord hD (by omega) n M14  r17 M16 e18) k_X5_29 (xm_recv C hP 6 rfl (Nat.le_of_ble_eq_true rfl) ((xe_6 E a) _)) rfl rfl ⟨(Nat.le_of_ble_eq_true rfl), (Nat.le_of_ble_eq_true rfl)⟩ hl.1 (Nat.le_of_ble_eq_true rfl) ⟨Nat.zero_le _, Nat.zero_le _⟩ dX5_takesRule_72 (fun H locs hP hS => ?_)
          change W p l e _ s m _ below meth c H locs 0 0 _ (F0 m 75 ls [.int r17])
          obtain ⟨z19, h⟩ := xm_ck_s h
          obtain ⟨rfl, rfl⟩ := xm_pr h
          exact xm_retZ C hP hS (xm_z_s z19) dX5_takesRule_75
  · rw [if_pos c6] at h
    refine lv_aload_n hx hb dX5_takesRule_14 rfl (lv_at hl 1 rfl) ?_
    refine lv_iconst (v := 1) hx hb dX5_takesRule_15 (by decide) ?_
    obtain ⟨M20, e21, h⟩ := xm_lt_s h
    refine xm_putN (V := (xv E a)) (T := TX2) (ty := .int) (x := 1) C hP hS o1 1 xi_2 rfl l_X5_61 rfl tyX2_ok nmX2 (xp_lt h1 0 (by omega)) ((xp_0 h1 E a) _) (Nat.le_of_ble_eq_true rfl) rfl (by decide +kernel) rfl rfl (Nat.le_of_ble_eq_true rfl) ((xp_0 h1 E a) _) dX5_takesRule_16 (fun H locs hP hS => ?_)
    rw [← e21] at hP
    refine lv_aload_n hx hb dX5_takesRule_19 rfl (lv_at hl 0 rfl) ?_
    refine va_ldcS hx hb hown (C.2.2.2.2.2.2.2.2.1.2.2.1 2 (by omega)) dX5_takesRule_20 ?_
    obtain ⟨r23, M22, e24, h⟩ := xm_b2_s h
    refine xm_callV C hP hS [.ref (E.2.2.1 2)] [] (c_X5_takesWord hD (by omega) n M20  r23 M22 e24) k_X5_29 (xm_recv C hP 6 rfl (Nat.le_of_ble_eq_true rfl) ((xe_6 E a) _)) rfl rfl ⟨(Nat.le_of_ble_eq_true rfl), (Nat.le_of_ble_eq_true rfl)⟩ hl.1 (Nat.le_of_ble_eq_true rfl) ⟨Nat.zero_le _, Nat.zero_le _⟩ dX5_takesRule_22 (fun H locs hP hS => ?_)
    change W p l e _ s m _ below meth c H locs 0 0 _ (F0 m 25 ls [.int r23])
    obtain ⟨z25, h⟩ := xm_ck_s h
    obtain ⟨rfl, rfl⟩ := xm_pr h
    exact xm_retZ C hP hS (xm_z_s z25) dX5_takesRule_25
theorem c_X5_takesRule {l : Launch} {E : xm_E} {a : Nat → Nat} (hD : xm_D (xv E a)) {o1 : Nat} (h1 : xm_Pa o1) (n : Nat) (M : xm_M) (r : Int32) (M' : xm_M) (h : f_X5_takesRule n M o1 = some (r, M')) : xm_Met l E (xv E a) yX5_takesRule cX5_takesRule 2 (some .boolean) 5 107 [.ref (a 6), .ref (a o1)] M M' (some r) :=
  xm_met (by decide +kernel) rfl (Nat.le_of_ble_eq_true rfl) hD (fun p e s m below meth c C hP ls hl => t_X5_takesRule_0 C h1 n M r M' h _ _ _ hP va_S.rf hl)
def f_X5_takesStep_47 (n : Nat) (M : xm_M) (o1 : Nat) (x2 : Int32) : Option (Int32 × xm_M) := xm_b2 (f_X5_next n M) (fun r2 M1 => xm_b2 (f_X6_isKind n M1 r2) (fun r5 M4 => if r5 = 0 then some (0, M4) else xm_b2 (f_X2_hasRoomForStep n M4 o1) (fun r9 M8 => if r9 = 0 then some (0, M8) else xm_b1 (f_X2_addStep n M8 o1 r2 x2) (fun M12 => xm_lt (xm_up M12 6 2 ((M12 6 2) + 1)) (fun M15 => some (1, M15))))))
set_option maxHeartbeats 4000000 in
set_option maxRecDepth 100000 in
theorem t_X5_takesStep_47 {l : Launch} {p : Program} {e : Env} {s : State} {m : MethodId} {args : Array Value} {below : List Frame} {meth : Method} {c : Code} {E : xm_E} {a : Nat → Nat} (C : xm_C E (xv E a) p s m args meth c RX5 cX5_takesStep 4 (some .boolean)) {o1 : Nat} (h1 : xm_Pa o1) (n : Nat) (M : xm_M) (x2 : Int32) (r : Int32) (M' : xm_M) : f_X5_takesStep_47 n M o1 x2 = some (r, M') → ∀ (H : Heap) (locs : List Loc) (ls : Array Slot), va_P E.1 vwCl (xm_w (xv E a) M) H → va_S (xm_A (xv E a) s.heap.size) s.heap H locs → lv_has ls 4 [(0, .ref (a 6)), (1, .ref (a o1)), (2, .int x2)] → W p l e { frames := 5, cells := 0, slots := 0, locals := 107 } s m args below meth c H locs 0 0 (MQ below (xm_Q E (xv E a) M' s.heap.size (some r)) args s 0 0 (xm_A (xv E a) s.heap.size)) (F0 m 47 ls []) := by
  have C9 := C
  obtain ⟨hx, hb, hml, hown, hts, hr, hlk, hD, hK, hS9⟩ := C9
  intro h H locs ls hP hS hl
  unfold f_X5_takesStep_47 at h
  refine lv_aload_n hx hb dX5_takesStep_47 rfl (lv_at hl 0 rfl) ?_
  obtain ⟨r2, M1, e3, h⟩ := xm_b2_s h
  refine xm_callV C hP hS [] [] (c_X5_next hD  n M  r2 M1 e3) k_X5_64 (xm_recv C hP 6 rfl (Nat.le_of_ble_eq_true rfl) ((xe_6 E a) _)) rfl rfl ⟨(Nat.le_of_ble_eq_true rfl), (Nat.le_of_ble_eq_true rfl)⟩ hl.1 (Nat.le_of_ble_eq_true rfl) ⟨Nat.zero_le _, Nat.zero_le _⟩ dX5_takesStep_48 (fun H locs hP hS => ?_)
  change W p l e _ s m _ below meth c H locs 0 0 _ (F0 m 51 ls [.int r2])
  refine lv_istore_n (lv' := [(3, .int r2), (0, .ref (a 6)), (1, .ref (a o1)), (2, .int x2)]) hx hb dX5_takesStep_51 rfl hl (by decide) rfl (fun ls hl => ?_)
  refine lv_iload_n hx hb dX5_takesStep_52 rfl (lv_at hl 0 rfl) ?_
  obtain ⟨r5, M4, e6, h⟩ := xm_b2_s h
  refine xm_callSN C hP hS [.int r2] [] (c_X6_isKind hD  n M1 r2 r5 M4 e6) k_X5_89  rfl rfl ⟨(Nat.le_of_ble_eq_true rfl), (Nat.le_of_ble_eq_true rfl)⟩ hl.1 (Nat.le_of_ble_eq_true rfl) ⟨Nat.zero_le _, Nat.zero_le _⟩ dX5_takesStep_53 (fun H locs hP hS => ?_)
  change W p l e _ s m _ below meth c H locs 0 0 _ (F0 m 56 ls [.int r5])
  refine lv_if_eq (tgt := 66) hx hb dX5_takesStep_56 (by decide) (fun c7 => ?_) (fun c7 => ?_)
  · rw [if_pos c7] at h
    refine lv_iconst (v := 0) hx hb dX5_takesStep_66 (by decide) ?_
    obtain ⟨rfl, rfl⟩ := xm_pr h
    exact xm_retZ C hP hS (by rfl) dX5_takesStep_67
  · rw [if_neg c7] at h
    refine lv_aload_n hx hb dX5_takesStep_59 rfl (lv_at hl 2 rfl) ?_
    obtain ⟨r9, M8, e10, h⟩ := xm_b2_s h
    refine xm_callVN C hP hS [] [] (c_X2_hasRoomForStep hD h1 n M4  r9 M8 e10) k_X5_93 (xm_recv C hP o1 rfl (xp_lt h1 0 (by omega)) ((xp_0 h1 E a) _)) rfl rfl ⟨(Nat.le_of_ble_eq_true rfl), (Nat.le_of_ble_eq_true rfl)⟩ hl.1 (Nat.le_of_ble_eq_true rfl) ⟨Nat.zero_le _, Nat.zero_le _⟩ dX5_takesStep_60 (fun H locs hP hS => ?_)
    change W p l e _ s m _ below meth c H locs 0 0 _ (F0 m 63 ls [.int r9])
    refine lv_if_ne (tgt := 68) hx hb dX5_takesStep_63 (by decide) (fun c11 => ?_) (fun c11 => ?_)
    · rw [if_neg c11] at h
      refine lv_aload_n hx hb dX5_takesStep_68 rfl (lv_at hl 2 rfl) ?_
      refine lv_iload_n hx hb dX5_takesStep_69 rfl (lv_at hl 0 rfl) ?_
      refine lv_iload_n hx hb dX5_takesStep_70 rfl (lv_at hl 3 rfl) ?_
      obtain ⟨M12, e14, h⟩ := xm_b1_s h
      refine xm_callVN C hP hS [.int r2, .int x2] [] (c_X2_addStep hD h1 n M8 r2 x2 M12 e14) k_X5_96 (xm_recv C hP o1 rfl (xp_lt h1 0 (by omega)) ((xp_0 h1 E a) _)) rfl rfl ⟨(Nat.le_of_ble_eq_true rfl), (Nat.le_of_ble_eq_true rfl)⟩ hl.1 (Nat.le_of_ble_eq_true rfl) ⟨Nat.zero_le _, Nat.zero_le _⟩ dX5_takesStep_71 (fun H locs hP hS => ?_)
      change W p l e _ s m _ below meth c H locs 0 0 _ (F0 m 74 ls [])
      refine lv_aload_n hx hb dX5_takesStep_74 rfl (lv_at hl 1 rfl) ?_
      refine lv_dup hx hb dX5_takesStep_75 rfl ?_
      refine xm_get (V := (xv E a)) (T := TX5) (v := .int (M12 6 2)) C hP 6 2 xi_5 rfl l_X5_19 rfl (Nat.le_of_ble_eq_true rfl) ((xe_6 E a) _) (Nat.le_of_ble_eq_true rfl) rfl dX5_takesStep_76 ?_
      refine lv_iconst (v := 1) hx hb dX5_takesStep_79 (by decide) ?_
      refine lv_iadd hx hb dX5_takesStep_80 ?_
      obtain ⟨M15, e16, h⟩ := xm_lt_s h
      refine xm_put (V := (xv E a)) (T := TX5) (ty := .int) (x := (M12 6 2) + 1) C hP hS 6 2 xi_5 rfl l_X5_19 rfl tyX5_ok nmX5 (Nat.le_of_ble_eq_true rfl) ((xe_6 E a) _) (Nat.le_of_ble_eq_true rfl) rfl (by decide +kernel) rfl rfl (Nat.le_of_ble_eq_true rfl) ((xe_6 E a) _) dX5_takesStep_81 (fun H locs hP hS => ?_)
      rw [← e16] at hP
      refine lv_iconst (v := 1) hx hb dX5_takesStep_84 (by decide) ?_
      obtain ⟨rfl, rfl⟩ := xm_pr h
      exact xm_retZ C hP hS (by rfl) dX5_takesStep_85
    · rw [if_pos c11] at h
      refine lv_iconst (v := 0) hx hb dX5_takesStep_66 (by decide) ?_
      obtain ⟨rfl, rfl⟩ := xm_pr h
      exact xm_retZ C hP hS (by rfl) dX5_takesStep_67
def f_X5_takesStep (n : Nat) (M : xm_M) (o1 : Nat) : Option (Int32 × xm_M) := xm_b2 (f_X5_next n M) (fun r2 M1 => if r2 = 110 then xm_b2 (f_X2_endsWithPlainStep n M1 o1) (fun r7 M6 => if r7 = 0 then some (0, M6) else xm_b2 (f_X5_takesWord n M6 4) (fun r11 M10 => if r11 = 0 then some (0, M10) else f_X5_takesStep_47 n M10 o1 1)) else if (M1 o1 3) < 4 then f_X5_takesStep_47 n M1 o1 0 else some (0, M1))
set_option maxHeartbeats 4000000 in
set_option maxRecDepth 100000 in
theorem t_X5_takesStep_0 {l : Launch} {p : Program} {e : Env} {s : State} {m : MethodId} {args : Array Value} {below : List Frame} {meth : Method} {c : Code} {E : xm_E} {a : Nat → Nat} (C : xm_C E (xv E a) p s m args meth c RX5 cX5_takesStep 4 (some .boolean)) {o1 : Nat} (h1 : xm_Pa o1) (n : Nat) (M : xm_M) (r : Int32) (M' : xm_M) : f_X5_takesStep n M o1 = some (r, M') → ∀ (H : Heap) (locs : List Loc) (ls : Array Slot), va_P E.1 vwCl (xm_w (xv E a) M) H → va_S (xm_A (xv E a) s.heap.size) s.heap H locs → lv_has ls 4 [(0, .ref (a 6)), (1, .ref (a o1))] → W p l e { frames := 5, cells := 0, slots := 0, locals := 107 } s m args below meth c H locs 0 0 (MQ below (xm_Q E (xv E a) M' s.heap.size (some r)) args s 0 0 (xm_A (xv E a) s.heap.size)) (F0 m 0 ls []) := by
  have C9 := C
  obtain ⟨hx, hb, hml, hown, hts, hr, hlk, hD, hK, hS9⟩ := C9
  intro h H locs ls hP hS hl
  unfold f_X5_takesStep at h
  refine lv_aload_n hx hb dX5_takesStep_0 rfl (lv_at hl 0 rfl) ?_
  obtain ⟨r2, M1, e3, h⟩ := xm_b2_s h
  refine xm_callV C hP hS [] [] (c_X5_next hD  n M  r2 M1 e3) k_X5_64 (xm_recv C hP 6 rfl (Nat.le_of_ble_eq_true rfl) ((xe_6 E a) _)) rfl rfl ⟨(Nat.le_of_ble_eq_true rfl), (Nat.le_of_ble_eq_true rfl)⟩ hl.1 (Nat.le_of_ble_eq_true rfl) ⟨Nat.zero_le _, Nat.zero_le _⟩ dX5_takesStep_1 (fun H locs hP hS => ?_)
  change W p l e _ s m _ below meth c H locs 0 0 _ (F0 m 4 ls [.int r2])
  refine lv_bipush (v := 110) hx hb dX5_takesStep_4 (by decide) ?_
  refine lv_icmp_ne (tgt := 13) hx hb dX5_takesStep_6 (by decide) (fun c4 => ?_) (fun c4 => ?_)
  · rw [if_neg c4] at h
    refine lv_iconst (v := 0) hx hb dX5_takesStep_13 (by decide) ?_
    refine lv_istore_n (lv' := [(2, .int 0), (0, .ref (a 6)), (1, .ref (a o1))]) hx hb dX5_takesStep_14 rfl hl (by decide) rfl (fun ls hl => ?_)
    refine lv_iload_n hx hb dX5_takesStep_15 rfl (lv_at hl 0 rfl) ?_
    refine lv_if_eq (tgt := 37) hx hb dX5_takesStep_16 (by decide) (fun _ => ?_) (fun c => absurd (by decide) c)
    refine lv_aload_n hx hb dX5_takesStep_37 rfl (lv_at hl 2 rfl) ?_
    refine xm_getN (V := (xv E a)) (T := TX2) (v := .int (M1 o1 3)) C hP o1 3 xi_2 rfl l_X5_86 rfl (xp_lt h1 0 (by omega)) ((xp_0 h1 E a) _) (Nat.le_of_ble_eq_true rfl) rfl dX5_takesStep_38 ?_
    refine lv_iconst (v := 4) hx hb dX5_takesStep_41 (by decide) ?_
    refine lv_icmp_lt (tgt := 47) hx hb dX5_takesStep_42 (by decide) (fun c5 => ?_) (fun c5 => ?_)
    · rw [if_pos c5] at h
      exact t_X5_takesStep_47 C h1 n M1 0 r M' h _ _ _ hP hS (lv_sub hl [1, 2, 0] rfl)
    · rw [if_neg c5] at h
      refine lv_iconst (v := 0) hx hb dX5_takesStep_45 (by decide) ?_
      obtain ⟨rfl, rfl⟩ := xm_pr h
      exact xm_retZ C hP hS (by rfl) dX5_takesStep_46
  · rw [if_pos c4] at h
    refine lv_iconst (v := 1) hx hb dX5_takesStep_9 (by decide) ?_
    refine lv_goto (tgt := 14) hx hb dX5_takesStep_10 (by decide) ?_
    refine lv_istore_n (lv' := [(2, .int 1), (0, .ref (a 6)), (1, .ref (a o1))]) hx hb dX5_takesStep_14 rfl hl (by decide) rfl (fun ls hl => ?_)
    refine lv_iload_n hx hb dX5_takesStep_15 rfl (lv_at hl 0 rfl) ?_
    refine lv_if_eq (tgt := 37) hx hb dX5_takesStep_16 (by decide) (fun c => absurd c (by decide)) (fun _ => ?_)
    refine lv_aload_n hx hb dX5_takesStep_19 rfl (lv_at hl 2 rfl) ?_
    obtain ⟨r7, M6, e8, h⟩ := xm_b2_s h
    refine xm_callVN C hP hS [] [] (c_X2_endsWithPlainStep hD h1 n M1  r7 M6 e8) k_X5_75 (xm_recv C hP o1 rfl (xp_lt h1 0 (by omega)) ((xp_0 h1 E a) _)) rfl rfl ⟨(Nat.le_of_ble_eq_true rfl), (Nat.le_of_ble_eq_true rfl)⟩ hl.1 (Nat.le_of_ble_eq_true rfl) ⟨Nat.zero_le _, Nat.zero_le _⟩ dX5_takesStep_20 (fun H locs hP hS => ?_)
    change W p l e _ s m _ below meth c H locs 0 0 _ (F0 m 23 ls [.int r7])
    refine lv_if_eq (tgt := 35) hx hb dX5_takesStep_23 (by decide) (fun c9 => ?_) (fun c9 => ?_)
    · rw [if_pos c9] at h
      refine lv_iconst (v := 0) hx hb dX5_takesStep_35 (by decide) ?_
      obtain ⟨rfl, rfl⟩ := xm_pr h
      exact xm_retZ C hP hS (by rfl) dX5_takesStep_36
    · rw [if_neg c9] at h
      refine lv_aload_n hx hb dX5_takesStep_26 rfl (lv_at hl 1 rfl) ?_
      refine va_ldcS hx hb hown (C.2.2.2.2.2.2.2.2.1.2.2.1 4 (by omega)) dX5_takesStep_27 ?_
      obtain ⟨r11, M10, e12, h⟩ := xm_b2_s h
      refine xm_callV C hP hS [.ref (E.2.2.1 4)] [] (c_X5_takesWord hD (by omega) n M6  r11 M10 e12) k_X5_29 (xm_recv C hP 6 rfl (Nat.le_of_ble_eq_true rfl) ((xe_6 E a) _)) rfl rfl ⟨(Nat.le_of_ble_eq_true rfl), (Nat.le_of_ble_eq_true rfl)⟩ hl.1 (Nat.le_of_ble_eq_true rfl) ⟨Nat.zero_le _, Nat.zero_le _⟩ dX5_takesStep_29 (fun H locs hP hS => ?_)
      change W p l e _ s m _ below meth c H locs 0 0 _ (F0 m 32 ls [.int r11])
      refine lv_if_ne (tgt := 47) hx hb dX5_takesStep_32 (by decide) (fun c13 => ?_) (fun c13 => ?_)
      · rw [if_neg c13] at h
        exact t_X5_takesStep_47 C h1 n M10 1 r M' h _ _ _ hP hS (lv_sub hl [1, 2, 0] rfl)
      · rw [if_pos c13] at h
        refine lv_iconst (v := 0) hx hb dX5_takesStep_35 (by decide) ?_
        obtain ⟨rfl, rfl⟩ := xm_pr h
        exact xm_retZ C hP hS (by rfl) dX5_takesStep_36
theorem c_X5_takesStep {l : Launch} {E : xm_E} {a : Nat → Nat} (hD : xm_D (xv E a)) {o1 : Nat} (h1 : xm_Pa o1) (n : Nat) (M : xm_M) (r : Int32) (M' : xm_M) (h : f_X5_takesStep n M o1 = some (r, M')) : xm_Met l E (xv E a) yX5_takesStep cX5_takesStep 4 (some .boolean) 5 107 [.ref (a 6), .ref (a o1)] M M' (some r) :=
  xm_met (by decide +kernel) rfl (Nat.le_of_ble_eq_true rfl) hD (fun p e s m below meth c C hP ls hl => t_X5_takesStep_0 C h1 n M r M' h _ _ _ hP va_S.rf hl)
def f_X5_takesSteps_2 : Nat → xm_M → Nat → Int32 → Option (Int32 × xm_M)
  | 0, _, _, _ => none
  | n + 1, M, o1, x2 => if (8 : Int32) < x2 then some (0, M) else xm_b2 (f_X5_takesStep n M o1) (fun r3 M2 => if r3 = 0 then some (0, M2) else if (M2 6 2) < (M2 6 1) then xm_b2 (f_X5_takesWord n M2 5) (fun r8 M7 => if r8 = 0 then some (0, M7) else f_X5_takesSteps_2 n M7 o1 (x2 + 1)) else xm_b2 (f_X2_endsWithPlainStep n M2 o1) (fun r12 M11 => if r12 = 0 then some (0, M11) else if (M11 o1 2) ≤ 1 then some (0, M11) else some (1, M11)))
set_option maxHeartbeats 4000000 in
set_option maxRecDepth 100000 in
theorem t_X5_takesSteps_2 {l : Launch} {p : Program} {e : Env} {s : State} {m : MethodId} {args : Array Value} {below : List Frame} {meth : Method} {c : Code} {E : xm_E} {a : Nat → Nat} (C : xm_C E (xv E a) p s m args meth c RX5 cX5_takesSteps 3 (some .boolean)) {o1 : Nat} (h1 : xm_Pa o1) : ∀ (n : Nat) (M : xm_M) (x2 : Int32) (r : Int32) (M' : xm_M), f_X5_takesSteps_2 n M o1 x2 = some (r, M') → ∀ (H : Heap) (locs : List Loc) (ls : Array Slot), va_P E.1 vwCl (xm_w (xv E a) M) H → va_S (xm_A (xv E a) s.heap.size) s.heap H locs → lv_has ls 3 [(0, .ref (a 6)), (1, .ref (a o1)), (2, .int x2)] → W p l e { frames := 6, cells := 0, slots := 0, locals := 130 } s m args below meth c H locs 0 0 (MQ below (xm_Q E (xv E a) M' s.heap.size (some r)) args s 0 0 (xm_A (xv E a) s.heap.size)) (F0 m 2 ls []) := by
  have C9 := C
  obtain ⟨hx, hb, hml, hown, hts, hr, hlk, hD, hK, hS9⟩ := C9
  intro n
  induction n with
  | zero =>
    intro M x2 r M' h
    cases h
  | succ n ih =>
    intro M x2 r M' h H locs ls hP hS hl
    rw [f_X5_takesSteps_2] at h
    refine lv_iload_n hx hb dX5_takesSteps_2 rfl (lv_at hl 2 rfl) ?_
    refine lv_bipush (v := 8) hx hb dX5_takesSteps_3 (by decide) ?_
    refine lv_icmp_gt (tgt := 67) hx hb dX5_takesSteps_5 (by decide) (fun c1 => ?_) (fun c1 => ?_)
    · rw [if_pos c1] at h
      refine lv_iconst (v := 0) hx hb dX5_takesSteps_67 (by decide) ?_
      obtain ⟨rfl, rfl⟩ := xm_pr h
      exact xm_retZ C hP hS (by rfl) dX5_takesSteps_68
    · rw [if_neg c1] at h
      refine lv_aload_n hx hb dX5_takesSteps_8 rfl (lv_at hl 0 rfl) ?_
      refine lv_aload_n hx hb dX5_takesSteps_9 rfl (lv_at hl 1 rfl) ?_
      obtain ⟨r3, M2, e4, h⟩ := xm_b2_s h
      refine xm_callV C hP hS [.ref (a o1)] [] (c_X5_takesStep hD h1 n M  r3 M2 e4) k_X5_72 (xm_recv C hP 6 rfl (Nat.le_of_ble_eq_true rfl) ((xe_6 E a) _)) rfl rfl ⟨(Nat.le_of_ble_eq_true rfl), (Nat.le_of_ble_eq_true rfl)⟩ hl.1 (Nat.le_of_ble_eq_true rfl) ⟨Nat.zero_le _, Nat.zero_le _⟩ dX5_takesSteps_10 (fun H locs hP hS => ?_)
      change W p l e _ s m _ below meth c H locs 0 0 _ (F0 m 13 ls [.int r3])
      refine lv_if_ne (tgt := 18) hx hb dX5_takesSteps_13 (by decide) (fun c5 => ?_) (fun c5 => ?_)
      · rw [if_neg c5] at h
        refine lv_aload_n hx hb dX5_takesSteps_18 rfl (lv_at hl 0 rfl) ?_
        refine xm_get (V := (xv E a)) (T := TX5) (v := .int (M2 6 2)) C hP 6 2 xi_5 rfl l_X5_19 rfl (Nat.le_of_ble_eq_true rfl) ((xe_6 E a) _) (Nat.le_of_ble_eq_true rfl) rfl dX5_takesSteps_19 ?_
        refine lv_aload_n hx hb dX5_takesSteps_22 rfl (lv_at hl 0 rfl) ?_
        refine xm_get (V := (xv E a)) (T := TX5) (v := .int (M2 6 1)) C hP 6 1 xi_5 rfl l_X5_15 rfl (Nat.le_of_ble_eq_true rfl) ((xe_6 E a) _) (Nat.le_of_ble_eq_true rfl) rfl dX5_takesSteps_23 ?_
        refine lv_icmp_lt (tgt := 50) hx hb dX5_takesSteps_26 (by decide) (fun c6 => ?_) (fun c6 => ?_)
        · rw [if_pos c6] at h
          refine lv_aload_n hx hb dX5_takesSteps_50 rfl (lv_at hl 0 rfl) ?_
          refine va_ldcS hx hb hown (C.2.2.2.2.2.2.2.2.1.2.2.1 5 (by omega)) dX5_takesSteps_51 ?_
          obtain ⟨r8, M7, e9, h⟩ := xm_b2_s h
          refine xm_callV C hP hS [.ref (E.2.2.1 5)] [] (c_X5_takesWord hD (by omega) n M2  r8 M7 e9) k_X5_29 (xm_recv C hP 6 rfl (Nat.le_of_ble_eq_true rfl) ((xe_6 E a) _)) rfl rfl ⟨(Nat.le_of_ble_eq_true rfl), (Nat.le_of_ble_eq_true rfl)⟩ hl.1 (Nat.le_of_ble_eq_true rfl) ⟨Nat.zero_le _, Nat.zero_le _⟩ dX5_takesSteps_53 (fun H locs hP hS => ?_)
          change W p l e _ s m _ below meth c H locs 0 0 _ (F0 m 56 ls [.int r8])
          refine lv_if_ne (tgt := 61) hx hb dX5_takesSteps_56 (by decide) (fun c10 => ?_) (fun c10 => ?_)
          · rw [if_neg c10] at h
            refine lv_iinc (v := x2 + 1) (lv' := [(2, .int (x2 + 1)), (0, .ref (a 6)), (1, .ref (a o1))]) hx hb dX5_takesSteps_61 hl (k := 2) rfl (xm_add (by decide)) (by decide) rfl (fun ls hl => ?_)
            refine lv_goto (tgt := 2) hx hb dX5_takesSteps_64 (by decide) ?_
            exact ih M7 (x2 + 1) r M' h _ _ _ hP hS (lv_sub hl [1, 2, 0] rfl)
          · rw [if_pos c10] at h
            refine lv_iconst (v := 0) hx hb dX5_takesSteps_59 (by decide) ?_
            obtain ⟨rfl, rfl⟩ := xm_pr h
            exact xm_retZ C hP hS (by rfl) dX5_takesSteps_60
        · rw [if_neg c6] at h
          refine lv_aload_n hx hb dX5_takesSteps_29 rfl (lv_at hl 1 rfl) ?_
          obtain ⟨r12, M11, e13, h⟩ := xm_b2_s h
          refine xm_callVN C hP hS [] [] (c_X2_endsWithPlainStep hD h1 n M2  r12 M11 e13) k_X5_75 (xm_recv C hP o1 rfl (xp_lt h1 0 (by omega)) ((xp_0 h1 E a) _)) rfl rfl ⟨(Nat.le_of_ble_eq_true rfl), (Nat.le_of_ble_eq_true rfl)⟩ hl.1 (Nat.le_of_ble_eq_true rfl) ⟨Nat.zero_le _, Nat.zero_le _⟩ dX5_takesSteps_30 (fun H locs hP hS => ?_)
          change W p l e _ s m _ below meth c H locs 0 0 _ (F0 m 33 ls [.int r12])
          refine lv_if_eq (tgt := 48) hx hb dX5_takesSteps_33 (by decide) (fun c14 => ?_) (fun c14 => ?_)
          · rw [if_pos c14] at h
            refine lv_iconst (v := 0) hx hb dX5_takesSteps_48 (by decide) ?_
            obtain ⟨rfl, rfl⟩ := xm_pr h
            exact xm_retZ C hP hS (by rfl) dX5_takesSteps_49
          · rw [if_neg c14] at h
            refine lv_aload_n hx hb dX5_takesSteps_36 rfl (lv_at hl 1 rfl) ?_
            refine xm_getN (V := (xv E a)) (T := TX2) (v := .int (M11 o1 2)) C hP o1 2 xi_2 rfl l_X5_79 rfl (xp_lt h1 0 (by omega)) ((xp_0 h1 E a) _) (Nat.le_of_ble_eq_true rfl) rfl dX5_takesSteps_37 ?_
            refine lv_iconst (v := 1) hx hb dX5_takesSteps_40 (by decide) ?_
            refine lv_icmp_le (tgt := 48) hx hb dX5_takesSteps_41 (by decide) (fun c15 => ?_) (fun c15 => ?_)
            · rw [if_pos c15] at h
              refine lv_iconst (v := 0) hx hb dX5_takesSteps_48 (by decide) ?_
              obtain ⟨rfl, rfl⟩ := xm_pr h
              exact xm_retZ C hP hS (by rfl) dX5_takesSteps_49
            · rw [if_neg c15] at h
              refine lv_iconst (v := 1) hx hb dX5_takesSteps_44 (by decide) ?_
              refine lv_goto (tgt := 49) hx hb dX5_takesSteps_45 (by decide) ?_
              obtain ⟨rfl, rfl⟩ := xm_pr h
              exact xm_retZ C hP hS (by rfl) dX5_takesSteps_49
      · rw [if_pos c5] at h
        refine lv_iconst (v := 0) hx hb dX5_takesSteps_16 (by decide) ?_
        obtain ⟨rfl, rfl⟩ := xm_pr h
        exact xm_retZ C hP hS (by rfl) dX5_takesSteps_17
def f_X5_takesSteps (n : Nat) (M : xm_M) (o1 : Nat) : Option (Int32 × xm_M) := f_X5_takesSteps_2 n M o1 0
set_option maxHeartbeats 4000000 in
set_option maxRecDepth 100000 in
theorem t_X5_takesSteps_0 {l : Launch} {p : Program} {e : Env} {s : State} {m : MethodId} {args : Array Value} {below : List Frame} {meth : Method} {c : Code} {E : xm_E} {a : Nat → Nat} (C : xm_C E (xv E a) p s m args meth c RX5 cX5_takesSteps 3 (some .boolean)) {o1 : Nat} (h1 : xm_Pa o1) (n : Nat) (M : xm_M) (r : Int32) (M' : xm_M) : f_X5_takesSteps n M o1 = some (r, M') → ∀ (H : Heap) (locs : List Loc) (ls : Array Slot), va_P E.1 vwCl (xm_w (xv E a) M) H → va_S (xm_A (xv E a) s.heap.size) s.heap H locs → lv_has ls 3 [(0, .ref (a 6)), (1, .ref (a o1))] → W p l e { frames := 6, cells := 0, slots := 0, locals := 130 } s m args below meth c H locs 0 0 (MQ below (xm_Q E (xv E a) M' s.heap.size (some r)) args s 0 0 (xm_A (xv E a) s.heap.size)) (F0 m 0 ls []) := by
  have C9 := C
  obtain ⟨hx, hb, hml, hown, hts, hr, hlk, hD, hK, hS9⟩ := C9
  intro h H locs ls hP hS hl
  unfold f_X5_takesSteps at h
  refine lv_iconst (v := 0) hx hb dX5_takesSteps_0 (by decide) ?_
  refine lv_istore_n (lv' := [(2, .int 0), (0, .ref (a 6)), (1, .ref (a o1))]) hx hb dX5_takesSteps_1 rfl hl (by decide) rfl (fun ls hl => ?_)
  exact t_X5_takesSteps_2 C h1 n M 0 r M' h _ _ _ hP hS (lv_sub hl [1, 2, 0] rfl)
theorem c_X5_takesSteps {l : Launch} {E : xm_E} {a : Nat → Nat} (hD : xm_D (xv E a)) {o1 : Nat} (h1 : xm_Pa o1) (n : Nat) (M : xm_M) (r : Int32) (M' : xm_M) (h : f_X5_takesSteps n M o1 = some (r, M')) : xm_Met l E (xv E a) yX5_takesSteps cX5_takesSteps 3 (some .boolean) 6 130 [.ref (a 6), .ref (a o1)] M M' (some r) :=
  xm_met (by decide +kernel) rfl (Nat.le_of_ble_eq_true rfl) hD (fun p e s m below meth c C hP ls hl => t_X5_takesSteps_0 C h1 n M r M' h _ _ _ hP va_S.rf hl)
def f_X5_readInto (n : Nat) (M : xm_M) (o1 : Nat) : Option (Int32 × xm_M) := xm_lt (xm_up M 6 2 0) (fun M1 => xm_b1 (f_X2_clearSteps n M1 o1) (fun M3 => xm_b2 (f_X5_takesWord n M3 0) (fun r7 M6 => if r7 = 0 then some (M6 6 2, M6) else xm_b2 (f_X5_takesWindow n M6 o1) (fun r11 M10 => if r11 = 0 then some (M10 6 2, M10) else xm_b2 (f_X5_takesWord n M10 1) (fun r15 M14 => if r15 = 0 then some (M14 6 2, M14) else xm_b2 (f_X5_takesRule n M14 o1) (fun r19 M18 => if r19 = 0 then some (M18 6 2, M18) else xm_b2 (f_X5_takesSteps n M18 o1) (fun r23 M22 => if r23 = 0 then some (M22 6 2, M22) else some ((-1), M22))))))))
set_option maxHeartbeats 4000000 in
set_option maxRecDepth 100000 in
theorem t_X5_readInto_0 {l : Launch} {p : Program} {e : Env} {s : State} {m : MethodId} {args : Array Value} {below : List Frame} {meth : Method} {c : Code} {E : xm_E} {a : Nat → Nat} (C : xm_C E (xv E a) p s m args meth c RX5 cX5_readInto 3 (some .int)) {o1 : Nat} (h1 : xm_Pa o1) (n : Nat) (M : xm_M) (r : Int32) (M' : xm_M) : f_X5_readInto n M o1 = some (r, M') → ∀ (H : Heap) (locs : List Loc) (ls : Array Slot), va_P E.1 vwCl (xm_w (xv E a) M) H → va_S (xm_A (xv E a) s.heap.size) s.heap H locs → lv_has ls 3 [(0, .ref (a 6)), (1, .ref (a o1))] → W p l e { frames := 7, cells := 0, slots := 0, locals := 152 } s m args below meth c H locs 0 0 (MQ below (xm_Q E (xv E a) M' s.heap.size (some r)) args s 0 0 (xm_A (xv E a) s.heap.size)) (F0 m 0 ls []) := by
  have C9 := C
  obtain ⟨hx, hb, hml, hown, hts, hr, hlk, hD, hK, hS9⟩ := C9
  intro h H locs ls hP hS hl
  unfold f_X5_readInto at h
  refine lv_aload_n hx hb dX5_readInto_0 rfl (lv_at hl 0 rfl) ?_
  refine lv_iconst (v := 0) hx hb dX5_readInto_1 (by decide) ?_
  obtain ⟨M1, e2, h⟩ := xm_lt_s h
  refine xm_put (V := (xv E a)) (T := TX5) (ty := .int) (x := 0) C hP hS 6 2 xi_5 rfl l_X5_19 rfl tyX5_ok nmX5 (Nat.le_of_ble_eq_true rfl) ((xe_6 E a) _) (Nat.le_of_ble_eq_true rfl) rfl (by decide +kernel) rfl rfl (Nat.le_of_ble_eq_true rfl) ((xe_6 E a) _) dX5_readInto_2 (fun H locs hP hS => ?_)
  rw [← e2] at hP
  refine lv_aload_n hx hb dX5_readInto_5 rfl (lv_at hl 1 rfl) ?_
  obtain ⟨M3, e5, h⟩ := xm_b1_s h
  refine xm_callVN C hP hS [] [] (c_X2_clearSteps hD h1 n M1  M3 e5) k_X5_22 (xm_recv C hP o1 rfl (xp_lt h1 0 (by omega)) ((xp_0 h1 E a) _)) rfl rfl ⟨(Nat.le_of_ble_eq_true rfl), (Nat.le_of_ble_eq_true rfl)⟩ hl.1 (Nat.le_of_ble_eq_true rfl) ⟨Nat.zero_le _, Nat.zero_le _⟩ dX5_readInto_6 (fun H locs hP hS => ?_)
  change W p l e _ s m _ below meth c H locs 0 0 _ (F0 m 9 ls [])
  refine lv_aload_n hx hb dX5_readInto_9 rfl (lv_at hl 0 rfl) ?_
  refine va_ldcS hx hb hown (C.2.2.2.2.2.2.2.2.1.2.2.1 0 (by omega)) dX5_readInto_10 ?_
  obtain ⟨r7, M6, e8, h⟩ := xm_b2_s h
  refine xm_callV C hP hS [.ref (E.2.2.1 0)] [] (c_X5_takesWord hD (by omega) n M3  r7 M6 e8) k_X5_29 (xm_recv C hP 6 rfl (Nat.le_of_ble_eq_true rfl) ((xe_6 E a) _)) rfl rfl ⟨(Nat.le_of_ble_eq_true rfl), (Nat.le_of_ble_eq_true rfl)⟩ hl.1 (Nat.le_of_ble_eq_true rfl) ⟨Nat.zero_le _, Nat.zero_le _⟩ dX5_readInto_12 (fun H locs hP hS => ?_)
  change W p l e _ s m _ below meth c H locs 0 0 _ (F0 m 15 ls [.int r7])
  refine lv_if_eq (tgt := 55) hx hb dX5_readInto_15 (by decide) (fun c9 => ?_) (fun c9 => ?_)
  · rw [if_pos c9] at h
    refine lv_iconst (v := 0) hx hb dX5_readInto_55 (by decide) ?_
    refine lv_istore_n (lv' := [(2, .int 0), (0, .ref (a 6)), (1, .ref (a o1))]) hx hb dX5_readInto_56 rfl hl (by decide) rfl (fun ls hl => ?_)
    refine lv_iload_n hx hb dX5_readInto_57 rfl (lv_at hl 0 rfl) ?_
    refine lv_if_eq (tgt := 65) hx hb dX5_readInto_58 (by decide) (fun _ => ?_) (fun c => absurd (by decide) c)
    refine lv_aload_n hx hb dX5_readInto_65 rfl (lv_at hl 1 rfl) ?_
    refine xm_get (V := (xv E a)) (T := TX5) (v := .int (M6 6 2)) C hP 6 2 xi_5 rfl l_X5_19 rfl (Nat.le_of_ble_eq_true rfl) ((xe_6 E a) _) (Nat.le_of_ble_eq_true rfl) rfl dX5_readInto_66 ?_
    obtain ⟨rfl, rfl⟩ := xm_pr h
    exact xm_retI C hP hS dX5_readInto_69
  · rw [if_neg c9] at h
    refine lv_aload_n hx hb dX5_readInto_18 rfl (lv_at hl 0 rfl) ?_
    refine lv_aload_n hx hb dX5_readInto_19 rfl (lv_at hl 1 rfl) ?_
    obtain ⟨r11, M10, e12, h⟩ := xm_b2_s h
    refine xm_callV C hP hS [.ref (a o1)] [] (c_X5_takesWindow hD h1 n M6  r11 M10 e12) k_X5_33 (xm_recv C hP 6 rfl (Nat.le_of_ble_eq_true rfl) ((xe_6 E a) _)) rfl rfl ⟨(Nat.le_of_ble_eq_true rfl), (Nat.le_of_ble_eq_true rfl)⟩ hl.1 (Nat.le_of_ble_eq_true rfl) ⟨Nat.zero_le _, Nat.zero_le _⟩ dX5_readInto_20 (fun H locs hP hS => ?_)
    change W p l e _ s m _ below meth c H locs 0 0 _ (F0 m 23 ls [.int r11])
    refine lv_if_eq (tgt := 55) hx hb dX5_readInto_23 (by decide) (fun c13 => ?_) (fun c13 => ?_)
    · rw [if_pos c13] at h
      refine lv_iconst (v := 0) hx hb dX5_readInto_55 (by decide) ?_
      refine lv_istore_n (lv' := [(2, .int 0), (0, .ref (a 6)), (1, .ref (a o1))]) hx hb dX5_readInto_56 rfl hl (by decide) rfl (fun ls hl => ?_)
      refine lv_iload_n hx hb dX5_readInto_57 rfl (lv_at hl 0 rfl) ?_
      refine lv_if_eq (tgt := 65) hx hb dX5_readInto_58 (by decide) (fun _ => ?_) (fun c => absurd (by decide) c)
      refine lv_aload_n hx hb dX5_readInto_65 rfl (lv_at hl 1 rfl) ?_
      refine xm_get (V := (xv E a)) (T := TX5) (v := .int (M10 6 2)) C hP 6 2 xi_5 rfl l_X5_19 rfl (Nat.le_of_ble_eq_true rfl) ((xe_6 E a) _) (Nat.le_of_ble_eq_true rfl) rfl dX5_readInto_66 ?_
      obtain ⟨rfl, rfl⟩ := xm_pr h
      exact xm_retI C hP hS dX5_readInto_69
    · rw [if_neg c13] at h
      refine lv_aload_n hx hb dX5_readInto_26 rfl (lv_at hl 0 rfl) ?_
      refine va_ldcS hx hb hown (C.2.2.2.2.2.2.2.2.1.2.2.1 1 (by omega)) dX5_readInto_27 ?_
      obtain ⟨r15, M14, e16, h⟩ := xm_b2_s h
      refine xm_callV C hP hS [.ref (E.2.2.1 1)] [] (c_X5_takesWord hD (by omega) n M10  r15 M14 e16) k_X5_29 (xm_recv C hP 6 rfl (Nat.le_of_ble_eq_true rfl) ((xe_6 E a) _)) rfl rfl ⟨(Nat.le_of_ble_eq_true rfl), (Nat.le_of_ble_eq_true rfl)⟩ hl.1 (Nat.le_of_ble_eq_true rfl) ⟨Nat.zero_le _, Nat.zero_le _⟩ dX5_readInto_29 (fun H locs hP hS => ?_)
      change W p l e _ s m _ below meth c H locs 0 0 _ (F0 m 32 ls [.int r15])
      refine lv_if_eq (tgt := 55) hx hb dX5_readInto_32 (by decide) (fun c17 => ?_) (fun c17 => ?_)
      · rw [if_pos c17] at h
        refine lv_iconst (v := 0) hx hb dX5_readInto_55 (by decide) ?_
        refine lv_istore_n (lv' := [(2, .int 0), (0, .ref (a 6)), (1, .ref (a o1))]) hx hb dX5_readInto_56 rfl hl (by decide) rfl (fun ls hl => ?_)
        refine lv_iload_n hx hb dX5_readInto_57 rfl (lv_at hl 0 rfl) ?_
        refine lv_if_eq (tgt := 65) hx hb dX5_readInto_58 (by decide) (fun _ => ?_) (fun c => absurd (by decide) c)
        refine lv_aload_n hx hb dX5_readInto_65 rfl (lv_at hl 1 rfl) ?_
        refine xm_get (V := (xv E a)) (T := TX5) (v := .int (M14 6 2)) C hP 6 2 xi_5 rfl l_X5_19 rfl (Nat.le_of_ble_eq_true rfl) ((xe_6 E a) _) (Nat.le_of_ble_eq_true rfl) rfl dX5_readInto_66 ?_
        obtain ⟨rfl, rfl⟩ := xm_pr h
        exact xm_retI C hP hS dX5_readInto_69
      · rw [if_neg c17] at h
        refine lv_aload_n hx hb dX5_readInto_35 rfl (lv_at hl 0 rfl) ?_
        refine lv_aload_n hx hb dX5_readInto_36 rfl (lv_at hl 1 rfl) ?_
        obtain ⟨r19, M18, e20, h⟩ := xm_b2_s h
        refine xm_callV C hP hS [.ref (a o1)] [] (c_X5_takesRule hD h1 n M14  r19 M18 e20) k_X5_39 (xm_recv C hP 6 rfl (Nat.le_of_ble_eq_true rfl) ((xe_6 E a) _)) rfl rfl ⟨(Nat.le_of_ble_eq_true rfl), (Nat.le_of_ble_eq_true rfl)⟩ hl.1 (Nat.le_of_ble_eq_true rfl) ⟨Nat.zero_le _, Nat.zero_le _⟩ dX5_readInto_37 (fun H locs hP hS => ?_)
        change W p l e _ s m _ below meth c H locs 0 0 _ (F0 m 40 ls [.int r19])
        refine lv_if_eq (tgt := 55) hx hb dX5_readInto_40 (by decide) (fun c21 => ?_) (fun c21 => ?_)
        · rw [if_pos c21] at h
          refine lv_iconst (v := 0) hx hb dX5_readInto_55 (by decide) ?_
          refine lv_istore_n (lv' := [(2, .int 0), (0, .ref (a 6)), (1, .ref (a o1))]) hx hb dX5_readInto_56 rfl hl (by decide) rfl (fun ls hl => ?_)
          refine lv_iload_n hx hb dX5_readInto_57 rfl (lv_at hl 0 rfl) ?_
          refine lv_if_eq (tgt := 65) hx hb dX5_readInto_58 (by decide) (fun _ => ?_) (fun c => absurd (by decide) c)
          refine lv_aload_n hx hb dX5_readInto_65 rfl (lv_at hl 1 rfl) ?_
          refine xm_get (V := (xv E a)) (T := TX5) (v := .int (M18 6 2)) C hP 6 2 xi_5 rfl l_X5_19 rfl (Nat.le_of_ble_eq_true rfl) ((xe_6 E a) _) (Nat.le_of_ble_eq_true rfl) rfl dX5_readInto_66 ?_
          obtain ⟨rfl, rfl⟩ := xm_pr h
          exact xm_retI C hP hS dX5_readInto_69
        · rw [if_neg c21] at h
          refine lv_aload_n hx hb dX5_readInto_43 rfl (lv_at hl 0 rfl) ?_
          refine lv_aload_n hx hb dX5_readInto_44 rfl (lv_at hl 1 rfl) ?_
          obtain ⟨r23, M22, e24, h⟩ := xm_b2_s h
          refine xm_callV C hP hS [.ref (a o1)] [] (c_X5_takesSteps hD h1 n M18  r23 M22 e24) k_X5_42 (xm_recv C hP 6 rfl (Nat.le_of_ble_eq_true rfl) ((xe_6 E a) _)) rfl rfl ⟨(Nat.le_of_ble_eq_true rfl), (Nat.le_of_ble_eq_true rfl)⟩ hl.1 (Nat.le_of_ble_eq_true rfl) ⟨Nat.zero_le _, Nat.zero_le _⟩ dX5_readInto_45 (fun H locs hP hS => ?_)
          change W p l e _ s m _ below meth c H locs 0 0 _ (F0 m 48 ls [.int r23])
          refine lv_if_eq (tgt := 55) hx hb dX5_readInto_48 (by decide) (fun c25 => ?_) (fun c25 => ?_)
          · rw [if_pos c25] at h
            refine lv_iconst (v := 0) hx hb dX5_readInto_55 (by decide) ?_
            refine lv_istore_n (lv' := [(2, .int 0), (0, .ref (a 6)), (1, .ref (a o1))]) hx hb dX5_readInto_56 rfl hl (by decide) rfl (fun ls hl => ?_)
            refine lv_iload_n hx hb dX5_readInto_57 rfl (lv_at hl 0 rfl) ?_
            refine lv_if_eq (tgt := 65) hx hb dX5_readInto_58 (by decide) (fun _ => ?_) (fun c => absurd (by decide) c)
            refine lv_aload_n hx hb dX5_readInto_65 rfl (lv_at hl 1 rfl) ?_
            refine xm_get (V := (xv E a)) (T := TX5) (v := .int (M22 6 2)) C hP 6 2 xi_5 rfl l_X5_19 rfl (Nat.le_of_ble_eq_true rfl) ((xe_6 E a) _) (Nat.le_of_ble_eq_true rfl) rfl dX5_readInto_66 ?_
            obtain ⟨rfl, rfl⟩ := xm_pr h
            exact xm_retI C hP hS dX5_readInto_69
          · rw [if_neg c25] at h
            refine lv_iconst (v := 1) hx hb dX5_readInto_51 (by decide) ?_
            refine lv_goto (tgt := 56) hx hb dX5_readInto_52 (by decide) ?_
            refine lv_istore_n (lv' := [(2, .int 1), (0, .ref (a 6)), (1, .ref (a o1))]) hx hb dX5_readInto_56 rfl hl (by decide) rfl (fun ls hl => ?_)
            refine lv_iload_n hx hb dX5_readInto_57 rfl (lv_at hl 0 rfl) ?_
            refine lv_if_eq (tgt := 65) hx hb dX5_readInto_58 (by decide) (fun c => absurd c (by decide)) (fun _ => ?_)
            refine lv_iconst (v := (-1)) hx hb dX5_readInto_61 (by decide) ?_
            refine lv_goto (tgt := 69) hx hb dX5_readInto_62 (by decide) ?_
            obtain ⟨rfl, rfl⟩ := xm_pr h
            exact xm_retI C hP hS dX5_readInto_69
theorem c_X5_readInto {l : Launch} {E : xm_E} {a : Nat → Nat} (hD : xm_D (xv E a)) {o1 : Nat} (h1 : xm_Pa o1) (n : Nat) (M : xm_M) (r : Int32) (M' : xm_M) (h : f_X5_readInto n M o1 = some (r, M')) : xm_Met l E (xv E a) yX5_readInto cX5_readInto 3 (some .int) 7 152 [.ref (a 6), .ref (a o1)] M M' (some r) :=
  xm_met (by decide +kernel) rfl (Nat.le_of_ble_eq_true rfl) hD (fun p e s m below meth c C hP ls hl => t_X5_readInto_0 C h1 n M r M' h _ _ _ hP va_S.rf hl)
