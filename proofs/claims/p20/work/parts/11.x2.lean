theorem l_X4_9 : Cond.fieldLink RX4 9 "WindowMatches$State" "events" "I" ∈ xm_tb := xm_tb_of (List.mem_of_getElem? (i := 71) (by decide +kernel)) rfl
theorem l_X4_26 : Cond.fieldLink RX4 26 "WindowMatches$State" "newestTime" "I" ∈ xm_tb := xm_tb_of (List.mem_of_getElem? (i := 83) (by decide +kernel)) rfl
theorem l_X4_29 : Cond.fieldLink RX4 29 "WindowMatches$State" "lateness" "I" ∈ xm_tb := xm_tb_of (List.mem_of_getElem? (i := 86) (by decide +kernel)) rfl
theorem l_X4_32 : Cond.fieldLink RX4 32 "WindowMatches$State" "patternCount" "I" ∈ xm_tb := xm_tb_of (List.mem_of_getElem? (i := 88) (by decide +kernel)) rfl
theorem l_X4_15 : Cond.fieldLink RX4 15 "WindowMatches$State" "kinds" "[C" ∈ xm_tb := xm_tb_of (List.mem_of_getElem? (i := 74) (by decide +kernel)) rfl
theorem l_X4_19 : Cond.fieldLink RX4 19 "WindowMatches$State" "values" "[I" ∈ xm_tb := xm_tb_of (List.mem_of_getElem? (i := 77) (by decide +kernel)) rfl
theorem l_X4_23 : Cond.fieldLink RX4 23 "WindowMatches$State" "times" "[I" ∈ xm_tb := xm_tb_of (List.mem_of_getElem? (i := 80) (by decide +kernel)) rfl
theorem l_X4_37 : Cond.fieldLink RX4 37 "WindowMatches$State" "patterns" "[LWindowMatches$Pattern;" ∈ xm_tb := xm_tb_of (List.mem_of_getElem? (i := 91) (by decide +kernel)) rfl
theorem k_X4_42 : xm_FVN RX4 42 yX2_copyFrom "WindowMatches" cX2_copyFrom 3 none 1 := ⟨xm_tb_of (List.mem_of_getElem? (i := 363) (by decide +kernel)) rfl, xm_nest_of (List.mem_of_getElem? (i := 360) (by decide +kernel)) rfl, xm_tb_of (List.mem_of_getElem? (i := 362) (by decide +kernel)) rfl, xm_tb_sel (List.mem_of_getElem? (i := 16) (by decide +kernel)) rfl, xm_tb_of (List.mem_of_getElem? (i := 3) (by decide +kernel)) rfl, ⟨by decide +kernel, by decide +kernel, by decide +kernel⟩⟩
theorem k_X4_46 : Cond.methodLink RX4 46 Lib.Math.max.name ∈ xm_tb ∧ Cond.static Lib.Math.max.name ∈ xm_tb ∧ Cond.initialized "java/lang/Math" ∈ xm_tb ∧ Cond.code Lib.Math.max.name Lib.Math.max.code 2 (some .int) ∈ xm_tb := ⟨xm_tb_of (List.mem_of_getElem? (i := 290) (by decide +kernel)) rfl, xm_tb_of (List.mem_of_getElem? (i := 291) (by decide +kernel)) rfl, xm_tb_of (List.mem_of_getElem? (i := 8) (by decide +kernel)) rfl, xm_tb_of (List.mem_of_getElem? (i := 292) (by decide +kernel)) rfl⟩
theorem k_X4_52 : xm_FV RX4 52 yX4_putEvent cX4_putEvent 5 none 4 := ⟨xm_tb_of (List.mem_of_getElem? (i := 371) (by decide +kernel)) rfl, xm_tb_of (List.mem_of_getElem? (i := 368) (by decide +kernel)) rfl, xm_tb_of (List.mem_of_getElem? (i := 370) (by decide +kernel)) rfl, xm_tb_sel (List.mem_of_getElem? (i := 18) (by decide +kernel)) rfl, xm_tb_of (List.mem_of_getElem? (i := 2) (by decide +kernel)) rfl, ⟨by decide +kernel, by decide +kernel, by decide +kernel⟩⟩
theorem l_X0_21 : Cond.fieldLink RX0 21 "WindowMatches$History" "size" "I" ∈ xm_tb := xm_tb_of (List.mem_of_getElem? (i := 122) (by decide +kernel)) rfl
theorem l_X0_17 : Cond.fieldLink RX0 17 "WindowMatches$History" "oldest" "I" ∈ xm_tb := xm_tb_of (List.mem_of_getElem? (i := 121) (by decide +kernel)) rfl
theorem l_X0_11 : Cond.fieldLink RX0 11 "WindowMatches$History" "states" "[LWindowMatches$State;" ∈ xm_tb := xm_tb_of (List.mem_of_getElem? (i := 120) (by decide +kernel)) rfl
theorem k_X0_25 : xm_FVN RX0 25 yX4_copyFrom "WindowMatches" cX4_copyFrom 3 none 1 := ⟨xm_tb_of (List.mem_of_getElem? (i := 359) (by decide +kernel)) rfl, xm_nest_of (List.mem_of_getElem? (i := 356) (by decide +kernel)) rfl, xm_tb_of (List.mem_of_getElem? (i := 358) (by decide +kernel)) rfl, xm_tb_sel (List.mem_of_getElem? (i := 15) (by decide +kernel)) rfl, xm_tb_of (List.mem_of_getElem? (i := 2) (by decide +kernel)) rfl, ⟨by decide +kernel, by decide +kernel, by decide +kernel⟩⟩
def f_X4_copyFrom_86 : Nat → xm_M → Nat → Nat → Int32 → Option xm_M
  | 0, _, _, _, _ => none
  | n + 1, M, o0, o1, x2 => if (M o1 6) ≤ x2 then some M else xm_ck (xm_in x2 4) (xm_ck (xm_in x2 4) (xm_b1 (f_X2_copyFrom n M (o0 + 5 + 3 * x2.toNatClampNeg) (o1 + 5 + 3 * x2.toNatClampNeg)) (fun M4 => f_X4_copyFrom_86 n M4 o0 o1 (x2 + 1))))
set_option maxHeartbeats 4000000 in
set_option maxRecDepth 100000 in
theorem t_X4_copyFrom_86 {l : Launch} {p : Program} {e : Env} {s : State} {m : MethodId} {args : Array Value} {below : List Frame} {meth : Method} {c : Code} {E : xm_E} {a : Nat → Nat} (C : xm_C E (xv E a) p s m args meth c RX4 cX4_copyFrom 3 none) {o0 : Nat} {o1 : Nat} (h0 : xm_St o0) (h1 : xm_St o1) : ∀ (n : Nat) (M : xm_M) (x2 : Int32) (M' : xm_M), f_X4_copyFrom_86 n M o0 o1 x2 = some M' → ∀ (H : Heap) (locs : List Loc) (ls : Array Slot), va_P E.1 vwCl (xm_w (xv E a) M) H → va_S (xm_A (xv E a) s.heap.size) s.heap H locs → lv_has ls 3 [(0, .ref (a o0)), (1, .ref (a o1)), (2, .int x2)] → W p l e { frames := 1, cells := 0, slots := 0, locals := 22 } s m args below meth c H locs 0 0 (MQ below (xm_Q E (xv E a) M' s.heap.size none) args s 0 0 (xm_A (xv E a) s.heap.size)) (F0 m 86 ls []) := by
  have C9 := C
  obtain ⟨hx, hb, hml, hown, hts, hr, hlk, hD, hK, hS9⟩ := C9
  intro n
  induction n with
  | zero =>
    intro M x2 M' h
    cases h
  | succ n ih =>
    intro M x2 M' h H locs ls hP hS hl
    rw [f_X4_copyFrom_86] at h
    refine lv_iload_n hx hb dX4_copyFrom_86 rfl (lv_at hl 2 rfl) ?_
    refine lv_aload_n hx hb dX4_copyFrom_87 rfl (lv_at hl 1 rfl) ?_
    refine xm_get (V := (xv E a)) (T := TX4) (v := .int (M o1 6)) C hP o1 6 xi_4 rfl l_X4_32 rfl (xs_lt h1 0 (by omega)) ((xs_0 h1 E a) _) (Nat.le_of_ble_eq_true rfl) rfl dX4_copyFrom_88 ?_
    refine lv_icmp_ge (tgt := 115) hx hb dX4_copyFrom_91 (by decide) (fun c1 => ?_) (fun c1 => ?_)
    · rw [if_pos c1] at h
      cases xm_on h
      exact xm_retV C hP hS dX4_copyFrom_115
    · rw [if_neg c1] at h
      refine lv_aload_n hx hb dX4_copyFrom_94 rfl (lv_at hl 0 rfl) ?_
      refine xm_get (V := (xv E a)) (T := TX4) (v := .ref (a (o0 + 4))) C hP o0 7 xi_4 rfl l_X4_37 rfl (xs_lt h0 0 (by omega)) ((xs_0 h0 E a) _) (Nat.le_of_ble_eq_true rfl) rfl dX4_copyFrom_95 ?_
      refine lv_iload_n hx hb dX4_copyFrom_98 rfl (lv_at hl 2 rfl) ?_
      obtain ⟨b2, h⟩ := xm_ck_s h
      refine xm_aald (V := (xv E a)) (K := RX2) (v := a (o0 + 5 + 3 * x2.toNatClampNeg)) C hP (o0 + 4) 4 4 (xs_lt h0 4 (by omega)) (xs_4 h0 E a) rfl b2 (xo_rp_at b2) dX4_copyFrom_99 ?_
      refine lv_aload_n hx hb dX4_copyFrom_100 rfl (lv_at hl 1 rfl) ?_
      refine xm_get (V := (xv E a)) (T := TX4) (v := .ref (a (o1 + 4))) C hP o1 7 xi_4 rfl l_X4_37 rfl (xs_lt h1 0 (by omega)) ((xs_0 h1 E a) _) (Nat.le_of_ble_eq_true rfl) rfl dX4_copyFrom_101 ?_
      refine lv_iload_n hx hb dX4_copyFrom_104 rfl (lv_at hl 2 rfl) ?_
      obtain ⟨b3, h⟩ := xm_ck_s h
      refine xm_aald (V := (xv E a)) (K := RX2) (v := a (o1 + 5 + 3 * x2.toNatClampNeg)) C hP (o1 + 4) 4 4 (xs_lt h1 4 (by omega)) (xs_4 h1 E a) rfl b3 (xo_rp_at b3) dX4_copyFrom_105 ?_
      obtain ⟨M4, e6, h⟩ := xm_b1_s h
      refine xm_callVN C hP hS [.ref (a (o1 + 5 + 3 * x2.toNatClampNeg))] [] (c_X2_copyFrom hD (xp_s h0 b2) (xp_s h1 b3) n M  M4 e6) k_X4_42 (xm_recv C hP (o0 + 5 + 3 * x2.toNatClampNeg) rfl (xp_lt (xp_s h0 b2) 0 (by omega)) ((xp_0 (xp_s h0 b2) E a) _)) rfl rfl ⟨(Nat.le_of_ble_eq_true rfl), (Nat.le_of_ble_eq_true rfl)⟩ hl.1 (Nat.le_of_ble_eq_true rfl) ⟨Nat.zero_le _, Nat.zero_le _⟩ dX4_copyFrom_106 (fun H locs hP hS => ?_)
      change W p l e _ s m _ below meth c H locs 0 0 _ (F0 m 109 ls [])
      refine lv_iinc (v := x2 + 1) (lv' := [(2, .int (x2 + 1)), (0, .ref (a o0)), (1, .ref (a o1))]) hx hb dX4_copyFrom_109 hl (k := 2) rfl (xm_add (by decide)) (by decide) rfl (fun ls hl => ?_)
      refine lv_goto (tgt := 86) hx hb dX4_copyFrom_112 (by decide) ?_
      exact ih M4 (x2 + 1) M' h _ _ _ hP hS (lv_sub hl [1, 2, 0] rfl)
def f_X4_copyFrom_10 : Nat → xm_M → Nat → Nat → Int32 → Option xm_M
  | 0, _, _, _, _ => none
  | n + 1, M, o0, o1, x2 => if (M o1 0) ≤ x2 then xm_lt (xm_up M o0 4 (M o1 4)) (fun M2 => xm_lt (xm_up M2 o0 5 (M2 o1 5)) (fun M4 => xm_lt (xm_up M4 o0 6 (M4 o1 6)) (fun M6 => f_X4_copyFrom_86 n M6 o0 o1 0))) else xm_ck (xm_in x2 24) (xm_ck (xm_in x2 24) (xm_lt (xm_up M (o0 + 1) x2.toNatClampNeg (vp_nar .char (M (o1 + 1) x2.toNatClampNeg))) (fun M10 => xm_ck (xm_in x2 24) (xm_ck (xm_in x2 24) (xm_lt (xm_up M10 (o0 + 2) x2.toNatClampNeg (M10 (o1 + 2) x2.toNatClampNeg)) (fun M14 => xm_ck (xm_in x2 24) (xm_ck (xm_in x2 24) (xm_lt (xm_up M14 (o0 + 3) x2.toNatClampNeg (M14 (o1 + 3) x2.toNatClampNeg)) (fun M18 => f_X4_copyFrom_10 n M18 o0 o1 (x2 + 1))))))))))
set_option maxHeartbeats 4000000 in
set_option maxRecDepth 100000 in
theorem t_X4_copyFrom_10 {l : Launch} {p : Program} {e : Env} {s : State} {m : MethodId} {args : Array Value} {below : List Frame} {meth : Method} {c : Code} {E : xm_E} {a : Nat → Nat} (C : xm_C E (xv E a) p s m args meth c RX4 cX4_copyFrom 3 none) {o0 : Nat} {o1 : Nat} (h0 : xm_St o0) (h1 : xm_St o1) : ∀ (n : Nat) (M : xm_M) (x2 : Int32) (M' : xm_M), f_X4_copyFrom_10 n M o0 o1 x2 = some M' → ∀ (H : Heap) (locs : List Loc) (ls : Array Slot), va_P E.1 vwCl (xm_w (xv E a) M) H → va_S (xm_A (xv E a) s.heap.size) s.heap H locs → lv_has ls 3 [(0, .ref (a o0)), (1, .ref (a o1)), (2, .int x2)] → W p l e { frames := 1, cells := 0, slots := 0, locals := 22 } s m args below meth c H locs 0 0 (MQ below (xm_Q E (xv E a) M' s.heap.size none) args s 0 0 (xm_A (xv E a) s.heap.size)) (F0 m 10 ls []) := by
  have C9 := C
  obtain ⟨hx, hb, hml, hown, hts, hr, hlk, hD, hK, hS9⟩ := C9
  intro n
  induction n with
  | zero =>
    intro M x2 M' h
    cases h
  | succ n ih =>
    intro M x2 M' h H locs ls hP hS hl
    rw [f_X4_copyFrom_10] at h
    refine lv_iload_n hx hb dX4_copyFrom_10 rfl (lv_at hl 2 rfl) ?_
    refine lv_aload_n hx hb dX4_copyFrom_11 rfl (lv_at hl 1 rfl) ?_
    refine xm_get (V := (xv E a)) (T := TX4) (v := .int (M o1 0)) C hP o1 0 xi_4 rfl l_X4_9 rfl (xs_lt h1 0 (by omega)) ((xs_0 h1 E a) _) (Nat.le_of_ble_eq_true rfl) rfl dX4_copyFrom_12 ?_
    refine lv_icmp_ge (tgt := 60) hx hb dX4_copyFrom_15 (by decide) (fun c1 => ?_) (fun c1 => ?_)
    · rw [if_pos c1] at h
      refine lv_aload_n hx hb dX4_copyFrom_60 rfl (lv_at hl 0 rfl) ?_
      refine lv_aload_n hx hb dX4_copyFrom_61 rfl (lv_at hl 1 rfl) ?_
      refine xm_get (V := (xv E a)) (T := TX4) (v := .int (M o1 4)) C hP o1 4 xi_4 rfl l_X4_26 rfl (xs_lt h1 0 (by omega)) ((xs_0 h1 E a) _) (Nat.le_of_ble_eq_true rfl) rfl dX4_copyFrom_62 ?_
      obtain ⟨M2, e3, h⟩ := xm_lt_s h
      refine xm_put (V := (xv E a)) (T := TX4) (ty := .int) (x := M o1 4) C hP hS o0 4 xi_4 rfl l_X4_26 rfl tyX4_ok nmX4 (xs_lt h0 0 (by omega)) ((xs_0 h0 E a) _) (Nat.le_of_ble_eq_true rfl) rfl (by decide +kernel) rfl rfl (Nat.le_of_ble_eq_true rfl) ((xs_0 h0 E a) _) dX4_copyFrom_65 (fun H locs hP hS => ?_)
      rw [← e3] at hP
      refine lv_aload_n hx hb dX4_copyFrom_68 rfl (lv_at hl 0 rfl) ?_
      refine lv_aload_n hx hb dX4_copyFrom_69 rfl (lv_at hl 1 rfl) ?_
      refine xm_get (V := (xv E a)) (T := TX4) (v := .int (M2 o1 5)) C hP o1 5 xi_4 rfl l_X4_29 rfl (xs_lt h1 0 (by omega)) ((xs_0 h1 E a) _) (Nat.le_of_ble_eq_true rfl) rfl dX4_copyFrom_70 ?_
      obtain ⟨M4, e5, h⟩ := xm_lt_s h
      refine xm_put (V := (xv E a)) (T := TX4) (ty := .int) (x := M2 o1 5) C hP hS o0 5 xi_4 rfl l_X4_29 rfl tyX4_ok nmX4 (xs_lt h0 0 (by omega)) ((xs_0 h0 E a) _) (Nat.le_of_ble_eq_true rfl) rfl (by decide +kernel) rfl rfl (Nat.le_of_ble_eq_true rfl) ((xs_0 h0 E a) _) dX4_copyFrom_73 (fun H locs hP hS => ?_)
      rw [← e5] at hP
      refine lv_aload_n hx hb dX4_copyFrom_76 rfl (lv_at hl 0 rfl) ?_
      refine lv_aload_n hx hb dX4_copyFrom_77 rfl (lv_at hl 1 rfl) ?_
      refine xm_get (V := (xv E a)) (T := TX4) (v := .int (M4 o1 6)) C hP o1 6 xi_4 rfl l_X4_32 rfl (xs_lt h1 0 (by omega)) ((xs_0 h1 E a) _) (Nat.le_of_ble_eq_true rfl) rfl dX4_copyFrom_78 ?_
      obtain ⟨M6, e7, h⟩ := xm_lt_s h
      refine xm_put (V := (xv E a)) (T := TX4) (ty := .int) (x := M4 o1 6) C hP hS o0 6 xi_4 rfl l_X4_32 rfl tyX4_ok nmX4 (xs_lt h0 0 (by omega)) ((xs_0 h0 E a) _) (Nat.le_of_ble_eq_true rfl) rfl (by decide +kernel) rfl rfl (Nat.le_of_ble_eq_true rfl) ((xs_0 h0 E a) _) dX4_copyFrom_81 (fun H locs hP hS => ?_)
      rw [← e7] at hP
      refine lv_iconst (v := 0) hx hb dX4_copyFrom_84 (by decide) ?_
      refine lv_istore_n (lv' := [(2, .int 0), (0, .ref (a o0)), (1, .ref (a o1))]) hx hb dX4_copyFrom_85 rfl hl (by decide) rfl (fun ls hl => ?_)
      exact t_X4_copyFrom_86 C h0 h1 n M6 0 M' h _ _ _ hP hS (lv_sub hl [1, 2, 0] rfl)
    · rw [if_neg c1] at h
      refine lv_aload_n hx hb dX4_copyFrom_18 rfl (lv_at hl 0 rfl) ?_
      refine xm_get (V := (xv E a)) (T := TX4) (v := .ref (a (o0 + 1))) C hP o0 1 xi_4 rfl l_X4_15 rfl (xs_lt h0 0 (by omega)) ((xs_0 h0 E a) _) (Nat.le_of_ble_eq_true rfl) rfl dX4_copyFrom_19 ?_
      refine lv_iload_n hx hb dX4_copyFrom_22 rfl (lv_at hl 2 rfl) ?_
      refine lv_aload_n hx hb dX4_copyFrom_23 rfl (lv_at hl 1 rfl) ?_
      refine xm_get (V := (xv E a)) (T := TX4) (v := .ref (a (o1 + 1))) C hP o1 1 xi_4 rfl l_X4_15 rfl (xs_lt h1 0 (by omega)) ((xs_0 h1 E a) _) (Nat.le_of_ble_eq_true rfl) rfl dX4_copyFrom_24 ?_
      refine lv_iload_n hx hb dX4_copyFrom_27 rfl (lv_at hl 2 rfl) ?_
      obtain ⟨b8, h⟩ := xm_ck_s h
      refine xm_cald (V := (xv E a)) C hP (o1 + 1) 24 (xs_lt h1 1 (by omega)) (xs_1 h1 E a) b8 dX4_copyFrom_28 ?_
      obtain ⟨b9, h⟩ := xm_ck_s h
      obtain ⟨M10, e11, h⟩ := xm_lt_s h
      refine xm_cast (V := (xv E a)) C hP hS (o0 + 1) 24 (xs_lt h0 1 (by omega)) (xs_1 h0 E a) b9 dX4_copyFrom_29 (fun H locs hP hS => ?_)
      rw [← e11] at hP
      refine lv_aload_n hx hb dX4_copyFrom_30 rfl (lv_at hl 0 rfl) ?_
      refine xm_get (V := (xv E a)) (T := TX4) (v := .ref (a (o0 + 2))) C hP o0 2 xi_4 rfl l_X4_19 rfl (xs_lt h0 0 (by omega)) ((xs_0 h0 E a) _) (Nat.le_of_ble_eq_true rfl) rfl dX4_copyFrom_31 ?_
      refine lv_iload_n hx hb dX4_copyFrom_34 rfl (lv_at hl 2 rfl) ?_
      refine lv_aload_n hx hb dX4_copyFrom_35 rfl (lv_at hl 1 rfl) ?_
      refine xm_get (V := (xv E a)) (T := TX4) (v := .ref (a (o1 + 2))) C hP o1 2 xi_4 rfl l_X4_19 rfl (xs_lt h1 0 (by omega)) ((xs_0 h1 E a) _) (Nat.le_of_ble_eq_true rfl) rfl dX4_copyFrom_36 ?_
      refine lv_iload_n hx hb dX4_copyFrom_39 rfl (lv_at hl 2 rfl) ?_
      obtain ⟨b12, h⟩ := xm_ck_s h
      refine xm_iald (V := (xv E a)) C hP (o1 + 2) 24 (xs_lt h1 2 (by omega)) (xs_2 h1 E a) b12 dX4_copyFrom_40 ?_
      obtain ⟨b13, h⟩ := xm_ck_s h
      obtain ⟨M14, e15, h⟩ := xm_lt_s h
      refine xm_iast (V := (xv E a)) C hP hS (o0 + 2) 24 (xs_lt h0 2 (by omega)) (xs_2 h0 E a) b13 dX4_copyFrom_41 (fun H locs hP hS => ?_)
      rw [← e15] at hP
      refine lv_aload_n hx hb dX4_copyFrom_42 rfl (lv_at hl 0 rfl) ?_
      refine xm_get (V := (xv E a)) (T := TX4) (v := .ref (a (o0 + 3))) C hP o0 3 xi_4 rfl l_X4_23 rfl (xs_lt h0 0 (by omega)) ((xs_0 h0 E a) _) (Nat.le_of_ble_eq_true rfl) rfl dX4_copyFrom_43 ?_
      refine lv_iload_n hx hb dX4_copyFrom_46 rfl (lv_at hl 2 rfl) ?_
      refine lv_aload_n hx hb dX4_copyFrom_47 rfl (lv_at hl 1 rfl) ?_
      refine xm_get (V := (xv E a)) (T := TX4) (v := .ref (a (o1 + 3))) C hP o1 3 xi_4 rfl l_X4_23 rfl (xs_lt h1 0 (by omega)) ((xs_0 h1 E a) _) (Nat.le_of_ble_eq_true rfl) rfl dX4_copyFrom_48 ?_
      refine lv_iload_n hx hb dX4_copyFrom_51 rfl (lv_at hl 2 rfl) ?_
      obtain ⟨b16, h⟩ := xm_ck_s h
      refine xm_iald (V := (xv E a)) C hP (o1 + 3) 24 (xs_lt h1 3 (by omega)) (xs_3 h1 E a) b16 dX4_copyFrom_52 ?_
      obtain ⟨b17, h⟩ := xm_ck_s h
      obtain ⟨M18, e19, h⟩ := xm_lt_s h
      refine xm_iast (V := (xv E a)) C hP hS (o0 + 3) 24 (xs_lt h0 3 (by omega)) (xs_3 h0 E a) b17 dX4_copyFrom_53 (fun H locs hP hS => ?_)
      rw [← e19] at hP
      refine lv_iinc (v := x2 + 1) (lv' := [(2, .int (x2 + 1)), (0, .ref (a o0)), (1, .ref (a o1))]) hx hb dX4_copyFrom_54 hl (k := 2) rfl (xm_add (by decide)) (by decide) rfl (fun ls hl => ?_)
      refine lv_goto (tgt := 10) hx hb dX4_copyFrom_57 (by decide) ?_
      exact ih M18 (x2 + 1) M' h _ _ _ hP hS (lv_sub hl [1, 2, 0] rfl)
def f_X4_copyFrom (n : Nat) (M : xm_M) (o0 : Nat) (o1 : Nat) : Option xm_M := xm_lt (xm_up M o0 0 (M o1 0)) (fun M1 => f_X4_copyFrom_10 n M1 o0 o1 0)
set_option maxHeartbeats 4000000 in
set_option maxRecDepth 100000 in
theorem t_X4_copyFrom_0 {l : Launch} {p : Program} {e : Env} {s : State} {m : MethodId} {args : Array Value} {below : List Frame} {meth : Method} {c : Code} {E : xm_E} {a : Nat → Nat} (C : xm_C E (xv E a) p s m args meth c RX4 cX4_copyFrom 3 none) {o0 : Nat} {o1 : Nat} (h0 : xm_St o0) (h1 : xm_St o1) (n : Nat) (M : xm_M) (M' : xm_M) : f_X4_copyFrom n M o0 o1 = some M' → ∀ (H : Heap) (locs : List Loc) (ls : Array Slot), va_P E.1 vwCl (xm_w (xv E a) M) H → va_S (xm_A (xv E a) s.heap.size) s.heap H locs → lv_has ls 3 [(0, .ref (a o0)), (1, .ref (a o1))] → W p l e { frames := 1, cells := 0, slots := 0, locals := 22 } s m args below meth c H locs 0 0 (MQ below (xm_Q E (xv E a) M' s.heap.size none) args s 0 0 (xm_A (xv E a) s.heap.size)) (F0 m 0 ls []) := by
  have C9 := C
  obtain ⟨hx, hb, hml, hown, hts, hr, hlk, hD, hK, hS9⟩ := C9
  intro h H locs ls hP hS hl
  unfold f_X4_copyFrom at h
  refine lv_aload_n hx hb dX4_copyFrom_0 rfl (lv_at hl 0 rfl) ?_
  refine lv_aload_n hx hb dX4_copyFrom_1 rfl (lv_at hl 1 rfl) ?_
  refine xm_get (V := (xv E a)) (T := TX4) (v := .int (M o1 0)) C hP o1 0 xi_4 rfl l_X4_9 rfl (xs_lt h1 0 (by omega)) ((xs_0 h1 E a) _) (Nat.le_of_ble_eq_true rfl) rfl dX4_copyFrom_2 ?_
  obtain ⟨M1, e2, h⟩ := xm_lt_s h
  refine xm_put (V := (xv E a)) (T := TX4) (ty := .int) (x := M o1 0) C hP hS o0 0 xi_4 rfl l_X4_9 rfl tyX4_ok nmX4 (xs_lt h0 0 (by omega)) ((xs_0 h0 E a) _) (Nat.le_of_ble_eq_true rfl) rfl (by decide +kernel) rfl rfl (Nat.le_of_ble_eq_true rfl) ((xs_0 h0 E a) _) dX4_copyFrom_5 (fun H locs hP hS => ?_)
  rw [← e2] at hP
  refine lv_iconst (v := 0) hx hb dX4_copyFrom_8 (by decide) ?_
  refine lv_istore_n (lv' := [(2, .int 0), (0, .ref (a o0)), (1, .ref (a o1))]) hx hb dX4_copyFrom_9 rfl hl (by decide) rfl (fun ls hl => ?_)
  exact t_X4_copyFrom_10 C h0 h1 n M1 0 M' h _ _ _ hP hS (lv_sub hl [1, 2, 0] rfl)
theorem c_X4_copyFrom {l : Launch} {E : xm_E} {a : Nat → Nat} (hD : xm_D (xv E a)) {o0 : Nat} {o1 : Nat} (h0 : xm_St o0) (h1 : xm_St o1) (n : Nat) (M : xm_M) (M' : xm_M) (h : f_X4_copyFrom n M o0 o1 = some M') : xm_Met l E (xv E a) yX4_copyFrom cX4_copyFrom 3 none 1 22 [.ref (a o0), .ref (a o1)] M M' none :=
  xm_met (by decide +kernel) rfl (Nat.le_of_ble_eq_true rfl) hD (fun p e s m below meth c C hP ls hl => t_X4_copyFrom_0 C h0 h1 n M M' h _ _ _ hP va_S.rf hl)
def f_X4_watermark (n : Nat) (M : xm_M) (o0 : Nat) : Option (Int32 × xm_M) := some ((if (0 : Int32) < ((M o0 4) - (M o0 5)) then ((M o0 4) - (M o0 5)) else 0), M)
set_option maxHeartbeats 4000000 in
set_option maxRecDepth 100000 in
theorem t_X4_watermark_0 {l : Launch} {p : Program} {e : Env} {s : State} {m : MethodId} {args : Array Value} {below : List Frame} {meth : Method} {c : Code} {E : xm_E} {a : Nat → Nat} (C : xm_C E (xv E a) p s m args meth c RX4 cX4_watermark 1 (some .int)) {o0 : Nat} (h0 : xm_St o0) (n : Nat) (M : xm_M) (r : Int32) (M' : xm_M) : f_X4_watermark n M o0 = some (r, M') → ∀ (H : Heap) (locs : List Loc) (ls : Array Slot), va_P E.1 vwCl (xm_w (xv E a) M) H → va_S (xm_A (xv E a) s.heap.size) s.heap H locs → lv_has ls 1 [(0, .ref (a o0))] → W p l e { frames := 1, cells := 0, slots := 0, locals := 21 } s m args below meth c H locs 0 0 (MQ below (xm_Q E (xv E a) M' s.heap.size (some r)) args s 0 0 (xm_A (xv E a) s.heap.size)) (F0 m 0 ls []) := by
  have C9 := C
  obtain ⟨hx, hb, hml, hown, hts, hr, hlk, hD, hK, hS9⟩ := C9
  intro h H locs ls hP hS hl
  unfold f_X4_watermark at h
  refine lv_iconst (v := 0) hx hb dX4_watermark_0 (by decide) ?_
  refine lv_aload_n hx hb dX4_watermark_1 rfl (lv_at hl 0 rfl) ?_
  refine xm_get (V := (xv E a)) (T := TX4) (v := .int (M o0 4)) C hP o0 4 xi_4 rfl l_X4_26 rfl (xs_lt h0 0 (by omega)) ((xs_0 h0 E a) _) (Nat.le_of_ble_eq_true rfl) rfl dX4_watermark_2 ?_
  refine lv_aload_n hx hb dX4_watermark_5 rfl (lv_at hl 0 rfl) ?_
  refine xm_get (V := (xv E a)) (T := TX4) (v := .int (M o0 5)) C hP o0 5 xi_4 rfl l_X4_29 rfl (xs_lt h0 0 (by omega)) ((xs_0 h0 E a) _) (Nat.le_of_ble_eq_true rfl) rfl dX4_watermark_6 ?_
  refine lv_isub hx hb dX4_watermark_9 ?_
  refine xm_max C k_X4_46 (rest := []) (Nat.le_of_ble_eq_true rfl) (Nat.le_of_ble_eq_true rfl) hl.1 (Nat.zero_le _) (Nat.zero_le _) dX4_watermark_10 ?_
  obtain ⟨rfl, rfl⟩ := xm_pr h
  exact xm_retI C hP hS dX4_watermark_13
theorem c_X4_watermark {l : Launch} {E : xm_E} {a : Nat → Nat} (hD : xm_D (xv E a)) {o0 : Nat} (h0 : xm_St o0) (n : Nat) (M : xm_M) (r : Int32) (M' : xm_M) (h : f_X4_watermark n M o0 = some (r, M')) : xm_Met l E (xv E a) yX4_watermark cX4_watermark 1 (some .int) 1 21 [.ref (a o0)] M M' (some r) :=
  xm_met (by decide +kernel) rfl (Nat.le_of_ble_eq_true rfl) hD (fun p e s m below meth c C hP ls hl => t_X4_watermark_0 C h0 n M r M' h _ _ _ hP va_S.rf hl)
def f_X4_putEvent (n : Nat) (M : xm_M) (o0 : Nat) (x1 : Int32) (x2 : Int32) (x3 : Int32) (x4 : Int32) : Option xm_M := xm_ck (xm_in x1 24) (xm_lt (xm_up M (o0 + 1) x1.toNatClampNeg (vp_nar .char x2)) (fun M2 => xm_ck (xm_in x1 24) (xm_lt (xm_up M2 (o0 + 2) x1.toNatClampNeg x3) (fun M5 => xm_ck (xm_in x1 24) (xm_lt (xm_up M5 (o0 + 3) x1.toNatClampNeg x4) (fun M8 => some M8))))))
set_option maxHeartbeats 4000000 in
set_option maxRecDepth 100000 in
theorem t_X4_putEvent_0 {l : Launch} {p : Program} {e : Env} {s : State} {m : MethodId} {args : Array Value} {below : List Frame} {meth : Method} {c : Code} {E : xm_E} {a : Nat → Nat} (C : xm_C E (xv E a) p s m args meth c RX4 cX4_putEvent 5 none) {o0 : Nat} (h0 : xm_St o0) (n : Nat) (M : xm_M) (x1 : Int32) (x2 : Int32) (x3 : Int32) (x4 : Int32) (M' : xm_M) : f_X4_putEvent n M o0 x1 x2 x3 x4 = some M' → ∀ (H : Heap) (locs : List Loc) (ls : Array Slot), va_P E.1 vwCl (xm_w (xv E a) M) H → va_S (xm_A (xv E a) s.heap.size) s.heap H locs → lv_has ls 5 [(0, .ref (a o0)), (1, .int x1), (2, .int x2), (3, .int x3), (4, .int x4)] → W p l e { frames := 0, cells := 0, slots := 0, locals := 0 } s m args below meth c H locs 0 0 (MQ below (xm_Q E (xv E a) M' s.heap.size none) args s 0 0 (xm_A (xv E a) s.heap.size)) (F0 m 0 ls []) := by
  have C9 := C
  obtain ⟨hx, hb, hml, hown, hts, hr, hlk, hD, hK, hS9⟩ := C9
  intro h H locs ls hP hS hl
  unfold f_X4_putEvent at h
  refine lv_aload_n hx hb dX4_putEvent_0 rfl (lv_at hl 0 rfl) ?_
  refine xm_get (V := (xv E a)) (T := TX4) (v := .ref (a (o0 + 1))) C hP o0 1 xi_4 rfl l_X4_15 rfl (xs_lt h0 0 (by omega)) ((xs_0 h0 E a) _) (Nat.le_of_ble_eq_true rfl) rfl dX4_putEvent_1 ?_
  refine lv_iload_n hx hb dX4_putEvent_4 rfl (lv_at hl 1 rfl) ?_
  refine lv_iload_n hx hb dX4_putEvent_5 rfl (lv_at hl 2 rfl) ?_
  obtain ⟨b1, h⟩ := xm_ck_s h
  obtain ⟨M2, e3, h⟩ := xm_lt_s h
  refine xm_cast (V := (xv E a)) C hP hS (o0 + 1) 24 (xs_lt h0 1 (by omega)) (xs_1 h0 E a) b1 dX4_putEvent_6 (fun H locs hP hS => ?_)
  rw [← e3] at hP
  refine lv_aload_n hx hb dX4_putEvent_7 rfl (lv_at hl 0 rfl) ?_
  refine xm_get (V := (xv E a)) (T := TX4) (v := .ref (a (o0 + 2))) C hP o0 2 xi_4 rfl l_X4_19 rfl (xs_lt h0 0 (by omega)) ((xs_0 h0 E a) _) (Nat.le_of_ble_eq_true rfl) rfl dX4_putEvent_8 ?_
  refine lv_iload_n hx hb dX4_putEvent_11 rfl (lv_at hl 1 rfl) ?_
  refine lv_iload_n hx hb dX4_putEvent_12 rfl (lv_at hl 3 rfl) ?_
  obtain ⟨b4, h⟩ := xm_ck_s h
  obtain ⟨M5, e6, h⟩ := xm_lt_s h
  refine xm_iast (V := (xv E a)) C hP hS (o0 + 2) 24 (xs_lt h0 2 (by omega)) (xs_2 h0 E a) b4 dX4_putEvent_13 (fun H locs hP hS => ?_)
  rw [← e6] at hP
  refine lv_aload_n hx hb dX4_putEvent_14 rfl (lv_at hl 0 rfl) ?_
  refine xm_get (V := (xv E a)) (T := TX4) (v := .ref (a (o0 + 3))) C hP o0 3 xi_4 rfl l_X4_23 rfl (xs_lt h0 0 (by omega)) ((xs_0 h0 E a) _) (Nat.le_of_ble_eq_true rfl) rfl dX4_putEvent_15 ?_
  refine lv_iload_n hx hb dX4_putEvent_18 rfl (lv_at hl 1 rfl) ?_
  refine lv_iload hx hb dX4_putEvent_19 (lv_at hl 4 rfl) ?_
  obtain ⟨b7, h⟩ := xm_ck_s h
  obtain ⟨M8, e9, h⟩ := xm_lt_s h
  refine xm_iast (V := (xv E a)) C hP hS (o0 + 3) 24 (xs_lt h0 3 (by omega)) (xs_3 h0 E a) b7 dX4_putEvent_21 (fun H locs hP hS => ?_)
  rw [← e9] at hP
  cases xm_on h
  exact xm_retV C hP hS dX4_putEvent_22
theorem c_X4_putEvent {l : Launch} {E : xm_E} {a : Nat → Nat} (hD : xm_D (xv E a)) {o0 : Nat} (h0 : xm_St o0) (n : Nat) (M : xm_M) (x1 : Int32) (x2 : Int32) (x3 : Int32) (x4 : Int32) (M' : xm_M) (h : f_X4_putEvent n M o0 x1 x2 x3 x4 = some M') : xm_Met l E (xv E a) yX4_putEvent cX4_putEvent 5 none 0 0 [.ref (a o0), .int x1, .int x2, .int x3, .int x4] M M' none :=
  xm_met (by decide +kernel) rfl (Nat.le_of_ble_eq_true rfl) hD (fun p e s m below meth c C hP ls hl => t_X4_putEvent_0 C h0 n M x1 x2 x3 x4 M' h _ _ _ hP va_S.rf hl)
def f_X4_addEvent (n : Nat) (M : xm_M) (o0 : Nat) (x1 : Int32) (x2 : Int32) (x3 : Int32) : Option (Int32 × xm_M) := if (M o0 0) < 24 then xm_b1 (f_X4_putEvent n M o0 (M o0 0) x1 x2 x3) (fun M2 => xm_lt (xm_up M2 o0 0 ((M2 o0 0) + 1)) (fun M5 => xm_lt (xm_up M5 o0 4 ((if (M5 o0 4) < x3 then x3 else (M5 o0 4)))) (fun M7 => some (M o0 0, M7)))) else some ((-3), M)
set_option maxHeartbeats 4000000 in
set_option maxRecDepth 100000 in
theorem t_X4_addEvent_0 {l : Launch} {p : Program} {e : Env} {s : State} {m : MethodId} {args : Array Value} {below : List Frame} {meth : Method} {c : Code} {E : xm_E} {a : Nat → Nat} (C : xm_C E (xv E a) p s m args meth c RX4 cX4_addEvent 5 (some .int)) {o0 : Nat} (h0 : xm_St o0) (n : Nat) (M : xm_M) (x1 : Int32) (x2 : Int32) (x3 : Int32) (r : Int32) (M' : xm_M) : f_X4_addEvent n M o0 x1 x2 x3 = some (r, M') → ∀ (H : Heap) (locs : List Loc) (ls : Array Slot), va_P E.1 vwCl (xm_w (xv E a) M) H → va_S (xm_A (xv E a) s.heap.size) s.heap H locs → lv_has ls 5 [(0, .ref (a o0)), (1, .int x1), (2, .int x2), (3, .int x3)] → W p l e { frames := 1, cells := 0, slots := 0, locals := 24 } s m args below meth c H locs 0 0 (MQ below (xm_Q E (xv E a) M' s.heap.size (some r)) args s 0 0 (xm_A (xv E a) s.heap.size)) (F0 m 0 ls []) := by
  have C9 := C
  obtain ⟨hx, hb, hml, hown, hts, hr, hlk, hD, hK, hS9⟩ := C9
  intro h H locs ls hP hS hl
  unfold f_X4_addEvent at h
  refine lv_aload_n hx hb dX4_addEvent_0 rfl (lv_at hl 0 rfl) ?_
  refine xm_get (V := (xv E a)) (T := TX4) (v := .int (M o0 0)) C hP o0 0 xi_4 rfl l_X4_9 rfl (xs_lt h0 0 (by omega)) ((xs_0 h0 E a) _) (Nat.le_of_ble_eq_true rfl) rfl dX4_addEvent_1 ?_
  refine lv_bipush (v := 24) hx hb dX4_addEvent_4 (by decide) ?_
  refine lv_icmp_lt (tgt := 12) hx hb dX4_addEvent_6 (by decide) (fun c1 => ?_) (fun c1 => ?_)
  · rw [if_pos c1] at h
    refine lv_aload_n hx hb dX4_addEvent_12 rfl (lv_at hl 0 rfl) ?_
    refine xm_get (V := (xv E a)) (T := TX4) (v := .int (M o0 0)) C hP o0 0 xi_4 rfl l_X4_9 rfl (xs_lt h0 0 (by omega)) ((xs_0 h0 E a) _) (Nat.le_of_ble_eq_true rfl) rfl dX4_addEvent_13 ?_
    refine lv_istore (lv' := [(4, .int (M o0 0)), (0, .ref (a o0)), (1, .int x1), (2, .int x2), (3, .int x3)]) hx hb dX4_addEvent_16 hl (by decide) rfl (fun ls hl => ?_)
    refine lv_aload_n hx hb dX4_addEvent_18 rfl (lv_at hl 1 rfl) ?_
    refine lv_iload hx hb dX4_addEvent_19 (lv_at hl 0 rfl) ?_
    refine lv_iload_n hx hb dX4_addEvent_21 rfl (lv_at hl 2 rfl) ?_
    refine lv_iload_n hx hb dX4_addEvent_22 rfl (lv_at hl 3 rfl) ?_
    refine lv_iload_n hx hb dX4_addEvent_23 rfl (lv_at hl 4 rfl) ?_
    obtain ⟨M2, e4, h⟩ := xm_b1_s h
    refine xm_callV C hP hS [.int (M o0 0), .int x1, .int x2, .int x3] [] (c_X4_putEvent hD h0 n M (M o0 0) x1 x2 x3 M2 e4) k_X4_52 (xm_recv C hP o0 rfl (xs_lt h0 0 (by omega)) ((xs_0 h0 E a) _)) rfl rfl ⟨(Nat.le_of_ble_eq_true rfl), (Nat.le_of_ble_eq_true rfl)⟩ hl.1 (Nat.le_of_ble_eq_true rfl) ⟨Nat.zero_le _, Nat.zero_le _⟩ dX4_addEvent_24 (fun H locs hP hS => ?_)
    change W p l e _ s m _ below meth c H locs 0 0 _ (F0 m 27 ls [])
    refine lv_aload_n hx hb dX4_addEvent_27 rfl (lv_at hl 1 rfl) ?_
    refine lv_dup hx hb dX4_addEvent_28 rfl ?_
    refine xm_get (V := (xv E a)) (T := TX4) (v := .int (M2 o0 0)) C hP o0 0 xi_4 rfl l_X4_9 rfl (xs_lt h0 0 (by omega)) ((xs_0 h0 E a) _) (Nat.le_of_ble_eq_true rfl) rfl dX4_addEvent_29 ?_
    refine lv_iconst (v := 1) hx hb dX4_addEvent_32 (by decide) ?_
    refine lv_iadd hx hb dX4_addEvent_33 ?_
    obtain ⟨M5, e6, h⟩ := xm_lt_s h
    refine xm_put (V := (xv E a)) (T := TX4) (ty := .int) (x := (M2 o0 0) + 1) C hP hS o0 0 xi_4 rfl l_X4_9 rfl tyX4_ok nmX4 (xs_lt h0 0 (by omega)) ((xs_0 h0 E a) _) (Nat.le_of_ble_eq_true rfl) rfl (by decide +kernel) rfl rfl (Nat.le_of_ble_eq_true rfl) ((xs_0 h0 E a) _) dX4_addEvent_34 (fun H locs hP hS => ?_)
    rw [← e6] at hP
    refine lv_aload_n hx hb dX4_addEvent_37 rfl (lv_at hl 1 rfl) ?_
    refine lv_aload_n hx hb dX4_addEvent_38 rfl (lv_at hl 1 rfl) ?_
    refine xm_get (V := (xv E a)) (T := TX4) (v := .int (M5 o0 4)) C hP o0 4 xi_4 rfl l_X4_26 rfl (xs_lt h0 0 (by omega)) ((xs_0 h0 E a) _) (Nat.le_of_ble_eq_true rfl) rfl dX4_addEvent_39 ?_
    refine lv_iload_n hx hb dX4_addEvent_42 rfl (lv_at hl 4 rfl) ?_
    refine xm_max C k_X4_46 (rest := [.ref (a o0)]) (Nat.le_of_ble_eq_true rfl) (Nat.le_of_ble_eq_true rfl) hl.1 (Nat.zero_le _) (Nat.zero_le _) dX4_addEvent_43 ?_
    obtain ⟨M7, e8, h⟩ := xm_lt_s h
    refine xm_put (V := (xv E a)) (T := TX4) (ty := .int) (x := (if (M5 o0 4) < x3 then x3 else (M5 o0 4))) C hP hS o0 4 xi_4 rfl l_X4_26 rfl tyX4_ok nmX4 (xs_lt h0 0 (by omega)) ((xs_0 h0 E a) _) (Nat.le_of_ble_eq_true rfl) rfl (by decide +kernel) rfl rfl (Nat.le_of_ble_eq_true rfl) ((xs_0 h0 E a) _) dX4_addEvent_46 (fun H locs hP hS => ?_)
    rw [← e8] at hP
    refine lv_iload hx hb dX4_addEvent_49 (lv_at hl 0 rfl) ?_
    obtain ⟨rfl, rfl⟩ := xm_pr h
    exact xm_retI C hP hS dX4_addEvent_51
  · rw [if_neg c1] at h
    refine lv_bipush (v := (-3)) hx hb dX4_addEvent_9 (by decide) ?_
    obtain ⟨rfl, rfl⟩ := xm_pr h
    exact xm_retI C hP hS dX4_addEvent_11
theorem c_X4_addEvent {l : Launch} {E : xm_E} {a : Nat → Nat} (hD : xm_D (xv E a)) {o0 : Nat} (h0 : xm_St o0) (n : Nat) (M : xm_M) (x1 : Int32) (x2 : Int32) (x3 : Int32) (r : Int32) (M' : xm_M) (h : f_X4_addEvent n M o0 x1 x2 x3 = some (r, M')) : xm_Met l E (xv E a) yX4_addEvent cX4_addEvent 5 (some .int) 1 24 [.ref (a o0), .int x1, .int x2, .int x3] M M' (some r) :=
  xm_met (by decide +kernel) rfl (Nat.le_of_ble_eq_true rfl) hD (fun p e s m below meth c C hP ls hl => t_X4_addEvent_0 C h0 n M x1 x2 x3 r M' h _ _ _ hP va_S.rf hl)
def f_X4_eventsAheadOf_4 : Nat → xm_M → Nat → Int32 → Int32 → Int32 → Option (Int32 × xm_M)
  | 0, _, _, _, _, _ => none
  | n + 1, M, o0, x1, x2, x3 => if (M o0 0) ≤ x3 then some (x2, M) else xm_ck (xm_in x3 24) (if x1 ≤ (M (o0 + 3) x3.toNatClampNeg) then f_X4_eventsAheadOf_4 n M o0 x1 x2 (x3 + 1) else f_X4_eventsAheadOf_4 n M o0 x1 (x2 + 1) (x3 + 1))
set_option maxHeartbeats 4000000 in
set_option maxRecDepth 100000 in
theorem t_X4_eventsAheadOf_4 {l : Launch} {p : Program} {e : Env} {s : State} {m : MethodId} {args : Array Value} {below : List Frame} {meth : Method} {c : Code} {E : xm_E} {a : Nat → Nat} (C : xm_C E (xv E a) p s m args meth c RX4 cX4_eventsAheadOf 4 (some .int)) {o0 : Nat} (h0 : xm_St o0) : ∀ (n : Nat) (M : xm_M) (x1 : Int32) (x2 : Int32) (x3 : Int32) (r : Int32) (M' : xm_M), f_X4_eventsAheadOf_4 n M o0 x1 x2 x3 = some (r, M') → ∀ (H : Heap) (locs : List Loc) (ls : Array Slot), va_P E.1 vwCl (xm_w (xv E a) M) H → va_S (xm_A (xv E a) s.heap.size) s.heap H locs → lv_has ls 4 [(0, .ref (a o0)), (1, .int x1), (2, .int x2), (3, .int x3)] → W p l e { frames := 0, cells := 0, slots := 0, locals := 0 } s m args below meth c H locs 0 0 (MQ below (xm_Q E (xv E a) M' s.heap.size (some r)) args s 0 0 (xm_A (xv E a) s.heap.size)) (F0 m 4 ls []) := by
  have C9 := C
  obtain ⟨hx, hb, hml, hown, hts, hr, hlk, hD, hK, hS9⟩ := C9
  intro n
  induction n with
  | zero =>
    intro M x1 x2 x3 r M' h
    cases h
  | succ n ih =>
    intro M x1 x2 x3 r M' h H locs ls hP hS hl
    rw [f_X4_eventsAheadOf_4] at h
    refine lv_iload_n hx hb dX4_eventsAheadOf_4 rfl (lv_at hl 3 rfl) ?_
    refine lv_aload_n hx hb dX4_eventsAheadOf_5 rfl (lv_at hl 0 rfl) ?_
    refine xm_get (V := (xv E a)) (T := TX4) (v := .int (M o0 0)) C hP o0 0 xi_4 rfl l_X4_9 rfl (xs_lt h0 0 (by omega)) ((xs_0 h0 E a) _) (Nat.le_of_ble_eq_true rfl) rfl dX4_eventsAheadOf_6 ?_
    refine lv_icmp_ge (tgt := 31) hx hb dX4_eventsAheadOf_9 (by decide) (fun c1 => ?_) (fun c1 => ?_)
    · rw [if_pos c1] at h
      refine lv_iload_n hx hb dX4_eventsAheadOf_31 rfl (lv_at hl 2 rfl) ?_
      obtain ⟨rfl, rfl⟩ := xm_pr h
      exact xm_retI C hP hS dX4_eventsAheadOf_32
    · rw [if_neg c1] at h
      refine lv_aload_n hx hb dX4_eventsAheadOf_12 rfl (lv_at hl 0 rfl) ?_
      refine xm_get (V := (xv E a)) (T := TX4) (v := .ref (a (o0 + 3))) C hP o0 3 xi_4 rfl l_X4_23 rfl (xs_lt h0 0 (by omega)) ((xs_0 h0 E a) _) (Nat.le_of_ble_eq_true rfl) rfl dX4_eventsAheadOf_13 ?_
      refine lv_iload_n hx hb dX4_eventsAheadOf_16 rfl (lv_at hl 3 rfl) ?_
      obtain ⟨b2, h⟩ := xm_ck_s h
      refine xm_iald (V := (xv E a)) C hP (o0 + 3) 24 (xs_lt h0 3 (by omega)) (xs_3 h0 E a) b2 dX4_eventsAheadOf_17 ?_
      refine lv_iload_n hx hb dX4_eventsAheadOf_18 rfl (lv_at hl 1 rfl) ?_
      refine lv_icmp_ge (tgt := 25) hx hb dX4_eventsAheadOf_19 (by decide) (fun c3 => ?_) (fun c3 => ?_)
      · rw [if_pos c3] at h
        refine lv_iinc (v := x3 + 1) (lv' := [(3, .int (x3 + 1)), (0, .ref (a o0)), (1, .int x1), (2, .int x2)]) hx hb dX4_eventsAheadOf_25 hl (k := 3) rfl (xm_add (by decide)) (by decide) rfl (fun ls hl => ?_)
        refine lv_goto (tgt := 4) hx hb dX4_eventsAheadOf_28 (by decide) ?_
        exact ih M x1 x2 (x3 + 1) r M' h _ _ _ hP hS (lv_sub hl [1, 2, 3, 0] rfl)
      · rw [if_neg c3] at h
        refine lv_iinc (v := x2 + 1) (lv' := [(2, .int (x2 + 1)), (0, .ref (a o0)), (1, .int x1), (3, .int x3)]) hx hb dX4_eventsAheadOf_22 hl (k := 2) rfl (xm_add (by decide)) (by decide) rfl (fun ls hl => ?_)
        refine lv_iinc (v := x3 + 1) (lv' := [(3, .int (x3 + 1)), (2, .int (x2 + 1)), (0, .ref (a o0)), (1, .int x1)]) hx hb dX4_eventsAheadOf_25 hl (k := 3) rfl (xm_add (by decide)) (by decide) rfl (fun ls hl => ?_)
        refine lv_goto (tgt := 4) hx hb dX4_eventsAheadOf_28 (by decide) ?_
        exact ih M x1 (x2 + 1) (x3 + 1) r M' h _ _ _ hP hS (lv_sub hl [2, 3, 1, 0] rfl)
def f_X4_eventsAheadOf (n : Nat) (M : xm_M) (o0 : Nat) (x1 : Int32) : Option (Int32 × xm_M) := f_X4_eventsAheadOf_4 n M o0 x1 0 0
set_option maxHeartbeats 4000000 in
set_option maxRecDepth 100000 in
theorem t_X4_eventsAheadOf_0 {l : Launch} {p : Program} {e : Env} {s : State} {m : MethodId} {args : Array Value} {below : List Frame} {meth : Method} {c : Code} {E : xm_E} {a : Nat → Nat} (C : xm_C E (xv E a) p s m args meth c RX4 cX4_eventsAheadOf 4 (some .int)) {o0 : Nat} (h0 : xm_St o0) (n : Nat) (M : xm_M) (x1 : Int32) (r : Int32) (M' : xm_M) : f_X4_eventsAheadOf n M o0 x1 = some (r, M') → ∀ (H : Heap) (locs : List Loc) (ls : Array Slot), va_P E.1 vwCl (xm_w (xv E a) M) H → va_S (xm_A (xv E a) s.heap.size) s.heap H locs → lv_has ls 4 [(0, .ref (a o0)), (1, .int x1)] → W p l e { frames := 0, cells := 0, slots := 0, locals := 0 } s m args below meth c H locs 0 0 (MQ below (xm_Q E (xv E a) M' s.heap.size (some r)) args s 0 0 (xm_A (xv E a) s.heap.size)) (F0 m 0 ls []) := by
  have C9 := C
  obtain ⟨hx, hb, hml, hown, hts, hr, hlk, hD, hK, hS9⟩ := C9
  intro h H locs ls hP hS hl
  unfold f_X4_eventsAheadOf at h
  refine lv_iconst (v := 0) hx hb dX4_eventsAheadOf_0 (by decide) ?_
  refine lv_istore_n (lv' := [(2, .int 0), (0, .ref (a o0)), (1, .int x1)]) hx hb dX4_eventsAheadOf_1 rfl hl (by decide) rfl (fun ls hl => ?_)
  refine lv_iconst (v := 0) hx hb dX4_eventsAheadOf_2 (by decide) ?_
  refine lv_istore_n (lv' := [(3, .int 0), (2, .int 0), (0, .ref (a o0)), (1, .int x1)]) hx hb dX4_eventsAheadOf_3 rfl hl (by decide) rfl (fun ls hl => ?_)
  exact t_X4_eventsAheadOf_4 C h0 n M x1 0 0 r M' h _ _ _ hP hS (lv_sub hl [2, 3, 1, 0] rfl)
theorem c_X4_eventsAheadOf {l : Launch} {E : xm_E} {a : Nat → Nat} (hD : xm_D (xv E a)) {o0 : Nat} (h0 : xm_St o0) (n : Nat) (M : xm_M) (x1 : Int32) (r : Int32) (M' : xm_M) (h : f_X4_eventsAheadOf n M o0 x1 = some (r, M')) : xm_Met l E (xv E a) yX4_eventsAheadOf cX4_eventsAheadOf 4 (some .int) 0 0 [.ref (a o0), .int x1] M M' (some r) :=
  xm_met (by decide +kernel) rfl (Nat.le_of_ble_eq_true rfl) hD (fun p e s m below meth c C hP ls hl => t_X4_eventsAheadOf_0 C h0 n M x1 r M' h _ _ _ hP va_S.rf hl)
def f_X4_removeEventsAheadOf_4 : Nat → xm_M → Nat → Int32 → Int32 → Int32 → Option xm_M
  | 0, _, _, _, _, _ => none
  | n + 1, M, o0, x1, x2, x3 => if (M o0 0) ≤ x3 then xm_lt (xm_up M o0 0 x2) (fun M2 => some M2) else xm_ck (xm_in x3 24) (if (M (o0 + 3) x3.toNatClampNeg) < x1 then f_X4_removeEventsAheadOf_4 n M o0 x1 x2 (x3 + 1) else xm_ck (xm_in x3 24) (xm_ck (xm_in x3 24) (xm_ck (xm_in x3 24) (xm_b1 (f_X4_putEvent n M o0 x2 (M (o0 + 1) x3.toNatClampNeg) (M (o0 + 2) x3.toNatClampNeg) (M (o0 + 3) x3.toNatClampNeg)) (fun M9 => f_X4_removeEventsAheadOf_4 n M9 o0 x1 (x2 + 1) (x3 + 1))))))
set_option maxHeartbeats 4000000 in
set_option maxRecDepth 100000 in
theorem t_X4_removeEventsAheadOf_4 {l : Launch} {p : Program} {e : Env} {s : State} {m : MethodId} {args : Array Value} {below : List Frame} {meth : Method} {c : Code} {E : xm_E} {a : Nat → Nat} (C : xm_C E (xv E a) p s m args meth c RX4 cX4_removeEventsAheadOf 4 none) {o0 : Nat} (h0 : xm_St o0) : ∀ (n : Nat) (M : xm_M) (x1 : Int32) (x2 : Int32) (x3 : Int32) (M' : xm_M), f_X4_removeEventsAheadOf_4 n M o0 x1 x2 x3 = some M' → ∀ (H : Heap) (locs : List Loc) (ls : Array Slot), va_P E.1 vwCl (xm_w (xv E a) M) H → va_S (xm_A (xv E a) s.heap.size) s.heap H locs → lv_has ls 4 [(0, .ref (a o0)), (1, .int x1), (2, .int x2), (3, .int x3)] → W p l e { frames := 1, cells := 0, slots := 0, locals := 24 } s m args below meth c H locs 0 0 (MQ below (xm_Q E (xv E a) M' s.heap.size none) args s 0 0 (xm_A (xv E a) s.heap.size)) (F0 m 4 ls []) := by
  have C9 := C
  obtain ⟨hx, hb, hml, hown, hts, hr, hlk, hD, hK, hS9⟩ := C9
  intro n
  induction n with
  | zero =>
    intro M x1 x2 x3 M' h
    cases h
  | succ n ih =>
    intro M x1 x2 x3 M' h H locs ls hP hS hl
    rw [f_X4_removeEventsAheadOf_4] at h
    refine lv_iload_n hx hb dX4_removeEventsAheadOf_4 rfl (lv_at hl 3 rfl) ?_
    refine lv_aload_n hx hb dX4_removeEventsAheadOf_5 rfl (lv_at hl 0 rfl) ?_
    refine xm_get (V := (xv E a)) (T := TX4) (v := .int (M o0 0)) C hP o0 0 xi_4 rfl l_X4_9 rfl (xs_lt h0 0 (by omega)) ((xs_0 h0 E a) _) (Nat.le_of_ble_eq_true rfl) rfl dX4_removeEventsAheadOf_6 ?_
    refine lv_icmp_ge (tgt := 54) hx hb dX4_removeEventsAheadOf_9 (by decide) (fun c1 => ?_) (fun c1 => ?_)
    · rw [if_pos c1] at h
      refine lv_aload_n hx hb dX4_removeEventsAheadOf_54 rfl (lv_at hl 0 rfl) ?_
      refine lv_iload_n hx hb dX4_removeEventsAheadOf_55 rfl (lv_at hl 2 rfl) ?_
      obtain ⟨M2, e3, h⟩ := xm_lt_s h
      refine xm_put (V := (xv E a)) (T := TX4) (ty := .int) (x := x2) C hP hS o0 0 xi_4 rfl l_X4_9 rfl tyX4_ok nmX4 (xs_lt h0 0 (by omega)) ((xs_0 h0 E a) _) (Nat.le_of_ble_eq_true rfl) rfl (by decide +kernel) rfl rfl (Nat.le_of_ble_eq_true rfl) ((xs_0 h0 E a) _) dX4_removeEventsAheadOf_56 (fun H locs hP hS => ?_)
      rw [← e3] at hP
      cases xm_on h
      exact xm_retV C hP hS dX4_removeEventsAheadOf_59
    · rw [if_neg c1] at h
      refine lv_aload_n hx hb dX4_removeEventsAheadOf_12 rfl (lv_at hl 0 rfl) ?_
      refine xm_get (V := (xv E a)) (T := TX4) (v := .ref (a (o0 + 3))) C hP o0 3 xi_4 rfl l_X4_23 rfl (xs_lt h0 0 (by omega)) ((xs_0 h0 E a) _) (Nat.le_of_ble_eq_true rfl) rfl dX4_removeEventsAheadOf_13 ?_
      refine lv_iload_n hx hb dX4_removeEventsAheadOf_16 rfl (lv_at hl 3 rfl) ?_
      obtain ⟨b4, h⟩ := xm_ck_s h
      refine xm_iald (V := (xv E a)) C hP (o0 + 3) 24 (xs_lt h0 3 (by omega)) (xs_3 h0 E a) b4 dX4_removeEventsAheadOf_17 ?_
      refine lv_iload_n hx hb dX4_removeEventsAheadOf_18 rfl (lv_at hl 1 rfl) ?_
      refine lv_icmp_lt (tgt := 48) hx hb dX4_removeEventsAheadOf_19 (by decide) (fun c5 => ?_) (fun c5 => ?_)
      · rw [if_pos c5] at h
        refine lv_iinc (v := x3 + 1) (lv' := [(3, .int (x3 + 1)), (0, .ref (a o0)), (1, .int x1), (2, .int x2)]) hx hb dX4_removeEventsAheadOf_48 hl (k := 3) rfl (xm_add (by decide)) (by decide) rfl (fun ls hl => ?_)
        refine lv_goto (tgt := 4) hx hb dX4_removeEventsAheadOf_51 (by decide) ?_
        exact ih M x1 x2 (x3 + 1) M' h _ _ _ hP hS (lv_sub hl [1, 2, 3, 0] rfl)
      · rw [if_neg c5] at h
        refine lv_aload_n hx hb dX4_removeEventsAheadOf_22 rfl (lv_at hl 0 rfl) ?_
        refine lv_iload_n hx hb dX4_removeEventsAheadOf_23 rfl (lv_at hl 2 rfl) ?_
        refine lv_aload_n hx hb dX4_removeEventsAheadOf_24 rfl (lv_at hl 0 rfl) ?_
        refine xm_get (V := (xv E a)) (T := TX4) (v := .ref (a (o0 + 1))) C hP o0 1 xi_4 rfl l_X4_15 rfl (xs_lt h0 0 (by omega)) ((xs_0 h0 E a) _) (Nat.le_of_ble_eq_true rfl) rfl dX4_removeEventsAheadOf_25 ?_
        refine lv_iload_n hx hb dX4_removeEventsAheadOf_28 rfl (lv_at hl 3 rfl) ?_
        obtain ⟨b6, h⟩ := xm_ck_s h
        refine xm_cald (V := (xv E a)) C hP (o0 + 1) 24 (xs_lt h0 1 (by omega)) (xs_1 h0 E a) b6 dX4_removeEventsAheadOf_29 ?_
        refine lv_aload_n hx hb dX4_removeEventsAheadOf_30 rfl (lv_at hl 0 rfl) ?_
        refine xm_get (V := (xv E a)) (T := TX4) (v := .ref (a (o0 + 2))) C hP o0 2 xi_4 rfl l_X4_19 rfl (xs_lt h0 0 (by omega)) ((xs_0 h0 E a) _) (Nat.le_of_ble_eq_true rfl) rfl dX4_removeEventsAheadOf_31 ?_
        refine lv_iload_n hx hb dX4_removeEventsAheadOf_34 rfl (lv_at hl 3 rfl) ?_
        obtain ⟨b7, h⟩ := xm_ck_s h
        refine xm_iald (V := (xv E a)) C hP (o0 + 2) 24 (xs_lt h0 2 (by omega)) (xs_2 h0 E a) b7 dX4_removeEventsAheadOf_35 ?_
        refine lv_aload_n hx hb dX4_removeEventsAheadOf_36 rfl (lv_at hl 0 rfl) ?_
        refine xm_get (V := (xv E a)) (T := TX4) (v := .ref (a (o0 + 3))) C hP o0 3 xi_4 rfl l_X4_23 rfl (xs_lt h0 0 (by omega)) ((xs_0 h0 E a) _) (Nat.le_of_ble_eq_true rfl) rfl dX4_removeEventsAheadOf_37 ?_
        refine lv_iload_n hx hb dX4_removeEventsAheadOf_40 rfl (lv_at hl 3 rfl) ?_
        obtain ⟨b8, h⟩ := xm_ck_s h
        refine xm_iald (V := (xv E a)) C hP (o0 + 3) 24 (xs_lt h0 3 (by omega)) (xs_3 h0 E a) b8 dX4_removeEventsAheadOf_41 ?_
        obtain ⟨M9, e11, h⟩ := xm_b1_s h
        refine xm_callV C hP hS [.int x2, .int (M (o0 + 1) x3.toNatClampNeg), .int (M (o0 + 2) x3.toNatClampNeg), .int (M (o0 + 3) x3.toNatClampNeg)] [] (c_X4_putEvent hD h0 n M x2 (M (o0 + 1) x3.toNatClampNeg) (M (o0 + 2) x3.toNatClampNeg) (M (o0 + 3) x3.toNatClampNeg) M9 e11) k_X4_52 (xm_recv C hP o0 rfl (xs_lt h0 0 (by omega)) ((xs_0 h0 E a) _)) rfl rfl ⟨(Nat.le_of_ble_eq_true rfl), (Nat.le_of_ble_eq_true rfl)⟩ hl.1 (Nat.le_of_ble_eq_true rfl) ⟨Nat.zero_le _, Nat.zero_le _⟩ dX4_removeEventsAheadOf_42 (fun H locs hP hS => ?_)
        change W p l e _ s m _ below meth c H locs 0 0 _ (F0 m 45 ls [])
        refine lv_iinc (v := x2 + 1) (lv' := [(2, .int (x2 + 1)), (0, .ref (a o0)), (1, .int x1), (3, .int x3)]) hx hb dX4_removeEventsAheadOf_45 hl (k := 2) rfl (xm_add (by decide)) (by decide) rfl (fun ls hl => ?_)
        refine lv_iinc (v := x3 + 1) (lv' := [(3, .int (x3 + 1)), (2, .int (x2 + 1)), (0, .ref (a o0)), (1, .int x1)]) hx hb dX4_removeEventsAheadOf_48 hl (k := 3) rfl (xm_add (by decide)) (by decide) rfl (fun ls hl => ?_)
        refine lv_goto (tgt := 4) hx hb dX4_removeEventsAheadOf_51 (by decide) ?_
        exact ih M9 x1 (x2 + 1) (x3 + 1) M' h _ _ _ hP hS (lv_sub hl [2, 3, 1, 0] rfl)
def f_X4_removeEventsAheadOf (n : Nat) (M : xm_M) (o0 : Nat) (x1 : Int32) : Option xm_M := f_X4_removeEventsAheadOf_4 n M o0 x1 0 0
set_option maxHeartbeats 4000000 in
set_option maxRecDepth 100000 in
theorem t_X4_removeEventsAheadOf_0 {l : Launch} {p : Program} {e : Env} {s : State} {m : MethodId} {args : Array Value} {below : List Frame} {meth : Method} {c : Code} {E : xm_E} {a : Nat → Nat} (C : xm_C E (xv E a) p s m args meth c RX4 cX4_removeEventsAheadOf 4 none) {o0 : Nat} (h0 : xm_St o0) (n : Nat) (M : xm_M) (x1 : Int32) (M' : xm_M) : f_X4_removeEventsAheadOf n M o0 x1 = some M' → ∀ (H : Heap) (locs : List Loc) (ls : Array Slot), va_P E.1 vwCl (xm_w (xv E a) M) H → va_S (xm_A (xv E a) s.heap.size) s.heap H locs → lv_has ls 4 [(0, .ref (a o0)), (1, .int x1)] → W p l e { frames := 1, cells := 0, slots := 0, locals := 24 } s m args below meth c H locs 0 0 (MQ below (xm_Q E (xv E a) M' s.heap.size none) args s 0 0 (xm_A (xv E a) s.heap.size)) (F0 m 0 ls []) := by
  have C9 := C
  obtain ⟨hx, hb, hml, hown, hts, hr, hlk, hD, hK, hS9⟩ := C9
  intro h H locs ls hP hS hl
  unfold f_X4_removeEventsAheadOf at h
  refine lv_iconst (v := 0) hx hb dX4_removeEventsAheadOf_0 (by decide) ?_
  refine lv_istore_n (lv' := [(2, .int 0), (0, .ref (a o0)), (1, .int x1)]) hx hb dX4_removeEventsAheadOf_1 rfl hl (by decide) rfl (fun ls hl => ?_)
  refine lv_iconst (v := 0) hx hb dX4_removeEventsAheadOf_2 (by decide) ?_
  refine lv_istore_n (lv' := [(3, .int 0), (2, .int 0), (0, .ref (a o0)), (1, .int x1)]) hx hb dX4_removeEventsAheadOf_3 rfl hl (by decide) rfl (fun ls hl => ?_)
  exact t_X4_removeEventsAheadOf_4 C h0 n M x1 0 0 M' h _ _ _ hP hS (lv_sub hl [2, 3, 1, 0] rfl)
theorem c_X4_removeEventsAheadOf {l : Launch} {E : xm_E} {a : Nat → Nat} (hD : xm_D (xv E a)) {o0 : Nat} (h0 : xm_St o0) (n : Nat) (M : xm_M) (x1 : Int32) (M' : xm_M) (h : f_X4_removeEventsAheadOf n M o0 x1 = some M') : xm_Met l E (xv E a) yX4_removeEventsAheadOf cX4_removeEventsAheadOf 4 none 1 24 [.ref (a o0), .int x1] M M' none :=
  xm_met (by decide +kernel) rfl (Nat.le_of_ble_eq_true rfl) hD (fun p e s m below meth c C hP ls hl => t_X4_removeEventsAheadOf_0 C h0 n M x1 M' h _ _ _ hP va_S.rf hl)
def f_X4_addCopyOf (n : Nat) (M : xm_M) (o0 : Nat) (o1 : Nat) : Option (Int32 × xm_M) := if (M o0 6) < 4 then xm_ck (xm_in (M o0 6) 4) (xm_b1 (f_X2_copyFrom n M (o0 + 5 + 3 * (M o0 6).toNatClampNeg) o1) (fun M3 => xm_lt (xm_up M3 o0 6 ((M3 o0 6) + 1)) (fun M6 => some (M o0 6, M6)))) else some ((-3), M)
set_option maxHeartbeats 4000000 in
set_option maxRecDepth 100000 in
theorem t_X4_addCopyOf_0 {l : Launch} {p : Program} {e : Env} {s : State} {m : MethodId} {args : Array Value} {below : List Frame} {meth : Method} {c : Code} {E : xm_E} {a : Nat → Nat} (C : xm_C E (xv E a) p s m args meth c RX4 cX4_addCopyOf 3 (some .int)) {o0 : Nat} {o1 : Nat} (h0 : xm_St o0) (h1 : xm_Pa o1) (n : Nat) (M : xm_M) (r : Int32) (M' : xm_M) : f_X4_addCopyOf n M o0 o1 = some (r, M') → ∀ (H : Heap) (locs : List Loc) (ls : Array Slot), va_P E.1 vwCl (xm_w (xv E a) M) H → va_S (xm_A (xv E a) s.heap.size) s.heap H locs → lv_has ls 3 [(0, .ref (a o0)), (1, .ref (a o1))] → W p l e { frames := 1, cells := 0, slots := 0, locals := 22 } s m args below meth c H locs 0 0 (MQ below (xm_Q E (xv E a) M' s.heap.size (some r)) args s 0 0 (xm_A (xv E a) s.heap.size)) (F0 m 0 ls []) := by
  have C9 := C
  obtain ⟨hx, hb, hml, hown, hts, hr, hlk, hD, hK, hS9⟩ := C9
  intro h H locs ls hP hS hl
  unfold f_X4_addCopyOf at h
  refine lv_aload_n hx hb dX4_addCopyOf_0 rfl (lv_at hl 0 rfl) ?_
  refine xm_get (V := (xv E a)) (T := TX4) (v := .int (M o0 6)) C hP o0 6 xi_4 rfl l_X4_32 rfl (xs_lt h0 0 (by omega)) ((xs_0 h0 E a) _) (Nat.le_of_ble_eq_true rfl) rfl dX4_addCopyOf_1 ?_
  refine lv_iconst (v := 4) hx hb dX4_addCopyOf_4 (by decide) ?_
  refine lv_icmp_lt (tgt := 11) hx hb dX4_addCopyOf_5 (by decide) (fun c1 => ?_) (fun c1 => ?_)
  · rw [if_pos c1] at h
    refine lv_aload_n hx hb dX4_addCopyOf_11 rfl (lv_at hl 0 rfl) ?_
    refine xm_get (V := (xv E a)) (T := TX4) (v := .int (M o0 6)) C hP o0 6 xi_4 rfl l_X4_32 rfl (xs_lt h0 0 (by omega)) ((xs_0 h0 E a) _) (Nat.le_of_ble_eq_true rfl) rfl dX4_addCopyOf_12 ?_
    refine lv_istore_n (lv' := [(2, .int (M o0 6)), (0, .ref (a o0)), (1, .ref (a o1))]) hx hb dX4_addCopyOf_15 rfl hl (by decide) rfl (fun ls hl => ?_)
    refine lv_aload_n hx hb dX4_addCopyOf_16 rfl (lv_at hl 1 rfl) ?_
    refine xm_get (V := (xv E a)) (T := TX4) (v := .ref (a (o0 + 4))) C hP o0 7 xi_4 rfl l_X4_37 rfl (xs_lt h0 0 (by omega)) ((xs_0 h0 E a) _) (Nat.le_of_ble_eq_true rfl) rfl dX4_addCopyOf_17 ?_
    refine lv_iload_n hx hb dX4_addCopyOf_20 rfl (lv_at hl 0 rfl) ?_
    obtain ⟨b2, h⟩ := xm_ck_s h
    refine xm_aald (V := (xv E a)) (K := RX2) (v := a (o0 + 5 + 3 * (M o0 6).toNatClampNeg)) C hP (o0 + 4) 4 4 (xs_lt h0 4 (by omega)) (xs_4 h0 E a) rfl b2 (xo_rp_at b2) dX4_addCopyOf_21 ?_
    refine lv_aload_n hx hb dX4_addCopyOf_22 rfl (lv_at hl 2 rfl) ?_
    obtain ⟨M3, e5, h⟩ := xm_b1_s h
    refine xm_callVN C hP hS [.ref (a o1)] [] (c_X2_copyFrom hD (xp_s h0 b2) h1 n M  M3 e5) k_X4_42 (xm_recv C hP (o0 + 5 + 3 * (M o0 6).toNatClampNeg) rfl (xp_lt (xp_s h0 b2) 0 (by omega)) ((xp_0 (xp_s h0 b2) E a) _)) rfl rfl ⟨(Nat.le_of_ble_eq_true rfl), (Nat.le_of_ble_eq_true rfl)⟩ hl.1 (Nat.le_of_ble_eq_true rfl) ⟨Nat.zero_le _, Nat.zero_le _⟩ dX4_addCopyOf_23 (fun H locs hP hS => ?_)
    change W p l e _ s m _ below meth c H locs 0 0 _ (F0 m 26 ls [])
    refine lv_aload_n hx hb dX4_addCopyOf_26 rfl (lv_at hl 1 rfl) ?_
    refine lv_dup hx hb dX4_addCopyOf_27 rfl ?_
    refine xm_get (V := (xv E a)) (T := TX4) (v := .int (M3 o0 6)) C hP o0 6 xi_4 rfl l_X4_32 rfl (xs_lt h0 0 (by omega)) ((xs_0 h0 E a) _) (Nat.le_of_ble_eq_true rfl) rfl dX4_addCopyOf_28 ?_
    refine lv_iconst (v := 1) hx hb dX4_addCopyOf_31 (by decide) ?_
    refine lv_iadd hx hb dX4_addCopyOf_32 ?_
    obtain ⟨M6, e7, h⟩ := xm_lt_s h
    refine xm_put (V := (xv E a)) (T := TX4) (ty := .int) (x := (M3 o0 6) + 1) C hP hS o0 6 xi_4 rfl l_X4_32 rfl tyX4_ok nmX4 (xs_lt h0 0 (by omega)) ((xs_0 h0 E a) _) (Nat.le_of_ble_eq_true rfl) rfl (by decide +kernel) rfl rfl (Nat.le_of_ble_eq_true rfl) ((xs_0 h0 E a) _) dX4_addCopyOf_33 (fun H locs hP hS => ?_)
    rw [← e7] at hP
    refine lv_iload_n hx hb dX4_addCopyOf_36 rfl (lv_at hl 0 rfl) ?_
    obtain ⟨rfl, rfl⟩ := xm_pr h
    exact xm_retI C hP hS dX4_addCopyOf_37
  · rw [if_neg c1] at h
    refine lv_bipush (v := (-3)) hx hb dX4_addCopyOf_8 (by decide) ?_
    obtain ⟨rfl, rfl⟩ := xm_pr h
    exact xm_retI C hP hS dX4_addCopyOf_10
theorem c_X4_addCopyOf {l : Launch} {E : xm_E} {a : Nat → Nat} (hD : xm_D (xv E a)) {o0 : Nat} {o1 : Nat} (h0 : xm_St o0) (h1 : xm_Pa o1) (n : Nat) (M : xm_M) (r : Int32) (M' : xm_M) (h : f_X4_addCopyOf n M o0 o1 = some (r, M')) : xm_Met l E (xv E a) yX4_addCopyOf cX4_addCopyOf 3 (some .int) 1 22 [.ref (a o0), .ref (a o1)] M M' (some r) :=
  xm_met (by decide +kernel) rfl (Nat.le_of_ble_eq_true rfl) hD (fun p e s m below meth c C hP ls hl => t_X4_addCopyOf_0 C h0 h1 n M r M' h _ _ _ hP va_S.rf hl)
def f_X4_removePattern_2 : Nat → xm_M → Nat → Int32 → Option (Int32 × xm_M)
  | 0, _, _, _ => none
  | n + 1, M, o0, x2 => if (M o0 6) ≤ (x2 + 1) then xm_lt (xm_up M o0 6 ((M o0 6) - 1)) (fun M2 => some (M2 o0 6, M2)) else xm_ck (xm_in x2 4) (xm_ck (xm_in (x2 + 1) 4) (xm_b1 (f_X2_copyFrom n M (o0 + 5 + 3 * x2.toNatClampNeg) (o0 + 5 + 3 * (x2 + 1).toNatClampNeg)) (fun M6 => f_X4_removePattern_2 n M6 o0 (x2 + 1))))
set_option maxHeartbeats 4000000 in
set_option maxRecDepth 100000 in
theorem t_X4_removePattern_2 {l : Launch} {p : Program} {e : Env} {s : State} {m : MethodId} {args : Array Value} {below : List Frame} {meth : Method} {c : Code} {E : xm_E} {a : Nat → Nat} (C : xm_C E (xv E a) p s m args meth c RX4 cX4_removePattern 3 (some .int)) {o0 : Nat} (h0 : xm_St o0) : ∀ (n : Nat) (M : xm_M) (x2 : Int32) (r : Int32) (M' : xm_M), f_X4_removePattern_2 n M o0 x2 = some (r, M') → ∀ (H : Heap) (locs : List Loc) (ls : Array Slot), va_P E.1 vwCl (xm_w (xv E a) M) H → va_S (xm_A (xv E a) s.heap.size) s.heap H locs → lv_has ls 3 [(0, .ref (a o0)), (2, .int x2)] → W p l e { frames := 1, cells := 0, slots := 0, locals := 22 } s m args below meth c H locs 0 0 (MQ below (xm_Q E (xv E a) M' s.heap.size (some r)) args s 0 0 (xm_A (xv E a) s.heap.size)) (F0 m 2 ls []) := by
  have C9 := C
  obtain ⟨hx, hb, hml, hown, hts, hr, hlk, hD, hK, hS9⟩ := C9
  intro n
  induction n with
  | zero =>
    intro M x2 r M' h
    cases h
  | succ n ih =>
    intro M x2 r M' h H locs ls hP hS hl
    rw [f_X4_removePattern_2] at h
    refine lv_iload_n hx hb dX4_removePattern_2 rfl (lv_at hl 1 rfl) ?_
    refine lv_iconst (v := 1) hx hb dX4_removePattern_3 (by decide) ?_
    refine lv_iadd hx hb dX4_removePattern_4 ?_
    refine lv_aload_n hx hb dX4_removePattern_5 rfl (lv_at hl 0 rfl) ?_
    refine xm_get (V := (xv E a)) (T := TX4) (v := .int (M o0 6)) C hP o0 6 xi_4 rfl l_X4_32 rfl (xs_lt h0 0 (by omega)) ((xs_0 h0 E a) _) (Nat.le_of_ble_eq_true rfl) rfl dX4_removePattern_6 ?_
    refine lv_icmp_ge (tgt := 35) hx hb dX4_removePattern_9 (by decide) (fun c1 => ?_) (fun c1 => ?_)
    · rw [if_pos c1] at h
      refine lv_aload_n hx hb dX4_removePattern_35 rfl (lv_at hl 0 rfl) ?_
      refine lv_dup hx hb dX4_removePattern_36 rfl ?_
      refine xm_get (V := (xv E a)) (T := TX4) (v := .int (M o0 6)) C hP o0 6 xi_4 rfl l_X4_32 rfl (xs_lt h0 0 (by omega)) ((xs_0 h0 E a) _) (Nat.le_of_ble_eq_true rfl) rfl dX4_removePattern_37 ?_
      refine lv_iconst (v := 1) hx hb dX4_removePattern_40 (by decide) ?_
      refine lv_isub hx hb dX4_removePattern_41 ?_
      obtain ⟨M2, e3, h⟩ := xm_lt_s h
      refine xm_put (V := (xv E a)) (T := TX4) (ty := .int) (x := (M o0 6) - 1) C hP hS o0 6 xi_4 rfl l_X4_32 rfl tyX4_ok nmX4 (xs_lt h0 0 (by omega)) ((xs_0 h0 E a) _) (Nat.le_of_ble_eq_true rfl) rfl (by decide +kernel) rfl rfl (Nat.le_of_ble_eq_true rfl) ((xs_0 h0 E a) _) dX4_removePattern_42 (fun H locs hP hS => ?_)
      rw [← e3] at hP
      refine lv_aload_n hx hb dX4_removePattern_45 rfl (lv_at hl 0 rfl) ?_
      refine xm_get (V := (xv E a)) (T := TX4) (v := .int (M2 o0 6)) C hP o0 6 xi_4 rfl l_X4_32 rfl (xs_lt h0 0 (by omega)) ((xs_0 h0 E a) _) (Nat.le_of_ble_eq_true rfl) rfl dX4_removePattern_46 ?_
      obtain ⟨rfl, rfl⟩ := xm_pr h
      exact xm_retI C hP hS dX4_removePattern_49
    · rw [if_neg c1] at h
      refine lv_aload_n hx hb dX4_removePattern_12 rfl (lv_at hl 0 rfl) ?_
      refine xm_get (V := (xv E a)) (T := TX4) (v := .ref (a (o0 + 4))) C hP o0 7 xi_4 rfl l_X4_37 rfl (xs_lt h0 0 (by omega)) ((xs_0 h0 E a) _) (Nat.le_of_ble_eq_true rfl) rfl dX4_removePattern_13 ?_
      refine lv_iload_n hx hb dX4_removePattern_16 rfl (lv_at hl 1 rfl) ?_
      obtain ⟨b4, h⟩ := xm_ck_s h
      refine xm_aald (V := (xv E a)) (K := RX2) (v := a (o0 + 5 + 3 * x2.toNatClampNeg)) C hP (o0 + 4) 4 4 (xs_lt h0 4 (by omega)) (xs_4 h0 E a) rfl b4 (xo_rp_at b4) dX4_removePattern_17 ?_
      refine lv_aload_n hx hb dX4_removePattern_18 rfl (lv_at hl 0 rfl) ?_
      refine xm_get (V := (xv E a)) (T := TX4) (v := .ref (a (o0 + 4))) C hP o0 7 xi_4 rfl l_X4_37 rfl (xs_lt h0 0 (by omega)) ((xs_0 h0 E a) _) (Nat.le_of_ble_eq_true rfl) rfl dX4_removePattern_19 ?_
      refine lv_iload_n hx hb dX4_removePattern_22 rfl (lv_at hl 1 rfl) ?_
      refine lv_iconst (v := 1) hx hb dX4_removePattern_23 (by decide) ?_
      refine lv_iadd hx hb dX4_removePattern_24 ?_
      obtain ⟨b5, h⟩ := xm_ck_s h
      refine xm_aald (V := (xv E a)) (K := RX2) (v := a (o0 + 5 + 3 * (x2 + 1).toNatClampNeg)) C hP (o0 + 4) 4 4 (xs_lt h0 4 (by omega)) (xs_4 h0 E a) rfl b5 (xo_rp_at b5) dX4_removePattern_25 ?_
      obtain ⟨M6, e8, h⟩ := xm_b1_s h
      refine xm_callVN C hP hS [.ref (a (o0 + 5 + 3 * (x2 + 1).toNatClampNeg))] [] (c_X2_copyFrom hD (xp_s h0 b4) (xp_s h0 b5) n M  M6 e8) k_X4_42 (xm_recv C hP (o0 + 5 + 3 * x2.toNatClampNeg) rfl (xp_lt (xp_s h0 b4) 0 (by omega)) ((xp_0 (xp_s h0 b4) E a) _)) rfl rfl ⟨(Nat.le_of_ble_eq_true rfl), (Nat.le_of_ble_eq_true rfl)⟩ hl.1 (Nat.le_of_ble_eq_true rfl) ⟨Nat.zero_le _, Nat.zero_le _⟩ dX4_removePattern_26 (fun H locs hP hS => ?_)
      change W p l e _ s m _ below meth c H locs 0 0 _ (F0 m 29 ls [])
      refine lv_iinc (v := x2 + 1) (lv' := [(2, .int (x2 + 1)), (0, .ref (a o0))]) hx hb dX4_removePattern_29 hl (k := 1) rfl (xm_add (by decide)) (by decide) rfl (fun ls hl => ?_)
      refine lv_goto (tgt := 2) hx hb dX4_removePattern_32 (by decide) ?_
      exact ih M6 (x2 + 1) r M' h _ _ _ hP hS (lv_sub hl [1, 0] rfl)
def f_X4_removePattern (n : Nat) (M : xm_M) (o0 : Nat) (x1 : Int32) : Option (Int32 × xm_M) := f_X4_removePattern_2 n M o0 x1
set_option maxHeartbeats 4000000 in
set_option maxRecDepth 100000 in
theorem t_X4_removePattern_0 {l : Launch} {p : Program} {e : Env} {s : State} {m : MethodId} {args : Array Value} {below : List Frame} {meth : Method} {c : Code} {E : xm_E} {a : Nat → Nat} (C : xm_C E (xv E a) p s m args meth c RX4 cX4_removePattern 3 (some .int)) {o0 : Nat} (h0 : xm_St o0) (n : Nat) (M : xm_M) (x1 : Int32) (r : Int32) (M' : xm_M) : f_X4_removePattern n M o0 x1 = some (r, M') → ∀ (H : Heap) (locs : List Loc) (ls : Array Slot), va_P E.1 vwCl (xm_w (xv E a) M) H → va_S (xm_A (xv E a) s.heap.size) s.heap H locs → lv_has ls 3 [(0, .ref (a o0)), (1, .int x1)] → W p l e { frames := 1, cells := 0, slots := 0, locals := 22 } s m args below meth c H locs 0 0 (MQ below (xm_Q E (xv E a) M' s.heap.size (some r)) args s 0 0 (xm_A (xv E a) s.heap.size)) (F0 m 0 ls []) := by
  have C9 := C
  obtain ⟨hx, hb, hml, hown, hts, hr, hlk, hD, hK, hS9⟩ := C9
  intro h H locs ls hP hS hl
  unfold f_X4_removePattern at h
  refine lv_iload_n hx hb dX4_removePattern_0 rfl (lv_at hl 1 rfl) ?_
  refine lv_istore_n (lv' := [(2, .int x1), (0, .ref (a o0)), (1, .int x1)]) hx hb dX4_removePattern_1 rfl hl (by decide) rfl (fun ls hl => ?_)
  exact t_X4_removePattern_2 C h0 n M x1 r M' h _ _ _ hP hS (lv_sub hl [1, 0] rfl)
theorem c_X4_removePattern {l : Launch} {E : xm_E} {a : Nat → Nat} (hD : xm_D (xv E a)) {o0 : Nat} (h0 : xm_St o0) (n : Nat) (M : xm_M) (x1 : Int32) (r : Int32) (M' : xm_M) (h : f_X4_removePattern n M o0 x1 = some (r, M')) : xm_Met l E (xv E a) yX4_removePattern cX4_removePattern 3 (some .int) 1 22 [.ref (a o0), .int x1] M M' (some r) :=
  xm_met (by decide +kernel) rfl (Nat.le_of_ble_eq_true rfl) hD (fun p e s m below meth c C hP ls hl => t_X4_removePattern_0 C h0 n M x1 r M' h _ _ _ hP va_S.rf hl)
def f_X0_record_30 (n : Nat) (M : xm_M) (o1 : Nat) : Option xm_M := xm_ck (xm_in (((M 4 1) + (M 4 2)) - ((M 4 1) + (M 4 2)) / 4 * 4) 4) (xm_b1 (f_X4_copyFrom n M (52 + 17 * (((M 4 1) + (M 4 2)) - ((M 4 1) + (M 4 2)) / 4 * 4).toNatClampNeg) o1) (fun M2 => xm_lt (xm_up M2 4 2 ((M2 4 2) + 1)) (fun M5 => some M5)))
set_option maxHeartbeats 4000000 in
set_option maxRecDepth 100000 in
theorem t_X0_record_30 {l : Launch} {p : Program} {e : Env} {s : State} {m : MethodId} {args : Array Value} {below : List Frame} {meth : Method} {c : Code} {E : xm_E} {a : Nat → Nat} (C : xm_C E (xv E a) p s m args meth c RX0 cX0_record 2 none) {o1 : Nat} (h1 : xm_St o1) (n : Nat) (M : xm_M) (M' : xm_M) : f_X0_record_30 n M o1 = some M' → ∀ (H : Heap) (locs : List Loc) (ls : Array Slot), va_P E.1 vwCl (xm_w (xv E a) M) H → va_S (xm_A (xv E a) s.heap.size) s.heap H locs → lv_has ls 2 [(0, .ref (a 4)), (1, .ref (a o1))] → W p l e { frames := 2, cells := 0, slots := 0, locals := 44 } s m args below meth c H locs 0 0 (MQ below (xm_Q E (xv E a) M' s.heap.size none) args s 0 0 (xm_A (xv E a) s.heap.size)) (F0 m 30 ls []) := by
  have C9 := C
  obtain ⟨hx, hb, hml, hown, hts, hr, hlk, hD, hK, hS9⟩ := C9
  intro h H locs ls hP hS hl
  unfold f_X0_record_30 at h
  refine lv_aload_n hx hb dX0_record_30 rfl (lv_at hl 0 rfl) ?_
  refine xm_get (V := (xv E a)) (T := TX0) (v := .ref (a 5)) C hP 4 0 xi_0 rfl l_X0_11 rfl (Nat.le_of_ble_eq_true rfl) ((xe_4 E a) _) (Nat.le_of_ble_eq_true rfl) rfl dX0_record_31 ?_
  refine lv_aload_n hx hb dX0_record_34 rfl (lv_at hl 0 rfl) ?_
  refine xm_get (V := (xv E a)) (T := TX0) (v := .int (M 4 1)) C hP 4 1 xi_0 rfl l_X0_17 rfl (Nat.le_of_ble_eq_true rfl) ((xe_4 E a) _) (Nat.le_of_ble_eq_true rfl) rfl dX0_record_35 ?_
  refine lv_aload_n hx hb dX0_record_38 rfl (lv_at hl 0 rfl) ?_
  refine xm_get (V := (xv E a)) (T := TX0) (v := .int (M 4 2)) C hP 4 2 xi_0 rfl l_X0_21 rfl (Nat.le_of_ble_eq_true rfl) ((xe_4 E a) _) (Nat.le_of_ble_eq_true rfl) rfl dX0_record_39 ?_
  refine lv_iadd hx hb dX0_record_42 ?_
  refine lv_iconst (v := 4) hx hb dX0_record_43 (by decide) ?_
  refine lv_irem hx hb dX0_record_44 (by decide) ?_
  obtain ⟨b1, h⟩ := xm_ck_s h
  refine xm_aald (V := (xv E a)) (K := RX4) (v := a (52 + 17 * (((M 4 1) + (M 4 2)) - ((M 4 1) + (M 4 2)) / 4 * 4).toNatClampNeg)) C hP 5 4 3 (Nat.le_of_ble_eq_true rfl) (xe_5 E a) rfl b1 (xo_rs_at b1) dX0_record_45 ?_
  refine lv_aload_n hx hb dX0_record_46 rfl (lv_at hl 1 rfl) ?_
  obtain ⟨M2, e4, h⟩ := xm_b1_s h
  refine xm_callVN C hP hS [.ref (a o1)] [] (c_X4_copyFrom hD (xs_h b1) h1 n M  M2 e4) k_X0_25 (xm_recv C hP (52 + 17 * (((M 4 1) + (M 4 2)) - ((M 4 1) + (M 4 2)) / 4 * 4).toNatClampNeg) rfl (xs_lt (xs_h b1) 0 (by omega)) ((xs_0 (xs_h b1) E a) _)) rfl rfl ⟨(Nat.le_of_ble_eq_true rfl), (Nat.le_of_ble_eq_true rfl)⟩ hl.1 (Nat.le_of_ble_eq_true rfl) ⟨Nat.zero_le _, Nat.zero_le _⟩ dX0_record_47 (fun H locs hP hS => ?_)
  change W p l e _ s m _ below meth c H locs 0 0 _ (F0 m 50 ls [])
  refine lv_aload_n hx hb dX0_record_50 rfl (lv_at hl 0 rfl) ?_
  refine lv_dup hx hb dX0_record_51 rfl ?_
  refine xm_get (V := (xv E a)) (T := TX0) (v := .int (M2 4 2)) C hP 4 2 xi_0 rfl l_X0_21 rfl (Nat.le_of_ble_eq_true rfl) ((xe_4 E a) _) (Nat.le_of_ble_eq_true rfl) rfl dX0_record_52 ?_
  refine lv_iconst (v := 1) hx hb dX0_record_55 (by decide) ?_
  refine lv_iadd hx hb dX0_record_56 ?_
  obtain ⟨M5, e6, h⟩ := xm_lt_s h
  refine xm_put (V := (xv E a)) (T := TX0) (ty := .int) (x := (M2 4 2) + 1) C hP hS 4 2 xi_0 rfl l_X0_21 rfl tyX0_ok nmX0 (Nat.le_of_ble_eq_true rfl) ((xe_4 E a) _) (Nat.le_of_ble_eq_true rfl) rfl (by decide +kernel) rfl rfl (Nat.le_of_ble_eq_true rfl) ((xe_4 E a) _) dX0_record_57 (fun H locs hP hS => ?_)
  rw [← e6] at hP
  cases xm_on h
  exact xm_retV C hP hS dX0_record_60
def f_X0_record (n : Nat) (M : xm_M) (o1 : Nat) : Option xm_M := if (M 4 2) < 4 then f_X0_record_30 n M o1 else xm_lt (xm_up M 4 1 (((M 4 1) + 1) - ((M 4 1) + 1) / 4 * 4)) (fun M2 => xm_lt (xm_up M2 4 2 ((M2 4 2) - 1)) (fun M4 => f_X0_record_30 n M4 o1))
set_option maxHeartbeats 4000000 in
set_option maxRecDepth 100000 in
theorem t_X0_record_0 {l : Launch} {p : Program} {e : Env} {s : State} {m : MethodId} {args : Array Value} {below : List Frame} {meth : Method} {c : Code} {E : xm_E} {a : Nat → Nat} (C : xm_C E (xv E a) p s m args meth c RX0 cX0_record 2 none) {o1 : Nat} (h1 : xm_St o1) (n : Nat) (M : xm_M) (M' : xm_M) : f_X0_record n M o1 = some M' → ∀ (H : Heap) (locs : List Loc) (ls : Array Slot), va_P E.1 vwCl (xm_w (xv E a) M) H → va_S (xm_A (xv E a) s.heap.size) s.heap H locs → lv_has ls 2 [(0, .ref (a 4)), (1, .ref (a o1))] → W p l e { frames := 2, cells := 0, slots := 0, locals := 44 } s m args below meth c H locs 0 0 (MQ below (xm_Q E (xv E a) M' s.heap.size none) args s 0 0 (xm_A (xv E a) s.heap.size)) (F0 m 0 ls []) := by
  have C9 := C
  obtain ⟨hx, hb, hml, hown, hts, hr, hlk, hD, hK, hS9⟩ := C9
  intro h H locs ls hP hS hl
  unfold f_X0_record at h
  refine lv_aload_n hx hb dX0_record_0 rfl (lv_at hl 0 rfl) ?_
  refine xm_get (V := (xv E a)) (T := TX0) (v := .int (M 4 2)) C hP 4 2 xi_0 rfl l_X0_21 rfl (Nat.le_of_ble_eq_true rfl) ((xe_4 E a) _) (Nat.le_of_ble_eq_true rfl) rfl dX0_record_1 ?_
  refine lv_iconst (v := 4) hx hb dX0_record_4 (by decide) ?_
  refine lv_icmp_lt (tgt := 30) hx hb dX0_record_5 (by decide) (fun c1 => ?_) (fun c1 => ?_)
  · rw [if_pos c1] at h
    exact t_X0_record_30 C h1 n M  M' h _ _ _ hP hS (lv_sub hl [0, 1] rfl)
  · rw [if_neg c1] at h
    refine lv_aload_n hx hb dX0_record_8 rfl (lv_at hl 0 rfl) ?_
    refine lv_aload_n hx hb dX0_record_9 rfl (lv_at hl 0 rfl) ?_
    refine xm_get (V := (xv E a)) (T := TX0) (v := .int (M 4 1)) C hP 4 1 xi_0 rfl l_X0_17 rfl (Nat.le_of_ble_eq_true rfl) ((xe_4 E a) _) (Nat.le_of_ble_eq_true rfl) rfl dX0_record_10 ?_
    refine lv_iconst (v := 1) hx hb dX0_record_13 (by decide) ?_
    refine lv_iadd hx hb dX0_record_14 ?_
    refine lv_iconst (v := 4) hx hb dX0_record_15 (by decide) ?_
    refine lv_irem hx hb dX0_record_16 (by decide) ?_
    obtain ⟨M2, e3, h⟩ := xm_lt_s h
    refine xm_put (V := (xv E a)) (T := TX0) (ty := .int) (x := ((M 4 1) + 1) - ((M 4 1) + 1) / 4 * 4) C hP hS 4 1 xi_0 rfl l_X0_17 rfl tyX0_ok nmX0 (Nat.le_of_ble_eq_true rfl) ((xe_4 E a) _) (Nat.le_of_ble_eq_true rfl) rfl (by decide +kernel) rfl rfl (Nat.le_of_ble_eq_true rfl) ((xe_4 E a) _) dX0_record_17 (fun H locs hP hS => ?_)
    rw [← e3] at hP
    refine lv_aload_n hx hb dX0_record_20 rfl (lv_at hl 0 rfl) ?_
    refine lv_dup hx hb dX0_record_21 rfl ?_
    refine xm_get (V := (xv E a)) (T := TX0) (v := .int (M2 4 2)) C hP 4 2 xi_0 rfl l_X0_21 rfl (Nat.le_of_ble_eq_true rfl) ((xe_4 E a) _) (Nat.le_of_ble_eq_true rfl) rfl dX0_record_22 ?_
    refine lv_iconst (v := 1) hx hb dX0_record_25 (by decide) ?_
    refine lv_isub hx hb dX0_record_26 ?_
    obtain ⟨M4, e5, h⟩ := xm_lt_s h
    refine xm_put (V := (xv E a)) (T := TX0) (ty := .int) (x := (M2 4 2) - 1) C hP hS 4 2 xi_0 rfl l_X0_21 rfl tyX0_ok nmX0 (Nat.le_of_ble_eq_true rfl) ((xe_4 E a) _) (Nat.le_of_ble_eq_true rfl) rfl (by decide +kernel) rfl rfl (Nat.le_of_ble_eq_true rfl) ((xe_4 E a) _) dX0_record_27 (fun H locs hP hS => ?_)
    rw [← e5] at hP
    exact t_X0_record_30 C h1 n M4  M' h _ _ _ hP hS (lv_sub hl [0, 1] rfl)
theorem c_X0_record {l : Launch} {E : xm_E} {a : Nat → Nat} (hD : xm_D (xv E a)) {o1 : Nat} (h1 : xm_St o1) (n : Nat) (M : xm_M) (M' : xm_M) (h : f_X0_record n M o1 = some M') : xm_Met l E (xv E a) yX0_record cX0_record 2 none 2 44 [.ref (a 4), .ref (a o1)] M M' none :=
  xm_met (by decide +kernel) rfl (Nat.le_of_ble_eq_true rfl) hD (fun p e s m below meth c C hP ls hl => t_X0_record_0 C h1 n M M' h _ _ _ hP va_S.rf hl)
def f_X0_removeLatestInto (n : Nat) (M : xm_M) (o1 : Nat) : Option xm_M := if (0 : Int32) < (M 4 2) then xm_lt (xm_up M 4 2 ((M 4 2) - 1)) (fun M2 => xm_ck (xm_in (((M2 4 1) + (M2 4 2)) - ((M2 4 1) + (M2 4 2)) / 4 * 4) 4) (xm_b1 (f_X4_copyFrom n M2 o1 (52 + 17 * (((M2 4 1) + (M2 4 2)) - ((M2 4 1) + (M2 4 2)) / 4 * 4).toNatClampNeg)) (fun M5 => some M5))) else some M
set_option maxHeartbeats 4000000 in
set_option maxRecDepth 100000 in
theorem t_X0_removeLatestInto_0 {l : Launch} {p : Program} {e : Env} {s : State} {m : MethodId} {args : Array Value} {below : List Frame} {meth : Method} {c : Code} {E : xm_E} {a : Nat → Nat} (C : xm_C E (xv E a) p s m args meth c RX0 cX0_removeLatestInto 2 none) {o1 : Nat} (h1 : xm_St o1) (n : Nat) (M : xm_M) (M' : xm_M) : f_X0_removeLatestInto n M o1 = some M' → ∀ (H : Heap) (locs : List Loc) (ls : Array Slot), va_P E.1 vwCl (xm_w (xv E a) M) H → va_S (xm_A (xv E a) s.heap.size) s.heap H locs → lv_has ls 2 [(0, .ref (a 4)), (1, .ref (a o1))] → W p l e { frames := 2, cells := 0, slots := 0, locals := 44 } s m args below meth c H locs 0 0 (MQ below (xm_Q E (xv E a) M' s.heap.size none) args s 0 0 (xm_A (xv E a) s.heap.size)) (F0 m 0 ls []) := by
  have C9 := C
  obtain ⟨hx, hb, hml, hown, hts, hr, hlk, hD, hK, hS9⟩ := C9
  intro h H locs ls hP hS hl
  unfold f_X0_removeLatestInto at h
  refine lv_aload_n hx hb dX0_removeLatestInto_0 rfl (lv_at hl 0 rfl) ?_
  refine xm_get (V := (xv E a)) (T := TX0) (v := .int (M 4 2)) C hP 4 2 xi_0 rfl l_X0_21 rfl (Nat.le_of_ble_eq_true rfl) ((xe_4 E a) _) (Nat.le_of_ble_eq_true rfl) rfl dX0_removeLatestInto_1 ?_
  refine lv_if_gt (tgt := 8) hx hb dX0_removeLatestInto_4 (by decide) (fun c1 => ?_) (fun c1 => ?_)
  · rw [if_pos c1] at h
    refine lv_aload_n hx hb dX0_removeLatestInto_8 rfl (lv_at hl 0 rfl) ?_
    refine lv_dup hx hb dX0_removeLatestInto_9 rfl ?_
    refine xm_get (V := (xv E a)) (T := TX0) (v := .int (M 4 2)) C hP 4 2 xi_0 rfl l_X0_21 rfl (Nat.le_of_ble_eq_true rfl) ((xe_4 E a) _) (Nat.le_of_ble_eq_true rfl) rfl dX0_removeLatestInto_10 ?_
    refine lv_iconst (v := 1) hx hb dX0_removeLatestInto_13 (by decide) ?_
    refine lv_isub hx hb dX0_removeLatestInto_14 ?_
    obtain ⟨M2, e3, h⟩ := xm_lt_s h
    refine xm_put (V := (xv E a)) (T := TX0) (ty := .int) (x := (M 4 2) - 1) C hP hS 4 2 xi_0 rfl l_X0_21 rfl tyX0_ok nmX0 (Nat.le_of_ble_eq_true rfl) ((xe_4 E a) _) (Nat.le_of_ble_eq_true rfl) rfl (by decide +kernel) rfl rfl (Nat.le_of_ble_eq_true rfl) ((xe_4 E a) _) dX0_removeLatestInto_15 (fun H locs hP hS => ?_)
    rw [← e3] at hP
    refine lv_aload_n hx hb dX0_removeLatestInto_18 rfl (lv_at hl 1 rfl) ?_
    refine lv_aload_n hx hb dX0_removeLatestInto_19 rfl (lv_at hl 0 rfl) ?_
    refine xm_get (V := (xv E a)) (T := TX0) (v := .ref (a 5)) C hP 4 0 xi_0 rfl l_X0_11 rfl (Nat.le_of_ble_eq_true rfl) ((xe_4 E a) _) (Nat.le_of_ble_eq_true rfl) rfl dX0_removeLatestInto_20 ?_
    refine lv_aload_n hx hb dX0_removeLatestInto_23 rfl (lv_at hl 0 rfl) ?_
    refine xm_get (V := (xv E a)) (T := TX0) (v := .int (M2 4 1)) C hP 4 1 xi_0 rfl l_X0_17 rfl (Nat.le_of_ble_eq_true rfl) ((xe_4 E a) _) (Nat.le_of_ble_eq_true rfl) rfl dX0_removeLatestInto_24 ?_
    refine lv_aload_n hx hb dX0_removeLatestInto_27 rfl (lv_at hl 0 rfl) ?_
    refine xm_get (V := (xv E a)) (T := TX0) (v := .int (M2 4 2)) C hP 4 2 xi_0 rfl l_X0_21 rfl (Nat.le_of_ble_eq_true rfl) ((xe_4 E a) _) (Nat.le_of_ble_eq_true rfl) rfl dX0_removeLatestInto_28 ?_
    refine lv_iadd hx hb dX0_removeLatestInto_31 ?_
    refine lv_iconst (v := 4) hx hb dX0_removeLatestInto_32 (by decide) ?_
    refine lv_irem hx hb dX0_removeLatestInto_33 (by decide) ?_
    obtain ⟨b4, h⟩ := xm_ck_s h
    refine xm_aald (V := (xv E a)) (K := RX4) (v := a (52 + 17 * (((M2 4 1) + (M2 4 2)) - ((M2 4 1) + (M2 4 2)) / 4 * 4).toNatClampNeg)) C hP 5 4 3 (Nat.le_of_ble_eq_true rfl) (xe_5 E a) rfl b4 (xo_rs_at b4) dX0_removeLatestInto_34 ?_
    obtain ⟨M5, e7, h⟩ := xm_b1_s h
    refine xm_callVN C hP hS [.ref (a (52 + 17 * (((M2 4 1) + (M2 4 2)) - ((M2 4 1) + (M2 4 2)) / 4 * 4).toNatClampNeg))] [] (c_X4_copyFrom hD h1 (xs_h b4) n M2  M5 e7) k_X0_25 (xm_recv C hP o1 rfl (xs_lt h1 0 (by omega)) ((xs_0 h1 E a) _)) rfl rfl ⟨(Nat.le_of_ble_eq_true rfl), (Nat.le_of_ble_eq_true rfl)⟩ hl.1 (Nat.le_of_ble_eq_true rfl) ⟨Nat.zero_le _, Nat.zero_le _⟩ dX0_removeLatestInto_35 (fun H locs hP hS => ?_)
    change W p l e _ s m _ below meth c H locs 0 0 _ (F0 m 38 ls [])
    cases xm_on h
    exact xm_retV C hP hS dX0_removeLatestInto_38
  · rw [if_neg c1] at h
    cases xm_on h
    exact xm_retV C hP hS dX0_removeLatestInto_7
theorem c_X0_removeLatestInto {l : Launch} {E : xm_E} {a : Nat → Nat} (hD : xm_D (xv E a)) {o1 : Nat} (h1 : xm_St o1) (n : Nat) (M : xm_M) (M' : xm_M) (h : f_X0_removeLatestInto n M o1 = some M') : xm_Met l E (xv E a) yX0_removeLatestInto cX0_removeLatestInto 2 none 2 44 [.ref (a 4), .ref (a o1)] M M' none :=
  xm_met (by decide +kernel) rfl (Nat.le_of_ble_eq_true rfl) hD (fun p e s m below meth c C hP ls hl => t_X0_removeLatestInto_0 C h1 n M M' h _ _ _ hP va_S.rf hl)
