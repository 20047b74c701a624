theorem l_X1_15 : Cond.fieldLink RX1 15 "WindowMatches$Line" "numbers" "[I" ∈ xm_tb := xm_tb_of (List.mem_of_getElem? (i := 164) (by decide +kernel)) rfl
theorem l_X1_19 : Cond.fieldLink RX1 19 "WindowMatches$Line" "kinds" "[C" ∈ xm_tb := xm_tb_of (List.mem_of_getElem? (i := 166) (by decide +kernel)) rfl
theorem l_X1_23 : Cond.fieldLink RX1 23 "WindowMatches$Line" "values" "[I" ∈ xm_tb := xm_tb_of (List.mem_of_getElem? (i := 168) (by decide +kernel)) rfl
theorem l_X1_26 : Cond.fieldLink RX1 26 "WindowMatches$Line" "times" "[I" ∈ xm_tb := xm_tb_of (List.mem_of_getElem? (i := 170) (by decide +kernel)) rfl
theorem l_X1_9 : Cond.fieldLink RX1 9 "WindowMatches$Line" "size" "I" ∈ xm_tb := xm_tb_of (List.mem_of_getElem? (i := 162) (by decide +kernel)) rfl
theorem k_X1_41 : xm_FV RX1 41 yX1_put cX1_put 6 none 5 := ⟨xm_tb_of (List.mem_of_getElem? (i := 285) (by decide +kernel)) rfl, xm_tb_of (List.mem_of_getElem? (i := 282) (by decide +kernel)) rfl, xm_tb_of (List.mem_of_getElem? (i := 284) (by decide +kernel)) rfl, xm_tb_sel (List.mem_of_getElem? (i := 3) (by decide +kernel)) rfl, xm_tb_of (List.mem_of_getElem? (i := 7) (by decide +kernel)) rfl, ⟨by decide +kernel, by decide +kernel, by decide +kernel⟩⟩
theorem l_X1_29 : Cond.fieldLinkNest RX1 29 "WindowMatches$State" "events" "I" "WindowMatches" ∈ xm_nest := xm_nest_of (List.mem_of_getElem? (i := 72) (by decide +kernel)) rfl
theorem l_X1_34 : Cond.fieldLinkNest RX1 34 "WindowMatches$State" "kinds" "[C" "WindowMatches" ∈ xm_nest := xm_nest_of (List.mem_of_getElem? (i := 75) (by decide +kernel)) rfl
theorem l_X1_35 : Cond.fieldLinkNest RX1 35 "WindowMatches$State" "values" "[I" "WindowMatches" ∈ xm_nest := xm_nest_of (List.mem_of_getElem? (i := 78) (by decide +kernel)) rfl
theorem l_X1_36 : Cond.fieldLinkNest RX1 36 "WindowMatches$State" "times" "[I" "WindowMatches" ∈ xm_nest := xm_nest_of (List.mem_of_getElem? (i := 81) (by decide +kernel)) rfl
theorem k_X1_37 : xm_FV RX1 37 yX1_insert cX1_insert 6 none 4 := ⟨xm_tb_of (List.mem_of_getElem? (i := 281) (by decide +kernel)) rfl, xm_tb_of (List.mem_of_getElem? (i := 278) (by decide +kernel)) rfl, xm_tb_of (List.mem_of_getElem? (i := 280) (by decide +kernel)) rfl, xm_tb_sel (List.mem_of_getElem? (i := 2) (by decide +kernel)) rfl, xm_tb_of (List.mem_of_getElem? (i := 7) (by decide +kernel)) rfl, ⟨by decide +kernel, by decide +kernel, by decide +kernel⟩⟩
theorem l_X3_12 : Cond.fieldLink RX3 12 "WindowMatches$Search" "line" "LWindowMatches$Line;" ∈ xm_tb := xm_tb_of (List.mem_of_getElem? (i := 183) (by decide +kernel)) rfl
theorem k_X3_66 : xm_FVN RX3 66 yX1_fillFrom "WindowMatches" cX1_fillFrom 3 none 1 := ⟨xm_tb_of (List.mem_of_getElem? (i := 277) (by decide +kernel)) rfl, xm_nest_of (List.mem_of_getElem? (i := 274) (by decide +kernel)) rfl, xm_tb_of (List.mem_of_getElem? (i := 276) (by decide +kernel)) rfl, xm_tb_sel (List.mem_of_getElem? (i := 1) (by decide +kernel)) rfl, xm_tb_of (List.mem_of_getElem? (i := 7) (by decide +kernel)) rfl, ⟨by decide +kernel, by decide +kernel, by decide +kernel⟩⟩
theorem l_X3_70 : Cond.fieldLinkNest RX3 70 "WindowMatches$State" "newestTime" "I" "WindowMatches" ∈ xm_nest := xm_nest_of (List.mem_of_getElem? (i := 84) (by decide +kernel)) rfl
theorem l_X3_18 : Cond.fieldLink RX3 18 "WindowMatches$Search" "newestTime" "I" ∈ xm_tb := xm_tb_of (List.mem_of_getElem? (i := 185) (by decide +kernel)) rfl
theorem k_X3_73 : xm_FVN RX3 73 yX4_watermark "WindowMatches" cX4_watermark 1 (some .int) 0 := ⟨xm_tb_of (List.mem_of_getElem? (i := 289) (by decide +kernel)) rfl, xm_nest_of (List.mem_of_getElem? (i := 286) (by decide +kernel)) rfl, xm_tb_of (List.mem_of_getElem? (i := 288) (by decide +kernel)) rfl, xm_tb_sel (List.mem_of_getElem? (i := 4) (by decide +kernel)) rfl, xm_tb_of (List.mem_of_getElem? (i := 2) (by decide +kernel)) rfl, ⟨by decide +kernel, by decide +kernel, by decide +kernel⟩⟩
theorem l_X3_22 : Cond.fieldLink RX3 22 "WindowMatches$Search" "watermark" "I" ∈ xm_tb := xm_tb_of (List.mem_of_getElem? (i := 186) (by decide +kernel)) rfl
theorem l_X3_25 : Cond.fieldLink RX3 25 "WindowMatches$Search" "wantedRank" "I" ∈ xm_tb := xm_tb_of (List.mem_of_getElem? (i := 187) (by decide +kernel)) rfl
theorem l_X3_31 : Cond.fieldLink RX3 31 "WindowMatches$Search" "wantedEvent" "I" ∈ xm_tb := xm_tb_of (List.mem_of_getElem? (i := 189) (by decide +kernel)) rfl
theorem l_X3_63 : Cond.fieldLink RX3 63 "WindowMatches$Search" "shares" "[I" ∈ xm_tb := xm_tb_of (List.mem_of_getElem? (i := 203) (by decide +kernel)) rfl
theorem l_X3_28 : Cond.fieldLink RX3 28 "WindowMatches$Search" "wantedPlace" "I" ∈ xm_tb := xm_tb_of (List.mem_of_getElem? (i := 188) (by decide +kernel)) rfl
theorem l_X3_40 : Cond.fieldLink RX3 40 "WindowMatches$Search" "plainSteps" "I" ∈ xm_tb := xm_tb_of (List.mem_of_getElem? (i := 193) (by decide +kernel)) rfl
theorem l_X3_98 : Cond.fieldLinkNest RX3 98 "WindowMatches$Pattern" "steps" "I" "WindowMatches" ∈ xm_nest := xm_nest_of (List.mem_of_getElem? (i := 43) (by decide +kernel)) rfl
theorem l_X3_101 : Cond.fieldLinkNest RX3 101 "WindowMatches$Pattern" "absent" "[Z" "WindowMatches" ∈ xm_nest := xm_nest_of (List.mem_of_getElem? (i := 53) (by decide +kernel)) rfl
theorem l_X3_43 : Cond.fieldLink RX3 43 "WindowMatches$Search" "kinds" "[C" ∈ xm_tb := xm_tb_of (List.mem_of_getElem? (i := 194) (by decide +kernel)) rfl
theorem l_X3_105 : Cond.fieldLinkNest RX3 105 "WindowMatches$Pattern" "kinds" "[C" "WindowMatches" ∈ xm_nest := xm_nest_of (List.mem_of_getElem? (i := 50) (by decide +kernel)) rfl
theorem l_X3_47 : Cond.fieldLink RX3 47 "WindowMatches$Search" "barsAhead" "[C" ∈ xm_tb := xm_tb_of (List.mem_of_getElem? (i := 195) (by decide +kernel)) rfl
theorem l_X3_124 : Cond.fieldLinkNest RX3 124 "WindowMatches$Line" "times" "[I" "WindowMatches" ∈ xm_nest := xm_nest_of (List.mem_of_getElem? (i := 171) (by decide +kernel)) rfl
theorem l_X3_50 : Cond.fieldLink RX3 50 "WindowMatches$Search" "chosen" "[I" ∈ xm_tb := xm_tb_of (List.mem_of_getElem? (i := 196) (by decide +kernel)) rfl
theorem l_X3_34 : Cond.fieldLink RX3 34 "WindowMatches$Search" "window" "I" ∈ xm_tb := xm_tb_of (List.mem_of_getElem? (i := 191) (by decide +kernel)) rfl
theorem l_X3_123 : Cond.fieldLinkNest RX3 123 "WindowMatches$Line" "kinds" "[C" "WindowMatches" ∈ xm_nest := xm_nest_of (List.mem_of_getElem? (i := 167) (by decide +kernel)) rfl
theorem l_X3_37 : Cond.fieldLink RX3 37 "WindowMatches$Search" "rule" "I" ∈ xm_tb := xm_tb_of (List.mem_of_getElem? (i := 192) (by decide +kernel)) rfl
theorem l_X3_127 : Cond.fieldLinkNest RX3 127 "WindowMatches$Line" "values" "[I" "WindowMatches" ∈ xm_nest := xm_nest_of (List.mem_of_getElem? (i := 169) (by decide +kernel)) rfl
theorem l_X3_60 : Cond.fieldLink RX3 60 "WindowMatches$Search" "branches" "I" ∈ xm_tb := xm_tb_of (List.mem_of_getElem? (i := 201) (by decide +kernel)) rfl
theorem l_X3_57 : Cond.fieldLink RX3 57 "WindowMatches$Search" "sureMatches" "I" ∈ xm_tb := xm_tb_of (List.mem_of_getElem? (i := 199) (by decide +kernel)) rfl
theorem l_X3_54 : Cond.fieldLink RX3 54 "WindowMatches$Search" "matches" "I" ∈ xm_tb := xm_tb_of (List.mem_of_getElem? (i := 197) (by decide +kernel)) rfl
theorem l_X3_130 : Cond.fieldLinkNest RX3 130 "WindowMatches$Line" "numbers" "[I" "WindowMatches" ∈ xm_nest := xm_nest_of (List.mem_of_getElem? (i := 165) (by decide +kernel)) rfl
theorem k_X3_133 : xm_FVN RX3 133 yX1_placeOf "WindowMatches" cX1_placeOf 4 (some .int) 1 := ⟨xm_tb_of (List.mem_of_getElem? (i := 581) (by decide +kernel)) rfl, xm_nest_of (List.mem_of_getElem? (i := 586) (by decide +kernel)) rfl, xm_tb_of (List.mem_of_getElem? (i := 580) (by decide +kernel)) rfl, xm_tb_sel (List.mem_of_getElem? (i := 39) (by decide +kernel)) rfl, xm_tb_of (List.mem_of_getElem? (i := 7) (by decide +kernel)) rfl, ⟨by decide +kernel, by decide +kernel, by decide +kernel⟩⟩
theorem l_X3_109 : Cond.fieldLinkNest RX3 109 "WindowMatches$Line" "size" "I" "WindowMatches" ∈ xm_nest := xm_nest_of (List.mem_of_getElem? (i := 163) (by decide +kernel)) rfl
def f_X1_put (n : Nat) (M : xm_M) (x1 : Int32) (x2 : Int32) (x3 : Int32) (x4 : Int32) (x5 : Int32) : Option xm_M := xm_ck (xm_in x1 25) (xm_lt (xm_up M 14 x1.toNatClampNeg x2) (fun M2 => xm_ck (xm_in x1 25) (xm_lt (xm_up M2 15 x1.toNatClampNeg (vp_nar .char x3)) (fun M5 => xm_ck (xm_in x1 25) (xm_lt (xm_up M5 16 x1.toNatClampNeg x4) (fun M8 => xm_ck (xm_in x1 25) (xm_lt (xm_up M8 17 x1.toNatClampNeg x5) (fun M11 => some M11))))))))
set_option maxHeartbeats 4000000 in
set_option maxRecDepth 100000 in
theorem t_X1_put_0 {l : Launch} {p : Program} {e : Env} {s : State} {m : MethodId} {args : Array Value} {below : List Frame} {meth : Method} {c : Code} {E : xm_E} {a : Nat → Nat} (C : xm_C E (xv E a) p s m args meth c RX1 cX1_put 6 none) (n : Nat) (M : xm_M) (x1 : Int32) (x2 : Int32) (x3 : Int32) (x4 : Int32) (x5 : Int32) (M' : xm_M) : f_X1_put n M x1 x2 x3 x4 x5 = some M' → ∀ (H : Heap) (locs : List Loc) (ls : Array Slot), va_P E.1 vwCl (xm_w (xv E a) M) H → va_S (xm_A (xv E a) s.heap.size) s.heap H locs → lv_has ls 6 [(0, .ref (a 13)), (1, .int x1), (2, .int x2), (3, .int x3), (4, .int x4), (5, .int x5)] → W p l e { frames := 0, cells := 0, slots := 0, locals := 0 } s m args below meth c H locs 0 0 (MQ below (xm_Q E (xv E a) M' s.heap.size none) args s 0 0 (xm_A (xv E a) s.heap.size)) (F0 m 0 ls []) := by
  have C9 := C
  obtain ⟨hx, hb, hml, hown, hts, hr, hlk, hD, hK, hS9⟩ := C9
  intro h H locs ls hP hS hl
  unfold f_X1_put at h
  refine lv_aload_n hx hb dX1_put_0 rfl (lv_at hl 0 rfl) ?_
  refine xm_get (V := (xv E a)) (T := TX1) (v := .ref (a 14)) C hP 13 1 xi_1 rfl l_X1_15 rfl (Nat.le_of_ble_eq_true rfl) ((xe_13 E a) _) (Nat.le_of_ble_eq_true rfl) rfl dX1_put_1 ?_
  refine lv_iload_n hx hb dX1_put_4 rfl (lv_at hl 1 rfl) ?_
  refine lv_iload_n hx hb dX1_put_5 rfl (lv_at hl 2 rfl) ?_
  obtain ⟨b1, h⟩ := xm_ck_s h
  obtain ⟨M2, e3, h⟩ := xm_lt_s h
  refine xm_iast (V := (xv E a)) C hP hS 14 25 (Nat.le_of_ble_eq_true rfl) (xe_14 E a) b1 dX1_put_6 (fun H locs hP hS => ?_)
  rw [← e3] at hP
  refine lv_aload_n hx hb dX1_put_7 rfl (lv_at hl 0 rfl) ?_
  refine xm_get (V := (xv E a)) (T := TX1) (v := .ref (a 15)) C hP 13 2 xi_1 rfl l_X1_19 rfl (Nat.le_of_ble_eq_true rfl) ((xe_13 E a) _) (Nat.le_of_ble_eq_true rfl) rfl dX1_put_8 ?_
  refine lv_iload_n hx hb dX1_put_11 rfl (lv_at hl 1 rfl) ?_
  refine lv_iload_n hx hb dX1_put_12 rfl (lv_at hl 3 rfl) ?_
  obtain ⟨b4, h⟩ := xm_ck_s h
  obtain ⟨M5, e6, h⟩ := xm_lt_s h
  refine xm_cast (V := (xv E a)) C hP hS 15 25 (Nat.le_of_ble_eq_true rfl) (xe_15 E a) b4 dX1_put_13 (fun H locs hP hS => ?_)
  rw [← e6] at hP
  refine lv_aload_n hx hb dX1_put_14 rfl (lv_at hl 0 rfl) ?_
  refine xm_get (V := (xv E a)) (T := TX1) (v := .ref (a 16)) C hP 13 3 xi_1 rfl l_X1_23 rfl (Nat.le_of_ble_eq_true rfl) ((xe_13 E a) _) (Nat.le_of_ble_eq_true rfl) rfl dX1_put_15 ?_
  refine lv_iload_n hx hb dX1_put_18 rfl (lv_at hl 1 rfl) ?_
  refine lv_iload hx hb dX1_put_19 (lv_at hl 4 rfl) ?_
  obtain ⟨b7, h⟩ := xm_ck_s h
  obtain ⟨M8, e9, h⟩ := xm_lt_s h
  refine xm_iast (V := (xv E a)) C hP hS 16 25 (Nat.le_of_ble_eq_true rfl) (xe_16 E a) b7 dX1_put_21 (fun H locs hP hS => ?_)
  rw [← e9] at hP
  refine lv_aload_n hx hb dX1_put_22 rfl (lv_at hl 0 rfl) ?_
  refine xm_get (V := (xv E a)) (T := TX1) (v := .ref (a 17)) C hP 13 4 xi_1 rfl l_X1_26 rfl (Nat.le_of_ble_eq_true rfl) ((xe_13 E a) _) (Nat.le_of_ble_eq_true rfl) rfl dX1_put_23 ?_
  refine lv_iload_n hx hb dX1_put_26 rfl (lv_at hl 1 rfl) ?_
  refine lv_iload hx hb dX1_put_27 (lv_at hl 5 rfl) ?_
  obtain ⟨b10, h⟩ := xm_ck_s h
  obtain ⟨M11, e12, h⟩ := xm_lt_s h
  refine xm_iast (V := (xv E a)) C hP hS 17 25 (Nat.le_of_ble_eq_true rfl) (xe_17 E a) b10 dX1_put_29 (fun H locs hP hS => ?_)
  rw [← e12] at hP
  cases xm_on h
  exact xm_retV C hP hS dX1_put_30
theorem c_X1_put {l : Launch} {E : xm_E} {a : Nat → Nat} (hD : xm_D (xv E a)) (n : Nat) (M : xm_M) (x1 : Int32) (x2 : Int32) (x3 : Int32) (x4 : Int32) (x5 : Int32) (M' : xm_M) (h : f_X1_put n M x1 x2 x3 x4 x5 = some M') : xm_Met l E (xv E a) yX1_put cX1_put 6 none 0 0 [.ref (a 13), .int x1, .int x2, .int x3, .int x4, .int x5] M M' none :=
  xm_met (by decide +kernel) rfl (Nat.le_of_ble_eq_true rfl) hD (fun p e s m below meth c C hP ls hl => t_X1_put_0 C  n M x1 x2 x3 x4 x5 M' h _ _ _ hP va_S.rf hl)
def f_X1_insert_83 (n : Nat) (M : xm_M) (x1 : Int32) (x2 : Int32) (x3 : Int32) (x4 : Int32) (x5 : Int32) : Option xm_M := xm_b1 (f_X1_put n M x5 x1 x2 x3 x4) (fun M1 => xm_lt (xm_up M1 13 0 ((M1 13 0) + 1)) (fun M4 => some M4))
set_option maxHeartbeats 4000000 in
set_option maxRecDepth 100000 in
theorem t_X1_insert_83 {l : Launch} {p : Program} {e : Env} {s : State} {m : MethodId} {args : Array Value} {below : List Frame} {meth : Method} {c : Code} {E : xm_E} {a : Nat → Nat} (C : xm_C E (xv E a) p s m args meth c RX1 cX1_insert 6 none) (n : Nat) (M : xm_M) (x1 : Int32) (x2 : Int32) (x3 : Int32) (x4 : Int32) (x5 : Int32) (M' : xm_M) : f_X1_insert_83 n M x1 x2 x3 x4 x5 = some M' → ∀ (H : Heap) (locs : List Loc) (ls : Array Slot), va_P E.1 vwCl (xm_w (xv E a) M) H → va_S (xm_A (xv E a) s.heap.size) s.heap H locs → lv_has ls 6 [(0, .ref (a 13)), (1, .int x1), (2, .int x2), (3, .int x3), (4, .int x4), (5, .int x5)] → W p l e { frames := 1, cells := 0, slots := 0, locals := 25 } s m args below meth c H locs 0 0 (MQ below (xm_Q E (xv E a) M' s.heap.size none) args s 0 0 (xm_A (xv E a) s.heap.size)) (F0 m 83 ls []) := by
  have C9 := C
  obtain ⟨hx, hb, hml, hown, hts, hr, hlk, hD, hK, hS9⟩ := C9
  intro h H locs ls hP hS hl
  unfold f_X1_insert_83 at h
  refine lv_aload_n hx hb dX1_insert_83 rfl (lv_at hl 0 rfl) ?_
  refine lv_iload hx hb dX1_insert_84 (lv_at hl 5 rfl) ?_
  refine lv_iload_n hx hb dX1_insert_86 rfl (lv_at hl 1 rfl) ?_
  refine lv_iload_n hx hb dX1_insert_87 rfl (lv_at hl 2 rfl) ?_
  refine lv_iload_n hx hb dX1_insert_88 rfl (lv_at hl 3 rfl) ?_
  refine lv_iload hx hb dX1_insert_89 (lv_at hl 4 rfl) ?_
  obtain ⟨M1, e3, h⟩ := xm_b1_s h
  refine xm_callV C hP hS [.int x5, .int x1, .int x2, .int x3, .int x4] [] (c_X1_put hD  n M x5 x1 x2 x3 x4 M1 e3) k_X1_41 (xm_recv C hP 13 rfl (Nat.le_of_ble_eq_true rfl) ((xe_13 E a) _)) rfl rfl ⟨(Nat.le_of_ble_eq_true rfl), (Nat.le_of_ble_eq_true rfl)⟩ hl.1 (Nat.le_of_ble_eq_true rfl) ⟨Nat.zero_le _, Nat.zero_le _⟩ dX1_insert_91 (fun H locs hP hS => ?_)
  change W p l e _ s m _ below meth c H locs 0 0 _ (F0 m 94 ls [])
  refine lv_aload_n hx hb dX1_insert_94 rfl (lv_at hl 0 rfl) ?_
  refine lv_dup hx hb dX1_insert_95 rfl ?_
  refine xm_get (V := (xv E a)) (T := TX1) (v := .int (M1 13 0)) C hP 13 0 xi_1 rfl l_X1_9 rfl (Nat.le_of_ble_eq_true rfl) ((xe_13 E a) _) (Nat.le_of_ble_eq_true rfl) rfl dX1_insert_96 ?_
  refine lv_iconst (v := 1) hx hb dX1_insert_99 (by decide) ?_
  refine lv_iadd hx hb dX1_insert_100 ?_
  obtain ⟨M4, e5, h⟩ := xm_lt_s h
  refine xm_put (V := (xv E a)) (T := TX1) (ty := .int) (x := (M1 13 0) + 1) C hP hS 13 0 xi_1 rfl l_X1_9 rfl tyX1_ok nmX1 (Nat.le_of_ble_eq_true rfl) ((xe_13 E a) _) (Nat.le_of_ble_eq_true rfl) rfl (by decide +kernel) rfl rfl (Nat.le_of_ble_eq_true rfl) ((xe_13 E a) _) dX1_insert_101 (fun H locs hP hS => ?_)
  rw [← e5] at hP
  cases xm_on h
  exact xm_retV C hP hS dX1_insert_104
def f_X1_insert_16 : Nat → xm_M → Int32 → Int32 → Int32 → Int32 → Int32 → Option xm_M
  | 0, _, _, _, _, _, _ => none
  | n + 1, M, x1, x2, x3, x4, x5 => if x5 ≤ 0 then f_X1_insert_83 n M x1 x2 x3 x4 x5 else xm_ck (xm_in (x5 - 1) 25) (if (M 17 (x5 - 1).toNatClampNeg) ≤ x4 then f_X1_insert_83 n M x1 x2 x3 x4 x5 else xm_ck (xm_in (x5 - 1) 25) (xm_ck (xm_in (x5 - 1) 25) (xm_ck (xm_in (x5 - 1) 25) (xm_ck (xm_in (x5 - 1) 25) (xm_b1 (f_X1_put n M x5 (M 14 (x5 - 1).toNatClampNeg) (M 15 (x5 - 1).toNatClampNeg) (M 16 (x5 - 1).toNatClampNeg) (M 17 (x5 - 1).toNatClampNeg)) (fun M8 => f_X1_insert_16 n M8 x1 x2 x3 x4 (x5 + (-1))))))))
set_option maxHeartbeats 4000000 in
set_option maxRecDepth 100000 in
theorem t_X1_insert_16 {l : Launch} {p : Program} {e : Env} {s : State} {m : MethodId} {args : Array Value} {below : List Frame} {meth : Method} {c : Code} {E : xm_E} {a : Nat → Nat} (C : xm_C E (xv E a) p s m args meth c RX1 cX1_insert 6 none) : ∀ (n : Nat) (M : xm_M) (x1 : Int32) (x2 : Int32) (x3 : Int32) (x4 : Int32) (x5 : Int32) (M' : xm_M), f_X1_insert_16 n M x1 x2 x3 x4 x5 = some M' → ∀ (H : Heap) (locs : List Loc) (ls : Array Slot), va_P E.1 vwCl (xm_w (xv E a) M) H → va_S (xm_A (xv E a) s.heap.size) s.heap H locs → lv_has ls 6 [(0, .ref (a 13)), (1, .int x1), (2, .int x2), (3, .int x3), (4, .int x4), (5, .int x5)] → W p l e { frames := 1, cells := 0, slots := 0, locals := 25 } s m args below meth c H locs 0 0 (MQ below (xm_Q E (xv E a) M' s.heap.size none) args s 0 0 (xm_A (xv E a) s.heap.size)) (F0 m 16 ls []) := by
  have C9 := C
  obtain ⟨hx, hb, hml, hown, hts, hr, hlk, hD, hK, hS9⟩ := C9
  intro n
  induction n with
  | zero =>
    intro M x1 x2 x3 x4 x5 M' h
    cases h
  | succ n ih =>
    intro M x1 x2 x3 x4 x5 M' h H locs ls hP hS hl
    rw [f_X1_insert_16] at h
    refine lv_iload hx hb dX1_insert_16 (lv_at hl 5 rfl) ?_
    refine lv_if_le (tgt := 83) hx hb dX1_insert_18 (by decide) (fun c1 => ?_) (fun c1 => ?_)
    · rw [if_pos c1] at h
      exact t_X1_insert_83 C  n M x1 x2 x3 x4 x5 M' h _ _ _ hP hS (lv_sub hl [0, 1, 2, 3, 4, 5] rfl)
    · rw [if_neg c1] at h
      refine lv_aload_n hx hb dX1_insert_21 rfl (lv_at hl 0 rfl) ?_
      refine xm_get (V := (xv E a)) (T := TX1) (v := .ref (a 17)) C hP 13 4 xi_1 rfl l_X1_26 rfl (Nat.le_of_ble_eq_true rfl) ((xe_13 E a) _) (Nat.le_of_ble_eq_true rfl) rfl dX1_insert_22 ?_
      refine lv_iload hx hb dX1_insert_25 (lv_at hl 5 rfl) ?_
      refine lv_iconst (v := 1) hx hb dX1_insert_27 (by decide) ?_
      refine lv_isub hx hb dX1_insert_28 ?_
      obtain ⟨b2, h⟩ := xm_ck_s h
      refine xm_iald (V := (xv E a)) C hP 17 25 (Nat.le_of_ble_eq_true rfl) (xe_17 E a) b2 dX1_insert_29 ?_
      refine lv_iload hx hb dX1_insert_30 (lv_at hl 4 rfl) ?_
      refine lv_icmp_le (tgt := 83) hx hb dX1_insert_32 (by decide) (fun c3 => ?_) (fun c3 => ?_)
      · rw [if_pos c3] at h
        exact t_X1_insert_83 C  n M x1 x2 x3 x4 x5 M' h _ _ _ hP hS (lv_sub hl [0, 1, 2, 3, 4, 5] rfl)
      · rw [if_neg c3] at h
        refine lv_aload_n hx hb dX1_insert_35 rfl (lv_at hl 0 rfl) ?_
        refine lv_iload hx hb dX1_insert_36 (lv_at hl 5 rfl) ?_
        refine lv_aload_n hx hb dX1_insert_38 rfl (lv_at hl 0 rfl) ?_
        refine xm_get (V := (xv E a)) (T := TX1) (v := .ref (a 14)) C hP 13 1 xi_1 rfl l_X1_15 rfl (Nat.le_of_ble_eq_true rfl) ((xe_13 E a) _) (Nat.le_of_ble_eq_true rfl) rfl dX1_insert_39 ?_
        refine lv_iload hx hb dX1_insert_42 (lv_at hl 5 rfl) ?_
        refine lv_iconst (v := 1) hx hb dX1_insert_44 (by decide) ?_
        refine lv_isub hx hb dX1_insert_45 ?_
        obtain ⟨b4, h⟩ := xm_ck_s h
        refine xm_iald (V := (xv E a)) C hP 14 25 (Nat.le_of_ble_eq_true rfl) (xe_14 E a) b4 dX1_insert_46 ?_
        refine lv_aload_n hx hb dX1_insert_47 rfl (lv_at hl 0 rfl) ?_
        refine xm_get (V := (xv E a)) (T := TX1) (v := .ref (a 15)) C hP 13 2 xi_1 rfl l_X1_19 rfl (Nat.le_of_ble_eq_true rfl) ((xe_13 E a) _) (Nat.le_of_ble_eq_true rfl) rfl dX1_insert_48 ?_
        refine lv_iload hx hb dX1_insert_51 (lv_at hl 5 rfl) ?_
        refine lv_iconst (v := 1) hx hb dX1_insert_53 (by decide) ?_
        refine lv_isub hx hb dX1_insert_54 ?_
        obtain ⟨b5, h⟩ := xm_ck_s h
        refine xm_cald (V := (xv E a)) C hP 15 25 (Nat.le_of_ble_eq_true rfl) (xe_15 E a) b5 dX1_insert_55 ?_
        refine lv_aload_n hx hb dX1_insert_56 rfl (lv_at hl 0 rfl) ?_
        refine xm_get (V := (xv E a)) (T := TX1) (v := .ref (a 16)) C hP 13 3 xi_1 rfl l_X1_23 rfl (Nat.le_of_ble_eq_true rfl) ((xe_13 E a) _) (Nat.le_of_ble_eq_true rfl) rfl dX1_insert_57 ?_
        refine lv_iload hx hb dX1_insert_60 (lv_at hl 5 rfl) ?_
        refine lv_iconst (v := 1) hx hb dX1_insert_62 (by decide) ?_
        refine lv_isub hx hb dX1_insert_63 ?_
        obtain ⟨b6, h⟩ := xm_ck_s h
        refine xm_iald (V := (xv E a)) C hP 16 25 (Nat.le_of_ble_eq_true rfl) (xe_16 E a) b6 dX1_insert_64 ?_
        refine lv_aload_n hx hb dX1_insert_65 rfl (lv_at hl 0 rfl) ?_
        refine xm_get (V := (xv E a)) (T := TX1) (v := .ref (a 17)) C hP 13 4 xi_1 rfl l_X1_26 rfl (Nat.le_of_ble_eq_true rfl) ((xe_13 E a) _) (Nat.le_of_ble_eq_true rfl) rfl dX1_insert_66 ?_
        refine lv_iload hx hb dX1_insert_69 (lv_at hl 5 rfl) ?_
        refine lv_iconst (v := 1) hx hb dX1_insert_71 (by decide) ?_
        refine lv_isub hx hb dX1_insert_72 ?_
        obtain ⟨b7, h⟩ := xm_ck_s h
        refine xm_iald (V := (xv E a)) C hP 17 25 (Nat.le_of_ble_eq_true rfl) (xe_17 E a) b7 dX1_insert_73 ?_
        obtain ⟨M8, e10, h⟩ := xm_b1_s h
        refine xm_callV C hP hS [.int x5, .int (M 14 (x5 - 1).toNatClampNeg), .int (M 15 (x5 - 1).toNatClampNeg), .int (M 16 (x5 - 1).toNatClampNeg), .int (M 17 (x5 - 1).toNatClampNeg)] [] (c_X1_put hD  n M x5 (M 14 (x5 - 1).toNatClampNeg) (M 15 (x5 - 1).toNatClampNeg) (M 16 (x5 - 1).toNatClampNeg) (M 17 (x5 - 1).toNatClampNeg) M8 e10) k_X1_41 (xm_recv C hP 13 rfl (Nat.le_of_ble_eq_true rfl) ((xe_13 E a) _)) rfl rfl ⟨(Nat.le_of_ble_eq_true rfl), (Nat.le_of_ble_eq_true rfl)⟩ hl.1 (Nat.le_of_ble_eq_true rfl) ⟨Nat.zero_le _, Nat.zero_le _⟩ dX1_insert_74 (fun H locs hP hS => ?_)
        change W p l e _ s m _ below meth c H locs 0 0 _ (F0 m 77 ls [])
        refine lv_iinc (v := x5 + (-1)) (lv' := [(5, .int (x5 + (-1))), (0, .ref (a 13)), (1, .int x1), (2, .int x2), (3, .int x3), (4, .int x4)]) hx hb dX1_insert_77 hl (k := 5) rfl (xm_add (by decide)) (by decide) rfl (fun ls hl => ?_)
        refine lv_goto (tgt := 16) hx hb dX1_insert_80 (by decide) ?_
        exact ih M8 x1 x2 x3 x4 (x5 + (-1)) M' h _ _ _ hP hS (lv_sub hl [1, 2, 3, 4, 5, 0] rfl)
def f_X1_insert (n : Nat) (M : xm_M) (x1 : Int32) (x2 : Int32) (x3 : Int32) (x4 : Int32) : Option xm_M := if (M 13 0) < 25 then f_X1_insert_16 n M x1 x2 x3 x4 (M 13 0) else some M
set_option maxHeartbeats 4000000 in
set_option maxRecDepth 100000 in
theorem t_X1_insert_0 {l : Launch} {p : Program} {e : Env} {s : State} {m : MethodId} {args : Array Value} {below : List Frame} {meth : Method} {c : Code} {E : xm_E} {a : Nat → Nat} (C : xm_C E (xv E a) p s m args meth c RX1 cX1_insert 6 none) (n : Nat) (M : xm_M) (x1 : Int32) (x2 : Int32) (x3 : Int32) (x4 : Int32) (M' : xm_M) : f_X1_insert n M x1 x2 x3 x4 = some M' → ∀ (H : Heap) (locs : List Loc) (ls : Array Slot), va_P E.1 vwCl (xm_w (xv E a) M) H → va_S (xm_A (xv E a) s.heap.size) s.heap H locs → lv_has ls 6 [(0, .ref (a 13)), (1, .int x1), (2, .int x2), (3, .int x3), (4, .int x4)] → W p l e { frames := 1, cells := 0, slots := 0, locals := 25 } s m args below meth c H locs 0 0 (MQ below (xm_Q E (xv E a) M' s.heap.size none) args s 0 0 (xm_A (xv E a) s.heap.size)) (F0 m 0 ls []) := by
  have C9 := C
  obtain ⟨hx, hb, hml, hown, hts, hr, hlk, hD, hK, hS9⟩ := C9
  intro h H locs ls hP hS hl
  unfold f_X1_insert at h
  refine lv_aload_n hx hb dX1_insert_0 rfl (lv_at hl 0 rfl) ?_
  refine xm_get (V := (xv E a)) (T := TX1) (v := .int (M 13 0)) C hP 13 0 xi_1 rfl l_X1_9 rfl (Nat.le_of_ble_eq_true rfl) ((xe_13 E a) _) (Nat.le_of_ble_eq_true rfl) rfl dX1_insert_1 ?_
  refine lv_bipush (v := 25) hx hb dX1_insert_4 (by decide) ?_
  refine lv_icmp_lt (tgt := 10) hx hb dX1_insert_6 (by decide) (fun c1 => ?_) (fun c1 => ?_)
  · rw [if_pos c1] at h
    refine lv_aload_n hx hb dX1_insert_10 rfl (lv_at hl 0 rfl) ?_
    refine xm_get (V := (xv E a)) (T := TX1) (v := .int (M 13 0)) C hP 13 0 xi_1 rfl l_X1_9 rfl (Nat.le_of_ble_eq_true rfl) ((xe_13 E a) _) (Nat.le_of_ble_eq_true rfl) rfl dX1_insert_11 ?_
    refine lv_istore (lv' := [(5, .int (M 13 0)), (0, .ref (a 13)), (1, .int x1), (2, .int x2), (3, .int x3), (4, .int x4)]) hx hb dX1_insert_14 hl (by decide) rfl (fun ls hl => ?_)
    exact t_X1_insert_16 C  n M x1 x2 x3 x4 (M 13 0) M' h _ _ _ hP hS (lv_sub hl [1, 2, 3, 4, 5, 0] rfl)
  · rw [if_neg c1] at h
    cases xm_on h
    exact xm_retV C hP hS dX1_insert_9
theorem c_X1_insert {l : Launch} {E : xm_E} {a : Nat → Nat} (hD : xm_D (xv E a)) (n : Nat) (M : xm_M) (x1 : Int32) (x2 : Int32) (x3 : Int32) (x4 : Int32) (M' : xm_M) (h : f_X1_insert n M x1 x2 x3 x4 = some M') : xm_Met l E (xv E a) yX1_insert cX1_insert 6 none 1 25 [.ref (a 13), .int x1, .int x2, .int x3, .int x4] M M' none :=
  xm_met (by decide +kernel) rfl (Nat.le_of_ble_eq_true rfl) hD (fun p e s m below meth c C hP ls hl => t_X1_insert_0 C  n M x1 x2 x3 x4 M' h _ _ _ hP va_S.rf hl)
def f_X1_fillFrom_7 : Nat → xm_M → Nat → Int32 → Option xm_M
  | 0, _, _, _ => none
  | n + 1, M, o1, x2 => if (M o1 0) ≤ x2 then some M else xm_ck (xm_in x2 24) (xm_ck (xm_in x2 24) (xm_ck (xm_in x2 24) (xm_b1 (f_X1_insert n M x2 (M (o1 + 1) x2.toNatClampNeg) (M (o1 + 2) x2.toNatClampNeg) (M (o1 + 3) x2.toNatClampNeg)) (fun M5 => f_X1_fillFrom_7 n M5 o1 (x2 + 1)))))
set_option maxHeartbeats 4000000 in
set_option maxRecDepth 100000 in
theorem t_X1_fillFrom_7 {l : Launch} {p : Program} {e : Env} {s : State} {m : MethodId} {args : Array Value} {below : List Frame} {meth : Method} {c : Code} {E : xm_E} {a : Nat → Nat} (C : xm_C E (xv E a) p s m args meth c RX1 cX1_fillFrom 3 none) {o1 : Nat} (h1 : xm_St o1) : ∀ (n : Nat) (M : xm_M) (x2 : Int32) (M' : xm_M), f_X1_fillFrom_7 n M o1 x2 = some M' → ∀ (H : Heap) (locs : List Loc) (ls : Array Slot), va_P E.1 vwCl (xm_w (xv E a) M) H → va_S (xm_A (xv E a) s.heap.size) s.heap H locs → lv_has ls 3 [(0, .ref (a 13)), (1, .ref (a o1)), (2, .int x2)] → W p l e { frames := 2, cells := 0, slots := 0, locals := 50 } s m args below meth c H locs 0 0 (MQ below (xm_Q E (xv E a) M' s.heap.size none) args s 0 0 (xm_A (xv E a) s.heap.size)) (F0 m 7 ls []) := by
  have C9 := C
  obtain ⟨hx, hb, hml, hown, hts, hr, hlk, hD, hK, hS9⟩ := C9
  intro n
  induction n with
  | zero =>
    intro M x2 M' h
    cases h
  | succ n ih =>
    intro M x2 M' h H locs ls hP hS hl
    rw [f_X1_fillFrom_7] at h
    refine lv_iload_n hx hb dX1_fillFrom_7 rfl (lv_at hl 2 rfl) ?_
    refine lv_aload_n hx hb dX1_fillFrom_8 rfl (lv_at hl 1 rfl) ?_
    refine xm_getN (V := (xv E a)) (T := TX4) (v := .int (M o1 0)) C hP o1 0 xi_4 rfl l_X1_29 rfl (xs_lt h1 0 (by omega)) ((xs_0 h1 E a) _) (Nat.le_of_ble_eq_true rfl) rfl dX1_fillFrom_9 ?_
    refine lv_icmp_ge (tgt := 44) hx hb dX1_fillFrom_12 (by decide) (fun c1 => ?_) (fun c1 => ?_)
    · rw [if_pos c1] at h
      cases xm_on h
      exact xm_retV C hP hS dX1_fillFrom_44
    · rw [if_neg c1] at h
      refine lv_aload_n hx hb dX1_fillFrom_15 rfl (lv_at hl 0 rfl) ?_
      refine lv_iload_n hx hb dX1_fillFrom_16 rfl (lv_at hl 2 rfl) ?_
      refine lv_aload_n hx hb dX1_fillFrom_17 rfl (lv_at hl 1 rfl) ?_
      refine xm_getN (V := (xv E a)) (T := TX4) (v := .ref (a (o1 + 1))) C hP o1 1 xi_4 rfl l_X1_34 rfl (xs_lt h1 0 (by omega)) ((xs_0 h1 E a) _) (Nat.le_of_ble_eq_true rfl) rfl dX1_fillFrom_18 ?_
      refine lv_iload_n hx hb dX1_fillFrom_21 rfl (lv_at hl 2 rfl) ?_
      obtain ⟨b2, h⟩ := xm_ck_s h
      refine xm_cald (V := (xv E a)) C hP (o1 + 1) 24 (xs_lt h1 1 (by omega)) (xs_1 h1 E a) b2 dX1_fillFrom_22 ?_
      refine lv_aload_n hx hb dX1_fillFrom_23 rfl (lv_at hl 1 rfl) ?_
      refine xm_getN (V := (xv E a)) (T := TX4) (v := .ref (a (o1 + 2))) C hP o1 2 xi_4 rfl l_X1_35 rfl (xs_lt h1 0 (by omega)) ((xs_0 h1 E a) _) (Nat.le_of_ble_eq_true rfl) rfl dX1_fillFrom_24 ?_
      refine lv_iload_n hx hb dX1_fillFrom_27 rfl (lv_at hl 2 rfl) ?_
      obtain ⟨b3, h⟩ := xm_ck_s h
      refine xm_iald (V := (xv E a)) C hP (o1 + 2) 24 (xs_lt h1 2 (by omega)) (xs_2 h1 E a) b3 dX1_fillFrom_28 ?_
      refine lv_aload_n hx hb dX1_fillFrom_29 rfl (lv_at hl 1 rfl) ?_
      refine xm_getN (V := (xv E a)) (T := TX4) (v := .ref (a (o1 + 3))) C hP o1 3 xi_4 rfl l_X1_36 rfl (xs_lt h1 0 (by omega)) ((xs_0 h1 E a) _) (Nat.le_of_ble_eq_true rfl) rfl dX1_fillFrom_30 ?_
      refine lv_iload_n hx hb dX1_fillFrom_33 rfl (lv_at hl 2 rfl) ?_
      obtain ⟨b4, h⟩ := xm_ck_s h
      refine xm_iald (V := (xv E a)) C hP (o1 + 3) 24 (xs_lt h1 3 (by omega)) (xs_3 h1 E a) b4 dX1_fillFrom_34 ?_
      obtain ⟨M5, e7, h⟩ := xm_b1_s h
      refine xm_callV C hP hS [.int x2, .int (M (o1 + 1) x2.toNatClampNeg), .int (M (o1 + 2) x2.toNatClampNeg), .int (M (o1 + 3) x2.toNatClampNeg)] [] (c_X1_insert hD  n M x2 (M (o1 + 1) x2.toNatClampNeg) (M (o1 + 2) x2.toNatClampNeg) (M (o1 + 3) x2.toNatClampNeg) M5 e7) k_X1_37 (xm_recv C hP 13 rfl (Nat.le_of_ble_eq_true rfl) ((xe_13 E a) _)) rfl rfl ⟨(Nat.le_of_ble_eq_true rfl), (Nat.le_of_ble_eq_true rfl)⟩ hl.1 (Nat.le_of_ble_eq_true rfl) ⟨Nat.zero_le _, Nat.zero_le _⟩ dX1_fillFrom_35 (fun H locs hP hS => ?_)
      change W p l e _ s m _ below meth c H locs 0 0 _ (F0 m 38 ls [])
      refine lv_iinc (v := x2 + 1) (lv' := [(2, .int (x2 + 1)), (0, .ref (a 13)), (1, .ref (a o1))]) hx hb dX1_fillFrom_38 hl (k := 2) rfl (xm_add (by decide)) (by decide) rfl (fun ls hl => ?_)
      refine lv_goto (tgt := 7) hx hb dX1_fillFrom_41 (by decide) ?_
      exact ih M5 (x2 + 1) M' h _ _ _ hP hS (lv_sub hl [1, 2, 0] rfl)
def f_X1_fillFrom (n : Nat) (M : xm_M) (o1 : Nat) : Option xm_M := xm_lt (xm_up M 13 0 0) (fun M1 => f_X1_fillFrom_7 n M1 o1 0)
set_option maxHeartbeats 4000000 in
set_option maxRecDepth 100000 in
theorem t_X1_fillFrom_0 {l : Launch} {p : Program} {e : Env} {s : State} {m : MethodId} {args : Array Value} {below : List Frame} {meth : Method} {c : Code} {E : xm_E} {a : Nat → Nat} (C : xm_C E (xv E a) p s m args meth c RX1 cX1_fillFrom 3 none) {o1 : Nat} (h1 : xm_St o1) (n : Nat) (M : xm_M) (M' : xm_M) : f_X1_fillFrom n M o1 = some M' → ∀ (H : Heap) (locs : List Loc) (ls : Array Slot), va_P E.1 vwCl (xm_w (xv E a) M) H → va_S (xm_A (xv E a) s.heap.size) s.heap H locs → lv_has ls 3 [(0, .ref (a 13)), (1, .ref (a o1))] → W p l e { frames := 2, cells := 0, slots := 0, locals := 50 } s m args below meth c H locs 0 0 (MQ below (xm_Q E (xv E a) M' s.heap.size none) args s 0 0 (xm_A (xv E a) s.heap.size)) (F0 m 0 ls []) := by
  have C9 := C
  obtain ⟨hx, hb, hml, hown, hts, hr, hlk, hD, hK, hS9⟩ := C9
  intro h H locs ls hP hS hl
  unfold f_X1_fillFrom at h
  refine lv_aload_n hx hb dX1_fillFrom_0 rfl (lv_at hl 0 rfl) ?_
  refine lv_iconst (v := 0) hx hb dX1_fillFrom_1 (by decide) ?_
  obtain ⟨M1, e2, h⟩ := xm_lt_s h
  refine xm_put (V := (xv E a)) (T := TX1) (ty := .int) (x := 0) C hP hS 13 0 xi_1 rfl l_X1_9 rfl tyX1_ok nmX1 (Nat.le_of_ble_eq_true rfl) ((xe_13 E a) _) (Nat.le_of_ble_eq_true rfl) rfl (by decide +kernel) rfl rfl (Nat.le_of_ble_eq_true rfl) ((xe_13 E a) _) dX1_fillFrom_2 (fun H locs hP hS => ?_)
  rw [← e2] at hP
  refine lv_iconst (v := 0) hx hb dX1_fillFrom_5 (by decide) ?_
  refine lv_istore_n (lv' := [(2, .int 0), (0, .ref (a 13)), (1, .ref (a o1))]) hx hb dX1_fillFrom_6 rfl hl (by decide) rfl (fun ls hl => ?_)
  exact t_X1_fillFrom_7 C h1 n M1 0 M' h _ _ _ hP hS (lv_sub hl [1, 2, 0] rfl)
theorem c_X1_fillFrom {l : Launch} {E : xm_E} {a : Nat → Nat} (hD : xm_D (xv E a)) {o1 : Nat} (h1 : xm_St o1) (n : Nat) (M : xm_M) (M' : xm_M) (h : f_X1_fillFrom n M o1 = some M') : xm_Met l E (xv E a) yX1_fillFrom cX1_fillFrom 3 none 2 50 [.ref (a 13), .ref (a o1)] M M' none :=
  xm_met (by decide +kernel) rfl (Nat.le_of_ble_eq_true rfl) hD (fun p e s m below meth c C hP ls hl => t_X1_fillFrom_0 C h1 n M M' h _ _ _ hP va_S.rf hl)
def f_X1_placeOf_4 : Nat → xm_M → Int32 → Int32 → Int32 → Option (Int32 × xm_M)
  | 0, _, _, _, _ => none
  | n + 1, M, x1, x2, x3 => if (M 13 0) ≤ x3 then some (x2, M) else xm_ck (xm_in x3 25) (if (M 14 x3.toNatClampNeg) = x1 then f_X1_placeOf_4 n M x1 x3 (x3 + 1) else f_X1_placeOf_4 n M x1 x2 (x3 + 1))
set_option maxHeartbeats 4000000 in
set_option maxRecDepth 100000 in
theorem t_X1_placeOf_4 {l : Launch} {p : Program} {e : Env} {s : State} {m : MethodId} {args : Array Value} {below : List Frame} {meth : Method} {c : Code} {E : xm_E} {a : Nat → Nat} (C : xm_C E (xv E a) p s m args meth c RX1 cX1_placeOf 4 (some .int)) : ∀ (n : Nat) (M : xm_M) (x1 : Int32) (x2 : Int32) (x3 : Int32) (r : Int32) (M' : xm_M), f_X1_placeOf_4 n M x1 x2 x3 = some (r, M') → ∀ (H : Heap) (locs : List Loc) (ls : Array Slot), va_P E.1 vwCl (xm_w (xv E a) M) H → va_S (xm_A (xv E a) s.heap.size) s.heap H locs → lv_has ls 4 [(0, .ref (a 13)), (1, .int x1), (2, .int x2), (3, .int x3)] → W p l e { frames := 0, cells := 0, slots := 0, locals := 0 } s m args below meth c H locs 0 0 (MQ below (xm_Q E (xv E a) M' s.heap.size (some r)) args s 0 0 (xm_A (xv E a) s.heap.size)) (F0 m 4 ls []) := by
  have C9 := C
  obtain ⟨hx, hb, hml, hown, hts, hr, hlk, hD, hK, hS9⟩ := C9
  intro n
  induction n with
  | zero =>
    intro M x1 x2 x3 r M' h
    cases h
  | succ n ih =>
    intro M x1 x2 x3 r M' h H locs ls hP hS hl
    rw [f_X1_placeOf_4] at h
    refine lv_iload_n hx hb dX1_placeOf_4 rfl (lv_at hl 3 rfl) ?_
    refine lv_aload_n hx hb dX1_placeOf_5 rfl (lv_at hl 0 rfl) ?_
    refine xm_get (V := (xv E a)) (T := TX1) (v := .int (M 13 0)) C hP 13 0 xi_1 rfl l_X1_9 rfl (Nat.le_of_ble_eq_true rfl) ((xe_13 E a) _) (Nat.le_of_ble_eq_true rfl) rfl dX1_placeOf_6 ?_
    refine lv_icmp_ge (tgt := 30) hx hb dX1_placeOf_9 (by decide) (fun c1 => ?_) (fun c1 => ?_)
    · rw [if_pos c1] at h
      refine lv_iload_n hx hb dX1_placeOf_30 rfl (lv_at hl 2 rfl) ?_
      obtain ⟨rfl, rfl⟩ := xm_pr h
      exact xm_retI C hP hS dX1_placeOf_31
    · rw [if_neg c1] at h
      refine lv_aload_n hx hb dX1_placeOf_12 rfl (lv_at hl 0 rfl) ?_
      refine xm_get (V := (xv E a)) (T := TX1) (v := .ref (a 14)) C hP 13 1 xi_1 rfl l_X1_15 rfl (Nat.le_of_ble_eq_true rfl) ((xe_13 E a) _) (Nat.le_of_ble_eq_true rfl) rfl dX1_placeOf_13 ?_
      refine lv_iload_n hx hb dX1_placeOf_16 rfl (lv_at hl 3 rfl) ?_
      obtain ⟨b2, h⟩ := xm_ck_s h
      refine xm_iald (V := (xv E a)) C hP 14 25 (Nat.le_of_ble_eq_true rfl) (xe_14 E a) b2 dX1_placeOf_17 ?_
      refine lv_iload_n hx hb dX1_placeOf_18 rfl (lv_at hl 1 rfl) ?_
      refine lv_icmp_ne (tgt := 24) hx hb dX1_placeOf_19 (by decide) (fun c3 => ?_) (fun c3 => ?_)
      · rw [if_neg c3] at h
        refine lv_iinc (v := x3 + 1) (lv' := [(3, .int (x3 + 1)), (0, .ref (a 13)), (1, .int x1), (2, .int x2)]) hx hb dX1_placeOf_24 hl (k := 3) rfl (xm_add (by decide)) (by decide) rfl (fun ls hl => ?_)
        refine lv_goto (tgt := 4) hx hb dX1_placeOf_27 (by decide) ?_
        exact ih M x1 x2 (x3 + 1) r M' h _ _ _ hP hS (lv_sub hl [1, 2, 3, 0] rfl)
      · rw [if_pos c3] at h
        refine lv_iload_n hx hb dX1_placeOf_22 rfl (lv_at hl 3 rfl) ?_
        refine lv_istore_n (lv' := [(2, .int x3), (0, .ref (a 13)), (1, .int x1), (3, .int x3)]) hx hb dX1_placeOf_23 rfl hl (by decide) rfl (fun ls hl => ?_)
        refine lv_iinc (v := x3 + 1) (lv' := [(3, .int (x3 + 1)), (2, .int x3), (0, .ref (a 13)), (1, .int x1)]) hx hb dX1_placeOf_24 hl (k := 3) rfl (xm_add (by decide)) (by decide) rfl (fun ls hl => ?_)
        refine lv_goto (tgt := 4) hx hb dX1_placeOf_27 (by decide) ?_
        exact ih M x1 x3 (x3 + 1) r M' h _ _ _ hP hS (lv_sub hl [2, 3, 1, 0] rfl)
def f_X1_placeOf (n : Nat) (M : xm_M) (x1 : Int32) : Option (Int32 × xm_M) := f_X1_placeOf_4 n M x1 0 0
set_option maxHeartbeats 4000000 in
set_option maxRecDepth 100000 in
theorem t_X1_placeOf_0 {l : Launch} {p : Program} {e : Env} {s : State} {m : MethodId} {args : Array Value} {below : List Frame} {meth : Method} {c : Code} {E : xm_E} {a : Nat → Nat} (C : xm_C E (xv E a) p s m args meth c RX1 cX1_placeOf 4 (some .int)) (n : Nat) (M : xm_M) (x1 : Int32) (r : Int32) (M' : xm_M) : f_X1_placeOf n M x1 = some (r, M') → ∀ (H : Heap) (locs : List Loc) (ls : Array Slot), va_P E.1 vwCl (xm_w (xv E a) M) H → va_S (xm_A (xv E a) s.heap.size) s.heap H locs → lv_has ls 4 [(0, .ref (a 13)), (1, .int x1)] → W p l e { frames := 0, cells := 0, slots := 0, locals := 0 } s m args below meth c H locs 0 0 (MQ below (xm_Q E (xv E a) M' s.heap.size (some r)) args s 0 0 (xm_A (xv E a) s.heap.size)) (F0 m 0 ls []) := by
  have C9 := C
  obtain ⟨hx, hb, hml, hown, hts, hr, hlk, hD, hK, hS9⟩ := C9
  intro h H locs ls hP hS hl
  unfold f_X1_placeOf at h
  refine lv_iconst (v := 0) hx hb dX1_placeOf_0 (by decide) ?_
  refine lv_istore_n (lv' := [(2, .int 0), (0, .ref (a 13)), (1, .int x1)]) hx hb dX1_placeOf_1 rfl hl (by decide) rfl (fun ls hl => ?_)
  refine lv_iconst (v := 0) hx hb dX1_placeOf_2 (by decide) ?_
  refine lv_istore_n (lv' := [(3, .int 0), (2, .int 0), (0, .ref (a 13)), (1, .int x1)]) hx hb dX1_placeOf_3 rfl hl (by decide) rfl (fun ls hl => ?_)
  exact t_X1_placeOf_4 C  n M x1 0 0 r M' h _ _ _ hP hS (lv_sub hl [2, 3, 1, 0] rfl)
theorem c_X1_placeOf {l : Launch} {E : xm_E} {a : Nat → Nat} (hD : xm_D (xv E a)) (n : Nat) (M : xm_M) (x1 : Int32) (r : Int32) (M' : xm_M) (h : f_X1_placeOf n M x1 = some (r, M')) : xm_Met l E (xv E a) yX1_placeOf cX1_placeOf 4 (some .int) 0 0 [.ref (a 13), .int x1] M M' (some r) :=
  xm_met (by decide +kernel) rfl (Nat.le_of_ble_eq_true rfl) hD (fun p e s m below meth c C hP ls hl => t_X1_placeOf_0 C  n M x1 r M' h _ _ _ hP va_S.rf hl)
def f_X3_begin_37 : Nat → xm_M → Int32 → Option xm_M
  | 0, _, _ => none
  | n + 1, M, x2 => if (25 : Int32) ≤ x2 then some M else xm_ck (xm_in x2 25) (xm_lt (xm_up M 12 x2.toNatClampNeg 0) (fun M3 => f_X3_begin_37 n M3 (x2 + 1)))
set_option maxHeartbeats 4000000 in
set_option maxRecDepth 100000 in
theorem t_X3_begin_37 {l : Launch} {p : Program} {e : Env} {s : State} {m : MethodId} {args : Array Value} {below : List Frame} {meth : Method} {c : Code} {E : xm_E} {a : Nat → Nat} (C : xm_C E (xv E a) p s m args meth c RX3 cX3_begin 3 none) : ∀ (n : Nat) (M : xm_M) (x2 : Int32) (M' : xm_M), f_X3_begin_37 n M x2 = some M' → ∀ (H : Heap) (locs : List Loc) (ls : Array Slot), va_P E.1 vwCl (xm_w (xv E a) M) H → va_S (xm_A (xv E a) s.heap.size) s.heap H locs → lv_has ls 3 [(0, .ref (a 8)), (2, .int x2)] → W p l e { frames := 3, cells := 0, slots := 0, locals := 72 } s m args below meth c H locs 0 0 (MQ below (xm_Q E (xv E a) M' s.heap.size none) args s 0 0 (xm_A (xv E a) s.heap.size)) (F0 m 37 ls []) := by
  have C9 := C
  obtain ⟨hx, hb, hml, hown, hts, hr, hlk, hD, hK, hS9⟩ := C9
  intro n
  induction n with
  | zero =>
    intro M x2 M' h
    cases h
  | succ n ih =>
    intro M x2 M' h H locs ls hP hS hl
    rw [f_X3_begin_37] at h
    refine lv_iload_n hx hb dX3_begin_37 rfl (lv_at hl 1 rfl) ?_
    refine lv_bipush (v := 25) hx hb dX3_begin_38 (by decide) ?_
    refine lv_icmp_ge (tgt := 56) hx hb dX3_begin_40 (by decide) (fun c1 => ?_) (fun c1 => ?_)
    · rw [if_pos c1] at h
      cases xm_on h
      exact xm_retV C hP hS dX3_begin_56
    · rw [if_neg c1] at h
      refine lv_aload_n hx hb dX3_begin_43 rfl (lv_at hl 0 rfl) ?_
      refine xm_get (V := (xv E a)) (T := TX3) (v := .ref (a 12)) C hP 8 15 xi_3 rfl l_X3_63 rfl (Nat.le_of_ble_eq_true rfl) ((xe_8 E a) _) (Nat.le_of_ble_eq_true rfl) rfl dX3_begin_44 ?_
      refine lv_iload_n hx hb dX3_begin_47 rfl (lv_at hl 1 rfl) ?_
      refine lv_iconst (v := 0) hx hb dX3_begin_48 (by decide) ?_
      obtain ⟨b2, h⟩ := xm_ck_s h
      obtain ⟨M3, e4, h⟩ := xm_lt_s h
      refine xm_iast (V := (xv E a)) C hP hS 12 25 (Nat.le_of_ble_eq_true rfl) (xe_12 E a) b2 dX3_begin_49 (fun H locs hP hS => ?_)
      rw [← e4] at hP
      refine lv_iinc (v := x2 + 1) (lv' := [(2, .int (x2 + 1)), (0, .ref (a 8))]) hx hb dX3_begin_50 hl (k := 1) rfl (xm_add (by decide)) (by decide) rfl (fun ls hl => ?_)
      refine lv_goto (tgt := 37) hx hb dX3_begin_53 (by decide) ?_
      exact ih M3 (x2 + 1) M' h _ _ _ hP hS (lv_sub hl [1, 0] rfl)
def f_X3_begin (n : Nat) (M : xm_M) (o1 : Nat) : Option xm_M := xm_b1 (f_X1_fillFrom n M o1) (fun M1 => xm_lt (xm_up M1 8 1 (M1 o1 4)) (fun M4 => xm_b2 (f_X4_watermark n M4 o1) (fun r7 M6 => xm_lt (xm_up M6 8 2 r7) (fun M9 => xm_lt (xm_up M9 8 3 ((-1))) (fun M11 => xm_lt (xm_up M11 8 5 ((-5))) (fun M13 => f_X3_begin_37 n M13 0))))))
set_option maxHeartbeats 4000000 in
set_option maxRecDepth 100000 in
theorem t_X3_begin_0 {l : Launch} {p : Program} {e : Env} {s : State} {m : MethodId} {args : Array Value} {below : List Frame} {meth : Method} {c : Code} {E : xm_E} {a : Nat → Nat} (C : xm_C E (xv E a) p s m args meth c RX3 cX3_begin 3 none) {o1 : Nat} (h1 : xm_St o1) (n : Nat) (M : xm_M) (M' : xm_M) : f_X3_begin n M o1 = some M' → ∀ (H : Heap) (locs : List Loc) (ls : Array Slot), va_P E.1 vwCl (xm_w (xv E a) M) H → va_S (xm_A (xv E a) s.heap.size) s.heap H locs → lv_has ls 3 [(0, .ref (a 8)), (1, .ref (a o1))] → W p l e { frames := 3, cells := 0, slots := 0, locals := 72 } s m args below meth c H locs 0 0 (MQ below (xm_Q E (xv E a) M' s.heap.size none) args s 0 0 (xm_A (xv E a) s.heap.size)) (F0 m 0 ls []) := by
  have C9 := C
  obtain ⟨hx, hb, hml, hown, hts, hr, hlk, hD, hK, hS9⟩ := C9
  intro h H locs ls hP hS hl
  unfold f_X3_begin at h
  refine lv_aload_n hx hb dX3_begin_0 rfl (lv_at hl 0 rfl) ?_
  refine xm_get (V := (xv E a)) (T := TX3) (v := .ref (a 13)) C hP 8 0 xi_3 rfl l_X3_12 rfl (Nat.le_of_ble_eq_true rfl) ((xe_8 E a) _) (Nat.le_of_ble_eq_true rfl) rfl dX3_begin_1 ?_
  refine lv_aload_n hx hb dX3_begin_4 rfl (lv_at hl 1 rfl) ?_
  obtain ⟨M1, e3, h⟩ := xm_b1_s h
  refine xm_callVN C hP hS [.ref (a o1)] [] (c_X1_fillFrom hD h1 n M  M1 e3) k_X3_66 (xm_recv C hP 13 rfl (Nat.le_of_ble_eq_true rfl) ((xe_13 E a) _)) rfl rfl ⟨(Nat.le_of_ble_eq_true rfl), (Nat.le_of_ble_eq_true rfl)⟩ hl.1 (Nat.le_of_ble_eq_true rfl) ⟨Nat.zero_le _, Nat.zero_le _⟩ dX3_begin_5 (fun H locs hP hS => ?_)
  change W p l e _ s m _ below meth c H locs 0 0 _ (F0 m 8 ls [])
  refine lv_aload_n hx hb dX3_begin_8 rfl (lv_at hl 0 rfl) ?_
  refine lv_aload_n hx hb dX3_begin_9 rfl (lv_at hl 1 rfl) ?_
  refine xm_getN (V := (xv E a)) (T := TX4) (v := .int (M1 o1 4)) C hP o1 4 xi_4 rfl l_X3_70 rfl (xs_lt h1 0 (by omega)) ((xs_0 h1 E a) _) (Nat.le_of_ble_eq_true rfl) rfl dX3_begin_10 ?_
  obtain ⟨M4, e5, h⟩ := xm_lt_s h
  refine xm_put (V := (xv E a)) (T := TX3) (ty := .int) (x := M1 o1 4) C hP hS 8 1 xi_3 rfl l_X3_18 rfl tyX3_ok nmX3 (Nat.le_of_ble_eq_true rfl) ((xe_8 E a) _) (Nat.le_of_ble_eq_true rfl) rfl (by decide +kernel) rfl rfl (Nat.le_of_ble_eq_true rfl) ((xe_8 E a) _) dX3_begin_13 (fun H locs hP hS => ?_)
  rw [← e5] at hP
  refine lv_aload_n hx hb dX3_begin_16 rfl (lv_at hl 0 rfl) ?_
  refine lv_aload_n hx hb dX3_begin_17 rfl (lv_at hl 1 rfl) ?_
  obtain ⟨r7, M6, e8, h⟩ := xm_b2_s h
  refine xm_callVN C hP hS [] [.ref (a 8)] (c_X4_watermark hD h1 n M4  r7 M6 e8) k_X3_73 (xm_recv C hP o1 rfl (xs_lt h1 0 (by omega)) ((xs_0 h1 E a) _)) rfl rfl ⟨(Nat.le_of_ble_eq_true rfl), (Nat.le_of_ble_eq_true rfl)⟩ hl.1 (Nat.le_of_ble_eq_true rfl) ⟨Nat.zero_le _, Nat.zero_le _⟩ dX3_begin_18 (fun H locs hP hS => ?_)
  change W p l e _ s m _ below meth c H locs 0 0 _ (F0 m 21 ls [.int r7, .ref (a 8)])
  obtain ⟨M9, e10, h⟩ := xm_lt_s h
  refine xm_put (V := (xv E a)) (T := TX3) (ty := .int) (x := r7) C hP hS 8 2 xi_3 rfl l_X3_22 rfl tyX3_ok nmX3 (Nat.le_of_ble_eq_true rfl) ((xe_8 E a) _) (Nat.le_of_ble_eq_true rfl) rfl (by decide +kernel) rfl rfl (Nat.le_of_ble_eq_true rfl) ((xe_8 E a) _) dX3_begin_21 (fun H locs hP hS => ?_)
  rw [← e10] at hP
  refine lv_aload_n hx hb dX3_begin_24 rfl (lv_at hl 0 rfl) ?_
  refine lv_iconst (v := (-1)) hx hb dX3_begin_25 (by decide) ?_
  obtain ⟨M11, e12, h⟩ := xm_lt_s h
  refine xm_put (V := (xv E a)) (T := TX3) (ty := .int) (x := (-1)) C hP hS 8 3 xi_3 rfl l_X3_25 rfl tyX3_ok nmX3 (Nat.le_of_ble_eq_true rfl) ((xe_8 E a) _) (Nat.le_of_ble_eq_true rfl) rfl (by decide +kernel) rfl rfl (Nat.le_of_ble_eq_true rfl) ((xe_8 E a) _) dX3_begin_26 (fun H locs hP hS => ?_)
  rw [← e12] at hP
  refine lv_aload_n hx hb dX3_begin_29 rfl (lv_at hl 0 rfl) ?_
  refine lv_bipush (v := (-5)) hx hb dX3_begin_30 (by decide) ?_
  obtain ⟨M13, e14, h⟩ := xm_lt_s h
  refine xm_put (V := (xv E a)) (T := TX3) (ty := .int) (x := (-5)) C hP hS 8 5 xi_3 rfl l_X3_31 rfl tyX3_ok nmX3 (Nat.le_of_ble_eq_true rfl) ((xe_8 E a) _) (Nat.le_of_ble_eq_true rfl) rfl (by decide +kernel) rfl rfl (Nat.le_of_ble_eq_true rfl) ((xe_8 E a) _) dX3_begin_32 (fun H locs hP hS => ?_)
  rw [← e14] at hP
  refine lv_iconst (v := 0) hx hb dX3_begin_35 (by decide) ?_
  refine lv_istore_n (lv' := [(2, .int 0), (0, .ref (a 8)), (1, .ref (a o1))]) hx hb dX3_begin_36 rfl hl (by decide) rfl (fun ls hl => ?_)
  exact t_X3_begin_37 C  n M13 0 M' h _ _ _ hP hS (lv_sub hl [1, 0] rfl)
theorem c_X3_begin {l : Launch} {E : xm_E} {a : Nat → Nat} (hD : xm_D (xv E a)) {o1 : Nat} (h1 : xm_St o1) (n : Nat) (M : xm_M) (M' : xm_M) (h : f_X3_begin n M o1 = some M') : xm_Met l E (xv E a) yX3_begin cX3_begin 3 none 3 72 [.ref (a 8), .ref (a o1)] M M' none :=
  xm_met (by decide +kernel) rfl (Nat.le_of_ble_eq_true rfl) hD (fun p e s m below meth c C hP ls hl => t_X3_begin_0 C h1 n M M' h _ _ _ hP va_S.rf hl)
def f_X3_want (n : Nat) (M : xm_M) (x1 : Int32) (x2 : Int32) : Option xm_M := xm_lt (xm_up M 8 3 x1) (fun M1 => xm_lt (xm_up M1 8 4 x2) (fun M3 => some M3))
set_option maxHeartbeats 4000000 in
set_option maxRecDepth 100000 in
theorem t_X3_want_0 {l : Launch} {p : Program} {e : Env} {s : State} {m : MethodId} {args : Array Value} {below : List Frame} {meth : Method} {c : Code} {E : xm_E} {a : Nat → Nat} (C : xm_C E (xv E a) p s m args meth c RX3 cX3_want 3 none) (n : Nat) (M : xm_M) (x1 : Int32) (x2 : Int32) (M' : xm_M) : f_X3_want n M x1 x2 = some M' → ∀ (H : Heap) (locs : List Loc) (ls : Array Slot), va_P E.1 vwCl (xm_w (xv E a) M) H → va_S (xm_A (xv E a) s.heap.size) s.heap H locs → lv_has ls 3 [(0, .ref (a 8)), (1, .int x1), (2, .int x2)] → W p l e { frames := 0, cells := 0, slots := 0, locals := 0 } s m args below meth c H locs 0 0 (MQ below (xm_Q E (xv E a) M' s.heap.size none) args s 0 0 (xm_A (xv E a) s.heap.size)) (F0 m 0 ls []) := by
  have C9 := C
  obtain ⟨hx, hb, hml, hown, hts, hr, hlk, hD, hK, hS9⟩ := C9
  intro h H locs ls hP hS hl
  unfold f_X3_want at h
  refine lv_aload_n hx hb dX3_want_0 rfl (lv_at hl 0 rfl) ?_
  refine lv_iload_n hx hb dX3_want_1 rfl (lv_at hl 1 rfl) ?_
  obtain ⟨M1, e2, h⟩ := xm_lt_s h
  refine xm_put (V := (xv E a)) (T := TX3) (ty := .int) (x := x1) C hP hS 8 3 xi_3 rfl l_X3_25 rfl tyX3_ok nmX3 (Nat.le_of_ble_eq_true rfl) ((xe_8 E a) _) (Nat.le_of_ble_eq_true rfl) rfl (by decide +kernel) rfl rfl (Nat.le_of_ble_eq_true rfl) ((xe_8 E a) _) dX3_want_2 (fun H locs hP hS => ?_)
  rw [← e2] at hP
  refine lv_aload_n hx hb dX3_want_5 rfl (lv_at hl 0 rfl) ?_
  refine lv_iload_n hx hb dX3_want_6 rfl (lv_at hl 2 rfl) ?_
  obtain ⟨M3, e4, h⟩ := xm_lt_s h
  refine xm_put (V := (xv E a)) (T := TX3) (ty := .int) (x := x2) C hP hS 8 4 xi_3 rfl l_X3_28 rfl tyX3_ok nmX3 (Nat.le_of_ble_eq_true rfl) ((xe_8 E a) _) (Nat.le_of_ble_eq_true rfl) rfl (by decide +kernel) rfl rfl (Nat.le_of_ble_eq_true rfl) ((xe_8 E a) _) dX3_want_7 (fun H locs hP hS => ?_)
  rw [← e4] at hP
  cases xm_on h
  exact xm_retV C hP hS dX3_want_10
theorem c_X3_want {l : Launch} {E : xm_E} {a : Nat → Nat} (hD : xm_D (xv E a)) (n : Nat) (M : xm_M) (x1 : Int32) (x2 : Int32) (M' : xm_M) (h : f_X3_want n M x1 x2 = some M') : xm_Met l E (xv E a) yX3_want cX3_want 3 none 0 0 [.ref (a 8), .int x1, .int x2] M M' none :=
  xm_met (by decide +kernel) rfl (Nat.le_of_ble_eq_true rfl) hD (fun p e s m below meth c C hP ls hl => t_X3_want_0 C  n M x1 x2 M' h _ _ _ hP va_S.rf hl)
def f_X3_takePlainSteps_9 : Nat → xm_M → Nat → Int32 → Int32 → Option xm_M
  | 0, _, _, _, _ => none
  | n + 1, M, o1, x2, x3 => if (M o1 2) ≤ x3 then some M else xm_ck (xm_in x3 8) (if (M (o1 + 2) x3.toNatClampNeg) = 0 then if (4 : Int32) ≤ (M 8 8) then f_X3_takePlainSteps_9 n M o1 x2 (x3 + 1) else xm_ck (xm_in x3 8) (xm_ck (xm_in (M 8 8) 4) (xm_lt (xm_up M 9 (M 8 8).toNatClampNeg (vp_nar .char (M (o1 + 1) x3.toNatClampNeg))) (fun M7 => xm_ck (xm_in (M7 8 8) 4) (xm_lt (xm_up M7 10 (M7 8 8).toNatClampNeg (vp_nar .char x2)) (fun M10 => xm_lt (xm_up M10 8 8 ((M10 8 8) + 1)) (fun M12 => f_X3_takePlainSteps_9 n M12 o1 0 (x3 + 1))))))) else xm_ck (xm_in x3 8) (f_X3_takePlainSteps_9 n M o1 (M (o1 + 1) x3.toNatClampNeg) (x3 + 1)))
set_option maxHeartbeats 4000000 in
set_option maxRecDepth 100000 in
theorem t_X3_takePlainSteps_9 {l : Launch} {p : Program} {e : Env} {s : State} {m : MethodId} {args : Array Value} {below : List Frame} {meth : Method} {c : Code} {E : xm_E} {a : Nat → Nat} (C : xm_C E (xv E a) p s m args meth c RX3 cX3_takePlainSteps 4 none) {o1 : Nat} (h1 : xm_Pa o1) : ∀ (n : Nat) (M : xm_M) (x2 : Int32) (x3 : Int32) (M' : xm_M), f_X3_takePlainSteps_9 n M o1 x2 x3 = some M' → ∀ (H : Heap) (locs : List Loc) (ls : Array Slot), va_P E.1 vwCl (xm_w (xv E a) M) H → va_S (xm_A (xv E a) s.heap.size) s.heap H locs → lv_has ls 4 [(0, .ref (a 8)), (1, .ref (a o1)), (2, .int x2), (3, .int x3)] → W p l e { frames := 0, cells := 0, slots := 0, locals := 0 } s m args below meth c H locs 0 0 (MQ below (xm_Q E (xv E a) M' s.heap.size none) args s 0 0 (xm_A (xv E a) s.heap.size)) (F0 m 9 ls []) := by
  have C9 := C
  obtain ⟨hx, hb, hml, hown, hts, hr, hlk, hD, hK, hS9⟩ := C9
  intro n
  induction n with
  | zero =>
    intro M x2 x3 M' h
    cases h
  | succ n ih =>
    intro M x2 x3 M' h H locs ls hP hS hl
    rw [f_X3_takePlainSteps_9] at h
    refine lv_iload_n hx hb dX3_takePlainSteps_9 rfl (lv_at hl 3 rfl) ?_
    refine lv_aload_n hx hb dX3_takePlainSteps_10 rfl (lv_at hl 1 rfl) ?_
    refine xm_getN (V := (xv E a)) (T := TX2) (v := .int (M o1 2)) C hP o1 2 xi_2 rfl l_X3_98 rfl (xp_lt h1 0 (by omega)) ((xp_0 h1 E a) _) (Nat.le_of_ble_eq_true rfl) rfl dX3_takePlainSteps_11 ?_
    refine lv_icmp_ge (tgt := 87) hx hb dX3_takePlainSteps_14 (by decide) (fun c1 => ?_) (fun c1 => ?_)
    · rw [if_pos c1] at h
      cases xm_on h
      exact xm_retV C hP hS dX3_takePlainSteps_87
    · rw [if_neg c1] at h
      refine lv_aload_n hx hb dX3_takePlainSteps_17 rfl (lv_at hl 1 rfl) ?_
      refine xm_getN (V := (xv E a)) (T := TX2) (v := .ref (a (o1 + 2))) C hP o1 5 xi_2 rfl l_X3_101 rfl (xp_lt h1 0 (by omega)) ((xp_0 h1 E a) _) (Nat.le_of_ble_eq_true rfl) rfl dX3_takePlainSteps_18 ?_
      refine lv_iload_n hx hb dX3_takePlainSteps_21 rfl (lv_at hl 3 rfl) ?_
      obtain ⟨b2, h⟩ := xm_ck_s h
      refine xm_zald (V := (xv E a)) C hP (o1 + 2) 8 (xp_lt h1 2 (by omega)) (xp_2 h1 E a) b2 dX3_takePlainSteps_22 ?_
      refine lv_if_eq (tgt := 36) hx hb dX3_takePlainSteps_23 (by decide) (fun c3 => ?_) (fun c3 => ?_)
      · rw [if_pos c3] at h
        refine lv_aload_n hx hb dX3_takePlainSteps_36 rfl (lv_at hl 0 rfl) ?_
        refine xm_get (V := (xv E a)) (T := TX3) (v := .int (M 8 8)) C hP 8 8 xi_3 rfl l_X3_40 rfl (Nat.le_of_ble_eq_true rfl) ((xe_8 E a) _) (Nat.le_of_ble_eq_true rfl) rfl dX3_takePlainSteps_37 ?_
        refine lv_iconst (v := 4) hx hb dX3_takePlainSteps_40 (by decide) ?_
        refine lv_icmp_ge (tgt := 81) hx hb dX3_takePlainSteps_41 (by decide) (fun c4 => ?_) (fun c4 => ?_)
        · rw [if_pos c4] at h
          refine lv_iinc (v := x3 + 1) (lv' := [(3, .int (x3 + 1)), (0, .ref (a 8)), (1, .ref (a o1)), (2, .int x2)]) hx hb dX3_takePlainSteps_81 hl (k := 3) rfl (xm_add (by decide)) (by decide) rfl (fun ls hl => ?_)
          refine lv_goto (tgt := 9) hx hb dX3_takePlainSteps_84 (by decide) ?_
          exact ih M x2 (x3 + 1) M' h _ _ _ hP hS (lv_sub hl [1, 2, 3, 0] rfl)
        · rw [if_neg c4] at h
          refine lv_aload_n hx hb dX3_takePlainSteps_44 rfl (lv_at hl 0 rfl) ?_
          refine xm_get (V := (xv E a)) (T := TX3) (v := .ref (a 9)) C hP 8 9 xi_3 rfl l_X3_43 rfl (Nat.le_of_ble_eq_true rfl) ((xe_8 E a) _) (Nat.le_of_ble_eq_true rfl) rfl dX3_takePlainSteps_45 ?_
          refine lv_aload_n hx hb dX3_takePlainSteps_48 rfl (lv_at hl 0 rfl) ?_
          refine xm_get (V := (xv E a)) (T := TX3) (v := .int (M 8 8)) C hP 8 8 xi_3 rfl l_X3_40 rfl (Nat.le_of_ble_eq_true rfl) ((xe_8 E a) _) (Nat.le_of_ble_eq_true rfl) rfl dX3_takePlainSteps_49 ?_
          refine lv_aload_n hx hb dX3_takePlainSteps_52 rfl (lv_at hl 1 rfl) ?_
          refine xm_getN (V := (xv E a)) (T := TX2) (v := .ref (a (o1 + 1))) C hP o1 4 xi_2 rfl l_X3_105 rfl (xp_lt h1 0 (by omega)) ((xp_0 h1 E a) _) (Nat.le_of_ble_eq_true rfl) rfl dX3_takePlainSteps_53 ?_
          refine lv_iload_n hx hb dX3_takePlainSteps_56 rfl (lv_at hl 3 rfl) ?_
          obtain ⟨b5, h⟩ := xm_ck_s h
          refine xm_cald (V := (xv E a)) C hP (o1 + 1) 8 (xp_lt h1 1 (by omega)) (xp_1 h1 E a) b5 dX3_takePlainSteps_57 ?_
          obtain ⟨b6, h⟩ := xm_ck_s h
          obtain ⟨M7, e8, h⟩ := xm_lt_s h
          refine xm_cast (V := (xv E a)) C hP hS 9 4 (Nat.le_of_ble_eq_true rfl) (xe_9 E a) b6 dX3_takePlainSteps_58 (fun H locs hP hS => ?_)
          rw [← e8] at hP
          refine lv_aload_n hx hb dX3_takePlainSteps_59 rfl (lv_at hl 0 rfl) ?_
          refine xm_get (V := (xv E a)) (T := TX3) (v := .ref (a 10)) C hP 8 10 xi_3 rfl l_X3_47 rfl (Nat.le_of_ble_eq_true rfl) ((xe_8 E a) _) (Nat.le_of_ble_eq_true rfl) rfl dX3_takePlainSteps_60 ?_
          refine lv_aload_n hx hb dX3_takePlainSteps_63 rfl (lv_at hl 0 rfl) ?_
          refine xm_get (V := (xv E a)) (T := TX3) (v := .int (M7 8 8)) C hP 8 8 xi_3 rfl l_X3_40 rfl (Nat.le_of_ble_eq_true rfl) ((xe_8 E a) _) (Nat.le_of_ble_eq_true rfl) rfl dX3_takePlainSteps_64 ?_
          refine lv_iload_n hx hb dX3_takePlainSteps_67 rfl (lv_at hl 2 rfl) ?_
          obtain ⟨b9, h⟩ := xm_ck_s h
          obtain ⟨M10, e11, h⟩ := xm_lt_s h
          refine xm_cast (V := (xv E a)) C hP hS 10 4 (Nat.le_of_ble_eq_true rfl) (xe_10 E a) b9 dX3_takePlainSteps_68 (fun H locs hP hS => ?_)
          rw [← e11] at hP
          refine lv_aload_n hx hb dX3_takePlainSteps_69 rfl (lv_at hl 0 rfl) ?_
          refine lv_dup hx hb dX3_takePlainSteps_70 rfl ?_
          refine xm_get (V := (xv E a)) (T := TX3) (v := .int (M10 8 8)) C hP 8 8 xi_3 rfl l_X3_40 rfl (Nat.le_of_ble_eq_true rfl) ((xe_8 E a) _) (Nat.le_of_ble_eq_true rfl) rfl dX3_takePlainSteps_71 ?_
          refine lv_iconst (v := 1) hx hb dX3_takePlainSteps_74 (by decide) ?_
          refine lv_iadd hx hb dX3_takePlainSteps_75 ?_
          obtain ⟨M12, e13, h⟩ := xm_lt_s h
          refine xm_put (V := (xv E a)) (T := TX3) (ty := .int) (x := (M10 8 8) + 1) C hP hS 8 8 xi_3 rfl l_X3_40 rfl tyX3_ok nmX3 (Nat.le_of_ble_eq_true rfl) ((xe_8 E a) _) (Nat.le_of_ble_eq_true rfl) rfl (by decide +kernel) rfl rfl (Nat.le_of_ble_eq_true rfl) ((xe_8 E a) _) dX3_takePlainSteps_76 (fun H locs hP hS => ?_)
          rw [← e13] at hP
          refine lv_iconst (v := 0) hx hb dX3_takePlainSteps_79 (by decide) ?_
          refine lv_istore_n (lv' := [(2, .int 0), (0, .ref (a 8)), (1, .ref (a o1)), (3, .int x3)]) hx hb dX3_takePlainSteps_80 rfl hl (by decide) rfl (fun ls hl => ?_)
          refine lv_iinc (v := x3 + 1) (lv' := [(3, .int (x3 + 1)), (2, .int 0), (0, .ref (a 8)), (1, .ref (a o1))]) hx hb dX3_takePlainSteps_81 hl (k := 3) rfl (xm_add (by decide)) (by decide) rfl (fun ls hl => ?_)
          refine lv_goto (tgt := 9) hx hb dX3_takePlainSteps_84 (by decide) ?_
          exact ih M12 0 (x3 + 1) M' h _ _ _ hP hS (lv_sub hl [2, 3, 1, 0] rfl)
      · rw [if_neg c3] at h
        refine lv_aload_n hx hb dX3_takePlainSteps_26 rfl (lv_at hl 1 rfl) ?_
        refine xm_getN (V := (xv E a)) (T := TX2) (v := .ref (a (o1 + 1))) C hP o1 4 xi_2 rfl l_X3_105 rfl (xp_lt h1 0 (by omega)) ((xp_0 h1 E a) _) (Nat.le_of_ble_eq_true rfl) rfl dX3_takePlainSteps_27 ?_
        refine lv_iload_n hx hb dX3_takePlainSteps_30 rfl (lv_at hl 3 rfl) ?_
        obtain ⟨b14, h⟩ := xm_ck_s h
        refine xm_cald (V := (xv E a)) C hP (o1 + 1) 8 (xp_lt h1 1 (by omega)) (xp_1 h1 E a) b14 dX3_takePlainSteps_31 ?_
        refine lv_istore_n (lv' := [(2, .int (M (o1 + 1) x3.toNatClampNeg)), (0, .ref (a 8)), (1, .ref (a o1)), (3, .int x3)]) hx hb dX3_takePlainSteps_32 rfl hl (by decide) rfl (fun ls hl => ?_)
        refine lv_goto (tgt := 81) hx hb dX3_takePlainSteps_33 (by decide) ?_
        refine lv_iinc (v := x3 + 1) (lv' := [(3, .int (x3 + 1)), (2, .int (M (o1 + 1) x3.toNatClampNeg)), (0, .ref (a 8)), (1, .ref (a o1))]) hx hb dX3_takePlainSteps_81 hl (k := 3) rfl (xm_add (by decide)) (by decide) rfl (fun ls hl => ?_)
        refine lv_goto (tgt := 9) hx hb dX3_takePlainSteps_84 (by decide) ?_
        exact ih M (M (o1 + 1) x3.toNatClampNeg) (x3 + 1) M' h _ _ _ hP hS (lv_sub hl [2, 3, 1, 0] rfl)
def f_X3_takePlainSteps (n : Nat) (M : xm_M) (o1 : Nat) : Option xm_M := xm_lt (xm_up M 8 8 0) (fun M1 => f_X3_takePlainSteps_9 n M1 o1 0 0)
set_option maxHeartbeats 4000000 in
set_option maxRecDepth 100000 in
theorem t_X3_takePlainSteps_0 {l : Launch} {p : Program} {e : Env} {s : State} {m : MethodId} {args : Array Value} {below : List Frame} {meth : Method} {c : Code} {E : xm_E} {a : Nat → Nat} (C : xm_C E (xv E a) p s m args meth c RX3 cX3_takePlainSteps 4 none) {o1 : Nat} (h1 : xm_Pa o1) (n : Nat) (M : xm_M) (M' : xm_M) : f_X3_takePlainSteps n M o1 = some M' → ∀ (H : Heap) (locs : List Loc) (ls : Array Slot), va_P E.1 vwCl (xm_w (xv E a) M) H → va_S (xm_A (xv E a) s.heap.size) s.heap H locs → lv_has ls 4 [(0, .ref (a 8)), (1, .ref (a o1))] → W p l e { frames := 0, cells := 0, slots := 0, locals := 0 } s m args below meth c H locs 0 0 (MQ below (xm_Q E (xv E a) M' s.heap.size none) args s 0 0 (xm_A (xv E a) s.heap.size)) (F0 m 0 ls []) := by
  have C9 := C
  obtain ⟨hx, hb, hml, hown, hts, hr, hlk, hD, hK, hS9⟩ := C9
  intro h H locs ls hP hS hl
  unfold f_X3_takePlainSteps at h
  refine lv_aload_n hx hb dX3_takePlainSteps_0 rfl (lv_at hl 0 rfl) ?_
  refine lv_iconst (v := 0) hx hb dX3_takePlainSteps_1 (by decide) ?_
  obtain ⟨M1, e2, h⟩ := xm_lt_s h
  refine xm_put (V := (xv E a)) (T := TX3) (ty := .int) (x := 0) C hP hS 8 8 xi_3 rfl l_X3_40 rfl tyX3_ok nmX3 (Nat.le_of_ble_eq_true rfl) ((xe_8 E a) _) (Nat.le_of_ble_eq_true rfl) rfl (by decide +kernel) rfl rfl (Nat.le_of_ble_eq_true rfl) ((xe_8 E a) _) dX3_takePlainSteps_2 (fun H locs hP hS => ?_)
  rw [← e2] at hP
  refine lv_iconst (v := 0) hx hb dX3_takePlainSteps_5 (by decide) ?_
  refine lv_istore_n (lv' := [(2, .int 0), (0, .ref (a 8)), (1, .ref (a o1))]) hx hb dX3_takePlainSteps_6 rfl hl (by decide) rfl (fun ls hl => ?_)
  refine lv_iconst (v := 0) hx hb dX3_takePlainSteps_7 (by decide) ?_
  refine lv_istore_n (lv' := [(3, .int 0), (2, .int 0), (0, .ref (a 8)), (1, .ref (a o1))]) hx hb dX3_takePlainSteps_8 rfl hl (by decide) rfl (fun ls hl => ?_)
  exact t_X3_takePlainSteps_9 C h1 n M1 0 0 M' h _ _ _ hP hS (lv_sub hl [2, 3, 1, 0] rfl)
theorem c_X3_takePlainSteps {l : Launch} {E : xm_E} {a : Nat → Nat} (hD : xm_D (xv E a)) {o1 : Nat} (h1 : xm_Pa o1) (n : Nat) (M : xm_M) (M' : xm_M) (h : f_X3_takePlainSteps n M o1 = some M') : xm_Met l E (xv E a) yX3_takePlainSteps cX3_takePlainSteps 4 none 0 0 [.ref (a 8), .ref (a o1)] M M' none :=
  xm_met (by decide +kernel) rfl (Nat.le_of_ble_eq_true rfl) hD (fun p e s m below meth c C hP ls hl => t_X3_takePlainSteps_0 C h1 n M M' h _ _ _ hP va_S.rf hl)
def f_X3_isInWindow (n : Nat) (M : xm_M) (x1 : Int32) (x2 : Int32) : Option (Int32 × xm_M) := if x1 = 0 then some (1, M) else xm_ck (xm_in x2 25) (xm_ck (xm_in 0 4) (xm_ck (xm_in (M 11 (0 : Int32).toNatClampNeg) 25) (if ((M 17 (M 11 (0 : Int32).toNatClampNeg).toNatClampNeg) + (M 8 6)) < (M 17 x2.toNatClampNeg) then some (0, M) else some (1, M))))
set_option maxHeartbeats 4000000 in
set_option maxRecDepth 100000 in
theorem t_X3_isInWindow_0 {l : Launch} {p : Program} {e : Env} {s : State} {m : MethodId} {args : Array Value} {below : List Frame} {meth : Method} {c : Code} {E : xm_E} {a : Nat → Nat} (C : xm_C E (xv E a) p s m args meth c RX3 cX3_isInWindow 3 (some .boolean)) (n : Nat) (M : xm_M) (x1 : Int32) (x2 : Int32) (r : Int32) (M' : xm_M) : f_X3_isInWindow n M x1 x2 = some (r, M') → ∀ (H : Heap) (locs : List Loc) (ls : Array Slot), va_P E.1 vwCl (xm_w (xv E a) M) H → va_S (xm_A (xv E a) s.heap.size) s.heap H locs → lv_has ls 3 [(0, .ref (a 8)), (1, .int x1), (2, .int x2)] → W p l e { frames := 0, cells := 0, slots := 0, locals := 0 } s m args below meth c H locs 0 0 (MQ below (xm_Q E (xv E a) M' s.heap.size (some r)) args s 0 0 (xm_A (xv E a) s.heap.size)) (F0 m 0 ls []) := by
  have C9 := C
  obtain ⟨hx, hb, hml, hown, hts, hr, hlk, hD, hK, hS9⟩ := C9
  intro h H locs ls hP hS hl
  unfold f_X3_isInWindow at h
  refine lv_iload_n hx hb dX3_isInWindow_0 rfl (lv_at hl 1 rfl) ?_
  refine lv_if_eq (tgt := 35) hx hb dX3_isInWindow_1 (by decide) (fun c1 => ?_) (fun c1 => ?_)
  · rw [if_pos c1] at h
    refine lv_iconst (v := 1) hx hb dX3_isInWindow_35 (by decide) ?_
    refine lv_goto (tgt := 40) hx hb dX3_isInWindow_36 (by decide) ?_
    obtain ⟨rfl, rfl⟩ := xm_pr h
    exact xm_retZ C hP hS (by rfl) dX3_isInWindow_40
  · rw [if_neg c1] at h
    refine lv_aload_n hx hb dX3_isInWindow_4 rfl (lv_at hl 0 rfl) ?_
    refine xm_get (V := (xv E a)) (T := TX3) (v := .ref (a 13)) C hP 8 0 xi_3 rfl l_X3_12 rfl (Nat.le_of_ble_eq_true rfl) ((xe_8 E a) _) (Nat.le_of_ble_eq_true rfl) rfl dX3_isInWindow_5 ?_
    refine xm_getN (V := (xv E a)) (T := TX1) (v := .ref (a 17)) C hP 13 4 xi_1 rfl l_X3_124 rfl (Nat.le_of_ble_eq_true rfl) ((xe_13 E a) _) (Nat.le_of_ble_eq_true rfl) rfl dX3_isInWindow_8 ?_
    refine lv_iload_n hx hb dX3_isInWindow_11 rfl (lv_at hl 2 rfl) ?_
    obtain ⟨b2, h⟩ := xm_ck_s h
    refine xm_iald (V := (xv E a)) C hP 17 25 (Nat.le_of_ble_eq_true rfl) (xe_17 E a) b2 dX3_isInWindow_12 ?_
    refine lv_aload_n hx hb dX3_isInWindow_13 rfl (lv_at hl 0 rfl) ?_
    refine xm_get (V := (xv E a)) (T := TX3) (v := .ref (a 13)) C hP 8 0 xi_3 rfl l_X3_12 rfl (Nat.le_of_ble_eq_true rfl) ((xe_8 E a) _) (Nat.le_of_ble_eq_true rfl) rfl dX3_isInWindow_14 ?_
    refine xm_getN (V := (xv E a)) (T := TX1) (v := .ref (a 17)) C hP 13 4 xi_1 rfl l_X3_124 rfl (Nat.le_of_ble_eq_true rfl) ((xe_13 E a) _) (Nat.le_of_ble_eq_true rfl) rfl dX3_isInWindow_17 ?_
    refine lv_aload_n hx hb dX3_isInWindow_20 rfl (lv_at hl 0 rfl) ?_
    refine xm_get (V := (xv E a)) (T := TX3) (v := .ref (a 11)) C hP 8 11 xi_3 rfl l_X3_50 rfl (Nat.le_of_ble_eq_true rfl) ((xe_8 E a) _) (Nat.le_of_ble_eq_true rfl) rfl dX3_isInWindow_21 ?_
    refine lv_iconst (v := 0) hx hb dX3_isInWindow_24 (by decide) ?_
    obtain ⟨b3, h⟩ := xm_ck_s h
    refine xm_iald (V := (xv E a)) C hP 11 4 (Nat.le_of_ble_eq_true rfl) (xe_11 E a) b3 dX3_isInWindow_25 ?_
    obtain ⟨b4, h⟩ := xm_ck_s h
    refine xm_iald (V := (xv E a)) C hP 17 25 (Nat.le_of_ble_eq_true rfl) (xe_17 E a) b4 dX3_isInWindow_26 ?_
    refine lv_aload_n hx hb dX3_isInWindow_27 rfl (lv_at hl 0 rfl) ?_
    refine xm_get (V := (xv E a)) (T := TX3) (v := .int (M 8 6)) C hP 8 6 xi_3 rfl l_X3_34 rfl (Nat.le_of_ble_eq_true rfl) ((xe_8 E a) _) (Nat.le_of_ble_eq_true rfl) rfl dX3_isInWindow_28 ?_
    refine lv_iadd hx hb dX3_isInWindow_31 ?_
    refine lv_icmp_gt (tgt := 39) hx hb dX3_isInWindow_32 (by decide) (fun c5 => ?_) (fun c5 => ?_)
    · rw [if_pos c5] at h
      refine lv_iconst (v := 0) hx hb dX3_isInWindow_39 (by decide) ?_
      obtain ⟨rfl, rfl⟩ := xm_pr h
      exact xm_retZ C hP hS (by rfl) dX3_isInWindow_40
    · rw [if_neg c5] at h
      refine lv_iconst (v := 1) hx hb dX3_isInWindow_35 (by decide) ?_
      refine lv_goto (tgt := 40) hx hb dX3_isInWindow_36 (by decide) ?_
      obtain ⟨rfl, rfl⟩ := xm_pr h
      exact xm_retZ C hP hS (by rfl) dX3_isInWindow_40
theorem c_X3_isInWindow {l : Launch} {E : xm_E} {a : Nat → Nat} (hD : xm_D (xv E a)) (n : Nat) (M : xm_M) (x1 : Int32) (x2 : Int32) (r : Int32) (M' : xm_M) (h : f_X3_isInWindow n M x1 x2 = some (r, M')) : xm_Met l E (xv E a) yX3_isInWindow cX3_isInWindow 3 (some .boolean) 0 0 [.ref (a 8), .int x1, .int x2] M M' (some r) :=
  xm_met (by decide +kernel) rfl (Nat.le_of_ble_eq_true rfl) hD (fun p e s m below meth c C hP ls hl => t_X3_isInWindow_0 C  n M x1 x2 r M' h _ _ _ hP va_S.rf hl)
def f_X3_suits (n : Nat) (M : xm_M) (x1 : Int32) (x2 : Int32) : Option (Int32 × xm_M) := xm_ck (xm_in x2 25) (xm_ck (xm_in x1 4) (if (M 15 x2.toNatClampNeg) = (M 9 x1.toNatClampNeg) then if x1 = 0 then some (1, M) else if (M 8 7) = 0 then some (1, M) else xm_ck (xm_in (x1 - 1) 4) (xm_ck (xm_in (M 11 (x1 - 1).toNatClampNeg) 25) (if (M 8 7) = 1 then xm_ck (xm_in x2 25) (if (M 16 x2.toNatClampNeg) ≤ (M 16 (M 11 (x1 - 1).toNatClampNeg).toNatClampNeg) then some (0, M) else some (1, M)) else xm_ck (xm_in x2 25) (if (M 16 x2.toNatClampNeg) = (M 16 (M 11 (x1 - 1).toNatClampNeg).toNatClampNeg) then some (1, M) else some (0, M)))) else some (0, M)))
set_option maxHeartbeats 4000000 in
set_option maxRecDepth 100000 in
theorem t_X3_suits_0 {l : Launch} {p : Program} {e : Env} {s : State} {m : MethodId} {args : Array Value} {below : List Frame} {meth : Method} {c : Code} {E : xm_E} {a : Nat → Nat} (C : xm_C E (xv E a) p s m args meth c RX3 cX3_suits 4 (some .boolean)) (n : Nat) (M : xm_M) (x1 : Int32) (x2 : Int32) (r : Int32) (M' : xm_M) : f_X3_suits n M x1 x2 = some (r, M') → ∀ (H : Heap) (locs : List Loc) (ls : Array Slot), va_P E.1 vwCl (xm_w (xv E a) M) H → va_S (xm_A (xv E a) s.heap.size) s.heap H locs → lv_has ls 4 [(0, .ref (a 8)), (1, .int x1), (2, .int x2)] → W p l e { frames := 0, cells := 0, slots := 0, locals := 0 } s m args below meth c H locs 0 0 (MQ below (xm_Q E (xv E a) M' s.heap.size (some r)) args s 0 0 (xm_A (xv E a) s.heap.size)) (F0 m 0 ls []) := by
  have C9 := C
  obtain ⟨hx, hb, hml, hown, hts, hr, hlk, hD, hK, hS9⟩ := C9
  intro h H locs ls hP hS hl
  unfold f_X3_suits at h
  refine lv_aload_n hx hb dX3_suits_0 rfl (lv_at hl 0 rfl) ?_
  refine xm_get (V := (xv E a)) (T := TX3) (v := .ref (a 13)) C hP 8 0 xi_3 rfl l_X3_12 rfl (Nat.le_of_ble_eq_true rfl) ((xe_8 E a) _) (Nat.le_of_ble_eq_true rfl) rfl dX3_suits_1 ?_
  refine xm_getN (V := (xv E a)) (T := TX1) (v := .ref (a 15)) C hP 13 2 xi_1 rfl l_X3_123 rfl (Nat.le_of_ble_eq_true rfl) ((xe_13 E a) _) (Nat.le_of_ble_eq_true rfl) rfl dX3_suits_4 ?_
  refine lv_iload_n hx hb dX3_suits_7 rfl (lv_at hl 2 rfl) ?_
  obtain ⟨b1, h⟩ := xm_ck_s h
  refine xm_cald (V := (xv E a)) C hP 15 25 (Nat.le_of_ble_eq_true rfl) (xe_15 E a) b1 dX3_suits_8 ?_
  refine lv_aload_n hx hb dX3_suits_9 rfl (lv_at hl 0 rfl) ?_
  refine xm_get (V := (xv E a)) (T := TX3) (v := .ref (a 9)) C hP 8 9 xi_3 rfl l_X3_43 rfl (Nat.le_of_ble_eq_true rfl) ((xe_8 E a) _) (Nat.le_of_ble_eq_true rfl) rfl dX3_suits_10 ?_
  refine lv_iload_n hx hb dX3_suits_13 rfl (lv_at hl 1 rfl) ?_
  obtain ⟨b2, h⟩ := xm_ck_s h
  refine xm_cald (V := (xv E a)) C hP 9 4 (Nat.le_of_ble_eq_true rfl) (xe_9 E a) b2 dX3_suits_14 ?_
  refine lv_icmp_eq (tgt := 20) hx hb dX3_suits_15 (by decide) (fun c3 => ?_) (fun c3 => ?_)
  · rw [if_pos c3] at h
    refine lv_iload_n hx hb dX3_suits_20 rfl (lv_at hl 1 rfl) ?_
    refine lv_if_eq (tgt := 31) hx hb dX3_suits_21 (by decide) (fun c4 => ?_) (fun c4 => ?_)
    · rw [if_pos c4] at h
      refine lv_iconst (v := 1) hx hb dX3_suits_31 (by decide) ?_
      obtain ⟨rfl, rfl⟩ := xm_pr h
      exact xm_retZ C hP hS (by rfl) dX3_suits_32
    · rw [if_neg c4] at h
      refine lv_aload_n hx hb dX3_suits_24 rfl (lv_at hl 0 rfl) ?_
      refine xm_get (V := (xv E a)) (T := TX3) (v := .int (M 8 7)) C hP 8 7 xi_3 rfl l_X3_37 rfl (Nat.le_of_ble_eq_true rfl) ((xe_8 E a) _) (Nat.le_of_ble_eq_true rfl) rfl dX3_suits_25 ?_
      refine lv_if_ne (tgt := 33) hx hb dX3_suits_28 (by decide) (fun c5 => ?_) (fun c5 => ?_)
      · rw [if_neg c5] at h
        refine lv_aload_n hx hb dX3_suits_33 rfl (lv_at hl 0 rfl) ?_
        refine xm_get (V := (xv E a)) (T := TX3) (v := .ref (a 13)) C hP 8 0 xi_3 rfl l_X3_12 rfl (Nat.le_of_ble_eq_true rfl) ((xe_8 E a) _) (Nat.le_of_ble_eq_true rfl) rfl dX3_suits_34 ?_
        refine xm_getN (V := (xv E a)) (T := TX1) (v := .ref (a 16)) C hP 13 3 xi_1 rfl l_X3_127 rfl (Nat.le_of_ble_eq_true rfl) ((xe_13 E a) _) (Nat.le_of_ble_eq_true rfl) rfl dX3_suits_37 ?_
        refine lv_aload_n hx hb dX3_suits_40 rfl (lv_at hl 0 rfl) ?_
        refine xm_get (V := (xv E a)) (T := TX3) (v := .ref (a 11)) C hP 8 11 xi_3 rfl l_X3_50 rfl (Nat.le_of_ble_eq_true rfl) ((xe_8 E a) _) (Nat.le_of_ble_eq_true rfl) rfl dX3_suits_41 ?_
        refine lv_iload_n hx hb dX3_suits_44 rfl (lv_at hl 1 rfl) ?_
        refine lv_iconst (v := 1) hx hb dX3_suits_45 (by decide) ?_
        refine lv_isub hx hb dX3_suits_46 ?_
        obtain ⟨b6, h⟩ := xm_ck_s h
        refine xm_iald (V := (xv E a)) C hP 11 4 (Nat.le_of_ble_eq_true rfl) (xe_11 E a) b6 dX3_suits_47 ?_
        obtain ⟨b7, h⟩ := xm_ck_s h
        refine xm_iald (V := (xv E a)) C hP 16 25 (Nat.le_of_ble_eq_true rfl) (xe_16 E a) b7 dX3_suits_48 ?_
        refine lv_istore_n (lv' := [(3, .int (M 16 (M 11 (x1 - 1).toNatClampNeg).toNatClampNeg)), (0, .ref (a 8)), (1, .int x1), (2, .int x2)]) hx hb dX3_suits_49 rfl hl (by decide) rfl (fun ls hl => ?_)
        refine lv_aload_n hx hb dX3_suits_50 rfl (lv_at hl 1 rfl) ?_
        refine xm_get (V := (xv E a)) (T := TX3) (v := .int (M 8 7)) C hP 8 7 xi_3 rfl l_X3_37 rfl (Nat.le_of_ble_eq_true rfl) ((xe_8 E a) _) (Nat.le_of_ble_eq_true rfl) rfl dX3_suits_51 ?_
        refine lv_iconst (v := 1) hx hb dX3_suits_54 (by decide) ?_
        refine lv_icmp_ne (tgt := 79) hx hb dX3_suits_55 (by decide) (fun c8 => ?_) (fun c8 => ?_)
        · rw [if_neg c8] at h
          refine lv_aload_n hx hb dX3_suits_79 rfl (lv_at hl 1 rfl) ?_
          refine xm_get (V := (xv E a)) (T := TX3) (v := .ref (a 13)) C hP 8 0 xi_3 rfl l_X3_12 rfl (Nat.le_of_ble_eq_true rfl) ((xe_8 E a) _) (Nat.le_of_ble_eq_true rfl) rfl dX3_suits_80 ?_
          refine xm_getN (V := (xv E a)) (T := TX1) (v := .ref (a 16)) C hP 13 3 xi_1 rfl l_X3_127 rfl (Nat.le_of_ble_eq_true rfl) ((xe_13 E a) _) (Nat.le_of_ble_eq_true rfl) rfl dX3_suits_83 ?_
          refine lv_iload_n hx hb dX3_suits_86 rfl (lv_at hl 3 rfl) ?_
          obtain ⟨b9, h⟩ := xm_ck_s h
          refine xm_iald (V := (xv E a)) C hP 16 25 (Nat.le_of_ble_eq_true rfl) (xe_16 E a) b9 dX3_suits_87 ?_
          refine lv_iload_n hx hb dX3_suits_88 rfl (lv_at hl 0 rfl) ?_
          refine lv_icmp_ne (tgt := 96) hx hb dX3_suits_89 (by decide) (fun c10 => ?_) (fun c10 => ?_)
          · rw [if_neg c10] at h
            refine lv_iconst (v := 0) hx hb dX3_suits_96 (by decide) ?_
            obtain ⟨rfl, rfl⟩ := xm_pr h
            exact xm_retZ C hP hS (by rfl) dX3_suits_97
          · rw [if_pos c10] at h
            refine lv_iconst (v := 1) hx hb dX3_suits_92 (by decide) ?_
            refine lv_goto (tgt := 97) hx hb dX3_suits_93 (by decide) ?_
            obtain ⟨rfl, rfl⟩ := xm_pr h
            exact xm_retZ C hP hS (by rfl) dX3_suits_97
        · rw [if_pos c8] at h
          refine lv_aload_n hx hb dX3_suits_58 rfl (lv_at hl 1 rfl) ?_
          refine xm_get (V := (xv E a)) (T := TX3) (v := .ref (a 13)) C hP 8 0 xi_3 rfl l_X3_12 rfl (Nat.le_of_ble_eq_true rfl) ((xe_8 E a) _) (Nat.le_of_ble_eq_true rfl) rfl dX3_suits_59 ?_
          refine xm_getN (V := (xv E a)) (T := TX1) (v := .ref (a 16)) C hP 13 3 xi_1 rfl l_X3_127 rfl (Nat.le_of_ble_eq_true rfl) ((xe_13 E a) _) (Nat.le_of_ble_eq_true rfl) rfl dX3_suits_62 ?_
          refine lv_iload_n hx hb dX3_suits_65 rfl (lv_at hl 3 rfl) ?_
          obtain ⟨b11, h⟩ := xm_ck_s h
          refine xm_iald (V := (xv E a)) C hP 16 25 (Nat.le_of_ble_eq_true rfl) (xe_16 E a) b11 dX3_suits_66 ?_
          refine lv_iload_n hx hb dX3_suits_67 rfl (lv_at hl 0 rfl) ?_
          refine lv_icmp_le (tgt := 75) hx hb dX3_suits_68 (by decide) (fun c12 => ?_) (fun c12 => ?_)
          · rw [if_pos c12] at h
            refine lv_iconst (v := 0) hx hb dX3_suits_75 (by decide) ?_
            refine lv_goto (tgt := 97) hx hb dX3_suits_76 (by decide) ?_
            obtain ⟨rfl, rfl⟩ := xm_pr h
            exact xm_retZ C hP hS (by rfl) dX3_suits_97
          · rw [if_neg c12] at h
            refine lv_iconst (v := 1) hx hb dX3_suits_71 (by decide) ?_
            refine lv_goto (tgt := 97) hx hb dX3_suits_72 (by decide) ?_
            obtain ⟨rfl, rfl⟩ := xm_pr h
            exact xm_retZ C hP hS (by rfl) dX3_suits_97
      · rw [if_pos c5] at h
        refine lv_iconst (v := 1) hx hb dX3_suits_31 (by decide) ?_
        obtain ⟨rfl, rfl⟩ := xm_pr h
        exact xm_retZ C hP hS (by rfl) dX3_suits_32
  · rw [if_neg c3] at h
    refine lv_iconst (v := 0) hx hb dX3_suits_18 (by decide) ?_
    obtain ⟨rfl, rfl⟩ := xm_pr h
    exact xm_retZ C hP hS (by rfl) dX3_suits_19
theorem c_X3_suits {l : Launch} {E : xm_E} {a : Nat → Nat} (hD : xm_D (xv E a)) (n : Nat) (M : xm_M) (x1 : Int32) (x2 : Int32) (r : Int32) (M' : xm_M) (h : f_X3_suits n M x1 x2 = some (r, M')) : xm_Met l E (xv E a) yX3_suits cX3_suits 4 (some .boolean) 0 0 [.ref (a 8), .int x1, .int x2] M M' (some r) :=
  xm_met (by decide +kernel) rfl (Nat.le_of_ble_eq_true rfl) hD (fun p e s m below meth c C hP ls hl => t_X3_suits_0 C  n M x1 x2 r M' h _ _ _ hP va_S.rf hl)
def f_X3_tellBranch (n : Nat) (M : xm_M) (x1 : Int32) : Option xm_M := if (M 8 8) ≤ (x1 + 1) then some M else xm_ck (xm_in 0 4) (xm_ck (xm_in (M 11 (0 : Int32).toNatClampNeg) 25) (if ((M 17 (M 11 (0 : Int32).toNatClampNeg).toNatClampNeg) + (M 8 6)) < (M 8 1) then some M else xm_lt (xm_up M 8 14 ((M 8 14) + 1)) (fun M5 => some M5)))
set_option maxHeartbeats 4000000 in
set_option maxRecDepth 100000 in
theorem t_X3_tellBranch_0 {l : Launch} {p : Program} {e : Env} {s : State} {m : MethodId} {args : Array Value} {below : List Frame} {meth : Method} {c : Code} {E : xm_E} {a : Nat → Nat} (C : xm_C E (xv E a) p s m args meth c RX3 cX3_tellBranch 2 none) (n : Nat) (M : xm_M) (x1 : Int32) (M' : xm_M) : f_X3_tellBranch n M x1 = some M' → ∀ (H : Heap) (locs : List Loc) (ls : Array Slot), va_P E.1 vwCl (xm_w (xv E a) M) H → va_S (xm_A (xv E a) s.heap.size) s.heap H locs → lv_has ls 2 [(0, .ref (a 8)), (1, .int x1)] → W p l e { frames := 0, cells := 0, slots := 0, locals := 0 } s m args below meth c H locs 0 0 (MQ below (xm_Q E (xv E a) M' s.heap.size none) args s 0 0 (xm_A (xv E a) s.heap.size)) (F0 m 0 ls []) := by
  have C9 := C
  obtain ⟨hx, hb, hml, hown, hts, hr, hlk, hD, hK, hS9⟩ := C9
  intro h H locs ls hP hS hl
  unfold f_X3_tellBranch at h
  refine lv_iload_n hx hb dX3_tellBranch_0 rfl (lv_at hl 1 rfl) ?_
  refine lv_iconst (v := 1) hx hb dX3_tellBranch_1 (by decide) ?_
  refine lv_iadd hx hb dX3_tellBranch_2 ?_
  refine lv_aload_n hx hb dX3_tellBranch_3 rfl (lv_at hl 0 rfl) ?_
  refine xm_get (V := (xv E a)) (T := TX3) (v := .int (M 8 8)) C hP 8 8 xi_3 rfl l_X3_40 rfl (Nat.le_of_ble_eq_true rfl) ((xe_8 E a) _) (Nat.le_of_ble_eq_true rfl) rfl dX3_tellBranch_4 ?_
  refine lv_icmp_ge (tgt := 46) hx hb dX3_tellBranch_7 (by decide) (fun c1 => ?_) (fun c1 => ?_)
  · rw [if_pos c1] at h
    cases xm_on h
    exact xm_retV C hP hS dX3_tellBranch_46
  · rw [if_neg c1] at h
    refine lv_aload_n hx hb dX3_tellBranch_10 rfl (lv_at hl 0 rfl) ?_
    refine xm_get (V := (xv E a)) (T := TX3) (v := .ref (a 13)) C hP 8 0 xi_3 rfl l_X3_12 rfl (Nat.le_of_ble_eq_true rfl) ((xe_8 E a) _) (Nat.le_of_ble_eq_true rfl) rfl dX3_tellBranch_11 ?_
    refine xm_getN (V := (xv E a)) (T := TX1) (v := .ref (a 17)) C hP 13 4 xi_1 rfl l_X3_124 rfl (Nat.le_of_ble_eq_true rfl) ((xe_13 E a) _) (Nat.le_of_ble_eq_true rfl) rfl dX3_tellBranch_14 ?_
    refine lv_aload_n hx hb dX3_tellBranch_17 rfl (lv_at hl 0 rfl) ?_
    refine xm_get (V := (xv E a)) (T := TX3) (v := .ref (a 11)) C hP 8 11 xi_3 rfl l_X3_50 rfl (Nat.le_of_ble_eq_true rfl) ((xe_8 E a) _) (Nat.le_of_ble_eq_true rfl) rfl dX3_tellBranch_18 ?_
    refine lv_iconst (v := 0) hx hb dX3_tellBranch_21 (by decide) ?_
    obtain ⟨b2, h⟩ := xm_ck_s h
    refine xm_iald (V := (xv E a)) C hP 11 4 (Nat.le_of_ble_eq_true rfl) (xe_11 E a) b2 dX3_tellBranch_22 ?_
    obtain ⟨b3, h⟩ := xm_ck_s h
    refine xm_iald (V := (xv E a)) C hP 17 25 (Nat.le_of_ble_eq_true rfl) (xe_17 E a) b3 dX3_tellBranch_23 ?_
    refine lv_aload_n hx hb dX3_tellBranch_24 rfl (lv_at hl 0 rfl) ?_
    refine xm_get (V := (xv E a)) (T := TX3) (v := .int (M 8 6)) C hP 8 6 xi_3 rfl l_X3_34 rfl (Nat.le_of_ble_eq_true rfl) ((xe_8 E a) _) (Nat.le_of_ble_eq_true rfl) rfl dX3_tellBranch_25 ?_
    refine lv_iadd hx hb dX3_tellBranch_28 ?_
    refine lv_aload_n hx hb dX3_tellBranch_29 rfl (lv_at hl 0 rfl) ?_
    refine xm_get (V := (xv E a)) (T := TX3) (v := .int (M 8 1)) C hP 8 1 xi_3 rfl l_X3_18 rfl (Nat.le_of_ble_eq_true rfl) ((xe_8 E a) _) (Nat.le_of_ble_eq_true rfl) rfl dX3_tellBranch_30 ?_
    refine lv_icmp_lt (tgt := 46) hx hb dX3_tellBranch_33 (by decide) (fun c4 => ?_) (fun c4 => ?_)
    · rw [if_pos c4] at h
      cases xm_on h
      exact xm_retV C hP hS dX3_tellBranch_46
    · rw [if_neg c4] at h
      refine lv_aload_n hx hb dX3_tellBranch_36 rfl (lv_at hl 0 rfl) ?_
      refine lv_dup hx hb dX3_tellBranch_37 rfl ?_
      refine xm_get (V := (xv E a)) (T := TX3) (v := .int (M 8 14)) C hP 8 14 xi_3 rfl l_X3_60 rfl (Nat.le_of_ble_eq_true rfl) ((xe_8 E a) _) (Nat.le_of_ble_eq_true rfl) rfl dX3_tellBranch_38 ?_
      refine lv_iconst (v := 1) hx hb dX3_tellBranch_41 (by decide) ?_
      refine lv_iadd hx hb dX3_tellBranch_42 ?_
      obtain ⟨M5, e6, h⟩ := xm_lt_s h
      refine xm_put (V := (xv E a)) (T := TX3) (ty := .int) (x := (M 8 14) + 1) C hP hS 8 14 xi_3 rfl l_X3_60 rfl tyX3_ok nmX3 (Nat.le_of_ble_eq_true rfl) ((xe_8 E a) _) (Nat.le_of_ble_eq_true rfl) rfl (by decide +kernel) rfl rfl (Nat.le_of_ble_eq_true rfl) ((xe_8 E a) _) dX3_tellBranch_43 (fun H locs hP hS => ?_)
      rw [← e6] at hP
      cases xm_on h
      exact xm_retV C hP hS dX3_tellBranch_46
theorem c_X3_tellBranch {l : Launch} {E : xm_E} {a : Nat → Nat} (hD : xm_D (xv E a)) (n : Nat) (M : xm_M) (x1 : Int32) (M' : xm_M) (h : f_X3_tellBranch n M x1 = some M') : xm_Met l E (xv E a) yX3_tellBranch cX3_tellBranch 2 none 0 0 [.ref (a 8), .int x1] M M' none :=
  xm_met (by decide +kernel) rfl (Nat.le_of_ble_eq_true rfl) hD (fun p e s m below meth c C hP ls hl => t_X3_tellBranch_0 C  n M x1 M' h _ _ _ hP va_S.rf hl)
def f_X3_tellMatch_36 (n : Nat) (M : xm_M) : Option xm_M := if (M 8 12) = (M 8 3) then xm_ck (xm_in (M 8 4) 4) (xm_ck (xm_in (M 11 (M 8 4).toNatClampNeg) 25) (xm_lt (xm_up M 8 5 (M 14 (M 11 (M 8 4).toNatClampNeg).toNatClampNeg)) (fun M6 => xm_lt (xm_up M6 8 12 ((M6 8 12) + 1)) (fun M8 => some M8)))) else xm_lt (xm_up M 8 12 ((M 8 12) + 1)) (fun M2 => some M2)
set_option maxHeartbeats 4000000 in
set_option maxRecDepth 100000 in
theorem t_X3_tellMatch_36 {l : Launch} {p : Program} {e : Env} {s : State} {m : MethodId} {args : Array Value} {below : List Frame} {meth : Method} {c : Code} {E : xm_E} {a : Nat → Nat} (C : xm_C E (xv E a) p s m args meth c RX3 cX3_tellMatch 1 none) (n : Nat) (M : xm_M) (M' : xm_M) : f_X3_tellMatch_36 n M = some M' → ∀ (H : Heap) (locs : List Loc) (ls : Array Slot), va_P E.1 vwCl (xm_w (xv E a) M) H → va_S (xm_A (xv E a) s.heap.size) s.heap H locs → lv_has ls 1 [(0, .ref (a 8))] → W p l e { frames := 0, cells := 0, slots := 0, locals := 0 } s m args below meth c H locs 0 0 (MQ below (xm_Q E (xv E a) M' s.heap.size none) args s 0 0 (xm_A (xv E a) s.heap.size)) (F0 m 36 ls []) := by
  have C9 := C
  obtain ⟨hx, hb, hml, hown, hts, hr, hlk, hD, hK, hS9⟩ := C9
  intro h H locs ls hP hS hl
  unfold f_X3_tellMatch_36 at h
  refine lv_aload_n hx hb dX3_tellMatch_36 rfl (lv_at hl 0 rfl) ?_
  refine xm_get (V := (xv E a)) (T := TX3) (v := .int (M 8 12)) C hP 8 12 xi_3 rfl l_X3_54 rfl (Nat.le_of_ble_eq_true rfl) ((xe_8 E a) _) (Nat.le_of_ble_eq_true rfl) rfl dX3_tellMatch_37 ?_
  refine lv_aload_n hx hb dX3_tellMatch_40 rfl (lv_at hl 0 rfl) ?_
  refine xm_get (V := (xv E a)) (T := TX3) (v := .int (M 8 3)) C hP 8 3 xi_3 rfl l_X3_25 rfl (Nat.le_of_ble_eq_true rfl) ((xe_8 E a) _) (Nat.le_of_ble_eq_true rfl) rfl dX3_tellMatch_41 ?_
  refine lv_icmp_ne (tgt := 68) hx hb dX3_tellMatch_44 (by decide) (fun c1 => ?_) (fun c1 => ?_)
  · rw [if_neg c1] at h
    refine lv_aload_n hx hb dX3_tellMatch_68 rfl (lv_at hl 0 rfl) ?_
    refine lv_dup hx hb dX3_tellMatch_69 rfl ?_
    refine xm_get (V := (xv E a)) (T := TX3) (v := .int (M 8 12)) C hP 8 12 xi_3 rfl l_X3_54 rfl (Nat.le_of_ble_eq_true rfl) ((xe_8 E a) _) (Nat.le_of_ble_eq_true rfl) rfl dX3_tellMatch_70 ?_
    refine lv_iconst (v := 1) hx hb dX3_tellMatch_73 (by decide) ?_
    refine lv_iadd hx hb dX3_tellMatch_74 ?_
    obtain ⟨M2, e3, h⟩ := xm_lt_s h
    refine xm_put (V := (xv E a)) (T := TX3) (ty := .int) (x := (M 8 12) + 1) C hP hS 8 12 xi_3 rfl l_X3_54 rfl tyX3_ok nmX3 (Nat.le_of_ble_eq_true rfl) ((xe_8 E a) _) (Nat.le_of_ble_eq_true rfl) rfl (by decide +kernel) rfl rfl (Nat.le_of_ble_eq_true rfl) ((xe_8 E a) _) dX3_tellMatch_75 (fun H locs hP hS => ?_)
    rw [← e3] at hP
    cases xm_on h
    exact xm_retV C hP hS dX3_tellMatch_78
  · rw [if_pos c1] at h
    refine lv_aload_n hx hb dX3_tellMatch_47 rfl (lv_at hl 0 rfl) ?_
    refine lv_aload_n hx hb dX3_tellMatch_48 rfl (lv_at hl 0 rfl) ?_
    refine xm_get (V := (xv E a)) (T := TX3) (v := .ref (a 13)) C hP 8 0 xi_3 rfl l_X3_12 rfl (Nat.le_of_ble_eq_true rfl) ((xe_8 E a) _) (Nat.le_of_ble_eq_true rfl) rfl dX3_tellMatch_49 ?_
    refine xm_getN (V := (xv E a)) (T := TX1) (v := .ref (a 14)) C hP 13 1 xi_1 rfl l_X3_130 rfl (Nat.le_of_ble_eq_true rfl) ((xe_13 E a) _) (Nat.le_of_ble_eq_true rfl) rfl dX3_tellMatch_52 ?_
    refine lv_aload_n hx hb dX3_tellMatch_55 rfl (lv_at hl 0 rfl) ?_
    refine xm_get (V := (xv E a)) (T := TX3) (v := .ref (a 11)) C hP 8 11 xi_3 rfl l_X3_50 rfl (Nat.le_of_ble_eq_true rfl) ((xe_8 E a) _) (Nat.le_of_ble_eq_true rfl) rfl dX3_tellMatch_56 ?_
    refine lv_aload_n hx hb dX3_tellMatch_59 rfl (lv_at hl 0 rfl) ?_
    refine xm_get (V := (xv E a)) (T := TX3) (v := .int (M 8 4)) C hP 8 4 xi_3 rfl l_X3_28 rfl (Nat.le_of_ble_eq_true rfl) ((xe_8 E a) _) (Nat.le_of_ble_eq_true rfl) rfl dX3_tellMatch_60 ?_
    obtain ⟨b4, h⟩ := xm_ck_s h
    refine xm_iald (V := (xv E a)) C hP 11 4 (Nat.le_of_ble_eq_true rfl) (xe_11 E a) b4 dX3_tellMatch_63 ?_
    obtain ⟨b5, h⟩ := xm_ck_s h
    refine xm_iald (V := (xv E a)) C hP 14 25 (Nat.le_of_ble_eq_true rfl) (xe_14 E a) b5 dX3_tellMatch_64 ?_
    obtain ⟨M6, e7, h⟩ := xm_lt_s h
    refine xm_put (V := (xv E a)) (T := TX3) (ty := .int) (x := M 14 (M 11 (M 8 4).toNatClampNeg).toNatClampNeg) C hP hS 8 5 xi_3 rfl l_X3_31 rfl tyX3_ok nmX3 (Nat.le_of_ble_eq_true rfl) ((xe_8 E a) _) (Nat.le_of_ble_eq_true rfl) rfl (by decide +kernel) rfl rfl (Nat.le_of_ble_eq_true rfl) ((xe_8 E a) _) dX3_tellMatch_65 (fun H locs hP hS => ?_)
    rw [← e7] at hP
    refine lv_aload_n hx hb dX3_tellMatch_68 rfl (lv_at hl 0 rfl) ?_
    refine lv_dup hx hb dX3_tellMatch_69 rfl ?_
    refine xm_get (V := (xv E a)) (T := TX3) (v := .int (M6 8 12)) C hP 8 12 xi_3 rfl l_X3_54 rfl (Nat.le_of_ble_eq_true rfl) ((xe_8 E a) _) (Nat.le_of_ble_eq_true rfl) rfl dX3_tellMatch_70 ?_
    refine lv_iconst (v := 1) hx hb dX3_tellMatch_73 (by decide) ?_
    refine lv_iadd hx hb dX3_tellMatch_74 ?_
    obtain ⟨M8, e9, h⟩ := xm_lt_s h
    refine xm_put (V := (xv E a)) (T := TX3) (ty := .int) (x := (M6 8 12) + 1) C hP hS 8 12 xi_3 rfl l_X3_54 rfl tyX3_ok nmX3 (Nat.le_of_ble_eq_true rfl) ((xe_8 E a) _) (Nat.le_of_ble_eq_true rfl) rfl (by decide +kernel) rfl rfl (Nat.le_of_ble_eq_true rfl) ((xe_8 E a) _) dX3_tellMatch_75 (fun H locs hP hS => ?_)
    rw [← e9] at hP
    cases xm_on h
    exact xm_retV C hP hS dX3_tellMatch_78
def f_X3_tellMatch (n : Nat) (M : xm_M) : Option xm_M := xm_ck (xm_in ((M 8 8) - 1) 4) (xm_ck (xm_in (M 11 ((M 8 8) - 1).toNatClampNeg) 25) (if (M 8 2) < (M 17 (M 11 ((M 8 8) - 1).toNatClampNeg).toNatClampNeg) then f_X3_tellMatch_36 n M else xm_lt (xm_up M 8 13 ((M 8 13) + 1)) (fun M4 => f_X3_tellMatch_36 n M4)))
set_option maxHeartbeats 4000000 in
set_option maxRecDepth 100000 in
theorem t_X3_tellMatch_0 {l : Launch} {p : Program} {e : Env} {s : State} {m : MethodId} {args : Array Value} {below : List Frame} {meth : Method} {c : Code} {E : xm_E} {a : Nat → Nat} (C : xm_C E (xv E a) p s m args meth c RX3 cX3_tellMatch 1 none) (n : Nat) (M : xm_M) (M' : xm_M) : f_X3_tellMatch n M = some M' → ∀ (H : Heap) (locs : List Loc) (ls : Array Slot), va_P E.1 vwCl (xm_w (xv E a) M) H → va_S (xm_A (xv E a) s.heap.size) s.heap H locs → lv_has ls 1 [(0, .ref (a 8))] → W p l e { frames := 0, cells := 0, slots := 0, locals := 0 } s m args below meth c H locs 0 0 (MQ below (xm_Q E (xv E a) M' s.heap.size none) args s 0 0 (xm_A (xv E a) s.heap.size)) (F0 m 0 ls []) := by
  have C9 := C
  obtain ⟨hx, hb, hml, hown, hts, hr, hlk, hD, hK, hS9⟩ := C9
  intro h H locs ls hP hS hl
  unfold f_X3_tellMatch at h
  refine lv_aload_n hx hb dX3_tellMatch_0 rfl (lv_at hl 0 rfl) ?_
  refine xm_get (V := (xv E a)) (T := TX3) (v := .ref (a 13)) C hP 8 0 xi_3 rfl l_X3_12 rfl (Nat.le_of_ble_eq_true rfl) ((xe_8 E a) _) (Nat.le_of_ble_eq_true rfl) rfl dX3_tellMatch_1 ?_
  refine xm_getN (V := (xv E a)) (T := TX1) (v := .ref (a 17)) C hP 13 4 xi_1 rfl l_X3_124 rfl (Nat.le_of_ble_eq_true rfl) ((xe_13 E a) _) (Nat.le_of_ble_eq_true rfl) rfl dX3_tellMatch_4 ?_
  refine lv_aload_n hx hb dX3_tellMatch_7 rfl (lv_at hl 0 rfl) ?_
  refine xm_get (V := (xv E a)) (T := TX3) (v := .ref (a 11)) C hP 8 11 xi_3 rfl l_X3_50 rfl (Nat.le_of_ble_eq_true rfl) ((xe_8 E a) _) (Nat.le_of_ble_eq_true rfl) rfl dX3_tellMatch_8 ?_
  refine lv_aload_n hx hb dX3_tellMatch_11 rfl (lv_at hl 0 rfl) ?_
  refine xm_get (V := (xv E a)) (T := TX3) (v := .int (M 8 8)) C hP 8 8 xi_3 rfl l_X3_40 rfl (Nat.le_of_ble_eq_true rfl) ((xe_8 E a) _) (Nat.le_of_ble_eq_true rfl) rfl dX3_tellMatch_12 ?_
  refine lv_iconst (v := 1) hx hb dX3_tellMatch_15 (by decide) ?_
  refine lv_isub hx hb dX3_tellMatch_16 ?_
  obtain ⟨b1, h⟩ := xm_ck_s h
  refine xm_iald (V := (xv E a)) C hP 11 4 (Nat.le_of_ble_eq_true rfl) (xe_11 E a) b1 dX3_tellMatch_17 ?_
  obtain ⟨b2, h⟩ := xm_ck_s h
  refine xm_iald (V := (xv E a)) C hP 17 25 (Nat.le_of_ble_eq_true rfl) (xe_17 E a) b2 dX3_tellMatch_18 ?_
  refine lv_aload_n hx hb dX3_tellMatch_19 rfl (lv_at hl 0 rfl) ?_
  refine xm_get (V := (xv E a)) (T := TX3) (v := .int (M 8 2)) C hP 8 2 xi_3 rfl l_X3_22 rfl (Nat.le_of_ble_eq_true rfl) ((xe_8 E a) _) (Nat.le_of_ble_eq_true rfl) rfl dX3_tellMatch_20 ?_
  refine lv_icmp_gt (tgt := 36) hx hb dX3_tellMatch_23 (by decide) (fun c3 => ?_) (fun c3 => ?_)
  · rw [if_pos c3] at h
    exact t_X3_tellMatch_36 C  n M  M' h _ _ _ hP hS (lv_sub hl [0] rfl)
  · rw [if_neg c3] at h
    refine lv_aload_n hx hb dX3_tellMatch_26 rfl (lv_at hl 0 rfl) ?_
    refine lv_dup hx hb dX3_tellMatch_27 rfl ?_
    refine xm_get (V := (xv E a)) (T := TX3) (v := .int (M 8 13)) C hP 8 13 xi_3 rfl l_X3_57 rfl (Nat.le_of_ble_eq_true rfl) ((xe_8 E a) _) (Nat.le_of_ble_eq_true rfl) rfl dX3_tellMatch_28 ?_
    refine lv_iconst (v := 1) hx hb dX3_tellMatch_31 (by decide) ?_
    refine lv_iadd hx hb dX3_tellMatch_32 ?_
    obtain ⟨M4, e5, h⟩ := xm_lt_s h
    refine xm_put (V := (xv E a)) (T := TX3) (ty := .int) (x := (M 8 13) + 1) C hP hS 8 13 xi_3 rfl l_X3_57 rfl tyX3_ok nmX3 (Nat.le_of_ble_eq_true rfl) ((xe_8 E a) _) (Nat.le_of_ble_eq_true rfl) rfl (by decide +kernel) rfl rfl (Nat.le_of_ble_eq_true rfl) ((xe_8 E a) _) dX3_tellMatch_33 (fun H locs hP hS => ?_)
    rw [← e5] at hP
    exact t_X3_tellMatch_36 C  n M4  M' h _ _ _ hP hS (lv_sub hl [0] rfl)
theorem c_X3_tellMatch {l : Launch} {E : xm_E} {a : Nat → Nat} (hD : xm_D (xv E a)) (n : Nat) (M : xm_M) (M' : xm_M) (h : f_X3_tellMatch n M = some M') : xm_Met l E (xv E a) yX3_tellMatch cX3_tellMatch 1 none 0 0 [.ref (a 8)] M M' none :=
  xm_met (by decide +kernel) rfl (Nat.le_of_ble_eq_true rfl) hD (fun p e s m below meth c C hP ls hl => t_X3_tellMatch_0 C  n M M' h _ _ _ hP va_S.rf hl)
def f_X3_shareOf (n : Nat) (M : xm_M) (x1 : Int32) : Option (Int32 × xm_M) := xm_b2 (f_X1_placeOf n M x1) (fun r2 M1 => xm_ck (xm_in r2 25) (some (M1 12 r2.toNatClampNeg, M1)))
set_option maxHeartbeats 4000000 in
set_option maxRecDepth 100000 in
theorem t_X3_shareOf_0 {l : Launch} {p : Program} {e : Env} {s : State} {m : MethodId} {args : Array Value} {below : List Frame} {meth : Method} {c : Code} {E : xm_E} {a : Nat → Nat} (C : xm_C E (xv E a) p s m args meth c RX3 cX3_shareOf 2 (some .int)) (n : Nat) (M : xm_M) (x1 : Int32) (r : Int32) (M' : xm_M) : f_X3_shareOf n M x1 = some (r, M') → ∀ (H : Heap) (locs : List Loc) (ls : Array Slot), va_P E.1 vwCl (xm_w (xv E a) M) H → va_S (xm_A (xv E a) s.heap.size) s.heap H locs → lv_has ls 2 [(0, .ref (a 8)), (1, .int x1)] → W p l e { frames := 1, cells := 0, slots := 0, locals := 23 } s m args below meth c H locs 0 0 (MQ below (xm_Q E (xv E a) M' s.heap.size (some r)) args s 0 0 (xm_A (xv E a) s.heap.size)) (F0 m 0 ls []) := by
  have C9 := C
  obtain ⟨hx, hb, hml, hown, hts, hr, hlk, hD, hK, hS9⟩ := C9
  intro h H locs ls hP hS hl
  unfold f_X3_shareOf at h
  refine lv_aload_n hx hb dX3_shareOf_0 rfl (lv_at hl 0 rfl) ?_
  refine xm_get (V := (xv E a)) (T := TX3) (v := .ref (a 12)) C hP 8 15 xi_3 rfl l_X3_63 rfl (Nat.le_of_ble_eq_true rfl) ((xe_8 E a) _) (Nat.le_of_ble_eq_true rfl) rfl dX3_shareOf_1 ?_
  refine lv_aload_n hx hb dX3_shareOf_4 rfl (lv_at hl 0 rfl) ?_
  refine xm_get (V := (xv E a)) (T := TX3) (v := .ref (a 13)) C hP 8 0 xi_3 rfl l_X3_12 rfl (Nat.le_of_ble_eq_true rfl) ((xe_8 E a) _) (Nat.le_of_ble_eq_true rfl) rfl dX3_shareOf_5 ?_
  refine lv_iload_n hx hb dX3_shareOf_8 rfl (lv_at hl 1 rfl) ?_
  obtain ⟨r2, M1, e3, h⟩ := xm_b2_s h
  refine xm_callVN C hP hS [.int x1] [.ref (a 12)] (c_X1_placeOf hD  n M x1 r2 M1 e3) k_X3_133 (xm_recv C hP 13 rfl (Nat.le_of_ble_eq_true rfl) ((xe_13 E a) _)) rfl rfl ⟨(Nat.le_of_ble_eq_true rfl), (Nat.le_of_ble_eq_true rfl)⟩ hl.1 (Nat.le_of_ble_eq_true rfl) ⟨Nat.zero_le _, Nat.zero_le _⟩ dX3_shareOf_9 (fun H locs hP hS => ?_)
  change W p l e _ s m _ below meth c H locs 0 0 _ (F0 m 12 ls [.int r2, .ref (a 12)])
  obtain ⟨b4, h⟩ := xm_ck_s h
  refine xm_iald (V := (xv E a)) C hP 12 25 (Nat.le_of_ble_eq_true rfl) (xe_12 E a) b4 dX3_shareOf_12 ?_
  obtain ⟨rfl, rfl⟩ := xm_pr h
  exact xm_retI C hP hS dX3_shareOf_13
theorem c_X3_shareOf {l : Launch} {E : xm_E} {a : Nat → Nat} (hD : xm_D (xv E a)) (n : Nat) (M : xm_M) (x1 : Int32) (r : Int32) (M' : xm_M) (h : f_X3_shareOf n M x1 = some (r, M')) : xm_Met l E (xv E a) yX3_shareOf cX3_shareOf 2 (some .int) 1 23 [.ref (a 8), .int x1] M M' (some r) :=
  xm_met (by decide +kernel) rfl (Nat.le_of_ble_eq_true rfl) hD (fun p e s m below meth c C hP ls hl => t_X3_shareOf_0 C  n M x1 r M' h _ _ _ hP va_S.rf hl)
def f_X3_placesWithoutShare_4 : Nat → xm_M → Int32 → Int32 → Option (Int32 × xm_M)
  | 0, _, _, _ => none
  | n + 1, M, x1, x2 => if (M 13 0) ≤ x2 then some (x1, M) else xm_ck (xm_in x2 25) (if (M 12 x2.toNatClampNeg) = 0 then f_X3_placesWithoutShare_4 n M (x1 + 1) (x2 + 1) else f_X3_placesWithoutShare_4 n M x1 (x2 + 1))
set_option maxHeartbeats 4000000 in
set_option maxRecDepth 100000 in
theorem t_X3_placesWithoutShare_4 {l : Launch} {p : Program} {e : Env} {s : State} {m : MethodId} {args : Array Value} {below : List Frame} {meth : Method} {c : Code} {E : xm_E} {a : Nat → Nat} (C : xm_C E (xv E a) p s m args meth c RX3 cX3_placesWithoutShare 3 (some .int)) : ∀ (n : Nat) (M : xm_M) (x1 : Int32) (x2 : Int32) (r : Int32) (M' : xm_M), f_X3_placesWithoutShare_4 n M x1 x2 = some (r, M') → ∀ (H : Heap) (locs : List Loc) (ls : Array Slot), va_P E.1 vwCl (xm_w (xv E a) M) H → va_S (xm_A (xv E a) s.heap.size) s.heap H locs → lv_has ls 3 [(0, .ref (a 8)), (1, .int x1), (2, .int x2)] → W p l e { frames := 0, cells := 0, slots := 0, locals := 0 } s m args below meth c H locs 0 0 (MQ below (xm_Q E (xv E a) M' s.heap.size (some r)) args s 0 0 (xm_A (xv E a) s.heap.size)) (F0 m 4 ls []) := by
  have C9 := C
  obtain ⟨hx, hb, hml, hown, hts, hr, hlk, hD, hK, hS9⟩ := C9
  intro n
  induction n with
  | zero =>
    intro M x1 x2 r M' h
    cases h
  | succ n ih =>
    intro M x1 x2 r M' h H locs ls hP hS hl
    rw [f_X3_placesWithoutShare_4] at h
    refine lv_iload_n hx hb dX3_placesWithoutShare_4 rfl (lv_at hl 2 rfl) ?_
    refine lv_aload_n hx hb dX3_placesWithoutShare_5 rfl (lv_at hl 0 rfl) ?_
    refine xm_get (V := (xv E a)) (T := TX3) (v := .ref (a 13)) C hP 8 0 xi_3 rfl l_X3_12 rfl (Nat.le_of_ble_eq_true rfl) ((xe_8 E a) _) (Nat.le_of_ble_eq_true rfl) rfl dX3_placesWithoutShare_6 ?_
    refine xm_getN (V := (xv E a)) (T := TX1) (v := .int (M 13 0)) C hP 13 0 xi_1 rfl l_X3_109 rfl (Nat.le_of_ble_eq_true rfl) ((xe_13 E a) _) (Nat.le_of_ble_eq_true rfl) rfl dX3_placesWithoutShare_9 ?_
    refine lv_icmp_ge (tgt := 33) hx hb dX3_placesWithoutShare_12 (by decide) (fun c1 => ?_) (fun c1 => ?_)
    · rw [if_pos c1] at h
      refine lv_iload_n hx hb dX3_placesWithoutShare_33 rfl (lv_at hl 1 rfl) ?_
      obtain ⟨rfl, rfl⟩ := xm_pr h
      exact xm_retI C hP hS dX3_placesWithoutShare_34
    · rw [if_neg c1] at h
      refine lv_aload_n hx hb dX3_placesWithoutShare_15 rfl (lv_at hl 0 rfl) ?_
      refine xm_get (V := (xv E a)) (T := TX3) (v := .ref (a 12)) C hP 8 15 xi_3 rfl l_X3_63 rfl (Nat.le_of_ble_eq_true rfl) ((xe_8 E a) _) (Nat.le_of_ble_eq_true rfl) rfl dX3_placesWithoutShare_16 ?_
      refine lv_iload_n hx hb dX3_placesWithoutShare_19 rfl (lv_at hl 2 rfl) ?_
      obtain ⟨b2, h⟩ := xm_ck_s h
      refine xm_iald (V := (xv E a)) C hP 12 25 (Nat.le_of_ble_eq_true rfl) (xe_12 E a) b2 dX3_placesWithoutShare_20 ?_
      refine lv_if_ne (tgt := 27) hx hb dX3_placesWithoutShare_21 (by decide) (fun c3 => ?_) (fun c3 => ?_)
      · rw [if_neg c3] at h
        refine lv_iinc (v := x2 + 1) (lv' := [(2, .int (x2 + 1)), (0, .ref (a 8)), (1, .int x1)]) hx hb dX3_placesWithoutShare_27 hl (k := 2) rfl (xm_add (by decide)) (by decide) rfl (fun ls hl => ?_)
        refine lv_goto (tgt := 4) hx hb dX3_placesWithoutShare_30 (by decide) ?_
        exact ih M x1 (x2 + 1) r M' h _ _ _ hP hS (lv_sub hl [1, 2, 0] rfl)
      · rw [if_pos c3] at h
        refine lv_iinc (v := x1 + 1) (lv' := [(1, .int (x1 + 1)), (0, .ref (a 8)), (2, .int x2)]) hx hb dX3_placesWithoutShare_24 hl (k := 1) rfl (xm_add (by decide)) (by decide) rfl (fun ls hl => ?_)
        refine lv_iinc (v := x2 + 1) (lv' := [(2, .int (x2 + 1)), (1, .int (x1 + 1)), (0, .ref (a 8))]) hx hb dX3_placesWithoutShare_27 hl (k := 2) rfl (xm_add (by decide)) (by decide) rfl (fun ls hl => ?_)
        refine lv_goto (tgt := 4) hx hb dX3_placesWithoutShare_30 (by decide) ?_
        exact ih M (x1 + 1) (x2 + 1) r M' h _ _ _ hP hS (lv_sub hl [2, 1, 0] rfl)
def f_X3_placesWithoutShare (n : Nat) (M : xm_M) : Option (Int32 × xm_M) := f_X3_placesWithoutShare_4 n M 0 0
set_option maxHeartbeats 4000000 in
set_option maxRecDepth 100000 in
theorem t_X3_placesWithoutShare_0 {l : Launch} {p : Program} {e : Env} {s : State} {m : MethodId} {args : Array Value} {below : List Frame} {meth : Method} {c : Code} {E : xm_E} {a : Nat → Nat} (C : xm_C E (xv E a) p s m args meth c RX3 cX3_placesWithoutShare 3 (some .int)) (n : Nat) (M : xm_M) (r : Int32) (M' : xm_M) : f_X3_placesWithoutShare n M = some (r, M') → ∀ (H : Heap) (locs : List Loc) (ls : Array Slot), va_P E.1 vwCl (xm_w (xv E a) M) H → va_S (xm_A (xv E a) s.heap.size) s.heap H locs → lv_has ls 3 [(0, .ref (a 8))] → W p l e { frames := 0, cells := 0, slots := 0, locals := 0 } s m args below meth c H locs 0 0 (MQ below (xm_Q E (xv E a) M' s.heap.size (some r)) args s 0 0 (xm_A (xv E a) s.heap.size)) (F0 m 0 ls []) := by
  have C9 := C
  obtain ⟨hx, hb, hml, hown, hts, hr, hlk, hD, hK, hS9⟩ := C9
  intro h H locs ls hP hS hl
  unfold f_X3_placesWithoutShare at h
  refine lv_iconst (v := 0) hx hb dX3_placesWithoutShare_0 (by decide) ?_
  refine lv_istore_n (lv' := [(1, .int 0), (0, .ref (a 8))]) hx hb dX3_placesWithoutShare_1 rfl hl (by decide) rfl (fun ls hl => ?_)
  refine lv_iconst (v := 0) hx hb dX3_placesWithoutShare_2 (by decide) ?_
  refine lv_istore_n (lv' := [(2, .int 0), (1, .int 0), (0, .ref (a 8))]) hx hb dX3_placesWithoutShare_3 rfl hl (by decide) rfl (fun ls hl => ?_)
  exact t_X3_placesWithoutShare_4 C  n M 0 0 r M' h _ _ _ hP hS (lv_sub hl [2, 1, 0] rfl)
theorem c_X3_placesWithoutShare {l : Launch} {E : xm_E} {a : Nat → Nat} (hD : xm_D (xv E a)) (n : Nat) (M : xm_M) (r : Int32) (M' : xm_M) (h : f_X3_placesWithoutShare n M = some (r, M')) : xm_Met l E (xv E a) yX3_placesWithoutShare cX3_placesWithoutShare 3 (some .int) 0 0 [.ref (a 8)] M M' (some r) :=
  xm_met (by decide +kernel) rfl (Nat.le_of_ble_eq_true rfl) hD (fun p e s m below meth c C hP ls hl => t_X3_placesWithoutShare_0 C  n M r M' h _ _ _ hP va_S.rf hl)
