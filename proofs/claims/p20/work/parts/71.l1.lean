theorem q_L_8 : Cond.constant RL 8 2147483647 ∈ xm_tb := xm_tb_of (List.mem_of_getElem? (i := 332) (by decide +kernel)) rfl
theorem q_L_9 : Cond.constantLong RL 9 255 ∈ xm_tb := xm_tb_of (List.mem_of_getElem? (i := 386) (by decide +kernel)) rfl
theorem k_L_11 : xm_FV RL 11 yX6_type cX6_type 2 (some .int) 1 := ⟨xm_tb_of (List.mem_of_getElem? (i := 390) (by decide +kernel)) rfl, xm_tb_of (List.mem_of_getElem? (i := 387) (by decide +kernel)) rfl, xm_tb_of (List.mem_of_getElem? (i := 388) (by decide +kernel)) rfl, xm_tb_of (List.mem_of_getElem? (i := 389) (by decide +kernel)) rfl, xm_tb_of (List.mem_of_getElem? (i := 1) (by decide +kernel)) rfl, ⟨by decide +kernel, by decide +kernel, by decide +kernel⟩⟩
def f_L_up (n : Nat) (M N : xm_M) (x0 : Int32) (x1 : Int32) : Option (Int32 × xm_M × xm_M) := xm_ck (decide (¬ x1 = 0)) (some ((x0 &&& 2147483647) - (x0 &&& 2147483647) / x1 * x1, M, N))
set_option maxHeartbeats 4000000 in
set_option maxRecDepth 100000 in
theorem t_L_up_0 {l : Launch} {p : Program} {e : Env} {s : State} {m : MethodId} {args : Array Value} {below : List Frame} {meth : Method} {c : Code} {E : xm_E} {a : Nat → Nat} {bb : Nat → Nat} (C : xm_C E (xj (xv E a) (xv E bb)) p s m args meth c RL cL_up 2 (some .int)) (n : Nat) (M N : xm_M) (x0 : Int32) (x1 : Int32) (r : Int32) (M' N' : xm_M) : f_L_up n M N x0 x1 = some (r, M', N') → ∀ (H : Heap) (locs : List Loc) (ls : Array Slot), va_P E.1 vwCl (xm_w (xj (xv E a) (xv E bb)) (xk 120 M N)) H → va_S (xm_A (xj (xv E a) (xv E bb)) s.heap.size) s.heap H locs → lv_has ls 2 [(0, .int x0), (1, .int x1)] → W p l e { frames := 0, cells := 0, slots := 0, locals := 0 } s m args below meth c H locs 0 0 (MQ below (xm_Q E (xj (xv E a) (xv E bb)) (xk 120 M' N') s.heap.size (some r)) args s 0 0 (xm_A (xj (xv E a) (xv E bb)) s.heap.size)) (F0 m 0 ls []) := by
  have C9 := C
  obtain ⟨hx, hb, hml, hown, hts, hr, hlk, hD, hK, hS9⟩ := C9
  have hDo := xj_D1 hD
  have hDp := xj_D2 hD
  intro h H locs ls hP hS hl
  unfold f_L_up at h
  refine lv_iload_n hx hb dL_up_0 rfl (lv_at hl 0 rfl) ?_
  refine lv_ldc (v := 2147483647) hx hb hown (hts _ q_L_8) dL_up_1 ?_
  refine lv_iand hx hb dL_up_3 ?_
  refine lv_iload_n hx hb dL_up_4 rfl (lv_at hl 1 rfl) ?_
  obtain ⟨z1, h⟩ := xm_ck_s h
  refine lv_irem hx hb dL_up_5 (of_decide_eq_true z1) ?_
  obtain ⟨rfl, rfl, rfl⟩ := xm_p3 h
  exact lm_retI C hP hS dL_up_6
theorem c_L_up {l : Launch} {E : xm_E} {a : Nat → Nat} {bb : Nat → Nat} (hD : xm_D (xj (xv E a) (xv E bb))) (n : Nat) (M N : xm_M) (x0 : Int32) (x1 : Int32) (r : Int32) (M' N' : xm_M) (h : f_L_up n M N x0 x1 = some (r, M', N')) : xm_Met l E (xj (xv E a) (xv E bb)) yL_up cL_up 2 (some .int) 0 0 [.int x0, .int x1] (xk 120 M N) (xk 120 M' N') (some r) :=
  xm_met (by decide +kernel) rfl (Nat.le_of_ble_eq_true rfl) hD (fun p e s m below meth c C hP ls hl => t_L_up_0 C n M N x0 x1 r M' N' h _ _ _ hP va_S.rf hl)
def f_L_there (n : Nat) (M N : xm_M) (x0 : Int32) : Option (Int32 × xm_M × xm_M) := xm_ck (xm_c (((((201 : Int32)) - x0).toUInt32 % 65536).toInt32)) (some (((((201 : Int32)) - x0).toUInt32 % 65536).toInt32, M, N))
set_option maxHeartbeats 4000000 in
set_option maxRecDepth 100000 in
theorem t_L_there_0 {l : Launch} {p : Program} {e : Env} {s : State} {m : MethodId} {args : Array Value} {below : List Frame} {meth : Method} {c : Code} {E : xm_E} {a : Nat → Nat} {bb : Nat → Nat} (C : xm_C E (xj (xv E a) (xv E bb)) p s m args meth c RL cL_there 1 (some .char)) (n : Nat) (M N : xm_M) (x0 : Int32) (r : Int32) (M' N' : xm_M) : f_L_there n M N x0 = some (r, M', N') → ∀ (H : Heap) (locs : List Loc) (ls : Array Slot), va_P E.1 vwCl (xm_w (xj (xv E a) (xv E bb)) (xk 120 M N)) H → va_S (xm_A (xj (xv E a) (xv E bb)) s.heap.size) s.heap H locs → lv_has ls 1 [(0, .int x0)] → W p l e { frames := 0, cells := 0, slots := 0, locals := 0 } s m args below meth c H locs 0 0 (MQ below (xm_Q E (xj (xv E a) (xv E bb)) (xk 120 M' N') s.heap.size (some r)) args s 0 0 (xm_A (xj (xv E a) (xv E bb)) s.heap.size)) (F0 m 0 ls []) := by
  have C9 := C
  obtain ⟨hx, hb, hml, hown, hts, hr, hlk, hD, hK, hS9⟩ := C9
  have hDo := xj_D1 hD
  have hDp := xj_D2 hD
  intro h H locs ls hP hS hl
  unfold f_L_there at h
  refine lv_sipush (v := 201) hx hb dL_there_0 (by decide) ?_
  refine lv_iload_n hx hb dL_there_3 rfl (lv_at hl 0 rfl) ?_
  refine lv_isub hx hb dL_there_4 ?_
  refine lv_i2c (v := ((((201 : Int32)) - x0).toUInt32 % 65536).toInt32) hx hb dL_there_5 rfl ?_
  obtain ⟨z1, h⟩ := xm_ck_s h
  obtain ⟨rfl, rfl, rfl⟩ := xm_p3 h
  exact lm_retZ C hP hS (xm_c_s z1) dL_there_6
theorem c_L_there {l : Launch} {E : xm_E} {a : Nat → Nat} {bb : Nat → Nat} (hD : xm_D (xj (xv E a) (xv E bb))) (n : Nat) (M N : xm_M) (x0 : Int32) (r : Int32) (M' N' : xm_M) (h : f_L_there n M N x0 = some (r, M', N')) : xm_Met l E (xj (xv E a) (xv E bb)) yL_there cL_there 1 (some .char) 0 0 [.int x0] (xk 120 M N) (xk 120 M' N') (some r) :=
  xm_met (by decide +kernel) rfl (Nat.le_of_ble_eq_true rfl) hD (fun p e s m below meth c C hP ls hl => t_L_there_0 C n M N x0 r M' N' h _ _ _ hP va_S.rf hl)
def f_L_types_S7 : Nat → Nat → xm_M → xm_M → Int64 → Int32 → Int32 → Option (Int32 × xm_M × xm_M)
  | 0, _, _, _, _, _, _ => none
  | n + 1, _, M, N, x2, x4, x5 => if x5 < 0 then xm_ck (xm_z x4) (some (x4, M, N)) else if x4 = 0 then f_L_types_S7 n 0 M N x2 0 (x5 + (-8)) else if (((x2 >>> (x5.toInt64 &&& 63)) &&& 255).toInt32) = 0 then f_L_types_S7 n 0 M N x2 1 (x5 + (-8)) else xm_b2 (f_X6_type n M (((((x2 >>> (x5.toInt64 &&& 63)) &&& 255).toInt32).toUInt32 % 65536).toInt32)) (fun r5 M6 => xm_b2 (f_X6_type n N (((((x2 >>> (x5.toInt64 &&& 63)) &&& 255).toInt32).toUInt32 % 65536).toInt32)) (fun r8 M9 => if r5 = r8 then f_L_types_S7 n 0 M6 M9 x2 1 (x5 + (-8)) else f_L_types_S7 n 0 M6 M9 x2 0 (x5 + (-8))))
def f_L_types_7 (n : Nat) (M N : xm_M) (x2 : Int64) (x4 : Int32) (x5 : Int32) : Option (Int32 × xm_M × xm_M) := f_L_types_S7 n 0 M N x2 x4 x5
set_option maxHeartbeats 4000000 in
set_option maxRecDepth 100000 in
theorem t_L_types_S7 {l : Launch} {p : Program} {e : Env} {s : State} {m : MethodId} {args : Array Value} {below : List Frame} {meth : Method} {c : Code} {E : xm_E} {a : Nat → Nat} {bb : Nat → Nat} (C : xm_C E (xj (xv E a) (xv E bb)) p s m args meth c RL cL_types 7 (some .boolean)) : ∀ (n : Nat), (∀ (M N : xm_M) (x2 : Int64) (x4 : Int32) (x5 : Int32) (r : Int32) (M' N' : xm_M), f_L_types_S7 n 0 M N x2 x4 x5 = some (r, M', N') → ∀ (H : Heap) (locs : List Loc) (ls : Array Slot), va_P E.1 vwCl (xm_w (xj (xv E a) (xv E bb)) (xk 120 M N)) H → va_S (xm_A (xj (xv E a) (xv E bb)) s.heap.size) s.heap H locs → lv_has ls 7 [(0, .ref (a 0)), (1, .ref (bb 0)), (2, .long x2), (4, .int x4), (5, .int x5)] → W p l e { frames := 2, cells := 0, slots := 0, locals := 42 } s m args below meth c H locs 0 0 (MQ below (xm_Q E (xj (xv E a) (xv E bb)) (xk 120 M' N') s.heap.size (some r)) args s 0 0 (xm_A (xj (xv E a) (xv E bb)) s.heap.size)) (F0 m 7 ls [])) := by
  have C9 := C
  obtain ⟨hx, hb, hml, hown, hts, hr, hlk, hD, hK, hS9⟩ := C9
  have hDo := xj_D1 hD
  have hDp := xj_D2 hD
  intro n
  induction n with
  | zero =>
    refine (fun M N x2 x4 x5 r M' N' h => ?_)
    all_goals cases h
  | succ n ih =>
    refine (fun M N x2 x4 x5 r M' N' h H locs ls hP hS hl => ?_)
    · rw [f_L_types_S7] at h
      refine lv_iload hx hb dL_types_7 (lv_at hl 4 rfl) ?_
      refine lv_if_lt (tgt := 63) hx hb dL_types_9 (by decide) (fun c1 => ?_) (fun c1 => ?_)
      · rw [if_pos c1] at h
        refine lv_iload hx hb dL_types_63 (lv_at hl 3 rfl) ?_
        obtain ⟨z2, h⟩ := xm_ck_s h
        obtain ⟨rfl, rfl, rfl⟩ := xm_p3 h
        exact lm_retZ C hP hS (xm_z_s z2) dL_types_65
      · rw [if_neg c1] at h
        refine lv_lload_n hx hb dL_types_12 rfl (lv_at hl 2 rfl) ?_
        refine lv_iload hx hb dL_types_13 (lv_at hl 4 rfl) ?_
        refine lv_lshr (v := x2 >>> (x5.toInt64 &&& 63)) hx hb dL_types_15 rfl ?_
        refine lv_ldc2 (v := 255) hx hb hown (hts _ q_L_9) dL_types_16 ?_
        refine lv_land hx hb dL_types_19 ?_
        refine lv_l2i (v := ((x2 >>> (x5.toInt64 &&& 63)) &&& 255).toInt32) hx hb dL_types_20 rfl ?_
        refine lv_istore (lv' := [(6, .int (((x2 >>> (x5.toInt64 &&& 63)) &&& 255).toInt32)), (0, .ref (a 0)), (1, .ref (bb 0)), (2, .long x2), (4, .int x4), (5, .int x5)]) hx hb dL_types_21 hl (by decide) rfl (fun ls hl => ?_)
        refine lv_iload hx hb dL_types_23 (lv_at hl 4 rfl) ?_
        refine lv_if_eq (tgt := 54) hx hb dL_types_25 (by decide) (fun c3 => ?_) (fun c3 => ?_)
        · rw [if_pos c3] at h
          refine lv_iconst (v := 0) hx hb dL_types_54 (by decide) ?_
          refine lv_istore (lv' := [(4, .int 0), (6, .int (((x2 >>> (x5.toInt64 &&& 63)) &&& 255).toInt32)), (0, .ref (a 0)), (1, .ref (bb 0)), (2, .long x2), (5, .int x5)]) hx hb dL_types_55 hl (by decide) rfl (fun ls hl => ?_)
          refine lv_iinc (v := x5 + (-8)) (lv' := [(5, .int (x5 + (-8))), (4, .int 0), (6, .int (((x2 >>> (x5.toInt64 &&& 63)) &&& 255).toInt32)), (0, .ref (a 0)), (1, .ref (bb 0)), (2, .long x2)]) hx hb dL_types_57 hl (k := 5) rfl (xm_add (by decide)) (by decide) rfl (fun ls hl => ?_)
          refine lv_goto (tgt := 7) hx hb dL_types_60 (by decide) ?_
          exact ih M N x2 0 (x5 + (-8)) r M' N' h _ _ _ hP hS (lv_sub hl [3, 4, 5, 1, 0] rfl)
        · rw [if_neg c3] at h
          refine lv_iload hx hb dL_types_28 (lv_at hl 0 rfl) ?_
          refine lv_if_eq (tgt := 50) hx hb dL_types_30 (by decide) (fun c4 => ?_) (fun c4 => ?_)
          · rw [if_pos c4] at h
            refine lv_iconst (v := 1) hx hb dL_types_50 (by decide) ?_
            refine lv_goto (tgt := 55) hx hb dL_types_51 (by decide) ?_
            refine lv_istore (lv' := [(4, .int 1), (6, .int (((x2 >>> (x5.toInt64 &&& 63)) &&& 255).toInt32)), (0, .ref (a 0)), (1, .ref (bb 0)), (2, .long x2), (5, .int x5)]) hx hb dL_types_55 hl (by decide) rfl (fun ls hl => ?_)
            refine lv_iinc (v := x5 + (-8)) (lv' := [(5, .int (x5 + (-8))), (4, .int 1), (6, .int (((x2 >>> (x5.toInt64 &&& 63)) &&& 255).toInt32)), (0, .ref (a 0)), (1, .ref (bb 0)), (2, .long x2)]) hx hb dL_types_57 hl (k := 5) rfl (xm_add (by decide)) (by decide) rfl (fun ls hl => ?_)
            refine lv_goto (tgt := 7) hx hb dL_types_60 (by decide) ?_
            exact ih M N x2 1 (x5 + (-8)) r M' N' h _ _ _ hP hS (lv_sub hl [3, 4, 5, 1, 0] rfl)
          · rw [if_neg c4] at h
            refine lv_aload_n hx hb dL_types_33 rfl (lv_at hl 1 rfl) ?_
            refine lv_iload hx hb dL_types_34 (lv_at hl 0 rfl) ?_
            refine lv_i2c (v := ((((x2 >>> (x5.toInt64 &&& 63)) &&& 255).toInt32).toUInt32 % 65536).toInt32) hx hb dL_types_36 rfl ?_
            obtain ⟨r5, M6, e7, h⟩ := xm_b2_s h
            refine lm_o C hP hS [.int (((((x2 >>> (x5.toInt64 &&& 63)) &&& 255).toInt32).toUInt32 % 65536).toInt32)] [] (c_X6_type hDo n M (((((x2 >>> (x5.toInt64 &&& 63)) &&& 255).toInt32).toUInt32 % 65536).toInt32) r5 M6 e7) k_L_11 rfl rfl rfl ⟨(Nat.le_of_ble_eq_true rfl), (Nat.le_of_ble_eq_true rfl)⟩ hl.1 (Nat.le_of_ble_eq_true rfl) ⟨(Nat.le_of_ble_eq_true rfl), (Nat.le_of_ble_eq_true rfl)⟩ dL_types_37 (fun H locs hP hS => ?_)
            change W p l e _ s m _ below meth c H locs 0 0 _ (F0 m 40 ls [.int r5])
            refine lv_aload_n hx hb dL_types_40 rfl (lv_at hl 2 rfl) ?_
            refine lv_iload hx hb dL_types_41 (lv_at hl 0 rfl) ?_
            refine lv_i2c (v := ((((x2 >>> (x5.toInt64 &&& 63)) &&& 255).toInt32).toUInt32 % 65536).toInt32) hx hb dL_types_43 rfl ?_
            obtain ⟨r8, M9, e10, h⟩ := xm_b2_s h
            refine lm_p C hP hS [.int (((((x2 >>> (x5.toInt64 &&& 63)) &&& 255).toInt32).toUInt32 % 65536).toInt32)] [.int r5] (c_X6_type hDp n N (((((x2 >>> (x5.toInt64 &&& 63)) &&& 255).toInt32).toUInt32 % 65536).toInt32) r8 M9 e10) k_L_11 rfl rfl rfl ⟨(Nat.le_of_ble_eq_true rfl), (Nat.le_of_ble_eq_true rfl)⟩ hl.1 (Nat.le_of_ble_eq_true rfl) ⟨(Nat.le_of_ble_eq_true rfl), (Nat.le_of_ble_eq_true rfl)⟩ dL_types_44 (fun H locs hP hS => ?_)
            change W p l e _ s m _ below meth c H locs 0 0 _ (F0 m 47 ls [.int r8, .int r5])
            refine lv_icmp_ne (tgt := 54) hx hb dL_types_47 (by decide) (fun c11 => ?_) (fun c11 => ?_)
            · rw [if_neg c11] at h
              refine lv_iconst (v := 0) hx hb dL_types_54 (by decide) ?_
              refine lv_istore (lv' := [(4, .int 0), (6, .int (((x2 >>> (x5.toInt64 &&& 63)) &&& 255).toInt32)), (0, .ref (a 0)), (1, .ref (bb 0)), (2, .long x2), (5, .int x5)]) hx hb dL_types_55 hl (by decide) rfl (fun ls hl => ?_)
              refine lv_iinc (v := x5 + (-8)) (lv' := [(5, .int (x5 + (-8))), (4, .int 0), (6, .int (((x2 >>> (x5.toInt64 &&& 63)) &&& 255).toInt32)), (0, .ref (a 0)), (1, .ref (bb 0)), (2, .long x2)]) hx hb dL_types_57 hl (k := 5) rfl (xm_add (by decide)) (by decide) rfl (fun ls hl => ?_)
              refine lv_goto (tgt := 7) hx hb dL_types_60 (by decide) ?_
              exact ih M6 M9 x2 0 (x5 + (-8)) r M' N' h _ _ _ hP hS (lv_sub hl [3, 4, 5, 1, 0] rfl)
            · rw [if_pos c11] at h
              refine lv_iconst (v := 1) hx hb dL_types_50 (by decide) ?_
              refine lv_goto (tgt := 55) hx hb dL_types_51 (by decide) ?_
              refine lv_istore (lv' := [(4, .int 1), (6, .int (((x2 >>> (x5.toInt64 &&& 63)) &&& 255).toInt32)), (0, .ref (a 0)), (1, .ref (bb 0)), (2, .long x2), (5, .int x5)]) hx hb dL_types_55 hl (by decide) rfl (fun ls hl => ?_)
              refine lv_iinc (v := x5 + (-8)) (lv' := [(5, .int (x5 + (-8))), (4, .int 1), (6, .int (((x2 >>> (x5.toInt64 &&& 63)) &&& 255).toInt32)), (0, .ref (a 0)), (1, .ref (bb 0)), (2, .long x2)]) hx hb dL_types_57 hl (k := 5) rfl (xm_add (by decide)) (by decide) rfl (fun ls hl => ?_)
              refine lv_goto (tgt := 7) hx hb dL_types_60 (by decide) ?_
              exact ih M6 M9 x2 1 (x5 + (-8)) r M' N' h _ _ _ hP hS (lv_sub hl [3, 4, 5, 1, 0] rfl)
theorem t_L_types_7 {l : Launch} {p : Program} {e : Env} {s : State} {m : MethodId} {args : Array Value} {below : List Frame} {meth : Method} {c : Code} {E : xm_E} {a : Nat → Nat} {bb : Nat → Nat} (C : xm_C E (xj (xv E a) (xv E bb)) p s m args meth c RL cL_types 7 (some .boolean)) (n : Nat) (M N : xm_M) (x2 : Int64) (x4 : Int32) (x5 : Int32) (r : Int32) (M' N' : xm_M) : f_L_types_7 n M N x2 x4 x5 = some (r, M', N') → ∀ (H : Heap) (locs : List Loc) (ls : Array Slot), va_P E.1 vwCl (xm_w (xj (xv E a) (xv E bb)) (xk 120 M N)) H → va_S (xm_A (xj (xv E a) (xv E bb)) s.heap.size) s.heap H locs → lv_has ls 7 [(0, .ref (a 0)), (1, .ref (bb 0)), (2, .long x2), (4, .int x4), (5, .int x5)] → W p l e { frames := 2, cells := 0, slots := 0, locals := 42 } s m args below meth c H locs 0 0 (MQ below (xm_Q E (xj (xv E a) (xv E bb)) (xk 120 M' N') s.heap.size (some r)) args s 0 0 (xm_A (xj (xv E a) (xv E bb)) s.heap.size)) (F0 m 7 ls []) :=
  fun h H locs ls hP hS hl => (t_L_types_S7 C n) M N x2 x4 x5 r M' N' h H locs ls hP hS hl
def f_L_types (n : Nat) (M N : xm_M) (x2 : Int64) : Option (Int32 × xm_M × xm_M) := f_L_types_7 n M N x2 1 56
set_option maxHeartbeats 4000000 in
set_option maxRecDepth 100000 in
theorem t_L_types_0 {l : Launch} {p : Program} {e : Env} {s : State} {m : MethodId} {args : Array Value} {below : List Frame} {meth : Method} {c : Code} {E : xm_E} {a : Nat → Nat} {bb : Nat → Nat} (C : xm_C E (xj (xv E a) (xv E bb)) p s m args meth c RL cL_types 7 (some .boolean)) (n : Nat) (M N : xm_M) (x2 : Int64) (r : Int32) (M' N' : xm_M) : f_L_types n M N x2 = some (r, M', N') → ∀ (H : Heap) (locs : List Loc) (ls : Array Slot), va_P E.1 vwCl (xm_w (xj (xv E a) (xv E bb)) (xk 120 M N)) H → va_S (xm_A (xj (xv E a) (xv E bb)) s.heap.size) s.heap H locs → lv_has ls 7 [(0, .ref (a 0)), (1, .ref (bb 0)), (2, .long x2)] → W p l e { frames := 2, cells := 0, slots := 0, locals := 42 } s m args below meth c H locs 0 0 (MQ below (xm_Q E (xj (xv E a) (xv E bb)) (xk 120 M' N') s.heap.size (some r)) args s 0 0 (xm_A (xj (xv E a) (xv E bb)) s.heap.size)) (F0 m 0 ls []) := by
  have C9 := C
  obtain ⟨hx, hb, hml, hown, hts, hr, hlk, hD, hK, hS9⟩ := C9
  have hDo := xj_D1 hD
  have hDp := xj_D2 hD
  intro h H locs ls hP hS hl
  unfold f_L_types at h
  refine lv_iconst (v := 1) hx hb dL_types_0 (by decide) ?_
  refine lv_istore (lv' := [(4, .int 1), (0, .ref (a 0)), (1, .ref (bb 0)), (2, .long x2)]) hx hb dL_types_1 hl (by decide) rfl (fun ls hl => ?_)
  refine lv_bipush (v := 56) hx hb dL_types_3 (by decide) ?_
  refine lv_istore (lv' := [(5, .int 56), (4, .int 1), (0, .ref (a 0)), (1, .ref (bb 0)), (2, .long x2)]) hx hb dL_types_5 hl (by decide) rfl (fun ls hl => ?_)
  exact t_L_types_7 C n M N x2 1 56 r M' N' h _ _ _ hP hS (lv_sub hl [2, 3, 4, 1, 0] rfl)
theorem c_L_types {l : Launch} {E : xm_E} {a : Nat → Nat} {bb : Nat → Nat} (hD : xm_D (xj (xv E a) (xv E bb))) (n : Nat) (M N : xm_M) (x2 : Int64) (r : Int32) (M' N' : xm_M) (h : f_L_types n M N x2 = some (r, M', N')) : xm_Met l E (xj (xv E a) (xv E bb)) yL_types cL_types 7 (some .boolean) 2 42 [.ref (a 0), .ref (bb 0), .long x2] (xk 120 M N) (xk 120 M' N') (some r) :=
  xm_met (by decide +kernel) rfl (Nat.le_of_ble_eq_true rfl) hD (fun p e s m below meth c C hP ls hl => t_L_types_0 C n M N x2 r M' N' h _ _ _ hP va_S.rf hl)
