
def f_L_isWell_413 (n : Nat) (M N : xm_M) (x3 : Int32) (x4 : Int32) (x5 : Int32) (x6 : Int32) : Option (Int32 × xm_M × xm_M) := if x6 = 0 then some (0, M, N) else if x5 = 0 then xm_b2 (f_X6_count n M 2) (fun r3 M4 => if x4 = r3 then xm_b2 (f_X6_count n M4 6) (fun r7 M8 => if x3 = r7 then xm_b2 (f_X6_count n M8 4) (fun r11 M12 => xm_b2 (f_X6_count n M12 3) (fun r14 M15 => if r14 < r11 then some (0, M15, N) else xm_b2 (f_X6_count n M15 4) (fun r18 M19 => xm_b2 (f_X6_count n M19 3) (fun r21 M22 => xm_b2 (f_X6_count n M22 5) (fun r24 M25 => if r18 < (r21 - r24) then some (0, M25, N) else some (1, M25, N)))))) else some (0, M8, N)) else some (0, M4, N)) else some (0, M, N)
set_option maxHeartbeats 4000000 in
set_option maxRecDepth 100000 in
theorem t_L_isWell_413 {l : Launch} {p : Program} {e : Env} {s : State} {m : MethodId} {args : Array Value} {below : List Frame} {meth : Method} {c : Code} {E : xm_E} {a : Nat → Nat} {q : Nat} (C : xm_C E (xj (xv E a) (xq E q)) p s m args meth c RL cL_isWell 9 (some .boolean)) (n : Nat) (M N : xm_M) (x3 : Int32) (x4 : Int32) (x5 : Int32) (x6 : Int32) (r : Int32) (M' N' : xm_M) : f_L_isWell_413 n M N x3 x4 x5 x6 = some (r, M', N') → ∀ (H : Heap) (locs : List Loc) (ls : Array Slot), va_P E.1 vwCl (xm_w (xj (xv E a) (xq E q)) (xk 120 M N)) H → va_S (xm_A (xj (xv E a) (xq E q)) s.heap.size) s.heap H locs → lv_has ls 9 [(0, .ref (a 0)), (3, .int x3), (4, .int x4), (5, .int x5), (6, .int x6)] → W p l e { frames := 9, cells := 1, slots := 25, locals := 219 } s m args below meth c H locs 1 25 (MQ below (xm_Q E (xj (xv E a) (xq E q)) (xk 120 M' N') s.heap.size (some r)) args s 1 25 (xm_A (xj (xv E a) (xq E q)) s.heap.size)) (F0 m 413 ls []) := by
  have C9 := C
  obtain ⟨hx, hb, hml, hown, hts, hr, hlk, hD, hK, hS9⟩ := C9
  have hDo := xj_D1 hD
  have hDp := xj_D2 hD
  intro h H locs ls hP hS hl
  unfold f_L_isWell_413 at h
  refine lv_iload hx hb dL_isWell_413 (lv_at hl 4 rfl) ?_
  refine lv_if_eq (tgt := 479) hx hb dL_isWell_415 (by decide) (fun c1 => ?_) (fun c1 => ?_)
  · rw [if_pos c1] at h
    refine lv_iconst (v := 0) hx hb dL_isWell_479 (by decide) ?_
    obtain ⟨rfl, rfl, rfl⟩ := xm_p3 h
    exact lm_retZ C hP hS (by rfl) dL_isWell_480
  · rw [if_neg c1] at h
    refine lv_iload hx hb dL_isWell_418 (lv_at hl 3 rfl) ?_
    refine lv_if_ne (tgt := 479) hx hb dL_isWell_420 (by decide) (fun c2 => ?_) (fun c2 => ?_)
    · rw [if_neg c2] at h
      refine lv_iconst (v := 0) hx hb dL_isWell_479 (by decide) ?_
      obtain ⟨rfl, rfl, rfl⟩ := xm_p3 h
      exact lm_retZ C hP hS (by rfl) dL_isWell_480
    · rw [if_pos c2] at h
      refine lv_iload hx hb dL_isWell_423 (lv_at hl 2 rfl) ?_
      refine lv_aload_n hx hb dL_isWell_425 rfl (lv_at hl 0 rfl) ?_
      refine lv_iconst (v := 2) hx hb dL_isWell_426 (by decide) ?_
      obtain ⟨r3, M4, e5, h⟩ := xm_b2_s h
      refine lm_o C hP hS [.int 2] [.int x4] (c_X6_count hDo n M 2 r3 M4 e5) k_L_47 rfl rfl rfl ⟨(Nat.le_of_ble_eq_true rfl), (Nat.le_of_ble_eq_true rfl)⟩ hl.1 (Nat.le_of_ble_eq_true rfl) ⟨(Nat.le_of_ble_eq_true rfl), (Nat.le_of_ble_eq_true rfl)⟩ dL_isWell_427 (fun H locs hP hS => ?_)
      change W p l e _ s m _ below meth c H locs 1 25 _ (F0 m 430 ls [.int r3, .int x4])
      refine lv_icmp_ne (tgt := 479) hx hb dL_isWell_430 (by decide) (fun c6 => ?_) (fun c6 => ?_)
      · rw [if_neg c6] at h
        refine lv_iconst (v := 0) hx hb dL_isWell_479 (by decide) ?_
        obtain ⟨rfl, rfl, rfl⟩ := xm_p3 h
        exact lm_retZ C hP hS (by rfl) dL_isWell_480
      · rw [if_pos c6] at h
        refine lv_iload_n hx hb dL_isWell_433 rfl (lv_at hl 1 rfl) ?_
        refine lv_aload_n hx hb dL_isWell_434 rfl (lv_at hl 0 rfl) ?_
        refine lv_bipush (v := 6) hx hb dL_isWell_435 (by decide) ?_
        obtain ⟨r7, M8, e9, h⟩ := xm_b2_s h
        refine lm_o C hP hS [.int 6] [.int x3] (c_X6_count hDo n M4 6 r7 M8 e9) k_L_47 rfl rfl rfl ⟨(Nat.le_of_ble_eq_true rfl), (Nat.le_of_ble_eq_true rfl)⟩ hl.1 (Nat.le_of_ble_eq_true rfl) ⟨(Nat.le_of_ble_eq_true rfl), (Nat.le_of_ble_eq_true rfl)⟩ dL_isWell_437 (fun H locs hP hS => ?_)
        change W p l e _ s m _ below meth c H locs 1 25 _ (F0 m 440 ls [.int r7, .int x3])
        refine lv_icmp_ne (tgt := 479) hx hb dL_isWell_440 (by decide) (fun c10 => ?_) (fun c10 => ?_)
        · rw [if_neg c10] at h
          refine lv_iconst (v := 0) hx hb dL_isWell_479 (by decide) ?_
          obtain ⟨rfl, rfl, rfl⟩ := xm_p3 h
          exact lm_retZ C hP hS (by rfl) dL_isWell_480
        · rw [if_pos c10] at h
          refine lv_aload_n hx hb dL_isWell_443 rfl (lv_at hl 0 rfl) ?_
          refine lv_iconst (v := 4) hx hb dL_isWell_444 (by decide) ?_
          obtain ⟨r11, M12, e13, h⟩ := xm_b2_s h
          refine lm_o C hP hS [.int 4] [] (c_X6_count hDo n M8 4 r11 M12 e13) k_L_47 rfl rfl rfl ⟨(Nat.le_of_ble_eq_true rfl), (Nat.le_of_ble_eq_true rfl)⟩ hl.1 (Nat.le_of_ble_eq_true rfl) ⟨(Nat.le_of_ble_eq_true rfl), (Nat.le_of_ble_eq_true rfl)⟩ dL_isWell_445 (fun H locs hP hS => ?_)
          change W p l e _ s m _ below meth c H locs 1 25 _ (F0 m 448 ls [.int r11])
          refine lv_aload_n hx hb dL_isWell_448 rfl (lv_at hl 0 rfl) ?_
          refine lv_iconst (v := 3) hx hb dL_isWell_449 (by decide) ?_
          obtain ⟨r14, M15, e16, h⟩ := xm_b2_s h
          refine lm_o C hP hS [.int 3] [.int r11] (c_X6_count hDo n M12 3 r14 M15 e16) k_L_47 rfl rfl rfl ⟨(Nat.le_of_ble_eq_true rfl), (Nat.le_of_ble_eq_true rfl)⟩ hl.1 (Nat.le_of_ble_eq_true rfl) ⟨(Nat.le_of_ble_eq_true rfl), (Nat.le_of_ble_eq_true rfl)⟩ dL_isWell_450 (fun H locs hP hS => ?_)
          change W p l e _ s m _ below meth c H locs 1 25 _ (F0 m 453 ls [.int r14, .int r11])
          refine lv_icmp_gt (tgt := 479) hx hb dL_isWell_453 (by decide) (fun c17 => ?_) (fun c17 => ?_)
          · rw [if_pos c17] at h
            refine lv_iconst (v := 0) hx hb dL_isWell_479 (by decide) ?_
            obtain ⟨rfl, rfl, rfl⟩ := xm_p3 h
            exact lm_retZ C hP hS (by rfl) dL_isWell_480
          · rw [if_neg c17] at h
            refine lv_aload_n hx hb dL_isWell_456 rfl (lv_at hl 0 rfl) ?_
            refine lv_iconst (v := 4) hx hb dL_isWell_457 (by decide) ?_
            obtain ⟨r18, M19, e20, h⟩ := xm_b2_s h
            refine lm_o C hP hS [.int 4] [] (c_X6_count hDo n M15 4 r18 M19 e20) k_L_47 rfl rfl rfl ⟨(Nat.le_of_ble_eq_true rfl), (Nat.le_of_ble_eq_true rfl)⟩ hl.1 (Nat.le_of_ble_eq_true rfl) ⟨(Nat.le_of_ble_eq_true rfl), (Nat.le_of_ble_eq_true rfl)⟩ dL_isWell_458 (fun H locs hP hS => ?_)
            change W p l e _ s m _ below meth c H locs 1 25 _ (F0 m 461 ls [.int r18])
            refine lv_aload_n hx hb dL_isWell_461 rfl (lv_at hl 0 rfl) ?_
            refine lv_iconst (v := 3) hx hb dL_isWell_462 (by decide) ?_
            obtain ⟨r21, M22, e23, h⟩ := xm_b2_s h
            refine lm_o C hP hS [.int 3] [.int r18] (c_X6_count hDo n M19 3 r21 M22 e23) k_L_47 rfl rfl rfl ⟨(Nat.le_of_ble_eq_true rfl), (Nat.le_of_ble_eq_true rfl)⟩ hl.1 (Nat.le_of_ble_eq_true rfl) ⟨(Nat.le_of_ble_eq_true rfl), (Nat.le_of_ble_eq_true rfl)⟩ dL_isWell_463 (fun H locs hP hS => ?_)
            change W p l e _ s m _ below meth c H locs 1 25 _ (F0 m 466 ls [.int r21, .int r18])
            refine lv_aload_n hx hb dL_isWell_466 rfl (lv_at hl 0 rfl) ?_
            refine lv_iconst (v := 5) hx hb dL_isWell_467 (by decide) ?_
            obtain ⟨r24, M25, e26, h⟩ := xm_b2_s h
            refine lm_o C hP hS [.int 5] [.int r21, .int r18] (c_X6_count hDo n M22 5 r24 M25 e26) k_L_47 rfl rfl rfl ⟨(Nat.le_of_ble_eq_true rfl), (Nat.le_of_ble_eq_true rfl)⟩ hl.1 (Nat.le_of_ble_eq_true rfl) ⟨(Nat.le_of_ble_eq_true rfl), (Nat.le_of_ble_eq_true rfl)⟩ dL_isWell_468 (fun H locs hP hS => ?_)
            change W p l e _ s m _ below meth c H locs 1 25 _ (F0 m 471 ls [.int r24, .int r21, .int r18])
            refine lv_isub hx hb dL_isWell_471 ?_
            refine lv_icmp_lt (tgt := 479) hx hb dL_isWell_472 (by decide) (fun c27 => ?_) (fun c27 => ?_)
            · rw [if_pos c27] at h
              refine lv_iconst (v := 0) hx hb dL_isWell_479 (by decide) ?_
              obtain ⟨rfl, rfl, rfl⟩ := xm_p3 h
              exact lm_retZ C hP hS (by rfl) dL_isWell_480
            · rw [if_neg c27] at h
              refine lv_iconst (v := 1) hx hb dL_isWell_475 (by decide) ?_
              refine lv_goto (tgt := 480) hx hb dL_isWell_476 (by decide) ?_
              obtain ⟨rfl, rfl, rfl⟩ := xm_p3 h
              exact lm_retZ C hP hS (by rfl) dL_isWell_480
def f_L_isWell_S234 : Nat → Nat → xm_M → xm_M → Int32 → Int32 → Int32 → Int32 → Int32 → Option (Int32 × xm_M × xm_M)
  | 0, _, _, _, _, _, _, _, _ => none
  | n + 1, _, M, N, x3, x4, x5, x6, x7 => xm_b2 (f_X6_count n M 1) (fun r1 M2 => if r1 ≤ x7 then f_L_isWell_413 n M2 N x3 x4 x5 x6 else if x6 = 0 then f_L_isWell_413 n M2 N x3 x4 x5 x6 else xm_b2 (f_X6_pattern n M2 x7 4) (fun r6 M7 => xm_b2 (f_X6_pattern n M7 x7 3) (fun r9 M10 => xm_b2 (f_X6_pattern n M10 x7 5) (fun r12 M13 => if r6 < r12 then f_L_isWell_S234 n 0 M13 N x3 (x4 + r6) (x5 - (r6 * r9)) 0 (x7 + 1) else xm_b2 (f_X6_pattern n M13 x7 6) (fun r16 M17 => if r16 < 0 then f_L_isWell_S234 n 0 M17 N x3 (x4 + r6) (x5 - (r6 * r9)) 0 (x7 + 1) else xm_b2 (f_X6_pattern n M17 x7 2) (fun r20 M21 => if (7 : Int32) < r20 then f_L_isWell_S234 n 0 M21 N x3 (x4 + r6) (x5 - (r6 * r9)) 0 (x7 + 1) else xm_b2 (f_X6_pattern n M21 x7 3) (fun r24 M25 => if r24 < 2 then f_L_isWell_S234 n 0 M25 N x3 (x4 + r6) (x5 - (r6 * r9)) 0 (x7 + 1) else xm_b2 (f_X6_pattern n M25 x7 3) (fun r28 M29 => if (4 : Int32) < r28 then f_L_isWell_S234 n 0 M29 N x3 (x4 + r6) (x5 - (r6 * r9)) 0 (x7 + 1) else xm_b2 (f_X6_step n M29 x7 0 1) (fun r32 M33 => if r32 = 0 then xm_b2 (f_X6_pattern n M33 x7 2) (fun r36 M37 => xm_b2 (f_X6_step n M37 x7 (r36 - 1) 1) (fun r39 M40 => if r39 = 0 then xm_b2 (f_X6_match n M40 x7 r6 0) (fun r43 M44 => if r43 = ((-5)) then if r6 = 0 then f_L_isWell_S234 n 0 M44 N x3 (x4 + r6) (x5 - (r6 * r9)) 1 (x7 + 1) else xm_b2 (f_X6_match n M44 x7 (r6 - 1) 0) (fun r48 M49 => if r48 < 0 then f_L_isWell_S234 n 0 M49 N x3 (x4 + r6) (x5 - (r6 * r9)) 0 (x7 + 1) else f_L_isWell_S234 n 0 M49 N x3 (x4 + r6) (x5 - (r6 * r9)) 1 (x7 + 1)) else f_L_isWell_S234 n 0 M44 N x3 (x4 + r6) (x5 - (r6 * r9)) 0 (x7 + 1)) else f_L_isWell_S234 n 0 M40 N x3 (x4 + r6) (x5 - (r6 * r9)) 0 (x7 + 1))) else f_L_isWell_S234 n 0 M33 N x3 (x4 + r6) (x5 - (r6 * r9)) 0 (x7 + 1))))))))))
def f_L_isWell_234 (n : Nat) (M N : xm_M) (x3 : Int32) (x4 : Int32) (x5 : Int32) (x6 : Int32) (x7 : Int32) : Option (Int32 × xm_M × xm_M) := f_L_isWell_S234 n 0 M N x3 x4 x5 x6 x7
set_option maxHeartbeats 4000000 in
set_option maxRecDepth 100000 in
theorem t_L_isWell_S234 {l : Launch} {p : Program} {e : Env} {s : State} {m : MethodId} {args : Array Value} {below : List Frame} {meth : Method} {c : Code} {E : xm_E} {a : Nat → Nat} {q : Nat} (C : xm_C E (xj (xv E a) (xq E q)) p s m args meth c RL cL_isWell 9 (some .boolean)) : ∀ (n : Nat), (∀ (M N : xm_M) (x3 : Int32) (x4 : Int32) (x5 : Int32) (x6 : Int32) (x7 : Int32) (r : Int32) (M' N' : xm_M), f_L_isWell_S234 n 0 M N x3 x4 x5 x6 x7 = some (r, M', N') → ∀ (H : Heap) (locs : List Loc) (ls : Array Slot), va_P E.1 vwCl (xm_w (xj (xv E a) (xq E q)) (xk 120 M N)) H → va_S (xm_A (xj (xv E a) (xq E q)) s.heap.size) s.heap H locs → lv_has ls 9 [(0, .ref (a 0)), (3, .int x3), (4, .int x4), (5, .int x5), (6, .int x6), (7, .int x7)] → W p l e { frames := 9, cells := 1, slots := 25, locals := 219 } s m args below meth c H locs 1 25 (MQ below (xm_Q E (xj (xv E a) (xq E q)) (xk 120 M' N') s.heap.size (some r)) args s 1 25 (xm_A (xj (xv E a) (xq E q)) s.heap.size)) (F0 m 234 ls [])) := by
  have C9 := C
  obtain ⟨hx, hb, hml, hown, hts, hr, hlk, hD, hK, hS9⟩ := C9
  have hDo := xj_D1 hD
  have hDp := xj_D2 hD
  intro n
  induction n with
  | zero =>
    refine (fun M N x3 x4 x5 x6 x7 r M' N' h => ?_)
    all_goals cases h
  | succ n ih =>
    refine (fun M N x3 x4 x5 x6 x7 r M' N' h H locs ls hP hS hl => ?_)
    · rw [f_L_isWell_S234] at h
      refine lv_iload hx hb dL_isWell_234 (lv_at hl 5 rfl) ?_
      refine lv_aload_n hx hb dL_isWell_236 rfl (lv_at hl 0 rfl) ?_
      refine lv_iconst (v := 1) hx hb dL_isWell_237 (by decide) ?_
      obtain ⟨r1, M2, e3, h⟩ := xm_b2_s h
      refine lm_o C hP hS [.int 1] [.int x7] (c_X6_count hDo n M 1 r1 M2 e3) k_L_47 rfl rfl rfl ⟨(Nat.le_of_ble_eq_true rfl), (Nat.le_of_ble_eq_true rfl)⟩ hl.1 (Nat.le_of_ble_eq_true rfl) ⟨(Nat.le_of_ble_eq_true rfl), (Nat.le_of_ble_eq_true rfl)⟩ dL_isWell_238 (fun H locs hP hS => ?_)
      change W p l e _ s m _ below meth c H locs 1 25 _ (F0 m 241 ls [.int r1, .int x7])
      refine lv_icmp_ge (tgt := 413) hx hb dL_isWell_241 (by decide) (fun c4 => ?_) (fun c4 => ?_)
      · rw [if_pos c4] at h
        exact t_L_isWell_413 C n M2 N x3 x4 x5 x6 r M' N' h _ _ _ hP hS (lv_sub hl [0, 1, 2, 3, 4] rfl)
      · rw [if_neg c4] at h
        refine lv_iload hx hb dL_isWell_244 (lv_at hl 4 rfl) ?_
        refine lv_if_eq (tgt := 413) hx hb dL_isWell_246 (by decide) (fun c5 => ?_) (fun c5 => ?_)
        · rw [if_pos c5] at h
          exact t_L_isWell_413 C n M2 N x3 x4 x5 x6 r M' N' h _ _ _ hP hS (lv_sub hl [0, 1, 2, 3, 4] rfl)
        · rw [if_neg c5] at h
          refine lv_aload_n hx hb dL_isWell_249 rfl (lv_at hl 0 rfl) ?_
          refine lv_iload hx hb dL_isWell_250 (lv_at hl 5 rfl) ?_
          refine lv_iconst (v := 4) hx hb dL_isWell_252 (by decide) ?_
          obtain ⟨r6, M7, e8, h⟩ := xm_b2_s h
          refine lm_o C hP hS [.int x7, .int 4] [] (c_X6_pattern hDo n M2 x7 4 r6 M7 e8) k_L_54 rfl rfl rfl ⟨(Nat.le_of_ble_eq_true rfl), (Nat.le_of_ble_eq_true rfl)⟩ hl.1 (Nat.le_of_ble_eq_true rfl) ⟨(Nat.le_of_ble_eq_true rfl), (Nat.le_of_ble_eq_true rfl)⟩ dL_isWell_253 (fun H locs hP hS => ?_)
          change W p l e _ s m _ below meth c H locs 1 25 _ (F0 m 256 ls [.int r6])
          refine lv_istore (lv' := [(8, .int r6), (0, .ref (a 0)), (3, .int x3), (4, .int x4), (5, .int x5), (6, .int x6), (7, .int x7)]) hx hb dL_isWell_256 hl (by decide) rfl (fun ls hl => ?_)
          refine lv_iload hx hb dL_isWell_258 (lv_at hl 3 rfl) ?_
          refine lv_iload hx hb dL_isWell_260 (lv_at hl 0 rfl) ?_
          refine lv_iadd hx hb dL_isWell_262 ?_
          refine lv_istore (lv' := [(4, .int (x4 + r6)), (8, .int r6), (0, .ref (a 0)), (3, .int x3), (5, .int x5), (6, .int x6), (7, .int x7)]) hx hb dL_isWell_263 hl (by decide) rfl (fun ls hl => ?_)
          refine lv_iload hx hb dL_isWell_265 (lv_at hl 4 rfl) ?_
          refine lv_iload hx hb dL_isWell_267 (lv_at hl 1 rfl) ?_
          refine lv_aload_n hx hb dL_isWell_269 rfl (lv_at hl 2 rfl) ?_
          refine lv_iload hx hb dL_isWell_270 (lv_at hl 6 rfl) ?_
          refine lv_iconst (v := 3) hx hb dL_isWell_272 (by decide) ?_
          obtain ⟨r9, M10, e11, h⟩ := xm_b2_s h
          refine lm_o C hP hS [.int x7, .int 3] [.int r6, .int x5] (c_X6_pattern hDo n M7 x7 3 r9 M10 e11) k_L_54 rfl rfl rfl ⟨(Nat.le_of_ble_eq_true rfl), (Nat.le_of_ble_eq_true rfl)⟩ hl.1 (Nat.le_of_ble_eq_true rfl) ⟨(Nat.le_of_ble_eq_true rfl), (Nat.le_of_ble_eq_true rfl)⟩ dL_isWell_273 (fun H locs hP hS => ?_)
          change W p l e _ s m _ below meth c H locs 1 25 _ (F0 m 276 ls [.int r9, .int r6, .int x5])
          refine lv_imul hx hb dL_isWell_276 ?_
          refine lv_isub hx hb dL_isWell_277 ?_
          refine lv_istore (lv' := [(5, .int (x5 - (r6 * r9))), (4, .int (x4 + r6)), (8, .int r6), (0, .ref (a 0)), (3, .int x3), (6, .int x6), (7, .int x7)]) hx hb dL_isWell_278 hl (by decide) rfl (fun ls hl => ?_)
          refine lv_aload_n hx hb dL_isWell_280 rfl (lv_at hl 3 rfl) ?_
          refine lv_iload hx hb dL_isWell_281 (lv_at hl 6 rfl) ?_
          refine lv_iconst (v := 5) hx hb dL_isWell_283 (by decide) ?_
          obtain ⟨r12, M13, e14, h⟩ := xm_b2_s h
          refine lm_o C hP hS [.int x7, .int 5] [] (c_X6_pattern hDo n M10 x7 5 r12 M13 e14) k_L_54 rfl rfl rfl ⟨(Nat.le_of_ble_eq_true rfl), (Nat.le_of_ble_eq_true rfl)⟩ hl.1 (Nat.le_of_ble_eq_true rfl) ⟨(Nat.le_of_ble_eq_true rfl), (Nat.le_of_ble_eq_true rfl)⟩ dL_isWell_284 (fun H locs hP hS => ?_)
          change W p l e _ s m _ below meth c H locs 1 25 _ (F0 m 287 ls [.int r12])
          refine lv_iload hx hb dL_isWell_287 (lv_at hl 2 rfl) ?_
          refine lv_icmp_gt (tgt := 404) hx hb dL_isWell_289 (by decide) (fun c15 => ?_) (fun c15 => ?_)
          · rw [if_pos c15] at h
            refine lv_iconst (v := 0) hx hb dL_isWell_404 (by decide) ?_
            refine lv_istore (lv' := [(6, .int 0), (5, .int (x5 - (r6 * r9))), (4, .int (x4 + r6)), (8, .int r6), (0, .ref (a 0)), (3, .int x3), (7, .int x7)]) hx hb dL_isWell_405 hl (by decide) rfl (fun ls hl => ?_)
            refine lv_iinc (v := x7 + 1) (lv' := [(7, .int (x7 + 1)), (6, .int 0), (5, .int (x5 - (r6 * r9))), (4, .int (x4 + r6)), (8, .int r6), (0, .ref (a 0)), (3, .int x3)]) hx hb dL_isWell_407 hl (k := 6) rfl (xm_add (by decide)) (by decide) rfl (fun ls hl => ?_)
            refine lv_goto (tgt := 234) hx hb dL_isWell_410 (by decide) ?_
            exact ih M13 N x3 (x4 + r6) (x5 - (r6 * r9)) 0 (x7 + 1) r M' N' h _ _ _ hP hS (lv_sub hl [5, 6, 3, 2, 1, 0] rfl)
          · rw [if_neg c15] at h
            refine lv_aload_n hx hb dL_isWell_292 rfl (lv_at hl 3 rfl) ?_
            refine lv_iload hx hb dL_isWell_293 (lv_at hl 6 rfl) ?_
            refine lv_bipush (v := 6) hx hb dL_isWell_295 (by decide) ?_
            obtain ⟨r16, M17, e18, h⟩ := xm_b2_s h
            refine lm_o C hP hS [.int x7, .int 6] [] (c_X6_pattern hDo n M13 x7 6 r16 M17 e18) k_L_54 rfl rfl rfl ⟨(Nat.le_of_ble_eq_true rfl), (Nat.le_of_ble_eq_true rfl)⟩ hl.1 (Nat.le_of_ble_eq_true rfl) ⟨(Nat.le_of_ble_eq_true rfl), (Nat.le_of_ble_eq_true rfl)⟩ dL_isWell_297 (fun H locs hP hS => ?_)
            change W p l e _ s m _ below meth c H locs 1 25 _ (F0 m 300 ls [.int r16])
            refine lv_if_lt (tgt := 404) hx hb dL_isWell_300 (by decide) (fun c19 => ?_) (fun c19 => ?_)
            · rw [if_pos c19] at h
              refine lv_iconst (v := 0) hx hb dL_isWell_404 (by decide) ?_
              refine lv_istore (lv' := [(6, .int 0), (5, .int (x5 - (r6 * r9))), (4, .int (x4 + r6)), (8, .int r6), (0, .ref (a 0)), (3, .int x3), (7, .int x7)]) hx hb dL_isWell_405 hl (by decide) rfl (fun ls hl => ?_)
              refine lv_iinc (v := x7 + 1) (lv' := [(7, .int (x7 + 1)), (6, .int 0), (5, .int (x5 - (r6 * r9))), (4, .int (x4 + r6)), (8, .int r6), (0, .ref (a 0)), (3, .int x3)]) hx hb dL_isWell_407 hl (k := 6) rfl (xm_add (by decide)) (by decide) rfl (fun ls hl => ?_)
              refine lv_goto (tgt := 234) hx hb dL_isWell_410 (by decide) ?_
              exact ih M17 N x3 (x4 + r6) (x5 - (r6 * r9)) 0 (x7 + 1) r M' N' h _ _ _ hP hS (lv_sub hl [5, 6, 3, 2, 1, 0] rfl)
            · rw [if_neg c19] at h
              refine lv_aload_n hx hb dL_isWell_303 rfl (lv_at hl 3 rfl) ?_
              refine lv_iload hx hb dL_isWell_304 (lv_at hl 6 rfl) ?_
              refine lv_iconst (v := 2) hx hb dL_isWell_306 (by decide) ?_
              obtain ⟨r20, M21, e22, h⟩ := xm_b2_s h
              refine lm_o C hP hS [.int x7, .int 2] [] (c_X6_pattern hDo n M17 x7 2 r20 M21 e22) k_L_54 rfl rfl rfl ⟨(Nat.le_of_ble_eq_true rfl), (Nat.le_of_ble_eq_true rfl)⟩ hl.1 (Nat.le_of_ble_eq_true rfl) ⟨(Nat.le_of_ble_eq_true rfl), (Nat.le_of_ble_eq_true rfl)⟩ dL_isWell_307 (fun H locs hP hS => ?_)
              change W p l e _ s m _ below meth c H locs 1 25 _ (F0 m 310 ls [.int r20])
              refine lv_bipush (v := 7) hx hb dL_isWell_310 (by decide) ?_
              refine lv_icmp_gt (tgt := 404) hx hb dL_isWell_312 (by decide) (fun c23 => ?_) (fun c23 => ?_)
              · rw [if_pos c23] at h
                refine lv_iconst (v := 0) hx hb dL_isWell_404 (by decide) ?_
                refine lv_istore (lv' := [(6, .int 0), (5, .int (x5 - (r6 * r9))), (4, .int (x4 + r6)), (8, .int r6), (0, .ref (a 0)), (3, .int x3), (7, .int x7)]) hx hb dL_isWell_405 hl (by decide) rfl (fun ls hl => ?_)
                refine lv_iinc (v := x7 + 1) (lv' := [(7, .int (x7 + 1)), (6, .int 0), (5, .int (x5 - (r6 * r9))), (4, .int (x4 + r6)), (8, .int r6), (0, .ref (a 0)), (3, .int x3)]) hx hb dL_isWell_407 hl (k := 6) rfl (xm_add (by decide)) (by decide) rfl (fun ls hl => ?_)
                refine lv_goto (tgt := 234) hx hb dL_isWell_410 (by decide) ?_
                exact ih M21 N x3 (x4 + r6) (x5 - (r6 * r9)) 0 (x7 + 1) r M' N' h _ _ _ hP hS (lv_sub hl [5, 6, 3, 2, 1, 0] rfl)
              · rw [if_neg c23] at h
                refine lv_aload_n hx hb dL_isWell_315 rfl (lv_at hl 3 rfl) ?_
                refine lv_iload hx hb dL_isWell_316 (lv_at hl 6 rfl) ?_
                refine lv_iconst (v := 3) hx hb dL_isWell_318 (by decide) ?_
                obtain ⟨r24, M25, e26, h⟩ := xm_b2_s h
                refine lm_o C hP hS [.int x7, .int 3] [] (c_X6_pattern hDo n M21 x7 3 r24 M25 e26) k_L_54 rfl rfl rfl ⟨(Nat.le_of_ble_eq_true rfl), (Nat.le_of_ble_eq_true rfl)⟩ hl.1 (Nat.le_of_ble_eq_true rfl) ⟨(Nat.le_of_ble_eq_true rfl), (Nat.le_of_ble_eq_true rfl)⟩ dL_isWell_319 (fun H locs hP hS => ?_)
                change W p l e _ s m _ below meth c H locs 1 25 _ (F0 m 322 ls [.int r24])
                refine lv_iconst (v := 2) hx hb dL_isWell_322 (by decide) ?_
                refine lv_icmp_lt (tgt := 404) hx hb dL_isWell_323 (by decide) (fun c27 => ?_) (fun c27 => ?_)
                · rw [if_pos c27] at h
                  refine lv_iconst (v := 0) hx hb dL_isWell_404 (by decide) ?_
                  refine lv_istore (lv' := [(6, .int 0), (5, .int (x5 - (r6 * r9))), (4, .int (x4 + r6)), (8, .int r6), (0, .ref (a 0)), (3, .int x3), (7, .int x7)]) hx hb dL_isWell_405 hl (by decide) rfl (fun ls hl => ?_)
                  refine lv_iinc (v := x7 + 1) (lv' := [(7, .int (x7 + 1)), (6, .int 0), (5, .int (x5 - (r6 * r9))), (4, .int (x4 + r6)), (8, .int r6), (0, .ref (a 0)), (3, .int x3)]) hx hb dL_isWell_407 hl (k := 6) rfl (xm_add (by decide)) (by decide) rfl (fun ls hl => ?_)
                  refine lv_goto (tgt := 234) hx hb dL_isWell_410 (by decide) ?_
                  exact ih M25 N x3 (x4 + r6) (x5 - (r6 * r9)) 0 (x7 + 1) r M' N' h _ _ _ hP hS (lv_sub hl [5, 6, 3, 2, 1, 0] rfl)
                · rw [if_neg c27] at h
                  refine lv_aload_n hx hb dL_isWell_326 rfl (lv_at hl 3 rfl) ?_
                  refine lv_iload hx hb dL_isWell_327 (lv_at hl 6 rfl) ?_
                  refine lv_iconst (v := 3) hx hb dL_isWell_329 (by decide) ?_
                  obtain ⟨r28, M29, e30, h⟩ := xm_b2_s h
                  refine lm_o C hP hS [.int x7, .int 3] [] (c_X6_pattern hDo n M25 x7 3 r28 M29 e30) k_L_54 rfl rfl rfl ⟨(Nat.le_of_ble_eq_true rfl), (Nat.le_of_ble_eq_true rfl)⟩ hl.1 (Nat.le_of_ble_eq_true rfl) ⟨(Nat.le_of_ble_eq_true rfl), (Nat.le_of_ble_eq_true rfl)⟩ dL_isWell_330 (fun H locs hP hS => ?_)
                  change W p l e _ s m _ below meth c H locs 1 25 _ (F0 m 333 ls [.int r28])
                  refine lv_iconst (v := 4) hx hb dL_isWell_333 (by decide) ?_
                  refine lv_icmp_gt (tgt := 404) hx hb dL_isWell_334 (by decide) (fun c31 => ?_) (fun c31 => ?_)
                  · rw [if_pos c31] at h
                    refine lv_iconst (v := 0) hx hb dL_isWell_404 (by decide) ?_
                    refine lv_istore (lv' := [(6, .int 0), (5, .int (x5 - (r6 * r9))), (4, .int (x4 + r6)), (8, .int r6), (0, .ref (a 0)), (3, .int x3), (7, .int x7)]) hx hb dL_isWell_405 hl (by decide) rfl (fun ls hl => ?_)
                    refine lv_iinc (v := x7 + 1) (lv' := [(7, .int (x7 + 1)), (6, .int 0), (5, .int (x5 - (r6 * r9))), (4, .int (x4 + r6)), (8, .int r6), (0, .ref (a 0)), (3, .int x3)]) hx hb dL_isWell_407 hl (k := 6) rfl (xm_add (by decide)) (by decide) rfl (fun ls hl => ?_)
                    refine lv_goto (tgt := 234) hx hb dL_isWell_410 (by decide) ?_
                    exact ih M29 N x3 (x4 + r6) (x5 - (r6 * r9)) 0 (x7 + 1) r M' N' h _ _ _ hP hS (lv_sub hl [5, 6, 3, 2, 1, 0] rfl)
                  · rw [if_neg c31] at h
                    refine lv_aload_n hx hb dL_isWell_337 rfl (lv_at hl 3 rfl) ?_
                    refine lv_iload hx hb dL_isWell_338 (lv_at hl 6 rfl) ?_
                    refine lv_iconst (v := 0) hx hb dL_isWell_340 (by decide) ?_
                    refine lv_iconst (v := 1) hx hb dL_isWell_341 (by decide) ?_
                    obtain ⟨r32, M33, e34, h⟩ := xm_b2_s h
                    refine lm_o C hP hS [.int x7, .int 0, .int 1] [] (c_X6_step hDo n M29 x7 0 1 r32 M33 e34) k_L_83 rfl rfl rfl ⟨(Nat.le_of_ble_eq_true rfl), (Nat.le_of_ble_eq_true rfl)⟩ hl.1 (Nat.le_of_ble_eq_true rfl) ⟨(Nat.le_of_ble_eq_true rfl), (Nat.le_of_ble_eq_true rfl)⟩ dL_isWell_342 (fun H locs hP hS => ?_)
                    change W p l e _ s m _ below meth c H locs 1 25 _ (F0 m 345 ls [.int r32])
                    refine lv_if_ne (tgt := 404) hx hb dL_isWell_345 (by decide) (fun c35 => ?_) (fun c35 => ?_)
                    · rw [if_neg c35] at h
                      refine lv_iconst (v := 0) hx hb dL_isWell_404 (by decide) ?_
                      refine lv_istore (lv' := [(6, .int 0), (5, .int (x5 - (r6 * r9))), (4, .int (x4 + r6)), (8, .int r6), (0, .ref (a 0)), (3, .int x3), (7, .int x7)]) hx hb dL_isWell_405 hl (by decide) rfl (fun ls hl => ?_)
                      refine lv_iinc (v := x7 + 1) (lv' := [(7, .int (x7 + 1)), (6, .int 0), (5, .int (x5 - (r6 * r9))), (4, .int (x4 + r6)), (8, .int r6), (0, .ref (a 0)), (3, .int x3)]) hx hb dL_isWell_407 hl (k := 6) rfl (xm_add (by decide)) (by decide) rfl (fun ls hl => ?_)
                      refine lv_goto (tgt := 234) hx hb dL_isWell_410 (by decide) ?_
                      exact ih M33 N x3 (x4 + r6) (x5 - (r6 * r9)) 0 (x7 + 1) r M' N' h _ _ _ hP hS (lv_sub hl [5, 6, 3, 2, 1, 0] rfl)
                    · rw [if_pos c35] at h
                      refine lv_aload_n hx hb dL_isWell_348 rfl (lv_at hl 3 rfl) ?_
                      refine lv_iload hx hb dL_isWell_349 (lv_at hl 6 rfl) ?_
                      refine lv_aload_n hx hb dL_isWell_351 rfl (lv_at hl 3 rfl) ?_
                      refine lv_iload hx hb dL_isWell_352 (lv_at hl 6 rfl) ?_
                      refine lv_iconst (v := 2) hx hb dL_isWell_354 (by decide) ?_
                      obtain ⟨r36, M37, e38, h⟩ := xm_b2_s h
                      refine lm_o C hP hS [.int x7, .int 2] [.int x7, .ref (a 0)] (c_X6_pattern hDo n M33 x7 2 r36 M37 e38) k_L_54 rfl rfl rfl ⟨(Nat.le_of_ble_eq_true rfl), (Nat.le_of_ble_eq_true rfl)⟩ hl.1 (Nat.le_of_ble_eq_true rfl) ⟨(Nat.le_of_ble_eq_true rfl), (Nat.le_of_ble_eq_true rfl)⟩ dL_isWell_355 (fun H locs hP hS => ?_)
                      change W p l e _ s m _ below meth c H locs 1 25 _ (F0 m 358 ls [.int r36, .int x7, .ref (a 0)])
                      refine lv_iconst (v := 1) hx hb dL_isWell_358 (by decide) ?_
                      refine lv_isub hx hb dL_isWell_359 ?_
                      refine lv_iconst (v := 1) hx hb dL_isWell_360 (by decide) ?_
                      obtain ⟨r39, M40, e41, h⟩ := xm_b2_s h
                      refine lm_o C hP hS [.int x7, .int (r36 - 1), .int 1] [] (c_X6_step hDo n M37 x7 (r36 - 1) 1 r39 M40 e41) k_L_83 rfl rfl rfl ⟨(Nat.le_of_ble_eq_true rfl), (Nat.le_of_ble_eq_true rfl)⟩ hl.1 (Nat.le_of_ble_eq_true rfl) ⟨(Nat.le_of_ble_eq_true rfl), (Nat.le_of_ble_eq_true rfl)⟩ dL_isWell_361 (fun H locs hP hS => ?_)
                      change W p l e _ s m _ below meth c H locs 1 25 _ (F0 m 364 ls [.int r39])
                      refine lv_if_ne (tgt := 404) hx hb dL_isWell_364 (by decide) (fun c42 => ?_) (fun c42 => ?_)
                      · rw [if_neg c42] at h
                        refine lv_iconst (v := 0) hx hb dL_isWell_404 (by decide) ?_
                        refine lv_istore (lv' := [(6, .int 0), (5, .int (x5 - (r6 * r9))), (4, .int (x4 + r6)), (8, .int r6), (0, .ref (a 0)), (3, .int x3), (7, .int x7)]) hx hb dL_isWell_405 hl (by decide) rfl (fun ls hl => ?_)
                        refine lv_iinc (v := x7 + 1) (lv' := [(7, .int (x7 + 1)), (6, .int 0), (5, .int (x5 - (r6 * r9))), (4, .int (x4 + r6)), (8, .int r6), (0, .ref (a 0)), (3, .int x3)]) hx hb dL_isWell_407 hl (k := 6) rfl (xm_add (by decide)) (by decide) rfl (fun ls hl => ?_)
                        refine lv_goto (tgt := 234) hx hb dL_isWell_410 (by decide) ?_
                        exact ih M40 N x3 (x4 + r6) (x5 - (r6 * r9)) 0 (x7 + 1) r M' N' h _ _ _ hP hS (lv_sub hl [5, 6, 3, 2, 1, 0] rfl)
                      · rw [if_pos c42] at h
                        refine lv_aload_n hx hb dL_isWell_367 rfl (lv_at hl 3 rfl) ?_
                        refine lv_iload hx hb dL_isWell_368 (lv_at hl 6 rfl) ?_
                        refine lv_iload hx hb dL_isWell_370 (lv_at hl 2 rfl) ?_
                        refine lv_iconst (v := 0) hx hb dL_isWell_372 (by decide) ?_
                        obtain ⟨r43, M44, e45, h⟩ := xm_b2_s h
                        refine lm_o C hP hS [.int x7, .int r6, .int 0] [] (c_X6_match hDo n M40 x7 r6 0 r43 M44 e45) k_L_87 rfl rfl rfl ⟨(Nat.le_of_ble_eq_true rfl), (Nat.le_of_ble_eq_true rfl)⟩ hl.1 (Nat.le_of_ble_eq_true rfl) ⟨(Nat.le_of_ble_eq_true rfl), (Nat.le_of_ble_eq_true rfl)⟩ dL_isWell_373 (fun H locs hP hS => ?_)
                        change W p l e _ s m _ below meth c H locs 1 25 _ (F0 m 376 ls [.int r43])
                        refine lv_bipush (v := (-5)) hx hb dL_isWell_376 (by decide) ?_
                        refine lv_icmp_ne (tgt := 404) hx hb dL_isWell_378 (by decide) (fun c46 => ?_) (fun c46 => ?_)
                        · rw [if_neg c46] at h
                          refine lv_iconst (v := 0) hx hb dL_isWell_404 (by decide) ?_
                          refine lv_istore (lv' := [(6, .int 0), (5, .int (x5 - (r6 * r9))), (4, .int (x4 + r6)), (8, .int r6), (0, .ref (a 0)), (3, .int x3), (7, .int x7)]) hx hb dL_isWell_405 hl (by decide) rfl (fun ls hl => ?_)
                          refine lv_iinc (v := x7 + 1) (lv' := [(7, .int (x7 + 1)), (6, .int 0), (5, .int (x5 - (r6 * r9))), (4, .int (x4 + r6)), (8, .int r6), (0, .ref (a 0)), (3, .int x3)]) hx hb dL_isWell_407 hl (k := 6) rfl (xm_add (by decide)) (by decide) rfl (fun ls hl => ?_)
                          refine lv_goto (tgt := 234) hx hb dL_isWell_410 (by decide) ?_
                          exact ih M44 N x3 (x4 + r6) (x5 - (r6 * r9)) 0 (x7 + 1) r M' N' h _ _ _ hP hS (lv_sub hl [5, 6, 3, 2, 1, 0] rfl)
                        · rw [if_pos c46] at h
                          refine lv_iload hx hb dL_isWell_381 (lv_at hl 2 rfl) ?_
                          refine lv_if_eq (tgt := 400) hx hb dL_isWell_383 (by decide) (fun c47 => ?_) (fun c47 => ?_)
                          · rw [if_pos c47] at h
                            refine lv_iconst (v := 1) hx hb dL_isWell_400 (by decide) ?_
                            refine lv_goto (tgt := 405) hx hb dL_isWell_401 (by decide) ?_
                            refine lv_istore (lv' := [(6, .int 1), (5, .int (x5 - (r6 * r9))), (4, .int (x4 + r6)), (8, .int r6), (0, .ref (a 0)), (3, .int x3), (7, .int x7)]) hx hb dL_isWell_405 hl (by decide) rfl (fun ls hl => ?_)
                            refine lv_iinc (v := x7 + 1) (lv' := [(7, .int (x7 + 1)), (6, .int 1), (5, .int (x5 - (r6 * r9))), (4, .int (x4 + r6)), (8, .int r6), (0, .ref (a 0)), (3, .int x3)]) hx hb dL_isWell_407 hl (k := 6) rfl (xm_add (by decide)) (by decide) rfl (fun ls hl => ?_)
                            refine lv_goto (tgt := 234) hx hb dL_isWell_410 (by decide) ?_
                            exact ih M44 N x3 (x4 + r6) (x5 - (r6 * r9)) 1 (x7 + 1) r M' N' h _ _ _ hP hS (lv_sub hl [5, 6, 3, 2, 1, 0] rfl)
                          · rw [if_neg c47] at h
                            refine lv_aload_n hx hb dL_isWell_386 rfl (lv_at hl 3 rfl) ?_
                            refine lv_iload hx hb dL_isWell_387 (lv_at hl 6 rfl) ?_
                            refine lv_iload hx hb dL_isWell_389 (lv_at hl 2 rfl) ?_
                            refine lv_iconst (v := 1) hx hb dL_isWell_391 (by decide) ?_
                            refine lv_isub hx hb dL_isWell_392 ?_
                            refine lv_iconst (v := 0) hx hb dL_isWell_393 (by decide) ?_
                            obtain ⟨r48, M49, e50, h⟩ := xm_b2_s h
                            refine lm_o C hP hS [.int x7, .int (r6 - 1), .int 0] [] (c_X6_match hDo n M44 x7 (r6 - 1) 0 r48 M49 e50) k_L_87 rfl rfl rfl ⟨(Nat.le_of_ble_eq_true rfl), (Nat.le_of_ble_eq_true rfl)⟩ hl.1 (Nat.le_of_ble_eq_true rfl) ⟨(Nat.le_of_ble_eq_true rfl), (Nat.le_of_ble_eq_true rfl)⟩ dL_isWell_394 (fun H locs hP hS => ?_)
                            change W p l e _ s m _ below meth c H locs 1 25 _ (F0 m 397 ls [.int r48])
                            refine lv_if_lt (tgt := 404) hx hb dL_isWell_397 (by decide) (fun c51 => ?_) (fun c51 => ?_)
                            · rw [if_pos c51] at h
                              refine lv_iconst (v := 0) hx hb dL_isWell_404 (by decide) ?_
                              refine lv_istore (lv' := [(6, .int 0), (5, .int (x5 - (r6 * r9))), (4, .int (x4 + r6)), (8, .int r6), (0, .ref (a 0)), (3, .int x3), (7, .int x7)]) hx hb dL_isWell_405 hl (by decide) rfl (fun ls hl => ?_)
                              refine lv_iinc (v := x7 + 1) (lv' := [(7, .int (x7 + 1)), (6, .int 0), (5, .int (x5 - (r6 * r9))), (4, .int (x4 + r6)), (8, .int r6), (0, .ref (a 0)), (3, .int x3)]) hx hb dL_isWell_407 hl (k := 6) rfl (xm_add (by decide)) (by decide) rfl (fun ls hl => ?_)
                              refine lv_goto (tgt := 234) hx hb dL_isWell_410 (by decide) ?_
                              exact ih M49 N x3 (x4 + r6) (x5 - (r6 * r9)) 0 (x7 + 1) r M' N' h _ _ _ hP hS (lv_sub hl [5, 6, 3, 2, 1, 0] rfl)
                            · rw [if_neg c51] at h
                              refine lv_iconst (v := 1) hx hb dL_isWell_400 (by decide) ?_
                              refine lv_goto (tgt := 405) hx hb dL_isWell_401 (by decide) ?_
                              refine lv_istore (lv' := [(6, .int 1), (5, .int (x5 - (r6 * r9))), (4, .int (x4 + r6)), (8, .int r6), (0, .ref (a 0)), (3, .int x3), (7, .int x7)]) hx hb dL_isWell_405 hl (by decide) rfl (fun ls hl => ?_)
                              refine lv_iinc (v := x7 + 1) (lv' := [(7, .int (x7 + 1)), (6, .int 1), (5, .int (x5 - (r6 * r9))), (4, .int (x4 + r6)), (8, .int r6), (0, .ref (a 0)), (3, .int x3)]) hx hb dL_isWell_407 hl (k := 6) rfl (xm_add (by decide)) (by decide) rfl (fun ls hl => ?_)
                              refine lv_goto (tgt := 234) hx hb dL_isWell_410 (by decide) ?_
                              exact ih M49 N x3 (x4 + r6) (x5 - (r6 * r9)) 1 (x7 + 1) r M' N' h _ _ _ hP hS (lv_sub hl [5, 6, 3, 2, 1, 0] rfl)
theorem t_L_isWell_234 {l : Launch} {p : Program} {e : Env} {s : State} {m : MethodId} {args : Array Value} {below : List Frame} {meth : Method} {c : Code} {E : xm_E} {a : Nat → Nat} {q : Nat} (C : xm_C E (xj (xv E a) (xq E q)) p s m args meth c RL cL_isWell 9 (some .boolean)) (n : Nat) (M N : xm_M) (x3 : Int32) (x4 : Int32) (x5 : Int32) (x6 : Int32) (x7 : Int32) (r : Int32) (M' N' : xm_M) : f_L_isWell_234 n M N x3 x4 x5 x6 x7 = some (r, M', N') → ∀ (H : Heap) (locs : List Loc) (ls : Array Slot), va_P E.1 vwCl (xm_w (xj (xv E a) (xq E q)) (xk 120 M N)) H → va_S (xm_A (xj (xv E a) (xq E q)) s.heap.size) s.heap H locs → lv_has ls 9 [(0, .ref (a 0)), (3, .int x3), (4, .int x4), (5, .int x5), (6, .int x6), (7, .int x7)] → W p l e { frames := 9, cells := 1, slots := 25, locals := 219 } s m args below meth c H locs 1 25 (MQ below (xm_Q E (xj (xv E a) (xq E q)) (xk 120 M' N') s.heap.size (some r)) args s 1 25 (xm_A (xj (xv E a) (xq E q)) s.heap.size)) (F0 m 234 ls []) :=
  fun h H locs ls hP hS hl => (t_L_isWell_S234 C n) M N x3 x4 x5 x6 x7 r M' N' h H locs ls hP hS hl
def f_L_isWell_S161 : Nat → Nat → xm_M → xm_M → Int32 → Int32 → Int32 → Int32 → Int32 → Int32 → Option (Int32 × xm_M × xm_M)
  | 0, _, _, _, _, _, _, _, _, _ => none
  | n + 1, _, M, N, x1, x3, x4, x5, x6, x7 => if x1 ≤ x7 then f_L_isWell_234 n M N x3 x4 x5 x6 0 else if x6 = 0 then f_L_isWell_234 n M N x3 x4 x5 x6 0 else xm_ck (xm_in x7 25) (xm_b2 (f_X6_eventOf n M (N 0 x7.toNatClampNeg) 2) (fun r4 M5 => xm_ck (xm_in (x7 - 1) 25) (xm_b2 (f_X6_eventOf n M5 (N 0 (x7 - 1).toNatClampNeg) 2) (fun r8 M9 => if (0 : Int32) < (r4 - r8) then f_L_isWell_S161 n 0 M9 N x1 x3 x4 x5 1 (x7 + 1) else if (r4 - r8) = 0 then xm_ck (xm_in x7 25) (xm_ck (xm_in (x7 - 1) 25) (if (N 0 x7.toNatClampNeg) ≤ (N 0 (x7 - 1).toNatClampNeg) then f_L_isWell_S161 n 0 M9 N x1 x3 x4 x5 0 (x7 + 1) else f_L_isWell_S161 n 0 M9 N x1 x3 x4 x5 1 (x7 + 1))) else f_L_isWell_S161 n 0 M9 N x1 x3 x4 x5 0 (x7 + 1)))))
def f_L_isWell_161 (n : Nat) (M N : xm_M) (x1 : Int32) (x3 : Int32) (x4 : Int32) (x5 : Int32) (x6 : Int32) (x7 : Int32) : Option (Int32 × xm_M × xm_M) := f_L_isWell_S161 n 0 M N x1 x3 x4 x5 x6 x7
set_option maxHeartbeats 4000000 in
set_option maxRecDepth 100000 in
theorem t_L_isWell_S161 {l : Launch} {p : Program} {e : Env} {s : State} {m : MethodId} {args : Array Value} {below : List Frame} {meth : Method} {c : Code} {E : xm_E} {a : Nat → Nat} {q : Nat} (C : xm_C E (xj (xv E a) (xq E q)) p s m args meth c RL cL_isWell 9 (some .boolean)) : ∀ (n : Nat), (∀ (M N : xm_M) (x1 : Int32) (x3 : Int32) (x4 : Int32) (x5 : Int32) (x6 : Int32) (x7 : Int32) (r : Int32) (M' N' : xm_M), f_L_isWell_S161 n 0 M N x1 x3 x4 x5 x6 x7 = some (r, M', N') → ∀ (H : Heap) (locs : List Loc) (ls : Array Slot), va_P E.1 vwCl (xm_w (xj (xv E a) (xq E q)) (xk 120 M N)) H → va_S (xm_A (xj (xv E a) (xq E q)) s.heap.size) s.heap H locs → lv_has ls 9 [(0, .ref (a 0)), (1, .int x1), (2, .ref q), (3, .int x3), (4, .int x4), (5, .int x5), (6, .int x6), (7, .int x7)] → W p l e { frames := 9, cells := 1, slots := 25, locals := 219 } s m args below meth c H locs 1 25 (MQ below (xm_Q E (xj (xv E a) (xq E q)) (xk 120 M' N') s.heap.size (some r)) args s 1 25 (xm_A (xj (xv E a) (xq E q)) s.heap.size)) (F0 m 161 ls [])) := by
  have C9 := C
  obtain ⟨hx, hb, hml, hown, hts, hr, hlk, hD, hK, hS9⟩ := C9
  have hDo := xj_D1 hD
  have hDp := xj_D2 hD
  intro n
  induction n with
  | zero =>
    refine (fun M N x1 x3 x4 x5 x6 x7 r M' N' h => ?_)
    all_goals cases h
  | succ n ih =>
    refine (fun M N x1 x3 x4 x5 x6 x7 r M' N' h H locs ls hP hS hl => ?_)
    · rw [f_L_isWell_S161] at h
      refine lv_iload hx hb dL_isWell_161 (lv_at hl 7 rfl) ?_
      refine lv_iload_n hx hb dL_isWell_163 rfl (lv_at hl 1 rfl) ?_
      refine lv_icmp_ge (tgt := 231) hx hb dL_isWell_164 (by decide) (fun c1 => ?_) (fun c1 => ?_)
      · rw [if_pos c1] at h
        refine lv_iconst (v := 0) hx hb dL_isWell_231 (by decide) ?_
        refine lv_istore (lv' := [(7, .int 0), (0, .ref (a 0)), (1, .int x1), (2, .ref q), (3, .int x3), (4, .int x4), (5, .int x5), (6, .int x6)]) hx hb dL_isWell_232 hl (by decide) rfl (fun ls hl => ?_)
        exact t_L_isWell_234 C n M N x3 x4 x5 x6 0 r M' N' h _ _ _ hP hS (lv_sub hl [1, 4, 5, 6, 7, 0] rfl)
      · rw [if_neg c1] at h
        refine lv_iload hx hb dL_isWell_167 (lv_at hl 6 rfl) ?_
        refine lv_if_eq (tgt := 231) hx hb dL_isWell_169 (by decide) (fun c2 => ?_) (fun c2 => ?_)
        · rw [if_pos c2] at h
          refine lv_iconst (v := 0) hx hb dL_isWell_231 (by decide) ?_
          refine lv_istore (lv' := [(7, .int 0), (0, .ref (a 0)), (1, .int x1), (2, .ref q), (3, .int x3), (4, .int x4), (5, .int x5), (6, .int x6)]) hx hb dL_isWell_232 hl (by decide) rfl (fun ls hl => ?_)
          exact t_L_isWell_234 C n M N x3 x4 x5 x6 0 r M' N' h _ _ _ hP hS (lv_sub hl [1, 4, 5, 6, 7, 0] rfl)
        · rw [if_neg c2] at h
          refine lv_aload_n hx hb dL_isWell_172 rfl (lv_at hl 0 rfl) ?_
          refine lv_aload_n hx hb dL_isWell_173 rfl (lv_at hl 2 rfl) ?_
          refine lv_iload hx hb dL_isWell_174 (lv_at hl 7 rfl) ?_
          obtain ⟨b3, h⟩ := xm_ck_s h
          refine xm_iald (V := (xj (xv E a) (xq E q))) (M := xk 120 M N) C hP 120 25 (Nat.le_of_ble_eq_true rfl) (fun _ => rfl) b3 dL_isWell_176 ?_
          refine W.eq (g2 := F0 m 177 ls [.int (N 0 x7.toNatClampNeg), .ref (a 0)]) rfl ?_
          refine lv_iconst (v := 2) hx hb dL_isWell_177 (by decide) ?_
          obtain ⟨r4, M5, e6, h⟩ := xm_b2_s h
          refine lm_o C hP hS [.int (N 0 x7.toNatClampNeg), .int 2] [] (c_X6_eventOf hDo n M (N 0 x7.toNatClampNeg) 2 r4 M5 e6) k_L_90 rfl rfl rfl ⟨(Nat.le_of_ble_eq_true rfl), (Nat.le_of_ble_eq_true rfl)⟩ hl.1 (Nat.le_of_ble_eq_true rfl) ⟨(Nat.le_of_ble_eq_true rfl), (Nat.le_of_ble_eq_true rfl)⟩ dL_isWell_178 (fun H locs hP hS => ?_)
          change W p l e _ s m _ below meth c H locs 1 25 _ (F0 m 181 ls [.int r4])
          refine lv_aload_n hx hb dL_isWell_181 rfl (lv_at hl 0 rfl) ?_
          refine lv_aload_n hx hb dL_isWell_182 rfl (lv_at hl 2 rfl) ?_
          refine lv_iload hx hb dL_isWell_183 (lv_at hl 7 rfl) ?_
          refine lv_iconst (v := 1) hx hb dL_isWell_185 (by decide) ?_
          refine lv_isub hx hb dL_isWell_186 ?_
          obtain ⟨b7, h⟩ := xm_ck_s h
          refine xm_iald (V := (xj (xv E a) (xq E q))) (M := xk 120 M5 N) C hP 120 25 (Nat.le_of_ble_eq_true rfl) (fun _ => rfl) b7 dL_isWell_187 ?_
          refine W.eq (g2 := F0 m 188 ls [.int (N 0 (x7 - 1).toNatClampNeg), .ref (a 0), .int r4]) rfl ?_
          refine lv_iconst (v := 2) hx hb dL_isWell_188 (by decide) ?_
          obtain ⟨r8, M9, e10, h⟩ := xm_b2_s h
          refine lm_o C hP hS [.int (N 0 (x7 - 1).toNatClampNeg), .int 2] [.int r4] (c_X6_eventOf hDo n M5 (N 0 (x7 - 1).toNatClampNeg) 2 r8 M9 e10) k_L_90 rfl rfl rfl ⟨(Nat.le_of_ble_eq_true rfl), (Nat.le_of_ble_eq_true rfl)⟩ hl.1 (Nat.le_of_ble_eq_true rfl) ⟨(Nat.le_of_ble_eq_true rfl), (Nat.le_of_ble_eq_true rfl)⟩ dL_isWell_189 (fun H locs hP hS => ?_)
          change W p l e _ s m _ below meth c H locs 1 25 _ (F0 m 192 ls [.int r8, .int r4])
          refine lv_isub hx hb dL_isWell_192 ?_
          refine lv_istore (lv' := [(8, .int (r4 - r8)), (0, .ref (a 0)), (1, .int x1), (2, .ref q), (3, .int x3), (4, .int x4), (5, .int x5), (6, .int x6), (7, .int x7)]) hx hb dL_isWell_193 hl (by decide) rfl (fun ls hl => ?_)
          refine lv_iload hx hb dL_isWell_195 (lv_at hl 0 rfl) ?_
          refine lv_if_gt (tgt := 218) hx hb dL_isWell_197 (by decide) (fun c11 => ?_) (fun c11 => ?_)
          · rw [if_pos c11] at h
            refine lv_iconst (v := 1) hx hb dL_isWell_218 (by decide) ?_
            refine lv_goto (tgt := 223) hx hb dL_isWell_219 (by decide) ?_
            refine lv_istore (lv' := [(6, .int 1), (8, .int (r4 - r8)), (0, .ref (a 0)), (1, .int x1), (2, .ref q), (3, .int x3), (4, .int x4), (5, .int x5), (7, .int x7)]) hx hb dL_isWell_223 hl (by decide) rfl (fun ls hl => ?_)
            refine lv_iinc (v := x7 + 1) (lv' := [(7, .int (x7 + 1)), (6, .int 1), (8, .int (r4 - r8)), (0, .ref (a 0)), (1, .int x1), (2, .ref q), (3, .int x3), (4, .int x4), (5, .int x5)]) hx hb dL_isWell_225 hl (k := 8) rfl (xm_add (by decide)) (by decide) rfl (fun ls hl => ?_)
            refine lv_goto (tgt := 161) hx hb dL_isWell_228 (by decide) ?_
            exact ih M9 N x1 x3 x4 x5 1 (x7 + 1) r M' N' h _ _ _ hP hS (lv_sub hl [3, 4, 5, 6, 7, 8, 1, 0] rfl)
          · rw [if_neg c11] at h
            refine lv_iload hx hb dL_isWell_200 (lv_at hl 0 rfl) ?_
            refine lv_if_ne (tgt := 222) hx hb dL_isWell_202 (by decide) (fun c12 => ?_) (fun c12 => ?_)
            · rw [if_neg c12] at h
              refine lv_iconst (v := 0) hx hb dL_isWell_222 (by decide) ?_
              refine lv_istore (lv' := [(6, .int 0), (8, .int (r4 - r8)), (0, .ref (a 0)), (1, .int x1), (2, .ref q), (3, .int x3), (4, .int x4), (5, .int x5), (7, .int x7)]) hx hb dL_isWell_223 hl (by decide) rfl (fun ls hl => ?_)
              refine lv_iinc (v := x7 + 1) (lv' := [(7, .int (x7 + 1)), (6, .int 0), (8, .int (r4 - r8)), (0, .ref (a 0)), (1, .int x1), (2, .ref q), (3, .int x3), (4, .int x4), (5, .int x5)]) hx hb dL_isWell_225 hl (k := 8) rfl (xm_add (by decide)) (by decide) rfl (fun ls hl => ?_)
              refine lv_goto (tgt := 161) hx hb dL_isWell_228 (by decide) ?_
              exact ih M9 N x1 x3 x4 x5 0 (x7 + 1) r M' N' h _ _ _ hP hS (lv_sub hl [3, 4, 5, 6, 7, 8, 1, 0] rfl)
            · rw [if_pos c12] at h
              refine lv_aload_n hx hb dL_isWell_205 rfl (lv_at hl 3 rfl) ?_
              refine lv_iload hx hb dL_isWell_206 (lv_at hl 8 rfl) ?_
              obtain ⟨b13, h⟩ := xm_ck_s h
              refine xm_iald (V := (xj (xv E a) (xq E q))) (M := xk 120 M9 N) C hP 120 25 (Nat.le_of_ble_eq_true rfl) (fun _ => rfl) b13 dL_isWell_208 ?_
              refine W.eq (g2 := F0 m 209 ls [.int (N 0 x7.toNatClampNeg)]) rfl ?_
              refine lv_aload_n hx hb dL_isWell_209 rfl (lv_at hl 3 rfl) ?_
              refine lv_iload hx hb dL_isWell_210 (lv_at hl 8 rfl) ?_
              refine lv_iconst (v := 1) hx hb dL_isWell_212 (by decide) ?_
              refine lv_isub hx hb dL_isWell_213 ?_
              obtain ⟨b14, h⟩ := xm_ck_s h
              refine xm_iald (V := (xj (xv E a) (xq E q))) (M := xk 120 M9 N) C hP 120 25 (Nat.le_of_ble_eq_true rfl) (fun _ => rfl) b14 dL_isWell_214 ?_
              refine W.eq (g2 := F0 m 215 ls [.int (N 0 (x7 - 1).toNatClampNeg), .int (N 0 x7.toNatClampNeg)]) rfl ?_
              refine lv_icmp_le (tgt := 222) hx hb dL_isWell_215 (by decide) (fun c15 => ?_) (fun c15 => ?_)
              · rw [if_pos c15] at h
                refine lv_iconst (v := 0) hx hb dL_isWell_222 (by decide) ?_
                refine lv_istore (lv' := [(6, .int 0), (8, .int (r4 - r8)), (0, .ref (a 0)), (1, .int x1), (2, .ref q), (3, .int x3), (4, .int x4), (5, .int x5), (7, .int x7)]) hx hb dL_isWell_223 hl (by decide) rfl (fun ls hl => ?_)
                refine lv_iinc (v := x7 + 1) (lv' := [(7, .int (x7 + 1)), (6, .int 0), (8, .int (r4 - r8)), (0, .ref (a 0)), (1, .int x1), (2, .ref q), (3, .int x3), (4, .int x4), (5, .int x5)]) hx hb dL_isWell_225 hl (k := 8) rfl (xm_add (by decide)) (by decide) rfl (fun ls hl => ?_)
                refine lv_goto (tgt := 161) hx hb dL_isWell_228 (by decide) ?_
                exact ih M9 N x1 x3 x4 x5 0 (x7 + 1) r M' N' h _ _ _ hP hS (lv_sub hl [3, 4, 5, 6, 7, 8, 1, 0] rfl)
              · rw [if_neg c15] at h
                refine lv_iconst (v := 1) hx hb dL_isWell_218 (by decide) ?_
                refine lv_goto (tgt := 223) hx hb dL_isWell_219 (by decide) ?_
                refine lv_istore (lv' := [(6, .int 1), (8, .int (r4 - r8)), (0, .ref (a 0)), (1, .int x1), (2, .ref q), (3, .int x3), (4, .int x4), (5, .int x5), (7, .int x7)]) hx hb dL_isWell_223 hl (by decide) rfl (fun ls hl => ?_)
                refine lv_iinc (v := x7 + 1) (lv' := [(7, .int (x7 + 1)), (6, .int 1), (8, .int (r4 - r8)), (0, .ref (a 0)), (1, .int x1), (2, .ref q), (3, .int x3), (4, .int x4), (5, .int x5)]) hx hb dL_isWell_225 hl (k := 8) rfl (xm_add (by decide)) (by decide) rfl (fun ls hl => ?_)
                refine lv_goto (tgt := 161) hx hb dL_isWell_228 (by decide) ?_
                exact ih M9 N x1 x3 x4 x5 1 (x7 + 1) r M' N' h _ _ _ hP hS (lv_sub hl [3, 4, 5, 6, 7, 8, 1, 0] rfl)
theorem t_L_isWell_161 {l : Launch} {p : Program} {e : Env} {s : State} {m : MethodId} {args : Array Value} {below : List Frame} {meth : Method} {c : Code} {E : xm_E} {a : Nat → Nat} {q : Nat} (C : xm_C E (xj (xv E a) (xq E q)) p s m args meth c RL cL_isWell 9 (some .boolean)) (n : Nat) (M N : xm_M) (x1 : Int32) (x3 : Int32) (x4 : Int32) (x5 : Int32) (x6 : Int32) (x7 : Int32) (r : Int32) (M' N' : xm_M) : f_L_isWell_161 n M N x1 x3 x4 x5 x6 x7 = some (r, M', N') → ∀ (H : Heap) (locs : List Loc) (ls : Array Slot), va_P E.1 vwCl (xm_w (xj (xv E a) (xq E q)) (xk 120 M N)) H → va_S (xm_A (xj (xv E a) (xq E q)) s.heap.size) s.heap H locs → lv_has ls 9 [(0, .ref (a 0)), (1, .int x1), (2, .ref q), (3, .int x3), (4, .int x4), (5, .int x5), (6, .int x6), (7, .int x7)] → W p l e { frames := 9, cells := 1, slots := 25, locals := 219 } s m args below meth c H locs 1 25 (MQ below (xm_Q E (xj (xv E a) (xq E q)) (xk 120 M' N') s.heap.size (some r)) args s 1 25 (xm_A (xj (xv E a) (xq E q)) s.heap.size)) (F0 m 161 ls []) :=
  fun h H locs ls hP hS hl => (t_L_isWell_S161 C n) M N x1 x3 x4 x5 x6 x7 r M' N' h H locs ls hP hS hl
def f_L_isWell_S46 : Nat → Nat → xm_M → xm_M → Int32 → Int32 → Int32 → Int32 → Int32 → Int32 → Option (Int32 × xm_M × xm_M)
  | 0, _, _, _, _, _, _, _, _, _ => none
  | n + 1, 0, M, N, x1, x3, x4, x5, x6, x7 => if x1 ≤ x7 then f_L_isWell_161 n M N x1 x3 x4 x5 x6 1 else if x6 = 0 then f_L_isWell_161 n M N x1 x3 x4 x5 x6 1 else xm_b2 (f_X6_eventOf n M x7 3) (fun r3 M4 => if r3 < 0 then if (0 : Int32) ≤ r3 then xm_ck (xm_in r3 25) (xm_lt (xm_up N 0 r3.toNatClampNeg x7) (fun N9 => f_L_isWell_S46 n 1 M4 N9 x1 x3 x4 x5 0 x7)) else xm_ck (xm_in (24 : Int32) 25) (xm_lt (xm_up N 0 (24 : Int32).toNatClampNeg x7) (fun N12 => f_L_isWell_S46 n 1 M4 N12 x1 x3 x4 x5 0 x7)) else if x1 ≤ r3 then if (0 : Int32) ≤ r3 then xm_ck (xm_in r3 25) (xm_lt (xm_up N 0 r3.toNatClampNeg x7) (fun N17 => f_L_isWell_S46 n 1 M4 N17 x1 x3 x4 x5 0 x7)) else xm_ck (xm_in (24 : Int32) 25) (xm_lt (xm_up N 0 (24 : Int32).toNatClampNeg x7) (fun N20 => f_L_isWell_S46 n 1 M4 N20 x1 x3 x4 x5 0 x7)) else xm_ck (xm_in r3 25) (if (0 : Int32) ≤ (N 0 r3.toNatClampNeg) then if (0 : Int32) ≤ r3 then xm_ck (xm_in r3 25) (xm_lt (xm_up N 0 r3.toNatClampNeg x7) (fun N26 => f_L_isWell_S46 n 1 M4 N26 x1 x3 x4 x5 0 x7)) else xm_ck (xm_in (24 : Int32) 25) (xm_lt (xm_up N 0 (24 : Int32).toNatClampNeg x7) (fun N29 => f_L_isWell_S46 n 1 M4 N29 x1 x3 x4 x5 0 x7)) else xm_b2 (f_X6_eventOf n M4 x7 2) (fun r31 M32 => xm_b2 (f_X6_count n M32 3) (fun r34 M35 => if r34 < r31 then if (0 : Int32) ≤ r3 then xm_ck (xm_in r3 25) (xm_lt (xm_up N 0 r3.toNatClampNeg x7) (fun N40 => f_L_isWell_S46 n 1 M35 N40 x1 x3 x4 x5 0 x7)) else xm_ck (xm_in (24 : Int32) 25) (xm_lt (xm_up N 0 (24 : Int32).toNatClampNeg x7) (fun N43 => f_L_isWell_S46 n 1 M35 N43 x1 x3 x4 x5 0 x7)) else if (0 : Int32) ≤ r3 then xm_ck (xm_in r3 25) (xm_lt (xm_up N 0 r3.toNatClampNeg x7) (fun N47 => f_L_isWell_S46 n 1 M35 N47 x1 x3 x4 x5 1 x7)) else xm_ck (xm_in (24 : Int32) 25) (xm_lt (xm_up N 0 (24 : Int32).toNatClampNeg x7) (fun N50 => f_L_isWell_S46 n 1 M35 N50 x1 x3 x4 x5 1 x7))))))
  | n + 1, _ + 1, M, N, x1, x3, x4, x5, x6, x7 => xm_b2 (f_X6_eventOf n M x7 4) (fun r1 M2 => if r1 = 0 then xm_b2 (f_X6_eventOf n M2 x7 4) (fun r8 M9 => f_L_isWell_S46 n 0 M9 N x1 (x3 + 1) x4 (x5 + r8) x6 (x7 + 1)) else xm_b2 (f_X6_eventOf n M2 x7 4) (fun r5 M6 => f_L_isWell_S46 n 0 M6 N x1 (x3 + 0) x4 (x5 + r5) x6 (x7 + 1)))
def f_L_isWell_46 (n : Nat) (M N : xm_M) (x1 : Int32) (x3 : Int32) (x4 : Int32) (x5 : Int32) (x6 : Int32) (x7 : Int32) : Option (Int32 × xm_M × xm_M) := f_L_isWell_S46 n 0 M N x1 x3 x4 x5 x6 x7
def f_L_isWell_122 (n : Nat) (M N : xm_M) (x1 : Int32) (x3 : Int32) (x4 : Int32) (x5 : Int32) (x6 : Int32) (x7 : Int32) : Option (Int32 × xm_M × xm_M) := f_L_isWell_S46 n 1 M N x1 x3 x4 x5 x6 x7
set_option maxHeartbeats 4000000 in
set_option maxRecDepth 100000 in
theorem t_L_isWell_S46 {l : Launch} {p : Program} {e : Env} {s : State} {m : MethodId} {args : Array Value} {below : List Frame} {meth : Method} {c : Code} {E : xm_E} {a : Nat → Nat} {q : Nat} (C : xm_C E (xj (xv E a) (xq E q)) p s m args meth c RL cL_isWell 9 (some .boolean)) : ∀ (n : Nat), (∀ (M N : xm_M) (x1 : Int32) (x3 : Int32) (x4 : Int32) (x5 : Int32) (x6 : Int32) (x7 : Int32) (r : Int32) (M' N' : xm_M), f_L_isWell_S46 n 0 M N x1 x3 x4 x5 x6 x7 = some (r, M', N') → ∀ (H : Heap) (locs : List Loc) (ls : Array Slot), va_P E.1 vwCl (xm_w (xj (xv E a) (xq E q)) (xk 120 M N)) H → va_S (xm_A (xj (xv E a) (xq E q)) s.heap.size) s.heap H locs → lv_has ls 9 [(0, .ref (a 0)), (1, .int x1), (2, .ref q), (3, .int x3), (4, .int x4), (5, .int x5), (6, .int x6), (7, .int x7)] → W p l e { frames := 9, cells := 1, slots := 25, locals := 219 } s m args below meth c H locs 1 25 (MQ below (xm_Q E (xj (xv E a) (xq E q)) (xk 120 M' N') s.heap.size (some r)) args s 1 25 (xm_A (xj (xv E a) (xq E q)) s.heap.size)) (F0 m 46 ls [])) ∧ (∀ (M N : xm_M) (x1 : Int32) (x3 : Int32) (x4 : Int32) (x5 : Int32) (x6 : Int32) (x7 : Int32) (r : Int32) (M' N' : xm_M), f_L_isWell_S46 n 1 M N x1 x3 x4 x5 x6 x7 = some (r, M', N') → ∀ (H : Heap) (locs : List Loc) (ls : Array Slot), va_P E.1 vwCl (xm_w (xj (xv E a) (xq E q)) (xk 120 M N)) H → va_S (xm_A (xj (xv E a) (xq E q)) s.heap.size) s.heap H locs → lv_has ls 9 [(0, .ref (a 0)), (1, .int x1), (2, .ref q), (3, .int x3), (4, .int x4), (5, .int x5), (6, .int x6), (7, .int x7)] → W p l e { frames := 9, cells := 1, slots := 25, locals := 219 } s m args below meth c H locs 1 25 (MQ below (xm_Q E (xj (xv E a) (xq E q)) (xk 120 M' N') s.heap.size (some r)) args s 1 25 (xm_A (xj (xv E a) (xq E q)) s.heap.size)) (F0 m 122 ls [])) := by
  have C9 := C
  obtain ⟨hx, hb, hml, hown, hts, hr, hlk, hD, hK, hS9⟩ := C9
  have hDo := xj_D1 hD
  have hDp := xj_D2 hD
  intro n
  induction n with
  | zero =>
    refine ⟨fun M N x1 x3 x4 x5 x6 x7 r M' N' h => ?_, fun M N x1 x3 x4 x5 x6 x7 r M' N' h => ?_⟩
    all_goals cases h
  | succ n ih =>
    refine ⟨fun M N x1 x3 x4 x5 x6 x7 r M' N' h H locs ls hP hS hl => ?_, fun M N x1 x3 x4 x5 x6 x7 r M' N' h H locs ls hP hS hl => ?_⟩
    · rw [f_L_isWell_S46] at h
      refine lv_iload hx hb dL_isWell_46 (lv_at hl 7 rfl) ?_
      refine lv_iload_n hx hb dL_isWell_48 rfl (lv_at hl 1 rfl) ?_
      refine lv_icmp_ge (tgt := 158) hx hb dL_isWell_49 (by decide) (fun c1 => ?_) (fun c1 => ?_)
      · rw [if_pos c1] at h
        refine lv_iconst (v := 1) hx hb dL_isWell_158 (by decide) ?_
        refine lv_istore (lv' := [(7, .int 1), (0, .ref (a 0)), (1, .int x1), (2, .ref q), (3, .int x3), (4, .int x4), (5, .int x5), (6, .int x6)]) hx hb dL_isWell_159 hl (by decide) rfl (fun ls hl => ?_)
        exact t_L_isWell_161 C n M N x1 x3 x4 x5 x6 1 r M' N' h _ _ _ hP hS (lv_sub hl [1, 2, 3, 4, 5, 6, 7, 0] rfl)
      · rw [if_neg c1] at h
        refine lv_iload hx hb dL_isWell_52 (lv_at hl 6 rfl) ?_
        refine lv_if_eq (tgt := 158) hx hb dL_isWell_54 (by decide) (fun c2 => ?_) (fun c2 => ?_)
        · rw [if_pos c2] at h
          refine lv_iconst (v := 1) hx hb dL_isWell_158 (by decide) ?_
          refine lv_istore (lv' := [(7, .int 1), (0, .ref (a 0)), (1, .int x1), (2, .ref q), (3, .int x3), (4, .int x4), (5, .int x5), (6, .int x6)]) hx hb dL_isWell_159 hl (by decide) rfl (fun ls hl => ?_)
          exact t_L_isWell_161 C n M N x1 x3 x4 x5 x6 1 r M' N' h _ _ _ hP hS (lv_sub hl [1, 2, 3, 4, 5, 6, 7, 0] rfl)
        · rw [if_neg c2] at h
          refine lv_aload_n hx hb dL_isWell_57 rfl (lv_at hl 0 rfl) ?_
          refine lv_iload hx hb dL_isWell_58 (lv_at hl 7 rfl) ?_
          refine lv_iconst (v := 3) hx hb dL_isWell_60 (by decide) ?_
          obtain ⟨r3, M4, e5, h⟩ := xm_b2_s h
          refine lm_o C hP hS [.int x7, .int 3] [] (c_X6_eventOf hDo n M x7 3 r3 M4 e5) k_L_90 rfl rfl rfl ⟨(Nat.le_of_ble_eq_true rfl), (Nat.le_of_ble_eq_true rfl)⟩ hl.1 (Nat.le_of_ble_eq_true rfl) ⟨(Nat.le_of_ble_eq_true rfl), (Nat.le_of_ble_eq_true rfl)⟩ dL_isWell_61 (fun H locs hP hS => ?_)
          change W p l e _ s m _ below meth c H locs 1 25 _ (F0 m 64 ls [.int r3])
          refine lv_istore (lv' := [(8, .int r3), (0, .ref (a 0)), (1, .int x1), (2, .ref q), (3, .int x3), (4, .int x4), (5, .int x5), (6, .int x6), (7, .int x7)]) hx hb dL_isWell_64 hl (by decide) rfl (fun ls hl => ?_)
          refine lv_iload hx hb dL_isWell_66 (lv_at hl 0 rfl) ?_
          refine lv_if_lt (tgt := 103) hx hb dL_isWell_68 (by decide) (fun c6 => ?_) (fun c6 => ?_)
          · rw [if_pos c6] at h
            refine lv_iconst (v := 0) hx hb dL_isWell_103 (by decide) ?_
            refine lv_istore (lv' := [(6, .int 0), (8, .int r3), (0, .ref (a 0)), (1, .int x1), (2, .ref q), (3, .int x3), (4, .int x4), (5, .int x5), (7, .int x7)]) hx hb dL_isWell_104 hl (by decide) rfl (fun ls hl => ?_)
            refine lv_aload_n hx hb dL_isWell_106 rfl (lv_at hl 4 rfl) ?_
            refine lv_iload hx hb dL_isWell_107 (lv_at hl 1 rfl) ?_
            refine lv_if_ge (tgt := 117) hx hb dL_isWell_109 (by decide) (fun c7 => ?_) (fun c7 => ?_)
            · rw [if_pos c7] at h
              refine lv_iload hx hb dL_isWell_117 (lv_at hl 1 rfl) ?_
              refine lv_iload hx hb dL_isWell_119 (lv_at hl 8 rfl) ?_
              obtain ⟨b8, h⟩ := xm_ck_s h
              obtain ⟨N9, e10, h⟩ := xm_lt_s h
              refine xm_iast (V := (xj (xv E a) (xq E q))) (M := xk 120 M4 N) C hP hS 120 25 (Nat.le_of_ble_eq_true rfl) (fun _ => rfl) b8 dL_isWell_121 (fun H locs hP hS => ?_)
              rw [show xm_up (xk 120 M4 N) 120 r3.toNatClampNeg x7 = xk 120 M4 N9 from (xk_up (n := 120) (r := 0)).trans (by rw [e10])] at hP
              exact ih.2 M4 N9 x1 x3 x4 x5 0 x7 r M' N' h _ _ _ hP hS (lv_sub hl [2, 3, 4, 5, 6, 7, 0, 8] rfl)
            · rw [if_neg c7] at h
              refine lv_bipush (v := 24) hx hb dL_isWell_112 (by decide) ?_
              refine lv_goto (tgt := 119) hx hb dL_isWell_114 (by decide) ?_
              refine lv_iload hx hb dL_isWell_119 (lv_at hl 8 rfl) ?_
              obtain ⟨b11, h⟩ := xm_ck_s h
              obtain ⟨N12, e13, h⟩ := xm_lt_s h
              refine xm_iast (V := (xj (xv E a) (xq E q))) (M := xk 120 M4 N) C hP hS 120 25 (Nat.le_of_ble_eq_true rfl) (fun _ => rfl) b11 dL_isWell_121 (fun H locs hP hS => ?_)
              rw [show xm_up (xk 120 M4 N) 120 (24 : Int32).toNatClampNeg x7 = xk 120 M4 N12 from (xk_up (n := 120) (r := 0)).trans (by rw [e13])] at hP
              exact ih.2 M4 N12 x1 x3 x4 x5 0 x7 r M' N' h _ _ _ hP hS (lv_sub hl [2, 3, 4, 5, 6, 7, 0, 8] rfl)
          · rw [if_neg c6] at h
            refine lv_iload hx hb dL_isWell_71 (lv_at hl 0 rfl) ?_
            refine lv_iload_n hx hb dL_isWell_73 rfl (lv_at hl 2 rfl) ?_
            refine lv_icmp_ge (tgt := 103) hx hb dL_isWell_74 (by decide) (fun c14 => ?_) (fun c14 => ?_)
            · rw [if_pos c14] at h
              refine lv_iconst (v := 0) hx hb dL_isWell_103 (by decide) ?_
              refine lv_istore (lv' := [(6, .int 0), (8, .int r3), (0, .ref (a 0)), (1, .int x1), (2, .ref q), (3, .int x3), (4, .int x4), (5, .int x5), (7, .int x7)]) hx hb dL_isWell_104 hl (by decide) rfl (fun ls hl => ?_)
              refine lv_aload_n hx hb dL_isWell_106 rfl (lv_at hl 4 rfl) ?_
              refine lv_iload hx hb dL_isWell_107 (lv_at hl 1 rfl) ?_
              refine lv_if_ge (tgt := 117) hx hb dL_isWell_109 (by decide) (fun c15 => ?_) (fun c15 => ?_)
              · rw [if_pos c15] at h
                refine lv_iload hx hb dL_isWell_117 (lv_at hl 1 rfl) ?_
                refine lv_iload hx hb dL_isWell_119 (lv_at hl 8 rfl) ?_
                obtain ⟨b16, h⟩ := xm_ck_s h
                obtain ⟨N17, e18, h⟩ := xm_lt_s h
                refine xm_iast (V := (xj (xv E a) (xq E q))) (M := xk 120 M4 N) C hP hS 120 25 (Nat.le_of_ble_eq_true rfl) (fun _ => rfl) b16 dL_isWell_121 (fun H locs hP hS => ?_)
                rw [show xm_up (xk 120 M4 N) 120 r3.toNatClampNeg x7 = xk 120 M4 N17 from (xk_up (n := 120) (r := 0)).trans (by rw [e18])] at hP
                exact ih.2 M4 N17 x1 x3 x4 x5 0 x7 r M' N' h _ _ _ hP hS (lv_sub hl [2, 3, 4, 5, 6, 7, 0, 8] rfl)
              · rw [if_neg c15] at h
                refine lv_bipush (v := 24) hx hb dL_isWell_112 (by decide) ?_
                refine lv_goto (tgt := 119) hx hb dL_isWell_114 (by decide) ?_
                refine lv_iload hx hb dL_isWell_119 (lv_at hl 8 rfl) ?_
                obtain ⟨b19, h⟩ := xm_ck_s h
                obtain ⟨N20, e21, h⟩ := xm_lt_s h
                refine xm_iast (V := (xj (xv E a) (xq E q))) (M := xk 120 M4 N) C hP hS 120 25 (Nat.le_of_ble_eq_true rfl) (fun _ => rfl) b19 dL_isWell_121 (fun H locs hP hS => ?_)
                rw [show xm_up (xk 120 M4 N) 120 (24 : Int32).toNatClampNeg x7 = xk 120 M4 N20 from (xk_up (n := 120) (r := 0)).trans (by rw [e21])] at hP
                exact ih.2 M4 N20 x1 x3 x4 x5 0 x7 r M' N' h _ _ _ hP hS (lv_sub hl [2, 3, 4, 5, 6, 7, 0, 8] rfl)
            · rw [if_neg c14] at h
              refine lv_aload_n hx hb dL_isWell_77 rfl (lv_at hl 3 rfl) ?_
              refine lv_iload hx hb dL_isWell_78 (lv_at hl 0 rfl) ?_
              obtain ⟨b22, h⟩ := xm_ck_s h
              refine xm_iald (V := (xj (xv E a) (xq E q))) (M := xk 120 M4 N) C hP 120 25 (Nat.le_of_ble_eq_true rfl) (fun _ => rfl) b22 dL_isWell_80 ?_
              refine W.eq (g2 := F0 m 81 ls [.int (N 0 r3.toNatClampNeg)]) rfl ?_
              refine lv_if_ge (tgt := 103) hx hb dL_isWell_81 (by decide) (fun c23 => ?_) (fun c23 => ?_)
              · rw [if_pos c23] at h
                refine lv_iconst (v := 0) hx hb dL_isWell_103 (by decide) ?_
                refine lv_istore (lv' := [(6, .int 0), (8, .int r3), (0, .ref (a 0)), (1, .int x1), (2, .ref q), (3, .int x3), (4, .int x4), (5, .int x5), (7, .int x7)]) hx hb dL_isWell_104 hl (by decide) rfl (fun ls hl => ?_)
                refine lv_aload_n hx hb dL_isWell_106 rfl (lv_at hl 4 rfl) ?_
                refine lv_iload hx hb dL_isWell_107 (lv_at hl 1 rfl) ?_
                refine lv_if_ge (tgt := 117) hx hb dL_isWell_109 (by decide) (fun c24 => ?_) (fun c24 => ?_)
                · rw [if_pos c24] at h
                  refine lv_iload hx hb dL_isWell_117 (lv_at hl 1 rfl) ?_
                  refine lv_iload hx hb dL_isWell_119 (lv_at hl 8 rfl) ?_
                  obtain ⟨b25, h⟩ := xm_ck_s h
                  obtain ⟨N26, e27, h⟩ := xm_lt_s h
                  refine xm_iast (V := (xj (xv E a) (xq E q))) (M := xk 120 M4 N) C hP hS 120 25 (Nat.le_of_ble_eq_true rfl) (fun _ => rfl) b25 dL_isWell_121 (fun H locs hP hS => ?_)
                  rw [show xm_up (xk 120 M4 N) 120 r3.toNatClampNeg x7 = xk 120 M4 N26 from (xk_up (n := 120) (r := 0)).trans (by rw [e27])] at hP
                  exact ih.2 M4 N26 x1 x3 x4 x5 0 x7 r M' N' h _ _ _ hP hS (lv_sub hl [2, 3, 4, 5, 6, 7, 0, 8] rfl)
                · rw [if_neg c24] at h
                  refine lv_bipush (v := 24) hx hb dL_isWell_112 (by decide) ?_
                  refine lv_goto (tgt := 119) hx hb dL_isWell_114 (by decide) ?_
                  refine lv_iload hx hb dL_isWell_119 (lv_at hl 8 rfl) ?_
                  obtain ⟨b28, h⟩ := xm_ck_s h
                  obtain ⟨N29, e30, h⟩ := xm_lt_s h
                  refine xm_iast (V := (xj (xv E a) (xq E q))) (M := xk 120 M4 N) C hP hS 120 25 (Nat.le_of_ble_eq_true rfl) (fun _ => rfl) b28 dL_isWell_121 (fun H locs hP hS => ?_)
                  rw [show xm_up (xk 120 M4 N) 120 (24 : Int32).toNatClampNeg x7 = xk 120 M4 N29 from (xk_up (n := 120) (r := 0)).trans (by rw [e30])] at hP
                  exact ih.2 M4 N29 x1 x3 x4 x5 0 x7 r M' N' h _ _ _ hP hS (lv_sub hl [2, 3, 4, 5, 6, 7, 0, 8] rfl)
              · rw [if_neg c23] at h
                refine lv_aload_n hx hb dL_isWell_84 rfl (lv_at hl 1 rfl) ?_
                refine lv_iload hx hb dL_isWell_85 (lv_at hl 8 rfl) ?_
                refine lv_iconst (v := 2) hx hb dL_isWell_87 (by decide) ?_
                obtain ⟨r31, M32, e33, h⟩ := xm_b2_s h
                refine lm_o C hP hS [.int x7, .int 2] [] (c_X6_eventOf hDo n M4 x7 2 r31 M32 e33) k_L_90 rfl rfl rfl ⟨(Nat.le_of_ble_eq_true rfl), (Nat.le_of_ble_eq_true rfl)⟩ hl.1 (Nat.le_of_ble_eq_true rfl) ⟨(Nat.le_of_ble_eq_true rfl), (Nat.le_of_ble_eq_true rfl)⟩ dL_isWell_88 (fun H locs hP hS => ?_)
                change W p l e _ s m _ below meth c H locs 1 25 _ (F0 m 91 ls [.int r31])
                refine lv_aload_n hx hb dL_isWell_91 rfl (lv_at hl 1 rfl) ?_
                refine lv_iconst (v := 3) hx hb dL_isWell_92 (by decide) ?_
                obtain ⟨r34, M35, e36, h⟩ := xm_b2_s h
                refine lm_o C hP hS [.int 3] [.int r31] (c_X6_count hDo n M32 3 r34 M35 e36) k_L_47 rfl rfl rfl ⟨(Nat.le_of_ble_eq_true rfl), (Nat.le_of_ble_eq_true rfl)⟩ hl.1 (Nat.le_of_ble_eq_true rfl) ⟨(Nat.le_of_ble_eq_true rfl), (Nat.le_of_ble_eq_true rfl)⟩ dL_isWell_93 (fun H locs hP hS => ?_)
                change W p l e _ s m _ below meth c H locs 1 25 _ (F0 m 96 ls [.int r34, .int r31])
                refine lv_icmp_gt (tgt := 103) hx hb dL_isWell_96 (by decide) (fun c37 => ?_) (fun c37 => ?_)
                · rw [if_pos c37] at h
                  refine lv_iconst (v := 0) hx hb dL_isWell_103 (by decide) ?_
                  refine lv_istore (lv' := [(6, .int 0), (8, .int r3), (0, .ref (a 0)), (1, .int x1), (2, .ref q), (3, .int x3), (4, .int x4), (5, .int x5), (7, .int x7)]) hx hb dL_isWell_104 hl (by decide) rfl (fun ls hl => ?_)
                  refine lv_aload_n hx hb dL_isWell_106 rfl (lv_at hl 4 rfl) ?_
                  refine lv_iload hx hb dL_isWell_107 (lv_at hl 1 rfl) ?_
                  refine lv_if_ge (tgt := 117) hx hb dL_isWell_109 (by decide) (fun c38 => ?_) (fun c38 => ?_)
                  · rw [if_pos c38] at h
                    refine lv_iload hx hb dL_isWell_117 (lv_at hl 1 rfl) ?_
                    refine lv_iload hx hb dL_isWell_119 (lv_at hl 8 rfl) ?_
                    obtain ⟨b39, h⟩ := xm_ck_s h
                    obtain ⟨N40, e41, h⟩ := xm_lt_s h
                    refine xm_iast (V := (xj (xv E a) (xq E q))) (M := xk 120 M35 N) C hP hS 120 25 (Nat.le_of_ble_eq_true rfl) (fun _ => rfl) b39 dL_isWell_121 (fun H locs hP hS => ?_)
                    rw [show xm_up (xk 120 M35 N) 120 r3.toNatClampNeg x7 = xk 120 M35 N40 from (xk_up (n := 120) (r := 0)).trans (by rw [e41])] at hP
                    exact ih.2 M35 N40 x1 x3 x4 x5 0 x7 r M' N' h _ _ _ hP hS (lv_sub hl [2, 3, 4, 5, 6, 7, 0, 8] rfl)
                  · rw [if_neg c38] at h
                    refine lv_bipush (v := 24) hx hb dL_isWell_112 (by decide) ?_
                    refine lv_goto (tgt := 119) hx hb dL_isWell_114 (by decide) ?_
                    refine lv_iload hx hb dL_isWell_119 (lv_at hl 8 rfl) ?_
                    obtain ⟨b42, h⟩ := xm_ck_s h
                    obtain ⟨N43, e44, h⟩ := xm_lt_s h
                    refine xm_iast (V := (xj (xv E a) (xq E q))) (M := xk 120 M35 N) C hP hS 120 25 (Nat.le_of_ble_eq_true rfl) (fun _ => rfl) b42 dL_isWell_121 (fun H locs hP hS => ?_)
                    rw [show xm_up (xk 120 M35 N) 120 (24 : Int32).toNatClampNeg x7 = xk 120 M35 N43 from (xk_up (n := 120) (r := 0)).trans (by rw [e44])] at hP
                    exact ih.2 M35 N43 x1 x3 x4 x5 0 x7 r M' N' h _ _ _ hP hS (lv_sub hl [2, 3, 4, 5, 6, 7, 0, 8] rfl)
                · rw [if_neg c37] at h
                  refine lv_iconst (v := 1) hx hb dL_isWell_99 (by decide) ?_
                  refine lv_goto (tgt := 104) hx hb dL_isWell_100 (by decide) ?_
                  refine lv_istore (lv' := [(6, .int 1), (8, .int r3), (0, .ref (a 0)), (1, .int x1), (2, .ref q), (3, .int x3), (4, .int x4), (5, .int x5), (7, .int x7)]) hx hb dL_isWell_104 hl (by decide) rfl (fun ls hl => ?_)
                  refine lv_aload_n hx hb dL_isWell_106 rfl (lv_at hl 4 rfl) ?_
                  refine lv_iload hx hb dL_isWell_107 (lv_at hl 1 rfl) ?_
                  refine lv_if_ge (tgt := 117) hx hb dL_isWell_109 (by decide) (fun c45 => ?_) (fun c45 => ?_)
                  · rw [if_pos c45] at h
                    refine lv_iload hx hb dL_isWell_117 (lv_at hl 1 rfl) ?_
                    refine lv_iload hx hb dL_isWell_119 (lv_at hl 8 rfl) ?_
                    obtain ⟨b46, h⟩ := xm_ck_s h
                    obtain ⟨N47, e48, h⟩ := xm_lt_s h
                    refine xm_iast (V := (xj (xv E a) (xq E q))) (M := xk 120 M35 N) C hP hS 120 25 (Nat.le_of_ble_eq_true rfl) (fun _ => rfl) b46 dL_isWell_121 (fun H locs hP hS => ?_)
                    rw [show xm_up (xk 120 M35 N) 120 r3.toNatClampNeg x7 = xk 120 M35 N47 from (xk_up (n := 120) (r := 0)).trans (by rw [e48])] at hP
                    exact ih.2 M35 N47 x1 x3 x4 x5 1 x7 r M' N' h _ _ _ hP hS (lv_sub hl [2, 3, 4, 5, 6, 7, 0, 8] rfl)
                  · rw [if_neg c45] at h
                    refine lv_bipush (v := 24) hx hb dL_isWell_112 (by decide) ?_
                    refine lv_goto (tgt := 119) hx hb dL_isWell_114 (by decide) ?_
                    refine lv_iload hx hb dL_isWell_119 (lv_at hl 8 rfl) ?_
                    obtain ⟨b49, h⟩ := xm_ck_s h
                    obtain ⟨N50, e51, h⟩ := xm_lt_s h
                    refine xm_iast (V := (xj (xv E a) (xq E q))) (M := xk 120 M35 N) C hP hS 120 25 (Nat.le_of_ble_eq_true rfl) (fun _ => rfl) b49 dL_isWell_121 (fun H locs hP hS => ?_)
                    rw [show xm_up (xk 120 M35 N) 120 (24 : Int32).toNatClampNeg x7 = xk 120 M35 N50 from (xk_up (n := 120) (r := 0)).trans (by rw [e51])] at hP
                    exact ih.2 M35 N50 x1 x3 x4 x5 1 x7 r M' N' h _ _ _ hP hS (lv_sub hl [2, 3, 4, 5, 6, 7, 0, 8] rfl)
    · rw [f_L_isWell_S46] at h
      refine lv_iload_n hx hb dL_isWell_122 rfl (lv_at hl 3 rfl) ?_
      refine lv_aload_n hx hb dL_isWell_123 rfl (lv_at hl 0 rfl) ?_
      refine lv_iload hx hb dL_isWell_124 (lv_at hl 7 rfl) ?_
      refine lv_iconst (v := 4) hx hb dL_isWell_126 (by decide) ?_
      obtain ⟨r1, M2, e3, h⟩ := xm_b2_s h
      refine lm_o C hP hS [.int x7, .int 4] [.int x3] (c_X6_eventOf hDo n M x7 4 r1 M2 e3) k_L_90 rfl rfl rfl ⟨(Nat.le_of_ble_eq_true rfl), (Nat.le_of_ble_eq_true rfl)⟩ hl.1 (Nat.le_of_ble_eq_true rfl) ⟨(Nat.le_of_ble_eq_true rfl), (Nat.le_of_ble_eq_true rfl)⟩ dL_isWell_127 (fun H locs hP hS => ?_)
      change W p l e _ s m _ below meth c H locs 1 25 _ (F0 m 130 ls [.int r1, .int x3])
      refine lv_if_ne (tgt := 137) hx hb dL_isWell_130 (by decide) (fun c4 => ?_) (fun c4 => ?_)
      · rw [if_neg c4] at h
        refine lv_iconst (v := 0) hx hb dL_isWell_137 (by decide) ?_
        refine lv_iadd hx hb dL_isWell_138 ?_
        refine lv_istore_n (lv' := [(3, .int (x3 + 0)), (0, .ref (a 0)), (1, .int x1), (2, .ref q), (4, .int x4), (5, .int x5), (6, .int x6), (7, .int x7)]) hx hb dL_isWell_139 rfl hl (by decide) rfl (fun ls hl => ?_)
        refine lv_iload hx hb dL_isWell_140 (lv_at hl 5 rfl) ?_
        refine lv_aload_n hx hb dL_isWell_142 rfl (lv_at hl 1 rfl) ?_
        refine lv_iload hx hb dL_isWell_143 (lv_at hl 7 rfl) ?_
        refine lv_iconst (v := 4) hx hb dL_isWell_145 (by decide) ?_
        obtain ⟨r5, M6, e7, h⟩ := xm_b2_s h
        refine lm_o C hP hS [.int x7, .int 4] [.int x5] (c_X6_eventOf hDo n M2 x7 4 r5 M6 e7) k_L_90 rfl rfl rfl ⟨(Nat.le_of_ble_eq_true rfl), (Nat.le_of_ble_eq_true rfl)⟩ hl.1 (Nat.le_of_ble_eq_true rfl) ⟨(Nat.le_of_ble_eq_true rfl), (Nat.le_of_ble_eq_true rfl)⟩ dL_isWell_146 (fun H locs hP hS => ?_)
        change W p l e _ s m _ below meth c H locs 1 25 _ (F0 m 149 ls [.int r5, .int x5])
        refine lv_iadd hx hb dL_isWell_149 ?_
        refine lv_istore (lv' := [(5, .int (x5 + r5)), (3, .int (x3 + 0)), (0, .ref (a 0)), (1, .int x1), (2, .ref q), (4, .int x4), (6, .int x6), (7, .int x7)]) hx hb dL_isWell_150 hl (by decide) rfl (fun ls hl => ?_)
        refine lv_iinc (v := x7 + 1) (lv' := [(7, .int (x7 + 1)), (5, .int (x5 + r5)), (3, .int (x3 + 0)), (0, .ref (a 0)), (1, .int x1), (2, .ref q), (4, .int x4), (6, .int x6)]) hx hb dL_isWell_152 hl (k := 7) rfl (xm_add (by decide)) (by decide) rfl (fun ls hl => ?_)
        refine lv_goto (tgt := 46) hx hb dL_isWell_155 (by decide) ?_
        exact ih.1 M6 N x1 (x3 + 0) x4 (x5 + r5) x6 (x7 + 1) r M' N' h _ _ _ hP hS (lv_sub hl [3, 4, 5, 2, 6, 1, 7, 0] rfl)
      · rw [if_pos c4] at h
        refine lv_iconst (v := 1) hx hb dL_isWell_133 (by decide) ?_
        refine lv_goto (tgt := 138) hx hb dL_isWell_134 (by decide) ?_
        refine lv_iadd hx hb dL_isWell_138 ?_
        refine lv_istore_n (lv' := [(3, .int (x3 + 1)), (0, .ref (a 0)), (1, .int x1), (2, .ref q), (4, .int x4), (5, .int x5), (6, .int x6), (7, .int x7)]) hx hb dL_isWell_139 rfl hl (by decide) rfl (fun ls hl => ?_)
        refine lv_iload hx hb dL_isWell_140 (lv_at hl 5 rfl) ?_
        refine lv_aload_n hx hb dL_isWell_142 rfl (lv_at hl 1 rfl) ?_
        refine lv_iload hx hb dL_isWell_143 (lv_at hl 7 rfl) ?_
        refine lv_iconst (v := 4) hx hb dL_isWell_145 (by decide) ?_
        obtain ⟨r8, M9, e10, h⟩ := xm_b2_s h
        refine lm_o C hP hS [.int x7, .int 4] [.int x5] (c_X6_eventOf hDo n M2 x7 4 r8 M9 e10) k_L_90 rfl rfl rfl ⟨(Nat.le_of_ble_eq_true rfl), (Nat.le_of_ble_eq_true rfl)⟩ hl.1 (Nat.le_of_ble_eq_true rfl) ⟨(Nat.le_of_ble_eq_true rfl), (Nat.le_of_ble_eq_true rfl)⟩ dL_isWell_146 (fun H locs hP hS => ?_)
        change W p l e _ s m _ below meth c H locs 1 25 _ (F0 m 149 ls [.int r8, .int x5])
        refine lv_iadd hx hb dL_isWell_149 ?_
        refine lv_istore (lv' := [(5, .int (x5 + r8)), (3, .int (x3 + 1)), (0, .ref (a 0)), (1, .int x1), (2, .ref q), (4, .int x4), (6, .int x6), (7, .int x7)]) hx hb dL_isWell_150 hl (by decide) rfl (fun ls hl => ?_)
        refine lv_iinc (v := x7 + 1) (lv' := [(7, .int (x7 + 1)), (5, .int (x5 + r8)), (3, .int (x3 + 1)), (0, .ref (a 0)), (1, .int x1), (2, .ref q), (4, .int x4), (6, .int x6)]) hx hb dL_isWell_152 hl (k := 7) rfl (xm_add (by decide)) (by decide) rfl (fun ls hl => ?_)
        refine lv_goto (tgt := 46) hx hb dL_isWell_155 (by decide) ?_
        exact ih.1 M9 N x1 (x3 + 1) x4 (x5 + r8) x6 (x7 + 1) r M' N' h _ _ _ hP hS (lv_sub hl [3, 4, 5, 2, 6, 1, 7, 0] rfl)
theorem t_L_isWell_46 {l : Launch} {p : Program} {e : Env} {s : State} {m : MethodId} {args : Array Value} {below : List Frame} {meth : Method} {c : Code} {E : xm_E} {a : Nat → Nat} {q : Nat} (C : xm_C E (xj (xv E a) (xq E q)) p s m args meth c RL cL_isWell 9 (some .boolean)) (n : Nat) (M N : xm_M) (x1 : Int32) (x3 : Int32) (x4 : Int32) (x5 : Int32) (x6 : Int32) (x7 : Int32) (r : Int32) (M' N' : xm_M) : f_L_isWell_46 n M N x1 x3 x4 x5 x6 x7 = some (r, M', N') → ∀ (H : Heap) (locs : List Loc) (ls : Array Slot), va_P E.1 vwCl (xm_w (xj (xv E a) (xq E q)) (xk 120 M N)) H → va_S (xm_A (xj (xv E a) (xq E q)) s.heap.size) s.heap H locs → lv_has ls 9 [(0, .ref (a 0)), (1, .int x1), (2, .ref q), (3, .int x3), (4, .int x4), (5, .int x5), (6, .int x6), (7, .int x7)] → W p l e { frames := 9, cells := 1, slots := 25, locals := 219 } s m args below meth c H locs 1 25 (MQ below (xm_Q E (xj (xv E a) (xq E q)) (xk 120 M' N') s.heap.size (some r)) args s 1 25 (xm_A (xj (xv E a) (xq E q)) s.heap.size)) (F0 m 46 ls []) :=
  fun h H locs ls hP hS hl => (t_L_isWell_S46 C n).1 M N x1 x3 x4 x5 x6 x7 r M' N' h H locs ls hP hS hl
theorem t_L_isWell_122 {l : Launch} {p : Program} {e : Env} {s : State} {m : MethodId} {args : Array Value} {below : List Frame} {meth : Method} {c : Code} {E : xm_E} {a : Nat → Nat} {q : Nat} (C : xm_C E (xj (xv E a) (xq E q)) p s m args meth c RL cL_isWell 9 (some .boolean)) (n : Nat) (M N : xm_M) (x1 : Int32) (x3 : Int32) (x4 : Int32) (x5 : Int32) (x6 : Int32) (x7 : Int32) (r : Int32) (M' N' : xm_M) : f_L_isWell_122 n M N x1 x3 x4 x5 x6 x7 = some (r, M', N') → ∀ (H : Heap) (locs : List Loc) (ls : Array Slot), va_P E.1 vwCl (xm_w (xj (xv E a) (xq E q)) (xk 120 M N)) H → va_S (xm_A (xj (xv E a) (xq E q)) s.heap.size) s.heap H locs → lv_has ls 9 [(0, .ref (a 0)), (1, .int x1), (2, .ref q), (3, .int x3), (4, .int x4), (5, .int x5), (6, .int x6), (7, .int x7)] → W p l e { frames := 9, cells := 1, slots := 25, locals := 219 } s m args below meth c H locs 1 25 (MQ below (xm_Q E (xj (xv E a) (xq E q)) (xk 120 M' N') s.heap.size (some r)) args s 1 25 (xm_A (xj (xv E a) (xq E q)) s.heap.size)) (F0 m 122 ls []) :=
  fun h H locs ls hP hS hl => (t_L_isWell_S46 C n).2 M N x1 x3 x4 x5 x6 x7 r M' N' h H locs ls hP hS hl
def f_L_isWell_S25 : Nat → Nat → xm_M → xm_M → Int32 → Int32 → Int32 → Int32 → Int32 → Int32 → Option (Int32 × xm_M × xm_M)
  | 0, _, _, _, _, _, _, _, _, _ => none
  | n + 1, _, M, N, x1, x3, x4, x5, x6, x7 => if (25 : Int32) ≤ x7 then f_L_isWell_46 n M N x1 x3 x4 x5 x6 0 else xm_ck (xm_in x7 25) (xm_lt (xm_up N 0 x7.toNatClampNeg ((-1))) (fun N3 => f_L_isWell_S25 n 0 M N3 x1 x3 x4 x5 x6 (x7 + 1)))
def f_L_isWell_25 (n : Nat) (M N : xm_M) (x1 : Int32) (x3 : Int32) (x4 : Int32) (x5 : Int32) (x6 : Int32) (x7 : Int32) : Option (Int32 × xm_M × xm_M) := f_L_isWell_S25 n 0 M N x1 x3 x4 x5 x6 x7
set_option maxHeartbeats 4000000 in
set_option maxRecDepth 100000 in
theorem t_L_isWell_S25 {l : Launch} {p : Program} {e : Env} {s : State} {m : MethodId} {args : Array Value} {below : List Frame} {meth : Method} {c : Code} {E : xm_E} {a : Nat → Nat} {q : Nat} (C : xm_C E (xj (xv E a) (xq E q)) p s m args meth c RL cL_isWell 9 (some .boolean)) : ∀ (n : Nat), (∀ (M N : xm_M) (x1 : Int32) (x3 : Int32) (x4 : Int32) (x5 : Int32) (x6 : Int32) (x7 : Int32) (r : Int32) (M' N' : xm_M), f_L_isWell_S25 n 0 M N x1 x3 x4 x5 x6 x7 = some (r, M', N') → ∀ (H : Heap) (locs : List Loc) (ls : Array Slot), va_P E.1 vwCl (xm_w (xj (xv E a) (xq E q)) (xk 120 M N)) H → va_S (xm_A (xj (xv E a) (xq E q)) s.heap.size) s.heap H locs → lv_has ls 9 [(0, .ref (a 0)), (1, .int x1), (2, .ref q), (3, .int x3), (4, .int x4), (5, .int x5), (6, .int x6), (7, .int x7)] → W p l e { frames := 9, cells := 1, slots := 25, locals := 219 } s m args below meth c H locs 1 25 (MQ below (xm_Q E (xj (xv E a) (xq E q)) (xk 120 M' N') s.heap.size (some r)) args s 1 25 (xm_A (xj (xv E a) (xq E q)) s.heap.size)) (F0 m 25 ls [])) := by
  have C9 := C
  obtain ⟨hx, hb, hml, hown, hts, hr, hlk, hD, hK, hS9⟩ := C9
  have hDo := xj_D1 hD
  have hDp := xj_D2 hD
  intro n
  induction n with
  | zero =>
    refine (fun M N x1 x3 x4 x5 x6 x7 r M' N' h => ?_)
    all_goals cases h
  | succ n ih =>
    refine (fun M N x1 x3 x4 x5 x6 x7 r M' N' h H locs ls hP hS hl => ?_)
    · rw [f_L_isWell_S25] at h
      refine lv_iload hx hb dL_isWell_25 (lv_at hl 7 rfl) ?_
      refine lv_bipush (v := 25) hx hb dL_isWell_27 (by decide) ?_
      refine lv_icmp_ge (tgt := 43) hx hb dL_isWell_29 (by decide) (fun c1 => ?_) (fun c1 => ?_)
      · rw [if_pos c1] at h
        refine lv_iconst (v := 0) hx hb dL_isWell_43 (by decide) ?_
        refine lv_istore (lv' := [(7, .int 0), (0, .ref (a 0)), (1, .int x1), (2, .ref q), (3, .int x3), (4, .int x4), (5, .int x5), (6, .int x6)]) hx hb dL_isWell_44 hl (by decide) rfl (fun ls hl => ?_)
        exact t_L_isWell_46 C n M N x1 x3 x4 x5 x6 0 r M' N' h _ _ _ hP hS (lv_sub hl [1, 2, 3, 4, 5, 6, 7, 0] rfl)
      · rw [if_neg c1] at h
        refine lv_aload_n hx hb dL_isWell_32 rfl (lv_at hl 2 rfl) ?_
        refine lv_iload hx hb dL_isWell_33 (lv_at hl 7 rfl) ?_
        refine lv_iconst (v := (-1)) hx hb dL_isWell_35 (by decide) ?_
        obtain ⟨b2, h⟩ := xm_ck_s h
        obtain ⟨N3, e4, h⟩ := xm_lt_s h
        refine xm_iast (V := (xj (xv E a) (xq E q))) (M := xk 120 M N) C hP hS 120 25 (Nat.le_of_ble_eq_true rfl) (fun _ => rfl) b2 dL_isWell_36 (fun H locs hP hS => ?_)
        rw [show xm_up (xk 120 M N) 120 x7.toNatClampNeg ((-1)) = xk 120 M N3 from (xk_up (n := 120) (r := 0)).trans (by rw [e4])] at hP
        refine lv_iinc (v := x7 + 1) (lv' := [(7, .int (x7 + 1)), (0, .ref (a 0)), (1, .int x1), (2, .ref q), (3, .int x3), (4, .int x4), (5, .int x5), (6, .int x6)]) hx hb dL_isWell_37 hl (k := 7) rfl (xm_add (by decide)) (by decide) rfl (fun ls hl => ?_)
        refine lv_goto (tgt := 25) hx hb dL_isWell_40 (by decide) ?_
        exact ih M N3 x1 x3 x4 x5 x6 (x7 + 1) r M' N' h _ _ _ hP hS (lv_sub hl [1, 2, 3, 4, 5, 6, 7, 0] rfl)
theorem t_L_isWell_25 {l : Launch} {p : Program} {e : Env} {s : State} {m : MethodId} {args : Array Value} {below : List Frame} {meth : Method} {c : Code} {E : xm_E} {a : Nat → Nat} {q : Nat} (C : xm_C E (xj (xv E a) (xq E q)) p s m args meth c RL cL_isWell 9 (some .boolean)) (n : Nat) (M N : xm_M) (x1 : Int32) (x3 : Int32) (x4 : Int32) (x5 : Int32) (x6 : Int32) (x7 : Int32) (r : Int32) (M' N' : xm_M) : f_L_isWell_25 n M N x1 x3 x4 x5 x6 x7 = some (r, M', N') → ∀ (H : Heap) (locs : List Loc) (ls : Array Slot), va_P E.1 vwCl (xm_w (xj (xv E a) (xq E q)) (xk 120 M N)) H → va_S (xm_A (xj (xv E a) (xq E q)) s.heap.size) s.heap H locs → lv_has ls 9 [(0, .ref (a 0)), (1, .int x1), (2, .ref q), (3, .int x3), (4, .int x4), (5, .int x5), (6, .int x6), (7, .int x7)] → W p l e { frames := 9, cells := 1, slots := 25, locals := 219 } s m args below meth c H locs 1 25 (MQ below (xm_Q E (xj (xv E a) (xq E q)) (xk 120 M' N') s.heap.size (some r)) args s 1 25 (xm_A (xj (xv E a) (xq E q)) s.heap.size)) (F0 m 25 ls []) :=
  fun h H locs ls hP hS hl => (t_L_isWell_S25 C n) M N x1 x3 x4 x5 x6 x7 r M' N' h H locs ls hP hS hl
def f_L_isWell_11 (n : Nat) (M N : xm_M) (x1 : Int32) : Option (Int32 × xm_M × xm_M) := f_L_isWell_25 n M N x1 0 0 0 1 0
set_option maxHeartbeats 4000000 in
set_option maxRecDepth 100000 in
theorem t_L_isWell_11 {l : Launch} {p : Program} {e : Env} {s : State} {m : MethodId} {args : Array Value} {below : List Frame} {meth : Method} {c : Code} {E : xm_E} {a : Nat → Nat} {q : Nat} (C : xm_C E (xj (xv E a) (xq E q)) p s m args meth c RL cL_isWell 9 (some .boolean)) (n : Nat) (M N : xm_M) (x1 : Int32) (r : Int32) (M' N' : xm_M) : f_L_isWell_11 n M N x1 = some (r, M', N') → ∀ (H : Heap) (locs : List Loc) (ls : Array Slot), va_P E.1 vwCl (xm_w (xj (xv E a) (xq E q)) (xk 120 M N)) H → va_S (xm_A (xj (xv E a) (xq E q)) s.heap.size) s.heap H locs → lv_has ls 9 [(0, .ref (a 0)), (1, .int x1), (2, .ref q)] → W p l e { frames := 9, cells := 1, slots := 25, locals := 219 } s m args below meth c H locs 1 25 (MQ below (xm_Q E (xj (xv E a) (xq E q)) (xk 120 M' N') s.heap.size (some r)) args s 1 25 (xm_A (xj (xv E a) (xq E q)) s.heap.size)) (F0 m 11 ls []) := by
  have C9 := C
  obtain ⟨hx, hb, hml, hown, hts, hr, hlk, hD, hK, hS9⟩ := C9
  have hDo := xj_D1 hD
  have hDp := xj_D2 hD
  intro h H locs ls hP hS hl
  unfold f_L_isWell_11 at h
  refine lv_iconst (v := 0) hx hb dL_isWell_11 (by decide) ?_
  refine lv_istore_n (lv' := [(3, .int 0), (0, .ref (a 0)), (1, .int x1), (2, .ref q)]) hx hb dL_isWell_12 rfl hl (by decide) rfl (fun ls hl => ?_)
  refine lv_iconst (v := 0) hx hb dL_isWell_13 (by decide) ?_
  refine lv_istore (lv' := [(4, .int 0), (3, .int 0), (0, .ref (a 0)), (1, .int x1), (2, .ref q)]) hx hb dL_isWell_14 hl (by decide) rfl (fun ls hl => ?_)
  refine lv_iconst (v := 0) hx hb dL_isWell_16 (by decide) ?_
  refine lv_istore (lv' := [(5, .int 0), (4, .int 0), (3, .int 0), (0, .ref (a 0)), (1, .int x1), (2, .ref q)]) hx hb dL_isWell_17 hl (by decide) rfl (fun ls hl => ?_)
  refine lv_iconst (v := 1) hx hb dL_isWell_19 (by decide) ?_
  refine lv_istore (lv' := [(6, .int 1), (5, .int 0), (4, .int 0), (3, .int 0), (0, .ref (a 0)), (1, .int x1), (2, .ref q)]) hx hb dL_isWell_20 hl (by decide) rfl (fun ls hl => ?_)
  refine lv_iconst (v := 0) hx hb dL_isWell_22 (by decide) ?_
  refine lv_istore (lv' := [(7, .int 0), (6, .int 1), (5, .int 0), (4, .int 0), (3, .int 0), (0, .ref (a 0)), (1, .int x1), (2, .ref q)]) hx hb dL_isWell_23 hl (by decide) rfl (fun ls hl => ?_)
  exact t_L_isWell_25 C n M N x1 0 0 0 1 0 r M' N' h _ _ _ hP hS (lv_sub hl [5, 6, 7, 4, 3, 2, 1, 0] rfl)
