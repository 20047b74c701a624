theorem k_L_90 : xm_FV RL 90 yX6_eventOf cX6_eventOf 3 (some .int) 2 := ⟨xm_tb_of (List.mem_of_getElem? (i := 577) (by decide +kernel)) rfl, xm_tb_of (List.mem_of_getElem? (i := 574) (by decide +kernel)) rfl, xm_tb_of (List.mem_of_getElem? (i := 575) (by decide +kernel)) rfl, xm_tb_of (List.mem_of_getElem? (i := 576) (by decide +kernel)) rfl, xm_tb_of (List.mem_of_getElem? (i := 1) (by decide +kernel)) rfl, ⟨by decide +kernel, by decide +kernel, by decide +kernel⟩⟩
theorem k_L_83 : xm_FV RL 83 yX6_step cX6_step 5 (some .int) 3 := ⟨xm_tb_of (List.mem_of_getElem? (i := 565) (by decide +kernel)) rfl, xm_tb_of (List.mem_of_getElem? (i := 562) (by decide +kernel)) rfl, xm_tb_of (List.mem_of_getElem? (i := 563) (by decide +kernel)) rfl, xm_tb_of (List.mem_of_getElem? (i := 564) (by decide +kernel)) rfl, xm_tb_of (List.mem_of_getElem? (i := 1) (by decide +kernel)) rfl, ⟨by decide +kernel, by decide +kernel, by decide +kernel⟩⟩
theorem k_L_87 : xm_FV RL 87 yX6_match cX6_match 5 (some .int) 3 := ⟨xm_tb_of (List.mem_of_getElem? (i := 569) (by decide +kernel)) rfl, xm_tb_of (List.mem_of_getElem? (i := 566) (by decide +kernel)) rfl, xm_tb_of (List.mem_of_getElem? (i := 567) (by decide +kernel)) rfl, xm_tb_of (List.mem_of_getElem? (i := 568) (by decide +kernel)) rfl, xm_tb_of (List.mem_of_getElem? (i := 1) (by decide +kernel)) rfl, ⟨by decide +kernel, by decide +kernel, by decide +kernel⟩⟩
def f_L_areAlike_S240 : Nat → Nat → xm_M → xm_M → Int32 → Int32 → Option (Int32 × xm_M × xm_M)
  | 0, _, _, _, _, _ => none
  | n + 1, _, M, N, x2, x3 => xm_b2 (f_X6_count n M 0) (fun r1 M2 => if r1 ≤ x3 then xm_ck (xm_z x2) (some (x2, M2, N)) else if x2 = 0 then xm_ck (xm_z x2) (some (x2, M2, N)) else xm_b2 (f_X6_eventOf n M2 x3 0) (fun r8 M9 => xm_b3 (f_L_there n M9 N r8) (fun r11 M12 N14 => xm_b2 (f_X6_eventOf n N14 x3 0) (fun r15 M16 => if r11 = r15 then xm_b2 (f_X6_eventOf n M12 x3 1) (fun r19 M20 => xm_b2 (f_X6_eventOf n M16 x3 1) (fun r22 M23 => if ((((2 : Int32)) * r19) + 1) = r22 then xm_b2 (f_X6_eventOf n M20 x3 2) (fun r26 M27 => xm_b2 (f_X6_eventOf n M23 x3 2) (fun r29 M30 => if r26 = r29 then xm_b2 (f_X6_eventOf n M27 x3 3) (fun r33 M34 => xm_b2 (f_X6_eventOf n M30 x3 3) (fun r36 M37 => if r33 = r36 then xm_b2 (f_X6_eventOf n M34 x3 4) (fun r40 M41 => xm_b2 (f_X6_eventOf n M37 x3 4) (fun r43 M44 => if r40 = r43 then f_L_areAlike_S240 n 0 M41 M44 1 (x3 + 1) else f_L_areAlike_S240 n 0 M41 M44 0 (x3 + 1))) else f_L_areAlike_S240 n 0 M34 M37 0 (x3 + 1))) else f_L_areAlike_S240 n 0 M27 M30 0 (x3 + 1))) else f_L_areAlike_S240 n 0 M20 M23 0 (x3 + 1))) else f_L_areAlike_S240 n 0 M12 M16 0 (x3 + 1)))))
def f_L_areAlike_240 (n : Nat) (M N : xm_M) (x2 : Int32) (x3 : Int32) : Option (Int32 × xm_M × xm_M) := f_L_areAlike_S240 n 0 M N x2 x3
set_option maxHeartbeats 4000000 in
set_option maxRecDepth 100000 in
theorem t_L_areAlike_S240 {l : Launch} {p : Program} {e : Env} {s : State} {m : MethodId} {args : Array Value} {below : List Frame} {meth : Method} {c : Code} {E : xm_E} {a : Nat → Nat} {bb : Nat → Nat} (C : xm_C E (xj (xv E a) (xv E bb)) p s m args meth c RL cL_areAlike 5 (some .boolean)) : ∀ (n : Nat), (∀ (M N : xm_M) (x2 : Int32) (x3 : Int32) (r : Int32) (M' N' : xm_M), f_L_areAlike_S240 n 0 M N x2 x3 = some (r, M', N') → ∀ (H : Heap) (locs : List Loc) (ls : Array Slot), va_P E.1 vwCl (xm_w (xj (xv E a) (xv E bb)) (xk 120 M N)) H → va_S (xm_A (xj (xv E a) (xv E bb)) s.heap.size) s.heap H locs → lv_has ls 5 [(0, .ref (a 0)), (1, .ref (bb 0)), (2, .int x2), (3, .int x3)] → W p l e { frames := 9, cells := 0, slots := 0, locals := 219 } s m args below meth c H locs 0 0 (MQ below (xm_Q E (xj (xv E a) (xv E bb)) (xk 120 M' N') s.heap.size (some r)) args s 0 0 (xm_A (xj (xv E a) (xv E bb)) s.heap.size)) (F0 m 240 ls [])) := by
  have C9 := C
  obtain ⟨hx, hb, hml, hown, hts, hr, hlk, hD, hK, hS9⟩ := C9
  have hDo := xj_D1 hD
  have hDp := xj_D2 hD
  intro n
  induction n with
  | zero =>
    refine (fun M N x2 x3 r M' N' h => ?_)
    all_goals cases h
  | succ n ih =>
    refine (fun M N x2 x3 r M' N' h H locs ls hP hS hl => ?_)
    · rw [f_L_areAlike_S240] at h
      refine lv_iload_n hx hb dL_areAlike_240 rfl (lv_at hl 3 rfl) ?_
      refine lv_aload_n hx hb dL_areAlike_241 rfl (lv_at hl 0 rfl) ?_
      refine lv_iconst (v := 0) hx hb dL_areAlike_242 (by decide) ?_
      obtain ⟨r1, M2, e3, h⟩ := xm_b2_s h
      refine lm_o C hP hS [.int 0] [.int x3] (c_X6_count hDo n M 0 r1 M2 e3) k_L_47 rfl rfl rfl ⟨(Nat.le_of_ble_eq_true rfl), (Nat.le_of_ble_eq_true rfl)⟩ hl.1 (Nat.le_of_ble_eq_true rfl) ⟨(Nat.le_of_ble_eq_true rfl), (Nat.le_of_ble_eq_true rfl)⟩ dL_areAlike_243 (fun H locs hP hS => ?_)
      change W p l e _ s m _ below meth c H locs 0 0 _ (F0 m 246 ls [.int r1, .int x3])
      refine lv_icmp_ge (tgt := 347) hx hb dL_areAlike_246 (by decide) (fun c4 => ?_) (fun c4 => ?_)
      · rw [if_pos c4] at h
        refine lv_iload_n hx hb dL_areAlike_347 rfl (lv_at hl 2 rfl) ?_
        obtain ⟨z5, h⟩ := xm_ck_s h
        obtain ⟨rfl, rfl, rfl⟩ := xm_p3 h
        exact lm_retZ C hP hS (xm_z_s z5) dL_areAlike_348
      · rw [if_neg c4] at h
        refine lv_iload_n hx hb dL_areAlike_249 rfl (lv_at hl 2 rfl) ?_
        refine lv_if_eq (tgt := 347) hx hb dL_areAlike_250 (by decide) (fun c6 => ?_) (fun c6 => ?_)
        · rw [if_pos c6] at h
          refine lv_iload_n hx hb dL_areAlike_347 rfl (lv_at hl 2 rfl) ?_
          obtain ⟨z7, h⟩ := xm_ck_s h
          obtain ⟨rfl, rfl, rfl⟩ := xm_p3 h
          exact lm_retZ C hP hS (xm_z_s z7) dL_areAlike_348
        · rw [if_neg c6] at h
          refine lv_aload_n hx hb dL_areAlike_253 rfl (lv_at hl 0 rfl) ?_
          refine lv_iload_n hx hb dL_areAlike_254 rfl (lv_at hl 3 rfl) ?_
          refine lv_iconst (v := 0) hx hb dL_areAlike_255 (by decide) ?_
          obtain ⟨r8, M9, e10, h⟩ := xm_b2_s h
          refine lm_o C hP hS [.int x3, .int 0] [] (c_X6_eventOf hDo n M2 x3 0 r8 M9 e10) k_L_90 rfl rfl rfl ⟨(Nat.le_of_ble_eq_true rfl), (Nat.le_of_ble_eq_true rfl)⟩ hl.1 (Nat.le_of_ble_eq_true rfl) ⟨(Nat.le_of_ble_eq_true rfl), (Nat.le_of_ble_eq_true rfl)⟩ dL_areAlike_256 (fun H locs hP hS => ?_)
          change W p l e _ s m _ below meth c H locs 0 0 _ (F0 m 259 ls [.int r8])
          obtain ⟨r11, M12, N14, e13, h⟩ := xm_b3_s h
          refine xm_callS C hP hS [.int r8] [] (c_L_there hD n M9 N r8 r11 M12 N14 e13) k_L_43 rfl rfl ⟨(Nat.le_of_ble_eq_true rfl), (Nat.le_of_ble_eq_true rfl)⟩ hl.1 (Nat.le_of_ble_eq_true rfl) ⟨(Nat.le_of_ble_eq_true rfl), (Nat.le_of_ble_eq_true rfl)⟩ dL_areAlike_259 (fun H locs hP hS => ?_)
          change W p l e _ s m _ below meth c H locs 0 0 _ (F0 m 262 ls [.int r11])
          refine lv_aload_n hx hb dL_areAlike_262 rfl (lv_at hl 1 rfl) ?_
          refine lv_iload_n hx hb dL_areAlike_263 rfl (lv_at hl 3 rfl) ?_
          refine lv_iconst (v := 0) hx hb dL_areAlike_264 (by decide) ?_
          obtain ⟨r15, M16, e17, h⟩ := xm_b2_s h
          refine lm_p C hP hS [.int x3, .int 0] [.int r11] (c_X6_eventOf hDp n N14 x3 0 r15 M16 e17) k_L_90 rfl rfl rfl ⟨(Nat.le_of_ble_eq_true rfl), (Nat.le_of_ble_eq_true rfl)⟩ hl.1 (Nat.le_of_ble_eq_true rfl) ⟨(Nat.le_of_ble_eq_true rfl), (Nat.le_of_ble_eq_true rfl)⟩ dL_areAlike_265 (fun H locs hP hS => ?_)
          change W p l e _ s m _ below meth c H locs 0 0 _ (F0 m 268 ls [.int r15, .int r11])
          refine lv_icmp_ne (tgt := 339) hx hb dL_areAlike_268 (by decide) (fun c18 => ?_) (fun c18 => ?_)
          · rw [if_neg c18] at h
            refine lv_iconst (v := 0) hx hb dL_areAlike_339 (by decide) ?_
            refine lv_istore_n (lv' := [(2, .int 0), (0, .ref (a 0)), (1, .ref (bb 0)), (3, .int x3)]) hx hb dL_areAlike_340 rfl hl (by decide) rfl (fun ls hl => ?_)
            refine lv_iinc (v := x3 + 1) (lv' := [(3, .int (x3 + 1)), (2, .int 0), (0, .ref (a 0)), (1, .ref (bb 0))]) hx hb dL_areAlike_341 hl (k := 3) rfl (xm_add (by decide)) (by decide) rfl (fun ls hl => ?_)
            refine lv_goto (tgt := 240) hx hb dL_areAlike_344 (by decide) ?_
            exact ih M12 M16 0 (x3 + 1) r M' N' h _ _ _ hP hS (lv_sub hl [2, 3, 1, 0] rfl)
          · rw [if_pos c18] at h
            refine lv_iconst (v := 2) hx hb dL_areAlike_271 (by decide) ?_
            refine lv_aload_n hx hb dL_areAlike_272 rfl (lv_at hl 0 rfl) ?_
            refine lv_iload_n hx hb dL_areAlike_273 rfl (lv_at hl 3 rfl) ?_
            refine lv_iconst (v := 1) hx hb dL_areAlike_274 (by decide) ?_
            obtain ⟨r19, M20, e21, h⟩ := xm_b2_s h
            refine lm_o C hP hS [.int x3, .int 1] [.int 2] (c_X6_eventOf hDo n M12 x3 1 r19 M20 e21) k_L_90 rfl rfl rfl ⟨(Nat.le_of_ble_eq_true rfl), (Nat.le_of_ble_eq_true rfl)⟩ hl.1 (Nat.le_of_ble_eq_true rfl) ⟨(Nat.le_of_ble_eq_true rfl), (Nat.le_of_ble_eq_true rfl)⟩ dL_areAlike_275 (fun H locs hP hS => ?_)
            change W p l e _ s m _ below meth c H locs 0 0 _ (F0 m 278 ls [.int r19, .int 2])
            refine lv_imul hx hb dL_areAlike_278 ?_
            refine lv_iconst (v := 1) hx hb dL_areAlike_279 (by decide) ?_
            refine lv_iadd hx hb dL_areAlike_280 ?_
            refine lv_aload_n hx hb dL_areAlike_281 rfl (lv_at hl 1 rfl) ?_
            refine lv_iload_n hx hb dL_areAlike_282 rfl (lv_at hl 3 rfl) ?_
            refine lv_iconst (v := 1) hx hb dL_areAlike_283 (by decide) ?_
            obtain ⟨r22, M23, e24, h⟩ := xm_b2_s h
            refine lm_p C hP hS [.int x3, .int 1] [.int ((((2 : Int32)) * r19) + 1)] (c_X6_eventOf hDp n M16 x3 1 r22 M23 e24) k_L_90 rfl rfl rfl ⟨(Nat.le_of_ble_eq_true rfl), (Nat.le_of_ble_eq_true rfl)⟩ hl.1 (Nat.le_of_ble_eq_true rfl) ⟨(Nat.le_of_ble_eq_true rfl), (Nat.le_of_ble_eq_true rfl)⟩ dL_areAlike_284 (fun H locs hP hS => ?_)
            change W p l e _ s m _ below meth c H locs 0 0 _ (F0 m 287 ls [.int r22, .int ((((2 : Int32)) * r19) + 1)])
            refine lv_icmp_ne (tgt := 339) hx hb dL_areAlike_287 (by decide) (fun c25 => ?_) (fun c25 => ?_)
            · rw [if_neg c25] at h
              refine lv_iconst (v := 0) hx hb dL_areAlike_339 (by decide) ?_
              refine lv_istore_n (lv' := [(2, .int 0), (0, .ref (a 0)), (1, .ref (bb 0)), (3, .int x3)]) hx hb dL_areAlike_340 rfl hl (by decide) rfl (fun ls hl => ?_)
              refine lv_iinc (v := x3 + 1) (lv' := [(3, .int (x3 + 1)), (2, .int 0), (0, .ref (a 0)), (1, .ref (bb 0))]) hx hb dL_areAlike_341 hl (k := 3) rfl (xm_add (by decide)) (by decide) rfl (fun ls hl => ?_)
              refine lv_goto (tgt := 240) hx hb dL_areAlike_344 (by decide) ?_
              exact ih M20 M23 0 (x3 + 1) r M' N' h _ _ _ hP hS (lv_sub hl [2, 3, 1, 0] rfl)
            · rw [if_pos c25] at h
              refine lv_aload_n hx hb dL_areAlike_290 rfl (lv_at hl 0 rfl) ?_
              refine lv_iload_n hx hb dL_areAlike_291 rfl (lv_at hl 3 rfl) ?_
              refine lv_iconst (v := 2) hx hb dL_areAlike_292 (by decide) ?_
              obtain ⟨r26, M27, e28, h⟩ := xm_b2_s h
              refine lm_o C hP hS [.int x3, .int 2] [] (c_X6_eventOf hDo n M20 x3 2 r26 M27 e28) k_L_90 rfl rfl rfl ⟨(Nat.le_of_ble_eq_true rfl), (Nat.le_of_ble_eq_true rfl)⟩ hl.1 (Nat.le_of_ble_eq_true rfl) ⟨(Nat.le_of_ble_eq_true rfl), (Nat.le_of_ble_eq_true rfl)⟩ dL_areAlike_293 (fun H locs hP hS => ?_)
              change W p l e _ s m _ below meth c H locs 0 0 _ (F0 m 296 ls [.int r26])
              refine lv_aload_n hx hb dL_areAlike_296 rfl (lv_at hl 1 rfl) ?_
              refine lv_iload_n hx hb dL_areAlike_297 rfl (lv_at hl 3 rfl) ?_
              refine lv_iconst (v := 2) hx hb dL_areAlike_298 (by decide) ?_
              obtain ⟨r29, M30, e31, h⟩ := xm_b2_s h
              refine lm_p C hP hS [.int x3, .int 2] [.int r26] (c_X6_eventOf hDp n M23 x3 2 r29 M30 e31) k_L_90 rfl rfl rfl ⟨(Nat.le_of_ble_eq_true rfl), (Nat.le_of_ble_eq_true rfl)⟩ hl.1 (Nat.le_of_ble_eq_true rfl) ⟨(Nat.le_of_ble_eq_true rfl), (Nat.le_of_ble_eq_true rfl)⟩ dL_areAlike_299 (fun H locs hP hS => ?_)
              change W p l e _ s m _ below meth c H locs 0 0 _ (F0 m 302 ls [.int r29, .int r26])
              refine lv_icmp_ne (tgt := 339) hx hb dL_areAlike_302 (by decide) (fun c32 => ?_) (fun c32 => ?_)
              · rw [if_neg c32] at h
                refine lv_iconst (v := 0) hx hb dL_areAlike_339 (by decide) ?_
                refine lv_istore_n (lv' := [(2, .int 0), (0, .ref (a 0)), (1, .ref (bb 0)), (3, .int x3)]) hx hb dL_areAlike_340 rfl hl (by decide) rfl (fun ls hl => ?_)
                refine lv_iinc (v := x3 + 1) (lv' := [(3, .int (x3 + 1)), (2, .int 0), (0, .ref (a 0)), (1, .ref (bb 0))]) hx hb dL_areAlike_341 hl (k := 3) rfl (xm_add (by decide)) (by decide) rfl (fun ls hl => ?_)
                refine lv_goto (tgt := 240) hx hb dL_areAlike_344 (by decide) ?_
                exact ih M27 M30 0 (x3 + 1) r M' N' h _ _ _ hP hS (lv_sub hl [2, 3, 1, 0] rfl)
              · rw [if_pos c32] at h
                refine lv_aload_n hx hb dL_areAlike_305 rfl (lv_at hl 0 rfl) ?_
                refine lv_iload_n hx hb dL_areAlike_306 rfl (lv_at hl 3 rfl) ?_
                refine lv_iconst (v := 3) hx hb dL_areAlike_307 (by decide) ?_
                obtain ⟨r33, M34, e35, h⟩ := xm_b2_s h
                refine lm_o C hP hS [.int x3, .int 3] [] (c_X6_eventOf hDo n M27 x3 3 r33 M34 e35) k_L_90 rfl rfl rfl ⟨(Nat.le_of_ble_eq_true rfl), (Nat.le_of_ble_eq_true rfl)⟩ hl.1 (Nat.le_of_ble_eq_true rfl) ⟨(Nat.le_of_ble_eq_true rfl), (Nat.le_of_ble_eq_true rfl)⟩ dL_areAlike_308 (fun H locs hP hS => ?_)
                change W p l e _ s m _ below meth c H locs 0 0 _ (F0 m 311 ls [.int r33])
                refine lv_aload_n hx hb dL_areAlike_311 rfl (lv_at hl 1 rfl) ?_
                refine lv_iload_n hx hb dL_areAlike_312 rfl (lv_at hl 3 rfl) ?_
                refine lv_iconst (v := 3) hx hb dL_areAlike_313 (by decide) ?_
                obtain ⟨r36, M37, e38, h⟩ := xm_b2_s h
                refine lm_p C hP hS [.int x3, .int 3] [.int r33] (c_X6_eventOf hDp n M30 x3 3 r36 M37 e38) k_L_90 rfl rfl rfl ⟨(Nat.le_of_ble_eq_true rfl), (Nat.le_of_ble_eq_true rfl)⟩ hl.1 (Nat.le_of_ble_eq_true rfl) ⟨(Nat.le_of_ble_eq_true rfl), (Nat.le_of_ble_eq_true rfl)⟩ dL_areAlike_314 (fun H locs hP hS => ?_)
                change W p l e _ s m _ below meth c H locs 0 0 _ (F0 m 317 ls [.int r36, .int r33])
                refine lv_icmp_ne (tgt := 339) hx hb dL_areAlike_317 (by decide) (fun c39 => ?_) (fun c39 => ?_)
                · rw [if_neg c39] at h
                  refine lv_iconst (v := 0) hx hb dL_areAlike_339 (by decide) ?_
                  refine lv_istore_n (lv' := [(2, .int 0), (0, .ref (a 0)), (1, .ref (bb 0)), (3, .int x3)]) hx hb dL_areAlike_340 rfl hl (by decide) rfl (fun ls hl => ?_)
                  refine lv_iinc (v := x3 + 1) (lv' := [(3, .int (x3 + 1)), (2, .int 0), (0, .ref (a 0)), (1, .ref (bb 0))]) hx hb dL_areAlike_341 hl (k := 3) rfl (xm_add (by decide)) (by decide) rfl (fun ls hl => ?_)
                  refine lv_goto (tgt := 240) hx hb dL_areAlike_344 (by decide) ?_
                  exact ih M34 M37 0 (x3 + 1) r M' N' h _ _ _ hP hS (lv_sub hl [2, 3, 1, 0] rfl)
                · rw [if_pos c39] at h
                  refine lv_aload_n hx hb dL_areAlike_320 rfl (lv_at hl 0 rfl) ?_
                  refine lv_iload_n hx hb dL_areAlike_321 rfl (lv_at hl 3 rfl) ?_
                  refine lv_iconst (v := 4) hx hb dL_areAlike_322 (by decide) ?_
                  obtain ⟨r40, M41, e42, h⟩ := xm_b2_s h
                  refine lm_o C hP hS [.int x3, .int 4] [] (c_X6_eventOf hDo n M34 x3 4 r40 M41 e42) k_L_90 rfl rfl rfl ⟨(Nat.le_of_ble_eq_true rfl), (Nat.le_of_ble_eq_true rfl)⟩ hl.1 (Nat.le_of_ble_eq_true rfl) ⟨(Nat.le_of_ble_eq_true rfl), (Nat.le_of_ble_eq_true rfl)⟩ dL_areAlike_323 (fun H locs hP hS => ?_)
                  change W p l e _ s m _ below meth c H locs 0 0 _ (F0 m 326 ls [.int r40])
                  refine lv_aload_n hx hb dL_areAlike_326 rfl (lv_at hl 1 rfl) ?_
                  refine lv_iload_n hx hb dL_areAlike_327 rfl (lv_at hl 3 rfl) ?_
                  refine lv_iconst (v := 4) hx hb dL_areAlike_328 (by decide) ?_
                  obtain ⟨r43, M44, e45, h⟩ := xm_b2_s h
                  refine lm_p C hP hS [.int x3, .int 4] [.int r40] (c_X6_eventOf hDp n M37 x3 4 r43 M44 e45) k_L_90 rfl rfl rfl ⟨(Nat.le_of_ble_eq_true rfl), (Nat.le_of_ble_eq_true rfl)⟩ hl.1 (Nat.le_of_ble_eq_true rfl) ⟨(Nat.le_of_ble_eq_true rfl), (Nat.le_of_ble_eq_true rfl)⟩ dL_areAlike_329 (fun H locs hP hS => ?_)
                  change W p l e _ s m _ below meth c H locs 0 0 _ (F0 m 332 ls [.int r43, .int r40])
                  refine lv_icmp_ne (tgt := 339) hx hb dL_areAlike_332 (by decide) (fun c46 => ?_) (fun c46 => ?_)
                  · rw [if_neg c46] at h
                    refine lv_iconst (v := 0) hx hb dL_areAlike_339 (by decide) ?_
                    refine lv_istore_n (lv' := [(2, .int 0), (0, .ref (a 0)), (1, .ref (bb 0)), (3, .int x3)]) hx hb dL_areAlike_340 rfl hl (by decide) rfl (fun ls hl => ?_)
                    refine lv_iinc (v := x3 + 1) (lv' := [(3, .int (x3 + 1)), (2, .int 0), (0, .ref (a 0)), (1, .ref (bb 0))]) hx hb dL_areAlike_341 hl (k := 3) rfl (xm_add (by decide)) (by decide) rfl (fun ls hl => ?_)
                    refine lv_goto (tgt := 240) hx hb dL_areAlike_344 (by decide) ?_
                    exact ih M41 M44 0 (x3 + 1) r M' N' h _ _ _ hP hS (lv_sub hl [2, 3, 1, 0] rfl)
                  · rw [if_pos c46] at h
                    refine lv_iconst (v := 1) hx hb dL_areAlike_335 (by decide) ?_
                    refine lv_goto (tgt := 340) hx hb dL_areAlike_336 (by decide) ?_
                    refine lv_istore_n (lv' := [(2, .int 1), (0, .ref (a 0)), (1, .ref (bb 0)), (3, .int x3)]) hx hb dL_areAlike_340 rfl hl (by decide) rfl (fun ls hl => ?_)
                    refine lv_iinc (v := x3 + 1) (lv' := [(3, .int (x3 + 1)), (2, .int 1), (0, .ref (a 0)), (1, .ref (bb 0))]) hx hb dL_areAlike_341 hl (k := 3) rfl (xm_add (by decide)) (by decide) rfl (fun ls hl => ?_)
                    refine lv_goto (tgt := 240) hx hb dL_areAlike_344 (by decide) ?_
                    exact ih M41 M44 1 (x3 + 1) r M' N' h _ _ _ hP hS (lv_sub hl [2, 3, 1, 0] rfl)
theorem t_L_areAlike_240 {l : Launch} {p : Program} {e : Env} {s : State} {m : MethodId} {args : Array Value} {below : List Frame} {meth : Method} {c : Code} {E : xm_E} {a : Nat → Nat} {bb : Nat → Nat} (C : xm_C E (xj (xv E a) (xv E bb)) p s m args meth c RL cL_areAlike 5 (some .boolean)) (n : Nat) (M N : xm_M) (x2 : Int32) (x3 : Int32) (r : Int32) (M' N' : xm_M) : f_L_areAlike_240 n M N x2 x3 = some (r, M', N') → ∀ (H : Heap) (locs : List Loc) (ls : Array Slot), va_P E.1 vwCl (xm_w (xj (xv E a) (xv E bb)) (xk 120 M N)) H → va_S (xm_A (xj (xv E a) (xv E bb)) s.heap.size) s.heap H locs → lv_has ls 5 [(0, .ref (a 0)), (1, .ref (bb 0)), (2, .int x2), (3, .int x3)] → W p l e { frames := 9, cells := 0, slots := 0, locals := 219 } s m args below meth c H locs 0 0 (MQ below (xm_Q E (xj (xv E a) (xv E bb)) (xk 120 M' N') s.heap.size (some r)) args s 0 0 (xm_A (xj (xv E a) (xv E bb)) s.heap.size)) (F0 m 240 ls []) :=
  fun h H locs ls hP hS hl => (t_L_areAlike_S240 C n) M N x2 x3 r M' N' h H locs ls hP hS hl
def f_L_areAlike_S41 : Nat → Nat → xm_M → xm_M → Int32 → Int32 → Int32 → Option (Int32 × xm_M × xm_M)
  | 0, _, _, _, _, _, _ => none
  | n + 1, 0, M, N, x2, x3, x4 => xm_b2 (f_X6_count n M 1) (fun r1 M2 => if r1 ≤ x3 then f_L_areAlike_240 n M2 N x2 0 else if x2 = 0 then f_L_areAlike_240 n M2 N x2 0 else f_L_areAlike_S41 n 1 M2 N x2 x3 0)
  | n + 1, 1, M, N, x2, x3, x4 => if (7 : Int32) ≤ x4 then f_L_areAlike_S41 n 2 M N x2 x3 0 else if x2 = 0 then f_L_areAlike_S41 n 1 M N 0 x3 (x4 + 1) else xm_b2 (f_X6_pattern n M x3 x4) (fun r3 M4 => xm_b2 (f_X6_pattern n N x3 x4) (fun r6 M7 => if r3 = r6 then f_L_areAlike_S41 n 1 M4 M7 1 x3 (x4 + 1) else f_L_areAlike_S41 n 1 M4 M7 0 x3 (x4 + 1)))
  | n + 1, 2, M, N, x2, x3, x4 => xm_b2 (f_X6_pattern n M x3 2) (fun r1 M2 => if r1 ≤ x4 then f_L_areAlike_S41 n 3 M2 N x2 x3 0 else if x2 = 0 then f_L_areAlike_S41 n 2 M2 N 0 x3 (x4 + 1) else xm_b2 (f_X6_step n M2 x3 x4 0) (fun r6 M7 => xm_b3 (f_L_there n M7 N r6) (fun r9 M10 N12 => xm_b2 (f_X6_step n N12 x3 x4 0) (fun r13 M14 => if r9 = r13 then xm_b2 (f_X6_step n M10 x3 x4 1) (fun r17 M18 => xm_b2 (f_X6_step n M14 x3 x4 1) (fun r20 M21 => if r17 = r20 then f_L_areAlike_S41 n 2 M18 M21 1 x3 (x4 + 1) else f_L_areAlike_S41 n 2 M18 M21 0 x3 (x4 + 1))) else f_L_areAlike_S41 n 2 M10 M14 0 x3 (x4 + 1)))))
  | n + 1, _ + 3, M, N, x2, x3, x4 => if (12 : Int32) ≤ x4 then f_L_areAlike_S41 n 0 M N x2 (x3 + 1) 0 else if x2 = 0 then f_L_areAlike_S41 n 3 M N 0 x3 (x4 + 1) else xm_b2 (f_X6_match n M x3 x4 0) (fun r3 M4 => xm_b2 (f_X6_match n N x3 x4 0) (fun r6 M7 => if r3 = r6 then xm_b2 (f_X6_match n M4 x3 x4 1) (fun r10 M11 => xm_b2 (f_X6_match n M7 x3 x4 1) (fun r13 M14 => if r10 = r13 then f_L_areAlike_S41 n 3 M11 M14 1 x3 (x4 + 1) else f_L_areAlike_S41 n 3 M11 M14 0 x3 (x4 + 1))) else f_L_areAlike_S41 n 3 M4 M7 0 x3 (x4 + 1)))
def f_L_areAlike_41 (n : Nat) (M N : xm_M) (x2 : Int32) (x3 : Int32) : Option (Int32 × xm_M × xm_M) := f_L_areAlike_S41 n 0 M N x2 x3 0
def f_L_areAlike_57 (n : Nat) (M N : xm_M) (x2 : Int32) (x3 : Int32) (x4 : Int32) : Option (Int32 × xm_M × xm_M) := f_L_areAlike_S41 n 1 M N x2 x3 x4
def f_L_areAlike_100 (n : Nat) (M N : xm_M) (x2 : Int32) (x3 : Int32) (x4 : Int32) : Option (Int32 × xm_M × xm_M) := f_L_areAlike_S41 n 2 M N x2 x3 x4
def f_L_areAlike_171 (n : Nat) (M N : xm_M) (x2 : Int32) (x3 : Int32) (x4 : Int32) : Option (Int32 × xm_M × xm_M) := f_L_areAlike_S41 n 3 M N x2 x3 x4
set_option maxHeartbeats 4000000 in
set_option maxRecDepth 100000 in
theorem t_L_areAlike_S41 {l : Launch} {p : Program} {e : Env} {s : State} {m : MethodId} {args : Array Value} {below : List Frame} {meth : Method} {c : Code} {E : xm_E} {a : Nat → Nat} {bb : Nat → Nat} (C : xm_C E (xj (xv E a) (xv E bb)) p s m args meth c RL cL_areAlike 5 (some .boolean)) : ∀ (n : Nat), (∀ (M N : xm_M) (x2 : Int32) (x3 : Int32) (r : Int32) (M' N' : xm_M), f_L_areAlike_S41 n 0 M N x2 x3 0 = some (r, M', N') → ∀ (H : Heap) (locs : List Loc) (ls : Array Slot), va_P E.1 vwCl (xm_w (xj (xv E a) (xv E bb)) (xk 120 M N)) H → va_S (xm_A (xj (xv E a) (xv E bb)) s.heap.size) s.heap H locs → lv_has ls 5 [(0, .ref (a 0)), (1, .ref (bb 0)), (2, .int x2), (3, .int x3)] → W p l e { frames := 9, cells := 0, slots := 0, locals := 219 } s m args below meth c H locs 0 0 (MQ below (xm_Q E (xj (xv E a) (xv E bb)) (xk 120 M' N') s.heap.size (some r)) args s 0 0 (xm_A (xj (xv E a) (xv E bb)) s.heap.size)) (F0 m 41 ls [])) ∧ (∀ (M N : xm_M) (x2 : Int32) (x3 : Int32) (x4 : Int32) (r : Int32) (M' N' : xm_M), f_L_areAlike_S41 n 1 M N x2 x3 x4 = some (r, M', N') → ∀ (H : Heap) (locs : List Loc) (ls : Array Slot), va_P E.1 vwCl (xm_w (xj (xv E a) (xv E bb)) (xk 120 M N)) H → va_S (xm_A (xj (xv E a) (xv E bb)) s.heap.size) s.heap H locs → lv_has ls 5 [(0, .ref (a 0)), (1, .ref (bb 0)), (2, .int x2), (3, .int x3), (4, .int x4)] → W p l e { frames := 9, cells := 0, slots := 0, locals := 219 } s m args below meth c H locs 0 0 (MQ below (xm_Q E (xj (xv E a) (xv E bb)) (xk 120 M' N') s.heap.size (some r)) args s 0 0 (xm_A (xj (xv E a) (xv E bb)) s.heap.size)) (F0 m 57 ls [])) ∧ (∀ (M N : xm_M) (x2 : Int32) (x3 : Int32) (x4 : Int32) (r : Int32) (M' N' : xm_M), f_L_areAlike_S41 n 2 M N x2 x3 x4 = some (r, M', N') → ∀ (H : Heap) (locs : List Loc) (ls : Array Slot), va_P E.1 vwCl (xm_w (xj (xv E a) (xv E bb)) (xk 120 M N)) H → va_S (xm_A (xj (xv E a) (xv E bb)) s.heap.size) s.heap H locs → lv_has ls 5 [(0, .ref (a 0)), (1, .ref (bb 0)), (2, .int x2), (3, .int x3), (4, .int x4)] → W p l e { frames := 9, cells := 0, slots := 0, locals := 219 } s m args below meth c H locs 0 0 (MQ below (xm_Q E (xj (xv E a) (xv E bb)) (xk 120 M' N') s.heap.size (some r)) args s 0 0 (xm_A (xj (xv E a) (xv E bb)) s.heap.size)) (F0 m 100 ls [])) ∧ (∀ (M N : xm_M) (x2 : Int32) (x3 : Int32) (x4 : Int32) (r : Int32) (M' N' : xm_M), f_L_areAlike_S41 n 3 M N x2 x3 x4 = some (r, M', N') → ∀ (H : Heap) (locs : List Loc) (ls : Array Slot), va_P E.1 vwCl (xm_w (xj (xv E a) (xv E bb)) (xk 120 M N)) H → va_S (xm_A (xj (xv E a) (xv E bb)) s.heap.size) s.heap H locs → lv_has ls 5 [(0, .ref (a 0)), (1, .ref (bb 0)), (2, .int x2), (3, .int x3), (4, .int x4)] → W p l e { frames := 9, cells := 0, slots := 0, locals := 219 } s m args below meth c H locs 0 0 (MQ below (xm_Q E (xj (xv E a) (xv E bb)) (xk 120 M' N') s.heap.size (some r)) args s 0 0 (xm_A (xj (xv E a) (xv E bb)) s.heap.size)) (F0 m 171 ls [])) := by
  have C9 := C
  obtain ⟨hx, hb, hml, hown, hts, hr, hlk, hD, hK, hS9⟩ := C9
  have hDo := xj_D1 hD
  have hDp := xj_D2 hD
  intro n
  induction n with
  | zero =>
    refine ⟨fun M N x2 x3 r M' N' h => ?_, fun M N x2 x3 x4 r M' N' h => ?_, fun M N x2 x3 x4 r M' N' h => ?_, fun M N x2 x3 x4 r M' N' h => ?_⟩
    all_goals cases h
  | succ n ih =>
    refine ⟨fun M N x2 x3 r M' N' h H locs ls hP hS hl => ?_, fun M N x2 x3 x4 r M' N' h H locs ls hP hS hl => ?_, fun M N x2 x3 x4 r M' N' h H locs ls hP hS hl => ?_, fun M N x2 x3 x4 r M' N' h H locs ls hP hS hl => ?_⟩
    · rw [f_L_areAlike_S41] at h
      refine lv_iload_n hx hb dL_areAlike_41 rfl (lv_at hl 3 rfl) ?_
      refine lv_aload_n hx hb dL_areAlike_42 rfl (lv_at hl 0 rfl) ?_
      refine lv_iconst (v := 1) hx hb dL_areAlike_43 (by decide) ?_
      obtain ⟨r1, M2, e3, h⟩ := xm_b2_s h
      refine lm_o C hP hS [.int 1] [.int x3] (c_X6_count hDo n M 1 r1 M2 e3) k_L_47 rfl rfl rfl ⟨(Nat.le_of_ble_eq_true rfl), (Nat.le_of_ble_eq_true rfl)⟩ hl.1 (Nat.le_of_ble_eq_true rfl) ⟨(Nat.le_of_ble_eq_true rfl), (Nat.le_of_ble_eq_true rfl)⟩ dL_areAlike_44 (fun H locs hP hS => ?_)
      change W p l e _ s m _ below meth c H locs 0 0 _ (F0 m 47 ls [.int r1, .int x3])
      refine lv_icmp_ge (tgt := 238) hx hb dL_areAlike_47 (by decide) (fun c4 => ?_) (fun c4 => ?_)
      · rw [if_pos c4] at h
        refine lv_iconst (v := 0) hx hb dL_areAlike_238 (by decide) ?_
        refine lv_istore_n (lv' := [(3, .int 0), (0, .ref (a 0)), (1, .ref (bb 0)), (2, .int x2)]) hx hb dL_areAlike_239 rfl hl (by decide) rfl (fun ls hl => ?_)
        exact t_L_areAlike_240 C n M2 N x2 0 r M' N' h _ _ _ hP hS (lv_sub hl [1, 2, 3, 0] rfl)
      · rw [if_neg c4] at h
        refine lv_iload_n hx hb dL_areAlike_50 rfl (lv_at hl 2 rfl) ?_
        refine lv_if_eq (tgt := 238) hx hb dL_areAlike_51 (by decide) (fun c5 => ?_) (fun c5 => ?_)
        · rw [if_pos c5] at h
          refine lv_iconst (v := 0) hx hb dL_areAlike_238 (by decide) ?_
          refine lv_istore_n (lv' := [(3, .int 0), (0, .ref (a 0)), (1, .ref (bb 0)), (2, .int x2)]) hx hb dL_areAlike_239 rfl hl (by decide) rfl (fun ls hl => ?_)
          exact t_L_areAlike_240 C n M2 N x2 0 r M' N' h _ _ _ hP hS (lv_sub hl [1, 2, 3, 0] rfl)
        · rw [if_neg c5] at h
          refine lv_iconst (v := 0) hx hb dL_areAlike_54 (by decide) ?_
          refine lv_istore (lv' := [(4, .int 0), (0, .ref (a 0)), (1, .ref (bb 0)), (2, .int x2), (3, .int x3)]) hx hb dL_areAlike_55 hl (by decide) rfl (fun ls hl => ?_)
          exact ih.2.1 M2 N x2 x3 0 r M' N' h _ _ _ hP hS (lv_sub hl [1, 2, 3, 4, 0] rfl)
    · rw [f_L_areAlike_S41] at h
      refine lv_iload hx hb dL_areAlike_57 (lv_at hl 4 rfl) ?_
      refine lv_bipush (v := 7) hx hb dL_areAlike_59 (by decide) ?_
      refine lv_icmp_ge (tgt := 97) hx hb dL_areAlike_61 (by decide) (fun c1 => ?_) (fun c1 => ?_)
      · rw [if_pos c1] at h
        refine lv_iconst (v := 0) hx hb dL_areAlike_97 (by decide) ?_
        refine lv_istore (lv' := [(4, .int 0), (0, .ref (a 0)), (1, .ref (bb 0)), (2, .int x2), (3, .int x3)]) hx hb dL_areAlike_98 hl (by decide) rfl (fun ls hl => ?_)
        exact ih.2.2.1 M N x2 x3 0 r M' N' h _ _ _ hP hS (lv_sub hl [1, 2, 3, 4, 0] rfl)
      · rw [if_neg c1] at h
        refine lv_iload_n hx hb dL_areAlike_64 rfl (lv_at hl 2 rfl) ?_
        refine lv_if_eq (tgt := 89) hx hb dL_areAlike_65 (by decide) (fun c2 => ?_) (fun c2 => ?_)
        · rw [if_pos c2] at h
          refine lv_iconst (v := 0) hx hb dL_areAlike_89 (by decide) ?_
          refine lv_istore_n (lv' := [(2, .int 0), (0, .ref (a 0)), (1, .ref (bb 0)), (3, .int x3), (4, .int x4)]) hx hb dL_areAlike_90 rfl hl (by decide) rfl (fun ls hl => ?_)
          refine lv_iinc (v := x4 + 1) (lv' := [(4, .int (x4 + 1)), (2, .int 0), (0, .ref (a 0)), (1, .ref (bb 0)), (3, .int x3)]) hx hb dL_areAlike_91 hl (k := 4) rfl (xm_add (by decide)) (by decide) rfl (fun ls hl => ?_)
          refine lv_goto (tgt := 57) hx hb dL_areAlike_94 (by decide) ?_
          exact ih.2.1 M N 0 x3 (x4 + 1) r M' N' h _ _ _ hP hS (lv_sub hl [2, 3, 1, 4, 0] rfl)
        · rw [if_neg c2] at h
          refine lv_aload_n hx hb dL_areAlike_68 rfl (lv_at hl 0 rfl) ?_
          refine lv_iload_n hx hb dL_areAlike_69 rfl (lv_at hl 3 rfl) ?_
          refine lv_iload hx hb dL_areAlike_70 (lv_at hl 4 rfl) ?_
          obtain ⟨r3, M4, e5, h⟩ := xm_b2_s h
          refine lm_o C hP hS [.int x3, .int x4] [] (c_X6_pattern hDo n M x3 x4 r3 M4 e5) k_L_54 rfl rfl rfl ⟨(Nat.le_of_ble_eq_true rfl), (Nat.le_of_ble_eq_true rfl)⟩ hl.1 (Nat.le_of_ble_eq_true rfl) ⟨(Nat.le_of_ble_eq_true rfl), (Nat.le_of_ble_eq_true rfl)⟩ dL_areAlike_72 (fun H locs hP hS => ?_)
          change W p l e _ s m _ below meth c H locs 0 0 _ (F0 m 75 ls [.int r3])
          refine lv_aload_n hx hb dL_areAlike_75 rfl (lv_at hl 1 rfl) ?_
          refine lv_iload_n hx hb dL_areAlike_76 rfl (lv_at hl 3 rfl) ?_
          refine lv_iload hx hb dL_areAlike_77 (lv_at hl 4 rfl) ?_
          obtain ⟨r6, M7, e8, h⟩ := xm_b2_s h
          refine lm_p C hP hS [.int x3, .int x4] [.int r3] (c_X6_pattern hDp n N x3 x4 r6 M7 e8) k_L_54 rfl rfl rfl ⟨(Nat.le_of_ble_eq_true rfl), (Nat.le_of_ble_eq_true rfl)⟩ hl.1 (Nat.le_of_ble_eq_true rfl) ⟨(Nat.le_of_ble_eq_true rfl), (Nat.le_of_ble_eq_true rfl)⟩ dL_areAlike_79 (fun H locs hP hS => ?_)
          change W p l e _ s m _ below meth c H locs 0 0 _ (F0 m 82 ls [.int r6, .int r3])
          refine lv_icmp_ne (tgt := 89) hx hb dL_areAlike_82 (by decide) (fun c9 => ?_) (fun c9 => ?_)
          · rw [if_neg c9] at h
            refine lv_iconst (v := 0) hx hb dL_areAlike_89 (by decide) ?_
            refine lv_istore_n (lv' := [(2, .int 0), (0, .ref (a 0)), (1, .ref (bb 0)), (3, .int x3), (4, .int x4)]) hx hb dL_areAlike_90 rfl hl (by decide) rfl (fun ls hl => ?_)
            refine lv_iinc (v := x4 + 1) (lv' := [(4, .int (x4 + 1)), (2, .int 0), (0, .ref (a 0)), (1, .ref (bb 0)), (3, .int x3)]) hx hb dL_areAlike_91 hl (k := 4) rfl (xm_add (by decide)) (by decide) rfl (fun ls hl => ?_)
            refine lv_goto (tgt := 57) hx hb dL_areAlike_94 (by decide) ?_
            exact ih.2.1 M4 M7 0 x3 (x4 + 1) r M' N' h _ _ _ hP hS (lv_sub hl [2, 3, 1, 4, 0] rfl)
          · rw [if_pos c9] at h
            refine lv_iconst (v := 1) hx hb dL_areAlike_85 (by decide) ?_
            refine lv_goto (tgt := 90) hx hb dL_areAlike_86 (by decide) ?_
            refine lv_istore_n (lv' := [(2, .int 1), (0, .ref (a 0)), (1, .ref (bb 0)), (3, .int x3), (4, .int x4)]) hx hb dL_areAlike_90 rfl hl (by decide) rfl (fun ls hl => ?_)
            refine lv_iinc (v := x4 + 1) (lv' := [(4, .int (x4 + 1)), (2, .int 1), (0, .ref (a 0)), (1, .ref (bb 0)), (3, .int x3)]) hx hb dL_areAlike_91 hl (k := 4) rfl (xm_add (by decide)) (by decide) rfl (fun ls hl => ?_)
            refine lv_goto (tgt := 57) hx hb dL_areAlike_94 (by decide) ?_
            exact ih.2.1 M4 M7 1 x3 (x4 + 1) r M' N' h _ _ _ hP hS (lv_sub hl [2, 3, 1, 4, 0] rfl)
    · rw [f_L_areAlike_S41] at h
      refine lv_iload hx hb dL_areAlike_100 (lv_at hl 4 rfl) ?_
      refine lv_aload_n hx hb dL_areAlike_102 rfl (lv_at hl 0 rfl) ?_
      refine lv_iload_n hx hb dL_areAlike_103 rfl (lv_at hl 3 rfl) ?_
      refine lv_iconst (v := 2) hx hb dL_areAlike_104 (by decide) ?_
      obtain ⟨r1, M2, e3, h⟩ := xm_b2_s h
      refine lm_o C hP hS [.int x3, .int 2] [.int x4] (c_X6_pattern hDo n M x3 2 r1 M2 e3) k_L_54 rfl rfl rfl ⟨(Nat.le_of_ble_eq_true rfl), (Nat.le_of_ble_eq_true rfl)⟩ hl.1 (Nat.le_of_ble_eq_true rfl) ⟨(Nat.le_of_ble_eq_true rfl), (Nat.le_of_ble_eq_true rfl)⟩ dL_areAlike_105 (fun H locs hP hS => ?_)
      change W p l e _ s m _ below meth c H locs 0 0 _ (F0 m 108 ls [.int r1, .int x4])
      refine lv_icmp_ge (tgt := 168) hx hb dL_areAlike_108 (by decide) (fun c4 => ?_) (fun c4 => ?_)
      · rw [if_pos c4] at h
        refine lv_iconst (v := 0) hx hb dL_areAlike_168 (by decide) ?_
        refine lv_istore (lv' := [(4, .int 0), (0, .ref (a 0)), (1, .ref (bb 0)), (2, .int x2), (3, .int x3)]) hx hb dL_areAlike_169 hl (by decide) rfl (fun ls hl => ?_)
        exact ih.2.2.2 M2 N x2 x3 0 r M' N' h _ _ _ hP hS (lv_sub hl [1, 2, 3, 4, 0] rfl)
      · rw [if_neg c4] at h
        refine lv_iload_n hx hb dL_areAlike_111 rfl (lv_at hl 2 rfl) ?_
        refine lv_if_eq (tgt := 160) hx hb dL_areAlike_112 (by decide) (fun c5 => ?_) (fun c5 => ?_)
        · rw [if_pos c5] at h
          refine lv_iconst (v := 0) hx hb dL_areAlike_160 (by decide) ?_
          refine lv_istore_n (lv' := [(2, .int 0), (0, .ref (a 0)), (1, .ref (bb 0)), (3, .int x3), (4, .int x4)]) hx hb dL_areAlike_161 rfl hl (by decide) rfl (fun ls hl => ?_)
          refine lv_iinc (v := x4 + 1) (lv' := [(4, .int (x4 + 1)), (2, .int 0), (0, .ref (a 0)), (1, .ref (bb 0)), (3, .int x3)]) hx hb dL_areAlike_162 hl (k := 4) rfl (xm_add (by decide)) (by decide) rfl (fun ls hl => ?_)
          refine lv_goto (tgt := 100) hx hb dL_areAlike_165 (by decide) ?_
          exact ih.2.2.1 M2 N 0 x3 (x4 + 1) r M' N' h _ _ _ hP hS (lv_sub hl [2, 3, 1, 4, 0] rfl)
        · rw [if_neg c5] at h
          refine lv_aload_n hx hb dL_areAlike_115 rfl (lv_at hl 0 rfl) ?_
          refine lv_iload_n hx hb dL_areAlike_116 rfl (lv_at hl 3 rfl) ?_
          refine lv_iload hx hb dL_areAlike_117 (lv_at hl 4 rfl) ?_
          refine lv_iconst (v := 0) hx hb dL_areAlike_119 (by decide) ?_
          obtain ⟨r6, M7, e8, h⟩ := xm_b2_s h
          refine lm_o C hP hS [.int x3, .int x4, .int 0] [] (c_X6_step hDo n M2 x3 x4 0 r6 M7 e8) k_L_83 rfl rfl rfl ⟨(Nat.le_of_ble_eq_true rfl), (Nat.le_of_ble_eq_true rfl)⟩ hl.1 (Nat.le_of_ble_eq_true rfl) ⟨(Nat.le_of_ble_eq_true rfl), (Nat.le_of_ble_eq_true rfl)⟩ dL_areAlike_120 (fun H locs hP hS => ?_)
          change W p l e _ s m _ below meth c H locs 0 0 _ (F0 m 123 ls [.int r6])
          obtain ⟨r9, M10, N12, e11, h⟩ := xm_b3_s h
          refine xm_callS C hP hS [.int r6] [] (c_L_there hD n M7 N r6 r9 M10 N12 e11) k_L_43 rfl rfl ⟨(Nat.le_of_ble_eq_true rfl), (Nat.le_of_ble_eq_true rfl)⟩ hl.1 (Nat.le_of_ble_eq_true rfl) ⟨(Nat.le_of_ble_eq_true rfl), (Nat.le_of_ble_eq_true rfl)⟩ dL_areAlike_123 (fun H locs hP hS => ?_)
          change W p l e _ s m _ below meth c H locs 0 0 _ (F0 m 126 ls [.int r9])
          refine lv_aload_n hx hb dL_areAlike_126 rfl (lv_at hl 1 rfl) ?_
          refine lv_iload_n hx hb dL_areAlike_127 rfl (lv_at hl 3 rfl) ?_
          refine lv_iload hx hb dL_areAlike_128 (lv_at hl 4 rfl) ?_
          refine lv_iconst (v := 0) hx hb dL_areAlike_130 (by decide) ?_
          obtain ⟨r13, M14, e15, h⟩ := xm_b2_s h
          refine lm_p C hP hS [.int x3, .int x4, .int 0] [.int r9] (c_X6_step hDp n N12 x3 x4 0 r13 M14 e15) k_L_83 rfl rfl rfl ⟨(Nat.le_of_ble_eq_true rfl), (Nat.le_of_ble_eq_true rfl)⟩ hl.1 (Nat.le_of_ble_eq_true rfl) ⟨(Nat.le_of_ble_eq_true rfl), (Nat.le_of_ble_eq_true rfl)⟩ dL_areAlike_131 (fun H locs hP hS => ?_)
          change W p l e _ s m _ below meth c H locs 0 0 _ (F0 m 134 ls [.int r13, .int r9])
          refine lv_icmp_ne (tgt := 160) hx hb dL_areAlike_134 (by decide) (fun c16 => ?_) (fun c16 => ?_)
          · rw [if_neg c16] at h
            refine lv_iconst (v := 0) hx hb dL_areAlike_160 (by decide) ?_
            refine lv_istore_n (lv' := [(2, .int 0), (0, .ref (a 0)), (1, .ref (bb 0)), (3, .int x3), (4, .int x4)]) hx hb dL_areAlike_161 rfl hl (by decide) rfl (fun ls hl => ?_)
            refine lv_iinc (v := x4 + 1) (lv' := [(4, .int (x4 + 1)), (2, .int 0), (0, .ref (a 0)), (1, .ref (bb 0)), (3, .int x3)]) hx hb dL_areAlike_162 hl (k := 4) rfl (xm_add (by decide)) (by decide) rfl (fun ls hl => ?_)
            refine lv_goto (tgt := 100) hx hb dL_areAlike_165 (by decide) ?_
            exact ih.2.2.1 M10 M14 0 x3 (x4 + 1) r M' N' h _ _ _ hP hS (lv_sub hl [2, 3, 1, 4, 0] rfl)
          · rw [if_pos c16] at h
            refine lv_aload_n hx hb dL_areAlike_137 rfl (lv_at hl 0 rfl) ?_
            refine lv_iload_n hx hb dL_areAlike_138 rfl (lv_at hl 3 rfl) ?_
            refine lv_iload hx hb dL_areAlike_139 (lv_at hl 4 rfl) ?_
            refine lv_iconst (v := 1) hx hb dL_areAlike_141 (by decide) ?_
            obtain ⟨r17, M18, e19, h⟩ := xm_b2_s h
            refine lm_o C hP hS [.int x3, .int x4, .int 1] [] (c_X6_step hDo n M10 x3 x4 1 r17 M18 e19) k_L_83 rfl rfl rfl ⟨(Nat.le_of_ble_eq_true rfl), (Nat.le_of_ble_eq_true rfl)⟩ hl.1 (Nat.le_of_ble_eq_true rfl) ⟨(Nat.le_of_ble_eq_true rfl), (Nat.le_of_ble_eq_true rfl)⟩ dL_areAlike_142 (fun H locs hP hS => ?_)
            change W p l e _ s m _ below meth c H locs 0 0 _ (F0 m 145 ls [.int r17])
            refine lv_aload_n hx hb dL_areAlike_145 rfl (lv_at hl 1 rfl) ?_
            refine lv_iload_n hx hb dL_areAlike_146 rfl (lv_at hl 3 rfl) ?_
            refine lv_iload hx hb dL_areAlike_147 (lv_at hl 4 rfl) ?_
            refine lv_iconst (v := 1) hx hb dL_areAlike_149 (by decide) ?_
            obtain ⟨r20, M21, e22, h⟩ := xm_b2_s h
            refine lm_p C hP hS [.int x3, .int x4, .int 1] [.int r17] (c_X6_step hDp n M14 x3 x4 1 r20 M21 e22) k_L_83 rfl rfl rfl ⟨(Nat.le_of_ble_eq_true rfl), (Nat.le_of_ble_eq_true rfl)⟩ hl.1 (Nat.le_of_ble_eq_true rfl) ⟨(Nat.le_of_ble_eq_true rfl), (Nat.le_of_ble_eq_true rfl)⟩ dL_areAlike_150 (fun H locs hP hS => ?_)
            change W p l e _ s m _ below meth c H locs 0 0 _ (F0 m 153 ls [.int r20, .int r17])
            refine lv_icmp_ne (tgt := 160) hx hb dL_areAlike_153 (by decide) (fun c23 => ?_) (fun c23 => ?_)
            · rw [if_neg c23] at h
              refine lv_iconst (v := 0) hx hb dL_areAlike_160 (by decide) ?_
              refine lv_istore_n (lv' := [(2, .int 0), (0, .ref (a 0)), (1, .ref (bb 0)), (3, .int x3), (4, .int x4)]) hx hb dL_areAlike_161 rfl hl (by decide) rfl (fun ls hl => ?_)
              refine lv_iinc (v := x4 + 1) (lv' := [(4, .int (x4 + 1)), (2, .int 0), (0, .ref (a 0)), (1, .ref (bb 0)), (3, .int x3)]) hx hb dL_areAlike_162 hl (k := 4) rfl (xm_add (by decide)) (by decide) rfl (fun ls hl => ?_)
              refine lv_goto (tgt := 100) hx hb dL_areAlike_165 (by decide) ?_
              exact ih.2.2.1 M18 M21 0 x3 (x4 + 1) r M' N' h _ _ _ hP hS (lv_sub hl [2, 3, 1, 4, 0] rfl)
            · rw [if_pos c23] at h
              refine lv_iconst (v := 1) hx hb dL_areAlike_156 (by decide) ?_
              refine lv_goto (tgt := 161) hx hb dL_areAlike_157 (by decide) ?_
              refine lv_istore_n (lv' := [(2, .int 1), (0, .ref (a 0)), (1, .ref (bb 0)), (3, .int x3), (4, .int x4)]) hx hb dL_areAlike_161 rfl hl (by decide) rfl (fun ls hl => ?_)
              refine lv_iinc (v := x4 + 1) (lv' := [(4, .int (x4 + 1)), (2, .int 1), (0, .ref (a 0)), (1, .ref (bb 0)), (3, .int x3)]) hx hb dL_areAlike_162 hl (k := 4) rfl (xm_add (by decide)) (by decide) rfl (fun ls hl => ?_)
              refine lv_goto (tgt := 100) hx hb dL_areAlike_165 (by decide) ?_
              exact ih.2.2.1 M18 M21 1 x3 (x4 + 1) r M' N' h _ _ _ hP hS (lv_sub hl [2, 3, 1, 4, 0] rfl)
    · rw [f_L_areAlike_S41] at h
      refine lv_iload hx hb dL_areAlike_171 (lv_at hl 4 rfl) ?_
      refine lv_bipush (v := 12) hx hb dL_areAlike_173 (by decide) ?_
      refine lv_icmp_ge (tgt := 232) hx hb dL_areAlike_175 (by decide) (fun c1 => ?_) (fun c1 => ?_)
      · rw [if_pos c1] at h
        refine lv_iinc (v := x3 + 1) (lv' := [(3, .int (x3 + 1)), (0, .ref (a 0)), (1, .ref (bb 0)), (2, .int x2), (4, .int x4)]) hx hb dL_areAlike_232 hl (k := 3) rfl (xm_add (by decide)) (by decide) rfl (fun ls hl => ?_)
        refine lv_goto (tgt := 41) hx hb dL_areAlike_235 (by decide) ?_
        exact ih.1 M N x2 (x3 + 1) r M' N' h _ _ _ hP hS (lv_sub hl [1, 2, 3, 0] rfl)
      · rw [if_neg c1] at h
        refine lv_iload_n hx hb dL_areAlike_178 rfl (lv_at hl 2 rfl) ?_
        refine lv_if_eq (tgt := 224) hx hb dL_areAlike_179 (by decide) (fun c2 => ?_) (fun c2 => ?_)
        · rw [if_pos c2] at h
          refine lv_iconst (v := 0) hx hb dL_areAlike_224 (by decide) ?_
          refine lv_istore_n (lv' := [(2, .int 0), (0, .ref (a 0)), (1, .ref (bb 0)), (3, .int x3), (4, .int x4)]) hx hb dL_areAlike_225 rfl hl (by decide) rfl (fun ls hl => ?_)
          refine lv_iinc (v := x4 + 1) (lv' := [(4, .int (x4 + 1)), (2, .int 0), (0, .ref (a 0)), (1, .ref (bb 0)), (3, .int x3)]) hx hb dL_areAlike_226 hl (k := 4) rfl (xm_add (by decide)) (by decide) rfl (fun ls hl => ?_)
          refine lv_goto (tgt := 171) hx hb dL_areAlike_229 (by decide) ?_
          exact ih.2.2.2 M N 0 x3 (x4 + 1) r M' N' h _ _ _ hP hS (lv_sub hl [2, 3, 1, 4, 0] rfl)
        · rw [if_neg c2] at h
          refine lv_aload_n hx hb dL_areAlike_182 rfl (lv_at hl 0 rfl) ?_
          refine lv_iload_n hx hb dL_areAlike_183 rfl (lv_at hl 3 rfl) ?_
          refine lv_iload hx hb dL_areAlike_184 (lv_at hl 4 rfl) ?_
          refine lv_iconst (v := 0) hx hb dL_areAlike_186 (by decide) ?_
          obtain ⟨r3, M4, e5, h⟩ := xm_b2_s h
          refine lm_o C hP hS [.int x3, .int x4, .int 0] [] (c_X6_match hDo n M x3 x4 0 r3 M4 e5) k_L_87 rfl rfl rfl ⟨(Nat.le_of_ble_eq_true rfl), (Nat.le_of_ble_eq_true rfl)⟩ hl.1 (Nat.le_of_ble_eq_true rfl) ⟨(Nat.le_of_ble_eq_true rfl), (Nat.le_of_ble_eq_true rfl)⟩ dL_areAlike_187 (fun H locs hP hS => ?_)
          change W p l e _ s m _ below meth c H locs 0 0 _ (F0 m 190 ls [.int r3])
          refine lv_aload_n hx hb dL_areAlike_190 rfl (lv_at hl 1 rfl) ?_
          refine lv_iload_n hx hb dL_areAlike_191 rfl (lv_at hl 3 rfl) ?_
          refine lv_iload hx hb dL_areAlike_192 (lv_at hl 4 rfl) ?_
          refine lv_iconst (v := 0) hx hb dL_areAlike_194 (by decide) ?_
          obtain ⟨r6, M7, e8, h⟩ := xm_b2_s h
          refine lm_p C hP hS [.int x3, .int x4, .int 0] [.int r3] (c_X6_match hDp n N x3 x4 0 r6 M7 e8) k_L_87 rfl rfl rfl ⟨(Nat.le_of_ble_eq_true rfl), (Nat.le_of_ble_eq_true rfl)⟩ hl.1 (Nat.le_of_ble_eq_true rfl) ⟨(Nat.le_of_ble_eq_true rfl), (Nat.le_of_ble_eq_true rfl)⟩ dL_areAlike_195 (fun H locs hP hS => ?_)
          change W p l e _ s m _ below meth c H locs 0 0 _ (F0 m 198 ls [.int r6, .int r3])
          refine lv_icmp_ne (tgt := 224) hx hb dL_areAlike_198 (by decide) (fun c9 => ?_) (fun c9 => ?_)
          · rw [if_neg c9] at h
            refine lv_iconst (v := 0) hx hb dL_areAlike_224 (by decide) ?_
            refine lv_istore_n (lv' := [(2, .int 0), (0, .ref (a 0)), (1, .ref (bb 0)), (3, .int x3), (4, .int x4)]) hx hb dL_areAlike_225 rfl hl (by decide) rfl (fun ls hl => ?_)
            refine lv_iinc (v := x4 + 1) (lv' := [(4, .int (x4 + 1)), (2, .int 0), (0, .ref (a 0)), (1, .ref (bb 0)), (3, .int x3)]) hx hb dL_areAlike_226 hl (k := 4) rfl (xm_add (by decide)) (by decide) rfl (fun ls hl => ?_)
            refine lv_goto (tgt := 171) hx hb dL_areAlike_229 (by decide) ?_
            exact ih.2.2.2 M4 M7 0 x3 (x4 + 1) r M' N' h _ _ _ hP hS (lv_sub hl [2, 3, 1, 4, 0] rfl)
          · rw [if_pos c9] at h
            refine lv_aload_n hx hb dL_areAlike_201 rfl (lv_at hl 0 rfl) ?_
            refine lv_iload_n hx hb dL_areAlike_202 rfl (lv_at hl 3 rfl) ?_
            refine lv_iload hx hb dL_areAlike_203 (lv_at hl 4 rfl) ?_
            refine lv_iconst (v := 1) hx hb dL_areAlike_205 (by decide) ?_
            obtain ⟨r10, M11, e12, h⟩ := xm_b2_s h
            refine lm_o C hP hS [.int x3, .int x4, .int 1] [] (c_X6_match hDo n M4 x3 x4 1 r10 M11 e12) k_L_87 rfl rfl rfl ⟨(Nat.le_of_ble_eq_true rfl), (Nat.le_of_ble_eq_true rfl)⟩ hl.1 (Nat.le_of_ble_eq_true rfl) ⟨(Nat.le_of_ble_eq_true rfl), (Nat.le_of_ble_eq_true rfl)⟩ dL_areAlike_206 (fun H locs hP hS => ?_)
            change W p l e _ s m _ below meth c H locs 0 0 _ (F0 m 209 ls [.int r10])
            refine lv_aload_n hx hb dL_areAlike_209 rfl (lv_at hl 1 rfl) ?_
            refine lv_iload_n hx hb dL_areAlike_210 rfl (lv_at hl 3 rfl) ?_
            refine lv_iload hx hb dL_areAlike_211 (lv_at hl 4 rfl) ?_
            refine lv_iconst (v := 1) hx hb dL_areAlike_213 (by decide) ?_
            obtain ⟨r13, M14, e15, h⟩ := xm_b2_s h
            refine lm_p C hP hS [.int x3, .int x4, .int 1] [.int r10] (c_X6_match hDp n M7 x3 x4 1 r13 M14 e15) k_L_87 rfl rfl rfl ⟨(Nat.le_of_ble_eq_true rfl), (Nat.le_of_ble_eq_true rfl)⟩ hl.1 (Nat.le_of_ble_eq_true rfl) ⟨(Nat.le_of_ble_eq_true rfl), (Nat.le_of_ble_eq_true rfl)⟩ dL_areAlike_214 (fun H locs hP hS => ?_)
            change W p l e _ s m _ below meth c H locs 0 0 _ (F0 m 217 ls [.int r13, .int r10])
            refine lv_icmp_ne (tgt := 224) hx hb dL_areAlike_217 (by decide) (fun c16 => ?_) (fun c16 => ?_)
            · rw [if_neg c16] at h
              refine lv_iconst (v := 0) hx hb dL_areAlike_224 (by decide) ?_
              refine lv_istore_n (lv' := [(2, .int 0), (0, .ref (a 0)), (1, .ref (bb 0)), (3, .int x3), (4, .int x4)]) hx hb dL_areAlike_225 rfl hl (by decide) rfl (fun ls hl => ?_)
              refine lv_iinc (v := x4 + 1) (lv' := [(4, .int (x4 + 1)), (2, .int 0), (0, .ref (a 0)), (1, .ref (bb 0)), (3, .int x3)]) hx hb dL_areAlike_226 hl (k := 4) rfl (xm_add (by decide)) (by decide) rfl (fun ls hl => ?_)
              refine lv_goto (tgt := 171) hx hb dL_areAlike_229 (by decide) ?_
              exact ih.2.2.2 M11 M14 0 x3 (x4 + 1) r M' N' h _ _ _ hP hS (lv_sub hl [2, 3, 1, 4, 0] rfl)
            · rw [if_pos c16] at h
              refine lv_iconst (v := 1) hx hb dL_areAlike_220 (by decide) ?_
              refine lv_goto (tgt := 225) hx hb dL_areAlike_221 (by decide) ?_
              refine lv_istore_n (lv' := [(2, .int 1), (0, .ref (a 0)), (1, .ref (bb 0)), (3, .int x3), (4, .int x4)]) hx hb dL_areAlike_225 rfl hl (by decide) rfl (fun ls hl => ?_)
              refine lv_iinc (v := x4 + 1) (lv' := [(4, .int (x4 + 1)), (2, .int 1), (0, .ref (a 0)), (1, .ref (bb 0)), (3, .int x3)]) hx hb dL_areAlike_226 hl (k := 4) rfl (xm_add (by decide)) (by decide) rfl (fun ls hl => ?_)
              refine lv_goto (tgt := 171) hx hb dL_areAlike_229 (by decide) ?_
              exact ih.2.2.2 M11 M14 1 x3 (x4 + 1) r M' N' h _ _ _ hP hS (lv_sub hl [2, 3, 1, 4, 0] rfl)
theorem t_L_areAlike_41 {l : Launch} {p : Program} {e : Env} {s : State} {m : MethodId} {args : Array Value} {below : List Frame} {meth : Method} {c : Code} {E : xm_E} {a : Nat → Nat} {bb : Nat → Nat} (C : xm_C E (xj (xv E a) (xv E bb)) p s m args meth c RL cL_areAlike 5 (some .boolean)) (n : Nat) (M N : xm_M) (x2 : Int32) (x3 : Int32) (r : Int32) (M' N' : xm_M) : f_L_areAlike_41 n M N x2 x3 = some (r, M', N') → ∀ (H : Heap) (locs : List Loc) (ls : Array Slot), va_P E.1 vwCl (xm_w (xj (xv E a) (xv E bb)) (xk 120 M N)) H → va_S (xm_A (xj (xv E a) (xv E bb)) s.heap.size) s.heap H locs → lv_has ls 5 [(0, .ref (a 0)), (1, .ref (bb 0)), (2, .int x2), (3, .int x3)] → W p l e { frames := 9, cells := 0, slots := 0, locals := 219 } s m args below meth c H locs 0 0 (MQ below (xm_Q E (xj (xv E a) (xv E bb)) (xk 120 M' N') s.heap.size (some r)) args s 0 0 (xm_A (xj (xv E a) (xv E bb)) s.heap.size)) (F0 m 41 ls []) :=
  fun h H locs ls hP hS hl => (t_L_areAlike_S41 C n).1 M N x2 x3 r M' N' h H locs ls hP hS hl
theorem t_L_areAlike_57 {l : Launch} {p : Program} {e : Env} {s : State} {m : MethodId} {args : Array Value} {below : List Frame} {meth : Method} {c : Code} {E : xm_E} {a : Nat → Nat} {bb : Nat → Nat} (C : xm_C E (xj (xv E a) (xv E bb)) p s m args meth c RL cL_areAlike 5 (some .boolean)) (n : Nat) (M N : xm_M) (x2 : Int32) (x3 : Int32) (x4 : Int32) (r : Int32) (M' N' : xm_M) : f_L_areAlike_57 n M N x2 x3 x4 = some (r, M', N') → ∀ (H : Heap) (locs : List Loc) (ls : Array Slot), va_P E.1 vwCl (xm_w (xj (xv E a) (xv E bb)) (xk 120 M N)) H → va_S (xm_A (xj (xv E a) (xv E bb)) s.heap.size) s.heap H locs → lv_has ls 5 [(0, .ref (a 0)), (1, .ref (bb 0)), (2, .int x2), (3, .int x3), (4, .int x4)] → W p l e { frames := 9, cells := 0, slots := 0, locals := 219 } s m args below meth c H locs 0 0 (MQ below (xm_Q E (xj (xv E a) (xv E bb)) (xk 120 M' N') s.heap.size (some r)) args s 0 0 (xm_A (xj (xv E a) (xv E bb)) s.heap.size)) (F0 m 57 ls []) :=
  fun h H locs ls hP hS hl => (t_L_areAlike_S41 C n).2.1 M N x2 x3 x4 r M' N' h H locs ls hP hS hl
theorem t_L_areAlike_100 {l : Launch} {p : Program} {e : Env} {s : State} {m : MethodId} {args : Array Value} {below : List Frame} {meth : Method} {c : Code} {E : xm_E} {a : Nat → Nat} {bb : Nat → Nat} (C : xm_C E (xj (xv E a) (xv E bb)) p s m args meth c RL cL_areAlike 5 (some .boolean)) (n : Nat) (M N : xm_M) (x2 : Int32) (x3 : Int32) (x4 : Int32) (r : Int32) (M' N' : xm_M) : f_L_areAlike_100 n M N x2 x3 x4 = some (r, M', N') → ∀ (H : Heap) (locs : List Loc) (ls : Array Slot), va_P E.1 vwCl (xm_w (xj (xv E a) (xv E bb)) (xk 120 M N)) H → va_S (xm_A (xj (xv E a) (xv E bb)) s.heap.size) s.heap H locs → lv_has ls 5 [(0, .ref (a 0)), (1, .ref (bb 0)), (2, .int x2), (3, .int x3), (4, .int x4)] → W p l e { frames := 9, cells := 0, slots := 0, locals := 219 } s m args below meth c H locs 0 0 (MQ below (xm_Q E (xj (xv E a) (xv E bb)) (xk 120 M' N') s.heap.size (some r)) args s 0 0 (xm_A (xj (xv E a) (xv E bb)) s.heap.size)) (F0 m 100 ls []) :=
  fun h H locs ls hP hS hl => (t_L_areAlike_S41 C n).2.2.1 M N x2 x3 x4 r M' N' h H locs ls hP hS hl
theorem t_L_areAlike_171 {l : Launch} {p : Program} {e : Env} {s : State} {m : MethodId} {args : Array Value} {below : List Frame} {meth : Method} {c : Code} {E : xm_E} {a : Nat → Nat} {bb : Nat → Nat} (C : xm_C E (xj (xv E a) (xv E bb)) p s m args meth c RL cL_areAlike 5 (some .boolean)) (n : Nat) (M N : xm_M) (x2 : Int32) (x3 : Int32) (x4 : Int32) (r : Int32) (M' N' : xm_M) : f_L_areAlike_171 n M N x2 x3 x4 = some (r, M', N') → ∀ (H : Heap) (locs : List Loc) (ls : Array Slot), va_P E.1 vwCl (xm_w (xj (xv E a) (xv E bb)) (xk 120 M N)) H → va_S (xm_A (xj (xv E a) (xv E bb)) s.heap.size) s.heap H locs → lv_has ls 5 [(0, .ref (a 0)), (1, .ref (bb 0)), (2, .int x2), (3, .int x3), (4, .int x4)] → W p l e { frames := 9, cells := 0, slots := 0, locals := 219 } s m args below meth c H locs 0 0 (MQ below (xm_Q E (xj (xv E a) (xv E bb)) (xk 120 M' N') s.heap.size (some r)) args s 0 0 (xm_A (xj (xv E a) (xv E bb)) s.heap.size)) (F0 m 171 ls []) :=
  fun h H locs ls hP hS hl => (t_L_areAlike_S41 C n).2.2.2 M N x2 x3 x4 r M' N' h H locs ls hP hS hl
def f_L_areAlike_S4 : Nat → Nat → xm_M → xm_M → Int32 → Int32 → Option (Int32 × xm_M × xm_M)
  | 0, _, _, _, _, _ => none
  | n + 1, _, M, N, x2, x3 => if (8 : Int32) ≤ x3 then f_L_areAlike_41 n M N x2 0 else if x2 = 0 then f_L_areAlike_S4 n 0 M N 0 (x3 + 1) else xm_b2 (f_X6_count n M x3) (fun r3 M4 => xm_b2 (f_X6_count n N x3) (fun r6 M7 => if r3 = r6 then f_L_areAlike_S4 n 0 M4 M7 1 (x3 + 1) else f_L_areAlike_S4 n 0 M4 M7 0 (x3 + 1)))
def f_L_areAlike_4 (n : Nat) (M N : xm_M) (x2 : Int32) (x3 : Int32) : Option (Int32 × xm_M × xm_M) := f_L_areAlike_S4 n 0 M N x2 x3
set_option maxHeartbeats 4000000 in
set_option maxRecDepth 100000 in
theorem t_L_areAlike_S4 {l : Launch} {p : Program} {e : Env} {s : State} {m : MethodId} {args : Array Value} {below : List Frame} {meth : Method} {c : Code} {E : xm_E} {a : Nat → Nat} {bb : Nat → Nat} (C : xm_C E (xj (xv E a) (xv E bb)) p s m args meth c RL cL_areAlike 5 (some .boolean)) : ∀ (n : Nat), (∀ (M N : xm_M) (x2 : Int32) (x3 : Int32) (r : Int32) (M' N' : xm_M), f_L_areAlike_S4 n 0 M N x2 x3 = some (r, M', N') → ∀ (H : Heap) (locs : List Loc) (ls : Array Slot), va_P E.1 vwCl (xm_w (xj (xv E a) (xv E bb)) (xk 120 M N)) H → va_S (xm_A (xj (xv E a) (xv E bb)) s.heap.size) s.heap H locs → lv_has ls 5 [(0, .ref (a 0)), (1, .ref (bb 0)), (2, .int x2), (3, .int x3)] → W p l e { frames := 9, cells := 0, slots := 0, locals := 219 } s m args below meth c H locs 0 0 (MQ below (xm_Q E (xj (xv E a) (xv E bb)) (xk 120 M' N') s.heap.size (some r)) args s 0 0 (xm_A (xj (xv E a) (xv E bb)) s.heap.size)) (F0 m 4 ls [])) := by
  have C9 := C
  obtain ⟨hx, hb, hml, hown, hts, hr, hlk, hD, hK, hS9⟩ := C9
  have hDo := xj_D1 hD
  have hDp := xj_D2 hD
  intro n
  induction n with
  | zero =>
    refine (fun M N x2 x3 r M' N' h => ?_)
    all_goals cases h
  | succ n ih =>
    refine (fun M N x2 x3 r M' N' h H locs ls hP hS hl => ?_)
    · rw [f_L_areAlike_S4] at h
      refine lv_iload_n hx hb dL_areAlike_4 rfl (lv_at hl 3 rfl) ?_
      refine lv_bipush (v := 8) hx hb dL_areAlike_5 (by decide) ?_
      refine lv_icmp_ge (tgt := 39) hx hb dL_areAlike_7 (by decide) (fun c1 => ?_) (fun c1 => ?_)
      · rw [if_pos c1] at h
        refine lv_iconst (v := 0) hx hb dL_areAlike_39 (by decide) ?_
        refine lv_istore_n (lv' := [(3, .int 0), (0, .ref (a 0)), (1, .ref (bb 0)), (2, .int x2)]) hx hb dL_areAlike_40 rfl hl (by decide) rfl (fun ls hl => ?_)
        exact t_L_areAlike_41 C n M N x2 0 r M' N' h _ _ _ hP hS (lv_sub hl [1, 2, 3, 0] rfl)
      · rw [if_neg c1] at h
        refine lv_iload_n hx hb dL_areAlike_10 rfl (lv_at hl 2 rfl) ?_
        refine lv_if_eq (tgt := 31) hx hb dL_areAlike_11 (by decide) (fun c2 => ?_) (fun c2 => ?_)
        · rw [if_pos c2] at h
          refine lv_iconst (v := 0) hx hb dL_areAlike_31 (by decide) ?_
          refine lv_istore_n (lv' := [(2, .int 0), (0, .ref (a 0)), (1, .ref (bb 0)), (3, .int x3)]) hx hb dL_areAlike_32 rfl hl (by decide) rfl (fun ls hl => ?_)
          refine lv_iinc (v := x3 + 1) (lv' := [(3, .int (x3 + 1)), (2, .int 0), (0, .ref (a 0)), (1, .ref (bb 0))]) hx hb dL_areAlike_33 hl (k := 3) rfl (xm_add (by decide)) (by decide) rfl (fun ls hl => ?_)
          refine lv_goto (tgt := 4) hx hb dL_areAlike_36 (by decide) ?_
          exact ih M N 0 (x3 + 1) r M' N' h _ _ _ hP hS (lv_sub hl [2, 3, 1, 0] rfl)
        · rw [if_neg c2] at h
          refine lv_aload_n hx hb dL_areAlike_14 rfl (lv_at hl 0 rfl) ?_
          refine lv_iload_n hx hb dL_areAlike_15 rfl (lv_at hl 3 rfl) ?_
          obtain ⟨r3, M4, e5, h⟩ := xm_b2_s h
          refine lm_o C hP hS [.int x3] [] (c_X6_count hDo n M x3 r3 M4 e5) k_L_47 rfl rfl rfl ⟨(Nat.le_of_ble_eq_true rfl), (Nat.le_of_ble_eq_true rfl)⟩ hl.1 (Nat.le_of_ble_eq_true rfl) ⟨(Nat.le_of_ble_eq_true rfl), (Nat.le_of_ble_eq_true rfl)⟩ dL_areAlike_16 (fun H locs hP hS => ?_)
          change W p l e _ s m _ below meth c H locs 0 0 _ (F0 m 19 ls [.int r3])
          refine lv_aload_n hx hb dL_areAlike_19 rfl (lv_at hl 1 rfl) ?_
          refine lv_iload_n hx hb dL_areAlike_20 rfl (lv_at hl 3 rfl) ?_
          obtain ⟨r6, M7, e8, h⟩ := xm_b2_s h
          refine lm_p C hP hS [.int x3] [.int r3] (c_X6_count hDp n N x3 r6 M7 e8) k_L_47 rfl rfl rfl ⟨(Nat.le_of_ble_eq_true rfl), (Nat.le_of_ble_eq_true rfl)⟩ hl.1 (Nat.le_of_ble_eq_true rfl) ⟨(Nat.le_of_ble_eq_true rfl), (Nat.le_of_ble_eq_true rfl)⟩ dL_areAlike_21 (fun H locs hP hS => ?_)
          change W p l e _ s m _ below meth c H locs 0 0 _ (F0 m 24 ls [.int r6, .int r3])
          refine lv_icmp_ne (tgt := 31) hx hb dL_areAlike_24 (by decide) (fun c9 => ?_) (fun c9 => ?_)
          · rw [if_neg c9] at h
            refine lv_iconst (v := 0) hx hb dL_areAlike_31 (by decide) ?_
            refine lv_istore_n (lv' := [(2, .int 0), (0, .ref (a 0)), (1, .ref (bb 0)), (3, .int x3)]) hx hb dL_areAlike_32 rfl hl (by decide) rfl (fun ls hl => ?_)
            refine lv_iinc (v := x3 + 1) (lv' := [(3, .int (x3 + 1)), (2, .int 0), (0, .ref (a 0)), (1, .ref (bb 0))]) hx hb dL_areAlike_33 hl (k := 3) rfl (xm_add (by decide)) (by decide) rfl (fun ls hl => ?_)
            refine lv_goto (tgt := 4) hx hb dL_areAlike_36 (by decide) ?_
            exact ih M4 M7 0 (x3 + 1) r M' N' h _ _ _ hP hS (lv_sub hl [2, 3, 1, 0] rfl)
          · rw [if_pos c9] at h
            refine lv_iconst (v := 1) hx hb dL_areAlike_27 (by decide) ?_
            refine lv_goto (tgt := 32) hx hb dL_areAlike_28 (by decide) ?_
            refine lv_istore_n (lv' := [(2, .int 1), (0, .ref (a 0)), (1, .ref (bb 0)), (3, .int x3)]) hx hb dL_areAlike_32 rfl hl (by decide) rfl (fun ls hl => ?_)
            refine lv_iinc (v := x3 + 1) (lv' := [(3, .int (x3 + 1)), (2, .int 1), (0, .ref (a 0)), (1, .ref (bb 0))]) hx hb dL_areAlike_33 hl (k := 3) rfl (xm_add (by decide)) (by decide) rfl (fun ls hl => ?_)
            refine lv_goto (tgt := 4) hx hb dL_areAlike_36 (by decide) ?_
            exact ih M4 M7 1 (x3 + 1) r M' N' h _ _ _ hP hS (lv_sub hl [2, 3, 1, 0] rfl)
theorem t_L_areAlike_4 {l : Launch} {p : Program} {e : Env} {s : State} {m : MethodId} {args : Array Value} {below : List Frame} {meth : Method} {c : Code} {E : xm_E} {a : Nat → Nat} {bb : Nat → Nat} (C : xm_C E (xj (xv E a) (xv E bb)) p s m args meth c RL cL_areAlike 5 (some .boolean)) (n : Nat) (M N : xm_M) (x2 : Int32) (x3 : Int32) (r : Int32) (M' N' : xm_M) : f_L_areAlike_4 n M N x2 x3 = some (r, M', N') → ∀ (H : Heap) (locs : List Loc) (ls : Array Slot), va_P E.1 vwCl (xm_w (xj (xv E a) (xv E bb)) (xk 120 M N)) H → va_S (xm_A (xj (xv E a) (xv E bb)) s.heap.size) s.heap H locs → lv_has ls 5 [(0, .ref (a 0)), (1, .ref (bb 0)), (2, .int x2), (3, .int x3)] → W p l e { frames := 9, cells := 0, slots := 0, locals := 219 } s m args below meth c H locs 0 0 (MQ below (xm_Q E (xj (xv E a) (xv E bb)) (xk 120 M' N') s.heap.size (some r)) args s 0 0 (xm_A (xj (xv E a) (xv E bb)) s.heap.size)) (F0 m 4 ls []) :=
  fun h H locs ls hP hS hl => (t_L_areAlike_S4 C n) M N x2 x3 r M' N' h H locs ls hP hS hl
def f_L_areAlike (n : Nat) (M N : xm_M) : Option (Int32 × xm_M × xm_M) := f_L_areAlike_4 n M N 1 0
set_option maxHeartbeats 4000000 in
set_option maxRecDepth 100000 in
theorem t_L_areAlike_0 {l : Launch} {p : Program} {e : Env} {s : State} {m : MethodId} {args : Array Value} {below : List Frame} {meth : Method} {c : Code} {E : xm_E} {a : Nat → Nat} {bb : Nat → Nat} (C : xm_C E (xj (xv E a) (xv E bb)) p s m args meth c RL cL_areAlike 5 (some .boolean)) (n : Nat) (M N : xm_M) (r : Int32) (M' N' : xm_M) : f_L_areAlike n M N = some (r, M', N') → ∀ (H : Heap) (locs : List Loc) (ls : Array Slot), va_P E.1 vwCl (xm_w (xj (xv E a) (xv E bb)) (xk 120 M N)) H → va_S (xm_A (xj (xv E a) (xv E bb)) s.heap.size) s.heap H locs → lv_has ls 5 [(0, .ref (a 0)), (1, .ref (bb 0))] → W p l e { frames := 9, cells := 0, slots := 0, locals := 219 } s m args below meth c H locs 0 0 (MQ below (xm_Q E (xj (xv E a) (xv E bb)) (xk 120 M' N') s.heap.size (some r)) args s 0 0 (xm_A (xj (xv E a) (xv E bb)) s.heap.size)) (F0 m 0 ls []) := by
  have C9 := C
  obtain ⟨hx, hb, hml, hown, hts, hr, hlk, hD, hK, hS9⟩ := C9
  have hDo := xj_D1 hD
  have hDp := xj_D2 hD
  intro h H locs ls hP hS hl
  unfold f_L_areAlike at h
  refine lv_iconst (v := 1) hx hb dL_areAlike_0 (by decide) ?_
  refine lv_istore_n (lv' := [(2, .int 1), (0, .ref (a 0)), (1, .ref (bb 0))]) hx hb dL_areAlike_1 rfl hl (by decide) rfl (fun ls hl => ?_)
  refine lv_iconst (v := 0) hx hb dL_areAlike_2 (by decide) ?_
  refine lv_istore_n (lv' := [(3, .int 0), (2, .int 1), (0, .ref (a 0)), (1, .ref (bb 0))]) hx hb dL_areAlike_3 rfl hl (by decide) rfl (fun ls hl => ?_)
  exact t_L_areAlike_4 C n M N 1 0 r M' N' h _ _ _ hP hS (lv_sub hl [2, 3, 1, 0] rfl)
theorem c_L_areAlike {l : Launch} {E : xm_E} {a : Nat → Nat} {bb : Nat → Nat} (hD : xm_D (xj (xv E a) (xv E bb))) (n : Nat) (M N : xm_M) (r : Int32) (M' N' : xm_M) (h : f_L_areAlike n M N = some (r, M', N')) : xm_Met l E (xj (xv E a) (xv E bb)) yL_areAlike cL_areAlike 5 (some .boolean) 9 219 [.ref (a 0), .ref (bb 0)] (xk 120 M N) (xk 120 M' N') (some r) :=
  xm_met (by decide +kernel) rfl (Nat.le_of_ble_eq_true rfl) hD (fun p e s m below meth c C hP ls hl => t_L_areAlike_0 C n M N r M' N' h _ _ _ hP va_S.rf hl)
