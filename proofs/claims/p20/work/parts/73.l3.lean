theorem k_L_64 : xm_FS RL 64 yL_isPattern cL_isPattern 10 (some .boolean) 4 := ⟨xm_tb_of (List.mem_of_getElem? (i := 377) (by decide +kernel)) rfl, xm_tb_of (List.mem_of_getElem? (i := 375) (by decide +kernel)) rfl, xm_tb_of (List.mem_of_getElem? (i := 376) (by decide +kernel)) rfl, xm_tb_of (List.mem_of_getElem? (i := 0) (by decide +kernel)) rfl, ⟨by decide +kernel, by decide +kernel, by decide +kernel⟩⟩
theorem k_L_68 : xm_FV RL 68 yX6_dropPattern cX6_dropPattern 2 (some .int) 1 := ⟨xm_tb_of (List.mem_of_getElem? (i := 525) (by decide +kernel)) rfl, xm_tb_of (List.mem_of_getElem? (i := 522) (by decide +kernel)) rfl, xm_tb_of (List.mem_of_getElem? (i := 523) (by decide +kernel)) rfl, xm_tb_of (List.mem_of_getElem? (i := 524) (by decide +kernel)) rfl, xm_tb_of (List.mem_of_getElem? (i := 1) (by decide +kernel)) rfl, ⟨by decide +kernel, by decide +kernel, by decide +kernel⟩⟩
theorem k_L_71 : xm_FV RL 71 yX6_setWindow cX6_setWindow 4 (some .int) 2 := ⟨xm_tb_of (List.mem_of_getElem? (i := 533) (by decide +kernel)) rfl, xm_tb_of (List.mem_of_getElem? (i := 530) (by decide +kernel)) rfl, xm_tb_of (List.mem_of_getElem? (i := 531) (by decide +kernel)) rfl, xm_tb_of (List.mem_of_getElem? (i := 532) (by decide +kernel)) rfl, xm_tb_of (List.mem_of_getElem? (i := 1) (by decide +kernel)) rfl, ⟨by decide +kernel, by decide +kernel, by decide +kernel⟩⟩
theorem k_L_77 : xm_FV RL 77 yX6_setLateness cX6_setLateness 3 (some .int) 1 := ⟨xm_tb_of (List.mem_of_getElem? (i := 549) (by decide +kernel)) rfl, xm_tb_of (List.mem_of_getElem? (i := 546) (by decide +kernel)) rfl, xm_tb_of (List.mem_of_getElem? (i := 547) (by decide +kernel)) rfl, xm_tb_of (List.mem_of_getElem? (i := 548) (by decide +kernel)) rfl, xm_tb_of (List.mem_of_getElem? (i := 1) (by decide +kernel)) rfl, ⟨by decide +kernel, by decide +kernel, by decide +kernel⟩⟩
theorem k_L_80 : xm_FV RL 80 yX6_undo cX6_undo 1 (some .int) 0 := ⟨xm_tb_of (List.mem_of_getElem? (i := 553) (by decide +kernel)) rfl, xm_tb_of (List.mem_of_getElem? (i := 550) (by decide +kernel)) rfl, xm_tb_of (List.mem_of_getElem? (i := 551) (by decide +kernel)) rfl, xm_tb_of (List.mem_of_getElem? (i := 552) (by decide +kernel)) rfl, xm_tb_of (List.mem_of_getElem? (i := 1) (by decide +kernel)) rfl, ⟨by decide +kernel, by decide +kernel, by decide +kernel⟩⟩
theorem k_L_74 : xm_FV RL 74 yX6_forget cX6_forget 3 (some .int) 1 := ⟨xm_tb_of (List.mem_of_getElem? (i := 537) (by decide +kernel)) rfl, xm_tb_of (List.mem_of_getElem? (i := 534) (by decide +kernel)) rfl, xm_tb_of (List.mem_of_getElem? (i := 535) (by decide +kernel)) rfl, xm_tb_of (List.mem_of_getElem? (i := 536) (by decide +kernel)) rfl, xm_tb_of (List.mem_of_getElem? (i := 1) (by decide +kernel)) rfl, ⟨by decide +kernel, by decide +kernel, by decide +kernel⟩⟩
theorem k_L_57 : xm_FV RL 57 yX6_ifEvent cX6_ifEvent 5 (some .int) 3 := ⟨xm_tb_of (List.mem_of_getElem? (i := 336) (by decide +kernel)) rfl, xm_tb_of (List.mem_of_getElem? (i := 333) (by decide +kernel)) rfl, xm_tb_of (List.mem_of_getElem? (i := 334) (by decide +kernel)) rfl, xm_tb_of (List.mem_of_getElem? (i := 335) (by decide +kernel)) rfl, xm_tb_of (List.mem_of_getElem? (i := 1) (by decide +kernel)) rfl, ⟨by decide +kernel, by decide +kernel, by decide +kernel⟩⟩
theorem k_L_61 : xm_FV RL 61 yX6_event cX6_event 5 (some .int) 3 := ⟨xm_tb_of (List.mem_of_getElem? (i := 351) (by decide +kernel)) rfl, xm_tb_of (List.mem_of_getElem? (i := 348) (by decide +kernel)) rfl, xm_tb_of (List.mem_of_getElem? (i := 349) (by decide +kernel)) rfl, xm_tb_of (List.mem_of_getElem? (i := 350) (by decide +kernel)) rfl, xm_tb_of (List.mem_of_getElem? (i := 1) (by decide +kernel)) rfl, ⟨by decide +kernel, by decide +kernel, by decide +kernel⟩⟩
def f_L_isStep_215 (n : Nat) (M N : xm_M) (x5 : Int32) (x6 : Int32) (x8 : Int32) (x9 : Int32) (x10 : Int32) (x11 : Int32) (x12 : Int32) (x13 : Int32) : Option (Int32 × xm_M × xm_M) := xm_b3 (f_L_there n M N x8) (fun r1 M2 N4 => xm_b2 (f_X6_event n N4 r1 ((((2 : Int32)) * x9) + 1) x10) (fun r5 M6 => if x12 = r5 then if x13 = 0 then if x5 = 24 then if x12 = ((-3)) then some (1, M2, M6) else some (0, M2, M6) else if x12 = x5 then xm_b2 (f_X6_count n M2 2) (fun r12 M13 => if r12 = x11 then xm_b2 (f_X6_count n M13 3) (fun r16 M17 => if x10 ≤ x6 then if r16 = x6 then some (1, M17, M6) else some (0, M17, M6) else if r16 = x10 then some (1, M17, M6) else some (0, M17, M6)) else some (0, M13, M6)) else some (0, M2, M6) else if x12 = ((-4)) then if x11 = x12 then some (1, M2, M6) else some (0, M2, M6) else some (0, M2, M6) else some (0, M2, M6)))
set_option maxHeartbeats 4000000 in
set_option maxRecDepth 100000 in
theorem t_L_isStep_215 {l : Launch} {p : Program} {e : Env} {s : State} {m : MethodId} {args : Array Value} {below : List Frame} {meth : Method} {c : Code} {E : xm_E} {a : Nat → Nat} {bb : Nat → Nat} (C : xm_C E (xj (xv E a) (xv E bb)) p s m args meth c RL cL_isStep 14 (some .boolean)) (n : Nat) (M N : xm_M) (x5 : Int32) (x6 : Int32) (x8 : Int32) (x9 : Int32) (x10 : Int32) (x11 : Int32) (x12 : Int32) (x13 : Int32) (r : Int32) (M' N' : xm_M) : f_L_isStep_215 n M N x5 x6 x8 x9 x10 x11 x12 x13 = some (r, M', N') → ∀ (H : Heap) (locs : List Loc) (ls : Array Slot), va_P E.1 vwCl (xm_w (xj (xv E a) (xv E bb)) (xk 120 M N)) H → va_S (xm_A (xj (xv E a) (xv E bb)) s.heap.size) s.heap H locs → lv_has ls 14 [(0, .ref (a 0)), (1, .ref (bb 0)), (5, .int x5), (6, .int x6), (8, .int x8), (9, .int x9), (10, .int x10), (11, .int x11), (12, .int x12), (13, .int x13)] → W p l e { frames := 10, cells := 0, slots := 0, locals := 247 } s m args below meth c H locs 0 0 (MQ below (xm_Q E (xj (xv E a) (xv E bb)) (xk 120 M' N') s.heap.size (some r)) args s 0 0 (xm_A (xj (xv E a) (xv E bb)) s.heap.size)) (F0 m 215 ls []) := by
  have C9 := C
  obtain ⟨hx, hb, hml, hown, hts, hr, hlk, hD, hK, hS9⟩ := C9
  have hDo := xj_D1 hD
  have hDp := xj_D2 hD
  intro h H locs ls hP hS hl
  unfold f_L_isStep_215 at h
  refine lv_iload hx hb dL_isStep_215 (lv_at hl 8 rfl) ?_
  refine lv_aload_n hx hb dL_isStep_217 rfl (lv_at hl 1 rfl) ?_
  refine lv_iload hx hb dL_isStep_218 (lv_at hl 4 rfl) ?_
  obtain ⟨r1, M2, N4, e3, h⟩ := xm_b3_s h
  refine xm_callS C hP hS [.int x8] [.ref (bb 0), .int x12] (c_L_there hD n M N x8 r1 M2 N4 e3) k_L_43 rfl rfl ⟨(Nat.le_of_ble_eq_true rfl), (Nat.le_of_ble_eq_true rfl)⟩ hl.1 (Nat.le_of_ble_eq_true rfl) ⟨(Nat.le_of_ble_eq_true rfl), (Nat.le_of_ble_eq_true rfl)⟩ dL_isStep_220 (fun H locs hP hS => ?_)
  change W p l e _ s m _ below meth c H locs 0 0 _ (F0 m 223 ls [.int r1, .ref (bb 0), .int x12])
  refine lv_iconst (v := 2) hx hb dL_isStep_223 (by decide) ?_
  refine lv_iload hx hb dL_isStep_224 (lv_at hl 5 rfl) ?_
  refine lv_imul hx hb dL_isStep_226 ?_
  refine lv_iconst (v := 1) hx hb dL_isStep_227 (by decide) ?_
  refine lv_iadd hx hb dL_isStep_228 ?_
  refine lv_iload hx hb dL_isStep_229 (lv_at hl 6 rfl) ?_
  obtain ⟨r5, M6, e7, h⟩ := xm_b2_s h
  refine lm_p C hP hS [.int r1, .int ((((2 : Int32)) * x9) + 1), .int x10] [.int x12] (c_X6_event hDp n N4 r1 ((((2 : Int32)) * x9) + 1) x10 r5 M6 e7) k_L_61 rfl rfl rfl ⟨(Nat.le_of_ble_eq_true rfl), (Nat.le_of_ble_eq_true rfl)⟩ hl.1 (Nat.le_of_ble_eq_true rfl) ⟨(Nat.le_of_ble_eq_true rfl), (Nat.le_of_ble_eq_true rfl)⟩ dL_isStep_231 (fun H locs hP hS => ?_)
  change W p l e _ s m _ below meth c H locs 0 0 _ (F0 m 234 ls [.int r5, .int x12])
  refine lv_icmp_ne (tgt := 319) hx hb dL_isStep_234 (by decide) (fun c8 => ?_) (fun c8 => ?_)
  · rw [if_neg c8] at h
    refine lv_iconst (v := 0) hx hb dL_isStep_319 (by decide) ?_
    obtain ⟨rfl, rfl, rfl⟩ := xm_p3 h
    exact lm_retZ C hP hS (by rfl) dL_isStep_320
  · rw [if_pos c8] at h
    refine lv_iload hx hb dL_isStep_237 (lv_at hl 9 rfl) ?_
    refine lv_if_eq (tgt := 259) hx hb dL_isStep_239 (by decide) (fun c9 => ?_) (fun c9 => ?_)
    · rw [if_pos c9] at h
      refine lv_iload hx hb dL_isStep_259 (lv_at hl 2 rfl) ?_
      refine lv_bipush (v := 24) hx hb dL_isStep_261 (by decide) ?_
      refine lv_icmp_ne (tgt := 276) hx hb dL_isStep_263 (by decide) (fun c10 => ?_) (fun c10 => ?_)
      · rw [if_neg c10] at h
        refine lv_iload hx hb dL_isStep_276 (lv_at hl 8 rfl) ?_
        refine lv_iload hx hb dL_isStep_278 (lv_at hl 2 rfl) ?_
        refine lv_icmp_ne (tgt := 319) hx hb dL_isStep_280 (by decide) (fun c11 => ?_) (fun c11 => ?_)
        · rw [if_neg c11] at h
          refine lv_iconst (v := 0) hx hb dL_isStep_319 (by decide) ?_
          obtain ⟨rfl, rfl, rfl⟩ := xm_p3 h
          exact lm_retZ C hP hS (by rfl) dL_isStep_320
        · rw [if_pos c11] at h
          refine lv_aload_n hx hb dL_isStep_283 rfl (lv_at hl 0 rfl) ?_
          refine lv_iconst (v := 2) hx hb dL_isStep_284 (by decide) ?_
          obtain ⟨r12, M13, e14, h⟩ := xm_b2_s h
          refine lm_o C hP hS [.int 2] [] (c_X6_count hDo n M2 2 r12 M13 e14) k_L_47 rfl rfl rfl ⟨(Nat.le_of_ble_eq_true rfl), (Nat.le_of_ble_eq_true rfl)⟩ hl.1 (Nat.le_of_ble_eq_true rfl) ⟨(Nat.le_of_ble_eq_true rfl), (Nat.le_of_ble_eq_true rfl)⟩ dL_isStep_285 (fun H locs hP hS => ?_)
          change W p l e _ s m _ below meth c H locs 0 0 _ (F0 m 288 ls [.int r12])
          refine lv_iload hx hb dL_isStep_288 (lv_at hl 7 rfl) ?_
          refine lv_icmp_ne (tgt := 319) hx hb dL_isStep_290 (by decide) (fun c15 => ?_) (fun c15 => ?_)
          · rw [if_neg c15] at h
            refine lv_iconst (v := 0) hx hb dL_isStep_319 (by decide) ?_
            obtain ⟨rfl, rfl, rfl⟩ := xm_p3 h
            exact lm_retZ C hP hS (by rfl) dL_isStep_320
          · rw [if_pos c15] at h
            refine lv_aload_n hx hb dL_isStep_293 rfl (lv_at hl 0 rfl) ?_
            refine lv_iconst (v := 3) hx hb dL_isStep_294 (by decide) ?_
            obtain ⟨r16, M17, e18, h⟩ := xm_b2_s h
            refine lm_o C hP hS [.int 3] [] (c_X6_count hDo n M13 3 r16 M17 e18) k_L_47 rfl rfl rfl ⟨(Nat.le_of_ble_eq_true rfl), (Nat.le_of_ble_eq_true rfl)⟩ hl.1 (Nat.le_of_ble_eq_true rfl) ⟨(Nat.le_of_ble_eq_true rfl), (Nat.le_of_ble_eq_true rfl)⟩ dL_isStep_295 (fun H locs hP hS => ?_)
            change W p l e _ s m _ below meth c H locs 0 0 _ (F0 m 298 ls [.int r16])
            refine lv_iload hx hb dL_isStep_298 (lv_at hl 6 rfl) ?_
            refine lv_iload hx hb dL_isStep_300 (lv_at hl 3 rfl) ?_
            refine lv_icmp_le (tgt := 310) hx hb dL_isStep_302 (by decide) (fun c19 => ?_) (fun c19 => ?_)
            · rw [if_pos c19] at h
              refine lv_iload hx hb dL_isStep_310 (lv_at hl 3 rfl) ?_
              refine lv_icmp_ne (tgt := 319) hx hb dL_isStep_312 (by decide) (fun c20 => ?_) (fun c20 => ?_)
              · rw [if_neg c20] at h
                refine lv_iconst (v := 0) hx hb dL_isStep_319 (by decide) ?_
                obtain ⟨rfl, rfl, rfl⟩ := xm_p3 h
                exact lm_retZ C hP hS (by rfl) dL_isStep_320
              · rw [if_pos c20] at h
                refine lv_iconst (v := 1) hx hb dL_isStep_315 (by decide) ?_
                refine lv_goto (tgt := 320) hx hb dL_isStep_316 (by decide) ?_
                obtain ⟨rfl, rfl, rfl⟩ := xm_p3 h
                exact lm_retZ C hP hS (by rfl) dL_isStep_320
            · rw [if_neg c19] at h
              refine lv_iload hx hb dL_isStep_305 (lv_at hl 6 rfl) ?_
              refine lv_goto (tgt := 312) hx hb dL_isStep_307 (by decide) ?_
              refine lv_icmp_ne (tgt := 319) hx hb dL_isStep_312 (by decide) (fun c21 => ?_) (fun c21 => ?_)
              · rw [if_neg c21] at h
                refine lv_iconst (v := 0) hx hb dL_isStep_319 (by decide) ?_
                obtain ⟨rfl, rfl, rfl⟩ := xm_p3 h
                exact lm_retZ C hP hS (by rfl) dL_isStep_320
              · rw [if_pos c21] at h
                refine lv_iconst (v := 1) hx hb dL_isStep_315 (by decide) ?_
                refine lv_goto (tgt := 320) hx hb dL_isStep_316 (by decide) ?_
                obtain ⟨rfl, rfl, rfl⟩ := xm_p3 h
                exact lm_retZ C hP hS (by rfl) dL_isStep_320
      · rw [if_pos c10] at h
        refine lv_iload hx hb dL_isStep_266 (lv_at hl 8 rfl) ?_
        refine lv_bipush (v := (-3)) hx hb dL_isStep_268 (by decide) ?_
        refine lv_icmp_ne (tgt := 319) hx hb dL_isStep_270 (by decide) (fun c22 => ?_) (fun c22 => ?_)
        · rw [if_neg c22] at h
          refine lv_iconst (v := 0) hx hb dL_isStep_319 (by decide) ?_
          obtain ⟨rfl, rfl, rfl⟩ := xm_p3 h
          exact lm_retZ C hP hS (by rfl) dL_isStep_320
        · rw [if_pos c22] at h
          refine lv_goto (tgt := 315) hx hb dL_isStep_273 (by decide) ?_
          refine lv_iconst (v := 1) hx hb dL_isStep_315 (by decide) ?_
          refine lv_goto (tgt := 320) hx hb dL_isStep_316 (by decide) ?_
          obtain ⟨rfl, rfl, rfl⟩ := xm_p3 h
          exact lm_retZ C hP hS (by rfl) dL_isStep_320
    · rw [if_neg c9] at h
      refine lv_iload hx hb dL_isStep_242 (lv_at hl 8 rfl) ?_
      refine lv_bipush (v := (-4)) hx hb dL_isStep_244 (by decide) ?_
      refine lv_icmp_ne (tgt := 319) hx hb dL_isStep_246 (by decide) (fun c23 => ?_) (fun c23 => ?_)
      · rw [if_neg c23] at h
        refine lv_iconst (v := 0) hx hb dL_isStep_319 (by decide) ?_
        obtain ⟨rfl, rfl, rfl⟩ := xm_p3 h
        exact lm_retZ C hP hS (by rfl) dL_isStep_320
      · rw [if_pos c23] at h
        refine lv_iload hx hb dL_isStep_249 (lv_at hl 7 rfl) ?_
        refine lv_iload hx hb dL_isStep_251 (lv_at hl 8 rfl) ?_
        refine lv_icmp_ne (tgt := 319) hx hb dL_isStep_253 (by decide) (fun c24 => ?_) (fun c24 => ?_)
        · rw [if_neg c24] at h
          refine lv_iconst (v := 0) hx hb dL_isStep_319 (by decide) ?_
          obtain ⟨rfl, rfl, rfl⟩ := xm_p3 h
          exact lm_retZ C hP hS (by rfl) dL_isStep_320
        · rw [if_pos c24] at h
          refine lv_goto (tgt := 315) hx hb dL_isStep_256 (by decide) ?_
          refine lv_iconst (v := 1) hx hb dL_isStep_315 (by decide) ?_
          refine lv_goto (tgt := 320) hx hb dL_isStep_316 (by decide) ?_
          obtain ⟨rfl, rfl, rfl⟩ := xm_p3 h
          exact lm_retZ C hP hS (by rfl) dL_isStep_320
def f_L_isStep_172 (n : Nat) (M N : xm_M) (x5 : Int32) (x6 : Int32) (x7 : Int32) (x8 : Int32) (x9 : Int32) (x10 : Int32) : Option (Int32 × xm_M × xm_M) := xm_b2 (f_X6_ifEvent n M ((x8.toUInt32 % 65536).toInt32) x9 x10) (fun r1 M2 => xm_b2 (f_X6_event n M2 ((x8.toUInt32 % 65536).toInt32) x9 x10) (fun r4 M5 => if (x6 - x7) ≤ x10 then f_L_isStep_215 n M5 N x5 x6 x8 x9 x10 r1 r4 0 else f_L_isStep_215 n M5 N x5 x6 x8 x9 x10 r1 r4 1))
set_option maxHeartbeats 4000000 in
set_option maxRecDepth 100000 in
theorem t_L_isStep_172 {l : Launch} {p : Program} {e : Env} {s : State} {m : MethodId} {args : Array Value} {below : List Frame} {meth : Method} {c : Code} {E : xm_E} {a : Nat → Nat} {bb : Nat → Nat} (C : xm_C E (xj (xv E a) (xv E bb)) p s m args meth c RL cL_isStep 14 (some .boolean)) (n : Nat) (M N : xm_M) (x5 : Int32) (x6 : Int32) (x7 : Int32) (x8 : Int32) (x9 : Int32) (x10 : Int32) (r : Int32) (M' N' : xm_M) : f_L_isStep_172 n M N x5 x6 x7 x8 x9 x10 = some (r, M', N') → ∀ (H : Heap) (locs : List Loc) (ls : Array Slot), va_P E.1 vwCl (xm_w (xj (xv E a) (xv E bb)) (xk 120 M N)) H → va_S (xm_A (xj (xv E a) (xv E bb)) s.heap.size) s.heap H locs → lv_has ls 14 [(0, .ref (a 0)), (1, .ref (bb 0)), (5, .int x5), (6, .int x6), (7, .int x7), (8, .int x8), (9, .int x9), (10, .int x10)] → W p l e { frames := 10, cells := 0, slots := 0, locals := 247 } s m args below meth c H locs 0 0 (MQ below (xm_Q E (xj (xv E a) (xv E bb)) (xk 120 M' N') s.heap.size (some r)) args s 0 0 (xm_A (xj (xv E a) (xv E bb)) s.heap.size)) (F0 m 172 ls []) := by
  have C9 := C
  obtain ⟨hx, hb, hml, hown, hts, hr, hlk, hD, hK, hS9⟩ := C9
  have hDo := xj_D1 hD
  have hDp := xj_D2 hD
  intro h H locs ls hP hS hl
  unfold f_L_isStep_172 at h
  refine lv_aload_n hx hb dL_isStep_172 rfl (lv_at hl 0 rfl) ?_
  refine lv_iload hx hb dL_isStep_173 (lv_at hl 5 rfl) ?_
  refine lv_i2c (v := (x8.toUInt32 % 65536).toInt32) hx hb dL_isStep_175 rfl ?_
  refine lv_iload hx hb dL_isStep_176 (lv_at hl 6 rfl) ?_
  refine lv_iload hx hb dL_isStep_178 (lv_at hl 7 rfl) ?_
  obtain ⟨r1, M2, e3, h⟩ := xm_b2_s h
  refine lm_o C hP hS [.int ((x8.toUInt32 % 65536).toInt32), .int x9, .int x10] [] (c_X6_ifEvent hDo n M ((x8.toUInt32 % 65536).toInt32) x9 x10 r1 M2 e3) k_L_57 rfl rfl rfl ⟨(Nat.le_of_ble_eq_true rfl), (Nat.le_of_ble_eq_true rfl)⟩ hl.1 (Nat.le_of_ble_eq_true rfl) ⟨(Nat.le_of_ble_eq_true rfl), (Nat.le_of_ble_eq_true rfl)⟩ dL_isStep_180 (fun H locs hP hS => ?_)
  change W p l e _ s m _ below meth c H locs 0 0 _ (F0 m 183 ls [.int r1])
  refine lv_istore (lv' := [(11, .int r1), (0, .ref (a 0)), (1, .ref (bb 0)), (5, .int x5), (6, .int x6), (7, .int x7), (8, .int x8), (9, .int x9), (10, .int x10)]) hx hb dL_isStep_183 hl (by decide) rfl (fun ls hl => ?_)
  refine lv_aload_n hx hb dL_isStep_185 rfl (lv_at hl 1 rfl) ?_
  refine lv_iload hx hb dL_isStep_186 (lv_at hl 6 rfl) ?_
  refine lv_i2c (v := (x8.toUInt32 % 65536).toInt32) hx hb dL_isStep_188 rfl ?_
  refine lv_iload hx hb dL_isStep_189 (lv_at hl 7 rfl) ?_
  refine lv_iload hx hb dL_isStep_191 (lv_at hl 8 rfl) ?_
  obtain ⟨r4, M5, e6, h⟩ := xm_b2_s h
  refine lm_o C hP hS [.int ((x8.toUInt32 % 65536).toInt32), .int x9, .int x10] [] (c_X6_event hDo n M2 ((x8.toUInt32 % 65536).toInt32) x9 x10 r4 M5 e6) k_L_61 rfl rfl rfl ⟨(Nat.le_of_ble_eq_true rfl), (Nat.le_of_ble_eq_true rfl)⟩ hl.1 (Nat.le_of_ble_eq_true rfl) ⟨(Nat.le_of_ble_eq_true rfl), (Nat.le_of_ble_eq_true rfl)⟩ dL_isStep_193 (fun H locs hP hS => ?_)
  change W p l e _ s m _ below meth c H locs 0 0 _ (F0 m 196 ls [.int r4])
  refine lv_istore (lv' := [(12, .int r4), (11, .int r1), (0, .ref (a 0)), (1, .ref (bb 0)), (5, .int x5), (6, .int x6), (7, .int x7), (8, .int x8), (9, .int x9), (10, .int x10)]) hx hb dL_isStep_196 hl (by decide) rfl (fun ls hl => ?_)
  refine lv_iload hx hb dL_isStep_198 (lv_at hl 9 rfl) ?_
  refine lv_iload hx hb dL_isStep_200 (lv_at hl 5 rfl) ?_
  refine lv_iload hx hb dL_isStep_202 (lv_at hl 6 rfl) ?_
  refine lv_isub hx hb dL_isStep_204 ?_
  refine lv_icmp_ge (tgt := 212) hx hb dL_isStep_205 (by decide) (fun c7 => ?_) (fun c7 => ?_)
  · rw [if_pos c7] at h
    refine lv_iconst (v := 0) hx hb dL_isStep_212 (by decide) ?_
    refine lv_istore (lv' := [(13, .int 0), (12, .int r4), (11, .int r1), (0, .ref (a 0)), (1, .ref (bb 0)), (5, .int x5), (6, .int x6), (7, .int x7), (8, .int x8), (9, .int x9), (10, .int x10)]) hx hb dL_isStep_213 hl (by decide) rfl (fun ls hl => ?_)
    exact t_L_isStep_215 C n M5 N x5 x6 x8 x9 x10 r1 r4 0 r M' N' h _ _ _ hP hS (lv_sub hl [3, 4, 5, 6, 8, 9, 10, 2, 1, 0] rfl)
  · rw [if_neg c7] at h
    refine lv_iconst (v := 1) hx hb dL_isStep_208 (by decide) ?_
    refine lv_goto (tgt := 213) hx hb dL_isStep_209 (by decide) ?_
    refine lv_istore (lv' := [(13, .int 1), (12, .int r4), (11, .int r1), (0, .ref (a 0)), (1, .ref (bb 0)), (5, .int x5), (6, .int x6), (7, .int x7), (8, .int x8), (9, .int x9), (10, .int x10)]) hx hb dL_isStep_213 hl (by decide) rfl (fun ls hl => ?_)
    exact t_L_isStep_215 C n M5 N x5 x6 x8 x9 x10 r1 r4 1 r M' N' h _ _ _ hP hS (lv_sub hl [3, 4, 5, 6, 8, 9, 10, 2, 1, 0] rfl)
def f_L_isStep_143 (n : Nat) (M N : xm_M) (x3 : Int32) (x5 : Int32) (x6 : Int32) (x7 : Int32) (x8 : Int32) (x9 : Int32) : Option (Int32 × xm_M × xm_M) := xm_b3 (f_L_up n M N x3 42) (fun r1 M2 N4 => if (0 : Int32) ≤ ((x6 - 25) + r1) then f_L_isStep_172 n M2 N4 x5 x6 x7 x8 x9 ((x6 - 25) + r1) else f_L_isStep_172 n M2 N4 x5 x6 x7 x8 x9 (-((x6 - 25) + r1)))
set_option maxHeartbeats 4000000 in
set_option maxRecDepth 100000 in
theorem t_L_isStep_143 {l : Launch} {p : Program} {e : Env} {s : State} {m : MethodId} {args : Array Value} {below : List Frame} {meth : Method} {c : Code} {E : xm_E} {a : Nat → Nat} {bb : Nat → Nat} (C : xm_C E (xj (xv E a) (xv E bb)) p s m args meth c RL cL_isStep 14 (some .boolean)) (n : Nat) (M N : xm_M) (x3 : Int32) (x5 : Int32) (x6 : Int32) (x7 : Int32) (x8 : Int32) (x9 : Int32) (r : Int32) (M' N' : xm_M) : f_L_isStep_143 n M N x3 x5 x6 x7 x8 x9 = some (r, M', N') → ∀ (H : Heap) (locs : List Loc) (ls : Array Slot), va_P E.1 vwCl (xm_w (xj (xv E a) (xv E bb)) (xk 120 M N)) H → va_S (xm_A (xj (xv E a) (xv E bb)) s.heap.size) s.heap H locs → lv_has ls 14 [(0, .ref (a 0)), (1, .ref (bb 0)), (3, .int x3), (5, .int x5), (6, .int x6), (7, .int x7), (8, .int x8), (9, .int x9)] → W p l e { frames := 10, cells := 0, slots := 0, locals := 247 } s m args below meth c H locs 0 0 (MQ below (xm_Q E (xj (xv E a) (xv E bb)) (xk 120 M' N') s.heap.size (some r)) args s 0 0 (xm_A (xj (xv E a) (xv E bb)) s.heap.size)) (F0 m 143 ls []) := by
  have C9 := C
  obtain ⟨hx, hb, hml, hown, hts, hr, hlk, hD, hK, hS9⟩ := C9
  have hDo := xj_D1 hD
  have hDp := xj_D2 hD
  intro h H locs ls hP hS hl
  unfold f_L_isStep_143 at h
  refine lv_iload hx hb dL_isStep_143 (lv_at hl 4 rfl) ?_
  refine lv_bipush (v := 25) hx hb dL_isStep_145 (by decide) ?_
  refine lv_isub hx hb dL_isStep_147 ?_
  refine lv_iload_n hx hb dL_isStep_148 rfl (lv_at hl 2 rfl) ?_
  refine lv_bipush (v := 42) hx hb dL_isStep_149 (by decide) ?_
  obtain ⟨r1, M2, N4, e3, h⟩ := xm_b3_s h
  refine xm_callS C hP hS [.int x3, .int 42] [.int (x6 - 25)] (c_L_up hD n M N x3 42 r1 M2 N4 e3) k_L_17 rfl rfl ⟨(Nat.le_of_ble_eq_true rfl), (Nat.le_of_ble_eq_true rfl)⟩ hl.1 (Nat.le_of_ble_eq_true rfl) ⟨(Nat.le_of_ble_eq_true rfl), (Nat.le_of_ble_eq_true rfl)⟩ dL_isStep_151 (fun H locs hP hS => ?_)
  change W p l e _ s m _ below meth c H locs 0 0 _ (F0 m 154 ls [.int r1, .int (x6 - 25)])
  refine lv_iadd hx hb dL_isStep_154 ?_
  refine lv_istore (lv' := [(10, .int ((x6 - 25) + r1)), (0, .ref (a 0)), (1, .ref (bb 0)), (3, .int x3), (5, .int x5), (6, .int x6), (7, .int x7), (8, .int x8), (9, .int x9)]) hx hb dL_isStep_155 hl (by decide) rfl (fun ls hl => ?_)
  refine lv_iload hx hb dL_isStep_157 (lv_at hl 0 rfl) ?_
  refine lv_if_ge (tgt := 168) hx hb dL_isStep_159 (by decide) (fun c5 => ?_) (fun c5 => ?_)
  · rw [if_pos c5] at h
    refine lv_iload hx hb dL_isStep_168 (lv_at hl 0 rfl) ?_
    refine lv_istore (lv' := [(10, .int ((x6 - 25) + r1)), (0, .ref (a 0)), (1, .ref (bb 0)), (3, .int x3), (5, .int x5), (6, .int x6), (7, .int x7), (8, .int x8), (9, .int x9)]) hx hb dL_isStep_170 hl (by decide) rfl (fun ls hl => ?_)
    exact t_L_isStep_172 C n M2 N4 x5 x6 x7 x8 x9 ((x6 - 25) + r1) r M' N' h _ _ _ hP hS (lv_sub hl [1, 2, 4, 5, 6, 7, 8, 0] rfl)
  · rw [if_neg c5] at h
    refine lv_iload hx hb dL_isStep_162 (lv_at hl 0 rfl) ?_
    refine lv_ineg hx hb dL_isStep_164 ?_
    refine lv_goto (tgt := 170) hx hb dL_isStep_165 (by decide) ?_
    refine lv_istore (lv' := [(10, .int (-((x6 - 25) + r1))), (0, .ref (a 0)), (1, .ref (bb 0)), (3, .int x3), (5, .int x5), (6, .int x6), (7, .int x7), (8, .int x8), (9, .int x9)]) hx hb dL_isStep_170 hl (by decide) rfl (fun ls hl => ?_)
    exact t_L_isStep_172 C n M2 N4 x5 x6 x7 x8 x9 (-((x6 - 25) + r1)) r M' N' h _ _ _ hP hS (lv_sub hl [1, 2, 4, 5, 6, 7, 8, 0] rfl)
def f_L_isStep_104 (n : Nat) (M N : xm_M) (x3 : Int32) (x4 : Int32) (x5 : Int32) (x6 : Int32) (x7 : Int32) : Option (Int32 × xm_M × xm_M) := xm_b3 (f_L_up n M N x4 4) (fun r1 M2 N4 => xm_b3 (f_L_up n M2 N4 (x4 >>> ((6 : Int32) &&& 31)) 4) (fun r5 M6 N8 => if r5 = 0 then xm_b3 (f_L_up n M6 N8 (x4 >>> ((3 : Int32) &&& 31)) 50) (fun r14 M15 N17 => f_L_isStep_143 n M15 N17 x3 x5 x6 x7 (((97 : Int32)) + r1) r14) else xm_b3 (f_L_up n M6 N8 (x4 >>> ((3 : Int32) &&& 31)) 6) (fun r10 M11 N13 => f_L_isStep_143 n M11 N13 x3 x5 x6 x7 (((97 : Int32)) + r1) r10)))
set_option maxHeartbeats 4000000 in
set_option maxRecDepth 100000 in
theorem t_L_isStep_104 {l : Launch} {p : Program} {e : Env} {s : State} {m : MethodId} {args : Array Value} {below : List Frame} {meth : Method} {c : Code} {E : xm_E} {a : Nat → Nat} {bb : Nat → Nat} (C : xm_C E (xj (xv E a) (xv E bb)) p s m args meth c RL cL_isStep 14 (some .boolean)) (n : Nat) (M N : xm_M) (x3 : Int32) (x4 : Int32) (x5 : Int32) (x6 : Int32) (x7 : Int32) (r : Int32) (M' N' : xm_M) : f_L_isStep_104 n M N x3 x4 x5 x6 x7 = some (r, M', N') → ∀ (H : Heap) (locs : List Loc) (ls : Array Slot), va_P E.1 vwCl (xm_w (xj (xv E a) (xv E bb)) (xk 120 M N)) H → va_S (xm_A (xj (xv E a) (xv E bb)) s.heap.size) s.heap H locs → lv_has ls 14 [(0, .ref (a 0)), (1, .ref (bb 0)), (3, .int x3), (4, .int x4), (5, .int x5), (6, .int x6), (7, .int x7)] → W p l e { frames := 10, cells := 0, slots := 0, locals := 247 } s m args below meth c H locs 0 0 (MQ below (xm_Q E (xj (xv E a) (xv E bb)) (xk 120 M' N') s.heap.size (some r)) args s 0 0 (xm_A (xj (xv E a) (xv E bb)) s.heap.size)) (F0 m 104 ls []) := by
  have C9 := C
  obtain ⟨hx, hb, hml, hown, hts, hr, hlk, hD, hK, hS9⟩ := C9
  have hDo := xj_D1 hD
  have hDp := xj_D2 hD
  intro h H locs ls hP hS hl
  unfold f_L_isStep_104 at h
  refine lv_bipush (v := 97) hx hb dL_isStep_104 (by decide) ?_
  refine lv_iload hx hb dL_isStep_106 (lv_at hl 3 rfl) ?_
  refine lv_iconst (v := 4) hx hb dL_isStep_108 (by decide) ?_
  obtain ⟨r1, M2, N4, e3, h⟩ := xm_b3_s h
  refine xm_callS C hP hS [.int x4, .int 4] [.int 97] (c_L_up hD n M N x4 4 r1 M2 N4 e3) k_L_17 rfl rfl ⟨(Nat.le_of_ble_eq_true rfl), (Nat.le_of_ble_eq_true rfl)⟩ hl.1 (Nat.le_of_ble_eq_true rfl) ⟨(Nat.le_of_ble_eq_true rfl), (Nat.le_of_ble_eq_true rfl)⟩ dL_isStep_109 (fun H locs hP hS => ?_)
  change W p l e _ s m _ below meth c H locs 0 0 _ (F0 m 112 ls [.int r1, .int 97])
  refine lv_iadd hx hb dL_isStep_112 ?_
  refine lv_istore (lv' := [(8, .int (((97 : Int32)) + r1)), (0, .ref (a 0)), (1, .ref (bb 0)), (3, .int x3), (4, .int x4), (5, .int x5), (6, .int x6), (7, .int x7)]) hx hb dL_isStep_113 hl (by decide) rfl (fun ls hl => ?_)
  refine lv_iload hx hb dL_isStep_115 (lv_at hl 4 rfl) ?_
  refine lv_iconst (v := 3) hx hb dL_isStep_117 (by decide) ?_
  refine lv_ishr hx hb dL_isStep_118 ?_
  refine lv_iload hx hb dL_isStep_119 (lv_at hl 4 rfl) ?_
  refine lv_bipush (v := 6) hx hb dL_isStep_121 (by decide) ?_
  refine lv_ishr hx hb dL_isStep_123 ?_
  refine lv_iconst (v := 4) hx hb dL_isStep_124 (by decide) ?_
  obtain ⟨r5, M6, N8, e7, h⟩ := xm_b3_s h
  refine xm_callS C hP hS [.int (x4 >>> ((6 : Int32) &&& 31)), .int 4] [.int (x4 >>> ((3 : Int32) &&& 31))] (c_L_up hD n M2 N4 (x4 >>> ((6 : Int32) &&& 31)) 4 r5 M6 N8 e7) k_L_17 rfl rfl ⟨(Nat.le_of_ble_eq_true rfl), (Nat.le_of_ble_eq_true rfl)⟩ hl.1 (Nat.le_of_ble_eq_true rfl) ⟨(Nat.le_of_ble_eq_true rfl), (Nat.le_of_ble_eq_true rfl)⟩ dL_isStep_125 (fun H locs hP hS => ?_)
  change W p l e _ s m _ below meth c H locs 0 0 _ (F0 m 128 ls [.int r5, .int (x4 >>> ((3 : Int32) &&& 31))])
  refine lv_if_ne (tgt := 136) hx hb dL_isStep_128 (by decide) (fun c9 => ?_) (fun c9 => ?_)
  · rw [if_neg c9] at h
    refine lv_bipush (v := 6) hx hb dL_isStep_136 (by decide) ?_
    obtain ⟨r10, M11, N13, e12, h⟩ := xm_b3_s h
    refine xm_callS C hP hS [.int (x4 >>> ((3 : Int32) &&& 31)), .int 6] [] (c_L_up hD n M6 N8 (x4 >>> ((3 : Int32) &&& 31)) 6 r10 M11 N13 e12) k_L_17 rfl rfl ⟨(Nat.le_of_ble_eq_true rfl), (Nat.le_of_ble_eq_true rfl)⟩ hl.1 (Nat.le_of_ble_eq_true rfl) ⟨(Nat.le_of_ble_eq_true rfl), (Nat.le_of_ble_eq_true rfl)⟩ dL_isStep_138 (fun H locs hP hS => ?_)
    change W p l e _ s m _ below meth c H locs 0 0 _ (F0 m 141 ls [.int r10])
    refine lv_istore (lv' := [(9, .int r10), (8, .int (((97 : Int32)) + r1)), (0, .ref (a 0)), (1, .ref (bb 0)), (3, .int x3), (4, .int x4), (5, .int x5), (6, .int x6), (7, .int x7)]) hx hb dL_isStep_141 hl (by decide) rfl (fun ls hl => ?_)
    exact t_L_isStep_143 C n M11 N13 x3 x5 x6 x7 (((97 : Int32)) + r1) r10 r M' N' h _ _ _ hP hS (lv_sub hl [2, 3, 4, 6, 7, 8, 1, 0] rfl)
  · rw [if_pos c9] at h
    refine lv_bipush (v := 50) hx hb dL_isStep_131 (by decide) ?_
    refine lv_goto (tgt := 138) hx hb dL_isStep_133 (by decide) ?_
    obtain ⟨r14, M15, N17, e16, h⟩ := xm_b3_s h
    refine xm_callS C hP hS [.int (x4 >>> ((3 : Int32) &&& 31)), .int 50] [] (c_L_up hD n M6 N8 (x4 >>> ((3 : Int32) &&& 31)) 50 r14 M15 N17 e16) k_L_17 rfl rfl ⟨(Nat.le_of_ble_eq_true rfl), (Nat.le_of_ble_eq_true rfl)⟩ hl.1 (Nat.le_of_ble_eq_true rfl) ⟨(Nat.le_of_ble_eq_true rfl), (Nat.le_of_ble_eq_true rfl)⟩ dL_isStep_138 (fun H locs hP hS => ?_)
    change W p l e _ s m _ below meth c H locs 0 0 _ (F0 m 141 ls [.int r14])
    refine lv_istore (lv' := [(9, .int r14), (8, .int (((97 : Int32)) + r1)), (0, .ref (a 0)), (1, .ref (bb 0)), (3, .int x3), (4, .int x4), (5, .int x5), (6, .int x6), (7, .int x7)]) hx hb dL_isStep_141 hl (by decide) rfl (fun ls hl => ?_)
    exact t_L_isStep_143 C n M15 N17 x3 x5 x6 x7 (((97 : Int32)) + r1) r14 r M' N' h _ _ _ hP hS (lv_sub hl [2, 3, 4, 6, 7, 8, 1, 0] rfl)
def f_L_isStep_513 (n : Nat) (M N : xm_M) (x8 : Int32) (x9 : Int32) (x10 : Int32) (x11 : Int32) : Option (Int32 × xm_M × xm_M) := if x10 < x9 then some (1, M, N) else xm_b2 (f_X6_pattern n M x8 4) (fun r2 M3 => if x11 < r2 then some (0, M3, N) else some (1, M3, N))
set_option maxHeartbeats 4000000 in
set_option maxRecDepth 100000 in
theorem t_L_isStep_513 {l : Launch} {p : Program} {e : Env} {s : State} {m : MethodId} {args : Array Value} {below : List Frame} {meth : Method} {c : Code} {E : xm_E} {a : Nat → Nat} {bb : Nat → Nat} (C : xm_C E (xj (xv E a) (xv E bb)) p s m args meth c RL cL_isStep 14 (some .boolean)) (n : Nat) (M N : xm_M) (x8 : Int32) (x9 : Int32) (x10 : Int32) (x11 : Int32) (r : Int32) (M' N' : xm_M) : f_L_isStep_513 n M N x8 x9 x10 x11 = some (r, M', N') → ∀ (H : Heap) (locs : List Loc) (ls : Array Slot), va_P E.1 vwCl (xm_w (xj (xv E a) (xv E bb)) (xk 120 M N)) H → va_S (xm_A (xj (xv E a) (xv E bb)) s.heap.size) s.heap H locs → lv_has ls 14 [(0, .ref (a 0)), (8, .int x8), (9, .int x9), (10, .int x10), (11, .int x11)] → W p l e { frames := 10, cells := 0, slots := 0, locals := 247 } s m args below meth c H locs 0 0 (MQ below (xm_Q E (xj (xv E a) (xv E bb)) (xk 120 M' N') s.heap.size (some r)) args s 0 0 (xm_A (xj (xv E a) (xv E bb)) s.heap.size)) (F0 m 513 ls []) := by
  have C9 := C
  obtain ⟨hx, hb, hml, hown, hts, hr, hlk, hD, hK, hS9⟩ := C9
  have hDo := xj_D1 hD
  have hDp := xj_D2 hD
  intro h H locs ls hP hS hl
  unfold f_L_isStep_513 at h
  refine lv_iload hx hb dL_isStep_513 (lv_at hl 2 rfl) ?_
  refine lv_iload hx hb dL_isStep_515 (lv_at hl 3 rfl) ?_
  refine lv_icmp_gt (tgt := 532) hx hb dL_isStep_517 (by decide) (fun c1 => ?_) (fun c1 => ?_)
  · rw [if_pos c1] at h
    refine lv_iconst (v := 1) hx hb dL_isStep_532 (by decide) ?_
    refine lv_goto (tgt := 537) hx hb dL_isStep_533 (by decide) ?_
    obtain ⟨rfl, rfl, rfl⟩ := xm_p3 h
    exact lm_retZ C hP hS (by rfl) dL_isStep_537
  · rw [if_neg c1] at h
    refine lv_aload_n hx hb dL_isStep_520 rfl (lv_at hl 0 rfl) ?_
    refine lv_iload hx hb dL_isStep_521 (lv_at hl 1 rfl) ?_
    refine lv_iconst (v := 4) hx hb dL_isStep_523 (by decide) ?_
    obtain ⟨r2, M3, e4, h⟩ := xm_b2_s h
    refine lm_o C hP hS [.int x8, .int 4] [] (c_X6_pattern hDo n M x8 4 r2 M3 e4) k_L_54 rfl rfl rfl ⟨(Nat.le_of_ble_eq_true rfl), (Nat.le_of_ble_eq_true rfl)⟩ hl.1 (Nat.le_of_ble_eq_true rfl) ⟨(Nat.le_of_ble_eq_true rfl), (Nat.le_of_ble_eq_true rfl)⟩ dL_isStep_524 (fun H locs hP hS => ?_)
    change W p l e _ s m _ below meth c H locs 0 0 _ (F0 m 527 ls [.int r2])
    refine lv_iload hx hb dL_isStep_527 (lv_at hl 4 rfl) ?_
    refine lv_icmp_gt (tgt := 536) hx hb dL_isStep_529 (by decide) (fun c5 => ?_) (fun c5 => ?_)
    · rw [if_pos c5] at h
      refine lv_iconst (v := 0) hx hb dL_isStep_536 (by decide) ?_
      obtain ⟨rfl, rfl, rfl⟩ := xm_p3 h
      exact lm_retZ C hP hS (by rfl) dL_isStep_537
    · rw [if_neg c5] at h
      refine lv_iconst (v := 1) hx hb dL_isStep_532 (by decide) ?_
      refine lv_goto (tgt := 537) hx hb dL_isStep_533 (by decide) ?_
      obtain ⟨rfl, rfl, rfl⟩ := xm_p3 h
      exact lm_retZ C hP hS (by rfl) dL_isStep_537
def f_L_isStep_565 (n : Nat) (M N : xm_M) (x5 : Int32) (x6 : Int32) (x8 : Int32) : Option (Int32 × xm_M × xm_M) := xm_b2 (f_X6_forget n M x8) (fun r1 M2 => xm_b2 (f_X6_forget n N x8) (fun r4 M5 => if r1 = r4 then xm_b2 (f_X6_count n M2 0) (fun r8 M9 => if (0 : Int32) ≤ r1 then if r8 = (x5 - r1) then xm_b2 (f_X6_count n M9 3) (fun r13 M14 => if r13 = x6 then some (1, M14, M5) else some (0, M14, M5)) else some (0, M9, M5) else if r8 = x5 then xm_b2 (f_X6_count n M9 3) (fun r18 M19 => if r18 = x6 then some (1, M19, M5) else some (0, M19, M5)) else some (0, M9, M5)) else some (0, M2, M5)))
set_option maxHeartbeats 4000000 in
set_option maxRecDepth 100000 in
theorem t_L_isStep_565 {l : Launch} {p : Program} {e : Env} {s : State} {m : MethodId} {args : Array Value} {below : List Frame} {meth : Method} {c : Code} {E : xm_E} {a : Nat → Nat} {bb : Nat → Nat} (C : xm_C E (xj (xv E a) (xv E bb)) p s m args meth c RL cL_isStep 14 (some .boolean)) (n : Nat) (M N : xm_M) (x5 : Int32) (x6 : Int32) (x8 : Int32) (r : Int32) (M' N' : xm_M) : f_L_isStep_565 n M N x5 x6 x8 = some (r, M', N') → ∀ (H : Heap) (locs : List Loc) (ls : Array Slot), va_P E.1 vwCl (xm_w (xj (xv E a) (xv E bb)) (xk 120 M N)) H → va_S (xm_A (xj (xv E a) (xv E bb)) s.heap.size) s.heap H locs → lv_has ls 14 [(0, .ref (a 0)), (1, .ref (bb 0)), (5, .int x5), (6, .int x6), (8, .int x8)] → W p l e { frames := 10, cells := 0, slots := 0, locals := 247 } s m args below meth c H locs 0 0 (MQ below (xm_Q E (xj (xv E a) (xv E bb)) (xk 120 M' N') s.heap.size (some r)) args s 0 0 (xm_A (xj (xv E a) (xv E bb)) s.heap.size)) (F0 m 565 ls []) := by
  have C9 := C
  obtain ⟨hx, hb, hml, hown, hts, hr, hlk, hD, hK, hS9⟩ := C9
  have hDo := xj_D1 hD
  have hDp := xj_D2 hD
  intro h H locs ls hP hS hl
  unfold f_L_isStep_565 at h
  refine lv_aload_n hx hb dL_isStep_565 rfl (lv_at hl 0 rfl) ?_
  refine lv_iload hx hb dL_isStep_566 (lv_at hl 4 rfl) ?_
  obtain ⟨r1, M2, e3, h⟩ := xm_b2_s h
  refine lm_o C hP hS [.int x8] [] (c_X6_forget hDo n M x8 r1 M2 e3) k_L_74 rfl rfl rfl ⟨(Nat.le_of_ble_eq_true rfl), (Nat.le_of_ble_eq_true rfl)⟩ hl.1 (Nat.le_of_ble_eq_true rfl) ⟨(Nat.le_of_ble_eq_true rfl), (Nat.le_of_ble_eq_true rfl)⟩ dL_isStep_568 (fun H locs hP hS => ?_)
  change W p l e _ s m _ below meth c H locs 0 0 _ (F0 m 571 ls [.int r1])
  refine lv_istore (lv' := [(9, .int r1), (0, .ref (a 0)), (1, .ref (bb 0)), (5, .int x5), (6, .int x6), (8, .int x8)]) hx hb dL_isStep_571 hl (by decide) rfl (fun ls hl => ?_)
  refine lv_iload hx hb dL_isStep_573 (lv_at hl 0 rfl) ?_
  refine lv_aload_n hx hb dL_isStep_575 rfl (lv_at hl 2 rfl) ?_
  refine lv_iload hx hb dL_isStep_576 (lv_at hl 5 rfl) ?_
  obtain ⟨r4, M5, e6, h⟩ := xm_b2_s h
  refine lm_p C hP hS [.int x8] [.int r1] (c_X6_forget hDp n N x8 r4 M5 e6) k_L_74 rfl rfl rfl ⟨(Nat.le_of_ble_eq_true rfl), (Nat.le_of_ble_eq_true rfl)⟩ hl.1 (Nat.le_of_ble_eq_true rfl) ⟨(Nat.le_of_ble_eq_true rfl), (Nat.le_of_ble_eq_true rfl)⟩ dL_isStep_578 (fun H locs hP hS => ?_)
  change W p l e _ s m _ below meth c H locs 0 0 _ (F0 m 581 ls [.int r4, .int r1])
  refine lv_icmp_ne (tgt := 621) hx hb dL_isStep_581 (by decide) (fun c7 => ?_) (fun c7 => ?_)
  · rw [if_neg c7] at h
    refine lv_iconst (v := 0) hx hb dL_isStep_621 (by decide) ?_
    obtain ⟨rfl, rfl, rfl⟩ := xm_p3 h
    exact lm_retZ C hP hS (by rfl) dL_isStep_622
  · rw [if_pos c7] at h
    refine lv_aload_n hx hb dL_isStep_584 rfl (lv_at hl 1 rfl) ?_
    refine lv_iconst (v := 0) hx hb dL_isStep_585 (by decide) ?_
    obtain ⟨r8, M9, e10, h⟩ := xm_b2_s h
    refine lm_o C hP hS [.int 0] [] (c_X6_count hDo n M2 0 r8 M9 e10) k_L_47 rfl rfl rfl ⟨(Nat.le_of_ble_eq_true rfl), (Nat.le_of_ble_eq_true rfl)⟩ hl.1 (Nat.le_of_ble_eq_true rfl) ⟨(Nat.le_of_ble_eq_true rfl), (Nat.le_of_ble_eq_true rfl)⟩ dL_isStep_586 (fun H locs hP hS => ?_)
    change W p l e _ s m _ below meth c H locs 0 0 _ (F0 m 589 ls [.int r8])
    refine lv_iload hx hb dL_isStep_589 (lv_at hl 0 rfl) ?_
    refine lv_if_ge (tgt := 599) hx hb dL_isStep_591 (by decide) (fun c11 => ?_) (fun c11 => ?_)
    · rw [if_pos c11] at h
      refine lv_iload hx hb dL_isStep_599 (lv_at hl 3 rfl) ?_
      refine lv_iload hx hb dL_isStep_601 (lv_at hl 0 rfl) ?_
      refine lv_isub hx hb dL_isStep_603 ?_
      refine lv_icmp_ne (tgt := 621) hx hb dL_isStep_604 (by decide) (fun c12 => ?_) (fun c12 => ?_)
      · rw [if_neg c12] at h
        refine lv_iconst (v := 0) hx hb dL_isStep_621 (by decide) ?_
        obtain ⟨rfl, rfl, rfl⟩ := xm_p3 h
        exact lm_retZ C hP hS (by rfl) dL_isStep_622
      · rw [if_pos c12] at h
        refine lv_aload_n hx hb dL_isStep_607 rfl (lv_at hl 1 rfl) ?_
        refine lv_iconst (v := 3) hx hb dL_isStep_608 (by decide) ?_
        obtain ⟨r13, M14, e15, h⟩ := xm_b2_s h
        refine lm_o C hP hS [.int 3] [] (c_X6_count hDo n M9 3 r13 M14 e15) k_L_47 rfl rfl rfl ⟨(Nat.le_of_ble_eq_true rfl), (Nat.le_of_ble_eq_true rfl)⟩ hl.1 (Nat.le_of_ble_eq_true rfl) ⟨(Nat.le_of_ble_eq_true rfl), (Nat.le_of_ble_eq_true rfl)⟩ dL_isStep_609 (fun H locs hP hS => ?_)
        change W p l e _ s m _ below meth c H locs 0 0 _ (F0 m 612 ls [.int r13])
        refine lv_iload hx hb dL_isStep_612 (lv_at hl 4 rfl) ?_
        refine lv_icmp_ne (tgt := 621) hx hb dL_isStep_614 (by decide) (fun c16 => ?_) (fun c16 => ?_)
        · rw [if_neg c16] at h
          refine lv_iconst (v := 0) hx hb dL_isStep_621 (by decide) ?_
          obtain ⟨rfl, rfl, rfl⟩ := xm_p3 h
          exact lm_retZ C hP hS (by rfl) dL_isStep_622
        · rw [if_pos c16] at h
          refine lv_iconst (v := 1) hx hb dL_isStep_617 (by decide) ?_
          refine lv_goto (tgt := 622) hx hb dL_isStep_618 (by decide) ?_
          obtain ⟨rfl, rfl, rfl⟩ := xm_p3 h
          exact lm_retZ C hP hS (by rfl) dL_isStep_622
    · rw [if_neg c11] at h
      refine lv_iload hx hb dL_isStep_594 (lv_at hl 3 rfl) ?_
      refine lv_goto (tgt := 604) hx hb dL_isStep_596 (by decide) ?_
      refine lv_icmp_ne (tgt := 621) hx hb dL_isStep_604 (by decide) (fun c17 => ?_) (fun c17 => ?_)
      · rw [if_neg c17] at h
        refine lv_iconst (v := 0) hx hb dL_isStep_621 (by decide) ?_
        obtain ⟨rfl, rfl, rfl⟩ := xm_p3 h
        exact lm_retZ C hP hS (by rfl) dL_isStep_622
      · rw [if_pos c17] at h
        refine lv_aload_n hx hb dL_isStep_607 rfl (lv_at hl 1 rfl) ?_
        refine lv_iconst (v := 3) hx hb dL_isStep_608 (by decide) ?_
        obtain ⟨r18, M19, e20, h⟩ := xm_b2_s h
        refine lm_o C hP hS [.int 3] [] (c_X6_count hDo n M9 3 r18 M19 e20) k_L_47 rfl rfl rfl ⟨(Nat.le_of_ble_eq_true rfl), (Nat.le_of_ble_eq_true rfl)⟩ hl.1 (Nat.le_of_ble_eq_true rfl) ⟨(Nat.le_of_ble_eq_true rfl), (Nat.le_of_ble_eq_true rfl)⟩ dL_isStep_609 (fun H locs hP hS => ?_)
        change W p l e _ s m _ below meth c H locs 0 0 _ (F0 m 612 ls [.int r18])
        refine lv_iload hx hb dL_isStep_612 (lv_at hl 4 rfl) ?_
        refine lv_icmp_ne (tgt := 621) hx hb dL_isStep_614 (by decide) (fun c21 => ?_) (fun c21 => ?_)
        · rw [if_neg c21] at h
          refine lv_iconst (v := 0) hx hb dL_isStep_621 (by decide) ?_
          obtain ⟨rfl, rfl, rfl⟩ := xm_p3 h
          exact lm_retZ C hP hS (by rfl) dL_isStep_622
        · rw [if_pos c21] at h
          refine lv_iconst (v := 1) hx hb dL_isStep_617 (by decide) ?_
          refine lv_goto (tgt := 622) hx hb dL_isStep_618 (by decide) ?_
          obtain ⟨rfl, rfl, rfl⟩ := xm_p3 h
          exact lm_retZ C hP hS (by rfl) dL_isStep_622
def f_L_isStep (n : Nat) (M N : xm_M) (x2 : Int32) (x3 : Int32) : Option (Int32 × xm_M × xm_M) := xm_b2 (f_X6_count n M 0) (fun r1 M2 => xm_b2 (f_X6_count n M2 3) (fun r4 M5 => xm_b2 (f_X6_count n M5 5) (fun r7 M8 => xm_b3 (f_L_up n M8 N x2 15) (fun r10 M11 N13 => if r10 = 0 then f_L_isStep_104 n M11 N13 x3 (x2 >>> ((4 : Int32) &&& 31)) r1 r4 r7 else if r10 = 1 then f_L_isStep_104 n M11 N13 x3 (x2 >>> ((4 : Int32) &&& 31)) r1 r4 r7 else if r10 = 2 then f_L_isStep_104 n M11 N13 x3 (x2 >>> ((4 : Int32) &&& 31)) r1 r4 r7 else if r10 = 3 then f_L_isStep_104 n M11 N13 x3 (x2 >>> ((4 : Int32) &&& 31)) r1 r4 r7 else if r10 = 4 then f_L_isStep_104 n M11 N13 x3 (x2 >>> ((4 : Int32) &&& 31)) r1 r4 r7 else if r10 = 5 then f_L_isStep_104 n M11 N13 x3 (x2 >>> ((4 : Int32) &&& 31)) r1 r4 r7 else if r10 = 6 then f_L_isStep_104 n M11 N13 x3 (x2 >>> ((4 : Int32) &&& 31)) r1 r4 r7 else if r10 = 7 then xm_b3 (f_L_isPattern n M11 N13 (x2 >>> ((4 : Int32) &&& 31)) x3) (fun r22 M23 N25 => xm_ck (xm_z r22) (some (r22, M23, N25))) else if r10 = 8 then xm_b3 (f_L_isPattern n M11 N13 (x2 >>> ((4 : Int32) &&& 31)) x3) (fun r28 M29 N31 => xm_ck (xm_z r28) (some (r28, M29, N31))) else if r10 = 9 then xm_b3 (f_L_isPattern n M11 N13 (x2 >>> ((4 : Int32) &&& 31)) x3) (fun r34 M35 N37 => xm_ck (xm_z r34) (some (r34, M35, N37))) else if r10 = 10 then xm_b2 (f_X6_count n M11 1) (fun r40 M41 => xm_b3 (f_L_up n M41 N13 (x2 >>> ((4 : Int32) &&& 31)) (r40 + 1)) (fun r43 M44 N46 => xm_b2 (f_X6_count n M44 1) (fun r47 M48 => xm_b2 (f_X6_dropPattern n M48 r43) (fun r50 M51 => xm_b2 (f_X6_dropPattern n N46 r43) (fun r53 M54 => if r50 = r53 then if r43 = r47 then if r50 = ((-1)) then some (1, M51, M54) else some (0, M51, M54) else if r50 = (r47 - 1) then some (1, M51, M54) else some (0, M51, M54) else some (0, M51, M54)))))) else if r10 = 11 then xm_b2 (f_X6_count n M11 1) (fun r61 M62 => xm_b3 (f_L_up n M62 N13 (x2 >>> ((4 : Int32) &&& 31)) (r61 + 1)) (fun r64 M65 N67 => xm_b3 (f_L_up n M65 N67 x3 100) (fun r68 M69 N71 => xm_b2 (f_X6_pattern n M69 r64 0) (fun r72 M73 => xm_b2 (f_X6_pattern n M73 r64 4) (fun r75 M76 => xm_b2 (f_X6_setWindow n M76 r64 (((1 : Int32)) + r68)) (fun r78 M79 => xm_b2 (f_X6_setWindow n N71 r64 (((1 : Int32)) + r68)) (fun r81 M82 => if r78 = r81 then if (0 : Int32) ≤ r72 then if r72 = (((1 : Int32)) + r68) then if r78 = ((-5)) then if (((1 : Int32)) + r68) < r72 then f_L_isStep_513 n M79 M82 r64 (((1 : Int32)) + r68) r72 r75 else xm_b2 (f_X6_pattern n M79 r64 4) (fun r95 M96 => if r95 < r75 then some (0, M96, M82) else f_L_isStep_513 n M96 M82 r64 (((1 : Int32)) + r68) r72 r75) else some (0, M79, M82) else if r78 = r72 then if (((1 : Int32)) + r68) < r72 then f_L_isStep_513 n M79 M82 r64 (((1 : Int32)) + r68) r72 r75 else xm_b2 (f_X6_pattern n M79 r64 4) (fun r89 M90 => if r89 < r75 then some (0, M90, M82) else f_L_isStep_513 n M90 M82 r64 (((1 : Int32)) + r68) r72 r75) else some (0, M79, M82) else if r78 = ((-1)) then some (1, M79, M82) else some (0, M79, M82) else some (0, M79, M82)))))))) else if r10 = 12 then if (30 : Int32) ≤ r4 then xm_b3 (f_L_up n M11 N13 x3 30) (fun r102 M103 N105 => f_L_isStep_565 n M103 N105 r1 r4 (r4 - r102)) else xm_b3 (f_L_up n M11 N13 x3 30) (fun r106 M107 N109 => f_L_isStep_565 n M107 N109 r1 r4 r106) else if r10 = 13 then xm_b3 (f_L_up n M11 N13 x3 50) (fun r111 M112 N114 => xm_b2 (f_X6_setLateness n M112 r111) (fun r115 M116 => xm_b2 (f_X6_setLateness n N114 r111) (fun r118 M119 => if r115 = r118 then xm_b2 (f_X6_count n M116 5) (fun r122 M123 => if r122 = r111 then xm_b2 (f_X6_count n M123 4) (fun r126 M127 => if r4 ≤ r111 then if r126 = 0 then some (1, M127, M119) else some (0, M127, M119) else if r126 = (r4 - r111) then some (1, M127, M119) else some (0, M127, M119)) else some (0, M123, M119)) else some (0, M116, M119)))) else xm_b2 (f_X6_count n M11 7) (fun r132 M133 => if r132 = 0 then some (1, M133, N13) else xm_b2 (f_X6_undo n M133) (fun r136 M137 => xm_b2 (f_X6_undo n N13) (fun r139 M140 => if r136 = r139 then some (1, M137, M140) else some (0, M137, M140))))))))
set_option maxHeartbeats 4000000 in
set_option maxRecDepth 100000 in
theorem t_L_isStep_0 {l : Launch} {p : Program} {e : Env} {s : State} {m : MethodId} {args : Array Value} {below : List Frame} {meth : Method} {c : Code} {E : xm_E} {a : Nat → Nat} {bb : Nat → Nat} (C : xm_C E (xj (xv E a) (xv E bb)) p s m args meth c RL cL_isStep 14 (some .boolean)) (n : Nat) (M N : xm_M) (x2 : Int32) (x3 : Int32) (r : Int32) (M' N' : xm_M) : f_L_isStep n M N x2 x3 = some (r, M', N') → ∀ (H : Heap) (locs : List Loc) (ls : Array Slot), va_P E.1 vwCl (xm_w (xj (xv E a) (xv E bb)) (xk 120 M N)) H → va_S (xm_A (xj (xv E a) (xv E bb)) s.heap.size) s.heap H locs → lv_has ls 14 [(0, .ref (a 0)), (1, .ref (bb 0)), (2, .int x2), (3, .int x3)] → W p l e { frames := 10, cells := 0, slots := 0, locals := 247 } s m args below meth c H locs 0 0 (MQ below (xm_Q E (xj (xv E a) (xv E bb)) (xk 120 M' N') s.heap.size (some r)) args s 0 0 (xm_A (xj (xv E a) (xv E bb)) s.heap.size)) (F0 m 0 ls []) := by
  have C9 := C
  obtain ⟨hx, hb, hml, hown, hts, hr, hlk, hD, hK, hS9⟩ := C9
  have hDo := xj_D1 hD
  have hDp := xj_D2 hD
  intro h H locs ls hP hS hl
  unfold f_L_isStep at h
  refine lv_iload_n hx hb dL_isStep_0 rfl (lv_at hl 2 rfl) ?_
  refine lv_iconst (v := 4) hx hb dL_isStep_1 (by decide) ?_
  refine lv_ishr hx hb dL_isStep_2 ?_
  refine lv_istore (lv' := [(4, .int (x2 >>> ((4 : Int32) &&& 31))), (0, .ref (a 0)), (1, .ref (bb 0)), (2, .int x2), (3, .int x3)]) hx hb dL_isStep_3 hl (by decide) rfl (fun ls hl => ?_)
  refine lv_aload_n hx hb dL_isStep_5 rfl (lv_at hl 1 rfl) ?_
  refine lv_iconst (v := 0) hx hb dL_isStep_6 (by decide) ?_
  obtain ⟨r1, M2, e3, h⟩ := xm_b2_s h
  refine lm_o C hP hS [.int 0] [] (c_X6_count hDo n M 0 r1 M2 e3) k_L_47 rfl rfl rfl ⟨(Nat.le_of_ble_eq_true rfl), (Nat.le_of_ble_eq_true rfl)⟩ hl.1 (Nat.le_of_ble_eq_true rfl) ⟨(Nat.le_of_ble_eq_true rfl), (Nat.le_of_ble_eq_true rfl)⟩ dL_isStep_7 (fun H locs hP hS => ?_)
  change W p l e _ s m _ below meth c H locs 0 0 _ (F0 m 10 ls [.int r1])
  refine lv_istore (lv' := [(5, .int r1), (4, .int (x2 >>> ((4 : Int32) &&& 31))), (0, .ref (a 0)), (1, .ref (bb 0)), (2, .int x2), (3, .int x3)]) hx hb dL_isStep_10 hl (by decide) rfl (fun ls hl => ?_)
  refine lv_aload_n hx hb dL_isStep_12 rfl (lv_at hl 2 rfl) ?_
  refine lv_iconst (v := 3) hx hb dL_isStep_13 (by decide) ?_
  obtain ⟨r4, M5, e6, h⟩ := xm_b2_s h
  refine lm_o C hP hS [.int 3] [] (c_X6_count hDo n M2 3 r4 M5 e6) k_L_47 rfl rfl rfl ⟨(Nat.le_of_ble_eq_true rfl), (Nat.le_of_ble_eq_true rfl)⟩ hl.1 (Nat.le_of_ble_eq_true rfl) ⟨(Nat.le_of_ble_eq_true rfl), (Nat.le_of_ble_eq_true rfl)⟩ dL_isStep_14 (fun H locs hP hS => ?_)
  change W p l e _ s m _ below meth c H locs 0 0 _ (F0 m 17 ls [.int r4])
  refine lv_istore (lv' := [(6, .int r4), (5, .int r1), (4, .int (x2 >>> ((4 : Int32) &&& 31))), (0, .ref (a 0)), (1, .ref (bb 0)), (2, .int x2), (3, .int x3)]) hx hb dL_isStep_17 hl (by decide) rfl (fun ls hl => ?_)
  refine lv_aload_n hx hb dL_isStep_19 rfl (lv_at hl 3 rfl) ?_
  refine lv_iconst (v := 5) hx hb dL_isStep_20 (by decide) ?_
  obtain ⟨r7, M8, e9, h⟩ := xm_b2_s h
  refine lm_o C hP hS [.int 5] [] (c_X6_count hDo n M5 5 r7 M8 e9) k_L_47 rfl rfl rfl ⟨(Nat.le_of_ble_eq_true rfl), (Nat.le_of_ble_eq_true rfl)⟩ hl.1 (Nat.le_of_ble_eq_true rfl) ⟨(Nat.le_of_ble_eq_true rfl), (Nat.le_of_ble_eq_true rfl)⟩ dL_isStep_21 (fun H locs hP hS => ?_)
  change W p l e _ s m _ below meth c H locs 0 0 _ (F0 m 24 ls [.int r7])
  refine lv_istore (lv' := [(7, .int r7), (6, .int r4), (5, .int r1), (4, .int (x2 >>> ((4 : Int32) &&& 31))), (0, .ref (a 0)), (1, .ref (bb 0)), (2, .int x2), (3, .int x3)]) hx hb dL_isStep_24 hl (by decide) rfl (fun ls hl => ?_)
  refine lv_iload_n hx hb dL_isStep_26 rfl (lv_at hl 6 rfl) ?_
  refine lv_bipush (v := 15) hx hb dL_isStep_27 (by decide) ?_
  obtain ⟨r10, M11, N13, e12, h⟩ := xm_b3_s h
  refine xm_callS C hP hS [.int x2, .int 15] [] (c_L_up hD n M8 N x2 15 r10 M11 N13 e12) k_L_17 rfl rfl ⟨(Nat.le_of_ble_eq_true rfl), (Nat.le_of_ble_eq_true rfl)⟩ hl.1 (Nat.le_of_ble_eq_true rfl) ⟨(Nat.le_of_ble_eq_true rfl), (Nat.le_of_ble_eq_true rfl)⟩ dL_isStep_29 (fun H locs hP hS => ?_)
  change W p l e _ s m _ below meth c H locs 0 0 _ (F0 m 32 ls [.int r10])
  by_cases c14 : r10 = 0
  · rw [if_pos c14] at h
    refine lv_tableIn (tgt := 104) hx hb dL_isStep_32 (by rw [c14]; decide) (by rw [c14]; decide) (by rw [c14]; rfl) (by decide) ?_
    exact t_L_isStep_104 C n M11 N13 x3 (x2 >>> ((4 : Int32) &&& 31)) r1 r4 r7 r M' N' h _ _ _ hP hS (lv_sub hl [4, 5, 7, 3, 2, 1, 0] rfl)
  · rw [if_neg c14] at h
    by_cases c15 : r10 = 1
    · rw [if_pos c15] at h
      refine lv_tableIn (tgt := 104) hx hb dL_isStep_32 (by rw [c15]; decide) (by rw [c15]; decide) (by rw [c15]; rfl) (by decide) ?_
      exact t_L_isStep_104 C n M11 N13 x3 (x2 >>> ((4 : Int32) &&& 31)) r1 r4 r7 r M' N' h _ _ _ hP hS (lv_sub hl [4, 5, 7, 3, 2, 1, 0] rfl)
    · rw [if_neg c15] at h
      by_cases c16 : r10 = 2
      · rw [if_pos c16] at h
        refine lv_tableIn (tgt := 104) hx hb dL_isStep_32 (by rw [c16]; decide) (by rw [c16]; decide) (by rw [c16]; rfl) (by decide) ?_
        exact t_L_isStep_104 C n M11 N13 x3 (x2 >>> ((4 : Int32) &&& 31)) r1 r4 r7 r M' N' h _ _ _ hP hS (lv_sub hl [4, 5, 7, 3, 2, 1, 0] rfl)
      · rw [if_neg c16] at h
        by_cases c17 : r10 = 3
        · rw [if_pos c17] at h
          refine lv_tableIn (tgt := 104) hx hb dL_isStep_32 (by rw [c17]; decide) (by rw [c17]; decide) (by rw [c17]; rfl) (by decide) ?_
          exact t_L_isStep_104 C n M11 N13 x3 (x2 >>> ((4 : Int32) &&& 31)) r1 r4 r7 r M' N' h _ _ _ hP hS (lv_sub hl [4, 5, 7, 3, 2, 1, 0] rfl)
        · rw [if_neg c17] at h
          by_cases c18 : r10 = 4
          · rw [if_pos c18] at h
            refine lv_tableIn (tgt := 104) hx hb dL_isStep_32 (by rw [c18]; decide) (by rw [c18]; decide) (by rw [c18]; rfl) (by decide) ?_
            exact t_L_isStep_104 C n M11 N13 x3 (x2 >>> ((4 : Int32) &&& 31)) r1 r4 r7 r M' N' h _ _ _ hP hS (lv_sub hl [4, 5, 7, 3, 2, 1, 0] rfl)
          · rw [if_neg c18] at h
            by_cases c19 : r10 = 5
            · rw [if_pos c19] at h
              refine lv_tableIn (tgt := 104) hx hb dL_isStep_32 (by rw [c19]; decide) (by rw [c19]; decide) (by rw [c19]; rfl) (by decide) ?_
              exact t_L_isStep_104 C n M11 N13 x3 (x2 >>> ((4 : Int32) &&& 31)) r1 r4 r7 r M' N' h _ _ _ hP hS (lv_sub hl [4, 5, 7, 3, 2, 1, 0] rfl)
            · rw [if_neg c19] at h
              by_cases c20 : r10 = 6
              · rw [if_pos c20] at h
                refine lv_tableIn (tgt := 104) hx hb dL_isStep_32 (by rw [c20]; decide) (by rw [c20]; decide) (by rw [c20]; rfl) (by decide) ?_
                exact t_L_isStep_104 C n M11 N13 x3 (x2 >>> ((4 : Int32) &&& 31)) r1 r4 r7 r M' N' h _ _ _ hP hS (lv_sub hl [4, 5, 7, 3, 2, 1, 0] rfl)
              · rw [if_neg c20] at h
                by_cases c21 : r10 = 7
                · rw [if_pos c21] at h
                  refine lv_tableIn (tgt := 321) hx hb dL_isStep_32 (by rw [c21]; decide) (by rw [c21]; decide) (by rw [c21]; rfl) (by decide) ?_
                  refine lv_aload_n hx hb dL_isStep_321 rfl (lv_at hl 4 rfl) ?_
                  refine lv_aload_n hx hb dL_isStep_322 rfl (lv_at hl 5 rfl) ?_
                  refine lv_iload hx hb dL_isStep_323 (lv_at hl 3 rfl) ?_
                  refine lv_iload_n hx hb dL_isStep_325 rfl (lv_at hl 7 rfl) ?_
                  obtain ⟨r22, M23, N25, e24, h⟩ := xm_b3_s h
                  refine xm_callS C hP hS [.ref (a 0), .ref (bb 0), .int (x2 >>> ((4 : Int32) &&& 31)), .int x3] [] (c_L_isPattern hD n M11 N13 (x2 >>> ((4 : Int32) &&& 31)) x3 r22 M23 N25 e24) k_L_64 rfl rfl ⟨(Nat.le_of_ble_eq_true rfl), (Nat.le_of_ble_eq_true rfl)⟩ hl.1 (Nat.le_of_ble_eq_true rfl) ⟨(Nat.le_of_ble_eq_true rfl), (Nat.le_of_ble_eq_true rfl)⟩ dL_isStep_326 (fun H locs hP hS => ?_)
                  change W p l e _ s m _ below meth c H locs 0 0 _ (F0 m 329 ls [.int r22])
                  obtain ⟨z26, h⟩ := xm_ck_s h
                  obtain ⟨rfl, rfl, rfl⟩ := xm_p3 h
                  exact lm_retZ C hP hS (xm_z_s z26) dL_isStep_329
                · rw [if_neg c21] at h
                  by_cases c27 : r10 = 8
                  · rw [if_pos c27] at h
                    refine lv_tableIn (tgt := 321) hx hb dL_isStep_32 (by rw [c27]; decide) (by rw [c27]; decide) (by rw [c27]; rfl) (by decide) ?_
                    refine lv_aload_n hx hb dL_isStep_321 rfl (lv_at hl 4 rfl) ?_
                    refine lv_aload_n hx hb dL_isStep_322 rfl (lv_at hl 5 rfl) ?_
                    refine lv_iload hx hb dL_isStep_323 (lv_at hl 3 rfl) ?_
                    refine lv_iload_n hx hb dL_isStep_325 rfl (lv_at hl 7 rfl) ?_
                    obtain ⟨r28, M29, N31, e30, h⟩ := xm_b3_s h
                    refine xm_callS C hP hS [.ref (a 0), .ref (bb 0), .int (x2 >>> ((4 : Int32) &&& 31)), .int x3] [] (c_L_isPattern hD n M11 N13 (x2 >>> ((4 : Int32) &&& 31)) x3 r28 M29 N31 e30) k_L_64 rfl rfl ⟨(Nat.le_of_ble_eq_true rfl), (Nat.le_of_ble_eq_true rfl)⟩ hl.1 (Nat.le_of_ble_eq_true rfl) ⟨(Nat.le_of_ble_eq_true rfl), (Nat.le_of_ble_eq_true rfl)⟩ dL_isStep_326 (fun H locs hP hS => ?_)
                    change W p l e _ s m _ below meth c H locs 0 0 _ (F0 m 329 ls [.int r28])
                    obtain ⟨z32, h⟩ := xm_ck_s h
                    obtain ⟨rfl, rfl, rfl⟩ := xm_p3 h
                    exact lm_retZ C hP hS (xm_z_s z32) dL_isStep_329
                  · rw [if_neg c27] at h
                    by_cases c33 : r10 = 9
                    · rw [if_pos c33] at h
                      refine lv_tableIn (tgt := 321) hx hb dL_isStep_32 (by rw [c33]; decide) (by rw [c33]; decide) (by rw [c33]; rfl) (by decide) ?_
                      refine lv_aload_n hx hb dL_isStep_321 rfl (lv_at hl 4 rfl) ?_
                      refine lv_aload_n hx hb dL_isStep_322 rfl (lv_at hl 5 rfl) ?_
                      refine lv_iload hx hb dL_isStep_323 (lv_at hl 3 rfl) ?_
                      refine lv_iload_n hx hb dL_isStep_325 rfl (lv_at hl 7 rfl) ?_
                      obtain ⟨r34, M35, N37, e36, h⟩ := xm_b3_s h
                      refine xm_callS C hP hS [.ref (a 0), .ref (bb 0), .int (x2 >>> ((4 : Int32) &&& 31)), .int x3] [] (c_L_isPattern hD n M11 N13 (x2 >>> ((4 : Int32) &&& 31)) x3 r34 M35 N37 e36) k_L_64 rfl rfl ⟨(Nat.le_of_ble_eq_true rfl), (Nat.le_of_ble_eq_true rfl)⟩ hl.1 (Nat.le_of_ble_eq_true rfl) ⟨(Nat.le_of_ble_eq_true rfl), (Nat.le_of_ble_eq_true rfl)⟩ dL_isStep_326 (fun H locs hP hS => ?_)
                      change W p l e _ s m _ below meth c H locs 0 0 _ (F0 m 329 ls [.int r34])
                      obtain ⟨z38, h⟩ := xm_ck_s h
                      obtain ⟨rfl, rfl, rfl⟩ := xm_p3 h
                      exact lm_retZ C hP hS (xm_z_s z38) dL_isStep_329
                    · rw [if_neg c33] at h
                      by_cases c39 : r10 = 10
                      · rw [if_pos c39] at h
                        refine lv_tableIn (tgt := 330) hx hb dL_isStep_32 (by rw [c39]; decide) (by rw [c39]; decide) (by rw [c39]; rfl) (by decide) ?_
                        refine lv_iload hx hb dL_isStep_330 (lv_at hl 3 rfl) ?_
                        refine lv_aload_n hx hb dL_isStep_332 rfl (lv_at hl 4 rfl) ?_
                        refine lv_iconst (v := 1) hx hb dL_isStep_333 (by decide) ?_
                        obtain ⟨r40, M41, e42, h⟩ := xm_b2_s h
                        refine lm_o C hP hS [.int 1] [.int (x2 >>> ((4 : Int32) &&& 31))] (c_X6_count hDo n M11 1 r40 M41 e42) k_L_47 rfl rfl rfl ⟨(Nat.le_of_ble_eq_true rfl), (Nat.le_of_ble_eq_true rfl)⟩ hl.1 (Nat.le_of_ble_eq_true rfl) ⟨(Nat.le_of_ble_eq_true rfl), (Nat.le_of_ble_eq_true rfl)⟩ dL_isStep_334 (fun H locs hP hS => ?_)
                        change W p l e _ s m _ below meth c H locs 0 0 _ (F0 m 337 ls [.int r40, .int (x2 >>> ((4 : Int32) &&& 31))])
                        refine lv_iconst (v := 1) hx hb dL_isStep_337 (by decide) ?_
                        refine lv_iadd hx hb dL_isStep_338 ?_
                        obtain ⟨r43, M44, N46, e45, h⟩ := xm_b3_s h
                        refine xm_callS C hP hS [.int (x2 >>> ((4 : Int32) &&& 31)), .int (r40 + 1)] [] (c_L_up hD n M41 N13 (x2 >>> ((4 : Int32) &&& 31)) (r40 + 1) r43 M44 N46 e45) k_L_17 rfl rfl ⟨(Nat.le_of_ble_eq_true rfl), (Nat.le_of_ble_eq_true rfl)⟩ hl.1 (Nat.le_of_ble_eq_true rfl) ⟨(Nat.le_of_ble_eq_true rfl), (Nat.le_of_ble_eq_true rfl)⟩ dL_isStep_339 (fun H locs hP hS => ?_)
                        change W p l e _ s m _ below meth c H locs 0 0 _ (F0 m 342 ls [.int r43])
                        refine lv_istore (lv' := [(8, .int r43), (7, .int r7), (6, .int r4), (5, .int r1), (4, .int (x2 >>> ((4 : Int32) &&& 31))), (0, .ref (a 0)), (1, .ref (bb 0)), (2, .int x2), (3, .int x3)]) hx hb dL_isStep_342 hl (by decide) rfl (fun ls hl => ?_)
                        refine lv_aload_n hx hb dL_isStep_344 rfl (lv_at hl 5 rfl) ?_
                        refine lv_iconst (v := 1) hx hb dL_isStep_345 (by decide) ?_
                        obtain ⟨r47, M48, e49, h⟩ := xm_b2_s h
                        refine lm_o C hP hS [.int 1] [] (c_X6_count hDo n M44 1 r47 M48 e49) k_L_47 rfl rfl rfl ⟨(Nat.le_of_ble_eq_true rfl), (Nat.le_of_ble_eq_true rfl)⟩ hl.1 (Nat.le_of_ble_eq_true rfl) ⟨(Nat.le_of_ble_eq_true rfl), (Nat.le_of_ble_eq_true rfl)⟩ dL_isStep_346 (fun H locs hP hS => ?_)
                        change W p l e _ s m _ below meth c H locs 0 0 _ (F0 m 349 ls [.int r47])
                        refine lv_istore (lv' := [(9, .int r47), (8, .int r43), (7, .int r7), (6, .int r4), (5, .int r1), (4, .int (x2 >>> ((4 : Int32) &&& 31))), (0, .ref (a 0)), (1, .ref (bb 0)), (2, .int x2), (3, .int x3)]) hx hb dL_isStep_349 hl (by decide) rfl (fun ls hl => ?_)
                        refine lv_aload_n hx hb dL_isStep_351 rfl (lv_at hl 6 rfl) ?_
                        refine lv_iload hx hb dL_isStep_352 (lv_at hl 1 rfl) ?_
                        obtain ⟨r50, M51, e52, h⟩ := xm_b2_s h
                        refine lm_o C hP hS [.int r43] [] (c_X6_dropPattern hDo n M48 r43 r50 M51 e52) k_L_68 rfl rfl rfl ⟨(Nat.le_of_ble_eq_true rfl), (Nat.le_of_ble_eq_true rfl)⟩ hl.1 (Nat.le_of_ble_eq_true rfl) ⟨(Nat.le_of_ble_eq_true rfl), (Nat.le_of_ble_eq_true rfl)⟩ dL_isStep_354 (fun H locs hP hS => ?_)
                        change W p l e _ s m _ below meth c H locs 0 0 _ (F0 m 357 ls [.int r50])
                        refine lv_istore (lv' := [(10, .int r50), (9, .int r47), (8, .int r43), (7, .int r7), (6, .int r4), (5, .int r1), (4, .int (x2 >>> ((4 : Int32) &&& 31))), (0, .ref (a 0)), (1, .ref (bb 0)), (2, .int x2), (3, .int x3)]) hx hb dL_isStep_357 hl (by decide) rfl (fun ls hl => ?_)
                        refine lv_iload hx hb dL_isStep_359 (lv_at hl 0 rfl) ?_
                        refine lv_aload_n hx hb dL_isStep_361 rfl (lv_at hl 8 rfl) ?_
                        refine lv_iload hx hb dL_isStep_362 (lv_at hl 2 rfl) ?_
                        obtain ⟨r53, M54, e55, h⟩ := xm_b2_s h
                        refine lm_p C hP hS [.int r43] [.int r50] (c_X6_dropPattern hDp n N46 r43 r53 M54 e55) k_L_68 rfl rfl rfl ⟨(Nat.le_of_ble_eq_true rfl), (Nat.le_of_ble_eq_true rfl)⟩ hl.1 (Nat.le_of_ble_eq_true rfl) ⟨(Nat.le_of_ble_eq_true rfl), (Nat.le_of_ble_eq_true rfl)⟩ dL_isStep_364 (fun H locs hP hS => ?_)
                        change W p l e _ s m _ below meth c H locs 0 0 _ (F0 m 367 ls [.int r53, .int r50])
                        refine lv_icmp_ne (tgt := 394) hx hb dL_isStep_367 (by decide) (fun c56 => ?_) (fun c56 => ?_)
                        · rw [if_neg c56] at h
                          refine lv_iconst (v := 0) hx hb dL_isStep_394 (by decide) ?_
                          obtain ⟨rfl, rfl, rfl⟩ := xm_p3 h
                          exact lm_retZ C hP hS (by rfl) dL_isStep_395
                        · rw [if_pos c56] at h
                          refine lv_iload hx hb dL_isStep_370 (lv_at hl 0 rfl) ?_
                          refine lv_iload hx hb dL_isStep_372 (lv_at hl 2 rfl) ?_
                          refine lv_iload hx hb dL_isStep_374 (lv_at hl 1 rfl) ?_
                          refine lv_icmp_ne (tgt := 383) hx hb dL_isStep_376 (by decide) (fun c57 => ?_) (fun c57 => ?_)
                          · rw [if_neg c57] at h
                            refine lv_iload hx hb dL_isStep_383 (lv_at hl 1 rfl) ?_
                            refine lv_iconst (v := 1) hx hb dL_isStep_385 (by decide) ?_
                            refine lv_isub hx hb dL_isStep_386 ?_
                            refine lv_icmp_ne (tgt := 394) hx hb dL_isStep_387 (by decide) (fun c58 => ?_) (fun c58 => ?_)
                            · rw [if_neg c58] at h
                              refine lv_iconst (v := 0) hx hb dL_isStep_394 (by decide) ?_
                              obtain ⟨rfl, rfl, rfl⟩ := xm_p3 h
                              exact lm_retZ C hP hS (by rfl) dL_isStep_395
                            · rw [if_pos c58] at h
                              refine lv_iconst (v := 1) hx hb dL_isStep_390 (by decide) ?_
                              refine lv_goto (tgt := 395) hx hb dL_isStep_391 (by decide) ?_
                              obtain ⟨rfl, rfl, rfl⟩ := xm_p3 h
                              exact lm_retZ C hP hS (by rfl) dL_isStep_395
                          · rw [if_pos c57] at h
                            refine lv_iconst (v := (-1)) hx hb dL_isStep_379 (by decide) ?_
                            refine lv_goto (tgt := 387) hx hb dL_isStep_380 (by decide) ?_
                            refine lv_icmp_ne (tgt := 394) hx hb dL_isStep_387 (by decide) (fun c59 => ?_) (fun c59 => ?_)
                            · rw [if_neg c59] at h
                              refine lv_iconst (v := 0) hx hb dL_isStep_394 (by decide) ?_
                              obtain ⟨rfl, rfl, rfl⟩ := xm_p3 h
                              exact lm_retZ C hP hS (by rfl) dL_isStep_395
                            · rw [if_pos c59] at h
                              refine lv_iconst (v := 1) hx hb dL_isStep_390 (by decide) ?_
                              refine lv_goto (tgt := 395) hx hb dL_isStep_391 (by decide) ?_
                              obtain ⟨rfl, rfl, rfl⟩ := xm_p3 h
                              exact lm_retZ C hP hS (by rfl) dL_isStep_395
                      · rw [if_neg c39] at h
                        by_cases c60 : r10 = 11
                        · rw [if_pos c60] at h
                          refine lv_tableIn (tgt := 396) hx hb dL_isStep_32 (by rw [c60]; decide) (by rw [c60]; decide) (by rw [c60]; rfl) (by decide) ?_
                          refine lv_iload hx hb dL_isStep_396 (lv_at hl 3 rfl) ?_
                          refine lv_aload_n hx hb dL_isStep_398 rfl (lv_at hl 4 rfl) ?_
                          refine lv_iconst (v := 1) hx hb dL_isStep_399 (by decide) ?_
                          obtain ⟨r61, M62, e63, h⟩ := xm_b2_s h
                          refine lm_o C hP hS [.int 1] [.int (x2 >>> ((4 : Int32) &&& 31))] (c_X6_count hDo n M11 1 r61 M62 e63) k_L_47 rfl rfl rfl ⟨(Nat.le_of_ble_eq_true rfl), (Nat.le_of_ble_eq_true rfl)⟩ hl.1 (Nat.le_of_ble_eq_true rfl) ⟨(Nat.le_of_ble_eq_true rfl), (Nat.le_of_ble_eq_true rfl)⟩ dL_isStep_400 (fun H locs hP hS => ?_)
                          change W p l e _ s m _ below meth c H locs 0 0 _ (F0 m 403 ls [.int r61, .int (x2 >>> ((4 : Int32) &&& 31))])
                          refine lv_iconst (v := 1) hx hb dL_isStep_403 (by decide) ?_
                          refine lv_iadd hx hb dL_isStep_404 ?_
                          obtain ⟨r64, M65, N67, e66, h⟩ := xm_b3_s h
                          refine xm_callS C hP hS [.int (x2 >>> ((4 : Int32) &&& 31)), .int (r61 + 1)] [] (c_L_up hD n M62 N13 (x2 >>> ((4 : Int32) &&& 31)) (r61 + 1) r64 M65 N67 e66) k_L_17 rfl rfl ⟨(Nat.le_of_ble_eq_true rfl), (Nat.le_of_ble_eq_true rfl)⟩ hl.1 (Nat.le_of_ble_eq_true rfl) ⟨(Nat.le_of_ble_eq_true rfl), (Nat.le_of_ble_eq_true rfl)⟩ dL_isStep_405 (fun H locs hP hS => ?_)
                          change W p l e _ s m _ below meth c H locs 0 0 _ (F0 m 408 ls [.int r64])
                          refine lv_istore (lv' := [(8, .int r64), (7, .int r7), (6, .int r4), (5, .int r1), (4, .int (x2 >>> ((4 : Int32) &&& 31))), (0, .ref (a 0)), (1, .ref (bb 0)), (2, .int x2), (3, .int x3)]) hx hb dL_isStep_408 hl (by decide) rfl (fun ls hl => ?_)
                          refine lv_iconst (v := 1) hx hb dL_isStep_410 (by decide) ?_
                          refine lv_iload_n hx hb dL_isStep_411 rfl (lv_at hl 8 rfl) ?_
                          refine lv_bipush (v := 100) hx hb dL_isStep_412 (by decide) ?_
                          obtain ⟨r68, M69, N71, e70, h⟩ := xm_b3_s h
                          refine xm_callS C hP hS [.int x3, .int 100] [.int 1] (c_L_up hD n M65 N67 x3 100 r68 M69 N71 e70) k_L_17 rfl rfl ⟨(Nat.le_of_ble_eq_true rfl), (Nat.le_of_ble_eq_true rfl)⟩ hl.1 (Nat.le_of_ble_eq_true rfl) ⟨(Nat.le_of_ble_eq_true rfl), (Nat.le_of_ble_eq_true rfl)⟩ dL_isStep_414 (fun H locs hP hS => ?_)
                          change W p l e _ s m _ below meth c H locs 0 0 _ (F0 m 417 ls [.int r68, .int 1])
                          refine lv_iadd hx hb dL_isStep_417 ?_
                          refine lv_istore (lv' := [(9, .int (((1 : Int32)) + r68)), (8, .int r64), (7, .int r7), (6, .int r4), (5, .int r1), (4, .int (x2 >>> ((4 : Int32) &&& 31))), (0, .ref (a 0)), (1, .ref (bb 0)), (2, .int x2), (3, .int x3)]) hx hb dL_isStep_418 hl (by decide) rfl (fun ls hl => ?_)
                          refine lv_aload_n hx hb dL_isStep_420 rfl (lv_at hl 6 rfl) ?_
                          refine lv_iload hx hb dL_isStep_421 (lv_at hl 1 rfl) ?_
                          refine lv_iconst (v := 0) hx hb dL_isStep_423 (by decide) ?_
                          obtain ⟨r72, M73, e74, h⟩ := xm_b2_s h
                          refine lm_o C hP hS [.int r64, .int 0] [] (c_X6_pattern hDo n M69 r64 0 r72 M73 e74) k_L_54 rfl rfl rfl ⟨(Nat.le_of_ble_eq_true rfl), (Nat.le_of_ble_eq_true rfl)⟩ hl.1 (Nat.le_of_ble_eq_true rfl) ⟨(Nat.le_of_ble_eq_true rfl), (Nat.le_of_ble_eq_true rfl)⟩ dL_isStep_424 (fun H locs hP hS => ?_)
                          change W p l e _ s m _ below meth c H locs 0 0 _ (F0 m 427 ls [.int r72])
                          refine lv_istore (lv' := [(10, .int r72), (9, .int (((1 : Int32)) + r68)), (8, .int r64), (7, .int r7), (6, .int r4), (5, .int r1), (4, .int (x2 >>> ((4 : Int32) &&& 31))), (0, .ref (a 0)), (1, .ref (bb 0)), (2, .int x2), (3, .int x3)]) hx hb dL_isStep_427 hl (by decide) rfl (fun ls hl => ?_)
                          refine lv_aload_n hx hb dL_isStep_429 rfl (lv_at hl 7 rfl) ?_
                          refine lv_iload hx hb dL_isStep_430 (lv_at hl 2 rfl) ?_
                          refine lv_iconst (v := 4) hx hb dL_isStep_432 (by decide) ?_
                          obtain ⟨r75, M76, e77, h⟩ := xm_b2_s h
                          refine lm_o C hP hS [.int r64, .int 4] [] (c_X6_pattern hDo n M73 r64 4 r75 M76 e77) k_L_54 rfl rfl rfl ⟨(Nat.le_of_ble_eq_true rfl), (Nat.le_of_ble_eq_true rfl)⟩ hl.1 (Nat.le_of_ble_eq_true rfl) ⟨(Nat.le_of_ble_eq_true rfl), (Nat.le_of_ble_eq_true rfl)⟩ dL_isStep_433 (fun H locs hP hS => ?_)
                          change W p l e _ s m _ below meth c H locs 0 0 _ (F0 m 436 ls [.int r75])
                          refine lv_istore (lv' := [(11, .int r75), (10, .int r72), (9, .int (((1 : Int32)) + r68)), (8, .int r64), (7, .int r7), (6, .int r4), (5, .int r1), (4, .int (x2 >>> ((4 : Int32) &&& 31))), (0, .ref (a 0)), (1, .ref (bb 0)), (2, .int x2), (3, .int x3)]) hx hb dL_isStep_436 hl (by decide) rfl (fun ls hl => ?_)
                          refine lv_aload_n hx hb dL_isStep_438 rfl (lv_at hl 8 rfl) ?_
                          refine lv_iload hx hb dL_isStep_439 (lv_at hl 3 rfl) ?_
                          refine lv_iload hx hb dL_isStep_441 (lv_at hl 2 rfl) ?_
                          obtain ⟨r78, M79, e80, h⟩ := xm_b2_s h
                          refine lm_o C hP hS [.int r64, .int (((1 : Int32)) + r68)] [] (c_X6_setWindow hDo n M76 r64 (((1 : Int32)) + r68) r78 M79 e80) k_L_71 rfl rfl rfl ⟨(Nat.le_of_ble_eq_true rfl), (Nat.le_of_ble_eq_true rfl)⟩ hl.1 (Nat.le_of_ble_eq_true rfl) ⟨(Nat.le_of_ble_eq_true rfl), (Nat.le_of_ble_eq_true rfl)⟩ dL_isStep_443 (fun H locs hP hS => ?_)
                          change W p l e _ s m _ below meth c H locs 0 0 _ (F0 m 446 ls [.int r78])
                          refine lv_istore (lv' := [(12, .int r78), (11, .int r75), (10, .int r72), (9, .int (((1 : Int32)) + r68)), (8, .int r64), (7, .int r7), (6, .int r4), (5, .int r1), (4, .int (x2 >>> ((4 : Int32) &&& 31))), (0, .ref (a 0)), (1, .ref (bb 0)), (2, .int x2), (3, .int x3)]) hx hb dL_isStep_446 hl (by decide) rfl (fun ls hl => ?_)
                          refine lv_iload hx hb dL_isStep_448 (lv_at hl 0 rfl) ?_
                          refine lv_aload_n hx hb dL_isStep_450 rfl (lv_at hl 10 rfl) ?_
                          refine lv_iload hx hb dL_isStep_451 (lv_at hl 4 rfl) ?_
                          refine lv_iload hx hb dL_isStep_453 (lv_at hl 3 rfl) ?_
                          obtain ⟨r81, M82, e83, h⟩ := xm_b2_s h
                          refine lm_p C hP hS [.int r64, .int (((1 : Int32)) + r68)] [.int r78] (c_X6_setWindow hDp n N71 r64 (((1 : Int32)) + r68) r81 M82 e83) k_L_71 rfl rfl rfl ⟨(Nat.le_of_ble_eq_true rfl), (Nat.le_of_ble_eq_true rfl)⟩ hl.1 (Nat.le_of_ble_eq_true rfl) ⟨(Nat.le_of_ble_eq_true rfl), (Nat.le_of_ble_eq_true rfl)⟩ dL_isStep_455 (fun H locs hP hS => ?_)
                          change W p l e _ s m _ below meth c H locs 0 0 _ (F0 m 458 ls [.int r81, .int r78])
                          refine lv_icmp_ne (tgt := 536) hx hb dL_isStep_458 (by decide) (fun c84 => ?_) (fun c84 => ?_)
                          · rw [if_neg c84] at h
                            refine lv_iconst (v := 0) hx hb dL_isStep_536 (by decide) ?_
                            obtain ⟨rfl, rfl, rfl⟩ := xm_p3 h
                            exact lm_retZ C hP hS (by rfl) dL_isStep_537
                          · rw [if_pos c84] at h
                            refine lv_iload hx hb dL_isStep_461 (lv_at hl 2 rfl) ?_
                            refine lv_if_ge (tgt := 475) hx hb dL_isStep_463 (by decide) (fun c85 => ?_) (fun c85 => ?_)
                            · rw [if_pos c85] at h
                              refine lv_iload hx hb dL_isStep_475 (lv_at hl 0 rfl) ?_
                              refine lv_iload hx hb dL_isStep_477 (lv_at hl 2 rfl) ?_
                              refine lv_iload hx hb dL_isStep_479 (lv_at hl 3 rfl) ?_
                              refine lv_icmp_ne (tgt := 489) hx hb dL_isStep_481 (by decide) (fun c86 => ?_) (fun c86 => ?_)
                              · rw [if_neg c86] at h
                                refine lv_iload hx hb dL_isStep_489 (lv_at hl 2 rfl) ?_
                                refine lv_icmp_ne (tgt := 536) hx hb dL_isStep_491 (by decide) (fun c87 => ?_) (fun c87 => ?_)
                                · rw [if_neg c87] at h
                                  refine lv_iconst (v := 0) hx hb dL_isStep_536 (by decide) ?_
                                  obtain ⟨rfl, rfl, rfl⟩ := xm_p3 h
                                  exact lm_retZ C hP hS (by rfl) dL_isStep_537
                                · rw [if_pos c87] at h
                                  refine lv_iload hx hb dL_isStep_494 (lv_at hl 3 rfl) ?_
                                  refine lv_iload hx hb dL_isStep_496 (lv_at hl 2 rfl) ?_
                                  refine lv_icmp_lt (tgt := 513) hx hb dL_isStep_498 (by decide) (fun c88 => ?_) (fun c88 => ?_)
                                  · rw [if_pos c88] at h
                                    exact t_L_isStep_513 C n M79 M82 r64 (((1 : Int32)) + r68) r72 r75 r M' N' h _ _ _ hP hS (lv_sub hl [9, 4, 3, 2, 1] rfl)
                                  · rw [if_neg c88] at h
                                    refine lv_aload_n hx hb dL_isStep_501 rfl (lv_at hl 9 rfl) ?_
                                    refine lv_iload hx hb dL_isStep_502 (lv_at hl 4 rfl) ?_
                                    refine lv_iconst (v := 4) hx hb dL_isStep_504 (by decide) ?_
                                    obtain ⟨r89, M90, e91, h⟩ := xm_b2_s h
                                    refine lm_o C hP hS [.int r64, .int 4] [] (c_X6_pattern hDo n M79 r64 4 r89 M90 e91) k_L_54 rfl rfl rfl ⟨(Nat.le_of_ble_eq_true rfl), (Nat.le_of_ble_eq_true rfl)⟩ hl.1 (Nat.le_of_ble_eq_true rfl) ⟨(Nat.le_of_ble_eq_true rfl), (Nat.le_of_ble_eq_true rfl)⟩ dL_isStep_505 (fun H locs hP hS => ?_)
                                    change W p l e _ s m _ below meth c H locs 0 0 _ (F0 m 508 ls [.int r89])
                                    refine lv_iload hx hb dL_isStep_508 (lv_at hl 1 rfl) ?_
                                    refine lv_icmp_lt (tgt := 536) hx hb dL_isStep_510 (by decide) (fun c92 => ?_) (fun c92 => ?_)
                                    · rw [if_pos c92] at h
                                      refine lv_iconst (v := 0) hx hb dL_isStep_536 (by decide) ?_
                                      obtain ⟨rfl, rfl, rfl⟩ := xm_p3 h
                                      exact lm_retZ C hP hS (by rfl) dL_isStep_537
                                    · rw [if_neg c92] at h
                                      exact t_L_isStep_513 C n M90 M82 r64 (((1 : Int32)) + r68) r72 r75 r M' N' h _ _ _ hP hS (lv_sub hl [9, 4, 3, 2, 1] rfl)
                              · rw [if_pos c86] at h
                                refine lv_bipush (v := (-5)) hx hb dL_isStep_484 (by decide) ?_
                                refine lv_goto (tgt := 491) hx hb dL_isStep_486 (by decide) ?_
                                refine lv_icmp_ne (tgt := 536) hx hb dL_isStep_491 (by decide) (fun c93 => ?_) (fun c93 => ?_)
                                · rw [if_neg c93] at h
                                  refine lv_iconst (v := 0) hx hb dL_isStep_536 (by decide) ?_
                                  obtain ⟨rfl, rfl, rfl⟩ := xm_p3 h
                                  exact lm_retZ C hP hS (by rfl) dL_isStep_537
                                · rw [if_pos c93] at h
                                  refine lv_iload hx hb dL_isStep_494 (lv_at hl 3 rfl) ?_
                                  refine lv_iload hx hb dL_isStep_496 (lv_at hl 2 rfl) ?_
                                  refine lv_icmp_lt (tgt := 513) hx hb dL_isStep_498 (by decide) (fun c94 => ?_) (fun c94 => ?_)
                                  · rw [if_pos c94] at h
                                    exact t_L_isStep_513 C n M79 M82 r64 (((1 : Int32)) + r68) r72 r75 r M' N' h _ _ _ hP hS (lv_sub hl [9, 4, 3, 2, 1] rfl)
                                  · rw [if_neg c94] at h
                                    refine lv_aload_n hx hb dL_isStep_501 rfl (lv_at hl 9 rfl) ?_
                                    refine lv_iload hx hb dL_isStep_502 (lv_at hl 4 rfl) ?_
                                    refine lv_iconst (v := 4) hx hb dL_isStep_504 (by decide) ?_
                                    obtain ⟨r95, M96, e97, h⟩ := xm_b2_s h
                                    refine lm_o C hP hS [.int r64, .int 4] [] (c_X6_pattern hDo n M79 r64 4 r95 M96 e97) k_L_54 rfl rfl rfl ⟨(Nat.le_of_ble_eq_true rfl), (Nat.le_of_ble_eq_true rfl)⟩ hl.1 (Nat.le_of_ble_eq_true rfl) ⟨(Nat.le_of_ble_eq_true rfl), (Nat.le_of_ble_eq_true rfl)⟩ dL_isStep_505 (fun H locs hP hS => ?_)
                                    change W p l e _ s m _ below meth c H locs 0 0 _ (F0 m 508 ls [.int r95])
                                    refine lv_iload hx hb dL_isStep_508 (lv_at hl 1 rfl) ?_
                                    refine lv_icmp_lt (tgt := 536) hx hb dL_isStep_510 (by decide) (fun c98 => ?_) (fun c98 => ?_)
                                    · rw [if_pos c98] at h
                                      refine lv_iconst (v := 0) hx hb dL_isStep_536 (by decide) ?_
                                      obtain ⟨rfl, rfl, rfl⟩ := xm_p3 h
                                      exact lm_retZ C hP hS (by rfl) dL_isStep_537
                                    · rw [if_neg c98] at h
                                      exact t_L_isStep_513 C n M96 M82 r64 (((1 : Int32)) + r68) r72 r75 r M' N' h _ _ _ hP hS (lv_sub hl [9, 4, 3, 2, 1] rfl)
                            · rw [if_neg c85] at h
                              refine lv_iload hx hb dL_isStep_466 (lv_at hl 0 rfl) ?_
                              refine lv_iconst (v := (-1)) hx hb dL_isStep_468 (by decide) ?_
                              refine lv_icmp_ne (tgt := 536) hx hb dL_isStep_469 (by decide) (fun c99 => ?_) (fun c99 => ?_)
                              · rw [if_neg c99] at h
                                refine lv_iconst (v := 0) hx hb dL_isStep_536 (by decide) ?_
                                obtain ⟨rfl, rfl, rfl⟩ := xm_p3 h
                                exact lm_retZ C hP hS (by rfl) dL_isStep_537
                              · rw [if_pos c99] at h
                                refine lv_goto (tgt := 532) hx hb dL_isStep_472 (by decide) ?_
                                refine lv_iconst (v := 1) hx hb dL_isStep_532 (by decide) ?_
                                refine lv_goto (tgt := 537) hx hb dL_isStep_533 (by decide) ?_
                                obtain ⟨rfl, rfl, rfl⟩ := xm_p3 h
                                exact lm_retZ C hP hS (by rfl) dL_isStep_537
                        · rw [if_neg c60] at h
                          by_cases c100 : r10 = 12
                          · rw [if_pos c100] at h
                            refine lv_tableIn (tgt := 538) hx hb dL_isStep_32 (by rw [c100]; decide) (by rw [c100]; decide) (by rw [c100]; rfl) (by decide) ?_
                            refine lv_iload hx hb dL_isStep_538 (lv_at hl 1 rfl) ?_
                            refine lv_bipush (v := 30) hx hb dL_isStep_540 (by decide) ?_
                            refine lv_icmp_ge (tgt := 554) hx hb dL_isStep_542 (by decide) (fun c101 => ?_) (fun c101 => ?_)
                            · rw [if_pos c101] at h
                              refine lv_iload hx hb dL_isStep_554 (lv_at hl 1 rfl) ?_
                              refine lv_iload_n hx hb dL_isStep_556 rfl (lv_at hl 7 rfl) ?_
                              refine lv_bipush (v := 30) hx hb dL_isStep_557 (by decide) ?_
                              obtain ⟨r102, M103, N105, e104, h⟩ := xm_b3_s h
                              refine xm_callS C hP hS [.int x3, .int 30] [.int r4] (c_L_up hD n M11 N13 x3 30 r102 M103 N105 e104) k_L_17 rfl rfl ⟨(Nat.le_of_ble_eq_true rfl), (Nat.le_of_ble_eq_true rfl)⟩ hl.1 (Nat.le_of_ble_eq_true rfl) ⟨(Nat.le_of_ble_eq_true rfl), (Nat.le_of_ble_eq_true rfl)⟩ dL_isStep_559 (fun H locs hP hS => ?_)
                              change W p l e _ s m _ below meth c H locs 0 0 _ (F0 m 562 ls [.int r102, .int r4])
                              refine lv_isub hx hb dL_isStep_562 ?_
                              refine lv_istore (lv' := [(8, .int (r4 - r102)), (7, .int r7), (6, .int r4), (5, .int r1), (4, .int (x2 >>> ((4 : Int32) &&& 31))), (0, .ref (a 0)), (1, .ref (bb 0)), (2, .int x2), (3, .int x3)]) hx hb dL_isStep_563 hl (by decide) rfl (fun ls hl => ?_)
                              exact t_L_isStep_565 C n M103 N105 r1 r4 (r4 - r102) r M' N' h _ _ _ hP hS (lv_sub hl [5, 6, 3, 2, 0] rfl)
                            · rw [if_neg c101] at h
                              refine lv_iload_n hx hb dL_isStep_545 rfl (lv_at hl 7 rfl) ?_
                              refine lv_bipush (v := 30) hx hb dL_isStep_546 (by decide) ?_
                              obtain ⟨r106, M107, N109, e108, h⟩ := xm_b3_s h
                              refine xm_callS C hP hS [.int x3, .int 30] [] (c_L_up hD n M11 N13 x3 30 r106 M107 N109 e108) k_L_17 rfl rfl ⟨(Nat.le_of_ble_eq_true rfl), (Nat.le_of_ble_eq_true rfl)⟩ hl.1 (Nat.le_of_ble_eq_true rfl) ⟨(Nat.le_of_ble_eq_true rfl), (Nat.le_of_ble_eq_true rfl)⟩ dL_isStep_548 (fun H locs hP hS => ?_)
                              change W p l e _ s m _ below meth c H locs 0 0 _ (F0 m 551 ls [.int r106])
                              refine lv_goto (tgt := 563) hx hb dL_isStep_551 (by decide) ?_
                              refine lv_istore (lv' := [(8, .int r106), (7, .int r7), (6, .int r4), (5, .int r1), (4, .int (x2 >>> ((4 : Int32) &&& 31))), (0, .ref (a 0)), (1, .ref (bb 0)), (2, .int x2), (3, .int x3)]) hx hb dL_isStep_563 hl (by decide) rfl (fun ls hl => ?_)
                              exact t_L_isStep_565 C n M107 N109 r1 r4 r106 r M' N' h _ _ _ hP hS (lv_sub hl [5, 6, 3, 2, 0] rfl)
                          · rw [if_neg c100] at h
                            by_cases c110 : r10 = 13
                            · rw [if_pos c110] at h
                              refine lv_tableIn (tgt := 623) hx hb dL_isStep_32 (by rw [c110]; decide) (by rw [c110]; decide) (by rw [c110]; rfl) (by decide) ?_
                              refine lv_iload_n hx hb dL_isStep_623 rfl (lv_at hl 7 rfl) ?_
                              refine lv_bipush (v := 50) hx hb dL_isStep_624 (by decide) ?_
                              obtain ⟨r111, M112, N114, e113, h⟩ := xm_b3_s h
                              refine xm_callS C hP hS [.int x3, .int 50] [] (c_L_up hD n M11 N13 x3 50 r111 M112 N114 e113) k_L_17 rfl rfl ⟨(Nat.le_of_ble_eq_true rfl), (Nat.le_of_ble_eq_true rfl)⟩ hl.1 (Nat.le_of_ble_eq_true rfl) ⟨(Nat.le_of_ble_eq_true rfl), (Nat.le_of_ble_eq_true rfl)⟩ dL_isStep_626 (fun H locs hP hS => ?_)
                              change W p l e _ s m _ below meth c H locs 0 0 _ (F0 m 629 ls [.int r111])
                              refine lv_istore (lv' := [(8, .int r111), (7, .int r7), (6, .int r4), (5, .int r1), (4, .int (x2 >>> ((4 : Int32) &&& 31))), (0, .ref (a 0)), (1, .ref (bb 0)), (2, .int x2), (3, .int x3)]) hx hb dL_isStep_629 hl (by decide) rfl (fun ls hl => ?_)
                              refine lv_aload_n hx hb dL_isStep_631 rfl (lv_at hl 5 rfl) ?_
                              refine lv_iload hx hb dL_isStep_632 (lv_at hl 0 rfl) ?_
                              obtain ⟨r115, M116, e117, h⟩ := xm_b2_s h
                              refine lm_o C hP hS [.int r111] [] (c_X6_setLateness hDo n M112 r111 r115 M116 e117) k_L_77 rfl rfl rfl ⟨(Nat.le_of_ble_eq_true rfl), (Nat.le_of_ble_eq_true rfl)⟩ hl.1 (Nat.le_of_ble_eq_true rfl) ⟨(Nat.le_of_ble_eq_true rfl), (Nat.le_of_ble_eq_true rfl)⟩ dL_isStep_634 (fun H locs hP hS => ?_)
                              change W p l e _ s m _ below meth c H locs 0 0 _ (F0 m 637 ls [.int r115])
                              refine lv_aload_n hx hb dL_isStep_637 rfl (lv_at hl 6 rfl) ?_
                              refine lv_iload hx hb dL_isStep_638 (lv_at hl 0 rfl) ?_
                              obtain ⟨r118, M119, e120, h⟩ := xm_b2_s h
                              refine lm_p C hP hS [.int r111] [.int r115] (c_X6_setLateness hDp n N114 r111 r118 M119 e120) k_L_77 rfl rfl rfl ⟨(Nat.le_of_ble_eq_true rfl), (Nat.le_of_ble_eq_true rfl)⟩ hl.1 (Nat.le_of_ble_eq_true rfl) ⟨(Nat.le_of_ble_eq_true rfl), (Nat.le_of_ble_eq_true rfl)⟩ dL_isStep_640 (fun H locs hP hS => ?_)
                              change W p l e _ s m _ below meth c H locs 0 0 _ (F0 m 643 ls [.int r118, .int r115])
                              refine lv_icmp_ne (tgt := 684) hx hb dL_isStep_643 (by decide) (fun c121 => ?_) (fun c121 => ?_)
                              · rw [if_neg c121] at h
                                refine lv_iconst (v := 0) hx hb dL_isStep_684 (by decide) ?_
                                obtain ⟨rfl, rfl, rfl⟩ := xm_p3 h
                                exact lm_retZ C hP hS (by rfl) dL_isStep_685
                              · rw [if_pos c121] at h
                                refine lv_aload_n hx hb dL_isStep_646 rfl (lv_at hl 5 rfl) ?_
                                refine lv_iconst (v := 5) hx hb dL_isStep_647 (by decide) ?_
                                obtain ⟨r122, M123, e124, h⟩ := xm_b2_s h
                                refine lm_o C hP hS [.int 5] [] (c_X6_count hDo n M116 5 r122 M123 e124) k_L_47 rfl rfl rfl ⟨(Nat.le_of_ble_eq_true rfl), (Nat.le_of_ble_eq_true rfl)⟩ hl.1 (Nat.le_of_ble_eq_true rfl) ⟨(Nat.le_of_ble_eq_true rfl), (Nat.le_of_ble_eq_true rfl)⟩ dL_isStep_648 (fun H locs hP hS => ?_)
                                change W p l e _ s m _ below meth c H locs 0 0 _ (F0 m 651 ls [.int r122])
                                refine lv_iload hx hb dL_isStep_651 (lv_at hl 0 rfl) ?_
                                refine lv_icmp_ne (tgt := 684) hx hb dL_isStep_653 (by decide) (fun c125 => ?_) (fun c125 => ?_)
                                · rw [if_neg c125] at h
                                  refine lv_iconst (v := 0) hx hb dL_isStep_684 (by decide) ?_
                                  obtain ⟨rfl, rfl, rfl⟩ := xm_p3 h
                                  exact lm_retZ C hP hS (by rfl) dL_isStep_685
                                · rw [if_pos c125] at h
                                  refine lv_aload_n hx hb dL_isStep_656 rfl (lv_at hl 5 rfl) ?_
                                  refine lv_iconst (v := 4) hx hb dL_isStep_657 (by decide) ?_
                                  obtain ⟨r126, M127, e128, h⟩ := xm_b2_s h
                                  refine lm_o C hP hS [.int 4] [] (c_X6_count hDo n M123 4 r126 M127 e128) k_L_47 rfl rfl rfl ⟨(Nat.le_of_ble_eq_true rfl), (Nat.le_of_ble_eq_true rfl)⟩ hl.1 (Nat.le_of_ble_eq_true rfl) ⟨(Nat.le_of_ble_eq_true rfl), (Nat.le_of_ble_eq_true rfl)⟩ dL_isStep_658 (fun H locs hP hS => ?_)
                                  change W p l e _ s m _ below meth c H locs 0 0 _ (F0 m 661 ls [.int r126])
                                  refine lv_iload hx hb dL_isStep_661 (lv_at hl 2 rfl) ?_
                                  refine lv_iload hx hb dL_isStep_663 (lv_at hl 0 rfl) ?_
                                  refine lv_icmp_le (tgt := 676) hx hb dL_isStep_665 (by decide) (fun c129 => ?_) (fun c129 => ?_)
                                  · rw [if_pos c129] at h
                                    refine lv_iconst (v := 0) hx hb dL_isStep_676 (by decide) ?_
                                    refine lv_icmp_ne (tgt := 684) hx hb dL_isStep_677 (by decide) (fun c130 => ?_) (fun c130 => ?_)
                                    · rw [if_neg c130] at h
                                      refine lv_iconst (v := 0) hx hb dL_isStep_684 (by decide) ?_
                                      obtain ⟨rfl, rfl, rfl⟩ := xm_p3 h
                                      exact lm_retZ C hP hS (by rfl) dL_isStep_685
                                    · rw [if_pos c130] at h
                                      refine lv_iconst (v := 1) hx hb dL_isStep_680 (by decide) ?_
                                      refine lv_goto (tgt := 685) hx hb dL_isStep_681 (by decide) ?_
                                      obtain ⟨rfl, rfl, rfl⟩ := xm_p3 h
                                      exact lm_retZ C hP hS (by rfl) dL_isStep_685
                                  · rw [if_neg c129] at h
                                    refine lv_iload hx hb dL_isStep_668 (lv_at hl 2 rfl) ?_
                                    refine lv_iload hx hb dL_isStep_670 (lv_at hl 0 rfl) ?_
                                    refine lv_isub hx hb dL_isStep_672 ?_
                                    refine lv_goto (tgt := 677) hx hb dL_isStep_673 (by decide) ?_
                                    refine lv_icmp_ne (tgt := 684) hx hb dL_isStep_677 (by decide) (fun c131 => ?_) (fun c131 => ?_)
                                    · rw [if_neg c131] at h
                                      refine lv_iconst (v := 0) hx hb dL_isStep_684 (by decide) ?_
                                      obtain ⟨rfl, rfl, rfl⟩ := xm_p3 h
                                      exact lm_retZ C hP hS (by rfl) dL_isStep_685
                                    · rw [if_pos c131] at h
                                      refine lv_iconst (v := 1) hx hb dL_isStep_680 (by decide) ?_
                                      refine lv_goto (tgt := 685) hx hb dL_isStep_681 (by decide) ?_
                                      obtain ⟨rfl, rfl, rfl⟩ := xm_p3 h
                                      exact lm_retZ C hP hS (by rfl) dL_isStep_685
                            · rw [if_neg c110] at h
                              refine lv_tableOut (tgt := 686) hx hb dL_isStep_32 (xm_sw14 c14 c15 c16 c17 c18 c19 c20 c21 c27 c33 c39 c60 c100 c110) (by decide) ?_
                              refine lv_aload_n hx hb dL_isStep_686 rfl (lv_at hl 4 rfl) ?_
                              refine lv_bipush (v := 7) hx hb dL_isStep_687 (by decide) ?_
                              obtain ⟨r132, M133, e134, h⟩ := xm_b2_s h
                              refine lm_o C hP hS [.int 7] [] (c_X6_count hDo n M11 7 r132 M133 e134) k_L_47 rfl rfl rfl ⟨(Nat.le_of_ble_eq_true rfl), (Nat.le_of_ble_eq_true rfl)⟩ hl.1 (Nat.le_of_ble_eq_true rfl) ⟨(Nat.le_of_ble_eq_true rfl), (Nat.le_of_ble_eq_true rfl)⟩ dL_isStep_689 (fun H locs hP hS => ?_)
                              change W p l e _ s m _ below meth c H locs 0 0 _ (F0 m 692 ls [.int r132])
                              refine lv_if_eq (tgt := 706) hx hb dL_isStep_692 (by decide) (fun c135 => ?_) (fun c135 => ?_)
                              · rw [if_pos c135] at h
                                refine lv_iconst (v := 1) hx hb dL_isStep_706 (by decide) ?_
                                refine lv_goto (tgt := 711) hx hb dL_isStep_707 (by decide) ?_
                                obtain ⟨rfl, rfl, rfl⟩ := xm_p3 h
                                exact lm_retZ C hP hS (by rfl) dL_isStep_711
                              · rw [if_neg c135] at h
                                refine lv_aload_n hx hb dL_isStep_695 rfl (lv_at hl 4 rfl) ?_
                                obtain ⟨r136, M137, e138, h⟩ := xm_b2_s h
                                refine lm_o C hP hS [] [] (c_X6_undo hDo n M133 r136 M137 e138) k_L_80 rfl rfl rfl ⟨(Nat.le_of_ble_eq_true rfl), (Nat.le_of_ble_eq_true rfl)⟩ hl.1 (Nat.le_of_ble_eq_true rfl) ⟨(Nat.le_of_ble_eq_true rfl), (Nat.le_of_ble_eq_true rfl)⟩ dL_isStep_696 (fun H locs hP hS => ?_)
                                change W p l e _ s m _ below meth c H locs 0 0 _ (F0 m 699 ls [.int r136])
                                refine lv_aload_n hx hb dL_isStep_699 rfl (lv_at hl 5 rfl) ?_
                                obtain ⟨r139, M140, e141, h⟩ := xm_b2_s h
                                refine lm_p C hP hS [] [.int r136] (c_X6_undo hDp n N13 r139 M140 e141) k_L_80 rfl rfl rfl ⟨(Nat.le_of_ble_eq_true rfl), (Nat.le_of_ble_eq_true rfl)⟩ hl.1 (Nat.le_of_ble_eq_true rfl) ⟨(Nat.le_of_ble_eq_true rfl), (Nat.le_of_ble_eq_true rfl)⟩ dL_isStep_700 (fun H locs hP hS => ?_)
                                change W p l e _ s m _ below meth c H locs 0 0 _ (F0 m 703 ls [.int r139, .int r136])
                                refine lv_icmp_ne (tgt := 710) hx hb dL_isStep_703 (by decide) (fun c142 => ?_) (fun c142 => ?_)
                                · rw [if_neg c142] at h
                                  refine lv_iconst (v := 0) hx hb dL_isStep_710 (by decide) ?_
                                  obtain ⟨rfl, rfl, rfl⟩ := xm_p3 h
                                  exact lm_retZ C hP hS (by rfl) dL_isStep_711
                                · rw [if_pos c142] at h
                                  refine lv_iconst (v := 1) hx hb dL_isStep_706 (by decide) ?_
                                  refine lv_goto (tgt := 711) hx hb dL_isStep_707 (by decide) ?_
                                  obtain ⟨rfl, rfl, rfl⟩ := xm_p3 h
                                  exact lm_retZ C hP hS (by rfl) dL_isStep_711
theorem c_L_isStep {l : Launch} {E : xm_E} {a : Nat → Nat} {bb : Nat → Nat} (hD : xm_D (xj (xv E a) (xv E bb))) (n : Nat) (M N : xm_M) (x2 : Int32) (x3 : Int32) (r : Int32) (M' N' : xm_M) (h : f_L_isStep n M N x2 x3 = some (r, M', N')) : xm_Met l E (xj (xv E a) (xv E bb)) yL_isStep cL_isStep 14 (some .boolean) 10 247 [.ref (a 0), .ref (bb 0), .int x2, .int x3] (xk 120 M N) (xk 120 M' N') (some r) :=
  xm_met (by decide +kernel) rfl (Nat.le_of_ble_eq_true rfl) hD (fun p e s m below meth c C hP ls hl => t_L_isStep_0 C n M N x2 x3 r M' N' h _ _ _ hP va_S.rf hl)
