theorem k_L_17 : xm_FS RL 17 yL_up cL_up 2 (some .int) 2 := ⟨xm_tb_of (List.mem_of_getElem? (i := 331) (by decide +kernel)) rfl, xm_tb_of (List.mem_of_getElem? (i := 329) (by decide +kernel)) rfl, xm_tb_of (List.mem_of_getElem? (i := 330) (by decide +kernel)) rfl, xm_tb_of (List.mem_of_getElem? (i := 0) (by decide +kernel)) rfl, ⟨by decide +kernel, by decide +kernel, by decide +kernel⟩⟩
theorem k_L_23 : xm_FV RL 23 yX6_clearText cX6_clearText 2 (some .int) 0 := ⟨xm_tb_of (List.mem_of_getElem? (i := 381) (by decide +kernel)) rfl, xm_tb_of (List.mem_of_getElem? (i := 378) (by decide +kernel)) rfl, xm_tb_of (List.mem_of_getElem? (i := 379) (by decide +kernel)) rfl, xm_tb_of (List.mem_of_getElem? (i := 380) (by decide +kernel)) rfl, xm_tb_of (List.mem_of_getElem? (i := 1) (by decide +kernel)) rfl, ⟨by decide +kernel, by decide +kernel, by decide +kernel⟩⟩
theorem q_L_27 : Cond.constantLong RL 27 33611470917430816 ∈ xm_tb := xm_tb_of (List.mem_of_getElem? (i := 382) (by decide +kernel)) rfl
theorem k_L_29 : xm_FS RL 29 yL_types cL_types 7 (some .boolean) 3 := ⟨xm_tb_of (List.mem_of_getElem? (i := 385) (by decide +kernel)) rfl, xm_tb_of (List.mem_of_getElem? (i := 383) (by decide +kernel)) rfl, xm_tb_of (List.mem_of_getElem? (i := 384) (by decide +kernel)) rfl, xm_tb_of (List.mem_of_getElem? (i := 0) (by decide +kernel)) rfl, ⟨by decide +kernel, by decide +kernel, by decide +kernel⟩⟩
theorem q_L_33 : Cond.constantLong RL 33 32 ∈ xm_tb := xm_tb_of (List.mem_of_getElem? (i := 395) (by decide +kernel)) rfl
theorem q_L_37 : Cond.constantLong RL 37 107118253008160 ∈ xm_tb := xm_tb_of (List.mem_of_getElem? (i := 397) (by decide +kernel)) rfl
theorem q_L_35 : Cond.constantLong RL 35 32204091756013344 ∈ xm_tb := xm_tb_of (List.mem_of_getElem? (i := 396) (by decide +kernel)) rfl
theorem k_L_47 : xm_FV RL 47 yX6_count cX6_count 2 (some .int) 1 := ⟨xm_tb_of (List.mem_of_getElem? (i := 269) (by decide +kernel)) rfl, xm_tb_of (List.mem_of_getElem? (i := 266) (by decide +kernel)) rfl, xm_tb_of (List.mem_of_getElem? (i := 267) (by decide +kernel)) rfl, xm_tb_of (List.mem_of_getElem? (i := 268) (by decide +kernel)) rfl, xm_tb_of (List.mem_of_getElem? (i := 1) (by decide +kernel)) rfl, ⟨by decide +kernel, by decide +kernel, by decide +kernel⟩⟩
theorem k_L_51 : xm_FV RL 51 yX6_addPattern cX6_addPattern 2 (some .int) 0 := ⟨xm_tb_of (List.mem_of_getElem? (i := 403) (by decide +kernel)) rfl, xm_tb_of (List.mem_of_getElem? (i := 400) (by decide +kernel)) rfl, xm_tb_of (List.mem_of_getElem? (i := 401) (by decide +kernel)) rfl, xm_tb_of (List.mem_of_getElem? (i := 402) (by decide +kernel)) rfl, xm_tb_of (List.mem_of_getElem? (i := 1) (by decide +kernel)) rfl, ⟨by decide +kernel, by decide +kernel, by decide +kernel⟩⟩
theorem k_L_54 : xm_FV RL 54 yX6_pattern cX6_pattern 4 (some .int) 2 := ⟨xm_tb_of (List.mem_of_getElem? (i := 512) (by decide +kernel)) rfl, xm_tb_of (List.mem_of_getElem? (i := 509) (by decide +kernel)) rfl, xm_tb_of (List.mem_of_getElem? (i := 510) (by decide +kernel)) rfl, xm_tb_of (List.mem_of_getElem? (i := 511) (by decide +kernel)) rfl, xm_tb_of (List.mem_of_getElem? (i := 1) (by decide +kernel)) rfl, ⟨by decide +kernel, by decide +kernel, by decide +kernel⟩⟩
theorem q_L_39 : Cond.constantLong RL 39 11296 ∈ xm_tb := xm_tb_of (List.mem_of_getElem? (i := 398) (by decide +kernel)) rfl
theorem q_L_41 : Cond.constantLong RL 41 7237408 ∈ xm_tb := xm_tb_of (List.mem_of_getElem? (i := 399) (by decide +kernel)) rfl
theorem k_L_43 : xm_FS RL 43 yL_there cL_there 1 (some .char) 1 := ⟨xm_tb_of (List.mem_of_getElem? (i := 374) (by decide +kernel)) rfl, xm_tb_of (List.mem_of_getElem? (i := 372) (by decide +kernel)) rfl, xm_tb_of (List.mem_of_getElem? (i := 373) (by decide +kernel)) rfl, xm_tb_of (List.mem_of_getElem? (i := 0) (by decide +kernel)) rfl, ⟨by decide +kernel, by decide +kernel, by decide +kernel⟩⟩
def f_L_isPattern_S136 : Nat → Nat → xm_M → xm_M → Int32 → Int32 → Int32 → Int32 → Int32 → Int32 → Option (Int32 × xm_M × xm_M)
  | 0, _, _, _, _, _, _, _, _, _ => none
  | n + 1, 0, M, N, x3, x4, x6, x7, x8, x9 => if x4 ≤ x7 then xm_b2 (f_X6_count n M 1) (fun r2 M3 => xm_b2 (f_X6_addPattern n M3) (fun r5 M6 => if x6 = 0 then some (0, M6, N) else xm_b2 (f_X6_addPattern n N) (fun r9 M10 => if r5 = r9 then if r2 = 4 then if r5 = ((-3)) then if r2 = 4 then some (1, M6, M10) else xm_b2 (f_X6_pattern n M6 r2 3) (fun r22 M23 => if r22 = x4 then some (1, M23, M10) else some (0, M23, M10)) else some (0, M6, M10) else if r5 = r2 then if r2 = 4 then some (1, M6, M10) else xm_b2 (f_X6_pattern n M6 r2 3) (fun r16 M17 => if r16 = x4 then some (1, M17, M10) else some (0, M17, M10)) else some (0, M6, M10) else some (0, M6, M10)))) else xm_b3 (f_L_up n M N (x3 >>> ((((3 : Int32)) * x7) &&& 31)) 3) (fun r26 M27 N29 => if x7 ≤ 0 then f_L_isPattern_S136 n 1 M27 N29 x3 x4 x6 x7 (((97 : Int32)) + r26) 0 else xm_b3 (f_L_up n M27 N29 (x3 >>> ((((7 : Int32)) + x7) &&& 31)) 3) (fun r31 M32 N34 => if r31 = 0 then xm_b3 (f_L_up n M32 N34 (x3 >>> ((((9 : Int32)) + x7) &&& 31)) 5) (fun r36 M37 N39 => f_L_isPattern_S136 n 1 M37 N39 x3 x4 x6 x7 (((97 : Int32)) + r26) (((97 : Int32)) + r36)) else f_L_isPattern_S136 n 1 M32 N34 x3 x4 x6 x7 (((97 : Int32)) + r26) 0))
  | n + 1, 1, M, N, x3, x4, x6, x7, x8, x9 => if x6 = 0 then f_L_isPattern_S136 n 0 M N x3 x4 0 (x7 + 1) 0 0 else if x7 = 0 then f_L_isPattern_S136 n 2 M N x3 x4 0 x7 x8 x9 else xm_b3 (f_L_types n M N 11296) (fun r3 M4 N6 => if r3 = 0 then f_L_isPattern_S136 n 0 M4 N6 x3 x4 0 (x7 + 1) 0 0 else f_L_isPattern_S136 n 2 M4 N6 x3 x4 0 x7 x8 x9)
  | n + 1, 2, M, N, x3, x4, x6, x7, x8, x9 => if x9 = 0 then f_L_isPattern_S136 n 3 M N x3 x4 0 x7 x8 0 else xm_b3 (f_L_types n M N 7237408) (fun r2 M3 N5 => if r2 = 0 then f_L_isPattern_S136 n 0 M3 N5 x3 x4 0 (x7 + 1) 0 0 else xm_b2 (f_X6_type n M3 ((x9.toUInt32 % 65536).toInt32)) (fun r7 M8 => xm_b3 (f_L_there n M8 N5 x9) (fun r10 M11 N13 => xm_b2 (f_X6_type n N13 r10) (fun r14 M15 => if r7 = r14 then xm_b3 (f_L_types n M11 M15 11296) (fun r18 M19 N21 => if r18 = 0 then f_L_isPattern_S136 n 0 M19 N21 x3 x4 0 (x7 + 1) 0 0 else f_L_isPattern_S136 n 3 M19 N21 x3 x4 0 x7 x8 0) else f_L_isPattern_S136 n 0 M11 M15 x3 x4 0 (x7 + 1) 0 0))))
  | n + 1, _ + 3, M, N, x3, x4, x6, x7, x8, x9 => xm_b2 (f_X6_type n M ((x8.toUInt32 % 65536).toInt32)) (fun r1 M2 => xm_b3 (f_L_there n M2 N x8) (fun r4 M5 N7 => xm_b2 (f_X6_type n N7 r4) (fun r8 M9 => if r1 = r8 then f_L_isPattern_S136 n 0 M5 M9 x3 x4 1 (x7 + 1) 0 0 else f_L_isPattern_S136 n 0 M5 M9 x3 x4 0 (x7 + 1) 0 0)))
def f_L_isPattern_136 (n : Nat) (M N : xm_M) (x3 : Int32) (x4 : Int32) (x6 : Int32) (x7 : Int32) : Option (Int32 × xm_M × xm_M) := f_L_isPattern_S136 n 0 M N x3 x4 x6 x7 0 0
def f_L_isPattern_197 (n : Nat) (M N : xm_M) (x3 : Int32) (x4 : Int32) (x6 : Int32) (x7 : Int32) (x8 : Int32) (x9 : Int32) : Option (Int32 × xm_M × xm_M) := f_L_isPattern_S136 n 1 M N x3 x4 x6 x7 x8 x9
def f_L_isPattern_218 (n : Nat) (M N : xm_M) (x3 : Int32) (x4 : Int32) (x7 : Int32) (x8 : Int32) (x9 : Int32) : Option (Int32 × xm_M × xm_M) := f_L_isPattern_S136 n 2 M N x3 x4 0 x7 x8 x9
def f_L_isPattern_264 (n : Nat) (M N : xm_M) (x3 : Int32) (x4 : Int32) (x7 : Int32) (x8 : Int32) : Option (Int32 × xm_M × xm_M) := f_L_isPattern_S136 n 3 M N x3 x4 0 x7 x8 0
set_option maxHeartbeats 4000000 in
set_option maxRecDepth 100000 in
theorem t_L_isPattern_S136 {l : Launch} {p : Program} {e : Env} {s : State} {m : MethodId} {args : Array Value} {below : List Frame} {meth : Method} {c : Code} {E : xm_E} {a : Nat → Nat} {bb : Nat → Nat} (C : xm_C E (xj (xv E a) (xv E bb)) p s m args meth c RL cL_isPattern 10 (some .boolean)) : ∀ (n : Nat), (∀ (M N : xm_M) (x3 : Int32) (x4 : Int32) (x6 : Int32) (x7 : Int32) (r : Int32) (M' N' : xm_M), f_L_isPattern_S136 n 0 M N x3 x4 x6 x7 0 0 = some (r, M', N') → ∀ (H : Heap) (locs : List Loc) (ls : Array Slot), va_P E.1 vwCl (xm_w (xj (xv E a) (xv E bb)) (xk 120 M N)) H → va_S (xm_A (xj (xv E a) (xv E bb)) s.heap.size) s.heap H locs → lv_has ls 10 [(0, .ref (a 0)), (1, .ref (bb 0)), (3, .int x3), (4, .int x4), (6, .int x6), (7, .int x7)] → W p l e { frames := 9, cells := 0, slots := 0, locals := 218 } s m args below meth c H locs 0 0 (MQ below (xm_Q E (xj (xv E a) (xv E bb)) (xk 120 M' N') s.heap.size (some r)) args s 0 0 (xm_A (xj (xv E a) (xv E bb)) s.heap.size)) (F0 m 136 ls [])) ∧ (∀ (M N : xm_M) (x3 : Int32) (x4 : Int32) (x6 : Int32) (x7 : Int32) (x8 : Int32) (x9 : Int32) (r : Int32) (M' N' : xm_M), f_L_isPattern_S136 n 1 M N x3 x4 x6 x7 x8 x9 = some (r, M', N') → ∀ (H : Heap) (locs : List Loc) (ls : Array Slot), va_P E.1 vwCl (xm_w (xj (xv E a) (xv E bb)) (xk 120 M N)) H → va_S (xm_A (xj (xv E a) (xv E bb)) s.heap.size) s.heap H locs → lv_has ls 10 [(0, .ref (a 0)), (1, .ref (bb 0)), (3, .int x3), (4, .int x4), (6, .int x6), (7, .int x7), (8, .int x8), (9, .int x9)] → W p l e { frames := 9, cells := 0, slots := 0, locals := 218 } s m args below meth c H locs 0 0 (MQ below (xm_Q E (xj (xv E a) (xv E bb)) (xk 120 M' N') s.heap.size (some r)) args s 0 0 (xm_A (xj (xv E a) (xv E bb)) s.heap.size)) (F0 m 197 ls [])) ∧ (∀ (M N : xm_M) (x3 : Int32) (x4 : Int32) (x7 : Int32) (x8 : Int32) (x9 : Int32) (r : Int32) (M' N' : xm_M), f_L_isPattern_S136 n 2 M N x3 x4 0 x7 x8 x9 = some (r, M', N') → ∀ (H : Heap) (locs : List Loc) (ls : Array Slot), va_P E.1 vwCl (xm_w (xj (xv E a) (xv E bb)) (xk 120 M N)) H → va_S (xm_A (xj (xv E a) (xv E bb)) s.heap.size) s.heap H locs → lv_has ls 10 [(0, .ref (a 0)), (1, .ref (bb 0)), (3, .int x3), (4, .int x4), (7, .int x7), (8, .int x8), (9, .int x9)] → W p l e { frames := 9, cells := 0, slots := 0, locals := 218 } s m args below meth c H locs 0 0 (MQ below (xm_Q E (xj (xv E a) (xv E bb)) (xk 120 M' N') s.heap.size (some r)) args s 0 0 (xm_A (xj (xv E a) (xv E bb)) s.heap.size)) (F0 m 218 ls [])) ∧ (∀ (M N : xm_M) (x3 : Int32) (x4 : Int32) (x7 : Int32) (x8 : Int32) (r : Int32) (M' N' : xm_M), f_L_isPattern_S136 n 3 M N x3 x4 0 x7 x8 0 = some (r, M', N') → ∀ (H : Heap) (locs : List Loc) (ls : Array Slot), va_P E.1 vwCl (xm_w (xj (xv E a) (xv E bb)) (xk 120 M N)) H → va_S (xm_A (xj (xv E a) (xv E bb)) s.heap.size) s.heap H locs → lv_has ls 10 [(0, .ref (a 0)), (1, .ref (bb 0)), (3, .int x3), (4, .int x4), (7, .int x7), (8, .int x8)] → W p l e { frames := 9, cells := 0, slots := 0, locals := 218 } s m args below meth c H locs 0 0 (MQ below (xm_Q E (xj (xv E a) (xv E bb)) (xk 120 M' N') s.heap.size (some r)) args s 0 0 (xm_A (xj (xv E a) (xv E bb)) s.heap.size)) (F0 m 264 ls [])) := by
  have C9 := C
  obtain ⟨hx, hb, hml, hown, hts, hr, hlk, hD, hK, hS9⟩ := C9
  have hDo := xj_D1 hD
  have hDp := xj_D2 hD
  intro n
  induction n with
  | zero =>
    refine ⟨fun M N x3 x4 x6 x7 r M' N' h => ?_, fun M N x3 x4 x6 x7 x8 x9 r M' N' h => ?_, fun M N x3 x4 x7 x8 x9 r M' N' h => ?_, fun M N x3 x4 x7 x8 r M' N' h => ?_⟩
    all_goals cases h
  | succ n ih =>
    refine ⟨fun M N x3 x4 x6 x7 r M' N' h H locs ls hP hS hl => ?_, fun M N x3 x4 x6 x7 x8 x9 r M' N' h H locs ls hP hS hl => ?_, fun M N x3 x4 x7 x8 x9 r M' N' h H locs ls hP hS hl => ?_, fun M N x3 x4 x7 x8 r M' N' h H locs ls hP hS hl => ?_⟩
    · rw [f_L_isPattern_S136] at h
      refine lv_iload hx hb dL_isPattern_136 (lv_at hl 5 rfl) ?_
      refine lv_iload hx hb dL_isPattern_138 (lv_at hl 3 rfl) ?_
      refine lv_icmp_ge (tgt := 296) hx hb dL_isPattern_140 (by decide) (fun c1 => ?_) (fun c1 => ?_)
      · rw [if_pos c1] at h
        refine lv_aload_n hx hb dL_isPattern_296 rfl (lv_at hl 0 rfl) ?_
        refine lv_iconst (v := 1) hx hb dL_isPattern_297 (by decide) ?_
        obtain ⟨r2, M3, e4, h⟩ := xm_b2_s h
        refine lm_o C hP hS [.int 1] [] (c_X6_count hDo n M 1 r2 M3 e4) k_L_47 rfl rfl rfl ⟨(Nat.le_of_ble_eq_true rfl), (Nat.le_of_ble_eq_true rfl)⟩ hl.1 (Nat.le_of_ble_eq_true rfl) ⟨(Nat.le_of_ble_eq_true rfl), (Nat.le_of_ble_eq_true rfl)⟩ dL_isPattern_298 (fun H locs hP hS => ?_)
        change W p l e _ s m _ below meth c H locs 0 0 _ (F0 m 301 ls [.int r2])
        refine lv_istore (lv' := [(7, .int r2), (0, .ref (a 0)), (1, .ref (bb 0)), (3, .int x3), (4, .int x4), (6, .int x6)]) hx hb dL_isPattern_301 hl (by decide) rfl (fun ls hl => ?_)
        refine lv_aload_n hx hb dL_isPattern_303 rfl (lv_at hl 1 rfl) ?_
        obtain ⟨r5, M6, e7, h⟩ := xm_b2_s h
        refine lm_o C hP hS [] [] (c_X6_addPattern hDo n M3 r5 M6 e7) k_L_51 rfl rfl rfl ⟨(Nat.le_of_ble_eq_true rfl), (Nat.le_of_ble_eq_true rfl)⟩ hl.1 (Nat.le_of_ble_eq_true rfl) ⟨(Nat.le_of_ble_eq_true rfl), (Nat.le_of_ble_eq_true rfl)⟩ dL_isPattern_304 (fun H locs hP hS => ?_)
        change W p l e _ s m _ below meth c H locs 0 0 _ (F0 m 307 ls [.int r5])
        refine lv_istore (lv' := [(8, .int r5), (7, .int r2), (0, .ref (a 0)), (1, .ref (bb 0)), (3, .int x3), (4, .int x4), (6, .int x6)]) hx hb dL_isPattern_307 hl (by decide) rfl (fun ls hl => ?_)
        refine lv_iload hx hb dL_isPattern_309 (lv_at hl 6 rfl) ?_
        refine lv_if_eq (tgt := 363) hx hb dL_isPattern_311 (by decide) (fun c8 => ?_) (fun c8 => ?_)
        · rw [if_pos c8] at h
          refine lv_iconst (v := 0) hx hb dL_isPattern_363 (by decide) ?_
          obtain ⟨rfl, rfl, rfl⟩ := xm_p3 h
          exact lm_retZ C hP hS (by rfl) dL_isPattern_364
        · rw [if_neg c8] at h
          refine lv_iload hx hb dL_isPattern_314 (lv_at hl 0 rfl) ?_
          refine lv_aload_n hx hb dL_isPattern_316 rfl (lv_at hl 3 rfl) ?_
          obtain ⟨r9, M10, e11, h⟩ := xm_b2_s h
          refine lm_p C hP hS [] [.int r5] (c_X6_addPattern hDp n N r9 M10 e11) k_L_51 rfl rfl rfl ⟨(Nat.le_of_ble_eq_true rfl), (Nat.le_of_ble_eq_true rfl)⟩ hl.1 (Nat.le_of_ble_eq_true rfl) ⟨(Nat.le_of_ble_eq_true rfl), (Nat.le_of_ble_eq_true rfl)⟩ dL_isPattern_317 (fun H locs hP hS => ?_)
          change W p l e _ s m _ below meth c H locs 0 0 _ (F0 m 320 ls [.int r9, .int r5])
          refine lv_icmp_ne (tgt := 363) hx hb dL_isPattern_320 (by decide) (fun c12 => ?_) (fun c12 => ?_)
          · rw [if_neg c12] at h
            refine lv_iconst (v := 0) hx hb dL_isPattern_363 (by decide) ?_
            obtain ⟨rfl, rfl, rfl⟩ := xm_p3 h
            exact lm_retZ C hP hS (by rfl) dL_isPattern_364
          · rw [if_pos c12] at h
            refine lv_iload hx hb dL_isPattern_323 (lv_at hl 0 rfl) ?_
            refine lv_iload hx hb dL_isPattern_325 (lv_at hl 1 rfl) ?_
            refine lv_iconst (v := 4) hx hb dL_isPattern_327 (by decide) ?_
            refine lv_icmp_ne (tgt := 336) hx hb dL_isPattern_328 (by decide) (fun c13 => ?_) (fun c13 => ?_)
            · rw [if_neg c13] at h
              refine lv_iload hx hb dL_isPattern_336 (lv_at hl 1 rfl) ?_
              refine lv_icmp_ne (tgt := 363) hx hb dL_isPattern_338 (by decide) (fun c14 => ?_) (fun c14 => ?_)
              · rw [if_neg c14] at h
                refine lv_iconst (v := 0) hx hb dL_isPattern_363 (by decide) ?_
                obtain ⟨rfl, rfl, rfl⟩ := xm_p3 h
                exact lm_retZ C hP hS (by rfl) dL_isPattern_364
              · rw [if_pos c14] at h
                refine lv_iload hx hb dL_isPattern_341 (lv_at hl 1 rfl) ?_
                refine lv_iconst (v := 4) hx hb dL_isPattern_343 (by decide) ?_
                refine lv_icmp_eq (tgt := 359) hx hb dL_isPattern_344 (by decide) (fun c15 => ?_) (fun c15 => ?_)
                · rw [if_pos c15] at h
                  refine lv_iconst (v := 1) hx hb dL_isPattern_359 (by decide) ?_
                  refine lv_goto (tgt := 364) hx hb dL_isPattern_360 (by decide) ?_
                  obtain ⟨rfl, rfl, rfl⟩ := xm_p3 h
                  exact lm_retZ C hP hS (by rfl) dL_isPattern_364
                · rw [if_neg c15] at h
                  refine lv_aload_n hx hb dL_isPattern_347 rfl (lv_at hl 2 rfl) ?_
                  refine lv_iload hx hb dL_isPattern_348 (lv_at hl 1 rfl) ?_
                  refine lv_iconst (v := 3) hx hb dL_isPattern_350 (by decide) ?_
                  obtain ⟨r16, M17, e18, h⟩ := xm_b2_s h
                  refine lm_o C hP hS [.int r2, .int 3] [] (c_X6_pattern hDo n M6 r2 3 r16 M17 e18) k_L_54 rfl rfl rfl ⟨(Nat.le_of_ble_eq_true rfl), (Nat.le_of_ble_eq_true rfl)⟩ hl.1 (Nat.le_of_ble_eq_true rfl) ⟨(Nat.le_of_ble_eq_true rfl), (Nat.le_of_ble_eq_true rfl)⟩ dL_isPattern_351 (fun H locs hP hS => ?_)
                  change W p l e _ s m _ below meth c H locs 0 0 _ (F0 m 354 ls [.int r16])
                  refine lv_iload hx hb dL_isPattern_354 (lv_at hl 5 rfl) ?_
                  refine lv_icmp_ne (tgt := 363) hx hb dL_isPattern_356 (by decide) (fun c19 => ?_) (fun c19 => ?_)
                  · rw [if_neg c19] at h
                    refine lv_iconst (v := 0) hx hb dL_isPattern_363 (by decide) ?_
                    obtain ⟨rfl, rfl, rfl⟩ := xm_p3 h
                    exact lm_retZ C hP hS (by rfl) dL_isPattern_364
                  · rw [if_pos c19] at h
                    refine lv_iconst (v := 1) hx hb dL_isPattern_359 (by decide) ?_
                    refine lv_goto (tgt := 364) hx hb dL_isPattern_360 (by decide) ?_
                    obtain ⟨rfl, rfl, rfl⟩ := xm_p3 h
                    exact lm_retZ C hP hS (by rfl) dL_isPattern_364
            · rw [if_pos c13] at h
              refine lv_bipush (v := (-3)) hx hb dL_isPattern_331 (by decide) ?_
              refine lv_goto (tgt := 338) hx hb dL_isPattern_333 (by decide) ?_
              refine lv_icmp_ne (tgt := 363) hx hb dL_isPattern_338 (by decide) (fun c20 => ?_) (fun c20 => ?_)
              · rw [if_neg c20] at h
                refine lv_iconst (v := 0) hx hb dL_isPattern_363 (by decide) ?_
                obtain ⟨rfl, rfl, rfl⟩ := xm_p3 h
                exact lm_retZ C hP hS (by rfl) dL_isPattern_364
              · rw [if_pos c20] at h
                refine lv_iload hx hb dL_isPattern_341 (lv_at hl 1 rfl) ?_
                refine lv_iconst (v := 4) hx hb dL_isPattern_343 (by decide) ?_
                refine lv_icmp_eq (tgt := 359) hx hb dL_isPattern_344 (by decide) (fun c21 => ?_) (fun c21 => ?_)
                · rw [if_pos c21] at h
                  refine lv_iconst (v := 1) hx hb dL_isPattern_359 (by decide) ?_
                  refine lv_goto (tgt := 364) hx hb dL_isPattern_360 (by decide) ?_
                  obtain ⟨rfl, rfl, rfl⟩ := xm_p3 h
                  exact lm_retZ C hP hS (by rfl) dL_isPattern_364
                · rw [if_neg c21] at h
                  refine lv_aload_n hx hb dL_isPattern_347 rfl (lv_at hl 2 rfl) ?_
                  refine lv_iload hx hb dL_isPattern_348 (lv_at hl 1 rfl) ?_
                  refine lv_iconst (v := 3) hx hb dL_isPattern_350 (by decide) ?_
                  obtain ⟨r22, M23, e24, h⟩ := xm_b2_s h
                  refine lm_o C hP hS [.int r2, .int 3] [] (c_X6_pattern hDo n M6 r2 3 r22 M23 e24) k_L_54 rfl rfl rfl ⟨(Nat.le_of_ble_eq_true rfl), (Nat.le_of_ble_eq_true rfl)⟩ hl.1 (Nat.le_of_ble_eq_true rfl) ⟨(Nat.le_of_ble_eq_true rfl), (Nat.le_of_ble_eq_true rfl)⟩ dL_isPattern_351 (fun H locs hP hS => ?_)
                  change W p l e _ s m _ below meth c H locs 0 0 _ (F0 m 354 ls [.int r22])
                  refine lv_iload hx hb dL_isPattern_354 (lv_at hl 5 rfl) ?_
                  refine lv_icmp_ne (tgt := 363) hx hb dL_isPattern_356 (by decide) (fun c25 => ?_) (fun c25 => ?_)
                  · rw [if_neg c25] at h
                    refine lv_iconst (v := 0) hx hb dL_isPattern_363 (by decide) ?_
                    obtain ⟨rfl, rfl, rfl⟩ := xm_p3 h
                    exact lm_retZ C hP hS (by rfl) dL_isPattern_364
                  · rw [if_pos c25] at h
                    refine lv_iconst (v := 1) hx hb dL_isPattern_359 (by decide) ?_
                    refine lv_goto (tgt := 364) hx hb dL_isPattern_360 (by decide) ?_
                    obtain ⟨rfl, rfl, rfl⟩ := xm_p3 h
                    exact lm_retZ C hP hS (by rfl) dL_isPattern_364
      · rw [if_neg c1] at h
        refine lv_bipush (v := 97) hx hb dL_isPattern_143 (by decide) ?_
        refine lv_iload_n hx hb dL_isPattern_145 rfl (lv_at hl 2 rfl) ?_
        refine lv_iconst (v := 3) hx hb dL_isPattern_146 (by decide) ?_
        refine lv_iload hx hb dL_isPattern_147 (lv_at hl 5 rfl) ?_
        refine lv_imul hx hb dL_isPattern_149 ?_
        refine lv_ishr hx hb dL_isPattern_150 ?_
        refine lv_iconst (v := 3) hx hb dL_isPattern_151 (by decide) ?_
        obtain ⟨r26, M27, N29, e28, h⟩ := xm_b3_s h
        refine xm_callS C hP hS [.int (x3 >>> ((((3 : Int32)) * x7) &&& 31)), .int 3] [.int 97] (c_L_up hD n M N (x3 >>> ((((3 : Int32)) * x7) &&& 31)) 3 r26 M27 N29 e28) k_L_17 rfl rfl ⟨(Nat.le_of_ble_eq_true rfl), (Nat.le_of_ble_eq_true rfl)⟩ hl.1 (Nat.le_of_ble_eq_true rfl) ⟨(Nat.le_of_ble_eq_true rfl), (Nat.le_of_ble_eq_true rfl)⟩ dL_isPattern_152 (fun H locs hP hS => ?_)
        change W p l e _ s m _ below meth c H locs 0 0 _ (F0 m 155 ls [.int r26, .int 97])
        refine lv_iadd hx hb dL_isPattern_155 ?_
        refine lv_istore (lv' := [(8, .int (((97 : Int32)) + r26)), (0, .ref (a 0)), (1, .ref (bb 0)), (3, .int x3), (4, .int x4), (6, .int x6), (7, .int x7)]) hx hb dL_isPattern_156 hl (by decide) rfl (fun ls hl => ?_)
        refine lv_iload hx hb dL_isPattern_158 (lv_at hl 6 rfl) ?_
        refine lv_if_le (tgt := 194) hx hb dL_isPattern_160 (by decide) (fun c30 => ?_) (fun c30 => ?_)
        · rw [if_pos c30] at h
          refine lv_iconst (v := 0) hx hb dL_isPattern_194 (by decide) ?_
          refine lv_istore (lv' := [(9, .int 0), (8, .int (((97 : Int32)) + r26)), (0, .ref (a 0)), (1, .ref (bb 0)), (3, .int x3), (4, .int x4), (6, .int x6), (7, .int x7)]) hx hb dL_isPattern_195 hl (by decide) rfl (fun ls hl => ?_)
          exact ih.2.1 M27 N29 x3 x4 x6 x7 (((97 : Int32)) + r26) 0 r M' N' h _ _ _ hP hS (lv_sub hl [2, 3, 4, 5, 6, 7, 1, 0] rfl)
        · rw [if_neg c30] at h
          refine lv_iload_n hx hb dL_isPattern_163 rfl (lv_at hl 3 rfl) ?_
          refine lv_bipush (v := 7) hx hb dL_isPattern_164 (by decide) ?_
          refine lv_iload hx hb dL_isPattern_166 (lv_at hl 6 rfl) ?_
          refine lv_iadd hx hb dL_isPattern_168 ?_
          refine lv_ishr hx hb dL_isPattern_169 ?_
          refine lv_iconst (v := 3) hx hb dL_isPattern_170 (by decide) ?_
          obtain ⟨r31, M32, N34, e33, h⟩ := xm_b3_s h
          refine xm_callS C hP hS [.int (x3 >>> ((((7 : Int32)) + x7) &&& 31)), .int 3] [] (c_L_up hD n M27 N29 (x3 >>> ((((7 : Int32)) + x7) &&& 31)) 3 r31 M32 N34 e33) k_L_17 rfl rfl ⟨(Nat.le_of_ble_eq_true rfl), (Nat.le_of_ble_eq_true rfl)⟩ hl.1 (Nat.le_of_ble_eq_true rfl) ⟨(Nat.le_of_ble_eq_true rfl), (Nat.le_of_ble_eq_true rfl)⟩ dL_isPattern_171 (fun H locs hP hS => ?_)
          change W p l e _ s m _ below meth c H locs 0 0 _ (F0 m 174 ls [.int r31])
          refine lv_if_ne (tgt := 194) hx hb dL_isPattern_174 (by decide) (fun c35 => ?_) (fun c35 => ?_)
          · rw [if_neg c35] at h
            refine lv_iconst (v := 0) hx hb dL_isPattern_194 (by decide) ?_
            refine lv_istore (lv' := [(9, .int 0), (8, .int (((97 : Int32)) + r26)), (0, .ref (a 0)), (1, .ref (bb 0)), (3, .int x3), (4, .int x4), (6, .int x6), (7, .int x7)]) hx hb dL_isPattern_195 hl (by decide) rfl (fun ls hl => ?_)
            exact ih.2.1 M32 N34 x3 x4 x6 x7 (((97 : Int32)) + r26) 0 r M' N' h _ _ _ hP hS (lv_sub hl [2, 3, 4, 5, 6, 7, 1, 0] rfl)
          · rw [if_pos c35] at h
            refine lv_bipush (v := 97) hx hb dL_isPattern_177 (by decide) ?_
            refine lv_iload_n hx hb dL_isPattern_179 rfl (lv_at hl 3 rfl) ?_
            refine lv_bipush (v := 9) hx hb dL_isPattern_180 (by decide) ?_
            refine lv_iload hx hb dL_isPattern_182 (lv_at hl 6 rfl) ?_
            refine lv_iadd hx hb dL_isPattern_184 ?_
            refine lv_ishr hx hb dL_isPattern_185 ?_
            refine lv_iconst (v := 5) hx hb dL_isPattern_186 (by decide) ?_
            obtain ⟨r36, M37, N39, e38, h⟩ := xm_b3_s h
            refine xm_callS C hP hS [.int (x3 >>> ((((9 : Int32)) + x7) &&& 31)), .int 5] [.int 97] (c_L_up hD n M32 N34 (x3 >>> ((((9 : Int32)) + x7) &&& 31)) 5 r36 M37 N39 e38) k_L_17 rfl rfl ⟨(Nat.le_of_ble_eq_true rfl), (Nat.le_of_ble_eq_true rfl)⟩ hl.1 (Nat.le_of_ble_eq_true rfl) ⟨(Nat.le_of_ble_eq_true rfl), (Nat.le_of_ble_eq_true rfl)⟩ dL_isPattern_187 (fun H locs hP hS => ?_)
            change W p l e _ s m _ below meth c H locs 0 0 _ (F0 m 190 ls [.int r36, .int 97])
            refine lv_iadd hx hb dL_isPattern_190 ?_
            refine lv_goto (tgt := 195) hx hb dL_isPattern_191 (by decide) ?_
            refine lv_istore (lv' := [(9, .int (((97 : Int32)) + r36)), (8, .int (((97 : Int32)) + r26)), (0, .ref (a 0)), (1, .ref (bb 0)), (3, .int x3), (4, .int x4), (6, .int x6), (7, .int x7)]) hx hb dL_isPattern_195 hl (by decide) rfl (fun ls hl => ?_)
            exact ih.2.1 M37 N39 x3 x4 x6 x7 (((97 : Int32)) + r26) (((97 : Int32)) + r36) r M' N' h _ _ _ hP hS (lv_sub hl [2, 3, 4, 5, 6, 7, 1, 0] rfl)
    · rw [f_L_isPattern_S136] at h
      refine lv_iload hx hb dL_isPattern_197 (lv_at hl 4 rfl) ?_
      refine lv_if_eq (tgt := 287) hx hb dL_isPattern_199 (by decide) (fun c1 => ?_) (fun c1 => ?_)
      · rw [if_pos c1] at h
        refine lv_iconst (v := 0) hx hb dL_isPattern_287 (by decide) ?_
        refine lv_istore (lv' := [(6, .int 0), (0, .ref (a 0)), (1, .ref (bb 0)), (3, .int x3), (4, .int x4), (7, .int x7), (8, .int x8), (9, .int x9)]) hx hb dL_isPattern_288 hl (by decide) rfl (fun ls hl => ?_)
        refine lv_iinc (v := x7 + 1) (lv' := [(7, .int (x7 + 1)), (6, .int 0), (0, .ref (a 0)), (1, .ref (bb 0)), (3, .int x3), (4, .int x4), (8, .int x8), (9, .int x9)]) hx hb dL_isPattern_290 hl (k := 5) rfl (xm_add (by decide)) (by decide) rfl (fun ls hl => ?_)
        refine lv_goto (tgt := 136) hx hb dL_isPattern_293 (by decide) ?_
        exact ih.1 M N x3 x4 0 (x7 + 1) r M' N' h _ _ _ hP hS (lv_sub hl [2, 3, 4, 5, 1, 0] rfl)
      · rw [if_neg c1] at h
        refine lv_iload hx hb dL_isPattern_202 (lv_at hl 5 rfl) ?_
        refine lv_if_eq (tgt := 218) hx hb dL_isPattern_204 (by decide) (fun c2 => ?_) (fun c2 => ?_)
        · rw [if_pos c2] at h
          exact ih.2.2.1 M N x3 x4 x7 x8 x9 r M' N' h _ _ _ hP hS (lv_sub hl [0, 1, 2, 3, 5, 6, 7] rfl)
        · rw [if_neg c2] at h
          refine lv_aload_n hx hb dL_isPattern_207 rfl (lv_at hl 0 rfl) ?_
          refine lv_aload_n hx hb dL_isPattern_208 rfl (lv_at hl 1 rfl) ?_
          refine lv_ldc2 (v := 11296) hx hb hown (hts _ q_L_39) dL_isPattern_209 ?_
          obtain ⟨r3, M4, N6, e5, h⟩ := xm_b3_s h
          refine xm_callS C hP hS [.ref (a 0), .ref (bb 0), .long 11296] [] (c_L_types hD n M N 11296 r3 M4 N6 e5) k_L_29 rfl rfl ⟨(Nat.le_of_ble_eq_true rfl), (Nat.le_of_ble_eq_true rfl)⟩ hl.1 (Nat.le_of_ble_eq_true rfl) ⟨(Nat.le_of_ble_eq_true rfl), (Nat.le_of_ble_eq_true rfl)⟩ dL_isPattern_212 (fun H locs hP hS => ?_)
          change W p l e _ s m _ below meth c H locs 0 0 _ (F0 m 215 ls [.int r3])
          refine lv_if_eq (tgt := 287) hx hb dL_isPattern_215 (by decide) (fun c7 => ?_) (fun c7 => ?_)
          · rw [if_pos c7] at h
            refine lv_iconst (v := 0) hx hb dL_isPattern_287 (by decide) ?_
            refine lv_istore (lv' := [(6, .int 0), (0, .ref (a 0)), (1, .ref (bb 0)), (3, .int x3), (4, .int x4), (7, .int x7), (8, .int x8), (9, .int x9)]) hx hb dL_isPattern_288 hl (by decide) rfl (fun ls hl => ?_)
            refine lv_iinc (v := x7 + 1) (lv' := [(7, .int (x7 + 1)), (6, .int 0), (0, .ref (a 0)), (1, .ref (bb 0)), (3, .int x3), (4, .int x4), (8, .int x8), (9, .int x9)]) hx hb dL_isPattern_290 hl (k := 5) rfl (xm_add (by decide)) (by decide) rfl (fun ls hl => ?_)
            refine lv_goto (tgt := 136) hx hb dL_isPattern_293 (by decide) ?_
            exact ih.1 M4 N6 x3 x4 0 (x7 + 1) r M' N' h _ _ _ hP hS (lv_sub hl [2, 3, 4, 5, 1, 0] rfl)
          · rw [if_neg c7] at h
            exact ih.2.2.1 M4 N6 x3 x4 x7 x8 x9 r M' N' h _ _ _ hP hS (lv_sub hl [0, 1, 2, 3, 5, 6, 7] rfl)
    · rw [f_L_isPattern_S136] at h
      refine lv_iload hx hb dL_isPattern_218 (lv_at hl 6 rfl) ?_
      refine lv_if_eq (tgt := 264) hx hb dL_isPattern_220 (by decide) (fun c1 => ?_) (fun c1 => ?_)
      · rw [if_pos c1] at h
        exact ih.2.2.2 M N x3 x4 x7 x8 r M' N' h _ _ _ hP hS (lv_sub hl [0, 1, 2, 3, 4, 5] rfl)
      · rw [if_neg c1] at h
        refine lv_aload_n hx hb dL_isPattern_223 rfl (lv_at hl 0 rfl) ?_
        refine lv_aload_n hx hb dL_isPattern_224 rfl (lv_at hl 1 rfl) ?_
        refine lv_ldc2 (v := 7237408) hx hb hown (hts _ q_L_41) dL_isPattern_225 ?_
        obtain ⟨r2, M3, N5, e4, h⟩ := xm_b3_s h
        refine xm_callS C hP hS [.ref (a 0), .ref (bb 0), .long 7237408] [] (c_L_types hD n M N 7237408 r2 M3 N5 e4) k_L_29 rfl rfl ⟨(Nat.le_of_ble_eq_true rfl), (Nat.le_of_ble_eq_true rfl)⟩ hl.1 (Nat.le_of_ble_eq_true rfl) ⟨(Nat.le_of_ble_eq_true rfl), (Nat.le_of_ble_eq_true rfl)⟩ dL_isPattern_228 (fun H locs hP hS => ?_)
        change W p l e _ s m _ below meth c H locs 0 0 _ (F0 m 231 ls [.int r2])
        refine lv_if_eq (tgt := 287) hx hb dL_isPattern_231 (by decide) (fun c6 => ?_) (fun c6 => ?_)
        · rw [if_pos c6] at h
          refine lv_iconst (v := 0) hx hb dL_isPattern_287 (by decide) ?_
          refine lv_istore (lv' := [(6, .int 0), (0, .ref (a 0)), (1, .ref (bb 0)), (3, .int x3), (4, .int x4), (7, .int x7), (8, .int x8), (9, .int x9)]) hx hb dL_isPattern_288 hl (by decide) rfl (fun ls hl => ?_)
          refine lv_iinc (v := x7 + 1) (lv' := [(7, .int (x7 + 1)), (6, .int 0), (0, .ref (a 0)), (1, .ref (bb 0)), (3, .int x3), (4, .int x4), (8, .int x8), (9, .int x9)]) hx hb dL_isPattern_290 hl (k := 5) rfl (xm_add (by decide)) (by decide) rfl (fun ls hl => ?_)
          refine lv_goto (tgt := 136) hx hb dL_isPattern_293 (by decide) ?_
          exact ih.1 M3 N5 x3 x4 0 (x7 + 1) r M' N' h _ _ _ hP hS (lv_sub hl [2, 3, 4, 5, 1, 0] rfl)
        · rw [if_neg c6] at h
          refine lv_aload_n hx hb dL_isPattern_234 rfl (lv_at hl 0 rfl) ?_
          refine lv_iload hx hb dL_isPattern_235 (lv_at hl 6 rfl) ?_
          refine lv_i2c (v := (x9.toUInt32 % 65536).toInt32) hx hb dL_isPattern_237 rfl ?_
          obtain ⟨r7, M8, e9, h⟩ := xm_b2_s h
          refine lm_o C hP hS [.int ((x9.toUInt32 % 65536).toInt32)] [] (c_X6_type hDo n M3 ((x9.toUInt32 % 65536).toInt32) r7 M8 e9) k_L_11 rfl rfl rfl ⟨(Nat.le_of_ble_eq_true rfl), (Nat.le_of_ble_eq_true rfl)⟩ hl.1 (Nat.le_of_ble_eq_true rfl) ⟨(Nat.le_of_ble_eq_true rfl), (Nat.le_of_ble_eq_true rfl)⟩ dL_isPattern_238 (fun H locs hP hS => ?_)
          change W p l e _ s m _ below meth c H locs 0 0 _ (F0 m 241 ls [.int r7])
          refine lv_aload_n hx hb dL_isPattern_241 rfl (lv_at hl 1 rfl) ?_
          refine lv_iload hx hb dL_isPattern_242 (lv_at hl 6 rfl) ?_
          obtain ⟨r10, M11, N13, e12, h⟩ := xm_b3_s h
          refine xm_callS C hP hS [.int x9] [.ref (bb 0), .int r7] (c_L_there hD n M8 N5 x9 r10 M11 N13 e12) k_L_43 rfl rfl ⟨(Nat.le_of_ble_eq_true rfl), (Nat.le_of_ble_eq_true rfl)⟩ hl.1 (Nat.le_of_ble_eq_true rfl) ⟨(Nat.le_of_ble_eq_true rfl), (Nat.le_of_ble_eq_true rfl)⟩ dL_isPattern_244 (fun H locs hP hS => ?_)
          change W p l e _ s m _ below meth c H locs 0 0 _ (F0 m 247 ls [.int r10, .ref (bb 0), .int r7])
          obtain ⟨r14, M15, e16, h⟩ := xm_b2_s h
          refine lm_p C hP hS [.int r10] [.int r7] (c_X6_type hDp n N13 r10 r14 M15 e16) k_L_11 rfl rfl rfl ⟨(Nat.le_of_ble_eq_true rfl), (Nat.le_of_ble_eq_true rfl)⟩ hl.1 (Nat.le_of_ble_eq_true rfl) ⟨(Nat.le_of_ble_eq_true rfl), (Nat.le_of_ble_eq_true rfl)⟩ dL_isPattern_247 (fun H locs hP hS => ?_)
          change W p l e _ s m _ below meth c H locs 0 0 _ (F0 m 250 ls [.int r14, .int r7])
          refine lv_icmp_ne (tgt := 287) hx hb dL_isPattern_250 (by decide) (fun c17 => ?_) (fun c17 => ?_)
          · rw [if_neg c17] at h
            refine lv_iconst (v := 0) hx hb dL_isPattern_287 (by decide) ?_
            refine lv_istore (lv' := [(6, .int 0), (0, .ref (a 0)), (1, .ref (bb 0)), (3, .int x3), (4, .int x4), (7, .int x7), (8, .int x8), (9, .int x9)]) hx hb dL_isPattern_288 hl (by decide) rfl (fun ls hl => ?_)
            refine lv_iinc (v := x7 + 1) (lv' := [(7, .int (x7 + 1)), (6, .int 0), (0, .ref (a 0)), (1, .ref (bb 0)), (3, .int x3), (4, .int x4), (8, .int x8), (9, .int x9)]) hx hb dL_isPattern_290 hl (k := 5) rfl (xm_add (by decide)) (by decide) rfl (fun ls hl => ?_)
            refine lv_goto (tgt := 136) hx hb dL_isPattern_293 (by decide) ?_
            exact ih.1 M11 M15 x3 x4 0 (x7 + 1) r M' N' h _ _ _ hP hS (lv_sub hl [2, 3, 4, 5, 1, 0] rfl)
          · rw [if_pos c17] at h
            refine lv_aload_n hx hb dL_isPattern_253 rfl (lv_at hl 0 rfl) ?_
            refine lv_aload_n hx hb dL_isPattern_254 rfl (lv_at hl 1 rfl) ?_
            refine lv_ldc2 (v := 11296) hx hb hown (hts _ q_L_39) dL_isPattern_255 ?_
            obtain ⟨r18, M19, N21, e20, h⟩ := xm_b3_s h
            refine xm_callS C hP hS [.ref (a 0), .ref (bb 0), .long 11296] [] (c_L_types hD n M11 M15 11296 r18 M19 N21 e20) k_L_29 rfl rfl ⟨(Nat.le_of_ble_eq_true rfl), (Nat.le_of_ble_eq_true rfl)⟩ hl.1 (Nat.le_of_ble_eq_true rfl) ⟨(Nat.le_of_ble_eq_true rfl), (Nat.le_of_ble_eq_true rfl)⟩ dL_isPattern_258 (fun H locs hP hS => ?_)
            change W p l e _ s m _ below meth c H locs 0 0 _ (F0 m 261 ls [.int r18])
            refine lv_if_eq (tgt := 287) hx hb dL_isPattern_261 (by decide) (fun c22 => ?_) (fun c22 => ?_)
            · rw [if_pos c22] at h
              refine lv_iconst (v := 0) hx hb dL_isPattern_287 (by decide) ?_
              refine lv_istore (lv' := [(6, .int 0), (0, .ref (a 0)), (1, .ref (bb 0)), (3, .int x3), (4, .int x4), (7, .int x7), (8, .int x8), (9, .int x9)]) hx hb dL_isPattern_288 hl (by decide) rfl (fun ls hl => ?_)
              refine lv_iinc (v := x7 + 1) (lv' := [(7, .int (x7 + 1)), (6, .int 0), (0, .ref (a 0)), (1, .ref (bb 0)), (3, .int x3), (4, .int x4), (8, .int x8), (9, .int x9)]) hx hb dL_isPattern_290 hl (k := 5) rfl (xm_add (by decide)) (by decide) rfl (fun ls hl => ?_)
              refine lv_goto (tgt := 136) hx hb dL_isPattern_293 (by decide) ?_
              exact ih.1 M19 N21 x3 x4 0 (x7 + 1) r M' N' h _ _ _ hP hS (lv_sub hl [2, 3, 4, 5, 1, 0] rfl)
            · rw [if_neg c22] at h
              exact ih.2.2.2 M19 N21 x3 x4 x7 x8 r M' N' h _ _ _ hP hS (lv_sub hl [0, 1, 2, 3, 4, 5] rfl)
    · rw [f_L_isPattern_S136] at h
      refine lv_aload_n hx hb dL_isPattern_264 rfl (lv_at hl 0 rfl) ?_
      refine lv_iload hx hb dL_isPattern_265 (lv_at hl 5 rfl) ?_
      refine lv_i2c (v := (x8.toUInt32 % 65536).toInt32) hx hb dL_isPattern_267 rfl ?_
      obtain ⟨r1, M2, e3, h⟩ := xm_b2_s h
      refine lm_o C hP hS [.int ((x8.toUInt32 % 65536).toInt32)] [] (c_X6_type hDo n M ((x8.toUInt32 % 65536).toInt32) r1 M2 e3) k_L_11 rfl rfl rfl ⟨(Nat.le_of_ble_eq_true rfl), (Nat.le_of_ble_eq_true rfl)⟩ hl.1 (Nat.le_of_ble_eq_true rfl) ⟨(Nat.le_of_ble_eq_true rfl), (Nat.le_of_ble_eq_true rfl)⟩ dL_isPattern_268 (fun H locs hP hS => ?_)
      change W p l e _ s m _ below meth c H locs 0 0 _ (F0 m 271 ls [.int r1])
      refine lv_aload_n hx hb dL_isPattern_271 rfl (lv_at hl 1 rfl) ?_
      refine lv_iload hx hb dL_isPattern_272 (lv_at hl 5 rfl) ?_
      obtain ⟨r4, M5, N7, e6, h⟩ := xm_b3_s h
      refine xm_callS C hP hS [.int x8] [.ref (bb 0), .int r1] (c_L_there hD n M2 N x8 r4 M5 N7 e6) k_L_43 rfl rfl ⟨(Nat.le_of_ble_eq_true rfl), (Nat.le_of_ble_eq_true rfl)⟩ hl.1 (Nat.le_of_ble_eq_true rfl) ⟨(Nat.le_of_ble_eq_true rfl), (Nat.le_of_ble_eq_true rfl)⟩ dL_isPattern_274 (fun H locs hP hS => ?_)
      change W p l e _ s m _ below meth c H locs 0 0 _ (F0 m 277 ls [.int r4, .ref (bb 0), .int r1])
      obtain ⟨r8, M9, e10, h⟩ := xm_b2_s h
      refine lm_p C hP hS [.int r4] [.int r1] (c_X6_type hDp n N7 r4 r8 M9 e10) k_L_11 rfl rfl rfl ⟨(Nat.le_of_ble_eq_true rfl), (Nat.le_of_ble_eq_true rfl)⟩ hl.1 (Nat.le_of_ble_eq_true rfl) ⟨(Nat.le_of_ble_eq_true rfl), (Nat.le_of_ble_eq_true rfl)⟩ dL_isPattern_277 (fun H locs hP hS => ?_)
      change W p l e _ s m _ below meth c H locs 0 0 _ (F0 m 280 ls [.int r8, .int r1])
      refine lv_icmp_ne (tgt := 287) hx hb dL_isPattern_280 (by decide) (fun c11 => ?_) (fun c11 => ?_)
      · rw [if_neg c11] at h
        refine lv_iconst (v := 0) hx hb dL_isPattern_287 (by decide) ?_
        refine lv_istore (lv' := [(6, .int 0), (0, .ref (a 0)), (1, .ref (bb 0)), (3, .int x3), (4, .int x4), (7, .int x7), (8, .int x8)]) hx hb dL_isPattern_288 hl (by decide) rfl (fun ls hl => ?_)
        refine lv_iinc (v := x7 + 1) (lv' := [(7, .int (x7 + 1)), (6, .int 0), (0, .ref (a 0)), (1, .ref (bb 0)), (3, .int x3), (4, .int x4), (8, .int x8)]) hx hb dL_isPattern_290 hl (k := 5) rfl (xm_add (by decide)) (by decide) rfl (fun ls hl => ?_)
        refine lv_goto (tgt := 136) hx hb dL_isPattern_293 (by decide) ?_
        exact ih.1 M5 M9 x3 x4 0 (x7 + 1) r M' N' h _ _ _ hP hS (lv_sub hl [2, 3, 4, 5, 1, 0] rfl)
      · rw [if_pos c11] at h
        refine lv_iconst (v := 1) hx hb dL_isPattern_283 (by decide) ?_
        refine lv_goto (tgt := 288) hx hb dL_isPattern_284 (by decide) ?_
        refine lv_istore (lv' := [(6, .int 1), (0, .ref (a 0)), (1, .ref (bb 0)), (3, .int x3), (4, .int x4), (7, .int x7), (8, .int x8)]) hx hb dL_isPattern_288 hl (by decide) rfl (fun ls hl => ?_)
        refine lv_iinc (v := x7 + 1) (lv' := [(7, .int (x7 + 1)), (6, .int 1), (0, .ref (a 0)), (1, .ref (bb 0)), (3, .int x3), (4, .int x4), (8, .int x8)]) hx hb dL_isPattern_290 hl (k := 5) rfl (xm_add (by decide)) (by decide) rfl (fun ls hl => ?_)
        refine lv_goto (tgt := 136) hx hb dL_isPattern_293 (by decide) ?_
        exact ih.1 M5 M9 x3 x4 1 (x7 + 1) r M' N' h _ _ _ hP hS (lv_sub hl [2, 3, 4, 5, 1, 0] rfl)
theorem t_L_isPattern_136 {l : Launch} {p : Program} {e : Env} {s : State} {m : MethodId} {args : Array Value} {below : List Frame} {meth : Method} {c : Code} {E : xm_E} {a : Nat → Nat} {bb : Nat → Nat} (C : xm_C E (xj (xv E a) (xv E bb)) p s m args meth c RL cL_isPattern 10 (some .boolean)) (n : Nat) (M N : xm_M) (x3 : Int32) (x4 : Int32) (x6 : Int32) (x7 : Int32) (r : Int32) (M' N' : xm_M) : f_L_isPattern_136 n M N x3 x4 x6 x7 = some (r, M', N') → ∀ (H : Heap) (locs : List Loc) (ls : Array Slot), va_P E.1 vwCl (xm_w (xj (xv E a) (xv E bb)) (xk 120 M N)) H → va_S (xm_A (xj (xv E a) (xv E bb)) s.heap.size) s.heap H locs → lv_has ls 10 [(0, .ref (a 0)), (1, .ref (bb 0)), (3, .int x3), (4, .int x4), (6, .int x6), (7, .int x7)] → W p l e { frames := 9, cells := 0, slots := 0, locals := 218 } s m args below meth c H locs 0 0 (MQ below (xm_Q E (xj (xv E a) (xv E bb)) (xk 120 M' N') s.heap.size (some r)) args s 0 0 (xm_A (xj (xv E a) (xv E bb)) s.heap.size)) (F0 m 136 ls []) :=
  fun h H locs ls hP hS hl => (t_L_isPattern_S136 C n).1 M N x3 x4 x6 x7 r M' N' h H locs ls hP hS hl
theorem t_L_isPattern_197 {l : Launch} {p : Program} {e : Env} {s : State} {m : MethodId} {args : Array Value} {below : List Frame} {meth : Method} {c : Code} {E : xm_E} {a : Nat → Nat} {bb : Nat → Nat} (C : xm_C E (xj (xv E a) (xv E bb)) p s m args meth c RL cL_isPattern 10 (some .boolean)) (n : Nat) (M N : xm_M) (x3 : Int32) (x4 : Int32) (x6 : Int32) (x7 : Int32) (x8 : Int32) (x9 : Int32) (r : Int32) (M' N' : xm_M) : f_L_isPattern_197 n M N x3 x4 x6 x7 x8 x9 = some (r, M', N') → ∀ (H : Heap) (locs : List Loc) (ls : Array Slot), va_P E.1 vwCl (xm_w (xj (xv E a) (xv E bb)) (xk 120 M N)) H → va_S (xm_A (xj (xv E a) (xv E bb)) s.heap.size) s.heap H locs → lv_has ls 10 [(0, .ref (a 0)), (1, .ref (bb 0)), (3, .int x3), (4, .int x4), (6, .int x6), (7, .int x7), (8, .int x8), (9, .int x9)] → W p l e { frames := 9, cells := 0, slots := 0, locals := 218 } s m args below meth c H locs 0 0 (MQ below (xm_Q E (xj (xv E a) (xv E bb)) (xk 120 M' N') s.heap.size (some r)) args s 0 0 (xm_A (xj (xv E a) (xv E bb)) s.heap.size)) (F0 m 197 ls []) :=
  fun h H locs ls hP hS hl => (t_L_isPattern_S136 C n).2.1 M N x3 x4 x6 x7 x8 x9 r M' N' h H locs ls hP hS hl
theorem t_L_isPattern_218 {l : Launch} {p : Program} {e : Env} {s : State} {m : MethodId} {args : Array Value} {below : List Frame} {meth : Method} {c : Code} {E : xm_E} {a : Nat → Nat} {bb : Nat → Nat} (C : xm_C E (xj (xv E a) (xv E bb)) p s m args meth c RL cL_isPattern 10 (some .boolean)) (n : Nat) (M N : xm_M) (x3 : Int32) (x4 : Int32) (x7 : Int32) (x8 : Int32) (x9 : Int32) (r : Int32) (M' N' : xm_M) : f_L_isPattern_218 n M N x3 x4 x7 x8 x9 = some (r, M', N') → ∀ (H : Heap) (locs : List Loc) (ls : Array Slot), va_P E.1 vwCl (xm_w (xj (xv E a) (xv E bb)) (xk 120 M N)) H → va_S (xm_A (xj (xv E a) (xv E bb)) s.heap.size) s.heap H locs → lv_has ls 10 [(0, .ref (a 0)), (1, .ref (bb 0)), (3, .int x3), (4, .int x4), (7, .int x7), (8, .int x8), (9, .int x9)] → W p l e { frames := 9, cells := 0, slots := 0, locals := 218 } s m args below meth c H locs 0 0 (MQ below (xm_Q E (xj (xv E a) (xv E bb)) (xk 120 M' N') s.heap.size (some r)) args s 0 0 (xm_A (xj (xv E a) (xv E bb)) s.heap.size)) (F0 m 218 ls []) :=
  fun h H locs ls hP hS hl => (t_L_isPattern_S136 C n).2.2.1 M N x3 x4 x7 x8 x9 r M' N' h H locs ls hP hS hl
theorem t_L_isPattern_264 {l : Launch} {p : Program} {e : Env} {s : State} {m : MethodId} {args : Array Value} {below : List Frame} {meth : Method} {c : Code} {E : xm_E} {a : Nat → Nat} {bb : Nat → Nat} (C : xm_C E (xj (xv E a) (xv E bb)) p s m args meth c RL cL_isPattern 10 (some .boolean)) (n : Nat) (M N : xm_M) (x3 : Int32) (x4 : Int32) (x7 : Int32) (x8 : Int32) (r : Int32) (M' N' : xm_M) : f_L_isPattern_264 n M N x3 x4 x7 x8 = some (r, M', N') → ∀ (H : Heap) (locs : List Loc) (ls : Array Slot), va_P E.1 vwCl (xm_w (xj (xv E a) (xv E bb)) (xk 120 M N)) H → va_S (xm_A (xj (xv E a) (xv E bb)) s.heap.size) s.heap H locs → lv_has ls 10 [(0, .ref (a 0)), (1, .ref (bb 0)), (3, .int x3), (4, .int x4), (7, .int x7), (8, .int x8)] → W p l e { frames := 9, cells := 0, slots := 0, locals := 218 } s m args below meth c H locs 0 0 (MQ below (xm_Q E (xj (xv E a) (xv E bb)) (xk 120 M' N') s.heap.size (some r)) args s 0 0 (xm_A (xj (xv E a) (xv E bb)) s.heap.size)) (F0 m 264 ls []) :=
  fun h H locs ls hP hS hl => (t_L_isPattern_S136 C n).2.2.2 M N x3 x4 x7 x8 r M' N' h H locs ls hP hS hl
def f_L_isPattern (n : Nat) (M N : xm_M) (x2 : Int32) (x3 : Int32) : Option (Int32 × xm_M × xm_M) := xm_b3 (f_L_up n M N x2 3) (fun r1 M2 N4 => xm_b3 (f_L_up n M2 N4 (x2 >>> ((2 : Int32) &&& 31)) 5) (fun r5 M6 N8 => xm_b2 (f_X6_clearText n M6) (fun r9 M10 => xm_b2 (f_X6_clearText n N8) (fun r12 M13 => if r9 = r12 then xm_b3 (f_L_types n M10 M13 33611470917430816) (fun r16 M17 N19 => if r16 = 0 then f_L_isPattern_136 n M17 N19 x3 (((2 : Int32)) + r1) 0 0 else xm_b3 (f_L_up n M17 N19 (x2 >>> ((4 : Int32) &&& 31)) 9) (fun r21 M22 N24 => xm_b3 (f_L_types n M22 N24 ((((49 : Int32)) + r21).toInt64)) (fun r25 M26 N28 => if r25 = 0 then f_L_isPattern_136 n M26 N28 x3 (((2 : Int32)) + r1) 0 0 else xm_b3 (f_L_up n M26 N28 (x2 >>> ((6 : Int32) &&& 31)) 10) (fun r30 M31 N33 => xm_b3 (f_L_types n M31 N33 ((((48 : Int32)) + r30).toInt64)) (fun r34 M35 N37 => if r34 = 0 then f_L_isPattern_136 n M35 N37 x3 (((2 : Int32)) + r1) 0 0 else xm_b3 (f_L_types n M35 N37 32) (fun r39 M40 N42 => if r39 = 0 then f_L_isPattern_136 n M40 N42 x3 (((2 : Int32)) + r1) 0 0 else if (2 : Int32) < r5 then f_L_isPattern_136 n M40 N42 x3 (((2 : Int32)) + r1) 1 0 else if r5 = 0 then f_L_isPattern_136 n M40 N42 x3 (((2 : Int32)) + r1) 1 0 else if r5 = 1 then xm_b3 (f_L_types n M40 N42 32204091756013344) (fun r52 M53 N55 => if r52 = 0 then f_L_isPattern_136 n M53 N55 x3 (((2 : Int32)) + r1) 0 0 else f_L_isPattern_136 n M53 N55 x3 (((2 : Int32)) + r1) 1 0) else xm_b3 (f_L_types n M40 N42 107118253008160) (fun r47 M48 N50 => if r47 = 0 then f_L_isPattern_136 n M48 N50 x3 (((2 : Int32)) + r1) 0 0 else f_L_isPattern_136 n M48 N50 x3 (((2 : Int32)) + r1) 1 0))))))) else f_L_isPattern_136 n M10 M13 x3 (((2 : Int32)) + r1) 0 0))))
set_option maxHeartbeats 4000000 in
set_option maxRecDepth 100000 in
theorem t_L_isPattern_0 {l : Launch} {p : Program} {e : Env} {s : State} {m : MethodId} {args : Array Value} {below : List Frame} {meth : Method} {c : Code} {E : xm_E} {a : Nat → Nat} {bb : Nat → Nat} (C : xm_C E (xj (xv E a) (xv E bb)) p s m args meth c RL cL_isPattern 10 (some .boolean)) (n : Nat) (M N : xm_M) (x2 : Int32) (x3 : Int32) (r : Int32) (M' N' : xm_M) : f_L_isPattern n M N x2 x3 = some (r, M', N') → ∀ (H : Heap) (locs : List Loc) (ls : Array Slot), va_P E.1 vwCl (xm_w (xj (xv E a) (xv E bb)) (xk 120 M N)) H → va_S (xm_A (xj (xv E a) (xv E bb)) s.heap.size) s.heap H locs → lv_has ls 10 [(0, .ref (a 0)), (1, .ref (bb 0)), (2, .int x2), (3, .int x3)] → W p l e { frames := 9, cells := 0, slots := 0, locals := 218 } s m args below meth c H locs 0 0 (MQ below (xm_Q E (xj (xv E a) (xv E bb)) (xk 120 M' N') s.heap.size (some r)) args s 0 0 (xm_A (xj (xv E a) (xv E bb)) s.heap.size)) (F0 m 0 ls []) := by
  have C9 := C
  obtain ⟨hx, hb, hml, hown, hts, hr, hlk, hD, hK, hS9⟩ := C9
  have hDo := xj_D1 hD
  have hDp := xj_D2 hD
  intro h H locs ls hP hS hl
  unfold f_L_isPattern at h
  refine lv_iconst (v := 2) hx hb dL_isPattern_0 (by decide) ?_
  refine lv_iload_n hx hb dL_isPattern_1 rfl (lv_at hl 2 rfl) ?_
  refine lv_iconst (v := 3) hx hb dL_isPattern_2 (by decide) ?_
  obtain ⟨r1, M2, N4, e3, h⟩ := xm_b3_s h
  refine xm_callS C hP hS [.int x2, .int 3] [.int 2] (c_L_up hD n M N x2 3 r1 M2 N4 e3) k_L_17 rfl rfl ⟨(Nat.le_of_ble_eq_true rfl), (Nat.le_of_ble_eq_true rfl)⟩ hl.1 (Nat.le_of_ble_eq_true rfl) ⟨(Nat.le_of_ble_eq_true rfl), (Nat.le_of_ble_eq_true rfl)⟩ dL_isPattern_3 (fun H locs hP hS => ?_)
  change W p l e _ s m _ below meth c H locs 0 0 _ (F0 m 6 ls [.int r1, .int 2])
  refine lv_iadd hx hb dL_isPattern_6 ?_
  refine lv_istore (lv' := [(4, .int (((2 : Int32)) + r1)), (0, .ref (a 0)), (1, .ref (bb 0)), (2, .int x2), (3, .int x3)]) hx hb dL_isPattern_7 hl (by decide) rfl (fun ls hl => ?_)
  refine lv_iload_n hx hb dL_isPattern_9 rfl (lv_at hl 3 rfl) ?_
  refine lv_iconst (v := 2) hx hb dL_isPattern_10 (by decide) ?_
  refine lv_ishr hx hb dL_isPattern_11 ?_
  refine lv_iconst (v := 5) hx hb dL_isPattern_12 (by decide) ?_
  obtain ⟨r5, M6, N8, e7, h⟩ := xm_b3_s h
  refine xm_callS C hP hS [.int (x2 >>> ((2 : Int32) &&& 31)), .int 5] [] (c_L_up hD n M2 N4 (x2 >>> ((2 : Int32) &&& 31)) 5 r5 M6 N8 e7) k_L_17 rfl rfl ⟨(Nat.le_of_ble_eq_true rfl), (Nat.le_of_ble_eq_true rfl)⟩ hl.1 (Nat.le_of_ble_eq_true rfl) ⟨(Nat.le_of_ble_eq_true rfl), (Nat.le_of_ble_eq_true rfl)⟩ dL_isPattern_13 (fun H locs hP hS => ?_)
  change W p l e _ s m _ below meth c H locs 0 0 _ (F0 m 16 ls [.int r5])
  refine lv_istore (lv' := [(5, .int r5), (4, .int (((2 : Int32)) + r1)), (0, .ref (a 0)), (1, .ref (bb 0)), (2, .int x2), (3, .int x3)]) hx hb dL_isPattern_16 hl (by decide) rfl (fun ls hl => ?_)
  refine lv_aload_n hx hb dL_isPattern_18 rfl (lv_at hl 2 rfl) ?_
  obtain ⟨r9, M10, e11, h⟩ := xm_b2_s h
  refine lm_o C hP hS [] [] (c_X6_clearText hDo n M6 r9 M10 e11) k_L_23 rfl rfl rfl ⟨(Nat.le_of_ble_eq_true rfl), (Nat.le_of_ble_eq_true rfl)⟩ hl.1 (Nat.le_of_ble_eq_true rfl) ⟨(Nat.le_of_ble_eq_true rfl), (Nat.le_of_ble_eq_true rfl)⟩ dL_isPattern_19 (fun H locs hP hS => ?_)
  change W p l e _ s m _ below meth c H locs 0 0 _ (F0 m 22 ls [.int r9])
  refine lv_aload_n hx hb dL_isPattern_22 rfl (lv_at hl 3 rfl) ?_
  obtain ⟨r12, M13, e14, h⟩ := xm_b2_s h
  refine lm_p C hP hS [] [.int r9] (c_X6_clearText hDp n N8 r12 M13 e14) k_L_23 rfl rfl rfl ⟨(Nat.le_of_ble_eq_true rfl), (Nat.le_of_ble_eq_true rfl)⟩ hl.1 (Nat.le_of_ble_eq_true rfl) ⟨(Nat.le_of_ble_eq_true rfl), (Nat.le_of_ble_eq_true rfl)⟩ dL_isPattern_23 (fun H locs hP hS => ?_)
  change W p l e _ s m _ below meth c H locs 0 0 _ (F0 m 26 ls [.int r12, .int r9])
  refine lv_icmp_ne (tgt := 130) hx hb dL_isPattern_26 (by decide) (fun c15 => ?_) (fun c15 => ?_)
  · rw [if_neg c15] at h
    refine lv_iconst (v := 0) hx hb dL_isPattern_130 (by decide) ?_
    refine lv_istore (lv' := [(6, .int 0), (5, .int r5), (4, .int (((2 : Int32)) + r1)), (0, .ref (a 0)), (1, .ref (bb 0)), (2, .int x2), (3, .int x3)]) hx hb dL_isPattern_131 hl (by decide) rfl (fun ls hl => ?_)
    refine lv_iconst (v := 0) hx hb dL_isPattern_133 (by decide) ?_
    refine lv_istore (lv' := [(7, .int 0), (6, .int 0), (5, .int r5), (4, .int (((2 : Int32)) + r1)), (0, .ref (a 0)), (1, .ref (bb 0)), (2, .int x2), (3, .int x3)]) hx hb dL_isPattern_134 hl (by decide) rfl (fun ls hl => ?_)
    exact t_L_isPattern_136 C n M10 M13 x3 (((2 : Int32)) + r1) 0 0 r M' N' h _ _ _ hP hS (lv_sub hl [4, 5, 7, 3, 1, 0] rfl)
  · rw [if_pos c15] at h
    refine lv_aload_n hx hb dL_isPattern_29 rfl (lv_at hl 2 rfl) ?_
    refine lv_aload_n hx hb dL_isPattern_30 rfl (lv_at hl 3 rfl) ?_
    refine lv_ldc2 (v := 33611470917430816) hx hb hown (hts _ q_L_27) dL_isPattern_31 ?_
    obtain ⟨r16, M17, N19, e18, h⟩ := xm_b3_s h
    refine xm_callS C hP hS [.ref (a 0), .ref (bb 0), .long 33611470917430816] [] (c_L_types hD n M10 M13 33611470917430816 r16 M17 N19 e18) k_L_29 rfl rfl ⟨(Nat.le_of_ble_eq_true rfl), (Nat.le_of_ble_eq_true rfl)⟩ hl.1 (Nat.le_of_ble_eq_true rfl) ⟨(Nat.le_of_ble_eq_true rfl), (Nat.le_of_ble_eq_true rfl)⟩ dL_isPattern_34 (fun H locs hP hS => ?_)
    change W p l e _ s m _ below meth c H locs 0 0 _ (F0 m 37 ls [.int r16])
    refine lv_if_eq (tgt := 130) hx hb dL_isPattern_37 (by decide) (fun c20 => ?_) (fun c20 => ?_)
    · rw [if_pos c20] at h
      refine lv_iconst (v := 0) hx hb dL_isPattern_130 (by decide) ?_
      refine lv_istore (lv' := [(6, .int 0), (5, .int r5), (4, .int (((2 : Int32)) + r1)), (0, .ref (a 0)), (1, .ref (bb 0)), (2, .int x2), (3, .int x3)]) hx hb dL_isPattern_131 hl (by decide) rfl (fun ls hl => ?_)
      refine lv_iconst (v := 0) hx hb dL_isPattern_133 (by decide) ?_
      refine lv_istore (lv' := [(7, .int 0), (6, .int 0), (5, .int r5), (4, .int (((2 : Int32)) + r1)), (0, .ref (a 0)), (1, .ref (bb 0)), (2, .int x2), (3, .int x3)]) hx hb dL_isPattern_134 hl (by decide) rfl (fun ls hl => ?_)
      exact t_L_isPattern_136 C n M17 N19 x3 (((2 : Int32)) + r1) 0 0 r M' N' h _ _ _ hP hS (lv_sub hl [4, 5, 7, 3, 1, 0] rfl)
    · rw [if_neg c20] at h
      refine lv_aload_n hx hb dL_isPattern_40 rfl (lv_at hl 2 rfl) ?_
      refine lv_aload_n hx hb dL_isPattern_41 rfl (lv_at hl 3 rfl) ?_
      refine lv_bipush (v := 49) hx hb dL_isPattern_42 (by decide) ?_
      refine lv_iload_n hx hb dL_isPattern_44 rfl (lv_at hl 4 rfl) ?_
      refine lv_iconst (v := 4) hx hb dL_isPattern_45 (by decide) ?_
      refine lv_ishr hx hb dL_isPattern_46 ?_
      refine lv_bipush (v := 9) hx hb dL_isPattern_47 (by decide) ?_
      obtain ⟨r21, M22, N24, e23, h⟩ := xm_b3_s h
      refine xm_callS C hP hS [.int (x2 >>> ((4 : Int32) &&& 31)), .int 9] [.int 49, .ref (bb 0), .ref (a 0)] (c_L_up hD n M17 N19 (x2 >>> ((4 : Int32) &&& 31)) 9 r21 M22 N24 e23) k_L_17 rfl rfl ⟨(Nat.le_of_ble_eq_true rfl), (Nat.le_of_ble_eq_true rfl)⟩ hl.1 (Nat.le_of_ble_eq_true rfl) ⟨(Nat.le_of_ble_eq_true rfl), (Nat.le_of_ble_eq_true rfl)⟩ dL_isPattern_49 (fun H locs hP hS => ?_)
      change W p l e _ s m _ below meth c H locs 0 0 _ (F0 m 52 ls [.int r21, .int 49, .ref (bb 0), .ref (a 0)])
      refine lv_iadd hx hb dL_isPattern_52 ?_
      refine lv_i2l (v := (((49 : Int32)) + r21).toInt64) hx hb dL_isPattern_53 rfl ?_
      obtain ⟨r25, M26, N28, e27, h⟩ := xm_b3_s h
      refine xm_callS C hP hS [.ref (a 0), .ref (bb 0), .long ((((49 : Int32)) + r21).toInt64)] [] (c_L_types hD n M22 N24 ((((49 : Int32)) + r21).toInt64) r25 M26 N28 e27) k_L_29 rfl rfl ⟨(Nat.le_of_ble_eq_true rfl), (Nat.le_of_ble_eq_true rfl)⟩ hl.1 (Nat.le_of_ble_eq_true rfl) ⟨(Nat.le_of_ble_eq_true rfl), (Nat.le_of_ble_eq_true rfl)⟩ dL_isPattern_54 (fun H locs hP hS => ?_)
      change W p l e _ s m _ below meth c H locs 0 0 _ (F0 m 57 ls [.int r25])
      refine lv_if_eq (tgt := 130) hx hb dL_isPattern_57 (by decide) (fun c29 => ?_) (fun c29 => ?_)
      · rw [if_pos c29] at h
        refine lv_iconst (v := 0) hx hb dL_isPattern_130 (by decide) ?_
        refine lv_istore (lv' := [(6, .int 0), (5, .int r5), (4, .int (((2 : Int32)) + r1)), (0, .ref (a 0)), (1, .ref (bb 0)), (2, .int x2), (3, .int x3)]) hx hb dL_isPattern_131 hl (by decide) rfl (fun ls hl => ?_)
        refine lv_iconst (v := 0) hx hb dL_isPattern_133 (by decide) ?_
        refine lv_istore (lv' := [(7, .int 0), (6, .int 0), (5, .int r5), (4, .int (((2 : Int32)) + r1)), (0, .ref (a 0)), (1, .ref (bb 0)), (2, .int x2), (3, .int x3)]) hx hb dL_isPattern_134 hl (by decide) rfl (fun ls hl => ?_)
        exact t_L_isPattern_136 C n M26 N28 x3 (((2 : Int32)) + r1) 0 0 r M' N' h _ _ _ hP hS (lv_sub hl [4, 5, 7, 3, 1, 0] rfl)
      · rw [if_neg c29] at h
        refine lv_aload_n hx hb dL_isPattern_60 rfl (lv_at hl 2 rfl) ?_
        refine lv_aload_n hx hb dL_isPattern_61 rfl (lv_at hl 3 rfl) ?_
        refine lv_bipush (v := 48) hx hb dL_isPattern_62 (by decide) ?_
        refine lv_iload_n hx hb dL_isPattern_64 rfl (lv_at hl 4 rfl) ?_
        refine lv_bipush (v := 6) hx hb dL_isPattern_65 (by decide) ?_
        refine lv_ishr hx hb dL_isPattern_67 ?_
        refine lv_bipush (v := 10) hx hb dL_isPattern_68 (by decide) ?_
        obtain ⟨r30, M31, N33, e32, h⟩ := xm_b3_s h
        refine xm_callS C hP hS [.int (x2 >>> ((6 : Int32) &&& 31)), .int 10] [.int 48, .ref (bb 0), .ref (a 0)] (c_L_up hD n M26 N28 (x2 >>> ((6 : Int32) &&& 31)) 10 r30 M31 N33 e32) k_L_17 rfl rfl ⟨(Nat.le_of_ble_eq_true rfl), (Nat.le_of_ble_eq_true rfl)⟩ hl.1 (Nat.le_of_ble_eq_true rfl) ⟨(Nat.le_of_ble_eq_true rfl), (Nat.le_of_ble_eq_true rfl)⟩ dL_isPattern_70 (fun H locs hP hS => ?_)
        change W p l e _ s m _ below meth c H locs 0 0 _ (F0 m 73 ls [.int r30, .int 48, .ref (bb 0), .ref (a 0)])
        refine lv_iadd hx hb dL_isPattern_73 ?_
        refine lv_i2l (v := (((48 : Int32)) + r30).toInt64) hx hb dL_isPattern_74 rfl ?_
        obtain ⟨r34, M35, N37, e36, h⟩ := xm_b3_s h
        refine xm_callS C hP hS [.ref (a 0), .ref (bb 0), .long ((((48 : Int32)) + r30).toInt64)] [] (c_L_types hD n M31 N33 ((((48 : Int32)) + r30).toInt64) r34 M35 N37 e36) k_L_29 rfl rfl ⟨(Nat.le_of_ble_eq_true rfl), (Nat.le_of_ble_eq_true rfl)⟩ hl.1 (Nat.le_of_ble_eq_true rfl) ⟨(Nat.le_of_ble_eq_true rfl), (Nat.le_of_ble_eq_true rfl)⟩ dL_isPattern_75 (fun H locs hP hS => ?_)
        change W p l e _ s m _ below meth c H locs 0 0 _ (F0 m 78 ls [.int r34])
        refine lv_if_eq (tgt := 130) hx hb dL_isPattern_78 (by decide) (fun c38 => ?_) (fun c38 => ?_)
        · rw [if_pos c38] at h
          refine lv_iconst (v := 0) hx hb dL_isPattern_130 (by decide) ?_
          refine lv_istore (lv' := [(6, .int 0), (5, .int r5), (4, .int (((2 : Int32)) + r1)), (0, .ref (a 0)), (1, .ref (bb 0)), (2, .int x2), (3, .int x3)]) hx hb dL_isPattern_131 hl (by decide) rfl (fun ls hl => ?_)
          refine lv_iconst (v := 0) hx hb dL_isPattern_133 (by decide) ?_
          refine lv_istore (lv' := [(7, .int 0), (6, .int 0), (5, .int r5), (4, .int (((2 : Int32)) + r1)), (0, .ref (a 0)), (1, .ref (bb 0)), (2, .int x2), (3, .int x3)]) hx hb dL_isPattern_134 hl (by decide) rfl (fun ls hl => ?_)
          exact t_L_isPattern_136 C n M35 N37 x3 (((2 : Int32)) + r1) 0 0 r M' N' h _ _ _ hP hS (lv_sub hl [4, 5, 7, 3, 1, 0] rfl)
        · rw [if_neg c38] at h
          refine lv_aload_n hx hb dL_isPattern_81 rfl (lv_at hl 2 rfl) ?_
          refine lv_aload_n hx hb dL_isPattern_82 rfl (lv_at hl 3 rfl) ?_
          refine lv_ldc2 (v := 32) hx hb hown (hts _ q_L_33) dL_isPattern_83 ?_
          obtain ⟨r39, M40, N42, e41, h⟩ := xm_b3_s h
          refine xm_callS C hP hS [.ref (a 0), .ref (bb 0), .long 32] [] (c_L_types hD n M35 N37 32 r39 M40 N42 e41) k_L_29 rfl rfl ⟨(Nat.le_of_ble_eq_true rfl), (Nat.le_of_ble_eq_true rfl)⟩ hl.1 (Nat.le_of_ble_eq_true rfl) ⟨(Nat.le_of_ble_eq_true rfl), (Nat.le_of_ble_eq_true rfl)⟩ dL_isPattern_86 (fun H locs hP hS => ?_)
          change W p l e _ s m _ below meth c H locs 0 0 _ (F0 m 89 ls [.int r39])
          refine lv_if_eq (tgt := 130) hx hb dL_isPattern_89 (by decide) (fun c43 => ?_) (fun c43 => ?_)
          · rw [if_pos c43] at h
            refine lv_iconst (v := 0) hx hb dL_isPattern_130 (by decide) ?_
            refine lv_istore (lv' := [(6, .int 0), (5, .int r5), (4, .int (((2 : Int32)) + r1)), (0, .ref (a 0)), (1, .ref (bb 0)), (2, .int x2), (3, .int x3)]) hx hb dL_isPattern_131 hl (by decide) rfl (fun ls hl => ?_)
            refine lv_iconst (v := 0) hx hb dL_isPattern_133 (by decide) ?_
            refine lv_istore (lv' := [(7, .int 0), (6, .int 0), (5, .int r5), (4, .int (((2 : Int32)) + r1)), (0, .ref (a 0)), (1, .ref (bb 0)), (2, .int x2), (3, .int x3)]) hx hb dL_isPattern_134 hl (by decide) rfl (fun ls hl => ?_)
            exact t_L_isPattern_136 C n M40 N42 x3 (((2 : Int32)) + r1) 0 0 r M' N' h _ _ _ hP hS (lv_sub hl [4, 5, 7, 3, 1, 0] rfl)
          · rw [if_neg c43] at h
            refine lv_iload hx hb dL_isPattern_92 (lv_at hl 0 rfl) ?_
            refine lv_iconst (v := 2) hx hb dL_isPattern_94 (by decide) ?_
            refine lv_icmp_gt (tgt := 126) hx hb dL_isPattern_95 (by decide) (fun c44 => ?_) (fun c44 => ?_)
            · rw [if_pos c44] at h
              refine lv_iconst (v := 1) hx hb dL_isPattern_126 (by decide) ?_
              refine lv_goto (tgt := 131) hx hb dL_isPattern_127 (by decide) ?_
              refine lv_istore (lv' := [(6, .int 1), (5, .int r5), (4, .int (((2 : Int32)) + r1)), (0, .ref (a 0)), (1, .ref (bb 0)), (2, .int x2), (3, .int x3)]) hx hb dL_isPattern_131 hl (by decide) rfl (fun ls hl => ?_)
              refine lv_iconst (v := 0) hx hb dL_isPattern_133 (by decide) ?_
              refine lv_istore (lv' := [(7, .int 0), (6, .int 1), (5, .int r5), (4, .int (((2 : Int32)) + r1)), (0, .ref (a 0)), (1, .ref (bb 0)), (2, .int x2), (3, .int x3)]) hx hb dL_isPattern_134 hl (by decide) rfl (fun ls hl => ?_)
              exact t_L_isPattern_136 C n M40 N42 x3 (((2 : Int32)) + r1) 1 0 r M' N' h _ _ _ hP hS (lv_sub hl [4, 5, 7, 3, 1, 0] rfl)
            · rw [if_neg c44] at h
              refine lv_iload hx hb dL_isPattern_98 (lv_at hl 0 rfl) ?_
              refine lv_if_eq (tgt := 126) hx hb dL_isPattern_100 (by decide) (fun c45 => ?_) (fun c45 => ?_)
              · rw [if_pos c45] at h
                refine lv_iconst (v := 1) hx hb dL_isPattern_126 (by decide) ?_
                refine lv_goto (tgt := 131) hx hb dL_isPattern_127 (by decide) ?_
                refine lv_istore (lv' := [(6, .int 1), (5, .int r5), (4, .int (((2 : Int32)) + r1)), (0, .ref (a 0)), (1, .ref (bb 0)), (2, .int x2), (3, .int x3)]) hx hb dL_isPattern_131 hl (by decide) rfl (fun ls hl => ?_)
                refine lv_iconst (v := 0) hx hb dL_isPattern_133 (by decide) ?_
                refine lv_istore (lv' := [(7, .int 0), (6, .int 1), (5, .int r5), (4, .int (((2 : Int32)) + r1)), (0, .ref (a 0)), (1, .ref (bb 0)), (2, .int x2), (3, .int x3)]) hx hb dL_isPattern_134 hl (by decide) rfl (fun ls hl => ?_)
                exact t_L_isPattern_136 C n M40 N42 x3 (((2 : Int32)) + r1) 1 0 r M' N' h _ _ _ hP hS (lv_sub hl [4, 5, 7, 3, 1, 0] rfl)
              · rw [if_neg c45] at h
                refine lv_aload_n hx hb dL_isPattern_103 rfl (lv_at hl 2 rfl) ?_
                refine lv_aload_n hx hb dL_isPattern_104 rfl (lv_at hl 3 rfl) ?_
                refine lv_iload hx hb dL_isPattern_105 (lv_at hl 0 rfl) ?_
                refine lv_iconst (v := 1) hx hb dL_isPattern_107 (by decide) ?_
                refine lv_icmp_ne (tgt := 117) hx hb dL_isPattern_108 (by decide) (fun c46 => ?_) (fun c46 => ?_)
                · rw [if_neg c46] at h
                  refine lv_ldc2 (v := 107118253008160) hx hb hown (hts _ q_L_37) dL_isPattern_117 ?_
                  obtain ⟨r47, M48, N50, e49, h⟩ := xm_b3_s h
                  refine xm_callS C hP hS [.ref (a 0), .ref (bb 0), .long 107118253008160] [] (c_L_types hD n M40 N42 107118253008160 r47 M48 N50 e49) k_L_29 rfl rfl ⟨(Nat.le_of_ble_eq_true rfl), (Nat.le_of_ble_eq_true rfl)⟩ hl.1 (Nat.le_of_ble_eq_true rfl) ⟨(Nat.le_of_ble_eq_true rfl), (Nat.le_of_ble_eq_true rfl)⟩ dL_isPattern_120 (fun H locs hP hS => ?_)
                  change W p l e _ s m _ below meth c H locs 0 0 _ (F0 m 123 ls [.int r47])
                  refine lv_if_eq (tgt := 130) hx hb dL_isPattern_123 (by decide) (fun c51 => ?_) (fun c51 => ?_)
                  · rw [if_pos c51] at h
                    refine lv_iconst (v := 0) hx hb dL_isPattern_130 (by decide) ?_
                    refine lv_istore (lv' := [(6, .int 0), (5, .int r5), (4, .int (((2 : Int32)) + r1)), (0, .ref (a 0)), (1, .ref (bb 0)), (2, .int x2), (3, .int x3)]) hx hb dL_isPattern_131 hl (by decide) rfl (fun ls hl => ?_)
                    refine lv_iconst (v := 0) hx hb dL_isPattern_133 (by decide) ?_
                    refine lv_istore (lv' := [(7, .int 0), (6, .int 0), (5, .int r5), (4, .int (((2 : Int32)) + r1)), (0, .ref (a 0)), (1, .ref (bb 0)), (2, .int x2), (3, .int x3)]) hx hb dL_isPattern_134 hl (by decide) rfl (fun ls hl => ?_)
                    exact t_L_isPattern_136 C n M48 N50 x3 (((2 : Int32)) + r1) 0 0 r M' N' h _ _ _ hP hS (lv_sub hl [4, 5, 7, 3, 1, 0] rfl)
                  · rw [if_neg c51] at h
                    refine lv_iconst (v := 1) hx hb dL_isPattern_126 (by decide) ?_
                    refine lv_goto (tgt := 131) hx hb dL_isPattern_127 (by decide) ?_
                    refine lv_istore (lv' := [(6, .int 1), (5, .int r5), (4, .int (((2 : Int32)) + r1)), (0, .ref (a 0)), (1, .ref (bb 0)), (2, .int x2), (3, .int x3)]) hx hb dL_isPattern_131 hl (by decide) rfl (fun ls hl => ?_)
                    refine lv_iconst (v := 0) hx hb dL_isPattern_133 (by decide) ?_
                    refine lv_istore (lv' := [(7, .int 0), (6, .int 1), (5, .int r5), (4, .int (((2 : Int32)) + r1)), (0, .ref (a 0)), (1, .ref (bb 0)), (2, .int x2), (3, .int x3)]) hx hb dL_isPattern_134 hl (by decide) rfl (fun ls hl => ?_)
                    exact t_L_isPattern_136 C n M48 N50 x3 (((2 : Int32)) + r1) 1 0 r M' N' h _ _ _ hP hS (lv_sub hl [4, 5, 7, 3, 1, 0] rfl)
                · rw [if_pos c46] at h
                  refine lv_ldc2 (v := 32204091756013344) hx hb hown (hts _ q_L_35) dL_isPattern_111 ?_
                  refine lv_goto (tgt := 120) hx hb dL_isPattern_114 (by decide) ?_
                  obtain ⟨r52, M53, N55, e54, h⟩ := xm_b3_s h
                  refine xm_callS C hP hS [.ref (a 0), .ref (bb 0), .long 32204091756013344] [] (c_L_types hD n M40 N42 32204091756013344 r52 M53 N55 e54) k_L_29 rfl rfl ⟨(Nat.le_of_ble_eq_true rfl), (Nat.le_of_ble_eq_true rfl)⟩ hl.1 (Nat.le_of_ble_eq_true rfl) ⟨(Nat.le_of_ble_eq_true rfl), (Nat.le_of_ble_eq_true rfl)⟩ dL_isPattern_120 (fun H locs hP hS => ?_)
                  change W p l e _ s m _ below meth c H locs 0 0 _ (F0 m 123 ls [.int r52])
                  refine lv_if_eq (tgt := 130) hx hb dL_isPattern_123 (by decide) (fun c56 => ?_) (fun c56 => ?_)
                  · rw [if_pos c56] at h
                    refine lv_iconst (v := 0) hx hb dL_isPattern_130 (by decide) ?_
                    refine lv_istore (lv' := [(6, .int 0), (5, .int r5), (4, .int (((2 : Int32)) + r1)), (0, .ref (a 0)), (1, .ref (bb 0)), (2, .int x2), (3, .int x3)]) hx hb dL_isPattern_131 hl (by decide) rfl (fun ls hl => ?_)
                    refine lv_iconst (v := 0) hx hb dL_isPattern_133 (by decide) ?_
                    refine lv_istore (lv' := [(7, .int 0), (6, .int 0), (5, .int r5), (4, .int (((2 : Int32)) + r1)), (0, .ref (a 0)), (1, .ref (bb 0)), (2, .int x2), (3, .int x3)]) hx hb dL_isPattern_134 hl (by decide) rfl (fun ls hl => ?_)
                    exact t_L_isPattern_136 C n M53 N55 x3 (((2 : Int32)) + r1) 0 0 r M' N' h _ _ _ hP hS (lv_sub hl [4, 5, 7, 3, 1, 0] rfl)
                  · rw [if_neg c56] at h
                    refine lv_iconst (v := 1) hx hb dL_isPattern_126 (by decide) ?_
                    refine lv_goto (tgt := 131) hx hb dL_isPattern_127 (by decide) ?_
                    refine lv_istore (lv' := [(6, .int 1), (5, .int r5), (4, .int (((2 : Int32)) + r1)), (0, .ref (a 0)), (1, .ref (bb 0)), (2, .int x2), (3, .int x3)]) hx hb dL_isPattern_131 hl (by decide) rfl (fun ls hl => ?_)
                    refine lv_iconst (v := 0) hx hb dL_isPattern_133 (by decide) ?_
                    refine lv_istore (lv' := [(7, .int 0), (6, .int 1), (5, .int r5), (4, .int (((2 : Int32)) + r1)), (0, .ref (a 0)), (1, .ref (bb 0)), (2, .int x2), (3, .int x3)]) hx hb dL_isPattern_134 hl (by decide) rfl (fun ls hl => ?_)
                    exact t_L_isPattern_136 C n M53 N55 x3 (((2 : Int32)) + r1) 1 0 r M' N' h _ _ _ hP hS (lv_sub hl [4, 5, 7, 3, 1, 0] rfl)
theorem c_L_isPattern {l : Launch} {E : xm_E} {a : Nat → Nat} {bb : Nat → Nat} (hD : xm_D (xj (xv E a) (xv E bb))) (n : Nat) (M N : xm_M) (x2 : Int32) (x3 : Int32) (r : Int32) (M' N' : xm_M) (h : f_L_isPattern n M N x2 x3 = some (r, M', N')) : xm_Met l E (xj (xv E a) (xv E bb)) yL_isPattern cL_isPattern 10 (some .boolean) 9 218 [.ref (a 0), .ref (bb 0), .int x2, .int x3] (xk 120 M N) (xk 120 M' N') (some r) :=
  xm_met (by decide +kernel) rfl (Nat.le_of_ble_eq_true rfl) hD (fun p e s m below meth c C hP ls hl => t_L_isPattern_0 C n M N x2 x3 r M' N' h _ _ _ hP va_S.rf hl)
