theorem k_X3_106 : xm_FV RX3 106 yX3_tellMatch cX3_tellMatch 1 none 0 := ⟨xm_tb_of (List.mem_of_getElem? (i := 311) (by decide +kernel)) rfl, xm_tb_of (List.mem_of_getElem? (i := 308) (by decide +kernel)) rfl, xm_tb_of (List.mem_of_getElem? (i := 310) (by decide +kernel)) rfl, xm_tb_sel (List.mem_of_getElem? (i := 8) (by decide +kernel)) rfl, xm_tb_of (List.mem_of_getElem? (i := 6) (by decide +kernel)) rfl, ⟨by decide +kernel, by decide +kernel, by decide +kernel⟩⟩
theorem k_X3_112 : xm_FV RX3 112 yX3_isInWindow cX3_isInWindow 3 (some .boolean) 2 := ⟨xm_tb_of (List.mem_of_getElem? (i := 315) (by decide +kernel)) rfl, xm_tb_of (List.mem_of_getElem? (i := 312) (by decide +kernel)) rfl, xm_tb_of (List.mem_of_getElem? (i := 314) (by decide +kernel)) rfl, xm_tb_sel (List.mem_of_getElem? (i := 9) (by decide +kernel)) rfl, xm_tb_of (List.mem_of_getElem? (i := 6) (by decide +kernel)) rfl, ⟨by decide +kernel, by decide +kernel, by decide +kernel⟩⟩
theorem k_X3_116 : xm_FV RX3 116 yX3_suits cX3_suits 4 (some .boolean) 2 := ⟨xm_tb_of (List.mem_of_getElem? (i := 319) (by decide +kernel)) rfl, xm_tb_of (List.mem_of_getElem? (i := 316) (by decide +kernel)) rfl, xm_tb_of (List.mem_of_getElem? (i := 318) (by decide +kernel)) rfl, xm_tb_sel (List.mem_of_getElem? (i := 10) (by decide +kernel)) rfl, xm_tb_of (List.mem_of_getElem? (i := 6) (by decide +kernel)) rfl, ⟨by decide +kernel, by decide +kernel, by decide +kernel⟩⟩
theorem k_X3_119 : xm_FV RX3 119 yX3_tellBranch cX3_tellBranch 2 none 1 := ⟨xm_tb_of (List.mem_of_getElem? (i := 323) (by decide +kernel)) rfl, xm_tb_of (List.mem_of_getElem? (i := 320) (by decide +kernel)) rfl, xm_tb_of (List.mem_of_getElem? (i := 322) (by decide +kernel)) rfl, xm_tb_sel (List.mem_of_getElem? (i := 11) (by decide +kernel)) rfl, xm_tb_of (List.mem_of_getElem? (i := 6) (by decide +kernel)) rfl, ⟨by decide +kernel, by decide +kernel, by decide +kernel⟩⟩
theorem k_X3_94 : xm_FS RX3 94 yX3_walkFrom cX3_walkFrom 7 (some .int) 2 := ⟨xm_tb_of (List.mem_of_getElem? (i := 307) (by decide +kernel)) rfl, xm_tb_of (List.mem_of_getElem? (i := 305) (by decide +kernel)) rfl, xm_tb_of (List.mem_of_getElem? (i := 306) (by decide +kernel)) rfl, xm_tb_of (List.mem_of_getElem? (i := 6) (by decide +kernel)) rfl, ⟨by decide +kernel, by decide +kernel, by decide +kernel⟩⟩
def f_X3_walkFrom_S : Nat → Nat → xm_M → Int32 → Int32 → Int32 → Option (Int32 × xm_M)
  | 0, _, _, _, _, _ => none
  | n + 1, 0, M, x1, x3, x5 => if (M 8 8) ≤ x1 then xm_b1 (f_X3_tellMatch n M) (fun M2 => some (1, M2)) else if x1 < 4 then if x1 = 0 then f_X3_walkFrom_S n 1 M x1 0 0 else xm_ck (xm_in (x1 - 1) 4) (f_X3_walkFrom_S n 1 M x1 0 ((M 11 (x1 - 1).toNatClampNeg) + 1)) else xm_b1 (f_X3_tellMatch n M) (fun M8 => some (1, M8))
  | n + 1, _ + 1, M, x1, x3, x5 => if (M 13 0) ≤ x5 then some (x3, M) else xm_b2 (f_X3_isInWindow n M x1 x5) (fun r3 M2 => if r3 = 0 then some (x3, M2) else xm_b2 (f_X3_suits n M2 x1 x5) (fun r7 M6 => if r7 = 0 then xm_ck (xm_in x5 25) (xm_ck (xm_in x1 4) (if (M6 15 x5.toNatClampNeg) = (M6 10 x1.toNatClampNeg) then some (x3, M6) else f_X3_walkFrom_S n 1 M6 x1 x3 (x5 + 1))) else xm_ck (xm_in x1 4) (xm_lt (xm_up M6 11 x1.toNatClampNeg x5) (fun M14 => xm_b1 (f_X3_tellBranch n M14 x1) (fun M16 => xm_b2 (f_X3_walkFrom_S n 0 M16 (x1 + 1) 0 0) (fun r20 M19 => xm_ck (xm_in x5 25) (xm_ck (xm_in x5 25) (xm_lt (xm_up M19 12 x5.toNatClampNeg ((M19 12 x5.toNatClampNeg) + r20)) (fun M24 => xm_ck (xm_in x5 25) (xm_ck (xm_in x1 4) (if (M24 15 x5.toNatClampNeg) = (M24 10 x1.toNatClampNeg) then some (x3 + r20, M24) else f_X3_walkFrom_S n 1 M24 x1 (x3 + r20) (x5 + 1))))))))))))
def f_X3_walkFrom (n : Nat) (M : xm_M) (x1 : Int32) : Option (Int32 × xm_M) := f_X3_walkFrom_S n 0 M x1 0 0
def f_X3_walkFrom_50 (n : Nat) (M : xm_M) (x1 : Int32) (x3 : Int32) (x5 : Int32) : Option (Int32 × xm_M) := f_X3_walkFrom_S n 1 M x1 x3 x5
theorem xm_lt4 {j : Nat} (h4 : j ≤ 4) (h : nI j < 4) : j < 4 := by
  rcases Nat.lt_or_ge j 4 with q | q
  · exact q
  · have e : j = 4 := by omega
    subst e
    exact absurd h (by decide)
set_option maxHeartbeats 4000000 in
set_option maxRecDepth 100000 in
theorem t_X3_walkFrom_S {l : Launch} {E : xm_E} {a : Nat → Nat} (hD : xm_D (xv E a)) : ∀ (n : Nat), (∀ (d j : Nat) (x1 : Int32), x1 = nI j → j ≤ 4 → 4 ≤ j + d → ∀ (M : xm_M) (r : Int32) (M' : xm_M), f_X3_walkFrom_S n 0 M x1 0 0 = some (r, M') → xm_Met l E (xv E a) yX3_walkFrom cX3_walkFrom 7 (some .int) (1 + d) (23 + 26 * d) [.ref (a 8), .int x1] M M' (some r)) ∧ (∀ (p : Program) (e : Env) (s : State) (m : MethodId) (args : Array Value) (below : List Frame) (meth : Method) (c : Code) (C : xm_C E (xv E a) p s m args meth c RX3 cX3_walkFrom 7 (some .int)) (d j : Nat) (x1 : Int32) (x3 : Int32) (x5 : Int32), x1 = nI j → j < 4 → 4 ≤ j + (d + 1) → ∀ (M : xm_M) (r : Int32) (M' : xm_M), f_X3_walkFrom_S n 1 M x1 x3 x5 = some (r, M') → ∀ (H : Heap) (locs : List Loc) (ls : Array Slot), va_P E.1 vwCl (xm_w (xv E a) M) H → va_S (xm_A (xv E a) s.heap.size) s.heap H locs → lv_has ls 7 [(0, .ref (a 8)), (1, .int x1), (2, .ref (a 13)), (3, .int x3), (5, .int x5)] → W p l e { frames := 1 + (d + 1), cells := 0, slots := 0, locals := 23 + 26 * (d + 1) } s m args below meth c H locs 0 0 (MQ below (xm_Q E (xv E a) M' s.heap.size (some r)) args s 0 0 (xm_A (xv E a) s.heap.size)) (F0 m 50 ls [])) := by
  intro n
  induction n with
  | zero =>
    refine ⟨fun d j x1 hj h4 hd M r M' h => ?_, fun p e s m args below meth c C d j x1 x3 x5 hj hj9 hd M r M' h => ?_⟩
    all_goals cases h
  | succ n ih =>
    refine ⟨fun d j x1 hj h4 hd M r M' h => ?_, fun p e s m args below meth c C d j x1 x3 x5 hj hj9 hd M r M' h H locs ls hP hS hl => ?_⟩
    · rw [f_X3_walkFrom_S] at h
      refine xm_met (by decide +kernel) rfl (Nat.le_of_ble_eq_true rfl) hD (fun p e s m below meth c C hP ls hl => ?_)
      have C9 := C
      obtain ⟨hx, hb, hml, hown, hts, hr, hlk, hD9, hK, hS9⟩ := C9
      have hS : va_S (xm_A (xv E a) s.heap.size) s.heap s.heap [] := va_S.rf
      have hl : lv_has ls 7 [(0, .ref (a 8)), (1, .int x1)] := hl
      change W p l e _ s m _ below meth c s.heap [] 0 0 _ (F0 m 0 ls [])
      refine lv_iload_n hx hb dX3_walkFrom_0 rfl (lv_at hl 1 rfl) ?_
      refine lv_aload_n hx hb dX3_walkFrom_1 rfl (lv_at hl 0 rfl) ?_
      refine xm_get (V := (xv E a)) (T := TX3) (v := .int (M 8 8)) C hP 8 8 xi_3 rfl l_X3_40 rfl (Nat.le_of_ble_eq_true rfl) ((xe_8 E a) _) (Nat.le_of_ble_eq_true rfl) rfl dX3_walkFrom_2 ?_
      refine lv_icmp_ge (tgt := 13) hx hb dX3_walkFrom_5 (by decide) (fun c1 => ?_) (fun c1 => ?_)
      · rw [if_pos c1] at h
        refine lv_aload_n hx hb dX3_walkFrom_13 rfl (lv_at hl 0 rfl) ?_
        obtain ⟨M2, e4, h⟩ := xm_b1_s h
        refine xm_callV C hP hS [] [] (c_X3_tellMatch hD  n M  M2 e4) k_X3_106 (xm_recv C hP 8 rfl (Nat.le_of_ble_eq_true rfl) ((xe_8 E a) _)) rfl rfl ⟨by dsimp only; omega, by dsimp only; omega⟩ hl.1 (Nat.le_of_ble_eq_true rfl) ⟨Nat.zero_le _, Nat.zero_le _⟩ dX3_walkFrom_14 (fun H locs hP hS => ?_)
        change W p l e _ s m _ below meth c H locs 0 0 _ (F0 m 17 ls [])
        refine lv_iconst (v := 1) hx hb dX3_walkFrom_17 (by decide) ?_
        obtain ⟨rfl, rfl⟩ := xm_pr h
        exact xm_retI C hP hS dX3_walkFrom_18
      · rw [if_neg c1] at h
        refine lv_iload_n hx hb dX3_walkFrom_8 rfl (lv_at hl 1 rfl) ?_
        refine lv_iconst (v := 4) hx hb dX3_walkFrom_9 (by decide) ?_
        refine lv_icmp_lt (tgt := 19) hx hb dX3_walkFrom_10 (by decide) (fun c5 => ?_) (fun c5 => ?_)
        · rw [if_pos c5] at h
          refine lv_aload_n hx hb dX3_walkFrom_19 rfl (lv_at hl 0 rfl) ?_
          refine xm_get (V := (xv E a)) (T := TX3) (v := .ref (a 13)) C hP 8 0 xi_3 rfl l_X3_12 rfl (Nat.le_of_ble_eq_true rfl) ((xe_8 E a) _) (Nat.le_of_ble_eq_true rfl) rfl dX3_walkFrom_20 ?_
          refine lv_astore_n (lv' := [(2, .ref (a 13)), (0, .ref (a 8)), (1, .int x1)]) hx hb dX3_walkFrom_23 rfl hl (by decide) rfl (fun ls hl => ?_)
          refine lv_iconst (v := 0) hx hb dX3_walkFrom_24 (by decide) ?_
          refine lv_istore_n (lv' := [(3, .int 0), (2, .ref (a 13)), (0, .ref (a 8)), (1, .int x1)]) hx hb dX3_walkFrom_25 rfl hl (by decide) rfl (fun ls hl => ?_)
          refine lv_iload_n hx hb dX3_walkFrom_26 rfl (lv_at hl 3 rfl) ?_
          refine lv_if_ne (tgt := 34) hx hb dX3_walkFrom_27 (by decide) (fun c6 => ?_) (fun c6 => ?_)
          · rw [if_neg c6] at h
            refine lv_aload_n hx hb dX3_walkFrom_34 rfl (lv_at hl 2 rfl) ?_
            refine xm_get (V := (xv E a)) (T := TX3) (v := .ref (a 11)) C hP 8 11 xi_3 rfl l_X3_50 rfl (Nat.le_of_ble_eq_true rfl) ((xe_8 E a) _) (Nat.le_of_ble_eq_true rfl) rfl dX3_walkFrom_35 ?_
            refine lv_iload_n hx hb dX3_walkFrom_38 rfl (lv_at hl 3 rfl) ?_
            refine lv_iconst (v := 1) hx hb dX3_walkFrom_39 (by decide) ?_
            refine lv_isub hx hb dX3_walkFrom_40 ?_
            obtain ⟨b7, h⟩ := xm_ck_s h
            refine xm_iald (V := (xv E a)) C hP 11 4 (Nat.le_of_ble_eq_true rfl) (xe_11 E a) b7 dX3_walkFrom_41 ?_
            refine lv_iconst (v := 1) hx hb dX3_walkFrom_42 (by decide) ?_
            refine lv_iadd hx hb dX3_walkFrom_43 ?_
            refine lv_istore (lv' := [(4, .int ((M 11 (x1 - 1).toNatClampNeg) + 1)), (3, .int 0), (2, .ref (a 13)), (0, .ref (a 8)), (1, .int x1)]) hx hb dX3_walkFrom_44 hl (by decide) rfl (fun ls hl => ?_)
            refine lv_iload hx hb dX3_walkFrom_46 (lv_at hl 0 rfl) ?_
            refine lv_istore (lv' := [(5, .int ((M 11 (x1 - 1).toNatClampNeg) + 1)), (4, .int ((M 11 (x1 - 1).toNatClampNeg) + 1)), (3, .int 0), (2, .ref (a 13)), (0, .ref (a 8)), (1, .int x1)]) hx hb dX3_walkFrom_48 hl (by decide) rfl (fun ls hl => ?_)
            have hj9 : j < 4 := xm_lt4 h4 (by rw [← hj]; assumption)
            obtain ⟨d, rfl⟩ : ∃ d9, d = d9 + 1 := ⟨d - 1, by omega⟩
            exact ih.2 p e s m _ below meth c C d j x1 0 ((M 11 (x1 - 1).toNatClampNeg) + 1) hj hj9 hd M r M' h _ _ _ hP hS (lv_sub hl [4, 5, 3, 2, 0] rfl)
          · rw [if_pos c6] at h
            refine lv_iconst (v := 0) hx hb dX3_walkFrom_30 (by decide) ?_
            refine lv_goto (tgt := 44) hx hb dX3_walkFrom_31 (by decide) ?_
            refine lv_istore (lv' := [(4, .int 0), (3, .int 0), (2, .ref (a 13)), (0, .ref (a 8)), (1, .int x1)]) hx hb dX3_walkFrom_44 hl (by decide) rfl (fun ls hl => ?_)
            refine lv_iload hx hb dX3_walkFrom_46 (lv_at hl 0 rfl) ?_
            refine lv_istore (lv' := [(5, .int 0), (4, .int 0), (3, .int 0), (2, .ref (a 13)), (0, .ref (a 8)), (1, .int x1)]) hx hb dX3_walkFrom_48 hl (by decide) rfl (fun ls hl => ?_)
            have hj9 : j < 4 := xm_lt4 h4 (by rw [← hj]; assumption)
            obtain ⟨d, rfl⟩ : ∃ d9, d = d9 + 1 := ⟨d - 1, by omega⟩
            exact ih.2 p e s m _ below meth c C d j x1 0 0 hj hj9 hd M r M' h _ _ _ hP hS (lv_sub hl [4, 5, 3, 2, 0] rfl)
        · rw [if_neg c5] at h
          refine lv_aload_n hx hb dX3_walkFrom_13 rfl (lv_at hl 0 rfl) ?_
          obtain ⟨M8, e10, h⟩ := xm_b1_s h
          refine xm_callV C hP hS [] [] (c_X3_tellMatch hD  n M  M8 e10) k_X3_106 (xm_recv C hP 8 rfl (Nat.le_of_ble_eq_true rfl) ((xe_8 E a) _)) rfl rfl ⟨by dsimp only; omega, by dsimp only; omega⟩ hl.1 (Nat.le_of_ble_eq_true rfl) ⟨Nat.zero_le _, Nat.zero_le _⟩ dX3_walkFrom_14 (fun H locs hP hS => ?_)
          change W p l e _ s m _ below meth c H locs 0 0 _ (F0 m 17 ls [])
          refine lv_iconst (v := 1) hx hb dX3_walkFrom_17 (by decide) ?_
          obtain ⟨rfl, rfl⟩ := xm_pr h
          exact xm_retI C hP hS dX3_walkFrom_18
    · rw [f_X3_walkFrom_S] at h
      have C9 := C
      obtain ⟨hx, hb, hml, hown, hts, hr, hlk, hD9, hK, hS9⟩ := C9
      refine lv_iload hx hb dX3_walkFrom_50 (lv_at hl 4 rfl) ?_
      refine lv_aload_n hx hb dX3_walkFrom_52 rfl (lv_at hl 2 rfl) ?_
      refine xm_getN (V := (xv E a)) (T := TX1) (v := .int (M 13 0)) C hP 13 0 xi_1 rfl l_X3_109 rfl (Nat.le_of_ble_eq_true rfl) ((xe_13 E a) _) (Nat.le_of_ble_eq_true rfl) rfl dX3_walkFrom_53 ?_
      refine lv_icmp_ge (tgt := 143) hx hb dX3_walkFrom_56 (by decide) (fun c1 => ?_) (fun c1 => ?_)
      · rw [if_pos c1] at h
        refine lv_iload_n hx hb dX3_walkFrom_143 rfl (lv_at hl 3 rfl) ?_
        obtain ⟨rfl, rfl⟩ := xm_pr h
        exact xm_retI C hP hS dX3_walkFrom_144
      · rw [if_neg c1] at h
        refine lv_aload_n hx hb dX3_walkFrom_59 rfl (lv_at hl 0 rfl) ?_
        refine lv_iload_n hx hb dX3_walkFrom_60 rfl (lv_at hl 1 rfl) ?_
        refine lv_iload hx hb dX3_walkFrom_61 (lv_at hl 4 rfl) ?_
        obtain ⟨r3, M2, e4, h⟩ := xm_b2_s h
        refine xm_callV C hP hS [.int x1, .int x5] [] (c_X3_isInWindow hD  n M x1 x5 r3 M2 e4) k_X3_112 (xm_recv C hP 8 rfl (Nat.le_of_ble_eq_true rfl) ((xe_8 E a) _)) rfl rfl ⟨by dsimp only; omega, by dsimp only; omega⟩ hl.1 (Nat.le_of_ble_eq_true rfl) ⟨Nat.zero_le _, Nat.zero_le _⟩ dX3_walkFrom_63 (fun H locs hP hS => ?_)
        change W p l e _ s m _ below meth c H locs 0 0 _ (F0 m 66 ls [.int r3])
        refine lv_if_eq (tgt := 143) hx hb dX3_walkFrom_66 (by decide) (fun c5 => ?_) (fun c5 => ?_)
        · rw [if_pos c5] at h
          refine lv_iload_n hx hb dX3_walkFrom_143 rfl (lv_at hl 3 rfl) ?_
          obtain ⟨rfl, rfl⟩ := xm_pr h
          exact xm_retI C hP hS dX3_walkFrom_144
        · rw [if_neg c5] at h
          refine lv_aload_n hx hb dX3_walkFrom_69 rfl (lv_at hl 0 rfl) ?_
          refine lv_iload_n hx hb dX3_walkFrom_70 rfl (lv_at hl 1 rfl) ?_
          refine lv_iload hx hb dX3_walkFrom_71 (lv_at hl 4 rfl) ?_
          obtain ⟨r7, M6, e8, h⟩ := xm_b2_s h
          refine xm_callV C hP hS [.int x1, .int x5] [] (c_X3_suits hD  n M2 x1 x5 r7 M6 e8) k_X3_116 (xm_recv C hP 8 rfl (Nat.le_of_ble_eq_true rfl) ((xe_8 E a) _)) rfl rfl ⟨by dsimp only; omega, by dsimp only; omega⟩ hl.1 (Nat.le_of_ble_eq_true rfl) ⟨Nat.zero_le _, Nat.zero_le _⟩ dX3_walkFrom_73 (fun H locs hP hS => ?_)
          change W p l e _ s m _ below meth c H locs 0 0 _ (F0 m 76 ls [.int r7])
          refine lv_if_eq (tgt := 118) hx hb dX3_walkFrom_76 (by decide) (fun c9 => ?_) (fun c9 => ?_)
          · rw [if_pos c9] at h
            refine lv_aload_n hx hb dX3_walkFrom_118 rfl (lv_at hl 2 rfl) ?_
            refine xm_getN (V := (xv E a)) (T := TX1) (v := .ref (a 15)) C hP 13 2 xi_1 rfl l_X3_123 rfl (Nat.le_of_ble_eq_true rfl) ((xe_13 E a) _) (Nat.le_of_ble_eq_true rfl) rfl dX3_walkFrom_119 ?_
            refine lv_iload hx hb dX3_walkFrom_122 (lv_at hl 4 rfl) ?_
            obtain ⟨b10, h⟩ := xm_ck_s h
            refine xm_cald (V := (xv E a)) C hP 15 25 (Nat.le_of_ble_eq_true rfl) (xe_15 E a) b10 dX3_walkFrom_124 ?_
            refine lv_aload_n hx hb dX3_walkFrom_125 rfl (lv_at hl 0 rfl) ?_
            refine xm_get (V := (xv E a)) (T := TX3) (v := .ref (a 10)) C hP 8 10 xi_3 rfl l_X3_47 rfl (Nat.le_of_ble_eq_true rfl) ((xe_8 E a) _) (Nat.le_of_ble_eq_true rfl) rfl dX3_walkFrom_126 ?_
            refine lv_iload_n hx hb dX3_walkFrom_129 rfl (lv_at hl 1 rfl) ?_
            obtain ⟨b11, h⟩ := xm_ck_s h
            refine xm_cald (V := (xv E a)) C hP 10 4 (Nat.le_of_ble_eq_true rfl) (xe_10 E a) b11 dX3_walkFrom_130 ?_
            refine lv_icmp_ne (tgt := 137) hx hb dX3_walkFrom_131 (by decide) (fun c12 => ?_) (fun c12 => ?_)
            · rw [if_neg c12] at h
              refine lv_iinc (v := x5 + 1) (lv' := [(5, .int (x5 + 1)), (0, .ref (a 8)), (1, .int x1), (2, .ref (a 13)), (3, .int x3)]) hx hb dX3_walkFrom_137 hl (k := 4) rfl (xm_add (by decide)) (by decide) rfl (fun ls hl => ?_)
              refine lv_goto (tgt := 50) hx hb dX3_walkFrom_140 (by decide) ?_
              exact ih.2 p e s m _ below meth c C d j x1 x3 (x5 + 1) hj hj9 hd M6 r M' h _ _ _ hP hS (lv_sub hl [1, 2, 3, 4, 0] rfl)
            · rw [if_pos c12] at h
              refine lv_goto (tgt := 143) hx hb dX3_walkFrom_134 (by decide) ?_
              refine lv_iload_n hx hb dX3_walkFrom_143 rfl (lv_at hl 3 rfl) ?_
              obtain ⟨rfl, rfl⟩ := xm_pr h
              exact xm_retI C hP hS dX3_walkFrom_144
          · rw [if_neg c9] at h
            refine lv_aload_n hx hb dX3_walkFrom_79 rfl (lv_at hl 0 rfl) ?_
            refine xm_get (V := (xv E a)) (T := TX3) (v := .ref (a 11)) C hP 8 11 xi_3 rfl l_X3_50 rfl (Nat.le_of_ble_eq_true rfl) ((xe_8 E a) _) (Nat.le_of_ble_eq_true rfl) rfl dX3_walkFrom_80 ?_
            refine lv_iload_n hx hb dX3_walkFrom_83 rfl (lv_at hl 1 rfl) ?_
            refine lv_iload hx hb dX3_walkFrom_84 (lv_at hl 4 rfl) ?_
            obtain ⟨b13, h⟩ := xm_ck_s h
            obtain ⟨M14, e15, h⟩ := xm_lt_s h
            refine xm_iast (V := (xv E a)) C hP hS 11 4 (Nat.le_of_ble_eq_true rfl) (xe_11 E a) b13 dX3_walkFrom_86 (fun H locs hP hS => ?_)
            rw [← e15] at hP
            refine lv_aload_n hx hb dX3_walkFrom_87 rfl (lv_at hl 0 rfl) ?_
            refine lv_iload_n hx hb dX3_walkFrom_88 rfl (lv_at hl 1 rfl) ?_
            obtain ⟨M16, e18, h⟩ := xm_b1_s h
            refine xm_callV C hP hS [.int x1] [] (c_X3_tellBranch hD  n M14 x1 M16 e18) k_X3_119 (xm_recv C hP 8 rfl (Nat.le_of_ble_eq_true rfl) ((xe_8 E a) _)) rfl rfl ⟨by dsimp only; omega, by dsimp only; omega⟩ hl.1 (Nat.le_of_ble_eq_true rfl) ⟨Nat.zero_le _, Nat.zero_le _⟩ dX3_walkFrom_89 (fun H locs hP hS => ?_)
            change W p l e _ s m _ below meth c H locs 0 0 _ (F0 m 92 ls [])
            refine lv_aload_n hx hb dX3_walkFrom_92 rfl (lv_at hl 0 rfl) ?_
            refine lv_iload_n hx hb dX3_walkFrom_93 rfl (lv_at hl 1 rfl) ?_
            refine lv_iconst (v := 1) hx hb dX3_walkFrom_94 (by decide) ?_
            refine lv_iadd hx hb dX3_walkFrom_95 ?_
            obtain ⟨r20, M19, e21, h⟩ := xm_b2_s h
            refine xm_callS C hP hS [.ref (a 8), .int (x1 + 1)] [] (ih.1 d (j + 1) ((x1 + 1)) (by rw [hj]; exact (nI_succ j).symm) (by omega) (by omega) M16 r20 M19 e21) k_X3_94  rfl rfl ⟨by dsimp only; omega, by dsimp only; omega⟩ hl.1 (Nat.le_of_ble_eq_true rfl) ⟨Nat.zero_le _, Nat.zero_le _⟩ dX3_walkFrom_96 (fun H locs hP hS => ?_)
            change W p l e _ s m _ below meth c H locs 0 0 _ (F0 m 99 ls [.int r20])
            refine lv_istore (lv' := [(6, .int r20), (0, .ref (a 8)), (1, .int x1), (2, .ref (a 13)), (3, .int x3), (5, .int x5)]) hx hb dX3_walkFrom_99 hl (by decide) rfl (fun ls hl => ?_)
            refine lv_aload_n hx hb dX3_walkFrom_101 rfl (lv_at hl 1 rfl) ?_
            refine xm_get (V := (xv E a)) (T := TX3) (v := .ref (a 12)) C hP 8 15 xi_3 rfl l_X3_63 rfl (Nat.le_of_ble_eq_true rfl) ((xe_8 E a) _) (Nat.le_of_ble_eq_true rfl) rfl dX3_walkFrom_102 ?_
            refine lv_iload hx hb dX3_walkFrom_105 (lv_at hl 5 rfl) ?_
            refine lv_dup2_11 hx hb dX3_walkFrom_107 rfl rfl ?_
            obtain ⟨b22, h⟩ := xm_ck_s h
            refine xm_iald (V := (xv E a)) C hP 12 25 (Nat.le_of_ble_eq_true rfl) (xe_12 E a) b22 dX3_walkFrom_108 ?_
            refine lv_iload hx hb dX3_walkFrom_109 (lv_at hl 0 rfl) ?_
            refine lv_iadd hx hb dX3_walkFrom_111 ?_
            obtain ⟨b23, h⟩ := xm_ck_s h
            obtain ⟨M24, e25, h⟩ := xm_lt_s h
            refine xm_iast (V := (xv E a)) C hP hS 12 25 (Nat.le_of_ble_eq_true rfl) (xe_12 E a) b23 dX3_walkFrom_112 (fun H locs hP hS => ?_)
            rw [← e25] at hP
            refine lv_iload_n hx hb dX3_walkFrom_113 rfl (lv_at hl 4 rfl) ?_
            refine lv_iload hx hb dX3_walkFrom_114 (lv_at hl 0 rfl) ?_
            refine lv_iadd hx hb dX3_walkFrom_116 ?_
            refine lv_istore_n (lv' := [(3, .int (x3 + r20)), (6, .int r20), (0, .ref (a 8)), (1, .int x1), (2, .ref (a 13)), (5, .int x5)]) hx hb dX3_walkFrom_117 rfl hl (by decide) rfl (fun ls hl => ?_)
            refine lv_aload_n hx hb dX3_walkFrom_118 rfl (lv_at hl 4 rfl) ?_
            refine xm_getN (V := (xv E a)) (T := TX1) (v := .ref (a 15)) C hP 13 2 xi_1 rfl l_X3_123 rfl (Nat.le_of_ble_eq_true rfl) ((xe_13 E a) _) (Nat.le_of_ble_eq_true rfl) rfl dX3_walkFrom_119 ?_
            refine lv_iload hx hb dX3_walkFrom_122 (lv_at hl 5 rfl) ?_
            obtain ⟨b26, h⟩ := xm_ck_s h
            refine xm_cald (V := (xv E a)) C hP 15 25 (Nat.le_of_ble_eq_true rfl) (xe_15 E a) b26 dX3_walkFrom_124 ?_
            refine lv_aload_n hx hb dX3_walkFrom_125 rfl (lv_at hl 2 rfl) ?_
            refine xm_get (V := (xv E a)) (T := TX3) (v := .ref (a 10)) C hP 8 10 xi_3 rfl l_X3_47 rfl (Nat.le_of_ble_eq_true rfl) ((xe_8 E a) _) (Nat.le_of_ble_eq_true rfl) rfl dX3_walkFrom_126 ?_
            refine lv_iload_n hx hb dX3_walkFrom_129 rfl (lv_at hl 3 rfl) ?_
            obtain ⟨b27, h⟩ := xm_ck_s h
            refine xm_cald (V := (xv E a)) C hP 10 4 (Nat.le_of_ble_eq_true rfl) (xe_10 E a) b27 dX3_walkFrom_130 ?_
            refine lv_icmp_ne (tgt := 137) hx hb dX3_walkFrom_131 (by decide) (fun c28 => ?_) (fun c28 => ?_)
            · rw [if_neg c28] at h
              refine lv_iinc (v := x5 + 1) (lv' := [(5, .int (x5 + 1)), (3, .int (x3 + r20)), (6, .int r20), (0, .ref (a 8)), (1, .int x1), (2, .ref (a 13))]) hx hb dX3_walkFrom_137 hl (k := 5) rfl (xm_add (by decide)) (by decide) rfl (fun ls hl => ?_)
              refine lv_goto (tgt := 50) hx hb dX3_walkFrom_140 (by decide) ?_
              exact ih.2 p e s m _ below meth c C d j x1 (x3 + r20) (x5 + 1) hj hj9 hd M24 r M' h _ _ _ hP hS (lv_sub hl [3, 4, 5, 1, 0] rfl)
            · rw [if_pos c28] at h
              refine lv_goto (tgt := 143) hx hb dX3_walkFrom_134 (by decide) ?_
              refine lv_iload_n hx hb dX3_walkFrom_143 rfl (lv_at hl 0 rfl) ?_
              obtain ⟨rfl, rfl⟩ := xm_pr h
              exact xm_retI C hP hS dX3_walkFrom_144
theorem c_X3_walkFrom {l : Launch} {E : xm_E} {a : Nat → Nat} (hD : xm_D (xv E a)) (n : Nat) (M : xm_M) (x1 : Int32) (r : Int32) (M' : xm_M) (h : f_X3_walkFrom n M x1 = some (r, M')) (h0 : x1 = 0 := by rfl) : xm_Met l E (xv E a) yX3_walkFrom cX3_walkFrom 7 (some .int) 5 127 [.ref (a 8), .int x1] M M' (some r) :=
  (t_X3_walkFrom_S hD n).1 4 0 x1 (h0.trans nI_0.symm) (by omega) (by omega) M r M' h
