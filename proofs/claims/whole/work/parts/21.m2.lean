theorem k_X7_112 : xm_FS RX7 112 yX7_isWell cX7_isWell 3 (some .boolean) 3 := ⟨xm_tb_of (List.mem_of_getElem? (i := 643) (by decide +kernel)) rfl, xm_tb_of (List.mem_of_getElem? (i := 641) (by decide +kernel)) rfl, xm_tb_of (List.mem_of_getElem? (i := 642) (by decide +kernel)) rfl, xm_tb_of (List.mem_of_getElem? (i := 8) (by decide +kernel)) rfl, ⟨by decide +kernel, by decide +kernel, by decide +kernel⟩⟩
theorem k_X7_116 : xm_FV RX7 116 yX7_isLate cX7_isLate 2 (some .boolean) 1 := ⟨xm_tb_of (List.mem_of_getElem? (i := 654) (by decide +kernel)) rfl, xm_tb_of (List.mem_of_getElem? (i := 651) (by decide +kernel)) rfl, xm_tb_of (List.mem_of_getElem? (i := 653) (by decide +kernel)) rfl, xm_tb_sel (List.mem_of_getElem? (i := 41) (by decide +kernel)) rfl, xm_tb_of (List.mem_of_getElem? (i := 8) (by decide +kernel)) rfl, ⟨by decide +kernel, by decide +kernel, by decide +kernel⟩⟩
theorem k_X7_120 : xm_FV RX7 120 yX7_remember cX7_remember 2 none 0 := ⟨xm_tb_of (List.mem_of_getElem? (i := 658) (by decide +kernel)) rfl, xm_tb_of (List.mem_of_getElem? (i := 655) (by decide +kernel)) rfl, xm_tb_of (List.mem_of_getElem? (i := 657) (by decide +kernel)) rfl, xm_tb_sel (List.mem_of_getElem? (i := 42) (by decide +kernel)) rfl, xm_tb_of (List.mem_of_getElem? (i := 8) (by decide +kernel)) rfl, ⟨by decide +kernel, by decide +kernel, by decide +kernel⟩⟩
theorem k_X7_123 : xm_FV RX7 123 yX7_comes cX7_comes 5 none 3 := ⟨xm_tb_of (List.mem_of_getElem? (i := 662) (by decide +kernel)) rfl, xm_tb_of (List.mem_of_getElem? (i := 659) (by decide +kernel)) rfl, xm_tb_of (List.mem_of_getElem? (i := 661) (by decide +kernel)) rfl, xm_tb_sel (List.mem_of_getElem? (i := 43) (by decide +kernel)) rfl, xm_tb_of (List.mem_of_getElem? (i := 8) (by decide +kernel)) rfl, ⟨by decide +kernel, by decide +kernel, by decide +kernel⟩⟩
theorem k_X7_127 : xm_FV RX7 127 yX7_acted cX7_acted 3 (some .int) 1 := ⟨xm_tb_of (List.mem_of_getElem? (i := 666) (by decide +kernel)) rfl, xm_tb_of (List.mem_of_getElem? (i := 663) (by decide +kernel)) rfl, xm_tb_of (List.mem_of_getElem? (i := 665) (by decide +kernel)) rfl, xm_tb_sel (List.mem_of_getElem? (i := 44) (by decide +kernel)) rfl, xm_tb_of (List.mem_of_getElem? (i := 8) (by decide +kernel)) rfl, ⟨by decide +kernel, by decide +kernel, by decide +kernel⟩⟩
theorem q_X7_130 : Cond.constantLong RX7 130 500 ∈ xm_tb := xm_tb_of (List.mem_of_getElem? (i := 675) (by decide +kernel)) rfl
theorem l_X7_132 : Cond.fieldLink RX7 132 "WindowMatchesModel" "textLong" "I" ∈ xm_tb := xm_tb_of (List.mem_of_getElem? (i := 590) (by decide +kernel)) rfl
theorem l_X7_40 : Cond.fieldLink RX7 40 "WindowMatchesModel" "text" "[I" ∈ xm_tb := xm_tb_of (List.mem_of_getElem? (i := 589) (by decide +kernel)) rfl
theorem l_X7_135 : Cond.fieldLink RX7 135 "WindowMatchesModel" "spot" "I" ∈ xm_tb := xm_tb_of (List.mem_of_getElem? (i := 591) (by decide +kernel)) rfl
theorem k_X7_138 : xm_FV RX7 138 yX7_isHere cX7_isHere 3 (some .boolean) 2 := ⟨xm_tb_of (List.mem_of_getElem? (i := 705) (by decide +kernel)) rfl, xm_tb_of (List.mem_of_getElem? (i := 702) (by decide +kernel)) rfl, xm_tb_of (List.mem_of_getElem? (i := 704) (by decide +kernel)) rfl, xm_tb_sel (List.mem_of_getElem? (i := 48) (by decide +kernel)) rfl, xm_tb_of (List.mem_of_getElem? (i := 8) (by decide +kernel)) rfl, ⟨by decide +kernel, by decide +kernel, by decide +kernel⟩⟩
theorem q_X7_141 : Cond.constantLong RX7 141 255 ∈ xm_tb := xm_tb_of (List.mem_of_getElem? (i := 697) (by decide +kernel)) rfl
theorem k_X7_143 : xm_FV RX7 143 yX7_takes cX7_takes 3 (some .boolean) 1 := ⟨xm_tb_of (List.mem_of_getElem? (i := 701) (by decide +kernel)) rfl, xm_tb_of (List.mem_of_getElem? (i := 698) (by decide +kernel)) rfl, xm_tb_of (List.mem_of_getElem? (i := 700) (by decide +kernel)) rfl, xm_tb_sel (List.mem_of_getElem? (i := 47) (by decide +kernel)) rfl, xm_tb_of (List.mem_of_getElem? (i := 8) (by decide +kernel)) rfl, ⟨by decide +kernel, by decide +kernel, by decide +kernel⟩⟩
theorem l_X7_43 : Cond.fieldLink RX7 43 "WindowMatchesModel" "read" "[I" ∈ xm_tb := xm_tb_of (List.mem_of_getElem? (i := 592) (by decide +kernel)) rfl
theorem q_X7_152 : Cond.constantLong RX7 152 107118253008160 ∈ xm_tb := xm_tb_of (List.mem_of_getElem? (i := 715) (by decide +kernel)) rfl
theorem k_X7_148 : xm_FV RX7 148 yX7_takesWord cX7_takesWord 6 (some .boolean) 2 := ⟨xm_tb_of (List.mem_of_getElem? (i := 696) (by decide +kernel)) rfl, xm_tb_of (List.mem_of_getElem? (i := 693) (by decide +kernel)) rfl, xm_tb_of (List.mem_of_getElem? (i := 695) (by decide +kernel)) rfl, xm_tb_sel (List.mem_of_getElem? (i := 46) (by decide +kernel)) rfl, xm_tb_of (List.mem_of_getElem? (i := 8) (by decide +kernel)) rfl, ⟨by decide +kernel, by decide +kernel, by decide +kernel⟩⟩
theorem q_X7_146 : Cond.constantLong RX7 146 32204091756013344 ∈ xm_tb := xm_tb_of (List.mem_of_getElem? (i := 714) (by decide +kernel)) rfl
theorem k_X7_154 : xm_FV RX7 154 yX7_isBehindAbsent cX7_isBehindAbsent 1 (some .boolean) 0 := ⟨xm_tb_of (List.mem_of_getElem? (i := 723) (by decide +kernel)) rfl, xm_tb_of (List.mem_of_getElem? (i := 720) (by decide +kernel)) rfl, xm_tb_of (List.mem_of_getElem? (i := 722) (by decide +kernel)) rfl, xm_tb_sel (List.mem_of_getElem? (i := 52) (by decide +kernel)) rfl, xm_tb_of (List.mem_of_getElem? (i := 8) (by decide +kernel)) rfl, ⟨by decide +kernel, by decide +kernel, by decide +kernel⟩⟩
theorem l_X7_158 : Cond.fieldLink RX7 158 "WindowMatchesModel" "readPlain" "I" ∈ xm_tb := xm_tb_of (List.mem_of_getElem? (i := 593) (by decide +kernel)) rfl
theorem q_X7_161 : Cond.constantLong RX7 161 33611470917430816 ∈ xm_tb := xm_tb_of (List.mem_of_getElem? (i := 692) (by decide +kernel)) rfl
theorem k_X7_163 : xm_FV RX7 163 yX7_readsWindow cX7_readsWindow 2 (some .boolean) 0 := ⟨xm_tb_of (List.mem_of_getElem? (i := 709) (by decide +kernel)) rfl, xm_tb_of (List.mem_of_getElem? (i := 706) (by decide +kernel)) rfl, xm_tb_of (List.mem_of_getElem? (i := 708) (by decide +kernel)) rfl, xm_tb_sel (List.mem_of_getElem? (i := 49) (by decide +kernel)) rfl, xm_tb_of (List.mem_of_getElem? (i := 8) (by decide +kernel)) rfl, ⟨by decide +kernel, by decide +kernel, by decide +kernel⟩⟩
theorem k_X7_166 : xm_FV RX7 166 yX7_readsRule cX7_readsRule 1 (some .boolean) 0 := ⟨xm_tb_of (List.mem_of_getElem? (i := 713) (by decide +kernel)) rfl, xm_tb_of (List.mem_of_getElem? (i := 710) (by decide +kernel)) rfl, xm_tb_of (List.mem_of_getElem? (i := 712) (by decide +kernel)) rfl, xm_tb_sel (List.mem_of_getElem? (i := 50) (by decide +kernel)) rfl, xm_tb_of (List.mem_of_getElem? (i := 8) (by decide +kernel)) rfl, ⟨by decide +kernel, by decide +kernel, by decide +kernel⟩⟩
theorem k_X7_169 : xm_FV RX7 169 yX7_readsStep cX7_readsStep 2 (some .boolean) 0 := ⟨xm_tb_of (List.mem_of_getElem? (i := 719) (by decide +kernel)) rfl, xm_tb_of (List.mem_of_getElem? (i := 716) (by decide +kernel)) rfl, xm_tb_of (List.mem_of_getElem? (i := 718) (by decide +kernel)) rfl, xm_tb_sel (List.mem_of_getElem? (i := 51) (by decide +kernel)) rfl, xm_tb_of (List.mem_of_getElem? (i := 8) (by decide +kernel)) rfl, ⟨by decide +kernel, by decide +kernel, by decide +kernel⟩⟩
theorem k_X7_172 : xm_FV RX7 172 yX7_fault cX7_fault 2 (some .int) 0 := ⟨xm_tb_of (List.mem_of_getElem? (i := 691) (by decide +kernel)) rfl, xm_tb_of (List.mem_of_getElem? (i := 688) (by decide +kernel)) rfl, xm_tb_of (List.mem_of_getElem? (i := 690) (by decide +kernel)) rfl, xm_tb_sel (List.mem_of_getElem? (i := 45) (by decide +kernel)) rfl, xm_tb_of (List.mem_of_getElem? (i := 8) (by decide +kernel)) rfl, ⟨by decide +kernel, by decide +kernel, by decide +kernel⟩⟩
theorem k_X7_175 : xm_FV RX7 175 yX7_isPattern cX7_isPattern 2 (some .boolean) 1 := ⟨xm_tb_of (List.mem_of_getElem? (i := 731) (by decide +kernel)) rfl, xm_tb_of (List.mem_of_getElem? (i := 728) (by decide +kernel)) rfl, xm_tb_of (List.mem_of_getElem? (i := 730) (by decide +kernel)) rfl, xm_tb_sel (List.mem_of_getElem? (i := 53) (by decide +kernel)) rfl, xm_tb_of (List.mem_of_getElem? (i := 8) (by decide +kernel)) rfl, ⟨by decide +kernel, by decide +kernel, by decide +kernel⟩⟩
theorem q_X7_178 : Cond.constantLong RX7 178 1000 ∈ xm_tb := xm_tb_of (List.mem_of_getElem? (i := 736) (by decide +kernel)) rfl
theorem l_X7_180 : Cond.fieldLink RX7 180 "WindowMatchesModel" "isTaken" "I" ∈ xm_tb := xm_tb_of (List.mem_of_getElem? (i := 578) (by decide +kernel)) rfl
theorem l_X7_19 : Cond.fieldLink RX7 19 "WindowMatchesModel" "snapshot" "[I" ∈ xm_tb := xm_tb_of (List.mem_of_getElem? (i := 577) (by decide +kernel)) rfl
theorem k_X7_183 : xm_FV RX7 183 yX7_isEvent cX7_isEvent 2 (some .boolean) 1 := ⟨xm_tb_of (List.mem_of_getElem? (i := 760) (by decide +kernel)) rfl, xm_tb_of (List.mem_of_getElem? (i := 757) (by decide +kernel)) rfl, xm_tb_of (List.mem_of_getElem? (i := 759) (by decide +kernel)) rfl, xm_tb_sel (List.mem_of_getElem? (i := 55) (by decide +kernel)) rfl, xm_tb_of (List.mem_of_getElem? (i := 8) (by decide +kernel)) rfl, ⟨by decide +kernel, by decide +kernel, by decide +kernel⟩⟩
theorem k_X7_186 : xm_FV RX7 186 yX7_placeOf cX7_placeOf 3 (some .int) 1 := ⟨xm_tb_of (List.mem_of_getElem? (i := 768) (by decide +kernel)) rfl, xm_tb_of (List.mem_of_getElem? (i := 765) (by decide +kernel)) rfl, xm_tb_of (List.mem_of_getElem? (i := 767) (by decide +kernel)) rfl, xm_tb_sel (List.mem_of_getElem? (i := 57) (by decide +kernel)) rfl, xm_tb_of (List.mem_of_getElem? (i := 8) (by decide +kernel)) rfl, ⟨by decide +kernel, by decide +kernel, by decide +kernel⟩⟩
theorem k_X7_189 : xm_FV RX7 189 yX7_allMatches cX7_allMatches 3 (some .int) 0 := ⟨xm_tb_of (List.mem_of_getElem? (i := 776) (by decide +kernel)) rfl, xm_tb_of (List.mem_of_getElem? (i := 773) (by decide +kernel)) rfl, xm_tb_of (List.mem_of_getElem? (i := 775) (by decide +kernel)) rfl, xm_tb_sel (List.mem_of_getElem? (i := 59) (by decide +kernel)) rfl, xm_tb_of (List.mem_of_getElem? (i := 8) (by decide +kernel)) rfl, ⟨by decide +kernel, by decide +kernel, by decide +kernel⟩⟩
theorem q_X7_192 : Cond.constantLong RX7 192 6 ∈ xm_tb := xm_tb_of (List.mem_of_getElem? (i := 813) (by decide +kernel)) rfl
theorem k_X7_194 : xm_FV RX7 194 yX7_unmatched cX7_unmatched 4 (some .int) 0 := ⟨xm_tb_of (List.mem_of_getElem? (i := 833) (by decide +kernel)) rfl, xm_tb_of (List.mem_of_getElem? (i := 830) (by decide +kernel)) rfl, xm_tb_of (List.mem_of_getElem? (i := 832) (by decide +kernel)) rfl, xm_tb_sel (List.mem_of_getElem? (i := 68) (by decide +kernel)) rfl, xm_tb_of (List.mem_of_getElem? (i := 8) (by decide +kernel)) rfl, ⟨by decide +kernel, by decide +kernel, by decide +kernel⟩⟩
def f_X7_event (n : Nat) (M : xm_M) (x1 : Int32) (x2 : Int32) (x3 : Int32) : Option (Int32 × xm_M) := xm_b2 (f_X7_isWell n M x1 x2 x3) (fun r2 M1 => if r2 = 0 then some ((-2), M1) else xm_b2 (f_X7_isLate n M1 x3) (fun r6 M5 => if r6 = 0 then xm_ck (xm_in 0 119) (if (M5 1 (0 : Int32).toNatClampNeg) = 24 then some ((-3), M5) else xm_b1 (f_X7_remember n M5) (fun M11 => xm_b1 (f_X7_comes n M11 x1 x2 x3) (fun M14 => xm_ck (xm_in 0 119) (xm_b2 (f_X7_acted n M14 ((M14 1 (0 : Int32).toNatClampNeg) - 1)) (fun r19 M18 => some (r19, M18)))))) else some ((-4), M5)))
set_option maxHeartbeats 4000000 in
set_option maxRecDepth 100000 in
theorem t_X7_event_0 {l : Launch} {p : Program} {e : Env} {s : State} {m : MethodId} {args : Array Value} {below : List Frame} {meth : Method} {c : Code} {E : xm_E} {a : Nat → Nat} (C : xm_C E (xu E a) p s m args meth c RX7 cX7_event 4 (some .int)) (n : Nat) (M : xm_M) (x1 : Int32) (x2 : Int32) (x3 : Int32) (r : Int32) (M' : xm_M) : f_X7_event n M x1 x2 x3 = some (r, M') → ∀ (H : Heap) (locs : List Loc) (ls : Array Slot), va_P E.1 vwCl (xm_w (xu E a) M) H → va_S (xm_A (xu E a) s.heap.size) s.heap H locs → lv_has ls 4 [(0, .ref (a 0)), (1, .int x1), (2, .int x2), (3, .int x3)] → W p l e { frames := 2, cells := 0, slots := 0, locals := 47 } s m args below meth c H locs 0 0 (MQ below (xm_Q E (xu E a) M' s.heap.size (some r)) args s 0 0 (xm_A (xu E a) s.heap.size)) (F0 m 0 ls []) := by
  have C9 := C
  obtain ⟨hx, hb, hml, hown, hts, hr, hlk, hD, hK, hS9⟩ := C9
  intro h H locs ls hP hS hl
  unfold f_X7_event at h
  refine lv_iload_n hx hb dX7_event_0 rfl (lv_at hl 1 rfl) ?_
  refine lv_iload_n hx hb dX7_event_1 rfl (lv_at hl 2 rfl) ?_
  refine lv_iload_n hx hb dX7_event_2 rfl (lv_at hl 3 rfl) ?_
  obtain ⟨r2, M1, e3, h⟩ := xm_b2_s h
  refine xm_callS C hP hS [.int x1, .int x2, .int x3] [] (c_X7_isWell hD  n M x1 x2 x3 r2 M1 e3) k_X7_112  rfl rfl ⟨(Nat.le_of_ble_eq_true rfl), (Nat.le_of_ble_eq_true rfl)⟩ hl.1 (Nat.le_of_ble_eq_true rfl) ⟨Nat.zero_le _, Nat.zero_le _⟩ dX7_event_3 (fun H locs hP hS => ?_)
  change W p l e _ s m _ below meth c H locs 0 0 _ (F0 m 6 ls [.int r2])
  refine lv_if_ne (tgt := 12) hx hb dX7_event_6 (by decide) (fun c4 => ?_) (fun c4 => ?_)
  · rw [if_neg c4] at h
    refine lv_aload_n hx hb dX7_event_12 rfl (lv_at hl 0 rfl) ?_
    refine lv_iload_n hx hb dX7_event_13 rfl (lv_at hl 3 rfl) ?_
    obtain ⟨r6, M5, e7, h⟩ := xm_b2_s h
    refine xm_callV C hP hS [.int x3] [] (c_X7_isLate hD  n M1 x3 r6 M5 e7) k_X7_116 (xm_recv C hP 0 rfl (Nat.le_of_ble_eq_true rfl) ((xf_0 E a) _)) rfl rfl ⟨(Nat.le_of_ble_eq_true rfl), (Nat.le_of_ble_eq_true rfl)⟩ hl.1 (Nat.le_of_ble_eq_true rfl) ⟨Nat.zero_le _, Nat.zero_le _⟩ dX7_event_14 (fun H locs hP hS => ?_)
    change W p l e _ s m _ below meth c H locs 0 0 _ (F0 m 17 ls [.int r6])
    refine lv_if_eq (tgt := 23) hx hb dX7_event_17 (by decide) (fun c8 => ?_) (fun c8 => ?_)
    · rw [if_pos c8] at h
      refine lv_aload_n hx hb dX7_event_23 rfl (lv_at hl 0 rfl) ?_
      refine xm_get (V := (xu E a)) (T := TX7) (v := .ref (a 1)) C hP 0 0 xi_7 rfl l_X7_7 rfl (Nat.le_of_ble_eq_true rfl) ((xf_0 E a) _) (Nat.le_of_ble_eq_true rfl) rfl dX7_event_24 ?_
      refine lv_iconst (v := 0) hx hb dX7_event_27 (by decide) ?_
      obtain ⟨b9, h⟩ := xm_ck_s h
      refine xm_iald (V := (xu E a)) C hP 1 119 (Nat.le_of_ble_eq_true rfl) (xf_1 E a) b9 dX7_event_28 ?_
      refine lv_bipush (v := 24) hx hb dX7_event_29 (by decide) ?_
      refine lv_icmp_ne (tgt := 37) hx hb dX7_event_31 (by decide) (fun c10 => ?_) (fun c10 => ?_)
      · rw [if_neg c10] at h
        refine lv_aload_n hx hb dX7_event_37 rfl (lv_at hl 0 rfl) ?_
        obtain ⟨M11, e13, h⟩ := xm_b1_s h
        refine xm_callV C hP hS [] [] (c_X7_remember hD  n M5  M11 e13) k_X7_120 (xm_recv C hP 0 rfl (Nat.le_of_ble_eq_true rfl) ((xf_0 E a) _)) rfl rfl ⟨(Nat.le_of_ble_eq_true rfl), (Nat.le_of_ble_eq_true rfl)⟩ hl.1 (Nat.le_of_ble_eq_true rfl) ⟨Nat.zero_le _, Nat.zero_le _⟩ dX7_event_38 (fun H locs hP hS => ?_)
        change W p l e _ s m _ below meth c H locs 0 0 _ (F0 m 41 ls [])
        refine lv_aload_n hx hb dX7_event_41 rfl (lv_at hl 0 rfl) ?_
        refine lv_iload_n hx hb dX7_event_42 rfl (lv_at hl 1 rfl) ?_
        refine lv_iload_n hx hb dX7_event_43 rfl (lv_at hl 2 rfl) ?_
        refine lv_iload_n hx hb dX7_event_44 rfl (lv_at hl 3 rfl) ?_
        obtain ⟨M14, e16, h⟩ := xm_b1_s h
        refine xm_callV C hP hS [.int x1, .int x2, .int x3] [] (c_X7_comes hD  n M11 x1 x2 x3 M14 e16) k_X7_123 (xm_recv C hP 0 rfl (Nat.le_of_ble_eq_true rfl) ((xf_0 E a) _)) rfl rfl ⟨(Nat.le_of_ble_eq_true rfl), (Nat.le_of_ble_eq_true rfl)⟩ hl.1 (Nat.le_of_ble_eq_true rfl) ⟨Nat.zero_le _, Nat.zero_le _⟩ dX7_event_45 (fun H locs hP hS => ?_)
        change W p l e _ s m _ below meth c H locs 0 0 _ (F0 m 48 ls [])
        refine lv_aload_n hx hb dX7_event_48 rfl (lv_at hl 0 rfl) ?_
        refine lv_aload_n hx hb dX7_event_49 rfl (lv_at hl 0 rfl) ?_
        refine xm_get (V := (xu E a)) (T := TX7) (v := .ref (a 1)) C hP 0 0 xi_7 rfl l_X7_7 rfl (Nat.le_of_ble_eq_true rfl) ((xf_0 E a) _) (Nat.le_of_ble_eq_true rfl) rfl dX7_event_50 ?_
        refine lv_iconst (v := 0) hx hb dX7_event_53 (by decide) ?_
        obtain ⟨b17, h⟩ := xm_ck_s h
        refine xm_iald (V := (xu E a)) C hP 1 119 (Nat.le_of_ble_eq_true rfl) (xf_1 E a) b17 dX7_event_54 ?_
        refine lv_iconst (v := 1) hx hb dX7_event_55 (by decide) ?_
        refine lv_isub hx hb dX7_event_56 ?_
        obtain ⟨r19, M18, e20, h⟩ := xm_b2_s h
        refine xm_callV C hP hS [.int ((M14 1 (0 : Int32).toNatClampNeg) - 1)] [] (c_X7_acted hD  n M14 ((M14 1 (0 : Int32).toNatClampNeg) - 1) r19 M18 e20) k_X7_127 (xm_recv C hP 0 rfl (Nat.le_of_ble_eq_true rfl) ((xf_0 E a) _)) rfl rfl ⟨(Nat.le_of_ble_eq_true rfl), (Nat.le_of_ble_eq_true rfl)⟩ hl.1 (Nat.le_of_ble_eq_true rfl) ⟨Nat.zero_le _, Nat.zero_le _⟩ dX7_event_57 (fun H locs hP hS => ?_)
        change W p l e _ s m _ below meth c H locs 0 0 _ (F0 m 60 ls [.int r19])
        obtain ⟨rfl, rfl⟩ := xm_pr h
        exact xm_retI C hP hS dX7_event_60
      · rw [if_pos c10] at h
        refine lv_bipush (v := (-3)) hx hb dX7_event_34 (by decide) ?_
        obtain ⟨rfl, rfl⟩ := xm_pr h
        exact xm_retI C hP hS dX7_event_36
    · rw [if_neg c8] at h
      refine lv_bipush (v := (-4)) hx hb dX7_event_20 (by decide) ?_
      obtain ⟨rfl, rfl⟩ := xm_pr h
      exact xm_retI C hP hS dX7_event_22
  · rw [if_pos c4] at h
    refine lv_bipush (v := (-2)) hx hb dX7_event_9 (by decide) ?_
    obtain ⟨rfl, rfl⟩ := xm_pr h
    exact xm_retI C hP hS dX7_event_11
theorem c_X7_event {l : Launch} {E : xm_E} {a : Nat → Nat} (hD : xm_D (xu E a)) (n : Nat) (M : xm_M) (x1 : Int32) (x2 : Int32) (x3 : Int32) (r : Int32) (M' : xm_M) (h : f_X7_event n M x1 x2 x3 = some (r, M')) : xm_Met l E (xu E a) yX7_event cX7_event 4 (some .int) 2 47 [.ref (a 0), .int x1, .int x2, .int x3] M M' (some r) :=
  xm_met (by decide +kernel) rfl (Nat.le_of_ble_eq_true rfl) hD (fun p e s m below meth c C hP ls hl => t_X7_event_0 C  n M x1 x2 x3 r M' h _ _ _ hP va_S.rf hl)
def f_X7_forget_28 : Nat → xm_M → Int32 → Int32 → Option (Int32 × xm_M)
  | 0, _, _, _ => none
  | n + 1, M, x1, x2 => xm_ck (xm_in 0 119) (if (4 + (3 * (M 2 (0 : Int32).toNatClampNeg))) ≤ x2 then xm_ck (xm_in 0 119) (xm_ck (xm_in 0 119) (if ((M 2 (0 : Int32).toNatClampNeg) - (M 1 (0 : Int32).toNatClampNeg)) = 0 then some ((-5), M) else xm_b2 (f_X7_acted n M ((M 2 (0 : Int32).toNatClampNeg) - (M 1 (0 : Int32).toNatClampNeg))) (fun r7 M6 => some (r7, M6)))) else xm_ck (xm_in (x2 + 2) 119) (if (M 2 (x2 + 2).toNatClampNeg) < x1 then f_X7_forget_28 n M x1 (x2 + 3) else xm_ck (xm_in 0 119) (xm_ck (xm_in (x2 + 0) 119) (xm_ck (xm_in ((4 + (3 * (M 1 (0 : Int32).toNatClampNeg))) + 0) 119) (xm_lt (xm_up M 1 ((4 + (3 * (M 1 (0 : Int32).toNatClampNeg))) + 0).toNatClampNeg (M 2 (x2 + 0).toNatClampNeg)) (fun M14 => xm_ck (xm_in (x2 + 1) 119) (xm_ck (xm_in ((4 + (3 * (M 1 (0 : Int32).toNatClampNeg))) + 1) 119) (xm_lt (xm_up M14 1 ((4 + (3 * (M 1 (0 : Int32).toNatClampNeg))) + 1).toNatClampNeg (M14 2 (x2 + 1).toNatClampNeg)) (fun M18 => xm_ck (xm_in (x2 + 2) 119) (xm_ck (xm_in ((4 + (3 * (M 1 (0 : Int32).toNatClampNeg))) + 2) 119) (xm_lt (xm_up M18 1 ((4 + (3 * (M 1 (0 : Int32).toNatClampNeg))) + 2).toNatClampNeg (M18 2 (x2 + 2).toNatClampNeg)) (fun M22 => xm_ck (xm_in 0 119) (xm_ck (xm_in 0 119) (xm_lt (xm_up M22 1 (0 : Int32).toNatClampNeg ((M22 1 (0 : Int32).toNatClampNeg) + 1)) (fun M26 => f_X7_forget_28 n M26 x1 (x2 + 3))))))))))))))))
set_option maxHeartbeats 4000000 in
set_option maxRecDepth 100000 in
theorem t_X7_forget_28 {l : Launch} {p : Program} {e : Env} {s : State} {m : MethodId} {args : Array Value} {below : List Frame} {meth : Method} {c : Code} {E : xm_E} {a : Nat → Nat} (C : xm_C E (xu E a) p s m args meth c RX7 cX7_forget 4 (some .int)) : ∀ (n : Nat) (M : xm_M) (x1 : Int32) (x2 : Int32) (r : Int32) (M' : xm_M), f_X7_forget_28 n M x1 x2 = some (r, M') → ∀ (H : Heap) (locs : List Loc) (ls : Array Slot), va_P E.1 vwCl (xm_w (xu E a) M) H → va_S (xm_A (xu E a) s.heap.size) s.heap H locs → lv_has ls 4 [(0, .ref (a 0)), (1, .int x1), (2, .int x2)] → W p l e { frames := 1, cells := 0, slots := 0, locals := 25 } s m args below meth c H locs 0 0 (MQ below (xm_Q E (xu E a) M' s.heap.size (some r)) args s 0 0 (xm_A (xu E a) s.heap.size)) (F0 m 28 ls []) := by
  have C9 := C
  obtain ⟨hx, hb, hml, hown, hts, hr, hlk, hD, hK, hS9⟩ := C9
  intro n
  induction n with
  | zero =>
    intro M x1 x2 r M' h
    cases h
  | succ n ih =>
    intro M x1 x2 r M' h H locs ls hP hS hl
    rw [f_X7_forget_28] at h
    refine lv_iload_n hx hb dX7_forget_28 rfl (lv_at hl 2 rfl) ?_
    refine lv_iconst (v := 4) hx hb dX7_forget_29 (by decide) ?_
    refine lv_iconst (v := 3) hx hb dX7_forget_30 (by decide) ?_
    refine lv_aload_n hx hb dX7_forget_31 rfl (lv_at hl 0 rfl) ?_
    refine xm_get (V := (xu E a)) (T := TX7) (v := .ref (a 2)) C hP 0 1 xi_7 rfl l_X7_13 rfl (Nat.le_of_ble_eq_true rfl) ((xf_0 E a) _) (Nat.le_of_ble_eq_true rfl) rfl dX7_forget_32 ?_
    refine lv_iconst (v := 0) hx hb dX7_forget_35 (by decide) ?_
    obtain ⟨b1, h⟩ := xm_ck_s h
    refine xm_iald (V := (xu E a)) C hP 2 119 (Nat.le_of_ble_eq_true rfl) (xf_2 E a) b1 dX7_forget_36 ?_
    refine lv_imul hx hb dX7_forget_37 ?_
    refine lv_iadd hx hb dX7_forget_38 ?_
    refine lv_icmp_ge (tgt := 129) hx hb dX7_forget_39 (by decide) (fun c2 => ?_) (fun c2 => ?_)
    · rw [if_pos c2] at h
      refine lv_aload_n hx hb dX7_forget_129 rfl (lv_at hl 0 rfl) ?_
      refine xm_get (V := (xu E a)) (T := TX7) (v := .ref (a 2)) C hP 0 1 xi_7 rfl l_X7_13 rfl (Nat.le_of_ble_eq_true rfl) ((xf_0 E a) _) (Nat.le_of_ble_eq_true rfl) rfl dX7_forget_130 ?_
      refine lv_iconst (v := 0) hx hb dX7_forget_133 (by decide) ?_
      obtain ⟨b3, h⟩ := xm_ck_s h
      refine xm_iald (V := (xu E a)) C hP 2 119 (Nat.le_of_ble_eq_true rfl) (xf_2 E a) b3 dX7_forget_134 ?_
      refine lv_aload_n hx hb dX7_forget_135 rfl (lv_at hl 0 rfl) ?_
      refine xm_get (V := (xu E a)) (T := TX7) (v := .ref (a 1)) C hP 0 0 xi_7 rfl l_X7_7 rfl (Nat.le_of_ble_eq_true rfl) ((xf_0 E a) _) (Nat.le_of_ble_eq_true rfl) rfl dX7_forget_136 ?_
      refine lv_iconst (v := 0) hx hb dX7_forget_139 (by decide) ?_
      obtain ⟨b4, h⟩ := xm_ck_s h
      refine xm_iald (V := (xu E a)) C hP 1 119 (Nat.le_of_ble_eq_true rfl) (xf_1 E a) b4 dX7_forget_140 ?_
      refine lv_isub hx hb dX7_forget_141 ?_
      refine lv_istore_n (lv' := [(2, .int ((M 2 (0 : Int32).toNatClampNeg) - (M 1 (0 : Int32).toNatClampNeg))), (0, .ref (a 0)), (1, .int x1)]) hx hb dX7_forget_142 rfl hl (by decide) rfl (fun ls hl => ?_)
      refine lv_iload_n hx hb dX7_forget_143 rfl (lv_at hl 0 rfl) ?_
      refine lv_if_ne (tgt := 152) hx hb dX7_forget_144 (by decide) (fun c5 => ?_) (fun c5 => ?_)
      · rw [if_neg c5] at h
        refine lv_aload_n hx hb dX7_forget_152 rfl (lv_at hl 1 rfl) ?_
        refine lv_iload_n hx hb dX7_forget_153 rfl (lv_at hl 0 rfl) ?_
        obtain ⟨r7, M6, e8, h⟩ := xm_b2_s h
        refine xm_callV C hP hS [.int ((M 2 (0 : Int32).toNatClampNeg) - (M 1 (0 : Int32).toNatClampNeg))] [] (c_X7_acted hD  n M ((M 2 (0 : Int32).toNatClampNeg) - (M 1 (0 : Int32).toNatClampNeg)) r7 M6 e8) k_X7_127 (xm_recv C hP 0 rfl (Nat.le_of_ble_eq_true rfl) ((xf_0 E a) _)) rfl rfl ⟨(Nat.le_of_ble_eq_true rfl), (Nat.le_of_ble_eq_true rfl)⟩ hl.1 (Nat.le_of_ble_eq_true rfl) ⟨Nat.zero_le _, Nat.zero_le _⟩ dX7_forget_154 (fun H locs hP hS => ?_)
        change W p l e _ s m _ below meth c H locs 0 0 _ (F0 m 157 ls [.int r7])
        obtain ⟨rfl, rfl⟩ := xm_pr h
        exact xm_retI C hP hS dX7_forget_157
      · rw [if_pos c5] at h
        refine lv_bipush (v := (-5)) hx hb dX7_forget_147 (by decide) ?_
        refine lv_goto (tgt := 157) hx hb dX7_forget_149 (by decide) ?_
        obtain ⟨rfl, rfl⟩ := xm_pr h
        exact xm_retI C hP hS dX7_forget_157
    · rw [if_neg c2] at h
      refine lv_aload_n hx hb dX7_forget_42 rfl (lv_at hl 0 rfl) ?_
      refine xm_get (V := (xu E a)) (T := TX7) (v := .ref (a 2)) C hP 0 1 xi_7 rfl l_X7_13 rfl (Nat.le_of_ble_eq_true rfl) ((xf_0 E a) _) (Nat.le_of_ble_eq_true rfl) rfl dX7_forget_43 ?_
      refine lv_iload_n hx hb dX7_forget_46 rfl (lv_at hl 2 rfl) ?_
      refine lv_iconst (v := 2) hx hb dX7_forget_47 (by decide) ?_
      refine lv_iadd hx hb dX7_forget_48 ?_
      obtain ⟨b9, h⟩ := xm_ck_s h
      refine xm_iald (V := (xu E a)) C hP 2 119 (Nat.le_of_ble_eq_true rfl) (xf_2 E a) b9 dX7_forget_49 ?_
      refine lv_iload_n hx hb dX7_forget_50 rfl (lv_at hl 1 rfl) ?_
      refine lv_icmp_lt (tgt := 123) hx hb dX7_forget_51 (by decide) (fun c10 => ?_) (fun c10 => ?_)
      · rw [if_pos c10] at h
        refine lv_iinc (v := x2 + 3) (lv' := [(2, .int (x2 + 3)), (0, .ref (a 0)), (1, .int x1)]) hx hb dX7_forget_123 hl (k := 2) rfl (xm_add (by decide)) (by decide) rfl (fun ls hl => ?_)
        refine lv_goto (tgt := 28) hx hb dX7_forget_126 (by decide) ?_
        exact ih M x1 (x2 + 3) r M' h _ _ _ hP hS (lv_sub hl [1, 2, 0] rfl)
      · rw [if_neg c10] at h
        refine lv_iconst (v := 4) hx hb dX7_forget_54 (by decide) ?_
        refine lv_iconst (v := 3) hx hb dX7_forget_55 (by decide) ?_
        refine lv_aload_n hx hb dX7_forget_56 rfl (lv_at hl 0 rfl) ?_
        refine xm_get (V := (xu E a)) (T := TX7) (v := .ref (a 1)) C hP 0 0 xi_7 rfl l_X7_7 rfl (Nat.le_of_ble_eq_true rfl) ((xf_0 E a) _) (Nat.le_of_ble_eq_true rfl) rfl dX7_forget_57 ?_
        refine lv_iconst (v := 0) hx hb dX7_forget_60 (by decide) ?_
        obtain ⟨b11, h⟩ := xm_ck_s h
        refine xm_iald (V := (xu E a)) C hP 1 119 (Nat.le_of_ble_eq_true rfl) (xf_1 E a) b11 dX7_forget_61 ?_
        refine lv_imul hx hb dX7_forget_62 ?_
        refine lv_iadd hx hb dX7_forget_63 ?_
        refine lv_istore_n (lv' := [(3, .int (4 + (3 * (M 1 (0 : Int32).toNatClampNeg)))), (0, .ref (a 0)), (1, .int x1), (2, .int x2)]) hx hb dX7_forget_64 rfl hl (by decide) rfl (fun ls hl => ?_)
        refine lv_aload_n hx hb dX7_forget_65 rfl (lv_at hl 1 rfl) ?_
        refine xm_get (V := (xu E a)) (T := TX7) (v := .ref (a 1)) C hP 0 0 xi_7 rfl l_X7_7 rfl (Nat.le_of_ble_eq_true rfl) ((xf_0 E a) _) (Nat.le_of_ble_eq_true rfl) rfl dX7_forget_66 ?_
        refine lv_iload_n hx hb dX7_forget_69 rfl (lv_at hl 0 rfl) ?_
        refine lv_iconst (v := 0) hx hb dX7_forget_70 (by decide) ?_
        refine lv_iadd hx hb dX7_forget_71 ?_
        refine lv_aload_n hx hb dX7_forget_72 rfl (lv_at hl 1 rfl) ?_
        refine xm_get (V := (xu E a)) (T := TX7) (v := .ref (a 2)) C hP 0 1 xi_7 rfl l_X7_13 rfl (Nat.le_of_ble_eq_true rfl) ((xf_0 E a) _) (Nat.le_of_ble_eq_true rfl) rfl dX7_forget_73 ?_
        refine lv_iload_n hx hb dX7_forget_76 rfl (lv_at hl 3 rfl) ?_
        refine lv_iconst (v := 0) hx hb dX7_forget_77 (by decide) ?_
        refine lv_iadd hx hb dX7_forget_78 ?_
        obtain ⟨b12, h⟩ := xm_ck_s h
        refine xm_iald (V := (xu E a)) C hP 2 119 (Nat.le_of_ble_eq_true rfl) (xf_2 E a) b12 dX7_forget_79 ?_
        obtain ⟨b13, h⟩ := xm_ck_s h
        obtain ⟨M14, e15, h⟩ := xm_lt_s h
        refine xm_iast (V := (xu E a)) C hP hS 1 119 (Nat.le_of_ble_eq_true rfl) (xf_1 E a) b13 dX7_forget_80 (fun H locs hP hS => ?_)
        rw [← e15] at hP
        refine lv_aload_n hx hb dX7_forget_81 rfl (lv_at hl 1 rfl) ?_
        refine xm_get (V := (xu E a)) (T := TX7) (v := .ref (a 1)) C hP 0 0 xi_7 rfl l_X7_7 rfl (Nat.le_of_ble_eq_true rfl) ((xf_0 E a) _) (Nat.le_of_ble_eq_true rfl) rfl dX7_forget_82 ?_
        refine lv_iload_n hx hb dX7_forget_85 rfl (lv_at hl 0 rfl) ?_
        refine lv_iconst (v := 1) hx hb dX7_forget_86 (by decide) ?_
        refine lv_iadd hx hb dX7_forget_87 ?_
        refine lv_aload_n hx hb dX7_forget_88 rfl (lv_at hl 1 rfl) ?_
        refine xm_get (V := (xu E a)) (T := TX7) (v := .ref (a 2)) C hP 0 1 xi_7 rfl l_X7_13 rfl (Nat.le_of_ble_eq_true rfl) ((xf_0 E a) _) (Nat.le_of_ble_eq_true rfl) rfl dX7_forget_89 ?_
        refine lv_iload_n hx hb dX7_forget_92 rfl (lv_at hl 3 rfl) ?_
        refine lv_iconst (v := 1) hx hb dX7_forget_93 (by decide) ?_
        refine lv_iadd hx hb dX7_forget_94 ?_
        obtain ⟨b16, h⟩ := xm_ck_s h
        refine xm_iald (V := (xu E a)) C hP 2 119 (Nat.le_of_ble_eq_true rfl) (xf_2 E a) b16 dX7_forget_95 ?_
        obtain ⟨b17, h⟩ := xm_ck_s h
        obtain ⟨M18, e19, h⟩ := xm_lt_s h
        refine xm_iast (V := (xu E a)) C hP hS 1 119 (Nat.le_of_ble_eq_true rfl) (xf_1 E a) b17 dX7_forget_96 (fun H locs hP hS => ?_)
        rw [← e19] at hP
        refine lv_aload_n hx hb dX7_forget_97 rfl (lv_at hl 1 rfl) ?_
        refine xm_get (V := (xu E a)) (T := TX7) (v := .ref (a 1)) C hP 0 0 xi_7 rfl l_X7_7 rfl (Nat.le_of_ble_eq_true rfl) ((xf_0 E a) _) (Nat.le_of_ble_eq_true rfl) rfl dX7_forget_98 ?_
        refine lv_iload_n hx hb dX7_forget_101 rfl (lv_at hl 0 rfl) ?_
        refine lv_iconst (v := 2) hx hb dX7_forget_102 (by decide) ?_
        refine lv_iadd hx hb dX7_forget_103 ?_
        refine lv_aload_n hx hb dX7_forget_104 rfl (lv_at hl 1 rfl) ?_
        refine xm_get (V := (xu E a)) (T := TX7) (v := .ref (a 2)) C hP 0 1 xi_7 rfl l_X7_13 rfl (Nat.le_of_ble_eq_true rfl) ((xf_0 E a) _) (Nat.le_of_ble_eq_true rfl) rfl dX7_forget_105 ?_
        refine lv_iload_n hx hb dX7_forget_108 rfl (lv_at hl 3 rfl) ?_
        refine lv_iconst (v := 2) hx hb dX7_forget_109 (by decide) ?_
        refine lv_iadd hx hb dX7_forget_110 ?_
        obtain ⟨b20, h⟩ := xm_ck_s h
        refine xm_iald (V := (xu E a)) C hP 2 119 (Nat.le_of_ble_eq_true rfl) (xf_2 E a) b20 dX7_forget_111 ?_
        obtain ⟨b21, h⟩ := xm_ck_s h
        obtain ⟨M22, e23, h⟩ := xm_lt_s h
        refine xm_iast (V := (xu E a)) C hP hS 1 119 (Nat.le_of_ble_eq_true rfl) (xf_1 E a) b21 dX7_forget_112 (fun H locs hP hS => ?_)
        rw [← e23] at hP
        refine lv_aload_n hx hb dX7_forget_113 rfl (lv_at hl 1 rfl) ?_
        refine xm_get (V := (xu E a)) (T := TX7) (v := .ref (a 1)) C hP 0 0 xi_7 rfl l_X7_7 rfl (Nat.le_of_ble_eq_true rfl) ((xf_0 E a) _) (Nat.le_of_ble_eq_true rfl) rfl dX7_forget_114 ?_
        refine lv_iconst (v := 0) hx hb dX7_forget_117 (by decide) ?_
        refine lv_dup2_11 hx hb dX7_forget_118 rfl rfl ?_
        obtain ⟨b24, h⟩ := xm_ck_s h
        refine xm_iald (V := (xu E a)) C hP 1 119 (Nat.le_of_ble_eq_true rfl) (xf_1 E a) b24 dX7_forget_119 ?_
        refine lv_iconst (v := 1) hx hb dX7_forget_120 (by decide) ?_
        refine lv_iadd hx hb dX7_forget_121 ?_
        obtain ⟨b25, h⟩ := xm_ck_s h
        obtain ⟨M26, e27, h⟩ := xm_lt_s h
        refine xm_iast (V := (xu E a)) C hP hS 1 119 (Nat.le_of_ble_eq_true rfl) (xf_1 E a) b25 dX7_forget_122 (fun H locs hP hS => ?_)
        rw [← e27] at hP
        refine lv_iinc (v := x2 + 3) (lv' := [(2, .int (x2 + 3)), (3, .int (4 + (3 * (M 1 (0 : Int32).toNatClampNeg)))), (0, .ref (a 0)), (1, .int x1)]) hx hb dX7_forget_123 hl (k := 3) rfl (xm_add (by decide)) (by decide) rfl (fun ls hl => ?_)
        refine lv_goto (tgt := 28) hx hb dX7_forget_126 (by decide) ?_
        exact ih M26 x1 (x2 + 3) r M' h _ _ _ hP hS (lv_sub hl [2, 3, 0] rfl)
def f_X7_forget (n : Nat) (M : xm_M) (x1 : Int32) : Option (Int32 × xm_M) := xm_b2 (f_X7_in n M x1.toInt64 0 9999) (fun r2 M1 => if r2 = 0 then some ((-2), M1) else xm_b1 (f_X7_remember n M1) (fun M5 => xm_ck (xm_in 0 119) (xm_lt (xm_up M5 1 (0 : Int32).toNatClampNeg 0) (fun M9 => f_X7_forget_28 n M9 x1 4))))
set_option maxHeartbeats 4000000 in
set_option maxRecDepth 100000 in
theorem t_X7_forget_0 {l : Launch} {p : Program} {e : Env} {s : State} {m : MethodId} {args : Array Value} {below : List Frame} {meth : Method} {c : Code} {E : xm_E} {a : Nat → Nat} (C : xm_C E (xu E a) p s m args meth c RX7 cX7_forget 4 (some .int)) (n : Nat) (M : xm_M) (x1 : Int32) (r : Int32) (M' : xm_M) : f_X7_forget n M x1 = some (r, M') → ∀ (H : Heap) (locs : List Loc) (ls : Array Slot), va_P E.1 vwCl (xm_w (xu E a) M) H → va_S (xm_A (xu E a) s.heap.size) s.heap H locs → lv_has ls 4 [(0, .ref (a 0)), (1, .int x1)] → W p l e { frames := 1, cells := 0, slots := 0, locals := 25 } s m args below meth c H locs 0 0 (MQ below (xm_Q E (xu E a) M' s.heap.size (some r)) args s 0 0 (xm_A (xu E a) s.heap.size)) (F0 m 0 ls []) := by
  have C9 := C
  obtain ⟨hx, hb, hml, hown, hts, hr, hlk, hD, hK, hS9⟩ := C9
  intro h H locs ls hP hS hl
  unfold f_X7_forget at h
  refine lv_iload_n hx hb dX7_forget_0 rfl (lv_at hl 1 rfl) ?_
  refine lv_i2l (v := x1.toInt64) hx hb dX7_forget_1 rfl ?_
  refine lv_lconst (v := 0) hx hb dX7_forget_2 (by decide) ?_
  refine lv_ldc2 (v := 9999) hx hb hown (hts _ q_X7_60) dX7_forget_3 ?_
  obtain ⟨r2, M1, e3, h⟩ := xm_b2_s h
  refine xm_callS C hP hS [.long x1.toInt64, .long 0, .long 9999] [] (c_X7_in hD  n M x1.toInt64 0 9999 r2 M1 e3) k_X7_50  rfl rfl ⟨(Nat.le_of_ble_eq_true rfl), (Nat.le_of_ble_eq_true rfl)⟩ hl.1 (Nat.le_of_ble_eq_true rfl) ⟨Nat.zero_le _, Nat.zero_le _⟩ dX7_forget_6 (fun H locs hP hS => ?_)
  change W p l e _ s m _ below meth c H locs 0 0 _ (F0 m 9 ls [.int r2])
  refine lv_if_ne (tgt := 15) hx hb dX7_forget_9 (by decide) (fun c4 => ?_) (fun c4 => ?_)
  · rw [if_neg c4] at h
    refine lv_aload_n hx hb dX7_forget_15 rfl (lv_at hl 0 rfl) ?_
    obtain ⟨M5, e7, h⟩ := xm_b1_s h
    refine xm_callV C hP hS [] [] (c_X7_remember hD  n M1  M5 e7) k_X7_120 (xm_recv C hP 0 rfl (Nat.le_of_ble_eq_true rfl) ((xf_0 E a) _)) rfl rfl ⟨(Nat.le_of_ble_eq_true rfl), (Nat.le_of_ble_eq_true rfl)⟩ hl.1 (Nat.le_of_ble_eq_true rfl) ⟨Nat.zero_le _, Nat.zero_le _⟩ dX7_forget_16 (fun H locs hP hS => ?_)
    change W p l e _ s m _ below meth c H locs 0 0 _ (F0 m 19 ls [])
    refine lv_aload_n hx hb dX7_forget_19 rfl (lv_at hl 0 rfl) ?_
    refine xm_get (V := (xu E a)) (T := TX7) (v := .ref (a 1)) C hP 0 0 xi_7 rfl l_X7_7 rfl (Nat.le_of_ble_eq_true rfl) ((xf_0 E a) _) (Nat.le_of_ble_eq_true rfl) rfl dX7_forget_20 ?_
    refine lv_iconst (v := 0) hx hb dX7_forget_23 (by decide) ?_
    refine lv_iconst (v := 0) hx hb dX7_forget_24 (by decide) ?_
    obtain ⟨b8, h⟩ := xm_ck_s h
    obtain ⟨M9, e10, h⟩ := xm_lt_s h
    refine xm_iast (V := (xu E a)) C hP hS 1 119 (Nat.le_of_ble_eq_true rfl) (xf_1 E a) b8 dX7_forget_25 (fun H locs hP hS => ?_)
    rw [← e10] at hP
    refine lv_iconst (v := 4) hx hb dX7_forget_26 (by decide) ?_
    refine lv_istore_n (lv' := [(2, .int 4), (0, .ref (a 0)), (1, .int x1)]) hx hb dX7_forget_27 rfl hl (by decide) rfl (fun ls hl => ?_)
    exact t_X7_forget_28 C  n M9 x1 4 r M' h _ _ _ hP hS (lv_sub hl [1, 2, 0] rfl)
  · rw [if_pos c4] at h
    refine lv_bipush (v := (-2)) hx hb dX7_forget_12 (by decide) ?_
    obtain ⟨rfl, rfl⟩ := xm_pr h
    exact xm_retI C hP hS dX7_forget_14
theorem c_X7_forget {l : Launch} {E : xm_E} {a : Nat → Nat} (hD : xm_D (xu E a)) (n : Nat) (M : xm_M) (x1 : Int32) (r : Int32) (M' : xm_M) (h : f_X7_forget n M x1 = some (r, M')) : xm_Met l E (xu E a) yX7_forget cX7_forget 4 (some .int) 1 25 [.ref (a 0), .int x1] M M' (some r) :=
  xm_met (by decide +kernel) rfl (Nat.le_of_ble_eq_true rfl) hD (fun p e s m below meth c C hP ls hl => t_X7_forget_0 C  n M x1 r M' h _ _ _ hP va_S.rf hl)
def f_X7_setLateness (n : Nat) (M : xm_M) (x1 : Int32) : Option (Int32 × xm_M) := xm_b2 (f_X7_in n M x1.toInt64 0 500) (fun r2 M1 => if r2 = 0 then some ((-2), M1) else xm_ck (xm_in 2 119) (if (M1 1 (2 : Int32).toNatClampNeg) = x1 then some ((-5), M1) else xm_b1 (f_X7_remember n M1) (fun M7 => xm_ck (xm_in 2 119) (xm_lt (xm_up M7 1 (2 : Int32).toNatClampNeg x1) (fun M11 => xm_b2 (f_X7_acted n M11 (M1 1 (2 : Int32).toNatClampNeg)) (fun r14 M13 => some (r14, M13)))))))
set_option maxHeartbeats 4000000 in
set_option maxRecDepth 100000 in
theorem t_X7_setLateness_0 {l : Launch} {p : Program} {e : Env} {s : State} {m : MethodId} {args : Array Value} {below : List Frame} {meth : Method} {c : Code} {E : xm_E} {a : Nat → Nat} (C : xm_C E (xu E a) p s m args meth c RX7 cX7_setLateness 3 (some .int)) (n : Nat) (M : xm_M) (x1 : Int32) (r : Int32) (M' : xm_M) : f_X7_setLateness n M x1 = some (r, M') → ∀ (H : Heap) (locs : List Loc) (ls : Array Slot), va_P E.1 vwCl (xm_w (xu E a) M) H → va_S (xm_A (xu E a) s.heap.size) s.heap H locs → lv_has ls 3 [(0, .ref (a 0)), (1, .int x1)] → W p l e { frames := 1, cells := 0, slots := 0, locals := 25 } s m args below meth c H locs 0 0 (MQ below (xm_Q E (xu E a) M' s.heap.size (some r)) args s 0 0 (xm_A (xu E a) s.heap.size)) (F0 m 0 ls []) := by
  have C9 := C
  obtain ⟨hx, hb, hml, hown, hts, hr, hlk, hD, hK, hS9⟩ := C9
  intro h H locs ls hP hS hl
  unfold f_X7_setLateness at h
  refine lv_iload_n hx hb dX7_setLateness_0 rfl (lv_at hl 1 rfl) ?_
  refine lv_i2l (v := x1.toInt64) hx hb dX7_setLateness_1 rfl ?_
  refine lv_lconst (v := 0) hx hb dX7_setLateness_2 (by decide) ?_
  refine lv_ldc2 (v := 500) hx hb hown (hts _ q_X7_130) dX7_setLateness_3 ?_
  obtain ⟨r2, M1, e3, h⟩ := xm_b2_s h
  refine xm_callS C hP hS [.long x1.toInt64, .long 0, .long 500] [] (c_X7_in hD  n M x1.toInt64 0 500 r2 M1 e3) k_X7_50  rfl rfl ⟨(Nat.le_of_ble_eq_true rfl), (Nat.le_of_ble_eq_true rfl)⟩ hl.1 (Nat.le_of_ble_eq_true rfl) ⟨Nat.zero_le _, Nat.zero_le _⟩ dX7_setLateness_6 (fun H locs hP hS => ?_)
  change W p l e _ s m _ below meth c H locs 0 0 _ (F0 m 9 ls [.int r2])
  refine lv_if_ne (tgt := 15) hx hb dX7_setLateness_9 (by decide) (fun c4 => ?_) (fun c4 => ?_)
  · rw [if_neg c4] at h
    refine lv_aload_n hx hb dX7_setLateness_15 rfl (lv_at hl 0 rfl) ?_
    refine xm_get (V := (xu E a)) (T := TX7) (v := .ref (a 1)) C hP 0 0 xi_7 rfl l_X7_7 rfl (Nat.le_of_ble_eq_true rfl) ((xf_0 E a) _) (Nat.le_of_ble_eq_true rfl) rfl dX7_setLateness_16 ?_
    refine lv_iconst (v := 2) hx hb dX7_setLateness_19 (by decide) ?_
    obtain ⟨b5, h⟩ := xm_ck_s h
    refine xm_iald (V := (xu E a)) C hP 1 119 (Nat.le_of_ble_eq_true rfl) (xf_1 E a) b5 dX7_setLateness_20 ?_
    refine lv_istore_n (lv' := [(2, .int (M1 1 (2 : Int32).toNatClampNeg)), (0, .ref (a 0)), (1, .int x1)]) hx hb dX7_setLateness_21 rfl hl (by decide) rfl (fun ls hl => ?_)
    refine lv_iload_n hx hb dX7_setLateness_22 rfl (lv_at hl 0 rfl) ?_
    refine lv_iload_n hx hb dX7_setLateness_23 rfl (lv_at hl 2 rfl) ?_
    refine lv_icmp_ne (tgt := 30) hx hb dX7_setLateness_24 (by decide) (fun c6 => ?_) (fun c6 => ?_)
    · rw [if_neg c6] at h
      refine lv_aload_n hx hb dX7_setLateness_30 rfl (lv_at hl 1 rfl) ?_
      obtain ⟨M7, e9, h⟩ := xm_b1_s h
      refine xm_callV C hP hS [] [] (c_X7_remember hD  n M1  M7 e9) k_X7_120 (xm_recv C hP 0 rfl (Nat.le_of_ble_eq_true rfl) ((xf_0 E a) _)) rfl rfl ⟨(Nat.le_of_ble_eq_true rfl), (Nat.le_of_ble_eq_true rfl)⟩ hl.1 (Nat.le_of_ble_eq_true rfl) ⟨Nat.zero_le _, Nat.zero_le _⟩ dX7_setLateness_31 (fun H locs hP hS => ?_)
      change W p l e _ s m _ below meth c H locs 0 0 _ (F0 m 34 ls [])
      refine lv_aload_n hx hb dX7_setLateness_34 rfl (lv_at hl 1 rfl) ?_
      refine xm_get (V := (xu E a)) (T := TX7) (v := .ref (a 1)) C hP 0 0 xi_7 rfl l_X7_7 rfl (Nat.le_of_ble_eq_true rfl) ((xf_0 E a) _) (Nat.le_of_ble_eq_true rfl) rfl dX7_setLateness_35 ?_
      refine lv_iconst (v := 2) hx hb dX7_setLateness_38 (by decide) ?_
      refine lv_iload_n hx hb dX7_setLateness_39 rfl (lv_at hl 2 rfl) ?_
      obtain ⟨b10, h⟩ := xm_ck_s h
      obtain ⟨M11, e12, h⟩ := xm_lt_s h
      refine xm_iast (V := (xu E a)) C hP hS 1 119 (Nat.le_of_ble_eq_true rfl) (xf_1 E a) b10 dX7_setLateness_40 (fun H locs hP hS => ?_)
      rw [← e12] at hP
      refine lv_aload_n hx hb dX7_setLateness_41 rfl (lv_at hl 1 rfl) ?_
      refine lv_iload_n hx hb dX7_setLateness_42 rfl (lv_at hl 0 rfl) ?_
      obtain ⟨r14, M13, e15, h⟩ := xm_b2_s h
      refine xm_callV C hP hS [.int (M1 1 (2 : Int32).toNatClampNeg)] [] (c_X7_acted hD  n M11 (M1 1 (2 : Int32).toNatClampNeg) r14 M13 e15) k_X7_127 (xm_recv C hP 0 rfl (Nat.le_of_ble_eq_true rfl) ((xf_0 E a) _)) rfl rfl ⟨(Nat.le_of_ble_eq_true rfl), (Nat.le_of_ble_eq_true rfl)⟩ hl.1 (Nat.le_of_ble_eq_true rfl) ⟨Nat.zero_le _, Nat.zero_le _⟩ dX7_setLateness_43 (fun H locs hP hS => ?_)
      change W p l e _ s m _ below meth c H locs 0 0 _ (F0 m 46 ls [.int r14])
      obtain ⟨rfl, rfl⟩ := xm_pr h
      exact xm_retI C hP hS dX7_setLateness_46
    · rw [if_pos c6] at h
      refine lv_bipush (v := (-5)) hx hb dX7_setLateness_27 (by decide) ?_
      obtain ⟨rfl, rfl⟩ := xm_pr h
      exact xm_retI C hP hS dX7_setLateness_29
  · rw [if_pos c4] at h
    refine lv_bipush (v := (-2)) hx hb dX7_setLateness_12 (by decide) ?_
    obtain ⟨rfl, rfl⟩ := xm_pr h
    exact xm_retI C hP hS dX7_setLateness_14
theorem c_X7_setLateness {l : Launch} {E : xm_E} {a : Nat → Nat} (hD : xm_D (xu E a)) (n : Nat) (M : xm_M) (x1 : Int32) (r : Int32) (M' : xm_M) (h : f_X7_setLateness n M x1 = some (r, M')) : xm_Met l E (xu E a) yX7_setLateness cX7_setLateness 3 (some .int) 1 25 [.ref (a 0), .int x1] M M' (some r) :=
  xm_met (by decide +kernel) rfl (Nat.le_of_ble_eq_true rfl) hD (fun p e s m below meth c C hP ls hl => t_X7_setLateness_0 C  n M x1 r M' h _ _ _ hP va_S.rf hl)
def f_X7_type (n : Nat) (M : xm_M) (x1 : Int32) : Option (Int32 × xm_M) := if (M 0 17) = 80 then some ((-3), M) else xm_ck (xm_in (M 0 17) 80) (xm_lt (xm_up M 11 (M 0 17).toNatClampNeg x1) (fun M3 => xm_lt (xm_up M3 0 17 ((M3 0 17) + 1)) (fun M5 => some (M5 0 17, M5))))
set_option maxHeartbeats 4000000 in
set_option maxRecDepth 100000 in
theorem t_X7_type_0 {l : Launch} {p : Program} {e : Env} {s : State} {m : MethodId} {args : Array Value} {below : List Frame} {meth : Method} {c : Code} {E : xm_E} {a : Nat → Nat} (C : xm_C E (xu E a) p s m args meth c RX7 cX7_type 2 (some .int)) (n : Nat) (M : xm_M) (x1 : Int32) (r : Int32) (M' : xm_M) : f_X7_type n M x1 = some (r, M') → ∀ (H : Heap) (locs : List Loc) (ls : Array Slot), va_P E.1 vwCl (xm_w (xu E a) M) H → va_S (xm_A (xu E a) s.heap.size) s.heap H locs → lv_has ls 2 [(0, .ref (a 0)), (1, .int x1)] → W p l e { frames := 0, cells := 0, slots := 0, locals := 0 } s m args below meth c H locs 0 0 (MQ below (xm_Q E (xu E a) M' s.heap.size (some r)) args s 0 0 (xm_A (xu E a) s.heap.size)) (F0 m 0 ls []) := by
  have C9 := C
  obtain ⟨hx, hb, hml, hown, hts, hr, hlk, hD, hK, hS9⟩ := C9
  intro h H locs ls hP hS hl
  unfold f_X7_type at h
  refine lv_aload_n hx hb dX7_type_0 rfl (lv_at hl 0 rfl) ?_
  refine xm_get (V := (xu E a)) (T := TX7) (v := .int (M 0 17)) C hP 0 17 xi_7 rfl l_X7_132 rfl (Nat.le_of_ble_eq_true rfl) ((xf_0 E a) _) (Nat.le_of_ble_eq_true rfl) rfl dX7_type_1 ?_
  refine lv_bipush (v := 80) hx hb dX7_type_4 (by decide) ?_
  refine lv_icmp_ne (tgt := 12) hx hb dX7_type_6 (by decide) (fun c1 => ?_) (fun c1 => ?_)
  · rw [if_neg c1] at h
    refine lv_aload_n hx hb dX7_type_12 rfl (lv_at hl 0 rfl) ?_
    refine xm_get (V := (xu E a)) (T := TX7) (v := .ref (a 11)) C hP 0 16 xi_7 rfl l_X7_40 rfl (Nat.le_of_ble_eq_true rfl) ((xf_0 E a) _) (Nat.le_of_ble_eq_true rfl) rfl dX7_type_13 ?_
    refine lv_aload_n hx hb dX7_type_16 rfl (lv_at hl 0 rfl) ?_
    refine xm_get (V := (xu E a)) (T := TX7) (v := .int (M 0 17)) C hP 0 17 xi_7 rfl l_X7_132 rfl (Nat.le_of_ble_eq_true rfl) ((xf_0 E a) _) (Nat.le_of_ble_eq_true rfl) rfl dX7_type_17 ?_
    refine lv_iload_n hx hb dX7_type_20 rfl (lv_at hl 1 rfl) ?_
    obtain ⟨b2, h⟩ := xm_ck_s h
    obtain ⟨M3, e4, h⟩ := xm_lt_s h
    refine xm_iast (V := (xu E a)) C hP hS 11 80 (Nat.le_of_ble_eq_true rfl) (xf_11 E a) b2 dX7_type_21 (fun H locs hP hS => ?_)
    rw [← e4] at hP
    refine lv_aload_n hx hb dX7_type_22 rfl (lv_at hl 0 rfl) ?_
    refine lv_dup hx hb dX7_type_23 rfl ?_
    refine xm_get (V := (xu E a)) (T := TX7) (v := .int (M3 0 17)) C hP 0 17 xi_7 rfl l_X7_132 rfl (Nat.le_of_ble_eq_true rfl) ((xf_0 E a) _) (Nat.le_of_ble_eq_true rfl) rfl dX7_type_24 ?_
    refine lv_iconst (v := 1) hx hb dX7_type_27 (by decide) ?_
    refine lv_iadd hx hb dX7_type_28 ?_
    obtain ⟨M5, e6, h⟩ := xm_lt_s h
    refine xm_put (V := (xu E a)) (T := TX7) (ty := .int) (x := (M3 0 17) + 1) C hP hS 0 17 xi_7 rfl l_X7_132 rfl tyX7_ok nmX7 (Nat.le_of_ble_eq_true rfl) ((xf_0 E a) _) (Nat.le_of_ble_eq_true rfl) rfl (by decide +kernel) rfl rfl (Nat.le_of_ble_eq_true rfl) ((xf_0 E a) _) dX7_type_29 (fun H locs hP hS => ?_)
    rw [← e6] at hP
    refine lv_aload_n hx hb dX7_type_32 rfl (lv_at hl 0 rfl) ?_
    refine xm_get (V := (xu E a)) (T := TX7) (v := .int (M5 0 17)) C hP 0 17 xi_7 rfl l_X7_132 rfl (Nat.le_of_ble_eq_true rfl) ((xf_0 E a) _) (Nat.le_of_ble_eq_true rfl) rfl dX7_type_33 ?_
    obtain ⟨rfl, rfl⟩ := xm_pr h
    exact xm_retI C hP hS dX7_type_36
  · rw [if_pos c1] at h
    refine lv_bipush (v := (-3)) hx hb dX7_type_9 (by decide) ?_
    obtain ⟨rfl, rfl⟩ := xm_pr h
    exact xm_retI C hP hS dX7_type_11
theorem c_X7_type {l : Launch} {E : xm_E} {a : Nat → Nat} (hD : xm_D (xu E a)) (n : Nat) (M : xm_M) (x1 : Int32) (r : Int32) (M' : xm_M) (h : f_X7_type n M x1 = some (r, M')) : xm_Met l E (xu E a) yX7_type cX7_type 2 (some .int) 0 0 [.ref (a 0), .int x1] M M' (some r) :=
  xm_met (by decide +kernel) rfl (Nat.le_of_ble_eq_true rfl) hD (fun p e s m below meth c C hP ls hl => t_X7_type_0 C  n M x1 r M' h _ _ _ hP va_S.rf hl)
def f_X7_clearText (n : Nat) (M : xm_M) : Option (Int32 × xm_M) := xm_lt (xm_up M 0 17 0) (fun M1 => some (M 0 17, M1))
set_option maxHeartbeats 4000000 in
set_option maxRecDepth 100000 in
theorem t_X7_clearText_0 {l : Launch} {p : Program} {e : Env} {s : State} {m : MethodId} {args : Array Value} {below : List Frame} {meth : Method} {c : Code} {E : xm_E} {a : Nat → Nat} (C : xm_C E (xu E a) p s m args meth c RX7 cX7_clearText 2 (some .int)) (n : Nat) (M : xm_M) (r : Int32) (M' : xm_M) : f_X7_clearText n M = some (r, M') → ∀ (H : Heap) (locs : List Loc) (ls : Array Slot), va_P E.1 vwCl (xm_w (xu E a) M) H → va_S (xm_A (xu E a) s.heap.size) s.heap H locs → lv_has ls 2 [(0, .ref (a 0))] → W p l e { frames := 0, cells := 0, slots := 0, locals := 0 } s m args below meth c H locs 0 0 (MQ below (xm_Q E (xu E a) M' s.heap.size (some r)) args s 0 0 (xm_A (xu E a) s.heap.size)) (F0 m 0 ls []) := by
  have C9 := C
  obtain ⟨hx, hb, hml, hown, hts, hr, hlk, hD, hK, hS9⟩ := C9
  intro h H locs ls hP hS hl
  unfold f_X7_clearText at h
  refine lv_aload_n hx hb dX7_clearText_0 rfl (lv_at hl 0 rfl) ?_
  refine xm_get (V := (xu E a)) (T := TX7) (v := .int (M 0 17)) C hP 0 17 xi_7 rfl l_X7_132 rfl (Nat.le_of_ble_eq_true rfl) ((xf_0 E a) _) (Nat.le_of_ble_eq_true rfl) rfl dX7_clearText_1 ?_
  refine lv_istore_n (lv' := [(1, .int (M 0 17)), (0, .ref (a 0))]) hx hb dX7_clearText_4 rfl hl (by decide) rfl (fun ls hl => ?_)
  refine lv_aload_n hx hb dX7_clearText_5 rfl (lv_at hl 1 rfl) ?_
  refine lv_iconst (v := 0) hx hb dX7_clearText_6 (by decide) ?_
  obtain ⟨M1, e2, h⟩ := xm_lt_s h
  refine xm_put (V := (xu E a)) (T := TX7) (ty := .int) (x := 0) C hP hS 0 17 xi_7 rfl l_X7_132 rfl tyX7_ok nmX7 (Nat.le_of_ble_eq_true rfl) ((xf_0 E a) _) (Nat.le_of_ble_eq_true rfl) rfl (by decide +kernel) rfl rfl (Nat.le_of_ble_eq_true rfl) ((xf_0 E a) _) dX7_clearText_7 (fun H locs hP hS => ?_)
  rw [← e2] at hP
  refine lv_iload_n hx hb dX7_clearText_10 rfl (lv_at hl 0 rfl) ?_
  obtain ⟨rfl, rfl⟩ := xm_pr h
  exact xm_retI C hP hS dX7_clearText_11
theorem c_X7_clearText {l : Launch} {E : xm_E} {a : Nat → Nat} (hD : xm_D (xu E a)) (n : Nat) (M : xm_M) (r : Int32) (M' : xm_M) (h : f_X7_clearText n M = some (r, M')) : xm_Met l E (xu E a) yX7_clearText cX7_clearText 2 (some .int) 0 0 [.ref (a 0)] M M' (some r) :=
  xm_met (by decide +kernel) rfl (Nat.le_of_ble_eq_true rfl) hD (fun p e s m below meth c C hP ls hl => t_X7_clearText_0 C  n M r M' h _ _ _ hP va_S.rf hl)
def f_X7_isHere (n : Nat) (M : xm_M) (x1 : Int32) (x2 : Int32) : Option (Int32 × xm_M) := if (M 0 17) ≤ (M 0 18) then some (0, M) else xm_ck (xm_in (M 0 18) 80) (xm_b2 (f_X7_in n M ((M 11 (M 0 18).toNatClampNeg).toInt64) x1.toInt64 x2.toInt64) (fun r4 M3 => if r4 = 0 then some (0, M3) else some (1, M3)))
set_option maxHeartbeats 4000000 in
set_option maxRecDepth 100000 in
theorem t_X7_isHere_0 {l : Launch} {p : Program} {e : Env} {s : State} {m : MethodId} {args : Array Value} {below : List Frame} {meth : Method} {c : Code} {E : xm_E} {a : Nat → Nat} (C : xm_C E (xu E a) p s m args meth c RX7 cX7_isHere 3 (some .boolean)) (n : Nat) (M : xm_M) (x1 : Int32) (x2 : Int32) (r : Int32) (M' : xm_M) : f_X7_isHere n M x1 x2 = some (r, M') → ∀ (H : Heap) (locs : List Loc) (ls : Array Slot), va_P E.1 vwCl (xm_w (xu E a) M) H → va_S (xm_A (xu E a) s.heap.size) s.heap H locs → lv_has ls 3 [(0, .ref (a 0)), (1, .int x1), (2, .int x2)] → W p l e { frames := 1, cells := 0, slots := 0, locals := 25 } s m args below meth c H locs 0 0 (MQ below (xm_Q E (xu E a) M' s.heap.size (some r)) args s 0 0 (xm_A (xu E a) s.heap.size)) (F0 m 0 ls []) := by
  have C9 := C
  obtain ⟨hx, hb, hml, hown, hts, hr, hlk, hD, hK, hS9⟩ := C9
  intro h H locs ls hP hS hl
  unfold f_X7_isHere at h
  refine lv_aload_n hx hb dX7_isHere_0 rfl (lv_at hl 0 rfl) ?_
  refine xm_get (V := (xu E a)) (T := TX7) (v := .int (M 0 18)) C hP 0 18 xi_7 rfl l_X7_135 rfl (Nat.le_of_ble_eq_true rfl) ((xf_0 E a) _) (Nat.le_of_ble_eq_true rfl) rfl dX7_isHere_1 ?_
  refine lv_aload_n hx hb dX7_isHere_4 rfl (lv_at hl 0 rfl) ?_
  refine xm_get (V := (xu E a)) (T := TX7) (v := .int (M 0 17)) C hP 0 17 xi_7 rfl l_X7_132 rfl (Nat.le_of_ble_eq_true rfl) ((xf_0 E a) _) (Nat.le_of_ble_eq_true rfl) rfl dX7_isHere_5 ?_
  refine lv_icmp_ge (tgt := 35) hx hb dX7_isHere_8 (by decide) (fun c1 => ?_) (fun c1 => ?_)
  · rw [if_pos c1] at h
    refine lv_iconst (v := 0) hx hb dX7_isHere_35 (by decide) ?_
    obtain ⟨rfl, rfl⟩ := xm_pr h
    exact xm_retZ C hP hS (by rfl) dX7_isHere_36
  · rw [if_neg c1] at h
    refine lv_aload_n hx hb dX7_isHere_11 rfl (lv_at hl 0 rfl) ?_
    refine xm_get (V := (xu E a)) (T := TX7) (v := .ref (a 11)) C hP 0 16 xi_7 rfl l_X7_40 rfl (Nat.le_of_ble_eq_true rfl) ((xf_0 E a) _) (Nat.le_of_ble_eq_true rfl) rfl dX7_isHere_12 ?_
    refine lv_aload_n hx hb dX7_isHere_15 rfl (lv_at hl 0 rfl) ?_
    refine xm_get (V := (xu E a)) (T := TX7) (v := .int (M 0 18)) C hP 0 18 xi_7 rfl l_X7_135 rfl (Nat.le_of_ble_eq_true rfl) ((xf_0 E a) _) (Nat.le_of_ble_eq_true rfl) rfl dX7_isHere_16 ?_
    obtain ⟨b2, h⟩ := xm_ck_s h
    refine xm_iald (V := (xu E a)) C hP 11 80 (Nat.le_of_ble_eq_true rfl) (xf_11 E a) b2 dX7_isHere_19 ?_
    refine lv_i2l (v := (M 11 (M 0 18).toNatClampNeg).toInt64) hx hb dX7_isHere_20 rfl ?_
    refine lv_iload_n hx hb dX7_isHere_21 rfl (lv_at hl 1 rfl) ?_
    refine lv_i2l (v := x1.toInt64) hx hb dX7_isHere_22 rfl ?_
    refine lv_iload_n hx hb dX7_isHere_23 rfl (lv_at hl 2 rfl) ?_
    refine lv_i2l (v := x2.toInt64) hx hb dX7_isHere_24 rfl ?_
    obtain ⟨r4, M3, e5, h⟩ := xm_b2_s h
    refine xm_callS C hP hS [.long ((M 11 (M 0 18).toNatClampNeg).toInt64), .long x1.toInt64, .long x2.toInt64] [] (c_X7_in hD  n M ((M 11 (M 0 18).toNatClampNeg).toInt64) x1.toInt64 x2.toInt64 r4 M3 e5) k_X7_50  rfl rfl ⟨(Nat.le_of_ble_eq_true rfl), (Nat.le_of_ble_eq_true rfl)⟩ hl.1 (Nat.le_of_ble_eq_true rfl) ⟨Nat.zero_le _, Nat.zero_le _⟩ dX7_isHere_25 (fun H locs hP hS => ?_)
    change W p l e _ s m _ below meth c H locs 0 0 _ (F0 m 28 ls [.int r4])
    refine lv_if_eq (tgt := 35) hx hb dX7_isHere_28 (by decide) (fun c6 => ?_) (fun c6 => ?_)
    · rw [if_pos c6] at h
      refine lv_iconst (v := 0) hx hb dX7_isHere_35 (by decide) ?_
      obtain ⟨rfl, rfl⟩ := xm_pr h
      exact xm_retZ C hP hS (by rfl) dX7_isHere_36
    · rw [if_neg c6] at h
      refine lv_iconst (v := 1) hx hb dX7_isHere_31 (by decide) ?_
      refine lv_goto (tgt := 36) hx hb dX7_isHere_32 (by decide) ?_
      obtain ⟨rfl, rfl⟩ := xm_pr h
      exact xm_retZ C hP hS (by rfl) dX7_isHere_36
theorem c_X7_isHere {l : Launch} {E : xm_E} {a : Nat → Nat} (hD : xm_D (xu E a)) (n : Nat) (M : xm_M) (x1 : Int32) (x2 : Int32) (r : Int32) (M' : xm_M) (h : f_X7_isHere n M x1 x2 = some (r, M')) : xm_Met l E (xu E a) yX7_isHere cX7_isHere 3 (some .boolean) 1 25 [.ref (a 0), .int x1, .int x2] M M' (some r) :=
  xm_met (by decide +kernel) rfl (Nat.le_of_ble_eq_true rfl) hD (fun p e s m below meth c C hP ls hl => t_X7_isHere_0 C  n M x1 x2 r M' h _ _ _ hP va_S.rf hl)
def f_X7_takes (n : Nat) (M : xm_M) (x1 : Int32) : Option (Int32 × xm_M) := xm_b2 (f_X7_isHere n M x1 x1) (fun r2 M1 => if r2 = 0 then xm_lt (xm_up M1 0 18 ((M1 0 18) + 0)) (fun M5 => xm_ck (xm_z r2) (some (r2, M5))) else xm_lt (xm_up M1 0 18 ((M1 0 18) + 1)) (fun M8 => xm_ck (xm_z r2) (some (r2, M8))))
set_option maxHeartbeats 4000000 in
set_option maxRecDepth 100000 in
theorem t_X7_takes_0 {l : Launch} {p : Program} {e : Env} {s : State} {m : MethodId} {args : Array Value} {below : List Frame} {meth : Method} {c : Code} {E : xm_E} {a : Nat → Nat} (C : xm_C E (xu E a) p s m args meth c RX7 cX7_takes 3 (some .boolean)) (n : Nat) (M : xm_M) (x1 : Int32) (r : Int32) (M' : xm_M) : f_X7_takes n M x1 = some (r, M') → ∀ (H : Heap) (locs : List Loc) (ls : Array Slot), va_P E.1 vwCl (xm_w (xu E a) M) H → va_S (xm_A (xu E a) s.heap.size) s.heap H locs → lv_has ls 3 [(0, .ref (a 0)), (1, .int x1)] → W p l e { frames := 2, cells := 0, slots := 0, locals := 47 } s m args below meth c H locs 0 0 (MQ below (xm_Q E (xu E a) M' s.heap.size (some r)) args s 0 0 (xm_A (xu E a) s.heap.size)) (F0 m 0 ls []) := by
  have C9 := C
  obtain ⟨hx, hb, hml, hown, hts, hr, hlk, hD, hK, hS9⟩ := C9
  intro h H locs ls hP hS hl
  unfold f_X7_takes at h
  refine lv_aload_n hx hb dX7_takes_0 rfl (lv_at hl 0 rfl) ?_
  refine lv_iload_n hx hb dX7_takes_1 rfl (lv_at hl 1 rfl) ?_
  refine lv_iload_n hx hb dX7_takes_2 rfl (lv_at hl 1 rfl) ?_
  obtain ⟨r2, M1, e3, h⟩ := xm_b2_s h
  refine xm_callV C hP hS [.int x1, .int x1] [] (c_X7_isHere hD  n M x1 x1 r2 M1 e3) k_X7_138 (xm_recv C hP 0 rfl (Nat.le_of_ble_eq_true rfl) ((xf_0 E a) _)) rfl rfl ⟨(Nat.le_of_ble_eq_true rfl), (Nat.le_of_ble_eq_true rfl)⟩ hl.1 (Nat.le_of_ble_eq_true rfl) ⟨Nat.zero_le _, Nat.zero_le _⟩ dX7_takes_3 (fun H locs hP hS => ?_)
  change W p l e _ s m _ below meth c H locs 0 0 _ (F0 m 6 ls [.int r2])
  refine lv_istore_n (lv' := [(2, .int r2), (0, .ref (a 0)), (1, .int x1)]) hx hb dX7_takes_6 rfl hl (by decide) rfl (fun ls hl => ?_)
  refine lv_aload_n hx hb dX7_takes_7 rfl (lv_at hl 1 rfl) ?_
  refine lv_dup hx hb dX7_takes_8 rfl ?_
  refine xm_get (V := (xu E a)) (T := TX7) (v := .int (M1 0 18)) C hP 0 18 xi_7 rfl l_X7_135 rfl (Nat.le_of_ble_eq_true rfl) ((xf_0 E a) _) (Nat.le_of_ble_eq_true rfl) rfl dX7_takes_9 ?_
  refine lv_iload_n hx hb dX7_takes_12 rfl (lv_at hl 0 rfl) ?_
  refine lv_if_eq (tgt := 20) hx hb dX7_takes_13 (by decide) (fun c4 => ?_) (fun c4 => ?_)
  · rw [if_pos c4] at h
    refine lv_iconst (v := 0) hx hb dX7_takes_20 (by decide) ?_
    refine lv_iadd hx hb dX7_takes_21 ?_
    obtain ⟨M5, e6, h⟩ := xm_lt_s h
    refine xm_put (V := (xu E a)) (T := TX7) (ty := .int) (x := (M1 0 18) + 0) C hP hS 0 18 xi_7 rfl l_X7_135 rfl tyX7_ok nmX7 (Nat.le_of_ble_eq_true rfl) ((xf_0 E a) _) (Nat.le_of_ble_eq_true rfl) rfl (by decide +kernel) rfl rfl (Nat.le_of_ble_eq_true rfl) ((xf_0 E a) _) dX7_takes_22 (fun H locs hP hS => ?_)
    rw [← e6] at hP
    refine lv_iload_n hx hb dX7_takes_25 rfl (lv_at hl 0 rfl) ?_
    obtain ⟨z7, h⟩ := xm_ck_s h
    obtain ⟨rfl, rfl⟩ := xm_pr h
    exact xm_retZ C hP hS (xm_z_s z7) dX7_takes_26
  · rw [if_neg c4] at h
    refine lv_iconst (v := 1) hx hb dX7_takes_16 (by decide) ?_
    refine lv_goto (tgt := 21) hx hb dX7_takes_17 (by decide) ?_
    refine lv_iadd hx hb dX7_takes_21 ?_
    obtain ⟨M8, e9, h⟩ := xm_lt_s h
    refine xm_put (V := (xu E a)) (T := TX7) (ty := .int) (x := (M1 0 18) + 1) C hP hS 0 18 xi_7 rfl l_X7_135 rfl tyX7_ok nmX7 (Nat.le_of_ble_eq_true rfl) ((xf_0 E a) _) (Nat.le_of_ble_eq_true rfl) rfl (by decide +kernel) rfl rfl (Nat.le_of_ble_eq_true rfl) ((xf_0 E a) _) dX7_takes_22 (fun H locs hP hS => ?_)
    rw [← e9] at hP
    refine lv_iload_n hx hb dX7_takes_25 rfl (lv_at hl 0 rfl) ?_
    obtain ⟨z10, h⟩ := xm_ck_s h
    obtain ⟨rfl, rfl⟩ := xm_pr h
    exact xm_retZ C hP hS (xm_z_s z10) dX7_takes_26
theorem c_X7_takes {l : Launch} {E : xm_E} {a : Nat → Nat} (hD : xm_D (xu E a)) (n : Nat) (M : xm_M) (x1 : Int32) (r : Int32) (M' : xm_M) (h : f_X7_takes n M x1 = some (r, M')) : xm_Met l E (xu E a) yX7_takes cX7_takes 3 (some .boolean) 2 47 [.ref (a 0), .int x1] M M' (some r) :=
  xm_met (by decide +kernel) rfl (Nat.le_of_ble_eq_true rfl) hD (fun p e s m below meth c C hP ls hl => t_X7_takes_0 C  n M x1 r M' h _ _ _ hP va_S.rf hl)
def f_X7_takesWord_11 : Nat → xm_M → Int64 → Int32 → Int32 → Option (Int32 × xm_M)
  | 0, _, _, _, _ => none
  | n + 1, M, x1, x4, x5 => if x5 < 0 then xm_ck (xm_z x4) (some (x4, M)) else if x4 = 0 then xm_ck (xm_z x4) (some (x4, M)) else xm_b2 (f_X7_takes n M (((x1 >>> (x5.toInt64 &&& 63)) &&& 255).toInt32)) (fun r6 M5 => f_X7_takesWord_11 n M5 x1 r6 (x5 + (-8)))
set_option maxHeartbeats 4000000 in
set_option maxRecDepth 100000 in
theorem t_X7_takesWord_11 {l : Launch} {p : Program} {e : Env} {s : State} {m : MethodId} {args : Array Value} {below : List Frame} {meth : Method} {c : Code} {E : xm_E} {a : Nat → Nat} (C : xm_C E (xu E a) p s m args meth c RX7 cX7_takesWord 6 (some .boolean)) : ∀ (n : Nat) (M : xm_M) (x1 : Int64) (x4 : Int32) (x5 : Int32) (r : Int32) (M' : xm_M), f_X7_takesWord_11 n M x1 x4 x5 = some (r, M') → ∀ (H : Heap) (locs : List Loc) (ls : Array Slot), va_P E.1 vwCl (xm_w (xu E a) M) H → va_S (xm_A (xu E a) s.heap.size) s.heap H locs → lv_has ls 6 [(0, .ref (a 0)), (1, .long x1), (4, .int x4), (5, .int x5)] → W p l e { frames := 3, cells := 0, slots := 0, locals := 69 } s m args below meth c H locs 0 0 (MQ below (xm_Q E (xu E a) M' s.heap.size (some r)) args s 0 0 (xm_A (xu E a) s.heap.size)) (F0 m 11 ls []) := by
  have C9 := C
  obtain ⟨hx, hb, hml, hown, hts, hr, hlk, hD, hK, hS9⟩ := C9
  intro n
  induction n with
  | zero =>
    intro M x1 x4 x5 r M' h
    cases h
  | succ n ih =>
    intro M x1 x4 x5 r M' h H locs ls hP hS hl
    rw [f_X7_takesWord_11] at h
    refine lv_iload hx hb dX7_takesWord_11 (lv_at hl 3 rfl) ?_
    refine lv_if_lt (tgt := 42) hx hb dX7_takesWord_13 (by decide) (fun c1 => ?_) (fun c1 => ?_)
    · rw [if_pos c1] at h
      refine lv_iload hx hb dX7_takesWord_42 (lv_at hl 2 rfl) ?_
      obtain ⟨z2, h⟩ := xm_ck_s h
      obtain ⟨rfl, rfl⟩ := xm_pr h
      exact xm_retZ C hP hS (xm_z_s z2) dX7_takesWord_44
    · rw [if_neg c1] at h
      refine lv_iload hx hb dX7_takesWord_16 (lv_at hl 2 rfl) ?_
      refine lv_if_eq (tgt := 42) hx hb dX7_takesWord_18 (by decide) (fun c3 => ?_) (fun c3 => ?_)
      · rw [if_pos c3] at h
        refine lv_iload hx hb dX7_takesWord_42 (lv_at hl 2 rfl) ?_
        obtain ⟨z4, h⟩ := xm_ck_s h
        obtain ⟨rfl, rfl⟩ := xm_pr h
        exact xm_retZ C hP hS (xm_z_s z4) dX7_takesWord_44
      · rw [if_neg c3] at h
        refine lv_aload_n hx hb dX7_takesWord_21 rfl (lv_at hl 0 rfl) ?_
        refine lv_lload_n hx hb dX7_takesWord_22 rfl (lv_at hl 1 rfl) ?_
        refine lv_iload hx hb dX7_takesWord_23 (lv_at hl 3 rfl) ?_
        refine lv_lshr (v := x1 >>> (x5.toInt64 &&& 63)) hx hb dX7_takesWord_25 rfl ?_
        refine lv_ldc2 (v := 255) hx hb hown (hts _ q_X7_141) dX7_takesWord_26 ?_
        refine lv_land hx hb dX7_takesWord_29 ?_
        refine lv_l2i (v := ((x1 >>> (x5.toInt64 &&& 63)) &&& 255).toInt32) hx hb dX7_takesWord_30 rfl ?_
        obtain ⟨r6, M5, e7, h⟩ := xm_b2_s h
        refine xm_callV C hP hS [.int (((x1 >>> (x5.toInt64 &&& 63)) &&& 255).toInt32)] [] (c_X7_takes hD  n M (((x1 >>> (x5.toInt64 &&& 63)) &&& 255).toInt32) r6 M5 e7) k_X7_143 (xm_recv C hP 0 rfl (Nat.le_of_ble_eq_true rfl) ((xf_0 E a) _)) rfl rfl ⟨(Nat.le_of_ble_eq_true rfl), (Nat.le_of_ble_eq_true rfl)⟩ hl.1 (Nat.le_of_ble_eq_true rfl) ⟨Nat.zero_le _, Nat.zero_le _⟩ dX7_takesWord_31 (fun H locs hP hS => ?_)
        change W p l e _ s m _ below meth c H locs 0 0 _ (F0 m 34 ls [.int r6])
        refine lv_istore (lv' := [(4, .int r6), (0, .ref (a 0)), (1, .long x1), (5, .int x5)]) hx hb dX7_takesWord_34 hl (by decide) rfl (fun ls hl => ?_)
        refine lv_iinc (v := x5 + (-8)) (lv' := [(5, .int (x5 + (-8))), (4, .int r6), (0, .ref (a 0)), (1, .long x1)]) hx hb dX7_takesWord_36 hl (k := 3) rfl (xm_add (by decide)) (by decide) rfl (fun ls hl => ?_)
        refine lv_goto (tgt := 11) hx hb dX7_takesWord_39 (by decide) ?_
        exact ih M5 x1 r6 (x5 + (-8)) r M' h _ _ _ hP hS (lv_sub hl [2, 3, 1, 0] rfl)
def f_X7_takesWord (n : Nat) (M : xm_M) (x1 : Int64) (x3 : Int32) : Option (Int32 × xm_M) := f_X7_takesWord_11 n M x1 1 (8 * (x3 - 1))
set_option maxHeartbeats 4000000 in
set_option maxRecDepth 100000 in
theorem t_X7_takesWord_0 {l : Launch} {p : Program} {e : Env} {s : State} {m : MethodId} {args : Array Value} {below : List Frame} {meth : Method} {c : Code} {E : xm_E} {a : Nat → Nat} (C : xm_C E (xu E a) p s m args meth c RX7 cX7_takesWord 6 (some .boolean)) (n : Nat) (M : xm_M) (x1 : Int64) (x3 : Int32) (r : Int32) (M' : xm_M) : f_X7_takesWord n M x1 x3 = some (r, M') → ∀ (H : Heap) (locs : List Loc) (ls : Array Slot), va_P E.1 vwCl (xm_w (xu E a) M) H → va_S (xm_A (xu E a) s.heap.size) s.heap H locs → lv_has ls 6 [(0, .ref (a 0)), (1, .long x1), (3, .int x3)] → W p l e { frames := 3, cells := 0, slots := 0, locals := 69 } s m args below meth c H locs 0 0 (MQ below (xm_Q E (xu E a) M' s.heap.size (some r)) args s 0 0 (xm_A (xu E a) s.heap.size)) (F0 m 0 ls []) := by
  have C9 := C
  obtain ⟨hx, hb, hml, hown, hts, hr, hlk, hD, hK, hS9⟩ := C9
  intro h H locs ls hP hS hl
  unfold f_X7_takesWord at h
  refine lv_iconst (v := 1) hx hb dX7_takesWord_0 (by decide) ?_
  refine lv_istore (lv' := [(4, .int 1), (0, .ref (a 0)), (1, .long x1), (3, .int x3)]) hx hb dX7_takesWord_1 hl (by decide) rfl (fun ls hl => ?_)
  refine lv_bipush (v := 8) hx hb dX7_takesWord_3 (by decide) ?_
  refine lv_iload_n hx hb dX7_takesWord_5 rfl (lv_at hl 3 rfl) ?_
  refine lv_iconst (v := 1) hx hb dX7_takesWord_6 (by decide) ?_
  refine lv_isub hx hb dX7_takesWord_7 ?_
  refine lv_imul hx hb dX7_takesWord_8 ?_
  refine lv_istore (lv' := [(5, .int (8 * (x3 - 1))), (4, .int 1), (0, .ref (a 0)), (1, .long x1), (3, .int x3)]) hx hb dX7_takesWord_9 hl (by decide) rfl (fun ls hl => ?_)
  exact t_X7_takesWord_11 C  n M x1 1 (8 * (x3 - 1)) r M' h _ _ _ hP hS (lv_sub hl [2, 3, 1, 0] rfl)
theorem c_X7_takesWord {l : Launch} {E : xm_E} {a : Nat → Nat} (hD : xm_D (xu E a)) (n : Nat) (M : xm_M) (x1 : Int64) (x3 : Int32) (r : Int32) (M' : xm_M) (h : f_X7_takesWord n M x1 x3 = some (r, M')) : xm_Met l E (xu E a) yX7_takesWord cX7_takesWord 6 (some .boolean) 3 69 [.ref (a 0), .long x1, .int x3] M M' (some r) :=
  xm_met (by decide +kernel) rfl (Nat.le_of_ble_eq_true rfl) hD (fun p e s m below meth c C hP ls hl => t_X7_takesWord_0 C  n M x1 x3 r M' h _ _ _ hP va_S.rf hl)
def f_X7_readsWindow_36 : Nat → xm_M → Int32 → Option (Int32 × xm_M)
  | 0, _, _ => none
  | n + 1, M, x1 => xm_b2 (f_X7_isHere n M 48 57) (fun r2 M1 => if r2 = 0 then xm_ck (xm_in 0 11) (xm_lt (xm_up M1 12 (0 : Int32).toNatClampNeg x1) (fun M6 => some (1, M6))) else xm_ck (xm_in (M1 0 18) 80) (if (1000 : Int32) < (((10 * x1) + (M1 11 (M1 0 18).toNatClampNeg)) - 48) then xm_ck (xm_in 0 11) (xm_lt (xm_up M1 12 (0 : Int32).toNatClampNeg x1) (fun M11 => some (1, M11))) else xm_ck (xm_in (M1 0 18) 80) (xm_lt (xm_up M1 0 18 ((M1 0 18) + 1)) (fun M14 => f_X7_readsWindow_36 n M14 (((10 * x1) + (M1 11 (M1 0 18).toNatClampNeg)) - 48)))))
set_option maxHeartbeats 4000000 in
set_option maxRecDepth 100000 in
theorem t_X7_readsWindow_36 {l : Launch} {p : Program} {e : Env} {s : State} {m : MethodId} {args : Array Value} {below : List Frame} {meth : Method} {c : Code} {E : xm_E} {a : Nat → Nat} (C : xm_C E (xu E a) p s m args meth c RX7 cX7_readsWindow 2 (some .boolean)) : ∀ (n : Nat) (M : xm_M) (x1 : Int32) (r : Int32) (M' : xm_M), f_X7_readsWindow_36 n M x1 = some (r, M') → ∀ (H : Heap) (locs : List Loc) (ls : Array Slot), va_P E.1 vwCl (xm_w (xu E a) M) H → va_S (xm_A (xu E a) s.heap.size) s.heap H locs → lv_has ls 2 [(0, .ref (a 0)), (1, .int x1)] → W p l e { frames := 2, cells := 0, slots := 0, locals := 47 } s m args below meth c H locs 0 0 (MQ below (xm_Q E (xu E a) M' s.heap.size (some r)) args s 0 0 (xm_A (xu E a) s.heap.size)) (F0 m 36 ls []) := by
  have C9 := C
  obtain ⟨hx, hb, hml, hown, hts, hr, hlk, hD, hK, hS9⟩ := C9
  intro n
  induction n with
  | zero =>
    intro M x1 r M' h
    cases h
  | succ n ih =>
    intro M x1 r M' h H locs ls hP hS hl
    rw [f_X7_readsWindow_36] at h
    refine lv_aload_n hx hb dX7_readsWindow_36 rfl (lv_at hl 0 rfl) ?_
    refine lv_bipush (v := 48) hx hb dX7_readsWindow_37 (by decide) ?_
    refine lv_bipush (v := 57) hx hb dX7_readsWindow_39 (by decide) ?_
    obtain ⟨r2, M1, e3, h⟩ := xm_b2_s h
    refine xm_callV C hP hS [.int 48, .int 57] [] (c_X7_isHere hD  n M 48 57 r2 M1 e3) k_X7_138 (xm_recv C hP 0 rfl (Nat.le_of_ble_eq_true rfl) ((xf_0 E a) _)) rfl rfl ⟨(Nat.le_of_ble_eq_true rfl), (Nat.le_of_ble_eq_true rfl)⟩ hl.1 (Nat.le_of_ble_eq_true rfl) ⟨Nat.zero_le _, Nat.zero_le _⟩ dX7_readsWindow_41 (fun H locs hP hS => ?_)
    change W p l e _ s m _ below meth c H locs 0 0 _ (F0 m 44 ls [.int r2])
    refine lv_if_eq (tgt := 101) hx hb dX7_readsWindow_44 (by decide) (fun c4 => ?_) (fun c4 => ?_)
    · rw [if_pos c4] at h
      refine lv_aload_n hx hb dX7_readsWindow_101 rfl (lv_at hl 0 rfl) ?_
      refine xm_get (V := (xu E a)) (T := TX7) (v := .ref (a 12)) C hP 0 19 xi_7 rfl l_X7_43 rfl (Nat.le_of_ble_eq_true rfl) ((xf_0 E a) _) (Nat.le_of_ble_eq_true rfl) rfl dX7_readsWindow_102 ?_
      refine lv_iconst (v := 0) hx hb dX7_readsWindow_105 (by decide) ?_
      refine lv_iload_n hx hb dX7_readsWindow_106 rfl (lv_at hl 1 rfl) ?_
      obtain ⟨b5, h⟩ := xm_ck_s h
      obtain ⟨M6, e7, h⟩ := xm_lt_s h
      refine xm_iast (V := (xu E a)) C hP hS 12 11 (Nat.le_of_ble_eq_true rfl) (xf_12 E a) b5 dX7_readsWindow_107 (fun H locs hP hS => ?_)
      rw [← e7] at hP
      refine lv_iconst (v := 1) hx hb dX7_readsWindow_108 (by decide) ?_
      obtain ⟨rfl, rfl⟩ := xm_pr h
      exact xm_retZ C hP hS (by rfl) dX7_readsWindow_109
    · rw [if_neg c4] at h
      refine lv_bipush (v := 10) hx hb dX7_readsWindow_47 (by decide) ?_
      refine lv_iload_n hx hb dX7_readsWindow_49 rfl (lv_at hl 1 rfl) ?_
      refine lv_imul hx hb dX7_readsWindow_50 ?_
      refine lv_aload_n hx hb dX7_readsWindow_51 rfl (lv_at hl 0 rfl) ?_
      refine xm_get (V := (xu E a)) (T := TX7) (v := .ref (a 11)) C hP 0 16 xi_7 rfl l_X7_40 rfl (Nat.le_of_ble_eq_true rfl) ((xf_0 E a) _) (Nat.le_of_ble_eq_true rfl) rfl dX7_readsWindow_52 ?_
      refine lv_aload_n hx hb dX7_readsWindow_55 rfl (lv_at hl 0 rfl) ?_
      refine xm_get (V := (xu E a)) (T := TX7) (v := .int (M1 0 18)) C hP 0 18 xi_7 rfl l_X7_135 rfl (Nat.le_of_ble_eq_true rfl) ((xf_0 E a) _) (Nat.le_of_ble_eq_true rfl) rfl dX7_readsWindow_56 ?_
      obtain ⟨b8, h⟩ := xm_ck_s h
      refine xm_iald (V := (xu E a)) C hP 11 80 (Nat.le_of_ble_eq_true rfl) (xf_11 E a) b8 dX7_readsWindow_59 ?_
      refine lv_iadd hx hb dX7_readsWindow_60 ?_
      refine lv_bipush (v := 48) hx hb dX7_readsWindow_61 (by decide) ?_
      refine lv_isub hx hb dX7_readsWindow_63 ?_
      refine lv_sipush (v := 1000) hx hb dX7_readsWindow_64 (by decide) ?_
      refine lv_icmp_gt (tgt := 101) hx hb dX7_readsWindow_67 (by decide) (fun c9 => ?_) (fun c9 => ?_)
      · rw [if_pos c9] at h
        refine lv_aload_n hx hb dX7_readsWindow_101 rfl (lv_at hl 0 rfl) ?_
        refine xm_get (V := (xu E a)) (T := TX7) (v := .ref (a 12)) C hP 0 19 xi_7 rfl l_X7_43 rfl (Nat.le_of_ble_eq_true rfl) ((xf_0 E a) _) (Nat.le_of_ble_eq_true rfl) rfl dX7_readsWindow_102 ?_
        refine lv_iconst (v := 0) hx hb dX7_readsWindow_105 (by decide) ?_
        refine lv_iload_n hx hb dX7_readsWindow_106 rfl (lv_at hl 1 rfl) ?_
        obtain ⟨b10, h⟩ := xm_ck_s h
        obtain ⟨M11, e12, h⟩ := xm_lt_s h
        refine xm_iast (V := (xu E a)) C hP hS 12 11 (Nat.le_of_ble_eq_true rfl) (xf_12 E a) b10 dX7_readsWindow_107 (fun H locs hP hS => ?_)
        rw [← e12] at hP
        refine lv_iconst (v := 1) hx hb dX7_readsWindow_108 (by decide) ?_
        obtain ⟨rfl, rfl⟩ := xm_pr h
        exact xm_retZ C hP hS (by rfl) dX7_readsWindow_109
      · rw [if_neg c9] at h
        refine lv_bipush (v := 10) hx hb dX7_readsWindow_70 (by decide) ?_
        refine lv_iload_n hx hb dX7_readsWindow_72 rfl (lv_at hl 1 rfl) ?_
        refine lv_imul hx hb dX7_readsWindow_73 ?_
        refine lv_aload_n hx hb dX7_readsWindow_74 rfl (lv_at hl 0 rfl) ?_
        refine xm_get (V := (xu E a)) (T := TX7) (v := .ref (a 11)) C hP 0 16 xi_7 rfl l_X7_40 rfl (Nat.le_of_ble_eq_true rfl) ((xf_0 E a) _) (Nat.le_of_ble_eq_true rfl) rfl dX7_readsWindow_75 ?_
        refine lv_aload_n hx hb dX7_readsWindow_78 rfl (lv_at hl 0 rfl) ?_
        refine xm_get (V := (xu E a)) (T := TX7) (v := .int (M1 0 18)) C hP 0 18 xi_7 rfl l_X7_135 rfl (Nat.le_of_ble_eq_true rfl) ((xf_0 E a) _) (Nat.le_of_ble_eq_true rfl) rfl dX7_readsWindow_79 ?_
        obtain ⟨b13, h⟩ := xm_ck_s h
        refine xm_iald (V := (xu E a)) C hP 11 80 (Nat.le_of_ble_eq_true rfl) (xf_11 E a) b13 dX7_readsWindow_82 ?_
        refine lv_iadd hx hb dX7_readsWindow_83 ?_
        refine lv_bipush (v := 48) hx hb dX7_readsWindow_84 (by decide) ?_
        refine lv_isub hx hb dX7_readsWindow_86 ?_
        refine lv_istore_n (lv' := [(1, .int (((10 * x1) + (M1 11 (M1 0 18).toNatClampNeg)) - 48)), (0, .ref (a 0))]) hx hb dX7_readsWindow_87 rfl hl (by decide) rfl (fun ls hl => ?_)
        refine lv_aload_n hx hb dX7_readsWindow_88 rfl (lv_at hl 1 rfl) ?_
        refine lv_dup hx hb dX7_readsWindow_89 rfl ?_
        refine xm_get (V := (xu E a)) (T := TX7) (v := .int (M1 0 18)) C hP 0 18 xi_7 rfl l_X7_135 rfl (Nat.le_of_ble_eq_true rfl) ((xf_0 E a) _) (Nat.le_of_ble_eq_true rfl) rfl dX7_readsWindow_90 ?_
        refine lv_iconst (v := 1) hx hb dX7_readsWindow_93 (by decide) ?_
        refine lv_iadd hx hb dX7_readsWindow_94 ?_
        obtain ⟨M14, e15, h⟩ := xm_lt_s h
        refine xm_put (V := (xu E a)) (T := TX7) (ty := .int) (x := (M1 0 18) + 1) C hP hS 0 18 xi_7 rfl l_X7_135 rfl tyX7_ok nmX7 (Nat.le_of_ble_eq_true rfl) ((xf_0 E a) _) (Nat.le_of_ble_eq_true rfl) rfl (by decide +kernel) rfl rfl (Nat.le_of_ble_eq_true rfl) ((xf_0 E a) _) dX7_readsWindow_95 (fun H locs hP hS => ?_)
        rw [← e15] at hP
        refine lv_goto (tgt := 36) hx hb dX7_readsWindow_98 (by decide) ?_
        exact ih M14 (((10 * x1) + (M1 11 (M1 0 18).toNatClampNeg)) - 48) r M' h _ _ _ hP hS (lv_sub hl [1, 0] rfl)
def f_X7_readsWindow (n : Nat) (M : xm_M) : Option (Int32 × xm_M) := xm_b2 (f_X7_isHere n M 49 57) (fun r2 M1 => if r2 = 0 then some (0, M1) else xm_ck (xm_in (M1 0 18) 80) (xm_lt (xm_up M1 0 18 ((M1 0 18) + 1)) (fun M6 => f_X7_readsWindow_36 n M6 ((M1 11 (M1 0 18).toNatClampNeg) - 48))))
set_option maxHeartbeats 4000000 in
set_option maxRecDepth 100000 in
theorem t_X7_readsWindow_0 {l : Launch} {p : Program} {e : Env} {s : State} {m : MethodId} {args : Array Value} {below : List Frame} {meth : Method} {c : Code} {E : xm_E} {a : Nat → Nat} (C : xm_C E (xu E a) p s m args meth c RX7 cX7_readsWindow 2 (some .boolean)) (n : Nat) (M : xm_M) (r : Int32) (M' : xm_M) : f_X7_readsWindow n M = some (r, M') → ∀ (H : Heap) (locs : List Loc) (ls : Array Slot), va_P E.1 vwCl (xm_w (xu E a) M) H → va_S (xm_A (xu E a) s.heap.size) s.heap H locs → lv_has ls 2 [(0, .ref (a 0))] → W p l e { frames := 2, cells := 0, slots := 0, locals := 47 } s m args below meth c H locs 0 0 (MQ below (xm_Q E (xu E a) M' s.heap.size (some r)) args s 0 0 (xm_A (xu E a) s.heap.size)) (F0 m 0 ls []) := by
  have C9 := C
  obtain ⟨hx, hb, hml, hown, hts, hr, hlk, hD, hK, hS9⟩ := C9
  intro h H locs ls hP hS hl
  unfold f_X7_readsWindow at h
  refine lv_aload_n hx hb dX7_readsWindow_0 rfl (lv_at hl 0 rfl) ?_
  refine lv_bipush (v := 49) hx hb dX7_readsWindow_1 (by decide) ?_
  refine lv_bipush (v := 57) hx hb dX7_readsWindow_3 (by decide) ?_
  obtain ⟨r2, M1, e3, h⟩ := xm_b2_s h
  refine xm_callV C hP hS [.int 49, .int 57] [] (c_X7_isHere hD  n M 49 57 r2 M1 e3) k_X7_138 (xm_recv C hP 0 rfl (Nat.le_of_ble_eq_true rfl) ((xf_0 E a) _)) rfl rfl ⟨(Nat.le_of_ble_eq_true rfl), (Nat.le_of_ble_eq_true rfl)⟩ hl.1 (Nat.le_of_ble_eq_true rfl) ⟨Nat.zero_le _, Nat.zero_le _⟩ dX7_readsWindow_5 (fun H locs hP hS => ?_)
  change W p l e _ s m _ below meth c H locs 0 0 _ (F0 m 8 ls [.int r2])
  refine lv_if_ne (tgt := 13) hx hb dX7_readsWindow_8 (by decide) (fun c4 => ?_) (fun c4 => ?_)
  · rw [if_neg c4] at h
    refine lv_aload_n hx hb dX7_readsWindow_13 rfl (lv_at hl 0 rfl) ?_
    refine xm_get (V := (xu E a)) (T := TX7) (v := .ref (a 11)) C hP 0 16 xi_7 rfl l_X7_40 rfl (Nat.le_of_ble_eq_true rfl) ((xf_0 E a) _) (Nat.le_of_ble_eq_true rfl) rfl dX7_readsWindow_14 ?_
    refine lv_aload_n hx hb dX7_readsWindow_17 rfl (lv_at hl 0 rfl) ?_
    refine xm_get (V := (xu E a)) (T := TX7) (v := .int (M1 0 18)) C hP 0 18 xi_7 rfl l_X7_135 rfl (Nat.le_of_ble_eq_true rfl) ((xf_0 E a) _) (Nat.le_of_ble_eq_true rfl) rfl dX7_readsWindow_18 ?_
    obtain ⟨b5, h⟩ := xm_ck_s h
    refine xm_iald (V := (xu E a)) C hP 11 80 (Nat.le_of_ble_eq_true rfl) (xf_11 E a) b5 dX7_readsWindow_21 ?_
    refine lv_bipush (v := 48) hx hb dX7_readsWindow_22 (by decide) ?_
    refine lv_isub hx hb dX7_readsWindow_24 ?_
    refine lv_istore_n (lv' := [(1, .int ((M1 11 (M1 0 18).toNatClampNeg) - 48)), (0, .ref (a 0))]) hx hb dX7_readsWindow_25 rfl hl (by decide) rfl (fun ls hl => ?_)
    refine lv_aload_n hx hb dX7_readsWindow_26 rfl (lv_at hl 1 rfl) ?_
    refine lv_dup hx hb dX7_readsWindow_27 rfl ?_
    refine xm_get (V := (xu E a)) (T := TX7) (v := .int (M1 0 18)) C hP 0 18 xi_7 rfl l_X7_135 rfl (Nat.le_of_ble_eq_true rfl) ((xf_0 E a) _) (Nat.le_of_ble_eq_true rfl) rfl dX7_readsWindow_28 ?_
    refine lv_iconst (v := 1) hx hb dX7_readsWindow_31 (by decide) ?_
    refine lv_iadd hx hb dX7_readsWindow_32 ?_
    obtain ⟨M6, e7, h⟩ := xm_lt_s h
    refine xm_put (V := (xu E a)) (T := TX7) (ty := .int) (x := (M1 0 18) + 1) C hP hS 0 18 xi_7 rfl l_X7_135 rfl tyX7_ok nmX7 (Nat.le_of_ble_eq_true rfl) ((xf_0 E a) _) (Nat.le_of_ble_eq_true rfl) rfl (by decide +kernel) rfl rfl (Nat.le_of_ble_eq_true rfl) ((xf_0 E a) _) dX7_readsWindow_33 (fun H locs hP hS => ?_)
    rw [← e7] at hP
    exact t_X7_readsWindow_36 C  n M6 ((M1 11 (M1 0 18).toNatClampNeg) - 48) r M' h _ _ _ hP hS (lv_sub hl [1, 0] rfl)
  · rw [if_pos c4] at h
    refine lv_iconst (v := 0) hx hb dX7_readsWindow_11 (by decide) ?_
    obtain ⟨rfl, rfl⟩ := xm_pr h
    exact xm_retZ C hP hS (by rfl) dX7_readsWindow_12
theorem c_X7_readsWindow {l : Launch} {E : xm_E} {a : Nat → Nat} (hD : xm_D (xu E a)) (n : Nat) (M : xm_M) (r : Int32) (M' : xm_M) (h : f_X7_readsWindow n M = some (r, M')) : xm_Met l E (xu E a) yX7_readsWindow cX7_readsWindow 2 (some .boolean) 2 47 [.ref (a 0)] M M' (some r) :=
  xm_met (by decide +kernel) rfl (Nat.le_of_ble_eq_true rfl) hD (fun p e s m below meth c C hP ls hl => t_X7_readsWindow_0 C  n M r M' h _ _ _ hP va_S.rf hl)
def f_X7_readsRule (n : Nat) (M : xm_M) : Option (Int32 × xm_M) := xm_ck (xm_in 1 11) (xm_lt (xm_up M 12 (1 : Int32).toNatClampNeg 0) (fun M2 => xm_b2 (f_X7_isHere n M2 114 114) (fun r5 M4 => if r5 = 0 then xm_b2 (f_X7_isHere n M4 97 97) (fun r9 M8 => if r9 = 0 then some (1, M8) else if (M8 0 17) ≤ ((M8 0 18) + 1) then some (1, M8) else xm_ck (xm_in ((M8 0 18) + 1) 80) (if (M8 11 ((M8 0 18) + 1).toNatClampNeg) = 108 then xm_ck (xm_in 1 11) (xm_lt (xm_up M8 12 (1 : Int32).toNatClampNeg 2) (fun M16 => xm_b2 (f_X7_takesWord n M16 107118253008160 6) (fun r19 M18 => xm_ck (xm_z r19) (some (r19, M18))))) else some (1, M8))) else xm_ck (xm_in 1 11) (xm_lt (xm_up M4 12 (1 : Int32).toNatClampNeg 1) (fun M23 => xm_b2 (f_X7_takesWord n M23 32204091756013344 7) (fun r26 M25 => xm_ck (xm_z r26) (some (r26, M25))))))))
set_option maxHeartbeats 4000000 in
set_option maxRecDepth 100000 in
theorem t_X7_readsRule_0 {l : Launch} {p : Program} {e : Env} {s : State} {m : MethodId} {args : Array Value} {below : List Frame} {meth : Method} {c : Code} {E : xm_E} {a : Nat → Nat} (C : xm_C E (xu E a) p s m args meth c RX7 cX7_readsRule 1 (some .boolean)) (n : Nat) (M : xm_M) (r : Int32) (M' : xm_M) : f_X7_readsRule n M = some (r, M') → ∀ (H : Heap) (locs : List Loc) (ls : Array Slot), va_P E.1 vwCl (xm_w (xu E a) M) H → va_S (xm_A (xu E a) s.heap.size) s.heap H locs → lv_has ls 1 [(0, .ref (a 0))] → W p l e { frames := 4, cells := 0, slots := 0, locals := 94 } s m args below meth c H locs 0 0 (MQ below (xm_Q E (xu E a) M' s.heap.size (some r)) args s 0 0 (xm_A (xu E a) s.heap.size)) (F0 m 0 ls []) := by
  have C9 := C
  obtain ⟨hx, hb, hml, hown, hts, hr, hlk, hD, hK, hS9⟩ := C9
  intro h H locs ls hP hS hl
  unfold f_X7_readsRule at h
  refine lv_aload_n hx hb dX7_readsRule_0 rfl (lv_at hl 0 rfl) ?_
  refine xm_get (V := (xu E a)) (T := TX7) (v := .ref (a 12)) C hP 0 19 xi_7 rfl l_X7_43 rfl (Nat.le_of_ble_eq_true rfl) ((xf_0 E a) _) (Nat.le_of_ble_eq_true rfl) rfl dX7_readsRule_1 ?_
  refine lv_iconst (v := 1) hx hb dX7_readsRule_4 (by decide) ?_
  refine lv_iconst (v := 0) hx hb dX7_readsRule_5 (by decide) ?_
  obtain ⟨b1, h⟩ := xm_ck_s h
  obtain ⟨M2, e3, h⟩ := xm_lt_s h
  refine xm_iast (V := (xu E a)) C hP hS 12 11 (Nat.le_of_ble_eq_true rfl) (xf_12 E a) b1 dX7_readsRule_6 (fun H locs hP hS => ?_)
  rw [← e3] at hP
  refine lv_aload_n hx hb dX7_readsRule_7 rfl (lv_at hl 0 rfl) ?_
  refine lv_bipush (v := 114) hx hb dX7_readsRule_8 (by decide) ?_
  refine lv_bipush (v := 114) hx hb dX7_readsRule_10 (by decide) ?_
  obtain ⟨r5, M4, e6, h⟩ := xm_b2_s h
  refine xm_callV C hP hS [.int 114, .int 114] [] (c_X7_isHere hD  n M2 114 114 r5 M4 e6) k_X7_138 (xm_recv C hP 0 rfl (Nat.le_of_ble_eq_true rfl) ((xf_0 E a) _)) rfl rfl ⟨(Nat.le_of_ble_eq_true rfl), (Nat.le_of_ble_eq_true rfl)⟩ hl.1 (Nat.le_of_ble_eq_true rfl) ⟨Nat.zero_le _, Nat.zero_le _⟩ dX7_readsRule_12 (fun H locs hP hS => ?_)
  change W p l e _ s m _ below meth c H locs 0 0 _ (F0 m 15 ls [.int r5])
  refine lv_if_eq (tgt := 35) hx hb dX7_readsRule_15 (by decide) (fun c7 => ?_) (fun c7 => ?_)
  · rw [if_pos c7] at h
    refine lv_aload_n hx hb dX7_readsRule_35 rfl (lv_at hl 0 rfl) ?_
    refine lv_bipush (v := 97) hx hb dX7_readsRule_36 (by decide) ?_
    refine lv_bipush (v := 97) hx hb dX7_readsRule_38 (by decide) ?_
    obtain ⟨r9, M8, e10, h⟩ := xm_b2_s h
    refine xm_callV C hP hS [.int 97, .int 97] [] (c_X7_isHere hD  n M4 97 97 r9 M8 e10) k_X7_138 (xm_recv C hP 0 rfl (Nat.le_of_ble_eq_true rfl) ((xf_0 E a) _)) rfl rfl ⟨(Nat.le_of_ble_eq_true rfl), (Nat.le_of_ble_eq_true rfl)⟩ hl.1 (Nat.le_of_ble_eq_true rfl) ⟨Nat.zero_le _, Nat.zero_le _⟩ dX7_readsRule_40 (fun H locs hP hS => ?_)
    change W p l e _ s m _ below meth c H locs 0 0 _ (F0 m 43 ls [.int r9])
    refine lv_if_eq (tgt := 92) hx hb dX7_readsRule_43 (by decide) (fun c11 => ?_) (fun c11 => ?_)
    · rw [if_pos c11] at h
      refine lv_iconst (v := 1) hx hb dX7_readsRule_92 (by decide) ?_
      obtain ⟨rfl, rfl⟩ := xm_pr h
      exact xm_retZ C hP hS (by rfl) dX7_readsRule_93
    · rw [if_neg c11] at h
      refine lv_aload_n hx hb dX7_readsRule_46 rfl (lv_at hl 0 rfl) ?_
      refine xm_get (V := (xu E a)) (T := TX7) (v := .int (M8 0 18)) C hP 0 18 xi_7 rfl l_X7_135 rfl (Nat.le_of_ble_eq_true rfl) ((xf_0 E a) _) (Nat.le_of_ble_eq_true rfl) rfl dX7_readsRule_47 ?_
      refine lv_iconst (v := 1) hx hb dX7_readsRule_50 (by decide) ?_
      refine lv_iadd hx hb dX7_readsRule_51 ?_
      refine lv_aload_n hx hb dX7_readsRule_52 rfl (lv_at hl 0 rfl) ?_
      refine xm_get (V := (xu E a)) (T := TX7) (v := .int (M8 0 17)) C hP 0 17 xi_7 rfl l_X7_132 rfl (Nat.le_of_ble_eq_true rfl) ((xf_0 E a) _) (Nat.le_of_ble_eq_true rfl) rfl dX7_readsRule_53 ?_
      refine lv_icmp_ge (tgt := 92) hx hb dX7_readsRule_56 (by decide) (fun c12 => ?_) (fun c12 => ?_)
      · rw [if_pos c12] at h
        refine lv_iconst (v := 1) hx hb dX7_readsRule_92 (by decide) ?_
        obtain ⟨rfl, rfl⟩ := xm_pr h
        exact xm_retZ C hP hS (by rfl) dX7_readsRule_93
      · rw [if_neg c12] at h
        refine lv_aload_n hx hb dX7_readsRule_59 rfl (lv_at hl 0 rfl) ?_
        refine xm_get (V := (xu E a)) (T := TX7) (v := .ref (a 11)) C hP 0 16 xi_7 rfl l_X7_40 rfl (Nat.le_of_ble_eq_true rfl) ((xf_0 E a) _) (Nat.le_of_ble_eq_true rfl) rfl dX7_readsRule_60 ?_
        refine lv_aload_n hx hb dX7_readsRule_63 rfl (lv_at hl 0 rfl) ?_
        refine xm_get (V := (xu E a)) (T := TX7) (v := .int (M8 0 18)) C hP 0 18 xi_7 rfl l_X7_135 rfl (Nat.le_of_ble_eq_true rfl) ((xf_0 E a) _) (Nat.le_of_ble_eq_true rfl) rfl dX7_readsRule_64 ?_
        refine lv_iconst (v := 1) hx hb dX7_readsRule_67 (by decide) ?_
        refine lv_iadd hx hb dX7_readsRule_68 ?_
        obtain ⟨b13, h⟩ := xm_ck_s h
        refine xm_iald (V := (xu E a)) C hP 11 80 (Nat.le_of_ble_eq_true rfl) (xf_11 E a) b13 dX7_readsRule_69 ?_
        refine lv_bipush (v := 108) hx hb dX7_readsRule_70 (by decide) ?_
        refine lv_icmp_ne (tgt := 92) hx hb dX7_readsRule_72 (by decide) (fun c14 => ?_) (fun c14 => ?_)
        · rw [if_neg c14] at h
          refine lv_iconst (v := 1) hx hb dX7_readsRule_92 (by decide) ?_
          obtain ⟨rfl, rfl⟩ := xm_pr h
          exact xm_retZ C hP hS (by rfl) dX7_readsRule_93
        · rw [if_pos c14] at h
          refine lv_aload_n hx hb dX7_readsRule_75 rfl (lv_at hl 0 rfl) ?_
          refine xm_get (V := (xu E a)) (T := TX7) (v := .ref (a 12)) C hP 0 19 xi_7 rfl l_X7_43 rfl (Nat.le_of_ble_eq_true rfl) ((xf_0 E a) _) (Nat.le_of_ble_eq_true rfl) rfl dX7_readsRule_76 ?_
          refine lv_iconst (v := 1) hx hb dX7_readsRule_79 (by decide) ?_
          refine lv_iconst (v := 2) hx hb dX7_readsRule_80 (by decide) ?_
          obtain ⟨b15, h⟩ := xm_ck_s h
          obtain ⟨M16, e17, h⟩ := xm_lt_s h
          refine xm_iast (V := (xu E a)) C hP hS 12 11 (Nat.le_of_ble_eq_true rfl) (xf_12 E a) b15 dX7_readsRule_81 (fun H locs hP hS => ?_)
          rw [← e17] at hP
          refine lv_aload_n hx hb dX7_readsRule_82 rfl (lv_at hl 0 rfl) ?_
          refine lv_ldc2 (v := 107118253008160) hx hb hown (hts _ q_X7_152) dX7_readsRule_83 ?_
          refine lv_bipush (v := 6) hx hb dX7_readsRule_86 (by decide) ?_
          obtain ⟨r19, M18, e20, h⟩ := xm_b2_s h
          refine xm_callV C hP hS [.long 107118253008160, .int 6] [] (c_X7_takesWord hD  n M16 107118253008160 6 r19 M18 e20) k_X7_148 (xm_recv C hP 0 rfl (Nat.le_of_ble_eq_true rfl) ((xf_0 E a) _)) rfl rfl ⟨(Nat.le_of_ble_eq_true rfl), (Nat.le_of_ble_eq_true rfl)⟩ hl.1 (Nat.le_of_ble_eq_true rfl) ⟨Nat.zero_le _, Nat.zero_le _⟩ dX7_readsRule_88 (fun H locs hP hS => ?_)
          change W p l e _ s m _ below meth c H locs 0 0 _ (F0 m 91 ls [.int r19])
          obtain ⟨z21, h⟩ := xm_ck_s h
          obtain ⟨rfl, rfl⟩ := xm_pr h
          exact xm_retZ C hP hS (xm_z_s z21) dX7_readsRule_91
  · rw [if_neg c7] at h
    refine lv_aload_n hx hb dX7_readsRule_18 rfl (lv_at hl 0 rfl) ?_
    refine xm_get (V := (xu E a)) (T := TX7) (v := .ref (a 12)) C hP 0 19 xi_7 rfl l_X7_43 rfl (Nat.le_of_ble_eq_true rfl) ((xf_0 E a) _) (Nat.le_of_ble_eq_true rfl) rfl dX7_readsRule_19 ?_
    refine lv_iconst (v := 1) hx hb dX7_readsRule_22 (by decide) ?_
    refine lv_iconst (v := 1) hx hb dX7_readsRule_23 (by decide) ?_
    obtain ⟨b22, h⟩ := xm_ck_s h
    obtain ⟨M23, e24, h⟩ := xm_lt_s h
    refine xm_iast (V := (xu E a)) C hP hS 12 11 (Nat.le_of_ble_eq_true rfl) (xf_12 E a) b22 dX7_readsRule_24 (fun H locs hP hS => ?_)
    rw [← e24] at hP
    refine lv_aload_n hx hb dX7_readsRule_25 rfl (lv_at hl 0 rfl) ?_
    refine lv_ldc2 (v := 32204091756013344) hx hb hown (hts _ q_X7_146) dX7_readsRule_26 ?_
    refine lv_bipush (v := 7) hx hb dX7_readsRule_29 (by decide) ?_
    obtain ⟨r26, M25, e27, h⟩ := xm_b2_s h
    refine xm_callV C hP hS [.long 32204091756013344, .int 7] [] (c_X7_takesWord hD  n M23 32204091756013344 7 r26 M25 e27) k_X7_148 (xm_recv C hP 0 rfl (Nat.le_of_ble_eq_true rfl) ((xf_0 E a) _)) rfl rfl ⟨(Nat.le_of_ble_eq_true rfl), (Nat.le_of_ble_eq_true rfl)⟩ hl.1 (Nat.le_of_ble_eq_true rfl) ⟨Nat.zero_le _, Nat.zero_le _⟩ dX7_readsRule_31 (fun H locs hP hS => ?_)
    change W p l e _ s m _ below meth c H locs 0 0 _ (F0 m 34 ls [.int r26])
    obtain ⟨z28, h⟩ := xm_ck_s h
    obtain ⟨rfl, rfl⟩ := xm_pr h
    exact xm_retZ C hP hS (xm_z_s z28) dX7_readsRule_34
theorem c_X7_readsRule {l : Launch} {E : xm_E} {a : Nat → Nat} (hD : xm_D (xu E a)) (n : Nat) (M : xm_M) (r : Int32) (M' : xm_M) (h : f_X7_readsRule n M = some (r, M')) : xm_Met l E (xu E a) yX7_readsRule cX7_readsRule 1 (some .boolean) 4 94 [.ref (a 0)] M M' (some r) :=
  xm_met (by decide +kernel) rfl (Nat.le_of_ble_eq_true rfl) hD (fun p e s m below meth c C hP ls hl => t_X7_readsRule_0 C  n M r M' h _ _ _ hP va_S.rf hl)
def f_X7_isBehindAbsent (n : Nat) (M : xm_M) : Option (Int32 × xm_M) := xm_ck (xm_in 2 11) (if (M 12 (2 : Int32).toNatClampNeg) ≤ 0 then some (0, M) else xm_ck (xm_in 2 11) (xm_ck (xm_in ((3 + (M 12 (2 : Int32).toNatClampNeg)) - 1) 11) (if (M 12 ((3 + (M 12 (2 : Int32).toNatClampNeg)) - 1).toNatClampNeg) < 8 then some (0, M) else some (1, M))))
set_option maxHeartbeats 4000000 in
set_option maxRecDepth 100000 in
theorem t_X7_isBehindAbsent_0 {l : Launch} {p : Program} {e : Env} {s : State} {m : MethodId} {args : Array Value} {below : List Frame} {meth : Method} {c : Code} {E : xm_E} {a : Nat → Nat} (C : xm_C E (xu E a) p s m args meth c RX7 cX7_isBehindAbsent 1 (some .boolean)) (n : Nat) (M : xm_M) (r : Int32) (M' : xm_M) : f_X7_isBehindAbsent n M = some (r, M') → ∀ (H : Heap) (locs : List Loc) (ls : Array Slot), va_P E.1 vwCl (xm_w (xu E a) M) H → va_S (xm_A (xu E a) s.heap.size) s.heap H locs → lv_has ls 1 [(0, .ref (a 0))] → W p l e { frames := 0, cells := 0, slots := 0, locals := 0 } s m args below meth c H locs 0 0 (MQ below (xm_Q E (xu E a) M' s.heap.size (some r)) args s 0 0 (xm_A (xu E a) s.heap.size)) (F0 m 0 ls []) := by
  have C9 := C
  obtain ⟨hx, hb, hml, hown, hts, hr, hlk, hD, hK, hS9⟩ := C9
  intro h H locs ls hP hS hl
  unfold f_X7_isBehindAbsent at h
  refine lv_aload_n hx hb dX7_isBehindAbsent_0 rfl (lv_at hl 0 rfl) ?_
  refine xm_get (V := (xu E a)) (T := TX7) (v := .ref (a 12)) C hP 0 19 xi_7 rfl l_X7_43 rfl (Nat.le_of_ble_eq_true rfl) ((xf_0 E a) _) (Nat.le_of_ble_eq_true rfl) rfl dX7_isBehindAbsent_1 ?_
  refine lv_iconst (v := 2) hx hb dX7_isBehindAbsent_4 (by decide) ?_
  obtain ⟨b1, h⟩ := xm_ck_s h
  refine xm_iald (V := (xu E a)) C hP 12 11 (Nat.le_of_ble_eq_true rfl) (xf_12 E a) b1 dX7_isBehindAbsent_5 ?_
  refine lv_if_le (tgt := 33) hx hb dX7_isBehindAbsent_6 (by decide) (fun c2 => ?_) (fun c2 => ?_)
  · rw [if_pos c2] at h
    refine lv_iconst (v := 0) hx hb dX7_isBehindAbsent_33 (by decide) ?_
    obtain ⟨rfl, rfl⟩ := xm_pr h
    exact xm_retZ C hP hS (by rfl) dX7_isBehindAbsent_34
  · rw [if_neg c2] at h
    refine lv_aload_n hx hb dX7_isBehindAbsent_9 rfl (lv_at hl 0 rfl) ?_
    refine xm_get (V := (xu E a)) (T := TX7) (v := .ref (a 12)) C hP 0 19 xi_7 rfl l_X7_43 rfl (Nat.le_of_ble_eq_true rfl) ((xf_0 E a) _) (Nat.le_of_ble_eq_true rfl) rfl dX7_isBehindAbsent_10 ?_
    refine lv_iconst (v := 3) hx hb dX7_isBehindAbsent_13 (by decide) ?_
    refine lv_aload_n hx hb dX7_isBehindAbsent_14 rfl (lv_at hl 0 rfl) ?_
    refine xm_get (V := (xu E a)) (T := TX7) (v := .ref (a 12)) C hP 0 19 xi_7 rfl l_X7_43 rfl (Nat.le_of_ble_eq_true rfl) ((xf_0 E a) _) (Nat.le_of_ble_eq_true rfl) rfl dX7_isBehindAbsent_15 ?_
    refine lv_iconst (v := 2) hx hb dX7_isBehindAbsent_18 (by decide) ?_
    obtain ⟨b3, h⟩ := xm_ck_s h
    refine xm_iald (V := (xu E a)) C hP 12 11 (Nat.le_of_ble_eq_true rfl) (xf_12 E a) b3 dX7_isBehindAbsent_19 ?_
    refine lv_iadd hx hb dX7_isBehindAbsent_20 ?_
    refine lv_iconst (v := 1) hx hb dX7_isBehindAbsent_21 (by decide) ?_
    refine lv_isub hx hb dX7_isBehindAbsent_22 ?_
    obtain ⟨b4, h⟩ := xm_ck_s h
    refine xm_iald (V := (xu E a)) C hP 12 11 (Nat.le_of_ble_eq_true rfl) (xf_12 E a) b4 dX7_isBehindAbsent_23 ?_
    refine lv_bipush (v := 8) hx hb dX7_isBehindAbsent_24 (by decide) ?_
    refine lv_icmp_lt (tgt := 33) hx hb dX7_isBehindAbsent_26 (by decide) (fun c5 => ?_) (fun c5 => ?_)
    · rw [if_pos c5] at h
      refine lv_iconst (v := 0) hx hb dX7_isBehindAbsent_33 (by decide) ?_
      obtain ⟨rfl, rfl⟩ := xm_pr h
      exact xm_retZ C hP hS (by rfl) dX7_isBehindAbsent_34
    · rw [if_neg c5] at h
      refine lv_iconst (v := 1) hx hb dX7_isBehindAbsent_29 (by decide) ?_
      refine lv_goto (tgt := 34) hx hb dX7_isBehindAbsent_30 (by decide) ?_
      obtain ⟨rfl, rfl⟩ := xm_pr h
      exact xm_retZ C hP hS (by rfl) dX7_isBehindAbsent_34
theorem c_X7_isBehindAbsent {l : Launch} {E : xm_E} {a : Nat → Nat} (hD : xm_D (xu E a)) (n : Nat) (M : xm_M) (r : Int32) (M' : xm_M) (h : f_X7_isBehindAbsent n M = some (r, M')) : xm_Met l E (xu E a) yX7_isBehindAbsent cX7_isBehindAbsent 1 (some .boolean) 0 0 [.ref (a 0)] M M' (some r) :=
  xm_met (by decide +kernel) rfl (Nat.le_of_ble_eq_true rfl) hD (fun p e s m below meth c C hP ls hl => t_X7_isBehindAbsent_0 C  n M r M' h _ _ _ hP va_S.rf hl)
def f_X7_readsStep_80 (n : Nat) (M : xm_M) (x1 : Int32) : Option (Int32 × xm_M) := if x1 = 0 then xm_lt (xm_up M 0 20 ((M 0 20) + 1)) (fun M2 => xm_ck (xm_in 2 11) (xm_ck (xm_in (M2 0 18) 80) (if x1 = 0 then xm_ck (xm_in (3 + (M2 12 (2 : Int32).toNatClampNeg)) 11) (xm_lt (xm_up M2 12 (3 + (M2 12 (2 : Int32).toNatClampNeg)).toNatClampNeg (((M2 11 (M2 0 18).toNatClampNeg) - 97) + 0)) (fun M8 => xm_ck (xm_in 2 11) (xm_ck (xm_in 2 11) (xm_lt (xm_up M8 12 (2 : Int32).toNatClampNeg ((M8 12 (2 : Int32).toNatClampNeg) + 1)) (fun M12 => xm_lt (xm_up M12 0 18 ((M12 0 18) + 1)) (fun M14 => some (1, M14))))))) else xm_ck (xm_in (3 + (M2 12 (2 : Int32).toNatClampNeg)) 11) (xm_lt (xm_up M2 12 (3 + (M2 12 (2 : Int32).toNatClampNeg)).toNatClampNeg (((M2 11 (M2 0 18).toNatClampNeg) - 97) + 8)) (fun M17 => xm_ck (xm_in 2 11) (xm_ck (xm_in 2 11) (xm_lt (xm_up M17 12 (2 : Int32).toNatClampNeg ((M17 12 (2 : Int32).toNatClampNeg) + 1)) (fun M21 => xm_lt (xm_up M21 0 18 ((M21 0 18) + 1)) (fun M23 => some (1, M23)))))))))) else xm_lt (xm_up M 0 20 ((M 0 20) + 0)) (fun M25 => xm_ck (xm_in 2 11) (xm_ck (xm_in (M25 0 18) 80) (if x1 = 0 then xm_ck (xm_in (3 + (M25 12 (2 : Int32).toNatClampNeg)) 11) (xm_lt (xm_up M25 12 (3 + (M25 12 (2 : Int32).toNatClampNeg)).toNatClampNeg (((M25 11 (M25 0 18).toNatClampNeg) - 97) + 0)) (fun M31 => xm_ck (xm_in 2 11) (xm_ck (xm_in 2 11) (xm_lt (xm_up M31 12 (2 : Int32).toNatClampNeg ((M31 12 (2 : Int32).toNatClampNeg) + 1)) (fun M35 => xm_lt (xm_up M35 0 18 ((M35 0 18) + 1)) (fun M37 => some (1, M37))))))) else xm_ck (xm_in (3 + (M25 12 (2 : Int32).toNatClampNeg)) 11) (xm_lt (xm_up M25 12 (3 + (M25 12 (2 : Int32).toNatClampNeg)).toNatClampNeg (((M25 11 (M25 0 18).toNatClampNeg) - 97) + 8)) (fun M40 => xm_ck (xm_in 2 11) (xm_ck (xm_in 2 11) (xm_lt (xm_up M40 12 (2 : Int32).toNatClampNeg ((M40 12 (2 : Int32).toNatClampNeg) + 1)) (fun M44 => xm_lt (xm_up M44 0 18 ((M44 0 18) + 1)) (fun M46 => some (1, M46))))))))))
set_option maxHeartbeats 4000000 in
set_option maxRecDepth 100000 in
theorem t_X7_readsStep_80 {l : Launch} {p : Program} {e : Env} {s : State} {m : MethodId} {args : Array Value} {below : List Frame} {meth : Method} {c : Code} {E : xm_E} {a : Nat → Nat} (C : xm_C E (xu E a) p s m args meth c RX7 cX7_readsStep 2 (some .boolean)) (n : Nat) (M : xm_M) (x1 : Int32) (r : Int32) (M' : xm_M) : f_X7_readsStep_80 n M x1 = some (r, M') → ∀ (H : Heap) (locs : List Loc) (ls : Array Slot), va_P E.1 vwCl (xm_w (xu E a) M) H → va_S (xm_A (xu E a) s.heap.size) s.heap H locs → lv_has ls 2 [(0, .ref (a 0)), (1, .int x1)] → W p l e { frames := 3, cells := 0, slots := 0, locals := 69 } s m args below meth c H locs 0 0 (MQ below (xm_Q E (xu E a) M' s.heap.size (some r)) args s 0 0 (xm_A (xu E a) s.heap.size)) (F0 m 80 ls []) := by
  have C9 := C
  obtain ⟨hx, hb, hml, hown, hts, hr, hlk, hD, hK, hS9⟩ := C9
  intro h H locs ls hP hS hl
  unfold f_X7_readsStep_80 at h
  refine lv_aload_n hx hb dX7_readsStep_80 rfl (lv_at hl 0 rfl) ?_
  refine lv_dup hx hb dX7_readsStep_81 rfl ?_
  refine xm_get (V := (xu E a)) (T := TX7) (v := .int (M 0 20)) C hP 0 20 xi_7 rfl l_X7_158 rfl (Nat.le_of_ble_eq_true rfl) ((xf_0 E a) _) (Nat.le_of_ble_eq_true rfl) rfl dX7_readsStep_82 ?_
  refine lv_iload_n hx hb dX7_readsStep_85 rfl (lv_at hl 1 rfl) ?_
  refine lv_if_eq (tgt := 93) hx hb dX7_readsStep_86 (by decide) (fun c1 => ?_) (fun c1 => ?_)
  · rw [if_pos c1] at h
    refine lv_iconst (v := 1) hx hb dX7_readsStep_93 (by decide) ?_
    refine lv_iadd hx hb dX7_readsStep_94 ?_
    obtain ⟨M2, e3, h⟩ := xm_lt_s h
    refine xm_put (V := (xu E a)) (T := TX7) (ty := .int) (x := (M 0 20) + 1) C hP hS 0 20 xi_7 rfl l_X7_158 rfl tyX7_ok nmX7 (Nat.le_of_ble_eq_true rfl) ((xf_0 E a) _) (Nat.le_of_ble_eq_true rfl) rfl (by decide +kernel) rfl rfl (Nat.le_of_ble_eq_true rfl) ((xf_0 E a) _) dX7_readsStep_95 (fun H locs hP hS => ?_)
    rw [← e3] at hP
    refine lv_aload_n hx hb dX7_readsStep_98 rfl (lv_at hl 0 rfl) ?_
    refine xm_get (V := (xu E a)) (T := TX7) (v := .ref (a 12)) C hP 0 19 xi_7 rfl l_X7_43 rfl (Nat.le_of_ble_eq_true rfl) ((xf_0 E a) _) (Nat.le_of_ble_eq_true rfl) rfl dX7_readsStep_99 ?_
    refine lv_iconst (v := 3) hx hb dX7_readsStep_102 (by decide) ?_
    refine lv_aload_n hx hb dX7_readsStep_103 rfl (lv_at hl 0 rfl) ?_
    refine xm_get (V := (xu E a)) (T := TX7) (v := .ref (a 12)) C hP 0 19 xi_7 rfl l_X7_43 rfl (Nat.le_of_ble_eq_true rfl) ((xf_0 E a) _) (Nat.le_of_ble_eq_true rfl) rfl dX7_readsStep_104 ?_
    refine lv_iconst (v := 2) hx hb dX7_readsStep_107 (by decide) ?_
    obtain ⟨b4, h⟩ := xm_ck_s h
    refine xm_iald (V := (xu E a)) C hP 12 11 (Nat.le_of_ble_eq_true rfl) (xf_12 E a) b4 dX7_readsStep_108 ?_
    refine lv_iadd hx hb dX7_readsStep_109 ?_
    refine lv_aload_n hx hb dX7_readsStep_110 rfl (lv_at hl 0 rfl) ?_
    refine xm_get (V := (xu E a)) (T := TX7) (v := .ref (a 11)) C hP 0 16 xi_7 rfl l_X7_40 rfl (Nat.le_of_ble_eq_true rfl) ((xf_0 E a) _) (Nat.le_of_ble_eq_true rfl) rfl dX7_readsStep_111 ?_
    refine lv_aload_n hx hb dX7_readsStep_114 rfl (lv_at hl 0 rfl) ?_
    refine xm_get (V := (xu E a)) (T := TX7) (v := .int (M2 0 18)) C hP 0 18 xi_7 rfl l_X7_135 rfl (Nat.le_of_ble_eq_true rfl) ((xf_0 E a) _) (Nat.le_of_ble_eq_true rfl) rfl dX7_readsStep_115 ?_
    obtain ⟨b5, h⟩ := xm_ck_s h
    refine xm_iald (V := (xu E a)) C hP 11 80 (Nat.le_of_ble_eq_true rfl) (xf_11 E a) b5 dX7_readsStep_118 ?_
    refine lv_bipush (v := 97) hx hb dX7_readsStep_119 (by decide) ?_
    refine lv_isub hx hb dX7_readsStep_121 ?_
    refine lv_iload_n hx hb dX7_readsStep_122 rfl (lv_at hl 1 rfl) ?_
    refine lv_if_eq (tgt := 131) hx hb dX7_readsStep_123 (by decide) (fun c6 => ?_) (fun c6 => ?_)
    · rw [if_pos c6] at h
      refine lv_iconst (v := 0) hx hb dX7_readsStep_131 (by decide) ?_
      refine lv_iadd hx hb dX7_readsStep_132 ?_
      obtain ⟨b7, h⟩ := xm_ck_s h
      obtain ⟨M8, e9, h⟩ := xm_lt_s h
      refine xm_iast (V := (xu E a)) C hP hS 12 11 (Nat.le_of_ble_eq_true rfl) (xf_12 E a) b7 dX7_readsStep_133 (fun H locs hP hS => ?_)
      rw [← e9] at hP
      refine lv_aload_n hx hb dX7_readsStep_134 rfl (lv_at hl 0 rfl) ?_
      refine xm_get (V := (xu E a)) (T := TX7) (v := .ref (a 12)) C hP 0 19 xi_7 rfl l_X7_43 rfl (Nat.le_of_ble_eq_true rfl) ((xf_0 E a) _) (Nat.le_of_ble_eq_true rfl) rfl dX7_readsStep_135 ?_
      refine lv_iconst (v := 2) hx hb dX7_readsStep_138 (by decide) ?_
      refine lv_dup2_11 hx hb dX7_readsStep_139 rfl rfl ?_
      obtain ⟨b10, h⟩ := xm_ck_s h
      refine xm_iald (V := (xu E a)) C hP 12 11 (Nat.le_of_ble_eq_true rfl) (xf_12 E a) b10 dX7_readsStep_140 ?_
      refine lv_iconst (v := 1) hx hb dX7_readsStep_141 (by decide) ?_
      refine lv_iadd hx hb dX7_readsStep_142 ?_
      obtain ⟨b11, h⟩ := xm_ck_s h
      obtain ⟨M12, e13, h⟩ := xm_lt_s h
      refine xm_iast (V := (xu E a)) C hP hS 12 11 (Nat.le_of_ble_eq_true rfl) (xf_12 E a) b11 dX7_readsStep_143 (fun H locs hP hS => ?_)
      rw [← e13] at hP
      refine lv_aload_n hx hb dX7_readsStep_144 rfl (lv_at hl 0 rfl) ?_
      refine lv_dup hx hb dX7_readsStep_145 rfl ?_
      refine xm_get (V := (xu E a)) (T := TX7) (v := .int (M12 0 18)) C hP 0 18 xi_7 rfl l_X7_135 rfl (Nat.le_of_ble_eq_true rfl) ((xf_0 E a) _) (Nat.le_of_ble_eq_true rfl) rfl dX7_readsStep_146 ?_
      refine lv_iconst (v := 1) hx hb dX7_readsStep_149 (by decide) ?_
      refine lv_iadd hx hb dX7_readsStep_150 ?_
      obtain ⟨M14, e15, h⟩ := xm_lt_s h
      refine xm_put (V := (xu E a)) (T := TX7) (ty := .int) (x := (M12 0 18) + 1) C hP hS 0 18 xi_7 rfl l_X7_135 rfl tyX7_ok nmX7 (Nat.le_of_ble_eq_true rfl) ((xf_0 E a) _) (Nat.le_of_ble_eq_true rfl) rfl (by decide +kernel) rfl rfl (Nat.le_of_ble_eq_true rfl) ((xf_0 E a) _) dX7_readsStep_151 (fun H locs hP hS => ?_)
      rw [← e15] at hP
      refine lv_iconst (v := 1) hx hb dX7_readsStep_154 (by decide) ?_
      obtain ⟨rfl, rfl⟩ := xm_pr h
      exact xm_retZ C hP hS (by rfl) dX7_readsStep_155
    · rw [if_neg c6] at h
      refine lv_bipush (v := 8) hx hb dX7_readsStep_126 (by decide) ?_
      refine lv_goto (tgt := 132) hx hb dX7_readsStep_128 (by decide) ?_
      refine lv_iadd hx hb dX7_readsStep_132 ?_
      obtain ⟨b16, h⟩ := xm_ck_s h
      obtain ⟨M17, e18, h⟩ := xm_lt_s h
      refine xm_iast (V := (xu E a)) C hP hS 12 11 (Nat.le_of_ble_eq_true rfl) (xf_12 E a) b16 dX7_readsStep_133 (fun H locs hP hS => ?_)
      rw [← e18] at hP
      refine lv_aload_n hx hb dX7_readsStep_134 rfl (lv_at hl 0 rfl) ?_
      refine xm_get (V := (xu E a)) (T := TX7) (v := .ref (a 12)) C hP 0 19 xi_7 rfl l_X7_43 rfl (Nat.le_of_ble_eq_true rfl) ((xf_0 E a) _) (Nat.le_of_ble_eq_true rfl) rfl dX7_readsStep_135 ?_
      refine lv_iconst (v := 2) hx hb dX7_readsStep_138 (by decide) ?_
      refine lv_dup2_11 hx hb dX7_readsStep_139 rfl rfl ?_
      obtain ⟨b19, h⟩ := xm_ck_s h
      refine xm_iald (V := (xu E a)) C hP 12 11 (Nat.le_of_ble_eq_true rfl) (xf_12 E a) b19 dX7_readsStep_140 ?_
      refine lv_iconst (v := 1) hx hb dX7_readsStep_141 (by decide) ?_
      refine lv_iadd hx hb dX7_readsStep_142 ?_
      obtain ⟨b20, h⟩ := xm_ck_s h
      obtain ⟨M21, e22, h⟩ := xm_lt_s h
      refine xm_iast (V := (xu E a)) C hP hS 12 11 (Nat.le_of_ble_eq_true rfl) (xf_12 E a) b20 dX7_readsStep_143 (fun H locs hP hS => ?_)
      rw [← e22] at hP
      refine lv_aload_n hx hb dX7_readsStep_144 rfl (lv_at hl 0 rfl) ?_
      refine lv_dup hx hb dX7_readsStep_145 rfl ?_
      refine xm_get (V := (xu E a)) (T := TX7) (v := .int (M21 0 18)) C hP 0 18 xi_7 rfl l_X7_135 rfl (Nat.le_of_ble_eq_true rfl) ((xf_0 E a) _) (Nat.le_of_ble_eq_true rfl) rfl dX7_readsStep_146 ?_
      refine lv_iconst (v := 1) hx hb dX7_readsStep_149 (by decide) ?_
      refine lv_iadd hx hb dX7_readsStep_150 ?_
      obtain ⟨M23, e24, h⟩ := xm_lt_s h
      refine xm_put (V := (xu E a)) (T := TX7) (ty := .int) (x := (M21 0 18) + 1) C hP hS 0 18 xi_7 rfl l_X7_135 rfl tyX7_ok nmX7 (Nat.le_of_ble_eq_true rfl) ((xf_0 E a) _) (Nat.le_of_ble_eq_true rfl) rfl (by decide +kernel) rfl rfl (Nat.le_of_ble_eq_true rfl) ((xf_0 E a) _) dX7_readsStep_151 (fun H locs hP hS => ?_)
      rw [← e24] at hP
      refine lv_iconst (v := 1) hx hb dX7_readsStep_154 (by decide) ?_
      obtain ⟨rfl, rfl⟩ := xm_pr h
      exact xm_retZ C hP hS (by rfl) dX7_readsStep_155
  · rw [if_neg c1] at h
    refine lv_iconst (v := 0) hx hb dX7_readsStep_89 (by decide) ?_
    refine lv_goto (tgt := 94) hx hb dX7_readsStep_90 (by decide) ?_
    refine lv_iadd hx hb dX7_readsStep_94 ?_
    obtain ⟨M25, e26, h⟩ := xm_lt_s h
    refine xm_put (V := (xu E a)) (T := TX7) (ty := .int) (x := (M 0 20) + 0) C hP hS 0 20 xi_7 rfl l_X7_158 rfl tyX7_ok nmX7 (Nat.le_of_ble_eq_true rfl) ((xf_0 E a) _) (Nat.le_of_ble_eq_true rfl) rfl (by decide +kernel) rfl rfl (Nat.le_of_ble_eq_true rfl) ((xf_0 E a) _) dX7_readsStep_95 (fun H locs hP hS => ?_)
    rw [← e26] at hP
    refine lv_aload_n hx hb dX7_readsStep_98 rfl (lv_at hl 0 rfl) ?_
    refine xm_get (V := (xu E a)) (T := TX7) (v := .ref (a 12)) C hP 0 19 xi_7 rfl l_X7_43 rfl (Nat.le_of_ble_eq_true rfl) ((xf_0 E a) _) (Nat.le_of_ble_eq_true rfl) rfl dX7_readsStep_99 ?_
    refine lv_iconst (v := 3) hx hb dX7_readsStep_102 (by decide) ?_
    refine lv_aload_n hx hb dX7_readsStep_103 rfl (lv_at hl 0 rfl) ?_
    refine xm_get (V := (xu E a)) (T := TX7) (v := .ref (a 12)) C hP 0 19 xi_7 rfl l_X7_43 rfl (Nat.le_of_ble_eq_true rfl) ((xf_0 E a) _) (Nat.le_of_ble_eq_true rfl) rfl dX7_readsStep_104 ?_
    refine lv_iconst (v := 2) hx hb dX7_readsStep_107 (by decide) ?_
    obtain ⟨b27, h⟩ := xm_ck_s h
    refine xm_iald (V := (xu E a)) C hP 12 11 (Nat.le_of_ble_eq_true rfl) (xf_12 E a) b27 dX7_readsStep_108 ?_
    refine lv_iadd hx hb dX7_readsStep_109 ?_
    refine lv_aload_n hx hb dX7_readsStep_110 rfl (lv_at hl 0 rfl) ?_
    refine xm_get (V := (xu E a)) (T := TX7) (v := .ref (a 11)) C hP 0 16 xi_7 rfl l_X7_40 rfl (Nat.le_of_ble_eq_true rfl) ((xf_0 E a) _) (Nat.le_of_ble_eq_true rfl) rfl dX7_readsStep_111 ?_
    refine lv_aload_n hx hb dX7_readsStep_114 rfl (lv_at hl 0 rfl) ?_
    refine xm_get (V := (xu E a)) (T := TX7) (v := .int (M25 0 18)) C hP 0 18 xi_7 rfl l_X7_135 rfl (Nat.le_of_ble_eq_true rfl) ((xf_0 E a) _) (Nat.le_of_ble_eq_true rfl) rfl dX7_readsStep_115 ?_
    obtain ⟨b28, h⟩ := xm_ck_s h
    refine xm_iald (V := (xu E a)) C hP 11 80 (Nat.le_of_ble_eq_true rfl) (xf_11 E a) b28 dX7_readsStep_118 ?_
    refine lv_bipush (v := 97) hx hb dX7_readsStep_119 (by decide) ?_
    refine lv_isub hx hb dX7_readsStep_121 ?_
    refine lv_iload_n hx hb dX7_readsStep_122 rfl (lv_at hl 1 rfl) ?_
    refine lv_if_eq (tgt := 131) hx hb dX7_readsStep_123 (by decide) (fun c29 => ?_) (fun c29 => ?_)
    · rw [if_pos c29] at h
      refine lv_iconst (v := 0) hx hb dX7_readsStep_131 (by decide) ?_
      refine lv_iadd hx hb dX7_readsStep_132 ?_
      obtain ⟨b30, h⟩ := xm_ck_s h
      obtain ⟨M31, e32, h⟩ := xm_lt_s h
      refine xm_iast (V := (xu E a)) C hP hS 12 11 (Nat.le_of_ble_eq_true rfl) (xf_12 E a) b30 dX7_readsStep_133 (fun H locs hP hS => ?_)
      rw [← e32] at hP
      refine lv_aload_n hx hb dX7_readsStep_134 rfl (lv_at hl 0 rfl) ?_
      refine xm_get (V := (xu E a)) (T := TX7) (v := .ref (a 12)) C hP 0 19 xi_7 rfl l_X7_43 rfl (Nat.le_of_ble_eq_true rfl) ((xf_0 E a) _) (Nat.le_of_ble_eq_true rfl) rfl dX7_readsStep_135 ?_
      refine lv_iconst (v := 2) hx hb dX7_readsStep_138 (by decide) ?_
      refine lv_dup2_11 hx hb dX7_readsStep_139 rfl rfl ?_
      obtain ⟨b33, h⟩ := xm_ck_s h
      refine xm_iald (V := (xu E a)) C hP 12 11 (Nat.le_of_ble_eq_true rfl) (xf_12 E a) b33 dX7_readsStep_140 ?_
      refine lv_iconst (v := 1) hx hb dX7_readsStep_141 (by decide) ?_
      refine lv_iadd hx hb dX7_readsStep_142 ?_
      obtain ⟨b34, h⟩ := xm_ck_s h
      obtain ⟨M35, e36, h⟩ := xm_lt_s h
      refine xm_iast (V := (xu E a)) C hP hS 12 11 (Nat.le_of_ble_eq_true rfl) (xf_12 E a) b34 dX7_readsStep_143 (fun H locs hP hS => ?_)
      rw [← e36] at hP
      refine lv_aload_n hx hb dX7_readsStep_144 rfl (lv_at hl 0 rfl) ?_
      refine lv_dup hx hb dX7_readsStep_145 rfl ?_
      refine xm_get (V := (xu E a)) (T := TX7) (v := .int (M35 0 18)) C hP 0 18 xi_7 rfl l_X7_135 rfl (Nat.le_of_ble_eq_true rfl) ((xf_0 E a) _) (Nat.le_of_ble_eq_true rfl) rfl dX7_readsStep_146 ?_
      refine lv_iconst (v := 1) hx hb dX7_readsStep_149 (by decide) ?_
      refine lv_iadd hx hb dX7_readsStep_150 ?_
      obtain ⟨M37, e38, h⟩ := xm_lt_s h
      refine xm_put (V := (xu E a)) (T := TX7) (ty := .int) (x := (M35 0 18) + 1) C hP hS 0 18 xi_7 rfl l_X7_135 rfl tyX7_ok nmX7 (Nat.le_of_ble_eq_true rfl) ((xf_0 E a) _) (Nat.le_of_ble_eq_true rfl) rfl (by decide +kernel) rfl rfl (Nat.le_of_ble_eq_true rfl) ((xf_0 E a) _) dX7_readsStep_151 (fun H locs hP hS => ?_)
      rw [← e38] at hP
      refine lv_iconst (v := 1) hx hb dX7_readsStep_154 (by decide) ?_
      obtain ⟨rfl, rfl⟩ := xm_pr h
      exact xm_retZ C hP hS (by rfl) dX7_readsStep_155
    · rw [if_neg c29] at h
      refine lv_bipush (v := 8) hx hb dX7_readsStep_126 (by decide) ?_
      refine lv_goto (tgt := 132) hx hb dX7_readsStep_128 (by decide) ?_
      refine lv_iadd hx hb dX7_readsStep_132 ?_
      obtain ⟨b39, h⟩ := xm_ck_s h
      obtain ⟨M40, e41, h⟩ := xm_lt_s h
      refine xm_iast (V := (xu E a)) C hP hS 12 11 (Nat.le_of_ble_eq_true rfl) (xf_12 E a) b39 dX7_readsStep_133 (fun H locs hP hS => ?_)
      rw [← e41] at hP
      refine lv_aload_n hx hb dX7_readsStep_134 rfl (lv_at hl 0 rfl) ?_
      refine xm_get (V := (xu E a)) (T := TX7) (v := .ref (a 12)) C hP 0 19 xi_7 rfl l_X7_43 rfl (Nat.le_of_ble_eq_true rfl) ((xf_0 E a) _) (Nat.le_of_ble_eq_true rfl) rfl dX7_readsStep_135 ?_
      refine lv_iconst (v := 2) hx hb dX7_readsStep_138 (by decide) ?_
      refine lv_dup2_11 hx hb dX7_readsStep_139 rfl rfl ?_
      obtain ⟨b42, h⟩ := xm_ck_s h
      refine xm_iald (V := (xu E a)) C hP 12 11 (Nat.le_of_ble_eq_true rfl) (xf_12 E a) b42 dX7_readsStep_140 ?_
      refine lv_iconst (v := 1) hx hb dX7_readsStep_141 (by decide) ?_
      refine lv_iadd hx hb dX7_readsStep_142 ?_
      obtain ⟨b43, h⟩ := xm_ck_s h
      obtain ⟨M44, e45, h⟩ := xm_lt_s h
      refine xm_iast (V := (xu E a)) C hP hS 12 11 (Nat.le_of_ble_eq_true rfl) (xf_12 E a) b43 dX7_readsStep_143 (fun H locs hP hS => ?_)
      rw [← e45] at hP
      refine lv_aload_n hx hb dX7_readsStep_144 rfl (lv_at hl 0 rfl) ?_
      refine lv_dup hx hb dX7_readsStep_145 rfl ?_
      refine xm_get (V := (xu E a)) (T := TX7) (v := .int (M44 0 18)) C hP 0 18 xi_7 rfl l_X7_135 rfl (Nat.le_of_ble_eq_true rfl) ((xf_0 E a) _) (Nat.le_of_ble_eq_true rfl) rfl dX7_readsStep_146 ?_
      refine lv_iconst (v := 1) hx hb dX7_readsStep_149 (by decide) ?_
      refine lv_iadd hx hb dX7_readsStep_150 ?_
      obtain ⟨M46, e47, h⟩ := xm_lt_s h
      refine xm_put (V := (xu E a)) (T := TX7) (ty := .int) (x := (M44 0 18) + 1) C hP hS 0 18 xi_7 rfl l_X7_135 rfl tyX7_ok nmX7 (Nat.le_of_ble_eq_true rfl) ((xf_0 E a) _) (Nat.le_of_ble_eq_true rfl) rfl (by decide +kernel) rfl rfl (Nat.le_of_ble_eq_true rfl) ((xf_0 E a) _) dX7_readsStep_151 (fun H locs hP hS => ?_)
      rw [← e47] at hP
      refine lv_iconst (v := 1) hx hb dX7_readsStep_154 (by decide) ?_
      obtain ⟨rfl, rfl⟩ := xm_pr h
      exact xm_retZ C hP hS (by rfl) dX7_readsStep_155
def f_X7_readsStep_55 (n : Nat) (M : xm_M) (x1 : Int32) : Option (Int32 × xm_M) := xm_b2 (f_X7_isHere n M 97 104) (fun r2 M1 => if r2 = 0 then some (0, M1) else if x1 = 0 then if (M1 0 20) = 4 then some (0, M1) else f_X7_readsStep_80 n M1 x1 else f_X7_readsStep_80 n M1 x1)
set_option maxHeartbeats 4000000 in
set_option maxRecDepth 100000 in
theorem t_X7_readsStep_55 {l : Launch} {p : Program} {e : Env} {s : State} {m : MethodId} {args : Array Value} {below : List Frame} {meth : Method} {c : Code} {E : xm_E} {a : Nat → Nat} (C : xm_C E (xu E a) p s m args meth c RX7 cX7_readsStep 2 (some .boolean)) (n : Nat) (M : xm_M) (x1 : Int32) (r : Int32) (M' : xm_M) : f_X7_readsStep_55 n M x1 = some (r, M') → ∀ (H : Heap) (locs : List Loc) (ls : Array Slot), va_P E.1 vwCl (xm_w (xu E a) M) H → va_S (xm_A (xu E a) s.heap.size) s.heap H locs → lv_has ls 2 [(0, .ref (a 0)), (1, .int x1)] → W p l e { frames := 3, cells := 0, slots := 0, locals := 69 } s m args below meth c H locs 0 0 (MQ below (xm_Q E (xu E a) M' s.heap.size (some r)) args s 0 0 (xm_A (xu E a) s.heap.size)) (F0 m 55 ls []) := by
  have C9 := C
  obtain ⟨hx, hb, hml, hown, hts, hr, hlk, hD, hK, hS9⟩ := C9
  intro h H locs ls hP hS hl
  unfold f_X7_readsStep_55 at h
  refine lv_aload_n hx hb dX7_readsStep_55 rfl (lv_at hl 0 rfl) ?_
  refine lv_bipush (v := 97) hx hb dX7_readsStep_56 (by decide) ?_
  refine lv_bipush (v := 104) hx hb dX7_readsStep_58 (by decide) ?_
  obtain ⟨r2, M1, e3, h⟩ := xm_b2_s h
  refine xm_callV C hP hS [.int 97, .int 104] [] (c_X7_isHere hD  n M 97 104 r2 M1 e3) k_X7_138 (xm_recv C hP 0 rfl (Nat.le_of_ble_eq_true rfl) ((xf_0 E a) _)) rfl rfl ⟨(Nat.le_of_ble_eq_true rfl), (Nat.le_of_ble_eq_true rfl)⟩ hl.1 (Nat.le_of_ble_eq_true rfl) ⟨Nat.zero_le _, Nat.zero_le _⟩ dX7_readsStep_60 (fun H locs hP hS => ?_)
  change W p l e _ s m _ below meth c H locs 0 0 _ (F0 m 63 ls [.int r2])
  refine lv_if_eq (tgt := 78) hx hb dX7_readsStep_63 (by decide) (fun c4 => ?_) (fun c4 => ?_)
  · rw [if_pos c4] at h
    refine lv_iconst (v := 0) hx hb dX7_readsStep_78 (by decide) ?_
    obtain ⟨rfl, rfl⟩ := xm_pr h
    exact xm_retZ C hP hS (by rfl) dX7_readsStep_79
  · rw [if_neg c4] at h
    refine lv_iload_n hx hb dX7_readsStep_66 rfl (lv_at hl 1 rfl) ?_
    refine lv_if_ne (tgt := 80) hx hb dX7_readsStep_67 (by decide) (fun c5 => ?_) (fun c5 => ?_)
    · rw [if_neg c5] at h
      exact t_X7_readsStep_80 C  n M1 x1 r M' h _ _ _ hP hS (lv_sub hl [0, 1] rfl)
    · rw [if_pos c5] at h
      refine lv_aload_n hx hb dX7_readsStep_70 rfl (lv_at hl 0 rfl) ?_
      refine xm_get (V := (xu E a)) (T := TX7) (v := .int (M1 0 20)) C hP 0 20 xi_7 rfl l_X7_158 rfl (Nat.le_of_ble_eq_true rfl) ((xf_0 E a) _) (Nat.le_of_ble_eq_true rfl) rfl dX7_readsStep_71 ?_
      refine lv_iconst (v := 4) hx hb dX7_readsStep_74 (by decide) ?_
      refine lv_icmp_ne (tgt := 80) hx hb dX7_readsStep_75 (by decide) (fun c6 => ?_) (fun c6 => ?_)
      · rw [if_neg c6] at h
        exact t_X7_readsStep_80 C  n M1 x1 r M' h _ _ _ hP hS (lv_sub hl [0, 1] rfl)
      · rw [if_pos c6] at h
        refine lv_iconst (v := 0) hx hb dX7_readsStep_78 (by decide) ?_
        obtain ⟨rfl, rfl⟩ := xm_pr h
        exact xm_retZ C hP hS (by rfl) dX7_readsStep_79
def f_X7_readsStep_29 (n : Nat) (M : xm_M) : Option (Int32 × xm_M) := f_X7_readsStep_55 n M 0
set_option maxHeartbeats 4000000 in
set_option maxRecDepth 100000 in
theorem t_X7_readsStep_29 {l : Launch} {p : Program} {e : Env} {s : State} {m : MethodId} {args : Array Value} {below : List Frame} {meth : Method} {c : Code} {E : xm_E} {a : Nat → Nat} (C : xm_C E (xu E a) p s m args meth c RX7 cX7_readsStep 2 (some .boolean)) (n : Nat) (M : xm_M) (r : Int32) (M' : xm_M) : f_X7_readsStep_29 n M = some (r, M') → ∀ (H : Heap) (locs : List Loc) (ls : Array Slot), va_P E.1 vwCl (xm_w (xu E a) M) H → va_S (xm_A (xu E a) s.heap.size) s.heap H locs → lv_has ls 2 [(0, .ref (a 0))] → W p l e { frames := 3, cells := 0, slots := 0, locals := 69 } s m args below meth c H locs 0 0 (MQ below (xm_Q E (xu E a) M' s.heap.size (some r)) args s 0 0 (xm_A (xu E a) s.heap.size)) (F0 m 29 ls []) := by
  have C9 := C
  obtain ⟨hx, hb, hml, hown, hts, hr, hlk, hD, hK, hS9⟩ := C9
  intro h H locs ls hP hS hl
  unfold f_X7_readsStep_29 at h
  refine lv_iconst (v := 0) hx hb dX7_readsStep_29 (by decide) ?_
  refine lv_istore_n (lv' := [(1, .int 0), (0, .ref (a 0))]) hx hb dX7_readsStep_30 rfl hl (by decide) rfl (fun ls hl => ?_)
  refine lv_iload_n hx hb dX7_readsStep_31 rfl (lv_at hl 0 rfl) ?_
  refine lv_if_eq (tgt := 55) hx hb dX7_readsStep_32 (by decide) (fun _ => ?_) (fun c => absurd (by decide) c)
  exact t_X7_readsStep_55 C  n M 0 r M' h _ _ _ hP hS (lv_sub hl [1, 0] rfl)
def f_X7_readsStep (n : Nat) (M : xm_M) : Option (Int32 × xm_M) := xm_ck (xm_in 2 11) (if (M 12 (2 : Int32).toNatClampNeg) ≤ 0 then f_X7_readsStep_29 n M else xm_b2 (f_X7_isBehindAbsent n M) (fun r4 M3 => if r4 = 0 then xm_b2 (f_X7_takes n M3 110) (fun r8 M7 => if r8 = 0 then f_X7_readsStep_29 n M7 else xm_b2 (f_X7_takes n M7 111) (fun r12 M11 => if r12 = 0 then some (0, M11) else xm_b2 (f_X7_takes n M11 32) (fun r16 M15 => if r16 = 0 then some (0, M15) else f_X7_readsStep_55 n M15 1))) else f_X7_readsStep_29 n M3))
set_option maxHeartbeats 4000000 in
set_option maxRecDepth 100000 in
theorem t_X7_readsStep_0 {l : Launch} {p : Program} {e : Env} {s : State} {m : MethodId} {args : Array Value} {below : List Frame} {meth : Method} {c : Code} {E : xm_E} {a : Nat → Nat} (C : xm_C E (xu E a) p s m args meth c RX7 cX7_readsStep 2 (some .boolean)) (n : Nat) (M : xm_M) (r : Int32) (M' : xm_M) : f_X7_readsStep n M = some (r, M') → ∀ (H : Heap) (locs : List Loc) (ls : Array Slot), va_P E.1 vwCl (xm_w (xu E a) M) H → va_S (xm_A (xu E a) s.heap.size) s.heap H locs → lv_has ls 2 [(0, .ref (a 0))] → W p l e { frames := 3, cells := 0, slots := 0, locals := 69 } s m args below meth c H locs 0 0 (MQ below (xm_Q E (xu E a) M' s.heap.size (some r)) args s 0 0 (xm_A (xu E a) s.heap.size)) (F0 m 0 ls []) := by
  have C9 := C
  obtain ⟨hx, hb, hml, hown, hts, hr, hlk, hD, hK, hS9⟩ := C9
  intro h H locs ls hP hS hl
  unfold f_X7_readsStep at h
  refine lv_aload_n hx hb dX7_readsStep_0 rfl (lv_at hl 0 rfl) ?_
  refine xm_get (V := (xu E a)) (T := TX7) (v := .ref (a 12)) C hP 0 19 xi_7 rfl l_X7_43 rfl (Nat.le_of_ble_eq_true rfl) ((xf_0 E a) _) (Nat.le_of_ble_eq_true rfl) rfl dX7_readsStep_1 ?_
  refine lv_iconst (v := 2) hx hb dX7_readsStep_4 (by decide) ?_
  obtain ⟨b1, h⟩ := xm_ck_s h
  refine xm_iald (V := (xu E a)) C hP 12 11 (Nat.le_of_ble_eq_true rfl) (xf_12 E a) b1 dX7_readsStep_5 ?_
  refine lv_if_le (tgt := 29) hx hb dX7_readsStep_6 (by decide) (fun c2 => ?_) (fun c2 => ?_)
  · rw [if_pos c2] at h
    exact t_X7_readsStep_29 C  n M  r M' h _ _ _ hP hS (lv_sub hl [0] rfl)
  · rw [if_neg c2] at h
    refine lv_aload_n hx hb dX7_readsStep_9 rfl (lv_at hl 0 rfl) ?_
    obtain ⟨r4, M3, e5, h⟩ := xm_b2_s h
    refine xm_callV C hP hS [] [] (c_X7_isBehindAbsent hD  n M  r4 M3 e5) k_X7_154 (xm_recv C hP 0 rfl (Nat.le_of_ble_eq_true rfl) ((xf_0 E a) _)) rfl rfl ⟨(Nat.le_of_ble_eq_true rfl), (Nat.le_of_ble_eq_true rfl)⟩ hl.1 (Nat.le_of_ble_eq_true rfl) ⟨Nat.zero_le _, Nat.zero_le _⟩ dX7_readsStep_10 (fun H locs hP hS => ?_)
    change W p l e _ s m _ below meth c H locs 0 0 _ (F0 m 13 ls [.int r4])
    refine lv_if_ne (tgt := 29) hx hb dX7_readsStep_13 (by decide) (fun c6 => ?_) (fun c6 => ?_)
    · rw [if_neg c6] at h
      exact t_X7_readsStep_29 C  n M3  r M' h _ _ _ hP hS (lv_sub hl [0] rfl)
    · rw [if_pos c6] at h
      refine lv_aload_n hx hb dX7_readsStep_16 rfl (lv_at hl 0 rfl) ?_
      refine lv_bipush (v := 110) hx hb dX7_readsStep_17 (by decide) ?_
      obtain ⟨r8, M7, e9, h⟩ := xm_b2_s h
      refine xm_callV C hP hS [.int 110] [] (c_X7_takes hD  n M3 110 r8 M7 e9) k_X7_143 (xm_recv C hP 0 rfl (Nat.le_of_ble_eq_true rfl) ((xf_0 E a) _)) rfl rfl ⟨(Nat.le_of_ble_eq_true rfl), (Nat.le_of_ble_eq_true rfl)⟩ hl.1 (Nat.le_of_ble_eq_true rfl) ⟨Nat.zero_le _, Nat.zero_le _⟩ dX7_readsStep_19 (fun H locs hP hS => ?_)
      change W p l e _ s m _ below meth c H locs 0 0 _ (F0 m 22 ls [.int r8])
      refine lv_if_eq (tgt := 29) hx hb dX7_readsStep_22 (by decide) (fun c10 => ?_) (fun c10 => ?_)
      · rw [if_pos c10] at h
        exact t_X7_readsStep_29 C  n M7  r M' h _ _ _ hP hS (lv_sub hl [0] rfl)
      · rw [if_neg c10] at h
        refine lv_iconst (v := 1) hx hb dX7_readsStep_25 (by decide) ?_
        refine lv_goto (tgt := 30) hx hb dX7_readsStep_26 (by decide) ?_
        refine lv_istore_n (lv' := [(1, .int 1), (0, .ref (a 0))]) hx hb dX7_readsStep_30 rfl hl (by decide) rfl (fun ls hl => ?_)
        refine lv_iload_n hx hb dX7_readsStep_31 rfl (lv_at hl 0 rfl) ?_
        refine lv_if_eq (tgt := 55) hx hb dX7_readsStep_32 (by decide) (fun c => absurd c (by decide)) (fun _ => ?_)
        refine lv_aload_n hx hb dX7_readsStep_35 rfl (lv_at hl 1 rfl) ?_
        refine lv_bipush (v := 111) hx hb dX7_readsStep_36 (by decide) ?_
        obtain ⟨r12, M11, e13, h⟩ := xm_b2_s h
        refine xm_callV C hP hS [.int 111] [] (c_X7_takes hD  n M7 111 r12 M11 e13) k_X7_143 (xm_recv C hP 0 rfl (Nat.le_of_ble_eq_true rfl) ((xf_0 E a) _)) rfl rfl ⟨(Nat.le_of_ble_eq_true rfl), (Nat.le_of_ble_eq_true rfl)⟩ hl.1 (Nat.le_of_ble_eq_true rfl) ⟨Nat.zero_le _, Nat.zero_le _⟩ dX7_readsStep_38 (fun H locs hP hS => ?_)
        change W p l e _ s m _ below meth c H locs 0 0 _ (F0 m 41 ls [.int r12])
        refine lv_if_eq (tgt := 53) hx hb dX7_readsStep_41 (by decide) (fun c14 => ?_) (fun c14 => ?_)
        · rw [if_pos c14] at h
          refine lv_iconst (v := 0) hx hb dX7_readsStep_53 (by decide) ?_
          obtain ⟨rfl, rfl⟩ := xm_pr h
          exact xm_retZ C hP hS (by rfl) dX7_readsStep_54
        · rw [if_neg c14] at h
          refine lv_aload_n hx hb dX7_readsStep_44 rfl (lv_at hl 1 rfl) ?_
          refine lv_bipush (v := 32) hx hb dX7_readsStep_45 (by decide) ?_
          obtain ⟨r16, M15, e17, h⟩ := xm_b2_s h
          refine xm_callV C hP hS [.int 32] [] (c_X7_takes hD  n M11 32 r16 M15 e17) k_X7_143 (xm_recv C hP 0 rfl (Nat.le_of_ble_eq_true rfl) ((xf_0 E a) _)) rfl rfl ⟨(Nat.le_of_ble_eq_true rfl), (Nat.le_of_ble_eq_true rfl)⟩ hl.1 (Nat.le_of_ble_eq_true rfl) ⟨Nat.zero_le _, Nat.zero_le _⟩ dX7_readsStep_47 (fun H locs hP hS => ?_)
          change W p l e _ s m _ below meth c H locs 0 0 _ (F0 m 50 ls [.int r16])
          refine lv_if_ne (tgt := 55) hx hb dX7_readsStep_50 (by decide) (fun c18 => ?_) (fun c18 => ?_)
          · rw [if_neg c18] at h
            exact t_X7_readsStep_55 C  n M15 1 r M' h _ _ _ hP hS (lv_sub hl [1, 0] rfl)
          · rw [if_pos c18] at h
            refine lv_iconst (v := 0) hx hb dX7_readsStep_53 (by decide) ?_
            obtain ⟨rfl, rfl⟩ := xm_pr h
            exact xm_retZ C hP hS (by rfl) dX7_readsStep_54
theorem c_X7_readsStep {l : Launch} {E : xm_E} {a : Nat → Nat} (hD : xm_D (xu E a)) (n : Nat) (M : xm_M) (r : Int32) (M' : xm_M) (h : f_X7_readsStep n M = some (r, M')) : xm_Met l E (xu E a) yX7_readsStep cX7_readsStep 2 (some .boolean) 3 69 [.ref (a 0)] M M' (some r) :=
  xm_met (by decide +kernel) rfl (Nat.le_of_ble_eq_true rfl) hD (fun p e s m below meth c C hP ls hl => t_X7_readsStep_0 C  n M r M' h _ _ _ hP va_S.rf hl)
def f_X7_fault_59 : Nat → xm_M → Int32 → Option (Int32 × xm_M)
  | 0, _, _ => none
  | n + 1, M, x1 => if x1 = 0 then if (M 0 18) < (M 0 17) then some (M 0 18, M) else if (M 0 20) < 2 then some (M 0 18, M) else xm_b2 (f_X7_isBehindAbsent n M) (fun r5 M4 => if r5 = 0 then some ((-5), M4) else some (M4 0 18, M4)) else xm_b2 (f_X7_readsStep n M) (fun r9 M8 => if r9 = 0 then some (M8 0 18, M8) else xm_b2 (f_X7_takes n M8 44) (fun r13 M12 => if r13 = 0 then f_X7_fault_59 n M12 r13 else xm_b2 (f_X7_takes n M12 32) (fun r17 M16 => if r17 = 0 then some (M16 0 18, M16) else f_X7_fault_59 n M16 r13)))
set_option maxHeartbeats 4000000 in
set_option maxRecDepth 100000 in
theorem t_X7_fault_59 {l : Launch} {p : Program} {e : Env} {s : State} {m : MethodId} {args : Array Value} {below : List Frame} {meth : Method} {c : Code} {E : xm_E} {a : Nat → Nat} (C : xm_C E (xu E a) p s m args meth c RX7 cX7_fault 2 (some .int)) : ∀ (n : Nat) (M : xm_M) (x1 : Int32) (r : Int32) (M' : xm_M), f_X7_fault_59 n M x1 = some (r, M') → ∀ (H : Heap) (locs : List Loc) (ls : Array Slot), va_P E.1 vwCl (xm_w (xu E a) M) H → va_S (xm_A (xu E a) s.heap.size) s.heap H locs → lv_has ls 2 [(0, .ref (a 0)), (1, .int x1)] → W p l e { frames := 5, cells := 0, slots := 0, locals := 114 } s m args below meth c H locs 0 0 (MQ below (xm_Q E (xu E a) M' s.heap.size (some r)) args s 0 0 (xm_A (xu E a) s.heap.size)) (F0 m 59 ls []) := by
  have C9 := C
  obtain ⟨hx, hb, hml, hown, hts, hr, hlk, hD, hK, hS9⟩ := C9
  intro n
  induction n with
  | zero =>
    intro M x1 r M' h
    cases h
  | succ n ih =>
    intro M x1 r M' h H locs ls hP hS hl
    rw [f_X7_fault_59] at h
    refine lv_iload_n hx hb dX7_fault_59 rfl (lv_at hl 1 rfl) ?_
    refine lv_if_eq (tgt := 100) hx hb dX7_fault_60 (by decide) (fun c1 => ?_) (fun c1 => ?_)
    · rw [if_pos c1] at h
      refine lv_aload_n hx hb dX7_fault_100 rfl (lv_at hl 0 rfl) ?_
      refine xm_get (V := (xu E a)) (T := TX7) (v := .int (M 0 18)) C hP 0 18 xi_7 rfl l_X7_135 rfl (Nat.le_of_ble_eq_true rfl) ((xf_0 E a) _) (Nat.le_of_ble_eq_true rfl) rfl dX7_fault_101 ?_
      refine lv_aload_n hx hb dX7_fault_104 rfl (lv_at hl 0 rfl) ?_
      refine xm_get (V := (xu E a)) (T := TX7) (v := .int (M 0 17)) C hP 0 17 xi_7 rfl l_X7_132 rfl (Nat.le_of_ble_eq_true rfl) ((xf_0 E a) _) (Nat.le_of_ble_eq_true rfl) rfl dX7_fault_105 ?_
      refine lv_icmp_lt (tgt := 126) hx hb dX7_fault_108 (by decide) (fun c2 => ?_) (fun c2 => ?_)
      · rw [if_pos c2] at h
        refine lv_aload_n hx hb dX7_fault_126 rfl (lv_at hl 0 rfl) ?_
        refine xm_get (V := (xu E a)) (T := TX7) (v := .int (M 0 18)) C hP 0 18 xi_7 rfl l_X7_135 rfl (Nat.le_of_ble_eq_true rfl) ((xf_0 E a) _) (Nat.le_of_ble_eq_true rfl) rfl dX7_fault_127 ?_
        refine lv_goto (tgt := 135) hx hb dX7_fault_130 (by decide) ?_
        obtain ⟨rfl, rfl⟩ := xm_pr h
        exact xm_retI C hP hS dX7_fault_135
      · rw [if_neg c2] at h
        refine lv_aload_n hx hb dX7_fault_111 rfl (lv_at hl 0 rfl) ?_
        refine xm_get (V := (xu E a)) (T := TX7) (v := .int (M 0 20)) C hP 0 20 xi_7 rfl l_X7_158 rfl (Nat.le_of_ble_eq_true rfl) ((xf_0 E a) _) (Nat.le_of_ble_eq_true rfl) rfl dX7_fault_112 ?_
        refine lv_iconst (v := 2) hx hb dX7_fault_115 (by decide) ?_
        refine lv_icmp_lt (tgt := 126) hx hb dX7_fault_116 (by decide) (fun c3 => ?_) (fun c3 => ?_)
        · rw [if_pos c3] at h
          refine lv_aload_n hx hb dX7_fault_126 rfl (lv_at hl 0 rfl) ?_
          refine xm_get (V := (xu E a)) (T := TX7) (v := .int (M 0 18)) C hP 0 18 xi_7 rfl l_X7_135 rfl (Nat.le_of_ble_eq_true rfl) ((xf_0 E a) _) (Nat.le_of_ble_eq_true rfl) rfl dX7_fault_127 ?_
          refine lv_goto (tgt := 135) hx hb dX7_fault_130 (by decide) ?_
          obtain ⟨rfl, rfl⟩ := xm_pr h
          exact xm_retI C hP hS dX7_fault_135
        · rw [if_neg c3] at h
          refine lv_aload_n hx hb dX7_fault_119 rfl (lv_at hl 0 rfl) ?_
          obtain ⟨r5, M4, e6, h⟩ := xm_b2_s h
          refine xm_callV C hP hS [] [] (c_X7_isBehindAbsent hD  n M  r5 M4 e6) k_X7_154 (xm_recv C hP 0 rfl (Nat.le_of_ble_eq_true rfl) ((xf_0 E a) _)) rfl rfl ⟨(Nat.le_of_ble_eq_true rfl), (Nat.le_of_ble_eq_true rfl)⟩ hl.1 (Nat.le_of_ble_eq_true rfl) ⟨Nat.zero_le _, Nat.zero_le _⟩ dX7_fault_120 (fun H locs hP hS => ?_)
          change W p l e _ s m _ below meth c H locs 0 0 _ (F0 m 123 ls [.int r5])
          refine lv_if_eq (tgt := 133) hx hb dX7_fault_123 (by decide) (fun c7 => ?_) (fun c7 => ?_)
          · rw [if_pos c7] at h
            refine lv_bipush (v := (-5)) hx hb dX7_fault_133 (by decide) ?_
            obtain ⟨rfl, rfl⟩ := xm_pr h
            exact xm_retI C hP hS dX7_fault_135
          · rw [if_neg c7] at h
            refine lv_aload_n hx hb dX7_fault_126 rfl (lv_at hl 0 rfl) ?_
            refine xm_get (V := (xu E a)) (T := TX7) (v := .int (M4 0 18)) C hP 0 18 xi_7 rfl l_X7_135 rfl (Nat.le_of_ble_eq_true rfl) ((xf_0 E a) _) (Nat.le_of_ble_eq_true rfl) rfl dX7_fault_127 ?_
            refine lv_goto (tgt := 135) hx hb dX7_fault_130 (by decide) ?_
            obtain ⟨rfl, rfl⟩ := xm_pr h
            exact xm_retI C hP hS dX7_fault_135
    · rw [if_neg c1] at h
      refine lv_aload_n hx hb dX7_fault_63 rfl (lv_at hl 0 rfl) ?_
      obtain ⟨r9, M8, e10, h⟩ := xm_b2_s h
      refine xm_callV C hP hS [] [] (c_X7_readsStep hD  n M  r9 M8 e10) k_X7_169 (xm_recv C hP 0 rfl (Nat.le_of_ble_eq_true rfl) ((xf_0 E a) _)) rfl rfl ⟨(Nat.le_of_ble_eq_true rfl), (Nat.le_of_ble_eq_true rfl)⟩ hl.1 (Nat.le_of_ble_eq_true rfl) ⟨Nat.zero_le _, Nat.zero_le _⟩ dX7_fault_64 (fun H locs hP hS => ?_)
      change W p l e _ s m _ below meth c H locs 0 0 _ (F0 m 67 ls [.int r9])
      refine lv_if_ne (tgt := 75) hx hb dX7_fault_67 (by decide) (fun c11 => ?_) (fun c11 => ?_)
      · rw [if_neg c11] at h
        refine lv_aload_n hx hb dX7_fault_75 rfl (lv_at hl 0 rfl) ?_
        refine lv_bipush (v := 44) hx hb dX7_fault_76 (by decide) ?_
        obtain ⟨r13, M12, e14, h⟩ := xm_b2_s h
        refine xm_callV C hP hS [.int 44] [] (c_X7_takes hD  n M8 44 r13 M12 e14) k_X7_143 (xm_recv C hP 0 rfl (Nat.le_of_ble_eq_true rfl) ((xf_0 E a) _)) rfl rfl ⟨(Nat.le_of_ble_eq_true rfl), (Nat.le_of_ble_eq_true rfl)⟩ hl.1 (Nat.le_of_ble_eq_true rfl) ⟨Nat.zero_le _, Nat.zero_le _⟩ dX7_fault_78 (fun H locs hP hS => ?_)
        change W p l e _ s m _ below meth c H locs 0 0 _ (F0 m 81 ls [.int r13])
        refine lv_istore_n (lv' := [(1, .int r13), (0, .ref (a 0))]) hx hb dX7_fault_81 rfl hl (by decide) rfl (fun ls hl => ?_)
        refine lv_iload_n hx hb dX7_fault_82 rfl (lv_at hl 0 rfl) ?_
        refine lv_if_eq (tgt := 59) hx hb dX7_fault_83 (by decide) (fun c15 => ?_) (fun c15 => ?_)
        · rw [if_pos c15] at h
          exact ih M12 r13 r M' h _ _ _ hP hS (lv_sub hl [1, 0] rfl)
        · rw [if_neg c15] at h
          refine lv_aload_n hx hb dX7_fault_86 rfl (lv_at hl 1 rfl) ?_
          refine lv_bipush (v := 32) hx hb dX7_fault_87 (by decide) ?_
          obtain ⟨r17, M16, e18, h⟩ := xm_b2_s h
          refine xm_callV C hP hS [.int 32] [] (c_X7_takes hD  n M12 32 r17 M16 e18) k_X7_143 (xm_recv C hP 0 rfl (Nat.le_of_ble_eq_true rfl) ((xf_0 E a) _)) rfl rfl ⟨(Nat.le_of_ble_eq_true rfl), (Nat.le_of_ble_eq_true rfl)⟩ hl.1 (Nat.le_of_ble_eq_true rfl) ⟨Nat.zero_le _, Nat.zero_le _⟩ dX7_fault_89 (fun H locs hP hS => ?_)
          change W p l e _ s m _ below meth c H locs 0 0 _ (F0 m 92 ls [.int r17])
          refine lv_if_ne (tgt := 59) hx hb dX7_fault_92 (by decide) (fun c19 => ?_) (fun c19 => ?_)
          · rw [if_neg c19] at h
            exact ih M16 r13 r M' h _ _ _ hP hS (lv_sub hl [1, 0] rfl)
          · rw [if_pos c19] at h
            refine lv_aload_n hx hb dX7_fault_95 rfl (lv_at hl 1 rfl) ?_
            refine xm_get (V := (xu E a)) (T := TX7) (v := .int (M16 0 18)) C hP 0 18 xi_7 rfl l_X7_135 rfl (Nat.le_of_ble_eq_true rfl) ((xf_0 E a) _) (Nat.le_of_ble_eq_true rfl) rfl dX7_fault_96 ?_
            obtain ⟨rfl, rfl⟩ := xm_pr h
            exact xm_retI C hP hS dX7_fault_99
      · rw [if_pos c11] at h
        refine lv_aload_n hx hb dX7_fault_70 rfl (lv_at hl 0 rfl) ?_
        refine xm_get (V := (xu E a)) (T := TX7) (v := .int (M8 0 18)) C hP 0 18 xi_7 rfl l_X7_135 rfl (Nat.le_of_ble_eq_true rfl) ((xf_0 E a) _) (Nat.le_of_ble_eq_true rfl) rfl dX7_fault_71 ?_
        obtain ⟨rfl, rfl⟩ := xm_pr h
        exact xm_retI C hP hS dX7_fault_74
def f_X7_fault (n : Nat) (M : xm_M) : Option (Int32 × xm_M) := xm_lt (xm_up M 0 18 0) (fun M1 => xm_ck (xm_in 2 11) (xm_lt (xm_up M1 12 (2 : Int32).toNatClampNeg 0) (fun M4 => xm_lt (xm_up M4 0 20 0) (fun M6 => xm_b2 (f_X7_takesWord n M6 33611470917430816 7) (fun r9 M8 => if r9 = 0 then some (M8 0 18, M8) else xm_b2 (f_X7_readsWindow n M8) (fun r13 M12 => if r13 = 0 then some (M12 0 18, M12) else xm_b2 (f_X7_takes n M12 32) (fun r17 M16 => if r17 = 0 then some (M16 0 18, M16) else xm_b2 (f_X7_readsRule n M16) (fun r21 M20 => if r21 = 0 then some (M20 0 18, M20) else f_X7_fault_59 n M20 1))))))))
set_option maxHeartbeats 4000000 in
set_option maxRecDepth 100000 in
theorem t_X7_fault_0 {l : Launch} {p : Program} {e : Env} {s : State} {m : MethodId} {args : Array Value} {below : List Frame} {meth : Method} {c : Code} {E : xm_E} {a : Nat → Nat} (C : xm_C E (xu E a) p s m args meth c RX7 cX7_fault 2 (some .int)) (n : Nat) (M : xm_M) (r : Int32) (M' : xm_M) : f_X7_fault n M = some (r, M') → ∀ (H : Heap) (locs : List Loc) (ls : Array Slot), va_P E.1 vwCl (xm_w (xu E a) M) H → va_S (xm_A (xu E a) s.heap.size) s.heap H locs → lv_has ls 2 [(0, .ref (a 0))] → W p l e { frames := 5, cells := 0, slots := 0, locals := 114 } s m args below meth c H locs 0 0 (MQ below (xm_Q E (xu E a) M' s.heap.size (some r)) args s 0 0 (xm_A (xu E a) s.heap.size)) (F0 m 0 ls []) := by
  have C9 := C
  obtain ⟨hx, hb, hml, hown, hts, hr, hlk, hD, hK, hS9⟩ := C9
  intro h H locs ls hP hS hl
  unfold f_X7_fault at h
  refine lv_aload_n hx hb dX7_fault_0 rfl (lv_at hl 0 rfl) ?_
  refine lv_iconst (v := 0) hx hb dX7_fault_1 (by decide) ?_
  obtain ⟨M1, e2, h⟩ := xm_lt_s h
  refine xm_put (V := (xu E a)) (T := TX7) (ty := .int) (x := 0) C hP hS 0 18 xi_7 rfl l_X7_135 rfl tyX7_ok nmX7 (Nat.le_of_ble_eq_true rfl) ((xf_0 E a) _) (Nat.le_of_ble_eq_true rfl) rfl (by decide +kernel) rfl rfl (Nat.le_of_ble_eq_true rfl) ((xf_0 E a) _) dX7_fault_2 (fun H locs hP hS => ?_)
  rw [← e2] at hP
  refine lv_aload_n hx hb dX7_fault_5 rfl (lv_at hl 0 rfl) ?_
  refine xm_get (V := (xu E a)) (T := TX7) (v := .ref (a 12)) C hP 0 19 xi_7 rfl l_X7_43 rfl (Nat.le_of_ble_eq_true rfl) ((xf_0 E a) _) (Nat.le_of_ble_eq_true rfl) rfl dX7_fault_6 ?_
  refine lv_iconst (v := 2) hx hb dX7_fault_9 (by decide) ?_
  refine lv_iconst (v := 0) hx hb dX7_fault_10 (by decide) ?_
  obtain ⟨b3, h⟩ := xm_ck_s h
  obtain ⟨M4, e5, h⟩ := xm_lt_s h
  refine xm_iast (V := (xu E a)) C hP hS 12 11 (Nat.le_of_ble_eq_true rfl) (xf_12 E a) b3 dX7_fault_11 (fun H locs hP hS => ?_)
  rw [← e5] at hP
  refine lv_aload_n hx hb dX7_fault_12 rfl (lv_at hl 0 rfl) ?_
  refine lv_iconst (v := 0) hx hb dX7_fault_13 (by decide) ?_
  obtain ⟨M6, e7, h⟩ := xm_lt_s h
  refine xm_put (V := (xu E a)) (T := TX7) (ty := .int) (x := 0) C hP hS 0 20 xi_7 rfl l_X7_158 rfl tyX7_ok nmX7 (Nat.le_of_ble_eq_true rfl) ((xf_0 E a) _) (Nat.le_of_ble_eq_true rfl) rfl (by decide +kernel) rfl rfl (Nat.le_of_ble_eq_true rfl) ((xf_0 E a) _) dX7_fault_14 (fun H locs hP hS => ?_)
  rw [← e7] at hP
  refine lv_aload_n hx hb dX7_fault_17 rfl (lv_at hl 0 rfl) ?_
  refine lv_ldc2 (v := 33611470917430816) hx hb hown (hts _ q_X7_161) dX7_fault_18 ?_
  refine lv_bipush (v := 7) hx hb dX7_fault_21 (by decide) ?_
  obtain ⟨r9, M8, e10, h⟩ := xm_b2_s h
  refine xm_callV C hP hS [.long 33611470917430816, .int 7] [] (c_X7_takesWord hD  n M6 33611470917430816 7 r9 M8 e10) k_X7_148 (xm_recv C hP 0 rfl (Nat.le_of_ble_eq_true rfl) ((xf_0 E a) _)) rfl rfl ⟨(Nat.le_of_ble_eq_true rfl), (Nat.le_of_ble_eq_true rfl)⟩ hl.1 (Nat.le_of_ble_eq_true rfl) ⟨Nat.zero_le _, Nat.zero_le _⟩ dX7_fault_23 (fun H locs hP hS => ?_)
  change W p l e _ s m _ below meth c H locs 0 0 _ (F0 m 26 ls [.int r9])
  refine lv_if_eq (tgt := 52) hx hb dX7_fault_26 (by decide) (fun c11 => ?_) (fun c11 => ?_)
  · rw [if_pos c11] at h
    refine lv_aload_n hx hb dX7_fault_52 rfl (lv_at hl 0 rfl) ?_
    refine xm_get (V := (xu E a)) (T := TX7) (v := .int (M8 0 18)) C hP 0 18 xi_7 rfl l_X7_135 rfl (Nat.le_of_ble_eq_true rfl) ((xf_0 E a) _) (Nat.le_of_ble_eq_true rfl) rfl dX7_fault_53 ?_
    obtain ⟨rfl, rfl⟩ := xm_pr h
    exact xm_retI C hP hS dX7_fault_56
  · rw [if_neg c11] at h
    refine lv_aload_n hx hb dX7_fault_29 rfl (lv_at hl 0 rfl) ?_
    obtain ⟨r13, M12, e14, h⟩ := xm_b2_s h
    refine xm_callV C hP hS [] [] (c_X7_readsWindow hD  n M8  r13 M12 e14) k_X7_163 (xm_recv C hP 0 rfl (Nat.le_of_ble_eq_true rfl) ((xf_0 E a) _)) rfl rfl ⟨(Nat.le_of_ble_eq_true rfl), (Nat.le_of_ble_eq_true rfl)⟩ hl.1 (Nat.le_of_ble_eq_true rfl) ⟨Nat.zero_le _, Nat.zero_le _⟩ dX7_fault_30 (fun H locs hP hS => ?_)
    change W p l e _ s m _ below meth c H locs 0 0 _ (F0 m 33 ls [.int r13])
    refine lv_if_eq (tgt := 52) hx hb dX7_fault_33 (by decide) (fun c15 => ?_) (fun c15 => ?_)
    · rw [if_pos c15] at h
      refine lv_aload_n hx hb dX7_fault_52 rfl (lv_at hl 0 rfl) ?_
      refine xm_get (V := (xu E a)) (T := TX7) (v := .int (M12 0 18)) C hP 0 18 xi_7 rfl l_X7_135 rfl (Nat.le_of_ble_eq_true rfl) ((xf_0 E a) _) (Nat.le_of_ble_eq_true rfl) rfl dX7_fault_53 ?_
      obtain ⟨rfl, rfl⟩ := xm_pr h
      exact xm_retI C hP hS dX7_fault_56
    · rw [if_neg c15] at h
      refine lv_aload_n hx hb dX7_fault_36 rfl (lv_at hl 0 rfl) ?_
      refine lv_bipush (v := 32) hx hb dX7_fault_37 (by decide) ?_
      obtain ⟨r17, M16, e18, h⟩ := xm_b2_s h
      refine xm_callV C hP hS [.int 32] [] (c_X7_takes hD  n M12 32 r17 M16 e18) k_X7_143 (xm_recv C hP 0 rfl (Nat.le_of_ble_eq_true rfl) ((xf_0 E a) _)) rfl rfl ⟨(Nat.le_of_ble_eq_true rfl), (Nat.le_of_ble_eq_true rfl)⟩ hl.1 (Nat.le_of_ble_eq_true rfl) ⟨Nat.zero_le _, Nat.zero_le _⟩ dX7_fault_39 (fun H locs hP hS => ?_)
      change W p l e _ s m _ below meth c H locs 0 0 _ (F0 m 42 ls [.int r17])
      refine lv_if_eq (tgt := 52) hx hb dX7_fault_42 (by decide) (fun c19 => ?_) (fun c19 => ?_)
      · rw [if_pos c19] at h
        refine lv_aload_n hx hb dX7_fault_52 rfl (lv_at hl 0 rfl) ?_
        refine xm_get (V := (xu E a)) (T := TX7) (v := .int (M16 0 18)) C hP 0 18 xi_7 rfl l_X7_135 rfl (Nat.le_of_ble_eq_true rfl) ((xf_0 E a) _) (Nat.le_of_ble_eq_true rfl) rfl dX7_fault_53 ?_
        obtain ⟨rfl, rfl⟩ := xm_pr h
        exact xm_retI C hP hS dX7_fault_56
      · rw [if_neg c19] at h
        refine lv_aload_n hx hb dX7_fault_45 rfl (lv_at hl 0 rfl) ?_
        obtain ⟨r21, M20, e22, h⟩ := xm_b2_s h
        refine xm_callV C hP hS [] [] (c_X7_readsRule hD  n M16  r21 M20 e22) k_X7_166 (xm_recv C hP 0 rfl (Nat.le_of_ble_eq_true rfl) ((xf_0 E a) _)) rfl rfl ⟨(Nat.le_of_ble_eq_true rfl), (Nat.le_of_ble_eq_true rfl)⟩ hl.1 (Nat.le_of_ble_eq_true rfl) ⟨Nat.zero_le _, Nat.zero_le _⟩ dX7_fault_46 (fun H locs hP hS => ?_)
        change W p l e _ s m _ below meth c H locs 0 0 _ (F0 m 49 ls [.int r21])
        refine lv_if_ne (tgt := 57) hx hb dX7_fault_49 (by decide) (fun c23 => ?_) (fun c23 => ?_)
        · rw [if_neg c23] at h
          refine lv_iconst (v := 1) hx hb dX7_fault_57 (by decide) ?_
          refine lv_istore_n (lv' := [(1, .int 1), (0, .ref (a 0))]) hx hb dX7_fault_58 rfl hl (by decide) rfl (fun ls hl => ?_)
          exact t_X7_fault_59 C  n M20 1 r M' h _ _ _ hP hS (lv_sub hl [1, 0] rfl)
        · rw [if_pos c23] at h
          refine lv_aload_n hx hb dX7_fault_52 rfl (lv_at hl 0 rfl) ?_
          refine xm_get (V := (xu E a)) (T := TX7) (v := .int (M20 0 18)) C hP 0 18 xi_7 rfl l_X7_135 rfl (Nat.le_of_ble_eq_true rfl) ((xf_0 E a) _) (Nat.le_of_ble_eq_true rfl) rfl dX7_fault_53 ?_
          obtain ⟨rfl, rfl⟩ := xm_pr h
          exact xm_retI C hP hS dX7_fault_56
theorem c_X7_fault {l : Launch} {E : xm_E} {a : Nat → Nat} (hD : xm_D (xu E a)) (n : Nat) (M : xm_M) (r : Int32) (M' : xm_M) (h : f_X7_fault n M = some (r, M')) : xm_Met l E (xu E a) yX7_fault cX7_fault 2 (some .int) 5 114 [.ref (a 0)] M M' (some r) :=
  xm_met (by decide +kernel) rfl (Nat.le_of_ble_eq_true rfl) hD (fun p e s m below meth c C hP ls hl => t_X7_fault_0 C  n M r M' h _ _ _ hP va_S.rf hl)
def f_X7_addPattern_35 : Nat → xm_M → Int32 → Option (Int32 × xm_M)
  | 0, _, _ => none
  | n + 1, M, x2 => if (10 : Int32) ≤ x2 then xm_ck (xm_in 3 119) (xm_ck (xm_in 3 119) (xm_lt (xm_up M 1 (3 : Int32).toNatClampNeg ((M 1 (3 : Int32).toNatClampNeg) + 1)) (fun M4 => xm_ck (xm_in 3 119) (xm_b2 (f_X7_acted n M4 ((M4 1 (3 : Int32).toNatClampNeg) - 1)) (fun r8 M7 => some (r8, M7)))))) else xm_ck (xm_in 3 119) (xm_ck (xm_in 2 11) (if (3 + (M 12 (2 : Int32).toNatClampNeg)) ≤ x2 then xm_ck (xm_in ((79 + (10 * (M 1 (3 : Int32).toNatClampNeg))) + x2) 119) (xm_lt (xm_up M 1 ((79 + (10 * (M 1 (3 : Int32).toNatClampNeg))) + x2).toNatClampNeg 0) (fun M14 => f_X7_addPattern_35 n M14 (x2 + 1))) else xm_ck (xm_in x2 11) (xm_ck (xm_in ((79 + (10 * (M 1 (3 : Int32).toNatClampNeg))) + x2) 119) (xm_lt (xm_up M 1 ((79 + (10 * (M 1 (3 : Int32).toNatClampNeg))) + x2).toNatClampNeg (M 12 x2.toNatClampNeg)) (fun M18 => f_X7_addPattern_35 n M18 (x2 + 1))))))
set_option maxHeartbeats 4000000 in
set_option maxRecDepth 100000 in
theorem t_X7_addPattern_35 {l : Launch} {p : Program} {e : Env} {s : State} {m : MethodId} {args : Array Value} {below : List Frame} {meth : Method} {c : Code} {E : xm_E} {a : Nat → Nat} (C : xm_C E (xu E a) p s m args meth c RX7 cX7_addPattern 3 (some .int)) : ∀ (n : Nat) (M : xm_M) (x2 : Int32) (r : Int32) (M' : xm_M), f_X7_addPattern_35 n M x2 = some (r, M') → ∀ (H : Heap) (locs : List Loc) (ls : Array Slot), va_P E.1 vwCl (xm_w (xu E a) M) H → va_S (xm_A (xu E a) s.heap.size) s.heap H locs → lv_has ls 3 [(0, .ref (a 0)), (2, .int x2)] → W p l e { frames := 6, cells := 0, slots := 0, locals := 135 } s m args below meth c H locs 0 0 (MQ below (xm_Q E (xu E a) M' s.heap.size (some r)) args s 0 0 (xm_A (xu E a) s.heap.size)) (F0 m 35 ls []) := by
  have C9 := C
  obtain ⟨hx, hb, hml, hown, hts, hr, hlk, hD, hK, hS9⟩ := C9
  intro n
  induction n with
  | zero =>
    intro M x2 r M' h
    cases h
  | succ n ih =>
    intro M x2 r M' h H locs ls hP hS hl
    rw [f_X7_addPattern_35] at h
    refine lv_iload_n hx hb dX7_addPattern_35 rfl (lv_at hl 1 rfl) ?_
    refine lv_bipush (v := 10) hx hb dX7_addPattern_36 (by decide) ?_
    refine lv_icmp_ge (tgt := 88) hx hb dX7_addPattern_38 (by decide) (fun c1 => ?_) (fun c1 => ?_)
    · rw [if_pos c1] at h
      refine lv_aload_n hx hb dX7_addPattern_88 rfl (lv_at hl 0 rfl) ?_
      refine xm_get (V := (xu E a)) (T := TX7) (v := .ref (a 1)) C hP 0 0 xi_7 rfl l_X7_7 rfl (Nat.le_of_ble_eq_true rfl) ((xf_0 E a) _) (Nat.le_of_ble_eq_true rfl) rfl dX7_addPattern_89 ?_
      refine lv_iconst (v := 3) hx hb dX7_addPattern_92 (by decide) ?_
      refine lv_dup2_11 hx hb dX7_addPattern_93 rfl rfl ?_
      obtain ⟨b2, h⟩ := xm_ck_s h
      refine xm_iald (V := (xu E a)) C hP 1 119 (Nat.le_of_ble_eq_true rfl) (xf_1 E a) b2 dX7_addPattern_94 ?_
      refine lv_iconst (v := 1) hx hb dX7_addPattern_95 (by decide) ?_
      refine lv_iadd hx hb dX7_addPattern_96 ?_
      obtain ⟨b3, h⟩ := xm_ck_s h
      obtain ⟨M4, e5, h⟩ := xm_lt_s h
      refine xm_iast (V := (xu E a)) C hP hS 1 119 (Nat.le_of_ble_eq_true rfl) (xf_1 E a) b3 dX7_addPattern_97 (fun H locs hP hS => ?_)
      rw [← e5] at hP
      refine lv_aload_n hx hb dX7_addPattern_98 rfl (lv_at hl 0 rfl) ?_
      refine lv_aload_n hx hb dX7_addPattern_99 rfl (lv_at hl 0 rfl) ?_
      refine xm_get (V := (xu E a)) (T := TX7) (v := .ref (a 1)) C hP 0 0 xi_7 rfl l_X7_7 rfl (Nat.le_of_ble_eq_true rfl) ((xf_0 E a) _) (Nat.le_of_ble_eq_true rfl) rfl dX7_addPattern_100 ?_
      refine lv_iconst (v := 3) hx hb dX7_addPattern_103 (by decide) ?_
      obtain ⟨b6, h⟩ := xm_ck_s h
      refine xm_iald (V := (xu E a)) C hP 1 119 (Nat.le_of_ble_eq_true rfl) (xf_1 E a) b6 dX7_addPattern_104 ?_
      refine lv_iconst (v := 1) hx hb dX7_addPattern_105 (by decide) ?_
      refine lv_isub hx hb dX7_addPattern_106 ?_
      obtain ⟨r8, M7, e9, h⟩ := xm_b2_s h
      refine xm_callV C hP hS [.int ((M4 1 (3 : Int32).toNatClampNeg) - 1)] [] (c_X7_acted hD  n M4 ((M4 1 (3 : Int32).toNatClampNeg) - 1) r8 M7 e9) k_X7_127 (xm_recv C hP 0 rfl (Nat.le_of_ble_eq_true rfl) ((xf_0 E a) _)) rfl rfl ⟨(Nat.le_of_ble_eq_true rfl), (Nat.le_of_ble_eq_true rfl)⟩ hl.1 (Nat.le_of_ble_eq_true rfl) ⟨Nat.zero_le _, Nat.zero_le _⟩ dX7_addPattern_107 (fun H locs hP hS => ?_)
      change W p l e _ s m _ below meth c H locs 0 0 _ (F0 m 110 ls [.int r8])
      obtain ⟨rfl, rfl⟩ := xm_pr h
      exact xm_retI C hP hS dX7_addPattern_110
    · rw [if_neg c1] at h
      refine lv_aload_n hx hb dX7_addPattern_41 rfl (lv_at hl 0 rfl) ?_
      refine xm_get (V := (xu E a)) (T := TX7) (v := .ref (a 1)) C hP 0 0 xi_7 rfl l_X7_7 rfl (Nat.le_of_ble_eq_true rfl) ((xf_0 E a) _) (Nat.le_of_ble_eq_true rfl) rfl dX7_addPattern_42 ?_
      refine lv_bipush (v := 79) hx hb dX7_addPattern_45 (by decide) ?_
      refine lv_bipush (v := 10) hx hb dX7_addPattern_47 (by decide) ?_
      refine lv_aload_n hx hb dX7_addPattern_49 rfl (lv_at hl 0 rfl) ?_
      refine xm_get (V := (xu E a)) (T := TX7) (v := .ref (a 1)) C hP 0 0 xi_7 rfl l_X7_7 rfl (Nat.le_of_ble_eq_true rfl) ((xf_0 E a) _) (Nat.le_of_ble_eq_true rfl) rfl dX7_addPattern_50 ?_
      refine lv_iconst (v := 3) hx hb dX7_addPattern_53 (by decide) ?_
      obtain ⟨b10, h⟩ := xm_ck_s h
      refine xm_iald (V := (xu E a)) C hP 1 119 (Nat.le_of_ble_eq_true rfl) (xf_1 E a) b10 dX7_addPattern_54 ?_
      refine lv_imul hx hb dX7_addPattern_55 ?_
      refine lv_iadd hx hb dX7_addPattern_56 ?_
      refine lv_iload_n hx hb dX7_addPattern_57 rfl (lv_at hl 1 rfl) ?_
      refine lv_iadd hx hb dX7_addPattern_58 ?_
      refine lv_iload_n hx hb dX7_addPattern_59 rfl (lv_at hl 1 rfl) ?_
      refine lv_iconst (v := 3) hx hb dX7_addPattern_60 (by decide) ?_
      refine lv_aload_n hx hb dX7_addPattern_61 rfl (lv_at hl 0 rfl) ?_
      refine xm_get (V := (xu E a)) (T := TX7) (v := .ref (a 12)) C hP 0 19 xi_7 rfl l_X7_43 rfl (Nat.le_of_ble_eq_true rfl) ((xf_0 E a) _) (Nat.le_of_ble_eq_true rfl) rfl dX7_addPattern_62 ?_
      refine lv_iconst (v := 2) hx hb dX7_addPattern_65 (by decide) ?_
      obtain ⟨b11, h⟩ := xm_ck_s h
      refine xm_iald (V := (xu E a)) C hP 12 11 (Nat.le_of_ble_eq_true rfl) (xf_12 E a) b11 dX7_addPattern_66 ?_
      refine lv_iadd hx hb dX7_addPattern_67 ?_
      refine lv_icmp_ge (tgt := 80) hx hb dX7_addPattern_68 (by decide) (fun c12 => ?_) (fun c12 => ?_)
      · rw [if_pos c12] at h
        refine lv_iconst (v := 0) hx hb dX7_addPattern_80 (by decide) ?_
        obtain ⟨b13, h⟩ := xm_ck_s h
        obtain ⟨M14, e15, h⟩ := xm_lt_s h
        refine xm_iast (V := (xu E a)) C hP hS 1 119 (Nat.le_of_ble_eq_true rfl) (xf_1 E a) b13 dX7_addPattern_81 (fun H locs hP hS => ?_)
        rw [← e15] at hP
        refine lv_iinc (v := x2 + 1) (lv' := [(2, .int (x2 + 1)), (0, .ref (a 0))]) hx hb dX7_addPattern_82 hl (k := 1) rfl (xm_add (by decide)) (by decide) rfl (fun ls hl => ?_)
        refine lv_goto (tgt := 35) hx hb dX7_addPattern_85 (by decide) ?_
        exact ih M14 (x2 + 1) r M' h _ _ _ hP hS (lv_sub hl [1, 0] rfl)
      · rw [if_neg c12] at h
        refine lv_aload_n hx hb dX7_addPattern_71 rfl (lv_at hl 0 rfl) ?_
        refine xm_get (V := (xu E a)) (T := TX7) (v := .ref (a 12)) C hP 0 19 xi_7 rfl l_X7_43 rfl (Nat.le_of_ble_eq_true rfl) ((xf_0 E a) _) (Nat.le_of_ble_eq_true rfl) rfl dX7_addPattern_72 ?_
        refine lv_iload_n hx hb dX7_addPattern_75 rfl (lv_at hl 1 rfl) ?_
        obtain ⟨b16, h⟩ := xm_ck_s h
        refine xm_iald (V := (xu E a)) C hP 12 11 (Nat.le_of_ble_eq_true rfl) (xf_12 E a) b16 dX7_addPattern_76 ?_
        refine lv_goto (tgt := 81) hx hb dX7_addPattern_77 (by decide) ?_
        obtain ⟨b17, h⟩ := xm_ck_s h
        obtain ⟨M18, e19, h⟩ := xm_lt_s h
        refine xm_iast (V := (xu E a)) C hP hS 1 119 (Nat.le_of_ble_eq_true rfl) (xf_1 E a) b17 dX7_addPattern_81 (fun H locs hP hS => ?_)
        rw [← e19] at hP
        refine lv_iinc (v := x2 + 1) (lv' := [(2, .int (x2 + 1)), (0, .ref (a 0))]) hx hb dX7_addPattern_82 hl (k := 1) rfl (xm_add (by decide)) (by decide) rfl (fun ls hl => ?_)
        refine lv_goto (tgt := 35) hx hb dX7_addPattern_85 (by decide) ?_
        exact ih M18 (x2 + 1) r M' h _ _ _ hP hS (lv_sub hl [1, 0] rfl)
def f_X7_addPattern (n : Nat) (M : xm_M) : Option (Int32 × xm_M) := xm_b2 (f_X7_fault n M) (fun r2 M1 => if r2 = ((-5)) then xm_ck (xm_in 3 119) (if (M1 1 (3 : Int32).toNatClampNeg) = 4 then some ((-3), M1) else xm_b1 (f_X7_remember n M1) (fun M7 => f_X7_addPattern_35 n M7 0)) else some (((-100)) - r2, M1))
set_option maxHeartbeats 4000000 in
set_option maxRecDepth 100000 in
theorem t_X7_addPattern_0 {l : Launch} {p : Program} {e : Env} {s : State} {m : MethodId} {args : Array Value} {below : List Frame} {meth : Method} {c : Code} {E : xm_E} {a : Nat → Nat} (C : xm_C E (xu E a) p s m args meth c RX7 cX7_addPattern 3 (some .int)) (n : Nat) (M : xm_M) (r : Int32) (M' : xm_M) : f_X7_addPattern n M = some (r, M') → ∀ (H : Heap) (locs : List Loc) (ls : Array Slot), va_P E.1 vwCl (xm_w (xu E a) M) H → va_S (xm_A (xu E a) s.heap.size) s.heap H locs → lv_has ls 3 [(0, .ref (a 0))] → W p l e { frames := 6, cells := 0, slots := 0, locals := 135 } s m args below meth c H locs 0 0 (MQ below (xm_Q E (xu E a) M' s.heap.size (some r)) args s 0 0 (xm_A (xu E a) s.heap.size)) (F0 m 0 ls []) := by
  have C9 := C
  obtain ⟨hx, hb, hml, hown, hts, hr, hlk, hD, hK, hS9⟩ := C9
  intro h H locs ls hP hS hl
  unfold f_X7_addPattern at h
  refine lv_aload_n hx hb dX7_addPattern_0 rfl (lv_at hl 0 rfl) ?_
  obtain ⟨r2, M1, e3, h⟩ := xm_b2_s h
  refine xm_callV C hP hS [] [] (c_X7_fault hD  n M  r2 M1 e3) k_X7_172 (xm_recv C hP 0 rfl (Nat.le_of_ble_eq_true rfl) ((xf_0 E a) _)) rfl rfl ⟨(Nat.le_of_ble_eq_true rfl), (Nat.le_of_ble_eq_true rfl)⟩ hl.1 (Nat.le_of_ble_eq_true rfl) ⟨Nat.zero_le _, Nat.zero_le _⟩ dX7_addPattern_1 (fun H locs hP hS => ?_)
  change W p l e _ s m _ below meth c H locs 0 0 _ (F0 m 4 ls [.int r2])
  refine lv_istore_n (lv' := [(1, .int r2), (0, .ref (a 0))]) hx hb dX7_addPattern_4 rfl hl (by decide) rfl (fun ls hl => ?_)
  refine lv_iload_n hx hb dX7_addPattern_5 rfl (lv_at hl 0 rfl) ?_
  refine lv_bipush (v := (-5)) hx hb dX7_addPattern_6 (by decide) ?_
  refine lv_icmp_eq (tgt := 16) hx hb dX7_addPattern_8 (by decide) (fun c4 => ?_) (fun c4 => ?_)
  · rw [if_pos c4] at h
    refine lv_aload_n hx hb dX7_addPattern_16 rfl (lv_at hl 1 rfl) ?_
    refine xm_get (V := (xu E a)) (T := TX7) (v := .ref (a 1)) C hP 0 0 xi_7 rfl l_X7_7 rfl (Nat.le_of_ble_eq_true rfl) ((xf_0 E a) _) (Nat.le_of_ble_eq_true rfl) rfl dX7_addPattern_17 ?_
    refine lv_iconst (v := 3) hx hb dX7_addPattern_20 (by decide) ?_
    obtain ⟨b5, h⟩ := xm_ck_s h
    refine xm_iald (V := (xu E a)) C hP 1 119 (Nat.le_of_ble_eq_true rfl) (xf_1 E a) b5 dX7_addPattern_21 ?_
    refine lv_iconst (v := 4) hx hb dX7_addPattern_22 (by decide) ?_
    refine lv_icmp_ne (tgt := 29) hx hb dX7_addPattern_23 (by decide) (fun c6 => ?_) (fun c6 => ?_)
    · rw [if_neg c6] at h
      refine lv_aload_n hx hb dX7_addPattern_29 rfl (lv_at hl 1 rfl) ?_
      obtain ⟨M7, e9, h⟩ := xm_b1_s h
      refine xm_callV C hP hS [] [] (c_X7_remember hD  n M1  M7 e9) k_X7_120 (xm_recv C hP 0 rfl (Nat.le_of_ble_eq_true rfl) ((xf_0 E a) _)) rfl rfl ⟨(Nat.le_of_ble_eq_true rfl), (Nat.le_of_ble_eq_true rfl)⟩ hl.1 (Nat.le_of_ble_eq_true rfl) ⟨Nat.zero_le _, Nat.zero_le _⟩ dX7_addPattern_30 (fun H locs hP hS => ?_)
      change W p l e _ s m _ below meth c H locs 0 0 _ (F0 m 33 ls [])
      refine lv_iconst (v := 0) hx hb dX7_addPattern_33 (by decide) ?_
      refine lv_istore_n (lv' := [(2, .int 0), (1, .int r2), (0, .ref (a 0))]) hx hb dX7_addPattern_34 rfl hl (by decide) rfl (fun ls hl => ?_)
      exact t_X7_addPattern_35 C  n M7 0 r M' h _ _ _ hP hS (lv_sub hl [2, 0] rfl)
    · rw [if_pos c6] at h
      refine lv_bipush (v := (-3)) hx hb dX7_addPattern_26 (by decide) ?_
      obtain ⟨rfl, rfl⟩ := xm_pr h
      exact xm_retI C hP hS dX7_addPattern_28
  · rw [if_neg c4] at h
    refine lv_bipush (v := (-100)) hx hb dX7_addPattern_11 (by decide) ?_
    refine lv_iload_n hx hb dX7_addPattern_13 rfl (lv_at hl 0 rfl) ?_
    refine lv_isub hx hb dX7_addPattern_14 ?_
    obtain ⟨rfl, rfl⟩ := xm_pr h
    exact xm_retI C hP hS dX7_addPattern_15
theorem c_X7_addPattern {l : Launch} {E : xm_E} {a : Nat → Nat} (hD : xm_D (xu E a)) (n : Nat) (M : xm_M) (r : Int32) (M' : xm_M) (h : f_X7_addPattern n M = some (r, M')) : xm_Met l E (xu E a) yX7_addPattern cX7_addPattern 3 (some .int) 6 135 [.ref (a 0)] M M' (some r) :=
  xm_met (by decide +kernel) rfl (Nat.le_of_ble_eq_true rfl) hD (fun p e s m below meth c C hP ls hl => t_X7_addPattern_0 C  n M r M' h _ _ _ hP va_S.rf hl)
def f_X7_dropPattern_32 : Nat → xm_M → Int32 → Option (Int32 × xm_M)
  | 0, _, _ => none
  | n + 1, M, x2 => xm_ck (xm_in 3 119) (if (79 + (10 * (M 1 (3 : Int32).toNatClampNeg))) ≤ x2 then xm_ck (xm_in 3 119) (xm_b2 (f_X7_acted n M (M 1 (3 : Int32).toNatClampNeg)) (fun r5 M4 => some (r5, M4))) else xm_ck (xm_in (x2 + 10) 119) (xm_ck (xm_in x2 119) (xm_lt (xm_up M 1 x2.toNatClampNeg (M 1 (x2 + 10).toNatClampNeg)) (fun M9 => f_X7_dropPattern_32 n M9 (x2 + 1)))))
set_option maxHeartbeats 4000000 in
set_option maxRecDepth 100000 in
theorem t_X7_dropPattern_32 {l : Launch} {p : Program} {e : Env} {s : State} {m : MethodId} {args : Array Value} {below : List Frame} {meth : Method} {c : Code} {E : xm_E} {a : Nat → Nat} (C : xm_C E (xu E a) p s m args meth c RX7 cX7_dropPattern 3 (some .int)) : ∀ (n : Nat) (M : xm_M) (x2 : Int32) (r : Int32) (M' : xm_M), f_X7_dropPattern_32 n M x2 = some (r, M') → ∀ (H : Heap) (locs : List Loc) (ls : Array Slot), va_P E.1 vwCl (xm_w (xu E a) M) H → va_S (xm_A (xu E a) s.heap.size) s.heap H locs → lv_has ls 3 [(0, .ref (a 0)), (2, .int x2)] → W p l e { frames := 2, cells := 0, slots := 0, locals := 46 } s m args below meth c H locs 0 0 (MQ below (xm_Q E (xu E a) M' s.heap.size (some r)) args s 0 0 (xm_A (xu E a) s.heap.size)) (F0 m 32 ls []) := by
  have C9 := C
  obtain ⟨hx, hb, hml, hown, hts, hr, hlk, hD, hK, hS9⟩ := C9
  intro n
  induction n with
  | zero =>
    intro M x2 r M' h
    cases h
  | succ n ih =>
    intro M x2 r M' h H locs ls hP hS hl
    rw [f_X7_dropPattern_32] at h
    refine lv_iload_n hx hb dX7_dropPattern_32 rfl (lv_at hl 1 rfl) ?_
    refine lv_bipush (v := 79) hx hb dX7_dropPattern_33 (by decide) ?_
    refine lv_bipush (v := 10) hx hb dX7_dropPattern_35 (by decide) ?_
    refine lv_aload_n hx hb dX7_dropPattern_37 rfl (lv_at hl 0 rfl) ?_
    refine xm_get (V := (xu E a)) (T := TX7) (v := .ref (a 1)) C hP 0 0 xi_7 rfl l_X7_7 rfl (Nat.le_of_ble_eq_true rfl) ((xf_0 E a) _) (Nat.le_of_ble_eq_true rfl) rfl dX7_dropPattern_38 ?_
    refine lv_iconst (v := 3) hx hb dX7_dropPattern_41 (by decide) ?_
    obtain ⟨b1, h⟩ := xm_ck_s h
    refine xm_iald (V := (xu E a)) C hP 1 119 (Nat.le_of_ble_eq_true rfl) (xf_1 E a) b1 dX7_dropPattern_42 ?_
    refine lv_imul hx hb dX7_dropPattern_43 ?_
    refine lv_iadd hx hb dX7_dropPattern_44 ?_
    refine lv_icmp_ge (tgt := 69) hx hb dX7_dropPattern_45 (by decide) (fun c2 => ?_) (fun c2 => ?_)
    · rw [if_pos c2] at h
      refine lv_aload_n hx hb dX7_dropPattern_69 rfl (lv_at hl 0 rfl) ?_
      refine lv_aload_n hx hb dX7_dropPattern_70 rfl (lv_at hl 0 rfl) ?_
      refine xm_get (V := (xu E a)) (T := TX7) (v := .ref (a 1)) C hP 0 0 xi_7 rfl l_X7_7 rfl (Nat.le_of_ble_eq_true rfl) ((xf_0 E a) _) (Nat.le_of_ble_eq_true rfl) rfl dX7_dropPattern_71 ?_
      refine lv_iconst (v := 3) hx hb dX7_dropPattern_74 (by decide) ?_
      obtain ⟨b3, h⟩ := xm_ck_s h
      refine xm_iald (V := (xu E a)) C hP 1 119 (Nat.le_of_ble_eq_true rfl) (xf_1 E a) b3 dX7_dropPattern_75 ?_
      obtain ⟨r5, M4, e6, h⟩ := xm_b2_s h
      refine xm_callV C hP hS [.int (M 1 (3 : Int32).toNatClampNeg)] [] (c_X7_acted hD  n M (M 1 (3 : Int32).toNatClampNeg) r5 M4 e6) k_X7_127 (xm_recv C hP 0 rfl (Nat.le_of_ble_eq_true rfl) ((xf_0 E a) _)) rfl rfl ⟨(Nat.le_of_ble_eq_true rfl), (Nat.le_of_ble_eq_true rfl)⟩ hl.1 (Nat.le_of_ble_eq_true rfl) ⟨Nat.zero_le _, Nat.zero_le _⟩ dX7_dropPattern_76 (fun H locs hP hS => ?_)
      change W p l e _ s m _ below meth c H locs 0 0 _ (F0 m 79 ls [.int r5])
      obtain ⟨rfl, rfl⟩ := xm_pr h
      exact xm_retI C hP hS dX7_dropPattern_79
    · rw [if_neg c2] at h
      refine lv_aload_n hx hb dX7_dropPattern_48 rfl (lv_at hl 0 rfl) ?_
      refine xm_get (V := (xu E a)) (T := TX7) (v := .ref (a 1)) C hP 0 0 xi_7 rfl l_X7_7 rfl (Nat.le_of_ble_eq_true rfl) ((xf_0 E a) _) (Nat.le_of_ble_eq_true rfl) rfl dX7_dropPattern_49 ?_
      refine lv_iload_n hx hb dX7_dropPattern_52 rfl (lv_at hl 1 rfl) ?_
      refine lv_aload_n hx hb dX7_dropPattern_53 rfl (lv_at hl 0 rfl) ?_
      refine xm_get (V := (xu E a)) (T := TX7) (v := .ref (a 1)) C hP 0 0 xi_7 rfl l_X7_7 rfl (Nat.le_of_ble_eq_true rfl) ((xf_0 E a) _) (Nat.le_of_ble_eq_true rfl) rfl dX7_dropPattern_54 ?_
      refine lv_iload_n hx hb dX7_dropPattern_57 rfl (lv_at hl 1 rfl) ?_
      refine lv_bipush (v := 10) hx hb dX7_dropPattern_58 (by decide) ?_
      refine lv_iadd hx hb dX7_dropPattern_60 ?_
      obtain ⟨b7, h⟩ := xm_ck_s h
      refine xm_iald (V := (xu E a)) C hP 1 119 (Nat.le_of_ble_eq_true rfl) (xf_1 E a) b7 dX7_dropPattern_61 ?_
      obtain ⟨b8, h⟩ := xm_ck_s h
      obtain ⟨M9, e10, h⟩ := xm_lt_s h
      refine xm_iast (V := (xu E a)) C hP hS 1 119 (Nat.le_of_ble_eq_true rfl) (xf_1 E a) b8 dX7_dropPattern_62 (fun H locs hP hS => ?_)
      rw [← e10] at hP
      refine lv_iinc (v := x2 + 1) (lv' := [(2, .int (x2 + 1)), (0, .ref (a 0))]) hx hb dX7_dropPattern_63 hl (k := 1) rfl (xm_add (by decide)) (by decide) rfl (fun ls hl => ?_)
      refine lv_goto (tgt := 32) hx hb dX7_dropPattern_66 (by decide) ?_
      exact ih M9 (x2 + 1) r M' h _ _ _ hP hS (lv_sub hl [1, 0] rfl)
def f_X7_dropPattern (n : Nat) (M : xm_M) (x1 : Int32) : Option (Int32 × xm_M) := xm_b2 (f_X7_isPattern n M x1) (fun r2 M1 => if r2 = 0 then some ((-1), M1) else xm_b1 (f_X7_remember n M1) (fun M5 => xm_ck (xm_in 3 119) (xm_ck (xm_in 3 119) (xm_lt (xm_up M5 1 (3 : Int32).toNatClampNeg ((M5 1 (3 : Int32).toNatClampNeg) - 1)) (fun M10 => f_X7_dropPattern_32 n M10 (79 + (10 * x1)))))))
set_option maxHeartbeats 4000000 in
set_option maxRecDepth 100000 in
theorem t_X7_dropPattern_0 {l : Launch} {p : Program} {e : Env} {s : State} {m : MethodId} {args : Array Value} {below : List Frame} {meth : Method} {c : Code} {E : xm_E} {a : Nat → Nat} (C : xm_C E (xu E a) p s m args meth c RX7 cX7_dropPattern 3 (some .int)) (n : Nat) (M : xm_M) (x1 : Int32) (r : Int32) (M' : xm_M) : f_X7_dropPattern n M x1 = some (r, M') → ∀ (H : Heap) (locs : List Loc) (ls : Array Slot), va_P E.1 vwCl (xm_w (xu E a) M) H → va_S (xm_A (xu E a) s.heap.size) s.heap H locs → lv_has ls 3 [(0, .ref (a 0)), (1, .int x1)] → W p l e { frames := 2, cells := 0, slots := 0, locals := 46 } s m args below meth c H locs 0 0 (MQ below (xm_Q E (xu E a) M' s.heap.size (some r)) args s 0 0 (xm_A (xu E a) s.heap.size)) (F0 m 0 ls []) := by
  have C9 := C
  obtain ⟨hx, hb, hml, hown, hts, hr, hlk, hD, hK, hS9⟩ := C9
  intro h H locs ls hP hS hl
  unfold f_X7_dropPattern at h
  refine lv_aload_n hx hb dX7_dropPattern_0 rfl (lv_at hl 0 rfl) ?_
  refine lv_iload_n hx hb dX7_dropPattern_1 rfl (lv_at hl 1 rfl) ?_
  obtain ⟨r2, M1, e3, h⟩ := xm_b2_s h
  refine xm_callV C hP hS [.int x1] [] (c_X7_isPattern hD  n M x1 r2 M1 e3) k_X7_175 (xm_recv C hP 0 rfl (Nat.le_of_ble_eq_true rfl) ((xf_0 E a) _)) rfl rfl ⟨(Nat.le_of_ble_eq_true rfl), (Nat.le_of_ble_eq_true rfl)⟩ hl.1 (Nat.le_of_ble_eq_true rfl) ⟨Nat.zero_le _, Nat.zero_le _⟩ dX7_dropPattern_2 (fun H locs hP hS => ?_)
  change W p l e _ s m _ below meth c H locs 0 0 _ (F0 m 5 ls [.int r2])
  refine lv_if_ne (tgt := 10) hx hb dX7_dropPattern_5 (by decide) (fun c4 => ?_) (fun c4 => ?_)
  · rw [if_neg c4] at h
    refine lv_aload_n hx hb dX7_dropPattern_10 rfl (lv_at hl 0 rfl) ?_
    obtain ⟨M5, e7, h⟩ := xm_b1_s h
    refine xm_callV C hP hS [] [] (c_X7_remember hD  n M1  M5 e7) k_X7_120 (xm_recv C hP 0 rfl (Nat.le_of_ble_eq_true rfl) ((xf_0 E a) _)) rfl rfl ⟨(Nat.le_of_ble_eq_true rfl), (Nat.le_of_ble_eq_true rfl)⟩ hl.1 (Nat.le_of_ble_eq_true rfl) ⟨Nat.zero_le _, Nat.zero_le _⟩ dX7_dropPattern_11 (fun H locs hP hS => ?_)
    change W p l e _ s m _ below meth c H locs 0 0 _ (F0 m 14 ls [])
    refine lv_aload_n hx hb dX7_dropPattern_14 rfl (lv_at hl 0 rfl) ?_
    refine xm_get (V := (xu E a)) (T := TX7) (v := .ref (a 1)) C hP 0 0 xi_7 rfl l_X7_7 rfl (Nat.le_of_ble_eq_true rfl) ((xf_0 E a) _) (Nat.le_of_ble_eq_true rfl) rfl dX7_dropPattern_15 ?_
    refine lv_iconst (v := 3) hx hb dX7_dropPattern_18 (by decide) ?_
    refine lv_dup2_11 hx hb dX7_dropPattern_19 rfl rfl ?_
    obtain ⟨b8, h⟩ := xm_ck_s h
    refine xm_iald (V := (xu E a)) C hP 1 119 (Nat.le_of_ble_eq_true rfl) (xf_1 E a) b8 dX7_dropPattern_20 ?_
    refine lv_iconst (v := 1) hx hb dX7_dropPattern_21 (by decide) ?_
    refine lv_isub hx hb dX7_dropPattern_22 ?_
    obtain ⟨b9, h⟩ := xm_ck_s h
    obtain ⟨M10, e11, h⟩ := xm_lt_s h
    refine xm_iast (V := (xu E a)) C hP hS 1 119 (Nat.le_of_ble_eq_true rfl) (xf_1 E a) b9 dX7_dropPattern_23 (fun H locs hP hS => ?_)
    rw [← e11] at hP
    refine lv_bipush (v := 79) hx hb dX7_dropPattern_24 (by decide) ?_
    refine lv_bipush (v := 10) hx hb dX7_dropPattern_26 (by decide) ?_
    refine lv_iload_n hx hb dX7_dropPattern_28 rfl (lv_at hl 1 rfl) ?_
    refine lv_imul hx hb dX7_dropPattern_29 ?_
    refine lv_iadd hx hb dX7_dropPattern_30 ?_
    refine lv_istore_n (lv' := [(2, .int (79 + (10 * x1))), (0, .ref (a 0)), (1, .int x1)]) hx hb dX7_dropPattern_31 rfl hl (by decide) rfl (fun ls hl => ?_)
    exact t_X7_dropPattern_32 C  n M10 (79 + (10 * x1)) r M' h _ _ _ hP hS (lv_sub hl [1, 0] rfl)
  · rw [if_pos c4] at h
    refine lv_iconst (v := (-1)) hx hb dX7_dropPattern_8 (by decide) ?_
    obtain ⟨rfl, rfl⟩ := xm_pr h
    exact xm_retI C hP hS dX7_dropPattern_9
theorem c_X7_dropPattern {l : Launch} {E : xm_E} {a : Nat → Nat} (hD : xm_D (xu E a)) (n : Nat) (M : xm_M) (x1 : Int32) (r : Int32) (M' : xm_M) (h : f_X7_dropPattern n M x1 = some (r, M')) : xm_Met l E (xu E a) yX7_dropPattern cX7_dropPattern 3 (some .int) 2 46 [.ref (a 0), .int x1] M M' (some r) :=
  xm_met (by decide +kernel) rfl (Nat.le_of_ble_eq_true rfl) hD (fun p e s m below meth c C hP ls hl => t_X7_dropPattern_0 C  n M x1 r M' h _ _ _ hP va_S.rf hl)
def f_X7_setWindow (n : Nat) (M : xm_M) (x1 : Int32) (x2 : Int32) : Option (Int32 × xm_M) := xm_b2 (f_X7_isPattern n M x1) (fun r2 M1 => if r2 = 0 then some ((-1), M1) else xm_b2 (f_X7_in n M1 x2.toInt64 1 1000) (fun r6 M5 => if r6 = 0 then some ((-2), M5) else xm_b2 (f_X7_ofPattern n M5 x1 0) (fun r10 M9 => if r10 = x2 then some ((-5), M9) else xm_b1 (f_X7_remember n M9) (fun M13 => xm_ck (xm_in ((79 + (10 * x1)) + 0) 119) (xm_lt (xm_up M13 1 ((79 + (10 * x1)) + 0).toNatClampNeg x2) (fun M17 => xm_b2 (f_X7_acted n M17 r10) (fun r20 M19 => some (r20, M19))))))))
set_option maxHeartbeats 4000000 in
set_option maxRecDepth 100000 in
theorem t_X7_setWindow_0 {l : Launch} {p : Program} {e : Env} {s : State} {m : MethodId} {args : Array Value} {below : List Frame} {meth : Method} {c : Code} {E : xm_E} {a : Nat → Nat} (C : xm_C E (xu E a) p s m args meth c RX7 cX7_setWindow 4 (some .int)) (n : Nat) (M : xm_M) (x1 : Int32) (x2 : Int32) (r : Int32) (M' : xm_M) : f_X7_setWindow n M x1 x2 = some (r, M') → ∀ (H : Heap) (locs : List Loc) (ls : Array Slot), va_P E.1 vwCl (xm_w (xu E a) M) H → va_S (xm_A (xu E a) s.heap.size) s.heap H locs → lv_has ls 4 [(0, .ref (a 0)), (1, .int x1), (2, .int x2)] → W p l e { frames := 2, cells := 0, slots := 0, locals := 46 } s m args below meth c H locs 0 0 (MQ below (xm_Q E (xu E a) M' s.heap.size (some r)) args s 0 0 (xm_A (xu E a) s.heap.size)) (F0 m 0 ls []) := by
  have C9 := C
  obtain ⟨hx, hb, hml, hown, hts, hr, hlk, hD, hK, hS9⟩ := C9
  intro h H locs ls hP hS hl
  unfold f_X7_setWindow at h
  refine lv_aload_n hx hb dX7_setWindow_0 rfl (lv_at hl 0 rfl) ?_
  refine lv_iload_n hx hb dX7_setWindow_1 rfl (lv_at hl 1 rfl) ?_
  obtain ⟨r2, M1, e3, h⟩ := xm_b2_s h
  refine xm_callV C hP hS [.int x1] [] (c_X7_isPattern hD  n M x1 r2 M1 e3) k_X7_175 (xm_recv C hP 0 rfl (Nat.le_of_ble_eq_true rfl) ((xf_0 E a) _)) rfl rfl ⟨(Nat.le_of_ble_eq_true rfl), (Nat.le_of_ble_eq_true rfl)⟩ hl.1 (Nat.le_of_ble_eq_true rfl) ⟨Nat.zero_le _, Nat.zero_le _⟩ dX7_setWindow_2 (fun H locs hP hS => ?_)
  change W p l e _ s m _ below meth c H locs 0 0 _ (F0 m 5 ls [.int r2])
  refine lv_if_ne (tgt := 10) hx hb dX7_setWindow_5 (by decide) (fun c4 => ?_) (fun c4 => ?_)
  · rw [if_neg c4] at h
    refine lv_iload_n hx hb dX7_setWindow_10 rfl (lv_at hl 2 rfl) ?_
    refine lv_i2l (v := x2.toInt64) hx hb dX7_setWindow_11 rfl ?_
    refine lv_lconst (v := 1) hx hb dX7_setWindow_12 (by decide) ?_
    refine lv_ldc2 (v := 1000) hx hb hown (hts _ q_X7_178) dX7_setWindow_13 ?_
    obtain ⟨r6, M5, e7, h⟩ := xm_b2_s h
    refine xm_callS C hP hS [.long x2.toInt64, .long 1, .long 1000] [] (c_X7_in hD  n M1 x2.toInt64 1 1000 r6 M5 e7) k_X7_50  rfl rfl ⟨(Nat.le_of_ble_eq_true rfl), (Nat.le_of_ble_eq_true rfl)⟩ hl.1 (Nat.le_of_ble_eq_true rfl) ⟨Nat.zero_le _, Nat.zero_le _⟩ dX7_setWindow_16 (fun H locs hP hS => ?_)
    change W p l e _ s m _ below meth c H locs 0 0 _ (F0 m 19 ls [.int r6])
    refine lv_if_ne (tgt := 25) hx hb dX7_setWindow_19 (by decide) (fun c8 => ?_) (fun c8 => ?_)
    · rw [if_neg c8] at h
      refine lv_aload_n hx hb dX7_setWindow_25 rfl (lv_at hl 0 rfl) ?_
      refine lv_iload_n hx hb dX7_setWindow_26 rfl (lv_at hl 1 rfl) ?_
      refine lv_iconst (v := 0) hx hb dX7_setWindow_27 (by decide) ?_
      obtain ⟨r10, M9, e11, h⟩ := xm_b2_s h
      refine xm_callV C hP hS [.int x1, .int 0] [] (c_X7_ofPattern hD  n M5 x1 0 r10 M9 e11) k_X7_66 (xm_recv C hP 0 rfl (Nat.le_of_ble_eq_true rfl) ((xf_0 E a) _)) rfl rfl ⟨(Nat.le_of_ble_eq_true rfl), (Nat.le_of_ble_eq_true rfl)⟩ hl.1 (Nat.le_of_ble_eq_true rfl) ⟨Nat.zero_le _, Nat.zero_le _⟩ dX7_setWindow_28 (fun H locs hP hS => ?_)
      change W p l e _ s m _ below meth c H locs 0 0 _ (F0 m 31 ls [.int r10])
      refine lv_istore_n (lv' := [(3, .int r10), (0, .ref (a 0)), (1, .int x1), (2, .int x2)]) hx hb dX7_setWindow_31 rfl hl (by decide) rfl (fun ls hl => ?_)
      refine lv_iload_n hx hb dX7_setWindow_32 rfl (lv_at hl 0 rfl) ?_
      refine lv_iload_n hx hb dX7_setWindow_33 rfl (lv_at hl 3 rfl) ?_
      refine lv_icmp_ne (tgt := 40) hx hb dX7_setWindow_34 (by decide) (fun c12 => ?_) (fun c12 => ?_)
      · rw [if_neg c12] at h
        refine lv_aload_n hx hb dX7_setWindow_40 rfl (lv_at hl 1 rfl) ?_
        obtain ⟨M13, e15, h⟩ := xm_b1_s h
        refine xm_callV C hP hS [] [] (c_X7_remember hD  n M9  M13 e15) k_X7_120 (xm_recv C hP 0 rfl (Nat.le_of_ble_eq_true rfl) ((xf_0 E a) _)) rfl rfl ⟨(Nat.le_of_ble_eq_true rfl), (Nat.le_of_ble_eq_true rfl)⟩ hl.1 (Nat.le_of_ble_eq_true rfl) ⟨Nat.zero_le _, Nat.zero_le _⟩ dX7_setWindow_41 (fun H locs hP hS => ?_)
        change W p l e _ s m _ below meth c H locs 0 0 _ (F0 m 44 ls [])
        refine lv_aload_n hx hb dX7_setWindow_44 rfl (lv_at hl 1 rfl) ?_
        refine xm_get (V := (xu E a)) (T := TX7) (v := .ref (a 1)) C hP 0 0 xi_7 rfl l_X7_7 rfl (Nat.le_of_ble_eq_true rfl) ((xf_0 E a) _) (Nat.le_of_ble_eq_true rfl) rfl dX7_setWindow_45 ?_
        refine lv_bipush (v := 79) hx hb dX7_setWindow_48 (by decide) ?_
        refine lv_bipush (v := 10) hx hb dX7_setWindow_50 (by decide) ?_
        refine lv_iload_n hx hb dX7_setWindow_52 rfl (lv_at hl 2 rfl) ?_
        refine lv_imul hx hb dX7_setWindow_53 ?_
        refine lv_iadd hx hb dX7_setWindow_54 ?_
        refine lv_iconst (v := 0) hx hb dX7_setWindow_55 (by decide) ?_
        refine lv_iadd hx hb dX7_setWindow_56 ?_
        refine lv_iload_n hx hb dX7_setWindow_57 rfl (lv_at hl 3 rfl) ?_
        obtain ⟨b16, h⟩ := xm_ck_s h
        obtain ⟨M17, e18, h⟩ := xm_lt_s h
        refine xm_iast (V := (xu E a)) C hP hS 1 119 (Nat.le_of_ble_eq_true rfl) (xf_1 E a) b16 dX7_setWindow_58 (fun H locs hP hS => ?_)
        rw [← e18] at hP
        refine lv_aload_n hx hb dX7_setWindow_59 rfl (lv_at hl 1 rfl) ?_
        refine lv_iload_n hx hb dX7_setWindow_60 rfl (lv_at hl 0 rfl) ?_
        obtain ⟨r20, M19, e21, h⟩ := xm_b2_s h
        refine xm_callV C hP hS [.int r10] [] (c_X7_acted hD  n M17 r10 r20 M19 e21) k_X7_127 (xm_recv C hP 0 rfl (Nat.le_of_ble_eq_true rfl) ((xf_0 E a) _)) rfl rfl ⟨(Nat.le_of_ble_eq_true rfl), (Nat.le_of_ble_eq_true rfl)⟩ hl.1 (Nat.le_of_ble_eq_true rfl) ⟨Nat.zero_le _, Nat.zero_le _⟩ dX7_setWindow_61 (fun H locs hP hS => ?_)
        change W p l e _ s m _ below meth c H locs 0 0 _ (F0 m 64 ls [.int r20])
        obtain ⟨rfl, rfl⟩ := xm_pr h
        exact xm_retI C hP hS dX7_setWindow_64
      · rw [if_pos c12] at h
        refine lv_bipush (v := (-5)) hx hb dX7_setWindow_37 (by decide) ?_
        obtain ⟨rfl, rfl⟩ := xm_pr h
        exact xm_retI C hP hS dX7_setWindow_39
    · rw [if_pos c8] at h
      refine lv_bipush (v := (-2)) hx hb dX7_setWindow_22 (by decide) ?_
      obtain ⟨rfl, rfl⟩ := xm_pr h
      exact xm_retI C hP hS dX7_setWindow_24
  · rw [if_pos c4] at h
    refine lv_iconst (v := (-1)) hx hb dX7_setWindow_8 (by decide) ?_
    obtain ⟨rfl, rfl⟩ := xm_pr h
    exact xm_retI C hP hS dX7_setWindow_9
theorem c_X7_setWindow {l : Launch} {E : xm_E} {a : Nat → Nat} (hD : xm_D (xu E a)) (n : Nat) (M : xm_M) (x1 : Int32) (x2 : Int32) (r : Int32) (M' : xm_M) (h : f_X7_setWindow n M x1 x2 = some (r, M')) : xm_Met l E (xu E a) yX7_setWindow cX7_setWindow 4 (some .int) 2 46 [.ref (a 0), .int x1, .int x2] M M' (some r) :=
  xm_met (by decide +kernel) rfl (Nat.le_of_ble_eq_true rfl) hD (fun p e s m below meth c C hP ls hl => t_X7_setWindow_0 C  n M x1 x2 r M' h _ _ _ hP va_S.rf hl)
def f_X7_undo_22 : Nat → xm_M → Int32 → Option (Int32 × xm_M)
  | 0, _, _ => none
  | n + 1, M, x1 => if (119 : Int32) ≤ x1 then some (M 0 3, M) else xm_ck (xm_in ((119 * (M 0 3)) + x1) 476) (xm_ck (xm_in x1 119) (xm_lt (xm_up M 1 x1.toNatClampNeg (M 3 ((119 * (M 0 3)) + x1).toNatClampNeg)) (fun M4 => f_X7_undo_22 n M4 (x1 + 1))))
set_option maxHeartbeats 4000000 in
set_option maxRecDepth 100000 in
theorem t_X7_undo_22 {l : Launch} {p : Program} {e : Env} {s : State} {m : MethodId} {args : Array Value} {below : List Frame} {meth : Method} {c : Code} {E : xm_E} {a : Nat → Nat} (C : xm_C E (xu E a) p s m args meth c RX7 cX7_undo 2 (some .int)) : ∀ (n : Nat) (M : xm_M) (x1 : Int32) (r : Int32) (M' : xm_M), f_X7_undo_22 n M x1 = some (r, M') → ∀ (H : Heap) (locs : List Loc) (ls : Array Slot), va_P E.1 vwCl (xm_w (xu E a) M) H → va_S (xm_A (xu E a) s.heap.size) s.heap H locs → lv_has ls 2 [(0, .ref (a 0)), (1, .int x1)] → W p l e { frames := 0, cells := 0, slots := 0, locals := 0 } s m args below meth c H locs 0 0 (MQ below (xm_Q E (xu E a) M' s.heap.size (some r)) args s 0 0 (xm_A (xu E a) s.heap.size)) (F0 m 22 ls []) := by
  have C9 := C
  obtain ⟨hx, hb, hml, hown, hts, hr, hlk, hD, hK, hS9⟩ := C9
  intro n
  induction n with
  | zero =>
    intro M x1 r M' h
    cases h
  | succ n ih =>
    intro M x1 r M' h H locs ls hP hS hl
    rw [f_X7_undo_22] at h
    refine lv_iload_n hx hb dX7_undo_22 rfl (lv_at hl 1 rfl) ?_
    refine lv_bipush (v := 119) hx hb dX7_undo_23 (by decide) ?_
    refine lv_icmp_ge (tgt := 54) hx hb dX7_undo_25 (by decide) (fun c1 => ?_) (fun c1 => ?_)
    · rw [if_pos c1] at h
      refine lv_aload_n hx hb dX7_undo_54 rfl (lv_at hl 0 rfl) ?_
      refine xm_get (V := (xu E a)) (T := TX7) (v := .int (M 0 3)) C hP 0 3 xi_7 rfl l_X7_46 rfl (Nat.le_of_ble_eq_true rfl) ((xf_0 E a) _) (Nat.le_of_ble_eq_true rfl) rfl dX7_undo_55 ?_
      obtain ⟨rfl, rfl⟩ := xm_pr h
      exact xm_retI C hP hS dX7_undo_58
    · rw [if_neg c1] at h
      refine lv_aload_n hx hb dX7_undo_28 rfl (lv_at hl 0 rfl) ?_
      refine xm_get (V := (xu E a)) (T := TX7) (v := .ref (a 1)) C hP 0 0 xi_7 rfl l_X7_7 rfl (Nat.le_of_ble_eq_true rfl) ((xf_0 E a) _) (Nat.le_of_ble_eq_true rfl) rfl dX7_undo_29 ?_
      refine lv_iload_n hx hb dX7_undo_32 rfl (lv_at hl 1 rfl) ?_
      refine lv_aload_n hx hb dX7_undo_33 rfl (lv_at hl 0 rfl) ?_
      refine xm_get (V := (xu E a)) (T := TX7) (v := .ref (a 3)) C hP 0 2 xi_7 rfl l_X7_16 rfl (Nat.le_of_ble_eq_true rfl) ((xf_0 E a) _) (Nat.le_of_ble_eq_true rfl) rfl dX7_undo_34 ?_
      refine lv_bipush (v := 119) hx hb dX7_undo_37 (by decide) ?_
      refine lv_aload_n hx hb dX7_undo_39 rfl (lv_at hl 0 rfl) ?_
      refine xm_get (V := (xu E a)) (T := TX7) (v := .int (M 0 3)) C hP 0 3 xi_7 rfl l_X7_46 rfl (Nat.le_of_ble_eq_true rfl) ((xf_0 E a) _) (Nat.le_of_ble_eq_true rfl) rfl dX7_undo_40 ?_
      refine lv_imul hx hb dX7_undo_43 ?_
      refine lv_iload_n hx hb dX7_undo_44 rfl (lv_at hl 1 rfl) ?_
      refine lv_iadd hx hb dX7_undo_45 ?_
      obtain ⟨b2, h⟩ := xm_ck_s h
      refine xm_iald (V := (xu E a)) C hP 3 476 (Nat.le_of_ble_eq_true rfl) (xf_3 E a) b2 dX7_undo_46 ?_
      obtain ⟨b3, h⟩ := xm_ck_s h
      obtain ⟨M4, e5, h⟩ := xm_lt_s h
      refine xm_iast (V := (xu E a)) C hP hS 1 119 (Nat.le_of_ble_eq_true rfl) (xf_1 E a) b3 dX7_undo_47 (fun H locs hP hS => ?_)
      rw [← e5] at hP
      refine lv_iinc (v := x1 + 1) (lv' := [(1, .int (x1 + 1)), (0, .ref (a 0))]) hx hb dX7_undo_48 hl (k := 1) rfl (xm_add (by decide)) (by decide) rfl (fun ls hl => ?_)
      refine lv_goto (tgt := 22) hx hb dX7_undo_51 (by decide) ?_
      exact ih M4 (x1 + 1) r M' h _ _ _ hP hS (lv_sub hl [1, 0] rfl)
def f_X7_undo (n : Nat) (M : xm_M) : Option (Int32 × xm_M) := if (M 0 3) = 0 then some ((-5), M) else xm_lt (xm_up M 0 3 ((M 0 3) - 1)) (fun M2 => f_X7_undo_22 n M2 0)
set_option maxHeartbeats 4000000 in
set_option maxRecDepth 100000 in
theorem t_X7_undo_0 {l : Launch} {p : Program} {e : Env} {s : State} {m : MethodId} {args : Array Value} {below : List Frame} {meth : Method} {c : Code} {E : xm_E} {a : Nat → Nat} (C : xm_C E (xu E a) p s m args meth c RX7 cX7_undo 2 (some .int)) (n : Nat) (M : xm_M) (r : Int32) (M' : xm_M) : f_X7_undo n M = some (r, M') → ∀ (H : Heap) (locs : List Loc) (ls : Array Slot), va_P E.1 vwCl (xm_w (xu E a) M) H → va_S (xm_A (xu E a) s.heap.size) s.heap H locs → lv_has ls 2 [(0, .ref (a 0))] → W p l e { frames := 0, cells := 0, slots := 0, locals := 0 } s m args below meth c H locs 0 0 (MQ below (xm_Q E (xu E a) M' s.heap.size (some r)) args s 0 0 (xm_A (xu E a) s.heap.size)) (F0 m 0 ls []) := by
  have C9 := C
  obtain ⟨hx, hb, hml, hown, hts, hr, hlk, hD, hK, hS9⟩ := C9
  intro h H locs ls hP hS hl
  unfold f_X7_undo at h
  refine lv_aload_n hx hb dX7_undo_0 rfl (lv_at hl 0 rfl) ?_
  refine xm_get (V := (xu E a)) (T := TX7) (v := .int (M 0 3)) C hP 0 3 xi_7 rfl l_X7_46 rfl (Nat.le_of_ble_eq_true rfl) ((xf_0 E a) _) (Nat.le_of_ble_eq_true rfl) rfl dX7_undo_1 ?_
  refine lv_if_ne (tgt := 10) hx hb dX7_undo_4 (by decide) (fun c1 => ?_) (fun c1 => ?_)
  · rw [if_neg c1] at h
    refine lv_aload_n hx hb dX7_undo_10 rfl (lv_at hl 0 rfl) ?_
    refine lv_dup hx hb dX7_undo_11 rfl ?_
    refine xm_get (V := (xu E a)) (T := TX7) (v := .int (M 0 3)) C hP 0 3 xi_7 rfl l_X7_46 rfl (Nat.le_of_ble_eq_true rfl) ((xf_0 E a) _) (Nat.le_of_ble_eq_true rfl) rfl dX7_undo_12 ?_
    refine lv_iconst (v := 1) hx hb dX7_undo_15 (by decide) ?_
    refine lv_isub hx hb dX7_undo_16 ?_
    obtain ⟨M2, e3, h⟩ := xm_lt_s h
    refine xm_put (V := (xu E a)) (T := TX7) (ty := .int) (x := (M 0 3) - 1) C hP hS 0 3 xi_7 rfl l_X7_46 rfl tyX7_ok nmX7 (Nat.le_of_ble_eq_true rfl) ((xf_0 E a) _) (Nat.le_of_ble_eq_true rfl) rfl (by decide +kernel) rfl rfl (Nat.le_of_ble_eq_true rfl) ((xf_0 E a) _) dX7_undo_17 (fun H locs hP hS => ?_)
    rw [← e3] at hP
    refine lv_iconst (v := 0) hx hb dX7_undo_20 (by decide) ?_
    refine lv_istore_n (lv' := [(1, .int 0), (0, .ref (a 0))]) hx hb dX7_undo_21 rfl hl (by decide) rfl (fun ls hl => ?_)
    exact t_X7_undo_22 C  n M2 0 r M' h _ _ _ hP hS (lv_sub hl [1, 0] rfl)
  · rw [if_pos c1] at h
    refine lv_bipush (v := (-5)) hx hb dX7_undo_7 (by decide) ?_
    obtain ⟨rfl, rfl⟩ := xm_pr h
    exact xm_retI C hP hS dX7_undo_9
theorem c_X7_undo {l : Launch} {E : xm_E} {a : Nat → Nat} (hD : xm_D (xu E a)) (n : Nat) (M : xm_M) (r : Int32) (M' : xm_M) (h : f_X7_undo n M = some (r, M')) : xm_Met l E (xu E a) yX7_undo cX7_undo 2 (some .int) 0 0 [.ref (a 0)] M M' (some r) :=
  xm_met (by decide +kernel) rfl (Nat.le_of_ble_eq_true rfl) hD (fun p e s m below meth c C hP ls hl => t_X7_undo_0 C  n M r M' h _ _ _ hP va_S.rf hl)
def f_X7_keep_2 : Nat → xm_M → Int32 → Option (Int32 × xm_M)
  | 0, _, _ => none
  | n + 1, M, x1 => if (119 : Int32) ≤ x1 then xm_lt (xm_up M 0 5 1) (fun M2 => xm_ck (xm_in 0 119) (some (M2 1 (0 : Int32).toNatClampNeg, M2))) else xm_ck (xm_in x1 119) (xm_ck (xm_in x1 119) (xm_lt (xm_up M 4 x1.toNatClampNeg (M 1 x1.toNatClampNeg)) (fun M7 => f_X7_keep_2 n M7 (x1 + 1))))
set_option maxHeartbeats 4000000 in
set_option maxRecDepth 100000 in
theorem t_X7_keep_2 {l : Launch} {p : Program} {e : Env} {s : State} {m : MethodId} {args : Array Value} {below : List Frame} {meth : Method} {c : Code} {E : xm_E} {a : Nat → Nat} (C : xm_C E (xu E a) p s m args meth c RX7 cX7_keep 2 (some .int)) : ∀ (n : Nat) (M : xm_M) (x1 : Int32) (r : Int32) (M' : xm_M), f_X7_keep_2 n M x1 = some (r, M') → ∀ (H : Heap) (locs : List Loc) (ls : Array Slot), va_P E.1 vwCl (xm_w (xu E a) M) H → va_S (xm_A (xu E a) s.heap.size) s.heap H locs → lv_has ls 2 [(0, .ref (a 0)), (1, .int x1)] → W p l e { frames := 0, cells := 0, slots := 0, locals := 0 } s m args below meth c H locs 0 0 (MQ below (xm_Q E (xu E a) M' s.heap.size (some r)) args s 0 0 (xm_A (xu E a) s.heap.size)) (F0 m 2 ls []) := by
  have C9 := C
  obtain ⟨hx, hb, hml, hown, hts, hr, hlk, hD, hK, hS9⟩ := C9
  intro n
  induction n with
  | zero =>
    intro M x1 r M' h
    cases h
  | succ n ih =>
    intro M x1 r M' h H locs ls hP hS hl
    rw [f_X7_keep_2] at h
    refine lv_iload_n hx hb dX7_keep_2 rfl (lv_at hl 1 rfl) ?_
    refine lv_bipush (v := 119) hx hb dX7_keep_3 (by decide) ?_
    refine lv_icmp_ge (tgt := 26) hx hb dX7_keep_5 (by decide) (fun c1 => ?_) (fun c1 => ?_)
    · rw [if_pos c1] at h
      refine lv_aload_n hx hb dX7_keep_26 rfl (lv_at hl 0 rfl) ?_
      refine lv_iconst (v := 1) hx hb dX7_keep_27 (by decide) ?_
      obtain ⟨M2, e3, h⟩ := xm_lt_s h
      refine xm_put (V := (xu E a)) (T := TX7) (ty := .int) (x := 1) C hP hS 0 5 xi_7 rfl l_X7_180 rfl tyX7_ok nmX7 (Nat.le_of_ble_eq_true rfl) ((xf_0 E a) _) (Nat.le_of_ble_eq_true rfl) rfl (by decide +kernel) rfl rfl (Nat.le_of_ble_eq_true rfl) ((xf_0 E a) _) dX7_keep_28 (fun H locs hP hS => ?_)
      rw [← e3] at hP
      refine lv_aload_n hx hb dX7_keep_31 rfl (lv_at hl 0 rfl) ?_
      refine xm_get (V := (xu E a)) (T := TX7) (v := .ref (a 1)) C hP 0 0 xi_7 rfl l_X7_7 rfl (Nat.le_of_ble_eq_true rfl) ((xf_0 E a) _) (Nat.le_of_ble_eq_true rfl) rfl dX7_keep_32 ?_
      refine lv_iconst (v := 0) hx hb dX7_keep_35 (by decide) ?_
      obtain ⟨b4, h⟩ := xm_ck_s h
      refine xm_iald (V := (xu E a)) C hP 1 119 (Nat.le_of_ble_eq_true rfl) (xf_1 E a) b4 dX7_keep_36 ?_
      obtain ⟨rfl, rfl⟩ := xm_pr h
      exact xm_retI C hP hS dX7_keep_37
    · rw [if_neg c1] at h
      refine lv_aload_n hx hb dX7_keep_8 rfl (lv_at hl 0 rfl) ?_
      refine xm_get (V := (xu E a)) (T := TX7) (v := .ref (a 4)) C hP 0 4 xi_7 rfl l_X7_19 rfl (Nat.le_of_ble_eq_true rfl) ((xf_0 E a) _) (Nat.le_of_ble_eq_true rfl) rfl dX7_keep_9 ?_
      refine lv_iload_n hx hb dX7_keep_12 rfl (lv_at hl 1 rfl) ?_
      refine lv_aload_n hx hb dX7_keep_13 rfl (lv_at hl 0 rfl) ?_
      refine xm_get (V := (xu E a)) (T := TX7) (v := .ref (a 1)) C hP 0 0 xi_7 rfl l_X7_7 rfl (Nat.le_of_ble_eq_true rfl) ((xf_0 E a) _) (Nat.le_of_ble_eq_true rfl) rfl dX7_keep_14 ?_
      refine lv_iload_n hx hb dX7_keep_17 rfl (lv_at hl 1 rfl) ?_
      obtain ⟨b5, h⟩ := xm_ck_s h
      refine xm_iald (V := (xu E a)) C hP 1 119 (Nat.le_of_ble_eq_true rfl) (xf_1 E a) b5 dX7_keep_18 ?_
      obtain ⟨b6, h⟩ := xm_ck_s h
      obtain ⟨M7, e8, h⟩ := xm_lt_s h
      refine xm_iast (V := (xu E a)) C hP hS 4 119 (Nat.le_of_ble_eq_true rfl) (xf_4 E a) b6 dX7_keep_19 (fun H locs hP hS => ?_)
      rw [← e8] at hP
      refine lv_iinc (v := x1 + 1) (lv' := [(1, .int (x1 + 1)), (0, .ref (a 0))]) hx hb dX7_keep_20 hl (k := 1) rfl (xm_add (by decide)) (by decide) rfl (fun ls hl => ?_)
      refine lv_goto (tgt := 2) hx hb dX7_keep_23 (by decide) ?_
      exact ih M7 (x1 + 1) r M' h _ _ _ hP hS (lv_sub hl [1, 0] rfl)
def f_X7_keep (n : Nat) (M : xm_M) : Option (Int32 × xm_M) := f_X7_keep_2 n M 0
set_option maxHeartbeats 4000000 in
set_option maxRecDepth 100000 in
theorem t_X7_keep_0 {l : Launch} {p : Program} {e : Env} {s : State} {m : MethodId} {args : Array Value} {below : List Frame} {meth : Method} {c : Code} {E : xm_E} {a : Nat → Nat} (C : xm_C E (xu E a) p s m args meth c RX7 cX7_keep 2 (some .int)) (n : Nat) (M : xm_M) (r : Int32) (M' : xm_M) : f_X7_keep n M = some (r, M') → ∀ (H : Heap) (locs : List Loc) (ls : Array Slot), va_P E.1 vwCl (xm_w (xu E a) M) H → va_S (xm_A (xu E a) s.heap.size) s.heap H locs → lv_has ls 2 [(0, .ref (a 0))] → W p l e { frames := 0, cells := 0, slots := 0, locals := 0 } s m args below meth c H locs 0 0 (MQ below (xm_Q E (xu E a) M' s.heap.size (some r)) args s 0 0 (xm_A (xu E a) s.heap.size)) (F0 m 0 ls []) := by
  have C9 := C
  obtain ⟨hx, hb, hml, hown, hts, hr, hlk, hD, hK, hS9⟩ := C9
  intro h H locs ls hP hS hl
  unfold f_X7_keep at h
  refine lv_iconst (v := 0) hx hb dX7_keep_0 (by decide) ?_
  refine lv_istore_n (lv' := [(1, .int 0), (0, .ref (a 0))]) hx hb dX7_keep_1 rfl hl (by decide) rfl (fun ls hl => ?_)
  exact t_X7_keep_2 C  n M 0 r M' h _ _ _ hP hS (lv_sub hl [1, 0] rfl)
theorem c_X7_keep {l : Launch} {E : xm_E} {a : Nat → Nat} (hD : xm_D (xu E a)) (n : Nat) (M : xm_M) (r : Int32) (M' : xm_M) (h : f_X7_keep n M = some (r, M')) : xm_Met l E (xu E a) yX7_keep cX7_keep 2 (some .int) 0 0 [.ref (a 0)] M M' (some r) :=
  xm_met (by decide +kernel) rfl (Nat.le_of_ble_eq_true rfl) hD (fun p e s m below meth c C hP ls hl => t_X7_keep_0 C  n M r M' h _ _ _ hP va_S.rf hl)
def f_X7_restore_16 : Nat → xm_M → Int32 → Option (Int32 × xm_M)
  | 0, _, _ => none
  | n + 1, M, x1 => if (119 : Int32) ≤ x1 then xm_ck (xm_in 0 119) (xm_b2 (f_X7_acted n M (M 1 (0 : Int32).toNatClampNeg)) (fun r4 M3 => some (r4, M3))) else xm_ck (xm_in x1 119) (xm_ck (xm_in x1 119) (xm_lt (xm_up M 1 x1.toNatClampNeg (M 4 x1.toNatClampNeg)) (fun M8 => f_X7_restore_16 n M8 (x1 + 1))))
set_option maxHeartbeats 4000000 in
set_option maxRecDepth 100000 in
theorem t_X7_restore_16 {l : Launch} {p : Program} {e : Env} {s : State} {m : MethodId} {args : Array Value} {below : List Frame} {meth : Method} {c : Code} {E : xm_E} {a : Nat → Nat} (C : xm_C E (xu E a) p s m args meth c RX7 cX7_restore 2 (some .int)) : ∀ (n : Nat) (M : xm_M) (x1 : Int32) (r : Int32) (M' : xm_M), f_X7_restore_16 n M x1 = some (r, M') → ∀ (H : Heap) (locs : List Loc) (ls : Array Slot), va_P E.1 vwCl (xm_w (xu E a) M) H → va_S (xm_A (xu E a) s.heap.size) s.heap H locs → lv_has ls 2 [(0, .ref (a 0)), (1, .int x1)] → W p l e { frames := 1, cells := 0, slots := 0, locals := 22 } s m args below meth c H locs 0 0 (MQ below (xm_Q E (xu E a) M' s.heap.size (some r)) args s 0 0 (xm_A (xu E a) s.heap.size)) (F0 m 16 ls []) := by
  have C9 := C
  obtain ⟨hx, hb, hml, hown, hts, hr, hlk, hD, hK, hS9⟩ := C9
  intro n
  induction n with
  | zero =>
    intro M x1 r M' h
    cases h
  | succ n ih =>
    intro M x1 r M' h H locs ls hP hS hl
    rw [f_X7_restore_16] at h
    refine lv_iload_n hx hb dX7_restore_16 rfl (lv_at hl 1 rfl) ?_
    refine lv_bipush (v := 119) hx hb dX7_restore_17 (by decide) ?_
    refine lv_icmp_ge (tgt := 40) hx hb dX7_restore_19 (by decide) (fun c1 => ?_) (fun c1 => ?_)
    · rw [if_pos c1] at h
      refine lv_aload_n hx hb dX7_restore_40 rfl (lv_at hl 0 rfl) ?_
      refine lv_aload_n hx hb dX7_restore_41 rfl (lv_at hl 0 rfl) ?_
      refine xm_get (V := (xu E a)) (T := TX7) (v := .ref (a 1)) C hP 0 0 xi_7 rfl l_X7_7 rfl (Nat.le_of_ble_eq_true rfl) ((xf_0 E a) _) (Nat.le_of_ble_eq_true rfl) rfl dX7_restore_42 ?_
      refine lv_iconst (v := 0) hx hb dX7_restore_45 (by decide) ?_
      obtain ⟨b2, h⟩ := xm_ck_s h
      refine xm_iald (V := (xu E a)) C hP 1 119 (Nat.le_of_ble_eq_true rfl) (xf_1 E a) b2 dX7_restore_46 ?_
      obtain ⟨r4, M3, e5, h⟩ := xm_b2_s h
      refine xm_callV C hP hS [.int (M 1 (0 : Int32).toNatClampNeg)] [] (c_X7_acted hD  n M (M 1 (0 : Int32).toNatClampNeg) r4 M3 e5) k_X7_127 (xm_recv C hP 0 rfl (Nat.le_of_ble_eq_true rfl) ((xf_0 E a) _)) rfl rfl ⟨(Nat.le_of_ble_eq_true rfl), (Nat.le_of_ble_eq_true rfl)⟩ hl.1 (Nat.le_of_ble_eq_true rfl) ⟨Nat.zero_le _, Nat.zero_le _⟩ dX7_restore_47 (fun H locs hP hS => ?_)
      change W p l e _ s m _ below meth c H locs 0 0 _ (F0 m 50 ls [.int r4])
      obtain ⟨rfl, rfl⟩ := xm_pr h
      exact xm_retI C hP hS dX7_restore_50
    · rw [if_neg c1] at h
      refine lv_aload_n hx hb dX7_restore_22 rfl (lv_at hl 0 rfl) ?_
      refine xm_get (V := (xu E a)) (T := TX7) (v := .ref (a 1)) C hP 0 0 xi_7 rfl l_X7_7 rfl (Nat.le_of_ble_eq_true rfl) ((xf_0 E a) _) (Nat.le_of_ble_eq_true rfl) rfl dX7_restore_23 ?_
      refine lv_iload_n hx hb dX7_restore_26 rfl (lv_at hl 1 rfl) ?_
      refine lv_aload_n hx hb dX7_restore_27 rfl (lv_at hl 0 rfl) ?_
      refine xm_get (V := (xu E a)) (T := TX7) (v := .ref (a 4)) C hP 0 4 xi_7 rfl l_X7_19 rfl (Nat.le_of_ble_eq_true rfl) ((xf_0 E a) _) (Nat.le_of_ble_eq_true rfl) rfl dX7_restore_28 ?_
      refine lv_iload_n hx hb dX7_restore_31 rfl (lv_at hl 1 rfl) ?_
      obtain ⟨b6, h⟩ := xm_ck_s h
      refine xm_iald (V := (xu E a)) C hP 4 119 (Nat.le_of_ble_eq_true rfl) (xf_4 E a) b6 dX7_restore_32 ?_
      obtain ⟨b7, h⟩ := xm_ck_s h
      obtain ⟨M8, e9, h⟩ := xm_lt_s h
      refine xm_iast (V := (xu E a)) C hP hS 1 119 (Nat.le_of_ble_eq_true rfl) (xf_1 E a) b7 dX7_restore_33 (fun H locs hP hS => ?_)
      rw [← e9] at hP
      refine lv_iinc (v := x1 + 1) (lv' := [(1, .int (x1 + 1)), (0, .ref (a 0))]) hx hb dX7_restore_34 hl (k := 1) rfl (xm_add (by decide)) (by decide) rfl (fun ls hl => ?_)
      refine lv_goto (tgt := 16) hx hb dX7_restore_37 (by decide) ?_
      exact ih M8 (x1 + 1) r M' h _ _ _ hP hS (lv_sub hl [1, 0] rfl)
def f_X7_restore (n : Nat) (M : xm_M) : Option (Int32 × xm_M) := if (M 0 5) = 0 then some ((-5), M) else xm_b1 (f_X7_remember n M) (fun M2 => f_X7_restore_16 n M2 0)
set_option maxHeartbeats 4000000 in
set_option maxRecDepth 100000 in
theorem t_X7_restore_0 {l : Launch} {p : Program} {e : Env} {s : State} {m : MethodId} {args : Array Value} {below : List Frame} {meth : Method} {c : Code} {E : xm_E} {a : Nat → Nat} (C : xm_C E (xu E a) p s m args meth c RX7 cX7_restore 2 (some .int)) (n : Nat) (M : xm_M) (r : Int32) (M' : xm_M) : f_X7_restore n M = some (r, M') → ∀ (H : Heap) (locs : List Loc) (ls : Array Slot), va_P E.1 vwCl (xm_w (xu E a) M) H → va_S (xm_A (xu E a) s.heap.size) s.heap H locs → lv_has ls 2 [(0, .ref (a 0))] → W p l e { frames := 1, cells := 0, slots := 0, locals := 22 } s m args below meth c H locs 0 0 (MQ below (xm_Q E (xu E a) M' s.heap.size (some r)) args s 0 0 (xm_A (xu E a) s.heap.size)) (F0 m 0 ls []) := by
  have C9 := C
  obtain ⟨hx, hb, hml, hown, hts, hr, hlk, hD, hK, hS9⟩ := C9
  intro h H locs ls hP hS hl
  unfold f_X7_restore at h
  refine lv_aload_n hx hb dX7_restore_0 rfl (lv_at hl 0 rfl) ?_
  refine xm_get (V := (xu E a)) (T := TX7) (v := .int (M 0 5)) C hP 0 5 xi_7 rfl l_X7_180 rfl (Nat.le_of_ble_eq_true rfl) ((xf_0 E a) _) (Nat.le_of_ble_eq_true rfl) rfl dX7_restore_1 ?_
  refine lv_if_ne (tgt := 10) hx hb dX7_restore_4 (by decide) (fun c1 => ?_) (fun c1 => ?_)
  · rw [if_neg c1] at h
    refine lv_aload_n hx hb dX7_restore_10 rfl (lv_at hl 0 rfl) ?_
    obtain ⟨M2, e4, h⟩ := xm_b1_s h
    refine xm_callV C hP hS [] [] (c_X7_remember hD  n M  M2 e4) k_X7_120 (xm_recv C hP 0 rfl (Nat.le_of_ble_eq_true rfl) ((xf_0 E a) _)) rfl rfl ⟨(Nat.le_of_ble_eq_true rfl), (Nat.le_of_ble_eq_true rfl)⟩ hl.1 (Nat.le_of_ble_eq_true rfl) ⟨Nat.zero_le _, Nat.zero_le _⟩ dX7_restore_11 (fun H locs hP hS => ?_)
    change W p l e _ s m _ below meth c H locs 0 0 _ (F0 m 14 ls [])
    refine lv_iconst (v := 0) hx hb dX7_restore_14 (by decide) ?_
    refine lv_istore_n (lv' := [(1, .int 0), (0, .ref (a 0))]) hx hb dX7_restore_15 rfl hl (by decide) rfl (fun ls hl => ?_)
    exact t_X7_restore_16 C  n M2 0 r M' h _ _ _ hP hS (lv_sub hl [1, 0] rfl)
  · rw [if_pos c1] at h
    refine lv_bipush (v := (-5)) hx hb dX7_restore_7 (by decide) ?_
    obtain ⟨rfl, rfl⟩ := xm_pr h
    exact xm_retI C hP hS dX7_restore_9
theorem c_X7_restore {l : Launch} {E : xm_E} {a : Nat → Nat} (hD : xm_D (xu E a)) (n : Nat) (M : xm_M) (r : Int32) (M' : xm_M) (h : f_X7_restore n M = some (r, M')) : xm_Met l E (xu E a) yX7_restore cX7_restore 2 (some .int) 1 22 [.ref (a 0)] M M' (some r) :=
  xm_met (by decide +kernel) rfl (Nat.le_of_ble_eq_true rfl) hD (fun p e s m below meth c C hP ls hl => t_X7_restore_0 C  n M r M' h _ _ _ hP va_S.rf hl)
def f_X7_placeOf_6 : Nat → xm_M → Int32 → Int32 → Option (Int32 × xm_M)
  | 0, _, _, _ => none
  | n + 1, M, x1, x2 => xm_ck (xm_in x2 25) (if (M 5 x2.toNatClampNeg) = x1 then some (x2, M) else f_X7_placeOf_6 n M x1 (x2 + 1))
set_option maxHeartbeats 4000000 in
set_option maxRecDepth 100000 in
theorem t_X7_placeOf_6 {l : Launch} {p : Program} {e : Env} {s : State} {m : MethodId} {args : Array Value} {below : List Frame} {meth : Method} {c : Code} {E : xm_E} {a : Nat → Nat} (C : xm_C E (xu E a) p s m args meth c RX7 cX7_placeOf 3 (some .int)) : ∀ (n : Nat) (M : xm_M) (x1 : Int32) (x2 : Int32) (r : Int32) (M' : xm_M), f_X7_placeOf_6 n M x1 x2 = some (r, M') → ∀ (H : Heap) (locs : List Loc) (ls : Array Slot), va_P E.1 vwCl (xm_w (xu E a) M) H → va_S (xm_A (xu E a) s.heap.size) s.heap H locs → lv_has ls 3 [(0, .ref (a 0)), (1, .int x1), (2, .int x2)] → W p l e { frames := 2, cells := 0, slots := 0, locals := 44 } s m args below meth c H locs 0 0 (MQ below (xm_Q E (xu E a) M' s.heap.size (some r)) args s 0 0 (xm_A (xu E a) s.heap.size)) (F0 m 6 ls []) := by
  have C9 := C
  obtain ⟨hx, hb, hml, hown, hts, hr, hlk, hD, hK, hS9⟩ := C9
  intro n
  induction n with
  | zero =>
    intro M x1 x2 r M' h
    cases h
  | succ n ih =>
    intro M x1 x2 r M' h H locs ls hP hS hl
    rw [f_X7_placeOf_6] at h
    refine lv_aload_n hx hb dX7_placeOf_6 rfl (lv_at hl 0 rfl) ?_
    refine xm_get (V := (xu E a)) (T := TX7) (v := .ref (a 5)) C hP 0 6 xi_7 rfl l_X7_22 rfl (Nat.le_of_ble_eq_true rfl) ((xf_0 E a) _) (Nat.le_of_ble_eq_true rfl) rfl dX7_placeOf_7 ?_
    refine lv_iload_n hx hb dX7_placeOf_10 rfl (lv_at hl 2 rfl) ?_
    obtain ⟨b1, h⟩ := xm_ck_s h
    refine xm_iald (V := (xu E a)) C hP 5 25 (Nat.le_of_ble_eq_true rfl) (xf_5 E a) b1 dX7_placeOf_11 ?_
    refine lv_iload_n hx hb dX7_placeOf_12 rfl (lv_at hl 1 rfl) ?_
    refine lv_icmp_eq (tgt := 22) hx hb dX7_placeOf_13 (by decide) (fun c2 => ?_) (fun c2 => ?_)
    · rw [if_pos c2] at h
      refine lv_iload_n hx hb dX7_placeOf_22 rfl (lv_at hl 2 rfl) ?_
      obtain ⟨rfl, rfl⟩ := xm_pr h
      exact xm_retI C hP hS dX7_placeOf_23
    · rw [if_neg c2] at h
      refine lv_iinc (v := x2 + 1) (lv' := [(2, .int (x2 + 1)), (0, .ref (a 0)), (1, .int x1)]) hx hb dX7_placeOf_16 hl (k := 2) rfl (xm_add (by decide)) (by decide) rfl (fun ls hl => ?_)
      refine lv_goto (tgt := 6) hx hb dX7_placeOf_19 (by decide) ?_
      exact ih M x1 (x2 + 1) r M' h _ _ _ hP hS (lv_sub hl [1, 2, 0] rfl)
def f_X7_placeOf (n : Nat) (M : xm_M) (x1 : Int32) : Option (Int32 × xm_M) := xm_b1 (f_X7_findsOrder n M) (fun M1 => f_X7_placeOf_6 n M1 x1 0)
set_option maxHeartbeats 4000000 in
set_option maxRecDepth 100000 in
theorem t_X7_placeOf_0 {l : Launch} {p : Program} {e : Env} {s : State} {m : MethodId} {args : Array Value} {below : List Frame} {meth : Method} {c : Code} {E : xm_E} {a : Nat → Nat} (C : xm_C E (xu E a) p s m args meth c RX7 cX7_placeOf 3 (some .int)) (n : Nat) (M : xm_M) (x1 : Int32) (r : Int32) (M' : xm_M) : f_X7_placeOf n M x1 = some (r, M') → ∀ (H : Heap) (locs : List Loc) (ls : Array Slot), va_P E.1 vwCl (xm_w (xu E a) M) H → va_S (xm_A (xu E a) s.heap.size) s.heap H locs → lv_has ls 3 [(0, .ref (a 0)), (1, .int x1)] → W p l e { frames := 2, cells := 0, slots := 0, locals := 44 } s m args below meth c H locs 0 0 (MQ below (xm_Q E (xu E a) M' s.heap.size (some r)) args s 0 0 (xm_A (xu E a) s.heap.size)) (F0 m 0 ls []) := by
  have C9 := C
  obtain ⟨hx, hb, hml, hown, hts, hr, hlk, hD, hK, hS9⟩ := C9
  intro h H locs ls hP hS hl
  unfold f_X7_placeOf at h
  refine lv_aload_n hx hb dX7_placeOf_0 rfl (lv_at hl 0 rfl) ?_
  obtain ⟨M1, e3, h⟩ := xm_b1_s h
  refine xm_callV C hP hS [] [] (c_X7_findsOrder hD  n M  M1 e3) k_X7_96 (xm_recv C hP 0 rfl (Nat.le_of_ble_eq_true rfl) ((xf_0 E a) _)) rfl rfl ⟨(Nat.le_of_ble_eq_true rfl), (Nat.le_of_ble_eq_true rfl)⟩ hl.1 (Nat.le_of_ble_eq_true rfl) ⟨Nat.zero_le _, Nat.zero_le _⟩ dX7_placeOf_1 (fun H locs hP hS => ?_)
  change W p l e _ s m _ below meth c H locs 0 0 _ (F0 m 4 ls [])
  refine lv_iconst (v := 0) hx hb dX7_placeOf_4 (by decide) ?_
  refine lv_istore_n (lv' := [(2, .int 0), (0, .ref (a 0)), (1, .int x1)]) hx hb dX7_placeOf_5 rfl hl (by decide) rfl (fun ls hl => ?_)
  exact t_X7_placeOf_6 C  n M1 x1 0 r M' h _ _ _ hP hS (lv_sub hl [1, 2, 0] rfl)
theorem c_X7_placeOf {l : Launch} {E : xm_E} {a : Nat → Nat} (hD : xm_D (xu E a)) (n : Nat) (M : xm_M) (x1 : Int32) (r : Int32) (M' : xm_M) (h : f_X7_placeOf n M x1 = some (r, M')) : xm_Met l E (xu E a) yX7_placeOf cX7_placeOf 3 (some .int) 2 44 [.ref (a 0), .int x1] M M' (some r) :=
  xm_met (by decide +kernel) rfl (Nat.le_of_ble_eq_true rfl) hD (fun p e s m below meth c C hP ls hl => t_X7_placeOf_0 C  n M x1 r M' h _ _ _ hP va_S.rf hl)
def f_X7_eventOf (n : Nat) (M : xm_M) (x1 : Int32) (x2 : Int32) : Option (Int32 × xm_M) := xm_b2 (f_X7_isEvent n M x1) (fun r2 M1 => if r2 = 0 then some ((-1), M1) else if x2 = 0 then xm_b2 (f_X7_of n M1 x1 0) (fun r7 M6 => some (97 + r7, M6)) else if x2 = 1 then xm_b2 (f_X7_of n M1 x1 x2) (fun r11 M10 => some (r11, M10)) else if x2 = 2 then xm_b2 (f_X7_of n M1 x1 x2) (fun r15 M14 => some (r15, M14)) else if x2 = 3 then xm_b2 (f_X7_placeOf n M1 x1) (fun r19 M18 => some (r19, M18)) else if x2 = 4 then xm_b2 (f_X7_allMatches n M1) (fun r23 M22 => xm_ck (xm_in x1 25) (some (M22 9 x1.toNatClampNeg, M22))) else some ((-2), M1))
set_option maxHeartbeats 4000000 in
set_option maxRecDepth 100000 in
theorem t_X7_eventOf_0 {l : Launch} {p : Program} {e : Env} {s : State} {m : MethodId} {args : Array Value} {below : List Frame} {meth : Method} {c : Code} {E : xm_E} {a : Nat → Nat} (C : xm_C E (xu E a) p s m args meth c RX7 cX7_eventOf 4 (some .int)) (n : Nat) (M : xm_M) (x1 : Int32) (x2 : Int32) (r : Int32) (M' : xm_M) : f_X7_eventOf n M x1 x2 = some (r, M') → ∀ (H : Heap) (locs : List Loc) (ls : Array Slot), va_P E.1 vwCl (xm_w (xu E a) M) H → va_S (xm_A (xu E a) s.heap.size) s.heap H locs → lv_has ls 4 [(0, .ref (a 0)), (1, .int x1), (2, .int x2)] → W p l e { frames := 5, cells := 0, slots := 0, locals := 115 } s m args below meth c H locs 0 0 (MQ below (xm_Q E (xu E a) M' s.heap.size (some r)) args s 0 0 (xm_A (xu E a) s.heap.size)) (F0 m 0 ls []) := by
  have C9 := C
  obtain ⟨hx, hb, hml, hown, hts, hr, hlk, hD, hK, hS9⟩ := C9
  intro h H locs ls hP hS hl
  unfold f_X7_eventOf at h
  refine lv_aload_n hx hb dX7_eventOf_0 rfl (lv_at hl 0 rfl) ?_
  refine lv_iload_n hx hb dX7_eventOf_1 rfl (lv_at hl 1 rfl) ?_
  obtain ⟨r2, M1, e3, h⟩ := xm_b2_s h
  refine xm_callV C hP hS [.int x1] [] (c_X7_isEvent hD  n M x1 r2 M1 e3) k_X7_183 (xm_recv C hP 0 rfl (Nat.le_of_ble_eq_true rfl) ((xf_0 E a) _)) rfl rfl ⟨(Nat.le_of_ble_eq_true rfl), (Nat.le_of_ble_eq_true rfl)⟩ hl.1 (Nat.le_of_ble_eq_true rfl) ⟨Nat.zero_le _, Nat.zero_le _⟩ dX7_eventOf_2 (fun H locs hP hS => ?_)
  change W p l e _ s m _ below meth c H locs 0 0 _ (F0 m 5 ls [.int r2])
  refine lv_if_ne (tgt := 10) hx hb dX7_eventOf_5 (by decide) (fun c4 => ?_) (fun c4 => ?_)
  · rw [if_neg c4] at h
    refine lv_iload_n hx hb dX7_eventOf_10 rfl (lv_at hl 2 rfl) ?_
    by_cases c5 : x2 = 0
    · rw [if_pos c5] at h
      refine lv_tableIn (tgt := 44) hx hb dX7_eventOf_11 (by rw [c5]; decide) (by rw [c5]; decide) (by rw [c5]; rfl) (by decide) ?_
      refine lv_bipush (v := 97) hx hb dX7_eventOf_44 (by decide) ?_
      refine lv_aload_n hx hb dX7_eventOf_46 rfl (lv_at hl 0 rfl) ?_
      refine lv_iload_n hx hb dX7_eventOf_47 rfl (lv_at hl 1 rfl) ?_
      refine lv_iconst (v := 0) hx hb dX7_eventOf_48 (by decide) ?_
      obtain ⟨r7, M6, e8, h⟩ := xm_b2_s h
      refine xm_callV C hP hS [.int x1, .int 0] [.int 97] (c_X7_of hD  n M1 x1 0 r7 M6 e8) k_X7_62 (xm_recv C hP 0 rfl (Nat.le_of_ble_eq_true rfl) ((xf_0 E a) _)) rfl rfl ⟨(Nat.le_of_ble_eq_true rfl), (Nat.le_of_ble_eq_true rfl)⟩ hl.1 (Nat.le_of_ble_eq_true rfl) ⟨Nat.zero_le _, Nat.zero_le _⟩ dX7_eventOf_49 (fun H locs hP hS => ?_)
      change W p l e _ s m _ below meth c H locs 0 0 _ (F0 m 52 ls [.int r7, .int 97])
      refine lv_iadd hx hb dX7_eventOf_52 ?_
      obtain ⟨rfl, rfl⟩ := xm_pr h
      exact xm_retI C hP hS dX7_eventOf_53
    · rw [if_neg c5] at h
      by_cases c9 : x2 = 1
      · rw [if_pos c9] at h
        refine lv_tableIn (tgt := 54) hx hb dX7_eventOf_11 (by rw [c9]; decide) (by rw [c9]; decide) (by rw [c9]; rfl) (by decide) ?_
        refine lv_aload_n hx hb dX7_eventOf_54 rfl (lv_at hl 0 rfl) ?_
        refine lv_iload_n hx hb dX7_eventOf_55 rfl (lv_at hl 1 rfl) ?_
        refine lv_iload_n hx hb dX7_eventOf_56 rfl (lv_at hl 2 rfl) ?_
        obtain ⟨r11, M10, e12, h⟩ := xm_b2_s h
        refine xm_callV C hP hS [.int x1, .int x2] [] (c_X7_of hD  n M1 x1 x2 r11 M10 e12) k_X7_62 (xm_recv C hP 0 rfl (Nat.le_of_ble_eq_true rfl) ((xf_0 E a) _)) rfl rfl ⟨(Nat.le_of_ble_eq_true rfl), (Nat.le_of_ble_eq_true rfl)⟩ hl.1 (Nat.le_of_ble_eq_true rfl) ⟨Nat.zero_le _, Nat.zero_le _⟩ dX7_eventOf_57 (fun H locs hP hS => ?_)
        change W p l e _ s m _ below meth c H locs 0 0 _ (F0 m 60 ls [.int r11])
        obtain ⟨rfl, rfl⟩ := xm_pr h
        exact xm_retI C hP hS dX7_eventOf_60
      · rw [if_neg c9] at h
        by_cases c13 : x2 = 2
        · rw [if_pos c13] at h
          refine lv_tableIn (tgt := 54) hx hb dX7_eventOf_11 (by rw [c13]; decide) (by rw [c13]; decide) (by rw [c13]; rfl) (by decide) ?_
          refine lv_aload_n hx hb dX7_eventOf_54 rfl (lv_at hl 0 rfl) ?_
          refine lv_iload_n hx hb dX7_eventOf_55 rfl (lv_at hl 1 rfl) ?_
          refine lv_iload_n hx hb dX7_eventOf_56 rfl (lv_at hl 2 rfl) ?_
          obtain ⟨r15, M14, e16, h⟩ := xm_b2_s h
          refine xm_callV C hP hS [.int x1, .int x2] [] (c_X7_of hD  n M1 x1 x2 r15 M14 e16) k_X7_62 (xm_recv C hP 0 rfl (Nat.le_of_ble_eq_true rfl) ((xf_0 E a) _)) rfl rfl ⟨(Nat.le_of_ble_eq_true rfl), (Nat.le_of_ble_eq_true rfl)⟩ hl.1 (Nat.le_of_ble_eq_true rfl) ⟨Nat.zero_le _, Nat.zero_le _⟩ dX7_eventOf_57 (fun H locs hP hS => ?_)
          change W p l e _ s m _ below meth c H locs 0 0 _ (F0 m 60 ls [.int r15])
          obtain ⟨rfl, rfl⟩ := xm_pr h
          exact xm_retI C hP hS dX7_eventOf_60
        · rw [if_neg c13] at h
          by_cases c17 : x2 = 3
          · rw [if_pos c17] at h
            refine lv_tableIn (tgt := 61) hx hb dX7_eventOf_11 (by rw [c17]; decide) (by rw [c17]; decide) (by rw [c17]; rfl) (by decide) ?_
            refine lv_aload_n hx hb dX7_eventOf_61 rfl (lv_at hl 0 rfl) ?_
            refine lv_iload_n hx hb dX7_eventOf_62 rfl (lv_at hl 1 rfl) ?_
            obtain ⟨r19, M18, e20, h⟩ := xm_b2_s h
            refine xm_callV C hP hS [.int x1] [] (c_X7_placeOf hD  n M1 x1 r19 M18 e20) k_X7_186 (xm_recv C hP 0 rfl (Nat.le_of_ble_eq_true rfl) ((xf_0 E a) _)) rfl rfl ⟨(Nat.le_of_ble_eq_true rfl), (Nat.le_of_ble_eq_true rfl)⟩ hl.1 (Nat.le_of_ble_eq_true rfl) ⟨Nat.zero_le _, Nat.zero_le _⟩ dX7_eventOf_63 (fun H locs hP hS => ?_)
            change W p l e _ s m _ below meth c H locs 0 0 _ (F0 m 66 ls [.int r19])
            obtain ⟨rfl, rfl⟩ := xm_pr h
            exact xm_retI C hP hS dX7_eventOf_66
          · rw [if_neg c17] at h
            by_cases c21 : x2 = 4
            · rw [if_pos c21] at h
              refine lv_tableIn (tgt := 67) hx hb dX7_eventOf_11 (by rw [c21]; decide) (by rw [c21]; decide) (by rw [c21]; rfl) (by decide) ?_
              refine lv_aload_n hx hb dX7_eventOf_67 rfl (lv_at hl 0 rfl) ?_
              obtain ⟨r23, M22, e24, h⟩ := xm_b2_s h
              refine xm_callV C hP hS [] [] (c_X7_allMatches hD  n M1  r23 M22 e24) k_X7_189 (xm_recv C hP 0 rfl (Nat.le_of_ble_eq_true rfl) ((xf_0 E a) _)) rfl rfl ⟨(Nat.le_of_ble_eq_true rfl), (Nat.le_of_ble_eq_true rfl)⟩ hl.1 (Nat.le_of_ble_eq_true rfl) ⟨Nat.zero_le _, Nat.zero_le _⟩ dX7_eventOf_68 (fun H locs hP hS => ?_)
              change W p l e _ s m _ below meth c H locs 0 0 _ (F0 m 71 ls [.int r23])
              refine lv_istore_n (lv' := [(3, .int r23), (0, .ref (a 0)), (1, .int x1), (2, .int x2)]) hx hb dX7_eventOf_71 rfl hl (by decide) rfl (fun ls hl => ?_)
              refine lv_aload_n hx hb dX7_eventOf_72 rfl (lv_at hl 1 rfl) ?_
              refine xm_get (V := (xu E a)) (T := TX7) (v := .ref (a 9)) C hP 0 13 xi_7 rfl l_X7_34 rfl (Nat.le_of_ble_eq_true rfl) ((xf_0 E a) _) (Nat.le_of_ble_eq_true rfl) rfl dX7_eventOf_73 ?_
              refine lv_iload_n hx hb dX7_eventOf_76 rfl (lv_at hl 2 rfl) ?_
              obtain ⟨b25, h⟩ := xm_ck_s h
              refine xm_iald (V := (xu E a)) C hP 9 25 (Nat.le_of_ble_eq_true rfl) (xf_9 E a) b25 dX7_eventOf_77 ?_
              obtain ⟨rfl, rfl⟩ := xm_pr h
              exact xm_retI C hP hS dX7_eventOf_78
            · rw [if_neg c21] at h
              refine lv_tableOut (tgt := 79) hx hb dX7_eventOf_11 (xm_sw5 c5 c9 c13 c17 c21) (by decide) ?_
              refine lv_bipush (v := (-2)) hx hb dX7_eventOf_79 (by decide) ?_
              obtain ⟨rfl, rfl⟩ := xm_pr h
              exact xm_retI C hP hS dX7_eventOf_81
  · rw [if_pos c4] at h
    refine lv_iconst (v := (-1)) hx hb dX7_eventOf_8 (by decide) ?_
    obtain ⟨rfl, rfl⟩ := xm_pr h
    exact xm_retI C hP hS dX7_eventOf_9
theorem c_X7_eventOf {l : Launch} {E : xm_E} {a : Nat → Nat} (hD : xm_D (xu E a)) (n : Nat) (M : xm_M) (x1 : Int32) (x2 : Int32) (r : Int32) (M' : xm_M) (h : f_X7_eventOf n M x1 x2 = some (r, M')) : xm_Met l E (xu E a) yX7_eventOf cX7_eventOf 4 (some .int) 5 115 [.ref (a 0), .int x1, .int x2] M M' (some r) :=
  xm_met (by decide +kernel) rfl (Nat.le_of_ble_eq_true rfl) hD (fun p e s m below meth c C hP ls hl => t_X7_eventOf_0 C  n M x1 x2 r M' h _ _ _ hP va_S.rf hl)
def f_X7_pattern (n : Nat) (M : xm_M) (x1 : Int32) (x2 : Int32) : Option (Int32 × xm_M) := xm_b2 (f_X7_isPattern n M x1) (fun r2 M1 => if r2 = 0 then some ((-1), M1) else xm_b2 (f_X7_in n M1 x2.toInt64 0 6) (fun r6 M5 => if r6 = 0 then some ((-2), M5) else if (3 : Int32) ≤ x2 then xm_lt (xm_up M5 0 14 ((-5))) (fun M10 => xm_b1 (f_X7_finds n M10 x1) (fun M12 => if x2 = 3 then xm_b2 (f_X7_plainSteps n M12 x1) (fun r19 M18 => some (r19, M18)) else if x2 = 4 then some (M12 0 10, M12) else if x2 = 5 then some (M12 0 11, M12) else some (M12 0 12, M12))) else xm_b2 (f_X7_ofPattern n M5 x1 x2) (fun r22 M21 => some (r22, M21))))
set_option maxHeartbeats 4000000 in
set_option maxRecDepth 100000 in
theorem t_X7_pattern_0 {l : Launch} {p : Program} {e : Env} {s : State} {m : MethodId} {args : Array Value} {below : List Frame} {meth : Method} {c : Code} {E : xm_E} {a : Nat → Nat} (C : xm_C E (xu E a) p s m args meth c RX7 cX7_pattern 3 (some .int)) (n : Nat) (M : xm_M) (x1 : Int32) (x2 : Int32) (r : Int32) (M' : xm_M) : f_X7_pattern n M x1 x2 = some (r, M') → ∀ (H : Heap) (locs : List Loc) (ls : Array Slot), va_P E.1 vwCl (xm_w (xu E a) M) H → va_S (xm_A (xu E a) s.heap.size) s.heap H locs → lv_has ls 3 [(0, .ref (a 0)), (1, .int x1), (2, .int x2)] → W p l e { frames := 4, cells := 0, slots := 0, locals := 93 } s m args below meth c H locs 0 0 (MQ below (xm_Q E (xu E a) M' s.heap.size (some r)) args s 0 0 (xm_A (xu E a) s.heap.size)) (F0 m 0 ls []) := by
  have C9 := C
  obtain ⟨hx, hb, hml, hown, hts, hr, hlk, hD, hK, hS9⟩ := C9
  intro h H locs ls hP hS hl
  unfold f_X7_pattern at h
  refine lv_aload_n hx hb dX7_pattern_0 rfl (lv_at hl 0 rfl) ?_
  refine lv_iload_n hx hb dX7_pattern_1 rfl (lv_at hl 1 rfl) ?_
  obtain ⟨r2, M1, e3, h⟩ := xm_b2_s h
  refine xm_callV C hP hS [.int x1] [] (c_X7_isPattern hD  n M x1 r2 M1 e3) k_X7_175 (xm_recv C hP 0 rfl (Nat.le_of_ble_eq_true rfl) ((xf_0 E a) _)) rfl rfl ⟨(Nat.le_of_ble_eq_true rfl), (Nat.le_of_ble_eq_true rfl)⟩ hl.1 (Nat.le_of_ble_eq_true rfl) ⟨Nat.zero_le _, Nat.zero_le _⟩ dX7_pattern_2 (fun H locs hP hS => ?_)
  change W p l e _ s m _ below meth c H locs 0 0 _ (F0 m 5 ls [.int r2])
  refine lv_if_ne (tgt := 10) hx hb dX7_pattern_5 (by decide) (fun c4 => ?_) (fun c4 => ?_)
  · rw [if_neg c4] at h
    refine lv_iload_n hx hb dX7_pattern_10 rfl (lv_at hl 2 rfl) ?_
    refine lv_i2l (v := x2.toInt64) hx hb dX7_pattern_11 rfl ?_
    refine lv_lconst (v := 0) hx hb dX7_pattern_12 (by decide) ?_
    refine lv_ldc2 (v := 6) hx hb hown (hts _ q_X7_192) dX7_pattern_13 ?_
    obtain ⟨r6, M5, e7, h⟩ := xm_b2_s h
    refine xm_callS C hP hS [.long x2.toInt64, .long 0, .long 6] [] (c_X7_in hD  n M1 x2.toInt64 0 6 r6 M5 e7) k_X7_50  rfl rfl ⟨(Nat.le_of_ble_eq_true rfl), (Nat.le_of_ble_eq_true rfl)⟩ hl.1 (Nat.le_of_ble_eq_true rfl) ⟨Nat.zero_le _, Nat.zero_le _⟩ dX7_pattern_16 (fun H locs hP hS => ?_)
    change W p l e _ s m _ below meth c H locs 0 0 _ (F0 m 19 ls [.int r6])
    refine lv_if_ne (tgt := 25) hx hb dX7_pattern_19 (by decide) (fun c8 => ?_) (fun c8 => ?_)
    · rw [if_neg c8] at h
      refine lv_iload_n hx hb dX7_pattern_25 rfl (lv_at hl 2 rfl) ?_
      refine lv_iconst (v := 3) hx hb dX7_pattern_26 (by decide) ?_
      refine lv_icmp_ge (tgt := 37) hx hb dX7_pattern_27 (by decide) (fun c9 => ?_) (fun c9 => ?_)
      · rw [if_pos c9] at h
        refine lv_aload_n hx hb dX7_pattern_37 rfl (lv_at hl 0 rfl) ?_
        refine lv_bipush (v := (-5)) hx hb dX7_pattern_38 (by decide) ?_
        obtain ⟨M10, e11, h⟩ := xm_lt_s h
        refine xm_put (V := (xu E a)) (T := TX7) (ty := .int) (x := (-5)) C hP hS 0 14 xi_7 rfl l_X7_79 rfl tyX7_ok nmX7 (Nat.le_of_ble_eq_true rfl) ((xf_0 E a) _) (Nat.le_of_ble_eq_true rfl) rfl (by decide +kernel) rfl rfl (Nat.le_of_ble_eq_true rfl) ((xf_0 E a) _) dX7_pattern_40 (fun H locs hP hS => ?_)
        rw [← e11] at hP
        refine lv_aload_n hx hb dX7_pattern_43 rfl (lv_at hl 0 rfl) ?_
        refine lv_iload_n hx hb dX7_pattern_44 rfl (lv_at hl 1 rfl) ?_
        obtain ⟨M12, e14, h⟩ := xm_b1_s h
        refine xm_callV C hP hS [.int x1] [] (c_X7_finds hD  n M10 x1 M12 e14) k_X7_109 (xm_recv C hP 0 rfl (Nat.le_of_ble_eq_true rfl) ((xf_0 E a) _)) rfl rfl ⟨(Nat.le_of_ble_eq_true rfl), (Nat.le_of_ble_eq_true rfl)⟩ hl.1 (Nat.le_of_ble_eq_true rfl) ⟨Nat.zero_le _, Nat.zero_le _⟩ dX7_pattern_45 (fun H locs hP hS => ?_)
        change W p l e _ s m _ below meth c H locs 0 0 _ (F0 m 48 ls [])
        refine lv_iload_n hx hb dX7_pattern_48 rfl (lv_at hl 2 rfl) ?_
        refine lv_iconst (v := 3) hx hb dX7_pattern_49 (by decide) ?_
        refine lv_icmp_ne (tgt := 61) hx hb dX7_pattern_50 (by decide) (fun c15 => ?_) (fun c15 => ?_)
        · rw [if_neg c15] at h
          refine lv_iload_n hx hb dX7_pattern_61 rfl (lv_at hl 2 rfl) ?_
          refine lv_iconst (v := 4) hx hb dX7_pattern_62 (by decide) ?_
          refine lv_icmp_ne (tgt := 73) hx hb dX7_pattern_63 (by decide) (fun c16 => ?_) (fun c16 => ?_)
          · rw [if_neg c16] at h
            refine lv_iload_n hx hb dX7_pattern_73 rfl (lv_at hl 2 rfl) ?_
            refine lv_iconst (v := 5) hx hb dX7_pattern_74 (by decide) ?_
            refine lv_icmp_ne (tgt := 85) hx hb dX7_pattern_75 (by decide) (fun c17 => ?_) (fun c17 => ?_)
            · rw [if_neg c17] at h
              refine lv_aload_n hx hb dX7_pattern_85 rfl (lv_at hl 0 rfl) ?_
              refine xm_get (V := (xu E a)) (T := TX7) (v := .int (M12 0 12)) C hP 0 12 xi_7 rfl l_X7_93 rfl (Nat.le_of_ble_eq_true rfl) ((xf_0 E a) _) (Nat.le_of_ble_eq_true rfl) rfl dX7_pattern_86 ?_
              obtain ⟨rfl, rfl⟩ := xm_pr h
              exact xm_retI C hP hS dX7_pattern_89
            · rw [if_pos c17] at h
              refine lv_aload_n hx hb dX7_pattern_78 rfl (lv_at hl 0 rfl) ?_
              refine xm_get (V := (xu E a)) (T := TX7) (v := .int (M12 0 11)) C hP 0 11 xi_7 rfl l_X7_82 rfl (Nat.le_of_ble_eq_true rfl) ((xf_0 E a) _) (Nat.le_of_ble_eq_true rfl) rfl dX7_pattern_79 ?_
              refine lv_goto (tgt := 89) hx hb dX7_pattern_82 (by decide) ?_
              obtain ⟨rfl, rfl⟩ := xm_pr h
              exact xm_retI C hP hS dX7_pattern_89
          · rw [if_pos c16] at h
            refine lv_aload_n hx hb dX7_pattern_66 rfl (lv_at hl 0 rfl) ?_
            refine xm_get (V := (xu E a)) (T := TX7) (v := .int (M12 0 10)) C hP 0 10 xi_7 rfl l_X7_76 rfl (Nat.le_of_ble_eq_true rfl) ((xf_0 E a) _) (Nat.le_of_ble_eq_true rfl) rfl dX7_pattern_67 ?_
            refine lv_goto (tgt := 89) hx hb dX7_pattern_70 (by decide) ?_
            obtain ⟨rfl, rfl⟩ := xm_pr h
            exact xm_retI C hP hS dX7_pattern_89
        · rw [if_pos c15] at h
          refine lv_aload_n hx hb dX7_pattern_53 rfl (lv_at hl 0 rfl) ?_
          refine lv_iload_n hx hb dX7_pattern_54 rfl (lv_at hl 1 rfl) ?_
          obtain ⟨r19, M18, e20, h⟩ := xm_b2_s h
          refine xm_callV C hP hS [.int x1] [] (c_X7_plainSteps hD  n M12 x1 r19 M18 e20) k_X7_89 (xm_recv C hP 0 rfl (Nat.le_of_ble_eq_true rfl) ((xf_0 E a) _)) rfl rfl ⟨(Nat.le_of_ble_eq_true rfl), (Nat.le_of_ble_eq_true rfl)⟩ hl.1 (Nat.le_of_ble_eq_true rfl) ⟨Nat.zero_le _, Nat.zero_le _⟩ dX7_pattern_55 (fun H locs hP hS => ?_)
          change W p l e _ s m _ below meth c H locs 0 0 _ (F0 m 58 ls [.int r19])
          refine lv_goto (tgt := 89) hx hb dX7_pattern_58 (by decide) ?_
          obtain ⟨rfl, rfl⟩ := xm_pr h
          exact xm_retI C hP hS dX7_pattern_89
      · rw [if_neg c9] at h
        refine lv_aload_n hx hb dX7_pattern_30 rfl (lv_at hl 0 rfl) ?_
        refine lv_iload_n hx hb dX7_pattern_31 rfl (lv_at hl 1 rfl) ?_
        refine lv_iload_n hx hb dX7_pattern_32 rfl (lv_at hl 2 rfl) ?_
        obtain ⟨r22, M21, e23, h⟩ := xm_b2_s h
        refine xm_callV C hP hS [.int x1, .int x2] [] (c_X7_ofPattern hD  n M5 x1 x2 r22 M21 e23) k_X7_66 (xm_recv C hP 0 rfl (Nat.le_of_ble_eq_true rfl) ((xf_0 E a) _)) rfl rfl ⟨(Nat.le_of_ble_eq_true rfl), (Nat.le_of_ble_eq_true rfl)⟩ hl.1 (Nat.le_of_ble_eq_true rfl) ⟨Nat.zero_le _, Nat.zero_le _⟩ dX7_pattern_33 (fun H locs hP hS => ?_)
        change W p l e _ s m _ below meth c H locs 0 0 _ (F0 m 36 ls [.int r22])
        obtain ⟨rfl, rfl⟩ := xm_pr h
        exact xm_retI C hP hS dX7_pattern_36
    · rw [if_pos c8] at h
      refine lv_bipush (v := (-2)) hx hb dX7_pattern_22 (by decide) ?_
      obtain ⟨rfl, rfl⟩ := xm_pr h
      exact xm_retI C hP hS dX7_pattern_24
  · rw [if_pos c4] at h
    refine lv_iconst (v := (-1)) hx hb dX7_pattern_8 (by decide) ?_
    obtain ⟨rfl, rfl⟩ := xm_pr h
    exact xm_retI C hP hS dX7_pattern_9
theorem c_X7_pattern {l : Launch} {E : xm_E} {a : Nat → Nat} (hD : xm_D (xu E a)) (n : Nat) (M : xm_M) (x1 : Int32) (x2 : Int32) (r : Int32) (M' : xm_M) (h : f_X7_pattern n M x1 x2 = some (r, M')) : xm_Met l E (xu E a) yX7_pattern cX7_pattern 3 (some .int) 4 93 [.ref (a 0), .int x1, .int x2] M M' (some r) :=
  xm_met (by decide +kernel) rfl (Nat.le_of_ble_eq_true rfl) hD (fun p e s m below meth c C hP ls hl => t_X7_pattern_0 C  n M x1 x2 r M' h _ _ _ hP va_S.rf hl)
def f_X7_step (n : Nat) (M : xm_M) (x1 : Int32) (x2 : Int32) (x3 : Int32) : Option (Int32 × xm_M) := xm_b2 (f_X7_isPattern n M x1) (fun r2 M1 => if r2 = 0 then some ((-1), M1) else xm_b2 (f_X7_ofPattern n M1 x1 2) (fun r6 M5 => xm_b2 (f_X7_in n M5 x2.toInt64 0 (r6.toInt64 - 1)) (fun r9 M8 => if r9 = 0 then some ((-2), M8) else xm_b2 (f_X7_in n M8 x3.toInt64 0 1) (fun r13 M12 => if r13 = 0 then some ((-2), M12) else xm_b2 (f_X7_ofPattern n M12 x1 (3 + x2)) (fun r17 M16 => if x3 = 0 then some (97 + (r17 - r17 / 8 * 8), M16) else some (r17 / 8, M16))))))
set_option maxHeartbeats 4000000 in
set_option maxRecDepth 100000 in
theorem t_X7_step_0 {l : Launch} {p : Program} {e : Env} {s : State} {m : MethodId} {args : Array Value} {below : List Frame} {meth : Method} {c : Code} {E : xm_E} {a : Nat → Nat} (C : xm_C E (xu E a) p s m args meth c RX7 cX7_step 5 (some .int)) (n : Nat) (M : xm_M) (x1 : Int32) (x2 : Int32) (x3 : Int32) (r : Int32) (M' : xm_M) : f_X7_step n M x1 x2 x3 = some (r, M') → ∀ (H : Heap) (locs : List Loc) (ls : Array Slot), va_P E.1 vwCl (xm_w (xu E a) M) H → va_S (xm_A (xu E a) s.heap.size) s.heap H locs → lv_has ls 5 [(0, .ref (a 0)), (1, .int x1), (2, .int x2), (3, .int x3)] → W p l e { frames := 2, cells := 0, slots := 0, locals := 46 } s m args below meth c H locs 0 0 (MQ below (xm_Q E (xu E a) M' s.heap.size (some r)) args s 0 0 (xm_A (xu E a) s.heap.size)) (F0 m 0 ls []) := by
  have C9 := C
  obtain ⟨hx, hb, hml, hown, hts, hr, hlk, hD, hK, hS9⟩ := C9
  intro h H locs ls hP hS hl
  unfold f_X7_step at h
  refine lv_aload_n hx hb dX7_step_0 rfl (lv_at hl 0 rfl) ?_
  refine lv_iload_n hx hb dX7_step_1 rfl (lv_at hl 1 rfl) ?_
  obtain ⟨r2, M1, e3, h⟩ := xm_b2_s h
  refine xm_callV C hP hS [.int x1] [] (c_X7_isPattern hD  n M x1 r2 M1 e3) k_X7_175 (xm_recv C hP 0 rfl (Nat.le_of_ble_eq_true rfl) ((xf_0 E a) _)) rfl rfl ⟨(Nat.le_of_ble_eq_true rfl), (Nat.le_of_ble_eq_true rfl)⟩ hl.1 (Nat.le_of_ble_eq_true rfl) ⟨Nat.zero_le _, Nat.zero_le _⟩ dX7_step_2 (fun H locs hP hS => ?_)
  change W p l e _ s m _ below meth c H locs 0 0 _ (F0 m 5 ls [.int r2])
  refine lv_if_ne (tgt := 10) hx hb dX7_step_5 (by decide) (fun c4 => ?_) (fun c4 => ?_)
  · rw [if_neg c4] at h
    refine lv_iload_n hx hb dX7_step_10 rfl (lv_at hl 2 rfl) ?_
    refine lv_i2l (v := x2.toInt64) hx hb dX7_step_11 rfl ?_
    refine lv_lconst (v := 0) hx hb dX7_step_12 (by decide) ?_
    refine lv_aload_n hx hb dX7_step_13 rfl (lv_at hl 0 rfl) ?_
    refine lv_iload_n hx hb dX7_step_14 rfl (lv_at hl 1 rfl) ?_
    refine lv_iconst (v := 2) hx hb dX7_step_15 (by decide) ?_
    obtain ⟨r6, M5, e7, h⟩ := xm_b2_s h
    refine xm_callV C hP hS [.int x1, .int 2] [.long 0, .long x2.toInt64] (c_X7_ofPattern hD  n M1 x1 2 r6 M5 e7) k_X7_66 (xm_recv C hP 0 rfl (Nat.le_of_ble_eq_true rfl) ((xf_0 E a) _)) rfl rfl ⟨(Nat.le_of_ble_eq_true rfl), (Nat.le_of_ble_eq_true rfl)⟩ hl.1 (Nat.le_of_ble_eq_true rfl) ⟨Nat.zero_le _, Nat.zero_le _⟩ dX7_step_16 (fun H locs hP hS => ?_)
    change W p l e _ s m _ below meth c H locs 0 0 _ (F0 m 19 ls [.int r6, .long 0, .long x2.toInt64])
    refine lv_i2l (v := r6.toInt64) hx hb dX7_step_19 rfl ?_
    refine lv_lconst (v := 1) hx hb dX7_step_20 (by decide) ?_
    refine lv_lsub hx hb dX7_step_21 ?_
    obtain ⟨r9, M8, e10, h⟩ := xm_b2_s h
    refine xm_callS C hP hS [.long x2.toInt64, .long 0, .long (r6.toInt64 - 1)] [] (c_X7_in hD  n M5 x2.toInt64 0 (r6.toInt64 - 1) r9 M8 e10) k_X7_50  rfl rfl ⟨(Nat.le_of_ble_eq_true rfl), (Nat.le_of_ble_eq_true rfl)⟩ hl.1 (Nat.le_of_ble_eq_true rfl) ⟨Nat.zero_le _, Nat.zero_le _⟩ dX7_step_22 (fun H locs hP hS => ?_)
    change W p l e _ s m _ below meth c H locs 0 0 _ (F0 m 25 ls [.int r9])
    refine lv_if_eq (tgt := 38) hx hb dX7_step_25 (by decide) (fun c11 => ?_) (fun c11 => ?_)
    · rw [if_pos c11] at h
      refine lv_bipush (v := (-2)) hx hb dX7_step_38 (by decide) ?_
      obtain ⟨rfl, rfl⟩ := xm_pr h
      exact xm_retI C hP hS dX7_step_40
    · rw [if_neg c11] at h
      refine lv_iload_n hx hb dX7_step_28 rfl (lv_at hl 3 rfl) ?_
      refine lv_i2l (v := x3.toInt64) hx hb dX7_step_29 rfl ?_
      refine lv_lconst (v := 0) hx hb dX7_step_30 (by decide) ?_
      refine lv_lconst (v := 1) hx hb dX7_step_31 (by decide) ?_
      obtain ⟨r13, M12, e14, h⟩ := xm_b2_s h
      refine xm_callS C hP hS [.long x3.toInt64, .long 0, .long 1] [] (c_X7_in hD  n M8 x3.toInt64 0 1 r13 M12 e14) k_X7_50  rfl rfl ⟨(Nat.le_of_ble_eq_true rfl), (Nat.le_of_ble_eq_true rfl)⟩ hl.1 (Nat.le_of_ble_eq_true rfl) ⟨Nat.zero_le _, Nat.zero_le _⟩ dX7_step_32 (fun H locs hP hS => ?_)
      change W p l e _ s m _ below meth c H locs 0 0 _ (F0 m 35 ls [.int r13])
      refine lv_if_ne (tgt := 41) hx hb dX7_step_35 (by decide) (fun c15 => ?_) (fun c15 => ?_)
      · rw [if_neg c15] at h
        refine lv_aload_n hx hb dX7_step_41 rfl (lv_at hl 0 rfl) ?_
        refine lv_iload_n hx hb dX7_step_42 rfl (lv_at hl 1 rfl) ?_
        refine lv_iconst (v := 3) hx hb dX7_step_43 (by decide) ?_
        refine lv_iload_n hx hb dX7_step_44 rfl (lv_at hl 2 rfl) ?_
        refine lv_iadd hx hb dX7_step_45 ?_
        obtain ⟨r17, M16, e18, h⟩ := xm_b2_s h
        refine xm_callV C hP hS [.int x1, .int (3 + x2)] [] (c_X7_ofPattern hD  n M12 x1 (3 + x2) r17 M16 e18) k_X7_66 (xm_recv C hP 0 rfl (Nat.le_of_ble_eq_true rfl) ((xf_0 E a) _)) rfl rfl ⟨(Nat.le_of_ble_eq_true rfl), (Nat.le_of_ble_eq_true rfl)⟩ hl.1 (Nat.le_of_ble_eq_true rfl) ⟨Nat.zero_le _, Nat.zero_le _⟩ dX7_step_46 (fun H locs hP hS => ?_)
        change W p l e _ s m _ below meth c H locs 0 0 _ (F0 m 49 ls [.int r17])
        refine lv_istore (lv' := [(4, .int r17), (0, .ref (a 0)), (1, .int x1), (2, .int x2), (3, .int x3)]) hx hb dX7_step_49 hl (by decide) rfl (fun ls hl => ?_)
        refine lv_iload_n hx hb dX7_step_51 rfl (lv_at hl 4 rfl) ?_
        refine lv_if_ne (tgt := 66) hx hb dX7_step_52 (by decide) (fun c19 => ?_) (fun c19 => ?_)
        · rw [if_neg c19] at h
          refine lv_iload hx hb dX7_step_66 (lv_at hl 0 rfl) ?_
          refine lv_bipush (v := 8) hx hb dX7_step_68 (by decide) ?_
          refine lv_idiv hx hb dX7_step_70 (by decide) ?_
          obtain ⟨rfl, rfl⟩ := xm_pr h
          exact xm_retI C hP hS dX7_step_71
        · rw [if_pos c19] at h
          refine lv_bipush (v := 97) hx hb dX7_step_55 (by decide) ?_
          refine lv_iload hx hb dX7_step_57 (lv_at hl 0 rfl) ?_
          refine lv_bipush (v := 8) hx hb dX7_step_59 (by decide) ?_
          refine lv_irem hx hb dX7_step_61 (by decide) ?_
          refine lv_iadd hx hb dX7_step_62 ?_
          refine lv_goto (tgt := 71) hx hb dX7_step_63 (by decide) ?_
          obtain ⟨rfl, rfl⟩ := xm_pr h
          exact xm_retI C hP hS dX7_step_71
      · rw [if_pos c15] at h
        refine lv_bipush (v := (-2)) hx hb dX7_step_38 (by decide) ?_
        obtain ⟨rfl, rfl⟩ := xm_pr h
        exact xm_retI C hP hS dX7_step_40
  · rw [if_pos c4] at h
    refine lv_iconst (v := (-1)) hx hb dX7_step_8 (by decide) ?_
    obtain ⟨rfl, rfl⟩ := xm_pr h
    exact xm_retI C hP hS dX7_step_9
theorem c_X7_step {l : Launch} {E : xm_E} {a : Nat → Nat} (hD : xm_D (xu E a)) (n : Nat) (M : xm_M) (x1 : Int32) (x2 : Int32) (x3 : Int32) (r : Int32) (M' : xm_M) (h : f_X7_step n M x1 x2 x3 = some (r, M')) : xm_Met l E (xu E a) yX7_step cX7_step 5 (some .int) 2 46 [.ref (a 0), .int x1, .int x2, .int x3] M M' (some r) :=
  xm_met (by decide +kernel) rfl (Nat.le_of_ble_eq_true rfl) hD (fun p e s m below meth c C hP ls hl => t_X7_step_0 C  n M x1 x2 x3 r M' h _ _ _ hP va_S.rf hl)
def f_X7_match (n : Nat) (M : xm_M) (x1 : Int32) (x2 : Int32) (x3 : Int32) : Option (Int32 × xm_M) := xm_b2 (f_X7_isPattern n M x1) (fun r2 M1 => if r2 = 0 then some ((-1), M1) else if x2 < 0 then some ((-2), M1) else xm_b2 (f_X7_plainSteps n M1 x1) (fun r7 M6 => xm_b2 (f_X7_in n M6 x3.toInt64 0 (r7.toInt64 - 1)) (fun r10 M9 => if r10 = 0 then some ((-2), M9) else xm_lt (xm_up M9 0 14 x2) (fun M13 => xm_b1 (f_X7_finds n M13 x1) (fun M15 => if (M15 0 10) ≤ x2 then some ((-5), M15) else xm_ck (xm_in x3 4) (some (M15 10 x3.toNatClampNeg, M15)))))))
set_option maxHeartbeats 4000000 in
set_option maxRecDepth 100000 in
theorem t_X7_match_0 {l : Launch} {p : Program} {e : Env} {s : State} {m : MethodId} {args : Array Value} {below : List Frame} {meth : Method} {c : Code} {E : xm_E} {a : Nat → Nat} (C : xm_C E (xu E a) p s m args meth c RX7 cX7_match 4 (some .int)) (n : Nat) (M : xm_M) (x1 : Int32) (x2 : Int32) (x3 : Int32) (r : Int32) (M' : xm_M) : f_X7_match n M x1 x2 x3 = some (r, M') → ∀ (H : Heap) (locs : List Loc) (ls : Array Slot), va_P E.1 vwCl (xm_w (xu E a) M) H → va_S (xm_A (xu E a) s.heap.size) s.heap H locs → lv_has ls 4 [(0, .ref (a 0)), (1, .int x1), (2, .int x2), (3, .int x3)] → W p l e { frames := 4, cells := 0, slots := 0, locals := 93 } s m args below meth c H locs 0 0 (MQ below (xm_Q E (xu E a) M' s.heap.size (some r)) args s 0 0 (xm_A (xu E a) s.heap.size)) (F0 m 0 ls []) := by
  have C9 := C
  obtain ⟨hx, hb, hml, hown, hts, hr, hlk, hD, hK, hS9⟩ := C9
  intro h H locs ls hP hS hl
  unfold f_X7_match at h
  refine lv_aload_n hx hb dX7_match_0 rfl (lv_at hl 0 rfl) ?_
  refine lv_iload_n hx hb dX7_match_1 rfl (lv_at hl 1 rfl) ?_
  obtain ⟨r2, M1, e3, h⟩ := xm_b2_s h
  refine xm_callV C hP hS [.int x1] [] (c_X7_isPattern hD  n M x1 r2 M1 e3) k_X7_175 (xm_recv C hP 0 rfl (Nat.le_of_ble_eq_true rfl) ((xf_0 E a) _)) rfl rfl ⟨(Nat.le_of_ble_eq_true rfl), (Nat.le_of_ble_eq_true rfl)⟩ hl.1 (Nat.le_of_ble_eq_true rfl) ⟨Nat.zero_le _, Nat.zero_le _⟩ dX7_match_2 (fun H locs hP hS => ?_)
  change W p l e _ s m _ below meth c H locs 0 0 _ (F0 m 5 ls [.int r2])
  refine lv_if_ne (tgt := 10) hx hb dX7_match_5 (by decide) (fun c4 => ?_) (fun c4 => ?_)
  · rw [if_neg c4] at h
    refine lv_iload_n hx hb dX7_match_10 rfl (lv_at hl 2 rfl) ?_
    refine lv_if_lt (tgt := 31) hx hb dX7_match_11 (by decide) (fun c5 => ?_) (fun c5 => ?_)
    · rw [if_pos c5] at h
      refine lv_bipush (v := (-2)) hx hb dX7_match_31 (by decide) ?_
      obtain ⟨rfl, rfl⟩ := xm_pr h
      exact xm_retI C hP hS dX7_match_33
    · rw [if_neg c5] at h
      refine lv_iload_n hx hb dX7_match_14 rfl (lv_at hl 3 rfl) ?_
      refine lv_i2l (v := x3.toInt64) hx hb dX7_match_15 rfl ?_
      refine lv_lconst (v := 0) hx hb dX7_match_16 (by decide) ?_
      refine lv_aload_n hx hb dX7_match_17 rfl (lv_at hl 0 rfl) ?_
      refine lv_iload_n hx hb dX7_match_18 rfl (lv_at hl 1 rfl) ?_
      obtain ⟨r7, M6, e8, h⟩ := xm_b2_s h
      refine xm_callV C hP hS [.int x1] [.long 0, .long x3.toInt64] (c_X7_plainSteps hD  n M1 x1 r7 M6 e8) k_X7_89 (xm_recv C hP 0 rfl (Nat.le_of_ble_eq_true rfl) ((xf_0 E a) _)) rfl rfl ⟨(Nat.le_of_ble_eq_true rfl), (Nat.le_of_ble_eq_true rfl)⟩ hl.1 (Nat.le_of_ble_eq_true rfl) ⟨Nat.zero_le _, Nat.zero_le _⟩ dX7_match_19 (fun H locs hP hS => ?_)
      change W p l e _ s m _ below meth c H locs 0 0 _ (F0 m 22 ls [.int r7, .long 0, .long x3.toInt64])
      refine lv_i2l (v := r7.toInt64) hx hb dX7_match_22 rfl ?_
      refine lv_lconst (v := 1) hx hb dX7_match_23 (by decide) ?_
      refine lv_lsub hx hb dX7_match_24 ?_
      obtain ⟨r10, M9, e11, h⟩ := xm_b2_s h
      refine xm_callS C hP hS [.long x3.toInt64, .long 0, .long (r7.toInt64 - 1)] [] (c_X7_in hD  n M6 x3.toInt64 0 (r7.toInt64 - 1) r10 M9 e11) k_X7_50  rfl rfl ⟨(Nat.le_of_ble_eq_true rfl), (Nat.le_of_ble_eq_true rfl)⟩ hl.1 (Nat.le_of_ble_eq_true rfl) ⟨Nat.zero_le _, Nat.zero_le _⟩ dX7_match_25 (fun H locs hP hS => ?_)
      change W p l e _ s m _ below meth c H locs 0 0 _ (F0 m 28 ls [.int r10])
      refine lv_if_ne (tgt := 34) hx hb dX7_match_28 (by decide) (fun c12 => ?_) (fun c12 => ?_)
      · rw [if_neg c12] at h
        refine lv_aload_n hx hb dX7_match_34 rfl (lv_at hl 0 rfl) ?_
        refine lv_iload_n hx hb dX7_match_35 rfl (lv_at hl 2 rfl) ?_
        obtain ⟨M13, e14, h⟩ := xm_lt_s h
        refine xm_put (V := (xu E a)) (T := TX7) (ty := .int) (x := x2) C hP hS 0 14 xi_7 rfl l_X7_79 rfl tyX7_ok nmX7 (Nat.le_of_ble_eq_true rfl) ((xf_0 E a) _) (Nat.le_of_ble_eq_true rfl) rfl (by decide +kernel) rfl rfl (Nat.le_of_ble_eq_true rfl) ((xf_0 E a) _) dX7_match_36 (fun H locs hP hS => ?_)
        rw [← e14] at hP
        refine lv_aload_n hx hb dX7_match_39 rfl (lv_at hl 0 rfl) ?_
        refine lv_iload_n hx hb dX7_match_40 rfl (lv_at hl 1 rfl) ?_
        obtain ⟨M15, e17, h⟩ := xm_b1_s h
        refine xm_callV C hP hS [.int x1] [] (c_X7_finds hD  n M13 x1 M15 e17) k_X7_109 (xm_recv C hP 0 rfl (Nat.le_of_ble_eq_true rfl) ((xf_0 E a) _)) rfl rfl ⟨(Nat.le_of_ble_eq_true rfl), (Nat.le_of_ble_eq_true rfl)⟩ hl.1 (Nat.le_of_ble_eq_true rfl) ⟨Nat.zero_le _, Nat.zero_le _⟩ dX7_match_41 (fun H locs hP hS => ?_)
        change W p l e _ s m _ below meth c H locs 0 0 _ (F0 m 44 ls [])
        refine lv_iload_n hx hb dX7_match_44 rfl (lv_at hl 2 rfl) ?_
        refine lv_aload_n hx hb dX7_match_45 rfl (lv_at hl 0 rfl) ?_
        refine xm_get (V := (xu E a)) (T := TX7) (v := .int (M15 0 10)) C hP 0 10 xi_7 rfl l_X7_76 rfl (Nat.le_of_ble_eq_true rfl) ((xf_0 E a) _) (Nat.le_of_ble_eq_true rfl) rfl dX7_match_46 ?_
        refine lv_icmp_ge (tgt := 61) hx hb dX7_match_49 (by decide) (fun c18 => ?_) (fun c18 => ?_)
        · rw [if_pos c18] at h
          refine lv_bipush (v := (-5)) hx hb dX7_match_61 (by decide) ?_
          obtain ⟨rfl, rfl⟩ := xm_pr h
          exact xm_retI C hP hS dX7_match_63
        · rw [if_neg c18] at h
          refine lv_aload_n hx hb dX7_match_52 rfl (lv_at hl 0 rfl) ?_
          refine xm_get (V := (xu E a)) (T := TX7) (v := .ref (a 10)) C hP 0 15 xi_7 rfl l_X7_37 rfl (Nat.le_of_ble_eq_true rfl) ((xf_0 E a) _) (Nat.le_of_ble_eq_true rfl) rfl dX7_match_53 ?_
          refine lv_iload_n hx hb dX7_match_56 rfl (lv_at hl 3 rfl) ?_
          obtain ⟨b19, h⟩ := xm_ck_s h
          refine xm_iald (V := (xu E a)) C hP 10 4 (Nat.le_of_ble_eq_true rfl) (xf_10 E a) b19 dX7_match_57 ?_
          refine lv_goto (tgt := 63) hx hb dX7_match_58 (by decide) ?_
          obtain ⟨rfl, rfl⟩ := xm_pr h
          exact xm_retI C hP hS dX7_match_63
      · rw [if_pos c12] at h
        refine lv_bipush (v := (-2)) hx hb dX7_match_31 (by decide) ?_
        obtain ⟨rfl, rfl⟩ := xm_pr h
        exact xm_retI C hP hS dX7_match_33
  · rw [if_pos c4] at h
    refine lv_iconst (v := (-1)) hx hb dX7_match_8 (by decide) ?_
    obtain ⟨rfl, rfl⟩ := xm_pr h
    exact xm_retI C hP hS dX7_match_9
theorem c_X7_match {l : Launch} {E : xm_E} {a : Nat → Nat} (hD : xm_D (xu E a)) (n : Nat) (M : xm_M) (x1 : Int32) (x2 : Int32) (x3 : Int32) (r : Int32) (M' : xm_M) (h : f_X7_match n M x1 x2 x3 = some (r, M')) : xm_Met l E (xu E a) yX7_match cX7_match 4 (some .int) 4 93 [.ref (a 0), .int x1, .int x2, .int x3] M M' (some r) :=
  xm_met (by decide +kernel) rfl (Nat.le_of_ble_eq_true rfl) hD (fun p e s m below meth c C hP ls hl => t_X7_match_0 C  n M x1 x2 x3 r M' h _ _ _ hP va_S.rf hl)
def f_X7_ifEvent (n : Nat) (M : xm_M) (x1 : Int32) (x2 : Int32) (x3 : Int32) : Option (Int32 × xm_M) := xm_b2 (f_X7_isWell n M x1 x2 x3) (fun r2 M1 => if r2 = 0 then some ((-2), M1) else xm_b2 (f_X7_isLate n M1 x3) (fun r6 M5 => if r6 = 0 then xm_ck (xm_in 1 119) (xm_b1 (f_X7_comes n M5 x1 x2 x3) (fun M10 => xm_b2 (f_X7_allMatches n M10) (fun r14 M13 => xm_ck (xm_in 0 119) (xm_ck (xm_in 0 119) (xm_lt (xm_up M13 1 (0 : Int32).toNatClampNeg ((M13 1 (0 : Int32).toNatClampNeg) - 1)) (fun M18 => xm_ck (xm_in 1 119) (xm_lt (xm_up M18 1 (1 : Int32).toNatClampNeg (M5 1 (1 : Int32).toNatClampNeg)) (fun M21 => some (r14, M21))))))))) else some ((-4), M5)))
set_option maxHeartbeats 4000000 in
set_option maxRecDepth 100000 in
theorem t_X7_ifEvent_0 {l : Launch} {p : Program} {e : Env} {s : State} {m : MethodId} {args : Array Value} {below : List Frame} {meth : Method} {c : Code} {E : xm_E} {a : Nat → Nat} (C : xm_C E (xu E a) p s m args meth c RX7 cX7_ifEvent 6 (some .int)) (n : Nat) (M : xm_M) (x1 : Int32) (x2 : Int32) (x3 : Int32) (r : Int32) (M' : xm_M) : f_X7_ifEvent n M x1 x2 x3 = some (r, M') → ∀ (H : Heap) (locs : List Loc) (ls : Array Slot), va_P E.1 vwCl (xm_w (xu E a) M) H → va_S (xm_A (xu E a) s.heap.size) s.heap H locs → lv_has ls 6 [(0, .ref (a 0)), (1, .int x1), (2, .int x2), (3, .int x3)] → W p l e { frames := 5, cells := 0, slots := 0, locals := 115 } s m args below meth c H locs 0 0 (MQ below (xm_Q E (xu E a) M' s.heap.size (some r)) args s 0 0 (xm_A (xu E a) s.heap.size)) (F0 m 0 ls []) := by
  have C9 := C
  obtain ⟨hx, hb, hml, hown, hts, hr, hlk, hD, hK, hS9⟩ := C9
  intro h H locs ls hP hS hl
  unfold f_X7_ifEvent at h
  refine lv_iload_n hx hb dX7_ifEvent_0 rfl (lv_at hl 1 rfl) ?_
  refine lv_iload_n hx hb dX7_ifEvent_1 rfl (lv_at hl 2 rfl) ?_
  refine lv_iload_n hx hb dX7_ifEvent_2 rfl (lv_at hl 3 rfl) ?_
  obtain ⟨r2, M1, e3, h⟩ := xm_b2_s h
  refine xm_callS C hP hS [.int x1, .int x2, .int x3] [] (c_X7_isWell hD  n M x1 x2 x3 r2 M1 e3) k_X7_112  rfl rfl ⟨(Nat.le_of_ble_eq_true rfl), (Nat.le_of_ble_eq_true rfl)⟩ hl.1 (Nat.le_of_ble_eq_true rfl) ⟨Nat.zero_le _, Nat.zero_le _⟩ dX7_ifEvent_3 (fun H locs hP hS => ?_)
  change W p l e _ s m _ below meth c H locs 0 0 _ (F0 m 6 ls [.int r2])
  refine lv_if_ne (tgt := 12) hx hb dX7_ifEvent_6 (by decide) (fun c4 => ?_) (fun c4 => ?_)
  · rw [if_neg c4] at h
    refine lv_aload_n hx hb dX7_ifEvent_12 rfl (lv_at hl 0 rfl) ?_
    refine lv_iload_n hx hb dX7_ifEvent_13 rfl (lv_at hl 3 rfl) ?_
    obtain ⟨r6, M5, e7, h⟩ := xm_b2_s h
    refine xm_callV C hP hS [.int x3] [] (c_X7_isLate hD  n M1 x3 r6 M5 e7) k_X7_116 (xm_recv C hP 0 rfl (Nat.le_of_ble_eq_true rfl) ((xf_0 E a) _)) rfl rfl ⟨(Nat.le_of_ble_eq_true rfl), (Nat.le_of_ble_eq_true rfl)⟩ hl.1 (Nat.le_of_ble_eq_true rfl) ⟨Nat.zero_le _, Nat.zero_le _⟩ dX7_ifEvent_14 (fun H locs hP hS => ?_)
    change W p l e _ s m _ below meth c H locs 0 0 _ (F0 m 17 ls [.int r6])
    refine lv_if_eq (tgt := 23) hx hb dX7_ifEvent_17 (by decide) (fun c8 => ?_) (fun c8 => ?_)
    · rw [if_pos c8] at h
      refine lv_aload_n hx hb dX7_ifEvent_23 rfl (lv_at hl 0 rfl) ?_
      refine xm_get (V := (xu E a)) (T := TX7) (v := .ref (a 1)) C hP 0 0 xi_7 rfl l_X7_7 rfl (Nat.le_of_ble_eq_true rfl) ((xf_0 E a) _) (Nat.le_of_ble_eq_true rfl) rfl dX7_ifEvent_24 ?_
      refine lv_iconst (v := 1) hx hb dX7_ifEvent_27 (by decide) ?_
      obtain ⟨b9, h⟩ := xm_ck_s h
      refine xm_iald (V := (xu E a)) C hP 1 119 (Nat.le_of_ble_eq_true rfl) (xf_1 E a) b9 dX7_ifEvent_28 ?_
      refine lv_istore (lv' := [(4, .int (M5 1 (1 : Int32).toNatClampNeg)), (0, .ref (a 0)), (1, .int x1), (2, .int x2), (3, .int x3)]) hx hb dX7_ifEvent_29 hl (by decide) rfl (fun ls hl => ?_)
      refine lv_aload_n hx hb dX7_ifEvent_31 rfl (lv_at hl 1 rfl) ?_
      refine lv_iload_n hx hb dX7_ifEvent_32 rfl (lv_at hl 2 rfl) ?_
      refine lv_iload_n hx hb dX7_ifEvent_33 rfl (lv_at hl 3 rfl) ?_
      refine lv_iload_n hx hb dX7_ifEvent_34 rfl (lv_at hl 4 rfl) ?_
      obtain ⟨M10, e12, h⟩ := xm_b1_s h
      refine xm_callV C hP hS [.int x1, .int x2, .int x3] [] (c_X7_comes hD  n M5 x1 x2 x3 M10 e12) k_X7_123 (xm_recv C hP 0 rfl (Nat.le_of_ble_eq_true rfl) ((xf_0 E a) _)) rfl rfl ⟨(Nat.le_of_ble_eq_true rfl), (Nat.le_of_ble_eq_true rfl)⟩ hl.1 (Nat.le_of_ble_eq_true rfl) ⟨Nat.zero_le _, Nat.zero_le _⟩ dX7_ifEvent_35 (fun H locs hP hS => ?_)
      change W p l e _ s m _ below meth c H locs 0 0 _ (F0 m 38 ls [])
      refine lv_aload_n hx hb dX7_ifEvent_38 rfl (lv_at hl 1 rfl) ?_
      obtain ⟨r14, M13, e15, h⟩ := xm_b2_s h
      refine xm_callV C hP hS [] [] (c_X7_allMatches hD  n M10  r14 M13 e15) k_X7_189 (xm_recv C hP 0 rfl (Nat.le_of_ble_eq_true rfl) ((xf_0 E a) _)) rfl rfl ⟨(Nat.le_of_ble_eq_true rfl), (Nat.le_of_ble_eq_true rfl)⟩ hl.1 (Nat.le_of_ble_eq_true rfl) ⟨Nat.zero_le _, Nat.zero_le _⟩ dX7_ifEvent_39 (fun H locs hP hS => ?_)
      change W p l e _ s m _ below meth c H locs 0 0 _ (F0 m 42 ls [.int r14])
      refine lv_istore (lv' := [(5, .int r14), (4, .int (M5 1 (1 : Int32).toNatClampNeg)), (0, .ref (a 0)), (1, .int x1), (2, .int x2), (3, .int x3)]) hx hb dX7_ifEvent_42 hl (by decide) rfl (fun ls hl => ?_)
      refine lv_aload_n hx hb dX7_ifEvent_44 rfl (lv_at hl 2 rfl) ?_
      refine xm_get (V := (xu E a)) (T := TX7) (v := .ref (a 1)) C hP 0 0 xi_7 rfl l_X7_7 rfl (Nat.le_of_ble_eq_true rfl) ((xf_0 E a) _) (Nat.le_of_ble_eq_true rfl) rfl dX7_ifEvent_45 ?_
      refine lv_iconst (v := 0) hx hb dX7_ifEvent_48 (by decide) ?_
      refine lv_dup2_11 hx hb dX7_ifEvent_49 rfl rfl ?_
      obtain ⟨b16, h⟩ := xm_ck_s h
      refine xm_iald (V := (xu E a)) C hP 1 119 (Nat.le_of_ble_eq_true rfl) (xf_1 E a) b16 dX7_ifEvent_50 ?_
      refine lv_iconst (v := 1) hx hb dX7_ifEvent_51 (by decide) ?_
      refine lv_isub hx hb dX7_ifEvent_52 ?_
      obtain ⟨b17, h⟩ := xm_ck_s h
      obtain ⟨M18, e19, h⟩ := xm_lt_s h
      refine xm_iast (V := (xu E a)) C hP hS 1 119 (Nat.le_of_ble_eq_true rfl) (xf_1 E a) b17 dX7_ifEvent_53 (fun H locs hP hS => ?_)
      rw [← e19] at hP
      refine lv_aload_n hx hb dX7_ifEvent_54 rfl (lv_at hl 2 rfl) ?_
      refine xm_get (V := (xu E a)) (T := TX7) (v := .ref (a 1)) C hP 0 0 xi_7 rfl l_X7_7 rfl (Nat.le_of_ble_eq_true rfl) ((xf_0 E a) _) (Nat.le_of_ble_eq_true rfl) rfl dX7_ifEvent_55 ?_
      refine lv_iconst (v := 1) hx hb dX7_ifEvent_58 (by decide) ?_
      refine lv_iload hx hb dX7_ifEvent_59 (lv_at hl 1 rfl) ?_
      obtain ⟨b20, h⟩ := xm_ck_s h
      obtain ⟨M21, e22, h⟩ := xm_lt_s h
      refine xm_iast (V := (xu E a)) C hP hS 1 119 (Nat.le_of_ble_eq_true rfl) (xf_1 E a) b20 dX7_ifEvent_61 (fun H locs hP hS => ?_)
      rw [← e22] at hP
      refine lv_iload hx hb dX7_ifEvent_62 (lv_at hl 0 rfl) ?_
      obtain ⟨rfl, rfl⟩ := xm_pr h
      exact xm_retI C hP hS dX7_ifEvent_64
    · rw [if_neg c8] at h
      refine lv_bipush (v := (-4)) hx hb dX7_ifEvent_20 (by decide) ?_
      obtain ⟨rfl, rfl⟩ := xm_pr h
      exact xm_retI C hP hS dX7_ifEvent_22
  · rw [if_pos c4] at h
    refine lv_bipush (v := (-2)) hx hb dX7_ifEvent_9 (by decide) ?_
    obtain ⟨rfl, rfl⟩ := xm_pr h
    exact xm_retI C hP hS dX7_ifEvent_11
theorem c_X7_ifEvent {l : Launch} {E : xm_E} {a : Nat → Nat} (hD : xm_D (xu E a)) (n : Nat) (M : xm_M) (x1 : Int32) (x2 : Int32) (x3 : Int32) (r : Int32) (M' : xm_M) (h : f_X7_ifEvent n M x1 x2 x3 = some (r, M')) : xm_Met l E (xu E a) yX7_ifEvent cX7_ifEvent 6 (some .int) 5 115 [.ref (a 0), .int x1, .int x2, .int x3] M M' (some r) :=
  xm_met (by decide +kernel) rfl (Nat.le_of_ble_eq_true rfl) hD (fun p e s m below meth c C hP ls hl => t_X7_ifEvent_0 C  n M x1 x2 x3 r M' h _ _ _ hP va_S.rf hl)
def f_X7_unmatched_9 : Nat → xm_M → Int32 → Int32 → Option (Int32 × xm_M)
  | 0, _, _, _ => none
  | n + 1, M, x2, x3 => xm_ck (xm_in 0 119) (if (M 1 (0 : Int32).toNatClampNeg) ≤ x3 then some (x2, M) else xm_ck (xm_in x3 25) (if (M 9 x3.toNatClampNeg) = 0 then f_X7_unmatched_9 n M (x2 + 1) (x3 + 1) else f_X7_unmatched_9 n M (x2 + 0) (x3 + 1)))
set_option maxHeartbeats 4000000 in
set_option maxRecDepth 100000 in
theorem t_X7_unmatched_9 {l : Launch} {p : Program} {e : Env} {s : State} {m : MethodId} {args : Array Value} {below : List Frame} {meth : Method} {c : Code} {E : xm_E} {a : Nat → Nat} (C : xm_C E (xu E a) p s m args meth c RX7 cX7_unmatched 4 (some .int)) : ∀ (n : Nat) (M : xm_M) (x2 : Int32) (x3 : Int32) (r : Int32) (M' : xm_M), f_X7_unmatched_9 n M x2 x3 = some (r, M') → ∀ (H : Heap) (locs : List Loc) (ls : Array Slot), va_P E.1 vwCl (xm_w (xu E a) M) H → va_S (xm_A (xu E a) s.heap.size) s.heap H locs → lv_has ls 4 [(0, .ref (a 0)), (2, .int x2), (3, .int x3)] → W p l e { frames := 5, cells := 0, slots := 0, locals := 115 } s m args below meth c H locs 0 0 (MQ below (xm_Q E (xu E a) M' s.heap.size (some r)) args s 0 0 (xm_A (xu E a) s.heap.size)) (F0 m 9 ls []) := by
  have C9 := C
  obtain ⟨hx, hb, hml, hown, hts, hr, hlk, hD, hK, hS9⟩ := C9
  intro n
  induction n with
  | zero =>
    intro M x2 x3 r M' h
    cases h
  | succ n ih =>
    intro M x2 x3 r M' h H locs ls hP hS hl
    rw [f_X7_unmatched_9] at h
    refine lv_iload_n hx hb dX7_unmatched_9 rfl (lv_at hl 2 rfl) ?_
    refine lv_aload_n hx hb dX7_unmatched_10 rfl (lv_at hl 0 rfl) ?_
    refine xm_get (V := (xu E a)) (T := TX7) (v := .ref (a 1)) C hP 0 0 xi_7 rfl l_X7_7 rfl (Nat.le_of_ble_eq_true rfl) ((xf_0 E a) _) (Nat.le_of_ble_eq_true rfl) rfl dX7_unmatched_11 ?_
    refine lv_iconst (v := 0) hx hb dX7_unmatched_14 (by decide) ?_
    obtain ⟨b1, h⟩ := xm_ck_s h
    refine xm_iald (V := (xu E a)) C hP 1 119 (Nat.le_of_ble_eq_true rfl) (xf_1 E a) b1 dX7_unmatched_15 ?_
    refine lv_icmp_ge (tgt := 42) hx hb dX7_unmatched_16 (by decide) (fun c2 => ?_) (fun c2 => ?_)
    · rw [if_pos c2] at h
      refine lv_iload_n hx hb dX7_unmatched_42 rfl (lv_at hl 1 rfl) ?_
      obtain ⟨rfl, rfl⟩ := xm_pr h
      exact xm_retI C hP hS dX7_unmatched_43
    · rw [if_neg c2] at h
      refine lv_iload_n hx hb dX7_unmatched_19 rfl (lv_at hl 1 rfl) ?_
      refine lv_aload_n hx hb dX7_unmatched_20 rfl (lv_at hl 0 rfl) ?_
      refine xm_get (V := (xu E a)) (T := TX7) (v := .ref (a 9)) C hP 0 13 xi_7 rfl l_X7_34 rfl (Nat.le_of_ble_eq_true rfl) ((xf_0 E a) _) (Nat.le_of_ble_eq_true rfl) rfl dX7_unmatched_21 ?_
      refine lv_iload_n hx hb dX7_unmatched_24 rfl (lv_at hl 2 rfl) ?_
      obtain ⟨b3, h⟩ := xm_ck_s h
      refine xm_iald (V := (xu E a)) C hP 9 25 (Nat.le_of_ble_eq_true rfl) (xf_9 E a) b3 dX7_unmatched_25 ?_
      refine lv_if_ne (tgt := 33) hx hb dX7_unmatched_26 (by decide) (fun c4 => ?_) (fun c4 => ?_)
      · rw [if_neg c4] at h
        refine lv_iconst (v := 0) hx hb dX7_unmatched_33 (by decide) ?_
        refine lv_iadd hx hb dX7_unmatched_34 ?_
        refine lv_istore_n (lv' := [(2, .int (x2 + 0)), (0, .ref (a 0)), (3, .int x3)]) hx hb dX7_unmatched_35 rfl hl (by decide) rfl (fun ls hl => ?_)
        refine lv_iinc (v := x3 + 1) (lv' := [(3, .int (x3 + 1)), (2, .int (x2 + 0)), (0, .ref (a 0))]) hx hb dX7_unmatched_36 hl (k := 2) rfl (xm_add (by decide)) (by decide) rfl (fun ls hl => ?_)
        refine lv_goto (tgt := 9) hx hb dX7_unmatched_39 (by decide) ?_
        exact ih M (x2 + 0) (x3 + 1) r M' h _ _ _ hP hS (lv_sub hl [2, 1, 0] rfl)
      · rw [if_pos c4] at h
        refine lv_iconst (v := 1) hx hb dX7_unmatched_29 (by decide) ?_
        refine lv_goto (tgt := 34) hx hb dX7_unmatched_30 (by decide) ?_
        refine lv_iadd hx hb dX7_unmatched_34 ?_
        refine lv_istore_n (lv' := [(2, .int (x2 + 1)), (0, .ref (a 0)), (3, .int x3)]) hx hb dX7_unmatched_35 rfl hl (by decide) rfl (fun ls hl => ?_)
        refine lv_iinc (v := x3 + 1) (lv' := [(3, .int (x3 + 1)), (2, .int (x2 + 1)), (0, .ref (a 0))]) hx hb dX7_unmatched_36 hl (k := 2) rfl (xm_add (by decide)) (by decide) rfl (fun ls hl => ?_)
        refine lv_goto (tgt := 9) hx hb dX7_unmatched_39 (by decide) ?_
        exact ih M (x2 + 1) (x3 + 1) r M' h _ _ _ hP hS (lv_sub hl [2, 1, 0] rfl)
def f_X7_unmatched (n : Nat) (M : xm_M) : Option (Int32 × xm_M) := xm_b2 (f_X7_allMatches n M) (fun r2 M1 => f_X7_unmatched_9 n M1 0 0)
set_option maxHeartbeats 4000000 in
set_option maxRecDepth 100000 in
theorem t_X7_unmatched_0 {l : Launch} {p : Program} {e : Env} {s : State} {m : MethodId} {args : Array Value} {below : List Frame} {meth : Method} {c : Code} {E : xm_E} {a : Nat → Nat} (C : xm_C E (xu E a) p s m args meth c RX7 cX7_unmatched 4 (some .int)) (n : Nat) (M : xm_M) (r : Int32) (M' : xm_M) : f_X7_unmatched n M = some (r, M') → ∀ (H : Heap) (locs : List Loc) (ls : Array Slot), va_P E.1 vwCl (xm_w (xu E a) M) H → va_S (xm_A (xu E a) s.heap.size) s.heap H locs → lv_has ls 4 [(0, .ref (a 0))] → W p l e { frames := 5, cells := 0, slots := 0, locals := 115 } s m args below meth c H locs 0 0 (MQ below (xm_Q E (xu E a) M' s.heap.size (some r)) args s 0 0 (xm_A (xu E a) s.heap.size)) (F0 m 0 ls []) := by
  have C9 := C
  obtain ⟨hx, hb, hml, hown, hts, hr, hlk, hD, hK, hS9⟩ := C9
  intro h H locs ls hP hS hl
  unfold f_X7_unmatched at h
  refine lv_aload_n hx hb dX7_unmatched_0 rfl (lv_at hl 0 rfl) ?_
  obtain ⟨r2, M1, e3, h⟩ := xm_b2_s h
  refine xm_callV C hP hS [] [] (c_X7_allMatches hD  n M  r2 M1 e3) k_X7_189 (xm_recv C hP 0 rfl (Nat.le_of_ble_eq_true rfl) ((xf_0 E a) _)) rfl rfl ⟨(Nat.le_of_ble_eq_true rfl), (Nat.le_of_ble_eq_true rfl)⟩ hl.1 (Nat.le_of_ble_eq_true rfl) ⟨Nat.zero_le _, Nat.zero_le _⟩ dX7_unmatched_1 (fun H locs hP hS => ?_)
  change W p l e _ s m _ below meth c H locs 0 0 _ (F0 m 4 ls [.int r2])
  refine lv_istore_n (lv' := [(1, .int r2), (0, .ref (a 0))]) hx hb dX7_unmatched_4 rfl hl (by decide) rfl (fun ls hl => ?_)
  refine lv_iconst (v := 0) hx hb dX7_unmatched_5 (by decide) ?_
  refine lv_istore_n (lv' := [(2, .int 0), (1, .int r2), (0, .ref (a 0))]) hx hb dX7_unmatched_6 rfl hl (by decide) rfl (fun ls hl => ?_)
  refine lv_iconst (v := 0) hx hb dX7_unmatched_7 (by decide) ?_
  refine lv_istore_n (lv' := [(3, .int 0), (2, .int 0), (1, .int r2), (0, .ref (a 0))]) hx hb dX7_unmatched_8 rfl hl (by decide) rfl (fun ls hl => ?_)
  exact t_X7_unmatched_9 C  n M1 0 0 r M' h _ _ _ hP hS (lv_sub hl [3, 1, 0] rfl)
theorem c_X7_unmatched {l : Launch} {E : xm_E} {a : Nat → Nat} (hD : xm_D (xu E a)) (n : Nat) (M : xm_M) (r : Int32) (M' : xm_M) (h : f_X7_unmatched n M = some (r, M')) : xm_Met l E (xu E a) yX7_unmatched cX7_unmatched 4 (some .int) 5 115 [.ref (a 0)] M M' (some r) :=
  xm_met (by decide +kernel) rfl (Nat.le_of_ble_eq_true rfl) hD (fun p e s m below meth c C hP ls hl => t_X7_unmatched_0 C  n M r M' h _ _ _ hP va_S.rf hl)
def f_X7_count (n : Nat) (M : xm_M) (x1 : Int32) : Option (Int32 × xm_M) := if x1 = 0 then xm_ck (xm_in 0 119) (some (M 1 (0 : Int32).toNatClampNeg, M)) else if x1 = 1 then xm_ck (xm_in 3 119) (some (M 1 (3 : Int32).toNatClampNeg, M)) else if x1 = 2 then xm_b2 (f_X7_allMatches n M) (fun r7 M6 => some (r7, M6)) else if x1 = 3 then xm_ck (xm_in 1 119) (some (M 1 (1 : Int32).toNatClampNeg, M)) else if x1 = 4 then xm_b2 (f_X7_watermark n M) (fun r13 M12 => some (r13, M12)) else if x1 = 5 then xm_ck (xm_in 2 119) (some (M 1 (2 : Int32).toNatClampNeg, M)) else if x1 = 6 then xm_b2 (f_X7_unmatched n M) (fun r19 M18 => some (r19, M18)) else if x1 = 7 then some (M 0 3, M) else if x1 = 8 then some (M 0 17, M) else some ((-2), M)
set_option maxHeartbeats 4000000 in
set_option maxRecDepth 100000 in
theorem t_X7_count_0 {l : Launch} {p : Program} {e : Env} {s : State} {m : MethodId} {args : Array Value} {below : List Frame} {meth : Method} {c : Code} {E : xm_E} {a : Nat → Nat} (C : xm_C E (xu E a) p s m args meth c RX7 cX7_count 2 (some .int)) (n : Nat) (M : xm_M) (x1 : Int32) (r : Int32) (M' : xm_M) : f_X7_count n M x1 = some (r, M') → ∀ (H : Heap) (locs : List Loc) (ls : Array Slot), va_P E.1 vwCl (xm_w (xu E a) M) H → va_S (xm_A (xu E a) s.heap.size) s.heap H locs → lv_has ls 2 [(0, .ref (a 0)), (1, .int x1)] → W p l e { frames := 6, cells := 0, slots := 0, locals := 138 } s m args below meth c H locs 0 0 (MQ below (xm_Q E (xu E a) M' s.heap.size (some r)) args s 0 0 (xm_A (xu E a) s.heap.size)) (F0 m 0 ls []) := by
  have C9 := C
  obtain ⟨hx, hb, hml, hown, hts, hr, hlk, hD, hK, hS9⟩ := C9
  intro h H locs ls hP hS hl
  unfold f_X7_count at h
  refine lv_iload_n hx hb dX7_count_0 rfl (lv_at hl 1 rfl) ?_
  by_cases c1 : x1 = 0
  · rw [if_pos c1] at h
    refine lv_tableIn (tgt := 52) hx hb dX7_count_1 (by rw [c1]; decide) (by rw [c1]; decide) (by rw [c1]; rfl) (by decide) ?_
    refine lv_aload_n hx hb dX7_count_52 rfl (lv_at hl 0 rfl) ?_
    refine xm_get (V := (xu E a)) (T := TX7) (v := .ref (a 1)) C hP 0 0 xi_7 rfl l_X7_7 rfl (Nat.le_of_ble_eq_true rfl) ((xf_0 E a) _) (Nat.le_of_ble_eq_true rfl) rfl dX7_count_53 ?_
    refine lv_iconst (v := 0) hx hb dX7_count_56 (by decide) ?_
    obtain ⟨b2, h⟩ := xm_ck_s h
    refine xm_iald (V := (xu E a)) C hP 1 119 (Nat.le_of_ble_eq_true rfl) (xf_1 E a) b2 dX7_count_57 ?_
    obtain ⟨rfl, rfl⟩ := xm_pr h
    exact xm_retI C hP hS dX7_count_58
  · rw [if_neg c1] at h
    by_cases c3 : x1 = 1
    · rw [if_pos c3] at h
      refine lv_tableIn (tgt := 59) hx hb dX7_count_1 (by rw [c3]; decide) (by rw [c3]; decide) (by rw [c3]; rfl) (by decide) ?_
      refine lv_aload_n hx hb dX7_count_59 rfl (lv_at hl 0 rfl) ?_
      refine xm_get (V := (xu E a)) (T := TX7) (v := .ref (a 1)) C hP 0 0 xi_7 rfl l_X7_7 rfl (Nat.le_of_ble_eq_true rfl) ((xf_0 E a) _) (Nat.le_of_ble_eq_true rfl) rfl dX7_count_60 ?_
      refine lv_iconst (v := 3) hx hb dX7_count_63 (by decide) ?_
      obtain ⟨b4, h⟩ := xm_ck_s h
      refine xm_iald (V := (xu E a)) C hP 1 119 (Nat.le_of_ble_eq_true rfl) (xf_1 E a) b4 dX7_count_64 ?_
      obtain ⟨rfl, rfl⟩ := xm_pr h
      exact xm_retI C hP hS dX7_count_65
    · rw [if_neg c3] at h
      by_cases c5 : x1 = 2
      · rw [if_pos c5] at h
        refine lv_tableIn (tgt := 66) hx hb dX7_count_1 (by rw [c5]; decide) (by rw [c5]; decide) (by rw [c5]; rfl) (by decide) ?_
        refine lv_aload_n hx hb dX7_count_66 rfl (lv_at hl 0 rfl) ?_
        obtain ⟨r7, M6, e8, h⟩ := xm_b2_s h
        refine xm_callV C hP hS [] [] (c_X7_allMatches hD  n M  r7 M6 e8) k_X7_189 (xm_recv C hP 0 rfl (Nat.le_of_ble_eq_true rfl) ((xf_0 E a) _)) rfl rfl ⟨(Nat.le_of_ble_eq_true rfl), (Nat.le_of_ble_eq_true rfl)⟩ hl.1 (Nat.le_of_ble_eq_true rfl) ⟨Nat.zero_le _, Nat.zero_le _⟩ dX7_count_67 (fun H locs hP hS => ?_)
        change W p l e _ s m _ below meth c H locs 0 0 _ (F0 m 70 ls [.int r7])
        obtain ⟨rfl, rfl⟩ := xm_pr h
        exact xm_retI C hP hS dX7_count_70
      · rw [if_neg c5] at h
        by_cases c9 : x1 = 3
        · rw [if_pos c9] at h
          refine lv_tableIn (tgt := 71) hx hb dX7_count_1 (by rw [c9]; decide) (by rw [c9]; decide) (by rw [c9]; rfl) (by decide) ?_
          refine lv_aload_n hx hb dX7_count_71 rfl (lv_at hl 0 rfl) ?_
          refine xm_get (V := (xu E a)) (T := TX7) (v := .ref (a 1)) C hP 0 0 xi_7 rfl l_X7_7 rfl (Nat.le_of_ble_eq_true rfl) ((xf_0 E a) _) (Nat.le_of_ble_eq_true rfl) rfl dX7_count_72 ?_
          refine lv_iconst (v := 1) hx hb dX7_count_75 (by decide) ?_
          obtain ⟨b10, h⟩ := xm_ck_s h
          refine xm_iald (V := (xu E a)) C hP 1 119 (Nat.le_of_ble_eq_true rfl) (xf_1 E a) b10 dX7_count_76 ?_
          obtain ⟨rfl, rfl⟩ := xm_pr h
          exact xm_retI C hP hS dX7_count_77
        · rw [if_neg c9] at h
          by_cases c11 : x1 = 4
          · rw [if_pos c11] at h
            refine lv_tableIn (tgt := 78) hx hb dX7_count_1 (by rw [c11]; decide) (by rw [c11]; decide) (by rw [c11]; rfl) (by decide) ?_
            refine lv_aload_n hx hb dX7_count_78 rfl (lv_at hl 0 rfl) ?_
            obtain ⟨r13, M12, e14, h⟩ := xm_b2_s h
            refine xm_callV C hP hS [] [] (c_X7_watermark hD  n M  r13 M12 e14) k_X7_85 (xm_recv C hP 0 rfl (Nat.le_of_ble_eq_true rfl) ((xf_0 E a) _)) rfl rfl ⟨(Nat.le_of_ble_eq_true rfl), (Nat.le_of_ble_eq_true rfl)⟩ hl.1 (Nat.le_of_ble_eq_true rfl) ⟨Nat.zero_le _, Nat.zero_le _⟩ dX7_count_79 (fun H locs hP hS => ?_)
            change W p l e _ s m _ below meth c H locs 0 0 _ (F0 m 82 ls [.int r13])
            obtain ⟨rfl, rfl⟩ := xm_pr h
            exact xm_retI C hP hS dX7_count_82
          · rw [if_neg c11] at h
            by_cases c15 : x1 = 5
            · rw [if_pos c15] at h
              refine lv_tableIn (tgt := 83) hx hb dX7_count_1 (by rw [c15]; decide) (by rw [c15]; decide) (by rw [c15]; rfl) (by decide) ?_
              refine lv_aload_n hx hb dX7_count_83 rfl (lv_at hl 0 rfl) ?_
              refine xm_get (V := (xu E a)) (T := TX7) (v := .ref (a 1)) C hP 0 0 xi_7 rfl l_X7_7 rfl (Nat.le_of_ble_eq_true rfl) ((xf_0 E a) _) (Nat.le_of_ble_eq_true rfl) rfl dX7_count_84 ?_
              refine lv_iconst (v := 2) hx hb dX7_count_87 (by decide) ?_
              obtain ⟨b16, h⟩ := xm_ck_s h
              refine xm_iald (V := (xu E a)) C hP 1 119 (Nat.le_of_ble_eq_true rfl) (xf_1 E a) b16 dX7_count_88 ?_
              obtain ⟨rfl, rfl⟩ := xm_pr h
              exact xm_retI C hP hS dX7_count_89
            · rw [if_neg c15] at h
              by_cases c17 : x1 = 6
              · rw [if_pos c17] at h
                refine lv_tableIn (tgt := 90) hx hb dX7_count_1 (by rw [c17]; decide) (by rw [c17]; decide) (by rw [c17]; rfl) (by decide) ?_
                refine lv_aload_n hx hb dX7_count_90 rfl (lv_at hl 0 rfl) ?_
                obtain ⟨r19, M18, e20, h⟩ := xm_b2_s h
                refine xm_callV C hP hS [] [] (c_X7_unmatched hD  n M  r19 M18 e20) k_X7_194 (xm_recv C hP 0 rfl (Nat.le_of_ble_eq_true rfl) ((xf_0 E a) _)) rfl rfl ⟨(Nat.le_of_ble_eq_true rfl), (Nat.le_of_ble_eq_true rfl)⟩ hl.1 (Nat.le_of_ble_eq_true rfl) ⟨Nat.zero_le _, Nat.zero_le _⟩ dX7_count_91 (fun H locs hP hS => ?_)
                change W p l e _ s m _ below meth c H locs 0 0 _ (F0 m 94 ls [.int r19])
                obtain ⟨rfl, rfl⟩ := xm_pr h
                exact xm_retI C hP hS dX7_count_94
              · rw [if_neg c17] at h
                by_cases c21 : x1 = 7
                · rw [if_pos c21] at h
                  refine lv_tableIn (tgt := 95) hx hb dX7_count_1 (by rw [c21]; decide) (by rw [c21]; decide) (by rw [c21]; rfl) (by decide) ?_
                  refine lv_aload_n hx hb dX7_count_95 rfl (lv_at hl 0 rfl) ?_
                  refine xm_get (V := (xu E a)) (T := TX7) (v := .int (M 0 3)) C hP 0 3 xi_7 rfl l_X7_46 rfl (Nat.le_of_ble_eq_true rfl) ((xf_0 E a) _) (Nat.le_of_ble_eq_true rfl) rfl dX7_count_96 ?_
                  obtain ⟨rfl, rfl⟩ := xm_pr h
                  exact xm_retI C hP hS dX7_count_99
                · rw [if_neg c21] at h
                  by_cases c22 : x1 = 8
                  · rw [if_pos c22] at h
                    refine lv_tableIn (tgt := 100) hx hb dX7_count_1 (by rw [c22]; decide) (by rw [c22]; decide) (by rw [c22]; rfl) (by decide) ?_
                    refine lv_aload_n hx hb dX7_count_100 rfl (lv_at hl 0 rfl) ?_
                    refine xm_get (V := (xu E a)) (T := TX7) (v := .int (M 0 17)) C hP 0 17 xi_7 rfl l_X7_132 rfl (Nat.le_of_ble_eq_true rfl) ((xf_0 E a) _) (Nat.le_of_ble_eq_true rfl) rfl dX7_count_101 ?_
                    obtain ⟨rfl, rfl⟩ := xm_pr h
                    exact xm_retI C hP hS dX7_count_104
                  · rw [if_neg c22] at h
                    refine lv_tableOut (tgt := 105) hx hb dX7_count_1 (xm_sw9 c1 c3 c5 c9 c11 c15 c17 c21 c22) (by decide) ?_
                    refine lv_bipush (v := (-2)) hx hb dX7_count_105 (by decide) ?_
                    obtain ⟨rfl, rfl⟩ := xm_pr h
                    exact xm_retI C hP hS dX7_count_107
theorem c_X7_count {l : Launch} {E : xm_E} {a : Nat → Nat} (hD : xm_D (xu E a)) (n : Nat) (M : xm_M) (x1 : Int32) (r : Int32) (M' : xm_M) (h : f_X7_count n M x1 = some (r, M')) : xm_Met l E (xu E a) yX7_count cX7_count 2 (some .int) 6 138 [.ref (a 0), .int x1] M M' (some r) :=
  xm_met (by decide +kernel) rfl (Nat.le_of_ble_eq_true rfl) hD (fun p e s m below meth c C hP ls hl => t_X7_count_0 C  n M x1 r M' h _ _ _ hP va_S.rf hl)
