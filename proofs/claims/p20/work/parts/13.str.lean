theorem l_J0_9 : Cond.fieldLink RJ0 9 "java/lang/String" "value" "[B" ∈ xm_tb := xm_tb_of (List.mem_of_getElem? (i := 590) (by decide +kernel)) rfl
theorem l_J0_15 : Cond.fieldLink RJ0 15 "java/lang/String" "coder" "B" ∈ xm_tb := xm_tb_of (List.mem_of_getElem? (i := 591) (by decide +kernel)) rfl
theorem l_J0_38 : Cond.fieldLink RJ0 38 "java/lang/String" "COMPACT_STRINGS" "Z" ∈ xm_tb := xm_tb_of (List.mem_of_getElem? (i := 425) (by decide +kernel)) rfl
theorem l_J0_1053 : Cond.fieldLink RJ0 1053 "jdk/internal/util/Preconditions" "SIOOBE_FORMATTER" "Ljava/util/function/BiFunction;" ∈ xm_tb := xm_tb_of (List.mem_of_getElem? (i := 441) (by decide +kernel)) rfl
theorem k_J0_335 : xm_FV RJ0 335 yJ0_coder_7d493 cJ0_coder_7d493 1 (some .byte) 0 := ⟨xm_tb_of (List.mem_of_getElem? (i := 424) (by decide +kernel)) rfl, xm_tb_of (List.mem_of_getElem? (i := 421) (by decide +kernel)) rfl, xm_tb_of (List.mem_of_getElem? (i := 422) (by decide +kernel)) rfl, xm_tb_of (List.mem_of_getElem? (i := 423) (by decide +kernel)) rfl, xm_tb_of (List.mem_of_getElem? (i := 9) (by decide +kernel)) rfl, ⟨by decide +kernel, by decide +kernel, by decide +kernel⟩⟩
theorem k_J0_492 : xm_FV RJ0 492 yJ0_isLatin1_aae02 cJ0_isLatin1_aae02 1 (some .boolean) 0 := ⟨xm_tb_of (List.mem_of_getElem? (i := 434) (by decide +kernel)) rfl, xm_tb_of (List.mem_of_getElem? (i := 431) (by decide +kernel)) rfl, xm_tb_of (List.mem_of_getElem? (i := 432) (by decide +kernel)) rfl, xm_tb_of (List.mem_of_getElem? (i := 433) (by decide +kernel)) rfl, xm_tb_of (List.mem_of_getElem? (i := 9) (by decide +kernel)) rfl, ⟨by decide +kernel, by decide +kernel, by decide +kernel⟩⟩
theorem k_J0_495 : xm_FS RJ0 495 yJ1_charAt_3b067 cJ1_charAt_3b067 2 (some .char) 2 := ⟨xm_tb_of (List.mem_of_getElem? (i := 437) (by decide +kernel)) rfl, xm_tb_of (List.mem_of_getElem? (i := 435) (by decide +kernel)) rfl, xm_tb_of (List.mem_of_getElem? (i := 436) (by decide +kernel)) rfl, xm_tb_of (List.mem_of_getElem? (i := 10) (by decide +kernel)) rfl, ⟨by decide +kernel, by decide +kernel, by decide +kernel⟩⟩
theorem k_J1_9 : xm_FS RJ1 9 yJ0_checkIndex_df160 cJ0_checkIndex_df160 2 none 2 := ⟨xm_tb_of (List.mem_of_getElem? (i := 440) (by decide +kernel)) rfl, xm_tb_of (List.mem_of_getElem? (i := 438) (by decide +kernel)) rfl, xm_tb_of (List.mem_of_getElem? (i := 439) (by decide +kernel)) rfl, xm_tb_of (List.mem_of_getElem? (i := 9) (by decide +kernel)) rfl, ⟨by decide +kernel, by decide +kernel, by decide +kernel⟩⟩
theorem k_J0_1059 : xm_FS RJ0 1059 yJ3_checkIndex_8e157 cJ3_checkIndex_8e157 3 (some .int) 3 := ⟨xm_tb_of (List.mem_of_getElem? (i := 445) (by decide +kernel)) rfl, xm_tb_of (List.mem_of_getElem? (i := 443) (by decide +kernel)) rfl, xm_tb_of (List.mem_of_getElem? (i := 444) (by decide +kernel)) rfl, xm_tb_of (List.mem_of_getElem? (i := 11) (by decide +kernel)) rfl, ⟨by decide +kernel, by decide +kernel, by decide +kernel⟩⟩
theorem k_X5_45 : xm_FV RX5 45 yJ0_length_8abf5 cJ0_length_8abf5 1 (some .int) 0 := ⟨xm_tb_of (List.mem_of_getElem? (i := 420) (by decide +kernel)) rfl, xm_tb_of (List.mem_of_getElem? (i := 417) (by decide +kernel)) rfl, xm_tb_of (List.mem_of_getElem? (i := 418) (by decide +kernel)) rfl, xm_tb_of (List.mem_of_getElem? (i := 419) (by decide +kernel)) rfl, xm_tb_of (List.mem_of_getElem? (i := 9) (by decide +kernel)) rfl, ⟨by decide +kernel, by decide +kernel, by decide +kernel⟩⟩
theorem k_X5_50 : xm_FV RX5 50 yJ0_charAt_5068e cJ0_charAt_5068e 2 (some .char) 1 := ⟨xm_tb_of (List.mem_of_getElem? (i := 430) (by decide +kernel)) rfl, xm_tb_of (List.mem_of_getElem? (i := 427) (by decide +kernel)) rfl, xm_tb_of (List.mem_of_getElem? (i := 428) (by decide +kernel)) rfl, xm_tb_of (List.mem_of_getElem? (i := 429) (by decide +kernel)) rfl, xm_tb_of (List.mem_of_getElem? (i := 9) (by decide +kernel)) rfl, ⟨by decide +kernel, by decide +kernel, by decide +kernel⟩⟩
set_option maxHeartbeats 4000000 in
set_option maxRecDepth 100000 in
theorem c_coder {l : Launch} {E : xm_E} {V : xm_V} (hD : xm_D V) {k : Nat} (hk : k < 6) (M : xm_M) : xm_Met l E V yJ0_coder_7d493 cJ0_coder_7d493 1 (some .byte) 0 0 [.ref (E.2.2.1 k)] M M (some 0) :=
  xm_met (by decide +kernel) rfl (Nat.le_of_ble_eq_true rfl) hD (fun p e s m below meth c C hP ls hl => by
    have C9 := C
    obtain ⟨hx, hb, hml, hown, hts, hr, hlk, hD9, hK, hS9⟩ := C9
    have hS : va_S (xm_A V s.heap.size) s.heap s.heap [] := va_S.rf
    refine va_gets hx hb hS9.2.1 hS hown (hts _ l_J0_38) (fun _ h => h) dJ0_coder_7d493_0 ?_
    refine lv_if_eq (tgt := 13) hx hb dJ0_coder_7d493_3 (by decide) (fun c => absurd c (by decide)) (fun _ => ?_)
    refine lv_aload_n hx hb dJ0_coder_7d493_6 rfl (lv_at hl 0 rfl) ?_
    refine vk_getf hx hb (hS9.1.1 k hk).2.1 hS hown (hts _ l_J0_15) (fun _ h => h) dJ0_coder_7d493_7 ?_
    refine lv_goto (tgt := 14) hx hb dJ0_coder_7d493_10 (by decide) ?_
    exact xm_retZ C hP hS rfl dJ0_coder_7d493_14)
set_option maxHeartbeats 4000000 in
set_option maxRecDepth 100000 in
theorem c_lat {l : Launch} {E : xm_E} {V : xm_V} (hD : xm_D V) {k : Nat} (hk : k < 6) (M : xm_M) : xm_Met l E V yJ0_isLatin1_aae02 cJ0_isLatin1_aae02 1 (some .boolean) 0 0 [.ref (E.2.2.1 k)] M M (some 1) :=
  xm_met (by decide +kernel) rfl (Nat.le_of_ble_eq_true rfl) hD (fun p e s m below meth c C hP ls hl => by
    have C9 := C
    obtain ⟨hx, hb, hml, hown, hts, hr, hlk, hD9, hK, hS9⟩ := C9
    have hS : va_S (xm_A V s.heap.size) s.heap s.heap [] := va_S.rf
    refine va_gets hx hb hS9.2.1 hS hown (hts _ l_J0_38) (fun _ h => h) dJ0_isLatin1_aae02_0 ?_
    refine lv_if_eq (tgt := 17) hx hb dJ0_isLatin1_aae02_3 (by decide) (fun c => absurd c (by decide)) (fun _ => ?_)
    refine lv_aload_n hx hb dJ0_isLatin1_aae02_6 rfl (lv_at hl 0 rfl) ?_
    refine vk_getf hx hb (hS9.1.1 k hk).2.1 hS hown (hts _ l_J0_15) (fun _ h => h) dJ0_isLatin1_aae02_7 ?_
    refine lv_if_ne (tgt := 17) hx hb dJ0_isLatin1_aae02_10 (by decide) (fun c => absurd rfl c) (fun _ => ?_)
    refine lv_iconst (v := 1) hx hb dJ0_isLatin1_aae02_13 (by decide) ?_
    refine lv_goto (tgt := 18) hx hb dJ0_isLatin1_aae02_14 (by decide) ?_
    exact xm_retZ C hP hS rfl dJ0_isLatin1_aae02_18)
def f_slen (_n : Nat) (M : xm_M) (k : Nat) : Option (Int32 × xm_M) := some (nI (xm_len.getD k 0), M)
theorem xm_srecv {E : xm_E} {V : xm_V} {p : Program} {s : State} {m : MethodId} {args : Array Value} {meth : Method} {c : Code} {own : String} {cc : ByteArray} {nL : Nat} {ret : Option FieldType} (C : xm_C E V p s m args meth c own cc nL ret) {H : Heap} {locs : List Loc} (hS : va_S (xm_A V s.heap.size) s.heap H locs) {k : Nat} (hk : k < 6) : ∃ cell : Cell, H[E.2.2.1 k]? = some cell ∧ cell.vm.isStatics = false ∧ s.vm.findClass "java/lang/String" = some cell.cls :=
  vk_recv C.2.2.2.2.2.2.2.2.2.1 hk hS
theorem sb_sh0 (x : Int32) : x >>> ((0 : Int32) &&& 31) = x := sb_shr0 x
set_option maxHeartbeats 4000000 in
set_option maxRecDepth 100000 in
theorem c_slen {l : Launch} {E : xm_E} {V : xm_V} (hD : xm_D V) {k : Nat} (hk : k < 6) (n : Nat) (M : xm_M) (r : Int32) (M9 : xm_M) (h : f_slen n M k = some (r, M9)) : xm_Met l E V yJ0_length_8abf5 cJ0_length_8abf5 1 (some .int) 1 20 [.ref (E.2.2.1 k)] M M9 (some r) :=
  xm_met (by decide +kernel) rfl (Nat.le_of_ble_eq_true rfl) hD (fun p e s m below meth c C hP ls hl => by
    have C9 := C
    obtain ⟨hx, hb, hml, hown, hts, hr, hlk, hD9, hK, hS9⟩ := C9
    have hS : va_S (xm_A V s.heap.size) s.heap s.heap [] := va_S.rf
    obtain ⟨rfl, rfl⟩ := xm_pr h
    refine lv_aload_n hx hb dJ0_length_8abf5_0 rfl (lv_at hl 0 rfl) ?_
    refine vk_getf hx hb (hS9.1.1 k hk).2.2.1 hS hown (hts _ l_J0_9) (fun _ h => h) dJ0_length_8abf5_1 ?_
    refine va_tlen hx hb (hS9.1.1 k hk).2.2.2 hS (v := nI (xm_len.getD k 0)) rfl dJ0_length_8abf5_4 ?_
    refine lv_aload_n hx hb dJ0_length_8abf5_5 rfl (lv_at hl 0 rfl) ?_
    refine xm_callV C hP hS [] [.int (nI (xm_len.getD k 0))] (c_coder hD hk M) k_J0_335 (xm_srecv C hS hk) rfl rfl ⟨(Nat.le_of_ble_eq_true rfl), (Nat.le_of_ble_eq_true rfl)⟩ hl.1 (Nat.le_of_ble_eq_true rfl) ⟨Nat.zero_le _, Nat.zero_le _⟩ dJ0_length_8abf5_6 (fun H locs hP hS => ?_)
    change W p l e _ s m _ below meth c H locs 0 0 _ (F0 m 9 ls [.int 0, .int (nI (xm_len.getD k 0))])
    refine lv_ishr hx hb dJ0_length_8abf5_9 ?_
    rw [sb_shr0]
    exact xm_retI C hP hS dJ0_length_8abf5_10)
set_option maxHeartbeats 4000000 in
set_option maxRecDepth 100000 in
theorem c_pci {l : Launch} {E : xm_E} {V : xm_V} (hD : xm_D V) {v : Value} (hv : v = .null ∨ ∃ t : Nat, v = .ref t) {i n : Int32} (h0 : ¬ i < 0) (h1 : i < n) (M : xm_M) : xm_Met l E V yJ3_checkIndex_8e157 cJ3_checkIndex_8e157 3 (some .int) 0 0 [.int i, .int n, v] M M (some i) := by
  rcases hv with rfl | ⟨t, rfl⟩
  all_goals exact xm_met (by decide +kernel) rfl (Nat.le_of_ble_eq_true rfl) hD (fun p e s m below meth c C hP ls hl => by
    have C9 := C
    obtain ⟨hx, hb, hml, hown, hts, hr, hlk, hD9, hK, hS9⟩ := C9
    have hS : va_S (xm_A V s.heap.size) s.heap s.heap [] := va_S.rf
    refine lv_iload_n hx hb dJ3_checkIndex_8e157_0 rfl (lv_at hl 0 rfl) ?_
    refine lv_if_lt (tgt := 9) hx hb dJ3_checkIndex_8e157_1 (by decide) (fun c => absurd c h0) (fun _ => ?_)
    refine lv_iload_n hx hb dJ3_checkIndex_8e157_4 rfl (lv_at hl 0 rfl) ?_
    refine lv_iload_n hx hb dJ3_checkIndex_8e157_5 rfl (lv_at hl 1 rfl) ?_
    refine lv_icmp_lt (tgt := 16) hx hb dJ3_checkIndex_8e157_6 (by decide) (fun _ => ?_) (fun c => absurd h1 c)
    refine lv_iload_n hx hb dJ3_checkIndex_8e157_16 rfl (lv_at hl 0 rfl) ?_
    exact xm_retI C hP hS dJ3_checkIndex_8e157_17)
set_option maxHeartbeats 4000000 in
set_option maxRecDepth 100000 in
theorem c_sci {l : Launch} {E : xm_E} {V : xm_V} (hD : xm_D V) {i n : Int32} (h0 : ¬ i < 0) (h1 : i < n) (M : xm_M) : xm_Met l E V yJ0_checkIndex_df160 cJ0_checkIndex_df160 2 none 1 22 [.int i, .int n] M M none :=
  xm_met (by decide +kernel) rfl (Nat.le_of_ble_eq_true rfl) hD (fun p e s m below meth c C hP ls hl => by
    have C9 := C
    obtain ⟨hx, hb, hml, hown, hts, hr, hlk, hD9, hK, hS9⟩ := C9
    have hS : va_S (xm_A V s.heap.size) s.heap s.heap [] := va_S.rf
    refine lv_iload_n hx hb dJ0_checkIndex_df160_0 rfl (lv_at hl 0 rfl) ?_
    refine lv_iload_n hx hb dJ0_checkIndex_df160_1 rfl (lv_at hl 1 rfl) ?_
    rcases hS9.2.2 with hZ | ⟨t, hZ⟩
    · refine va_gets hx hb hZ hS hown (hts _ l_J0_1053) (fun _ h => h) dJ0_checkIndex_df160_2 ?_
      refine xm_callS C hP hS [.int i, .int n, .null] [] (c_pci hD (Or.inl rfl) h0 h1 M) k_J0_1059 rfl rfl ⟨(Nat.le_of_ble_eq_true rfl), (Nat.le_of_ble_eq_true rfl)⟩ hl.1 (Nat.le_of_ble_eq_true rfl) ⟨Nat.zero_le _, Nat.zero_le _⟩ dJ0_checkIndex_df160_5 (fun H locs hP hS => ?_)
      change W p l e _ s m _ below meth c H locs 0 0 _ (F0 m 8 ls [.int i])
      refine lv_pop hx hb dJ0_checkIndex_df160_8 rfl ?_
      exact xm_retV C hP hS dJ0_checkIndex_df160_9
    · refine va_gets hx hb hZ hS hown (hts _ l_J0_1053) (fun _ h => h) dJ0_checkIndex_df160_2 ?_
      refine xm_callS C hP hS [.int i, .int n, .ref t] [] (c_pci hD (Or.inr ⟨_, rfl⟩) h0 h1 M) k_J0_1059 rfl rfl ⟨(Nat.le_of_ble_eq_true rfl), (Nat.le_of_ble_eq_true rfl)⟩ hl.1 (Nat.le_of_ble_eq_true rfl) ⟨Nat.zero_le _, Nat.zero_le _⟩ dJ0_checkIndex_df160_5 (fun H locs hP hS => ?_)
      change W p l e _ s m _ below meth c H locs 0 0 _ (F0 m 8 ls [.int i])
      refine lv_pop hx hb dJ0_checkIndex_df160_8 rfl ?_
      exact xm_retV C hP hS dJ0_checkIndex_df160_9)
def xm_ch (k : Nat) (i : Int32) : Int32 := (((xm_byt.getD k []).getD i.toNatClampNeg 0 &&& 255).toUInt32 % 65536).toInt32
theorem xm_len_lt (k : Nat) (hk : k < 6) : xm_len.getD k 0 < 2 ^ 31 := by
  rcases (show k = 0 ∨ k = 1 ∨ k = 2 ∨ k = 3 ∨ k = 4 ∨ k = 5 by omega) with rfl | rfl | rfl | rfl | rfl | rfl <;> decide
theorem xm_in_nI {i : Int32} {n : Nat} (h : xm_in i n = true) (hn : n < 2 ^ 31) : ¬ i < 0 ∧ i < nI n := by
  obtain ⟨j, hj, rfl⟩ := vp_in_of (xm_in_s h) hn
  exact ⟨nI_pos (by omega), nI_lt hj hn⟩
set_option maxHeartbeats 4000000 in
set_option maxRecDepth 100000 in
theorem c_l1c {l : Launch} {E : xm_E} {V : xm_V} (hD : xm_D V) {k : Nat} (hk : k < 6) {i : Int32} (hi : xm_in i (xm_len.getD k 0) = true) (hc : xm_c (xm_ch k i) = true) (M : xm_M) : xm_Met l E V yJ1_charAt_3b067 cJ1_charAt_3b067 2 (some .char) 2 43 [.ref (E.2.2.2 k), .int i] M M (some (xm_ch k i)) :=
  xm_met (by decide +kernel) rfl (Nat.le_of_ble_eq_true rfl) hD (fun p e s m below meth c C hP ls hl => by
    have C9 := C
    obtain ⟨hx, hb, hml, hown, hts, hr, hlk, hD9, hK, hS9⟩ := C9
    have hS : va_S (xm_A V s.heap.size) s.heap s.heap [] := va_S.rf
    obtain ⟨h0, h1⟩ := xm_in_nI hi (xm_len_lt k hk)
    refine lv_iload_n hx hb dJ1_charAt_3b067_0 rfl (lv_at hl 1 rfl) ?_
    refine lv_aload_n hx hb dJ1_charAt_3b067_1 rfl (lv_at hl 0 rfl) ?_
    refine va_tlen hx hb (hS9.1.1 k hk).2.2.2 hS (v := nI (xm_len.getD k 0)) rfl dJ1_charAt_3b067_2 ?_
    refine xm_callS C hP hS [.int i, .int (nI (xm_len.getD k 0))] [] (c_sci hD h0 h1 M) k_J1_9 rfl rfl ⟨(Nat.le_of_ble_eq_true rfl), (Nat.le_of_ble_eq_true rfl)⟩ hl.1 (Nat.le_of_ble_eq_true rfl) ⟨Nat.zero_le _, Nat.zero_le _⟩ dJ1_charAt_3b067_3 (fun H locs hP hS => ?_)
    change W p l e _ s m _ below meth c H locs 0 0 _ (F0 m 6 ls [])
    refine lv_aload_n hx hb dJ1_charAt_3b067_6 rfl (lv_at hl 0 rfl) ?_
    refine lv_iload_n hx hb dJ1_charAt_3b067_7 rfl (lv_at hl 1 rfl) ?_
    refine va_tb hx hb (hS9.1.1 k hk).2.2.2 hS (xm_in_s hi) (v := .int ((xm_byt.getD k []).getD i.toNatClampNeg 0)) rfl dJ1_charAt_3b067_8 ?_
    refine lv_sipush (v := 255) hx hb dJ1_charAt_3b067_9 (by decide) ?_
    refine lv_iand hx hb dJ1_charAt_3b067_12 ?_
    refine lv_i2c (v := xm_ch k i) hx hb dJ1_charAt_3b067_13 rfl ?_
    exact xm_retZ C hP hS (xm_c_s hc) dJ1_charAt_3b067_14)
def f_schr (_n : Nat) (M : xm_M) (k : Nat) (i : Int32) : Option (Int32 × xm_M) := xm_ck (xm_in i (xm_len.getD k 0)) (xm_ck (xm_c (xm_ch k i)) (some (xm_ch k i, M)))
set_option maxHeartbeats 4000000 in
set_option maxRecDepth 100000 in
theorem c_schr {l : Launch} {E : xm_E} {V : xm_V} (hD : xm_D V) {k : Nat} (hk : k < 6) (n : Nat) (M : xm_M) (i : Int32) (r : Int32) (M9 : xm_M) (h : f_schr n M k i = some (r, M9)) : xm_Met l E V yJ0_charAt_5068e cJ0_charAt_5068e 2 (some .char) 3 64 [.ref (E.2.2.1 k), .int i] M M9 (some r) :=
  xm_met (by decide +kernel) rfl (Nat.le_of_ble_eq_true rfl) hD (fun p e s m below meth c C hP ls hl => by
    have C9 := C
    obtain ⟨hx, hb, hml, hown, hts, hr, hlk, hD9, hK, hS9⟩ := C9
    have hS : va_S (xm_A V s.heap.size) s.heap s.heap [] := va_S.rf
    obtain ⟨hi, h⟩ := xm_ck_s h
    obtain ⟨hc, h⟩ := xm_ck_s h
    obtain ⟨rfl, rfl⟩ := xm_pr h
    refine lv_aload_n hx hb dJ0_charAt_5068e_0 rfl (lv_at hl 0 rfl) ?_
    refine xm_callV C hP hS [] [] (c_lat hD hk M) k_J0_492 (xm_srecv C hS hk) rfl rfl ⟨(Nat.le_of_ble_eq_true rfl), (Nat.le_of_ble_eq_true rfl)⟩ hl.1 (Nat.le_of_ble_eq_true rfl) ⟨Nat.zero_le _, Nat.zero_le _⟩ dJ0_charAt_5068e_1 (fun H locs hP hS => ?_)
    change W p l e _ s m _ below meth c H locs 0 0 _ (F0 m 4 ls [.int 1])
    refine lv_if_eq (tgt := 16) hx hb dJ0_charAt_5068e_4 (by decide) (fun c => absurd c (by decide)) (fun _ => ?_)
    refine lv_aload_n hx hb dJ0_charAt_5068e_7 rfl (lv_at hl 0 rfl) ?_
    refine vk_getf hx hb (hS9.1.1 k hk).2.2.1 hS hown (hts _ l_J0_9) (fun _ h => h) dJ0_charAt_5068e_8 ?_
    refine lv_iload_n hx hb dJ0_charAt_5068e_11 rfl (lv_at hl 1 rfl) ?_
    refine xm_callS C hP hS [.ref (E.2.2.2 k), .int i] [] (c_l1c hD hk hi hc M) k_J0_495 rfl rfl ⟨(Nat.le_of_ble_eq_true rfl), (Nat.le_of_ble_eq_true rfl)⟩ hl.1 (Nat.le_of_ble_eq_true rfl) ⟨Nat.zero_le _, Nat.zero_le _⟩ dJ0_charAt_5068e_12 (fun H locs hP hS => ?_)
    change W p l e _ s m _ below meth c H locs 0 0 _ (F0 m 15 ls [.int (xm_ch k i)])
    exact xm_retZ C hP hS (xm_c_s hc) dJ0_charAt_5068e_15)
