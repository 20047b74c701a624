theorem l_X7_13 : Cond.fieldLink RX7 13 "WindowMatchesModel" "kept" "[I" ∈ xm_tb := xm_tb_of (List.mem_of_getElem? (i := 574) (by decide +kernel)) rfl
theorem l_X7_7 : Cond.fieldLink RX7 7 "WindowMatchesModel" "all" "[I" ∈ xm_tb := xm_tb_of (List.mem_of_getElem? (i := 573) (by decide +kernel)) rfl
theorem l_X7_46 : Cond.fieldLink RX7 46 "WindowMatchesModel" "historyLong" "I" ∈ xm_tb := xm_tb_of (List.mem_of_getElem? (i := 576) (by decide +kernel)) rfl
theorem l_X7_16 : Cond.fieldLink RX7 16 "WindowMatchesModel" "history" "[I" ∈ xm_tb := xm_tb_of (List.mem_of_getElem? (i := 575) (by decide +kernel)) rfl
theorem k_X7_50 : xm_FS RX7 50 yX7_in cX7_in 6 (some .boolean) 3 := ⟨xm_tb_of (List.mem_of_getElem? (i := 648) (by decide +kernel)) rfl, xm_tb_of (List.mem_of_getElem? (i := 646) (by decide +kernel)) rfl, xm_tb_of (List.mem_of_getElem? (i := 647) (by decide +kernel)) rfl, xm_tb_of (List.mem_of_getElem? (i := 8) (by decide +kernel)) rfl, ⟨by decide +kernel, by decide +kernel, by decide +kernel⟩⟩
theorem q_X7_54 : Cond.constantLong RX7 54 97 ∈ xm_tb := xm_tb_of (List.mem_of_getElem? (i := 644) (by decide +kernel)) rfl
theorem q_X7_56 : Cond.constantLong RX7 56 104 ∈ xm_tb := xm_tb_of (List.mem_of_getElem? (i := 645) (by decide +kernel)) rfl
theorem q_X7_58 : Cond.constantLong RX7 58 99 ∈ xm_tb := xm_tb_of (List.mem_of_getElem? (i := 649) (by decide +kernel)) rfl
theorem q_X7_60 : Cond.constantLong RX7 60 9999 ∈ xm_tb := xm_tb_of (List.mem_of_getElem? (i := 650) (by decide +kernel)) rfl
theorem l_X7_22 : Cond.fieldLink RX7 22 "WindowMatchesModel" "order" "[I" ∈ xm_tb := xm_tb_of (List.mem_of_getElem? (i := 579) (by decide +kernel)) rfl
theorem k_X7_62 : xm_FV RX7 62 yX7_of cX7_of 3 (some .int) 2 := ⟨xm_tb_of (List.mem_of_getElem? (i := 764) (by decide +kernel)) rfl, xm_tb_of (List.mem_of_getElem? (i := 761) (by decide +kernel)) rfl, xm_tb_of (List.mem_of_getElem? (i := 763) (by decide +kernel)) rfl, xm_tb_sel (List.mem_of_getElem? (i := 56) (by decide +kernel)) rfl, xm_tb_of (List.mem_of_getElem? (i := 8) (by decide +kernel)) rfl, ⟨by decide +kernel, by decide +kernel, by decide +kernel⟩⟩
theorem k_X7_66 : xm_FV RX7 66 yX7_ofPattern cX7_ofPattern 3 (some .int) 2 := ⟨xm_tb_of (List.mem_of_getElem? (i := 740) (by decide +kernel)) rfl, xm_tb_of (List.mem_of_getElem? (i := 737) (by decide +kernel)) rfl, xm_tb_of (List.mem_of_getElem? (i := 739) (by decide +kernel)) rfl, xm_tb_sel (List.mem_of_getElem? (i := 54) (by decide +kernel)) rfl, xm_tb_of (List.mem_of_getElem? (i := 8) (by decide +kernel)) rfl, ⟨by decide +kernel, by decide +kernel, by decide +kernel⟩⟩
theorem l_X7_25 : Cond.fieldLink RX7 25 "WindowMatchesModel" "plain" "[I" ∈ xm_tb := xm_tb_of (List.mem_of_getElem? (i := 580) (by decide +kernel)) rfl
theorem l_X7_28 : Cond.fieldLink RX7 28 "WindowMatchesModel" "not" "[I" ∈ xm_tb := xm_tb_of (List.mem_of_getElem? (i := 581) (by decide +kernel)) rfl
theorem l_X7_31 : Cond.fieldLink RX7 31 "WindowMatchesModel" "at" "[I" ∈ xm_tb := xm_tb_of (List.mem_of_getElem? (i := 582) (by decide +kernel)) rfl
theorem k_X7_69 : xm_FV RX7 69 yX7_chosen cX7_chosen 3 (some .int) 2 := ⟨xm_tb_of (List.mem_of_getElem? (i := 796) (by decide +kernel)) rfl, xm_tb_of (List.mem_of_getElem? (i := 793) (by decide +kernel)) rfl, xm_tb_of (List.mem_of_getElem? (i := 795) (by decide +kernel)) rfl, xm_tb_sel (List.mem_of_getElem? (i := 64) (by decide +kernel)) rfl, xm_tb_of (List.mem_of_getElem? (i := 8) (by decide +kernel)) rfl, ⟨by decide +kernel, by decide +kernel, by decide +kernel⟩⟩
theorem k_X7_72 : xm_FV RX7 72 yX7_liesBetween cX7_liesBetween 5 (some .boolean) 2 := ⟨xm_tb_of (List.mem_of_getElem? (i := 800) (by decide +kernel)) rfl, xm_tb_of (List.mem_of_getElem? (i := 797) (by decide +kernel)) rfl, xm_tb_of (List.mem_of_getElem? (i := 799) (by decide +kernel)) rfl, xm_tb_sel (List.mem_of_getElem? (i := 65) (by decide +kernel)) rfl, xm_tb_of (List.mem_of_getElem? (i := 8) (by decide +kernel)) rfl, ⟨by decide +kernel, by decide +kernel, by decide +kernel⟩⟩
theorem l_X7_76 : Cond.fieldLink RX7 76 "WindowMatchesModel" "matches" "I" ∈ xm_tb := xm_tb_of (List.mem_of_getElem? (i := 583) (by decide +kernel)) rfl
theorem l_X7_79 : Cond.fieldLink RX7 79 "WindowMatchesModel" "rankWanted" "I" ∈ xm_tb := xm_tb_of (List.mem_of_getElem? (i := 587) (by decide +kernel)) rfl
theorem l_X7_82 : Cond.fieldLink RX7 82 "WindowMatchesModel" "sure" "I" ∈ xm_tb := xm_tb_of (List.mem_of_getElem? (i := 584) (by decide +kernel)) rfl
theorem k_X7_85 : xm_FV RX7 85 yX7_watermark cX7_watermark 2 (some .int) 0 := ⟨xm_tb_of (List.mem_of_getElem? (i := 808) (by decide +kernel)) rfl, xm_tb_of (List.mem_of_getElem? (i := 805) (by decide +kernel)) rfl, xm_tb_of (List.mem_of_getElem? (i := 807) (by decide +kernel)) rfl, xm_tb_sel (List.mem_of_getElem? (i := 67) (by decide +kernel)) rfl, xm_tb_of (List.mem_of_getElem? (i := 8) (by decide +kernel)) rfl, ⟨by decide +kernel, by decide +kernel, by decide +kernel⟩⟩
theorem l_X7_34 : Cond.fieldLink RX7 34 "WindowMatchesModel" "within" "[I" ∈ xm_tb := xm_tb_of (List.mem_of_getElem? (i := 586) (by decide +kernel)) rfl
theorem l_X7_37 : Cond.fieldLink RX7 37 "WindowMatchesModel" "wanted" "[I" ∈ xm_tb := xm_tb_of (List.mem_of_getElem? (i := 588) (by decide +kernel)) rfl
theorem k_X7_89 : xm_FV RX7 89 yX7_plainSteps cX7_plainSteps 4 (some .int) 1 := ⟨xm_tb_of (List.mem_of_getElem? (i := 784) (by decide +kernel)) rfl, xm_tb_of (List.mem_of_getElem? (i := 781) (by decide +kernel)) rfl, xm_tb_of (List.mem_of_getElem? (i := 783) (by decide +kernel)) rfl, xm_tb_sel (List.mem_of_getElem? (i := 61) (by decide +kernel)) rfl, xm_tb_of (List.mem_of_getElem? (i := 8) (by decide +kernel)) rfl, ⟨by decide +kernel, by decide +kernel, by decide +kernel⟩⟩
theorem l_X7_93 : Cond.fieldLink RX7 93 "WindowMatchesModel" "branches" "I" ∈ xm_tb := xm_tb_of (List.mem_of_getElem? (i := 585) (by decide +kernel)) rfl
theorem k_X7_96 : xm_FV RX7 96 yX7_findsOrder cX7_findsOrder 3 none 0 := ⟨xm_tb_of (List.mem_of_getElem? (i := 772) (by decide +kernel)) rfl, xm_tb_of (List.mem_of_getElem? (i := 769) (by decide +kernel)) rfl, xm_tb_of (List.mem_of_getElem? (i := 771) (by decide +kernel)) rfl, xm_tb_sel (List.mem_of_getElem? (i := 58) (by decide +kernel)) rfl, xm_tb_of (List.mem_of_getElem? (i := 8) (by decide +kernel)) rfl, ⟨by decide +kernel, by decide +kernel, by decide +kernel⟩⟩
theorem k_X7_99 : xm_FV RX7 99 yX7_takesSteps cX7_takesSteps 6 none 1 := ⟨xm_tb_of (List.mem_of_getElem? (i := 788) (by decide +kernel)) rfl, xm_tb_of (List.mem_of_getElem? (i := 785) (by decide +kernel)) rfl, xm_tb_of (List.mem_of_getElem? (i := 787) (by decide +kernel)) rfl, xm_tb_sel (List.mem_of_getElem? (i := 62) (by decide +kernel)) rfl, xm_tb_of (List.mem_of_getElem? (i := 8) (by decide +kernel)) rfl, ⟨by decide +kernel, by decide +kernel, by decide +kernel⟩⟩
theorem k_X7_103 : xm_FV RX7 103 yX7_fits cX7_fits 5 (some .boolean) 2 := ⟨xm_tb_of (List.mem_of_getElem? (i := 792) (by decide +kernel)) rfl, xm_tb_of (List.mem_of_getElem? (i := 789) (by decide +kernel)) rfl, xm_tb_of (List.mem_of_getElem? (i := 791) (by decide +kernel)) rfl, xm_tb_sel (List.mem_of_getElem? (i := 63) (by decide +kernel)) rfl, xm_tb_of (List.mem_of_getElem? (i := 8) (by decide +kernel)) rfl, ⟨by decide +kernel, by decide +kernel, by decide +kernel⟩⟩
theorem k_X7_106 : xm_FV RX7 106 yX7_isMatch cX7_isMatch 3 none 1 := ⟨xm_tb_of (List.mem_of_getElem? (i := 804) (by decide +kernel)) rfl, xm_tb_of (List.mem_of_getElem? (i := 801) (by decide +kernel)) rfl, xm_tb_of (List.mem_of_getElem? (i := 803) (by decide +kernel)) rfl, xm_tb_sel (List.mem_of_getElem? (i := 66) (by decide +kernel)) rfl, xm_tb_of (List.mem_of_getElem? (i := 8) (by decide +kernel)) rfl, ⟨by decide +kernel, by decide +kernel, by decide +kernel⟩⟩
theorem k_X7_109 : xm_FV RX7 109 yX7_finds cX7_finds 4 none 1 := ⟨xm_tb_of (List.mem_of_getElem? (i := 780) (by decide +kernel)) rfl, xm_tb_of (List.mem_of_getElem? (i := 777) (by decide +kernel)) rfl, xm_tb_of (List.mem_of_getElem? (i := 779) (by decide +kernel)) rfl, xm_tb_sel (List.mem_of_getElem? (i := 60) (by decide +kernel)) rfl, xm_tb_of (List.mem_of_getElem? (i := 8) (by decide +kernel)) rfl, ⟨by decide +kernel, by decide +kernel, by decide +kernel⟩⟩
def f_X7_in (n : Nat) (M : xm_M) (x0 : Int64) (x2 : Int64) (x4 : Int64) : Option (Int32 × xm_M) := if (lg_cmp x0 x2) < 0 then some (0, M) else if (0 : Int32) < (lg_cmp x0 x4) then some (0, M) else some (1, M)
set_option maxHeartbeats 4000000 in
set_option maxRecDepth 100000 in
theorem t_X7_in_0 {l : Launch} {p : Program} {e : Env} {s : State} {m : MethodId} {args : Array Value} {below : List Frame} {meth : Method} {c : Code} {E : xm_E} {a : Nat → Nat} (C : xm_C E (xu E a) p s m args meth c RX7 cX7_in 6 (some .boolean)) (n : Nat) (M : xm_M) (x0 : Int64) (x2 : Int64) (x4 : Int64) (r : Int32) (M' : xm_M) : f_X7_in n M x0 x2 x4 = some (r, M') → ∀ (H : Heap) (locs : List Loc) (ls : Array Slot), va_P E.1 vwCl (xm_w (xu E a) M) H → va_S (xm_A (xu E a) s.heap.size) s.heap H locs → lv_has ls 6 [(0, .long x0), (2, .long x2), (4, .long x4)] → W p l e { frames := 0, cells := 0, slots := 0, locals := 0 } s m args below meth c H locs 0 0 (MQ below (xm_Q E (xu E a) M' s.heap.size (some r)) args s 0 0 (xm_A (xu E a) s.heap.size)) (F0 m 0 ls []) := by
  have C9 := C
  obtain ⟨hx, hb, hml, hown, hts, hr, hlk, hD, hK, hS9⟩ := C9
  intro h H locs ls hP hS hl
  unfold f_X7_in at h
  refine lv_lload_n hx hb dX7_in_0 rfl (lv_at hl 0 rfl) ?_
  refine lv_lload_n hx hb dX7_in_1 rfl (lv_at hl 1 rfl) ?_
  refine W.lcmp hx hb dX7_in_2 ?_
  refine lv_if_lt (tgt := 17) hx hb dX7_in_3 (by decide) (fun c1 => ?_) (fun c1 => ?_)
  · rw [if_pos c1] at h
    refine lv_iconst (v := 0) hx hb dX7_in_17 (by decide) ?_
    obtain ⟨rfl, rfl⟩ := xm_pr h
    exact xm_retZ C hP hS (by rfl) dX7_in_18
  · rw [if_neg c1] at h
    refine lv_lload_n hx hb dX7_in_6 rfl (lv_at hl 0 rfl) ?_
    refine lv_lload hx hb dX7_in_7 (lv_at hl 2 rfl) ?_
    refine W.lcmp hx hb dX7_in_9 ?_
    refine lv_if_gt (tgt := 17) hx hb dX7_in_10 (by decide) (fun c2 => ?_) (fun c2 => ?_)
    · rw [if_pos c2] at h
      refine lv_iconst (v := 0) hx hb dX7_in_17 (by decide) ?_
      obtain ⟨rfl, rfl⟩ := xm_pr h
      exact xm_retZ C hP hS (by rfl) dX7_in_18
    · rw [if_neg c2] at h
      refine lv_iconst (v := 1) hx hb dX7_in_13 (by decide) ?_
      refine lv_goto (tgt := 18) hx hb dX7_in_14 (by decide) ?_
      obtain ⟨rfl, rfl⟩ := xm_pr h
      exact xm_retZ C hP hS (by rfl) dX7_in_18
theorem c_X7_in {l : Launch} {E : xm_E} {a : Nat → Nat} (hD : xm_D (xu E a)) (n : Nat) (M : xm_M) (x0 : Int64) (x2 : Int64) (x4 : Int64) (r : Int32) (M' : xm_M) (h : f_X7_in n M x0 x2 x4 = some (r, M')) : xm_Met l E (xu E a) yX7_in cX7_in 6 (some .boolean) 0 0 [.long x0, .long x2, .long x4] M M' (some r) :=
  xm_met (by decide +kernel) rfl (Nat.le_of_ble_eq_true rfl) hD (fun p e s m below meth c C hP ls hl => t_X7_in_0 C  n M x0 x2 x4 r M' h _ _ _ hP va_S.rf hl)
def f_X7_remember_2 : Nat → xm_M → Int32 → Option xm_M
  | 0, _, _ => none
  | n + 1, M, x1 => if (119 : Int32) ≤ x1 then some M else xm_ck (xm_in x1 119) (xm_ck (xm_in x1 119) (xm_lt (xm_up M 2 x1.toNatClampNeg (M 1 x1.toNatClampNeg)) (fun M4 => f_X7_remember_2 n M4 (x1 + 1))))
set_option maxHeartbeats 4000000 in
set_option maxRecDepth 100000 in
theorem t_X7_remember_2 {l : Launch} {p : Program} {e : Env} {s : State} {m : MethodId} {args : Array Value} {below : List Frame} {meth : Method} {c : Code} {E : xm_E} {a : Nat → Nat} (C : xm_C E (xu E a) p s m args meth c RX7 cX7_remember 2 none) : ∀ (n : Nat) (M : xm_M) (x1 : Int32) (M' : xm_M), f_X7_remember_2 n M x1 = some M' → ∀ (H : Heap) (locs : List Loc) (ls : Array Slot), va_P E.1 vwCl (xm_w (xu E a) M) H → va_S (xm_A (xu E a) s.heap.size) s.heap H locs → lv_has ls 2 [(0, .ref (a 0)), (1, .int x1)] → W p l e { frames := 0, cells := 0, slots := 0, locals := 0 } s m args below meth c H locs 0 0 (MQ below (xm_Q E (xu E a) M' s.heap.size none) args s 0 0 (xm_A (xu E a) s.heap.size)) (F0 m 2 ls []) := by
  have C9 := C
  obtain ⟨hx, hb, hml, hown, hts, hr, hlk, hD, hK, hS9⟩ := C9
  intro n
  induction n with
  | zero =>
    intro M x1 M' h
    cases h
  | succ n ih =>
    intro M x1 M' h H locs ls hP hS hl
    rw [f_X7_remember_2] at h
    refine lv_iload_n hx hb dX7_remember_2 rfl (lv_at hl 1 rfl) ?_
    refine lv_bipush (v := 119) hx hb dX7_remember_3 (by decide) ?_
    refine lv_icmp_ge (tgt := 26) hx hb dX7_remember_5 (by decide) (fun c1 => ?_) (fun c1 => ?_)
    · rw [if_pos c1] at h
      cases xm_on h
      exact xm_retV C hP hS dX7_remember_26
    · rw [if_neg c1] at h
      refine lv_aload_n hx hb dX7_remember_8 rfl (lv_at hl 0 rfl) ?_
      refine xm_get (V := (xu E a)) (T := TX7) (v := .ref (a 2)) C hP 0 1 xi_7 rfl l_X7_13 rfl (Nat.le_of_ble_eq_true rfl) ((xf_0 E a) _) (Nat.le_of_ble_eq_true rfl) rfl dX7_remember_9 ?_
      refine lv_iload_n hx hb dX7_remember_12 rfl (lv_at hl 1 rfl) ?_
      refine lv_aload_n hx hb dX7_remember_13 rfl (lv_at hl 0 rfl) ?_
      refine xm_get (V := (xu E a)) (T := TX7) (v := .ref (a 1)) C hP 0 0 xi_7 rfl l_X7_7 rfl (Nat.le_of_ble_eq_true rfl) ((xf_0 E a) _) (Nat.le_of_ble_eq_true rfl) rfl dX7_remember_14 ?_
      refine lv_iload_n hx hb dX7_remember_17 rfl (lv_at hl 1 rfl) ?_
      obtain ⟨b2, h⟩ := xm_ck_s h
      refine xm_iald (V := (xu E a)) C hP 1 119 (Nat.le_of_ble_eq_true rfl) (xf_1 E a) b2 dX7_remember_18 ?_
      obtain ⟨b3, h⟩ := xm_ck_s h
      obtain ⟨M4, e5, h⟩ := xm_lt_s h
      refine xm_iast (V := (xu E a)) C hP hS 2 119 (Nat.le_of_ble_eq_true rfl) (xf_2 E a) b3 dX7_remember_19 (fun H locs hP hS => ?_)
      rw [← e5] at hP
      refine lv_iinc (v := x1 + 1) (lv' := [(1, .int (x1 + 1)), (0, .ref (a 0))]) hx hb dX7_remember_20 hl (k := 1) rfl (xm_add (by decide)) (by decide) rfl (fun ls hl => ?_)
      refine lv_goto (tgt := 2) hx hb dX7_remember_23 (by decide) ?_
      exact ih M4 (x1 + 1) M' h _ _ _ hP hS (lv_sub hl [1, 0] rfl)
def f_X7_remember (n : Nat) (M : xm_M) : Option xm_M := f_X7_remember_2 n M 0
set_option maxHeartbeats 4000000 in
set_option maxRecDepth 100000 in
theorem t_X7_remember_0 {l : Launch} {p : Program} {e : Env} {s : State} {m : MethodId} {args : Array Value} {below : List Frame} {meth : Method} {c : Code} {E : xm_E} {a : Nat → Nat} (C : xm_C E (xu E a) p s m args meth c RX7 cX7_remember 2 none) (n : Nat) (M : xm_M) (M' : xm_M) : f_X7_remember n M = some M' → ∀ (H : Heap) (locs : List Loc) (ls : Array Slot), va_P E.1 vwCl (xm_w (xu E a) M) H → va_S (xm_A (xu E a) s.heap.size) s.heap H locs → lv_has ls 2 [(0, .ref (a 0))] → W p l e { frames := 0, cells := 0, slots := 0, locals := 0 } s m args below meth c H locs 0 0 (MQ below (xm_Q E (xu E a) M' s.heap.size none) args s 0 0 (xm_A (xu E a) s.heap.size)) (F0 m 0 ls []) := by
  have C9 := C
  obtain ⟨hx, hb, hml, hown, hts, hr, hlk, hD, hK, hS9⟩ := C9
  intro h H locs ls hP hS hl
  unfold f_X7_remember at h
  refine lv_iconst (v := 0) hx hb dX7_remember_0 (by decide) ?_
  refine lv_istore_n (lv' := [(1, .int 0), (0, .ref (a 0))]) hx hb dX7_remember_1 rfl hl (by decide) rfl (fun ls hl => ?_)
  exact t_X7_remember_2 C  n M 0 M' h _ _ _ hP hS (lv_sub hl [1, 0] rfl)
theorem c_X7_remember {l : Launch} {E : xm_E} {a : Nat → Nat} (hD : xm_D (xu E a)) (n : Nat) (M : xm_M) (M' : xm_M) (h : f_X7_remember n M = some M') : xm_Met l E (xu E a) yX7_remember cX7_remember 2 none 0 0 [.ref (a 0)] M M' none :=
  xm_met (by decide +kernel) rfl (Nat.le_of_ble_eq_true rfl) hD (fun p e s m below meth c C hP ls hl => t_X7_remember_0 C  n M M' h _ _ _ hP va_S.rf hl)
def f_X7_acted_50 : Nat → xm_M → Int32 → Int32 → Option (Int32 × xm_M)
  | 0, _, _, _ => none
  | n + 1, M, x1, x2 => if (119 : Int32) ≤ x2 then xm_lt (xm_up M 0 3 ((M 0 3) + 1)) (fun M2 => some (x1, M2)) else xm_ck (xm_in x2 119) (xm_ck (xm_in ((119 * (M 0 3)) + x2) 476) (xm_lt (xm_up M 3 ((119 * (M 0 3)) + x2).toNatClampNeg (M 2 x2.toNatClampNeg)) (fun M6 => f_X7_acted_50 n M6 x1 (x2 + 1))))
set_option maxHeartbeats 4000000 in
set_option maxRecDepth 100000 in
theorem t_X7_acted_50 {l : Launch} {p : Program} {e : Env} {s : State} {m : MethodId} {args : Array Value} {below : List Frame} {meth : Method} {c : Code} {E : xm_E} {a : Nat → Nat} (C : xm_C E (xu E a) p s m args meth c RX7 cX7_acted 3 (some .int)) : ∀ (n : Nat) (M : xm_M) (x1 : Int32) (x2 : Int32) (r : Int32) (M' : xm_M), f_X7_acted_50 n M x1 x2 = some (r, M') → ∀ (H : Heap) (locs : List Loc) (ls : Array Slot), va_P E.1 vwCl (xm_w (xu E a) M) H → va_S (xm_A (xu E a) s.heap.size) s.heap H locs → lv_has ls 3 [(0, .ref (a 0)), (1, .int x1), (2, .int x2)] → W p l e { frames := 0, cells := 0, slots := 0, locals := 0 } s m args below meth c H locs 0 0 (MQ below (xm_Q E (xu E a) M' s.heap.size (some r)) args s 0 0 (xm_A (xu E a) s.heap.size)) (F0 m 50 ls []) := by
  have C9 := C
  obtain ⟨hx, hb, hml, hown, hts, hr, hlk, hD, hK, hS9⟩ := C9
  intro n
  induction n with
  | zero =>
    intro M x1 x2 r M' h
    cases h
  | succ n ih =>
    intro M x1 x2 r M' h H locs ls hP hS hl
    rw [f_X7_acted_50] at h
    refine lv_iload_n hx hb dX7_acted_50 rfl (lv_at hl 2 rfl) ?_
    refine lv_bipush (v := 119) hx hb dX7_acted_51 (by decide) ?_
    refine lv_icmp_ge (tgt := 82) hx hb dX7_acted_53 (by decide) (fun c1 => ?_) (fun c1 => ?_)
    · rw [if_pos c1] at h
      refine lv_aload_n hx hb dX7_acted_82 rfl (lv_at hl 0 rfl) ?_
      refine lv_dup hx hb dX7_acted_83 rfl ?_
      refine xm_get (V := (xu E a)) (T := TX7) (v := .int (M 0 3)) C hP 0 3 xi_7 rfl l_X7_46 rfl (Nat.le_of_ble_eq_true rfl) ((xf_0 E a) _) (Nat.le_of_ble_eq_true rfl) rfl dX7_acted_84 ?_
      refine lv_iconst (v := 1) hx hb dX7_acted_87 (by decide) ?_
      refine lv_iadd hx hb dX7_acted_88 ?_
      obtain ⟨M2, e3, h⟩ := xm_lt_s h
      refine xm_put (V := (xu E a)) (T := TX7) (ty := .int) (x := (M 0 3) + 1) C hP hS 0 3 xi_7 rfl l_X7_46 rfl tyX7_ok nmX7 (Nat.le_of_ble_eq_true rfl) ((xf_0 E a) _) (Nat.le_of_ble_eq_true rfl) rfl (by decide +kernel) rfl rfl (Nat.le_of_ble_eq_true rfl) ((xf_0 E a) _) dX7_acted_89 (fun H locs hP hS => ?_)
      rw [← e3] at hP
      refine lv_iload_n hx hb dX7_acted_92 rfl (lv_at hl 1 rfl) ?_
      obtain ⟨rfl, rfl⟩ := xm_pr h
      exact xm_retI C hP hS dX7_acted_93
    · rw [if_neg c1] at h
      refine lv_aload_n hx hb dX7_acted_56 rfl (lv_at hl 0 rfl) ?_
      refine xm_get (V := (xu E a)) (T := TX7) (v := .ref (a 3)) C hP 0 2 xi_7 rfl l_X7_16 rfl (Nat.le_of_ble_eq_true rfl) ((xf_0 E a) _) (Nat.le_of_ble_eq_true rfl) rfl dX7_acted_57 ?_
      refine lv_bipush (v := 119) hx hb dX7_acted_60 (by decide) ?_
      refine lv_aload_n hx hb dX7_acted_62 rfl (lv_at hl 0 rfl) ?_
      refine xm_get (V := (xu E a)) (T := TX7) (v := .int (M 0 3)) C hP 0 3 xi_7 rfl l_X7_46 rfl (Nat.le_of_ble_eq_true rfl) ((xf_0 E a) _) (Nat.le_of_ble_eq_true rfl) rfl dX7_acted_63 ?_
      refine lv_imul hx hb dX7_acted_66 ?_
      refine lv_iload_n hx hb dX7_acted_67 rfl (lv_at hl 2 rfl) ?_
      refine lv_iadd hx hb dX7_acted_68 ?_
      refine lv_aload_n hx hb dX7_acted_69 rfl (lv_at hl 0 rfl) ?_
      refine xm_get (V := (xu E a)) (T := TX7) (v := .ref (a 2)) C hP 0 1 xi_7 rfl l_X7_13 rfl (Nat.le_of_ble_eq_true rfl) ((xf_0 E a) _) (Nat.le_of_ble_eq_true rfl) rfl dX7_acted_70 ?_
      refine lv_iload_n hx hb dX7_acted_73 rfl (lv_at hl 2 rfl) ?_
      obtain ⟨b4, h⟩ := xm_ck_s h
      refine xm_iald (V := (xu E a)) C hP 2 119 (Nat.le_of_ble_eq_true rfl) (xf_2 E a) b4 dX7_acted_74 ?_
      obtain ⟨b5, h⟩ := xm_ck_s h
      obtain ⟨M6, e7, h⟩ := xm_lt_s h
      refine xm_iast (V := (xu E a)) C hP hS 3 476 (Nat.le_of_ble_eq_true rfl) (xf_3 E a) b5 dX7_acted_75 (fun H locs hP hS => ?_)
      rw [← e7] at hP
      refine lv_iinc (v := x2 + 1) (lv' := [(2, .int (x2 + 1)), (0, .ref (a 0)), (1, .int x1)]) hx hb dX7_acted_76 hl (k := 2) rfl (xm_add (by decide)) (by decide) rfl (fun ls hl => ?_)
      refine lv_goto (tgt := 50) hx hb dX7_acted_79 (by decide) ?_
      exact ih M6 x1 (x2 + 1) r M' h _ _ _ hP hS (lv_sub hl [1, 2, 0] rfl)
def f_X7_acted_10 : Nat → xm_M → Int32 → Int32 → Option (Int32 × xm_M)
  | 0, _, _, _ => none
  | n + 1, M, x1, x2 => if (357 : Int32) ≤ x2 then xm_lt (xm_up M 0 3 ((M 0 3) - 1)) (fun M2 => f_X7_acted_50 n M2 x1 0) else xm_ck (xm_in (x2 + 119) 476) (xm_ck (xm_in x2 476) (xm_lt (xm_up M 3 x2.toNatClampNeg (M 3 (x2 + 119).toNatClampNeg)) (fun M6 => f_X7_acted_10 n M6 x1 (x2 + 1))))
set_option maxHeartbeats 4000000 in
set_option maxRecDepth 100000 in
theorem t_X7_acted_10 {l : Launch} {p : Program} {e : Env} {s : State} {m : MethodId} {args : Array Value} {below : List Frame} {meth : Method} {c : Code} {E : xm_E} {a : Nat → Nat} (C : xm_C E (xu E a) p s m args meth c RX7 cX7_acted 3 (some .int)) : ∀ (n : Nat) (M : xm_M) (x1 : Int32) (x2 : Int32) (r : Int32) (M' : xm_M), f_X7_acted_10 n M x1 x2 = some (r, M') → ∀ (H : Heap) (locs : List Loc) (ls : Array Slot), va_P E.1 vwCl (xm_w (xu E a) M) H → va_S (xm_A (xu E a) s.heap.size) s.heap H locs → lv_has ls 3 [(0, .ref (a 0)), (1, .int x1), (2, .int x2)] → W p l e { frames := 0, cells := 0, slots := 0, locals := 0 } s m args below meth c H locs 0 0 (MQ below (xm_Q E (xu E a) M' s.heap.size (some r)) args s 0 0 (xm_A (xu E a) s.heap.size)) (F0 m 10 ls []) := by
  have C9 := C
  obtain ⟨hx, hb, hml, hown, hts, hr, hlk, hD, hK, hS9⟩ := C9
  intro n
  induction n with
  | zero =>
    intro M x1 x2 r M' h
    cases h
  | succ n ih =>
    intro M x1 x2 r M' h H locs ls hP hS hl
    rw [f_X7_acted_10] at h
    refine lv_iload_n hx hb dX7_acted_10 rfl (lv_at hl 2 rfl) ?_
    refine lv_sipush (v := 357) hx hb dX7_acted_11 (by decide) ?_
    refine lv_icmp_ge (tgt := 38) hx hb dX7_acted_14 (by decide) (fun c1 => ?_) (fun c1 => ?_)
    · rw [if_pos c1] at h
      refine lv_aload_n hx hb dX7_acted_38 rfl (lv_at hl 0 rfl) ?_
      refine lv_dup hx hb dX7_acted_39 rfl ?_
      refine xm_get (V := (xu E a)) (T := TX7) (v := .int (M 0 3)) C hP 0 3 xi_7 rfl l_X7_46 rfl (Nat.le_of_ble_eq_true rfl) ((xf_0 E a) _) (Nat.le_of_ble_eq_true rfl) rfl dX7_acted_40 ?_
      refine lv_iconst (v := 1) hx hb dX7_acted_43 (by decide) ?_
      refine lv_isub hx hb dX7_acted_44 ?_
      obtain ⟨M2, e3, h⟩ := xm_lt_s h
      refine xm_put (V := (xu E a)) (T := TX7) (ty := .int) (x := (M 0 3) - 1) C hP hS 0 3 xi_7 rfl l_X7_46 rfl tyX7_ok nmX7 (Nat.le_of_ble_eq_true rfl) ((xf_0 E a) _) (Nat.le_of_ble_eq_true rfl) rfl (by decide +kernel) rfl rfl (Nat.le_of_ble_eq_true rfl) ((xf_0 E a) _) dX7_acted_45 (fun H locs hP hS => ?_)
      rw [← e3] at hP
      refine lv_iconst (v := 0) hx hb dX7_acted_48 (by decide) ?_
      refine lv_istore_n (lv' := [(2, .int 0), (0, .ref (a 0)), (1, .int x1)]) hx hb dX7_acted_49 rfl hl (by decide) rfl (fun ls hl => ?_)
      exact t_X7_acted_50 C  n M2 x1 0 r M' h _ _ _ hP hS (lv_sub hl [1, 2, 0] rfl)
    · rw [if_neg c1] at h
      refine lv_aload_n hx hb dX7_acted_17 rfl (lv_at hl 0 rfl) ?_
      refine xm_get (V := (xu E a)) (T := TX7) (v := .ref (a 3)) C hP 0 2 xi_7 rfl l_X7_16 rfl (Nat.le_of_ble_eq_true rfl) ((xf_0 E a) _) (Nat.le_of_ble_eq_true rfl) rfl dX7_acted_18 ?_
      refine lv_iload_n hx hb dX7_acted_21 rfl (lv_at hl 2 rfl) ?_
      refine lv_aload_n hx hb dX7_acted_22 rfl (lv_at hl 0 rfl) ?_
      refine xm_get (V := (xu E a)) (T := TX7) (v := .ref (a 3)) C hP 0 2 xi_7 rfl l_X7_16 rfl (Nat.le_of_ble_eq_true rfl) ((xf_0 E a) _) (Nat.le_of_ble_eq_true rfl) rfl dX7_acted_23 ?_
      refine lv_iload_n hx hb dX7_acted_26 rfl (lv_at hl 2 rfl) ?_
      refine lv_bipush (v := 119) hx hb dX7_acted_27 (by decide) ?_
      refine lv_iadd hx hb dX7_acted_29 ?_
      obtain ⟨b4, h⟩ := xm_ck_s h
      refine xm_iald (V := (xu E a)) C hP 3 476 (Nat.le_of_ble_eq_true rfl) (xf_3 E a) b4 dX7_acted_30 ?_
      obtain ⟨b5, h⟩ := xm_ck_s h
      obtain ⟨M6, e7, h⟩ := xm_lt_s h
      refine xm_iast (V := (xu E a)) C hP hS 3 476 (Nat.le_of_ble_eq_true rfl) (xf_3 E a) b5 dX7_acted_31 (fun H locs hP hS => ?_)
      rw [← e7] at hP
      refine lv_iinc (v := x2 + 1) (lv' := [(2, .int (x2 + 1)), (0, .ref (a 0)), (1, .int x1)]) hx hb dX7_acted_32 hl (k := 2) rfl (xm_add (by decide)) (by decide) rfl (fun ls hl => ?_)
      refine lv_goto (tgt := 10) hx hb dX7_acted_35 (by decide) ?_
      exact ih M6 x1 (x2 + 1) r M' h _ _ _ hP hS (lv_sub hl [1, 2, 0] rfl)
def f_X7_acted (n : Nat) (M : xm_M) (x1 : Int32) : Option (Int32 × xm_M) := if (M 0 3) = 4 then f_X7_acted_10 n M x1 0 else f_X7_acted_50 n M x1 0
set_option maxHeartbeats 4000000 in
set_option maxRecDepth 100000 in
theorem t_X7_acted_0 {l : Launch} {p : Program} {e : Env} {s : State} {m : MethodId} {args : Array Value} {below : List Frame} {meth : Method} {c : Code} {E : xm_E} {a : Nat → Nat} (C : xm_C E (xu E a) p s m args meth c RX7 cX7_acted 3 (some .int)) (n : Nat) (M : xm_M) (x1 : Int32) (r : Int32) (M' : xm_M) : f_X7_acted n M x1 = some (r, M') → ∀ (H : Heap) (locs : List Loc) (ls : Array Slot), va_P E.1 vwCl (xm_w (xu E a) M) H → va_S (xm_A (xu E a) s.heap.size) s.heap H locs → lv_has ls 3 [(0, .ref (a 0)), (1, .int x1)] → W p l e { frames := 0, cells := 0, slots := 0, locals := 0 } s m args below meth c H locs 0 0 (MQ below (xm_Q E (xu E a) M' s.heap.size (some r)) args s 0 0 (xm_A (xu E a) s.heap.size)) (F0 m 0 ls []) := by
  have C9 := C
  obtain ⟨hx, hb, hml, hown, hts, hr, hlk, hD, hK, hS9⟩ := C9
  intro h H locs ls hP hS hl
  unfold f_X7_acted at h
  refine lv_aload_n hx hb dX7_acted_0 rfl (lv_at hl 0 rfl) ?_
  refine xm_get (V := (xu E a)) (T := TX7) (v := .int (M 0 3)) C hP 0 3 xi_7 rfl l_X7_46 rfl (Nat.le_of_ble_eq_true rfl) ((xf_0 E a) _) (Nat.le_of_ble_eq_true rfl) rfl dX7_acted_1 ?_
  refine lv_iconst (v := 4) hx hb dX7_acted_4 (by decide) ?_
  refine lv_icmp_ne (tgt := 48) hx hb dX7_acted_5 (by decide) (fun c1 => ?_) (fun c1 => ?_)
  · rw [if_neg c1] at h
    refine lv_iconst (v := 0) hx hb dX7_acted_48 (by decide) ?_
    refine lv_istore_n (lv' := [(2, .int 0), (0, .ref (a 0)), (1, .int x1)]) hx hb dX7_acted_49 rfl hl (by decide) rfl (fun ls hl => ?_)
    exact t_X7_acted_50 C  n M x1 0 r M' h _ _ _ hP hS (lv_sub hl [1, 2, 0] rfl)
  · rw [if_pos c1] at h
    refine lv_iconst (v := 0) hx hb dX7_acted_8 (by decide) ?_
    refine lv_istore_n (lv' := [(2, .int 0), (0, .ref (a 0)), (1, .int x1)]) hx hb dX7_acted_9 rfl hl (by decide) rfl (fun ls hl => ?_)
    exact t_X7_acted_10 C  n M x1 0 r M' h _ _ _ hP hS (lv_sub hl [1, 2, 0] rfl)
theorem c_X7_acted {l : Launch} {E : xm_E} {a : Nat → Nat} (hD : xm_D (xu E a)) (n : Nat) (M : xm_M) (x1 : Int32) (r : Int32) (M' : xm_M) (h : f_X7_acted n M x1 = some (r, M')) : xm_Met l E (xu E a) yX7_acted cX7_acted 3 (some .int) 0 0 [.ref (a 0), .int x1] M M' (some r) :=
  xm_met (by decide +kernel) rfl (Nat.le_of_ble_eq_true rfl) hD (fun p e s m below meth c C hP ls hl => t_X7_acted_0 C  n M x1 r M' h _ _ _ hP va_S.rf hl)
def f_X7_of (n : Nat) (M : xm_M) (x1 : Int32) (x2 : Int32) : Option (Int32 × xm_M) := xm_ck (xm_in ((4 + (3 * x1)) + x2) 119) (some (M 1 ((4 + (3 * x1)) + x2).toNatClampNeg, M))
set_option maxHeartbeats 4000000 in
set_option maxRecDepth 100000 in
theorem t_X7_of_0 {l : Launch} {p : Program} {e : Env} {s : State} {m : MethodId} {args : Array Value} {below : List Frame} {meth : Method} {c : Code} {E : xm_E} {a : Nat → Nat} (C : xm_C E (xu E a) p s m args meth c RX7 cX7_of 3 (some .int)) (n : Nat) (M : xm_M) (x1 : Int32) (x2 : Int32) (r : Int32) (M' : xm_M) : f_X7_of n M x1 x2 = some (r, M') → ∀ (H : Heap) (locs : List Loc) (ls : Array Slot), va_P E.1 vwCl (xm_w (xu E a) M) H → va_S (xm_A (xu E a) s.heap.size) s.heap H locs → lv_has ls 3 [(0, .ref (a 0)), (1, .int x1), (2, .int x2)] → W p l e { frames := 0, cells := 0, slots := 0, locals := 0 } s m args below meth c H locs 0 0 (MQ below (xm_Q E (xu E a) M' s.heap.size (some r)) args s 0 0 (xm_A (xu E a) s.heap.size)) (F0 m 0 ls []) := by
  have C9 := C
  obtain ⟨hx, hb, hml, hown, hts, hr, hlk, hD, hK, hS9⟩ := C9
  intro h H locs ls hP hS hl
  unfold f_X7_of at h
  refine lv_aload_n hx hb dX7_of_0 rfl (lv_at hl 0 rfl) ?_
  refine xm_get (V := (xu E a)) (T := TX7) (v := .ref (a 1)) C hP 0 0 xi_7 rfl l_X7_7 rfl (Nat.le_of_ble_eq_true rfl) ((xf_0 E a) _) (Nat.le_of_ble_eq_true rfl) rfl dX7_of_1 ?_
  refine lv_iconst (v := 4) hx hb dX7_of_4 (by decide) ?_
  refine lv_iconst (v := 3) hx hb dX7_of_5 (by decide) ?_
  refine lv_iload_n hx hb dX7_of_6 rfl (lv_at hl 1 rfl) ?_
  refine lv_imul hx hb dX7_of_7 ?_
  refine lv_iadd hx hb dX7_of_8 ?_
  refine lv_iload_n hx hb dX7_of_9 rfl (lv_at hl 2 rfl) ?_
  refine lv_iadd hx hb dX7_of_10 ?_
  obtain ⟨b1, h⟩ := xm_ck_s h
  refine xm_iald (V := (xu E a)) C hP 1 119 (Nat.le_of_ble_eq_true rfl) (xf_1 E a) b1 dX7_of_11 ?_
  obtain ⟨rfl, rfl⟩ := xm_pr h
  exact xm_retI C hP hS dX7_of_12
theorem c_X7_of {l : Launch} {E : xm_E} {a : Nat → Nat} (hD : xm_D (xu E a)) (n : Nat) (M : xm_M) (x1 : Int32) (x2 : Int32) (r : Int32) (M' : xm_M) (h : f_X7_of n M x1 x2 = some (r, M')) : xm_Met l E (xu E a) yX7_of cX7_of 3 (some .int) 0 0 [.ref (a 0), .int x1, .int x2] M M' (some r) :=
  xm_met (by decide +kernel) rfl (Nat.le_of_ble_eq_true rfl) hD (fun p e s m below meth c C hP ls hl => t_X7_of_0 C  n M x1 x2 r M' h _ _ _ hP va_S.rf hl)
def f_X7_isEvent (n : Nat) (M : xm_M) (x1 : Int32) : Option (Int32 × xm_M) := xm_ck (xm_in 0 119) (xm_b2 (f_X7_in n M x1.toInt64 0 (((M 1 (0 : Int32).toNatClampNeg).toInt64) - 1)) (fun r3 M2 => xm_ck (xm_z r3) (some (r3, M2))))
set_option maxHeartbeats 4000000 in
set_option maxRecDepth 100000 in
theorem t_X7_isEvent_0 {l : Launch} {p : Program} {e : Env} {s : State} {m : MethodId} {args : Array Value} {below : List Frame} {meth : Method} {c : Code} {E : xm_E} {a : Nat → Nat} (C : xm_C E (xu E a) p s m args meth c RX7 cX7_isEvent 2 (some .boolean)) (n : Nat) (M : xm_M) (x1 : Int32) (r : Int32) (M' : xm_M) : f_X7_isEvent n M x1 = some (r, M') → ∀ (H : Heap) (locs : List Loc) (ls : Array Slot), va_P E.1 vwCl (xm_w (xu E a) M) H → va_S (xm_A (xu E a) s.heap.size) s.heap H locs → lv_has ls 2 [(0, .ref (a 0)), (1, .int x1)] → W p l e { frames := 1, cells := 0, slots := 0, locals := 25 } s m args below meth c H locs 0 0 (MQ below (xm_Q E (xu E a) M' s.heap.size (some r)) args s 0 0 (xm_A (xu E a) s.heap.size)) (F0 m 0 ls []) := by
  have C9 := C
  obtain ⟨hx, hb, hml, hown, hts, hr, hlk, hD, hK, hS9⟩ := C9
  intro h H locs ls hP hS hl
  unfold f_X7_isEvent at h
  refine lv_iload_n hx hb dX7_isEvent_0 rfl (lv_at hl 1 rfl) ?_
  refine lv_i2l (v := x1.toInt64) hx hb dX7_isEvent_1 rfl ?_
  refine lv_lconst (v := 0) hx hb dX7_isEvent_2 (by decide) ?_
  refine lv_aload_n hx hb dX7_isEvent_3 rfl (lv_at hl 0 rfl) ?_
  refine xm_get (V := (xu E a)) (T := TX7) (v := .ref (a 1)) C hP 0 0 xi_7 rfl l_X7_7 rfl (Nat.le_of_ble_eq_true rfl) ((xf_0 E a) _) (Nat.le_of_ble_eq_true rfl) rfl dX7_isEvent_4 ?_
  refine lv_iconst (v := 0) hx hb dX7_isEvent_7 (by decide) ?_
  obtain ⟨b1, h⟩ := xm_ck_s h
  refine xm_iald (V := (xu E a)) C hP 1 119 (Nat.le_of_ble_eq_true rfl) (xf_1 E a) b1 dX7_isEvent_8 ?_
  refine lv_i2l (v := (M 1 (0 : Int32).toNatClampNeg).toInt64) hx hb dX7_isEvent_9 rfl ?_
  refine lv_lconst (v := 1) hx hb dX7_isEvent_10 (by decide) ?_
  refine lv_lsub hx hb dX7_isEvent_11 ?_
  obtain ⟨r3, M2, e4, h⟩ := xm_b2_s h
  refine xm_callS C hP hS [.long x1.toInt64, .long 0, .long (((M 1 (0 : Int32).toNatClampNeg).toInt64) - 1)] [] (c_X7_in hD  n M x1.toInt64 0 (((M 1 (0 : Int32).toNatClampNeg).toInt64) - 1) r3 M2 e4) k_X7_50  rfl rfl ⟨(Nat.le_of_ble_eq_true rfl), (Nat.le_of_ble_eq_true rfl)⟩ hl.1 (Nat.le_of_ble_eq_true rfl) ⟨Nat.zero_le _, Nat.zero_le _⟩ dX7_isEvent_12 (fun H locs hP hS => ?_)
  change W p l e _ s m _ below meth c H locs 0 0 _ (F0 m 15 ls [.int r3])
  obtain ⟨z5, h⟩ := xm_ck_s h
  obtain ⟨rfl, rfl⟩ := xm_pr h
  exact xm_retZ C hP hS (xm_z_s z5) dX7_isEvent_15
theorem c_X7_isEvent {l : Launch} {E : xm_E} {a : Nat → Nat} (hD : xm_D (xu E a)) (n : Nat) (M : xm_M) (x1 : Int32) (r : Int32) (M' : xm_M) (h : f_X7_isEvent n M x1 = some (r, M')) : xm_Met l E (xu E a) yX7_isEvent cX7_isEvent 2 (some .boolean) 1 25 [.ref (a 0), .int x1] M M' (some r) :=
  xm_met (by decide +kernel) rfl (Nat.le_of_ble_eq_true rfl) hD (fun p e s m below meth c C hP ls hl => t_X7_isEvent_0 C  n M x1 r M' h _ _ _ hP va_S.rf hl)
def f_X7_isWell (n : Nat) (M : xm_M) (x0 : Int32) (x1 : Int32) (x2 : Int32) : Option (Int32 × xm_M) := xm_b2 (f_X7_in n M x0.toInt64 97 104) (fun r2 M1 => if r2 = 0 then some (0, M1) else xm_b2 (f_X7_in n M1 x1.toInt64 0 99) (fun r6 M5 => if r6 = 0 then some (0, M5) else xm_b2 (f_X7_in n M5 x2.toInt64 0 9999) (fun r10 M9 => if r10 = 0 then some (0, M9) else some (1, M9))))
set_option maxHeartbeats 4000000 in
set_option maxRecDepth 100000 in
theorem t_X7_isWell_0 {l : Launch} {p : Program} {e : Env} {s : State} {m : MethodId} {args : Array Value} {below : List Frame} {meth : Method} {c : Code} {E : xm_E} {a : Nat → Nat} (C : xm_C E (xu E a) p s m args meth c RX7 cX7_isWell 3 (some .boolean)) (n : Nat) (M : xm_M) (x0 : Int32) (x1 : Int32) (x2 : Int32) (r : Int32) (M' : xm_M) : f_X7_isWell n M x0 x1 x2 = some (r, M') → ∀ (H : Heap) (locs : List Loc) (ls : Array Slot), va_P E.1 vwCl (xm_w (xu E a) M) H → va_S (xm_A (xu E a) s.heap.size) s.heap H locs → lv_has ls 3 [(0, .int x0), (1, .int x1), (2, .int x2)] → W p l e { frames := 1, cells := 0, slots := 0, locals := 25 } s m args below meth c H locs 0 0 (MQ below (xm_Q E (xu E a) M' s.heap.size (some r)) args s 0 0 (xm_A (xu E a) s.heap.size)) (F0 m 0 ls []) := by
  have C9 := C
  obtain ⟨hx, hb, hml, hown, hts, hr, hlk, hD, hK, hS9⟩ := C9
  intro h H locs ls hP hS hl
  unfold f_X7_isWell at h
  refine lv_iload_n hx hb dX7_isWell_0 rfl (lv_at hl 0 rfl) ?_
  refine lv_i2l (v := x0.toInt64) hx hb dX7_isWell_1 rfl ?_
  refine lv_ldc2 (v := 97) hx hb hown (hts _ q_X7_54) dX7_isWell_2 ?_
  refine lv_ldc2 (v := 104) hx hb hown (hts _ q_X7_56) dX7_isWell_5 ?_
  obtain ⟨r2, M1, e3, h⟩ := xm_b2_s h
  refine xm_callS C hP hS [.long x0.toInt64, .long 97, .long 104] [] (c_X7_in hD  n M x0.toInt64 97 104 r2 M1 e3) k_X7_50  rfl rfl ⟨(Nat.le_of_ble_eq_true rfl), (Nat.le_of_ble_eq_true rfl)⟩ hl.1 (Nat.le_of_ble_eq_true rfl) ⟨Nat.zero_le _, Nat.zero_le _⟩ dX7_isWell_8 (fun H locs hP hS => ?_)
  change W p l e _ s m _ below meth c H locs 0 0 _ (F0 m 11 ls [.int r2])
  refine lv_if_eq (tgt := 42) hx hb dX7_isWell_11 (by decide) (fun c4 => ?_) (fun c4 => ?_)
  · rw [if_pos c4] at h
    refine lv_iconst (v := 0) hx hb dX7_isWell_42 (by decide) ?_
    obtain ⟨rfl, rfl⟩ := xm_pr h
    exact xm_retZ C hP hS (by rfl) dX7_isWell_43
  · rw [if_neg c4] at h
    refine lv_iload_n hx hb dX7_isWell_14 rfl (lv_at hl 1 rfl) ?_
    refine lv_i2l (v := x1.toInt64) hx hb dX7_isWell_15 rfl ?_
    refine lv_lconst (v := 0) hx hb dX7_isWell_16 (by decide) ?_
    refine lv_ldc2 (v := 99) hx hb hown (hts _ q_X7_58) dX7_isWell_17 ?_
    obtain ⟨r6, M5, e7, h⟩ := xm_b2_s h
    refine xm_callS C hP hS [.long x1.toInt64, .long 0, .long 99] [] (c_X7_in hD  n M1 x1.toInt64 0 99 r6 M5 e7) k_X7_50  rfl rfl ⟨(Nat.le_of_ble_eq_true rfl), (Nat.le_of_ble_eq_true rfl)⟩ hl.1 (Nat.le_of_ble_eq_true rfl) ⟨Nat.zero_le _, Nat.zero_le _⟩ dX7_isWell_20 (fun H locs hP hS => ?_)
    change W p l e _ s m _ below meth c H locs 0 0 _ (F0 m 23 ls [.int r6])
    refine lv_if_eq (tgt := 42) hx hb dX7_isWell_23 (by decide) (fun c8 => ?_) (fun c8 => ?_)
    · rw [if_pos c8] at h
      refine lv_iconst (v := 0) hx hb dX7_isWell_42 (by decide) ?_
      obtain ⟨rfl, rfl⟩ := xm_pr h
      exact xm_retZ C hP hS (by rfl) dX7_isWell_43
    · rw [if_neg c8] at h
      refine lv_iload_n hx hb dX7_isWell_26 rfl (lv_at hl 2 rfl) ?_
      refine lv_i2l (v := x2.toInt64) hx hb dX7_isWell_27 rfl ?_
      refine lv_lconst (v := 0) hx hb dX7_isWell_28 (by decide) ?_
      refine lv_ldc2 (v := 9999) hx hb hown (hts _ q_X7_60) dX7_isWell_29 ?_
      obtain ⟨r10, M9, e11, h⟩ := xm_b2_s h
      refine xm_callS C hP hS [.long x2.toInt64, .long 0, .long 9999] [] (c_X7_in hD  n M5 x2.toInt64 0 9999 r10 M9 e11) k_X7_50  rfl rfl ⟨(Nat.le_of_ble_eq_true rfl), (Nat.le_of_ble_eq_true rfl)⟩ hl.1 (Nat.le_of_ble_eq_true rfl) ⟨Nat.zero_le _, Nat.zero_le _⟩ dX7_isWell_32 (fun H locs hP hS => ?_)
      change W p l e _ s m _ below meth c H locs 0 0 _ (F0 m 35 ls [.int r10])
      refine lv_if_eq (tgt := 42) hx hb dX7_isWell_35 (by decide) (fun c12 => ?_) (fun c12 => ?_)
      · rw [if_pos c12] at h
        refine lv_iconst (v := 0) hx hb dX7_isWell_42 (by decide) ?_
        obtain ⟨rfl, rfl⟩ := xm_pr h
        exact xm_retZ C hP hS (by rfl) dX7_isWell_43
      · rw [if_neg c12] at h
        refine lv_iconst (v := 1) hx hb dX7_isWell_38 (by decide) ?_
        refine lv_goto (tgt := 43) hx hb dX7_isWell_39 (by decide) ?_
        obtain ⟨rfl, rfl⟩ := xm_pr h
        exact xm_retZ C hP hS (by rfl) dX7_isWell_43
theorem c_X7_isWell {l : Launch} {E : xm_E} {a : Nat → Nat} (hD : xm_D (xu E a)) (n : Nat) (M : xm_M) (x0 : Int32) (x1 : Int32) (x2 : Int32) (r : Int32) (M' : xm_M) (h : f_X7_isWell n M x0 x1 x2 = some (r, M')) : xm_Met l E (xu E a) yX7_isWell cX7_isWell 3 (some .boolean) 1 25 [.int x0, .int x1, .int x2] M M' (some r) :=
  xm_met (by decide +kernel) rfl (Nat.le_of_ble_eq_true rfl) hD (fun p e s m below meth c C hP ls hl => t_X7_isWell_0 C  n M x0 x1 x2 r M' h _ _ _ hP va_S.rf hl)
def f_X7_isLate (n : Nat) (M : xm_M) (x1 : Int32) : Option (Int32 × xm_M) := xm_ck (xm_in 1 119) (xm_ck (xm_in 2 119) (if ((M 1 (1 : Int32).toNatClampNeg) - (M 1 (2 : Int32).toNatClampNeg)) ≤ x1 then some (0, M) else some (1, M)))
set_option maxHeartbeats 4000000 in
set_option maxRecDepth 100000 in
theorem t_X7_isLate_0 {l : Launch} {p : Program} {e : Env} {s : State} {m : MethodId} {args : Array Value} {below : List Frame} {meth : Method} {c : Code} {E : xm_E} {a : Nat → Nat} (C : xm_C E (xu E a) p s m args meth c RX7 cX7_isLate 2 (some .boolean)) (n : Nat) (M : xm_M) (x1 : Int32) (r : Int32) (M' : xm_M) : f_X7_isLate n M x1 = some (r, M') → ∀ (H : Heap) (locs : List Loc) (ls : Array Slot), va_P E.1 vwCl (xm_w (xu E a) M) H → va_S (xm_A (xu E a) s.heap.size) s.heap H locs → lv_has ls 2 [(0, .ref (a 0)), (1, .int x1)] → W p l e { frames := 0, cells := 0, slots := 0, locals := 0 } s m args below meth c H locs 0 0 (MQ below (xm_Q E (xu E a) M' s.heap.size (some r)) args s 0 0 (xm_A (xu E a) s.heap.size)) (F0 m 0 ls []) := by
  have C9 := C
  obtain ⟨hx, hb, hml, hown, hts, hr, hlk, hD, hK, hS9⟩ := C9
  intro h H locs ls hP hS hl
  unfold f_X7_isLate at h
  refine lv_iload_n hx hb dX7_isLate_0 rfl (lv_at hl 1 rfl) ?_
  refine lv_aload_n hx hb dX7_isLate_1 rfl (lv_at hl 0 rfl) ?_
  refine xm_get (V := (xu E a)) (T := TX7) (v := .ref (a 1)) C hP 0 0 xi_7 rfl l_X7_7 rfl (Nat.le_of_ble_eq_true rfl) ((xf_0 E a) _) (Nat.le_of_ble_eq_true rfl) rfl dX7_isLate_2 ?_
  refine lv_iconst (v := 1) hx hb dX7_isLate_5 (by decide) ?_
  obtain ⟨b1, h⟩ := xm_ck_s h
  refine xm_iald (V := (xu E a)) C hP 1 119 (Nat.le_of_ble_eq_true rfl) (xf_1 E a) b1 dX7_isLate_6 ?_
  refine lv_aload_n hx hb dX7_isLate_7 rfl (lv_at hl 0 rfl) ?_
  refine xm_get (V := (xu E a)) (T := TX7) (v := .ref (a 1)) C hP 0 0 xi_7 rfl l_X7_7 rfl (Nat.le_of_ble_eq_true rfl) ((xf_0 E a) _) (Nat.le_of_ble_eq_true rfl) rfl dX7_isLate_8 ?_
  refine lv_iconst (v := 2) hx hb dX7_isLate_11 (by decide) ?_
  obtain ⟨b2, h⟩ := xm_ck_s h
  refine xm_iald (V := (xu E a)) C hP 1 119 (Nat.le_of_ble_eq_true rfl) (xf_1 E a) b2 dX7_isLate_12 ?_
  refine lv_isub hx hb dX7_isLate_13 ?_
  refine lv_icmp_ge (tgt := 21) hx hb dX7_isLate_14 (by decide) (fun c3 => ?_) (fun c3 => ?_)
  · rw [if_pos c3] at h
    refine lv_iconst (v := 0) hx hb dX7_isLate_21 (by decide) ?_
    obtain ⟨rfl, rfl⟩ := xm_pr h
    exact xm_retZ C hP hS (by rfl) dX7_isLate_22
  · rw [if_neg c3] at h
    refine lv_iconst (v := 1) hx hb dX7_isLate_17 (by decide) ?_
    refine lv_goto (tgt := 22) hx hb dX7_isLate_18 (by decide) ?_
    obtain ⟨rfl, rfl⟩ := xm_pr h
    exact xm_retZ C hP hS (by rfl) dX7_isLate_22
theorem c_X7_isLate {l : Launch} {E : xm_E} {a : Nat → Nat} (hD : xm_D (xu E a)) (n : Nat) (M : xm_M) (x1 : Int32) (r : Int32) (M' : xm_M) (h : f_X7_isLate n M x1 = some (r, M')) : xm_Met l E (xu E a) yX7_isLate cX7_isLate 2 (some .boolean) 0 0 [.ref (a 0), .int x1] M M' (some r) :=
  xm_met (by decide +kernel) rfl (Nat.le_of_ble_eq_true rfl) hD (fun p e s m below meth c C hP ls hl => t_X7_isLate_0 C  n M x1 r M' h _ _ _ hP va_S.rf hl)
def f_X7_watermark (n : Nat) (M : xm_M) : Option (Int32 × xm_M) := xm_ck (xm_in 1 119) (xm_ck (xm_in 2 119) (if (0 : Int32) ≤ ((M 1 (1 : Int32).toNatClampNeg) - (M 1 (2 : Int32).toNatClampNeg)) then some ((M 1 (1 : Int32).toNatClampNeg) - (M 1 (2 : Int32).toNatClampNeg), M) else some (0, M)))
set_option maxHeartbeats 4000000 in
set_option maxRecDepth 100000 in
theorem t_X7_watermark_0 {l : Launch} {p : Program} {e : Env} {s : State} {m : MethodId} {args : Array Value} {below : List Frame} {meth : Method} {c : Code} {E : xm_E} {a : Nat → Nat} (C : xm_C E (xu E a) p s m args meth c RX7 cX7_watermark 2 (some .int)) (n : Nat) (M : xm_M) (r : Int32) (M' : xm_M) : f_X7_watermark n M = some (r, M') → ∀ (H : Heap) (locs : List Loc) (ls : Array Slot), va_P E.1 vwCl (xm_w (xu E a) M) H → va_S (xm_A (xu E a) s.heap.size) s.heap H locs → lv_has ls 2 [(0, .ref (a 0))] → W p l e { frames := 0, cells := 0, slots := 0, locals := 0 } s m args below meth c H locs 0 0 (MQ below (xm_Q E (xu E a) M' s.heap.size (some r)) args s 0 0 (xm_A (xu E a) s.heap.size)) (F0 m 0 ls []) := by
  have C9 := C
  obtain ⟨hx, hb, hml, hown, hts, hr, hlk, hD, hK, hS9⟩ := C9
  intro h H locs ls hP hS hl
  unfold f_X7_watermark at h
  refine lv_aload_n hx hb dX7_watermark_0 rfl (lv_at hl 0 rfl) ?_
  refine xm_get (V := (xu E a)) (T := TX7) (v := .ref (a 1)) C hP 0 0 xi_7 rfl l_X7_7 rfl (Nat.le_of_ble_eq_true rfl) ((xf_0 E a) _) (Nat.le_of_ble_eq_true rfl) rfl dX7_watermark_1 ?_
  refine lv_iconst (v := 1) hx hb dX7_watermark_4 (by decide) ?_
  obtain ⟨b1, h⟩ := xm_ck_s h
  refine xm_iald (V := (xu E a)) C hP 1 119 (Nat.le_of_ble_eq_true rfl) (xf_1 E a) b1 dX7_watermark_5 ?_
  refine lv_aload_n hx hb dX7_watermark_6 rfl (lv_at hl 0 rfl) ?_
  refine xm_get (V := (xu E a)) (T := TX7) (v := .ref (a 1)) C hP 0 0 xi_7 rfl l_X7_7 rfl (Nat.le_of_ble_eq_true rfl) ((xf_0 E a) _) (Nat.le_of_ble_eq_true rfl) rfl dX7_watermark_7 ?_
  refine lv_iconst (v := 2) hx hb dX7_watermark_10 (by decide) ?_
  obtain ⟨b2, h⟩ := xm_ck_s h
  refine xm_iald (V := (xu E a)) C hP 1 119 (Nat.le_of_ble_eq_true rfl) (xf_1 E a) b2 dX7_watermark_11 ?_
  refine lv_isub hx hb dX7_watermark_12 ?_
  refine lv_istore_n (lv' := [(1, .int ((M 1 (1 : Int32).toNatClampNeg) - (M 1 (2 : Int32).toNatClampNeg))), (0, .ref (a 0))]) hx hb dX7_watermark_13 rfl hl (by decide) rfl (fun ls hl => ?_)
  refine lv_iload_n hx hb dX7_watermark_14 rfl (lv_at hl 0 rfl) ?_
  refine lv_if_ge (tgt := 22) hx hb dX7_watermark_15 (by decide) (fun c3 => ?_) (fun c3 => ?_)
  · rw [if_pos c3] at h
    refine lv_iload_n hx hb dX7_watermark_22 rfl (lv_at hl 0 rfl) ?_
    obtain ⟨rfl, rfl⟩ := xm_pr h
    exact xm_retI C hP hS dX7_watermark_23
  · rw [if_neg c3] at h
    refine lv_iconst (v := 0) hx hb dX7_watermark_18 (by decide) ?_
    refine lv_goto (tgt := 23) hx hb dX7_watermark_19 (by decide) ?_
    obtain ⟨rfl, rfl⟩ := xm_pr h
    exact xm_retI C hP hS dX7_watermark_23
theorem c_X7_watermark {l : Launch} {E : xm_E} {a : Nat → Nat} (hD : xm_D (xu E a)) (n : Nat) (M : xm_M) (r : Int32) (M' : xm_M) (h : f_X7_watermark n M = some (r, M')) : xm_Met l E (xu E a) yX7_watermark cX7_watermark 2 (some .int) 0 0 [.ref (a 0)] M M' (some r) :=
  xm_met (by decide +kernel) rfl (Nat.le_of_ble_eq_true rfl) hD (fun p e s m below meth c C hP ls hl => t_X7_watermark_0 C  n M r M' h _ _ _ hP va_S.rf hl)
def f_X7_comes (n : Nat) (M : xm_M) (x1 : Int32) (x2 : Int32) (x3 : Int32) : Option xm_M := xm_ck (xm_in 0 119) (xm_ck (xm_in ((4 + (3 * (M 1 (0 : Int32).toNatClampNeg))) + 0) 119) (xm_lt (xm_up M 1 ((4 + (3 * (M 1 (0 : Int32).toNatClampNeg))) + 0).toNatClampNeg (x1 - 97)) (fun M3 => xm_ck (xm_in ((4 + (3 * (M 1 (0 : Int32).toNatClampNeg))) + 1) 119) (xm_lt (xm_up M3 1 ((4 + (3 * (M 1 (0 : Int32).toNatClampNeg))) + 1).toNatClampNeg x2) (fun M6 => xm_ck (xm_in ((4 + (3 * (M 1 (0 : Int32).toNatClampNeg))) + 2) 119) (xm_lt (xm_up M6 1 ((4 + (3 * (M 1 (0 : Int32).toNatClampNeg))) + 2).toNatClampNeg x3) (fun M9 => xm_ck (xm_in 0 119) (xm_ck (xm_in 0 119) (xm_lt (xm_up M9 1 (0 : Int32).toNatClampNeg ((M9 1 (0 : Int32).toNatClampNeg) + 1)) (fun M13 => xm_ck (xm_in 1 119) (if x3 ≤ (M13 1 (1 : Int32).toNatClampNeg) then xm_ck (xm_in 1 119) (xm_ck (xm_in 1 119) (xm_lt (xm_up M13 1 (1 : Int32).toNatClampNeg (M13 1 (1 : Int32).toNatClampNeg)) (fun M19 => some M19))) else xm_ck (xm_in 1 119) (xm_lt (xm_up M13 1 (1 : Int32).toNatClampNeg x3) (fun M22 => some M22)))))))))))))
set_option maxHeartbeats 4000000 in
set_option maxRecDepth 100000 in
theorem t_X7_comes_0 {l : Launch} {p : Program} {e : Env} {s : State} {m : MethodId} {args : Array Value} {below : List Frame} {meth : Method} {c : Code} {E : xm_E} {a : Nat → Nat} (C : xm_C E (xu E a) p s m args meth c RX7 cX7_comes 5 none) (n : Nat) (M : xm_M) (x1 : Int32) (x2 : Int32) (x3 : Int32) (M' : xm_M) : f_X7_comes n M x1 x2 x3 = some M' → ∀ (H : Heap) (locs : List Loc) (ls : Array Slot), va_P E.1 vwCl (xm_w (xu E a) M) H → va_S (xm_A (xu E a) s.heap.size) s.heap H locs → lv_has ls 5 [(0, .ref (a 0)), (1, .int x1), (2, .int x2), (3, .int x3)] → W p l e { frames := 0, cells := 0, slots := 0, locals := 0 } s m args below meth c H locs 0 0 (MQ below (xm_Q E (xu E a) M' s.heap.size none) args s 0 0 (xm_A (xu E a) s.heap.size)) (F0 m 0 ls []) := by
  have C9 := C
  obtain ⟨hx, hb, hml, hown, hts, hr, hlk, hD, hK, hS9⟩ := C9
  intro h H locs ls hP hS hl
  unfold f_X7_comes at h
  refine lv_iconst (v := 4) hx hb dX7_comes_0 (by decide) ?_
  refine lv_iconst (v := 3) hx hb dX7_comes_1 (by decide) ?_
  refine lv_aload_n hx hb dX7_comes_2 rfl (lv_at hl 0 rfl) ?_
  refine xm_get (V := (xu E a)) (T := TX7) (v := .ref (a 1)) C hP 0 0 xi_7 rfl l_X7_7 rfl (Nat.le_of_ble_eq_true rfl) ((xf_0 E a) _) (Nat.le_of_ble_eq_true rfl) rfl dX7_comes_3 ?_
  refine lv_iconst (v := 0) hx hb dX7_comes_6 (by decide) ?_
  obtain ⟨b1, h⟩ := xm_ck_s h
  refine xm_iald (V := (xu E a)) C hP 1 119 (Nat.le_of_ble_eq_true rfl) (xf_1 E a) b1 dX7_comes_7 ?_
  refine lv_imul hx hb dX7_comes_8 ?_
  refine lv_iadd hx hb dX7_comes_9 ?_
  refine lv_istore (lv' := [(4, .int (4 + (3 * (M 1 (0 : Int32).toNatClampNeg)))), (0, .ref (a 0)), (1, .int x1), (2, .int x2), (3, .int x3)]) hx hb dX7_comes_10 hl (by decide) rfl (fun ls hl => ?_)
  refine lv_aload_n hx hb dX7_comes_12 rfl (lv_at hl 1 rfl) ?_
  refine xm_get (V := (xu E a)) (T := TX7) (v := .ref (a 1)) C hP 0 0 xi_7 rfl l_X7_7 rfl (Nat.le_of_ble_eq_true rfl) ((xf_0 E a) _) (Nat.le_of_ble_eq_true rfl) rfl dX7_comes_13 ?_
  refine lv_iload hx hb dX7_comes_16 (lv_at hl 0 rfl) ?_
  refine lv_iconst (v := 0) hx hb dX7_comes_18 (by decide) ?_
  refine lv_iadd hx hb dX7_comes_19 ?_
  refine lv_iload_n hx hb dX7_comes_20 rfl (lv_at hl 2 rfl) ?_
  refine lv_bipush (v := 97) hx hb dX7_comes_21 (by decide) ?_
  refine lv_isub hx hb dX7_comes_23 ?_
  obtain ⟨b2, h⟩ := xm_ck_s h
  obtain ⟨M3, e4, h⟩ := xm_lt_s h
  refine xm_iast (V := (xu E a)) C hP hS 1 119 (Nat.le_of_ble_eq_true rfl) (xf_1 E a) b2 dX7_comes_24 (fun H locs hP hS => ?_)
  rw [← e4] at hP
  refine lv_aload_n hx hb dX7_comes_25 rfl (lv_at hl 1 rfl) ?_
  refine xm_get (V := (xu E a)) (T := TX7) (v := .ref (a 1)) C hP 0 0 xi_7 rfl l_X7_7 rfl (Nat.le_of_ble_eq_true rfl) ((xf_0 E a) _) (Nat.le_of_ble_eq_true rfl) rfl dX7_comes_26 ?_
  refine lv_iload hx hb dX7_comes_29 (lv_at hl 0 rfl) ?_
  refine lv_iconst (v := 1) hx hb dX7_comes_31 (by decide) ?_
  refine lv_iadd hx hb dX7_comes_32 ?_
  refine lv_iload_n hx hb dX7_comes_33 rfl (lv_at hl 3 rfl) ?_
  obtain ⟨b5, h⟩ := xm_ck_s h
  obtain ⟨M6, e7, h⟩ := xm_lt_s h
  refine xm_iast (V := (xu E a)) C hP hS 1 119 (Nat.le_of_ble_eq_true rfl) (xf_1 E a) b5 dX7_comes_34 (fun H locs hP hS => ?_)
  rw [← e7] at hP
  refine lv_aload_n hx hb dX7_comes_35 rfl (lv_at hl 1 rfl) ?_
  refine xm_get (V := (xu E a)) (T := TX7) (v := .ref (a 1)) C hP 0 0 xi_7 rfl l_X7_7 rfl (Nat.le_of_ble_eq_true rfl) ((xf_0 E a) _) (Nat.le_of_ble_eq_true rfl) rfl dX7_comes_36 ?_
  refine lv_iload hx hb dX7_comes_39 (lv_at hl 0 rfl) ?_
  refine lv_iconst (v := 2) hx hb dX7_comes_41 (by decide) ?_
  refine lv_iadd hx hb dX7_comes_42 ?_
  refine lv_iload_n hx hb dX7_comes_43 rfl (lv_at hl 4 rfl) ?_
  obtain ⟨b8, h⟩ := xm_ck_s h
  obtain ⟨M9, e10, h⟩ := xm_lt_s h
  refine xm_iast (V := (xu E a)) C hP hS 1 119 (Nat.le_of_ble_eq_true rfl) (xf_1 E a) b8 dX7_comes_44 (fun H locs hP hS => ?_)
  rw [← e10] at hP
  refine lv_aload_n hx hb dX7_comes_45 rfl (lv_at hl 1 rfl) ?_
  refine xm_get (V := (xu E a)) (T := TX7) (v := .ref (a 1)) C hP 0 0 xi_7 rfl l_X7_7 rfl (Nat.le_of_ble_eq_true rfl) ((xf_0 E a) _) (Nat.le_of_ble_eq_true rfl) rfl dX7_comes_46 ?_
  refine lv_iconst (v := 0) hx hb dX7_comes_49 (by decide) ?_
  refine lv_dup2_11 hx hb dX7_comes_50 rfl rfl ?_
  obtain ⟨b11, h⟩ := xm_ck_s h
  refine xm_iald (V := (xu E a)) C hP 1 119 (Nat.le_of_ble_eq_true rfl) (xf_1 E a) b11 dX7_comes_51 ?_
  refine lv_iconst (v := 1) hx hb dX7_comes_52 (by decide) ?_
  refine lv_iadd hx hb dX7_comes_53 ?_
  obtain ⟨b12, h⟩ := xm_ck_s h
  obtain ⟨M13, e14, h⟩ := xm_lt_s h
  refine xm_iast (V := (xu E a)) C hP hS 1 119 (Nat.le_of_ble_eq_true rfl) (xf_1 E a) b12 dX7_comes_54 (fun H locs hP hS => ?_)
  rw [← e14] at hP
  refine lv_aload_n hx hb dX7_comes_55 rfl (lv_at hl 1 rfl) ?_
  refine xm_get (V := (xu E a)) (T := TX7) (v := .ref (a 1)) C hP 0 0 xi_7 rfl l_X7_7 rfl (Nat.le_of_ble_eq_true rfl) ((xf_0 E a) _) (Nat.le_of_ble_eq_true rfl) rfl dX7_comes_56 ?_
  refine lv_iconst (v := 1) hx hb dX7_comes_59 (by decide) ?_
  refine lv_iload_n hx hb dX7_comes_60 rfl (lv_at hl 4 rfl) ?_
  refine lv_aload_n hx hb dX7_comes_61 rfl (lv_at hl 1 rfl) ?_
  refine xm_get (V := (xu E a)) (T := TX7) (v := .ref (a 1)) C hP 0 0 xi_7 rfl l_X7_7 rfl (Nat.le_of_ble_eq_true rfl) ((xf_0 E a) _) (Nat.le_of_ble_eq_true rfl) rfl dX7_comes_62 ?_
  refine lv_iconst (v := 1) hx hb dX7_comes_65 (by decide) ?_
  obtain ⟨b15, h⟩ := xm_ck_s h
  refine xm_iald (V := (xu E a)) C hP 1 119 (Nat.le_of_ble_eq_true rfl) (xf_1 E a) b15 dX7_comes_66 ?_
  refine lv_icmp_le (tgt := 74) hx hb dX7_comes_67 (by decide) (fun c16 => ?_) (fun c16 => ?_)
  · rw [if_pos c16] at h
    refine lv_aload_n hx hb dX7_comes_74 rfl (lv_at hl 1 rfl) ?_
    refine xm_get (V := (xu E a)) (T := TX7) (v := .ref (a 1)) C hP 0 0 xi_7 rfl l_X7_7 rfl (Nat.le_of_ble_eq_true rfl) ((xf_0 E a) _) (Nat.le_of_ble_eq_true rfl) rfl dX7_comes_75 ?_
    refine lv_iconst (v := 1) hx hb dX7_comes_78 (by decide) ?_
    obtain ⟨b17, h⟩ := xm_ck_s h
    refine xm_iald (V := (xu E a)) C hP 1 119 (Nat.le_of_ble_eq_true rfl) (xf_1 E a) b17 dX7_comes_79 ?_
    obtain ⟨b18, h⟩ := xm_ck_s h
    obtain ⟨M19, e20, h⟩ := xm_lt_s h
    refine xm_iast (V := (xu E a)) C hP hS 1 119 (Nat.le_of_ble_eq_true rfl) (xf_1 E a) b18 dX7_comes_80 (fun H locs hP hS => ?_)
    rw [← e20] at hP
    cases xm_on h
    exact xm_retV C hP hS dX7_comes_81
  · rw [if_neg c16] at h
    refine lv_iload_n hx hb dX7_comes_70 rfl (lv_at hl 4 rfl) ?_
    refine lv_goto (tgt := 80) hx hb dX7_comes_71 (by decide) ?_
    obtain ⟨b21, h⟩ := xm_ck_s h
    obtain ⟨M22, e23, h⟩ := xm_lt_s h
    refine xm_iast (V := (xu E a)) C hP hS 1 119 (Nat.le_of_ble_eq_true rfl) (xf_1 E a) b21 dX7_comes_80 (fun H locs hP hS => ?_)
    rw [← e23] at hP
    cases xm_on h
    exact xm_retV C hP hS dX7_comes_81
theorem c_X7_comes {l : Launch} {E : xm_E} {a : Nat → Nat} (hD : xm_D (xu E a)) (n : Nat) (M : xm_M) (x1 : Int32) (x2 : Int32) (x3 : Int32) (M' : xm_M) (h : f_X7_comes n M x1 x2 x3 = some M') : xm_Met l E (xu E a) yX7_comes cX7_comes 5 none 0 0 [.ref (a 0), .int x1, .int x2, .int x3] M M' none :=
  xm_met (by decide +kernel) rfl (Nat.le_of_ble_eq_true rfl) hD (fun p e s m below meth c C hP ls hl => t_X7_comes_0 C  n M x1 x2 x3 M' h _ _ _ hP va_S.rf hl)
def f_X7_findsOrder_S : Nat → Nat → xm_M → Int32 → Int32 → Option xm_M
  | 0, _, _, _, _ => none
  | n + 1, 0, M, x1, x2 => xm_ck (xm_in 0 119) (if (M 1 (0 : Int32).toNatClampNeg) ≤ x1 then some M else f_X7_findsOrder_S n 1 M x1 x1)
  | n + 1, _ + 1, M, x1, x2 => if x2 ≤ 0 then xm_ck (xm_in x2 25) (xm_lt (xm_up M 5 x2.toNatClampNeg x1) (fun M3 => f_X7_findsOrder_S n 0 M3 (x1 + 1) 0)) else xm_ck (xm_in (x2 - 1) 25) (xm_b2 (f_X7_of n M (M 5 (x2 - 1).toNatClampNeg) 2) (fun r7 M6 => xm_b2 (f_X7_of n M6 x1 2) (fun r10 M9 => if r7 ≤ r10 then xm_ck (xm_in x2 25) (xm_lt (xm_up M9 5 x2.toNatClampNeg x1) (fun M14 => f_X7_findsOrder_S n 0 M14 (x1 + 1) 0)) else xm_ck (xm_in (x2 - 1) 25) (xm_ck (xm_in x2 25) (xm_lt (xm_up M9 5 x2.toNatClampNeg (M9 5 (x2 - 1).toNatClampNeg)) (fun M18 => f_X7_findsOrder_S n 1 M18 x1 (x2 + (-1))))))))
def f_X7_findsOrder_2 (n : Nat) (M : xm_M) (x1 : Int32) : Option xm_M := f_X7_findsOrder_S n 0 M x1 0
def f_X7_findsOrder_14 (n : Nat) (M : xm_M) (x1 : Int32) (x2 : Int32) : Option xm_M := f_X7_findsOrder_S n 1 M x1 x2
set_option maxHeartbeats 4000000 in
set_option maxRecDepth 100000 in
theorem t_X7_findsOrder_S {l : Launch} {p : Program} {e : Env} {s : State} {m : MethodId} {args : Array Value} {below : List Frame} {meth : Method} {c : Code} {E : xm_E} {a : Nat → Nat} (C : xm_C E (xu E a) p s m args meth c RX7 cX7_findsOrder 3 none) : ∀ (n : Nat), (∀ (M : xm_M) (x1 : Int32) (M' : xm_M), f_X7_findsOrder_S n 0 M x1 0 = some M' → ∀ (H : Heap) (locs : List Loc) (ls : Array Slot), va_P E.1 vwCl (xm_w (xu E a) M) H → va_S (xm_A (xu E a) s.heap.size) s.heap H locs → lv_has ls 3 [(0, .ref (a 0)), (1, .int x1)] → W p l e { frames := 1, cells := 0, slots := 0, locals := 22 } s m args below meth c H locs 0 0 (MQ below (xm_Q E (xu E a) M' s.heap.size none) args s 0 0 (xm_A (xu E a) s.heap.size)) (F0 m 2 ls [])) ∧ (∀ (M : xm_M) (x1 : Int32) (x2 : Int32) (M' : xm_M), f_X7_findsOrder_S n 1 M x1 x2 = some M' → ∀ (H : Heap) (locs : List Loc) (ls : Array Slot), va_P E.1 vwCl (xm_w (xu E a) M) H → va_S (xm_A (xu E a) s.heap.size) s.heap H locs → lv_has ls 3 [(0, .ref (a 0)), (1, .int x1), (2, .int x2)] → W p l e { frames := 1, cells := 0, slots := 0, locals := 22 } s m args below meth c H locs 0 0 (MQ below (xm_Q E (xu E a) M' s.heap.size none) args s 0 0 (xm_A (xu E a) s.heap.size)) (F0 m 14 ls [])) := by
  have C9 := C
  obtain ⟨hx, hb, hml, hown, hts, hr, hlk, hD, hK, hS9⟩ := C9
  intro n
  induction n with
  | zero =>
    refine ⟨fun M x1 M' h => ?_, fun M x1 x2 M' h => ?_⟩
    all_goals cases h
  | succ n ih =>
    refine ⟨fun M x1 M' h H locs ls hP hS hl => ?_, fun M x1 x2 M' h H locs ls hP hS hl => ?_⟩
    · rw [f_X7_findsOrder_S] at h
      refine lv_iload_n hx hb dX7_findsOrder_2 rfl (lv_at hl 1 rfl) ?_
      refine lv_aload_n hx hb dX7_findsOrder_3 rfl (lv_at hl 0 rfl) ?_
      refine xm_get (V := (xu E a)) (T := TX7) (v := .ref (a 1)) C hP 0 0 xi_7 rfl l_X7_7 rfl (Nat.le_of_ble_eq_true rfl) ((xf_0 E a) _) (Nat.le_of_ble_eq_true rfl) rfl dX7_findsOrder_4 ?_
      refine lv_iconst (v := 0) hx hb dX7_findsOrder_7 (by decide) ?_
      obtain ⟨b1, h⟩ := xm_ck_s h
      refine xm_iald (V := (xu E a)) C hP 1 119 (Nat.le_of_ble_eq_true rfl) (xf_1 E a) b1 dX7_findsOrder_8 ?_
      refine lv_icmp_ge (tgt := 73) hx hb dX7_findsOrder_9 (by decide) (fun c2 => ?_) (fun c2 => ?_)
      · rw [if_pos c2] at h
        cases xm_on h
        exact xm_retV C hP hS dX7_findsOrder_73
      · rw [if_neg c2] at h
        refine lv_iload_n hx hb dX7_findsOrder_12 rfl (lv_at hl 1 rfl) ?_
        refine lv_istore_n (lv' := [(2, .int x1), (0, .ref (a 0)), (1, .int x1)]) hx hb dX7_findsOrder_13 rfl hl (by decide) rfl (fun ls hl => ?_)
        exact ih.2 M x1 x1 M' h _ _ _ hP hS (lv_sub hl [1, 2, 0] rfl)
    · rw [f_X7_findsOrder_S] at h
      refine lv_iload_n hx hb dX7_findsOrder_14 rfl (lv_at hl 2 rfl) ?_
      refine lv_if_le (tgt := 60) hx hb dX7_findsOrder_15 (by decide) (fun c1 => ?_) (fun c1 => ?_)
      · rw [if_pos c1] at h
        refine lv_aload_n hx hb dX7_findsOrder_60 rfl (lv_at hl 0 rfl) ?_
        refine xm_get (V := (xu E a)) (T := TX7) (v := .ref (a 5)) C hP 0 6 xi_7 rfl l_X7_22 rfl (Nat.le_of_ble_eq_true rfl) ((xf_0 E a) _) (Nat.le_of_ble_eq_true rfl) rfl dX7_findsOrder_61 ?_
        refine lv_iload_n hx hb dX7_findsOrder_64 rfl (lv_at hl 2 rfl) ?_
        refine lv_iload_n hx hb dX7_findsOrder_65 rfl (lv_at hl 1 rfl) ?_
        obtain ⟨b2, h⟩ := xm_ck_s h
        obtain ⟨M3, e4, h⟩ := xm_lt_s h
        refine xm_iast (V := (xu E a)) C hP hS 5 25 (Nat.le_of_ble_eq_true rfl) (xf_5 E a) b2 dX7_findsOrder_66 (fun H locs hP hS => ?_)
        rw [← e4] at hP
        refine lv_iinc (v := x1 + 1) (lv' := [(1, .int (x1 + 1)), (0, .ref (a 0)), (2, .int x2)]) hx hb dX7_findsOrder_67 hl (k := 1) rfl (xm_add (by decide)) (by decide) rfl (fun ls hl => ?_)
        refine lv_goto (tgt := 2) hx hb dX7_findsOrder_70 (by decide) ?_
        exact ih.1 M3 (x1 + 1) M' h _ _ _ hP hS (lv_sub hl [1, 0] rfl)
      · rw [if_neg c1] at h
        refine lv_aload_n hx hb dX7_findsOrder_18 rfl (lv_at hl 0 rfl) ?_
        refine lv_aload_n hx hb dX7_findsOrder_19 rfl (lv_at hl 0 rfl) ?_
        refine xm_get (V := (xu E a)) (T := TX7) (v := .ref (a 5)) C hP 0 6 xi_7 rfl l_X7_22 rfl (Nat.le_of_ble_eq_true rfl) ((xf_0 E a) _) (Nat.le_of_ble_eq_true rfl) rfl dX7_findsOrder_20 ?_
        refine lv_iload_n hx hb dX7_findsOrder_23 rfl (lv_at hl 2 rfl) ?_
        refine lv_iconst (v := 1) hx hb dX7_findsOrder_24 (by decide) ?_
        refine lv_isub hx hb dX7_findsOrder_25 ?_
        obtain ⟨b5, h⟩ := xm_ck_s h
        refine xm_iald (V := (xu E a)) C hP 5 25 (Nat.le_of_ble_eq_true rfl) (xf_5 E a) b5 dX7_findsOrder_26 ?_
        refine lv_iconst (v := 2) hx hb dX7_findsOrder_27 (by decide) ?_
        obtain ⟨r7, M6, e8, h⟩ := xm_b2_s h
        refine xm_callV C hP hS [.int (M 5 (x2 - 1).toNatClampNeg), .int 2] [] (c_X7_of hD  n M (M 5 (x2 - 1).toNatClampNeg) 2 r7 M6 e8) k_X7_62 (xm_recv C hP 0 rfl (Nat.le_of_ble_eq_true rfl) ((xf_0 E a) _)) rfl rfl ⟨(Nat.le_of_ble_eq_true rfl), (Nat.le_of_ble_eq_true rfl)⟩ hl.1 (Nat.le_of_ble_eq_true rfl) ⟨Nat.zero_le _, Nat.zero_le _⟩ dX7_findsOrder_28 (fun H locs hP hS => ?_)
        change W p l e _ s m _ below meth c H locs 0 0 _ (F0 m 31 ls [.int r7])
        refine lv_aload_n hx hb dX7_findsOrder_31 rfl (lv_at hl 0 rfl) ?_
        refine lv_iload_n hx hb dX7_findsOrder_32 rfl (lv_at hl 1 rfl) ?_
        refine lv_iconst (v := 2) hx hb dX7_findsOrder_33 (by decide) ?_
        obtain ⟨r10, M9, e11, h⟩ := xm_b2_s h
        refine xm_callV C hP hS [.int x1, .int 2] [.int r7] (c_X7_of hD  n M6 x1 2 r10 M9 e11) k_X7_62 (xm_recv C hP 0 rfl (Nat.le_of_ble_eq_true rfl) ((xf_0 E a) _)) rfl rfl ⟨(Nat.le_of_ble_eq_true rfl), (Nat.le_of_ble_eq_true rfl)⟩ hl.1 (Nat.le_of_ble_eq_true rfl) ⟨Nat.zero_le _, Nat.zero_le _⟩ dX7_findsOrder_34 (fun H locs hP hS => ?_)
        change W p l e _ s m _ below meth c H locs 0 0 _ (F0 m 37 ls [.int r10, .int r7])
        refine lv_icmp_le (tgt := 60) hx hb dX7_findsOrder_37 (by decide) (fun c12 => ?_) (fun c12 => ?_)
        · rw [if_pos c12] at h
          refine lv_aload_n hx hb dX7_findsOrder_60 rfl (lv_at hl 0 rfl) ?_
          refine xm_get (V := (xu E a)) (T := TX7) (v := .ref (a 5)) C hP 0 6 xi_7 rfl l_X7_22 rfl (Nat.le_of_ble_eq_true rfl) ((xf_0 E a) _) (Nat.le_of_ble_eq_true rfl) rfl dX7_findsOrder_61 ?_
          refine lv_iload_n hx hb dX7_findsOrder_64 rfl (lv_at hl 2 rfl) ?_
          refine lv_iload_n hx hb dX7_findsOrder_65 rfl (lv_at hl 1 rfl) ?_
          obtain ⟨b13, h⟩ := xm_ck_s h
          obtain ⟨M14, e15, h⟩ := xm_lt_s h
          refine xm_iast (V := (xu E a)) C hP hS 5 25 (Nat.le_of_ble_eq_true rfl) (xf_5 E a) b13 dX7_findsOrder_66 (fun H locs hP hS => ?_)
          rw [← e15] at hP
          refine lv_iinc (v := x1 + 1) (lv' := [(1, .int (x1 + 1)), (0, .ref (a 0)), (2, .int x2)]) hx hb dX7_findsOrder_67 hl (k := 1) rfl (xm_add (by decide)) (by decide) rfl (fun ls hl => ?_)
          refine lv_goto (tgt := 2) hx hb dX7_findsOrder_70 (by decide) ?_
          exact ih.1 M14 (x1 + 1) M' h _ _ _ hP hS (lv_sub hl [1, 0] rfl)
        · rw [if_neg c12] at h
          refine lv_aload_n hx hb dX7_findsOrder_40 rfl (lv_at hl 0 rfl) ?_
          refine xm_get (V := (xu E a)) (T := TX7) (v := .ref (a 5)) C hP 0 6 xi_7 rfl l_X7_22 rfl (Nat.le_of_ble_eq_true rfl) ((xf_0 E a) _) (Nat.le_of_ble_eq_true rfl) rfl dX7_findsOrder_41 ?_
          refine lv_iload_n hx hb dX7_findsOrder_44 rfl (lv_at hl 2 rfl) ?_
          refine lv_aload_n hx hb dX7_findsOrder_45 rfl (lv_at hl 0 rfl) ?_
          refine xm_get (V := (xu E a)) (T := TX7) (v := .ref (a 5)) C hP 0 6 xi_7 rfl l_X7_22 rfl (Nat.le_of_ble_eq_true rfl) ((xf_0 E a) _) (Nat.le_of_ble_eq_true rfl) rfl dX7_findsOrder_46 ?_
          refine lv_iload_n hx hb dX7_findsOrder_49 rfl (lv_at hl 2 rfl) ?_
          refine lv_iconst (v := 1) hx hb dX7_findsOrder_50 (by decide) ?_
          refine lv_isub hx hb dX7_findsOrder_51 ?_
          obtain ⟨b16, h⟩ := xm_ck_s h
          refine xm_iald (V := (xu E a)) C hP 5 25 (Nat.le_of_ble_eq_true rfl) (xf_5 E a) b16 dX7_findsOrder_52 ?_
          obtain ⟨b17, h⟩ := xm_ck_s h
          obtain ⟨M18, e19, h⟩ := xm_lt_s h
          refine xm_iast (V := (xu E a)) C hP hS 5 25 (Nat.le_of_ble_eq_true rfl) (xf_5 E a) b17 dX7_findsOrder_53 (fun H locs hP hS => ?_)
          rw [← e19] at hP
          refine lv_iinc (v := x2 + (-1)) (lv' := [(2, .int (x2 + (-1))), (0, .ref (a 0)), (1, .int x1)]) hx hb dX7_findsOrder_54 hl (k := 2) rfl (xm_add (by decide)) (by decide) rfl (fun ls hl => ?_)
          refine lv_goto (tgt := 14) hx hb dX7_findsOrder_57 (by decide) ?_
          exact ih.2 M18 x1 (x2 + (-1)) M' h _ _ _ hP hS (lv_sub hl [1, 2, 0] rfl)
theorem t_X7_findsOrder_2 {l : Launch} {p : Program} {e : Env} {s : State} {m : MethodId} {args : Array Value} {below : List Frame} {meth : Method} {c : Code} {E : xm_E} {a : Nat → Nat} (C : xm_C E (xu E a) p s m args meth c RX7 cX7_findsOrder 3 none) (n : Nat) (M : xm_M) (x1 : Int32) (M' : xm_M) : f_X7_findsOrder_2 n M x1 = some M' → ∀ (H : Heap) (locs : List Loc) (ls : Array Slot), va_P E.1 vwCl (xm_w (xu E a) M) H → va_S (xm_A (xu E a) s.heap.size) s.heap H locs → lv_has ls 3 [(0, .ref (a 0)), (1, .int x1)] → W p l e { frames := 1, cells := 0, slots := 0, locals := 22 } s m args below meth c H locs 0 0 (MQ below (xm_Q E (xu E a) M' s.heap.size none) args s 0 0 (xm_A (xu E a) s.heap.size)) (F0 m 2 ls []) :=
  fun h H locs ls hP hS hl => (t_X7_findsOrder_S C n).1 M x1 M' h H locs ls hP hS hl
theorem t_X7_findsOrder_14 {l : Launch} {p : Program} {e : Env} {s : State} {m : MethodId} {args : Array Value} {below : List Frame} {meth : Method} {c : Code} {E : xm_E} {a : Nat → Nat} (C : xm_C E (xu E a) p s m args meth c RX7 cX7_findsOrder 3 none) (n : Nat) (M : xm_M) (x1 : Int32) (x2 : Int32) (M' : xm_M) : f_X7_findsOrder_14 n M x1 x2 = some M' → ∀ (H : Heap) (locs : List Loc) (ls : Array Slot), va_P E.1 vwCl (xm_w (xu E a) M) H → va_S (xm_A (xu E a) s.heap.size) s.heap H locs → lv_has ls 3 [(0, .ref (a 0)), (1, .int x1), (2, .int x2)] → W p l e { frames := 1, cells := 0, slots := 0, locals := 22 } s m args below meth c H locs 0 0 (MQ below (xm_Q E (xu E a) M' s.heap.size none) args s 0 0 (xm_A (xu E a) s.heap.size)) (F0 m 14 ls []) :=
  fun h H locs ls hP hS hl => (t_X7_findsOrder_S C n).2 M x1 x2 M' h H locs ls hP hS hl
def f_X7_findsOrder (n : Nat) (M : xm_M) : Option xm_M := f_X7_findsOrder_2 n M 0
set_option maxHeartbeats 4000000 in
set_option maxRecDepth 100000 in
theorem t_X7_findsOrder_0 {l : Launch} {p : Program} {e : Env} {s : State} {m : MethodId} {args : Array Value} {below : List Frame} {meth : Method} {c : Code} {E : xm_E} {a : Nat → Nat} (C : xm_C E (xu E a) p s m args meth c RX7 cX7_findsOrder 3 none) (n : Nat) (M : xm_M) (M' : xm_M) : f_X7_findsOrder n M = some M' → ∀ (H : Heap) (locs : List Loc) (ls : Array Slot), va_P E.1 vwCl (xm_w (xu E a) M) H → va_S (xm_A (xu E a) s.heap.size) s.heap H locs → lv_has ls 3 [(0, .ref (a 0))] → W p l e { frames := 1, cells := 0, slots := 0, locals := 22 } s m args below meth c H locs 0 0 (MQ below (xm_Q E (xu E a) M' s.heap.size none) args s 0 0 (xm_A (xu E a) s.heap.size)) (F0 m 0 ls []) := by
  have C9 := C
  obtain ⟨hx, hb, hml, hown, hts, hr, hlk, hD, hK, hS9⟩ := C9
  intro h H locs ls hP hS hl
  unfold f_X7_findsOrder at h
  refine lv_iconst (v := 0) hx hb dX7_findsOrder_0 (by decide) ?_
  refine lv_istore_n (lv' := [(1, .int 0), (0, .ref (a 0))]) hx hb dX7_findsOrder_1 rfl hl (by decide) rfl (fun ls hl => ?_)
  exact t_X7_findsOrder_2 C  n M 0 M' h _ _ _ hP hS (lv_sub hl [1, 0] rfl)
theorem c_X7_findsOrder {l : Launch} {E : xm_E} {a : Nat → Nat} (hD : xm_D (xu E a)) (n : Nat) (M : xm_M) (M' : xm_M) (h : f_X7_findsOrder n M = some M') : xm_Met l E (xu E a) yX7_findsOrder cX7_findsOrder 3 none 1 22 [.ref (a 0)] M M' none :=
  xm_met (by decide +kernel) rfl (Nat.le_of_ble_eq_true rfl) hD (fun p e s m below meth c C hP ls hl => t_X7_findsOrder_0 C  n M M' h _ _ _ hP va_S.rf hl)
def f_X7_isPattern (n : Nat) (M : xm_M) (x1 : Int32) : Option (Int32 × xm_M) := xm_ck (xm_in 3 119) (xm_b2 (f_X7_in n M x1.toInt64 0 (((M 1 (3 : Int32).toNatClampNeg).toInt64) - 1)) (fun r3 M2 => xm_ck (xm_z r3) (some (r3, M2))))
set_option maxHeartbeats 4000000 in
set_option maxRecDepth 100000 in
theorem t_X7_isPattern_0 {l : Launch} {p : Program} {e : Env} {s : State} {m : MethodId} {args : Array Value} {below : List Frame} {meth : Method} {c : Code} {E : xm_E} {a : Nat → Nat} (C : xm_C E (xu E a) p s m args meth c RX7 cX7_isPattern 2 (some .boolean)) (n : Nat) (M : xm_M) (x1 : Int32) (r : Int32) (M' : xm_M) : f_X7_isPattern n M x1 = some (r, M') → ∀ (H : Heap) (locs : List Loc) (ls : Array Slot), va_P E.1 vwCl (xm_w (xu E a) M) H → va_S (xm_A (xu E a) s.heap.size) s.heap H locs → lv_has ls 2 [(0, .ref (a 0)), (1, .int x1)] → W p l e { frames := 1, cells := 0, slots := 0, locals := 25 } s m args below meth c H locs 0 0 (MQ below (xm_Q E (xu E a) M' s.heap.size (some r)) args s 0 0 (xm_A (xu E a) s.heap.size)) (F0 m 0 ls []) := by
  have C9 := C
  obtain ⟨hx, hb, hml, hown, hts, hr, hlk, hD, hK, hS9⟩ := C9
  intro h H locs ls hP hS hl
  unfold f_X7_isPattern at h
  refine lv_iload_n hx hb dX7_isPattern_0 rfl (lv_at hl 1 rfl) ?_
  refine lv_i2l (v := x1.toInt64) hx hb dX7_isPattern_1 rfl ?_
  refine lv_lconst (v := 0) hx hb dX7_isPattern_2 (by decide) ?_
  refine lv_aload_n hx hb dX7_isPattern_3 rfl (lv_at hl 0 rfl) ?_
  refine xm_get (V := (xu E a)) (T := TX7) (v := .ref (a 1)) C hP 0 0 xi_7 rfl l_X7_7 rfl (Nat.le_of_ble_eq_true rfl) ((xf_0 E a) _) (Nat.le_of_ble_eq_true rfl) rfl dX7_isPattern_4 ?_
  refine lv_iconst (v := 3) hx hb dX7_isPattern_7 (by decide) ?_
  obtain ⟨b1, h⟩ := xm_ck_s h
  refine xm_iald (V := (xu E a)) C hP 1 119 (Nat.le_of_ble_eq_true rfl) (xf_1 E a) b1 dX7_isPattern_8 ?_
  refine lv_i2l (v := (M 1 (3 : Int32).toNatClampNeg).toInt64) hx hb dX7_isPattern_9 rfl ?_
  refine lv_lconst (v := 1) hx hb dX7_isPattern_10 (by decide) ?_
  refine lv_lsub hx hb dX7_isPattern_11 ?_
  obtain ⟨r3, M2, e4, h⟩ := xm_b2_s h
  refine xm_callS C hP hS [.long x1.toInt64, .long 0, .long (((M 1 (3 : Int32).toNatClampNeg).toInt64) - 1)] [] (c_X7_in hD  n M x1.toInt64 0 (((M 1 (3 : Int32).toNatClampNeg).toInt64) - 1) r3 M2 e4) k_X7_50  rfl rfl ⟨(Nat.le_of_ble_eq_true rfl), (Nat.le_of_ble_eq_true rfl)⟩ hl.1 (Nat.le_of_ble_eq_true rfl) ⟨Nat.zero_le _, Nat.zero_le _⟩ dX7_isPattern_12 (fun H locs hP hS => ?_)
  change W p l e _ s m _ below meth c H locs 0 0 _ (F0 m 15 ls [.int r3])
  obtain ⟨z5, h⟩ := xm_ck_s h
  obtain ⟨rfl, rfl⟩ := xm_pr h
  exact xm_retZ C hP hS (xm_z_s z5) dX7_isPattern_15
theorem c_X7_isPattern {l : Launch} {E : xm_E} {a : Nat → Nat} (hD : xm_D (xu E a)) (n : Nat) (M : xm_M) (x1 : Int32) (r : Int32) (M' : xm_M) (h : f_X7_isPattern n M x1 = some (r, M')) : xm_Met l E (xu E a) yX7_isPattern cX7_isPattern 2 (some .boolean) 1 25 [.ref (a 0), .int x1] M M' (some r) :=
  xm_met (by decide +kernel) rfl (Nat.le_of_ble_eq_true rfl) hD (fun p e s m below meth c C hP ls hl => t_X7_isPattern_0 C  n M x1 r M' h _ _ _ hP va_S.rf hl)
def f_X7_ofPattern (n : Nat) (M : xm_M) (x1 : Int32) (x2 : Int32) : Option (Int32 × xm_M) := xm_ck (xm_in ((79 + (10 * x1)) + x2) 119) (some (M 1 ((79 + (10 * x1)) + x2).toNatClampNeg, M))
set_option maxHeartbeats 4000000 in
set_option maxRecDepth 100000 in
theorem t_X7_ofPattern_0 {l : Launch} {p : Program} {e : Env} {s : State} {m : MethodId} {args : Array Value} {below : List Frame} {meth : Method} {c : Code} {E : xm_E} {a : Nat → Nat} (C : xm_C E (xu E a) p s m args meth c RX7 cX7_ofPattern 3 (some .int)) (n : Nat) (M : xm_M) (x1 : Int32) (x2 : Int32) (r : Int32) (M' : xm_M) : f_X7_ofPattern n M x1 x2 = some (r, M') → ∀ (H : Heap) (locs : List Loc) (ls : Array Slot), va_P E.1 vwCl (xm_w (xu E a) M) H → va_S (xm_A (xu E a) s.heap.size) s.heap H locs → lv_has ls 3 [(0, .ref (a 0)), (1, .int x1), (2, .int x2)] → W p l e { frames := 0, cells := 0, slots := 0, locals := 0 } s m args below meth c H locs 0 0 (MQ below (xm_Q E (xu E a) M' s.heap.size (some r)) args s 0 0 (xm_A (xu E a) s.heap.size)) (F0 m 0 ls []) := by
  have C9 := C
  obtain ⟨hx, hb, hml, hown, hts, hr, hlk, hD, hK, hS9⟩ := C9
  intro h H locs ls hP hS hl
  unfold f_X7_ofPattern at h
  refine lv_aload_n hx hb dX7_ofPattern_0 rfl (lv_at hl 0 rfl) ?_
  refine xm_get (V := (xu E a)) (T := TX7) (v := .ref (a 1)) C hP 0 0 xi_7 rfl l_X7_7 rfl (Nat.le_of_ble_eq_true rfl) ((xf_0 E a) _) (Nat.le_of_ble_eq_true rfl) rfl dX7_ofPattern_1 ?_
  refine lv_bipush (v := 79) hx hb dX7_ofPattern_4 (by decide) ?_
  refine lv_bipush (v := 10) hx hb dX7_ofPattern_6 (by decide) ?_
  refine lv_iload_n hx hb dX7_ofPattern_8 rfl (lv_at hl 1 rfl) ?_
  refine lv_imul hx hb dX7_ofPattern_9 ?_
  refine lv_iadd hx hb dX7_ofPattern_10 ?_
  refine lv_iload_n hx hb dX7_ofPattern_11 rfl (lv_at hl 2 rfl) ?_
  refine lv_iadd hx hb dX7_ofPattern_12 ?_
  obtain ⟨b1, h⟩ := xm_ck_s h
  refine xm_iald (V := (xu E a)) C hP 1 119 (Nat.le_of_ble_eq_true rfl) (xf_1 E a) b1 dX7_ofPattern_13 ?_
  obtain ⟨rfl, rfl⟩ := xm_pr h
  exact xm_retI C hP hS dX7_ofPattern_14
theorem c_X7_ofPattern {l : Launch} {E : xm_E} {a : Nat → Nat} (hD : xm_D (xu E a)) (n : Nat) (M : xm_M) (x1 : Int32) (x2 : Int32) (r : Int32) (M' : xm_M) (h : f_X7_ofPattern n M x1 x2 = some (r, M')) : xm_Met l E (xu E a) yX7_ofPattern cX7_ofPattern 3 (some .int) 0 0 [.ref (a 0), .int x1, .int x2] M M' (some r) :=
  xm_met (by decide +kernel) rfl (Nat.le_of_ble_eq_true rfl) hD (fun p e s m below meth c C hP ls hl => t_X7_ofPattern_0 C  n M x1 x2 r M' h _ _ _ hP va_S.rf hl)
def f_X7_plainSteps_4 : Nat → xm_M → Int32 → Int32 → Int32 → Option (Int32 × xm_M)
  | 0, _, _, _, _ => none
  | n + 1, M, x1, x2, x3 => xm_b2 (f_X7_ofPattern n M x1 2) (fun r2 M1 => if r2 ≤ x3 then some (x2, M1) else xm_b2 (f_X7_ofPattern n M1 x1 (3 + x3)) (fun r6 M5 => if (8 : Int32) ≤ r6 then f_X7_plainSteps_4 n M5 x1 (x2 + 0) (x3 + 1) else f_X7_plainSteps_4 n M5 x1 (x2 + 1) (x3 + 1)))
set_option maxHeartbeats 4000000 in
set_option maxRecDepth 100000 in
theorem t_X7_plainSteps_4 {l : Launch} {p : Program} {e : Env} {s : State} {m : MethodId} {args : Array Value} {below : List Frame} {meth : Method} {c : Code} {E : xm_E} {a : Nat → Nat} (C : xm_C E (xu E a) p s m args meth c RX7 cX7_plainSteps 4 (some .int)) : ∀ (n : Nat) (M : xm_M) (x1 : Int32) (x2 : Int32) (x3 : Int32) (r : Int32) (M' : xm_M), f_X7_plainSteps_4 n M x1 x2 x3 = some (r, M') → ∀ (H : Heap) (locs : List Loc) (ls : Array Slot), va_P E.1 vwCl (xm_w (xu E a) M) H → va_S (xm_A (xu E a) s.heap.size) s.heap H locs → lv_has ls 4 [(0, .ref (a 0)), (1, .int x1), (2, .int x2), (3, .int x3)] → W p l e { frames := 1, cells := 0, slots := 0, locals := 22 } s m args below meth c H locs 0 0 (MQ below (xm_Q E (xu E a) M' s.heap.size (some r)) args s 0 0 (xm_A (xu E a) s.heap.size)) (F0 m 4 ls []) := by
  have C9 := C
  obtain ⟨hx, hb, hml, hown, hts, hr, hlk, hD, hK, hS9⟩ := C9
  intro n
  induction n with
  | zero =>
    intro M x1 x2 x3 r M' h
    cases h
  | succ n ih =>
    intro M x1 x2 x3 r M' h H locs ls hP hS hl
    rw [f_X7_plainSteps_4] at h
    refine lv_iload_n hx hb dX7_plainSteps_4 rfl (lv_at hl 3 rfl) ?_
    refine lv_aload_n hx hb dX7_plainSteps_5 rfl (lv_at hl 0 rfl) ?_
    refine lv_iload_n hx hb dX7_plainSteps_6 rfl (lv_at hl 1 rfl) ?_
    refine lv_iconst (v := 2) hx hb dX7_plainSteps_7 (by decide) ?_
    obtain ⟨r2, M1, e3, h⟩ := xm_b2_s h
    refine xm_callV C hP hS [.int x1, .int 2] [.int x3] (c_X7_ofPattern hD  n M x1 2 r2 M1 e3) k_X7_66 (xm_recv C hP 0 rfl (Nat.le_of_ble_eq_true rfl) ((xf_0 E a) _)) rfl rfl ⟨(Nat.le_of_ble_eq_true rfl), (Nat.le_of_ble_eq_true rfl)⟩ hl.1 (Nat.le_of_ble_eq_true rfl) ⟨Nat.zero_le _, Nat.zero_le _⟩ dX7_plainSteps_8 (fun H locs hP hS => ?_)
    change W p l e _ s m _ below meth c H locs 0 0 _ (F0 m 11 ls [.int r2, .int x3])
    refine lv_icmp_ge (tgt := 41) hx hb dX7_plainSteps_11 (by decide) (fun c4 => ?_) (fun c4 => ?_)
    · rw [if_pos c4] at h
      refine lv_iload_n hx hb dX7_plainSteps_41 rfl (lv_at hl 2 rfl) ?_
      obtain ⟨rfl, rfl⟩ := xm_pr h
      exact xm_retI C hP hS dX7_plainSteps_42
    · rw [if_neg c4] at h
      refine lv_iload_n hx hb dX7_plainSteps_14 rfl (lv_at hl 2 rfl) ?_
      refine lv_aload_n hx hb dX7_plainSteps_15 rfl (lv_at hl 0 rfl) ?_
      refine lv_iload_n hx hb dX7_plainSteps_16 rfl (lv_at hl 1 rfl) ?_
      refine lv_iconst (v := 3) hx hb dX7_plainSteps_17 (by decide) ?_
      refine lv_iload_n hx hb dX7_plainSteps_18 rfl (lv_at hl 3 rfl) ?_
      refine lv_iadd hx hb dX7_plainSteps_19 ?_
      obtain ⟨r6, M5, e7, h⟩ := xm_b2_s h
      refine xm_callV C hP hS [.int x1, .int (3 + x3)] [.int x2] (c_X7_ofPattern hD  n M1 x1 (3 + x3) r6 M5 e7) k_X7_66 (xm_recv C hP 0 rfl (Nat.le_of_ble_eq_true rfl) ((xf_0 E a) _)) rfl rfl ⟨(Nat.le_of_ble_eq_true rfl), (Nat.le_of_ble_eq_true rfl)⟩ hl.1 (Nat.le_of_ble_eq_true rfl) ⟨Nat.zero_le _, Nat.zero_le _⟩ dX7_plainSteps_20 (fun H locs hP hS => ?_)
      change W p l e _ s m _ below meth c H locs 0 0 _ (F0 m 23 ls [.int r6, .int x2])
      refine lv_bipush (v := 8) hx hb dX7_plainSteps_23 (by decide) ?_
      refine lv_icmp_ge (tgt := 32) hx hb dX7_plainSteps_25 (by decide) (fun c8 => ?_) (fun c8 => ?_)
      · rw [if_pos c8] at h
        refine lv_iconst (v := 0) hx hb dX7_plainSteps_32 (by decide) ?_
        refine lv_iadd hx hb dX7_plainSteps_33 ?_
        refine lv_istore_n (lv' := [(2, .int (x2 + 0)), (0, .ref (a 0)), (1, .int x1), (3, .int x3)]) hx hb dX7_plainSteps_34 rfl hl (by decide) rfl (fun ls hl => ?_)
        refine lv_iinc (v := x3 + 1) (lv' := [(3, .int (x3 + 1)), (2, .int (x2 + 0)), (0, .ref (a 0)), (1, .int x1)]) hx hb dX7_plainSteps_35 hl (k := 3) rfl (xm_add (by decide)) (by decide) rfl (fun ls hl => ?_)
        refine lv_goto (tgt := 4) hx hb dX7_plainSteps_38 (by decide) ?_
        exact ih M5 x1 (x2 + 0) (x3 + 1) r M' h _ _ _ hP hS (lv_sub hl [2, 3, 1, 0] rfl)
      · rw [if_neg c8] at h
        refine lv_iconst (v := 1) hx hb dX7_plainSteps_28 (by decide) ?_
        refine lv_goto (tgt := 33) hx hb dX7_plainSteps_29 (by decide) ?_
        refine lv_iadd hx hb dX7_plainSteps_33 ?_
        refine lv_istore_n (lv' := [(2, .int (x2 + 1)), (0, .ref (a 0)), (1, .int x1), (3, .int x3)]) hx hb dX7_plainSteps_34 rfl hl (by decide) rfl (fun ls hl => ?_)
        refine lv_iinc (v := x3 + 1) (lv' := [(3, .int (x3 + 1)), (2, .int (x2 + 1)), (0, .ref (a 0)), (1, .int x1)]) hx hb dX7_plainSteps_35 hl (k := 3) rfl (xm_add (by decide)) (by decide) rfl (fun ls hl => ?_)
        refine lv_goto (tgt := 4) hx hb dX7_plainSteps_38 (by decide) ?_
        exact ih M5 x1 (x2 + 1) (x3 + 1) r M' h _ _ _ hP hS (lv_sub hl [2, 3, 1, 0] rfl)
def f_X7_plainSteps (n : Nat) (M : xm_M) (x1 : Int32) : Option (Int32 × xm_M) := f_X7_plainSteps_4 n M x1 0 0
set_option maxHeartbeats 4000000 in
set_option maxRecDepth 100000 in
theorem t_X7_plainSteps_0 {l : Launch} {p : Program} {e : Env} {s : State} {m : MethodId} {args : Array Value} {below : List Frame} {meth : Method} {c : Code} {E : xm_E} {a : Nat → Nat} (C : xm_C E (xu E a) p s m args meth c RX7 cX7_plainSteps 4 (some .int)) (n : Nat) (M : xm_M) (x1 : Int32) (r : Int32) (M' : xm_M) : f_X7_plainSteps n M x1 = some (r, M') → ∀ (H : Heap) (locs : List Loc) (ls : Array Slot), va_P E.1 vwCl (xm_w (xu E a) M) H → va_S (xm_A (xu E a) s.heap.size) s.heap H locs → lv_has ls 4 [(0, .ref (a 0)), (1, .int x1)] → W p l e { frames := 1, cells := 0, slots := 0, locals := 22 } s m args below meth c H locs 0 0 (MQ below (xm_Q E (xu E a) M' s.heap.size (some r)) args s 0 0 (xm_A (xu E a) s.heap.size)) (F0 m 0 ls []) := by
  have C9 := C
  obtain ⟨hx, hb, hml, hown, hts, hr, hlk, hD, hK, hS9⟩ := C9
  intro h H locs ls hP hS hl
  unfold f_X7_plainSteps at h
  refine lv_iconst (v := 0) hx hb dX7_plainSteps_0 (by decide) ?_
  refine lv_istore_n (lv' := [(2, .int 0), (0, .ref (a 0)), (1, .int x1)]) hx hb dX7_plainSteps_1 rfl hl (by decide) rfl (fun ls hl => ?_)
  refine lv_iconst (v := 0) hx hb dX7_plainSteps_2 (by decide) ?_
  refine lv_istore_n (lv' := [(3, .int 0), (2, .int 0), (0, .ref (a 0)), (1, .int x1)]) hx hb dX7_plainSteps_3 rfl hl (by decide) rfl (fun ls hl => ?_)
  exact t_X7_plainSteps_4 C  n M x1 0 0 r M' h _ _ _ hP hS (lv_sub hl [2, 3, 1, 0] rfl)
theorem c_X7_plainSteps {l : Launch} {E : xm_E} {a : Nat → Nat} (hD : xm_D (xu E a)) (n : Nat) (M : xm_M) (x1 : Int32) (r : Int32) (M' : xm_M) (h : f_X7_plainSteps n M x1 = some (r, M')) : xm_Met l E (xu E a) yX7_plainSteps cX7_plainSteps 4 (some .int) 1 22 [.ref (a 0), .int x1] M M' (some r) :=
  xm_met (by decide +kernel) rfl (Nat.le_of_ble_eq_true rfl) hD (fun p e s m below meth c C hP ls hl => t_X7_plainSteps_0 C  n M x1 r M' h _ _ _ hP va_S.rf hl)
def f_X7_takesSteps_8 : Nat → xm_M → Int32 → Int32 → Int32 → Int32 → Option xm_M
  | 0, _, _, _, _, _ => none
  | n + 1, M, x1, x2, x3, x4 => xm_b2 (f_X7_ofPattern n M x1 2) (fun r2 M1 => if r2 ≤ x4 then some M1 else xm_b2 (f_X7_ofPattern n M1 x1 (3 + x4)) (fun r6 M5 => if (8 : Int32) ≤ r6 then f_X7_takesSteps_8 n M5 x1 x2 (r6 - 8) (x4 + 1) else xm_ck (xm_in x2 4) (xm_lt (xm_up M5 6 x2.toNatClampNeg r6) (fun M10 => xm_ck (xm_in x2 4) (xm_lt (xm_up M10 7 x2.toNatClampNeg x3) (fun M13 => f_X7_takesSteps_8 n M13 x1 (x2 + 1) ((-5)) (x4 + 1)))))))
set_option maxHeartbeats 4000000 in
set_option maxRecDepth 100000 in
theorem t_X7_takesSteps_8 {l : Launch} {p : Program} {e : Env} {s : State} {m : MethodId} {args : Array Value} {below : List Frame} {meth : Method} {c : Code} {E : xm_E} {a : Nat → Nat} (C : xm_C E (xu E a) p s m args meth c RX7 cX7_takesSteps 6 none) : ∀ (n : Nat) (M : xm_M) (x1 : Int32) (x2 : Int32) (x3 : Int32) (x4 : Int32) (M' : xm_M), f_X7_takesSteps_8 n M x1 x2 x3 x4 = some M' → ∀ (H : Heap) (locs : List Loc) (ls : Array Slot), va_P E.1 vwCl (xm_w (xu E a) M) H → va_S (xm_A (xu E a) s.heap.size) s.heap H locs → lv_has ls 6 [(0, .ref (a 0)), (1, .int x1), (2, .int x2), (3, .int x3), (4, .int x4)] → W p l e { frames := 1, cells := 0, slots := 0, locals := 22 } s m args below meth c H locs 0 0 (MQ below (xm_Q E (xu E a) M' s.heap.size none) args s 0 0 (xm_A (xu E a) s.heap.size)) (F0 m 8 ls []) := by
  have C9 := C
  obtain ⟨hx, hb, hml, hown, hts, hr, hlk, hD, hK, hS9⟩ := C9
  intro n
  induction n with
  | zero =>
    intro M x1 x2 x3 x4 M' h
    cases h
  | succ n ih =>
    intro M x1 x2 x3 x4 M' h H locs ls hP hS hl
    rw [f_X7_takesSteps_8] at h
    refine lv_iload hx hb dX7_takesSteps_8 (lv_at hl 4 rfl) ?_
    refine lv_aload_n hx hb dX7_takesSteps_10 rfl (lv_at hl 0 rfl) ?_
    refine lv_iload_n hx hb dX7_takesSteps_11 rfl (lv_at hl 1 rfl) ?_
    refine lv_iconst (v := 2) hx hb dX7_takesSteps_12 (by decide) ?_
    obtain ⟨r2, M1, e3, h⟩ := xm_b2_s h
    refine xm_callV C hP hS [.int x1, .int 2] [.int x4] (c_X7_ofPattern hD  n M x1 2 r2 M1 e3) k_X7_66 (xm_recv C hP 0 rfl (Nat.le_of_ble_eq_true rfl) ((xf_0 E a) _)) rfl rfl ⟨(Nat.le_of_ble_eq_true rfl), (Nat.le_of_ble_eq_true rfl)⟩ hl.1 (Nat.le_of_ble_eq_true rfl) ⟨Nat.zero_le _, Nat.zero_le _⟩ dX7_takesSteps_13 (fun H locs hP hS => ?_)
    change W p l e _ s m _ below meth c H locs 0 0 _ (F0 m 16 ls [.int r2, .int x4])
    refine lv_icmp_ge (tgt := 73) hx hb dX7_takesSteps_16 (by decide) (fun c4 => ?_) (fun c4 => ?_)
    · rw [if_pos c4] at h
      cases xm_on h
      exact xm_retV C hP hS dX7_takesSteps_73
    · rw [if_neg c4] at h
      refine lv_aload_n hx hb dX7_takesSteps_19 rfl (lv_at hl 0 rfl) ?_
      refine lv_iload_n hx hb dX7_takesSteps_20 rfl (lv_at hl 1 rfl) ?_
      refine lv_iconst (v := 3) hx hb dX7_takesSteps_21 (by decide) ?_
      refine lv_iload hx hb dX7_takesSteps_22 (lv_at hl 4 rfl) ?_
      refine lv_iadd hx hb dX7_takesSteps_24 ?_
      obtain ⟨r6, M5, e7, h⟩ := xm_b2_s h
      refine xm_callV C hP hS [.int x1, .int (3 + x4)] [] (c_X7_ofPattern hD  n M1 x1 (3 + x4) r6 M5 e7) k_X7_66 (xm_recv C hP 0 rfl (Nat.le_of_ble_eq_true rfl) ((xf_0 E a) _)) rfl rfl ⟨(Nat.le_of_ble_eq_true rfl), (Nat.le_of_ble_eq_true rfl)⟩ hl.1 (Nat.le_of_ble_eq_true rfl) ⟨Nat.zero_le _, Nat.zero_le _⟩ dX7_takesSteps_25 (fun H locs hP hS => ?_)
      change W p l e _ s m _ below meth c H locs 0 0 _ (F0 m 28 ls [.int r6])
      refine lv_istore (lv' := [(5, .int r6), (0, .ref (a 0)), (1, .int x1), (2, .int x2), (3, .int x3), (4, .int x4)]) hx hb dX7_takesSteps_28 hl (by decide) rfl (fun ls hl => ?_)
      refine lv_iload hx hb dX7_takesSteps_30 (lv_at hl 0 rfl) ?_
      refine lv_bipush (v := 8) hx hb dX7_takesSteps_32 (by decide) ?_
      refine lv_icmp_ge (tgt := 61) hx hb dX7_takesSteps_34 (by decide) (fun c8 => ?_) (fun c8 => ?_)
      · rw [if_pos c8] at h
        refine lv_iload hx hb dX7_takesSteps_61 (lv_at hl 0 rfl) ?_
        refine lv_bipush (v := 8) hx hb dX7_takesSteps_63 (by decide) ?_
        refine lv_isub hx hb dX7_takesSteps_65 ?_
        refine lv_istore_n (lv' := [(3, .int (r6 - 8)), (5, .int r6), (0, .ref (a 0)), (1, .int x1), (2, .int x2), (4, .int x4)]) hx hb dX7_takesSteps_66 rfl hl (by decide) rfl (fun ls hl => ?_)
        refine lv_iinc (v := x4 + 1) (lv' := [(4, .int (x4 + 1)), (3, .int (r6 - 8)), (5, .int r6), (0, .ref (a 0)), (1, .int x1), (2, .int x2)]) hx hb dX7_takesSteps_67 hl (k := 5) rfl (xm_add (by decide)) (by decide) rfl (fun ls hl => ?_)
        refine lv_goto (tgt := 8) hx hb dX7_takesSteps_70 (by decide) ?_
        exact ih M5 x1 x2 (r6 - 8) (x4 + 1) M' h _ _ _ hP hS (lv_sub hl [3, 4, 5, 1, 0] rfl)
      · rw [if_neg c8] at h
        refine lv_aload_n hx hb dX7_takesSteps_37 rfl (lv_at hl 1 rfl) ?_
        refine xm_get (V := (xu E a)) (T := TX7) (v := .ref (a 6)) C hP 0 7 xi_7 rfl l_X7_25 rfl (Nat.le_of_ble_eq_true rfl) ((xf_0 E a) _) (Nat.le_of_ble_eq_true rfl) rfl dX7_takesSteps_38 ?_
        refine lv_iload_n hx hb dX7_takesSteps_41 rfl (lv_at hl 3 rfl) ?_
        refine lv_iload hx hb dX7_takesSteps_42 (lv_at hl 0 rfl) ?_
        obtain ⟨b9, h⟩ := xm_ck_s h
        obtain ⟨M10, e11, h⟩ := xm_lt_s h
        refine xm_iast (V := (xu E a)) C hP hS 6 4 (Nat.le_of_ble_eq_true rfl) (xf_6 E a) b9 dX7_takesSteps_44 (fun H locs hP hS => ?_)
        rw [← e11] at hP
        refine lv_aload_n hx hb dX7_takesSteps_45 rfl (lv_at hl 1 rfl) ?_
        refine xm_get (V := (xu E a)) (T := TX7) (v := .ref (a 7)) C hP 0 8 xi_7 rfl l_X7_28 rfl (Nat.le_of_ble_eq_true rfl) ((xf_0 E a) _) (Nat.le_of_ble_eq_true rfl) rfl dX7_takesSteps_46 ?_
        refine lv_iload_n hx hb dX7_takesSteps_49 rfl (lv_at hl 3 rfl) ?_
        refine lv_iload_n hx hb dX7_takesSteps_50 rfl (lv_at hl 4 rfl) ?_
        obtain ⟨b12, h⟩ := xm_ck_s h
        obtain ⟨M13, e14, h⟩ := xm_lt_s h
        refine xm_iast (V := (xu E a)) C hP hS 7 4 (Nat.le_of_ble_eq_true rfl) (xf_7 E a) b12 dX7_takesSteps_51 (fun H locs hP hS => ?_)
        rw [← e14] at hP
        refine lv_bipush (v := (-5)) hx hb dX7_takesSteps_52 (by decide) ?_
        refine lv_istore_n (lv' := [(3, .int ((-5))), (5, .int r6), (0, .ref (a 0)), (1, .int x1), (2, .int x2), (4, .int x4)]) hx hb dX7_takesSteps_54 rfl hl (by decide) rfl (fun ls hl => ?_)
        refine lv_iinc (v := x2 + 1) (lv' := [(2, .int (x2 + 1)), (3, .int ((-5))), (5, .int r6), (0, .ref (a 0)), (1, .int x1), (4, .int x4)]) hx hb dX7_takesSteps_55 hl (k := 4) rfl (xm_add (by decide)) (by decide) rfl (fun ls hl => ?_)
        refine lv_goto (tgt := 67) hx hb dX7_takesSteps_58 (by decide) ?_
        refine lv_iinc (v := x4 + 1) (lv' := [(4, .int (x4 + 1)), (2, .int (x2 + 1)), (3, .int ((-5))), (5, .int r6), (0, .ref (a 0)), (1, .int x1)]) hx hb dX7_takesSteps_67 hl (k := 5) rfl (xm_add (by decide)) (by decide) rfl (fun ls hl => ?_)
        refine lv_goto (tgt := 8) hx hb dX7_takesSteps_70 (by decide) ?_
        exact ih M13 x1 (x2 + 1) ((-5)) (x4 + 1) M' h _ _ _ hP hS (lv_sub hl [4, 5, 1, 2, 0] rfl)
def f_X7_takesSteps (n : Nat) (M : xm_M) (x1 : Int32) : Option xm_M := f_X7_takesSteps_8 n M x1 0 ((-5)) 0
set_option maxHeartbeats 4000000 in
set_option maxRecDepth 100000 in
theorem t_X7_takesSteps_0 {l : Launch} {p : Program} {e : Env} {s : State} {m : MethodId} {args : Array Value} {below : List Frame} {meth : Method} {c : Code} {E : xm_E} {a : Nat → Nat} (C : xm_C E (xu E a) p s m args meth c RX7 cX7_takesSteps 6 none) (n : Nat) (M : xm_M) (x1 : Int32) (M' : xm_M) : f_X7_takesSteps n M x1 = some M' → ∀ (H : Heap) (locs : List Loc) (ls : Array Slot), va_P E.1 vwCl (xm_w (xu E a) M) H → va_S (xm_A (xu E a) s.heap.size) s.heap H locs → lv_has ls 6 [(0, .ref (a 0)), (1, .int x1)] → W p l e { frames := 1, cells := 0, slots := 0, locals := 22 } s m args below meth c H locs 0 0 (MQ below (xm_Q E (xu E a) M' s.heap.size none) args s 0 0 (xm_A (xu E a) s.heap.size)) (F0 m 0 ls []) := by
  have C9 := C
  obtain ⟨hx, hb, hml, hown, hts, hr, hlk, hD, hK, hS9⟩ := C9
  intro h H locs ls hP hS hl
  unfold f_X7_takesSteps at h
  refine lv_iconst (v := 0) hx hb dX7_takesSteps_0 (by decide) ?_
  refine lv_istore_n (lv' := [(2, .int 0), (0, .ref (a 0)), (1, .int x1)]) hx hb dX7_takesSteps_1 rfl hl (by decide) rfl (fun ls hl => ?_)
  refine lv_bipush (v := (-5)) hx hb dX7_takesSteps_2 (by decide) ?_
  refine lv_istore_n (lv' := [(3, .int ((-5))), (2, .int 0), (0, .ref (a 0)), (1, .int x1)]) hx hb dX7_takesSteps_4 rfl hl (by decide) rfl (fun ls hl => ?_)
  refine lv_iconst (v := 0) hx hb dX7_takesSteps_5 (by decide) ?_
  refine lv_istore (lv' := [(4, .int 0), (3, .int ((-5))), (2, .int 0), (0, .ref (a 0)), (1, .int x1)]) hx hb dX7_takesSteps_6 hl (by decide) rfl (fun ls hl => ?_)
  exact t_X7_takesSteps_8 C  n M x1 0 ((-5)) 0 M' h _ _ _ hP hS (lv_sub hl [3, 4, 2, 1, 0] rfl)
theorem c_X7_takesSteps {l : Launch} {E : xm_E} {a : Nat → Nat} (hD : xm_D (xu E a)) (n : Nat) (M : xm_M) (x1 : Int32) (M' : xm_M) (h : f_X7_takesSteps n M x1 = some M') : xm_Met l E (xu E a) yX7_takesSteps cX7_takesSteps 6 none 1 22 [.ref (a 0), .int x1] M M' none :=
  xm_met (by decide +kernel) rfl (Nat.le_of_ble_eq_true rfl) hD (fun p e s m below meth c C hP ls hl => t_X7_takesSteps_0 C  n M x1 M' h _ _ _ hP va_S.rf hl)
def f_X7_chosen (n : Nat) (M : xm_M) (x1 : Int32) (x2 : Int32) : Option (Int32 × xm_M) := xm_ck (xm_in x1 4) (xm_ck (xm_in (M 8 x1.toNatClampNeg) 25) (xm_b2 (f_X7_of n M (M 5 (M 8 x1.toNatClampNeg).toNatClampNeg) x2) (fun r4 M3 => some (r4, M3))))
set_option maxHeartbeats 4000000 in
set_option maxRecDepth 100000 in
theorem t_X7_chosen_0 {l : Launch} {p : Program} {e : Env} {s : State} {m : MethodId} {args : Array Value} {below : List Frame} {meth : Method} {c : Code} {E : xm_E} {a : Nat → Nat} (C : xm_C E (xu E a) p s m args meth c RX7 cX7_chosen 3 (some .int)) (n : Nat) (M : xm_M) (x1 : Int32) (x2 : Int32) (r : Int32) (M' : xm_M) : f_X7_chosen n M x1 x2 = some (r, M') → ∀ (H : Heap) (locs : List Loc) (ls : Array Slot), va_P E.1 vwCl (xm_w (xu E a) M) H → va_S (xm_A (xu E a) s.heap.size) s.heap H locs → lv_has ls 3 [(0, .ref (a 0)), (1, .int x1), (2, .int x2)] → W p l e { frames := 1, cells := 0, slots := 0, locals := 22 } s m args below meth c H locs 0 0 (MQ below (xm_Q E (xu E a) M' s.heap.size (some r)) args s 0 0 (xm_A (xu E a) s.heap.size)) (F0 m 0 ls []) := by
  have C9 := C
  obtain ⟨hx, hb, hml, hown, hts, hr, hlk, hD, hK, hS9⟩ := C9
  intro h H locs ls hP hS hl
  unfold f_X7_chosen at h
  refine lv_aload_n hx hb dX7_chosen_0 rfl (lv_at hl 0 rfl) ?_
  refine lv_aload_n hx hb dX7_chosen_1 rfl (lv_at hl 0 rfl) ?_
  refine xm_get (V := (xu E a)) (T := TX7) (v := .ref (a 5)) C hP 0 6 xi_7 rfl l_X7_22 rfl (Nat.le_of_ble_eq_true rfl) ((xf_0 E a) _) (Nat.le_of_ble_eq_true rfl) rfl dX7_chosen_2 ?_
  refine lv_aload_n hx hb dX7_chosen_5 rfl (lv_at hl 0 rfl) ?_
  refine xm_get (V := (xu E a)) (T := TX7) (v := .ref (a 8)) C hP 0 9 xi_7 rfl l_X7_31 rfl (Nat.le_of_ble_eq_true rfl) ((xf_0 E a) _) (Nat.le_of_ble_eq_true rfl) rfl dX7_chosen_6 ?_
  refine lv_iload_n hx hb dX7_chosen_9 rfl (lv_at hl 1 rfl) ?_
  obtain ⟨b1, h⟩ := xm_ck_s h
  refine xm_iald (V := (xu E a)) C hP 8 4 (Nat.le_of_ble_eq_true rfl) (xf_8 E a) b1 dX7_chosen_10 ?_
  obtain ⟨b2, h⟩ := xm_ck_s h
  refine xm_iald (V := (xu E a)) C hP 5 25 (Nat.le_of_ble_eq_true rfl) (xf_5 E a) b2 dX7_chosen_11 ?_
  refine lv_iload_n hx hb dX7_chosen_12 rfl (lv_at hl 2 rfl) ?_
  obtain ⟨r4, M3, e5, h⟩ := xm_b2_s h
  refine xm_callV C hP hS [.int (M 5 (M 8 x1.toNatClampNeg).toNatClampNeg), .int x2] [] (c_X7_of hD  n M (M 5 (M 8 x1.toNatClampNeg).toNatClampNeg) x2 r4 M3 e5) k_X7_62 (xm_recv C hP 0 rfl (Nat.le_of_ble_eq_true rfl) ((xf_0 E a) _)) rfl rfl ⟨(Nat.le_of_ble_eq_true rfl), (Nat.le_of_ble_eq_true rfl)⟩ hl.1 (Nat.le_of_ble_eq_true rfl) ⟨Nat.zero_le _, Nat.zero_le _⟩ dX7_chosen_13 (fun H locs hP hS => ?_)
  change W p l e _ s m _ below meth c H locs 0 0 _ (F0 m 16 ls [.int r4])
  obtain ⟨rfl, rfl⟩ := xm_pr h
  exact xm_retI C hP hS dX7_chosen_16
theorem c_X7_chosen {l : Launch} {E : xm_E} {a : Nat → Nat} (hD : xm_D (xu E a)) (n : Nat) (M : xm_M) (x1 : Int32) (x2 : Int32) (r : Int32) (M' : xm_M) (h : f_X7_chosen n M x1 x2 = some (r, M')) : xm_Met l E (xu E a) yX7_chosen cX7_chosen 3 (some .int) 1 22 [.ref (a 0), .int x1, .int x2] M M' (some r) :=
  xm_met (by decide +kernel) rfl (Nat.le_of_ble_eq_true rfl) hD (fun p e s m below meth c C hP ls hl => t_X7_chosen_0 C  n M x1 x2 r M' h _ _ _ hP va_S.rf hl)
def f_X7_liesBetween_14 : Nat → xm_M → Int32 → Int32 → Int32 → Int32 → Option (Int32 × xm_M)
  | 0, _, _, _, _, _ => none
  | n + 1, M, x1, x2, x3, x4 => xm_ck (xm_in x1 4) (if (M 8 x1.toNatClampNeg) ≤ x4 then xm_ck (xm_z x3) (some (x3, M)) else if x3 = 0 then xm_ck (xm_in x4 25) (xm_b2 (f_X7_of n M (M 5 x4.toNatClampNeg) 0) (fun r7 M6 => if r7 = x2 then f_X7_liesBetween_14 n M6 x1 x2 1 (x4 + 1) else f_X7_liesBetween_14 n M6 x1 x2 0 (x4 + 1))) else f_X7_liesBetween_14 n M x1 x2 1 (x4 + 1))
set_option maxHeartbeats 4000000 in
set_option maxRecDepth 100000 in
theorem t_X7_liesBetween_14 {l : Launch} {p : Program} {e : Env} {s : State} {m : MethodId} {args : Array Value} {below : List Frame} {meth : Method} {c : Code} {E : xm_E} {a : Nat → Nat} (C : xm_C E (xu E a) p s m args meth c RX7 cX7_liesBetween 5 (some .boolean)) : ∀ (n : Nat) (M : xm_M) (x1 : Int32) (x2 : Int32) (x3 : Int32) (x4 : Int32) (r : Int32) (M' : xm_M), f_X7_liesBetween_14 n M x1 x2 x3 x4 = some (r, M') → ∀ (H : Heap) (locs : List Loc) (ls : Array Slot), va_P E.1 vwCl (xm_w (xu E a) M) H → va_S (xm_A (xu E a) s.heap.size) s.heap H locs → lv_has ls 5 [(0, .ref (a 0)), (1, .int x1), (2, .int x2), (3, .int x3), (4, .int x4)] → W p l e { frames := 1, cells := 0, slots := 0, locals := 22 } s m args below meth c H locs 0 0 (MQ below (xm_Q E (xu E a) M' s.heap.size (some r)) args s 0 0 (xm_A (xu E a) s.heap.size)) (F0 m 14 ls []) := by
  have C9 := C
  obtain ⟨hx, hb, hml, hown, hts, hr, hlk, hD, hK, hS9⟩ := C9
  intro n
  induction n with
  | zero =>
    intro M x1 x2 x3 x4 r M' h
    cases h
  | succ n ih =>
    intro M x1 x2 x3 x4 r M' h H locs ls hP hS hl
    rw [f_X7_liesBetween_14] at h
    refine lv_iload hx hb dX7_liesBetween_14 (lv_at hl 4 rfl) ?_
    refine lv_aload_n hx hb dX7_liesBetween_16 rfl (lv_at hl 0 rfl) ?_
    refine xm_get (V := (xu E a)) (T := TX7) (v := .ref (a 8)) C hP 0 9 xi_7 rfl l_X7_31 rfl (Nat.le_of_ble_eq_true rfl) ((xf_0 E a) _) (Nat.le_of_ble_eq_true rfl) rfl dX7_liesBetween_17 ?_
    refine lv_iload_n hx hb dX7_liesBetween_20 rfl (lv_at hl 1 rfl) ?_
    obtain ⟨b1, h⟩ := xm_ck_s h
    refine xm_iald (V := (xu E a)) C hP 8 4 (Nat.le_of_ble_eq_true rfl) (xf_8 E a) b1 dX7_liesBetween_21 ?_
    refine lv_icmp_ge (tgt := 57) hx hb dX7_liesBetween_22 (by decide) (fun c2 => ?_) (fun c2 => ?_)
    · rw [if_pos c2] at h
      refine lv_iload_n hx hb dX7_liesBetween_57 rfl (lv_at hl 3 rfl) ?_
      obtain ⟨z3, h⟩ := xm_ck_s h
      obtain ⟨rfl, rfl⟩ := xm_pr h
      exact xm_retZ C hP hS (xm_z_s z3) dX7_liesBetween_58
    · rw [if_neg c2] at h
      refine lv_iload_n hx hb dX7_liesBetween_25 rfl (lv_at hl 3 rfl) ?_
      refine lv_if_ne (tgt := 45) hx hb dX7_liesBetween_26 (by decide) (fun c4 => ?_) (fun c4 => ?_)
      · rw [if_neg c4] at h
        refine lv_iconst (v := 1) hx hb dX7_liesBetween_45 (by decide) ?_
        refine lv_goto (tgt := 50) hx hb dX7_liesBetween_46 (by decide) ?_
        refine lv_istore_n (lv' := [(3, .int 1), (0, .ref (a 0)), (1, .int x1), (2, .int x2), (4, .int x4)]) hx hb dX7_liesBetween_50 rfl hl (by decide) rfl (fun ls hl => ?_)
        refine lv_iinc (v := x4 + 1) (lv' := [(4, .int (x4 + 1)), (3, .int 1), (0, .ref (a 0)), (1, .int x1), (2, .int x2)]) hx hb dX7_liesBetween_51 hl (k := 4) rfl (xm_add (by decide)) (by decide) rfl (fun ls hl => ?_)
        refine lv_goto (tgt := 14) hx hb dX7_liesBetween_54 (by decide) ?_
        exact ih M x1 x2 1 (x4 + 1) r M' h _ _ _ hP hS (lv_sub hl [2, 3, 4, 1, 0] rfl)
      · rw [if_pos c4] at h
        refine lv_aload_n hx hb dX7_liesBetween_29 rfl (lv_at hl 0 rfl) ?_
        refine lv_aload_n hx hb dX7_liesBetween_30 rfl (lv_at hl 0 rfl) ?_
        refine xm_get (V := (xu E a)) (T := TX7) (v := .ref (a 5)) C hP 0 6 xi_7 rfl l_X7_22 rfl (Nat.le_of_ble_eq_true rfl) ((xf_0 E a) _) (Nat.le_of_ble_eq_true rfl) rfl dX7_liesBetween_31 ?_
        refine lv_iload hx hb dX7_liesBetween_34 (lv_at hl 4 rfl) ?_
        obtain ⟨b5, h⟩ := xm_ck_s h
        refine xm_iald (V := (xu E a)) C hP 5 25 (Nat.le_of_ble_eq_true rfl) (xf_5 E a) b5 dX7_liesBetween_36 ?_
        refine lv_iconst (v := 0) hx hb dX7_liesBetween_37 (by decide) ?_
        obtain ⟨r7, M6, e8, h⟩ := xm_b2_s h
        refine xm_callV C hP hS [.int (M 5 x4.toNatClampNeg), .int 0] [] (c_X7_of hD  n M (M 5 x4.toNatClampNeg) 0 r7 M6 e8) k_X7_62 (xm_recv C hP 0 rfl (Nat.le_of_ble_eq_true rfl) ((xf_0 E a) _)) rfl rfl ⟨(Nat.le_of_ble_eq_true rfl), (Nat.le_of_ble_eq_true rfl)⟩ hl.1 (Nat.le_of_ble_eq_true rfl) ⟨Nat.zero_le _, Nat.zero_le _⟩ dX7_liesBetween_38 (fun H locs hP hS => ?_)
        change W p l e _ s m _ below meth c H locs 0 0 _ (F0 m 41 ls [.int r7])
        refine lv_iload_n hx hb dX7_liesBetween_41 rfl (lv_at hl 2 rfl) ?_
        refine lv_icmp_ne (tgt := 49) hx hb dX7_liesBetween_42 (by decide) (fun c9 => ?_) (fun c9 => ?_)
        · rw [if_neg c9] at h
          refine lv_iconst (v := 0) hx hb dX7_liesBetween_49 (by decide) ?_
          refine lv_istore_n (lv' := [(3, .int 0), (0, .ref (a 0)), (1, .int x1), (2, .int x2), (4, .int x4)]) hx hb dX7_liesBetween_50 rfl hl (by decide) rfl (fun ls hl => ?_)
          refine lv_iinc (v := x4 + 1) (lv' := [(4, .int (x4 + 1)), (3, .int 0), (0, .ref (a 0)), (1, .int x1), (2, .int x2)]) hx hb dX7_liesBetween_51 hl (k := 4) rfl (xm_add (by decide)) (by decide) rfl (fun ls hl => ?_)
          refine lv_goto (tgt := 14) hx hb dX7_liesBetween_54 (by decide) ?_
          exact ih M6 x1 x2 0 (x4 + 1) r M' h _ _ _ hP hS (lv_sub hl [2, 3, 4, 1, 0] rfl)
        · rw [if_pos c9] at h
          refine lv_iconst (v := 1) hx hb dX7_liesBetween_45 (by decide) ?_
          refine lv_goto (tgt := 50) hx hb dX7_liesBetween_46 (by decide) ?_
          refine lv_istore_n (lv' := [(3, .int 1), (0, .ref (a 0)), (1, .int x1), (2, .int x2), (4, .int x4)]) hx hb dX7_liesBetween_50 rfl hl (by decide) rfl (fun ls hl => ?_)
          refine lv_iinc (v := x4 + 1) (lv' := [(4, .int (x4 + 1)), (3, .int 1), (0, .ref (a 0)), (1, .int x1), (2, .int x2)]) hx hb dX7_liesBetween_51 hl (k := 4) rfl (xm_add (by decide)) (by decide) rfl (fun ls hl => ?_)
          refine lv_goto (tgt := 14) hx hb dX7_liesBetween_54 (by decide) ?_
          exact ih M6 x1 x2 1 (x4 + 1) r M' h _ _ _ hP hS (lv_sub hl [2, 3, 4, 1, 0] rfl)
def f_X7_liesBetween (n : Nat) (M : xm_M) (x1 : Int32) (x2 : Int32) : Option (Int32 × xm_M) := xm_ck (xm_in (x1 - 1) 4) (f_X7_liesBetween_14 n M x1 x2 0 ((M 8 (x1 - 1).toNatClampNeg) + 1))
set_option maxHeartbeats 4000000 in
set_option maxRecDepth 100000 in
theorem t_X7_liesBetween_0 {l : Launch} {p : Program} {e : Env} {s : State} {m : MethodId} {args : Array Value} {below : List Frame} {meth : Method} {c : Code} {E : xm_E} {a : Nat → Nat} (C : xm_C E (xu E a) p s m args meth c RX7 cX7_liesBetween 5 (some .boolean)) (n : Nat) (M : xm_M) (x1 : Int32) (x2 : Int32) (r : Int32) (M' : xm_M) : f_X7_liesBetween n M x1 x2 = some (r, M') → ∀ (H : Heap) (locs : List Loc) (ls : Array Slot), va_P E.1 vwCl (xm_w (xu E a) M) H → va_S (xm_A (xu E a) s.heap.size) s.heap H locs → lv_has ls 5 [(0, .ref (a 0)), (1, .int x1), (2, .int x2)] → W p l e { frames := 1, cells := 0, slots := 0, locals := 22 } s m args below meth c H locs 0 0 (MQ below (xm_Q E (xu E a) M' s.heap.size (some r)) args s 0 0 (xm_A (xu E a) s.heap.size)) (F0 m 0 ls []) := by
  have C9 := C
  obtain ⟨hx, hb, hml, hown, hts, hr, hlk, hD, hK, hS9⟩ := C9
  intro h H locs ls hP hS hl
  unfold f_X7_liesBetween at h
  refine lv_iconst (v := 0) hx hb dX7_liesBetween_0 (by decide) ?_
  refine lv_istore_n (lv' := [(3, .int 0), (0, .ref (a 0)), (1, .int x1), (2, .int x2)]) hx hb dX7_liesBetween_1 rfl hl (by decide) rfl (fun ls hl => ?_)
  refine lv_aload_n hx hb dX7_liesBetween_2 rfl (lv_at hl 1 rfl) ?_
  refine xm_get (V := (xu E a)) (T := TX7) (v := .ref (a 8)) C hP 0 9 xi_7 rfl l_X7_31 rfl (Nat.le_of_ble_eq_true rfl) ((xf_0 E a) _) (Nat.le_of_ble_eq_true rfl) rfl dX7_liesBetween_3 ?_
  refine lv_iload_n hx hb dX7_liesBetween_6 rfl (lv_at hl 2 rfl) ?_
  refine lv_iconst (v := 1) hx hb dX7_liesBetween_7 (by decide) ?_
  refine lv_isub hx hb dX7_liesBetween_8 ?_
  obtain ⟨b1, h⟩ := xm_ck_s h
  refine xm_iald (V := (xu E a)) C hP 8 4 (Nat.le_of_ble_eq_true rfl) (xf_8 E a) b1 dX7_liesBetween_9 ?_
  refine lv_iconst (v := 1) hx hb dX7_liesBetween_10 (by decide) ?_
  refine lv_iadd hx hb dX7_liesBetween_11 ?_
  refine lv_istore (lv' := [(4, .int ((M 8 (x1 - 1).toNatClampNeg) + 1)), (3, .int 0), (0, .ref (a 0)), (1, .int x1), (2, .int x2)]) hx hb dX7_liesBetween_12 hl (by decide) rfl (fun ls hl => ?_)
  exact t_X7_liesBetween_14 C  n M x1 x2 0 ((M 8 (x1 - 1).toNatClampNeg) + 1) r M' h _ _ _ hP hS (lv_sub hl [2, 3, 4, 1, 0] rfl)
theorem c_X7_liesBetween {l : Launch} {E : xm_E} {a : Nat → Nat} (hD : xm_D (xu E a)) (n : Nat) (M : xm_M) (x1 : Int32) (x2 : Int32) (r : Int32) (M' : xm_M) (h : f_X7_liesBetween n M x1 x2 = some (r, M')) : xm_Met l E (xu E a) yX7_liesBetween cX7_liesBetween 5 (some .boolean) 1 22 [.ref (a 0), .int x1, .int x2] M M' (some r) :=
  xm_met (by decide +kernel) rfl (Nat.le_of_ble_eq_true rfl) hD (fun p e s m below meth c C hP ls hl => t_X7_liesBetween_0 C  n M x1 x2 r M' h _ _ _ hP va_S.rf hl)
def f_X7_fits_91 (n : Nat) (M : xm_M) (x2 : Int32) : Option (Int32 × xm_M) := xm_ck (xm_in x2 4) (if (M 7 x2.toNatClampNeg) = ((-5)) then some (1, M) else xm_ck (xm_in x2 4) (xm_b2 (f_X7_liesBetween n M x2 (M 7 x2.toNatClampNeg)) (fun r5 M4 => if r5 = 0 then some (1, M4) else some (0, M4))))
set_option maxHeartbeats 4000000 in
set_option maxRecDepth 100000 in
theorem t_X7_fits_91 {l : Launch} {p : Program} {e : Env} {s : State} {m : MethodId} {args : Array Value} {below : List Frame} {meth : Method} {c : Code} {E : xm_E} {a : Nat → Nat} (C : xm_C E (xu E a) p s m args meth c RX7 cX7_fits 5 (some .boolean)) (n : Nat) (M : xm_M) (x2 : Int32) (r : Int32) (M' : xm_M) : f_X7_fits_91 n M x2 = some (r, M') → ∀ (H : Heap) (locs : List Loc) (ls : Array Slot), va_P E.1 vwCl (xm_w (xu E a) M) H → va_S (xm_A (xu E a) s.heap.size) s.heap H locs → lv_has ls 5 [(0, .ref (a 0)), (2, .int x2)] → W p l e { frames := 2, cells := 0, slots := 0, locals := 46 } s m args below meth c H locs 0 0 (MQ below (xm_Q E (xu E a) M' s.heap.size (some r)) args s 0 0 (xm_A (xu E a) s.heap.size)) (F0 m 91 ls []) := by
  have C9 := C
  obtain ⟨hx, hb, hml, hown, hts, hr, hlk, hD, hK, hS9⟩ := C9
  intro h H locs ls hP hS hl
  unfold f_X7_fits_91 at h
  refine lv_aload_n hx hb dX7_fits_91 rfl (lv_at hl 0 rfl) ?_
  refine xm_get (V := (xu E a)) (T := TX7) (v := .ref (a 7)) C hP 0 8 xi_7 rfl l_X7_28 rfl (Nat.le_of_ble_eq_true rfl) ((xf_0 E a) _) (Nat.le_of_ble_eq_true rfl) rfl dX7_fits_92 ?_
  refine lv_iload_n hx hb dX7_fits_95 rfl (lv_at hl 1 rfl) ?_
  obtain ⟨b1, h⟩ := xm_ck_s h
  refine xm_iald (V := (xu E a)) C hP 7 4 (Nat.le_of_ble_eq_true rfl) (xf_7 E a) b1 dX7_fits_96 ?_
  refine lv_bipush (v := (-5)) hx hb dX7_fits_97 (by decide) ?_
  refine lv_icmp_eq (tgt := 116) hx hb dX7_fits_99 (by decide) (fun c2 => ?_) (fun c2 => ?_)
  · rw [if_pos c2] at h
    refine lv_iconst (v := 1) hx hb dX7_fits_116 (by decide) ?_
    refine lv_goto (tgt := 121) hx hb dX7_fits_117 (by decide) ?_
    obtain ⟨rfl, rfl⟩ := xm_pr h
    exact xm_retZ C hP hS (by rfl) dX7_fits_121
  · rw [if_neg c2] at h
    refine lv_aload_n hx hb dX7_fits_102 rfl (lv_at hl 0 rfl) ?_
    refine lv_iload_n hx hb dX7_fits_103 rfl (lv_at hl 1 rfl) ?_
    refine lv_aload_n hx hb dX7_fits_104 rfl (lv_at hl 0 rfl) ?_
    refine xm_get (V := (xu E a)) (T := TX7) (v := .ref (a 7)) C hP 0 8 xi_7 rfl l_X7_28 rfl (Nat.le_of_ble_eq_true rfl) ((xf_0 E a) _) (Nat.le_of_ble_eq_true rfl) rfl dX7_fits_105 ?_
    refine lv_iload_n hx hb dX7_fits_108 rfl (lv_at hl 1 rfl) ?_
    obtain ⟨b3, h⟩ := xm_ck_s h
    refine xm_iald (V := (xu E a)) C hP 7 4 (Nat.le_of_ble_eq_true rfl) (xf_7 E a) b3 dX7_fits_109 ?_
    obtain ⟨r5, M4, e6, h⟩ := xm_b2_s h
    refine xm_callV C hP hS [.int x2, .int (M 7 x2.toNatClampNeg)] [] (c_X7_liesBetween hD  n M x2 (M 7 x2.toNatClampNeg) r5 M4 e6) k_X7_72 (xm_recv C hP 0 rfl (Nat.le_of_ble_eq_true rfl) ((xf_0 E a) _)) rfl rfl ⟨(Nat.le_of_ble_eq_true rfl), (Nat.le_of_ble_eq_true rfl)⟩ hl.1 (Nat.le_of_ble_eq_true rfl) ⟨Nat.zero_le _, Nat.zero_le _⟩ dX7_fits_110 (fun H locs hP hS => ?_)
    change W p l e _ s m _ below meth c H locs 0 0 _ (F0 m 113 ls [.int r5])
    refine lv_if_ne (tgt := 120) hx hb dX7_fits_113 (by decide) (fun c7 => ?_) (fun c7 => ?_)
    · rw [if_neg c7] at h
      refine lv_iconst (v := 0) hx hb dX7_fits_120 (by decide) ?_
      obtain ⟨rfl, rfl⟩ := xm_pr h
      exact xm_retZ C hP hS (by rfl) dX7_fits_121
    · rw [if_pos c7] at h
      refine lv_iconst (v := 1) hx hb dX7_fits_116 (by decide) ?_
      refine lv_goto (tgt := 121) hx hb dX7_fits_117 (by decide) ?_
      obtain ⟨rfl, rfl⟩ := xm_pr h
      exact xm_retZ C hP hS (by rfl) dX7_fits_121
def f_X7_fits (n : Nat) (M : xm_M) (x1 : Int32) (x2 : Int32) : Option (Int32 × xm_M) := xm_b2 (f_X7_chosen n M x2 0) (fun r2 M1 => xm_ck (xm_in x2 4) (if r2 = (M1 6 x2.toNatClampNeg) then xm_b2 (f_X7_chosen n M1 x2 2) (fun r7 M6 => xm_b2 (f_X7_chosen n M6 0 2) (fun r10 M9 => xm_b2 (f_X7_ofPattern n M9 x1 0) (fun r13 M12 => if (r7 - r10) ≤ r13 then if x2 = 0 then some (1, M12) else xm_b2 (f_X7_ofPattern n M12 x1 1) (fun r18 M17 => xm_b2 (f_X7_chosen n M17 x2 1) (fun r21 M20 => xm_b2 (f_X7_chosen n M20 (x2 - 1) 1) (fun r24 M23 => if r18 = 0 then f_X7_fits_91 n M23 x2 else if r18 = 1 then if (r21 - r24) ≤ 0 then some (0, M23) else f_X7_fits_91 n M23 x2 else if (r21 - r24) = 0 then f_X7_fits_91 n M23 x2 else some (0, M23)))) else some (0, M12)))) else some (0, M1)))
set_option maxHeartbeats 4000000 in
set_option maxRecDepth 100000 in
theorem t_X7_fits_0 {l : Launch} {p : Program} {e : Env} {s : State} {m : MethodId} {args : Array Value} {below : List Frame} {meth : Method} {c : Code} {E : xm_E} {a : Nat → Nat} (C : xm_C E (xu E a) p s m args meth c RX7 cX7_fits 5 (some .boolean)) (n : Nat) (M : xm_M) (x1 : Int32) (x2 : Int32) (r : Int32) (M' : xm_M) : f_X7_fits n M x1 x2 = some (r, M') → ∀ (H : Heap) (locs : List Loc) (ls : Array Slot), va_P E.1 vwCl (xm_w (xu E a) M) H → va_S (xm_A (xu E a) s.heap.size) s.heap H locs → lv_has ls 5 [(0, .ref (a 0)), (1, .int x1), (2, .int x2)] → W p l e { frames := 2, cells := 0, slots := 0, locals := 46 } s m args below meth c H locs 0 0 (MQ below (xm_Q E (xu E a) M' s.heap.size (some r)) args s 0 0 (xm_A (xu E a) s.heap.size)) (F0 m 0 ls []) := by
  have C9 := C
  obtain ⟨hx, hb, hml, hown, hts, hr, hlk, hD, hK, hS9⟩ := C9
  intro h H locs ls hP hS hl
  unfold f_X7_fits at h
  refine lv_aload_n hx hb dX7_fits_0 rfl (lv_at hl 0 rfl) ?_
  refine lv_iload_n hx hb dX7_fits_1 rfl (lv_at hl 2 rfl) ?_
  refine lv_iconst (v := 0) hx hb dX7_fits_2 (by decide) ?_
  obtain ⟨r2, M1, e3, h⟩ := xm_b2_s h
  refine xm_callV C hP hS [.int x2, .int 0] [] (c_X7_chosen hD  n M x2 0 r2 M1 e3) k_X7_69 (xm_recv C hP 0 rfl (Nat.le_of_ble_eq_true rfl) ((xf_0 E a) _)) rfl rfl ⟨(Nat.le_of_ble_eq_true rfl), (Nat.le_of_ble_eq_true rfl)⟩ hl.1 (Nat.le_of_ble_eq_true rfl) ⟨Nat.zero_le _, Nat.zero_le _⟩ dX7_fits_3 (fun H locs hP hS => ?_)
  change W p l e _ s m _ below meth c H locs 0 0 _ (F0 m 6 ls [.int r2])
  refine lv_aload_n hx hb dX7_fits_6 rfl (lv_at hl 0 rfl) ?_
  refine xm_get (V := (xu E a)) (T := TX7) (v := .ref (a 6)) C hP 0 7 xi_7 rfl l_X7_25 rfl (Nat.le_of_ble_eq_true rfl) ((xf_0 E a) _) (Nat.le_of_ble_eq_true rfl) rfl dX7_fits_7 ?_
  refine lv_iload_n hx hb dX7_fits_10 rfl (lv_at hl 2 rfl) ?_
  obtain ⟨b4, h⟩ := xm_ck_s h
  refine xm_iald (V := (xu E a)) C hP 6 4 (Nat.le_of_ble_eq_true rfl) (xf_6 E a) b4 dX7_fits_11 ?_
  refine lv_icmp_ne (tgt := 37) hx hb dX7_fits_12 (by decide) (fun c5 => ?_) (fun c5 => ?_)
  · rw [if_neg c5] at h
    refine lv_iconst (v := 0) hx hb dX7_fits_37 (by decide) ?_
    obtain ⟨rfl, rfl⟩ := xm_pr h
    exact xm_retZ C hP hS (by rfl) dX7_fits_38
  · rw [if_pos c5] at h
    refine lv_aload_n hx hb dX7_fits_15 rfl (lv_at hl 0 rfl) ?_
    refine lv_iload_n hx hb dX7_fits_16 rfl (lv_at hl 2 rfl) ?_
    refine lv_iconst (v := 2) hx hb dX7_fits_17 (by decide) ?_
    obtain ⟨r7, M6, e8, h⟩ := xm_b2_s h
    refine xm_callV C hP hS [.int x2, .int 2] [] (c_X7_chosen hD  n M1 x2 2 r7 M6 e8) k_X7_69 (xm_recv C hP 0 rfl (Nat.le_of_ble_eq_true rfl) ((xf_0 E a) _)) rfl rfl ⟨(Nat.le_of_ble_eq_true rfl), (Nat.le_of_ble_eq_true rfl)⟩ hl.1 (Nat.le_of_ble_eq_true rfl) ⟨Nat.zero_le _, Nat.zero_le _⟩ dX7_fits_18 (fun H locs hP hS => ?_)
    change W p l e _ s m _ below meth c H locs 0 0 _ (F0 m 21 ls [.int r7])
    refine lv_aload_n hx hb dX7_fits_21 rfl (lv_at hl 0 rfl) ?_
    refine lv_iconst (v := 0) hx hb dX7_fits_22 (by decide) ?_
    refine lv_iconst (v := 2) hx hb dX7_fits_23 (by decide) ?_
    obtain ⟨r10, M9, e11, h⟩ := xm_b2_s h
    refine xm_callV C hP hS [.int 0, .int 2] [.int r7] (c_X7_chosen hD  n M6 0 2 r10 M9 e11) k_X7_69 (xm_recv C hP 0 rfl (Nat.le_of_ble_eq_true rfl) ((xf_0 E a) _)) rfl rfl ⟨(Nat.le_of_ble_eq_true rfl), (Nat.le_of_ble_eq_true rfl)⟩ hl.1 (Nat.le_of_ble_eq_true rfl) ⟨Nat.zero_le _, Nat.zero_le _⟩ dX7_fits_24 (fun H locs hP hS => ?_)
    change W p l e _ s m _ below meth c H locs 0 0 _ (F0 m 27 ls [.int r10, .int r7])
    refine lv_isub hx hb dX7_fits_27 ?_
    refine lv_aload_n hx hb dX7_fits_28 rfl (lv_at hl 0 rfl) ?_
    refine lv_iload_n hx hb dX7_fits_29 rfl (lv_at hl 1 rfl) ?_
    refine lv_iconst (v := 0) hx hb dX7_fits_30 (by decide) ?_
    obtain ⟨r13, M12, e14, h⟩ := xm_b2_s h
    refine xm_callV C hP hS [.int x1, .int 0] [.int (r7 - r10)] (c_X7_ofPattern hD  n M9 x1 0 r13 M12 e14) k_X7_66 (xm_recv C hP 0 rfl (Nat.le_of_ble_eq_true rfl) ((xf_0 E a) _)) rfl rfl ⟨(Nat.le_of_ble_eq_true rfl), (Nat.le_of_ble_eq_true rfl)⟩ hl.1 (Nat.le_of_ble_eq_true rfl) ⟨Nat.zero_le _, Nat.zero_le _⟩ dX7_fits_31 (fun H locs hP hS => ?_)
    change W p l e _ s m _ below meth c H locs 0 0 _ (F0 m 34 ls [.int r13, .int (r7 - r10)])
    refine lv_icmp_le (tgt := 39) hx hb dX7_fits_34 (by decide) (fun c15 => ?_) (fun c15 => ?_)
    · rw [if_pos c15] at h
      refine lv_iload_n hx hb dX7_fits_39 rfl (lv_at hl 2 rfl) ?_
      refine lv_if_ne (tgt := 45) hx hb dX7_fits_40 (by decide) (fun c16 => ?_) (fun c16 => ?_)
      · rw [if_neg c16] at h
        refine lv_aload_n hx hb dX7_fits_45 rfl (lv_at hl 0 rfl) ?_
        refine lv_iload_n hx hb dX7_fits_46 rfl (lv_at hl 1 rfl) ?_
        refine lv_iconst (v := 1) hx hb dX7_fits_47 (by decide) ?_
        obtain ⟨r18, M17, e19, h⟩ := xm_b2_s h
        refine xm_callV C hP hS [.int x1, .int 1] [] (c_X7_ofPattern hD  n M12 x1 1 r18 M17 e19) k_X7_66 (xm_recv C hP 0 rfl (Nat.le_of_ble_eq_true rfl) ((xf_0 E a) _)) rfl rfl ⟨(Nat.le_of_ble_eq_true rfl), (Nat.le_of_ble_eq_true rfl)⟩ hl.1 (Nat.le_of_ble_eq_true rfl) ⟨Nat.zero_le _, Nat.zero_le _⟩ dX7_fits_48 (fun H locs hP hS => ?_)
        change W p l e _ s m _ below meth c H locs 0 0 _ (F0 m 51 ls [.int r18])
        refine lv_istore_n (lv' := [(3, .int r18), (0, .ref (a 0)), (1, .int x1), (2, .int x2)]) hx hb dX7_fits_51 rfl hl (by decide) rfl (fun ls hl => ?_)
        refine lv_aload_n hx hb dX7_fits_52 rfl (lv_at hl 1 rfl) ?_
        refine lv_iload_n hx hb dX7_fits_53 rfl (lv_at hl 3 rfl) ?_
        refine lv_iconst (v := 1) hx hb dX7_fits_54 (by decide) ?_
        obtain ⟨r21, M20, e22, h⟩ := xm_b2_s h
        refine xm_callV C hP hS [.int x2, .int 1] [] (c_X7_chosen hD  n M17 x2 1 r21 M20 e22) k_X7_69 (xm_recv C hP 0 rfl (Nat.le_of_ble_eq_true rfl) ((xf_0 E a) _)) rfl rfl ⟨(Nat.le_of_ble_eq_true rfl), (Nat.le_of_ble_eq_true rfl)⟩ hl.1 (Nat.le_of_ble_eq_true rfl) ⟨Nat.zero_le _, Nat.zero_le _⟩ dX7_fits_55 (fun H locs hP hS => ?_)
        change W p l e _ s m _ below meth c H locs 0 0 _ (F0 m 58 ls [.int r21])
        refine lv_aload_n hx hb dX7_fits_58 rfl (lv_at hl 1 rfl) ?_
        refine lv_iload_n hx hb dX7_fits_59 rfl (lv_at hl 3 rfl) ?_
        refine lv_iconst (v := 1) hx hb dX7_fits_60 (by decide) ?_
        refine lv_isub hx hb dX7_fits_61 ?_
        refine lv_iconst (v := 1) hx hb dX7_fits_62 (by decide) ?_
        obtain ⟨r24, M23, e25, h⟩ := xm_b2_s h
        refine xm_callV C hP hS [.int (x2 - 1), .int 1] [.int r21] (c_X7_chosen hD  n M20 (x2 - 1) 1 r24 M23 e25) k_X7_69 (xm_recv C hP 0 rfl (Nat.le_of_ble_eq_true rfl) ((xf_0 E a) _)) rfl rfl ⟨(Nat.le_of_ble_eq_true rfl), (Nat.le_of_ble_eq_true rfl)⟩ hl.1 (Nat.le_of_ble_eq_true rfl) ⟨Nat.zero_le _, Nat.zero_le _⟩ dX7_fits_63 (fun H locs hP hS => ?_)
        change W p l e _ s m _ below meth c H locs 0 0 _ (F0 m 66 ls [.int r24, .int r21])
        refine lv_isub hx hb dX7_fits_66 ?_
        refine lv_istore (lv' := [(4, .int (r21 - r24)), (3, .int r18), (0, .ref (a 0)), (1, .int x1), (2, .int x2)]) hx hb dX7_fits_67 hl (by decide) rfl (fun ls hl => ?_)
        refine lv_iload_n hx hb dX7_fits_69 rfl (lv_at hl 1 rfl) ?_
        refine lv_if_eq (tgt := 91) hx hb dX7_fits_70 (by decide) (fun c26 => ?_) (fun c26 => ?_)
        · rw [if_pos c26] at h
          exact t_X7_fits_91 C  n M23 x2 r M' h _ _ _ hP hS (lv_sub hl [2, 4] rfl)
        · rw [if_neg c26] at h
          refine lv_iload_n hx hb dX7_fits_73 rfl (lv_at hl 1 rfl) ?_
          refine lv_iconst (v := 1) hx hb dX7_fits_74 (by decide) ?_
          refine lv_icmp_ne (tgt := 86) hx hb dX7_fits_75 (by decide) (fun c27 => ?_) (fun c27 => ?_)
          · rw [if_neg c27] at h
            refine lv_iload hx hb dX7_fits_86 (lv_at hl 0 rfl) ?_
            refine lv_if_ne (tgt := 120) hx hb dX7_fits_88 (by decide) (fun c28 => ?_) (fun c28 => ?_)
            · rw [if_neg c28] at h
              refine lv_iconst (v := 0) hx hb dX7_fits_120 (by decide) ?_
              obtain ⟨rfl, rfl⟩ := xm_pr h
              exact xm_retZ C hP hS (by rfl) dX7_fits_121
            · rw [if_pos c28] at h
              exact t_X7_fits_91 C  n M23 x2 r M' h _ _ _ hP hS (lv_sub hl [2, 4] rfl)
          · rw [if_pos c27] at h
            refine lv_iload hx hb dX7_fits_78 (lv_at hl 0 rfl) ?_
            refine lv_if_le (tgt := 120) hx hb dX7_fits_80 (by decide) (fun c29 => ?_) (fun c29 => ?_)
            · rw [if_pos c29] at h
              refine lv_iconst (v := 0) hx hb dX7_fits_120 (by decide) ?_
              obtain ⟨rfl, rfl⟩ := xm_pr h
              exact xm_retZ C hP hS (by rfl) dX7_fits_121
            · rw [if_neg c29] at h
              refine lv_goto (tgt := 91) hx hb dX7_fits_83 (by decide) ?_
              exact t_X7_fits_91 C  n M23 x2 r M' h _ _ _ hP hS (lv_sub hl [2, 4] rfl)
      · rw [if_pos c16] at h
        refine lv_iconst (v := 1) hx hb dX7_fits_43 (by decide) ?_
        obtain ⟨rfl, rfl⟩ := xm_pr h
        exact xm_retZ C hP hS (by rfl) dX7_fits_44
    · rw [if_neg c15] at h
      refine lv_iconst (v := 0) hx hb dX7_fits_37 (by decide) ?_
      obtain ⟨rfl, rfl⟩ := xm_pr h
      exact xm_retZ C hP hS (by rfl) dX7_fits_38
theorem c_X7_fits {l : Launch} {E : xm_E} {a : Nat → Nat} (hD : xm_D (xu E a)) (n : Nat) (M : xm_M) (x1 : Int32) (x2 : Int32) (r : Int32) (M' : xm_M) (h : f_X7_fits n M x1 x2 = some (r, M')) : xm_Met l E (xu E a) yX7_fits cX7_fits 5 (some .boolean) 2 46 [.ref (a 0), .int x1, .int x2] M M' (some r) :=
  xm_met (by decide +kernel) rfl (Nat.le_of_ble_eq_true rfl) hD (fun p e s m below meth c C hP ls hl => t_X7_fits_0 C  n M x1 x2 r M' h _ _ _ hP va_S.rf hl)
def f_X7_isMatch_43 : Nat → xm_M → Int32 → Int32 → Option xm_M
  | 0, _, _, _ => none
  | n + 1, M, x1, x2 => if x1 ≤ x2 then xm_lt (xm_up M 0 10 ((M 0 10) + 1)) (fun M2 => xm_b2 (f_X7_chosen n M2 (x1 - 1) 2) (fun r5 M4 => xm_b2 (f_X7_watermark n M4) (fun r8 M7 => if r8 < r5 then xm_lt (xm_up M7 0 11 ((M2 0 11) + 0)) (fun M11 => some M11) else xm_lt (xm_up M7 0 11 ((M2 0 11) + 1)) (fun M13 => some M13)))) else xm_ck (xm_in x2 4) (xm_ck (xm_in (M 8 x2.toNatClampNeg) 25) (xm_ck (xm_in (M 5 (M 8 x2.toNatClampNeg).toNatClampNeg) 25) (xm_ck (xm_in (M 5 (M 8 x2.toNatClampNeg).toNatClampNeg) 25) (xm_lt (xm_up M 9 (M 5 (M 8 x2.toNatClampNeg).toNatClampNeg).toNatClampNeg ((M 9 (M 5 (M 8 x2.toNatClampNeg).toNatClampNeg).toNatClampNeg) + 1)) (fun M19 => f_X7_isMatch_43 n M19 x1 (x2 + 1))))))
set_option maxHeartbeats 4000000 in
set_option maxRecDepth 100000 in
theorem t_X7_isMatch_43 {l : Launch} {p : Program} {e : Env} {s : State} {m : MethodId} {args : Array Value} {below : List Frame} {meth : Method} {c : Code} {E : xm_E} {a : Nat → Nat} (C : xm_C E (xu E a) p s m args meth c RX7 cX7_isMatch 3 none) : ∀ (n : Nat) (M : xm_M) (x1 : Int32) (x2 : Int32) (M' : xm_M), f_X7_isMatch_43 n M x1 x2 = some M' → ∀ (H : Heap) (locs : List Loc) (ls : Array Slot), va_P E.1 vwCl (xm_w (xu E a) M) H → va_S (xm_A (xu E a) s.heap.size) s.heap H locs → lv_has ls 3 [(0, .ref (a 0)), (1, .int x1), (2, .int x2)] → W p l e { frames := 2, cells := 0, slots := 0, locals := 44 } s m args below meth c H locs 0 0 (MQ below (xm_Q E (xu E a) M' s.heap.size none) args s 0 0 (xm_A (xu E a) s.heap.size)) (F0 m 43 ls []) := by
  have C9 := C
  obtain ⟨hx, hb, hml, hown, hts, hr, hlk, hD, hK, hS9⟩ := C9
  intro n
  induction n with
  | zero =>
    intro M x1 x2 M' h
    cases h
  | succ n ih =>
    intro M x1 x2 M' h H locs ls hP hS hl
    rw [f_X7_isMatch_43] at h
    refine lv_iload_n hx hb dX7_isMatch_43 rfl (lv_at hl 2 rfl) ?_
    refine lv_iload_n hx hb dX7_isMatch_44 rfl (lv_at hl 1 rfl) ?_
    refine lv_icmp_ge (tgt := 74) hx hb dX7_isMatch_45 (by decide) (fun c1 => ?_) (fun c1 => ?_)
    · rw [if_pos c1] at h
      refine lv_aload_n hx hb dX7_isMatch_74 rfl (lv_at hl 0 rfl) ?_
      refine lv_dup hx hb dX7_isMatch_75 rfl ?_
      refine xm_get (V := (xu E a)) (T := TX7) (v := .int (M 0 10)) C hP 0 10 xi_7 rfl l_X7_76 rfl (Nat.le_of_ble_eq_true rfl) ((xf_0 E a) _) (Nat.le_of_ble_eq_true rfl) rfl dX7_isMatch_76 ?_
      refine lv_iconst (v := 1) hx hb dX7_isMatch_79 (by decide) ?_
      refine lv_iadd hx hb dX7_isMatch_80 ?_
      obtain ⟨M2, e3, h⟩ := xm_lt_s h
      refine xm_put (V := (xu E a)) (T := TX7) (ty := .int) (x := (M 0 10) + 1) C hP hS 0 10 xi_7 rfl l_X7_76 rfl tyX7_ok nmX7 (Nat.le_of_ble_eq_true rfl) ((xf_0 E a) _) (Nat.le_of_ble_eq_true rfl) rfl (by decide +kernel) rfl rfl (Nat.le_of_ble_eq_true rfl) ((xf_0 E a) _) dX7_isMatch_81 (fun H locs hP hS => ?_)
      rw [← e3] at hP
      refine lv_aload_n hx hb dX7_isMatch_84 rfl (lv_at hl 0 rfl) ?_
      refine lv_dup hx hb dX7_isMatch_85 rfl ?_
      refine xm_get (V := (xu E a)) (T := TX7) (v := .int (M2 0 11)) C hP 0 11 xi_7 rfl l_X7_82 rfl (Nat.le_of_ble_eq_true rfl) ((xf_0 E a) _) (Nat.le_of_ble_eq_true rfl) rfl dX7_isMatch_86 ?_
      refine lv_aload_n hx hb dX7_isMatch_89 rfl (lv_at hl 0 rfl) ?_
      refine lv_iload_n hx hb dX7_isMatch_90 rfl (lv_at hl 1 rfl) ?_
      refine lv_iconst (v := 1) hx hb dX7_isMatch_91 (by decide) ?_
      refine lv_isub hx hb dX7_isMatch_92 ?_
      refine lv_iconst (v := 2) hx hb dX7_isMatch_93 (by decide) ?_
      obtain ⟨r5, M4, e6, h⟩ := xm_b2_s h
      refine xm_callV C hP hS [.int (x1 - 1), .int 2] [.int (M2 0 11), .ref (a 0)] (c_X7_chosen hD  n M2 (x1 - 1) 2 r5 M4 e6) k_X7_69 (xm_recv C hP 0 rfl (Nat.le_of_ble_eq_true rfl) ((xf_0 E a) _)) rfl rfl ⟨(Nat.le_of_ble_eq_true rfl), (Nat.le_of_ble_eq_true rfl)⟩ hl.1 (Nat.le_of_ble_eq_true rfl) ⟨Nat.zero_le _, Nat.zero_le _⟩ dX7_isMatch_94 (fun H locs hP hS => ?_)
      change W p l e _ s m _ below meth c H locs 0 0 _ (F0 m 97 ls [.int r5, .int (M2 0 11), .ref (a 0)])
      refine lv_aload_n hx hb dX7_isMatch_97 rfl (lv_at hl 0 rfl) ?_
      obtain ⟨r8, M7, e9, h⟩ := xm_b2_s h
      refine xm_callV C hP hS [] [.int r5, .int (M2 0 11), .ref (a 0)] (c_X7_watermark hD  n M4  r8 M7 e9) k_X7_85 (xm_recv C hP 0 rfl (Nat.le_of_ble_eq_true rfl) ((xf_0 E a) _)) rfl rfl ⟨(Nat.le_of_ble_eq_true rfl), (Nat.le_of_ble_eq_true rfl)⟩ hl.1 (Nat.le_of_ble_eq_true rfl) ⟨Nat.zero_le _, Nat.zero_le _⟩ dX7_isMatch_98 (fun H locs hP hS => ?_)
      change W p l e _ s m _ below meth c H locs 0 0 _ (F0 m 101 ls [.int r8, .int r5, .int (M2 0 11), .ref (a 0)])
      refine lv_icmp_gt (tgt := 108) hx hb dX7_isMatch_101 (by decide) (fun c10 => ?_) (fun c10 => ?_)
      · rw [if_pos c10] at h
        refine lv_iconst (v := 0) hx hb dX7_isMatch_108 (by decide) ?_
        refine lv_iadd hx hb dX7_isMatch_109 ?_
        obtain ⟨M11, e12, h⟩ := xm_lt_s h
        refine xm_put (V := (xu E a)) (T := TX7) (ty := .int) (x := (M2 0 11) + 0) C hP hS 0 11 xi_7 rfl l_X7_82 rfl tyX7_ok nmX7 (Nat.le_of_ble_eq_true rfl) ((xf_0 E a) _) (Nat.le_of_ble_eq_true rfl) rfl (by decide +kernel) rfl rfl (Nat.le_of_ble_eq_true rfl) ((xf_0 E a) _) dX7_isMatch_110 (fun H locs hP hS => ?_)
        rw [← e12] at hP
        cases xm_on h
        exact xm_retV C hP hS dX7_isMatch_113
      · rw [if_neg c10] at h
        refine lv_iconst (v := 1) hx hb dX7_isMatch_104 (by decide) ?_
        refine lv_goto (tgt := 109) hx hb dX7_isMatch_105 (by decide) ?_
        refine lv_iadd hx hb dX7_isMatch_109 ?_
        obtain ⟨M13, e14, h⟩ := xm_lt_s h
        refine xm_put (V := (xu E a)) (T := TX7) (ty := .int) (x := (M2 0 11) + 1) C hP hS 0 11 xi_7 rfl l_X7_82 rfl tyX7_ok nmX7 (Nat.le_of_ble_eq_true rfl) ((xf_0 E a) _) (Nat.le_of_ble_eq_true rfl) rfl (by decide +kernel) rfl rfl (Nat.le_of_ble_eq_true rfl) ((xf_0 E a) _) dX7_isMatch_110 (fun H locs hP hS => ?_)
        rw [← e14] at hP
        cases xm_on h
        exact xm_retV C hP hS dX7_isMatch_113
    · rw [if_neg c1] at h
      refine lv_aload_n hx hb dX7_isMatch_48 rfl (lv_at hl 0 rfl) ?_
      refine xm_get (V := (xu E a)) (T := TX7) (v := .ref (a 9)) C hP 0 13 xi_7 rfl l_X7_34 rfl (Nat.le_of_ble_eq_true rfl) ((xf_0 E a) _) (Nat.le_of_ble_eq_true rfl) rfl dX7_isMatch_49 ?_
      refine lv_aload_n hx hb dX7_isMatch_52 rfl (lv_at hl 0 rfl) ?_
      refine xm_get (V := (xu E a)) (T := TX7) (v := .ref (a 5)) C hP 0 6 xi_7 rfl l_X7_22 rfl (Nat.le_of_ble_eq_true rfl) ((xf_0 E a) _) (Nat.le_of_ble_eq_true rfl) rfl dX7_isMatch_53 ?_
      refine lv_aload_n hx hb dX7_isMatch_56 rfl (lv_at hl 0 rfl) ?_
      refine xm_get (V := (xu E a)) (T := TX7) (v := .ref (a 8)) C hP 0 9 xi_7 rfl l_X7_31 rfl (Nat.le_of_ble_eq_true rfl) ((xf_0 E a) _) (Nat.le_of_ble_eq_true rfl) rfl dX7_isMatch_57 ?_
      refine lv_iload_n hx hb dX7_isMatch_60 rfl (lv_at hl 2 rfl) ?_
      obtain ⟨b15, h⟩ := xm_ck_s h
      refine xm_iald (V := (xu E a)) C hP 8 4 (Nat.le_of_ble_eq_true rfl) (xf_8 E a) b15 dX7_isMatch_61 ?_
      obtain ⟨b16, h⟩ := xm_ck_s h
      refine xm_iald (V := (xu E a)) C hP 5 25 (Nat.le_of_ble_eq_true rfl) (xf_5 E a) b16 dX7_isMatch_62 ?_
      refine lv_dup2_11 hx hb dX7_isMatch_63 rfl rfl ?_
      obtain ⟨b17, h⟩ := xm_ck_s h
      refine xm_iald (V := (xu E a)) C hP 9 25 (Nat.le_of_ble_eq_true rfl) (xf_9 E a) b17 dX7_isMatch_64 ?_
      refine lv_iconst (v := 1) hx hb dX7_isMatch_65 (by decide) ?_
      refine lv_iadd hx hb dX7_isMatch_66 ?_
      obtain ⟨b18, h⟩ := xm_ck_s h
      obtain ⟨M19, e20, h⟩ := xm_lt_s h
      refine xm_iast (V := (xu E a)) C hP hS 9 25 (Nat.le_of_ble_eq_true rfl) (xf_9 E a) b18 dX7_isMatch_67 (fun H locs hP hS => ?_)
      rw [← e20] at hP
      refine lv_iinc (v := x2 + 1) (lv' := [(2, .int (x2 + 1)), (0, .ref (a 0)), (1, .int x1)]) hx hb dX7_isMatch_68 hl (k := 2) rfl (xm_add (by decide)) (by decide) rfl (fun ls hl => ?_)
      refine lv_goto (tgt := 43) hx hb dX7_isMatch_71 (by decide) ?_
      exact ih M19 x1 (x2 + 1) M' h _ _ _ hP hS (lv_sub hl [1, 2, 0] rfl)
def f_X7_isMatch_13 : Nat → xm_M → Int32 → Int32 → Option xm_M
  | 0, _, _, _ => none
  | n + 1, M, x1, x2 => if x1 ≤ x2 then f_X7_isMatch_43 n M x1 0 else xm_ck (xm_in x2 4) (xm_ck (xm_in (M 8 x2.toNatClampNeg) 25) (xm_ck (xm_in x2 4) (xm_lt (xm_up M 10 x2.toNatClampNeg (M 5 (M 8 x2.toNatClampNeg).toNatClampNeg)) (fun M5 => f_X7_isMatch_13 n M5 x1 (x2 + 1)))))
set_option maxHeartbeats 4000000 in
set_option maxRecDepth 100000 in
theorem t_X7_isMatch_13 {l : Launch} {p : Program} {e : Env} {s : State} {m : MethodId} {args : Array Value} {below : List Frame} {meth : Method} {c : Code} {E : xm_E} {a : Nat → Nat} (C : xm_C E (xu E a) p s m args meth c RX7 cX7_isMatch 3 none) : ∀ (n : Nat) (M : xm_M) (x1 : Int32) (x2 : Int32) (M' : xm_M), f_X7_isMatch_13 n M x1 x2 = some M' → ∀ (H : Heap) (locs : List Loc) (ls : Array Slot), va_P E.1 vwCl (xm_w (xu E a) M) H → va_S (xm_A (xu E a) s.heap.size) s.heap H locs → lv_has ls 3 [(0, .ref (a 0)), (1, .int x1), (2, .int x2)] → W p l e { frames := 2, cells := 0, slots := 0, locals := 44 } s m args below meth c H locs 0 0 (MQ below (xm_Q E (xu E a) M' s.heap.size none) args s 0 0 (xm_A (xu E a) s.heap.size)) (F0 m 13 ls []) := by
  have C9 := C
  obtain ⟨hx, hb, hml, hown, hts, hr, hlk, hD, hK, hS9⟩ := C9
  intro n
  induction n with
  | zero =>
    intro M x1 x2 M' h
    cases h
  | succ n ih =>
    intro M x1 x2 M' h H locs ls hP hS hl
    rw [f_X7_isMatch_13] at h
    refine lv_iload_n hx hb dX7_isMatch_13 rfl (lv_at hl 2 rfl) ?_
    refine lv_iload_n hx hb dX7_isMatch_14 rfl (lv_at hl 1 rfl) ?_
    refine lv_icmp_ge (tgt := 41) hx hb dX7_isMatch_15 (by decide) (fun c1 => ?_) (fun c1 => ?_)
    · rw [if_pos c1] at h
      refine lv_iconst (v := 0) hx hb dX7_isMatch_41 (by decide) ?_
      refine lv_istore_n (lv' := [(2, .int 0), (0, .ref (a 0)), (1, .int x1)]) hx hb dX7_isMatch_42 rfl hl (by decide) rfl (fun ls hl => ?_)
      exact t_X7_isMatch_43 C  n M x1 0 M' h _ _ _ hP hS (lv_sub hl [1, 2, 0] rfl)
    · rw [if_neg c1] at h
      refine lv_aload_n hx hb dX7_isMatch_18 rfl (lv_at hl 0 rfl) ?_
      refine xm_get (V := (xu E a)) (T := TX7) (v := .ref (a 10)) C hP 0 15 xi_7 rfl l_X7_37 rfl (Nat.le_of_ble_eq_true rfl) ((xf_0 E a) _) (Nat.le_of_ble_eq_true rfl) rfl dX7_isMatch_19 ?_
      refine lv_iload_n hx hb dX7_isMatch_22 rfl (lv_at hl 2 rfl) ?_
      refine lv_aload_n hx hb dX7_isMatch_23 rfl (lv_at hl 0 rfl) ?_
      refine xm_get (V := (xu E a)) (T := TX7) (v := .ref (a 5)) C hP 0 6 xi_7 rfl l_X7_22 rfl (Nat.le_of_ble_eq_true rfl) ((xf_0 E a) _) (Nat.le_of_ble_eq_true rfl) rfl dX7_isMatch_24 ?_
      refine lv_aload_n hx hb dX7_isMatch_27 rfl (lv_at hl 0 rfl) ?_
      refine xm_get (V := (xu E a)) (T := TX7) (v := .ref (a 8)) C hP 0 9 xi_7 rfl l_X7_31 rfl (Nat.le_of_ble_eq_true rfl) ((xf_0 E a) _) (Nat.le_of_ble_eq_true rfl) rfl dX7_isMatch_28 ?_
      refine lv_iload_n hx hb dX7_isMatch_31 rfl (lv_at hl 2 rfl) ?_
      obtain ⟨b2, h⟩ := xm_ck_s h
      refine xm_iald (V := (xu E a)) C hP 8 4 (Nat.le_of_ble_eq_true rfl) (xf_8 E a) b2 dX7_isMatch_32 ?_
      obtain ⟨b3, h⟩ := xm_ck_s h
      refine xm_iald (V := (xu E a)) C hP 5 25 (Nat.le_of_ble_eq_true rfl) (xf_5 E a) b3 dX7_isMatch_33 ?_
      obtain ⟨b4, h⟩ := xm_ck_s h
      obtain ⟨M5, e6, h⟩ := xm_lt_s h
      refine xm_iast (V := (xu E a)) C hP hS 10 4 (Nat.le_of_ble_eq_true rfl) (xf_10 E a) b4 dX7_isMatch_34 (fun H locs hP hS => ?_)
      rw [← e6] at hP
      refine lv_iinc (v := x2 + 1) (lv' := [(2, .int (x2 + 1)), (0, .ref (a 0)), (1, .int x1)]) hx hb dX7_isMatch_35 hl (k := 2) rfl (xm_add (by decide)) (by decide) rfl (fun ls hl => ?_)
      refine lv_goto (tgt := 13) hx hb dX7_isMatch_38 (by decide) ?_
      exact ih M5 x1 (x2 + 1) M' h _ _ _ hP hS (lv_sub hl [1, 2, 0] rfl)
def f_X7_isMatch (n : Nat) (M : xm_M) (x1 : Int32) : Option xm_M := if (M 0 10) = (M 0 14) then f_X7_isMatch_13 n M x1 0 else f_X7_isMatch_43 n M x1 0
set_option maxHeartbeats 4000000 in
set_option maxRecDepth 100000 in
theorem t_X7_isMatch_0 {l : Launch} {p : Program} {e : Env} {s : State} {m : MethodId} {args : Array Value} {below : List Frame} {meth : Method} {c : Code} {E : xm_E} {a : Nat → Nat} (C : xm_C E (xu E a) p s m args meth c RX7 cX7_isMatch 3 none) (n : Nat) (M : xm_M) (x1 : Int32) (M' : xm_M) : f_X7_isMatch n M x1 = some M' → ∀ (H : Heap) (locs : List Loc) (ls : Array Slot), va_P E.1 vwCl (xm_w (xu E a) M) H → va_S (xm_A (xu E a) s.heap.size) s.heap H locs → lv_has ls 3 [(0, .ref (a 0)), (1, .int x1)] → W p l e { frames := 2, cells := 0, slots := 0, locals := 44 } s m args below meth c H locs 0 0 (MQ below (xm_Q E (xu E a) M' s.heap.size none) args s 0 0 (xm_A (xu E a) s.heap.size)) (F0 m 0 ls []) := by
  have C9 := C
  obtain ⟨hx, hb, hml, hown, hts, hr, hlk, hD, hK, hS9⟩ := C9
  intro h H locs ls hP hS hl
  unfold f_X7_isMatch at h
  refine lv_aload_n hx hb dX7_isMatch_0 rfl (lv_at hl 0 rfl) ?_
  refine xm_get (V := (xu E a)) (T := TX7) (v := .int (M 0 10)) C hP 0 10 xi_7 rfl l_X7_76 rfl (Nat.le_of_ble_eq_true rfl) ((xf_0 E a) _) (Nat.le_of_ble_eq_true rfl) rfl dX7_isMatch_1 ?_
  refine lv_aload_n hx hb dX7_isMatch_4 rfl (lv_at hl 0 rfl) ?_
  refine xm_get (V := (xu E a)) (T := TX7) (v := .int (M 0 14)) C hP 0 14 xi_7 rfl l_X7_79 rfl (Nat.le_of_ble_eq_true rfl) ((xf_0 E a) _) (Nat.le_of_ble_eq_true rfl) rfl dX7_isMatch_5 ?_
  refine lv_icmp_ne (tgt := 41) hx hb dX7_isMatch_8 (by decide) (fun c1 => ?_) (fun c1 => ?_)
  · rw [if_neg c1] at h
    refine lv_iconst (v := 0) hx hb dX7_isMatch_41 (by decide) ?_
    refine lv_istore_n (lv' := [(2, .int 0), (0, .ref (a 0)), (1, .int x1)]) hx hb dX7_isMatch_42 rfl hl (by decide) rfl (fun ls hl => ?_)
    exact t_X7_isMatch_43 C  n M x1 0 M' h _ _ _ hP hS (lv_sub hl [1, 2, 0] rfl)
  · rw [if_pos c1] at h
    refine lv_iconst (v := 0) hx hb dX7_isMatch_11 (by decide) ?_
    refine lv_istore_n (lv' := [(2, .int 0), (0, .ref (a 0)), (1, .int x1)]) hx hb dX7_isMatch_12 rfl hl (by decide) rfl (fun ls hl => ?_)
    exact t_X7_isMatch_13 C  n M x1 0 M' h _ _ _ hP hS (lv_sub hl [1, 2, 0] rfl)
theorem c_X7_isMatch {l : Launch} {E : xm_E} {a : Nat → Nat} (hD : xm_D (xu E a)) (n : Nat) (M : xm_M) (x1 : Int32) (M' : xm_M) (h : f_X7_isMatch n M x1 = some M') : xm_Met l E (xu E a) yX7_isMatch cX7_isMatch 3 none 2 44 [.ref (a 0), .int x1] M M' none :=
  xm_met (by decide +kernel) rfl (Nat.le_of_ble_eq_true rfl) hD (fun p e s m below meth c C hP ls hl => t_X7_isMatch_0 C  n M x1 M' h _ _ _ hP va_S.rf hl)
def f_X7_finds_39 : Nat → xm_M → Int32 → Int32 → Int32 → Option xm_M
  | 0, _, _, _, _ => none
  | n + 1, M, x1, x2, x3 => if x3 < 0 then some M else xm_ck (xm_in x3 4) (xm_ck (xm_in x3 4) (xm_lt (xm_up M 8 x3.toNatClampNeg ((M 8 x3.toNatClampNeg) + 1)) (fun M4 => xm_ck (xm_in x3 4) (xm_ck (xm_in 0 119) (if (M4 8 x3.toNatClampNeg) < (M4 1 (0 : Int32).toNatClampNeg) then xm_b2 (f_X7_fits n M4 x1 x3) (fun r10 M9 => if r10 = 0 then f_X7_finds_39 n M9 x1 x2 x3 else if x3 = (x2 - 1) then xm_b1 (f_X7_isMatch n M9 x2) (fun M34 => f_X7_finds_39 n M34 x1 x2 x3) else xm_b2 (f_X7_chosen n M9 0 2) (fun r15 M14 => xm_b2 (f_X7_ofPattern n M14 x1 0) (fun r18 M17 => xm_ck (xm_in 1 119) (if (r15 + r18) < (M17 1 (1 : Int32).toNatClampNeg) then xm_lt (xm_up M17 0 12 ((M9 0 12) + 0)) (fun M22 => xm_ck (xm_in x3 4) (xm_ck (xm_in (x3 + 1) 4) (xm_lt (xm_up M22 8 (x3 + 1).toNatClampNeg (M22 8 x3.toNatClampNeg)) (fun M26 => f_X7_finds_39 n M26 x1 x2 (x3 + 1))))) else xm_lt (xm_up M17 0 12 ((M9 0 12) + 1)) (fun M28 => xm_ck (xm_in x3 4) (xm_ck (xm_in (x3 + 1) 4) (xm_lt (xm_up M28 8 (x3 + 1).toNatClampNeg (M28 8 x3.toNatClampNeg)) (fun M32 => f_X7_finds_39 n M32 x1 x2 (x3 + 1))))))))) else f_X7_finds_39 n M4 x1 x2 (x3 + (-1)))))))
set_option maxHeartbeats 4000000 in
set_option maxRecDepth 100000 in
theorem t_X7_finds_39 {l : Launch} {p : Program} {e : Env} {s : State} {m : MethodId} {args : Array Value} {below : List Frame} {meth : Method} {c : Code} {E : xm_E} {a : Nat → Nat} (C : xm_C E (xu E a) p s m args meth c RX7 cX7_finds 4 none) : ∀ (n : Nat) (M : xm_M) (x1 : Int32) (x2 : Int32) (x3 : Int32) (M' : xm_M), f_X7_finds_39 n M x1 x2 x3 = some M' → ∀ (H : Heap) (locs : List Loc) (ls : Array Slot), va_P E.1 vwCl (xm_w (xu E a) M) H → va_S (xm_A (xu E a) s.heap.size) s.heap H locs → lv_has ls 4 [(0, .ref (a 0)), (1, .int x1), (2, .int x2), (3, .int x3)] → W p l e { frames := 3, cells := 0, slots := 0, locals := 70 } s m args below meth c H locs 0 0 (MQ below (xm_Q E (xu E a) M' s.heap.size none) args s 0 0 (xm_A (xu E a) s.heap.size)) (F0 m 39 ls []) := by
  have C9 := C
  obtain ⟨hx, hb, hml, hown, hts, hr, hlk, hD, hK, hS9⟩ := C9
  intro n
  induction n with
  | zero =>
    intro M x1 x2 x3 M' h
    cases h
  | succ n ih =>
    intro M x1 x2 x3 M' h H locs ls hP hS hl
    rw [f_X7_finds_39] at h
    refine lv_iload_n hx hb dX7_finds_39 rfl (lv_at hl 3 rfl) ?_
    refine lv_if_lt (tgt := 154) hx hb dX7_finds_40 (by decide) (fun c1 => ?_) (fun c1 => ?_)
    · rw [if_pos c1] at h
      cases xm_on h
      exact xm_retV C hP hS dX7_finds_154
    · rw [if_neg c1] at h
      refine lv_aload_n hx hb dX7_finds_43 rfl (lv_at hl 0 rfl) ?_
      refine xm_get (V := (xu E a)) (T := TX7) (v := .ref (a 8)) C hP 0 9 xi_7 rfl l_X7_31 rfl (Nat.le_of_ble_eq_true rfl) ((xf_0 E a) _) (Nat.le_of_ble_eq_true rfl) rfl dX7_finds_44 ?_
      refine lv_iload_n hx hb dX7_finds_47 rfl (lv_at hl 3 rfl) ?_
      refine lv_dup2_11 hx hb dX7_finds_48 rfl rfl ?_
      obtain ⟨b2, h⟩ := xm_ck_s h
      refine xm_iald (V := (xu E a)) C hP 8 4 (Nat.le_of_ble_eq_true rfl) (xf_8 E a) b2 dX7_finds_49 ?_
      refine lv_iconst (v := 1) hx hb dX7_finds_50 (by decide) ?_
      refine lv_iadd hx hb dX7_finds_51 ?_
      obtain ⟨b3, h⟩ := xm_ck_s h
      obtain ⟨M4, e5, h⟩ := xm_lt_s h
      refine xm_iast (V := (xu E a)) C hP hS 8 4 (Nat.le_of_ble_eq_true rfl) (xf_8 E a) b3 dX7_finds_52 (fun H locs hP hS => ?_)
      rw [← e5] at hP
      refine lv_aload_n hx hb dX7_finds_53 rfl (lv_at hl 0 rfl) ?_
      refine xm_get (V := (xu E a)) (T := TX7) (v := .ref (a 8)) C hP 0 9 xi_7 rfl l_X7_31 rfl (Nat.le_of_ble_eq_true rfl) ((xf_0 E a) _) (Nat.le_of_ble_eq_true rfl) rfl dX7_finds_54 ?_
      refine lv_iload_n hx hb dX7_finds_57 rfl (lv_at hl 3 rfl) ?_
      obtain ⟨b6, h⟩ := xm_ck_s h
      refine xm_iald (V := (xu E a)) C hP 8 4 (Nat.le_of_ble_eq_true rfl) (xf_8 E a) b6 dX7_finds_58 ?_
      refine lv_aload_n hx hb dX7_finds_59 rfl (lv_at hl 0 rfl) ?_
      refine xm_get (V := (xu E a)) (T := TX7) (v := .ref (a 1)) C hP 0 0 xi_7 rfl l_X7_7 rfl (Nat.le_of_ble_eq_true rfl) ((xf_0 E a) _) (Nat.le_of_ble_eq_true rfl) rfl dX7_finds_60 ?_
      refine lv_iconst (v := 0) hx hb dX7_finds_63 (by decide) ?_
      obtain ⟨b7, h⟩ := xm_ck_s h
      refine xm_iald (V := (xu E a)) C hP 1 119 (Nat.le_of_ble_eq_true rfl) (xf_1 E a) b7 dX7_finds_64 ?_
      refine lv_icmp_lt (tgt := 74) hx hb dX7_finds_65 (by decide) (fun c8 => ?_) (fun c8 => ?_)
      · rw [if_pos c8] at h
        refine lv_aload_n hx hb dX7_finds_74 rfl (lv_at hl 0 rfl) ?_
        refine lv_iload_n hx hb dX7_finds_75 rfl (lv_at hl 1 rfl) ?_
        refine lv_iload_n hx hb dX7_finds_76 rfl (lv_at hl 3 rfl) ?_
        obtain ⟨r10, M9, e11, h⟩ := xm_b2_s h
        refine xm_callV C hP hS [.int x1, .int x3] [] (c_X7_fits hD  n M4 x1 x3 r10 M9 e11) k_X7_103 (xm_recv C hP 0 rfl (Nat.le_of_ble_eq_true rfl) ((xf_0 E a) _)) rfl rfl ⟨(Nat.le_of_ble_eq_true rfl), (Nat.le_of_ble_eq_true rfl)⟩ hl.1 (Nat.le_of_ble_eq_true rfl) ⟨Nat.zero_le _, Nat.zero_le _⟩ dX7_finds_77 (fun H locs hP hS => ?_)
        change W p l e _ s m _ below meth c H locs 0 0 _ (F0 m 80 ls [.int r10])
        refine lv_if_eq (tgt := 39) hx hb dX7_finds_80 (by decide) (fun c12 => ?_) (fun c12 => ?_)
        · rw [if_pos c12] at h
          exact ih M9 x1 x2 x3 M' h _ _ _ hP hS (lv_sub hl [0, 1, 2, 3] rfl)
        · rw [if_neg c12] at h
          refine lv_iload_n hx hb dX7_finds_83 rfl (lv_at hl 3 rfl) ?_
          refine lv_iload_n hx hb dX7_finds_84 rfl (lv_at hl 2 rfl) ?_
          refine lv_iconst (v := 1) hx hb dX7_finds_85 (by decide) ?_
          refine lv_isub hx hb dX7_finds_86 ?_
          refine lv_icmp_ne (tgt := 98) hx hb dX7_finds_87 (by decide) (fun c13 => ?_) (fun c13 => ?_)
          · rw [if_neg c13] at h
            refine lv_aload_n hx hb dX7_finds_98 rfl (lv_at hl 0 rfl) ?_
            refine lv_dup hx hb dX7_finds_99 rfl ?_
            refine xm_get (V := (xu E a)) (T := TX7) (v := .int (M9 0 12)) C hP 0 12 xi_7 rfl l_X7_93 rfl (Nat.le_of_ble_eq_true rfl) ((xf_0 E a) _) (Nat.le_of_ble_eq_true rfl) rfl dX7_finds_100 ?_
            refine lv_aload_n hx hb dX7_finds_103 rfl (lv_at hl 0 rfl) ?_
            refine lv_iconst (v := 0) hx hb dX7_finds_104 (by decide) ?_
            refine lv_iconst (v := 2) hx hb dX7_finds_105 (by decide) ?_
            obtain ⟨r15, M14, e16, h⟩ := xm_b2_s h
            refine xm_callV C hP hS [.int 0, .int 2] [.int (M9 0 12), .ref (a 0)] (c_X7_chosen hD  n M9 0 2 r15 M14 e16) k_X7_69 (xm_recv C hP 0 rfl (Nat.le_of_ble_eq_true rfl) ((xf_0 E a) _)) rfl rfl ⟨(Nat.le_of_ble_eq_true rfl), (Nat.le_of_ble_eq_true rfl)⟩ hl.1 (Nat.le_of_ble_eq_true rfl) ⟨Nat.zero_le _, Nat.zero_le _⟩ dX7_finds_106 (fun H locs hP hS => ?_)
            change W p l e _ s m _ below meth c H locs 0 0 _ (F0 m 109 ls [.int r15, .int (M9 0 12), .ref (a 0)])
            refine lv_aload_n hx hb dX7_finds_109 rfl (lv_at hl 0 rfl) ?_
            refine lv_iload_n hx hb dX7_finds_110 rfl (lv_at hl 1 rfl) ?_
            refine lv_iconst (v := 0) hx hb dX7_finds_111 (by decide) ?_
            obtain ⟨r18, M17, e19, h⟩ := xm_b2_s h
            refine xm_callV C hP hS [.int x1, .int 0] [.int r15, .int (M9 0 12), .ref (a 0)] (c_X7_ofPattern hD  n M14 x1 0 r18 M17 e19) k_X7_66 (xm_recv C hP 0 rfl (Nat.le_of_ble_eq_true rfl) ((xf_0 E a) _)) rfl rfl ⟨(Nat.le_of_ble_eq_true rfl), (Nat.le_of_ble_eq_true rfl)⟩ hl.1 (Nat.le_of_ble_eq_true rfl) ⟨Nat.zero_le _, Nat.zero_le _⟩ dX7_finds_112 (fun H locs hP hS => ?_)
            change W p l e _ s m _ below meth c H locs 0 0 _ (F0 m 115 ls [.int r18, .int r15, .int (M9 0 12), .ref (a 0)])
            refine lv_iadd hx hb dX7_finds_115 ?_
            refine lv_aload_n hx hb dX7_finds_116 rfl (lv_at hl 0 rfl) ?_
            refine xm_get (V := (xu E a)) (T := TX7) (v := .ref (a 1)) C hP 0 0 xi_7 rfl l_X7_7 rfl (Nat.le_of_ble_eq_true rfl) ((xf_0 E a) _) (Nat.le_of_ble_eq_true rfl) rfl dX7_finds_117 ?_
            refine lv_iconst (v := 1) hx hb dX7_finds_120 (by decide) ?_
            obtain ⟨b20, h⟩ := xm_ck_s h
            refine xm_iald (V := (xu E a)) C hP 1 119 (Nat.le_of_ble_eq_true rfl) (xf_1 E a) b20 dX7_finds_121 ?_
            refine lv_icmp_lt (tgt := 129) hx hb dX7_finds_122 (by decide) (fun c21 => ?_) (fun c21 => ?_)
            · rw [if_pos c21] at h
              refine lv_iconst (v := 0) hx hb dX7_finds_129 (by decide) ?_
              refine lv_iadd hx hb dX7_finds_130 ?_
              obtain ⟨M22, e23, h⟩ := xm_lt_s h
              refine xm_put (V := (xu E a)) (T := TX7) (ty := .int) (x := (M9 0 12) + 0) C hP hS 0 12 xi_7 rfl l_X7_93 rfl tyX7_ok nmX7 (Nat.le_of_ble_eq_true rfl) ((xf_0 E a) _) (Nat.le_of_ble_eq_true rfl) rfl (by decide +kernel) rfl rfl (Nat.le_of_ble_eq_true rfl) ((xf_0 E a) _) dX7_finds_131 (fun H locs hP hS => ?_)
              rw [← e23] at hP
              refine lv_aload_n hx hb dX7_finds_134 rfl (lv_at hl 0 rfl) ?_
              refine xm_get (V := (xu E a)) (T := TX7) (v := .ref (a 8)) C hP 0 9 xi_7 rfl l_X7_31 rfl (Nat.le_of_ble_eq_true rfl) ((xf_0 E a) _) (Nat.le_of_ble_eq_true rfl) rfl dX7_finds_135 ?_
              refine lv_iload_n hx hb dX7_finds_138 rfl (lv_at hl 3 rfl) ?_
              refine lv_iconst (v := 1) hx hb dX7_finds_139 (by decide) ?_
              refine lv_iadd hx hb dX7_finds_140 ?_
              refine lv_aload_n hx hb dX7_finds_141 rfl (lv_at hl 0 rfl) ?_
              refine xm_get (V := (xu E a)) (T := TX7) (v := .ref (a 8)) C hP 0 9 xi_7 rfl l_X7_31 rfl (Nat.le_of_ble_eq_true rfl) ((xf_0 E a) _) (Nat.le_of_ble_eq_true rfl) rfl dX7_finds_142 ?_
              refine lv_iload_n hx hb dX7_finds_145 rfl (lv_at hl 3 rfl) ?_
              obtain ⟨b24, h⟩ := xm_ck_s h
              refine xm_iald (V := (xu E a)) C hP 8 4 (Nat.le_of_ble_eq_true rfl) (xf_8 E a) b24 dX7_finds_146 ?_
              obtain ⟨b25, h⟩ := xm_ck_s h
              obtain ⟨M26, e27, h⟩ := xm_lt_s h
              refine xm_iast (V := (xu E a)) C hP hS 8 4 (Nat.le_of_ble_eq_true rfl) (xf_8 E a) b25 dX7_finds_147 (fun H locs hP hS => ?_)
              rw [← e27] at hP
              refine lv_iinc (v := x3 + 1) (lv' := [(3, .int (x3 + 1)), (0, .ref (a 0)), (1, .int x1), (2, .int x2)]) hx hb dX7_finds_148 hl (k := 3) rfl (xm_add (by decide)) (by decide) rfl (fun ls hl => ?_)
              refine lv_goto (tgt := 39) hx hb dX7_finds_151 (by decide) ?_
              exact ih M26 x1 x2 (x3 + 1) M' h _ _ _ hP hS (lv_sub hl [1, 2, 3, 0] rfl)
            · rw [if_neg c21] at h
              refine lv_iconst (v := 1) hx hb dX7_finds_125 (by decide) ?_
              refine lv_goto (tgt := 130) hx hb dX7_finds_126 (by decide) ?_
              refine lv_iadd hx hb dX7_finds_130 ?_
              obtain ⟨M28, e29, h⟩ := xm_lt_s h
              refine xm_put (V := (xu E a)) (T := TX7) (ty := .int) (x := (M9 0 12) + 1) C hP hS 0 12 xi_7 rfl l_X7_93 rfl tyX7_ok nmX7 (Nat.le_of_ble_eq_true rfl) ((xf_0 E a) _) (Nat.le_of_ble_eq_true rfl) rfl (by decide +kernel) rfl rfl (Nat.le_of_ble_eq_true rfl) ((xf_0 E a) _) dX7_finds_131 (fun H locs hP hS => ?_)
              rw [← e29] at hP
              refine lv_aload_n hx hb dX7_finds_134 rfl (lv_at hl 0 rfl) ?_
              refine xm_get (V := (xu E a)) (T := TX7) (v := .ref (a 8)) C hP 0 9 xi_7 rfl l_X7_31 rfl (Nat.le_of_ble_eq_true rfl) ((xf_0 E a) _) (Nat.le_of_ble_eq_true rfl) rfl dX7_finds_135 ?_
              refine lv_iload_n hx hb dX7_finds_138 rfl (lv_at hl 3 rfl) ?_
              refine lv_iconst (v := 1) hx hb dX7_finds_139 (by decide) ?_
              refine lv_iadd hx hb dX7_finds_140 ?_
              refine lv_aload_n hx hb dX7_finds_141 rfl (lv_at hl 0 rfl) ?_
              refine xm_get (V := (xu E a)) (T := TX7) (v := .ref (a 8)) C hP 0 9 xi_7 rfl l_X7_31 rfl (Nat.le_of_ble_eq_true rfl) ((xf_0 E a) _) (Nat.le_of_ble_eq_true rfl) rfl dX7_finds_142 ?_
              refine lv_iload_n hx hb dX7_finds_145 rfl (lv_at hl 3 rfl) ?_
              obtain ⟨b30, h⟩ := xm_ck_s h
              refine xm_iald (V := (xu E a)) C hP 8 4 (Nat.le_of_ble_eq_true rfl) (xf_8 E a) b30 dX7_finds_146 ?_
              obtain ⟨b31, h⟩ := xm_ck_s h
              obtain ⟨M32, e33, h⟩ := xm_lt_s h
              refine xm_iast (V := (xu E a)) C hP hS 8 4 (Nat.le_of_ble_eq_true rfl) (xf_8 E a) b31 dX7_finds_147 (fun H locs hP hS => ?_)
              rw [← e33] at hP
              refine lv_iinc (v := x3 + 1) (lv' := [(3, .int (x3 + 1)), (0, .ref (a 0)), (1, .int x1), (2, .int x2)]) hx hb dX7_finds_148 hl (k := 3) rfl (xm_add (by decide)) (by decide) rfl (fun ls hl => ?_)
              refine lv_goto (tgt := 39) hx hb dX7_finds_151 (by decide) ?_
              exact ih M32 x1 x2 (x3 + 1) M' h _ _ _ hP hS (lv_sub hl [1, 2, 3, 0] rfl)
          · rw [if_pos c13] at h
            refine lv_aload_n hx hb dX7_finds_90 rfl (lv_at hl 0 rfl) ?_
            refine lv_iload_n hx hb dX7_finds_91 rfl (lv_at hl 2 rfl) ?_
            obtain ⟨M34, e36, h⟩ := xm_b1_s h
            refine xm_callV C hP hS [.int x2] [] (c_X7_isMatch hD  n M9 x2 M34 e36) k_X7_106 (xm_recv C hP 0 rfl (Nat.le_of_ble_eq_true rfl) ((xf_0 E a) _)) rfl rfl ⟨(Nat.le_of_ble_eq_true rfl), (Nat.le_of_ble_eq_true rfl)⟩ hl.1 (Nat.le_of_ble_eq_true rfl) ⟨Nat.zero_le _, Nat.zero_le _⟩ dX7_finds_92 (fun H locs hP hS => ?_)
            change W p l e _ s m _ below meth c H locs 0 0 _ (F0 m 95 ls [])
            refine lv_goto (tgt := 39) hx hb dX7_finds_95 (by decide) ?_
            exact ih M34 x1 x2 x3 M' h _ _ _ hP hS (lv_sub hl [0, 1, 2, 3] rfl)
      · rw [if_neg c8] at h
        refine lv_iinc (v := x3 + (-1)) (lv' := [(3, .int (x3 + (-1))), (0, .ref (a 0)), (1, .int x1), (2, .int x2)]) hx hb dX7_finds_68 hl (k := 3) rfl (xm_add (by decide)) (by decide) rfl (fun ls hl => ?_)
        refine lv_goto (tgt := 39) hx hb dX7_finds_71 (by decide) ?_
        exact ih M4 x1 x2 (x3 + (-1)) M' h _ _ _ hP hS (lv_sub hl [1, 2, 3, 0] rfl)
def f_X7_finds (n : Nat) (M : xm_M) (x1 : Int32) : Option xm_M := xm_b2 (f_X7_plainSteps n M x1) (fun r2 M1 => xm_lt (xm_up M1 0 10 0) (fun M4 => xm_lt (xm_up M4 0 11 0) (fun M6 => xm_lt (xm_up M6 0 12 0) (fun M8 => xm_b1 (f_X7_findsOrder n M8) (fun M10 => xm_b1 (f_X7_takesSteps n M10 x1) (fun M13 => xm_ck (xm_in 0 4) (xm_lt (xm_up M13 8 (0 : Int32).toNatClampNeg ((-1))) (fun M17 => f_X7_finds_39 n M17 x1 r2 0))))))))
set_option maxHeartbeats 4000000 in
set_option maxRecDepth 100000 in
theorem t_X7_finds_0 {l : Launch} {p : Program} {e : Env} {s : State} {m : MethodId} {args : Array Value} {below : List Frame} {meth : Method} {c : Code} {E : xm_E} {a : Nat → Nat} (C : xm_C E (xu E a) p s m args meth c RX7 cX7_finds 4 none) (n : Nat) (M : xm_M) (x1 : Int32) (M' : xm_M) : f_X7_finds n M x1 = some M' → ∀ (H : Heap) (locs : List Loc) (ls : Array Slot), va_P E.1 vwCl (xm_w (xu E a) M) H → va_S (xm_A (xu E a) s.heap.size) s.heap H locs → lv_has ls 4 [(0, .ref (a 0)), (1, .int x1)] → W p l e { frames := 3, cells := 0, slots := 0, locals := 70 } s m args below meth c H locs 0 0 (MQ below (xm_Q E (xu E a) M' s.heap.size none) args s 0 0 (xm_A (xu E a) s.heap.size)) (F0 m 0 ls []) := by
  have C9 := C
  obtain ⟨hx, hb, hml, hown, hts, hr, hlk, hD, hK, hS9⟩ := C9
  intro h H locs ls hP hS hl
  unfold f_X7_finds at h
  refine lv_aload_n hx hb dX7_finds_0 rfl (lv_at hl 0 rfl) ?_
  refine lv_iload_n hx hb dX7_finds_1 rfl (lv_at hl 1 rfl) ?_
  obtain ⟨r2, M1, e3, h⟩ := xm_b2_s h
  refine xm_callV C hP hS [.int x1] [] (c_X7_plainSteps hD  n M x1 r2 M1 e3) k_X7_89 (xm_recv C hP 0 rfl (Nat.le_of_ble_eq_true rfl) ((xf_0 E a) _)) rfl rfl ⟨(Nat.le_of_ble_eq_true rfl), (Nat.le_of_ble_eq_true rfl)⟩ hl.1 (Nat.le_of_ble_eq_true rfl) ⟨Nat.zero_le _, Nat.zero_le _⟩ dX7_finds_2 (fun H locs hP hS => ?_)
  change W p l e _ s m _ below meth c H locs 0 0 _ (F0 m 5 ls [.int r2])
  refine lv_istore_n (lv' := [(2, .int r2), (0, .ref (a 0)), (1, .int x1)]) hx hb dX7_finds_5 rfl hl (by decide) rfl (fun ls hl => ?_)
  refine lv_iconst (v := 0) hx hb dX7_finds_6 (by decide) ?_
  refine lv_istore_n (lv' := [(3, .int 0), (2, .int r2), (0, .ref (a 0)), (1, .int x1)]) hx hb dX7_finds_7 rfl hl (by decide) rfl (fun ls hl => ?_)
  refine lv_aload_n hx hb dX7_finds_8 rfl (lv_at hl 2 rfl) ?_
  refine lv_iconst (v := 0) hx hb dX7_finds_9 (by decide) ?_
  obtain ⟨M4, e5, h⟩ := xm_lt_s h
  refine xm_put (V := (xu E a)) (T := TX7) (ty := .int) (x := 0) C hP hS 0 10 xi_7 rfl l_X7_76 rfl tyX7_ok nmX7 (Nat.le_of_ble_eq_true rfl) ((xf_0 E a) _) (Nat.le_of_ble_eq_true rfl) rfl (by decide +kernel) rfl rfl (Nat.le_of_ble_eq_true rfl) ((xf_0 E a) _) dX7_finds_10 (fun H locs hP hS => ?_)
  rw [← e5] at hP
  refine lv_aload_n hx hb dX7_finds_13 rfl (lv_at hl 2 rfl) ?_
  refine lv_iconst (v := 0) hx hb dX7_finds_14 (by decide) ?_
  obtain ⟨M6, e7, h⟩ := xm_lt_s h
  refine xm_put (V := (xu E a)) (T := TX7) (ty := .int) (x := 0) C hP hS 0 11 xi_7 rfl l_X7_82 rfl tyX7_ok nmX7 (Nat.le_of_ble_eq_true rfl) ((xf_0 E a) _) (Nat.le_of_ble_eq_true rfl) rfl (by decide +kernel) rfl rfl (Nat.le_of_ble_eq_true rfl) ((xf_0 E a) _) dX7_finds_15 (fun H locs hP hS => ?_)
  rw [← e7] at hP
  refine lv_aload_n hx hb dX7_finds_18 rfl (lv_at hl 2 rfl) ?_
  refine lv_iconst (v := 0) hx hb dX7_finds_19 (by decide) ?_
  obtain ⟨M8, e9, h⟩ := xm_lt_s h
  refine xm_put (V := (xu E a)) (T := TX7) (ty := .int) (x := 0) C hP hS 0 12 xi_7 rfl l_X7_93 rfl tyX7_ok nmX7 (Nat.le_of_ble_eq_true rfl) ((xf_0 E a) _) (Nat.le_of_ble_eq_true rfl) rfl (by decide +kernel) rfl rfl (Nat.le_of_ble_eq_true rfl) ((xf_0 E a) _) dX7_finds_20 (fun H locs hP hS => ?_)
  rw [← e9] at hP
  refine lv_aload_n hx hb dX7_finds_23 rfl (lv_at hl 2 rfl) ?_
  obtain ⟨M10, e12, h⟩ := xm_b1_s h
  refine xm_callV C hP hS [] [] (c_X7_findsOrder hD  n M8  M10 e12) k_X7_96 (xm_recv C hP 0 rfl (Nat.le_of_ble_eq_true rfl) ((xf_0 E a) _)) rfl rfl ⟨(Nat.le_of_ble_eq_true rfl), (Nat.le_of_ble_eq_true rfl)⟩ hl.1 (Nat.le_of_ble_eq_true rfl) ⟨Nat.zero_le _, Nat.zero_le _⟩ dX7_finds_24 (fun H locs hP hS => ?_)
  change W p l e _ s m _ below meth c H locs 0 0 _ (F0 m 27 ls [])
  refine lv_aload_n hx hb dX7_finds_27 rfl (lv_at hl 2 rfl) ?_
  refine lv_iload_n hx hb dX7_finds_28 rfl (lv_at hl 3 rfl) ?_
  obtain ⟨M13, e15, h⟩ := xm_b1_s h
  refine xm_callV C hP hS [.int x1] [] (c_X7_takesSteps hD  n M10 x1 M13 e15) k_X7_99 (xm_recv C hP 0 rfl (Nat.le_of_ble_eq_true rfl) ((xf_0 E a) _)) rfl rfl ⟨(Nat.le_of_ble_eq_true rfl), (Nat.le_of_ble_eq_true rfl)⟩ hl.1 (Nat.le_of_ble_eq_true rfl) ⟨Nat.zero_le _, Nat.zero_le _⟩ dX7_finds_29 (fun H locs hP hS => ?_)
  change W p l e _ s m _ below meth c H locs 0 0 _ (F0 m 32 ls [])
  refine lv_aload_n hx hb dX7_finds_32 rfl (lv_at hl 2 rfl) ?_
  refine xm_get (V := (xu E a)) (T := TX7) (v := .ref (a 8)) C hP 0 9 xi_7 rfl l_X7_31 rfl (Nat.le_of_ble_eq_true rfl) ((xf_0 E a) _) (Nat.le_of_ble_eq_true rfl) rfl dX7_finds_33 ?_
  refine lv_iconst (v := 0) hx hb dX7_finds_36 (by decide) ?_
  refine lv_iconst (v := (-1)) hx hb dX7_finds_37 (by decide) ?_
  obtain ⟨b16, h⟩ := xm_ck_s h
  obtain ⟨M17, e18, h⟩ := xm_lt_s h
  refine xm_iast (V := (xu E a)) C hP hS 8 4 (Nat.le_of_ble_eq_true rfl) (xf_8 E a) b16 dX7_finds_38 (fun H locs hP hS => ?_)
  rw [← e18] at hP
  exact t_X7_finds_39 C  n M17 x1 r2 0 M' h _ _ _ hP hS (lv_sub hl [2, 3, 1, 0] rfl)
theorem c_X7_finds {l : Launch} {E : xm_E} {a : Nat → Nat} (hD : xm_D (xu E a)) (n : Nat) (M : xm_M) (x1 : Int32) (M' : xm_M) (h : f_X7_finds n M x1 = some M') : xm_Met l E (xu E a) yX7_finds cX7_finds 4 none 3 70 [.ref (a 0), .int x1] M M' none :=
  xm_met (by decide +kernel) rfl (Nat.le_of_ble_eq_true rfl) hD (fun p e s m below meth c C hP ls hl => t_X7_finds_0 C  n M x1 M' h _ _ _ hP va_S.rf hl)
def f_X7_allMatches_35 : Nat → xm_M → Int32 → Int32 → Option (Int32 × xm_M)
  | 0, _, _, _ => none
  | n + 1, M, x1, x2 => xm_ck (xm_in 3 119) (if (M 1 (3 : Int32).toNatClampNeg) ≤ x2 then some (x1, M) else xm_b1 (f_X7_finds n M x2) (fun M3 => f_X7_allMatches_35 n M3 (x1 + (M3 0 10)) (x2 + 1)))
set_option maxHeartbeats 4000000 in
set_option maxRecDepth 100000 in
theorem t_X7_allMatches_35 {l : Launch} {p : Program} {e : Env} {s : State} {m : MethodId} {args : Array Value} {below : List Frame} {meth : Method} {c : Code} {E : xm_E} {a : Nat → Nat} (C : xm_C E (xu E a) p s m args meth c RX7 cX7_allMatches 3 (some .int)) : ∀ (n : Nat) (M : xm_M) (x1 : Int32) (x2 : Int32) (r : Int32) (M' : xm_M), f_X7_allMatches_35 n M x1 x2 = some (r, M') → ∀ (H : Heap) (locs : List Loc) (ls : Array Slot), va_P E.1 vwCl (xm_w (xu E a) M) H → va_S (xm_A (xu E a) s.heap.size) s.heap H locs → lv_has ls 3 [(0, .ref (a 0)), (1, .int x1), (2, .int x2)] → W p l e { frames := 4, cells := 0, slots := 0, locals := 93 } s m args below meth c H locs 0 0 (MQ below (xm_Q E (xu E a) M' s.heap.size (some r)) args s 0 0 (xm_A (xu E a) s.heap.size)) (F0 m 35 ls []) := by
  have C9 := C
  obtain ⟨hx, hb, hml, hown, hts, hr, hlk, hD, hK, hS9⟩ := C9
  intro n
  induction n with
  | zero =>
    intro M x1 x2 r M' h
    cases h
  | succ n ih =>
    intro M x1 x2 r M' h H locs ls hP hS hl
    rw [f_X7_allMatches_35] at h
    refine lv_iload_n hx hb dX7_allMatches_35 rfl (lv_at hl 2 rfl) ?_
    refine lv_aload_n hx hb dX7_allMatches_36 rfl (lv_at hl 0 rfl) ?_
    refine xm_get (V := (xu E a)) (T := TX7) (v := .ref (a 1)) C hP 0 0 xi_7 rfl l_X7_7 rfl (Nat.le_of_ble_eq_true rfl) ((xf_0 E a) _) (Nat.le_of_ble_eq_true rfl) rfl dX7_allMatches_37 ?_
    refine lv_iconst (v := 3) hx hb dX7_allMatches_40 (by decide) ?_
    obtain ⟨b1, h⟩ := xm_ck_s h
    refine xm_iald (V := (xu E a)) C hP 1 119 (Nat.le_of_ble_eq_true rfl) (xf_1 E a) b1 dX7_allMatches_41 ?_
    refine lv_icmp_ge (tgt := 63) hx hb dX7_allMatches_42 (by decide) (fun c2 => ?_) (fun c2 => ?_)
    · rw [if_pos c2] at h
      refine lv_iload_n hx hb dX7_allMatches_63 rfl (lv_at hl 1 rfl) ?_
      obtain ⟨rfl, rfl⟩ := xm_pr h
      exact xm_retI C hP hS dX7_allMatches_64
    · rw [if_neg c2] at h
      refine lv_aload_n hx hb dX7_allMatches_45 rfl (lv_at hl 0 rfl) ?_
      refine lv_iload_n hx hb dX7_allMatches_46 rfl (lv_at hl 2 rfl) ?_
      obtain ⟨M3, e5, h⟩ := xm_b1_s h
      refine xm_callV C hP hS [.int x2] [] (c_X7_finds hD  n M x2 M3 e5) k_X7_109 (xm_recv C hP 0 rfl (Nat.le_of_ble_eq_true rfl) ((xf_0 E a) _)) rfl rfl ⟨(Nat.le_of_ble_eq_true rfl), (Nat.le_of_ble_eq_true rfl)⟩ hl.1 (Nat.le_of_ble_eq_true rfl) ⟨Nat.zero_le _, Nat.zero_le _⟩ dX7_allMatches_47 (fun H locs hP hS => ?_)
      change W p l e _ s m _ below meth c H locs 0 0 _ (F0 m 50 ls [])
      refine lv_iload_n hx hb dX7_allMatches_50 rfl (lv_at hl 1 rfl) ?_
      refine lv_aload_n hx hb dX7_allMatches_51 rfl (lv_at hl 0 rfl) ?_
      refine xm_get (V := (xu E a)) (T := TX7) (v := .int (M3 0 10)) C hP 0 10 xi_7 rfl l_X7_76 rfl (Nat.le_of_ble_eq_true rfl) ((xf_0 E a) _) (Nat.le_of_ble_eq_true rfl) rfl dX7_allMatches_52 ?_
      refine lv_iadd hx hb dX7_allMatches_55 ?_
      refine lv_istore_n (lv' := [(1, .int (x1 + (M3 0 10))), (0, .ref (a 0)), (2, .int x2)]) hx hb dX7_allMatches_56 rfl hl (by decide) rfl (fun ls hl => ?_)
      refine lv_iinc (v := x2 + 1) (lv' := [(2, .int (x2 + 1)), (1, .int (x1 + (M3 0 10))), (0, .ref (a 0))]) hx hb dX7_allMatches_57 hl (k := 2) rfl (xm_add (by decide)) (by decide) rfl (fun ls hl => ?_)
      refine lv_goto (tgt := 35) hx hb dX7_allMatches_60 (by decide) ?_
      exact ih M3 (x1 + (M3 0 10)) (x2 + 1) r M' h _ _ _ hP hS (lv_sub hl [2, 1, 0] rfl)
def f_X7_allMatches_10 : Nat → xm_M → Int32 → Int32 → Option (Int32 × xm_M)
  | 0, _, _, _ => none
  | n + 1, M, x1, x2 => xm_ck (xm_in 0 119) (if (M 1 (0 : Int32).toNatClampNeg) ≤ x2 then f_X7_allMatches_35 n M x1 0 else xm_ck (xm_in x2 25) (xm_lt (xm_up M 9 x2.toNatClampNeg 0) (fun M4 => f_X7_allMatches_10 n M4 x1 (x2 + 1))))
set_option maxHeartbeats 4000000 in
set_option maxRecDepth 100000 in
theorem t_X7_allMatches_10 {l : Launch} {p : Program} {e : Env} {s : State} {m : MethodId} {args : Array Value} {below : List Frame} {meth : Method} {c : Code} {E : xm_E} {a : Nat → Nat} (C : xm_C E (xu E a) p s m args meth c RX7 cX7_allMatches 3 (some .int)) : ∀ (n : Nat) (M : xm_M) (x1 : Int32) (x2 : Int32) (r : Int32) (M' : xm_M), f_X7_allMatches_10 n M x1 x2 = some (r, M') → ∀ (H : Heap) (locs : List Loc) (ls : Array Slot), va_P E.1 vwCl (xm_w (xu E a) M) H → va_S (xm_A (xu E a) s.heap.size) s.heap H locs → lv_has ls 3 [(0, .ref (a 0)), (1, .int x1), (2, .int x2)] → W p l e { frames := 4, cells := 0, slots := 0, locals := 93 } s m args below meth c H locs 0 0 (MQ below (xm_Q E (xu E a) M' s.heap.size (some r)) args s 0 0 (xm_A (xu E a) s.heap.size)) (F0 m 10 ls []) := by
  have C9 := C
  obtain ⟨hx, hb, hml, hown, hts, hr, hlk, hD, hK, hS9⟩ := C9
  intro n
  induction n with
  | zero =>
    intro M x1 x2 r M' h
    cases h
  | succ n ih =>
    intro M x1 x2 r M' h H locs ls hP hS hl
    rw [f_X7_allMatches_10] at h
    refine lv_iload_n hx hb dX7_allMatches_10 rfl (lv_at hl 2 rfl) ?_
    refine lv_aload_n hx hb dX7_allMatches_11 rfl (lv_at hl 0 rfl) ?_
    refine xm_get (V := (xu E a)) (T := TX7) (v := .ref (a 1)) C hP 0 0 xi_7 rfl l_X7_7 rfl (Nat.le_of_ble_eq_true rfl) ((xf_0 E a) _) (Nat.le_of_ble_eq_true rfl) rfl dX7_allMatches_12 ?_
    refine lv_iconst (v := 0) hx hb dX7_allMatches_15 (by decide) ?_
    obtain ⟨b1, h⟩ := xm_ck_s h
    refine xm_iald (V := (xu E a)) C hP 1 119 (Nat.le_of_ble_eq_true rfl) (xf_1 E a) b1 dX7_allMatches_16 ?_
    refine lv_icmp_ge (tgt := 33) hx hb dX7_allMatches_17 (by decide) (fun c2 => ?_) (fun c2 => ?_)
    · rw [if_pos c2] at h
      refine lv_iconst (v := 0) hx hb dX7_allMatches_33 (by decide) ?_
      refine lv_istore_n (lv' := [(2, .int 0), (0, .ref (a 0)), (1, .int x1)]) hx hb dX7_allMatches_34 rfl hl (by decide) rfl (fun ls hl => ?_)
      exact t_X7_allMatches_35 C  n M x1 0 r M' h _ _ _ hP hS (lv_sub hl [1, 2, 0] rfl)
    · rw [if_neg c2] at h
      refine lv_aload_n hx hb dX7_allMatches_20 rfl (lv_at hl 0 rfl) ?_
      refine xm_get (V := (xu E a)) (T := TX7) (v := .ref (a 9)) C hP 0 13 xi_7 rfl l_X7_34 rfl (Nat.le_of_ble_eq_true rfl) ((xf_0 E a) _) (Nat.le_of_ble_eq_true rfl) rfl dX7_allMatches_21 ?_
      refine lv_iload_n hx hb dX7_allMatches_24 rfl (lv_at hl 2 rfl) ?_
      refine lv_iconst (v := 0) hx hb dX7_allMatches_25 (by decide) ?_
      obtain ⟨b3, h⟩ := xm_ck_s h
      obtain ⟨M4, e5, h⟩ := xm_lt_s h
      refine xm_iast (V := (xu E a)) C hP hS 9 25 (Nat.le_of_ble_eq_true rfl) (xf_9 E a) b3 dX7_allMatches_26 (fun H locs hP hS => ?_)
      rw [← e5] at hP
      refine lv_iinc (v := x2 + 1) (lv' := [(2, .int (x2 + 1)), (0, .ref (a 0)), (1, .int x1)]) hx hb dX7_allMatches_27 hl (k := 2) rfl (xm_add (by decide)) (by decide) rfl (fun ls hl => ?_)
      refine lv_goto (tgt := 10) hx hb dX7_allMatches_30 (by decide) ?_
      exact ih M4 x1 (x2 + 1) r M' h _ _ _ hP hS (lv_sub hl [1, 2, 0] rfl)
def f_X7_allMatches (n : Nat) (M : xm_M) : Option (Int32 × xm_M) := xm_lt (xm_up M 0 14 ((-5))) (fun M1 => f_X7_allMatches_10 n M1 0 0)
set_option maxHeartbeats 4000000 in
set_option maxRecDepth 100000 in
theorem t_X7_allMatches_0 {l : Launch} {p : Program} {e : Env} {s : State} {m : MethodId} {args : Array Value} {below : List Frame} {meth : Method} {c : Code} {E : xm_E} {a : Nat → Nat} (C : xm_C E (xu E a) p s m args meth c RX7 cX7_allMatches 3 (some .int)) (n : Nat) (M : xm_M) (r : Int32) (M' : xm_M) : f_X7_allMatches n M = some (r, M') → ∀ (H : Heap) (locs : List Loc) (ls : Array Slot), va_P E.1 vwCl (xm_w (xu E a) M) H → va_S (xm_A (xu E a) s.heap.size) s.heap H locs → lv_has ls 3 [(0, .ref (a 0))] → W p l e { frames := 4, cells := 0, slots := 0, locals := 93 } s m args below meth c H locs 0 0 (MQ below (xm_Q E (xu E a) M' s.heap.size (some r)) args s 0 0 (xm_A (xu E a) s.heap.size)) (F0 m 0 ls []) := by
  have C9 := C
  obtain ⟨hx, hb, hml, hown, hts, hr, hlk, hD, hK, hS9⟩ := C9
  intro h H locs ls hP hS hl
  unfold f_X7_allMatches at h
  refine lv_iconst (v := 0) hx hb dX7_allMatches_0 (by decide) ?_
  refine lv_istore_n (lv' := [(1, .int 0), (0, .ref (a 0))]) hx hb dX7_allMatches_1 rfl hl (by decide) rfl (fun ls hl => ?_)
  refine lv_aload_n hx hb dX7_allMatches_2 rfl (lv_at hl 1 rfl) ?_
  refine lv_bipush (v := (-5)) hx hb dX7_allMatches_3 (by decide) ?_
  obtain ⟨M1, e2, h⟩ := xm_lt_s h
  refine xm_put (V := (xu E a)) (T := TX7) (ty := .int) (x := (-5)) C hP hS 0 14 xi_7 rfl l_X7_79 rfl tyX7_ok nmX7 (Nat.le_of_ble_eq_true rfl) ((xf_0 E a) _) (Nat.le_of_ble_eq_true rfl) rfl (by decide +kernel) rfl rfl (Nat.le_of_ble_eq_true rfl) ((xf_0 E a) _) dX7_allMatches_5 (fun H locs hP hS => ?_)
  rw [← e2] at hP
  refine lv_iconst (v := 0) hx hb dX7_allMatches_8 (by decide) ?_
  refine lv_istore_n (lv' := [(2, .int 0), (1, .int 0), (0, .ref (a 0))]) hx hb dX7_allMatches_9 rfl hl (by decide) rfl (fun ls hl => ?_)
  exact t_X7_allMatches_10 C  n M1 0 0 r M' h _ _ _ hP hS (lv_sub hl [2, 1, 0] rfl)
theorem c_X7_allMatches {l : Launch} {E : xm_E} {a : Nat → Nat} (hD : xm_D (xu E a)) (n : Nat) (M : xm_M) (r : Int32) (M' : xm_M) (h : f_X7_allMatches n M = some (r, M')) : xm_Met l E (xu E a) yX7_allMatches cX7_allMatches 3 (some .int) 4 93 [.ref (a 0)] M M' (some r) :=
  xm_met (by decide +kernel) rfl (Nat.le_of_ble_eq_true rfl) hD (fun p e s m below meth c C hP ls hl => t_X7_allMatches_0 C  n M r M' h _ _ _ hP va_S.rf hl)
