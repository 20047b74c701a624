theorem ob_X2_3 : Cond.methodLink RX2 3 objectInit ∈ xm_tb ∧ Cond.instanceMethod objectInit ∈ xm_tb ∧ Cond.code objectInit ⟨#[0xb1]⟩ 1 none ∈ xm_tb := ⟨xm_tb_of (List.mem_of_getElem? (i := 33) (by decide +kernel)) rfl, xm_tb_of (List.mem_of_getElem? (i := 19) (by decide +kernel)) rfl, xm_tb_of (List.mem_of_getElem? (i := 20) (by decide +kernel)) rfl⟩
theorem ac_char : Cond.arrayClass .char ∈ xm_tb := xm_tb_of (List.mem_of_getElem? (i := 68) (by decide +kernel)) rfl
theorem ac_boolean : Cond.arrayClass .boolean ∈ xm_tb := xm_tb_of (List.mem_of_getElem? (i := 70) (by decide +kernel)) rfl
theorem ob_X4_3 : Cond.methodLink RX4 3 objectInit ∈ xm_tb ∧ Cond.instanceMethod objectInit ∈ xm_tb ∧ Cond.code objectInit ⟨#[0xb1]⟩ 1 none ∈ xm_tb := ⟨xm_tb_of (List.mem_of_getElem? (i := 26) (by decide +kernel)) rfl, xm_tb_of (List.mem_of_getElem? (i := 19) (by decide +kernel)) rfl, xm_tb_of (List.mem_of_getElem? (i := 20) (by decide +kernel)) rfl⟩
theorem ac_int : Cond.arrayClass .int ∈ xm_tb := xm_tb_of (List.mem_of_getElem? (i := 69) (by decide +kernel)) rfl
theorem cl_X4_35 : Cond.classLink RX4 35 RX2 ∈ xm_tb := xm_tb_of (List.mem_of_getElem? (i := 27) (by decide +kernel)) rfl
theorem ib_X2 : Cond.instantiable RX2 6 ∈ xm_tb ∧ Cond.initialized RX2 ∈ xm_tb := ⟨xm_tb_of (List.mem_of_getElem? (i := 29) (by decide +kernel)) rfl, xm_tb_of (List.mem_of_getElem? (i := 3) (by decide +kernel)) rfl⟩
theorem ki_X4_41 : xn_FIN RX4 41 yX2_init "WindowMatches" cX2_init 1 := ⟨xm_tb_of (List.mem_of_getElem? (i := 32) (by decide +kernel)) rfl, xm_nest_of (List.mem_of_getElem? (i := 30) (by decide +kernel)) rfl, xm_tb_of (List.mem_of_getElem? (i := 31) (by decide +kernel)) rfl, xm_tb_of (List.mem_of_getElem? (i := 3) (by decide +kernel)) rfl, rfl, ⟨by decide +kernel, by decide +kernel, by decide +kernel⟩⟩
theorem ob_X0_3 : Cond.methodLink RX0 3 objectInit ∈ xm_tb ∧ Cond.instanceMethod objectInit ∈ xm_tb ∧ Cond.code objectInit ⟨#[0xb1]⟩ 1 none ∈ xm_tb := ⟨xm_tb_of (List.mem_of_getElem? (i := 116) (by decide +kernel)) rfl, xm_tb_of (List.mem_of_getElem? (i := 19) (by decide +kernel)) rfl, xm_tb_of (List.mem_of_getElem? (i := 20) (by decide +kernel)) rfl⟩
theorem cl_X0_9 : Cond.classLink RX0 9 RX4 ∈ xm_tb := xm_tb_of (List.mem_of_getElem? (i := 117) (by decide +kernel)) rfl
theorem ib_X4 : Cond.instantiable RX4 8 ∈ xm_tb ∧ Cond.initialized RX4 ∈ xm_tb := ⟨xm_tb_of (List.mem_of_getElem? (i := 22) (by decide +kernel)) rfl, xm_tb_of (List.mem_of_getElem? (i := 2) (by decide +kernel)) rfl⟩
theorem ki_X0_24 : xn_FIN RX0 24 yX4_init "WindowMatches" cX4_init 2 := ⟨xm_tb_of (List.mem_of_getElem? (i := 25) (by decide +kernel)) rfl, xm_nest_of (List.mem_of_getElem? (i := 119) (by decide +kernel)) rfl, xm_tb_of (List.mem_of_getElem? (i := 24) (by decide +kernel)) rfl, xm_tb_of (List.mem_of_getElem? (i := 2) (by decide +kernel)) rfl, rfl, ⟨by decide +kernel, by decide +kernel, by decide +kernel⟩⟩
theorem ob_X5_3 : Cond.methodLink RX5 3 objectInit ∈ xm_tb ∧ Cond.instanceMethod objectInit ∈ xm_tb ∧ Cond.code objectInit ⟨#[0xb1]⟩ 1 none ∈ xm_tb := ⟨xm_tb_of (List.mem_of_getElem? (i := 136) (by decide +kernel)) rfl, xm_tb_of (List.mem_of_getElem? (i := 19) (by decide +kernel)) rfl, xm_tb_of (List.mem_of_getElem? (i := 20) (by decide +kernel)) rfl⟩
theorem ob_X1_3 : Cond.methodLink RX1 3 objectInit ∈ xm_tb ∧ Cond.instanceMethod objectInit ∈ xm_tb ∧ Cond.code objectInit ⟨#[0xb1]⟩ 1 none ∈ xm_tb := ⟨xm_tb_of (List.mem_of_getElem? (i := 161) (by decide +kernel)) rfl, xm_tb_of (List.mem_of_getElem? (i := 19) (by decide +kernel)) rfl, xm_tb_of (List.mem_of_getElem? (i := 20) (by decide +kernel)) rfl⟩
theorem ob_X3_3 : Cond.methodLink RX3 3 objectInit ∈ xm_tb ∧ Cond.instanceMethod objectInit ∈ xm_tb ∧ Cond.code objectInit ⟨#[0xb1]⟩ 1 none ∈ xm_tb := ⟨xm_tb_of (List.mem_of_getElem? (i := 155) (by decide +kernel)) rfl, xm_tb_of (List.mem_of_getElem? (i := 19) (by decide +kernel)) rfl, xm_tb_of (List.mem_of_getElem? (i := 20) (by decide +kernel)) rfl⟩
theorem cl_X3_9 : Cond.classLink RX3 9 RX1 ∈ xm_tb := xm_tb_of (List.mem_of_getElem? (i := 156) (by decide +kernel)) rfl
theorem ib_X1 : Cond.instantiable RX1 5 ∈ xm_tb ∧ Cond.initialized RX1 ∈ xm_tb := ⟨xm_tb_of (List.mem_of_getElem? (i := 157) (by decide +kernel)) rfl, xm_tb_of (List.mem_of_getElem? (i := 7) (by decide +kernel)) rfl⟩
theorem ki_X3_11 : xn_FIN RX3 11 yX1_init "WindowMatches" cX1_init 1 := ⟨xm_tb_of (List.mem_of_getElem? (i := 160) (by decide +kernel)) rfl, xm_nest_of (List.mem_of_getElem? (i := 158) (by decide +kernel)) rfl, xm_tb_of (List.mem_of_getElem? (i := 159) (by decide +kernel)) rfl, xm_tb_of (List.mem_of_getElem? (i := 7) (by decide +kernel)) rfl, rfl, ⟨by decide +kernel, by decide +kernel, by decide +kernel⟩⟩
theorem ob_X6_1 : Cond.methodLink RX6 1 objectInit ∈ xm_tb ∧ Cond.instanceMethod objectInit ∈ xm_tb ∧ Cond.code objectInit ⟨#[0xb1]⟩ 1 none ∈ xm_tb := ⟨xm_tb_of (List.mem_of_getElem? (i := 18) (by decide +kernel)) rfl, xm_tb_of (List.mem_of_getElem? (i := 19) (by decide +kernel)) rfl, xm_tb_of (List.mem_of_getElem? (i := 20) (by decide +kernel)) rfl⟩
theorem cl_X6_7 : Cond.classLink RX6 7 RX4 ∈ xm_tb := xm_tb_of (List.mem_of_getElem? (i := 21) (by decide +kernel)) rfl
theorem ki_X6_9 : xn_FIN RX6 9 yX4_init "WindowMatches" cX4_init 2 := ⟨xm_tb_of (List.mem_of_getElem? (i := 25) (by decide +kernel)) rfl, xm_nest_of (List.mem_of_getElem? (i := 23) (by decide +kernel)) rfl, xm_tb_of (List.mem_of_getElem? (i := 24) (by decide +kernel)) rfl, xm_tb_of (List.mem_of_getElem? (i := 2) (by decide +kernel)) rfl, rfl, ⟨by decide +kernel, by decide +kernel, by decide +kernel⟩⟩
theorem l_X6_16 : Cond.fieldLink RX6 16 "WindowMatches" "snapshot" "LWindowMatches$State;" ∈ xm_tb := xm_tb_of (List.mem_of_getElem? (i := 238) (by decide +kernel)) rfl
theorem l_X6_19 : Cond.fieldLink RX6 19 "WindowMatches" "hasSnapshot" "Z" ∈ xm_tb := xm_tb_of (List.mem_of_getElem? (i := 239) (by decide +kernel)) rfl
theorem cl_X6_23 : Cond.classLink RX6 23 RX0 ∈ xm_tb := xm_tb_of (List.mem_of_getElem? (i := 111) (by decide +kernel)) rfl
theorem ib_X0 : Cond.instantiable RX0 3 ∈ xm_tb ∧ Cond.initialized RX0 ∈ xm_tb := ⟨xm_tb_of (List.mem_of_getElem? (i := 112) (by decide +kernel)) rfl, xm_tb_of (List.mem_of_getElem? (i := 4) (by decide +kernel)) rfl⟩
theorem ki_X6_25 : xn_FIN RX6 25 yX0_init "WindowMatches" cX0_init 2 := ⟨xm_tb_of (List.mem_of_getElem? (i := 115) (by decide +kernel)) rfl, xm_nest_of (List.mem_of_getElem? (i := 113) (by decide +kernel)) rfl, xm_tb_of (List.mem_of_getElem? (i := 114) (by decide +kernel)) rfl, xm_tb_of (List.mem_of_getElem? (i := 4) (by decide +kernel)) rfl, rfl, ⟨by decide +kernel, by decide +kernel, by decide +kernel⟩⟩
theorem cl_X6_30 : Cond.classLink RX6 30 RX5 ∈ xm_tb := xm_tb_of (List.mem_of_getElem? (i := 131) (by decide +kernel)) rfl
theorem ib_X5 : Cond.instantiable RX5 3 ∈ xm_tb ∧ Cond.initialized RX5 ∈ xm_tb := ⟨xm_tb_of (List.mem_of_getElem? (i := 132) (by decide +kernel)) rfl, xm_tb_of (List.mem_of_getElem? (i := 5) (by decide +kernel)) rfl⟩
theorem ki_X6_32 : xn_FIN RX6 32 yX5_init "WindowMatches" cX5_init 1 := ⟨xm_tb_of (List.mem_of_getElem? (i := 135) (by decide +kernel)) rfl, xm_nest_of (List.mem_of_getElem? (i := 133) (by decide +kernel)) rfl, xm_tb_of (List.mem_of_getElem? (i := 134) (by decide +kernel)) rfl, xm_tb_of (List.mem_of_getElem? (i := 5) (by decide +kernel)) rfl, rfl, ⟨by decide +kernel, by decide +kernel, by decide +kernel⟩⟩
theorem cl_X6_37 : Cond.classLink RX6 37 RX2 ∈ xm_tb := xm_tb_of (List.mem_of_getElem? (i := 148) (by decide +kernel)) rfl
theorem ki_X6_39 : xn_FIN RX6 39 yX2_init "WindowMatches" cX2_init 1 := ⟨xm_tb_of (List.mem_of_getElem? (i := 32) (by decide +kernel)) rfl, xm_nest_of (List.mem_of_getElem? (i := 149) (by decide +kernel)) rfl, xm_tb_of (List.mem_of_getElem? (i := 31) (by decide +kernel)) rfl, xm_tb_of (List.mem_of_getElem? (i := 3) (by decide +kernel)) rfl, rfl, ⟨by decide +kernel, by decide +kernel, by decide +kernel⟩⟩
theorem cl_X6_44 : Cond.classLink RX6 44 RX3 ∈ xm_tb := xm_tb_of (List.mem_of_getElem? (i := 150) (by decide +kernel)) rfl
theorem ib_X3 : Cond.instantiable RX3 16 ∈ xm_tb ∧ Cond.initialized RX3 ∈ xm_tb := ⟨xm_tb_of (List.mem_of_getElem? (i := 151) (by decide +kernel)) rfl, xm_tb_of (List.mem_of_getElem? (i := 6) (by decide +kernel)) rfl⟩
theorem ki_X6_46 : xn_FIN RX6 46 yX3_init "WindowMatches" cX3_init 1 := ⟨xm_tb_of (List.mem_of_getElem? (i := 154) (by decide +kernel)) rfl, xm_nest_of (List.mem_of_getElem? (i := 152) (by decide +kernel)) rfl, xm_tb_of (List.mem_of_getElem? (i := 153) (by decide +kernel)) rfl, xm_tb_of (List.mem_of_getElem? (i := 6) (by decide +kernel)) rfl, rfl, ⟨by decide +kernel, by decide +kernel, by decide +kernel⟩⟩
set_option maxHeartbeats 8000000 in
set_option maxRecDepth 100000 in
theorem c_X2_init (l : Launch) (E : xm_E) : xn_Met l E yX2_init cX2_init 1 1 2 16 12 (.inr (2, [.int 0, .int 0, .int 0, .int 0, .null, .null])) (xn_SP E) := by
  refine xn_met (by decide +kernel) rfl rfl (Nat.le_of_ble_eq_true rfl) (fun h0 p e s m below meth c C hP ls hl => ?_)
  have C9 := C
  obtain ⟨hx, hb, hml, hown, hts, hr, hlk, hK, hin⟩ := C9
  obtain ⟨A, A9⟩ : ∃ A : Nat → Prop, va_A [(h0, .inr (2, [.int 0, .int 0, .int 0, .int 0, .null, .null]))] s.heap.size = A := ⟨_, rfl⟩
  have hD : va_D A [(h0, .inr (2, [.int 0, .int 0, .int 0, .int 0, .null, .null]))] := by
    rw [← A9]
    exact ⟨fun i j p q hi hj _ => by have h1 := (List.getElem?_eq_some_iff.mp hi).1; have h2 := (List.getElem?_eq_some_iff.mp hj).1; simp at h1 h2; omega, fun k q hk => va_A.in hk⟩
  have hA : ∀ q : Nat, s.heap.size ≤ q → A q := fun q h => by rw [← A9]; exact Or.inr h
  have hS : va_S A s.heap s.heap [] := va_S.rf
  refine lv_aload_n hx hb dX2_init_0 rfl (lv_at hl 0 rfl) ?_
  refine W.objInit hx hb hown (hts _ ob_X2_3.1) (hts _ ob_X2_3.2.1) (hts _ ob_X2_3.2.2) rfl (by rw [hml]; exact hl.1) rfl dX2_init_1 (Nat.le_of_ble_eq_true rfl) (Nat.le_of_ble_eq_true rfl) ?_
  refine W.eq (g2 := F0 m 4 ls []) rfl ?_
  refine lv_aload_n hx hb dX2_init_4 rfl (lv_at hl 0 rfl) ?_
  refine lv_iconst (v := 1) hx hb dX2_init_5 (by decide) ?_
  refine va_put (D := E.1) (ci := 2) (v := .int 1) (ty := (tyX2 0)) (C := RX2) (T := TX2) (N := 6) hx hb hts xi_2 tyX2 tyX2_ok nmX2 hown hK.1 hP hD hS 0 rfl rfl 0 (by decide) (hts _ l_X2_9) (fun _ h9 => h9) rfl (by decide +kernel) rfl rfl (Nat.le_of_ble_eq_true rfl) dX2_init_6 (fun H locs hP hD hS => ?_)
  have hP : va_P E.1 vwCl ([(h0, .inr (2, [.int 1, .int 0, .int 0, .int 0, .null, .null]))]) H := hP
  have hD : va_D A ([(h0, .inr (2, [.int 1, .int 0, .int 0, .int 0, .null, .null]))]) := hD
  refine lv_aload_n hx hb dX2_init_9 rfl (lv_at hl 0 rfl) ?_
  refine lv_iconst (v := 0) hx hb dX2_init_10 (by decide) ?_
  refine va_put (D := E.1) (ci := 2) (v := .int 0) (ty := (tyX2 1)) (C := RX2) (T := TX2) (N := 6) hx hb hts xi_2 tyX2 tyX2_ok nmX2 hown hK.1 hP hD hS 0 rfl rfl 1 (by decide) (hts _ l_X2_15) (fun _ h9 => h9) rfl (by decide +kernel) rfl rfl (Nat.le_of_ble_eq_true rfl) dX2_init_11 (fun H locs hP hD hS => ?_)
  have hP : va_P E.1 vwCl ([(h0, .inr (2, [.int 1, .int 0, .int 0, .int 0, .null, .null]))]) H := hP
  have hD : va_D A ([(h0, .inr (2, [.int 1, .int 0, .int 0, .int 0, .null, .null]))]) := hD
  refine lv_aload_n hx hb dX2_init_14 rfl (lv_at hl 0 rfl) ?_
  refine lv_iconst (v := 0) hx hb dX2_init_15 (by decide) ?_
  refine va_put (D := E.1) (ci := 2) (v := .int 0) (ty := (tyX2 2)) (C := RX2) (T := TX2) (N := 6) hx hb hts xi_2 tyX2 tyX2_ok nmX2 hown hK.1 hP hD hS 0 rfl rfl 2 (by decide) (hts _ l_X2_18) (fun _ h9 => h9) rfl (by decide +kernel) rfl rfl (Nat.le_of_ble_eq_true rfl) dX2_init_16 (fun H locs hP hD hS => ?_)
  have hP : va_P E.1 vwCl ([(h0, .inr (2, [.int 1, .int 0, .int 0, .int 0, .null, .null]))]) H := hP
  have hD : va_D A ([(h0, .inr (2, [.int 1, .int 0, .int 0, .int 0, .null, .null]))]) := hD
  refine lv_aload_n hx hb dX2_init_19 rfl (lv_at hl 0 rfl) ?_
  refine lv_iconst (v := 0) hx hb dX2_init_20 (by decide) ?_
  refine va_put (D := E.1) (ci := 2) (v := .int 0) (ty := (tyX2 3)) (C := RX2) (T := TX2) (N := 6) hx hb hts xi_2 tyX2 tyX2_ok nmX2 hown hK.1 hP hD hS 0 rfl rfl 3 (by decide) (hts _ l_X2_21) (fun _ h9 => h9) rfl (by decide +kernel) rfl rfl (Nat.le_of_ble_eq_true rfl) dX2_init_21 (fun H locs hP hD hS => ?_)
  have hP : va_P E.1 vwCl ([(h0, .inr (2, [.int 1, .int 0, .int 0, .int 0, .null, .null]))]) H := hP
  have hD : va_D A ([(h0, .inr (2, [.int 1, .int 0, .int 0, .int 0, .null, .null]))]) := hD
  refine lv_aload_n hx hb dX2_init_24 rfl (lv_at hl 0 rfl) ?_
  refine lv_bipush (v := 8) hx hb dX2_init_25 (by decide) ?_
  refine xn_newa hx hb hts hK (atype := .char) (ty := .char) ac_char rfl 1 rfl (fun cA h1 h2 => xn_ra (fun _ h => by cases h) h1 h2) hP hD hS hA (N' := 8) (a0 := (8, .inl (fun _ => 0))) (fun _ => rfl) (by decide) (by decide) (Nat.le_of_ble_eq_true rfl) (Nat.le_of_ble_eq_true rfl) (Nat.le_of_ble_eq_true rfl) dX2_init_27 (fun q27_1 H hP hD hS => ?_)
  have hP : va_P E.1 vwCl ([(h0, .inr (2, [.int 1, .int 0, .int 0, .int 0, .null, .null])), (q27_1, .inl (E.2.1 1, 8, .inl (fun _ => 0)))]) H := hP
  have hD : va_D A ([(h0, .inr (2, [.int 1, .int 0, .int 0, .int 0, .null, .null])), (q27_1, .inl (E.2.1 1, 8, .inl (fun _ => 0)))]) := hD
  refine va_putF (D := E.1) (ci := 2) (v := .ref q27_1) (ty := (tyX2 4)) (C := RX2) (T := TX2) (N := 6) hx hb hts xi_2 tyX2 tyX2_ok nmX2 hown hK.1 hP hD hS 0 rfl rfl 4 (by decide) (hts _ l_X2_24) (fun _ h9 => h9) rfl hin rfl (by decide +kernel) rfl rfl (Nat.le_of_ble_eq_true rfl) dX2_init_29 (fun H locs hP hD hS => ?_)
  have hP : va_P E.1 vwCl ([(h0, .inr (2, [.int 1, .int 0, .int 0, .int 0, .ref q27_1, .null])), (q27_1, .inl (E.2.1 1, 8, .inl (fun _ => 0)))]) H := hP
  have hD : va_D A ([(h0, .inr (2, [.int 1, .int 0, .int 0, .int 0, .ref q27_1, .null])), (q27_1, .inl (E.2.1 1, 8, .inl (fun _ => 0)))]) := hD
  refine lv_aload_n hx hb dX2_init_32 rfl (lv_at hl 0 rfl) ?_
  refine lv_bipush (v := 8) hx hb dX2_init_33 (by decide) ?_
  refine xn_newa hx hb hts hK (atype := .boolean) (ty := .boolean) ac_boolean rfl 2 rfl (fun cA h1 h2 => xn_ra (fun _ h => by cases h) h1 h2) hP hD hS hA (N' := 8) (a0 := (8, .inl (fun _ => 0))) (fun _ => rfl) (by decide) (by decide) (Nat.le_of_ble_eq_true rfl) (Nat.le_of_ble_eq_true rfl) (Nat.le_of_ble_eq_true rfl) dX2_init_35 (fun q35_2 H hP hD hS => ?_)
  have hP : va_P E.1 vwCl ([(h0, .inr (2, [.int 1, .int 0, .int 0, .int 0, .ref q27_1, .null])), (q27_1, .inl (E.2.1 1, 8, .inl (fun _ => 0))), (q35_2, .inl (E.2.1 2, 8, .inl (fun _ => 0)))]) H := hP
  have hD : va_D A ([(h0, .inr (2, [.int 1, .int 0, .int 0, .int 0, .ref q27_1, .null])), (q27_1, .inl (E.2.1 1, 8, .inl (fun _ => 0))), (q35_2, .inl (E.2.1 2, 8, .inl (fun _ => 0)))]) := hD
  refine va_putF (D := E.1) (ci := 2) (v := .ref q35_2) (ty := (tyX2 5)) (C := RX2) (T := TX2) (N := 6) hx hb hts xi_2 tyX2 tyX2_ok nmX2 hown hK.1 hP hD hS 0 rfl rfl 5 (by decide) (hts _ l_X2_28) (fun _ h9 => h9) rfl hin rfl (by decide +kernel) rfl rfl (Nat.le_of_ble_eq_true rfl) dX2_init_37 (fun H locs hP hD hS => ?_)
  have hP : va_P E.1 vwCl ([(h0, .inr (2, [.int 1, .int 0, .int 0, .int 0, .ref q27_1, .ref q35_2])), (q27_1, .inl (E.2.1 1, 8, .inl (fun _ => 0))), (q35_2, .inl (E.2.1 2, 8, .inl (fun _ => 0)))]) H := hP
  have hD : va_D A ([(h0, .inr (2, [.int 1, .int 0, .int 0, .int 0, .ref q27_1, .ref q35_2])), (q27_1, .inl (E.2.1 1, 8, .inl (fun _ => 0))), (q35_2, .inl (E.2.1 2, 8, .inl (fun _ => 0)))]) := hD
  obtain ⟨bb, hbb⟩ : ∃ bb : Nat → Nat, bb = fun k => if k < 1 then h0 else if k < 2 then q27_1 else q35_2 := ⟨_, rfl⟩
  subst A9
  exact xn_ret C hP hD hS (w := xm_w (bb, xc_P E bb 0, 3) (fun o => xm_0 (1 + o))) (by subst hbb; rfl) ⟨bb, by rw [hbb]; rfl, rfl⟩ dX2_init_40 rfl rfl
set_option maxHeartbeats 8000000 in
set_option maxRecDepth 100000 in
theorem c_X4_init (l : Launch) (E : xm_E) : xn_Met l E yX4_init cX4_init 2 2 16 164 32 (.inr (4, [.int 0, .null, .null, .null, .int 0, .int 0, .int 0, .null])) (xn_SS E) := by
  refine xn_met (by decide +kernel) rfl rfl (Nat.le_of_ble_eq_true rfl) (fun h0 p e s m below meth c C hP ls hl => ?_)
  have C9 := C
  obtain ⟨hx, hb, hml, hown, hts, hr, hlk, hK, hin⟩ := C9
  obtain ⟨A, A9⟩ : ∃ A : Nat → Prop, va_A [(h0, .inr (4, [.int 0, .null, .null, .null, .int 0, .int 0, .int 0, .null]))] s.heap.size = A := ⟨_, rfl⟩
  have hD : va_D A [(h0, .inr (4, [.int 0, .null, .null, .null, .int 0, .int 0, .int 0, .null]))] := by
    rw [← A9]
    exact ⟨fun i j p q hi hj _ => by have h1 := (List.getElem?_eq_some_iff.mp hi).1; have h2 := (List.getElem?_eq_some_iff.mp hj).1; simp at h1 h2; omega, fun k q hk => va_A.in hk⟩
  have hA : ∀ q : Nat, s.heap.size ≤ q → A q := fun q h => by rw [← A9]; exact Or.inr h
  have hS : va_S A s.heap s.heap [] := va_S.rf
  refine lv_aload_n hx hb dX4_init_0 rfl (lv_at hl 0 rfl) ?_
  refine W.objInit hx hb hown (hts _ ob_X4_3.1) (hts _ ob_X4_3.2.1) (hts _ ob_X4_3.2.2) rfl (by rw [hml]; exact hl.1) rfl dX4_init_1 (Nat.le_of_ble_eq_true rfl) (Nat.le_of_ble_eq_true rfl) ?_
  refine W.eq (g2 := F0 m 4 ls []) rfl ?_
  refine lv_aload_n hx hb dX4_init_4 rfl (lv_at hl 0 rfl) ?_
  refine lv_iconst (v := 0) hx hb dX4_init_5 (by decide) ?_
  refine va_put (D := E.1) (ci := 4) (v := .int 0) (ty := (tyX4 0)) (C := RX4) (T := TX4) (N := 8) hx hb hts xi_4 tyX4 tyX4_ok nmX4 hown hK.1 hP hD hS 0 rfl rfl 0 (by decide) (hts _ l_X4_9) (fun _ h9 => h9) rfl (by decide +kernel) rfl rfl (Nat.le_of_ble_eq_true rfl) dX4_init_6 (fun H locs hP hD hS => ?_)
  have hP : va_P E.1 vwCl ([(h0, .inr (4, [.int 0, .null, .null, .null, .int 0, .int 0, .int 0, .null]))]) H := hP
  have hD : va_D A ([(h0, .inr (4, [.int 0, .null, .null, .null, .int 0, .int 0, .int 0, .null]))]) := hD
  refine lv_aload_n hx hb dX4_init_9 rfl (lv_at hl 0 rfl) ?_
  refine lv_bipush (v := 24) hx hb dX4_init_10 (by decide) ?_
  refine xn_newa hx hb hts hK (atype := .char) (ty := .char) ac_char rfl 1 rfl (fun cA h1 h2 => xn_ra (fun _ h => by cases h) h1 h2) hP hD hS hA (N' := 24) (a0 := (24, .inl (fun _ => 0))) (fun _ => rfl) (by decide) (by decide) (Nat.le_of_ble_eq_true rfl) (Nat.le_of_ble_eq_true rfl) (Nat.le_of_ble_eq_true rfl) dX4_init_12 (fun q12_1 H hP hD hS => ?_)
  have hP : va_P E.1 vwCl ([(h0, .inr (4, [.int 0, .null, .null, .null, .int 0, .int 0, .int 0, .null])), (q12_1, .inl (E.2.1 1, 24, .inl (fun _ => 0)))]) H := hP
  have hD : va_D A ([(h0, .inr (4, [.int 0, .null, .null, .null, .int 0, .int 0, .int 0, .null])), (q12_1, .inl (E.2.1 1, 24, .inl (fun _ => 0)))]) := hD
  refine va_putF (D := E.1) (ci := 4) (v := .ref q12_1) (ty := (tyX4 1)) (C := RX4) (T := TX4) (N := 8) hx hb hts xi_4 tyX4 tyX4_ok nmX4 hown hK.1 hP hD hS 0 rfl rfl 1 (by decide) (hts _ l_X4_15) (fun _ h9 => h9) rfl hin rfl (by decide +kernel) rfl rfl (Nat.le_of_ble_eq_true rfl) dX4_init_14 (fun H locs hP hD hS => ?_)
  have hP : va_P E.1 vwCl ([(h0, .inr (4, [.int 0, .ref q12_1, .null, .null, .int 0, .int 0, .int 0, .null])), (q12_1, .inl (E.2.1 1, 24, .inl (fun _ => 0)))]) H := hP
  have hD : va_D A ([(h0, .inr (4, [.int 0, .ref q12_1, .null, .null, .int 0, .int 0, .int 0, .null])), (q12_1, .inl (E.2.1 1, 24, .inl (fun _ => 0)))]) := hD
  refine lv_aload_n hx hb dX4_init_17 rfl (lv_at hl 0 rfl) ?_
  refine lv_bipush (v := 24) hx hb dX4_init_18 (by decide) ?_
  refine xn_newa hx hb hts hK (atype := .int) (ty := .int) ac_int rfl 0 rfl (fun cA h1 h2 => xn_ra (fun _ h => by cases h) h1 h2) hP hD hS hA (N' := 24) (a0 := (24, .inl (fun _ => 0))) (fun _ => rfl) (by decide) (by decide) (Nat.le_of_ble_eq_true rfl) (Nat.le_of_ble_eq_true rfl) (Nat.le_of_ble_eq_true rfl) dX4_init_20 (fun q20_2 H hP hD hS => ?_)
  have hP : va_P E.1 vwCl ([(h0, .inr (4, [.int 0, .ref q12_1, .null, .null, .int 0, .int 0, .int 0, .null])), (q12_1, .inl (E.2.1 1, 24, .inl (fun _ => 0))), (q20_2, .inl (E.2.1 0, 24, .inl (fun _ => 0)))]) H := hP
  have hD : va_D A ([(h0, .inr (4, [.int 0, .ref q12_1, .null, .null, .int 0, .int 0, .int 0, .null])), (q12_1, .inl (E.2.1 1, 24, .inl (fun _ => 0))), (q20_2, .inl (E.2.1 0, 24, .inl (fun _ => 0)))]) := hD
  refine va_putF (D := E.1) (ci := 4) (v := .ref q20_2) (ty := (tyX4 2)) (C := RX4) (T := TX4) (N := 8) hx hb hts xi_4 tyX4 tyX4_ok nmX4 hown hK.1 hP hD hS 0 rfl rfl 2 (by decide) (hts _ l_X4_19) (fun _ h9 => h9) rfl hin rfl (by decide +kernel) rfl rfl (Nat.le_of_ble_eq_true rfl) dX4_init_22 (fun H locs hP hD hS => ?_)
  have hP : va_P E.1 vwCl ([(h0, .inr (4, [.int 0, .ref q12_1, .ref q20_2, .null, .int 0, .int 0, .int 0, .null])), (q12_1, .inl (E.2.1 1, 24, .inl (fun _ => 0))), (q20_2, .inl (E.2.1 0, 24, .inl (fun _ => 0)))]) H := hP
  have hD : va_D A ([(h0, .inr (4, [.int 0, .ref q12_1, .ref q20_2, .null, .int 0, .int 0, .int 0, .null])), (q12_1, .inl (E.2.1 1, 24, .inl (fun _ => 0))), (q20_2, .inl (E.2.1 0, 24, .inl (fun _ => 0)))]) := hD
  refine lv_aload_n hx hb dX4_init_25 rfl (lv_at hl 0 rfl) ?_
  refine lv_bipush (v := 24) hx hb dX4_init_26 (by decide) ?_
  refine xn_newa hx hb hts hK (atype := .int) (ty := .int) ac_int rfl 0 rfl (fun cA h1 h2 => xn_ra (fun _ h => by cases h) h1 h2) hP hD hS hA (N' := 24) (a0 := (24, .inl (fun _ => 0))) (fun _ => rfl) (by decide) (by decide) (Nat.le_of_ble_eq_true rfl) (Nat.le_of_ble_eq_true rfl) (Nat.le_of_ble_eq_true rfl) dX4_init_28 (fun q28_3 H hP hD hS => ?_)
  have hP : va_P E.1 vwCl ([(h0, .inr (4, [.int 0, .ref q12_1, .ref q20_2, .null, .int 0, .int 0, .int 0, .null])), (q12_1, .inl (E.2.1 1, 24, .inl (fun _ => 0))), (q20_2, .inl (E.2.1 0, 24, .inl (fun _ => 0))), (q28_3, .inl (E.2.1 0, 24, .inl (fun _ => 0)))]) H := hP
  have hD : va_D A ([(h0, .inr (4, [.int 0, .ref q12_1, .ref q20_2, .null, .int 0, .int 0, .int 0, .null])), (q12_1, .inl (E.2.1 1, 24, .inl (fun _ => 0))), (q20_2, .inl (E.2.1 0, 24, .inl (fun _ => 0))), (q28_3, .inl (E.2.1 0, 24, .inl (fun _ => 0)))]) := hD
  refine va_putF (D := E.1) (ci := 4) (v := .ref q28_3) (ty := (tyX4 3)) (C := RX4) (T := TX4) (N := 8) hx hb hts xi_4 tyX4 tyX4_ok nmX4 hown hK.1 hP hD hS 0 rfl rfl 3 (by decide) (hts _ l_X4_23) (fun _ h9 => h9) rfl hin rfl (by decide +kernel) rfl rfl (Nat.le_of_ble_eq_true rfl) dX4_init_30 (fun H locs hP hD hS => ?_)
  have hP : va_P E.1 vwCl ([(h0, .inr (4, [.int 0, .ref q12_1, .ref q20_2, .ref q28_3, .int 0, .int 0, .int 0, .null])), (q12_1, .inl (E.2.1 1, 24, .inl (fun _ => 0))), (q20_2, .inl (E.2.1 0, 24, .inl (fun _ => 0))), (q28_3, .inl (E.2.1 0, 24, .inl (fun _ => 0)))]) H := hP
  have hD : va_D A ([(h0, .inr (4, [.int 0, .ref q12_1, .ref q20_2, .ref q28_3, .int 0, .int 0, .int 0, .null])), (q12_1, .inl (E.2.1 1, 24, .inl (fun _ => 0))), (q20_2, .inl (E.2.1 0, 24, .inl (fun _ => 0))), (q28_3, .inl (E.2.1 0, 24, .inl (fun _ => 0)))]) := hD
  refine lv_aload_n hx hb dX4_init_33 rfl (lv_at hl 0 rfl) ?_
  refine lv_iconst (v := 0) hx hb dX4_init_34 (by decide) ?_
  refine va_put (D := E.1) (ci := 4) (v := .int 0) (ty := (tyX4 4)) (C := RX4) (T := TX4) (N := 8) hx hb hts xi_4 tyX4 tyX4_ok nmX4 hown hK.1 hP hD hS 0 rfl rfl 4 (by decide) (hts _ l_X4_26) (fun _ h9 => h9) rfl (by decide +kernel) rfl rfl (Nat.le_of_ble_eq_true rfl) dX4_init_35 (fun H locs hP hD hS => ?_)
  have hP : va_P E.1 vwCl ([(h0, .inr (4, [.int 0, .ref q12_1, .ref q20_2, .ref q28_3, .int 0, .int 0, .int 0, .null])), (q12_1, .inl (E.2.1 1, 24, .inl (fun _ => 0))), (q20_2, .inl (E.2.1 0, 24, .inl (fun _ => 0))), (q28_3, .inl (E.2.1 0, 24, .inl (fun _ => 0)))]) H := hP
  have hD : va_D A ([(h0, .inr (4, [.int 0, .ref q12_1, .ref q20_2, .ref q28_3, .int 0, .int 0, .int 0, .null])), (q12_1, .inl (E.2.1 1, 24, .inl (fun _ => 0))), (q20_2, .inl (E.2.1 0, 24, .inl (fun _ => 0))), (q28_3, .inl (E.2.1 0, 24, .inl (fun _ => 0)))]) := hD
  refine lv_aload_n hx hb dX4_init_38 rfl (lv_at hl 0 rfl) ?_
  refine lv_bipush (v := 20) hx hb dX4_init_39 (by decide) ?_
  refine va_put (D := E.1) (ci := 4) (v := .int 20) (ty := (tyX4 5)) (C := RX4) (T := TX4) (N := 8) hx hb hts xi_4 tyX4 tyX4_ok nmX4 hown hK.1 hP hD hS 0 rfl rfl 5 (by decide) (hts _ l_X4_29) (fun _ h9 => h9) rfl (by decide +kernel) rfl rfl (Nat.le_of_ble_eq_true rfl) dX4_init_41 (fun H locs hP hD hS => ?_)
  have hP : va_P E.1 vwCl ([(h0, .inr (4, [.int 0, .ref q12_1, .ref q20_2, .ref q28_3, .int 0, .int 20, .int 0, .null])), (q12_1, .inl (E.2.1 1, 24, .inl (fun _ => 0))), (q20_2, .inl (E.2.1 0, 24, .inl (fun _ => 0))), (q28_3, .inl (E.2.1 0, 24, .inl (fun _ => 0)))]) H := hP
  have hD : va_D A ([(h0, .inr (4, [.int 0, .ref q12_1, .ref q20_2, .ref q28_3, .int 0, .int 20, .int 0, .null])), (q12_1, .inl (E.2.1 1, 24, .inl (fun _ => 0))), (q20_2, .inl (E.2.1 0, 24, .inl (fun _ => 0))), (q28_3, .inl (E.2.1 0, 24, .inl (fun _ => 0)))]) := hD
  refine lv_aload_n hx hb dX4_init_44 rfl (lv_at hl 0 rfl) ?_
  refine lv_iconst (v := 0) hx hb dX4_init_45 (by decide) ?_
  refine va_put (D := E.1) (ci := 4) (v := .int 0) (ty := (tyX4 6)) (C := RX4) (T := TX4) (N := 8) hx hb hts xi_4 tyX4 tyX4_ok nmX4 hown hK.1 hP hD hS 0 rfl rfl 6 (by decide) (hts _ l_X4_32) (fun _ h9 => h9) rfl (by decide +kernel) rfl rfl (Nat.le_of_ble_eq_true rfl) dX4_init_46 (fun H locs hP hD hS => ?_)
  have hP : va_P E.1 vwCl ([(h0, .inr (4, [.int 0, .ref q12_1, .ref q20_2, .ref q28_3, .int 0, .int 20, .int 0, .null])), (q12_1, .inl (E.2.1 1, 24, .inl (fun _ => 0))), (q20_2, .inl (E.2.1 0, 24, .inl (fun _ => 0))), (q28_3, .inl (E.2.1 0, 24, .inl (fun _ => 0)))]) H := hP
  have hD : va_D A ([(h0, .inr (4, [.int 0, .ref q12_1, .ref q20_2, .ref q28_3, .int 0, .int 20, .int 0, .null])), (q12_1, .inl (E.2.1 1, 24, .inl (fun _ => 0))), (q20_2, .inl (E.2.1 0, 24, .inl (fun _ => 0))), (q28_3, .inl (E.2.1 0, 24, .inl (fun _ => 0)))]) := hD
  refine lv_aload_n hx hb dX4_init_49 rfl (lv_at hl 0 rfl) ?_
  refine lv_iconst (v := 4) hx hb dX4_init_50 (by decide) ?_
  refine xn_newq hx hb hown hts hK cl_X4_35 hK.2.2.2.2 4 rfl hP hD hS hA (N' := 4) (by decide) (by decide) (Nat.le_of_ble_eq_true rfl) (Nat.le_of_ble_eq_true rfl) (Nat.le_of_ble_eq_true rfl) dX4_init_51 (fun q51_4 H hP hD hS => ?_)
  have hP : va_P E.1 vwCl ([(h0, .inr (4, [.int 0, .ref q12_1, .ref q20_2, .ref q28_3, .int 0, .int 20, .int 0, .null])), (q12_1, .inl (E.2.1 1, 24, .inl (fun _ => 0))), (q20_2, .inl (E.2.1 0, 24, .inl (fun _ => 0))), (q28_3, .inl (E.2.1 0, 24, .inl (fun _ => 0))), (q51_4, .inl (E.2.1 4, 4, .inr (.inr (.inr (.inr (fun _ => none))))))]) H := hP
  have hD : va_D A ([(h0, .inr (4, [.int 0, .ref q12_1, .ref q20_2, .ref q28_3, .int 0, .int 20, .int 0, .null])), (q12_1, .inl (E.2.1 1, 24, .inl (fun _ => 0))), (q20_2, .inl (E.2.1 0, 24, .inl (fun _ => 0))), (q28_3, .inl (E.2.1 0, 24, .inl (fun _ => 0))), (q51_4, .inl (E.2.1 4, 4, .inr (.inr (.inr (.inr (fun _ => none))))))]) := hD
  refine va_putF (D := E.1) (ci := 4) (v := .ref q51_4) (ty := (tyX4 7)) (C := RX4) (T := TX4) (N := 8) hx hb hts xi_4 tyX4 tyX4_ok nmX4 hown hK.1 hP hD hS 0 rfl rfl 7 (by decide) (hts _ l_X4_37) (fun _ h9 => h9) rfl hin rfl (by decide +kernel) rfl rfl (Nat.le_of_ble_eq_true rfl) dX4_init_54 (fun H locs hP hD hS => ?_)
  have hP : va_P E.1 vwCl ([(h0, .inr (4, [.int 0, .ref q12_1, .ref q20_2, .ref q28_3, .int 0, .int 20, .int 0, .ref q51_4])), (q12_1, .inl (E.2.1 1, 24, .inl (fun _ => 0))), (q20_2, .inl (E.2.1 0, 24, .inl (fun _ => 0))), (q28_3, .inl (E.2.1 0, 24, .inl (fun _ => 0))), (q51_4, .inl (E.2.1 4, 4, .inr (.inr (.inr (.inr (fun _ => none))))))]) H := hP
  have hD : va_D A ([(h0, .inr (4, [.int 0, .ref q12_1, .ref q20_2, .ref q28_3, .int 0, .int 20, .int 0, .ref q51_4])), (q12_1, .inl (E.2.1 1, 24, .inl (fun _ => 0))), (q20_2, .inl (E.2.1 0, 24, .inl (fun _ => 0))), (q28_3, .inl (E.2.1 0, 24, .inl (fun _ => 0))), (q51_4, .inl (E.2.1 4, 4, .inr (.inr (.inr (.inr (fun _ => none))))))]) := hD
  refine lv_iconst (v := 0) hx hb dX4_init_57 (by decide) ?_
  refine lv_istore_n (lv' := [(1, .int 0), (0, .ref h0)]) hx hb dX4_init_58 rfl hl (by decide) rfl (fun ls hl => ?_)
  refine lv_iload_n hx hb dX4_init_59 rfl (lv_at hl 0 rfl) ?_
  refine lv_iconst (v := 4) hx hb dX4_init_60 (by decide) ?_
  refine lv_icmp_ge (tgt := 83) hx hb dX4_init_61 (by decide) (fun c => absurd c (by decide)) (fun _ => ?_)
  refine lv_aload_n hx hb dX4_init_64 rfl (lv_at hl 1 rfl) ?_
  refine va_get (D := E.1) (ci := 4) (v := .ref q51_4) (C := RX4) (T := TX4) (N := 8) hx hb hts xi_4 hown hK.1 hP 0 rfl rfl 7 (by decide) (hts _ l_X4_37) (fun _ h9 => h9) rfl dX4_init_65 ?_
  refine lv_iload_n hx hb dX4_init_68 rfl (lv_at hl 0 rfl) ?_
  refine va_new (ci := 2) (fs := [.int 0, .int 0, .int 0, .int 0, .null, .null]) (C := RX2) (T := TX2) (N := 6) hx hb hts xi_2 tyX2 tyX2_ok hown (hts _ cl_X4_35) (hts _ ib_X2.1) (hts _ ib_X2.2) hK.1 hP hD hS hA rfl (by decide +kernel) (Nat.le_of_ble_eq_true rfl) (Nat.le_of_ble_eq_true rfl) dX4_init_69 (fun q69_5 H hP hD hS => ?_)
  refine lv_dup hx hb dX4_init_72 rfl ?_
  refine xn_callIN (q := q69_5) (rest := [.ref q69_5, .int 0, .ref q51_4]) hx hb hml hown hts hK hP hD hS hA (c_X2_init l E) ki_X4_41 rfl ⟨(Nat.le_of_ble_eq_true rfl), (Nat.le_of_ble_eq_true rfl)⟩ hl.1 (Nat.le_of_ble_eq_true rfl) ⟨(Nat.le_of_ble_eq_true rfl), (Nat.le_of_ble_eq_true rfl)⟩ dX4_init_73 (fun w1 H locs hw hP hD hS => ?_)
  obtain ⟨b6, rfl, rfl⟩ := hw
  have hP : va_P E.1 vwCl ([(h0, .inr (4, [.int 0, .ref q12_1, .ref q20_2, .ref q28_3, .int 0, .int 20, .int 0, .ref q51_4])), (q12_1, .inl (E.2.1 1, 24, .inl (fun _ => 0))), (q20_2, .inl (E.2.1 0, 24, .inl (fun _ => 0))), (q28_3, .inl (E.2.1 0, 24, .inl (fun _ => 0))), (q51_4, .inl (E.2.1 4, 4, .inr (.inr (.inr (.inr (fun _ => none))))))] ++ xm_w (b6, xc_P E b6 0, 3) (fun o => xm_0 (1 + o))) H := hP
  have hD : va_D A ([(h0, .inr (4, [.int 0, .ref q12_1, .ref q20_2, .ref q28_3, .int 0, .int 20, .int 0, .ref q51_4])), (q12_1, .inl (E.2.1 1, 24, .inl (fun _ => 0))), (q20_2, .inl (E.2.1 0, 24, .inl (fun _ => 0))), (q28_3, .inl (E.2.1 0, 24, .inl (fun _ => 0))), (q51_4, .inl (E.2.1 4, 4, .inr (.inr (.inr (.inr (fun _ => none))))))] ++ xm_w (b6, xc_P E b6 0, 3) (fun o => xm_0 (1 + o))) := hD
  refine va_astq hx hb hK.1 hP hD hS 4 4 5 2 (r := (RX2, TX2, 6)) rfl rfl rfl rfl (xm_in_s (by decide)) dX4_init_76 (fun H locs hP hD hS => ?_)
  have hP : va_P E.1 vwCl ([(h0, .inr (4, [.int 0, .ref q12_1, .ref q20_2, .ref q28_3, .int 0, .int 20, .int 0, .ref q51_4])), (q12_1, .inl (E.2.1 1, 24, .inl (fun _ => 0))), (q20_2, .inl (E.2.1 0, 24, .inl (fun _ => 0))), (q28_3, .inl (E.2.1 0, 24, .inl (fun _ => 0))), (q51_4, .inl (E.2.1 4, 4, .inr (.inr (.inr (.inr (va_up (fun _ => none) (0 : Int32).toNatClampNeg (some (b6 0))))))))] ++ xm_w (b6, xc_P E b6 0, 3) (fun o => xm_0 (1 + o))) H := hP
  have hD : va_D A ([(h0, .inr (4, [.int 0, .ref q12_1, .ref q20_2, .ref q28_3, .int 0, .int 20, .int 0, .ref q51_4])), (q12_1, .inl (E.2.1 1, 24, .inl (fun _ => 0))), (q20_2, .inl (E.2.1 0, 24, .inl (fun _ => 0))), (q28_3, .inl (E.2.1 0, 24, .inl (fun _ => 0))), (q51_4, .inl (E.2.1 4, 4, .inr (.inr (.inr (.inr (va_up (fun _ => none) (0 : Int32).toNatClampNeg (some (b6 0))))))))] ++ xm_w (b6, xc_P E b6 0, 3) (fun o => xm_0 (1 + o))) := hD
  refine lv_iinc (v := 1) (lv' := [(1, .int 1), (0, .ref h0)]) hx hb dX4_init_77 hl (k := 0) rfl (by decide) (by decide) rfl (fun ls hl => ?_)
  refine lv_goto (tgt := 59) hx hb dX4_init_80 (by decide) ?_
  refine lv_iload_n hx hb dX4_init_59 rfl (lv_at hl 0 rfl) ?_
  refine lv_iconst (v := 4) hx hb dX4_init_60 (by decide) ?_
  refine lv_icmp_ge (tgt := 83) hx hb dX4_init_61 (by decide) (fun c => absurd c (by decide)) (fun _ => ?_)
  refine lv_aload_n hx hb dX4_init_64 rfl (lv_at hl 1 rfl) ?_
  refine va_get (D := E.1) (ci := 4) (v := .ref q51_4) (C := RX4) (T := TX4) (N := 8) hx hb hts xi_4 hown hK.1 hP 0 rfl rfl 7 (by decide) (hts _ l_X4_37) (fun _ h9 => h9) rfl dX4_init_65 ?_
  refine lv_iload_n hx hb dX4_init_68 rfl (lv_at hl 0 rfl) ?_
  refine va_new (ci := 2) (fs := [.int 0, .int 0, .int 0, .int 0, .null, .null]) (C := RX2) (T := TX2) (N := 6) hx hb hts xi_2 tyX2 tyX2_ok hown (hts _ cl_X4_35) (hts _ ib_X2.1) (hts _ ib_X2.2) hK.1 hP hD hS hA rfl (by decide +kernel) (Nat.le_of_ble_eq_true rfl) (Nat.le_of_ble_eq_true rfl) dX4_init_69 (fun q69_7 H hP hD hS => ?_)
  refine lv_dup hx hb dX4_init_72 rfl ?_
  refine xn_callIN (q := q69_7) (rest := [.ref q69_7, .int 1, .ref q51_4]) hx hb hml hown hts hK hP hD hS hA (c_X2_init l E) ki_X4_41 rfl ⟨(Nat.le_of_ble_eq_true rfl), (Nat.le_of_ble_eq_true rfl)⟩ hl.1 (Nat.le_of_ble_eq_true rfl) ⟨(Nat.le_of_ble_eq_true rfl), (Nat.le_of_ble_eq_true rfl)⟩ dX4_init_73 (fun w1 H locs hw hP hD hS => ?_)
  obtain ⟨b8, rfl, rfl⟩ := hw
  have hP : va_P E.1 vwCl ([(h0, .inr (4, [.int 0, .ref q12_1, .ref q20_2, .ref q28_3, .int 0, .int 20, .int 0, .ref q51_4])), (q12_1, .inl (E.2.1 1, 24, .inl (fun _ => 0))), (q20_2, .inl (E.2.1 0, 24, .inl (fun _ => 0))), (q28_3, .inl (E.2.1 0, 24, .inl (fun _ => 0))), (q51_4, .inl (E.2.1 4, 4, .inr (.inr (.inr (.inr (va_up (fun _ => none) (0 : Int32).toNatClampNeg (some (b6 0))))))))] ++ xm_w (b6, xc_P E b6 0, 3) (fun o => xm_0 (1 + o)) ++ xm_w (b8, xc_P E b8 0, 3) (fun o => xm_0 (1 + o))) H := hP
  have hD : va_D A ([(h0, .inr (4, [.int 0, .ref q12_1, .ref q20_2, .ref q28_3, .int 0, .int 20, .int 0, .ref q51_4])), (q12_1, .inl (E.2.1 1, 24, .inl (fun _ => 0))), (q20_2, .inl (E.2.1 0, 24, .inl (fun _ => 0))), (q28_3, .inl (E.2.1 0, 24, .inl (fun _ => 0))), (q51_4, .inl (E.2.1 4, 4, .inr (.inr (.inr (.inr (va_up (fun _ => none) (0 : Int32).toNatClampNeg (some (b6 0))))))))] ++ xm_w (b6, xc_P E b6 0, 3) (fun o => xm_0 (1 + o)) ++ xm_w (b8, xc_P E b8 0, 3) (fun o => xm_0 (1 + o))) := hD
  refine va_astq hx hb hK.1 hP hD hS 4 4 8 2 (r := (RX2, TX2, 6)) rfl rfl rfl rfl (xm_in_s (by decide)) dX4_init_76 (fun H locs hP hD hS => ?_)
  have hP : va_P E.1 vwCl ([(h0, .inr (4, [.int 0, .ref q12_1, .ref q20_2, .ref q28_3, .int 0, .int 20, .int 0, .ref q51_4])), (q12_1, .inl (E.2.1 1, 24, .inl (fun _ => 0))), (q20_2, .inl (E.2.1 0, 24, .inl (fun _ => 0))), (q28_3, .inl (E.2.1 0, 24, .inl (fun _ => 0))), (q51_4, .inl (E.2.1 4, 4, .inr (.inr (.inr (.inr (va_up (va_up (fun _ => none) (0 : Int32).toNatClampNeg (some (b6 0))) (1 : Int32).toNatClampNeg (some (b8 0))))))))] ++ xm_w (b6, xc_P E b6 0, 3) (fun o => xm_0 (1 + o)) ++ xm_w (b8, xc_P E b8 0, 3) (fun o => xm_0 (1 + o))) H := hP
  have hD : va_D A ([(h0, .inr (4, [.int 0, .ref q12_1, .ref q20_2, .ref q28_3, .int 0, .int 20, .int 0, .ref q51_4])), (q12_1, .inl (E.2.1 1, 24, .inl (fun _ => 0))), (q20_2, .inl (E.2.1 0, 24, .inl (fun _ => 0))), (q28_3, .inl (E.2.1 0, 24, .inl (fun _ => 0))), (q51_4, .inl (E.2.1 4, 4, .inr (.inr (.inr (.inr (va_up (va_up (fun _ => none) (0 : Int32).toNatClampNeg (some (b6 0))) (1 : Int32).toNatClampNeg (some (b8 0))))))))] ++ xm_w (b6, xc_P E b6 0, 3) (fun o => xm_0 (1 + o)) ++ xm_w (b8, xc_P E b8 0, 3) (fun o => xm_0 (1 + o))) := hD
  refine lv_iinc (v := 2) (lv' := [(1, .int 2), (0, .ref h0)]) hx hb dX4_init_77 hl (k := 0) rfl (by decide) (by decide) rfl (fun ls hl => ?_)
  refine lv_goto (tgt := 59) hx hb dX4_init_80 (by decide) ?_
  refine lv_iload_n hx hb dX4_init_59 rfl (lv_at hl 0 rfl) ?_
  refine lv_iconst (v := 4) hx hb dX4_init_60 (by decide) ?_
  refine lv_icmp_ge (tgt := 83) hx hb dX4_init_61 (by decide) (fun c => absurd c (by decide)) (fun _ => ?_)
  refine lv_aload_n hx hb dX4_init_64 rfl (lv_at hl 1 rfl) ?_
  refine va_get (D := E.1) (ci := 4) (v := .ref q51_4) (C := RX4) (T := TX4) (N := 8) hx hb hts xi_4 hown hK.1 hP 0 rfl rfl 7 (by decide) (hts _ l_X4_37) (fun _ h9 => h9) rfl dX4_init_65 ?_
  refine lv_iload_n hx hb dX4_init_68 rfl (lv_at hl 0 rfl) ?_
  refine va_new (ci := 2) (fs := [.int 0, .int 0, .int 0, .int 0, .null, .null]) (C := RX2) (T := TX2) (N := 6) hx hb hts xi_2 tyX2 tyX2_ok hown (hts _ cl_X4_35) (hts _ ib_X2.1) (hts _ ib_X2.2) hK.1 hP hD hS hA rfl (by decide +kernel) (Nat.le_of_ble_eq_true rfl) (Nat.le_of_ble_eq_true rfl) dX4_init_69 (fun q69_9 H hP hD hS => ?_)
  refine lv_dup hx hb dX4_init_72 rfl ?_
  refine xn_callIN (q := q69_9) (rest := [.ref q69_9, .int 2, .ref q51_4]) hx hb hml hown hts hK hP hD hS hA (c_X2_init l E) ki_X4_41 rfl ⟨(Nat.le_of_ble_eq_true rfl), (Nat.le_of_ble_eq_true rfl)⟩ hl.1 (Nat.le_of_ble_eq_true rfl) ⟨(Nat.le_of_ble_eq_true rfl), (Nat.le_of_ble_eq_true rfl)⟩ dX4_init_73 (fun w1 H locs hw hP hD hS => ?_)
  obtain ⟨b10, rfl, rfl⟩ := hw
  have hP : va_P E.1 vwCl ([(h0, .inr (4, [.int 0, .ref q12_1, .ref q20_2, .ref q28_3, .int 0, .int 20, .int 0, .ref q51_4])), (q12_1, .inl (E.2.1 1, 24, .inl (fun _ => 0))), (q20_2, .inl (E.2.1 0, 24, .inl (fun _ => 0))), (q28_3, .inl (E.2.1 0, 24, .inl (fun _ => 0))), (q51_4, .inl (E.2.1 4, 4, .inr (.inr (.inr (.inr (va_up (va_up (fun _ => none) (0 : Int32).toNatClampNeg (some (b6 0))) (1 : Int32).toNatClampNeg (some (b8 0))))))))] ++ xm_w (b6, xc_P E b6 0, 3) (fun o => xm_0 (1 + o)) ++ xm_w (b8, xc_P E b8 0, 3) (fun o => xm_0 (1 + o)) ++ xm_w (b10, xc_P E b10 0, 3) (fun o => xm_0 (1 + o))) H := hP
  have hD : va_D A ([(h0, .inr (4, [.int 0, .ref q12_1, .ref q20_2, .ref q28_3, .int 0, .int 20, .int 0, .ref q51_4])), (q12_1, .inl (E.2.1 1, 24, .inl (fun _ => 0))), (q20_2, .inl (E.2.1 0, 24, .inl (fun _ => 0))), (q28_3, .inl (E.2.1 0, 24, .inl (fun _ => 0))), (q51_4, .inl (E.2.1 4, 4, .inr (.inr (.inr (.inr (va_up (va_up (fun _ => none) (0 : Int32).toNatClampNeg (some (b6 0))) (1 : Int32).toNatClampNeg (some (b8 0))))))))] ++ xm_w (b6, xc_P E b6 0, 3) (fun o => xm_0 (1 + o)) ++ xm_w (b8, xc_P E b8 0, 3) (fun o => xm_0 (1 + o)) ++ xm_w (b10, xc_P E b10 0, 3) (fun o => xm_0 (1 + o))) := hD
  refine va_astq hx hb hK.1 hP hD hS 4 4 11 2 (r := (RX2, TX2, 6)) rfl rfl rfl rfl (xm_in_s (by decide)) dX4_init_76 (fun H locs hP hD hS => ?_)
  have hP : va_P E.1 vwCl ([(h0, .inr (4, [.int 0, .ref q12_1, .ref q20_2, .ref q28_3, .int 0, .int 20, .int 0, .ref q51_4])), (q12_1, .inl (E.2.1 1, 24, .inl (fun _ => 0))), (q20_2, .inl (E.2.1 0, 24, .inl (fun _ => 0))), (q28_3, .inl (E.2.1 0, 24, .inl (fun _ => 0))), (q51_4, .inl (E.2.1 4, 4, .inr (.inr (.inr (.inr (va_up (va_up (va_up (fun _ => none) (0 : Int32).toNatClampNeg (some (b6 0))) (1 : Int32).toNatClampNeg (some (b8 0))) (2 : Int32).toNatClampNeg (some (b10 0))))))))] ++ xm_w (b6, xc_P E b6 0, 3) (fun o => xm_0 (1 + o)) ++ xm_w (b8, xc_P E b8 0, 3) (fun o => xm_0 (1 + o)) ++ xm_w (b10, xc_P E b10 0, 3) (fun o => xm_0 (1 + o))) H := hP
  have hD : va_D A ([(h0, .inr (4, [.int 0, .ref q12_1, .ref q20_2, .ref q28_3, .int 0, .int 20, .int 0, .ref q51_4])), (q12_1, .inl (E.2.1 1, 24, .inl (fun _ => 0))), (q20_2, .inl (E.2.1 0, 24, .inl (fun _ => 0))), (q28_3, .inl (E.2.1 0, 24, .inl (fun _ => 0))), (q51_4, .inl (E.2.1 4, 4, .inr (.inr (.inr (.inr (va_up (va_up (va_up (fun _ => none) (0 : Int32).toNatClampNeg (some (b6 0))) (1 : Int32).toNatClampNeg (some (b8 0))) (2 : Int32).toNatClampNeg (some (b10 0))))))))] ++ xm_w (b6, xc_P E b6 0, 3) (fun o => xm_0 (1 + o)) ++ xm_w (b8, xc_P E b8 0, 3) (fun o => xm_0 (1 + o)) ++ xm_w (b10, xc_P E b10 0, 3) (fun o => xm_0 (1 + o))) := hD
  refine lv_iinc (v := 3) (lv' := [(1, .int 3), (0, .ref h0)]) hx hb dX4_init_77 hl (k := 0) rfl (by decide) (by decide) rfl (fun ls hl => ?_)
  refine lv_goto (tgt := 59) hx hb dX4_init_80 (by decide) ?_
  refine lv_iload_n hx hb dX4_init_59 rfl (lv_at hl 0 rfl) ?_
  refine lv_iconst (v := 4) hx hb dX4_init_60 (by decide) ?_
  refine lv_icmp_ge (tgt := 83) hx hb dX4_init_61 (by decide) (fun c => absurd c (by decide)) (fun _ => ?_)
  refine lv_aload_n hx hb dX4_init_64 rfl (lv_at hl 1 rfl) ?_
  refine va_get (D := E.1) (ci := 4) (v := .ref q51_4) (C := RX4) (T := TX4) (N := 8) hx hb hts xi_4 hown hK.1 hP 0 rfl rfl 7 (by decide) (hts _ l_X4_37) (fun _ h9 => h9) rfl dX4_init_65 ?_
  refine lv_iload_n hx hb dX4_init_68 rfl (lv_at hl 0 rfl) ?_
  refine va_new (ci := 2) (fs := [.int 0, .int 0, .int 0, .int 0, .null, .null]) (C := RX2) (T := TX2) (N := 6) hx hb hts xi_2 tyX2 tyX2_ok hown (hts _ cl_X4_35) (hts _ ib_X2.1) (hts _ ib_X2.2) hK.1 hP hD hS hA rfl (by decide +kernel) (Nat.le_of_ble_eq_true rfl) (Nat.le_of_ble_eq_true rfl) dX4_init_69 (fun q69_11 H hP hD hS => ?_)
  refine lv_dup hx hb dX4_init_72 rfl ?_
  refine xn_callIN (q := q69_11) (rest := [.ref q69_11, .int 3, .ref q51_4]) hx hb hml hown hts hK hP hD hS hA (c_X2_init l E) ki_X4_41 rfl ⟨(Nat.le_of_ble_eq_true rfl), (Nat.le_of_ble_eq_true rfl)⟩ hl.1 (Nat.le_of_ble_eq_true rfl) ⟨(Nat.le_of_ble_eq_true rfl), (Nat.le_of_ble_eq_true rfl)⟩ dX4_init_73 (fun w1 H locs hw hP hD hS => ?_)
  obtain ⟨b12, rfl, rfl⟩ := hw
  have hP : va_P E.1 vwCl ([(h0, .inr (4, [.int 0, .ref q12_1, .ref q20_2, .ref q28_3, .int 0, .int 20, .int 0, .ref q51_4])), (q12_1, .inl (E.2.1 1, 24, .inl (fun _ => 0))), (q20_2, .inl (E.2.1 0, 24, .inl (fun _ => 0))), (q28_3, .inl (E.2.1 0, 24, .inl (fun _ => 0))), (q51_4, .inl (E.2.1 4, 4, .inr (.inr (.inr (.inr (va_up (va_up (va_up (fun _ => none) (0 : Int32).toNatClampNeg (some (b6 0))) (1 : Int32).toNatClampNeg (some (b8 0))) (2 : Int32).toNatClampNeg (some (b10 0))))))))] ++ xm_w (b6, xc_P E b6 0, 3) (fun o => xm_0 (1 + o)) ++ xm_w (b8, xc_P E b8 0, 3) (fun o => xm_0 (1 + o)) ++ xm_w (b10, xc_P E b10 0, 3) (fun o => xm_0 (1 + o)) ++ xm_w (b12, xc_P E b12 0, 3) (fun o => xm_0 (1 + o))) H := hP
  have hD : va_D A ([(h0, .inr (4, [.int 0, .ref q12_1, .ref q20_2, .ref q28_3, .int 0, .int 20, .int 0, .ref q51_4])), (q12_1, .inl (E.2.1 1, 24, .inl (fun _ => 0))), (q20_2, .inl (E.2.1 0, 24, .inl (fun _ => 0))), (q28_3, .inl (E.2.1 0, 24, .inl (fun _ => 0))), (q51_4, .inl (E.2.1 4, 4, .inr (.inr (.inr (.inr (va_up (va_up (va_up (fun _ => none) (0 : Int32).toNatClampNeg (some (b6 0))) (1 : Int32).toNatClampNeg (some (b8 0))) (2 : Int32).toNatClampNeg (some (b10 0))))))))] ++ xm_w (b6, xc_P E b6 0, 3) (fun o => xm_0 (1 + o)) ++ xm_w (b8, xc_P E b8 0, 3) (fun o => xm_0 (1 + o)) ++ xm_w (b10, xc_P E b10 0, 3) (fun o => xm_0 (1 + o)) ++ xm_w (b12, xc_P E b12 0, 3) (fun o => xm_0 (1 + o))) := hD
  refine va_astq hx hb hK.1 hP hD hS 4 4 14 2 (r := (RX2, TX2, 6)) rfl rfl rfl rfl (xm_in_s (by decide)) dX4_init_76 (fun H locs hP hD hS => ?_)
  have hP : va_P E.1 vwCl ([(h0, .inr (4, [.int 0, .ref q12_1, .ref q20_2, .ref q28_3, .int 0, .int 20, .int 0, .ref q51_4])), (q12_1, .inl (E.2.1 1, 24, .inl (fun _ => 0))), (q20_2, .inl (E.2.1 0, 24, .inl (fun _ => 0))), (q28_3, .inl (E.2.1 0, 24, .inl (fun _ => 0))), (q51_4, .inl (E.2.1 4, 4, .inr (.inr (.inr (.inr (va_up (va_up (va_up (va_up (fun _ => none) (0 : Int32).toNatClampNeg (some (b6 0))) (1 : Int32).toNatClampNeg (some (b8 0))) (2 : Int32).toNatClampNeg (some (b10 0))) (3 : Int32).toNatClampNeg (some (b12 0))))))))] ++ xm_w (b6, xc_P E b6 0, 3) (fun o => xm_0 (1 + o)) ++ xm_w (b8, xc_P E b8 0, 3) (fun o => xm_0 (1 + o)) ++ xm_w (b10, xc_P E b10 0, 3) (fun o => xm_0 (1 + o)) ++ xm_w (b12, xc_P E b12 0, 3) (fun o => xm_0 (1 + o))) H := hP
  have hD : va_D A ([(h0, .inr (4, [.int 0, .ref q12_1, .ref q20_2, .ref q28_3, .int 0, .int 20, .int 0, .ref q51_4])), (q12_1, .inl (E.2.1 1, 24, .inl (fun _ => 0))), (q20_2, .inl (E.2.1 0, 24, .inl (fun _ => 0))), (q28_3, .inl (E.2.1 0, 24, .inl (fun _ => 0))), (q51_4, .inl (E.2.1 4, 4, .inr (.inr (.inr (.inr (va_up (va_up (va_up (va_up (fun _ => none) (0 : Int32).toNatClampNeg (some (b6 0))) (1 : Int32).toNatClampNeg (some (b8 0))) (2 : Int32).toNatClampNeg (some (b10 0))) (3 : Int32).toNatClampNeg (some (b12 0))))))))] ++ xm_w (b6, xc_P E b6 0, 3) (fun o => xm_0 (1 + o)) ++ xm_w (b8, xc_P E b8 0, 3) (fun o => xm_0 (1 + o)) ++ xm_w (b10, xc_P E b10 0, 3) (fun o => xm_0 (1 + o)) ++ xm_w (b12, xc_P E b12 0, 3) (fun o => xm_0 (1 + o))) := hD
  refine lv_iinc (v := 4) (lv' := [(1, .int 4), (0, .ref h0)]) hx hb dX4_init_77 hl (k := 0) rfl (by decide) (by decide) rfl (fun ls hl => ?_)
  refine lv_goto (tgt := 59) hx hb dX4_init_80 (by decide) ?_
  refine lv_iload_n hx hb dX4_init_59 rfl (lv_at hl 0 rfl) ?_
  refine lv_iconst (v := 4) hx hb dX4_init_60 (by decide) ?_
  refine lv_icmp_ge (tgt := 83) hx hb dX4_init_61 (by decide) (fun _ => ?_) (fun c => absurd (by decide) c)
  obtain ⟨bb, hbb⟩ : ∃ bb : Nat → Nat, bb = fun k => if k < 1 then h0 else if k < 2 then q12_1 else if k < 3 then q20_2 else if k < 4 then q28_3 else if k < 5 then q51_4 else if k < 8 then b6 (k - 5) else if k < 11 then b8 (k - 8) else if k < 14 then b10 (k - 11) else b12 (k - 14) := ⟨_, rfl⟩
  have hP := xn_eqv hP (k := 4) (fun j => [some (bb (0 + 5)), some (bb (0 + 8)), some (bb (0 + 11)), some (bb (0 + 14))].getD j none) rfl (xn_j4 (by rw [hbb]; rfl) (by rw [hbb]; rfl) (by rw [hbb]; rfl) (by rw [hbb]; rfl))
  have hD := hD.set (p := 4) (e := .inl (E.2.1 4, 4, .inr (.inr (.inr (.inr (fun j => [some (bb (0 + 5)), some (bb (0 + 8)), some (bb (0 + 11)), some (bb (0 + 14))].getD j none)))))) rfl
  subst A9
  exact xn_ret C hP hD hS (w := xm_w (bb, xc_S E bb 0, 17) (fun o => xm_0 (18 + o))) (by subst hbb; rfl) ⟨bb, by rw [hbb]; rfl, rfl⟩ dX4_init_83 rfl rfl
set_option maxHeartbeats 8000000 in
set_option maxRecDepth 100000 in
theorem c_X0_init (l : Launch) (E : xm_E) : xn_Met l E yX0_init cX0_init 2 3 69 692 53 (.inr (0, [.null, .int 0, .int 0])) (xn_SH E) := by
  refine xn_met (by decide +kernel) rfl rfl (Nat.le_of_ble_eq_true rfl) (fun h0 p e s m below meth c C hP ls hl => ?_)
  have C9 := C
  obtain ⟨hx, hb, hml, hown, hts, hr, hlk, hK, hin⟩ := C9
  obtain ⟨A, A9⟩ : ∃ A : Nat → Prop, va_A [(h0, .inr (0, [.null, .int 0, .int 0]))] s.heap.size = A := ⟨_, rfl⟩
  have hD : va_D A [(h0, .inr (0, [.null, .int 0, .int 0]))] := by
    rw [← A9]
    exact ⟨fun i j p q hi hj _ => by have h1 := (List.getElem?_eq_some_iff.mp hi).1; have h2 := (List.getElem?_eq_some_iff.mp hj).1; simp at h1 h2; omega, fun k q hk => va_A.in hk⟩
  have hA : ∀ q : Nat, s.heap.size ≤ q → A q := fun q h => by rw [← A9]; exact Or.inr h
  have hS : va_S A s.heap s.heap [] := va_S.rf
  refine lv_aload_n hx hb dX0_init_0 rfl (lv_at hl 0 rfl) ?_
  refine W.objInit hx hb hown (hts _ ob_X0_3.1) (hts _ ob_X0_3.2.1) (hts _ ob_X0_3.2.2) rfl (by rw [hml]; exact hl.1) rfl dX0_init_1 (Nat.le_of_ble_eq_true rfl) (Nat.le_of_ble_eq_true rfl) ?_
  refine W.eq (g2 := F0 m 4 ls []) rfl ?_
  refine lv_aload_n hx hb dX0_init_4 rfl (lv_at hl 0 rfl) ?_
  refine lv_iconst (v := 4) hx hb dX0_init_5 (by decide) ?_
  refine xn_newq hx hb hown hts hK cl_X0_9 hK.2.2.2.1 3 rfl hP hD hS hA (N' := 4) (by decide) (by decide) (Nat.le_of_ble_eq_true rfl) (Nat.le_of_ble_eq_true rfl) (Nat.le_of_ble_eq_true rfl) dX0_init_6 (fun q6_1 H hP hD hS => ?_)
  have hP : va_P E.1 vwCl ([(h0, .inr (0, [.null, .int 0, .int 0])), (q6_1, .inl (E.2.1 3, 4, .inr (.inr (.inr (.inr (fun _ => none))))))]) H := hP
  have hD : va_D A ([(h0, .inr (0, [.null, .int 0, .int 0])), (q6_1, .inl (E.2.1 3, 4, .inr (.inr (.inr (.inr (fun _ => none))))))]) := hD
  refine va_putF (D := E.1) (ci := 0) (v := .ref q6_1) (ty := (tyX0 0)) (C := RX0) (T := TX0) (N := 3) hx hb hts xi_0 tyX0 tyX0_ok nmX0 hown hK.1 hP hD hS 0 rfl rfl 0 (by decide) (hts _ l_X0_11) (fun _ h9 => h9) rfl hin rfl (by decide +kernel) rfl rfl (Nat.le_of_ble_eq_true rfl) dX0_init_9 (fun H locs hP hD hS => ?_)
  have hP : va_P E.1 vwCl ([(h0, .inr (0, [.ref q6_1, .int 0, .int 0])), (q6_1, .inl (E.2.1 3, 4, .inr (.inr (.inr (.inr (fun _ => none))))))]) H := hP
  have hD : va_D A ([(h0, .inr (0, [.ref q6_1, .int 0, .int 0])), (q6_1, .inl (E.2.1 3, 4, .inr (.inr (.inr (.inr (fun _ => none))))))]) := hD
  refine lv_aload_n hx hb dX0_init_12 rfl (lv_at hl 0 rfl) ?_
  refine lv_iconst (v := 0) hx hb dX0_init_13 (by decide) ?_
  refine va_put (D := E.1) (ci := 0) (v := .int 0) (ty := (tyX0 1)) (C := RX0) (T := TX0) (N := 3) hx hb hts xi_0 tyX0 tyX0_ok nmX0 hown hK.1 hP hD hS 0 rfl rfl 1 (by decide) (hts _ l_X0_17) (fun _ h9 => h9) rfl (by decide +kernel) rfl rfl (Nat.le_of_ble_eq_true rfl) dX0_init_14 (fun H locs hP hD hS => ?_)
  have hP : va_P E.1 vwCl ([(h0, .inr (0, [.ref q6_1, .int 0, .int 0])), (q6_1, .inl (E.2.1 3, 4, .inr (.inr (.inr (.inr (fun _ => none))))))]) H := hP
  have hD : va_D A ([(h0, .inr (0, [.ref q6_1, .int 0, .int 0])), (q6_1, .inl (E.2.1 3, 4, .inr (.inr (.inr (.inr (fun _ => none))))))]) := hD
  refine lv_aload_n hx hb dX0_init_17 rfl (lv_at hl 0 rfl) ?_
  refine lv_iconst (v := 0) hx hb dX0_init_18 (by decide) ?_
  refine va_put (D := E.1) (ci := 0) (v := .int 0) (ty := (tyX0 2)) (C := RX0) (T := TX0) (N := 3) hx hb hts xi_0 tyX0 tyX0_ok nmX0 hown hK.1 hP hD hS 0 rfl rfl 2 (by decide) (hts _ l_X0_21) (fun _ h9 => h9) rfl (by decide +kernel) rfl rfl (Nat.le_of_ble_eq_true rfl) dX0_init_19 (fun H locs hP hD hS => ?_)
  have hP : va_P E.1 vwCl ([(h0, .inr (0, [.ref q6_1, .int 0, .int 0])), (q6_1, .inl (E.2.1 3, 4, .inr (.inr (.inr (.inr (fun _ => none))))))]) H := hP
  have hD : va_D A ([(h0, .inr (0, [.ref q6_1, .int 0, .int 0])), (q6_1, .inl (E.2.1 3, 4, .inr (.inr (.inr (.inr (fun _ => none))))))]) := hD
  refine lv_iconst (v := 0) hx hb dX0_init_22 (by decide) ?_
  refine lv_istore_n (lv' := [(1, .int 0), (0, .ref h0)]) hx hb dX0_init_23 rfl hl (by decide) rfl (fun ls hl => ?_)
  refine lv_iload_n hx hb dX0_init_24 rfl (lv_at hl 0 rfl) ?_
  refine lv_iconst (v := 4) hx hb dX0_init_25 (by decide) ?_
  refine lv_icmp_ge (tgt := 48) hx hb dX0_init_26 (by decide) (fun c => absurd c (by decide)) (fun _ => ?_)
  refine lv_aload_n hx hb dX0_init_29 rfl (lv_at hl 1 rfl) ?_
  refine va_get (D := E.1) (ci := 0) (v := .ref q6_1) (C := RX0) (T := TX0) (N := 3) hx hb hts xi_0 hown hK.1 hP 0 rfl rfl 0 (by decide) (hts _ l_X0_11) (fun _ h9 => h9) rfl dX0_init_30 ?_
  refine lv_iload_n hx hb dX0_init_33 rfl (lv_at hl 0 rfl) ?_
  refine va_new (ci := 4) (fs := [.int 0, .null, .null, .null, .int 0, .int 0, .int 0, .null]) (C := RX4) (T := TX4) (N := 8) hx hb hts xi_4 tyX4 tyX4_ok hown (hts _ cl_X0_9) (hts _ ib_X4.1) (hts _ ib_X4.2) hK.1 hP hD hS hA rfl (by decide +kernel) (Nat.le_of_ble_eq_true rfl) (Nat.le_of_ble_eq_true rfl) dX0_init_34 (fun q34_2 H hP hD hS => ?_)
  refine lv_dup hx hb dX0_init_37 rfl ?_
  refine xn_callIN (q := q34_2) (rest := [.ref q34_2, .int 0, .ref q6_1]) hx hb hml hown hts hK hP hD hS hA (c_X4_init l E) ki_X0_24 rfl ⟨(Nat.le_of_ble_eq_true rfl), (Nat.le_of_ble_eq_true rfl)⟩ hl.1 (Nat.le_of_ble_eq_true rfl) ⟨(Nat.le_of_ble_eq_true rfl), (Nat.le_of_ble_eq_true rfl)⟩ dX0_init_38 (fun w1 H locs hw hP hD hS => ?_)
  obtain ⟨b3, rfl, rfl⟩ := hw
  have hP : va_P E.1 vwCl ([(h0, .inr (0, [.ref q6_1, .int 0, .int 0])), (q6_1, .inl (E.2.1 3, 4, .inr (.inr (.inr (.inr (fun _ => none))))))] ++ xm_w (b3, xc_S E b3 0, 17) (fun o => xm_0 (18 + o))) H := hP
  have hD : va_D A ([(h0, .inr (0, [.ref q6_1, .int 0, .int 0])), (q6_1, .inl (E.2.1 3, 4, .inr (.inr (.inr (.inr (fun _ => none))))))] ++ xm_w (b3, xc_S E b3 0, 17) (fun o => xm_0 (18 + o))) := hD
  refine va_astq hx hb hK.1 hP hD hS 1 3 2 4 (r := (RX4, TX4, 8)) rfl rfl rfl rfl (xm_in_s (by decide)) dX0_init_41 (fun H locs hP hD hS => ?_)
  have hP : va_P E.1 vwCl ([(h0, .inr (0, [.ref q6_1, .int 0, .int 0])), (q6_1, .inl (E.2.1 3, 4, .inr (.inr (.inr (.inr (va_up (fun _ => none) (0 : Int32).toNatClampNeg (some (b3 0))))))))] ++ xm_w (b3, xc_S E b3 0, 17) (fun o => xm_0 (18 + o))) H := hP
  have hD : va_D A ([(h0, .inr (0, [.ref q6_1, .int 0, .int 0])), (q6_1, .inl (E.2.1 3, 4, .inr (.inr (.inr (.inr (va_up (fun _ => none) (0 : Int32).toNatClampNeg (some (b3 0))))))))] ++ xm_w (b3, xc_S E b3 0, 17) (fun o => xm_0 (18 + o))) := hD
  refine lv_iinc (v := 1) (lv' := [(1, .int 1), (0, .ref h0)]) hx hb dX0_init_42 hl (k := 0) rfl (by decide) (by decide) rfl (fun ls hl => ?_)
  refine lv_goto (tgt := 24) hx hb dX0_init_45 (by decide) ?_
  refine lv_iload_n hx hb dX0_init_24 rfl (lv_at hl 0 rfl) ?_
  refine lv_iconst (v := 4) hx hb dX0_init_25 (by decide) ?_
  refine lv_icmp_ge (tgt := 48) hx hb dX0_init_26 (by decide) (fun c => absurd c (by decide)) (fun _ => ?_)
  refine lv_aload_n hx hb dX0_init_29 rfl (lv_at hl 1 rfl) ?_
  refine va_get (D := E.1) (ci := 0) (v := .ref q6_1) (C := RX0) (T := TX0) (N := 3) hx hb hts xi_0 hown hK.1 hP 0 rfl rfl 0 (by decide) (hts _ l_X0_11) (fun _ h9 => h9) rfl dX0_init_30 ?_
  refine lv_iload_n hx hb dX0_init_33 rfl (lv_at hl 0 rfl) ?_
  refine va_new (ci := 4) (fs := [.int 0, .null, .null, .null, .int 0, .int 0, .int 0, .null]) (C := RX4) (T := TX4) (N := 8) hx hb hts xi_4 tyX4 tyX4_ok hown (hts _ cl_X0_9) (hts _ ib_X4.1) (hts _ ib_X4.2) hK.1 hP hD hS hA rfl (by decide +kernel) (Nat.le_of_ble_eq_true rfl) (Nat.le_of_ble_eq_true rfl) dX0_init_34 (fun q34_4 H hP hD hS => ?_)
  refine lv_dup hx hb dX0_init_37 rfl ?_
  refine xn_callIN (q := q34_4) (rest := [.ref q34_4, .int 1, .ref q6_1]) hx hb hml hown hts hK hP hD hS hA (c_X4_init l E) ki_X0_24 rfl ⟨(Nat.le_of_ble_eq_true rfl), (Nat.le_of_ble_eq_true rfl)⟩ hl.1 (Nat.le_of_ble_eq_true rfl) ⟨(Nat.le_of_ble_eq_true rfl), (Nat.le_of_ble_eq_true rfl)⟩ dX0_init_38 (fun w1 H locs hw hP hD hS => ?_)
  obtain ⟨b5, rfl, rfl⟩ := hw
  have hP : va_P E.1 vwCl ([(h0, .inr (0, [.ref q6_1, .int 0, .int 0])), (q6_1, .inl (E.2.1 3, 4, .inr (.inr (.inr (.inr (va_up (fun _ => none) (0 : Int32).toNatClampNeg (some (b3 0))))))))] ++ xm_w (b3, xc_S E b3 0, 17) (fun o => xm_0 (18 + o)) ++ xm_w (b5, xc_S E b5 0, 17) (fun o => xm_0 (18 + o))) H := hP
  have hD : va_D A ([(h0, .inr (0, [.ref q6_1, .int 0, .int 0])), (q6_1, .inl (E.2.1 3, 4, .inr (.inr (.inr (.inr (va_up (fun _ => none) (0 : Int32).toNatClampNeg (some (b3 0))))))))] ++ xm_w (b3, xc_S E b3 0, 17) (fun o => xm_0 (18 + o)) ++ xm_w (b5, xc_S E b5 0, 17) (fun o => xm_0 (18 + o))) := hD
  refine va_astq hx hb hK.1 hP hD hS 1 3 19 4 (r := (RX4, TX4, 8)) rfl rfl rfl rfl (xm_in_s (by decide)) dX0_init_41 (fun H locs hP hD hS => ?_)
  have hP : va_P E.1 vwCl ([(h0, .inr (0, [.ref q6_1, .int 0, .int 0])), (q6_1, .inl (E.2.1 3, 4, .inr (.inr (.inr (.inr (va_up (va_up (fun _ => none) (0 : Int32).toNatClampNeg (some (b3 0))) (1 : Int32).toNatClampNeg (some (b5 0))))))))] ++ xm_w (b3, xc_S E b3 0, 17) (fun o => xm_0 (18 + o)) ++ xm_w (b5, xc_S E b5 0, 17) (fun o => xm_0 (18 + o))) H := hP
  have hD : va_D A ([(h0, .inr (0, [.ref q6_1, .int 0, .int 0])), (q6_1, .inl (E.2.1 3, 4, .inr (.inr (.inr (.inr (va_up (va_up (fun _ => none) (0 : Int32).toNatClampNeg (some (b3 0))) (1 : Int32).toNatClampNeg (some (b5 0))))))))] ++ xm_w (b3, xc_S E b3 0, 17) (fun o => xm_0 (18 + o)) ++ xm_w (b5, xc_S E b5 0, 17) (fun o => xm_0 (18 + o))) := hD
  refine lv_iinc (v := 2) (lv' := [(1, .int 2), (0, .ref h0)]) hx hb dX0_init_42 hl (k := 0) rfl (by decide) (by decide) rfl (fun ls hl => ?_)
  refine lv_goto (tgt := 24) hx hb dX0_init_45 (by decide) ?_
  refine lv_iload_n hx hb dX0_init_24 rfl (lv_at hl 0 rfl) ?_
  refine lv_iconst (v := 4) hx hb dX0_init_25 (by decide) ?_
  refine lv_icmp_ge (tgt := 48) hx hb dX0_init_26 (by decide) (fun c => absurd c (by decide)) (fun _ => ?_)
  refine lv_aload_n hx hb dX0_init_29 rfl (lv_at hl 1 rfl) ?_
  refine va_get (D := E.1) (ci := 0) (v := .ref q6_1) (C := RX0) (T := TX0) (N := 3) hx hb hts xi_0 hown hK.1 hP 0 rfl rfl 0 (by decide) (hts _ l_X0_11) (fun _ h9 => h9) rfl dX0_init_30 ?_
  refine lv_iload_n hx hb dX0_init_33 rfl (lv_at hl 0 rfl) ?_
  refine va_new (ci := 4) (fs := [.int 0, .null, .null, .null, .int 0, .int 0, .int 0, .null]) (C := RX4) (T := TX4) (N := 8) hx hb hts xi_4 tyX4 tyX4_ok hown (hts _ cl_X0_9) (hts _ ib_X4.1) (hts _ ib_X4.2) hK.1 hP hD hS hA rfl (by decide +kernel) (Nat.le_of_ble_eq_true rfl) (Nat.le_of_ble_eq_true rfl) dX0_init_34 (fun q34_6 H hP hD hS => ?_)
  refine lv_dup hx hb dX0_init_37 rfl ?_
  refine xn_callIN (q := q34_6) (rest := [.ref q34_6, .int 2, .ref q6_1]) hx hb hml hown hts hK hP hD hS hA (c_X4_init l E) ki_X0_24 rfl ⟨(Nat.le_of_ble_eq_true rfl), (Nat.le_of_ble_eq_true rfl)⟩ hl.1 (Nat.le_of_ble_eq_true rfl) ⟨(Nat.le_of_ble_eq_true rfl), (Nat.le_of_ble_eq_true rfl)⟩ dX0_init_38 (fun w1 H locs hw hP hD hS => ?_)
  obtain ⟨b7, rfl, rfl⟩ := hw
  have hP : va_P E.1 vwCl ([(h0, .inr (0, [.ref q6_1, .int 0, .int 0])), (q6_1, .inl (E.2.1 3, 4, .inr (.inr (.inr (.inr (va_up (va_up (fun _ => none) (0 : Int32).toNatClampNeg (some (b3 0))) (1 : Int32).toNatClampNeg (some (b5 0))))))))] ++ xm_w (b3, xc_S E b3 0, 17) (fun o => xm_0 (18 + o)) ++ xm_w (b5, xc_S E b5 0, 17) (fun o => xm_0 (18 + o)) ++ xm_w (b7, xc_S E b7 0, 17) (fun o => xm_0 (18 + o))) H := hP
  have hD : va_D A ([(h0, .inr (0, [.ref q6_1, .int 0, .int 0])), (q6_1, .inl (E.2.1 3, 4, .inr (.inr (.inr (.inr (va_up (va_up (fun _ => none) (0 : Int32).toNatClampNeg (some (b3 0))) (1 : Int32).toNatClampNeg (some (b5 0))))))))] ++ xm_w (b3, xc_S E b3 0, 17) (fun o => xm_0 (18 + o)) ++ xm_w (b5, xc_S E b5 0, 17) (fun o => xm_0 (18 + o)) ++ xm_w (b7, xc_S E b7 0, 17) (fun o => xm_0 (18 + o))) := hD
  refine va_astq hx hb hK.1 hP hD hS 1 3 36 4 (r := (RX4, TX4, 8)) rfl rfl rfl rfl (xm_in_s (by decide)) dX0_init_41 (fun H locs hP hD hS => ?_)
  have hP : va_P E.1 vwCl ([(h0, .inr (0, [.ref q6_1, .int 0, .int 0])), (q6_1, .inl (E.2.1 3, 4, .inr (.inr (.inr (.inr (va_up (va_up (va_up (fun _ => none) (0 : Int32).toNatClampNeg (some (b3 0))) (1 : Int32).toNatClampNeg (some (b5 0))) (2 : Int32).toNatClampNeg (some (b7 0))))))))] ++ xm_w (b3, xc_S E b3 0, 17) (fun o => xm_0 (18 + o)) ++ xm_w (b5, xc_S E b5 0, 17) (fun o => xm_0 (18 + o)) ++ xm_w (b7, xc_S E b7 0, 17) (fun o => xm_0 (18 + o))) H := hP
  have hD : va_D A ([(h0, .inr (0, [.ref q6_1, .int 0, .int 0])), (q6_1, .inl (E.2.1 3, 4, .inr (.inr (.inr (.inr (va_up (va_up (va_up (fun _ => none) (0 : Int32).toNatClampNeg (some (b3 0))) (1 : Int32).toNatClampNeg (some (b5 0))) (2 : Int32).toNatClampNeg (some (b7 0))))))))] ++ xm_w (b3, xc_S E b3 0, 17) (fun o => xm_0 (18 + o)) ++ xm_w (b5, xc_S E b5 0, 17) (fun o => xm_0 (18 + o)) ++ xm_w (b7, xc_S E b7 0, 17) (fun o => xm_0 (18 + o))) := hD
  refine lv_iinc (v := 3) (lv' := [(1, .int 3), (0, .ref h0)]) hx hb dX0_init_42 hl (k := 0) rfl (by decide) (by decide) rfl (fun ls hl => ?_)
  refine lv_goto (tgt := 24) hx hb dX0_init_45 (by decide) ?_
  refine lv_iload_n hx hb dX0_init_24 rfl (lv_at hl 0 rfl) ?_
  refine lv_iconst (v := 4) hx hb dX0_init_25 (by decide) ?_
  refine lv_icmp_ge (tgt := 48) hx hb dX0_init_26 (by decide) (fun c => absurd c (by decide)) (fun _ => ?_)
  refine lv_aload_n hx hb dX0_init_29 rfl (lv_at hl 1 rfl) ?_
  refine va_get (D := E.1) (ci := 0) (v := .ref q6_1) (C := RX0) (T := TX0) (N := 3) hx hb hts xi_0 hown hK.1 hP 0 rfl rfl 0 (by decide) (hts _ l_X0_11) (fun _ h9 => h9) rfl dX0_init_30 ?_
  refine lv_iload_n hx hb dX0_init_33 rfl (lv_at hl 0 rfl) ?_
  refine va_new (ci := 4) (fs := [.int 0, .null, .null, .null, .int 0, .int 0, .int 0, .null]) (C := RX4) (T := TX4) (N := 8) hx hb hts xi_4 tyX4 tyX4_ok hown (hts _ cl_X0_9) (hts _ ib_X4.1) (hts _ ib_X4.2) hK.1 hP hD hS hA rfl (by decide +kernel) (Nat.le_of_ble_eq_true rfl) (Nat.le_of_ble_eq_true rfl) dX0_init_34 (fun q34_8 H hP hD hS => ?_)
  refine lv_dup hx hb dX0_init_37 rfl ?_
  refine xn_callIN (q := q34_8) (rest := [.ref q34_8, .int 3, .ref q6_1]) hx hb hml hown hts hK hP hD hS hA (c_X4_init l E) ki_X0_24 rfl ⟨(Nat.le_of_ble_eq_true rfl), (Nat.le_of_ble_eq_true rfl)⟩ hl.1 (Nat.le_of_ble_eq_true rfl) ⟨(Nat.le_of_ble_eq_true rfl), (Nat.le_of_ble_eq_true rfl)⟩ dX0_init_38 (fun w1 H locs hw hP hD hS => ?_)
  obtain ⟨b9, rfl, rfl⟩ := hw
  have hP : va_P E.1 vwCl ([(h0, .inr (0, [.ref q6_1, .int 0, .int 0])), (q6_1, .inl (E.2.1 3, 4, .inr (.inr (.inr (.inr (va_up (va_up (va_up (fun _ => none) (0 : Int32).toNatClampNeg (some (b3 0))) (1 : Int32).toNatClampNeg (some (b5 0))) (2 : Int32).toNatClampNeg (some (b7 0))))))))] ++ xm_w (b3, xc_S E b3 0, 17) (fun o => xm_0 (18 + o)) ++ xm_w (b5, xc_S E b5 0, 17) (fun o => xm_0 (18 + o)) ++ xm_w (b7, xc_S E b7 0, 17) (fun o => xm_0 (18 + o)) ++ xm_w (b9, xc_S E b9 0, 17) (fun o => xm_0 (18 + o))) H := hP
  have hD : va_D A ([(h0, .inr (0, [.ref q6_1, .int 0, .int 0])), (q6_1, .inl (E.2.1 3, 4, .inr (.inr (.inr (.inr (va_up (va_up (va_up (fun _ => none) (0 : Int32).toNatClampNeg (some (b3 0))) (1 : Int32).toNatClampNeg (some (b5 0))) (2 : Int32).toNatClampNeg (some (b7 0))))))))] ++ xm_w (b3, xc_S E b3 0, 17) (fun o => xm_0 (18 + o)) ++ xm_w (b5, xc_S E b5 0, 17) (fun o => xm_0 (18 + o)) ++ xm_w (b7, xc_S E b7 0, 17) (fun o => xm_0 (18 + o)) ++ xm_w (b9, xc_S E b9 0, 17) (fun o => xm_0 (18 + o))) := hD
  refine va_astq hx hb hK.1 hP hD hS 1 3 53 4 (r := (RX4, TX4, 8)) rfl rfl rfl rfl (xm_in_s (by decide)) dX0_init_41 (fun H locs hP hD hS => ?_)
  have hP : va_P E.1 vwCl ([(h0, .inr (0, [.ref q6_1, .int 0, .int 0])), (q6_1, .inl (E.2.1 3, 4, .inr (.inr (.inr (.inr (va_up (va_up (va_up (va_up (fun _ => none) (0 : Int32).toNatClampNeg (some (b3 0))) (1 : Int32).toNatClampNeg (some (b5 0))) (2 : Int32).toNatClampNeg (some (b7 0))) (3 : Int32).toNatClampNeg (some (b9 0))))))))] ++ xm_w (b3, xc_S E b3 0, 17) (fun o => xm_0 (18 + o)) ++ xm_w (b5, xc_S E b5 0, 17) (fun o => xm_0 (18 + o)) ++ xm_w (b7, xc_S E b7 0, 17) (fun o => xm_0 (18 + o)) ++ xm_w (b9, xc_S E b9 0, 17) (fun o => xm_0 (18 + o))) H := hP
  have hD : va_D A ([(h0, .inr (0, [.ref q6_1, .int 0, .int 0])), (q6_1, .inl (E.2.1 3, 4, .inr (.inr (.inr (.inr (va_up (va_up (va_up (va_up (fun _ => none) (0 : Int32).toNatClampNeg (some (b3 0))) (1 : Int32).toNatClampNeg (some (b5 0))) (2 : Int32).toNatClampNeg (some (b7 0))) (3 : Int32).toNatClampNeg (some (b9 0))))))))] ++ xm_w (b3, xc_S E b3 0, 17) (fun o => xm_0 (18 + o)) ++ xm_w (b5, xc_S E b5 0, 17) (fun o => xm_0 (18 + o)) ++ xm_w (b7, xc_S E b7 0, 17) (fun o => xm_0 (18 + o)) ++ xm_w (b9, xc_S E b9 0, 17) (fun o => xm_0 (18 + o))) := hD
  refine lv_iinc (v := 4) (lv' := [(1, .int 4), (0, .ref h0)]) hx hb dX0_init_42 hl (k := 0) rfl (by decide) (by decide) rfl (fun ls hl => ?_)
  refine lv_goto (tgt := 24) hx hb dX0_init_45 (by decide) ?_
  refine lv_iload_n hx hb dX0_init_24 rfl (lv_at hl 0 rfl) ?_
  refine lv_iconst (v := 4) hx hb dX0_init_25 (by decide) ?_
  refine lv_icmp_ge (tgt := 48) hx hb dX0_init_26 (by decide) (fun _ => ?_) (fun c => absurd (by decide) c)
  obtain ⟨bb, hbb⟩ : ∃ bb : Nat → Nat, bb = fun k => if k < 1 then h0 else if k < 2 then q6_1 else if k < 19 then b3 (k - 2) else if k < 36 then b5 (k - 19) else if k < 53 then b7 (k - 36) else b9 (k - 53) := ⟨_, rfl⟩
  have hP := xn_eqv hP (k := 1) (fun j => [some (bb 2), some (bb 19), some (bb 36), some (bb 53)].getD j none) rfl (xn_j4 (by rw [hbb]; rfl) (by rw [hbb]; rfl) (by rw [hbb]; rfl) (by rw [hbb]; rfl))
  have hD := hD.set (p := 1) (e := .inl (E.2.1 3, 4, .inr (.inr (.inr (.inr (fun j => [some (bb 2), some (bb 19), some (bb 36), some (bb 53)].getD j none)))))) rfl
  subst A9
  exact xn_ret C hP hD hS (w := xm_w (bb, xn_hs E bb, 70) (fun o => if o < 2 then xm_0 (4 + o) else xm_0 (50 + o))) (by subst hbb; rfl) ⟨bb, by rw [hbb]; rfl, rfl⟩ dX0_init_48 rfl rfl
set_option maxHeartbeats 8000000 in
set_option maxRecDepth 100000 in
theorem c_X5_init (l : Launch) (E : xm_E) : xn_Met l E yX5_init cX5_init 1 1 1 80 12 (.inr (5, [.null, .int 0, .int 0])) (xn_SW E) := by
  refine xn_met (by decide +kernel) rfl rfl (Nat.le_of_ble_eq_true rfl) (fun h0 p e s m below meth c C hP ls hl => ?_)
  have C9 := C
  obtain ⟨hx, hb, hml, hown, hts, hr, hlk, hK, hin⟩ := C9
  obtain ⟨A, A9⟩ : ∃ A : Nat → Prop, va_A [(h0, .inr (5, [.null, .int 0, .int 0]))] s.heap.size = A := ⟨_, rfl⟩
  have hD : va_D A [(h0, .inr (5, [.null, .int 0, .int 0]))] := by
    rw [← A9]
    exact ⟨fun i j p q hi hj _ => by have h1 := (List.getElem?_eq_some_iff.mp hi).1; have h2 := (List.getElem?_eq_some_iff.mp hj).1; simp at h1 h2; omega, fun k q hk => va_A.in hk⟩
  have hA : ∀ q : Nat, s.heap.size ≤ q → A q := fun q h => by rw [← A9]; exact Or.inr h
  have hS : va_S A s.heap s.heap [] := va_S.rf
  refine lv_aload_n hx hb dX5_init_0 rfl (lv_at hl 0 rfl) ?_
  refine W.objInit hx hb hown (hts _ ob_X5_3.1) (hts _ ob_X5_3.2.1) (hts _ ob_X5_3.2.2) rfl (by rw [hml]; exact hl.1) rfl dX5_init_1 (Nat.le_of_ble_eq_true rfl) (Nat.le_of_ble_eq_true rfl) ?_
  refine W.eq (g2 := F0 m 4 ls []) rfl ?_
  refine lv_aload_n hx hb dX5_init_4 rfl (lv_at hl 0 rfl) ?_
  refine lv_bipush (v := 80) hx hb dX5_init_5 (by decide) ?_
  refine xn_newa hx hb hts hK (atype := .char) (ty := .char) ac_char rfl 1 rfl (fun cA h1 h2 => xn_ra (fun _ h => by cases h) h1 h2) hP hD hS hA (N' := 80) (a0 := (80, .inl (fun _ => 0))) (fun _ => rfl) (by decide) (by decide) (Nat.le_of_ble_eq_true rfl) (Nat.le_of_ble_eq_true rfl) (Nat.le_of_ble_eq_true rfl) dX5_init_7 (fun q7_1 H hP hD hS => ?_)
  have hP : va_P E.1 vwCl ([(h0, .inr (5, [.null, .int 0, .int 0])), (q7_1, .inl (E.2.1 1, 80, .inl (fun _ => 0)))]) H := hP
  have hD : va_D A ([(h0, .inr (5, [.null, .int 0, .int 0])), (q7_1, .inl (E.2.1 1, 80, .inl (fun _ => 0)))]) := hD
  refine va_putF (D := E.1) (ci := 5) (v := .ref q7_1) (ty := (tyX5 0)) (C := RX5) (T := TX5) (N := 3) hx hb hts xi_5 tyX5 tyX5_ok nmX5 hown hK.1 hP hD hS 0 rfl rfl 0 (by decide) (hts _ l_X5_9) (fun _ h9 => h9) rfl hin rfl (by decide +kernel) rfl rfl (Nat.le_of_ble_eq_true rfl) dX5_init_9 (fun H locs hP hD hS => ?_)
  have hP : va_P E.1 vwCl ([(h0, .inr (5, [.ref q7_1, .int 0, .int 0])), (q7_1, .inl (E.2.1 1, 80, .inl (fun _ => 0)))]) H := hP
  have hD : va_D A ([(h0, .inr (5, [.ref q7_1, .int 0, .int 0])), (q7_1, .inl (E.2.1 1, 80, .inl (fun _ => 0)))]) := hD
  refine lv_aload_n hx hb dX5_init_12 rfl (lv_at hl 0 rfl) ?_
  refine lv_iconst (v := 0) hx hb dX5_init_13 (by decide) ?_
  refine va_put (D := E.1) (ci := 5) (v := .int 0) (ty := (tyX5 1)) (C := RX5) (T := TX5) (N := 3) hx hb hts xi_5 tyX5 tyX5_ok nmX5 hown hK.1 hP hD hS 0 rfl rfl 1 (by decide) (hts _ l_X5_15) (fun _ h9 => h9) rfl (by decide +kernel) rfl rfl (Nat.le_of_ble_eq_true rfl) dX5_init_14 (fun H locs hP hD hS => ?_)
  have hP : va_P E.1 vwCl ([(h0, .inr (5, [.ref q7_1, .int 0, .int 0])), (q7_1, .inl (E.2.1 1, 80, .inl (fun _ => 0)))]) H := hP
  have hD : va_D A ([(h0, .inr (5, [.ref q7_1, .int 0, .int 0])), (q7_1, .inl (E.2.1 1, 80, .inl (fun _ => 0)))]) := hD
  refine lv_aload_n hx hb dX5_init_17 rfl (lv_at hl 0 rfl) ?_
  refine lv_iconst (v := 0) hx hb dX5_init_18 (by decide) ?_
  refine va_put (D := E.1) (ci := 5) (v := .int 0) (ty := (tyX5 2)) (C := RX5) (T := TX5) (N := 3) hx hb hts xi_5 tyX5 tyX5_ok nmX5 hown hK.1 hP hD hS 0 rfl rfl 2 (by decide) (hts _ l_X5_19) (fun _ h9 => h9) rfl (by decide +kernel) rfl rfl (Nat.le_of_ble_eq_true rfl) dX5_init_19 (fun H locs hP hD hS => ?_)
  have hP : va_P E.1 vwCl ([(h0, .inr (5, [.ref q7_1, .int 0, .int 0])), (q7_1, .inl (E.2.1 1, 80, .inl (fun _ => 0)))]) H := hP
  have hD : va_D A ([(h0, .inr (5, [.ref q7_1, .int 0, .int 0])), (q7_1, .inl (E.2.1 1, 80, .inl (fun _ => 0)))]) := hD
  obtain ⟨bb, hbb⟩ : ∃ bb : Nat → Nat, bb = fun k => if k < 1 then h0 else q7_1 := ⟨_, rfl⟩
  subst A9
  exact xn_ret C hP hD hS (w := xm_w (bb, xn_ws E bb, 2) (fun o => xm_0 (6 + o))) (by subst hbb; rfl) ⟨bb, by rw [hbb]; rfl, rfl⟩ dX5_init_22 rfl rfl
set_option maxHeartbeats 8000000 in
set_option maxRecDepth 100000 in
theorem c_X1_init (l : Launch) (E : xm_E) : xn_Met l E yX1_init cX1_init 1 1 4 100 12 (.inr (1, [.int 0, .null, .null, .null, .null])) (xn_SL E) := by
  refine xn_met (by decide +kernel) rfl rfl (Nat.le_of_ble_eq_true rfl) (fun h0 p e s m below meth c C hP ls hl => ?_)
  have C9 := C
  obtain ⟨hx, hb, hml, hown, hts, hr, hlk, hK, hin⟩ := C9
  obtain ⟨A, A9⟩ : ∃ A : Nat → Prop, va_A [(h0, .inr (1, [.int 0, .null, .null, .null, .null]))] s.heap.size = A := ⟨_, rfl⟩
  have hD : va_D A [(h0, .inr (1, [.int 0, .null, .null, .null, .null]))] := by
    rw [← A9]
    exact ⟨fun i j p q hi hj _ => by have h1 := (List.getElem?_eq_some_iff.mp hi).1; have h2 := (List.getElem?_eq_some_iff.mp hj).1; simp at h1 h2; omega, fun k q hk => va_A.in hk⟩
  have hA : ∀ q : Nat, s.heap.size ≤ q → A q := fun q h => by rw [← A9]; exact Or.inr h
  have hS : va_S A s.heap s.heap [] := va_S.rf
  refine lv_aload_n hx hb dX1_init_0 rfl (lv_at hl 0 rfl) ?_
  refine W.objInit hx hb hown (hts _ ob_X1_3.1) (hts _ ob_X1_3.2.1) (hts _ ob_X1_3.2.2) rfl (by rw [hml]; exact hl.1) rfl dX1_init_1 (Nat.le_of_ble_eq_true rfl) (Nat.le_of_ble_eq_true rfl) ?_
  refine W.eq (g2 := F0 m 4 ls []) rfl ?_
  refine lv_aload_n hx hb dX1_init_4 rfl (lv_at hl 0 rfl) ?_
  refine lv_iconst (v := 0) hx hb dX1_init_5 (by decide) ?_
  refine va_put (D := E.1) (ci := 1) (v := .int 0) (ty := (tyX1 0)) (C := RX1) (T := TX1) (N := 5) hx hb hts xi_1 tyX1 tyX1_ok nmX1 hown hK.1 hP hD hS 0 rfl rfl 0 (by decide) (hts _ l_X1_9) (fun _ h9 => h9) rfl (by decide +kernel) rfl rfl (Nat.le_of_ble_eq_true rfl) dX1_init_6 (fun H locs hP hD hS => ?_)
  have hP : va_P E.1 vwCl ([(h0, .inr (1, [.int 0, .null, .null, .null, .null]))]) H := hP
  have hD : va_D A ([(h0, .inr (1, [.int 0, .null, .null, .null, .null]))]) := hD
  refine lv_aload_n hx hb dX1_init_9 rfl (lv_at hl 0 rfl) ?_
  refine lv_bipush (v := 25) hx hb dX1_init_10 (by decide) ?_
  refine xn_newa hx hb hts hK (atype := .int) (ty := .int) ac_int rfl 0 rfl (fun cA h1 h2 => xn_ra (fun _ h => by cases h) h1 h2) hP hD hS hA (N' := 25) (a0 := (25, .inl (fun _ => 0))) (fun _ => rfl) (by decide) (by decide) (Nat.le_of_ble_eq_true rfl) (Nat.le_of_ble_eq_true rfl) (Nat.le_of_ble_eq_true rfl) dX1_init_12 (fun q12_1 H hP hD hS => ?_)
  have hP : va_P E.1 vwCl ([(h0, .inr (1, [.int 0, .null, .null, .null, .null])), (q12_1, .inl (E.2.1 0, 25, .inl (fun _ => 0)))]) H := hP
  have hD : va_D A ([(h0, .inr (1, [.int 0, .null, .null, .null, .null])), (q12_1, .inl (E.2.1 0, 25, .inl (fun _ => 0)))]) := hD
  refine va_putF (D := E.1) (ci := 1) (v := .ref q12_1) (ty := (tyX1 1)) (C := RX1) (T := TX1) (N := 5) hx hb hts xi_1 tyX1 tyX1_ok nmX1 hown hK.1 hP hD hS 0 rfl rfl 1 (by decide) (hts _ l_X1_15) (fun _ h9 => h9) rfl hin rfl (by decide +kernel) rfl rfl (Nat.le_of_ble_eq_true rfl) dX1_init_14 (fun H locs hP hD hS => ?_)
  have hP : va_P E.1 vwCl ([(h0, .inr (1, [.int 0, .ref q12_1, .null, .null, .null])), (q12_1, .inl (E.2.1 0, 25, .inl (fun _ => 0)))]) H := hP
  have hD : va_D A ([(h0, .inr (1, [.int 0, .ref q12_1, .null, .null, .null])), (q12_1, .inl (E.2.1 0, 25, .inl (fun _ => 0)))]) := hD
  refine lv_aload_n hx hb dX1_init_17 rfl (lv_at hl 0 rfl) ?_
  refine lv_bipush (v := 25) hx hb dX1_init_18 (by decide) ?_
  refine xn_newa hx hb hts hK (atype := .char) (ty := .char) ac_char rfl 1 rfl (fun cA h1 h2 => xn_ra (fun _ h => by cases h) h1 h2) hP hD hS hA (N' := 25) (a0 := (25, .inl (fun _ => 0))) (fun _ => rfl) (by decide) (by decide) (Nat.le_of_ble_eq_true rfl) (Nat.le_of_ble_eq_true rfl) (Nat.le_of_ble_eq_true rfl) dX1_init_20 (fun q20_2 H hP hD hS => ?_)
  have hP : va_P E.1 vwCl ([(h0, .inr (1, [.int 0, .ref q12_1, .null, .null, .null])), (q12_1, .inl (E.2.1 0, 25, .inl (fun _ => 0))), (q20_2, .inl (E.2.1 1, 25, .inl (fun _ => 0)))]) H := hP
  have hD : va_D A ([(h0, .inr (1, [.int 0, .ref q12_1, .null, .null, .null])), (q12_1, .inl (E.2.1 0, 25, .inl (fun _ => 0))), (q20_2, .inl (E.2.1 1, 25, .inl (fun _ => 0)))]) := hD
  refine va_putF (D := E.1) (ci := 1) (v := .ref q20_2) (ty := (tyX1 2)) (C := RX1) (T := TX1) (N := 5) hx hb hts xi_1 tyX1 tyX1_ok nmX1 hown hK.1 hP hD hS 0 rfl rfl 2 (by decide) (hts _ l_X1_19) (fun _ h9 => h9) rfl hin rfl (by decide +kernel) rfl rfl (Nat.le_of_ble_eq_true rfl) dX1_init_22 (fun H locs hP hD hS => ?_)
  have hP : va_P E.1 vwCl ([(h0, .inr (1, [.int 0, .ref q12_1, .ref q20_2, .null, .null])), (q12_1, .inl (E.2.1 0, 25, .inl (fun _ => 0))), (q20_2, .inl (E.2.1 1, 25, .inl (fun _ => 0)))]) H := hP
  have hD : va_D A ([(h0, .inr (1, [.int 0, .ref q12_1, .ref q20_2, .null, .null])), (q12_1, .inl (E.2.1 0, 25, .inl (fun _ => 0))), (q20_2, .inl (E.2.1 1, 25, .inl (fun _ => 0)))]) := hD
  refine lv_aload_n hx hb dX1_init_25 rfl (lv_at hl 0 rfl) ?_
  refine lv_bipush (v := 25) hx hb dX1_init_26 (by decide) ?_
  refine xn_newa hx hb hts hK (atype := .int) (ty := .int) ac_int rfl 0 rfl (fun cA h1 h2 => xn_ra (fun _ h => by cases h) h1 h2) hP hD hS hA (N' := 25) (a0 := (25, .inl (fun _ => 0))) (fun _ => rfl) (by decide) (by decide) (Nat.le_of_ble_eq_true rfl) (Nat.le_of_ble_eq_true rfl) (Nat.le_of_ble_eq_true rfl) dX1_init_28 (fun q28_3 H hP hD hS => ?_)
  have hP : va_P E.1 vwCl ([(h0, .inr (1, [.int 0, .ref q12_1, .ref q20_2, .null, .null])), (q12_1, .inl (E.2.1 0, 25, .inl (fun _ => 0))), (q20_2, .inl (E.2.1 1, 25, .inl (fun _ => 0))), (q28_3, .inl (E.2.1 0, 25, .inl (fun _ => 0)))]) H := hP
  have hD : va_D A ([(h0, .inr (1, [.int 0, .ref q12_1, .ref q20_2, .null, .null])), (q12_1, .inl (E.2.1 0, 25, .inl (fun _ => 0))), (q20_2, .inl (E.2.1 1, 25, .inl (fun _ => 0))), (q28_3, .inl (E.2.1 0, 25, .inl (fun _ => 0)))]) := hD
  refine va_putF (D := E.1) (ci := 1) (v := .ref q28_3) (ty := (tyX1 3)) (C := RX1) (T := TX1) (N := 5) hx hb hts xi_1 tyX1 tyX1_ok nmX1 hown hK.1 hP hD hS 0 rfl rfl 3 (by decide) (hts _ l_X1_23) (fun _ h9 => h9) rfl hin rfl (by decide +kernel) rfl rfl (Nat.le_of_ble_eq_true rfl) dX1_init_30 (fun H locs hP hD hS => ?_)
  have hP : va_P E.1 vwCl ([(h0, .inr (1, [.int 0, .ref q12_1, .ref q20_2, .ref q28_3, .null])), (q12_1, .inl (E.2.1 0, 25, .inl (fun _ => 0))), (q20_2, .inl (E.2.1 1, 25, .inl (fun _ => 0))), (q28_3, .inl (E.2.1 0, 25, .inl (fun _ => 0)))]) H := hP
  have hD : va_D A ([(h0, .inr (1, [.int 0, .ref q12_1, .ref q20_2, .ref q28_3, .null])), (q12_1, .inl (E.2.1 0, 25, .inl (fun _ => 0))), (q20_2, .inl (E.2.1 1, 25, .inl (fun _ => 0))), (q28_3, .inl (E.2.1 0, 25, .inl (fun _ => 0)))]) := hD
  refine lv_aload_n hx hb dX1_init_33 rfl (lv_at hl 0 rfl) ?_
  refine lv_bipush (v := 25) hx hb dX1_init_34 (by decide) ?_
  refine xn_newa hx hb hts hK (atype := .int) (ty := .int) ac_int rfl 0 rfl (fun cA h1 h2 => xn_ra (fun _ h => by cases h) h1 h2) hP hD hS hA (N' := 25) (a0 := (25, .inl (fun _ => 0))) (fun _ => rfl) (by decide) (by decide) (Nat.le_of_ble_eq_true rfl) (Nat.le_of_ble_eq_true rfl) (Nat.le_of_ble_eq_true rfl) dX1_init_36 (fun q36_4 H hP hD hS => ?_)
  have hP : va_P E.1 vwCl ([(h0, .inr (1, [.int 0, .ref q12_1, .ref q20_2, .ref q28_3, .null])), (q12_1, .inl (E.2.1 0, 25, .inl (fun _ => 0))), (q20_2, .inl (E.2.1 1, 25, .inl (fun _ => 0))), (q28_3, .inl (E.2.1 0, 25, .inl (fun _ => 0))), (q36_4, .inl (E.2.1 0, 25, .inl (fun _ => 0)))]) H := hP
  have hD : va_D A ([(h0, .inr (1, [.int 0, .ref q12_1, .ref q20_2, .ref q28_3, .null])), (q12_1, .inl (E.2.1 0, 25, .inl (fun _ => 0))), (q20_2, .inl (E.2.1 1, 25, .inl (fun _ => 0))), (q28_3, .inl (E.2.1 0, 25, .inl (fun _ => 0))), (q36_4, .inl (E.2.1 0, 25, .inl (fun _ => 0)))]) := hD
  refine va_putF (D := E.1) (ci := 1) (v := .ref q36_4) (ty := (tyX1 4)) (C := RX1) (T := TX1) (N := 5) hx hb hts xi_1 tyX1 tyX1_ok nmX1 hown hK.1 hP hD hS 0 rfl rfl 4 (by decide) (hts _ l_X1_26) (fun _ h9 => h9) rfl hin rfl (by decide +kernel) rfl rfl (Nat.le_of_ble_eq_true rfl) dX1_init_38 (fun H locs hP hD hS => ?_)
  have hP : va_P E.1 vwCl ([(h0, .inr (1, [.int 0, .ref q12_1, .ref q20_2, .ref q28_3, .ref q36_4])), (q12_1, .inl (E.2.1 0, 25, .inl (fun _ => 0))), (q20_2, .inl (E.2.1 1, 25, .inl (fun _ => 0))), (q28_3, .inl (E.2.1 0, 25, .inl (fun _ => 0))), (q36_4, .inl (E.2.1 0, 25, .inl (fun _ => 0)))]) H := hP
  have hD : va_D A ([(h0, .inr (1, [.int 0, .ref q12_1, .ref q20_2, .ref q28_3, .ref q36_4])), (q12_1, .inl (E.2.1 0, 25, .inl (fun _ => 0))), (q20_2, .inl (E.2.1 1, 25, .inl (fun _ => 0))), (q28_3, .inl (E.2.1 0, 25, .inl (fun _ => 0))), (q36_4, .inl (E.2.1 0, 25, .inl (fun _ => 0)))]) := hD
  obtain ⟨bb, hbb⟩ : ∃ bb : Nat → Nat, bb = fun k => if k < 1 then h0 else if k < 2 then q12_1 else if k < 3 then q20_2 else if k < 4 then q28_3 else q36_4 := ⟨_, rfl⟩
  subst A9
  exact xn_ret C hP hD hS (w := xm_w (bb, xn_ls E bb, 5) (fun o => xm_0 (13 + o))) (by subst hbb; rfl) ⟨bb, by rw [hbb]; rfl, rfl⟩ dX1_init_41 rfl rfl
set_option maxHeartbeats 8000000 in
set_option maxRecDepth 100000 in
theorem c_X3_init (l : Launch) (E : xm_E) : xn_Met l E yX3_init cX3_init 1 2 9 142 32 (.inr (3, [.null, .int 0, .int 0, .int 0, .int 0, .int 0, .int 0, .int 0, .int 0, .null, .null, .null, .int 0, .int 0, .int 0, .null])) (xn_SE E) := by
  refine xn_met (by decide +kernel) rfl rfl (Nat.le_of_ble_eq_true rfl) (fun h0 p e s m below meth c C hP ls hl => ?_)
  have C9 := C
  obtain ⟨hx, hb, hml, hown, hts, hr, hlk, hK, hin⟩ := C9
  obtain ⟨A, A9⟩ : ∃ A : Nat → Prop, va_A [(h0, .inr (3, [.null, .int 0, .int 0, .int 0, .int 0, .int 0, .int 0, .int 0, .int 0, .null, .null, .null, .int 0, .int 0, .int 0, .null]))] s.heap.size = A := ⟨_, rfl⟩
  have hD : va_D A [(h0, .inr (3, [.null, .int 0, .int 0, .int 0, .int 0, .int 0, .int 0, .int 0, .int 0, .null, .null, .null, .int 0, .int 0, .int 0, .null]))] := by
    rw [← A9]
    exact ⟨fun i j p q hi hj _ => by have h1 := (List.getElem?_eq_some_iff.mp hi).1; have h2 := (List.getElem?_eq_some_iff.mp hj).1; simp at h1 h2; omega, fun k q hk => va_A.in hk⟩
  have hA : ∀ q : Nat, s.heap.size ≤ q → A q := fun q h => by rw [← A9]; exact Or.inr h
  have hS : va_S A s.heap s.heap [] := va_S.rf
  refine lv_aload_n hx hb dX3_init_0 rfl (lv_at hl 0 rfl) ?_
  refine W.objInit hx hb hown (hts _ ob_X3_3.1) (hts _ ob_X3_3.2.1) (hts _ ob_X3_3.2.2) rfl (by rw [hml]; exact hl.1) rfl dX3_init_1 (Nat.le_of_ble_eq_true rfl) (Nat.le_of_ble_eq_true rfl) ?_
  refine W.eq (g2 := F0 m 4 ls []) rfl ?_
  refine lv_aload_n hx hb dX3_init_4 rfl (lv_at hl 0 rfl) ?_
  refine va_new (ci := 1) (fs := [.int 0, .null, .null, .null, .null]) (C := RX1) (T := TX1) (N := 5) hx hb hts xi_1 tyX1 tyX1_ok hown (hts _ cl_X3_9) (hts _ ib_X1.1) (hts _ ib_X1.2) hK.1 hP hD hS hA rfl (by decide +kernel) (Nat.le_of_ble_eq_true rfl) (Nat.le_of_ble_eq_true rfl) dX3_init_5 (fun q5_1 H hP hD hS => ?_)
  refine lv_dup hx hb dX3_init_8 rfl ?_
  refine xn_callIN (q := q5_1) (rest := [.ref q5_1, .ref h0]) hx hb hml hown hts hK hP hD hS hA (c_X1_init l E) ki_X3_11 rfl ⟨(Nat.le_of_ble_eq_true rfl), (Nat.le_of_ble_eq_true rfl)⟩ hl.1 (Nat.le_of_ble_eq_true rfl) ⟨(Nat.le_of_ble_eq_true rfl), (Nat.le_of_ble_eq_true rfl)⟩ dX3_init_9 (fun w1 H locs hw hP hD hS => ?_)
  obtain ⟨b2, rfl, rfl⟩ := hw
  have hP : va_P E.1 vwCl ([(h0, .inr (3, [.null, .int 0, .int 0, .int 0, .int 0, .int 0, .int 0, .int 0, .int 0, .null, .null, .null, .int 0, .int 0, .int 0, .null]))] ++ xm_w (b2, xn_ls E b2, 5) (fun o => xm_0 (13 + o))) H := hP
  have hD : va_D A ([(h0, .inr (3, [.null, .int 0, .int 0, .int 0, .int 0, .int 0, .int 0, .int 0, .int 0, .null, .null, .null, .int 0, .int 0, .int 0, .null]))] ++ xm_w (b2, xn_ls E b2, 5) (fun o => xm_0 (13 + o))) := hD
  refine va_putF (D := E.1) (ci := 3) (v := .ref (b2 0)) (ty := (tyX3 0)) (C := RX3) (T := TX3) (N := 16) hx hb hts xi_3 tyX3 tyX3_ok nmX3 hown hK.1 hP hD hS 0 rfl rfl 0 (by decide) (hts _ l_X3_12) (fun _ h9 => h9) rfl hin rfl (by decide +kernel) rfl rfl (Nat.le_of_ble_eq_true rfl) dX3_init_12 (fun H locs hP hD hS => ?_)
  have hP : va_P E.1 vwCl ([(h0, .inr (3, [.ref (b2 0), .int 0, .int 0, .int 0, .int 0, .int 0, .int 0, .int 0, .int 0, .null, .null, .null, .int 0, .int 0, .int 0, .null]))] ++ xm_w (b2, xn_ls E b2, 5) (fun o => xm_0 (13 + o))) H := hP
  have hD : va_D A ([(h0, .inr (3, [.ref (b2 0), .int 0, .int 0, .int 0, .int 0, .int 0, .int 0, .int 0, .int 0, .null, .null, .null, .int 0, .int 0, .int 0, .null]))] ++ xm_w (b2, xn_ls E b2, 5) (fun o => xm_0 (13 + o))) := hD
  refine lv_aload_n hx hb dX3_init_15 rfl (lv_at hl 0 rfl) ?_
  refine lv_iconst (v := 0) hx hb dX3_init_16 (by decide) ?_
  refine va_put (D := E.1) (ci := 3) (v := .int 0) (ty := (tyX3 1)) (C := RX3) (T := TX3) (N := 16) hx hb hts xi_3 tyX3 tyX3_ok nmX3 hown hK.1 hP hD hS 0 rfl rfl 1 (by decide) (hts _ l_X3_18) (fun _ h9 => h9) rfl (by decide +kernel) rfl rfl (Nat.le_of_ble_eq_true rfl) dX3_init_17 (fun H locs hP hD hS => ?_)
  have hP : va_P E.1 vwCl ([(h0, .inr (3, [.ref (b2 0), .int 0, .int 0, .int 0, .int 0, .int 0, .int 0, .int 0, .int 0, .null, .null, .null, .int 0, .int 0, .int 0, .null]))] ++ xm_w (b2, xn_ls E b2, 5) (fun o => xm_0 (13 + o))) H := hP
  have hD : va_D A ([(h0, .inr (3, [.ref (b2 0), .int 0, .int 0, .int 0, .int 0, .int 0, .int 0, .int 0, .int 0, .null, .null, .null, .int 0, .int 0, .int 0, .null]))] ++ xm_w (b2, xn_ls E b2, 5) (fun o => xm_0 (13 + o))) := hD
  refine lv_aload_n hx hb dX3_init_20 rfl (lv_at hl 0 rfl) ?_
  refine lv_iconst (v := 0) hx hb dX3_init_21 (by decide) ?_
  refine va_put (D := E.1) (ci := 3) (v := .int 0) (ty := (tyX3 2)) (C := RX3) (T := TX3) (N := 16) hx hb hts xi_3 tyX3 tyX3_ok nmX3 hown hK.1 hP hD hS 0 rfl rfl 2 (by decide) (hts _ l_X3_22) (fun _ h9 => h9) rfl (by decide +kernel) rfl rfl (Nat.le_of_ble_eq_true rfl) dX3_init_22 (fun H locs hP hD hS => ?_)
  have hP : va_P E.1 vwCl ([(h0, .inr (3, [.ref (b2 0), .int 0, .int 0, .int 0, .int 0, .int 0, .int 0, .int 0, .int 0, .null, .null, .null, .int 0, .int 0, .int 0, .null]))] ++ xm_w (b2, xn_ls E b2, 5) (fun o => xm_0 (13 + o))) H := hP
  have hD : va_D A ([(h0, .inr (3, [.ref (b2 0), .int 0, .int 0, .int 0, .int 0, .int 0, .int 0, .int 0, .int 0, .null, .null, .null, .int 0, .int 0, .int 0, .null]))] ++ xm_w (b2, xn_ls E b2, 5) (fun o => xm_0 (13 + o))) := hD
  refine lv_aload_n hx hb dX3_init_25 rfl (lv_at hl 0 rfl) ?_
  refine lv_iconst (v := (-1)) hx hb dX3_init_26 (by decide) ?_
  refine va_put (D := E.1) (ci := 3) (v := .int (-1)) (ty := (tyX3 3)) (C := RX3) (T := TX3) (N := 16) hx hb hts xi_3 tyX3 tyX3_ok nmX3 hown hK.1 hP hD hS 0 rfl rfl 3 (by decide) (hts _ l_X3_25) (fun _ h9 => h9) rfl (by decide +kernel) rfl rfl (Nat.le_of_ble_eq_true rfl) dX3_init_27 (fun H locs hP hD hS => ?_)
  have hP : va_P E.1 vwCl ([(h0, .inr (3, [.ref (b2 0), .int 0, .int 0, .int (-1), .int 0, .int 0, .int 0, .int 0, .int 0, .null, .null, .null, .int 0, .int 0, .int 0, .null]))] ++ xm_w (b2, xn_ls E b2, 5) (fun o => xm_0 (13 + o))) H := hP
  have hD : va_D A ([(h0, .inr (3, [.ref (b2 0), .int 0, .int 0, .int (-1), .int 0, .int 0, .int 0, .int 0, .int 0, .null, .null, .null, .int 0, .int 0, .int 0, .null]))] ++ xm_w (b2, xn_ls E b2, 5) (fun o => xm_0 (13 + o))) := hD
  refine lv_aload_n hx hb dX3_init_30 rfl (lv_at hl 0 rfl) ?_
  refine lv_iconst (v := 0) hx hb dX3_init_31 (by decide) ?_
  refine va_put (D := E.1) (ci := 3) (v := .int 0) (ty := (tyX3 4)) (C := RX3) (T := TX3) (N := 16) hx hb hts xi_3 tyX3 tyX3_ok nmX3 hown hK.1 hP hD hS 0 rfl rfl 4 (by decide) (hts _ l_X3_28) (fun _ h9 => h9) rfl (by decide +kernel) rfl rfl (Nat.le_of_ble_eq_true rfl) dX3_init_32 (fun H locs hP hD hS => ?_)
  have hP : va_P E.1 vwCl ([(h0, .inr (3, [.ref (b2 0), .int 0, .int 0, .int (-1), .int 0, .int 0, .int 0, .int 0, .int 0, .null, .null, .null, .int 0, .int 0, .int 0, .null]))] ++ xm_w (b2, xn_ls E b2, 5) (fun o => xm_0 (13 + o))) H := hP
  have hD : va_D A ([(h0, .inr (3, [.ref (b2 0), .int 0, .int 0, .int (-1), .int 0, .int 0, .int 0, .int 0, .int 0, .null, .null, .null, .int 0, .int 0, .int 0, .null]))] ++ xm_w (b2, xn_ls E b2, 5) (fun o => xm_0 (13 + o))) := hD
  refine lv_aload_n hx hb dX3_init_35 rfl (lv_at hl 0 rfl) ?_
  refine lv_bipush (v := (-5)) hx hb dX3_init_36 (by decide) ?_
  refine va_put (D := E.1) (ci := 3) (v := .int (-5)) (ty := (tyX3 5)) (C := RX3) (T := TX3) (N := 16) hx hb hts xi_3 tyX3 tyX3_ok nmX3 hown hK.1 hP hD hS 0 rfl rfl 5 (by decide) (hts _ l_X3_31) (fun _ h9 => h9) rfl (by decide +kernel) rfl rfl (Nat.le_of_ble_eq_true rfl) dX3_init_38 (fun H locs hP hD hS => ?_)
  have hP : va_P E.1 vwCl ([(h0, .inr (3, [.ref (b2 0), .int 0, .int 0, .int (-1), .int 0, .int (-5), .int 0, .int 0, .int 0, .null, .null, .null, .int 0, .int 0, .int 0, .null]))] ++ xm_w (b2, xn_ls E b2, 5) (fun o => xm_0 (13 + o))) H := hP
  have hD : va_D A ([(h0, .inr (3, [.ref (b2 0), .int 0, .int 0, .int (-1), .int 0, .int (-5), .int 0, .int 0, .int 0, .null, .null, .null, .int 0, .int 0, .int 0, .null]))] ++ xm_w (b2, xn_ls E b2, 5) (fun o => xm_0 (13 + o))) := hD
  refine lv_aload_n hx hb dX3_init_41 rfl (lv_at hl 0 rfl) ?_
  refine lv_iconst (v := 0) hx hb dX3_init_42 (by decide) ?_
  refine va_put (D := E.1) (ci := 3) (v := .int 0) (ty := (tyX3 6)) (C := RX3) (T := TX3) (N := 16) hx hb hts xi_3 tyX3 tyX3_ok nmX3 hown hK.1 hP hD hS 0 rfl rfl 6 (by decide) (hts _ l_X3_34) (fun _ h9 => h9) rfl (by decide +kernel) rfl rfl (Nat.le_of_ble_eq_true rfl) dX3_init_43 (fun H locs hP hD hS => ?_)
  have hP : va_P E.1 vwCl ([(h0, .inr (3, [.ref (b2 0), .int 0, .int 0, .int (-1), .int 0, .int (-5), .int 0, .int 0, .int 0, .null, .null, .null, .int 0, .int 0, .int 0, .null]))] ++ xm_w (b2, xn_ls E b2, 5) (fun o => xm_0 (13 + o))) H := hP
  have hD : va_D A ([(h0, .inr (3, [.ref (b2 0), .int 0, .int 0, .int (-1), .int 0, .int (-5), .int 0, .int 0, .int 0, .null, .null, .null, .int 0, .int 0, .int 0, .null]))] ++ xm_w (b2, xn_ls E b2, 5) (fun o => xm_0 (13 + o))) := hD
  refine lv_aload_n hx hb dX3_init_46 rfl (lv_at hl 0 rfl) ?_
  refine lv_iconst (v := 0) hx hb dX3_init_47 (by decide) ?_
  refine va_put (D := E.1) (ci := 3) (v := .int 0) (ty := (tyX3 7)) (C := RX3) (T := TX3) (N := 16) hx hb hts xi_3 tyX3 tyX3_ok nmX3 hown hK.1 hP hD hS 0 rfl rfl 7 (by decide) (hts _ l_X3_37) (fun _ h9 => h9) rfl (by decide +kernel) rfl rfl (Nat.le_of_ble_eq_true rfl) dX3_init_48 (fun H locs hP hD hS => ?_)
  have hP : va_P E.1 vwCl ([(h0, .inr (3, [.ref (b2 0), .int 0, .int 0, .int (-1), .int 0, .int (-5), .int 0, .int 0, .int 0, .null, .null, .null, .int 0, .int 0, .int 0, .null]))] ++ xm_w (b2, xn_ls E b2, 5) (fun o => xm_0 (13 + o))) H := hP
  have hD : va_D A ([(h0, .inr (3, [.ref (b2 0), .int 0, .int 0, .int (-1), .int 0, .int (-5), .int 0, .int 0, .int 0, .null, .null, .null, .int 0, .int 0, .int 0, .null]))] ++ xm_w (b2, xn_ls E b2, 5) (fun o => xm_0 (13 + o))) := hD
  refine lv_aload_n hx hb dX3_init_51 rfl (lv_at hl 0 rfl) ?_
  refine lv_iconst (v := 0) hx hb dX3_init_52 (by decide) ?_
  refine va_put (D := E.1) (ci := 3) (v := .int 0) (ty := (tyX3 8)) (C := RX3) (T := TX3) (N := 16) hx hb hts xi_3 tyX3 tyX3_ok nmX3 hown hK.1 hP hD hS 0 rfl rfl 8 (by decide) (hts _ l_X3_40) (fun _ h9 => h9) rfl (by decide +kernel) rfl rfl (Nat.le_of_ble_eq_true rfl) dX3_init_53 (fun H locs hP hD hS => ?_)
  have hP : va_P E.1 vwCl ([(h0, .inr (3, [.ref (b2 0), .int 0, .int 0, .int (-1), .int 0, .int (-5), .int 0, .int 0, .int 0, .null, .null, .null, .int 0, .int 0, .int 0, .null]))] ++ xm_w (b2, xn_ls E b2, 5) (fun o => xm_0 (13 + o))) H := hP
  have hD : va_D A ([(h0, .inr (3, [.ref (b2 0), .int 0, .int 0, .int (-1), .int 0, .int (-5), .int 0, .int 0, .int 0, .null, .null, .null, .int 0, .int 0, .int 0, .null]))] ++ xm_w (b2, xn_ls E b2, 5) (fun o => xm_0 (13 + o))) := hD
  refine lv_aload_n hx hb dX3_init_56 rfl (lv_at hl 0 rfl) ?_
  refine lv_iconst (v := 4) hx hb dX3_init_57 (by decide) ?_
  refine xn_newa hx hb hts hK (atype := .char) (ty := .char) ac_char rfl 1 rfl (fun cA h1 h2 => xn_ra (fun _ h => by cases h) h1 h2) hP hD hS hA (N' := 4) (a0 := (4, .inl (fun _ => 0))) (fun _ => rfl) (by decide) (by decide) (Nat.le_of_ble_eq_true rfl) (Nat.le_of_ble_eq_true rfl) (Nat.le_of_ble_eq_true rfl) dX3_init_58 (fun q58_3 H hP hD hS => ?_)
  have hP : va_P E.1 vwCl ([(h0, .inr (3, [.ref (b2 0), .int 0, .int 0, .int (-1), .int 0, .int (-5), .int 0, .int 0, .int 0, .null, .null, .null, .int 0, .int 0, .int 0, .null]))] ++ xm_w (b2, xn_ls E b2, 5) (fun o => xm_0 (13 + o)) ++ [(q58_3, .inl (E.2.1 1, 4, .inl (fun _ => 0)))]) H := hP
  have hD : va_D A ([(h0, .inr (3, [.ref (b2 0), .int 0, .int 0, .int (-1), .int 0, .int (-5), .int 0, .int 0, .int 0, .null, .null, .null, .int 0, .int 0, .int 0, .null]))] ++ xm_w (b2, xn_ls E b2, 5) (fun o => xm_0 (13 + o)) ++ [(q58_3, .inl (E.2.1 1, 4, .inl (fun _ => 0)))]) := hD
  refine va_putF (D := E.1) (ci := 3) (v := .ref q58_3) (ty := (tyX3 9)) (C := RX3) (T := TX3) (N := 16) hx hb hts xi_3 tyX3 tyX3_ok nmX3 hown hK.1 hP hD hS 0 rfl rfl 9 (by decide) (hts _ l_X3_43) (fun _ h9 => h9) rfl hin rfl (by decide +kernel) rfl rfl (Nat.le_of_ble_eq_true rfl) dX3_init_60 (fun H locs hP hD hS => ?_)
  have hP : va_P E.1 vwCl ([(h0, .inr (3, [.ref (b2 0), .int 0, .int 0, .int (-1), .int 0, .int (-5), .int 0, .int 0, .int 0, .ref q58_3, .null, .null, .int 0, .int 0, .int 0, .null]))] ++ xm_w (b2, xn_ls E b2, 5) (fun o => xm_0 (13 + o)) ++ [(q58_3, .inl (E.2.1 1, 4, .inl (fun _ => 0)))]) H := hP
  have hD : va_D A ([(h0, .inr (3, [.ref (b2 0), .int 0, .int 0, .int (-1), .int 0, .int (-5), .int 0, .int 0, .int 0, .ref q58_3, .null, .null, .int 0, .int 0, .int 0, .null]))] ++ xm_w (b2, xn_ls E b2, 5) (fun o => xm_0 (13 + o)) ++ [(q58_3, .inl (E.2.1 1, 4, .inl (fun _ => 0)))]) := hD
  refine lv_aload_n hx hb dX3_init_63 rfl (lv_at hl 0 rfl) ?_
  refine lv_iconst (v := 4) hx hb dX3_init_64 (by decide) ?_
  refine xn_newa hx hb hts hK (atype := .char) (ty := .char) ac_char rfl 1 rfl (fun cA h1 h2 => xn_ra (fun _ h => by cases h) h1 h2) hP hD hS hA (N' := 4) (a0 := (4, .inl (fun _ => 0))) (fun _ => rfl) (by decide) (by decide) (Nat.le_of_ble_eq_true rfl) (Nat.le_of_ble_eq_true rfl) (Nat.le_of_ble_eq_true rfl) dX3_init_65 (fun q65_4 H hP hD hS => ?_)
  have hP : va_P E.1 vwCl ([(h0, .inr (3, [.ref (b2 0), .int 0, .int 0, .int (-1), .int 0, .int (-5), .int 0, .int 0, .int 0, .ref q58_3, .null, .null, .int 0, .int 0, .int 0, .null]))] ++ xm_w (b2, xn_ls E b2, 5) (fun o => xm_0 (13 + o)) ++ [(q58_3, .inl (E.2.1 1, 4, .inl (fun _ => 0))), (q65_4, .inl (E.2.1 1, 4, .inl (fun _ => 0)))]) H := hP
  have hD : va_D A ([(h0, .inr (3, [.ref (b2 0), .int 0, .int 0, .int (-1), .int 0, .int (-5), .int 0, .int 0, .int 0, .ref q58_3, .null, .null, .int 0, .int 0, .int 0, .null]))] ++ xm_w (b2, xn_ls E b2, 5) (fun o => xm_0 (13 + o)) ++ [(q58_3, .inl (E.2.1 1, 4, .inl (fun _ => 0))), (q65_4, .inl (E.2.1 1, 4, .inl (fun _ => 0)))]) := hD
  refine va_putF (D := E.1) (ci := 3) (v := .ref q65_4) (ty := (tyX3 10)) (C := RX3) (T := TX3) (N := 16) hx hb hts xi_3 tyX3 tyX3_ok nmX3 hown hK.1 hP hD hS 0 rfl rfl 10 (by decide) (hts _ l_X3_47) (fun _ h9 => h9) rfl hin rfl (by decide +kernel) rfl rfl (Nat.le_of_ble_eq_true rfl) dX3_init_67 (fun H locs hP hD hS => ?_)
  have hP : va_P E.1 vwCl ([(h0, .inr (3, [.ref (b2 0), .int 0, .int 0, .int (-1), .int 0, .int (-5), .int 0, .int 0, .int 0, .ref q58_3, .ref q65_4, .null, .int 0, .int 0, .int 0, .null]))] ++ xm_w (b2, xn_ls E b2, 5) (fun o => xm_0 (13 + o)) ++ [(q58_3, .inl (E.2.1 1, 4, .inl (fun _ => 0))), (q65_4, .inl (E.2.1 1, 4, .inl (fun _ => 0)))]) H := hP
  have hD : va_D A ([(h0, .inr (3, [.ref (b2 0), .int 0, .int 0, .int (-1), .int 0, .int (-5), .int 0, .int 0, .int 0, .ref q58_3, .ref q65_4, .null, .int 0, .int 0, .int 0, .null]))] ++ xm_w (b2, xn_ls E b2, 5) (fun o => xm_0 (13 + o)) ++ [(q58_3, .inl (E.2.1 1, 4, .inl (fun _ => 0))), (q65_4, .inl (E.2.1 1, 4, .inl (fun _ => 0)))]) := hD
  refine lv_aload_n hx hb dX3_init_70 rfl (lv_at hl 0 rfl) ?_
  refine lv_iconst (v := 4) hx hb dX3_init_71 (by decide) ?_
  refine xn_newa hx hb hts hK (atype := .int) (ty := .int) ac_int rfl 0 rfl (fun cA h1 h2 => xn_ra (fun _ h => by cases h) h1 h2) hP hD hS hA (N' := 4) (a0 := (4, .inl (fun _ => 0))) (fun _ => rfl) (by decide) (by decide) (Nat.le_of_ble_eq_true rfl) (Nat.le_of_ble_eq_true rfl) (Nat.le_of_ble_eq_true rfl) dX3_init_72 (fun q72_5 H hP hD hS => ?_)
  have hP : va_P E.1 vwCl ([(h0, .inr (3, [.ref (b2 0), .int 0, .int 0, .int (-1), .int 0, .int (-5), .int 0, .int 0, .int 0, .ref q58_3, .ref q65_4, .null, .int 0, .int 0, .int 0, .null]))] ++ xm_w (b2, xn_ls E b2, 5) (fun o => xm_0 (13 + o)) ++ [(q58_3, .inl (E.2.1 1, 4, .inl (fun _ => 0))), (q65_4, .inl (E.2.1 1, 4, .inl (fun _ => 0))), (q72_5, .inl (E.2.1 0, 4, .inl (fun _ => 0)))]) H := hP
  have hD : va_D A ([(h0, .inr (3, [.ref (b2 0), .int 0, .int 0, .int (-1), .int 0, .int (-5), .int 0, .int 0, .int 0, .ref q58_3, .ref q65_4, .null, .int 0, .int 0, .int 0, .null]))] ++ xm_w (b2, xn_ls E b2, 5) (fun o => xm_0 (13 + o)) ++ [(q58_3, .inl (E.2.1 1, 4, .inl (fun _ => 0))), (q65_4, .inl (E.2.1 1, 4, .inl (fun _ => 0))), (q72_5, .inl (E.2.1 0, 4, .inl (fun _ => 0)))]) := hD
  refine va_putF (D := E.1) (ci := 3) (v := .ref q72_5) (ty := (tyX3 11)) (C := RX3) (T := TX3) (N := 16) hx hb hts xi_3 tyX3 tyX3_ok nmX3 hown hK.1 hP hD hS 0 rfl rfl 11 (by decide) (hts _ l_X3_50) (fun _ h9 => h9) rfl hin rfl (by decide +kernel) rfl rfl (Nat.le_of_ble_eq_true rfl) dX3_init_74 (fun H locs hP hD hS => ?_)
  have hP : va_P E.1 vwCl ([(h0, .inr (3, [.ref (b2 0), .int 0, .int 0, .int (-1), .int 0, .int (-5), .int 0, .int 0, .int 0, .ref q58_3, .ref q65_4, .ref q72_5, .int 0, .int 0, .int 0, .null]))] ++ xm_w (b2, xn_ls E b2, 5) (fun o => xm_0 (13 + o)) ++ [(q58_3, .inl (E.2.1 1, 4, .inl (fun _ => 0))), (q65_4, .inl (E.2.1 1, 4, .inl (fun _ => 0))), (q72_5, .inl (E.2.1 0, 4, .inl (fun _ => 0)))]) H := hP
  have hD : va_D A ([(h0, .inr (3, [.ref (b2 0), .int 0, .int 0, .int (-1), .int 0, .int (-5), .int 0, .int 0, .int 0, .ref q58_3, .ref q65_4, .ref q72_5, .int 0, .int 0, .int 0, .null]))] ++ xm_w (b2, xn_ls E b2, 5) (fun o => xm_0 (13 + o)) ++ [(q58_3, .inl (E.2.1 1, 4, .inl (fun _ => 0))), (q65_4, .inl (E.2.1 1, 4, .inl (fun _ => 0))), (q72_5, .inl (E.2.1 0, 4, .inl (fun _ => 0)))]) := hD
  refine lv_aload_n hx hb dX3_init_77 rfl (lv_at hl 0 rfl) ?_
  refine lv_iconst (v := 0) hx hb dX3_init_78 (by decide) ?_
  refine va_put (D := E.1) (ci := 3) (v := .int 0) (ty := (tyX3 12)) (C := RX3) (T := TX3) (N := 16) hx hb hts xi_3 tyX3 tyX3_ok nmX3 hown hK.1 hP hD hS 0 rfl rfl 12 (by decide) (hts _ l_X3_54) (fun _ h9 => h9) rfl (by decide +kernel) rfl rfl (Nat.le_of_ble_eq_true rfl) dX3_init_79 (fun H locs hP hD hS => ?_)
  have hP : va_P E.1 vwCl ([(h0, .inr (3, [.ref (b2 0), .int 0, .int 0, .int (-1), .int 0, .int (-5), .int 0, .int 0, .int 0, .ref q58_3, .ref q65_4, .ref q72_5, .int 0, .int 0, .int 0, .null]))] ++ xm_w (b2, xn_ls E b2, 5) (fun o => xm_0 (13 + o)) ++ [(q58_3, .inl (E.2.1 1, 4, .inl (fun _ => 0))), (q65_4, .inl (E.2.1 1, 4, .inl (fun _ => 0))), (q72_5, .inl (E.2.1 0, 4, .inl (fun _ => 0)))]) H := hP
  have hD : va_D A ([(h0, .inr (3, [.ref (b2 0), .int 0, .int 0, .int (-1), .int 0, .int (-5), .int 0, .int 0, .int 0, .ref q58_3, .ref q65_4, .ref q72_5, .int 0, .int 0, .int 0, .null]))] ++ xm_w (b2, xn_ls E b2, 5) (fun o => xm_0 (13 + o)) ++ [(q58_3, .inl (E.2.1 1, 4, .inl (fun _ => 0))), (q65_4, .inl (E.2.1 1, 4, .inl (fun _ => 0))), (q72_5, .inl (E.2.1 0, 4, .inl (fun _ => 0)))]) := hD
  refine lv_aload_n hx hb dX3_init_82 rfl (lv_at hl 0 rfl) ?_
  refine lv_iconst (v := 0) hx hb dX3_init_83 (by decide) ?_
  refine va_put (D := E.1) (ci := 3) (v := .int 0) (ty := (tyX3 13)) (C := RX3) (T := TX3) (N := 16) hx hb hts xi_3 tyX3 tyX3_ok nmX3 hown hK.1 hP hD hS 0 rfl rfl 13 (by decide) (hts _ l_X3_57) (fun _ h9 => h9) rfl (by decide +kernel) rfl rfl (Nat.le_of_ble_eq_true rfl) dX3_init_84 (fun H locs hP hD hS => ?_)
  have hP : va_P E.1 vwCl ([(h0, .inr (3, [.ref (b2 0), .int 0, .int 0, .int (-1), .int 0, .int (-5), .int 0, .int 0, .int 0, .ref q58_3, .ref q65_4, .ref q72_5, .int 0, .int 0, .int 0, .null]))] ++ xm_w (b2, xn_ls E b2, 5) (fun o => xm_0 (13 + o)) ++ [(q58_3, .inl (E.2.1 1, 4, .inl (fun _ => 0))), (q65_4, .inl (E.2.1 1, 4, .inl (fun _ => 0))), (q72_5, .inl (E.2.1 0, 4, .inl (fun _ => 0)))]) H := hP
  have hD : va_D A ([(h0, .inr (3, [.ref (b2 0), .int 0, .int 0, .int (-1), .int 0, .int (-5), .int 0, .int 0, .int 0, .ref q58_3, .ref q65_4, .ref q72_5, .int 0, .int 0, .int 0, .null]))] ++ xm_w (b2, xn_ls E b2, 5) (fun o => xm_0 (13 + o)) ++ [(q58_3, .inl (E.2.1 1, 4, .inl (fun _ => 0))), (q65_4, .inl (E.2.1 1, 4, .inl (fun _ => 0))), (q72_5, .inl (E.2.1 0, 4, .inl (fun _ => 0)))]) := hD
  refine lv_aload_n hx hb dX3_init_87 rfl (lv_at hl 0 rfl) ?_
  refine lv_iconst (v := 0) hx hb dX3_init_88 (by decide) ?_
  refine va_put (D := E.1) (ci := 3) (v := .int 0) (ty := (tyX3 14)) (C := RX3) (T := TX3) (N := 16) hx hb hts xi_3 tyX3 tyX3_ok nmX3 hown hK.1 hP hD hS 0 rfl rfl 14 (by decide) (hts _ l_X3_60) (fun _ h9 => h9) rfl (by decide +kernel) rfl rfl (Nat.le_of_ble_eq_true rfl) dX3_init_89 (fun H locs hP hD hS => ?_)
  have hP : va_P E.1 vwCl ([(h0, .inr (3, [.ref (b2 0), .int 0, .int 0, .int (-1), .int 0, .int (-5), .int 0, .int 0, .int 0, .ref q58_3, .ref q65_4, .ref q72_5, .int 0, .int 0, .int 0, .null]))] ++ xm_w (b2, xn_ls E b2, 5) (fun o => xm_0 (13 + o)) ++ [(q58_3, .inl (E.2.1 1, 4, .inl (fun _ => 0))), (q65_4, .inl (E.2.1 1, 4, .inl (fun _ => 0))), (q72_5, .inl (E.2.1 0, 4, .inl (fun _ => 0)))]) H := hP
  have hD : va_D A ([(h0, .inr (3, [.ref (b2 0), .int 0, .int 0, .int (-1), .int 0, .int (-5), .int 0, .int 0, .int 0, .ref q58_3, .ref q65_4, .ref q72_5, .int 0, .int 0, .int 0, .null]))] ++ xm_w (b2, xn_ls E b2, 5) (fun o => xm_0 (13 + o)) ++ [(q58_3, .inl (E.2.1 1, 4, .inl (fun _ => 0))), (q65_4, .inl (E.2.1 1, 4, .inl (fun _ => 0))), (q72_5, .inl (E.2.1 0, 4, .inl (fun _ => 0)))]) := hD
  refine lv_aload_n hx hb dX3_init_92 rfl (lv_at hl 0 rfl) ?_
  refine lv_bipush (v := 25) hx hb dX3_init_93 (by decide) ?_
  refine xn_newa hx hb hts hK (atype := .int) (ty := .int) ac_int rfl 0 rfl (fun cA h1 h2 => xn_ra (fun _ h => by cases h) h1 h2) hP hD hS hA (N' := 25) (a0 := (25, .inl (fun _ => 0))) (fun _ => rfl) (by decide) (by decide) (Nat.le_of_ble_eq_true rfl) (Nat.le_of_ble_eq_true rfl) (Nat.le_of_ble_eq_true rfl) dX3_init_95 (fun q95_6 H hP hD hS => ?_)
  have hP : va_P E.1 vwCl ([(h0, .inr (3, [.ref (b2 0), .int 0, .int 0, .int (-1), .int 0, .int (-5), .int 0, .int 0, .int 0, .ref q58_3, .ref q65_4, .ref q72_5, .int 0, .int 0, .int 0, .null]))] ++ xm_w (b2, xn_ls E b2, 5) (fun o => xm_0 (13 + o)) ++ [(q58_3, .inl (E.2.1 1, 4, .inl (fun _ => 0))), (q65_4, .inl (E.2.1 1, 4, .inl (fun _ => 0))), (q72_5, .inl (E.2.1 0, 4, .inl (fun _ => 0))), (q95_6, .inl (E.2.1 0, 25, .inl (fun _ => 0)))]) H := hP
  have hD : va_D A ([(h0, .inr (3, [.ref (b2 0), .int 0, .int 0, .int (-1), .int 0, .int (-5), .int 0, .int 0, .int 0, .ref q58_3, .ref q65_4, .ref q72_5, .int 0, .int 0, .int 0, .null]))] ++ xm_w (b2, xn_ls E b2, 5) (fun o => xm_0 (13 + o)) ++ [(q58_3, .inl (E.2.1 1, 4, .inl (fun _ => 0))), (q65_4, .inl (E.2.1 1, 4, .inl (fun _ => 0))), (q72_5, .inl (E.2.1 0, 4, .inl (fun _ => 0))), (q95_6, .inl (E.2.1 0, 25, .inl (fun _ => 0)))]) := hD
  refine va_putF (D := E.1) (ci := 3) (v := .ref q95_6) (ty := (tyX3 15)) (C := RX3) (T := TX3) (N := 16) hx hb hts xi_3 tyX3 tyX3_ok nmX3 hown hK.1 hP hD hS 0 rfl rfl 15 (by decide) (hts _ l_X3_63) (fun _ h9 => h9) rfl hin rfl (by decide +kernel) rfl rfl (Nat.le_of_ble_eq_true rfl) dX3_init_97 (fun H locs hP hD hS => ?_)
  have hP : va_P E.1 vwCl ([(h0, .inr (3, [.ref (b2 0), .int 0, .int 0, .int (-1), .int 0, .int (-5), .int 0, .int 0, .int 0, .ref q58_3, .ref q65_4, .ref q72_5, .int 0, .int 0, .int 0, .ref q95_6]))] ++ xm_w (b2, xn_ls E b2, 5) (fun o => xm_0 (13 + o)) ++ [(q58_3, .inl (E.2.1 1, 4, .inl (fun _ => 0))), (q65_4, .inl (E.2.1 1, 4, .inl (fun _ => 0))), (q72_5, .inl (E.2.1 0, 4, .inl (fun _ => 0))), (q95_6, .inl (E.2.1 0, 25, .inl (fun _ => 0)))]) H := hP
  have hD : va_D A ([(h0, .inr (3, [.ref (b2 0), .int 0, .int 0, .int (-1), .int 0, .int (-5), .int 0, .int 0, .int 0, .ref q58_3, .ref q65_4, .ref q72_5, .int 0, .int 0, .int 0, .ref q95_6]))] ++ xm_w (b2, xn_ls E b2, 5) (fun o => xm_0 (13 + o)) ++ [(q58_3, .inl (E.2.1 1, 4, .inl (fun _ => 0))), (q65_4, .inl (E.2.1 1, 4, .inl (fun _ => 0))), (q72_5, .inl (E.2.1 0, 4, .inl (fun _ => 0))), (q95_6, .inl (E.2.1 0, 25, .inl (fun _ => 0)))]) := hD
  obtain ⟨bb, hbb⟩ : ∃ bb : Nat → Nat, bb = fun k => if k < 1 then h0 else if k < 2 then q58_3 else if k < 3 then q65_4 else if k < 4 then q72_5 else if k < 5 then q95_6 else b2 (k - 5) := ⟨_, rfl⟩
  have hP : va_P E.1 vwCl (xm_w (bb, xn_es E bb, 10) (fun o => xm_0 (8 + o))) H := hP.sub [0, 6, 7, 8, 9, 1, 2, 3, 4, 5] (by subst hbb; rfl)
  have hD : va_D A (xm_w (bb, xn_es E bb, 10) (fun o => xm_0 (8 + o))) := hD.sub [0, 6, 7, 8, 9, 1, 2, 3, 4, 5] (by decide +kernel) (by subst hbb; rfl)
  subst A9
  exact xn_ret C hP hD hS rfl ⟨bb, by rw [hbb]; rfl, rfl⟩ dX3_init_100 rfl rfl
set_option maxHeartbeats 8000000 in
set_option maxRecDepth 100000 in
theorem c_X6_init (l : Launch) (E : xm_E) : xn_Met l E yX6_init cX6_init 1 4 119 1302 74 (.inr (6, [.null, .null, .int 0, .null, .null, .null, .null])) (xn_SX E) := by
  refine xn_met (by decide +kernel) rfl rfl (Nat.le_of_ble_eq_true rfl) (fun h0 p e s m below meth c C hP ls hl => ?_)
  have C9 := C
  obtain ⟨hx, hb, hml, hown, hts, hr, hlk, hK, hin⟩ := C9
  obtain ⟨A, A9⟩ : ∃ A : Nat → Prop, va_A [(h0, .inr (6, [.null, .null, .int 0, .null, .null, .null, .null]))] s.heap.size = A := ⟨_, rfl⟩
  have hD : va_D A [(h0, .inr (6, [.null, .null, .int 0, .null, .null, .null, .null]))] := by
    rw [← A9]
    exact ⟨fun i j p q hi hj _ => by have h1 := (List.getElem?_eq_some_iff.mp hi).1; have h2 := (List.getElem?_eq_some_iff.mp hj).1; simp at h1 h2; omega, fun k q hk => va_A.in hk⟩
  have hA : ∀ q : Nat, s.heap.size ≤ q → A q := fun q h => by rw [← A9]; exact Or.inr h
  have hS : va_S A s.heap s.heap [] := va_S.rf
  refine lv_aload_n hx hb dX6_init_0 rfl (lv_at hl 0 rfl) ?_
  refine W.objInit hx hb hown (hts _ ob_X6_1.1) (hts _ ob_X6_1.2.1) (hts _ ob_X6_1.2.2) rfl (by rw [hml]; exact hl.1) rfl dX6_init_1 (Nat.le_of_ble_eq_true rfl) (Nat.le_of_ble_eq_true rfl) ?_
  refine W.eq (g2 := F0 m 4 ls []) rfl ?_
  refine lv_aload_n hx hb dX6_init_4 rfl (lv_at hl 0 rfl) ?_
  refine va_new (ci := 4) (fs := [.int 0, .null, .null, .null, .int 0, .int 0, .int 0, .null]) (C := RX4) (T := TX4) (N := 8) hx hb hts xi_4 tyX4 tyX4_ok hown (hts _ cl_X6_7) (hts _ ib_X4.1) (hts _ ib_X4.2) hK.1 hP hD hS hA rfl (by decide +kernel) (Nat.le_of_ble_eq_true rfl) (Nat.le_of_ble_eq_true rfl) dX6_init_5 (fun q5_1 H hP hD hS => ?_)
  refine lv_dup hx hb dX6_init_8 rfl ?_
  refine xn_callIN (q := q5_1) (rest := [.ref q5_1, .ref h0]) hx hb hml hown hts hK hP hD hS hA (c_X4_init l E) ki_X6_9 rfl ⟨(Nat.le_of_ble_eq_true rfl), (Nat.le_of_ble_eq_true rfl)⟩ hl.1 (Nat.le_of_ble_eq_true rfl) ⟨(Nat.le_of_ble_eq_true rfl), (Nat.le_of_ble_eq_true rfl)⟩ dX6_init_9 (fun w1 H locs hw hP hD hS => ?_)
  obtain ⟨b2, rfl, rfl⟩ := hw
  have hP : va_P E.1 vwCl ([(h0, .inr (6, [.null, .null, .int 0, .null, .null, .null, .null]))] ++ xm_w (b2, xc_S E b2 0, 17) (fun o => xm_0 (18 + o))) H := hP
  have hD : va_D A ([(h0, .inr (6, [.null, .null, .int 0, .null, .null, .null, .null]))] ++ xm_w (b2, xc_S E b2 0, 17) (fun o => xm_0 (18 + o))) := hD
  refine va_putF (D := E.1) (ci := 6) (v := .ref (b2 0)) (ty := (tyX6 0)) (C := RX6) (T := TX6) (N := 7) hx hb hts xi_6 tyX6 tyX6_ok nmX6 hown hK.1 hP hD hS 0 rfl rfl 0 (by decide) (hts _ l_X6_10) (fun _ h9 => h9) rfl hin rfl (by decide +kernel) rfl rfl (Nat.le_of_ble_eq_true rfl) dX6_init_12 (fun H locs hP hD hS => ?_)
  have hP : va_P E.1 vwCl ([(h0, .inr (6, [.ref (b2 0), .null, .int 0, .null, .null, .null, .null]))] ++ xm_w (b2, xc_S E b2 0, 17) (fun o => xm_0 (18 + o))) H := hP
  have hD : va_D A ([(h0, .inr (6, [.ref (b2 0), .null, .int 0, .null, .null, .null, .null]))] ++ xm_w (b2, xc_S E b2 0, 17) (fun o => xm_0 (18 + o))) := hD
  refine lv_aload_n hx hb dX6_init_15 rfl (lv_at hl 0 rfl) ?_
  refine va_new (ci := 4) (fs := [.int 0, .null, .null, .null, .int 0, .int 0, .int 0, .null]) (C := RX4) (T := TX4) (N := 8) hx hb hts xi_4 tyX4 tyX4_ok hown (hts _ cl_X6_7) (hts _ ib_X4.1) (hts _ ib_X4.2) hK.1 hP hD hS hA rfl (by decide +kernel) (Nat.le_of_ble_eq_true rfl) (Nat.le_of_ble_eq_true rfl) dX6_init_16 (fun q16_3 H hP hD hS => ?_)
  refine lv_dup hx hb dX6_init_19 rfl ?_
  refine xn_callIN (q := q16_3) (rest := [.ref q16_3, .ref h0]) hx hb hml hown hts hK hP hD hS hA (c_X4_init l E) ki_X6_9 rfl ⟨(Nat.le_of_ble_eq_true rfl), (Nat.le_of_ble_eq_true rfl)⟩ hl.1 (Nat.le_of_ble_eq_true rfl) ⟨(Nat.le_of_ble_eq_true rfl), (Nat.le_of_ble_eq_true rfl)⟩ dX6_init_20 (fun w1 H locs hw hP hD hS => ?_)
  obtain ⟨b4, rfl, rfl⟩ := hw
  have hP : va_P E.1 vwCl ([(h0, .inr (6, [.ref (b2 0), .null, .int 0, .null, .null, .null, .null]))] ++ xm_w (b2, xc_S E b2 0, 17) (fun o => xm_0 (18 + o)) ++ xm_w (b4, xc_S E b4 0, 17) (fun o => xm_0 (18 + o))) H := hP
  have hD : va_D A ([(h0, .inr (6, [.ref (b2 0), .null, .int 0, .null, .null, .null, .null]))] ++ xm_w (b2, xc_S E b2 0, 17) (fun o => xm_0 (18 + o)) ++ xm_w (b4, xc_S E b4 0, 17) (fun o => xm_0 (18 + o))) := hD
  refine va_putF (D := E.1) (ci := 6) (v := .ref (b4 0)) (ty := (tyX6 1)) (C := RX6) (T := TX6) (N := 7) hx hb hts xi_6 tyX6 tyX6_ok nmX6 hown hK.1 hP hD hS 0 rfl rfl 1 (by decide) (hts _ l_X6_16) (fun _ h9 => h9) rfl hin rfl (by decide +kernel) rfl rfl (Nat.le_of_ble_eq_true rfl) dX6_init_23 (fun H locs hP hD hS => ?_)
  have hP : va_P E.1 vwCl ([(h0, .inr (6, [.ref (b2 0), .ref (b4 0), .int 0, .null, .null, .null, .null]))] ++ xm_w (b2, xc_S E b2 0, 17) (fun o => xm_0 (18 + o)) ++ xm_w (b4, xc_S E b4 0, 17) (fun o => xm_0 (18 + o))) H := hP
  have hD : va_D A ([(h0, .inr (6, [.ref (b2 0), .ref (b4 0), .int 0, .null, .null, .null, .null]))] ++ xm_w (b2, xc_S E b2 0, 17) (fun o => xm_0 (18 + o)) ++ xm_w (b4, xc_S E b4 0, 17) (fun o => xm_0 (18 + o))) := hD
  refine lv_aload_n hx hb dX6_init_26 rfl (lv_at hl 0 rfl) ?_
  refine lv_iconst (v := 0) hx hb dX6_init_27 (by decide) ?_
  refine va_put (D := E.1) (ci := 6) (v := .int 0) (ty := (tyX6 2)) (C := RX6) (T := TX6) (N := 7) hx hb hts xi_6 tyX6 tyX6_ok nmX6 hown hK.1 hP hD hS 0 rfl rfl 2 (by decide) (hts _ l_X6_19) (fun _ h9 => h9) rfl (by decide +kernel) rfl rfl (Nat.le_of_ble_eq_true rfl) dX6_init_28 (fun H locs hP hD hS => ?_)
  have hP : va_P E.1 vwCl ([(h0, .inr (6, [.ref (b2 0), .ref (b4 0), .int 0, .null, .null, .null, .null]))] ++ xm_w (b2, xc_S E b2 0, 17) (fun o => xm_0 (18 + o)) ++ xm_w (b4, xc_S E b4 0, 17) (fun o => xm_0 (18 + o))) H := hP
  have hD : va_D A ([(h0, .inr (6, [.ref (b2 0), .ref (b4 0), .int 0, .null, .null, .null, .null]))] ++ xm_w (b2, xc_S E b2 0, 17) (fun o => xm_0 (18 + o)) ++ xm_w (b4, xc_S E b4 0, 17) (fun o => xm_0 (18 + o))) := hD
  refine lv_aload_n hx hb dX6_init_31 rfl (lv_at hl 0 rfl) ?_
  refine va_new (ci := 0) (fs := [.null, .int 0, .int 0]) (C := RX0) (T := TX0) (N := 3) hx hb hts xi_0 tyX0 tyX0_ok hown (hts _ cl_X6_23) (hts _ ib_X0.1) (hts _ ib_X0.2) hK.1 hP hD hS hA rfl (by decide +kernel) (Nat.le_of_ble_eq_true rfl) (Nat.le_of_ble_eq_true rfl) dX6_init_32 (fun q32_5 H hP hD hS => ?_)
  refine lv_dup hx hb dX6_init_35 rfl ?_
  refine xn_callIN (q := q32_5) (rest := [.ref q32_5, .ref h0]) hx hb hml hown hts hK hP hD hS hA (c_X0_init l E) ki_X6_25 rfl ⟨(Nat.le_of_ble_eq_true rfl), (Nat.le_of_ble_eq_true rfl)⟩ hl.1 (Nat.le_of_ble_eq_true rfl) ⟨(Nat.le_of_ble_eq_true rfl), (Nat.le_of_ble_eq_true rfl)⟩ dX6_init_36 (fun w1 H locs hw hP hD hS => ?_)
  obtain ⟨b6, rfl, rfl⟩ := hw
  have hP : va_P E.1 vwCl ([(h0, .inr (6, [.ref (b2 0), .ref (b4 0), .int 0, .null, .null, .null, .null]))] ++ xm_w (b2, xc_S E b2 0, 17) (fun o => xm_0 (18 + o)) ++ xm_w (b4, xc_S E b4 0, 17) (fun o => xm_0 (18 + o)) ++ xm_w (b6, xn_hs E b6, 70) (fun o => if o < 2 then xm_0 (4 + o) else xm_0 (50 + o))) H := hP
  have hD : va_D A ([(h0, .inr (6, [.ref (b2 0), .ref (b4 0), .int 0, .null, .null, .null, .null]))] ++ xm_w (b2, xc_S E b2 0, 17) (fun o => xm_0 (18 + o)) ++ xm_w (b4, xc_S E b4 0, 17) (fun o => xm_0 (18 + o)) ++ xm_w (b6, xn_hs E b6, 70) (fun o => if o < 2 then xm_0 (4 + o) else xm_0 (50 + o))) := hD
  refine va_putF (D := E.1) (ci := 6) (v := .ref (b6 0)) (ty := (tyX6 3)) (C := RX6) (T := TX6) (N := 7) hx hb hts xi_6 tyX6 tyX6_ok nmX6 hown hK.1 hP hD hS 0 rfl rfl 3 (by decide) (hts _ l_X6_26) (fun _ h9 => h9) rfl hin rfl (by decide +kernel) rfl rfl (Nat.le_of_ble_eq_true rfl) dX6_init_39 (fun H locs hP hD hS => ?_)
  have hP : va_P E.1 vwCl ([(h0, .inr (6, [.ref (b2 0), .ref (b4 0), .int 0, .ref (b6 0), .null, .null, .null]))] ++ xm_w (b2, xc_S E b2 0, 17) (fun o => xm_0 (18 + o)) ++ xm_w (b4, xc_S E b4 0, 17) (fun o => xm_0 (18 + o)) ++ xm_w (b6, xn_hs E b6, 70) (fun o => if o < 2 then xm_0 (4 + o) else xm_0 (50 + o))) H := hP
  have hD : va_D A ([(h0, .inr (6, [.ref (b2 0), .ref (b4 0), .int 0, .ref (b6 0), .null, .null, .null]))] ++ xm_w (b2, xc_S E b2 0, 17) (fun o => xm_0 (18 + o)) ++ xm_w (b4, xc_S E b4 0, 17) (fun o => xm_0 (18 + o)) ++ xm_w (b6, xn_hs E b6, 70) (fun o => if o < 2 then xm_0 (4 + o) else xm_0 (50 + o))) := hD
  refine lv_aload_n hx hb dX6_init_42 rfl (lv_at hl 0 rfl) ?_
  refine va_new (ci := 5) (fs := [.null, .int 0, .int 0]) (C := RX5) (T := TX5) (N := 3) hx hb hts xi_5 tyX5 tyX5_ok hown (hts _ cl_X6_30) (hts _ ib_X5.1) (hts _ ib_X5.2) hK.1 hP hD hS hA rfl (by decide +kernel) (Nat.le_of_ble_eq_true rfl) (Nat.le_of_ble_eq_true rfl) dX6_init_43 (fun q43_7 H hP hD hS => ?_)
  refine lv_dup hx hb dX6_init_46 rfl ?_
  refine xn_callIN (q := q43_7) (rest := [.ref q43_7, .ref h0]) hx hb hml hown hts hK hP hD hS hA (c_X5_init l E) ki_X6_32 rfl ⟨(Nat.le_of_ble_eq_true rfl), (Nat.le_of_ble_eq_true rfl)⟩ hl.1 (Nat.le_of_ble_eq_true rfl) ⟨(Nat.le_of_ble_eq_true rfl), (Nat.le_of_ble_eq_true rfl)⟩ dX6_init_47 (fun w1 H locs hw hP hD hS => ?_)
  obtain ⟨b8, rfl, rfl⟩ := hw
  have hP : va_P E.1 vwCl ([(h0, .inr (6, [.ref (b2 0), .ref (b4 0), .int 0, .ref (b6 0), .null, .null, .null]))] ++ xm_w (b2, xc_S E b2 0, 17) (fun o => xm_0 (18 + o)) ++ xm_w (b4, xc_S E b4 0, 17) (fun o => xm_0 (18 + o)) ++ xm_w (b6, xn_hs E b6, 70) (fun o => if o < 2 then xm_0 (4 + o) else xm_0 (50 + o)) ++ xm_w (b8, xn_ws E b8, 2) (fun o => xm_0 (6 + o))) H := hP
  have hD : va_D A ([(h0, .inr (6, [.ref (b2 0), .ref (b4 0), .int 0, .ref (b6 0), .null, .null, .null]))] ++ xm_w (b2, xc_S E b2 0, 17) (fun o => xm_0 (18 + o)) ++ xm_w (b4, xc_S E b4 0, 17) (fun o => xm_0 (18 + o)) ++ xm_w (b6, xn_hs E b6, 70) (fun o => if o < 2 then xm_0 (4 + o) else xm_0 (50 + o)) ++ xm_w (b8, xn_ws E b8, 2) (fun o => xm_0 (6 + o))) := hD
  refine va_putF (D := E.1) (ci := 6) (v := .ref (b8 0)) (ty := (tyX6 4)) (C := RX6) (T := TX6) (N := 7) hx hb hts xi_6 tyX6 tyX6_ok nmX6 hown hK.1 hP hD hS 0 rfl rfl 4 (by decide) (hts _ l_X6_33) (fun _ h9 => h9) rfl hin rfl (by decide +kernel) rfl rfl (Nat.le_of_ble_eq_true rfl) dX6_init_50 (fun H locs hP hD hS => ?_)
  have hP : va_P E.1 vwCl ([(h0, .inr (6, [.ref (b2 0), .ref (b4 0), .int 0, .ref (b6 0), .ref (b8 0), .null, .null]))] ++ xm_w (b2, xc_S E b2 0, 17) (fun o => xm_0 (18 + o)) ++ xm_w (b4, xc_S E b4 0, 17) (fun o => xm_0 (18 + o)) ++ xm_w (b6, xn_hs E b6, 70) (fun o => if o < 2 then xm_0 (4 + o) else xm_0 (50 + o)) ++ xm_w (b8, xn_ws E b8, 2) (fun o => xm_0 (6 + o))) H := hP
  have hD : va_D A ([(h0, .inr (6, [.ref (b2 0), .ref (b4 0), .int 0, .ref (b6 0), .ref (b8 0), .null, .null]))] ++ xm_w (b2, xc_S E b2 0, 17) (fun o => xm_0 (18 + o)) ++ xm_w (b4, xc_S E b4 0, 17) (fun o => xm_0 (18 + o)) ++ xm_w (b6, xn_hs E b6, 70) (fun o => if o < 2 then xm_0 (4 + o) else xm_0 (50 + o)) ++ xm_w (b8, xn_ws E b8, 2) (fun o => xm_0 (6 + o))) := hD
  refine lv_aload_n hx hb dX6_init_53 rfl (lv_at hl 0 rfl) ?_
  refine va_new (ci := 2) (fs := [.int 0, .int 0, .int 0, .int 0, .null, .null]) (C := RX2) (T := TX2) (N := 6) hx hb hts xi_2 tyX2 tyX2_ok hown (hts _ cl_X6_37) (hts _ ib_X2.1) (hts _ ib_X2.2) hK.1 hP hD hS hA rfl (by decide +kernel) (Nat.le_of_ble_eq_true rfl) (Nat.le_of_ble_eq_true rfl) dX6_init_54 (fun q54_9 H hP hD hS => ?_)
  refine lv_dup hx hb dX6_init_57 rfl ?_
  refine xn_callIN (q := q54_9) (rest := [.ref q54_9, .ref h0]) hx hb hml hown hts hK hP hD hS hA (c_X2_init l E) ki_X6_39 rfl ⟨(Nat.le_of_ble_eq_true rfl), (Nat.le_of_ble_eq_true rfl)⟩ hl.1 (Nat.le_of_ble_eq_true rfl) ⟨(Nat.le_of_ble_eq_true rfl), (Nat.le_of_ble_eq_true rfl)⟩ dX6_init_58 (fun w1 H locs hw hP hD hS => ?_)
  obtain ⟨b10, rfl, rfl⟩ := hw
  have hP : va_P E.1 vwCl ([(h0, .inr (6, [.ref (b2 0), .ref (b4 0), .int 0, .ref (b6 0), .ref (b8 0), .null, .null]))] ++ xm_w (b2, xc_S E b2 0, 17) (fun o => xm_0 (18 + o)) ++ xm_w (b4, xc_S E b4 0, 17) (fun o => xm_0 (18 + o)) ++ xm_w (b6, xn_hs E b6, 70) (fun o => if o < 2 then xm_0 (4 + o) else xm_0 (50 + o)) ++ xm_w (b8, xn_ws E b8, 2) (fun o => xm_0 (6 + o)) ++ xm_w (b10, xc_P E b10 0, 3) (fun o => xm_0 (1 + o))) H := hP
  have hD : va_D A ([(h0, .inr (6, [.ref (b2 0), .ref (b4 0), .int 0, .ref (b6 0), .ref (b8 0), .null, .null]))] ++ xm_w (b2, xc_S E b2 0, 17) (fun o => xm_0 (18 + o)) ++ xm_w (b4, xc_S E b4 0, 17) (fun o => xm_0 (18 + o)) ++ xm_w (b6, xn_hs E b6, 70) (fun o => if o < 2 then xm_0 (4 + o) else xm_0 (50 + o)) ++ xm_w (b8, xn_ws E b8, 2) (fun o => xm_0 (6 + o)) ++ xm_w (b10, xc_P E b10 0, 3) (fun o => xm_0 (1 + o))) := hD
  refine va_putF (D := E.1) (ci := 6) (v := .ref (b10 0)) (ty := (tyX6 5)) (C := RX6) (T := TX6) (N := 7) hx hb hts xi_6 tyX6 tyX6_ok nmX6 hown hK.1 hP hD hS 0 rfl rfl 5 (by decide) (hts _ l_X6_40) (fun _ h9 => h9) rfl hin rfl (by decide +kernel) rfl rfl (Nat.le_of_ble_eq_true rfl) dX6_init_61 (fun H locs hP hD hS => ?_)
  have hP : va_P E.1 vwCl ([(h0, .inr (6, [.ref (b2 0), .ref (b4 0), .int 0, .ref (b6 0), .ref (b8 0), .ref (b10 0), .null]))] ++ xm_w (b2, xc_S E b2 0, 17) (fun o => xm_0 (18 + o)) ++ xm_w (b4, xc_S E b4 0, 17) (fun o => xm_0 (18 + o)) ++ xm_w (b6, xn_hs E b6, 70) (fun o => if o < 2 then xm_0 (4 + o) else xm_0 (50 + o)) ++ xm_w (b8, xn_ws E b8, 2) (fun o => xm_0 (6 + o)) ++ xm_w (b10, xc_P E b10 0, 3) (fun o => xm_0 (1 + o))) H := hP
  have hD : va_D A ([(h0, .inr (6, [.ref (b2 0), .ref (b4 0), .int 0, .ref (b6 0), .ref (b8 0), .ref (b10 0), .null]))] ++ xm_w (b2, xc_S E b2 0, 17) (fun o => xm_0 (18 + o)) ++ xm_w (b4, xc_S E b4 0, 17) (fun o => xm_0 (18 + o)) ++ xm_w (b6, xn_hs E b6, 70) (fun o => if o < 2 then xm_0 (4 + o) else xm_0 (50 + o)) ++ xm_w (b8, xn_ws E b8, 2) (fun o => xm_0 (6 + o)) ++ xm_w (b10, xc_P E b10 0, 3) (fun o => xm_0 (1 + o))) := hD
  refine lv_aload_n hx hb dX6_init_64 rfl (lv_at hl 0 rfl) ?_
  refine va_new (ci := 3) (fs := [.null, .int 0, .int 0, .int 0, .int 0, .int 0, .int 0, .int 0, .int 0, .null, .null, .null, .int 0, .int 0, .int 0, .null]) (C := RX3) (T := TX3) (N := 16) hx hb hts xi_3 tyX3 tyX3_ok hown (hts _ cl_X6_44) (hts _ ib_X3.1) (hts _ ib_X3.2) hK.1 hP hD hS hA rfl (by decide +kernel) (Nat.le_of_ble_eq_true rfl) (Nat.le_of_ble_eq_true rfl) dX6_init_65 (fun q65_11 H hP hD hS => ?_)
  refine lv_dup hx hb dX6_init_68 rfl ?_
  refine xn_callIN (q := q65_11) (rest := [.ref q65_11, .ref h0]) hx hb hml hown hts hK hP hD hS hA (c_X3_init l E) ki_X6_46 rfl ⟨(Nat.le_of_ble_eq_true rfl), (Nat.le_of_ble_eq_true rfl)⟩ hl.1 (Nat.le_of_ble_eq_true rfl) ⟨(Nat.le_of_ble_eq_true rfl), (Nat.le_of_ble_eq_true rfl)⟩ dX6_init_69 (fun w1 H locs hw hP hD hS => ?_)
  obtain ⟨b12, rfl, rfl⟩ := hw
  have hP : va_P E.1 vwCl ([(h0, .inr (6, [.ref (b2 0), .ref (b4 0), .int 0, .ref (b6 0), .ref (b8 0), .ref (b10 0), .null]))] ++ xm_w (b2, xc_S E b2 0, 17) (fun o => xm_0 (18 + o)) ++ xm_w (b4, xc_S E b4 0, 17) (fun o => xm_0 (18 + o)) ++ xm_w (b6, xn_hs E b6, 70) (fun o => if o < 2 then xm_0 (4 + o) else xm_0 (50 + o)) ++ xm_w (b8, xn_ws E b8, 2) (fun o => xm_0 (6 + o)) ++ xm_w (b10, xc_P E b10 0, 3) (fun o => xm_0 (1 + o)) ++ xm_w (b12, xn_es E b12, 10) (fun o => xm_0 (8 + o))) H := hP
  have hD : va_D A ([(h0, .inr (6, [.ref (b2 0), .ref (b4 0), .int 0, .ref (b6 0), .ref (b8 0), .ref (b10 0), .null]))] ++ xm_w (b2, xc_S E b2 0, 17) (fun o => xm_0 (18 + o)) ++ xm_w (b4, xc_S E b4 0, 17) (fun o => xm_0 (18 + o)) ++ xm_w (b6, xn_hs E b6, 70) (fun o => if o < 2 then xm_0 (4 + o) else xm_0 (50 + o)) ++ xm_w (b8, xn_ws E b8, 2) (fun o => xm_0 (6 + o)) ++ xm_w (b10, xc_P E b10 0, 3) (fun o => xm_0 (1 + o)) ++ xm_w (b12, xn_es E b12, 10) (fun o => xm_0 (8 + o))) := hD
  refine va_putF (D := E.1) (ci := 6) (v := .ref (b12 0)) (ty := (tyX6 6)) (C := RX6) (T := TX6) (N := 7) hx hb hts xi_6 tyX6 tyX6_ok nmX6 hown hK.1 hP hD hS 0 rfl rfl 6 (by decide) (hts _ l_X6_47) (fun _ h9 => h9) rfl hin rfl (by decide +kernel) rfl rfl (Nat.le_of_ble_eq_true rfl) dX6_init_72 (fun H locs hP hD hS => ?_)
  have hP : va_P E.1 vwCl ([(h0, .inr (6, [.ref (b2 0), .ref (b4 0), .int 0, .ref (b6 0), .ref (b8 0), .ref (b10 0), .ref (b12 0)]))] ++ xm_w (b2, xc_S E b2 0, 17) (fun o => xm_0 (18 + o)) ++ xm_w (b4, xc_S E b4 0, 17) (fun o => xm_0 (18 + o)) ++ xm_w (b6, xn_hs E b6, 70) (fun o => if o < 2 then xm_0 (4 + o) else xm_0 (50 + o)) ++ xm_w (b8, xn_ws E b8, 2) (fun o => xm_0 (6 + o)) ++ xm_w (b10, xc_P E b10 0, 3) (fun o => xm_0 (1 + o)) ++ xm_w (b12, xn_es E b12, 10) (fun o => xm_0 (8 + o))) H := hP
  have hD : va_D A ([(h0, .inr (6, [.ref (b2 0), .ref (b4 0), .int 0, .ref (b6 0), .ref (b8 0), .ref (b10 0), .ref (b12 0)]))] ++ xm_w (b2, xc_S E b2 0, 17) (fun o => xm_0 (18 + o)) ++ xm_w (b4, xc_S E b4 0, 17) (fun o => xm_0 (18 + o)) ++ xm_w (b6, xn_hs E b6, 70) (fun o => if o < 2 then xm_0 (4 + o) else xm_0 (50 + o)) ++ xm_w (b8, xn_ws E b8, 2) (fun o => xm_0 (6 + o)) ++ xm_w (b10, xc_P E b10 0, 3) (fun o => xm_0 (1 + o)) ++ xm_w (b12, xn_es E b12, 10) (fun o => xm_0 (8 + o))) := hD
  obtain ⟨bb, hbb⟩ : ∃ bb : Nat → Nat, bb = fun k => if k < 1 then h0 else if k < 4 then b10 (k - 1) else if k < 6 then b6 (k - 4) else if k < 8 then b8 (k - 6) else if k < 18 then b12 (k - 8) else if k < 35 then b2 (k - 18) else if k < 52 then b4 (k - 35) else b6 (k - 50) := ⟨_, rfl⟩
  have hP : va_P E.1 vwCl (xm_w (xv E bb) xm_0) H := hP.sub [0, 107, 108, 109, 35, 36, 105, 106, 110, 111, 112, 113, 114, 115, 116, 117, 118, 119, 1, 2, 3, 4, 5, 6, 7, 8, 9, 10, 11, 12, 13, 14, 15, 16, 17, 18, 19, 20, 21, 22, 23, 24, 25, 26, 27, 28, 29, 30, 31, 32, 33, 34, 37, 38, 39, 40, 41, 42, 43, 44, 45, 46, 47, 48, 49, 50, 51, 52, 53, 54, 55, 56, 57, 58, 59, 60, 61, 62, 63, 64, 65, 66, 67, 68, 69, 70, 71, 72, 73, 74, 75, 76, 77, 78, 79, 80, 81, 82, 83, 84, 85, 86, 87, 88, 89, 90, 91, 92, 93, 94, 95, 96, 97, 98, 99, 100, 101, 102, 103, 104] (by subst hbb; rfl)
  have hD : va_D A (xm_w (xv E bb) xm_0) := hD.sub [0, 107, 108, 109, 35, 36, 105, 106, 110, 111, 112, 113, 114, 115, 116, 117, 118, 119, 1, 2, 3, 4, 5, 6, 7, 8, 9, 10, 11, 12, 13, 14, 15, 16, 17, 18, 19, 20, 21, 22, 23, 24, 25, 26, 27, 28, 29, 30, 31, 32, 33, 34, 37, 38, 39, 40, 41, 42, 43, 44, 45, 46, 47, 48, 49, 50, 51, 52, 53, 54, 55, 56, 57, 58, 59, 60, 61, 62, 63, 64, 65, 66, 67, 68, 69, 70, 71, 72, 73, 74, 75, 76, 77, 78, 79, 80, 81, 82, 83, 84, 85, 86, 87, 88, 89, 90, 91, 92, 93, 94, 95, 96, 97, 98, 99, 100, 101, 102, 103, 104] (by decide +kernel) (by subst hbb; rfl)
  subst A9
  exact xn_ret C hP hD hS rfl ⟨bb, by rw [hbb]; rfl, rfl⟩ dX6_init_75 rfl rfl
