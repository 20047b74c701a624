theorem xl_nest {b : Nat} {s : State} (hts : ∀ w ∈ lw_tbl, w.before #[Value.ref b] s = true) : ∀ w ∈ xm_nest, va_Nw w s := by
  intro w hw
  have h := hts w (List.mem_append_right _ (List.mem_filter.mp hw).1)
  have h2 := (List.mem_filter.mp hw).2
  cases w <;> first | (exact va_Nw.of rfl h) | (simp [xm_isN] at h2)
def xl_flat : List Cond := flatC (Jvm.Cond.and given_1 narrow_1)
def xl_tm (i : Nat) : Term := Term.string RX5 (xm_lits.getD i (0, "")).1
theorem xl_ex : ∀ i, i < 6 → Cond.exactly (xl_tm i) "java/lang/String" ∈ xl_flat := by decide +kernel
theorem xl_co : ∀ i, i < 6 → Cond.eq (.field (xl_tm i) "java/lang/String" "coder" "B") (.int 0) ∈ xl_flat := by decide +kernel
theorem xl_ar : ∀ i, i < 6 → Cond.arrayOf (.field (xl_tm i) "java/lang/String" "value" "[B") .byte ∈ xl_flat := by decide +kernel
theorem xl_le : ∀ i, i < 6 → Cond.eq (.length (.field (xl_tm i) "java/lang/String" "value" "[B")) (.int (Int32.ofNat (xm_len.getD i 0))) ∈ xl_flat := by decide +kernel
theorem xl_el : ∀ i, i < 6 → ∀ j, j < xm_len.getD i 0 → Cond.eq (.elem (.field (xl_tm i) "java/lang/String" "value" "[B") (.int (Int32.ofNat j))) (.int ((xm_byt.getD i []).getD j 0)) ∈ xl_flat := by decide +kernel
theorem xl_ne : ∀ i, i < 6 → ∀ j, j < 6 → i ≠ j → Cond.not (Cond.eq (xl_tm i) (xl_tm j)) ∈ xl_flat ∨ Cond.not (Cond.eq (xl_tm j) (xl_tm i)) ∈ xl_flat := by decide +kernel
theorem xl_cs : Cond.eq (.static "java/lang/String" "COMPACT_STRINGS" "Z") (.int 1) ∈ xl_flat := by decide +kernel
theorem xl_si : Cond.isRef (.static "jdk/internal/util/Preconditions" "SIOOBE_FORMATTER" "Ljava/util/function/BiFunction;") ∈ xl_flat := by decide +kernel
theorem xl_sr : ∀ i, i < 6 → Cond.stringRef RX5 (xm_lits.getD i (0, "")).1 (xm_lits.getD i (0, "")).2 ∈ lw_tbl := by decide +kernel
theorem xl_ls : Cond.laysStatic "java/lang/String" "COMPACT_STRINGS" "Z" ∈ lw_tbl ∧ Cond.laysStatic "jdk/internal/util/Preconditions" "SIOOBE_FORMATTER" "Ljava/util/function/BiFunction;" ∈ lw_tbl := by decide +kernel
theorem xl_in : Cond.initialized "java/lang/String" ∈ lw_tbl ∧ Cond.initialized "jdk/internal/util/Preconditions" ∈ lw_tbl := by decide +kernel
theorem xl_ac : Cond.arrayClass .int ∈ lw_tbl ∧ Cond.arrayClass .char ∈ lw_tbl ∧ Cond.arrayClass .boolean ∈ lw_tbl ∧ Cond.arrayOver (.object RX4) ∈ lw_tbl ∧ Cond.arrayOver (.object RX2) ∈ lw_tbl := by decide +kernel
theorem xl_ib : Cond.instantiable RX0 3 ∈ lw_tbl ∧ Cond.instantiable RX1 5 ∈ lw_tbl ∧ Cond.instantiable RX2 6 ∈ lw_tbl ∧ Cond.instantiable RX3 16 ∈ lw_tbl ∧ Cond.instantiable RX4 8 ∈ lw_tbl ∧ Cond.instantiable RX5 3 ∈ lw_tbl ∧ Cond.instantiable RX6 7 ∈ lw_tbl := by decide +kernel
theorem xl_tb {b : Nat} {s : State} (hts : ∀ w ∈ lw_tbl, w.before #[Value.ref b] s = true) : ∀ w ∈ xm_tb, w.before #[Value.ref b] s = true := fun w hw => hts w (List.mem_filter.mp hw).1
theorem xl_arr {A : Array Value} {s : State} {ty : FieldType} (hty : ∀ C, ty ≠ .object C) (h : (Cond.arrayClass ty).before A s = true) : ∃ cA : ClassId, ArrOfT s cA ty ∧ va_RA s cA ty := by
  obtain ⟨cA, kA, comp, hfind, hk, hkind⟩ := Cond.arrayClass_spec h
  refine ⟨cA, fun n z => ⟨fun k h => (by cases h), kA, hk, comp, hkind⟩, ?_⟩
  cases ty with
  | object C => exact absurd rfl (hty C)
  | _ => exact hfind
theorem xl_arro {A : Array Value} {s : State} {C : String} (h : (Cond.arrayOver (.object C)).before A s = true) : ∃ cA : ClassId, ArrOfT s cA (.object C) ∧ va_RA s cA (.object C) := by
  obtain ⟨comp, cA, kA, h1, h2, h3, h4, h5⟩ := Cond.arrayOver_spec h
  exact ⟨cA, fun n z => ⟨fun k h => (by cases h), kA, h3, comp, h4⟩, kA, comp, h3, h4, h1, h5⟩
set_option maxHeartbeats 4000000 in
theorem xl_start {b : Nat} {s : State} (hts : ∀ w ∈ lw_tbl, w.before #[Value.ref b] s = true) (hgv : (Jvm.Cond.and given_1 narrow_1).before #[Value.ref b] s = true) : ∃ E : xm_E, xm_K E s ∧ xm_S E (fun q : Nat => s.heap.size ≤ q) s s.heap := by
  have hfl := flat_of_before _ hgv
  have htb := xl_tb hts
  have hA : ∀ a : Nat, a < s.heap.size → ¬ (fun q : Nat => s.heap.size ≤ q) a := fun a h => Nat.not_le.mpr h
  obtain ⟨i0, i1, i2, i3, i4, i5, i6⟩ := xl_ib
  obtain ⟨c0, s0, k0⟩ := u_known (C := RX0) (T := TX0) (N := 3) (n := 3) htb xi_0 (hts _ i0)
  obtain ⟨c1, s1, k1⟩ := u_known (C := RX1) (T := TX1) (N := 5) (n := 5) htb xi_1 (hts _ i1)
  obtain ⟨c2, s2, k2⟩ := u_known (C := RX2) (T := TX2) (N := 6) (n := 6) htb xi_2 (hts _ i2)
  obtain ⟨c3, s3, k3⟩ := u_known (C := RX3) (T := TX3) (N := 16) (n := 16) htb xi_3 (hts _ i3)
  obtain ⟨c4, s4, k4⟩ := u_known (C := RX4) (T := TX4) (N := 8) (n := 8) htb xi_4 (hts _ i4)
  obtain ⟨c5, s5, k5⟩ := u_known (C := RX5) (T := TX5) (N := 3) (n := 3) htb xi_5 (hts _ i5)
  obtain ⟨c6, s6, k6⟩ := u_known (C := RX6) (T := TX6) (N := 7) (n := 7) htb xi_6 (hts _ i6)
  obtain ⟨a0, a1, a2, a3, a4⟩ := xl_ac
  obtain ⟨t0, u0, v0⟩ := xl_arr (fun _ h => by cases h) (hts _ a0)
  obtain ⟨t1, u1, v1⟩ := xl_arr (fun _ h => by cases h) (hts _ a1)
  obtain ⟨t2, u2, v2⟩ := xl_arr (fun _ h => by cases h) (hts _ a2)
  obtain ⟨t3, u3, v3⟩ := xl_arro (hts _ a3)
  obtain ⟨t4, u4, v4⟩ := xl_arro (hts _ a4)
  obtain ⟨adK, adV, hSt, hEv⟩ := vk_Sof (args := #[Value.ref b]) (s := s) (N := 6) (tm := xl_tm) (len := xm_len) (byt := xm_byt) (A := fun q : Nat => s.heap.size ≤ q) xm_len_lt (fun i hi => hfl _ (xl_ex i hi)) (fun i hi => hfl _ (xl_co i hi)) (fun i hi => hfl _ (xl_ar i hi)) (fun i hi => hfl _ (xl_le i hi)) (fun i hi j hj => hfl _ (xl_el i hi j hj)) (fun i j hi hj hij => (xl_ne i hi j hj hij).imp (hfl _) (hfl _)) hA
  refine ⟨((fun k => match k with | 0 => c0 | 1 => c1 | 2 => c2 | 3 => c3 | 4 => c4 | 5 => c5 | _ => c6, fun k => match k with | 0 => s0 | 1 => s1 | 2 => s2 | 3 => s3 | 4 => s4 | 5 => s5 | _ => s6), (fun k => match k with | 0 => t0 | 1 => t1 | 2 => t2 | 3 => t3 | _ => t4), adK, adV), ⟨⟨?_, ?_⟩, xl_nest hts, ?_, hts _ a3, hts _ a4⟩, hSt, ?_, ?_⟩
  · intro k q hq
    match k, hq with
    | 0, hq => cases hq; exact k0
    | 1, hq => cases hq; exact k1
    | 2, hq => cases hq; exact k2
    | 3, hq => cases hq; exact k3
    | 4, hq => cases hq; exact k4
    | 5, hq => cases hq; exact k5
    | 6, hq => cases hq; exact k6
    | k + 7, hq => simp [vwCl] at hq
  · intro k q hq
    match k, hq with
    | 0, hq => cases hq; exact ⟨u0, v0⟩
    | 1, hq => cases hq; exact ⟨u1, v1⟩
    | 2, hq => cases hq; exact ⟨u2, v2⟩
    | 3, hq => cases hq; exact ⟨u3, v3⟩
    | 4, hq => cases hq; exact ⟨u4, v4⟩
    | k + 5, hq => simp [xm_ty] at hq
  · intro i hi
    exact vk_R.of (hts _ (xl_sr i hi)) (hEv i hi)
  · exact va_Zof (hts _ xl_ls.1) (hts _ xl_in.1) (va_eqt (hfl _ xl_cs)) hA
  · exact va_Zqof (hts _ xl_ls.2) (hts _ xl_in.2) (hfl _ xl_si) hA
