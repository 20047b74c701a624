/-! the shapes of the two sides: x, the class; m, the reference -/
abbrev xo_Pa (a : Nat → Nat) (p : Nat) (f : Nat → Int32) : List Value := [.int (f 0), .int (f 1), .int (f 2), .int (f 3), .ref (a (p + 1)), .ref (a (p + 2))]
abbrev xo_St (a : Nat → Nat) (s : Nat) (f : Nat → Int32) : List Value := [.int (f 0), .ref (a (s + 1)), .ref (a (s + 2)), .ref (a (s + 3)), .int (f 4), .int (f 5), .int (f 6), .ref (a (s + 4))]
abbrev xo_Hi (a : Nat → Nat) (f : Nat → Int32) : List Value := [.ref (a 5), .int (f 1), .int (f 2)]
abbrev xo_Wo (a : Nat → Nat) (f : Nat → Int32) : List Value := [.ref (a 7), .int (f 1), .int (f 2)]
abbrev xo_Se (a : Nat → Nat) (f : Nat → Int32) : List Value := [.ref (a 13), .int (f 1), .int (f 2), .int (f 3), .int (f 4), .int (f 5), .int (f 6), .int (f 7), .int (f 8), .ref (a 9), .ref (a 10), .ref (a 11), .int (f 12), .int (f 13), .int (f 14), .ref (a 12)]
abbrev xo_Li (a : Nat → Nat) (f : Nat → Int32) : List Value := [.int (f 0), .ref (a 14), .ref (a 15), .ref (a 16), .ref (a 17)]
abbrev xo_WM (a : Nat → Nat) (f : Nat → Int32) : List Value := [.ref (a 18), .ref (a 35), .int (f 2), .ref (a 4), .ref (a 6), .ref (a 1), .ref (a 8)]
abbrev xo_rp (a : Nat → Nat) (s : Nat) : Nat → Option Nat := fun j => [some (a (s + 5)), some (a (s + 8)), some (a (s + 11)), some (a (s + 14))].getD j none
abbrev xo_rs (a : Nat → Nat) : Nat → Option Nat := fun j => [some (a 52), some (a 69), some (a 86), some (a 103)].getD j none
def xc_P (E : xm_E) (a : Nat → Nat) (p o : Nat) (f : Nat → Int32) : va_E := match o with
  | 0 => .inr (2, xo_Pa a p f)
  | 1 => .inl (E.2.1 1, 8, .inl f)
  | _ => .inl (E.2.1 2, 8, .inl f)
def xc_S (E : xm_E) (a : Nat → Nat) (s o : Nat) (f : Nat → Int32) : va_E := match o with
  | 0 => .inr (4, xo_St a s f)
  | 1 => .inl (E.2.1 1, 24, .inl f)
  | 2 => .inl (E.2.1 0, 24, .inl f)
  | 3 => .inl (E.2.1 0, 24, .inl f)
  | 4 => .inl (E.2.1 4, 4, .inr (.inr (.inr (.inr (xo_rp a s)))))
  | o + 5 => xc_P E a (s + 5 + 3 * (o / 3)) (o % 3) f
def xc (E : xm_E) (a : Nat → Nat) (k : Nat) (f : Nat → Int32) : va_E := match k with
  | 0 => .inr (6, xo_WM a f)
  | 1 => .inr (2, xo_Pa a 1 f)
  | 2 => .inl (E.2.1 1, 8, .inl f)
  | 3 => .inl (E.2.1 2, 8, .inl f)
  | 4 => .inr (0, xo_Hi a f)
  | 5 => .inl (E.2.1 3, 4, .inr (.inr (.inr (.inr (xo_rs a)))))
  | 6 => .inr (5, xo_Wo a f)
  | 7 => .inl (E.2.1 1, 80, .inl f)
  | 8 => .inr (3, xo_Se a f)
  | 9 => .inl (E.2.1 1, 4, .inl f)
  | 10 => .inl (E.2.1 1, 4, .inl f)
  | 11 => .inl (E.2.1 0, 4, .inl f)
  | 12 => .inl (E.2.1 0, 25, .inl f)
  | 13 => .inr (1, xo_Li a f)
  | 14 => .inl (E.2.1 0, 25, .inl f)
  | 15 => .inl (E.2.1 1, 25, .inl f)
  | 16 => .inl (E.2.1 0, 25, .inl f)
  | 17 => .inl (E.2.1 0, 25, .inl f)
  | k + 18 => xc_S E a (18 + 17 * (k / 17)) (k % 17) f
abbrev xv (E : xm_E) (a : Nat → Nat) : xm_V := (a, xc E a, 120)
theorem xe_0 (E : xm_E) (a : Nat → Nat) (f : Nat → Int32) : (xv E a).2.1 0 f = .inr (6, xo_WM a f) := rfl
theorem xe_1 (E : xm_E) (a : Nat → Nat) (f : Nat → Int32) : (xv E a).2.1 1 f = .inr (2, xo_Pa a 1 f) := rfl
theorem xe_2 (E : xm_E) (a : Nat → Nat) (f : Nat → Int32) : (xv E a).2.1 2 f = .inl (E.2.1 1, 8, .inl f) := rfl
theorem xe_3 (E : xm_E) (a : Nat → Nat) (f : Nat → Int32) : (xv E a).2.1 3 f = .inl (E.2.1 2, 8, .inl f) := rfl
theorem xe_4 (E : xm_E) (a : Nat → Nat) (f : Nat → Int32) : (xv E a).2.1 4 f = .inr (0, xo_Hi a f) := rfl
theorem xe_5 (E : xm_E) (a : Nat → Nat) (f : Nat → Int32) : (xv E a).2.1 5 f = .inl (E.2.1 3, 4, .inr (.inr (.inr (.inr (xo_rs a))))) := rfl
theorem xe_6 (E : xm_E) (a : Nat → Nat) (f : Nat → Int32) : (xv E a).2.1 6 f = .inr (5, xo_Wo a f) := rfl
theorem xe_7 (E : xm_E) (a : Nat → Nat) (f : Nat → Int32) : (xv E a).2.1 7 f = .inl (E.2.1 1, 80, .inl f) := rfl
theorem xe_8 (E : xm_E) (a : Nat → Nat) (f : Nat → Int32) : (xv E a).2.1 8 f = .inr (3, xo_Se a f) := rfl
theorem xe_9 (E : xm_E) (a : Nat → Nat) (f : Nat → Int32) : (xv E a).2.1 9 f = .inl (E.2.1 1, 4, .inl f) := rfl
theorem xe_10 (E : xm_E) (a : Nat → Nat) (f : Nat → Int32) : (xv E a).2.1 10 f = .inl (E.2.1 1, 4, .inl f) := rfl
theorem xe_11 (E : xm_E) (a : Nat → Nat) (f : Nat → Int32) : (xv E a).2.1 11 f = .inl (E.2.1 0, 4, .inl f) := rfl
theorem xe_12 (E : xm_E) (a : Nat → Nat) (f : Nat → Int32) : (xv E a).2.1 12 f = .inl (E.2.1 0, 25, .inl f) := rfl
theorem xe_13 (E : xm_E) (a : Nat → Nat) (f : Nat → Int32) : (xv E a).2.1 13 f = .inr (1, xo_Li a f) := rfl
theorem xe_14 (E : xm_E) (a : Nat → Nat) (f : Nat → Int32) : (xv E a).2.1 14 f = .inl (E.2.1 0, 25, .inl f) := rfl
theorem xe_15 (E : xm_E) (a : Nat → Nat) (f : Nat → Int32) : (xv E a).2.1 15 f = .inl (E.2.1 1, 25, .inl f) := rfl
theorem xe_16 (E : xm_E) (a : Nat → Nat) (f : Nat → Int32) : (xv E a).2.1 16 f = .inl (E.2.1 0, 25, .inl f) := rfl
theorem xe_17 (E : xm_E) (a : Nat → Nat) (f : Nat → Int32) : (xv E a).2.1 17 f = .inl (E.2.1 0, 25, .inl f) := rfl
def xm_St (s : Nat) : Prop := ∃ t, t < 6 ∧ s = 18 + 17 * t
def xm_Pa (p : Nat) : Prop := p = 1 ∨ ∃ t j, t < 6 ∧ j < 4 ∧ p = 18 + 17 * t + 5 + 3 * j
theorem xs_0 {s : Nat} (h : xm_St s) (E : xm_E) (a : Nat → Nat) (f : Nat → Int32) : (xv E a).2.1 (s) f = .inr (4, xo_St a s f) := by
  obtain ⟨t, ht, rfl⟩ := h
  rcases (show t = 0 ∨ t = 1 ∨ t = 2 ∨ t = 3 ∨ t = 4 ∨ t = 5 by omega) with rfl | rfl | rfl | rfl | rfl | rfl <;> rfl
theorem xs_1 {s : Nat} (h : xm_St s) (E : xm_E) (a : Nat → Nat) (f : Nat → Int32) : (xv E a).2.1 (s + 1) f = .inl (E.2.1 1, 24, .inl f) := by
  obtain ⟨t, ht, rfl⟩ := h
  rcases (show t = 0 ∨ t = 1 ∨ t = 2 ∨ t = 3 ∨ t = 4 ∨ t = 5 by omega) with rfl | rfl | rfl | rfl | rfl | rfl <;> rfl
theorem xs_2 {s : Nat} (h : xm_St s) (E : xm_E) (a : Nat → Nat) (f : Nat → Int32) : (xv E a).2.1 (s + 2) f = .inl (E.2.1 0, 24, .inl f) := by
  obtain ⟨t, ht, rfl⟩ := h
  rcases (show t = 0 ∨ t = 1 ∨ t = 2 ∨ t = 3 ∨ t = 4 ∨ t = 5 by omega) with rfl | rfl | rfl | rfl | rfl | rfl <;> rfl
theorem xs_3 {s : Nat} (h : xm_St s) (E : xm_E) (a : Nat → Nat) (f : Nat → Int32) : (xv E a).2.1 (s + 3) f = .inl (E.2.1 0, 24, .inl f) := by
  obtain ⟨t, ht, rfl⟩ := h
  rcases (show t = 0 ∨ t = 1 ∨ t = 2 ∨ t = 3 ∨ t = 4 ∨ t = 5 by omega) with rfl | rfl | rfl | rfl | rfl | rfl <;> rfl
theorem xs_4 {s : Nat} (h : xm_St s) (E : xm_E) (a : Nat → Nat) (f : Nat → Int32) : (xv E a).2.1 (s + 4) f = .inl (E.2.1 4, 4, .inr (.inr (.inr (.inr (xo_rp a s))))) := by
  obtain ⟨t, ht, rfl⟩ := h
  rcases (show t = 0 ∨ t = 1 ∨ t = 2 ∨ t = 3 ∨ t = 4 ∨ t = 5 by omega) with rfl | rfl | rfl | rfl | rfl | rfl <;> rfl
theorem xp_0 {p : Nat} (h : xm_Pa p) (E : xm_E) (a : Nat → Nat) (f : Nat → Int32) : (xv E a).2.1 (p) f = .inr (2, xo_Pa a p f) := by
  rcases h with rfl | ⟨t, j, ht, hj, rfl⟩
  · rfl
  · rcases (show t = 0 ∨ t = 1 ∨ t = 2 ∨ t = 3 ∨ t = 4 ∨ t = 5 by omega) with rfl | rfl | rfl | rfl | rfl | rfl <;> rcases (show j = 0 ∨ j = 1 ∨ j = 2 ∨ j = 3 by omega) with rfl | rfl | rfl | rfl <;> rfl
theorem xp_1 {p : Nat} (h : xm_Pa p) (E : xm_E) (a : Nat → Nat) (f : Nat → Int32) : (xv E a).2.1 (p + 1) f = .inl (E.2.1 1, 8, .inl f) := by
  rcases h with rfl | ⟨t, j, ht, hj, rfl⟩
  · rfl
  · rcases (show t = 0 ∨ t = 1 ∨ t = 2 ∨ t = 3 ∨ t = 4 ∨ t = 5 by omega) with rfl | rfl | rfl | rfl | rfl | rfl <;> rcases (show j = 0 ∨ j = 1 ∨ j = 2 ∨ j = 3 by omega) with rfl | rfl | rfl | rfl <;> rfl
theorem xp_2 {p : Nat} (h : xm_Pa p) (E : xm_E) (a : Nat → Nat) (f : Nat → Int32) : (xv E a).2.1 (p + 2) f = .inl (E.2.1 2, 8, .inl f) := by
  rcases h with rfl | ⟨t, j, ht, hj, rfl⟩
  · rfl
  · rcases (show t = 0 ∨ t = 1 ∨ t = 2 ∨ t = 3 ∨ t = 4 ∨ t = 5 by omega) with rfl | rfl | rfl | rfl | rfl | rfl <;> rcases (show j = 0 ∨ j = 1 ∨ j = 2 ∨ j = 3 by omega) with rfl | rfl | rfl | rfl <;> rfl
theorem xs_lt {s : Nat} (h : xm_St s) (o : Nat) (ho : o < 17) : s + o < 120 := by
  obtain ⟨t, ht, rfl⟩ := h
  omega
theorem xp_lt {p : Nat} (h : xm_Pa p) (o : Nat) (ho : o < 3) : p + o < 120 := by
  rcases h with rfl | ⟨t, j, ht, hj, rfl⟩ <;> omega
theorem xs_18 : xm_St 18 := ⟨0, by omega, by omega⟩
theorem xs_35 : xm_St 35 := ⟨1, by omega, by omega⟩
theorem xs_h {i : Int32} (h : xm_in i 4 = true) : xm_St (52 + 17 * i.toNatClampNeg) := ⟨i.toNatClampNeg + 2, by have := xm_in_lt h; omega, by omega⟩
theorem xo_rp_at {a : Nat → Nat} {s : Nat} {i : Int32} (h : xm_in i 4 = true) : xo_rp a s i.toNatClampNeg = some (a (s + 5 + 3 * i.toNatClampNeg)) := by
  have h1 := xm_in_lt h
  generalize i.toNatClampNeg = j at h1 ⊢
  rcases (show j = 0 ∨ j = 1 ∨ j = 2 ∨ j = 3 by omega) with rfl | rfl | rfl | rfl <;> rfl
theorem xo_rs_at {a : Nat → Nat} {i : Int32} (h : xm_in i 4 = true) : xo_rs a i.toNatClampNeg = some (a (52 + 17 * i.toNatClampNeg)) := by
  have h1 := xm_in_lt h
  generalize i.toNatClampNeg = j at h1 ⊢
  rcases (show j = 0 ∨ j = 1 ∨ j = 2 ∨ j = 3 by omega) with rfl | rfl | rfl | rfl <;> rfl
theorem xp_1p : xm_Pa 1 := Or.inl rfl
theorem xp_s {s : Nat} (hs : xm_St s) {i : Int32} (h : xm_in i 4 = true) : xm_Pa (s + 5 + 3 * i.toNatClampNeg) := by
  obtain ⟨t, ht, rfl⟩ := hs
  exact Or.inr ⟨t, i.toNatClampNeg, ht, xm_in_lt h, rfl⟩
theorem xi_0 : ∀ w ∈ u_ws RX0 TX0 3, w ∈ xm_tb := by decide +kernel
theorem xi_1 : ∀ w ∈ u_ws RX1 TX1 5, w ∈ xm_tb := by decide +kernel
theorem xi_2 : ∀ w ∈ u_ws RX2 TX2 6, w ∈ xm_tb := by decide +kernel
theorem xi_3 : ∀ w ∈ u_ws RX3 TX3 16, w ∈ xm_tb := by decide +kernel
theorem xi_4 : ∀ w ∈ u_ws RX4 TX4 8, w ∈ xm_tb := by decide +kernel
theorem xi_5 : ∀ w ∈ u_ws RX5 TX5 3, w ∈ xm_tb := by decide +kernel
theorem xi_6 : ∀ w ∈ u_ws RX6 TX6 7, w ∈ xm_tb := by decide +kernel
theorem xm_add {x u v : Int32} (h : u = v) : x + u = x + v := by rw [h]
section XMAX
variable {p : Program} {l : Launch} {e : Env} {R : Room} {s : State} {m : MethodId} {args : Array Value} {below : List Frame} {meth : Method} {c : Code} {H : Heap} {locs : List Loc} {cells slots : Nat} {Q : State → Prop}
variable {cc : ByteArray} {pc : Nat} {ls : Array Slot} {rest : List Value} {E : xm_E} {V : xm_V} {own : String} {nL index : Nat} {ret : Option FieldType}
theorem xm_max (C : xm_C E V p s m args meth c own cc nL ret) (F : Cond.methodLink own index Lib.Math.max.name ∈ xm_tb ∧ Cond.static Lib.Math.max.name ∈ xm_tb ∧ Cond.initialized "java/lang/Math" ∈ xm_tb ∧ Cond.code Lib.Math.max.name Lib.Math.max.code 2 (some .int) ∈ xm_tb) (hf : 1 ≤ R.frames) (hlo : (rest.map fun v => v.category).sum + 13 ≤ R.locals) (hsz : ls.size = nL) (hc : cells ≤ R.cells) (hs : slots ≤ R.slots) {x y : Int32} (hdg : decode cc pc = .ok (.invokestatic index, 3))
    (kk : W p l e R s m args below meth c H locs cells slots Q (F0 m (pc + 3) ls (.int (if x < y then y else x) :: rest))) : W p l e R s m args below meth c H locs cells slots Q (F0 m pc ls (.int y :: .int x :: rest)) := by
  obtain ⟨hx, hb, hml, hown, hts, -, -, hD, hK, hS0⟩ := C
  obtain ⟨f1, f2, f3, f4⟩ := F
  exact va_mmax hx hb (hml.trans hsz.symm) hown (hts _ f1) (hts _ f2) (hts _ f3) (hts _ f4) hf hlo hc hs hdg kk
theorem xm_sw_aux {x : Int32} {k : Nat} (h : ∀ i : Nat, i < k → x ≠ nI i) (hk : 0 < k) (hk2 : k < 1000) : x.toInt < 0 ∨ ((k : Int) - 1) < x.toInt := by
  by_cases h0 : x.toInt < 0
  · exact Or.inl h0
  · refine Or.inr ?_
    have hx : ¬ x < 0 := by
      rw [Int32.lt_iff_toInt_lt, Int32.toInt_zero]
      exact h0
    obtain ⟨j, hj, rfl⟩ := nI_of hx
    rw [nI_toInt hj]
    rcases Nat.lt_or_ge j k with q | q
    · exact absurd rfl (h j q)
    · omega

theorem xm_sw2 {x : Int32} (c0 : ¬ x = 0) (c1 : ¬ x = 1) : x.toInt < 0 ∨ (1 : Int) < x.toInt :=
  xm_sw_aux (k := 2) (fun i hi => by
    rcases (show i = 0 ∨ i = 1 by omega) with rfl | rfl
    · exact c0
    · exact c1) (by omega) (by omega)
theorem xm_sw4 {x : Int32} (c0 : ¬ x = 0) (c1 : ¬ x = 1) (c2 : ¬ x = 2) (c3 : ¬ x = 3) : x.toInt < 0 ∨ (3 : Int) < x.toInt :=
  xm_sw_aux (k := 4) (fun i hi => by
    rcases (show i = 0 ∨ i = 1 ∨ i = 2 ∨ i = 3 by omega) with rfl | rfl | rfl | rfl
    · exact c0
    · exact c1
    · exact c2
    · exact c3) (by omega) (by omega)
theorem xm_sw5 {x : Int32} (c0 : ¬ x = 0) (c1 : ¬ x = 1) (c2 : ¬ x = 2) (c3 : ¬ x = 3) (c4 : ¬ x = 4) : x.toInt < 0 ∨ (4 : Int) < x.toInt :=
  xm_sw_aux (k := 5) (fun i hi => by
    rcases (show i = 0 ∨ i = 1 ∨ i = 2 ∨ i = 3 ∨ i = 4 by omega) with rfl | rfl | rfl | rfl | rfl
    · exact c0
    · exact c1
    · exact c2
    · exact c3
    · exact c4) (by omega) (by omega)
theorem xm_sw7 {x : Int32} (c0 : ¬ x = 0) (c1 : ¬ x = 1) (c2 : ¬ x = 2) (c3 : ¬ x = 3) (c4 : ¬ x = 4) (c5 : ¬ x = 5) (c6 : ¬ x = 6) : x.toInt < 0 ∨ (6 : Int) < x.toInt :=
  xm_sw_aux (k := 7) (fun i hi => by
    rcases (show i = 0 ∨ i = 1 ∨ i = 2 ∨ i = 3 ∨ i = 4 ∨ i = 5 ∨ i = 6 by omega) with rfl | rfl | rfl | rfl | rfl | rfl | rfl
    · exact c0
    · exact c1
    · exact c2
    · exact c3
    · exact c4
    · exact c5
    · exact c6) (by omega) (by omega)
theorem xm_sw9 {x : Int32} (c0 : ¬ x = 0) (c1 : ¬ x = 1) (c2 : ¬ x = 2) (c3 : ¬ x = 3) (c4 : ¬ x = 4) (c5 : ¬ x = 5) (c6 : ¬ x = 6) (c7 : ¬ x = 7) (c8 : ¬ x = 8) : x.toInt < 0 ∨ (8 : Int) < x.toInt :=
  xm_sw_aux (k := 9) (fun i hi => by
    rcases (show i = 0 ∨ i = 1 ∨ i = 2 ∨ i = 3 ∨ i = 4 ∨ i = 5 ∨ i = 6 ∨ i = 7 ∨ i = 8 by omega) with rfl | rfl | rfl | rfl | rfl | rfl | rfl | rfl | rfl
    · exact c0
    · exact c1
    · exact c2
    · exact c3
    · exact c4
    · exact c5
    · exact c6
    · exact c7
    · exact c8) (by omega) (by omega)
theorem xm_sw14 {x : Int32} (c0 : ¬ x = 0) (c1 : ¬ x = 1) (c2 : ¬ x = 2) (c3 : ¬ x = 3) (c4 : ¬ x = 4) (c5 : ¬ x = 5) (c6 : ¬ x = 6) (c7 : ¬ x = 7) (c8 : ¬ x = 8) (c9 : ¬ x = 9) (c10 : ¬ x = 10) (c11 : ¬ x = 11) (c12 : ¬ x = 12) (c13 : ¬ x = 13) : x.toInt < 0 ∨ (13 : Int) < x.toInt :=
  xm_sw_aux (k := 14) (fun i hi => by
    rcases (show i = 0 ∨ i = 1 ∨ i = 2 ∨ i = 3 ∨ i = 4 ∨ i = 5 ∨ i = 6 ∨ i = 7 ∨ i = 8 ∨ i = 9 ∨ i = 10 ∨ i = 11 ∨ i = 12 ∨ i = 13 by omega) with rfl | rfl | rfl | rfl | rfl | rfl | rfl | rfl | rfl | rfl | rfl | rfl | rfl | rfl
    · exact c0
    · exact c1
    · exact c2
    · exact c3
    · exact c4
    · exact c5
    · exact c6
    · exact c7
    · exact c8
    · exact c9
    · exact c10
    · exact c11
    · exact c12
    · exact c13) (by omega) (by omega)
theorem xm_sw15 {x : Int32} (c0 : ¬ x = 0) (c1 : ¬ x = 1) (c2 : ¬ x = 2) (c3 : ¬ x = 3) (c4 : ¬ x = 4) (c5 : ¬ x = 5) (c6 : ¬ x = 6) (c7 : ¬ x = 7) (c8 : ¬ x = 8) (c9 : ¬ x = 9) (c10 : ¬ x = 10) (c11 : ¬ x = 11) (c12 : ¬ x = 12) (c13 : ¬ x = 13) (c14 : ¬ x = 14) : x.toInt < 0 ∨ (14 : Int) < x.toInt :=
  xm_sw_aux (k := 15) (fun i hi => by
    rcases (show i = 0 ∨ i = 1 ∨ i = 2 ∨ i = 3 ∨ i = 4 ∨ i = 5 ∨ i = 6 ∨ i = 7 ∨ i = 8 ∨ i = 9 ∨ i = 10 ∨ i = 11 ∨ i = 12 ∨ i = 13 ∨ i = 14 by omega) with rfl | rfl | rfl | rfl | rfl | rfl | rfl | rfl | rfl | rfl | rfl | rfl | rfl | rfl | rfl
    · exact c0
    · exact c1
    · exact c2
    · exact c3
    · exact c4
    · exact c5
    · exact c6
    · exact c7
    · exact c8
    · exact c9
    · exact c10
    · exact c11
    · exact c12
    · exact c13
    · exact c14) (by omega) (by omega)
theorem xm_lk2 {x : Int32} {a b d : Int} (c0 : ¬ x = 0) (c1 : ¬ x = 1) : Op.lookupswitch.offset [(0, a), (1, b)] d x.toInt = d := by
  have h0 : ¬ x.toInt = 0 := fun q => c0 (Int32.toInt_inj.mp (q.trans Int32.toInt_zero.symm))
  have h1 : ¬ x.toInt = 1 := fun q => c1 (Int32.toInt_inj.mp (q.trans (by decide)))
  simp [Op.lookupswitch.offset, h0, h1, Ne.symm h0, Ne.symm h1]
end XMAX
