/-! THE MEMORY OF A SIDE: a number for each place of each cell (its role, its place). A side's cells are made once and never exchanged, so a world is a row of addresses, a shape for each role, and this memory. -/
abbrev xm_M : Type := Nat → Nat → Int32
def xm_row (M : xm_M) (r : Nat) (f : Nat → Int32) : xm_M := fun k => if k = r then f else M k
def xm_up (M : xm_M) (r j : Nat) (v : Int32) : xm_M := xm_row M r (upd (M r) j v)
/-- what a method's picture does: an answer, or nothing where the machine would throw or the fuel is gone -/
def xm_ck {α : Type} (b : Bool) (x : Option α) : Option α := match b with
  | true => x
  | false => none
theorem xm_ck_s {α : Type} {b : Bool} {x : Option α} {y : α} (h : xm_ck b x = some y) : b = true ∧ x = some y := by
  cases b
  · cases h
  · exact ⟨rfl, h⟩
def xm_lt {α β : Type} (x : α) (f : α → Option β) : Option β := f x
theorem xm_lt_s {α β : Type} {x : α} {f : α → Option β} {y : β} (h : xm_lt x f = some y) : ∃ z, z = x ∧ f z = some y := ⟨x, rfl, h⟩
def xm_b2 {β : Type} (x : Option (Int32 × xm_M)) (f : Int32 → xm_M → Option β) : Option β := match x with
  | some (r, M) => f r M
  | none => none
theorem xm_b2_s {β : Type} {x : Option (Int32 × xm_M)} {f : Int32 → xm_M → Option β} {y : β} (h : xm_b2 x f = some y) : ∃ r M, x = some (r, M) ∧ f r M = some y := by
  cases x with
  | none => cases h
  | some q =>
    obtain ⟨r, M⟩ := q
    exact ⟨r, M, rfl, h⟩
def xm_b1 {β : Type} (x : Option xm_M) (f : xm_M → Option β) : Option β := match x with
  | some M => f M
  | none => none
theorem xm_b1_s {β : Type} {x : Option xm_M} {f : xm_M → Option β} {y : β} (h : xm_b1 x f = some y) : ∃ M, x = some M ∧ f M = some y := by
  cases x with
  | none => cases h
  | some q => exact ⟨q, rfl, h⟩
theorem xm_pr {a c : Int32} {b d : xm_M} (h : some (a, b) = some (c, d)) : a = c ∧ b = d := by
  cases h
  exact ⟨rfl, rfl⟩
theorem xm_on {b d : xm_M} (h : some b = some d) : b = d := Option.some.inj h
def xm_in (i : Int32) (n : Nat) : Bool := decide (¬ (i < 0 ∨ n ≤ i.toNatClampNeg))
theorem xm_in_s {i : Int32} {n : Nat} (h : xm_in i n = true) : vp_in i n := of_decide_eq_true (p := ¬ (i < 0 ∨ n ≤ i.toNatClampNeg)) h
theorem xm_in_lt {i : Int32} {n : Nat} (h : xm_in i n = true) : i.toNatClampNeg < n := Nat.not_le.mp fun q => xm_in_s h (Or.inr q)
/-- a value that a method of type boolean or char may answer -/
def xm_z (r : Int32) : Bool := decide (vp_nar .boolean r = r)
def xm_c (r : Int32) : Bool := decide (vp_nar .char r = r)
theorem xm_nar_b (r : Int32) : narrow .boolean (.int r) = .int (vp_nar .boolean r) := by simp [vp_nar, narrow]
theorem xm_nar_c (r : Int32) : narrow .char (.int r) = .int (vp_nar .char r) := by simp [vp_nar, narrow]
theorem xm_z_s {r : Int32} (h : xm_z r = true) : narrow .boolean (.int r) = .int r := by rw [xm_nar_b, of_decide_eq_true h]
theorem xm_c_s {r : Int32} (h : xm_c r = true) : narrow .char (.int r) = .int r := by rw [xm_nar_c, of_decide_eq_true h]
/-! a side: its addresses, the shape of each role, how many roles -/
abbrev xm_V : Type := (Nat → Nat) × (Nat → (Nat → Int32) → va_E) × Nat
def xm_w (V : xm_V) (M : xm_M) : va_W := (List.range V.2.2).map (fun k => (V.1 k, V.2.1 k (M k)))
theorem xm_at {V : xm_V} {M : xm_M} {k : Nat} {e : va_E} (hk : k < V.2.2) (hc : V.2.1 k (M k) = e) : (xm_w V M)[k]? = some (V.1 k, e) := by
  rw [← hc]
  simp [xm_w, List.getElem?_map, List.getElem?_range hk]
theorem xm_get? {V : xm_V} {M : xm_M} {k : Nat} {q : Nat × va_E} (h : (xm_w V M)[k]? = some q) : k < V.2.2 ∧ q = (V.1 k, V.2.1 k (M k)) := by
  have hk : k < V.2.2 := by
    have := (List.getElem?_eq_some_iff.mp h).1
    simpa [xm_w] using this
  refine ⟨hk, ?_⟩
  rw [xm_at hk rfl] at h
  exact (Option.some.inj h).symm
theorem xm_set {V : xm_V} {M : xm_M} {k : Nat} {f : Nat → Int32} {e : va_E} (hk : k < V.2.2) (hc : V.2.1 k f = e) : (xm_w V M).set k (V.1 k, e) = xm_w V (xm_row M k f) := by
  subst hc
  have hl : k < (xm_w V M).length := by simpa [xm_w] using hk
  apply List.ext_getElem?
  intro j
  by_cases hj : j = k
  · subst hj
    rw [List.getElem?_set_self hl, xm_at hk rfl]
    simp [xm_row]
  · rw [List.getElem?_set_ne (Ne.symm hj)]
    by_cases h2 : j < V.2.2
    · rw [xm_at h2 rfl, xm_at h2 rfl]
      simp [xm_row, hj]
    · rw [List.getElem?_eq_none (by simpa [xm_w] using h2), List.getElem?_eq_none (by simpa [xm_w] using h2)]
def xm_D (V : xm_V) : Prop := ∀ i j, i < V.2.2 → j < V.2.2 → V.1 i = V.1 j → i = j
def xm_A (V : xm_V) (sz : Nat) : Nat → Prop := fun q => (∃ k, k < V.2.2 ∧ q = V.1 k) ∨ sz ≤ q
theorem xm_vaD {V : xm_V} (h : xm_D V) (M : xm_M) (sz : Nat) : va_D (xm_A V sz) (xm_w V M) := by
  refine ⟨fun i j p q hi hj hpq => ?_, fun k q hk => ?_⟩
  · obtain ⟨h1, rfl⟩ := xm_get? hi
    obtain ⟨h2, rfl⟩ := xm_get? hj
    exact h i j h1 h2 hpq
  · obtain ⟨h1, rfl⟩ := xm_get? hk
    exact Or.inl ⟨k, h1, rfl⟩
theorem xm_A_le {V : xm_V} {s1 s2 : Nat} (h : s1 ≤ s2) : ∀ q, xm_A V s2 q → xm_A V s1 q := fun q hq => hq.elim Or.inl (fun z => Or.inr (Nat.le_trans h z))
/-! what holds of the tables: the good words, the nest's links, the classes, the literals -/
def xm_tb : List Cond := lw_tbl.filter goodWord
theorem xm_tb_of {w : Cond} (h : w ∈ tables_1) (hg : goodWord w = true) : w ∈ xm_tb := List.mem_filter.mpr ⟨List.mem_append_right _ h, hg⟩
theorem xm_tb_sel {w : Cond} (h : w ∈ k2_sels lw_privs) (hg : goodWord w = true) : w ∈ xm_tb := List.mem_filter.mpr ⟨List.mem_append_left _ h, hg⟩
theorem xm_good {y : MethodName} {b : ByteArray} {n : Nat} {r : Option FieldType} {big : List Cond} (h : Cond.code y b n r ∈ xm_tb) (hb : ∀ w ∈ xm_tb, w ∈ big) : GoodIn big (Cond.code y b n r :: xm_tb) := by
  intro w hw
  rcases List.mem_cons.mp hw with rfl | hw
  · exact ⟨hb _ h, good_of_word rfl⟩
  · exact ⟨hb _ hw, good_of_word (List.mem_filter.mp hw).2⟩
def xm_isN : Cond → Bool
  | .fieldLinkNest .. => true
  | .methodLinkNest .. => true
  | _ => false
def xm_nest : List Cond := tables_1.filter xm_isN
theorem xm_nest_of {w : Cond} (h : w ∈ tables_1) (hg : xm_isN w = true) : w ∈ xm_nest := List.mem_filter.mpr ⟨h, hg⟩
theorem xm_nest_warm {w : Cond} (h : w ∈ xm_nest) {s U : State} (hW : s.WarmedH U.vm) (hZ : va_Nw w s) : va_Nw w U := by
  have h2 := (List.mem_filter.mp h).2
  cases w <;> first | (exact va_Nw.warmF hW hZ) | (exact va_Nw.warmM hW hZ) | (exact absurd h2 (by decide)) | (simp [xm_isN] at h2)
theorem xm_nest_same {w : Cond} (h : w ∈ xm_nest) {u U : State} (hv : u.vm = U.vm) (hZ : va_Nw w u) : va_Nw w U := by
  have h2 := (List.mem_filter.mp h).2
  cases w <;> first | (exact va_Nw.same rfl hv hZ) | (exact absurd h2 (by decide)) | (simp [xm_isN] at h2)
abbrev xm_E : Type := va_G × (Nat → ClassId) × (Nat → Nat) × (Nat → Nat)
abbrev xm_ty (E : xm_E) : List (ClassId × FieldType) := [(E.2.1 0, .int), (E.2.1 1, .char), (E.2.1 2, .boolean), (E.2.1 3, .object RX4), (E.2.1 4, .object RX2)]
def xm_lits : List (Nat × String) := [(27, "within "), (37, " "), (68, "rising "), (70, "alike "), (84, "no "), (82, ", ")]
def xm_len : List Nat := [7, 1, 7, 6, 3, 2]
def xm_byt : List (List Int32) := [[119, 105, 116, 104, 105, 110, 32], [32], [114, 105, 115, 105, 110, 103, 32], [97, 108, 105, 107, 101, 32], [110, 111, 32], [44, 32]]
def xm_K (E : xm_E) (U : State) : Prop := va_K E.1 vwCl (xm_ty E) U ∧ (∀ w ∈ xm_nest, va_Nw w U) ∧ (∀ i, i < 6 → vk_R RX5 (xm_lits.getD i (0, "")).1 (xm_lits.getD i (0, "")).2 (E.2.2.1 i) U) ∧ va_AO RX4 U ∧ va_AO RX2 U
def xm_S (E : xm_E) (A : Nat → Prop) (U : State) (H : Heap) : Prop := vk_S 6 xm_len xm_byt E.2.2.1 E.2.2.2 A U H ∧ va_Z "java/lang/String" "COMPACT_STRINGS" "Z" (.int 1) A U H ∧ va_Zq "jdk/internal/util/Preconditions" "SIOOBE_FORMATTER" "Ljava/util/function/BiFunction;" A U H
theorem xm_K.warm {E : xm_E} {s U : State} (hW : s.WarmedH U.vm) (h : xm_K E s) : xm_K E U := ⟨va_K.moved hW.alike h.1, fun w hw => xm_nest_warm hw hW (h.2.1 w hw), fun i hi => (h.2.2.1 i hi).warm hW, h.2.2.2.1.moved hW.alike, h.2.2.2.2.moved hW.alike⟩
theorem xm_K.same {E : xm_E} {s U : State} (hv : s.vm = U.vm) (h : xm_K E s) : xm_K E U := ⟨va_K.moved (by rw [hv]; exact Vm.Alike.refl U.vm) h.1, fun w hw => xm_nest_same hw hv (h.2.1 w hw), fun i hi => (h.2.2.1 i hi).same hv.symm, h.2.2.2.1.moved (by rw [hv]; exact Vm.Alike.refl U.vm), h.2.2.2.2.moved (by rw [hv]; exact Vm.Alike.refl U.vm)⟩
theorem xm_S.moved {E : xm_E} {A : Nat → Prop} {u U : State} {H : Heap} (hvm : u.vm.Alike U.vm) (h : xm_S E A u H) : xm_S E A U H := by
  refine ⟨h.1.moved hvm, va_Z.moved hvm h.2.1, ?_⟩
  rcases h.2.2 with z | ⟨t, z⟩
  · exact Or.inl (va_Z.moved hvm z)
  · exact Or.inr ⟨t, va_Z.moved hvm z⟩
theorem xm_S.kept {E : xm_E} {A : Nat → Prop} {U : State} {H H1 : Heap} (h : xm_S E A U H) (hq : ∀ a : Nat, a < H.size → ¬ A a → H1[a]? = H[a]?) : xm_S E A U H1 := by
  refine ⟨h.1.kept hq, h.2.1.kept hq, ?_⟩
  rcases h.2.2 with z | ⟨t, z⟩
  · exact Or.inl (z.kept hq)
  · exact Or.inr ⟨t, z.kept hq⟩
theorem xm_S.narrow {E : xm_E} {A B : Nat → Prop} {U : State} {H : Heap} (h : xm_S E A U H) (hAB : ∀ q, B q → A q) : xm_S E B U H := by
  refine ⟨h.1.narrow hAB, h.2.1.narrow hAB, ?_⟩
  rcases h.2.2 with z | ⟨t, z⟩
  · exact Or.inl (z.narrow hAB)
  · exact Or.inr ⟨t, z.narrow hAB⟩
/-! a method's start and end -/
def xm_Pre (E : xm_E) (V : xm_V) (M : xm_M) (sz : Nat) (U : State) : Prop := U.heap.size = sz ∧ va_P E.1 vwCl (xm_w V M) U.heap ∧ xm_K E U ∧ xm_S E (xm_A V sz) U U.heap
def xm_Q (E : xm_E) (V : xm_V) (M' : xm_M) (sz : Nat) (r : Option Int32) : Array Value → State → Outcome → State → Prop := fun _ st oc t => (oc = .returned (r.map Value.int) ∧ va_P E.1 vwCl (xm_w V M') t.heap) ∧ va_F (xm_A V sz) st t
def xm_Met (l : Launch) (E : xm_E) (V : xm_V) (y : MethodName) (cc : ByteArray) (maxL : Nat) (ret : Option FieldType) (fr lo : Nat) (as : List Value) (M M' : xm_M) (r : Option Int32) : Prop :=
  ∀ sz, Met l y (Cond.code y cc maxL ret :: xm_tb) { frames := fr, cells := 0, slots := 0, locals := lo } (va_Pc as (xm_Pre E V M sz)) (xm_Q E V M' sz r) 0 0 (xm_A V sz)
theorem xm_blind {E : xm_E} {V : xm_V} {M : xm_M} {sz : Nat} {as : List Value} : FrameBlind (va_Pc as (xm_Pre E V M sz)) := fun _ U g mk q =>
  ⟨q.1, q.2.1, q.2.2.1, xm_K.same (s := U) rfl q.2.2.2.1, xm_S.moved (u := U) (Vm.Alike.refl U.vm) q.2.2.2.2⟩
/-- what is fixed in a method's body -/
def xm_C (E : xm_E) (V : xm_V) (p : Program) (s : State) (m : MethodId) (args : Array Value) (meth : Method) (c : Code) (own : String) (cc : ByteArray) (nL : Nat) (ret : Option FieldType) : Prop :=
  p.tables.exec = Jvm.exec ∧ c.code = cc ∧ c.maxLocals = nL ∧ s.vm.findClass own = some m.cls ∧ (∀ w ∈ xm_tb, w.before args s = true) ∧ meth.sig.returnType = ret ∧ meth.locks = false ∧ xm_D V ∧ xm_K E s ∧ xm_S E (xm_A V s.heap.size) s s.heap
theorem xm_met {l : Launch} {E : xm_E} {V : xm_V} {M M' : xm_M} {y : MethodName} {cc : ByteArray} {maxL : Nat} {ret : Option FieldType} {fr lo : Nat} {own : String} {as : List Value} {r : Option Int32} (hy : plainName y.cls = true) (hyc : y.cls = own) (hlen : (lg_sl as).length ≤ maxL) (hD : xm_D V)
    (body : ∀ (p : Program) (e : Env) (s : State) (m : MethodId) (below : List Frame) (meth : Method) (c : Code), xm_C E V p s m as.toArray meth c own cc maxL ret → va_P E.1 vwCl (xm_w V M) s.heap → ∀ ls : Array Slot, lv_has ls maxL (lv_args 0 as) →
      W p l e { frames := fr, cells := 0, slots := 0, locals := lo } s m as.toArray below meth c s.heap [] 0 0 (MQ below (xm_Q E V M' s.heap.size r) as.toArray s 0 0 (xm_A V s.heap.size)) (F0 m 0 ls [])) : xm_Met l E V y cc maxL ret fr lo as M M' r := by
  intro sz
  refine Met.ofW (cc := cc) (maxL := maxL) (ret := ret) hy rfl ?_
  intro p e s m args below meth c s₁ B hml hv
  obtain ⟨rfl, hsz, hP, hK, hS⟩ := hv
  subst hsz
  have hts := atoms_spec (ws := Cond.code y cc maxL ret :: xm_tb) B.pre
  have hown : s.vm.findClass own = some m.cls := hyc ▸ findClass_of_methodNamed B.named
  have hl := lv_entry as (n := maxL) hlen
  rw [lg_entry_eq]
  exact body p e s m below meth c ⟨B.exec, B.bytes, hml, hown, fun w hw => hts w (List.mem_cons_of_mem _ hw), B.returns, B.notSynchronized, hD, hK, hS⟩ hP _ hl
section XROWS
variable {p : Program} {l : Launch} {e : Env} {R : Room} {s : State} {m : MethodId} {args : Array Value} {below : List Frame} {meth : Method} {c : Code} {H : Heap} {locs : List Loc} {cells slots : Nat} {Q : State → Prop}
variable {cc : ByteArray} {pc : Nat} {ls : Array Slot} {rest : List Value} {E : xm_E} {V : xm_V} {M : xm_M} {own : String} {nL : Nat} {ret : Option FieldType}
theorem xm_get (C : xm_C E V p s m args meth c own cc nL ret) (hP : va_P E.1 vwCl (xm_w V M) H) {ref K name desc : String} {T : u_T} {N ci index : Nat} (rho k : Nat) {fs : List Value} {v : Value} (hin : ∀ w ∈ u_ws K T N, w ∈ xm_tb) (hc : vwCl[ci]? = some (K, T, N)) (hlink : Cond.fieldLink own index ref name desc ∈ xm_tb) (hT : ((T k).1, (T k).2.1, (T k).2.2.1) = (ref, name, desc)) (hr : rho < V.2.2) (he : V.2.1 rho (M rho) = .inr (ci, fs)) (hk : k < N) (hv : fs[k]? = some v) (hdg : decode cc pc = .ok (.getfield index, 3))
    (kk : W p l e R s m args below meth c H locs cells slots Q (F0 m (pc + 3) ls (v :: rest))) : W p l e R s m args below meth c H locs cells slots Q (F0 m pc ls (.ref (V.1 rho) :: rest)) := by
  obtain ⟨hx, hb, hml, hown, hts, -, -, hD, hK, -⟩ := C
  cases hT
  exact va_get hx hb hts hin hown hK.1 hP rho (xm_at hr he) hc k hk (hts _ hlink) (fun _ h => h) hv hdg kk
theorem xm_getN (C : xm_C E V p s m args meth c own cc nL ret) (hP : va_P E.1 vwCl (xm_w V M) H) {ref K name desc host : String} {T : u_T} {N ci index : Nat} (rho k : Nat) {fs : List Value} {v : Value} (hin : ∀ w ∈ u_ws K T N, w ∈ xm_tb) (hc : vwCl[ci]? = some (K, T, N)) (hlink : Cond.fieldLinkNest own index ref name desc host ∈ xm_nest) (hT : ((T k).1, (T k).2.1, (T k).2.2.1) = (ref, name, desc)) (hr : rho < V.2.2) (he : V.2.1 rho (M rho) = .inr (ci, fs)) (hk : k < N) (hv : fs[k]? = some v) (hdg : decode cc pc = .ok (.getfield index, 3))
    (kk : W p l e R s m args below meth c H locs cells slots Q (F0 m (pc + 3) ls (v :: rest))) : W p l e R s m args below meth c H locs cells slots Q (F0 m pc ls (.ref (V.1 rho) :: rest)) := by
  obtain ⟨hx, hb, hml, hown, hts, -, -, hD, hK, -⟩ := C
  cases hT
  exact va_getN hx hb hts hin hown hK.1 hP rho (xm_at hr he) hc k hk (va_Nw.use rfl (hK.2.1 _ hlink)) (fun _ h => h) hv hdg kk
theorem xm_put (C : xm_C E V p s m args meth c own cc nL ret) (hP : va_P E.1 vwCl (xm_w V M) H) (hS : va_S (xm_A V s.heap.size) s.heap H locs) {ref K name desc : String} {T : u_T} {N ci index : Nat} (rho k : Nat) {fs : List Value} {x : Int32} (hin : ∀ w ∈ u_ws K T N, w ∈ xm_tb) (hc : vwCl[ci]? = some (K, T, N)) (hlink : Cond.fieldLink own index ref name desc ∈ xm_tb) (hT : ((T k).1, (T k).2.1, (T k).2.2.1) = (ref, name, desc)) {ty0 : Nat → FieldType} (hty : ∀ k, k < N → parseFieldDescriptor (T k).2.2.1 = some (ty0 k)) (hnm : ∀ a, a < N → ∀ b, b < N → a ≠ b → (T a).2.1 ≠ (T b).2.1) (hr : rho < V.2.2) (he : V.2.1 rho (M rho) = .inr (ci, fs)) (hk : k < N) (hfin : (T k).2.2.2 = false) {ty : FieldType} (hd : parseFieldDescriptor (T k).2.2.1 = some ty) (hn : narrow ty (.int x) = .int x) (hfit : fits ty (.int x) = true) (hl : k < fs.length) (he2 : V.2.1 rho (upd (M rho) k x) = .inr (ci, fs.set k (.int x))) (hdg : decode cc pc = .ok (.putfield index, 3))
    (kk : ∀ (H1 : Heap) (locs1 : List Loc), va_P E.1 vwCl (xm_w V (xm_up M rho k x)) H1 → va_S (xm_A V s.heap.size) s.heap H1 locs1 → W p l e R s m args below meth c H1 locs1 cells slots Q (F0 m (pc + 3) ls rest)) : W p l e R s m args below meth c H locs cells slots Q (F0 m pc ls (.int x :: .ref (V.1 rho) :: rest)) := by
  obtain ⟨hx, hb, hml, hown, hts, -, -, hD, hK, -⟩ := C
  cases hT
  refine va_put hx hb hts hin ty0 hty hnm hown hK.1 hP (xm_vaD hD M s.heap.size) hS rho (xm_at hr he) hc k hk (hts _ hlink) (fun _ h => h) hfin hd hn hfit hl hdg (fun H1 locs1 hP1 hD1 hS1 => ?_)
  rw [xm_set hr he2] at hP1
  exact kk H1 locs1 hP1 hS1
theorem xm_putN (C : xm_C E V p s m args meth c own cc nL ret) (hP : va_P E.1 vwCl (xm_w V M) H) (hS : va_S (xm_A V s.heap.size) s.heap H locs) {ref K name desc host : String} {T : u_T} {N ci index : Nat} (rho k : Nat) {fs : List Value} {x : Int32} (hin : ∀ w ∈ u_ws K T N, w ∈ xm_tb) (hc : vwCl[ci]? = some (K, T, N)) (hlink : Cond.fieldLinkNest own index ref name desc host ∈ xm_nest) (hT : ((T k).1, (T k).2.1, (T k).2.2.1) = (ref, name, desc)) {ty0 : Nat → FieldType} (hty : ∀ k, k < N → parseFieldDescriptor (T k).2.2.1 = some (ty0 k)) (hnm : ∀ a, a < N → ∀ b, b < N → a ≠ b → (T a).2.1 ≠ (T b).2.1) (hr : rho < V.2.2) (he : V.2.1 rho (M rho) = .inr (ci, fs)) (hk : k < N) (hfin : (T k).2.2.2 = false) {ty : FieldType} (hd : parseFieldDescriptor (T k).2.2.1 = some ty) (hn : narrow ty (.int x) = .int x) (hfit : fits ty (.int x) = true) (hl : k < fs.length) (he2 : V.2.1 rho (upd (M rho) k x) = .inr (ci, fs.set k (.int x))) (hdg : decode cc pc = .ok (.putfield index, 3))
    (kk : ∀ (H1 : Heap) (locs1 : List Loc), va_P E.1 vwCl (xm_w V (xm_up M rho k x)) H1 → va_S (xm_A V s.heap.size) s.heap H1 locs1 → W p l e R s m args below meth c H1 locs1 cells slots Q (F0 m (pc + 3) ls rest)) : W p l e R s m args below meth c H locs cells slots Q (F0 m pc ls (.int x :: .ref (V.1 rho) :: rest)) := by
  obtain ⟨hx, hb, hml, hown, hts, -, -, hD, hK, -⟩ := C
  cases hT
  refine va_putN hx hb hts hin ty0 hty hnm hown hK.1 hP (xm_vaD hD M s.heap.size) hS rho (xm_at hr he) hc k hk (va_Nw.use rfl (hK.2.1 _ hlink)) (fun _ h => h) hfin hd hn hfit hl hdg (fun H1 locs1 hP1 hD1 hS1 => ?_)
  rw [xm_set hr he2] at hP1
  exact kk H1 locs1 hP1 hS1
theorem xm_iald (C : xm_C E V p s m args meth c own cc nL ret) (hP : va_P E.1 vwCl (xm_w V M) H) (rho n : Nat) (hr : rho < V.2.2) (he : ∀ f, V.2.1 rho f = .inl (E.2.1 0, n, .inl f)) {i : Int32} (hin : xm_in i n = true) (hdg : decode cc pc = .ok (.iaload, 1))
    (kk : W p l e R s m args below meth c H locs cells slots Q (F0 m (pc + 1) ls (.int (M rho i.toNatClampNeg) :: rest))) : W p l e R s m args below meth c H locs cells slots Q (F0 m pc ls (.int i :: .ref (V.1 rho) :: rest)) := by
  obtain ⟨hx, hb, hml, hown, hts, -, -, hD, hK, -⟩ := C
  exact va_iald hx hb hK.1 hP rho 0 (xm_at hr (he _)) rfl (xm_in_s hin) hdg kk
theorem xm_cald (C : xm_C E V p s m args meth c own cc nL ret) (hP : va_P E.1 vwCl (xm_w V M) H) (rho n : Nat) (hr : rho < V.2.2) (he : ∀ f, V.2.1 rho f = .inl (E.2.1 1, n, .inl f)) {i : Int32} (hin : xm_in i n = true) (hdg : decode cc pc = .ok (.caload, 1))
    (kk : W p l e R s m args below meth c H locs cells slots Q (F0 m (pc + 1) ls (.int (M rho i.toNatClampNeg) :: rest))) : W p l e R s m args below meth c H locs cells slots Q (F0 m pc ls (.int i :: .ref (V.1 rho) :: rest)) := by
  obtain ⟨hx, hb, hml, hown, hts, -, -, hD, hK, -⟩ := C
  exact va_cald hx hb hK.1 hP rho 1 (xm_at hr (he _)) rfl (xm_in_s hin) hdg kk
theorem xm_zald (C : xm_C E V p s m args meth c own cc nL ret) (hP : va_P E.1 vwCl (xm_w V M) H) (rho n : Nat) (hr : rho < V.2.2) (he : ∀ f, V.2.1 rho f = .inl (E.2.1 2, n, .inl f)) {i : Int32} (hin : xm_in i n = true) (hdg : decode cc pc = .ok (.baload, 1))
    (kk : W p l e R s m args below meth c H locs cells slots Q (F0 m (pc + 1) ls (.int (M rho i.toNatClampNeg) :: rest))) : W p l e R s m args below meth c H locs cells slots Q (F0 m pc ls (.int i :: .ref (V.1 rho) :: rest)) := by
  obtain ⟨hx, hb, hml, hown, hts, -, -, hD, hK, -⟩ := C
  exact va_zald hx hb hK.1 hP rho 2 (xm_at hr (he _)) rfl (xm_in_s hin) hdg kk
theorem xm_aald (C : xm_C E V p s m args meth c own cc nL ret) (hP : va_P E.1 vwCl (xm_w V M) H) (rho n t : Nat) {K : String} {g : Nat → Option Nat} (hr : rho < V.2.2) (he : ∀ f, V.2.1 rho f = .inl (E.2.1 t, n, .inr (.inr (.inr (.inr g))))) (ht : (xm_ty E)[t]? = some (E.2.1 t, .object K)) {i : Int32} (hin : xm_in i n = true) {v : Nat} (hv : g i.toNatClampNeg = some v) (hdg : decode cc pc = .ok (.aaload, 1))
    (kk : W p l e R s m args below meth c H locs cells slots Q (F0 m (pc + 1) ls (.ref v :: rest))) : W p l e R s m args below meth c H locs cells slots Q (F0 m pc ls (.int i :: .ref (V.1 rho) :: rest)) := by
  obtain ⟨hx, hb, hml, hown, hts, -, -, hD, hK, -⟩ := C
  refine va_aldq hx hb hK.1 hP rho t (xm_at hr (he _)) ht (xm_in_s hin) hdg ?_
  rw [hv]
  exact kk
theorem xm_iast (C : xm_C E V p s m args meth c own cc nL ret) (hP : va_P E.1 vwCl (xm_w V M) H) (hS : va_S (xm_A V s.heap.size) s.heap H locs) (rho n : Nat) (hr : rho < V.2.2) (he : ∀ f, V.2.1 rho f = .inl (E.2.1 0, n, .inl f)) {i x : Int32} (hin : xm_in i n = true) (hdg : decode cc pc = .ok (.iastore, 1))
    (kk : ∀ (H1 : Heap) (locs1 : List Loc), va_P E.1 vwCl (xm_w V (xm_up M rho i.toNatClampNeg x)) H1 → va_S (xm_A V s.heap.size) s.heap H1 locs1 → W p l e R s m args below meth c H1 locs1 cells slots Q (F0 m (pc + 1) ls rest)) : W p l e R s m args below meth c H locs cells slots Q (F0 m pc ls (.int x :: .int i :: .ref (V.1 rho) :: rest)) := by
  obtain ⟨hx, hb, hml, hown, hts, -, -, hD, hK, -⟩ := C
  refine va_iast hx hb hK.1 hP (xm_vaD hD M s.heap.size) hS rho 0 (xm_at hr (he _)) rfl (xm_in_s hin) hdg (fun H1 locs1 hP1 hD1 hS1 => ?_)
  rw [xm_set hr (he _)] at hP1
  exact kk H1 locs1 hP1 hS1
theorem xm_cast (C : xm_C E V p s m args meth c own cc nL ret) (hP : va_P E.1 vwCl (xm_w V M) H) (hS : va_S (xm_A V s.heap.size) s.heap H locs) (rho n : Nat) (hr : rho < V.2.2) (he : ∀ f, V.2.1 rho f = .inl (E.2.1 1, n, .inl f)) {i x : Int32} (hin : xm_in i n = true) (hdg : decode cc pc = .ok (.castore, 1))
    (kk : ∀ (H1 : Heap) (locs1 : List Loc), va_P E.1 vwCl (xm_w V (xm_up M rho i.toNatClampNeg (vp_nar .char x))) H1 → va_S (xm_A V s.heap.size) s.heap H1 locs1 → W p l e R s m args below meth c H1 locs1 cells slots Q (F0 m (pc + 1) ls rest)) : W p l e R s m args below meth c H locs cells slots Q (F0 m pc ls (.int x :: .int i :: .ref (V.1 rho) :: rest)) := by
  obtain ⟨hx, hb, hml, hown, hts, -, -, hD, hK, -⟩ := C
  refine va_cast hx hb hK.1 hP (xm_vaD hD M s.heap.size) hS rho 1 (xm_at hr (he _)) rfl (xm_in_s hin) hdg (fun H1 locs1 hP1 hD1 hS1 => ?_)
  rw [xm_set hr (he _)] at hP1
  exact kk H1 locs1 hP1 hS1
theorem xm_zast (C : xm_C E V p s m args meth c own cc nL ret) (hP : va_P E.1 vwCl (xm_w V M) H) (hS : va_S (xm_A V s.heap.size) s.heap H locs) (rho n : Nat) (hr : rho < V.2.2) (he : ∀ f, V.2.1 rho f = .inl (E.2.1 2, n, .inl f)) {i x : Int32} (hin : xm_in i n = true) (hdg : decode cc pc = .ok (.bastore, 1))
    (kk : ∀ (H1 : Heap) (locs1 : List Loc), va_P E.1 vwCl (xm_w V (xm_up M rho i.toNatClampNeg (vp_nar .boolean x))) H1 → va_S (xm_A V s.heap.size) s.heap H1 locs1 → W p l e R s m args below meth c H1 locs1 cells slots Q (F0 m (pc + 1) ls rest)) : W p l e R s m args below meth c H locs cells slots Q (F0 m pc ls (.int x :: .int i :: .ref (V.1 rho) :: rest)) := by
  obtain ⟨hx, hb, hml, hown, hts, -, -, hD, hK, -⟩ := C
  refine va_zast hx hb hK.1 hP (xm_vaD hD M s.heap.size) hS rho 2 (xm_at hr (he _)) rfl (xm_in_s hin) hdg (fun H1 locs1 hP1 hD1 hS1 => ?_)
  rw [xm_set hr (he _)] at hP1
  exact kk H1 locs1 hP1 hS1
theorem xm_retI {below : List Frame} (C : xm_C E V p s m args meth c own cc nL (some .int)) (hP : va_P E.1 vwCl (xm_w V M) H) (hS : va_S (xm_A V s.heap.size) s.heap H locs) {v : Int32} (hdg : decode cc pc = .ok (.ireturn, 1)) : W p l e R s m args below meth c H locs 0 0 (MQ below (xm_Q E V M s.heap.size (some v)) args s 0 0 (xm_A V s.heap.size)) (F0 m pc ls [.int v]) := by
  obtain ⟨hx, hb, hml, hown, hts, hr, hlk, hD, hK, -⟩ := C
  exact W.iret hx hb hr (fun t ht hW => ⟨⟨rfl, by rw [ht]; exact hP⟩, hS.F ht⟩) hS.2.2 hdg hlk
theorem xm_retZ {below : List Frame} {ty : FieldType} (C : xm_C E V p s m args meth c own cc nL (some ty)) (hP : va_P E.1 vwCl (xm_w V M) H) (hS : va_S (xm_A V s.heap.size) s.heap H locs) {v : Int32} (hn : narrow ty (.int v) = .int v) (hdg : decode cc pc = .ok (.ireturn, 1)) : W p l e R s m args below meth c H locs 0 0 (MQ below (xm_Q E V M s.heap.size (some v)) args s 0 0 (xm_A V s.heap.size)) (F0 m pc ls [.int v]) := by
  obtain ⟨hx, hb, hml, hown, hts, hr, hlk, hD, hK, -⟩ := C
  exact W.zret hx hb hr hn (fun t ht hW => ⟨⟨rfl, by rw [ht]; exact hP⟩, hS.F ht⟩) hS.2.2 hdg hlk
theorem xm_retV {below : List Frame} (C : xm_C E V p s m args meth c own cc nL none) (hP : va_P E.1 vwCl (xm_w V M) H) (hS : va_S (xm_A V s.heap.size) s.heap H locs) (hdg : decode cc pc = .ok (.return_, 1)) : W p l e R s m args below meth c H locs 0 0 (MQ below (xm_Q E V M s.heap.size none) args s 0 0 (xm_A V s.heap.size)) (F0 m pc ls []) := by
  obtain ⟨hx, hb, hml, hown, hts, hr, hlk, hD, hK, -⟩ := C
  exact W.vret hx hb hr (fun t ht hW => ⟨⟨rfl, by rw [ht]; exact hP⟩, hS.F ht⟩) hS.2.2 hdg hlk
/-- behind a call -/
theorem xm_back {M' : xm_M} {r : Option Int32} {a : Array Value} {st0 : List Value} (hr : va_Run p l e R s m args below meth c H locs cells slots 0 0 (F0 m pc ls st0) rest (xm_Q E V M' H.size r a) (xm_A V H.size)) (hS : va_S (xm_A V s.heap.size) s.heap H locs)
    (kk : ∀ (H1 : Heap) (locs1 : List Loc), va_P E.1 vwCl (xm_w V M') H1 → va_S (xm_A V s.heap.size) s.heap H1 locs1 → W p l e R s m args below meth c H1 locs1 cells slots Q (F0 m (pc + 3) ls ((r.map Value.int).toList ++ rest))) : W p l e R s m args below meth c H locs cells slots Q (F0 m pc ls st0) := by
  intro T hT X
  obtain ⟨v, st₀, t, T', L, h0, X', hL, e1, e2, ⟨⟨hv, hp⟩, hz, hk⟩, st⟩ := hr T hT X
  cases hv
  rw [h0] at hz hk
  have hA := xm_A_le (V := V) hS.1
  obtain ⟨t2, a1, b1⟩ := kk T'.heap (locs ++ L) (by rw [e1]; exact hp) ⟨Nat.le_trans hS.1 (by rw [e1]; exact hz), fun q h1 h2 => by rw [e1, hk q (Nat.lt_of_lt_of_le h1 hS.1) (fun z => h2 (hA q z))]; exact hS.2.1 q h1 h2, fun q hq => by
      rcases List.mem_append.mp hq with h | h
      · exact hS.2.2 q h
      · exact hA _ (hL q h)⟩ T' rfl X'
  exact ⟨t2, st t2 a1, b1⟩
theorem xm_pre (C : xm_C E V p s m args meth c own cc nL ret) (hP : va_P E.1 vwCl (xm_w V M) H) (hS : va_S (xm_A V s.heap.size) s.heap H locs) (as : List Value) : ∀ U : State, U.heap = H → s.WarmedH U.vm → va_Pc as (xm_Pre E V M H.size) as.toArray U := by
  obtain ⟨hx, hb, hml, hown, hts, -, -, hD, hK, hS0⟩ := C
  intro U hU hW
  subst hU
  exact ⟨rfl, rfl, hP, hK.warm hW, (hS0.kept hS.2.1 |>.moved hW.alike).narrow (xm_A_le hS.1)⟩
def xm_FV (own : String) (index : Nat) (y : MethodName) (bytes : ByteArray) (maxL : Nat) (ret : Option FieldType) (n : Nat) : Prop := Cond.code y bytes maxL ret ∈ xm_tb ∧ Cond.methodLink own index y ∈ xm_tb ∧ Cond.instanceMethod y ∈ xm_tb ∧ Cond.selects y.cls y y ∈ xm_tb ∧ Cond.initialized y.cls ∈ xm_tb ∧ (y.cls ≠ "java/lang/invoke/MethodHandle" ∧ y.cls ≠ "java/lang/invoke/VarHandle" ∧ (parseMethodDescriptor y.desc).map (fun d => d.parameters.length) = some n)
def xm_FVN (own : String) (index : Nat) (y : MethodName) (host : String) (bytes : ByteArray) (maxL : Nat) (ret : Option FieldType) (n : Nat) : Prop := Cond.code y bytes maxL ret ∈ xm_tb ∧ Cond.methodLinkNest own index y host ∈ xm_nest ∧ Cond.instanceMethod y ∈ xm_tb ∧ Cond.selects y.cls y y ∈ xm_tb ∧ Cond.initialized y.cls ∈ xm_tb ∧ (y.cls ≠ "java/lang/invoke/MethodHandle" ∧ y.cls ≠ "java/lang/invoke/VarHandle" ∧ (parseMethodDescriptor y.desc).map (fun d => d.parameters.length) = some n)
def xm_FS (own : String) (index : Nat) (y : MethodName) (bytes : ByteArray) (maxL : Nat) (ret : Option FieldType) (n : Nat) : Prop := Cond.code y bytes maxL ret ∈ xm_tb ∧ Cond.methodLink own index y ∈ xm_tb ∧ Cond.static y ∈ xm_tb ∧ Cond.initialized y.cls ∈ xm_tb ∧ (y.cls ≠ "java/lang/invoke/MethodHandle" ∧ y.cls ≠ "java/lang/invoke/VarHandle" ∧ (parseMethodDescriptor y.desc).map (fun d => d.parameters.length) = some n)
def xm_FSN (own : String) (index : Nat) (y : MethodName) (host : String) (bytes : ByteArray) (maxL : Nat) (ret : Option FieldType) (n : Nat) : Prop := Cond.code y bytes maxL ret ∈ xm_tb ∧ Cond.methodLinkNest own index y host ∈ xm_nest ∧ Cond.static y ∈ xm_tb ∧ Cond.initialized y.cls ∈ xm_tb ∧ (y.cls ≠ "java/lang/invoke/MethodHandle" ∧ y.cls ≠ "java/lang/invoke/VarHandle" ∧ (parseMethodDescriptor y.desc).map (fun d => d.parameters.length) = some n)
variable {y : MethodName} {bytes : ByteArray} {maxL index n fr lo : Nat} {yret : Option FieldType} {M' : xm_M} {r : Option Int32} {st0 : List Value}
theorem xm_callV (C : xm_C E V p s m args meth c own cc nL ret) (hP : va_P E.1 vwCl (xm_w V M) H) (hS : va_S (xm_A V s.heap.size) s.heap H locs) {b : Nat} (As rest : List Value) (hM : xm_Met l E V y bytes maxL yret fr lo (.ref b :: As) M M' r) (F : xm_FV own index y bytes maxL yret n) (hrv : ∃ cell : Cell, H[b]? = some cell ∧ cell.vm.isStatics = false ∧ s.vm.findClass y.cls = some cell.cls) (hst : st0 = As.reverse ++ .ref b :: rest) (hn : As.length = n) (hR : fr + 1 ≤ R.frames ∧ 8 + (maxL + 11) + lo ≤ R.locals) (hsz : ls.size = nL) (hW : (rest.map fun v => v.category).sum ≤ 8) (hcs : cells ≤ R.cells ∧ slots ≤ R.slots) (hdg : decode cc pc = .ok (.invokevirtual index, 3))
    (kk : ∀ (H1 : Heap) (locs1 : List Loc), va_P E.1 vwCl (xm_w V M') H1 → va_S (xm_A V s.heap.size) s.heap H1 locs1 → W p l e R s m args below meth c H1 locs1 cells slots Q (F0 m (pc + 3) ls ((r.map Value.int).toList ++ rest))) : W p l e R s m args below meth c H locs cells slots Q (F0 m pc ls st0) := by
  obtain ⟨f1, f2, f3, f4, f5, f6⟩ := F
  have hpre := xm_pre C hP hS (.ref b :: As)
  obtain ⟨hx, hb, hml, hown, hts, -, -, hD, hK, hS0⟩ := C
  refine xm_back (va_runV (Ts := xm_tb) (C := y.cls) (As := As) (rest := rest) (b := b) ⟨hx, hb, hml, hown, hts⟩ (hM H.size) ⟨callB_of n hts (xm_good f1 fun _ h => h) rfl rfl rfl (hts _ f5) (hts _ f2) f6 hR, hts _ f3, hts _ f4⟩ ⟨xm_blind, hrv, hpre⟩ rfl hn hsz hst (lv_room hW) hdg hcs) hS kk
theorem xm_callVN (C : xm_C E V p s m args meth c own cc nL ret) (hP : va_P E.1 vwCl (xm_w V M) H) (hS : va_S (xm_A V s.heap.size) s.heap H locs) {b : Nat} {host : String} (As rest : List Value) (hM : xm_Met l E V y bytes maxL yret fr lo (.ref b :: As) M M' r) (F : xm_FVN own index y host bytes maxL yret n) (hrv : ∃ cell : Cell, H[b]? = some cell ∧ cell.vm.isStatics = false ∧ s.vm.findClass y.cls = some cell.cls) (hst : st0 = As.reverse ++ .ref b :: rest) (hn : As.length = n) (hR : fr + 1 ≤ R.frames ∧ 8 + (maxL + 11) + lo ≤ R.locals) (hsz : ls.size = nL) (hW : (rest.map fun v => v.category).sum ≤ 8) (hcs : cells ≤ R.cells ∧ slots ≤ R.slots) (hdg : decode cc pc = .ok (.invokevirtual index, 3))
    (kk : ∀ (H1 : Heap) (locs1 : List Loc), va_P E.1 vwCl (xm_w V M') H1 → va_S (xm_A V s.heap.size) s.heap H1 locs1 → W p l e R s m args below meth c H1 locs1 cells slots Q (F0 m (pc + 3) ls ((r.map Value.int).toList ++ rest))) : W p l e R s m args below meth c H locs cells slots Q (F0 m pc ls st0) := by
  obtain ⟨f1, f2, f3, f4, f5, f6⟩ := F
  have hpre := xm_pre C hP hS (.ref b :: As)
  obtain ⟨hx, hb, hml, hown, hts, -, -, hD, hK, hS0⟩ := C
  refine xm_back (va_runVN (Ts := xm_tb) (C := y.cls) (As := As) (rest := rest) (b := b) ⟨hx, hb, hml, hown, hts⟩ (hM H.size) ⟨va_cnB n hts (xm_good f1 fun _ h => h) rfl rfl rfl (hK.2.1 _ f2) (hts _ f5) f6 hR, hts _ f3, hts _ f4⟩ ⟨xm_blind, hrv, hpre⟩ rfl hn hsz hst (lv_room hW) hdg hcs) hS kk
theorem xm_callS (C : xm_C E V p s m args meth c own cc nL ret) (hP : va_P E.1 vwCl (xm_w V M) H) (hS : va_S (xm_A V s.heap.size) s.heap H locs) (As rest : List Value) (hM : xm_Met l E V y bytes maxL yret fr lo As M M' r) (F : xm_FS own index y bytes maxL yret n) (hst : st0 = As.reverse ++ rest) (hn : As.length = n) (hR : fr + 1 ≤ R.frames ∧ 8 + (maxL + 11) + lo ≤ R.locals) (hsz : ls.size = nL) (hW : (rest.map fun v => v.category).sum ≤ 8) (hcs : cells ≤ R.cells ∧ slots ≤ R.slots) (hdg : decode cc pc = .ok (.invokestatic index, 3))
    (kk : ∀ (H1 : Heap) (locs1 : List Loc), va_P E.1 vwCl (xm_w V M') H1 → va_S (xm_A V s.heap.size) s.heap H1 locs1 → W p l e R s m args below meth c H1 locs1 cells slots Q (F0 m (pc + 3) ls ((r.map Value.int).toList ++ rest))) : W p l e R s m args below meth c H locs cells slots Q (F0 m pc ls st0) := by
  obtain ⟨f1, f2, f3, f5, f6⟩ := F
  have hpre := xm_pre C hP hS As
  obtain ⟨hx, hb, hml, hown, hts, -, -, hD, hK, hS0⟩ := C
  refine xm_back (va_runS (Ts := xm_tb) (As := As) (rest := rest) ⟨hx, hb, hml, hown, hts⟩ (hM H.size) ⟨callB_of n hts (xm_good f1 fun _ h => h) rfl rfl rfl (hts _ f5) (hts _ f2) f6 hR, hts _ f3⟩ ⟨xm_blind, hpre⟩ rfl hn hsz hst (lv_room hW) hdg hcs) hS kk
theorem xm_callSN (C : xm_C E V p s m args meth c own cc nL ret) (hP : va_P E.1 vwCl (xm_w V M) H) (hS : va_S (xm_A V s.heap.size) s.heap H locs) {host : String} (As rest : List Value) (hM : xm_Met l E V y bytes maxL yret fr lo As M M' r) (F : xm_FSN own index y host bytes maxL yret n) (hst : st0 = As.reverse ++ rest) (hn : As.length = n) (hR : fr + 1 ≤ R.frames ∧ 8 + (maxL + 11) + lo ≤ R.locals) (hsz : ls.size = nL) (hW : (rest.map fun v => v.category).sum ≤ 8) (hcs : cells ≤ R.cells ∧ slots ≤ R.slots) (hdg : decode cc pc = .ok (.invokestatic index, 3))
    (kk : ∀ (H1 : Heap) (locs1 : List Loc), va_P E.1 vwCl (xm_w V M') H1 → va_S (xm_A V s.heap.size) s.heap H1 locs1 → W p l e R s m args below meth c H1 locs1 cells slots Q (F0 m (pc + 3) ls ((r.map Value.int).toList ++ rest))) : W p l e R s m args below meth c H locs cells slots Q (F0 m pc ls st0) := by
  obtain ⟨f1, f2, f3, f5, f6⟩ := F
  have hpre := xm_pre C hP hS As
  obtain ⟨hx, hb, hml, hown, hts, -, -, hD, hK, hS0⟩ := C
  refine xm_back (va_runSN (Ts := xm_tb) (As := As) (rest := rest) ⟨hx, hb, hml, hown, hts⟩ (hM H.size) ⟨va_cnB n hts (xm_good f1 fun _ h => h) rfl rfl rfl (hK.2.1 _ f2) (hts _ f5) f6 hR, hts _ f3, trivial⟩ ⟨xm_blind, hpre⟩ rfl hn hsz hst (lv_room hW) hdg hcs) hS kk
/-- the receiver of a call -/
theorem xm_recv (C : xm_C E V p s m args meth c own cc nL ret) (hP : va_P E.1 vwCl (xm_w V M) H) (rho : Nat) {ci N : Nat} {K : String} {T : u_T} {fs : List Value} (hc : vwCl[ci]? = some (K, T, N)) (hr : rho < V.2.2) (he : V.2.1 rho (M rho) = .inr (ci, fs)) : ∃ cell : Cell, H[V.1 rho]? = some cell ∧ cell.vm.isStatics = false ∧ s.vm.findClass K = some cell.cls := by
  obtain ⟨hx, hb, hml, hown, hts, -, -, hD, hK, hS0⟩ := C
  exact va_recv hK.1 hP hc (xm_at hr he)
end XROWS
