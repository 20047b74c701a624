/-! CONSTRUCTORS: a fresh object comes with the cells that its constructor makes; S says which they are -/
def xn_Pre (E : xm_E) (h0 : Nat) (c0 : va_E) (sz : Nat) (U : State) : Prop := U.heap.size = sz ∧ va_P E.1 vwCl [(h0, c0)] U.heap ∧ xm_K E U
def xn_Q (E : xm_E) (h0 : Nat) (c0 : va_E) (S : Nat → va_W → Prop) (sz : Nat) : Array Value → State → Outcome → State → Prop := fun _ st oc t => (oc = .returned none ∧ ∃ w1, S h0 w1 ∧ va_P E.1 vwCl w1 t.heap ∧ va_D (va_A [(h0, c0)] sz) w1) ∧ va_F (va_A [(h0, c0)] sz) st t
def xn_Met (l : Launch) (E : xm_E) (y : MethodName) (cc : ByteArray) (maxL fr mc ms lo : Nat) (c0 : va_E) (S : Nat → va_W → Prop) : Prop := ∀ h0 sz, Met l y (Cond.code y cc maxL none :: xm_tb) { frames := fr, cells := mc, slots := ms, locals := lo } (va_Pc [.ref h0] (xn_Pre E h0 c0 sz)) (xn_Q E h0 c0 S sz) mc ms (va_A [(h0, c0)] sz)
theorem xn_blind {E : xm_E} {h0 sz : Nat} {c0 : va_E} {as : List Value} : FrameBlind (va_Pc as (xn_Pre E h0 c0 sz)) := fun _ U g mk q => ⟨q.1, q.2.1, q.2.2.1, xm_K.same (s := U) rfl q.2.2.2⟩
def xn_C (E : xm_E) (p : Program) (s : State) (m : MethodId) (args : Array Value) (meth : Method) (c : Code) (own : String) (cc : ByteArray) (nL : Nat) : Prop :=
  p.tables.exec = Jvm.exec ∧ c.code = cc ∧ c.maxLocals = nL ∧ s.vm.findClass own = some m.cls ∧ (∀ w ∈ xm_tb, w.before args s = true) ∧ meth.sig.returnType = none ∧ meth.locks = false ∧ xm_K E s ∧ meth.name = "<init>"
theorem xn_met {l : Launch} {E : xm_E} {y : MethodName} {cc : ByteArray} {maxL fr mc ms lo : Nat} {own : String} {c0 : va_E} {S : Nat → va_W → Prop} (hy : plainName y.cls = true) (hyc : y.cls = own) (hyn : y.name = "<init>") (hlen : 1 ≤ maxL)
    (body : ∀ (h0 : Nat) (p : Program) (e : Env) (s : State) (m : MethodId) (below : List Frame) (meth : Method) (c : Code), xn_C E p s m #[.ref h0] meth c own cc maxL → va_P E.1 vwCl [(h0, c0)] s.heap → ∀ ls : Array Slot, lv_has ls maxL [(0, .ref h0)] →
      W p l e { frames := fr, cells := mc, slots := ms, locals := lo } s m #[.ref h0] below meth c s.heap [] 0 0 (MQ below (xn_Q E h0 c0 S s.heap.size) #[.ref h0] s mc ms (va_A [(h0, c0)] s.heap.size)) (F0 m 0 ls [])) : xn_Met l E y cc maxL fr mc ms lo c0 S := by
  intro h0 sz
  refine Met.ofW (cc := cc) (maxL := maxL) (ret := none) hy rfl ?_
  intro p e s m args below meth c s₁ B hml hv
  obtain ⟨rfl, hsz, hP, hK⟩ := hv
  subst hsz
  have hts := atoms_spec (ws := Cond.code y cc maxL none :: xm_tb) B.pre
  have hown : s.vm.findClass own = some m.cls := hyc ▸ findClass_of_methodNamed B.named
  have hin : meth.name = "<init>" := hyn ▸ (name_of_methodNamed B.named B.method).1
  have hl := lv_entry [.ref h0] (n := maxL) hlen
  rw [lg_entry_eq]
  exact body h0 p e s m below meth c ⟨B.exec, B.bytes, hml, hown, fun w hw => hts w (List.mem_cons_of_mem _ hw), B.returns, B.notSynchronized, hK, hin⟩ hP _ hl
theorem xn_obj : Cond.methodLink "WindowMatches" 1 Lib.objectInit ∈ xm_tb → True := fun _ => trivial
section XNEW
variable {p : Program} {l : Launch} {e : Env} {R : Room} {s : State} {m : MethodId} {args : Array Value} {below : List Frame} {meth : Method} {c : Code} {H H0 : Heap} {locs : List Loc} {cells slots : Nat} {Q : State → Prop}
variable {cc : ByteArray} {pc : Nat} {ls : Array Slot} {rest : List Value} {E : xm_E} {own : String} {nL : Nat} {A : Nat → Prop} {ws : va_W}
theorem xn_ret {below : List Frame} {h0 : Nat} {c0 : va_E} {S : Nat → va_W → Prop} (C : xn_C E p s m args meth c own cc nL) (hP : va_P E.1 vwCl ws H) (hD : va_D (va_A [(h0, c0)] s.heap.size) ws) (hS : va_S (va_A [(h0, c0)] s.heap.size) s.heap H locs) {w : va_W} (hw : ws = w) (hs : S h0 w) (hdg : decode cc pc = .ok (.return_, 1)) {k n : Nat} (h1 : cells = k) (h2 : slots = n) : W p l e R s m args below meth c H locs cells slots (MQ below (xn_Q E h0 c0 S s.heap.size) args s k n (va_A [(h0, c0)] s.heap.size)) (F0 m pc ls []) := by
  obtain ⟨hx, hb, hml, hown, hts, hr, hlk, hK, hin⟩ := C
  subst h1; subst h2; subst hw
  exact W.vret hx hb hr (fun t ht hW => ⟨⟨rfl, ws, hs, by rw [ht]; exact hP, hD⟩, hS.F ht⟩) hS.2.2 hdg hlk
theorem xn_back {q mc ms : Nat} {c0 : va_E} {S : Nat → va_W → Prop} {a : Array Value} {st0 : List Value} (hr : va_Run p l e R s m args below meth c H locs cells slots mc ms (F0 m pc ls st0) rest (xn_Q E q c0 S H.size a) (va_A [(q, c0)] H.size)) (hP : va_P E.1 vwCl (ws ++ [(q, c0)]) H) (hD : va_D A (ws ++ [(q, c0)])) (hS : va_S A H0 H locs) (hA : ∀ q, H0.size ≤ q → A q)
    (kk : ∀ (w1 : va_W) (H1 : Heap) (locs1 : List Loc), S q w1 → va_P E.1 vwCl (ws ++ w1) H1 → va_D A (ws ++ w1) → va_S A H0 H1 locs1 → W p l e R s m args below meth c H1 locs1 (cells + mc) (slots + ms) Q (F0 m (pc + 3) ls rest)) : W p l e R s m args below meth c H locs cells slots Q (F0 m pc ls st0) := by
  intro T hT X
  obtain ⟨v, st₀, t, T', L, h0, X', hL, e1, e2, ⟨⟨hv, w1, hs, hp, hd⟩, hz, hk⟩, st⟩ := hr T hT X
  cases hv
  rw [h0] at hz hk
  have hq : (ws ++ [(q, c0)])[ws.length]? = some (q, c0) := by simp
  have hAq : A q := hD.2 _ _ hq
  have hF : ∀ x, va_A [(q, c0)] H.size x → A x := by
    intro x hx
    rcases hx with ⟨k, e, hx⟩ | hx
    · have h9 := List.mem_of_getElem? hx
      rw [List.mem_singleton] at h9
      cases h9
      exact hAq
    · exact hA x (Nat.le_trans hS.1 hx)
  have hws : ∀ (k : Nat) (x : Nat × va_E), ws[k]? = some x → (ws ++ [(q, c0)])[k]? = some x := fun k x hx => by
    rw [List.getElem?_append_left (List.getElem?_eq_some_iff.mp hx).1]
    exact hx
  have apart : ∀ (k : Nat) (x : Nat × va_E), ws[k]? = some x → x.1 < H.size ∧ ¬ va_A [(q, c0)] H.size x.1 := by
    intro k x hx
    have hl := (hP k x (hws k x hx)).lt
    refine ⟨hl, fun h => ?_⟩
    rcases h with ⟨j, e, h⟩ | h
    · have h9 := List.mem_of_getElem? h
      rw [List.mem_singleton] at h9
      have hkl := (List.getElem?_eq_some_iff.mp hx).1
      have := hD.1 k ws.length x (q, c0) (hws k x hx) hq (Prod.mk.inj h9).1
      omega
    · omega
  have hPw : va_P E.1 vwCl ws t.heap := fun k x hx => (hP k x (hws k x hx)).kept (hk x.1 (apart k x hx).1 (apart k x hx).2)
  have hDw : va_D A ws := ⟨fun i j x y hx hy => hD.1 i j x y (hws i x hx) (hws j y hy), fun k x hx => hD.2 k x (hws k x hx)⟩
  obtain ⟨t2, a1, b1⟩ := kk w1 T'.heap (locs ++ L) hs (by rw [e1]; exact hPw.app hp) (va_D.app hDw (hd.weaken (fun k x _ h => hF x.1 h)) (fun i j x y hx hy hxy => (apart i x hx).2 (by rw [hxy]; exact hd.2 j y hy))) ⟨Nat.le_trans hS.1 (by rw [e1]; exact hz), fun x h1 h2 => by rw [e1, hk x (Nat.lt_of_lt_of_le h1 hS.1) (fun z => h2 (hF x z))]; exact hS.2.1 x h1 h2, fun x hx => by
      rcases List.mem_append.mp hx with h | h
      · exact hS.2.2 x h
      · exact hF _ (hL x h)⟩ T' rfl X'
  exact ⟨t2, st t2 a1, b1⟩
theorem xn_pre (hK : xm_K E s) {q : Nat} {c0 : va_E} (hP : va_P E.1 vwCl (ws ++ [(q, c0)]) H) : ∀ U : State, U.heap = H → s.WarmedH U.vm → va_Pc [.ref q] (xn_Pre E q c0 H.size) [Value.ref q].toArray U := by
  intro U hU hW
  subst hU
  refine ⟨rfl, rfl, fun k x hx => ?_, hK.warm hW⟩
  have h9 := List.mem_of_getElem? hx
  rw [List.mem_singleton] at h9
  subst h9
  exact hP ws.length _ (by simp)
def xn_FI (own : String) (index : Nat) (y : MethodName) (bytes : ByteArray) (maxL : Nat) : Prop := Cond.code y bytes maxL none ∈ xm_tb ∧ Cond.methodLink own index y ∈ xm_tb ∧ Cond.instanceMethod y ∈ xm_tb ∧ Cond.initialized y.cls ∈ xm_tb ∧ y.name = "<init>" ∧ (y.cls ≠ "java/lang/invoke/MethodHandle" ∧ y.cls ≠ "java/lang/invoke/VarHandle" ∧ (parseMethodDescriptor y.desc).map (fun d => d.parameters.length) = some 0)
def xn_FIN (own : String) (index : Nat) (y : MethodName) (host : String) (bytes : ByteArray) (maxL : Nat) : Prop := Cond.code y bytes maxL none ∈ xm_tb ∧ Cond.methodLinkNest own index y host ∈ xm_nest ∧ Cond.instanceMethod y ∈ xm_tb ∧ Cond.initialized y.cls ∈ xm_tb ∧ y.name = "<init>" ∧ (y.cls ≠ "java/lang/invoke/MethodHandle" ∧ y.cls ≠ "java/lang/invoke/VarHandle" ∧ (parseMethodDescriptor y.desc).map (fun d => d.parameters.length) = some 0)
variable {y : MethodName} {bytes : ByteArray} {maxL index fr mc ms lo q : Nat} {c0 : va_E} {S : Nat → va_W → Prop} {st0 : List Value}
theorem xn_callI (hx : p.tables.exec = Jvm.exec) (hb : c.code = cc) (hml : c.maxLocals = nL) (hown : s.vm.findClass own = some m.cls) (hts : ∀ w ∈ xm_tb, w.before args s = true) (hK : xm_K E s) (hP : va_P E.1 vwCl (ws ++ [(q, c0)]) H) (hD : va_D A (ws ++ [(q, c0)])) (hS : va_S A H0 H locs) (hA : ∀ q, H0.size ≤ q → A q) (hM : xn_Met l E y bytes maxL fr mc ms lo c0 S) (F : xn_FI own index y bytes maxL) (hst : st0 = .ref q :: rest) (hR : fr + 1 ≤ R.frames ∧ 8 + (maxL + 11) + lo ≤ R.locals) (hsz : ls.size = nL) (hW : (rest.map fun v => v.category).sum ≤ 8) (hcs : cells + mc ≤ R.cells ∧ slots + ms ≤ R.slots) (hdg : decode cc pc = .ok (.invokespecial index, 3))
    (kk : ∀ (w1 : va_W) (H1 : Heap) (locs1 : List Loc), S q w1 → va_P E.1 vwCl (ws ++ w1) H1 → va_D A (ws ++ w1) → va_S A H0 H1 locs1 → W p l e R s m args below meth c H1 locs1 (cells + mc) (slots + ms) Q (F0 m (pc + 3) ls rest)) : W p l e R s m args below meth c H locs cells slots Q (F0 m pc ls st0) := by
  obtain ⟨f1, f2, f3, f5, f7, f6⟩ := F
  exact xn_back (va_runI (Ts := xm_tb) (As := []) (rest := rest) (b := q) ⟨hx, hb, hml, hown, hts⟩ (hM q H.size) ⟨callB_of 0 hts (xm_good f1 fun _ h => h) rfl rfl rfl (hts _ f5) (hts _ f2) f6 hR, f7, hts _ f3⟩ ⟨xn_blind, xn_pre hK hP⟩ rfl rfl hsz hst (lv_room hW) hdg hcs) hP hD hS hA kk
theorem xn_callIN {host : String} (hx : p.tables.exec = Jvm.exec) (hb : c.code = cc) (hml : c.maxLocals = nL) (hown : s.vm.findClass own = some m.cls) (hts : ∀ w ∈ xm_tb, w.before args s = true) (hK : xm_K E s) (hP : va_P E.1 vwCl (ws ++ [(q, c0)]) H) (hD : va_D A (ws ++ [(q, c0)])) (hS : va_S A H0 H locs) (hA : ∀ q, H0.size ≤ q → A q) (hM : xn_Met l E y bytes maxL fr mc ms lo c0 S) (F : xn_FIN own index y host bytes maxL) (hst : st0 = .ref q :: rest) (hR : fr + 1 ≤ R.frames ∧ 8 + (maxL + 11) + lo ≤ R.locals) (hsz : ls.size = nL) (hW : (rest.map fun v => v.category).sum ≤ 8) (hcs : cells + mc ≤ R.cells ∧ slots + ms ≤ R.slots) (hdg : decode cc pc = .ok (.invokespecial index, 3))
    (kk : ∀ (w1 : va_W) (H1 : Heap) (locs1 : List Loc), S q w1 → va_P E.1 vwCl (ws ++ w1) H1 → va_D A (ws ++ w1) → va_S A H0 H1 locs1 → W p l e R s m args below meth c H1 locs1 (cells + mc) (slots + ms) Q (F0 m (pc + 3) ls rest)) : W p l e R s m args below meth c H locs cells slots Q (F0 m pc ls st0) := by
  obtain ⟨f1, f2, f3, f5, f7, f6⟩ := F
  exact xn_back (va_runIN (Ts := xm_tb) (As := []) (rest := rest) (b := q) ⟨hx, hb, hml, hown, hts⟩ (hM q H.size) ⟨va_cnB 0 hts (xm_good f1 fun _ h => h) rfl rfl rfl (hK.2.1 _ f2) (hts _ f5) f6 hR, f7, hts _ f3⟩ ⟨xn_blind, xn_pre hK hP⟩ rfl rfl hsz hst (lv_room hW) hdg hcs) hP hD hS hA kk
/-- newarray: the array's class is the one that is known -/
theorem xn_newa (hx : p.tables.exec = Jvm.exec) (hb : c.code = cc) (hts : ∀ w ∈ xm_tb, w.before args s = true) (hK : xm_K E s) {atype : ArrayType} {ty : FieldType} (harr : Cond.arrayClass ty ∈ xm_tb) (hty : newarray.typeOf atype = ty) (t : Nat) (ht : (xm_ty E)[t]? = some (E.2.1 t, ty)) (hro : ∀ cA : ClassId, va_RA s cA ty → va_RA s (E.2.1 t) ty → cA = E.2.1 t) (hP : va_P E.1 vwCl ws H) (hD : va_D A ws) (hS : va_S A H0 H locs) (hA : ∀ q, H0.size ≤ q → A q) {n : Int32} {N' : Nat} {a0 : vp_A} (ha : ∀ cA : ClassId, vp_cell cA a0 = arrV cA N' (fun _ => defaultValue ty)) (hn : ¬ n < 0) (hN : n.toNatClampNeg = N') (hbytes : N' * componentBytes ty ≤ 536870912) (hcells : cells + 1 ≤ R.cells) (hslots : slots + N' ≤ R.slots) (hdg : decode cc pc = .ok (.newarray atype, 2))
    (kk : ∀ (q : Nat) (H1 : Heap), va_P E.1 vwCl (ws ++ [(q, .inl (E.2.1 t, a0))]) H1 → va_D A (ws ++ [(q, .inl (E.2.1 t, a0))]) → va_S A H0 H1 locs → W p l e R s m args below meth c H1 locs (cells + 1) (slots + N') Q (F0 m (pc + 2) ls (.ref q :: rest))) : W p l e R s m args below meth c H locs cells slots Q (F0 m pc ls (.int n :: rest)) := by
  refine va_newa hx hb (by rw [hty]; exact hts _ harr) hty hK.1 hP hD hS hA ha hn hN hbytes hcells hslots hdg (fun q cA H1 hK1 hP1 hD1 hS1 => ?_)
  have h1 := (hK1.2 (xm_ty E).length (cA, ty) (by simp)).2
  have h2 := (hK.1.2 t _ ht).2
  have h3 := hro cA h1 h2
  subst h3
  exact kk q H1 hP1 hD1 hS1
theorem xn_ra {U : State} {c1 c2 : ClassId} {ty : FieldType} (hty : ∀ C, ty ≠ .object C) (h1 : va_RA U c1 ty) (h2 : va_RA U c2 ty) : c1 = c2 := by
  cases ty with
  | object C => exact absurd rfl (hty C)
  | _ => exact Option.some.inj (Eq.trans (Eq.symm h1) h2)
theorem xn_rao {U : State} {c1 c2 : ClassId} {C : String} (h1 : va_RA U c1 (.object C)) (h2 : va_RA U c2 (.object C)) : c1 = c2 := by
  obtain ⟨_, _, _, _, _, h1⟩ := h1
  obtain ⟨_, _, _, _, _, h2⟩ := h2
  exact Option.some.inj (h1.symm.trans h2)
theorem xn_newq (hx : p.tables.exec = Jvm.exec) (hb : c.code = cc) (hown : s.vm.findClass own = some m.cls) (hts : ∀ w ∈ xm_tb, w.before args s = true) (hK : xm_K E s) {C : String} (hclink : Cond.classLink own index C ∈ xm_tb) (hover : va_AO C s) (t : Nat) (ht : (xm_ty E)[t]? = some (E.2.1 t, .object C)) (hP : va_P E.1 vwCl ws H) (hD : va_D A ws) (hS : va_S A H0 H locs) (hA : ∀ q, H0.size ≤ q → A q) {n : Int32} {N' : Nat} (hn : ¬ n < 0) (hN : n.toNatClampNeg = N') (hbytes : N' * 4 ≤ 536870912) (hcells : cells + 1 ≤ R.cells) (hslots : slots + N' ≤ R.slots) (hdg : decode cc pc = .ok (.anewarray index, 3))
    (kk : ∀ (q : Nat) (H1 : Heap), va_P E.1 vwCl (ws ++ [(q, .inl (E.2.1 t, N', .inr (.inr (.inr (.inr (fun _ => none))))))]) H1 → va_D A (ws ++ [(q, .inl (E.2.1 t, N', .inr (.inr (.inr (.inr (fun _ => none))))))]) → va_S A H0 H1 locs → W p l e R s m args below meth c H1 locs (cells + 1) (slots + N') Q (F0 m (pc + 3) ls (.ref q :: rest))) : W p l e R s m args below meth c H locs cells slots Q (F0 m pc ls (.int n :: rest)) := by
  refine va_newq hx hb hown (hts _ hclink) hover hK.1 hP hD hS hA hn hN hbytes hcells hslots hdg (fun q cA H1 hK1 hP1 hD1 hS1 => ?_)
  have h1 := (hK1.2 (xm_ty E).length (cA, .object C) (by simp)).2
  have h2 := (hK.1.2 t _ ht).2
  have h3 := xn_rao h1 h2
  subst h3
  exact kk q H1 hP1 hD1 hS1
end XNEW
/-! the memory of a new object of either side -/
def xm_0 : xm_M := fun k j => if k < 18 then (if k = 1 ∧ j = 0 then 1 else if k = 8 ∧ j = 3 then (-1) else if k = 8 ∧ j = 5 then (-5) else 0) else if (k - 18) % 17 = 0 then (if j = 5 then 20 else 0) else if 5 ≤ (k - 18) % 17 ∧ ((k - 18) % 17 - 5) % 3 = 0 ∧ j = 0 then 1 else 0
/-- an array of references is known up to what lies behind its end -/
theorem xn_eqv {D : va_G} {cl : List vw_C} {ws : va_W} {H : Heap} (h : va_P D cl ws H) {k a n : Nat} {cA : ClassId} {f : Nat → Option Nat} (g : Nat → Option Nat) (hk : ws[k]? = some (a, .inl (cA, n, .inr (.inr (.inr (.inr f)))))) (hfg : ∀ j, j < n → f j = g j) : va_P D cl (ws.set k (a, .inl (cA, n, .inr (.inr (.inr (.inr g)))))) H := by
  have hl := (List.getElem?_eq_some_iff.mp hk).1
  intro j q hq
  by_cases hj : j = k
  · subst hj
    rw [List.getElem?_set_self hl] at hq
    cases hq
    have h1 := h j _ hk
    show H[a]? = some (vp_cell cA (n, .inr (.inr (.inr (.inr g)))))
    have h2 : H[a]? = some (vp_cell cA (n, .inr (.inr (.inr (.inr f))))) := h1
    rw [h2]
    congr 1
    rw [vp_cell_q, vp_cell_q]
    simp only [arrV]
    congr 1
    apply Array.ext
    · simp
    · intro i h1 h2
      simp only [Array.getElem_ofFn]
      have : i < n := by simpa using h1
      rw [hfg i this]
  · rw [List.getElem?_set_ne (Ne.symm hj)] at hq
    exact h j q hq
theorem xn_j4 {f g : Nat → Option Nat} (h0 : f 0 = g 0) (h1 : f 1 = g 1) (h2 : f 2 = g 2) (h3 : f 3 = g 3) : ∀ j, j < 4 → f j = g j := by
  intro j hj
  rcases (show j = 0 ∨ j = 1 ∨ j = 2 ∨ j = 3 by omega) with rfl | rfl | rfl | rfl
  · exact h0
  · exact h1
  · exact h2
  · exact h3
def xn_SP (E : xm_E) : Nat → va_W → Prop := fun h0 w => ∃ b : Nat → Nat, b 0 = h0 ∧ w = xm_w (b, xc_P E b 0, 3) (fun o => xm_0 (1 + o))
def xn_SS (E : xm_E) : Nat → va_W → Prop := fun h0 w => ∃ b : Nat → Nat, b 0 = h0 ∧ w = xm_w (b, xc_S E b 0, 17) (fun o => xm_0 (18 + o))
def xn_hs (E : xm_E) (b : Nat → Nat) (k : Nat) (f : Nat → Int32) : va_E := match k with
  | 0 => .inr (0, [.ref (b 1), .int (f 1), .int (f 2)])
  | 1 => .inl (E.2.1 3, 4, .inr (.inr (.inr (.inr (fun j => [some (b 2), some (b 19), some (b 36), some (b 53)].getD j none)))))
  | k + 2 => xc_S E b (2 + 17 * (k / 17)) (k % 17) f
def xn_SH (E : xm_E) : Nat → va_W → Prop := fun h0 w => ∃ b : Nat → Nat, b 0 = h0 ∧ w = xm_w (b, xn_hs E b, 70) (fun o => if o < 2 then xm_0 (4 + o) else xm_0 (50 + o))
def xn_ws (E : xm_E) (b : Nat → Nat) (k : Nat) (f : Nat → Int32) : va_E := match k with
  | 0 => .inr (5, [.ref (b 1), .int (f 1), .int (f 2)])
  | _ => .inl (E.2.1 1, 80, .inl f)
def xn_SW (E : xm_E) : Nat → va_W → Prop := fun h0 w => ∃ b : Nat → Nat, b 0 = h0 ∧ w = xm_w (b, xn_ws E b, 2) (fun o => xm_0 (6 + o))
def xn_ls (E : xm_E) (b : Nat → Nat) (k : Nat) (f : Nat → Int32) : va_E := match k with
  | 0 => .inr (1, [.int (f 0), .ref (b 1), .ref (b 2), .ref (b 3), .ref (b 4)])
  | 1 => .inl (E.2.1 0, 25, .inl f)
  | 2 => .inl (E.2.1 1, 25, .inl f)
  | 3 => .inl (E.2.1 0, 25, .inl f)
  | _ => .inl (E.2.1 0, 25, .inl f)
def xn_SL (E : xm_E) : Nat → va_W → Prop := fun h0 w => ∃ b : Nat → Nat, b 0 = h0 ∧ w = xm_w (b, xn_ls E b, 5) (fun o => xm_0 (13 + o))
def xn_es (E : xm_E) (b : Nat → Nat) (k : Nat) (f : Nat → Int32) : va_E := match k with
  | 0 => .inr (3, [.ref (b 5), .int (f 1), .int (f 2), .int (f 3), .int (f 4), .int (f 5), .int (f 6), .int (f 7), .int (f 8), .ref (b 1), .ref (b 2), .ref (b 3), .int (f 12), .int (f 13), .int (f 14), .ref (b 4)])
  | 1 => .inl (E.2.1 1, 4, .inl f)
  | 2 => .inl (E.2.1 1, 4, .inl f)
  | 3 => .inl (E.2.1 0, 4, .inl f)
  | 4 => .inl (E.2.1 0, 25, .inl f)
  | 5 => .inr (1, [.int (f 0), .ref (b 6), .ref (b 7), .ref (b 8), .ref (b 9)])
  | 6 => .inl (E.2.1 0, 25, .inl f)
  | 7 => .inl (E.2.1 1, 25, .inl f)
  | 8 => .inl (E.2.1 0, 25, .inl f)
  | _ => .inl (E.2.1 0, 25, .inl f)
def xn_SE (E : xm_E) : Nat → va_W → Prop := fun h0 w => ∃ b : Nat → Nat, b 0 = h0 ∧ w = xm_w (b, xn_es E b, 10) (fun o => xm_0 (8 + o))
def xn_SX (E : xm_E) : Nat → va_W → Prop := fun h0 w => ∃ b : Nat → Nat, b 0 = h0 ∧ w = xm_w (xv E b) xm_0
