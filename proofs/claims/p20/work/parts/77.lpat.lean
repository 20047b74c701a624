/-! THE LAW, pure: isPattern -/
theorem stx_snoc (c : Nat) : ∀ (cs : List Nat), cs ≠ [] → stx (cs ++ [c]) = stx cs ++ (44 :: 32 :: stt c)
  | [], h => absurd rfl h
  | [a], _ => by
    show stt a ++ (44 :: 32 :: (stt c ++ [])) = (stt a ++ []) ++ (44 :: 32 :: stt c)
    rw [List.append_nil, List.append_nil]
  | a :: b :: cs, _ => by
    show stt a ++ (44 :: 32 :: stx (b :: cs ++ [c])) = (stt a ++ (44 :: 32 :: stx (b :: cs))) ++ (44 :: 32 :: stt c)
    rw [stx_snoc c (b :: cs) (fun z => by cases z), List.append_assoc]
    rfl
theorem stx_one (c : Nat) : stx [c] = stt c := List.append_nil _
theorem stt_len (c : Nat) : (stt c).length ≤ 4 := by
  unfold stt
  split <;> simp
theorem stx_len : ∀ (cs : List Nat), (stx cs).length ≤ 6 * cs.length
  | [] => Nat.le_refl _
  | [a] => by
    have := stt_len a
    rw [stx_one, List.length_singleton]
    omega
  | a :: b :: cs => by
    have h1 := stt_len a
    have h2 := stx_len (b :: cs)
    show (stt a ++ (44 :: 32 :: stx (b :: cs))).length ≤ 6 * (b :: cs).length.succ
    rw [List.length_append, List.length_cons, List.length_cons]
    omega
theorem ppA_snoc (c : Nat) : ∀ (cs : List Nat) (P : xa_P), ppA P (cs ++ [c]) = pA (ppA P cs) c
  | [], P => rfl
  | a :: cs, P => ppA_snoc c cs (pA P a)
theorem okS_snoc {c : Nat} : ∀ (cs : List Nat) (P : xa_P), okS P cs → (c < 16 ∧ (c < 8 → (ppA P cs).1.2.2.2 < 4) ∧ (8 ≤ c → pL (ppA P cs)) ∧ (ppA P cs).1.2.2.1 < 8) → okS P (cs ++ [c])
  | [], P, _, h => ⟨h, trivial⟩
  | a :: cs, P, h1, h => ⟨h1.1, okS_snoc cs (pA P a) h1.2 h⟩
theorem m_pA (P : xa_P) (c : Nat) : pA (mirP P) (mirC c) = mirP (pA P c) := by
  have e1 : (if mirC c < 8 then 1 else 0) = if c < 8 then 1 else 0 := by
    by_cases q : c < 8
    · rw [if_pos q, if_pos ((mc_lt c).mpr q)]
    · rw [if_neg q, if_neg (mt (mc_lt c).mp q)]
  have e2 : (fun i => if i = P.1.2.2.1 then mirC c else mirC (P.2 i)) = fun i => mirC (if i = P.1.2.2.1 then c else P.2 i) := by
    funext i
    split <;> rfl
  unfold pA mirP
  rw [e1, e2]
theorem m_ppA : ∀ (cs : List Nat) (P : xa_P), ppA (mirP P) (cs.map mirC) = mirP (ppA P cs)
  | [], P => rfl
  | c :: cs, P => by
    show ppA (pA (mirP P) (mirC c)) (cs.map mirC) = mirP (ppA (pA P c) cs)
    rw [m_pA, m_ppA cs (pA P c)]
theorem m_pL {P : xa_P} (h : pL P) : pL (mirP P) := ⟨h.1, (mc_lt _).mpr h.2⟩
theorem m_okS : ∀ (cs : List Nat) (P : xa_P), okS P cs → okS (mirP P) (cs.map mirC)
  | [], P, _ => trivial
  | c :: cs, P, ⟨⟨o1, o2, o3, o4⟩, o5⟩ => by
    refine ⟨⟨?_, fun t => o2 ((mc_lt c).mp t), fun t => m_pL (o3 ?_), o4⟩, ?_⟩
    · have := mc_mod o1
      omega
    · have := mc_lt c
      omega
    · show okS (pA (mirP P) (mirC c)) (cs.map mirC)
      rw [m_pA]
      exact m_okS cs (pA P c) o5
theorem stt_lo {c : Nat} (h : c < 8) : stt c = [97 + c] := if_pos h
theorem stt_hi {a : Nat} (h : a < 8) : stt (8 + a) = tw_l 4 ++ [97 + a] := by
  unfold stt
  rw [if_neg (by omega), show (8 + a) % 8 = a by omega]
  rfl
theorem stt_mlo {c : Nat} (h : c < 8) : stt (mirC c) = [97 + (7 - c)] := by
  rw [mc_lo h, mk_lt h, stt_lo (by omega)]
theorem stt_mhi {a : Nat} (h : a < 8) : stt (mirC (8 + a)) = tw_l 4 ++ [97 + (7 - a)] := by
  rw [mc_hi (by omega) (by omega), show 23 - (8 + a) = 8 + (7 - a) by omega, stt_hi (by omega)]
def bsP (w1 w2 ru : Nat) : List Nat := tw_l 0 ++ (w1 :: w2 :: 32 :: rul ru)
theorem bsP_x (w1 w2 ru : Nat) (cs : List Nat) : txP w1 w2 ru cs = bsP w1 w2 ru ++ stx cs := by
  unfold txP bsP
  rw [List.append_assoc]
  rfl
theorem rul_len (ru : Nat) : (rul ru).length ≤ 7 := by
  unfold rul
  split
  · decide
  · split <;> decide
theorem bsP_len (w1 w2 ru : Nat) : (bsP w1 w2 ru).length ≤ 17 := by
  have h := rul_len ru
  unfold bsP
  rw [List.length_append, List.length_cons, List.length_cons, List.length_cons]
  have : (tw_l 0).length = 7 := rfl
  omega
theorem xz_b3 {β : Type} (r : Int32) (M N : xm_M) (f : Int32 → xm_M → xm_M → Option β) : xm_b3 (some (r, M, N)) f = f r M N := rfl
def alV (al : Option Nat) : Int32 := match al with
  | none => 0
  | some a => nI (97 + a)
def alT (al : Option Nat) : List Nat := match al with
  | none => []
  | some a => stt (8 + a) ++ [44, 32]
def alU (al : Option Nat) : List Nat := match al with
  | none => []
  | some a => stt (mirC (8 + a)) ++ [44, 32]
section LP
variable {A : xa_S} {h : Nat → xa_S} {hn ho : Nat} {w1 w2 ru : Nat} {M N : xm_M} {T T' : List Nat} {x3 x4 : Int32}
theorem v_b3 (hI : jT A h hn ho T T' M N) {k : Nat} (hk : k < 8) (hl : T.length < 80) (n : Nat) (x7 : Int32) : ∃ M' N', f_L_isPattern_S136 (n + 1) 3 M N x3 x4 0 x7 (nI (97 + k)) 0 = f_L_isPattern_S136 n 0 M' N' x3 x4 1 (x7 + 1) 0 0 ∧ jT A h hn ho (T ++ [97 + k]) (T' ++ [97 + (7 - k)]) M' N' := by
  obtain ⟨M', N', a1, a2, a3⟩ := v_type2 (n := n) hI (c := 97 + k) (c' := 97 + (7 - k)) (by omega) (by omega) hl
  refine ⟨M', N', ?_, a3⟩
  rw [f_L_isPattern_S136, cv8 _ (by omega), a1, xz_b2, v_there n _ _ hk, xz_b3, a2, xz_b2, if_pos rfl]
theorem v_b2 (hI : jT A h hn ho T T' M N) {k : Nat} (hk : k < 8) (hl : T.length + 10 ≤ 80) (n : Nat) (hn9 : 20 < n) (x7 : Int32) (al : Option Nat) (hal : ∀ a, al = some a → a < 8) : ∃ M' N', f_L_isPattern_S136 (n + 2) 2 M N x3 x4 0 x7 (nI (97 + k)) (alV al) = f_L_isPattern_S136 n 0 M' N' x3 x4 1 (x7 + 1) 0 0 ∧ jT A h hn ho (T ++ alT al ++ [97 + k]) (T' ++ alU al ++ [97 + (7 - k)]) M' N' := by
  cases al with
  | none =>
    obtain ⟨M', N', a1, a2⟩ := v_b3 (x3 := x3) (x4 := x4) hI hk (by omega) n x7
    refine ⟨M', N', ?_, by show jT A h hn ho (T ++ [] ++ [97 + k]) (T' ++ [] ++ [97 + (7 - k)]) M' N'; rw [List.append_nil, List.append_nil]; exact a2⟩
    show f_L_isPattern_S136 (n + 2) 2 M N x3 x4 0 x7 (nI (97 + k)) 0 = _
    rw [f_L_isPattern_S136, if_pos rfl, a1]
  | some a =>
    have ha := hal a rfl
    obtain ⟨M1, N1, a1, a2⟩ := v_types tby_no.1 tby_no.2 (n := n + 1) (by omega) hI (by show T.length + 3 ≤ 80; omega)
    have l1 : (T ++ tw_l 4).length = T.length + 3 := by rw [List.length_append]; rfl
    obtain ⟨M2, N2, b1, b2, b3⟩ := v_type2 (n := n + 1) a2 (c := 97 + a) (c' := 97 + (7 - a)) (by omega) (by omega) (by omega)
    have l2 : (T ++ tw_l 4 ++ [97 + a]).length = T.length + 3 + 1 := by rw [List.length_append, l1]; rfl
    obtain ⟨M3, N3, c1, c2⟩ := v_types tby_comma.1 tby_comma.2 (n := n + 1) (by omega) b3 (by rw [l2]; show T.length + 3 + 1 + 2 ≤ 80; omega)
    have l3 : (T ++ tw_l 4 ++ [97 + a] ++ tw_l 5).length = T.length + 3 + 1 + 2 := by rw [List.length_append, l2]; rfl
    obtain ⟨M4, N4, d1, d2⟩ := v_b3 (x3 := x3) (x4 := x4) c2 hk (by omega) n x7
    refine ⟨M4, N4, ?_, ?_⟩
    · show f_L_isPattern_S136 (n + 2) 2 M N x3 x4 0 x7 (nI (97 + k)) (nI (97 + a)) = _
      rw [f_L_isPattern_S136, if_neg (mt (xz_ec (c := 0) 0 rfl (by omega) (by omega)).mp (by omega)), a1, xz_b3, if_neg xz_10, cv8 _ (by omega), b1, xz_b2, v_there (n + 1) _ _ ha, xz_b3, b2, xz_b2, if_pos rfl, c1, xz_b3, if_neg xz_10, d1]
    · have e1 : T ++ (stt (8 + a) ++ [44, 32]) = T ++ tw_l 4 ++ [97 + a] ++ tw_l 5 := by
        rw [stt_hi ha, List.append_assoc T, List.append_assoc T]
        rfl
      have e2 : T' ++ (stt (mirC (8 + a)) ++ [44, 32]) = T' ++ tw_l 4 ++ [97 + (7 - a)] ++ tw_l 5 := by
        rw [stt_mhi ha, List.append_assoc T', List.append_assoc T']
        rfl
      show jT A h hn ho (T ++ (stt (8 + a) ++ [44, 32]) ++ [97 + k]) (T' ++ (stt (mirC (8 + a)) ++ [44, 32]) ++ [97 + (7 - k)]) M4 N4
      rw [e1, e2]
      exact d2
/-- what holds at the loop's head -/
def lI (A : xa_S) (h : Nat → xa_S) (hn ho w1 w2 ru k : Nat) (cs : List Nat) (M N : xm_M) : Prop := jT A h hn ho (bsP w1 w2 ru ++ stx cs) (bsP w1 w2 ru ++ stx (cs.map mirC)) M N ∧ okS (yP0 w1 w2 ru (fun _ => 0)) cs ∧ (ppA (yP0 w1 w2 ru (fun _ => 0)) cs).1.2.2.2 = k ∧ (0 < k → pL (ppA (yP0 w1 w2 ru (fun _ => 0)) cs)) ∧ (k = 0 → cs = []) ∧ (0 < k → cs ≠ []) ∧ cs.length ≤ 2 * k ∧ k ≤ cs.length
theorem yP0_J : pJ (yP0 w1 w2 ru (fun _ => 0)) := ⟨Nat.le_refl _, fun t => absurd t.1 (Nat.lt_irrefl 0), Nat.zero_le _, ⟨Nat.le_refl _, fun t => absurd t (Nat.lt_irrefl 0)⟩, rfl, fun i hi => absurd hi (Nat.not_lt_zero i)⟩
theorem v_pstep {k : Nat} {cs : List Nat} (hI : lI A h hn ho w1 w2 ru k cs M N) {many : Nat} (hk : k < many) (hm : many ≤ 4) (n : Nat) (hn9 : 20 < n) : ∃ M' N' cs', f_L_isPattern_S136 (n + 4) 0 M N x3 (nI many) 1 (nI k) 0 0 = f_L_isPattern_S136 n 0 M' N' x3 (nI many) 1 (nI (k + 1)) 0 0 ∧ lI A h hn ho w1 w2 ru (k + 1) cs' M' N' := by
  obtain ⟨i1, i2, i3, i4, i5, i6, i7, i8⟩ := hI
  have len := bsP_len w1 w2 ru
  have len2 := stx_len cs
  obtain ⟨jJ, -, -, j3⟩ := pJ_pp cs _ (yP0_J (w1 := w1) (w2 := w2) (ru := ru)) i2
  have j3 : (ppA (yP0 w1 w2 ru (fun _ => 0)) cs).1.2.2.1 = 0 + cs.length := j3
  have lT : (bsP w1 w2 ru ++ stx cs).length ≤ 17 + 36 := by rw [List.length_append]; omega
  obtain ⟨ka, hka, ea⟩ := v_up (n + 3) M N (x3 >>> ((((3 : Int32)) * nI k) &&& 31)) (d := 3) (by omega) (by omega)
  have e97 : ∀ j, (97 : Int32) + nI j = nI (97 + j) := fun j => nI_add 97 j
  have ek1 : nI k + 1 = nI (k + 1) := nI_1 k
  by_cases hk0 : k = 0
  · have hcs := i5 hk0
    subst hcs
    subst hk0
    obtain ⟨M', N', b1, b2⟩ := v_b2 (x3 := x3) (x4 := nI many) i1 (k := ka) (by omega) (by omega) n hn9 (nI 0) none (fun a ha => by cases ha)
    refine ⟨M', N', [ka], ?_, ?_, ⟨⟨by omega, fun _ => by show 0 < 4; omega, fun t => by omega, by show 0 < 8; omega⟩, trivial⟩, ?_, fun _ => ⟨by show 0 < 0 + 1; omega, by show (if 0 + 1 - 1 = 0 then ka else 0) < 8; rw [if_pos rfl]; omega⟩, fun t => by omega, (fun _ z => by cases z), by show 1 ≤ 2; omega, Nat.le_refl _⟩
    · rw [f_L_isPattern_S136, if_neg (mt (xz_le (by omega) (by omega)).mp (by omega))]
      have ea : f_L_up (n + 3) M N (x3 >>> ((((3 : Int32)) * nI 0) &&& 31)) 3 = some (nI ka, M, N) := ea
      rw [ea, xz_b3, if_pos (show nI 0 ≤ 0 by decide), e97, f_L_isPattern_S136, if_neg xz_10, if_pos (show nI 0 = 0 from rfl)]
      exact b1
    · have e1 : bsP w1 w2 ru ++ stx [] ++ [] ++ [97 + ka] = bsP w1 w2 ru ++ stx [ka] := by
        rw [stx_one, stt_lo (by omega), List.append_nil]
        show bsP w1 w2 ru ++ [] ++ _ = _
        rw [List.append_nil]
      have e2 : bsP w1 w2 ru ++ stx ([].map mirC) ++ [] ++ [97 + (7 - ka)] = bsP w1 w2 ru ++ stx ([ka].map mirC) := by
        show _ = bsP w1 w2 ru ++ stx [mirC ka]
        rw [stx_one, stt_mlo (by omega), List.append_nil]
        show bsP w1 w2 ru ++ [] ++ _ = _
        rw [List.append_nil]
      have b2 : jT A h hn ho (bsP w1 w2 ru ++ stx [] ++ [] ++ [97 + ka]) (bsP w1 w2 ru ++ stx ([].map mirC) ++ [] ++ [97 + (7 - ka)]) M' N' := b2
      rw [e1, e2] at b2
      exact b2
    · show 0 + (if ka < 8 then 1 else 0) = 0 + 1
      rw [if_pos (by omega)]
  · have hk1 : 0 < k := by omega
    have hne := i6 hk1
    have hpl := i4 hk1
    obtain ⟨kb, hkb, eb⟩ := v_up (n + 3) M N (x3 >>> ((((7 : Int32)) + nI k) &&& 31)) (d := 3) (by omega) (by omega)
    obtain ⟨kc, hkc, ec⟩ := v_up (n + 3) M N (x3 >>> ((((9 : Int32)) + nI k) &&& 31)) (d := 5) (by omega) (by omega)
    obtain ⟨al, hal9⟩ : ∃ al : Option Nat, al = if kb = 0 then some kc else none := ⟨_, rfl⟩
    have hal : ∀ a, al = some a → a < 8 := fun a ha => by
      rw [hal9] at ha
      by_cases z : kb = 0
      · rw [if_pos z] at ha
        cases ha
        omega
      · rw [if_neg z] at ha
        cases ha
    obtain ⟨M1, N1, t1, t2⟩ := v_types tby_comma.1 tby_comma.2 (n := n + 2) (by omega) i1 (by show _ + 2 ≤ 80; omega)
    have l1 : (bsP w1 w2 ru ++ stx cs ++ tw_l 5).length = (bsP w1 w2 ru ++ stx cs).length + 2 := by rw [List.length_append]; rfl
    obtain ⟨M', N', b1, b2⟩ := v_b2 (x3 := x3) (x4 := nI many) t2 (k := ka) (by omega) (by omega) n hn9 (nI k) al hal
    have hb1 : ∀ v : Int32, v = alV al → f_L_isPattern_S136 (n + 3) 1 M N x3 (nI many) 1 (nI k) (nI (97 + ka)) v = f_L_isPattern_S136 n 0 M' N' x3 (nI many) 1 (nI (k + 1)) 0 0 := by
      intro v hv
      rw [f_L_isPattern_S136, if_neg xz_10, if_neg (mt (xz_ec (c := 0) 0 rfl (by omega) (by omega)).mp hk0), t1, xz_b3, if_neg xz_10, hv, b1, ek1]
    have hb0 : f_L_isPattern_S136 (n + 4) 0 M N x3 (nI many) 1 (nI k) 0 0 = f_L_isPattern_S136 n 0 M' N' x3 (nI many) 1 (nI (k + 1)) 0 0 := by
      have ea : f_L_up (n + 3) M N (x3 >>> ((((3 : Int32)) * nI k) &&& 31)) 3 = some (nI ka, M, N) := ea
      have eb : f_L_up (n + 3) M N (x3 >>> ((((7 : Int32)) + nI k) &&& 31)) 3 = some (nI kb, M, N) := eb
      have ec : f_L_up (n + 3) M N (x3 >>> ((((9 : Int32)) + nI k) &&& 31)) 5 = some (nI kc, M, N) := ec
      rw [f_L_isPattern_S136, if_neg (mt (xz_le (by omega) (by omega)).mp (by omega)), ea, xz_b3, if_neg (mt (xz_lec (c := 0) 0 rfl (by omega) (by omega)).mp (by omega)), eb, xz_b3]
      by_cases z : kb = 0
      · rw [if_pos (by rw [z]; rfl), ec, xz_b3, e97, e97]
        exact hb1 _ (by rw [hal9, if_pos z]; rfl)
      · rw [if_neg (mt (xz_ec (c := 0) 0 rfl (by omega) (by omega)).mp z), e97]
        exact hb1 _ (by rw [hal9, if_neg z]; rfl)
    clear hb1 b1 hal9
    cases al with
    | none =>
      refine ⟨M', N', cs ++ [ka], hb0, ?_, okS_snoc cs _ i2 ⟨by omega, fun _ => by omega, fun t => by omega, by omega⟩, ?_, fun _ => ?_, fun t => by omega, (fun _ z => by simp at z), by rw [List.length_append, List.length_singleton]; omega, by rw [List.length_append, List.length_singleton]; omega⟩
      · have e1 : bsP w1 w2 ru ++ stx cs ++ tw_l 5 ++ [] ++ [97 + ka] = bsP w1 w2 ru ++ stx (cs ++ [ka]) := by
          rw [stx_snoc ka cs hne, stt_lo (by omega), List.append_nil, List.append_assoc, List.append_assoc]
          rfl
        have e2 : bsP w1 w2 ru ++ stx (cs.map mirC) ++ tw_l 5 ++ [] ++ [97 + (7 - ka)] = bsP w1 w2 ru ++ stx ((cs ++ [ka]).map mirC) := by
          rw [List.map_append]
          show _ = bsP w1 w2 ru ++ stx (cs.map mirC ++ [mirC ka])
          rw [stx_snoc _ _ (by simpa using hne), stt_mlo (by omega), List.append_nil, List.append_assoc, List.append_assoc]
          rfl
        have b2 : jT A h hn ho (bsP w1 w2 ru ++ stx cs ++ tw_l 5 ++ [] ++ [97 + ka]) (bsP w1 w2 ru ++ stx (cs.map mirC) ++ tw_l 5 ++ [] ++ [97 + (7 - ka)]) M' N' := b2
        rw [e1, e2] at b2
        exact b2
      · rw [ppA_snoc]
        show (ppA _ cs).1.2.2.2 + (if ka < 8 then 1 else 0) = k + 1
        rw [i3, if_pos (by omega)]
      · rw [ppA_snoc]
        exact ⟨by show 0 < (ppA _ cs).1.2.2.1 + 1; omega, by show (if (ppA _ cs).1.2.2.1 + 1 - 1 = (ppA _ cs).1.2.2.1 then ka else _) < 8; rw [if_pos (by omega)]; omega⟩
    | some a =>
      have ha := hal a rfl
      have o1 := okS_snoc (c := 8 + a) cs _ i2 ⟨by omega, fun t => by omega, fun t => hpl, by omega⟩
      have p1 : (ppA (yP0 w1 w2 ru (fun _ => 0)) (cs ++ [8 + a])).1.2.2.1 = (ppA (yP0 w1 w2 ru (fun _ => 0)) cs).1.2.2.1 + 1 := by rw [ppA_snoc]; rfl
      have p2 : (ppA (yP0 w1 w2 ru (fun _ => 0)) (cs ++ [8 + a])).1.2.2.2 = k := by
        rw [ppA_snoc]
        show (ppA _ cs).1.2.2.2 + (if 8 + a < 8 then 1 else 0) = k
        rw [i3, if_neg (by omega)]
        rfl
      refine ⟨M', N', cs ++ [8 + a] ++ [ka], hb0, ?_, okS_snoc _ _ o1 ⟨by omega, fun _ => by omega, fun t => by omega, by omega⟩, ?_, fun _ => ?_, fun t => by omega, (fun _ z => by simp at z), by rw [List.length_append, List.length_append, List.length_singleton, List.length_singleton]; omega, by rw [List.length_append, List.length_append, List.length_singleton, List.length_singleton]; omega⟩
      · have e1 : bsP w1 w2 ru ++ stx cs ++ tw_l 5 ++ (stt (8 + a) ++ [44, 32]) ++ [97 + ka] = bsP w1 w2 ru ++ stx (cs ++ [8 + a] ++ [ka]) := by
          rw [stx_snoc ka _ (by simp), stx_snoc _ cs hne, stt_lo (c := ka) (by omega)]
          simp [tw_l, List.append_assoc]
        have e2 : bsP w1 w2 ru ++ stx (cs.map mirC) ++ tw_l 5 ++ (stt (mirC (8 + a)) ++ [44, 32]) ++ [97 + (7 - ka)] = bsP w1 w2 ru ++ stx ((cs ++ [8 + a] ++ [ka]).map mirC) := by
          rw [List.map_append, List.map_append]
          show _ = bsP w1 w2 ru ++ stx (cs.map mirC ++ [mirC (8 + a)] ++ [mirC ka])
          rw [stx_snoc _ _ (by simp), stx_snoc _ _ (by simpa using hne), stt_mlo (c := ka) (by omega)]
          simp [tw_l, List.append_assoc]
        have b2 : jT A h hn ho (bsP w1 w2 ru ++ stx cs ++ tw_l 5 ++ (stt (8 + a) ++ [44, 32]) ++ [97 + ka]) (bsP w1 w2 ru ++ stx (cs.map mirC) ++ tw_l 5 ++ (stt (mirC (8 + a)) ++ [44, 32]) ++ [97 + (7 - ka)]) M' N' := b2
        rw [e1, e2] at b2
        exact b2
      · rw [ppA_snoc]
        show (ppA _ (cs ++ [8 + a])).1.2.2.2 + (if ka < 8 then 1 else 0) = k + 1
        rw [p2, if_pos (by omega)]
      · rw [ppA_snoc]
        exact ⟨by show 0 < (ppA _ (cs ++ [8 + a])).1.2.2.1 + 1; omega, by show (if (ppA _ (cs ++ [8 + a])).1.2.2.1 + 1 - 1 = (ppA _ (cs ++ [8 + a])).1.2.2.1 then ka else _) < 8; rw [if_pos (by omega)]; omega⟩
end LP
