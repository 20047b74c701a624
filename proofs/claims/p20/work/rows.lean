section
-- ===== PART A: goes FIRST, ahead of the names: the tables' words, and 'selects' of the private methods out of them =====
/-- a private method of a class that the tables say can be made, by its rows of tables_1 -/
def lw_okq (q : MethodName × Nat) : Prop := (q.1.cls ≠ "java/lang/invoke/MethodHandle" ∧ q.1.cls ≠ "java/lang/invoke/VarHandle") ∧ Cond.instantiable q.1.cls q.2 ∈ tables_1 ∧ Cond.privateMethod q.1 ∈ tables_1 ∧ Cond.instanceMethod q.1 ∈ tables_1
theorem lw_p0 : lw_okq (⟨"WindowMatches$Search", "begin", "(LWindowMatches$State;)V"⟩, 16) := ⟨⟨by decide +kernel, by decide +kernel⟩, List.mem_of_getElem? (i := 151) (by decide +kernel), List.mem_of_getElem? (i := 271) (by decide +kernel), List.mem_of_getElem? (i := 272) (by decide +kernel)⟩
theorem lw_p1 : lw_okq (⟨"WindowMatches$Line", "fillFrom", "(LWindowMatches$State;)V"⟩, 5) := ⟨⟨by decide +kernel, by decide +kernel⟩, List.mem_of_getElem? (i := 157) (by decide +kernel), List.mem_of_getElem? (i := 275) (by decide +kernel), List.mem_of_getElem? (i := 276) (by decide +kernel)⟩
theorem lw_p2 : lw_okq (⟨"WindowMatches$Line", "insert", "(ICII)V"⟩, 5) := ⟨⟨by decide +kernel, by decide +kernel⟩, List.mem_of_getElem? (i := 157) (by decide +kernel), List.mem_of_getElem? (i := 279) (by decide +kernel), List.mem_of_getElem? (i := 280) (by decide +kernel)⟩
theorem lw_p3 : lw_okq (⟨"WindowMatches$Line", "put", "(IICII)V"⟩, 5) := ⟨⟨by decide +kernel, by decide +kernel⟩, List.mem_of_getElem? (i := 157) (by decide +kernel), List.mem_of_getElem? (i := 283) (by decide +kernel), List.mem_of_getElem? (i := 284) (by decide +kernel)⟩
theorem lw_p4 : lw_okq (⟨"WindowMatches$State", "watermark", "()I"⟩, 8) := ⟨⟨by decide +kernel, by decide +kernel⟩, List.mem_of_getElem? (i := 22) (by decide +kernel), List.mem_of_getElem? (i := 287) (by decide +kernel), List.mem_of_getElem? (i := 288) (by decide +kernel)⟩
theorem lw_p5 : lw_okq (⟨"WindowMatches$Search", "runAll", "(LWindowMatches$State;)I"⟩, 16) := ⟨⟨by decide +kernel, by decide +kernel⟩, List.mem_of_getElem? (i := 151) (by decide +kernel), List.mem_of_getElem? (i := 294) (by decide +kernel), List.mem_of_getElem? (i := 295) (by decide +kernel)⟩
theorem lw_p6 : lw_okq (⟨"WindowMatches$Search", "run", "(LWindowMatches$Pattern;)V"⟩, 16) := ⟨⟨by decide +kernel, by decide +kernel⟩, List.mem_of_getElem? (i := 151) (by decide +kernel), List.mem_of_getElem? (i := 298) (by decide +kernel), List.mem_of_getElem? (i := 299) (by decide +kernel)⟩
theorem lw_p7 : lw_okq (⟨"WindowMatches$Search", "takePlainSteps", "(LWindowMatches$Pattern;)V"⟩, 16) := ⟨⟨by decide +kernel, by decide +kernel⟩, List.mem_of_getElem? (i := 151) (by decide +kernel), List.mem_of_getElem? (i := 302) (by decide +kernel), List.mem_of_getElem? (i := 303) (by decide +kernel)⟩
theorem lw_p8 : lw_okq (⟨"WindowMatches$Search", "tellMatch", "()V"⟩, 16) := ⟨⟨by decide +kernel, by decide +kernel⟩, List.mem_of_getElem? (i := 151) (by decide +kernel), List.mem_of_getElem? (i := 309) (by decide +kernel), List.mem_of_getElem? (i := 310) (by decide +kernel)⟩
theorem lw_p9 : lw_okq (⟨"WindowMatches$Search", "isInWindow", "(II)Z"⟩, 16) := ⟨⟨by decide +kernel, by decide +kernel⟩, List.mem_of_getElem? (i := 151) (by decide +kernel), List.mem_of_getElem? (i := 313) (by decide +kernel), List.mem_of_getElem? (i := 314) (by decide +kernel)⟩
theorem lw_p10 : lw_okq (⟨"WindowMatches$Search", "suits", "(II)Z"⟩, 16) := ⟨⟨by decide +kernel, by decide +kernel⟩, List.mem_of_getElem? (i := 151) (by decide +kernel), List.mem_of_getElem? (i := 317) (by decide +kernel), List.mem_of_getElem? (i := 318) (by decide +kernel)⟩
theorem lw_p11 : lw_okq (⟨"WindowMatches$Search", "tellBranch", "(I)V"⟩, 16) := ⟨⟨by decide +kernel, by decide +kernel⟩, List.mem_of_getElem? (i := 151) (by decide +kernel), List.mem_of_getElem? (i := 321) (by decide +kernel), List.mem_of_getElem? (i := 322) (by decide +kernel)⟩
theorem lw_p12 : lw_okq (⟨"WindowMatches$Search", "placesWithoutShare", "()I"⟩, 16) := ⟨⟨by decide +kernel, by decide +kernel⟩, List.mem_of_getElem? (i := 151) (by decide +kernel), List.mem_of_getElem? (i := 326) (by decide +kernel), List.mem_of_getElem? (i := 327) (by decide +kernel)⟩
theorem lw_p13 : lw_okq (⟨"WindowMatches", "errorOfEvent", "(CII)I"⟩, 7) := ⟨⟨by decide +kernel, by decide +kernel⟩, List.mem_of_getElem? (i := 14) (by decide +kernel), List.mem_of_getElem? (i := 338) (by decide +kernel), List.mem_of_getElem? (i := 339) (by decide +kernel)⟩
theorem lw_p14 : lw_okq (⟨"WindowMatches$History", "record", "(LWindowMatches$State;)V"⟩, 3) := ⟨⟨by decide +kernel, by decide +kernel⟩, List.mem_of_getElem? (i := 112) (by decide +kernel), List.mem_of_getElem? (i := 353) (by decide +kernel), List.mem_of_getElem? (i := 354) (by decide +kernel)⟩
theorem lw_p15 : lw_okq (⟨"WindowMatches$State", "copyFrom", "(LWindowMatches$State;)V"⟩, 8) := ⟨⟨by decide +kernel, by decide +kernel⟩, List.mem_of_getElem? (i := 22) (by decide +kernel), List.mem_of_getElem? (i := 357) (by decide +kernel), List.mem_of_getElem? (i := 358) (by decide +kernel)⟩
def lw_privs_1 : List (MethodName × Nat) := [(⟨"WindowMatches$Search", "begin", "(LWindowMatches$State;)V"⟩, 16), (⟨"WindowMatches$Line", "fillFrom", "(LWindowMatches$State;)V"⟩, 5), (⟨"WindowMatches$Line", "insert", "(ICII)V"⟩, 5), (⟨"WindowMatches$Line", "put", "(IICII)V"⟩, 5), (⟨"WindowMatches$State", "watermark", "()I"⟩, 8), (⟨"WindowMatches$Search", "runAll", "(LWindowMatches$State;)I"⟩, 16), (⟨"WindowMatches$Search", "run", "(LWindowMatches$Pattern;)V"⟩, 16), (⟨"WindowMatches$Search", "takePlainSteps", "(LWindowMatches$Pattern;)V"⟩, 16), (⟨"WindowMatches$Search", "tellMatch", "()V"⟩, 16), (⟨"WindowMatches$Search", "isInWindow", "(II)Z"⟩, 16), (⟨"WindowMatches$Search", "suits", "(II)Z"⟩, 16), (⟨"WindowMatches$Search", "tellBranch", "(I)V"⟩, 16), (⟨"WindowMatches$Search", "placesWithoutShare", "()I"⟩, 16), (⟨"WindowMatches", "errorOfEvent", "(CII)I"⟩, 7), (⟨"WindowMatches$History", "record", "(LWindowMatches$State;)V"⟩, 3), (⟨"WindowMatches$State", "copyFrom", "(LWindowMatches$State;)V"⟩, 8)]
theorem lw_r1 : ∀ q ∈ lw_privs_1, lw_okq q := List.forall_mem_cons.mpr ⟨lw_p0, List.forall_mem_cons.mpr ⟨lw_p1, List.forall_mem_cons.mpr ⟨lw_p2, List.forall_mem_cons.mpr ⟨lw_p3, List.forall_mem_cons.mpr ⟨lw_p4, List.forall_mem_cons.mpr ⟨lw_p5, List.forall_mem_cons.mpr ⟨lw_p6, List.forall_mem_cons.mpr ⟨lw_p7, List.forall_mem_cons.mpr ⟨lw_p8, List.forall_mem_cons.mpr ⟨lw_p9, List.forall_mem_cons.mpr ⟨lw_p10, List.forall_mem_cons.mpr ⟨lw_p11, List.forall_mem_cons.mpr ⟨lw_p12, List.forall_mem_cons.mpr ⟨lw_p13, List.forall_mem_cons.mpr ⟨lw_p14, List.forall_mem_cons.mpr ⟨lw_p15, fun _ h => absurd h List.not_mem_nil⟩⟩⟩⟩⟩⟩⟩⟩⟩⟩⟩⟩⟩⟩⟩⟩
theorem lw_p16 : lw_okq (⟨"WindowMatches$Pattern", "copyFrom", "(LWindowMatches$Pattern;)V"⟩, 6) := ⟨⟨by decide +kernel, by decide +kernel⟩, List.mem_of_getElem? (i := 29) (by decide +kernel), List.mem_of_getElem? (i := 361) (by decide +kernel), List.mem_of_getElem? (i := 362) (by decide +kernel)⟩
theorem lw_p17 : lw_okq (⟨"WindowMatches$State", "addEvent", "(CII)I"⟩, 8) := ⟨⟨by decide +kernel, by decide +kernel⟩, List.mem_of_getElem? (i := 22) (by decide +kernel), List.mem_of_getElem? (i := 365) (by decide +kernel), List.mem_of_getElem? (i := 366) (by decide +kernel)⟩
theorem lw_p18 : lw_okq (⟨"WindowMatches$State", "putEvent", "(ICII)V"⟩, 8) := ⟨⟨by decide +kernel, by decide +kernel⟩, List.mem_of_getElem? (i := 22) (by decide +kernel), List.mem_of_getElem? (i := 369) (by decide +kernel), List.mem_of_getElem? (i := 370) (by decide +kernel)⟩
theorem lw_p19 : lw_okq (⟨"WindowMatches$Words", "append", "(C)I"⟩, 3) := ⟨⟨by decide +kernel, by decide +kernel⟩, List.mem_of_getElem? (i := 132) (by decide +kernel), List.mem_of_getElem? (i := 392) (by decide +kernel), List.mem_of_getElem? (i := 393) (by decide +kernel)⟩
theorem lw_p20 : lw_okq (⟨"WindowMatches$Words", "readInto", "(LWindowMatches$Pattern;)I"⟩, 3) := ⟨⟨by decide +kernel, by decide +kernel⟩, List.mem_of_getElem? (i := 132) (by decide +kernel), List.mem_of_getElem? (i := 405) (by decide +kernel), List.mem_of_getElem? (i := 406) (by decide +kernel)⟩
theorem lw_p21 : lw_okq (⟨"WindowMatches$Pattern", "clearSteps", "()V"⟩, 6) := ⟨⟨by decide +kernel, by decide +kernel⟩, List.mem_of_getElem? (i := 29) (by decide +kernel), List.mem_of_getElem? (i := 409) (by decide +kernel), List.mem_of_getElem? (i := 410) (by decide +kernel)⟩
theorem lw_p22 : lw_okq (⟨"WindowMatches$Words", "takesWord", "(Ljava/lang/String;)Z"⟩, 3) := ⟨⟨by decide +kernel, by decide +kernel⟩, List.mem_of_getElem? (i := 132) (by decide +kernel), List.mem_of_getElem? (i := 414) (by decide +kernel), List.mem_of_getElem? (i := 415) (by decide +kernel)⟩
theorem lw_p23 : lw_okq (⟨"WindowMatches$Words", "takesWindow", "(LWindowMatches$Pattern;)Z"⟩, 3) := ⟨⟨by decide +kernel, by decide +kernel⟩, List.mem_of_getElem? (i := 132) (by decide +kernel), List.mem_of_getElem? (i := 466) (by decide +kernel), List.mem_of_getElem? (i := 467) (by decide +kernel)⟩
theorem lw_p24 : lw_okq (⟨"WindowMatches$Words", "takesRule", "(LWindowMatches$Pattern;)Z"⟩, 3) := ⟨⟨by decide +kernel, by decide +kernel⟩, List.mem_of_getElem? (i := 132) (by decide +kernel), List.mem_of_getElem? (i := 472) (by decide +kernel), List.mem_of_getElem? (i := 473) (by decide +kernel)⟩
theorem lw_p25 : lw_okq (⟨"WindowMatches$Words", "next", "()C"⟩, 3) := ⟨⟨by decide +kernel, by decide +kernel⟩, List.mem_of_getElem? (i := 132) (by decide +kernel), List.mem_of_getElem? (i := 476) (by decide +kernel), List.mem_of_getElem? (i := 477) (by decide +kernel)⟩
theorem lw_p26 : lw_okq (⟨"WindowMatches$Words", "takesSteps", "(LWindowMatches$Pattern;)Z"⟩, 3) := ⟨⟨by decide +kernel, by decide +kernel⟩, List.mem_of_getElem? (i := 132) (by decide +kernel), List.mem_of_getElem? (i := 482) (by decide +kernel), List.mem_of_getElem? (i := 483) (by decide +kernel)⟩
theorem lw_p27 : lw_okq (⟨"WindowMatches$Words", "takesStep", "(LWindowMatches$Pattern;)Z"⟩, 3) := ⟨⟨by decide +kernel, by decide +kernel⟩, List.mem_of_getElem? (i := 132) (by decide +kernel), List.mem_of_getElem? (i := 486) (by decide +kernel), List.mem_of_getElem? (i := 487) (by decide +kernel)⟩
theorem lw_p28 : lw_okq (⟨"WindowMatches$Pattern", "endsWithPlainStep", "()Z"⟩, 6) := ⟨⟨by decide +kernel, by decide +kernel⟩, List.mem_of_getElem? (i := 29) (by decide +kernel), List.mem_of_getElem? (i := 490) (by decide +kernel), List.mem_of_getElem? (i := 491) (by decide +kernel)⟩
theorem lw_p29 : lw_okq (⟨"WindowMatches$Pattern", "hasRoomForStep", "()Z"⟩, 6) := ⟨⟨by decide +kernel, by decide +kernel⟩, List.mem_of_getElem? (i := 29) (by decide +kernel), List.mem_of_getElem? (i := 496) (by decide +kernel), List.mem_of_getElem? (i := 497) (by decide +kernel)⟩
theorem lw_p30 : lw_okq (⟨"WindowMatches$Pattern", "addStep", "(CZ)V"⟩, 6) := ⟨⟨by decide +kernel, by decide +kernel⟩, List.mem_of_getElem? (i := 29) (by decide +kernel), List.mem_of_getElem? (i := 500) (by decide +kernel), List.mem_of_getElem? (i := 501) (by decide +kernel)⟩
theorem lw_p31 : lw_okq (⟨"WindowMatches$State", "addCopyOf", "(LWindowMatches$Pattern;)I"⟩, 8) := ⟨⟨by decide +kernel, by decide +kernel⟩, List.mem_of_getElem? (i := 22) (by decide +kernel), List.mem_of_getElem? (i := 506) (by decide +kernel), List.mem_of_getElem? (i := 507) (by decide +kernel)⟩
def lw_privs_2 : List (MethodName × Nat) := [(⟨"WindowMatches$Pattern", "copyFrom", "(LWindowMatches$Pattern;)V"⟩, 6), (⟨"WindowMatches$State", "addEvent", "(CII)I"⟩, 8), (⟨"WindowMatches$State", "putEvent", "(ICII)V"⟩, 8), (⟨"WindowMatches$Words", "append", "(C)I"⟩, 3), (⟨"WindowMatches$Words", "readInto", "(LWindowMatches$Pattern;)I"⟩, 3), (⟨"WindowMatches$Pattern", "clearSteps", "()V"⟩, 6), (⟨"WindowMatches$Words", "takesWord", "(Ljava/lang/String;)Z"⟩, 3), (⟨"WindowMatches$Words", "takesWindow", "(LWindowMatches$Pattern;)Z"⟩, 3), (⟨"WindowMatches$Words", "takesRule", "(LWindowMatches$Pattern;)Z"⟩, 3), (⟨"WindowMatches$Words", "next", "()C"⟩, 3), (⟨"WindowMatches$Words", "takesSteps", "(LWindowMatches$Pattern;)Z"⟩, 3), (⟨"WindowMatches$Words", "takesStep", "(LWindowMatches$Pattern;)Z"⟩, 3), (⟨"WindowMatches$Pattern", "endsWithPlainStep", "()Z"⟩, 6), (⟨"WindowMatches$Pattern", "hasRoomForStep", "()Z"⟩, 6), (⟨"WindowMatches$Pattern", "addStep", "(CZ)V"⟩, 6), (⟨"WindowMatches$State", "addCopyOf", "(LWindowMatches$Pattern;)I"⟩, 8)]
theorem lw_r2 : ∀ q ∈ lw_privs_2, lw_okq q := List.forall_mem_cons.mpr ⟨lw_p16, List.forall_mem_cons.mpr ⟨lw_p17, List.forall_mem_cons.mpr ⟨lw_p18, List.forall_mem_cons.mpr ⟨lw_p19, List.forall_mem_cons.mpr ⟨lw_p20, List.forall_mem_cons.mpr ⟨lw_p21, List.forall_mem_cons.mpr ⟨lw_p22, List.forall_mem_cons.mpr ⟨lw_p23, List.forall_mem_cons.mpr ⟨lw_p24, List.forall_mem_cons.mpr ⟨lw_p25, List.forall_mem_cons.mpr ⟨lw_p26, List.forall_mem_cons.mpr ⟨lw_p27, List.forall_mem_cons.mpr ⟨lw_p28, List.forall_mem_cons.mpr ⟨lw_p29, List.forall_mem_cons.mpr ⟨lw_p30, List.forall_mem_cons.mpr ⟨lw_p31, fun _ h => absurd h List.not_mem_nil⟩⟩⟩⟩⟩⟩⟩⟩⟩⟩⟩⟩⟩⟩⟩⟩
theorem lw_p32 : lw_okq (⟨"WindowMatches", "isPattern", "(I)Z"⟩, 7) := ⟨⟨by decide +kernel, by decide +kernel⟩, List.mem_of_getElem? (i := 14) (by decide +kernel), List.mem_of_getElem? (i := 514) (by decide +kernel), List.mem_of_getElem? (i := 515) (by decide +kernel)⟩
theorem lw_p33 : lw_okq (⟨"WindowMatches", "searchFor", "(LWindowMatches$Pattern;)V"⟩, 7) := ⟨⟨by decide +kernel, by decide +kernel⟩, List.mem_of_getElem? (i := 14) (by decide +kernel), List.mem_of_getElem? (i := 518) (by decide +kernel), List.mem_of_getElem? (i := 519) (by decide +kernel)⟩
theorem lw_p34 : lw_okq (⟨"WindowMatches$State", "removePattern", "(I)I"⟩, 8) := ⟨⟨by decide +kernel, by decide +kernel⟩, List.mem_of_getElem? (i := 22) (by decide +kernel), List.mem_of_getElem? (i := 527) (by decide +kernel), List.mem_of_getElem? (i := 528) (by decide +kernel)⟩
theorem lw_p35 : lw_okq (⟨"WindowMatches$State", "eventsAheadOf", "(I)I"⟩, 8) := ⟨⟨by decide +kernel, by decide +kernel⟩, List.mem_of_getElem? (i := 22) (by decide +kernel), List.mem_of_getElem? (i := 539) (by decide +kernel), List.mem_of_getElem? (i := 540) (by decide +kernel)⟩
theorem lw_p36 : lw_okq (⟨"WindowMatches$State", "removeEventsAheadOf", "(I)V"⟩, 8) := ⟨⟨by decide +kernel, by decide +kernel⟩, List.mem_of_getElem? (i := 22) (by decide +kernel), List.mem_of_getElem? (i := 543) (by decide +kernel), List.mem_of_getElem? (i := 544) (by decide +kernel)⟩
theorem lw_p37 : lw_okq (⟨"WindowMatches$History", "removeLatestInto", "(LWindowMatches$State;)V"⟩, 3) := ⟨⟨by decide +kernel, by decide +kernel⟩, List.mem_of_getElem? (i := 112) (by decide +kernel), List.mem_of_getElem? (i := 555) (by decide +kernel), List.mem_of_getElem? (i := 556) (by decide +kernel)⟩
theorem lw_p38 : lw_okq (⟨"WindowMatches$Search", "want", "(II)V"⟩, 16) := ⟨⟨by decide +kernel, by decide +kernel⟩, List.mem_of_getElem? (i := 151) (by decide +kernel), List.mem_of_getElem? (i := 571) (by decide +kernel), List.mem_of_getElem? (i := 572) (by decide +kernel)⟩
theorem lw_p39 : lw_okq (⟨"WindowMatches$Line", "placeOf", "(I)I"⟩, 5) := ⟨⟨by decide +kernel, by decide +kernel⟩, List.mem_of_getElem? (i := 157) (by decide +kernel), List.mem_of_getElem? (i := 579) (by decide +kernel), List.mem_of_getElem? (i := 580) (by decide +kernel)⟩
theorem lw_p40 : lw_okq (⟨"WindowMatches$Search", "shareOf", "(I)I"⟩, 16) := ⟨⟨by decide +kernel, by decide +kernel⟩, List.mem_of_getElem? (i := 151) (by decide +kernel), List.mem_of_getElem? (i := 583) (by decide +kernel), List.mem_of_getElem? (i := 584) (by decide +kernel)⟩
def lw_privs_3 : List (MethodName × Nat) := [(⟨"WindowMatches", "isPattern", "(I)Z"⟩, 7), (⟨"WindowMatches", "searchFor", "(LWindowMatches$Pattern;)V"⟩, 7), (⟨"WindowMatches$State", "removePattern", "(I)I"⟩, 8), (⟨"WindowMatches$State", "eventsAheadOf", "(I)I"⟩, 8), (⟨"WindowMatches$State", "removeEventsAheadOf", "(I)V"⟩, 8), (⟨"WindowMatches$History", "removeLatestInto", "(LWindowMatches$State;)V"⟩, 3), (⟨"WindowMatches$Search", "want", "(II)V"⟩, 16), (⟨"WindowMatches$Line", "placeOf", "(I)I"⟩, 5), (⟨"WindowMatches$Search", "shareOf", "(I)I"⟩, 16)]
theorem lw_r3 : ∀ q ∈ lw_privs_3, lw_okq q := List.forall_mem_cons.mpr ⟨lw_p32, List.forall_mem_cons.mpr ⟨lw_p33, List.forall_mem_cons.mpr ⟨lw_p34, List.forall_mem_cons.mpr ⟨lw_p35, List.forall_mem_cons.mpr ⟨lw_p36, List.forall_mem_cons.mpr ⟨lw_p37, List.forall_mem_cons.mpr ⟨lw_p38, List.forall_mem_cons.mpr ⟨lw_p39, List.forall_mem_cons.mpr ⟨lw_p40, fun _ h => absurd h List.not_mem_nil⟩⟩⟩⟩⟩⟩⟩⟩⟩
def lw_privs : List (MethodName × Nat) := lw_privs_1 ++ (lw_privs_2 ++ (lw_privs_3))
def lw_tbl : List Cond := k2_sels lw_privs ++ tables_1
theorem lw_privs_ok : ∀ q ∈ lw_privs, lw_okq q := by
  show ∀ q ∈ lw_privs_1 ++ (lw_privs_2 ++ (lw_privs_3)), lw_okq q
  exact List.forall_mem_append.mpr ⟨lw_r1, List.forall_mem_append.mpr ⟨lw_r2, lw_r3⟩⟩
end
section
def RX0 : String := "WindowMatches$History"
def TX0 : u_T := fun k => match k with
  | 0 => ("WindowMatches$History", "states", "[LWindowMatches$State;", true)
  | 1 => ("WindowMatches$History", "oldest", "I", false)
  | _ => ("WindowMatches$History", "size", "I", false)
def tyX0 : Nat → FieldType := fun k => match k with
  | 0 => .array (.object "WindowMatches$State")
  | 1 => .int
  | _ => .int
abbrev wsX00 : List Cond := u_ws RX0 TX0 3
theorem nmX0 : ∀ a, a < 3 → ∀ b, b < 3 → a ≠ b → (TX0 a).2.1 ≠ (TX0 b).2.1 := by decide +kernel
theorem tyX0_ok : ∀ k, k < 3 → parseFieldDescriptor (TX0 k).2.2.1 = some (tyX0 k) := by decide +kernel
abbrev cX0_init : ByteArray := prog_2_method_1_code
def yX0_init : MethodName := ⟨RX0, "<init>", "()V"⟩
abbrev cX0_record : ByteArray := prog_2_method_2_code
def yX0_record : MethodName := ⟨RX0, "record", "(LWindowMatches$State;)V"⟩
abbrev cX0_removeLatestInto : ByteArray := prog_2_method_3_code
def yX0_removeLatestInto : MethodName := ⟨RX0, "removeLatestInto", "(LWindowMatches$State;)V"⟩
def RX1 : String := "WindowMatches$Line"
def TX1 : u_T := fun k => match k with
  | 0 => ("WindowMatches$Line", "size", "I", false)
  | 1 => ("WindowMatches$Line", "numbers", "[I", true)
  | 2 => ("WindowMatches$Line", "kinds", "[C", true)
  | 3 => ("WindowMatches$Line", "values", "[I", true)
  | _ => ("WindowMatches$Line", "times", "[I", true)
def tyX1 : Nat → FieldType := fun k => match k with
  | 0 => .int
  | 1 => .array .int
  | 2 => .array .char
  | 3 => .array .int
  | _ => .array .int
abbrev wsX10 : List Cond := u_ws RX1 TX1 5
theorem nmX1 : ∀ a, a < 5 → ∀ b, b < 5 → a ≠ b → (TX1 a).2.1 ≠ (TX1 b).2.1 := by decide +kernel
theorem tyX1_ok : ∀ k, k < 5 → parseFieldDescriptor (TX1 k).2.2.1 = some (tyX1 k) := by decide +kernel
abbrev cX1_init : ByteArray := prog_3_method_1_code
def yX1_init : MethodName := ⟨RX1, "<init>", "()V"⟩
abbrev cX1_fillFrom : ByteArray := prog_3_method_2_code
def yX1_fillFrom : MethodName := ⟨RX1, "fillFrom", "(LWindowMatches$State;)V"⟩
abbrev cX1_insert : ByteArray := prog_3_method_3_code
def yX1_insert : MethodName := ⟨RX1, "insert", "(ICII)V"⟩
abbrev cX1_put : ByteArray := prog_3_method_4_code
def yX1_put : MethodName := ⟨RX1, "put", "(IICII)V"⟩
abbrev cX1_placeOf : ByteArray := prog_3_method_5_code
def yX1_placeOf : MethodName := ⟨RX1, "placeOf", "(I)I"⟩
def RX2 : String := "WindowMatches$Pattern"
def TX2 : u_T := fun k => match k with
  | 0 => ("WindowMatches$Pattern", "window", "I", false)
  | 1 => ("WindowMatches$Pattern", "rule", "I", false)
  | 2 => ("WindowMatches$Pattern", "steps", "I", false)
  | 3 => ("WindowMatches$Pattern", "plainSteps", "I", false)
  | 4 => ("WindowMatches$Pattern", "kinds", "[C", true)
  | _ => ("WindowMatches$Pattern", "absent", "[Z", true)
def tyX2 : Nat → FieldType := fun k => match k with
  | 0 => .int
  | 1 => .int
  | 2 => .int
  | 3 => .int
  | 4 => .array .char
  | _ => .array .boolean
abbrev wsX20 : List Cond := u_ws RX2 TX2 6
theorem nmX2 : ∀ a, a < 6 → ∀ b, b < 6 → a ≠ b → (TX2 a).2.1 ≠ (TX2 b).2.1 := by decide +kernel
theorem tyX2_ok : ∀ k, k < 6 → parseFieldDescriptor (TX2 k).2.2.1 = some (tyX2 k) := by decide +kernel
abbrev cX2_init : ByteArray := prog_4_method_1_code
def yX2_init : MethodName := ⟨RX2, "<init>", "()V"⟩
abbrev cX2_clearSteps : ByteArray := prog_4_method_2_code
def yX2_clearSteps : MethodName := ⟨RX2, "clearSteps", "()V"⟩
abbrev cX2_hasRoomForStep : ByteArray := prog_4_method_3_code
def yX2_hasRoomForStep : MethodName := ⟨RX2, "hasRoomForStep", "()Z"⟩
abbrev cX2_endsWithPlainStep : ByteArray := prog_4_method_4_code
def yX2_endsWithPlainStep : MethodName := ⟨RX2, "endsWithPlainStep", "()Z"⟩
abbrev cX2_addStep : ByteArray := prog_4_method_5_code
def yX2_addStep : MethodName := ⟨RX2, "addStep", "(CZ)V"⟩
abbrev cX2_copyFrom : ByteArray := prog_4_method_6_code
def yX2_copyFrom : MethodName := ⟨RX2, "copyFrom", "(LWindowMatches$Pattern;)V"⟩
def RX3 : String := "WindowMatches$Search"
def TX3 : u_T := fun k => match k with
  | 0 => ("WindowMatches$Search", "line", "LWindowMatches$Line;", true)
  | 1 => ("WindowMatches$Search", "newestTime", "I", false)
  | 2 => ("WindowMatches$Search", "watermark", "I", false)
  | 3 => ("WindowMatches$Search", "wantedRank", "I", false)
  | 4 => ("WindowMatches$Search", "wantedPlace", "I", false)
  | 5 => ("WindowMatches$Search", "wantedEvent", "I", false)
  | 6 => ("WindowMatches$Search", "window", "I", false)
  | 7 => ("WindowMatches$Search", "rule", "I", false)
  | 8 => ("WindowMatches$Search", "plainSteps", "I", false)
  | 9 => ("WindowMatches$Search", "kinds", "[C", true)
  | 10 => ("WindowMatches$Search", "barsAhead", "[C", true)
  | 11 => ("WindowMatches$Search", "chosen", "[I", true)
  | 12 => ("WindowMatches$Search", "matches", "I", false)
  | 13 => ("WindowMatches$Search", "sureMatches", "I", false)
  | 14 => ("WindowMatches$Search", "branches", "I", false)
  | _ => ("WindowMatches$Search", "shares", "[I", true)
def tyX3 : Nat → FieldType := fun k => match k with
  | 0 => .object "WindowMatches$Line"
  | 1 => .int
  | 2 => .int
  | 3 => .int
  | 4 => .int
  | 5 => .int
  | 6 => .int
  | 7 => .int
  | 8 => .int
  | 9 => .array .char
  | 10 => .array .char
  | 11 => .array .int
  | 12 => .int
  | 13 => .int
  | 14 => .int
  | _ => .array .int
abbrev wsX30 : List Cond := u_ws RX3 TX3 16
theorem nmX3 : ∀ a, a < 16 → ∀ b, b < 16 → a ≠ b → (TX3 a).2.1 ≠ (TX3 b).2.1 := by decide +kernel
theorem tyX3_ok : ∀ k, k < 16 → parseFieldDescriptor (TX3 k).2.2.1 = some (tyX3 k) := by decide +kernel
abbrev cX3_init : ByteArray := prog_5_method_1_code
def yX3_init : MethodName := ⟨RX3, "<init>", "()V"⟩
abbrev cX3_begin : ByteArray := prog_5_method_2_code
def yX3_begin : MethodName := ⟨RX3, "begin", "(LWindowMatches$State;)V"⟩
abbrev cX3_want : ByteArray := prog_5_method_3_code
def yX3_want : MethodName := ⟨RX3, "want", "(II)V"⟩
abbrev cX3_runAll : ByteArray := prog_5_method_4_code
def yX3_runAll : MethodName := ⟨RX3, "runAll", "(LWindowMatches$State;)I"⟩
abbrev cX3_run : ByteArray := prog_5_method_5_code
def yX3_run : MethodName := ⟨RX3, "run", "(LWindowMatches$Pattern;)V"⟩
abbrev cX3_takePlainSteps : ByteArray := prog_5_method_6_code
def yX3_takePlainSteps : MethodName := ⟨RX3, "takePlainSteps", "(LWindowMatches$Pattern;)V"⟩
abbrev cX3_walkFrom : ByteArray := prog_5_method_7_code
def yX3_walkFrom : MethodName := ⟨RX3, "walkFrom", "(LWindowMatches$Search;I)I"⟩
abbrev cX3_isInWindow : ByteArray := prog_5_method_8_code
def yX3_isInWindow : MethodName := ⟨RX3, "isInWindow", "(II)Z"⟩
abbrev cX3_suits : ByteArray := prog_5_method_9_code
def yX3_suits : MethodName := ⟨RX3, "suits", "(II)Z"⟩
abbrev cX3_tellBranch : ByteArray := prog_5_method_10_code
def yX3_tellBranch : MethodName := ⟨RX3, "tellBranch", "(I)V"⟩
abbrev cX3_tellMatch : ByteArray := prog_5_method_11_code
def yX3_tellMatch : MethodName := ⟨RX3, "tellMatch", "()V"⟩
abbrev cX3_shareOf : ByteArray := prog_5_method_12_code
def yX3_shareOf : MethodName := ⟨RX3, "shareOf", "(I)I"⟩
abbrev cX3_placesWithoutShare : ByteArray := prog_5_method_13_code
def yX3_placesWithoutShare : MethodName := ⟨RX3, "placesWithoutShare", "()I"⟩
def RX4 : String := "WindowMatches$State"
def TX4 : u_T := fun k => match k with
  | 0 => ("WindowMatches$State", "events", "I", false)
  | 1 => ("WindowMatches$State", "kinds", "[C", true)
  | 2 => ("WindowMatches$State", "values", "[I", true)
  | 3 => ("WindowMatches$State", "times", "[I", true)
  | 4 => ("WindowMatches$State", "newestTime", "I", false)
  | 5 => ("WindowMatches$State", "lateness", "I", false)
  | 6 => ("WindowMatches$State", "patternCount", "I", false)
  | _ => ("WindowMatches$State", "patterns", "[LWindowMatches$Pattern;", true)
def tyX4 : Nat → FieldType := fun k => match k with
  | 0 => .int
  | 1 => .array .char
  | 2 => .array .int
  | 3 => .array .int
  | 4 => .int
  | 5 => .int
  | 6 => .int
  | _ => .array (.object "WindowMatches$Pattern")
abbrev wsX40 : List Cond := u_ws RX4 TX4 8
theorem nmX4 : ∀ a, a < 8 → ∀ b, b < 8 → a ≠ b → (TX4 a).2.1 ≠ (TX4 b).2.1 := by decide +kernel
theorem tyX4_ok : ∀ k, k < 8 → parseFieldDescriptor (TX4 k).2.2.1 = some (tyX4 k) := by decide +kernel
abbrev cX4_init : ByteArray := prog_6_method_1_code
def yX4_init : MethodName := ⟨RX4, "<init>", "()V"⟩
abbrev cX4_copyFrom : ByteArray := prog_6_method_2_code
def yX4_copyFrom : MethodName := ⟨RX4, "copyFrom", "(LWindowMatches$State;)V"⟩
abbrev cX4_watermark : ByteArray := prog_6_method_3_code
def yX4_watermark : MethodName := ⟨RX4, "watermark", "()I"⟩
abbrev cX4_addEvent : ByteArray := prog_6_method_4_code
def yX4_addEvent : MethodName := ⟨RX4, "addEvent", "(CII)I"⟩
abbrev cX4_putEvent : ByteArray := prog_6_method_5_code
def yX4_putEvent : MethodName := ⟨RX4, "putEvent", "(ICII)V"⟩
abbrev cX4_eventsAheadOf : ByteArray := prog_6_method_6_code
def yX4_eventsAheadOf : MethodName := ⟨RX4, "eventsAheadOf", "(I)I"⟩
abbrev cX4_removeEventsAheadOf : ByteArray := prog_6_method_7_code
def yX4_removeEventsAheadOf : MethodName := ⟨RX4, "removeEventsAheadOf", "(I)V"⟩
abbrev cX4_addCopyOf : ByteArray := prog_6_method_8_code
def yX4_addCopyOf : MethodName := ⟨RX4, "addCopyOf", "(LWindowMatches$Pattern;)I"⟩
abbrev cX4_removePattern : ByteArray := prog_6_method_9_code
def yX4_removePattern : MethodName := ⟨RX4, "removePattern", "(I)I"⟩
def RX5 : String := "WindowMatches$Words"
def TX5 : u_T := fun k => match k with
  | 0 => ("WindowMatches$Words", "characters", "[C", true)
  | 1 => ("WindowMatches$Words", "length", "I", false)
  | _ => ("WindowMatches$Words", "at", "I", false)
def tyX5 : Nat → FieldType := fun k => match k with
  | 0 => .array .char
  | 1 => .int
  | _ => .int
abbrev wsX50 : List Cond := u_ws RX5 TX5 3
theorem nmX5 : ∀ a, a < 3 → ∀ b, b < 3 → a ≠ b → (TX5 a).2.1 ≠ (TX5 b).2.1 := by decide +kernel
theorem tyX5_ok : ∀ k, k < 3 → parseFieldDescriptor (TX5 k).2.2.1 = some (tyX5 k) := by decide +kernel
abbrev cX5_init : ByteArray := prog_7_method_1_code
def yX5_init : MethodName := ⟨RX5, "<init>", "()V"⟩
abbrev cX5_append : ByteArray := prog_7_method_2_code
def yX5_append : MethodName := ⟨RX5, "append", "(C)I"⟩
abbrev cX5_readInto : ByteArray := prog_7_method_3_code
def yX5_readInto : MethodName := ⟨RX5, "readInto", "(LWindowMatches$Pattern;)I"⟩
abbrev cX5_next : ByteArray := prog_7_method_4_code
def yX5_next : MethodName := ⟨RX5, "next", "()C"⟩
abbrev cX5_takesWord : ByteArray := prog_7_method_5_code
def yX5_takesWord : MethodName := ⟨RX5, "takesWord", "(Ljava/lang/String;)Z"⟩
abbrev cX5_takesWindow : ByteArray := prog_7_method_6_code
def yX5_takesWindow : MethodName := ⟨RX5, "takesWindow", "(LWindowMatches$Pattern;)Z"⟩
abbrev cX5_takesRule : ByteArray := prog_7_method_7_code
def yX5_takesRule : MethodName := ⟨RX5, "takesRule", "(LWindowMatches$Pattern;)Z"⟩
abbrev cX5_takesSteps : ByteArray := prog_7_method_8_code
def yX5_takesSteps : MethodName := ⟨RX5, "takesSteps", "(LWindowMatches$Pattern;)Z"⟩
abbrev cX5_takesStep : ByteArray := prog_7_method_9_code
def yX5_takesStep : MethodName := ⟨RX5, "takesStep", "(LWindowMatches$Pattern;)Z"⟩
def RX6 : String := "WindowMatches"
def TX6 : u_T := fun k => match k with
  | 0 => ("WindowMatches", "now", "LWindowMatches$State;", true)
  | 1 => ("WindowMatches", "snapshot", "LWindowMatches$State;", true)
  | 2 => ("WindowMatches", "hasSnapshot", "Z", false)
  | 3 => ("WindowMatches", "history", "LWindowMatches$History;", true)
  | 4 => ("WindowMatches", "text", "LWindowMatches$Words;", true)
  | 5 => ("WindowMatches", "readPattern", "LWindowMatches$Pattern;", true)
  | _ => ("WindowMatches", "search", "LWindowMatches$Search;", true)
def tyX6 : Nat → FieldType := fun k => match k with
  | 0 => .object "WindowMatches$State"
  | 1 => .object "WindowMatches$State"
  | 2 => .boolean
  | 3 => .object "WindowMatches$History"
  | 4 => .object "WindowMatches$Words"
  | 5 => .object "WindowMatches$Pattern"
  | _ => .object "WindowMatches$Search"
abbrev wsX60 : List Cond := u_ws RX6 TX6 7
theorem nmX6 : ∀ a, a < 7 → ∀ b, b < 7 → a ≠ b → (TX6 a).2.1 ≠ (TX6 b).2.1 := by decide +kernel
theorem tyX6_ok : ∀ k, k < 7 → parseFieldDescriptor (TX6 k).2.2.1 = some (tyX6 k) := by decide +kernel
abbrev cX6_init : ByteArray := prog_1_method_1_code
def yX6_init : MethodName := ⟨RX6, "<init>", "()V"⟩
abbrev cX6_event : ByteArray := prog_1_method_2_code
def yX6_event : MethodName := ⟨RX6, "event", "(CII)I"⟩
abbrev cX6_forget : ByteArray := prog_1_method_3_code
def yX6_forget : MethodName := ⟨RX6, "forget", "(I)I"⟩
abbrev cX6_setLateness : ByteArray := prog_1_method_4_code
def yX6_setLateness : MethodName := ⟨RX6, "setLateness", "(I)I"⟩
abbrev cX6_addPattern : ByteArray := prog_1_method_5_code
def yX6_addPattern : MethodName := ⟨RX6, "addPattern", "()I"⟩
abbrev cX6_dropPattern : ByteArray := prog_1_method_6_code
def yX6_dropPattern : MethodName := ⟨RX6, "dropPattern", "(I)I"⟩
abbrev cX6_setWindow : ByteArray := prog_1_method_7_code
def yX6_setWindow : MethodName := ⟨RX6, "setWindow", "(II)I"⟩
abbrev cX6_type : ByteArray := prog_1_method_8_code
def yX6_type : MethodName := ⟨RX6, "type", "(C)I"⟩
abbrev cX6_clearText : ByteArray := prog_1_method_9_code
def yX6_clearText : MethodName := ⟨RX6, "clearText", "()I"⟩
abbrev cX6_undo : ByteArray := prog_1_method_10_code
def yX6_undo : MethodName := ⟨RX6, "undo", "()I"⟩
abbrev cX6_eventOf : ByteArray := prog_1_method_13_code
def yX6_eventOf : MethodName := ⟨RX6, "eventOf", "(II)I"⟩
abbrev cX6_pattern : ByteArray := prog_1_method_14_code
def yX6_pattern : MethodName := ⟨RX6, "pattern", "(II)I"⟩
abbrev cX6_step : ByteArray := prog_1_method_15_code
def yX6_step : MethodName := ⟨RX6, "step", "(III)I"⟩
abbrev cX6_match : ByteArray := prog_1_method_16_code
def yX6_match : MethodName := ⟨RX6, "match", "(III)I"⟩
abbrev cX6_ifEvent : ByteArray := prog_1_method_17_code
def yX6_ifEvent : MethodName := ⟨RX6, "ifEvent", "(CII)I"⟩
abbrev cX6_count : ByteArray := prog_1_method_18_code
def yX6_count : MethodName := ⟨RX6, "count", "(I)I"⟩
abbrev cX6_isWithin : ByteArray := prog_1_method_19_code
def yX6_isWithin : MethodName := ⟨RX6, "isWithin", "(III)Z"⟩
abbrev cX6_isKind : ByteArray := prog_1_method_20_code
def yX6_isKind : MethodName := ⟨RX6, "isKind", "(C)Z"⟩
abbrev cX6_isPattern : ByteArray := prog_1_method_21_code
def yX6_isPattern : MethodName := ⟨RX6, "isPattern", "(I)Z"⟩
abbrev cX6_errorOfEvent : ByteArray := prog_1_method_22_code
def yX6_errorOfEvent : MethodName := ⟨RX6, "errorOfEvent", "(CII)I"⟩
abbrev cX6_searchFor : ByteArray := prog_1_method_23_code
def yX6_searchFor : MethodName := ⟨RX6, "searchFor", "(LWindowMatches$Pattern;)V"⟩
def RX7 : String := "WindowMatchesModel"
def TX7 : u_T := fun k => match k with
  | _ => ("", "", "", false)
def tyX7 : Nat → FieldType := fun k => match k with
  | _ => .int
abbrev wsX70 : List Cond := u_ws RX7 TX7 0
theorem nmX7 : ∀ a, a < 0 → ∀ b, b < 0 → a ≠ b → (TX7 a).2.1 ≠ (TX7 b).2.1 := by decide +kernel
theorem tyX7_ok : ∀ k, k < 0 → parseFieldDescriptor (TX7 k).2.2.1 = some (tyX7 k) := by decide +kernel
def RJ9 : String := "java/lang/Math"
def TJ9 : u_T := fun k => match k with
  | _ => ("", "", "", false)
def tyJ9 : Nat → FieldType := fun k => match k with
  | _ => .int
abbrev wsJ90 : List Cond := u_ws RJ9 TJ9 0
theorem nmJ9 : ∀ a, a < 0 → ∀ b, b < 0 → a ≠ b → (TJ9 a).2.1 ≠ (TJ9 b).2.1 := by decide +kernel
theorem tyJ9_ok : ∀ k, k < 0 → parseFieldDescriptor (TJ9 k).2.2.1 = some (tyJ9 k) := by decide +kernel
abbrev cJ9_max_7cf53 : ByteArray := prog_10_method_65_code
def yJ9_max_7cf53 : MethodName := ⟨RJ9, "max", "(II)I"⟩
def RJ0 : String := "java/lang/String"
def TJ0 : u_T := fun k => match k with
  | _ => ("", "", "", false)
def tyJ0 : Nat → FieldType := fun k => match k with
  | _ => .int
abbrev wsJ00 : List Cond := u_ws RJ0 TJ0 0
theorem nmJ0 : ∀ a, a < 0 → ∀ b, b < 0 → a ≠ b → (TJ0 a).2.1 ≠ (TJ0 b).2.1 := by decide +kernel
theorem tyJ0_ok : ∀ k, k < 0 → parseFieldDescriptor (TJ0 k).2.2.1 = some (tyJ0 k) := by decide +kernel
abbrev cJ0_length_8abf5 : ByteArray := prog_11_method_54_code
def yJ0_length_8abf5 : MethodName := ⟨RJ0, "length", "()I"⟩
abbrev cJ0_charAt_5068e : ByteArray := prog_11_method_56_code
def yJ0_charAt_5068e : MethodName := ⟨RJ0, "charAt", "(I)C"⟩
abbrev cJ0_coder_7d493 : ByteArray := prog_11_method_152_code
def yJ0_coder_7d493 : MethodName := ⟨RJ0, "coder", "()B"⟩
abbrev cJ0_isLatin1_aae02 : ByteArray := prog_11_method_154_code
def yJ0_isLatin1_aae02 : MethodName := ⟨RJ0, "isLatin1", "()Z"⟩
abbrev cJ0_checkIndex_df160 : ByteArray := prog_11_method_155_code
def yJ0_checkIndex_df160 : MethodName := ⟨RJ0, "checkIndex", "(II)V"⟩
def RJ1 : String := "java/lang/StringLatin1"
def TJ1 : u_T := fun k => match k with
  | _ => ("", "", "", false)
def tyJ1 : Nat → FieldType := fun k => match k with
  | _ => .int
abbrev wsJ10 : List Cond := u_ws RJ1 TJ1 0
theorem nmJ1 : ∀ a, a < 0 → ∀ b, b < 0 → a ≠ b → (TJ1 a).2.1 ≠ (TJ1 b).2.1 := by decide +kernel
theorem tyJ1_ok : ∀ k, k < 0 → parseFieldDescriptor (TJ1 k).2.2.1 = some (tyJ1 k) := by decide +kernel
abbrev cJ1_charAt_3b067 : ByteArray := prog_12_method_2_code
def yJ1_charAt_3b067 : MethodName := ⟨RJ1, "charAt", "([BI)C"⟩
def RJ2 : String := "java/lang/StringUTF16"
def TJ2 : u_T := fun k => match k with
  | _ => ("", "", "", false)
def tyJ2 : Nat → FieldType := fun k => match k with
  | _ => .int
abbrev wsJ20 : List Cond := u_ws RJ2 TJ2 0
theorem nmJ2 : ∀ a, a < 0 → ∀ b, b < 0 → a ≠ b → (TJ2 a).2.1 ≠ (TJ2 b).2.1 := by decide +kernel
theorem tyJ2_ok : ∀ k, k < 0 → parseFieldDescriptor (TJ2 k).2.2.1 = some (tyJ2 k) := by decide +kernel
abbrev cJ2_getChar_3b067 : ByteArray := prog_13_method_5_code
def yJ2_getChar_3b067 : MethodName := ⟨RJ2, "getChar", "([BI)C"⟩
abbrev cJ2_length_9d52b : ByteArray := prog_13_method_6_code
def yJ2_length_9d52b : MethodName := ⟨RJ2, "length", "([B)I"⟩
abbrev cJ2_charAt_3b067 : ByteArray := prog_13_method_83_code
def yJ2_charAt_3b067 : MethodName := ⟨RJ2, "charAt", "([BI)C"⟩
abbrev cJ2_checkIndex_2214a : ByteArray := prog_13_method_91_code
def yJ2_checkIndex_2214a : MethodName := ⟨RJ2, "checkIndex", "(I[B)V"⟩
def RJ3 : String := "jdk/internal/util/Preconditions"
def TJ3 : u_T := fun k => match k with
  | _ => ("", "", "", false)
def tyJ3 : Nat → FieldType := fun k => match k with
  | _ => .int
abbrev wsJ30 : List Cond := u_ws RJ3 TJ3 0
theorem nmJ3 : ∀ a, a < 0 → ∀ b, b < 0 → a ≠ b → (TJ3 a).2.1 ≠ (TJ3 b).2.1 := by decide +kernel
theorem tyJ3_ok : ∀ k, k < 0 → parseFieldDescriptor (TJ3 k).2.2.1 = some (tyJ3 k) := by decide +kernel
abbrev cJ3_checkIndex_8e157 : ByteArray := prog_14_method_11_code
def yJ3_checkIndex_8e157 : MethodName := ⟨RJ3, "checkIndex", "(IILjava/util/function/BiFunction;)I"⟩
def RL : String := "WindowMatchesLaw"
abbrev cL_cell : ByteArray := method_2_code
def yL_cell : MethodName := ⟨RL, "cell", "([II)I"⟩
abbrev cL_up : ByteArray := method_3_code
def yL_up : MethodName := ⟨RL, "up", "(II)I"⟩
abbrev cL_there : ByteArray := method_4_code
def yL_there : MethodName := ⟨RL, "there", "(I)C"⟩
abbrev cL_types : ByteArray := method_5_code
def yL_types : MethodName := ⟨RL, "types", "(LWindowMatches;LWindowMatches;J)Z"⟩
abbrev cL_isPattern : ByteArray := method_6_code
def yL_isPattern : MethodName := ⟨RL, "isPattern", "(LWindowMatches;LWindowMatches;II)Z"⟩
abbrev cL_isStep : ByteArray := method_7_code
def yL_isStep : MethodName := ⟨RL, "isStep", "(LWindowMatches;LWindowMatches;II)Z"⟩
abbrev cL_areAlike : ByteArray := method_8_code
def yL_areAlike : MethodName := ⟨RL, "areAlike", "(LWindowMatches;LWindowMatches;)Z"⟩
abbrev cL_isWell : ByteArray := method_9_code
def yL_isWell : MethodName := ⟨RL, "isWell", "(LWindowMatches;)Z"⟩
abbrev cL_law : ByteArray := code
def yL_law : MethodName := ⟨RL, "law", "([I)Z"⟩
abbrev vwCl : List vw_C := [(RX0, TX0, 3), (RX1, TX1, 5), (RX2, TX2, 6), (RX3, TX3, 16), (RX4, TX4, 8), (RX5, TX5, 3), (RX6, TX6, 7)]
end
section
theorem dX0_init_0 : decode cX0_init 0 = .ok (.aload_n 0, 1) := by decide +kernel
theorem dX0_init_1 : decode cX0_init 1 = .ok (.invokespecial 3, 3) := by decide +kernel
theorem dX0_init_4 : decode cX0_init 4 = .ok (.aload_n 0, 1) := by decide +kernel
theorem dX0_init_5 : decode cX0_init 5 = .ok (.iconst 4, 1) := by decide +kernel
theorem dX0_init_6 : decode cX0_init 6 = .ok (.anewarray 9, 3) := by decide +kernel
theorem dX0_init_9 : decode cX0_init 9 = .ok (.putfield 11, 3) := by decide +kernel
theorem dX0_init_12 : decode cX0_init 12 = .ok (.aload_n 0, 1) := by decide +kernel
theorem dX0_init_13 : decode cX0_init 13 = .ok (.iconst 0, 1) := by decide +kernel
theorem dX0_init_14 : decode cX0_init 14 = .ok (.putfield 17, 3) := by decide +kernel
theorem dX0_init_17 : decode cX0_init 17 = .ok (.aload_n 0, 1) := by decide +kernel
theorem dX0_init_18 : decode cX0_init 18 = .ok (.iconst 0, 1) := by decide +kernel
theorem dX0_init_19 : decode cX0_init 19 = .ok (.putfield 21, 3) := by decide +kernel
theorem dX0_init_22 : decode cX0_init 22 = .ok (.iconst 0, 1) := by decide +kernel
theorem dX0_init_23 : decode cX0_init 23 = .ok (.istore_n 1, 1) := by decide +kernel
theorem dX0_init_24 : decode cX0_init 24 = .ok (.iload_n 1, 1) := by decide +kernel
theorem dX0_init_25 : decode cX0_init 25 = .ok (.iconst 4, 1) := by decide +kernel
theorem dX0_init_26 : decode cX0_init 26 = .ok (.if_icmp .ge 22, 3) := by decide +kernel
theorem dX0_init_29 : decode cX0_init 29 = .ok (.aload_n 0, 1) := by decide +kernel
theorem dX0_init_30 : decode cX0_init 30 = .ok (.getfield 11, 3) := by decide +kernel
theorem dX0_init_33 : decode cX0_init 33 = .ok (.iload_n 1, 1) := by decide +kernel
theorem dX0_init_34 : decode cX0_init 34 = .ok (.new 9, 3) := by decide +kernel
theorem dX0_init_37 : decode cX0_init 37 = .ok (.dup, 1) := by decide +kernel
theorem dX0_init_38 : decode cX0_init 38 = .ok (.invokespecial 24, 3) := by decide +kernel
theorem dX0_init_41 : decode cX0_init 41 = .ok (.aastore, 1) := by decide +kernel
theorem dX0_init_42 : decode cX0_init 42 = .ok (.iinc 1 1, 3) := by decide +kernel
theorem dX0_init_45 : decode cX0_init 45 = .ok (.goto (-21), 3) := by decide +kernel
theorem dX0_init_48 : decode cX0_init 48 = .ok (.return_, 1) := by decide +kernel
theorem dX0_record_0 : decode cX0_record 0 = .ok (.aload_n 0, 1) := by decide +kernel
theorem dX0_record_1 : decode cX0_record 1 = .ok (.getfield 21, 3) := by decide +kernel
theorem dX0_record_4 : decode cX0_record 4 = .ok (.iconst 4, 1) := by decide +kernel
theorem dX0_record_5 : decode cX0_record 5 = .ok (.if_icmp .lt 25, 3) := by decide +kernel
theorem dX0_record_8 : decode cX0_record 8 = .ok (.aload_n 0, 1) := by decide +kernel
theorem dX0_record_9 : decode cX0_record 9 = .ok (.aload_n 0, 1) := by decide +kernel
theorem dX0_record_10 : decode cX0_record 10 = .ok (.getfield 17, 3) := by decide +kernel
theorem dX0_record_13 : decode cX0_record 13 = .ok (.iconst 1, 1) := by decide +kernel
theorem dX0_record_14 : decode cX0_record 14 = .ok (.iadd, 1) := by decide +kernel
theorem dX0_record_15 : decode cX0_record 15 = .ok (.iconst 4, 1) := by decide +kernel
theorem dX0_record_16 : decode cX0_record 16 = .ok (.irem, 1) := by decide +kernel
theorem dX0_record_17 : decode cX0_record 17 = .ok (.putfield 17, 3) := by decide +kernel
theorem dX0_record_20 : decode cX0_record 20 = .ok (.aload_n 0, 1) := by decide +kernel
theorem dX0_record_21 : decode cX0_record 21 = .ok (.dup, 1) := by decide +kernel
theorem dX0_record_22 : decode cX0_record 22 = .ok (.getfield 21, 3) := by decide +kernel
theorem dX0_record_25 : decode cX0_record 25 = .ok (.iconst 1, 1) := by decide +kernel
theorem dX0_record_26 : decode cX0_record 26 = .ok (.isub, 1) := by decide +kernel
theorem dX0_record_27 : decode cX0_record 27 = .ok (.putfield 21, 3) := by decide +kernel
theorem dX0_record_30 : decode cX0_record 30 = .ok (.aload_n 0, 1) := by decide +kernel
theorem dX0_record_31 : decode cX0_record 31 = .ok (.getfield 11, 3) := by decide +kernel
theorem dX0_record_34 : decode cX0_record 34 = .ok (.aload_n 0, 1) := by decide +kernel
theorem dX0_record_35 : decode cX0_record 35 = .ok (.getfield 17, 3) := by decide +kernel
theorem dX0_record_38 : decode cX0_record 38 = .ok (.aload_n 0, 1) := by decide +kernel
theorem dX0_record_39 : decode cX0_record 39 = .ok (.getfield 21, 3) := by decide +kernel
theorem dX0_record_42 : decode cX0_record 42 = .ok (.iadd, 1) := by decide +kernel
theorem dX0_record_43 : decode cX0_record 43 = .ok (.iconst 4, 1) := by decide +kernel
theorem dX0_record_44 : decode cX0_record 44 = .ok (.irem, 1) := by decide +kernel
theorem dX0_record_45 : decode cX0_record 45 = .ok (.aaload, 1) := by decide +kernel
theorem dX0_record_46 : decode cX0_record 46 = .ok (.aload_n 1, 1) := by decide +kernel
theorem dX0_record_47 : decode cX0_record 47 = .ok (.invokevirtual 25, 3) := by decide +kernel
theorem dX0_record_50 : decode cX0_record 50 = .ok (.aload_n 0, 1) := by decide +kernel
theorem dX0_record_51 : decode cX0_record 51 = .ok (.dup, 1) := by decide +kernel
theorem dX0_record_52 : decode cX0_record 52 = .ok (.getfield 21, 3) := by decide +kernel
theorem dX0_record_55 : decode cX0_record 55 = .ok (.iconst 1, 1) := by decide +kernel
theorem dX0_record_56 : decode cX0_record 56 = .ok (.iadd, 1) := by decide +kernel
theorem dX0_record_57 : decode cX0_record 57 = .ok (.putfield 21, 3) := by decide +kernel
theorem dX0_record_60 : decode cX0_record 60 = .ok (.return_, 1) := by decide +kernel
theorem dX0_removeLatestInto_0 : decode cX0_removeLatestInto 0 = .ok (.aload_n 0, 1) := by decide +kernel
theorem dX0_removeLatestInto_1 : decode cX0_removeLatestInto 1 = .ok (.getfield 21, 3) := by decide +kernel
theorem dX0_removeLatestInto_4 : decode cX0_removeLatestInto 4 = .ok (.ifCond .gt 4, 3) := by decide +kernel
theorem dX0_removeLatestInto_7 : decode cX0_removeLatestInto 7 = .ok (.return_, 1) := by decide +kernel
theorem dX0_removeLatestInto_8 : decode cX0_removeLatestInto 8 = .ok (.aload_n 0, 1) := by decide +kernel
theorem dX0_removeLatestInto_9 : decode cX0_removeLatestInto 9 = .ok (.dup, 1) := by decide +kernel
theorem dX0_removeLatestInto_10 : decode cX0_removeLatestInto 10 = .ok (.getfield 21, 3) := by decide +kernel
theorem dX0_removeLatestInto_13 : decode cX0_removeLatestInto 13 = .ok (.iconst 1, 1) := by decide +kernel
theorem dX0_removeLatestInto_14 : decode cX0_removeLatestInto 14 = .ok (.isub, 1) := by decide +kernel
theorem dX0_removeLatestInto_15 : decode cX0_removeLatestInto 15 = .ok (.putfield 21, 3) := by decide +kernel
theorem dX0_removeLatestInto_18 : decode cX0_removeLatestInto 18 = .ok (.aload_n 1, 1) := by decide +kernel
theorem dX0_removeLatestInto_19 : decode cX0_removeLatestInto 19 = .ok (.aload_n 0, 1) := by decide +kernel
theorem dX0_removeLatestInto_20 : decode cX0_removeLatestInto 20 = .ok (.getfield 11, 3) := by decide +kernel
theorem dX0_removeLatestInto_23 : decode cX0_removeLatestInto 23 = .ok (.aload_n 0, 1) := by decide +kernel
theorem dX0_removeLatestInto_24 : decode cX0_removeLatestInto 24 = .ok (.getfield 17, 3) := by decide +kernel
theorem dX0_removeLatestInto_27 : decode cX0_removeLatestInto 27 = .ok (.aload_n 0, 1) := by decide +kernel
theorem dX0_removeLatestInto_28 : decode cX0_removeLatestInto 28 = .ok (.getfield 21, 3) := by decide +kernel
theorem dX0_removeLatestInto_31 : decode cX0_removeLatestInto 31 = .ok (.iadd, 1) := by decide +kernel
theorem dX0_removeLatestInto_32 : decode cX0_removeLatestInto 32 = .ok (.iconst 4, 1) := by decide +kernel
theorem dX0_removeLatestInto_33 : decode cX0_removeLatestInto 33 = .ok (.irem, 1) := by decide +kernel
theorem dX0_removeLatestInto_34 : decode cX0_removeLatestInto 34 = .ok (.aaload, 1) := by decide +kernel
theorem dX0_removeLatestInto_35 : decode cX0_removeLatestInto 35 = .ok (.invokevirtual 25, 3) := by decide +kernel
theorem dX0_removeLatestInto_38 : decode cX0_removeLatestInto 38 = .ok (.return_, 1) := by decide +kernel
theorem dX1_init_0 : decode cX1_init 0 = .ok (.aload_n 0, 1) := by decide +kernel
theorem dX1_init_1 : decode cX1_init 1 = .ok (.invokespecial 3, 3) := by decide +kernel
theorem dX1_init_4 : decode cX1_init 4 = .ok (.aload_n 0, 1) := by decide +kernel
theorem dX1_init_5 : decode cX1_init 5 = .ok (.iconst 0, 1) := by decide +kernel
theorem dX1_init_6 : decode cX1_init 6 = .ok (.putfield 9, 3) := by decide +kernel
theorem dX1_init_9 : decode cX1_init 9 = .ok (.aload_n 0, 1) := by decide +kernel
theorem dX1_init_10 : decode cX1_init 10 = .ok (.bipush 25, 2) := by decide +kernel
theorem dX1_init_12 : decode cX1_init 12 = .ok (.newarray .int, 2) := by decide +kernel
theorem dX1_init_14 : decode cX1_init 14 = .ok (.putfield 15, 3) := by decide +kernel
theorem dX1_init_17 : decode cX1_init 17 = .ok (.aload_n 0, 1) := by decide +kernel
theorem dX1_init_18 : decode cX1_init 18 = .ok (.bipush 25, 2) := by decide +kernel
theorem dX1_init_20 : decode cX1_init 20 = .ok (.newarray .char, 2) := by decide +kernel
theorem dX1_init_22 : decode cX1_init 22 = .ok (.putfield 19, 3) := by decide +kernel
theorem dX1_init_25 : decode cX1_init 25 = .ok (.aload_n 0, 1) := by decide +kernel
theorem dX1_init_26 : decode cX1_init 26 = .ok (.bipush 25, 2) := by decide +kernel
theorem dX1_init_28 : decode cX1_init 28 = .ok (.newarray .int, 2) := by decide +kernel
theorem dX1_init_30 : decode cX1_init 30 = .ok (.putfield 23, 3) := by decide +kernel
theorem dX1_init_33 : decode cX1_init 33 = .ok (.aload_n 0, 1) := by decide +kernel
theorem dX1_init_34 : decode cX1_init 34 = .ok (.bipush 25, 2) := by decide +kernel
theorem dX1_init_36 : decode cX1_init 36 = .ok (.newarray .int, 2) := by decide +kernel
theorem dX1_init_38 : decode cX1_init 38 = .ok (.putfield 26, 3) := by decide +kernel
theorem dX1_init_41 : decode cX1_init 41 = .ok (.return_, 1) := by decide +kernel
theorem dX1_fillFrom_0 : decode cX1_fillFrom 0 = .ok (.aload_n 0, 1) := by decide +kernel
theorem dX1_fillFrom_1 : decode cX1_fillFrom 1 = .ok (.iconst 0, 1) := by decide +kernel
theorem dX1_fillFrom_2 : decode cX1_fillFrom 2 = .ok (.putfield 9, 3) := by decide +kernel
theorem dX1_fillFrom_5 : decode cX1_fillFrom 5 = .ok (.iconst 0, 1) := by decide +kernel
theorem dX1_fillFrom_6 : decode cX1_fillFrom 6 = .ok (.istore_n 2, 1) := by decide +kernel
theorem dX1_fillFrom_7 : decode cX1_fillFrom 7 = .ok (.iload_n 2, 1) := by decide +kernel
theorem dX1_fillFrom_8 : decode cX1_fillFrom 8 = .ok (.aload_n 1, 1) := by decide +kernel
theorem dX1_fillFrom_9 : decode cX1_fillFrom 9 = .ok (.getfield 29, 3) := by decide +kernel
theorem dX1_fillFrom_12 : decode cX1_fillFrom 12 = .ok (.if_icmp .ge 32, 3) := by decide +kernel
theorem dX1_fillFrom_15 : decode cX1_fillFrom 15 = .ok (.aload_n 0, 1) := by decide +kernel
theorem dX1_fillFrom_16 : decode cX1_fillFrom 16 = .ok (.iload_n 2, 1) := by decide +kernel
theorem dX1_fillFrom_17 : decode cX1_fillFrom 17 = .ok (.aload_n 1, 1) := by decide +kernel
theorem dX1_fillFrom_18 : decode cX1_fillFrom 18 = .ok (.getfield 34, 3) := by decide +kernel
theorem dX1_fillFrom_21 : decode cX1_fillFrom 21 = .ok (.iload_n 2, 1) := by decide +kernel
theorem dX1_fillFrom_22 : decode cX1_fillFrom 22 = .ok (.caload, 1) := by decide +kernel
theorem dX1_fillFrom_23 : decode cX1_fillFrom 23 = .ok (.aload_n 1, 1) := by decide +kernel
theorem dX1_fillFrom_24 : decode cX1_fillFrom 24 = .ok (.getfield 35, 3) := by decide +kernel
theorem dX1_fillFrom_27 : decode cX1_fillFrom 27 = .ok (.iload_n 2, 1) := by decide +kernel
theorem dX1_fillFrom_28 : decode cX1_fillFrom 28 = .ok (.iaload, 1) := by decide +kernel
theorem dX1_fillFrom_29 : decode cX1_fillFrom 29 = .ok (.aload_n 1, 1) := by decide +kernel
theorem dX1_fillFrom_30 : decode cX1_fillFrom 30 = .ok (.getfield 36, 3) := by decide +kernel
theorem dX1_fillFrom_33 : decode cX1_fillFrom 33 = .ok (.iload_n 2, 1) := by decide +kernel
theorem dX1_fillFrom_34 : decode cX1_fillFrom 34 = .ok (.iaload, 1) := by decide +kernel
theorem dX1_fillFrom_35 : decode cX1_fillFrom 35 = .ok (.invokevirtual 37, 3) := by decide +kernel
theorem dX1_fillFrom_38 : decode cX1_fillFrom 38 = .ok (.iinc 2 1, 3) := by decide +kernel
theorem dX1_fillFrom_41 : decode cX1_fillFrom 41 = .ok (.goto (-34), 3) := by decide +kernel
theorem dX1_fillFrom_44 : decode cX1_fillFrom 44 = .ok (.return_, 1) := by decide +kernel
theorem dX1_insert_0 : decode cX1_insert 0 = .ok (.aload_n 0, 1) := by decide +kernel
theorem dX1_insert_1 : decode cX1_insert 1 = .ok (.getfield 9, 3) := by decide +kernel
theorem dX1_insert_4 : decode cX1_insert 4 = .ok (.bipush 25, 2) := by decide +kernel
theorem dX1_insert_6 : decode cX1_insert 6 = .ok (.if_icmp .lt 4, 3) := by decide +kernel
theorem dX1_insert_9 : decode cX1_insert 9 = .ok (.return_, 1) := by decide +kernel
theorem dX1_insert_10 : decode cX1_insert 10 = .ok (.aload_n 0, 1) := by decide +kernel
theorem dX1_insert_11 : decode cX1_insert 11 = .ok (.getfield 9, 3) := by decide +kernel
theorem dX1_insert_14 : decode cX1_insert 14 = .ok (.istore 5, 2) := by decide +kernel
theorem dX1_insert_16 : decode cX1_insert 16 = .ok (.iload 5, 2) := by decide +kernel
theorem dX1_insert_18 : decode cX1_insert 18 = .ok (.ifCond .le 65, 3) := by decide +kernel
theorem dX1_insert_21 : decode cX1_insert 21 = .ok (.aload_n 0, 1) := by decide +kernel
theorem dX1_insert_22 : decode cX1_insert 22 = .ok (.getfield 26, 3) := by decide +kernel
theorem dX1_insert_25 : decode cX1_insert 25 = .ok (.iload 5, 2) := by decide +kernel
theorem dX1_insert_27 : decode cX1_insert 27 = .ok (.iconst 1, 1) := by decide +kernel
theorem dX1_insert_28 : decode cX1_insert 28 = .ok (.isub, 1) := by decide +kernel
theorem dX1_insert_29 : decode cX1_insert 29 = .ok (.iaload, 1) := by decide +kernel
theorem dX1_insert_30 : decode cX1_insert 30 = .ok (.iload 4, 2) := by decide +kernel
theorem dX1_insert_32 : decode cX1_insert 32 = .ok (.if_icmp .le 51, 3) := by decide +kernel
theorem dX1_insert_35 : decode cX1_insert 35 = .ok (.aload_n 0, 1) := by decide +kernel
theorem dX1_insert_36 : decode cX1_insert 36 = .ok (.iload 5, 2) := by decide +kernel
theorem dX1_insert_38 : decode cX1_insert 38 = .ok (.aload_n 0, 1) := by decide +kernel
theorem dX1_insert_39 : decode cX1_insert 39 = .ok (.getfield 15, 3) := by decide +kernel
theorem dX1_insert_42 : decode cX1_insert 42 = .ok (.iload 5, 2) := by decide +kernel
theorem dX1_insert_44 : decode cX1_insert 44 = .ok (.iconst 1, 1) := by decide +kernel
theorem dX1_insert_45 : decode cX1_insert 45 = .ok (.isub, 1) := by decide +kernel
theorem dX1_insert_46 : decode cX1_insert 46 = .ok (.iaload, 1) := by decide +kernel
theorem dX1_insert_47 : decode cX1_insert 47 = .ok (.aload_n 0, 1) := by decide +kernel
theorem dX1_insert_48 : decode cX1_insert 48 = .ok (.getfield 19, 3) := by decide +kernel
theorem dX1_insert_51 : decode cX1_insert 51 = .ok (.iload 5, 2) := by decide +kernel
theorem dX1_insert_53 : decode cX1_insert 53 = .ok (.iconst 1, 1) := by decide +kernel
theorem dX1_insert_54 : decode cX1_insert 54 = .ok (.isub, 1) := by decide +kernel
theorem dX1_insert_55 : decode cX1_insert 55 = .ok (.caload, 1) := by decide +kernel
theorem dX1_insert_56 : decode cX1_insert 56 = .ok (.aload_n 0, 1) := by decide +kernel
theorem dX1_insert_57 : decode cX1_insert 57 = .ok (.getfield 23, 3) := by decide +kernel
theorem dX1_insert_60 : decode cX1_insert 60 = .ok (.iload 5, 2) := by decide +kernel
theorem dX1_insert_62 : decode cX1_insert 62 = .ok (.iconst 1, 1) := by decide +kernel
theorem dX1_insert_63 : decode cX1_insert 63 = .ok (.isub, 1) := by decide +kernel
theorem dX1_insert_64 : decode cX1_insert 64 = .ok (.iaload, 1) := by decide +kernel
theorem dX1_insert_65 : decode cX1_insert 65 = .ok (.aload_n 0, 1) := by decide +kernel
theorem dX1_insert_66 : decode cX1_insert 66 = .ok (.getfield 26, 3) := by decide +kernel
theorem dX1_insert_69 : decode cX1_insert 69 = .ok (.iload 5, 2) := by decide +kernel
theorem dX1_insert_71 : decode cX1_insert 71 = .ok (.iconst 1, 1) := by decide +kernel
theorem dX1_insert_72 : decode cX1_insert 72 = .ok (.isub, 1) := by decide +kernel
theorem dX1_insert_73 : decode cX1_insert 73 = .ok (.iaload, 1) := by decide +kernel
theorem dX1_insert_74 : decode cX1_insert 74 = .ok (.invokevirtual 41, 3) := by decide +kernel
theorem dX1_insert_77 : decode cX1_insert 77 = .ok (.iinc 5 (-1), 3) := by decide +kernel
theorem dX1_insert_80 : decode cX1_insert 80 = .ok (.goto (-64), 3) := by decide +kernel
theorem dX1_insert_83 : decode cX1_insert 83 = .ok (.aload_n 0, 1) := by decide +kernel
theorem dX1_insert_84 : decode cX1_insert 84 = .ok (.iload 5, 2) := by decide +kernel
theorem dX1_insert_86 : decode cX1_insert 86 = .ok (.iload_n 1, 1) := by decide +kernel
theorem dX1_insert_87 : decode cX1_insert 87 = .ok (.iload_n 2, 1) := by decide +kernel
theorem dX1_insert_88 : decode cX1_insert 88 = .ok (.iload_n 3, 1) := by decide +kernel
theorem dX1_insert_89 : decode cX1_insert 89 = .ok (.iload 4, 2) := by decide +kernel
theorem dX1_insert_91 : decode cX1_insert 91 = .ok (.invokevirtual 41, 3) := by decide +kernel
theorem dX1_insert_94 : decode cX1_insert 94 = .ok (.aload_n 0, 1) := by decide +kernel
theorem dX1_insert_95 : decode cX1_insert 95 = .ok (.dup, 1) := by decide +kernel
theorem dX1_insert_96 : decode cX1_insert 96 = .ok (.getfield 9, 3) := by decide +kernel
theorem dX1_insert_99 : decode cX1_insert 99 = .ok (.iconst 1, 1) := by decide +kernel
theorem dX1_insert_100 : decode cX1_insert 100 = .ok (.iadd, 1) := by decide +kernel
theorem dX1_insert_101 : decode cX1_insert 101 = .ok (.putfield 9, 3) := by decide +kernel
theorem dX1_insert_104 : decode cX1_insert 104 = .ok (.return_, 1) := by decide +kernel
theorem dX1_put_0 : decode cX1_put 0 = .ok (.aload_n 0, 1) := by decide +kernel
theorem dX1_put_1 : decode cX1_put 1 = .ok (.getfield 15, 3) := by decide +kernel
theorem dX1_put_4 : decode cX1_put 4 = .ok (.iload_n 1, 1) := by decide +kernel
theorem dX1_put_5 : decode cX1_put 5 = .ok (.iload_n 2, 1) := by decide +kernel
theorem dX1_put_6 : decode cX1_put 6 = .ok (.iastore, 1) := by decide +kernel
theorem dX1_put_7 : decode cX1_put 7 = .ok (.aload_n 0, 1) := by decide +kernel
theorem dX1_put_8 : decode cX1_put 8 = .ok (.getfield 19, 3) := by decide +kernel
theorem dX1_put_11 : decode cX1_put 11 = .ok (.iload_n 1, 1) := by decide +kernel
theorem dX1_put_12 : decode cX1_put 12 = .ok (.iload_n 3, 1) := by decide +kernel
theorem dX1_put_13 : decode cX1_put 13 = .ok (.castore, 1) := by decide +kernel
theorem dX1_put_14 : decode cX1_put 14 = .ok (.aload_n 0, 1) := by decide +kernel
theorem dX1_put_15 : decode cX1_put 15 = .ok (.getfield 23, 3) := by decide +kernel
theorem dX1_put_18 : decode cX1_put 18 = .ok (.iload_n 1, 1) := by decide +kernel
theorem dX1_put_19 : decode cX1_put 19 = .ok (.iload 4, 2) := by decide +kernel
theorem dX1_put_21 : decode cX1_put 21 = .ok (.iastore, 1) := by decide +kernel
theorem dX1_put_22 : decode cX1_put 22 = .ok (.aload_n 0, 1) := by decide +kernel
theorem dX1_put_23 : decode cX1_put 23 = .ok (.getfield 26, 3) := by decide +kernel
theorem dX1_put_26 : decode cX1_put 26 = .ok (.iload_n 1, 1) := by decide +kernel
theorem dX1_put_27 : decode cX1_put 27 = .ok (.iload 5, 2) := by decide +kernel
theorem dX1_put_29 : decode cX1_put 29 = .ok (.iastore, 1) := by decide +kernel
theorem dX1_put_30 : decode cX1_put 30 = .ok (.return_, 1) := by decide +kernel
theorem dX1_placeOf_0 : decode cX1_placeOf 0 = .ok (.iconst 0, 1) := by decide +kernel
theorem dX1_placeOf_1 : decode cX1_placeOf 1 = .ok (.istore_n 2, 1) := by decide +kernel
theorem dX1_placeOf_2 : decode cX1_placeOf 2 = .ok (.iconst 0, 1) := by decide +kernel
theorem dX1_placeOf_3 : decode cX1_placeOf 3 = .ok (.istore_n 3, 1) := by decide +kernel
theorem dX1_placeOf_4 : decode cX1_placeOf 4 = .ok (.iload_n 3, 1) := by decide +kernel
theorem dX1_placeOf_5 : decode cX1_placeOf 5 = .ok (.aload_n 0, 1) := by decide +kernel
theorem dX1_placeOf_6 : decode cX1_placeOf 6 = .ok (.getfield 9, 3) := by decide +kernel
theorem dX1_placeOf_9 : decode cX1_placeOf 9 = .ok (.if_icmp .ge 21, 3) := by decide +kernel
theorem dX1_placeOf_12 : decode cX1_placeOf 12 = .ok (.aload_n 0, 1) := by decide +kernel
theorem dX1_placeOf_13 : decode cX1_placeOf 13 = .ok (.getfield 15, 3) := by decide +kernel
theorem dX1_placeOf_16 : decode cX1_placeOf 16 = .ok (.iload_n 3, 1) := by decide +kernel
theorem dX1_placeOf_17 : decode cX1_placeOf 17 = .ok (.iaload, 1) := by decide +kernel
theorem dX1_placeOf_18 : decode cX1_placeOf 18 = .ok (.iload_n 1, 1) := by decide +kernel
theorem dX1_placeOf_19 : decode cX1_placeOf 19 = .ok (.if_icmp .ne 5, 3) := by decide +kernel
theorem dX1_placeOf_22 : decode cX1_placeOf 22 = .ok (.iload_n 3, 1) := by decide +kernel
theorem dX1_placeOf_23 : decode cX1_placeOf 23 = .ok (.istore_n 2, 1) := by decide +kernel
theorem dX1_placeOf_24 : decode cX1_placeOf 24 = .ok (.iinc 3 1, 3) := by decide +kernel
theorem dX1_placeOf_27 : decode cX1_placeOf 27 = .ok (.goto (-23), 3) := by decide +kernel
theorem dX1_placeOf_30 : decode cX1_placeOf 30 = .ok (.iload_n 2, 1) := by decide +kernel
theorem dX1_placeOf_31 : decode cX1_placeOf 31 = .ok (.ireturn, 1) := by decide +kernel
theorem dX2_init_0 : decode cX2_init 0 = .ok (.aload_n 0, 1) := by decide +kernel
theorem dX2_init_1 : decode cX2_init 1 = .ok (.invokespecial 3, 3) := by decide +kernel
theorem dX2_init_4 : decode cX2_init 4 = .ok (.aload_n 0, 1) := by decide +kernel
theorem dX2_init_5 : decode cX2_init 5 = .ok (.iconst 1, 1) := by decide +kernel
theorem dX2_init_6 : decode cX2_init 6 = .ok (.putfield 9, 3) := by decide +kernel
theorem dX2_init_9 : decode cX2_init 9 = .ok (.aload_n 0, 1) := by decide +kernel
theorem dX2_init_10 : decode cX2_init 10 = .ok (.iconst 0, 1) := by decide +kernel
theorem dX2_init_11 : decode cX2_init 11 = .ok (.putfield 15, 3) := by decide +kernel
theorem dX2_init_14 : decode cX2_init 14 = .ok (.aload_n 0, 1) := by decide +kernel
theorem dX2_init_15 : decode cX2_init 15 = .ok (.iconst 0, 1) := by decide +kernel
theorem dX2_init_16 : decode cX2_init 16 = .ok (.putfield 18, 3) := by decide +kernel
theorem dX2_init_19 : decode cX2_init 19 = .ok (.aload_n 0, 1) := by decide +kernel
theorem dX2_init_20 : decode cX2_init 20 = .ok (.iconst 0, 1) := by decide +kernel
theorem dX2_init_21 : decode cX2_init 21 = .ok (.putfield 21, 3) := by decide +kernel
theorem dX2_init_24 : decode cX2_init 24 = .ok (.aload_n 0, 1) := by decide +kernel
theorem dX2_init_25 : decode cX2_init 25 = .ok (.bipush 8, 2) := by decide +kernel
theorem dX2_init_27 : decode cX2_init 27 = .ok (.newarray .char, 2) := by decide +kernel
theorem dX2_init_29 : decode cX2_init 29 = .ok (.putfield 24, 3) := by decide +kernel
theorem dX2_init_32 : decode cX2_init 32 = .ok (.aload_n 0, 1) := by decide +kernel
theorem dX2_init_33 : decode cX2_init 33 = .ok (.bipush 8, 2) := by decide +kernel
theorem dX2_init_35 : decode cX2_init 35 = .ok (.newarray .boolean, 2) := by decide +kernel
theorem dX2_init_37 : decode cX2_init 37 = .ok (.putfield 28, 3) := by decide +kernel
theorem dX2_init_40 : decode cX2_init 40 = .ok (.return_, 1) := by decide +kernel
theorem dX2_clearSteps_0 : decode cX2_clearSteps 0 = .ok (.aload_n 0, 1) := by decide +kernel
theorem dX2_clearSteps_1 : decode cX2_clearSteps 1 = .ok (.iconst 0, 1) := by decide +kernel
theorem dX2_clearSteps_2 : decode cX2_clearSteps 2 = .ok (.putfield 18, 3) := by decide +kernel
theorem dX2_clearSteps_5 : decode cX2_clearSteps 5 = .ok (.aload_n 0, 1) := by decide +kernel
theorem dX2_clearSteps_6 : decode cX2_clearSteps 6 = .ok (.iconst 0, 1) := by decide +kernel
theorem dX2_clearSteps_7 : decode cX2_clearSteps 7 = .ok (.putfield 21, 3) := by decide +kernel
theorem dX2_clearSteps_10 : decode cX2_clearSteps 10 = .ok (.return_, 1) := by decide +kernel
theorem dX2_hasRoomForStep_0 : decode cX2_hasRoomForStep 0 = .ok (.aload_n 0, 1) := by decide +kernel
theorem dX2_hasRoomForStep_1 : decode cX2_hasRoomForStep 1 = .ok (.getfield 18, 3) := by decide +kernel
theorem dX2_hasRoomForStep_4 : decode cX2_hasRoomForStep 4 = .ok (.bipush 8, 2) := by decide +kernel
theorem dX2_hasRoomForStep_6 : decode cX2_hasRoomForStep 6 = .ok (.if_icmp .ge 7, 3) := by decide +kernel
theorem dX2_hasRoomForStep_9 : decode cX2_hasRoomForStep 9 = .ok (.iconst 1, 1) := by decide +kernel
theorem dX2_hasRoomForStep_10 : decode cX2_hasRoomForStep 10 = .ok (.goto 4, 3) := by decide +kernel
theorem dX2_hasRoomForStep_13 : decode cX2_hasRoomForStep 13 = .ok (.iconst 0, 1) := by decide +kernel
theorem dX2_hasRoomForStep_14 : decode cX2_hasRoomForStep 14 = .ok (.ireturn, 1) := by decide +kernel
theorem dX2_endsWithPlainStep_0 : decode cX2_endsWithPlainStep 0 = .ok (.aload_n 0, 1) := by decide +kernel
theorem dX2_endsWithPlainStep_1 : decode cX2_endsWithPlainStep 1 = .ok (.getfield 18, 3) := by decide +kernel
theorem dX2_endsWithPlainStep_4 : decode cX2_endsWithPlainStep 4 = .ok (.ifCond .le 30, 3) := by decide +kernel
theorem dX2_endsWithPlainStep_7 : decode cX2_endsWithPlainStep 7 = .ok (.aload_n 0, 1) := by decide +kernel
theorem dX2_endsWithPlainStep_8 : decode cX2_endsWithPlainStep 8 = .ok (.getfield 18, 3) := by decide +kernel
theorem dX2_endsWithPlainStep_11 : decode cX2_endsWithPlainStep 11 = .ok (.bipush 8, 2) := by decide +kernel
theorem dX2_endsWithPlainStep_13 : decode cX2_endsWithPlainStep 13 = .ok (.if_icmp .gt 21, 3) := by decide +kernel
theorem dX2_endsWithPlainStep_16 : decode cX2_endsWithPlainStep 16 = .ok (.aload_n 0, 1) := by decide +kernel
theorem dX2_endsWithPlainStep_17 : decode cX2_endsWithPlainStep 17 = .ok (.getfield 28, 3) := by decide +kernel
theorem dX2_endsWithPlainStep_20 : decode cX2_endsWithPlainStep 20 = .ok (.aload_n 0, 1) := by decide +kernel
theorem dX2_endsWithPlainStep_21 : decode cX2_endsWithPlainStep 21 = .ok (.getfield 18, 3) := by decide +kernel
theorem dX2_endsWithPlainStep_24 : decode cX2_endsWithPlainStep 24 = .ok (.iconst 1, 1) := by decide +kernel
theorem dX2_endsWithPlainStep_25 : decode cX2_endsWithPlainStep 25 = .ok (.isub, 1) := by decide +kernel
theorem dX2_endsWithPlainStep_26 : decode cX2_endsWithPlainStep 26 = .ok (.baload, 1) := by decide +kernel
theorem dX2_endsWithPlainStep_27 : decode cX2_endsWithPlainStep 27 = .ok (.ifCond .ne 7, 3) := by decide +kernel
theorem dX2_endsWithPlainStep_30 : decode cX2_endsWithPlainStep 30 = .ok (.iconst 1, 1) := by decide +kernel
theorem dX2_endsWithPlainStep_31 : decode cX2_endsWithPlainStep 31 = .ok (.goto 4, 3) := by decide +kernel
theorem dX2_endsWithPlainStep_34 : decode cX2_endsWithPlainStep 34 = .ok (.iconst 0, 1) := by decide +kernel
theorem dX2_endsWithPlainStep_35 : decode cX2_endsWithPlainStep 35 = .ok (.ireturn, 1) := by decide +kernel
theorem dX2_addStep_0 : decode cX2_addStep 0 = .ok (.aload_n 0, 1) := by decide +kernel
theorem dX2_addStep_1 : decode cX2_addStep 1 = .ok (.invokevirtual 32, 3) := by decide +kernel
theorem dX2_addStep_4 : decode cX2_addStep 4 = .ok (.ifCond .ne 4, 3) := by decide +kernel
theorem dX2_addStep_7 : decode cX2_addStep 7 = .ok (.return_, 1) := by decide +kernel
theorem dX2_addStep_8 : decode cX2_addStep 8 = .ok (.aload_n 0, 1) := by decide +kernel
theorem dX2_addStep_9 : decode cX2_addStep 9 = .ok (.getfield 24, 3) := by decide +kernel
theorem dX2_addStep_12 : decode cX2_addStep 12 = .ok (.aload_n 0, 1) := by decide +kernel
theorem dX2_addStep_13 : decode cX2_addStep 13 = .ok (.getfield 18, 3) := by decide +kernel
theorem dX2_addStep_16 : decode cX2_addStep 16 = .ok (.iload_n 1, 1) := by decide +kernel
theorem dX2_addStep_17 : decode cX2_addStep 17 = .ok (.castore, 1) := by decide +kernel
theorem dX2_addStep_18 : decode cX2_addStep 18 = .ok (.aload_n 0, 1) := by decide +kernel
theorem dX2_addStep_19 : decode cX2_addStep 19 = .ok (.getfield 28, 3) := by decide +kernel
theorem dX2_addStep_22 : decode cX2_addStep 22 = .ok (.aload_n 0, 1) := by decide +kernel
theorem dX2_addStep_23 : decode cX2_addStep 23 = .ok (.getfield 18, 3) := by decide +kernel
theorem dX2_addStep_26 : decode cX2_addStep 26 = .ok (.iload_n 2, 1) := by decide +kernel
theorem dX2_addStep_27 : decode cX2_addStep 27 = .ok (.bastore, 1) := by decide +kernel
theorem dX2_addStep_28 : decode cX2_addStep 28 = .ok (.aload_n 0, 1) := by decide +kernel
theorem dX2_addStep_29 : decode cX2_addStep 29 = .ok (.dup, 1) := by decide +kernel
theorem dX2_addStep_30 : decode cX2_addStep 30 = .ok (.getfield 18, 3) := by decide +kernel
theorem dX2_addStep_33 : decode cX2_addStep 33 = .ok (.iconst 1, 1) := by decide +kernel
theorem dX2_addStep_34 : decode cX2_addStep 34 = .ok (.iadd, 1) := by decide +kernel
theorem dX2_addStep_35 : decode cX2_addStep 35 = .ok (.putfield 18, 3) := by decide +kernel
theorem dX2_addStep_38 : decode cX2_addStep 38 = .ok (.iload_n 2, 1) := by decide +kernel
theorem dX2_addStep_39 : decode cX2_addStep 39 = .ok (.ifCond .ne 13, 3) := by decide +kernel
theorem dX2_addStep_42 : decode cX2_addStep 42 = .ok (.aload_n 0, 1) := by decide +kernel
theorem dX2_addStep_43 : decode cX2_addStep 43 = .ok (.dup, 1) := by decide +kernel
theorem dX2_addStep_44 : decode cX2_addStep 44 = .ok (.getfield 21, 3) := by decide +kernel
theorem dX2_addStep_47 : decode cX2_addStep 47 = .ok (.iconst 1, 1) := by decide +kernel
theorem dX2_addStep_48 : decode cX2_addStep 48 = .ok (.iadd, 1) := by decide +kernel
theorem dX2_addStep_49 : decode cX2_addStep 49 = .ok (.putfield 21, 3) := by decide +kernel
theorem dX2_addStep_52 : decode cX2_addStep 52 = .ok (.return_, 1) := by decide +kernel
theorem dX2_copyFrom_0 : decode cX2_copyFrom 0 = .ok (.aload_n 0, 1) := by decide +kernel
theorem dX2_copyFrom_1 : decode cX2_copyFrom 1 = .ok (.aload_n 1, 1) := by decide +kernel
theorem dX2_copyFrom_2 : decode cX2_copyFrom 2 = .ok (.getfield 9, 3) := by decide +kernel
theorem dX2_copyFrom_5 : decode cX2_copyFrom 5 = .ok (.putfield 9, 3) := by decide +kernel
theorem dX2_copyFrom_8 : decode cX2_copyFrom 8 = .ok (.aload_n 0, 1) := by decide +kernel
theorem dX2_copyFrom_9 : decode cX2_copyFrom 9 = .ok (.aload_n 1, 1) := by decide +kernel
theorem dX2_copyFrom_10 : decode cX2_copyFrom 10 = .ok (.getfield 15, 3) := by decide +kernel
theorem dX2_copyFrom_13 : decode cX2_copyFrom 13 = .ok (.putfield 15, 3) := by decide +kernel
theorem dX2_copyFrom_16 : decode cX2_copyFrom 16 = .ok (.aload_n 0, 1) := by decide +kernel
theorem dX2_copyFrom_17 : decode cX2_copyFrom 17 = .ok (.aload_n 1, 1) := by decide +kernel
theorem dX2_copyFrom_18 : decode cX2_copyFrom 18 = .ok (.getfield 18, 3) := by decide +kernel
theorem dX2_copyFrom_21 : decode cX2_copyFrom 21 = .ok (.putfield 18, 3) := by decide +kernel
theorem dX2_copyFrom_24 : decode cX2_copyFrom 24 = .ok (.aload_n 0, 1) := by decide +kernel
theorem dX2_copyFrom_25 : decode cX2_copyFrom 25 = .ok (.aload_n 1, 1) := by decide +kernel
theorem dX2_copyFrom_26 : decode cX2_copyFrom 26 = .ok (.getfield 21, 3) := by decide +kernel
theorem dX2_copyFrom_29 : decode cX2_copyFrom 29 = .ok (.putfield 21, 3) := by decide +kernel
theorem dX2_copyFrom_32 : decode cX2_copyFrom 32 = .ok (.iconst 0, 1) := by decide +kernel
theorem dX2_copyFrom_33 : decode cX2_copyFrom 33 = .ok (.istore_n 2, 1) := by decide +kernel
theorem dX2_copyFrom_34 : decode cX2_copyFrom 34 = .ok (.iload_n 2, 1) := by decide +kernel
theorem dX2_copyFrom_35 : decode cX2_copyFrom 35 = .ok (.bipush 8, 2) := by decide +kernel
theorem dX2_copyFrom_37 : decode cX2_copyFrom 37 = .ok (.if_icmp .ge 33, 3) := by decide +kernel
theorem dX2_copyFrom_40 : decode cX2_copyFrom 40 = .ok (.aload_n 0, 1) := by decide +kernel
theorem dX2_copyFrom_41 : decode cX2_copyFrom 41 = .ok (.getfield 24, 3) := by decide +kernel
theorem dX2_copyFrom_44 : decode cX2_copyFrom 44 = .ok (.iload_n 2, 1) := by decide +kernel
theorem dX2_copyFrom_45 : decode cX2_copyFrom 45 = .ok (.aload_n 1, 1) := by decide +kernel
theorem dX2_copyFrom_46 : decode cX2_copyFrom 46 = .ok (.getfield 24, 3) := by decide +kernel
theorem dX2_copyFrom_49 : decode cX2_copyFrom 49 = .ok (.iload_n 2, 1) := by decide +kernel
theorem dX2_copyFrom_50 : decode cX2_copyFrom 50 = .ok (.caload, 1) := by decide +kernel
theorem dX2_copyFrom_51 : decode cX2_copyFrom 51 = .ok (.castore, 1) := by decide +kernel
theorem dX2_copyFrom_52 : decode cX2_copyFrom 52 = .ok (.aload_n 0, 1) := by decide +kernel
theorem dX2_copyFrom_53 : decode cX2_copyFrom 53 = .ok (.getfield 28, 3) := by decide +kernel
theorem dX2_copyFrom_56 : decode cX2_copyFrom 56 = .ok (.iload_n 2, 1) := by decide +kernel
theorem dX2_copyFrom_57 : decode cX2_copyFrom 57 = .ok (.aload_n 1, 1) := by decide +kernel
theorem dX2_copyFrom_58 : decode cX2_copyFrom 58 = .ok (.getfield 28, 3) := by decide +kernel
theorem dX2_copyFrom_61 : decode cX2_copyFrom 61 = .ok (.iload_n 2, 1) := by decide +kernel
theorem dX2_copyFrom_62 : decode cX2_copyFrom 62 = .ok (.baload, 1) := by decide +kernel
theorem dX2_copyFrom_63 : decode cX2_copyFrom 63 = .ok (.bastore, 1) := by decide +kernel
theorem dX2_copyFrom_64 : decode cX2_copyFrom 64 = .ok (.iinc 2 1, 3) := by decide +kernel
theorem dX2_copyFrom_67 : decode cX2_copyFrom 67 = .ok (.goto (-33), 3) := by decide +kernel
theorem dX2_copyFrom_70 : decode cX2_copyFrom 70 = .ok (.return_, 1) := by decide +kernel
theorem dX3_init_0 : decode cX3_init 0 = .ok (.aload_n 0, 1) := by decide +kernel
theorem dX3_init_1 : decode cX3_init 1 = .ok (.invokespecial 3, 3) := by decide +kernel
theorem dX3_init_4 : decode cX3_init 4 = .ok (.aload_n 0, 1) := by decide +kernel
theorem dX3_init_5 : decode cX3_init 5 = .ok (.new 9, 3) := by decide +kernel
theorem dX3_init_8 : decode cX3_init 8 = .ok (.dup, 1) := by decide +kernel
theorem dX3_init_9 : decode cX3_init 9 = .ok (.invokespecial 11, 3) := by decide +kernel
theorem dX3_init_12 : decode cX3_init 12 = .ok (.putfield 12, 3) := by decide +kernel
theorem dX3_init_15 : decode cX3_init 15 = .ok (.aload_n 0, 1) := by decide +kernel
theorem dX3_init_16 : decode cX3_init 16 = .ok (.iconst 0, 1) := by decide +kernel
theorem dX3_init_17 : decode cX3_init 17 = .ok (.putfield 18, 3) := by decide +kernel
theorem dX3_init_20 : decode cX3_init 20 = .ok (.aload_n 0, 1) := by decide +kernel
theorem dX3_init_21 : decode cX3_init 21 = .ok (.iconst 0, 1) := by decide +kernel
theorem dX3_init_22 : decode cX3_init 22 = .ok (.putfield 22, 3) := by decide +kernel
theorem dX3_init_25 : decode cX3_init 25 = .ok (.aload_n 0, 1) := by decide +kernel
theorem dX3_init_26 : decode cX3_init 26 = .ok (.iconst (-1), 1) := by decide +kernel
theorem dX3_init_27 : decode cX3_init 27 = .ok (.putfield 25, 3) := by decide +kernel
theorem dX3_init_30 : decode cX3_init 30 = .ok (.aload_n 0, 1) := by decide +kernel
theorem dX3_init_31 : decode cX3_init 31 = .ok (.iconst 0, 1) := by decide +kernel
theorem dX3_init_32 : decode cX3_init 32 = .ok (.putfield 28, 3) := by decide +kernel
theorem dX3_init_35 : decode cX3_init 35 = .ok (.aload_n 0, 1) := by decide +kernel
theorem dX3_init_36 : decode cX3_init 36 = .ok (.bipush (-5), 2) := by decide +kernel
theorem dX3_init_38 : decode cX3_init 38 = .ok (.putfield 31, 3) := by decide +kernel
theorem dX3_init_41 : decode cX3_init 41 = .ok (.aload_n 0, 1) := by decide +kernel
theorem dX3_init_42 : decode cX3_init 42 = .ok (.iconst 0, 1) := by decide +kernel
theorem dX3_init_43 : decode cX3_init 43 = .ok (.putfield 34, 3) := by decide +kernel
theorem dX3_init_46 : decode cX3_init 46 = .ok (.aload_n 0, 1) := by decide +kernel
theorem dX3_init_47 : decode cX3_init 47 = .ok (.iconst 0, 1) := by decide +kernel
theorem dX3_init_48 : decode cX3_init 48 = .ok (.putfield 37, 3) := by decide +kernel
theorem dX3_init_51 : decode cX3_init 51 = .ok (.aload_n 0, 1) := by decide +kernel
theorem dX3_init_52 : decode cX3_init 52 = .ok (.iconst 0, 1) := by decide +kernel
theorem dX3_init_53 : decode cX3_init 53 = .ok (.putfield 40, 3) := by decide +kernel
theorem dX3_init_56 : decode cX3_init 56 = .ok (.aload_n 0, 1) := by decide +kernel
theorem dX3_init_57 : decode cX3_init 57 = .ok (.iconst 4, 1) := by decide +kernel
theorem dX3_init_58 : decode cX3_init 58 = .ok (.newarray .char, 2) := by decide +kernel
theorem dX3_init_60 : decode cX3_init 60 = .ok (.putfield 43, 3) := by decide +kernel
theorem dX3_init_63 : decode cX3_init 63 = .ok (.aload_n 0, 1) := by decide +kernel
theorem dX3_init_64 : decode cX3_init 64 = .ok (.iconst 4, 1) := by decide +kernel
theorem dX3_init_65 : decode cX3_init 65 = .ok (.newarray .char, 2) := by decide +kernel
theorem dX3_init_67 : decode cX3_init 67 = .ok (.putfield 47, 3) := by decide +kernel
theorem dX3_init_70 : decode cX3_init 70 = .ok (.aload_n 0, 1) := by decide +kernel
theorem dX3_init_71 : decode cX3_init 71 = .ok (.iconst 4, 1) := by decide +kernel
theorem dX3_init_72 : decode cX3_init 72 = .ok (.newarray .int, 2) := by decide +kernel
theorem dX3_init_74 : decode cX3_init 74 = .ok (.putfield 50, 3) := by decide +kernel
theorem dX3_init_77 : decode cX3_init 77 = .ok (.aload_n 0, 1) := by decide +kernel
theorem dX3_init_78 : decode cX3_init 78 = .ok (.iconst 0, 1) := by decide +kernel
theorem dX3_init_79 : decode cX3_init 79 = .ok (.putfield 54, 3) := by decide +kernel
theorem dX3_init_82 : decode cX3_init 82 = .ok (.aload_n 0, 1) := by decide +kernel
theorem dX3_init_83 : decode cX3_init 83 = .ok (.iconst 0, 1) := by decide +kernel
theorem dX3_init_84 : decode cX3_init 84 = .ok (.putfield 57, 3) := by decide +kernel
theorem dX3_init_87 : decode cX3_init 87 = .ok (.aload_n 0, 1) := by decide +kernel
theorem dX3_init_88 : decode cX3_init 88 = .ok (.iconst 0, 1) := by decide +kernel
theorem dX3_init_89 : decode cX3_init 89 = .ok (.putfield 60, 3) := by decide +kernel
theorem dX3_init_92 : decode cX3_init 92 = .ok (.aload_n 0, 1) := by decide +kernel
theorem dX3_init_93 : decode cX3_init 93 = .ok (.bipush 25, 2) := by decide +kernel
theorem dX3_init_95 : decode cX3_init 95 = .ok (.newarray .int, 2) := by decide +kernel
theorem dX3_init_97 : decode cX3_init 97 = .ok (.putfield 63, 3) := by decide +kernel
theorem dX3_init_100 : decode cX3_init 100 = .ok (.return_, 1) := by decide +kernel
theorem dX3_begin_0 : decode cX3_begin 0 = .ok (.aload_n 0, 1) := by decide +kernel
theorem dX3_begin_1 : decode cX3_begin 1 = .ok (.getfield 12, 3) := by decide +kernel
theorem dX3_begin_4 : decode cX3_begin 4 = .ok (.aload_n 1, 1) := by decide +kernel
theorem dX3_begin_5 : decode cX3_begin 5 = .ok (.invokevirtual 66, 3) := by decide +kernel
theorem dX3_begin_8 : decode cX3_begin 8 = .ok (.aload_n 0, 1) := by decide +kernel
theorem dX3_begin_9 : decode cX3_begin 9 = .ok (.aload_n 1, 1) := by decide +kernel
theorem dX3_begin_10 : decode cX3_begin 10 = .ok (.getfield 70, 3) := by decide +kernel
theorem dX3_begin_13 : decode cX3_begin 13 = .ok (.putfield 18, 3) := by decide +kernel
theorem dX3_begin_16 : decode cX3_begin 16 = .ok (.aload_n 0, 1) := by decide +kernel
theorem dX3_begin_17 : decode cX3_begin 17 = .ok (.aload_n 1, 1) := by decide +kernel
theorem dX3_begin_18 : decode cX3_begin 18 = .ok (.invokevirtual 73, 3) := by decide +kernel
theorem dX3_begin_21 : decode cX3_begin 21 = .ok (.putfield 22, 3) := by decide +kernel
theorem dX3_begin_24 : decode cX3_begin 24 = .ok (.aload_n 0, 1) := by decide +kernel
theorem dX3_begin_25 : decode cX3_begin 25 = .ok (.iconst (-1), 1) := by decide +kernel
theorem dX3_begin_26 : decode cX3_begin 26 = .ok (.putfield 25, 3) := by decide +kernel
theorem dX3_begin_29 : decode cX3_begin 29 = .ok (.aload_n 0, 1) := by decide +kernel
theorem dX3_begin_30 : decode cX3_begin 30 = .ok (.bipush (-5), 2) := by decide +kernel
theorem dX3_begin_32 : decode cX3_begin 32 = .ok (.putfield 31, 3) := by decide +kernel
theorem dX3_begin_35 : decode cX3_begin 35 = .ok (.iconst 0, 1) := by decide +kernel
theorem dX3_begin_36 : decode cX3_begin 36 = .ok (.istore_n 2, 1) := by decide +kernel
theorem dX3_begin_37 : decode cX3_begin 37 = .ok (.iload_n 2, 1) := by decide +kernel
theorem dX3_begin_38 : decode cX3_begin 38 = .ok (.bipush 25, 2) := by decide +kernel
theorem dX3_begin_40 : decode cX3_begin 40 = .ok (.if_icmp .ge 16, 3) := by decide +kernel
theorem dX3_begin_43 : decode cX3_begin 43 = .ok (.aload_n 0, 1) := by decide +kernel
theorem dX3_begin_44 : decode cX3_begin 44 = .ok (.getfield 63, 3) := by decide +kernel
theorem dX3_begin_47 : decode cX3_begin 47 = .ok (.iload_n 2, 1) := by decide +kernel
theorem dX3_begin_48 : decode cX3_begin 48 = .ok (.iconst 0, 1) := by decide +kernel
theorem dX3_begin_49 : decode cX3_begin 49 = .ok (.iastore, 1) := by decide +kernel
theorem dX3_begin_50 : decode cX3_begin 50 = .ok (.iinc 2 1, 3) := by decide +kernel
theorem dX3_begin_53 : decode cX3_begin 53 = .ok (.goto (-16), 3) := by decide +kernel
theorem dX3_begin_56 : decode cX3_begin 56 = .ok (.return_, 1) := by decide +kernel
theorem dX3_want_0 : decode cX3_want 0 = .ok (.aload_n 0, 1) := by decide +kernel
theorem dX3_want_1 : decode cX3_want 1 = .ok (.iload_n 1, 1) := by decide +kernel
theorem dX3_want_2 : decode cX3_want 2 = .ok (.putfield 25, 3) := by decide +kernel
theorem dX3_want_5 : decode cX3_want 5 = .ok (.aload_n 0, 1) := by decide +kernel
theorem dX3_want_6 : decode cX3_want 6 = .ok (.iload_n 2, 1) := by decide +kernel
theorem dX3_want_7 : decode cX3_want 7 = .ok (.putfield 28, 3) := by decide +kernel
theorem dX3_want_10 : decode cX3_want 10 = .ok (.return_, 1) := by decide +kernel
theorem dX3_runAll_0 : decode cX3_runAll 0 = .ok (.iconst 0, 1) := by decide +kernel
theorem dX3_runAll_1 : decode cX3_runAll 1 = .ok (.istore_n 2, 1) := by decide +kernel
theorem dX3_runAll_2 : decode cX3_runAll 2 = .ok (.iconst 0, 1) := by decide +kernel
theorem dX3_runAll_3 : decode cX3_runAll 3 = .ok (.istore_n 3, 1) := by decide +kernel
theorem dX3_runAll_4 : decode cX3_runAll 4 = .ok (.iload_n 3, 1) := by decide +kernel
theorem dX3_runAll_5 : decode cX3_runAll 5 = .ok (.aload_n 1, 1) := by decide +kernel
theorem dX3_runAll_6 : decode cX3_runAll 6 = .ok (.getfield 76, 3) := by decide +kernel
theorem dX3_runAll_9 : decode cX3_runAll 9 = .ok (.if_icmp .ge 26, 3) := by decide +kernel
theorem dX3_runAll_12 : decode cX3_runAll 12 = .ok (.aload_n 0, 1) := by decide +kernel
theorem dX3_runAll_13 : decode cX3_runAll 13 = .ok (.aload_n 1, 1) := by decide +kernel
theorem dX3_runAll_14 : decode cX3_runAll 14 = .ok (.getfield 79, 3) := by decide +kernel
theorem dX3_runAll_17 : decode cX3_runAll 17 = .ok (.iload_n 3, 1) := by decide +kernel
theorem dX3_runAll_18 : decode cX3_runAll 18 = .ok (.aaload, 1) := by decide +kernel
theorem dX3_runAll_19 : decode cX3_runAll 19 = .ok (.invokevirtual 83, 3) := by decide +kernel
theorem dX3_runAll_22 : decode cX3_runAll 22 = .ok (.iload_n 2, 1) := by decide +kernel
theorem dX3_runAll_23 : decode cX3_runAll 23 = .ok (.aload_n 0, 1) := by decide +kernel
theorem dX3_runAll_24 : decode cX3_runAll 24 = .ok (.getfield 54, 3) := by decide +kernel
theorem dX3_runAll_27 : decode cX3_runAll 27 = .ok (.iadd, 1) := by decide +kernel
theorem dX3_runAll_28 : decode cX3_runAll 28 = .ok (.istore_n 2, 1) := by decide +kernel
theorem dX3_runAll_29 : decode cX3_runAll 29 = .ok (.iinc 3 1, 3) := by decide +kernel
theorem dX3_runAll_32 : decode cX3_runAll 32 = .ok (.goto (-28), 3) := by decide +kernel
theorem dX3_runAll_35 : decode cX3_runAll 35 = .ok (.iload_n 2, 1) := by decide +kernel
theorem dX3_runAll_36 : decode cX3_runAll 36 = .ok (.ireturn, 1) := by decide +kernel
theorem dX3_run_0 : decode cX3_run 0 = .ok (.aload_n 0, 1) := by decide +kernel
theorem dX3_run_1 : decode cX3_run 1 = .ok (.aload_n 1, 1) := by decide +kernel
theorem dX3_run_2 : decode cX3_run 2 = .ok (.getfield 87, 3) := by decide +kernel
theorem dX3_run_5 : decode cX3_run 5 = .ok (.putfield 34, 3) := by decide +kernel
theorem dX3_run_8 : decode cX3_run 8 = .ok (.aload_n 0, 1) := by decide +kernel
theorem dX3_run_9 : decode cX3_run 9 = .ok (.aload_n 1, 1) := by decide +kernel
theorem dX3_run_10 : decode cX3_run 10 = .ok (.getfield 90, 3) := by decide +kernel
theorem dX3_run_13 : decode cX3_run 13 = .ok (.putfield 37, 3) := by decide +kernel
theorem dX3_run_16 : decode cX3_run 16 = .ok (.aload_n 0, 1) := by decide +kernel
theorem dX3_run_17 : decode cX3_run 17 = .ok (.iconst 0, 1) := by decide +kernel
theorem dX3_run_18 : decode cX3_run 18 = .ok (.putfield 54, 3) := by decide +kernel
theorem dX3_run_21 : decode cX3_run 21 = .ok (.aload_n 0, 1) := by decide +kernel
theorem dX3_run_22 : decode cX3_run 22 = .ok (.iconst 0, 1) := by decide +kernel
theorem dX3_run_23 : decode cX3_run 23 = .ok (.putfield 57, 3) := by decide +kernel
theorem dX3_run_26 : decode cX3_run 26 = .ok (.aload_n 0, 1) := by decide +kernel
theorem dX3_run_27 : decode cX3_run 27 = .ok (.iconst 0, 1) := by decide +kernel
theorem dX3_run_28 : decode cX3_run 28 = .ok (.putfield 60, 3) := by decide +kernel
theorem dX3_run_31 : decode cX3_run 31 = .ok (.aload_n 0, 1) := by decide +kernel
theorem dX3_run_32 : decode cX3_run 32 = .ok (.aload_n 1, 1) := by decide +kernel
theorem dX3_run_33 : decode cX3_run 33 = .ok (.invokevirtual 91, 3) := by decide +kernel
theorem dX3_run_36 : decode cX3_run 36 = .ok (.aload_n 0, 1) := by decide +kernel
theorem dX3_run_37 : decode cX3_run 37 = .ok (.getfield 40, 3) := by decide +kernel
theorem dX3_run_40 : decode cX3_run 40 = .ok (.ifCond .le 9, 3) := by decide +kernel
theorem dX3_run_43 : decode cX3_run 43 = .ok (.aload_n 0, 1) := by decide +kernel
theorem dX3_run_44 : decode cX3_run 44 = .ok (.iconst 0, 1) := by decide +kernel
theorem dX3_run_45 : decode cX3_run 45 = .ok (.invokestatic 94, 3) := by decide +kernel
theorem dX3_run_48 : decode cX3_run 48 = .ok (.pop, 1) := by decide +kernel
theorem dX3_run_49 : decode cX3_run 49 = .ok (.return_, 1) := by decide +kernel
theorem dX3_takePlainSteps_0 : decode cX3_takePlainSteps 0 = .ok (.aload_n 0, 1) := by decide +kernel
theorem dX3_takePlainSteps_1 : decode cX3_takePlainSteps 1 = .ok (.iconst 0, 1) := by decide +kernel
theorem dX3_takePlainSteps_2 : decode cX3_takePlainSteps 2 = .ok (.putfield 40, 3) := by decide +kernel
theorem dX3_takePlainSteps_5 : decode cX3_takePlainSteps 5 = .ok (.iconst 0, 1) := by decide +kernel
theorem dX3_takePlainSteps_6 : decode cX3_takePlainSteps 6 = .ok (.istore_n 2, 1) := by decide +kernel
theorem dX3_takePlainSteps_7 : decode cX3_takePlainSteps 7 = .ok (.iconst 0, 1) := by decide +kernel
theorem dX3_takePlainSteps_8 : decode cX3_takePlainSteps 8 = .ok (.istore_n 3, 1) := by decide +kernel
theorem dX3_takePlainSteps_9 : decode cX3_takePlainSteps 9 = .ok (.iload_n 3, 1) := by decide +kernel
theorem dX3_takePlainSteps_10 : decode cX3_takePlainSteps 10 = .ok (.aload_n 1, 1) := by decide +kernel
theorem dX3_takePlainSteps_11 : decode cX3_takePlainSteps 11 = .ok (.getfield 98, 3) := by decide +kernel
theorem dX3_takePlainSteps_14 : decode cX3_takePlainSteps 14 = .ok (.if_icmp .ge 73, 3) := by decide +kernel
theorem dX3_takePlainSteps_17 : decode cX3_takePlainSteps 17 = .ok (.aload_n 1, 1) := by decide +kernel
theorem dX3_takePlainSteps_18 : decode cX3_takePlainSteps 18 = .ok (.getfield 101, 3) := by decide +kernel
theorem dX3_takePlainSteps_21 : decode cX3_takePlainSteps 21 = .ok (.iload_n 3, 1) := by decide +kernel
theorem dX3_takePlainSteps_22 : decode cX3_takePlainSteps 22 = .ok (.baload, 1) := by decide +kernel
theorem dX3_takePlainSteps_23 : decode cX3_takePlainSteps 23 = .ok (.ifCond .eq 13, 3) := by decide +kernel
theorem dX3_takePlainSteps_26 : decode cX3_takePlainSteps 26 = .ok (.aload_n 1, 1) := by decide +kernel
theorem dX3_takePlainSteps_27 : decode cX3_takePlainSteps 27 = .ok (.getfield 105, 3) := by decide +kernel
theorem dX3_takePlainSteps_30 : decode cX3_takePlainSteps 30 = .ok (.iload_n 3, 1) := by decide +kernel
theorem dX3_takePlainSteps_31 : decode cX3_takePlainSteps 31 = .ok (.caload, 1) := by decide +kernel
theorem dX3_takePlainSteps_32 : decode cX3_takePlainSteps 32 = .ok (.istore_n 2, 1) := by decide +kernel
theorem dX3_takePlainSteps_33 : decode cX3_takePlainSteps 33 = .ok (.goto 48, 3) := by decide +kernel
theorem dX3_takePlainSteps_36 : decode cX3_takePlainSteps 36 = .ok (.aload_n 0, 1) := by decide +kernel
theorem dX3_takePlainSteps_37 : decode cX3_takePlainSteps 37 = .ok (.getfield 40, 3) := by decide +kernel
theorem dX3_takePlainSteps_40 : decode cX3_takePlainSteps 40 = .ok (.iconst 4, 1) := by decide +kernel
theorem dX3_takePlainSteps_41 : decode cX3_takePlainSteps 41 = .ok (.if_icmp .ge 40, 3) := by decide +kernel
theorem dX3_takePlainSteps_44 : decode cX3_takePlainSteps 44 = .ok (.aload_n 0, 1) := by decide +kernel
theorem dX3_takePlainSteps_45 : decode cX3_takePlainSteps 45 = .ok (.getfield 43, 3) := by decide +kernel
theorem dX3_takePlainSteps_48 : decode cX3_takePlainSteps 48 = .ok (.aload_n 0, 1) := by decide +kernel
theorem dX3_takePlainSteps_49 : decode cX3_takePlainSteps 49 = .ok (.getfield 40, 3) := by decide +kernel
theorem dX3_takePlainSteps_52 : decode cX3_takePlainSteps 52 = .ok (.aload_n 1, 1) := by decide +kernel
theorem dX3_takePlainSteps_53 : decode cX3_takePlainSteps 53 = .ok (.getfield 105, 3) := by decide +kernel
theorem dX3_takePlainSteps_56 : decode cX3_takePlainSteps 56 = .ok (.iload_n 3, 1) := by decide +kernel
theorem dX3_takePlainSteps_57 : decode cX3_takePlainSteps 57 = .ok (.caload, 1) := by decide +kernel
theorem dX3_takePlainSteps_58 : decode cX3_takePlainSteps 58 = .ok (.castore, 1) := by decide +kernel
theorem dX3_takePlainSteps_59 : decode cX3_takePlainSteps 59 = .ok (.aload_n 0, 1) := by decide +kernel
theorem dX3_takePlainSteps_60 : decode cX3_takePlainSteps 60 = .ok (.getfield 47, 3) := by decide +kernel
theorem dX3_takePlainSteps_63 : decode cX3_takePlainSteps 63 = .ok (.aload_n 0, 1) := by decide +kernel
theorem dX3_takePlainSteps_64 : decode cX3_takePlainSteps 64 = .ok (.getfield 40, 3) := by decide +kernel
theorem dX3_takePlainSteps_67 : decode cX3_takePlainSteps 67 = .ok (.iload_n 2, 1) := by decide +kernel
theorem dX3_takePlainSteps_68 : decode cX3_takePlainSteps 68 = .ok (.castore, 1) := by decide +kernel
theorem dX3_takePlainSteps_69 : decode cX3_takePlainSteps 69 = .ok (.aload_n 0, 1) := by decide +kernel
theorem dX3_takePlainSteps_70 : decode cX3_takePlainSteps 70 = .ok (.dup, 1) := by decide +kernel
theorem dX3_takePlainSteps_71 : decode cX3_takePlainSteps 71 = .ok (.getfield 40, 3) := by decide +kernel
theorem dX3_takePlainSteps_74 : decode cX3_takePlainSteps 74 = .ok (.iconst 1, 1) := by decide +kernel
theorem dX3_takePlainSteps_75 : decode cX3_takePlainSteps 75 = .ok (.iadd, 1) := by decide +kernel
theorem dX3_takePlainSteps_76 : decode cX3_takePlainSteps 76 = .ok (.putfield 40, 3) := by decide +kernel
theorem dX3_takePlainSteps_79 : decode cX3_takePlainSteps 79 = .ok (.iconst 0, 1) := by decide +kernel
theorem dX3_takePlainSteps_80 : decode cX3_takePlainSteps 80 = .ok (.istore_n 2, 1) := by decide +kernel
theorem dX3_takePlainSteps_81 : decode cX3_takePlainSteps 81 = .ok (.iinc 3 1, 3) := by decide +kernel
theorem dX3_takePlainSteps_84 : decode cX3_takePlainSteps 84 = .ok (.goto (-75), 3) := by decide +kernel
theorem dX3_takePlainSteps_87 : decode cX3_takePlainSteps 87 = .ok (.return_, 1) := by decide +kernel
theorem dX3_walkFrom_0 : decode cX3_walkFrom 0 = .ok (.iload_n 1, 1) := by decide +kernel
theorem dX3_walkFrom_1 : decode cX3_walkFrom 1 = .ok (.aload_n 0, 1) := by decide +kernel
theorem dX3_walkFrom_2 : decode cX3_walkFrom 2 = .ok (.getfield 40, 3) := by decide +kernel
theorem dX3_walkFrom_5 : decode cX3_walkFrom 5 = .ok (.if_icmp .ge 8, 3) := by decide +kernel
theorem dX3_walkFrom_8 : decode cX3_walkFrom 8 = .ok (.iload_n 1, 1) := by decide +kernel
theorem dX3_walkFrom_9 : decode cX3_walkFrom 9 = .ok (.iconst 4, 1) := by decide +kernel
theorem dX3_walkFrom_10 : decode cX3_walkFrom 10 = .ok (.if_icmp .lt 9, 3) := by decide +kernel
theorem dX3_walkFrom_13 : decode cX3_walkFrom 13 = .ok (.aload_n 0, 1) := by decide +kernel
theorem dX3_walkFrom_14 : decode cX3_walkFrom 14 = .ok (.invokevirtual 106, 3) := by decide +kernel
theorem dX3_walkFrom_17 : decode cX3_walkFrom 17 = .ok (.iconst 1, 1) := by decide +kernel
theorem dX3_walkFrom_18 : decode cX3_walkFrom 18 = .ok (.ireturn, 1) := by decide +kernel
theorem dX3_walkFrom_19 : decode cX3_walkFrom 19 = .ok (.aload_n 0, 1) := by decide +kernel
theorem dX3_walkFrom_20 : decode cX3_walkFrom 20 = .ok (.getfield 12, 3) := by decide +kernel
theorem dX3_walkFrom_23 : decode cX3_walkFrom 23 = .ok (.astore_n 2, 1) := by decide +kernel
theorem dX3_walkFrom_24 : decode cX3_walkFrom 24 = .ok (.iconst 0, 1) := by decide +kernel
theorem dX3_walkFrom_25 : decode cX3_walkFrom 25 = .ok (.istore_n 3, 1) := by decide +kernel
theorem dX3_walkFrom_26 : decode cX3_walkFrom 26 = .ok (.iload_n 1, 1) := by decide +kernel
theorem dX3_walkFrom_27 : decode cX3_walkFrom 27 = .ok (.ifCond .ne 7, 3) := by decide +kernel
theorem dX3_walkFrom_30 : decode cX3_walkFrom 30 = .ok (.iconst 0, 1) := by decide +kernel
theorem dX3_walkFrom_31 : decode cX3_walkFrom 31 = .ok (.goto 13, 3) := by decide +kernel
theorem dX3_walkFrom_34 : decode cX3_walkFrom 34 = .ok (.aload_n 0, 1) := by decide +kernel
theorem dX3_walkFrom_35 : decode cX3_walkFrom 35 = .ok (.getfield 50, 3) := by decide +kernel
theorem dX3_walkFrom_38 : decode cX3_walkFrom 38 = .ok (.iload_n 1, 1) := by decide +kernel
theorem dX3_walkFrom_39 : decode cX3_walkFrom 39 = .ok (.iconst 1, 1) := by decide +kernel
theorem dX3_walkFrom_40 : decode cX3_walkFrom 40 = .ok (.isub, 1) := by decide +kernel
theorem dX3_walkFrom_41 : decode cX3_walkFrom 41 = .ok (.iaload, 1) := by decide +kernel
theorem dX3_walkFrom_42 : decode cX3_walkFrom 42 = .ok (.iconst 1, 1) := by decide +kernel
theorem dX3_walkFrom_43 : decode cX3_walkFrom 43 = .ok (.iadd, 1) := by decide +kernel
theorem dX3_walkFrom_44 : decode cX3_walkFrom 44 = .ok (.istore 4, 2) := by decide +kernel
theorem dX3_walkFrom_46 : decode cX3_walkFrom 46 = .ok (.iload 4, 2) := by decide +kernel
theorem dX3_walkFrom_48 : decode cX3_walkFrom 48 = .ok (.istore 5, 2) := by decide +kernel
theorem dX3_walkFrom_50 : decode cX3_walkFrom 50 = .ok (.iload 5, 2) := by decide +kernel
theorem dX3_walkFrom_52 : decode cX3_walkFrom 52 = .ok (.aload_n 2, 1) := by decide +kernel
theorem dX3_walkFrom_53 : decode cX3_walkFrom 53 = .ok (.getfield 109, 3) := by decide +kernel
theorem dX3_walkFrom_56 : decode cX3_walkFrom 56 = .ok (.if_icmp .ge 87, 3) := by decide +kernel
theorem dX3_walkFrom_59 : decode cX3_walkFrom 59 = .ok (.aload_n 0, 1) := by decide +kernel
theorem dX3_walkFrom_60 : decode cX3_walkFrom 60 = .ok (.iload_n 1, 1) := by decide +kernel
theorem dX3_walkFrom_61 : decode cX3_walkFrom 61 = .ok (.iload 5, 2) := by decide +kernel
theorem dX3_walkFrom_63 : decode cX3_walkFrom 63 = .ok (.invokevirtual 112, 3) := by decide +kernel
theorem dX3_walkFrom_66 : decode cX3_walkFrom 66 = .ok (.ifCond .eq 77, 3) := by decide +kernel
theorem dX3_walkFrom_69 : decode cX3_walkFrom 69 = .ok (.aload_n 0, 1) := by decide +kernel
theorem dX3_walkFrom_70 : decode cX3_walkFrom 70 = .ok (.iload_n 1, 1) := by decide +kernel
theorem dX3_walkFrom_71 : decode cX3_walkFrom 71 = .ok (.iload 5, 2) := by decide +kernel
theorem dX3_walkFrom_73 : decode cX3_walkFrom 73 = .ok (.invokevirtual 116, 3) := by decide +kernel
theorem dX3_walkFrom_76 : decode cX3_walkFrom 76 = .ok (.ifCond .eq 42, 3) := by decide +kernel
theorem dX3_walkFrom_79 : decode cX3_walkFrom 79 = .ok (.aload_n 0, 1) := by decide +kernel
theorem dX3_walkFrom_80 : decode cX3_walkFrom 80 = .ok (.getfield 50, 3) := by decide +kernel
theorem dX3_walkFrom_83 : decode cX3_walkFrom 83 = .ok (.iload_n 1, 1) := by decide +kernel
theorem dX3_walkFrom_84 : decode cX3_walkFrom 84 = .ok (.iload 5, 2) := by decide +kernel
theorem dX3_walkFrom_86 : decode cX3_walkFrom 86 = .ok (.iastore, 1) := by decide +kernel
theorem dX3_walkFrom_87 : decode cX3_walkFrom 87 = .ok (.aload_n 0, 1) := by decide +kernel
theorem dX3_walkFrom_88 : decode cX3_walkFrom 88 = .ok (.iload_n 1, 1) := by decide +kernel
theorem dX3_walkFrom_89 : decode cX3_walkFrom 89 = .ok (.invokevirtual 119, 3) := by decide +kernel
theorem dX3_walkFrom_92 : decode cX3_walkFrom 92 = .ok (.aload_n 0, 1) := by decide +kernel
theorem dX3_walkFrom_93 : decode cX3_walkFrom 93 = .ok (.iload_n 1, 1) := by decide +kernel
theorem dX3_walkFrom_94 : decode cX3_walkFrom 94 = .ok (.iconst 1, 1) := by decide +kernel
theorem dX3_walkFrom_95 : decode cX3_walkFrom 95 = .ok (.iadd, 1) := by decide +kernel
theorem dX3_walkFrom_96 : decode cX3_walkFrom 96 = .ok (.invokestatic 94, 3) := by decide +kernel
theorem dX3_walkFrom_99 : decode cX3_walkFrom 99 = .ok (.istore 6, 2) := by decide +kernel
theorem dX3_walkFrom_101 : decode cX3_walkFrom 101 = .ok (.aload_n 0, 1) := by decide +kernel
theorem dX3_walkFrom_102 : decode cX3_walkFrom 102 = .ok (.getfield 63, 3) := by decide +kernel
theorem dX3_walkFrom_105 : decode cX3_walkFrom 105 = .ok (.iload 5, 2) := by decide +kernel
theorem dX3_walkFrom_107 : decode cX3_walkFrom 107 = .ok (.dup2, 1) := by decide +kernel
theorem dX3_walkFrom_108 : decode cX3_walkFrom 108 = .ok (.iaload, 1) := by decide +kernel
theorem dX3_walkFrom_109 : decode cX3_walkFrom 109 = .ok (.iload 6, 2) := by decide +kernel
theorem dX3_walkFrom_111 : decode cX3_walkFrom 111 = .ok (.iadd, 1) := by decide +kernel
theorem dX3_walkFrom_112 : decode cX3_walkFrom 112 = .ok (.iastore, 1) := by decide +kernel
theorem dX3_walkFrom_113 : decode cX3_walkFrom 113 = .ok (.iload_n 3, 1) := by decide +kernel
theorem dX3_walkFrom_114 : decode cX3_walkFrom 114 = .ok (.iload 6, 2) := by decide +kernel
theorem dX3_walkFrom_116 : decode cX3_walkFrom 116 = .ok (.iadd, 1) := by decide +kernel
theorem dX3_walkFrom_117 : decode cX3_walkFrom 117 = .ok (.istore_n 3, 1) := by decide +kernel
theorem dX3_walkFrom_118 : decode cX3_walkFrom 118 = .ok (.aload_n 2, 1) := by decide +kernel
theorem dX3_walkFrom_119 : decode cX3_walkFrom 119 = .ok (.getfield 123, 3) := by decide +kernel
theorem dX3_walkFrom_122 : decode cX3_walkFrom 122 = .ok (.iload 5, 2) := by decide +kernel
theorem dX3_walkFrom_124 : decode cX3_walkFrom 124 = .ok (.caload, 1) := by decide +kernel
theorem dX3_walkFrom_125 : decode cX3_walkFrom 125 = .ok (.aload_n 0, 1) := by decide +kernel
theorem dX3_walkFrom_126 : decode cX3_walkFrom 126 = .ok (.getfield 47, 3) := by decide +kernel
theorem dX3_walkFrom_129 : decode cX3_walkFrom 129 = .ok (.iload_n 1, 1) := by decide +kernel
theorem dX3_walkFrom_130 : decode cX3_walkFrom 130 = .ok (.caload, 1) := by decide +kernel
theorem dX3_walkFrom_131 : decode cX3_walkFrom 131 = .ok (.if_icmp .ne 6, 3) := by decide +kernel
theorem dX3_walkFrom_134 : decode cX3_walkFrom 134 = .ok (.goto 9, 3) := by decide +kernel
theorem dX3_walkFrom_137 : decode cX3_walkFrom 137 = .ok (.iinc 5 1, 3) := by decide +kernel
theorem dX3_walkFrom_140 : decode cX3_walkFrom 140 = .ok (.goto (-90), 3) := by decide +kernel
theorem dX3_walkFrom_143 : decode cX3_walkFrom 143 = .ok (.iload_n 3, 1) := by decide +kernel
theorem dX3_walkFrom_144 : decode cX3_walkFrom 144 = .ok (.ireturn, 1) := by decide +kernel
theorem dX3_isInWindow_0 : decode cX3_isInWindow 0 = .ok (.iload_n 1, 1) := by decide +kernel
theorem dX3_isInWindow_1 : decode cX3_isInWindow 1 = .ok (.ifCond .eq 34, 3) := by decide +kernel
theorem dX3_isInWindow_4 : decode cX3_isInWindow 4 = .ok (.aload_n 0, 1) := by decide +kernel
theorem dX3_isInWindow_5 : decode cX3_isInWindow 5 = .ok (.getfield 12, 3) := by decide +kernel
theorem dX3_isInWindow_8 : decode cX3_isInWindow 8 = .ok (.getfield 124, 3) := by decide +kernel
theorem dX3_isInWindow_11 : decode cX3_isInWindow 11 = .ok (.iload_n 2, 1) := by decide +kernel
theorem dX3_isInWindow_12 : decode cX3_isInWindow 12 = .ok (.iaload, 1) := by decide +kernel
theorem dX3_isInWindow_13 : decode cX3_isInWindow 13 = .ok (.aload_n 0, 1) := by decide +kernel
theorem dX3_isInWindow_14 : decode cX3_isInWindow 14 = .ok (.getfield 12, 3) := by decide +kernel
theorem dX3_isInWindow_17 : decode cX3_isInWindow 17 = .ok (.getfield 124, 3) := by decide +kernel
theorem dX3_isInWindow_20 : decode cX3_isInWindow 20 = .ok (.aload_n 0, 1) := by decide +kernel
theorem dX3_isInWindow_21 : decode cX3_isInWindow 21 = .ok (.getfield 50, 3) := by decide +kernel
theorem dX3_isInWindow_24 : decode cX3_isInWindow 24 = .ok (.iconst 0, 1) := by decide +kernel
theorem dX3_isInWindow_25 : decode cX3_isInWindow 25 = .ok (.iaload, 1) := by decide +kernel
theorem dX3_isInWindow_26 : decode cX3_isInWindow 26 = .ok (.iaload, 1) := by decide +kernel
theorem dX3_isInWindow_27 : decode cX3_isInWindow 27 = .ok (.aload_n 0, 1) := by decide +kernel
theorem dX3_isInWindow_28 : decode cX3_isInWindow 28 = .ok (.getfield 34, 3) := by decide +kernel
theorem dX3_isInWindow_31 : decode cX3_isInWindow 31 = .ok (.iadd, 1) := by decide +kernel
theorem dX3_isInWindow_32 : decode cX3_isInWindow 32 = .ok (.if_icmp .gt 7, 3) := by decide +kernel
theorem dX3_isInWindow_35 : decode cX3_isInWindow 35 = .ok (.iconst 1, 1) := by decide +kernel
theorem dX3_isInWindow_36 : decode cX3_isInWindow 36 = .ok (.goto 4, 3) := by decide +kernel
theorem dX3_isInWindow_39 : decode cX3_isInWindow 39 = .ok (.iconst 0, 1) := by decide +kernel
theorem dX3_isInWindow_40 : decode cX3_isInWindow 40 = .ok (.ireturn, 1) := by decide +kernel
theorem dX3_suits_0 : decode cX3_suits 0 = .ok (.aload_n 0, 1) := by decide +kernel
theorem dX3_suits_1 : decode cX3_suits 1 = .ok (.getfield 12, 3) := by decide +kernel
theorem dX3_suits_4 : decode cX3_suits 4 = .ok (.getfield 123, 3) := by decide +kernel
theorem dX3_suits_7 : decode cX3_suits 7 = .ok (.iload_n 2, 1) := by decide +kernel
theorem dX3_suits_8 : decode cX3_suits 8 = .ok (.caload, 1) := by decide +kernel
theorem dX3_suits_9 : decode cX3_suits 9 = .ok (.aload_n 0, 1) := by decide +kernel
theorem dX3_suits_10 : decode cX3_suits 10 = .ok (.getfield 43, 3) := by decide +kernel
theorem dX3_suits_13 : decode cX3_suits 13 = .ok (.iload_n 1, 1) := by decide +kernel
theorem dX3_suits_14 : decode cX3_suits 14 = .ok (.caload, 1) := by decide +kernel
theorem dX3_suits_15 : decode cX3_suits 15 = .ok (.if_icmp .eq 5, 3) := by decide +kernel
theorem dX3_suits_18 : decode cX3_suits 18 = .ok (.iconst 0, 1) := by decide +kernel
theorem dX3_suits_19 : decode cX3_suits 19 = .ok (.ireturn, 1) := by decide +kernel
theorem dX3_suits_20 : decode cX3_suits 20 = .ok (.iload_n 1, 1) := by decide +kernel
theorem dX3_suits_21 : decode cX3_suits 21 = .ok (.ifCond .eq 10, 3) := by decide +kernel
theorem dX3_suits_24 : decode cX3_suits 24 = .ok (.aload_n 0, 1) := by decide +kernel
theorem dX3_suits_25 : decode cX3_suits 25 = .ok (.getfield 37, 3) := by decide +kernel
theorem dX3_suits_28 : decode cX3_suits 28 = .ok (.ifCond .ne 5, 3) := by decide +kernel
theorem dX3_suits_31 : decode cX3_suits 31 = .ok (.iconst 1, 1) := by decide +kernel
theorem dX3_suits_32 : decode cX3_suits 32 = .ok (.ireturn, 1) := by decide +kernel
theorem dX3_suits_33 : decode cX3_suits 33 = .ok (.aload_n 0, 1) := by decide +kernel
theorem dX3_suits_34 : decode cX3_suits 34 = .ok (.getfield 12, 3) := by decide +kernel
theorem dX3_suits_37 : decode cX3_suits 37 = .ok (.getfield 127, 3) := by decide +kernel
theorem dX3_suits_40 : decode cX3_suits 40 = .ok (.aload_n 0, 1) := by decide +kernel
theorem dX3_suits_41 : decode cX3_suits 41 = .ok (.getfield 50, 3) := by decide +kernel
theorem dX3_suits_44 : decode cX3_suits 44 = .ok (.iload_n 1, 1) := by decide +kernel
theorem dX3_suits_45 : decode cX3_suits 45 = .ok (.iconst 1, 1) := by decide +kernel
theorem dX3_suits_46 : decode cX3_suits 46 = .ok (.isub, 1) := by decide +kernel
theorem dX3_suits_47 : decode cX3_suits 47 = .ok (.iaload, 1) := by decide +kernel
theorem dX3_suits_48 : decode cX3_suits 48 = .ok (.iaload, 1) := by decide +kernel
theorem dX3_suits_49 : decode cX3_suits 49 = .ok (.istore_n 3, 1) := by decide +kernel
theorem dX3_suits_50 : decode cX3_suits 50 = .ok (.aload_n 0, 1) := by decide +kernel
theorem dX3_suits_51 : decode cX3_suits 51 = .ok (.getfield 37, 3) := by decide +kernel
theorem dX3_suits_54 : decode cX3_suits 54 = .ok (.iconst 1, 1) := by decide +kernel
theorem dX3_suits_55 : decode cX3_suits 55 = .ok (.if_icmp .ne 24, 3) := by decide +kernel
theorem dX3_suits_58 : decode cX3_suits 58 = .ok (.aload_n 0, 1) := by decide +kernel
theorem dX3_suits_59 : decode cX3_suits 59 = .ok (.getfield 12, 3) := by decide +kernel
theorem dX3_suits_62 : decode cX3_suits 62 = .ok (.getfield 127, 3) := by decide +kernel
theorem dX3_suits_65 : decode cX3_suits 65 = .ok (.iload_n 2, 1) := by decide +kernel
theorem dX3_suits_66 : decode cX3_suits 66 = .ok (.iaload, 1) := by decide +kernel
theorem dX3_suits_67 : decode cX3_suits 67 = .ok (.iload_n 3, 1) := by decide +kernel
theorem dX3_suits_68 : decode cX3_suits 68 = .ok (.if_icmp .le 7, 3) := by decide +kernel
theorem dX3_suits_71 : decode cX3_suits 71 = .ok (.iconst 1, 1) := by decide +kernel
theorem dX3_suits_72 : decode cX3_suits 72 = .ok (.goto 25, 3) := by decide +kernel
theorem dX3_suits_75 : decode cX3_suits 75 = .ok (.iconst 0, 1) := by decide +kernel
theorem dX3_suits_76 : decode cX3_suits 76 = .ok (.goto 21, 3) := by decide +kernel
theorem dX3_suits_79 : decode cX3_suits 79 = .ok (.aload_n 0, 1) := by decide +kernel
theorem dX3_suits_80 : decode cX3_suits 80 = .ok (.getfield 12, 3) := by decide +kernel
theorem dX3_suits_83 : decode cX3_suits 83 = .ok (.getfield 127, 3) := by decide +kernel
theorem dX3_suits_86 : decode cX3_suits 86 = .ok (.iload_n 2, 1) := by decide +kernel
theorem dX3_suits_87 : decode cX3_suits 87 = .ok (.iaload, 1) := by decide +kernel
theorem dX3_suits_88 : decode cX3_suits 88 = .ok (.iload_n 3, 1) := by decide +kernel
theorem dX3_suits_89 : decode cX3_suits 89 = .ok (.if_icmp .ne 7, 3) := by decide +kernel
theorem dX3_suits_92 : decode cX3_suits 92 = .ok (.iconst 1, 1) := by decide +kernel
theorem dX3_suits_93 : decode cX3_suits 93 = .ok (.goto 4, 3) := by decide +kernel
theorem dX3_suits_96 : decode cX3_suits 96 = .ok (.iconst 0, 1) := by decide +kernel
theorem dX3_suits_97 : decode cX3_suits 97 = .ok (.ireturn, 1) := by decide +kernel
theorem dX3_tellBranch_0 : decode cX3_tellBranch 0 = .ok (.iload_n 1, 1) := by decide +kernel
theorem dX3_tellBranch_1 : decode cX3_tellBranch 1 = .ok (.iconst 1, 1) := by decide +kernel
theorem dX3_tellBranch_2 : decode cX3_tellBranch 2 = .ok (.iadd, 1) := by decide +kernel
theorem dX3_tellBranch_3 : decode cX3_tellBranch 3 = .ok (.aload_n 0, 1) := by decide +kernel
theorem dX3_tellBranch_4 : decode cX3_tellBranch 4 = .ok (.getfield 40, 3) := by decide +kernel
theorem dX3_tellBranch_7 : decode cX3_tellBranch 7 = .ok (.if_icmp .ge 39, 3) := by decide +kernel
theorem dX3_tellBranch_10 : decode cX3_tellBranch 10 = .ok (.aload_n 0, 1) := by decide +kernel
theorem dX3_tellBranch_11 : decode cX3_tellBranch 11 = .ok (.getfield 12, 3) := by decide +kernel
theorem dX3_tellBranch_14 : decode cX3_tellBranch 14 = .ok (.getfield 124, 3) := by decide +kernel
theorem dX3_tellBranch_17 : decode cX3_tellBranch 17 = .ok (.aload_n 0, 1) := by decide +kernel
theorem dX3_tellBranch_18 : decode cX3_tellBranch 18 = .ok (.getfield 50, 3) := by decide +kernel
theorem dX3_tellBranch_21 : decode cX3_tellBranch 21 = .ok (.iconst 0, 1) := by decide +kernel
theorem dX3_tellBranch_22 : decode cX3_tellBranch 22 = .ok (.iaload, 1) := by decide +kernel
theorem dX3_tellBranch_23 : decode cX3_tellBranch 23 = .ok (.iaload, 1) := by decide +kernel
theorem dX3_tellBranch_24 : decode cX3_tellBranch 24 = .ok (.aload_n 0, 1) := by decide +kernel
theorem dX3_tellBranch_25 : decode cX3_tellBranch 25 = .ok (.getfield 34, 3) := by decide +kernel
theorem dX3_tellBranch_28 : decode cX3_tellBranch 28 = .ok (.iadd, 1) := by decide +kernel
theorem dX3_tellBranch_29 : decode cX3_tellBranch 29 = .ok (.aload_n 0, 1) := by decide +kernel
theorem dX3_tellBranch_30 : decode cX3_tellBranch 30 = .ok (.getfield 18, 3) := by decide +kernel
theorem dX3_tellBranch_33 : decode cX3_tellBranch 33 = .ok (.if_icmp .lt 13, 3) := by decide +kernel
theorem dX3_tellBranch_36 : decode cX3_tellBranch 36 = .ok (.aload_n 0, 1) := by decide +kernel
theorem dX3_tellBranch_37 : decode cX3_tellBranch 37 = .ok (.dup, 1) := by decide +kernel
theorem dX3_tellBranch_38 : decode cX3_tellBranch 38 = .ok (.getfield 60, 3) := by decide +kernel
theorem dX3_tellBranch_41 : decode cX3_tellBranch 41 = .ok (.iconst 1, 1) := by decide +kernel
theorem dX3_tellBranch_42 : decode cX3_tellBranch 42 = .ok (.iadd, 1) := by decide +kernel
theorem dX3_tellBranch_43 : decode cX3_tellBranch 43 = .ok (.putfield 60, 3) := by decide +kernel
theorem dX3_tellBranch_46 : decode cX3_tellBranch 46 = .ok (.return_, 1) := by decide +kernel
theorem dX3_tellMatch_0 : decode cX3_tellMatch 0 = .ok (.aload_n 0, 1) := by decide +kernel
theorem dX3_tellMatch_1 : decode cX3_tellMatch 1 = .ok (.getfield 12, 3) := by decide +kernel
theorem dX3_tellMatch_4 : decode cX3_tellMatch 4 = .ok (.getfield 124, 3) := by decide +kernel
theorem dX3_tellMatch_7 : decode cX3_tellMatch 7 = .ok (.aload_n 0, 1) := by decide +kernel
theorem dX3_tellMatch_8 : decode cX3_tellMatch 8 = .ok (.getfield 50, 3) := by decide +kernel
theorem dX3_tellMatch_11 : decode cX3_tellMatch 11 = .ok (.aload_n 0, 1) := by decide +kernel
theorem dX3_tellMatch_12 : decode cX3_tellMatch 12 = .ok (.getfield 40, 3) := by decide +kernel
theorem dX3_tellMatch_15 : decode cX3_tellMatch 15 = .ok (.iconst 1, 1) := by decide +kernel
theorem dX3_tellMatch_16 : decode cX3_tellMatch 16 = .ok (.isub, 1) := by decide +kernel
theorem dX3_tellMatch_17 : decode cX3_tellMatch 17 = .ok (.iaload, 1) := by decide +kernel
theorem dX3_tellMatch_18 : decode cX3_tellMatch 18 = .ok (.iaload, 1) := by decide +kernel
theorem dX3_tellMatch_19 : decode cX3_tellMatch 19 = .ok (.aload_n 0, 1) := by decide +kernel
theorem dX3_tellMatch_20 : decode cX3_tellMatch 20 = .ok (.getfield 22, 3) := by decide +kernel
theorem dX3_tellMatch_23 : decode cX3_tellMatch 23 = .ok (.if_icmp .gt 13, 3) := by decide +kernel
theorem dX3_tellMatch_26 : decode cX3_tellMatch 26 = .ok (.aload_n 0, 1) := by decide +kernel
theorem dX3_tellMatch_27 : decode cX3_tellMatch 27 = .ok (.dup, 1) := by decide +kernel
theorem dX3_tellMatch_28 : decode cX3_tellMatch 28 = .ok (.getfield 57, 3) := by decide +kernel
theorem dX3_tellMatch_31 : decode cX3_tellMatch 31 = .ok (.iconst 1, 1) := by decide +kernel
theorem dX3_tellMatch_32 : decode cX3_tellMatch 32 = .ok (.iadd, 1) := by decide +kernel
theorem dX3_tellMatch_33 : decode cX3_tellMatch 33 = .ok (.putfield 57, 3) := by decide +kernel
theorem dX3_tellMatch_36 : decode cX3_tellMatch 36 = .ok (.aload_n 0, 1) := by decide +kernel
theorem dX3_tellMatch_37 : decode cX3_tellMatch 37 = .ok (.getfield 54, 3) := by decide +kernel
theorem dX3_tellMatch_40 : decode cX3_tellMatch 40 = .ok (.aload_n 0, 1) := by decide +kernel
theorem dX3_tellMatch_41 : decode cX3_tellMatch 41 = .ok (.getfield 25, 3) := by decide +kernel
theorem dX3_tellMatch_44 : decode cX3_tellMatch 44 = .ok (.if_icmp .ne 24, 3) := by decide +kernel
theorem dX3_tellMatch_47 : decode cX3_tellMatch 47 = .ok (.aload_n 0, 1) := by decide +kernel
theorem dX3_tellMatch_48 : decode cX3_tellMatch 48 = .ok (.aload_n 0, 1) := by decide +kernel
theorem dX3_tellMatch_49 : decode cX3_tellMatch 49 = .ok (.getfield 12, 3) := by decide +kernel
theorem dX3_tellMatch_52 : decode cX3_tellMatch 52 = .ok (.getfield 130, 3) := by decide +kernel
theorem dX3_tellMatch_55 : decode cX3_tellMatch 55 = .ok (.aload_n 0, 1) := by decide +kernel
theorem dX3_tellMatch_56 : decode cX3_tellMatch 56 = .ok (.getfield 50, 3) := by decide +kernel
theorem dX3_tellMatch_59 : decode cX3_tellMatch 59 = .ok (.aload_n 0, 1) := by decide +kernel
theorem dX3_tellMatch_60 : decode cX3_tellMatch 60 = .ok (.getfield 28, 3) := by decide +kernel
theorem dX3_tellMatch_63 : decode cX3_tellMatch 63 = .ok (.iaload, 1) := by decide +kernel
theorem dX3_tellMatch_64 : decode cX3_tellMatch 64 = .ok (.iaload, 1) := by decide +kernel
theorem dX3_tellMatch_65 : decode cX3_tellMatch 65 = .ok (.putfield 31, 3) := by decide +kernel
theorem dX3_tellMatch_68 : decode cX3_tellMatch 68 = .ok (.aload_n 0, 1) := by decide +kernel
theorem dX3_tellMatch_69 : decode cX3_tellMatch 69 = .ok (.dup, 1) := by decide +kernel
theorem dX3_tellMatch_70 : decode cX3_tellMatch 70 = .ok (.getfield 54, 3) := by decide +kernel
theorem dX3_tellMatch_73 : decode cX3_tellMatch 73 = .ok (.iconst 1, 1) := by decide +kernel
theorem dX3_tellMatch_74 : decode cX3_tellMatch 74 = .ok (.iadd, 1) := by decide +kernel
theorem dX3_tellMatch_75 : decode cX3_tellMatch 75 = .ok (.putfield 54, 3) := by decide +kernel
theorem dX3_tellMatch_78 : decode cX3_tellMatch 78 = .ok (.return_, 1) := by decide +kernel
theorem dX3_shareOf_0 : decode cX3_shareOf 0 = .ok (.aload_n 0, 1) := by decide +kernel
theorem dX3_shareOf_1 : decode cX3_shareOf 1 = .ok (.getfield 63, 3) := by decide +kernel
theorem dX3_shareOf_4 : decode cX3_shareOf 4 = .ok (.aload_n 0, 1) := by decide +kernel
theorem dX3_shareOf_5 : decode cX3_shareOf 5 = .ok (.getfield 12, 3) := by decide +kernel
theorem dX3_shareOf_8 : decode cX3_shareOf 8 = .ok (.iload_n 1, 1) := by decide +kernel
theorem dX3_shareOf_9 : decode cX3_shareOf 9 = .ok (.invokevirtual 133, 3) := by decide +kernel
theorem dX3_shareOf_12 : decode cX3_shareOf 12 = .ok (.iaload, 1) := by decide +kernel
theorem dX3_shareOf_13 : decode cX3_shareOf 13 = .ok (.ireturn, 1) := by decide +kernel
theorem dX3_placesWithoutShare_0 : decode cX3_placesWithoutShare 0 = .ok (.iconst 0, 1) := by decide +kernel
theorem dX3_placesWithoutShare_1 : decode cX3_placesWithoutShare 1 = .ok (.istore_n 1, 1) := by decide +kernel
theorem dX3_placesWithoutShare_2 : decode cX3_placesWithoutShare 2 = .ok (.iconst 0, 1) := by decide +kernel
theorem dX3_placesWithoutShare_3 : decode cX3_placesWithoutShare 3 = .ok (.istore_n 2, 1) := by decide +kernel
theorem dX3_placesWithoutShare_4 : decode cX3_placesWithoutShare 4 = .ok (.iload_n 2, 1) := by decide +kernel
theorem dX3_placesWithoutShare_5 : decode cX3_placesWithoutShare 5 = .ok (.aload_n 0, 1) := by decide +kernel
theorem dX3_placesWithoutShare_6 : decode cX3_placesWithoutShare 6 = .ok (.getfield 12, 3) := by decide +kernel
theorem dX3_placesWithoutShare_9 : decode cX3_placesWithoutShare 9 = .ok (.getfield 109, 3) := by decide +kernel
theorem dX3_placesWithoutShare_12 : decode cX3_placesWithoutShare 12 = .ok (.if_icmp .ge 21, 3) := by decide +kernel
theorem dX3_placesWithoutShare_15 : decode cX3_placesWithoutShare 15 = .ok (.aload_n 0, 1) := by decide +kernel
theorem dX3_placesWithoutShare_16 : decode cX3_placesWithoutShare 16 = .ok (.getfield 63, 3) := by decide +kernel
theorem dX3_placesWithoutShare_19 : decode cX3_placesWithoutShare 19 = .ok (.iload_n 2, 1) := by decide +kernel
theorem dX3_placesWithoutShare_20 : decode cX3_placesWithoutShare 20 = .ok (.iaload, 1) := by decide +kernel
theorem dX3_placesWithoutShare_21 : decode cX3_placesWithoutShare 21 = .ok (.ifCond .ne 6, 3) := by decide +kernel
theorem dX3_placesWithoutShare_24 : decode cX3_placesWithoutShare 24 = .ok (.iinc 1 1, 3) := by decide +kernel
theorem dX3_placesWithoutShare_27 : decode cX3_placesWithoutShare 27 = .ok (.iinc 2 1, 3) := by decide +kernel
theorem dX3_placesWithoutShare_30 : decode cX3_placesWithoutShare 30 = .ok (.goto (-26), 3) := by decide +kernel
theorem dX3_placesWithoutShare_33 : decode cX3_placesWithoutShare 33 = .ok (.iload_n 1, 1) := by decide +kernel
theorem dX3_placesWithoutShare_34 : decode cX3_placesWithoutShare 34 = .ok (.ireturn, 1) := by decide +kernel
theorem dX4_init_0 : decode cX4_init 0 = .ok (.aload_n 0, 1) := by decide +kernel
theorem dX4_init_1 : decode cX4_init 1 = .ok (.invokespecial 3, 3) := by decide +kernel
theorem dX4_init_4 : decode cX4_init 4 = .ok (.aload_n 0, 1) := by decide +kernel
theorem dX4_init_5 : decode cX4_init 5 = .ok (.iconst 0, 1) := by decide +kernel
theorem dX4_init_6 : decode cX4_init 6 = .ok (.putfield 9, 3) := by decide +kernel
theorem dX4_init_9 : decode cX4_init 9 = .ok (.aload_n 0, 1) := by decide +kernel
theorem dX4_init_10 : decode cX4_init 10 = .ok (.bipush 24, 2) := by decide +kernel
theorem dX4_init_12 : decode cX4_init 12 = .ok (.newarray .char, 2) := by decide +kernel
theorem dX4_init_14 : decode cX4_init 14 = .ok (.putfield 15, 3) := by decide +kernel
theorem dX4_init_17 : decode cX4_init 17 = .ok (.aload_n 0, 1) := by decide +kernel
theorem dX4_init_18 : decode cX4_init 18 = .ok (.bipush 24, 2) := by decide +kernel
theorem dX4_init_20 : decode cX4_init 20 = .ok (.newarray .int, 2) := by decide +kernel
theorem dX4_init_22 : decode cX4_init 22 = .ok (.putfield 19, 3) := by decide +kernel
theorem dX4_init_25 : decode cX4_init 25 = .ok (.aload_n 0, 1) := by decide +kernel
theorem dX4_init_26 : decode cX4_init 26 = .ok (.bipush 24, 2) := by decide +kernel
theorem dX4_init_28 : decode cX4_init 28 = .ok (.newarray .int, 2) := by decide +kernel
theorem dX4_init_30 : decode cX4_init 30 = .ok (.putfield 23, 3) := by decide +kernel
theorem dX4_init_33 : decode cX4_init 33 = .ok (.aload_n 0, 1) := by decide +kernel
theorem dX4_init_34 : decode cX4_init 34 = .ok (.iconst 0, 1) := by decide +kernel
theorem dX4_init_35 : decode cX4_init 35 = .ok (.putfield 26, 3) := by decide +kernel
theorem dX4_init_38 : decode cX4_init 38 = .ok (.aload_n 0, 1) := by decide +kernel
theorem dX4_init_39 : decode cX4_init 39 = .ok (.bipush 20, 2) := by decide +kernel
theorem dX4_init_41 : decode cX4_init 41 = .ok (.putfield 29, 3) := by decide +kernel
theorem dX4_init_44 : decode cX4_init 44 = .ok (.aload_n 0, 1) := by decide +kernel
theorem dX4_init_45 : decode cX4_init 45 = .ok (.iconst 0, 1) := by decide +kernel
theorem dX4_init_46 : decode cX4_init 46 = .ok (.putfield 32, 3) := by decide +kernel
theorem dX4_init_49 : decode cX4_init 49 = .ok (.aload_n 0, 1) := by decide +kernel
theorem dX4_init_50 : decode cX4_init 50 = .ok (.iconst 4, 1) := by decide +kernel
theorem dX4_init_51 : decode cX4_init 51 = .ok (.anewarray 35, 3) := by decide +kernel
theorem dX4_init_54 : decode cX4_init 54 = .ok (.putfield 37, 3) := by decide +kernel
theorem dX4_init_57 : decode cX4_init 57 = .ok (.iconst 0, 1) := by decide +kernel
theorem dX4_init_58 : decode cX4_init 58 = .ok (.istore_n 1, 1) := by decide +kernel
theorem dX4_init_59 : decode cX4_init 59 = .ok (.iload_n 1, 1) := by decide +kernel
theorem dX4_init_60 : decode cX4_init 60 = .ok (.iconst 4, 1) := by decide +kernel
theorem dX4_init_61 : decode cX4_init 61 = .ok (.if_icmp .ge 22, 3) := by decide +kernel
theorem dX4_init_64 : decode cX4_init 64 = .ok (.aload_n 0, 1) := by decide +kernel
theorem dX4_init_65 : decode cX4_init 65 = .ok (.getfield 37, 3) := by decide +kernel
theorem dX4_init_68 : decode cX4_init 68 = .ok (.iload_n 1, 1) := by decide +kernel
theorem dX4_init_69 : decode cX4_init 69 = .ok (.new 35, 3) := by decide +kernel
theorem dX4_init_72 : decode cX4_init 72 = .ok (.dup, 1) := by decide +kernel
theorem dX4_init_73 : decode cX4_init 73 = .ok (.invokespecial 41, 3) := by decide +kernel
theorem dX4_init_76 : decode cX4_init 76 = .ok (.aastore, 1) := by decide +kernel
theorem dX4_init_77 : decode cX4_init 77 = .ok (.iinc 1 1, 3) := by decide +kernel
theorem dX4_init_80 : decode cX4_init 80 = .ok (.goto (-21), 3) := by decide +kernel
theorem dX4_init_83 : decode cX4_init 83 = .ok (.return_, 1) := by decide +kernel
theorem dX4_copyFrom_0 : decode cX4_copyFrom 0 = .ok (.aload_n 0, 1) := by decide +kernel
theorem dX4_copyFrom_1 : decode cX4_copyFrom 1 = .ok (.aload_n 1, 1) := by decide +kernel
theorem dX4_copyFrom_2 : decode cX4_copyFrom 2 = .ok (.getfield 9, 3) := by decide +kernel
theorem dX4_copyFrom_5 : decode cX4_copyFrom 5 = .ok (.putfield 9, 3) := by decide +kernel
theorem dX4_copyFrom_8 : decode cX4_copyFrom 8 = .ok (.iconst 0, 1) := by decide +kernel
theorem dX4_copyFrom_9 : decode cX4_copyFrom 9 = .ok (.istore_n 2, 1) := by decide +kernel
theorem dX4_copyFrom_10 : decode cX4_copyFrom 10 = .ok (.iload_n 2, 1) := by decide +kernel
theorem dX4_copyFrom_11 : decode cX4_copyFrom 11 = .ok (.aload_n 1, 1) := by decide +kernel
theorem dX4_copyFrom_12 : decode cX4_copyFrom 12 = .ok (.getfield 9, 3) := by decide +kernel
theorem dX4_copyFrom_15 : decode cX4_copyFrom 15 = .ok (.if_icmp .ge 45, 3) := by decide +kernel
theorem dX4_copyFrom_18 : decode cX4_copyFrom 18 = .ok (.aload_n 0, 1) := by decide +kernel
theorem dX4_copyFrom_19 : decode cX4_copyFrom 19 = .ok (.getfield 15, 3) := by decide +kernel
theorem dX4_copyFrom_22 : decode cX4_copyFrom 22 = .ok (.iload_n 2, 1) := by decide +kernel
theorem dX4_copyFrom_23 : decode cX4_copyFrom 23 = .ok (.aload_n 1, 1) := by decide +kernel
theorem dX4_copyFrom_24 : decode cX4_copyFrom 24 = .ok (.getfield 15, 3) := by decide +kernel
theorem dX4_copyFrom_27 : decode cX4_copyFrom 27 = .ok (.iload_n 2, 1) := by decide +kernel
theorem dX4_copyFrom_28 : decode cX4_copyFrom 28 = .ok (.caload, 1) := by decide +kernel
theorem dX4_copyFrom_29 : decode cX4_copyFrom 29 = .ok (.castore, 1) := by decide +kernel
theorem dX4_copyFrom_30 : decode cX4_copyFrom 30 = .ok (.aload_n 0, 1) := by decide +kernel
theorem dX4_copyFrom_31 : decode cX4_copyFrom 31 = .ok (.getfield 19, 3) := by decide +kernel
theorem dX4_copyFrom_34 : decode cX4_copyFrom 34 = .ok (.iload_n 2, 1) := by decide +kernel
theorem dX4_copyFrom_35 : decode cX4_copyFrom 35 = .ok (.aload_n 1, 1) := by decide +kernel
theorem dX4_copyFrom_36 : decode cX4_copyFrom 36 = .ok (.getfield 19, 3) := by decide +kernel
theorem dX4_copyFrom_39 : decode cX4_copyFrom 39 = .ok (.iload_n 2, 1) := by decide +kernel
theorem dX4_copyFrom_40 : decode cX4_copyFrom 40 = .ok (.iaload, 1) := by decide +kernel
theorem dX4_copyFrom_41 : decode cX4_copyFrom 41 = .ok (.iastore, 1) := by decide +kernel
theorem dX4_copyFrom_42 : decode cX4_copyFrom 42 = .ok (.aload_n 0, 1) := by decide +kernel
theorem dX4_copyFrom_43 : decode cX4_copyFrom 43 = .ok (.getfield 23, 3) := by decide +kernel
theorem dX4_copyFrom_46 : decode cX4_copyFrom 46 = .ok (.iload_n 2, 1) := by decide +kernel
theorem dX4_copyFrom_47 : decode cX4_copyFrom 47 = .ok (.aload_n 1, 1) := by decide +kernel
theorem dX4_copyFrom_48 : decode cX4_copyFrom 48 = .ok (.getfield 23, 3) := by decide +kernel
theorem dX4_copyFrom_51 : decode cX4_copyFrom 51 = .ok (.iload_n 2, 1) := by decide +kernel
theorem dX4_copyFrom_52 : decode cX4_copyFrom 52 = .ok (.iaload, 1) := by decide +kernel
theorem dX4_copyFrom_53 : decode cX4_copyFrom 53 = .ok (.iastore, 1) := by decide +kernel
theorem dX4_copyFrom_54 : decode cX4_copyFrom 54 = .ok (.iinc 2 1, 3) := by decide +kernel
theorem dX4_copyFrom_57 : decode cX4_copyFrom 57 = .ok (.goto (-47), 3) := by decide +kernel
theorem dX4_copyFrom_60 : decode cX4_copyFrom 60 = .ok (.aload_n 0, 1) := by decide +kernel
theorem dX4_copyFrom_61 : decode cX4_copyFrom 61 = .ok (.aload_n 1, 1) := by decide +kernel
theorem dX4_copyFrom_62 : decode cX4_copyFrom 62 = .ok (.getfield 26, 3) := by decide +kernel
theorem dX4_copyFrom_65 : decode cX4_copyFrom 65 = .ok (.putfield 26, 3) := by decide +kernel
theorem dX4_copyFrom_68 : decode cX4_copyFrom 68 = .ok (.aload_n 0, 1) := by decide +kernel
theorem dX4_copyFrom_69 : decode cX4_copyFrom 69 = .ok (.aload_n 1, 1) := by decide +kernel
theorem dX4_copyFrom_70 : decode cX4_copyFrom 70 = .ok (.getfield 29, 3) := by decide +kernel
theorem dX4_copyFrom_73 : decode cX4_copyFrom 73 = .ok (.putfield 29, 3) := by decide +kernel
theorem dX4_copyFrom_76 : decode cX4_copyFrom 76 = .ok (.aload_n 0, 1) := by decide +kernel
theorem dX4_copyFrom_77 : decode cX4_copyFrom 77 = .ok (.aload_n 1, 1) := by decide +kernel
theorem dX4_copyFrom_78 : decode cX4_copyFrom 78 = .ok (.getfield 32, 3) := by decide +kernel
theorem dX4_copyFrom_81 : decode cX4_copyFrom 81 = .ok (.putfield 32, 3) := by decide +kernel
theorem dX4_copyFrom_84 : decode cX4_copyFrom 84 = .ok (.iconst 0, 1) := by decide +kernel
theorem dX4_copyFrom_85 : decode cX4_copyFrom 85 = .ok (.istore_n 2, 1) := by decide +kernel
theorem dX4_copyFrom_86 : decode cX4_copyFrom 86 = .ok (.iload_n 2, 1) := by decide +kernel
theorem dX4_copyFrom_87 : decode cX4_copyFrom 87 = .ok (.aload_n 1, 1) := by decide +kernel
theorem dX4_copyFrom_88 : decode cX4_copyFrom 88 = .ok (.getfield 32, 3) := by decide +kernel
theorem dX4_copyFrom_91 : decode cX4_copyFrom 91 = .ok (.if_icmp .ge 24, 3) := by decide +kernel
theorem dX4_copyFrom_94 : decode cX4_copyFrom 94 = .ok (.aload_n 0, 1) := by decide +kernel
theorem dX4_copyFrom_95 : decode cX4_copyFrom 95 = .ok (.getfield 37, 3) := by decide +kernel
theorem dX4_copyFrom_98 : decode cX4_copyFrom 98 = .ok (.iload_n 2, 1) := by decide +kernel
theorem dX4_copyFrom_99 : decode cX4_copyFrom 99 = .ok (.aaload, 1) := by decide +kernel
theorem dX4_copyFrom_100 : decode cX4_copyFrom 100 = .ok (.aload_n 1, 1) := by decide +kernel
theorem dX4_copyFrom_101 : decode cX4_copyFrom 101 = .ok (.getfield 37, 3) := by decide +kernel
theorem dX4_copyFrom_104 : decode cX4_copyFrom 104 = .ok (.iload_n 2, 1) := by decide +kernel
theorem dX4_copyFrom_105 : decode cX4_copyFrom 105 = .ok (.aaload, 1) := by decide +kernel
theorem dX4_copyFrom_106 : decode cX4_copyFrom 106 = .ok (.invokevirtual 42, 3) := by decide +kernel
theorem dX4_copyFrom_109 : decode cX4_copyFrom 109 = .ok (.iinc 2 1, 3) := by decide +kernel
theorem dX4_copyFrom_112 : decode cX4_copyFrom 112 = .ok (.goto (-26), 3) := by decide +kernel
theorem dX4_copyFrom_115 : decode cX4_copyFrom 115 = .ok (.return_, 1) := by decide +kernel
theorem dX4_watermark_0 : decode cX4_watermark 0 = .ok (.iconst 0, 1) := by decide +kernel
theorem dX4_watermark_1 : decode cX4_watermark 1 = .ok (.aload_n 0, 1) := by decide +kernel
theorem dX4_watermark_2 : decode cX4_watermark 2 = .ok (.getfield 26, 3) := by decide +kernel
theorem dX4_watermark_5 : decode cX4_watermark 5 = .ok (.aload_n 0, 1) := by decide +kernel
theorem dX4_watermark_6 : decode cX4_watermark 6 = .ok (.getfield 29, 3) := by decide +kernel
theorem dX4_watermark_9 : decode cX4_watermark 9 = .ok (.isub, 1) := by decide +kernel
theorem dX4_watermark_10 : decode cX4_watermark 10 = .ok (.invokestatic 46, 3) := by decide +kernel
theorem dX4_watermark_13 : decode cX4_watermark 13 = .ok (.ireturn, 1) := by decide +kernel
theorem dX4_addEvent_0 : decode cX4_addEvent 0 = .ok (.aload_n 0, 1) := by decide +kernel
theorem dX4_addEvent_1 : decode cX4_addEvent 1 = .ok (.getfield 9, 3) := by decide +kernel
theorem dX4_addEvent_4 : decode cX4_addEvent 4 = .ok (.bipush 24, 2) := by decide +kernel
theorem dX4_addEvent_6 : decode cX4_addEvent 6 = .ok (.if_icmp .lt 6, 3) := by decide +kernel
theorem dX4_addEvent_9 : decode cX4_addEvent 9 = .ok (.bipush (-3), 2) := by decide +kernel
theorem dX4_addEvent_11 : decode cX4_addEvent 11 = .ok (.ireturn, 1) := by decide +kernel
theorem dX4_addEvent_12 : decode cX4_addEvent 12 = .ok (.aload_n 0, 1) := by decide +kernel
theorem dX4_addEvent_13 : decode cX4_addEvent 13 = .ok (.getfield 9, 3) := by decide +kernel
theorem dX4_addEvent_16 : decode cX4_addEvent 16 = .ok (.istore 4, 2) := by decide +kernel
theorem dX4_addEvent_18 : decode cX4_addEvent 18 = .ok (.aload_n 0, 1) := by decide +kernel
theorem dX4_addEvent_19 : decode cX4_addEvent 19 = .ok (.iload 4, 2) := by decide +kernel
theorem dX4_addEvent_21 : decode cX4_addEvent 21 = .ok (.iload_n 1, 1) := by decide +kernel
theorem dX4_addEvent_22 : decode cX4_addEvent 22 = .ok (.iload_n 2, 1) := by decide +kernel
theorem dX4_addEvent_23 : decode cX4_addEvent 23 = .ok (.iload_n 3, 1) := by decide +kernel
theorem dX4_addEvent_24 : decode cX4_addEvent 24 = .ok (.invokevirtual 52, 3) := by decide +kernel
theorem dX4_addEvent_27 : decode cX4_addEvent 27 = .ok (.aload_n 0, 1) := by decide +kernel
theorem dX4_addEvent_28 : decode cX4_addEvent 28 = .ok (.dup, 1) := by decide +kernel
theorem dX4_addEvent_29 : decode cX4_addEvent 29 = .ok (.getfield 9, 3) := by decide +kernel
theorem dX4_addEvent_32 : decode cX4_addEvent 32 = .ok (.iconst 1, 1) := by decide +kernel
theorem dX4_addEvent_33 : decode cX4_addEvent 33 = .ok (.iadd, 1) := by decide +kernel
theorem dX4_addEvent_34 : decode cX4_addEvent 34 = .ok (.putfield 9, 3) := by decide +kernel
theorem dX4_addEvent_37 : decode cX4_addEvent 37 = .ok (.aload_n 0, 1) := by decide +kernel
theorem dX4_addEvent_38 : decode cX4_addEvent 38 = .ok (.aload_n 0, 1) := by decide +kernel
theorem dX4_addEvent_39 : decode cX4_addEvent 39 = .ok (.getfield 26, 3) := by decide +kernel
theorem dX4_addEvent_42 : decode cX4_addEvent 42 = .ok (.iload_n 3, 1) := by decide +kernel
theorem dX4_addEvent_43 : decode cX4_addEvent 43 = .ok (.invokestatic 46, 3) := by decide +kernel
theorem dX4_addEvent_46 : decode cX4_addEvent 46 = .ok (.putfield 26, 3) := by decide +kernel
theorem dX4_addEvent_49 : decode cX4_addEvent 49 = .ok (.iload 4, 2) := by decide +kernel
theorem dX4_addEvent_51 : decode cX4_addEvent 51 = .ok (.ireturn, 1) := by decide +kernel
theorem dX4_putEvent_0 : decode cX4_putEvent 0 = .ok (.aload_n 0, 1) := by decide +kernel
theorem dX4_putEvent_1 : decode cX4_putEvent 1 = .ok (.getfield 15, 3) := by decide +kernel
theorem dX4_putEvent_4 : decode cX4_putEvent 4 = .ok (.iload_n 1, 1) := by decide +kernel
theorem dX4_putEvent_5 : decode cX4_putEvent 5 = .ok (.iload_n 2, 1) := by decide +kernel
theorem dX4_putEvent_6 : decode cX4_putEvent 6 = .ok (.castore, 1) := by decide +kernel
theorem dX4_putEvent_7 : decode cX4_putEvent 7 = .ok (.aload_n 0, 1) := by decide +kernel
theorem dX4_putEvent_8 : decode cX4_putEvent 8 = .ok (.getfield 19, 3) := by decide +kernel
theorem dX4_putEvent_11 : decode cX4_putEvent 11 = .ok (.iload_n 1, 1) := by decide +kernel
theorem dX4_putEvent_12 : decode cX4_putEvent 12 = .ok (.iload_n 3, 1) := by decide +kernel
theorem dX4_putEvent_13 : decode cX4_putEvent 13 = .ok (.iastore, 1) := by decide +kernel
theorem dX4_putEvent_14 : decode cX4_putEvent 14 = .ok (.aload_n 0, 1) := by decide +kernel
theorem dX4_putEvent_15 : decode cX4_putEvent 15 = .ok (.getfield 23, 3) := by decide +kernel
theorem dX4_putEvent_18 : decode cX4_putEvent 18 = .ok (.iload_n 1, 1) := by decide +kernel
theorem dX4_putEvent_19 : decode cX4_putEvent 19 = .ok (.iload 4, 2) := by decide +kernel
theorem dX4_putEvent_21 : decode cX4_putEvent 21 = .ok (.iastore, 1) := by decide +kernel
theorem dX4_putEvent_22 : decode cX4_putEvent 22 = .ok (.return_, 1) := by decide +kernel
theorem dX4_eventsAheadOf_0 : decode cX4_eventsAheadOf 0 = .ok (.iconst 0, 1) := by decide +kernel
theorem dX4_eventsAheadOf_1 : decode cX4_eventsAheadOf 1 = .ok (.istore_n 2, 1) := by decide +kernel
theorem dX4_eventsAheadOf_2 : decode cX4_eventsAheadOf 2 = .ok (.iconst 0, 1) := by decide +kernel
theorem dX4_eventsAheadOf_3 : decode cX4_eventsAheadOf 3 = .ok (.istore_n 3, 1) := by decide +kernel
theorem dX4_eventsAheadOf_4 : decode cX4_eventsAheadOf 4 = .ok (.iload_n 3, 1) := by decide +kernel
theorem dX4_eventsAheadOf_5 : decode cX4_eventsAheadOf 5 = .ok (.aload_n 0, 1) := by decide +kernel
theorem dX4_eventsAheadOf_6 : decode cX4_eventsAheadOf 6 = .ok (.getfield 9, 3) := by decide +kernel
theorem dX4_eventsAheadOf_9 : decode cX4_eventsAheadOf 9 = .ok (.if_icmp .ge 22, 3) := by decide +kernel
theorem dX4_eventsAheadOf_12 : decode cX4_eventsAheadOf 12 = .ok (.aload_n 0, 1) := by decide +kernel
theorem dX4_eventsAheadOf_13 : decode cX4_eventsAheadOf 13 = .ok (.getfield 23, 3) := by decide +kernel
theorem dX4_eventsAheadOf_16 : decode cX4_eventsAheadOf 16 = .ok (.iload_n 3, 1) := by decide +kernel
theorem dX4_eventsAheadOf_17 : decode cX4_eventsAheadOf 17 = .ok (.iaload, 1) := by decide +kernel
theorem dX4_eventsAheadOf_18 : decode cX4_eventsAheadOf 18 = .ok (.iload_n 1, 1) := by decide +kernel
theorem dX4_eventsAheadOf_19 : decode cX4_eventsAheadOf 19 = .ok (.if_icmp .ge 6, 3) := by decide +kernel
theorem dX4_eventsAheadOf_22 : decode cX4_eventsAheadOf 22 = .ok (.iinc 2 1, 3) := by decide +kernel
theorem dX4_eventsAheadOf_25 : decode cX4_eventsAheadOf 25 = .ok (.iinc 3 1, 3) := by decide +kernel
theorem dX4_eventsAheadOf_28 : decode cX4_eventsAheadOf 28 = .ok (.goto (-24), 3) := by decide +kernel
theorem dX4_eventsAheadOf_31 : decode cX4_eventsAheadOf 31 = .ok (.iload_n 2, 1) := by decide +kernel
theorem dX4_eventsAheadOf_32 : decode cX4_eventsAheadOf 32 = .ok (.ireturn, 1) := by decide +kernel
theorem dX4_removeEventsAheadOf_0 : decode cX4_removeEventsAheadOf 0 = .ok (.iconst 0, 1) := by decide +kernel
theorem dX4_removeEventsAheadOf_1 : decode cX4_removeEventsAheadOf 1 = .ok (.istore_n 2, 1) := by decide +kernel
theorem dX4_removeEventsAheadOf_2 : decode cX4_removeEventsAheadOf 2 = .ok (.iconst 0, 1) := by decide +kernel
theorem dX4_removeEventsAheadOf_3 : decode cX4_removeEventsAheadOf 3 = .ok (.istore_n 3, 1) := by decide +kernel
theorem dX4_removeEventsAheadOf_4 : decode cX4_removeEventsAheadOf 4 = .ok (.iload_n 3, 1) := by decide +kernel
theorem dX4_removeEventsAheadOf_5 : decode cX4_removeEventsAheadOf 5 = .ok (.aload_n 0, 1) := by decide +kernel
theorem dX4_removeEventsAheadOf_6 : decode cX4_removeEventsAheadOf 6 = .ok (.getfield 9, 3) := by decide +kernel
theorem dX4_removeEventsAheadOf_9 : decode cX4_removeEventsAheadOf 9 = .ok (.if_icmp .ge 45, 3) := by decide +kernel
theorem dX4_removeEventsAheadOf_12 : decode cX4_removeEventsAheadOf 12 = .ok (.aload_n 0, 1) := by decide +kernel
theorem dX4_removeEventsAheadOf_13 : decode cX4_removeEventsAheadOf 13 = .ok (.getfield 23, 3) := by decide +kernel
theorem dX4_removeEventsAheadOf_16 : decode cX4_removeEventsAheadOf 16 = .ok (.iload_n 3, 1) := by decide +kernel
theorem dX4_removeEventsAheadOf_17 : decode cX4_removeEventsAheadOf 17 = .ok (.iaload, 1) := by decide +kernel
theorem dX4_removeEventsAheadOf_18 : decode cX4_removeEventsAheadOf 18 = .ok (.iload_n 1, 1) := by decide +kernel
theorem dX4_removeEventsAheadOf_19 : decode cX4_removeEventsAheadOf 19 = .ok (.if_icmp .lt 29, 3) := by decide +kernel
theorem dX4_removeEventsAheadOf_22 : decode cX4_removeEventsAheadOf 22 = .ok (.aload_n 0, 1) := by decide +kernel
theorem dX4_removeEventsAheadOf_23 : decode cX4_removeEventsAheadOf 23 = .ok (.iload_n 2, 1) := by decide +kernel
theorem dX4_removeEventsAheadOf_24 : decode cX4_removeEventsAheadOf 24 = .ok (.aload_n 0, 1) := by decide +kernel
theorem dX4_removeEventsAheadOf_25 : decode cX4_removeEventsAheadOf 25 = .ok (.getfield 15, 3) := by decide +kernel
theorem dX4_removeEventsAheadOf_28 : decode cX4_removeEventsAheadOf 28 = .ok (.iload_n 3, 1) := by decide +kernel
theorem dX4_removeEventsAheadOf_29 : decode cX4_removeEventsAheadOf 29 = .ok (.caload, 1) := by decide +kernel
theorem dX4_removeEventsAheadOf_30 : decode cX4_removeEventsAheadOf 30 = .ok (.aload_n 0, 1) := by decide +kernel
theorem dX4_removeEventsAheadOf_31 : decode cX4_removeEventsAheadOf 31 = .ok (.getfield 19, 3) := by decide +kernel
theorem dX4_removeEventsAheadOf_34 : decode cX4_removeEventsAheadOf 34 = .ok (.iload_n 3, 1) := by decide +kernel
theorem dX4_removeEventsAheadOf_35 : decode cX4_removeEventsAheadOf 35 = .ok (.iaload, 1) := by decide +kernel
theorem dX4_removeEventsAheadOf_36 : decode cX4_removeEventsAheadOf 36 = .ok (.aload_n 0, 1) := by decide +kernel
theorem dX4_removeEventsAheadOf_37 : decode cX4_removeEventsAheadOf 37 = .ok (.getfield 23, 3) := by decide +kernel
theorem dX4_removeEventsAheadOf_40 : decode cX4_removeEventsAheadOf 40 = .ok (.iload_n 3, 1) := by decide +kernel
theorem dX4_removeEventsAheadOf_41 : decode cX4_removeEventsAheadOf 41 = .ok (.iaload, 1) := by decide +kernel
theorem dX4_removeEventsAheadOf_42 : decode cX4_removeEventsAheadOf 42 = .ok (.invokevirtual 52, 3) := by decide +kernel
theorem dX4_removeEventsAheadOf_45 : decode cX4_removeEventsAheadOf 45 = .ok (.iinc 2 1, 3) := by decide +kernel
theorem dX4_removeEventsAheadOf_48 : decode cX4_removeEventsAheadOf 48 = .ok (.iinc 3 1, 3) := by decide +kernel
theorem dX4_removeEventsAheadOf_51 : decode cX4_removeEventsAheadOf 51 = .ok (.goto (-47), 3) := by decide +kernel
theorem dX4_removeEventsAheadOf_54 : decode cX4_removeEventsAheadOf 54 = .ok (.aload_n 0, 1) := by decide +kernel
theorem dX4_removeEventsAheadOf_55 : decode cX4_removeEventsAheadOf 55 = .ok (.iload_n 2, 1) := by decide +kernel
theorem dX4_removeEventsAheadOf_56 : decode cX4_removeEventsAheadOf 56 = .ok (.putfield 9, 3) := by decide +kernel
theorem dX4_removeEventsAheadOf_59 : decode cX4_removeEventsAheadOf 59 = .ok (.return_, 1) := by decide +kernel
theorem dX4_addCopyOf_0 : decode cX4_addCopyOf 0 = .ok (.aload_n 0, 1) := by decide +kernel
theorem dX4_addCopyOf_1 : decode cX4_addCopyOf 1 = .ok (.getfield 32, 3) := by decide +kernel
theorem dX4_addCopyOf_4 : decode cX4_addCopyOf 4 = .ok (.iconst 4, 1) := by decide +kernel
theorem dX4_addCopyOf_5 : decode cX4_addCopyOf 5 = .ok (.if_icmp .lt 6, 3) := by decide +kernel
theorem dX4_addCopyOf_8 : decode cX4_addCopyOf 8 = .ok (.bipush (-3), 2) := by decide +kernel
theorem dX4_addCopyOf_10 : decode cX4_addCopyOf 10 = .ok (.ireturn, 1) := by decide +kernel
theorem dX4_addCopyOf_11 : decode cX4_addCopyOf 11 = .ok (.aload_n 0, 1) := by decide +kernel
theorem dX4_addCopyOf_12 : decode cX4_addCopyOf 12 = .ok (.getfield 32, 3) := by decide +kernel
theorem dX4_addCopyOf_15 : decode cX4_addCopyOf 15 = .ok (.istore_n 2, 1) := by decide +kernel
theorem dX4_addCopyOf_16 : decode cX4_addCopyOf 16 = .ok (.aload_n 0, 1) := by decide +kernel
theorem dX4_addCopyOf_17 : decode cX4_addCopyOf 17 = .ok (.getfield 37, 3) := by decide +kernel
theorem dX4_addCopyOf_20 : decode cX4_addCopyOf 20 = .ok (.iload_n 2, 1) := by decide +kernel
theorem dX4_addCopyOf_21 : decode cX4_addCopyOf 21 = .ok (.aaload, 1) := by decide +kernel
theorem dX4_addCopyOf_22 : decode cX4_addCopyOf 22 = .ok (.aload_n 1, 1) := by decide +kernel
theorem dX4_addCopyOf_23 : decode cX4_addCopyOf 23 = .ok (.invokevirtual 42, 3) := by decide +kernel
theorem dX4_addCopyOf_26 : decode cX4_addCopyOf 26 = .ok (.aload_n 0, 1) := by decide +kernel
theorem dX4_addCopyOf_27 : decode cX4_addCopyOf 27 = .ok (.dup, 1) := by decide +kernel
theorem dX4_addCopyOf_28 : decode cX4_addCopyOf 28 = .ok (.getfield 32, 3) := by decide +kernel
theorem dX4_addCopyOf_31 : decode cX4_addCopyOf 31 = .ok (.iconst 1, 1) := by decide +kernel
theorem dX4_addCopyOf_32 : decode cX4_addCopyOf 32 = .ok (.iadd, 1) := by decide +kernel
theorem dX4_addCopyOf_33 : decode cX4_addCopyOf 33 = .ok (.putfield 32, 3) := by decide +kernel
theorem dX4_addCopyOf_36 : decode cX4_addCopyOf 36 = .ok (.iload_n 2, 1) := by decide +kernel
theorem dX4_addCopyOf_37 : decode cX4_addCopyOf 37 = .ok (.ireturn, 1) := by decide +kernel
theorem dX4_removePattern_0 : decode cX4_removePattern 0 = .ok (.iload_n 1, 1) := by decide +kernel
theorem dX4_removePattern_1 : decode cX4_removePattern 1 = .ok (.istore_n 2, 1) := by decide +kernel
theorem dX4_removePattern_2 : decode cX4_removePattern 2 = .ok (.iload_n 2, 1) := by decide +kernel
theorem dX4_removePattern_3 : decode cX4_removePattern 3 = .ok (.iconst 1, 1) := by decide +kernel
theorem dX4_removePattern_4 : decode cX4_removePattern 4 = .ok (.iadd, 1) := by decide +kernel
theorem dX4_removePattern_5 : decode cX4_removePattern 5 = .ok (.aload_n 0, 1) := by decide +kernel
theorem dX4_removePattern_6 : decode cX4_removePattern 6 = .ok (.getfield 32, 3) := by decide +kernel
theorem dX4_removePattern_9 : decode cX4_removePattern 9 = .ok (.if_icmp .ge 26, 3) := by decide +kernel
theorem dX4_removePattern_12 : decode cX4_removePattern 12 = .ok (.aload_n 0, 1) := by decide +kernel
theorem dX4_removePattern_13 : decode cX4_removePattern 13 = .ok (.getfield 37, 3) := by decide +kernel
theorem dX4_removePattern_16 : decode cX4_removePattern 16 = .ok (.iload_n 2, 1) := by decide +kernel
theorem dX4_removePattern_17 : decode cX4_removePattern 17 = .ok (.aaload, 1) := by decide +kernel
theorem dX4_removePattern_18 : decode cX4_removePattern 18 = .ok (.aload_n 0, 1) := by decide +kernel
theorem dX4_removePattern_19 : decode cX4_removePattern 19 = .ok (.getfield 37, 3) := by decide +kernel
theorem dX4_removePattern_22 : decode cX4_removePattern 22 = .ok (.iload_n 2, 1) := by decide +kernel
theorem dX4_removePattern_23 : decode cX4_removePattern 23 = .ok (.iconst 1, 1) := by decide +kernel
theorem dX4_removePattern_24 : decode cX4_removePattern 24 = .ok (.iadd, 1) := by decide +kernel
theorem dX4_removePattern_25 : decode cX4_removePattern 25 = .ok (.aaload, 1) := by decide +kernel
theorem dX4_removePattern_26 : decode cX4_removePattern 26 = .ok (.invokevirtual 42, 3) := by decide +kernel
theorem dX4_removePattern_29 : decode cX4_removePattern 29 = .ok (.iinc 2 1, 3) := by decide +kernel
theorem dX4_removePattern_32 : decode cX4_removePattern 32 = .ok (.goto (-30), 3) := by decide +kernel
theorem dX4_removePattern_35 : decode cX4_removePattern 35 = .ok (.aload_n 0, 1) := by decide +kernel
theorem dX4_removePattern_36 : decode cX4_removePattern 36 = .ok (.dup, 1) := by decide +kernel
theorem dX4_removePattern_37 : decode cX4_removePattern 37 = .ok (.getfield 32, 3) := by decide +kernel
theorem dX4_removePattern_40 : decode cX4_removePattern 40 = .ok (.iconst 1, 1) := by decide +kernel
theorem dX4_removePattern_41 : decode cX4_removePattern 41 = .ok (.isub, 1) := by decide +kernel
theorem dX4_removePattern_42 : decode cX4_removePattern 42 = .ok (.putfield 32, 3) := by decide +kernel
theorem dX4_removePattern_45 : decode cX4_removePattern 45 = .ok (.aload_n 0, 1) := by decide +kernel
theorem dX4_removePattern_46 : decode cX4_removePattern 46 = .ok (.getfield 32, 3) := by decide +kernel
theorem dX4_removePattern_49 : decode cX4_removePattern 49 = .ok (.ireturn, 1) := by decide +kernel
theorem dX5_init_0 : decode cX5_init 0 = .ok (.aload_n 0, 1) := by decide +kernel
theorem dX5_init_1 : decode cX5_init 1 = .ok (.invokespecial 3, 3) := by decide +kernel
theorem dX5_init_4 : decode cX5_init 4 = .ok (.aload_n 0, 1) := by decide +kernel
theorem dX5_init_5 : decode cX5_init 5 = .ok (.bipush 80, 2) := by decide +kernel
theorem dX5_init_7 : decode cX5_init 7 = .ok (.newarray .char, 2) := by decide +kernel
theorem dX5_init_9 : decode cX5_init 9 = .ok (.putfield 9, 3) := by decide +kernel
theorem dX5_init_12 : decode cX5_init 12 = .ok (.aload_n 0, 1) := by decide +kernel
theorem dX5_init_13 : decode cX5_init 13 = .ok (.iconst 0, 1) := by decide +kernel
theorem dX5_init_14 : decode cX5_init 14 = .ok (.putfield 15, 3) := by decide +kernel
theorem dX5_init_17 : decode cX5_init 17 = .ok (.aload_n 0, 1) := by decide +kernel
theorem dX5_init_18 : decode cX5_init 18 = .ok (.iconst 0, 1) := by decide +kernel
theorem dX5_init_19 : decode cX5_init 19 = .ok (.putfield 19, 3) := by decide +kernel
theorem dX5_init_22 : decode cX5_init 22 = .ok (.return_, 1) := by decide +kernel
theorem dX5_append_0 : decode cX5_append 0 = .ok (.aload_n 0, 1) := by decide +kernel
theorem dX5_append_1 : decode cX5_append 1 = .ok (.getfield 15, 3) := by decide +kernel
theorem dX5_append_4 : decode cX5_append 4 = .ok (.bipush 80, 2) := by decide +kernel
theorem dX5_append_6 : decode cX5_append 6 = .ok (.if_icmp .lt 6, 3) := by decide +kernel
theorem dX5_append_9 : decode cX5_append 9 = .ok (.bipush (-3), 2) := by decide +kernel
theorem dX5_append_11 : decode cX5_append 11 = .ok (.ireturn, 1) := by decide +kernel
theorem dX5_append_12 : decode cX5_append 12 = .ok (.aload_n 0, 1) := by decide +kernel
theorem dX5_append_13 : decode cX5_append 13 = .ok (.getfield 9, 3) := by decide +kernel
theorem dX5_append_16 : decode cX5_append 16 = .ok (.aload_n 0, 1) := by decide +kernel
theorem dX5_append_17 : decode cX5_append 17 = .ok (.getfield 15, 3) := by decide +kernel
theorem dX5_append_20 : decode cX5_append 20 = .ok (.iload_n 1, 1) := by decide +kernel
theorem dX5_append_21 : decode cX5_append 21 = .ok (.castore, 1) := by decide +kernel
theorem dX5_append_22 : decode cX5_append 22 = .ok (.aload_n 0, 1) := by decide +kernel
theorem dX5_append_23 : decode cX5_append 23 = .ok (.dup, 1) := by decide +kernel
theorem dX5_append_24 : decode cX5_append 24 = .ok (.getfield 15, 3) := by decide +kernel
theorem dX5_append_27 : decode cX5_append 27 = .ok (.iconst 1, 1) := by decide +kernel
theorem dX5_append_28 : decode cX5_append 28 = .ok (.iadd, 1) := by decide +kernel
theorem dX5_append_29 : decode cX5_append 29 = .ok (.putfield 15, 3) := by decide +kernel
theorem dX5_append_32 : decode cX5_append 32 = .ok (.aload_n 0, 1) := by decide +kernel
theorem dX5_append_33 : decode cX5_append 33 = .ok (.getfield 15, 3) := by decide +kernel
theorem dX5_append_36 : decode cX5_append 36 = .ok (.ireturn, 1) := by decide +kernel
theorem dX5_readInto_0 : decode cX5_readInto 0 = .ok (.aload_n 0, 1) := by decide +kernel
theorem dX5_readInto_1 : decode cX5_readInto 1 = .ok (.iconst 0, 1) := by decide +kernel
theorem dX5_readInto_2 : decode cX5_readInto 2 = .ok (.putfield 19, 3) := by decide +kernel
theorem dX5_readInto_5 : decode cX5_readInto 5 = .ok (.aload_n 1, 1) := by decide +kernel
theorem dX5_readInto_6 : decode cX5_readInto 6 = .ok (.invokevirtual 22, 3) := by decide +kernel
theorem dX5_readInto_9 : decode cX5_readInto 9 = .ok (.aload_n 0, 1) := by decide +kernel
theorem dX5_readInto_10 : decode cX5_readInto 10 = .ok (.ldc 27, 2) := by decide +kernel
theorem dX5_readInto_12 : decode cX5_readInto 12 = .ok (.invokevirtual 29, 3) := by decide +kernel
theorem dX5_readInto_15 : decode cX5_readInto 15 = .ok (.ifCond .eq 40, 3) := by decide +kernel
theorem dX5_readInto_18 : decode cX5_readInto 18 = .ok (.aload_n 0, 1) := by decide +kernel
theorem dX5_readInto_19 : decode cX5_readInto 19 = .ok (.aload_n 1, 1) := by decide +kernel
theorem dX5_readInto_20 : decode cX5_readInto 20 = .ok (.invokevirtual 33, 3) := by decide +kernel
theorem dX5_readInto_23 : decode cX5_readInto 23 = .ok (.ifCond .eq 32, 3) := by decide +kernel
theorem dX5_readInto_26 : decode cX5_readInto 26 = .ok (.aload_n 0, 1) := by decide +kernel
theorem dX5_readInto_27 : decode cX5_readInto 27 = .ok (.ldc 37, 2) := by decide +kernel
theorem dX5_readInto_29 : decode cX5_readInto 29 = .ok (.invokevirtual 29, 3) := by decide +kernel
theorem dX5_readInto_32 : decode cX5_readInto 32 = .ok (.ifCond .eq 23, 3) := by decide +kernel
theorem dX5_readInto_35 : decode cX5_readInto 35 = .ok (.aload_n 0, 1) := by decide +kernel
theorem dX5_readInto_36 : decode cX5_readInto 36 = .ok (.aload_n 1, 1) := by decide +kernel
theorem dX5_readInto_37 : decode cX5_readInto 37 = .ok (.invokevirtual 39, 3) := by decide +kernel
theorem dX5_readInto_40 : decode cX5_readInto 40 = .ok (.ifCond .eq 15, 3) := by decide +kernel
theorem dX5_readInto_43 : decode cX5_readInto 43 = .ok (.aload_n 0, 1) := by decide +kernel
theorem dX5_readInto_44 : decode cX5_readInto 44 = .ok (.aload_n 1, 1) := by decide +kernel
theorem dX5_readInto_45 : decode cX5_readInto 45 = .ok (.invokevirtual 42, 3) := by decide +kernel
theorem dX5_readInto_48 : decode cX5_readInto 48 = .ok (.ifCond .eq 7, 3) := by decide +kernel
theorem dX5_readInto_51 : decode cX5_readInto 51 = .ok (.iconst 1, 1) := by decide +kernel
theorem dX5_readInto_52 : decode cX5_readInto 52 = .ok (.goto 4, 3) := by decide +kernel
theorem dX5_readInto_55 : decode cX5_readInto 55 = .ok (.iconst 0, 1) := by decide +kernel
theorem dX5_readInto_56 : decode cX5_readInto 56 = .ok (.istore_n 2, 1) := by decide +kernel
theorem dX5_readInto_57 : decode cX5_readInto 57 = .ok (.iload_n 2, 1) := by decide +kernel
theorem dX5_readInto_58 : decode cX5_readInto 58 = .ok (.ifCond .eq 7, 3) := by decide +kernel
theorem dX5_readInto_61 : decode cX5_readInto 61 = .ok (.iconst (-1), 1) := by decide +kernel
theorem dX5_readInto_62 : decode cX5_readInto 62 = .ok (.goto 7, 3) := by decide +kernel
theorem dX5_readInto_65 : decode cX5_readInto 65 = .ok (.aload_n 0, 1) := by decide +kernel
theorem dX5_readInto_66 : decode cX5_readInto 66 = .ok (.getfield 19, 3) := by decide +kernel
theorem dX5_readInto_69 : decode cX5_readInto 69 = .ok (.ireturn, 1) := by decide +kernel
theorem dX5_next_0 : decode cX5_next 0 = .ok (.aload_n 0, 1) := by decide +kernel
theorem dX5_next_1 : decode cX5_next 1 = .ok (.getfield 19, 3) := by decide +kernel
theorem dX5_next_4 : decode cX5_next 4 = .ok (.aload_n 0, 1) := by decide +kernel
theorem dX5_next_5 : decode cX5_next 5 = .ok (.getfield 15, 3) := by decide +kernel
theorem dX5_next_8 : decode cX5_next 8 = .ok (.if_icmp .ge 15, 3) := by decide +kernel
theorem dX5_next_11 : decode cX5_next 11 = .ok (.aload_n 0, 1) := by decide +kernel
theorem dX5_next_12 : decode cX5_next 12 = .ok (.getfield 9, 3) := by decide +kernel
theorem dX5_next_15 : decode cX5_next 15 = .ok (.aload_n 0, 1) := by decide +kernel
theorem dX5_next_16 : decode cX5_next 16 = .ok (.getfield 19, 3) := by decide +kernel
theorem dX5_next_19 : decode cX5_next 19 = .ok (.caload, 1) := by decide +kernel
theorem dX5_next_20 : decode cX5_next 20 = .ok (.goto 4, 3) := by decide +kernel
theorem dX5_next_23 : decode cX5_next 23 = .ok (.iconst 0, 1) := by decide +kernel
theorem dX5_next_24 : decode cX5_next 24 = .ok (.ireturn, 1) := by decide +kernel
theorem dX5_takesWord_0 : decode cX5_takesWord 0 = .ok (.iconst 0, 1) := by decide +kernel
theorem dX5_takesWord_1 : decode cX5_takesWord 1 = .ok (.istore_n 2, 1) := by decide +kernel
theorem dX5_takesWord_2 : decode cX5_takesWord 2 = .ok (.iload_n 2, 1) := by decide +kernel
theorem dX5_takesWord_3 : decode cX5_takesWord 3 = .ok (.aload_n 1, 1) := by decide +kernel
theorem dX5_takesWord_4 : decode cX5_takesWord 4 = .ok (.invokevirtual 45, 3) := by decide +kernel
theorem dX5_takesWord_7 : decode cX5_takesWord 7 = .ok (.if_icmp .ge 49, 3) := by decide +kernel
theorem dX5_takesWord_10 : decode cX5_takesWord 10 = .ok (.aload_n 0, 1) := by decide +kernel
theorem dX5_takesWord_11 : decode cX5_takesWord 11 = .ok (.getfield 19, 3) := by decide +kernel
theorem dX5_takesWord_14 : decode cX5_takesWord 14 = .ok (.aload_n 0, 1) := by decide +kernel
theorem dX5_takesWord_15 : decode cX5_takesWord 15 = .ok (.getfield 15, 3) := by decide +kernel
theorem dX5_takesWord_18 : decode cX5_takesWord 18 = .ok (.if_icmp .ge 20, 3) := by decide +kernel
theorem dX5_takesWord_21 : decode cX5_takesWord 21 = .ok (.aload_n 0, 1) := by decide +kernel
theorem dX5_takesWord_22 : decode cX5_takesWord 22 = .ok (.getfield 9, 3) := by decide +kernel
theorem dX5_takesWord_25 : decode cX5_takesWord 25 = .ok (.aload_n 0, 1) := by decide +kernel
theorem dX5_takesWord_26 : decode cX5_takesWord 26 = .ok (.getfield 19, 3) := by decide +kernel
theorem dX5_takesWord_29 : decode cX5_takesWord 29 = .ok (.caload, 1) := by decide +kernel
theorem dX5_takesWord_30 : decode cX5_takesWord 30 = .ok (.aload_n 1, 1) := by decide +kernel
theorem dX5_takesWord_31 : decode cX5_takesWord 31 = .ok (.iload_n 2, 1) := by decide +kernel
theorem dX5_takesWord_32 : decode cX5_takesWord 32 = .ok (.invokevirtual 50, 3) := by decide +kernel
theorem dX5_takesWord_35 : decode cX5_takesWord 35 = .ok (.if_icmp .eq 5, 3) := by decide +kernel
theorem dX5_takesWord_38 : decode cX5_takesWord 38 = .ok (.iconst 0, 1) := by decide +kernel
theorem dX5_takesWord_39 : decode cX5_takesWord 39 = .ok (.ireturn, 1) := by decide +kernel
theorem dX5_takesWord_40 : decode cX5_takesWord 40 = .ok (.aload_n 0, 1) := by decide +kernel
theorem dX5_takesWord_41 : decode cX5_takesWord 41 = .ok (.dup, 1) := by decide +kernel
theorem dX5_takesWord_42 : decode cX5_takesWord 42 = .ok (.getfield 19, 3) := by decide +kernel
theorem dX5_takesWord_45 : decode cX5_takesWord 45 = .ok (.iconst 1, 1) := by decide +kernel
theorem dX5_takesWord_46 : decode cX5_takesWord 46 = .ok (.iadd, 1) := by decide +kernel
theorem dX5_takesWord_47 : decode cX5_takesWord 47 = .ok (.putfield 19, 3) := by decide +kernel
theorem dX5_takesWord_50 : decode cX5_takesWord 50 = .ok (.iinc 2 1, 3) := by decide +kernel
theorem dX5_takesWord_53 : decode cX5_takesWord 53 = .ok (.goto (-51), 3) := by decide +kernel
theorem dX5_takesWord_56 : decode cX5_takesWord 56 = .ok (.iconst 1, 1) := by decide +kernel
theorem dX5_takesWord_57 : decode cX5_takesWord 57 = .ok (.ireturn, 1) := by decide +kernel
theorem dX5_takesWindow_0 : decode cX5_takesWindow 0 = .ok (.iconst 0, 1) := by decide +kernel
theorem dX5_takesWindow_1 : decode cX5_takesWindow 1 = .ok (.istore_n 2, 1) := by decide +kernel
theorem dX5_takesWindow_2 : decode cX5_takesWindow 2 = .ok (.aload_n 0, 1) := by decide +kernel
theorem dX5_takesWindow_3 : decode cX5_takesWindow 3 = .ok (.getfield 19, 3) := by decide +kernel
theorem dX5_takesWindow_6 : decode cX5_takesWindow 6 = .ok (.aload_n 0, 1) := by decide +kernel
theorem dX5_takesWindow_7 : decode cX5_takesWindow 7 = .ok (.getfield 15, 3) := by decide +kernel
theorem dX5_takesWindow_10 : decode cX5_takesWindow 10 = .ok (.if_icmp .ge 68, 3) := by decide +kernel
theorem dX5_takesWindow_13 : decode cX5_takesWindow 13 = .ok (.aload_n 0, 1) := by decide +kernel
theorem dX5_takesWindow_14 : decode cX5_takesWindow 14 = .ok (.getfield 9, 3) := by decide +kernel
theorem dX5_takesWindow_17 : decode cX5_takesWindow 17 = .ok (.aload_n 0, 1) := by decide +kernel
theorem dX5_takesWindow_18 : decode cX5_takesWindow 18 = .ok (.getfield 19, 3) := by decide +kernel
theorem dX5_takesWindow_21 : decode cX5_takesWindow 21 = .ok (.caload, 1) := by decide +kernel
theorem dX5_takesWindow_22 : decode cX5_takesWindow 22 = .ok (.bipush 48, 2) := by decide +kernel
theorem dX5_takesWindow_24 : decode cX5_takesWindow 24 = .ok (.bipush 57, 2) := by decide +kernel
theorem dX5_takesWindow_26 : decode cX5_takesWindow 26 = .ok (.invokestatic 54, 3) := by decide +kernel
theorem dX5_takesWindow_29 : decode cX5_takesWindow 29 = .ok (.ifCond .eq 49, 3) := by decide +kernel
theorem dX5_takesWindow_32 : decode cX5_takesWindow 32 = .ok (.iload_n 2, 1) := by decide +kernel
theorem dX5_takesWindow_33 : decode cX5_takesWindow 33 = .ok (.bipush 10, 2) := by decide +kernel
theorem dX5_takesWindow_35 : decode cX5_takesWindow 35 = .ok (.imul, 1) := by decide +kernel
theorem dX5_takesWindow_36 : decode cX5_takesWindow 36 = .ok (.aload_n 0, 1) := by decide +kernel
theorem dX5_takesWindow_37 : decode cX5_takesWindow 37 = .ok (.getfield 9, 3) := by decide +kernel
theorem dX5_takesWindow_40 : decode cX5_takesWindow 40 = .ok (.aload_n 0, 1) := by decide +kernel
theorem dX5_takesWindow_41 : decode cX5_takesWindow 41 = .ok (.getfield 19, 3) := by decide +kernel
theorem dX5_takesWindow_44 : decode cX5_takesWindow 44 = .ok (.caload, 1) := by decide +kernel
theorem dX5_takesWindow_45 : decode cX5_takesWindow 45 = .ok (.bipush 48, 2) := by decide +kernel
theorem dX5_takesWindow_47 : decode cX5_takesWindow 47 = .ok (.isub, 1) := by decide +kernel
theorem dX5_takesWindow_48 : decode cX5_takesWindow 48 = .ok (.iadd, 1) := by decide +kernel
theorem dX5_takesWindow_49 : decode cX5_takesWindow 49 = .ok (.istore_n 3, 1) := by decide +kernel
theorem dX5_takesWindow_50 : decode cX5_takesWindow 50 = .ok (.iload_n 3, 1) := by decide +kernel
theorem dX5_takesWindow_51 : decode cX5_takesWindow 51 = .ok (.iconst 1, 1) := by decide +kernel
theorem dX5_takesWindow_52 : decode cX5_takesWindow 52 = .ok (.sipush 1000, 3) := by decide +kernel
theorem dX5_takesWindow_55 : decode cX5_takesWindow 55 = .ok (.invokestatic 54, 3) := by decide +kernel
theorem dX5_takesWindow_58 : decode cX5_takesWindow 58 = .ok (.ifCond .ne 5, 3) := by decide +kernel
theorem dX5_takesWindow_61 : decode cX5_takesWindow 61 = .ok (.iconst 0, 1) := by decide +kernel
theorem dX5_takesWindow_62 : decode cX5_takesWindow 62 = .ok (.ireturn, 1) := by decide +kernel
theorem dX5_takesWindow_63 : decode cX5_takesWindow 63 = .ok (.iload_n 3, 1) := by decide +kernel
theorem dX5_takesWindow_64 : decode cX5_takesWindow 64 = .ok (.istore_n 2, 1) := by decide +kernel
theorem dX5_takesWindow_65 : decode cX5_takesWindow 65 = .ok (.aload_n 0, 1) := by decide +kernel
theorem dX5_takesWindow_66 : decode cX5_takesWindow 66 = .ok (.dup, 1) := by decide +kernel
theorem dX5_takesWindow_67 : decode cX5_takesWindow 67 = .ok (.getfield 19, 3) := by decide +kernel
theorem dX5_takesWindow_70 : decode cX5_takesWindow 70 = .ok (.iconst 1, 1) := by decide +kernel
theorem dX5_takesWindow_71 : decode cX5_takesWindow 71 = .ok (.iadd, 1) := by decide +kernel
theorem dX5_takesWindow_72 : decode cX5_takesWindow 72 = .ok (.putfield 19, 3) := by decide +kernel
theorem dX5_takesWindow_75 : decode cX5_takesWindow 75 = .ok (.goto (-73), 3) := by decide +kernel
theorem dX5_takesWindow_78 : decode cX5_takesWindow 78 = .ok (.aload_n 1, 1) := by decide +kernel
theorem dX5_takesWindow_79 : decode cX5_takesWindow 79 = .ok (.iload_n 2, 1) := by decide +kernel
theorem dX5_takesWindow_80 : decode cX5_takesWindow 80 = .ok (.putfield 58, 3) := by decide +kernel
theorem dX5_takesWindow_83 : decode cX5_takesWindow 83 = .ok (.iload_n 2, 1) := by decide +kernel
theorem dX5_takesWindow_84 : decode cX5_takesWindow 84 = .ok (.ifCond .le 7, 3) := by decide +kernel
theorem dX5_takesWindow_87 : decode cX5_takesWindow 87 = .ok (.iconst 1, 1) := by decide +kernel
theorem dX5_takesWindow_88 : decode cX5_takesWindow 88 = .ok (.goto 4, 3) := by decide +kernel
theorem dX5_takesWindow_91 : decode cX5_takesWindow 91 = .ok (.iconst 0, 1) := by decide +kernel
theorem dX5_takesWindow_92 : decode cX5_takesWindow 92 = .ok (.ireturn, 1) := by decide +kernel
theorem dX5_takesRule_0 : decode cX5_takesRule 0 = .ok (.aload_n 1, 1) := by decide +kernel
theorem dX5_takesRule_1 : decode cX5_takesRule 1 = .ok (.iconst 0, 1) := by decide +kernel
theorem dX5_takesRule_2 : decode cX5_takesRule 2 = .ok (.putfield 61, 3) := by decide +kernel
theorem dX5_takesRule_5 : decode cX5_takesRule 5 = .ok (.aload_n 0, 1) := by decide +kernel
theorem dX5_takesRule_6 : decode cX5_takesRule 6 = .ok (.invokevirtual 64, 3) := by decide +kernel
theorem dX5_takesRule_9 : decode cX5_takesRule 9 = .ok (.bipush 114, 2) := by decide +kernel
theorem dX5_takesRule_11 : decode cX5_takesRule 11 = .ok (.if_icmp .ne 15, 3) := by decide +kernel
theorem dX5_takesRule_14 : decode cX5_takesRule 14 = .ok (.aload_n 1, 1) := by decide +kernel
theorem dX5_takesRule_15 : decode cX5_takesRule 15 = .ok (.iconst 1, 1) := by decide +kernel
theorem dX5_takesRule_16 : decode cX5_takesRule 16 = .ok (.putfield 61, 3) := by decide +kernel
theorem dX5_takesRule_19 : decode cX5_takesRule 19 = .ok (.aload_n 0, 1) := by decide +kernel
theorem dX5_takesRule_20 : decode cX5_takesRule 20 = .ok (.ldc 68, 2) := by decide +kernel
theorem dX5_takesRule_22 : decode cX5_takesRule 22 = .ok (.invokevirtual 29, 3) := by decide +kernel
theorem dX5_takesRule_25 : decode cX5_takesRule 25 = .ok (.ireturn, 1) := by decide +kernel
theorem dX5_takesRule_26 : decode cX5_takesRule 26 = .ok (.aload_n 0, 1) := by decide +kernel
theorem dX5_takesRule_27 : decode cX5_takesRule 27 = .ok (.invokevirtual 64, 3) := by decide +kernel
theorem dX5_takesRule_30 : decode cX5_takesRule 30 = .ok (.bipush 97, 2) := by decide +kernel
theorem dX5_takesRule_32 : decode cX5_takesRule 32 = .ok (.if_icmp .ne 44, 3) := by decide +kernel
theorem dX5_takesRule_35 : decode cX5_takesRule 35 = .ok (.aload_n 0, 1) := by decide +kernel
theorem dX5_takesRule_36 : decode cX5_takesRule 36 = .ok (.getfield 19, 3) := by decide +kernel
theorem dX5_takesRule_39 : decode cX5_takesRule 39 = .ok (.iconst 1, 1) := by decide +kernel
theorem dX5_takesRule_40 : decode cX5_takesRule 40 = .ok (.iadd, 1) := by decide +kernel
theorem dX5_takesRule_41 : decode cX5_takesRule 41 = .ok (.aload_n 0, 1) := by decide +kernel
theorem dX5_takesRule_42 : decode cX5_takesRule 42 = .ok (.getfield 15, 3) := by decide +kernel
theorem dX5_takesRule_45 : decode cX5_takesRule 45 = .ok (.if_icmp .ge 31, 3) := by decide +kernel
theorem dX5_takesRule_48 : decode cX5_takesRule 48 = .ok (.aload_n 0, 1) := by decide +kernel
theorem dX5_takesRule_49 : decode cX5_takesRule 49 = .ok (.getfield 9, 3) := by decide +kernel
theorem dX5_takesRule_52 : decode cX5_takesRule 52 = .ok (.aload_n 0, 1) := by decide +kernel
theorem dX5_takesRule_53 : decode cX5_takesRule 53 = .ok (.getfield 19, 3) := by decide +kernel
theorem dX5_takesRule_56 : decode cX5_takesRule 56 = .ok (.iconst 1, 1) := by decide +kernel
theorem dX5_takesRule_57 : decode cX5_takesRule 57 = .ok (.iadd, 1) := by decide +kernel
theorem dX5_takesRule_58 : decode cX5_takesRule 58 = .ok (.caload, 1) := by decide +kernel
theorem dX5_takesRule_59 : decode cX5_takesRule 59 = .ok (.bipush 108, 2) := by decide +kernel
theorem dX5_takesRule_61 : decode cX5_takesRule 61 = .ok (.if_icmp .ne 15, 3) := by decide +kernel
theorem dX5_takesRule_64 : decode cX5_takesRule 64 = .ok (.aload_n 1, 1) := by decide +kernel
theorem dX5_takesRule_65 : decode cX5_takesRule 65 = .ok (.iconst 2, 1) := by decide +kernel
theorem dX5_takesRule_66 : decode cX5_takesRule 66 = .ok (.putfield 61, 3) := by decide +kernel
theorem dX5_takesRule_69 : decode cX5_takesRule 69 = .ok (.aload_n 0, 1) := by decide +kernel
theorem dX5_takesRule_70 : decode cX5_takesRule 70 = .ok (.ldc 70, 2) := by decide +kernel
theorem dX5_takesRule_72 : decode cX5_takesRule 72 = .ok (.invokevirtual 29, 3) := by decide +kernel
theorem dX5_takesRule_75 : decode cX5_takesRule 75 = .ok (.ireturn, 1) := by decide +kernel
theorem dX5_takesRule_76 : decode cX5_takesRule 76 = .ok (.iconst 1, 1) := by decide +kernel
theorem dX5_takesRule_77 : decode cX5_takesRule 77 = .ok (.ireturn, 1) := by decide +kernel
theorem dX5_takesSteps_0 : decode cX5_takesSteps 0 = .ok (.iconst 0, 1) := by decide +kernel
theorem dX5_takesSteps_1 : decode cX5_takesSteps 1 = .ok (.istore_n 2, 1) := by decide +kernel
theorem dX5_takesSteps_2 : decode cX5_takesSteps 2 = .ok (.iload_n 2, 1) := by decide +kernel
theorem dX5_takesSteps_3 : decode cX5_takesSteps 3 = .ok (.bipush 8, 2) := by decide +kernel
theorem dX5_takesSteps_5 : decode cX5_takesSteps 5 = .ok (.if_icmp .gt 62, 3) := by decide +kernel
theorem dX5_takesSteps_8 : decode cX5_takesSteps 8 = .ok (.aload_n 0, 1) := by decide +kernel
theorem dX5_takesSteps_9 : decode cX5_takesSteps 9 = .ok (.aload_n 1, 1) := by decide +kernel
theorem dX5_takesSteps_10 : decode cX5_takesSteps 10 = .ok (.invokevirtual 72, 3) := by decide +kernel
theorem dX5_takesSteps_13 : decode cX5_takesSteps 13 = .ok (.ifCond .ne 5, 3) := by decide +kernel
theorem dX5_takesSteps_16 : decode cX5_takesSteps 16 = .ok (.iconst 0, 1) := by decide +kernel
theorem dX5_takesSteps_17 : decode cX5_takesSteps 17 = .ok (.ireturn, 1) := by decide +kernel
theorem dX5_takesSteps_18 : decode cX5_takesSteps 18 = .ok (.aload_n 0, 1) := by decide +kernel
theorem dX5_takesSteps_19 : decode cX5_takesSteps 19 = .ok (.getfield 19, 3) := by decide +kernel
theorem dX5_takesSteps_22 : decode cX5_takesSteps 22 = .ok (.aload_n 0, 1) := by decide +kernel
theorem dX5_takesSteps_23 : decode cX5_takesSteps 23 = .ok (.getfield 15, 3) := by decide +kernel
theorem dX5_takesSteps_26 : decode cX5_takesSteps 26 = .ok (.if_icmp .lt 24, 3) := by decide +kernel
theorem dX5_takesSteps_29 : decode cX5_takesSteps 29 = .ok (.aload_n 1, 1) := by decide +kernel
theorem dX5_takesSteps_30 : decode cX5_takesSteps 30 = .ok (.invokevirtual 75, 3) := by decide +kernel
theorem dX5_takesSteps_33 : decode cX5_takesSteps 33 = .ok (.ifCond .eq 15, 3) := by decide +kernel
theorem dX5_takesSteps_36 : decode cX5_takesSteps 36 = .ok (.aload_n 1, 1) := by decide +kernel
theorem dX5_takesSteps_37 : decode cX5_takesSteps 37 = .ok (.getfield 79, 3) := by decide +kernel
theorem dX5_takesSteps_40 : decode cX5_takesSteps 40 = .ok (.iconst 1, 1) := by decide +kernel
theorem dX5_takesSteps_41 : decode cX5_takesSteps 41 = .ok (.if_icmp .le 7, 3) := by decide +kernel
theorem dX5_takesSteps_44 : decode cX5_takesSteps 44 = .ok (.iconst 1, 1) := by decide +kernel
theorem dX5_takesSteps_45 : decode cX5_takesSteps 45 = .ok (.goto 4, 3) := by decide +kernel
theorem dX5_takesSteps_48 : decode cX5_takesSteps 48 = .ok (.iconst 0, 1) := by decide +kernel
theorem dX5_takesSteps_49 : decode cX5_takesSteps 49 = .ok (.ireturn, 1) := by decide +kernel
theorem dX5_takesSteps_50 : decode cX5_takesSteps 50 = .ok (.aload_n 0, 1) := by decide +kernel
theorem dX5_takesSteps_51 : decode cX5_takesSteps 51 = .ok (.ldc 82, 2) := by decide +kernel
theorem dX5_takesSteps_53 : decode cX5_takesSteps 53 = .ok (.invokevirtual 29, 3) := by decide +kernel
theorem dX5_takesSteps_56 : decode cX5_takesSteps 56 = .ok (.ifCond .ne 5, 3) := by decide +kernel
theorem dX5_takesSteps_59 : decode cX5_takesSteps 59 = .ok (.iconst 0, 1) := by decide +kernel
theorem dX5_takesSteps_60 : decode cX5_takesSteps 60 = .ok (.ireturn, 1) := by decide +kernel
theorem dX5_takesSteps_61 : decode cX5_takesSteps 61 = .ok (.iinc 2 1, 3) := by decide +kernel
theorem dX5_takesSteps_64 : decode cX5_takesSteps 64 = .ok (.goto (-62), 3) := by decide +kernel
theorem dX5_takesSteps_67 : decode cX5_takesSteps 67 = .ok (.iconst 0, 1) := by decide +kernel
theorem dX5_takesSteps_68 : decode cX5_takesSteps 68 = .ok (.ireturn, 1) := by decide +kernel
theorem dX5_takesStep_0 : decode cX5_takesStep 0 = .ok (.aload_n 0, 1) := by decide +kernel
theorem dX5_takesStep_1 : decode cX5_takesStep 1 = .ok (.invokevirtual 64, 3) := by decide +kernel
theorem dX5_takesStep_4 : decode cX5_takesStep 4 = .ok (.bipush 110, 2) := by decide +kernel
theorem dX5_takesStep_6 : decode cX5_takesStep 6 = .ok (.if_icmp .ne 7, 3) := by decide +kernel
theorem dX5_takesStep_9 : decode cX5_takesStep 9 = .ok (.iconst 1, 1) := by decide +kernel
theorem dX5_takesStep_10 : decode cX5_takesStep 10 = .ok (.goto 4, 3) := by decide +kernel
theorem dX5_takesStep_13 : decode cX5_takesStep 13 = .ok (.iconst 0, 1) := by decide +kernel
theorem dX5_takesStep_14 : decode cX5_takesStep 14 = .ok (.istore_n 2, 1) := by decide +kernel
theorem dX5_takesStep_15 : decode cX5_takesStep 15 = .ok (.iload_n 2, 1) := by decide +kernel
theorem dX5_takesStep_16 : decode cX5_takesStep 16 = .ok (.ifCond .eq 21, 3) := by decide +kernel
theorem dX5_takesStep_19 : decode cX5_takesStep 19 = .ok (.aload_n 1, 1) := by decide +kernel
theorem dX5_takesStep_20 : decode cX5_takesStep 20 = .ok (.invokevirtual 75, 3) := by decide +kernel
theorem dX5_takesStep_23 : decode cX5_takesStep 23 = .ok (.ifCond .eq 12, 3) := by decide +kernel
theorem dX5_takesStep_26 : decode cX5_takesStep 26 = .ok (.aload_n 0, 1) := by decide +kernel
theorem dX5_takesStep_27 : decode cX5_takesStep 27 = .ok (.ldc 84, 2) := by decide +kernel
theorem dX5_takesStep_29 : decode cX5_takesStep 29 = .ok (.invokevirtual 29, 3) := by decide +kernel
theorem dX5_takesStep_32 : decode cX5_takesStep 32 = .ok (.ifCond .ne 15, 3) := by decide +kernel
theorem dX5_takesStep_35 : decode cX5_takesStep 35 = .ok (.iconst 0, 1) := by decide +kernel
theorem dX5_takesStep_36 : decode cX5_takesStep 36 = .ok (.ireturn, 1) := by decide +kernel
theorem dX5_takesStep_37 : decode cX5_takesStep 37 = .ok (.aload_n 1, 1) := by decide +kernel
theorem dX5_takesStep_38 : decode cX5_takesStep 38 = .ok (.getfield 86, 3) := by decide +kernel
theorem dX5_takesStep_41 : decode cX5_takesStep 41 = .ok (.iconst 4, 1) := by decide +kernel
theorem dX5_takesStep_42 : decode cX5_takesStep 42 = .ok (.if_icmp .lt 5, 3) := by decide +kernel
theorem dX5_takesStep_45 : decode cX5_takesStep 45 = .ok (.iconst 0, 1) := by decide +kernel
theorem dX5_takesStep_46 : decode cX5_takesStep 46 = .ok (.ireturn, 1) := by decide +kernel
theorem dX5_takesStep_47 : decode cX5_takesStep 47 = .ok (.aload_n 0, 1) := by decide +kernel
theorem dX5_takesStep_48 : decode cX5_takesStep 48 = .ok (.invokevirtual 64, 3) := by decide +kernel
theorem dX5_takesStep_51 : decode cX5_takesStep 51 = .ok (.istore_n 3, 1) := by decide +kernel
theorem dX5_takesStep_52 : decode cX5_takesStep 52 = .ok (.iload_n 3, 1) := by decide +kernel
theorem dX5_takesStep_53 : decode cX5_takesStep 53 = .ok (.invokestatic 89, 3) := by decide +kernel
theorem dX5_takesStep_56 : decode cX5_takesStep 56 = .ok (.ifCond .eq 10, 3) := by decide +kernel
theorem dX5_takesStep_59 : decode cX5_takesStep 59 = .ok (.aload_n 1, 1) := by decide +kernel
theorem dX5_takesStep_60 : decode cX5_takesStep 60 = .ok (.invokevirtual 93, 3) := by decide +kernel
theorem dX5_takesStep_63 : decode cX5_takesStep 63 = .ok (.ifCond .ne 5, 3) := by decide +kernel
theorem dX5_takesStep_66 : decode cX5_takesStep 66 = .ok (.iconst 0, 1) := by decide +kernel
theorem dX5_takesStep_67 : decode cX5_takesStep 67 = .ok (.ireturn, 1) := by decide +kernel
theorem dX5_takesStep_68 : decode cX5_takesStep 68 = .ok (.aload_n 1, 1) := by decide +kernel
theorem dX5_takesStep_69 : decode cX5_takesStep 69 = .ok (.iload_n 3, 1) := by decide +kernel
theorem dX5_takesStep_70 : decode cX5_takesStep 70 = .ok (.iload_n 2, 1) := by decide +kernel
theorem dX5_takesStep_71 : decode cX5_takesStep 71 = .ok (.invokevirtual 96, 3) := by decide +kernel
theorem dX5_takesStep_74 : decode cX5_takesStep 74 = .ok (.aload_n 0, 1) := by decide +kernel
theorem dX5_takesStep_75 : decode cX5_takesStep 75 = .ok (.dup, 1) := by decide +kernel
theorem dX5_takesStep_76 : decode cX5_takesStep 76 = .ok (.getfield 19, 3) := by decide +kernel
theorem dX5_takesStep_79 : decode cX5_takesStep 79 = .ok (.iconst 1, 1) := by decide +kernel
theorem dX5_takesStep_80 : decode cX5_takesStep 80 = .ok (.iadd, 1) := by decide +kernel
theorem dX5_takesStep_81 : decode cX5_takesStep 81 = .ok (.putfield 19, 3) := by decide +kernel
theorem dX5_takesStep_84 : decode cX5_takesStep 84 = .ok (.iconst 1, 1) := by decide +kernel
theorem dX5_takesStep_85 : decode cX5_takesStep 85 = .ok (.ireturn, 1) := by decide +kernel
theorem dX6_init_0 : decode cX6_init 0 = .ok (.aload_n 0, 1) := by decide +kernel
theorem dX6_init_1 : decode cX6_init 1 = .ok (.invokespecial 1, 3) := by decide +kernel
theorem dX6_init_4 : decode cX6_init 4 = .ok (.aload_n 0, 1) := by decide +kernel
theorem dX6_init_5 : decode cX6_init 5 = .ok (.new 7, 3) := by decide +kernel
theorem dX6_init_8 : decode cX6_init 8 = .ok (.dup, 1) := by decide +kernel
theorem dX6_init_9 : decode cX6_init 9 = .ok (.invokespecial 9, 3) := by decide +kernel
theorem dX6_init_12 : decode cX6_init 12 = .ok (.putfield 10, 3) := by decide +kernel
end
section
theorem dX6_init_15 : decode cX6_init 15 = .ok (.aload_n 0, 1) := by decide +kernel
theorem dX6_init_16 : decode cX6_init 16 = .ok (.new 7, 3) := by decide +kernel
theorem dX6_init_19 : decode cX6_init 19 = .ok (.dup, 1) := by decide +kernel
theorem dX6_init_20 : decode cX6_init 20 = .ok (.invokespecial 9, 3) := by decide +kernel
theorem dX6_init_23 : decode cX6_init 23 = .ok (.putfield 16, 3) := by decide +kernel
theorem dX6_init_26 : decode cX6_init 26 = .ok (.aload_n 0, 1) := by decide +kernel
theorem dX6_init_27 : decode cX6_init 27 = .ok (.iconst 0, 1) := by decide +kernel
theorem dX6_init_28 : decode cX6_init 28 = .ok (.putfield 19, 3) := by decide +kernel
theorem dX6_init_31 : decode cX6_init 31 = .ok (.aload_n 0, 1) := by decide +kernel
theorem dX6_init_32 : decode cX6_init 32 = .ok (.new 23, 3) := by decide +kernel
theorem dX6_init_35 : decode cX6_init 35 = .ok (.dup, 1) := by decide +kernel
theorem dX6_init_36 : decode cX6_init 36 = .ok (.invokespecial 25, 3) := by decide +kernel
theorem dX6_init_39 : decode cX6_init 39 = .ok (.putfield 26, 3) := by decide +kernel
theorem dX6_init_42 : decode cX6_init 42 = .ok (.aload_n 0, 1) := by decide +kernel
theorem dX6_init_43 : decode cX6_init 43 = .ok (.new 30, 3) := by decide +kernel
theorem dX6_init_46 : decode cX6_init 46 = .ok (.dup, 1) := by decide +kernel
theorem dX6_init_47 : decode cX6_init 47 = .ok (.invokespecial 32, 3) := by decide +kernel
theorem dX6_init_50 : decode cX6_init 50 = .ok (.putfield 33, 3) := by decide +kernel
theorem dX6_init_53 : decode cX6_init 53 = .ok (.aload_n 0, 1) := by decide +kernel
theorem dX6_init_54 : decode cX6_init 54 = .ok (.new 37, 3) := by decide +kernel
theorem dX6_init_57 : decode cX6_init 57 = .ok (.dup, 1) := by decide +kernel
theorem dX6_init_58 : decode cX6_init 58 = .ok (.invokespecial 39, 3) := by decide +kernel
theorem dX6_init_61 : decode cX6_init 61 = .ok (.putfield 40, 3) := by decide +kernel
theorem dX6_init_64 : decode cX6_init 64 = .ok (.aload_n 0, 1) := by decide +kernel
theorem dX6_init_65 : decode cX6_init 65 = .ok (.new 44, 3) := by decide +kernel
theorem dX6_init_68 : decode cX6_init 68 = .ok (.dup, 1) := by decide +kernel
theorem dX6_init_69 : decode cX6_init 69 = .ok (.invokespecial 46, 3) := by decide +kernel
theorem dX6_init_72 : decode cX6_init 72 = .ok (.putfield 47, 3) := by decide +kernel
theorem dX6_init_75 : decode cX6_init 75 = .ok (.return_, 1) := by decide +kernel
theorem dX6_event_0 : decode cX6_event 0 = .ok (.aload_n 0, 1) := by decide +kernel
theorem dX6_event_1 : decode cX6_event 1 = .ok (.iload_n 1, 1) := by decide +kernel
theorem dX6_event_2 : decode cX6_event 2 = .ok (.iload_n 2, 1) := by decide +kernel
theorem dX6_event_3 : decode cX6_event 3 = .ok (.iload_n 3, 1) := by decide +kernel
theorem dX6_event_4 : decode cX6_event 4 = .ok (.invokevirtual 51, 3) := by decide +kernel
theorem dX6_event_7 : decode cX6_event 7 = .ok (.istore 4, 2) := by decide +kernel
theorem dX6_event_9 : decode cX6_event 9 = .ok (.iload 4, 2) := by decide +kernel
theorem dX6_event_11 : decode cX6_event 11 = .ok (.ifCond .eq 6, 3) := by decide +kernel
theorem dX6_event_14 : decode cX6_event 14 = .ok (.iload 4, 2) := by decide +kernel
theorem dX6_event_16 : decode cX6_event 16 = .ok (.ireturn, 1) := by decide +kernel
theorem dX6_event_17 : decode cX6_event 17 = .ok (.aload_n 0, 1) := by decide +kernel
theorem dX6_event_18 : decode cX6_event 18 = .ok (.getfield 10, 3) := by decide +kernel
theorem dX6_event_21 : decode cX6_event 21 = .ok (.getfield 55, 3) := by decide +kernel
theorem dX6_event_24 : decode cX6_event 24 = .ok (.bipush 24, 2) := by decide +kernel
theorem dX6_event_26 : decode cX6_event 26 = .ok (.if_icmp .lt 6, 3) := by decide +kernel
theorem dX6_event_29 : decode cX6_event 29 = .ok (.bipush (-3), 2) := by decide +kernel
theorem dX6_event_31 : decode cX6_event 31 = .ok (.ireturn, 1) := by decide +kernel
theorem dX6_event_32 : decode cX6_event 32 = .ok (.aload_n 0, 1) := by decide +kernel
theorem dX6_event_33 : decode cX6_event 33 = .ok (.getfield 26, 3) := by decide +kernel
theorem dX6_event_36 : decode cX6_event 36 = .ok (.aload_n 0, 1) := by decide +kernel
theorem dX6_event_37 : decode cX6_event 37 = .ok (.getfield 10, 3) := by decide +kernel
theorem dX6_event_40 : decode cX6_event 40 = .ok (.invokevirtual 59, 3) := by decide +kernel
theorem dX6_event_43 : decode cX6_event 43 = .ok (.aload_n 0, 1) := by decide +kernel
theorem dX6_event_44 : decode cX6_event 44 = .ok (.getfield 10, 3) := by decide +kernel
theorem dX6_event_47 : decode cX6_event 47 = .ok (.iload_n 1, 1) := by decide +kernel
theorem dX6_event_48 : decode cX6_event 48 = .ok (.iload_n 2, 1) := by decide +kernel
theorem dX6_event_49 : decode cX6_event 49 = .ok (.iload_n 3, 1) := by decide +kernel
theorem dX6_event_50 : decode cX6_event 50 = .ok (.invokevirtual 63, 3) := by decide +kernel
theorem dX6_event_53 : decode cX6_event 53 = .ok (.ireturn, 1) := by decide +kernel
theorem dX6_forget_0 : decode cX6_forget 0 = .ok (.iload_n 1, 1) := by decide +kernel
theorem dX6_forget_1 : decode cX6_forget 1 = .ok (.iconst 0, 1) := by decide +kernel
theorem dX6_forget_2 : decode cX6_forget 2 = .ok (.sipush 9999, 3) := by decide +kernel
theorem dX6_forget_5 : decode cX6_forget 5 = .ok (.invokestatic 66, 3) := by decide +kernel
theorem dX6_forget_8 : decode cX6_forget 8 = .ok (.ifCond .ne 6, 3) := by decide +kernel
theorem dX6_forget_11 : decode cX6_forget 11 = .ok (.bipush (-2), 2) := by decide +kernel
theorem dX6_forget_13 : decode cX6_forget 13 = .ok (.ireturn, 1) := by decide +kernel
theorem dX6_forget_14 : decode cX6_forget 14 = .ok (.aload_n 0, 1) := by decide +kernel
theorem dX6_forget_15 : decode cX6_forget 15 = .ok (.getfield 10, 3) := by decide +kernel
theorem dX6_forget_18 : decode cX6_forget 18 = .ok (.iload_n 1, 1) := by decide +kernel
theorem dX6_forget_19 : decode cX6_forget 19 = .ok (.invokevirtual 70, 3) := by decide +kernel
theorem dX6_forget_22 : decode cX6_forget 22 = .ok (.istore_n 2, 1) := by decide +kernel
theorem dX6_forget_23 : decode cX6_forget 23 = .ok (.iload_n 2, 1) := by decide +kernel
theorem dX6_forget_24 : decode cX6_forget 24 = .ok (.ifCond .ne 6, 3) := by decide +kernel
theorem dX6_forget_27 : decode cX6_forget 27 = .ok (.bipush (-5), 2) := by decide +kernel
theorem dX6_forget_29 : decode cX6_forget 29 = .ok (.ireturn, 1) := by decide +kernel
theorem dX6_forget_30 : decode cX6_forget 30 = .ok (.aload_n 0, 1) := by decide +kernel
theorem dX6_forget_31 : decode cX6_forget 31 = .ok (.getfield 26, 3) := by decide +kernel
theorem dX6_forget_34 : decode cX6_forget 34 = .ok (.aload_n 0, 1) := by decide +kernel
theorem dX6_forget_35 : decode cX6_forget 35 = .ok (.getfield 10, 3) := by decide +kernel
theorem dX6_forget_38 : decode cX6_forget 38 = .ok (.invokevirtual 59, 3) := by decide +kernel
theorem dX6_forget_41 : decode cX6_forget 41 = .ok (.aload_n 0, 1) := by decide +kernel
theorem dX6_forget_42 : decode cX6_forget 42 = .ok (.getfield 10, 3) := by decide +kernel
theorem dX6_forget_45 : decode cX6_forget 45 = .ok (.iload_n 1, 1) := by decide +kernel
theorem dX6_forget_46 : decode cX6_forget 46 = .ok (.invokevirtual 74, 3) := by decide +kernel
theorem dX6_forget_49 : decode cX6_forget 49 = .ok (.iload_n 2, 1) := by decide +kernel
theorem dX6_forget_50 : decode cX6_forget 50 = .ok (.ireturn, 1) := by decide +kernel
theorem dX6_setLateness_0 : decode cX6_setLateness 0 = .ok (.iload_n 1, 1) := by decide +kernel
theorem dX6_setLateness_1 : decode cX6_setLateness 1 = .ok (.iconst 0, 1) := by decide +kernel
theorem dX6_setLateness_2 : decode cX6_setLateness 2 = .ok (.sipush 500, 3) := by decide +kernel
theorem dX6_setLateness_5 : decode cX6_setLateness 5 = .ok (.invokestatic 66, 3) := by decide +kernel
theorem dX6_setLateness_8 : decode cX6_setLateness 8 = .ok (.ifCond .ne 6, 3) := by decide +kernel
theorem dX6_setLateness_11 : decode cX6_setLateness 11 = .ok (.bipush (-2), 2) := by decide +kernel
theorem dX6_setLateness_13 : decode cX6_setLateness 13 = .ok (.ireturn, 1) := by decide +kernel
theorem dX6_setLateness_14 : decode cX6_setLateness 14 = .ok (.aload_n 0, 1) := by decide +kernel
theorem dX6_setLateness_15 : decode cX6_setLateness 15 = .ok (.getfield 10, 3) := by decide +kernel
theorem dX6_setLateness_18 : decode cX6_setLateness 18 = .ok (.getfield 78, 3) := by decide +kernel
theorem dX6_setLateness_21 : decode cX6_setLateness 21 = .ok (.istore_n 2, 1) := by decide +kernel
theorem dX6_setLateness_22 : decode cX6_setLateness 22 = .ok (.iload_n 2, 1) := by decide +kernel
theorem dX6_setLateness_23 : decode cX6_setLateness 23 = .ok (.iload_n 1, 1) := by decide +kernel
theorem dX6_setLateness_24 : decode cX6_setLateness 24 = .ok (.if_icmp .ne 6, 3) := by decide +kernel
theorem dX6_setLateness_27 : decode cX6_setLateness 27 = .ok (.bipush (-5), 2) := by decide +kernel
theorem dX6_setLateness_29 : decode cX6_setLateness 29 = .ok (.ireturn, 1) := by decide +kernel
theorem dX6_setLateness_30 : decode cX6_setLateness 30 = .ok (.aload_n 0, 1) := by decide +kernel
theorem dX6_setLateness_31 : decode cX6_setLateness 31 = .ok (.getfield 26, 3) := by decide +kernel
theorem dX6_setLateness_34 : decode cX6_setLateness 34 = .ok (.aload_n 0, 1) := by decide +kernel
theorem dX6_setLateness_35 : decode cX6_setLateness 35 = .ok (.getfield 10, 3) := by decide +kernel
theorem dX6_setLateness_38 : decode cX6_setLateness 38 = .ok (.invokevirtual 59, 3) := by decide +kernel
theorem dX6_setLateness_41 : decode cX6_setLateness 41 = .ok (.aload_n 0, 1) := by decide +kernel
theorem dX6_setLateness_42 : decode cX6_setLateness 42 = .ok (.getfield 10, 3) := by decide +kernel
theorem dX6_setLateness_45 : decode cX6_setLateness 45 = .ok (.iload_n 1, 1) := by decide +kernel
theorem dX6_setLateness_46 : decode cX6_setLateness 46 = .ok (.putfield 78, 3) := by decide +kernel
theorem dX6_setLateness_49 : decode cX6_setLateness 49 = .ok (.iload_n 2, 1) := by decide +kernel
theorem dX6_setLateness_50 : decode cX6_setLateness 50 = .ok (.ireturn, 1) := by decide +kernel
theorem dX6_addPattern_0 : decode cX6_addPattern 0 = .ok (.aload_n 0, 1) := by decide +kernel
theorem dX6_addPattern_1 : decode cX6_addPattern 1 = .ok (.getfield 33, 3) := by decide +kernel
theorem dX6_addPattern_4 : decode cX6_addPattern 4 = .ok (.aload_n 0, 1) := by decide +kernel
theorem dX6_addPattern_5 : decode cX6_addPattern 5 = .ok (.getfield 40, 3) := by decide +kernel
theorem dX6_addPattern_8 : decode cX6_addPattern 8 = .ok (.invokevirtual 81, 3) := by decide +kernel
theorem dX6_addPattern_11 : decode cX6_addPattern 11 = .ok (.istore_n 1, 1) := by decide +kernel
theorem dX6_addPattern_12 : decode cX6_addPattern 12 = .ok (.iload_n 1, 1) := by decide +kernel
theorem dX6_addPattern_13 : decode cX6_addPattern 13 = .ok (.iconst (-1), 1) := by decide +kernel
theorem dX6_addPattern_14 : decode cX6_addPattern 14 = .ok (.if_icmp .eq 8, 3) := by decide +kernel
theorem dX6_addPattern_17 : decode cX6_addPattern 17 = .ok (.bipush (-100), 2) := by decide +kernel
theorem dX6_addPattern_19 : decode cX6_addPattern 19 = .ok (.iload_n 1, 1) := by decide +kernel
theorem dX6_addPattern_20 : decode cX6_addPattern 20 = .ok (.isub, 1) := by decide +kernel
theorem dX6_addPattern_21 : decode cX6_addPattern 21 = .ok (.ireturn, 1) := by decide +kernel
theorem dX6_addPattern_22 : decode cX6_addPattern 22 = .ok (.aload_n 0, 1) := by decide +kernel
theorem dX6_addPattern_23 : decode cX6_addPattern 23 = .ok (.getfield 10, 3) := by decide +kernel
theorem dX6_addPattern_26 : decode cX6_addPattern 26 = .ok (.getfield 85, 3) := by decide +kernel
theorem dX6_addPattern_29 : decode cX6_addPattern 29 = .ok (.iconst 4, 1) := by decide +kernel
theorem dX6_addPattern_30 : decode cX6_addPattern 30 = .ok (.if_icmp .lt 6, 3) := by decide +kernel
theorem dX6_addPattern_33 : decode cX6_addPattern 33 = .ok (.bipush (-3), 2) := by decide +kernel
theorem dX6_addPattern_35 : decode cX6_addPattern 35 = .ok (.ireturn, 1) := by decide +kernel
theorem dX6_addPattern_36 : decode cX6_addPattern 36 = .ok (.aload_n 0, 1) := by decide +kernel
theorem dX6_addPattern_37 : decode cX6_addPattern 37 = .ok (.getfield 26, 3) := by decide +kernel
theorem dX6_addPattern_40 : decode cX6_addPattern 40 = .ok (.aload_n 0, 1) := by decide +kernel
theorem dX6_addPattern_41 : decode cX6_addPattern 41 = .ok (.getfield 10, 3) := by decide +kernel
theorem dX6_addPattern_44 : decode cX6_addPattern 44 = .ok (.invokevirtual 59, 3) := by decide +kernel
theorem dX6_addPattern_47 : decode cX6_addPattern 47 = .ok (.aload_n 0, 1) := by decide +kernel
theorem dX6_addPattern_48 : decode cX6_addPattern 48 = .ok (.getfield 10, 3) := by decide +kernel
theorem dX6_addPattern_51 : decode cX6_addPattern 51 = .ok (.aload_n 0, 1) := by decide +kernel
theorem dX6_addPattern_52 : decode cX6_addPattern 52 = .ok (.getfield 40, 3) := by decide +kernel
theorem dX6_addPattern_55 : decode cX6_addPattern 55 = .ok (.invokevirtual 88, 3) := by decide +kernel
theorem dX6_addPattern_58 : decode cX6_addPattern 58 = .ok (.ireturn, 1) := by decide +kernel
theorem dX6_dropPattern_0 : decode cX6_dropPattern 0 = .ok (.aload_n 0, 1) := by decide +kernel
theorem dX6_dropPattern_1 : decode cX6_dropPattern 1 = .ok (.iload_n 1, 1) := by decide +kernel
theorem dX6_dropPattern_2 : decode cX6_dropPattern 2 = .ok (.invokevirtual 91, 3) := by decide +kernel
theorem dX6_dropPattern_5 : decode cX6_dropPattern 5 = .ok (.ifCond .ne 5, 3) := by decide +kernel
theorem dX6_dropPattern_8 : decode cX6_dropPattern 8 = .ok (.iconst (-1), 1) := by decide +kernel
theorem dX6_dropPattern_9 : decode cX6_dropPattern 9 = .ok (.ireturn, 1) := by decide +kernel
theorem dX6_dropPattern_10 : decode cX6_dropPattern 10 = .ok (.aload_n 0, 1) := by decide +kernel
theorem dX6_dropPattern_11 : decode cX6_dropPattern 11 = .ok (.getfield 26, 3) := by decide +kernel
theorem dX6_dropPattern_14 : decode cX6_dropPattern 14 = .ok (.aload_n 0, 1) := by decide +kernel
theorem dX6_dropPattern_15 : decode cX6_dropPattern 15 = .ok (.getfield 10, 3) := by decide +kernel
theorem dX6_dropPattern_18 : decode cX6_dropPattern 18 = .ok (.invokevirtual 59, 3) := by decide +kernel
theorem dX6_dropPattern_21 : decode cX6_dropPattern 21 = .ok (.aload_n 0, 1) := by decide +kernel
theorem dX6_dropPattern_22 : decode cX6_dropPattern 22 = .ok (.getfield 10, 3) := by decide +kernel
theorem dX6_dropPattern_25 : decode cX6_dropPattern 25 = .ok (.iload_n 1, 1) := by decide +kernel
theorem dX6_dropPattern_26 : decode cX6_dropPattern 26 = .ok (.invokevirtual 95, 3) := by decide +kernel
theorem dX6_dropPattern_29 : decode cX6_dropPattern 29 = .ok (.ireturn, 1) := by decide +kernel
theorem dX6_setWindow_0 : decode cX6_setWindow 0 = .ok (.aload_n 0, 1) := by decide +kernel
theorem dX6_setWindow_1 : decode cX6_setWindow 1 = .ok (.iload_n 1, 1) := by decide +kernel
theorem dX6_setWindow_2 : decode cX6_setWindow 2 = .ok (.invokevirtual 91, 3) := by decide +kernel
theorem dX6_setWindow_5 : decode cX6_setWindow 5 = .ok (.ifCond .ne 5, 3) := by decide +kernel
theorem dX6_setWindow_8 : decode cX6_setWindow 8 = .ok (.iconst (-1), 1) := by decide +kernel
theorem dX6_setWindow_9 : decode cX6_setWindow 9 = .ok (.ireturn, 1) := by decide +kernel
theorem dX6_setWindow_10 : decode cX6_setWindow 10 = .ok (.iload_n 2, 1) := by decide +kernel
theorem dX6_setWindow_11 : decode cX6_setWindow 11 = .ok (.iconst 1, 1) := by decide +kernel
theorem dX6_setWindow_12 : decode cX6_setWindow 12 = .ok (.sipush 1000, 3) := by decide +kernel
theorem dX6_setWindow_15 : decode cX6_setWindow 15 = .ok (.invokestatic 66, 3) := by decide +kernel
theorem dX6_setWindow_18 : decode cX6_setWindow 18 = .ok (.ifCond .ne 6, 3) := by decide +kernel
theorem dX6_setWindow_21 : decode cX6_setWindow 21 = .ok (.bipush (-2), 2) := by decide +kernel
theorem dX6_setWindow_23 : decode cX6_setWindow 23 = .ok (.ireturn, 1) := by decide +kernel
theorem dX6_setWindow_24 : decode cX6_setWindow 24 = .ok (.aload_n 0, 1) := by decide +kernel
theorem dX6_setWindow_25 : decode cX6_setWindow 25 = .ok (.getfield 10, 3) := by decide +kernel
theorem dX6_setWindow_28 : decode cX6_setWindow 28 = .ok (.getfield 98, 3) := by decide +kernel
theorem dX6_setWindow_31 : decode cX6_setWindow 31 = .ok (.iload_n 1, 1) := by decide +kernel
theorem dX6_setWindow_32 : decode cX6_setWindow 32 = .ok (.aaload, 1) := by decide +kernel
theorem dX6_setWindow_33 : decode cX6_setWindow 33 = .ok (.getfield 102, 3) := by decide +kernel
theorem dX6_setWindow_36 : decode cX6_setWindow 36 = .ok (.istore_n 3, 1) := by decide +kernel
theorem dX6_setWindow_37 : decode cX6_setWindow 37 = .ok (.iload_n 3, 1) := by decide +kernel
theorem dX6_setWindow_38 : decode cX6_setWindow 38 = .ok (.iload_n 2, 1) := by decide +kernel
theorem dX6_setWindow_39 : decode cX6_setWindow 39 = .ok (.if_icmp .ne 6, 3) := by decide +kernel
theorem dX6_setWindow_42 : decode cX6_setWindow 42 = .ok (.bipush (-5), 2) := by decide +kernel
theorem dX6_setWindow_44 : decode cX6_setWindow 44 = .ok (.ireturn, 1) := by decide +kernel
theorem dX6_setWindow_45 : decode cX6_setWindow 45 = .ok (.aload_n 0, 1) := by decide +kernel
theorem dX6_setWindow_46 : decode cX6_setWindow 46 = .ok (.getfield 26, 3) := by decide +kernel
theorem dX6_setWindow_49 : decode cX6_setWindow 49 = .ok (.aload_n 0, 1) := by decide +kernel
theorem dX6_setWindow_50 : decode cX6_setWindow 50 = .ok (.getfield 10, 3) := by decide +kernel
theorem dX6_setWindow_53 : decode cX6_setWindow 53 = .ok (.invokevirtual 59, 3) := by decide +kernel
theorem dX6_setWindow_56 : decode cX6_setWindow 56 = .ok (.aload_n 0, 1) := by decide +kernel
theorem dX6_setWindow_57 : decode cX6_setWindow 57 = .ok (.getfield 10, 3) := by decide +kernel
theorem dX6_setWindow_60 : decode cX6_setWindow 60 = .ok (.getfield 98, 3) := by decide +kernel
theorem dX6_setWindow_63 : decode cX6_setWindow 63 = .ok (.iload_n 1, 1) := by decide +kernel
theorem dX6_setWindow_64 : decode cX6_setWindow 64 = .ok (.aaload, 1) := by decide +kernel
theorem dX6_setWindow_65 : decode cX6_setWindow 65 = .ok (.iload_n 2, 1) := by decide +kernel
theorem dX6_setWindow_66 : decode cX6_setWindow 66 = .ok (.putfield 102, 3) := by decide +kernel
theorem dX6_setWindow_69 : decode cX6_setWindow 69 = .ok (.iload_n 3, 1) := by decide +kernel
theorem dX6_setWindow_70 : decode cX6_setWindow 70 = .ok (.ireturn, 1) := by decide +kernel
theorem dX6_type_0 : decode cX6_type 0 = .ok (.aload_n 0, 1) := by decide +kernel
theorem dX6_type_1 : decode cX6_type 1 = .ok (.getfield 33, 3) := by decide +kernel
theorem dX6_type_4 : decode cX6_type 4 = .ok (.iload_n 1, 1) := by decide +kernel
theorem dX6_type_5 : decode cX6_type 5 = .ok (.invokevirtual 105, 3) := by decide +kernel
theorem dX6_type_8 : decode cX6_type 8 = .ok (.ireturn, 1) := by decide +kernel
theorem dX6_clearText_0 : decode cX6_clearText 0 = .ok (.aload_n 0, 1) := by decide +kernel
theorem dX6_clearText_1 : decode cX6_clearText 1 = .ok (.getfield 33, 3) := by decide +kernel
theorem dX6_clearText_4 : decode cX6_clearText 4 = .ok (.getfield 109, 3) := by decide +kernel
theorem dX6_clearText_7 : decode cX6_clearText 7 = .ok (.istore_n 1, 1) := by decide +kernel
theorem dX6_clearText_8 : decode cX6_clearText 8 = .ok (.aload_n 0, 1) := by decide +kernel
theorem dX6_clearText_9 : decode cX6_clearText 9 = .ok (.getfield 33, 3) := by decide +kernel
theorem dX6_clearText_12 : decode cX6_clearText 12 = .ok (.iconst 0, 1) := by decide +kernel
theorem dX6_clearText_13 : decode cX6_clearText 13 = .ok (.putfield 109, 3) := by decide +kernel
theorem dX6_clearText_16 : decode cX6_clearText 16 = .ok (.iload_n 1, 1) := by decide +kernel
theorem dX6_clearText_17 : decode cX6_clearText 17 = .ok (.ireturn, 1) := by decide +kernel
theorem dX6_undo_0 : decode cX6_undo 0 = .ok (.aload_n 0, 1) := by decide +kernel
theorem dX6_undo_1 : decode cX6_undo 1 = .ok (.getfield 26, 3) := by decide +kernel
theorem dX6_undo_4 : decode cX6_undo 4 = .ok (.getfield 112, 3) := by decide +kernel
theorem dX6_undo_7 : decode cX6_undo 7 = .ok (.ifCond .ne 6, 3) := by decide +kernel
theorem dX6_undo_10 : decode cX6_undo 10 = .ok (.bipush (-5), 2) := by decide +kernel
theorem dX6_undo_12 : decode cX6_undo 12 = .ok (.ireturn, 1) := by decide +kernel
theorem dX6_undo_13 : decode cX6_undo 13 = .ok (.aload_n 0, 1) := by decide +kernel
theorem dX6_undo_14 : decode cX6_undo 14 = .ok (.getfield 26, 3) := by decide +kernel
theorem dX6_undo_17 : decode cX6_undo 17 = .ok (.aload_n 0, 1) := by decide +kernel
theorem dX6_undo_18 : decode cX6_undo 18 = .ok (.getfield 10, 3) := by decide +kernel
theorem dX6_undo_21 : decode cX6_undo 21 = .ok (.invokevirtual 115, 3) := by decide +kernel
theorem dX6_undo_24 : decode cX6_undo 24 = .ok (.aload_n 0, 1) := by decide +kernel
theorem dX6_undo_25 : decode cX6_undo 25 = .ok (.getfield 26, 3) := by decide +kernel
theorem dX6_undo_28 : decode cX6_undo 28 = .ok (.getfield 112, 3) := by decide +kernel
theorem dX6_undo_31 : decode cX6_undo 31 = .ok (.ireturn, 1) := by decide +kernel
theorem dX6_eventOf_0 : decode cX6_eventOf 0 = .ok (.iload_n 1, 1) := by decide +kernel
theorem dX6_eventOf_1 : decode cX6_eventOf 1 = .ok (.ifCond .lt 14, 3) := by decide +kernel
theorem dX6_eventOf_4 : decode cX6_eventOf 4 = .ok (.iload_n 1, 1) := by decide +kernel
theorem dX6_eventOf_5 : decode cX6_eventOf 5 = .ok (.aload_n 0, 1) := by decide +kernel
theorem dX6_eventOf_6 : decode cX6_eventOf 6 = .ok (.getfield 10, 3) := by decide +kernel
theorem dX6_eventOf_9 : decode cX6_eventOf 9 = .ok (.getfield 55, 3) := by decide +kernel
theorem dX6_eventOf_12 : decode cX6_eventOf 12 = .ok (.if_icmp .lt 5, 3) := by decide +kernel
theorem dX6_eventOf_15 : decode cX6_eventOf 15 = .ok (.iconst (-1), 1) := by decide +kernel
theorem dX6_eventOf_16 : decode cX6_eventOf 16 = .ok (.ireturn, 1) := by decide +kernel
theorem dX6_eventOf_17 : decode cX6_eventOf 17 = .ok (.iload_n 2, 1) := by decide +kernel
theorem dX6_eventOf_18 : decode cX6_eventOf 18 = .ok (.tableswitch 119 0 4 #[34, 44, 54, 64, 87], 34) := by decide +kernel
theorem dX6_eventOf_52 : decode cX6_eventOf 52 = .ok (.aload_n 0, 1) := by decide +kernel
theorem dX6_eventOf_53 : decode cX6_eventOf 53 = .ok (.getfield 10, 3) := by decide +kernel
theorem dX6_eventOf_56 : decode cX6_eventOf 56 = .ok (.getfield 121, 3) := by decide +kernel
theorem dX6_eventOf_59 : decode cX6_eventOf 59 = .ok (.iload_n 1, 1) := by decide +kernel
theorem dX6_eventOf_60 : decode cX6_eventOf 60 = .ok (.caload, 1) := by decide +kernel
theorem dX6_eventOf_61 : decode cX6_eventOf 61 = .ok (.ireturn, 1) := by decide +kernel
theorem dX6_eventOf_62 : decode cX6_eventOf 62 = .ok (.aload_n 0, 1) := by decide +kernel
theorem dX6_eventOf_63 : decode cX6_eventOf 63 = .ok (.getfield 10, 3) := by decide +kernel
theorem dX6_eventOf_66 : decode cX6_eventOf 66 = .ok (.getfield 125, 3) := by decide +kernel
theorem dX6_eventOf_69 : decode cX6_eventOf 69 = .ok (.iload_n 1, 1) := by decide +kernel
theorem dX6_eventOf_70 : decode cX6_eventOf 70 = .ok (.iaload, 1) := by decide +kernel
theorem dX6_eventOf_71 : decode cX6_eventOf 71 = .ok (.ireturn, 1) := by decide +kernel
theorem dX6_eventOf_72 : decode cX6_eventOf 72 = .ok (.aload_n 0, 1) := by decide +kernel
theorem dX6_eventOf_73 : decode cX6_eventOf 73 = .ok (.getfield 10, 3) := by decide +kernel
theorem dX6_eventOf_76 : decode cX6_eventOf 76 = .ok (.getfield 129, 3) := by decide +kernel
theorem dX6_eventOf_79 : decode cX6_eventOf 79 = .ok (.iload_n 1, 1) := by decide +kernel
theorem dX6_eventOf_80 : decode cX6_eventOf 80 = .ok (.iaload, 1) := by decide +kernel
theorem dX6_eventOf_81 : decode cX6_eventOf 81 = .ok (.ireturn, 1) := by decide +kernel
theorem dX6_eventOf_82 : decode cX6_eventOf 82 = .ok (.aload_n 0, 1) := by decide +kernel
theorem dX6_eventOf_83 : decode cX6_eventOf 83 = .ok (.getfield 47, 3) := by decide +kernel
theorem dX6_eventOf_86 : decode cX6_eventOf 86 = .ok (.aload_n 0, 1) := by decide +kernel
theorem dX6_eventOf_87 : decode cX6_eventOf 87 = .ok (.getfield 10, 3) := by decide +kernel
theorem dX6_eventOf_90 : decode cX6_eventOf 90 = .ok (.invokevirtual 132, 3) := by decide +kernel
theorem dX6_eventOf_93 : decode cX6_eventOf 93 = .ok (.aload_n 0, 1) := by decide +kernel
theorem dX6_eventOf_94 : decode cX6_eventOf 94 = .ok (.getfield 47, 3) := by decide +kernel
theorem dX6_eventOf_97 : decode cX6_eventOf 97 = .ok (.getfield 135, 3) := by decide +kernel
theorem dX6_eventOf_100 : decode cX6_eventOf 100 = .ok (.iload_n 1, 1) := by decide +kernel
theorem dX6_eventOf_101 : decode cX6_eventOf 101 = .ok (.invokevirtual 139, 3) := by decide +kernel
theorem dX6_eventOf_104 : decode cX6_eventOf 104 = .ok (.ireturn, 1) := by decide +kernel
theorem dX6_eventOf_105 : decode cX6_eventOf 105 = .ok (.aload_n 0, 1) := by decide +kernel
theorem dX6_eventOf_106 : decode cX6_eventOf 106 = .ok (.getfield 47, 3) := by decide +kernel
theorem dX6_eventOf_109 : decode cX6_eventOf 109 = .ok (.aload_n 0, 1) := by decide +kernel
theorem dX6_eventOf_110 : decode cX6_eventOf 110 = .ok (.getfield 10, 3) := by decide +kernel
theorem dX6_eventOf_113 : decode cX6_eventOf 113 = .ok (.invokevirtual 132, 3) := by decide +kernel
theorem dX6_eventOf_116 : decode cX6_eventOf 116 = .ok (.aload_n 0, 1) := by decide +kernel
theorem dX6_eventOf_117 : decode cX6_eventOf 117 = .ok (.getfield 47, 3) := by decide +kernel
theorem dX6_eventOf_120 : decode cX6_eventOf 120 = .ok (.aload_n 0, 1) := by decide +kernel
theorem dX6_eventOf_121 : decode cX6_eventOf 121 = .ok (.getfield 10, 3) := by decide +kernel
theorem dX6_eventOf_124 : decode cX6_eventOf 124 = .ok (.invokevirtual 144, 3) := by decide +kernel
theorem dX6_eventOf_127 : decode cX6_eventOf 127 = .ok (.pop, 1) := by decide +kernel
theorem dX6_eventOf_128 : decode cX6_eventOf 128 = .ok (.aload_n 0, 1) := by decide +kernel
theorem dX6_eventOf_129 : decode cX6_eventOf 129 = .ok (.getfield 47, 3) := by decide +kernel
theorem dX6_eventOf_132 : decode cX6_eventOf 132 = .ok (.iload_n 1, 1) := by decide +kernel
theorem dX6_eventOf_133 : decode cX6_eventOf 133 = .ok (.invokevirtual 148, 3) := by decide +kernel
theorem dX6_eventOf_136 : decode cX6_eventOf 136 = .ok (.ireturn, 1) := by decide +kernel
theorem dX6_eventOf_137 : decode cX6_eventOf 137 = .ok (.bipush (-2), 2) := by decide +kernel
theorem dX6_eventOf_139 : decode cX6_eventOf 139 = .ok (.ireturn, 1) := by decide +kernel
theorem dX6_pattern_0 : decode cX6_pattern 0 = .ok (.aload_n 0, 1) := by decide +kernel
theorem dX6_pattern_1 : decode cX6_pattern 1 = .ok (.iload_n 1, 1) := by decide +kernel
theorem dX6_pattern_2 : decode cX6_pattern 2 = .ok (.invokevirtual 91, 3) := by decide +kernel
theorem dX6_pattern_5 : decode cX6_pattern 5 = .ok (.ifCond .ne 5, 3) := by decide +kernel
theorem dX6_pattern_8 : decode cX6_pattern 8 = .ok (.iconst (-1), 1) := by decide +kernel
theorem dX6_pattern_9 : decode cX6_pattern 9 = .ok (.ireturn, 1) := by decide +kernel
theorem dX6_pattern_10 : decode cX6_pattern 10 = .ok (.aload_n 0, 1) := by decide +kernel
theorem dX6_pattern_11 : decode cX6_pattern 11 = .ok (.getfield 10, 3) := by decide +kernel
theorem dX6_pattern_14 : decode cX6_pattern 14 = .ok (.getfield 98, 3) := by decide +kernel
theorem dX6_pattern_17 : decode cX6_pattern 17 = .ok (.iload_n 1, 1) := by decide +kernel
theorem dX6_pattern_18 : decode cX6_pattern 18 = .ok (.aaload, 1) := by decide +kernel
theorem dX6_pattern_19 : decode cX6_pattern 19 = .ok (.astore_n 3, 1) := by decide +kernel
theorem dX6_pattern_20 : decode cX6_pattern 20 = .ok (.iload_n 2, 1) := by decide +kernel
theorem dX6_pattern_21 : decode cX6_pattern 21 = .ok (.tableswitch 102 0 6 #[43, 48, 53, 58, 63, 76, 89], 43) := by decide +kernel
theorem dX6_pattern_64 : decode cX6_pattern 64 = .ok (.aload_n 3, 1) := by decide +kernel
theorem dX6_pattern_65 : decode cX6_pattern 65 = .ok (.getfield 102, 3) := by decide +kernel
theorem dX6_pattern_68 : decode cX6_pattern 68 = .ok (.ireturn, 1) := by decide +kernel
theorem dX6_pattern_69 : decode cX6_pattern 69 = .ok (.aload_n 3, 1) := by decide +kernel
theorem dX6_pattern_70 : decode cX6_pattern 70 = .ok (.getfield 151, 3) := by decide +kernel
theorem dX6_pattern_73 : decode cX6_pattern 73 = .ok (.ireturn, 1) := by decide +kernel
theorem dX6_pattern_74 : decode cX6_pattern 74 = .ok (.aload_n 3, 1) := by decide +kernel
theorem dX6_pattern_75 : decode cX6_pattern 75 = .ok (.getfield 154, 3) := by decide +kernel
theorem dX6_pattern_78 : decode cX6_pattern 78 = .ok (.ireturn, 1) := by decide +kernel
theorem dX6_pattern_79 : decode cX6_pattern 79 = .ok (.aload_n 3, 1) := by decide +kernel
theorem dX6_pattern_80 : decode cX6_pattern 80 = .ok (.getfield 157, 3) := by decide +kernel
theorem dX6_pattern_83 : decode cX6_pattern 83 = .ok (.ireturn, 1) := by decide +kernel
theorem dX6_pattern_84 : decode cX6_pattern 84 = .ok (.aload_n 0, 1) := by decide +kernel
theorem dX6_pattern_85 : decode cX6_pattern 85 = .ok (.aload_n 3, 1) := by decide +kernel
theorem dX6_pattern_86 : decode cX6_pattern 86 = .ok (.invokevirtual 160, 3) := by decide +kernel
theorem dX6_pattern_89 : decode cX6_pattern 89 = .ok (.aload_n 0, 1) := by decide +kernel
theorem dX6_pattern_90 : decode cX6_pattern 90 = .ok (.getfield 47, 3) := by decide +kernel
theorem dX6_pattern_93 : decode cX6_pattern 93 = .ok (.getfield 164, 3) := by decide +kernel
theorem dX6_pattern_96 : decode cX6_pattern 96 = .ok (.ireturn, 1) := by decide +kernel
theorem dX6_pattern_97 : decode cX6_pattern 97 = .ok (.aload_n 0, 1) := by decide +kernel
theorem dX6_pattern_98 : decode cX6_pattern 98 = .ok (.aload_n 3, 1) := by decide +kernel
theorem dX6_pattern_99 : decode cX6_pattern 99 = .ok (.invokevirtual 160, 3) := by decide +kernel
theorem dX6_pattern_102 : decode cX6_pattern 102 = .ok (.aload_n 0, 1) := by decide +kernel
theorem dX6_pattern_103 : decode cX6_pattern 103 = .ok (.getfield 47, 3) := by decide +kernel
theorem dX6_pattern_106 : decode cX6_pattern 106 = .ok (.getfield 167, 3) := by decide +kernel
theorem dX6_pattern_109 : decode cX6_pattern 109 = .ok (.ireturn, 1) := by decide +kernel
theorem dX6_pattern_110 : decode cX6_pattern 110 = .ok (.aload_n 0, 1) := by decide +kernel
theorem dX6_pattern_111 : decode cX6_pattern 111 = .ok (.aload_n 3, 1) := by decide +kernel
theorem dX6_pattern_112 : decode cX6_pattern 112 = .ok (.invokevirtual 160, 3) := by decide +kernel
theorem dX6_pattern_115 : decode cX6_pattern 115 = .ok (.aload_n 0, 1) := by decide +kernel
theorem dX6_pattern_116 : decode cX6_pattern 116 = .ok (.getfield 47, 3) := by decide +kernel
theorem dX6_pattern_119 : decode cX6_pattern 119 = .ok (.getfield 170, 3) := by decide +kernel
theorem dX6_pattern_122 : decode cX6_pattern 122 = .ok (.ireturn, 1) := by decide +kernel
theorem dX6_pattern_123 : decode cX6_pattern 123 = .ok (.bipush (-2), 2) := by decide +kernel
theorem dX6_pattern_125 : decode cX6_pattern 125 = .ok (.ireturn, 1) := by decide +kernel
theorem dX6_step_0 : decode cX6_step 0 = .ok (.aload_n 0, 1) := by decide +kernel
theorem dX6_step_1 : decode cX6_step 1 = .ok (.iload_n 1, 1) := by decide +kernel
theorem dX6_step_2 : decode cX6_step 2 = .ok (.invokevirtual 91, 3) := by decide +kernel
theorem dX6_step_5 : decode cX6_step 5 = .ok (.ifCond .ne 5, 3) := by decide +kernel
theorem dX6_step_8 : decode cX6_step 8 = .ok (.iconst (-1), 1) := by decide +kernel
theorem dX6_step_9 : decode cX6_step 9 = .ok (.ireturn, 1) := by decide +kernel
theorem dX6_step_10 : decode cX6_step 10 = .ok (.aload_n 0, 1) := by decide +kernel
theorem dX6_step_11 : decode cX6_step 11 = .ok (.getfield 10, 3) := by decide +kernel
theorem dX6_step_14 : decode cX6_step 14 = .ok (.getfield 98, 3) := by decide +kernel
theorem dX6_step_17 : decode cX6_step 17 = .ok (.iload_n 1, 1) := by decide +kernel
theorem dX6_step_18 : decode cX6_step 18 = .ok (.aaload, 1) := by decide +kernel
theorem dX6_step_19 : decode cX6_step 19 = .ok (.astore 4, 2) := by decide +kernel
theorem dX6_step_21 : decode cX6_step 21 = .ok (.iload_n 2, 1) := by decide +kernel
theorem dX6_step_22 : decode cX6_step 22 = .ok (.ifCond .lt 12, 3) := by decide +kernel
theorem dX6_step_25 : decode cX6_step 25 = .ok (.iload_n 2, 1) := by decide +kernel
theorem dX6_step_26 : decode cX6_step 26 = .ok (.aload 4, 2) := by decide +kernel
theorem dX6_step_28 : decode cX6_step 28 = .ok (.getfield 154, 3) := by decide +kernel
theorem dX6_step_31 : decode cX6_step 31 = .ok (.if_icmp .lt 6, 3) := by decide +kernel
theorem dX6_step_34 : decode cX6_step 34 = .ok (.bipush (-2), 2) := by decide +kernel
theorem dX6_step_36 : decode cX6_step 36 = .ok (.ireturn, 1) := by decide +kernel
theorem dX6_step_37 : decode cX6_step 37 = .ok (.iload_n 3, 1) := by decide +kernel
theorem dX6_step_38 : decode cX6_step 38 = .ok (.lookupswitch 50 #[(0, 26), (1, 34)], 26) := by decide +kernel
theorem dX6_step_64 : decode cX6_step 64 = .ok (.aload 4, 2) := by decide +kernel
theorem dX6_step_66 : decode cX6_step 66 = .ok (.getfield 173, 3) := by decide +kernel
theorem dX6_step_69 : decode cX6_step 69 = .ok (.iload_n 2, 1) := by decide +kernel
theorem dX6_step_70 : decode cX6_step 70 = .ok (.caload, 1) := by decide +kernel
theorem dX6_step_71 : decode cX6_step 71 = .ok (.ireturn, 1) := by decide +kernel
theorem dX6_step_72 : decode cX6_step 72 = .ok (.aload 4, 2) := by decide +kernel
theorem dX6_step_74 : decode cX6_step 74 = .ok (.getfield 174, 3) := by decide +kernel
theorem dX6_step_77 : decode cX6_step 77 = .ok (.iload_n 2, 1) := by decide +kernel
theorem dX6_step_78 : decode cX6_step 78 = .ok (.baload, 1) := by decide +kernel
theorem dX6_step_79 : decode cX6_step 79 = .ok (.ifCond .eq 7, 3) := by decide +kernel
theorem dX6_step_82 : decode cX6_step 82 = .ok (.iconst 1, 1) := by decide +kernel
theorem dX6_step_83 : decode cX6_step 83 = .ok (.goto 4, 3) := by decide +kernel
theorem dX6_step_86 : decode cX6_step 86 = .ok (.iconst 0, 1) := by decide +kernel
theorem dX6_step_87 : decode cX6_step 87 = .ok (.ireturn, 1) := by decide +kernel
theorem dX6_step_88 : decode cX6_step 88 = .ok (.bipush (-2), 2) := by decide +kernel
theorem dX6_step_90 : decode cX6_step 90 = .ok (.ireturn, 1) := by decide +kernel
theorem dX6_match_0 : decode cX6_match 0 = .ok (.aload_n 0, 1) := by decide +kernel
theorem dX6_match_1 : decode cX6_match 1 = .ok (.iload_n 1, 1) := by decide +kernel
theorem dX6_match_2 : decode cX6_match 2 = .ok (.invokevirtual 91, 3) := by decide +kernel
theorem dX6_match_5 : decode cX6_match 5 = .ok (.ifCond .ne 5, 3) := by decide +kernel
theorem dX6_match_8 : decode cX6_match 8 = .ok (.iconst (-1), 1) := by decide +kernel
theorem dX6_match_9 : decode cX6_match 9 = .ok (.ireturn, 1) := by decide +kernel
theorem dX6_match_10 : decode cX6_match 10 = .ok (.aload_n 0, 1) := by decide +kernel
theorem dX6_match_11 : decode cX6_match 11 = .ok (.getfield 10, 3) := by decide +kernel
theorem dX6_match_14 : decode cX6_match 14 = .ok (.getfield 98, 3) := by decide +kernel
theorem dX6_match_17 : decode cX6_match 17 = .ok (.iload_n 1, 1) := by decide +kernel
theorem dX6_match_18 : decode cX6_match 18 = .ok (.aaload, 1) := by decide +kernel
theorem dX6_match_19 : decode cX6_match 19 = .ok (.astore 4, 2) := by decide +kernel
theorem dX6_match_21 : decode cX6_match 21 = .ok (.iload_n 2, 1) := by decide +kernel
theorem dX6_match_22 : decode cX6_match 22 = .ok (.ifCond .lt 16, 3) := by decide +kernel
theorem dX6_match_25 : decode cX6_match 25 = .ok (.iload_n 3, 1) := by decide +kernel
theorem dX6_match_26 : decode cX6_match 26 = .ok (.ifCond .lt 12, 3) := by decide +kernel
theorem dX6_match_29 : decode cX6_match 29 = .ok (.iload_n 3, 1) := by decide +kernel
theorem dX6_match_30 : decode cX6_match 30 = .ok (.aload 4, 2) := by decide +kernel
theorem dX6_match_32 : decode cX6_match 32 = .ok (.getfield 157, 3) := by decide +kernel
theorem dX6_match_35 : decode cX6_match 35 = .ok (.if_icmp .lt 6, 3) := by decide +kernel
theorem dX6_match_38 : decode cX6_match 38 = .ok (.bipush (-2), 2) := by decide +kernel
theorem dX6_match_40 : decode cX6_match 40 = .ok (.ireturn, 1) := by decide +kernel
theorem dX6_match_41 : decode cX6_match 41 = .ok (.aload_n 0, 1) := by decide +kernel
theorem dX6_match_42 : decode cX6_match 42 = .ok (.getfield 47, 3) := by decide +kernel
theorem dX6_match_45 : decode cX6_match 45 = .ok (.aload_n 0, 1) := by decide +kernel
theorem dX6_match_46 : decode cX6_match 46 = .ok (.getfield 10, 3) := by decide +kernel
theorem dX6_match_49 : decode cX6_match 49 = .ok (.invokevirtual 132, 3) := by decide +kernel
theorem dX6_match_52 : decode cX6_match 52 = .ok (.aload_n 0, 1) := by decide +kernel
theorem dX6_match_53 : decode cX6_match 53 = .ok (.getfield 47, 3) := by decide +kernel
theorem dX6_match_56 : decode cX6_match 56 = .ok (.iload_n 2, 1) := by decide +kernel
theorem dX6_match_57 : decode cX6_match 57 = .ok (.iload_n 3, 1) := by decide +kernel
theorem dX6_match_58 : decode cX6_match 58 = .ok (.invokevirtual 178, 3) := by decide +kernel
theorem dX6_match_61 : decode cX6_match 61 = .ok (.aload_n 0, 1) := by decide +kernel
theorem dX6_match_62 : decode cX6_match 62 = .ok (.getfield 47, 3) := by decide +kernel
theorem dX6_match_65 : decode cX6_match 65 = .ok (.aload 4, 2) := by decide +kernel
theorem dX6_match_67 : decode cX6_match 67 = .ok (.invokevirtual 182, 3) := by decide +kernel
theorem dX6_match_70 : decode cX6_match 70 = .ok (.aload_n 0, 1) := by decide +kernel
theorem dX6_match_71 : decode cX6_match 71 = .ok (.getfield 47, 3) := by decide +kernel
theorem dX6_match_74 : decode cX6_match 74 = .ok (.getfield 185, 3) := by decide +kernel
theorem dX6_match_77 : decode cX6_match 77 = .ok (.ireturn, 1) := by decide +kernel
theorem dX6_ifEvent_0 : decode cX6_ifEvent 0 = .ok (.aload_n 0, 1) := by decide +kernel
theorem dX6_ifEvent_1 : decode cX6_ifEvent 1 = .ok (.iload_n 1, 1) := by decide +kernel
theorem dX6_ifEvent_2 : decode cX6_ifEvent 2 = .ok (.iload_n 2, 1) := by decide +kernel
theorem dX6_ifEvent_3 : decode cX6_ifEvent 3 = .ok (.iload_n 3, 1) := by decide +kernel
theorem dX6_ifEvent_4 : decode cX6_ifEvent 4 = .ok (.invokevirtual 51, 3) := by decide +kernel
theorem dX6_ifEvent_7 : decode cX6_ifEvent 7 = .ok (.istore 4, 2) := by decide +kernel
theorem dX6_ifEvent_9 : decode cX6_ifEvent 9 = .ok (.iload 4, 2) := by decide +kernel
theorem dX6_ifEvent_11 : decode cX6_ifEvent 11 = .ok (.ifCond .eq 6, 3) := by decide +kernel
theorem dX6_ifEvent_14 : decode cX6_ifEvent 14 = .ok (.iload 4, 2) := by decide +kernel
theorem dX6_ifEvent_16 : decode cX6_ifEvent 16 = .ok (.ireturn, 1) := by decide +kernel
theorem dX6_ifEvent_17 : decode cX6_ifEvent 17 = .ok (.aload_n 0, 1) := by decide +kernel
theorem dX6_ifEvent_18 : decode cX6_ifEvent 18 = .ok (.getfield 47, 3) := by decide +kernel
theorem dX6_ifEvent_21 : decode cX6_ifEvent 21 = .ok (.aload_n 0, 1) := by decide +kernel
theorem dX6_ifEvent_22 : decode cX6_ifEvent 22 = .ok (.getfield 10, 3) := by decide +kernel
theorem dX6_ifEvent_25 : decode cX6_ifEvent 25 = .ok (.invokevirtual 132, 3) := by decide +kernel
theorem dX6_ifEvent_28 : decode cX6_ifEvent 28 = .ok (.aload_n 0, 1) := by decide +kernel
theorem dX6_ifEvent_29 : decode cX6_ifEvent 29 = .ok (.getfield 47, 3) := by decide +kernel
theorem dX6_ifEvent_32 : decode cX6_ifEvent 32 = .ok (.getfield 135, 3) := by decide +kernel
theorem dX6_ifEvent_35 : decode cX6_ifEvent 35 = .ok (.aload_n 0, 1) := by decide +kernel
theorem dX6_ifEvent_36 : decode cX6_ifEvent 36 = .ok (.getfield 10, 3) := by decide +kernel
theorem dX6_ifEvent_39 : decode cX6_ifEvent 39 = .ok (.getfield 55, 3) := by decide +kernel
theorem dX6_ifEvent_42 : decode cX6_ifEvent 42 = .ok (.iload_n 1, 1) := by decide +kernel
theorem dX6_ifEvent_43 : decode cX6_ifEvent 43 = .ok (.iload_n 2, 1) := by decide +kernel
theorem dX6_ifEvent_44 : decode cX6_ifEvent 44 = .ok (.iload_n 3, 1) := by decide +kernel
theorem dX6_ifEvent_45 : decode cX6_ifEvent 45 = .ok (.invokevirtual 188, 3) := by decide +kernel
theorem dX6_ifEvent_48 : decode cX6_ifEvent 48 = .ok (.aload_n 0, 1) := by decide +kernel
theorem dX6_ifEvent_49 : decode cX6_ifEvent 49 = .ok (.getfield 47, 3) := by decide +kernel
theorem dX6_ifEvent_52 : decode cX6_ifEvent 52 = .ok (.aload_n 0, 1) := by decide +kernel
theorem dX6_ifEvent_53 : decode cX6_ifEvent 53 = .ok (.getfield 10, 3) := by decide +kernel
theorem dX6_ifEvent_56 : decode cX6_ifEvent 56 = .ok (.invokevirtual 144, 3) := by decide +kernel
theorem dX6_ifEvent_59 : decode cX6_ifEvent 59 = .ok (.ireturn, 1) := by decide +kernel
theorem dX6_count_0 : decode cX6_count 0 = .ok (.iload_n 1, 1) := by decide +kernel
theorem dX6_count_1 : decode cX6_count 1 = .ok (.tableswitch 161 0 8 #[51, 59, 67, 90, 98, 106, 114, 145, 153], 51) := by decide +kernel
theorem dX6_count_52 : decode cX6_count 52 = .ok (.aload_n 0, 1) := by decide +kernel
theorem dX6_count_53 : decode cX6_count 53 = .ok (.getfield 10, 3) := by decide +kernel
theorem dX6_count_56 : decode cX6_count 56 = .ok (.getfield 55, 3) := by decide +kernel
theorem dX6_count_59 : decode cX6_count 59 = .ok (.ireturn, 1) := by decide +kernel
theorem dX6_count_60 : decode cX6_count 60 = .ok (.aload_n 0, 1) := by decide +kernel
theorem dX6_count_61 : decode cX6_count 61 = .ok (.getfield 10, 3) := by decide +kernel
theorem dX6_count_64 : decode cX6_count 64 = .ok (.getfield 85, 3) := by decide +kernel
theorem dX6_count_67 : decode cX6_count 67 = .ok (.ireturn, 1) := by decide +kernel
theorem dX6_count_68 : decode cX6_count 68 = .ok (.aload_n 0, 1) := by decide +kernel
theorem dX6_count_69 : decode cX6_count 69 = .ok (.getfield 47, 3) := by decide +kernel
theorem dX6_count_72 : decode cX6_count 72 = .ok (.aload_n 0, 1) := by decide +kernel
theorem dX6_count_73 : decode cX6_count 73 = .ok (.getfield 10, 3) := by decide +kernel
theorem dX6_count_76 : decode cX6_count 76 = .ok (.invokevirtual 132, 3) := by decide +kernel
theorem dX6_count_79 : decode cX6_count 79 = .ok (.aload_n 0, 1) := by decide +kernel
theorem dX6_count_80 : decode cX6_count 80 = .ok (.getfield 47, 3) := by decide +kernel
theorem dX6_count_83 : decode cX6_count 83 = .ok (.aload_n 0, 1) := by decide +kernel
theorem dX6_count_84 : decode cX6_count 84 = .ok (.getfield 10, 3) := by decide +kernel
theorem dX6_count_87 : decode cX6_count 87 = .ok (.invokevirtual 144, 3) := by decide +kernel
theorem dX6_count_90 : decode cX6_count 90 = .ok (.ireturn, 1) := by decide +kernel
theorem dX6_count_91 : decode cX6_count 91 = .ok (.aload_n 0, 1) := by decide +kernel
theorem dX6_count_92 : decode cX6_count 92 = .ok (.getfield 10, 3) := by decide +kernel
theorem dX6_count_95 : decode cX6_count 95 = .ok (.getfield 192, 3) := by decide +kernel
theorem dX6_count_98 : decode cX6_count 98 = .ok (.ireturn, 1) := by decide +kernel
theorem dX6_count_99 : decode cX6_count 99 = .ok (.aload_n 0, 1) := by decide +kernel
theorem dX6_count_100 : decode cX6_count 100 = .ok (.getfield 10, 3) := by decide +kernel
theorem dX6_count_103 : decode cX6_count 103 = .ok (.invokevirtual 195, 3) := by decide +kernel
theorem dX6_count_106 : decode cX6_count 106 = .ok (.ireturn, 1) := by decide +kernel
theorem dX6_count_107 : decode cX6_count 107 = .ok (.aload_n 0, 1) := by decide +kernel
theorem dX6_count_108 : decode cX6_count 108 = .ok (.getfield 10, 3) := by decide +kernel
theorem dX6_count_111 : decode cX6_count 111 = .ok (.getfield 78, 3) := by decide +kernel
theorem dX6_count_114 : decode cX6_count 114 = .ok (.ireturn, 1) := by decide +kernel
theorem dX6_count_115 : decode cX6_count 115 = .ok (.aload_n 0, 1) := by decide +kernel
theorem dX6_count_116 : decode cX6_count 116 = .ok (.getfield 47, 3) := by decide +kernel
theorem dX6_count_119 : decode cX6_count 119 = .ok (.aload_n 0, 1) := by decide +kernel
theorem dX6_count_120 : decode cX6_count 120 = .ok (.getfield 10, 3) := by decide +kernel
theorem dX6_count_123 : decode cX6_count 123 = .ok (.invokevirtual 132, 3) := by decide +kernel
theorem dX6_count_126 : decode cX6_count 126 = .ok (.aload_n 0, 1) := by decide +kernel
theorem dX6_count_127 : decode cX6_count 127 = .ok (.getfield 47, 3) := by decide +kernel
theorem dX6_count_130 : decode cX6_count 130 = .ok (.aload_n 0, 1) := by decide +kernel
theorem dX6_count_131 : decode cX6_count 131 = .ok (.getfield 10, 3) := by decide +kernel
theorem dX6_count_134 : decode cX6_count 134 = .ok (.invokevirtual 144, 3) := by decide +kernel
theorem dX6_count_137 : decode cX6_count 137 = .ok (.pop, 1) := by decide +kernel
theorem dX6_count_138 : decode cX6_count 138 = .ok (.aload_n 0, 1) := by decide +kernel
theorem dX6_count_139 : decode cX6_count 139 = .ok (.getfield 47, 3) := by decide +kernel
theorem dX6_count_142 : decode cX6_count 142 = .ok (.invokevirtual 199, 3) := by decide +kernel
theorem dX6_count_145 : decode cX6_count 145 = .ok (.ireturn, 1) := by decide +kernel
theorem dX6_count_146 : decode cX6_count 146 = .ok (.aload_n 0, 1) := by decide +kernel
theorem dX6_count_147 : decode cX6_count 147 = .ok (.getfield 26, 3) := by decide +kernel
theorem dX6_count_150 : decode cX6_count 150 = .ok (.getfield 112, 3) := by decide +kernel
theorem dX6_count_153 : decode cX6_count 153 = .ok (.ireturn, 1) := by decide +kernel
theorem dX6_count_154 : decode cX6_count 154 = .ok (.aload_n 0, 1) := by decide +kernel
theorem dX6_count_155 : decode cX6_count 155 = .ok (.getfield 33, 3) := by decide +kernel
theorem dX6_count_158 : decode cX6_count 158 = .ok (.getfield 109, 3) := by decide +kernel
theorem dX6_count_161 : decode cX6_count 161 = .ok (.ireturn, 1) := by decide +kernel
theorem dX6_count_162 : decode cX6_count 162 = .ok (.bipush (-2), 2) := by decide +kernel
theorem dX6_count_164 : decode cX6_count 164 = .ok (.ireturn, 1) := by decide +kernel
theorem dX6_isWithin_0 : decode cX6_isWithin 0 = .ok (.iload_n 0, 1) := by decide +kernel
theorem dX6_isWithin_1 : decode cX6_isWithin 1 = .ok (.iload_n 1, 1) := by decide +kernel
theorem dX6_isWithin_2 : decode cX6_isWithin 2 = .ok (.if_icmp .lt 12, 3) := by decide +kernel
theorem dX6_isWithin_5 : decode cX6_isWithin 5 = .ok (.iload_n 0, 1) := by decide +kernel
theorem dX6_isWithin_6 : decode cX6_isWithin 6 = .ok (.iload_n 2, 1) := by decide +kernel
theorem dX6_isWithin_7 : decode cX6_isWithin 7 = .ok (.if_icmp .gt 7, 3) := by decide +kernel
theorem dX6_isWithin_10 : decode cX6_isWithin 10 = .ok (.iconst 1, 1) := by decide +kernel
theorem dX6_isWithin_11 : decode cX6_isWithin 11 = .ok (.goto 4, 3) := by decide +kernel
theorem dX6_isWithin_14 : decode cX6_isWithin 14 = .ok (.iconst 0, 1) := by decide +kernel
theorem dX6_isWithin_15 : decode cX6_isWithin 15 = .ok (.ireturn, 1) := by decide +kernel
theorem dX6_isKind_0 : decode cX6_isKind 0 = .ok (.iload_n 0, 1) := by decide +kernel
theorem dX6_isKind_1 : decode cX6_isKind 1 = .ok (.bipush 97, 2) := by decide +kernel
theorem dX6_isKind_3 : decode cX6_isKind 3 = .ok (.if_icmp .lt 13, 3) := by decide +kernel
theorem dX6_isKind_6 : decode cX6_isKind 6 = .ok (.iload_n 0, 1) := by decide +kernel
theorem dX6_isKind_7 : decode cX6_isKind 7 = .ok (.bipush 104, 2) := by decide +kernel
theorem dX6_isKind_9 : decode cX6_isKind 9 = .ok (.if_icmp .gt 7, 3) := by decide +kernel
theorem dX6_isKind_12 : decode cX6_isKind 12 = .ok (.iconst 1, 1) := by decide +kernel
theorem dX6_isKind_13 : decode cX6_isKind 13 = .ok (.goto 4, 3) := by decide +kernel
theorem dX6_isKind_16 : decode cX6_isKind 16 = .ok (.iconst 0, 1) := by decide +kernel
theorem dX6_isKind_17 : decode cX6_isKind 17 = .ok (.ireturn, 1) := by decide +kernel
theorem dX6_isPattern_0 : decode cX6_isPattern 0 = .ok (.iload_n 1, 1) := by decide +kernel
theorem dX6_isPattern_1 : decode cX6_isPattern 1 = .ok (.ifCond .lt 18, 3) := by decide +kernel
theorem dX6_isPattern_4 : decode cX6_isPattern 4 = .ok (.iload_n 1, 1) := by decide +kernel
theorem dX6_isPattern_5 : decode cX6_isPattern 5 = .ok (.aload_n 0, 1) := by decide +kernel
theorem dX6_isPattern_6 : decode cX6_isPattern 6 = .ok (.getfield 10, 3) := by decide +kernel
theorem dX6_isPattern_9 : decode cX6_isPattern 9 = .ok (.getfield 85, 3) := by decide +kernel
theorem dX6_isPattern_12 : decode cX6_isPattern 12 = .ok (.if_icmp .ge 7, 3) := by decide +kernel
theorem dX6_isPattern_15 : decode cX6_isPattern 15 = .ok (.iconst 1, 1) := by decide +kernel
theorem dX6_isPattern_16 : decode cX6_isPattern 16 = .ok (.goto 4, 3) := by decide +kernel
theorem dX6_isPattern_19 : decode cX6_isPattern 19 = .ok (.iconst 0, 1) := by decide +kernel
theorem dX6_isPattern_20 : decode cX6_isPattern 20 = .ok (.ireturn, 1) := by decide +kernel
theorem dX6_errorOfEvent_0 : decode cX6_errorOfEvent 0 = .ok (.iload_n 1, 1) := by decide +kernel
theorem dX6_errorOfEvent_1 : decode cX6_errorOfEvent 1 = .ok (.invokestatic 202, 3) := by decide +kernel
theorem dX6_errorOfEvent_4 : decode cX6_errorOfEvent 4 = .ok (.ifCond .eq 24, 3) := by decide +kernel
theorem dX6_errorOfEvent_7 : decode cX6_errorOfEvent 7 = .ok (.iload_n 2, 1) := by decide +kernel
theorem dX6_errorOfEvent_8 : decode cX6_errorOfEvent 8 = .ok (.iconst 0, 1) := by decide +kernel
theorem dX6_errorOfEvent_9 : decode cX6_errorOfEvent 9 = .ok (.bipush 99, 2) := by decide +kernel
theorem dX6_errorOfEvent_11 : decode cX6_errorOfEvent 11 = .ok (.invokestatic 66, 3) := by decide +kernel
theorem dX6_errorOfEvent_14 : decode cX6_errorOfEvent 14 = .ok (.ifCond .eq 14, 3) := by decide +kernel
theorem dX6_errorOfEvent_17 : decode cX6_errorOfEvent 17 = .ok (.iload_n 3, 1) := by decide +kernel
theorem dX6_errorOfEvent_18 : decode cX6_errorOfEvent 18 = .ok (.iconst 0, 1) := by decide +kernel
theorem dX6_errorOfEvent_19 : decode cX6_errorOfEvent 19 = .ok (.sipush 9999, 3) := by decide +kernel
theorem dX6_errorOfEvent_22 : decode cX6_errorOfEvent 22 = .ok (.invokestatic 66, 3) := by decide +kernel
theorem dX6_errorOfEvent_25 : decode cX6_errorOfEvent 25 = .ok (.ifCond .ne 6, 3) := by decide +kernel
theorem dX6_errorOfEvent_28 : decode cX6_errorOfEvent 28 = .ok (.bipush (-2), 2) := by decide +kernel
theorem dX6_errorOfEvent_30 : decode cX6_errorOfEvent 30 = .ok (.ireturn, 1) := by decide +kernel
theorem dX6_errorOfEvent_31 : decode cX6_errorOfEvent 31 = .ok (.iload_n 3, 1) := by decide +kernel
theorem dX6_errorOfEvent_32 : decode cX6_errorOfEvent 32 = .ok (.aload_n 0, 1) := by decide +kernel
theorem dX6_errorOfEvent_33 : decode cX6_errorOfEvent 33 = .ok (.getfield 10, 3) := by decide +kernel
theorem dX6_errorOfEvent_36 : decode cX6_errorOfEvent 36 = .ok (.getfield 192, 3) := by decide +kernel
theorem dX6_errorOfEvent_39 : decode cX6_errorOfEvent 39 = .ok (.aload_n 0, 1) := by decide +kernel
theorem dX6_errorOfEvent_40 : decode cX6_errorOfEvent 40 = .ok (.getfield 10, 3) := by decide +kernel
theorem dX6_errorOfEvent_43 : decode cX6_errorOfEvent 43 = .ok (.getfield 78, 3) := by decide +kernel
theorem dX6_errorOfEvent_46 : decode cX6_errorOfEvent 46 = .ok (.isub, 1) := by decide +kernel
theorem dX6_errorOfEvent_47 : decode cX6_errorOfEvent 47 = .ok (.if_icmp .ge 8, 3) := by decide +kernel
theorem dX6_errorOfEvent_50 : decode cX6_errorOfEvent 50 = .ok (.bipush (-4), 2) := by decide +kernel
theorem dX6_errorOfEvent_52 : decode cX6_errorOfEvent 52 = .ok (.goto 4, 3) := by decide +kernel
theorem dX6_errorOfEvent_55 : decode cX6_errorOfEvent 55 = .ok (.iconst 0, 1) := by decide +kernel
theorem dX6_errorOfEvent_56 : decode cX6_errorOfEvent 56 = .ok (.ireturn, 1) := by decide +kernel
theorem dX6_searchFor_0 : decode cX6_searchFor 0 = .ok (.aload_n 0, 1) := by decide +kernel
theorem dX6_searchFor_1 : decode cX6_searchFor 1 = .ok (.getfield 47, 3) := by decide +kernel
theorem dX6_searchFor_4 : decode cX6_searchFor 4 = .ok (.aload_n 0, 1) := by decide +kernel
theorem dX6_searchFor_5 : decode cX6_searchFor 5 = .ok (.getfield 10, 3) := by decide +kernel
theorem dX6_searchFor_8 : decode cX6_searchFor 8 = .ok (.invokevirtual 132, 3) := by decide +kernel
theorem dX6_searchFor_11 : decode cX6_searchFor 11 = .ok (.aload_n 0, 1) := by decide +kernel
theorem dX6_searchFor_12 : decode cX6_searchFor 12 = .ok (.getfield 47, 3) := by decide +kernel
theorem dX6_searchFor_15 : decode cX6_searchFor 15 = .ok (.aload_n 1, 1) := by decide +kernel
theorem dX6_searchFor_16 : decode cX6_searchFor 16 = .ok (.invokevirtual 182, 3) := by decide +kernel
theorem dX6_searchFor_19 : decode cX6_searchFor 19 = .ok (.return_, 1) := by decide +kernel
theorem dJ9_max_7cf53_0 : decode cJ9_max_7cf53 0 = .ok (.iload_n 0, 1) := by decide +kernel
theorem dJ9_max_7cf53_1 : decode cJ9_max_7cf53 1 = .ok (.iload_n 1, 1) := by decide +kernel
theorem dJ9_max_7cf53_2 : decode cJ9_max_7cf53 2 = .ok (.if_icmp .lt 7, 3) := by decide +kernel
theorem dJ9_max_7cf53_5 : decode cJ9_max_7cf53 5 = .ok (.iload_n 0, 1) := by decide +kernel
theorem dJ9_max_7cf53_6 : decode cJ9_max_7cf53 6 = .ok (.goto 4, 3) := by decide +kernel
theorem dJ9_max_7cf53_9 : decode cJ9_max_7cf53 9 = .ok (.iload_n 1, 1) := by decide +kernel
theorem dJ9_max_7cf53_10 : decode cJ9_max_7cf53 10 = .ok (.ireturn, 1) := by decide +kernel
theorem dJ0_length_8abf5_0 : decode cJ0_length_8abf5 0 = .ok (.aload_n 0, 1) := by decide +kernel
theorem dJ0_length_8abf5_1 : decode cJ0_length_8abf5 1 = .ok (.getfield 9, 3) := by decide +kernel
theorem dJ0_length_8abf5_4 : decode cJ0_length_8abf5 4 = .ok (.arraylength, 1) := by decide +kernel
theorem dJ0_length_8abf5_5 : decode cJ0_length_8abf5 5 = .ok (.aload_n 0, 1) := by decide +kernel
theorem dJ0_length_8abf5_6 : decode cJ0_length_8abf5 6 = .ok (.invokevirtual 335, 3) := by decide +kernel
theorem dJ0_length_8abf5_9 : decode cJ0_length_8abf5 9 = .ok (.ishr, 1) := by decide +kernel
theorem dJ0_length_8abf5_10 : decode cJ0_length_8abf5 10 = .ok (.ireturn, 1) := by decide +kernel
theorem dJ0_charAt_5068e_0 : decode cJ0_charAt_5068e 0 = .ok (.aload_n 0, 1) := by decide +kernel
theorem dJ0_charAt_5068e_1 : decode cJ0_charAt_5068e 1 = .ok (.invokevirtual 492, 3) := by decide +kernel
theorem dJ0_charAt_5068e_4 : decode cJ0_charAt_5068e 4 = .ok (.ifCond .eq 12, 3) := by decide +kernel
theorem dJ0_charAt_5068e_7 : decode cJ0_charAt_5068e 7 = .ok (.aload_n 0, 1) := by decide +kernel
theorem dJ0_charAt_5068e_8 : decode cJ0_charAt_5068e 8 = .ok (.getfield 9, 3) := by decide +kernel
theorem dJ0_charAt_5068e_11 : decode cJ0_charAt_5068e 11 = .ok (.iload_n 1, 1) := by decide +kernel
theorem dJ0_charAt_5068e_12 : decode cJ0_charAt_5068e 12 = .ok (.invokestatic 495, 3) := by decide +kernel
theorem dJ0_charAt_5068e_15 : decode cJ0_charAt_5068e 15 = .ok (.ireturn, 1) := by decide +kernel
theorem dJ0_charAt_5068e_16 : decode cJ0_charAt_5068e 16 = .ok (.aload_n 0, 1) := by decide +kernel
theorem dJ0_charAt_5068e_17 : decode cJ0_charAt_5068e 17 = .ok (.getfield 9, 3) := by decide +kernel
theorem dJ0_charAt_5068e_20 : decode cJ0_charAt_5068e 20 = .ok (.iload_n 1, 1) := by decide +kernel
theorem dJ0_charAt_5068e_21 : decode cJ0_charAt_5068e 21 = .ok (.invokestatic 498, 3) := by decide +kernel
theorem dJ0_charAt_5068e_24 : decode cJ0_charAt_5068e 24 = .ok (.ireturn, 1) := by decide +kernel
theorem dJ0_coder_7d493_0 : decode cJ0_coder_7d493 0 = .ok (.getstatic 38, 3) := by decide +kernel
theorem dJ0_coder_7d493_3 : decode cJ0_coder_7d493 3 = .ok (.ifCond .eq 10, 3) := by decide +kernel
theorem dJ0_coder_7d493_6 : decode cJ0_coder_7d493 6 = .ok (.aload_n 0, 1) := by decide +kernel
theorem dJ0_coder_7d493_7 : decode cJ0_coder_7d493 7 = .ok (.getfield 15, 3) := by decide +kernel
theorem dJ0_coder_7d493_10 : decode cJ0_coder_7d493 10 = .ok (.goto 4, 3) := by decide +kernel
theorem dJ0_coder_7d493_13 : decode cJ0_coder_7d493 13 = .ok (.iconst 1, 1) := by decide +kernel
theorem dJ0_coder_7d493_14 : decode cJ0_coder_7d493 14 = .ok (.ireturn, 1) := by decide +kernel
theorem dJ0_isLatin1_aae02_0 : decode cJ0_isLatin1_aae02 0 = .ok (.getstatic 38, 3) := by decide +kernel
theorem dJ0_isLatin1_aae02_3 : decode cJ0_isLatin1_aae02 3 = .ok (.ifCond .eq 14, 3) := by decide +kernel
theorem dJ0_isLatin1_aae02_6 : decode cJ0_isLatin1_aae02 6 = .ok (.aload_n 0, 1) := by decide +kernel
theorem dJ0_isLatin1_aae02_7 : decode cJ0_isLatin1_aae02 7 = .ok (.getfield 15, 3) := by decide +kernel
theorem dJ0_isLatin1_aae02_10 : decode cJ0_isLatin1_aae02 10 = .ok (.ifCond .ne 7, 3) := by decide +kernel
theorem dJ0_isLatin1_aae02_13 : decode cJ0_isLatin1_aae02 13 = .ok (.iconst 1, 1) := by decide +kernel
theorem dJ0_isLatin1_aae02_14 : decode cJ0_isLatin1_aae02 14 = .ok (.goto 4, 3) := by decide +kernel
theorem dJ0_isLatin1_aae02_17 : decode cJ0_isLatin1_aae02 17 = .ok (.iconst 0, 1) := by decide +kernel
theorem dJ0_isLatin1_aae02_18 : decode cJ0_isLatin1_aae02 18 = .ok (.ireturn, 1) := by decide +kernel
theorem dJ0_checkIndex_df160_0 : decode cJ0_checkIndex_df160 0 = .ok (.iload_n 0, 1) := by decide +kernel
theorem dJ0_checkIndex_df160_1 : decode cJ0_checkIndex_df160 1 = .ok (.iload_n 1, 1) := by decide +kernel
theorem dJ0_checkIndex_df160_2 : decode cJ0_checkIndex_df160 2 = .ok (.getstatic 1053, 3) := by decide +kernel
theorem dJ0_checkIndex_df160_5 : decode cJ0_checkIndex_df160 5 = .ok (.invokestatic 1059, 3) := by decide +kernel
theorem dJ0_checkIndex_df160_8 : decode cJ0_checkIndex_df160 8 = .ok (.pop, 1) := by decide +kernel
theorem dJ0_checkIndex_df160_9 : decode cJ0_checkIndex_df160 9 = .ok (.return_, 1) := by decide +kernel
theorem dJ1_charAt_3b067_0 : decode cJ1_charAt_3b067 0 = .ok (.iload_n 1, 1) := by decide +kernel
theorem dJ1_charAt_3b067_1 : decode cJ1_charAt_3b067 1 = .ok (.aload_n 0, 1) := by decide +kernel
theorem dJ1_charAt_3b067_2 : decode cJ1_charAt_3b067 2 = .ok (.arraylength, 1) := by decide +kernel
theorem dJ1_charAt_3b067_3 : decode cJ1_charAt_3b067 3 = .ok (.invokestatic 9, 3) := by decide +kernel
theorem dJ1_charAt_3b067_6 : decode cJ1_charAt_3b067 6 = .ok (.aload_n 0, 1) := by decide +kernel
theorem dJ1_charAt_3b067_7 : decode cJ1_charAt_3b067 7 = .ok (.iload_n 1, 1) := by decide +kernel
theorem dJ1_charAt_3b067_8 : decode cJ1_charAt_3b067 8 = .ok (.baload, 1) := by decide +kernel
theorem dJ1_charAt_3b067_9 : decode cJ1_charAt_3b067 9 = .ok (.sipush 255, 3) := by decide +kernel
theorem dJ1_charAt_3b067_12 : decode cJ1_charAt_3b067 12 = .ok (.iand, 1) := by decide +kernel
theorem dJ1_charAt_3b067_13 : decode cJ1_charAt_3b067 13 = .ok (.i2c, 1) := by decide +kernel
theorem dJ1_charAt_3b067_14 : decode cJ1_charAt_3b067 14 = .ok (.ireturn, 1) := by decide +kernel
theorem dJ2_getChar_3b067_0 : decode cJ2_getChar_3b067 0 = .ok (.getstatic 44, 3) := by decide +kernel
theorem dJ2_getChar_3b067_3 : decode cJ2_getChar_3b067 3 = .ok (.ifCond .ne 25, 3) := by decide +kernel
theorem dJ2_getChar_3b067_6 : decode cJ2_getChar_3b067 6 = .ok (.iload_n 1, 1) := by decide +kernel
theorem dJ2_getChar_3b067_7 : decode cJ2_getChar_3b067 7 = .ok (.ifCond .lt 11, 3) := by decide +kernel
theorem dJ2_getChar_3b067_10 : decode cJ2_getChar_3b067 10 = .ok (.iload_n 1, 1) := by decide +kernel
theorem dJ2_getChar_3b067_11 : decode cJ2_getChar_3b067 11 = .ok (.aload_n 0, 1) := by decide +kernel
theorem dJ2_getChar_3b067_12 : decode cJ2_getChar_3b067 12 = .ok (.invokestatic 48, 3) := by decide +kernel
theorem dJ2_getChar_3b067_15 : decode cJ2_getChar_3b067 15 = .ok (.if_icmp .lt 13, 3) := by decide +kernel
theorem dJ2_getChar_3b067_18 : decode cJ2_getChar_3b067 18 = .ok (.new 52, 3) := by decide +kernel
theorem dJ2_getChar_3b067_21 : decode cJ2_getChar_3b067 21 = .ok (.dup, 1) := by decide +kernel
theorem dJ2_getChar_3b067_22 : decode cJ2_getChar_3b067 22 = .ok (.ldc 54, 2) := by decide +kernel
theorem dJ2_getChar_3b067_24 : decode cJ2_getChar_3b067 24 = .ok (.invokespecial 56, 3) := by decide +kernel
theorem dJ2_getChar_3b067_27 : decode cJ2_getChar_3b067 27 = .ok (.athrow, 1) := by decide +kernel
theorem dJ2_getChar_3b067_28 : decode cJ2_getChar_3b067 28 = .ok (.iload_n 1, 1) := by decide +kernel
theorem dJ2_getChar_3b067_29 : decode cJ2_getChar_3b067 29 = .ok (.iconst 1, 1) := by decide +kernel
theorem dJ2_getChar_3b067_30 : decode cJ2_getChar_3b067 30 = .ok (.ishl, 1) := by decide +kernel
theorem dJ2_getChar_3b067_31 : decode cJ2_getChar_3b067 31 = .ok (.istore_n 1, 1) := by decide +kernel
theorem dJ2_getChar_3b067_32 : decode cJ2_getChar_3b067 32 = .ok (.aload_n 0, 1) := by decide +kernel
theorem dJ2_getChar_3b067_33 : decode cJ2_getChar_3b067 33 = .ok (.iload_n 1, 1) := by decide +kernel
theorem dJ2_getChar_3b067_34 : decode cJ2_getChar_3b067 34 = .ok (.iinc 1 1, 3) := by decide +kernel
theorem dJ2_getChar_3b067_37 : decode cJ2_getChar_3b067 37 = .ok (.baload, 1) := by decide +kernel
theorem dJ2_getChar_3b067_38 : decode cJ2_getChar_3b067 38 = .ok (.sipush 255, 3) := by decide +kernel
theorem dJ2_getChar_3b067_41 : decode cJ2_getChar_3b067 41 = .ok (.iand, 1) := by decide +kernel
theorem dJ2_getChar_3b067_42 : decode cJ2_getChar_3b067 42 = .ok (.getstatic 59, 3) := by decide +kernel
theorem dJ2_getChar_3b067_45 : decode cJ2_getChar_3b067 45 = .ok (.ishl, 1) := by decide +kernel
theorem dJ2_getChar_3b067_46 : decode cJ2_getChar_3b067 46 = .ok (.aload_n 0, 1) := by decide +kernel
theorem dJ2_getChar_3b067_47 : decode cJ2_getChar_3b067 47 = .ok (.iload_n 1, 1) := by decide +kernel
theorem dJ2_getChar_3b067_48 : decode cJ2_getChar_3b067 48 = .ok (.baload, 1) := by decide +kernel
theorem dJ2_getChar_3b067_49 : decode cJ2_getChar_3b067 49 = .ok (.sipush 255, 3) := by decide +kernel
theorem dJ2_getChar_3b067_52 : decode cJ2_getChar_3b067 52 = .ok (.iand, 1) := by decide +kernel
theorem dJ2_getChar_3b067_53 : decode cJ2_getChar_3b067 53 = .ok (.getstatic 63, 3) := by decide +kernel
theorem dJ2_getChar_3b067_56 : decode cJ2_getChar_3b067 56 = .ok (.ishl, 1) := by decide +kernel
theorem dJ2_getChar_3b067_57 : decode cJ2_getChar_3b067 57 = .ok (.ior, 1) := by decide +kernel
theorem dJ2_getChar_3b067_58 : decode cJ2_getChar_3b067 58 = .ok (.i2c, 1) := by decide +kernel
theorem dJ2_getChar_3b067_59 : decode cJ2_getChar_3b067 59 = .ok (.ireturn, 1) := by decide +kernel
theorem dJ2_length_9d52b_0 : decode cJ2_length_9d52b 0 = .ok (.aload_n 0, 1) := by decide +kernel
theorem dJ2_length_9d52b_1 : decode cJ2_length_9d52b 1 = .ok (.arraylength, 1) := by decide +kernel
theorem dJ2_length_9d52b_2 : decode cJ2_length_9d52b 2 = .ok (.iconst 1, 1) := by decide +kernel
theorem dJ2_length_9d52b_3 : decode cJ2_length_9d52b 3 = .ok (.ishr, 1) := by decide +kernel
theorem dJ2_length_9d52b_4 : decode cJ2_length_9d52b 4 = .ok (.ireturn, 1) := by decide +kernel
theorem dJ2_charAt_3b067_0 : decode cJ2_charAt_3b067 0 = .ok (.iload_n 1, 1) := by decide +kernel
theorem dJ2_charAt_3b067_1 : decode cJ2_charAt_3b067 1 = .ok (.aload_n 0, 1) := by decide +kernel
theorem dJ2_charAt_3b067_2 : decode cJ2_charAt_3b067 2 = .ok (.invokestatic 67, 3) := by decide +kernel
theorem dJ2_charAt_3b067_5 : decode cJ2_charAt_3b067 5 = .ok (.aload_n 0, 1) := by decide +kernel
theorem dJ2_charAt_3b067_6 : decode cJ2_charAt_3b067 6 = .ok (.iload_n 1, 1) := by decide +kernel
theorem dJ2_charAt_3b067_7 : decode cJ2_charAt_3b067 7 = .ok (.invokestatic 71, 3) := by decide +kernel
theorem dJ2_charAt_3b067_10 : decode cJ2_charAt_3b067 10 = .ok (.ireturn, 1) := by decide +kernel
theorem dJ2_checkIndex_2214a_0 : decode cJ2_checkIndex_2214a 0 = .ok (.iload_n 0, 1) := by decide +kernel
theorem dJ2_checkIndex_2214a_1 : decode cJ2_checkIndex_2214a 1 = .ok (.aload_n 1, 1) := by decide +kernel
theorem dJ2_checkIndex_2214a_2 : decode cJ2_checkIndex_2214a 2 = .ok (.invokestatic 48, 3) := by decide +kernel
theorem dJ2_checkIndex_2214a_5 : decode cJ2_checkIndex_2214a 5 = .ok (.invokestatic 414, 3) := by decide +kernel
theorem dJ2_checkIndex_2214a_8 : decode cJ2_checkIndex_2214a 8 = .ok (.return_, 1) := by decide +kernel
theorem dJ3_checkIndex_8e157_0 : decode cJ3_checkIndex_8e157 0 = .ok (.iload_n 0, 1) := by decide +kernel
theorem dJ3_checkIndex_8e157_1 : decode cJ3_checkIndex_8e157 1 = .ok (.ifCond .lt 8, 3) := by decide +kernel
theorem dJ3_checkIndex_8e157_4 : decode cJ3_checkIndex_8e157 4 = .ok (.iload_n 0, 1) := by decide +kernel
theorem dJ3_checkIndex_8e157_5 : decode cJ3_checkIndex_8e157 5 = .ok (.iload_n 1, 1) := by decide +kernel
theorem dJ3_checkIndex_8e157_6 : decode cJ3_checkIndex_8e157 6 = .ok (.if_icmp .lt 10, 3) := by decide +kernel
theorem dJ3_checkIndex_8e157_9 : decode cJ3_checkIndex_8e157 9 = .ok (.aload_n 2, 1) := by decide +kernel
theorem dJ3_checkIndex_8e157_10 : decode cJ3_checkIndex_8e157 10 = .ok (.iload_n 0, 1) := by decide +kernel
theorem dJ3_checkIndex_8e157_11 : decode cJ3_checkIndex_8e157 11 = .ok (.iload_n 1, 1) := by decide +kernel
theorem dJ3_checkIndex_8e157_12 : decode cJ3_checkIndex_8e157 12 = .ok (.invokestatic 95, 3) := by decide +kernel
theorem dJ3_checkIndex_8e157_15 : decode cJ3_checkIndex_8e157 15 = .ok (.athrow, 1) := by decide +kernel
theorem dJ3_checkIndex_8e157_16 : decode cJ3_checkIndex_8e157 16 = .ok (.iload_n 0, 1) := by decide +kernel
theorem dJ3_checkIndex_8e157_17 : decode cJ3_checkIndex_8e157 17 = .ok (.ireturn, 1) := by decide +kernel
theorem dL_cell_0 : decode cL_cell 0 = .ok (.iload_n 1, 1) := by decide +kernel
theorem dL_cell_1 : decode cL_cell 1 = .ok (.aload_n 0, 1) := by decide +kernel
theorem dL_cell_2 : decode cL_cell 2 = .ok (.arraylength, 1) := by decide +kernel
theorem dL_cell_3 : decode cL_cell 3 = .ok (.if_icmp .ge 9, 3) := by decide +kernel
theorem dL_cell_6 : decode cL_cell 6 = .ok (.aload_n 0, 1) := by decide +kernel
theorem dL_cell_7 : decode cL_cell 7 = .ok (.iload_n 1, 1) := by decide +kernel
theorem dL_cell_8 : decode cL_cell 8 = .ok (.iaload, 1) := by decide +kernel
theorem dL_cell_9 : decode cL_cell 9 = .ok (.goto 11, 3) := by decide +kernel
theorem dL_cell_12 : decode cL_cell 12 = .ok (.ldc 7, 2) := by decide +kernel
theorem dL_cell_14 : decode cL_cell 14 = .ok (.iload_n 1, 1) := by decide +kernel
theorem dL_cell_15 : decode cL_cell 15 = .ok (.sipush 1087, 3) := by decide +kernel
theorem dL_cell_18 : decode cL_cell 18 = .ok (.iadd, 1) := by decide +kernel
theorem dL_cell_19 : decode cL_cell 19 = .ok (.imul, 1) := by decide +kernel
theorem dL_cell_20 : decode cL_cell 20 = .ok (.ireturn, 1) := by decide +kernel
theorem dL_up_0 : decode cL_up 0 = .ok (.iload_n 0, 1) := by decide +kernel
theorem dL_up_1 : decode cL_up 1 = .ok (.ldc 8, 2) := by decide +kernel
theorem dL_up_3 : decode cL_up 3 = .ok (.iand, 1) := by decide +kernel
theorem dL_up_4 : decode cL_up 4 = .ok (.iload_n 1, 1) := by decide +kernel
theorem dL_up_5 : decode cL_up 5 = .ok (.irem, 1) := by decide +kernel
theorem dL_up_6 : decode cL_up 6 = .ok (.ireturn, 1) := by decide +kernel
theorem dL_there_0 : decode cL_there 0 = .ok (.sipush 201, 3) := by decide +kernel
theorem dL_there_3 : decode cL_there 3 = .ok (.iload_n 0, 1) := by decide +kernel
theorem dL_there_4 : decode cL_there 4 = .ok (.isub, 1) := by decide +kernel
theorem dL_there_5 : decode cL_there 5 = .ok (.i2c, 1) := by decide +kernel
theorem dL_there_6 : decode cL_there 6 = .ok (.ireturn, 1) := by decide +kernel
theorem dL_types_0 : decode cL_types 0 = .ok (.iconst 1, 1) := by decide +kernel
theorem dL_types_1 : decode cL_types 1 = .ok (.istore 4, 2) := by decide +kernel
theorem dL_types_3 : decode cL_types 3 = .ok (.bipush 56, 2) := by decide +kernel
theorem dL_types_5 : decode cL_types 5 = .ok (.istore 5, 2) := by decide +kernel
theorem dL_types_7 : decode cL_types 7 = .ok (.iload 5, 2) := by decide +kernel
theorem dL_types_9 : decode cL_types 9 = .ok (.ifCond .lt 54, 3) := by decide +kernel
theorem dL_types_12 : decode cL_types 12 = .ok (.lload_n 2, 1) := by decide +kernel
theorem dL_types_13 : decode cL_types 13 = .ok (.iload 5, 2) := by decide +kernel
theorem dL_types_15 : decode cL_types 15 = .ok (.lshr, 1) := by decide +kernel
theorem dL_types_16 : decode cL_types 16 = .ok (.ldc2_w 9, 3) := by decide +kernel
theorem dL_types_19 : decode cL_types 19 = .ok (.land, 1) := by decide +kernel
theorem dL_types_20 : decode cL_types 20 = .ok (.l2i, 1) := by decide +kernel
theorem dL_types_21 : decode cL_types 21 = .ok (.istore 6, 2) := by decide +kernel
theorem dL_types_23 : decode cL_types 23 = .ok (.iload 4, 2) := by decide +kernel
theorem dL_types_25 : decode cL_types 25 = .ok (.ifCond .eq 29, 3) := by decide +kernel
theorem dL_types_28 : decode cL_types 28 = .ok (.iload 6, 2) := by decide +kernel
theorem dL_types_30 : decode cL_types 30 = .ok (.ifCond .eq 20, 3) := by decide +kernel
theorem dL_types_33 : decode cL_types 33 = .ok (.aload_n 0, 1) := by decide +kernel
theorem dL_types_34 : decode cL_types 34 = .ok (.iload 6, 2) := by decide +kernel
theorem dL_types_36 : decode cL_types 36 = .ok (.i2c, 1) := by decide +kernel
theorem dL_types_37 : decode cL_types 37 = .ok (.invokevirtual 11, 3) := by decide +kernel
theorem dL_types_40 : decode cL_types 40 = .ok (.aload_n 1, 1) := by decide +kernel
theorem dL_types_41 : decode cL_types 41 = .ok (.iload 6, 2) := by decide +kernel
theorem dL_types_43 : decode cL_types 43 = .ok (.i2c, 1) := by decide +kernel
theorem dL_types_44 : decode cL_types 44 = .ok (.invokevirtual 11, 3) := by decide +kernel
theorem dL_types_47 : decode cL_types 47 = .ok (.if_icmp .ne 7, 3) := by decide +kernel
theorem dL_types_50 : decode cL_types 50 = .ok (.iconst 1, 1) := by decide +kernel
theorem dL_types_51 : decode cL_types 51 = .ok (.goto 4, 3) := by decide +kernel
theorem dL_types_54 : decode cL_types 54 = .ok (.iconst 0, 1) := by decide +kernel
theorem dL_types_55 : decode cL_types 55 = .ok (.istore 4, 2) := by decide +kernel
theorem dL_types_57 : decode cL_types 57 = .ok (.iinc 5 (-8), 3) := by decide +kernel
theorem dL_types_60 : decode cL_types 60 = .ok (.goto (-53), 3) := by decide +kernel
theorem dL_types_63 : decode cL_types 63 = .ok (.iload 4, 2) := by decide +kernel
theorem dL_types_65 : decode cL_types 65 = .ok (.ireturn, 1) := by decide +kernel
theorem dL_isPattern_0 : decode cL_isPattern 0 = .ok (.iconst 2, 1) := by decide +kernel
theorem dL_isPattern_1 : decode cL_isPattern 1 = .ok (.iload_n 2, 1) := by decide +kernel
theorem dL_isPattern_2 : decode cL_isPattern 2 = .ok (.iconst 3, 1) := by decide +kernel
theorem dL_isPattern_3 : decode cL_isPattern 3 = .ok (.invokestatic 17, 3) := by decide +kernel
theorem dL_isPattern_6 : decode cL_isPattern 6 = .ok (.iadd, 1) := by decide +kernel
theorem dL_isPattern_7 : decode cL_isPattern 7 = .ok (.istore 4, 2) := by decide +kernel
theorem dL_isPattern_9 : decode cL_isPattern 9 = .ok (.iload_n 2, 1) := by decide +kernel
theorem dL_isPattern_10 : decode cL_isPattern 10 = .ok (.iconst 2, 1) := by decide +kernel
theorem dL_isPattern_11 : decode cL_isPattern 11 = .ok (.ishr, 1) := by decide +kernel
theorem dL_isPattern_12 : decode cL_isPattern 12 = .ok (.iconst 5, 1) := by decide +kernel
theorem dL_isPattern_13 : decode cL_isPattern 13 = .ok (.invokestatic 17, 3) := by decide +kernel
theorem dL_isPattern_16 : decode cL_isPattern 16 = .ok (.istore 5, 2) := by decide +kernel
theorem dL_isPattern_18 : decode cL_isPattern 18 = .ok (.aload_n 0, 1) := by decide +kernel
theorem dL_isPattern_19 : decode cL_isPattern 19 = .ok (.invokevirtual 23, 3) := by decide +kernel
theorem dL_isPattern_22 : decode cL_isPattern 22 = .ok (.aload_n 1, 1) := by decide +kernel
theorem dL_isPattern_23 : decode cL_isPattern 23 = .ok (.invokevirtual 23, 3) := by decide +kernel
theorem dL_isPattern_26 : decode cL_isPattern 26 = .ok (.if_icmp .ne 104, 3) := by decide +kernel
theorem dL_isPattern_29 : decode cL_isPattern 29 = .ok (.aload_n 0, 1) := by decide +kernel
theorem dL_isPattern_30 : decode cL_isPattern 30 = .ok (.aload_n 1, 1) := by decide +kernel
theorem dL_isPattern_31 : decode cL_isPattern 31 = .ok (.ldc2_w 27, 3) := by decide +kernel
theorem dL_isPattern_34 : decode cL_isPattern 34 = .ok (.invokestatic 29, 3) := by decide +kernel
theorem dL_isPattern_37 : decode cL_isPattern 37 = .ok (.ifCond .eq 93, 3) := by decide +kernel
theorem dL_isPattern_40 : decode cL_isPattern 40 = .ok (.aload_n 0, 1) := by decide +kernel
theorem dL_isPattern_41 : decode cL_isPattern 41 = .ok (.aload_n 1, 1) := by decide +kernel
theorem dL_isPattern_42 : decode cL_isPattern 42 = .ok (.bipush 49, 2) := by decide +kernel
theorem dL_isPattern_44 : decode cL_isPattern 44 = .ok (.iload_n 2, 1) := by decide +kernel
theorem dL_isPattern_45 : decode cL_isPattern 45 = .ok (.iconst 4, 1) := by decide +kernel
theorem dL_isPattern_46 : decode cL_isPattern 46 = .ok (.ishr, 1) := by decide +kernel
theorem dL_isPattern_47 : decode cL_isPattern 47 = .ok (.bipush 9, 2) := by decide +kernel
theorem dL_isPattern_49 : decode cL_isPattern 49 = .ok (.invokestatic 17, 3) := by decide +kernel
theorem dL_isPattern_52 : decode cL_isPattern 52 = .ok (.iadd, 1) := by decide +kernel
theorem dL_isPattern_53 : decode cL_isPattern 53 = .ok (.i2l, 1) := by decide +kernel
theorem dL_isPattern_54 : decode cL_isPattern 54 = .ok (.invokestatic 29, 3) := by decide +kernel
theorem dL_isPattern_57 : decode cL_isPattern 57 = .ok (.ifCond .eq 73, 3) := by decide +kernel
theorem dL_isPattern_60 : decode cL_isPattern 60 = .ok (.aload_n 0, 1) := by decide +kernel
theorem dL_isPattern_61 : decode cL_isPattern 61 = .ok (.aload_n 1, 1) := by decide +kernel
theorem dL_isPattern_62 : decode cL_isPattern 62 = .ok (.bipush 48, 2) := by decide +kernel
theorem dL_isPattern_64 : decode cL_isPattern 64 = .ok (.iload_n 2, 1) := by decide +kernel
theorem dL_isPattern_65 : decode cL_isPattern 65 = .ok (.bipush 6, 2) := by decide +kernel
theorem dL_isPattern_67 : decode cL_isPattern 67 = .ok (.ishr, 1) := by decide +kernel
theorem dL_isPattern_68 : decode cL_isPattern 68 = .ok (.bipush 10, 2) := by decide +kernel
theorem dL_isPattern_70 : decode cL_isPattern 70 = .ok (.invokestatic 17, 3) := by decide +kernel
theorem dL_isPattern_73 : decode cL_isPattern 73 = .ok (.iadd, 1) := by decide +kernel
theorem dL_isPattern_74 : decode cL_isPattern 74 = .ok (.i2l, 1) := by decide +kernel
theorem dL_isPattern_75 : decode cL_isPattern 75 = .ok (.invokestatic 29, 3) := by decide +kernel
theorem dL_isPattern_78 : decode cL_isPattern 78 = .ok (.ifCond .eq 52, 3) := by decide +kernel
theorem dL_isPattern_81 : decode cL_isPattern 81 = .ok (.aload_n 0, 1) := by decide +kernel
theorem dL_isPattern_82 : decode cL_isPattern 82 = .ok (.aload_n 1, 1) := by decide +kernel
theorem dL_isPattern_83 : decode cL_isPattern 83 = .ok (.ldc2_w 33, 3) := by decide +kernel
theorem dL_isPattern_86 : decode cL_isPattern 86 = .ok (.invokestatic 29, 3) := by decide +kernel
theorem dL_isPattern_89 : decode cL_isPattern 89 = .ok (.ifCond .eq 41, 3) := by decide +kernel
theorem dL_isPattern_92 : decode cL_isPattern 92 = .ok (.iload 5, 2) := by decide +kernel
theorem dL_isPattern_94 : decode cL_isPattern 94 = .ok (.iconst 2, 1) := by decide +kernel
theorem dL_isPattern_95 : decode cL_isPattern 95 = .ok (.if_icmp .gt 31, 3) := by decide +kernel
theorem dL_isPattern_98 : decode cL_isPattern 98 = .ok (.iload 5, 2) := by decide +kernel
theorem dL_isPattern_100 : decode cL_isPattern 100 = .ok (.ifCond .eq 26, 3) := by decide +kernel
theorem dL_isPattern_103 : decode cL_isPattern 103 = .ok (.aload_n 0, 1) := by decide +kernel
theorem dL_isPattern_104 : decode cL_isPattern 104 = .ok (.aload_n 1, 1) := by decide +kernel
theorem dL_isPattern_105 : decode cL_isPattern 105 = .ok (.iload 5, 2) := by decide +kernel
theorem dL_isPattern_107 : decode cL_isPattern 107 = .ok (.iconst 1, 1) := by decide +kernel
theorem dL_isPattern_108 : decode cL_isPattern 108 = .ok (.if_icmp .ne 9, 3) := by decide +kernel
theorem dL_isPattern_111 : decode cL_isPattern 111 = .ok (.ldc2_w 35, 3) := by decide +kernel
theorem dL_isPattern_114 : decode cL_isPattern 114 = .ok (.goto 6, 3) := by decide +kernel
theorem dL_isPattern_117 : decode cL_isPattern 117 = .ok (.ldc2_w 37, 3) := by decide +kernel
theorem dL_isPattern_120 : decode cL_isPattern 120 = .ok (.invokestatic 29, 3) := by decide +kernel
theorem dL_isPattern_123 : decode cL_isPattern 123 = .ok (.ifCond .eq 7, 3) := by decide +kernel
theorem dL_isPattern_126 : decode cL_isPattern 126 = .ok (.iconst 1, 1) := by decide +kernel
theorem dL_isPattern_127 : decode cL_isPattern 127 = .ok (.goto 4, 3) := by decide +kernel
theorem dL_isPattern_130 : decode cL_isPattern 130 = .ok (.iconst 0, 1) := by decide +kernel
theorem dL_isPattern_131 : decode cL_isPattern 131 = .ok (.istore 6, 2) := by decide +kernel
theorem dL_isPattern_133 : decode cL_isPattern 133 = .ok (.iconst 0, 1) := by decide +kernel
theorem dL_isPattern_134 : decode cL_isPattern 134 = .ok (.istore 7, 2) := by decide +kernel
theorem dL_isPattern_136 : decode cL_isPattern 136 = .ok (.iload 7, 2) := by decide +kernel
theorem dL_isPattern_138 : decode cL_isPattern 138 = .ok (.iload 4, 2) := by decide +kernel
theorem dL_isPattern_140 : decode cL_isPattern 140 = .ok (.if_icmp .ge 156, 3) := by decide +kernel
theorem dL_isPattern_143 : decode cL_isPattern 143 = .ok (.bipush 97, 2) := by decide +kernel
theorem dL_isPattern_145 : decode cL_isPattern 145 = .ok (.iload_n 3, 1) := by decide +kernel
theorem dL_isPattern_146 : decode cL_isPattern 146 = .ok (.iconst 3, 1) := by decide +kernel
theorem dL_isPattern_147 : decode cL_isPattern 147 = .ok (.iload 7, 2) := by decide +kernel
theorem dL_isPattern_149 : decode cL_isPattern 149 = .ok (.imul, 1) := by decide +kernel
theorem dL_isPattern_150 : decode cL_isPattern 150 = .ok (.ishr, 1) := by decide +kernel
theorem dL_isPattern_151 : decode cL_isPattern 151 = .ok (.iconst 3, 1) := by decide +kernel
theorem dL_isPattern_152 : decode cL_isPattern 152 = .ok (.invokestatic 17, 3) := by decide +kernel
theorem dL_isPattern_155 : decode cL_isPattern 155 = .ok (.iadd, 1) := by decide +kernel
theorem dL_isPattern_156 : decode cL_isPattern 156 = .ok (.istore 8, 2) := by decide +kernel
theorem dL_isPattern_158 : decode cL_isPattern 158 = .ok (.iload 7, 2) := by decide +kernel
theorem dL_isPattern_160 : decode cL_isPattern 160 = .ok (.ifCond .le 34, 3) := by decide +kernel
theorem dL_isPattern_163 : decode cL_isPattern 163 = .ok (.iload_n 3, 1) := by decide +kernel
theorem dL_isPattern_164 : decode cL_isPattern 164 = .ok (.bipush 7, 2) := by decide +kernel
theorem dL_isPattern_166 : decode cL_isPattern 166 = .ok (.iload 7, 2) := by decide +kernel
theorem dL_isPattern_168 : decode cL_isPattern 168 = .ok (.iadd, 1) := by decide +kernel
theorem dL_isPattern_169 : decode cL_isPattern 169 = .ok (.ishr, 1) := by decide +kernel
theorem dL_isPattern_170 : decode cL_isPattern 170 = .ok (.iconst 3, 1) := by decide +kernel
theorem dL_isPattern_171 : decode cL_isPattern 171 = .ok (.invokestatic 17, 3) := by decide +kernel
theorem dL_isPattern_174 : decode cL_isPattern 174 = .ok (.ifCond .ne 20, 3) := by decide +kernel
theorem dL_isPattern_177 : decode cL_isPattern 177 = .ok (.bipush 97, 2) := by decide +kernel
theorem dL_isPattern_179 : decode cL_isPattern 179 = .ok (.iload_n 3, 1) := by decide +kernel
theorem dL_isPattern_180 : decode cL_isPattern 180 = .ok (.bipush 9, 2) := by decide +kernel
theorem dL_isPattern_182 : decode cL_isPattern 182 = .ok (.iload 7, 2) := by decide +kernel
theorem dL_isPattern_184 : decode cL_isPattern 184 = .ok (.iadd, 1) := by decide +kernel
theorem dL_isPattern_185 : decode cL_isPattern 185 = .ok (.ishr, 1) := by decide +kernel
theorem dL_isPattern_186 : decode cL_isPattern 186 = .ok (.iconst 5, 1) := by decide +kernel
theorem dL_isPattern_187 : decode cL_isPattern 187 = .ok (.invokestatic 17, 3) := by decide +kernel
theorem dL_isPattern_190 : decode cL_isPattern 190 = .ok (.iadd, 1) := by decide +kernel
theorem dL_isPattern_191 : decode cL_isPattern 191 = .ok (.goto 4, 3) := by decide +kernel
theorem dL_isPattern_194 : decode cL_isPattern 194 = .ok (.iconst 0, 1) := by decide +kernel
theorem dL_isPattern_195 : decode cL_isPattern 195 = .ok (.istore 9, 2) := by decide +kernel
theorem dL_isPattern_197 : decode cL_isPattern 197 = .ok (.iload 6, 2) := by decide +kernel
theorem dL_isPattern_199 : decode cL_isPattern 199 = .ok (.ifCond .eq 88, 3) := by decide +kernel
theorem dL_isPattern_202 : decode cL_isPattern 202 = .ok (.iload 7, 2) := by decide +kernel
theorem dL_isPattern_204 : decode cL_isPattern 204 = .ok (.ifCond .eq 14, 3) := by decide +kernel
theorem dL_isPattern_207 : decode cL_isPattern 207 = .ok (.aload_n 0, 1) := by decide +kernel
theorem dL_isPattern_208 : decode cL_isPattern 208 = .ok (.aload_n 1, 1) := by decide +kernel
theorem dL_isPattern_209 : decode cL_isPattern 209 = .ok (.ldc2_w 39, 3) := by decide +kernel
theorem dL_isPattern_212 : decode cL_isPattern 212 = .ok (.invokestatic 29, 3) := by decide +kernel
theorem dL_isPattern_215 : decode cL_isPattern 215 = .ok (.ifCond .eq 72, 3) := by decide +kernel
theorem dL_isPattern_218 : decode cL_isPattern 218 = .ok (.iload 9, 2) := by decide +kernel
theorem dL_isPattern_220 : decode cL_isPattern 220 = .ok (.ifCond .eq 44, 3) := by decide +kernel
theorem dL_isPattern_223 : decode cL_isPattern 223 = .ok (.aload_n 0, 1) := by decide +kernel
theorem dL_isPattern_224 : decode cL_isPattern 224 = .ok (.aload_n 1, 1) := by decide +kernel
theorem dL_isPattern_225 : decode cL_isPattern 225 = .ok (.ldc2_w 41, 3) := by decide +kernel
theorem dL_isPattern_228 : decode cL_isPattern 228 = .ok (.invokestatic 29, 3) := by decide +kernel
theorem dL_isPattern_231 : decode cL_isPattern 231 = .ok (.ifCond .eq 56, 3) := by decide +kernel
theorem dL_isPattern_234 : decode cL_isPattern 234 = .ok (.aload_n 0, 1) := by decide +kernel
theorem dL_isPattern_235 : decode cL_isPattern 235 = .ok (.iload 9, 2) := by decide +kernel
theorem dL_isPattern_237 : decode cL_isPattern 237 = .ok (.i2c, 1) := by decide +kernel
theorem dL_isPattern_238 : decode cL_isPattern 238 = .ok (.invokevirtual 11, 3) := by decide +kernel
theorem dL_isPattern_241 : decode cL_isPattern 241 = .ok (.aload_n 1, 1) := by decide +kernel
theorem dL_isPattern_242 : decode cL_isPattern 242 = .ok (.iload 9, 2) := by decide +kernel
theorem dL_isPattern_244 : decode cL_isPattern 244 = .ok (.invokestatic 43, 3) := by decide +kernel
theorem dL_isPattern_247 : decode cL_isPattern 247 = .ok (.invokevirtual 11, 3) := by decide +kernel
theorem dL_isPattern_250 : decode cL_isPattern 250 = .ok (.if_icmp .ne 37, 3) := by decide +kernel
theorem dL_isPattern_253 : decode cL_isPattern 253 = .ok (.aload_n 0, 1) := by decide +kernel
theorem dL_isPattern_254 : decode cL_isPattern 254 = .ok (.aload_n 1, 1) := by decide +kernel
theorem dL_isPattern_255 : decode cL_isPattern 255 = .ok (.ldc2_w 39, 3) := by decide +kernel
theorem dL_isPattern_258 : decode cL_isPattern 258 = .ok (.invokestatic 29, 3) := by decide +kernel
theorem dL_isPattern_261 : decode cL_isPattern 261 = .ok (.ifCond .eq 26, 3) := by decide +kernel
theorem dL_isPattern_264 : decode cL_isPattern 264 = .ok (.aload_n 0, 1) := by decide +kernel
theorem dL_isPattern_265 : decode cL_isPattern 265 = .ok (.iload 8, 2) := by decide +kernel
theorem dL_isPattern_267 : decode cL_isPattern 267 = .ok (.i2c, 1) := by decide +kernel
theorem dL_isPattern_268 : decode cL_isPattern 268 = .ok (.invokevirtual 11, 3) := by decide +kernel
theorem dL_isPattern_271 : decode cL_isPattern 271 = .ok (.aload_n 1, 1) := by decide +kernel
theorem dL_isPattern_272 : decode cL_isPattern 272 = .ok (.iload 8, 2) := by decide +kernel
theorem dL_isPattern_274 : decode cL_isPattern 274 = .ok (.invokestatic 43, 3) := by decide +kernel
theorem dL_isPattern_277 : decode cL_isPattern 277 = .ok (.invokevirtual 11, 3) := by decide +kernel
theorem dL_isPattern_280 : decode cL_isPattern 280 = .ok (.if_icmp .ne 7, 3) := by decide +kernel
theorem dL_isPattern_283 : decode cL_isPattern 283 = .ok (.iconst 1, 1) := by decide +kernel
theorem dL_isPattern_284 : decode cL_isPattern 284 = .ok (.goto 4, 3) := by decide +kernel
theorem dL_isPattern_287 : decode cL_isPattern 287 = .ok (.iconst 0, 1) := by decide +kernel
theorem dL_isPattern_288 : decode cL_isPattern 288 = .ok (.istore 6, 2) := by decide +kernel
theorem dL_isPattern_290 : decode cL_isPattern 290 = .ok (.iinc 7 1, 3) := by decide +kernel
theorem dL_isPattern_293 : decode cL_isPattern 293 = .ok (.goto (-157), 3) := by decide +kernel
theorem dL_isPattern_296 : decode cL_isPattern 296 = .ok (.aload_n 0, 1) := by decide +kernel
theorem dL_isPattern_297 : decode cL_isPattern 297 = .ok (.iconst 1, 1) := by decide +kernel
theorem dL_isPattern_298 : decode cL_isPattern 298 = .ok (.invokevirtual 47, 3) := by decide +kernel
theorem dL_isPattern_301 : decode cL_isPattern 301 = .ok (.istore 7, 2) := by decide +kernel
theorem dL_isPattern_303 : decode cL_isPattern 303 = .ok (.aload_n 0, 1) := by decide +kernel
theorem dL_isPattern_304 : decode cL_isPattern 304 = .ok (.invokevirtual 51, 3) := by decide +kernel
theorem dL_isPattern_307 : decode cL_isPattern 307 = .ok (.istore 8, 2) := by decide +kernel
theorem dL_isPattern_309 : decode cL_isPattern 309 = .ok (.iload 6, 2) := by decide +kernel
theorem dL_isPattern_311 : decode cL_isPattern 311 = .ok (.ifCond .eq 52, 3) := by decide +kernel
theorem dL_isPattern_314 : decode cL_isPattern 314 = .ok (.iload 8, 2) := by decide +kernel
theorem dL_isPattern_316 : decode cL_isPattern 316 = .ok (.aload_n 1, 1) := by decide +kernel
theorem dL_isPattern_317 : decode cL_isPattern 317 = .ok (.invokevirtual 51, 3) := by decide +kernel
theorem dL_isPattern_320 : decode cL_isPattern 320 = .ok (.if_icmp .ne 43, 3) := by decide +kernel
theorem dL_isPattern_323 : decode cL_isPattern 323 = .ok (.iload 8, 2) := by decide +kernel
theorem dL_isPattern_325 : decode cL_isPattern 325 = .ok (.iload 7, 2) := by decide +kernel
theorem dL_isPattern_327 : decode cL_isPattern 327 = .ok (.iconst 4, 1) := by decide +kernel
theorem dL_isPattern_328 : decode cL_isPattern 328 = .ok (.if_icmp .ne 8, 3) := by decide +kernel
theorem dL_isPattern_331 : decode cL_isPattern 331 = .ok (.bipush (-3), 2) := by decide +kernel
theorem dL_isPattern_333 : decode cL_isPattern 333 = .ok (.goto 5, 3) := by decide +kernel
theorem dL_isPattern_336 : decode cL_isPattern 336 = .ok (.iload 7, 2) := by decide +kernel
theorem dL_isPattern_338 : decode cL_isPattern 338 = .ok (.if_icmp .ne 25, 3) := by decide +kernel
theorem dL_isPattern_341 : decode cL_isPattern 341 = .ok (.iload 7, 2) := by decide +kernel
theorem dL_isPattern_343 : decode cL_isPattern 343 = .ok (.iconst 4, 1) := by decide +kernel
theorem dL_isPattern_344 : decode cL_isPattern 344 = .ok (.if_icmp .eq 15, 3) := by decide +kernel
theorem dL_isPattern_347 : decode cL_isPattern 347 = .ok (.aload_n 0, 1) := by decide +kernel
theorem dL_isPattern_348 : decode cL_isPattern 348 = .ok (.iload 7, 2) := by decide +kernel
theorem dL_isPattern_350 : decode cL_isPattern 350 = .ok (.iconst 3, 1) := by decide +kernel
theorem dL_isPattern_351 : decode cL_isPattern 351 = .ok (.invokevirtual 54, 3) := by decide +kernel
theorem dL_isPattern_354 : decode cL_isPattern 354 = .ok (.iload 4, 2) := by decide +kernel
theorem dL_isPattern_356 : decode cL_isPattern 356 = .ok (.if_icmp .ne 7, 3) := by decide +kernel
theorem dL_isPattern_359 : decode cL_isPattern 359 = .ok (.iconst 1, 1) := by decide +kernel
theorem dL_isPattern_360 : decode cL_isPattern 360 = .ok (.goto 4, 3) := by decide +kernel
theorem dL_isPattern_363 : decode cL_isPattern 363 = .ok (.iconst 0, 1) := by decide +kernel
theorem dL_isPattern_364 : decode cL_isPattern 364 = .ok (.ireturn, 1) := by decide +kernel
theorem dL_isStep_0 : decode cL_isStep 0 = .ok (.iload_n 2, 1) := by decide +kernel
theorem dL_isStep_1 : decode cL_isStep 1 = .ok (.iconst 4, 1) := by decide +kernel
theorem dL_isStep_2 : decode cL_isStep 2 = .ok (.ishr, 1) := by decide +kernel
theorem dL_isStep_3 : decode cL_isStep 3 = .ok (.istore 4, 2) := by decide +kernel
theorem dL_isStep_5 : decode cL_isStep 5 = .ok (.aload_n 0, 1) := by decide +kernel
theorem dL_isStep_6 : decode cL_isStep 6 = .ok (.iconst 0, 1) := by decide +kernel
theorem dL_isStep_7 : decode cL_isStep 7 = .ok (.invokevirtual 47, 3) := by decide +kernel
theorem dL_isStep_10 : decode cL_isStep 10 = .ok (.istore 5, 2) := by decide +kernel
theorem dL_isStep_12 : decode cL_isStep 12 = .ok (.aload_n 0, 1) := by decide +kernel
theorem dL_isStep_13 : decode cL_isStep 13 = .ok (.iconst 3, 1) := by decide +kernel
theorem dL_isStep_14 : decode cL_isStep 14 = .ok (.invokevirtual 47, 3) := by decide +kernel
theorem dL_isStep_17 : decode cL_isStep 17 = .ok (.istore 6, 2) := by decide +kernel
theorem dL_isStep_19 : decode cL_isStep 19 = .ok (.aload_n 0, 1) := by decide +kernel
theorem dL_isStep_20 : decode cL_isStep 20 = .ok (.iconst 5, 1) := by decide +kernel
theorem dL_isStep_21 : decode cL_isStep 21 = .ok (.invokevirtual 47, 3) := by decide +kernel
theorem dL_isStep_24 : decode cL_isStep 24 = .ok (.istore 7, 2) := by decide +kernel
theorem dL_isStep_26 : decode cL_isStep 26 = .ok (.iload_n 2, 1) := by decide +kernel
theorem dL_isStep_27 : decode cL_isStep 27 = .ok (.bipush 15, 2) := by decide +kernel
theorem dL_isStep_29 : decode cL_isStep 29 = .ok (.invokestatic 17, 3) := by decide +kernel
theorem dL_isStep_32 : decode cL_isStep 32 = .ok (.tableswitch 654 0 13 #[72, 72, 72, 72, 72, 72, 72, 289, 289, 289, 298, 364, 506, 591], 72) := by decide +kernel
theorem dL_isStep_104 : decode cL_isStep 104 = .ok (.bipush 97, 2) := by decide +kernel
theorem dL_isStep_106 : decode cL_isStep 106 = .ok (.iload 4, 2) := by decide +kernel
theorem dL_isStep_108 : decode cL_isStep 108 = .ok (.iconst 4, 1) := by decide +kernel
theorem dL_isStep_109 : decode cL_isStep 109 = .ok (.invokestatic 17, 3) := by decide +kernel
theorem dL_isStep_112 : decode cL_isStep 112 = .ok (.iadd, 1) := by decide +kernel
theorem dL_isStep_113 : decode cL_isStep 113 = .ok (.istore 8, 2) := by decide +kernel
theorem dL_isStep_115 : decode cL_isStep 115 = .ok (.iload 4, 2) := by decide +kernel
theorem dL_isStep_117 : decode cL_isStep 117 = .ok (.iconst 3, 1) := by decide +kernel
theorem dL_isStep_118 : decode cL_isStep 118 = .ok (.ishr, 1) := by decide +kernel
theorem dL_isStep_119 : decode cL_isStep 119 = .ok (.iload 4, 2) := by decide +kernel
theorem dL_isStep_121 : decode cL_isStep 121 = .ok (.bipush 6, 2) := by decide +kernel
theorem dL_isStep_123 : decode cL_isStep 123 = .ok (.ishr, 1) := by decide +kernel
theorem dL_isStep_124 : decode cL_isStep 124 = .ok (.iconst 4, 1) := by decide +kernel
theorem dL_isStep_125 : decode cL_isStep 125 = .ok (.invokestatic 17, 3) := by decide +kernel
theorem dL_isStep_128 : decode cL_isStep 128 = .ok (.ifCond .ne 8, 3) := by decide +kernel
theorem dL_isStep_131 : decode cL_isStep 131 = .ok (.bipush 50, 2) := by decide +kernel
theorem dL_isStep_133 : decode cL_isStep 133 = .ok (.goto 5, 3) := by decide +kernel
theorem dL_isStep_136 : decode cL_isStep 136 = .ok (.bipush 6, 2) := by decide +kernel
theorem dL_isStep_138 : decode cL_isStep 138 = .ok (.invokestatic 17, 3) := by decide +kernel
theorem dL_isStep_141 : decode cL_isStep 141 = .ok (.istore 9, 2) := by decide +kernel
theorem dL_isStep_143 : decode cL_isStep 143 = .ok (.iload 6, 2) := by decide +kernel
theorem dL_isStep_145 : decode cL_isStep 145 = .ok (.bipush 25, 2) := by decide +kernel
theorem dL_isStep_147 : decode cL_isStep 147 = .ok (.isub, 1) := by decide +kernel
theorem dL_isStep_148 : decode cL_isStep 148 = .ok (.iload_n 3, 1) := by decide +kernel
theorem dL_isStep_149 : decode cL_isStep 149 = .ok (.bipush 42, 2) := by decide +kernel
theorem dL_isStep_151 : decode cL_isStep 151 = .ok (.invokestatic 17, 3) := by decide +kernel
theorem dL_isStep_154 : decode cL_isStep 154 = .ok (.iadd, 1) := by decide +kernel
theorem dL_isStep_155 : decode cL_isStep 155 = .ok (.istore 10, 2) := by decide +kernel
theorem dL_isStep_157 : decode cL_isStep 157 = .ok (.iload 10, 2) := by decide +kernel
theorem dL_isStep_159 : decode cL_isStep 159 = .ok (.ifCond .ge 9, 3) := by decide +kernel
theorem dL_isStep_162 : decode cL_isStep 162 = .ok (.iload 10, 2) := by decide +kernel
theorem dL_isStep_164 : decode cL_isStep 164 = .ok (.ineg, 1) := by decide +kernel
theorem dL_isStep_165 : decode cL_isStep 165 = .ok (.goto 5, 3) := by decide +kernel
theorem dL_isStep_168 : decode cL_isStep 168 = .ok (.iload 10, 2) := by decide +kernel
theorem dL_isStep_170 : decode cL_isStep 170 = .ok (.istore 10, 2) := by decide +kernel
theorem dL_isStep_172 : decode cL_isStep 172 = .ok (.aload_n 0, 1) := by decide +kernel
theorem dL_isStep_173 : decode cL_isStep 173 = .ok (.iload 8, 2) := by decide +kernel
theorem dL_isStep_175 : decode cL_isStep 175 = .ok (.i2c, 1) := by decide +kernel
theorem dL_isStep_176 : decode cL_isStep 176 = .ok (.iload 9, 2) := by decide +kernel
theorem dL_isStep_178 : decode cL_isStep 178 = .ok (.iload 10, 2) := by decide +kernel
theorem dL_isStep_180 : decode cL_isStep 180 = .ok (.invokevirtual 57, 3) := by decide +kernel
theorem dL_isStep_183 : decode cL_isStep 183 = .ok (.istore 11, 2) := by decide +kernel
theorem dL_isStep_185 : decode cL_isStep 185 = .ok (.aload_n 0, 1) := by decide +kernel
theorem dL_isStep_186 : decode cL_isStep 186 = .ok (.iload 8, 2) := by decide +kernel
theorem dL_isStep_188 : decode cL_isStep 188 = .ok (.i2c, 1) := by decide +kernel
theorem dL_isStep_189 : decode cL_isStep 189 = .ok (.iload 9, 2) := by decide +kernel
theorem dL_isStep_191 : decode cL_isStep 191 = .ok (.iload 10, 2) := by decide +kernel
theorem dL_isStep_193 : decode cL_isStep 193 = .ok (.invokevirtual 61, 3) := by decide +kernel
theorem dL_isStep_196 : decode cL_isStep 196 = .ok (.istore 12, 2) := by decide +kernel
theorem dL_isStep_198 : decode cL_isStep 198 = .ok (.iload 10, 2) := by decide +kernel
theorem dL_isStep_200 : decode cL_isStep 200 = .ok (.iload 6, 2) := by decide +kernel
theorem dL_isStep_202 : decode cL_isStep 202 = .ok (.iload 7, 2) := by decide +kernel
theorem dL_isStep_204 : decode cL_isStep 204 = .ok (.isub, 1) := by decide +kernel
theorem dL_isStep_205 : decode cL_isStep 205 = .ok (.if_icmp .ge 7, 3) := by decide +kernel
theorem dL_isStep_208 : decode cL_isStep 208 = .ok (.iconst 1, 1) := by decide +kernel
theorem dL_isStep_209 : decode cL_isStep 209 = .ok (.goto 4, 3) := by decide +kernel
theorem dL_isStep_212 : decode cL_isStep 212 = .ok (.iconst 0, 1) := by decide +kernel
theorem dL_isStep_213 : decode cL_isStep 213 = .ok (.istore 13, 2) := by decide +kernel
theorem dL_isStep_215 : decode cL_isStep 215 = .ok (.iload 12, 2) := by decide +kernel
theorem dL_isStep_217 : decode cL_isStep 217 = .ok (.aload_n 1, 1) := by decide +kernel
theorem dL_isStep_218 : decode cL_isStep 218 = .ok (.iload 8, 2) := by decide +kernel
theorem dL_isStep_220 : decode cL_isStep 220 = .ok (.invokestatic 43, 3) := by decide +kernel
theorem dL_isStep_223 : decode cL_isStep 223 = .ok (.iconst 2, 1) := by decide +kernel
theorem dL_isStep_224 : decode cL_isStep 224 = .ok (.iload 9, 2) := by decide +kernel
theorem dL_isStep_226 : decode cL_isStep 226 = .ok (.imul, 1) := by decide +kernel
theorem dL_isStep_227 : decode cL_isStep 227 = .ok (.iconst 1, 1) := by decide +kernel
theorem dL_isStep_228 : decode cL_isStep 228 = .ok (.iadd, 1) := by decide +kernel
theorem dL_isStep_229 : decode cL_isStep 229 = .ok (.iload 10, 2) := by decide +kernel
theorem dL_isStep_231 : decode cL_isStep 231 = .ok (.invokevirtual 61, 3) := by decide +kernel
theorem dL_isStep_234 : decode cL_isStep 234 = .ok (.if_icmp .ne 85, 3) := by decide +kernel
theorem dL_isStep_237 : decode cL_isStep 237 = .ok (.iload 13, 2) := by decide +kernel
theorem dL_isStep_239 : decode cL_isStep 239 = .ok (.ifCond .eq 20, 3) := by decide +kernel
theorem dL_isStep_242 : decode cL_isStep 242 = .ok (.iload 12, 2) := by decide +kernel
theorem dL_isStep_244 : decode cL_isStep 244 = .ok (.bipush (-4), 2) := by decide +kernel
theorem dL_isStep_246 : decode cL_isStep 246 = .ok (.if_icmp .ne 73, 3) := by decide +kernel
theorem dL_isStep_249 : decode cL_isStep 249 = .ok (.iload 11, 2) := by decide +kernel
theorem dL_isStep_251 : decode cL_isStep 251 = .ok (.iload 12, 2) := by decide +kernel
theorem dL_isStep_253 : decode cL_isStep 253 = .ok (.if_icmp .ne 66, 3) := by decide +kernel
theorem dL_isStep_256 : decode cL_isStep 256 = .ok (.goto 59, 3) := by decide +kernel
theorem dL_isStep_259 : decode cL_isStep 259 = .ok (.iload 5, 2) := by decide +kernel
theorem dL_isStep_261 : decode cL_isStep 261 = .ok (.bipush 24, 2) := by decide +kernel
theorem dL_isStep_263 : decode cL_isStep 263 = .ok (.if_icmp .ne 13, 3) := by decide +kernel
theorem dL_isStep_266 : decode cL_isStep 266 = .ok (.iload 12, 2) := by decide +kernel
theorem dL_isStep_268 : decode cL_isStep 268 = .ok (.bipush (-3), 2) := by decide +kernel
theorem dL_isStep_270 : decode cL_isStep 270 = .ok (.if_icmp .ne 49, 3) := by decide +kernel
theorem dL_isStep_273 : decode cL_isStep 273 = .ok (.goto 42, 3) := by decide +kernel
theorem dL_isStep_276 : decode cL_isStep 276 = .ok (.iload 12, 2) := by decide +kernel
theorem dL_isStep_278 : decode cL_isStep 278 = .ok (.iload 5, 2) := by decide +kernel
theorem dL_isStep_280 : decode cL_isStep 280 = .ok (.if_icmp .ne 39, 3) := by decide +kernel
theorem dL_isStep_283 : decode cL_isStep 283 = .ok (.aload_n 0, 1) := by decide +kernel
theorem dL_isStep_284 : decode cL_isStep 284 = .ok (.iconst 2, 1) := by decide +kernel
theorem dL_isStep_285 : decode cL_isStep 285 = .ok (.invokevirtual 47, 3) := by decide +kernel
theorem dL_isStep_288 : decode cL_isStep 288 = .ok (.iload 11, 2) := by decide +kernel
theorem dL_isStep_290 : decode cL_isStep 290 = .ok (.if_icmp .ne 29, 3) := by decide +kernel
theorem dL_isStep_293 : decode cL_isStep 293 = .ok (.aload_n 0, 1) := by decide +kernel
theorem dL_isStep_294 : decode cL_isStep 294 = .ok (.iconst 3, 1) := by decide +kernel
theorem dL_isStep_295 : decode cL_isStep 295 = .ok (.invokevirtual 47, 3) := by decide +kernel
theorem dL_isStep_298 : decode cL_isStep 298 = .ok (.iload 10, 2) := by decide +kernel
theorem dL_isStep_300 : decode cL_isStep 300 = .ok (.iload 6, 2) := by decide +kernel
theorem dL_isStep_302 : decode cL_isStep 302 = .ok (.if_icmp .le 8, 3) := by decide +kernel
theorem dL_isStep_305 : decode cL_isStep 305 = .ok (.iload 10, 2) := by decide +kernel
theorem dL_isStep_307 : decode cL_isStep 307 = .ok (.goto 5, 3) := by decide +kernel
theorem dL_isStep_310 : decode cL_isStep 310 = .ok (.iload 6, 2) := by decide +kernel
theorem dL_isStep_312 : decode cL_isStep 312 = .ok (.if_icmp .ne 7, 3) := by decide +kernel
theorem dL_isStep_315 : decode cL_isStep 315 = .ok (.iconst 1, 1) := by decide +kernel
theorem dL_isStep_316 : decode cL_isStep 316 = .ok (.goto 4, 3) := by decide +kernel
theorem dL_isStep_319 : decode cL_isStep 319 = .ok (.iconst 0, 1) := by decide +kernel
theorem dL_isStep_320 : decode cL_isStep 320 = .ok (.ireturn, 1) := by decide +kernel
theorem dL_isStep_321 : decode cL_isStep 321 = .ok (.aload_n 0, 1) := by decide +kernel
theorem dL_isStep_322 : decode cL_isStep 322 = .ok (.aload_n 1, 1) := by decide +kernel
theorem dL_isStep_323 : decode cL_isStep 323 = .ok (.iload 4, 2) := by decide +kernel
theorem dL_isStep_325 : decode cL_isStep 325 = .ok (.iload_n 3, 1) := by decide +kernel
theorem dL_isStep_326 : decode cL_isStep 326 = .ok (.invokestatic 64, 3) := by decide +kernel
theorem dL_isStep_329 : decode cL_isStep 329 = .ok (.ireturn, 1) := by decide +kernel
theorem dL_isStep_330 : decode cL_isStep 330 = .ok (.iload 4, 2) := by decide +kernel
theorem dL_isStep_332 : decode cL_isStep 332 = .ok (.aload_n 0, 1) := by decide +kernel
theorem dL_isStep_333 : decode cL_isStep 333 = .ok (.iconst 1, 1) := by decide +kernel
theorem dL_isStep_334 : decode cL_isStep 334 = .ok (.invokevirtual 47, 3) := by decide +kernel
theorem dL_isStep_337 : decode cL_isStep 337 = .ok (.iconst 1, 1) := by decide +kernel
theorem dL_isStep_338 : decode cL_isStep 338 = .ok (.iadd, 1) := by decide +kernel
theorem dL_isStep_339 : decode cL_isStep 339 = .ok (.invokestatic 17, 3) := by decide +kernel
theorem dL_isStep_342 : decode cL_isStep 342 = .ok (.istore 8, 2) := by decide +kernel
theorem dL_isStep_344 : decode cL_isStep 344 = .ok (.aload_n 0, 1) := by decide +kernel
theorem dL_isStep_345 : decode cL_isStep 345 = .ok (.iconst 1, 1) := by decide +kernel
theorem dL_isStep_346 : decode cL_isStep 346 = .ok (.invokevirtual 47, 3) := by decide +kernel
theorem dL_isStep_349 : decode cL_isStep 349 = .ok (.istore 9, 2) := by decide +kernel
theorem dL_isStep_351 : decode cL_isStep 351 = .ok (.aload_n 0, 1) := by decide +kernel
theorem dL_isStep_352 : decode cL_isStep 352 = .ok (.iload 8, 2) := by decide +kernel
theorem dL_isStep_354 : decode cL_isStep 354 = .ok (.invokevirtual 68, 3) := by decide +kernel
theorem dL_isStep_357 : decode cL_isStep 357 = .ok (.istore 10, 2) := by decide +kernel
theorem dL_isStep_359 : decode cL_isStep 359 = .ok (.iload 10, 2) := by decide +kernel
theorem dL_isStep_361 : decode cL_isStep 361 = .ok (.aload_n 1, 1) := by decide +kernel
theorem dL_isStep_362 : decode cL_isStep 362 = .ok (.iload 8, 2) := by decide +kernel
theorem dL_isStep_364 : decode cL_isStep 364 = .ok (.invokevirtual 68, 3) := by decide +kernel
theorem dL_isStep_367 : decode cL_isStep 367 = .ok (.if_icmp .ne 27, 3) := by decide +kernel
theorem dL_isStep_370 : decode cL_isStep 370 = .ok (.iload 10, 2) := by decide +kernel
theorem dL_isStep_372 : decode cL_isStep 372 = .ok (.iload 8, 2) := by decide +kernel
theorem dL_isStep_374 : decode cL_isStep 374 = .ok (.iload 9, 2) := by decide +kernel
theorem dL_isStep_376 : decode cL_isStep 376 = .ok (.if_icmp .ne 7, 3) := by decide +kernel
theorem dL_isStep_379 : decode cL_isStep 379 = .ok (.iconst (-1), 1) := by decide +kernel
theorem dL_isStep_380 : decode cL_isStep 380 = .ok (.goto 7, 3) := by decide +kernel
theorem dL_isStep_383 : decode cL_isStep 383 = .ok (.iload 9, 2) := by decide +kernel
theorem dL_isStep_385 : decode cL_isStep 385 = .ok (.iconst 1, 1) := by decide +kernel
theorem dL_isStep_386 : decode cL_isStep 386 = .ok (.isub, 1) := by decide +kernel
theorem dL_isStep_387 : decode cL_isStep 387 = .ok (.if_icmp .ne 7, 3) := by decide +kernel
theorem dL_isStep_390 : decode cL_isStep 390 = .ok (.iconst 1, 1) := by decide +kernel
theorem dL_isStep_391 : decode cL_isStep 391 = .ok (.goto 4, 3) := by decide +kernel
theorem dL_isStep_394 : decode cL_isStep 394 = .ok (.iconst 0, 1) := by decide +kernel
theorem dL_isStep_395 : decode cL_isStep 395 = .ok (.ireturn, 1) := by decide +kernel
theorem dL_isStep_396 : decode cL_isStep 396 = .ok (.iload 4, 2) := by decide +kernel
theorem dL_isStep_398 : decode cL_isStep 398 = .ok (.aload_n 0, 1) := by decide +kernel
theorem dL_isStep_399 : decode cL_isStep 399 = .ok (.iconst 1, 1) := by decide +kernel
theorem dL_isStep_400 : decode cL_isStep 400 = .ok (.invokevirtual 47, 3) := by decide +kernel
theorem dL_isStep_403 : decode cL_isStep 403 = .ok (.iconst 1, 1) := by decide +kernel
theorem dL_isStep_404 : decode cL_isStep 404 = .ok (.iadd, 1) := by decide +kernel
theorem dL_isStep_405 : decode cL_isStep 405 = .ok (.invokestatic 17, 3) := by decide +kernel
theorem dL_isStep_408 : decode cL_isStep 408 = .ok (.istore 8, 2) := by decide +kernel
theorem dL_isStep_410 : decode cL_isStep 410 = .ok (.iconst 1, 1) := by decide +kernel
theorem dL_isStep_411 : decode cL_isStep 411 = .ok (.iload_n 3, 1) := by decide +kernel
theorem dL_isStep_412 : decode cL_isStep 412 = .ok (.bipush 100, 2) := by decide +kernel
theorem dL_isStep_414 : decode cL_isStep 414 = .ok (.invokestatic 17, 3) := by decide +kernel
theorem dL_isStep_417 : decode cL_isStep 417 = .ok (.iadd, 1) := by decide +kernel
theorem dL_isStep_418 : decode cL_isStep 418 = .ok (.istore 9, 2) := by decide +kernel
theorem dL_isStep_420 : decode cL_isStep 420 = .ok (.aload_n 0, 1) := by decide +kernel
theorem dL_isStep_421 : decode cL_isStep 421 = .ok (.iload 8, 2) := by decide +kernel
theorem dL_isStep_423 : decode cL_isStep 423 = .ok (.iconst 0, 1) := by decide +kernel
theorem dL_isStep_424 : decode cL_isStep 424 = .ok (.invokevirtual 54, 3) := by decide +kernel
theorem dL_isStep_427 : decode cL_isStep 427 = .ok (.istore 10, 2) := by decide +kernel
theorem dL_isStep_429 : decode cL_isStep 429 = .ok (.aload_n 0, 1) := by decide +kernel
theorem dL_isStep_430 : decode cL_isStep 430 = .ok (.iload 8, 2) := by decide +kernel
theorem dL_isStep_432 : decode cL_isStep 432 = .ok (.iconst 4, 1) := by decide +kernel
theorem dL_isStep_433 : decode cL_isStep 433 = .ok (.invokevirtual 54, 3) := by decide +kernel
theorem dL_isStep_436 : decode cL_isStep 436 = .ok (.istore 11, 2) := by decide +kernel
theorem dL_isStep_438 : decode cL_isStep 438 = .ok (.aload_n 0, 1) := by decide +kernel
theorem dL_isStep_439 : decode cL_isStep 439 = .ok (.iload 8, 2) := by decide +kernel
theorem dL_isStep_441 : decode cL_isStep 441 = .ok (.iload 9, 2) := by decide +kernel
theorem dL_isStep_443 : decode cL_isStep 443 = .ok (.invokevirtual 71, 3) := by decide +kernel
theorem dL_isStep_446 : decode cL_isStep 446 = .ok (.istore 12, 2) := by decide +kernel
theorem dL_isStep_448 : decode cL_isStep 448 = .ok (.iload 12, 2) := by decide +kernel
theorem dL_isStep_450 : decode cL_isStep 450 = .ok (.aload_n 1, 1) := by decide +kernel
theorem dL_isStep_451 : decode cL_isStep 451 = .ok (.iload 8, 2) := by decide +kernel
theorem dL_isStep_453 : decode cL_isStep 453 = .ok (.iload 9, 2) := by decide +kernel
theorem dL_isStep_455 : decode cL_isStep 455 = .ok (.invokevirtual 71, 3) := by decide +kernel
theorem dL_isStep_458 : decode cL_isStep 458 = .ok (.if_icmp .ne 78, 3) := by decide +kernel
theorem dL_isStep_461 : decode cL_isStep 461 = .ok (.iload 10, 2) := by decide +kernel
theorem dL_isStep_463 : decode cL_isStep 463 = .ok (.ifCond .ge 12, 3) := by decide +kernel
theorem dL_isStep_466 : decode cL_isStep 466 = .ok (.iload 12, 2) := by decide +kernel
theorem dL_isStep_468 : decode cL_isStep 468 = .ok (.iconst (-1), 1) := by decide +kernel
theorem dL_isStep_469 : decode cL_isStep 469 = .ok (.if_icmp .ne 67, 3) := by decide +kernel
theorem dL_isStep_472 : decode cL_isStep 472 = .ok (.goto 60, 3) := by decide +kernel
theorem dL_isStep_475 : decode cL_isStep 475 = .ok (.iload 12, 2) := by decide +kernel
theorem dL_isStep_477 : decode cL_isStep 477 = .ok (.iload 10, 2) := by decide +kernel
theorem dL_isStep_479 : decode cL_isStep 479 = .ok (.iload 9, 2) := by decide +kernel
theorem dL_isStep_481 : decode cL_isStep 481 = .ok (.if_icmp .ne 8, 3) := by decide +kernel
theorem dL_isStep_484 : decode cL_isStep 484 = .ok (.bipush (-5), 2) := by decide +kernel
theorem dL_isStep_486 : decode cL_isStep 486 = .ok (.goto 5, 3) := by decide +kernel
theorem dL_isStep_489 : decode cL_isStep 489 = .ok (.iload 10, 2) := by decide +kernel
theorem dL_isStep_491 : decode cL_isStep 491 = .ok (.if_icmp .ne 45, 3) := by decide +kernel
theorem dL_isStep_494 : decode cL_isStep 494 = .ok (.iload 9, 2) := by decide +kernel
theorem dL_isStep_496 : decode cL_isStep 496 = .ok (.iload 10, 2) := by decide +kernel
theorem dL_isStep_498 : decode cL_isStep 498 = .ok (.if_icmp .lt 15, 3) := by decide +kernel
theorem dL_isStep_501 : decode cL_isStep 501 = .ok (.aload_n 0, 1) := by decide +kernel
theorem dL_isStep_502 : decode cL_isStep 502 = .ok (.iload 8, 2) := by decide +kernel
theorem dL_isStep_504 : decode cL_isStep 504 = .ok (.iconst 4, 1) := by decide +kernel
theorem dL_isStep_505 : decode cL_isStep 505 = .ok (.invokevirtual 54, 3) := by decide +kernel
theorem dL_isStep_508 : decode cL_isStep 508 = .ok (.iload 11, 2) := by decide +kernel
theorem dL_isStep_510 : decode cL_isStep 510 = .ok (.if_icmp .lt 26, 3) := by decide +kernel
theorem dL_isStep_513 : decode cL_isStep 513 = .ok (.iload 9, 2) := by decide +kernel
theorem dL_isStep_515 : decode cL_isStep 515 = .ok (.iload 10, 2) := by decide +kernel
theorem dL_isStep_517 : decode cL_isStep 517 = .ok (.if_icmp .gt 15, 3) := by decide +kernel
theorem dL_isStep_520 : decode cL_isStep 520 = .ok (.aload_n 0, 1) := by decide +kernel
theorem dL_isStep_521 : decode cL_isStep 521 = .ok (.iload 8, 2) := by decide +kernel
theorem dL_isStep_523 : decode cL_isStep 523 = .ok (.iconst 4, 1) := by decide +kernel
theorem dL_isStep_524 : decode cL_isStep 524 = .ok (.invokevirtual 54, 3) := by decide +kernel
theorem dL_isStep_527 : decode cL_isStep 527 = .ok (.iload 11, 2) := by decide +kernel
theorem dL_isStep_529 : decode cL_isStep 529 = .ok (.if_icmp .gt 7, 3) := by decide +kernel
theorem dL_isStep_532 : decode cL_isStep 532 = .ok (.iconst 1, 1) := by decide +kernel
theorem dL_isStep_533 : decode cL_isStep 533 = .ok (.goto 4, 3) := by decide +kernel
theorem dL_isStep_536 : decode cL_isStep 536 = .ok (.iconst 0, 1) := by decide +kernel
theorem dL_isStep_537 : decode cL_isStep 537 = .ok (.ireturn, 1) := by decide +kernel
theorem dL_isStep_538 : decode cL_isStep 538 = .ok (.iload 6, 2) := by decide +kernel
theorem dL_isStep_540 : decode cL_isStep 540 = .ok (.bipush 30, 2) := by decide +kernel
theorem dL_isStep_542 : decode cL_isStep 542 = .ok (.if_icmp .ge 12, 3) := by decide +kernel
theorem dL_isStep_545 : decode cL_isStep 545 = .ok (.iload_n 3, 1) := by decide +kernel
theorem dL_isStep_546 : decode cL_isStep 546 = .ok (.bipush 30, 2) := by decide +kernel
theorem dL_isStep_548 : decode cL_isStep 548 = .ok (.invokestatic 17, 3) := by decide +kernel
theorem dL_isStep_551 : decode cL_isStep 551 = .ok (.goto 12, 3) := by decide +kernel
theorem dL_isStep_554 : decode cL_isStep 554 = .ok (.iload 6, 2) := by decide +kernel
theorem dL_isStep_556 : decode cL_isStep 556 = .ok (.iload_n 3, 1) := by decide +kernel
theorem dL_isStep_557 : decode cL_isStep 557 = .ok (.bipush 30, 2) := by decide +kernel
theorem dL_isStep_559 : decode cL_isStep 559 = .ok (.invokestatic 17, 3) := by decide +kernel
theorem dL_isStep_562 : decode cL_isStep 562 = .ok (.isub, 1) := by decide +kernel
theorem dL_isStep_563 : decode cL_isStep 563 = .ok (.istore 8, 2) := by decide +kernel
theorem dL_isStep_565 : decode cL_isStep 565 = .ok (.aload_n 0, 1) := by decide +kernel
theorem dL_isStep_566 : decode cL_isStep 566 = .ok (.iload 8, 2) := by decide +kernel
theorem dL_isStep_568 : decode cL_isStep 568 = .ok (.invokevirtual 74, 3) := by decide +kernel
theorem dL_isStep_571 : decode cL_isStep 571 = .ok (.istore 9, 2) := by decide +kernel
theorem dL_isStep_573 : decode cL_isStep 573 = .ok (.iload 9, 2) := by decide +kernel
theorem dL_isStep_575 : decode cL_isStep 575 = .ok (.aload_n 1, 1) := by decide +kernel
theorem dL_isStep_576 : decode cL_isStep 576 = .ok (.iload 8, 2) := by decide +kernel
theorem dL_isStep_578 : decode cL_isStep 578 = .ok (.invokevirtual 74, 3) := by decide +kernel
theorem dL_isStep_581 : decode cL_isStep 581 = .ok (.if_icmp .ne 40, 3) := by decide +kernel
theorem dL_isStep_584 : decode cL_isStep 584 = .ok (.aload_n 0, 1) := by decide +kernel
theorem dL_isStep_585 : decode cL_isStep 585 = .ok (.iconst 0, 1) := by decide +kernel
theorem dL_isStep_586 : decode cL_isStep 586 = .ok (.invokevirtual 47, 3) := by decide +kernel
theorem dL_isStep_589 : decode cL_isStep 589 = .ok (.iload 9, 2) := by decide +kernel
theorem dL_isStep_591 : decode cL_isStep 591 = .ok (.ifCond .ge 8, 3) := by decide +kernel
theorem dL_isStep_594 : decode cL_isStep 594 = .ok (.iload 5, 2) := by decide +kernel
theorem dL_isStep_596 : decode cL_isStep 596 = .ok (.goto 8, 3) := by decide +kernel
theorem dL_isStep_599 : decode cL_isStep 599 = .ok (.iload 5, 2) := by decide +kernel
theorem dL_isStep_601 : decode cL_isStep 601 = .ok (.iload 9, 2) := by decide +kernel
theorem dL_isStep_603 : decode cL_isStep 603 = .ok (.isub, 1) := by decide +kernel
theorem dL_isStep_604 : decode cL_isStep 604 = .ok (.if_icmp .ne 17, 3) := by decide +kernel
theorem dL_isStep_607 : decode cL_isStep 607 = .ok (.aload_n 0, 1) := by decide +kernel
theorem dL_isStep_608 : decode cL_isStep 608 = .ok (.iconst 3, 1) := by decide +kernel
theorem dL_isStep_609 : decode cL_isStep 609 = .ok (.invokevirtual 47, 3) := by decide +kernel
theorem dL_isStep_612 : decode cL_isStep 612 = .ok (.iload 6, 2) := by decide +kernel
theorem dL_isStep_614 : decode cL_isStep 614 = .ok (.if_icmp .ne 7, 3) := by decide +kernel
theorem dL_isStep_617 : decode cL_isStep 617 = .ok (.iconst 1, 1) := by decide +kernel
theorem dL_isStep_618 : decode cL_isStep 618 = .ok (.goto 4, 3) := by decide +kernel
theorem dL_isStep_621 : decode cL_isStep 621 = .ok (.iconst 0, 1) := by decide +kernel
theorem dL_isStep_622 : decode cL_isStep 622 = .ok (.ireturn, 1) := by decide +kernel
theorem dL_isStep_623 : decode cL_isStep 623 = .ok (.iload_n 3, 1) := by decide +kernel
theorem dL_isStep_624 : decode cL_isStep 624 = .ok (.bipush 50, 2) := by decide +kernel
theorem dL_isStep_626 : decode cL_isStep 626 = .ok (.invokestatic 17, 3) := by decide +kernel
theorem dL_isStep_629 : decode cL_isStep 629 = .ok (.istore 8, 2) := by decide +kernel
theorem dL_isStep_631 : decode cL_isStep 631 = .ok (.aload_n 0, 1) := by decide +kernel
theorem dL_isStep_632 : decode cL_isStep 632 = .ok (.iload 8, 2) := by decide +kernel
theorem dL_isStep_634 : decode cL_isStep 634 = .ok (.invokevirtual 77, 3) := by decide +kernel
theorem dL_isStep_637 : decode cL_isStep 637 = .ok (.aload_n 1, 1) := by decide +kernel
theorem dL_isStep_638 : decode cL_isStep 638 = .ok (.iload 8, 2) := by decide +kernel
theorem dL_isStep_640 : decode cL_isStep 640 = .ok (.invokevirtual 77, 3) := by decide +kernel
theorem dL_isStep_643 : decode cL_isStep 643 = .ok (.if_icmp .ne 41, 3) := by decide +kernel
theorem dL_isStep_646 : decode cL_isStep 646 = .ok (.aload_n 0, 1) := by decide +kernel
theorem dL_isStep_647 : decode cL_isStep 647 = .ok (.iconst 5, 1) := by decide +kernel
theorem dL_isStep_648 : decode cL_isStep 648 = .ok (.invokevirtual 47, 3) := by decide +kernel
theorem dL_isStep_651 : decode cL_isStep 651 = .ok (.iload 8, 2) := by decide +kernel
theorem dL_isStep_653 : decode cL_isStep 653 = .ok (.if_icmp .ne 31, 3) := by decide +kernel
theorem dL_isStep_656 : decode cL_isStep 656 = .ok (.aload_n 0, 1) := by decide +kernel
theorem dL_isStep_657 : decode cL_isStep 657 = .ok (.iconst 4, 1) := by decide +kernel
theorem dL_isStep_658 : decode cL_isStep 658 = .ok (.invokevirtual 47, 3) := by decide +kernel
theorem dL_isStep_661 : decode cL_isStep 661 = .ok (.iload 6, 2) := by decide +kernel
theorem dL_isStep_663 : decode cL_isStep 663 = .ok (.iload 8, 2) := by decide +kernel
theorem dL_isStep_665 : decode cL_isStep 665 = .ok (.if_icmp .le 11, 3) := by decide +kernel
theorem dL_isStep_668 : decode cL_isStep 668 = .ok (.iload 6, 2) := by decide +kernel
theorem dL_isStep_670 : decode cL_isStep 670 = .ok (.iload 8, 2) := by decide +kernel
theorem dL_isStep_672 : decode cL_isStep 672 = .ok (.isub, 1) := by decide +kernel
theorem dL_isStep_673 : decode cL_isStep 673 = .ok (.goto 4, 3) := by decide +kernel
theorem dL_isStep_676 : decode cL_isStep 676 = .ok (.iconst 0, 1) := by decide +kernel
theorem dL_isStep_677 : decode cL_isStep 677 = .ok (.if_icmp .ne 7, 3) := by decide +kernel
theorem dL_isStep_680 : decode cL_isStep 680 = .ok (.iconst 1, 1) := by decide +kernel
theorem dL_isStep_681 : decode cL_isStep 681 = .ok (.goto 4, 3) := by decide +kernel
theorem dL_isStep_684 : decode cL_isStep 684 = .ok (.iconst 0, 1) := by decide +kernel
theorem dL_isStep_685 : decode cL_isStep 685 = .ok (.ireturn, 1) := by decide +kernel
theorem dL_isStep_686 : decode cL_isStep 686 = .ok (.aload_n 0, 1) := by decide +kernel
theorem dL_isStep_687 : decode cL_isStep 687 = .ok (.bipush 7, 2) := by decide +kernel
theorem dL_isStep_689 : decode cL_isStep 689 = .ok (.invokevirtual 47, 3) := by decide +kernel
theorem dL_isStep_692 : decode cL_isStep 692 = .ok (.ifCond .eq 14, 3) := by decide +kernel
theorem dL_isStep_695 : decode cL_isStep 695 = .ok (.aload_n 0, 1) := by decide +kernel
theorem dL_isStep_696 : decode cL_isStep 696 = .ok (.invokevirtual 80, 3) := by decide +kernel
theorem dL_isStep_699 : decode cL_isStep 699 = .ok (.aload_n 1, 1) := by decide +kernel
theorem dL_isStep_700 : decode cL_isStep 700 = .ok (.invokevirtual 80, 3) := by decide +kernel
theorem dL_isStep_703 : decode cL_isStep 703 = .ok (.if_icmp .ne 7, 3) := by decide +kernel
theorem dL_isStep_706 : decode cL_isStep 706 = .ok (.iconst 1, 1) := by decide +kernel
theorem dL_isStep_707 : decode cL_isStep 707 = .ok (.goto 4, 3) := by decide +kernel
theorem dL_isStep_710 : decode cL_isStep 710 = .ok (.iconst 0, 1) := by decide +kernel
theorem dL_isStep_711 : decode cL_isStep 711 = .ok (.ireturn, 1) := by decide +kernel
theorem dL_areAlike_0 : decode cL_areAlike 0 = .ok (.iconst 1, 1) := by decide +kernel
theorem dL_areAlike_1 : decode cL_areAlike 1 = .ok (.istore_n 2, 1) := by decide +kernel
theorem dL_areAlike_2 : decode cL_areAlike 2 = .ok (.iconst 0, 1) := by decide +kernel
theorem dL_areAlike_3 : decode cL_areAlike 3 = .ok (.istore_n 3, 1) := by decide +kernel
theorem dL_areAlike_4 : decode cL_areAlike 4 = .ok (.iload_n 3, 1) := by decide +kernel
theorem dL_areAlike_5 : decode cL_areAlike 5 = .ok (.bipush 8, 2) := by decide +kernel
theorem dL_areAlike_7 : decode cL_areAlike 7 = .ok (.if_icmp .ge 32, 3) := by decide +kernel
theorem dL_areAlike_10 : decode cL_areAlike 10 = .ok (.iload_n 2, 1) := by decide +kernel
theorem dL_areAlike_11 : decode cL_areAlike 11 = .ok (.ifCond .eq 20, 3) := by decide +kernel
theorem dL_areAlike_14 : decode cL_areAlike 14 = .ok (.aload_n 0, 1) := by decide +kernel
theorem dL_areAlike_15 : decode cL_areAlike 15 = .ok (.iload_n 3, 1) := by decide +kernel
theorem dL_areAlike_16 : decode cL_areAlike 16 = .ok (.invokevirtual 47, 3) := by decide +kernel
theorem dL_areAlike_19 : decode cL_areAlike 19 = .ok (.aload_n 1, 1) := by decide +kernel
theorem dL_areAlike_20 : decode cL_areAlike 20 = .ok (.iload_n 3, 1) := by decide +kernel
theorem dL_areAlike_21 : decode cL_areAlike 21 = .ok (.invokevirtual 47, 3) := by decide +kernel
theorem dL_areAlike_24 : decode cL_areAlike 24 = .ok (.if_icmp .ne 7, 3) := by decide +kernel
theorem dL_areAlike_27 : decode cL_areAlike 27 = .ok (.iconst 1, 1) := by decide +kernel
theorem dL_areAlike_28 : decode cL_areAlike 28 = .ok (.goto 4, 3) := by decide +kernel
theorem dL_areAlike_31 : decode cL_areAlike 31 = .ok (.iconst 0, 1) := by decide +kernel
theorem dL_areAlike_32 : decode cL_areAlike 32 = .ok (.istore_n 2, 1) := by decide +kernel
theorem dL_areAlike_33 : decode cL_areAlike 33 = .ok (.iinc 3 1, 3) := by decide +kernel
theorem dL_areAlike_36 : decode cL_areAlike 36 = .ok (.goto (-32), 3) := by decide +kernel
theorem dL_areAlike_39 : decode cL_areAlike 39 = .ok (.iconst 0, 1) := by decide +kernel
theorem dL_areAlike_40 : decode cL_areAlike 40 = .ok (.istore_n 3, 1) := by decide +kernel
theorem dL_areAlike_41 : decode cL_areAlike 41 = .ok (.iload_n 3, 1) := by decide +kernel
theorem dL_areAlike_42 : decode cL_areAlike 42 = .ok (.aload_n 0, 1) := by decide +kernel
theorem dL_areAlike_43 : decode cL_areAlike 43 = .ok (.iconst 1, 1) := by decide +kernel
theorem dL_areAlike_44 : decode cL_areAlike 44 = .ok (.invokevirtual 47, 3) := by decide +kernel
theorem dL_areAlike_47 : decode cL_areAlike 47 = .ok (.if_icmp .ge 191, 3) := by decide +kernel
theorem dL_areAlike_50 : decode cL_areAlike 50 = .ok (.iload_n 2, 1) := by decide +kernel
theorem dL_areAlike_51 : decode cL_areAlike 51 = .ok (.ifCond .eq 187, 3) := by decide +kernel
theorem dL_areAlike_54 : decode cL_areAlike 54 = .ok (.iconst 0, 1) := by decide +kernel
theorem dL_areAlike_55 : decode cL_areAlike 55 = .ok (.istore 4, 2) := by decide +kernel
theorem dL_areAlike_57 : decode cL_areAlike 57 = .ok (.iload 4, 2) := by decide +kernel
theorem dL_areAlike_59 : decode cL_areAlike 59 = .ok (.bipush 7, 2) := by decide +kernel
theorem dL_areAlike_61 : decode cL_areAlike 61 = .ok (.if_icmp .ge 36, 3) := by decide +kernel
theorem dL_areAlike_64 : decode cL_areAlike 64 = .ok (.iload_n 2, 1) := by decide +kernel
theorem dL_areAlike_65 : decode cL_areAlike 65 = .ok (.ifCond .eq 24, 3) := by decide +kernel
theorem dL_areAlike_68 : decode cL_areAlike 68 = .ok (.aload_n 0, 1) := by decide +kernel
theorem dL_areAlike_69 : decode cL_areAlike 69 = .ok (.iload_n 3, 1) := by decide +kernel
theorem dL_areAlike_70 : decode cL_areAlike 70 = .ok (.iload 4, 2) := by decide +kernel
theorem dL_areAlike_72 : decode cL_areAlike 72 = .ok (.invokevirtual 54, 3) := by decide +kernel
theorem dL_areAlike_75 : decode cL_areAlike 75 = .ok (.aload_n 1, 1) := by decide +kernel
theorem dL_areAlike_76 : decode cL_areAlike 76 = .ok (.iload_n 3, 1) := by decide +kernel
theorem dL_areAlike_77 : decode cL_areAlike 77 = .ok (.iload 4, 2) := by decide +kernel
theorem dL_areAlike_79 : decode cL_areAlike 79 = .ok (.invokevirtual 54, 3) := by decide +kernel
theorem dL_areAlike_82 : decode cL_areAlike 82 = .ok (.if_icmp .ne 7, 3) := by decide +kernel
theorem dL_areAlike_85 : decode cL_areAlike 85 = .ok (.iconst 1, 1) := by decide +kernel
theorem dL_areAlike_86 : decode cL_areAlike 86 = .ok (.goto 4, 3) := by decide +kernel
theorem dL_areAlike_89 : decode cL_areAlike 89 = .ok (.iconst 0, 1) := by decide +kernel
theorem dL_areAlike_90 : decode cL_areAlike 90 = .ok (.istore_n 2, 1) := by decide +kernel
theorem dL_areAlike_91 : decode cL_areAlike 91 = .ok (.iinc 4 1, 3) := by decide +kernel
theorem dL_areAlike_94 : decode cL_areAlike 94 = .ok (.goto (-37), 3) := by decide +kernel
theorem dL_areAlike_97 : decode cL_areAlike 97 = .ok (.iconst 0, 1) := by decide +kernel
theorem dL_areAlike_98 : decode cL_areAlike 98 = .ok (.istore 4, 2) := by decide +kernel
theorem dL_areAlike_100 : decode cL_areAlike 100 = .ok (.iload 4, 2) := by decide +kernel
theorem dL_areAlike_102 : decode cL_areAlike 102 = .ok (.aload_n 0, 1) := by decide +kernel
theorem dL_areAlike_103 : decode cL_areAlike 103 = .ok (.iload_n 3, 1) := by decide +kernel
theorem dL_areAlike_104 : decode cL_areAlike 104 = .ok (.iconst 2, 1) := by decide +kernel
theorem dL_areAlike_105 : decode cL_areAlike 105 = .ok (.invokevirtual 54, 3) := by decide +kernel
theorem dL_areAlike_108 : decode cL_areAlike 108 = .ok (.if_icmp .ge 60, 3) := by decide +kernel
theorem dL_areAlike_111 : decode cL_areAlike 111 = .ok (.iload_n 2, 1) := by decide +kernel
theorem dL_areAlike_112 : decode cL_areAlike 112 = .ok (.ifCond .eq 48, 3) := by decide +kernel
theorem dL_areAlike_115 : decode cL_areAlike 115 = .ok (.aload_n 0, 1) := by decide +kernel
theorem dL_areAlike_116 : decode cL_areAlike 116 = .ok (.iload_n 3, 1) := by decide +kernel
theorem dL_areAlike_117 : decode cL_areAlike 117 = .ok (.iload 4, 2) := by decide +kernel
theorem dL_areAlike_119 : decode cL_areAlike 119 = .ok (.iconst 0, 1) := by decide +kernel
theorem dL_areAlike_120 : decode cL_areAlike 120 = .ok (.invokevirtual 83, 3) := by decide +kernel
theorem dL_areAlike_123 : decode cL_areAlike 123 = .ok (.invokestatic 43, 3) := by decide +kernel
theorem dL_areAlike_126 : decode cL_areAlike 126 = .ok (.aload_n 1, 1) := by decide +kernel
theorem dL_areAlike_127 : decode cL_areAlike 127 = .ok (.iload_n 3, 1) := by decide +kernel
theorem dL_areAlike_128 : decode cL_areAlike 128 = .ok (.iload 4, 2) := by decide +kernel
theorem dL_areAlike_130 : decode cL_areAlike 130 = .ok (.iconst 0, 1) := by decide +kernel
theorem dL_areAlike_131 : decode cL_areAlike 131 = .ok (.invokevirtual 83, 3) := by decide +kernel
theorem dL_areAlike_134 : decode cL_areAlike 134 = .ok (.if_icmp .ne 26, 3) := by decide +kernel
theorem dL_areAlike_137 : decode cL_areAlike 137 = .ok (.aload_n 0, 1) := by decide +kernel
theorem dL_areAlike_138 : decode cL_areAlike 138 = .ok (.iload_n 3, 1) := by decide +kernel
theorem dL_areAlike_139 : decode cL_areAlike 139 = .ok (.iload 4, 2) := by decide +kernel
theorem dL_areAlike_141 : decode cL_areAlike 141 = .ok (.iconst 1, 1) := by decide +kernel
theorem dL_areAlike_142 : decode cL_areAlike 142 = .ok (.invokevirtual 83, 3) := by decide +kernel
theorem dL_areAlike_145 : decode cL_areAlike 145 = .ok (.aload_n 1, 1) := by decide +kernel
theorem dL_areAlike_146 : decode cL_areAlike 146 = .ok (.iload_n 3, 1) := by decide +kernel
theorem dL_areAlike_147 : decode cL_areAlike 147 = .ok (.iload 4, 2) := by decide +kernel
theorem dL_areAlike_149 : decode cL_areAlike 149 = .ok (.iconst 1, 1) := by decide +kernel
theorem dL_areAlike_150 : decode cL_areAlike 150 = .ok (.invokevirtual 83, 3) := by decide +kernel
theorem dL_areAlike_153 : decode cL_areAlike 153 = .ok (.if_icmp .ne 7, 3) := by decide +kernel
theorem dL_areAlike_156 : decode cL_areAlike 156 = .ok (.iconst 1, 1) := by decide +kernel
theorem dL_areAlike_157 : decode cL_areAlike 157 = .ok (.goto 4, 3) := by decide +kernel
theorem dL_areAlike_160 : decode cL_areAlike 160 = .ok (.iconst 0, 1) := by decide +kernel
theorem dL_areAlike_161 : decode cL_areAlike 161 = .ok (.istore_n 2, 1) := by decide +kernel
theorem dL_areAlike_162 : decode cL_areAlike 162 = .ok (.iinc 4 1, 3) := by decide +kernel
theorem dL_areAlike_165 : decode cL_areAlike 165 = .ok (.goto (-65), 3) := by decide +kernel
theorem dL_areAlike_168 : decode cL_areAlike 168 = .ok (.iconst 0, 1) := by decide +kernel
theorem dL_areAlike_169 : decode cL_areAlike 169 = .ok (.istore 4, 2) := by decide +kernel
theorem dL_areAlike_171 : decode cL_areAlike 171 = .ok (.iload 4, 2) := by decide +kernel
theorem dL_areAlike_173 : decode cL_areAlike 173 = .ok (.bipush 12, 2) := by decide +kernel
theorem dL_areAlike_175 : decode cL_areAlike 175 = .ok (.if_icmp .ge 57, 3) := by decide +kernel
theorem dL_areAlike_178 : decode cL_areAlike 178 = .ok (.iload_n 2, 1) := by decide +kernel
theorem dL_areAlike_179 : decode cL_areAlike 179 = .ok (.ifCond .eq 45, 3) := by decide +kernel
theorem dL_areAlike_182 : decode cL_areAlike 182 = .ok (.aload_n 0, 1) := by decide +kernel
theorem dL_areAlike_183 : decode cL_areAlike 183 = .ok (.iload_n 3, 1) := by decide +kernel
theorem dL_areAlike_184 : decode cL_areAlike 184 = .ok (.iload 4, 2) := by decide +kernel
theorem dL_areAlike_186 : decode cL_areAlike 186 = .ok (.iconst 0, 1) := by decide +kernel
theorem dL_areAlike_187 : decode cL_areAlike 187 = .ok (.invokevirtual 87, 3) := by decide +kernel
theorem dL_areAlike_190 : decode cL_areAlike 190 = .ok (.aload_n 1, 1) := by decide +kernel
theorem dL_areAlike_191 : decode cL_areAlike 191 = .ok (.iload_n 3, 1) := by decide +kernel
theorem dL_areAlike_192 : decode cL_areAlike 192 = .ok (.iload 4, 2) := by decide +kernel
theorem dL_areAlike_194 : decode cL_areAlike 194 = .ok (.iconst 0, 1) := by decide +kernel
theorem dL_areAlike_195 : decode cL_areAlike 195 = .ok (.invokevirtual 87, 3) := by decide +kernel
theorem dL_areAlike_198 : decode cL_areAlike 198 = .ok (.if_icmp .ne 26, 3) := by decide +kernel
theorem dL_areAlike_201 : decode cL_areAlike 201 = .ok (.aload_n 0, 1) := by decide +kernel
theorem dL_areAlike_202 : decode cL_areAlike 202 = .ok (.iload_n 3, 1) := by decide +kernel
theorem dL_areAlike_203 : decode cL_areAlike 203 = .ok (.iload 4, 2) := by decide +kernel
theorem dL_areAlike_205 : decode cL_areAlike 205 = .ok (.iconst 1, 1) := by decide +kernel
theorem dL_areAlike_206 : decode cL_areAlike 206 = .ok (.invokevirtual 87, 3) := by decide +kernel
theorem dL_areAlike_209 : decode cL_areAlike 209 = .ok (.aload_n 1, 1) := by decide +kernel
theorem dL_areAlike_210 : decode cL_areAlike 210 = .ok (.iload_n 3, 1) := by decide +kernel
theorem dL_areAlike_211 : decode cL_areAlike 211 = .ok (.iload 4, 2) := by decide +kernel
theorem dL_areAlike_213 : decode cL_areAlike 213 = .ok (.iconst 1, 1) := by decide +kernel
theorem dL_areAlike_214 : decode cL_areAlike 214 = .ok (.invokevirtual 87, 3) := by decide +kernel
theorem dL_areAlike_217 : decode cL_areAlike 217 = .ok (.if_icmp .ne 7, 3) := by decide +kernel
theorem dL_areAlike_220 : decode cL_areAlike 220 = .ok (.iconst 1, 1) := by decide +kernel
theorem dL_areAlike_221 : decode cL_areAlike 221 = .ok (.goto 4, 3) := by decide +kernel
theorem dL_areAlike_224 : decode cL_areAlike 224 = .ok (.iconst 0, 1) := by decide +kernel
theorem dL_areAlike_225 : decode cL_areAlike 225 = .ok (.istore_n 2, 1) := by decide +kernel
theorem dL_areAlike_226 : decode cL_areAlike 226 = .ok (.iinc 4 1, 3) := by decide +kernel
theorem dL_areAlike_229 : decode cL_areAlike 229 = .ok (.goto (-58), 3) := by decide +kernel
theorem dL_areAlike_232 : decode cL_areAlike 232 = .ok (.iinc 3 1, 3) := by decide +kernel
theorem dL_areAlike_235 : decode cL_areAlike 235 = .ok (.goto (-194), 3) := by decide +kernel
theorem dL_areAlike_238 : decode cL_areAlike 238 = .ok (.iconst 0, 1) := by decide +kernel
theorem dL_areAlike_239 : decode cL_areAlike 239 = .ok (.istore_n 3, 1) := by decide +kernel
theorem dL_areAlike_240 : decode cL_areAlike 240 = .ok (.iload_n 3, 1) := by decide +kernel
theorem dL_areAlike_241 : decode cL_areAlike 241 = .ok (.aload_n 0, 1) := by decide +kernel
end
section
theorem dL_areAlike_242 : decode cL_areAlike 242 = .ok (.iconst 0, 1) := by decide +kernel
theorem dL_areAlike_243 : decode cL_areAlike 243 = .ok (.invokevirtual 47, 3) := by decide +kernel
theorem dL_areAlike_246 : decode cL_areAlike 246 = .ok (.if_icmp .ge 101, 3) := by decide +kernel
theorem dL_areAlike_249 : decode cL_areAlike 249 = .ok (.iload_n 2, 1) := by decide +kernel
theorem dL_areAlike_250 : decode cL_areAlike 250 = .ok (.ifCond .eq 97, 3) := by decide +kernel
theorem dL_areAlike_253 : decode cL_areAlike 253 = .ok (.aload_n 0, 1) := by decide +kernel
theorem dL_areAlike_254 : decode cL_areAlike 254 = .ok (.iload_n 3, 1) := by decide +kernel
theorem dL_areAlike_255 : decode cL_areAlike 255 = .ok (.iconst 0, 1) := by decide +kernel
theorem dL_areAlike_256 : decode cL_areAlike 256 = .ok (.invokevirtual 90, 3) := by decide +kernel
theorem dL_areAlike_259 : decode cL_areAlike 259 = .ok (.invokestatic 43, 3) := by decide +kernel
theorem dL_areAlike_262 : decode cL_areAlike 262 = .ok (.aload_n 1, 1) := by decide +kernel
theorem dL_areAlike_263 : decode cL_areAlike 263 = .ok (.iload_n 3, 1) := by decide +kernel
theorem dL_areAlike_264 : decode cL_areAlike 264 = .ok (.iconst 0, 1) := by decide +kernel
theorem dL_areAlike_265 : decode cL_areAlike 265 = .ok (.invokevirtual 90, 3) := by decide +kernel
theorem dL_areAlike_268 : decode cL_areAlike 268 = .ok (.if_icmp .ne 71, 3) := by decide +kernel
theorem dL_areAlike_271 : decode cL_areAlike 271 = .ok (.iconst 2, 1) := by decide +kernel
theorem dL_areAlike_272 : decode cL_areAlike 272 = .ok (.aload_n 0, 1) := by decide +kernel
theorem dL_areAlike_273 : decode cL_areAlike 273 = .ok (.iload_n 3, 1) := by decide +kernel
theorem dL_areAlike_274 : decode cL_areAlike 274 = .ok (.iconst 1, 1) := by decide +kernel
theorem dL_areAlike_275 : decode cL_areAlike 275 = .ok (.invokevirtual 90, 3) := by decide +kernel
theorem dL_areAlike_278 : decode cL_areAlike 278 = .ok (.imul, 1) := by decide +kernel
theorem dL_areAlike_279 : decode cL_areAlike 279 = .ok (.iconst 1, 1) := by decide +kernel
theorem dL_areAlike_280 : decode cL_areAlike 280 = .ok (.iadd, 1) := by decide +kernel
theorem dL_areAlike_281 : decode cL_areAlike 281 = .ok (.aload_n 1, 1) := by decide +kernel
theorem dL_areAlike_282 : decode cL_areAlike 282 = .ok (.iload_n 3, 1) := by decide +kernel
theorem dL_areAlike_283 : decode cL_areAlike 283 = .ok (.iconst 1, 1) := by decide +kernel
theorem dL_areAlike_284 : decode cL_areAlike 284 = .ok (.invokevirtual 90, 3) := by decide +kernel
theorem dL_areAlike_287 : decode cL_areAlike 287 = .ok (.if_icmp .ne 52, 3) := by decide +kernel
theorem dL_areAlike_290 : decode cL_areAlike 290 = .ok (.aload_n 0, 1) := by decide +kernel
theorem dL_areAlike_291 : decode cL_areAlike 291 = .ok (.iload_n 3, 1) := by decide +kernel
theorem dL_areAlike_292 : decode cL_areAlike 292 = .ok (.iconst 2, 1) := by decide +kernel
theorem dL_areAlike_293 : decode cL_areAlike 293 = .ok (.invokevirtual 90, 3) := by decide +kernel
theorem dL_areAlike_296 : decode cL_areAlike 296 = .ok (.aload_n 1, 1) := by decide +kernel
theorem dL_areAlike_297 : decode cL_areAlike 297 = .ok (.iload_n 3, 1) := by decide +kernel
theorem dL_areAlike_298 : decode cL_areAlike 298 = .ok (.iconst 2, 1) := by decide +kernel
theorem dL_areAlike_299 : decode cL_areAlike 299 = .ok (.invokevirtual 90, 3) := by decide +kernel
theorem dL_areAlike_302 : decode cL_areAlike 302 = .ok (.if_icmp .ne 37, 3) := by decide +kernel
theorem dL_areAlike_305 : decode cL_areAlike 305 = .ok (.aload_n 0, 1) := by decide +kernel
theorem dL_areAlike_306 : decode cL_areAlike 306 = .ok (.iload_n 3, 1) := by decide +kernel
theorem dL_areAlike_307 : decode cL_areAlike 307 = .ok (.iconst 3, 1) := by decide +kernel
theorem dL_areAlike_308 : decode cL_areAlike 308 = .ok (.invokevirtual 90, 3) := by decide +kernel
theorem dL_areAlike_311 : decode cL_areAlike 311 = .ok (.aload_n 1, 1) := by decide +kernel
theorem dL_areAlike_312 : decode cL_areAlike 312 = .ok (.iload_n 3, 1) := by decide +kernel
theorem dL_areAlike_313 : decode cL_areAlike 313 = .ok (.iconst 3, 1) := by decide +kernel
theorem dL_areAlike_314 : decode cL_areAlike 314 = .ok (.invokevirtual 90, 3) := by decide +kernel
theorem dL_areAlike_317 : decode cL_areAlike 317 = .ok (.if_icmp .ne 22, 3) := by decide +kernel
theorem dL_areAlike_320 : decode cL_areAlike 320 = .ok (.aload_n 0, 1) := by decide +kernel
theorem dL_areAlike_321 : decode cL_areAlike 321 = .ok (.iload_n 3, 1) := by decide +kernel
theorem dL_areAlike_322 : decode cL_areAlike 322 = .ok (.iconst 4, 1) := by decide +kernel
theorem dL_areAlike_323 : decode cL_areAlike 323 = .ok (.invokevirtual 90, 3) := by decide +kernel
theorem dL_areAlike_326 : decode cL_areAlike 326 = .ok (.aload_n 1, 1) := by decide +kernel
theorem dL_areAlike_327 : decode cL_areAlike 327 = .ok (.iload_n 3, 1) := by decide +kernel
theorem dL_areAlike_328 : decode cL_areAlike 328 = .ok (.iconst 4, 1) := by decide +kernel
theorem dL_areAlike_329 : decode cL_areAlike 329 = .ok (.invokevirtual 90, 3) := by decide +kernel
theorem dL_areAlike_332 : decode cL_areAlike 332 = .ok (.if_icmp .ne 7, 3) := by decide +kernel
theorem dL_areAlike_335 : decode cL_areAlike 335 = .ok (.iconst 1, 1) := by decide +kernel
theorem dL_areAlike_336 : decode cL_areAlike 336 = .ok (.goto 4, 3) := by decide +kernel
theorem dL_areAlike_339 : decode cL_areAlike 339 = .ok (.iconst 0, 1) := by decide +kernel
theorem dL_areAlike_340 : decode cL_areAlike 340 = .ok (.istore_n 2, 1) := by decide +kernel
theorem dL_areAlike_341 : decode cL_areAlike 341 = .ok (.iinc 3 1, 3) := by decide +kernel
theorem dL_areAlike_344 : decode cL_areAlike 344 = .ok (.goto (-104), 3) := by decide +kernel
theorem dL_areAlike_347 : decode cL_areAlike 347 = .ok (.iload_n 2, 1) := by decide +kernel
theorem dL_areAlike_348 : decode cL_areAlike 348 = .ok (.ireturn, 1) := by decide +kernel
theorem dL_isWell_0 : decode cL_isWell 0 = .ok (.aload_n 0, 1) := by decide +kernel
theorem dL_isWell_1 : decode cL_isWell 1 = .ok (.iconst 0, 1) := by decide +kernel
theorem dL_isWell_2 : decode cL_isWell 2 = .ok (.invokevirtual 47, 3) := by decide +kernel
theorem dL_isWell_5 : decode cL_isWell 5 = .ok (.istore_n 1, 1) := by decide +kernel
theorem dL_isWell_6 : decode cL_isWell 6 = .ok (.bipush 25, 2) := by decide +kernel
theorem dL_isWell_8 : decode cL_isWell 8 = .ok (.newarray .int, 2) := by decide +kernel
theorem dL_isWell_10 : decode cL_isWell 10 = .ok (.astore_n 2, 1) := by decide +kernel
theorem dL_isWell_11 : decode cL_isWell 11 = .ok (.iconst 0, 1) := by decide +kernel
theorem dL_isWell_12 : decode cL_isWell 12 = .ok (.istore_n 3, 1) := by decide +kernel
theorem dL_isWell_13 : decode cL_isWell 13 = .ok (.iconst 0, 1) := by decide +kernel
theorem dL_isWell_14 : decode cL_isWell 14 = .ok (.istore 4, 2) := by decide +kernel
theorem dL_isWell_16 : decode cL_isWell 16 = .ok (.iconst 0, 1) := by decide +kernel
theorem dL_isWell_17 : decode cL_isWell 17 = .ok (.istore 5, 2) := by decide +kernel
theorem dL_isWell_19 : decode cL_isWell 19 = .ok (.iconst 1, 1) := by decide +kernel
theorem dL_isWell_20 : decode cL_isWell 20 = .ok (.istore 6, 2) := by decide +kernel
theorem dL_isWell_22 : decode cL_isWell 22 = .ok (.iconst 0, 1) := by decide +kernel
theorem dL_isWell_23 : decode cL_isWell 23 = .ok (.istore 7, 2) := by decide +kernel
theorem dL_isWell_25 : decode cL_isWell 25 = .ok (.iload 7, 2) := by decide +kernel
theorem dL_isWell_27 : decode cL_isWell 27 = .ok (.bipush 25, 2) := by decide +kernel
theorem dL_isWell_29 : decode cL_isWell 29 = .ok (.if_icmp .ge 14, 3) := by decide +kernel
theorem dL_isWell_32 : decode cL_isWell 32 = .ok (.aload_n 2, 1) := by decide +kernel
theorem dL_isWell_33 : decode cL_isWell 33 = .ok (.iload 7, 2) := by decide +kernel
theorem dL_isWell_35 : decode cL_isWell 35 = .ok (.iconst (-1), 1) := by decide +kernel
theorem dL_isWell_36 : decode cL_isWell 36 = .ok (.iastore, 1) := by decide +kernel
theorem dL_isWell_37 : decode cL_isWell 37 = .ok (.iinc 7 1, 3) := by decide +kernel
theorem dL_isWell_40 : decode cL_isWell 40 = .ok (.goto (-15), 3) := by decide +kernel
theorem dL_isWell_43 : decode cL_isWell 43 = .ok (.iconst 0, 1) := by decide +kernel
theorem dL_isWell_44 : decode cL_isWell 44 = .ok (.istore 7, 2) := by decide +kernel
theorem dL_isWell_46 : decode cL_isWell 46 = .ok (.iload 7, 2) := by decide +kernel
theorem dL_isWell_48 : decode cL_isWell 48 = .ok (.iload_n 1, 1) := by decide +kernel
theorem dL_isWell_49 : decode cL_isWell 49 = .ok (.if_icmp .ge 109, 3) := by decide +kernel
theorem dL_isWell_52 : decode cL_isWell 52 = .ok (.iload 6, 2) := by decide +kernel
theorem dL_isWell_54 : decode cL_isWell 54 = .ok (.ifCond .eq 104, 3) := by decide +kernel
theorem dL_isWell_57 : decode cL_isWell 57 = .ok (.aload_n 0, 1) := by decide +kernel
theorem dL_isWell_58 : decode cL_isWell 58 = .ok (.iload 7, 2) := by decide +kernel
theorem dL_isWell_60 : decode cL_isWell 60 = .ok (.iconst 3, 1) := by decide +kernel
theorem dL_isWell_61 : decode cL_isWell 61 = .ok (.invokevirtual 90, 3) := by decide +kernel
theorem dL_isWell_64 : decode cL_isWell 64 = .ok (.istore 8, 2) := by decide +kernel
theorem dL_isWell_66 : decode cL_isWell 66 = .ok (.iload 8, 2) := by decide +kernel
theorem dL_isWell_68 : decode cL_isWell 68 = .ok (.ifCond .lt 35, 3) := by decide +kernel
theorem dL_isWell_71 : decode cL_isWell 71 = .ok (.iload 8, 2) := by decide +kernel
theorem dL_isWell_73 : decode cL_isWell 73 = .ok (.iload_n 1, 1) := by decide +kernel
theorem dL_isWell_74 : decode cL_isWell 74 = .ok (.if_icmp .ge 29, 3) := by decide +kernel
theorem dL_isWell_77 : decode cL_isWell 77 = .ok (.aload_n 2, 1) := by decide +kernel
theorem dL_isWell_78 : decode cL_isWell 78 = .ok (.iload 8, 2) := by decide +kernel
theorem dL_isWell_80 : decode cL_isWell 80 = .ok (.iaload, 1) := by decide +kernel
theorem dL_isWell_81 : decode cL_isWell 81 = .ok (.ifCond .ge 22, 3) := by decide +kernel
theorem dL_isWell_84 : decode cL_isWell 84 = .ok (.aload_n 0, 1) := by decide +kernel
theorem dL_isWell_85 : decode cL_isWell 85 = .ok (.iload 7, 2) := by decide +kernel
theorem dL_isWell_87 : decode cL_isWell 87 = .ok (.iconst 2, 1) := by decide +kernel
theorem dL_isWell_88 : decode cL_isWell 88 = .ok (.invokevirtual 90, 3) := by decide +kernel
theorem dL_isWell_91 : decode cL_isWell 91 = .ok (.aload_n 0, 1) := by decide +kernel
theorem dL_isWell_92 : decode cL_isWell 92 = .ok (.iconst 3, 1) := by decide +kernel
theorem dL_isWell_93 : decode cL_isWell 93 = .ok (.invokevirtual 47, 3) := by decide +kernel
theorem dL_isWell_96 : decode cL_isWell 96 = .ok (.if_icmp .gt 7, 3) := by decide +kernel
theorem dL_isWell_99 : decode cL_isWell 99 = .ok (.iconst 1, 1) := by decide +kernel
theorem dL_isWell_100 : decode cL_isWell 100 = .ok (.goto 4, 3) := by decide +kernel
theorem dL_isWell_103 : decode cL_isWell 103 = .ok (.iconst 0, 1) := by decide +kernel
theorem dL_isWell_104 : decode cL_isWell 104 = .ok (.istore 6, 2) := by decide +kernel
theorem dL_isWell_106 : decode cL_isWell 106 = .ok (.aload_n 2, 1) := by decide +kernel
theorem dL_isWell_107 : decode cL_isWell 107 = .ok (.iload 8, 2) := by decide +kernel
theorem dL_isWell_109 : decode cL_isWell 109 = .ok (.ifCond .ge 8, 3) := by decide +kernel
theorem dL_isWell_112 : decode cL_isWell 112 = .ok (.bipush 24, 2) := by decide +kernel
theorem dL_isWell_114 : decode cL_isWell 114 = .ok (.goto 5, 3) := by decide +kernel
theorem dL_isWell_117 : decode cL_isWell 117 = .ok (.iload 8, 2) := by decide +kernel
theorem dL_isWell_119 : decode cL_isWell 119 = .ok (.iload 7, 2) := by decide +kernel
theorem dL_isWell_121 : decode cL_isWell 121 = .ok (.iastore, 1) := by decide +kernel
theorem dL_isWell_122 : decode cL_isWell 122 = .ok (.iload_n 3, 1) := by decide +kernel
theorem dL_isWell_123 : decode cL_isWell 123 = .ok (.aload_n 0, 1) := by decide +kernel
theorem dL_isWell_124 : decode cL_isWell 124 = .ok (.iload 7, 2) := by decide +kernel
theorem dL_isWell_126 : decode cL_isWell 126 = .ok (.iconst 4, 1) := by decide +kernel
theorem dL_isWell_127 : decode cL_isWell 127 = .ok (.invokevirtual 90, 3) := by decide +kernel
theorem dL_isWell_130 : decode cL_isWell 130 = .ok (.ifCond .ne 7, 3) := by decide +kernel
theorem dL_isWell_133 : decode cL_isWell 133 = .ok (.iconst 1, 1) := by decide +kernel
theorem dL_isWell_134 : decode cL_isWell 134 = .ok (.goto 4, 3) := by decide +kernel
theorem dL_isWell_137 : decode cL_isWell 137 = .ok (.iconst 0, 1) := by decide +kernel
theorem dL_isWell_138 : decode cL_isWell 138 = .ok (.iadd, 1) := by decide +kernel
theorem dL_isWell_139 : decode cL_isWell 139 = .ok (.istore_n 3, 1) := by decide +kernel
theorem dL_isWell_140 : decode cL_isWell 140 = .ok (.iload 5, 2) := by decide +kernel
theorem dL_isWell_142 : decode cL_isWell 142 = .ok (.aload_n 0, 1) := by decide +kernel
theorem dL_isWell_143 : decode cL_isWell 143 = .ok (.iload 7, 2) := by decide +kernel
theorem dL_isWell_145 : decode cL_isWell 145 = .ok (.iconst 4, 1) := by decide +kernel
theorem dL_isWell_146 : decode cL_isWell 146 = .ok (.invokevirtual 90, 3) := by decide +kernel
theorem dL_isWell_149 : decode cL_isWell 149 = .ok (.iadd, 1) := by decide +kernel
theorem dL_isWell_150 : decode cL_isWell 150 = .ok (.istore 5, 2) := by decide +kernel
theorem dL_isWell_152 : decode cL_isWell 152 = .ok (.iinc 7 1, 3) := by decide +kernel
theorem dL_isWell_155 : decode cL_isWell 155 = .ok (.goto (-109), 3) := by decide +kernel
theorem dL_isWell_158 : decode cL_isWell 158 = .ok (.iconst 1, 1) := by decide +kernel
theorem dL_isWell_159 : decode cL_isWell 159 = .ok (.istore 7, 2) := by decide +kernel
theorem dL_isWell_161 : decode cL_isWell 161 = .ok (.iload 7, 2) := by decide +kernel
theorem dL_isWell_163 : decode cL_isWell 163 = .ok (.iload_n 1, 1) := by decide +kernel
theorem dL_isWell_164 : decode cL_isWell 164 = .ok (.if_icmp .ge 67, 3) := by decide +kernel
theorem dL_isWell_167 : decode cL_isWell 167 = .ok (.iload 6, 2) := by decide +kernel
theorem dL_isWell_169 : decode cL_isWell 169 = .ok (.ifCond .eq 62, 3) := by decide +kernel
theorem dL_isWell_172 : decode cL_isWell 172 = .ok (.aload_n 0, 1) := by decide +kernel
theorem dL_isWell_173 : decode cL_isWell 173 = .ok (.aload_n 2, 1) := by decide +kernel
theorem dL_isWell_174 : decode cL_isWell 174 = .ok (.iload 7, 2) := by decide +kernel
theorem dL_isWell_176 : decode cL_isWell 176 = .ok (.iaload, 1) := by decide +kernel
theorem dL_isWell_177 : decode cL_isWell 177 = .ok (.iconst 2, 1) := by decide +kernel
theorem dL_isWell_178 : decode cL_isWell 178 = .ok (.invokevirtual 90, 3) := by decide +kernel
theorem dL_isWell_181 : decode cL_isWell 181 = .ok (.aload_n 0, 1) := by decide +kernel
theorem dL_isWell_182 : decode cL_isWell 182 = .ok (.aload_n 2, 1) := by decide +kernel
theorem dL_isWell_183 : decode cL_isWell 183 = .ok (.iload 7, 2) := by decide +kernel
theorem dL_isWell_185 : decode cL_isWell 185 = .ok (.iconst 1, 1) := by decide +kernel
theorem dL_isWell_186 : decode cL_isWell 186 = .ok (.isub, 1) := by decide +kernel
theorem dL_isWell_187 : decode cL_isWell 187 = .ok (.iaload, 1) := by decide +kernel
theorem dL_isWell_188 : decode cL_isWell 188 = .ok (.iconst 2, 1) := by decide +kernel
theorem dL_isWell_189 : decode cL_isWell 189 = .ok (.invokevirtual 90, 3) := by decide +kernel
theorem dL_isWell_192 : decode cL_isWell 192 = .ok (.isub, 1) := by decide +kernel
theorem dL_isWell_193 : decode cL_isWell 193 = .ok (.istore 8, 2) := by decide +kernel
theorem dL_isWell_195 : decode cL_isWell 195 = .ok (.iload 8, 2) := by decide +kernel
theorem dL_isWell_197 : decode cL_isWell 197 = .ok (.ifCond .gt 21, 3) := by decide +kernel
theorem dL_isWell_200 : decode cL_isWell 200 = .ok (.iload 8, 2) := by decide +kernel
theorem dL_isWell_202 : decode cL_isWell 202 = .ok (.ifCond .ne 20, 3) := by decide +kernel
theorem dL_isWell_205 : decode cL_isWell 205 = .ok (.aload_n 2, 1) := by decide +kernel
theorem dL_isWell_206 : decode cL_isWell 206 = .ok (.iload 7, 2) := by decide +kernel
theorem dL_isWell_208 : decode cL_isWell 208 = .ok (.iaload, 1) := by decide +kernel
theorem dL_isWell_209 : decode cL_isWell 209 = .ok (.aload_n 2, 1) := by decide +kernel
theorem dL_isWell_210 : decode cL_isWell 210 = .ok (.iload 7, 2) := by decide +kernel
theorem dL_isWell_212 : decode cL_isWell 212 = .ok (.iconst 1, 1) := by decide +kernel
theorem dL_isWell_213 : decode cL_isWell 213 = .ok (.isub, 1) := by decide +kernel
theorem dL_isWell_214 : decode cL_isWell 214 = .ok (.iaload, 1) := by decide +kernel
theorem dL_isWell_215 : decode cL_isWell 215 = .ok (.if_icmp .le 7, 3) := by decide +kernel
theorem dL_isWell_218 : decode cL_isWell 218 = .ok (.iconst 1, 1) := by decide +kernel
theorem dL_isWell_219 : decode cL_isWell 219 = .ok (.goto 4, 3) := by decide +kernel
theorem dL_isWell_222 : decode cL_isWell 222 = .ok (.iconst 0, 1) := by decide +kernel
theorem dL_isWell_223 : decode cL_isWell 223 = .ok (.istore 6, 2) := by decide +kernel
theorem dL_isWell_225 : decode cL_isWell 225 = .ok (.iinc 7 1, 3) := by decide +kernel
theorem dL_isWell_228 : decode cL_isWell 228 = .ok (.goto (-67), 3) := by decide +kernel
theorem dL_isWell_231 : decode cL_isWell 231 = .ok (.iconst 0, 1) := by decide +kernel
theorem dL_isWell_232 : decode cL_isWell 232 = .ok (.istore 7, 2) := by decide +kernel
theorem dL_isWell_234 : decode cL_isWell 234 = .ok (.iload 7, 2) := by decide +kernel
theorem dL_isWell_236 : decode cL_isWell 236 = .ok (.aload_n 0, 1) := by decide +kernel
theorem dL_isWell_237 : decode cL_isWell 237 = .ok (.iconst 1, 1) := by decide +kernel
theorem dL_isWell_238 : decode cL_isWell 238 = .ok (.invokevirtual 47, 3) := by decide +kernel
theorem dL_isWell_241 : decode cL_isWell 241 = .ok (.if_icmp .ge 172, 3) := by decide +kernel
theorem dL_isWell_244 : decode cL_isWell 244 = .ok (.iload 6, 2) := by decide +kernel
theorem dL_isWell_246 : decode cL_isWell 246 = .ok (.ifCond .eq 167, 3) := by decide +kernel
theorem dL_isWell_249 : decode cL_isWell 249 = .ok (.aload_n 0, 1) := by decide +kernel
theorem dL_isWell_250 : decode cL_isWell 250 = .ok (.iload 7, 2) := by decide +kernel
theorem dL_isWell_252 : decode cL_isWell 252 = .ok (.iconst 4, 1) := by decide +kernel
theorem dL_isWell_253 : decode cL_isWell 253 = .ok (.invokevirtual 54, 3) := by decide +kernel
theorem dL_isWell_256 : decode cL_isWell 256 = .ok (.istore 8, 2) := by decide +kernel
theorem dL_isWell_258 : decode cL_isWell 258 = .ok (.iload 4, 2) := by decide +kernel
theorem dL_isWell_260 : decode cL_isWell 260 = .ok (.iload 8, 2) := by decide +kernel
theorem dL_isWell_262 : decode cL_isWell 262 = .ok (.iadd, 1) := by decide +kernel
theorem dL_isWell_263 : decode cL_isWell 263 = .ok (.istore 4, 2) := by decide +kernel
theorem dL_isWell_265 : decode cL_isWell 265 = .ok (.iload 5, 2) := by decide +kernel
theorem dL_isWell_267 : decode cL_isWell 267 = .ok (.iload 8, 2) := by decide +kernel
theorem dL_isWell_269 : decode cL_isWell 269 = .ok (.aload_n 0, 1) := by decide +kernel
theorem dL_isWell_270 : decode cL_isWell 270 = .ok (.iload 7, 2) := by decide +kernel
theorem dL_isWell_272 : decode cL_isWell 272 = .ok (.iconst 3, 1) := by decide +kernel
theorem dL_isWell_273 : decode cL_isWell 273 = .ok (.invokevirtual 54, 3) := by decide +kernel
theorem dL_isWell_276 : decode cL_isWell 276 = .ok (.imul, 1) := by decide +kernel
theorem dL_isWell_277 : decode cL_isWell 277 = .ok (.isub, 1) := by decide +kernel
theorem dL_isWell_278 : decode cL_isWell 278 = .ok (.istore 5, 2) := by decide +kernel
theorem dL_isWell_280 : decode cL_isWell 280 = .ok (.aload_n 0, 1) := by decide +kernel
theorem dL_isWell_281 : decode cL_isWell 281 = .ok (.iload 7, 2) := by decide +kernel
theorem dL_isWell_283 : decode cL_isWell 283 = .ok (.iconst 5, 1) := by decide +kernel
theorem dL_isWell_284 : decode cL_isWell 284 = .ok (.invokevirtual 54, 3) := by decide +kernel
theorem dL_isWell_287 : decode cL_isWell 287 = .ok (.iload 8, 2) := by decide +kernel
theorem dL_isWell_289 : decode cL_isWell 289 = .ok (.if_icmp .gt 115, 3) := by decide +kernel
theorem dL_isWell_292 : decode cL_isWell 292 = .ok (.aload_n 0, 1) := by decide +kernel
theorem dL_isWell_293 : decode cL_isWell 293 = .ok (.iload 7, 2) := by decide +kernel
theorem dL_isWell_295 : decode cL_isWell 295 = .ok (.bipush 6, 2) := by decide +kernel
theorem dL_isWell_297 : decode cL_isWell 297 = .ok (.invokevirtual 54, 3) := by decide +kernel
theorem dL_isWell_300 : decode cL_isWell 300 = .ok (.ifCond .lt 104, 3) := by decide +kernel
theorem dL_isWell_303 : decode cL_isWell 303 = .ok (.aload_n 0, 1) := by decide +kernel
theorem dL_isWell_304 : decode cL_isWell 304 = .ok (.iload 7, 2) := by decide +kernel
theorem dL_isWell_306 : decode cL_isWell 306 = .ok (.iconst 2, 1) := by decide +kernel
theorem dL_isWell_307 : decode cL_isWell 307 = .ok (.invokevirtual 54, 3) := by decide +kernel
theorem dL_isWell_310 : decode cL_isWell 310 = .ok (.bipush 7, 2) := by decide +kernel
theorem dL_isWell_312 : decode cL_isWell 312 = .ok (.if_icmp .gt 92, 3) := by decide +kernel
theorem dL_isWell_315 : decode cL_isWell 315 = .ok (.aload_n 0, 1) := by decide +kernel
theorem dL_isWell_316 : decode cL_isWell 316 = .ok (.iload 7, 2) := by decide +kernel
theorem dL_isWell_318 : decode cL_isWell 318 = .ok (.iconst 3, 1) := by decide +kernel
theorem dL_isWell_319 : decode cL_isWell 319 = .ok (.invokevirtual 54, 3) := by decide +kernel
theorem dL_isWell_322 : decode cL_isWell 322 = .ok (.iconst 2, 1) := by decide +kernel
theorem dL_isWell_323 : decode cL_isWell 323 = .ok (.if_icmp .lt 81, 3) := by decide +kernel
theorem dL_isWell_326 : decode cL_isWell 326 = .ok (.aload_n 0, 1) := by decide +kernel
theorem dL_isWell_327 : decode cL_isWell 327 = .ok (.iload 7, 2) := by decide +kernel
theorem dL_isWell_329 : decode cL_isWell 329 = .ok (.iconst 3, 1) := by decide +kernel
theorem dL_isWell_330 : decode cL_isWell 330 = .ok (.invokevirtual 54, 3) := by decide +kernel
theorem dL_isWell_333 : decode cL_isWell 333 = .ok (.iconst 4, 1) := by decide +kernel
theorem dL_isWell_334 : decode cL_isWell 334 = .ok (.if_icmp .gt 70, 3) := by decide +kernel
theorem dL_isWell_337 : decode cL_isWell 337 = .ok (.aload_n 0, 1) := by decide +kernel
theorem dL_isWell_338 : decode cL_isWell 338 = .ok (.iload 7, 2) := by decide +kernel
theorem dL_isWell_340 : decode cL_isWell 340 = .ok (.iconst 0, 1) := by decide +kernel
theorem dL_isWell_341 : decode cL_isWell 341 = .ok (.iconst 1, 1) := by decide +kernel
theorem dL_isWell_342 : decode cL_isWell 342 = .ok (.invokevirtual 83, 3) := by decide +kernel
theorem dL_isWell_345 : decode cL_isWell 345 = .ok (.ifCond .ne 59, 3) := by decide +kernel
theorem dL_isWell_348 : decode cL_isWell 348 = .ok (.aload_n 0, 1) := by decide +kernel
theorem dL_isWell_349 : decode cL_isWell 349 = .ok (.iload 7, 2) := by decide +kernel
theorem dL_isWell_351 : decode cL_isWell 351 = .ok (.aload_n 0, 1) := by decide +kernel
theorem dL_isWell_352 : decode cL_isWell 352 = .ok (.iload 7, 2) := by decide +kernel
theorem dL_isWell_354 : decode cL_isWell 354 = .ok (.iconst 2, 1) := by decide +kernel
theorem dL_isWell_355 : decode cL_isWell 355 = .ok (.invokevirtual 54, 3) := by decide +kernel
theorem dL_isWell_358 : decode cL_isWell 358 = .ok (.iconst 1, 1) := by decide +kernel
theorem dL_isWell_359 : decode cL_isWell 359 = .ok (.isub, 1) := by decide +kernel
theorem dL_isWell_360 : decode cL_isWell 360 = .ok (.iconst 1, 1) := by decide +kernel
theorem dL_isWell_361 : decode cL_isWell 361 = .ok (.invokevirtual 83, 3) := by decide +kernel
theorem dL_isWell_364 : decode cL_isWell 364 = .ok (.ifCond .ne 40, 3) := by decide +kernel
theorem dL_isWell_367 : decode cL_isWell 367 = .ok (.aload_n 0, 1) := by decide +kernel
theorem dL_isWell_368 : decode cL_isWell 368 = .ok (.iload 7, 2) := by decide +kernel
theorem dL_isWell_370 : decode cL_isWell 370 = .ok (.iload 8, 2) := by decide +kernel
theorem dL_isWell_372 : decode cL_isWell 372 = .ok (.iconst 0, 1) := by decide +kernel
theorem dL_isWell_373 : decode cL_isWell 373 = .ok (.invokevirtual 87, 3) := by decide +kernel
theorem dL_isWell_376 : decode cL_isWell 376 = .ok (.bipush (-5), 2) := by decide +kernel
theorem dL_isWell_378 : decode cL_isWell 378 = .ok (.if_icmp .ne 26, 3) := by decide +kernel
theorem dL_isWell_381 : decode cL_isWell 381 = .ok (.iload 8, 2) := by decide +kernel
theorem dL_isWell_383 : decode cL_isWell 383 = .ok (.ifCond .eq 17, 3) := by decide +kernel
theorem dL_isWell_386 : decode cL_isWell 386 = .ok (.aload_n 0, 1) := by decide +kernel
theorem dL_isWell_387 : decode cL_isWell 387 = .ok (.iload 7, 2) := by decide +kernel
theorem dL_isWell_389 : decode cL_isWell 389 = .ok (.iload 8, 2) := by decide +kernel
theorem dL_isWell_391 : decode cL_isWell 391 = .ok (.iconst 1, 1) := by decide +kernel
theorem dL_isWell_392 : decode cL_isWell 392 = .ok (.isub, 1) := by decide +kernel
theorem dL_isWell_393 : decode cL_isWell 393 = .ok (.iconst 0, 1) := by decide +kernel
theorem dL_isWell_394 : decode cL_isWell 394 = .ok (.invokevirtual 87, 3) := by decide +kernel
theorem dL_isWell_397 : decode cL_isWell 397 = .ok (.ifCond .lt 7, 3) := by decide +kernel
theorem dL_isWell_400 : decode cL_isWell 400 = .ok (.iconst 1, 1) := by decide +kernel
theorem dL_isWell_401 : decode cL_isWell 401 = .ok (.goto 4, 3) := by decide +kernel
theorem dL_isWell_404 : decode cL_isWell 404 = .ok (.iconst 0, 1) := by decide +kernel
theorem dL_isWell_405 : decode cL_isWell 405 = .ok (.istore 6, 2) := by decide +kernel
theorem dL_isWell_407 : decode cL_isWell 407 = .ok (.iinc 7 1, 3) := by decide +kernel
theorem dL_isWell_410 : decode cL_isWell 410 = .ok (.goto (-176), 3) := by decide +kernel
theorem dL_isWell_413 : decode cL_isWell 413 = .ok (.iload 6, 2) := by decide +kernel
theorem dL_isWell_415 : decode cL_isWell 415 = .ok (.ifCond .eq 64, 3) := by decide +kernel
theorem dL_isWell_418 : decode cL_isWell 418 = .ok (.iload 5, 2) := by decide +kernel
theorem dL_isWell_420 : decode cL_isWell 420 = .ok (.ifCond .ne 59, 3) := by decide +kernel
theorem dL_isWell_423 : decode cL_isWell 423 = .ok (.iload 4, 2) := by decide +kernel
theorem dL_isWell_425 : decode cL_isWell 425 = .ok (.aload_n 0, 1) := by decide +kernel
theorem dL_isWell_426 : decode cL_isWell 426 = .ok (.iconst 2, 1) := by decide +kernel
theorem dL_isWell_427 : decode cL_isWell 427 = .ok (.invokevirtual 47, 3) := by decide +kernel
theorem dL_isWell_430 : decode cL_isWell 430 = .ok (.if_icmp .ne 49, 3) := by decide +kernel
theorem dL_isWell_433 : decode cL_isWell 433 = .ok (.iload_n 3, 1) := by decide +kernel
theorem dL_isWell_434 : decode cL_isWell 434 = .ok (.aload_n 0, 1) := by decide +kernel
theorem dL_isWell_435 : decode cL_isWell 435 = .ok (.bipush 6, 2) := by decide +kernel
theorem dL_isWell_437 : decode cL_isWell 437 = .ok (.invokevirtual 47, 3) := by decide +kernel
theorem dL_isWell_440 : decode cL_isWell 440 = .ok (.if_icmp .ne 39, 3) := by decide +kernel
theorem dL_isWell_443 : decode cL_isWell 443 = .ok (.aload_n 0, 1) := by decide +kernel
theorem dL_isWell_444 : decode cL_isWell 444 = .ok (.iconst 4, 1) := by decide +kernel
theorem dL_isWell_445 : decode cL_isWell 445 = .ok (.invokevirtual 47, 3) := by decide +kernel
theorem dL_isWell_448 : decode cL_isWell 448 = .ok (.aload_n 0, 1) := by decide +kernel
theorem dL_isWell_449 : decode cL_isWell 449 = .ok (.iconst 3, 1) := by decide +kernel
theorem dL_isWell_450 : decode cL_isWell 450 = .ok (.invokevirtual 47, 3) := by decide +kernel
theorem dL_isWell_453 : decode cL_isWell 453 = .ok (.if_icmp .gt 26, 3) := by decide +kernel
theorem dL_isWell_456 : decode cL_isWell 456 = .ok (.aload_n 0, 1) := by decide +kernel
theorem dL_isWell_457 : decode cL_isWell 457 = .ok (.iconst 4, 1) := by decide +kernel
theorem dL_isWell_458 : decode cL_isWell 458 = .ok (.invokevirtual 47, 3) := by decide +kernel
theorem dL_isWell_461 : decode cL_isWell 461 = .ok (.aload_n 0, 1) := by decide +kernel
theorem dL_isWell_462 : decode cL_isWell 462 = .ok (.iconst 3, 1) := by decide +kernel
theorem dL_isWell_463 : decode cL_isWell 463 = .ok (.invokevirtual 47, 3) := by decide +kernel
theorem dL_isWell_466 : decode cL_isWell 466 = .ok (.aload_n 0, 1) := by decide +kernel
theorem dL_isWell_467 : decode cL_isWell 467 = .ok (.iconst 5, 1) := by decide +kernel
theorem dL_isWell_468 : decode cL_isWell 468 = .ok (.invokevirtual 47, 3) := by decide +kernel
theorem dL_isWell_471 : decode cL_isWell 471 = .ok (.isub, 1) := by decide +kernel
theorem dL_isWell_472 : decode cL_isWell 472 = .ok (.if_icmp .lt 7, 3) := by decide +kernel
theorem dL_isWell_475 : decode cL_isWell 475 = .ok (.iconst 1, 1) := by decide +kernel
theorem dL_isWell_476 : decode cL_isWell 476 = .ok (.goto 4, 3) := by decide +kernel
theorem dL_isWell_479 : decode cL_isWell 479 = .ok (.iconst 0, 1) := by decide +kernel
theorem dL_isWell_480 : decode cL_isWell 480 = .ok (.ireturn, 1) := by decide +kernel
theorem dL_law_0 : decode cL_law 0 = .ok (.new 12, 3) := by decide +kernel
theorem dL_law_3 : decode cL_law 3 = .ok (.dup, 1) := by decide +kernel
theorem dL_law_4 : decode cL_law 4 = .ok (.invokespecial 93, 3) := by decide +kernel
theorem dL_law_7 : decode cL_law 7 = .ok (.astore_n 1, 1) := by decide +kernel
theorem dL_law_8 : decode cL_law 8 = .ok (.new 12, 3) := by decide +kernel
theorem dL_law_11 : decode cL_law 11 = .ok (.dup, 1) := by decide +kernel
theorem dL_law_12 : decode cL_law 12 = .ok (.invokespecial 93, 3) := by decide +kernel
theorem dL_law_15 : decode cL_law 15 = .ok (.astore_n 2, 1) := by decide +kernel
theorem dL_law_16 : decode cL_law 16 = .ok (.iconst 1, 1) := by decide +kernel
theorem dL_law_17 : decode cL_law 17 = .ok (.istore_n 3, 1) := by decide +kernel
theorem dL_law_18 : decode cL_law 18 = .ok (.iconst 0, 1) := by decide +kernel
theorem dL_law_19 : decode cL_law 19 = .ok (.istore 4, 2) := by decide +kernel
theorem dL_law_21 : decode cL_law 21 = .ok (.iload 4, 2) := by decide +kernel
theorem dL_law_23 : decode cL_law 23 = .ok (.bipush 48, 2) := by decide +kernel
theorem dL_law_25 : decode cL_law 25 = .ok (.if_icmp .ge 58, 3) := by decide +kernel
theorem dL_law_28 : decode cL_law 28 = .ok (.iload_n 3, 1) := by decide +kernel
theorem dL_law_29 : decode cL_law 29 = .ok (.ifCond .eq 54, 3) := by decide +kernel
theorem dL_law_32 : decode cL_law 32 = .ok (.aload_n 1, 1) := by decide +kernel
theorem dL_law_33 : decode cL_law 33 = .ok (.aload_n 2, 1) := by decide +kernel
theorem dL_law_34 : decode cL_law 34 = .ok (.aload_n 0, 1) := by decide +kernel
theorem dL_law_35 : decode cL_law 35 = .ok (.iload 4, 2) := by decide +kernel
theorem dL_law_37 : decode cL_law 37 = .ok (.invokestatic 94, 3) := by decide +kernel
theorem dL_law_40 : decode cL_law 40 = .ok (.aload_n 0, 1) := by decide +kernel
theorem dL_law_41 : decode cL_law 41 = .ok (.iload 4, 2) := by decide +kernel
theorem dL_law_43 : decode cL_law 43 = .ok (.iconst 1, 1) := by decide +kernel
theorem dL_law_44 : decode cL_law 44 = .ok (.iadd, 1) := by decide +kernel
theorem dL_law_45 : decode cL_law 45 = .ok (.invokestatic 94, 3) := by decide +kernel
theorem dL_law_48 : decode cL_law 48 = .ok (.iconst 2, 1) := by decide +kernel
theorem dL_law_49 : decode cL_law 49 = .ok (.ishr, 1) := by decide +kernel
theorem dL_law_50 : decode cL_law 50 = .ok (.invokestatic 98, 3) := by decide +kernel
theorem dL_law_53 : decode cL_law 53 = .ok (.ifCond .eq 22, 3) := by decide +kernel
theorem dL_law_56 : decode cL_law 56 = .ok (.iload 4, 2) := by decide +kernel
theorem dL_law_58 : decode cL_law 58 = .ok (.bipush 8, 2) := by decide +kernel
theorem dL_law_60 : decode cL_law 60 = .ok (.irem, 1) := by decide +kernel
theorem dL_law_61 : decode cL_law 61 = .ok (.ifCond .gt 10, 3) := by decide +kernel
theorem dL_law_64 : decode cL_law 64 = .ok (.aload_n 1, 1) := by decide +kernel
theorem dL_law_65 : decode cL_law 65 = .ok (.invokestatic 101, 3) := by decide +kernel
theorem dL_law_68 : decode cL_law 68 = .ok (.ifCond .eq 7, 3) := by decide +kernel
theorem dL_law_71 : decode cL_law 71 = .ok (.iconst 1, 1) := by decide +kernel
theorem dL_law_72 : decode cL_law 72 = .ok (.goto 4, 3) := by decide +kernel
theorem dL_law_75 : decode cL_law 75 = .ok (.iconst 0, 1) := by decide +kernel
theorem dL_law_76 : decode cL_law 76 = .ok (.istore_n 3, 1) := by decide +kernel
theorem dL_law_77 : decode cL_law 77 = .ok (.iinc 4 1, 3) := by decide +kernel
theorem dL_law_80 : decode cL_law 80 = .ok (.goto (-59), 3) := by decide +kernel
theorem dL_law_83 : decode cL_law 83 = .ok (.iload_n 3, 1) := by decide +kernel
theorem dL_law_84 : decode cL_law 84 = .ok (.ifCond .eq 22, 3) := by decide +kernel
theorem dL_law_87 : decode cL_law 87 = .ok (.aload_n 1, 1) := by decide +kernel
theorem dL_law_88 : decode cL_law 88 = .ok (.invokestatic 101, 3) := by decide +kernel
theorem dL_law_91 : decode cL_law 91 = .ok (.ifCond .eq 15, 3) := by decide +kernel
theorem dL_law_94 : decode cL_law 94 = .ok (.aload_n 1, 1) := by decide +kernel
theorem dL_law_95 : decode cL_law 95 = .ok (.aload_n 2, 1) := by decide +kernel
theorem dL_law_96 : decode cL_law 96 = .ok (.invokestatic 105, 3) := by decide +kernel
theorem dL_law_99 : decode cL_law 99 = .ok (.ifCond .eq 7, 3) := by decide +kernel
theorem dL_law_102 : decode cL_law 102 = .ok (.iconst 1, 1) := by decide +kernel
theorem dL_law_103 : decode cL_law 103 = .ok (.goto 4, 3) := by decide +kernel
theorem dL_law_106 : decode cL_law 106 = .ok (.iconst 0, 1) := by decide +kernel
theorem dL_law_107 : decode cL_law 107 = .ok (.ireturn, 1) := by decide +kernel
end
section
/-! THE MEMORY OF A SIDE: a number for each place of each cell (its role, its place). A side's cells are made once and never exchanged, so a world is a row of addresses, a shape for each role, and this memory. -/
abbrev xm_M : Type := Nat → Nat → Int32
def xm_row (M : xm_M) (r : Nat) (f : Nat → Int32) : xm_M := fun k => if k = r then f else M k
def xm_up (M : xm_M) (r j : Nat) (v : Int32) : xm_M := xm_row M r (upd (M r) j v)
/-- what a method's picture does: an answer, or nothing where the machine would throw or the fuel is gone -/
def xm_ck {α : Type} (b : Bool) (x : Option α) : Option α := match b with
  | true => x
  | false => none
theorem xm_ck_s {α : Type} {b : Bool} {x : Option α} {y : α} (h : xm_ck b x = some y) : b = true ∧ x = some y := by
  cases b
  · cases h
  · exact ⟨rfl, h⟩
def xm_lt {α β : Type} (x : α) (f : α → Option β) : Option β := f x
theorem xm_lt_s {α β : Type} {x : α} {f : α → Option β} {y : β} (h : xm_lt x f = some y) : ∃ z, z = x ∧ f z = some y := ⟨x, rfl, h⟩
def xm_b2 {β : Type} (x : Option (Int32 × xm_M)) (f : Int32 → xm_M → Option β) : Option β := match x with
  | some (r, M) => f r M
  | none => none
theorem xm_b2_s {β : Type} {x : Option (Int32 × xm_M)} {f : Int32 → xm_M → Option β} {y : β} (h : xm_b2 x f = some y) : ∃ r M, x = some (r, M) ∧ f r M = some y := by
  cases x with
  | none => cases h
  | some q =>
    obtain ⟨r, M⟩ := q
    exact ⟨r, M, rfl, h⟩
def xm_b1 {β : Type} (x : Option xm_M) (f : xm_M → Option β) : Option β := match x with
  | some M => f M
  | none => none
theorem xm_b1_s {β : Type} {x : Option xm_M} {f : xm_M → Option β} {y : β} (h : xm_b1 x f = some y) : ∃ M, x = some M ∧ f M = some y := by
  cases x with
  | none => cases h
  | some q => exact ⟨q, rfl, h⟩
theorem xm_pr {a c : Int32} {b d : xm_M} (h : some (a, b) = some (c, d)) : a = c ∧ b = d := by
  cases h
  exact ⟨rfl, rfl⟩
theorem xm_on {b d : xm_M} (h : some b = some d) : b = d := Option.some.inj h
def xm_in (i : Int32) (n : Nat) : Bool := decide (¬ (i < 0 ∨ n ≤ i.toNatClampNeg))
theorem xm_in_s {i : Int32} {n : Nat} (h : xm_in i n = true) : vp_in i n := of_decide_eq_true (p := ¬ (i < 0 ∨ n ≤ i.toNatClampNeg)) h
theorem xm_in_lt {i : Int32} {n : Nat} (h : xm_in i n = true) : i.toNatClampNeg < n := Nat.not_le.mp fun q => xm_in_s h (Or.inr q)
/-- a value that a method of type boolean or char may answer -/
def xm_z (r : Int32) : Bool := decide (vp_nar .boolean r = r)
def xm_c (r : Int32) : Bool := decide (vp_nar .char r = r)
theorem xm_nar_b (r : Int32) : narrow .boolean (.int r) = .int (vp_nar .boolean r) := by simp [vp_nar, narrow]
theorem xm_nar_c (r : Int32) : narrow .char (.int r) = .int (vp_nar .char r) := by simp [vp_nar, narrow]
theorem xm_z_s {r : Int32} (h : xm_z r = true) : narrow .boolean (.int r) = .int r := by rw [xm_nar_b, of_decide_eq_true h]
theorem xm_c_s {r : Int32} (h : xm_c r = true) : narrow .char (.int r) = .int r := by rw [xm_nar_c, of_decide_eq_true h]
/-! a side: its addresses, the shape of each role, how many roles -/
abbrev xm_V : Type := (Nat → Nat) × (Nat → (Nat → Int32) → va_E) × Nat
def xm_w (V : xm_V) (M : xm_M) : va_W := (List.range V.2.2).map (fun k => (V.1 k, V.2.1 k (M k)))
theorem xm_at {V : xm_V} {M : xm_M} {k : Nat} {e : va_E} (hk : k < V.2.2) (hc : V.2.1 k (M k) = e) : (xm_w V M)[k]? = some (V.1 k, e) := by
  rw [← hc]
  simp [xm_w, List.getElem?_map, List.getElem?_range hk]
theorem xm_get? {V : xm_V} {M : xm_M} {k : Nat} {q : Nat × va_E} (h : (xm_w V M)[k]? = some q) : k < V.2.2 ∧ q = (V.1 k, V.2.1 k (M k)) := by
  have hk : k < V.2.2 := by
    have := (List.getElem?_eq_some_iff.mp h).1
    simpa [xm_w] using this
  refine ⟨hk, ?_⟩
  rw [xm_at hk rfl] at h
  exact (Option.some.inj h).symm
theorem xm_set {V : xm_V} {M : xm_M} {k : Nat} {f : Nat → Int32} {e : va_E} (hk : k < V.2.2) (hc : V.2.1 k f = e) : (xm_w V M).set k (V.1 k, e) = xm_w V (xm_row M k f) := by
  subst hc
  have hl : k < (xm_w V M).length := by simpa [xm_w] using hk
  apply List.ext_getElem?
  intro j
  by_cases hj : j = k
  · subst hj
    rw [List.getElem?_set_self hl, xm_at hk rfl]
    simp [xm_row]
  · rw [List.getElem?_set_ne (Ne.symm hj)]
    by_cases h2 : j < V.2.2
    · rw [xm_at h2 rfl, xm_at h2 rfl]
      simp [xm_row, hj]
    · rw [List.getElem?_eq_none (by simpa [xm_w] using h2), List.getElem?_eq_none (by simpa [xm_w] using h2)]
def xm_D (V : xm_V) : Prop := ∀ i j, i < V.2.2 → j < V.2.2 → V.1 i = V.1 j → i = j
def xm_A (V : xm_V) (sz : Nat) : Nat → Prop := fun q => (∃ k, k < V.2.2 ∧ q = V.1 k) ∨ sz ≤ q
theorem xm_vaD {V : xm_V} (h : xm_D V) (M : xm_M) (sz : Nat) : va_D (xm_A V sz) (xm_w V M) := by
  refine ⟨fun i j p q hi hj hpq => ?_, fun k q hk => ?_⟩
  · obtain ⟨h1, rfl⟩ := xm_get? hi
    obtain ⟨h2, rfl⟩ := xm_get? hj
    exact h i j h1 h2 hpq
  · obtain ⟨h1, rfl⟩ := xm_get? hk
    exact Or.inl ⟨k, h1, rfl⟩
theorem xm_A_le {V : xm_V} {s1 s2 : Nat} (h : s1 ≤ s2) : ∀ q, xm_A V s2 q → xm_A V s1 q := fun q hq => hq.elim Or.inl (fun z => Or.inr (Nat.le_trans h z))
/-! what holds of the tables: the good words, the nest's links, the classes, the literals -/
def xm_tb : List Cond := lw_tbl.filter goodWord
theorem xm_tb_of {w : Cond} (h : w ∈ tables_1) (hg : goodWord w = true) : w ∈ xm_tb := List.mem_filter.mpr ⟨List.mem_append_right _ h, hg⟩
theorem xm_tb_sel {w : Cond} (h : w ∈ k2_sels lw_privs) (hg : goodWord w = true) : w ∈ xm_tb := List.mem_filter.mpr ⟨List.mem_append_left _ h, hg⟩
theorem xm_good {y : MethodName} {b : ByteArray} {n : Nat} {r : Option FieldType} {big : List Cond} (h : Cond.code y b n r ∈ xm_tb) (hb : ∀ w ∈ xm_tb, w ∈ big) : GoodIn big (Cond.code y b n r :: xm_tb) := by
  intro w hw
  rcases List.mem_cons.mp hw with rfl | hw
  · exact ⟨hb _ h, good_of_word rfl⟩
  · exact ⟨hb _ hw, good_of_word (List.mem_filter.mp hw).2⟩
def xm_isN : Cond → Bool
  | .fieldLinkNest .. => true
  | .methodLinkNest .. => true
  | _ => false
def xm_nest : List Cond := tables_1.filter xm_isN
theorem xm_nest_of {w : Cond} (h : w ∈ tables_1) (hg : xm_isN w = true) : w ∈ xm_nest := List.mem_filter.mpr ⟨h, hg⟩
theorem xm_nest_warm {w : Cond} (h : w ∈ xm_nest) {s U : State} (hW : s.WarmedH U.vm) (hZ : va_Nw w s) : va_Nw w U := by
  have h2 := (List.mem_filter.mp h).2
  cases w <;> first | (exact va_Nw.warmF hW hZ) | (exact va_Nw.warmM hW hZ) | (exact absurd h2 (by decide)) | (simp [xm_isN] at h2)
theorem xm_nest_same {w : Cond} (h : w ∈ xm_nest) {u U : State} (hv : u.vm = U.vm) (hZ : va_Nw w u) : va_Nw w U := by
  have h2 := (List.mem_filter.mp h).2
  cases w <;> first | (exact va_Nw.same rfl hv hZ) | (exact absurd h2 (by decide)) | (simp [xm_isN] at h2)
abbrev xm_E : Type := va_G × (Nat → ClassId) × (Nat → Nat) × (Nat → Nat)
abbrev xm_ty (E : xm_E) : List (ClassId × FieldType) := [(E.2.1 0, .int), (E.2.1 1, .char), (E.2.1 2, .boolean), (E.2.1 3, .object RX4), (E.2.1 4, .object RX2)]
def xm_lits : List (Nat × String) := [(27, "within "), (37, " "), (68, "rising "), (70, "alike "), (84, "no "), (82, ", ")]
def xm_len : List Nat := [7, 1, 7, 6, 3, 2]
def xm_byt : List (List Int32) := [[119, 105, 116, 104, 105, 110, 32], [32], [114, 105, 115, 105, 110, 103, 32], [97, 108, 105, 107, 101, 32], [110, 111, 32], [44, 32]]
def xm_K (E : xm_E) (U : State) : Prop := va_K E.1 vwCl (xm_ty E) U ∧ (∀ w ∈ xm_nest, va_Nw w U) ∧ (∀ i, i < 6 → vk_R RX5 (xm_lits.getD i (0, "")).1 (xm_lits.getD i (0, "")).2 (E.2.2.1 i) U) ∧ va_AO RX4 U ∧ va_AO RX2 U
def xm_S (E : xm_E) (A : Nat → Prop) (U : State) (H : Heap) : Prop := vk_S 6 xm_len xm_byt E.2.2.1 E.2.2.2 A U H ∧ va_Z "java/lang/String" "COMPACT_STRINGS" "Z" (.int 1) A U H ∧ va_Zq "jdk/internal/util/Preconditions" "SIOOBE_FORMATTER" "Ljava/util/function/BiFunction;" A U H
theorem xm_K.warm {E : xm_E} {s U : State} (hW : s.WarmedH U.vm) (h : xm_K E s) : xm_K E U := ⟨va_K.moved hW.alike h.1, fun w hw => xm_nest_warm hw hW (h.2.1 w hw), fun i hi => (h.2.2.1 i hi).warm hW, h.2.2.2.1.moved hW.alike, h.2.2.2.2.moved hW.alike⟩
theorem xm_K.same {E : xm_E} {s U : State} (hv : s.vm = U.vm) (h : xm_K E s) : xm_K E U := ⟨va_K.moved (by rw [hv]; exact Vm.Alike.refl U.vm) h.1, fun w hw => xm_nest_same hw hv (h.2.1 w hw), fun i hi => (h.2.2.1 i hi).same hv.symm, h.2.2.2.1.moved (by rw [hv]; exact Vm.Alike.refl U.vm), h.2.2.2.2.moved (by rw [hv]; exact Vm.Alike.refl U.vm)⟩
theorem xm_S.moved {E : xm_E} {A : Nat → Prop} {u U : State} {H : Heap} (hvm : u.vm.Alike U.vm) (h : xm_S E A u H) : xm_S E A U H := by
  refine ⟨h.1.moved hvm, va_Z.moved hvm h.2.1, ?_⟩
  rcases h.2.2 with z | ⟨t, z⟩
  · exact Or.inl (va_Z.moved hvm z)
  · exact Or.inr ⟨t, va_Z.moved hvm z⟩
theorem xm_S.kept {E : xm_E} {A : Nat → Prop} {U : State} {H H1 : Heap} (h : xm_S E A U H) (hq : ∀ a : Nat, a < H.size → ¬ A a → H1[a]? = H[a]?) : xm_S E A U H1 := by
  refine ⟨h.1.kept hq, h.2.1.kept hq, ?_⟩
  rcases h.2.2 with z | ⟨t, z⟩
  · exact Or.inl (z.kept hq)
  · exact Or.inr ⟨t, z.kept hq⟩
theorem xm_S.narrow {E : xm_E} {A B : Nat → Prop} {U : State} {H : Heap} (h : xm_S E A U H) (hAB : ∀ q, B q → A q) : xm_S E B U H := by
  refine ⟨h.1.narrow hAB, h.2.1.narrow hAB, ?_⟩
  rcases h.2.2 with z | ⟨t, z⟩
  · exact Or.inl (z.narrow hAB)
  · exact Or.inr ⟨t, z.narrow hAB⟩
/-! a method's start and end -/
def xm_Pre (E : xm_E) (V : xm_V) (M : xm_M) (sz : Nat) (U : State) : Prop := U.heap.size = sz ∧ va_P E.1 vwCl (xm_w V M) U.heap ∧ xm_K E U ∧ xm_S E (xm_A V sz) U U.heap
def xm_Q (E : xm_E) (V : xm_V) (M' : xm_M) (sz : Nat) (r : Option Int32) : Array Value → State → Outcome → State → Prop := fun _ st oc t => (oc = .returned (r.map Value.int) ∧ va_P E.1 vwCl (xm_w V M') t.heap) ∧ va_F (xm_A V sz) st t
def xm_Met (l : Launch) (E : xm_E) (V : xm_V) (y : MethodName) (cc : ByteArray) (maxL : Nat) (ret : Option FieldType) (fr lo : Nat) (as : List Value) (M M' : xm_M) (r : Option Int32) : Prop :=
  ∀ sz, Met l y (Cond.code y cc maxL ret :: xm_tb) { frames := fr, cells := 0, slots := 0, locals := lo } (va_Pc as (xm_Pre E V M sz)) (xm_Q E V M' sz r) 0 0 (xm_A V sz)
theorem xm_blind {E : xm_E} {V : xm_V} {M : xm_M} {sz : Nat} {as : List Value} : FrameBlind (va_Pc as (xm_Pre E V M sz)) := fun _ U g mk q =>
  ⟨q.1, q.2.1, q.2.2.1, xm_K.same (s := U) rfl q.2.2.2.1, xm_S.moved (u := U) (Vm.Alike.refl U.vm) q.2.2.2.2⟩
/-- what is fixed in a method's body -/
def xm_C (E : xm_E) (V : xm_V) (p : Program) (s : State) (m : MethodId) (args : Array Value) (meth : Method) (c : Code) (own : String) (cc : ByteArray) (nL : Nat) (ret : Option FieldType) : Prop :=
  p.tables.exec = Jvm.exec ∧ c.code = cc ∧ c.maxLocals = nL ∧ s.vm.findClass own = some m.cls ∧ (∀ w ∈ xm_tb, w.before args s = true) ∧ meth.sig.returnType = ret ∧ meth.locks = false ∧ xm_D V ∧ xm_K E s ∧ xm_S E (xm_A V s.heap.size) s s.heap
theorem xm_met {l : Launch} {E : xm_E} {V : xm_V} {M M' : xm_M} {y : MethodName} {cc : ByteArray} {maxL : Nat} {ret : Option FieldType} {fr lo : Nat} {own : String} {as : List Value} {r : Option Int32} (hy : plainName y.cls = true) (hyc : y.cls = own) (hlen : (lg_sl as).length ≤ maxL) (hD : xm_D V)
    (body : ∀ (p : Program) (e : Env) (s : State) (m : MethodId) (below : List Frame) (meth : Method) (c : Code), xm_C E V p s m as.toArray meth c own cc maxL ret → va_P E.1 vwCl (xm_w V M) s.heap → ∀ ls : Array Slot, lv_has ls maxL (lv_args 0 as) →
      W p l e { frames := fr, cells := 0, slots := 0, locals := lo } s m as.toArray below meth c s.heap [] 0 0 (MQ below (xm_Q E V M' s.heap.size r) as.toArray s 0 0 (xm_A V s.heap.size)) (F0 m 0 ls [])) : xm_Met l E V y cc maxL ret fr lo as M M' r := by
  intro sz
  refine Met.ofW (cc := cc) (maxL := maxL) (ret := ret) hy rfl ?_
  intro p e s m args below meth c s₁ B hml hv
  obtain ⟨rfl, hsz, hP, hK, hS⟩ := hv
  subst hsz
  have hts := atoms_spec (ws := Cond.code y cc maxL ret :: xm_tb) B.pre
  have hown : s.vm.findClass own = some m.cls := hyc ▸ findClass_of_methodNamed B.named
  have hl := lv_entry as (n := maxL) hlen
  rw [lg_entry_eq]
  exact body p e s m below meth c ⟨B.exec, B.bytes, hml, hown, fun w hw => hts w (List.mem_cons_of_mem _ hw), B.returns, B.notSynchronized, hD, hK, hS⟩ hP _ hl
section XROWS
variable {p : Program} {l : Launch} {e : Env} {R : Room} {s : State} {m : MethodId} {args : Array Value} {below : List Frame} {meth : Method} {c : Code} {H : Heap} {locs : List Loc} {cells slots : Nat} {Q : State → Prop}
variable {cc : ByteArray} {pc : Nat} {ls : Array Slot} {rest : List Value} {E : xm_E} {V : xm_V} {M : xm_M} {own : String} {nL : Nat} {ret : Option FieldType}
theorem xm_get (C : xm_C E V p s m args meth c own cc nL ret) (hP : va_P E.1 vwCl (xm_w V M) H) {ref K name desc : String} {T : u_T} {N ci index : Nat} (rho k : Nat) {fs : List Value} {v : Value} (hin : ∀ w ∈ u_ws K T N, w ∈ xm_tb) (hc : vwCl[ci]? = some (K, T, N)) (hlink : Cond.fieldLink own index ref name desc ∈ xm_tb) (hT : ((T k).1, (T k).2.1, (T k).2.2.1) = (ref, name, desc)) (hr : rho < V.2.2) (he : V.2.1 rho (M rho) = .inr (ci, fs)) (hk : k < N) (hv : fs[k]? = some v) (hdg : decode cc pc = .ok (.getfield index, 3))
    (kk : W p l e R s m args below meth c H locs cells slots Q (F0 m (pc + 3) ls (v :: rest))) : W p l e R s m args below meth c H locs cells slots Q (F0 m pc ls (.ref (V.1 rho) :: rest)) := by
  obtain ⟨hx, hb, hml, hown, hts, -, -, hD, hK, -⟩ := C
  cases hT
  exact va_get hx hb hts hin hown hK.1 hP rho (xm_at hr he) hc k hk (hts _ hlink) (fun _ h => h) hv hdg kk
theorem xm_getN (C : xm_C E V p s m args meth c own cc nL ret) (hP : va_P E.1 vwCl (xm_w V M) H) {ref K name desc host : String} {T : u_T} {N ci index : Nat} (rho k : Nat) {fs : List Value} {v : Value} (hin : ∀ w ∈ u_ws K T N, w ∈ xm_tb) (hc : vwCl[ci]? = some (K, T, N)) (hlink : Cond.fieldLinkNest own index ref name desc host ∈ xm_nest) (hT : ((T k).1, (T k).2.1, (T k).2.2.1) = (ref, name, desc)) (hr : rho < V.2.2) (he : V.2.1 rho (M rho) = .inr (ci, fs)) (hk : k < N) (hv : fs[k]? = some v) (hdg : decode cc pc = .ok (.getfield index, 3))
    (kk : W p l e R s m args below meth c H locs cells slots Q (F0 m (pc + 3) ls (v :: rest))) : W p l e R s m args below meth c H locs cells slots Q (F0 m pc ls (.ref (V.1 rho) :: rest)) := by
  obtain ⟨hx, hb, hml, hown, hts, -, -, hD, hK, -⟩ := C
  cases hT
  exact va_getN hx hb hts hin hown hK.1 hP rho (xm_at hr he) hc k hk (va_Nw.use rfl (hK.2.1 _ hlink)) (fun _ h => h) hv hdg kk
theorem xm_put (C : xm_C E V p s m args meth c own cc nL ret) (hP : va_P E.1 vwCl (xm_w V M) H) (hS : va_S (xm_A V s.heap.size) s.heap H locs) {ref K name desc : String} {T : u_T} {N ci index : Nat} (rho k : Nat) {fs : List Value} {x : Int32} (hin : ∀ w ∈ u_ws K T N, w ∈ xm_tb) (hc : vwCl[ci]? = some (K, T, N)) (hlink : Cond.fieldLink own index ref name desc ∈ xm_tb) (hT : ((T k).1, (T k).2.1, (T k).2.2.1) = (ref, name, desc)) {ty0 : Nat → FieldType} (hty : ∀ k, k < N → parseFieldDescriptor (T k).2.2.1 = some (ty0 k)) (hnm : ∀ a, a < N → ∀ b, b < N → a ≠ b → (T a).2.1 ≠ (T b).2.1) (hr : rho < V.2.2) (he : V.2.1 rho (M rho) = .inr (ci, fs)) (hk : k < N) (hfin : (T k).2.2.2 = false) {ty : FieldType} (hd : parseFieldDescriptor (T k).2.2.1 = some ty) (hn : narrow ty (.int x) = .int x) (hfit : fits ty (.int x) = true) (hl : k < fs.length) (he2 : V.2.1 rho (upd (M rho) k x) = .inr (ci, fs.set k (.int x))) (hdg : decode cc pc = .ok (.putfield index, 3))
    (kk : ∀ (H1 : Heap) (locs1 : List Loc), va_P E.1 vwCl (xm_w V (xm_up M rho k x)) H1 → va_S (xm_A V s.heap.size) s.heap H1 locs1 → W p l e R s m args below meth c H1 locs1 cells slots Q (F0 m (pc + 3) ls rest)) : W p l e R s m args below meth c H locs cells slots Q (F0 m pc ls (.int x :: .ref (V.1 rho) :: rest)) := by
  obtain ⟨hx, hb, hml, hown, hts, -, -, hD, hK, -⟩ := C
  cases hT
  refine va_put hx hb hts hin ty0 hty hnm hown hK.1 hP (xm_vaD hD M s.heap.size) hS rho (xm_at hr he) hc k hk (hts _ hlink) (fun _ h => h) hfin hd hn hfit hl hdg (fun H1 locs1 hP1 hD1 hS1 => ?_)
  rw [xm_set hr he2] at hP1
  exact kk H1 locs1 hP1 hS1
theorem xm_putN (C : xm_C E V p s m args meth c own cc nL ret) (hP : va_P E.1 vwCl (xm_w V M) H) (hS : va_S (xm_A V s.heap.size) s.heap H locs) {ref K name desc host : String} {T : u_T} {N ci index : Nat} (rho k : Nat) {fs : List Value} {x : Int32} (hin : ∀ w ∈ u_ws K T N, w ∈ xm_tb) (hc : vwCl[ci]? = some (K, T, N)) (hlink : Cond.fieldLinkNest own index ref name desc host ∈ xm_nest) (hT : ((T k).1, (T k).2.1, (T k).2.2.1) = (ref, name, desc)) {ty0 : Nat → FieldType} (hty : ∀ k, k < N → parseFieldDescriptor (T k).2.2.1 = some (ty0 k)) (hnm : ∀ a, a < N → ∀ b, b < N → a ≠ b → (T a).2.1 ≠ (T b).2.1) (hr : rho < V.2.2) (he : V.2.1 rho (M rho) = .inr (ci, fs)) (hk : k < N) (hfin : (T k).2.2.2 = false) {ty : FieldType} (hd : parseFieldDescriptor (T k).2.2.1 = some ty) (hn : narrow ty (.int x) = .int x) (hfit : fits ty (.int x) = true) (hl : k < fs.length) (he2 : V.2.1 rho (upd (M rho) k x) = .inr (ci, fs.set k (.int x))) (hdg : decode cc pc = .ok (.putfield index, 3))
    (kk : ∀ (H1 : Heap) (locs1 : List Loc), va_P E.1 vwCl (xm_w V (xm_up M rho k x)) H1 → va_S (xm_A V s.heap.size) s.heap H1 locs1 → W p l e R s m args below meth c H1 locs1 cells slots Q (F0 m (pc + 3) ls rest)) : W p l e R s m args below meth c H locs cells slots Q (F0 m pc ls (.int x :: .ref (V.1 rho) :: rest)) := by
  obtain ⟨hx, hb, hml, hown, hts, -, -, hD, hK, -⟩ := C
  cases hT
  refine va_putN hx hb hts hin ty0 hty hnm hown hK.1 hP (xm_vaD hD M s.heap.size) hS rho (xm_at hr he) hc k hk (va_Nw.use rfl (hK.2.1 _ hlink)) (fun _ h => h) hfin hd hn hfit hl hdg (fun H1 locs1 hP1 hD1 hS1 => ?_)
  rw [xm_set hr he2] at hP1
  exact kk H1 locs1 hP1 hS1
theorem xm_iald (C : xm_C E V p s m args meth c own cc nL ret) (hP : va_P E.1 vwCl (xm_w V M) H) (rho n : Nat) (hr : rho < V.2.2) (he : ∀ f, V.2.1 rho f = .inl (E.2.1 0, n, .inl f)) {i : Int32} (hin : xm_in i n = true) (hdg : decode cc pc = .ok (.iaload, 1))
    (kk : W p l e R s m args below meth c H locs cells slots Q (F0 m (pc + 1) ls (.int (M rho i.toNatClampNeg) :: rest))) : W p l e R s m args below meth c H locs cells slots Q (F0 m pc ls (.int i :: .ref (V.1 rho) :: rest)) := by
  obtain ⟨hx, hb, hml, hown, hts, -, -, hD, hK, -⟩ := C
  exact va_iald hx hb hK.1 hP rho 0 (xm_at hr (he _)) rfl (xm_in_s hin) hdg kk
theorem xm_cald (C : xm_C E V p s m args meth c own cc nL ret) (hP : va_P E.1 vwCl (xm_w V M) H) (rho n : Nat) (hr : rho < V.2.2) (he : ∀ f, V.2.1 rho f = .inl (E.2.1 1, n, .inl f)) {i : Int32} (hin : xm_in i n = true) (hdg : decode cc pc = .ok (.caload, 1))
    (kk : W p l e R s m args below meth c H locs cells slots Q (F0 m (pc + 1) ls (.int (M rho i.toNatClampNeg) :: rest))) : W p l e R s m args below meth c H locs cells slots Q (F0 m pc ls (.int i :: .ref (V.1 rho) :: rest)) := by
  obtain ⟨hx, hb, hml, hown, hts, -, -, hD, hK, -⟩ := C
  exact va_cald hx hb hK.1 hP rho 1 (xm_at hr (he _)) rfl (xm_in_s hin) hdg kk
theorem xm_zald (C : xm_C E V p s m args meth c own cc nL ret) (hP : va_P E.1 vwCl (xm_w V M) H) (rho n : Nat) (hr : rho < V.2.2) (he : ∀ f, V.2.1 rho f = .inl (E.2.1 2, n, .inl f)) {i : Int32} (hin : xm_in i n = true) (hdg : decode cc pc = .ok (.baload, 1))
    (kk : W p l e R s m args below meth c H locs cells slots Q (F0 m (pc + 1) ls (.int (M rho i.toNatClampNeg) :: rest))) : W p l e R s m args below meth c H locs cells slots Q (F0 m pc ls (.int i :: .ref (V.1 rho) :: rest)) := by
  obtain ⟨hx, hb, hml, hown, hts, -, -, hD, hK, -⟩ := C
  exact va_zald hx hb hK.1 hP rho 2 (xm_at hr (he _)) rfl (xm_in_s hin) hdg kk
theorem xm_aald (C : xm_C E V p s m args meth c own cc nL ret) (hP : va_P E.1 vwCl (xm_w V M) H) (rho n t : Nat) {K : String} {g : Nat → Option Nat} (hr : rho < V.2.2) (he : ∀ f, V.2.1 rho f = .inl (E.2.1 t, n, .inr (.inr (.inr (.inr g))))) (ht : (xm_ty E)[t]? = some (E.2.1 t, .object K)) {i : Int32} (hin : xm_in i n = true) {v : Nat} (hv : g i.toNatClampNeg = some v) (hdg : decode cc pc = .ok (.aaload, 1))
    (kk : W p l e R s m args below meth c H locs cells slots Q (F0 m (pc + 1) ls (.ref v :: rest))) : W p l e R s m args below meth c H locs cells slots Q (F0 m pc ls (.int i :: .ref (V.1 rho) :: rest)) := by
  obtain ⟨hx, hb, hml, hown, hts, -, -, hD, hK, -⟩ := C
  refine va_aldq hx hb hK.1 hP rho t (xm_at hr (he _)) ht (xm_in_s hin) hdg ?_
  rw [hv]
  exact kk
theorem xm_iast (C : xm_C E V p s m args meth c own cc nL ret) (hP : va_P E.1 vwCl (xm_w V M) H) (hS : va_S (xm_A V s.heap.size) s.heap H locs) (rho n : Nat) (hr : rho < V.2.2) (he : ∀ f, V.2.1 rho f = .inl (E.2.1 0, n, .inl f)) {i x : Int32} (hin : xm_in i n = true) (hdg : decode cc pc = .ok (.iastore, 1))
    (kk : ∀ (H1 : Heap) (locs1 : List Loc), va_P E.1 vwCl (xm_w V (xm_up M rho i.toNatClampNeg x)) H1 → va_S (xm_A V s.heap.size) s.heap H1 locs1 → W p l e R s m args below meth c H1 locs1 cells slots Q (F0 m (pc + 1) ls rest)) : W p l e R s m args below meth c H locs cells slots Q (F0 m pc ls (.int x :: .int i :: .ref (V.1 rho) :: rest)) := by
  obtain ⟨hx, hb, hml, hown, hts, -, -, hD, hK, -⟩ := C
  refine va_iast hx hb hK.1 hP (xm_vaD hD M s.heap.size) hS rho 0 (xm_at hr (he _)) rfl (xm_in_s hin) hdg (fun H1 locs1 hP1 hD1 hS1 => ?_)
  rw [xm_set hr (he _)] at hP1
  exact kk H1 locs1 hP1 hS1
theorem xm_cast (C : xm_C E V p s m args meth c own cc nL ret) (hP : va_P E.1 vwCl (xm_w V M) H) (hS : va_S (xm_A V s.heap.size) s.heap H locs) (rho n : Nat) (hr : rho < V.2.2) (he : ∀ f, V.2.1 rho f = .inl (E.2.1 1, n, .inl f)) {i x : Int32} (hin : xm_in i n = true) (hdg : decode cc pc = .ok (.castore, 1))
    (kk : ∀ (H1 : Heap) (locs1 : List Loc), va_P E.1 vwCl (xm_w V (xm_up M rho i.toNatClampNeg (vp_nar .char x))) H1 → va_S (xm_A V s.heap.size) s.heap H1 locs1 → W p l e R s m args below meth c H1 locs1 cells slots Q (F0 m (pc + 1) ls rest)) : W p l e R s m args below meth c H locs cells slots Q (F0 m pc ls (.int x :: .int i :: .ref (V.1 rho) :: rest)) := by
  obtain ⟨hx, hb, hml, hown, hts, -, -, hD, hK, -⟩ := C
  refine va_cast hx hb hK.1 hP (xm_vaD hD M s.heap.size) hS rho 1 (xm_at hr (he _)) rfl (xm_in_s hin) hdg (fun H1 locs1 hP1 hD1 hS1 => ?_)
  rw [xm_set hr (he _)] at hP1
  exact kk H1 locs1 hP1 hS1
theorem xm_zast (C : xm_C E V p s m args meth c own cc nL ret) (hP : va_P E.1 vwCl (xm_w V M) H) (hS : va_S (xm_A V s.heap.size) s.heap H locs) (rho n : Nat) (hr : rho < V.2.2) (he : ∀ f, V.2.1 rho f = .inl (E.2.1 2, n, .inl f)) {i x : Int32} (hin : xm_in i n = true) (hdg : decode cc pc = .ok (.bastore, 1))
    (kk : ∀ (H1 : Heap) (locs1 : List Loc), va_P E.1 vwCl (xm_w V (xm_up M rho i.toNatClampNeg (vp_nar .boolean x))) H1 → va_S (xm_A V s.heap.size) s.heap H1 locs1 → W p l e R s m args below meth c H1 locs1 cells slots Q (F0 m (pc + 1) ls rest)) : W p l e R s m args below meth c H locs cells slots Q (F0 m pc ls (.int x :: .int i :: .ref (V.1 rho) :: rest)) := by
  obtain ⟨hx, hb, hml, hown, hts, -, -, hD, hK, -⟩ := C
  refine va_zast hx hb hK.1 hP (xm_vaD hD M s.heap.size) hS rho 2 (xm_at hr (he _)) rfl (xm_in_s hin) hdg (fun H1 locs1 hP1 hD1 hS1 => ?_)
  rw [xm_set hr (he _)] at hP1
  exact kk H1 locs1 hP1 hS1
theorem xm_retI {below : List Frame} (C : xm_C E V p s m args meth c own cc nL (some .int)) (hP : va_P E.1 vwCl (xm_w V M) H) (hS : va_S (xm_A V s.heap.size) s.heap H locs) {v : Int32} (hdg : decode cc pc = .ok (.ireturn, 1)) : W p l e R s m args below meth c H locs 0 0 (MQ below (xm_Q E V M s.heap.size (some v)) args s 0 0 (xm_A V s.heap.size)) (F0 m pc ls [.int v]) := by
  obtain ⟨hx, hb, hml, hown, hts, hr, hlk, hD, hK, -⟩ := C
  exact W.iret hx hb hr (fun t ht hW => ⟨⟨rfl, by rw [ht]; exact hP⟩, hS.F ht⟩) hS.2.2 hdg hlk
theorem xm_retZ {below : List Frame} {ty : FieldType} (C : xm_C E V p s m args meth c own cc nL (some ty)) (hP : va_P E.1 vwCl (xm_w V M) H) (hS : va_S (xm_A V s.heap.size) s.heap H locs) {v : Int32} (hn : narrow ty (.int v) = .int v) (hdg : decode cc pc = .ok (.ireturn, 1)) : W p l e R s m args below meth c H locs 0 0 (MQ below (xm_Q E V M s.heap.size (some v)) args s 0 0 (xm_A V s.heap.size)) (F0 m pc ls [.int v]) := by
  obtain ⟨hx, hb, hml, hown, hts, hr, hlk, hD, hK, -⟩ := C
  exact W.zret hx hb hr hn (fun t ht hW => ⟨⟨rfl, by rw [ht]; exact hP⟩, hS.F ht⟩) hS.2.2 hdg hlk
theorem xm_retV {below : List Frame} (C : xm_C E V p s m args meth c own cc nL none) (hP : va_P E.1 vwCl (xm_w V M) H) (hS : va_S (xm_A V s.heap.size) s.heap H locs) (hdg : decode cc pc = .ok (.return_, 1)) : W p l e R s m args below meth c H locs 0 0 (MQ below (xm_Q E V M s.heap.size none) args s 0 0 (xm_A V s.heap.size)) (F0 m pc ls []) := by
  obtain ⟨hx, hb, hml, hown, hts, hr, hlk, hD, hK, -⟩ := C
  exact W.vret hx hb hr (fun t ht hW => ⟨⟨rfl, by rw [ht]; exact hP⟩, hS.F ht⟩) hS.2.2 hdg hlk
/-- behind a call -/
theorem xm_back {M' : xm_M} {r : Option Int32} {a : Array Value} {st0 : List Value} (hr : va_Run p l e R s m args below meth c H locs cells slots 0 0 (F0 m pc ls st0) rest (xm_Q E V M' H.size r a) (xm_A V H.size)) (hS : va_S (xm_A V s.heap.size) s.heap H locs)
    (kk : ∀ (H1 : Heap) (locs1 : List Loc), va_P E.1 vwCl (xm_w V M') H1 → va_S (xm_A V s.heap.size) s.heap H1 locs1 → W p l e R s m args below meth c H1 locs1 cells slots Q (F0 m (pc + 3) ls ((r.map Value.int).toList ++ rest))) : W p l e R s m args below meth c H locs cells slots Q (F0 m pc ls st0) := by
  intro T hT X
  obtain ⟨v, st₀, t, T', L, h0, X', hL, e1, e2, ⟨⟨hv, hp⟩, hz, hk⟩, st⟩ := hr T hT X
  cases hv
  rw [h0] at hz hk
  have hA := xm_A_le (V := V) hS.1
  obtain ⟨t2, a1, b1⟩ := kk T'.heap (locs ++ L) (by rw [e1]; exact hp) ⟨Nat.le_trans hS.1 (by rw [e1]; exact hz), fun q h1 h2 => by rw [e1, hk q (Nat.lt_of_lt_of_le h1 hS.1) (fun z => h2 (hA q z))]; exact hS.2.1 q h1 h2, fun q hq => by
      rcases List.mem_append.mp hq with h | h
      · exact hS.2.2 q h
      · exact hA _ (hL q h)⟩ T' rfl X'
  exact ⟨t2, st t2 a1, b1⟩
theorem xm_pre (C : xm_C E V p s m args meth c own cc nL ret) (hP : va_P E.1 vwCl (xm_w V M) H) (hS : va_S (xm_A V s.heap.size) s.heap H locs) (as : List Value) : ∀ U : State, U.heap = H → s.WarmedH U.vm → va_Pc as (xm_Pre E V M H.size) as.toArray U := by
  obtain ⟨hx, hb, hml, hown, hts, -, -, hD, hK, hS0⟩ := C
  intro U hU hW
  subst hU
  exact ⟨rfl, rfl, hP, hK.warm hW, (hS0.kept hS.2.1 |>.moved hW.alike).narrow (xm_A_le hS.1)⟩
def xm_FV (own : String) (index : Nat) (y : MethodName) (bytes : ByteArray) (maxL : Nat) (ret : Option FieldType) (n : Nat) : Prop := Cond.code y bytes maxL ret ∈ xm_tb ∧ Cond.methodLink own index y ∈ xm_tb ∧ Cond.instanceMethod y ∈ xm_tb ∧ Cond.selects y.cls y y ∈ xm_tb ∧ Cond.initialized y.cls ∈ xm_tb ∧ (y.cls ≠ "java/lang/invoke/MethodHandle" ∧ y.cls ≠ "java/lang/invoke/VarHandle" ∧ (parseMethodDescriptor y.desc).map (fun d => d.parameters.length) = some n)
def xm_FVN (own : String) (index : Nat) (y : MethodName) (host : String) (bytes : ByteArray) (maxL : Nat) (ret : Option FieldType) (n : Nat) : Prop := Cond.code y bytes maxL ret ∈ xm_tb ∧ Cond.methodLinkNest own index y host ∈ xm_nest ∧ Cond.instanceMethod y ∈ xm_tb ∧ Cond.selects y.cls y y ∈ xm_tb ∧ Cond.initialized y.cls ∈ xm_tb ∧ (y.cls ≠ "java/lang/invoke/MethodHandle" ∧ y.cls ≠ "java/lang/invoke/VarHandle" ∧ (parseMethodDescriptor y.desc).map (fun d => d.parameters.length) = some n)
def xm_FS (own : String) (index : Nat) (y : MethodName) (bytes : ByteArray) (maxL : Nat) (ret : Option FieldType) (n : Nat) : Prop := Cond.code y bytes maxL ret ∈ xm_tb ∧ Cond.methodLink own index y ∈ xm_tb ∧ Cond.static y ∈ xm_tb ∧ Cond.initialized y.cls ∈ xm_tb ∧ (y.cls ≠ "java/lang/invoke/MethodHandle" ∧ y.cls ≠ "java/lang/invoke/VarHandle" ∧ (parseMethodDescriptor y.desc).map (fun d => d.parameters.length) = some n)
def xm_FSN (own : String) (index : Nat) (y : MethodName) (host : String) (bytes : ByteArray) (maxL : Nat) (ret : Option FieldType) (n : Nat) : Prop := Cond.code y bytes maxL ret ∈ xm_tb ∧ Cond.methodLinkNest own index y host ∈ xm_nest ∧ Cond.static y ∈ xm_tb ∧ Cond.initialized y.cls ∈ xm_tb ∧ (y.cls ≠ "java/lang/invoke/MethodHandle" ∧ y.cls ≠ "java/lang/invoke/VarHandle" ∧ (parseMethodDescriptor y.desc).map (fun d => d.parameters.length) = some n)
variable {y : MethodName} {bytes : ByteArray} {maxL index n fr lo : Nat} {yret : Option FieldType} {M' : xm_M} {r : Option Int32} {st0 : List Value}
theorem xm_callV (C : xm_C E V p s m args meth c own cc nL ret) (hP : va_P E.1 vwCl (xm_w V M) H) (hS : va_S (xm_A V s.heap.size) s.heap H locs) {b : Nat} (As rest : List Value) (hM : xm_Met l E V y bytes maxL yret fr lo (.ref b :: As) M M' r) (F : xm_FV own index y bytes maxL yret n) (hrv : ∃ cell : Cell, H[b]? = some cell ∧ cell.vm.isStatics = false ∧ s.vm.findClass y.cls = some cell.cls) (hst : st0 = As.reverse ++ .ref b :: rest) (hn : As.length = n) (hR : fr + 1 ≤ R.frames ∧ 8 + (maxL + 11) + lo ≤ R.locals) (hsz : ls.size = nL) (hW : (rest.map fun v => v.category).sum ≤ 8) (hcs : cells ≤ R.cells ∧ slots ≤ R.slots) (hdg : decode cc pc = .ok (.invokevirtual index, 3))
    (kk : ∀ (H1 : Heap) (locs1 : List Loc), va_P E.1 vwCl (xm_w V M') H1 → va_S (xm_A V s.heap.size) s.heap H1 locs1 → W p l e R s m args below meth c H1 locs1 cells slots Q (F0 m (pc + 3) ls ((r.map Value.int).toList ++ rest))) : W p l e R s m args below meth c H locs cells slots Q (F0 m pc ls st0) := by
  obtain ⟨f1, f2, f3, f4, f5, f6⟩ := F
  have hpre := xm_pre C hP hS (.ref b :: As)
  obtain ⟨hx, hb, hml, hown, hts, -, -, hD, hK, hS0⟩ := C
  refine xm_back (va_runV (Ts := xm_tb) (C := y.cls) (As := As) (rest := rest) (b := b) ⟨hx, hb, hml, hown, hts⟩ (hM H.size) ⟨callB_of n hts (xm_good f1 fun _ h => h) rfl rfl rfl (hts _ f5) (hts _ f2) f6 hR, hts _ f3, hts _ f4⟩ ⟨xm_blind, hrv, hpre⟩ rfl hn hsz hst (lv_room hW) hdg hcs) hS kk
theorem xm_callVN (C : xm_C E V p s m args meth c own cc nL ret) (hP : va_P E.1 vwCl (xm_w V M) H) (hS : va_S (xm_A V s.heap.size) s.heap H locs) {b : Nat} {host : String} (As rest : List Value) (hM : xm_Met l E V y bytes maxL yret fr lo (.ref b :: As) M M' r) (F : xm_FVN own index y host bytes maxL yret n) (hrv : ∃ cell : Cell, H[b]? = some cell ∧ cell.vm.isStatics = false ∧ s.vm.findClass y.cls = some cell.cls) (hst : st0 = As.reverse ++ .ref b :: rest) (hn : As.length = n) (hR : fr + 1 ≤ R.frames ∧ 8 + (maxL + 11) + lo ≤ R.locals) (hsz : ls.size = nL) (hW : (rest.map fun v => v.category).sum ≤ 8) (hcs : cells ≤ R.cells ∧ slots ≤ R.slots) (hdg : decode cc pc = .ok (.invokevirtual index, 3))
    (kk : ∀ (H1 : Heap) (locs1 : List Loc), va_P E.1 vwCl (xm_w V M') H1 → va_S (xm_A V s.heap.size) s.heap H1 locs1 → W p l e R s m args below meth c H1 locs1 cells slots Q (F0 m (pc + 3) ls ((r.map Value.int).toList ++ rest))) : W p l e R s m args below meth c H locs cells slots Q (F0 m pc ls st0) := by
  obtain ⟨f1, f2, f3, f4, f5, f6⟩ := F
  have hpre := xm_pre C hP hS (.ref b :: As)
  obtain ⟨hx, hb, hml, hown, hts, -, -, hD, hK, hS0⟩ := C
  refine xm_back (va_runVN (Ts := xm_tb) (C := y.cls) (As := As) (rest := rest) (b := b) ⟨hx, hb, hml, hown, hts⟩ (hM H.size) ⟨va_cnB n hts (xm_good f1 fun _ h => h) rfl rfl rfl (hK.2.1 _ f2) (hts _ f5) f6 hR, hts _ f3, hts _ f4⟩ ⟨xm_blind, hrv, hpre⟩ rfl hn hsz hst (lv_room hW) hdg hcs) hS kk
theorem xm_callS (C : xm_C E V p s m args meth c own cc nL ret) (hP : va_P E.1 vwCl (xm_w V M) H) (hS : va_S (xm_A V s.heap.size) s.heap H locs) (As rest : List Value) (hM : xm_Met l E V y bytes maxL yret fr lo As M M' r) (F : xm_FS own index y bytes maxL yret n) (hst : st0 = As.reverse ++ rest) (hn : As.length = n) (hR : fr + 1 ≤ R.frames ∧ 8 + (maxL + 11) + lo ≤ R.locals) (hsz : ls.size = nL) (hW : (rest.map fun v => v.category).sum ≤ 8) (hcs : cells ≤ R.cells ∧ slots ≤ R.slots) (hdg : decode cc pc = .ok (.invokestatic index, 3))
    (kk : ∀ (H1 : Heap) (locs1 : List Loc), va_P E.1 vwCl (xm_w V M') H1 → va_S (xm_A V s.heap.size) s.heap H1 locs1 → W p l e R s m args below meth c H1 locs1 cells slots Q (F0 m (pc + 3) ls ((r.map Value.int).toList ++ rest))) : W p l e R s m args below meth c H locs cells slots Q (F0 m pc ls st0) := by
  obtain ⟨f1, f2, f3, f5, f6⟩ := F
  have hpre := xm_pre C hP hS As
  obtain ⟨hx, hb, hml, hown, hts, -, -, hD, hK, hS0⟩ := C
  refine xm_back (va_runS (Ts := xm_tb) (As := As) (rest := rest) ⟨hx, hb, hml, hown, hts⟩ (hM H.size) ⟨callB_of n hts (xm_good f1 fun _ h => h) rfl rfl rfl (hts _ f5) (hts _ f2) f6 hR, hts _ f3⟩ ⟨xm_blind, hpre⟩ rfl hn hsz hst (lv_room hW) hdg hcs) hS kk
theorem xm_callSN (C : xm_C E V p s m args meth c own cc nL ret) (hP : va_P E.1 vwCl (xm_w V M) H) (hS : va_S (xm_A V s.heap.size) s.heap H locs) {host : String} (As rest : List Value) (hM : xm_Met l E V y bytes maxL yret fr lo As M M' r) (F : xm_FSN own index y host bytes maxL yret n) (hst : st0 = As.reverse ++ rest) (hn : As.length = n) (hR : fr + 1 ≤ R.frames ∧ 8 + (maxL + 11) + lo ≤ R.locals) (hsz : ls.size = nL) (hW : (rest.map fun v => v.category).sum ≤ 8) (hcs : cells ≤ R.cells ∧ slots ≤ R.slots) (hdg : decode cc pc = .ok (.invokestatic index, 3))
    (kk : ∀ (H1 : Heap) (locs1 : List Loc), va_P E.1 vwCl (xm_w V M') H1 → va_S (xm_A V s.heap.size) s.heap H1 locs1 → W p l e R s m args below meth c H1 locs1 cells slots Q (F0 m (pc + 3) ls ((r.map Value.int).toList ++ rest))) : W p l e R s m args below meth c H locs cells slots Q (F0 m pc ls st0) := by
  obtain ⟨f1, f2, f3, f5, f6⟩ := F
  have hpre := xm_pre C hP hS As
  obtain ⟨hx, hb, hml, hown, hts, -, -, hD, hK, hS0⟩ := C
  refine xm_back (va_runSN (Ts := xm_tb) (As := As) (rest := rest) ⟨hx, hb, hml, hown, hts⟩ (hM H.size) ⟨va_cnB n hts (xm_good f1 fun _ h => h) rfl rfl rfl (hK.2.1 _ f2) (hts _ f5) f6 hR, hts _ f3, trivial⟩ ⟨xm_blind, hpre⟩ rfl hn hsz hst (lv_room hW) hdg hcs) hS kk
/-- the receiver of a call -/
theorem xm_recv (C : xm_C E V p s m args meth c own cc nL ret) (hP : va_P E.1 vwCl (xm_w V M) H) (rho : Nat) {ci N : Nat} {K : String} {T : u_T} {fs : List Value} (hc : vwCl[ci]? = some (K, T, N)) (hr : rho < V.2.2) (he : V.2.1 rho (M rho) = .inr (ci, fs)) : ∃ cell : Cell, H[V.1 rho]? = some cell ∧ cell.vm.isStatics = false ∧ s.vm.findClass K = some cell.cls := by
  obtain ⟨hx, hb, hml, hown, hts, -, -, hD, hK, hS0⟩ := C
  exact va_recv hK.1 hP hc (xm_at hr he)
end XROWS
end
section
/-! the shapes of the two sides: x, the class; m, the reference -/
abbrev xo_Pa (a : Nat → Nat) (p : Nat) (f : Nat → Int32) : List Value := [.int (f 0), .int (f 1), .int (f 2), .int (f 3), .ref (a (p + 1)), .ref (a (p + 2))]
abbrev xo_St (a : Nat → Nat) (s : Nat) (f : Nat → Int32) : List Value := [.int (f 0), .ref (a (s + 1)), .ref (a (s + 2)), .ref (a (s + 3)), .int (f 4), .int (f 5), .int (f 6), .ref (a (s + 4))]
abbrev xo_Hi (a : Nat → Nat) (f : Nat → Int32) : List Value := [.ref (a 5), .int (f 1), .int (f 2)]
abbrev xo_Wo (a : Nat → Nat) (f : Nat → Int32) : List Value := [.ref (a 7), .int (f 1), .int (f 2)]
abbrev xo_Se (a : Nat → Nat) (f : Nat → Int32) : List Value := [.ref (a 13), .int (f 1), .int (f 2), .int (f 3), .int (f 4), .int (f 5), .int (f 6), .int (f 7), .int (f 8), .ref (a 9), .ref (a 10), .ref (a 11), .int (f 12), .int (f 13), .int (f 14), .ref (a 12)]
abbrev xo_Li (a : Nat → Nat) (f : Nat → Int32) : List Value := [.int (f 0), .ref (a 14), .ref (a 15), .ref (a 16), .ref (a 17)]
abbrev xo_WM (a : Nat → Nat) (f : Nat → Int32) : List Value := [.ref (a 18), .ref (a 35), .int (f 2), .ref (a 4), .ref (a 6), .ref (a 1), .ref (a 8)]
abbrev xo_rp (a : Nat → Nat) (s : Nat) : Nat → Option Nat := fun j => [some (a (s + 5)), some (a (s + 8)), some (a (s + 11)), some (a (s + 14))].getD j none
abbrev xo_rs (a : Nat → Nat) : Nat → Option Nat := fun j => [some (a 52), some (a 69), some (a 86), some (a 103)].getD j none
def xc_P (E : xm_E) (a : Nat → Nat) (p o : Nat) (f : Nat → Int32) : va_E := match o with
  | 0 => .inr (2, xo_Pa a p f)
  | 1 => .inl (E.2.1 1, 8, .inl f)
  | _ => .inl (E.2.1 2, 8, .inl f)
def xc_S (E : xm_E) (a : Nat → Nat) (s o : Nat) (f : Nat → Int32) : va_E := match o with
  | 0 => .inr (4, xo_St a s f)
  | 1 => .inl (E.2.1 1, 24, .inl f)
  | 2 => .inl (E.2.1 0, 24, .inl f)
  | 3 => .inl (E.2.1 0, 24, .inl f)
  | 4 => .inl (E.2.1 4, 4, .inr (.inr (.inr (.inr (xo_rp a s)))))
  | o + 5 => xc_P E a (s + 5 + 3 * (o / 3)) (o % 3) f
def xc (E : xm_E) (a : Nat → Nat) (k : Nat) (f : Nat → Int32) : va_E := match k with
  | 0 => .inr (6, xo_WM a f)
  | 1 => .inr (2, xo_Pa a 1 f)
  | 2 => .inl (E.2.1 1, 8, .inl f)
  | 3 => .inl (E.2.1 2, 8, .inl f)
  | 4 => .inr (0, xo_Hi a f)
  | 5 => .inl (E.2.1 3, 4, .inr (.inr (.inr (.inr (xo_rs a)))))
  | 6 => .inr (5, xo_Wo a f)
  | 7 => .inl (E.2.1 1, 80, .inl f)
  | 8 => .inr (3, xo_Se a f)
  | 9 => .inl (E.2.1 1, 4, .inl f)
  | 10 => .inl (E.2.1 1, 4, .inl f)
  | 11 => .inl (E.2.1 0, 4, .inl f)
  | 12 => .inl (E.2.1 0, 25, .inl f)
  | 13 => .inr (1, xo_Li a f)
  | 14 => .inl (E.2.1 0, 25, .inl f)
  | 15 => .inl (E.2.1 1, 25, .inl f)
  | 16 => .inl (E.2.1 0, 25, .inl f)
  | 17 => .inl (E.2.1 0, 25, .inl f)
  | k + 18 => xc_S E a (18 + 17 * (k / 17)) (k % 17) f
abbrev xv (E : xm_E) (a : Nat → Nat) : xm_V := (a, xc E a, 120)
theorem xe_0 (E : xm_E) (a : Nat → Nat) (f : Nat → Int32) : (xv E a).2.1 0 f = .inr (6, xo_WM a f) := rfl
theorem xe_1 (E : xm_E) (a : Nat → Nat) (f : Nat → Int32) : (xv E a).2.1 1 f = .inr (2, xo_Pa a 1 f) := rfl
theorem xe_2 (E : xm_E) (a : Nat → Nat) (f : Nat → Int32) : (xv E a).2.1 2 f = .inl (E.2.1 1, 8, .inl f) := rfl
theorem xe_3 (E : xm_E) (a : Nat → Nat) (f : Nat → Int32) : (xv E a).2.1 3 f = .inl (E.2.1 2, 8, .inl f) := rfl
theorem xe_4 (E : xm_E) (a : Nat → Nat) (f : Nat → Int32) : (xv E a).2.1 4 f = .inr (0, xo_Hi a f) := rfl
theorem xe_5 (E : xm_E) (a : Nat → Nat) (f : Nat → Int32) : (xv E a).2.1 5 f = .inl (E.2.1 3, 4, .inr (.inr (.inr (.inr (xo_rs a))))) := rfl
theorem xe_6 (E : xm_E) (a : Nat → Nat) (f : Nat → Int32) : (xv E a).2.1 6 f = .inr (5, xo_Wo a f) := rfl
theorem xe_7 (E : xm_E) (a : Nat → Nat) (f : Nat → Int32) : (xv E a).2.1 7 f = .inl (E.2.1 1, 80, .inl f) := rfl
theorem xe_8 (E : xm_E) (a : Nat → Nat) (f : Nat → Int32) : (xv E a).2.1 8 f = .inr (3, xo_Se a f) := rfl
theorem xe_9 (E : xm_E) (a : Nat → Nat) (f : Nat → Int32) : (xv E a).2.1 9 f = .inl (E.2.1 1, 4, .inl f) := rfl
theorem xe_10 (E : xm_E) (a : Nat → Nat) (f : Nat → Int32) : (xv E a).2.1 10 f = .inl (E.2.1 1, 4, .inl f) := rfl
theorem xe_11 (E : xm_E) (a : Nat → Nat) (f : Nat → Int32) : (xv E a).2.1 11 f = .inl (E.2.1 0, 4, .inl f) := rfl
theorem xe_12 (E : xm_E) (a : Nat → Nat) (f : Nat → Int32) : (xv E a).2.1 12 f = .inl (E.2.1 0, 25, .inl f) := rfl
theorem xe_13 (E : xm_E) (a : Nat → Nat) (f : Nat → Int32) : (xv E a).2.1 13 f = .inr (1, xo_Li a f) := rfl
theorem xe_14 (E : xm_E) (a : Nat → Nat) (f : Nat → Int32) : (xv E a).2.1 14 f = .inl (E.2.1 0, 25, .inl f) := rfl
theorem xe_15 (E : xm_E) (a : Nat → Nat) (f : Nat → Int32) : (xv E a).2.1 15 f = .inl (E.2.1 1, 25, .inl f) := rfl
theorem xe_16 (E : xm_E) (a : Nat → Nat) (f : Nat → Int32) : (xv E a).2.1 16 f = .inl (E.2.1 0, 25, .inl f) := rfl
theorem xe_17 (E : xm_E) (a : Nat → Nat) (f : Nat → Int32) : (xv E a).2.1 17 f = .inl (E.2.1 0, 25, .inl f) := rfl
def xm_St (s : Nat) : Prop := ∃ t, t < 6 ∧ s = 18 + 17 * t
def xm_Pa (p : Nat) : Prop := p = 1 ∨ ∃ t j, t < 6 ∧ j < 4 ∧ p = 18 + 17 * t + 5 + 3 * j
theorem xs_0 {s : Nat} (h : xm_St s) (E : xm_E) (a : Nat → Nat) (f : Nat → Int32) : (xv E a).2.1 (s) f = .inr (4, xo_St a s f) := by
  obtain ⟨t, ht, rfl⟩ := h
  rcases (show t = 0 ∨ t = 1 ∨ t = 2 ∨ t = 3 ∨ t = 4 ∨ t = 5 by omega) with rfl | rfl | rfl | rfl | rfl | rfl <;> rfl
theorem xs_1 {s : Nat} (h : xm_St s) (E : xm_E) (a : Nat → Nat) (f : Nat → Int32) : (xv E a).2.1 (s + 1) f = .inl (E.2.1 1, 24, .inl f) := by
  obtain ⟨t, ht, rfl⟩ := h
  rcases (show t = 0 ∨ t = 1 ∨ t = 2 ∨ t = 3 ∨ t = 4 ∨ t = 5 by omega) with rfl | rfl | rfl | rfl | rfl | rfl <;> rfl
theorem xs_2 {s : Nat} (h : xm_St s) (E : xm_E) (a : Nat → Nat) (f : Nat → Int32) : (xv E a).2.1 (s + 2) f = .inl (E.2.1 0, 24, .inl f) := by
  obtain ⟨t, ht, rfl⟩ := h
  rcases (show t = 0 ∨ t = 1 ∨ t = 2 ∨ t = 3 ∨ t = 4 ∨ t = 5 by omega) with rfl | rfl | rfl | rfl | rfl | rfl <;> rfl
theorem xs_3 {s : Nat} (h : xm_St s) (E : xm_E) (a : Nat → Nat) (f : Nat → Int32) : (xv E a).2.1 (s + 3) f = .inl (E.2.1 0, 24, .inl f) := by
  obtain ⟨t, ht, rfl⟩ := h
  rcases (show t = 0 ∨ t = 1 ∨ t = 2 ∨ t = 3 ∨ t = 4 ∨ t = 5 by omega) with rfl | rfl | rfl | rfl | rfl | rfl <;> rfl
theorem xs_4 {s : Nat} (h : xm_St s) (E : xm_E) (a : Nat → Nat) (f : Nat → Int32) : (xv E a).2.1 (s + 4) f = .inl (E.2.1 4, 4, .inr (.inr (.inr (.inr (xo_rp a s))))) := by
  obtain ⟨t, ht, rfl⟩ := h
  rcases (show t = 0 ∨ t = 1 ∨ t = 2 ∨ t = 3 ∨ t = 4 ∨ t = 5 by omega) with rfl | rfl | rfl | rfl | rfl | rfl <;> rfl
theorem xp_0 {p : Nat} (h : xm_Pa p) (E : xm_E) (a : Nat → Nat) (f : Nat → Int32) : (xv E a).2.1 (p) f = .inr (2, xo_Pa a p f) := by
  rcases h with rfl | ⟨t, j, ht, hj, rfl⟩
  · rfl
  · rcases (show t = 0 ∨ t = 1 ∨ t = 2 ∨ t = 3 ∨ t = 4 ∨ t = 5 by omega) with rfl | rfl | rfl | rfl | rfl | rfl <;> rcases (show j = 0 ∨ j = 1 ∨ j = 2 ∨ j = 3 by omega) with rfl | rfl | rfl | rfl <;> rfl
theorem xp_1 {p : Nat} (h : xm_Pa p) (E : xm_E) (a : Nat → Nat) (f : Nat → Int32) : (xv E a).2.1 (p + 1) f = .inl (E.2.1 1, 8, .inl f) := by
  rcases h with rfl | ⟨t, j, ht, hj, rfl⟩
  · rfl
  · rcases (show t = 0 ∨ t = 1 ∨ t = 2 ∨ t = 3 ∨ t = 4 ∨ t = 5 by omega) with rfl | rfl | rfl | rfl | rfl | rfl <;> rcases (show j = 0 ∨ j = 1 ∨ j = 2 ∨ j = 3 by omega) with rfl | rfl | rfl | rfl <;> rfl
theorem xp_2 {p : Nat} (h : xm_Pa p) (E : xm_E) (a : Nat → Nat) (f : Nat → Int32) : (xv E a).2.1 (p + 2) f = .inl (E.2.1 2, 8, .inl f) := by
  rcases h with rfl | ⟨t, j, ht, hj, rfl⟩
  · rfl
  · rcases (show t = 0 ∨ t = 1 ∨ t = 2 ∨ t = 3 ∨ t = 4 ∨ t = 5 by omega) with rfl | rfl | rfl | rfl | rfl | rfl <;> rcases (show j = 0 ∨ j = 1 ∨ j = 2 ∨ j = 3 by omega) with rfl | rfl | rfl | rfl <;> rfl
theorem xs_lt {s : Nat} (h : xm_St s) (o : Nat) (ho : o < 17) : s + o < 120 := by
  obtain ⟨t, ht, rfl⟩ := h
  omega
theorem xp_lt {p : Nat} (h : xm_Pa p) (o : Nat) (ho : o < 3) : p + o < 120 := by
  rcases h with rfl | ⟨t, j, ht, hj, rfl⟩ <;> omega
theorem xs_18 : xm_St 18 := ⟨0, by omega, by omega⟩
theorem xs_35 : xm_St 35 := ⟨1, by omega, by omega⟩
theorem xs_h {i : Int32} (h : xm_in i 4 = true) : xm_St (52 + 17 * i.toNatClampNeg) := ⟨i.toNatClampNeg + 2, by have := xm_in_lt h; omega, by omega⟩
theorem xo_rp_at {a : Nat → Nat} {s : Nat} {i : Int32} (h : xm_in i 4 = true) : xo_rp a s i.toNatClampNeg = some (a (s + 5 + 3 * i.toNatClampNeg)) := by
  have h1 := xm_in_lt h
  generalize i.toNatClampNeg = j at h1 ⊢
  rcases (show j = 0 ∨ j = 1 ∨ j = 2 ∨ j = 3 by omega) with rfl | rfl | rfl | rfl <;> rfl
theorem xo_rs_at {a : Nat → Nat} {i : Int32} (h : xm_in i 4 = true) : xo_rs a i.toNatClampNeg = some (a (52 + 17 * i.toNatClampNeg)) := by
  have h1 := xm_in_lt h
  generalize i.toNatClampNeg = j at h1 ⊢
  rcases (show j = 0 ∨ j = 1 ∨ j = 2 ∨ j = 3 by omega) with rfl | rfl | rfl | rfl <;> rfl
theorem xp_1p : xm_Pa 1 := Or.inl rfl
theorem xp_s {s : Nat} (hs : xm_St s) {i : Int32} (h : xm_in i 4 = true) : xm_Pa (s + 5 + 3 * i.toNatClampNeg) := by
  obtain ⟨t, ht, rfl⟩ := hs
  exact Or.inr ⟨t, i.toNatClampNeg, ht, xm_in_lt h, rfl⟩
theorem xi_0 : ∀ w ∈ u_ws RX0 TX0 3, w ∈ xm_tb := by decide +kernel
theorem xi_1 : ∀ w ∈ u_ws RX1 TX1 5, w ∈ xm_tb := by decide +kernel
theorem xi_2 : ∀ w ∈ u_ws RX2 TX2 6, w ∈ xm_tb := by decide +kernel
theorem xi_3 : ∀ w ∈ u_ws RX3 TX3 16, w ∈ xm_tb := by decide +kernel
theorem xi_4 : ∀ w ∈ u_ws RX4 TX4 8, w ∈ xm_tb := by decide +kernel
theorem xi_5 : ∀ w ∈ u_ws RX5 TX5 3, w ∈ xm_tb := by decide +kernel
theorem xi_6 : ∀ w ∈ u_ws RX6 TX6 7, w ∈ xm_tb := by decide +kernel
theorem xm_add {x u v : Int32} (h : u = v) : x + u = x + v := by rw [h]
section XMAX
variable {p : Program} {l : Launch} {e : Env} {R : Room} {s : State} {m : MethodId} {args : Array Value} {below : List Frame} {meth : Method} {c : Code} {H : Heap} {locs : List Loc} {cells slots : Nat} {Q : State → Prop}
variable {cc : ByteArray} {pc : Nat} {ls : Array Slot} {rest : List Value} {E : xm_E} {V : xm_V} {own : String} {nL index : Nat} {ret : Option FieldType}
theorem xm_max (C : xm_C E V p s m args meth c own cc nL ret) (F : Cond.methodLink own index Lib.Math.max.name ∈ xm_tb ∧ Cond.static Lib.Math.max.name ∈ xm_tb ∧ Cond.initialized "java/lang/Math" ∈ xm_tb ∧ Cond.code Lib.Math.max.name Lib.Math.max.code 2 (some .int) ∈ xm_tb) (hf : 1 ≤ R.frames) (hlo : (rest.map fun v => v.category).sum + 13 ≤ R.locals) (hsz : ls.size = nL) (hc : cells ≤ R.cells) (hs : slots ≤ R.slots) {x y : Int32} (hdg : decode cc pc = .ok (.invokestatic index, 3))
    (kk : W p l e R s m args below meth c H locs cells slots Q (F0 m (pc + 3) ls (.int (if x < y then y else x) :: rest))) : W p l e R s m args below meth c H locs cells slots Q (F0 m pc ls (.int y :: .int x :: rest)) := by
  obtain ⟨hx, hb, hml, hown, hts, -, -, hD, hK, hS0⟩ := C
  obtain ⟨f1, f2, f3, f4⟩ := F
  exact va_mmax hx hb (hml.trans hsz.symm) hown (hts _ f1) (hts _ f2) (hts _ f3) (hts _ f4) hf hlo hc hs hdg kk
theorem xm_sw_aux {x : Int32} {k : Nat} (h : ∀ i : Nat, i < k → x ≠ nI i) (hk : 0 < k) (hk2 : k < 1000) : x.toInt < 0 ∨ ((k : Int) - 1) < x.toInt := by
  by_cases h0 : x.toInt < 0
  · exact Or.inl h0
  · refine Or.inr ?_
    have hx : ¬ x < 0 := by
      rw [Int32.lt_iff_toInt_lt, Int32.toInt_zero]
      exact h0
    obtain ⟨j, hj, rfl⟩ := nI_of hx
    rw [nI_toInt hj]
    rcases Nat.lt_or_ge j k with q | q
    · exact absurd rfl (h j q)
    · omega

theorem xm_sw2 {x : Int32} (c0 : ¬ x = 0) (c1 : ¬ x = 1) : x.toInt < 0 ∨ (1 : Int) < x.toInt :=
  xm_sw_aux (k := 2) (fun i hi => by
    rcases (show i = 0 ∨ i = 1 by omega) with rfl | rfl
    · exact c0
    · exact c1) (by omega) (by omega)
theorem xm_sw4 {x : Int32} (c0 : ¬ x = 0) (c1 : ¬ x = 1) (c2 : ¬ x = 2) (c3 : ¬ x = 3) : x.toInt < 0 ∨ (3 : Int) < x.toInt :=
  xm_sw_aux (k := 4) (fun i hi => by
    rcases (show i = 0 ∨ i = 1 ∨ i = 2 ∨ i = 3 by omega) with rfl | rfl | rfl | rfl
    · exact c0
    · exact c1
    · exact c2
    · exact c3) (by omega) (by omega)
theorem xm_sw5 {x : Int32} (c0 : ¬ x = 0) (c1 : ¬ x = 1) (c2 : ¬ x = 2) (c3 : ¬ x = 3) (c4 : ¬ x = 4) : x.toInt < 0 ∨ (4 : Int) < x.toInt :=
  xm_sw_aux (k := 5) (fun i hi => by
    rcases (show i = 0 ∨ i = 1 ∨ i = 2 ∨ i = 3 ∨ i = 4 by omega) with rfl | rfl | rfl | rfl | rfl
    · exact c0
    · exact c1
    · exact c2
    · exact c3
    · exact c4) (by omega) (by omega)
theorem xm_sw7 {x : Int32} (c0 : ¬ x = 0) (c1 : ¬ x = 1) (c2 : ¬ x = 2) (c3 : ¬ x = 3) (c4 : ¬ x = 4) (c5 : ¬ x = 5) (c6 : ¬ x = 6) : x.toInt < 0 ∨ (6 : Int) < x.toInt :=
  xm_sw_aux (k := 7) (fun i hi => by
    rcases (show i = 0 ∨ i = 1 ∨ i = 2 ∨ i = 3 ∨ i = 4 ∨ i = 5 ∨ i = 6 by omega) with rfl | rfl | rfl | rfl | rfl | rfl | rfl
    · exact c0
    · exact c1
    · exact c2
    · exact c3
    · exact c4
    · exact c5
    · exact c6) (by omega) (by omega)
theorem xm_sw9 {x : Int32} (c0 : ¬ x = 0) (c1 : ¬ x = 1) (c2 : ¬ x = 2) (c3 : ¬ x = 3) (c4 : ¬ x = 4) (c5 : ¬ x = 5) (c6 : ¬ x = 6) (c7 : ¬ x = 7) (c8 : ¬ x = 8) : x.toInt < 0 ∨ (8 : Int) < x.toInt :=
  xm_sw_aux (k := 9) (fun i hi => by
    rcases (show i = 0 ∨ i = 1 ∨ i = 2 ∨ i = 3 ∨ i = 4 ∨ i = 5 ∨ i = 6 ∨ i = 7 ∨ i = 8 by omega) with rfl | rfl | rfl | rfl | rfl | rfl | rfl | rfl | rfl
    · exact c0
    · exact c1
    · exact c2
    · exact c3
    · exact c4
    · exact c5
    · exact c6
    · exact c7
    · exact c8) (by omega) (by omega)
theorem xm_sw14 {x : Int32} (c0 : ¬ x = 0) (c1 : ¬ x = 1) (c2 : ¬ x = 2) (c3 : ¬ x = 3) (c4 : ¬ x = 4) (c5 : ¬ x = 5) (c6 : ¬ x = 6) (c7 : ¬ x = 7) (c8 : ¬ x = 8) (c9 : ¬ x = 9) (c10 : ¬ x = 10) (c11 : ¬ x = 11) (c12 : ¬ x = 12) (c13 : ¬ x = 13) : x.toInt < 0 ∨ (13 : Int) < x.toInt :=
  xm_sw_aux (k := 14) (fun i hi => by
    rcases (show i = 0 ∨ i = 1 ∨ i = 2 ∨ i = 3 ∨ i = 4 ∨ i = 5 ∨ i = 6 ∨ i = 7 ∨ i = 8 ∨ i = 9 ∨ i = 10 ∨ i = 11 ∨ i = 12 ∨ i = 13 by omega) with rfl | rfl | rfl | rfl | rfl | rfl | rfl | rfl | rfl | rfl | rfl | rfl | rfl | rfl
    · exact c0
    · exact c1
    · exact c2
    · exact c3
    · exact c4
    · exact c5
    · exact c6
    · exact c7
    · exact c8
    · exact c9
    · exact c10
    · exact c11
    · exact c12
    · exact c13) (by omega) (by omega)
theorem xm_sw15 {x : Int32} (c0 : ¬ x = 0) (c1 : ¬ x = 1) (c2 : ¬ x = 2) (c3 : ¬ x = 3) (c4 : ¬ x = 4) (c5 : ¬ x = 5) (c6 : ¬ x = 6) (c7 : ¬ x = 7) (c8 : ¬ x = 8) (c9 : ¬ x = 9) (c10 : ¬ x = 10) (c11 : ¬ x = 11) (c12 : ¬ x = 12) (c13 : ¬ x = 13) (c14 : ¬ x = 14) : x.toInt < 0 ∨ (14 : Int) < x.toInt :=
  xm_sw_aux (k := 15) (fun i hi => by
    rcases (show i = 0 ∨ i = 1 ∨ i = 2 ∨ i = 3 ∨ i = 4 ∨ i = 5 ∨ i = 6 ∨ i = 7 ∨ i = 8 ∨ i = 9 ∨ i = 10 ∨ i = 11 ∨ i = 12 ∨ i = 13 ∨ i = 14 by omega) with rfl | rfl | rfl | rfl | rfl | rfl | rfl | rfl | rfl | rfl | rfl | rfl | rfl | rfl | rfl
    · exact c0
    · exact c1
    · exact c2
    · exact c3
    · exact c4
    · exact c5
    · exact c6
    · exact c7
    · exact c8
    · exact c9
    · exact c10
    · exact c11
    · exact c12
    · exact c13
    · exact c14) (by omega) (by omega)
theorem xm_lk2 {x : Int32} {a b d : Int} (c0 : ¬ x = 0) (c1 : ¬ x = 1) : Op.lookupswitch.offset [(0, a), (1, b)] d x.toInt = d := by
  have h0 : ¬ x.toInt = 0 := fun q => c0 (Int32.toInt_inj.mp (q.trans Int32.toInt_zero.symm))
  have h1 : ¬ x.toInt = 1 := fun q => c1 (Int32.toInt_inj.mp (q.trans (by decide)))
  simp [Op.lookupswitch.offset, h0, h1, Ne.symm h0, Ne.symm h1]
end XMAX
end
section
theorem l_X2_18 : Cond.fieldLink RX2 18 "WindowMatches$Pattern" "steps" "I" ∈ xm_tb := xm_tb_of (List.mem_of_getElem? (i := 42) (by decide +kernel)) rfl
theorem l_X2_21 : Cond.fieldLink RX2 21 "WindowMatches$Pattern" "plainSteps" "I" ∈ xm_tb := xm_tb_of (List.mem_of_getElem? (i := 46) (by decide +kernel)) rfl
theorem l_X2_28 : Cond.fieldLink RX2 28 "WindowMatches$Pattern" "absent" "[Z" ∈ xm_tb := xm_tb_of (List.mem_of_getElem? (i := 52) (by decide +kernel)) rfl
theorem k_X2_32 : xm_FV RX2 32 yX2_hasRoomForStep cX2_hasRoomForStep 1 (some .boolean) 0 := ⟨xm_tb_of (List.mem_of_getElem? (i := 498) (by decide +kernel)) rfl, xm_tb_of (List.mem_of_getElem? (i := 503) (by decide +kernel)) rfl, xm_tb_of (List.mem_of_getElem? (i := 497) (by decide +kernel)) rfl, xm_tb_sel (List.mem_of_getElem? (i := 29) (by decide +kernel)) rfl, xm_tb_of (List.mem_of_getElem? (i := 3) (by decide +kernel)) rfl, ⟨by decide +kernel, by decide +kernel, by decide +kernel⟩⟩
theorem l_X2_24 : Cond.fieldLink RX2 24 "WindowMatches$Pattern" "kinds" "[C" ∈ xm_tb := xm_tb_of (List.mem_of_getElem? (i := 49) (by decide +kernel)) rfl
theorem l_X2_9 : Cond.fieldLink RX2 9 "WindowMatches$Pattern" "window" "I" ∈ xm_tb := xm_tb_of (List.mem_of_getElem? (i := 34) (by decide +kernel)) rfl
theorem l_X2_15 : Cond.fieldLink RX2 15 "WindowMatches$Pattern" "rule" "I" ∈ xm_tb := xm_tb_of (List.mem_of_getElem? (i := 38) (by decide +kernel)) rfl
def f_X2_clearSteps (n : Nat) (M : xm_M) (o0 : Nat) : Option xm_M := xm_lt (xm_up M o0 2 0) (fun M1 => xm_lt (xm_up M1 o0 3 0) (fun M3 => some M3))
set_option maxHeartbeats 4000000 in
set_option maxRecDepth 100000 in
theorem t_X2_clearSteps_0 {l : Launch} {p : Program} {e : Env} {s : State} {m : MethodId} {args : Array Value} {below : List Frame} {meth : Method} {c : Code} {E : xm_E} {a : Nat → Nat} (C : xm_C E (xv E a) p s m args meth c RX2 cX2_clearSteps 1 none) {o0 : Nat} (h0 : xm_Pa o0) (n : Nat) (M : xm_M) (M' : xm_M) : f_X2_clearSteps n M o0 = some M' → ∀ (H : Heap) (locs : List Loc) (ls : Array Slot), va_P E.1 vwCl (xm_w (xv E a) M) H → va_S (xm_A (xv E a) s.heap.size) s.heap H locs → lv_has ls 1 [(0, .ref (a o0))] → W p l e { frames := 0, cells := 0, slots := 0, locals := 0 } s m args below meth c H locs 0 0 (MQ below (xm_Q E (xv E a) M' s.heap.size none) args s 0 0 (xm_A (xv E a) s.heap.size)) (F0 m 0 ls []) := by
  have C9 := C
  obtain ⟨hx, hb, hml, hown, hts, hr, hlk, hD, hK, hS9⟩ := C9
  intro h H locs ls hP hS hl
  unfold f_X2_clearSteps at h
  refine lv_aload_n hx hb dX2_clearSteps_0 rfl (lv_at hl 0 rfl) ?_
  refine lv_iconst (v := 0) hx hb dX2_clearSteps_1 (by decide) ?_
  obtain ⟨M1, e2, h⟩ := xm_lt_s h
  refine xm_put (V := (xv E a)) (T := TX2) (ty := .int) (x := 0) C hP hS o0 2 xi_2 rfl l_X2_18 rfl tyX2_ok nmX2 (xp_lt h0 0 (by omega)) ((xp_0 h0 E a) _) (Nat.le_of_ble_eq_true rfl) rfl (by decide +kernel) rfl rfl (Nat.le_of_ble_eq_true rfl) ((xp_0 h0 E a) _) dX2_clearSteps_2 (fun H locs hP hS => ?_)
  rw [← e2] at hP
  refine lv_aload_n hx hb dX2_clearSteps_5 rfl (lv_at hl 0 rfl) ?_
  refine lv_iconst (v := 0) hx hb dX2_clearSteps_6 (by decide) ?_
  obtain ⟨M3, e4, h⟩ := xm_lt_s h
  refine xm_put (V := (xv E a)) (T := TX2) (ty := .int) (x := 0) C hP hS o0 3 xi_2 rfl l_X2_21 rfl tyX2_ok nmX2 (xp_lt h0 0 (by omega)) ((xp_0 h0 E a) _) (Nat.le_of_ble_eq_true rfl) rfl (by decide +kernel) rfl rfl (Nat.le_of_ble_eq_true rfl) ((xp_0 h0 E a) _) dX2_clearSteps_7 (fun H locs hP hS => ?_)
  rw [← e4] at hP
  cases xm_on h
  exact xm_retV C hP hS dX2_clearSteps_10
theorem c_X2_clearSteps {l : Launch} {E : xm_E} {a : Nat → Nat} (hD : xm_D (xv E a)) {o0 : Nat} (h0 : xm_Pa o0) (n : Nat) (M : xm_M) (M' : xm_M) (h : f_X2_clearSteps n M o0 = some M') : xm_Met l E (xv E a) yX2_clearSteps cX2_clearSteps 1 none 0 0 [.ref (a o0)] M M' none :=
  xm_met (by decide +kernel) rfl (Nat.le_of_ble_eq_true rfl) hD (fun p e s m below meth c C hP ls hl => t_X2_clearSteps_0 C h0 n M M' h _ _ _ hP va_S.rf hl)
def f_X2_hasRoomForStep (n : Nat) (M : xm_M) (o0 : Nat) : Option (Int32 × xm_M) := if (8 : Int32) ≤ (M o0 2) then some (0, M) else some (1, M)
set_option maxHeartbeats 4000000 in
set_option maxRecDepth 100000 in
theorem t_X2_hasRoomForStep_0 {l : Launch} {p : Program} {e : Env} {s : State} {m : MethodId} {args : Array Value} {below : List Frame} {meth : Method} {c : Code} {E : xm_E} {a : Nat → Nat} (C : xm_C E (xv E a) p s m args meth c RX2 cX2_hasRoomForStep 1 (some .boolean)) {o0 : Nat} (h0 : xm_Pa o0) (n : Nat) (M : xm_M) (r : Int32) (M' : xm_M) : f_X2_hasRoomForStep n M o0 = some (r, M') → ∀ (H : Heap) (locs : List Loc) (ls : Array Slot), va_P E.1 vwCl (xm_w (xv E a) M) H → va_S (xm_A (xv E a) s.heap.size) s.heap H locs → lv_has ls 1 [(0, .ref (a o0))] → W p l e { frames := 0, cells := 0, slots := 0, locals := 0 } s m args below meth c H locs 0 0 (MQ below (xm_Q E (xv E a) M' s.heap.size (some r)) args s 0 0 (xm_A (xv E a) s.heap.size)) (F0 m 0 ls []) := by
  have C9 := C
  obtain ⟨hx, hb, hml, hown, hts, hr, hlk, hD, hK, hS9⟩ := C9
  intro h H locs ls hP hS hl
  unfold f_X2_hasRoomForStep at h
  refine lv_aload_n hx hb dX2_hasRoomForStep_0 rfl (lv_at hl 0 rfl) ?_
  refine xm_get (V := (xv E a)) (T := TX2) (v := .int (M o0 2)) C hP o0 2 xi_2 rfl l_X2_18 rfl (xp_lt h0 0 (by omega)) ((xp_0 h0 E a) _) (Nat.le_of_ble_eq_true rfl) rfl dX2_hasRoomForStep_1 ?_
  refine lv_bipush (v := 8) hx hb dX2_hasRoomForStep_4 (by decide) ?_
  refine lv_icmp_ge (tgt := 13) hx hb dX2_hasRoomForStep_6 (by decide) (fun c1 => ?_) (fun c1 => ?_)
  · rw [if_pos c1] at h
    refine lv_iconst (v := 0) hx hb dX2_hasRoomForStep_13 (by decide) ?_
    obtain ⟨rfl, rfl⟩ := xm_pr h
    exact xm_retZ C hP hS (by rfl) dX2_hasRoomForStep_14
  · rw [if_neg c1] at h
    refine lv_iconst (v := 1) hx hb dX2_hasRoomForStep_9 (by decide) ?_
    refine lv_goto (tgt := 14) hx hb dX2_hasRoomForStep_10 (by decide) ?_
    obtain ⟨rfl, rfl⟩ := xm_pr h
    exact xm_retZ C hP hS (by rfl) dX2_hasRoomForStep_14
theorem c_X2_hasRoomForStep {l : Launch} {E : xm_E} {a : Nat → Nat} (hD : xm_D (xv E a)) {o0 : Nat} (h0 : xm_Pa o0) (n : Nat) (M : xm_M) (r : Int32) (M' : xm_M) (h : f_X2_hasRoomForStep n M o0 = some (r, M')) : xm_Met l E (xv E a) yX2_hasRoomForStep cX2_hasRoomForStep 1 (some .boolean) 0 0 [.ref (a o0)] M M' (some r) :=
  xm_met (by decide +kernel) rfl (Nat.le_of_ble_eq_true rfl) hD (fun p e s m below meth c C hP ls hl => t_X2_hasRoomForStep_0 C h0 n M r M' h _ _ _ hP va_S.rf hl)
def f_X2_endsWithPlainStep (n : Nat) (M : xm_M) (o0 : Nat) : Option (Int32 × xm_M) := if (M o0 2) ≤ 0 then some (0, M) else if (8 : Int32) < (M o0 2) then some (0, M) else xm_ck (xm_in ((M o0 2) - 1) 8) (if (M (o0 + 2) ((M o0 2) - 1).toNatClampNeg) = 0 then some (1, M) else some (0, M))
set_option maxHeartbeats 4000000 in
set_option maxRecDepth 100000 in
theorem t_X2_endsWithPlainStep_0 {l : Launch} {p : Program} {e : Env} {s : State} {m : MethodId} {args : Array Value} {below : List Frame} {meth : Method} {c : Code} {E : xm_E} {a : Nat → Nat} (C : xm_C E (xv E a) p s m args meth c RX2 cX2_endsWithPlainStep 1 (some .boolean)) {o0 : Nat} (h0 : xm_Pa o0) (n : Nat) (M : xm_M) (r : Int32) (M' : xm_M) : f_X2_endsWithPlainStep n M o0 = some (r, M') → ∀ (H : Heap) (locs : List Loc) (ls : Array Slot), va_P E.1 vwCl (xm_w (xv E a) M) H → va_S (xm_A (xv E a) s.heap.size) s.heap H locs → lv_has ls 1 [(0, .ref (a o0))] → W p l e { frames := 0, cells := 0, slots := 0, locals := 0 } s m args below meth c H locs 0 0 (MQ below (xm_Q E (xv E a) M' s.heap.size (some r)) args s 0 0 (xm_A (xv E a) s.heap.size)) (F0 m 0 ls []) := by
  have C9 := C
  obtain ⟨hx, hb, hml, hown, hts, hr, hlk, hD, hK, hS9⟩ := C9
  intro h H locs ls hP hS hl
  unfold f_X2_endsWithPlainStep at h
  refine lv_aload_n hx hb dX2_endsWithPlainStep_0 rfl (lv_at hl 0 rfl) ?_
  refine xm_get (V := (xv E a)) (T := TX2) (v := .int (M o0 2)) C hP o0 2 xi_2 rfl l_X2_18 rfl (xp_lt h0 0 (by omega)) ((xp_0 h0 E a) _) (Nat.le_of_ble_eq_true rfl) rfl dX2_endsWithPlainStep_1 ?_
  refine lv_if_le (tgt := 34) hx hb dX2_endsWithPlainStep_4 (by decide) (fun c1 => ?_) (fun c1 => ?_)
  · rw [if_pos c1] at h
    refine lv_iconst (v := 0) hx hb dX2_endsWithPlainStep_34 (by decide) ?_
    obtain ⟨rfl, rfl⟩ := xm_pr h
    exact xm_retZ C hP hS (by rfl) dX2_endsWithPlainStep_35
  · rw [if_neg c1] at h
    refine lv_aload_n hx hb dX2_endsWithPlainStep_7 rfl (lv_at hl 0 rfl) ?_
    refine xm_get (V := (xv E a)) (T := TX2) (v := .int (M o0 2)) C hP o0 2 xi_2 rfl l_X2_18 rfl (xp_lt h0 0 (by omega)) ((xp_0 h0 E a) _) (Nat.le_of_ble_eq_true rfl) rfl dX2_endsWithPlainStep_8 ?_
    refine lv_bipush (v := 8) hx hb dX2_endsWithPlainStep_11 (by decide) ?_
    refine lv_icmp_gt (tgt := 34) hx hb dX2_endsWithPlainStep_13 (by decide) (fun c2 => ?_) (fun c2 => ?_)
    · rw [if_pos c2] at h
      refine lv_iconst (v := 0) hx hb dX2_endsWithPlainStep_34 (by decide) ?_
      obtain ⟨rfl, rfl⟩ := xm_pr h
      exact xm_retZ C hP hS (by rfl) dX2_endsWithPlainStep_35
    · rw [if_neg c2] at h
      refine lv_aload_n hx hb dX2_endsWithPlainStep_16 rfl (lv_at hl 0 rfl) ?_
      refine xm_get (V := (xv E a)) (T := TX2) (v := .ref (a (o0 + 2))) C hP o0 5 xi_2 rfl l_X2_28 rfl (xp_lt h0 0 (by omega)) ((xp_0 h0 E a) _) (Nat.le_of_ble_eq_true rfl) rfl dX2_endsWithPlainStep_17 ?_
      refine lv_aload_n hx hb dX2_endsWithPlainStep_20 rfl (lv_at hl 0 rfl) ?_
      refine xm_get (V := (xv E a)) (T := TX2) (v := .int (M o0 2)) C hP o0 2 xi_2 rfl l_X2_18 rfl (xp_lt h0 0 (by omega)) ((xp_0 h0 E a) _) (Nat.le_of_ble_eq_true rfl) rfl dX2_endsWithPlainStep_21 ?_
      refine lv_iconst (v := 1) hx hb dX2_endsWithPlainStep_24 (by decide) ?_
      refine lv_isub hx hb dX2_endsWithPlainStep_25 ?_
      obtain ⟨b3, h⟩ := xm_ck_s h
      refine xm_zald (V := (xv E a)) C hP (o0 + 2) 8 (xp_lt h0 2 (by omega)) (xp_2 h0 E a) b3 dX2_endsWithPlainStep_26 ?_
      refine lv_if_ne (tgt := 34) hx hb dX2_endsWithPlainStep_27 (by decide) (fun c4 => ?_) (fun c4 => ?_)
      · rw [if_neg c4] at h
        refine lv_iconst (v := 0) hx hb dX2_endsWithPlainStep_34 (by decide) ?_
        obtain ⟨rfl, rfl⟩ := xm_pr h
        exact xm_retZ C hP hS (by rfl) dX2_endsWithPlainStep_35
      · rw [if_pos c4] at h
        refine lv_iconst (v := 1) hx hb dX2_endsWithPlainStep_30 (by decide) ?_
        refine lv_goto (tgt := 35) hx hb dX2_endsWithPlainStep_31 (by decide) ?_
        obtain ⟨rfl, rfl⟩ := xm_pr h
        exact xm_retZ C hP hS (by rfl) dX2_endsWithPlainStep_35
theorem c_X2_endsWithPlainStep {l : Launch} {E : xm_E} {a : Nat → Nat} (hD : xm_D (xv E a)) {o0 : Nat} (h0 : xm_Pa o0) (n : Nat) (M : xm_M) (r : Int32) (M' : xm_M) (h : f_X2_endsWithPlainStep n M o0 = some (r, M')) : xm_Met l E (xv E a) yX2_endsWithPlainStep cX2_endsWithPlainStep 1 (some .boolean) 0 0 [.ref (a o0)] M M' (some r) :=
  xm_met (by decide +kernel) rfl (Nat.le_of_ble_eq_true rfl) hD (fun p e s m below meth c C hP ls hl => t_X2_endsWithPlainStep_0 C h0 n M r M' h _ _ _ hP va_S.rf hl)
def f_X2_addStep (n : Nat) (M : xm_M) (o0 : Nat) (x1 : Int32) (x2 : Int32) : Option xm_M := xm_b2 (f_X2_hasRoomForStep n M o0) (fun r2 M1 => if r2 = 0 then some M1 else xm_ck (xm_in (M1 o0 2) 8) (xm_lt (xm_up M1 (o0 + 1) (M1 o0 2).toNatClampNeg (vp_nar .char x1)) (fun M6 => xm_ck (xm_in (M6 o0 2) 8) (xm_lt (xm_up M6 (o0 + 2) (M6 o0 2).toNatClampNeg (vp_nar .boolean x2)) (fun M9 => xm_lt (xm_up M9 o0 2 ((M9 o0 2) + 1)) (fun M11 => if x2 = 0 then xm_lt (xm_up M11 o0 3 ((M11 o0 3) + 1)) (fun M14 => some M14) else some M11))))))
set_option maxHeartbeats 4000000 in
set_option maxRecDepth 100000 in
theorem t_X2_addStep_0 {l : Launch} {p : Program} {e : Env} {s : State} {m : MethodId} {args : Array Value} {below : List Frame} {meth : Method} {c : Code} {E : xm_E} {a : Nat → Nat} (C : xm_C E (xv E a) p s m args meth c RX2 cX2_addStep 3 none) {o0 : Nat} (h0 : xm_Pa o0) (n : Nat) (M : xm_M) (x1 : Int32) (x2 : Int32) (M' : xm_M) : f_X2_addStep n M o0 x1 x2 = some M' → ∀ (H : Heap) (locs : List Loc) (ls : Array Slot), va_P E.1 vwCl (xm_w (xv E a) M) H → va_S (xm_A (xv E a) s.heap.size) s.heap H locs → lv_has ls 3 [(0, .ref (a o0)), (1, .int x1), (2, .int x2)] → W p l e { frames := 1, cells := 0, slots := 0, locals := 20 } s m args below meth c H locs 0 0 (MQ below (xm_Q E (xv E a) M' s.heap.size none) args s 0 0 (xm_A (xv E a) s.heap.size)) (F0 m 0 ls []) := by
  have C9 := C
  obtain ⟨hx, hb, hml, hown, hts, hr, hlk, hD, hK, hS9⟩ := C9
  intro h H locs ls hP hS hl
  unfold f_X2_addStep at h
  refine lv_aload_n hx hb dX2_addStep_0 rfl (lv_at hl 0 rfl) ?_
  obtain ⟨r2, M1, e3, h⟩ := xm_b2_s h
  refine xm_callV C hP hS [] [] (c_X2_hasRoomForStep hD h0 n M  r2 M1 e3) k_X2_32 (xm_recv C hP o0 rfl (xp_lt h0 0 (by omega)) ((xp_0 h0 E a) _)) rfl rfl ⟨(Nat.le_of_ble_eq_true rfl), (Nat.le_of_ble_eq_true rfl)⟩ hl.1 (Nat.le_of_ble_eq_true rfl) ⟨Nat.zero_le _, Nat.zero_le _⟩ dX2_addStep_1 (fun H locs hP hS => ?_)
  change W p l e _ s m _ below meth c H locs 0 0 _ (F0 m 4 ls [.int r2])
  refine lv_if_ne (tgt := 8) hx hb dX2_addStep_4 (by decide) (fun c4 => ?_) (fun c4 => ?_)
  · rw [if_neg c4] at h
    refine lv_aload_n hx hb dX2_addStep_8 rfl (lv_at hl 0 rfl) ?_
    refine xm_get (V := (xv E a)) (T := TX2) (v := .ref (a (o0 + 1))) C hP o0 4 xi_2 rfl l_X2_24 rfl (xp_lt h0 0 (by omega)) ((xp_0 h0 E a) _) (Nat.le_of_ble_eq_true rfl) rfl dX2_addStep_9 ?_
    refine lv_aload_n hx hb dX2_addStep_12 rfl (lv_at hl 0 rfl) ?_
    refine xm_get (V := (xv E a)) (T := TX2) (v := .int (M1 o0 2)) C hP o0 2 xi_2 rfl l_X2_18 rfl (xp_lt h0 0 (by omega)) ((xp_0 h0 E a) _) (Nat.le_of_ble_eq_true rfl) rfl dX2_addStep_13 ?_
    refine lv_iload_n hx hb dX2_addStep_16 rfl (lv_at hl 1 rfl) ?_
    obtain ⟨b5, h⟩ := xm_ck_s h
    obtain ⟨M6, e7, h⟩ := xm_lt_s h
    refine xm_cast (V := (xv E a)) C hP hS (o0 + 1) 8 (xp_lt h0 1 (by omega)) (xp_1 h0 E a) b5 dX2_addStep_17 (fun H locs hP hS => ?_)
    rw [← e7] at hP
    refine lv_aload_n hx hb dX2_addStep_18 rfl (lv_at hl 0 rfl) ?_
    refine xm_get (V := (xv E a)) (T := TX2) (v := .ref (a (o0 + 2))) C hP o0 5 xi_2 rfl l_X2_28 rfl (xp_lt h0 0 (by omega)) ((xp_0 h0 E a) _) (Nat.le_of_ble_eq_true rfl) rfl dX2_addStep_19 ?_
    refine lv_aload_n hx hb dX2_addStep_22 rfl (lv_at hl 0 rfl) ?_
    refine xm_get (V := (xv E a)) (T := TX2) (v := .int (M6 o0 2)) C hP o0 2 xi_2 rfl l_X2_18 rfl (xp_lt h0 0 (by omega)) ((xp_0 h0 E a) _) (Nat.le_of_ble_eq_true rfl) rfl dX2_addStep_23 ?_
    refine lv_iload_n hx hb dX2_addStep_26 rfl (lv_at hl 2 rfl) ?_
    obtain ⟨b8, h⟩ := xm_ck_s h
    obtain ⟨M9, e10, h⟩ := xm_lt_s h
    refine xm_zast (V := (xv E a)) C hP hS (o0 + 2) 8 (xp_lt h0 2 (by omega)) (xp_2 h0 E a) b8 dX2_addStep_27 (fun H locs hP hS => ?_)
    rw [← e10] at hP
    refine lv_aload_n hx hb dX2_addStep_28 rfl (lv_at hl 0 rfl) ?_
    refine lv_dup hx hb dX2_addStep_29 rfl ?_
    refine xm_get (V := (xv E a)) (T := TX2) (v := .int (M9 o0 2)) C hP o0 2 xi_2 rfl l_X2_18 rfl (xp_lt h0 0 (by omega)) ((xp_0 h0 E a) _) (Nat.le_of_ble_eq_true rfl) rfl dX2_addStep_30 ?_
    refine lv_iconst (v := 1) hx hb dX2_addStep_33 (by decide) ?_
    refine lv_iadd hx hb dX2_addStep_34 ?_
    obtain ⟨M11, e12, h⟩ := xm_lt_s h
    refine xm_put (V := (xv E a)) (T := TX2) (ty := .int) (x := (M9 o0 2) + 1) C hP hS o0 2 xi_2 rfl l_X2_18 rfl tyX2_ok nmX2 (xp_lt h0 0 (by omega)) ((xp_0 h0 E a) _) (Nat.le_of_ble_eq_true rfl) rfl (by decide +kernel) rfl rfl (Nat.le_of_ble_eq_true rfl) ((xp_0 h0 E a) _) dX2_addStep_35 (fun H locs hP hS => ?_)
    rw [← e12] at hP
    refine lv_iload_n hx hb dX2_addStep_38 rfl (lv_at hl 2 rfl) ?_
    refine lv_if_ne (tgt := 52) hx hb dX2_addStep_39 (by decide) (fun c13 => ?_) (fun c13 => ?_)
    · rw [if_neg c13] at h
      cases xm_on h
      exact xm_retV C hP hS dX2_addStep_52
    · rw [if_pos c13] at h
      refine lv_aload_n hx hb dX2_addStep_42 rfl (lv_at hl 0 rfl) ?_
      refine lv_dup hx hb dX2_addStep_43 rfl ?_
      refine xm_get (V := (xv E a)) (T := TX2) (v := .int (M11 o0 3)) C hP o0 3 xi_2 rfl l_X2_21 rfl (xp_lt h0 0 (by omega)) ((xp_0 h0 E a) _) (Nat.le_of_ble_eq_true rfl) rfl dX2_addStep_44 ?_
      refine lv_iconst (v := 1) hx hb dX2_addStep_47 (by decide) ?_
      refine lv_iadd hx hb dX2_addStep_48 ?_
      obtain ⟨M14, e15, h⟩ := xm_lt_s h
      refine xm_put (V := (xv E a)) (T := TX2) (ty := .int) (x := (M11 o0 3) + 1) C hP hS o0 3 xi_2 rfl l_X2_21 rfl tyX2_ok nmX2 (xp_lt h0 0 (by omega)) ((xp_0 h0 E a) _) (Nat.le_of_ble_eq_true rfl) rfl (by decide +kernel) rfl rfl (Nat.le_of_ble_eq_true rfl) ((xp_0 h0 E a) _) dX2_addStep_49 (fun H locs hP hS => ?_)
      rw [← e15] at hP
      cases xm_on h
      exact xm_retV C hP hS dX2_addStep_52
  · rw [if_pos c4] at h
    cases xm_on h
    exact xm_retV C hP hS dX2_addStep_7
theorem c_X2_addStep {l : Launch} {E : xm_E} {a : Nat → Nat} (hD : xm_D (xv E a)) {o0 : Nat} (h0 : xm_Pa o0) (n : Nat) (M : xm_M) (x1 : Int32) (x2 : Int32) (M' : xm_M) (h : f_X2_addStep n M o0 x1 x2 = some M') : xm_Met l E (xv E a) yX2_addStep cX2_addStep 3 none 1 20 [.ref (a o0), .int x1, .int x2] M M' none :=
  xm_met (by decide +kernel) rfl (Nat.le_of_ble_eq_true rfl) hD (fun p e s m below meth c C hP ls hl => t_X2_addStep_0 C h0 n M x1 x2 M' h _ _ _ hP va_S.rf hl)
def f_X2_copyFrom_34 : Nat → xm_M → Nat → Nat → Int32 → Option xm_M
  | 0, _, _, _, _ => none
  | n + 1, M, o0, o1, x2 => if (8 : Int32) ≤ x2 then some M else xm_ck (xm_in x2 8) (xm_ck (xm_in x2 8) (xm_lt (xm_up M (o0 + 1) x2.toNatClampNeg (vp_nar .char (M (o1 + 1) x2.toNatClampNeg))) (fun M4 => xm_ck (xm_in x2 8) (xm_ck (xm_in x2 8) (xm_lt (xm_up M4 (o0 + 2) x2.toNatClampNeg (vp_nar .boolean (M4 (o1 + 2) x2.toNatClampNeg))) (fun M8 => f_X2_copyFrom_34 n M8 o0 o1 (x2 + 1)))))))
set_option maxHeartbeats 4000000 in
set_option maxRecDepth 100000 in
theorem t_X2_copyFrom_34 {l : Launch} {p : Program} {e : Env} {s : State} {m : MethodId} {args : Array Value} {below : List Frame} {meth : Method} {c : Code} {E : xm_E} {a : Nat → Nat} (C : xm_C E (xv E a) p s m args meth c RX2 cX2_copyFrom 3 none) {o0 : Nat} {o1 : Nat} (h0 : xm_Pa o0) (h1 : xm_Pa o1) : ∀ (n : Nat) (M : xm_M) (x2 : Int32) (M' : xm_M), f_X2_copyFrom_34 n M o0 o1 x2 = some M' → ∀ (H : Heap) (locs : List Loc) (ls : Array Slot), va_P E.1 vwCl (xm_w (xv E a) M) H → va_S (xm_A (xv E a) s.heap.size) s.heap H locs → lv_has ls 3 [(0, .ref (a o0)), (1, .ref (a o1)), (2, .int x2)] → W p l e { frames := 0, cells := 0, slots := 0, locals := 0 } s m args below meth c H locs 0 0 (MQ below (xm_Q E (xv E a) M' s.heap.size none) args s 0 0 (xm_A (xv E a) s.heap.size)) (F0 m 34 ls []) := by
  have C9 := C
  obtain ⟨hx, hb, hml, hown, hts, hr, hlk, hD, hK, hS9⟩ := C9
  intro n
  induction n with
  | zero =>
    intro M x2 M' h
    cases h
  | succ n ih =>
    intro M x2 M' h H locs ls hP hS hl
    rw [f_X2_copyFrom_34] at h
    refine lv_iload_n hx hb dX2_copyFrom_34 rfl (lv_at hl 2 rfl) ?_
    refine lv_bipush (v := 8) hx hb dX2_copyFrom_35 (by decide) ?_
    refine lv_icmp_ge (tgt := 70) hx hb dX2_copyFrom_37 (by decide) (fun c1 => ?_) (fun c1 => ?_)
    · rw [if_pos c1] at h
      cases xm_on h
      exact xm_retV C hP hS dX2_copyFrom_70
    · rw [if_neg c1] at h
      refine lv_aload_n hx hb dX2_copyFrom_40 rfl (lv_at hl 0 rfl) ?_
      refine xm_get (V := (xv E a)) (T := TX2) (v := .ref (a (o0 + 1))) C hP o0 4 xi_2 rfl l_X2_24 rfl (xp_lt h0 0 (by omega)) ((xp_0 h0 E a) _) (Nat.le_of_ble_eq_true rfl) rfl dX2_copyFrom_41 ?_
      refine lv_iload_n hx hb dX2_copyFrom_44 rfl (lv_at hl 2 rfl) ?_
      refine lv_aload_n hx hb dX2_copyFrom_45 rfl (lv_at hl 1 rfl) ?_
      refine xm_get (V := (xv E a)) (T := TX2) (v := .ref (a (o1 + 1))) C hP o1 4 xi_2 rfl l_X2_24 rfl (xp_lt h1 0 (by omega)) ((xp_0 h1 E a) _) (Nat.le_of_ble_eq_true rfl) rfl dX2_copyFrom_46 ?_
      refine lv_iload_n hx hb dX2_copyFrom_49 rfl (lv_at hl 2 rfl) ?_
      obtain ⟨b2, h⟩ := xm_ck_s h
      refine xm_cald (V := (xv E a)) C hP (o1 + 1) 8 (xp_lt h1 1 (by omega)) (xp_1 h1 E a) b2 dX2_copyFrom_50 ?_
      obtain ⟨b3, h⟩ := xm_ck_s h
      obtain ⟨M4, e5, h⟩ := xm_lt_s h
      refine xm_cast (V := (xv E a)) C hP hS (o0 + 1) 8 (xp_lt h0 1 (by omega)) (xp_1 h0 E a) b3 dX2_copyFrom_51 (fun H locs hP hS => ?_)
      rw [← e5] at hP
      refine lv_aload_n hx hb dX2_copyFrom_52 rfl (lv_at hl 0 rfl) ?_
      refine xm_get (V := (xv E a)) (T := TX2) (v := .ref (a (o0 + 2))) C hP o0 5 xi_2 rfl l_X2_28 rfl (xp_lt h0 0 (by omega)) ((xp_0 h0 E a) _) (Nat.le_of_ble_eq_true rfl) rfl dX2_copyFrom_53 ?_
      refine lv_iload_n hx hb dX2_copyFrom_56 rfl (lv_at hl 2 rfl) ?_
      refine lv_aload_n hx hb dX2_copyFrom_57 rfl (lv_at hl 1 rfl) ?_
      refine xm_get (V := (xv E a)) (T := TX2) (v := .ref (a (o1 + 2))) C hP o1 5 xi_2 rfl l_X2_28 rfl (xp_lt h1 0 (by omega)) ((xp_0 h1 E a) _) (Nat.le_of_ble_eq_true rfl) rfl dX2_copyFrom_58 ?_
      refine lv_iload_n hx hb dX2_copyFrom_61 rfl (lv_at hl 2 rfl) ?_
      obtain ⟨b6, h⟩ := xm_ck_s h
      refine xm_zald (V := (xv E a)) C hP (o1 + 2) 8 (xp_lt h1 2 (by omega)) (xp_2 h1 E a) b6 dX2_copyFrom_62 ?_
      obtain ⟨b7, h⟩ := xm_ck_s h
      obtain ⟨M8, e9, h⟩ := xm_lt_s h
      refine xm_zast (V := (xv E a)) C hP hS (o0 + 2) 8 (xp_lt h0 2 (by omega)) (xp_2 h0 E a) b7 dX2_copyFrom_63 (fun H locs hP hS => ?_)
      rw [← e9] at hP
      refine lv_iinc (v := x2 + 1) (lv' := [(2, .int (x2 + 1)), (0, .ref (a o0)), (1, .ref (a o1))]) hx hb dX2_copyFrom_64 hl (k := 2) rfl (xm_add (by decide)) (by decide) rfl (fun ls hl => ?_)
      refine lv_goto (tgt := 34) hx hb dX2_copyFrom_67 (by decide) ?_
      exact ih M8 (x2 + 1) M' h _ _ _ hP hS (lv_sub hl [1, 2, 0] rfl)
def f_X2_copyFrom (n : Nat) (M : xm_M) (o0 : Nat) (o1 : Nat) : Option xm_M := xm_lt (xm_up M o0 0 (M o1 0)) (fun M1 => xm_lt (xm_up M1 o0 1 (M1 o1 1)) (fun M3 => xm_lt (xm_up M3 o0 2 (M3 o1 2)) (fun M5 => xm_lt (xm_up M5 o0 3 (M5 o1 3)) (fun M7 => f_X2_copyFrom_34 n M7 o0 o1 0))))
set_option maxHeartbeats 4000000 in
set_option maxRecDepth 100000 in
theorem t_X2_copyFrom_0 {l : Launch} {p : Program} {e : Env} {s : State} {m : MethodId} {args : Array Value} {below : List Frame} {meth : Method} {c : Code} {E : xm_E} {a : Nat → Nat} (C : xm_C E (xv E a) p s m args meth c RX2 cX2_copyFrom 3 none) {o0 : Nat} {o1 : Nat} (h0 : xm_Pa o0) (h1 : xm_Pa o1) (n : Nat) (M : xm_M) (M' : xm_M) : f_X2_copyFrom n M o0 o1 = some M' → ∀ (H : Heap) (locs : List Loc) (ls : Array Slot), va_P E.1 vwCl (xm_w (xv E a) M) H → va_S (xm_A (xv E a) s.heap.size) s.heap H locs → lv_has ls 3 [(0, .ref (a o0)), (1, .ref (a o1))] → W p l e { frames := 0, cells := 0, slots := 0, locals := 0 } s m args below meth c H locs 0 0 (MQ below (xm_Q E (xv E a) M' s.heap.size none) args s 0 0 (xm_A (xv E a) s.heap.size)) (F0 m 0 ls []) := by
  have C9 := C
  obtain ⟨hx, hb, hml, hown, hts, hr, hlk, hD, hK, hS9⟩ := C9
  intro h H locs ls hP hS hl
  unfold f_X2_copyFrom at h
  refine lv_aload_n hx hb dX2_copyFrom_0 rfl (lv_at hl 0 rfl) ?_
  refine lv_aload_n hx hb dX2_copyFrom_1 rfl (lv_at hl 1 rfl) ?_
  refine xm_get (V := (xv E a)) (T := TX2) (v := .int (M o1 0)) C hP o1 0 xi_2 rfl l_X2_9 rfl (xp_lt h1 0 (by omega)) ((xp_0 h1 E a) _) (Nat.le_of_ble_eq_true rfl) rfl dX2_copyFrom_2 ?_
  obtain ⟨M1, e2, h⟩ := xm_lt_s h
  refine xm_put (V := (xv E a)) (T := TX2) (ty := .int) (x := M o1 0) C hP hS o0 0 xi_2 rfl l_X2_9 rfl tyX2_ok nmX2 (xp_lt h0 0 (by omega)) ((xp_0 h0 E a) _) (Nat.le_of_ble_eq_true rfl) rfl (by decide +kernel) rfl rfl (Nat.le_of_ble_eq_true rfl) ((xp_0 h0 E a) _) dX2_copyFrom_5 (fun H locs hP hS => ?_)
  rw [← e2] at hP
  refine lv_aload_n hx hb dX2_copyFrom_8 rfl (lv_at hl 0 rfl) ?_
  refine lv_aload_n hx hb dX2_copyFrom_9 rfl (lv_at hl 1 rfl) ?_
  refine xm_get (V := (xv E a)) (T := TX2) (v := .int (M1 o1 1)) C hP o1 1 xi_2 rfl l_X2_15 rfl (xp_lt h1 0 (by omega)) ((xp_0 h1 E a) _) (Nat.le_of_ble_eq_true rfl) rfl dX2_copyFrom_10 ?_
  obtain ⟨M3, e4, h⟩ := xm_lt_s h
  refine xm_put (V := (xv E a)) (T := TX2) (ty := .int) (x := M1 o1 1) C hP hS o0 1 xi_2 rfl l_X2_15 rfl tyX2_ok nmX2 (xp_lt h0 0 (by omega)) ((xp_0 h0 E a) _) (Nat.le_of_ble_eq_true rfl) rfl (by decide +kernel) rfl rfl (Nat.le_of_ble_eq_true rfl) ((xp_0 h0 E a) _) dX2_copyFrom_13 (fun H locs hP hS => ?_)
  rw [← e4] at hP
  refine lv_aload_n hx hb dX2_copyFrom_16 rfl (lv_at hl 0 rfl) ?_
  refine lv_aload_n hx hb dX2_copyFrom_17 rfl (lv_at hl 1 rfl) ?_
  refine xm_get (V := (xv E a)) (T := TX2) (v := .int (M3 o1 2)) C hP o1 2 xi_2 rfl l_X2_18 rfl (xp_lt h1 0 (by omega)) ((xp_0 h1 E a) _) (Nat.le_of_ble_eq_true rfl) rfl dX2_copyFrom_18 ?_
  obtain ⟨M5, e6, h⟩ := xm_lt_s h
  refine xm_put (V := (xv E a)) (T := TX2) (ty := .int) (x := M3 o1 2) C hP hS o0 2 xi_2 rfl l_X2_18 rfl tyX2_ok nmX2 (xp_lt h0 0 (by omega)) ((xp_0 h0 E a) _) (Nat.le_of_ble_eq_true rfl) rfl (by decide +kernel) rfl rfl (Nat.le_of_ble_eq_true rfl) ((xp_0 h0 E a) _) dX2_copyFrom_21 (fun H locs hP hS => ?_)
  rw [← e6] at hP
  refine lv_aload_n hx hb dX2_copyFrom_24 rfl (lv_at hl 0 rfl) ?_
  refine lv_aload_n hx hb dX2_copyFrom_25 rfl (lv_at hl 1 rfl) ?_
  refine xm_get (V := (xv E a)) (T := TX2) (v := .int (M5 o1 3)) C hP o1 3 xi_2 rfl l_X2_21 rfl (xp_lt h1 0 (by omega)) ((xp_0 h1 E a) _) (Nat.le_of_ble_eq_true rfl) rfl dX2_copyFrom_26 ?_
  obtain ⟨M7, e8, h⟩ := xm_lt_s h
  refine xm_put (V := (xv E a)) (T := TX2) (ty := .int) (x := M5 o1 3) C hP hS o0 3 xi_2 rfl l_X2_21 rfl tyX2_ok nmX2 (xp_lt h0 0 (by omega)) ((xp_0 h0 E a) _) (Nat.le_of_ble_eq_true rfl) rfl (by decide +kernel) rfl rfl (Nat.le_of_ble_eq_true rfl) ((xp_0 h0 E a) _) dX2_copyFrom_29 (fun H locs hP hS => ?_)
  rw [← e8] at hP
  refine lv_iconst (v := 0) hx hb dX2_copyFrom_32 (by decide) ?_
  refine lv_istore_n (lv' := [(2, .int 0), (0, .ref (a o0)), (1, .ref (a o1))]) hx hb dX2_copyFrom_33 rfl hl (by decide) rfl (fun ls hl => ?_)
  exact t_X2_copyFrom_34 C h0 h1 n M7 0 M' h _ _ _ hP hS (lv_sub hl [1, 2, 0] rfl)
theorem c_X2_copyFrom {l : Launch} {E : xm_E} {a : Nat → Nat} (hD : xm_D (xv E a)) {o0 : Nat} {o1 : Nat} (h0 : xm_Pa o0) (h1 : xm_Pa o1) (n : Nat) (M : xm_M) (M' : xm_M) (h : f_X2_copyFrom n M o0 o1 = some M') : xm_Met l E (xv E a) yX2_copyFrom cX2_copyFrom 3 none 0 0 [.ref (a o0), .ref (a o1)] M M' none :=
  xm_met (by decide +kernel) rfl (Nat.le_of_ble_eq_true rfl) hD (fun p e s m below meth c C hP ls hl => t_X2_copyFrom_0 C h0 h1 n M M' h _ _ _ hP va_S.rf hl)
end
section
theorem l_X4_9 : Cond.fieldLink RX4 9 "WindowMatches$State" "events" "I" ∈ xm_tb := xm_tb_of (List.mem_of_getElem? (i := 71) (by decide +kernel)) rfl
theorem l_X4_26 : Cond.fieldLink RX4 26 "WindowMatches$State" "newestTime" "I" ∈ xm_tb := xm_tb_of (List.mem_of_getElem? (i := 83) (by decide +kernel)) rfl
theorem l_X4_29 : Cond.fieldLink RX4 29 "WindowMatches$State" "lateness" "I" ∈ xm_tb := xm_tb_of (List.mem_of_getElem? (i := 86) (by decide +kernel)) rfl
theorem l_X4_32 : Cond.fieldLink RX4 32 "WindowMatches$State" "patternCount" "I" ∈ xm_tb := xm_tb_of (List.mem_of_getElem? (i := 88) (by decide +kernel)) rfl
theorem l_X4_15 : Cond.fieldLink RX4 15 "WindowMatches$State" "kinds" "[C" ∈ xm_tb := xm_tb_of (List.mem_of_getElem? (i := 74) (by decide +kernel)) rfl
theorem l_X4_19 : Cond.fieldLink RX4 19 "WindowMatches$State" "values" "[I" ∈ xm_tb := xm_tb_of (List.mem_of_getElem? (i := 77) (by decide +kernel)) rfl
theorem l_X4_23 : Cond.fieldLink RX4 23 "WindowMatches$State" "times" "[I" ∈ xm_tb := xm_tb_of (List.mem_of_getElem? (i := 80) (by decide +kernel)) rfl
theorem l_X4_37 : Cond.fieldLink RX4 37 "WindowMatches$State" "patterns" "[LWindowMatches$Pattern;" ∈ xm_tb := xm_tb_of (List.mem_of_getElem? (i := 91) (by decide +kernel)) rfl
theorem k_X4_42 : xm_FVN RX4 42 yX2_copyFrom "WindowMatches" cX2_copyFrom 3 none 1 := ⟨xm_tb_of (List.mem_of_getElem? (i := 363) (by decide +kernel)) rfl, xm_nest_of (List.mem_of_getElem? (i := 360) (by decide +kernel)) rfl, xm_tb_of (List.mem_of_getElem? (i := 362) (by decide +kernel)) rfl, xm_tb_sel (List.mem_of_getElem? (i := 16) (by decide +kernel)) rfl, xm_tb_of (List.mem_of_getElem? (i := 3) (by decide +kernel)) rfl, ⟨by decide +kernel, by decide +kernel, by decide +kernel⟩⟩
theorem k_X4_46 : Cond.methodLink RX4 46 Lib.Math.max.name ∈ xm_tb ∧ Cond.static Lib.Math.max.name ∈ xm_tb ∧ Cond.initialized "java/lang/Math" ∈ xm_tb ∧ Cond.code Lib.Math.max.name Lib.Math.max.code 2 (some .int) ∈ xm_tb := ⟨xm_tb_of (List.mem_of_getElem? (i := 290) (by decide +kernel)) rfl, xm_tb_of (List.mem_of_getElem? (i := 291) (by decide +kernel)) rfl, xm_tb_of (List.mem_of_getElem? (i := 8) (by decide +kernel)) rfl, xm_tb_of (List.mem_of_getElem? (i := 292) (by decide +kernel)) rfl⟩
theorem k_X4_52 : xm_FV RX4 52 yX4_putEvent cX4_putEvent 5 none 4 := ⟨xm_tb_of (List.mem_of_getElem? (i := 371) (by decide +kernel)) rfl, xm_tb_of (List.mem_of_getElem? (i := 368) (by decide +kernel)) rfl, xm_tb_of (List.mem_of_getElem? (i := 370) (by decide +kernel)) rfl, xm_tb_sel (List.mem_of_getElem? (i := 18) (by decide +kernel)) rfl, xm_tb_of (List.mem_of_getElem? (i := 2) (by decide +kernel)) rfl, ⟨by decide +kernel, by decide +kernel, by decide +kernel⟩⟩
theorem l_X0_21 : Cond.fieldLink RX0 21 "WindowMatches$History" "size" "I" ∈ xm_tb := xm_tb_of (List.mem_of_getElem? (i := 122) (by decide +kernel)) rfl
theorem l_X0_17 : Cond.fieldLink RX0 17 "WindowMatches$History" "oldest" "I" ∈ xm_tb := xm_tb_of (List.mem_of_getElem? (i := 121) (by decide +kernel)) rfl
theorem l_X0_11 : Cond.fieldLink RX0 11 "WindowMatches$History" "states" "[LWindowMatches$State;" ∈ xm_tb := xm_tb_of (List.mem_of_getElem? (i := 120) (by decide +kernel)) rfl
theorem k_X0_25 : xm_FVN RX0 25 yX4_copyFrom "WindowMatches" cX4_copyFrom 3 none 1 := ⟨xm_tb_of (List.mem_of_getElem? (i := 359) (by decide +kernel)) rfl, xm_nest_of (List.mem_of_getElem? (i := 356) (by decide +kernel)) rfl, xm_tb_of (List.mem_of_getElem? (i := 358) (by decide +kernel)) rfl, xm_tb_sel (List.mem_of_getElem? (i := 15) (by decide +kernel)) rfl, xm_tb_of (List.mem_of_getElem? (i := 2) (by decide +kernel)) rfl, ⟨by decide +kernel, by decide +kernel, by decide +kernel⟩⟩
def f_X4_copyFrom_86 : Nat → xm_M → Nat → Nat → Int32 → Option xm_M
  | 0, _, _, _, _ => none
  | n + 1, M, o0, o1, x2 => if (M o1 6) ≤ x2 then some M else xm_ck (xm_in x2 4) (xm_ck (xm_in x2 4) (xm_b1 (f_X2_copyFrom n M (o0 + 5 + 3 * x2.toNatClampNeg) (o1 + 5 + 3 * x2.toNatClampNeg)) (fun M4 => f_X4_copyFrom_86 n M4 o0 o1 (x2 + 1))))
set_option maxHeartbeats 4000000 in
set_option maxRecDepth 100000 in
theorem t_X4_copyFrom_86 {l : Launch} {p : Program} {e : Env} {s : State} {m : MethodId} {args : Array Value} {below : List Frame} {meth : Method} {c : Code} {E : xm_E} {a : Nat → Nat} (C : xm_C E (xv E a) p s m args meth c RX4 cX4_copyFrom 3 none) {o0 : Nat} {o1 : Nat} (h0 : xm_St o0) (h1 : xm_St o1) : ∀ (n : Nat) (M : xm_M) (x2 : Int32) (M' : xm_M), f_X4_copyFrom_86 n M o0 o1 x2 = some M' → ∀ (H : Heap) (locs : List Loc) (ls : Array Slot), va_P E.1 vwCl (xm_w (xv E a) M) H → va_S (xm_A (xv E a) s.heap.size) s.heap H locs → lv_has ls 3 [(0, .ref (a o0)), (1, .ref (a o1)), (2, .int x2)] → W p l e { frames := 1, cells := 0, slots := 0, locals := 22 } s m args below meth c H locs 0 0 (MQ below (xm_Q E (xv E a) M' s.heap.size none) args s 0 0 (xm_A (xv E a) s.heap.size)) (F0 m 86 ls []) := by
  have C9 := C
  obtain ⟨hx, hb, hml, hown, hts, hr, hlk, hD, hK, hS9⟩ := C9
  intro n
  induction n with
  | zero =>
    intro M x2 M' h
    cases h
  | succ n ih =>
    intro M x2 M' h H locs ls hP hS hl
    rw [f_X4_copyFrom_86] at h
    refine lv_iload_n hx hb dX4_copyFrom_86 rfl (lv_at hl 2 rfl) ?_
    refine lv_aload_n hx hb dX4_copyFrom_87 rfl (lv_at hl 1 rfl) ?_
    refine xm_get (V := (xv E a)) (T := TX4) (v := .int (M o1 6)) C hP o1 6 xi_4 rfl l_X4_32 rfl (xs_lt h1 0 (by omega)) ((xs_0 h1 E a) _) (Nat.le_of_ble_eq_true rfl) rfl dX4_copyFrom_88 ?_
    refine lv_icmp_ge (tgt := 115) hx hb dX4_copyFrom_91 (by decide) (fun c1 => ?_) (fun c1 => ?_)
    · rw [if_pos c1] at h
      cases xm_on h
      exact xm_retV C hP hS dX4_copyFrom_115
    · rw [if_neg c1] at h
      refine lv_aload_n hx hb dX4_copyFrom_94 rfl (lv_at hl 0 rfl) ?_
      refine xm_get (V := (xv E a)) (T := TX4) (v := .ref (a (o0 + 4))) C hP o0 7 xi_4 rfl l_X4_37 rfl (xs_lt h0 0 (by omega)) ((xs_0 h0 E a) _) (Nat.le_of_ble_eq_true rfl) rfl dX4_copyFrom_95 ?_
      refine lv_iload_n hx hb dX4_copyFrom_98 rfl (lv_at hl 2 rfl) ?_
      obtain ⟨b2, h⟩ := xm_ck_s h
      refine xm_aald (V := (xv E a)) (K := RX2) (v := a (o0 + 5 + 3 * x2.toNatClampNeg)) C hP (o0 + 4) 4 4 (xs_lt h0 4 (by omega)) (xs_4 h0 E a) rfl b2 (xo_rp_at b2) dX4_copyFrom_99 ?_
      refine lv_aload_n hx hb dX4_copyFrom_100 rfl (lv_at hl 1 rfl) ?_
      refine xm_get (V := (xv E a)) (T := TX4) (v := .ref (a (o1 + 4))) C hP o1 7 xi_4 rfl l_X4_37 rfl (xs_lt h1 0 (by omega)) ((xs_0 h1 E a) _) (Nat.le_of_ble_eq_true rfl) rfl dX4_copyFrom_101 ?_
      refine lv_iload_n hx hb dX4_copyFrom_104 rfl (lv_at hl 2 rfl) ?_
      obtain ⟨b3, h⟩ := xm_ck_s h
      refine xm_aald (V := (xv E a)) (K := RX2) (v := a (o1 + 5 + 3 * x2.toNatClampNeg)) C hP (o1 + 4) 4 4 (xs_lt h1 4 (by omega)) (xs_4 h1 E a) rfl b3 (xo_rp_at b3) dX4_copyFrom_105 ?_
      obtain ⟨M4, e6, h⟩ := xm_b1_s h
      refine xm_callVN C hP hS [.ref (a (o1 + 5 + 3 * x2.toNatClampNeg))] [] (c_X2_copyFrom hD (xp_s h0 b2) (xp_s h1 b3) n M  M4 e6) k_X4_42 (xm_recv C hP (o0 + 5 + 3 * x2.toNatClampNeg) rfl (xp_lt (xp_s h0 b2) 0 (by omega)) ((xp_0 (xp_s h0 b2) E a) _)) rfl rfl ⟨(Nat.le_of_ble_eq_true rfl), (Nat.le_of_ble_eq_true rfl)⟩ hl.1 (Nat.le_of_ble_eq_true rfl) ⟨Nat.zero_le _, Nat.zero_le _⟩ dX4_copyFrom_106 (fun H locs hP hS => ?_)
      change W p l e _ s m _ below meth c H locs 0 0 _ (F0 m 109 ls [])
      refine lv_iinc (v := x2 + 1) (lv' := [(2, .int (x2 + 1)), (0, .ref (a o0)), (1, .ref (a o1))]) hx hb dX4_copyFrom_109 hl (k := 2) rfl (xm_add (by decide)) (by decide) rfl (fun ls hl => ?_)
      refine lv_goto (tgt := 86) hx hb dX4_copyFrom_112 (by decide) ?_
      exact ih M4 (x2 + 1) M' h _ _ _ hP hS (lv_sub hl [1, 2, 0] rfl)
def f_X4_copyFrom_10 : Nat → xm_M → Nat → Nat → Int32 → Option xm_M
  | 0, _, _, _, _ => none
  | n + 1, M, o0, o1, x2 => if (M o1 0) ≤ x2 then xm_lt (xm_up M o0 4 (M o1 4)) (fun M2 => xm_lt (xm_up M2 o0 5 (M2 o1 5)) (fun M4 => xm_lt (xm_up M4 o0 6 (M4 o1 6)) (fun M6 => f_X4_copyFrom_86 n M6 o0 o1 0))) else xm_ck (xm_in x2 24) (xm_ck (xm_in x2 24) (xm_lt (xm_up M (o0 + 1) x2.toNatClampNeg (vp_nar .char (M (o1 + 1) x2.toNatClampNeg))) (fun M10 => xm_ck (xm_in x2 24) (xm_ck (xm_in x2 24) (xm_lt (xm_up M10 (o0 + 2) x2.toNatClampNeg (M10 (o1 + 2) x2.toNatClampNeg)) (fun M14 => xm_ck (xm_in x2 24) (xm_ck (xm_in x2 24) (xm_lt (xm_up M14 (o0 + 3) x2.toNatClampNeg (M14 (o1 + 3) x2.toNatClampNeg)) (fun M18 => f_X4_copyFrom_10 n M18 o0 o1 (x2 + 1))))))))))
set_option maxHeartbeats 4000000 in
set_option maxRecDepth 100000 in
theorem t_X4_copyFrom_10 {l : Launch} {p : Program} {e : Env} {s : State} {m : MethodId} {args : Array Value} {below : List Frame} {meth : Method} {c : Code} {E : xm_E} {a : Nat → Nat} (C : xm_C E (xv E a) p s m args meth c RX4 cX4_copyFrom 3 none) {o0 : Nat} {o1 : Nat} (h0 : xm_St o0) (h1 : xm_St o1) : ∀ (n : Nat) (M : xm_M) (x2 : Int32) (M' : xm_M), f_X4_copyFrom_10 n M o0 o1 x2 = some M' → ∀ (H : Heap) (locs : List Loc) (ls : Array Slot), va_P E.1 vwCl (xm_w (xv E a) M) H → va_S (xm_A (xv E a) s.heap.size) s.heap H locs → lv_has ls 3 [(0, .ref (a o0)), (1, .ref (a o1)), (2, .int x2)] → W p l e { frames := 1, cells := 0, slots := 0, locals := 22 } s m args below meth c H locs 0 0 (MQ below (xm_Q E (xv E a) M' s.heap.size none) args s 0 0 (xm_A (xv E a) s.heap.size)) (F0 m 10 ls []) := by
  have C9 := C
  obtain ⟨hx, hb, hml, hown, hts, hr, hlk, hD, hK, hS9⟩ := C9
  intro n
  induction n with
  | zero =>
    intro M x2 M' h
    cases h
  | succ n ih =>
    intro M x2 M' h H locs ls hP hS hl
    rw [f_X4_copyFrom_10] at h
    refine lv_iload_n hx hb dX4_copyFrom_10 rfl (lv_at hl 2 rfl) ?_
    refine lv_aload_n hx hb dX4_copyFrom_11 rfl (lv_at hl 1 rfl) ?_
    refine xm_get (V := (xv E a)) (T := TX4) (v := .int (M o1 0)) C hP o1 0 xi_4 rfl l_X4_9 rfl (xs_lt h1 0 (by omega)) ((xs_0 h1 E a) _) (Nat.le_of_ble_eq_true rfl) rfl dX4_copyFrom_12 ?_
    refine lv_icmp_ge (tgt := 60) hx hb dX4_copyFrom_15 (by decide) (fun c1 => ?_) (fun c1 => ?_)
    · rw [if_pos c1] at h
      refine lv_aload_n hx hb dX4_copyFrom_60 rfl (lv_at hl 0 rfl) ?_
      refine lv_aload_n hx hb dX4_copyFrom_61 rfl (lv_at hl 1 rfl) ?_
      refine xm_get (V := (xv E a)) (T := TX4) (v := .int (M o1 4)) C hP o1 4 xi_4 rfl l_X4_26 rfl (xs_lt h1 0 (by omega)) ((xs_0 h1 E a) _) (Nat.le_of_ble_eq_true rfl) rfl dX4_copyFrom_62 ?_
      obtain ⟨M2, e3, h⟩ := xm_lt_s h
      refine xm_put (V := (xv E a)) (T := TX4) (ty := .int) (x := M o1 4) C hP hS o0 4 xi_4 rfl l_X4_26 rfl tyX4_ok nmX4 (xs_lt h0 0 (by omega)) ((xs_0 h0 E a) _) (Nat.le_of_ble_eq_true rfl) rfl (by decide +kernel) rfl rfl (Nat.le_of_ble_eq_true rfl) ((xs_0 h0 E a) _) dX4_copyFrom_65 (fun H locs hP hS => ?_)
      rw [← e3] at hP
      refine lv_aload_n hx hb dX4_copyFrom_68 rfl (lv_at hl 0 rfl) ?_
      refine lv_aload_n hx hb dX4_copyFrom_69 rfl (lv_at hl 1 rfl) ?_
      refine xm_get (V := (xv E a)) (T := TX4) (v := .int (M2 o1 5)) C hP o1 5 xi_4 rfl l_X4_29 rfl (xs_lt h1 0 (by omega)) ((xs_0 h1 E a) _) (Nat.le_of_ble_eq_true rfl) rfl dX4_copyFrom_70 ?_
      obtain ⟨M4, e5, h⟩ := xm_lt_s h
      refine xm_put (V := (xv E a)) (T := TX4) (ty := .int) (x := M2 o1 5) C hP hS o0 5 xi_4 rfl l_X4_29 rfl tyX4_ok nmX4 (xs_lt h0 0 (by omega)) ((xs_0 h0 E a) _) (Nat.le_of_ble_eq_true rfl) rfl (by decide +kernel) rfl rfl (Nat.le_of_ble_eq_true rfl) ((xs_0 h0 E a) _) dX4_copyFrom_73 (fun H locs hP hS => ?_)
      rw [← e5] at hP
      refine lv_aload_n hx hb dX4_copyFrom_76 rfl (lv_at hl 0 rfl) ?_
      refine lv_aload_n hx hb dX4_copyFrom_77 rfl (lv_at hl 1 rfl) ?_
      refine xm_get (V := (xv E a)) (T := TX4) (v := .int (M4 o1 6)) C hP o1 6 xi_4 rfl l_X4_32 rfl (xs_lt h1 0 (by omega)) ((xs_0 h1 E a) _) (Nat.le_of_ble_eq_true rfl) rfl dX4_copyFrom_78 ?_
      obtain ⟨M6, e7, h⟩ := xm_lt_s h
      refine xm_put (V := (xv E a)) (T := TX4) (ty := .int) (x := M4 o1 6) C hP hS o0 6 xi_4 rfl l_X4_32 rfl tyX4_ok nmX4 (xs_lt h0 0 (by omega)) ((xs_0 h0 E a) _) (Nat.le_of_ble_eq_true rfl) rfl (by decide +kernel) rfl rfl (Nat.le_of_ble_eq_true rfl) ((xs_0 h0 E a) _) dX4_copyFrom_81 (fun H locs hP hS => ?_)
      rw [← e7] at hP
      refine lv_iconst (v := 0) hx hb dX4_copyFrom_84 (by decide) ?_
      refine lv_istore_n (lv' := [(2, .int 0), (0, .ref (a o0)), (1, .ref (a o1))]) hx hb dX4_copyFrom_85 rfl hl (by decide) rfl (fun ls hl => ?_)
      exact t_X4_copyFrom_86 C h0 h1 n M6 0 M' h _ _ _ hP hS (lv_sub hl [1, 2, 0] rfl)
    · rw [if_neg c1] at h
      refine lv_aload_n hx hb dX4_copyFrom_18 rfl (lv_at hl 0 rfl) ?_
      refine xm_get (V := (xv E a)) (T := TX4) (v := .ref (a (o0 + 1))) C hP o0 1 xi_4 rfl l_X4_15 rfl (xs_lt h0 0 (by omega)) ((xs_0 h0 E a) _) (Nat.le_of_ble_eq_true rfl) rfl dX4_copyFrom_19 ?_
      refine lv_iload_n hx hb dX4_copyFrom_22 rfl (lv_at hl 2 rfl) ?_
      refine lv_aload_n hx hb dX4_copyFrom_23 rfl (lv_at hl 1 rfl) ?_
      refine xm_get (V := (xv E a)) (T := TX4) (v := .ref (a (o1 + 1))) C hP o1 1 xi_4 rfl l_X4_15 rfl (xs_lt h1 0 (by omega)) ((xs_0 h1 E a) _) (Nat.le_of_ble_eq_true rfl) rfl dX4_copyFrom_24 ?_
      refine lv_iload_n hx hb dX4_copyFrom_27 rfl (lv_at hl 2 rfl) ?_
      obtain ⟨b8, h⟩ := xm_ck_s h
      refine xm_cald (V := (xv E a)) C hP (o1 + 1) 24 (xs_lt h1 1 (by omega)) (xs_1 h1 E a) b8 dX4_copyFrom_28 ?_
      obtain ⟨b9, h⟩ := xm_ck_s h
      obtain ⟨M10, e11, h⟩ := xm_lt_s h
      refine xm_cast (V := (xv E a)) C hP hS (o0 + 1) 24 (xs_lt h0 1 (by omega)) (xs_1 h0 E a) b9 dX4_copyFrom_29 (fun H locs hP hS => ?_)
      rw [← e11] at hP
      refine lv_aload_n hx hb dX4_copyFrom_30 rfl (lv_at hl 0 rfl) ?_
      refine xm_get (V := (xv E a)) (T := TX4) (v := .ref (a (o0 + 2))) C hP o0 2 xi_4 rfl l_X4_19 rfl (xs_lt h0 0 (by omega)) ((xs_0 h0 E a) _) (Nat.le_of_ble_eq_true rfl) rfl dX4_copyFrom_31 ?_
      refine lv_iload_n hx hb dX4_copyFrom_34 rfl (lv_at hl 2 rfl) ?_
      refine lv_aload_n hx hb dX4_copyFrom_35 rfl (lv_at hl 1 rfl) ?_
      refine xm_get (V := (xv E a)) (T := TX4) (v := .ref (a (o1 + 2))) C hP o1 2 xi_4 rfl l_X4_19 rfl (xs_lt h1 0 (by omega)) ((xs_0 h1 E a) _) (Nat.le_of_ble_eq_true rfl) rfl dX4_copyFrom_36 ?_
      refine lv_iload_n hx hb dX4_copyFrom_39 rfl (lv_at hl 2 rfl) ?_
      obtain ⟨b12, h⟩ := xm_ck_s h
      refine xm_iald (V := (xv E a)) C hP (o1 + 2) 24 (xs_lt h1 2 (by omega)) (xs_2 h1 E a) b12 dX4_copyFrom_40 ?_
      obtain ⟨b13, h⟩ := xm_ck_s h
      obtain ⟨M14, e15, h⟩ := xm_lt_s h
      refine xm_iast (V := (xv E a)) C hP hS (o0 + 2) 24 (xs_lt h0 2 (by omega)) (xs_2 h0 E a) b13 dX4_copyFrom_41 (fun H locs hP hS => ?_)
      rw [← e15] at hP
      refine lv_aload_n hx hb dX4_copyFrom_42 rfl (lv_at hl 0 rfl) ?_
      refine xm_get (V := (xv E a)) (T := TX4) (v := .ref (a (o0 + 3))) C hP o0 3 xi_4 rfl l_X4_23 rfl (xs_lt h0 0 (by omega)) ((xs_0 h0 E a) _) (Nat.le_of_ble_eq_true rfl) rfl dX4_copyFrom_43 ?_
      refine lv_iload_n hx hb dX4_copyFrom_46 rfl (lv_at hl 2 rfl) ?_
      refine lv_aload_n hx hb dX4_copyFrom_47 rfl (lv_at hl 1 rfl) ?_
      refine xm_get (V := (xv E a)) (T := TX4) (v := .ref (a (o1 + 3))) C hP o1 3 xi_4 rfl l_X4_23 rfl (xs_lt h1 0 (by omega)) ((xs_0 h1 E a) _) (Nat.le_of_ble_eq_true rfl) rfl dX4_copyFrom_48 ?_
      refine lv_iload_n hx hb dX4_copyFrom_51 rfl (lv_at hl 2 rfl) ?_
      obtain ⟨b16, h⟩ := xm_ck_s h
      refine xm_iald (V := (xv E a)) C hP (o1 + 3) 24 (xs_lt h1 3 (by omega)) (xs_3 h1 E a) b16 dX4_copyFrom_52 ?_
      obtain ⟨b17, h⟩ := xm_ck_s h
      obtain ⟨M18, e19, h⟩ := xm_lt_s h
      refine xm_iast (V := (xv E a)) C hP hS (o0 + 3) 24 (xs_lt h0 3 (by omega)) (xs_3 h0 E a) b17 dX4_copyFrom_53 (fun H locs hP hS => ?_)
      rw [← e19] at hP
      refine lv_iinc (v := x2 + 1) (lv' := [(2, .int (x2 + 1)), (0, .ref (a o0)), (1, .ref (a o1))]) hx hb dX4_copyFrom_54 hl (k := 2) rfl (xm_add (by decide)) (by decide) rfl (fun ls hl => ?_)
      refine lv_goto (tgt := 10) hx hb dX4_copyFrom_57 (by decide) ?_
      exact ih M18 (x2 + 1) M' h _ _ _ hP hS (lv_sub hl [1, 2, 0] rfl)
def f_X4_copyFrom (n : Nat) (M : xm_M) (o0 : Nat) (o1 : Nat) : Option xm_M := xm_lt (xm_up M o0 0 (M o1 0)) (fun M1 => f_X4_copyFrom_10 n M1 o0 o1 0)
set_option maxHeartbeats 4000000 in
set_option maxRecDepth 100000 in
theorem t_X4_copyFrom_0 {l : Launch} {p : Program} {e : Env} {s : State} {m : MethodId} {args : Array Value} {below : List Frame} {meth : Method} {c : Code} {E : xm_E} {a : Nat → Nat} (C : xm_C E (xv E a) p s m args meth c RX4 cX4_copyFrom 3 none) {o0 : Nat} {o1 : Nat} (h0 : xm_St o0) (h1 : xm_St o1) (n : Nat) (M : xm_M) (M' : xm_M) : f_X4_copyFrom n M o0 o1 = some M' → ∀ (H : Heap) (locs : List Loc) (ls : Array Slot), va_P E.1 vwCl (xm_w (xv E a) M) H → va_S (xm_A (xv E a) s.heap.size) s.heap H locs → lv_has ls 3 [(0, .ref (a o0)), (1, .ref (a o1))] → W p l e { frames := 1, cells := 0, slots := 0, locals := 22 } s m args below meth c H locs 0 0 (MQ below (xm_Q E (xv E a) M' s.heap.size none) args s 0 0 (xm_A (xv E a) s.heap.size)) (F0 m 0 ls []) := by
  have C9 := C
  obtain ⟨hx, hb, hml, hown, hts, hr, hlk, hD, hK, hS9⟩ := C9
  intro h H locs ls hP hS hl
  unfold f_X4_copyFrom at h
  refine lv_aload_n hx hb dX4_copyFrom_0 rfl (lv_at hl 0 rfl) ?_
  refine lv_aload_n hx hb dX4_copyFrom_1 rfl (lv_at hl 1 rfl) ?_
  refine xm_get (V := (xv E a)) (T := TX4) (v := .int (M o1 0)) C hP o1 0 xi_4 rfl l_X4_9 rfl (xs_lt h1 0 (by omega)) ((xs_0 h1 E a) _) (Nat.le_of_ble_eq_true rfl) rfl dX4_copyFrom_2 ?_
  obtain ⟨M1, e2, h⟩ := xm_lt_s h
  refine xm_put (V := (xv E a)) (T := TX4) (ty := .int) (x := M o1 0) C hP hS o0 0 xi_4 rfl l_X4_9 rfl tyX4_ok nmX4 (xs_lt h0 0 (by omega)) ((xs_0 h0 E a) _) (Nat.le_of_ble_eq_true rfl) rfl (by decide +kernel) rfl rfl (Nat.le_of_ble_eq_true rfl) ((xs_0 h0 E a) _) dX4_copyFrom_5 (fun H locs hP hS => ?_)
  rw [← e2] at hP
  refine lv_iconst (v := 0) hx hb dX4_copyFrom_8 (by decide) ?_
  refine lv_istore_n (lv' := [(2, .int 0), (0, .ref (a o0)), (1, .ref (a o1))]) hx hb dX4_copyFrom_9 rfl hl (by decide) rfl (fun ls hl => ?_)
  exact t_X4_copyFrom_10 C h0 h1 n M1 0 M' h _ _ _ hP hS (lv_sub hl [1, 2, 0] rfl)
theorem c_X4_copyFrom {l : Launch} {E : xm_E} {a : Nat → Nat} (hD : xm_D (xv E a)) {o0 : Nat} {o1 : Nat} (h0 : xm_St o0) (h1 : xm_St o1) (n : Nat) (M : xm_M) (M' : xm_M) (h : f_X4_copyFrom n M o0 o1 = some M') : xm_Met l E (xv E a) yX4_copyFrom cX4_copyFrom 3 none 1 22 [.ref (a o0), .ref (a o1)] M M' none :=
  xm_met (by decide +kernel) rfl (Nat.le_of_ble_eq_true rfl) hD (fun p e s m below meth c C hP ls hl => t_X4_copyFrom_0 C h0 h1 n M M' h _ _ _ hP va_S.rf hl)
def f_X4_watermark (n : Nat) (M : xm_M) (o0 : Nat) : Option (Int32 × xm_M) := some ((if (0 : Int32) < ((M o0 4) - (M o0 5)) then ((M o0 4) - (M o0 5)) else 0), M)
set_option maxHeartbeats 4000000 in
set_option maxRecDepth 100000 in
theorem t_X4_watermark_0 {l : Launch} {p : Program} {e : Env} {s : State} {m : MethodId} {args : Array Value} {below : List Frame} {meth : Method} {c : Code} {E : xm_E} {a : Nat → Nat} (C : xm_C E (xv E a) p s m args meth c RX4 cX4_watermark 1 (some .int)) {o0 : Nat} (h0 : xm_St o0) (n : Nat) (M : xm_M) (r : Int32) (M' : xm_M) : f_X4_watermark n M o0 = some (r, M') → ∀ (H : Heap) (locs : List Loc) (ls : Array Slot), va_P E.1 vwCl (xm_w (xv E a) M) H → va_S (xm_A (xv E a) s.heap.size) s.heap H locs → lv_has ls 1 [(0, .ref (a o0))] → W p l e { frames := 1, cells := 0, slots := 0, locals := 21 } s m args below meth c H locs 0 0 (MQ below (xm_Q E (xv E a) M' s.heap.size (some r)) args s 0 0 (xm_A (xv E a) s.heap.size)) (F0 m 0 ls []) := by
  have C9 := C
  obtain ⟨hx, hb, hml, hown, hts, hr, hlk, hD, hK, hS9⟩ := C9
  intro h H locs ls hP hS hl
  unfold f_X4_watermark at h
  refine lv_iconst (v := 0) hx hb dX4_watermark_0 (by decide) ?_
  refine lv_aload_n hx hb dX4_watermark_1 rfl (lv_at hl 0 rfl) ?_
  refine xm_get (V := (xv E a)) (T := TX4) (v := .int (M o0 4)) C hP o0 4 xi_4 rfl l_X4_26 rfl (xs_lt h0 0 (by omega)) ((xs_0 h0 E a) _) (Nat.le_of_ble_eq_true rfl) rfl dX4_watermark_2 ?_
  refine lv_aload_n hx hb dX4_watermark_5 rfl (lv_at hl 0 rfl) ?_
  refine xm_get (V := (xv E a)) (T := TX4) (v := .int (M o0 5)) C hP o0 5 xi_4 rfl l_X4_29 rfl (xs_lt h0 0 (by omega)) ((xs_0 h0 E a) _) (Nat.le_of_ble_eq_true rfl) rfl dX4_watermark_6 ?_
  refine lv_isub hx hb dX4_watermark_9 ?_
  refine xm_max C k_X4_46 (rest := []) (Nat.le_of_ble_eq_true rfl) (Nat.le_of_ble_eq_true rfl) hl.1 (Nat.zero_le _) (Nat.zero_le _) dX4_watermark_10 ?_
  obtain ⟨rfl, rfl⟩ := xm_pr h
  exact xm_retI C hP hS dX4_watermark_13
theorem c_X4_watermark {l : Launch} {E : xm_E} {a : Nat → Nat} (hD : xm_D (xv E a)) {o0 : Nat} (h0 : xm_St o0) (n : Nat) (M : xm_M) (r : Int32) (M' : xm_M) (h : f_X4_watermark n M o0 = some (r, M')) : xm_Met l E (xv E a) yX4_watermark cX4_watermark 1 (some .int) 1 21 [.ref (a o0)] M M' (some r) :=
  xm_met (by decide +kernel) rfl (Nat.le_of_ble_eq_true rfl) hD (fun p e s m below meth c C hP ls hl => t_X4_watermark_0 C h0 n M r M' h _ _ _ hP va_S.rf hl)
def f_X4_putEvent (n : Nat) (M : xm_M) (o0 : Nat) (x1 : Int32) (x2 : Int32) (x3 : Int32) (x4 : Int32) : Option xm_M := xm_ck (xm_in x1 24) (xm_lt (xm_up M (o0 + 1) x1.toNatClampNeg (vp_nar .char x2)) (fun M2 => xm_ck (xm_in x1 24) (xm_lt (xm_up M2 (o0 + 2) x1.toNatClampNeg x3) (fun M5 => xm_ck (xm_in x1 24) (xm_lt (xm_up M5 (o0 + 3) x1.toNatClampNeg x4) (fun M8 => some M8))))))
set_option maxHeartbeats 4000000 in
set_option maxRecDepth 100000 in
theorem t_X4_putEvent_0 {l : Launch} {p : Program} {e : Env} {s : State} {m : MethodId} {args : Array Value} {below : List Frame} {meth : Method} {c : Code} {E : xm_E} {a : Nat → Nat} (C : xm_C E (xv E a) p s m args meth c RX4 cX4_putEvent 5 none) {o0 : Nat} (h0 : xm_St o0) (n : Nat) (M : xm_M) (x1 : Int32) (x2 : Int32) (x3 : Int32) (x4 : Int32) (M' : xm_M) : f_X4_putEvent n M o0 x1 x2 x3 x4 = some M' → ∀ (H : Heap) (locs : List Loc) (ls : Array Slot), va_P E.1 vwCl (xm_w (xv E a) M) H → va_S (xm_A (xv E a) s.heap.size) s.heap H locs → lv_has ls 5 [(0, .ref (a o0)), (1, .int x1), (2, .int x2), (3, .int x3), (4, .int x4)] → W p l e { frames := 0, cells := 0, slots := 0, locals := 0 } s m args below meth c H locs 0 0 (MQ below (xm_Q E (xv E a) M' s.heap.size none) args s 0 0 (xm_A (xv E a) s.heap.size)) (F0 m 0 ls []) := by
  have C9 := C
  obtain ⟨hx, hb, hml, hown, hts, hr, hlk, hD, hK, hS9⟩ := C9
  intro h H locs ls hP hS hl
  unfold f_X4_putEvent at h
  refine lv_aload_n hx hb dX4_putEvent_0 rfl (lv_at hl 0 rfl) ?_
  refine xm_get (V := (xv E a)) (T := TX4) (v := .ref (a (o0 + 1))) C hP o0 1 xi_4 rfl l_X4_15 rfl (xs_lt h0 0 (by omega)) ((xs_0 h0 E a) _) (Nat.le_of_ble_eq_true rfl) rfl dX4_putEvent_1 ?_
  refine lv_iload_n hx hb dX4_putEvent_4 rfl (lv_at hl 1 rfl) ?_
  refine lv_iload_n hx hb dX4_putEvent_5 rfl (lv_at hl 2 rfl) ?_
  obtain ⟨b1, h⟩ := xm_ck_s h
  obtain ⟨M2, e3, h⟩ := xm_lt_s h
  refine xm_cast (V := (xv E a)) C hP hS (o0 + 1) 24 (xs_lt h0 1 (by omega)) (xs_1 h0 E a) b1 dX4_putEvent_6 (fun H locs hP hS => ?_)
  rw [← e3] at hP
  refine lv_aload_n hx hb dX4_putEvent_7 rfl (lv_at hl 0 rfl) ?_
  refine xm_get (V := (xv E a)) (T := TX4) (v := .ref (a (o0 + 2))) C hP o0 2 xi_4 rfl l_X4_19 rfl (xs_lt h0 0 (by omega)) ((xs_0 h0 E a) _) (Nat.le_of_ble_eq_true rfl) rfl dX4_putEvent_8 ?_
  refine lv_iload_n hx hb dX4_putEvent_11 rfl (lv_at hl 1 rfl) ?_
  refine lv_iload_n hx hb dX4_putEvent_12 rfl (lv_at hl 3 rfl) ?_
  obtain ⟨b4, h⟩ := xm_ck_s h
  obtain ⟨M5, e6, h⟩ := xm_lt_s h
  refine xm_iast (V := (xv E a)) C hP hS (o0 + 2) 24 (xs_lt h0 2 (by omega)) (xs_2 h0 E a) b4 dX4_putEvent_13 (fun H locs hP hS => ?_)
  rw [← e6] at hP
  refine lv_aload_n hx hb dX4_putEvent_14 rfl (lv_at hl 0 rfl) ?_
  refine xm_get (V := (xv E a)) (T := TX4) (v := .ref (a (o0 + 3))) C hP o0 3 xi_4 rfl l_X4_23 rfl (xs_lt h0 0 (by omega)) ((xs_0 h0 E a) _) (Nat.le_of_ble_eq_true rfl) rfl dX4_putEvent_15 ?_
  refine lv_iload_n hx hb dX4_putEvent_18 rfl (lv_at hl 1 rfl) ?_
  refine lv_iload hx hb dX4_putEvent_19 (lv_at hl 4 rfl) ?_
  obtain ⟨b7, h⟩ := xm_ck_s h
  obtain ⟨M8, e9, h⟩ := xm_lt_s h
  refine xm_iast (V := (xv E a)) C hP hS (o0 + 3) 24 (xs_lt h0 3 (by omega)) (xs_3 h0 E a) b7 dX4_putEvent_21 (fun H locs hP hS => ?_)
  rw [← e9] at hP
  cases xm_on h
  exact xm_retV C hP hS dX4_putEvent_22
theorem c_X4_putEvent {l : Launch} {E : xm_E} {a : Nat → Nat} (hD : xm_D (xv E a)) {o0 : Nat} (h0 : xm_St o0) (n : Nat) (M : xm_M) (x1 : Int32) (x2 : Int32) (x3 : Int32) (x4 : Int32) (M' : xm_M) (h : f_X4_putEvent n M o0 x1 x2 x3 x4 = some M') : xm_Met l E (xv E a) yX4_putEvent cX4_putEvent 5 none 0 0 [.ref (a o0), .int x1, .int x2, .int x3, .int x4] M M' none :=
  xm_met (by decide +kernel) rfl (Nat.le_of_ble_eq_true rfl) hD (fun p e s m below meth c C hP ls hl => t_X4_putEvent_0 C h0 n M x1 x2 x3 x4 M' h _ _ _ hP va_S.rf hl)
def f_X4_addEvent (n : Nat) (M : xm_M) (o0 : Nat) (x1 : Int32) (x2 : Int32) (x3 : Int32) : Option (Int32 × xm_M) := if (M o0 0) < 24 then xm_b1 (f_X4_putEvent n M o0 (M o0 0) x1 x2 x3) (fun M2 => xm_lt (xm_up M2 o0 0 ((M2 o0 0) + 1)) (fun M5 => xm_lt (xm_up M5 o0 4 ((if (M5 o0 4) < x3 then x3 else (M5 o0 4)))) (fun M7 => some (M o0 0, M7)))) else some ((-3), M)
set_option maxHeartbeats 4000000 in
set_option maxRecDepth 100000 in
theorem t_X4_addEvent_0 {l : Launch} {p : Program} {e : Env} {s : State} {m : MethodId} {args : Array Value} {below : List Frame} {meth : Method} {c : Code} {E : xm_E} {a : Nat → Nat} (C : xm_C E (xv E a) p s m args meth c RX4 cX4_addEvent 5 (some .int)) {o0 : Nat} (h0 : xm_St o0) (n : Nat) (M : xm_M) (x1 : Int32) (x2 : Int32) (x3 : Int32) (r : Int32) (M' : xm_M) : f_X4_addEvent n M o0 x1 x2 x3 = some (r, M') → ∀ (H : Heap) (locs : List Loc) (ls : Array Slot), va_P E.1 vwCl (xm_w (xv E a) M) H → va_S (xm_A (xv E a) s.heap.size) s.heap H locs → lv_has ls 5 [(0, .ref (a o0)), (1, .int x1), (2, .int x2), (3, .int x3)] → W p l e { frames := 1, cells := 0, slots := 0, locals := 24 } s m args below meth c H locs 0 0 (MQ below (xm_Q E (xv E a) M' s.heap.size (some r)) args s 0 0 (xm_A (xv E a) s.heap.size)) (F0 m 0 ls []) := by
  have C9 := C
  obtain ⟨hx, hb, hml, hown, hts, hr, hlk, hD, hK, hS9⟩ := C9
  intro h H locs ls hP hS hl
  unfold f_X4_addEvent at h
  refine lv_aload_n hx hb dX4_addEvent_0 rfl (lv_at hl 0 rfl) ?_
  refine xm_get (V := (xv E a)) (T := TX4) (v := .int (M o0 0)) C hP o0 0 xi_4 rfl l_X4_9 rfl (xs_lt h0 0 (by omega)) ((xs_0 h0 E a) _) (Nat.le_of_ble_eq_true rfl) rfl dX4_addEvent_1 ?_
  refine lv_bipush (v := 24) hx hb dX4_addEvent_4 (by decide) ?_
  refine lv_icmp_lt (tgt := 12) hx hb dX4_addEvent_6 (by decide) (fun c1 => ?_) (fun c1 => ?_)
  · rw [if_pos c1] at h
    refine lv_aload_n hx hb dX4_addEvent_12 rfl (lv_at hl 0 rfl) ?_
    refine xm_get (V := (xv E a)) (T := TX4) (v := .int (M o0 0)) C hP o0 0 xi_4 rfl l_X4_9 rfl (xs_lt h0 0 (by omega)) ((xs_0 h0 E a) _) (Nat.le_of_ble_eq_true rfl) rfl dX4_addEvent_13 ?_
    refine lv_istore (lv' := [(4, .int (M o0 0)), (0, .ref (a o0)), (1, .int x1), (2, .int x2), (3, .int x3)]) hx hb dX4_addEvent_16 hl (by decide) rfl (fun ls hl => ?_)
    refine lv_aload_n hx hb dX4_addEvent_18 rfl (lv_at hl 1 rfl) ?_
    refine lv_iload hx hb dX4_addEvent_19 (lv_at hl 0 rfl) ?_
    refine lv_iload_n hx hb dX4_addEvent_21 rfl (lv_at hl 2 rfl) ?_
    refine lv_iload_n hx hb dX4_addEvent_22 rfl (lv_at hl 3 rfl) ?_
    refine lv_iload_n hx hb dX4_addEvent_23 rfl (lv_at hl 4 rfl) ?_
    obtain ⟨M2, e4, h⟩ := xm_b1_s h
    refine xm_callV C hP hS [.int (M o0 0), .int x1, .int x2, .int x3] [] (c_X4_putEvent hD h0 n M (M o0 0) x1 x2 x3 M2 e4) k_X4_52 (xm_recv C hP o0 rfl (xs_lt h0 0 (by omega)) ((xs_0 h0 E a) _)) rfl rfl ⟨(Nat.le_of_ble_eq_true rfl), (Nat.le_of_ble_eq_true rfl)⟩ hl.1 (Nat.le_of_ble_eq_true rfl) ⟨Nat.zero_le _, Nat.zero_le _⟩ dX4_addEvent_24 (fun H locs hP hS => ?_)
    change W p l e _ s m _ below meth c H locs 0 0 _ (F0 m 27 ls [])
    refine lv_aload_n hx hb dX4_addEvent_27 rfl (lv_at hl 1 rfl) ?_
    refine lv_dup hx hb dX4_addEvent_28 rfl ?_
    refine xm_get (V := (xv E a)) (T := TX4) (v := .int (M2 o0 0)) C hP o0 0 xi_4 rfl l_X4_9 rfl (xs_lt h0 0 (by omega)) ((xs_0 h0 E a) _) (Nat.le_of_ble_eq_true rfl) rfl dX4_addEvent_29 ?_
    refine lv_iconst (v := 1) hx hb dX4_addEvent_32 (by decide) ?_
    refine lv_iadd hx hb dX4_addEvent_33 ?_
    obtain ⟨M5, e6, h⟩ := xm_lt_s h
    refine xm_put (V := (xv E a)) (T := TX4) (ty := .int) (x := (M2 o0 0) + 1) C hP hS o0 0 xi_4 rfl l_X4_9 rfl tyX4_ok nmX4 (xs_lt h0 0 (by omega)) ((xs_0 h0 E a) _) (Nat.le_of_ble_eq_true rfl) rfl (by decide +kernel) rfl rfl (Nat.le_of_ble_eq_true rfl) ((xs_0 h0 E a) _) dX4_addEvent_34 (fun H locs hP hS => ?_)
    rw [← e6] at hP
    refine lv_aload_n hx hb dX4_addEvent_37 rfl (lv_at hl 1 rfl) ?_
    refine lv_aload_n hx hb dX4_addEvent_38 rfl (lv_at hl 1 rfl) ?_
    refine xm_get (V := (xv E a)) (T := TX4) (v := .int (M5 o0 4)) C hP o0 4 xi_4 rfl l_X4_26 rfl (xs_lt h0 0 (by omega)) ((xs_0 h0 E a) _) (Nat.le_of_ble_eq_true rfl) rfl dX4_addEvent_39 ?_
    refine lv_iload_n hx hb dX4_addEvent_42 rfl (lv_at hl 4 rfl) ?_
    refine xm_max C k_X4_46 (rest := [.ref (a o0)]) (Nat.le_of_ble_eq_true rfl) (Nat.le_of_ble_eq_true rfl) hl.1 (Nat.zero_le _) (Nat.zero_le _) dX4_addEvent_43 ?_
    obtain ⟨M7, e8, h⟩ := xm_lt_s h
    refine xm_put (V := (xv E a)) (T := TX4) (ty := .int) (x := (if (M5 o0 4) < x3 then x3 else (M5 o0 4))) C hP hS o0 4 xi_4 rfl l_X4_26 rfl tyX4_ok nmX4 (xs_lt h0 0 (by omega)) ((xs_0 h0 E a) _) (Nat.le_of_ble_eq_true rfl) rfl (by decide +kernel) rfl rfl (Nat.le_of_ble_eq_true rfl) ((xs_0 h0 E a) _) dX4_addEvent_46 (fun H locs hP hS => ?_)
    rw [← e8] at hP
    refine lv_iload hx hb dX4_addEvent_49 (lv_at hl 0 rfl) ?_
    obtain ⟨rfl, rfl⟩ := xm_pr h
    exact xm_retI C hP hS dX4_addEvent_51
  · rw [if_neg c1] at h
    refine lv_bipush (v := (-3)) hx hb dX4_addEvent_9 (by decide) ?_
    obtain ⟨rfl, rfl⟩ := xm_pr h
    exact xm_retI C hP hS dX4_addEvent_11
theorem c_X4_addEvent {l : Launch} {E : xm_E} {a : Nat → Nat} (hD : xm_D (xv E a)) {o0 : Nat} (h0 : xm_St o0) (n : Nat) (M : xm_M) (x1 : Int32) (x2 : Int32) (x3 : Int32) (r : Int32) (M' : xm_M) (h : f_X4_addEvent n M o0 x1 x2 x3 = some (r, M')) : xm_Met l E (xv E a) yX4_addEvent cX4_addEvent 5 (some .int) 1 24 [.ref (a o0), .int x1, .int x2, .int x3] M M' (some r) :=
  xm_met (by decide +kernel) rfl (Nat.le_of_ble_eq_true rfl) hD (fun p e s m below meth c C hP ls hl => t_X4_addEvent_0 C h0 n M x1 x2 x3 r M' h _ _ _ hP va_S.rf hl)
def f_X4_eventsAheadOf_4 : Nat → xm_M → Nat → Int32 → Int32 → Int32 → Option (Int32 × xm_M)
  | 0, _, _, _, _, _ => none
  | n + 1, M, o0, x1, x2, x3 => if (M o0 0) ≤ x3 then some (x2, M) else xm_ck (xm_in x3 24) (if x1 ≤ (M (o0 + 3) x3.toNatClampNeg) then f_X4_eventsAheadOf_4 n M o0 x1 x2 (x3 + 1) else f_X4_eventsAheadOf_4 n M o0 x1 (x2 + 1) (x3 + 1))
set_option maxHeartbeats 4000000 in
set_option maxRecDepth 100000 in
theorem t_X4_eventsAheadOf_4 {l : Launch} {p : Program} {e : Env} {s : State} {m : MethodId} {args : Array Value} {below : List Frame} {meth : Method} {c : Code} {E : xm_E} {a : Nat → Nat} (C : xm_C E (xv E a) p s m args meth c RX4 cX4_eventsAheadOf 4 (some .int)) {o0 : Nat} (h0 : xm_St o0) : ∀ (n : Nat) (M : xm_M) (x1 : Int32) (x2 : Int32) (x3 : Int32) (r : Int32) (M' : xm_M), f_X4_eventsAheadOf_4 n M o0 x1 x2 x3 = some (r, M') → ∀ (H : Heap) (locs : List Loc) (ls : Array Slot), va_P E.1 vwCl (xm_w (xv E a) M) H → va_S (xm_A (xv E a) s.heap.size) s.heap H locs → lv_has ls 4 [(0, .ref (a o0)), (1, .int x1), (2, .int x2), (3, .int x3)] → W p l e { frames := 0, cells := 0, slots := 0, locals := 0 } s m args below meth c H locs 0 0 (MQ below (xm_Q E (xv E a) M' s.heap.size (some r)) args s 0 0 (xm_A (xv E a) s.heap.size)) (F0 m 4 ls []) := by
  have C9 := C
  obtain ⟨hx, hb, hml, hown, hts, hr, hlk, hD, hK, hS9⟩ := C9
  intro n
  induction n with
  | zero =>
    intro M x1 x2 x3 r M' h
    cases h
  | succ n ih =>
    intro M x1 x2 x3 r M' h H locs ls hP hS hl
    rw [f_X4_eventsAheadOf_4] at h
    refine lv_iload_n hx hb dX4_eventsAheadOf_4 rfl (lv_at hl 3 rfl) ?_
    refine lv_aload_n hx hb dX4_eventsAheadOf_5 rfl (lv_at hl 0 rfl) ?_
    refine xm_get (V := (xv E a)) (T := TX4) (v := .int (M o0 0)) C hP o0 0 xi_4 rfl l_X4_9 rfl (xs_lt h0 0 (by omega)) ((xs_0 h0 E a) _) (Nat.le_of_ble_eq_true rfl) rfl dX4_eventsAheadOf_6 ?_
    refine lv_icmp_ge (tgt := 31) hx hb dX4_eventsAheadOf_9 (by decide) (fun c1 => ?_) (fun c1 => ?_)
    · rw [if_pos c1] at h
      refine lv_iload_n hx hb dX4_eventsAheadOf_31 rfl (lv_at hl 2 rfl) ?_
      obtain ⟨rfl, rfl⟩ := xm_pr h
      exact xm_retI C hP hS dX4_eventsAheadOf_32
    · rw [if_neg c1] at h
      refine lv_aload_n hx hb dX4_eventsAheadOf_12 rfl (lv_at hl 0 rfl) ?_
      refine xm_get (V := (xv E a)) (T := TX4) (v := .ref (a (o0 + 3))) C hP o0 3 xi_4 rfl l_X4_23 rfl (xs_lt h0 0 (by omega)) ((xs_0 h0 E a) _) (Nat.le_of_ble_eq_true rfl) rfl dX4_eventsAheadOf_13 ?_
      refine lv_iload_n hx hb dX4_eventsAheadOf_16 rfl (lv_at hl 3 rfl) ?_
      obtain ⟨b2, h⟩ := xm_ck_s h
      refine xm_iald (V := (xv E a)) C hP (o0 + 3) 24 (xs_lt h0 3 (by omega)) (xs_3 h0 E a) b2 dX4_eventsAheadOf_17 ?_
      refine lv_iload_n hx hb dX4_eventsAheadOf_18 rfl (lv_at hl 1 rfl) ?_
      refine lv_icmp_ge (tgt := 25) hx hb dX4_eventsAheadOf_19 (by decide) (fun c3 => ?_) (fun c3 => ?_)
      · rw [if_pos c3] at h
        refine lv_iinc (v := x3 + 1) (lv' := [(3, .int (x3 + 1)), (0, .ref (a o0)), (1, .int x1), (2, .int x2)]) hx hb dX4_eventsAheadOf_25 hl (k := 3) rfl (xm_add (by decide)) (by decide) rfl (fun ls hl => ?_)
        refine lv_goto (tgt := 4) hx hb dX4_eventsAheadOf_28 (by decide) ?_
        exact ih M x1 x2 (x3 + 1) r M' h _ _ _ hP hS (lv_sub hl [1, 2, 3, 0] rfl)
      · rw [if_neg c3] at h
        refine lv_iinc (v := x2 + 1) (lv' := [(2, .int (x2 + 1)), (0, .ref (a o0)), (1, .int x1), (3, .int x3)]) hx hb dX4_eventsAheadOf_22 hl (k := 2) rfl (xm_add (by decide)) (by decide) rfl (fun ls hl => ?_)
        refine lv_iinc (v := x3 + 1) (lv' := [(3, .int (x3 + 1)), (2, .int (x2 + 1)), (0, .ref (a o0)), (1, .int x1)]) hx hb dX4_eventsAheadOf_25 hl (k := 3) rfl (xm_add (by decide)) (by decide) rfl (fun ls hl => ?_)
        refine lv_goto (tgt := 4) hx hb dX4_eventsAheadOf_28 (by decide) ?_
        exact ih M x1 (x2 + 1) (x3 + 1) r M' h _ _ _ hP hS (lv_sub hl [2, 3, 1, 0] rfl)
def f_X4_eventsAheadOf (n : Nat) (M : xm_M) (o0 : Nat) (x1 : Int32) : Option (Int32 × xm_M) := f_X4_eventsAheadOf_4 n M o0 x1 0 0
set_option maxHeartbeats 4000000 in
set_option maxRecDepth 100000 in
theorem t_X4_eventsAheadOf_0 {l : Launch} {p : Program} {e : Env} {s : State} {m : MethodId} {args : Array Value} {below : List Frame} {meth : Method} {c : Code} {E : xm_E} {a : Nat → Nat} (C : xm_C E (xv E a) p s m args meth c RX4 cX4_eventsAheadOf 4 (some .int)) {o0 : Nat} (h0 : xm_St o0) (n : Nat) (M : xm_M) (x1 : Int32) (r : Int32) (M' : xm_M) : f_X4_eventsAheadOf n M o0 x1 = some (r, M') → ∀ (H : Heap) (locs : List Loc) (ls : Array Slot), va_P E.1 vwCl (xm_w (xv E a) M) H → va_S (xm_A (xv E a) s.heap.size) s.heap H locs → lv_has ls 4 [(0, .ref (a o0)), (1, .int x1)] → W p l e { frames := 0, cells := 0, slots := 0, locals := 0 } s m args below meth c H locs 0 0 (MQ below (xm_Q E (xv E a) M' s.heap.size (some r)) args s 0 0 (xm_A (xv E a) s.heap.size)) (F0 m 0 ls []) := by
  have C9 := C
  obtain ⟨hx, hb, hml, hown, hts, hr, hlk, hD, hK, hS9⟩ := C9
  intro h H locs ls hP hS hl
  unfold f_X4_eventsAheadOf at h
  refine lv_iconst (v := 0) hx hb dX4_eventsAheadOf_0 (by decide) ?_
  refine lv_istore_n (lv' := [(2, .int 0), (0, .ref (a o0)), (1, .int x1)]) hx hb dX4_eventsAheadOf_1 rfl hl (by decide) rfl (fun ls hl => ?_)
  refine lv_iconst (v := 0) hx hb dX4_eventsAheadOf_2 (by decide) ?_
  refine lv_istore_n (lv' := [(3, .int 0), (2, .int 0), (0, .ref (a o0)), (1, .int x1)]) hx hb dX4_eventsAheadOf_3 rfl hl (by decide) rfl (fun ls hl => ?_)
  exact t_X4_eventsAheadOf_4 C h0 n M x1 0 0 r M' h _ _ _ hP hS (lv_sub hl [2, 3, 1, 0] rfl)
theorem c_X4_eventsAheadOf {l : Launch} {E : xm_E} {a : Nat → Nat} (hD : xm_D (xv E a)) {o0 : Nat} (h0 : xm_St o0) (n : Nat) (M : xm_M) (x1 : Int32) (r : Int32) (M' : xm_M) (h : f_X4_eventsAheadOf n M o0 x1 = some (r, M')) : xm_Met l E (xv E a) yX4_eventsAheadOf cX4_eventsAheadOf 4 (some .int) 0 0 [.ref (a o0), .int x1] M M' (some r) :=
  xm_met (by decide +kernel) rfl (Nat.le_of_ble_eq_true rfl) hD (fun p e s m below meth c C hP ls hl => t_X4_eventsAheadOf_0 C h0 n M x1 r M' h _ _ _ hP va_S.rf hl)
def f_X4_removeEventsAheadOf_4 : Nat → xm_M → Nat → Int32 → Int32 → Int32 → Option xm_M
  | 0, _, _, _, _, _ => none
  | n + 1, M, o0, x1, x2, x3 => if (M o0 0) ≤ x3 then xm_lt (xm_up M o0 0 x2) (fun M2 => some M2) else xm_ck (xm_in x3 24) (if (M (o0 + 3) x3.toNatClampNeg) < x1 then f_X4_removeEventsAheadOf_4 n M o0 x1 x2 (x3 + 1) else xm_ck (xm_in x3 24) (xm_ck (xm_in x3 24) (xm_ck (xm_in x3 24) (xm_b1 (f_X4_putEvent n M o0 x2 (M (o0 + 1) x3.toNatClampNeg) (M (o0 + 2) x3.toNatClampNeg) (M (o0 + 3) x3.toNatClampNeg)) (fun M9 => f_X4_removeEventsAheadOf_4 n M9 o0 x1 (x2 + 1) (x3 + 1))))))
set_option maxHeartbeats 4000000 in
set_option maxRecDepth 100000 in
theorem t_X4_removeEventsAheadOf_4 {l : Launch} {p : Program} {e : Env} {s : State} {m : MethodId} {args : Array Value} {below : List Frame} {meth : Method} {c : Code} {E : xm_E} {a : Nat → Nat} (C : xm_C E (xv E a) p s m args meth c RX4 cX4_removeEventsAheadOf 4 none) {o0 : Nat} (h0 : xm_St o0) : ∀ (n : Nat) (M : xm_M) (x1 : Int32) (x2 : Int32) (x3 : Int32) (M' : xm_M), f_X4_removeEventsAheadOf_4 n M o0 x1 x2 x3 = some M' → ∀ (H : Heap) (locs : List Loc) (ls : Array Slot), va_P E.1 vwCl (xm_w (xv E a) M) H → va_S (xm_A (xv E a) s.heap.size) s.heap H locs → lv_has ls 4 [(0, .ref (a o0)), (1, .int x1), (2, .int x2), (3, .int x3)] → W p l e { frames := 1, cells := 0, slots := 0, locals := 24 } s m args below meth c H locs 0 0 (MQ below (xm_Q E (xv E a) M' s.heap.size none) args s 0 0 (xm_A (xv E a) s.heap.size)) (F0 m 4 ls []) := by
  have C9 := C
  obtain ⟨hx, hb, hml, hown, hts, hr, hlk, hD, hK, hS9⟩ := C9
  intro n
  induction n with
  | zero =>
    intro M x1 x2 x3 M' h
    cases h
  | succ n ih =>
    intro M x1 x2 x3 M' h H locs ls hP hS hl
    rw [f_X4_removeEventsAheadOf_4] at h
    refine lv_iload_n hx hb dX4_removeEventsAheadOf_4 rfl (lv_at hl 3 rfl) ?_
    refine lv_aload_n hx hb dX4_removeEventsAheadOf_5 rfl (lv_at hl 0 rfl) ?_
    refine xm_get (V := (xv E a)) (T := TX4) (v := .int (M o0 0)) C hP o0 0 xi_4 rfl l_X4_9 rfl (xs_lt h0 0 (by omega)) ((xs_0 h0 E a) _) (Nat.le_of_ble_eq_true rfl) rfl dX4_removeEventsAheadOf_6 ?_
    refine lv_icmp_ge (tgt := 54) hx hb dX4_removeEventsAheadOf_9 (by decide) (fun c1 => ?_) (fun c1 => ?_)
    · rw [if_pos c1] at h
      refine lv_aload_n hx hb dX4_removeEventsAheadOf_54 rfl (lv_at hl 0 rfl) ?_
      refine lv_iload_n hx hb dX4_removeEventsAheadOf_55 rfl (lv_at hl 2 rfl) ?_
      obtain ⟨M2, e3, h⟩ := xm_lt_s h
      refine xm_put (V := (xv E a)) (T := TX4) (ty := .int) (x := x2) C hP hS o0 0 xi_4 rfl l_X4_9 rfl tyX4_ok nmX4 (xs_lt h0 0 (by omega)) ((xs_0 h0 E a) _) (Nat.le_of_ble_eq_true rfl) rfl (by decide +kernel) rfl rfl (Nat.le_of_ble_eq_true rfl) ((xs_0 h0 E a) _) dX4_removeEventsAheadOf_56 (fun H locs hP hS => ?_)
      rw [← e3] at hP
      cases xm_on h
      exact xm_retV C hP hS dX4_removeEventsAheadOf_59
    · rw [if_neg c1] at h
      refine lv_aload_n hx hb dX4_removeEventsAheadOf_12 rfl (lv_at hl 0 rfl) ?_
      refine xm_get (V := (xv E a)) (T := TX4) (v := .ref (a (o0 + 3))) C hP o0 3 xi_4 rfl l_X4_23 rfl (xs_lt h0 0 (by omega)) ((xs_0 h0 E a) _) (Nat.le_of_ble_eq_true rfl) rfl dX4_removeEventsAheadOf_13 ?_
      refine lv_iload_n hx hb dX4_removeEventsAheadOf_16 rfl (lv_at hl 3 rfl) ?_
      obtain ⟨b4, h⟩ := xm_ck_s h
      refine xm_iald (V := (xv E a)) C hP (o0 + 3) 24 (xs_lt h0 3 (by omega)) (xs_3 h0 E a) b4 dX4_removeEventsAheadOf_17 ?_
      refine lv_iload_n hx hb dX4_removeEventsAheadOf_18 rfl (lv_at hl 1 rfl) ?_
      refine lv_icmp_lt (tgt := 48) hx hb dX4_removeEventsAheadOf_19 (by decide) (fun c5 => ?_) (fun c5 => ?_)
      · rw [if_pos c5] at h
        refine lv_iinc (v := x3 + 1) (lv' := [(3, .int (x3 + 1)), (0, .ref (a o0)), (1, .int x1), (2, .int x2)]) hx hb dX4_removeEventsAheadOf_48 hl (k := 3) rfl (xm_add (by decide)) (by decide) rfl (fun ls hl => ?_)
        refine lv_goto (tgt := 4) hx hb dX4_removeEventsAheadOf_51 (by decide) ?_
        exact ih M x1 x2 (x3 + 1) M' h _ _ _ hP hS (lv_sub hl [1, 2, 3, 0] rfl)
      · rw [if_neg c5] at h
        refine lv_aload_n hx hb dX4_removeEventsAheadOf_22 rfl (lv_at hl 0 rfl) ?_
        refine lv_iload_n hx hb dX4_removeEventsAheadOf_23 rfl (lv_at hl 2 rfl) ?_
        refine lv_aload_n hx hb dX4_removeEventsAheadOf_24 rfl (lv_at hl 0 rfl) ?_
        refine xm_get (V := (xv E a)) (T := TX4) (v := .ref (a (o0 + 1))) C hP o0 1 xi_4 rfl l_X4_15 rfl (xs_lt h0 0 (by omega)) ((xs_0 h0 E a) _) (Nat.le_of_ble_eq_true rfl) rfl dX4_removeEventsAheadOf_25 ?_
        refine lv_iload_n hx hb dX4_removeEventsAheadOf_28 rfl (lv_at hl 3 rfl) ?_
        obtain ⟨b6, h⟩ := xm_ck_s h
        refine xm_cald (V := (xv E a)) C hP (o0 + 1) 24 (xs_lt h0 1 (by omega)) (xs_1 h0 E a) b6 dX4_removeEventsAheadOf_29 ?_
        refine lv_aload_n hx hb dX4_removeEventsAheadOf_30 rfl (lv_at hl 0 rfl) ?_
        refine xm_get (V := (xv E a)) (T := TX4) (v := .ref (a (o0 + 2))) C hP o0 2 xi_4 rfl l_X4_19 rfl (xs_lt h0 0 (by omega)) ((xs_0 h0 E a) _) (Nat.le_of_ble_eq_true rfl) rfl dX4_removeEventsAheadOf_31 ?_
        refine lv_iload_n hx hb dX4_removeEventsAheadOf_34 rfl (lv_at hl 3 rfl) ?_
        obtain ⟨b7, h⟩ := xm_ck_s h
        refine xm_iald (V := (xv E a)) C hP (o0 + 2) 24 (xs_lt h0 2 (by omega)) (xs_2 h0 E a) b7 dX4_removeEventsAheadOf_35 ?_
        refine lv_aload_n hx hb dX4_removeEventsAheadOf_36 rfl (lv_at hl 0 rfl) ?_
        refine xm_get (V := (xv E a)) (T := TX4) (v := .ref (a (o0 + 3))) C hP o0 3 xi_4 rfl l_X4_23 rfl (xs_lt h0 0 (by omega)) ((xs_0 h0 E a) _) (Nat.le_of_ble_eq_true rfl) rfl dX4_removeEventsAheadOf_37 ?_
        refine lv_iload_n hx hb dX4_removeEventsAheadOf_40 rfl (lv_at hl 3 rfl) ?_
        obtain ⟨b8, h⟩ := xm_ck_s h
        refine xm_iald (V := (xv E a)) C hP (o0 + 3) 24 (xs_lt h0 3 (by omega)) (xs_3 h0 E a) b8 dX4_removeEventsAheadOf_41 ?_
        obtain ⟨M9, e11, h⟩ := xm_b1_s h
        refine xm_callV C hP hS [.int x2, .int (M (o0 + 1) x3.toNatClampNeg), .int (M (o0 + 2) x3.toNatClampNeg), .int (M (o0 + 3) x3.toNatClampNeg)] [] (c_X4_putEvent hD h0 n M x2 (M (o0 + 1) x3.toNatClampNeg) (M (o0 + 2) x3.toNatClampNeg) (M (o0 + 3) x3.toNatClampNeg) M9 e11) k_X4_52 (xm_recv C hP o0 rfl (xs_lt h0 0 (by omega)) ((xs_0 h0 E a) _)) rfl rfl ⟨(Nat.le_of_ble_eq_true rfl), (Nat.le_of_ble_eq_true rfl)⟩ hl.1 (Nat.le_of_ble_eq_true rfl) ⟨Nat.zero_le _, Nat.zero_le _⟩ dX4_removeEventsAheadOf_42 (fun H locs hP hS => ?_)
        change W p l e _ s m _ below meth c H locs 0 0 _ (F0 m 45 ls [])
        refine lv_iinc (v := x2 + 1) (lv' := [(2, .int (x2 + 1)), (0, .ref (a o0)), (1, .int x1), (3, .int x3)]) hx hb dX4_removeEventsAheadOf_45 hl (k := 2) rfl (xm_add (by decide)) (by decide) rfl (fun ls hl => ?_)
        refine lv_iinc (v := x3 + 1) (lv' := [(3, .int (x3 + 1)), (2, .int (x2 + 1)), (0, .ref (a o0)), (1, .int x1)]) hx hb dX4_removeEventsAheadOf_48 hl (k := 3) rfl (xm_add (by decide)) (by decide) rfl (fun ls hl => ?_)
        refine lv_goto (tgt := 4) hx hb dX4_removeEventsAheadOf_51 (by decide) ?_
        exact ih M9 x1 (x2 + 1) (x3 + 1) M' h _ _ _ hP hS (lv_sub hl [2, 3, 1, 0] rfl)
def f_X4_removeEventsAheadOf (n : Nat) (M : xm_M) (o0 : Nat) (x1 : Int32) : Option xm_M := f_X4_removeEventsAheadOf_4 n M o0 x1 0 0
set_option maxHeartbeats 4000000 in
set_option maxRecDepth 100000 in
theorem t_X4_removeEventsAheadOf_0 {l : Launch} {p : Program} {e : Env} {s : State} {m : MethodId} {args : Array Value} {below : List Frame} {meth : Method} {c : Code} {E : xm_E} {a : Nat → Nat} (C : xm_C E (xv E a) p s m args meth c RX4 cX4_removeEventsAheadOf 4 none) {o0 : Nat} (h0 : xm_St o0) (n : Nat) (M : xm_M) (x1 : Int32) (M' : xm_M) : f_X4_removeEventsAheadOf n M o0 x1 = some M' → ∀ (H : Heap) (locs : List Loc) (ls : Array Slot), va_P E.1 vwCl (xm_w (xv E a) M) H → va_S (xm_A (xv E a) s.heap.size) s.heap H locs → lv_has ls 4 [(0, .ref (a o0)), (1, .int x1)] → W p l e { frames := 1, cells := 0, slots := 0, locals := 24 } s m args below meth c H locs 0 0 (MQ below (xm_Q E (xv E a) M' s.heap.size none) args s 0 0 (xm_A (xv E a) s.heap.size)) (F0 m 0 ls []) := by
  have C9 := C
  obtain ⟨hx, hb, hml, hown, hts, hr, hlk, hD, hK, hS9⟩ := C9
  intro h H locs ls hP hS hl
  unfold f_X4_removeEventsAheadOf at h
  refine lv_iconst (v := 0) hx hb dX4_removeEventsAheadOf_0 (by decide) ?_
  refine lv_istore_n (lv' := [(2, .int 0), (0, .ref (a o0)), (1, .int x1)]) hx hb dX4_removeEventsAheadOf_1 rfl hl (by decide) rfl (fun ls hl => ?_)
  refine lv_iconst (v := 0) hx hb dX4_removeEventsAheadOf_2 (by decide) ?_
  refine lv_istore_n (lv' := [(3, .int 0), (2, .int 0), (0, .ref (a o0)), (1, .int x1)]) hx hb dX4_removeEventsAheadOf_3 rfl hl (by decide) rfl (fun ls hl => ?_)
  exact t_X4_removeEventsAheadOf_4 C h0 n M x1 0 0 M' h _ _ _ hP hS (lv_sub hl [2, 3, 1, 0] rfl)
theorem c_X4_removeEventsAheadOf {l : Launch} {E : xm_E} {a : Nat → Nat} (hD : xm_D (xv E a)) {o0 : Nat} (h0 : xm_St o0) (n : Nat) (M : xm_M) (x1 : Int32) (M' : xm_M) (h : f_X4_removeEventsAheadOf n M o0 x1 = some M') : xm_Met l E (xv E a) yX4_removeEventsAheadOf cX4_removeEventsAheadOf 4 none 1 24 [.ref (a o0), .int x1] M M' none :=
  xm_met (by decide +kernel) rfl (Nat.le_of_ble_eq_true rfl) hD (fun p e s m below meth c C hP ls hl => t_X4_removeEventsAheadOf_0 C h0 n M x1 M' h _ _ _ hP va_S.rf hl)
def f_X4_addCopyOf (n : Nat) (M : xm_M) (o0 : Nat) (o1 : Nat) : Option (Int32 × xm_M) := if (M o0 6) < 4 then xm_ck (xm_in (M o0 6) 4) (xm_b1 (f_X2_copyFrom n M (o0 + 5 + 3 * (M o0 6).toNatClampNeg) o1) (fun M3 => xm_lt (xm_up M3 o0 6 ((M3 o0 6) + 1)) (fun M6 => some (M o0 6, M6)))) else some ((-3), M)
set_option maxHeartbeats 4000000 in
set_option maxRecDepth 100000 in
theorem t_X4_addCopyOf_0 {l : Launch} {p : Program} {e : Env} {s : State} {m : MethodId} {args : Array Value} {below : List Frame} {meth : Method} {c : Code} {E : xm_E} {a : Nat → Nat} (C : xm_C E (xv E a) p s m args meth c RX4 cX4_addCopyOf 3 (some .int)) {o0 : Nat} {o1 : Nat} (h0 : xm_St o0) (h1 : xm_Pa o1) (n : Nat) (M : xm_M) (r : Int32) (M' : xm_M) : f_X4_addCopyOf n M o0 o1 = some (r, M') → ∀ (H : Heap) (locs : List Loc) (ls : Array Slot), va_P E.1 vwCl (xm_w (xv E a) M) H → va_S (xm_A (xv E a) s.heap.size) s.heap H locs → lv_has ls 3 [(0, .ref (a o0)), (1, .ref (a o1))] → W p l e { frames := 1, cells := 0, slots := 0, locals := 22 } s m args below meth c H locs 0 0 (MQ below (xm_Q E (xv E a) M' s.heap.size (some r)) args s 0 0 (xm_A (xv E a) s.heap.size)) (F0 m 0 ls []) := by
  have C9 := C
  obtain ⟨hx, hb, hml, hown, hts, hr, hlk, hD, hK, hS9⟩ := C9
  intro h H locs ls hP hS hl
  unfold f_X4_addCopyOf at h
  refine lv_aload_n hx hb dX4_addCopyOf_0 rfl (lv_at hl 0 rfl) ?_
  refine xm_get (V := (xv E a)) (T := TX4) (v := .int (M o0 6)) C hP o0 6 xi_4 rfl l_X4_32 rfl (xs_lt h0 0 (by omega)) ((xs_0 h0 E a) _) (Nat.le_of_ble_eq_true rfl) rfl dX4_addCopyOf_1 ?_
  refine lv_iconst (v := 4) hx hb dX4_addCopyOf_4 (by decide) ?_
  refine lv_icmp_lt (tgt := 11) hx hb dX4_addCopyOf_5 (by decide) (fun c1 => ?_) (fun c1 => ?_)
  · rw [if_pos c1] at h
    refine lv_aload_n hx hb dX4_addCopyOf_11 rfl (lv_at hl 0 rfl) ?_
    refine xm_get (V := (xv E a)) (T := TX4) (v := .int (M o0 6)) C hP o0 6 xi_4 rfl l_X4_32 rfl (xs_lt h0 0 (by omega)) ((xs_0 h0 E a) _) (Nat.le_of_ble_eq_true rfl) rfl dX4_addCopyOf_12 ?_
    refine lv_istore_n (lv' := [(2, .int (M o0 6)), (0, .ref (a o0)), (1, .ref (a o1))]) hx hb dX4_addCopyOf_15 rfl hl (by decide) rfl (fun ls hl => ?_)
    refine lv_aload_n hx hb dX4_addCopyOf_16 rfl (lv_at hl 1 rfl) ?_
    refine xm_get (V := (xv E a)) (T := TX4) (v := .ref (a (o0 + 4))) C hP o0 7 xi_4 rfl l_X4_37 rfl (xs_lt h0 0 (by omega)) ((xs_0 h0 E a) _) (Nat.le_of_ble_eq_true rfl) rfl dX4_addCopyOf_17 ?_
    refine lv_iload_n hx hb dX4_addCopyOf_20 rfl (lv_at hl 0 rfl) ?_
    obtain ⟨b2, h⟩ := xm_ck_s h
    refine xm_aald (V := (xv E a)) (K := RX2) (v := a (o0 + 5 + 3 * (M o0 6).toNatClampNeg)) C hP (o0 + 4) 4 4 (xs_lt h0 4 (by omega)) (xs_4 h0 E a) rfl b2 (xo_rp_at b2) dX4_addCopyOf_21 ?_
    refine lv_aload_n hx hb dX4_addCopyOf_22 rfl (lv_at hl 2 rfl) ?_
    obtain ⟨M3, e5, h⟩ := xm_b1_s h
    refine xm_callVN C hP hS [.ref (a o1)] [] (c_X2_copyFrom hD (xp_s h0 b2) h1 n M  M3 e5) k_X4_42 (xm_recv C hP (o0 + 5 + 3 * (M o0 6).toNatClampNeg) rfl (xp_lt (xp_s h0 b2) 0 (by omega)) ((xp_0 (xp_s h0 b2) E a) _)) rfl rfl ⟨(Nat.le_of_ble_eq_true rfl), (Nat.le_of_ble_eq_true rfl)⟩ hl.1 (Nat.le_of_ble_eq_true rfl) ⟨Nat.zero_le _, Nat.zero_le _⟩ dX4_addCopyOf_23 (fun H locs hP hS => ?_)
    change W p l e _ s m _ below meth c H locs 0 0 _ (F0 m 26 ls [])
    refine lv_aload_n hx hb dX4_addCopyOf_26 rfl (lv_at hl 1 rfl) ?_
    refine lv_dup hx hb dX4_addCopyOf_27 rfl ?_
    refine xm_get (V := (xv E a)) (T := TX4) (v := .int (M3 o0 6)) C hP o0 6 xi_4 rfl l_X4_32 rfl (xs_lt h0 0 (by omega)) ((xs_0 h0 E a) _) (Nat.le_of_ble_eq_true rfl) rfl dX4_addCopyOf_28 ?_
    refine lv_iconst (v := 1) hx hb dX4_addCopyOf_31 (by decide) ?_
    refine lv_iadd hx hb dX4_addCopyOf_32 ?_
    obtain ⟨M6, e7, h⟩ := xm_lt_s h
    refine xm_put (V := (xv E a)) (T := TX4) (ty := .int) (x := (M3 o0 6) + 1) C hP hS o0 6 xi_4 rfl l_X4_32 rfl tyX4_ok nmX4 (xs_lt h0 0 (by omega)) ((xs_0 h0 E a) _) (Nat.le_of_ble_eq_true rfl) rfl (by decide +kernel) rfl rfl (Nat.le_of_ble_eq_true rfl) ((xs_0 h0 E a) _) dX4_addCopyOf_33 (fun H locs hP hS => ?_)
    rw [← e7] at hP
    refine lv_iload_n hx hb dX4_addCopyOf_36 rfl (lv_at hl 0 rfl) ?_
    obtain ⟨rfl, rfl⟩ := xm_pr h
    exact xm_retI C hP hS dX4_addCopyOf_37
  · rw [if_neg c1] at h
    refine lv_bipush (v := (-3)) hx hb dX4_addCopyOf_8 (by decide) ?_
    obtain ⟨rfl, rfl⟩ := xm_pr h
    exact xm_retI C hP hS dX4_addCopyOf_10
theorem c_X4_addCopyOf {l : Launch} {E : xm_E} {a : Nat → Nat} (hD : xm_D (xv E a)) {o0 : Nat} {o1 : Nat} (h0 : xm_St o0) (h1 : xm_Pa o1) (n : Nat) (M : xm_M) (r : Int32) (M' : xm_M) (h : f_X4_addCopyOf n M o0 o1 = some (r, M')) : xm_Met l E (xv E a) yX4_addCopyOf cX4_addCopyOf 3 (some .int) 1 22 [.ref (a o0), .ref (a o1)] M M' (some r) :=
  xm_met (by decide +kernel) rfl (Nat.le_of_ble_eq_true rfl) hD (fun p e s m below meth c C hP ls hl => t_X4_addCopyOf_0 C h0 h1 n M r M' h _ _ _ hP va_S.rf hl)
def f_X4_removePattern_2 : Nat → xm_M → Nat → Int32 → Option (Int32 × xm_M)
  | 0, _, _, _ => none
  | n + 1, M, o0, x2 => if (M o0 6) ≤ (x2 + 1) then xm_lt (xm_up M o0 6 ((M o0 6) - 1)) (fun M2 => some (M2 o0 6, M2)) else xm_ck (xm_in x2 4) (xm_ck (xm_in (x2 + 1) 4) (xm_b1 (f_X2_copyFrom n M (o0 + 5 + 3 * x2.toNatClampNeg) (o0 + 5 + 3 * (x2 + 1).toNatClampNeg)) (fun M6 => f_X4_removePattern_2 n M6 o0 (x2 + 1))))
set_option maxHeartbeats 4000000 in
set_option maxRecDepth 100000 in
theorem t_X4_removePattern_2 {l : Launch} {p : Program} {e : Env} {s : State} {m : MethodId} {args : Array Value} {below : List Frame} {meth : Method} {c : Code} {E : xm_E} {a : Nat → Nat} (C : xm_C E (xv E a) p s m args meth c RX4 cX4_removePattern 3 (some .int)) {o0 : Nat} (h0 : xm_St o0) : ∀ (n : Nat) (M : xm_M) (x2 : Int32) (r : Int32) (M' : xm_M), f_X4_removePattern_2 n M o0 x2 = some (r, M') → ∀ (H : Heap) (locs : List Loc) (ls : Array Slot), va_P E.1 vwCl (xm_w (xv E a) M) H → va_S (xm_A (xv E a) s.heap.size) s.heap H locs → lv_has ls 3 [(0, .ref (a o0)), (2, .int x2)] → W p l e { frames := 1, cells := 0, slots := 0, locals := 22 } s m args below meth c H locs 0 0 (MQ below (xm_Q E (xv E a) M' s.heap.size (some r)) args s 0 0 (xm_A (xv E a) s.heap.size)) (F0 m 2 ls []) := by
  have C9 := C
  obtain ⟨hx, hb, hml, hown, hts, hr, hlk, hD, hK, hS9⟩ := C9
  intro n
  induction n with
  | zero =>
    intro M x2 r M' h
    cases h
  | succ n ih =>
    intro M x2 r M' h H locs ls hP hS hl
    rw [f_X4_removePattern_2] at h
    refine lv_iload_n hx hb dX4_removePattern_2 rfl (lv_at hl 1 rfl) ?_
    refine lv_iconst (v := 1) hx hb dX4_removePattern_3 (by decide) ?_
    refine lv_iadd hx hb dX4_removePattern_4 ?_
    refine lv_aload_n hx hb dX4_removePattern_5 rfl (lv_at hl 0 rfl) ?_
    refine xm_get (V := (xv E a)) (T := TX4) (v := .int (M o0 6)) C hP o0 6 xi_4 rfl l_X4_32 rfl (xs_lt h0 0 (by omega)) ((xs_0 h0 E a) _) (Nat.le_of_ble_eq_true rfl) rfl dX4_removePattern_6 ?_
    refine lv_icmp_ge (tgt := 35) hx hb dX4_removePattern_9 (by decide) (fun c1 => ?_) (fun c1 => ?_)
    · rw [if_pos c1] at h
      refine lv_aload_n hx hb dX4_removePattern_35 rfl (lv_at hl 0 rfl) ?_
      refine lv_dup hx hb dX4_removePattern_36 rfl ?_
      refine xm_get (V := (xv E a)) (T := TX4) (v := .int (M o0 6)) C hP o0 6 xi_4 rfl l_X4_32 rfl (xs_lt h0 0 (by omega)) ((xs_0 h0 E a) _) (Nat.le_of_ble_eq_true rfl) rfl dX4_removePattern_37 ?_
      refine lv_iconst (v := 1) hx hb dX4_removePattern_40 (by decide) ?_
      refine lv_isub hx hb dX4_removePattern_41 ?_
      obtain ⟨M2, e3, h⟩ := xm_lt_s h
      refine xm_put (V := (xv E a)) (T := TX4) (ty := .int) (x := (M o0 6) - 1) C hP hS o0 6 xi_4 rfl l_X4_32 rfl tyX4_ok nmX4 (xs_lt h0 0 (by omega)) ((xs_0 h0 E a) _) (Nat.le_of_ble_eq_true rfl) rfl (by decide +kernel) rfl rfl (Nat.le_of_ble_eq_true rfl) ((xs_0 h0 E a) _) dX4_removePattern_42 (fun H locs hP hS => ?_)
      rw [← e3] at hP
      refine lv_aload_n hx hb dX4_removePattern_45 rfl (lv_at hl 0 rfl) ?_
      refine xm_get (V := (xv E a)) (T := TX4) (v := .int (M2 o0 6)) C hP o0 6 xi_4 rfl l_X4_32 rfl (xs_lt h0 0 (by omega)) ((xs_0 h0 E a) _) (Nat.le_of_ble_eq_true rfl) rfl dX4_removePattern_46 ?_
      obtain ⟨rfl, rfl⟩ := xm_pr h
      exact xm_retI C hP hS dX4_removePattern_49
    · rw [if_neg c1] at h
      refine lv_aload_n hx hb dX4_removePattern_12 rfl (lv_at hl 0 rfl) ?_
      refine xm_get (V := (xv E a)) (T := TX4) (v := .ref (a (o0 + 4))) C hP o0 7 xi_4 rfl l_X4_37 rfl (xs_lt h0 0 (by omega)) ((xs_0 h0 E a) _) (Nat.le_of_ble_eq_true rfl) rfl dX4_removePattern_13 ?_
      refine lv_iload_n hx hb dX4_removePattern_16 rfl (lv_at hl 1 rfl) ?_
      obtain ⟨b4, h⟩ := xm_ck_s h
      refine xm_aald (V := (xv E a)) (K := RX2) (v := a (o0 + 5 + 3 * x2.toNatClampNeg)) C hP (o0 + 4) 4 4 (xs_lt h0 4 (by omega)) (xs_4 h0 E a) rfl b4 (xo_rp_at b4) dX4_removePattern_17 ?_
      refine lv_aload_n hx hb dX4_removePattern_18 rfl (lv_at hl 0 rfl) ?_
      refine xm_get (V := (xv E a)) (T := TX4) (v := .ref (a (o0 + 4))) C hP o0 7 xi_4 rfl l_X4_37 rfl (xs_lt h0 0 (by omega)) ((xs_0 h0 E a) _) (Nat.le_of_ble_eq_true rfl) rfl dX4_removePattern_19 ?_
      refine lv_iload_n hx hb dX4_removePattern_22 rfl (lv_at hl 1 rfl) ?_
      refine lv_iconst (v := 1) hx hb dX4_removePattern_23 (by decide) ?_
      refine lv_iadd hx hb dX4_removePattern_24 ?_
      obtain ⟨b5, h⟩ := xm_ck_s h
      refine xm_aald (V := (xv E a)) (K := RX2) (v := a (o0 + 5 + 3 * (x2 + 1).toNatClampNeg)) C hP (o0 + 4) 4 4 (xs_lt h0 4 (by omega)) (xs_4 h0 E a) rfl b5 (xo_rp_at b5) dX4_removePattern_25 ?_
      obtain ⟨M6, e8, h⟩ := xm_b1_s h
      refine xm_callVN C hP hS [.ref (a (o0 + 5 + 3 * (x2 + 1).toNatClampNeg))] [] (c_X2_copyFrom hD (xp_s h0 b4) (xp_s h0 b5) n M  M6 e8) k_X4_42 (xm_recv C hP (o0 + 5 + 3 * x2.toNatClampNeg) rfl (xp_lt (xp_s h0 b4) 0 (by omega)) ((xp_0 (xp_s h0 b4) E a) _)) rfl rfl ⟨(Nat.le_of_ble_eq_true rfl), (Nat.le_of_ble_eq_true rfl)⟩ hl.1 (Nat.le_of_ble_eq_true rfl) ⟨Nat.zero_le _, Nat.zero_le _⟩ dX4_removePattern_26 (fun H locs hP hS => ?_)
      change W p l e _ s m _ below meth c H locs 0 0 _ (F0 m 29 ls [])
      refine lv_iinc (v := x2 + 1) (lv' := [(2, .int (x2 + 1)), (0, .ref (a o0))]) hx hb dX4_removePattern_29 hl (k := 1) rfl (xm_add (by decide)) (by decide) rfl (fun ls hl => ?_)
      refine lv_goto (tgt := 2) hx hb dX4_removePattern_32 (by decide) ?_
      exact ih M6 (x2 + 1) r M' h _ _ _ hP hS (lv_sub hl [1, 0] rfl)
def f_X4_removePattern (n : Nat) (M : xm_M) (o0 : Nat) (x1 : Int32) : Option (Int32 × xm_M) := f_X4_removePattern_2 n M o0 x1
set_option maxHeartbeats 4000000 in
set_option maxRecDepth 100000 in
theorem t_X4_removePattern_0 {l : Launch} {p : Program} {e : Env} {s : State} {m : MethodId} {args : Array Value} {below : List Frame} {meth : Method} {c : Code} {E : xm_E} {a : Nat → Nat} (C : xm_C E (xv E a) p s m args meth c RX4 cX4_removePattern 3 (some .int)) {o0 : Nat} (h0 : xm_St o0) (n : Nat) (M : xm_M) (x1 : Int32) (r : Int32) (M' : xm_M) : f_X4_removePattern n M o0 x1 = some (r, M') → ∀ (H : Heap) (locs : List Loc) (ls : Array Slot), va_P E.1 vwCl (xm_w (xv E a) M) H → va_S (xm_A (xv E a) s.heap.size) s.heap H locs → lv_has ls 3 [(0, .ref (a o0)), (1, .int x1)] → W p l e { frames := 1, cells := 0, slots := 0, locals := 22 } s m args below meth c H locs 0 0 (MQ below (xm_Q E (xv E a) M' s.heap.size (some r)) args s 0 0 (xm_A (xv E a) s.heap.size)) (F0 m 0 ls []) := by
  have C9 := C
  obtain ⟨hx, hb, hml, hown, hts, hr, hlk, hD, hK, hS9⟩ := C9
  intro h H locs ls hP hS hl
  unfold f_X4_removePattern at h
  refine lv_iload_n hx hb dX4_removePattern_0 rfl (lv_at hl 1 rfl) ?_
  refine lv_istore_n (lv' := [(2, .int x1), (0, .ref (a o0)), (1, .int x1)]) hx hb dX4_removePattern_1 rfl hl (by decide) rfl (fun ls hl => ?_)
  exact t_X4_removePattern_2 C h0 n M x1 r M' h _ _ _ hP hS (lv_sub hl [1, 0] rfl)
theorem c_X4_removePattern {l : Launch} {E : xm_E} {a : Nat → Nat} (hD : xm_D (xv E a)) {o0 : Nat} (h0 : xm_St o0) (n : Nat) (M : xm_M) (x1 : Int32) (r : Int32) (M' : xm_M) (h : f_X4_removePattern n M o0 x1 = some (r, M')) : xm_Met l E (xv E a) yX4_removePattern cX4_removePattern 3 (some .int) 1 22 [.ref (a o0), .int x1] M M' (some r) :=
  xm_met (by decide +kernel) rfl (Nat.le_of_ble_eq_true rfl) hD (fun p e s m below meth c C hP ls hl => t_X4_removePattern_0 C h0 n M x1 r M' h _ _ _ hP va_S.rf hl)
def f_X0_record_30 (n : Nat) (M : xm_M) (o1 : Nat) : Option xm_M := xm_ck (xm_in (((M 4 1) + (M 4 2)) - ((M 4 1) + (M 4 2)) / 4 * 4) 4) (xm_b1 (f_X4_copyFrom n M (52 + 17 * (((M 4 1) + (M 4 2)) - ((M 4 1) + (M 4 2)) / 4 * 4).toNatClampNeg) o1) (fun M2 => xm_lt (xm_up M2 4 2 ((M2 4 2) + 1)) (fun M5 => some M5)))
set_option maxHeartbeats 4000000 in
set_option maxRecDepth 100000 in
theorem t_X0_record_30 {l : Launch} {p : Program} {e : Env} {s : State} {m : MethodId} {args : Array Value} {below : List Frame} {meth : Method} {c : Code} {E : xm_E} {a : Nat → Nat} (C : xm_C E (xv E a) p s m args meth c RX0 cX0_record 2 none) {o1 : Nat} (h1 : xm_St o1) (n : Nat) (M : xm_M) (M' : xm_M) : f_X0_record_30 n M o1 = some M' → ∀ (H : Heap) (locs : List Loc) (ls : Array Slot), va_P E.1 vwCl (xm_w (xv E a) M) H → va_S (xm_A (xv E a) s.heap.size) s.heap H locs → lv_has ls 2 [(0, .ref (a 4)), (1, .ref (a o1))] → W p l e { frames := 2, cells := 0, slots := 0, locals := 44 } s m args below meth c H locs 0 0 (MQ below (xm_Q E (xv E a) M' s.heap.size none) args s 0 0 (xm_A (xv E a) s.heap.size)) (F0 m 30 ls []) := by
  have C9 := C
  obtain ⟨hx, hb, hml, hown, hts, hr, hlk, hD, hK, hS9⟩ := C9
  intro h H locs ls hP hS hl
  unfold f_X0_record_30 at h
  refine lv_aload_n hx hb dX0_record_30 rfl (lv_at hl 0 rfl) ?_
  refine xm_get (V := (xv E a)) (T := TX0) (v := .ref (a 5)) C hP 4 0 xi_0 rfl l_X0_11 rfl (Nat.le_of_ble_eq_true rfl) ((xe_4 E a) _) (Nat.le_of_ble_eq_true rfl) rfl dX0_record_31 ?_
  refine lv_aload_n hx hb dX0_record_34 rfl (lv_at hl 0 rfl) ?_
  refine xm_get (V := (xv E a)) (T := TX0) (v := .int (M 4 1)) C hP 4 1 xi_0 rfl l_X0_17 rfl (Nat.le_of_ble_eq_true rfl) ((xe_4 E a) _) (Nat.le_of_ble_eq_true rfl) rfl dX0_record_35 ?_
  refine lv_aload_n hx hb dX0_record_38 rfl (lv_at hl 0 rfl) ?_
  refine xm_get (V := (xv E a)) (T := TX0) (v := .int (M 4 2)) C hP 4 2 xi_0 rfl l_X0_21 rfl (Nat.le_of_ble_eq_true rfl) ((xe_4 E a) _) (Nat.le_of_ble_eq_true rfl) rfl dX0_record_39 ?_
  refine lv_iadd hx hb dX0_record_42 ?_
  refine lv_iconst (v := 4) hx hb dX0_record_43 (by decide) ?_
  refine lv_irem hx hb dX0_record_44 (by decide) ?_
  obtain ⟨b1, h⟩ := xm_ck_s h
  refine xm_aald (V := (xv E a)) (K := RX4) (v := a (52 + 17 * (((M 4 1) + (M 4 2)) - ((M 4 1) + (M 4 2)) / 4 * 4).toNatClampNeg)) C hP 5 4 3 (Nat.le_of_ble_eq_true rfl) (xe_5 E a) rfl b1 (xo_rs_at b1) dX0_record_45 ?_
  refine lv_aload_n hx hb dX0_record_46 rfl (lv_at hl 1 rfl) ?_
  obtain ⟨M2, e4, h⟩ := xm_b1_s h
  refine xm_callVN C hP hS [.ref (a o1)] [] (c_X4_copyFrom hD (xs_h b1) h1 n M  M2 e4) k_X0_25 (xm_recv C hP (52 + 17 * (((M 4 1) + (M 4 2)) - ((M 4 1) + (M 4 2)) / 4 * 4).toNatClampNeg) rfl (xs_lt (xs_h b1) 0 (by omega)) ((xs_0 (xs_h b1) E a) _)) rfl rfl ⟨(Nat.le_of_ble_eq_true rfl), (Nat.le_of_ble_eq_true rfl)⟩ hl.1 (Nat.le_of_ble_eq_true rfl) ⟨Nat.zero_le _, Nat.zero_le _⟩ dX0_record_47 (fun H locs hP hS => ?_)
  change W p l e _ s m _ below meth c H locs 0 0 _ (F0 m 50 ls [])
  refine lv_aload_n hx hb dX0_record_50 rfl (lv_at hl 0 rfl) ?_
  refine lv_dup hx hb dX0_record_51 rfl ?_
  refine xm_get (V := (xv E a)) (T := TX0) (v := .int (M2 4 2)) C hP 4 2 xi_0 rfl l_X0_21 rfl (Nat.le_of_ble_eq_true rfl) ((xe_4 E a) _) (Nat.le_of_ble_eq_true rfl) rfl dX0_record_52 ?_
  refine lv_iconst (v := 1) hx hb dX0_record_55 (by decide) ?_
  refine lv_iadd hx hb dX0_record_56 ?_
  obtain ⟨M5, e6, h⟩ := xm_lt_s h
  refine xm_put (V := (xv E a)) (T := TX0) (ty := .int) (x := (M2 4 2) + 1) C hP hS 4 2 xi_0 rfl l_X0_21 rfl tyX0_ok nmX0 (Nat.le_of_ble_eq_true rfl) ((xe_4 E a) _) (Nat.le_of_ble_eq_true rfl) rfl (by decide +kernel) rfl rfl (Nat.le_of_ble_eq_true rfl) ((xe_4 E a) _) dX0_record_57 (fun H locs hP hS => ?_)
  rw [← e6] at hP
  cases xm_on h
  exact xm_retV C hP hS dX0_record_60
def f_X0_record (n : Nat) (M : xm_M) (o1 : Nat) : Option xm_M := if (M 4 2) < 4 then f_X0_record_30 n M o1 else xm_lt (xm_up M 4 1 (((M 4 1) + 1) - ((M 4 1) + 1) / 4 * 4)) (fun M2 => xm_lt (xm_up M2 4 2 ((M2 4 2) - 1)) (fun M4 => f_X0_record_30 n M4 o1))
set_option maxHeartbeats 4000000 in
set_option maxRecDepth 100000 in
theorem t_X0_record_0 {l : Launch} {p : Program} {e : Env} {s : State} {m : MethodId} {args : Array Value} {below : List Frame} {meth : Method} {c : Code} {E : xm_E} {a : Nat → Nat} (C : xm_C E (xv E a) p s m args meth c RX0 cX0_record 2 none) {o1 : Nat} (h1 : xm_St o1) (n : Nat) (M : xm_M) (M' : xm_M) : f_X0_record n M o1 = some M' → ∀ (H : Heap) (locs : List Loc) (ls : Array Slot), va_P E.1 vwCl (xm_w (xv E a) M) H → va_S (xm_A (xv E a) s.heap.size) s.heap H locs → lv_has ls 2 [(0, .ref (a 4)), (1, .ref (a o1))] → W p l e { frames := 2, cells := 0, slots := 0, locals := 44 } s m args below meth c H locs 0 0 (MQ below (xm_Q E (xv E a) M' s.heap.size none) args s 0 0 (xm_A (xv E a) s.heap.size)) (F0 m 0 ls []) := by
  have C9 := C
  obtain ⟨hx, hb, hml, hown, hts, hr, hlk, hD, hK, hS9⟩ := C9
  intro h H locs ls hP hS hl
  unfold f_X0_record at h
  refine lv_aload_n hx hb dX0_record_0 rfl (lv_at hl 0 rfl) ?_
  refine xm_get (V := (xv E a)) (T := TX0) (v := .int (M 4 2)) C hP 4 2 xi_0 rfl l_X0_21 rfl (Nat.le_of_ble_eq_true rfl) ((xe_4 E a) _) (Nat.le_of_ble_eq_true rfl) rfl dX0_record_1 ?_
  refine lv_iconst (v := 4) hx hb dX0_record_4 (by decide) ?_
  refine lv_icmp_lt (tgt := 30) hx hb dX0_record_5 (by decide) (fun c1 => ?_) (fun c1 => ?_)
  · rw [if_pos c1] at h
    exact t_X0_record_30 C h1 n M  M' h _ _ _ hP hS (lv_sub hl [0, 1] rfl)
  · rw [if_neg c1] at h
    refine lv_aload_n hx hb dX0_record_8 rfl (lv_at hl 0 rfl) ?_
    refine lv_aload_n hx hb dX0_record_9 rfl (lv_at hl 0 rfl) ?_
    refine xm_get (V := (xv E a)) (T := TX0) (v := .int (M 4 1)) C hP 4 1 xi_0 rfl l_X0_17 rfl (Nat.le_of_ble_eq_true rfl) ((xe_4 E a) _) (Nat.le_of_ble_eq_true rfl) rfl dX0_record_10 ?_
    refine lv_iconst (v := 1) hx hb dX0_record_13 (by decide) ?_
    refine lv_iadd hx hb dX0_record_14 ?_
    refine lv_iconst (v := 4) hx hb dX0_record_15 (by decide) ?_
    refine lv_irem hx hb dX0_record_16 (by decide) ?_
    obtain ⟨M2, e3, h⟩ := xm_lt_s h
    refine xm_put (V := (xv E a)) (T := TX0) (ty := .int) (x := ((M 4 1) + 1) - ((M 4 1) + 1) / 4 * 4) C hP hS 4 1 xi_0 rfl l_X0_17 rfl tyX0_ok nmX0 (Nat.le_of_ble_eq_true rfl) ((xe_4 E a) _) (Nat.le_of_ble_eq_true rfl) rfl (by decide +kernel) rfl rfl (Nat.le_of_ble_eq_true rfl) ((xe_4 E a) _) dX0_record_17 (fun H locs hP hS => ?_)
    rw [← e3] at hP
    refine lv_aload_n hx hb dX0_record_20 rfl (lv_at hl 0 rfl) ?_
    refine lv_dup hx hb dX0_record_21 rfl ?_
    refine xm_get (V := (xv E a)) (T := TX0) (v := .int (M2 4 2)) C hP 4 2 xi_0 rfl l_X0_21 rfl (Nat.le_of_ble_eq_true rfl) ((xe_4 E a) _) (Nat.le_of_ble_eq_true rfl) rfl dX0_record_22 ?_
    refine lv_iconst (v := 1) hx hb dX0_record_25 (by decide) ?_
    refine lv_isub hx hb dX0_record_26 ?_
    obtain ⟨M4, e5, h⟩ := xm_lt_s h
    refine xm_put (V := (xv E a)) (T := TX0) (ty := .int) (x := (M2 4 2) - 1) C hP hS 4 2 xi_0 rfl l_X0_21 rfl tyX0_ok nmX0 (Nat.le_of_ble_eq_true rfl) ((xe_4 E a) _) (Nat.le_of_ble_eq_true rfl) rfl (by decide +kernel) rfl rfl (Nat.le_of_ble_eq_true rfl) ((xe_4 E a) _) dX0_record_27 (fun H locs hP hS => ?_)
    rw [← e5] at hP
    exact t_X0_record_30 C h1 n M4  M' h _ _ _ hP hS (lv_sub hl [0, 1] rfl)
theorem c_X0_record {l : Launch} {E : xm_E} {a : Nat → Nat} (hD : xm_D (xv E a)) {o1 : Nat} (h1 : xm_St o1) (n : Nat) (M : xm_M) (M' : xm_M) (h : f_X0_record n M o1 = some M') : xm_Met l E (xv E a) yX0_record cX0_record 2 none 2 44 [.ref (a 4), .ref (a o1)] M M' none :=
  xm_met (by decide +kernel) rfl (Nat.le_of_ble_eq_true rfl) hD (fun p e s m below meth c C hP ls hl => t_X0_record_0 C h1 n M M' h _ _ _ hP va_S.rf hl)
def f_X0_removeLatestInto (n : Nat) (M : xm_M) (o1 : Nat) : Option xm_M := if (0 : Int32) < (M 4 2) then xm_lt (xm_up M 4 2 ((M 4 2) - 1)) (fun M2 => xm_ck (xm_in (((M2 4 1) + (M2 4 2)) - ((M2 4 1) + (M2 4 2)) / 4 * 4) 4) (xm_b1 (f_X4_copyFrom n M2 o1 (52 + 17 * (((M2 4 1) + (M2 4 2)) - ((M2 4 1) + (M2 4 2)) / 4 * 4).toNatClampNeg)) (fun M5 => some M5))) else some M
set_option maxHeartbeats 4000000 in
set_option maxRecDepth 100000 in
theorem t_X0_removeLatestInto_0 {l : Launch} {p : Program} {e : Env} {s : State} {m : MethodId} {args : Array Value} {below : List Frame} {meth : Method} {c : Code} {E : xm_E} {a : Nat → Nat} (C : xm_C E (xv E a) p s m args meth c RX0 cX0_removeLatestInto 2 none) {o1 : Nat} (h1 : xm_St o1) (n : Nat) (M : xm_M) (M' : xm_M) : f_X0_removeLatestInto n M o1 = some M' → ∀ (H : Heap) (locs : List Loc) (ls : Array Slot), va_P E.1 vwCl (xm_w (xv E a) M) H → va_S (xm_A (xv E a) s.heap.size) s.heap H locs → lv_has ls 2 [(0, .ref (a 4)), (1, .ref (a o1))] → W p l e { frames := 2, cells := 0, slots := 0, locals := 44 } s m args below meth c H locs 0 0 (MQ below (xm_Q E (xv E a) M' s.heap.size none) args s 0 0 (xm_A (xv E a) s.heap.size)) (F0 m 0 ls []) := by
  have C9 := C
  obtain ⟨hx, hb, hml, hown, hts, hr, hlk, hD, hK, hS9⟩ := C9
  intro h H locs ls hP hS hl
  unfold f_X0_removeLatestInto at h
  refine lv_aload_n hx hb dX0_removeLatestInto_0 rfl (lv_at hl 0 rfl) ?_
  refine xm_get (V := (xv E a)) (T := TX0) (v := .int (M 4 2)) C hP 4 2 xi_0 rfl l_X0_21 rfl (Nat.le_of_ble_eq_true rfl) ((xe_4 E a) _) (Nat.le_of_ble_eq_true rfl) rfl dX0_removeLatestInto_1 ?_
  refine lv_if_gt (tgt := 8) hx hb dX0_removeLatestInto_4 (by decide) (fun c1 => ?_) (fun c1 => ?_)
  · rw [if_pos c1] at h
    refine lv_aload_n hx hb dX0_removeLatestInto_8 rfl (lv_at hl 0 rfl) ?_
    refine lv_dup hx hb dX0_removeLatestInto_9 rfl ?_
    refine xm_get (V := (xv E a)) (T := TX0) (v := .int (M 4 2)) C hP 4 2 xi_0 rfl l_X0_21 rfl (Nat.le_of_ble_eq_true rfl) ((xe_4 E a) _) (Nat.le_of_ble_eq_true rfl) rfl dX0_removeLatestInto_10 ?_
    refine lv_iconst (v := 1) hx hb dX0_removeLatestInto_13 (by decide) ?_
    refine lv_isub hx hb dX0_removeLatestInto_14 ?_
    obtain ⟨M2, e3, h⟩ := xm_lt_s h
    refine xm_put (V := (xv E a)) (T := TX0) (ty := .int) (x := (M 4 2) - 1) C hP hS 4 2 xi_0 rfl l_X0_21 rfl tyX0_ok nmX0 (Nat.le_of_ble_eq_true rfl) ((xe_4 E a) _) (Nat.le_of_ble_eq_true rfl) rfl (by decide +kernel) rfl rfl (Nat.le_of_ble_eq_true rfl) ((xe_4 E a) _) dX0_removeLatestInto_15 (fun H locs hP hS => ?_)
    rw [← e3] at hP
    refine lv_aload_n hx hb dX0_removeLatestInto_18 rfl (lv_at hl 1 rfl) ?_
    refine lv_aload_n hx hb dX0_removeLatestInto_19 rfl (lv_at hl 0 rfl) ?_
    refine xm_get (V := (xv E a)) (T := TX0) (v := .ref (a 5)) C hP 4 0 xi_0 rfl l_X0_11 rfl (Nat.le_of_ble_eq_true rfl) ((xe_4 E a) _) (Nat.le_of_ble_eq_true rfl) rfl dX0_removeLatestInto_20 ?_
    refine lv_aload_n hx hb dX0_removeLatestInto_23 rfl (lv_at hl 0 rfl) ?_
    refine xm_get (V := (xv E a)) (T := TX0) (v := .int (M2 4 1)) C hP 4 1 xi_0 rfl l_X0_17 rfl (Nat.le_of_ble_eq_true rfl) ((xe_4 E a) _) (Nat.le_of_ble_eq_true rfl) rfl dX0_removeLatestInto_24 ?_
    refine lv_aload_n hx hb dX0_removeLatestInto_27 rfl (lv_at hl 0 rfl) ?_
    refine xm_get (V := (xv E a)) (T := TX0) (v := .int (M2 4 2)) C hP 4 2 xi_0 rfl l_X0_21 rfl (Nat.le_of_ble_eq_true rfl) ((xe_4 E a) _) (Nat.le_of_ble_eq_true rfl) rfl dX0_removeLatestInto_28 ?_
    refine lv_iadd hx hb dX0_removeLatestInto_31 ?_
    refine lv_iconst (v := 4) hx hb dX0_removeLatestInto_32 (by decide) ?_
    refine lv_irem hx hb dX0_removeLatestInto_33 (by decide) ?_
    obtain ⟨b4, h⟩ := xm_ck_s h
    refine xm_aald (V := (xv E a)) (K := RX4) (v := a (52 + 17 * (((M2 4 1) + (M2 4 2)) - ((M2 4 1) + (M2 4 2)) / 4 * 4).toNatClampNeg)) C hP 5 4 3 (Nat.le_of_ble_eq_true rfl) (xe_5 E a) rfl b4 (xo_rs_at b4) dX0_removeLatestInto_34 ?_
    obtain ⟨M5, e7, h⟩ := xm_b1_s h
    refine xm_callVN C hP hS [.ref (a (52 + 17 * (((M2 4 1) + (M2 4 2)) - ((M2 4 1) + (M2 4 2)) / 4 * 4).toNatClampNeg))] [] (c_X4_copyFrom hD h1 (xs_h b4) n M2  M5 e7) k_X0_25 (xm_recv C hP o1 rfl (xs_lt h1 0 (by omega)) ((xs_0 h1 E a) _)) rfl rfl ⟨(Nat.le_of_ble_eq_true rfl), (Nat.le_of_ble_eq_true rfl)⟩ hl.1 (Nat.le_of_ble_eq_true rfl) ⟨Nat.zero_le _, Nat.zero_le _⟩ dX0_removeLatestInto_35 (fun H locs hP hS => ?_)
    change W p l e _ s m _ below meth c H locs 0 0 _ (F0 m 38 ls [])
    cases xm_on h
    exact xm_retV C hP hS dX0_removeLatestInto_38
  · rw [if_neg c1] at h
    cases xm_on h
    exact xm_retV C hP hS dX0_removeLatestInto_7
theorem c_X0_removeLatestInto {l : Launch} {E : xm_E} {a : Nat → Nat} (hD : xm_D (xv E a)) {o1 : Nat} (h1 : xm_St o1) (n : Nat) (M : xm_M) (M' : xm_M) (h : f_X0_removeLatestInto n M o1 = some M') : xm_Met l E (xv E a) yX0_removeLatestInto cX0_removeLatestInto 2 none 2 44 [.ref (a 4), .ref (a o1)] M M' none :=
  xm_met (by decide +kernel) rfl (Nat.le_of_ble_eq_true rfl) hD (fun p e s m below meth c C hP ls hl => t_X0_removeLatestInto_0 C h1 n M M' h _ _ _ hP va_S.rf hl)
end
section
theorem l_X1_15 : Cond.fieldLink RX1 15 "WindowMatches$Line" "numbers" "[I" ∈ xm_tb := xm_tb_of (List.mem_of_getElem? (i := 164) (by decide +kernel)) rfl
theorem l_X1_19 : Cond.fieldLink RX1 19 "WindowMatches$Line" "kinds" "[C" ∈ xm_tb := xm_tb_of (List.mem_of_getElem? (i := 166) (by decide +kernel)) rfl
theorem l_X1_23 : Cond.fieldLink RX1 23 "WindowMatches$Line" "values" "[I" ∈ xm_tb := xm_tb_of (List.mem_of_getElem? (i := 168) (by decide +kernel)) rfl
theorem l_X1_26 : Cond.fieldLink RX1 26 "WindowMatches$Line" "times" "[I" ∈ xm_tb := xm_tb_of (List.mem_of_getElem? (i := 170) (by decide +kernel)) rfl
theorem l_X1_9 : Cond.fieldLink RX1 9 "WindowMatches$Line" "size" "I" ∈ xm_tb := xm_tb_of (List.mem_of_getElem? (i := 162) (by decide +kernel)) rfl
theorem k_X1_41 : xm_FV RX1 41 yX1_put cX1_put 6 none 5 := ⟨xm_tb_of (List.mem_of_getElem? (i := 285) (by decide +kernel)) rfl, xm_tb_of (List.mem_of_getElem? (i := 282) (by decide +kernel)) rfl, xm_tb_of (List.mem_of_getElem? (i := 284) (by decide +kernel)) rfl, xm_tb_sel (List.mem_of_getElem? (i := 3) (by decide +kernel)) rfl, xm_tb_of (List.mem_of_getElem? (i := 7) (by decide +kernel)) rfl, ⟨by decide +kernel, by decide +kernel, by decide +kernel⟩⟩
theorem l_X1_29 : Cond.fieldLinkNest RX1 29 "WindowMatches$State" "events" "I" "WindowMatches" ∈ xm_nest := xm_nest_of (List.mem_of_getElem? (i := 72) (by decide +kernel)) rfl
theorem l_X1_34 : Cond.fieldLinkNest RX1 34 "WindowMatches$State" "kinds" "[C" "WindowMatches" ∈ xm_nest := xm_nest_of (List.mem_of_getElem? (i := 75) (by decide +kernel)) rfl
theorem l_X1_35 : Cond.fieldLinkNest RX1 35 "WindowMatches$State" "values" "[I" "WindowMatches" ∈ xm_nest := xm_nest_of (List.mem_of_getElem? (i := 78) (by decide +kernel)) rfl
theorem l_X1_36 : Cond.fieldLinkNest RX1 36 "WindowMatches$State" "times" "[I" "WindowMatches" ∈ xm_nest := xm_nest_of (List.mem_of_getElem? (i := 81) (by decide +kernel)) rfl
theorem k_X1_37 : xm_FV RX1 37 yX1_insert cX1_insert 6 none 4 := ⟨xm_tb_of (List.mem_of_getElem? (i := 281) (by decide +kernel)) rfl, xm_tb_of (List.mem_of_getElem? (i := 278) (by decide +kernel)) rfl, xm_tb_of (List.mem_of_getElem? (i := 280) (by decide +kernel)) rfl, xm_tb_sel (List.mem_of_getElem? (i := 2) (by decide +kernel)) rfl, xm_tb_of (List.mem_of_getElem? (i := 7) (by decide +kernel)) rfl, ⟨by decide +kernel, by decide +kernel, by decide +kernel⟩⟩
theorem l_X3_12 : Cond.fieldLink RX3 12 "WindowMatches$Search" "line" "LWindowMatches$Line;" ∈ xm_tb := xm_tb_of (List.mem_of_getElem? (i := 183) (by decide +kernel)) rfl
theorem k_X3_66 : xm_FVN RX3 66 yX1_fillFrom "WindowMatches" cX1_fillFrom 3 none 1 := ⟨xm_tb_of (List.mem_of_getElem? (i := 277) (by decide +kernel)) rfl, xm_nest_of (List.mem_of_getElem? (i := 274) (by decide +kernel)) rfl, xm_tb_of (List.mem_of_getElem? (i := 276) (by decide +kernel)) rfl, xm_tb_sel (List.mem_of_getElem? (i := 1) (by decide +kernel)) rfl, xm_tb_of (List.mem_of_getElem? (i := 7) (by decide +kernel)) rfl, ⟨by decide +kernel, by decide +kernel, by decide +kernel⟩⟩
theorem l_X3_70 : Cond.fieldLinkNest RX3 70 "WindowMatches$State" "newestTime" "I" "WindowMatches" ∈ xm_nest := xm_nest_of (List.mem_of_getElem? (i := 84) (by decide +kernel)) rfl
theorem l_X3_18 : Cond.fieldLink RX3 18 "WindowMatches$Search" "newestTime" "I" ∈ xm_tb := xm_tb_of (List.mem_of_getElem? (i := 185) (by decide +kernel)) rfl
theorem k_X3_73 : xm_FVN RX3 73 yX4_watermark "WindowMatches" cX4_watermark 1 (some .int) 0 := ⟨xm_tb_of (List.mem_of_getElem? (i := 289) (by decide +kernel)) rfl, xm_nest_of (List.mem_of_getElem? (i := 286) (by decide +kernel)) rfl, xm_tb_of (List.mem_of_getElem? (i := 288) (by decide +kernel)) rfl, xm_tb_sel (List.mem_of_getElem? (i := 4) (by decide +kernel)) rfl, xm_tb_of (List.mem_of_getElem? (i := 2) (by decide +kernel)) rfl, ⟨by decide +kernel, by decide +kernel, by decide +kernel⟩⟩
theorem l_X3_22 : Cond.fieldLink RX3 22 "WindowMatches$Search" "watermark" "I" ∈ xm_tb := xm_tb_of (List.mem_of_getElem? (i := 186) (by decide +kernel)) rfl
theorem l_X3_25 : Cond.fieldLink RX3 25 "WindowMatches$Search" "wantedRank" "I" ∈ xm_tb := xm_tb_of (List.mem_of_getElem? (i := 187) (by decide +kernel)) rfl
theorem l_X3_31 : Cond.fieldLink RX3 31 "WindowMatches$Search" "wantedEvent" "I" ∈ xm_tb := xm_tb_of (List.mem_of_getElem? (i := 189) (by decide +kernel)) rfl
theorem l_X3_63 : Cond.fieldLink RX3 63 "WindowMatches$Search" "shares" "[I" ∈ xm_tb := xm_tb_of (List.mem_of_getElem? (i := 203) (by decide +kernel)) rfl
theorem l_X3_28 : Cond.fieldLink RX3 28 "WindowMatches$Search" "wantedPlace" "I" ∈ xm_tb := xm_tb_of (List.mem_of_getElem? (i := 188) (by decide +kernel)) rfl
theorem l_X3_40 : Cond.fieldLink RX3 40 "WindowMatches$Search" "plainSteps" "I" ∈ xm_tb := xm_tb_of (List.mem_of_getElem? (i := 193) (by decide +kernel)) rfl
theorem l_X3_98 : Cond.fieldLinkNest RX3 98 "WindowMatches$Pattern" "steps" "I" "WindowMatches" ∈ xm_nest := xm_nest_of (List.mem_of_getElem? (i := 43) (by decide +kernel)) rfl
theorem l_X3_101 : Cond.fieldLinkNest RX3 101 "WindowMatches$Pattern" "absent" "[Z" "WindowMatches" ∈ xm_nest := xm_nest_of (List.mem_of_getElem? (i := 53) (by decide +kernel)) rfl
theorem l_X3_43 : Cond.fieldLink RX3 43 "WindowMatches$Search" "kinds" "[C" ∈ xm_tb := xm_tb_of (List.mem_of_getElem? (i := 194) (by decide +kernel)) rfl
theorem l_X3_105 : Cond.fieldLinkNest RX3 105 "WindowMatches$Pattern" "kinds" "[C" "WindowMatches" ∈ xm_nest := xm_nest_of (List.mem_of_getElem? (i := 50) (by decide +kernel)) rfl
theorem l_X3_47 : Cond.fieldLink RX3 47 "WindowMatches$Search" "barsAhead" "[C" ∈ xm_tb := xm_tb_of (List.mem_of_getElem? (i := 195) (by decide +kernel)) rfl
theorem l_X3_124 : Cond.fieldLinkNest RX3 124 "WindowMatches$Line" "times" "[I" "WindowMatches" ∈ xm_nest := xm_nest_of (List.mem_of_getElem? (i := 171) (by decide +kernel)) rfl
theorem l_X3_50 : Cond.fieldLink RX3 50 "WindowMatches$Search" "chosen" "[I" ∈ xm_tb := xm_tb_of (List.mem_of_getElem? (i := 196) (by decide +kernel)) rfl
theorem l_X3_34 : Cond.fieldLink RX3 34 "WindowMatches$Search" "window" "I" ∈ xm_tb := xm_tb_of (List.mem_of_getElem? (i := 191) (by decide +kernel)) rfl
theorem l_X3_123 : Cond.fieldLinkNest RX3 123 "WindowMatches$Line" "kinds" "[C" "WindowMatches" ∈ xm_nest := xm_nest_of (List.mem_of_getElem? (i := 167) (by decide +kernel)) rfl
theorem l_X3_37 : Cond.fieldLink RX3 37 "WindowMatches$Search" "rule" "I" ∈ xm_tb := xm_tb_of (List.mem_of_getElem? (i := 192) (by decide +kernel)) rfl
theorem l_X3_127 : Cond.fieldLinkNest RX3 127 "WindowMatches$Line" "values" "[I" "WindowMatches" ∈ xm_nest := xm_nest_of (List.mem_of_getElem? (i := 169) (by decide +kernel)) rfl
theorem l_X3_60 : Cond.fieldLink RX3 60 "WindowMatches$Search" "branches" "I" ∈ xm_tb := xm_tb_of (List.mem_of_getElem? (i := 201) (by decide +kernel)) rfl
theorem l_X3_57 : Cond.fieldLink RX3 57 "WindowMatches$Search" "sureMatches" "I" ∈ xm_tb := xm_tb_of (List.mem_of_getElem? (i := 199) (by decide +kernel)) rfl
theorem l_X3_54 : Cond.fieldLink RX3 54 "WindowMatches$Search" "matches" "I" ∈ xm_tb := xm_tb_of (List.mem_of_getElem? (i := 197) (by decide +kernel)) rfl
theorem l_X3_130 : Cond.fieldLinkNest RX3 130 "WindowMatches$Line" "numbers" "[I" "WindowMatches" ∈ xm_nest := xm_nest_of (List.mem_of_getElem? (i := 165) (by decide +kernel)) rfl
theorem k_X3_133 : xm_FVN RX3 133 yX1_placeOf "WindowMatches" cX1_placeOf 4 (some .int) 1 := ⟨xm_tb_of (List.mem_of_getElem? (i := 581) (by decide +kernel)) rfl, xm_nest_of (List.mem_of_getElem? (i := 586) (by decide +kernel)) rfl, xm_tb_of (List.mem_of_getElem? (i := 580) (by decide +kernel)) rfl, xm_tb_sel (List.mem_of_getElem? (i := 39) (by decide +kernel)) rfl, xm_tb_of (List.mem_of_getElem? (i := 7) (by decide +kernel)) rfl, ⟨by decide +kernel, by decide +kernel, by decide +kernel⟩⟩
theorem l_X3_109 : Cond.fieldLinkNest RX3 109 "WindowMatches$Line" "size" "I" "WindowMatches" ∈ xm_nest := xm_nest_of (List.mem_of_getElem? (i := 163) (by decide +kernel)) rfl
def f_X1_put (n : Nat) (M : xm_M) (x1 : Int32) (x2 : Int32) (x3 : Int32) (x4 : Int32) (x5 : Int32) : Option xm_M := xm_ck (xm_in x1 25) (xm_lt (xm_up M 14 x1.toNatClampNeg x2) (fun M2 => xm_ck (xm_in x1 25) (xm_lt (xm_up M2 15 x1.toNatClampNeg (vp_nar .char x3)) (fun M5 => xm_ck (xm_in x1 25) (xm_lt (xm_up M5 16 x1.toNatClampNeg x4) (fun M8 => xm_ck (xm_in x1 25) (xm_lt (xm_up M8 17 x1.toNatClampNeg x5) (fun M11 => some M11))))))))
set_option maxHeartbeats 4000000 in
set_option maxRecDepth 100000 in
theorem t_X1_put_0 {l : Launch} {p : Program} {e : Env} {s : State} {m : MethodId} {args : Array Value} {below : List Frame} {meth : Method} {c : Code} {E : xm_E} {a : Nat → Nat} (C : xm_C E (xv E a) p s m args meth c RX1 cX1_put 6 none) (n : Nat) (M : xm_M) (x1 : Int32) (x2 : Int32) (x3 : Int32) (x4 : Int32) (x5 : Int32) (M' : xm_M) : f_X1_put n M x1 x2 x3 x4 x5 = some M' → ∀ (H : Heap) (locs : List Loc) (ls : Array Slot), va_P E.1 vwCl (xm_w (xv E a) M) H → va_S (xm_A (xv E a) s.heap.size) s.heap H locs → lv_has ls 6 [(0, .ref (a 13)), (1, .int x1), (2, .int x2), (3, .int x3), (4, .int x4), (5, .int x5)] → W p l e { frames := 0, cells := 0, slots := 0, locals := 0 } s m args below meth c H locs 0 0 (MQ below (xm_Q E (xv E a) M' s.heap.size none) args s 0 0 (xm_A (xv E a) s.heap.size)) (F0 m 0 ls []) := by
  have C9 := C
  obtain ⟨hx, hb, hml, hown, hts, hr, hlk, hD, hK, hS9⟩ := C9
  intro h H locs ls hP hS hl
  unfold f_X1_put at h
  refine lv_aload_n hx hb dX1_put_0 rfl (lv_at hl 0 rfl) ?_
  refine xm_get (V := (xv E a)) (T := TX1) (v := .ref (a 14)) C hP 13 1 xi_1 rfl l_X1_15 rfl (Nat.le_of_ble_eq_true rfl) ((xe_13 E a) _) (Nat.le_of_ble_eq_true rfl) rfl dX1_put_1 ?_
  refine lv_iload_n hx hb dX1_put_4 rfl (lv_at hl 1 rfl) ?_
  refine lv_iload_n hx hb dX1_put_5 rfl (lv_at hl 2 rfl) ?_
  obtain ⟨b1, h⟩ := xm_ck_s h
  obtain ⟨M2, e3, h⟩ := xm_lt_s h
  refine xm_iast (V := (xv E a)) C hP hS 14 25 (Nat.le_of_ble_eq_true rfl) (xe_14 E a) b1 dX1_put_6 (fun H locs hP hS => ?_)
  rw [← e3] at hP
  refine lv_aload_n hx hb dX1_put_7 rfl (lv_at hl 0 rfl) ?_
  refine xm_get (V := (xv E a)) (T := TX1) (v := .ref (a 15)) C hP 13 2 xi_1 rfl l_X1_19 rfl (Nat.le_of_ble_eq_true rfl) ((xe_13 E a) _) (Nat.le_of_ble_eq_true rfl) rfl dX1_put_8 ?_
  refine lv_iload_n hx hb dX1_put_11 rfl (lv_at hl 1 rfl) ?_
  refine lv_iload_n hx hb dX1_put_12 rfl (lv_at hl 3 rfl) ?_
  obtain ⟨b4, h⟩ := xm_ck_s h
  obtain ⟨M5, e6, h⟩ := xm_lt_s h
  refine xm_cast (V := (xv E a)) C hP hS 15 25 (Nat.le_of_ble_eq_true rfl) (xe_15 E a) b4 dX1_put_13 (fun H locs hP hS => ?_)
  rw [← e6] at hP
  refine lv_aload_n hx hb dX1_put_14 rfl (lv_at hl 0 rfl) ?_
  refine xm_get (V := (xv E a)) (T := TX1) (v := .ref (a 16)) C hP 13 3 xi_1 rfl l_X1_23 rfl (Nat.le_of_ble_eq_true rfl) ((xe_13 E a) _) (Nat.le_of_ble_eq_true rfl) rfl dX1_put_15 ?_
  refine lv_iload_n hx hb dX1_put_18 rfl (lv_at hl 1 rfl) ?_
  refine lv_iload hx hb dX1_put_19 (lv_at hl 4 rfl) ?_
  obtain ⟨b7, h⟩ := xm_ck_s h
  obtain ⟨M8, e9, h⟩ := xm_lt_s h
  refine xm_iast (V := (xv E a)) C hP hS 16 25 (Nat.le_of_ble_eq_true rfl) (xe_16 E a) b7 dX1_put_21 (fun H locs hP hS => ?_)
  rw [← e9] at hP
  refine lv_aload_n hx hb dX1_put_22 rfl (lv_at hl 0 rfl) ?_
  refine xm_get (V := (xv E a)) (T := TX1) (v := .ref (a 17)) C hP 13 4 xi_1 rfl l_X1_26 rfl (Nat.le_of_ble_eq_true rfl) ((xe_13 E a) _) (Nat.le_of_ble_eq_true rfl) rfl dX1_put_23 ?_
  refine lv_iload_n hx hb dX1_put_26 rfl (lv_at hl 1 rfl) ?_
  refine lv_iload hx hb dX1_put_27 (lv_at hl 5 rfl) ?_
  obtain ⟨b10, h⟩ := xm_ck_s h
  obtain ⟨M11, e12, h⟩ := xm_lt_s h
  refine xm_iast (V := (xv E a)) C hP hS 17 25 (Nat.le_of_ble_eq_true rfl) (xe_17 E a) b10 dX1_put_29 (fun H locs hP hS => ?_)
  rw [← e12] at hP
  cases xm_on h
  exact xm_retV C hP hS dX1_put_30
theorem c_X1_put {l : Launch} {E : xm_E} {a : Nat → Nat} (hD : xm_D (xv E a)) (n : Nat) (M : xm_M) (x1 : Int32) (x2 : Int32) (x3 : Int32) (x4 : Int32) (x5 : Int32) (M' : xm_M) (h : f_X1_put n M x1 x2 x3 x4 x5 = some M') : xm_Met l E (xv E a) yX1_put cX1_put 6 none 0 0 [.ref (a 13), .int x1, .int x2, .int x3, .int x4, .int x5] M M' none :=
  xm_met (by decide +kernel) rfl (Nat.le_of_ble_eq_true rfl) hD (fun p e s m below meth c C hP ls hl => t_X1_put_0 C  n M x1 x2 x3 x4 x5 M' h _ _ _ hP va_S.rf hl)
def f_X1_insert_83 (n : Nat) (M : xm_M) (x1 : Int32) (x2 : Int32) (x3 : Int32) (x4 : Int32) (x5 : Int32) : Option xm_M := xm_b1 (f_X1_put n M x5 x1 x2 x3 x4) (fun M1 => xm_lt (xm_up M1 13 0 ((M1 13 0) + 1)) (fun M4 => some M4))
set_option maxHeartbeats 4000000 in
set_option maxRecDepth 100000 in
theorem t_X1_insert_83 {l : Launch} {p : Program} {e : Env} {s : State} {m : MethodId} {args : Array Value} {below : List Frame} {meth : Method} {c : Code} {E : xm_E} {a : Nat → Nat} (C : xm_C E (xv E a) p s m args meth c RX1 cX1_insert 6 none) (n : Nat) (M : xm_M) (x1 : Int32) (x2 : Int32) (x3 : Int32) (x4 : Int32) (x5 : Int32) (M' : xm_M) : f_X1_insert_83 n M x1 x2 x3 x4 x5 = some M' → ∀ (H : Heap) (locs : List Loc) (ls : Array Slot), va_P E.1 vwCl (xm_w (xv E a) M) H → va_S (xm_A (xv E a) s.heap.size) s.heap H locs → lv_has ls 6 [(0, .ref (a 13)), (1, .int x1), (2, .int x2), (3, .int x3), (4, .int x4), (5, .int x5)] → W p l e { frames := 1, cells := 0, slots := 0, locals := 25 } s m args below meth c H locs 0 0 (MQ below (xm_Q E (xv E a) M' s.heap.size none) args s 0 0 (xm_A (xv E a) s.heap.size)) (F0 m 83 ls []) := by
  have C9 := C
  obtain ⟨hx, hb, hml, hown, hts, hr, hlk, hD, hK, hS9⟩ := C9
  intro h H locs ls hP hS hl
  unfold f_X1_insert_83 at h
  refine lv_aload_n hx hb dX1_insert_83 rfl (lv_at hl 0 rfl) ?_
  refine lv_iload hx hb dX1_insert_84 (lv_at hl 5 rfl) ?_
  refine lv_iload_n hx hb dX1_insert_86 rfl (lv_at hl 1 rfl) ?_
  refine lv_iload_n hx hb dX1_insert_87 rfl (lv_at hl 2 rfl) ?_
  refine lv_iload_n hx hb dX1_insert_88 rfl (lv_at hl 3 rfl) ?_
  refine lv_iload hx hb dX1_insert_89 (lv_at hl 4 rfl) ?_
  obtain ⟨M1, e3, h⟩ := xm_b1_s h
  refine xm_callV C hP hS [.int x5, .int x1, .int x2, .int x3, .int x4] [] (c_X1_put hD  n M x5 x1 x2 x3 x4 M1 e3) k_X1_41 (xm_recv C hP 13 rfl (Nat.le_of_ble_eq_true rfl) ((xe_13 E a) _)) rfl rfl ⟨(Nat.le_of_ble_eq_true rfl), (Nat.le_of_ble_eq_true rfl)⟩ hl.1 (Nat.le_of_ble_eq_true rfl) ⟨Nat.zero_le _, Nat.zero_le _⟩ dX1_insert_91 (fun H locs hP hS => ?_)
  change W p l e _ s m _ below meth c H locs 0 0 _ (F0 m 94 ls [])
  refine lv_aload_n hx hb dX1_insert_94 rfl (lv_at hl 0 rfl) ?_
  refine lv_dup hx hb dX1_insert_95 rfl ?_
  refine xm_get (V := (xv E a)) (T := TX1) (v := .int (M1 13 0)) C hP 13 0 xi_1 rfl l_X1_9 rfl (Nat.le_of_ble_eq_true rfl) ((xe_13 E a) _) (Nat.le_of_ble_eq_true rfl) rfl dX1_insert_96 ?_
  refine lv_iconst (v := 1) hx hb dX1_insert_99 (by decide) ?_
  refine lv_iadd hx hb dX1_insert_100 ?_
  obtain ⟨M4, e5, h⟩ := xm_lt_s h
  refine xm_put (V := (xv E a)) (T := TX1) (ty := .int) (x := (M1 13 0) + 1) C hP hS 13 0 xi_1 rfl l_X1_9 rfl tyX1_ok nmX1 (Nat.le_of_ble_eq_true rfl) ((xe_13 E a) _) (Nat.le_of_ble_eq_true rfl) rfl (by decide +kernel) rfl rfl (Nat.le_of_ble_eq_true rfl) ((xe_13 E a) _) dX1_insert_101 (fun H locs hP hS => ?_)
  rw [← e5] at hP
  cases xm_on h
  exact xm_retV C hP hS dX1_insert_104
def f_X1_insert_16 : Nat → xm_M → Int32 → Int32 → Int32 → Int32 → Int32 → Option xm_M
  | 0, _, _, _, _, _, _ => none
  | n + 1, M, x1, x2, x3, x4, x5 => if x5 ≤ 0 then f_X1_insert_83 n M x1 x2 x3 x4 x5 else xm_ck (xm_in (x5 - 1) 25) (if (M 17 (x5 - 1).toNatClampNeg) ≤ x4 then f_X1_insert_83 n M x1 x2 x3 x4 x5 else xm_ck (xm_in (x5 - 1) 25) (xm_ck (xm_in (x5 - 1) 25) (xm_ck (xm_in (x5 - 1) 25) (xm_ck (xm_in (x5 - 1) 25) (xm_b1 (f_X1_put n M x5 (M 14 (x5 - 1).toNatClampNeg) (M 15 (x5 - 1).toNatClampNeg) (M 16 (x5 - 1).toNatClampNeg) (M 17 (x5 - 1).toNatClampNeg)) (fun M8 => f_X1_insert_16 n M8 x1 x2 x3 x4 (x5 + (-1))))))))
set_option maxHeartbeats 4000000 in
set_option maxRecDepth 100000 in
theorem t_X1_insert_16 {l : Launch} {p : Program} {e : Env} {s : State} {m : MethodId} {args : Array Value} {below : List Frame} {meth : Method} {c : Code} {E : xm_E} {a : Nat → Nat} (C : xm_C E (xv E a) p s m args meth c RX1 cX1_insert 6 none) : ∀ (n : Nat) (M : xm_M) (x1 : Int32) (x2 : Int32) (x3 : Int32) (x4 : Int32) (x5 : Int32) (M' : xm_M), f_X1_insert_16 n M x1 x2 x3 x4 x5 = some M' → ∀ (H : Heap) (locs : List Loc) (ls : Array Slot), va_P E.1 vwCl (xm_w (xv E a) M) H → va_S (xm_A (xv E a) s.heap.size) s.heap H locs → lv_has ls 6 [(0, .ref (a 13)), (1, .int x1), (2, .int x2), (3, .int x3), (4, .int x4), (5, .int x5)] → W p l e { frames := 1, cells := 0, slots := 0, locals := 25 } s m args below meth c H locs 0 0 (MQ below (xm_Q E (xv E a) M' s.heap.size none) args s 0 0 (xm_A (xv E a) s.heap.size)) (F0 m 16 ls []) := by
  have C9 := C
  obtain ⟨hx, hb, hml, hown, hts, hr, hlk, hD, hK, hS9⟩ := C9
  intro n
  induction n with
  | zero =>
    intro M x1 x2 x3 x4 x5 M' h
    cases h
  | succ n ih =>
    intro M x1 x2 x3 x4 x5 M' h H locs ls hP hS hl
    rw [f_X1_insert_16] at h
    refine lv_iload hx hb dX1_insert_16 (lv_at hl 5 rfl) ?_
    refine lv_if_le (tgt := 83) hx hb dX1_insert_18 (by decide) (fun c1 => ?_) (fun c1 => ?_)
    · rw [if_pos c1] at h
      exact t_X1_insert_83 C  n M x1 x2 x3 x4 x5 M' h _ _ _ hP hS (lv_sub hl [0, 1, 2, 3, 4, 5] rfl)
    · rw [if_neg c1] at h
      refine lv_aload_n hx hb dX1_insert_21 rfl (lv_at hl 0 rfl) ?_
      refine xm_get (V := (xv E a)) (T := TX1) (v := .ref (a 17)) C hP 13 4 xi_1 rfl l_X1_26 rfl (Nat.le_of_ble_eq_true rfl) ((xe_13 E a) _) (Nat.le_of_ble_eq_true rfl) rfl dX1_insert_22 ?_
      refine lv_iload hx hb dX1_insert_25 (lv_at hl 5 rfl) ?_
      refine lv_iconst (v := 1) hx hb dX1_insert_27 (by decide) ?_
      refine lv_isub hx hb dX1_insert_28 ?_
      obtain ⟨b2, h⟩ := xm_ck_s h
      refine xm_iald (V := (xv E a)) C hP 17 25 (Nat.le_of_ble_eq_true rfl) (xe_17 E a) b2 dX1_insert_29 ?_
      refine lv_iload hx hb dX1_insert_30 (lv_at hl 4 rfl) ?_
      refine lv_icmp_le (tgt := 83) hx hb dX1_insert_32 (by decide) (fun c3 => ?_) (fun c3 => ?_)
      · rw [if_pos c3] at h
        exact t_X1_insert_83 C  n M x1 x2 x3 x4 x5 M' h _ _ _ hP hS (lv_sub hl [0, 1, 2, 3, 4, 5] rfl)
      · rw [if_neg c3] at h
        refine lv_aload_n hx hb dX1_insert_35 rfl (lv_at hl 0 rfl) ?_
        refine lv_iload hx hb dX1_insert_36 (lv_at hl 5 rfl) ?_
        refine lv_aload_n hx hb dX1_insert_38 rfl (lv_at hl 0 rfl) ?_
        refine xm_get (V := (xv E a)) (T := TX1) (v := .ref (a 14)) C hP 13 1 xi_1 rfl l_X1_15 rfl (Nat.le_of_ble_eq_true rfl) ((xe_13 E a) _) (Nat.le_of_ble_eq_true rfl) rfl dX1_insert_39 ?_
        refine lv_iload hx hb dX1_insert_42 (lv_at hl 5 rfl) ?_
        refine lv_iconst (v := 1) hx hb dX1_insert_44 (by decide) ?_
        refine lv_isub hx hb dX1_insert_45 ?_
        obtain ⟨b4, h⟩ := xm_ck_s h
        refine xm_iald (V := (xv E a)) C hP 14 25 (Nat.le_of_ble_eq_true rfl) (xe_14 E a) b4 dX1_insert_46 ?_
        refine lv_aload_n hx hb dX1_insert_47 rfl (lv_at hl 0 rfl) ?_
        refine xm_get (V := (xv E a)) (T := TX1) (v := .ref (a 15)) C hP 13 2 xi_1 rfl l_X1_19 rfl (Nat.le_of_ble_eq_true rfl) ((xe_13 E a) _) (Nat.le_of_ble_eq_true rfl) rfl dX1_insert_48 ?_
        refine lv_iload hx hb dX1_insert_51 (lv_at hl 5 rfl) ?_
        refine lv_iconst (v := 1) hx hb dX1_insert_53 (by decide) ?_
        refine lv_isub hx hb dX1_insert_54 ?_
        obtain ⟨b5, h⟩ := xm_ck_s h
        refine xm_cald (V := (xv E a)) C hP 15 25 (Nat.le_of_ble_eq_true rfl) (xe_15 E a) b5 dX1_insert_55 ?_
        refine lv_aload_n hx hb dX1_insert_56 rfl (lv_at hl 0 rfl) ?_
        refine xm_get (V := (xv E a)) (T := TX1) (v := .ref (a 16)) C hP 13 3 xi_1 rfl l_X1_23 rfl (Nat.le_of_ble_eq_true rfl) ((xe_13 E a) _) (Nat.le_of_ble_eq_true rfl) rfl dX1_insert_57 ?_
        refine lv_iload hx hb dX1_insert_60 (lv_at hl 5 rfl) ?_
        refine lv_iconst (v := 1) hx hb dX1_insert_62 (by decide) ?_
        refine lv_isub hx hb dX1_insert_63 ?_
        obtain ⟨b6, h⟩ := xm_ck_s h
        refine xm_iald (V := (xv E a)) C hP 16 25 (Nat.le_of_ble_eq_true rfl) (xe_16 E a) b6 dX1_insert_64 ?_
        refine lv_aload_n hx hb dX1_insert_65 rfl (lv_at hl 0 rfl) ?_
        refine xm_get (V := (xv E a)) (T := TX1) (v := .ref (a 17)) C hP 13 4 xi_1 rfl l_X1_26 rfl (Nat.le_of_ble_eq_true rfl) ((xe_13 E a) _) (Nat.le_of_ble_eq_true rfl) rfl dX1_insert_66 ?_
        refine lv_iload hx hb dX1_insert_69 (lv_at hl 5 rfl) ?_
        refine lv_iconst (v := 1) hx hb dX1_insert_71 (by decide) ?_
        refine lv_isub hx hb dX1_insert_72 ?_
        obtain ⟨b7, h⟩ := xm_ck_s h
        refine xm_iald (V := (xv E a)) C hP 17 25 (Nat.le_of_ble_eq_true rfl) (xe_17 E a) b7 dX1_insert_73 ?_
        obtain ⟨M8, e10, h⟩ := xm_b1_s h
        refine xm_callV C hP hS [.int x5, .int (M 14 (x5 - 1).toNatClampNeg), .int (M 15 (x5 - 1).toNatClampNeg), .int (M 16 (x5 - 1).toNatClampNeg), .int (M 17 (x5 - 1).toNatClampNeg)] [] (c_X1_put hD  n M x5 (M 14 (x5 - 1).toNatClampNeg) (M 15 (x5 - 1).toNatClampNeg) (M 16 (x5 - 1).toNatClampNeg) (M 17 (x5 - 1).toNatClampNeg) M8 e10) k_X1_41 (xm_recv C hP 13 rfl (Nat.le_of_ble_eq_true rfl) ((xe_13 E a) _)) rfl rfl ⟨(Nat.le_of_ble_eq_true rfl), (Nat.le_of_ble_eq_true rfl)⟩ hl.1 (Nat.le_of_ble_eq_true rfl) ⟨Nat.zero_le _, Nat.zero_le _⟩ dX1_insert_74 (fun H locs hP hS => ?_)
        change W p l e _ s m _ below meth c H locs 0 0 _ (F0 m 77 ls [])
        refine lv_iinc (v := x5 + (-1)) (lv' := [(5, .int (x5 + (-1))), (0, .ref (a 13)), (1, .int x1), (2, .int x2), (3, .int x3), (4, .int x4)]) hx hb dX1_insert_77 hl (k := 5) rfl (xm_add (by decide)) (by decide) rfl (fun ls hl => ?_)
        refine lv_goto (tgt := 16) hx hb dX1_insert_80 (by decide) ?_
        exact ih M8 x1 x2 x3 x4 (x5 + (-1)) M' h _ _ _ hP hS (lv_sub hl [1, 2, 3, 4, 5, 0] rfl)
def f_X1_insert (n : Nat) (M : xm_M) (x1 : Int32) (x2 : Int32) (x3 : Int32) (x4 : Int32) : Option xm_M := if (M 13 0) < 25 then f_X1_insert_16 n M x1 x2 x3 x4 (M 13 0) else some M
set_option maxHeartbeats 4000000 in
set_option maxRecDepth 100000 in
theorem t_X1_insert_0 {l : Launch} {p : Program} {e : Env} {s : State} {m : MethodId} {args : Array Value} {below : List Frame} {meth : Method} {c : Code} {E : xm_E} {a : Nat → Nat} (C : xm_C E (xv E a) p s m args meth c RX1 cX1_insert 6 none) (n : Nat) (M : xm_M) (x1 : Int32) (x2 : Int32) (x3 : Int32) (x4 : Int32) (M' : xm_M) : f_X1_insert n M x1 x2 x3 x4 = some M' → ∀ (H : Heap) (locs : List Loc) (ls : Array Slot), va_P E.1 vwCl (xm_w (xv E a) M) H → va_S (xm_A (xv E a) s.heap.size) s.heap H locs → lv_has ls 6 [(0, .ref (a 13)), (1, .int x1), (2, .int x2), (3, .int x3), (4, .int x4)] → W p l e { frames := 1, cells := 0, slots := 0, locals := 25 } s m args below meth c H locs 0 0 (MQ below (xm_Q E (xv E a) M' s.heap.size none) args s 0 0 (xm_A (xv E a) s.heap.size)) (F0 m 0 ls []) := by
  have C9 := C
  obtain ⟨hx, hb, hml, hown, hts, hr, hlk, hD, hK, hS9⟩ := C9
  intro h H locs ls hP hS hl
  unfold f_X1_insert at h
  refine lv_aload_n hx hb dX1_insert_0 rfl (lv_at hl 0 rfl) ?_
  refine xm_get (V := (xv E a)) (T := TX1) (v := .int (M 13 0)) C hP 13 0 xi_1 rfl l_X1_9 rfl (Nat.le_of_ble_eq_true rfl) ((xe_13 E a) _) (Nat.le_of_ble_eq_true rfl) rfl dX1_insert_1 ?_
  refine lv_bipush (v := 25) hx hb dX1_insert_4 (by decide) ?_
  refine lv_icmp_lt (tgt := 10) hx hb dX1_insert_6 (by decide) (fun c1 => ?_) (fun c1 => ?_)
  · rw [if_pos c1] at h
    refine lv_aload_n hx hb dX1_insert_10 rfl (lv_at hl 0 rfl) ?_
    refine xm_get (V := (xv E a)) (T := TX1) (v := .int (M 13 0)) C hP 13 0 xi_1 rfl l_X1_9 rfl (Nat.le_of_ble_eq_true rfl) ((xe_13 E a) _) (Nat.le_of_ble_eq_true rfl) rfl dX1_insert_11 ?_
    refine lv_istore (lv' := [(5, .int (M 13 0)), (0, .ref (a 13)), (1, .int x1), (2, .int x2), (3, .int x3), (4, .int x4)]) hx hb dX1_insert_14 hl (by decide) rfl (fun ls hl => ?_)
    exact t_X1_insert_16 C  n M x1 x2 x3 x4 (M 13 0) M' h _ _ _ hP hS (lv_sub hl [1, 2, 3, 4, 5, 0] rfl)
  · rw [if_neg c1] at h
    cases xm_on h
    exact xm_retV C hP hS dX1_insert_9
theorem c_X1_insert {l : Launch} {E : xm_E} {a : Nat → Nat} (hD : xm_D (xv E a)) (n : Nat) (M : xm_M) (x1 : Int32) (x2 : Int32) (x3 : Int32) (x4 : Int32) (M' : xm_M) (h : f_X1_insert n M x1 x2 x3 x4 = some M') : xm_Met l E (xv E a) yX1_insert cX1_insert 6 none 1 25 [.ref (a 13), .int x1, .int x2, .int x3, .int x4] M M' none :=
  xm_met (by decide +kernel) rfl (Nat.le_of_ble_eq_true rfl) hD (fun p e s m below meth c C hP ls hl => t_X1_insert_0 C  n M x1 x2 x3 x4 M' h _ _ _ hP va_S.rf hl)
def f_X1_fillFrom_7 : Nat → xm_M → Nat → Int32 → Option xm_M
  | 0, _, _, _ => none
  | n + 1, M, o1, x2 => if (M o1 0) ≤ x2 then some M else xm_ck (xm_in x2 24) (xm_ck (xm_in x2 24) (xm_ck (xm_in x2 24) (xm_b1 (f_X1_insert n M x2 (M (o1 + 1) x2.toNatClampNeg) (M (o1 + 2) x2.toNatClampNeg) (M (o1 + 3) x2.toNatClampNeg)) (fun M5 => f_X1_fillFrom_7 n M5 o1 (x2 + 1)))))
set_option maxHeartbeats 4000000 in
set_option maxRecDepth 100000 in
theorem t_X1_fillFrom_7 {l : Launch} {p : Program} {e : Env} {s : State} {m : MethodId} {args : Array Value} {below : List Frame} {meth : Method} {c : Code} {E : xm_E} {a : Nat → Nat} (C : xm_C E (xv E a) p s m args meth c RX1 cX1_fillFrom 3 none) {o1 : Nat} (h1 : xm_St o1) : ∀ (n : Nat) (M : xm_M) (x2 : Int32) (M' : xm_M), f_X1_fillFrom_7 n M o1 x2 = some M' → ∀ (H : Heap) (locs : List Loc) (ls : Array Slot), va_P E.1 vwCl (xm_w (xv E a) M) H → va_S (xm_A (xv E a) s.heap.size) s.heap H locs → lv_has ls 3 [(0, .ref (a 13)), (1, .ref (a o1)), (2, .int x2)] → W p l e { frames := 2, cells := 0, slots := 0, locals := 50 } s m args below meth c H locs 0 0 (MQ below (xm_Q E (xv E a) M' s.heap.size none) args s 0 0 (xm_A (xv E a) s.heap.size)) (F0 m 7 ls []) := by
  have C9 := C
  obtain ⟨hx, hb, hml, hown, hts, hr, hlk, hD, hK, hS9⟩ := C9
  intro n
  induction n with
  | zero =>
    intro M x2 M' h
    cases h
  | succ n ih =>
    intro M x2 M' h H locs ls hP hS hl
    rw [f_X1_fillFrom_7] at h
    refine lv_iload_n hx hb dX1_fillFrom_7 rfl (lv_at hl 2 rfl) ?_
    refine lv_aload_n hx hb dX1_fillFrom_8 rfl (lv_at hl 1 rfl) ?_
    refine xm_getN (V := (xv E a)) (T := TX4) (v := .int (M o1 0)) C hP o1 0 xi_4 rfl l_X1_29 rfl (xs_lt h1 0 (by omega)) ((xs_0 h1 E a) _) (Nat.le_of_ble_eq_true rfl) rfl dX1_fillFrom_9 ?_
    refine lv_icmp_ge (tgt := 44) hx hb dX1_fillFrom_12 (by decide) (fun c1 => ?_) (fun c1 => ?_)
    · rw [if_pos c1] at h
      cases xm_on h
      exact xm_retV C hP hS dX1_fillFrom_44
    · rw [if_neg c1] at h
      refine lv_aload_n hx hb dX1_fillFrom_15 rfl (lv_at hl 0 rfl) ?_
      refine lv_iload_n hx hb dX1_fillFrom_16 rfl (lv_at hl 2 rfl) ?_
      refine lv_aload_n hx hb dX1_fillFrom_17 rfl (lv_at hl 1 rfl) ?_
      refine xm_getN (V := (xv E a)) (T := TX4) (v := .ref (a (o1 + 1))) C hP o1 1 xi_4 rfl l_X1_34 rfl (xs_lt h1 0 (by omega)) ((xs_0 h1 E a) _) (Nat.le_of_ble_eq_true rfl) rfl dX1_fillFrom_18 ?_
      refine lv_iload_n hx hb dX1_fillFrom_21 rfl (lv_at hl 2 rfl) ?_
      obtain ⟨b2, h⟩ := xm_ck_s h
      refine xm_cald (V := (xv E a)) C hP (o1 + 1) 24 (xs_lt h1 1 (by omega)) (xs_1 h1 E a) b2 dX1_fillFrom_22 ?_
      refine lv_aload_n hx hb dX1_fillFrom_23 rfl (lv_at hl 1 rfl) ?_
      refine xm_getN (V := (xv E a)) (T := TX4) (v := .ref (a (o1 + 2))) C hP o1 2 xi_4 rfl l_X1_35 rfl (xs_lt h1 0 (by omega)) ((xs_0 h1 E a) _) (Nat.le_of_ble_eq_true rfl) rfl dX1_fillFrom_24 ?_
      refine lv_iload_n hx hb dX1_fillFrom_27 rfl (lv_at hl 2 rfl) ?_
      obtain ⟨b3, h⟩ := xm_ck_s h
      refine xm_iald (V := (xv E a)) C hP (o1 + 2) 24 (xs_lt h1 2 (by omega)) (xs_2 h1 E a) b3 dX1_fillFrom_28 ?_
      refine lv_aload_n hx hb dX1_fillFrom_29 rfl (lv_at hl 1 rfl) ?_
      refine xm_getN (V := (xv E a)) (T := TX4) (v := .ref (a (o1 + 3))) C hP o1 3 xi_4 rfl l_X1_36 rfl (xs_lt h1 0 (by omega)) ((xs_0 h1 E a) _) (Nat.le_of_ble_eq_true rfl) rfl dX1_fillFrom_30 ?_
      refine lv_iload_n hx hb dX1_fillFrom_33 rfl (lv_at hl 2 rfl) ?_
      obtain ⟨b4, h⟩ := xm_ck_s h
      refine xm_iald (V := (xv E a)) C hP (o1 + 3) 24 (xs_lt h1 3 (by omega)) (xs_3 h1 E a) b4 dX1_fillFrom_34 ?_
      obtain ⟨M5, e7, h⟩ := xm_b1_s h
      refine xm_callV C hP hS [.int x2, .int (M (o1 + 1) x2.toNatClampNeg), .int (M (o1 + 2) x2.toNatClampNeg), .int (M (o1 + 3) x2.toNatClampNeg)] [] (c_X1_insert hD  n M x2 (M (o1 + 1) x2.toNatClampNeg) (M (o1 + 2) x2.toNatClampNeg) (M (o1 + 3) x2.toNatClampNeg) M5 e7) k_X1_37 (xm_recv C hP 13 rfl (Nat.le_of_ble_eq_true rfl) ((xe_13 E a) _)) rfl rfl ⟨(Nat.le_of_ble_eq_true rfl), (Nat.le_of_ble_eq_true rfl)⟩ hl.1 (Nat.le_of_ble_eq_true rfl) ⟨Nat.zero_le _, Nat.zero_le _⟩ dX1_fillFrom_35 (fun H locs hP hS => ?_)
      change W p l e _ s m _ below meth c H locs 0 0 _ (F0 m 38 ls [])
      refine lv_iinc (v := x2 + 1) (lv' := [(2, .int (x2 + 1)), (0, .ref (a 13)), (1, .ref (a o1))]) hx hb dX1_fillFrom_38 hl (k := 2) rfl (xm_add (by decide)) (by decide) rfl (fun ls hl => ?_)
      refine lv_goto (tgt := 7) hx hb dX1_fillFrom_41 (by decide) ?_
      exact ih M5 (x2 + 1) M' h _ _ _ hP hS (lv_sub hl [1, 2, 0] rfl)
def f_X1_fillFrom (n : Nat) (M : xm_M) (o1 : Nat) : Option xm_M := xm_lt (xm_up M 13 0 0) (fun M1 => f_X1_fillFrom_7 n M1 o1 0)
set_option maxHeartbeats 4000000 in
set_option maxRecDepth 100000 in
theorem t_X1_fillFrom_0 {l : Launch} {p : Program} {e : Env} {s : State} {m : MethodId} {args : Array Value} {below : List Frame} {meth : Method} {c : Code} {E : xm_E} {a : Nat → Nat} (C : xm_C E (xv E a) p s m args meth c RX1 cX1_fillFrom 3 none) {o1 : Nat} (h1 : xm_St o1) (n : Nat) (M : xm_M) (M' : xm_M) : f_X1_fillFrom n M o1 = some M' → ∀ (H : Heap) (locs : List Loc) (ls : Array Slot), va_P E.1 vwCl (xm_w (xv E a) M) H → va_S (xm_A (xv E a) s.heap.size) s.heap H locs → lv_has ls 3 [(0, .ref (a 13)), (1, .ref (a o1))] → W p l e { frames := 2, cells := 0, slots := 0, locals := 50 } s m args below meth c H locs 0 0 (MQ below (xm_Q E (xv E a) M' s.heap.size none) args s 0 0 (xm_A (xv E a) s.heap.size)) (F0 m 0 ls []) := by
  have C9 := C
  obtain ⟨hx, hb, hml, hown, hts, hr, hlk, hD, hK, hS9⟩ := C9
  intro h H locs ls hP hS hl
  unfold f_X1_fillFrom at h
  refine lv_aload_n hx hb dX1_fillFrom_0 rfl (lv_at hl 0 rfl) ?_
  refine lv_iconst (v := 0) hx hb dX1_fillFrom_1 (by decide) ?_
  obtain ⟨M1, e2, h⟩ := xm_lt_s h
  refine xm_put (V := (xv E a)) (T := TX1) (ty := .int) (x := 0) C hP hS 13 0 xi_1 rfl l_X1_9 rfl tyX1_ok nmX1 (Nat.le_of_ble_eq_true rfl) ((xe_13 E a) _) (Nat.le_of_ble_eq_true rfl) rfl (by decide +kernel) rfl rfl (Nat.le_of_ble_eq_true rfl) ((xe_13 E a) _) dX1_fillFrom_2 (fun H locs hP hS => ?_)
  rw [← e2] at hP
  refine lv_iconst (v := 0) hx hb dX1_fillFrom_5 (by decide) ?_
  refine lv_istore_n (lv' := [(2, .int 0), (0, .ref (a 13)), (1, .ref (a o1))]) hx hb dX1_fillFrom_6 rfl hl (by decide) rfl (fun ls hl => ?_)
  exact t_X1_fillFrom_7 C h1 n M1 0 M' h _ _ _ hP hS (lv_sub hl [1, 2, 0] rfl)
theorem c_X1_fillFrom {l : Launch} {E : xm_E} {a : Nat → Nat} (hD : xm_D (xv E a)) {o1 : Nat} (h1 : xm_St o1) (n : Nat) (M : xm_M) (M' : xm_M) (h : f_X1_fillFrom n M o1 = some M') : xm_Met l E (xv E a) yX1_fillFrom cX1_fillFrom 3 none 2 50 [.ref (a 13), .ref (a o1)] M M' none :=
  xm_met (by decide +kernel) rfl (Nat.le_of_ble_eq_true rfl) hD (fun p e s m below meth c C hP ls hl => t_X1_fillFrom_0 C h1 n M M' h _ _ _ hP va_S.rf hl)
def f_X1_placeOf_4 : Nat → xm_M → Int32 → Int32 → Int32 → Option (Int32 × xm_M)
  | 0, _, _, _, _ => none
  | n + 1, M, x1, x2, x3 => if (M 13 0) ≤ x3 then some (x2, M) else xm_ck (xm_in x3 25) (if (M 14 x3.toNatClampNeg) = x1 then f_X1_placeOf_4 n M x1 x3 (x3 + 1) else f_X1_placeOf_4 n M x1 x2 (x3 + 1))
set_option maxHeartbeats 4000000 in
set_option maxRecDepth 100000 in
theorem t_X1_placeOf_4 {l : Launch} {p : Program} {e : Env} {s : State} {m : MethodId} {args : Array Value} {below : List Frame} {meth : Method} {c : Code} {E : xm_E} {a : Nat → Nat} (C : xm_C E (xv E a) p s m args meth c RX1 cX1_placeOf 4 (some .int)) : ∀ (n : Nat) (M : xm_M) (x1 : Int32) (x2 : Int32) (x3 : Int32) (r : Int32) (M' : xm_M), f_X1_placeOf_4 n M x1 x2 x3 = some (r, M') → ∀ (H : Heap) (locs : List Loc) (ls : Array Slot), va_P E.1 vwCl (xm_w (xv E a) M) H → va_S (xm_A (xv E a) s.heap.size) s.heap H locs → lv_has ls 4 [(0, .ref (a 13)), (1, .int x1), (2, .int x2), (3, .int x3)] → W p l e { frames := 0, cells := 0, slots := 0, locals := 0 } s m args below meth c H locs 0 0 (MQ below (xm_Q E (xv E a) M' s.heap.size (some r)) args s 0 0 (xm_A (xv E a) s.heap.size)) (F0 m 4 ls []) := by
  have C9 := C
  obtain ⟨hx, hb, hml, hown, hts, hr, hlk, hD, hK, hS9⟩ := C9
  intro n
  induction n with
  | zero =>
    intro M x1 x2 x3 r M' h
    cases h
  | succ n ih =>
    intro M x1 x2 x3 r M' h H locs ls hP hS hl
    rw [f_X1_placeOf_4] at h
    refine lv_iload_n hx hb dX1_placeOf_4 rfl (lv_at hl 3 rfl) ?_
    refine lv_aload_n hx hb dX1_placeOf_5 rfl (lv_at hl 0 rfl) ?_
    refine xm_get (V := (xv E a)) (T := TX1) (v := .int (M 13 0)) C hP 13 0 xi_1 rfl l_X1_9 rfl (Nat.le_of_ble_eq_true rfl) ((xe_13 E a) _) (Nat.le_of_ble_eq_true rfl) rfl dX1_placeOf_6 ?_
    refine lv_icmp_ge (tgt := 30) hx hb dX1_placeOf_9 (by decide) (fun c1 => ?_) (fun c1 => ?_)
    · rw [if_pos c1] at h
      refine lv_iload_n hx hb dX1_placeOf_30 rfl (lv_at hl 2 rfl) ?_
      obtain ⟨rfl, rfl⟩ := xm_pr h
      exact xm_retI C hP hS dX1_placeOf_31
    · rw [if_neg c1] at h
      refine lv_aload_n hx hb dX1_placeOf_12 rfl (lv_at hl 0 rfl) ?_
      refine xm_get (V := (xv E a)) (T := TX1) (v := .ref (a 14)) C hP 13 1 xi_1 rfl l_X1_15 rfl (Nat.le_of_ble_eq_true rfl) ((xe_13 E a) _) (Nat.le_of_ble_eq_true rfl) rfl dX1_placeOf_13 ?_
      refine lv_iload_n hx hb dX1_placeOf_16 rfl (lv_at hl 3 rfl) ?_
      obtain ⟨b2, h⟩ := xm_ck_s h
      refine xm_iald (V := (xv E a)) C hP 14 25 (Nat.le_of_ble_eq_true rfl) (xe_14 E a) b2 dX1_placeOf_17 ?_
      refine lv_iload_n hx hb dX1_placeOf_18 rfl (lv_at hl 1 rfl) ?_
      refine lv_icmp_ne (tgt := 24) hx hb dX1_placeOf_19 (by decide) (fun c3 => ?_) (fun c3 => ?_)
      · rw [if_neg c3] at h
        refine lv_iinc (v := x3 + 1) (lv' := [(3, .int (x3 + 1)), (0, .ref (a 13)), (1, .int x1), (2, .int x2)]) hx hb dX1_placeOf_24 hl (k := 3) rfl (xm_add (by decide)) (by decide) rfl (fun ls hl => ?_)
        refine lv_goto (tgt := 4) hx hb dX1_placeOf_27 (by decide) ?_
        exact ih M x1 x2 (x3 + 1) r M' h _ _ _ hP hS (lv_sub hl [1, 2, 3, 0] rfl)
      · rw [if_pos c3] at h
        refine lv_iload_n hx hb dX1_placeOf_22 rfl (lv_at hl 3 rfl) ?_
        refine lv_istore_n (lv' := [(2, .int x3), (0, .ref (a 13)), (1, .int x1), (3, .int x3)]) hx hb dX1_placeOf_23 rfl hl (by decide) rfl (fun ls hl => ?_)
        refine lv_iinc (v := x3 + 1) (lv' := [(3, .int (x3 + 1)), (2, .int x3), (0, .ref (a 13)), (1, .int x1)]) hx hb dX1_placeOf_24 hl (k := 3) rfl (xm_add (by decide)) (by decide) rfl (fun ls hl => ?_)
        refine lv_goto (tgt := 4) hx hb dX1_placeOf_27 (by decide) ?_
        exact ih M x1 x3 (x3 + 1) r M' h _ _ _ hP hS (lv_sub hl [2, 3, 1, 0] rfl)
def f_X1_placeOf (n : Nat) (M : xm_M) (x1 : Int32) : Option (Int32 × xm_M) := f_X1_placeOf_4 n M x1 0 0
set_option maxHeartbeats 4000000 in
set_option maxRecDepth 100000 in
theorem t_X1_placeOf_0 {l : Launch} {p : Program} {e : Env} {s : State} {m : MethodId} {args : Array Value} {below : List Frame} {meth : Method} {c : Code} {E : xm_E} {a : Nat → Nat} (C : xm_C E (xv E a) p s m args meth c RX1 cX1_placeOf 4 (some .int)) (n : Nat) (M : xm_M) (x1 : Int32) (r : Int32) (M' : xm_M) : f_X1_placeOf n M x1 = some (r, M') → ∀ (H : Heap) (locs : List Loc) (ls : Array Slot), va_P E.1 vwCl (xm_w (xv E a) M) H → va_S (xm_A (xv E a) s.heap.size) s.heap H locs → lv_has ls 4 [(0, .ref (a 13)), (1, .int x1)] → W p l e { frames := 0, cells := 0, slots := 0, locals := 0 } s m args below meth c H locs 0 0 (MQ below (xm_Q E (xv E a) M' s.heap.size (some r)) args s 0 0 (xm_A (xv E a) s.heap.size)) (F0 m 0 ls []) := by
  have C9 := C
  obtain ⟨hx, hb, hml, hown, hts, hr, hlk, hD, hK, hS9⟩ := C9
  intro h H locs ls hP hS hl
  unfold f_X1_placeOf at h
  refine lv_iconst (v := 0) hx hb dX1_placeOf_0 (by decide) ?_
  refine lv_istore_n (lv' := [(2, .int 0), (0, .ref (a 13)), (1, .int x1)]) hx hb dX1_placeOf_1 rfl hl (by decide) rfl (fun ls hl => ?_)
  refine lv_iconst (v := 0) hx hb dX1_placeOf_2 (by decide) ?_
  refine lv_istore_n (lv' := [(3, .int 0), (2, .int 0), (0, .ref (a 13)), (1, .int x1)]) hx hb dX1_placeOf_3 rfl hl (by decide) rfl (fun ls hl => ?_)
  exact t_X1_placeOf_4 C  n M x1 0 0 r M' h _ _ _ hP hS (lv_sub hl [2, 3, 1, 0] rfl)
theorem c_X1_placeOf {l : Launch} {E : xm_E} {a : Nat → Nat} (hD : xm_D (xv E a)) (n : Nat) (M : xm_M) (x1 : Int32) (r : Int32) (M' : xm_M) (h : f_X1_placeOf n M x1 = some (r, M')) : xm_Met l E (xv E a) yX1_placeOf cX1_placeOf 4 (some .int) 0 0 [.ref (a 13), .int x1] M M' (some r) :=
  xm_met (by decide +kernel) rfl (Nat.le_of_ble_eq_true rfl) hD (fun p e s m below meth c C hP ls hl => t_X1_placeOf_0 C  n M x1 r M' h _ _ _ hP va_S.rf hl)
def f_X3_begin_37 : Nat → xm_M → Int32 → Option xm_M
  | 0, _, _ => none
  | n + 1, M, x2 => if (25 : Int32) ≤ x2 then some M else xm_ck (xm_in x2 25) (xm_lt (xm_up M 12 x2.toNatClampNeg 0) (fun M3 => f_X3_begin_37 n M3 (x2 + 1)))
set_option maxHeartbeats 4000000 in
set_option maxRecDepth 100000 in
theorem t_X3_begin_37 {l : Launch} {p : Program} {e : Env} {s : State} {m : MethodId} {args : Array Value} {below : List Frame} {meth : Method} {c : Code} {E : xm_E} {a : Nat → Nat} (C : xm_C E (xv E a) p s m args meth c RX3 cX3_begin 3 none) : ∀ (n : Nat) (M : xm_M) (x2 : Int32) (M' : xm_M), f_X3_begin_37 n M x2 = some M' → ∀ (H : Heap) (locs : List Loc) (ls : Array Slot), va_P E.1 vwCl (xm_w (xv E a) M) H → va_S (xm_A (xv E a) s.heap.size) s.heap H locs → lv_has ls 3 [(0, .ref (a 8)), (2, .int x2)] → W p l e { frames := 3, cells := 0, slots := 0, locals := 72 } s m args below meth c H locs 0 0 (MQ below (xm_Q E (xv E a) M' s.heap.size none) args s 0 0 (xm_A (xv E a) s.heap.size)) (F0 m 37 ls []) := by
  have C9 := C
  obtain ⟨hx, hb, hml, hown, hts, hr, hlk, hD, hK, hS9⟩ := C9
  intro n
  induction n with
  | zero =>
    intro M x2 M' h
    cases h
  | succ n ih =>
    intro M x2 M' h H locs ls hP hS hl
    rw [f_X3_begin_37] at h
    refine lv_iload_n hx hb dX3_begin_37 rfl (lv_at hl 1 rfl) ?_
    refine lv_bipush (v := 25) hx hb dX3_begin_38 (by decide) ?_
    refine lv_icmp_ge (tgt := 56) hx hb dX3_begin_40 (by decide) (fun c1 => ?_) (fun c1 => ?_)
    · rw [if_pos c1] at h
      cases xm_on h
      exact xm_retV C hP hS dX3_begin_56
    · rw [if_neg c1] at h
      refine lv_aload_n hx hb dX3_begin_43 rfl (lv_at hl 0 rfl) ?_
      refine xm_get (V := (xv E a)) (T := TX3) (v := .ref (a 12)) C hP 8 15 xi_3 rfl l_X3_63 rfl (Nat.le_of_ble_eq_true rfl) ((xe_8 E a) _) (Nat.le_of_ble_eq_true rfl) rfl dX3_begin_44 ?_
      refine lv_iload_n hx hb dX3_begin_47 rfl (lv_at hl 1 rfl) ?_
      refine lv_iconst (v := 0) hx hb dX3_begin_48 (by decide) ?_
      obtain ⟨b2, h⟩ := xm_ck_s h
      obtain ⟨M3, e4, h⟩ := xm_lt_s h
      refine xm_iast (V := (xv E a)) C hP hS 12 25 (Nat.le_of_ble_eq_true rfl) (xe_12 E a) b2 dX3_begin_49 (fun H locs hP hS => ?_)
      rw [← e4] at hP
      refine lv_iinc (v := x2 + 1) (lv' := [(2, .int (x2 + 1)), (0, .ref (a 8))]) hx hb dX3_begin_50 hl (k := 1) rfl (xm_add (by decide)) (by decide) rfl (fun ls hl => ?_)
      refine lv_goto (tgt := 37) hx hb dX3_begin_53 (by decide) ?_
      exact ih M3 (x2 + 1) M' h _ _ _ hP hS (lv_sub hl [1, 0] rfl)
def f_X3_begin (n : Nat) (M : xm_M) (o1 : Nat) : Option xm_M := xm_b1 (f_X1_fillFrom n M o1) (fun M1 => xm_lt (xm_up M1 8 1 (M1 o1 4)) (fun M4 => xm_b2 (f_X4_watermark n M4 o1) (fun r7 M6 => xm_lt (xm_up M6 8 2 r7) (fun M9 => xm_lt (xm_up M9 8 3 ((-1))) (fun M11 => xm_lt (xm_up M11 8 5 ((-5))) (fun M13 => f_X3_begin_37 n M13 0))))))
set_option maxHeartbeats 4000000 in
set_option maxRecDepth 100000 in
theorem t_X3_begin_0 {l : Launch} {p : Program} {e : Env} {s : State} {m : MethodId} {args : Array Value} {below : List Frame} {meth : Method} {c : Code} {E : xm_E} {a : Nat → Nat} (C : xm_C E (xv E a) p s m args meth c RX3 cX3_begin 3 none) {o1 : Nat} (h1 : xm_St o1) (n : Nat) (M : xm_M) (M' : xm_M) : f_X3_begin n M o1 = some M' → ∀ (H : Heap) (locs : List Loc) (ls : Array Slot), va_P E.1 vwCl (xm_w (xv E a) M) H → va_S (xm_A (xv E a) s.heap.size) s.heap H locs → lv_has ls 3 [(0, .ref (a 8)), (1, .ref (a o1))] → W p l e { frames := 3, cells := 0, slots := 0, locals := 72 } s m args below meth c H locs 0 0 (MQ below (xm_Q E (xv E a) M' s.heap.size none) args s 0 0 (xm_A (xv E a) s.heap.size)) (F0 m 0 ls []) := by
  have C9 := C
  obtain ⟨hx, hb, hml, hown, hts, hr, hlk, hD, hK, hS9⟩ := C9
  intro h H locs ls hP hS hl
  unfold f_X3_begin at h
  refine lv_aload_n hx hb dX3_begin_0 rfl (lv_at hl 0 rfl) ?_
  refine xm_get (V := (xv E a)) (T := TX3) (v := .ref (a 13)) C hP 8 0 xi_3 rfl l_X3_12 rfl (Nat.le_of_ble_eq_true rfl) ((xe_8 E a) _) (Nat.le_of_ble_eq_true rfl) rfl dX3_begin_1 ?_
  refine lv_aload_n hx hb dX3_begin_4 rfl (lv_at hl 1 rfl) ?_
  obtain ⟨M1, e3, h⟩ := xm_b1_s h
  refine xm_callVN C hP hS [.ref (a o1)] [] (c_X1_fillFrom hD h1 n M  M1 e3) k_X3_66 (xm_recv C hP 13 rfl (Nat.le_of_ble_eq_true rfl) ((xe_13 E a) _)) rfl rfl ⟨(Nat.le_of_ble_eq_true rfl), (Nat.le_of_ble_eq_true rfl)⟩ hl.1 (Nat.le_of_ble_eq_true rfl) ⟨Nat.zero_le _, Nat.zero_le _⟩ dX3_begin_5 (fun H locs hP hS => ?_)
  change W p l e _ s m _ below meth c H locs 0 0 _ (F0 m 8 ls [])
  refine lv_aload_n hx hb dX3_begin_8 rfl (lv_at hl 0 rfl) ?_
  refine lv_aload_n hx hb dX3_begin_9 rfl (lv_at hl 1 rfl) ?_
  refine xm_getN (V := (xv E a)) (T := TX4) (v := .int (M1 o1 4)) C hP o1 4 xi_4 rfl l_X3_70 rfl (xs_lt h1 0 (by omega)) ((xs_0 h1 E a) _) (Nat.le_of_ble_eq_true rfl) rfl dX3_begin_10 ?_
  obtain ⟨M4, e5, h⟩ := xm_lt_s h
  refine xm_put (V := (xv E a)) (T := TX3) (ty := .int) (x := M1 o1 4) C hP hS 8 1 xi_3 rfl l_X3_18 rfl tyX3_ok nmX3 (Nat.le_of_ble_eq_true rfl) ((xe_8 E a) _) (Nat.le_of_ble_eq_true rfl) rfl (by decide +kernel) rfl rfl (Nat.le_of_ble_eq_true rfl) ((xe_8 E a) _) dX3_begin_13 (fun H locs hP hS => ?_)
  rw [← e5] at hP
  refine lv_aload_n hx hb dX3_begin_16 rfl (lv_at hl 0 rfl) ?_
  refine lv_aload_n hx hb dX3_begin_17 rfl (lv_at hl 1 rfl) ?_
  obtain ⟨r7, M6, e8, h⟩ := xm_b2_s h
  refine xm_callVN C hP hS [] [.ref (a 8)] (c_X4_watermark hD h1 n M4  r7 M6 e8) k_X3_73 (xm_recv C hP o1 rfl (xs_lt h1 0 (by omega)) ((xs_0 h1 E a) _)) rfl rfl ⟨(Nat.le_of_ble_eq_true rfl), (Nat.le_of_ble_eq_true rfl)⟩ hl.1 (Nat.le_of_ble_eq_true rfl) ⟨Nat.zero_le _, Nat.zero_le _⟩ dX3_begin_18 (fun H locs hP hS => ?_)
  change W p l e _ s m _ below meth c H locs 0 0 _ (F0 m 21 ls [.int r7, .ref (a 8)])
  obtain ⟨M9, e10, h⟩ := xm_lt_s h
  refine xm_put (V := (xv E a)) (T := TX3) (ty := .int) (x := r7) C hP hS 8 2 xi_3 rfl l_X3_22 rfl tyX3_ok nmX3 (Nat.le_of_ble_eq_true rfl) ((xe_8 E a) _) (Nat.le_of_ble_eq_true rfl) rfl (by decide +kernel) rfl rfl (Nat.le_of_ble_eq_true rfl) ((xe_8 E a) _) dX3_begin_21 (fun H locs hP hS => ?_)
  rw [← e10] at hP
  refine lv_aload_n hx hb dX3_begin_24 rfl (lv_at hl 0 rfl) ?_
  refine lv_iconst (v := (-1)) hx hb dX3_begin_25 (by decide) ?_
  obtain ⟨M11, e12, h⟩ := xm_lt_s h
  refine xm_put (V := (xv E a)) (T := TX3) (ty := .int) (x := (-1)) C hP hS 8 3 xi_3 rfl l_X3_25 rfl tyX3_ok nmX3 (Nat.le_of_ble_eq_true rfl) ((xe_8 E a) _) (Nat.le_of_ble_eq_true rfl) rfl (by decide +kernel) rfl rfl (Nat.le_of_ble_eq_true rfl) ((xe_8 E a) _) dX3_begin_26 (fun H locs hP hS => ?_)
  rw [← e12] at hP
  refine lv_aload_n hx hb dX3_begin_29 rfl (lv_at hl 0 rfl) ?_
  refine lv_bipush (v := (-5)) hx hb dX3_begin_30 (by decide) ?_
  obtain ⟨M13, e14, h⟩ := xm_lt_s h
  refine xm_put (V := (xv E a)) (T := TX3) (ty := .int) (x := (-5)) C hP hS 8 5 xi_3 rfl l_X3_31 rfl tyX3_ok nmX3 (Nat.le_of_ble_eq_true rfl) ((xe_8 E a) _) (Nat.le_of_ble_eq_true rfl) rfl (by decide +kernel) rfl rfl (Nat.le_of_ble_eq_true rfl) ((xe_8 E a) _) dX3_begin_32 (fun H locs hP hS => ?_)
  rw [← e14] at hP
  refine lv_iconst (v := 0) hx hb dX3_begin_35 (by decide) ?_
  refine lv_istore_n (lv' := [(2, .int 0), (0, .ref (a 8)), (1, .ref (a o1))]) hx hb dX3_begin_36 rfl hl (by decide) rfl (fun ls hl => ?_)
  exact t_X3_begin_37 C  n M13 0 M' h _ _ _ hP hS (lv_sub hl [1, 0] rfl)
theorem c_X3_begin {l : Launch} {E : xm_E} {a : Nat → Nat} (hD : xm_D (xv E a)) {o1 : Nat} (h1 : xm_St o1) (n : Nat) (M : xm_M) (M' : xm_M) (h : f_X3_begin n M o1 = some M') : xm_Met l E (xv E a) yX3_begin cX3_begin 3 none 3 72 [.ref (a 8), .ref (a o1)] M M' none :=
  xm_met (by decide +kernel) rfl (Nat.le_of_ble_eq_true rfl) hD (fun p e s m below meth c C hP ls hl => t_X3_begin_0 C h1 n M M' h _ _ _ hP va_S.rf hl)
def f_X3_want (n : Nat) (M : xm_M) (x1 : Int32) (x2 : Int32) : Option xm_M := xm_lt (xm_up M 8 3 x1) (fun M1 => xm_lt (xm_up M1 8 4 x2) (fun M3 => some M3))
set_option maxHeartbeats 4000000 in
set_option maxRecDepth 100000 in
theorem t_X3_want_0 {l : Launch} {p : Program} {e : Env} {s : State} {m : MethodId} {args : Array Value} {below : List Frame} {meth : Method} {c : Code} {E : xm_E} {a : Nat → Nat} (C : xm_C E (xv E a) p s m args meth c RX3 cX3_want 3 none) (n : Nat) (M : xm_M) (x1 : Int32) (x2 : Int32) (M' : xm_M) : f_X3_want n M x1 x2 = some M' → ∀ (H : Heap) (locs : List Loc) (ls : Array Slot), va_P E.1 vwCl (xm_w (xv E a) M) H → va_S (xm_A (xv E a) s.heap.size) s.heap H locs → lv_has ls 3 [(0, .ref (a 8)), (1, .int x1), (2, .int x2)] → W p l e { frames := 0, cells := 0, slots := 0, locals := 0 } s m args below meth c H locs 0 0 (MQ below (xm_Q E (xv E a) M' s.heap.size none) args s 0 0 (xm_A (xv E a) s.heap.size)) (F0 m 0 ls []) := by
  have C9 := C
  obtain ⟨hx, hb, hml, hown, hts, hr, hlk, hD, hK, hS9⟩ := C9
  intro h H locs ls hP hS hl
  unfold f_X3_want at h
  refine lv_aload_n hx hb dX3_want_0 rfl (lv_at hl 0 rfl) ?_
  refine lv_iload_n hx hb dX3_want_1 rfl (lv_at hl 1 rfl) ?_
  obtain ⟨M1, e2, h⟩ := xm_lt_s h
  refine xm_put (V := (xv E a)) (T := TX3) (ty := .int) (x := x1) C hP hS 8 3 xi_3 rfl l_X3_25 rfl tyX3_ok nmX3 (Nat.le_of_ble_eq_true rfl) ((xe_8 E a) _) (Nat.le_of_ble_eq_true rfl) rfl (by decide +kernel) rfl rfl (Nat.le_of_ble_eq_true rfl) ((xe_8 E a) _) dX3_want_2 (fun H locs hP hS => ?_)
  rw [← e2] at hP
  refine lv_aload_n hx hb dX3_want_5 rfl (lv_at hl 0 rfl) ?_
  refine lv_iload_n hx hb dX3_want_6 rfl (lv_at hl 2 rfl) ?_
  obtain ⟨M3, e4, h⟩ := xm_lt_s h
  refine xm_put (V := (xv E a)) (T := TX3) (ty := .int) (x := x2) C hP hS 8 4 xi_3 rfl l_X3_28 rfl tyX3_ok nmX3 (Nat.le_of_ble_eq_true rfl) ((xe_8 E a) _) (Nat.le_of_ble_eq_true rfl) rfl (by decide +kernel) rfl rfl (Nat.le_of_ble_eq_true rfl) ((xe_8 E a) _) dX3_want_7 (fun H locs hP hS => ?_)
  rw [← e4] at hP
  cases xm_on h
  exact xm_retV C hP hS dX3_want_10
theorem c_X3_want {l : Launch} {E : xm_E} {a : Nat → Nat} (hD : xm_D (xv E a)) (n : Nat) (M : xm_M) (x1 : Int32) (x2 : Int32) (M' : xm_M) (h : f_X3_want n M x1 x2 = some M') : xm_Met l E (xv E a) yX3_want cX3_want 3 none 0 0 [.ref (a 8), .int x1, .int x2] M M' none :=
  xm_met (by decide +kernel) rfl (Nat.le_of_ble_eq_true rfl) hD (fun p e s m below meth c C hP ls hl => t_X3_want_0 C  n M x1 x2 M' h _ _ _ hP va_S.rf hl)
def f_X3_takePlainSteps_9 : Nat → xm_M → Nat → Int32 → Int32 → Option xm_M
  | 0, _, _, _, _ => none
  | n + 1, M, o1, x2, x3 => if (M o1 2) ≤ x3 then some M else xm_ck (xm_in x3 8) (if (M (o1 + 2) x3.toNatClampNeg) = 0 then if (4 : Int32) ≤ (M 8 8) then f_X3_takePlainSteps_9 n M o1 x2 (x3 + 1) else xm_ck (xm_in x3 8) (xm_ck (xm_in (M 8 8) 4) (xm_lt (xm_up M 9 (M 8 8).toNatClampNeg (vp_nar .char (M (o1 + 1) x3.toNatClampNeg))) (fun M7 => xm_ck (xm_in (M7 8 8) 4) (xm_lt (xm_up M7 10 (M7 8 8).toNatClampNeg (vp_nar .char x2)) (fun M10 => xm_lt (xm_up M10 8 8 ((M10 8 8) + 1)) (fun M12 => f_X3_takePlainSteps_9 n M12 o1 0 (x3 + 1))))))) else xm_ck (xm_in x3 8) (f_X3_takePlainSteps_9 n M o1 (M (o1 + 1) x3.toNatClampNeg) (x3 + 1)))
set_option maxHeartbeats 4000000 in
set_option maxRecDepth 100000 in
theorem t_X3_takePlainSteps_9 {l : Launch} {p : Program} {e : Env} {s : State} {m : MethodId} {args : Array Value} {below : List Frame} {meth : Method} {c : Code} {E : xm_E} {a : Nat → Nat} (C : xm_C E (xv E a) p s m args meth c RX3 cX3_takePlainSteps 4 none) {o1 : Nat} (h1 : xm_Pa o1) : ∀ (n : Nat) (M : xm_M) (x2 : Int32) (x3 : Int32) (M' : xm_M), f_X3_takePlainSteps_9 n M o1 x2 x3 = some M' → ∀ (H : Heap) (locs : List Loc) (ls : Array Slot), va_P E.1 vwCl (xm_w (xv E a) M) H → va_S (xm_A (xv E a) s.heap.size) s.heap H locs → lv_has ls 4 [(0, .ref (a 8)), (1, .ref (a o1)), (2, .int x2), (3, .int x3)] → W p l e { frames := 0, cells := 0, slots := 0, locals := 0 } s m args below meth c H locs 0 0 (MQ below (xm_Q E (xv E a) M' s.heap.size none) args s 0 0 (xm_A (xv E a) s.heap.size)) (F0 m 9 ls []) := by
  have C9 := C
  obtain ⟨hx, hb, hml, hown, hts, hr, hlk, hD, hK, hS9⟩ := C9
  intro n
  induction n with
  | zero =>
    intro M x2 x3 M' h
    cases h
  | succ n ih =>
    intro M x2 x3 M' h H locs ls hP hS hl
    rw [f_X3_takePlainSteps_9] at h
    refine lv_iload_n hx hb dX3_takePlainSteps_9 rfl (lv_at hl 3 rfl) ?_
    refine lv_aload_n hx hb dX3_takePlainSteps_10 rfl (lv_at hl 1 rfl) ?_
    refine xm_getN (V := (xv E a)) (T := TX2) (v := .int (M o1 2)) C hP o1 2 xi_2 rfl l_X3_98 rfl (xp_lt h1 0 (by omega)) ((xp_0 h1 E a) _) (Nat.le_of_ble_eq_true rfl) rfl dX3_takePlainSteps_11 ?_
    refine lv_icmp_ge (tgt := 87) hx hb dX3_takePlainSteps_14 (by decide) (fun c1 => ?_) (fun c1 => ?_)
    · rw [if_pos c1] at h
      cases xm_on h
      exact xm_retV C hP hS dX3_takePlainSteps_87
    · rw [if_neg c1] at h
      refine lv_aload_n hx hb dX3_takePlainSteps_17 rfl (lv_at hl 1 rfl) ?_
      refine xm_getN (V := (xv E a)) (T := TX2) (v := .ref (a (o1 + 2))) C hP o1 5 xi_2 rfl l_X3_101 rfl (xp_lt h1 0 (by omega)) ((xp_0 h1 E a) _) (Nat.le_of_ble_eq_true rfl) rfl dX3_takePlainSteps_18 ?_
      refine lv_iload_n hx hb dX3_takePlainSteps_21 rfl (lv_at hl 3 rfl) ?_
      obtain ⟨b2, h⟩ := xm_ck_s h
      refine xm_zald (V := (xv E a)) C hP (o1 + 2) 8 (xp_lt h1 2 (by omega)) (xp_2 h1 E a) b2 dX3_takePlainSteps_22 ?_
      refine lv_if_eq (tgt := 36) hx hb dX3_takePlainSteps_23 (by decide) (fun c3 => ?_) (fun c3 => ?_)
      · rw [if_pos c3] at h
        refine lv_aload_n hx hb dX3_takePlainSteps_36 rfl (lv_at hl 0 rfl) ?_
        refine xm_get (V := (xv E a)) (T := TX3) (v := .int (M 8 8)) C hP 8 8 xi_3 rfl l_X3_40 rfl (Nat.le_of_ble_eq_true rfl) ((xe_8 E a) _) (Nat.le_of_ble_eq_true rfl) rfl dX3_takePlainSteps_37 ?_
        refine lv_iconst (v := 4) hx hb dX3_takePlainSteps_40 (by decide) ?_
        refine lv_icmp_ge (tgt := 81) hx hb dX3_takePlainSteps_41 (by decide) (fun c4 => ?_) (fun c4 => ?_)
        · rw [if_pos c4] at h
          refine lv_iinc (v := x3 + 1) (lv' := [(3, .int (x3 + 1)), (0, .ref (a 8)), (1, .ref (a o1)), (2, .int x2)]) hx hb dX3_takePlainSteps_81 hl (k := 3) rfl (xm_add (by decide)) (by decide) rfl (fun ls hl => ?_)
          refine lv_goto (tgt := 9) hx hb dX3_takePlainSteps_84 (by decide) ?_
          exact ih M x2 (x3 + 1) M' h _ _ _ hP hS (lv_sub hl [1, 2, 3, 0] rfl)
        · rw [if_neg c4] at h
          refine lv_aload_n hx hb dX3_takePlainSteps_44 rfl (lv_at hl 0 rfl) ?_
          refine xm_get (V := (xv E a)) (T := TX3) (v := .ref (a 9)) C hP 8 9 xi_3 rfl l_X3_43 rfl (Nat.le_of_ble_eq_true rfl) ((xe_8 E a) _) (Nat.le_of_ble_eq_true rfl) rfl dX3_takePlainSteps_45 ?_
          refine lv_aload_n hx hb dX3_takePlainSteps_48 rfl (lv_at hl 0 rfl) ?_
          refine xm_get (V := (xv E a)) (T := TX3) (v := .int (M 8 8)) C hP 8 8 xi_3 rfl l_X3_40 rfl (Nat.le_of_ble_eq_true rfl) ((xe_8 E a) _) (Nat.le_of_ble_eq_true rfl) rfl dX3_takePlainSteps_49 ?_
          refine lv_aload_n hx hb dX3_takePlainSteps_52 rfl (lv_at hl 1 rfl) ?_
          refine xm_getN (V := (xv E a)) (T := TX2) (v := .ref (a (o1 + 1))) C hP o1 4 xi_2 rfl l_X3_105 rfl (xp_lt h1 0 (by omega)) ((xp_0 h1 E a) _) (Nat.le_of_ble_eq_true rfl) rfl dX3_takePlainSteps_53 ?_
          refine lv_iload_n hx hb dX3_takePlainSteps_56 rfl (lv_at hl 3 rfl) ?_
          obtain ⟨b5, h⟩ := xm_ck_s h
          refine xm_cald (V := (xv E a)) C hP (o1 + 1) 8 (xp_lt h1 1 (by omega)) (xp_1 h1 E a) b5 dX3_takePlainSteps_57 ?_
          obtain ⟨b6, h⟩ := xm_ck_s h
          obtain ⟨M7, e8, h⟩ := xm_lt_s h
          refine xm_cast (V := (xv E a)) C hP hS 9 4 (Nat.le_of_ble_eq_true rfl) (xe_9 E a) b6 dX3_takePlainSteps_58 (fun H locs hP hS => ?_)
          rw [← e8] at hP
          refine lv_aload_n hx hb dX3_takePlainSteps_59 rfl (lv_at hl 0 rfl) ?_
          refine xm_get (V := (xv E a)) (T := TX3) (v := .ref (a 10)) C hP 8 10 xi_3 rfl l_X3_47 rfl (Nat.le_of_ble_eq_true rfl) ((xe_8 E a) _) (Nat.le_of_ble_eq_true rfl) rfl dX3_takePlainSteps_60 ?_
          refine lv_aload_n hx hb dX3_takePlainSteps_63 rfl (lv_at hl 0 rfl) ?_
          refine xm_get (V := (xv E a)) (T := TX3) (v := .int (M7 8 8)) C hP 8 8 xi_3 rfl l_X3_40 rfl (Nat.le_of_ble_eq_true rfl) ((xe_8 E a) _) (Nat.le_of_ble_eq_true rfl) rfl dX3_takePlainSteps_64 ?_
          refine lv_iload_n hx hb dX3_takePlainSteps_67 rfl (lv_at hl 2 rfl) ?_
          obtain ⟨b9, h⟩ := xm_ck_s h
          obtain ⟨M10, e11, h⟩ := xm_lt_s h
          refine xm_cast (V := (xv E a)) C hP hS 10 4 (Nat.le_of_ble_eq_true rfl) (xe_10 E a) b9 dX3_takePlainSteps_68 (fun H locs hP hS => ?_)
          rw [← e11] at hP
          refine lv_aload_n hx hb dX3_takePlainSteps_69 rfl (lv_at hl 0 rfl) ?_
          refine lv_dup hx hb dX3_takePlainSteps_70 rfl ?_
          refine xm_get (V := (xv E a)) (T := TX3) (v := .int (M10 8 8)) C hP 8 8 xi_3 rfl l_X3_40 rfl (Nat.le_of_ble_eq_true rfl) ((xe_8 E a) _) (Nat.le_of_ble_eq_true rfl) rfl dX3_takePlainSteps_71 ?_
          refine lv_iconst (v := 1) hx hb dX3_takePlainSteps_74 (by decide) ?_
          refine lv_iadd hx hb dX3_takePlainSteps_75 ?_
          obtain ⟨M12, e13, h⟩ := xm_lt_s h
          refine xm_put (V := (xv E a)) (T := TX3) (ty := .int) (x := (M10 8 8) + 1) C hP hS 8 8 xi_3 rfl l_X3_40 rfl tyX3_ok nmX3 (Nat.le_of_ble_eq_true rfl) ((xe_8 E a) _) (Nat.le_of_ble_eq_true rfl) rfl (by decide +kernel) rfl rfl (Nat.le_of_ble_eq_true rfl) ((xe_8 E a) _) dX3_takePlainSteps_76 (fun H locs hP hS => ?_)
          rw [← e13] at hP
          refine lv_iconst (v := 0) hx hb dX3_takePlainSteps_79 (by decide) ?_
          refine lv_istore_n (lv' := [(2, .int 0), (0, .ref (a 8)), (1, .ref (a o1)), (3, .int x3)]) hx hb dX3_takePlainSteps_80 rfl hl (by decide) rfl (fun ls hl => ?_)
          refine lv_iinc (v := x3 + 1) (lv' := [(3, .int (x3 + 1)), (2, .int 0), (0, .ref (a 8)), (1, .ref (a o1))]) hx hb dX3_takePlainSteps_81 hl (k := 3) rfl (xm_add (by decide)) (by decide) rfl (fun ls hl => ?_)
          refine lv_goto (tgt := 9) hx hb dX3_takePlainSteps_84 (by decide) ?_
          exact ih M12 0 (x3 + 1) M' h _ _ _ hP hS (lv_sub hl [2, 3, 1, 0] rfl)
      · rw [if_neg c3] at h
        refine lv_aload_n hx hb dX3_takePlainSteps_26 rfl (lv_at hl 1 rfl) ?_
        refine xm_getN (V := (xv E a)) (T := TX2) (v := .ref (a (o1 + 1))) C hP o1 4 xi_2 rfl l_X3_105 rfl (xp_lt h1 0 (by omega)) ((xp_0 h1 E a) _) (Nat.le_of_ble_eq_true rfl) rfl dX3_takePlainSteps_27 ?_
        refine lv_iload_n hx hb dX3_takePlainSteps_30 rfl (lv_at hl 3 rfl) ?_
        obtain ⟨b14, h⟩ := xm_ck_s h
        refine xm_cald (V := (xv E a)) C hP (o1 + 1) 8 (xp_lt h1 1 (by omega)) (xp_1 h1 E a) b14 dX3_takePlainSteps_31 ?_
        refine lv_istore_n (lv' := [(2, .int (M (o1 + 1) x3.toNatClampNeg)), (0, .ref (a 8)), (1, .ref (a o1)), (3, .int x3)]) hx hb dX3_takePlainSteps_32 rfl hl (by decide) rfl (fun ls hl => ?_)
        refine lv_goto (tgt := 81) hx hb dX3_takePlainSteps_33 (by decide) ?_
        refine lv_iinc (v := x3 + 1) (lv' := [(3, .int (x3 + 1)), (2, .int (M (o1 + 1) x3.toNatClampNeg)), (0, .ref (a 8)), (1, .ref (a o1))]) hx hb dX3_takePlainSteps_81 hl (k := 3) rfl (xm_add (by decide)) (by decide) rfl (fun ls hl => ?_)
        refine lv_goto (tgt := 9) hx hb dX3_takePlainSteps_84 (by decide) ?_
        exact ih M (M (o1 + 1) x3.toNatClampNeg) (x3 + 1) M' h _ _ _ hP hS (lv_sub hl [2, 3, 1, 0] rfl)
def f_X3_takePlainSteps (n : Nat) (M : xm_M) (o1 : Nat) : Option xm_M := xm_lt (xm_up M 8 8 0) (fun M1 => f_X3_takePlainSteps_9 n M1 o1 0 0)
set_option maxHeartbeats 4000000 in
set_option maxRecDepth 100000 in
theorem t_X3_takePlainSteps_0 {l : Launch} {p : Program} {e : Env} {s : State} {m : MethodId} {args : Array Value} {below : List Frame} {meth : Method} {c : Code} {E : xm_E} {a : Nat → Nat} (C : xm_C E (xv E a) p s m args meth c RX3 cX3_takePlainSteps 4 none) {o1 : Nat} (h1 : xm_Pa o1) (n : Nat) (M : xm_M) (M' : xm_M) : f_X3_takePlainSteps n M o1 = some M' → ∀ (H : Heap) (locs : List Loc) (ls : Array Slot), va_P E.1 vwCl (xm_w (xv E a) M) H → va_S (xm_A (xv E a) s.heap.size) s.heap H locs → lv_has ls 4 [(0, .ref (a 8)), (1, .ref (a o1))] → W p l e { frames := 0, cells := 0, slots := 0, locals := 0 } s m args below meth c H locs 0 0 (MQ below (xm_Q E (xv E a) M' s.heap.size none) args s 0 0 (xm_A (xv E a) s.heap.size)) (F0 m 0 ls []) := by
  have C9 := C
  obtain ⟨hx, hb, hml, hown, hts, hr, hlk, hD, hK, hS9⟩ := C9
  intro h H locs ls hP hS hl
  unfold f_X3_takePlainSteps at h
  refine lv_aload_n hx hb dX3_takePlainSteps_0 rfl (lv_at hl 0 rfl) ?_
  refine lv_iconst (v := 0) hx hb dX3_takePlainSteps_1 (by decide) ?_
  obtain ⟨M1, e2, h⟩ := xm_lt_s h
  refine xm_put (V := (xv E a)) (T := TX3) (ty := .int) (x := 0) C hP hS 8 8 xi_3 rfl l_X3_40 rfl tyX3_ok nmX3 (Nat.le_of_ble_eq_true rfl) ((xe_8 E a) _) (Nat.le_of_ble_eq_true rfl) rfl (by decide +kernel) rfl rfl (Nat.le_of_ble_eq_true rfl) ((xe_8 E a) _) dX3_takePlainSteps_2 (fun H locs hP hS => ?_)
  rw [← e2] at hP
  refine lv_iconst (v := 0) hx hb dX3_takePlainSteps_5 (by decide) ?_
  refine lv_istore_n (lv' := [(2, .int 0), (0, .ref (a 8)), (1, .ref (a o1))]) hx hb dX3_takePlainSteps_6 rfl hl (by decide) rfl (fun ls hl => ?_)
  refine lv_iconst (v := 0) hx hb dX3_takePlainSteps_7 (by decide) ?_
  refine lv_istore_n (lv' := [(3, .int 0), (2, .int 0), (0, .ref (a 8)), (1, .ref (a o1))]) hx hb dX3_takePlainSteps_8 rfl hl (by decide) rfl (fun ls hl => ?_)
  exact t_X3_takePlainSteps_9 C h1 n M1 0 0 M' h _ _ _ hP hS (lv_sub hl [2, 3, 1, 0] rfl)
theorem c_X3_takePlainSteps {l : Launch} {E : xm_E} {a : Nat → Nat} (hD : xm_D (xv E a)) {o1 : Nat} (h1 : xm_Pa o1) (n : Nat) (M : xm_M) (M' : xm_M) (h : f_X3_takePlainSteps n M o1 = some M') : xm_Met l E (xv E a) yX3_takePlainSteps cX3_takePlainSteps 4 none 0 0 [.ref (a 8), .ref (a o1)] M M' none :=
  xm_met (by decide +kernel) rfl (Nat.le_of_ble_eq_true rfl) hD (fun p e s m below meth c C hP ls hl => t_X3_takePlainSteps_0 C h1 n M M' h _ _ _ hP va_S.rf hl)
def f_X3_isInWindow (n : Nat) (M : xm_M) (x1 : Int32) (x2 : Int32) : Option (Int32 × xm_M) := if x1 = 0 then some (1, M) else xm_ck (xm_in x2 25) (xm_ck (xm_in 0 4) (xm_ck (xm_in (M 11 (0 : Int32).toNatClampNeg) 25) (if ((M 17 (M 11 (0 : Int32).toNatClampNeg).toNatClampNeg) + (M 8 6)) < (M 17 x2.toNatClampNeg) then some (0, M) else some (1, M))))
set_option maxHeartbeats 4000000 in
set_option maxRecDepth 100000 in
theorem t_X3_isInWindow_0 {l : Launch} {p : Program} {e : Env} {s : State} {m : MethodId} {args : Array Value} {below : List Frame} {meth : Method} {c : Code} {E : xm_E} {a : Nat → Nat} (C : xm_C E (xv E a) p s m args meth c RX3 cX3_isInWindow 3 (some .boolean)) (n : Nat) (M : xm_M) (x1 : Int32) (x2 : Int32) (r : Int32) (M' : xm_M) : f_X3_isInWindow n M x1 x2 = some (r, M') → ∀ (H : Heap) (locs : List Loc) (ls : Array Slot), va_P E.1 vwCl (xm_w (xv E a) M) H → va_S (xm_A (xv E a) s.heap.size) s.heap H locs → lv_has ls 3 [(0, .ref (a 8)), (1, .int x1), (2, .int x2)] → W p l e { frames := 0, cells := 0, slots := 0, locals := 0 } s m args below meth c H locs 0 0 (MQ below (xm_Q E (xv E a) M' s.heap.size (some r)) args s 0 0 (xm_A (xv E a) s.heap.size)) (F0 m 0 ls []) := by
  have C9 := C
  obtain ⟨hx, hb, hml, hown, hts, hr, hlk, hD, hK, hS9⟩ := C9
  intro h H locs ls hP hS hl
  unfold f_X3_isInWindow at h
  refine lv_iload_n hx hb dX3_isInWindow_0 rfl (lv_at hl 1 rfl) ?_
  refine lv_if_eq (tgt := 35) hx hb dX3_isInWindow_1 (by decide) (fun c1 => ?_) (fun c1 => ?_)
  · rw [if_pos c1] at h
    refine lv_iconst (v := 1) hx hb dX3_isInWindow_35 (by decide) ?_
    refine lv_goto (tgt := 40) hx hb dX3_isInWindow_36 (by decide) ?_
    obtain ⟨rfl, rfl⟩ := xm_pr h
    exact xm_retZ C hP hS (by rfl) dX3_isInWindow_40
  · rw [if_neg c1] at h
    refine lv_aload_n hx hb dX3_isInWindow_4 rfl (lv_at hl 0 rfl) ?_
    refine xm_get (V := (xv E a)) (T := TX3) (v := .ref (a 13)) C hP 8 0 xi_3 rfl l_X3_12 rfl (Nat.le_of_ble_eq_true rfl) ((xe_8 E a) _) (Nat.le_of_ble_eq_true rfl) rfl dX3_isInWindow_5 ?_
    refine xm_getN (V := (xv E a)) (T := TX1) (v := .ref (a 17)) C hP 13 4 xi_1 rfl l_X3_124 rfl (Nat.le_of_ble_eq_true rfl) ((xe_13 E a) _) (Nat.le_of_ble_eq_true rfl) rfl dX3_isInWindow_8 ?_
    refine lv_iload_n hx hb dX3_isInWindow_11 rfl (lv_at hl 2 rfl) ?_
    obtain ⟨b2, h⟩ := xm_ck_s h
    refine xm_iald (V := (xv E a)) C hP 17 25 (Nat.le_of_ble_eq_true rfl) (xe_17 E a) b2 dX3_isInWindow_12 ?_
    refine lv_aload_n hx hb dX3_isInWindow_13 rfl (lv_at hl 0 rfl) ?_
    refine xm_get (V := (xv E a)) (T := TX3) (v := .ref (a 13)) C hP 8 0 xi_3 rfl l_X3_12 rfl (Nat.le_of_ble_eq_true rfl) ((xe_8 E a) _) (Nat.le_of_ble_eq_true rfl) rfl dX3_isInWindow_14 ?_
    refine xm_getN (V := (xv E a)) (T := TX1) (v := .ref (a 17)) C hP 13 4 xi_1 rfl l_X3_124 rfl (Nat.le_of_ble_eq_true rfl) ((xe_13 E a) _) (Nat.le_of_ble_eq_true rfl) rfl dX3_isInWindow_17 ?_
    refine lv_aload_n hx hb dX3_isInWindow_20 rfl (lv_at hl 0 rfl) ?_
    refine xm_get (V := (xv E a)) (T := TX3) (v := .ref (a 11)) C hP 8 11 xi_3 rfl l_X3_50 rfl (Nat.le_of_ble_eq_true rfl) ((xe_8 E a) _) (Nat.le_of_ble_eq_true rfl) rfl dX3_isInWindow_21 ?_
    refine lv_iconst (v := 0) hx hb dX3_isInWindow_24 (by decide) ?_
    obtain ⟨b3, h⟩ := xm_ck_s h
    refine xm_iald (V := (xv E a)) C hP 11 4 (Nat.le_of_ble_eq_true rfl) (xe_11 E a) b3 dX3_isInWindow_25 ?_
    obtain ⟨b4, h⟩ := xm_ck_s h
    refine xm_iald (V := (xv E a)) C hP 17 25 (Nat.le_of_ble_eq_true rfl) (xe_17 E a) b4 dX3_isInWindow_26 ?_
    refine lv_aload_n hx hb dX3_isInWindow_27 rfl (lv_at hl 0 rfl) ?_
    refine xm_get (V := (xv E a)) (T := TX3) (v := .int (M 8 6)) C hP 8 6 xi_3 rfl l_X3_34 rfl (Nat.le_of_ble_eq_true rfl) ((xe_8 E a) _) (Nat.le_of_ble_eq_true rfl) rfl dX3_isInWindow_28 ?_
    refine lv_iadd hx hb dX3_isInWindow_31 ?_
    refine lv_icmp_gt (tgt := 39) hx hb dX3_isInWindow_32 (by decide) (fun c5 => ?_) (fun c5 => ?_)
    · rw [if_pos c5] at h
      refine lv_iconst (v := 0) hx hb dX3_isInWindow_39 (by decide) ?_
      obtain ⟨rfl, rfl⟩ := xm_pr h
      exact xm_retZ C hP hS (by rfl) dX3_isInWindow_40
    · rw [if_neg c5] at h
      refine lv_iconst (v := 1) hx hb dX3_isInWindow_35 (by decide) ?_
      refine lv_goto (tgt := 40) hx hb dX3_isInWindow_36 (by decide) ?_
      obtain ⟨rfl, rfl⟩ := xm_pr h
      exact xm_retZ C hP hS (by rfl) dX3_isInWindow_40
theorem c_X3_isInWindow {l : Launch} {E : xm_E} {a : Nat → Nat} (hD : xm_D (xv E a)) (n : Nat) (M : xm_M) (x1 : Int32) (x2 : Int32) (r : Int32) (M' : xm_M) (h : f_X3_isInWindow n M x1 x2 = some (r, M')) : xm_Met l E (xv E a) yX3_isInWindow cX3_isInWindow 3 (some .boolean) 0 0 [.ref (a 8), .int x1, .int x2] M M' (some r) :=
  xm_met (by decide +kernel) rfl (Nat.le_of_ble_eq_true rfl) hD (fun p e s m below meth c C hP ls hl => t_X3_isInWindow_0 C  n M x1 x2 r M' h _ _ _ hP va_S.rf hl)
def f_X3_suits (n : Nat) (M : xm_M) (x1 : Int32) (x2 : Int32) : Option (Int32 × xm_M) := xm_ck (xm_in x2 25) (xm_ck (xm_in x1 4) (if (M 15 x2.toNatClampNeg) = (M 9 x1.toNatClampNeg) then if x1 = 0 then some (1, M) else if (M 8 7) = 0 then some (1, M) else xm_ck (xm_in (x1 - 1) 4) (xm_ck (xm_in (M 11 (x1 - 1).toNatClampNeg) 25) (if (M 8 7) = 1 then xm_ck (xm_in x2 25) (if (M 16 x2.toNatClampNeg) ≤ (M 16 (M 11 (x1 - 1).toNatClampNeg).toNatClampNeg) then some (0, M) else some (1, M)) else xm_ck (xm_in x2 25) (if (M 16 x2.toNatClampNeg) = (M 16 (M 11 (x1 - 1).toNatClampNeg).toNatClampNeg) then some (1, M) else some (0, M)))) else some (0, M)))
set_option maxHeartbeats 4000000 in
set_option maxRecDepth 100000 in
theorem t_X3_suits_0 {l : Launch} {p : Program} {e : Env} {s : State} {m : MethodId} {args : Array Value} {below : List Frame} {meth : Method} {c : Code} {E : xm_E} {a : Nat → Nat} (C : xm_C E (xv E a) p s m args meth c RX3 cX3_suits 4 (some .boolean)) (n : Nat) (M : xm_M) (x1 : Int32) (x2 : Int32) (r : Int32) (M' : xm_M) : f_X3_suits n M x1 x2 = some (r, M') → ∀ (H : Heap) (locs : List Loc) (ls : Array Slot), va_P E.1 vwCl (xm_w (xv E a) M) H → va_S (xm_A (xv E a) s.heap.size) s.heap H locs → lv_has ls 4 [(0, .ref (a 8)), (1, .int x1), (2, .int x2)] → W p l e { frames := 0, cells := 0, slots := 0, locals := 0 } s m args below meth c H locs 0 0 (MQ below (xm_Q E (xv E a) M' s.heap.size (some r)) args s 0 0 (xm_A (xv E a) s.heap.size)) (F0 m 0 ls []) := by
  have C9 := C
  obtain ⟨hx, hb, hml, hown, hts, hr, hlk, hD, hK, hS9⟩ := C9
  intro h H locs ls hP hS hl
  unfold f_X3_suits at h
  refine lv_aload_n hx hb dX3_suits_0 rfl (lv_at hl 0 rfl) ?_
  refine xm_get (V := (xv E a)) (T := TX3) (v := .ref (a 13)) C hP 8 0 xi_3 rfl l_X3_12 rfl (Nat.le_of_ble_eq_true rfl) ((xe_8 E a) _) (Nat.le_of_ble_eq_true rfl) rfl dX3_suits_1 ?_
  refine xm_getN (V := (xv E a)) (T := TX1) (v := .ref (a 15)) C hP 13 2 xi_1 rfl l_X3_123 rfl (Nat.le_of_ble_eq_true rfl) ((xe_13 E a) _) (Nat.le_of_ble_eq_true rfl) rfl dX3_suits_4 ?_
  refine lv_iload_n hx hb dX3_suits_7 rfl (lv_at hl 2 rfl) ?_
  obtain ⟨b1, h⟩ := xm_ck_s h
  refine xm_cald (V := (xv E a)) C hP 15 25 (Nat.le_of_ble_eq_true rfl) (xe_15 E a) b1 dX3_suits_8 ?_
  refine lv_aload_n hx hb dX3_suits_9 rfl (lv_at hl 0 rfl) ?_
  refine xm_get (V := (xv E a)) (T := TX3) (v := .ref (a 9)) C hP 8 9 xi_3 rfl l_X3_43 rfl (Nat.le_of_ble_eq_true rfl) ((xe_8 E a) _) (Nat.le_of_ble_eq_true rfl) rfl dX3_suits_10 ?_
  refine lv_iload_n hx hb dX3_suits_13 rfl (lv_at hl 1 rfl) ?_
  obtain ⟨b2, h⟩ := xm_ck_s h
  refine xm_cald (V := (xv E a)) C hP 9 4 (Nat.le_of_ble_eq_true rfl) (xe_9 E a) b2 dX3_suits_14 ?_
  refine lv_icmp_eq (tgt := 20) hx hb dX3_suits_15 (by decide) (fun c3 => ?_) (fun c3 => ?_)
  · rw [if_pos c3] at h
    refine lv_iload_n hx hb dX3_suits_20 rfl (lv_at hl 1 rfl) ?_
    refine lv_if_eq (tgt := 31) hx hb dX3_suits_21 (by decide) (fun c4 => ?_) (fun c4 => ?_)
    · rw [if_pos c4] at h
      refine lv_iconst (v := 1) hx hb dX3_suits_31 (by decide) ?_
      obtain ⟨rfl, rfl⟩ := xm_pr h
      exact xm_retZ C hP hS (by rfl) dX3_suits_32
    · rw [if_neg c4] at h
      refine lv_aload_n hx hb dX3_suits_24 rfl (lv_at hl 0 rfl) ?_
      refine xm_get (V := (xv E a)) (T := TX3) (v := .int (M 8 7)) C hP 8 7 xi_3 rfl l_X3_37 rfl (Nat.le_of_ble_eq_true rfl) ((xe_8 E a) _) (Nat.le_of_ble_eq_true rfl) rfl dX3_suits_25 ?_
      refine lv_if_ne (tgt := 33) hx hb dX3_suits_28 (by decide) (fun c5 => ?_) (fun c5 => ?_)
      · rw [if_neg c5] at h
        refine lv_aload_n hx hb dX3_suits_33 rfl (lv_at hl 0 rfl) ?_
        refine xm_get (V := (xv E a)) (T := TX3) (v := .ref (a 13)) C hP 8 0 xi_3 rfl l_X3_12 rfl (Nat.le_of_ble_eq_true rfl) ((xe_8 E a) _) (Nat.le_of_ble_eq_true rfl) rfl dX3_suits_34 ?_
        refine xm_getN (V := (xv E a)) (T := TX1) (v := .ref (a 16)) C hP 13 3 xi_1 rfl l_X3_127 rfl (Nat.le_of_ble_eq_true rfl) ((xe_13 E a) _) (Nat.le_of_ble_eq_true rfl) rfl dX3_suits_37 ?_
        refine lv_aload_n hx hb dX3_suits_40 rfl (lv_at hl 0 rfl) ?_
        refine xm_get (V := (xv E a)) (T := TX3) (v := .ref (a 11)) C hP 8 11 xi_3 rfl l_X3_50 rfl (Nat.le_of_ble_eq_true rfl) ((xe_8 E a) _) (Nat.le_of_ble_eq_true rfl) rfl dX3_suits_41 ?_
        refine lv_iload_n hx hb dX3_suits_44 rfl (lv_at hl 1 rfl) ?_
        refine lv_iconst (v := 1) hx hb dX3_suits_45 (by decide) ?_
        refine lv_isub hx hb dX3_suits_46 ?_
        obtain ⟨b6, h⟩ := xm_ck_s h
        refine xm_iald (V := (xv E a)) C hP 11 4 (Nat.le_of_ble_eq_true rfl) (xe_11 E a) b6 dX3_suits_47 ?_
        obtain ⟨b7, h⟩ := xm_ck_s h
        refine xm_iald (V := (xv E a)) C hP 16 25 (Nat.le_of_ble_eq_true rfl) (xe_16 E a) b7 dX3_suits_48 ?_
        refine lv_istore_n (lv' := [(3, .int (M 16 (M 11 (x1 - 1).toNatClampNeg).toNatClampNeg)), (0, .ref (a 8)), (1, .int x1), (2, .int x2)]) hx hb dX3_suits_49 rfl hl (by decide) rfl (fun ls hl => ?_)
        refine lv_aload_n hx hb dX3_suits_50 rfl (lv_at hl 1 rfl) ?_
        refine xm_get (V := (xv E a)) (T := TX3) (v := .int (M 8 7)) C hP 8 7 xi_3 rfl l_X3_37 rfl (Nat.le_of_ble_eq_true rfl) ((xe_8 E a) _) (Nat.le_of_ble_eq_true rfl) rfl dX3_suits_51 ?_
        refine lv_iconst (v := 1) hx hb dX3_suits_54 (by decide) ?_
        refine lv_icmp_ne (tgt := 79) hx hb dX3_suits_55 (by decide) (fun c8 => ?_) (fun c8 => ?_)
        · rw [if_neg c8] at h
          refine lv_aload_n hx hb dX3_suits_79 rfl (lv_at hl 1 rfl) ?_
          refine xm_get (V := (xv E a)) (T := TX3) (v := .ref (a 13)) C hP 8 0 xi_3 rfl l_X3_12 rfl (Nat.le_of_ble_eq_true rfl) ((xe_8 E a) _) (Nat.le_of_ble_eq_true rfl) rfl dX3_suits_80 ?_
          refine xm_getN (V := (xv E a)) (T := TX1) (v := .ref (a 16)) C hP 13 3 xi_1 rfl l_X3_127 rfl (Nat.le_of_ble_eq_true rfl) ((xe_13 E a) _) (Nat.le_of_ble_eq_true rfl) rfl dX3_suits_83 ?_
          refine lv_iload_n hx hb dX3_suits_86 rfl (lv_at hl 3 rfl) ?_
          obtain ⟨b9, h⟩ := xm_ck_s h
          refine xm_iald (V := (xv E a)) C hP 16 25 (Nat.le_of_ble_eq_true rfl) (xe_16 E a) b9 dX3_suits_87 ?_
          refine lv_iload_n hx hb dX3_suits_88 rfl (lv_at hl 0 rfl) ?_
          refine lv_icmp_ne (tgt := 96) hx hb dX3_suits_89 (by decide) (fun c10 => ?_) (fun c10 => ?_)
          · rw [if_neg c10] at h
            refine lv_iconst (v := 0) hx hb dX3_suits_96 (by decide) ?_
            obtain ⟨rfl, rfl⟩ := xm_pr h
            exact xm_retZ C hP hS (by rfl) dX3_suits_97
          · rw [if_pos c10] at h
            refine lv_iconst (v := 1) hx hb dX3_suits_92 (by decide) ?_
            refine lv_goto (tgt := 97) hx hb dX3_suits_93 (by decide) ?_
            obtain ⟨rfl, rfl⟩ := xm_pr h
            exact xm_retZ C hP hS (by rfl) dX3_suits_97
        · rw [if_pos c8] at h
          refine lv_aload_n hx hb dX3_suits_58 rfl (lv_at hl 1 rfl) ?_
          refine xm_get (V := (xv E a)) (T := TX3) (v := .ref (a 13)) C hP 8 0 xi_3 rfl l_X3_12 rfl (Nat.le_of_ble_eq_true rfl) ((xe_8 E a) _) (Nat.le_of_ble_eq_true rfl) rfl dX3_suits_59 ?_
          refine xm_getN (V := (xv E a)) (T := TX1) (v := .ref (a 16)) C hP 13 3 xi_1 rfl l_X3_127 rfl (Nat.le_of_ble_eq_true rfl) ((xe_13 E a) _) (Nat.le_of_ble_eq_true rfl) rfl dX3_suits_62 ?_
          refine lv_iload_n hx hb dX3_suits_65 rfl (lv_at hl 3 rfl) ?_
          obtain ⟨b11, h⟩ := xm_ck_s h
          refine xm_iald (V := (xv E a)) C hP 16 25 (Nat.le_of_ble_eq_true rfl) (xe_16 E a) b11 dX3_suits_66 ?_
          refine lv_iload_n hx hb dX3_suits_67 rfl (lv_at hl 0 rfl) ?_
          refine lv_icmp_le (tgt := 75) hx hb dX3_suits_68 (by decide) (fun c12 => ?_) (fun c12 => ?_)
          · rw [if_pos c12] at h
            refine lv_iconst (v := 0) hx hb dX3_suits_75 (by decide) ?_
            refine lv_goto (tgt := 97) hx hb dX3_suits_76 (by decide) ?_
            obtain ⟨rfl, rfl⟩ := xm_pr h
            exact xm_retZ C hP hS (by rfl) dX3_suits_97
          · rw [if_neg c12] at h
            refine lv_iconst (v := 1) hx hb dX3_suits_71 (by decide) ?_
            refine lv_goto (tgt := 97) hx hb dX3_suits_72 (by decide) ?_
            obtain ⟨rfl, rfl⟩ := xm_pr h
            exact xm_retZ C hP hS (by rfl) dX3_suits_97
      · rw [if_pos c5] at h
        refine lv_iconst (v := 1) hx hb dX3_suits_31 (by decide) ?_
        obtain ⟨rfl, rfl⟩ := xm_pr h
        exact xm_retZ C hP hS (by rfl) dX3_suits_32
  · rw [if_neg c3] at h
    refine lv_iconst (v := 0) hx hb dX3_suits_18 (by decide) ?_
    obtain ⟨rfl, rfl⟩ := xm_pr h
    exact xm_retZ C hP hS (by rfl) dX3_suits_19
theorem c_X3_suits {l : Launch} {E : xm_E} {a : Nat → Nat} (hD : xm_D (xv E a)) (n : Nat) (M : xm_M) (x1 : Int32) (x2 : Int32) (r : Int32) (M' : xm_M) (h : f_X3_suits n M x1 x2 = some (r, M')) : xm_Met l E (xv E a) yX3_suits cX3_suits 4 (some .boolean) 0 0 [.ref (a 8), .int x1, .int x2] M M' (some r) :=
  xm_met (by decide +kernel) rfl (Nat.le_of_ble_eq_true rfl) hD (fun p e s m below meth c C hP ls hl => t_X3_suits_0 C  n M x1 x2 r M' h _ _ _ hP va_S.rf hl)
def f_X3_tellBranch (n : Nat) (M : xm_M) (x1 : Int32) : Option xm_M := if (M 8 8) ≤ (x1 + 1) then some M else xm_ck (xm_in 0 4) (xm_ck (xm_in (M 11 (0 : Int32).toNatClampNeg) 25) (if ((M 17 (M 11 (0 : Int32).toNatClampNeg).toNatClampNeg) + (M 8 6)) < (M 8 1) then some M else xm_lt (xm_up M 8 14 ((M 8 14) + 1)) (fun M5 => some M5)))
set_option maxHeartbeats 4000000 in
set_option maxRecDepth 100000 in
theorem t_X3_tellBranch_0 {l : Launch} {p : Program} {e : Env} {s : State} {m : MethodId} {args : Array Value} {below : List Frame} {meth : Method} {c : Code} {E : xm_E} {a : Nat → Nat} (C : xm_C E (xv E a) p s m args meth c RX3 cX3_tellBranch 2 none) (n : Nat) (M : xm_M) (x1 : Int32) (M' : xm_M) : f_X3_tellBranch n M x1 = some M' → ∀ (H : Heap) (locs : List Loc) (ls : Array Slot), va_P E.1 vwCl (xm_w (xv E a) M) H → va_S (xm_A (xv E a) s.heap.size) s.heap H locs → lv_has ls 2 [(0, .ref (a 8)), (1, .int x1)] → W p l e { frames := 0, cells := 0, slots := 0, locals := 0 } s m args below meth c H locs 0 0 (MQ below (xm_Q E (xv E a) M' s.heap.size none) args s 0 0 (xm_A (xv E a) s.heap.size)) (F0 m 0 ls []) := by
  have C9 := C
  obtain ⟨hx, hb, hml, hown, hts, hr, hlk, hD, hK, hS9⟩ := C9
  intro h H locs ls hP hS hl
  unfold f_X3_tellBranch at h
  refine lv_iload_n hx hb dX3_tellBranch_0 rfl (lv_at hl 1 rfl) ?_
  refine lv_iconst (v := 1) hx hb dX3_tellBranch_1 (by decide) ?_
  refine lv_iadd hx hb dX3_tellBranch_2 ?_
  refine lv_aload_n hx hb dX3_tellBranch_3 rfl (lv_at hl 0 rfl) ?_
  refine xm_get (V := (xv E a)) (T := TX3) (v := .int (M 8 8)) C hP 8 8 xi_3 rfl l_X3_40 rfl (Nat.le_of_ble_eq_true rfl) ((xe_8 E a) _) (Nat.le_of_ble_eq_true rfl) rfl dX3_tellBranch_4 ?_
  refine lv_icmp_ge (tgt := 46) hx hb dX3_tellBranch_7 (by decide) (fun c1 => ?_) (fun c1 => ?_)
  · rw [if_pos c1] at h
    cases xm_on h
    exact xm_retV C hP hS dX3_tellBranch_46
  · rw [if_neg c1] at h
    refine lv_aload_n hx hb dX3_tellBranch_10 rfl (lv_at hl 0 rfl) ?_
    refine xm_get (V := (xv E a)) (T := TX3) (v := .ref (a 13)) C hP 8 0 xi_3 rfl l_X3_12 rfl (Nat.le_of_ble_eq_true rfl) ((xe_8 E a) _) (Nat.le_of_ble_eq_true rfl) rfl dX3_tellBranch_11 ?_
    refine xm_getN (V := (xv E a)) (T := TX1) (v := .ref (a 17)) C hP 13 4 xi_1 rfl l_X3_124 rfl (Nat.le_of_ble_eq_true rfl) ((xe_13 E a) _) (Nat.le_of_ble_eq_true rfl) rfl dX3_tellBranch_14 ?_
    refine lv_aload_n hx hb dX3_tellBranch_17 rfl (lv_at hl 0 rfl) ?_
    refine xm_get (V := (xv E a)) (T := TX3) (v := .ref (a 11)) C hP 8 11 xi_3 rfl l_X3_50 rfl (Nat.le_of_ble_eq_true rfl) ((xe_8 E a) _) (Nat.le_of_ble_eq_true rfl) rfl dX3_tellBranch_18 ?_
    refine lv_iconst (v := 0) hx hb dX3_tellBranch_21 (by decide) ?_
    obtain ⟨b2, h⟩ := xm_ck_s h
    refine xm_iald (V := (xv E a)) C hP 11 4 (Nat.le_of_ble_eq_true rfl) (xe_11 E a) b2 dX3_tellBranch_22 ?_
    obtain ⟨b3, h⟩ := xm_ck_s h
    refine xm_iald (V := (xv E a)) C hP 17 25 (Nat.le_of_ble_eq_true rfl) (xe_17 E a) b3 dX3_tellBranch_23 ?_
    refine lv_aload_n hx hb dX3_tellBranch_24 rfl (lv_at hl 0 rfl) ?_
    refine xm_get (V := (xv E a)) (T := TX3) (v := .int (M 8 6)) C hP 8 6 xi_3 rfl l_X3_34 rfl (Nat.le_of_ble_eq_true rfl) ((xe_8 E a) _) (Nat.le_of_ble_eq_true rfl) rfl dX3_tellBranch_25 ?_
    refine lv_iadd hx hb dX3_tellBranch_28 ?_
    refine lv_aload_n hx hb dX3_tellBranch_29 rfl (lv_at hl 0 rfl) ?_
    refine xm_get (V := (xv E a)) (T := TX3) (v := .int (M 8 1)) C hP 8 1 xi_3 rfl l_X3_18 rfl (Nat.le_of_ble_eq_true rfl) ((xe_8 E a) _) (Nat.le_of_ble_eq_true rfl) rfl dX3_tellBranch_30 ?_
    refine lv_icmp_lt (tgt := 46) hx hb dX3_tellBranch_33 (by decide) (fun c4 => ?_) (fun c4 => ?_)
    · rw [if_pos c4] at h
      cases xm_on h
      exact xm_retV C hP hS dX3_tellBranch_46
    · rw [if_neg c4] at h
      refine lv_aload_n hx hb dX3_tellBranch_36 rfl (lv_at hl 0 rfl) ?_
      refine lv_dup hx hb dX3_tellBranch_37 rfl ?_
      refine xm_get (V := (xv E a)) (T := TX3) (v := .int (M 8 14)) C hP 8 14 xi_3 rfl l_X3_60 rfl (Nat.le_of_ble_eq_true rfl) ((xe_8 E a) _) (Nat.le_of_ble_eq_true rfl) rfl dX3_tellBranch_38 ?_
      refine lv_iconst (v := 1) hx hb dX3_tellBranch_41 (by decide) ?_
      refine lv_iadd hx hb dX3_tellBranch_42 ?_
      obtain ⟨M5, e6, h⟩ := xm_lt_s h
      refine xm_put (V := (xv E a)) (T := TX3) (ty := .int) (x := (M 8 14) + 1) C hP hS 8 14 xi_3 rfl l_X3_60 rfl tyX3_ok nmX3 (Nat.le_of_ble_eq_true rfl) ((xe_8 E a) _) (Nat.le_of_ble_eq_true rfl) rfl (by decide +kernel) rfl rfl (Nat.le_of_ble_eq_true rfl) ((xe_8 E a) _) dX3_tellBranch_43 (fun H locs hP hS => ?_)
      rw [← e6] at hP
      cases xm_on h
      exact xm_retV C hP hS dX3_tellBranch_46
theorem c_X3_tellBranch {l : Launch} {E : xm_E} {a : Nat → Nat} (hD : xm_D (xv E a)) (n : Nat) (M : xm_M) (x1 : Int32) (M' : xm_M) (h : f_X3_tellBranch n M x1 = some M') : xm_Met l E (xv E a) yX3_tellBranch cX3_tellBranch 2 none 0 0 [.ref (a 8), .int x1] M M' none :=
  xm_met (by decide +kernel) rfl (Nat.le_of_ble_eq_true rfl) hD (fun p e s m below meth c C hP ls hl => t_X3_tellBranch_0 C  n M x1 M' h _ _ _ hP va_S.rf hl)
def f_X3_tellMatch_36 (n : Nat) (M : xm_M) : Option xm_M := if (M 8 12) = (M 8 3) then xm_ck (xm_in (M 8 4) 4) (xm_ck (xm_in (M 11 (M 8 4).toNatClampNeg) 25) (xm_lt (xm_up M 8 5 (M 14 (M 11 (M 8 4).toNatClampNeg).toNatClampNeg)) (fun M6 => xm_lt (xm_up M6 8 12 ((M6 8 12) + 1)) (fun M8 => some M8)))) else xm_lt (xm_up M 8 12 ((M 8 12) + 1)) (fun M2 => some M2)
set_option maxHeartbeats 4000000 in
set_option maxRecDepth 100000 in
theorem t_X3_tellMatch_36 {l : Launch} {p : Program} {e : Env} {s : State} {m : MethodId} {args : Array Value} {below : List Frame} {meth : Method} {c : Code} {E : xm_E} {a : Nat → Nat} (C : xm_C E (xv E a) p s m args meth c RX3 cX3_tellMatch 1 none) (n : Nat) (M : xm_M) (M' : xm_M) : f_X3_tellMatch_36 n M = some M' → ∀ (H : Heap) (locs : List Loc) (ls : Array Slot), va_P E.1 vwCl (xm_w (xv E a) M) H → va_S (xm_A (xv E a) s.heap.size) s.heap H locs → lv_has ls 1 [(0, .ref (a 8))] → W p l e { frames := 0, cells := 0, slots := 0, locals := 0 } s m args below meth c H locs 0 0 (MQ below (xm_Q E (xv E a) M' s.heap.size none) args s 0 0 (xm_A (xv E a) s.heap.size)) (F0 m 36 ls []) := by
  have C9 := C
  obtain ⟨hx, hb, hml, hown, hts, hr, hlk, hD, hK, hS9⟩ := C9
  intro h H locs ls hP hS hl
  unfold f_X3_tellMatch_36 at h
  refine lv_aload_n hx hb dX3_tellMatch_36 rfl (lv_at hl 0 rfl) ?_
  refine xm_get (V := (xv E a)) (T := TX3) (v := .int (M 8 12)) C hP 8 12 xi_3 rfl l_X3_54 rfl (Nat.le_of_ble_eq_true rfl) ((xe_8 E a) _) (Nat.le_of_ble_eq_true rfl) rfl dX3_tellMatch_37 ?_
  refine lv_aload_n hx hb dX3_tellMatch_40 rfl (lv_at hl 0 rfl) ?_
  refine xm_get (V := (xv E a)) (T := TX3) (v := .int (M 8 3)) C hP 8 3 xi_3 rfl l_X3_25 rfl (Nat.le_of_ble_eq_true rfl) ((xe_8 E a) _) (Nat.le_of_ble_eq_true rfl) rfl dX3_tellMatch_41 ?_
  refine lv_icmp_ne (tgt := 68) hx hb dX3_tellMatch_44 (by decide) (fun c1 => ?_) (fun c1 => ?_)
  · rw [if_neg c1] at h
    refine lv_aload_n hx hb dX3_tellMatch_68 rfl (lv_at hl 0 rfl) ?_
    refine lv_dup hx hb dX3_tellMatch_69 rfl ?_
    refine xm_get (V := (xv E a)) (T := TX3) (v := .int (M 8 12)) C hP 8 12 xi_3 rfl l_X3_54 rfl (Nat.le_of_ble_eq_true rfl) ((xe_8 E a) _) (Nat.le_of_ble_eq_true rfl) rfl dX3_tellMatch_70 ?_
    refine lv_iconst (v := 1) hx hb dX3_tellMatch_73 (by decide) ?_
    refine lv_iadd hx hb dX3_tellMatch_74 ?_
    obtain ⟨M2, e3, h⟩ := xm_lt_s h
    refine xm_put (V := (xv E a)) (T := TX3) (ty := .int) (x := (M 8 12) + 1) C hP hS 8 12 xi_3 rfl l_X3_54 rfl tyX3_ok nmX3 (Nat.le_of_ble_eq_true rfl) ((xe_8 E a) _) (Nat.le_of_ble_eq_true rfl) rfl (by decide +kernel) rfl rfl (Nat.le_of_ble_eq_true rfl) ((xe_8 E a) _) dX3_tellMatch_75 (fun H locs hP hS => ?_)
    rw [← e3] at hP
    cases xm_on h
    exact xm_retV C hP hS dX3_tellMatch_78
  · rw [if_pos c1] at h
    refine lv_aload_n hx hb dX3_tellMatch_47 rfl (lv_at hl 0 rfl) ?_
    refine lv_aload_n hx hb dX3_tellMatch_48 rfl (lv_at hl 0 rfl) ?_
    refine xm_get (V := (xv E a)) (T := TX3) (v := .ref (a 13)) C hP 8 0 xi_3 rfl l_X3_12 rfl (Nat.le_of_ble_eq_true rfl) ((xe_8 E a) _) (Nat.le_of_ble_eq_true rfl) rfl dX3_tellMatch_49 ?_
    refine xm_getN (V := (xv E a)) (T := TX1) (v := .ref (a 14)) C hP 13 1 xi_1 rfl l_X3_130 rfl (Nat.le_of_ble_eq_true rfl) ((xe_13 E a) _) (Nat.le_of_ble_eq_true rfl) rfl dX3_tellMatch_52 ?_
    refine lv_aload_n hx hb dX3_tellMatch_55 rfl (lv_at hl 0 rfl) ?_
    refine xm_get (V := (xv E a)) (T := TX3) (v := .ref (a 11)) C hP 8 11 xi_3 rfl l_X3_50 rfl (Nat.le_of_ble_eq_true rfl) ((xe_8 E a) _) (Nat.le_of_ble_eq_true rfl) rfl dX3_tellMatch_56 ?_
    refine lv_aload_n hx hb dX3_tellMatch_59 rfl (lv_at hl 0 rfl) ?_
    refine xm_get (V := (xv E a)) (T := TX3) (v := .int (M 8 4)) C hP 8 4 xi_3 rfl l_X3_28 rfl (Nat.le_of_ble_eq_true rfl) ((xe_8 E a) _) (Nat.le_of_ble_eq_true rfl) rfl dX3_tellMatch_60 ?_
    obtain ⟨b4, h⟩ := xm_ck_s h
    refine xm_iald (V := (xv E a)) C hP 11 4 (Nat.le_of_ble_eq_true rfl) (xe_11 E a) b4 dX3_tellMatch_63 ?_
    obtain ⟨b5, h⟩ := xm_ck_s h
    refine xm_iald (V := (xv E a)) C hP 14 25 (Nat.le_of_ble_eq_true rfl) (xe_14 E a) b5 dX3_tellMatch_64 ?_
    obtain ⟨M6, e7, h⟩ := xm_lt_s h
    refine xm_put (V := (xv E a)) (T := TX3) (ty := .int) (x := M 14 (M 11 (M 8 4).toNatClampNeg).toNatClampNeg) C hP hS 8 5 xi_3 rfl l_X3_31 rfl tyX3_ok nmX3 (Nat.le_of_ble_eq_true rfl) ((xe_8 E a) _) (Nat.le_of_ble_eq_true rfl) rfl (by decide +kernel) rfl rfl (Nat.le_of_ble_eq_true rfl) ((xe_8 E a) _) dX3_tellMatch_65 (fun H locs hP hS => ?_)
    rw [← e7] at hP
    refine lv_aload_n hx hb dX3_tellMatch_68 rfl (lv_at hl 0 rfl) ?_
    refine lv_dup hx hb dX3_tellMatch_69 rfl ?_
    refine xm_get (V := (xv E a)) (T := TX3) (v := .int (M6 8 12)) C hP 8 12 xi_3 rfl l_X3_54 rfl (Nat.le_of_ble_eq_true rfl) ((xe_8 E a) _) (Nat.le_of_ble_eq_true rfl) rfl dX3_tellMatch_70 ?_
    refine lv_iconst (v := 1) hx hb dX3_tellMatch_73 (by decide) ?_
    refine lv_iadd hx hb dX3_tellMatch_74 ?_
    obtain ⟨M8, e9, h⟩ := xm_lt_s h
    refine xm_put (V := (xv E a)) (T := TX3) (ty := .int) (x := (M6 8 12) + 1) C hP hS 8 12 xi_3 rfl l_X3_54 rfl tyX3_ok nmX3 (Nat.le_of_ble_eq_true rfl) ((xe_8 E a) _) (Nat.le_of_ble_eq_true rfl) rfl (by decide +kernel) rfl rfl (Nat.le_of_ble_eq_true rfl) ((xe_8 E a) _) dX3_tellMatch_75 (fun H locs hP hS => ?_)
    rw [← e9] at hP
    cases xm_on h
    exact xm_retV C hP hS dX3_tellMatch_78
def f_X3_tellMatch (n : Nat) (M : xm_M) : Option xm_M := xm_ck (xm_in ((M 8 8) - 1) 4) (xm_ck (xm_in (M 11 ((M 8 8) - 1).toNatClampNeg) 25) (if (M 8 2) < (M 17 (M 11 ((M 8 8) - 1).toNatClampNeg).toNatClampNeg) then f_X3_tellMatch_36 n M else xm_lt (xm_up M 8 13 ((M 8 13) + 1)) (fun M4 => f_X3_tellMatch_36 n M4)))
set_option maxHeartbeats 4000000 in
set_option maxRecDepth 100000 in
theorem t_X3_tellMatch_0 {l : Launch} {p : Program} {e : Env} {s : State} {m : MethodId} {args : Array Value} {below : List Frame} {meth : Method} {c : Code} {E : xm_E} {a : Nat → Nat} (C : xm_C E (xv E a) p s m args meth c RX3 cX3_tellMatch 1 none) (n : Nat) (M : xm_M) (M' : xm_M) : f_X3_tellMatch n M = some M' → ∀ (H : Heap) (locs : List Loc) (ls : Array Slot), va_P E.1 vwCl (xm_w (xv E a) M) H → va_S (xm_A (xv E a) s.heap.size) s.heap H locs → lv_has ls 1 [(0, .ref (a 8))] → W p l e { frames := 0, cells := 0, slots := 0, locals := 0 } s m args below meth c H locs 0 0 (MQ below (xm_Q E (xv E a) M' s.heap.size none) args s 0 0 (xm_A (xv E a) s.heap.size)) (F0 m 0 ls []) := by
  have C9 := C
  obtain ⟨hx, hb, hml, hown, hts, hr, hlk, hD, hK, hS9⟩ := C9
  intro h H locs ls hP hS hl
  unfold f_X3_tellMatch at h
  refine lv_aload_n hx hb dX3_tellMatch_0 rfl (lv_at hl 0 rfl) ?_
  refine xm_get (V := (xv E a)) (T := TX3) (v := .ref (a 13)) C hP 8 0 xi_3 rfl l_X3_12 rfl (Nat.le_of_ble_eq_true rfl) ((xe_8 E a) _) (Nat.le_of_ble_eq_true rfl) rfl dX3_tellMatch_1 ?_
  refine xm_getN (V := (xv E a)) (T := TX1) (v := .ref (a 17)) C hP 13 4 xi_1 rfl l_X3_124 rfl (Nat.le_of_ble_eq_true rfl) ((xe_13 E a) _) (Nat.le_of_ble_eq_true rfl) rfl dX3_tellMatch_4 ?_
  refine lv_aload_n hx hb dX3_tellMatch_7 rfl (lv_at hl 0 rfl) ?_
  refine xm_get (V := (xv E a)) (T := TX3) (v := .ref (a 11)) C hP 8 11 xi_3 rfl l_X3_50 rfl (Nat.le_of_ble_eq_true rfl) ((xe_8 E a) _) (Nat.le_of_ble_eq_true rfl) rfl dX3_tellMatch_8 ?_
  refine lv_aload_n hx hb dX3_tellMatch_11 rfl (lv_at hl 0 rfl) ?_
  refine xm_get (V := (xv E a)) (T := TX3) (v := .int (M 8 8)) C hP 8 8 xi_3 rfl l_X3_40 rfl (Nat.le_of_ble_eq_true rfl) ((xe_8 E a) _) (Nat.le_of_ble_eq_true rfl) rfl dX3_tellMatch_12 ?_
  refine lv_iconst (v := 1) hx hb dX3_tellMatch_15 (by decide) ?_
  refine lv_isub hx hb dX3_tellMatch_16 ?_
  obtain ⟨b1, h⟩ := xm_ck_s h
  refine xm_iald (V := (xv E a)) C hP 11 4 (Nat.le_of_ble_eq_true rfl) (xe_11 E a) b1 dX3_tellMatch_17 ?_
  obtain ⟨b2, h⟩ := xm_ck_s h
  refine xm_iald (V := (xv E a)) C hP 17 25 (Nat.le_of_ble_eq_true rfl) (xe_17 E a) b2 dX3_tellMatch_18 ?_
  refine lv_aload_n hx hb dX3_tellMatch_19 rfl (lv_at hl 0 rfl) ?_
  refine xm_get (V := (xv E a)) (T := TX3) (v := .int (M 8 2)) C hP 8 2 xi_3 rfl l_X3_22 rfl (Nat.le_of_ble_eq_true rfl) ((xe_8 E a) _) (Nat.le_of_ble_eq_true rfl) rfl dX3_tellMatch_20 ?_
  refine lv_icmp_gt (tgt := 36) hx hb dX3_tellMatch_23 (by decide) (fun c3 => ?_) (fun c3 => ?_)
  · rw [if_pos c3] at h
    exact t_X3_tellMatch_36 C  n M  M' h _ _ _ hP hS (lv_sub hl [0] rfl)
  · rw [if_neg c3] at h
    refine lv_aload_n hx hb dX3_tellMatch_26 rfl (lv_at hl 0 rfl) ?_
    refine lv_dup hx hb dX3_tellMatch_27 rfl ?_
    refine xm_get (V := (xv E a)) (T := TX3) (v := .int (M 8 13)) C hP 8 13 xi_3 rfl l_X3_57 rfl (Nat.le_of_ble_eq_true rfl) ((xe_8 E a) _) (Nat.le_of_ble_eq_true rfl) rfl dX3_tellMatch_28 ?_
    refine lv_iconst (v := 1) hx hb dX3_tellMatch_31 (by decide) ?_
    refine lv_iadd hx hb dX3_tellMatch_32 ?_
    obtain ⟨M4, e5, h⟩ := xm_lt_s h
    refine xm_put (V := (xv E a)) (T := TX3) (ty := .int) (x := (M 8 13) + 1) C hP hS 8 13 xi_3 rfl l_X3_57 rfl tyX3_ok nmX3 (Nat.le_of_ble_eq_true rfl) ((xe_8 E a) _) (Nat.le_of_ble_eq_true rfl) rfl (by decide +kernel) rfl rfl (Nat.le_of_ble_eq_true rfl) ((xe_8 E a) _) dX3_tellMatch_33 (fun H locs hP hS => ?_)
    rw [← e5] at hP
    exact t_X3_tellMatch_36 C  n M4  M' h _ _ _ hP hS (lv_sub hl [0] rfl)
theorem c_X3_tellMatch {l : Launch} {E : xm_E} {a : Nat → Nat} (hD : xm_D (xv E a)) (n : Nat) (M : xm_M) (M' : xm_M) (h : f_X3_tellMatch n M = some M') : xm_Met l E (xv E a) yX3_tellMatch cX3_tellMatch 1 none 0 0 [.ref (a 8)] M M' none :=
  xm_met (by decide +kernel) rfl (Nat.le_of_ble_eq_true rfl) hD (fun p e s m below meth c C hP ls hl => t_X3_tellMatch_0 C  n M M' h _ _ _ hP va_S.rf hl)
def f_X3_shareOf (n : Nat) (M : xm_M) (x1 : Int32) : Option (Int32 × xm_M) := xm_b2 (f_X1_placeOf n M x1) (fun r2 M1 => xm_ck (xm_in r2 25) (some (M1 12 r2.toNatClampNeg, M1)))
set_option maxHeartbeats 4000000 in
set_option maxRecDepth 100000 in
theorem t_X3_shareOf_0 {l : Launch} {p : Program} {e : Env} {s : State} {m : MethodId} {args : Array Value} {below : List Frame} {meth : Method} {c : Code} {E : xm_E} {a : Nat → Nat} (C : xm_C E (xv E a) p s m args meth c RX3 cX3_shareOf 2 (some .int)) (n : Nat) (M : xm_M) (x1 : Int32) (r : Int32) (M' : xm_M) : f_X3_shareOf n M x1 = some (r, M') → ∀ (H : Heap) (locs : List Loc) (ls : Array Slot), va_P E.1 vwCl (xm_w (xv E a) M) H → va_S (xm_A (xv E a) s.heap.size) s.heap H locs → lv_has ls 2 [(0, .ref (a 8)), (1, .int x1)] → W p l e { frames := 1, cells := 0, slots := 0, locals := 23 } s m args below meth c H locs 0 0 (MQ below (xm_Q E (xv E a) M' s.heap.size (some r)) args s 0 0 (xm_A (xv E a) s.heap.size)) (F0 m 0 ls []) := by
  have C9 := C
  obtain ⟨hx, hb, hml, hown, hts, hr, hlk, hD, hK, hS9⟩ := C9
  intro h H locs ls hP hS hl
  unfold f_X3_shareOf at h
  refine lv_aload_n hx hb dX3_shareOf_0 rfl (lv_at hl 0 rfl) ?_
  refine xm_get (V := (xv E a)) (T := TX3) (v := .ref (a 12)) C hP 8 15 xi_3 rfl l_X3_63 rfl (Nat.le_of_ble_eq_true rfl) ((xe_8 E a) _) (Nat.le_of_ble_eq_true rfl) rfl dX3_shareOf_1 ?_
  refine lv_aload_n hx hb dX3_shareOf_4 rfl (lv_at hl 0 rfl) ?_
  refine xm_get (V := (xv E a)) (T := TX3) (v := .ref (a 13)) C hP 8 0 xi_3 rfl l_X3_12 rfl (Nat.le_of_ble_eq_true rfl) ((xe_8 E a) _) (Nat.le_of_ble_eq_true rfl) rfl dX3_shareOf_5 ?_
  refine lv_iload_n hx hb dX3_shareOf_8 rfl (lv_at hl 1 rfl) ?_
  obtain ⟨r2, M1, e3, h⟩ := xm_b2_s h
  refine xm_callVN C hP hS [.int x1] [.ref (a 12)] (c_X1_placeOf hD  n M x1 r2 M1 e3) k_X3_133 (xm_recv C hP 13 rfl (Nat.le_of_ble_eq_true rfl) ((xe_13 E a) _)) rfl rfl ⟨(Nat.le_of_ble_eq_true rfl), (Nat.le_of_ble_eq_true rfl)⟩ hl.1 (Nat.le_of_ble_eq_true rfl) ⟨Nat.zero_le _, Nat.zero_le _⟩ dX3_shareOf_9 (fun H locs hP hS => ?_)
  change W p l e _ s m _ below meth c H locs 0 0 _ (F0 m 12 ls [.int r2, .ref (a 12)])
  obtain ⟨b4, h⟩ := xm_ck_s h
  refine xm_iald (V := (xv E a)) C hP 12 25 (Nat.le_of_ble_eq_true rfl) (xe_12 E a) b4 dX3_shareOf_12 ?_
  obtain ⟨rfl, rfl⟩ := xm_pr h
  exact xm_retI C hP hS dX3_shareOf_13
theorem c_X3_shareOf {l : Launch} {E : xm_E} {a : Nat → Nat} (hD : xm_D (xv E a)) (n : Nat) (M : xm_M) (x1 : Int32) (r : Int32) (M' : xm_M) (h : f_X3_shareOf n M x1 = some (r, M')) : xm_Met l E (xv E a) yX3_shareOf cX3_shareOf 2 (some .int) 1 23 [.ref (a 8), .int x1] M M' (some r) :=
  xm_met (by decide +kernel) rfl (Nat.le_of_ble_eq_true rfl) hD (fun p e s m below meth c C hP ls hl => t_X3_shareOf_0 C  n M x1 r M' h _ _ _ hP va_S.rf hl)
def f_X3_placesWithoutShare_4 : Nat → xm_M → Int32 → Int32 → Option (Int32 × xm_M)
  | 0, _, _, _ => none
  | n + 1, M, x1, x2 => if (M 13 0) ≤ x2 then some (x1, M) else xm_ck (xm_in x2 25) (if (M 12 x2.toNatClampNeg) = 0 then f_X3_placesWithoutShare_4 n M (x1 + 1) (x2 + 1) else f_X3_placesWithoutShare_4 n M x1 (x2 + 1))
set_option maxHeartbeats 4000000 in
set_option maxRecDepth 100000 in
theorem t_X3_placesWithoutShare_4 {l : Launch} {p : Program} {e : Env} {s : State} {m : MethodId} {args : Array Value} {below : List Frame} {meth : Method} {c : Code} {E : xm_E} {a : Nat → Nat} (C : xm_C E (xv E a) p s m args meth c RX3 cX3_placesWithoutShare 3 (some .int)) : ∀ (n : Nat) (M : xm_M) (x1 : Int32) (x2 : Int32) (r : Int32) (M' : xm_M), f_X3_placesWithoutShare_4 n M x1 x2 = some (r, M') → ∀ (H : Heap) (locs : List Loc) (ls : Array Slot), va_P E.1 vwCl (xm_w (xv E a) M) H → va_S (xm_A (xv E a) s.heap.size) s.heap H locs → lv_has ls 3 [(0, .ref (a 8)), (1, .int x1), (2, .int x2)] → W p l e { frames := 0, cells := 0, slots := 0, locals := 0 } s m args below meth c H locs 0 0 (MQ below (xm_Q E (xv E a) M' s.heap.size (some r)) args s 0 0 (xm_A (xv E a) s.heap.size)) (F0 m 4 ls []) := by
  have C9 := C
  obtain ⟨hx, hb, hml, hown, hts, hr, hlk, hD, hK, hS9⟩ := C9
  intro n
  induction n with
  | zero =>
    intro M x1 x2 r M' h
    cases h
  | succ n ih =>
    intro M x1 x2 r M' h H locs ls hP hS hl
    rw [f_X3_placesWithoutShare_4] at h
    refine lv_iload_n hx hb dX3_placesWithoutShare_4 rfl (lv_at hl 2 rfl) ?_
    refine lv_aload_n hx hb dX3_placesWithoutShare_5 rfl (lv_at hl 0 rfl) ?_
    refine xm_get (V := (xv E a)) (T := TX3) (v := .ref (a 13)) C hP 8 0 xi_3 rfl l_X3_12 rfl (Nat.le_of_ble_eq_true rfl) ((xe_8 E a) _) (Nat.le_of_ble_eq_true rfl) rfl dX3_placesWithoutShare_6 ?_
    refine xm_getN (V := (xv E a)) (T := TX1) (v := .int (M 13 0)) C hP 13 0 xi_1 rfl l_X3_109 rfl (Nat.le_of_ble_eq_true rfl) ((xe_13 E a) _) (Nat.le_of_ble_eq_true rfl) rfl dX3_placesWithoutShare_9 ?_
    refine lv_icmp_ge (tgt := 33) hx hb dX3_placesWithoutShare_12 (by decide) (fun c1 => ?_) (fun c1 => ?_)
    · rw [if_pos c1] at h
      refine lv_iload_n hx hb dX3_placesWithoutShare_33 rfl (lv_at hl 1 rfl) ?_
      obtain ⟨rfl, rfl⟩ := xm_pr h
      exact xm_retI C hP hS dX3_placesWithoutShare_34
    · rw [if_neg c1] at h
      refine lv_aload_n hx hb dX3_placesWithoutShare_15 rfl (lv_at hl 0 rfl) ?_
      refine xm_get (V := (xv E a)) (T := TX3) (v := .ref (a 12)) C hP 8 15 xi_3 rfl l_X3_63 rfl (Nat.le_of_ble_eq_true rfl) ((xe_8 E a) _) (Nat.le_of_ble_eq_true rfl) rfl dX3_placesWithoutShare_16 ?_
      refine lv_iload_n hx hb dX3_placesWithoutShare_19 rfl (lv_at hl 2 rfl) ?_
      obtain ⟨b2, h⟩ := xm_ck_s h
      refine xm_iald (V := (xv E a)) C hP 12 25 (Nat.le_of_ble_eq_true rfl) (xe_12 E a) b2 dX3_placesWithoutShare_20 ?_
      refine lv_if_ne (tgt := 27) hx hb dX3_placesWithoutShare_21 (by decide) (fun c3 => ?_) (fun c3 => ?_)
      · rw [if_neg c3] at h
        refine lv_iinc (v := x2 + 1) (lv' := [(2, .int (x2 + 1)), (0, .ref (a 8)), (1, .int x1)]) hx hb dX3_placesWithoutShare_27 hl (k := 2) rfl (xm_add (by decide)) (by decide) rfl (fun ls hl => ?_)
        refine lv_goto (tgt := 4) hx hb dX3_placesWithoutShare_30 (by decide) ?_
        exact ih M x1 (x2 + 1) r M' h _ _ _ hP hS (lv_sub hl [1, 2, 0] rfl)
      · rw [if_pos c3] at h
        refine lv_iinc (v := x1 + 1) (lv' := [(1, .int (x1 + 1)), (0, .ref (a 8)), (2, .int x2)]) hx hb dX3_placesWithoutShare_24 hl (k := 1) rfl (xm_add (by decide)) (by decide) rfl (fun ls hl => ?_)
        refine lv_iinc (v := x2 + 1) (lv' := [(2, .int (x2 + 1)), (1, .int (x1 + 1)), (0, .ref (a 8))]) hx hb dX3_placesWithoutShare_27 hl (k := 2) rfl (xm_add (by decide)) (by decide) rfl (fun ls hl => ?_)
        refine lv_goto (tgt := 4) hx hb dX3_placesWithoutShare_30 (by decide) ?_
        exact ih M (x1 + 1) (x2 + 1) r M' h _ _ _ hP hS (lv_sub hl [2, 1, 0] rfl)
def f_X3_placesWithoutShare (n : Nat) (M : xm_M) : Option (Int32 × xm_M) := f_X3_placesWithoutShare_4 n M 0 0
set_option maxHeartbeats 4000000 in
set_option maxRecDepth 100000 in
theorem t_X3_placesWithoutShare_0 {l : Launch} {p : Program} {e : Env} {s : State} {m : MethodId} {args : Array Value} {below : List Frame} {meth : Method} {c : Code} {E : xm_E} {a : Nat → Nat} (C : xm_C E (xv E a) p s m args meth c RX3 cX3_placesWithoutShare 3 (some .int)) (n : Nat) (M : xm_M) (r : Int32) (M' : xm_M) : f_X3_placesWithoutShare n M = some (r, M') → ∀ (H : Heap) (locs : List Loc) (ls : Array Slot), va_P E.1 vwCl (xm_w (xv E a) M) H → va_S (xm_A (xv E a) s.heap.size) s.heap H locs → lv_has ls 3 [(0, .ref (a 8))] → W p l e { frames := 0, cells := 0, slots := 0, locals := 0 } s m args below meth c H locs 0 0 (MQ below (xm_Q E (xv E a) M' s.heap.size (some r)) args s 0 0 (xm_A (xv E a) s.heap.size)) (F0 m 0 ls []) := by
  have C9 := C
  obtain ⟨hx, hb, hml, hown, hts, hr, hlk, hD, hK, hS9⟩ := C9
  intro h H locs ls hP hS hl
  unfold f_X3_placesWithoutShare at h
  refine lv_iconst (v := 0) hx hb dX3_placesWithoutShare_0 (by decide) ?_
  refine lv_istore_n (lv' := [(1, .int 0), (0, .ref (a 8))]) hx hb dX3_placesWithoutShare_1 rfl hl (by decide) rfl (fun ls hl => ?_)
  refine lv_iconst (v := 0) hx hb dX3_placesWithoutShare_2 (by decide) ?_
  refine lv_istore_n (lv' := [(2, .int 0), (1, .int 0), (0, .ref (a 8))]) hx hb dX3_placesWithoutShare_3 rfl hl (by decide) rfl (fun ls hl => ?_)
  exact t_X3_placesWithoutShare_4 C  n M 0 0 r M' h _ _ _ hP hS (lv_sub hl [2, 1, 0] rfl)
theorem c_X3_placesWithoutShare {l : Launch} {E : xm_E} {a : Nat → Nat} (hD : xm_D (xv E a)) (n : Nat) (M : xm_M) (r : Int32) (M' : xm_M) (h : f_X3_placesWithoutShare n M = some (r, M')) : xm_Met l E (xv E a) yX3_placesWithoutShare cX3_placesWithoutShare 3 (some .int) 0 0 [.ref (a 8)] M M' (some r) :=
  xm_met (by decide +kernel) rfl (Nat.le_of_ble_eq_true rfl) hD (fun p e s m below meth c C hP ls hl => t_X3_placesWithoutShare_0 C  n M r M' h _ _ _ hP va_S.rf hl)
end
section
theorem l_J0_9 : Cond.fieldLink RJ0 9 "java/lang/String" "value" "[B" ∈ xm_tb := xm_tb_of (List.mem_of_getElem? (i := 590) (by decide +kernel)) rfl
theorem l_J0_15 : Cond.fieldLink RJ0 15 "java/lang/String" "coder" "B" ∈ xm_tb := xm_tb_of (List.mem_of_getElem? (i := 591) (by decide +kernel)) rfl
theorem l_J0_38 : Cond.fieldLink RJ0 38 "java/lang/String" "COMPACT_STRINGS" "Z" ∈ xm_tb := xm_tb_of (List.mem_of_getElem? (i := 425) (by decide +kernel)) rfl
theorem l_J0_1053 : Cond.fieldLink RJ0 1053 "jdk/internal/util/Preconditions" "SIOOBE_FORMATTER" "Ljava/util/function/BiFunction;" ∈ xm_tb := xm_tb_of (List.mem_of_getElem? (i := 441) (by decide +kernel)) rfl
theorem k_J0_335 : xm_FV RJ0 335 yJ0_coder_7d493 cJ0_coder_7d493 1 (some .byte) 0 := ⟨xm_tb_of (List.mem_of_getElem? (i := 424) (by decide +kernel)) rfl, xm_tb_of (List.mem_of_getElem? (i := 421) (by decide +kernel)) rfl, xm_tb_of (List.mem_of_getElem? (i := 422) (by decide +kernel)) rfl, xm_tb_of (List.mem_of_getElem? (i := 423) (by decide +kernel)) rfl, xm_tb_of (List.mem_of_getElem? (i := 9) (by decide +kernel)) rfl, ⟨by decide +kernel, by decide +kernel, by decide +kernel⟩⟩
theorem k_J0_492 : xm_FV RJ0 492 yJ0_isLatin1_aae02 cJ0_isLatin1_aae02 1 (some .boolean) 0 := ⟨xm_tb_of (List.mem_of_getElem? (i := 434) (by decide +kernel)) rfl, xm_tb_of (List.mem_of_getElem? (i := 431) (by decide +kernel)) rfl, xm_tb_of (List.mem_of_getElem? (i := 432) (by decide +kernel)) rfl, xm_tb_of (List.mem_of_getElem? (i := 433) (by decide +kernel)) rfl, xm_tb_of (List.mem_of_getElem? (i := 9) (by decide +kernel)) rfl, ⟨by decide +kernel, by decide +kernel, by decide +kernel⟩⟩
theorem k_J0_495 : xm_FS RJ0 495 yJ1_charAt_3b067 cJ1_charAt_3b067 2 (some .char) 2 := ⟨xm_tb_of (List.mem_of_getElem? (i := 437) (by decide +kernel)) rfl, xm_tb_of (List.mem_of_getElem? (i := 435) (by decide +kernel)) rfl, xm_tb_of (List.mem_of_getElem? (i := 436) (by decide +kernel)) rfl, xm_tb_of (List.mem_of_getElem? (i := 10) (by decide +kernel)) rfl, ⟨by decide +kernel, by decide +kernel, by decide +kernel⟩⟩
theorem k_J1_9 : xm_FS RJ1 9 yJ0_checkIndex_df160 cJ0_checkIndex_df160 2 none 2 := ⟨xm_tb_of (List.mem_of_getElem? (i := 440) (by decide +kernel)) rfl, xm_tb_of (List.mem_of_getElem? (i := 438) (by decide +kernel)) rfl, xm_tb_of (List.mem_of_getElem? (i := 439) (by decide +kernel)) rfl, xm_tb_of (List.mem_of_getElem? (i := 9) (by decide +kernel)) rfl, ⟨by decide +kernel, by decide +kernel, by decide +kernel⟩⟩
theorem k_J0_1059 : xm_FS RJ0 1059 yJ3_checkIndex_8e157 cJ3_checkIndex_8e157 3 (some .int) 3 := ⟨xm_tb_of (List.mem_of_getElem? (i := 445) (by decide +kernel)) rfl, xm_tb_of (List.mem_of_getElem? (i := 443) (by decide +kernel)) rfl, xm_tb_of (List.mem_of_getElem? (i := 444) (by decide +kernel)) rfl, xm_tb_of (List.mem_of_getElem? (i := 11) (by decide +kernel)) rfl, ⟨by decide +kernel, by decide +kernel, by decide +kernel⟩⟩
theorem k_X5_45 : xm_FV RX5 45 yJ0_length_8abf5 cJ0_length_8abf5 1 (some .int) 0 := ⟨xm_tb_of (List.mem_of_getElem? (i := 420) (by decide +kernel)) rfl, xm_tb_of (List.mem_of_getElem? (i := 417) (by decide +kernel)) rfl, xm_tb_of (List.mem_of_getElem? (i := 418) (by decide +kernel)) rfl, xm_tb_of (List.mem_of_getElem? (i := 419) (by decide +kernel)) rfl, xm_tb_of (List.mem_of_getElem? (i := 9) (by decide +kernel)) rfl, ⟨by decide +kernel, by decide +kernel, by decide +kernel⟩⟩
theorem k_X5_50 : xm_FV RX5 50 yJ0_charAt_5068e cJ0_charAt_5068e 2 (some .char) 1 := ⟨xm_tb_of (List.mem_of_getElem? (i := 430) (by decide +kernel)) rfl, xm_tb_of (List.mem_of_getElem? (i := 427) (by decide +kernel)) rfl, xm_tb_of (List.mem_of_getElem? (i := 428) (by decide +kernel)) rfl, xm_tb_of (List.mem_of_getElem? (i := 429) (by decide +kernel)) rfl, xm_tb_of (List.mem_of_getElem? (i := 9) (by decide +kernel)) rfl, ⟨by decide +kernel, by decide +kernel, by decide +kernel⟩⟩
set_option maxHeartbeats 4000000 in
set_option maxRecDepth 100000 in
theorem c_coder {l : Launch} {E : xm_E} {V : xm_V} (hD : xm_D V) {k : Nat} (hk : k < 6) (M : xm_M) : xm_Met l E V yJ0_coder_7d493 cJ0_coder_7d493 1 (some .byte) 0 0 [.ref (E.2.2.1 k)] M M (some 0) :=
  xm_met (by decide +kernel) rfl (Nat.le_of_ble_eq_true rfl) hD (fun p e s m below meth c C hP ls hl => by
    have C9 := C
    obtain ⟨hx, hb, hml, hown, hts, hr, hlk, hD9, hK, hS9⟩ := C9
    have hS : va_S (xm_A V s.heap.size) s.heap s.heap [] := va_S.rf
    refine va_gets hx hb hS9.2.1 hS hown (hts _ l_J0_38) (fun _ h => h) dJ0_coder_7d493_0 ?_
    refine lv_if_eq (tgt := 13) hx hb dJ0_coder_7d493_3 (by decide) (fun c => absurd c (by decide)) (fun _ => ?_)
    refine lv_aload_n hx hb dJ0_coder_7d493_6 rfl (lv_at hl 0 rfl) ?_
    refine vk_getf hx hb (hS9.1.1 k hk).2.1 hS hown (hts _ l_J0_15) (fun _ h => h) dJ0_coder_7d493_7 ?_
    refine lv_goto (tgt := 14) hx hb dJ0_coder_7d493_10 (by decide) ?_
    exact xm_retZ C hP hS rfl dJ0_coder_7d493_14)
set_option maxHeartbeats 4000000 in
set_option maxRecDepth 100000 in
theorem c_lat {l : Launch} {E : xm_E} {V : xm_V} (hD : xm_D V) {k : Nat} (hk : k < 6) (M : xm_M) : xm_Met l E V yJ0_isLatin1_aae02 cJ0_isLatin1_aae02 1 (some .boolean) 0 0 [.ref (E.2.2.1 k)] M M (some 1) :=
  xm_met (by decide +kernel) rfl (Nat.le_of_ble_eq_true rfl) hD (fun p e s m below meth c C hP ls hl => by
    have C9 := C
    obtain ⟨hx, hb, hml, hown, hts, hr, hlk, hD9, hK, hS9⟩ := C9
    have hS : va_S (xm_A V s.heap.size) s.heap s.heap [] := va_S.rf
    refine va_gets hx hb hS9.2.1 hS hown (hts _ l_J0_38) (fun _ h => h) dJ0_isLatin1_aae02_0 ?_
    refine lv_if_eq (tgt := 17) hx hb dJ0_isLatin1_aae02_3 (by decide) (fun c => absurd c (by decide)) (fun _ => ?_)
    refine lv_aload_n hx hb dJ0_isLatin1_aae02_6 rfl (lv_at hl 0 rfl) ?_
    refine vk_getf hx hb (hS9.1.1 k hk).2.1 hS hown (hts _ l_J0_15) (fun _ h => h) dJ0_isLatin1_aae02_7 ?_
    refine lv_if_ne (tgt := 17) hx hb dJ0_isLatin1_aae02_10 (by decide) (fun c => absurd rfl c) (fun _ => ?_)
    refine lv_iconst (v := 1) hx hb dJ0_isLatin1_aae02_13 (by decide) ?_
    refine lv_goto (tgt := 18) hx hb dJ0_isLatin1_aae02_14 (by decide) ?_
    exact xm_retZ C hP hS rfl dJ0_isLatin1_aae02_18)
def f_slen (_n : Nat) (M : xm_M) (k : Nat) : Option (Int32 × xm_M) := some (nI (xm_len.getD k 0), M)
theorem xm_srecv {E : xm_E} {V : xm_V} {p : Program} {s : State} {m : MethodId} {args : Array Value} {meth : Method} {c : Code} {own : String} {cc : ByteArray} {nL : Nat} {ret : Option FieldType} (C : xm_C E V p s m args meth c own cc nL ret) {H : Heap} {locs : List Loc} (hS : va_S (xm_A V s.heap.size) s.heap H locs) {k : Nat} (hk : k < 6) : ∃ cell : Cell, H[E.2.2.1 k]? = some cell ∧ cell.vm.isStatics = false ∧ s.vm.findClass "java/lang/String" = some cell.cls :=
  vk_recv C.2.2.2.2.2.2.2.2.2.1 hk hS
theorem sb_sh0 (x : Int32) : x >>> ((0 : Int32) &&& 31) = x := sb_shr0 x
set_option maxHeartbeats 4000000 in
set_option maxRecDepth 100000 in
theorem c_slen {l : Launch} {E : xm_E} {V : xm_V} (hD : xm_D V) {k : Nat} (hk : k < 6) (n : Nat) (M : xm_M) (r : Int32) (M9 : xm_M) (h : f_slen n M k = some (r, M9)) : xm_Met l E V yJ0_length_8abf5 cJ0_length_8abf5 1 (some .int) 1 20 [.ref (E.2.2.1 k)] M M9 (some r) :=
  xm_met (by decide +kernel) rfl (Nat.le_of_ble_eq_true rfl) hD (fun p e s m below meth c C hP ls hl => by
    have C9 := C
    obtain ⟨hx, hb, hml, hown, hts, hr, hlk, hD9, hK, hS9⟩ := C9
    have hS : va_S (xm_A V s.heap.size) s.heap s.heap [] := va_S.rf
    obtain ⟨rfl, rfl⟩ := xm_pr h
    refine lv_aload_n hx hb dJ0_length_8abf5_0 rfl (lv_at hl 0 rfl) ?_
    refine vk_getf hx hb (hS9.1.1 k hk).2.2.1 hS hown (hts _ l_J0_9) (fun _ h => h) dJ0_length_8abf5_1 ?_
    refine va_tlen hx hb (hS9.1.1 k hk).2.2.2 hS (v := nI (xm_len.getD k 0)) rfl dJ0_length_8abf5_4 ?_
    refine lv_aload_n hx hb dJ0_length_8abf5_5 rfl (lv_at hl 0 rfl) ?_
    refine xm_callV C hP hS [] [.int (nI (xm_len.getD k 0))] (c_coder hD hk M) k_J0_335 (xm_srecv C hS hk) rfl rfl ⟨(Nat.le_of_ble_eq_true rfl), (Nat.le_of_ble_eq_true rfl)⟩ hl.1 (Nat.le_of_ble_eq_true rfl) ⟨Nat.zero_le _, Nat.zero_le _⟩ dJ0_length_8abf5_6 (fun H locs hP hS => ?_)
    change W p l e _ s m _ below meth c H locs 0 0 _ (F0 m 9 ls [.int 0, .int (nI (xm_len.getD k 0))])
    refine lv_ishr hx hb dJ0_length_8abf5_9 ?_
    rw [sb_shr0]
    exact xm_retI C hP hS dJ0_length_8abf5_10)
set_option maxHeartbeats 4000000 in
set_option maxRecDepth 100000 in
theorem c_pci {l : Launch} {E : xm_E} {V : xm_V} (hD : xm_D V) {v : Value} (hv : v = .null ∨ ∃ t : Nat, v = .ref t) {i n : Int32} (h0 : ¬ i < 0) (h1 : i < n) (M : xm_M) : xm_Met l E V yJ3_checkIndex_8e157 cJ3_checkIndex_8e157 3 (some .int) 0 0 [.int i, .int n, v] M M (some i) := by
  rcases hv with rfl | ⟨t, rfl⟩
  all_goals exact xm_met (by decide +kernel) rfl (Nat.le_of_ble_eq_true rfl) hD (fun p e s m below meth c C hP ls hl => by
    have C9 := C
    obtain ⟨hx, hb, hml, hown, hts, hr, hlk, hD9, hK, hS9⟩ := C9
    have hS : va_S (xm_A V s.heap.size) s.heap s.heap [] := va_S.rf
    refine lv_iload_n hx hb dJ3_checkIndex_8e157_0 rfl (lv_at hl 0 rfl) ?_
    refine lv_if_lt (tgt := 9) hx hb dJ3_checkIndex_8e157_1 (by decide) (fun c => absurd c h0) (fun _ => ?_)
    refine lv_iload_n hx hb dJ3_checkIndex_8e157_4 rfl (lv_at hl 0 rfl) ?_
    refine lv_iload_n hx hb dJ3_checkIndex_8e157_5 rfl (lv_at hl 1 rfl) ?_
    refine lv_icmp_lt (tgt := 16) hx hb dJ3_checkIndex_8e157_6 (by decide) (fun _ => ?_) (fun c => absurd h1 c)
    refine lv_iload_n hx hb dJ3_checkIndex_8e157_16 rfl (lv_at hl 0 rfl) ?_
    exact xm_retI C hP hS dJ3_checkIndex_8e157_17)
set_option maxHeartbeats 4000000 in
set_option maxRecDepth 100000 in
theorem c_sci {l : Launch} {E : xm_E} {V : xm_V} (hD : xm_D V) {i n : Int32} (h0 : ¬ i < 0) (h1 : i < n) (M : xm_M) : xm_Met l E V yJ0_checkIndex_df160 cJ0_checkIndex_df160 2 none 1 22 [.int i, .int n] M M none :=
  xm_met (by decide +kernel) rfl (Nat.le_of_ble_eq_true rfl) hD (fun p e s m below meth c C hP ls hl => by
    have C9 := C
    obtain ⟨hx, hb, hml, hown, hts, hr, hlk, hD9, hK, hS9⟩ := C9
    have hS : va_S (xm_A V s.heap.size) s.heap s.heap [] := va_S.rf
    refine lv_iload_n hx hb dJ0_checkIndex_df160_0 rfl (lv_at hl 0 rfl) ?_
    refine lv_iload_n hx hb dJ0_checkIndex_df160_1 rfl (lv_at hl 1 rfl) ?_
    rcases hS9.2.2 with hZ | ⟨t, hZ⟩
    · refine va_gets hx hb hZ hS hown (hts _ l_J0_1053) (fun _ h => h) dJ0_checkIndex_df160_2 ?_
      refine xm_callS C hP hS [.int i, .int n, .null] [] (c_pci hD (Or.inl rfl) h0 h1 M) k_J0_1059 rfl rfl ⟨(Nat.le_of_ble_eq_true rfl), (Nat.le_of_ble_eq_true rfl)⟩ hl.1 (Nat.le_of_ble_eq_true rfl) ⟨Nat.zero_le _, Nat.zero_le _⟩ dJ0_checkIndex_df160_5 (fun H locs hP hS => ?_)
      change W p l e _ s m _ below meth c H locs 0 0 _ (F0 m 8 ls [.int i])
      refine lv_pop hx hb dJ0_checkIndex_df160_8 rfl ?_
      exact xm_retV C hP hS dJ0_checkIndex_df160_9
    · refine va_gets hx hb hZ hS hown (hts _ l_J0_1053) (fun _ h => h) dJ0_checkIndex_df160_2 ?_
      refine xm_callS C hP hS [.int i, .int n, .ref t] [] (c_pci hD (Or.inr ⟨_, rfl⟩) h0 h1 M) k_J0_1059 rfl rfl ⟨(Nat.le_of_ble_eq_true rfl), (Nat.le_of_ble_eq_true rfl)⟩ hl.1 (Nat.le_of_ble_eq_true rfl) ⟨Nat.zero_le _, Nat.zero_le _⟩ dJ0_checkIndex_df160_5 (fun H locs hP hS => ?_)
      change W p l e _ s m _ below meth c H locs 0 0 _ (F0 m 8 ls [.int i])
      refine lv_pop hx hb dJ0_checkIndex_df160_8 rfl ?_
      exact xm_retV C hP hS dJ0_checkIndex_df160_9)
def xm_ch (k : Nat) (i : Int32) : Int32 := (((xm_byt.getD k []).getD i.toNatClampNeg 0 &&& 255).toUInt32 % 65536).toInt32
theorem xm_len_lt (k : Nat) (hk : k < 6) : xm_len.getD k 0 < 2 ^ 31 := by
  rcases (show k = 0 ∨ k = 1 ∨ k = 2 ∨ k = 3 ∨ k = 4 ∨ k = 5 by omega) with rfl | rfl | rfl | rfl | rfl | rfl <;> decide
theorem xm_in_nI {i : Int32} {n : Nat} (h : xm_in i n = true) (hn : n < 2 ^ 31) : ¬ i < 0 ∧ i < nI n := by
  obtain ⟨j, hj, rfl⟩ := vp_in_of (xm_in_s h) hn
  exact ⟨nI_pos (by omega), nI_lt hj hn⟩
set_option maxHeartbeats 4000000 in
set_option maxRecDepth 100000 in
theorem c_l1c {l : Launch} {E : xm_E} {V : xm_V} (hD : xm_D V) {k : Nat} (hk : k < 6) {i : Int32} (hi : xm_in i (xm_len.getD k 0) = true) (hc : xm_c (xm_ch k i) = true) (M : xm_M) : xm_Met l E V yJ1_charAt_3b067 cJ1_charAt_3b067 2 (some .char) 2 43 [.ref (E.2.2.2 k), .int i] M M (some (xm_ch k i)) :=
  xm_met (by decide +kernel) rfl (Nat.le_of_ble_eq_true rfl) hD (fun p e s m below meth c C hP ls hl => by
    have C9 := C
    obtain ⟨hx, hb, hml, hown, hts, hr, hlk, hD9, hK, hS9⟩ := C9
    have hS : va_S (xm_A V s.heap.size) s.heap s.heap [] := va_S.rf
    obtain ⟨h0, h1⟩ := xm_in_nI hi (xm_len_lt k hk)
    refine lv_iload_n hx hb dJ1_charAt_3b067_0 rfl (lv_at hl 1 rfl) ?_
    refine lv_aload_n hx hb dJ1_charAt_3b067_1 rfl (lv_at hl 0 rfl) ?_
    refine va_tlen hx hb (hS9.1.1 k hk).2.2.2 hS (v := nI (xm_len.getD k 0)) rfl dJ1_charAt_3b067_2 ?_
    refine xm_callS C hP hS [.int i, .int (nI (xm_len.getD k 0))] [] (c_sci hD h0 h1 M) k_J1_9 rfl rfl ⟨(Nat.le_of_ble_eq_true rfl), (Nat.le_of_ble_eq_true rfl)⟩ hl.1 (Nat.le_of_ble_eq_true rfl) ⟨Nat.zero_le _, Nat.zero_le _⟩ dJ1_charAt_3b067_3 (fun H locs hP hS => ?_)
    change W p l e _ s m _ below meth c H locs 0 0 _ (F0 m 6 ls [])
    refine lv_aload_n hx hb dJ1_charAt_3b067_6 rfl (lv_at hl 0 rfl) ?_
    refine lv_iload_n hx hb dJ1_charAt_3b067_7 rfl (lv_at hl 1 rfl) ?_
    refine va_tb hx hb (hS9.1.1 k hk).2.2.2 hS (xm_in_s hi) (v := .int ((xm_byt.getD k []).getD i.toNatClampNeg 0)) rfl dJ1_charAt_3b067_8 ?_
    refine lv_sipush (v := 255) hx hb dJ1_charAt_3b067_9 (by decide) ?_
    refine lv_iand hx hb dJ1_charAt_3b067_12 ?_
    refine lv_i2c (v := xm_ch k i) hx hb dJ1_charAt_3b067_13 rfl ?_
    exact xm_retZ C hP hS (xm_c_s hc) dJ1_charAt_3b067_14)
def f_schr (_n : Nat) (M : xm_M) (k : Nat) (i : Int32) : Option (Int32 × xm_M) := xm_ck (xm_in i (xm_len.getD k 0)) (xm_ck (xm_c (xm_ch k i)) (some (xm_ch k i, M)))
set_option maxHeartbeats 4000000 in
set_option maxRecDepth 100000 in
theorem c_schr {l : Launch} {E : xm_E} {V : xm_V} (hD : xm_D V) {k : Nat} (hk : k < 6) (n : Nat) (M : xm_M) (i : Int32) (r : Int32) (M9 : xm_M) (h : f_schr n M k i = some (r, M9)) : xm_Met l E V yJ0_charAt_5068e cJ0_charAt_5068e 2 (some .char) 3 64 [.ref (E.2.2.1 k), .int i] M M9 (some r) :=
  xm_met (by decide +kernel) rfl (Nat.le_of_ble_eq_true rfl) hD (fun p e s m below meth c C hP ls hl => by
    have C9 := C
    obtain ⟨hx, hb, hml, hown, hts, hr, hlk, hD9, hK, hS9⟩ := C9
    have hS : va_S (xm_A V s.heap.size) s.heap s.heap [] := va_S.rf
    obtain ⟨hi, h⟩ := xm_ck_s h
    obtain ⟨hc, h⟩ := xm_ck_s h
    obtain ⟨rfl, rfl⟩ := xm_pr h
    refine lv_aload_n hx hb dJ0_charAt_5068e_0 rfl (lv_at hl 0 rfl) ?_
    refine xm_callV C hP hS [] [] (c_lat hD hk M) k_J0_492 (xm_srecv C hS hk) rfl rfl ⟨(Nat.le_of_ble_eq_true rfl), (Nat.le_of_ble_eq_true rfl)⟩ hl.1 (Nat.le_of_ble_eq_true rfl) ⟨Nat.zero_le _, Nat.zero_le _⟩ dJ0_charAt_5068e_1 (fun H locs hP hS => ?_)
    change W p l e _ s m _ below meth c H locs 0 0 _ (F0 m 4 ls [.int 1])
    refine lv_if_eq (tgt := 16) hx hb dJ0_charAt_5068e_4 (by decide) (fun c => absurd c (by decide)) (fun _ => ?_)
    refine lv_aload_n hx hb dJ0_charAt_5068e_7 rfl (lv_at hl 0 rfl) ?_
    refine vk_getf hx hb (hS9.1.1 k hk).2.2.1 hS hown (hts _ l_J0_9) (fun _ h => h) dJ0_charAt_5068e_8 ?_
    refine lv_iload_n hx hb dJ0_charAt_5068e_11 rfl (lv_at hl 1 rfl) ?_
    refine xm_callS C hP hS [.ref (E.2.2.2 k), .int i] [] (c_l1c hD hk hi hc M) k_J0_495 rfl rfl ⟨(Nat.le_of_ble_eq_true rfl), (Nat.le_of_ble_eq_true rfl)⟩ hl.1 (Nat.le_of_ble_eq_true rfl) ⟨Nat.zero_le _, Nat.zero_le _⟩ dJ0_charAt_5068e_12 (fun H locs hP hS => ?_)
    change W p l e _ s m _ below meth c H locs 0 0 _ (F0 m 15 ls [.int (xm_ch k i)])
    exact xm_retZ C hP hS (xm_c_s hc) dJ0_charAt_5068e_15)
end
section
theorem l_X5_15 : Cond.fieldLink RX5 15 "WindowMatches$Words" "length" "I" ∈ xm_tb := xm_tb_of (List.mem_of_getElem? (i := 138) (by decide +kernel)) rfl
theorem l_X5_9 : Cond.fieldLink RX5 9 "WindowMatches$Words" "characters" "[C" ∈ xm_tb := xm_tb_of (List.mem_of_getElem? (i := 137) (by decide +kernel)) rfl
theorem l_X5_19 : Cond.fieldLink RX5 19 "WindowMatches$Words" "at" "I" ∈ xm_tb := xm_tb_of (List.mem_of_getElem? (i := 140) (by decide +kernel)) rfl
theorem l_X5_58 : Cond.fieldLinkNest RX5 58 "WindowMatches$Pattern" "window" "I" "WindowMatches" ∈ xm_nest := xm_nest_of (List.mem_of_getElem? (i := 36) (by decide +kernel)) rfl
theorem k_X5_54 : xm_FSN RX5 54 yX6_isWithin "WindowMatches" cX6_isWithin 3 (some .boolean) 3 := ⟨xm_tb_of (List.mem_of_getElem? (i := 346) (by decide +kernel)) rfl, xm_nest_of (List.mem_of_getElem? (i := 469) (by decide +kernel)) rfl, xm_tb_of (List.mem_of_getElem? (i := 345) (by decide +kernel)) rfl, xm_tb_of (List.mem_of_getElem? (i := 1) (by decide +kernel)) rfl, ⟨by decide +kernel, by decide +kernel, by decide +kernel⟩⟩
theorem l_X5_61 : Cond.fieldLinkNest RX5 61 "WindowMatches$Pattern" "rule" "I" "WindowMatches" ∈ xm_nest := xm_nest_of (List.mem_of_getElem? (i := 40) (by decide +kernel)) rfl
theorem k_X5_64 : xm_FV RX5 64 yX5_next cX5_next 1 (some .char) 0 := ⟨xm_tb_of (List.mem_of_getElem? (i := 478) (by decide +kernel)) rfl, xm_tb_of (List.mem_of_getElem? (i := 475) (by decide +kernel)) rfl, xm_tb_of (List.mem_of_getElem? (i := 477) (by decide +kernel)) rfl, xm_tb_sel (List.mem_of_getElem? (i := 25) (by decide +kernel)) rfl, xm_tb_of (List.mem_of_getElem? (i := 5) (by decide +kernel)) rfl, ⟨by decide +kernel, by decide +kernel, by decide +kernel⟩⟩
theorem k_X5_29 : xm_FV RX5 29 yX5_takesWord cX5_takesWord 3 (some .boolean) 1 := ⟨xm_tb_of (List.mem_of_getElem? (i := 416) (by decide +kernel)) rfl, xm_tb_of (List.mem_of_getElem? (i := 413) (by decide +kernel)) rfl, xm_tb_of (List.mem_of_getElem? (i := 415) (by decide +kernel)) rfl, xm_tb_sel (List.mem_of_getElem? (i := 22) (by decide +kernel)) rfl, xm_tb_of (List.mem_of_getElem? (i := 5) (by decide +kernel)) rfl, ⟨by decide +kernel, by decide +kernel, by decide +kernel⟩⟩
theorem l_X5_86 : Cond.fieldLinkNest RX5 86 "WindowMatches$Pattern" "plainSteps" "I" "WindowMatches" ∈ xm_nest := xm_nest_of (List.mem_of_getElem? (i := 47) (by decide +kernel)) rfl
theorem k_X5_75 : xm_FVN RX5 75 yX2_endsWithPlainStep "WindowMatches" cX2_endsWithPlainStep 1 (some .boolean) 0 := ⟨xm_tb_of (List.mem_of_getElem? (i := 492) (by decide +kernel)) rfl, xm_nest_of (List.mem_of_getElem? (i := 489) (by decide +kernel)) rfl, xm_tb_of (List.mem_of_getElem? (i := 491) (by decide +kernel)) rfl, xm_tb_sel (List.mem_of_getElem? (i := 28) (by decide +kernel)) rfl, xm_tb_of (List.mem_of_getElem? (i := 3) (by decide +kernel)) rfl, ⟨by decide +kernel, by decide +kernel, by decide +kernel⟩⟩
theorem k_X5_89 : xm_FSN RX5 89 yX6_isKind "WindowMatches" cX6_isKind 1 (some .boolean) 1 := ⟨xm_tb_of (List.mem_of_getElem? (i := 343) (by decide +kernel)) rfl, xm_nest_of (List.mem_of_getElem? (i := 494) (by decide +kernel)) rfl, xm_tb_of (List.mem_of_getElem? (i := 342) (by decide +kernel)) rfl, xm_tb_of (List.mem_of_getElem? (i := 1) (by decide +kernel)) rfl, ⟨by decide +kernel, by decide +kernel, by decide +kernel⟩⟩
theorem k_X5_93 : xm_FVN RX5 93 yX2_hasRoomForStep "WindowMatches" cX2_hasRoomForStep 1 (some .boolean) 0 := ⟨xm_tb_of (List.mem_of_getElem? (i := 498) (by decide +kernel)) rfl, xm_nest_of (List.mem_of_getElem? (i := 495) (by decide +kernel)) rfl, xm_tb_of (List.mem_of_getElem? (i := 497) (by decide +kernel)) rfl, xm_tb_sel (List.mem_of_getElem? (i := 29) (by decide +kernel)) rfl, xm_tb_of (List.mem_of_getElem? (i := 3) (by decide +kernel)) rfl, ⟨by decide +kernel, by decide +kernel, by decide +kernel⟩⟩
theorem k_X5_96 : xm_FVN RX5 96 yX2_addStep "WindowMatches" cX2_addStep 3 none 2 := ⟨xm_tb_of (List.mem_of_getElem? (i := 502) (by decide +kernel)) rfl, xm_nest_of (List.mem_of_getElem? (i := 499) (by decide +kernel)) rfl, xm_tb_of (List.mem_of_getElem? (i := 501) (by decide +kernel)) rfl, xm_tb_sel (List.mem_of_getElem? (i := 30) (by decide +kernel)) rfl, xm_tb_of (List.mem_of_getElem? (i := 3) (by decide +kernel)) rfl, ⟨by decide +kernel, by decide +kernel, by decide +kernel⟩⟩
theorem k_X5_72 : xm_FV RX5 72 yX5_takesStep cX5_takesStep 4 (some .boolean) 1 := ⟨xm_tb_of (List.mem_of_getElem? (i := 488) (by decide +kernel)) rfl, xm_tb_of (List.mem_of_getElem? (i := 485) (by decide +kernel)) rfl, xm_tb_of (List.mem_of_getElem? (i := 487) (by decide +kernel)) rfl, xm_tb_sel (List.mem_of_getElem? (i := 27) (by decide +kernel)) rfl, xm_tb_of (List.mem_of_getElem? (i := 5) (by decide +kernel)) rfl, ⟨by decide +kernel, by decide +kernel, by decide +kernel⟩⟩
theorem l_X5_79 : Cond.fieldLinkNest RX5 79 "WindowMatches$Pattern" "steps" "I" "WindowMatches" ∈ xm_nest := xm_nest_of (List.mem_of_getElem? (i := 44) (by decide +kernel)) rfl
theorem k_X5_22 : xm_FVN RX5 22 yX2_clearSteps "WindowMatches" cX2_clearSteps 1 none 0 := ⟨xm_tb_of (List.mem_of_getElem? (i := 411) (by decide +kernel)) rfl, xm_nest_of (List.mem_of_getElem? (i := 408) (by decide +kernel)) rfl, xm_tb_of (List.mem_of_getElem? (i := 410) (by decide +kernel)) rfl, xm_tb_sel (List.mem_of_getElem? (i := 21) (by decide +kernel)) rfl, xm_tb_of (List.mem_of_getElem? (i := 3) (by decide +kernel)) rfl, ⟨by decide +kernel, by decide +kernel, by decide +kernel⟩⟩
theorem k_X5_33 : xm_FV RX5 33 yX5_takesWindow cX5_takesWindow 4 (some .boolean) 1 := ⟨xm_tb_of (List.mem_of_getElem? (i := 468) (by decide +kernel)) rfl, xm_tb_of (List.mem_of_getElem? (i := 465) (by decide +kernel)) rfl, xm_tb_of (List.mem_of_getElem? (i := 467) (by decide +kernel)) rfl, xm_tb_sel (List.mem_of_getElem? (i := 23) (by decide +kernel)) rfl, xm_tb_of (List.mem_of_getElem? (i := 5) (by decide +kernel)) rfl, ⟨by decide +kernel, by decide +kernel, by decide +kernel⟩⟩
theorem k_X5_39 : xm_FV RX5 39 yX5_takesRule cX5_takesRule 2 (some .boolean) 1 := ⟨xm_tb_of (List.mem_of_getElem? (i := 474) (by decide +kernel)) rfl, xm_tb_of (List.mem_of_getElem? (i := 471) (by decide +kernel)) rfl, xm_tb_of (List.mem_of_getElem? (i := 473) (by decide +kernel)) rfl, xm_tb_sel (List.mem_of_getElem? (i := 24) (by decide +kernel)) rfl, xm_tb_of (List.mem_of_getElem? (i := 5) (by decide +kernel)) rfl, ⟨by decide +kernel, by decide +kernel, by decide +kernel⟩⟩
theorem k_X5_42 : xm_FV RX5 42 yX5_takesSteps cX5_takesSteps 3 (some .boolean) 1 := ⟨xm_tb_of (List.mem_of_getElem? (i := 484) (by decide +kernel)) rfl, xm_tb_of (List.mem_of_getElem? (i := 481) (by decide +kernel)) rfl, xm_tb_of (List.mem_of_getElem? (i := 483) (by decide +kernel)) rfl, xm_tb_sel (List.mem_of_getElem? (i := 26) (by decide +kernel)) rfl, xm_tb_of (List.mem_of_getElem? (i := 5) (by decide +kernel)) rfl, ⟨by decide +kernel, by decide +kernel, by decide +kernel⟩⟩
def f_X6_isWithin (n : Nat) (M : xm_M) (x0 : Int32) (x1 : Int32) (x2 : Int32) : Option (Int32 × xm_M) := if x0 < x1 then some (0, M) else if x2 < x0 then some (0, M) else some (1, M)
set_option maxHeartbeats 4000000 in
set_option maxRecDepth 100000 in
theorem t_X6_isWithin_0 {l : Launch} {p : Program} {e : Env} {s : State} {m : MethodId} {args : Array Value} {below : List Frame} {meth : Method} {c : Code} {E : xm_E} {a : Nat → Nat} (C : xm_C E (xv E a) p s m args meth c RX6 cX6_isWithin 3 (some .boolean)) (n : Nat) (M : xm_M) (x0 : Int32) (x1 : Int32) (x2 : Int32) (r : Int32) (M' : xm_M) : f_X6_isWithin n M x0 x1 x2 = some (r, M') → ∀ (H : Heap) (locs : List Loc) (ls : Array Slot), va_P E.1 vwCl (xm_w (xv E a) M) H → va_S (xm_A (xv E a) s.heap.size) s.heap H locs → lv_has ls 3 [(0, .int x0), (1, .int x1), (2, .int x2)] → W p l e { frames := 0, cells := 0, slots := 0, locals := 0 } s m args below meth c H locs 0 0 (MQ below (xm_Q E (xv E a) M' s.heap.size (some r)) args s 0 0 (xm_A (xv E a) s.heap.size)) (F0 m 0 ls []) := by
  have C9 := C
  obtain ⟨hx, hb, hml, hown, hts, hr, hlk, hD, hK, hS9⟩ := C9
  intro h H locs ls hP hS hl
  unfold f_X6_isWithin at h
  refine lv_iload_n hx hb dX6_isWithin_0 rfl (lv_at hl 0 rfl) ?_
  refine lv_iload_n hx hb dX6_isWithin_1 rfl (lv_at hl 1 rfl) ?_
  refine lv_icmp_lt (tgt := 14) hx hb dX6_isWithin_2 (by decide) (fun c1 => ?_) (fun c1 => ?_)
  · rw [if_pos c1] at h
    refine lv_iconst (v := 0) hx hb dX6_isWithin_14 (by decide) ?_
    obtain ⟨rfl, rfl⟩ := xm_pr h
    exact xm_retZ C hP hS (by rfl) dX6_isWithin_15
  · rw [if_neg c1] at h
    refine lv_iload_n hx hb dX6_isWithin_5 rfl (lv_at hl 0 rfl) ?_
    refine lv_iload_n hx hb dX6_isWithin_6 rfl (lv_at hl 2 rfl) ?_
    refine lv_icmp_gt (tgt := 14) hx hb dX6_isWithin_7 (by decide) (fun c2 => ?_) (fun c2 => ?_)
    · rw [if_pos c2] at h
      refine lv_iconst (v := 0) hx hb dX6_isWithin_14 (by decide) ?_
      obtain ⟨rfl, rfl⟩ := xm_pr h
      exact xm_retZ C hP hS (by rfl) dX6_isWithin_15
    · rw [if_neg c2] at h
      refine lv_iconst (v := 1) hx hb dX6_isWithin_10 (by decide) ?_
      refine lv_goto (tgt := 15) hx hb dX6_isWithin_11 (by decide) ?_
      obtain ⟨rfl, rfl⟩ := xm_pr h
      exact xm_retZ C hP hS (by rfl) dX6_isWithin_15
theorem c_X6_isWithin {l : Launch} {E : xm_E} {a : Nat → Nat} (hD : xm_D (xv E a)) (n : Nat) (M : xm_M) (x0 : Int32) (x1 : Int32) (x2 : Int32) (r : Int32) (M' : xm_M) (h : f_X6_isWithin n M x0 x1 x2 = some (r, M')) : xm_Met l E (xv E a) yX6_isWithin cX6_isWithin 3 (some .boolean) 0 0 [.int x0, .int x1, .int x2] M M' (some r) :=
  xm_met (by decide +kernel) rfl (Nat.le_of_ble_eq_true rfl) hD (fun p e s m below meth c C hP ls hl => t_X6_isWithin_0 C  n M x0 x1 x2 r M' h _ _ _ hP va_S.rf hl)
def f_X6_isKind (n : Nat) (M : xm_M) (x0 : Int32) : Option (Int32 × xm_M) := if x0 < 97 then some (0, M) else if (104 : Int32) < x0 then some (0, M) else some (1, M)
set_option maxHeartbeats 4000000 in
set_option maxRecDepth 100000 in
theorem t_X6_isKind_0 {l : Launch} {p : Program} {e : Env} {s : State} {m : MethodId} {args : Array Value} {below : List Frame} {meth : Method} {c : Code} {E : xm_E} {a : Nat → Nat} (C : xm_C E (xv E a) p s m args meth c RX6 cX6_isKind 1 (some .boolean)) (n : Nat) (M : xm_M) (x0 : Int32) (r : Int32) (M' : xm_M) : f_X6_isKind n M x0 = some (r, M') → ∀ (H : Heap) (locs : List Loc) (ls : Array Slot), va_P E.1 vwCl (xm_w (xv E a) M) H → va_S (xm_A (xv E a) s.heap.size) s.heap H locs → lv_has ls 1 [(0, .int x0)] → W p l e { frames := 0, cells := 0, slots := 0, locals := 0 } s m args below meth c H locs 0 0 (MQ below (xm_Q E (xv E a) M' s.heap.size (some r)) args s 0 0 (xm_A (xv E a) s.heap.size)) (F0 m 0 ls []) := by
  have C9 := C
  obtain ⟨hx, hb, hml, hown, hts, hr, hlk, hD, hK, hS9⟩ := C9
  intro h H locs ls hP hS hl
  unfold f_X6_isKind at h
  refine lv_iload_n hx hb dX6_isKind_0 rfl (lv_at hl 0 rfl) ?_
  refine lv_bipush (v := 97) hx hb dX6_isKind_1 (by decide) ?_
  refine lv_icmp_lt (tgt := 16) hx hb dX6_isKind_3 (by decide) (fun c1 => ?_) (fun c1 => ?_)
  · rw [if_pos c1] at h
    refine lv_iconst (v := 0) hx hb dX6_isKind_16 (by decide) ?_
    obtain ⟨rfl, rfl⟩ := xm_pr h
    exact xm_retZ C hP hS (by rfl) dX6_isKind_17
  · rw [if_neg c1] at h
    refine lv_iload_n hx hb dX6_isKind_6 rfl (lv_at hl 0 rfl) ?_
    refine lv_bipush (v := 104) hx hb dX6_isKind_7 (by decide) ?_
    refine lv_icmp_gt (tgt := 16) hx hb dX6_isKind_9 (by decide) (fun c2 => ?_) (fun c2 => ?_)
    · rw [if_pos c2] at h
      refine lv_iconst (v := 0) hx hb dX6_isKind_16 (by decide) ?_
      obtain ⟨rfl, rfl⟩ := xm_pr h
      exact xm_retZ C hP hS (by rfl) dX6_isKind_17
    · rw [if_neg c2] at h
      refine lv_iconst (v := 1) hx hb dX6_isKind_12 (by decide) ?_
      refine lv_goto (tgt := 17) hx hb dX6_isKind_13 (by decide) ?_
      obtain ⟨rfl, rfl⟩ := xm_pr h
      exact xm_retZ C hP hS (by rfl) dX6_isKind_17
theorem c_X6_isKind {l : Launch} {E : xm_E} {a : Nat → Nat} (hD : xm_D (xv E a)) (n : Nat) (M : xm_M) (x0 : Int32) (r : Int32) (M' : xm_M) (h : f_X6_isKind n M x0 = some (r, M')) : xm_Met l E (xv E a) yX6_isKind cX6_isKind 1 (some .boolean) 0 0 [.int x0] M M' (some r) :=
  xm_met (by decide +kernel) rfl (Nat.le_of_ble_eq_true rfl) hD (fun p e s m below meth c C hP ls hl => t_X6_isKind_0 C  n M x0 r M' h _ _ _ hP va_S.rf hl)
def f_X5_append (n : Nat) (M : xm_M) (x1 : Int32) : Option (Int32 × xm_M) := if (M 6 1) < 80 then xm_ck (xm_in (M 6 1) 80) (xm_lt (xm_up M 7 (M 6 1).toNatClampNeg (vp_nar .char x1)) (fun M3 => xm_lt (xm_up M3 6 1 ((M3 6 1) + 1)) (fun M5 => some (M5 6 1, M5)))) else some ((-3), M)
set_option maxHeartbeats 4000000 in
set_option maxRecDepth 100000 in
theorem t_X5_append_0 {l : Launch} {p : Program} {e : Env} {s : State} {m : MethodId} {args : Array Value} {below : List Frame} {meth : Method} {c : Code} {E : xm_E} {a : Nat → Nat} (C : xm_C E (xv E a) p s m args meth c RX5 cX5_append 2 (some .int)) (n : Nat) (M : xm_M) (x1 : Int32) (r : Int32) (M' : xm_M) : f_X5_append n M x1 = some (r, M') → ∀ (H : Heap) (locs : List Loc) (ls : Array Slot), va_P E.1 vwCl (xm_w (xv E a) M) H → va_S (xm_A (xv E a) s.heap.size) s.heap H locs → lv_has ls 2 [(0, .ref (a 6)), (1, .int x1)] → W p l e { frames := 0, cells := 0, slots := 0, locals := 0 } s m args below meth c H locs 0 0 (MQ below (xm_Q E (xv E a) M' s.heap.size (some r)) args s 0 0 (xm_A (xv E a) s.heap.size)) (F0 m 0 ls []) := by
  have C9 := C
  obtain ⟨hx, hb, hml, hown, hts, hr, hlk, hD, hK, hS9⟩ := C9
  intro h H locs ls hP hS hl
  unfold f_X5_append at h
  refine lv_aload_n hx hb dX5_append_0 rfl (lv_at hl 0 rfl) ?_
  refine xm_get (V := (xv E a)) (T := TX5) (v := .int (M 6 1)) C hP 6 1 xi_5 rfl l_X5_15 rfl (Nat.le_of_ble_eq_true rfl) ((xe_6 E a) _) (Nat.le_of_ble_eq_true rfl) rfl dX5_append_1 ?_
  refine lv_bipush (v := 80) hx hb dX5_append_4 (by decide) ?_
  refine lv_icmp_lt (tgt := 12) hx hb dX5_append_6 (by decide) (fun c1 => ?_) (fun c1 => ?_)
  · rw [if_pos c1] at h
    refine lv_aload_n hx hb dX5_append_12 rfl (lv_at hl 0 rfl) ?_
    refine xm_get (V := (xv E a)) (T := TX5) (v := .ref (a 7)) C hP 6 0 xi_5 rfl l_X5_9 rfl (Nat.le_of_ble_eq_true rfl) ((xe_6 E a) _) (Nat.le_of_ble_eq_true rfl) rfl dX5_append_13 ?_
    refine lv_aload_n hx hb dX5_append_16 rfl (lv_at hl 0 rfl) ?_
    refine xm_get (V := (xv E a)) (T := TX5) (v := .int (M 6 1)) C hP 6 1 xi_5 rfl l_X5_15 rfl (Nat.le_of_ble_eq_true rfl) ((xe_6 E a) _) (Nat.le_of_ble_eq_true rfl) rfl dX5_append_17 ?_
    refine lv_iload_n hx hb dX5_append_20 rfl (lv_at hl 1 rfl) ?_
    obtain ⟨b2, h⟩ := xm_ck_s h
    obtain ⟨M3, e4, h⟩ := xm_lt_s h
    refine xm_cast (V := (xv E a)) C hP hS 7 80 (Nat.le_of_ble_eq_true rfl) (xe_7 E a) b2 dX5_append_21 (fun H locs hP hS => ?_)
    rw [← e4] at hP
    refine lv_aload_n hx hb dX5_append_22 rfl (lv_at hl 0 rfl) ?_
    refine lv_dup hx hb dX5_append_23 rfl ?_
    refine xm_get (V := (xv E a)) (T := TX5) (v := .int (M3 6 1)) C hP 6 1 xi_5 rfl l_X5_15 rfl (Nat.le_of_ble_eq_true rfl) ((xe_6 E a) _) (Nat.le_of_ble_eq_true rfl) rfl dX5_append_24 ?_
    refine lv_iconst (v := 1) hx hb dX5_append_27 (by decide) ?_
    refine lv_iadd hx hb dX5_append_28 ?_
    obtain ⟨M5, e6, h⟩ := xm_lt_s h
    refine xm_put (V := (xv E a)) (T := TX5) (ty := .int) (x := (M3 6 1) + 1) C hP hS 6 1 xi_5 rfl l_X5_15 rfl tyX5_ok nmX5 (Nat.le_of_ble_eq_true rfl) ((xe_6 E a) _) (Nat.le_of_ble_eq_true rfl) rfl (by decide +kernel) rfl rfl (Nat.le_of_ble_eq_true rfl) ((xe_6 E a) _) dX5_append_29 (fun H locs hP hS => ?_)
    rw [← e6] at hP
    refine lv_aload_n hx hb dX5_append_32 rfl (lv_at hl 0 rfl) ?_
    refine xm_get (V := (xv E a)) (T := TX5) (v := .int (M5 6 1)) C hP 6 1 xi_5 rfl l_X5_15 rfl (Nat.le_of_ble_eq_true rfl) ((xe_6 E a) _) (Nat.le_of_ble_eq_true rfl) rfl dX5_append_33 ?_
    obtain ⟨rfl, rfl⟩ := xm_pr h
    exact xm_retI C hP hS dX5_append_36
  · rw [if_neg c1] at h
    refine lv_bipush (v := (-3)) hx hb dX5_append_9 (by decide) ?_
    obtain ⟨rfl, rfl⟩ := xm_pr h
    exact xm_retI C hP hS dX5_append_11
theorem c_X5_append {l : Launch} {E : xm_E} {a : Nat → Nat} (hD : xm_D (xv E a)) (n : Nat) (M : xm_M) (x1 : Int32) (r : Int32) (M' : xm_M) (h : f_X5_append n M x1 = some (r, M')) : xm_Met l E (xv E a) yX5_append cX5_append 2 (some .int) 0 0 [.ref (a 6), .int x1] M M' (some r) :=
  xm_met (by decide +kernel) rfl (Nat.le_of_ble_eq_true rfl) hD (fun p e s m below meth c C hP ls hl => t_X5_append_0 C  n M x1 r M' h _ _ _ hP va_S.rf hl)
def f_X5_next (n : Nat) (M : xm_M) : Option (Int32 × xm_M) := if (M 6 1) ≤ (M 6 2) then some (0, M) else xm_ck (xm_in (M 6 2) 80) (xm_ck (xm_c (M 7 (M 6 2).toNatClampNeg)) (some (M 7 (M 6 2).toNatClampNeg, M)))
set_option maxHeartbeats 4000000 in
set_option maxRecDepth 100000 in
theorem t_X5_next_0 {l : Launch} {p : Program} {e : Env} {s : State} {m : MethodId} {args : Array Value} {below : List Frame} {meth : Method} {c : Code} {E : xm_E} {a : Nat → Nat} (C : xm_C E (xv E a) p s m args meth c RX5 cX5_next 1 (some .char)) (n : Nat) (M : xm_M) (r : Int32) (M' : xm_M) : f_X5_next n M = some (r, M') → ∀ (H : Heap) (locs : List Loc) (ls : Array Slot), va_P E.1 vwCl (xm_w (xv E a) M) H → va_S (xm_A (xv E a) s.heap.size) s.heap H locs → lv_has ls 1 [(0, .ref (a 6))] → W p l e { frames := 0, cells := 0, slots := 0, locals := 0 } s m args below meth c H locs 0 0 (MQ below (xm_Q E (xv E a) M' s.heap.size (some r)) args s 0 0 (xm_A (xv E a) s.heap.size)) (F0 m 0 ls []) := by
  have C9 := C
  obtain ⟨hx, hb, hml, hown, hts, hr, hlk, hD, hK, hS9⟩ := C9
  intro h H locs ls hP hS hl
  unfold f_X5_next at h
  refine lv_aload_n hx hb dX5_next_0 rfl (lv_at hl 0 rfl) ?_
  refine xm_get (V := (xv E a)) (T := TX5) (v := .int (M 6 2)) C hP 6 2 xi_5 rfl l_X5_19 rfl (Nat.le_of_ble_eq_true rfl) ((xe_6 E a) _) (Nat.le_of_ble_eq_true rfl) rfl dX5_next_1 ?_
  refine lv_aload_n hx hb dX5_next_4 rfl (lv_at hl 0 rfl) ?_
  refine xm_get (V := (xv E a)) (T := TX5) (v := .int (M 6 1)) C hP 6 1 xi_5 rfl l_X5_15 rfl (Nat.le_of_ble_eq_true rfl) ((xe_6 E a) _) (Nat.le_of_ble_eq_true rfl) rfl dX5_next_5 ?_
  refine lv_icmp_ge (tgt := 23) hx hb dX5_next_8 (by decide) (fun c1 => ?_) (fun c1 => ?_)
  · rw [if_pos c1] at h
    refine lv_iconst (v := 0) hx hb dX5_next_23 (by decide) ?_
    obtain ⟨rfl, rfl⟩ := xm_pr h
    exact xm_retZ C hP hS (by rfl) dX5_next_24
  · rw [if_neg c1] at h
    refine lv_aload_n hx hb dX5_next_11 rfl (lv_at hl 0 rfl) ?_
    refine xm_get (V := (xv E a)) (T := TX5) (v := .ref (a 7)) C hP 6 0 xi_5 rfl l_X5_9 rfl (Nat.le_of_ble_eq_true rfl) ((xe_6 E a) _) (Nat.le_of_ble_eq_true rfl) rfl dX5_next_12 ?_
    refine lv_aload_n hx hb dX5_next_15 rfl (lv_at hl 0 rfl) ?_
    refine xm_get (V := (xv E a)) (T := TX5) (v := .int (M 6 2)) C hP 6 2 xi_5 rfl l_X5_19 rfl (Nat.le_of_ble_eq_true rfl) ((xe_6 E a) _) (Nat.le_of_ble_eq_true rfl) rfl dX5_next_16 ?_
    obtain ⟨b2, h⟩ := xm_ck_s h
    refine xm_cald (V := (xv E a)) C hP 7 80 (Nat.le_of_ble_eq_true rfl) (xe_7 E a) b2 dX5_next_19 ?_
    refine lv_goto (tgt := 24) hx hb dX5_next_20 (by decide) ?_
    obtain ⟨z3, h⟩ := xm_ck_s h
    obtain ⟨rfl, rfl⟩ := xm_pr h
    exact xm_retZ C hP hS (xm_c_s z3) dX5_next_24
theorem c_X5_next {l : Launch} {E : xm_E} {a : Nat → Nat} (hD : xm_D (xv E a)) (n : Nat) (M : xm_M) (r : Int32) (M' : xm_M) (h : f_X5_next n M = some (r, M')) : xm_Met l E (xv E a) yX5_next cX5_next 1 (some .char) 0 0 [.ref (a 6)] M M' (some r) :=
  xm_met (by decide +kernel) rfl (Nat.le_of_ble_eq_true rfl) hD (fun p e s m below meth c C hP ls hl => t_X5_next_0 C  n M r M' h _ _ _ hP va_S.rf hl)
def f_X5_takesWord_2 : Nat → xm_M → Nat → Int32 → Option (Int32 × xm_M)
  | 0, _, _, _ => none
  | n + 1, M, w1, x2 => xm_b2 (f_slen n M w1) (fun r2 M1 => if r2 ≤ x2 then some (1, M1) else if (M1 6 1) ≤ (M1 6 2) then some (0, M1) else xm_ck (xm_in (M1 6 2) 80) (xm_b2 (f_schr n M1 w1 x2) (fun r8 M7 => if (M1 7 (M1 6 2).toNatClampNeg) = r8 then xm_lt (xm_up M7 6 2 ((M7 6 2) + 1)) (fun M11 => f_X5_takesWord_2 n M11 w1 (x2 + 1)) else some (0, M7))))
set_option maxHeartbeats 4000000 in
set_option maxRecDepth 100000 in
theorem t_X5_takesWord_2 {l : Launch} {p : Program} {e : Env} {s : State} {m : MethodId} {args : Array Value} {below : List Frame} {meth : Method} {c : Code} {E : xm_E} {a : Nat → Nat} (C : xm_C E (xv E a) p s m args meth c RX5 cX5_takesWord 3 (some .boolean)) {w1 : Nat} (h1 : w1 < 6) : ∀ (n : Nat) (M : xm_M) (x2 : Int32) (r : Int32) (M' : xm_M), f_X5_takesWord_2 n M w1 x2 = some (r, M') → ∀ (H : Heap) (locs : List Loc) (ls : Array Slot), va_P E.1 vwCl (xm_w (xv E a) M) H → va_S (xm_A (xv E a) s.heap.size) s.heap H locs → lv_has ls 3 [(0, .ref (a 6)), (1, .ref (E.2.2.1 w1)), (2, .int x2)] → W p l e { frames := 4, cells := 0, slots := 0, locals := 85 } s m args below meth c H locs 0 0 (MQ below (xm_Q E (xv E a) M' s.heap.size (some r)) args s 0 0 (xm_A (xv E a) s.heap.size)) (F0 m 2 ls []) := by
  have C9 := C
  obtain ⟨hx, hb, hml, hown, hts, hr, hlk, hD, hK, hS9⟩ := C9
  intro n
  induction n with
  | zero =>
    intro M x2 r M' h
    cases h
  | succ n ih =>
    intro M x2 r M' h H locs ls hP hS hl
    rw [f_X5_takesWord_2] at h
    refine lv_iload_n hx hb dX5_takesWord_2 rfl (lv_at hl 2 rfl) ?_
    refine lv_aload_n hx hb dX5_takesWord_3 rfl (lv_at hl 1 rfl) ?_
    obtain ⟨r2, M1, e3, h⟩ := xm_b2_s h
    refine xm_callV C hP hS [] [.int x2] (c_slen hD h1 n M  r2 M1 e3) k_X5_45 (xm_srecv C hS h1) rfl rfl ⟨(Nat.le_of_ble_eq_true rfl), (Nat.le_of_ble_eq_true rfl)⟩ hl.1 (Nat.le_of_ble_eq_true rfl) ⟨Nat.zero_le _, Nat.zero_le _⟩ dX5_takesWord_4 (fun H locs hP hS => ?_)
    change W p l e _ s m _ below meth c H locs 0 0 _ (F0 m 7 ls [.int r2, .int x2])
    refine lv_icmp_ge (tgt := 56) hx hb dX5_takesWord_7 (by decide) (fun c4 => ?_) (fun c4 => ?_)
    · rw [if_pos c4] at h
      refine lv_iconst (v := 1) hx hb dX5_takesWord_56 (by decide) ?_
      obtain ⟨rfl, rfl⟩ := xm_pr h
      exact xm_retZ C hP hS (by rfl) dX5_takesWord_57
    · rw [if_neg c4] at h
      refine lv_aload_n hx hb dX5_takesWord_10 rfl (lv_at hl 0 rfl) ?_
      refine xm_get (V := (xv E a)) (T := TX5) (v := .int (M1 6 2)) C hP 6 2 xi_5 rfl l_X5_19 rfl (Nat.le_of_ble_eq_true rfl) ((xe_6 E a) _) (Nat.le_of_ble_eq_true rfl) rfl dX5_takesWord_11 ?_
      refine lv_aload_n hx hb dX5_takesWord_14 rfl (lv_at hl 0 rfl) ?_
      refine xm_get (V := (xv E a)) (T := TX5) (v := .int (M1 6 1)) C hP 6 1 xi_5 rfl l_X5_15 rfl (Nat.le_of_ble_eq_true rfl) ((xe_6 E a) _) (Nat.le_of_ble_eq_true rfl) rfl dX5_takesWord_15 ?_
      refine lv_icmp_ge (tgt := 38) hx hb dX5_takesWord_18 (by decide) (fun c5 => ?_) (fun c5 => ?_)
      · rw [if_pos c5] at h
        refine lv_iconst (v := 0) hx hb dX5_takesWord_38 (by decide) ?_
        obtain ⟨rfl, rfl⟩ := xm_pr h
        exact xm_retZ C hP hS (by rfl) dX5_takesWord_39
      · rw [if_neg c5] at h
        refine lv_aload_n hx hb dX5_takesWord_21 rfl (lv_at hl 0 rfl) ?_
        refine xm_get (V := (xv E a)) (T := TX5) (v := .ref (a 7)) C hP 6 0 xi_5 rfl l_X5_9 rfl (Nat.le_of_ble_eq_true rfl) ((xe_6 E a) _) (Nat.le_of_ble_eq_true rfl) rfl dX5_takesWord_22 ?_
        refine lv_aload_n hx hb dX5_takesWord_25 rfl (lv_at hl 0 rfl) ?_
        refine xm_get (V := (xv E a)) (T := TX5) (v := .int (M1 6 2)) C hP 6 2 xi_5 rfl l_X5_19 rfl (Nat.le_of_ble_eq_true rfl) ((xe_6 E a) _) (Nat.le_of_ble_eq_true rfl) rfl dX5_takesWord_26 ?_
        obtain ⟨b6, h⟩ := xm_ck_s h
        refine xm_cald (V := (xv E a)) C hP 7 80 (Nat.le_of_ble_eq_true rfl) (xe_7 E a) b6 dX5_takesWord_29 ?_
        refine lv_aload_n hx hb dX5_takesWord_30 rfl (lv_at hl 1 rfl) ?_
        refine lv_iload_n hx hb dX5_takesWord_31 rfl (lv_at hl 2 rfl) ?_
        obtain ⟨r8, M7, e9, h⟩ := xm_b2_s h
        refine xm_callV C hP hS [.int x2] [.int (M1 7 (M1 6 2).toNatClampNeg)] (c_schr hD h1 n M1 x2 r8 M7 e9) k_X5_50 (xm_srecv C hS h1) rfl rfl ⟨(Nat.le_of_ble_eq_true rfl), (Nat.le_of_ble_eq_true rfl)⟩ hl.1 (Nat.le_of_ble_eq_true rfl) ⟨Nat.zero_le _, Nat.zero_le _⟩ dX5_takesWord_32 (fun H locs hP hS => ?_)
        change W p l e _ s m _ below meth c H locs 0 0 _ (F0 m 35 ls [.int r8, .int (M1 7 (M1 6 2).toNatClampNeg)])
        refine lv_icmp_eq (tgt := 40) hx hb dX5_takesWord_35 (by decide) (fun c10 => ?_) (fun c10 => ?_)
        · rw [if_pos c10] at h
          refine lv_aload_n hx hb dX5_takesWord_40 rfl (lv_at hl 0 rfl) ?_
          refine lv_dup hx hb dX5_takesWord_41 rfl ?_
          refine xm_get (V := (xv E a)) (T := TX5) (v := .int (M7 6 2)) C hP 6 2 xi_5 rfl l_X5_19 rfl (Nat.le_of_ble_eq_true rfl) ((xe_6 E a) _) (Nat.le_of_ble_eq_true rfl) rfl dX5_takesWord_42 ?_
          refine lv_iconst (v := 1) hx hb dX5_takesWord_45 (by decide) ?_
          refine lv_iadd hx hb dX5_takesWord_46 ?_
          obtain ⟨M11, e12, h⟩ := xm_lt_s h
          refine xm_put (V := (xv E a)) (T := TX5) (ty := .int) (x := (M7 6 2) + 1) C hP hS 6 2 xi_5 rfl l_X5_19 rfl tyX5_ok nmX5 (Nat.le_of_ble_eq_true rfl) ((xe_6 E a) _) (Nat.le_of_ble_eq_true rfl) rfl (by decide +kernel) rfl rfl (Nat.le_of_ble_eq_true rfl) ((xe_6 E a) _) dX5_takesWord_47 (fun H locs hP hS => ?_)
          rw [← e12] at hP
          refine lv_iinc (v := x2 + 1) (lv' := [(2, .int (x2 + 1)), (0, .ref (a 6)), (1, .ref (E.2.2.1 w1))]) hx hb dX5_takesWord_50 hl (k := 2) rfl (xm_add (by decide)) (by decide) rfl (fun ls hl => ?_)
          refine lv_goto (tgt := 2) hx hb dX5_takesWord_53 (by decide) ?_
          exact ih M11 (x2 + 1) r M' h _ _ _ hP hS (lv_sub hl [1, 2, 0] rfl)
        · rw [if_neg c10] at h
          refine lv_iconst (v := 0) hx hb dX5_takesWord_38 (by decide) ?_
          obtain ⟨rfl, rfl⟩ := xm_pr h
          exact xm_retZ C hP hS (by rfl) dX5_takesWord_39
def f_X5_takesWord (n : Nat) (M : xm_M) (w1 : Nat) : Option (Int32 × xm_M) := f_X5_takesWord_2 n M w1 0
set_option maxHeartbeats 4000000 in
set_option maxRecDepth 100000 in
theorem t_X5_takesWord_0 {l : Launch} {p : Program} {e : Env} {s : State} {m : MethodId} {args : Array Value} {below : List Frame} {meth : Method} {c : Code} {E : xm_E} {a : Nat → Nat} (C : xm_C E (xv E a) p s m args meth c RX5 cX5_takesWord 3 (some .boolean)) {w1 : Nat} (h1 : w1 < 6) (n : Nat) (M : xm_M) (r : Int32) (M' : xm_M) : f_X5_takesWord n M w1 = some (r, M') → ∀ (H : Heap) (locs : List Loc) (ls : Array Slot), va_P E.1 vwCl (xm_w (xv E a) M) H → va_S (xm_A (xv E a) s.heap.size) s.heap H locs → lv_has ls 3 [(0, .ref (a 6)), (1, .ref (E.2.2.1 w1))] → W p l e { frames := 4, cells := 0, slots := 0, locals := 85 } s m args below meth c H locs 0 0 (MQ below (xm_Q E (xv E a) M' s.heap.size (some r)) args s 0 0 (xm_A (xv E a) s.heap.size)) (F0 m 0 ls []) := by
  have C9 := C
  obtain ⟨hx, hb, hml, hown, hts, hr, hlk, hD, hK, hS9⟩ := C9
  intro h H locs ls hP hS hl
  unfold f_X5_takesWord at h
  refine lv_iconst (v := 0) hx hb dX5_takesWord_0 (by decide) ?_
  refine lv_istore_n (lv' := [(2, .int 0), (0, .ref (a 6)), (1, .ref (E.2.2.1 w1))]) hx hb dX5_takesWord_1 rfl hl (by decide) rfl (fun ls hl => ?_)
  exact t_X5_takesWord_2 C h1 n M 0 r M' h _ _ _ hP hS (lv_sub hl [1, 2, 0] rfl)
theorem c_X5_takesWord {l : Launch} {E : xm_E} {a : Nat → Nat} (hD : xm_D (xv E a)) {w1 : Nat} (h1 : w1 < 6) (n : Nat) (M : xm_M) (r : Int32) (M' : xm_M) (h : f_X5_takesWord n M w1 = some (r, M')) : xm_Met l E (xv E a) yX5_takesWord cX5_takesWord 3 (some .boolean) 4 85 [.ref (a 6), .ref (E.2.2.1 w1)] M M' (some r) :=
  xm_met (by decide +kernel) rfl (Nat.le_of_ble_eq_true rfl) hD (fun p e s m below meth c C hP ls hl => t_X5_takesWord_0 C h1 n M r M' h _ _ _ hP va_S.rf hl)
def f_X5_takesWindow_2 : Nat → xm_M → Nat → Int32 → Option (Int32 × xm_M)
  | 0, _, _, _ => none
  | n + 1, M, o1, x2 => if (M 6 1) ≤ (M 6 2) then xm_lt (xm_up M o1 0 x2) (fun M2 => if x2 ≤ 0 then some (0, M2) else some (1, M2)) else xm_ck (xm_in (M 6 2) 80) (xm_b2 (f_X6_isWithin n M (M 7 (M 6 2).toNatClampNeg) 48 57) (fun r7 M6 => if r7 = 0 then xm_lt (xm_up M6 o1 0 x2) (fun M10 => if x2 ≤ 0 then some (0, M10) else some (1, M10)) else xm_ck (xm_in (M6 6 2) 80) (xm_b2 (f_X6_isWithin n M6 ((x2 * 10) + ((M6 7 (M6 6 2).toNatClampNeg) - 48)) 1 1000) (fun r15 M14 => if r15 = 0 then some (0, M14) else xm_lt (xm_up M14 6 2 ((M14 6 2) + 1)) (fun M18 => f_X5_takesWindow_2 n M18 o1 ((x2 * 10) + ((M6 7 (M6 6 2).toNatClampNeg) - 48)))))))
set_option maxHeartbeats 4000000 in
set_option maxRecDepth 100000 in
theorem t_X5_takesWindow_2 {l : Launch} {p : Program} {e : Env} {s : State} {m : MethodId} {args : Array Value} {below : List Frame} {meth : Method} {c : Code} {E : xm_E} {a : Nat → Nat} (C : xm_C E (xv E a) p s m args meth c RX5 cX5_takesWindow 4 (some .boolean)) {o1 : Nat} (h1 : xm_Pa o1) : ∀ (n : Nat) (M : xm_M) (x2 : Int32) (r : Int32) (M' : xm_M), f_X5_takesWindow_2 n M o1 x2 = some (r, M') → ∀ (H : Heap) (locs : List Loc) (ls : Array Slot), va_P E.1 vwCl (xm_w (xv E a) M) H → va_S (xm_A (xv E a) s.heap.size) s.heap H locs → lv_has ls 4 [(0, .ref (a 6)), (1, .ref (a o1)), (2, .int x2)] → W p l e { frames := 1, cells := 0, slots := 0, locals := 22 } s m args below meth c H locs 0 0 (MQ below (xm_Q E (xv E a) M' s.heap.size (some r)) args s 0 0 (xm_A (xv E a) s.heap.size)) (F0 m 2 ls []) := by
  have C9 := C
  obtain ⟨hx, hb, hml, hown, hts, hr, hlk, hD, hK, hS9⟩ := C9
  intro n
  induction n with
  | zero =>
    intro M x2 r M' h
    cases h
  | succ n ih =>
    intro M x2 r M' h H locs ls hP hS hl
    rw [f_X5_takesWindow_2] at h
    refine lv_aload_n hx hb dX5_takesWindow_2 rfl (lv_at hl 0 rfl) ?_
    refine xm_get (V := (xv E a)) (T := TX5) (v := .int (M 6 2)) C hP 6 2 xi_5 rfl l_X5_19 rfl (Nat.le_of_ble_eq_true rfl) ((xe_6 E a) _) (Nat.le_of_ble_eq_true rfl) rfl dX5_takesWindow_3 ?_
    refine lv_aload_n hx hb dX5_takesWindow_6 rfl (lv_at hl 0 rfl) ?_
    refine xm_get (V := (xv E a)) (T := TX5) (v := .int (M 6 1)) C hP 6 1 xi_5 rfl l_X5_15 rfl (Nat.le_of_ble_eq_true rfl) ((xe_6 E a) _) (Nat.le_of_ble_eq_true rfl) rfl dX5_takesWindow_7 ?_
    refine lv_icmp_ge (tgt := 78) hx hb dX5_takesWindow_10 (by decide) (fun c1 => ?_) (fun c1 => ?_)
    · rw [if_pos c1] at h
      refine lv_aload_n hx hb dX5_takesWindow_78 rfl (lv_at hl 1 rfl) ?_
      refine lv_iload_n hx hb dX5_takesWindow_79 rfl (lv_at hl 2 rfl) ?_
      obtain ⟨M2, e3, h⟩ := xm_lt_s h
      refine xm_putN (V := (xv E a)) (T := TX2) (ty := .int) (x := x2) C hP hS o1 0 xi_2 rfl l_X5_58 rfl tyX2_ok nmX2 (xp_lt h1 0 (by omega)) ((xp_0 h1 E a) _) (Nat.le_of_ble_eq_true rfl) rfl (by decide +kernel) rfl rfl (Nat.le_of_ble_eq_true rfl) ((xp_0 h1 E a) _) dX5_takesWindow_80 (fun H locs hP hS => ?_)
      rw [← e3] at hP
      refine lv_iload_n hx hb dX5_takesWindow_83 rfl (lv_at hl 2 rfl) ?_
      refine lv_if_le (tgt := 91) hx hb dX5_takesWindow_84 (by decide) (fun c4 => ?_) (fun c4 => ?_)
      · rw [if_pos c4] at h
        refine lv_iconst (v := 0) hx hb dX5_takesWindow_91 (by decide) ?_
        obtain ⟨rfl, rfl⟩ := xm_pr h
        exact xm_retZ C hP hS (by rfl) dX5_takesWindow_92
      · rw [if_neg c4] at h
        refine lv_iconst (v := 1) hx hb dX5_takesWindow_87 (by decide) ?_
        refine lv_goto (tgt := 92) hx hb dX5_takesWindow_88 (by decide) ?_
        obtain ⟨rfl, rfl⟩ := xm_pr h
        exact xm_retZ C hP hS (by rfl) dX5_takesWindow_92
    · rw [if_neg c1] at h
      refine lv_aload_n hx hb dX5_takesWindow_13 rfl (lv_at hl 0 rfl) ?_
      refine xm_get (V := (xv E a)) (T := TX5) (v := .ref (a 7)) C hP 6 0 xi_5 rfl l_X5_9 rfl (Nat.le_of_ble_eq_true rfl) ((xe_6 E a) _) (Nat.le_of_ble_eq_true rfl) rfl dX5_takesWindow_14 ?_
      refine lv_aload_n hx hb dX5_takesWindow_17 rfl (lv_at hl 0 rfl) ?_
      refine xm_get (V := (xv E a)) (T := TX5) (v := .int (M 6 2)) C hP 6 2 xi_5 rfl l_X5_19 rfl (Nat.le_of_ble_eq_true rfl) ((xe_6 E a) _) (Nat.le_of_ble_eq_true rfl) rfl dX5_takesWindow_18 ?_
      obtain ⟨b5, h⟩ := xm_ck_s h
      refine xm_cald (V := (xv E a)) C hP 7 80 (Nat.le_of_ble_eq_true rfl) (xe_7 E a) b5 dX5_takesWindow_21 ?_
      refine lv_bipush (v := 48) hx hb dX5_takesWindow_22 (by decide) ?_
      refine lv_bipush (v := 57) hx hb dX5_takesWindow_24 (by decide) ?_
      obtain ⟨r7, M6, e8, h⟩ := xm_b2_s h
      refine xm_callSN C hP hS [.int (M 7 (M 6 2).toNatClampNeg), .int 48, .int 57] [] (c_X6_isWithin hD  n M (M 7 (M 6 2).toNatClampNeg) 48 57 r7 M6 e8) k_X5_54  rfl rfl ⟨(Nat.le_of_ble_eq_true rfl), (Nat.le_of_ble_eq_true rfl)⟩ hl.1 (Nat.le_of_ble_eq_true rfl) ⟨Nat.zero_le _, Nat.zero_le _⟩ dX5_takesWindow_26 (fun H locs hP hS => ?_)
      change W p l e _ s m _ below meth c H locs 0 0 _ (F0 m 29 ls [.int r7])
      refine lv_if_eq (tgt := 78) hx hb dX5_takesWindow_29 (by decide) (fun c9 => ?_) (fun c9 => ?_)
      · rw [if_pos c9] at h
        refine lv_aload_n hx hb dX5_takesWindow_78 rfl (lv_at hl 1 rfl) ?_
        refine lv_iload_n hx hb dX5_takesWindow_79 rfl (lv_at hl 2 rfl) ?_
        obtain ⟨M10, e11, h⟩ := xm_lt_s h
        refine xm_putN (V := (xv E a)) (T := TX2) (ty := .int) (x := x2) C hP hS o1 0 xi_2 rfl l_X5_58 rfl tyX2_ok nmX2 (xp_lt h1 0 (by omega)) ((xp_0 h1 E a) _) (Nat.le_of_ble_eq_true rfl) rfl (by decide +kernel) rfl rfl (Nat.le_of_ble_eq_true rfl) ((xp_0 h1 E a) _) dX5_takesWindow_80 (fun H locs hP hS => ?_)
        rw [← e11] at hP
        refine lv_iload_n hx hb dX5_takesWindow_83 rfl (lv_at hl 2 rfl) ?_
        refine lv_if_le (tgt := 91) hx hb dX5_takesWindow_84 (by decide) (fun c12 => ?_) (fun c12 => ?_)
        · rw [if_pos c12] at h
          refine lv_iconst (v := 0) hx hb dX5_takesWindow_91 (by decide) ?_
          obtain ⟨rfl, rfl⟩ := xm_pr h
          exact xm_retZ C hP hS (by rfl) dX5_takesWindow_92
        · rw [if_neg c12] at h
          refine lv_iconst (v := 1) hx hb dX5_takesWindow_87 (by decide) ?_
          refine lv_goto (tgt := 92) hx hb dX5_takesWindow_88 (by decide) ?_
          obtain ⟨rfl, rfl⟩ := xm_pr h
          exact xm_retZ C hP hS (by rfl) dX5_takesWindow_92
      · rw [if_neg c9] at h
        refine lv_iload_n hx hb dX5_takesWindow_32 rfl (lv_at hl 2 rfl) ?_
        refine lv_bipush (v := 10) hx hb dX5_takesWindow_33 (by decide) ?_
        refine lv_imul hx hb dX5_takesWindow_35 ?_
        refine lv_aload_n hx hb dX5_takesWindow_36 rfl (lv_at hl 0 rfl) ?_
        refine xm_get (V := (xv E a)) (T := TX5) (v := .ref (a 7)) C hP 6 0 xi_5 rfl l_X5_9 rfl (Nat.le_of_ble_eq_true rfl) ((xe_6 E a) _) (Nat.le_of_ble_eq_true rfl) rfl dX5_takesWindow_37 ?_
        refine lv_aload_n hx hb dX5_takesWindow_40 rfl (lv_at hl 0 rfl) ?_
        refine xm_get (V := (xv E a)) (T := TX5) (v := .int (M6 6 2)) C hP 6 2 xi_5 rfl l_X5_19 rfl (Nat.le_of_ble_eq_true rfl) ((xe_6 E a) _) (Nat.le_of_ble_eq_true rfl) rfl dX5_takesWindow_41 ?_
        obtain ⟨b13, h⟩ := xm_ck_s h
        refine xm_cald (V := (xv E a)) C hP 7 80 (Nat.le_of_ble_eq_true rfl) (xe_7 E a) b13 dX5_takesWindow_44 ?_
        refine lv_bipush (v := 48) hx hb dX5_takesWindow_45 (by decide) ?_
        refine lv_isub hx hb dX5_takesWindow_47 ?_
        refine lv_iadd hx hb dX5_takesWindow_48 ?_
        refine lv_istore_n (lv' := [(3, .int ((x2 * 10) + ((M6 7 (M6 6 2).toNatClampNeg) - 48))), (0, .ref (a 6)), (1, .ref (a o1)), (2, .int x2)]) hx hb dX5_takesWindow_49 rfl hl (by decide) rfl (fun ls hl => ?_)
        refine lv_iload_n hx hb dX5_takesWindow_50 rfl (lv_at hl 0 rfl) ?_
        refine lv_iconst (v := 1) hx hb dX5_takesWindow_51 (by decide) ?_
        refine lv_sipush (v := 1000) hx hb dX5_takesWindow_52 (by decide) ?_
        obtain ⟨r15, M14, e16, h⟩ := xm_b2_s h
        refine xm_callSN C hP hS [.int ((x2 * 10) + ((M6 7 (M6 6 2).toNatClampNeg) - 48)), .int 1, .int 1000] [] (c_X6_isWithin hD  n M6 ((x2 * 10) + ((M6 7 (M6 6 2).toNatClampNeg) - 48)) 1 1000 r15 M14 e16) k_X5_54  rfl rfl ⟨(Nat.le_of_ble_eq_true rfl), (Nat.le_of_ble_eq_true rfl)⟩ hl.1 (Nat.le_of_ble_eq_true rfl) ⟨Nat.zero_le _, Nat.zero_le _⟩ dX5_takesWindow_55 (fun H locs hP hS => ?_)
        change W p l e _ s m _ below meth c H locs 0 0 _ (F0 m 58 ls [.int r15])
        refine lv_if_ne (tgt := 63) hx hb dX5_takesWindow_58 (by decide) (fun c17 => ?_) (fun c17 => ?_)
        · rw [if_neg c17] at h
          refine lv_iload_n hx hb dX5_takesWindow_63 rfl (lv_at hl 0 rfl) ?_
          refine lv_istore_n (lv' := [(2, .int ((x2 * 10) + ((M6 7 (M6 6 2).toNatClampNeg) - 48))), (3, .int ((x2 * 10) + ((M6 7 (M6 6 2).toNatClampNeg) - 48))), (0, .ref (a 6)), (1, .ref (a o1))]) hx hb dX5_takesWindow_64 rfl hl (by decide) rfl (fun ls hl => ?_)
          refine lv_aload_n hx hb dX5_takesWindow_65 rfl (lv_at hl 2 rfl) ?_
          refine lv_dup hx hb dX5_takesWindow_66 rfl ?_
          refine xm_get (V := (xv E a)) (T := TX5) (v := .int (M14 6 2)) C hP 6 2 xi_5 rfl l_X5_19 rfl (Nat.le_of_ble_eq_true rfl) ((xe_6 E a) _) (Nat.le_of_ble_eq_true rfl) rfl dX5_takesWindow_67 ?_
          refine lv_iconst (v := 1) hx hb dX5_takesWindow_70 (by decide) ?_
          refine lv_iadd hx hb dX5_takesWindow_71 ?_
          obtain ⟨M18, e19, h⟩ := xm_lt_s h
          refine xm_put (V := (xv E a)) (T := TX5) (ty := .int) (x := (M14 6 2) + 1) C hP hS 6 2 xi_5 rfl l_X5_19 rfl tyX5_ok nmX5 (Nat.le_of_ble_eq_true rfl) ((xe_6 E a) _) (Nat.le_of_ble_eq_true rfl) rfl (by decide +kernel) rfl rfl (Nat.le_of_ble_eq_true rfl) ((xe_6 E a) _) dX5_takesWindow_72 (fun H locs hP hS => ?_)
          rw [← e19] at hP
          refine lv_goto (tgt := 2) hx hb dX5_takesWindow_75 (by decide) ?_
          exact ih M18 ((x2 * 10) + ((M6 7 (M6 6 2).toNatClampNeg) - 48)) r M' h _ _ _ hP hS (lv_sub hl [2, 3, 0] rfl)
        · rw [if_pos c17] at h
          refine lv_iconst (v := 0) hx hb dX5_takesWindow_61 (by decide) ?_
          obtain ⟨rfl, rfl⟩ := xm_pr h
          exact xm_retZ C hP hS (by rfl) dX5_takesWindow_62
def f_X5_takesWindow (n : Nat) (M : xm_M) (o1 : Nat) : Option (Int32 × xm_M) := f_X5_takesWindow_2 n M o1 0
set_option maxHeartbeats 4000000 in
set_option maxRecDepth 100000 in
theorem t_X5_takesWindow_0 {l : Launch} {p : Program} {e : Env} {s : State} {m : MethodId} {args : Array Value} {below : List Frame} {meth : Method} {c : Code} {E : xm_E} {a : Nat → Nat} (C : xm_C E (xv E a) p s m args meth c RX5 cX5_takesWindow 4 (some .boolean)) {o1 : Nat} (h1 : xm_Pa o1) (n : Nat) (M : xm_M) (r : Int32) (M' : xm_M) : f_X5_takesWindow n M o1 = some (r, M') → ∀ (H : Heap) (locs : List Loc) (ls : Array Slot), va_P E.1 vwCl (xm_w (xv E a) M) H → va_S (xm_A (xv E a) s.heap.size) s.heap H locs → lv_has ls 4 [(0, .ref (a 6)), (1, .ref (a o1))] → W p l e { frames := 1, cells := 0, slots := 0, locals := 22 } s m args below meth c H locs 0 0 (MQ below (xm_Q E (xv E a) M' s.heap.size (some r)) args s 0 0 (xm_A (xv E a) s.heap.size)) (F0 m 0 ls []) := by
  have C9 := C
  obtain ⟨hx, hb, hml, hown, hts, hr, hlk, hD, hK, hS9⟩ := C9
  intro h H locs ls hP hS hl
  unfold f_X5_takesWindow at h
  refine lv_iconst (v := 0) hx hb dX5_takesWindow_0 (by decide) ?_
  refine lv_istore_n (lv' := [(2, .int 0), (0, .ref (a 6)), (1, .ref (a o1))]) hx hb dX5_takesWindow_1 rfl hl (by decide) rfl (fun ls hl => ?_)
  exact t_X5_takesWindow_2 C h1 n M 0 r M' h _ _ _ hP hS (lv_sub hl [1, 2, 0] rfl)
theorem c_X5_takesWindow {l : Launch} {E : xm_E} {a : Nat → Nat} (hD : xm_D (xv E a)) {o1 : Nat} (h1 : xm_Pa o1) (n : Nat) (M : xm_M) (r : Int32) (M' : xm_M) (h : f_X5_takesWindow n M o1 = some (r, M')) : xm_Met l E (xv E a) yX5_takesWindow cX5_takesWindow 4 (some .boolean) 1 22 [.ref (a 6), .ref (a o1)] M M' (some r) :=
  xm_met (by decide +kernel) rfl (Nat.le_of_ble_eq_true rfl) hD (fun p e s m below meth c C hP ls hl => t_X5_takesWindow_0 C h1 n M r M' h _ _ _ hP va_S.rf hl)
def f_X5_takesRule (n : Nat) (M : xm_M) (o1 : Nat) : Option (Int32 × xm_M) := xm_lt (xm_up M o1 1 0) (fun M1 => xm_b2 (f_X5_next n M1) (fun r4 M3 => if r4 = 114 then xm_lt (xm_up M3 o1 1 1) (fun M20 => xm_b2 (f_X5_takesWord n M20 2) (fun r23 M22 => xm_ck (xm_z r23) (some (r23, M22)))) else xm_b2 (f_X5_next n M3) (fun r8 M7 => if r8 = 97 then if (M7 6 1) ≤ ((M7 6 2) + 1) then some (1, M7) else xm_ck (xm_in ((M7 6 2) + 1) 80) (if (M7 7 ((M7 6 2) + 1).toNatClampNeg) = 108 then xm_lt (xm_up M7 o1 1 2) (fun M14 => xm_b2 (f_X5_takesWord n M14 3) (fun r17 M16 => xm_ck (xm_z r17) (some (r17, M16)))) else some (1, M7)) else some (1, M7))))
set_option maxHeartbeats 4000000 in
set_option maxRecDepth 100000 in
theorem t_X5_takesRule_0 {l : Launch} {p : Program} {e : Env} {s : State} {m : MethodId} {args : Array Value} {below : List Frame} {meth : Method} {c : Code} {E : xm_E} {a : Nat → Nat} (C : xm_C E (xv E a) p s m args meth c RX5 cX5_takesRule 2 (some .boolean)) {o1 : Nat} (h1 : xm_Pa o1) (n : Nat) (M : xm_M) (r : Int32) (M' : xm_M) : f_X5_takesRule n M o1 = some (r, M') → ∀ (H : Heap) (locs : List Loc) (ls : Array Slot), va_P E.1 vwCl (xm_w (xv E a) M) H → va_S (xm_A (xv E a) s.heap.size) s.heap H locs → lv_has ls 2 [(0, .ref (a 6)), (1, .ref (a o1))] → W p l e { frames := 5, cells := 0, slots := 0, locals := 107 } s m args below meth c H locs 0 0 (MQ below (xm_Q E (xv E a) M' s.heap.size (some r)) args s 0 0 (xm_A (xv E a) s.heap.size)) (F0 m 0 ls []) := by
  have C9 := C
  obtain ⟨hx, hb, hml, hown, hts, hr, hlk, hD, hK, hS9⟩ := C9
  intro h H locs ls hP hS hl
  unfold f_X5_takesRule at h
  refine lv_aload_n hx hb dX5_takesRule_0 rfl (lv_at hl 1 rfl) ?_
  refine lv_iconst (v := 0) hx hb dX5_takesRule_1 (by decide) ?_
  obtain ⟨M1, e2, h⟩ := xm_lt_s h
  refine xm_putN (V := (xv E a)) (T := TX2) (ty := .int) (x := 0) C hP hS o1 1 xi_2 rfl l_X5_61 rfl tyX2_ok nmX2 (xp_lt h1 0 (by omega)) ((xp_0 h1 E a) _) (Nat.le_of_ble_eq_true rfl) rfl (by decide +kernel) rfl rfl (Nat.le_of_ble_eq_true rfl) ((xp_0 h1 E a) _) dX5_takesRule_2 (fun H locs hP hS => ?_)
  rw [← e2] at hP
  refine lv_aload_n hx hb dX5_takesRule_5 rfl (lv_at hl 0 rfl) ?_
  obtain ⟨r4, M3, e5, h⟩ := xm_b2_s h
  refine xm_callV C hP hS [] [] (c_X5_next hD  n M1  r4 M3 e5) k_X5_64 (xm_recv C hP 6 rfl (Nat.le_of_ble_eq_true rfl) ((xe_6 E a) _)) rfl rfl ⟨(Nat.le_of_ble_eq_true rfl), (Nat.le_of_ble_eq_true rfl)⟩ hl.1 (Nat.le_of_ble_eq_true rfl) ⟨Nat.zero_le _, Nat.zero_le _⟩ dX5_takesRule_6 (fun H locs hP hS => ?_)
  change W p l e _ s m _ below meth c H locs 0 0 _ (F0 m 9 ls [.int r4])
  refine lv_bipush (v := 114) hx hb dX5_takesRule_9 (by decide) ?_
  refine lv_icmp_ne (tgt := 26) hx hb dX5_takesRule_11 (by decide) (fun c6 => ?_) (fun c6 => ?_)
  · rw [if_neg c6] at h
    refine lv_aload_n hx hb dX5_takesRule_26 rfl (lv_at hl 0 rfl) ?_
    obtain ⟨r8, M7, e9, h⟩ := xm_b2_s h
    refine xm_callV C hP hS [] [] (c_X5_next hD  n M3  r8 M7 e9) k_X5_64 (xm_recv C hP 6 rfl (Nat.le_of_ble_eq_true rfl) ((xe_6 E a) _)) rfl rfl ⟨(Nat.le_of_ble_eq_true rfl), (Nat.le_of_ble_eq_true rfl)⟩ hl.1 (Nat.le_of_ble_eq_true rfl) ⟨Nat.zero_le _, Nat.zero_le _⟩ dX5_takesRule_27 (fun H locs hP hS => ?_)
    change W p l e _ s m _ below meth c H locs 0 0 _ (F0 m 30 ls [.int r8])
    refine lv_bipush (v := 97) hx hb dX5_takesRule_30 (by decide) ?_
    refine lv_icmp_ne (tgt := 76) hx hb dX5_takesRule_32 (by decide) (fun c10 => ?_) (fun c10 => ?_)
    · rw [if_neg c10] at h
      refine lv_iconst (v := 1) hx hb dX5_takesRule_76 (by decide) ?_
      obtain ⟨rfl, rfl⟩ := xm_pr h
      exact xm_retZ C hP hS (by rfl) dX5_takesRule_77
    · rw [if_pos c10] at h
      refine lv_aload_n hx hb dX5_takesRule_35 rfl (lv_at hl 0 rfl) ?_
      refine xm_get (V := (xv E a)) (T := TX5) (v := .int (M7 6 2)) C hP 6 2 xi_5 rfl l_X5_19 rfl (Nat.le_of_ble_eq_true rfl) ((xe_6 E a) _) (Nat.le_of_ble_eq_true rfl) rfl dX5_takesRule_36 ?_
      refine lv_iconst (v := 1) hx hb dX5_takesRule_39 (by decide) ?_
      refine lv_iadd hx hb dX5_takesRule_40 ?_
      refine lv_aload_n hx hb dX5_takesRule_41 rfl (lv_at hl 0 rfl) ?_
      refine xm_get (V := (xv E a)) (T := TX5) (v := .int (M7 6 1)) C hP 6 1 xi_5 rfl l_X5_15 rfl (Nat.le_of_ble_eq_true rfl) ((xe_6 E a) _) (Nat.le_of_ble_eq_true rfl) rfl dX5_takesRule_42 ?_
      refine lv_icmp_ge (tgt := 76) hx hb dX5_takesRule_45 (by decide) (fun c11 => ?_) (fun c11 => ?_)
      · rw [if_pos c11] at h
        refine lv_iconst (v := 1) hx hb dX5_takesRule_76 (by decide) ?_
        obtain ⟨rfl, rfl⟩ := xm_pr h
        exact xm_retZ C hP hS (by rfl) dX5_takesRule_77
      · rw [if_neg c11] at h
        refine lv_aload_n hx hb dX5_takesRule_48 rfl (lv_at hl 0 rfl) ?_
        refine xm_get (V := (xv E a)) (T := TX5) (v := .ref (a 7)) C hP 6 0 xi_5 rfl l_X5_9 rfl (Nat.le_of_ble_eq_true rfl) ((xe_6 E a) _) (Nat.le_of_ble_eq_true rfl) rfl dX5_takesRule_49 ?_
        refine lv_aload_n hx hb dX5_takesRule_52 rfl (lv_at hl 0 rfl) ?_
        refine xm_get (V := (xv E a)) (T := TX5) (v := .int (M7 6 2)) C hP 6 2 xi_5 rfl l_X5_19 rfl (Nat.le_of_ble_eq_true rfl) ((xe_6 E a) _) (Nat.le_of_ble_eq_true rfl) rfl dX5_takesRule_53 ?_
        refine lv_iconst (v := 1) hx hb dX5_takesRule_56 (by decide) ?_
        refine lv_iadd hx hb dX5_takesRule_57 ?_
        obtain ⟨b12, h⟩ := xm_ck_s h
        refine xm_cald (V := (xv E a)) C hP 7 80 (Nat.le_of_ble_eq_true rfl) (xe_7 E a) b12 dX5_takesRule_58 ?_
        refine lv_bipush (v := 108) hx hb dX5_takesRule_59 (by decide) ?_
        refine lv_icmp_ne (tgt := 76) hx hb dX5_takesRule_61 (by decide) (fun c13 => ?_) (fun c13 => ?_)
        · rw [if_neg c13] at h
          refine lv_iconst (v := 1) hx hb dX5_takesRule_76 (by decide) ?_
          obtain ⟨rfl, rfl⟩ := xm_pr h
          exact xm_retZ C hP hS (by rfl) dX5_takesRule_77
        · rw [if_pos c13] at h
          refine lv_aload_n hx hb dX5_takesRule_64 rfl (lv_at hl 1 rfl) ?_
          refine lv_iconst (v := 2) hx hb dX5_takesRule_65 (by decide) ?_
          obtain ⟨M14, e15, h⟩ := xm_lt_s h
          refine xm_putN (V := (xv E a)) (T := TX2) (ty := .int) (x := 2) C hP hS o1 1 xi_2 rfl l_X5_61 rfl tyX2_ok nmX2 (xp_lt h1 0 (by omega)) ((xp_0 h1 E a) _) (Nat.le_of_ble_eq_true rfl) rfl (by decide +kernel) rfl rfl (Nat.le_of_ble_eq_true rfl) ((xp_0 h1 E a) _) dX5_takesRule_66 (fun H locs hP hS => ?_)
          rw [← e15] at hP
          refine lv_aload_n hx hb dX5_takesRule_69 rfl (lv_at hl 0 rfl) ?_
          refine va_ldcS hx hb hown (C.2.2.2.2.2.2.2.2.1.2.2.1 3 (by omega)) dX5_takesRule_70 ?_
          obtain ⟨r17, M16, e18, h⟩ := xm_b2_s h
          refine xm_callV C hP hS [.ref (E.2.2.1 3)] [] (c_X5_takesWord hD (by omega) n M14  r17 M16 e18) k_X5_29 (xm_recv C hP 6 rfl (Nat.le_of_ble_eq_true rfl) ((xe_6 E a) _)) rfl rfl ⟨(Nat.le_of_ble_eq_true rfl), (Nat.le_of_ble_eq_true rfl)⟩ hl.1 (Nat.le_of_ble_eq_true rfl) ⟨Nat.zero_le _, Nat.zero_le _⟩ dX5_takesRule_72 (fun H locs hP hS => ?_)
          change W p l e _ s m _ below meth c H locs 0 0 _ (F0 m 75 ls [.int r17])
          obtain ⟨z19, h⟩ := xm_ck_s h
          obtain ⟨rfl, rfl⟩ := xm_pr h
          exact xm_retZ C hP hS (xm_z_s z19) dX5_takesRule_75
  · rw [if_pos c6] at h
    refine lv_aload_n hx hb dX5_takesRule_14 rfl (lv_at hl 1 rfl) ?_
    refine lv_iconst (v := 1) hx hb dX5_takesRule_15 (by decide) ?_
    obtain ⟨M20, e21, h⟩ := xm_lt_s h
    refine xm_putN (V := (xv E a)) (T := TX2) (ty := .int) (x := 1) C hP hS o1 1 xi_2 rfl l_X5_61 rfl tyX2_ok nmX2 (xp_lt h1 0 (by omega)) ((xp_0 h1 E a) _) (Nat.le_of_ble_eq_true rfl) rfl (by decide +kernel) rfl rfl (Nat.le_of_ble_eq_true rfl) ((xp_0 h1 E a) _) dX5_takesRule_16 (fun H locs hP hS => ?_)
    rw [← e21] at hP
    refine lv_aload_n hx hb dX5_takesRule_19 rfl (lv_at hl 0 rfl) ?_
    refine va_ldcS hx hb hown (C.2.2.2.2.2.2.2.2.1.2.2.1 2 (by omega)) dX5_takesRule_20 ?_
    obtain ⟨r23, M22, e24, h⟩ := xm_b2_s h
    refine xm_callV C hP hS [.ref (E.2.2.1 2)] [] (c_X5_takesWord hD (by omega) n M20  r23 M22 e24) k_X5_29 (xm_recv C hP 6 rfl (Nat.le_of_ble_eq_true rfl) ((xe_6 E a) _)) rfl rfl ⟨(Nat.le_of_ble_eq_true rfl), (Nat.le_of_ble_eq_true rfl)⟩ hl.1 (Nat.le_of_ble_eq_true rfl) ⟨Nat.zero_le _, Nat.zero_le _⟩ dX5_takesRule_22 (fun H locs hP hS => ?_)
    change W p l e _ s m _ below meth c H locs 0 0 _ (F0 m 25 ls [.int r23])
    obtain ⟨z25, h⟩ := xm_ck_s h
    obtain ⟨rfl, rfl⟩ := xm_pr h
    exact xm_retZ C hP hS (xm_z_s z25) dX5_takesRule_25
theorem c_X5_takesRule {l : Launch} {E : xm_E} {a : Nat → Nat} (hD : xm_D (xv E a)) {o1 : Nat} (h1 : xm_Pa o1) (n : Nat) (M : xm_M) (r : Int32) (M' : xm_M) (h : f_X5_takesRule n M o1 = some (r, M')) : xm_Met l E (xv E a) yX5_takesRule cX5_takesRule 2 (some .boolean) 5 107 [.ref (a 6), .ref (a o1)] M M' (some r) :=
  xm_met (by decide +kernel) rfl (Nat.le_of_ble_eq_true rfl) hD (fun p e s m below meth c C hP ls hl => t_X5_takesRule_0 C h1 n M r M' h _ _ _ hP va_S.rf hl)
def f_X5_takesStep_47 (n : Nat) (M : xm_M) (o1 : Nat) (x2 : Int32) : Option (Int32 × xm_M) := xm_b2 (f_X5_next n M) (fun r2 M1 => xm_b2 (f_X6_isKind n M1 r2) (fun r5 M4 => if r5 = 0 then some (0, M4) else xm_b2 (f_X2_hasRoomForStep n M4 o1) (fun r9 M8 => if r9 = 0 then some (0, M8) else xm_b1 (f_X2_addStep n M8 o1 r2 x2) (fun M12 => xm_lt (xm_up M12 6 2 ((M12 6 2) + 1)) (fun M15 => some (1, M15))))))
set_option maxHeartbeats 4000000 in
set_option maxRecDepth 100000 in
theorem t_X5_takesStep_47 {l : Launch} {p : Program} {e : Env} {s : State} {m : MethodId} {args : Array Value} {below : List Frame} {meth : Method} {c : Code} {E : xm_E} {a : Nat → Nat} (C : xm_C E (xv E a) p s m args meth c RX5 cX5_takesStep 4 (some .boolean)) {o1 : Nat} (h1 : xm_Pa o1) (n : Nat) (M : xm_M) (x2 : Int32) (r : Int32) (M' : xm_M) : f_X5_takesStep_47 n M o1 x2 = some (r, M') → ∀ (H : Heap) (locs : List Loc) (ls : Array Slot), va_P E.1 vwCl (xm_w (xv E a) M) H → va_S (xm_A (xv E a) s.heap.size) s.heap H locs → lv_has ls 4 [(0, .ref (a 6)), (1, .ref (a o1)), (2, .int x2)] → W p l e { frames := 5, cells := 0, slots := 0, locals := 107 } s m args below meth c H locs 0 0 (MQ below (xm_Q E (xv E a) M' s.heap.size (some r)) args s 0 0 (xm_A (xv E a) s.heap.size)) (F0 m 47 ls []) := by
  have C9 := C
  obtain ⟨hx, hb, hml, hown, hts, hr, hlk, hD, hK, hS9⟩ := C9
  intro h H locs ls hP hS hl
  unfold f_X5_takesStep_47 at h
  refine lv_aload_n hx hb dX5_takesStep_47 rfl (lv_at hl 0 rfl) ?_
  obtain ⟨r2, M1, e3, h⟩ := xm_b2_s h
  refine xm_callV C hP hS [] [] (c_X5_next hD  n M  r2 M1 e3) k_X5_64 (xm_recv C hP 6 rfl (Nat.le_of_ble_eq_true rfl) ((xe_6 E a) _)) rfl rfl ⟨(Nat.le_of_ble_eq_true rfl), (Nat.le_of_ble_eq_true rfl)⟩ hl.1 (Nat.le_of_ble_eq_true rfl) ⟨Nat.zero_le _, Nat.zero_le _⟩ dX5_takesStep_48 (fun H locs hP hS => ?_)
  change W p l e _ s m _ below meth c H locs 0 0 _ (F0 m 51 ls [.int r2])
  refine lv_istore_n (lv' := [(3, .int r2), (0, .ref (a 6)), (1, .ref (a o1)), (2, .int x2)]) hx hb dX5_takesStep_51 rfl hl (by decide) rfl (fun ls hl => ?_)
  refine lv_iload_n hx hb dX5_takesStep_52 rfl (lv_at hl 0 rfl) ?_
  obtain ⟨r5, M4, e6, h⟩ := xm_b2_s h
  refine xm_callSN C hP hS [.int r2] [] (c_X6_isKind hD  n M1 r2 r5 M4 e6) k_X5_89  rfl rfl ⟨(Nat.le_of_ble_eq_true rfl), (Nat.le_of_ble_eq_true rfl)⟩ hl.1 (Nat.le_of_ble_eq_true rfl) ⟨Nat.zero_le _, Nat.zero_le _⟩ dX5_takesStep_53 (fun H locs hP hS => ?_)
  change W p l e _ s m _ below meth c H locs 0 0 _ (F0 m 56 ls [.int r5])
  refine lv_if_eq (tgt := 66) hx hb dX5_takesStep_56 (by decide) (fun c7 => ?_) (fun c7 => ?_)
  · rw [if_pos c7] at h
    refine lv_iconst (v := 0) hx hb dX5_takesStep_66 (by decide) ?_
    obtain ⟨rfl, rfl⟩ := xm_pr h
    exact xm_retZ C hP hS (by rfl) dX5_takesStep_67
  · rw [if_neg c7] at h
    refine lv_aload_n hx hb dX5_takesStep_59 rfl (lv_at hl 2 rfl) ?_
    obtain ⟨r9, M8, e10, h⟩ := xm_b2_s h
    refine xm_callVN C hP hS [] [] (c_X2_hasRoomForStep hD h1 n M4  r9 M8 e10) k_X5_93 (xm_recv C hP o1 rfl (xp_lt h1 0 (by omega)) ((xp_0 h1 E a) _)) rfl rfl ⟨(Nat.le_of_ble_eq_true rfl), (Nat.le_of_ble_eq_true rfl)⟩ hl.1 (Nat.le_of_ble_eq_true rfl) ⟨Nat.zero_le _, Nat.zero_le _⟩ dX5_takesStep_60 (fun H locs hP hS => ?_)
    change W p l e _ s m _ below meth c H locs 0 0 _ (F0 m 63 ls [.int r9])
    refine lv_if_ne (tgt := 68) hx hb dX5_takesStep_63 (by decide) (fun c11 => ?_) (fun c11 => ?_)
    · rw [if_neg c11] at h
      refine lv_aload_n hx hb dX5_takesStep_68 rfl (lv_at hl 2 rfl) ?_
      refine lv_iload_n hx hb dX5_takesStep_69 rfl (lv_at hl 0 rfl) ?_
      refine lv_iload_n hx hb dX5_takesStep_70 rfl (lv_at hl 3 rfl) ?_
      obtain ⟨M12, e14, h⟩ := xm_b1_s h
      refine xm_callVN C hP hS [.int r2, .int x2] [] (c_X2_addStep hD h1 n M8 r2 x2 M12 e14) k_X5_96 (xm_recv C hP o1 rfl (xp_lt h1 0 (by omega)) ((xp_0 h1 E a) _)) rfl rfl ⟨(Nat.le_of_ble_eq_true rfl), (Nat.le_of_ble_eq_true rfl)⟩ hl.1 (Nat.le_of_ble_eq_true rfl) ⟨Nat.zero_le _, Nat.zero_le _⟩ dX5_takesStep_71 (fun H locs hP hS => ?_)
      change W p l e _ s m _ below meth c H locs 0 0 _ (F0 m 74 ls [])
      refine lv_aload_n hx hb dX5_takesStep_74 rfl (lv_at hl 1 rfl) ?_
      refine lv_dup hx hb dX5_takesStep_75 rfl ?_
      refine xm_get (V := (xv E a)) (T := TX5) (v := .int (M12 6 2)) C hP 6 2 xi_5 rfl l_X5_19 rfl (Nat.le_of_ble_eq_true rfl) ((xe_6 E a) _) (Nat.le_of_ble_eq_true rfl) rfl dX5_takesStep_76 ?_
      refine lv_iconst (v := 1) hx hb dX5_takesStep_79 (by decide) ?_
      refine lv_iadd hx hb dX5_takesStep_80 ?_
      obtain ⟨M15, e16, h⟩ := xm_lt_s h
      refine xm_put (V := (xv E a)) (T := TX5) (ty := .int) (x := (M12 6 2) + 1) C hP hS 6 2 xi_5 rfl l_X5_19 rfl tyX5_ok nmX5 (Nat.le_of_ble_eq_true rfl) ((xe_6 E a) _) (Nat.le_of_ble_eq_true rfl) rfl (by decide +kernel) rfl rfl (Nat.le_of_ble_eq_true rfl) ((xe_6 E a) _) dX5_takesStep_81 (fun H locs hP hS => ?_)
      rw [← e16] at hP
      refine lv_iconst (v := 1) hx hb dX5_takesStep_84 (by decide) ?_
      obtain ⟨rfl, rfl⟩ := xm_pr h
      exact xm_retZ C hP hS (by rfl) dX5_takesStep_85
    · rw [if_pos c11] at h
      refine lv_iconst (v := 0) hx hb dX5_takesStep_66 (by decide) ?_
      obtain ⟨rfl, rfl⟩ := xm_pr h
      exact xm_retZ C hP hS (by rfl) dX5_takesStep_67
def f_X5_takesStep (n : Nat) (M : xm_M) (o1 : Nat) : Option (Int32 × xm_M) := xm_b2 (f_X5_next n M) (fun r2 M1 => if r2 = 110 then xm_b2 (f_X2_endsWithPlainStep n M1 o1) (fun r7 M6 => if r7 = 0 then some (0, M6) else xm_b2 (f_X5_takesWord n M6 4) (fun r11 M10 => if r11 = 0 then some (0, M10) else f_X5_takesStep_47 n M10 o1 1)) else if (M1 o1 3) < 4 then f_X5_takesStep_47 n M1 o1 0 else some (0, M1))
set_option maxHeartbeats 4000000 in
set_option maxRecDepth 100000 in
theorem t_X5_takesStep_0 {l : Launch} {p : Program} {e : Env} {s : State} {m : MethodId} {args : Array Value} {below : List Frame} {meth : Method} {c : Code} {E : xm_E} {a : Nat → Nat} (C : xm_C E (xv E a) p s m args meth c RX5 cX5_takesStep 4 (some .boolean)) {o1 : Nat} (h1 : xm_Pa o1) (n : Nat) (M : xm_M) (r : Int32) (M' : xm_M) : f_X5_takesStep n M o1 = some (r, M') → ∀ (H : Heap) (locs : List Loc) (ls : Array Slot), va_P E.1 vwCl (xm_w (xv E a) M) H → va_S (xm_A (xv E a) s.heap.size) s.heap H locs → lv_has ls 4 [(0, .ref (a 6)), (1, .ref (a o1))] → W p l e { frames := 5, cells := 0, slots := 0, locals := 107 } s m args below meth c H locs 0 0 (MQ below (xm_Q E (xv E a) M' s.heap.size (some r)) args s 0 0 (xm_A (xv E a) s.heap.size)) (F0 m 0 ls []) := by
  have C9 := C
  obtain ⟨hx, hb, hml, hown, hts, hr, hlk, hD, hK, hS9⟩ := C9
  intro h H locs ls hP hS hl
  unfold f_X5_takesStep at h
  refine lv_aload_n hx hb dX5_takesStep_0 rfl (lv_at hl 0 rfl) ?_
  obtain ⟨r2, M1, e3, h⟩ := xm_b2_s h
  refine xm_callV C hP hS [] [] (c_X5_next hD  n M  r2 M1 e3) k_X5_64 (xm_recv C hP 6 rfl (Nat.le_of_ble_eq_true rfl) ((xe_6 E a) _)) rfl rfl ⟨(Nat.le_of_ble_eq_true rfl), (Nat.le_of_ble_eq_true rfl)⟩ hl.1 (Nat.le_of_ble_eq_true rfl) ⟨Nat.zero_le _, Nat.zero_le _⟩ dX5_takesStep_1 (fun H locs hP hS => ?_)
  change W p l e _ s m _ below meth c H locs 0 0 _ (F0 m 4 ls [.int r2])
  refine lv_bipush (v := 110) hx hb dX5_takesStep_4 (by decide) ?_
  refine lv_icmp_ne (tgt := 13) hx hb dX5_takesStep_6 (by decide) (fun c4 => ?_) (fun c4 => ?_)
  · rw [if_neg c4] at h
    refine lv_iconst (v := 0) hx hb dX5_takesStep_13 (by decide) ?_
    refine lv_istore_n (lv' := [(2, .int 0), (0, .ref (a 6)), (1, .ref (a o1))]) hx hb dX5_takesStep_14 rfl hl (by decide) rfl (fun ls hl => ?_)
    refine lv_iload_n hx hb dX5_takesStep_15 rfl (lv_at hl 0 rfl) ?_
    refine lv_if_eq (tgt := 37) hx hb dX5_takesStep_16 (by decide) (fun _ => ?_) (fun c => absurd (by decide) c)
    refine lv_aload_n hx hb dX5_takesStep_37 rfl (lv_at hl 2 rfl) ?_
    refine xm_getN (V := (xv E a)) (T := TX2) (v := .int (M1 o1 3)) C hP o1 3 xi_2 rfl l_X5_86 rfl (xp_lt h1 0 (by omega)) ((xp_0 h1 E a) _) (Nat.le_of_ble_eq_true rfl) rfl dX5_takesStep_38 ?_
    refine lv_iconst (v := 4) hx hb dX5_takesStep_41 (by decide) ?_
    refine lv_icmp_lt (tgt := 47) hx hb dX5_takesStep_42 (by decide) (fun c5 => ?_) (fun c5 => ?_)
    · rw [if_pos c5] at h
      exact t_X5_takesStep_47 C h1 n M1 0 r M' h _ _ _ hP hS (lv_sub hl [1, 2, 0] rfl)
    · rw [if_neg c5] at h
      refine lv_iconst (v := 0) hx hb dX5_takesStep_45 (by decide) ?_
      obtain ⟨rfl, rfl⟩ := xm_pr h
      exact xm_retZ C hP hS (by rfl) dX5_takesStep_46
  · rw [if_pos c4] at h
    refine lv_iconst (v := 1) hx hb dX5_takesStep_9 (by decide) ?_
    refine lv_goto (tgt := 14) hx hb dX5_takesStep_10 (by decide) ?_
    refine lv_istore_n (lv' := [(2, .int 1), (0, .ref (a 6)), (1, .ref (a o1))]) hx hb dX5_takesStep_14 rfl hl (by decide) rfl (fun ls hl => ?_)
    refine lv_iload_n hx hb dX5_takesStep_15 rfl (lv_at hl 0 rfl) ?_
    refine lv_if_eq (tgt := 37) hx hb dX5_takesStep_16 (by decide) (fun c => absurd c (by decide)) (fun _ => ?_)
    refine lv_aload_n hx hb dX5_takesStep_19 rfl (lv_at hl 2 rfl) ?_
    obtain ⟨r7, M6, e8, h⟩ := xm_b2_s h
    refine xm_callVN C hP hS [] [] (c_X2_endsWithPlainStep hD h1 n M1  r7 M6 e8) k_X5_75 (xm_recv C hP o1 rfl (xp_lt h1 0 (by omega)) ((xp_0 h1 E a) _)) rfl rfl ⟨(Nat.le_of_ble_eq_true rfl), (Nat.le_of_ble_eq_true rfl)⟩ hl.1 (Nat.le_of_ble_eq_true rfl) ⟨Nat.zero_le _, Nat.zero_le _⟩ dX5_takesStep_20 (fun H locs hP hS => ?_)
    change W p l e _ s m _ below meth c H locs 0 0 _ (F0 m 23 ls [.int r7])
    refine lv_if_eq (tgt := 35) hx hb dX5_takesStep_23 (by decide) (fun c9 => ?_) (fun c9 => ?_)
    · rw [if_pos c9] at h
      refine lv_iconst (v := 0) hx hb dX5_takesStep_35 (by decide) ?_
      obtain ⟨rfl, rfl⟩ := xm_pr h
      exact xm_retZ C hP hS (by rfl) dX5_takesStep_36
    · rw [if_neg c9] at h
      refine lv_aload_n hx hb dX5_takesStep_26 rfl (lv_at hl 1 rfl) ?_
      refine va_ldcS hx hb hown (C.2.2.2.2.2.2.2.2.1.2.2.1 4 (by omega)) dX5_takesStep_27 ?_
      obtain ⟨r11, M10, e12, h⟩ := xm_b2_s h
      refine xm_callV C hP hS [.ref (E.2.2.1 4)] [] (c_X5_takesWord hD (by omega) n M6  r11 M10 e12) k_X5_29 (xm_recv C hP 6 rfl (Nat.le_of_ble_eq_true rfl) ((xe_6 E a) _)) rfl rfl ⟨(Nat.le_of_ble_eq_true rfl), (Nat.le_of_ble_eq_true rfl)⟩ hl.1 (Nat.le_of_ble_eq_true rfl) ⟨Nat.zero_le _, Nat.zero_le _⟩ dX5_takesStep_29 (fun H locs hP hS => ?_)
      change W p l e _ s m _ below meth c H locs 0 0 _ (F0 m 32 ls [.int r11])
      refine lv_if_ne (tgt := 47) hx hb dX5_takesStep_32 (by decide) (fun c13 => ?_) (fun c13 => ?_)
      · rw [if_neg c13] at h
        exact t_X5_takesStep_47 C h1 n M10 1 r M' h _ _ _ hP hS (lv_sub hl [1, 2, 0] rfl)
      · rw [if_pos c13] at h
        refine lv_iconst (v := 0) hx hb dX5_takesStep_35 (by decide) ?_
        obtain ⟨rfl, rfl⟩ := xm_pr h
        exact xm_retZ C hP hS (by rfl) dX5_takesStep_36
theorem c_X5_takesStep {l : Launch} {E : xm_E} {a : Nat → Nat} (hD : xm_D (xv E a)) {o1 : Nat} (h1 : xm_Pa o1) (n : Nat) (M : xm_M) (r : Int32) (M' : xm_M) (h : f_X5_takesStep n M o1 = some (r, M')) : xm_Met l E (xv E a) yX5_takesStep cX5_takesStep 4 (some .boolean) 5 107 [.ref (a 6), .ref (a o1)] M M' (some r) :=
  xm_met (by decide +kernel) rfl (Nat.le_of_ble_eq_true rfl) hD (fun p e s m below meth c C hP ls hl => t_X5_takesStep_0 C h1 n M r M' h _ _ _ hP va_S.rf hl)
def f_X5_takesSteps_2 : Nat → xm_M → Nat → Int32 → Option (Int32 × xm_M)
  | 0, _, _, _ => none
  | n + 1, M, o1, x2 => if (8 : Int32) < x2 then some (0, M) else xm_b2 (f_X5_takesStep n M o1) (fun r3 M2 => if r3 = 0 then some (0, M2) else if (M2 6 2) < (M2 6 1) then xm_b2 (f_X5_takesWord n M2 5) (fun r8 M7 => if r8 = 0 then some (0, M7) else f_X5_takesSteps_2 n M7 o1 (x2 + 1)) else xm_b2 (f_X2_endsWithPlainStep n M2 o1) (fun r12 M11 => if r12 = 0 then some (0, M11) else if (M11 o1 2) ≤ 1 then some (0, M11) else some (1, M11)))
set_option maxHeartbeats 4000000 in
set_option maxRecDepth 100000 in
theorem t_X5_takesSteps_2 {l : Launch} {p : Program} {e : Env} {s : State} {m : MethodId} {args : Array Value} {below : List Frame} {meth : Method} {c : Code} {E : xm_E} {a : Nat → Nat} (C : xm_C E (xv E a) p s m args meth c RX5 cX5_takesSteps 3 (some .boolean)) {o1 : Nat} (h1 : xm_Pa o1) : ∀ (n : Nat) (M : xm_M) (x2 : Int32) (r : Int32) (M' : xm_M), f_X5_takesSteps_2 n M o1 x2 = some (r, M') → ∀ (H : Heap) (locs : List Loc) (ls : Array Slot), va_P E.1 vwCl (xm_w (xv E a) M) H → va_S (xm_A (xv E a) s.heap.size) s.heap H locs → lv_has ls 3 [(0, .ref (a 6)), (1, .ref (a o1)), (2, .int x2)] → W p l e { frames := 6, cells := 0, slots := 0, locals := 130 } s m args below meth c H locs 0 0 (MQ below (xm_Q E (xv E a) M' s.heap.size (some r)) args s 0 0 (xm_A (xv E a) s.heap.size)) (F0 m 2 ls []) := by
  have C9 := C
  obtain ⟨hx, hb, hml, hown, hts, hr, hlk, hD, hK, hS9⟩ := C9
  intro n
  induction n with
  | zero =>
    intro M x2 r M' h
    cases h
  | succ n ih =>
    intro M x2 r M' h H locs ls hP hS hl
    rw [f_X5_takesSteps_2] at h
    refine lv_iload_n hx hb dX5_takesSteps_2 rfl (lv_at hl 2 rfl) ?_
    refine lv_bipush (v := 8) hx hb dX5_takesSteps_3 (by decide) ?_
    refine lv_icmp_gt (tgt := 67) hx hb dX5_takesSteps_5 (by decide) (fun c1 => ?_) (fun c1 => ?_)
    · rw [if_pos c1] at h
      refine lv_iconst (v := 0) hx hb dX5_takesSteps_67 (by decide) ?_
      obtain ⟨rfl, rfl⟩ := xm_pr h
      exact xm_retZ C hP hS (by rfl) dX5_takesSteps_68
    · rw [if_neg c1] at h
      refine lv_aload_n hx hb dX5_takesSteps_8 rfl (lv_at hl 0 rfl) ?_
      refine lv_aload_n hx hb dX5_takesSteps_9 rfl (lv_at hl 1 rfl) ?_
      obtain ⟨r3, M2, e4, h⟩ := xm_b2_s h
      refine xm_callV C hP hS [.ref (a o1)] [] (c_X5_takesStep hD h1 n M  r3 M2 e4) k_X5_72 (xm_recv C hP 6 rfl (Nat.le_of_ble_eq_true rfl) ((xe_6 E a) _)) rfl rfl ⟨(Nat.le_of_ble_eq_true rfl), (Nat.le_of_ble_eq_true rfl)⟩ hl.1 (Nat.le_of_ble_eq_true rfl) ⟨Nat.zero_le _, Nat.zero_le _⟩ dX5_takesSteps_10 (fun H locs hP hS => ?_)
      change W p l e _ s m _ below meth c H locs 0 0 _ (F0 m 13 ls [.int r3])
      refine lv_if_ne (tgt := 18) hx hb dX5_takesSteps_13 (by decide) (fun c5 => ?_) (fun c5 => ?_)
      · rw [if_neg c5] at h
        refine lv_aload_n hx hb dX5_takesSteps_18 rfl (lv_at hl 0 rfl) ?_
        refine xm_get (V := (xv E a)) (T := TX5) (v := .int (M2 6 2)) C hP 6 2 xi_5 rfl l_X5_19 rfl (Nat.le_of_ble_eq_true rfl) ((xe_6 E a) _) (Nat.le_of_ble_eq_true rfl) rfl dX5_takesSteps_19 ?_
        refine lv_aload_n hx hb dX5_takesSteps_22 rfl (lv_at hl 0 rfl) ?_
        refine xm_get (V := (xv E a)) (T := TX5) (v := .int (M2 6 1)) C hP 6 1 xi_5 rfl l_X5_15 rfl (Nat.le_of_ble_eq_true rfl) ((xe_6 E a) _) (Nat.le_of_ble_eq_true rfl) rfl dX5_takesSteps_23 ?_
        refine lv_icmp_lt (tgt := 50) hx hb dX5_takesSteps_26 (by decide) (fun c6 => ?_) (fun c6 => ?_)
        · rw [if_pos c6] at h
          refine lv_aload_n hx hb dX5_takesSteps_50 rfl (lv_at hl 0 rfl) ?_
          refine va_ldcS hx hb hown (C.2.2.2.2.2.2.2.2.1.2.2.1 5 (by omega)) dX5_takesSteps_51 ?_
          obtain ⟨r8, M7, e9, h⟩ := xm_b2_s h
          refine xm_callV C hP hS [.ref (E.2.2.1 5)] [] (c_X5_takesWord hD (by omega) n M2  r8 M7 e9) k_X5_29 (xm_recv C hP 6 rfl (Nat.le_of_ble_eq_true rfl) ((xe_6 E a) _)) rfl rfl ⟨(Nat.le_of_ble_eq_true rfl), (Nat.le_of_ble_eq_true rfl)⟩ hl.1 (Nat.le_of_ble_eq_true rfl) ⟨Nat.zero_le _, Nat.zero_le _⟩ dX5_takesSteps_53 (fun H locs hP hS => ?_)
          change W p l e _ s m _ below meth c H locs 0 0 _ (F0 m 56 ls [.int r8])
          refine lv_if_ne (tgt := 61) hx hb dX5_takesSteps_56 (by decide) (fun c10 => ?_) (fun c10 => ?_)
          · rw [if_neg c10] at h
            refine lv_iinc (v := x2 + 1) (lv' := [(2, .int (x2 + 1)), (0, .ref (a 6)), (1, .ref (a o1))]) hx hb dX5_takesSteps_61 hl (k := 2) rfl (xm_add (by decide)) (by decide) rfl (fun ls hl => ?_)
            refine lv_goto (tgt := 2) hx hb dX5_takesSteps_64 (by decide) ?_
            exact ih M7 (x2 + 1) r M' h _ _ _ hP hS (lv_sub hl [1, 2, 0] rfl)
          · rw [if_pos c10] at h
            refine lv_iconst (v := 0) hx hb dX5_takesSteps_59 (by decide) ?_
            obtain ⟨rfl, rfl⟩ := xm_pr h
            exact xm_retZ C hP hS (by rfl) dX5_takesSteps_60
        · rw [if_neg c6] at h
          refine lv_aload_n hx hb dX5_takesSteps_29 rfl (lv_at hl 1 rfl) ?_
          obtain ⟨r12, M11, e13, h⟩ := xm_b2_s h
          refine xm_callVN C hP hS [] [] (c_X2_endsWithPlainStep hD h1 n M2  r12 M11 e13) k_X5_75 (xm_recv C hP o1 rfl (xp_lt h1 0 (by omega)) ((xp_0 h1 E a) _)) rfl rfl ⟨(Nat.le_of_ble_eq_true rfl), (Nat.le_of_ble_eq_true rfl)⟩ hl.1 (Nat.le_of_ble_eq_true rfl) ⟨Nat.zero_le _, Nat.zero_le _⟩ dX5_takesSteps_30 (fun H locs hP hS => ?_)
          change W p l e _ s m _ below meth c H locs 0 0 _ (F0 m 33 ls [.int r12])
          refine lv_if_eq (tgt := 48) hx hb dX5_takesSteps_33 (by decide) (fun c14 => ?_) (fun c14 => ?_)
          · rw [if_pos c14] at h
            refine lv_iconst (v := 0) hx hb dX5_takesSteps_48 (by decide) ?_
            obtain ⟨rfl, rfl⟩ := xm_pr h
            exact xm_retZ C hP hS (by rfl) dX5_takesSteps_49
          · rw [if_neg c14] at h
            refine lv_aload_n hx hb dX5_takesSteps_36 rfl (lv_at hl 1 rfl) ?_
            refine xm_getN (V := (xv E a)) (T := TX2) (v := .int (M11 o1 2)) C hP o1 2 xi_2 rfl l_X5_79 rfl (xp_lt h1 0 (by omega)) ((xp_0 h1 E a) _) (Nat.le_of_ble_eq_true rfl) rfl dX5_takesSteps_37 ?_
            refine lv_iconst (v := 1) hx hb dX5_takesSteps_40 (by decide) ?_
            refine lv_icmp_le (tgt := 48) hx hb dX5_takesSteps_41 (by decide) (fun c15 => ?_) (fun c15 => ?_)
            · rw [if_pos c15] at h
              refine lv_iconst (v := 0) hx hb dX5_takesSteps_48 (by decide) ?_
              obtain ⟨rfl, rfl⟩ := xm_pr h
              exact xm_retZ C hP hS (by rfl) dX5_takesSteps_49
            · rw [if_neg c15] at h
              refine lv_iconst (v := 1) hx hb dX5_takesSteps_44 (by decide) ?_
              refine lv_goto (tgt := 49) hx hb dX5_takesSteps_45 (by decide) ?_
              obtain ⟨rfl, rfl⟩ := xm_pr h
              exact xm_retZ C hP hS (by rfl) dX5_takesSteps_49
      · rw [if_pos c5] at h
        refine lv_iconst (v := 0) hx hb dX5_takesSteps_16 (by decide) ?_
        obtain ⟨rfl, rfl⟩ := xm_pr h
        exact xm_retZ C hP hS (by rfl) dX5_takesSteps_17
def f_X5_takesSteps (n : Nat) (M : xm_M) (o1 : Nat) : Option (Int32 × xm_M) := f_X5_takesSteps_2 n M o1 0
set_option maxHeartbeats 4000000 in
set_option maxRecDepth 100000 in
theorem t_X5_takesSteps_0 {l : Launch} {p : Program} {e : Env} {s : State} {m : MethodId} {args : Array Value} {below : List Frame} {meth : Method} {c : Code} {E : xm_E} {a : Nat → Nat} (C : xm_C E (xv E a) p s m args meth c RX5 cX5_takesSteps 3 (some .boolean)) {o1 : Nat} (h1 : xm_Pa o1) (n : Nat) (M : xm_M) (r : Int32) (M' : xm_M) : f_X5_takesSteps n M o1 = some (r, M') → ∀ (H : Heap) (locs : List Loc) (ls : Array Slot), va_P E.1 vwCl (xm_w (xv E a) M) H → va_S (xm_A (xv E a) s.heap.size) s.heap H locs → lv_has ls 3 [(0, .ref (a 6)), (1, .ref (a o1))] → W p l e { frames := 6, cells := 0, slots := 0, locals := 130 } s m args below meth c H locs 0 0 (MQ below (xm_Q E (xv E a) M' s.heap.size (some r)) args s 0 0 (xm_A (xv E a) s.heap.size)) (F0 m 0 ls []) := by
  have C9 := C
  obtain ⟨hx, hb, hml, hown, hts, hr, hlk, hD, hK, hS9⟩ := C9
  intro h H locs ls hP hS hl
  unfold f_X5_takesSteps at h
  refine lv_iconst (v := 0) hx hb dX5_takesSteps_0 (by decide) ?_
  refine lv_istore_n (lv' := [(2, .int 0), (0, .ref (a 6)), (1, .ref (a o1))]) hx hb dX5_takesSteps_1 rfl hl (by decide) rfl (fun ls hl => ?_)
  exact t_X5_takesSteps_2 C h1 n M 0 r M' h _ _ _ hP hS (lv_sub hl [1, 2, 0] rfl)
theorem c_X5_takesSteps {l : Launch} {E : xm_E} {a : Nat → Nat} (hD : xm_D (xv E a)) {o1 : Nat} (h1 : xm_Pa o1) (n : Nat) (M : xm_M) (r : Int32) (M' : xm_M) (h : f_X5_takesSteps n M o1 = some (r, M')) : xm_Met l E (xv E a) yX5_takesSteps cX5_takesSteps 3 (some .boolean) 6 130 [.ref (a 6), .ref (a o1)] M M' (some r) :=
  xm_met (by decide +kernel) rfl (Nat.le_of_ble_eq_true rfl) hD (fun p e s m below meth c C hP ls hl => t_X5_takesSteps_0 C h1 n M r M' h _ _ _ hP va_S.rf hl)
def f_X5_readInto (n : Nat) (M : xm_M) (o1 : Nat) : Option (Int32 × xm_M) := xm_lt (xm_up M 6 2 0) (fun M1 => xm_b1 (f_X2_clearSteps n M1 o1) (fun M3 => xm_b2 (f_X5_takesWord n M3 0) (fun r7 M6 => if r7 = 0 then some (M6 6 2, M6) else xm_b2 (f_X5_takesWindow n M6 o1) (fun r11 M10 => if r11 = 0 then some (M10 6 2, M10) else xm_b2 (f_X5_takesWord n M10 1) (fun r15 M14 => if r15 = 0 then some (M14 6 2, M14) else xm_b2 (f_X5_takesRule n M14 o1) (fun r19 M18 => if r19 = 0 then some (M18 6 2, M18) else xm_b2 (f_X5_takesSteps n M18 o1) (fun r23 M22 => if r23 = 0 then some (M22 6 2, M22) else some ((-1), M22))))))))
set_option maxHeartbeats 4000000 in
set_option maxRecDepth 100000 in
theorem t_X5_readInto_0 {l : Launch} {p : Program} {e : Env} {s : State} {m : MethodId} {args : Array Value} {below : List Frame} {meth : Method} {c : Code} {E : xm_E} {a : Nat → Nat} (C : xm_C E (xv E a) p s m args meth c RX5 cX5_readInto 3 (some .int)) {o1 : Nat} (h1 : xm_Pa o1) (n : Nat) (M : xm_M) (r : Int32) (M' : xm_M) : f_X5_readInto n M o1 = some (r, M') → ∀ (H : Heap) (locs : List Loc) (ls : Array Slot), va_P E.1 vwCl (xm_w (xv E a) M) H → va_S (xm_A (xv E a) s.heap.size) s.heap H locs → lv_has ls 3 [(0, .ref (a 6)), (1, .ref (a o1))] → W p l e { frames := 7, cells := 0, slots := 0, locals := 152 } s m args below meth c H locs 0 0 (MQ below (xm_Q E (xv E a) M' s.heap.size (some r)) args s 0 0 (xm_A (xv E a) s.heap.size)) (F0 m 0 ls []) := by
  have C9 := C
  obtain ⟨hx, hb, hml, hown, hts, hr, hlk, hD, hK, hS9⟩ := C9
  intro h H locs ls hP hS hl
  unfold f_X5_readInto at h
  refine lv_aload_n hx hb dX5_readInto_0 rfl (lv_at hl 0 rfl) ?_
  refine lv_iconst (v := 0) hx hb dX5_readInto_1 (by decide) ?_
  obtain ⟨M1, e2, h⟩ := xm_lt_s h
  refine xm_put (V := (xv E a)) (T := TX5) (ty := .int) (x := 0) C hP hS 6 2 xi_5 rfl l_X5_19 rfl tyX5_ok nmX5 (Nat.le_of_ble_eq_true rfl) ((xe_6 E a) _) (Nat.le_of_ble_eq_true rfl) rfl (by decide +kernel) rfl rfl (Nat.le_of_ble_eq_true rfl) ((xe_6 E a) _) dX5_readInto_2 (fun H locs hP hS => ?_)
  rw [← e2] at hP
  refine lv_aload_n hx hb dX5_readInto_5 rfl (lv_at hl 1 rfl) ?_
  obtain ⟨M3, e5, h⟩ := xm_b1_s h
  refine xm_callVN C hP hS [] [] (c_X2_clearSteps hD h1 n M1  M3 e5) k_X5_22 (xm_recv C hP o1 rfl (xp_lt h1 0 (by omega)) ((xp_0 h1 E a) _)) rfl rfl ⟨(Nat.le_of_ble_eq_true rfl), (Nat.le_of_ble_eq_true rfl)⟩ hl.1 (Nat.le_of_ble_eq_true rfl) ⟨Nat.zero_le _, Nat.zero_le _⟩ dX5_readInto_6 (fun H locs hP hS => ?_)
  change W p l e _ s m _ below meth c H locs 0 0 _ (F0 m 9 ls [])
  refine lv_aload_n hx hb dX5_readInto_9 rfl (lv_at hl 0 rfl) ?_
  refine va_ldcS hx hb hown (C.2.2.2.2.2.2.2.2.1.2.2.1 0 (by omega)) dX5_readInto_10 ?_
  obtain ⟨r7, M6, e8, h⟩ := xm_b2_s h
  refine xm_callV C hP hS [.ref (E.2.2.1 0)] [] (c_X5_takesWord hD (by omega) n M3  r7 M6 e8) k_X5_29 (xm_recv C hP 6 rfl (Nat.le_of_ble_eq_true rfl) ((xe_6 E a) _)) rfl rfl ⟨(Nat.le_of_ble_eq_true rfl), (Nat.le_of_ble_eq_true rfl)⟩ hl.1 (Nat.le_of_ble_eq_true rfl) ⟨Nat.zero_le _, Nat.zero_le _⟩ dX5_readInto_12 (fun H locs hP hS => ?_)
  change W p l e _ s m _ below meth c H locs 0 0 _ (F0 m 15 ls [.int r7])
  refine lv_if_eq (tgt := 55) hx hb dX5_readInto_15 (by decide) (fun c9 => ?_) (fun c9 => ?_)
  · rw [if_pos c9] at h
    refine lv_iconst (v := 0) hx hb dX5_readInto_55 (by decide) ?_
    refine lv_istore_n (lv' := [(2, .int 0), (0, .ref (a 6)), (1, .ref (a o1))]) hx hb dX5_readInto_56 rfl hl (by decide) rfl (fun ls hl => ?_)
    refine lv_iload_n hx hb dX5_readInto_57 rfl (lv_at hl 0 rfl) ?_
    refine lv_if_eq (tgt := 65) hx hb dX5_readInto_58 (by decide) (fun _ => ?_) (fun c => absurd (by decide) c)
    refine lv_aload_n hx hb dX5_readInto_65 rfl (lv_at hl 1 rfl) ?_
    refine xm_get (V := (xv E a)) (T := TX5) (v := .int (M6 6 2)) C hP 6 2 xi_5 rfl l_X5_19 rfl (Nat.le_of_ble_eq_true rfl) ((xe_6 E a) _) (Nat.le_of_ble_eq_true rfl) rfl dX5_readInto_66 ?_
    obtain ⟨rfl, rfl⟩ := xm_pr h
    exact xm_retI C hP hS dX5_readInto_69
  · rw [if_neg c9] at h
    refine lv_aload_n hx hb dX5_readInto_18 rfl (lv_at hl 0 rfl) ?_
    refine lv_aload_n hx hb dX5_readInto_19 rfl (lv_at hl 1 rfl) ?_
    obtain ⟨r11, M10, e12, h⟩ := xm_b2_s h
    refine xm_callV C hP hS [.ref (a o1)] [] (c_X5_takesWindow hD h1 n M6  r11 M10 e12) k_X5_33 (xm_recv C hP 6 rfl (Nat.le_of_ble_eq_true rfl) ((xe_6 E a) _)) rfl rfl ⟨(Nat.le_of_ble_eq_true rfl), (Nat.le_of_ble_eq_true rfl)⟩ hl.1 (Nat.le_of_ble_eq_true rfl) ⟨Nat.zero_le _, Nat.zero_le _⟩ dX5_readInto_20 (fun H locs hP hS => ?_)
    change W p l e _ s m _ below meth c H locs 0 0 _ (F0 m 23 ls [.int r11])
    refine lv_if_eq (tgt := 55) hx hb dX5_readInto_23 (by decide) (fun c13 => ?_) (fun c13 => ?_)
    · rw [if_pos c13] at h
      refine lv_iconst (v := 0) hx hb dX5_readInto_55 (by decide) ?_
      refine lv_istore_n (lv' := [(2, .int 0), (0, .ref (a 6)), (1, .ref (a o1))]) hx hb dX5_readInto_56 rfl hl (by decide) rfl (fun ls hl => ?_)
      refine lv_iload_n hx hb dX5_readInto_57 rfl (lv_at hl 0 rfl) ?_
      refine lv_if_eq (tgt := 65) hx hb dX5_readInto_58 (by decide) (fun _ => ?_) (fun c => absurd (by decide) c)
      refine lv_aload_n hx hb dX5_readInto_65 rfl (lv_at hl 1 rfl) ?_
      refine xm_get (V := (xv E a)) (T := TX5) (v := .int (M10 6 2)) C hP 6 2 xi_5 rfl l_X5_19 rfl (Nat.le_of_ble_eq_true rfl) ((xe_6 E a) _) (Nat.le_of_ble_eq_true rfl) rfl dX5_readInto_66 ?_
      obtain ⟨rfl, rfl⟩ := xm_pr h
      exact xm_retI C hP hS dX5_readInto_69
    · rw [if_neg c13] at h
      refine lv_aload_n hx hb dX5_readInto_26 rfl (lv_at hl 0 rfl) ?_
      refine va_ldcS hx hb hown (C.2.2.2.2.2.2.2.2.1.2.2.1 1 (by omega)) dX5_readInto_27 ?_
      obtain ⟨r15, M14, e16, h⟩ := xm_b2_s h
      refine xm_callV C hP hS [.ref (E.2.2.1 1)] [] (c_X5_takesWord hD (by omega) n M10  r15 M14 e16) k_X5_29 (xm_recv C hP 6 rfl (Nat.le_of_ble_eq_true rfl) ((xe_6 E a) _)) rfl rfl ⟨(Nat.le_of_ble_eq_true rfl), (Nat.le_of_ble_eq_true rfl)⟩ hl.1 (Nat.le_of_ble_eq_true rfl) ⟨Nat.zero_le _, Nat.zero_le _⟩ dX5_readInto_29 (fun H locs hP hS => ?_)
      change W p l e _ s m _ below meth c H locs 0 0 _ (F0 m 32 ls [.int r15])
      refine lv_if_eq (tgt := 55) hx hb dX5_readInto_32 (by decide) (fun c17 => ?_) (fun c17 => ?_)
      · rw [if_pos c17] at h
        refine lv_iconst (v := 0) hx hb dX5_readInto_55 (by decide) ?_
        refine lv_istore_n (lv' := [(2, .int 0), (0, .ref (a 6)), (1, .ref (a o1))]) hx hb dX5_readInto_56 rfl hl (by decide) rfl (fun ls hl => ?_)
        refine lv_iload_n hx hb dX5_readInto_57 rfl (lv_at hl 0 rfl) ?_
        refine lv_if_eq (tgt := 65) hx hb dX5_readInto_58 (by decide) (fun _ => ?_) (fun c => absurd (by decide) c)
        refine lv_aload_n hx hb dX5_readInto_65 rfl (lv_at hl 1 rfl) ?_
        refine xm_get (V := (xv E a)) (T := TX5) (v := .int (M14 6 2)) C hP 6 2 xi_5 rfl l_X5_19 rfl (Nat.le_of_ble_eq_true rfl) ((xe_6 E a) _) (Nat.le_of_ble_eq_true rfl) rfl dX5_readInto_66 ?_
        obtain ⟨rfl, rfl⟩ := xm_pr h
        exact xm_retI C hP hS dX5_readInto_69
      · rw [if_neg c17] at h
        refine lv_aload_n hx hb dX5_readInto_35 rfl (lv_at hl 0 rfl) ?_
        refine lv_aload_n hx hb dX5_readInto_36 rfl (lv_at hl 1 rfl) ?_
        obtain ⟨r19, M18, e20, h⟩ := xm_b2_s h
        refine xm_callV C hP hS [.ref (a o1)] [] (c_X5_takesRule hD h1 n M14  r19 M18 e20) k_X5_39 (xm_recv C hP 6 rfl (Nat.le_of_ble_eq_true rfl) ((xe_6 E a) _)) rfl rfl ⟨(Nat.le_of_ble_eq_true rfl), (Nat.le_of_ble_eq_true rfl)⟩ hl.1 (Nat.le_of_ble_eq_true rfl) ⟨Nat.zero_le _, Nat.zero_le _⟩ dX5_readInto_37 (fun H locs hP hS => ?_)
        change W p l e _ s m _ below meth c H locs 0 0 _ (F0 m 40 ls [.int r19])
        refine lv_if_eq (tgt := 55) hx hb dX5_readInto_40 (by decide) (fun c21 => ?_) (fun c21 => ?_)
        · rw [if_pos c21] at h
          refine lv_iconst (v := 0) hx hb dX5_readInto_55 (by decide) ?_
          refine lv_istore_n (lv' := [(2, .int 0), (0, .ref (a 6)), (1, .ref (a o1))]) hx hb dX5_readInto_56 rfl hl (by decide) rfl (fun ls hl => ?_)
          refine lv_iload_n hx hb dX5_readInto_57 rfl (lv_at hl 0 rfl) ?_
          refine lv_if_eq (tgt := 65) hx hb dX5_readInto_58 (by decide) (fun _ => ?_) (fun c => absurd (by decide) c)
          refine lv_aload_n hx hb dX5_readInto_65 rfl (lv_at hl 1 rfl) ?_
          refine xm_get (V := (xv E a)) (T := TX5) (v := .int (M18 6 2)) C hP 6 2 xi_5 rfl l_X5_19 rfl (Nat.le_of_ble_eq_true rfl) ((xe_6 E a) _) (Nat.le_of_ble_eq_true rfl) rfl dX5_readInto_66 ?_
          obtain ⟨rfl, rfl⟩ := xm_pr h
          exact xm_retI C hP hS dX5_readInto_69
        · rw [if_neg c21] at h
          refine lv_aload_n hx hb dX5_readInto_43 rfl (lv_at hl 0 rfl) ?_
          refine lv_aload_n hx hb dX5_readInto_44 rfl (lv_at hl 1 rfl) ?_
          obtain ⟨r23, M22, e24, h⟩ := xm_b2_s h
          refine xm_callV C hP hS [.ref (a o1)] [] (c_X5_takesSteps hD h1 n M18  r23 M22 e24) k_X5_42 (xm_recv C hP 6 rfl (Nat.le_of_ble_eq_true rfl) ((xe_6 E a) _)) rfl rfl ⟨(Nat.le_of_ble_eq_true rfl), (Nat.le_of_ble_eq_true rfl)⟩ hl.1 (Nat.le_of_ble_eq_true rfl) ⟨Nat.zero_le _, Nat.zero_le _⟩ dX5_readInto_45 (fun H locs hP hS => ?_)
          change W p l e _ s m _ below meth c H locs 0 0 _ (F0 m 48 ls [.int r23])
          refine lv_if_eq (tgt := 55) hx hb dX5_readInto_48 (by decide) (fun c25 => ?_) (fun c25 => ?_)
          · rw [if_pos c25] at h
            refine lv_iconst (v := 0) hx hb dX5_readInto_55 (by decide) ?_
            refine lv_istore_n (lv' := [(2, .int 0), (0, .ref (a 6)), (1, .ref (a o1))]) hx hb dX5_readInto_56 rfl hl (by decide) rfl (fun ls hl => ?_)
            refine lv_iload_n hx hb dX5_readInto_57 rfl (lv_at hl 0 rfl) ?_
            refine lv_if_eq (tgt := 65) hx hb dX5_readInto_58 (by decide) (fun _ => ?_) (fun c => absurd (by decide) c)
            refine lv_aload_n hx hb dX5_readInto_65 rfl (lv_at hl 1 rfl) ?_
            refine xm_get (V := (xv E a)) (T := TX5) (v := .int (M22 6 2)) C hP 6 2 xi_5 rfl l_X5_19 rfl (Nat.le_of_ble_eq_true rfl) ((xe_6 E a) _) (Nat.le_of_ble_eq_true rfl) rfl dX5_readInto_66 ?_
            obtain ⟨rfl, rfl⟩ := xm_pr h
            exact xm_retI C hP hS dX5_readInto_69
          · rw [if_neg c25] at h
            refine lv_iconst (v := 1) hx hb dX5_readInto_51 (by decide) ?_
            refine lv_goto (tgt := 56) hx hb dX5_readInto_52 (by decide) ?_
            refine lv_istore_n (lv' := [(2, .int 1), (0, .ref (a 6)), (1, .ref (a o1))]) hx hb dX5_readInto_56 rfl hl (by decide) rfl (fun ls hl => ?_)
            refine lv_iload_n hx hb dX5_readInto_57 rfl (lv_at hl 0 rfl) ?_
            refine lv_if_eq (tgt := 65) hx hb dX5_readInto_58 (by decide) (fun c => absurd c (by decide)) (fun _ => ?_)
            refine lv_iconst (v := (-1)) hx hb dX5_readInto_61 (by decide) ?_
            refine lv_goto (tgt := 69) hx hb dX5_readInto_62 (by decide) ?_
            obtain ⟨rfl, rfl⟩ := xm_pr h
            exact xm_retI C hP hS dX5_readInto_69
theorem c_X5_readInto {l : Launch} {E : xm_E} {a : Nat → Nat} (hD : xm_D (xv E a)) {o1 : Nat} (h1 : xm_Pa o1) (n : Nat) (M : xm_M) (r : Int32) (M' : xm_M) (h : f_X5_readInto n M o1 = some (r, M')) : xm_Met l E (xv E a) yX5_readInto cX5_readInto 3 (some .int) 7 152 [.ref (a 6), .ref (a o1)] M M' (some r) :=
  xm_met (by decide +kernel) rfl (Nat.le_of_ble_eq_true rfl) hD (fun p e s m below meth c C hP ls hl => t_X5_readInto_0 C h1 n M r M' h _ _ _ hP va_S.rf hl)
end
section
theorem k_X3_106 : xm_FV RX3 106 yX3_tellMatch cX3_tellMatch 1 none 0 := ⟨xm_tb_of (List.mem_of_getElem? (i := 311) (by decide +kernel)) rfl, xm_tb_of (List.mem_of_getElem? (i := 308) (by decide +kernel)) rfl, xm_tb_of (List.mem_of_getElem? (i := 310) (by decide +kernel)) rfl, xm_tb_sel (List.mem_of_getElem? (i := 8) (by decide +kernel)) rfl, xm_tb_of (List.mem_of_getElem? (i := 6) (by decide +kernel)) rfl, ⟨by decide +kernel, by decide +kernel, by decide +kernel⟩⟩
theorem k_X3_112 : xm_FV RX3 112 yX3_isInWindow cX3_isInWindow 3 (some .boolean) 2 := ⟨xm_tb_of (List.mem_of_getElem? (i := 315) (by decide +kernel)) rfl, xm_tb_of (List.mem_of_getElem? (i := 312) (by decide +kernel)) rfl, xm_tb_of (List.mem_of_getElem? (i := 314) (by decide +kernel)) rfl, xm_tb_sel (List.mem_of_getElem? (i := 9) (by decide +kernel)) rfl, xm_tb_of (List.mem_of_getElem? (i := 6) (by decide +kernel)) rfl, ⟨by decide +kernel, by decide +kernel, by decide +kernel⟩⟩
theorem k_X3_116 : xm_FV RX3 116 yX3_suits cX3_suits 4 (some .boolean) 2 := ⟨xm_tb_of (List.mem_of_getElem? (i := 319) (by decide +kernel)) rfl, xm_tb_of (List.mem_of_getElem? (i := 316) (by decide +kernel)) rfl, xm_tb_of (List.mem_of_getElem? (i := 318) (by decide +kernel)) rfl, xm_tb_sel (List.mem_of_getElem? (i := 10) (by decide +kernel)) rfl, xm_tb_of (List.mem_of_getElem? (i := 6) (by decide +kernel)) rfl, ⟨by decide +kernel, by decide +kernel, by decide +kernel⟩⟩
theorem k_X3_119 : xm_FV RX3 119 yX3_tellBranch cX3_tellBranch 2 none 1 := ⟨xm_tb_of (List.mem_of_getElem? (i := 323) (by decide +kernel)) rfl, xm_tb_of (List.mem_of_getElem? (i := 320) (by decide +kernel)) rfl, xm_tb_of (List.mem_of_getElem? (i := 322) (by decide +kernel)) rfl, xm_tb_sel (List.mem_of_getElem? (i := 11) (by decide +kernel)) rfl, xm_tb_of (List.mem_of_getElem? (i := 6) (by decide +kernel)) rfl, ⟨by decide +kernel, by decide +kernel, by decide +kernel⟩⟩
theorem k_X3_94 : xm_FS RX3 94 yX3_walkFrom cX3_walkFrom 7 (some .int) 2 := ⟨xm_tb_of (List.mem_of_getElem? (i := 307) (by decide +kernel)) rfl, xm_tb_of (List.mem_of_getElem? (i := 305) (by decide +kernel)) rfl, xm_tb_of (List.mem_of_getElem? (i := 306) (by decide +kernel)) rfl, xm_tb_of (List.mem_of_getElem? (i := 6) (by decide +kernel)) rfl, ⟨by decide +kernel, by decide +kernel, by decide +kernel⟩⟩
def f_X3_walkFrom_S : Nat → Nat → xm_M → Int32 → Int32 → Int32 → Option (Int32 × xm_M)
  | 0, _, _, _, _, _ => none
  | n + 1, 0, M, x1, x3, x5 => if (M 8 8) ≤ x1 then xm_b1 (f_X3_tellMatch n M) (fun M2 => some (1, M2)) else if x1 < 4 then if x1 = 0 then f_X3_walkFrom_S n 1 M x1 0 0 else xm_ck (xm_in (x1 - 1) 4) (f_X3_walkFrom_S n 1 M x1 0 ((M 11 (x1 - 1).toNatClampNeg) + 1)) else xm_b1 (f_X3_tellMatch n M) (fun M8 => some (1, M8))
  | n + 1, _ + 1, M, x1, x3, x5 => if (M 13 0) ≤ x5 then some (x3, M) else xm_b2 (f_X3_isInWindow n M x1 x5) (fun r3 M2 => if r3 = 0 then some (x3, M2) else xm_b2 (f_X3_suits n M2 x1 x5) (fun r7 M6 => if r7 = 0 then xm_ck (xm_in x5 25) (xm_ck (xm_in x1 4) (if (M6 15 x5.toNatClampNeg) = (M6 10 x1.toNatClampNeg) then some (x3, M6) else f_X3_walkFrom_S n 1 M6 x1 x3 (x5 + 1))) else xm_ck (xm_in x1 4) (xm_lt (xm_up M6 11 x1.toNatClampNeg x5) (fun M14 => xm_b1 (f_X3_tellBranch n M14 x1) (fun M16 => xm_b2 (f_X3_walkFrom_S n 0 M16 (x1 + 1) 0 0) (fun r20 M19 => xm_ck (xm_in x5 25) (xm_ck (xm_in x5 25) (xm_lt (xm_up M19 12 x5.toNatClampNeg ((M19 12 x5.toNatClampNeg) + r20)) (fun M24 => xm_ck (xm_in x5 25) (xm_ck (xm_in x1 4) (if (M24 15 x5.toNatClampNeg) = (M24 10 x1.toNatClampNeg) then some (x3 + r20, M24) else f_X3_walkFrom_S n 1 M24 x1 (x3 + r20) (x5 + 1))))))))))))
def f_X3_walkFrom (n : Nat) (M : xm_M) (x1 : Int32) : Option (Int32 × xm_M) := f_X3_walkFrom_S n 0 M x1 0 0
def f_X3_walkFrom_50 (n : Nat) (M : xm_M) (x1 : Int32) (x3 : Int32) (x5 : Int32) : Option (Int32 × xm_M) := f_X3_walkFrom_S n 1 M x1 x3 x5
theorem xm_lt4 {j : Nat} (h4 : j ≤ 4) (h : nI j < 4) : j < 4 := by
  rcases Nat.lt_or_ge j 4 with q | q
  · exact q
  · have e : j = 4 := by omega
    subst e
    exact absurd h (by decide)
set_option maxHeartbeats 4000000 in
set_option maxRecDepth 100000 in
theorem t_X3_walkFrom_S {l : Launch} {E : xm_E} {a : Nat → Nat} (hD : xm_D (xv E a)) : ∀ (n : Nat), (∀ (d j : Nat) (x1 : Int32), x1 = nI j → j ≤ 4 → 4 ≤ j + d → ∀ (M : xm_M) (r : Int32) (M' : xm_M), f_X3_walkFrom_S n 0 M x1 0 0 = some (r, M') → xm_Met l E (xv E a) yX3_walkFrom cX3_walkFrom 7 (some .int) (1 + d) (23 + 26 * d) [.ref (a 8), .int x1] M M' (some r)) ∧ (∀ (p : Program) (e : Env) (s : State) (m : MethodId) (args : Array Value) (below : List Frame) (meth : Method) (c : Code) (C : xm_C E (xv E a) p s m args meth c RX3 cX3_walkFrom 7 (some .int)) (d j : Nat) (x1 : Int32) (x3 : Int32) (x5 : Int32), x1 = nI j → j < 4 → 4 ≤ j + (d + 1) → ∀ (M : xm_M) (r : Int32) (M' : xm_M), f_X3_walkFrom_S n 1 M x1 x3 x5 = some (r, M') → ∀ (H : Heap) (locs : List Loc) (ls : Array Slot), va_P E.1 vwCl (xm_w (xv E a) M) H → va_S (xm_A (xv E a) s.heap.size) s.heap H locs → lv_has ls 7 [(0, .ref (a 8)), (1, .int x1), (2, .ref (a 13)), (3, .int x3), (5, .int x5)] → W p l e { frames := 1 + (d + 1), cells := 0, slots := 0, locals := 23 + 26 * (d + 1) } s m args below meth c H locs 0 0 (MQ below (xm_Q E (xv E a) M' s.heap.size (some r)) args s 0 0 (xm_A (xv E a) s.heap.size)) (F0 m 50 ls [])) := by
  intro n
  induction n with
  | zero =>
    refine ⟨fun d j x1 hj h4 hd M r M' h => ?_, fun p e s m args below meth c C d j x1 x3 x5 hj hj9 hd M r M' h => ?_⟩
    all_goals cases h
  | succ n ih =>
    refine ⟨fun d j x1 hj h4 hd M r M' h => ?_, fun p e s m args below meth c C d j x1 x3 x5 hj hj9 hd M r M' h H locs ls hP hS hl => ?_⟩
    · rw [f_X3_walkFrom_S] at h
      refine xm_met (by decide +kernel) rfl (Nat.le_of_ble_eq_true rfl) hD (fun p e s m below meth c C hP ls hl => ?_)
      have C9 := C
      obtain ⟨hx, hb, hml, hown, hts, hr, hlk, hD9, hK, hS9⟩ := C9
      have hS : va_S (xm_A (xv E a) s.heap.size) s.heap s.heap [] := va_S.rf
      have hl : lv_has ls 7 [(0, .ref (a 8)), (1, .int x1)] := hl
      change W p l e _ s m _ below meth c s.heap [] 0 0 _ (F0 m 0 ls [])
      refine lv_iload_n hx hb dX3_walkFrom_0 rfl (lv_at hl 1 rfl) ?_
      refine lv_aload_n hx hb dX3_walkFrom_1 rfl (lv_at hl 0 rfl) ?_
      refine xm_get (V := (xv E a)) (T := TX3) (v := .int (M 8 8)) C hP 8 8 xi_3 rfl l_X3_40 rfl (Nat.le_of_ble_eq_true rfl) ((xe_8 E a) _) (Nat.le_of_ble_eq_true rfl) rfl dX3_walkFrom_2 ?_
      refine lv_icmp_ge (tgt := 13) hx hb dX3_walkFrom_5 (by decide) (fun c1 => ?_) (fun c1 => ?_)
      · rw [if_pos c1] at h
        refine lv_aload_n hx hb dX3_walkFrom_13 rfl (lv_at hl 0 rfl) ?_
        obtain ⟨M2, e4, h⟩ := xm_b1_s h
        refine xm_callV C hP hS [] [] (c_X3_tellMatch hD  n M  M2 e4) k_X3_106 (xm_recv C hP 8 rfl (Nat.le_of_ble_eq_true rfl) ((xe_8 E a) _)) rfl rfl ⟨by dsimp only; omega, by dsimp only; omega⟩ hl.1 (Nat.le_of_ble_eq_true rfl) ⟨Nat.zero_le _, Nat.zero_le _⟩ dX3_walkFrom_14 (fun H locs hP hS => ?_)
        change W p l e _ s m _ below meth c H locs 0 0 _ (F0 m 17 ls [])
        refine lv_iconst (v := 1) hx hb dX3_walkFrom_17 (by decide) ?_
        obtain ⟨rfl, rfl⟩ := xm_pr h
        exact xm_retI C hP hS dX3_walkFrom_18
      · rw [if_neg c1] at h
        refine lv_iload_n hx hb dX3_walkFrom_8 rfl (lv_at hl 1 rfl) ?_
        refine lv_iconst (v := 4) hx hb dX3_walkFrom_9 (by decide) ?_
        refine lv_icmp_lt (tgt := 19) hx hb dX3_walkFrom_10 (by decide) (fun c5 => ?_) (fun c5 => ?_)
        · rw [if_pos c5] at h
          refine lv_aload_n hx hb dX3_walkFrom_19 rfl (lv_at hl 0 rfl) ?_
          refine xm_get (V := (xv E a)) (T := TX3) (v := .ref (a 13)) C hP 8 0 xi_3 rfl l_X3_12 rfl (Nat.le_of_ble_eq_true rfl) ((xe_8 E a) _) (Nat.le_of_ble_eq_true rfl) rfl dX3_walkFrom_20 ?_
          refine lv_astore_n (lv' := [(2, .ref (a 13)), (0, .ref (a 8)), (1, .int x1)]) hx hb dX3_walkFrom_23 rfl hl (by decide) rfl (fun ls hl => ?_)
          refine lv_iconst (v := 0) hx hb dX3_walkFrom_24 (by decide) ?_
          refine lv_istore_n (lv' := [(3, .int 0), (2, .ref (a 13)), (0, .ref (a 8)), (1, .int x1)]) hx hb dX3_walkFrom_25 rfl hl (by decide) rfl (fun ls hl => ?_)
          refine lv_iload_n hx hb dX3_walkFrom_26 rfl (lv_at hl 3 rfl) ?_
          refine lv_if_ne (tgt := 34) hx hb dX3_walkFrom_27 (by decide) (fun c6 => ?_) (fun c6 => ?_)
          · rw [if_neg c6] at h
            refine lv_aload_n hx hb dX3_walkFrom_34 rfl (lv_at hl 2 rfl) ?_
            refine xm_get (V := (xv E a)) (T := TX3) (v := .ref (a 11)) C hP 8 11 xi_3 rfl l_X3_50 rfl (Nat.le_of_ble_eq_true rfl) ((xe_8 E a) _) (Nat.le_of_ble_eq_true rfl) rfl dX3_walkFrom_35 ?_
            refine lv_iload_n hx hb dX3_walkFrom_38 rfl (lv_at hl 3 rfl) ?_
            refine lv_iconst (v := 1) hx hb dX3_walkFrom_39 (by decide) ?_
            refine lv_isub hx hb dX3_walkFrom_40 ?_
            obtain ⟨b7, h⟩ := xm_ck_s h
            refine xm_iald (V := (xv E a)) C hP 11 4 (Nat.le_of_ble_eq_true rfl) (xe_11 E a) b7 dX3_walkFrom_41 ?_
            refine lv_iconst (v := 1) hx hb dX3_walkFrom_42 (by decide) ?_
            refine lv_iadd hx hb dX3_walkFrom_43 ?_
            refine lv_istore (lv' := [(4, .int ((M 11 (x1 - 1).toNatClampNeg) + 1)), (3, .int 0), (2, .ref (a 13)), (0, .ref (a 8)), (1, .int x1)]) hx hb dX3_walkFrom_44 hl (by decide) rfl (fun ls hl => ?_)
            refine lv_iload hx hb dX3_walkFrom_46 (lv_at hl 0 rfl) ?_
            refine lv_istore (lv' := [(5, .int ((M 11 (x1 - 1).toNatClampNeg) + 1)), (4, .int ((M 11 (x1 - 1).toNatClampNeg) + 1)), (3, .int 0), (2, .ref (a 13)), (0, .ref (a 8)), (1, .int x1)]) hx hb dX3_walkFrom_48 hl (by decide) rfl (fun ls hl => ?_)
            have hj9 : j < 4 := xm_lt4 h4 (by rw [← hj]; assumption)
            obtain ⟨d, rfl⟩ : ∃ d9, d = d9 + 1 := ⟨d - 1, by omega⟩
            exact ih.2 p e s m _ below meth c C d j x1 0 ((M 11 (x1 - 1).toNatClampNeg) + 1) hj hj9 hd M r M' h _ _ _ hP hS (lv_sub hl [4, 5, 3, 2, 0] rfl)
          · rw [if_pos c6] at h
            refine lv_iconst (v := 0) hx hb dX3_walkFrom_30 (by decide) ?_
            refine lv_goto (tgt := 44) hx hb dX3_walkFrom_31 (by decide) ?_
            refine lv_istore (lv' := [(4, .int 0), (3, .int 0), (2, .ref (a 13)), (0, .ref (a 8)), (1, .int x1)]) hx hb dX3_walkFrom_44 hl (by decide) rfl (fun ls hl => ?_)
            refine lv_iload hx hb dX3_walkFrom_46 (lv_at hl 0 rfl) ?_
            refine lv_istore (lv' := [(5, .int 0), (4, .int 0), (3, .int 0), (2, .ref (a 13)), (0, .ref (a 8)), (1, .int x1)]) hx hb dX3_walkFrom_48 hl (by decide) rfl (fun ls hl => ?_)
            have hj9 : j < 4 := xm_lt4 h4 (by rw [← hj]; assumption)
            obtain ⟨d, rfl⟩ : ∃ d9, d = d9 + 1 := ⟨d - 1, by omega⟩
            exact ih.2 p e s m _ below meth c C d j x1 0 0 hj hj9 hd M r M' h _ _ _ hP hS (lv_sub hl [4, 5, 3, 2, 0] rfl)
        · rw [if_neg c5] at h
          refine lv_aload_n hx hb dX3_walkFrom_13 rfl (lv_at hl 0 rfl) ?_
          obtain ⟨M8, e10, h⟩ := xm_b1_s h
          refine xm_callV C hP hS [] [] (c_X3_tellMatch hD  n M  M8 e10) k_X3_106 (xm_recv C hP 8 rfl (Nat.le_of_ble_eq_true rfl) ((xe_8 E a) _)) rfl rfl ⟨by dsimp only; omega, by dsimp only; omega⟩ hl.1 (Nat.le_of_ble_eq_true rfl) ⟨Nat.zero_le _, Nat.zero_le _⟩ dX3_walkFrom_14 (fun H locs hP hS => ?_)
          change W p l e _ s m _ below meth c H locs 0 0 _ (F0 m 17 ls [])
          refine lv_iconst (v := 1) hx hb dX3_walkFrom_17 (by decide) ?_
          obtain ⟨rfl, rfl⟩ := xm_pr h
          exact xm_retI C hP hS dX3_walkFrom_18
    · rw [f_X3_walkFrom_S] at h
      have C9 := C
      obtain ⟨hx, hb, hml, hown, hts, hr, hlk, hD9, hK, hS9⟩ := C9
      refine lv_iload hx hb dX3_walkFrom_50 (lv_at hl 4 rfl) ?_
      refine lv_aload_n hx hb dX3_walkFrom_52 rfl (lv_at hl 2 rfl) ?_
      refine xm_getN (V := (xv E a)) (T := TX1) (v := .int (M 13 0)) C hP 13 0 xi_1 rfl l_X3_109 rfl (Nat.le_of_ble_eq_true rfl) ((xe_13 E a) _) (Nat.le_of_ble_eq_true rfl) rfl dX3_walkFrom_53 ?_
      refine lv_icmp_ge (tgt := 143) hx hb dX3_walkFrom_56 (by decide) (fun c1 => ?_) (fun c1 => ?_)
      · rw [if_pos c1] at h
        refine lv_iload_n hx hb dX3_walkFrom_143 rfl (lv_at hl 3 rfl) ?_
        obtain ⟨rfl, rfl⟩ := xm_pr h
        exact xm_retI C hP hS dX3_walkFrom_144
      · rw [if_neg c1] at h
        refine lv_aload_n hx hb dX3_walkFrom_59 rfl (lv_at hl 0 rfl) ?_
        refine lv_iload_n hx hb dX3_walkFrom_60 rfl (lv_at hl 1 rfl) ?_
        refine lv_iload hx hb dX3_walkFrom_61 (lv_at hl 4 rfl) ?_
        obtain ⟨r3, M2, e4, h⟩ := xm_b2_s h
        refine xm_callV C hP hS [.int x1, .int x5] [] (c_X3_isInWindow hD  n M x1 x5 r3 M2 e4) k_X3_112 (xm_recv C hP 8 rfl (Nat.le_of_ble_eq_true rfl) ((xe_8 E a) _)) rfl rfl ⟨by dsimp only; omega, by dsimp only; omega⟩ hl.1 (Nat.le_of_ble_eq_true rfl) ⟨Nat.zero_le _, Nat.zero_le _⟩ dX3_walkFrom_63 (fun H locs hP hS => ?_)
        change W p l e _ s m _ below meth c H locs 0 0 _ (F0 m 66 ls [.int r3])
        refine lv_if_eq (tgt := 143) hx hb dX3_walkFrom_66 (by decide) (fun c5 => ?_) (fun c5 => ?_)
        · rw [if_pos c5] at h
          refine lv_iload_n hx hb dX3_walkFrom_143 rfl (lv_at hl 3 rfl) ?_
          obtain ⟨rfl, rfl⟩ := xm_pr h
          exact xm_retI C hP hS dX3_walkFrom_144
        · rw [if_neg c5] at h
          refine lv_aload_n hx hb dX3_walkFrom_69 rfl (lv_at hl 0 rfl) ?_
          refine lv_iload_n hx hb dX3_walkFrom_70 rfl (lv_at hl 1 rfl) ?_
          refine lv_iload hx hb dX3_walkFrom_71 (lv_at hl 4 rfl) ?_
          obtain ⟨r7, M6, e8, h⟩ := xm_b2_s h
          refine xm_callV C hP hS [.int x1, .int x5] [] (c_X3_suits hD  n M2 x1 x5 r7 M6 e8) k_X3_116 (xm_recv C hP 8 rfl (Nat.le_of_ble_eq_true rfl) ((xe_8 E a) _)) rfl rfl ⟨by dsimp only; omega, by dsimp only; omega⟩ hl.1 (Nat.le_of_ble_eq_true rfl) ⟨Nat.zero_le _, Nat.zero_le _⟩ dX3_walkFrom_73 (fun H locs hP hS => ?_)
          change W p l e _ s m _ below meth c H locs 0 0 _ (F0 m 76 ls [.int r7])
          refine lv_if_eq (tgt := 118) hx hb dX3_walkFrom_76 (by decide) (fun c9 => ?_) (fun c9 => ?_)
          · rw [if_pos c9] at h
            refine lv_aload_n hx hb dX3_walkFrom_118 rfl (lv_at hl 2 rfl) ?_
            refine xm_getN (V := (xv E a)) (T := TX1) (v := .ref (a 15)) C hP 13 2 xi_1 rfl l_X3_123 rfl (Nat.le_of_ble_eq_true rfl) ((xe_13 E a) _) (Nat.le_of_ble_eq_true rfl) rfl dX3_walkFrom_119 ?_
            refine lv_iload hx hb dX3_walkFrom_122 (lv_at hl 4 rfl) ?_
            obtain ⟨b10, h⟩ := xm_ck_s h
            refine xm_cald (V := (xv E a)) C hP 15 25 (Nat.le_of_ble_eq_true rfl) (xe_15 E a) b10 dX3_walkFrom_124 ?_
            refine lv_aload_n hx hb dX3_walkFrom_125 rfl (lv_at hl 0 rfl) ?_
            refine xm_get (V := (xv E a)) (T := TX3) (v := .ref (a 10)) C hP 8 10 xi_3 rfl l_X3_47 rfl (Nat.le_of_ble_eq_true rfl) ((xe_8 E a) _) (Nat.le_of_ble_eq_true rfl) rfl dX3_walkFrom_126 ?_
            refine lv_iload_n hx hb dX3_walkFrom_129 rfl (lv_at hl 1 rfl) ?_
            obtain ⟨b11, h⟩ := xm_ck_s h
            refine xm_cald (V := (xv E a)) C hP 10 4 (Nat.le_of_ble_eq_true rfl) (xe_10 E a) b11 dX3_walkFrom_130 ?_
            refine lv_icmp_ne (tgt := 137) hx hb dX3_walkFrom_131 (by decide) (fun c12 => ?_) (fun c12 => ?_)
            · rw [if_neg c12] at h
              refine lv_iinc (v := x5 + 1) (lv' := [(5, .int (x5 + 1)), (0, .ref (a 8)), (1, .int x1), (2, .ref (a 13)), (3, .int x3)]) hx hb dX3_walkFrom_137 hl (k := 4) rfl (xm_add (by decide)) (by decide) rfl (fun ls hl => ?_)
              refine lv_goto (tgt := 50) hx hb dX3_walkFrom_140 (by decide) ?_
              exact ih.2 p e s m _ below meth c C d j x1 x3 (x5 + 1) hj hj9 hd M6 r M' h _ _ _ hP hS (lv_sub hl [1, 2, 3, 4, 0] rfl)
            · rw [if_pos c12] at h
              refine lv_goto (tgt := 143) hx hb dX3_walkFrom_134 (by decide) ?_
              refine lv_iload_n hx hb dX3_walkFrom_143 rfl (lv_at hl 3 rfl) ?_
              obtain ⟨rfl, rfl⟩ := xm_pr h
              exact xm_retI C hP hS dX3_walkFrom_144
          · rw [if_neg c9] at h
            refine lv_aload_n hx hb dX3_walkFrom_79 rfl (lv_at hl 0 rfl) ?_
            refine xm_get (V := (xv E a)) (T := TX3) (v := .ref (a 11)) C hP 8 11 xi_3 rfl l_X3_50 rfl (Nat.le_of_ble_eq_true rfl) ((xe_8 E a) _) (Nat.le_of_ble_eq_true rfl) rfl dX3_walkFrom_80 ?_
            refine lv_iload_n hx hb dX3_walkFrom_83 rfl (lv_at hl 1 rfl) ?_
            refine lv_iload hx hb dX3_walkFrom_84 (lv_at hl 4 rfl) ?_
            obtain ⟨b13, h⟩ := xm_ck_s h
            obtain ⟨M14, e15, h⟩ := xm_lt_s h
            refine xm_iast (V := (xv E a)) C hP hS 11 4 (Nat.le_of_ble_eq_true rfl) (xe_11 E a) b13 dX3_walkFrom_86 (fun H locs hP hS => ?_)
            rw [← e15] at hP
            refine lv_aload_n hx hb dX3_walkFrom_87 rfl (lv_at hl 0 rfl) ?_
            refine lv_iload_n hx hb dX3_walkFrom_88 rfl (lv_at hl 1 rfl) ?_
            obtain ⟨M16, e18, h⟩ := xm_b1_s h
            refine xm_callV C hP hS [.int x1] [] (c_X3_tellBranch hD  n M14 x1 M16 e18) k_X3_119 (xm_recv C hP 8 rfl (Nat.le_of_ble_eq_true rfl) ((xe_8 E a) _)) rfl rfl ⟨by dsimp only; omega, by dsimp only; omega⟩ hl.1 (Nat.le_of_ble_eq_true rfl) ⟨Nat.zero_le _, Nat.zero_le _⟩ dX3_walkFrom_89 (fun H locs hP hS => ?_)
            change W p l e _ s m _ below meth c H locs 0 0 _ (F0 m 92 ls [])
            refine lv_aload_n hx hb dX3_walkFrom_92 rfl (lv_at hl 0 rfl) ?_
            refine lv_iload_n hx hb dX3_walkFrom_93 rfl (lv_at hl 1 rfl) ?_
            refine lv_iconst (v := 1) hx hb dX3_walkFrom_94 (by decide) ?_
            refine lv_iadd hx hb dX3_walkFrom_95 ?_
            obtain ⟨r20, M19, e21, h⟩ := xm_b2_s h
            refine xm_callS C hP hS [.ref (a 8), .int (x1 + 1)] [] (ih.1 d (j + 1) ((x1 + 1)) (by rw [hj]; exact (nI_succ j).symm) (by omega) (by omega) M16 r20 M19 e21) k_X3_94  rfl rfl ⟨by dsimp only; omega, by dsimp only; omega⟩ hl.1 (Nat.le_of_ble_eq_true rfl) ⟨Nat.zero_le _, Nat.zero_le _⟩ dX3_walkFrom_96 (fun H locs hP hS => ?_)
            change W p l e _ s m _ below meth c H locs 0 0 _ (F0 m 99 ls [.int r20])
            refine lv_istore (lv' := [(6, .int r20), (0, .ref (a 8)), (1, .int x1), (2, .ref (a 13)), (3, .int x3), (5, .int x5)]) hx hb dX3_walkFrom_99 hl (by decide) rfl (fun ls hl => ?_)
            refine lv_aload_n hx hb dX3_walkFrom_101 rfl (lv_at hl 1 rfl) ?_
            refine xm_get (V := (xv E a)) (T := TX3) (v := .ref (a 12)) C hP 8 15 xi_3 rfl l_X3_63 rfl (Nat.le_of_ble_eq_true rfl) ((xe_8 E a) _) (Nat.le_of_ble_eq_true rfl) rfl dX3_walkFrom_102 ?_
            refine lv_iload hx hb dX3_walkFrom_105 (lv_at hl 5 rfl) ?_
            refine lv_dup2_11 hx hb dX3_walkFrom_107 rfl rfl ?_
            obtain ⟨b22, h⟩ := xm_ck_s h
            refine xm_iald (V := (xv E a)) C hP 12 25 (Nat.le_of_ble_eq_true rfl) (xe_12 E a) b22 dX3_walkFrom_108 ?_
            refine lv_iload hx hb dX3_walkFrom_109 (lv_at hl 0 rfl) ?_
            refine lv_iadd hx hb dX3_walkFrom_111 ?_
            obtain ⟨b23, h⟩ := xm_ck_s h
            obtain ⟨M24, e25, h⟩ := xm_lt_s h
            refine xm_iast (V := (xv E a)) C hP hS 12 25 (Nat.le_of_ble_eq_true rfl) (xe_12 E a) b23 dX3_walkFrom_112 (fun H locs hP hS => ?_)
            rw [← e25] at hP
            refine lv_iload_n hx hb dX3_walkFrom_113 rfl (lv_at hl 4 rfl) ?_
            refine lv_iload hx hb dX3_walkFrom_114 (lv_at hl 0 rfl) ?_
            refine lv_iadd hx hb dX3_walkFrom_116 ?_
            refine lv_istore_n (lv' := [(3, .int (x3 + r20)), (6, .int r20), (0, .ref (a 8)), (1, .int x1), (2, .ref (a 13)), (5, .int x5)]) hx hb dX3_walkFrom_117 rfl hl (by decide) rfl (fun ls hl => ?_)
            refine lv_aload_n hx hb dX3_walkFrom_118 rfl (lv_at hl 4 rfl) ?_
            refine xm_getN (V := (xv E a)) (T := TX1) (v := .ref (a 15)) C hP 13 2 xi_1 rfl l_X3_123 rfl (Nat.le_of_ble_eq_true rfl) ((xe_13 E a) _) (Nat.le_of_ble_eq_true rfl) rfl dX3_walkFrom_119 ?_
            refine lv_iload hx hb dX3_walkFrom_122 (lv_at hl 5 rfl) ?_
            obtain ⟨b26, h⟩ := xm_ck_s h
            refine xm_cald (V := (xv E a)) C hP 15 25 (Nat.le_of_ble_eq_true rfl) (xe_15 E a) b26 dX3_walkFrom_124 ?_
            refine lv_aload_n hx hb dX3_walkFrom_125 rfl (lv_at hl 2 rfl) ?_
            refine xm_get (V := (xv E a)) (T := TX3) (v := .ref (a 10)) C hP 8 10 xi_3 rfl l_X3_47 rfl (Nat.le_of_ble_eq_true rfl) ((xe_8 E a) _) (Nat.le_of_ble_eq_true rfl) rfl dX3_walkFrom_126 ?_
            refine lv_iload_n hx hb dX3_walkFrom_129 rfl (lv_at hl 3 rfl) ?_
            obtain ⟨b27, h⟩ := xm_ck_s h
            refine xm_cald (V := (xv E a)) C hP 10 4 (Nat.le_of_ble_eq_true rfl) (xe_10 E a) b27 dX3_walkFrom_130 ?_
            refine lv_icmp_ne (tgt := 137) hx hb dX3_walkFrom_131 (by decide) (fun c28 => ?_) (fun c28 => ?_)
            · rw [if_neg c28] at h
              refine lv_iinc (v := x5 + 1) (lv' := [(5, .int (x5 + 1)), (3, .int (x3 + r20)), (6, .int r20), (0, .ref (a 8)), (1, .int x1), (2, .ref (a 13))]) hx hb dX3_walkFrom_137 hl (k := 5) rfl (xm_add (by decide)) (by decide) rfl (fun ls hl => ?_)
              refine lv_goto (tgt := 50) hx hb dX3_walkFrom_140 (by decide) ?_
              exact ih.2 p e s m _ below meth c C d j x1 (x3 + r20) (x5 + 1) hj hj9 hd M24 r M' h _ _ _ hP hS (lv_sub hl [3, 4, 5, 1, 0] rfl)
            · rw [if_pos c28] at h
              refine lv_goto (tgt := 143) hx hb dX3_walkFrom_134 (by decide) ?_
              refine lv_iload_n hx hb dX3_walkFrom_143 rfl (lv_at hl 0 rfl) ?_
              obtain ⟨rfl, rfl⟩ := xm_pr h
              exact xm_retI C hP hS dX3_walkFrom_144
theorem c_X3_walkFrom {l : Launch} {E : xm_E} {a : Nat → Nat} (hD : xm_D (xv E a)) (n : Nat) (M : xm_M) (x1 : Int32) (r : Int32) (M' : xm_M) (h : f_X3_walkFrom n M x1 = some (r, M')) (h0 : x1 = 0 := by rfl) : xm_Met l E (xv E a) yX3_walkFrom cX3_walkFrom 7 (some .int) 5 127 [.ref (a 8), .int x1] M M' (some r) :=
  (t_X3_walkFrom_S hD n).1 4 0 x1 (h0.trans nI_0.symm) (by omega) (by omega) M r M' h
end
section
theorem l_X3_87 : Cond.fieldLinkNest RX3 87 "WindowMatches$Pattern" "window" "I" "WindowMatches" ∈ xm_nest := xm_nest_of (List.mem_of_getElem? (i := 35) (by decide +kernel)) rfl
theorem l_X3_90 : Cond.fieldLinkNest RX3 90 "WindowMatches$Pattern" "rule" "I" "WindowMatches" ∈ xm_nest := xm_nest_of (List.mem_of_getElem? (i := 39) (by decide +kernel)) rfl
theorem k_X3_91 : xm_FV RX3 91 yX3_takePlainSteps cX3_takePlainSteps 4 none 1 := ⟨xm_tb_of (List.mem_of_getElem? (i := 304) (by decide +kernel)) rfl, xm_tb_of (List.mem_of_getElem? (i := 301) (by decide +kernel)) rfl, xm_tb_of (List.mem_of_getElem? (i := 303) (by decide +kernel)) rfl, xm_tb_sel (List.mem_of_getElem? (i := 7) (by decide +kernel)) rfl, xm_tb_of (List.mem_of_getElem? (i := 6) (by decide +kernel)) rfl, ⟨by decide +kernel, by decide +kernel, by decide +kernel⟩⟩
theorem l_X3_76 : Cond.fieldLinkNest RX3 76 "WindowMatches$State" "patternCount" "I" "WindowMatches" ∈ xm_nest := xm_nest_of (List.mem_of_getElem? (i := 89) (by decide +kernel)) rfl
theorem l_X3_79 : Cond.fieldLinkNest RX3 79 "WindowMatches$State" "patterns" "[LWindowMatches$Pattern;" "WindowMatches" ∈ xm_nest := xm_nest_of (List.mem_of_getElem? (i := 92) (by decide +kernel)) rfl
theorem k_X3_83 : xm_FV RX3 83 yX3_run cX3_run 2 none 1 := ⟨xm_tb_of (List.mem_of_getElem? (i := 300) (by decide +kernel)) rfl, xm_tb_of (List.mem_of_getElem? (i := 297) (by decide +kernel)) rfl, xm_tb_of (List.mem_of_getElem? (i := 299) (by decide +kernel)) rfl, xm_tb_sel (List.mem_of_getElem? (i := 6) (by decide +kernel)) rfl, xm_tb_of (List.mem_of_getElem? (i := 6) (by decide +kernel)) rfl, ⟨by decide +kernel, by decide +kernel, by decide +kernel⟩⟩
theorem l_X6_10 : Cond.fieldLink RX6 10 "WindowMatches" "now" "LWindowMatches$State;" ∈ xm_tb := xm_tb_of (List.mem_of_getElem? (i := 237) (by decide +kernel)) rfl
theorem l_X6_85 : Cond.fieldLinkNest RX6 85 "WindowMatches$State" "patternCount" "I" "WindowMatches" ∈ xm_nest := xm_nest_of (List.mem_of_getElem? (i := 90) (by decide +kernel)) rfl
theorem k_X6_202 : xm_FS RX6 202 yX6_isKind cX6_isKind 1 (some .boolean) 1 := ⟨xm_tb_of (List.mem_of_getElem? (i := 343) (by decide +kernel)) rfl, xm_tb_of (List.mem_of_getElem? (i := 341) (by decide +kernel)) rfl, xm_tb_of (List.mem_of_getElem? (i := 342) (by decide +kernel)) rfl, xm_tb_of (List.mem_of_getElem? (i := 1) (by decide +kernel)) rfl, ⟨by decide +kernel, by decide +kernel, by decide +kernel⟩⟩
theorem k_X6_66 : xm_FS RX6 66 yX6_isWithin cX6_isWithin 3 (some .boolean) 3 := ⟨xm_tb_of (List.mem_of_getElem? (i := 346) (by decide +kernel)) rfl, xm_tb_of (List.mem_of_getElem? (i := 344) (by decide +kernel)) rfl, xm_tb_of (List.mem_of_getElem? (i := 345) (by decide +kernel)) rfl, xm_tb_of (List.mem_of_getElem? (i := 1) (by decide +kernel)) rfl, ⟨by decide +kernel, by decide +kernel, by decide +kernel⟩⟩
theorem l_X6_192 : Cond.fieldLinkNest RX6 192 "WindowMatches$State" "newestTime" "I" "WindowMatches" ∈ xm_nest := xm_nest_of (List.mem_of_getElem? (i := 85) (by decide +kernel)) rfl
theorem l_X6_78 : Cond.fieldLinkNest RX6 78 "WindowMatches$State" "lateness" "I" "WindowMatches" ∈ xm_nest := xm_nest_of (List.mem_of_getElem? (i := 87) (by decide +kernel)) rfl
theorem l_X6_47 : Cond.fieldLink RX6 47 "WindowMatches" "search" "LWindowMatches$Search;" ∈ xm_tb := xm_tb_of (List.mem_of_getElem? (i := 243) (by decide +kernel)) rfl
theorem k_X6_132 : xm_FVN RX6 132 yX3_begin "WindowMatches" cX3_begin 3 none 1 := ⟨xm_tb_of (List.mem_of_getElem? (i := 273) (by decide +kernel)) rfl, xm_nest_of (List.mem_of_getElem? (i := 270) (by decide +kernel)) rfl, xm_tb_of (List.mem_of_getElem? (i := 272) (by decide +kernel)) rfl, xm_tb_sel (List.mem_of_getElem? (i := 0) (by decide +kernel)) rfl, xm_tb_of (List.mem_of_getElem? (i := 6) (by decide +kernel)) rfl, ⟨by decide +kernel, by decide +kernel, by decide +kernel⟩⟩
theorem k_X6_182 : xm_FVN RX6 182 yX3_run "WindowMatches" cX3_run 2 none 1 := ⟨xm_tb_of (List.mem_of_getElem? (i := 300) (by decide +kernel)) rfl, xm_nest_of (List.mem_of_getElem? (i := 521) (by decide +kernel)) rfl, xm_tb_of (List.mem_of_getElem? (i := 299) (by decide +kernel)) rfl, xm_tb_sel (List.mem_of_getElem? (i := 6) (by decide +kernel)) rfl, xm_tb_of (List.mem_of_getElem? (i := 6) (by decide +kernel)) rfl, ⟨by decide +kernel, by decide +kernel, by decide +kernel⟩⟩
theorem k_X6_51 : xm_FV RX6 51 yX6_errorOfEvent cX6_errorOfEvent 4 (some .int) 3 := ⟨xm_tb_of (List.mem_of_getElem? (i := 340) (by decide +kernel)) rfl, xm_tb_of (List.mem_of_getElem? (i := 337) (by decide +kernel)) rfl, xm_tb_of (List.mem_of_getElem? (i := 339) (by decide +kernel)) rfl, xm_tb_sel (List.mem_of_getElem? (i := 13) (by decide +kernel)) rfl, xm_tb_of (List.mem_of_getElem? (i := 1) (by decide +kernel)) rfl, ⟨by decide +kernel, by decide +kernel, by decide +kernel⟩⟩
theorem l_X6_55 : Cond.fieldLinkNest RX6 55 "WindowMatches$State" "events" "I" "WindowMatches" ∈ xm_nest := xm_nest_of (List.mem_of_getElem? (i := 73) (by decide +kernel)) rfl
theorem l_X6_26 : Cond.fieldLink RX6 26 "WindowMatches" "history" "LWindowMatches$History;" ∈ xm_tb := xm_tb_of (List.mem_of_getElem? (i := 240) (by decide +kernel)) rfl
theorem k_X6_59 : xm_FVN RX6 59 yX0_record "WindowMatches" cX0_record 2 none 1 := ⟨xm_tb_of (List.mem_of_getElem? (i := 355) (by decide +kernel)) rfl, xm_nest_of (List.mem_of_getElem? (i := 352) (by decide +kernel)) rfl, xm_tb_of (List.mem_of_getElem? (i := 354) (by decide +kernel)) rfl, xm_tb_sel (List.mem_of_getElem? (i := 14) (by decide +kernel)) rfl, xm_tb_of (List.mem_of_getElem? (i := 4) (by decide +kernel)) rfl, ⟨by decide +kernel, by decide +kernel, by decide +kernel⟩⟩
theorem k_X6_63 : xm_FVN RX6 63 yX4_addEvent "WindowMatches" cX4_addEvent 5 (some .int) 3 := ⟨xm_tb_of (List.mem_of_getElem? (i := 367) (by decide +kernel)) rfl, xm_nest_of (List.mem_of_getElem? (i := 364) (by decide +kernel)) rfl, xm_tb_of (List.mem_of_getElem? (i := 366) (by decide +kernel)) rfl, xm_tb_sel (List.mem_of_getElem? (i := 17) (by decide +kernel)) rfl, xm_tb_of (List.mem_of_getElem? (i := 2) (by decide +kernel)) rfl, ⟨by decide +kernel, by decide +kernel, by decide +kernel⟩⟩
theorem k_X6_70 : xm_FVN RX6 70 yX4_eventsAheadOf "WindowMatches" cX4_eventsAheadOf 4 (some .int) 1 := ⟨xm_tb_of (List.mem_of_getElem? (i := 541) (by decide +kernel)) rfl, xm_nest_of (List.mem_of_getElem? (i := 538) (by decide +kernel)) rfl, xm_tb_of (List.mem_of_getElem? (i := 540) (by decide +kernel)) rfl, xm_tb_sel (List.mem_of_getElem? (i := 35) (by decide +kernel)) rfl, xm_tb_of (List.mem_of_getElem? (i := 2) (by decide +kernel)) rfl, ⟨by decide +kernel, by decide +kernel, by decide +kernel⟩⟩
theorem k_X6_74 : xm_FVN RX6 74 yX4_removeEventsAheadOf "WindowMatches" cX4_removeEventsAheadOf 4 none 1 := ⟨xm_tb_of (List.mem_of_getElem? (i := 545) (by decide +kernel)) rfl, xm_nest_of (List.mem_of_getElem? (i := 542) (by decide +kernel)) rfl, xm_tb_of (List.mem_of_getElem? (i := 544) (by decide +kernel)) rfl, xm_tb_sel (List.mem_of_getElem? (i := 36) (by decide +kernel)) rfl, xm_tb_of (List.mem_of_getElem? (i := 2) (by decide +kernel)) rfl, ⟨by decide +kernel, by decide +kernel, by decide +kernel⟩⟩
theorem l_X6_33 : Cond.fieldLink RX6 33 "WindowMatches" "text" "LWindowMatches$Words;" ∈ xm_tb := xm_tb_of (List.mem_of_getElem? (i := 241) (by decide +kernel)) rfl
theorem l_X6_40 : Cond.fieldLink RX6 40 "WindowMatches" "readPattern" "LWindowMatches$Pattern;" ∈ xm_tb := xm_tb_of (List.mem_of_getElem? (i := 242) (by decide +kernel)) rfl
theorem k_X6_81 : xm_FVN RX6 81 yX5_readInto "WindowMatches" cX5_readInto 3 (some .int) 1 := ⟨xm_tb_of (List.mem_of_getElem? (i := 407) (by decide +kernel)) rfl, xm_nest_of (List.mem_of_getElem? (i := 404) (by decide +kernel)) rfl, xm_tb_of (List.mem_of_getElem? (i := 406) (by decide +kernel)) rfl, xm_tb_sel (List.mem_of_getElem? (i := 20) (by decide +kernel)) rfl, xm_tb_of (List.mem_of_getElem? (i := 5) (by decide +kernel)) rfl, ⟨by decide +kernel, by decide +kernel, by decide +kernel⟩⟩
theorem k_X6_88 : xm_FVN RX6 88 yX4_addCopyOf "WindowMatches" cX4_addCopyOf 3 (some .int) 1 := ⟨xm_tb_of (List.mem_of_getElem? (i := 508) (by decide +kernel)) rfl, xm_nest_of (List.mem_of_getElem? (i := 505) (by decide +kernel)) rfl, xm_tb_of (List.mem_of_getElem? (i := 507) (by decide +kernel)) rfl, xm_tb_sel (List.mem_of_getElem? (i := 31) (by decide +kernel)) rfl, xm_tb_of (List.mem_of_getElem? (i := 2) (by decide +kernel)) rfl, ⟨by decide +kernel, by decide +kernel, by decide +kernel⟩⟩
theorem k_X6_91 : xm_FV RX6 91 yX6_isPattern cX6_isPattern 2 (some .boolean) 1 := ⟨xm_tb_of (List.mem_of_getElem? (i := 516) (by decide +kernel)) rfl, xm_tb_of (List.mem_of_getElem? (i := 513) (by decide +kernel)) rfl, xm_tb_of (List.mem_of_getElem? (i := 515) (by decide +kernel)) rfl, xm_tb_sel (List.mem_of_getElem? (i := 32) (by decide +kernel)) rfl, xm_tb_of (List.mem_of_getElem? (i := 1) (by decide +kernel)) rfl, ⟨by decide +kernel, by decide +kernel, by decide +kernel⟩⟩
theorem k_X6_95 : xm_FVN RX6 95 yX4_removePattern "WindowMatches" cX4_removePattern 3 (some .int) 1 := ⟨xm_tb_of (List.mem_of_getElem? (i := 529) (by decide +kernel)) rfl, xm_nest_of (List.mem_of_getElem? (i := 526) (by decide +kernel)) rfl, xm_tb_of (List.mem_of_getElem? (i := 528) (by decide +kernel)) rfl, xm_tb_sel (List.mem_of_getElem? (i := 34) (by decide +kernel)) rfl, xm_tb_of (List.mem_of_getElem? (i := 2) (by decide +kernel)) rfl, ⟨by decide +kernel, by decide +kernel, by decide +kernel⟩⟩
theorem l_X6_98 : Cond.fieldLinkNest RX6 98 "WindowMatches$State" "patterns" "[LWindowMatches$Pattern;" "WindowMatches" ∈ xm_nest := xm_nest_of (List.mem_of_getElem? (i := 93) (by decide +kernel)) rfl
theorem l_X6_102 : Cond.fieldLinkNest RX6 102 "WindowMatches$Pattern" "window" "I" "WindowMatches" ∈ xm_nest := xm_nest_of (List.mem_of_getElem? (i := 37) (by decide +kernel)) rfl
theorem k_X6_105 : xm_FVN RX6 105 yX5_append "WindowMatches" cX5_append 2 (some .int) 1 := ⟨xm_tb_of (List.mem_of_getElem? (i := 394) (by decide +kernel)) rfl, xm_nest_of (List.mem_of_getElem? (i := 391) (by decide +kernel)) rfl, xm_tb_of (List.mem_of_getElem? (i := 393) (by decide +kernel)) rfl, xm_tb_sel (List.mem_of_getElem? (i := 19) (by decide +kernel)) rfl, xm_tb_of (List.mem_of_getElem? (i := 5) (by decide +kernel)) rfl, ⟨by decide +kernel, by decide +kernel, by decide +kernel⟩⟩
theorem l_X6_109 : Cond.fieldLinkNest RX6 109 "WindowMatches$Words" "length" "I" "WindowMatches" ∈ xm_nest := xm_nest_of (List.mem_of_getElem? (i := 139) (by decide +kernel)) rfl
theorem l_X6_112 : Cond.fieldLinkNest RX6 112 "WindowMatches$History" "size" "I" "WindowMatches" ∈ xm_nest := xm_nest_of (List.mem_of_getElem? (i := 123) (by decide +kernel)) rfl
theorem k_X6_115 : xm_FVN RX6 115 yX0_removeLatestInto "WindowMatches" cX0_removeLatestInto 2 none 1 := ⟨xm_tb_of (List.mem_of_getElem? (i := 557) (by decide +kernel)) rfl, xm_nest_of (List.mem_of_getElem? (i := 554) (by decide +kernel)) rfl, xm_tb_of (List.mem_of_getElem? (i := 556) (by decide +kernel)) rfl, xm_tb_sel (List.mem_of_getElem? (i := 37) (by decide +kernel)) rfl, xm_tb_of (List.mem_of_getElem? (i := 4) (by decide +kernel)) rfl, ⟨by decide +kernel, by decide +kernel, by decide +kernel⟩⟩
theorem l_X6_121 : Cond.fieldLinkNest RX6 121 "WindowMatches$State" "kinds" "[C" "WindowMatches" ∈ xm_nest := xm_nest_of (List.mem_of_getElem? (i := 76) (by decide +kernel)) rfl
theorem l_X6_125 : Cond.fieldLinkNest RX6 125 "WindowMatches$State" "values" "[I" "WindowMatches" ∈ xm_nest := xm_nest_of (List.mem_of_getElem? (i := 79) (by decide +kernel)) rfl
theorem l_X6_129 : Cond.fieldLinkNest RX6 129 "WindowMatches$State" "times" "[I" "WindowMatches" ∈ xm_nest := xm_nest_of (List.mem_of_getElem? (i := 82) (by decide +kernel)) rfl
theorem l_X6_135 : Cond.fieldLinkNest RX6 135 "WindowMatches$Search" "line" "LWindowMatches$Line;" "WindowMatches" ∈ xm_nest := xm_nest_of (List.mem_of_getElem? (i := 184) (by decide +kernel)) rfl
theorem k_X6_139 : xm_FVN RX6 139 yX1_placeOf "WindowMatches" cX1_placeOf 4 (some .int) 1 := ⟨xm_tb_of (List.mem_of_getElem? (i := 581) (by decide +kernel)) rfl, xm_nest_of (List.mem_of_getElem? (i := 578) (by decide +kernel)) rfl, xm_tb_of (List.mem_of_getElem? (i := 580) (by decide +kernel)) rfl, xm_tb_sel (List.mem_of_getElem? (i := 39) (by decide +kernel)) rfl, xm_tb_of (List.mem_of_getElem? (i := 7) (by decide +kernel)) rfl, ⟨by decide +kernel, by decide +kernel, by decide +kernel⟩⟩
theorem k_X6_144 : xm_FVN RX6 144 yX3_runAll "WindowMatches" cX3_runAll 4 (some .int) 1 := ⟨xm_tb_of (List.mem_of_getElem? (i := 296) (by decide +kernel)) rfl, xm_nest_of (List.mem_of_getElem? (i := 293) (by decide +kernel)) rfl, xm_tb_of (List.mem_of_getElem? (i := 295) (by decide +kernel)) rfl, xm_tb_sel (List.mem_of_getElem? (i := 5) (by decide +kernel)) rfl, xm_tb_of (List.mem_of_getElem? (i := 6) (by decide +kernel)) rfl, ⟨by decide +kernel, by decide +kernel, by decide +kernel⟩⟩
theorem k_X6_148 : xm_FVN RX6 148 yX3_shareOf "WindowMatches" cX3_shareOf 2 (some .int) 1 := ⟨xm_tb_of (List.mem_of_getElem? (i := 585) (by decide +kernel)) rfl, xm_nest_of (List.mem_of_getElem? (i := 582) (by decide +kernel)) rfl, xm_tb_of (List.mem_of_getElem? (i := 584) (by decide +kernel)) rfl, xm_tb_sel (List.mem_of_getElem? (i := 40) (by decide +kernel)) rfl, xm_tb_of (List.mem_of_getElem? (i := 6) (by decide +kernel)) rfl, ⟨by decide +kernel, by decide +kernel, by decide +kernel⟩⟩
theorem l_X6_151 : Cond.fieldLinkNest RX6 151 "WindowMatches$Pattern" "rule" "I" "WindowMatches" ∈ xm_nest := xm_nest_of (List.mem_of_getElem? (i := 41) (by decide +kernel)) rfl
theorem l_X6_154 : Cond.fieldLinkNest RX6 154 "WindowMatches$Pattern" "steps" "I" "WindowMatches" ∈ xm_nest := xm_nest_of (List.mem_of_getElem? (i := 45) (by decide +kernel)) rfl
theorem l_X6_157 : Cond.fieldLinkNest RX6 157 "WindowMatches$Pattern" "plainSteps" "I" "WindowMatches" ∈ xm_nest := xm_nest_of (List.mem_of_getElem? (i := 48) (by decide +kernel)) rfl
theorem k_X6_160 : xm_FV RX6 160 yX6_searchFor cX6_searchFor 2 none 1 := ⟨xm_tb_of (List.mem_of_getElem? (i := 520) (by decide +kernel)) rfl, xm_tb_of (List.mem_of_getElem? (i := 517) (by decide +kernel)) rfl, xm_tb_of (List.mem_of_getElem? (i := 519) (by decide +kernel)) rfl, xm_tb_sel (List.mem_of_getElem? (i := 33) (by decide +kernel)) rfl, xm_tb_of (List.mem_of_getElem? (i := 1) (by decide +kernel)) rfl, ⟨by decide +kernel, by decide +kernel, by decide +kernel⟩⟩
theorem l_X6_164 : Cond.fieldLinkNest RX6 164 "WindowMatches$Search" "matches" "I" "WindowMatches" ∈ xm_nest := xm_nest_of (List.mem_of_getElem? (i := 198) (by decide +kernel)) rfl
theorem l_X6_167 : Cond.fieldLinkNest RX6 167 "WindowMatches$Search" "sureMatches" "I" "WindowMatches" ∈ xm_nest := xm_nest_of (List.mem_of_getElem? (i := 200) (by decide +kernel)) rfl
theorem l_X6_170 : Cond.fieldLinkNest RX6 170 "WindowMatches$Search" "branches" "I" "WindowMatches" ∈ xm_nest := xm_nest_of (List.mem_of_getElem? (i := 202) (by decide +kernel)) rfl
theorem l_X6_173 : Cond.fieldLinkNest RX6 173 "WindowMatches$Pattern" "kinds" "[C" "WindowMatches" ∈ xm_nest := xm_nest_of (List.mem_of_getElem? (i := 51) (by decide +kernel)) rfl
theorem l_X6_174 : Cond.fieldLinkNest RX6 174 "WindowMatches$Pattern" "absent" "[Z" "WindowMatches" ∈ xm_nest := xm_nest_of (List.mem_of_getElem? (i := 54) (by decide +kernel)) rfl
theorem k_X6_178 : xm_FVN RX6 178 yX3_want "WindowMatches" cX3_want 3 none 2 := ⟨xm_tb_of (List.mem_of_getElem? (i := 573) (by decide +kernel)) rfl, xm_nest_of (List.mem_of_getElem? (i := 570) (by decide +kernel)) rfl, xm_tb_of (List.mem_of_getElem? (i := 572) (by decide +kernel)) rfl, xm_tb_sel (List.mem_of_getElem? (i := 38) (by decide +kernel)) rfl, xm_tb_of (List.mem_of_getElem? (i := 6) (by decide +kernel)) rfl, ⟨by decide +kernel, by decide +kernel, by decide +kernel⟩⟩
theorem l_X6_185 : Cond.fieldLinkNest RX6 185 "WindowMatches$Search" "wantedEvent" "I" "WindowMatches" ∈ xm_nest := xm_nest_of (List.mem_of_getElem? (i := 190) (by decide +kernel)) rfl
theorem k_X6_188 : xm_FVN RX6 188 yX1_insert "WindowMatches" cX1_insert 6 none 4 := ⟨xm_tb_of (List.mem_of_getElem? (i := 281) (by decide +kernel)) rfl, xm_nest_of (List.mem_of_getElem? (i := 347) (by decide +kernel)) rfl, xm_tb_of (List.mem_of_getElem? (i := 280) (by decide +kernel)) rfl, xm_tb_sel (List.mem_of_getElem? (i := 2) (by decide +kernel)) rfl, xm_tb_of (List.mem_of_getElem? (i := 7) (by decide +kernel)) rfl, ⟨by decide +kernel, by decide +kernel, by decide +kernel⟩⟩
theorem k_X6_195 : xm_FVN RX6 195 yX4_watermark "WindowMatches" cX4_watermark 1 (some .int) 0 := ⟨xm_tb_of (List.mem_of_getElem? (i := 289) (by decide +kernel)) rfl, xm_nest_of (List.mem_of_getElem? (i := 324) (by decide +kernel)) rfl, xm_tb_of (List.mem_of_getElem? (i := 288) (by decide +kernel)) rfl, xm_tb_sel (List.mem_of_getElem? (i := 4) (by decide +kernel)) rfl, xm_tb_of (List.mem_of_getElem? (i := 2) (by decide +kernel)) rfl, ⟨by decide +kernel, by decide +kernel, by decide +kernel⟩⟩
theorem k_X6_199 : xm_FVN RX6 199 yX3_placesWithoutShare "WindowMatches" cX3_placesWithoutShare 3 (some .int) 0 := ⟨xm_tb_of (List.mem_of_getElem? (i := 328) (by decide +kernel)) rfl, xm_nest_of (List.mem_of_getElem? (i := 325) (by decide +kernel)) rfl, xm_tb_of (List.mem_of_getElem? (i := 327) (by decide +kernel)) rfl, xm_tb_sel (List.mem_of_getElem? (i := 12) (by decide +kernel)) rfl, xm_tb_of (List.mem_of_getElem? (i := 6) (by decide +kernel)) rfl, ⟨by decide +kernel, by decide +kernel, by decide +kernel⟩⟩
def f_X3_run (n : Nat) (M : xm_M) (o1 : Nat) : Option xm_M := xm_lt (xm_up M 8 6 (M o1 0)) (fun M1 => xm_lt (xm_up M1 8 7 (M1 o1 1)) (fun M3 => xm_lt (xm_up M3 8 12 0) (fun M5 => xm_lt (xm_up M5 8 13 0) (fun M7 => xm_lt (xm_up M7 8 14 0) (fun M9 => xm_b1 (f_X3_takePlainSteps n M9 o1) (fun M11 => if (M11 8 8) ≤ 0 then some M11 else xm_b2 (f_X3_walkFrom n M11 0) (fun r16 M15 => some M15)))))))
set_option maxHeartbeats 4000000 in
set_option maxRecDepth 100000 in
theorem t_X3_run_0 {l : Launch} {p : Program} {e : Env} {s : State} {m : MethodId} {args : Array Value} {below : List Frame} {meth : Method} {c : Code} {E : xm_E} {a : Nat → Nat} (C : xm_C E (xv E a) p s m args meth c RX3 cX3_run 2 none) {o1 : Nat} (h1 : xm_Pa o1) (n : Nat) (M : xm_M) (M' : xm_M) : f_X3_run n M o1 = some M' → ∀ (H : Heap) (locs : List Loc) (ls : Array Slot), va_P E.1 vwCl (xm_w (xv E a) M) H → va_S (xm_A (xv E a) s.heap.size) s.heap H locs → lv_has ls 2 [(0, .ref (a 8)), (1, .ref (a o1))] → W p l e { frames := 6, cells := 0, slots := 0, locals := 153 } s m args below meth c H locs 0 0 (MQ below (xm_Q E (xv E a) M' s.heap.size none) args s 0 0 (xm_A (xv E a) s.heap.size)) (F0 m 0 ls []) := by
  have C9 := C
  obtain ⟨hx, hb, hml, hown, hts, hr, hlk, hD, hK, hS9⟩ := C9
  intro h H locs ls hP hS hl
  unfold f_X3_run at h
  refine lv_aload_n hx hb dX3_run_0 rfl (lv_at hl 0 rfl) ?_
  refine lv_aload_n hx hb dX3_run_1 rfl (lv_at hl 1 rfl) ?_
  refine xm_getN (V := (xv E a)) (T := TX2) (v := .int (M o1 0)) C hP o1 0 xi_2 rfl l_X3_87 rfl (xp_lt h1 0 (by omega)) ((xp_0 h1 E a) _) (Nat.le_of_ble_eq_true rfl) rfl dX3_run_2 ?_
  obtain ⟨M1, e2, h⟩ := xm_lt_s h
  refine xm_put (V := (xv E a)) (T := TX3) (ty := .int) (x := M o1 0) C hP hS 8 6 xi_3 rfl l_X3_34 rfl tyX3_ok nmX3 (Nat.le_of_ble_eq_true rfl) ((xe_8 E a) _) (Nat.le_of_ble_eq_true rfl) rfl (by decide +kernel) rfl rfl (Nat.le_of_ble_eq_true rfl) ((xe_8 E a) _) dX3_run_5 (fun H locs hP hS => ?_)
  rw [← e2] at hP
  refine lv_aload_n hx hb dX3_run_8 rfl (lv_at hl 0 rfl) ?_
  refine lv_aload_n hx hb dX3_run_9 rfl (lv_at hl 1 rfl) ?_
  refine xm_getN (V := (xv E a)) (T := TX2) (v := .int (M1 o1 1)) C hP o1 1 xi_2 rfl l_X3_90 rfl (xp_lt h1 0 (by omega)) ((xp_0 h1 E a) _) (Nat.le_of_ble_eq_true rfl) rfl dX3_run_10 ?_
  obtain ⟨M3, e4, h⟩ := xm_lt_s h
  refine xm_put (V := (xv E a)) (T := TX3) (ty := .int) (x := M1 o1 1) C hP hS 8 7 xi_3 rfl l_X3_37 rfl tyX3_ok nmX3 (Nat.le_of_ble_eq_true rfl) ((xe_8 E a) _) (Nat.le_of_ble_eq_true rfl) rfl (by decide +kernel) rfl rfl (Nat.le_of_ble_eq_true rfl) ((xe_8 E a) _) dX3_run_13 (fun H locs hP hS => ?_)
  rw [← e4] at hP
  refine lv_aload_n hx hb dX3_run_16 rfl (lv_at hl 0 rfl) ?_
  refine lv_iconst (v := 0) hx hb dX3_run_17 (by decide) ?_
  obtain ⟨M5, e6, h⟩ := xm_lt_s h
  refine xm_put (V := (xv E a)) (T := TX3) (ty := .int) (x := 0) C hP hS 8 12 xi_3 rfl l_X3_54 rfl tyX3_ok nmX3 (Nat.le_of_ble_eq_true rfl) ((xe_8 E a) _) (Nat.le_of_ble_eq_true rfl) rfl (by decide +kernel) rfl rfl (Nat.le_of_ble_eq_true rfl) ((xe_8 E a) _) dX3_run_18 (fun H locs hP hS => ?_)
  rw [← e6] at hP
  refine lv_aload_n hx hb dX3_run_21 rfl (lv_at hl 0 rfl) ?_
  refine lv_iconst (v := 0) hx hb dX3_run_22 (by decide) ?_
  obtain ⟨M7, e8, h⟩ := xm_lt_s h
  refine xm_put (V := (xv E a)) (T := TX3) (ty := .int) (x := 0) C hP hS 8 13 xi_3 rfl l_X3_57 rfl tyX3_ok nmX3 (Nat.le_of_ble_eq_true rfl) ((xe_8 E a) _) (Nat.le_of_ble_eq_true rfl) rfl (by decide +kernel) rfl rfl (Nat.le_of_ble_eq_true rfl) ((xe_8 E a) _) dX3_run_23 (fun H locs hP hS => ?_)
  rw [← e8] at hP
  refine lv_aload_n hx hb dX3_run_26 rfl (lv_at hl 0 rfl) ?_
  refine lv_iconst (v := 0) hx hb dX3_run_27 (by decide) ?_
  obtain ⟨M9, e10, h⟩ := xm_lt_s h
  refine xm_put (V := (xv E a)) (T := TX3) (ty := .int) (x := 0) C hP hS 8 14 xi_3 rfl l_X3_60 rfl tyX3_ok nmX3 (Nat.le_of_ble_eq_true rfl) ((xe_8 E a) _) (Nat.le_of_ble_eq_true rfl) rfl (by decide +kernel) rfl rfl (Nat.le_of_ble_eq_true rfl) ((xe_8 E a) _) dX3_run_28 (fun H locs hP hS => ?_)
  rw [← e10] at hP
  refine lv_aload_n hx hb dX3_run_31 rfl (lv_at hl 0 rfl) ?_
  refine lv_aload_n hx hb dX3_run_32 rfl (lv_at hl 1 rfl) ?_
  obtain ⟨M11, e13, h⟩ := xm_b1_s h
  refine xm_callV C hP hS [.ref (a o1)] [] (c_X3_takePlainSteps hD h1 n M9  M11 e13) k_X3_91 (xm_recv C hP 8 rfl (Nat.le_of_ble_eq_true rfl) ((xe_8 E a) _)) rfl rfl ⟨(Nat.le_of_ble_eq_true rfl), (Nat.le_of_ble_eq_true rfl)⟩ hl.1 (Nat.le_of_ble_eq_true rfl) ⟨Nat.zero_le _, Nat.zero_le _⟩ dX3_run_33 (fun H locs hP hS => ?_)
  change W p l e _ s m _ below meth c H locs 0 0 _ (F0 m 36 ls [])
  refine lv_aload_n hx hb dX3_run_36 rfl (lv_at hl 0 rfl) ?_
  refine xm_get (V := (xv E a)) (T := TX3) (v := .int (M11 8 8)) C hP 8 8 xi_3 rfl l_X3_40 rfl (Nat.le_of_ble_eq_true rfl) ((xe_8 E a) _) (Nat.le_of_ble_eq_true rfl) rfl dX3_run_37 ?_
  refine lv_if_le (tgt := 49) hx hb dX3_run_40 (by decide) (fun c14 => ?_) (fun c14 => ?_)
  · rw [if_pos c14] at h
    cases xm_on h
    exact xm_retV C hP hS dX3_run_49
  · rw [if_neg c14] at h
    refine lv_aload_n hx hb dX3_run_43 rfl (lv_at hl 0 rfl) ?_
    refine lv_iconst (v := 0) hx hb dX3_run_44 (by decide) ?_
    obtain ⟨r16, M15, e17, h⟩ := xm_b2_s h
    refine xm_callS C hP hS [.ref (a 8), .int 0] [] (c_X3_walkFrom hD  n M11 0 r16 M15 e17) k_X3_94  rfl rfl ⟨(Nat.le_of_ble_eq_true rfl), (Nat.le_of_ble_eq_true rfl)⟩ hl.1 (Nat.le_of_ble_eq_true rfl) ⟨Nat.zero_le _, Nat.zero_le _⟩ dX3_run_45 (fun H locs hP hS => ?_)
    change W p l e _ s m _ below meth c H locs 0 0 _ (F0 m 48 ls [.int r16])
    refine lv_pop hx hb dX3_run_48 rfl ?_
    cases xm_on h
    exact xm_retV C hP hS dX3_run_49
theorem c_X3_run {l : Launch} {E : xm_E} {a : Nat → Nat} (hD : xm_D (xv E a)) {o1 : Nat} (h1 : xm_Pa o1) (n : Nat) (M : xm_M) (M' : xm_M) (h : f_X3_run n M o1 = some M') : xm_Met l E (xv E a) yX3_run cX3_run 2 none 6 153 [.ref (a 8), .ref (a o1)] M M' none :=
  xm_met (by decide +kernel) rfl (Nat.le_of_ble_eq_true rfl) hD (fun p e s m below meth c C hP ls hl => t_X3_run_0 C h1 n M M' h _ _ _ hP va_S.rf hl)
def f_X3_runAll_4 : Nat → xm_M → Nat → Int32 → Int32 → Option (Int32 × xm_M)
  | 0, _, _, _, _ => none
  | n + 1, M, o1, x2, x3 => if (M o1 6) ≤ x3 then some (x2, M) else xm_ck (xm_in x3 4) (xm_b1 (f_X3_run n M (o1 + 5 + 3 * x3.toNatClampNeg)) (fun M3 => f_X3_runAll_4 n M3 o1 (x2 + (M3 8 12)) (x3 + 1)))
set_option maxHeartbeats 4000000 in
set_option maxRecDepth 100000 in
theorem t_X3_runAll_4 {l : Launch} {p : Program} {e : Env} {s : State} {m : MethodId} {args : Array Value} {below : List Frame} {meth : Method} {c : Code} {E : xm_E} {a : Nat → Nat} (C : xm_C E (xv E a) p s m args meth c RX3 cX3_runAll 4 (some .int)) {o1 : Nat} (h1 : xm_St o1) : ∀ (n : Nat) (M : xm_M) (x2 : Int32) (x3 : Int32) (r : Int32) (M' : xm_M), f_X3_runAll_4 n M o1 x2 x3 = some (r, M') → ∀ (H : Heap) (locs : List Loc) (ls : Array Slot), va_P E.1 vwCl (xm_w (xv E a) M) H → va_S (xm_A (xv E a) s.heap.size) s.heap H locs → lv_has ls 4 [(0, .ref (a 8)), (1, .ref (a o1)), (2, .int x2), (3, .int x3)] → W p l e { frames := 7, cells := 0, slots := 0, locals := 174 } s m args below meth c H locs 0 0 (MQ below (xm_Q E (xv E a) M' s.heap.size (some r)) args s 0 0 (xm_A (xv E a) s.heap.size)) (F0 m 4 ls []) := by
  have C9 := C
  obtain ⟨hx, hb, hml, hown, hts, hr, hlk, hD, hK, hS9⟩ := C9
  intro n
  induction n with
  | zero =>
    intro M x2 x3 r M' h
    cases h
  | succ n ih =>
    intro M x2 x3 r M' h H locs ls hP hS hl
    rw [f_X3_runAll_4] at h
    refine lv_iload_n hx hb dX3_runAll_4 rfl (lv_at hl 3 rfl) ?_
    refine lv_aload_n hx hb dX3_runAll_5 rfl (lv_at hl 1 rfl) ?_
    refine xm_getN (V := (xv E a)) (T := TX4) (v := .int (M o1 6)) C hP o1 6 xi_4 rfl l_X3_76 rfl (xs_lt h1 0 (by omega)) ((xs_0 h1 E a) _) (Nat.le_of_ble_eq_true rfl) rfl dX3_runAll_6 ?_
    refine lv_icmp_ge (tgt := 35) hx hb dX3_runAll_9 (by decide) (fun c1 => ?_) (fun c1 => ?_)
    · rw [if_pos c1] at h
      refine lv_iload_n hx hb dX3_runAll_35 rfl (lv_at hl 2 rfl) ?_
      obtain ⟨rfl, rfl⟩ := xm_pr h
      exact xm_retI C hP hS dX3_runAll_36
    · rw [if_neg c1] at h
      refine lv_aload_n hx hb dX3_runAll_12 rfl (lv_at hl 0 rfl) ?_
      refine lv_aload_n hx hb dX3_runAll_13 rfl (lv_at hl 1 rfl) ?_
      refine xm_getN (V := (xv E a)) (T := TX4) (v := .ref (a (o1 + 4))) C hP o1 7 xi_4 rfl l_X3_79 rfl (xs_lt h1 0 (by omega)) ((xs_0 h1 E a) _) (Nat.le_of_ble_eq_true rfl) rfl dX3_runAll_14 ?_
      refine lv_iload_n hx hb dX3_runAll_17 rfl (lv_at hl 3 rfl) ?_
      obtain ⟨b2, h⟩ := xm_ck_s h
      refine xm_aald (V := (xv E a)) (K := RX2) (v := a (o1 + 5 + 3 * x3.toNatClampNeg)) C hP (o1 + 4) 4 4 (xs_lt h1 4 (by omega)) (xs_4 h1 E a) rfl b2 (xo_rp_at b2) dX3_runAll_18 ?_
      obtain ⟨M3, e5, h⟩ := xm_b1_s h
      refine xm_callV C hP hS [.ref (a (o1 + 5 + 3 * x3.toNatClampNeg))] [] (c_X3_run hD (xp_s h1 b2) n M  M3 e5) k_X3_83 (xm_recv C hP 8 rfl (Nat.le_of_ble_eq_true rfl) ((xe_8 E a) _)) rfl rfl ⟨(Nat.le_of_ble_eq_true rfl), (Nat.le_of_ble_eq_true rfl)⟩ hl.1 (Nat.le_of_ble_eq_true rfl) ⟨Nat.zero_le _, Nat.zero_le _⟩ dX3_runAll_19 (fun H locs hP hS => ?_)
      change W p l e _ s m _ below meth c H locs 0 0 _ (F0 m 22 ls [])
      refine lv_iload_n hx hb dX3_runAll_22 rfl (lv_at hl 2 rfl) ?_
      refine lv_aload_n hx hb dX3_runAll_23 rfl (lv_at hl 0 rfl) ?_
      refine xm_get (V := (xv E a)) (T := TX3) (v := .int (M3 8 12)) C hP 8 12 xi_3 rfl l_X3_54 rfl (Nat.le_of_ble_eq_true rfl) ((xe_8 E a) _) (Nat.le_of_ble_eq_true rfl) rfl dX3_runAll_24 ?_
      refine lv_iadd hx hb dX3_runAll_27 ?_
      refine lv_istore_n (lv' := [(2, .int (x2 + (M3 8 12))), (0, .ref (a 8)), (1, .ref (a o1)), (3, .int x3)]) hx hb dX3_runAll_28 rfl hl (by decide) rfl (fun ls hl => ?_)
      refine lv_iinc (v := x3 + 1) (lv' := [(3, .int (x3 + 1)), (2, .int (x2 + (M3 8 12))), (0, .ref (a 8)), (1, .ref (a o1))]) hx hb dX3_runAll_29 hl (k := 3) rfl (xm_add (by decide)) (by decide) rfl (fun ls hl => ?_)
      refine lv_goto (tgt := 4) hx hb dX3_runAll_32 (by decide) ?_
      exact ih M3 (x2 + (M3 8 12)) (x3 + 1) r M' h _ _ _ hP hS (lv_sub hl [2, 3, 1, 0] rfl)
def f_X3_runAll (n : Nat) (M : xm_M) (o1 : Nat) : Option (Int32 × xm_M) := f_X3_runAll_4 n M o1 0 0
set_option maxHeartbeats 4000000 in
set_option maxRecDepth 100000 in
theorem t_X3_runAll_0 {l : Launch} {p : Program} {e : Env} {s : State} {m : MethodId} {args : Array Value} {below : List Frame} {meth : Method} {c : Code} {E : xm_E} {a : Nat → Nat} (C : xm_C E (xv E a) p s m args meth c RX3 cX3_runAll 4 (some .int)) {o1 : Nat} (h1 : xm_St o1) (n : Nat) (M : xm_M) (r : Int32) (M' : xm_M) : f_X3_runAll n M o1 = some (r, M') → ∀ (H : Heap) (locs : List Loc) (ls : Array Slot), va_P E.1 vwCl (xm_w (xv E a) M) H → va_S (xm_A (xv E a) s.heap.size) s.heap H locs → lv_has ls 4 [(0, .ref (a 8)), (1, .ref (a o1))] → W p l e { frames := 7, cells := 0, slots := 0, locals := 174 } s m args below meth c H locs 0 0 (MQ below (xm_Q E (xv E a) M' s.heap.size (some r)) args s 0 0 (xm_A (xv E a) s.heap.size)) (F0 m 0 ls []) := by
  have C9 := C
  obtain ⟨hx, hb, hml, hown, hts, hr, hlk, hD, hK, hS9⟩ := C9
  intro h H locs ls hP hS hl
  unfold f_X3_runAll at h
  refine lv_iconst (v := 0) hx hb dX3_runAll_0 (by decide) ?_
  refine lv_istore_n (lv' := [(2, .int 0), (0, .ref (a 8)), (1, .ref (a o1))]) hx hb dX3_runAll_1 rfl hl (by decide) rfl (fun ls hl => ?_)
  refine lv_iconst (v := 0) hx hb dX3_runAll_2 (by decide) ?_
  refine lv_istore_n (lv' := [(3, .int 0), (2, .int 0), (0, .ref (a 8)), (1, .ref (a o1))]) hx hb dX3_runAll_3 rfl hl (by decide) rfl (fun ls hl => ?_)
  exact t_X3_runAll_4 C h1 n M 0 0 r M' h _ _ _ hP hS (lv_sub hl [2, 3, 1, 0] rfl)
theorem c_X3_runAll {l : Launch} {E : xm_E} {a : Nat → Nat} (hD : xm_D (xv E a)) {o1 : Nat} (h1 : xm_St o1) (n : Nat) (M : xm_M) (r : Int32) (M' : xm_M) (h : f_X3_runAll n M o1 = some (r, M')) : xm_Met l E (xv E a) yX3_runAll cX3_runAll 4 (some .int) 7 174 [.ref (a 8), .ref (a o1)] M M' (some r) :=
  xm_met (by decide +kernel) rfl (Nat.le_of_ble_eq_true rfl) hD (fun p e s m below meth c C hP ls hl => t_X3_runAll_0 C h1 n M r M' h _ _ _ hP va_S.rf hl)
def f_X6_isPattern (n : Nat) (M : xm_M) (x1 : Int32) : Option (Int32 × xm_M) := if x1 < 0 then some (0, M) else if (M 18 6) ≤ x1 then some (0, M) else some (1, M)
set_option maxHeartbeats 4000000 in
set_option maxRecDepth 100000 in
theorem t_X6_isPattern_0 {l : Launch} {p : Program} {e : Env} {s : State} {m : MethodId} {args : Array Value} {below : List Frame} {meth : Method} {c : Code} {E : xm_E} {a : Nat → Nat} (C : xm_C E (xv E a) p s m args meth c RX6 cX6_isPattern 2 (some .boolean)) (n : Nat) (M : xm_M) (x1 : Int32) (r : Int32) (M' : xm_M) : f_X6_isPattern n M x1 = some (r, M') → ∀ (H : Heap) (locs : List Loc) (ls : Array Slot), va_P E.1 vwCl (xm_w (xv E a) M) H → va_S (xm_A (xv E a) s.heap.size) s.heap H locs → lv_has ls 2 [(0, .ref (a 0)), (1, .int x1)] → W p l e { frames := 0, cells := 0, slots := 0, locals := 0 } s m args below meth c H locs 0 0 (MQ below (xm_Q E (xv E a) M' s.heap.size (some r)) args s 0 0 (xm_A (xv E a) s.heap.size)) (F0 m 0 ls []) := by
  have C9 := C
  obtain ⟨hx, hb, hml, hown, hts, hr, hlk, hD, hK, hS9⟩ := C9
  intro h H locs ls hP hS hl
  unfold f_X6_isPattern at h
  refine lv_iload_n hx hb dX6_isPattern_0 rfl (lv_at hl 1 rfl) ?_
  refine lv_if_lt (tgt := 19) hx hb dX6_isPattern_1 (by decide) (fun c1 => ?_) (fun c1 => ?_)
  · rw [if_pos c1] at h
    refine lv_iconst (v := 0) hx hb dX6_isPattern_19 (by decide) ?_
    obtain ⟨rfl, rfl⟩ := xm_pr h
    exact xm_retZ C hP hS (by rfl) dX6_isPattern_20
  · rw [if_neg c1] at h
    refine lv_iload_n hx hb dX6_isPattern_4 rfl (lv_at hl 1 rfl) ?_
    refine lv_aload_n hx hb dX6_isPattern_5 rfl (lv_at hl 0 rfl) ?_
    refine xm_get (V := (xv E a)) (T := TX6) (v := .ref (a 18)) C hP 0 0 xi_6 rfl l_X6_10 rfl (Nat.le_of_ble_eq_true rfl) ((xe_0 E a) _) (Nat.le_of_ble_eq_true rfl) rfl dX6_isPattern_6 ?_
    refine xm_getN (V := (xv E a)) (T := TX4) (v := .int (M 18 6)) C hP 18 6 xi_4 rfl l_X6_85 rfl (xs_lt xs_18 0 (by omega)) ((xs_0 xs_18 E a) _) (Nat.le_of_ble_eq_true rfl) rfl dX6_isPattern_9 ?_
    refine lv_icmp_ge (tgt := 19) hx hb dX6_isPattern_12 (by decide) (fun c2 => ?_) (fun c2 => ?_)
    · rw [if_pos c2] at h
      refine lv_iconst (v := 0) hx hb dX6_isPattern_19 (by decide) ?_
      obtain ⟨rfl, rfl⟩ := xm_pr h
      exact xm_retZ C hP hS (by rfl) dX6_isPattern_20
    · rw [if_neg c2] at h
      refine lv_iconst (v := 1) hx hb dX6_isPattern_15 (by decide) ?_
      refine lv_goto (tgt := 20) hx hb dX6_isPattern_16 (by decide) ?_
      obtain ⟨rfl, rfl⟩ := xm_pr h
      exact xm_retZ C hP hS (by rfl) dX6_isPattern_20
theorem c_X6_isPattern {l : Launch} {E : xm_E} {a : Nat → Nat} (hD : xm_D (xv E a)) (n : Nat) (M : xm_M) (x1 : Int32) (r : Int32) (M' : xm_M) (h : f_X6_isPattern n M x1 = some (r, M')) : xm_Met l E (xv E a) yX6_isPattern cX6_isPattern 2 (some .boolean) 0 0 [.ref (a 0), .int x1] M M' (some r) :=
  xm_met (by decide +kernel) rfl (Nat.le_of_ble_eq_true rfl) hD (fun p e s m below meth c C hP ls hl => t_X6_isPattern_0 C  n M x1 r M' h _ _ _ hP va_S.rf hl)
def f_X6_errorOfEvent (n : Nat) (M : xm_M) (x1 : Int32) (x2 : Int32) (x3 : Int32) : Option (Int32 × xm_M) := xm_b2 (f_X6_isKind n M x1) (fun r2 M1 => if r2 = 0 then some ((-2), M1) else xm_b2 (f_X6_isWithin n M1 x2 0 99) (fun r6 M5 => if r6 = 0 then some ((-2), M5) else xm_b2 (f_X6_isWithin n M5 x3 0 9999) (fun r10 M9 => if r10 = 0 then some ((-2), M9) else if ((M9 18 4) - (M9 18 5)) ≤ x3 then some (0, M9) else some ((-4), M9))))
set_option maxHeartbeats 4000000 in
set_option maxRecDepth 100000 in
theorem t_X6_errorOfEvent_0 {l : Launch} {p : Program} {e : Env} {s : State} {m : MethodId} {args : Array Value} {below : List Frame} {meth : Method} {c : Code} {E : xm_E} {a : Nat → Nat} (C : xm_C E (xv E a) p s m args meth c RX6 cX6_errorOfEvent 4 (some .int)) (n : Nat) (M : xm_M) (x1 : Int32) (x2 : Int32) (x3 : Int32) (r : Int32) (M' : xm_M) : f_X6_errorOfEvent n M x1 x2 x3 = some (r, M') → ∀ (H : Heap) (locs : List Loc) (ls : Array Slot), va_P E.1 vwCl (xm_w (xv E a) M) H → va_S (xm_A (xv E a) s.heap.size) s.heap H locs → lv_has ls 4 [(0, .ref (a 0)), (1, .int x1), (2, .int x2), (3, .int x3)] → W p l e { frames := 1, cells := 0, slots := 0, locals := 22 } s m args below meth c H locs 0 0 (MQ below (xm_Q E (xv E a) M' s.heap.size (some r)) args s 0 0 (xm_A (xv E a) s.heap.size)) (F0 m 0 ls []) := by
  have C9 := C
  obtain ⟨hx, hb, hml, hown, hts, hr, hlk, hD, hK, hS9⟩ := C9
  intro h H locs ls hP hS hl
  unfold f_X6_errorOfEvent at h
  refine lv_iload_n hx hb dX6_errorOfEvent_0 rfl (lv_at hl 1 rfl) ?_
  obtain ⟨r2, M1, e3, h⟩ := xm_b2_s h
  refine xm_callS C hP hS [.int x1] [] (c_X6_isKind hD  n M x1 r2 M1 e3) k_X6_202  rfl rfl ⟨(Nat.le_of_ble_eq_true rfl), (Nat.le_of_ble_eq_true rfl)⟩ hl.1 (Nat.le_of_ble_eq_true rfl) ⟨Nat.zero_le _, Nat.zero_le _⟩ dX6_errorOfEvent_1 (fun H locs hP hS => ?_)
  change W p l e _ s m _ below meth c H locs 0 0 _ (F0 m 4 ls [.int r2])
  refine lv_if_eq (tgt := 28) hx hb dX6_errorOfEvent_4 (by decide) (fun c4 => ?_) (fun c4 => ?_)
  · rw [if_pos c4] at h
    refine lv_bipush (v := (-2)) hx hb dX6_errorOfEvent_28 (by decide) ?_
    obtain ⟨rfl, rfl⟩ := xm_pr h
    exact xm_retI C hP hS dX6_errorOfEvent_30
  · rw [if_neg c4] at h
    refine lv_iload_n hx hb dX6_errorOfEvent_7 rfl (lv_at hl 2 rfl) ?_
    refine lv_iconst (v := 0) hx hb dX6_errorOfEvent_8 (by decide) ?_
    refine lv_bipush (v := 99) hx hb dX6_errorOfEvent_9 (by decide) ?_
    obtain ⟨r6, M5, e7, h⟩ := xm_b2_s h
    refine xm_callS C hP hS [.int x2, .int 0, .int 99] [] (c_X6_isWithin hD  n M1 x2 0 99 r6 M5 e7) k_X6_66  rfl rfl ⟨(Nat.le_of_ble_eq_true rfl), (Nat.le_of_ble_eq_true rfl)⟩ hl.1 (Nat.le_of_ble_eq_true rfl) ⟨Nat.zero_le _, Nat.zero_le _⟩ dX6_errorOfEvent_11 (fun H locs hP hS => ?_)
    change W p l e _ s m _ below meth c H locs 0 0 _ (F0 m 14 ls [.int r6])
    refine lv_if_eq (tgt := 28) hx hb dX6_errorOfEvent_14 (by decide) (fun c8 => ?_) (fun c8 => ?_)
    · rw [if_pos c8] at h
      refine lv_bipush (v := (-2)) hx hb dX6_errorOfEvent_28 (by decide) ?_
      obtain ⟨rfl, rfl⟩ := xm_pr h
      exact xm_retI C hP hS dX6_errorOfEvent_30
    · rw [if_neg c8] at h
      refine lv_iload_n hx hb dX6_errorOfEvent_17 rfl (lv_at hl 3 rfl) ?_
      refine lv_iconst (v := 0) hx hb dX6_errorOfEvent_18 (by decide) ?_
      refine lv_sipush (v := 9999) hx hb dX6_errorOfEvent_19 (by decide) ?_
      obtain ⟨r10, M9, e11, h⟩ := xm_b2_s h
      refine xm_callS C hP hS [.int x3, .int 0, .int 9999] [] (c_X6_isWithin hD  n M5 x3 0 9999 r10 M9 e11) k_X6_66  rfl rfl ⟨(Nat.le_of_ble_eq_true rfl), (Nat.le_of_ble_eq_true rfl)⟩ hl.1 (Nat.le_of_ble_eq_true rfl) ⟨Nat.zero_le _, Nat.zero_le _⟩ dX6_errorOfEvent_22 (fun H locs hP hS => ?_)
      change W p l e _ s m _ below meth c H locs 0 0 _ (F0 m 25 ls [.int r10])
      refine lv_if_ne (tgt := 31) hx hb dX6_errorOfEvent_25 (by decide) (fun c12 => ?_) (fun c12 => ?_)
      · rw [if_neg c12] at h
        refine lv_iload_n hx hb dX6_errorOfEvent_31 rfl (lv_at hl 3 rfl) ?_
        refine lv_aload_n hx hb dX6_errorOfEvent_32 rfl (lv_at hl 0 rfl) ?_
        refine xm_get (V := (xv E a)) (T := TX6) (v := .ref (a 18)) C hP 0 0 xi_6 rfl l_X6_10 rfl (Nat.le_of_ble_eq_true rfl) ((xe_0 E a) _) (Nat.le_of_ble_eq_true rfl) rfl dX6_errorOfEvent_33 ?_
        refine xm_getN (V := (xv E a)) (T := TX4) (v := .int (M9 18 4)) C hP 18 4 xi_4 rfl l_X6_192 rfl (xs_lt xs_18 0 (by omega)) ((xs_0 xs_18 E a) _) (Nat.le_of_ble_eq_true rfl) rfl dX6_errorOfEvent_36 ?_
        refine lv_aload_n hx hb dX6_errorOfEvent_39 rfl (lv_at hl 0 rfl) ?_
        refine xm_get (V := (xv E a)) (T := TX6) (v := .ref (a 18)) C hP 0 0 xi_6 rfl l_X6_10 rfl (Nat.le_of_ble_eq_true rfl) ((xe_0 E a) _) (Nat.le_of_ble_eq_true rfl) rfl dX6_errorOfEvent_40 ?_
        refine xm_getN (V := (xv E a)) (T := TX4) (v := .int (M9 18 5)) C hP 18 5 xi_4 rfl l_X6_78 rfl (xs_lt xs_18 0 (by omega)) ((xs_0 xs_18 E a) _) (Nat.le_of_ble_eq_true rfl) rfl dX6_errorOfEvent_43 ?_
        refine lv_isub hx hb dX6_errorOfEvent_46 ?_
        refine lv_icmp_ge (tgt := 55) hx hb dX6_errorOfEvent_47 (by decide) (fun c13 => ?_) (fun c13 => ?_)
        · rw [if_pos c13] at h
          refine lv_iconst (v := 0) hx hb dX6_errorOfEvent_55 (by decide) ?_
          obtain ⟨rfl, rfl⟩ := xm_pr h
          exact xm_retI C hP hS dX6_errorOfEvent_56
        · rw [if_neg c13] at h
          refine lv_bipush (v := (-4)) hx hb dX6_errorOfEvent_50 (by decide) ?_
          refine lv_goto (tgt := 56) hx hb dX6_errorOfEvent_52 (by decide) ?_
          obtain ⟨rfl, rfl⟩ := xm_pr h
          exact xm_retI C hP hS dX6_errorOfEvent_56
      · rw [if_pos c12] at h
        refine lv_bipush (v := (-2)) hx hb dX6_errorOfEvent_28 (by decide) ?_
        obtain ⟨rfl, rfl⟩ := xm_pr h
        exact xm_retI C hP hS dX6_errorOfEvent_30
theorem c_X6_errorOfEvent {l : Launch} {E : xm_E} {a : Nat → Nat} (hD : xm_D (xv E a)) (n : Nat) (M : xm_M) (x1 : Int32) (x2 : Int32) (x3 : Int32) (r : Int32) (M' : xm_M) (h : f_X6_errorOfEvent n M x1 x2 x3 = some (r, M')) : xm_Met l E (xv E a) yX6_errorOfEvent cX6_errorOfEvent 4 (some .int) 1 22 [.ref (a 0), .int x1, .int x2, .int x3] M M' (some r) :=
  xm_met (by decide +kernel) rfl (Nat.le_of_ble_eq_true rfl) hD (fun p e s m below meth c C hP ls hl => t_X6_errorOfEvent_0 C  n M x1 x2 x3 r M' h _ _ _ hP va_S.rf hl)
def f_X6_searchFor (n : Nat) (M : xm_M) (o1 : Nat) : Option xm_M := xm_b1 (f_X3_begin n M 18) (fun M1 => xm_b1 (f_X3_run n M1 o1) (fun M4 => some M4))
set_option maxHeartbeats 4000000 in
set_option maxRecDepth 100000 in
theorem t_X6_searchFor_0 {l : Launch} {p : Program} {e : Env} {s : State} {m : MethodId} {args : Array Value} {below : List Frame} {meth : Method} {c : Code} {E : xm_E} {a : Nat → Nat} (C : xm_C E (xv E a) p s m args meth c RX6 cX6_searchFor 2 none) {o1 : Nat} (h1 : xm_Pa o1) (n : Nat) (M : xm_M) (M' : xm_M) : f_X6_searchFor n M o1 = some M' → ∀ (H : Heap) (locs : List Loc) (ls : Array Slot), va_P E.1 vwCl (xm_w (xv E a) M) H → va_S (xm_A (xv E a) s.heap.size) s.heap H locs → lv_has ls 2 [(0, .ref (a 0)), (1, .ref (a o1))] → W p l e { frames := 7, cells := 0, slots := 0, locals := 174 } s m args below meth c H locs 0 0 (MQ below (xm_Q E (xv E a) M' s.heap.size none) args s 0 0 (xm_A (xv E a) s.heap.size)) (F0 m 0 ls []) := by
  have C9 := C
  obtain ⟨hx, hb, hml, hown, hts, hr, hlk, hD, hK, hS9⟩ := C9
  intro h H locs ls hP hS hl
  unfold f_X6_searchFor at h
  refine lv_aload_n hx hb dX6_searchFor_0 rfl (lv_at hl 0 rfl) ?_
  refine xm_get (V := (xv E a)) (T := TX6) (v := .ref (a 8)) C hP 0 6 xi_6 rfl l_X6_47 rfl (Nat.le_of_ble_eq_true rfl) ((xe_0 E a) _) (Nat.le_of_ble_eq_true rfl) rfl dX6_searchFor_1 ?_
  refine lv_aload_n hx hb dX6_searchFor_4 rfl (lv_at hl 0 rfl) ?_
  refine xm_get (V := (xv E a)) (T := TX6) (v := .ref (a 18)) C hP 0 0 xi_6 rfl l_X6_10 rfl (Nat.le_of_ble_eq_true rfl) ((xe_0 E a) _) (Nat.le_of_ble_eq_true rfl) rfl dX6_searchFor_5 ?_
  obtain ⟨M1, e3, h⟩ := xm_b1_s h
  refine xm_callVN C hP hS [.ref (a 18)] [] (c_X3_begin hD xs_18 n M  M1 e3) k_X6_132 (xm_recv C hP 8 rfl (Nat.le_of_ble_eq_true rfl) ((xe_8 E a) _)) rfl rfl ⟨(Nat.le_of_ble_eq_true rfl), (Nat.le_of_ble_eq_true rfl)⟩ hl.1 (Nat.le_of_ble_eq_true rfl) ⟨Nat.zero_le _, Nat.zero_le _⟩ dX6_searchFor_8 (fun H locs hP hS => ?_)
  change W p l e _ s m _ below meth c H locs 0 0 _ (F0 m 11 ls [])
  refine lv_aload_n hx hb dX6_searchFor_11 rfl (lv_at hl 0 rfl) ?_
  refine xm_get (V := (xv E a)) (T := TX6) (v := .ref (a 8)) C hP 0 6 xi_6 rfl l_X6_47 rfl (Nat.le_of_ble_eq_true rfl) ((xe_0 E a) _) (Nat.le_of_ble_eq_true rfl) rfl dX6_searchFor_12 ?_
  refine lv_aload_n hx hb dX6_searchFor_15 rfl (lv_at hl 1 rfl) ?_
  obtain ⟨M4, e6, h⟩ := xm_b1_s h
  refine xm_callVN C hP hS [.ref (a o1)] [] (c_X3_run hD h1 n M1  M4 e6) k_X6_182 (xm_recv C hP 8 rfl (Nat.le_of_ble_eq_true rfl) ((xe_8 E a) _)) rfl rfl ⟨(Nat.le_of_ble_eq_true rfl), (Nat.le_of_ble_eq_true rfl)⟩ hl.1 (Nat.le_of_ble_eq_true rfl) ⟨Nat.zero_le _, Nat.zero_le _⟩ dX6_searchFor_16 (fun H locs hP hS => ?_)
  change W p l e _ s m _ below meth c H locs 0 0 _ (F0 m 19 ls [])
  cases xm_on h
  exact xm_retV C hP hS dX6_searchFor_19
theorem c_X6_searchFor {l : Launch} {E : xm_E} {a : Nat → Nat} (hD : xm_D (xv E a)) {o1 : Nat} (h1 : xm_Pa o1) (n : Nat) (M : xm_M) (M' : xm_M) (h : f_X6_searchFor n M o1 = some M') : xm_Met l E (xv E a) yX6_searchFor cX6_searchFor 2 none 7 174 [.ref (a 0), .ref (a o1)] M M' none :=
  xm_met (by decide +kernel) rfl (Nat.le_of_ble_eq_true rfl) hD (fun p e s m below meth c C hP ls hl => t_X6_searchFor_0 C h1 n M M' h _ _ _ hP va_S.rf hl)
def f_X6_event (n : Nat) (M : xm_M) (x1 : Int32) (x2 : Int32) (x3 : Int32) : Option (Int32 × xm_M) := xm_b2 (f_X6_errorOfEvent n M x1 x2 x3) (fun r2 M1 => if r2 = 0 then if (M1 18 0) < 24 then xm_b1 (f_X0_record n M1 18) (fun M6 => xm_b2 (f_X4_addEvent n M6 18 x1 x2 x3) (fun r10 M9 => some (r10, M9))) else some ((-3), M1) else some (r2, M1))
set_option maxHeartbeats 4000000 in
set_option maxRecDepth 100000 in
theorem t_X6_event_0 {l : Launch} {p : Program} {e : Env} {s : State} {m : MethodId} {args : Array Value} {below : List Frame} {meth : Method} {c : Code} {E : xm_E} {a : Nat → Nat} (C : xm_C E (xv E a) p s m args meth c RX6 cX6_event 5 (some .int)) (n : Nat) (M : xm_M) (x1 : Int32) (x2 : Int32) (x3 : Int32) (r : Int32) (M' : xm_M) : f_X6_event n M x1 x2 x3 = some (r, M') → ∀ (H : Heap) (locs : List Loc) (ls : Array Slot), va_P E.1 vwCl (xm_w (xv E a) M) H → va_S (xm_A (xv E a) s.heap.size) s.heap H locs → lv_has ls 5 [(0, .ref (a 0)), (1, .int x1), (2, .int x2), (3, .int x3)] → W p l e { frames := 3, cells := 0, slots := 0, locals := 65 } s m args below meth c H locs 0 0 (MQ below (xm_Q E (xv E a) M' s.heap.size (some r)) args s 0 0 (xm_A (xv E a) s.heap.size)) (F0 m 0 ls []) := by
  have C9 := C
  obtain ⟨hx, hb, hml, hown, hts, hr, hlk, hD, hK, hS9⟩ := C9
  intro h H locs ls hP hS hl
  unfold f_X6_event at h
  refine lv_aload_n hx hb dX6_event_0 rfl (lv_at hl 0 rfl) ?_
  refine lv_iload_n hx hb dX6_event_1 rfl (lv_at hl 1 rfl) ?_
  refine lv_iload_n hx hb dX6_event_2 rfl (lv_at hl 2 rfl) ?_
  refine lv_iload_n hx hb dX6_event_3 rfl (lv_at hl 3 rfl) ?_
  obtain ⟨r2, M1, e3, h⟩ := xm_b2_s h
  refine xm_callV C hP hS [.int x1, .int x2, .int x3] [] (c_X6_errorOfEvent hD  n M x1 x2 x3 r2 M1 e3) k_X6_51 (xm_recv C hP 0 rfl (Nat.le_of_ble_eq_true rfl) ((xe_0 E a) _)) rfl rfl ⟨(Nat.le_of_ble_eq_true rfl), (Nat.le_of_ble_eq_true rfl)⟩ hl.1 (Nat.le_of_ble_eq_true rfl) ⟨Nat.zero_le _, Nat.zero_le _⟩ dX6_event_4 (fun H locs hP hS => ?_)
  change W p l e _ s m _ below meth c H locs 0 0 _ (F0 m 7 ls [.int r2])
  refine lv_istore (lv' := [(4, .int r2), (0, .ref (a 0)), (1, .int x1), (2, .int x2), (3, .int x3)]) hx hb dX6_event_7 hl (by decide) rfl (fun ls hl => ?_)
  refine lv_iload hx hb dX6_event_9 (lv_at hl 0 rfl) ?_
  refine lv_if_eq (tgt := 17) hx hb dX6_event_11 (by decide) (fun c4 => ?_) (fun c4 => ?_)
  · rw [if_pos c4] at h
    refine lv_aload_n hx hb dX6_event_17 rfl (lv_at hl 1 rfl) ?_
    refine xm_get (V := (xv E a)) (T := TX6) (v := .ref (a 18)) C hP 0 0 xi_6 rfl l_X6_10 rfl (Nat.le_of_ble_eq_true rfl) ((xe_0 E a) _) (Nat.le_of_ble_eq_true rfl) rfl dX6_event_18 ?_
    refine xm_getN (V := (xv E a)) (T := TX4) (v := .int (M1 18 0)) C hP 18 0 xi_4 rfl l_X6_55 rfl (xs_lt xs_18 0 (by omega)) ((xs_0 xs_18 E a) _) (Nat.le_of_ble_eq_true rfl) rfl dX6_event_21 ?_
    refine lv_bipush (v := 24) hx hb dX6_event_24 (by decide) ?_
    refine lv_icmp_lt (tgt := 32) hx hb dX6_event_26 (by decide) (fun c5 => ?_) (fun c5 => ?_)
    · rw [if_pos c5] at h
      refine lv_aload_n hx hb dX6_event_32 rfl (lv_at hl 1 rfl) ?_
      refine xm_get (V := (xv E a)) (T := TX6) (v := .ref (a 4)) C hP 0 3 xi_6 rfl l_X6_26 rfl (Nat.le_of_ble_eq_true rfl) ((xe_0 E a) _) (Nat.le_of_ble_eq_true rfl) rfl dX6_event_33 ?_
      refine lv_aload_n hx hb dX6_event_36 rfl (lv_at hl 1 rfl) ?_
      refine xm_get (V := (xv E a)) (T := TX6) (v := .ref (a 18)) C hP 0 0 xi_6 rfl l_X6_10 rfl (Nat.le_of_ble_eq_true rfl) ((xe_0 E a) _) (Nat.le_of_ble_eq_true rfl) rfl dX6_event_37 ?_
      obtain ⟨M6, e8, h⟩ := xm_b1_s h
      refine xm_callVN C hP hS [.ref (a 18)] [] (c_X0_record hD xs_18 n M1  M6 e8) k_X6_59 (xm_recv C hP 4 rfl (Nat.le_of_ble_eq_true rfl) ((xe_4 E a) _)) rfl rfl ⟨(Nat.le_of_ble_eq_true rfl), (Nat.le_of_ble_eq_true rfl)⟩ hl.1 (Nat.le_of_ble_eq_true rfl) ⟨Nat.zero_le _, Nat.zero_le _⟩ dX6_event_40 (fun H locs hP hS => ?_)
      change W p l e _ s m _ below meth c H locs 0 0 _ (F0 m 43 ls [])
      refine lv_aload_n hx hb dX6_event_43 rfl (lv_at hl 1 rfl) ?_
      refine xm_get (V := (xv E a)) (T := TX6) (v := .ref (a 18)) C hP 0 0 xi_6 rfl l_X6_10 rfl (Nat.le_of_ble_eq_true rfl) ((xe_0 E a) _) (Nat.le_of_ble_eq_true rfl) rfl dX6_event_44 ?_
      refine lv_iload_n hx hb dX6_event_47 rfl (lv_at hl 2 rfl) ?_
      refine lv_iload_n hx hb dX6_event_48 rfl (lv_at hl 3 rfl) ?_
      refine lv_iload_n hx hb dX6_event_49 rfl (lv_at hl 4 rfl) ?_
      obtain ⟨r10, M9, e11, h⟩ := xm_b2_s h
      refine xm_callVN C hP hS [.int x1, .int x2, .int x3] [] (c_X4_addEvent hD xs_18 n M6 x1 x2 x3 r10 M9 e11) k_X6_63 (xm_recv C hP 18 rfl (xs_lt xs_18 0 (by omega)) ((xs_0 xs_18 E a) _)) rfl rfl ⟨(Nat.le_of_ble_eq_true rfl), (Nat.le_of_ble_eq_true rfl)⟩ hl.1 (Nat.le_of_ble_eq_true rfl) ⟨Nat.zero_le _, Nat.zero_le _⟩ dX6_event_50 (fun H locs hP hS => ?_)
      change W p l e _ s m _ below meth c H locs 0 0 _ (F0 m 53 ls [.int r10])
      obtain ⟨rfl, rfl⟩ := xm_pr h
      exact xm_retI C hP hS dX6_event_53
    · rw [if_neg c5] at h
      refine lv_bipush (v := (-3)) hx hb dX6_event_29 (by decide) ?_
      obtain ⟨rfl, rfl⟩ := xm_pr h
      exact xm_retI C hP hS dX6_event_31
  · rw [if_neg c4] at h
    refine lv_iload hx hb dX6_event_14 (lv_at hl 0 rfl) ?_
    obtain ⟨rfl, rfl⟩ := xm_pr h
    exact xm_retI C hP hS dX6_event_16
theorem c_X6_event {l : Launch} {E : xm_E} {a : Nat → Nat} (hD : xm_D (xv E a)) (n : Nat) (M : xm_M) (x1 : Int32) (x2 : Int32) (x3 : Int32) (r : Int32) (M' : xm_M) (h : f_X6_event n M x1 x2 x3 = some (r, M')) : xm_Met l E (xv E a) yX6_event cX6_event 5 (some .int) 3 65 [.ref (a 0), .int x1, .int x2, .int x3] M M' (some r) :=
  xm_met (by decide +kernel) rfl (Nat.le_of_ble_eq_true rfl) hD (fun p e s m below meth c C hP ls hl => t_X6_event_0 C  n M x1 x2 x3 r M' h _ _ _ hP va_S.rf hl)
def f_X6_forget (n : Nat) (M : xm_M) (x1 : Int32) : Option (Int32 × xm_M) := xm_b2 (f_X6_isWithin n M x1 0 9999) (fun r2 M1 => if r2 = 0 then some ((-2), M1) else xm_b2 (f_X4_eventsAheadOf n M1 18 x1) (fun r6 M5 => if r6 = 0 then some ((-5), M5) else xm_b1 (f_X0_record n M5 18) (fun M9 => xm_b1 (f_X4_removeEventsAheadOf n M9 18 x1) (fun M12 => some (r6, M12)))))
set_option maxHeartbeats 4000000 in
set_option maxRecDepth 100000 in
theorem t_X6_forget_0 {l : Launch} {p : Program} {e : Env} {s : State} {m : MethodId} {args : Array Value} {below : List Frame} {meth : Method} {c : Code} {E : xm_E} {a : Nat → Nat} (C : xm_C E (xv E a) p s m args meth c RX6 cX6_forget 3 (some .int)) (n : Nat) (M : xm_M) (x1 : Int32) (r : Int32) (M' : xm_M) : f_X6_forget n M x1 = some (r, M') → ∀ (H : Heap) (locs : List Loc) (ls : Array Slot), va_P E.1 vwCl (xm_w (xv E a) M) H → va_S (xm_A (xv E a) s.heap.size) s.heap H locs → lv_has ls 3 [(0, .ref (a 0)), (1, .int x1)] → W p l e { frames := 3, cells := 0, slots := 0, locals := 65 } s m args below meth c H locs 0 0 (MQ below (xm_Q E (xv E a) M' s.heap.size (some r)) args s 0 0 (xm_A (xv E a) s.heap.size)) (F0 m 0 ls []) := by
  have C9 := C
  obtain ⟨hx, hb, hml, hown, hts, hr, hlk, hD, hK, hS9⟩ := C9
  intro h H locs ls hP hS hl
  unfold f_X6_forget at h
  refine lv_iload_n hx hb dX6_forget_0 rfl (lv_at hl 1 rfl) ?_
  refine lv_iconst (v := 0) hx hb dX6_forget_1 (by decide) ?_
  refine lv_sipush (v := 9999) hx hb dX6_forget_2 (by decide) ?_
  obtain ⟨r2, M1, e3, h⟩ := xm_b2_s h
  refine xm_callS C hP hS [.int x1, .int 0, .int 9999] [] (c_X6_isWithin hD  n M x1 0 9999 r2 M1 e3) k_X6_66  rfl rfl ⟨(Nat.le_of_ble_eq_true rfl), (Nat.le_of_ble_eq_true rfl)⟩ hl.1 (Nat.le_of_ble_eq_true rfl) ⟨Nat.zero_le _, Nat.zero_le _⟩ dX6_forget_5 (fun H locs hP hS => ?_)
  change W p l e _ s m _ below meth c H locs 0 0 _ (F0 m 8 ls [.int r2])
  refine lv_if_ne (tgt := 14) hx hb dX6_forget_8 (by decide) (fun c4 => ?_) (fun c4 => ?_)
  · rw [if_neg c4] at h
    refine lv_aload_n hx hb dX6_forget_14 rfl (lv_at hl 0 rfl) ?_
    refine xm_get (V := (xv E a)) (T := TX6) (v := .ref (a 18)) C hP 0 0 xi_6 rfl l_X6_10 rfl (Nat.le_of_ble_eq_true rfl) ((xe_0 E a) _) (Nat.le_of_ble_eq_true rfl) rfl dX6_forget_15 ?_
    refine lv_iload_n hx hb dX6_forget_18 rfl (lv_at hl 1 rfl) ?_
    obtain ⟨r6, M5, e7, h⟩ := xm_b2_s h
    refine xm_callVN C hP hS [.int x1] [] (c_X4_eventsAheadOf hD xs_18 n M1 x1 r6 M5 e7) k_X6_70 (xm_recv C hP 18 rfl (xs_lt xs_18 0 (by omega)) ((xs_0 xs_18 E a) _)) rfl rfl ⟨(Nat.le_of_ble_eq_true rfl), (Nat.le_of_ble_eq_true rfl)⟩ hl.1 (Nat.le_of_ble_eq_true rfl) ⟨Nat.zero_le _, Nat.zero_le _⟩ dX6_forget_19 (fun H locs hP hS => ?_)
    change W p l e _ s m _ below meth c H locs 0 0 _ (F0 m 22 ls [.int r6])
    refine lv_istore_n (lv' := [(2, .int r6), (0, .ref (a 0)), (1, .int x1)]) hx hb dX6_forget_22 rfl hl (by decide) rfl (fun ls hl => ?_)
    refine lv_iload_n hx hb dX6_forget_23 rfl (lv_at hl 0 rfl) ?_
    refine lv_if_ne (tgt := 30) hx hb dX6_forget_24 (by decide) (fun c8 => ?_) (fun c8 => ?_)
    · rw [if_neg c8] at h
      refine lv_aload_n hx hb dX6_forget_30 rfl (lv_at hl 1 rfl) ?_
      refine xm_get (V := (xv E a)) (T := TX6) (v := .ref (a 4)) C hP 0 3 xi_6 rfl l_X6_26 rfl (Nat.le_of_ble_eq_true rfl) ((xe_0 E a) _) (Nat.le_of_ble_eq_true rfl) rfl dX6_forget_31 ?_
      refine lv_aload_n hx hb dX6_forget_34 rfl (lv_at hl 1 rfl) ?_
      refine xm_get (V := (xv E a)) (T := TX6) (v := .ref (a 18)) C hP 0 0 xi_6 rfl l_X6_10 rfl (Nat.le_of_ble_eq_true rfl) ((xe_0 E a) _) (Nat.le_of_ble_eq_true rfl) rfl dX6_forget_35 ?_
      obtain ⟨M9, e11, h⟩ := xm_b1_s h
      refine xm_callVN C hP hS [.ref (a 18)] [] (c_X0_record hD xs_18 n M5  M9 e11) k_X6_59 (xm_recv C hP 4 rfl (Nat.le_of_ble_eq_true rfl) ((xe_4 E a) _)) rfl rfl ⟨(Nat.le_of_ble_eq_true rfl), (Nat.le_of_ble_eq_true rfl)⟩ hl.1 (Nat.le_of_ble_eq_true rfl) ⟨Nat.zero_le _, Nat.zero_le _⟩ dX6_forget_38 (fun H locs hP hS => ?_)
      change W p l e _ s m _ below meth c H locs 0 0 _ (F0 m 41 ls [])
      refine lv_aload_n hx hb dX6_forget_41 rfl (lv_at hl 1 rfl) ?_
      refine xm_get (V := (xv E a)) (T := TX6) (v := .ref (a 18)) C hP 0 0 xi_6 rfl l_X6_10 rfl (Nat.le_of_ble_eq_true rfl) ((xe_0 E a) _) (Nat.le_of_ble_eq_true rfl) rfl dX6_forget_42 ?_
      refine lv_iload_n hx hb dX6_forget_45 rfl (lv_at hl 2 rfl) ?_
      obtain ⟨M12, e14, h⟩ := xm_b1_s h
      refine xm_callVN C hP hS [.int x1] [] (c_X4_removeEventsAheadOf hD xs_18 n M9 x1 M12 e14) k_X6_74 (xm_recv C hP 18 rfl (xs_lt xs_18 0 (by omega)) ((xs_0 xs_18 E a) _)) rfl rfl ⟨(Nat.le_of_ble_eq_true rfl), (Nat.le_of_ble_eq_true rfl)⟩ hl.1 (Nat.le_of_ble_eq_true rfl) ⟨Nat.zero_le _, Nat.zero_le _⟩ dX6_forget_46 (fun H locs hP hS => ?_)
      change W p l e _ s m _ below meth c H locs 0 0 _ (F0 m 49 ls [])
      refine lv_iload_n hx hb dX6_forget_49 rfl (lv_at hl 0 rfl) ?_
      obtain ⟨rfl, rfl⟩ := xm_pr h
      exact xm_retI C hP hS dX6_forget_50
    · rw [if_pos c8] at h
      refine lv_bipush (v := (-5)) hx hb dX6_forget_27 (by decide) ?_
      obtain ⟨rfl, rfl⟩ := xm_pr h
      exact xm_retI C hP hS dX6_forget_29
  · rw [if_pos c4] at h
    refine lv_bipush (v := (-2)) hx hb dX6_forget_11 (by decide) ?_
    obtain ⟨rfl, rfl⟩ := xm_pr h
    exact xm_retI C hP hS dX6_forget_13
theorem c_X6_forget {l : Launch} {E : xm_E} {a : Nat → Nat} (hD : xm_D (xv E a)) (n : Nat) (M : xm_M) (x1 : Int32) (r : Int32) (M' : xm_M) (h : f_X6_forget n M x1 = some (r, M')) : xm_Met l E (xv E a) yX6_forget cX6_forget 3 (some .int) 3 65 [.ref (a 0), .int x1] M M' (some r) :=
  xm_met (by decide +kernel) rfl (Nat.le_of_ble_eq_true rfl) hD (fun p e s m below meth c C hP ls hl => t_X6_forget_0 C  n M x1 r M' h _ _ _ hP va_S.rf hl)
def f_X6_setLateness (n : Nat) (M : xm_M) (x1 : Int32) : Option (Int32 × xm_M) := xm_b2 (f_X6_isWithin n M x1 0 500) (fun r2 M1 => if r2 = 0 then some ((-2), M1) else if (M1 18 5) = x1 then some ((-5), M1) else xm_b1 (f_X0_record n M1 18) (fun M6 => xm_lt (xm_up M6 18 5 x1) (fun M9 => some (M1 18 5, M9))))
set_option maxHeartbeats 4000000 in
set_option maxRecDepth 100000 in
theorem t_X6_setLateness_0 {l : Launch} {p : Program} {e : Env} {s : State} {m : MethodId} {args : Array Value} {below : List Frame} {meth : Method} {c : Code} {E : xm_E} {a : Nat → Nat} (C : xm_C E (xv E a) p s m args meth c RX6 cX6_setLateness 3 (some .int)) (n : Nat) (M : xm_M) (x1 : Int32) (r : Int32) (M' : xm_M) : f_X6_setLateness n M x1 = some (r, M') → ∀ (H : Heap) (locs : List Loc) (ls : Array Slot), va_P E.1 vwCl (xm_w (xv E a) M) H → va_S (xm_A (xv E a) s.heap.size) s.heap H locs → lv_has ls 3 [(0, .ref (a 0)), (1, .int x1)] → W p l e { frames := 3, cells := 0, slots := 0, locals := 65 } s m args below meth c H locs 0 0 (MQ below (xm_Q E (xv E a) M' s.heap.size (some r)) args s 0 0 (xm_A (xv E a) s.heap.size)) (F0 m 0 ls []) := by
  have C9 := C
  obtain ⟨hx, hb, hml, hown, hts, hr, hlk, hD, hK, hS9⟩ := C9
  intro h H locs ls hP hS hl
  unfold f_X6_setLateness at h
  refine lv_iload_n hx hb dX6_setLateness_0 rfl (lv_at hl 1 rfl) ?_
  refine lv_iconst (v := 0) hx hb dX6_setLateness_1 (by decide) ?_
  refine lv_sipush (v := 500) hx hb dX6_setLateness_2 (by decide) ?_
  obtain ⟨r2, M1, e3, h⟩ := xm_b2_s h
  refine xm_callS C hP hS [.int x1, .int 0, .int 500] [] (c_X6_isWithin hD  n M x1 0 500 r2 M1 e3) k_X6_66  rfl rfl ⟨(Nat.le_of_ble_eq_true rfl), (Nat.le_of_ble_eq_true rfl)⟩ hl.1 (Nat.le_of_ble_eq_true rfl) ⟨Nat.zero_le _, Nat.zero_le _⟩ dX6_setLateness_5 (fun H locs hP hS => ?_)
  change W p l e _ s m _ below meth c H locs 0 0 _ (F0 m 8 ls [.int r2])
  refine lv_if_ne (tgt := 14) hx hb dX6_setLateness_8 (by decide) (fun c4 => ?_) (fun c4 => ?_)
  · rw [if_neg c4] at h
    refine lv_aload_n hx hb dX6_setLateness_14 rfl (lv_at hl 0 rfl) ?_
    refine xm_get (V := (xv E a)) (T := TX6) (v := .ref (a 18)) C hP 0 0 xi_6 rfl l_X6_10 rfl (Nat.le_of_ble_eq_true rfl) ((xe_0 E a) _) (Nat.le_of_ble_eq_true rfl) rfl dX6_setLateness_15 ?_
    refine xm_getN (V := (xv E a)) (T := TX4) (v := .int (M1 18 5)) C hP 18 5 xi_4 rfl l_X6_78 rfl (xs_lt xs_18 0 (by omega)) ((xs_0 xs_18 E a) _) (Nat.le_of_ble_eq_true rfl) rfl dX6_setLateness_18 ?_
    refine lv_istore_n (lv' := [(2, .int (M1 18 5)), (0, .ref (a 0)), (1, .int x1)]) hx hb dX6_setLateness_21 rfl hl (by decide) rfl (fun ls hl => ?_)
    refine lv_iload_n hx hb dX6_setLateness_22 rfl (lv_at hl 0 rfl) ?_
    refine lv_iload_n hx hb dX6_setLateness_23 rfl (lv_at hl 2 rfl) ?_
    refine lv_icmp_ne (tgt := 30) hx hb dX6_setLateness_24 (by decide) (fun c5 => ?_) (fun c5 => ?_)
    · rw [if_neg c5] at h
      refine lv_aload_n hx hb dX6_setLateness_30 rfl (lv_at hl 1 rfl) ?_
      refine xm_get (V := (xv E a)) (T := TX6) (v := .ref (a 4)) C hP 0 3 xi_6 rfl l_X6_26 rfl (Nat.le_of_ble_eq_true rfl) ((xe_0 E a) _) (Nat.le_of_ble_eq_true rfl) rfl dX6_setLateness_31 ?_
      refine lv_aload_n hx hb dX6_setLateness_34 rfl (lv_at hl 1 rfl) ?_
      refine xm_get (V := (xv E a)) (T := TX6) (v := .ref (a 18)) C hP 0 0 xi_6 rfl l_X6_10 rfl (Nat.le_of_ble_eq_true rfl) ((xe_0 E a) _) (Nat.le_of_ble_eq_true rfl) rfl dX6_setLateness_35 ?_
      obtain ⟨M6, e8, h⟩ := xm_b1_s h
      refine xm_callVN C hP hS [.ref (a 18)] [] (c_X0_record hD xs_18 n M1  M6 e8) k_X6_59 (xm_recv C hP 4 rfl (Nat.le_of_ble_eq_true rfl) ((xe_4 E a) _)) rfl rfl ⟨(Nat.le_of_ble_eq_true rfl), (Nat.le_of_ble_eq_true rfl)⟩ hl.1 (Nat.le_of_ble_eq_true rfl) ⟨Nat.zero_le _, Nat.zero_le _⟩ dX6_setLateness_38 (fun H locs hP hS => ?_)
      change W p l e _ s m _ below meth c H locs 0 0 _ (F0 m 41 ls [])
      refine lv_aload_n hx hb dX6_setLateness_41 rfl (lv_at hl 1 rfl) ?_
      refine xm_get (V := (xv E a)) (T := TX6) (v := .ref (a 18)) C hP 0 0 xi_6 rfl l_X6_10 rfl (Nat.le_of_ble_eq_true rfl) ((xe_0 E a) _) (Nat.le_of_ble_eq_true rfl) rfl dX6_setLateness_42 ?_
      refine lv_iload_n hx hb dX6_setLateness_45 rfl (lv_at hl 2 rfl) ?_
      obtain ⟨M9, e10, h⟩ := xm_lt_s h
      refine xm_putN (V := (xv E a)) (T := TX4) (ty := .int) (x := x1) C hP hS 18 5 xi_4 rfl l_X6_78 rfl tyX4_ok nmX4 (xs_lt xs_18 0 (by omega)) ((xs_0 xs_18 E a) _) (Nat.le_of_ble_eq_true rfl) rfl (by decide +kernel) rfl rfl (Nat.le_of_ble_eq_true rfl) ((xs_0 xs_18 E a) _) dX6_setLateness_46 (fun H locs hP hS => ?_)
      rw [← e10] at hP
      refine lv_iload_n hx hb dX6_setLateness_49 rfl (lv_at hl 0 rfl) ?_
      obtain ⟨rfl, rfl⟩ := xm_pr h
      exact xm_retI C hP hS dX6_setLateness_50
    · rw [if_pos c5] at h
      refine lv_bipush (v := (-5)) hx hb dX6_setLateness_27 (by decide) ?_
      obtain ⟨rfl, rfl⟩ := xm_pr h
      exact xm_retI C hP hS dX6_setLateness_29
  · rw [if_pos c4] at h
    refine lv_bipush (v := (-2)) hx hb dX6_setLateness_11 (by decide) ?_
    obtain ⟨rfl, rfl⟩ := xm_pr h
    exact xm_retI C hP hS dX6_setLateness_13
theorem c_X6_setLateness {l : Launch} {E : xm_E} {a : Nat → Nat} (hD : xm_D (xv E a)) (n : Nat) (M : xm_M) (x1 : Int32) (r : Int32) (M' : xm_M) (h : f_X6_setLateness n M x1 = some (r, M')) : xm_Met l E (xv E a) yX6_setLateness cX6_setLateness 3 (some .int) 3 65 [.ref (a 0), .int x1] M M' (some r) :=
  xm_met (by decide +kernel) rfl (Nat.le_of_ble_eq_true rfl) hD (fun p e s m below meth c C hP ls hl => t_X6_setLateness_0 C  n M x1 r M' h _ _ _ hP va_S.rf hl)
def f_X6_addPattern (n : Nat) (M : xm_M) : Option (Int32 × xm_M) := xm_b2 (f_X5_readInto n M 1) (fun r2 M1 => if r2 = ((-1)) then if (M1 18 6) < 4 then xm_b1 (f_X0_record n M1 18) (fun M6 => xm_b2 (f_X4_addCopyOf n M6 18 1) (fun r10 M9 => some (r10, M9))) else some ((-3), M1) else some (((-100)) - r2, M1))
set_option maxHeartbeats 4000000 in
set_option maxRecDepth 100000 in
theorem t_X6_addPattern_0 {l : Launch} {p : Program} {e : Env} {s : State} {m : MethodId} {args : Array Value} {below : List Frame} {meth : Method} {c : Code} {E : xm_E} {a : Nat → Nat} (C : xm_C E (xv E a) p s m args meth c RX6 cX6_addPattern 2 (some .int)) (n : Nat) (M : xm_M) (r : Int32) (M' : xm_M) : f_X6_addPattern n M = some (r, M') → ∀ (H : Heap) (locs : List Loc) (ls : Array Slot), va_P E.1 vwCl (xm_w (xv E a) M) H → va_S (xm_A (xv E a) s.heap.size) s.heap H locs → lv_has ls 2 [(0, .ref (a 0))] → W p l e { frames := 8, cells := 0, slots := 0, locals := 174 } s m args below meth c H locs 0 0 (MQ below (xm_Q E (xv E a) M' s.heap.size (some r)) args s 0 0 (xm_A (xv E a) s.heap.size)) (F0 m 0 ls []) := by
  have C9 := C
  obtain ⟨hx, hb, hml, hown, hts, hr, hlk, hD, hK, hS9⟩ := C9
  intro h H locs ls hP hS hl
  unfold f_X6_addPattern at h
  refine lv_aload_n hx hb dX6_addPattern_0 rfl (lv_at hl 0 rfl) ?_
  refine xm_get (V := (xv E a)) (T := TX6) (v := .ref (a 6)) C hP 0 4 xi_6 rfl l_X6_33 rfl (Nat.le_of_ble_eq_true rfl) ((xe_0 E a) _) (Nat.le_of_ble_eq_true rfl) rfl dX6_addPattern_1 ?_
  refine lv_aload_n hx hb dX6_addPattern_4 rfl (lv_at hl 0 rfl) ?_
  refine xm_get (V := (xv E a)) (T := TX6) (v := .ref (a 1)) C hP 0 5 xi_6 rfl l_X6_40 rfl (Nat.le_of_ble_eq_true rfl) ((xe_0 E a) _) (Nat.le_of_ble_eq_true rfl) rfl dX6_addPattern_5 ?_
  obtain ⟨r2, M1, e3, h⟩ := xm_b2_s h
  refine xm_callVN C hP hS [.ref (a 1)] [] (c_X5_readInto hD xp_1p n M  r2 M1 e3) k_X6_81 (xm_recv C hP 6 rfl (Nat.le_of_ble_eq_true rfl) ((xe_6 E a) _)) rfl rfl ⟨(Nat.le_of_ble_eq_true rfl), (Nat.le_of_ble_eq_true rfl)⟩ hl.1 (Nat.le_of_ble_eq_true rfl) ⟨Nat.zero_le _, Nat.zero_le _⟩ dX6_addPattern_8 (fun H locs hP hS => ?_)
  change W p l e _ s m _ below meth c H locs 0 0 _ (F0 m 11 ls [.int r2])
  refine lv_istore_n (lv' := [(1, .int r2), (0, .ref (a 0))]) hx hb dX6_addPattern_11 rfl hl (by decide) rfl (fun ls hl => ?_)
  refine lv_iload_n hx hb dX6_addPattern_12 rfl (lv_at hl 0 rfl) ?_
  refine lv_iconst (v := (-1)) hx hb dX6_addPattern_13 (by decide) ?_
  refine lv_icmp_eq (tgt := 22) hx hb dX6_addPattern_14 (by decide) (fun c4 => ?_) (fun c4 => ?_)
  · rw [if_pos c4] at h
    refine lv_aload_n hx hb dX6_addPattern_22 rfl (lv_at hl 1 rfl) ?_
    refine xm_get (V := (xv E a)) (T := TX6) (v := .ref (a 18)) C hP 0 0 xi_6 rfl l_X6_10 rfl (Nat.le_of_ble_eq_true rfl) ((xe_0 E a) _) (Nat.le_of_ble_eq_true rfl) rfl dX6_addPattern_23 ?_
    refine xm_getN (V := (xv E a)) (T := TX4) (v := .int (M1 18 6)) C hP 18 6 xi_4 rfl l_X6_85 rfl (xs_lt xs_18 0 (by omega)) ((xs_0 xs_18 E a) _) (Nat.le_of_ble_eq_true rfl) rfl dX6_addPattern_26 ?_
    refine lv_iconst (v := 4) hx hb dX6_addPattern_29 (by decide) ?_
    refine lv_icmp_lt (tgt := 36) hx hb dX6_addPattern_30 (by decide) (fun c5 => ?_) (fun c5 => ?_)
    · rw [if_pos c5] at h
      refine lv_aload_n hx hb dX6_addPattern_36 rfl (lv_at hl 1 rfl) ?_
      refine xm_get (V := (xv E a)) (T := TX6) (v := .ref (a 4)) C hP 0 3 xi_6 rfl l_X6_26 rfl (Nat.le_of_ble_eq_true rfl) ((xe_0 E a) _) (Nat.le_of_ble_eq_true rfl) rfl dX6_addPattern_37 ?_
      refine lv_aload_n hx hb dX6_addPattern_40 rfl (lv_at hl 1 rfl) ?_
      refine xm_get (V := (xv E a)) (T := TX6) (v := .ref (a 18)) C hP 0 0 xi_6 rfl l_X6_10 rfl (Nat.le_of_ble_eq_true rfl) ((xe_0 E a) _) (Nat.le_of_ble_eq_true rfl) rfl dX6_addPattern_41 ?_
      obtain ⟨M6, e8, h⟩ := xm_b1_s h
      refine xm_callVN C hP hS [.ref (a 18)] [] (c_X0_record hD xs_18 n M1  M6 e8) k_X6_59 (xm_recv C hP 4 rfl (Nat.le_of_ble_eq_true rfl) ((xe_4 E a) _)) rfl rfl ⟨(Nat.le_of_ble_eq_true rfl), (Nat.le_of_ble_eq_true rfl)⟩ hl.1 (Nat.le_of_ble_eq_true rfl) ⟨Nat.zero_le _, Nat.zero_le _⟩ dX6_addPattern_44 (fun H locs hP hS => ?_)
      change W p l e _ s m _ below meth c H locs 0 0 _ (F0 m 47 ls [])
      refine lv_aload_n hx hb dX6_addPattern_47 rfl (lv_at hl 1 rfl) ?_
      refine xm_get (V := (xv E a)) (T := TX6) (v := .ref (a 18)) C hP 0 0 xi_6 rfl l_X6_10 rfl (Nat.le_of_ble_eq_true rfl) ((xe_0 E a) _) (Nat.le_of_ble_eq_true rfl) rfl dX6_addPattern_48 ?_
      refine lv_aload_n hx hb dX6_addPattern_51 rfl (lv_at hl 1 rfl) ?_
      refine xm_get (V := (xv E a)) (T := TX6) (v := .ref (a 1)) C hP 0 5 xi_6 rfl l_X6_40 rfl (Nat.le_of_ble_eq_true rfl) ((xe_0 E a) _) (Nat.le_of_ble_eq_true rfl) rfl dX6_addPattern_52 ?_
      obtain ⟨r10, M9, e11, h⟩ := xm_b2_s h
      refine xm_callVN C hP hS [.ref (a 1)] [] (c_X4_addCopyOf hD xs_18 xp_1p n M6  r10 M9 e11) k_X6_88 (xm_recv C hP 18 rfl (xs_lt xs_18 0 (by omega)) ((xs_0 xs_18 E a) _)) rfl rfl ⟨(Nat.le_of_ble_eq_true rfl), (Nat.le_of_ble_eq_true rfl)⟩ hl.1 (Nat.le_of_ble_eq_true rfl) ⟨Nat.zero_le _, Nat.zero_le _⟩ dX6_addPattern_55 (fun H locs hP hS => ?_)
      change W p l e _ s m _ below meth c H locs 0 0 _ (F0 m 58 ls [.int r10])
      obtain ⟨rfl, rfl⟩ := xm_pr h
      exact xm_retI C hP hS dX6_addPattern_58
    · rw [if_neg c5] at h
      refine lv_bipush (v := (-3)) hx hb dX6_addPattern_33 (by decide) ?_
      obtain ⟨rfl, rfl⟩ := xm_pr h
      exact xm_retI C hP hS dX6_addPattern_35
  · rw [if_neg c4] at h
    refine lv_bipush (v := (-100)) hx hb dX6_addPattern_17 (by decide) ?_
    refine lv_iload_n hx hb dX6_addPattern_19 rfl (lv_at hl 0 rfl) ?_
    refine lv_isub hx hb dX6_addPattern_20 ?_
    obtain ⟨rfl, rfl⟩ := xm_pr h
    exact xm_retI C hP hS dX6_addPattern_21
theorem c_X6_addPattern {l : Launch} {E : xm_E} {a : Nat → Nat} (hD : xm_D (xv E a)) (n : Nat) (M : xm_M) (r : Int32) (M' : xm_M) (h : f_X6_addPattern n M = some (r, M')) : xm_Met l E (xv E a) yX6_addPattern cX6_addPattern 2 (some .int) 8 174 [.ref (a 0)] M M' (some r) :=
  xm_met (by decide +kernel) rfl (Nat.le_of_ble_eq_true rfl) hD (fun p e s m below meth c C hP ls hl => t_X6_addPattern_0 C  n M r M' h _ _ _ hP va_S.rf hl)
def f_X6_dropPattern (n : Nat) (M : xm_M) (x1 : Int32) : Option (Int32 × xm_M) := xm_b2 (f_X6_isPattern n M x1) (fun r2 M1 => if r2 = 0 then some ((-1), M1) else xm_b1 (f_X0_record n M1 18) (fun M5 => xm_b2 (f_X4_removePattern n M5 18 x1) (fun r9 M8 => some (r9, M8))))
set_option maxHeartbeats 4000000 in
set_option maxRecDepth 100000 in
theorem t_X6_dropPattern_0 {l : Launch} {p : Program} {e : Env} {s : State} {m : MethodId} {args : Array Value} {below : List Frame} {meth : Method} {c : Code} {E : xm_E} {a : Nat → Nat} (C : xm_C E (xv E a) p s m args meth c RX6 cX6_dropPattern 2 (some .int)) (n : Nat) (M : xm_M) (x1 : Int32) (r : Int32) (M' : xm_M) : f_X6_dropPattern n M x1 = some (r, M') → ∀ (H : Heap) (locs : List Loc) (ls : Array Slot), va_P E.1 vwCl (xm_w (xv E a) M) H → va_S (xm_A (xv E a) s.heap.size) s.heap H locs → lv_has ls 2 [(0, .ref (a 0)), (1, .int x1)] → W p l e { frames := 3, cells := 0, slots := 0, locals := 65 } s m args below meth c H locs 0 0 (MQ below (xm_Q E (xv E a) M' s.heap.size (some r)) args s 0 0 (xm_A (xv E a) s.heap.size)) (F0 m 0 ls []) := by
  have C9 := C
  obtain ⟨hx, hb, hml, hown, hts, hr, hlk, hD, hK, hS9⟩ := C9
  intro h H locs ls hP hS hl
  unfold f_X6_dropPattern at h
  refine lv_aload_n hx hb dX6_dropPattern_0 rfl (lv_at hl 0 rfl) ?_
  refine lv_iload_n hx hb dX6_dropPattern_1 rfl (lv_at hl 1 rfl) ?_
  obtain ⟨r2, M1, e3, h⟩ := xm_b2_s h
  refine xm_callV C hP hS [.int x1] [] (c_X6_isPattern hD  n M x1 r2 M1 e3) k_X6_91 (xm_recv C hP 0 rfl (Nat.le_of_ble_eq_true rfl) ((xe_0 E a) _)) rfl rfl ⟨(Nat.le_of_ble_eq_true rfl), (Nat.le_of_ble_eq_true rfl)⟩ hl.1 (Nat.le_of_ble_eq_true rfl) ⟨Nat.zero_le _, Nat.zero_le _⟩ dX6_dropPattern_2 (fun H locs hP hS => ?_)
  change W p l e _ s m _ below meth c H locs 0 0 _ (F0 m 5 ls [.int r2])
  refine lv_if_ne (tgt := 10) hx hb dX6_dropPattern_5 (by decide) (fun c4 => ?_) (fun c4 => ?_)
  · rw [if_neg c4] at h
    refine lv_aload_n hx hb dX6_dropPattern_10 rfl (lv_at hl 0 rfl) ?_
    refine xm_get (V := (xv E a)) (T := TX6) (v := .ref (a 4)) C hP 0 3 xi_6 rfl l_X6_26 rfl (Nat.le_of_ble_eq_true rfl) ((xe_0 E a) _) (Nat.le_of_ble_eq_true rfl) rfl dX6_dropPattern_11 ?_
    refine lv_aload_n hx hb dX6_dropPattern_14 rfl (lv_at hl 0 rfl) ?_
    refine xm_get (V := (xv E a)) (T := TX6) (v := .ref (a 18)) C hP 0 0 xi_6 rfl l_X6_10 rfl (Nat.le_of_ble_eq_true rfl) ((xe_0 E a) _) (Nat.le_of_ble_eq_true rfl) rfl dX6_dropPattern_15 ?_
    obtain ⟨M5, e7, h⟩ := xm_b1_s h
    refine xm_callVN C hP hS [.ref (a 18)] [] (c_X0_record hD xs_18 n M1  M5 e7) k_X6_59 (xm_recv C hP 4 rfl (Nat.le_of_ble_eq_true rfl) ((xe_4 E a) _)) rfl rfl ⟨(Nat.le_of_ble_eq_true rfl), (Nat.le_of_ble_eq_true rfl)⟩ hl.1 (Nat.le_of_ble_eq_true rfl) ⟨Nat.zero_le _, Nat.zero_le _⟩ dX6_dropPattern_18 (fun H locs hP hS => ?_)
    change W p l e _ s m _ below meth c H locs 0 0 _ (F0 m 21 ls [])
    refine lv_aload_n hx hb dX6_dropPattern_21 rfl (lv_at hl 0 rfl) ?_
    refine xm_get (V := (xv E a)) (T := TX6) (v := .ref (a 18)) C hP 0 0 xi_6 rfl l_X6_10 rfl (Nat.le_of_ble_eq_true rfl) ((xe_0 E a) _) (Nat.le_of_ble_eq_true rfl) rfl dX6_dropPattern_22 ?_
    refine lv_iload_n hx hb dX6_dropPattern_25 rfl (lv_at hl 1 rfl) ?_
    obtain ⟨r9, M8, e10, h⟩ := xm_b2_s h
    refine xm_callVN C hP hS [.int x1] [] (c_X4_removePattern hD xs_18 n M5 x1 r9 M8 e10) k_X6_95 (xm_recv C hP 18 rfl (xs_lt xs_18 0 (by omega)) ((xs_0 xs_18 E a) _)) rfl rfl ⟨(Nat.le_of_ble_eq_true rfl), (Nat.le_of_ble_eq_true rfl)⟩ hl.1 (Nat.le_of_ble_eq_true rfl) ⟨Nat.zero_le _, Nat.zero_le _⟩ dX6_dropPattern_26 (fun H locs hP hS => ?_)
    change W p l e _ s m _ below meth c H locs 0 0 _ (F0 m 29 ls [.int r9])
    obtain ⟨rfl, rfl⟩ := xm_pr h
    exact xm_retI C hP hS dX6_dropPattern_29
  · rw [if_pos c4] at h
    refine lv_iconst (v := (-1)) hx hb dX6_dropPattern_8 (by decide) ?_
    obtain ⟨rfl, rfl⟩ := xm_pr h
    exact xm_retI C hP hS dX6_dropPattern_9
theorem c_X6_dropPattern {l : Launch} {E : xm_E} {a : Nat → Nat} (hD : xm_D (xv E a)) (n : Nat) (M : xm_M) (x1 : Int32) (r : Int32) (M' : xm_M) (h : f_X6_dropPattern n M x1 = some (r, M')) : xm_Met l E (xv E a) yX6_dropPattern cX6_dropPattern 2 (some .int) 3 65 [.ref (a 0), .int x1] M M' (some r) :=
  xm_met (by decide +kernel) rfl (Nat.le_of_ble_eq_true rfl) hD (fun p e s m below meth c C hP ls hl => t_X6_dropPattern_0 C  n M x1 r M' h _ _ _ hP va_S.rf hl)
def f_X6_setWindow (n : Nat) (M : xm_M) (x1 : Int32) (x2 : Int32) : Option (Int32 × xm_M) := xm_b2 (f_X6_isPattern n M x1) (fun r2 M1 => if r2 = 0 then some ((-1), M1) else xm_b2 (f_X6_isWithin n M1 x2 1 1000) (fun r6 M5 => if r6 = 0 then some ((-2), M5) else xm_ck (xm_in x1 4) (if (M5 (18 + 5 + 3 * x1.toNatClampNeg) 0) = x2 then some ((-5), M5) else xm_b1 (f_X0_record n M5 18) (fun M11 => xm_ck (xm_in x1 4) (xm_lt (xm_up M11 (18 + 5 + 3 * x1.toNatClampNeg) 0 x2) (fun M15 => some (M5 (18 + 5 + 3 * x1.toNatClampNeg) 0, M15)))))))
set_option maxHeartbeats 4000000 in
set_option maxRecDepth 100000 in
theorem t_X6_setWindow_0 {l : Launch} {p : Program} {e : Env} {s : State} {m : MethodId} {args : Array Value} {below : List Frame} {meth : Method} {c : Code} {E : xm_E} {a : Nat → Nat} (C : xm_C E (xv E a) p s m args meth c RX6 cX6_setWindow 4 (some .int)) (n : Nat) (M : xm_M) (x1 : Int32) (x2 : Int32) (r : Int32) (M' : xm_M) : f_X6_setWindow n M x1 x2 = some (r, M') → ∀ (H : Heap) (locs : List Loc) (ls : Array Slot), va_P E.1 vwCl (xm_w (xv E a) M) H → va_S (xm_A (xv E a) s.heap.size) s.heap H locs → lv_has ls 4 [(0, .ref (a 0)), (1, .int x1), (2, .int x2)] → W p l e { frames := 3, cells := 0, slots := 0, locals := 65 } s m args below meth c H locs 0 0 (MQ below (xm_Q E (xv E a) M' s.heap.size (some r)) args s 0 0 (xm_A (xv E a) s.heap.size)) (F0 m 0 ls []) := by
  have C9 := C
  obtain ⟨hx, hb, hml, hown, hts, hr, hlk, hD, hK, hS9⟩ := C9
  intro h H locs ls hP hS hl
  unfold f_X6_setWindow at h
  refine lv_aload_n hx hb dX6_setWindow_0 rfl (lv_at hl 0 rfl) ?_
  refine lv_iload_n hx hb dX6_setWindow_1 rfl (lv_at hl 1 rfl) ?_
  obtain ⟨r2, M1, e3, h⟩ := xm_b2_s h
  refine xm_callV C hP hS [.int x1] [] (c_X6_isPattern hD  n M x1 r2 M1 e3) k_X6_91 (xm_recv C hP 0 rfl (Nat.le_of_ble_eq_true rfl) ((xe_0 E a) _)) rfl rfl ⟨(Nat.le_of_ble_eq_true rfl), (Nat.le_of_ble_eq_true rfl)⟩ hl.1 (Nat.le_of_ble_eq_true rfl) ⟨Nat.zero_le _, Nat.zero_le _⟩ dX6_setWindow_2 (fun H locs hP hS => ?_)
  change W p l e _ s m _ below meth c H locs 0 0 _ (F0 m 5 ls [.int r2])
  refine lv_if_ne (tgt := 10) hx hb dX6_setWindow_5 (by decide) (fun c4 => ?_) (fun c4 => ?_)
  · rw [if_neg c4] at h
    refine lv_iload_n hx hb dX6_setWindow_10 rfl (lv_at hl 2 rfl) ?_
    refine lv_iconst (v := 1) hx hb dX6_setWindow_11 (by decide) ?_
    refine lv_sipush (v := 1000) hx hb dX6_setWindow_12 (by decide) ?_
    obtain ⟨r6, M5, e7, h⟩ := xm_b2_s h
    refine xm_callS C hP hS [.int x2, .int 1, .int 1000] [] (c_X6_isWithin hD  n M1 x2 1 1000 r6 M5 e7) k_X6_66  rfl rfl ⟨(Nat.le_of_ble_eq_true rfl), (Nat.le_of_ble_eq_true rfl)⟩ hl.1 (Nat.le_of_ble_eq_true rfl) ⟨Nat.zero_le _, Nat.zero_le _⟩ dX6_setWindow_15 (fun H locs hP hS => ?_)
    change W p l e _ s m _ below meth c H locs 0 0 _ (F0 m 18 ls [.int r6])
    refine lv_if_ne (tgt := 24) hx hb dX6_setWindow_18 (by decide) (fun c8 => ?_) (fun c8 => ?_)
    · rw [if_neg c8] at h
      refine lv_aload_n hx hb dX6_setWindow_24 rfl (lv_at hl 0 rfl) ?_
      refine xm_get (V := (xv E a)) (T := TX6) (v := .ref (a 18)) C hP 0 0 xi_6 rfl l_X6_10 rfl (Nat.le_of_ble_eq_true rfl) ((xe_0 E a) _) (Nat.le_of_ble_eq_true rfl) rfl dX6_setWindow_25 ?_
      refine xm_getN (V := (xv E a)) (T := TX4) (v := .ref (a (18 + 4))) C hP 18 7 xi_4 rfl l_X6_98 rfl (xs_lt xs_18 0 (by omega)) ((xs_0 xs_18 E a) _) (Nat.le_of_ble_eq_true rfl) rfl dX6_setWindow_28 ?_
      refine lv_iload_n hx hb dX6_setWindow_31 rfl (lv_at hl 1 rfl) ?_
      obtain ⟨b9, h⟩ := xm_ck_s h
      refine xm_aald (V := (xv E a)) (K := RX2) (v := a (18 + 5 + 3 * x1.toNatClampNeg)) C hP (18 + 4) 4 4 (xs_lt xs_18 4 (by omega)) (xs_4 xs_18 E a) rfl b9 (xo_rp_at b9) dX6_setWindow_32 ?_
      refine xm_getN (V := (xv E a)) (T := TX2) (v := .int (M5 (18 + 5 + 3 * x1.toNatClampNeg) 0)) C hP (18 + 5 + 3 * x1.toNatClampNeg) 0 xi_2 rfl l_X6_102 rfl (xp_lt (xp_s xs_18 b9) 0 (by omega)) ((xp_0 (xp_s xs_18 b9) E a) _) (Nat.le_of_ble_eq_true rfl) rfl dX6_setWindow_33 ?_
      refine lv_istore_n (lv' := [(3, .int (M5 (18 + 5 + 3 * x1.toNatClampNeg) 0)), (0, .ref (a 0)), (1, .int x1), (2, .int x2)]) hx hb dX6_setWindow_36 rfl hl (by decide) rfl (fun ls hl => ?_)
      refine lv_iload_n hx hb dX6_setWindow_37 rfl (lv_at hl 0 rfl) ?_
      refine lv_iload_n hx hb dX6_setWindow_38 rfl (lv_at hl 3 rfl) ?_
      refine lv_icmp_ne (tgt := 45) hx hb dX6_setWindow_39 (by decide) (fun c10 => ?_) (fun c10 => ?_)
      · rw [if_neg c10] at h
        refine lv_aload_n hx hb dX6_setWindow_45 rfl (lv_at hl 1 rfl) ?_
        refine xm_get (V := (xv E a)) (T := TX6) (v := .ref (a 4)) C hP 0 3 xi_6 rfl l_X6_26 rfl (Nat.le_of_ble_eq_true rfl) ((xe_0 E a) _) (Nat.le_of_ble_eq_true rfl) rfl dX6_setWindow_46 ?_
        refine lv_aload_n hx hb dX6_setWindow_49 rfl (lv_at hl 1 rfl) ?_
        refine xm_get (V := (xv E a)) (T := TX6) (v := .ref (a 18)) C hP 0 0 xi_6 rfl l_X6_10 rfl (Nat.le_of_ble_eq_true rfl) ((xe_0 E a) _) (Nat.le_of_ble_eq_true rfl) rfl dX6_setWindow_50 ?_
        obtain ⟨M11, e13, h⟩ := xm_b1_s h
        refine xm_callVN C hP hS [.ref (a 18)] [] (c_X0_record hD xs_18 n M5  M11 e13) k_X6_59 (xm_recv C hP 4 rfl (Nat.le_of_ble_eq_true rfl) ((xe_4 E a) _)) rfl rfl ⟨(Nat.le_of_ble_eq_true rfl), (Nat.le_of_ble_eq_true rfl)⟩ hl.1 (Nat.le_of_ble_eq_true rfl) ⟨Nat.zero_le _, Nat.zero_le _⟩ dX6_setWindow_53 (fun H locs hP hS => ?_)
        change W p l e _ s m _ below meth c H locs 0 0 _ (F0 m 56 ls [])
        refine lv_aload_n hx hb dX6_setWindow_56 rfl (lv_at hl 1 rfl) ?_
        refine xm_get (V := (xv E a)) (T := TX6) (v := .ref (a 18)) C hP 0 0 xi_6 rfl l_X6_10 rfl (Nat.le_of_ble_eq_true rfl) ((xe_0 E a) _) (Nat.le_of_ble_eq_true rfl) rfl dX6_setWindow_57 ?_
        refine xm_getN (V := (xv E a)) (T := TX4) (v := .ref (a (18 + 4))) C hP 18 7 xi_4 rfl l_X6_98 rfl (xs_lt xs_18 0 (by omega)) ((xs_0 xs_18 E a) _) (Nat.le_of_ble_eq_true rfl) rfl dX6_setWindow_60 ?_
        refine lv_iload_n hx hb dX6_setWindow_63 rfl (lv_at hl 2 rfl) ?_
        obtain ⟨b14, h⟩ := xm_ck_s h
        refine xm_aald (V := (xv E a)) (K := RX2) (v := a (18 + 5 + 3 * x1.toNatClampNeg)) C hP (18 + 4) 4 4 (xs_lt xs_18 4 (by omega)) (xs_4 xs_18 E a) rfl b14 (xo_rp_at b14) dX6_setWindow_64 ?_
        refine lv_iload_n hx hb dX6_setWindow_65 rfl (lv_at hl 3 rfl) ?_
        obtain ⟨M15, e16, h⟩ := xm_lt_s h
        refine xm_putN (V := (xv E a)) (T := TX2) (ty := .int) (x := x2) C hP hS (18 + 5 + 3 * x1.toNatClampNeg) 0 xi_2 rfl l_X6_102 rfl tyX2_ok nmX2 (xp_lt (xp_s xs_18 b14) 0 (by omega)) ((xp_0 (xp_s xs_18 b14) E a) _) (Nat.le_of_ble_eq_true rfl) rfl (by decide +kernel) rfl rfl (Nat.le_of_ble_eq_true rfl) ((xp_0 (xp_s xs_18 b14) E a) _) dX6_setWindow_66 (fun H locs hP hS => ?_)
        rw [← e16] at hP
        refine lv_iload_n hx hb dX6_setWindow_69 rfl (lv_at hl 0 rfl) ?_
        obtain ⟨rfl, rfl⟩ := xm_pr h
        exact xm_retI C hP hS dX6_setWindow_70
      · rw [if_pos c10] at h
        refine lv_bipush (v := (-5)) hx hb dX6_setWindow_42 (by decide) ?_
        obtain ⟨rfl, rfl⟩ := xm_pr h
        exact xm_retI C hP hS dX6_setWindow_44
    · rw [if_pos c8] at h
      refine lv_bipush (v := (-2)) hx hb dX6_setWindow_21 (by decide) ?_
      obtain ⟨rfl, rfl⟩ := xm_pr h
      exact xm_retI C hP hS dX6_setWindow_23
  · rw [if_pos c4] at h
    refine lv_iconst (v := (-1)) hx hb dX6_setWindow_8 (by decide) ?_
    obtain ⟨rfl, rfl⟩ := xm_pr h
    exact xm_retI C hP hS dX6_setWindow_9
theorem c_X6_setWindow {l : Launch} {E : xm_E} {a : Nat → Nat} (hD : xm_D (xv E a)) (n : Nat) (M : xm_M) (x1 : Int32) (x2 : Int32) (r : Int32) (M' : xm_M) (h : f_X6_setWindow n M x1 x2 = some (r, M')) : xm_Met l E (xv E a) yX6_setWindow cX6_setWindow 4 (some .int) 3 65 [.ref (a 0), .int x1, .int x2] M M' (some r) :=
  xm_met (by decide +kernel) rfl (Nat.le_of_ble_eq_true rfl) hD (fun p e s m below meth c C hP ls hl => t_X6_setWindow_0 C  n M x1 x2 r M' h _ _ _ hP va_S.rf hl)
def f_X6_type (n : Nat) (M : xm_M) (x1 : Int32) : Option (Int32 × xm_M) := xm_b2 (f_X5_append n M x1) (fun r2 M1 => some (r2, M1))
set_option maxHeartbeats 4000000 in
set_option maxRecDepth 100000 in
theorem t_X6_type_0 {l : Launch} {p : Program} {e : Env} {s : State} {m : MethodId} {args : Array Value} {below : List Frame} {meth : Method} {c : Code} {E : xm_E} {a : Nat → Nat} (C : xm_C E (xv E a) p s m args meth c RX6 cX6_type 2 (some .int)) (n : Nat) (M : xm_M) (x1 : Int32) (r : Int32) (M' : xm_M) : f_X6_type n M x1 = some (r, M') → ∀ (H : Heap) (locs : List Loc) (ls : Array Slot), va_P E.1 vwCl (xm_w (xv E a) M) H → va_S (xm_A (xv E a) s.heap.size) s.heap H locs → lv_has ls 2 [(0, .ref (a 0)), (1, .int x1)] → W p l e { frames := 1, cells := 0, slots := 0, locals := 21 } s m args below meth c H locs 0 0 (MQ below (xm_Q E (xv E a) M' s.heap.size (some r)) args s 0 0 (xm_A (xv E a) s.heap.size)) (F0 m 0 ls []) := by
  have C9 := C
  obtain ⟨hx, hb, hml, hown, hts, hr, hlk, hD, hK, hS9⟩ := C9
  intro h H locs ls hP hS hl
  unfold f_X6_type at h
  refine lv_aload_n hx hb dX6_type_0 rfl (lv_at hl 0 rfl) ?_
  refine xm_get (V := (xv E a)) (T := TX6) (v := .ref (a 6)) C hP 0 4 xi_6 rfl l_X6_33 rfl (Nat.le_of_ble_eq_true rfl) ((xe_0 E a) _) (Nat.le_of_ble_eq_true rfl) rfl dX6_type_1 ?_
  refine lv_iload_n hx hb dX6_type_4 rfl (lv_at hl 1 rfl) ?_
  obtain ⟨r2, M1, e3, h⟩ := xm_b2_s h
  refine xm_callVN C hP hS [.int x1] [] (c_X5_append hD  n M x1 r2 M1 e3) k_X6_105 (xm_recv C hP 6 rfl (Nat.le_of_ble_eq_true rfl) ((xe_6 E a) _)) rfl rfl ⟨(Nat.le_of_ble_eq_true rfl), (Nat.le_of_ble_eq_true rfl)⟩ hl.1 (Nat.le_of_ble_eq_true rfl) ⟨Nat.zero_le _, Nat.zero_le _⟩ dX6_type_5 (fun H locs hP hS => ?_)
  change W p l e _ s m _ below meth c H locs 0 0 _ (F0 m 8 ls [.int r2])
  obtain ⟨rfl, rfl⟩ := xm_pr h
  exact xm_retI C hP hS dX6_type_8
theorem c_X6_type {l : Launch} {E : xm_E} {a : Nat → Nat} (hD : xm_D (xv E a)) (n : Nat) (M : xm_M) (x1 : Int32) (r : Int32) (M' : xm_M) (h : f_X6_type n M x1 = some (r, M')) : xm_Met l E (xv E a) yX6_type cX6_type 2 (some .int) 1 21 [.ref (a 0), .int x1] M M' (some r) :=
  xm_met (by decide +kernel) rfl (Nat.le_of_ble_eq_true rfl) hD (fun p e s m below meth c C hP ls hl => t_X6_type_0 C  n M x1 r M' h _ _ _ hP va_S.rf hl)
def f_X6_clearText (n : Nat) (M : xm_M) : Option (Int32 × xm_M) := xm_lt (xm_up M 6 1 0) (fun M1 => some (M 6 1, M1))
set_option maxHeartbeats 4000000 in
set_option maxRecDepth 100000 in
theorem t_X6_clearText_0 {l : Launch} {p : Program} {e : Env} {s : State} {m : MethodId} {args : Array Value} {below : List Frame} {meth : Method} {c : Code} {E : xm_E} {a : Nat → Nat} (C : xm_C E (xv E a) p s m args meth c RX6 cX6_clearText 2 (some .int)) (n : Nat) (M : xm_M) (r : Int32) (M' : xm_M) : f_X6_clearText n M = some (r, M') → ∀ (H : Heap) (locs : List Loc) (ls : Array Slot), va_P E.1 vwCl (xm_w (xv E a) M) H → va_S (xm_A (xv E a) s.heap.size) s.heap H locs → lv_has ls 2 [(0, .ref (a 0))] → W p l e { frames := 0, cells := 0, slots := 0, locals := 0 } s m args below meth c H locs 0 0 (MQ below (xm_Q E (xv E a) M' s.heap.size (some r)) args s 0 0 (xm_A (xv E a) s.heap.size)) (F0 m 0 ls []) := by
  have C9 := C
  obtain ⟨hx, hb, hml, hown, hts, hr, hlk, hD, hK, hS9⟩ := C9
  intro h H locs ls hP hS hl
  unfold f_X6_clearText at h
  refine lv_aload_n hx hb dX6_clearText_0 rfl (lv_at hl 0 rfl) ?_
  refine xm_get (V := (xv E a)) (T := TX6) (v := .ref (a 6)) C hP 0 4 xi_6 rfl l_X6_33 rfl (Nat.le_of_ble_eq_true rfl) ((xe_0 E a) _) (Nat.le_of_ble_eq_true rfl) rfl dX6_clearText_1 ?_
  refine xm_getN (V := (xv E a)) (T := TX5) (v := .int (M 6 1)) C hP 6 1 xi_5 rfl l_X6_109 rfl (Nat.le_of_ble_eq_true rfl) ((xe_6 E a) _) (Nat.le_of_ble_eq_true rfl) rfl dX6_clearText_4 ?_
  refine lv_istore_n (lv' := [(1, .int (M 6 1)), (0, .ref (a 0))]) hx hb dX6_clearText_7 rfl hl (by decide) rfl (fun ls hl => ?_)
  refine lv_aload_n hx hb dX6_clearText_8 rfl (lv_at hl 1 rfl) ?_
  refine xm_get (V := (xv E a)) (T := TX6) (v := .ref (a 6)) C hP 0 4 xi_6 rfl l_X6_33 rfl (Nat.le_of_ble_eq_true rfl) ((xe_0 E a) _) (Nat.le_of_ble_eq_true rfl) rfl dX6_clearText_9 ?_
  refine lv_iconst (v := 0) hx hb dX6_clearText_12 (by decide) ?_
  obtain ⟨M1, e2, h⟩ := xm_lt_s h
  refine xm_putN (V := (xv E a)) (T := TX5) (ty := .int) (x := 0) C hP hS 6 1 xi_5 rfl l_X6_109 rfl tyX5_ok nmX5 (Nat.le_of_ble_eq_true rfl) ((xe_6 E a) _) (Nat.le_of_ble_eq_true rfl) rfl (by decide +kernel) rfl rfl (Nat.le_of_ble_eq_true rfl) ((xe_6 E a) _) dX6_clearText_13 (fun H locs hP hS => ?_)
  rw [← e2] at hP
  refine lv_iload_n hx hb dX6_clearText_16 rfl (lv_at hl 0 rfl) ?_
  obtain ⟨rfl, rfl⟩ := xm_pr h
  exact xm_retI C hP hS dX6_clearText_17
theorem c_X6_clearText {l : Launch} {E : xm_E} {a : Nat → Nat} (hD : xm_D (xv E a)) (n : Nat) (M : xm_M) (r : Int32) (M' : xm_M) (h : f_X6_clearText n M = some (r, M')) : xm_Met l E (xv E a) yX6_clearText cX6_clearText 2 (some .int) 0 0 [.ref (a 0)] M M' (some r) :=
  xm_met (by decide +kernel) rfl (Nat.le_of_ble_eq_true rfl) hD (fun p e s m below meth c C hP ls hl => t_X6_clearText_0 C  n M r M' h _ _ _ hP va_S.rf hl)
def f_X6_undo (n : Nat) (M : xm_M) : Option (Int32 × xm_M) := if (M 4 2) = 0 then some ((-5), M) else xm_b1 (f_X0_removeLatestInto n M 18) (fun M2 => some (M2 4 2, M2))
set_option maxHeartbeats 4000000 in
set_option maxRecDepth 100000 in
theorem t_X6_undo_0 {l : Launch} {p : Program} {e : Env} {s : State} {m : MethodId} {args : Array Value} {below : List Frame} {meth : Method} {c : Code} {E : xm_E} {a : Nat → Nat} (C : xm_C E (xv E a) p s m args meth c RX6 cX6_undo 1 (some .int)) (n : Nat) (M : xm_M) (r : Int32) (M' : xm_M) : f_X6_undo n M = some (r, M') → ∀ (H : Heap) (locs : List Loc) (ls : Array Slot), va_P E.1 vwCl (xm_w (xv E a) M) H → va_S (xm_A (xv E a) s.heap.size) s.heap H locs → lv_has ls 1 [(0, .ref (a 0))] → W p l e { frames := 3, cells := 0, slots := 0, locals := 65 } s m args below meth c H locs 0 0 (MQ below (xm_Q E (xv E a) M' s.heap.size (some r)) args s 0 0 (xm_A (xv E a) s.heap.size)) (F0 m 0 ls []) := by
  have C9 := C
  obtain ⟨hx, hb, hml, hown, hts, hr, hlk, hD, hK, hS9⟩ := C9
  intro h H locs ls hP hS hl
  unfold f_X6_undo at h
  refine lv_aload_n hx hb dX6_undo_0 rfl (lv_at hl 0 rfl) ?_
  refine xm_get (V := (xv E a)) (T := TX6) (v := .ref (a 4)) C hP 0 3 xi_6 rfl l_X6_26 rfl (Nat.le_of_ble_eq_true rfl) ((xe_0 E a) _) (Nat.le_of_ble_eq_true rfl) rfl dX6_undo_1 ?_
  refine xm_getN (V := (xv E a)) (T := TX0) (v := .int (M 4 2)) C hP 4 2 xi_0 rfl l_X6_112 rfl (Nat.le_of_ble_eq_true rfl) ((xe_4 E a) _) (Nat.le_of_ble_eq_true rfl) rfl dX6_undo_4 ?_
  refine lv_if_ne (tgt := 13) hx hb dX6_undo_7 (by decide) (fun c1 => ?_) (fun c1 => ?_)
  · rw [if_neg c1] at h
    refine lv_aload_n hx hb dX6_undo_13 rfl (lv_at hl 0 rfl) ?_
    refine xm_get (V := (xv E a)) (T := TX6) (v := .ref (a 4)) C hP 0 3 xi_6 rfl l_X6_26 rfl (Nat.le_of_ble_eq_true rfl) ((xe_0 E a) _) (Nat.le_of_ble_eq_true rfl) rfl dX6_undo_14 ?_
    refine lv_aload_n hx hb dX6_undo_17 rfl (lv_at hl 0 rfl) ?_
    refine xm_get (V := (xv E a)) (T := TX6) (v := .ref (a 18)) C hP 0 0 xi_6 rfl l_X6_10 rfl (Nat.le_of_ble_eq_true rfl) ((xe_0 E a) _) (Nat.le_of_ble_eq_true rfl) rfl dX6_undo_18 ?_
    obtain ⟨M2, e4, h⟩ := xm_b1_s h
    refine xm_callVN C hP hS [.ref (a 18)] [] (c_X0_removeLatestInto hD xs_18 n M  M2 e4) k_X6_115 (xm_recv C hP 4 rfl (Nat.le_of_ble_eq_true rfl) ((xe_4 E a) _)) rfl rfl ⟨(Nat.le_of_ble_eq_true rfl), (Nat.le_of_ble_eq_true rfl)⟩ hl.1 (Nat.le_of_ble_eq_true rfl) ⟨Nat.zero_le _, Nat.zero_le _⟩ dX6_undo_21 (fun H locs hP hS => ?_)
    change W p l e _ s m _ below meth c H locs 0 0 _ (F0 m 24 ls [])
    refine lv_aload_n hx hb dX6_undo_24 rfl (lv_at hl 0 rfl) ?_
    refine xm_get (V := (xv E a)) (T := TX6) (v := .ref (a 4)) C hP 0 3 xi_6 rfl l_X6_26 rfl (Nat.le_of_ble_eq_true rfl) ((xe_0 E a) _) (Nat.le_of_ble_eq_true rfl) rfl dX6_undo_25 ?_
    refine xm_getN (V := (xv E a)) (T := TX0) (v := .int (M2 4 2)) C hP 4 2 xi_0 rfl l_X6_112 rfl (Nat.le_of_ble_eq_true rfl) ((xe_4 E a) _) (Nat.le_of_ble_eq_true rfl) rfl dX6_undo_28 ?_
    obtain ⟨rfl, rfl⟩ := xm_pr h
    exact xm_retI C hP hS dX6_undo_31
  · rw [if_pos c1] at h
    refine lv_bipush (v := (-5)) hx hb dX6_undo_10 (by decide) ?_
    obtain ⟨rfl, rfl⟩ := xm_pr h
    exact xm_retI C hP hS dX6_undo_12
theorem c_X6_undo {l : Launch} {E : xm_E} {a : Nat → Nat} (hD : xm_D (xv E a)) (n : Nat) (M : xm_M) (r : Int32) (M' : xm_M) (h : f_X6_undo n M = some (r, M')) : xm_Met l E (xv E a) yX6_undo cX6_undo 1 (some .int) 3 65 [.ref (a 0)] M M' (some r) :=
  xm_met (by decide +kernel) rfl (Nat.le_of_ble_eq_true rfl) hD (fun p e s m below meth c C hP ls hl => t_X6_undo_0 C  n M r M' h _ _ _ hP va_S.rf hl)
def f_X6_eventOf (n : Nat) (M : xm_M) (x1 : Int32) (x2 : Int32) : Option (Int32 × xm_M) := if x1 < 0 then some ((-1), M) else if x1 < (M 18 0) then if x2 = 0 then xm_ck (xm_in x1 24) (some (M (18 + 1) x1.toNatClampNeg, M)) else if x2 = 1 then xm_ck (xm_in x1 24) (some (M (18 + 2) x1.toNatClampNeg, M)) else if x2 = 2 then xm_ck (xm_in x1 24) (some (M (18 + 3) x1.toNatClampNeg, M)) else if x2 = 3 then xm_b1 (f_X3_begin n M 18) (fun M10 => xm_b2 (f_X1_placeOf n M10 x1) (fun r14 M13 => some (r14, M13))) else if x2 = 4 then xm_b1 (f_X3_begin n M 18) (fun M17 => xm_b2 (f_X3_runAll n M17 18) (fun r21 M20 => xm_b2 (f_X3_shareOf n M20 x1) (fun r24 M23 => some (r24, M23)))) else some ((-2), M) else some ((-1), M)
set_option maxHeartbeats 4000000 in
set_option maxRecDepth 100000 in
theorem t_X6_eventOf_0 {l : Launch} {p : Program} {e : Env} {s : State} {m : MethodId} {args : Array Value} {below : List Frame} {meth : Method} {c : Code} {E : xm_E} {a : Nat → Nat} (C : xm_C E (xv E a) p s m args meth c RX6 cX6_eventOf 3 (some .int)) (n : Nat) (M : xm_M) (x1 : Int32) (x2 : Int32) (r : Int32) (M' : xm_M) : f_X6_eventOf n M x1 x2 = some (r, M') → ∀ (H : Heap) (locs : List Loc) (ls : Array Slot), va_P E.1 vwCl (xm_w (xv E a) M) H → va_S (xm_A (xv E a) s.heap.size) s.heap H locs → lv_has ls 3 [(0, .ref (a 0)), (1, .int x1), (2, .int x2)] → W p l e { frames := 8, cells := 0, slots := 0, locals := 197 } s m args below meth c H locs 0 0 (MQ below (xm_Q E (xv E a) M' s.heap.size (some r)) args s 0 0 (xm_A (xv E a) s.heap.size)) (F0 m 0 ls []) := by
  have C9 := C
  obtain ⟨hx, hb, hml, hown, hts, hr, hlk, hD, hK, hS9⟩ := C9
  intro h H locs ls hP hS hl
  unfold f_X6_eventOf at h
  refine lv_iload_n hx hb dX6_eventOf_0 rfl (lv_at hl 1 rfl) ?_
  refine lv_if_lt (tgt := 15) hx hb dX6_eventOf_1 (by decide) (fun c1 => ?_) (fun c1 => ?_)
  · rw [if_pos c1] at h
    refine lv_iconst (v := (-1)) hx hb dX6_eventOf_15 (by decide) ?_
    obtain ⟨rfl, rfl⟩ := xm_pr h
    exact xm_retI C hP hS dX6_eventOf_16
  · rw [if_neg c1] at h
    refine lv_iload_n hx hb dX6_eventOf_4 rfl (lv_at hl 1 rfl) ?_
    refine lv_aload_n hx hb dX6_eventOf_5 rfl (lv_at hl 0 rfl) ?_
    refine xm_get (V := (xv E a)) (T := TX6) (v := .ref (a 18)) C hP 0 0 xi_6 rfl l_X6_10 rfl (Nat.le_of_ble_eq_true rfl) ((xe_0 E a) _) (Nat.le_of_ble_eq_true rfl) rfl dX6_eventOf_6 ?_
    refine xm_getN (V := (xv E a)) (T := TX4) (v := .int (M 18 0)) C hP 18 0 xi_4 rfl l_X6_55 rfl (xs_lt xs_18 0 (by omega)) ((xs_0 xs_18 E a) _) (Nat.le_of_ble_eq_true rfl) rfl dX6_eventOf_9 ?_
    refine lv_icmp_lt (tgt := 17) hx hb dX6_eventOf_12 (by decide) (fun c2 => ?_) (fun c2 => ?_)
    · rw [if_pos c2] at h
      refine lv_iload_n hx hb dX6_eventOf_17 rfl (lv_at hl 2 rfl) ?_
      by_cases c3 : x2 = 0
      · rw [if_pos c3] at h
        refine lv_tableIn (tgt := 52) hx hb dX6_eventOf_18 (by rw [c3]; decide) (by rw [c3]; decide) (by rw [c3]; rfl) (by decide) ?_
        refine lv_aload_n hx hb dX6_eventOf_52 rfl (lv_at hl 0 rfl) ?_
        refine xm_get (V := (xv E a)) (T := TX6) (v := .ref (a 18)) C hP 0 0 xi_6 rfl l_X6_10 rfl (Nat.le_of_ble_eq_true rfl) ((xe_0 E a) _) (Nat.le_of_ble_eq_true rfl) rfl dX6_eventOf_53 ?_
        refine xm_getN (V := (xv E a)) (T := TX4) (v := .ref (a (18 + 1))) C hP 18 1 xi_4 rfl l_X6_121 rfl (xs_lt xs_18 0 (by omega)) ((xs_0 xs_18 E a) _) (Nat.le_of_ble_eq_true rfl) rfl dX6_eventOf_56 ?_
        refine lv_iload_n hx hb dX6_eventOf_59 rfl (lv_at hl 1 rfl) ?_
        obtain ⟨b4, h⟩ := xm_ck_s h
        refine xm_cald (V := (xv E a)) C hP (18 + 1) 24 (xs_lt xs_18 1 (by omega)) (xs_1 xs_18 E a) b4 dX6_eventOf_60 ?_
        obtain ⟨rfl, rfl⟩ := xm_pr h
        exact xm_retI C hP hS dX6_eventOf_61
      · rw [if_neg c3] at h
        by_cases c5 : x2 = 1
        · rw [if_pos c5] at h
          refine lv_tableIn (tgt := 62) hx hb dX6_eventOf_18 (by rw [c5]; decide) (by rw [c5]; decide) (by rw [c5]; rfl) (by decide) ?_
          refine lv_aload_n hx hb dX6_eventOf_62 rfl (lv_at hl 0 rfl) ?_
          refine xm_get (V := (xv E a)) (T := TX6) (v := .ref (a 18)) C hP 0 0 xi_6 rfl l_X6_10 rfl (Nat.le_of_ble_eq_true rfl) ((xe_0 E a) _) (Nat.le_of_ble_eq_true rfl) rfl dX6_eventOf_63 ?_
          refine xm_getN (V := (xv E a)) (T := TX4) (v := .ref (a (18 + 2))) C hP 18 2 xi_4 rfl l_X6_125 rfl (xs_lt xs_18 0 (by omega)) ((xs_0 xs_18 E a) _) (Nat.le_of_ble_eq_true rfl) rfl dX6_eventOf_66 ?_
          refine lv_iload_n hx hb dX6_eventOf_69 rfl (lv_at hl 1 rfl) ?_
          obtain ⟨b6, h⟩ := xm_ck_s h
          refine xm_iald (V := (xv E a)) C hP (18 + 2) 24 (xs_lt xs_18 2 (by omega)) (xs_2 xs_18 E a) b6 dX6_eventOf_70 ?_
          obtain ⟨rfl, rfl⟩ := xm_pr h
          exact xm_retI C hP hS dX6_eventOf_71
        · rw [if_neg c5] at h
          by_cases c7 : x2 = 2
          · rw [if_pos c7] at h
            refine lv_tableIn (tgt := 72) hx hb dX6_eventOf_18 (by rw [c7]; decide) (by rw [c7]; decide) (by rw [c7]; rfl) (by decide) ?_
            refine lv_aload_n hx hb dX6_eventOf_72 rfl (lv_at hl 0 rfl) ?_
            refine xm_get (V := (xv E a)) (T := TX6) (v := .ref (a 18)) C hP 0 0 xi_6 rfl l_X6_10 rfl (Nat.le_of_ble_eq_true rfl) ((xe_0 E a) _) (Nat.le_of_ble_eq_true rfl) rfl dX6_eventOf_73 ?_
            refine xm_getN (V := (xv E a)) (T := TX4) (v := .ref (a (18 + 3))) C hP 18 3 xi_4 rfl l_X6_129 rfl (xs_lt xs_18 0 (by omega)) ((xs_0 xs_18 E a) _) (Nat.le_of_ble_eq_true rfl) rfl dX6_eventOf_76 ?_
            refine lv_iload_n hx hb dX6_eventOf_79 rfl (lv_at hl 1 rfl) ?_
            obtain ⟨b8, h⟩ := xm_ck_s h
            refine xm_iald (V := (xv E a)) C hP (18 + 3) 24 (xs_lt xs_18 3 (by omega)) (xs_3 xs_18 E a) b8 dX6_eventOf_80 ?_
            obtain ⟨rfl, rfl⟩ := xm_pr h
            exact xm_retI C hP hS dX6_eventOf_81
          · rw [if_neg c7] at h
            by_cases c9 : x2 = 3
            · rw [if_pos c9] at h
              refine lv_tableIn (tgt := 82) hx hb dX6_eventOf_18 (by rw [c9]; decide) (by rw [c9]; decide) (by rw [c9]; rfl) (by decide) ?_
              refine lv_aload_n hx hb dX6_eventOf_82 rfl (lv_at hl 0 rfl) ?_
              refine xm_get (V := (xv E a)) (T := TX6) (v := .ref (a 8)) C hP 0 6 xi_6 rfl l_X6_47 rfl (Nat.le_of_ble_eq_true rfl) ((xe_0 E a) _) (Nat.le_of_ble_eq_true rfl) rfl dX6_eventOf_83 ?_
              refine lv_aload_n hx hb dX6_eventOf_86 rfl (lv_at hl 0 rfl) ?_
              refine xm_get (V := (xv E a)) (T := TX6) (v := .ref (a 18)) C hP 0 0 xi_6 rfl l_X6_10 rfl (Nat.le_of_ble_eq_true rfl) ((xe_0 E a) _) (Nat.le_of_ble_eq_true rfl) rfl dX6_eventOf_87 ?_
              obtain ⟨M10, e12, h⟩ := xm_b1_s h
              refine xm_callVN C hP hS [.ref (a 18)] [] (c_X3_begin hD xs_18 n M  M10 e12) k_X6_132 (xm_recv C hP 8 rfl (Nat.le_of_ble_eq_true rfl) ((xe_8 E a) _)) rfl rfl ⟨(Nat.le_of_ble_eq_true rfl), (Nat.le_of_ble_eq_true rfl)⟩ hl.1 (Nat.le_of_ble_eq_true rfl) ⟨Nat.zero_le _, Nat.zero_le _⟩ dX6_eventOf_90 (fun H locs hP hS => ?_)
              change W p l e _ s m _ below meth c H locs 0 0 _ (F0 m 93 ls [])
              refine lv_aload_n hx hb dX6_eventOf_93 rfl (lv_at hl 0 rfl) ?_
              refine xm_get (V := (xv E a)) (T := TX6) (v := .ref (a 8)) C hP 0 6 xi_6 rfl l_X6_47 rfl (Nat.le_of_ble_eq_true rfl) ((xe_0 E a) _) (Nat.le_of_ble_eq_true rfl) rfl dX6_eventOf_94 ?_
              refine xm_getN (V := (xv E a)) (T := TX3) (v := .ref (a 13)) C hP 8 0 xi_3 rfl l_X6_135 rfl (Nat.le_of_ble_eq_true rfl) ((xe_8 E a) _) (Nat.le_of_ble_eq_true rfl) rfl dX6_eventOf_97 ?_
              refine lv_iload_n hx hb dX6_eventOf_100 rfl (lv_at hl 1 rfl) ?_
              obtain ⟨r14, M13, e15, h⟩ := xm_b2_s h
              refine xm_callVN C hP hS [.int x1] [] (c_X1_placeOf hD  n M10 x1 r14 M13 e15) k_X6_139 (xm_recv C hP 13 rfl (Nat.le_of_ble_eq_true rfl) ((xe_13 E a) _)) rfl rfl ⟨(Nat.le_of_ble_eq_true rfl), (Nat.le_of_ble_eq_true rfl)⟩ hl.1 (Nat.le_of_ble_eq_true rfl) ⟨Nat.zero_le _, Nat.zero_le _⟩ dX6_eventOf_101 (fun H locs hP hS => ?_)
              change W p l e _ s m _ below meth c H locs 0 0 _ (F0 m 104 ls [.int r14])
              obtain ⟨rfl, rfl⟩ := xm_pr h
              exact xm_retI C hP hS dX6_eventOf_104
            · rw [if_neg c9] at h
              by_cases c16 : x2 = 4
              · rw [if_pos c16] at h
                refine lv_tableIn (tgt := 105) hx hb dX6_eventOf_18 (by rw [c16]; decide) (by rw [c16]; decide) (by rw [c16]; rfl) (by decide) ?_
                refine lv_aload_n hx hb dX6_eventOf_105 rfl (lv_at hl 0 rfl) ?_
                refine xm_get (V := (xv E a)) (T := TX6) (v := .ref (a 8)) C hP 0 6 xi_6 rfl l_X6_47 rfl (Nat.le_of_ble_eq_true rfl) ((xe_0 E a) _) (Nat.le_of_ble_eq_true rfl) rfl dX6_eventOf_106 ?_
                refine lv_aload_n hx hb dX6_eventOf_109 rfl (lv_at hl 0 rfl) ?_
                refine xm_get (V := (xv E a)) (T := TX6) (v := .ref (a 18)) C hP 0 0 xi_6 rfl l_X6_10 rfl (Nat.le_of_ble_eq_true rfl) ((xe_0 E a) _) (Nat.le_of_ble_eq_true rfl) rfl dX6_eventOf_110 ?_
                obtain ⟨M17, e19, h⟩ := xm_b1_s h
                refine xm_callVN C hP hS [.ref (a 18)] [] (c_X3_begin hD xs_18 n M  M17 e19) k_X6_132 (xm_recv C hP 8 rfl (Nat.le_of_ble_eq_true rfl) ((xe_8 E a) _)) rfl rfl ⟨(Nat.le_of_ble_eq_true rfl), (Nat.le_of_ble_eq_true rfl)⟩ hl.1 (Nat.le_of_ble_eq_true rfl) ⟨Nat.zero_le _, Nat.zero_le _⟩ dX6_eventOf_113 (fun H locs hP hS => ?_)
                change W p l e _ s m _ below meth c H locs 0 0 _ (F0 m 116 ls [])
                refine lv_aload_n hx hb dX6_eventOf_116 rfl (lv_at hl 0 rfl) ?_
                refine xm_get (V := (xv E a)) (T := TX6) (v := .ref (a 8)) C hP 0 6 xi_6 rfl l_X6_47 rfl (Nat.le_of_ble_eq_true rfl) ((xe_0 E a) _) (Nat.le_of_ble_eq_true rfl) rfl dX6_eventOf_117 ?_
                refine lv_aload_n hx hb dX6_eventOf_120 rfl (lv_at hl 0 rfl) ?_
                refine xm_get (V := (xv E a)) (T := TX6) (v := .ref (a 18)) C hP 0 0 xi_6 rfl l_X6_10 rfl (Nat.le_of_ble_eq_true rfl) ((xe_0 E a) _) (Nat.le_of_ble_eq_true rfl) rfl dX6_eventOf_121 ?_
                obtain ⟨r21, M20, e22, h⟩ := xm_b2_s h
                refine xm_callVN C hP hS [.ref (a 18)] [] (c_X3_runAll hD xs_18 n M17  r21 M20 e22) k_X6_144 (xm_recv C hP 8 rfl (Nat.le_of_ble_eq_true rfl) ((xe_8 E a) _)) rfl rfl ⟨(Nat.le_of_ble_eq_true rfl), (Nat.le_of_ble_eq_true rfl)⟩ hl.1 (Nat.le_of_ble_eq_true rfl) ⟨Nat.zero_le _, Nat.zero_le _⟩ dX6_eventOf_124 (fun H locs hP hS => ?_)
                change W p l e _ s m _ below meth c H locs 0 0 _ (F0 m 127 ls [.int r21])
                refine lv_pop hx hb dX6_eventOf_127 rfl ?_
                refine lv_aload_n hx hb dX6_eventOf_128 rfl (lv_at hl 0 rfl) ?_
                refine xm_get (V := (xv E a)) (T := TX6) (v := .ref (a 8)) C hP 0 6 xi_6 rfl l_X6_47 rfl (Nat.le_of_ble_eq_true rfl) ((xe_0 E a) _) (Nat.le_of_ble_eq_true rfl) rfl dX6_eventOf_129 ?_
                refine lv_iload_n hx hb dX6_eventOf_132 rfl (lv_at hl 1 rfl) ?_
                obtain ⟨r24, M23, e25, h⟩ := xm_b2_s h
                refine xm_callVN C hP hS [.int x1] [] (c_X3_shareOf hD  n M20 x1 r24 M23 e25) k_X6_148 (xm_recv C hP 8 rfl (Nat.le_of_ble_eq_true rfl) ((xe_8 E a) _)) rfl rfl ⟨(Nat.le_of_ble_eq_true rfl), (Nat.le_of_ble_eq_true rfl)⟩ hl.1 (Nat.le_of_ble_eq_true rfl) ⟨Nat.zero_le _, Nat.zero_le _⟩ dX6_eventOf_133 (fun H locs hP hS => ?_)
                change W p l e _ s m _ below meth c H locs 0 0 _ (F0 m 136 ls [.int r24])
                obtain ⟨rfl, rfl⟩ := xm_pr h
                exact xm_retI C hP hS dX6_eventOf_136
              · rw [if_neg c16] at h
                refine lv_tableOut (tgt := 137) hx hb dX6_eventOf_18 (xm_sw5 c3 c5 c7 c9 c16) (by decide) ?_
                refine lv_bipush (v := (-2)) hx hb dX6_eventOf_137 (by decide) ?_
                obtain ⟨rfl, rfl⟩ := xm_pr h
                exact xm_retI C hP hS dX6_eventOf_139
    · rw [if_neg c2] at h
      refine lv_iconst (v := (-1)) hx hb dX6_eventOf_15 (by decide) ?_
      obtain ⟨rfl, rfl⟩ := xm_pr h
      exact xm_retI C hP hS dX6_eventOf_16
theorem c_X6_eventOf {l : Launch} {E : xm_E} {a : Nat → Nat} (hD : xm_D (xv E a)) (n : Nat) (M : xm_M) (x1 : Int32) (x2 : Int32) (r : Int32) (M' : xm_M) (h : f_X6_eventOf n M x1 x2 = some (r, M')) : xm_Met l E (xv E a) yX6_eventOf cX6_eventOf 3 (some .int) 8 197 [.ref (a 0), .int x1, .int x2] M M' (some r) :=
  xm_met (by decide +kernel) rfl (Nat.le_of_ble_eq_true rfl) hD (fun p e s m below meth c C hP ls hl => t_X6_eventOf_0 C  n M x1 x2 r M' h _ _ _ hP va_S.rf hl)
def f_X6_pattern (n : Nat) (M : xm_M) (x1 : Int32) (x2 : Int32) : Option (Int32 × xm_M) := xm_b2 (f_X6_isPattern n M x1) (fun r2 M1 => if r2 = 0 then some ((-1), M1) else xm_ck (xm_in x1 4) (if x2 = 0 then some (M1 (18 + 5 + 3 * x1.toNatClampNeg) 0, M1) else if x2 = 1 then some (M1 (18 + 5 + 3 * x1.toNatClampNeg) 1, M1) else if x2 = 2 then some (M1 (18 + 5 + 3 * x1.toNatClampNeg) 2, M1) else if x2 = 3 then some (M1 (18 + 5 + 3 * x1.toNatClampNeg) 3, M1) else if x2 = 4 then xm_b1 (f_X6_searchFor n M1 (18 + 5 + 3 * x1.toNatClampNeg)) (fun M11 => some (M11 8 12, M11)) else if x2 = 5 then xm_b1 (f_X6_searchFor n M1 (18 + 5 + 3 * x1.toNatClampNeg)) (fun M15 => some (M15 8 13, M15)) else if x2 = 6 then xm_b1 (f_X6_searchFor n M1 (18 + 5 + 3 * x1.toNatClampNeg)) (fun M19 => some (M19 8 14, M19)) else some ((-2), M1)))
set_option maxHeartbeats 4000000 in
set_option maxRecDepth 100000 in
theorem t_X6_pattern_0 {l : Launch} {p : Program} {e : Env} {s : State} {m : MethodId} {args : Array Value} {below : List Frame} {meth : Method} {c : Code} {E : xm_E} {a : Nat → Nat} (C : xm_C E (xv E a) p s m args meth c RX6 cX6_pattern 4 (some .int)) (n : Nat) (M : xm_M) (x1 : Int32) (x2 : Int32) (r : Int32) (M' : xm_M) : f_X6_pattern n M x1 x2 = some (r, M') → ∀ (H : Heap) (locs : List Loc) (ls : Array Slot), va_P E.1 vwCl (xm_w (xv E a) M) H → va_S (xm_A (xv E a) s.heap.size) s.heap H locs → lv_has ls 4 [(0, .ref (a 0)), (1, .int x1), (2, .int x2)] → W p l e { frames := 8, cells := 0, slots := 0, locals := 195 } s m args below meth c H locs 0 0 (MQ below (xm_Q E (xv E a) M' s.heap.size (some r)) args s 0 0 (xm_A (xv E a) s.heap.size)) (F0 m 0 ls []) := by
  have C9 := C
  obtain ⟨hx, hb, hml, hown, hts, hr, hlk, hD, hK, hS9⟩ := C9
  intro h H locs ls hP hS hl
  unfold f_X6_pattern at h
  refine lv_aload_n hx hb dX6_pattern_0 rfl (lv_at hl 0 rfl) ?_
  refine lv_iload_n hx hb dX6_pattern_1 rfl (lv_at hl 1 rfl) ?_
  obtain ⟨r2, M1, e3, h⟩ := xm_b2_s h
  refine xm_callV C hP hS [.int x1] [] (c_X6_isPattern hD  n M x1 r2 M1 e3) k_X6_91 (xm_recv C hP 0 rfl (Nat.le_of_ble_eq_true rfl) ((xe_0 E a) _)) rfl rfl ⟨(Nat.le_of_ble_eq_true rfl), (Nat.le_of_ble_eq_true rfl)⟩ hl.1 (Nat.le_of_ble_eq_true rfl) ⟨Nat.zero_le _, Nat.zero_le _⟩ dX6_pattern_2 (fun H locs hP hS => ?_)
  change W p l e _ s m _ below meth c H locs 0 0 _ (F0 m 5 ls [.int r2])
  refine lv_if_ne (tgt := 10) hx hb dX6_pattern_5 (by decide) (fun c4 => ?_) (fun c4 => ?_)
  · rw [if_neg c4] at h
    refine lv_aload_n hx hb dX6_pattern_10 rfl (lv_at hl 0 rfl) ?_
    refine xm_get (V := (xv E a)) (T := TX6) (v := .ref (a 18)) C hP 0 0 xi_6 rfl l_X6_10 rfl (Nat.le_of_ble_eq_true rfl) ((xe_0 E a) _) (Nat.le_of_ble_eq_true rfl) rfl dX6_pattern_11 ?_
    refine xm_getN (V := (xv E a)) (T := TX4) (v := .ref (a (18 + 4))) C hP 18 7 xi_4 rfl l_X6_98 rfl (xs_lt xs_18 0 (by omega)) ((xs_0 xs_18 E a) _) (Nat.le_of_ble_eq_true rfl) rfl dX6_pattern_14 ?_
    refine lv_iload_n hx hb dX6_pattern_17 rfl (lv_at hl 1 rfl) ?_
    obtain ⟨b5, h⟩ := xm_ck_s h
    refine xm_aald (V := (xv E a)) (K := RX2) (v := a (18 + 5 + 3 * x1.toNatClampNeg)) C hP (18 + 4) 4 4 (xs_lt xs_18 4 (by omega)) (xs_4 xs_18 E a) rfl b5 (xo_rp_at b5) dX6_pattern_18 ?_
    refine lv_astore_n (lv' := [(3, .ref (a (18 + 5 + 3 * x1.toNatClampNeg))), (0, .ref (a 0)), (1, .int x1), (2, .int x2)]) hx hb dX6_pattern_19 rfl hl (by decide) rfl (fun ls hl => ?_)
    refine lv_iload_n hx hb dX6_pattern_20 rfl (lv_at hl 3 rfl) ?_
    by_cases c6 : x2 = 0
    · rw [if_pos c6] at h
      refine lv_tableIn (tgt := 64) hx hb dX6_pattern_21 (by rw [c6]; decide) (by rw [c6]; decide) (by rw [c6]; rfl) (by decide) ?_
      refine lv_aload_n hx hb dX6_pattern_64 rfl (lv_at hl 0 rfl) ?_
      refine xm_getN (V := (xv E a)) (T := TX2) (v := .int (M1 (18 + 5 + 3 * x1.toNatClampNeg) 0)) C hP (18 + 5 + 3 * x1.toNatClampNeg) 0 xi_2 rfl l_X6_102 rfl (xp_lt (xp_s xs_18 b5) 0 (by omega)) ((xp_0 (xp_s xs_18 b5) E a) _) (Nat.le_of_ble_eq_true rfl) rfl dX6_pattern_65 ?_
      obtain ⟨rfl, rfl⟩ := xm_pr h
      exact xm_retI C hP hS dX6_pattern_68
    · rw [if_neg c6] at h
      by_cases c7 : x2 = 1
      · rw [if_pos c7] at h
        refine lv_tableIn (tgt := 69) hx hb dX6_pattern_21 (by rw [c7]; decide) (by rw [c7]; decide) (by rw [c7]; rfl) (by decide) ?_
        refine lv_aload_n hx hb dX6_pattern_69 rfl (lv_at hl 0 rfl) ?_
        refine xm_getN (V := (xv E a)) (T := TX2) (v := .int (M1 (18 + 5 + 3 * x1.toNatClampNeg) 1)) C hP (18 + 5 + 3 * x1.toNatClampNeg) 1 xi_2 rfl l_X6_151 rfl (xp_lt (xp_s xs_18 b5) 0 (by omega)) ((xp_0 (xp_s xs_18 b5) E a) _) (Nat.le_of_ble_eq_true rfl) rfl dX6_pattern_70 ?_
        obtain ⟨rfl, rfl⟩ := xm_pr h
        exact xm_retI C hP hS dX6_pattern_73
      · rw [if_neg c7] at h
        by_cases c8 : x2 = 2
        · rw [if_pos c8] at h
          refine lv_tableIn (tgt := 74) hx hb dX6_pattern_21 (by rw [c8]; decide) (by rw [c8]; decide) (by rw [c8]; rfl) (by decide) ?_
          refine lv_aload_n hx hb dX6_pattern_74 rfl (lv_at hl 0 rfl) ?_
          refine xm_getN (V := (xv E a)) (T := TX2) (v := .int (M1 (18 + 5 + 3 * x1.toNatClampNeg) 2)) C hP (18 + 5 + 3 * x1.toNatClampNeg) 2 xi_2 rfl l_X6_154 rfl (xp_lt (xp_s xs_18 b5) 0 (by omega)) ((xp_0 (xp_s xs_18 b5) E a) _) (Nat.le_of_ble_eq_true rfl) rfl dX6_pattern_75 ?_
          obtain ⟨rfl, rfl⟩ := xm_pr h
          exact xm_retI C hP hS dX6_pattern_78
        · rw [if_neg c8] at h
          by_cases c9 : x2 = 3
          · rw [if_pos c9] at h
            refine lv_tableIn (tgt := 79) hx hb dX6_pattern_21 (by rw [c9]; decide) (by rw [c9]; decide) (by rw [c9]; rfl) (by decide) ?_
            refine lv_aload_n hx hb dX6_pattern_79 rfl (lv_at hl 0 rfl) ?_
            refine xm_getN (V := (xv E a)) (T := TX2) (v := .int (M1 (18 + 5 + 3 * x1.toNatClampNeg) 3)) C hP (18 + 5 + 3 * x1.toNatClampNeg) 3 xi_2 rfl l_X6_157 rfl (xp_lt (xp_s xs_18 b5) 0 (by omega)) ((xp_0 (xp_s xs_18 b5) E a) _) (Nat.le_of_ble_eq_true rfl) rfl dX6_pattern_80 ?_
            obtain ⟨rfl, rfl⟩ := xm_pr h
            exact xm_retI C hP hS dX6_pattern_83
          · rw [if_neg c9] at h
            by_cases c10 : x2 = 4
            · rw [if_pos c10] at h
              refine lv_tableIn (tgt := 84) hx hb dX6_pattern_21 (by rw [c10]; decide) (by rw [c10]; decide) (by rw [c10]; rfl) (by decide) ?_
              refine lv_aload_n hx hb dX6_pattern_84 rfl (lv_at hl 1 rfl) ?_
              refine lv_aload_n hx hb dX6_pattern_85 rfl (lv_at hl 0 rfl) ?_
              obtain ⟨M11, e13, h⟩ := xm_b1_s h
              refine xm_callV C hP hS [.ref (a (18 + 5 + 3 * x1.toNatClampNeg))] [] (c_X6_searchFor hD (xp_s xs_18 b5) n M1  M11 e13) k_X6_160 (xm_recv C hP 0 rfl (Nat.le_of_ble_eq_true rfl) ((xe_0 E a) _)) rfl rfl ⟨(Nat.le_of_ble_eq_true rfl), (Nat.le_of_ble_eq_true rfl)⟩ hl.1 (Nat.le_of_ble_eq_true rfl) ⟨Nat.zero_le _, Nat.zero_le _⟩ dX6_pattern_86 (fun H locs hP hS => ?_)
              change W p l e _ s m _ below meth c H locs 0 0 _ (F0 m 89 ls [])
              refine lv_aload_n hx hb dX6_pattern_89 rfl (lv_at hl 1 rfl) ?_
              refine xm_get (V := (xv E a)) (T := TX6) (v := .ref (a 8)) C hP 0 6 xi_6 rfl l_X6_47 rfl (Nat.le_of_ble_eq_true rfl) ((xe_0 E a) _) (Nat.le_of_ble_eq_true rfl) rfl dX6_pattern_90 ?_
              refine xm_getN (V := (xv E a)) (T := TX3) (v := .int (M11 8 12)) C hP 8 12 xi_3 rfl l_X6_164 rfl (Nat.le_of_ble_eq_true rfl) ((xe_8 E a) _) (Nat.le_of_ble_eq_true rfl) rfl dX6_pattern_93 ?_
              obtain ⟨rfl, rfl⟩ := xm_pr h
              exact xm_retI C hP hS dX6_pattern_96
            · rw [if_neg c10] at h
              by_cases c14 : x2 = 5
              · rw [if_pos c14] at h
                refine lv_tableIn (tgt := 97) hx hb dX6_pattern_21 (by rw [c14]; decide) (by rw [c14]; decide) (by rw [c14]; rfl) (by decide) ?_
                refine lv_aload_n hx hb dX6_pattern_97 rfl (lv_at hl 1 rfl) ?_
                refine lv_aload_n hx hb dX6_pattern_98 rfl (lv_at hl 0 rfl) ?_
                obtain ⟨M15, e17, h⟩ := xm_b1_s h
                refine xm_callV C hP hS [.ref (a (18 + 5 + 3 * x1.toNatClampNeg))] [] (c_X6_searchFor hD (xp_s xs_18 b5) n M1  M15 e17) k_X6_160 (xm_recv C hP 0 rfl (Nat.le_of_ble_eq_true rfl) ((xe_0 E a) _)) rfl rfl ⟨(Nat.le_of_ble_eq_true rfl), (Nat.le_of_ble_eq_true rfl)⟩ hl.1 (Nat.le_of_ble_eq_true rfl) ⟨Nat.zero_le _, Nat.zero_le _⟩ dX6_pattern_99 (fun H locs hP hS => ?_)
                change W p l e _ s m _ below meth c H locs 0 0 _ (F0 m 102 ls [])
                refine lv_aload_n hx hb dX6_pattern_102 rfl (lv_at hl 1 rfl) ?_
                refine xm_get (V := (xv E a)) (T := TX6) (v := .ref (a 8)) C hP 0 6 xi_6 rfl l_X6_47 rfl (Nat.le_of_ble_eq_true rfl) ((xe_0 E a) _) (Nat.le_of_ble_eq_true rfl) rfl dX6_pattern_103 ?_
                refine xm_getN (V := (xv E a)) (T := TX3) (v := .int (M15 8 13)) C hP 8 13 xi_3 rfl l_X6_167 rfl (Nat.le_of_ble_eq_true rfl) ((xe_8 E a) _) (Nat.le_of_ble_eq_true rfl) rfl dX6_pattern_106 ?_
                obtain ⟨rfl, rfl⟩ := xm_pr h
                exact xm_retI C hP hS dX6_pattern_109
              · rw [if_neg c14] at h
                by_cases c18 : x2 = 6
                · rw [if_pos c18] at h
                  refine lv_tableIn (tgt := 110) hx hb dX6_pattern_21 (by rw [c18]; decide) (by rw [c18]; decide) (by rw [c18]; rfl) (by decide) ?_
                  refine lv_aload_n hx hb dX6_pattern_110 rfl (lv_at hl 1 rfl) ?_
                  refine lv_aload_n hx hb dX6_pattern_111 rfl (lv_at hl 0 rfl) ?_
                  obtain ⟨M19, e21, h⟩ := xm_b1_s h
                  refine xm_callV C hP hS [.ref (a (18 + 5 + 3 * x1.toNatClampNeg))] [] (c_X6_searchFor hD (xp_s xs_18 b5) n M1  M19 e21) k_X6_160 (xm_recv C hP 0 rfl (Nat.le_of_ble_eq_true rfl) ((xe_0 E a) _)) rfl rfl ⟨(Nat.le_of_ble_eq_true rfl), (Nat.le_of_ble_eq_true rfl)⟩ hl.1 (Nat.le_of_ble_eq_true rfl) ⟨Nat.zero_le _, Nat.zero_le _⟩ dX6_pattern_112 (fun H locs hP hS => ?_)
                  change W p l e _ s m _ below meth c H locs 0 0 _ (F0 m 115 ls [])
                  refine lv_aload_n hx hb dX6_pattern_115 rfl (lv_at hl 1 rfl) ?_
                  refine xm_get (V := (xv E a)) (T := TX6) (v := .ref (a 8)) C hP 0 6 xi_6 rfl l_X6_47 rfl (Nat.le_of_ble_eq_true rfl) ((xe_0 E a) _) (Nat.le_of_ble_eq_true rfl) rfl dX6_pattern_116 ?_
                  refine xm_getN (V := (xv E a)) (T := TX3) (v := .int (M19 8 14)) C hP 8 14 xi_3 rfl l_X6_170 rfl (Nat.le_of_ble_eq_true rfl) ((xe_8 E a) _) (Nat.le_of_ble_eq_true rfl) rfl dX6_pattern_119 ?_
                  obtain ⟨rfl, rfl⟩ := xm_pr h
                  exact xm_retI C hP hS dX6_pattern_122
                · rw [if_neg c18] at h
                  refine lv_tableOut (tgt := 123) hx hb dX6_pattern_21 (xm_sw7 c6 c7 c8 c9 c10 c14 c18) (by decide) ?_
                  refine lv_bipush (v := (-2)) hx hb dX6_pattern_123 (by decide) ?_
                  obtain ⟨rfl, rfl⟩ := xm_pr h
                  exact xm_retI C hP hS dX6_pattern_125
  · rw [if_pos c4] at h
    refine lv_iconst (v := (-1)) hx hb dX6_pattern_8 (by decide) ?_
    obtain ⟨rfl, rfl⟩ := xm_pr h
    exact xm_retI C hP hS dX6_pattern_9
theorem c_X6_pattern {l : Launch} {E : xm_E} {a : Nat → Nat} (hD : xm_D (xv E a)) (n : Nat) (M : xm_M) (x1 : Int32) (x2 : Int32) (r : Int32) (M' : xm_M) (h : f_X6_pattern n M x1 x2 = some (r, M')) : xm_Met l E (xv E a) yX6_pattern cX6_pattern 4 (some .int) 8 195 [.ref (a 0), .int x1, .int x2] M M' (some r) :=
  xm_met (by decide +kernel) rfl (Nat.le_of_ble_eq_true rfl) hD (fun p e s m below meth c C hP ls hl => t_X6_pattern_0 C  n M x1 x2 r M' h _ _ _ hP va_S.rf hl)
def f_X6_step (n : Nat) (M : xm_M) (x1 : Int32) (x2 : Int32) (x3 : Int32) : Option (Int32 × xm_M) := xm_b2 (f_X6_isPattern n M x1) (fun r2 M1 => if r2 = 0 then some ((-1), M1) else xm_ck (xm_in x1 4) (if x2 < 0 then some ((-2), M1) else if x2 < (M1 (18 + 5 + 3 * x1.toNatClampNeg) 2) then if x3 = 0 then xm_ck (xm_in x2 8) (some (M1 (18 + 5 + 3 * x1.toNatClampNeg + 1) x2.toNatClampNeg, M1)) else if x3 = 1 then xm_ck (xm_in x2 8) (if (M1 (18 + 5 + 3 * x1.toNatClampNeg + 2) x2.toNatClampNeg) = 0 then some (0, M1) else some (1, M1)) else some ((-2), M1) else some ((-2), M1)))
set_option maxHeartbeats 4000000 in
set_option maxRecDepth 100000 in
theorem t_X6_step_0 {l : Launch} {p : Program} {e : Env} {s : State} {m : MethodId} {args : Array Value} {below : List Frame} {meth : Method} {c : Code} {E : xm_E} {a : Nat → Nat} (C : xm_C E (xv E a) p s m args meth c RX6 cX6_step 5 (some .int)) (n : Nat) (M : xm_M) (x1 : Int32) (x2 : Int32) (x3 : Int32) (r : Int32) (M' : xm_M) : f_X6_step n M x1 x2 x3 = some (r, M') → ∀ (H : Heap) (locs : List Loc) (ls : Array Slot), va_P E.1 vwCl (xm_w (xv E a) M) H → va_S (xm_A (xv E a) s.heap.size) s.heap H locs → lv_has ls 5 [(0, .ref (a 0)), (1, .int x1), (2, .int x2), (3, .int x3)] → W p l e { frames := 1, cells := 0, slots := 0, locals := 21 } s m args below meth c H locs 0 0 (MQ below (xm_Q E (xv E a) M' s.heap.size (some r)) args s 0 0 (xm_A (xv E a) s.heap.size)) (F0 m 0 ls []) := by
  have C9 := C
  obtain ⟨hx, hb, hml, hown, hts, hr, hlk, hD, hK, hS9⟩ := C9
  intro h H locs ls hP hS hl
  unfold f_X6_step at h
  refine lv_aload_n hx hb dX6_step_0 rfl (lv_at hl 0 rfl) ?_
  refine lv_iload_n hx hb dX6_step_1 rfl (lv_at hl 1 rfl) ?_
  obtain ⟨r2, M1, e3, h⟩ := xm_b2_s h
  refine xm_callV C hP hS [.int x1] [] (c_X6_isPattern hD  n M x1 r2 M1 e3) k_X6_91 (xm_recv C hP 0 rfl (Nat.le_of_ble_eq_true rfl) ((xe_0 E a) _)) rfl rfl ⟨(Nat.le_of_ble_eq_true rfl), (Nat.le_of_ble_eq_true rfl)⟩ hl.1 (Nat.le_of_ble_eq_true rfl) ⟨Nat.zero_le _, Nat.zero_le _⟩ dX6_step_2 (fun H locs hP hS => ?_)
  change W p l e _ s m _ below meth c H locs 0 0 _ (F0 m 5 ls [.int r2])
  refine lv_if_ne (tgt := 10) hx hb dX6_step_5 (by decide) (fun c4 => ?_) (fun c4 => ?_)
  · rw [if_neg c4] at h
    refine lv_aload_n hx hb dX6_step_10 rfl (lv_at hl 0 rfl) ?_
    refine xm_get (V := (xv E a)) (T := TX6) (v := .ref (a 18)) C hP 0 0 xi_6 rfl l_X6_10 rfl (Nat.le_of_ble_eq_true rfl) ((xe_0 E a) _) (Nat.le_of_ble_eq_true rfl) rfl dX6_step_11 ?_
    refine xm_getN (V := (xv E a)) (T := TX4) (v := .ref (a (18 + 4))) C hP 18 7 xi_4 rfl l_X6_98 rfl (xs_lt xs_18 0 (by omega)) ((xs_0 xs_18 E a) _) (Nat.le_of_ble_eq_true rfl) rfl dX6_step_14 ?_
    refine lv_iload_n hx hb dX6_step_17 rfl (lv_at hl 1 rfl) ?_
    obtain ⟨b5, h⟩ := xm_ck_s h
    refine xm_aald (V := (xv E a)) (K := RX2) (v := a (18 + 5 + 3 * x1.toNatClampNeg)) C hP (18 + 4) 4 4 (xs_lt xs_18 4 (by omega)) (xs_4 xs_18 E a) rfl b5 (xo_rp_at b5) dX6_step_18 ?_
    refine lv_astore (lv' := [(4, .ref (a (18 + 5 + 3 * x1.toNatClampNeg))), (0, .ref (a 0)), (1, .int x1), (2, .int x2), (3, .int x3)]) hx hb dX6_step_19 hl (by decide) rfl (fun ls hl => ?_)
    refine lv_iload_n hx hb dX6_step_21 rfl (lv_at hl 3 rfl) ?_
    refine lv_if_lt (tgt := 34) hx hb dX6_step_22 (by decide) (fun c6 => ?_) (fun c6 => ?_)
    · rw [if_pos c6] at h
      refine lv_bipush (v := (-2)) hx hb dX6_step_34 (by decide) ?_
      obtain ⟨rfl, rfl⟩ := xm_pr h
      exact xm_retI C hP hS dX6_step_36
    · rw [if_neg c6] at h
      refine lv_iload_n hx hb dX6_step_25 rfl (lv_at hl 3 rfl) ?_
      refine lv_aload hx hb dX6_step_26 (lv_at hl 0 rfl) ?_
      refine xm_getN (V := (xv E a)) (T := TX2) (v := .int (M1 (18 + 5 + 3 * x1.toNatClampNeg) 2)) C hP (18 + 5 + 3 * x1.toNatClampNeg) 2 xi_2 rfl l_X6_154 rfl (xp_lt (xp_s xs_18 b5) 0 (by omega)) ((xp_0 (xp_s xs_18 b5) E a) _) (Nat.le_of_ble_eq_true rfl) rfl dX6_step_28 ?_
      refine lv_icmp_lt (tgt := 37) hx hb dX6_step_31 (by decide) (fun c7 => ?_) (fun c7 => ?_)
      · rw [if_pos c7] at h
        refine lv_iload_n hx hb dX6_step_37 rfl (lv_at hl 4 rfl) ?_
        by_cases c8 : x3 = 0
        · rw [if_pos c8] at h
          refine lv_lookup (tgt := 64) hx hb dX6_step_38 (by decide) (by rw [c8] <;> rfl) (by decide) ?_
          refine lv_aload hx hb dX6_step_64 (lv_at hl 0 rfl) ?_
          refine xm_getN (V := (xv E a)) (T := TX2) (v := .ref (a (18 + 5 + 3 * x1.toNatClampNeg + 1))) C hP (18 + 5 + 3 * x1.toNatClampNeg) 4 xi_2 rfl l_X6_173 rfl (xp_lt (xp_s xs_18 b5) 0 (by omega)) ((xp_0 (xp_s xs_18 b5) E a) _) (Nat.le_of_ble_eq_true rfl) rfl dX6_step_66 ?_
          refine lv_iload_n hx hb dX6_step_69 rfl (lv_at hl 3 rfl) ?_
          obtain ⟨b9, h⟩ := xm_ck_s h
          refine xm_cald (V := (xv E a)) C hP (18 + 5 + 3 * x1.toNatClampNeg + 1) 8 (xp_lt (xp_s xs_18 b5) 1 (by omega)) (xp_1 (xp_s xs_18 b5) E a) b9 dX6_step_70 ?_
          obtain ⟨rfl, rfl⟩ := xm_pr h
          exact xm_retI C hP hS dX6_step_71
        · rw [if_neg c8] at h
          by_cases c10 : x3 = 1
          · rw [if_pos c10] at h
            refine lv_lookup (tgt := 72) hx hb dX6_step_38 (by decide) (by rw [c10] <;> rfl) (by decide) ?_
            refine lv_aload hx hb dX6_step_72 (lv_at hl 0 rfl) ?_
            refine xm_getN (V := (xv E a)) (T := TX2) (v := .ref (a (18 + 5 + 3 * x1.toNatClampNeg + 2))) C hP (18 + 5 + 3 * x1.toNatClampNeg) 5 xi_2 rfl l_X6_174 rfl (xp_lt (xp_s xs_18 b5) 0 (by omega)) ((xp_0 (xp_s xs_18 b5) E a) _) (Nat.le_of_ble_eq_true rfl) rfl dX6_step_74 ?_
            refine lv_iload_n hx hb dX6_step_77 rfl (lv_at hl 3 rfl) ?_
            obtain ⟨b11, h⟩ := xm_ck_s h
            refine xm_zald (V := (xv E a)) C hP (18 + 5 + 3 * x1.toNatClampNeg + 2) 8 (xp_lt (xp_s xs_18 b5) 2 (by omega)) (xp_2 (xp_s xs_18 b5) E a) b11 dX6_step_78 ?_
            refine lv_if_eq (tgt := 86) hx hb dX6_step_79 (by decide) (fun c12 => ?_) (fun c12 => ?_)
            · rw [if_pos c12] at h
              refine lv_iconst (v := 0) hx hb dX6_step_86 (by decide) ?_
              obtain ⟨rfl, rfl⟩ := xm_pr h
              exact xm_retI C hP hS dX6_step_87
            · rw [if_neg c12] at h
              refine lv_iconst (v := 1) hx hb dX6_step_82 (by decide) ?_
              refine lv_goto (tgt := 87) hx hb dX6_step_83 (by decide) ?_
              obtain ⟨rfl, rfl⟩ := xm_pr h
              exact xm_retI C hP hS dX6_step_87
          · rw [if_neg c10] at h
            refine lv_lookup (tgt := 88) hx hb dX6_step_38 (by decide) (xm_lk2 c8 c10) (by decide) ?_
            refine lv_bipush (v := (-2)) hx hb dX6_step_88 (by decide) ?_
            obtain ⟨rfl, rfl⟩ := xm_pr h
            exact xm_retI C hP hS dX6_step_90
      · rw [if_neg c7] at h
        refine lv_bipush (v := (-2)) hx hb dX6_step_34 (by decide) ?_
        obtain ⟨rfl, rfl⟩ := xm_pr h
        exact xm_retI C hP hS dX6_step_36
  · rw [if_pos c4] at h
    refine lv_iconst (v := (-1)) hx hb dX6_step_8 (by decide) ?_
    obtain ⟨rfl, rfl⟩ := xm_pr h
    exact xm_retI C hP hS dX6_step_9
theorem c_X6_step {l : Launch} {E : xm_E} {a : Nat → Nat} (hD : xm_D (xv E a)) (n : Nat) (M : xm_M) (x1 : Int32) (x2 : Int32) (x3 : Int32) (r : Int32) (M' : xm_M) (h : f_X6_step n M x1 x2 x3 = some (r, M')) : xm_Met l E (xv E a) yX6_step cX6_step 5 (some .int) 1 21 [.ref (a 0), .int x1, .int x2, .int x3] M M' (some r) :=
  xm_met (by decide +kernel) rfl (Nat.le_of_ble_eq_true rfl) hD (fun p e s m below meth c C hP ls hl => t_X6_step_0 C  n M x1 x2 x3 r M' h _ _ _ hP va_S.rf hl)
def f_X6_match (n : Nat) (M : xm_M) (x1 : Int32) (x2 : Int32) (x3 : Int32) : Option (Int32 × xm_M) := xm_b2 (f_X6_isPattern n M x1) (fun r2 M1 => if r2 = 0 then some ((-1), M1) else xm_ck (xm_in x1 4) (if x2 < 0 then some ((-2), M1) else if x3 < 0 then some ((-2), M1) else if x3 < (M1 (18 + 5 + 3 * x1.toNatClampNeg) 3) then xm_b1 (f_X3_begin n M1 18) (fun M9 => xm_b1 (f_X3_want n M9 x2 x3) (fun M12 => xm_b1 (f_X3_run n M12 (18 + 5 + 3 * x1.toNatClampNeg)) (fun M15 => some (M15 8 5, M15)))) else some ((-2), M1)))
set_option maxHeartbeats 4000000 in
set_option maxRecDepth 100000 in
theorem t_X6_match_0 {l : Launch} {p : Program} {e : Env} {s : State} {m : MethodId} {args : Array Value} {below : List Frame} {meth : Method} {c : Code} {E : xm_E} {a : Nat → Nat} (C : xm_C E (xv E a) p s m args meth c RX6 cX6_match 5 (some .int)) (n : Nat) (M : xm_M) (x1 : Int32) (x2 : Int32) (x3 : Int32) (r : Int32) (M' : xm_M) : f_X6_match n M x1 x2 x3 = some (r, M') → ∀ (H : Heap) (locs : List Loc) (ls : Array Slot), va_P E.1 vwCl (xm_w (xv E a) M) H → va_S (xm_A (xv E a) s.heap.size) s.heap H locs → lv_has ls 5 [(0, .ref (a 0)), (1, .int x1), (2, .int x2), (3, .int x3)] → W p l e { frames := 7, cells := 0, slots := 0, locals := 174 } s m args below meth c H locs 0 0 (MQ below (xm_Q E (xv E a) M' s.heap.size (some r)) args s 0 0 (xm_A (xv E a) s.heap.size)) (F0 m 0 ls []) := by
  have C9 := C
  obtain ⟨hx, hb, hml, hown, hts, hr, hlk, hD, hK, hS9⟩ := C9
  intro h H locs ls hP hS hl
  unfold f_X6_match at h
  refine lv_aload_n hx hb dX6_match_0 rfl (lv_at hl 0 rfl) ?_
  refine lv_iload_n hx hb dX6_match_1 rfl (lv_at hl 1 rfl) ?_
  obtain ⟨r2, M1, e3, h⟩ := xm_b2_s h
  refine xm_callV C hP hS [.int x1] [] (c_X6_isPattern hD  n M x1 r2 M1 e3) k_X6_91 (xm_recv C hP 0 rfl (Nat.le_of_ble_eq_true rfl) ((xe_0 E a) _)) rfl rfl ⟨(Nat.le_of_ble_eq_true rfl), (Nat.le_of_ble_eq_true rfl)⟩ hl.1 (Nat.le_of_ble_eq_true rfl) ⟨Nat.zero_le _, Nat.zero_le _⟩ dX6_match_2 (fun H locs hP hS => ?_)
  change W p l e _ s m _ below meth c H locs 0 0 _ (F0 m 5 ls [.int r2])
  refine lv_if_ne (tgt := 10) hx hb dX6_match_5 (by decide) (fun c4 => ?_) (fun c4 => ?_)
  · rw [if_neg c4] at h
    refine lv_aload_n hx hb dX6_match_10 rfl (lv_at hl 0 rfl) ?_
    refine xm_get (V := (xv E a)) (T := TX6) (v := .ref (a 18)) C hP 0 0 xi_6 rfl l_X6_10 rfl (Nat.le_of_ble_eq_true rfl) ((xe_0 E a) _) (Nat.le_of_ble_eq_true rfl) rfl dX6_match_11 ?_
    refine xm_getN (V := (xv E a)) (T := TX4) (v := .ref (a (18 + 4))) C hP 18 7 xi_4 rfl l_X6_98 rfl (xs_lt xs_18 0 (by omega)) ((xs_0 xs_18 E a) _) (Nat.le_of_ble_eq_true rfl) rfl dX6_match_14 ?_
    refine lv_iload_n hx hb dX6_match_17 rfl (lv_at hl 1 rfl) ?_
    obtain ⟨b5, h⟩ := xm_ck_s h
    refine xm_aald (V := (xv E a)) (K := RX2) (v := a (18 + 5 + 3 * x1.toNatClampNeg)) C hP (18 + 4) 4 4 (xs_lt xs_18 4 (by omega)) (xs_4 xs_18 E a) rfl b5 (xo_rp_at b5) dX6_match_18 ?_
    refine lv_astore (lv' := [(4, .ref (a (18 + 5 + 3 * x1.toNatClampNeg))), (0, .ref (a 0)), (1, .int x1), (2, .int x2), (3, .int x3)]) hx hb dX6_match_19 hl (by decide) rfl (fun ls hl => ?_)
    refine lv_iload_n hx hb dX6_match_21 rfl (lv_at hl 3 rfl) ?_
    refine lv_if_lt (tgt := 38) hx hb dX6_match_22 (by decide) (fun c6 => ?_) (fun c6 => ?_)
    · rw [if_pos c6] at h
      refine lv_bipush (v := (-2)) hx hb dX6_match_38 (by decide) ?_
      obtain ⟨rfl, rfl⟩ := xm_pr h
      exact xm_retI C hP hS dX6_match_40
    · rw [if_neg c6] at h
      refine lv_iload_n hx hb dX6_match_25 rfl (lv_at hl 4 rfl) ?_
      refine lv_if_lt (tgt := 38) hx hb dX6_match_26 (by decide) (fun c7 => ?_) (fun c7 => ?_)
      · rw [if_pos c7] at h
        refine lv_bipush (v := (-2)) hx hb dX6_match_38 (by decide) ?_
        obtain ⟨rfl, rfl⟩ := xm_pr h
        exact xm_retI C hP hS dX6_match_40
      · rw [if_neg c7] at h
        refine lv_iload_n hx hb dX6_match_29 rfl (lv_at hl 4 rfl) ?_
        refine lv_aload hx hb dX6_match_30 (lv_at hl 0 rfl) ?_
        refine xm_getN (V := (xv E a)) (T := TX2) (v := .int (M1 (18 + 5 + 3 * x1.toNatClampNeg) 3)) C hP (18 + 5 + 3 * x1.toNatClampNeg) 3 xi_2 rfl l_X6_157 rfl (xp_lt (xp_s xs_18 b5) 0 (by omega)) ((xp_0 (xp_s xs_18 b5) E a) _) (Nat.le_of_ble_eq_true rfl) rfl dX6_match_32 ?_
        refine lv_icmp_lt (tgt := 41) hx hb dX6_match_35 (by decide) (fun c8 => ?_) (fun c8 => ?_)
        · rw [if_pos c8] at h
          refine lv_aload_n hx hb dX6_match_41 rfl (lv_at hl 1 rfl) ?_
          refine xm_get (V := (xv E a)) (T := TX6) (v := .ref (a 8)) C hP 0 6 xi_6 rfl l_X6_47 rfl (Nat.le_of_ble_eq_true rfl) ((xe_0 E a) _) (Nat.le_of_ble_eq_true rfl) rfl dX6_match_42 ?_
          refine lv_aload_n hx hb dX6_match_45 rfl (lv_at hl 1 rfl) ?_
          refine xm_get (V := (xv E a)) (T := TX6) (v := .ref (a 18)) C hP 0 0 xi_6 rfl l_X6_10 rfl (Nat.le_of_ble_eq_true rfl) ((xe_0 E a) _) (Nat.le_of_ble_eq_true rfl) rfl dX6_match_46 ?_
          obtain ⟨M9, e11, h⟩ := xm_b1_s h
          refine xm_callVN C hP hS [.ref (a 18)] [] (c_X3_begin hD xs_18 n M1  M9 e11) k_X6_132 (xm_recv C hP 8 rfl (Nat.le_of_ble_eq_true rfl) ((xe_8 E a) _)) rfl rfl ⟨(Nat.le_of_ble_eq_true rfl), (Nat.le_of_ble_eq_true rfl)⟩ hl.1 (Nat.le_of_ble_eq_true rfl) ⟨Nat.zero_le _, Nat.zero_le _⟩ dX6_match_49 (fun H locs hP hS => ?_)
          change W p l e _ s m _ below meth c H locs 0 0 _ (F0 m 52 ls [])
          refine lv_aload_n hx hb dX6_match_52 rfl (lv_at hl 1 rfl) ?_
          refine xm_get (V := (xv E a)) (T := TX6) (v := .ref (a 8)) C hP 0 6 xi_6 rfl l_X6_47 rfl (Nat.le_of_ble_eq_true rfl) ((xe_0 E a) _) (Nat.le_of_ble_eq_true rfl) rfl dX6_match_53 ?_
          refine lv_iload_n hx hb dX6_match_56 rfl (lv_at hl 3 rfl) ?_
          refine lv_iload_n hx hb dX6_match_57 rfl (lv_at hl 4 rfl) ?_
          obtain ⟨M12, e14, h⟩ := xm_b1_s h
          refine xm_callVN C hP hS [.int x2, .int x3] [] (c_X3_want hD  n M9 x2 x3 M12 e14) k_X6_178 (xm_recv C hP 8 rfl (Nat.le_of_ble_eq_true rfl) ((xe_8 E a) _)) rfl rfl ⟨(Nat.le_of_ble_eq_true rfl), (Nat.le_of_ble_eq_true rfl)⟩ hl.1 (Nat.le_of_ble_eq_true rfl) ⟨Nat.zero_le _, Nat.zero_le _⟩ dX6_match_58 (fun H locs hP hS => ?_)
          change W p l e _ s m _ below meth c H locs 0 0 _ (F0 m 61 ls [])
          refine lv_aload_n hx hb dX6_match_61 rfl (lv_at hl 1 rfl) ?_
          refine xm_get (V := (xv E a)) (T := TX6) (v := .ref (a 8)) C hP 0 6 xi_6 rfl l_X6_47 rfl (Nat.le_of_ble_eq_true rfl) ((xe_0 E a) _) (Nat.le_of_ble_eq_true rfl) rfl dX6_match_62 ?_
          refine lv_aload hx hb dX6_match_65 (lv_at hl 0 rfl) ?_
          obtain ⟨M15, e17, h⟩ := xm_b1_s h
          refine xm_callVN C hP hS [.ref (a (18 + 5 + 3 * x1.toNatClampNeg))] [] (c_X3_run hD (xp_s xs_18 b5) n M12  M15 e17) k_X6_182 (xm_recv C hP 8 rfl (Nat.le_of_ble_eq_true rfl) ((xe_8 E a) _)) rfl rfl ⟨(Nat.le_of_ble_eq_true rfl), (Nat.le_of_ble_eq_true rfl)⟩ hl.1 (Nat.le_of_ble_eq_true rfl) ⟨Nat.zero_le _, Nat.zero_le _⟩ dX6_match_67 (fun H locs hP hS => ?_)
          change W p l e _ s m _ below meth c H locs 0 0 _ (F0 m 70 ls [])
          refine lv_aload_n hx hb dX6_match_70 rfl (lv_at hl 1 rfl) ?_
          refine xm_get (V := (xv E a)) (T := TX6) (v := .ref (a 8)) C hP 0 6 xi_6 rfl l_X6_47 rfl (Nat.le_of_ble_eq_true rfl) ((xe_0 E a) _) (Nat.le_of_ble_eq_true rfl) rfl dX6_match_71 ?_
          refine xm_getN (V := (xv E a)) (T := TX3) (v := .int (M15 8 5)) C hP 8 5 xi_3 rfl l_X6_185 rfl (Nat.le_of_ble_eq_true rfl) ((xe_8 E a) _) (Nat.le_of_ble_eq_true rfl) rfl dX6_match_74 ?_
          obtain ⟨rfl, rfl⟩ := xm_pr h
          exact xm_retI C hP hS dX6_match_77
        · rw [if_neg c8] at h
          refine lv_bipush (v := (-2)) hx hb dX6_match_38 (by decide) ?_
          obtain ⟨rfl, rfl⟩ := xm_pr h
          exact xm_retI C hP hS dX6_match_40
  · rw [if_pos c4] at h
    refine lv_iconst (v := (-1)) hx hb dX6_match_8 (by decide) ?_
    obtain ⟨rfl, rfl⟩ := xm_pr h
    exact xm_retI C hP hS dX6_match_9
theorem c_X6_match {l : Launch} {E : xm_E} {a : Nat → Nat} (hD : xm_D (xv E a)) (n : Nat) (M : xm_M) (x1 : Int32) (x2 : Int32) (x3 : Int32) (r : Int32) (M' : xm_M) (h : f_X6_match n M x1 x2 x3 = some (r, M')) : xm_Met l E (xv E a) yX6_match cX6_match 5 (some .int) 7 174 [.ref (a 0), .int x1, .int x2, .int x3] M M' (some r) :=
  xm_met (by decide +kernel) rfl (Nat.le_of_ble_eq_true rfl) hD (fun p e s m below meth c C hP ls hl => t_X6_match_0 C  n M x1 x2 x3 r M' h _ _ _ hP va_S.rf hl)
def f_X6_ifEvent (n : Nat) (M : xm_M) (x1 : Int32) (x2 : Int32) (x3 : Int32) : Option (Int32 × xm_M) := xm_b2 (f_X6_errorOfEvent n M x1 x2 x3) (fun r2 M1 => if r2 = 0 then xm_b1 (f_X3_begin n M1 18) (fun M5 => xm_b1 (f_X1_insert n M5 (M5 18 0) x1 x2 x3) (fun M8 => xm_b2 (f_X3_runAll n M8 18) (fun r12 M11 => some (r12, M11)))) else some (r2, M1))
set_option maxHeartbeats 4000000 in
set_option maxRecDepth 100000 in
theorem t_X6_ifEvent_0 {l : Launch} {p : Program} {e : Env} {s : State} {m : MethodId} {args : Array Value} {below : List Frame} {meth : Method} {c : Code} {E : xm_E} {a : Nat → Nat} (C : xm_C E (xv E a) p s m args meth c RX6 cX6_ifEvent 5 (some .int)) (n : Nat) (M : xm_M) (x1 : Int32) (x2 : Int32) (x3 : Int32) (r : Int32) (M' : xm_M) : f_X6_ifEvent n M x1 x2 x3 = some (r, M') → ∀ (H : Heap) (locs : List Loc) (ls : Array Slot), va_P E.1 vwCl (xm_w (xv E a) M) H → va_S (xm_A (xv E a) s.heap.size) s.heap H locs → lv_has ls 5 [(0, .ref (a 0)), (1, .int x1), (2, .int x2), (3, .int x3)] → W p l e { frames := 8, cells := 0, slots := 0, locals := 197 } s m args below meth c H locs 0 0 (MQ below (xm_Q E (xv E a) M' s.heap.size (some r)) args s 0 0 (xm_A (xv E a) s.heap.size)) (F0 m 0 ls []) := by
  have C9 := C
  obtain ⟨hx, hb, hml, hown, hts, hr, hlk, hD, hK, hS9⟩ := C9
  intro h H locs ls hP hS hl
  unfold f_X6_ifEvent at h
  refine lv_aload_n hx hb dX6_ifEvent_0 rfl (lv_at hl 0 rfl) ?_
  refine lv_iload_n hx hb dX6_ifEvent_1 rfl (lv_at hl 1 rfl) ?_
  refine lv_iload_n hx hb dX6_ifEvent_2 rfl (lv_at hl 2 rfl) ?_
  refine lv_iload_n hx hb dX6_ifEvent_3 rfl (lv_at hl 3 rfl) ?_
  obtain ⟨r2, M1, e3, h⟩ := xm_b2_s h
  refine xm_callV C hP hS [.int x1, .int x2, .int x3] [] (c_X6_errorOfEvent hD  n M x1 x2 x3 r2 M1 e3) k_X6_51 (xm_recv C hP 0 rfl (Nat.le_of_ble_eq_true rfl) ((xe_0 E a) _)) rfl rfl ⟨(Nat.le_of_ble_eq_true rfl), (Nat.le_of_ble_eq_true rfl)⟩ hl.1 (Nat.le_of_ble_eq_true rfl) ⟨Nat.zero_le _, Nat.zero_le _⟩ dX6_ifEvent_4 (fun H locs hP hS => ?_)
  change W p l e _ s m _ below meth c H locs 0 0 _ (F0 m 7 ls [.int r2])
  refine lv_istore (lv' := [(4, .int r2), (0, .ref (a 0)), (1, .int x1), (2, .int x2), (3, .int x3)]) hx hb dX6_ifEvent_7 hl (by decide) rfl (fun ls hl => ?_)
  refine lv_iload hx hb dX6_ifEvent_9 (lv_at hl 0 rfl) ?_
  refine lv_if_eq (tgt := 17) hx hb dX6_ifEvent_11 (by decide) (fun c4 => ?_) (fun c4 => ?_)
  · rw [if_pos c4] at h
    refine lv_aload_n hx hb dX6_ifEvent_17 rfl (lv_at hl 1 rfl) ?_
    refine xm_get (V := (xv E a)) (T := TX6) (v := .ref (a 8)) C hP 0 6 xi_6 rfl l_X6_47 rfl (Nat.le_of_ble_eq_true rfl) ((xe_0 E a) _) (Nat.le_of_ble_eq_true rfl) rfl dX6_ifEvent_18 ?_
    refine lv_aload_n hx hb dX6_ifEvent_21 rfl (lv_at hl 1 rfl) ?_
    refine xm_get (V := (xv E a)) (T := TX6) (v := .ref (a 18)) C hP 0 0 xi_6 rfl l_X6_10 rfl (Nat.le_of_ble_eq_true rfl) ((xe_0 E a) _) (Nat.le_of_ble_eq_true rfl) rfl dX6_ifEvent_22 ?_
    obtain ⟨M5, e7, h⟩ := xm_b1_s h
    refine xm_callVN C hP hS [.ref (a 18)] [] (c_X3_begin hD xs_18 n M1  M5 e7) k_X6_132 (xm_recv C hP 8 rfl (Nat.le_of_ble_eq_true rfl) ((xe_8 E a) _)) rfl rfl ⟨(Nat.le_of_ble_eq_true rfl), (Nat.le_of_ble_eq_true rfl)⟩ hl.1 (Nat.le_of_ble_eq_true rfl) ⟨Nat.zero_le _, Nat.zero_le _⟩ dX6_ifEvent_25 (fun H locs hP hS => ?_)
    change W p l e _ s m _ below meth c H locs 0 0 _ (F0 m 28 ls [])
    refine lv_aload_n hx hb dX6_ifEvent_28 rfl (lv_at hl 1 rfl) ?_
    refine xm_get (V := (xv E a)) (T := TX6) (v := .ref (a 8)) C hP 0 6 xi_6 rfl l_X6_47 rfl (Nat.le_of_ble_eq_true rfl) ((xe_0 E a) _) (Nat.le_of_ble_eq_true rfl) rfl dX6_ifEvent_29 ?_
    refine xm_getN (V := (xv E a)) (T := TX3) (v := .ref (a 13)) C hP 8 0 xi_3 rfl l_X6_135 rfl (Nat.le_of_ble_eq_true rfl) ((xe_8 E a) _) (Nat.le_of_ble_eq_true rfl) rfl dX6_ifEvent_32 ?_
    refine lv_aload_n hx hb dX6_ifEvent_35 rfl (lv_at hl 1 rfl) ?_
    refine xm_get (V := (xv E a)) (T := TX6) (v := .ref (a 18)) C hP 0 0 xi_6 rfl l_X6_10 rfl (Nat.le_of_ble_eq_true rfl) ((xe_0 E a) _) (Nat.le_of_ble_eq_true rfl) rfl dX6_ifEvent_36 ?_
    refine xm_getN (V := (xv E a)) (T := TX4) (v := .int (M5 18 0)) C hP 18 0 xi_4 rfl l_X6_55 rfl (xs_lt xs_18 0 (by omega)) ((xs_0 xs_18 E a) _) (Nat.le_of_ble_eq_true rfl) rfl dX6_ifEvent_39 ?_
    refine lv_iload_n hx hb dX6_ifEvent_42 rfl (lv_at hl 2 rfl) ?_
    refine lv_iload_n hx hb dX6_ifEvent_43 rfl (lv_at hl 3 rfl) ?_
    refine lv_iload_n hx hb dX6_ifEvent_44 rfl (lv_at hl 4 rfl) ?_
    obtain ⟨M8, e10, h⟩ := xm_b1_s h
    refine xm_callVN C hP hS [.int (M5 18 0), .int x1, .int x2, .int x3] [] (c_X1_insert hD  n M5 (M5 18 0) x1 x2 x3 M8 e10) k_X6_188 (xm_recv C hP 13 rfl (Nat.le_of_ble_eq_true rfl) ((xe_13 E a) _)) rfl rfl ⟨(Nat.le_of_ble_eq_true rfl), (Nat.le_of_ble_eq_true rfl)⟩ hl.1 (Nat.le_of_ble_eq_true rfl) ⟨Nat.zero_le _, Nat.zero_le _⟩ dX6_ifEvent_45 (fun H locs hP hS => ?_)
    change W p l e _ s m _ below meth c H locs 0 0 _ (F0 m 48 ls [])
    refine lv_aload_n hx hb dX6_ifEvent_48 rfl (lv_at hl 1 rfl) ?_
    refine xm_get (V := (xv E a)) (T := TX6) (v := .ref (a 8)) C hP 0 6 xi_6 rfl l_X6_47 rfl (Nat.le_of_ble_eq_true rfl) ((xe_0 E a) _) (Nat.le_of_ble_eq_true rfl) rfl dX6_ifEvent_49 ?_
    refine lv_aload_n hx hb dX6_ifEvent_52 rfl (lv_at hl 1 rfl) ?_
    refine xm_get (V := (xv E a)) (T := TX6) (v := .ref (a 18)) C hP 0 0 xi_6 rfl l_X6_10 rfl (Nat.le_of_ble_eq_true rfl) ((xe_0 E a) _) (Nat.le_of_ble_eq_true rfl) rfl dX6_ifEvent_53 ?_
    obtain ⟨r12, M11, e13, h⟩ := xm_b2_s h
    refine xm_callVN C hP hS [.ref (a 18)] [] (c_X3_runAll hD xs_18 n M8  r12 M11 e13) k_X6_144 (xm_recv C hP 8 rfl (Nat.le_of_ble_eq_true rfl) ((xe_8 E a) _)) rfl rfl ⟨(Nat.le_of_ble_eq_true rfl), (Nat.le_of_ble_eq_true rfl)⟩ hl.1 (Nat.le_of_ble_eq_true rfl) ⟨Nat.zero_le _, Nat.zero_le _⟩ dX6_ifEvent_56 (fun H locs hP hS => ?_)
    change W p l e _ s m _ below meth c H locs 0 0 _ (F0 m 59 ls [.int r12])
    obtain ⟨rfl, rfl⟩ := xm_pr h
    exact xm_retI C hP hS dX6_ifEvent_59
  · rw [if_neg c4] at h
    refine lv_iload hx hb dX6_ifEvent_14 (lv_at hl 0 rfl) ?_
    obtain ⟨rfl, rfl⟩ := xm_pr h
    exact xm_retI C hP hS dX6_ifEvent_16
theorem c_X6_ifEvent {l : Launch} {E : xm_E} {a : Nat → Nat} (hD : xm_D (xv E a)) (n : Nat) (M : xm_M) (x1 : Int32) (x2 : Int32) (x3 : Int32) (r : Int32) (M' : xm_M) (h : f_X6_ifEvent n M x1 x2 x3 = some (r, M')) : xm_Met l E (xv E a) yX6_ifEvent cX6_ifEvent 5 (some .int) 8 197 [.ref (a 0), .int x1, .int x2, .int x3] M M' (some r) :=
  xm_met (by decide +kernel) rfl (Nat.le_of_ble_eq_true rfl) hD (fun p e s m below meth c C hP ls hl => t_X6_ifEvent_0 C  n M x1 x2 x3 r M' h _ _ _ hP va_S.rf hl)
def f_X6_count (n : Nat) (M : xm_M) (x1 : Int32) : Option (Int32 × xm_M) := if x1 = 0 then some (M 18 0, M) else if x1 = 1 then some (M 18 6, M) else if x1 = 2 then xm_b1 (f_X3_begin n M 18) (fun M4 => xm_b2 (f_X3_runAll n M4 18) (fun r8 M7 => some (r8, M7))) else if x1 = 3 then some (M 18 4, M) else if x1 = 4 then xm_b2 (f_X4_watermark n M 18) (fun r13 M12 => some (r13, M12)) else if x1 = 5 then some (M 18 5, M) else if x1 = 6 then xm_b1 (f_X3_begin n M 18) (fun M17 => xm_b2 (f_X3_runAll n M17 18) (fun r21 M20 => xm_b2 (f_X3_placesWithoutShare n M20) (fun r24 M23 => some (r24, M23)))) else if x1 = 7 then some (M 4 2, M) else if x1 = 8 then some (M 6 1, M) else some ((-2), M)
set_option maxHeartbeats 4000000 in
set_option maxRecDepth 100000 in
theorem t_X6_count_0 {l : Launch} {p : Program} {e : Env} {s : State} {m : MethodId} {args : Array Value} {below : List Frame} {meth : Method} {c : Code} {E : xm_E} {a : Nat → Nat} (C : xm_C E (xv E a) p s m args meth c RX6 cX6_count 2 (some .int)) (n : Nat) (M : xm_M) (x1 : Int32) (r : Int32) (M' : xm_M) : f_X6_count n M x1 = some (r, M') → ∀ (H : Heap) (locs : List Loc) (ls : Array Slot), va_P E.1 vwCl (xm_w (xv E a) M) H → va_S (xm_A (xv E a) s.heap.size) s.heap H locs → lv_has ls 2 [(0, .ref (a 0)), (1, .int x1)] → W p l e { frames := 8, cells := 0, slots := 0, locals := 197 } s m args below meth c H locs 0 0 (MQ below (xm_Q E (xv E a) M' s.heap.size (some r)) args s 0 0 (xm_A (xv E a) s.heap.size)) (F0 m 0 ls []) := by
  have C9 := C
  obtain ⟨hx, hb, hml, hown, hts, hr, hlk, hD, hK, hS9⟩ := C9
  intro h H locs ls hP hS hl
  unfold f_X6_count at h
  refine lv_iload_n hx hb dX6_count_0 rfl (lv_at hl 1 rfl) ?_
  by_cases c1 : x1 = 0
  · rw [if_pos c1] at h
    refine lv_tableIn (tgt := 52) hx hb dX6_count_1 (by rw [c1]; decide) (by rw [c1]; decide) (by rw [c1]; rfl) (by decide) ?_
    refine lv_aload_n hx hb dX6_count_52 rfl (lv_at hl 0 rfl) ?_
    refine xm_get (V := (xv E a)) (T := TX6) (v := .ref (a 18)) C hP 0 0 xi_6 rfl l_X6_10 rfl (Nat.le_of_ble_eq_true rfl) ((xe_0 E a) _) (Nat.le_of_ble_eq_true rfl) rfl dX6_count_53 ?_
    refine xm_getN (V := (xv E a)) (T := TX4) (v := .int (M 18 0)) C hP 18 0 xi_4 rfl l_X6_55 rfl (xs_lt xs_18 0 (by omega)) ((xs_0 xs_18 E a) _) (Nat.le_of_ble_eq_true rfl) rfl dX6_count_56 ?_
    obtain ⟨rfl, rfl⟩ := xm_pr h
    exact xm_retI C hP hS dX6_count_59
  · rw [if_neg c1] at h
    by_cases c2 : x1 = 1
    · rw [if_pos c2] at h
      refine lv_tableIn (tgt := 60) hx hb dX6_count_1 (by rw [c2]; decide) (by rw [c2]; decide) (by rw [c2]; rfl) (by decide) ?_
      refine lv_aload_n hx hb dX6_count_60 rfl (lv_at hl 0 rfl) ?_
      refine xm_get (V := (xv E a)) (T := TX6) (v := .ref (a 18)) C hP 0 0 xi_6 rfl l_X6_10 rfl (Nat.le_of_ble_eq_true rfl) ((xe_0 E a) _) (Nat.le_of_ble_eq_true rfl) rfl dX6_count_61 ?_
      refine xm_getN (V := (xv E a)) (T := TX4) (v := .int (M 18 6)) C hP 18 6 xi_4 rfl l_X6_85 rfl (xs_lt xs_18 0 (by omega)) ((xs_0 xs_18 E a) _) (Nat.le_of_ble_eq_true rfl) rfl dX6_count_64 ?_
      obtain ⟨rfl, rfl⟩ := xm_pr h
      exact xm_retI C hP hS dX6_count_67
    · rw [if_neg c2] at h
      by_cases c3 : x1 = 2
      · rw [if_pos c3] at h
        refine lv_tableIn (tgt := 68) hx hb dX6_count_1 (by rw [c3]; decide) (by rw [c3]; decide) (by rw [c3]; rfl) (by decide) ?_
        refine lv_aload_n hx hb dX6_count_68 rfl (lv_at hl 0 rfl) ?_
        refine xm_get (V := (xv E a)) (T := TX6) (v := .ref (a 8)) C hP 0 6 xi_6 rfl l_X6_47 rfl (Nat.le_of_ble_eq_true rfl) ((xe_0 E a) _) (Nat.le_of_ble_eq_true rfl) rfl dX6_count_69 ?_
        refine lv_aload_n hx hb dX6_count_72 rfl (lv_at hl 0 rfl) ?_
        refine xm_get (V := (xv E a)) (T := TX6) (v := .ref (a 18)) C hP 0 0 xi_6 rfl l_X6_10 rfl (Nat.le_of_ble_eq_true rfl) ((xe_0 E a) _) (Nat.le_of_ble_eq_true rfl) rfl dX6_count_73 ?_
        obtain ⟨M4, e6, h⟩ := xm_b1_s h
        refine xm_callVN C hP hS [.ref (a 18)] [] (c_X3_begin hD xs_18 n M  M4 e6) k_X6_132 (xm_recv C hP 8 rfl (Nat.le_of_ble_eq_true rfl) ((xe_8 E a) _)) rfl rfl ⟨(Nat.le_of_ble_eq_true rfl), (Nat.le_of_ble_eq_true rfl)⟩ hl.1 (Nat.le_of_ble_eq_true rfl) ⟨Nat.zero_le _, Nat.zero_le _⟩ dX6_count_76 (fun H locs hP hS => ?_)
        change W p l e _ s m _ below meth c H locs 0 0 _ (F0 m 79 ls [])
        refine lv_aload_n hx hb dX6_count_79 rfl (lv_at hl 0 rfl) ?_
        refine xm_get (V := (xv E a)) (T := TX6) (v := .ref (a 8)) C hP 0 6 xi_6 rfl l_X6_47 rfl (Nat.le_of_ble_eq_true rfl) ((xe_0 E a) _) (Nat.le_of_ble_eq_true rfl) rfl dX6_count_80 ?_
        refine lv_aload_n hx hb dX6_count_83 rfl (lv_at hl 0 rfl) ?_
        refine xm_get (V := (xv E a)) (T := TX6) (v := .ref (a 18)) C hP 0 0 xi_6 rfl l_X6_10 rfl (Nat.le_of_ble_eq_true rfl) ((xe_0 E a) _) (Nat.le_of_ble_eq_true rfl) rfl dX6_count_84 ?_
        obtain ⟨r8, M7, e9, h⟩ := xm_b2_s h
        refine xm_callVN C hP hS [.ref (a 18)] [] (c_X3_runAll hD xs_18 n M4  r8 M7 e9) k_X6_144 (xm_recv C hP 8 rfl (Nat.le_of_ble_eq_true rfl) ((xe_8 E a) _)) rfl rfl ⟨(Nat.le_of_ble_eq_true rfl), (Nat.le_of_ble_eq_true rfl)⟩ hl.1 (Nat.le_of_ble_eq_true rfl) ⟨Nat.zero_le _, Nat.zero_le _⟩ dX6_count_87 (fun H locs hP hS => ?_)
        change W p l e _ s m _ below meth c H locs 0 0 _ (F0 m 90 ls [.int r8])
        obtain ⟨rfl, rfl⟩ := xm_pr h
        exact xm_retI C hP hS dX6_count_90
      · rw [if_neg c3] at h
        by_cases c10 : x1 = 3
        · rw [if_pos c10] at h
          refine lv_tableIn (tgt := 91) hx hb dX6_count_1 (by rw [c10]; decide) (by rw [c10]; decide) (by rw [c10]; rfl) (by decide) ?_
          refine lv_aload_n hx hb dX6_count_91 rfl (lv_at hl 0 rfl) ?_
          refine xm_get (V := (xv E a)) (T := TX6) (v := .ref (a 18)) C hP 0 0 xi_6 rfl l_X6_10 rfl (Nat.le_of_ble_eq_true rfl) ((xe_0 E a) _) (Nat.le_of_ble_eq_true rfl) rfl dX6_count_92 ?_
          refine xm_getN (V := (xv E a)) (T := TX4) (v := .int (M 18 4)) C hP 18 4 xi_4 rfl l_X6_192 rfl (xs_lt xs_18 0 (by omega)) ((xs_0 xs_18 E a) _) (Nat.le_of_ble_eq_true rfl) rfl dX6_count_95 ?_
          obtain ⟨rfl, rfl⟩ := xm_pr h
          exact xm_retI C hP hS dX6_count_98
        · rw [if_neg c10] at h
          by_cases c11 : x1 = 4
          · rw [if_pos c11] at h
            refine lv_tableIn (tgt := 99) hx hb dX6_count_1 (by rw [c11]; decide) (by rw [c11]; decide) (by rw [c11]; rfl) (by decide) ?_
            refine lv_aload_n hx hb dX6_count_99 rfl (lv_at hl 0 rfl) ?_
            refine xm_get (V := (xv E a)) (T := TX6) (v := .ref (a 18)) C hP 0 0 xi_6 rfl l_X6_10 rfl (Nat.le_of_ble_eq_true rfl) ((xe_0 E a) _) (Nat.le_of_ble_eq_true rfl) rfl dX6_count_100 ?_
            obtain ⟨r13, M12, e14, h⟩ := xm_b2_s h
            refine xm_callVN C hP hS [] [] (c_X4_watermark hD xs_18 n M  r13 M12 e14) k_X6_195 (xm_recv C hP 18 rfl (xs_lt xs_18 0 (by omega)) ((xs_0 xs_18 E a) _)) rfl rfl ⟨(Nat.le_of_ble_eq_true rfl), (Nat.le_of_ble_eq_true rfl)⟩ hl.1 (Nat.le_of_ble_eq_true rfl) ⟨Nat.zero_le _, Nat.zero_le _⟩ dX6_count_103 (fun H locs hP hS => ?_)
            change W p l e _ s m _ below meth c H locs 0 0 _ (F0 m 106 ls [.int r13])
            obtain ⟨rfl, rfl⟩ := xm_pr h
            exact xm_retI C hP hS dX6_count_106
          · rw [if_neg c11] at h
            by_cases c15 : x1 = 5
            · rw [if_pos c15] at h
              refine lv_tableIn (tgt := 107) hx hb dX6_count_1 (by rw [c15]; decide) (by rw [c15]; decide) (by rw [c15]; rfl) (by decide) ?_
              refine lv_aload_n hx hb dX6_count_107 rfl (lv_at hl 0 rfl) ?_
              refine xm_get (V := (xv E a)) (T := TX6) (v := .ref (a 18)) C hP 0 0 xi_6 rfl l_X6_10 rfl (Nat.le_of_ble_eq_true rfl) ((xe_0 E a) _) (Nat.le_of_ble_eq_true rfl) rfl dX6_count_108 ?_
              refine xm_getN (V := (xv E a)) (T := TX4) (v := .int (M 18 5)) C hP 18 5 xi_4 rfl l_X6_78 rfl (xs_lt xs_18 0 (by omega)) ((xs_0 xs_18 E a) _) (Nat.le_of_ble_eq_true rfl) rfl dX6_count_111 ?_
              obtain ⟨rfl, rfl⟩ := xm_pr h
              exact xm_retI C hP hS dX6_count_114
            · rw [if_neg c15] at h
              by_cases c16 : x1 = 6
              · rw [if_pos c16] at h
                refine lv_tableIn (tgt := 115) hx hb dX6_count_1 (by rw [c16]; decide) (by rw [c16]; decide) (by rw [c16]; rfl) (by decide) ?_
                refine lv_aload_n hx hb dX6_count_115 rfl (lv_at hl 0 rfl) ?_
                refine xm_get (V := (xv E a)) (T := TX6) (v := .ref (a 8)) C hP 0 6 xi_6 rfl l_X6_47 rfl (Nat.le_of_ble_eq_true rfl) ((xe_0 E a) _) (Nat.le_of_ble_eq_true rfl) rfl dX6_count_116 ?_
                refine lv_aload_n hx hb dX6_count_119 rfl (lv_at hl 0 rfl) ?_
                refine xm_get (V := (xv E a)) (T := TX6) (v := .ref (a 18)) C hP 0 0 xi_6 rfl l_X6_10 rfl (Nat.le_of_ble_eq_true rfl) ((xe_0 E a) _) (Nat.le_of_ble_eq_true rfl) rfl dX6_count_120 ?_
                obtain ⟨M17, e19, h⟩ := xm_b1_s h
                refine xm_callVN C hP hS [.ref (a 18)] [] (c_X3_begin hD xs_18 n M  M17 e19) k_X6_132 (xm_recv C hP 8 rfl (Nat.le_of_ble_eq_true rfl) ((xe_8 E a) _)) rfl rfl ⟨(Nat.le_of_ble_eq_true rfl), (Nat.le_of_ble_eq_true rfl)⟩ hl.1 (Nat.le_of_ble_eq_true rfl) ⟨Nat.zero_le _, Nat.zero_le _⟩ dX6_count_123 (fun H locs hP hS => ?_)
                change W p l e _ s m _ below meth c H locs 0 0 _ (F0 m 126 ls [])
                refine lv_aload_n hx hb dX6_count_126 rfl (lv_at hl 0 rfl) ?_
                refine xm_get (V := (xv E a)) (T := TX6) (v := .ref (a 8)) C hP 0 6 xi_6 rfl l_X6_47 rfl (Nat.le_of_ble_eq_true rfl) ((xe_0 E a) _) (Nat.le_of_ble_eq_true rfl) rfl dX6_count_127 ?_
                refine lv_aload_n hx hb dX6_count_130 rfl (lv_at hl 0 rfl) ?_
                refine xm_get (V := (xv E a)) (T := TX6) (v := .ref (a 18)) C hP 0 0 xi_6 rfl l_X6_10 rfl (Nat.le_of_ble_eq_true rfl) ((xe_0 E a) _) (Nat.le_of_ble_eq_true rfl) rfl dX6_count_131 ?_
                obtain ⟨r21, M20, e22, h⟩ := xm_b2_s h
                refine xm_callVN C hP hS [.ref (a 18)] [] (c_X3_runAll hD xs_18 n M17  r21 M20 e22) k_X6_144 (xm_recv C hP 8 rfl (Nat.le_of_ble_eq_true rfl) ((xe_8 E a) _)) rfl rfl ⟨(Nat.le_of_ble_eq_true rfl), (Nat.le_of_ble_eq_true rfl)⟩ hl.1 (Nat.le_of_ble_eq_true rfl) ⟨Nat.zero_le _, Nat.zero_le _⟩ dX6_count_134 (fun H locs hP hS => ?_)
                change W p l e _ s m _ below meth c H locs 0 0 _ (F0 m 137 ls [.int r21])
                refine lv_pop hx hb dX6_count_137 rfl ?_
                refine lv_aload_n hx hb dX6_count_138 rfl (lv_at hl 0 rfl) ?_
                refine xm_get (V := (xv E a)) (T := TX6) (v := .ref (a 8)) C hP 0 6 xi_6 rfl l_X6_47 rfl (Nat.le_of_ble_eq_true rfl) ((xe_0 E a) _) (Nat.le_of_ble_eq_true rfl) rfl dX6_count_139 ?_
                obtain ⟨r24, M23, e25, h⟩ := xm_b2_s h
                refine xm_callVN C hP hS [] [] (c_X3_placesWithoutShare hD  n M20  r24 M23 e25) k_X6_199 (xm_recv C hP 8 rfl (Nat.le_of_ble_eq_true rfl) ((xe_8 E a) _)) rfl rfl ⟨(Nat.le_of_ble_eq_true rfl), (Nat.le_of_ble_eq_true rfl)⟩ hl.1 (Nat.le_of_ble_eq_true rfl) ⟨Nat.zero_le _, Nat.zero_le _⟩ dX6_count_142 (fun H locs hP hS => ?_)
                change W p l e _ s m _ below meth c H locs 0 0 _ (F0 m 145 ls [.int r24])
                obtain ⟨rfl, rfl⟩ := xm_pr h
                exact xm_retI C hP hS dX6_count_145
              · rw [if_neg c16] at h
                by_cases c26 : x1 = 7
                · rw [if_pos c26] at h
                  refine lv_tableIn (tgt := 146) hx hb dX6_count_1 (by rw [c26]; decide) (by rw [c26]; decide) (by rw [c26]; rfl) (by decide) ?_
                  refine lv_aload_n hx hb dX6_count_146 rfl (lv_at hl 0 rfl) ?_
                  refine xm_get (V := (xv E a)) (T := TX6) (v := .ref (a 4)) C hP 0 3 xi_6 rfl l_X6_26 rfl (Nat.le_of_ble_eq_true rfl) ((xe_0 E a) _) (Nat.le_of_ble_eq_true rfl) rfl dX6_count_147 ?_
                  refine xm_getN (V := (xv E a)) (T := TX0) (v := .int (M 4 2)) C hP 4 2 xi_0 rfl l_X6_112 rfl (Nat.le_of_ble_eq_true rfl) ((xe_4 E a) _) (Nat.le_of_ble_eq_true rfl) rfl dX6_count_150 ?_
                  obtain ⟨rfl, rfl⟩ := xm_pr h
                  exact xm_retI C hP hS dX6_count_153
                · rw [if_neg c26] at h
                  by_cases c27 : x1 = 8
                  · rw [if_pos c27] at h
                    refine lv_tableIn (tgt := 154) hx hb dX6_count_1 (by rw [c27]; decide) (by rw [c27]; decide) (by rw [c27]; rfl) (by decide) ?_
                    refine lv_aload_n hx hb dX6_count_154 rfl (lv_at hl 0 rfl) ?_
                    refine xm_get (V := (xv E a)) (T := TX6) (v := .ref (a 6)) C hP 0 4 xi_6 rfl l_X6_33 rfl (Nat.le_of_ble_eq_true rfl) ((xe_0 E a) _) (Nat.le_of_ble_eq_true rfl) rfl dX6_count_155 ?_
                    refine xm_getN (V := (xv E a)) (T := TX5) (v := .int (M 6 1)) C hP 6 1 xi_5 rfl l_X6_109 rfl (Nat.le_of_ble_eq_true rfl) ((xe_6 E a) _) (Nat.le_of_ble_eq_true rfl) rfl dX6_count_158 ?_
                    obtain ⟨rfl, rfl⟩ := xm_pr h
                    exact xm_retI C hP hS dX6_count_161
                  · rw [if_neg c27] at h
                    refine lv_tableOut (tgt := 162) hx hb dX6_count_1 (xm_sw9 c1 c2 c3 c10 c11 c15 c16 c26 c27) (by decide) ?_
                    refine lv_bipush (v := (-2)) hx hb dX6_count_162 (by decide) ?_
                    obtain ⟨rfl, rfl⟩ := xm_pr h
                    exact xm_retI C hP hS dX6_count_164
theorem c_X6_count {l : Launch} {E : xm_E} {a : Nat → Nat} (hD : xm_D (xv E a)) (n : Nat) (M : xm_M) (x1 : Int32) (r : Int32) (M' : xm_M) (h : f_X6_count n M x1 = some (r, M')) : xm_Met l E (xv E a) yX6_count cX6_count 2 (some .int) 8 197 [.ref (a 0), .int x1] M M' (some r) :=
  xm_met (by decide +kernel) rfl (Nat.le_of_ble_eq_true rfl) hD (fun p e s m below meth c C hP ls hl => t_X6_count_0 C  n M x1 r M' h _ _ _ hP va_S.rf hl)
end
section
/-! CONSTRUCTORS: a fresh object comes with the cells that its constructor makes; S says which they are -/
def xn_Pre (E : xm_E) (h0 : Nat) (c0 : va_E) (sz : Nat) (U : State) : Prop := U.heap.size = sz ∧ va_P E.1 vwCl [(h0, c0)] U.heap ∧ xm_K E U
def xn_Q (E : xm_E) (h0 : Nat) (c0 : va_E) (S : Nat → va_W → Prop) (sz : Nat) : Array Value → State → Outcome → State → Prop := fun _ st oc t => (oc = .returned none ∧ ∃ w1, S h0 w1 ∧ va_P E.1 vwCl w1 t.heap ∧ va_D (va_A [(h0, c0)] sz) w1) ∧ va_F (va_A [(h0, c0)] sz) st t
def xn_Met (l : Launch) (E : xm_E) (y : MethodName) (cc : ByteArray) (maxL fr mc ms lo : Nat) (c0 : va_E) (S : Nat → va_W → Prop) : Prop := ∀ h0 sz, Met l y (Cond.code y cc maxL none :: xm_tb) { frames := fr, cells := mc, slots := ms, locals := lo } (va_Pc [.ref h0] (xn_Pre E h0 c0 sz)) (xn_Q E h0 c0 S sz) mc ms (va_A [(h0, c0)] sz)
theorem xn_blind {E : xm_E} {h0 sz : Nat} {c0 : va_E} {as : List Value} : FrameBlind (va_Pc as (xn_Pre E h0 c0 sz)) := fun _ U g mk q => ⟨q.1, q.2.1, q.2.2.1, xm_K.same (s := U) rfl q.2.2.2⟩
def xn_C (E : xm_E) (p : Program) (s : State) (m : MethodId) (args : Array Value) (meth : Method) (c : Code) (own : String) (cc : ByteArray) (nL : Nat) : Prop :=
  p.tables.exec = Jvm.exec ∧ c.code = cc ∧ c.maxLocals = nL ∧ s.vm.findClass own = some m.cls ∧ (∀ w ∈ xm_tb, w.before args s = true) ∧ meth.sig.returnType = none ∧ meth.locks = false ∧ xm_K E s ∧ meth.name = "<init>"
theorem xn_met {l : Launch} {E : xm_E} {y : MethodName} {cc : ByteArray} {maxL fr mc ms lo : Nat} {own : String} {c0 : va_E} {S : Nat → va_W → Prop} (hy : plainName y.cls = true) (hyc : y.cls = own) (hyn : y.name = "<init>") (hlen : 1 ≤ maxL)
    (body : ∀ (h0 : Nat) (p : Program) (e : Env) (s : State) (m : MethodId) (below : List Frame) (meth : Method) (c : Code), xn_C E p s m #[.ref h0] meth c own cc maxL → va_P E.1 vwCl [(h0, c0)] s.heap → ∀ ls : Array Slot, lv_has ls maxL [(0, .ref h0)] →
      W p l e { frames := fr, cells := mc, slots := ms, locals := lo } s m #[.ref h0] below meth c s.heap [] 0 0 (MQ below (xn_Q E h0 c0 S s.heap.size) #[.ref h0] s mc ms (va_A [(h0, c0)] s.heap.size)) (F0 m 0 ls [])) : xn_Met l E y cc maxL fr mc ms lo c0 S := by
  intro h0 sz
  refine Met.ofW (cc := cc) (maxL := maxL) (ret := none) hy rfl ?_
  intro p e s m args below meth c s₁ B hml hv
  obtain ⟨rfl, hsz, hP, hK⟩ := hv
  subst hsz
  have hts := atoms_spec (ws := Cond.code y cc maxL none :: xm_tb) B.pre
  have hown : s.vm.findClass own = some m.cls := hyc ▸ findClass_of_methodNamed B.named
  have hin : meth.name = "<init>" := hyn ▸ (name_of_methodNamed B.named B.method).1
  have hl := lv_entry [.ref h0] (n := maxL) hlen
  rw [lg_entry_eq]
  exact body h0 p e s m below meth c ⟨B.exec, B.bytes, hml, hown, fun w hw => hts w (List.mem_cons_of_mem _ hw), B.returns, B.notSynchronized, hK, hin⟩ hP _ hl
theorem xn_obj : Cond.methodLink "WindowMatches" 1 Lib.objectInit ∈ xm_tb → True := fun _ => trivial
section XNEW
variable {p : Program} {l : Launch} {e : Env} {R : Room} {s : State} {m : MethodId} {args : Array Value} {below : List Frame} {meth : Method} {c : Code} {H H0 : Heap} {locs : List Loc} {cells slots : Nat} {Q : State → Prop}
variable {cc : ByteArray} {pc : Nat} {ls : Array Slot} {rest : List Value} {E : xm_E} {own : String} {nL : Nat} {A : Nat → Prop} {ws : va_W}
theorem xn_ret {below : List Frame} {h0 : Nat} {c0 : va_E} {S : Nat → va_W → Prop} (C : xn_C E p s m args meth c own cc nL) (hP : va_P E.1 vwCl ws H) (hD : va_D (va_A [(h0, c0)] s.heap.size) ws) (hS : va_S (va_A [(h0, c0)] s.heap.size) s.heap H locs) {w : va_W} (hw : ws = w) (hs : S h0 w) (hdg : decode cc pc = .ok (.return_, 1)) {k n : Nat} (h1 : cells = k) (h2 : slots = n) : W p l e R s m args below meth c H locs cells slots (MQ below (xn_Q E h0 c0 S s.heap.size) args s k n (va_A [(h0, c0)] s.heap.size)) (F0 m pc ls []) := by
  obtain ⟨hx, hb, hml, hown, hts, hr, hlk, hK, hin⟩ := C
  subst h1; subst h2; subst hw
  exact W.vret hx hb hr (fun t ht hW => ⟨⟨rfl, ws, hs, by rw [ht]; exact hP, hD⟩, hS.F ht⟩) hS.2.2 hdg hlk
theorem xn_back {q mc ms : Nat} {c0 : va_E} {S : Nat → va_W → Prop} {a : Array Value} {st0 : List Value} (hr : va_Run p l e R s m args below meth c H locs cells slots mc ms (F0 m pc ls st0) rest (xn_Q E q c0 S H.size a) (va_A [(q, c0)] H.size)) (hP : va_P E.1 vwCl (ws ++ [(q, c0)]) H) (hD : va_D A (ws ++ [(q, c0)])) (hS : va_S A H0 H locs) (hA : ∀ q, H0.size ≤ q → A q)
    (kk : ∀ (w1 : va_W) (H1 : Heap) (locs1 : List Loc), S q w1 → va_P E.1 vwCl (ws ++ w1) H1 → va_D A (ws ++ w1) → va_S A H0 H1 locs1 → W p l e R s m args below meth c H1 locs1 (cells + mc) (slots + ms) Q (F0 m (pc + 3) ls rest)) : W p l e R s m args below meth c H locs cells slots Q (F0 m pc ls st0) := by
  intro T hT X
  obtain ⟨v, st₀, t, T', L, h0, X', hL, e1, e2, ⟨⟨hv, w1, hs, hp, hd⟩, hz, hk⟩, st⟩ := hr T hT X
  cases hv
  rw [h0] at hz hk
  have hq : (ws ++ [(q, c0)])[ws.length]? = some (q, c0) := by simp
  have hAq : A q := hD.2 _ _ hq
  have hF : ∀ x, va_A [(q, c0)] H.size x → A x := by
    intro x hx
    rcases hx with ⟨k, e, hx⟩ | hx
    · have h9 := List.mem_of_getElem? hx
      rw [List.mem_singleton] at h9
      cases h9
      exact hAq
    · exact hA x (Nat.le_trans hS.1 hx)
  have hws : ∀ (k : Nat) (x : Nat × va_E), ws[k]? = some x → (ws ++ [(q, c0)])[k]? = some x := fun k x hx => by
    rw [List.getElem?_append_left (List.getElem?_eq_some_iff.mp hx).1]
    exact hx
  have apart : ∀ (k : Nat) (x : Nat × va_E), ws[k]? = some x → x.1 < H.size ∧ ¬ va_A [(q, c0)] H.size x.1 := by
    intro k x hx
    have hl := (hP k x (hws k x hx)).lt
    refine ⟨hl, fun h => ?_⟩
    rcases h with ⟨j, e, h⟩ | h
    · have h9 := List.mem_of_getElem? h
      rw [List.mem_singleton] at h9
      have hkl := (List.getElem?_eq_some_iff.mp hx).1
      have := hD.1 k ws.length x (q, c0) (hws k x hx) hq (Prod.mk.inj h9).1
      omega
    · omega
  have hPw : va_P E.1 vwCl ws t.heap := fun k x hx => (hP k x (hws k x hx)).kept (hk x.1 (apart k x hx).1 (apart k x hx).2)
  have hDw : va_D A ws := ⟨fun i j x y hx hy => hD.1 i j x y (hws i x hx) (hws j y hy), fun k x hx => hD.2 k x (hws k x hx)⟩
  obtain ⟨t2, a1, b1⟩ := kk w1 T'.heap (locs ++ L) hs (by rw [e1]; exact hPw.app hp) (va_D.app hDw (hd.weaken (fun k x _ h => hF x.1 h)) (fun i j x y hx hy hxy => (apart i x hx).2 (by rw [hxy]; exact hd.2 j y hy))) ⟨Nat.le_trans hS.1 (by rw [e1]; exact hz), fun x h1 h2 => by rw [e1, hk x (Nat.lt_of_lt_of_le h1 hS.1) (fun z => h2 (hF x z))]; exact hS.2.1 x h1 h2, fun x hx => by
      rcases List.mem_append.mp hx with h | h
      · exact hS.2.2 x h
      · exact hF _ (hL x h)⟩ T' rfl X'
  exact ⟨t2, st t2 a1, b1⟩
theorem xn_pre (hK : xm_K E s) {q : Nat} {c0 : va_E} (hP : va_P E.1 vwCl (ws ++ [(q, c0)]) H) : ∀ U : State, U.heap = H → s.WarmedH U.vm → va_Pc [.ref q] (xn_Pre E q c0 H.size) [Value.ref q].toArray U := by
  intro U hU hW
  subst hU
  refine ⟨rfl, rfl, fun k x hx => ?_, hK.warm hW⟩
  have h9 := List.mem_of_getElem? hx
  rw [List.mem_singleton] at h9
  subst h9
  exact hP ws.length _ (by simp)
def xn_FI (own : String) (index : Nat) (y : MethodName) (bytes : ByteArray) (maxL : Nat) : Prop := Cond.code y bytes maxL none ∈ xm_tb ∧ Cond.methodLink own index y ∈ xm_tb ∧ Cond.instanceMethod y ∈ xm_tb ∧ Cond.initialized y.cls ∈ xm_tb ∧ y.name = "<init>" ∧ (y.cls ≠ "java/lang/invoke/MethodHandle" ∧ y.cls ≠ "java/lang/invoke/VarHandle" ∧ (parseMethodDescriptor y.desc).map (fun d => d.parameters.length) = some 0)
def xn_FIN (own : String) (index : Nat) (y : MethodName) (host : String) (bytes : ByteArray) (maxL : Nat) : Prop := Cond.code y bytes maxL none ∈ xm_tb ∧ Cond.methodLinkNest own index y host ∈ xm_nest ∧ Cond.instanceMethod y ∈ xm_tb ∧ Cond.initialized y.cls ∈ xm_tb ∧ y.name = "<init>" ∧ (y.cls ≠ "java/lang/invoke/MethodHandle" ∧ y.cls ≠ "java/lang/invoke/VarHandle" ∧ (parseMethodDescriptor y.desc).map (fun d => d.parameters.length) = some 0)
variable {y : MethodName} {bytes : ByteArray} {maxL index fr mc ms lo q : Nat} {c0 : va_E} {S : Nat → va_W → Prop} {st0 : List Value}
theorem xn_callI (hx : p.tables.exec = Jvm.exec) (hb : c.code = cc) (hml : c.maxLocals = nL) (hown : s.vm.findClass own = some m.cls) (hts : ∀ w ∈ xm_tb, w.before args s = true) (hK : xm_K E s) (hP : va_P E.1 vwCl (ws ++ [(q, c0)]) H) (hD : va_D A (ws ++ [(q, c0)])) (hS : va_S A H0 H locs) (hA : ∀ q, H0.size ≤ q → A q) (hM : xn_Met l E y bytes maxL fr mc ms lo c0 S) (F : xn_FI own index y bytes maxL) (hst : st0 = .ref q :: rest) (hR : fr + 1 ≤ R.frames ∧ 8 + (maxL + 11) + lo ≤ R.locals) (hsz : ls.size = nL) (hW : (rest.map fun v => v.category).sum ≤ 8) (hcs : cells + mc ≤ R.cells ∧ slots + ms ≤ R.slots) (hdg : decode cc pc = .ok (.invokespecial index, 3))
    (kk : ∀ (w1 : va_W) (H1 : Heap) (locs1 : List Loc), S q w1 → va_P E.1 vwCl (ws ++ w1) H1 → va_D A (ws ++ w1) → va_S A H0 H1 locs1 → W p l e R s m args below meth c H1 locs1 (cells + mc) (slots + ms) Q (F0 m (pc + 3) ls rest)) : W p l e R s m args below meth c H locs cells slots Q (F0 m pc ls st0) := by
  obtain ⟨f1, f2, f3, f5, f7, f6⟩ := F
  exact xn_back (va_runI (Ts := xm_tb) (As := []) (rest := rest) (b := q) ⟨hx, hb, hml, hown, hts⟩ (hM q H.size) ⟨callB_of 0 hts (xm_good f1 fun _ h => h) rfl rfl rfl (hts _ f5) (hts _ f2) f6 hR, f7, hts _ f3⟩ ⟨xn_blind, xn_pre hK hP⟩ rfl rfl hsz hst (lv_room hW) hdg hcs) hP hD hS hA kk
theorem xn_callIN {host : String} (hx : p.tables.exec = Jvm.exec) (hb : c.code = cc) (hml : c.maxLocals = nL) (hown : s.vm.findClass own = some m.cls) (hts : ∀ w ∈ xm_tb, w.before args s = true) (hK : xm_K E s) (hP : va_P E.1 vwCl (ws ++ [(q, c0)]) H) (hD : va_D A (ws ++ [(q, c0)])) (hS : va_S A H0 H locs) (hA : ∀ q, H0.size ≤ q → A q) (hM : xn_Met l E y bytes maxL fr mc ms lo c0 S) (F : xn_FIN own index y host bytes maxL) (hst : st0 = .ref q :: rest) (hR : fr + 1 ≤ R.frames ∧ 8 + (maxL + 11) + lo ≤ R.locals) (hsz : ls.size = nL) (hW : (rest.map fun v => v.category).sum ≤ 8) (hcs : cells + mc ≤ R.cells ∧ slots + ms ≤ R.slots) (hdg : decode cc pc = .ok (.invokespecial index, 3))
    (kk : ∀ (w1 : va_W) (H1 : Heap) (locs1 : List Loc), S q w1 → va_P E.1 vwCl (ws ++ w1) H1 → va_D A (ws ++ w1) → va_S A H0 H1 locs1 → W p l e R s m args below meth c H1 locs1 (cells + mc) (slots + ms) Q (F0 m (pc + 3) ls rest)) : W p l e R s m args below meth c H locs cells slots Q (F0 m pc ls st0) := by
  obtain ⟨f1, f2, f3, f5, f7, f6⟩ := F
  exact xn_back (va_runIN (Ts := xm_tb) (As := []) (rest := rest) (b := q) ⟨hx, hb, hml, hown, hts⟩ (hM q H.size) ⟨va_cnB 0 hts (xm_good f1 fun _ h => h) rfl rfl rfl (hK.2.1 _ f2) (hts _ f5) f6 hR, f7, hts _ f3⟩ ⟨xn_blind, xn_pre hK hP⟩ rfl rfl hsz hst (lv_room hW) hdg hcs) hP hD hS hA kk
/-- newarray: the array's class is the one that is known -/
theorem xn_newa (hx : p.tables.exec = Jvm.exec) (hb : c.code = cc) (hts : ∀ w ∈ xm_tb, w.before args s = true) (hK : xm_K E s) {atype : ArrayType} {ty : FieldType} (harr : Cond.arrayClass ty ∈ xm_tb) (hty : newarray.typeOf atype = ty) (t : Nat) (ht : (xm_ty E)[t]? = some (E.2.1 t, ty)) (hro : ∀ cA : ClassId, va_RA s cA ty → va_RA s (E.2.1 t) ty → cA = E.2.1 t) (hP : va_P E.1 vwCl ws H) (hD : va_D A ws) (hS : va_S A H0 H locs) (hA : ∀ q, H0.size ≤ q → A q) {n : Int32} {N' : Nat} {a0 : vp_A} (ha : ∀ cA : ClassId, vp_cell cA a0 = arrV cA N' (fun _ => defaultValue ty)) (hn : ¬ n < 0) (hN : n.toNatClampNeg = N') (hbytes : N' * componentBytes ty ≤ 536870912) (hcells : cells + 1 ≤ R.cells) (hslots : slots + N' ≤ R.slots) (hdg : decode cc pc = .ok (.newarray atype, 2))
    (kk : ∀ (q : Nat) (H1 : Heap), va_P E.1 vwCl (ws ++ [(q, .inl (E.2.1 t, a0))]) H1 → va_D A (ws ++ [(q, .inl (E.2.1 t, a0))]) → va_S A H0 H1 locs → W p l e R s m args below meth c H1 locs (cells + 1) (slots + N') Q (F0 m (pc + 2) ls (.ref q :: rest))) : W p l e R s m args below meth c H locs cells slots Q (F0 m pc ls (.int n :: rest)) := by
  refine va_newa hx hb (by rw [hty]; exact hts _ harr) hty hK.1 hP hD hS hA ha hn hN hbytes hcells hslots hdg (fun q cA H1 hK1 hP1 hD1 hS1 => ?_)
  have h1 := (hK1.2 (xm_ty E).length (cA, ty) (by simp)).2
  have h2 := (hK.1.2 t _ ht).2
  have h3 := hro cA h1 h2
  subst h3
  exact kk q H1 hP1 hD1 hS1
theorem xn_ra {U : State} {c1 c2 : ClassId} {ty : FieldType} (hty : ∀ C, ty ≠ .object C) (h1 : va_RA U c1 ty) (h2 : va_RA U c2 ty) : c1 = c2 := by
  cases ty with
  | object C => exact absurd rfl (hty C)
  | _ => exact Option.some.inj (Eq.trans (Eq.symm h1) h2)
theorem xn_rao {U : State} {c1 c2 : ClassId} {C : String} (h1 : va_RA U c1 (.object C)) (h2 : va_RA U c2 (.object C)) : c1 = c2 := by
  obtain ⟨_, _, _, _, _, h1⟩ := h1
  obtain ⟨_, _, _, _, _, h2⟩ := h2
  exact Option.some.inj (h1.symm.trans h2)
theorem xn_newq (hx : p.tables.exec = Jvm.exec) (hb : c.code = cc) (hown : s.vm.findClass own = some m.cls) (hts : ∀ w ∈ xm_tb, w.before args s = true) (hK : xm_K E s) {C : String} (hclink : Cond.classLink own index C ∈ xm_tb) (hover : va_AO C s) (t : Nat) (ht : (xm_ty E)[t]? = some (E.2.1 t, .object C)) (hP : va_P E.1 vwCl ws H) (hD : va_D A ws) (hS : va_S A H0 H locs) (hA : ∀ q, H0.size ≤ q → A q) {n : Int32} {N' : Nat} (hn : ¬ n < 0) (hN : n.toNatClampNeg = N') (hbytes : N' * 4 ≤ 536870912) (hcells : cells + 1 ≤ R.cells) (hslots : slots + N' ≤ R.slots) (hdg : decode cc pc = .ok (.anewarray index, 3))
    (kk : ∀ (q : Nat) (H1 : Heap), va_P E.1 vwCl (ws ++ [(q, .inl (E.2.1 t, N', .inr (.inr (.inr (.inr (fun _ => none))))))]) H1 → va_D A (ws ++ [(q, .inl (E.2.1 t, N', .inr (.inr (.inr (.inr (fun _ => none))))))]) → va_S A H0 H1 locs → W p l e R s m args below meth c H1 locs (cells + 1) (slots + N') Q (F0 m (pc + 3) ls (.ref q :: rest))) : W p l e R s m args below meth c H locs cells slots Q (F0 m pc ls (.int n :: rest)) := by
  refine va_newq hx hb hown (hts _ hclink) hover hK.1 hP hD hS hA hn hN hbytes hcells hslots hdg (fun q cA H1 hK1 hP1 hD1 hS1 => ?_)
  have h1 := (hK1.2 (xm_ty E).length (cA, .object C) (by simp)).2
  have h2 := (hK.1.2 t _ ht).2
  have h3 := xn_rao h1 h2
  subst h3
  exact kk q H1 hP1 hD1 hS1
end XNEW
/-! the memory of a new object of either side -/
def xm_0 : xm_M := fun k j => if k < 18 then (if k = 1 ∧ j = 0 then 1 else if k = 8 ∧ j = 3 then (-1) else if k = 8 ∧ j = 5 then (-5) else 0) else if (k - 18) % 17 = 0 then (if j = 5 then 20 else 0) else if 5 ≤ (k - 18) % 17 ∧ ((k - 18) % 17 - 5) % 3 = 0 ∧ j = 0 then 1 else 0
/-- an array of references is known up to what lies behind its end -/
theorem xn_eqv {D : va_G} {cl : List vw_C} {ws : va_W} {H : Heap} (h : va_P D cl ws H) {k a n : Nat} {cA : ClassId} {f : Nat → Option Nat} (g : Nat → Option Nat) (hk : ws[k]? = some (a, .inl (cA, n, .inr (.inr (.inr (.inr f)))))) (hfg : ∀ j, j < n → f j = g j) : va_P D cl (ws.set k (a, .inl (cA, n, .inr (.inr (.inr (.inr g)))))) H := by
  have hl := (List.getElem?_eq_some_iff.mp hk).1
  intro j q hq
  by_cases hj : j = k
  · subst hj
    rw [List.getElem?_set_self hl] at hq
    cases hq
    have h1 := h j _ hk
    show H[a]? = some (vp_cell cA (n, .inr (.inr (.inr (.inr g)))))
    have h2 : H[a]? = some (vp_cell cA (n, .inr (.inr (.inr (.inr f))))) := h1
    rw [h2]
    congr 1
    rw [vp_cell_q, vp_cell_q]
    simp only [arrV]
    congr 1
    apply Array.ext
    · simp
    · intro i h1 h2
      simp only [Array.getElem_ofFn]
      have : i < n := by simpa using h1
      rw [hfg i this]
  · rw [List.getElem?_set_ne (Ne.symm hj)] at hq
    exact h j q hq
theorem xn_j4 {f g : Nat → Option Nat} (h0 : f 0 = g 0) (h1 : f 1 = g 1) (h2 : f 2 = g 2) (h3 : f 3 = g 3) : ∀ j, j < 4 → f j = g j := by
  intro j hj
  rcases (show j = 0 ∨ j = 1 ∨ j = 2 ∨ j = 3 by omega) with rfl | rfl | rfl | rfl
  · exact h0
  · exact h1
  · exact h2
  · exact h3
def xn_SP (E : xm_E) : Nat → va_W → Prop := fun h0 w => ∃ b : Nat → Nat, b 0 = h0 ∧ w = xm_w (b, xc_P E b 0, 3) (fun o => xm_0 (1 + o))
def xn_SS (E : xm_E) : Nat → va_W → Prop := fun h0 w => ∃ b : Nat → Nat, b 0 = h0 ∧ w = xm_w (b, xc_S E b 0, 17) (fun o => xm_0 (18 + o))
def xn_hs (E : xm_E) (b : Nat → Nat) (k : Nat) (f : Nat → Int32) : va_E := match k with
  | 0 => .inr (0, [.ref (b 1), .int (f 1), .int (f 2)])
  | 1 => .inl (E.2.1 3, 4, .inr (.inr (.inr (.inr (fun j => [some (b 2), some (b 19), some (b 36), some (b 53)].getD j none)))))
  | k + 2 => xc_S E b (2 + 17 * (k / 17)) (k % 17) f
def xn_SH (E : xm_E) : Nat → va_W → Prop := fun h0 w => ∃ b : Nat → Nat, b 0 = h0 ∧ w = xm_w (b, xn_hs E b, 70) (fun o => if o < 2 then xm_0 (4 + o) else xm_0 (50 + o))
def xn_ws (E : xm_E) (b : Nat → Nat) (k : Nat) (f : Nat → Int32) : va_E := match k with
  | 0 => .inr (5, [.ref (b 1), .int (f 1), .int (f 2)])
  | _ => .inl (E.2.1 1, 80, .inl f)
def xn_SW (E : xm_E) : Nat → va_W → Prop := fun h0 w => ∃ b : Nat → Nat, b 0 = h0 ∧ w = xm_w (b, xn_ws E b, 2) (fun o => xm_0 (6 + o))
def xn_ls (E : xm_E) (b : Nat → Nat) (k : Nat) (f : Nat → Int32) : va_E := match k with
  | 0 => .inr (1, [.int (f 0), .ref (b 1), .ref (b 2), .ref (b 3), .ref (b 4)])
  | 1 => .inl (E.2.1 0, 25, .inl f)
  | 2 => .inl (E.2.1 1, 25, .inl f)
  | 3 => .inl (E.2.1 0, 25, .inl f)
  | _ => .inl (E.2.1 0, 25, .inl f)
def xn_SL (E : xm_E) : Nat → va_W → Prop := fun h0 w => ∃ b : Nat → Nat, b 0 = h0 ∧ w = xm_w (b, xn_ls E b, 5) (fun o => xm_0 (13 + o))
def xn_es (E : xm_E) (b : Nat → Nat) (k : Nat) (f : Nat → Int32) : va_E := match k with
  | 0 => .inr (3, [.ref (b 5), .int (f 1), .int (f 2), .int (f 3), .int (f 4), .int (f 5), .int (f 6), .int (f 7), .int (f 8), .ref (b 1), .ref (b 2), .ref (b 3), .int (f 12), .int (f 13), .int (f 14), .ref (b 4)])
  | 1 => .inl (E.2.1 1, 4, .inl f)
  | 2 => .inl (E.2.1 1, 4, .inl f)
  | 3 => .inl (E.2.1 0, 4, .inl f)
  | 4 => .inl (E.2.1 0, 25, .inl f)
  | 5 => .inr (1, [.int (f 0), .ref (b 6), .ref (b 7), .ref (b 8), .ref (b 9)])
  | 6 => .inl (E.2.1 0, 25, .inl f)
  | 7 => .inl (E.2.1 1, 25, .inl f)
  | 8 => .inl (E.2.1 0, 25, .inl f)
  | _ => .inl (E.2.1 0, 25, .inl f)
def xn_SE (E : xm_E) : Nat → va_W → Prop := fun h0 w => ∃ b : Nat → Nat, b 0 = h0 ∧ w = xm_w (b, xn_es E b, 10) (fun o => xm_0 (8 + o))
def xn_SX (E : xm_E) : Nat → va_W → Prop := fun h0 w => ∃ b : Nat → Nat, b 0 = h0 ∧ w = xm_w (xv E b) xm_0
end
section
theorem ob_X2_3 : Cond.methodLink RX2 3 objectInit ∈ xm_tb ∧ Cond.instanceMethod objectInit ∈ xm_tb ∧ Cond.code objectInit ⟨#[0xb1]⟩ 1 none ∈ xm_tb := ⟨xm_tb_of (List.mem_of_getElem? (i := 33) (by decide +kernel)) rfl, xm_tb_of (List.mem_of_getElem? (i := 19) (by decide +kernel)) rfl, xm_tb_of (List.mem_of_getElem? (i := 20) (by decide +kernel)) rfl⟩
theorem ac_char : Cond.arrayClass .char ∈ xm_tb := xm_tb_of (List.mem_of_getElem? (i := 68) (by decide +kernel)) rfl
theorem ac_boolean : Cond.arrayClass .boolean ∈ xm_tb := xm_tb_of (List.mem_of_getElem? (i := 70) (by decide +kernel)) rfl
theorem ob_X4_3 : Cond.methodLink RX4 3 objectInit ∈ xm_tb ∧ Cond.instanceMethod objectInit ∈ xm_tb ∧ Cond.code objectInit ⟨#[0xb1]⟩ 1 none ∈ xm_tb := ⟨xm_tb_of (List.mem_of_getElem? (i := 26) (by decide +kernel)) rfl, xm_tb_of (List.mem_of_getElem? (i := 19) (by decide +kernel)) rfl, xm_tb_of (List.mem_of_getElem? (i := 20) (by decide +kernel)) rfl⟩
theorem ac_int : Cond.arrayClass .int ∈ xm_tb := xm_tb_of (List.mem_of_getElem? (i := 69) (by decide +kernel)) rfl
theorem cl_X4_35 : Cond.classLink RX4 35 RX2 ∈ xm_tb := xm_tb_of (List.mem_of_getElem? (i := 27) (by decide +kernel)) rfl
theorem ib_X2 : Cond.instantiable RX2 6 ∈ xm_tb ∧ Cond.initialized RX2 ∈ xm_tb := ⟨xm_tb_of (List.mem_of_getElem? (i := 29) (by decide +kernel)) rfl, xm_tb_of (List.mem_of_getElem? (i := 3) (by decide +kernel)) rfl⟩
theorem ki_X4_41 : xn_FIN RX4 41 yX2_init "WindowMatches" cX2_init 1 := ⟨xm_tb_of (List.mem_of_getElem? (i := 32) (by decide +kernel)) rfl, xm_nest_of (List.mem_of_getElem? (i := 30) (by decide +kernel)) rfl, xm_tb_of (List.mem_of_getElem? (i := 31) (by decide +kernel)) rfl, xm_tb_of (List.mem_of_getElem? (i := 3) (by decide +kernel)) rfl, rfl, ⟨by decide +kernel, by decide +kernel, by decide +kernel⟩⟩
theorem ob_X0_3 : Cond.methodLink RX0 3 objectInit ∈ xm_tb ∧ Cond.instanceMethod objectInit ∈ xm_tb ∧ Cond.code objectInit ⟨#[0xb1]⟩ 1 none ∈ xm_tb := ⟨xm_tb_of (List.mem_of_getElem? (i := 116) (by decide +kernel)) rfl, xm_tb_of (List.mem_of_getElem? (i := 19) (by decide +kernel)) rfl, xm_tb_of (List.mem_of_getElem? (i := 20) (by decide +kernel)) rfl⟩
theorem cl_X0_9 : Cond.classLink RX0 9 RX4 ∈ xm_tb := xm_tb_of (List.mem_of_getElem? (i := 117) (by decide +kernel)) rfl
theorem ib_X4 : Cond.instantiable RX4 8 ∈ xm_tb ∧ Cond.initialized RX4 ∈ xm_tb := ⟨xm_tb_of (List.mem_of_getElem? (i := 22) (by decide +kernel)) rfl, xm_tb_of (List.mem_of_getElem? (i := 2) (by decide +kernel)) rfl⟩
theorem ki_X0_24 : xn_FIN RX0 24 yX4_init "WindowMatches" cX4_init 2 := ⟨xm_tb_of (List.mem_of_getElem? (i := 25) (by decide +kernel)) rfl, xm_nest_of (List.mem_of_getElem? (i := 119) (by decide +kernel)) rfl, xm_tb_of (List.mem_of_getElem? (i := 24) (by decide +kernel)) rfl, xm_tb_of (List.mem_of_getElem? (i := 2) (by decide +kernel)) rfl, rfl, ⟨by decide +kernel, by decide +kernel, by decide +kernel⟩⟩
theorem ob_X5_3 : Cond.methodLink RX5 3 objectInit ∈ xm_tb ∧ Cond.instanceMethod objectInit ∈ xm_tb ∧ Cond.code objectInit ⟨#[0xb1]⟩ 1 none ∈ xm_tb := ⟨xm_tb_of (List.mem_of_getElem? (i := 136) (by decide +kernel)) rfl, xm_tb_of (List.mem_of_getElem? (i := 19) (by decide +kernel)) rfl, xm_tb_of (List.mem_of_getElem? (i := 20) (by decide +kernel)) rfl⟩
theorem ob_X1_3 : Cond.methodLink RX1 3 objectInit ∈ xm_tb ∧ Cond.instanceMethod objectInit ∈ xm_tb ∧ Cond.code objectInit ⟨#[0xb1]⟩ 1 none ∈ xm_tb := ⟨xm_tb_of (List.mem_of_getElem? (i := 161) (by decide +kernel)) rfl, xm_tb_of (List.mem_of_getElem? (i := 19) (by decide +kernel)) rfl, xm_tb_of (List.mem_of_getElem? (i := 20) (by decide +kernel)) rfl⟩
theorem ob_X3_3 : Cond.methodLink RX3 3 objectInit ∈ xm_tb ∧ Cond.instanceMethod objectInit ∈ xm_tb ∧ Cond.code objectInit ⟨#[0xb1]⟩ 1 none ∈ xm_tb := ⟨xm_tb_of (List.mem_of_getElem? (i := 155) (by decide +kernel)) rfl, xm_tb_of (List.mem_of_getElem? (i := 19) (by decide +kernel)) rfl, xm_tb_of (List.mem_of_getElem? (i := 20) (by decide +kernel)) rfl⟩
theorem cl_X3_9 : Cond.classLink RX3 9 RX1 ∈ xm_tb := xm_tb_of (List.mem_of_getElem? (i := 156) (by decide +kernel)) rfl
theorem ib_X1 : Cond.instantiable RX1 5 ∈ xm_tb ∧ Cond.initialized RX1 ∈ xm_tb := ⟨xm_tb_of (List.mem_of_getElem? (i := 157) (by decide +kernel)) rfl, xm_tb_of (List.mem_of_getElem? (i := 7) (by decide +kernel)) rfl⟩
theorem ki_X3_11 : xn_FIN RX3 11 yX1_init "WindowMatches" cX1_init 1 := ⟨xm_tb_of (List.mem_of_getElem? (i := 160) (by decide +kernel)) rfl, xm_nest_of (List.mem_of_getElem? (i := 158) (by decide +kernel)) rfl, xm_tb_of (List.mem_of_getElem? (i := 159) (by decide +kernel)) rfl, xm_tb_of (List.mem_of_getElem? (i := 7) (by decide +kernel)) rfl, rfl, ⟨by decide +kernel, by decide +kernel, by decide +kernel⟩⟩
theorem ob_X6_1 : Cond.methodLink RX6 1 objectInit ∈ xm_tb ∧ Cond.instanceMethod objectInit ∈ xm_tb ∧ Cond.code objectInit ⟨#[0xb1]⟩ 1 none ∈ xm_tb := ⟨xm_tb_of (List.mem_of_getElem? (i := 18) (by decide +kernel)) rfl, xm_tb_of (List.mem_of_getElem? (i := 19) (by decide +kernel)) rfl, xm_tb_of (List.mem_of_getElem? (i := 20) (by decide +kernel)) rfl⟩
theorem cl_X6_7 : Cond.classLink RX6 7 RX4 ∈ xm_tb := xm_tb_of (List.mem_of_getElem? (i := 21) (by decide +kernel)) rfl
theorem ki_X6_9 : xn_FIN RX6 9 yX4_init "WindowMatches" cX4_init 2 := ⟨xm_tb_of (List.mem_of_getElem? (i := 25) (by decide +kernel)) rfl, xm_nest_of (List.mem_of_getElem? (i := 23) (by decide +kernel)) rfl, xm_tb_of (List.mem_of_getElem? (i := 24) (by decide +kernel)) rfl, xm_tb_of (List.mem_of_getElem? (i := 2) (by decide +kernel)) rfl, rfl, ⟨by decide +kernel, by decide +kernel, by decide +kernel⟩⟩
theorem l_X6_16 : Cond.fieldLink RX6 16 "WindowMatches" "snapshot" "LWindowMatches$State;" ∈ xm_tb := xm_tb_of (List.mem_of_getElem? (i := 238) (by decide +kernel)) rfl
theorem l_X6_19 : Cond.fieldLink RX6 19 "WindowMatches" "hasSnapshot" "Z" ∈ xm_tb := xm_tb_of (List.mem_of_getElem? (i := 239) (by decide +kernel)) rfl
theorem cl_X6_23 : Cond.classLink RX6 23 RX0 ∈ xm_tb := xm_tb_of (List.mem_of_getElem? (i := 111) (by decide +kernel)) rfl
theorem ib_X0 : Cond.instantiable RX0 3 ∈ xm_tb ∧ Cond.initialized RX0 ∈ xm_tb := ⟨xm_tb_of (List.mem_of_getElem? (i := 112) (by decide +kernel)) rfl, xm_tb_of (List.mem_of_getElem? (i := 4) (by decide +kernel)) rfl⟩
theorem ki_X6_25 : xn_FIN RX6 25 yX0_init "WindowMatches" cX0_init 2 := ⟨xm_tb_of (List.mem_of_getElem? (i := 115) (by decide +kernel)) rfl, xm_nest_of (List.mem_of_getElem? (i := 113) (by decide +kernel)) rfl, xm_tb_of (List.mem_of_getElem? (i := 114) (by decide +kernel)) rfl, xm_tb_of (List.mem_of_getElem? (i := 4) (by decide +kernel)) rfl, rfl, ⟨by decide +kernel, by decide +kernel, by decide +kernel⟩⟩
theorem cl_X6_30 : Cond.classLink RX6 30 RX5 ∈ xm_tb := xm_tb_of (List.mem_of_getElem? (i := 131) (by decide +kernel)) rfl
theorem ib_X5 : Cond.instantiable RX5 3 ∈ xm_tb ∧ Cond.initialized RX5 ∈ xm_tb := ⟨xm_tb_of (List.mem_of_getElem? (i := 132) (by decide +kernel)) rfl, xm_tb_of (List.mem_of_getElem? (i := 5) (by decide +kernel)) rfl⟩
theorem ki_X6_32 : xn_FIN RX6 32 yX5_init "WindowMatches" cX5_init 1 := ⟨xm_tb_of (List.mem_of_getElem? (i := 135) (by decide +kernel)) rfl, xm_nest_of (List.mem_of_getElem? (i := 133) (by decide +kernel)) rfl, xm_tb_of (List.mem_of_getElem? (i := 134) (by decide +kernel)) rfl, xm_tb_of (List.mem_of_getElem? (i := 5) (by decide +kernel)) rfl, rfl, ⟨by decide +kernel, by decide +kernel, by decide +kernel⟩⟩
theorem cl_X6_37 : Cond.classLink RX6 37 RX2 ∈ xm_tb := xm_tb_of (List.mem_of_getElem? (i := 148) (by decide +kernel)) rfl
theorem ki_X6_39 : xn_FIN RX6 39 yX2_init "WindowMatches" cX2_init 1 := ⟨xm_tb_of (List.mem_of_getElem? (i := 32) (by decide +kernel)) rfl, xm_nest_of (List.mem_of_getElem? (i := 149) (by decide +kernel)) rfl, xm_tb_of (List.mem_of_getElem? (i := 31) (by decide +kernel)) rfl, xm_tb_of (List.mem_of_getElem? (i := 3) (by decide +kernel)) rfl, rfl, ⟨by decide +kernel, by decide +kernel, by decide +kernel⟩⟩
theorem cl_X6_44 : Cond.classLink RX6 44 RX3 ∈ xm_tb := xm_tb_of (List.mem_of_getElem? (i := 150) (by decide +kernel)) rfl
theorem ib_X3 : Cond.instantiable RX3 16 ∈ xm_tb ∧ Cond.initialized RX3 ∈ xm_tb := ⟨xm_tb_of (List.mem_of_getElem? (i := 151) (by decide +kernel)) rfl, xm_tb_of (List.mem_of_getElem? (i := 6) (by decide +kernel)) rfl⟩
theorem ki_X6_46 : xn_FIN RX6 46 yX3_init "WindowMatches" cX3_init 1 := ⟨xm_tb_of (List.mem_of_getElem? (i := 154) (by decide +kernel)) rfl, xm_nest_of (List.mem_of_getElem? (i := 152) (by decide +kernel)) rfl, xm_tb_of (List.mem_of_getElem? (i := 153) (by decide +kernel)) rfl, xm_tb_of (List.mem_of_getElem? (i := 6) (by decide +kernel)) rfl, rfl, ⟨by decide +kernel, by decide +kernel, by decide +kernel⟩⟩
set_option maxHeartbeats 8000000 in
set_option maxRecDepth 100000 in
theorem c_X2_init (l : Launch) (E : xm_E) : xn_Met l E yX2_init cX2_init 1 1 2 16 12 (.inr (2, [.int 0, .int 0, .int 0, .int 0, .null, .null])) (xn_SP E) := by
  refine xn_met (by decide +kernel) rfl rfl (Nat.le_of_ble_eq_true rfl) (fun h0 p e s m below meth c C hP ls hl => ?_)
  have C9 := C
  obtain ⟨hx, hb, hml, hown, hts, hr, hlk, hK, hin⟩ := C9
  obtain ⟨A, A9⟩ : ∃ A : Nat → Prop, va_A [(h0, .inr (2, [.int 0, .int 0, .int 0, .int 0, .null, .null]))] s.heap.size = A := ⟨_, rfl⟩
  have hD : va_D A [(h0, .inr (2, [.int 0, .int 0, .int 0, .int 0, .null, .null]))] := by
    rw [← A9]
    exact ⟨fun i j p q hi hj _ => by have h1 := (List.getElem?_eq_some_iff.mp hi).1; have h2 := (List.getElem?_eq_some_iff.mp hj).1; simp at h1 h2; omega, fun k q hk => va_A.in hk⟩
  have hA : ∀ q : Nat, s.heap.size ≤ q → A q := fun q h => by rw [← A9]; exact Or.inr h
  have hS : va_S A s.heap s.heap [] := va_S.rf
  refine lv_aload_n hx hb dX2_init_0 rfl (lv_at hl 0 rfl) ?_
  refine W.objInit hx hb hown (hts _ ob_X2_3.1) (hts _ ob_X2_3.2.1) (hts _ ob_X2_3.2.2) rfl (by rw [hml]; exact hl.1) rfl dX2_init_1 (Nat.le_of_ble_eq_true rfl) (Nat.le_of_ble_eq_true rfl) ?_
  refine W.eq (g2 := F0 m 4 ls []) rfl ?_
  refine lv_aload_n hx hb dX2_init_4 rfl (lv_at hl 0 rfl) ?_
  refine lv_iconst (v := 1) hx hb dX2_init_5 (by decide) ?_
  refine va_put (D := E.1) (ci := 2) (v := .int 1) (ty := (tyX2 0)) (C := RX2) (T := TX2) (N := 6) hx hb hts xi_2 tyX2 tyX2_ok nmX2 hown hK.1 hP hD hS 0 rfl rfl 0 (by decide) (hts _ l_X2_9) (fun _ h9 => h9) rfl (by decide +kernel) rfl rfl (Nat.le_of_ble_eq_true rfl) dX2_init_6 (fun H locs hP hD hS => ?_)
  have hP : va_P E.1 vwCl ([(h0, .inr (2, [.int 1, .int 0, .int 0, .int 0, .null, .null]))]) H := hP
  have hD : va_D A ([(h0, .inr (2, [.int 1, .int 0, .int 0, .int 0, .null, .null]))]) := hD
  refine lv_aload_n hx hb dX2_init_9 rfl (lv_at hl 0 rfl) ?_
  refine lv_iconst (v := 0) hx hb dX2_init_10 (by decide) ?_
  refine va_put (D := E.1) (ci := 2) (v := .int 0) (ty := (tyX2 1)) (C := RX2) (T := TX2) (N := 6) hx hb hts xi_2 tyX2 tyX2_ok nmX2 hown hK.1 hP hD hS 0 rfl rfl 1 (by decide) (hts _ l_X2_15) (fun _ h9 => h9) rfl (by decide +kernel) rfl rfl (Nat.le_of_ble_eq_true rfl) dX2_init_11 (fun H locs hP hD hS => ?_)
  have hP : va_P E.1 vwCl ([(h0, .inr (2, [.int 1, .int 0, .int 0, .int 0, .null, .null]))]) H := hP
  have hD : va_D A ([(h0, .inr (2, [.int 1, .int 0, .int 0, .int 0, .null, .null]))]) := hD
  refine lv_aload_n hx hb dX2_init_14 rfl (lv_at hl 0 rfl) ?_
  refine lv_iconst (v := 0) hx hb dX2_init_15 (by decide) ?_
  refine va_put (D := E.1) (ci := 2) (v := .int 0) (ty := (tyX2 2)) (C := RX2) (T := TX2) (N := 6) hx hb hts xi_2 tyX2 tyX2_ok nmX2 hown hK.1 hP hD hS 0 rfl rfl 2 (by decide) (hts _ l_X2_18) (fun _ h9 => h9) rfl (by decide +kernel) rfl rfl (Nat.le_of_ble_eq_true rfl) dX2_init_16 (fun H locs hP hD hS => ?_)
  have hP : va_P E.1 vwCl ([(h0, .inr (2, [.int 1, .int 0, .int 0, .int 0, .null, .null]))]) H := hP
  have hD : va_D A ([(h0, .inr (2, [.int 1, .int 0, .int 0, .int 0, .null, .null]))]) := hD
  refine lv_aload_n hx hb dX2_init_19 rfl (lv_at hl 0 rfl) ?_
  refine lv_iconst (v := 0) hx hb dX2_init_20 (by decide) ?_
  refine va_put (D := E.1) (ci := 2) (v := .int 0) (ty := (tyX2 3)) (C := RX2) (T := TX2) (N := 6) hx hb hts xi_2 tyX2 tyX2_ok nmX2 hown hK.1 hP hD hS 0 rfl rfl 3 (by decide) (hts _ l_X2_21) (fun _ h9 => h9) rfl (by decide +kernel) rfl rfl (Nat.le_of_ble_eq_true rfl) dX2_init_21 (fun H locs hP hD hS => ?_)
  have hP : va_P E.1 vwCl ([(h0, .inr (2, [.int 1, .int 0, .int 0, .int 0, .null, .null]))]) H := hP
  have hD : va_D A ([(h0, .inr (2, [.int 1, .int 0, .int 0, .int 0, .null, .null]))]) := hD
  refine lv_aload_n hx hb dX2_init_24 rfl (lv_at hl 0 rfl) ?_
  refine lv_bipush (v := 8) hx hb dX2_init_25 (by decide) ?_
  refine xn_newa hx hb hts hK (atype := .char) (ty := .char) ac_char rfl 1 rfl (fun cA h1 h2 => xn_ra (fun _ h => by cases h) h1 h2) hP hD hS hA (N' := 8) (a0 := (8, .inl (fun _ => 0))) (fun _ => rfl) (by decide) (by decide) (Nat.le_of_ble_eq_true rfl) (Nat.le_of_ble_eq_true rfl) (Nat.le_of_ble_eq_true rfl) dX2_init_27 (fun q27_1 H hP hD hS => ?_)
  have hP : va_P E.1 vwCl ([(h0, .inr (2, [.int 1, .int 0, .int 0, .int 0, .null, .null])), (q27_1, .inl (E.2.1 1, 8, .inl (fun _ => 0)))]) H := hP
  have hD : va_D A ([(h0, .inr (2, [.int 1, .int 0, .int 0, .int 0, .null, .null])), (q27_1, .inl (E.2.1 1, 8, .inl (fun _ => 0)))]) := hD
  refine va_putF (D := E.1) (ci := 2) (v := .ref q27_1) (ty := (tyX2 4)) (C := RX2) (T := TX2) (N := 6) hx hb hts xi_2 tyX2 tyX2_ok nmX2 hown hK.1 hP hD hS 0 rfl rfl 4 (by decide) (hts _ l_X2_24) (fun _ h9 => h9) rfl hin rfl (by decide +kernel) rfl rfl (Nat.le_of_ble_eq_true rfl) dX2_init_29 (fun H locs hP hD hS => ?_)
  have hP : va_P E.1 vwCl ([(h0, .inr (2, [.int 1, .int 0, .int 0, .int 0, .ref q27_1, .null])), (q27_1, .inl (E.2.1 1, 8, .inl (fun _ => 0)))]) H := hP
  have hD : va_D A ([(h0, .inr (2, [.int 1, .int 0, .int 0, .int 0, .ref q27_1, .null])), (q27_1, .inl (E.2.1 1, 8, .inl (fun _ => 0)))]) := hD
  refine lv_aload_n hx hb dX2_init_32 rfl (lv_at hl 0 rfl) ?_
  refine lv_bipush (v := 8) hx hb dX2_init_33 (by decide) ?_
  refine xn_newa hx hb hts hK (atype := .boolean) (ty := .boolean) ac_boolean rfl 2 rfl (fun cA h1 h2 => xn_ra (fun _ h => by cases h) h1 h2) hP hD hS hA (N' := 8) (a0 := (8, .inl (fun _ => 0))) (fun _ => rfl) (by decide) (by decide) (Nat.le_of_ble_eq_true rfl) (Nat.le_of_ble_eq_true rfl) (Nat.le_of_ble_eq_true rfl) dX2_init_35 (fun q35_2 H hP hD hS => ?_)
  have hP : va_P E.1 vwCl ([(h0, .inr (2, [.int 1, .int 0, .int 0, .int 0, .ref q27_1, .null])), (q27_1, .inl (E.2.1 1, 8, .inl (fun _ => 0))), (q35_2, .inl (E.2.1 2, 8, .inl (fun _ => 0)))]) H := hP
  have hD : va_D A ([(h0, .inr (2, [.int 1, .int 0, .int 0, .int 0, .ref q27_1, .null])), (q27_1, .inl (E.2.1 1, 8, .inl (fun _ => 0))), (q35_2, .inl (E.2.1 2, 8, .inl (fun _ => 0)))]) := hD
  refine va_putF (D := E.1) (ci := 2) (v := .ref q35_2) (ty := (tyX2 5)) (C := RX2) (T := TX2) (N := 6) hx hb hts xi_2 tyX2 tyX2_ok nmX2 hown hK.1 hP hD hS 0 rfl rfl 5 (by decide) (hts _ l_X2_28) (fun _ h9 => h9) rfl hin rfl (by decide +kernel) rfl rfl (Nat.le_of_ble_eq_true rfl) dX2_init_37 (fun H locs hP hD hS => ?_)
  have hP : va_P E.1 vwCl ([(h0, .inr (2, [.int 1, .int 0, .int 0, .int 0, .ref q27_1, .ref q35_2])), (q27_1, .inl (E.2.1 1, 8, .inl (fun _ => 0))), (q35_2, .inl (E.2.1 2, 8, .inl (fun _ => 0)))]) H := hP
  have hD : va_D A ([(h0, .inr (2, [.int 1, .int 0, .int 0, .int 0, .ref q27_1, .ref q35_2])), (q27_1, .inl (E.2.1 1, 8, .inl (fun _ => 0))), (q35_2, .inl (E.2.1 2, 8, .inl (fun _ => 0)))]) := hD
  obtain ⟨bb, hbb⟩ : ∃ bb : Nat → Nat, bb = fun k => if k < 1 then h0 else if k < 2 then q27_1 else q35_2 := ⟨_, rfl⟩
  subst A9
  exact xn_ret C hP hD hS (w := xm_w (bb, xc_P E bb 0, 3) (fun o => xm_0 (1 + o))) (by subst hbb; rfl) ⟨bb, by rw [hbb]; rfl, rfl⟩ dX2_init_40 rfl rfl
set_option maxHeartbeats 8000000 in
set_option maxRecDepth 100000 in
theorem c_X4_init (l : Launch) (E : xm_E) : xn_Met l E yX4_init cX4_init 2 2 16 164 32 (.inr (4, [.int 0, .null, .null, .null, .int 0, .int 0, .int 0, .null])) (xn_SS E) := by
  refine xn_met (by decide +kernel) rfl rfl (Nat.le_of_ble_eq_true rfl) (fun h0 p e s m below meth c C hP ls hl => ?_)
  have C9 := C
  obtain ⟨hx, hb, hml, hown, hts, hr, hlk, hK, hin⟩ := C9
  obtain ⟨A, A9⟩ : ∃ A : Nat → Prop, va_A [(h0, .inr (4, [.int 0, .null, .null, .null, .int 0, .int 0, .int 0, .null]))] s.heap.size = A := ⟨_, rfl⟩
  have hD : va_D A [(h0, .inr (4, [.int 0, .null, .null, .null, .int 0, .int 0, .int 0, .null]))] := by
    rw [← A9]
    exact ⟨fun i j p q hi hj _ => by have h1 := (List.getElem?_eq_some_iff.mp hi).1; have h2 := (List.getElem?_eq_some_iff.mp hj).1; simp at h1 h2; omega, fun k q hk => va_A.in hk⟩
  have hA : ∀ q : Nat, s.heap.size ≤ q → A q := fun q h => by rw [← A9]; exact Or.inr h
  have hS : va_S A s.heap s.heap [] := va_S.rf
  refine lv_aload_n hx hb dX4_init_0 rfl (lv_at hl 0 rfl) ?_
  refine W.objInit hx hb hown (hts _ ob_X4_3.1) (hts _ ob_X4_3.2.1) (hts _ ob_X4_3.2.2) rfl (by rw [hml]; exact hl.1) rfl dX4_init_1 (Nat.le_of_ble_eq_true rfl) (Nat.le_of_ble_eq_true rfl) ?_
  refine W.eq (g2 := F0 m 4 ls []) rfl ?_
  refine lv_aload_n hx hb dX4_init_4 rfl (lv_at hl 0 rfl) ?_
  refine lv_iconst (v := 0) hx hb dX4_init_5 (by decide) ?_
  refine va_put (D := E.1) (ci := 4) (v := .int 0) (ty := (tyX4 0)) (C := RX4) (T := TX4) (N := 8) hx hb hts xi_4 tyX4 tyX4_ok nmX4 hown hK.1 hP hD hS 0 rfl rfl 0 (by decide) (hts _ l_X4_9) (fun _ h9 => h9) rfl (by decide +kernel) rfl rfl (Nat.le_of_ble_eq_true rfl) dX4_init_6 (fun H locs hP hD hS => ?_)
  have hP : va_P E.1 vwCl ([(h0, .inr (4, [.int 0, .null, .null, .null, .int 0, .int 0, .int 0, .null]))]) H := hP
  have hD : va_D A ([(h0, .inr (4, [.int 0, .null, .null, .null, .int 0, .int 0, .int 0, .null]))]) := hD
  refine lv_aload_n hx hb dX4_init_9 rfl (lv_at hl 0 rfl) ?_
  refine lv_bipush (v := 24) hx hb dX4_init_10 (by decide) ?_
  refine xn_newa hx hb hts hK (atype := .char) (ty := .char) ac_char rfl 1 rfl (fun cA h1 h2 => xn_ra (fun _ h => by cases h) h1 h2) hP hD hS hA (N' := 24) (a0 := (24, .inl (fun _ => 0))) (fun _ => rfl) (by decide) (by decide) (Nat.le_of_ble_eq_true rfl) (Nat.le_of_ble_eq_true rfl) (Nat.le_of_ble_eq_true rfl) dX4_init_12 (fun q12_1 H hP hD hS => ?_)
  have hP : va_P E.1 vwCl ([(h0, .inr (4, [.int 0, .null, .null, .null, .int 0, .int 0, .int 0, .null])), (q12_1, .inl (E.2.1 1, 24, .inl (fun _ => 0)))]) H := hP
  have hD : va_D A ([(h0, .inr (4, [.int 0, .null, .null, .null, .int 0, .int 0, .int 0, .null])), (q12_1, .inl (E.2.1 1, 24, .inl (fun _ => 0)))]) := hD
  refine va_putF (D := E.1) (ci := 4) (v := .ref q12_1) (ty := (tyX4 1)) (C := RX4) (T := TX4) (N := 8) hx hb hts xi_4 tyX4 tyX4_ok nmX4 hown hK.1 hP hD hS 0 rfl rfl 1 (by decide) (hts _ l_X4_15) (fun _ h9 => h9) rfl hin rfl (by decide +kernel) rfl rfl (Nat.le_of_ble_eq_true rfl) dX4_init_14 (fun H locs hP hD hS => ?_)
  have hP : va_P E.1 vwCl ([(h0, .inr (4, [.int 0, .ref q12_1, .null, .null, .int 0, .int 0, .int 0, .null])), (q12_1, .inl (E.2.1 1, 24, .inl (fun _ => 0)))]) H := hP
  have hD : va_D A ([(h0, .inr (4, [.int 0, .ref q12_1, .null, .null, .int 0, .int 0, .int 0, .null])), (q12_1, .inl (E.2.1 1, 24, .inl (fun _ => 0)))]) := hD
  refine lv_aload_n hx hb dX4_init_17 rfl (lv_at hl 0 rfl) ?_
  refine lv_bipush (v := 24) hx hb dX4_init_18 (by decide) ?_
  refine xn_newa hx hb hts hK (atype := .int) (ty := .int) ac_int rfl 0 rfl (fun cA h1 h2 => xn_ra (fun _ h => by cases h) h1 h2) hP hD hS hA (N' := 24) (a0 := (24, .inl (fun _ => 0))) (fun _ => rfl) (by decide) (by decide) (Nat.le_of_ble_eq_true rfl) (Nat.le_of_ble_eq_true rfl) (Nat.le_of_ble_eq_true rfl) dX4_init_20 (fun q20_2 H hP hD hS => ?_)
  have hP : va_P E.1 vwCl ([(h0, .inr (4, [.int 0, .ref q12_1, .null, .null, .int 0, .int 0, .int 0, .null])), (q12_1, .inl (E.2.1 1, 24, .inl (fun _ => 0))), (q20_2, .inl (E.2.1 0, 24, .inl (fun _ => 0)))]) H := hP
  have hD : va_D A ([(h0, .inr (4, [.int 0, .ref q12_1, .null, .null, .int 0, .int 0, .int 0, .null])), (q12_1, .inl (E.2.1 1, 24, .inl (fun _ => 0))), (q20_2, .inl (E.2.1 0, 24, .inl (fun _ => 0)))]) := hD
  refine va_putF (D := E.1) (ci := 4) (v := .ref q20_2) (ty := (tyX4 2)) (C := RX4) (T := TX4) (N := 8) hx hb hts xi_4 tyX4 tyX4_ok nmX4 hown hK.1 hP hD hS 0 rfl rfl 2 (by decide) (hts _ l_X4_19) (fun _ h9 => h9) rfl hin rfl (by decide +kernel) rfl rfl (Nat.le_of_ble_eq_true rfl) dX4_init_22 (fun H locs hP hD hS => ?_)
  have hP : va_P E.1 vwCl ([(h0, .inr (4, [.int 0, .ref q12_1, .ref q20_2, .null, .int 0, .int 0, .int 0, .null])), (q12_1, .inl (E.2.1 1, 24, .inl (fun _ => 0))), (q20_2, .inl (E.2.1 0, 24, .inl (fun _ => 0)))]) H := hP
  have hD : va_D A ([(h0, .inr (4, [.int 0, .ref q12_1, .ref q20_2, .null, .int 0, .int 0, .int 0, .null])), (q12_1, .inl (E.2.1 1, 24, .inl (fun _ => 0))), (q20_2, .inl (E.2.1 0, 24, .inl (fun _ => 0)))]) := hD
  refine lv_aload_n hx hb dX4_init_25 rfl (lv_at hl 0 rfl) ?_
  refine lv_bipush (v := 24) hx hb dX4_init_26 (by decide) ?_
  refine xn_newa hx hb hts hK (atype := .int) (ty := .int) ac_int rfl 0 rfl (fun cA h1 h2 => xn_ra (fun _ h => by cases h) h1 h2) hP hD hS hA (N' := 24) (a0 := (24, .inl (fun _ => 0))) (fun _ => rfl) (by decide) (by decide) (Nat.le_of_ble_eq_true rfl) (Nat.le_of_ble_eq_true rfl) (Nat.le_of_ble_eq_true rfl) dX4_init_28 (fun q28_3 H hP hD hS => ?_)
  have hP : va_P E.1 vwCl ([(h0, .inr (4, [.int 0, .ref q12_1, .ref q20_2, .null, .int 0, .int 0, .int 0, .null])), (q12_1, .inl (E.2.1 1, 24, .inl (fun _ => 0))), (q20_2, .inl (E.2.1 0, 24, .inl (fun _ => 0))), (q28_3, .inl (E.2.1 0, 24, .inl (fun _ => 0)))]) H := hP
  have hD : va_D A ([(h0, .inr (4, [.int 0, .ref q12_1, .ref q20_2, .null, .int 0, .int 0, .int 0, .null])), (q12_1, .inl (E.2.1 1, 24, .inl (fun _ => 0))), (q20_2, .inl (E.2.1 0, 24, .inl (fun _ => 0))), (q28_3, .inl (E.2.1 0, 24, .inl (fun _ => 0)))]) := hD
  refine va_putF (D := E.1) (ci := 4) (v := .ref q28_3) (ty := (tyX4 3)) (C := RX4) (T := TX4) (N := 8) hx hb hts xi_4 tyX4 tyX4_ok nmX4 hown hK.1 hP hD hS 0 rfl rfl 3 (by decide) (hts _ l_X4_23) (fun _ h9 => h9) rfl hin rfl (by decide +kernel) rfl rfl (Nat.le_of_ble_eq_true rfl) dX4_init_30 (fun H locs hP hD hS => ?_)
  have hP : va_P E.1 vwCl ([(h0, .inr (4, [.int 0, .ref q12_1, .ref q20_2, .ref q28_3, .int 0, .int 0, .int 0, .null])), (q12_1, .inl (E.2.1 1, 24, .inl (fun _ => 0))), (q20_2, .inl (E.2.1 0, 24, .inl (fun _ => 0))), (q28_3, .inl (E.2.1 0, 24, .inl (fun _ => 0)))]) H := hP
  have hD : va_D A ([(h0, .inr (4, [.int 0, .ref q12_1, .ref q20_2, .ref q28_3, .int 0, .int 0, .int 0, .null])), (q12_1, .inl (E.2.1 1, 24, .inl (fun _ => 0))), (q20_2, .inl (E.2.1 0, 24, .inl (fun _ => 0))), (q28_3, .inl (E.2.1 0, 24, .inl (fun _ => 0)))]) := hD
  refine lv_aload_n hx hb dX4_init_33 rfl (lv_at hl 0 rfl) ?_
  refine lv_iconst (v := 0) hx hb dX4_init_34 (by decide) ?_
  refine va_put (D := E.1) (ci := 4) (v := .int 0) (ty := (tyX4 4)) (C := RX4) (T := TX4) (N := 8) hx hb hts xi_4 tyX4 tyX4_ok nmX4 hown hK.1 hP hD hS 0 rfl rfl 4 (by decide) (hts _ l_X4_26) (fun _ h9 => h9) rfl (by decide +kernel) rfl rfl (Nat.le_of_ble_eq_true rfl) dX4_init_35 (fun H locs hP hD hS => ?_)
  have hP : va_P E.1 vwCl ([(h0, .inr (4, [.int 0, .ref q12_1, .ref q20_2, .ref q28_3, .int 0, .int 0, .int 0, .null])), (q12_1, .inl (E.2.1 1, 24, .inl (fun _ => 0))), (q20_2, .inl (E.2.1 0, 24, .inl (fun _ => 0))), (q28_3, .inl (E.2.1 0, 24, .inl (fun _ => 0)))]) H := hP
  have hD : va_D A ([(h0, .inr (4, [.int 0, .ref q12_1, .ref q20_2, .ref q28_3, .int 0, .int 0, .int 0, .null])), (q12_1, .inl (E.2.1 1, 24, .inl (fun _ => 0))), (q20_2, .inl (E.2.1 0, 24, .inl (fun _ => 0))), (q28_3, .inl (E.2.1 0, 24, .inl (fun _ => 0)))]) := hD
  refine lv_aload_n hx hb dX4_init_38 rfl (lv_at hl 0 rfl) ?_
  refine lv_bipush (v := 20) hx hb dX4_init_39 (by decide) ?_
  refine va_put (D := E.1) (ci := 4) (v := .int 20) (ty := (tyX4 5)) (C := RX4) (T := TX4) (N := 8) hx hb hts xi_4 tyX4 tyX4_ok nmX4 hown hK.1 hP hD hS 0 rfl rfl 5 (by decide) (hts _ l_X4_29) (fun _ h9 => h9) rfl (by decide +kernel) rfl rfl (Nat.le_of_ble_eq_true rfl) dX4_init_41 (fun H locs hP hD hS => ?_)
  have hP : va_P E.1 vwCl ([(h0, .inr (4, [.int 0, .ref q12_1, .ref q20_2, .ref q28_3, .int 0, .int 20, .int 0, .null])), (q12_1, .inl (E.2.1 1, 24, .inl (fun _ => 0))), (q20_2, .inl (E.2.1 0, 24, .inl (fun _ => 0))), (q28_3, .inl (E.2.1 0, 24, .inl (fun _ => 0)))]) H := hP
  have hD : va_D A ([(h0, .inr (4, [.int 0, .ref q12_1, .ref q20_2, .ref q28_3, .int 0, .int 20, .int 0, .null])), (q12_1, .inl (E.2.1 1, 24, .inl (fun _ => 0))), (q20_2, .inl (E.2.1 0, 24, .inl (fun _ => 0))), (q28_3, .inl (E.2.1 0, 24, .inl (fun _ => 0)))]) := hD
  refine lv_aload_n hx hb dX4_init_44 rfl (lv_at hl 0 rfl) ?_
  refine lv_iconst (v := 0) hx hb dX4_init_45 (by decide) ?_
  refine va_put (D := E.1) (ci := 4) (v := .int 0) (ty := (tyX4 6)) (C := RX4) (T := TX4) (N := 8) hx hb hts xi_4 tyX4 tyX4_ok nmX4 hown hK.1 hP hD hS 0 rfl rfl 6 (by decide) (hts _ l_X4_32) (fun _ h9 => h9) rfl (by decide +kernel) rfl rfl (Nat.le_of_ble_eq_true rfl) dX4_init_46 (fun H locs hP hD hS => ?_)
  have hP : va_P E.1 vwCl ([(h0, .inr (4, [.int 0, .ref q12_1, .ref q20_2, .ref q28_3, .int 0, .int 20, .int 0, .null])), (q12_1, .inl (E.2.1 1, 24, .inl (fun _ => 0))), (q20_2, .inl (E.2.1 0, 24, .inl (fun _ => 0))), (q28_3, .inl (E.2.1 0, 24, .inl (fun _ => 0)))]) H := hP
  have hD : va_D A ([(h0, .inr (4, [.int 0, .ref q12_1, .ref q20_2, .ref q28_3, .int 0, .int 20, .int 0, .null])), (q12_1, .inl (E.2.1 1, 24, .inl (fun _ => 0))), (q20_2, .inl (E.2.1 0, 24, .inl (fun _ => 0))), (q28_3, .inl (E.2.1 0, 24, .inl (fun _ => 0)))]) := hD
  refine lv_aload_n hx hb dX4_init_49 rfl (lv_at hl 0 rfl) ?_
  refine lv_iconst (v := 4) hx hb dX4_init_50 (by decide) ?_
  refine xn_newq hx hb hown hts hK cl_X4_35 hK.2.2.2.2 4 rfl hP hD hS hA (N' := 4) (by decide) (by decide) (Nat.le_of_ble_eq_true rfl) (Nat.le_of_ble_eq_true rfl) (Nat.le_of_ble_eq_true rfl) dX4_init_51 (fun q51_4 H hP hD hS => ?_)
  have hP : va_P E.1 vwCl ([(h0, .inr (4, [.int 0, .ref q12_1, .ref q20_2, .ref q28_3, .int 0, .int 20, .int 0, .null])), (q12_1, .inl (E.2.1 1, 24, .inl (fun _ => 0))), (q20_2, .inl (E.2.1 0, 24, .inl (fun _ => 0))), (q28_3, .inl (E.2.1 0, 24, .inl (fun _ => 0))), (q51_4, .inl (E.2.1 4, 4, .inr (.inr (.inr (.inr (fun _ => none))))))]) H := hP
  have hD : va_D A ([(h0, .inr (4, [.int 0, .ref q12_1, .ref q20_2, .ref q28_3, .int 0, .int 20, .int 0, .null])), (q12_1, .inl (E.2.1 1, 24, .inl (fun _ => 0))), (q20_2, .inl (E.2.1 0, 24, .inl (fun _ => 0))), (q28_3, .inl (E.2.1 0, 24, .inl (fun _ => 0))), (q51_4, .inl (E.2.1 4, 4, .inr (.inr (.inr (.inr (fun _ => none))))))]) := hD
  refine va_putF (D := E.1) (ci := 4) (v := .ref q51_4) (ty := (tyX4 7)) (C := RX4) (T := TX4) (N := 8) hx hb hts xi_4 tyX4 tyX4_ok nmX4 hown hK.1 hP hD hS 0 rfl rfl 7 (by decide) (hts _ l_X4_37) (fun _ h9 => h9) rfl hin rfl (by decide +kernel) rfl rfl (Nat.le_of_ble_eq_true rfl) dX4_init_54 (fun H locs hP hD hS => ?_)
  have hP : va_P E.1 vwCl ([(h0, .inr (4, [.int 0, .ref q12_1, .ref q20_2, .ref q28_3, .int 0, .int 20, .int 0, .ref q51_4])), (q12_1, .inl (E.2.1 1, 24, .inl (fun _ => 0))), (q20_2, .inl (E.2.1 0, 24, .inl (fun _ => 0))), (q28_3, .inl (E.2.1 0, 24, .inl (fun _ => 0))), (q51_4, .inl (E.2.1 4, 4, .inr (.inr (.inr (.inr (fun _ => none))))))]) H := hP
  have hD : va_D A ([(h0, .inr (4, [.int 0, .ref q12_1, .ref q20_2, .ref q28_3, .int 0, .int 20, .int 0, .ref q51_4])), (q12_1, .inl (E.2.1 1, 24, .inl (fun _ => 0))), (q20_2, .inl (E.2.1 0, 24, .inl (fun _ => 0))), (q28_3, .inl (E.2.1 0, 24, .inl (fun _ => 0))), (q51_4, .inl (E.2.1 4, 4, .inr (.inr (.inr (.inr (fun _ => none))))))]) := hD
  refine lv_iconst (v := 0) hx hb dX4_init_57 (by decide) ?_
  refine lv_istore_n (lv' := [(1, .int 0), (0, .ref h0)]) hx hb dX4_init_58 rfl hl (by decide) rfl (fun ls hl => ?_)
  refine lv_iload_n hx hb dX4_init_59 rfl (lv_at hl 0 rfl) ?_
  refine lv_iconst (v := 4) hx hb dX4_init_60 (by decide) ?_
  refine lv_icmp_ge (tgt := 83) hx hb dX4_init_61 (by decide) (fun c => absurd c (by decide)) (fun _ => ?_)
  refine lv_aload_n hx hb dX4_init_64 rfl (lv_at hl 1 rfl) ?_
  refine va_get (D := E.1) (ci := 4) (v := .ref q51_4) (C := RX4) (T := TX4) (N := 8) hx hb hts xi_4 hown hK.1 hP 0 rfl rfl 7 (by decide) (hts _ l_X4_37) (fun _ h9 => h9) rfl dX4_init_65 ?_
  refine lv_iload_n hx hb dX4_init_68 rfl (lv_at hl 0 rfl) ?_
  refine va_new (ci := 2) (fs := [.int 0, .int 0, .int 0, .int 0, .null, .null]) (C := RX2) (T := TX2) (N := 6) hx hb hts xi_2 tyX2 tyX2_ok hown (hts _ cl_X4_35) (hts _ ib_X2.1) (hts _ ib_X2.2) hK.1 hP hD hS hA rfl (by decide +kernel) (Nat.le_of_ble_eq_true rfl) (Nat.le_of_ble_eq_true rfl) dX4_init_69 (fun q69_5 H hP hD hS => ?_)
  refine lv_dup hx hb dX4_init_72 rfl ?_
  refine xn_callIN (q := q69_5) (rest := [.ref q69_5, .int 0, .ref q51_4]) hx hb hml hown hts hK hP hD hS hA (c_X2_init l E) ki_X4_41 rfl ⟨(Nat.le_of_ble_eq_true rfl), (Nat.le_of_ble_eq_true rfl)⟩ hl.1 (Nat.le_of_ble_eq_true rfl) ⟨(Nat.le_of_ble_eq_true rfl), (Nat.le_of_ble_eq_true rfl)⟩ dX4_init_73 (fun w1 H locs hw hP hD hS => ?_)
  obtain ⟨b6, rfl, rfl⟩ := hw
  have hP : va_P E.1 vwCl ([(h0, .inr (4, [.int 0, .ref q12_1, .ref q20_2, .ref q28_3, .int 0, .int 20, .int 0, .ref q51_4])), (q12_1, .inl (E.2.1 1, 24, .inl (fun _ => 0))), (q20_2, .inl (E.2.1 0, 24, .inl (fun _ => 0))), (q28_3, .inl (E.2.1 0, 24, .inl (fun _ => 0))), (q51_4, .inl (E.2.1 4, 4, .inr (.inr (.inr (.inr (fun _ => none))))))] ++ xm_w (b6, xc_P E b6 0, 3) (fun o => xm_0 (1 + o))) H := hP
  have hD : va_D A ([(h0, .inr (4, [.int 0, .ref q12_1, .ref q20_2, .ref q28_3, .int 0, .int 20, .int 0, .ref q51_4])), (q12_1, .inl (E.2.1 1, 24, .inl (fun _ => 0))), (q20_2, .inl (E.2.1 0, 24, .inl (fun _ => 0))), (q28_3, .inl (E.2.1 0, 24, .inl (fun _ => 0))), (q51_4, .inl (E.2.1 4, 4, .inr (.inr (.inr (.inr (fun _ => none))))))] ++ xm_w (b6, xc_P E b6 0, 3) (fun o => xm_0 (1 + o))) := hD
  refine va_astq hx hb hK.1 hP hD hS 4 4 5 2 (r := (RX2, TX2, 6)) rfl rfl rfl rfl (xm_in_s (by decide)) dX4_init_76 (fun H locs hP hD hS => ?_)
  have hP : va_P E.1 vwCl ([(h0, .inr (4, [.int 0, .ref q12_1, .ref q20_2, .ref q28_3, .int 0, .int 20, .int 0, .ref q51_4])), (q12_1, .inl (E.2.1 1, 24, .inl (fun _ => 0))), (q20_2, .inl (E.2.1 0, 24, .inl (fun _ => 0))), (q28_3, .inl (E.2.1 0, 24, .inl (fun _ => 0))), (q51_4, .inl (E.2.1 4, 4, .inr (.inr (.inr (.inr (va_up (fun _ => none) (0 : Int32).toNatClampNeg (some (b6 0))))))))] ++ xm_w (b6, xc_P E b6 0, 3) (fun o => xm_0 (1 + o))) H := hP
  have hD : va_D A ([(h0, .inr (4, [.int 0, .ref q12_1, .ref q20_2, .ref q28_3, .int 0, .int 20, .int 0, .ref q51_4])), (q12_1, .inl (E.2.1 1, 24, .inl (fun _ => 0))), (q20_2, .inl (E.2.1 0, 24, .inl (fun _ => 0))), (q28_3, .inl (E.2.1 0, 24, .inl (fun _ => 0))), (q51_4, .inl (E.2.1 4, 4, .inr (.inr (.inr (.inr (va_up (fun _ => none) (0 : Int32).toNatClampNeg (some (b6 0))))))))] ++ xm_w (b6, xc_P E b6 0, 3) (fun o => xm_0 (1 + o))) := hD
  refine lv_iinc (v := 1) (lv' := [(1, .int 1), (0, .ref h0)]) hx hb dX4_init_77 hl (k := 0) rfl (by decide) (by decide) rfl (fun ls hl => ?_)
  refine lv_goto (tgt := 59) hx hb dX4_init_80 (by decide) ?_
  refine lv_iload_n hx hb dX4_init_59 rfl (lv_at hl 0 rfl) ?_
  refine lv_iconst (v := 4) hx hb dX4_init_60 (by decide) ?_
  refine lv_icmp_ge (tgt := 83) hx hb dX4_init_61 (by decide) (fun c => absurd c (by decide)) (fun _ => ?_)
  refine lv_aload_n hx hb dX4_init_64 rfl (lv_at hl 1 rfl) ?_
  refine va_get (D := E.1) (ci := 4) (v := .ref q51_4) (C := RX4) (T := TX4) (N := 8) hx hb hts xi_4 hown hK.1 hP 0 rfl rfl 7 (by decide) (hts _ l_X4_37) (fun _ h9 => h9) rfl dX4_init_65 ?_
  refine lv_iload_n hx hb dX4_init_68 rfl (lv_at hl 0 rfl) ?_
  refine va_new (ci := 2) (fs := [.int 0, .int 0, .int 0, .int 0, .null, .null]) (C := RX2) (T := TX2) (N := 6) hx hb hts xi_2 tyX2 tyX2_ok hown (hts _ cl_X4_35) (hts _ ib_X2.1) (hts _ ib_X2.2) hK.1 hP hD hS hA rfl (by decide +kernel) (Nat.le_of_ble_eq_true rfl) (Nat.le_of_ble_eq_true rfl) dX4_init_69 (fun q69_7 H hP hD hS => ?_)
  refine lv_dup hx hb dX4_init_72 rfl ?_
  refine xn_callIN (q := q69_7) (rest := [.ref q69_7, .int 1, .ref q51_4]) hx hb hml hown hts hK hP hD hS hA (c_X2_init l E) ki_X4_41 rfl ⟨(Nat.le_of_ble_eq_true rfl), (Nat.le_of_ble_eq_true rfl)⟩ hl.1 (Nat.le_of_ble_eq_true rfl) ⟨(Nat.le_of_ble_eq_true rfl), (Nat.le_of_ble_eq_true rfl)⟩ dX4_init_73 (fun w1 H locs hw hP hD hS => ?_)
  obtain ⟨b8, rfl, rfl⟩ := hw
  have hP : va_P E.1 vwCl ([(h0, .inr (4, [.int 0, .ref q12_1, .ref q20_2, .ref q28_3, .int 0, .int 20, .int 0, .ref q51_4])), (q12_1, .inl (E.2.1 1, 24, .inl (fun _ => 0))), (q20_2, .inl (E.2.1 0, 24, .inl (fun _ => 0))), (q28_3, .inl (E.2.1 0, 24, .inl (fun _ => 0))), (q51_4, .inl (E.2.1 4, 4, .inr (.inr (.inr (.inr (va_up (fun _ => none) (0 : Int32).toNatClampNeg (some (b6 0))))))))] ++ xm_w (b6, xc_P E b6 0, 3) (fun o => xm_0 (1 + o)) ++ xm_w (b8, xc_P E b8 0, 3) (fun o => xm_0 (1 + o))) H := hP
  have hD : va_D A ([(h0, .inr (4, [.int 0, .ref q12_1, .ref q20_2, .ref q28_3, .int 0, .int 20, .int 0, .ref q51_4])), (q12_1, .inl (E.2.1 1, 24, .inl (fun _ => 0))), (q20_2, .inl (E.2.1 0, 24, .inl (fun _ => 0))), (q28_3, .inl (E.2.1 0, 24, .inl (fun _ => 0))), (q51_4, .inl (E.2.1 4, 4, .inr (.inr (.inr (.inr (va_up (fun _ => none) (0 : Int32).toNatClampNeg (some (b6 0))))))))] ++ xm_w (b6, xc_P E b6 0, 3) (fun o => xm_0 (1 + o)) ++ xm_w (b8, xc_P E b8 0, 3) (fun o => xm_0 (1 + o))) := hD
  refine va_astq hx hb hK.1 hP hD hS 4 4 8 2 (r := (RX2, TX2, 6)) rfl rfl rfl rfl (xm_in_s (by decide)) dX4_init_76 (fun H locs hP hD hS => ?_)
  have hP : va_P E.1 vwCl ([(h0, .inr (4, [.int 0, .ref q12_1, .ref q20_2, .ref q28_3, .int 0, .int 20, .int 0, .ref q51_4])), (q12_1, .inl (E.2.1 1, 24, .inl (fun _ => 0))), (q20_2, .inl (E.2.1 0, 24, .inl (fun _ => 0))), (q28_3, .inl (E.2.1 0, 24, .inl (fun _ => 0))), (q51_4, .inl (E.2.1 4, 4, .inr (.inr (.inr (.inr (va_up (va_up (fun _ => none) (0 : Int32).toNatClampNeg (some (b6 0))) (1 : Int32).toNatClampNeg (some (b8 0))))))))] ++ xm_w (b6, xc_P E b6 0, 3) (fun o => xm_0 (1 + o)) ++ xm_w (b8, xc_P E b8 0, 3) (fun o => xm_0 (1 + o))) H := hP
  have hD : va_D A ([(h0, .inr (4, [.int 0, .ref q12_1, .ref q20_2, .ref q28_3, .int 0, .int 20, .int 0, .ref q51_4])), (q12_1, .inl (E.2.1 1, 24, .inl (fun _ => 0))), (q20_2, .inl (E.2.1 0, 24, .inl (fun _ => 0))), (q28_3, .inl (E.2.1 0, 24, .inl (fun _ => 0))), (q51_4, .inl (E.2.1 4, 4, .inr (.inr (.inr (.inr (va_up (va_up (fun _ => none) (0 : Int32).toNatClampNeg (some (b6 0))) (1 : Int32).toNatClampNeg (some (b8 0))))))))] ++ xm_w (b6, xc_P E b6 0, 3) (fun o => xm_0 (1 + o)) ++ xm_w (b8, xc_P E b8 0, 3) (fun o => xm_0 (1 + o))) := hD
  refine lv_iinc (v := 2) (lv' := [(1, .int 2), (0, .ref h0)]) hx hb dX4_init_77 hl (k := 0) rfl (by decide) (by decide) rfl (fun ls hl => ?_)
  refine lv_goto (tgt := 59) hx hb dX4_init_80 (by decide) ?_
  refine lv_iload_n hx hb dX4_init_59 rfl (lv_at hl 0 rfl) ?_
  refine lv_iconst (v := 4) hx hb dX4_init_60 (by decide) ?_
  refine lv_icmp_ge (tgt := 83) hx hb dX4_init_61 (by decide) (fun c => absurd c (by decide)) (fun _ => ?_)
  refine lv_aload_n hx hb dX4_init_64 rfl (lv_at hl 1 rfl) ?_
  refine va_get (D := E.1) (ci := 4) (v := .ref q51_4) (C := RX4) (T := TX4) (N := 8) hx hb hts xi_4 hown hK.1 hP 0 rfl rfl 7 (by decide) (hts _ l_X4_37) (fun _ h9 => h9) rfl dX4_init_65 ?_
  refine lv_iload_n hx hb dX4_init_68 rfl (lv_at hl 0 rfl) ?_
  refine va_new (ci := 2) (fs := [.int 0, .int 0, .int 0, .int 0, .null, .null]) (C := RX2) (T := TX2) (N := 6) hx hb hts xi_2 tyX2 tyX2_ok hown (hts _ cl_X4_35) (hts _ ib_X2.1) (hts _ ib_X2.2) hK.1 hP hD hS hA rfl (by decide +kernel) (Nat.le_of_ble_eq_true rfl) (Nat.le_of_ble_eq_true rfl) dX4_init_69 (fun q69_9 H hP hD hS => ?_)
  refine lv_dup hx hb dX4_init_72 rfl ?_
  refine xn_callIN (q := q69_9) (rest := [.ref q69_9, .int 2, .ref q51_4]) hx hb hml hown hts hK hP hD hS hA (c_X2_init l E) ki_X4_41 rfl ⟨(Nat.le_of_ble_eq_true rfl), (Nat.le_of_ble_eq_true rfl)⟩ hl.1 (Nat.le_of_ble_eq_true rfl) ⟨(Nat.le_of_ble_eq_true rfl), (Nat.le_of_ble_eq_true rfl)⟩ dX4_init_73 (fun w1 H locs hw hP hD hS => ?_)
  obtain ⟨b10, rfl, rfl⟩ := hw
  have hP : va_P E.1 vwCl ([(h0, .inr (4, [.int 0, .ref q12_1, .ref q20_2, .ref q28_3, .int 0, .int 20, .int 0, .ref q51_4])), (q12_1, .inl (E.2.1 1, 24, .inl (fun _ => 0))), (q20_2, .inl (E.2.1 0, 24, .inl (fun _ => 0))), (q28_3, .inl (E.2.1 0, 24, .inl (fun _ => 0))), (q51_4, .inl (E.2.1 4, 4, .inr (.inr (.inr (.inr (va_up (va_up (fun _ => none) (0 : Int32).toNatClampNeg (some (b6 0))) (1 : Int32).toNatClampNeg (some (b8 0))))))))] ++ xm_w (b6, xc_P E b6 0, 3) (fun o => xm_0 (1 + o)) ++ xm_w (b8, xc_P E b8 0, 3) (fun o => xm_0 (1 + o)) ++ xm_w (b10, xc_P E b10 0, 3) (fun o => xm_0 (1 + o))) H := hP
  have hD : va_D A ([(h0, .inr (4, [.int 0, .ref q12_1, .ref q20_2, .ref q28_3, .int 0, .int 20, .int 0, .ref q51_4])), (q12_1, .inl (E.2.1 1, 24, .inl (fun _ => 0))), (q20_2, .inl (E.2.1 0, 24, .inl (fun _ => 0))), (q28_3, .inl (E.2.1 0, 24, .inl (fun _ => 0))), (q51_4, .inl (E.2.1 4, 4, .inr (.inr (.inr (.inr (va_up (va_up (fun _ => none) (0 : Int32).toNatClampNeg (some (b6 0))) (1 : Int32).toNatClampNeg (some (b8 0))))))))] ++ xm_w (b6, xc_P E b6 0, 3) (fun o => xm_0 (1 + o)) ++ xm_w (b8, xc_P E b8 0, 3) (fun o => xm_0 (1 + o)) ++ xm_w (b10, xc_P E b10 0, 3) (fun o => xm_0 (1 + o))) := hD
  refine va_astq hx hb hK.1 hP hD hS 4 4 11 2 (r := (RX2, TX2, 6)) rfl rfl rfl rfl (xm_in_s (by decide)) dX4_init_76 (fun H locs hP hD hS => ?_)
  have hP : va_P E.1 vwCl ([(h0, .inr (4, [.int 0, .ref q12_1, .ref q20_2, .ref q28_3, .int 0, .int 20, .int 0, .ref q51_4])), (q12_1, .inl (E.2.1 1, 24, .inl (fun _ => 0))), (q20_2, .inl (E.2.1 0, 24, .inl (fun _ => 0))), (q28_3, .inl (E.2.1 0, 24, .inl (fun _ => 0))), (q51_4, .inl (E.2.1 4, 4, .inr (.inr (.inr (.inr (va_up (va_up (va_up (fun _ => none) (0 : Int32).toNatClampNeg (some (b6 0))) (1 : Int32).toNatClampNeg (some (b8 0))) (2 : Int32).toNatClampNeg (some (b10 0))))))))] ++ xm_w (b6, xc_P E b6 0, 3) (fun o => xm_0 (1 + o)) ++ xm_w (b8, xc_P E b8 0, 3) (fun o => xm_0 (1 + o)) ++ xm_w (b10, xc_P E b10 0, 3) (fun o => xm_0 (1 + o))) H := hP
  have hD : va_D A ([(h0, .inr (4, [.int 0, .ref q12_1, .ref q20_2, .ref q28_3, .int 0, .int 20, .int 0, .ref q51_4])), (q12_1, .inl (E.2.1 1, 24, .inl (fun _ => 0))), (q20_2, .inl (E.2.1 0, 24, .inl (fun _ => 0))), (q28_3, .inl (E.2.1 0, 24, .inl (fun _ => 0))), (q51_4, .inl (E.2.1 4, 4, .inr (.inr (.inr (.inr (va_up (va_up (va_up (fun _ => none) (0 : Int32).toNatClampNeg (some (b6 0))) (1 : Int32).toNatClampNeg (some (b8 0))) (2 : Int32).toNatClampNeg (some (b10 0))))))))] ++ xm_w (b6, xc_P E b6 0, 3) (fun o => xm_0 (1 + o)) ++ xm_w (b8, xc_P E b8 0, 3) (fun o => xm_0 (1 + o)) ++ xm_w (b10, xc_P E b10 0, 3) (fun o => xm_0 (1 + o))) := hD
  refine lv_iinc (v := 3) (lv' := [(1, .int 3), (0, .ref h0)]) hx hb dX4_init_77 hl (k := 0) rfl (by decide) (by decide) rfl (fun ls hl => ?_)
  refine lv_goto (tgt := 59) hx hb dX4_init_80 (by decide) ?_
  refine lv_iload_n hx hb dX4_init_59 rfl (lv_at hl 0 rfl) ?_
  refine lv_iconst (v := 4) hx hb dX4_init_60 (by decide) ?_
  refine lv_icmp_ge (tgt := 83) hx hb dX4_init_61 (by decide) (fun c => absurd c (by decide)) (fun _ => ?_)
  refine lv_aload_n hx hb dX4_init_64 rfl (lv_at hl 1 rfl) ?_
  refine va_get (D := E.1) (ci := 4) (v := .ref q51_4) (C := RX4) (T := TX4) (N := 8) hx hb hts xi_4 hown hK.1 hP 0 rfl rfl 7 (by decide) (hts _ l_X4_37) (fun _ h9 => h9) rfl dX4_init_65 ?_
  refine lv_iload_n hx hb dX4_init_68 rfl (lv_at hl 0 rfl) ?_
  refine va_new (ci := 2) (fs := [.int 0, .int 0, .int 0, .int 0, .null, .null]) (C := RX2) (T := TX2) (N := 6) hx hb hts xi_2 tyX2 tyX2_ok hown (hts _ cl_X4_35) (hts _ ib_X2.1) (hts _ ib_X2.2) hK.1 hP hD hS hA rfl (by decide +kernel) (Nat.le_of_ble_eq_true rfl) (Nat.le_of_ble_eq_true rfl) dX4_init_69 (fun q69_11 H hP hD hS => ?_)
  refine lv_dup hx hb dX4_init_72 rfl ?_
  refine xn_callIN (q := q69_11) (rest := [.ref q69_11, .int 3, .ref q51_4]) hx hb hml hown hts hK hP hD hS hA (c_X2_init l E) ki_X4_41 rfl ⟨(Nat.le_of_ble_eq_true rfl), (Nat.le_of_ble_eq_true rfl)⟩ hl.1 (Nat.le_of_ble_eq_true rfl) ⟨(Nat.le_of_ble_eq_true rfl), (Nat.le_of_ble_eq_true rfl)⟩ dX4_init_73 (fun w1 H locs hw hP hD hS => ?_)
  obtain ⟨b12, rfl, rfl⟩ := hw
  have hP : va_P E.1 vwCl ([(h0, .inr (4, [.int 0, .ref q12_1, .ref q20_2, .ref q28_3, .int 0, .int 20, .int 0, .ref q51_4])), (q12_1, .inl (E.2.1 1, 24, .inl (fun _ => 0))), (q20_2, .inl (E.2.1 0, 24, .inl (fun _ => 0))), (q28_3, .inl (E.2.1 0, 24, .inl (fun _ => 0))), (q51_4, .inl (E.2.1 4, 4, .inr (.inr (.inr (.inr (va_up (va_up (va_up (fun _ => none) (0 : Int32).toNatClampNeg (some (b6 0))) (1 : Int32).toNatClampNeg (some (b8 0))) (2 : Int32).toNatClampNeg (some (b10 0))))))))] ++ xm_w (b6, xc_P E b6 0, 3) (fun o => xm_0 (1 + o)) ++ xm_w (b8, xc_P E b8 0, 3) (fun o => xm_0 (1 + o)) ++ xm_w (b10, xc_P E b10 0, 3) (fun o => xm_0 (1 + o)) ++ xm_w (b12, xc_P E b12 0, 3) (fun o => xm_0 (1 + o))) H := hP
  have hD : va_D A ([(h0, .inr (4, [.int 0, .ref q12_1, .ref q20_2, .ref q28_3, .int 0, .int 20, .int 0, .ref q51_4])), (q12_1, .inl (E.2.1 1, 24, .inl (fun _ => 0))), (q20_2, .inl (E.2.1 0, 24, .inl (fun _ => 0))), (q28_3, .inl (E.2.1 0, 24, .inl (fun _ => 0))), (q51_4, .inl (E.2.1 4, 4, .inr (.inr (.inr (.inr (va_up (va_up (va_up (fun _ => none) (0 : Int32).toNatClampNeg (some (b6 0))) (1 : Int32).toNatClampNeg (some (b8 0))) (2 : Int32).toNatClampNeg (some (b10 0))))))))] ++ xm_w (b6, xc_P E b6 0, 3) (fun o => xm_0 (1 + o)) ++ xm_w (b8, xc_P E b8 0, 3) (fun o => xm_0 (1 + o)) ++ xm_w (b10, xc_P E b10 0, 3) (fun o => xm_0 (1 + o)) ++ xm_w (b12, xc_P E b12 0, 3) (fun o => xm_0 (1 + o))) := hD
  refine va_astq hx hb hK.1 hP hD hS 4 4 14 2 (r := (RX2, TX2, 6)) rfl rfl rfl rfl (xm_in_s (by decide)) dX4_init_76 (fun H locs hP hD hS => ?_)
  have hP : va_P E.1 vwCl ([(h0, .inr (4, [.int 0, .ref q12_1, .ref q20_2, .ref q28_3, .int 0, .int 20, .int 0, .ref q51_4])), (q12_1, .inl (E.2.1 1, 24, .inl (fun _ => 0))), (q20_2, .inl (E.2.1 0, 24, .inl (fun _ => 0))), (q28_3, .inl (E.2.1 0, 24, .inl (fun _ => 0))), (q51_4, .inl (E.2.1 4, 4, .inr (.inr (.inr (.inr (va_up (va_up (va_up (va_up (fun _ => none) (0 : Int32).toNatClampNeg (some (b6 0))) (1 : Int32).toNatClampNeg (some (b8 0))) (2 : Int32).toNatClampNeg (some (b10 0))) (3 : Int32).toNatClampNeg (some (b12 0))))))))] ++ xm_w (b6, xc_P E b6 0, 3) (fun o => xm_0 (1 + o)) ++ xm_w (b8, xc_P E b8 0, 3) (fun o => xm_0 (1 + o)) ++ xm_w (b10, xc_P E b10 0, 3) (fun o => xm_0 (1 + o)) ++ xm_w (b12, xc_P E b12 0, 3) (fun o => xm_0 (1 + o))) H := hP
  have hD : va_D A ([(h0, .inr (4, [.int 0, .ref q12_1, .ref q20_2, .ref q28_3, .int 0, .int 20, .int 0, .ref q51_4])), (q12_1, .inl (E.2.1 1, 24, .inl (fun _ => 0))), (q20_2, .inl (E.2.1 0, 24, .inl (fun _ => 0))), (q28_3, .inl (E.2.1 0, 24, .inl (fun _ => 0))), (q51_4, .inl (E.2.1 4, 4, .inr (.inr (.inr (.inr (va_up (va_up (va_up (va_up (fun _ => none) (0 : Int32).toNatClampNeg (some (b6 0))) (1 : Int32).toNatClampNeg (some (b8 0))) (2 : Int32).toNatClampNeg (some (b10 0))) (3 : Int32).toNatClampNeg (some (b12 0))))))))] ++ xm_w (b6, xc_P E b6 0, 3) (fun o => xm_0 (1 + o)) ++ xm_w (b8, xc_P E b8 0, 3) (fun o => xm_0 (1 + o)) ++ xm_w (b10, xc_P E b10 0, 3) (fun o => xm_0 (1 + o)) ++ xm_w (b12, xc_P E b12 0, 3) (fun o => xm_0 (1 + o))) := hD
  refine lv_iinc (v := 4) (lv' := [(1, .int 4), (0, .ref h0)]) hx hb dX4_init_77 hl (k := 0) rfl (by decide) (by decide) rfl (fun ls hl => ?_)
  refine lv_goto (tgt := 59) hx hb dX4_init_80 (by decide) ?_
  refine lv_iload_n hx hb dX4_init_59 rfl (lv_at hl 0 rfl) ?_
  refine lv_iconst (v := 4) hx hb dX4_init_60 (by decide) ?_
  refine lv_icmp_ge (tgt := 83) hx hb dX4_init_61 (by decide) (fun _ => ?_) (fun c => absurd (by decide) c)
  obtain ⟨bb, hbb⟩ : ∃ bb : Nat → Nat, bb = fun k => if k < 1 then h0 else if k < 2 then q12_1 else if k < 3 then q20_2 else if k < 4 then q28_3 else if k < 5 then q51_4 else if k < 8 then b6 (k - 5) else if k < 11 then b8 (k - 8) else if k < 14 then b10 (k - 11) else b12 (k - 14) := ⟨_, rfl⟩
  have hP := xn_eqv hP (k := 4) (fun j => [some (bb (0 + 5)), some (bb (0 + 8)), some (bb (0 + 11)), some (bb (0 + 14))].getD j none) rfl (xn_j4 (by rw [hbb]; rfl) (by rw [hbb]; rfl) (by rw [hbb]; rfl) (by rw [hbb]; rfl))
  have hD := hD.set (p := 4) (e := .inl (E.2.1 4, 4, .inr (.inr (.inr (.inr (fun j => [some (bb (0 + 5)), some (bb (0 + 8)), some (bb (0 + 11)), some (bb (0 + 14))].getD j none)))))) rfl
  subst A9
  exact xn_ret C hP hD hS (w := xm_w (bb, xc_S E bb 0, 17) (fun o => xm_0 (18 + o))) (by subst hbb; rfl) ⟨bb, by rw [hbb]; rfl, rfl⟩ dX4_init_83 rfl rfl
set_option maxHeartbeats 8000000 in
set_option maxRecDepth 100000 in
theorem c_X0_init (l : Launch) (E : xm_E) : xn_Met l E yX0_init cX0_init 2 3 69 692 53 (.inr (0, [.null, .int 0, .int 0])) (xn_SH E) := by
  refine xn_met (by decide +kernel) rfl rfl (Nat.le_of_ble_eq_true rfl) (fun h0 p e s m below meth c C hP ls hl => ?_)
  have C9 := C
  obtain ⟨hx, hb, hml, hown, hts, hr, hlk, hK, hin⟩ := C9
  obtain ⟨A, A9⟩ : ∃ A : Nat → Prop, va_A [(h0, .inr (0, [.null, .int 0, .int 0]))] s.heap.size = A := ⟨_, rfl⟩
  have hD : va_D A [(h0, .inr (0, [.null, .int 0, .int 0]))] := by
    rw [← A9]
    exact ⟨fun i j p q hi hj _ => by have h1 := (List.getElem?_eq_some_iff.mp hi).1; have h2 := (List.getElem?_eq_some_iff.mp hj).1; simp at h1 h2; omega, fun k q hk => va_A.in hk⟩
  have hA : ∀ q : Nat, s.heap.size ≤ q → A q := fun q h => by rw [← A9]; exact Or.inr h
  have hS : va_S A s.heap s.heap [] := va_S.rf
  refine lv_aload_n hx hb dX0_init_0 rfl (lv_at hl 0 rfl) ?_
  refine W.objInit hx hb hown (hts _ ob_X0_3.1) (hts _ ob_X0_3.2.1) (hts _ ob_X0_3.2.2) rfl (by rw [hml]; exact hl.1) rfl dX0_init_1 (Nat.le_of_ble_eq_true rfl) (Nat.le_of_ble_eq_true rfl) ?_
  refine W.eq (g2 := F0 m 4 ls []) rfl ?_
  refine lv_aload_n hx hb dX0_init_4 rfl (lv_at hl 0 rfl) ?_
  refine lv_iconst (v := 4) hx hb dX0_init_5 (by decide) ?_
  refine xn_newq hx hb hown hts hK cl_X0_9 hK.2.2.2.1 3 rfl hP hD hS hA (N' := 4) (by decide) (by decide) (Nat.le_of_ble_eq_true rfl) (Nat.le_of_ble_eq_true rfl) (Nat.le_of_ble_eq_true rfl) dX0_init_6 (fun q6_1 H hP hD hS => ?_)
  have hP : va_P E.1 vwCl ([(h0, .inr (0, [.null, .int 0, .int 0])), (q6_1, .inl (E.2.1 3, 4, .inr (.inr (.inr (.inr (fun _ => none))))))]) H := hP
  have hD : va_D A ([(h0, .inr (0, [.null, .int 0, .int 0])), (q6_1, .inl (E.2.1 3, 4, .inr (.inr (.inr (.inr (fun _ => none))))))]) := hD
  refine va_putF (D := E.1) (ci := 0) (v := .ref q6_1) (ty := (tyX0 0)) (C := RX0) (T := TX0) (N := 3) hx hb hts xi_0 tyX0 tyX0_ok nmX0 hown hK.1 hP hD hS 0 rfl rfl 0 (by decide) (hts _ l_X0_11) (fun _ h9 => h9) rfl hin rfl (by decide +kernel) rfl rfl (Nat.le_of_ble_eq_true rfl) dX0_init_9 (fun H locs hP hD hS => ?_)
  have hP : va_P E.1 vwCl ([(h0, .inr (0, [.ref q6_1, .int 0, .int 0])), (q6_1, .inl (E.2.1 3, 4, .inr (.inr (.inr (.inr (fun _ => none))))))]) H := hP
  have hD : va_D A ([(h0, .inr (0, [.ref q6_1, .int 0, .int 0])), (q6_1, .inl (E.2.1 3, 4, .inr (.inr (.inr (.inr (fun _ => none))))))]) := hD
  refine lv_aload_n hx hb dX0_init_12 rfl (lv_at hl 0 rfl) ?_
  refine lv_iconst (v := 0) hx hb dX0_init_13 (by decide) ?_
  refine va_put (D := E.1) (ci := 0) (v := .int 0) (ty := (tyX0 1)) (C := RX0) (T := TX0) (N := 3) hx hb hts xi_0 tyX0 tyX0_ok nmX0 hown hK.1 hP hD hS 0 rfl rfl 1 (by decide) (hts _ l_X0_17) (fun _ h9 => h9) rfl (by decide +kernel) rfl rfl (Nat.le_of_ble_eq_true rfl) dX0_init_14 (fun H locs hP hD hS => ?_)
  have hP : va_P E.1 vwCl ([(h0, .inr (0, [.ref q6_1, .int 0, .int 0])), (q6_1, .inl (E.2.1 3, 4, .inr (.inr (.inr (.inr (fun _ => none))))))]) H := hP
  have hD : va_D A ([(h0, .inr (0, [.ref q6_1, .int 0, .int 0])), (q6_1, .inl (E.2.1 3, 4, .inr (.inr (.inr (.inr (fun _ => none))))))]) := hD
  refine lv_aload_n hx hb dX0_init_17 rfl (lv_at hl 0 rfl) ?_
  refine lv_iconst (v := 0) hx hb dX0_init_18 (by decide) ?_
  refine va_put (D := E.1) (ci := 0) (v := .int 0) (ty := (tyX0 2)) (C := RX0) (T := TX0) (N := 3) hx hb hts xi_0 tyX0 tyX0_ok nmX0 hown hK.1 hP hD hS 0 rfl rfl 2 (by decide) (hts _ l_X0_21) (fun _ h9 => h9) rfl (by decide +kernel) rfl rfl (Nat.le_of_ble_eq_true rfl) dX0_init_19 (fun H locs hP hD hS => ?_)
  have hP : va_P E.1 vwCl ([(h0, .inr (0, [.ref q6_1, .int 0, .int 0])), (q6_1, .inl (E.2.1 3, 4, .inr (.inr (.inr (.inr (fun _ => none))))))]) H := hP
  have hD : va_D A ([(h0, .inr (0, [.ref q6_1, .int 0, .int 0])), (q6_1, .inl (E.2.1 3, 4, .inr (.inr (.inr (.inr (fun _ => none))))))]) := hD
  refine lv_iconst (v := 0) hx hb dX0_init_22 (by decide) ?_
  refine lv_istore_n (lv' := [(1, .int 0), (0, .ref h0)]) hx hb dX0_init_23 rfl hl (by decide) rfl (fun ls hl => ?_)
  refine lv_iload_n hx hb dX0_init_24 rfl (lv_at hl 0 rfl) ?_
  refine lv_iconst (v := 4) hx hb dX0_init_25 (by decide) ?_
  refine lv_icmp_ge (tgt := 48) hx hb dX0_init_26 (by decide) (fun c => absurd c (by decide)) (fun _ => ?_)
  refine lv_aload_n hx hb dX0_init_29 rfl (lv_at hl 1 rfl) ?_
  refine va_get (D := E.1) (ci := 0) (v := .ref q6_1) (C := RX0) (T := TX0) (N := 3) hx hb hts xi_0 hown hK.1 hP 0 rfl rfl 0 (by decide) (hts _ l_X0_11) (fun _ h9 => h9) rfl dX0_init_30 ?_
  refine lv_iload_n hx hb dX0_init_33 rfl (lv_at hl 0 rfl) ?_
  refine va_new (ci := 4) (fs := [.int 0, .null, .null, .null, .int 0, .int 0, .int 0, .null]) (C := RX4) (T := TX4) (N := 8) hx hb hts xi_4 tyX4 tyX4_ok hown (hts _ cl_X0_9) (hts _ ib_X4.1) (hts _ ib_X4.2) hK.1 hP hD hS hA rfl (by decide +kernel) (Nat.le_of_ble_eq_true rfl) (Nat.le_of_ble_eq_true rfl) dX0_init_34 (fun q34_2 H hP hD hS => ?_)
  refine lv_dup hx hb dX0_init_37 rfl ?_
  refine xn_callIN (q := q34_2) (rest := [.ref q34_2, .int 0, .ref q6_1]) hx hb hml hown hts hK hP hD hS hA (c_X4_init l E) ki_X0_24 rfl ⟨(Nat.le_of_ble_eq_true rfl), (Nat.le_of_ble_eq_true rfl)⟩ hl.1 (Nat.le_of_ble_eq_true rfl) ⟨(Nat.le_of_ble_eq_true rfl), (Nat.le_of_ble_eq_true rfl)⟩ dX0_init_38 (fun w1 H locs hw hP hD hS => ?_)
  obtain ⟨b3, rfl, rfl⟩ := hw
  have hP : va_P E.1 vwCl ([(h0, .inr (0, [.ref q6_1, .int 0, .int 0])), (q6_1, .inl (E.2.1 3, 4, .inr (.inr (.inr (.inr (fun _ => none))))))] ++ xm_w (b3, xc_S E b3 0, 17) (fun o => xm_0 (18 + o))) H := hP
  have hD : va_D A ([(h0, .inr (0, [.ref q6_1, .int 0, .int 0])), (q6_1, .inl (E.2.1 3, 4, .inr (.inr (.inr (.inr (fun _ => none))))))] ++ xm_w (b3, xc_S E b3 0, 17) (fun o => xm_0 (18 + o))) := hD
  refine va_astq hx hb hK.1 hP hD hS 1 3 2 4 (r := (RX4, TX4, 8)) rfl rfl rfl rfl (xm_in_s (by decide)) dX0_init_41 (fun H locs hP hD hS => ?_)
  have hP : va_P E.1 vwCl ([(h0, .inr (0, [.ref q6_1, .int 0, .int 0])), (q6_1, .inl (E.2.1 3, 4, .inr (.inr (.inr (.inr (va_up (fun _ => none) (0 : Int32).toNatClampNeg (some (b3 0))))))))] ++ xm_w (b3, xc_S E b3 0, 17) (fun o => xm_0 (18 + o))) H := hP
  have hD : va_D A ([(h0, .inr (0, [.ref q6_1, .int 0, .int 0])), (q6_1, .inl (E.2.1 3, 4, .inr (.inr (.inr (.inr (va_up (fun _ => none) (0 : Int32).toNatClampNeg (some (b3 0))))))))] ++ xm_w (b3, xc_S E b3 0, 17) (fun o => xm_0 (18 + o))) := hD
  refine lv_iinc (v := 1) (lv' := [(1, .int 1), (0, .ref h0)]) hx hb dX0_init_42 hl (k := 0) rfl (by decide) (by decide) rfl (fun ls hl => ?_)
  refine lv_goto (tgt := 24) hx hb dX0_init_45 (by decide) ?_
  refine lv_iload_n hx hb dX0_init_24 rfl (lv_at hl 0 rfl) ?_
  refine lv_iconst (v := 4) hx hb dX0_init_25 (by decide) ?_
  refine lv_icmp_ge (tgt := 48) hx hb dX0_init_26 (by decide) (fun c => absurd c (by decide)) (fun _ => ?_)
  refine lv_aload_n hx hb dX0_init_29 rfl (lv_at hl 1 rfl) ?_
  refine va_get (D := E.1) (ci := 0) (v := .ref q6_1) (C := RX0) (T := TX0) (N := 3) hx hb hts xi_0 hown hK.1 hP 0 rfl rfl 0 (by decide) (hts _ l_X0_11) (fun _ h9 => h9) rfl dX0_init_30 ?_
  refine lv_iload_n hx hb dX0_init_33 rfl (lv_at hl 0 rfl) ?_
  refine va_new (ci := 4) (fs := [.int 0, .null, .null, .null, .int 0, .int 0, .int 0, .null]) (C := RX4) (T := TX4) (N := 8) hx hb hts xi_4 tyX4 tyX4_ok hown (hts _ cl_X0_9) (hts _ ib_X4.1) (hts _ ib_X4.2) hK.1 hP hD hS hA rfl (by decide +kernel) (Nat.le_of_ble_eq_true rfl) (Nat.le_of_ble_eq_true rfl) dX0_init_34 (fun q34_4 H hP hD hS => ?_)
  refine lv_dup hx hb dX0_init_37 rfl ?_
  refine xn_callIN (q := q34_4) (rest := [.ref q34_4, .int 1, .ref q6_1]) hx hb hml hown hts hK hP hD hS hA (c_X4_init l E) ki_X0_24 rfl ⟨(Nat.le_of_ble_eq_true rfl), (Nat.le_of_ble_eq_true rfl)⟩ hl.1 (Nat.le_of_ble_eq_true rfl) ⟨(Nat.le_of_ble_eq_true rfl), (Nat.le_of_ble_eq_true rfl)⟩ dX0_init_38 (fun w1 H locs hw hP hD hS => ?_)
  obtain ⟨b5, rfl, rfl⟩ := hw
  have hP : va_P E.1 vwCl ([(h0, .inr (0, [.ref q6_1, .int 0, .int 0])), (q6_1, .inl (E.2.1 3, 4, .inr (.inr (.inr (.inr (va_up (fun _ => none) (0 : Int32).toNatClampNeg (some (b3 0))))))))] ++ xm_w (b3, xc_S E b3 0, 17) (fun o => xm_0 (18 + o)) ++ xm_w (b5, xc_S E b5 0, 17) (fun o => xm_0 (18 + o))) H := hP
  have hD : va_D A ([(h0, .inr (0, [.ref q6_1, .int 0, .int 0])), (q6_1, .inl (E.2.1 3, 4, .inr (.inr (.inr (.inr (va_up (fun _ => none) (0 : Int32).toNatClampNeg (some (b3 0))))))))] ++ xm_w (b3, xc_S E b3 0, 17) (fun o => xm_0 (18 + o)) ++ xm_w (b5, xc_S E b5 0, 17) (fun o => xm_0 (18 + o))) := hD
  refine va_astq hx hb hK.1 hP hD hS 1 3 19 4 (r := (RX4, TX4, 8)) rfl rfl rfl rfl (xm_in_s (by decide)) dX0_init_41 (fun H locs hP hD hS => ?_)
  have hP : va_P E.1 vwCl ([(h0, .inr (0, [.ref q6_1, .int 0, .int 0])), (q6_1, .inl (E.2.1 3, 4, .inr (.inr (.inr (.inr (va_up (va_up (fun _ => none) (0 : Int32).toNatClampNeg (some (b3 0))) (1 : Int32).toNatClampNeg (some (b5 0))))))))] ++ xm_w (b3, xc_S E b3 0, 17) (fun o => xm_0 (18 + o)) ++ xm_w (b5, xc_S E b5 0, 17) (fun o => xm_0 (18 + o))) H := hP
  have hD : va_D A ([(h0, .inr (0, [.ref q6_1, .int 0, .int 0])), (q6_1, .inl (E.2.1 3, 4, .inr (.inr (.inr (.inr (va_up (va_up (fun _ => none) (0 : Int32).toNatClampNeg (some (b3 0))) (1 : Int32).toNatClampNeg (some (b5 0))))))))] ++ xm_w (b3, xc_S E b3 0, 17) (fun o => xm_0 (18 + o)) ++ xm_w (b5, xc_S E b5 0, 17) (fun o => xm_0 (18 + o))) := hD
  refine lv_iinc (v := 2) (lv' := [(1, .int 2), (0, .ref h0)]) hx hb dX0_init_42 hl (k := 0) rfl (by decide) (by decide) rfl (fun ls hl => ?_)
  refine lv_goto (tgt := 24) hx hb dX0_init_45 (by decide) ?_
  refine lv_iload_n hx hb dX0_init_24 rfl (lv_at hl 0 rfl) ?_
  refine lv_iconst (v := 4) hx hb dX0_init_25 (by decide) ?_
  refine lv_icmp_ge (tgt := 48) hx hb dX0_init_26 (by decide) (fun c => absurd c (by decide)) (fun _ => ?_)
  refine lv_aload_n hx hb dX0_init_29 rfl (lv_at hl 1 rfl) ?_
  refine va_get (D := E.1) (ci := 0) (v := .ref q6_1) (C := RX0) (T := TX0) (N := 3) hx hb hts xi_0 hown hK.1 hP 0 rfl rfl 0 (by decide) (hts _ l_X0_11) (fun _ h9 => h9) rfl dX0_init_30 ?_
  refine lv_iload_n hx hb dX0_init_33 rfl (lv_at hl 0 rfl) ?_
  refine va_new (ci := 4) (fs := [.int 0, .null, .null, .null, .int 0, .int 0, .int 0, .null]) (C := RX4) (T := TX4) (N := 8) hx hb hts xi_4 tyX4 tyX4_ok hown (hts _ cl_X0_9) (hts _ ib_X4.1) (hts _ ib_X4.2) hK.1 hP hD hS hA rfl (by decide +kernel) (Nat.le_of_ble_eq_true rfl) (Nat.le_of_ble_eq_true rfl) dX0_init_34 (fun q34_6 H hP hD hS => ?_)
  refine lv_dup hx hb dX0_init_37 rfl ?_
  refine xn_callIN (q := q34_6) (rest := [.ref q34_6, .int 2, .ref q6_1]) hx hb hml hown hts hK hP hD hS hA (c_X4_init l E) ki_X0_24 rfl ⟨(Nat.le_of_ble_eq_true rfl), (Nat.le_of_ble_eq_true rfl)⟩ hl.1 (Nat.le_of_ble_eq_true rfl) ⟨(Nat.le_of_ble_eq_true rfl), (Nat.le_of_ble_eq_true rfl)⟩ dX0_init_38 (fun w1 H locs hw hP hD hS => ?_)
  obtain ⟨b7, rfl, rfl⟩ := hw
  have hP : va_P E.1 vwCl ([(h0, .inr (0, [.ref q6_1, .int 0, .int 0])), (q6_1, .inl (E.2.1 3, 4, .inr (.inr (.inr (.inr (va_up (va_up (fun _ => none) (0 : Int32).toNatClampNeg (some (b3 0))) (1 : Int32).toNatClampNeg (some (b5 0))))))))] ++ xm_w (b3, xc_S E b3 0, 17) (fun o => xm_0 (18 + o)) ++ xm_w (b5, xc_S E b5 0, 17) (fun o => xm_0 (18 + o)) ++ xm_w (b7, xc_S E b7 0, 17) (fun o => xm_0 (18 + o))) H := hP
  have hD : va_D A ([(h0, .inr (0, [.ref q6_1, .int 0, .int 0])), (q6_1, .inl (E.2.1 3, 4, .inr (.inr (.inr (.inr (va_up (va_up (fun _ => none) (0 : Int32).toNatClampNeg (some (b3 0))) (1 : Int32).toNatClampNeg (some (b5 0))))))))] ++ xm_w (b3, xc_S E b3 0, 17) (fun o => xm_0 (18 + o)) ++ xm_w (b5, xc_S E b5 0, 17) (fun o => xm_0 (18 + o)) ++ xm_w (b7, xc_S E b7 0, 17) (fun o => xm_0 (18 + o))) := hD
  refine va_astq hx hb hK.1 hP hD hS 1 3 36 4 (r := (RX4, TX4, 8)) rfl rfl rfl rfl (xm_in_s (by decide)) dX0_init_41 (fun H locs hP hD hS => ?_)
  have hP : va_P E.1 vwCl ([(h0, .inr (0, [.ref q6_1, .int 0, .int 0])), (q6_1, .inl (E.2.1 3, 4, .inr (.inr (.inr (.inr (va_up (va_up (va_up (fun _ => none) (0 : Int32).toNatClampNeg (some (b3 0))) (1 : Int32).toNatClampNeg (some (b5 0))) (2 : Int32).toNatClampNeg (some (b7 0))))))))] ++ xm_w (b3, xc_S E b3 0, 17) (fun o => xm_0 (18 + o)) ++ xm_w (b5, xc_S E b5 0, 17) (fun o => xm_0 (18 + o)) ++ xm_w (b7, xc_S E b7 0, 17) (fun o => xm_0 (18 + o))) H := hP
  have hD : va_D A ([(h0, .inr (0, [.ref q6_1, .int 0, .int 0])), (q6_1, .inl (E.2.1 3, 4, .inr (.inr (.inr (.inr (va_up (va_up (va_up (fun _ => none) (0 : Int32).toNatClampNeg (some (b3 0))) (1 : Int32).toNatClampNeg (some (b5 0))) (2 : Int32).toNatClampNeg (some (b7 0))))))))] ++ xm_w (b3, xc_S E b3 0, 17) (fun o => xm_0 (18 + o)) ++ xm_w (b5, xc_S E b5 0, 17) (fun o => xm_0 (18 + o)) ++ xm_w (b7, xc_S E b7 0, 17) (fun o => xm_0 (18 + o))) := hD
  refine lv_iinc (v := 3) (lv' := [(1, .int 3), (0, .ref h0)]) hx hb dX0_init_42 hl (k := 0) rfl (by decide) (by decide) rfl (fun ls hl => ?_)
  refine lv_goto (tgt := 24) hx hb dX0_init_45 (by decide) ?_
  refine lv_iload_n hx hb dX0_init_24 rfl (lv_at hl 0 rfl) ?_
  refine lv_iconst (v := 4) hx hb dX0_init_25 (by decide) ?_
  refine lv_icmp_ge (tgt := 48) hx hb dX0_init_26 (by decide) (fun c => absurd c (by decide)) (fun _ => ?_)
  refine lv_aload_n hx hb dX0_init_29 rfl (lv_at hl 1 rfl) ?_
  refine va_get (D := E.1) (ci := 0) (v := .ref q6_1) (C := RX0) (T := TX0) (N := 3) hx hb hts xi_0 hown hK.1 hP 0 rfl rfl 0 (by decide) (hts _ l_X0_11) (fun _ h9 => h9) rfl dX0_init_30 ?_
  refine lv_iload_n hx hb dX0_init_33 rfl (lv_at hl 0 rfl) ?_
  refine va_new (ci := 4) (fs := [.int 0, .null, .null, .null, .int 0, .int 0, .int 0, .null]) (C := RX4) (T := TX4) (N := 8) hx hb hts xi_4 tyX4 tyX4_ok hown (hts _ cl_X0_9) (hts _ ib_X4.1) (hts _ ib_X4.2) hK.1 hP hD hS hA rfl (by decide +kernel) (Nat.le_of_ble_eq_true rfl) (Nat.le_of_ble_eq_true rfl) dX0_init_34 (fun q34_8 H hP hD hS => ?_)
  refine lv_dup hx hb dX0_init_37 rfl ?_
  refine xn_callIN (q := q34_8) (rest := [.ref q34_8, .int 3, .ref q6_1]) hx hb hml hown hts hK hP hD hS hA (c_X4_init l E) ki_X0_24 rfl ⟨(Nat.le_of_ble_eq_true rfl), (Nat.le_of_ble_eq_true rfl)⟩ hl.1 (Nat.le_of_ble_eq_true rfl) ⟨(Nat.le_of_ble_eq_true rfl), (Nat.le_of_ble_eq_true rfl)⟩ dX0_init_38 (fun w1 H locs hw hP hD hS => ?_)
  obtain ⟨b9, rfl, rfl⟩ := hw
  have hP : va_P E.1 vwCl ([(h0, .inr (0, [.ref q6_1, .int 0, .int 0])), (q6_1, .inl (E.2.1 3, 4, .inr (.inr (.inr (.inr (va_up (va_up (va_up (fun _ => none) (0 : Int32).toNatClampNeg (some (b3 0))) (1 : Int32).toNatClampNeg (some (b5 0))) (2 : Int32).toNatClampNeg (some (b7 0))))))))] ++ xm_w (b3, xc_S E b3 0, 17) (fun o => xm_0 (18 + o)) ++ xm_w (b5, xc_S E b5 0, 17) (fun o => xm_0 (18 + o)) ++ xm_w (b7, xc_S E b7 0, 17) (fun o => xm_0 (18 + o)) ++ xm_w (b9, xc_S E b9 0, 17) (fun o => xm_0 (18 + o))) H := hP
  have hD : va_D A ([(h0, .inr (0, [.ref q6_1, .int 0, .int 0])), (q6_1, .inl (E.2.1 3, 4, .inr (.inr (.inr (.inr (va_up (va_up (va_up (fun _ => none) (0 : Int32).toNatClampNeg (some (b3 0))) (1 : Int32).toNatClampNeg (some (b5 0))) (2 : Int32).toNatClampNeg (some (b7 0))))))))] ++ xm_w (b3, xc_S E b3 0, 17) (fun o => xm_0 (18 + o)) ++ xm_w (b5, xc_S E b5 0, 17) (fun o => xm_0 (18 + o)) ++ xm_w (b7, xc_S E b7 0, 17) (fun o => xm_0 (18 + o)) ++ xm_w (b9, xc_S E b9 0, 17) (fun o => xm_0 (18 + o))) := hD
  refine va_astq hx hb hK.1 hP hD hS 1 3 53 4 (r := (RX4, TX4, 8)) rfl rfl rfl rfl (xm_in_s (by decide)) dX0_init_41 (fun H locs hP hD hS => ?_)
  have hP : va_P E.1 vwCl ([(h0, .inr (0, [.ref q6_1, .int 0, .int 0])), (q6_1, .inl (E.2.1 3, 4, .inr (.inr (.inr (.inr (va_up (va_up (va_up (va_up (fun _ => none) (0 : Int32).toNatClampNeg (some (b3 0))) (1 : Int32).toNatClampNeg (some (b5 0))) (2 : Int32).toNatClampNeg (some (b7 0))) (3 : Int32).toNatClampNeg (some (b9 0))))))))] ++ xm_w (b3, xc_S E b3 0, 17) (fun o => xm_0 (18 + o)) ++ xm_w (b5, xc_S E b5 0, 17) (fun o => xm_0 (18 + o)) ++ xm_w (b7, xc_S E b7 0, 17) (fun o => xm_0 (18 + o)) ++ xm_w (b9, xc_S E b9 0, 17) (fun o => xm_0 (18 + o))) H := hP
  have hD : va_D A ([(h0, .inr (0, [.ref q6_1, .int 0, .int 0])), (q6_1, .inl (E.2.1 3, 4, .inr (.inr (.inr (.inr (va_up (va_up (va_up (va_up (fun _ => none) (0 : Int32).toNatClampNeg (some (b3 0))) (1 : Int32).toNatClampNeg (some (b5 0))) (2 : Int32).toNatClampNeg (some (b7 0))) (3 : Int32).toNatClampNeg (some (b9 0))))))))] ++ xm_w (b3, xc_S E b3 0, 17) (fun o => xm_0 (18 + o)) ++ xm_w (b5, xc_S E b5 0, 17) (fun o => xm_0 (18 + o)) ++ xm_w (b7, xc_S E b7 0, 17) (fun o => xm_0 (18 + o)) ++ xm_w (b9, xc_S E b9 0, 17) (fun o => xm_0 (18 + o))) := hD
  refine lv_iinc (v := 4) (lv' := [(1, .int 4), (0, .ref h0)]) hx hb dX0_init_42 hl (k := 0) rfl (by decide) (by decide) rfl (fun ls hl => ?_)
  refine lv_goto (tgt := 24) hx hb dX0_init_45 (by decide) ?_
  refine lv_iload_n hx hb dX0_init_24 rfl (lv_at hl 0 rfl) ?_
  refine lv_iconst (v := 4) hx hb dX0_init_25 (by decide) ?_
  refine lv_icmp_ge (tgt := 48) hx hb dX0_init_26 (by decide) (fun _ => ?_) (fun c => absurd (by decide) c)
  obtain ⟨bb, hbb⟩ : ∃ bb : Nat → Nat, bb = fun k => if k < 1 then h0 else if k < 2 then q6_1 else if k < 19 then b3 (k - 2) else if k < 36 then b5 (k - 19) else if k < 53 then b7 (k - 36) else b9 (k - 53) := ⟨_, rfl⟩
  have hP := xn_eqv hP (k := 1) (fun j => [some (bb 2), some (bb 19), some (bb 36), some (bb 53)].getD j none) rfl (xn_j4 (by rw [hbb]; rfl) (by rw [hbb]; rfl) (by rw [hbb]; rfl) (by rw [hbb]; rfl))
  have hD := hD.set (p := 1) (e := .inl (E.2.1 3, 4, .inr (.inr (.inr (.inr (fun j => [some (bb 2), some (bb 19), some (bb 36), some (bb 53)].getD j none)))))) rfl
  subst A9
  exact xn_ret C hP hD hS (w := xm_w (bb, xn_hs E bb, 70) (fun o => if o < 2 then xm_0 (4 + o) else xm_0 (50 + o))) (by subst hbb; rfl) ⟨bb, by rw [hbb]; rfl, rfl⟩ dX0_init_48 rfl rfl
set_option maxHeartbeats 8000000 in
set_option maxRecDepth 100000 in
theorem c_X5_init (l : Launch) (E : xm_E) : xn_Met l E yX5_init cX5_init 1 1 1 80 12 (.inr (5, [.null, .int 0, .int 0])) (xn_SW E) := by
  refine xn_met (by decide +kernel) rfl rfl (Nat.le_of_ble_eq_true rfl) (fun h0 p e s m below meth c C hP ls hl => ?_)
  have C9 := C
  obtain ⟨hx, hb, hml, hown, hts, hr, hlk, hK, hin⟩ := C9
  obtain ⟨A, A9⟩ : ∃ A : Nat → Prop, va_A [(h0, .inr (5, [.null, .int 0, .int 0]))] s.heap.size = A := ⟨_, rfl⟩
  have hD : va_D A [(h0, .inr (5, [.null, .int 0, .int 0]))] := by
    rw [← A9]
    exact ⟨fun i j p q hi hj _ => by have h1 := (List.getElem?_eq_some_iff.mp hi).1; have h2 := (List.getElem?_eq_some_iff.mp hj).1; simp at h1 h2; omega, fun k q hk => va_A.in hk⟩
  have hA : ∀ q : Nat, s.heap.size ≤ q → A q := fun q h => by rw [← A9]; exact Or.inr h
  have hS : va_S A s.heap s.heap [] := va_S.rf
  refine lv_aload_n hx hb dX5_init_0 rfl (lv_at hl 0 rfl) ?_
  refine W.objInit hx hb hown (hts _ ob_X5_3.1) (hts _ ob_X5_3.2.1) (hts _ ob_X5_3.2.2) rfl (by rw [hml]; exact hl.1) rfl dX5_init_1 (Nat.le_of_ble_eq_true rfl) (Nat.le_of_ble_eq_true rfl) ?_
  refine W.eq (g2 := F0 m 4 ls []) rfl ?_
  refine lv_aload_n hx hb dX5_init_4 rfl (lv_at hl 0 rfl) ?_
  refine lv_bipush (v := 80) hx hb dX5_init_5 (by decide) ?_
  refine xn_newa hx hb hts hK (atype := .char) (ty := .char) ac_char rfl 1 rfl (fun cA h1 h2 => xn_ra (fun _ h => by cases h) h1 h2) hP hD hS hA (N' := 80) (a0 := (80, .inl (fun _ => 0))) (fun _ => rfl) (by decide) (by decide) (Nat.le_of_ble_eq_true rfl) (Nat.le_of_ble_eq_true rfl) (Nat.le_of_ble_eq_true rfl) dX5_init_7 (fun q7_1 H hP hD hS => ?_)
  have hP : va_P E.1 vwCl ([(h0, .inr (5, [.null, .int 0, .int 0])), (q7_1, .inl (E.2.1 1, 80, .inl (fun _ => 0)))]) H := hP
  have hD : va_D A ([(h0, .inr (5, [.null, .int 0, .int 0])), (q7_1, .inl (E.2.1 1, 80, .inl (fun _ => 0)))]) := hD
  refine va_putF (D := E.1) (ci := 5) (v := .ref q7_1) (ty := (tyX5 0)) (C := RX5) (T := TX5) (N := 3) hx hb hts xi_5 tyX5 tyX5_ok nmX5 hown hK.1 hP hD hS 0 rfl rfl 0 (by decide) (hts _ l_X5_9) (fun _ h9 => h9) rfl hin rfl (by decide +kernel) rfl rfl (Nat.le_of_ble_eq_true rfl) dX5_init_9 (fun H locs hP hD hS => ?_)
  have hP : va_P E.1 vwCl ([(h0, .inr (5, [.ref q7_1, .int 0, .int 0])), (q7_1, .inl (E.2.1 1, 80, .inl (fun _ => 0)))]) H := hP
  have hD : va_D A ([(h0, .inr (5, [.ref q7_1, .int 0, .int 0])), (q7_1, .inl (E.2.1 1, 80, .inl (fun _ => 0)))]) := hD
  refine lv_aload_n hx hb dX5_init_12 rfl (lv_at hl 0 rfl) ?_
  refine lv_iconst (v := 0) hx hb dX5_init_13 (by decide) ?_
  refine va_put (D := E.1) (ci := 5) (v := .int 0) (ty := (tyX5 1)) (C := RX5) (T := TX5) (N := 3) hx hb hts xi_5 tyX5 tyX5_ok nmX5 hown hK.1 hP hD hS 0 rfl rfl 1 (by decide) (hts _ l_X5_15) (fun _ h9 => h9) rfl (by decide +kernel) rfl rfl (Nat.le_of_ble_eq_true rfl) dX5_init_14 (fun H locs hP hD hS => ?_)
  have hP : va_P E.1 vwCl ([(h0, .inr (5, [.ref q7_1, .int 0, .int 0])), (q7_1, .inl (E.2.1 1, 80, .inl (fun _ => 0)))]) H := hP
  have hD : va_D A ([(h0, .inr (5, [.ref q7_1, .int 0, .int 0])), (q7_1, .inl (E.2.1 1, 80, .inl (fun _ => 0)))]) := hD
  refine lv_aload_n hx hb dX5_init_17 rfl (lv_at hl 0 rfl) ?_
  refine lv_iconst (v := 0) hx hb dX5_init_18 (by decide) ?_
  refine va_put (D := E.1) (ci := 5) (v := .int 0) (ty := (tyX5 2)) (C := RX5) (T := TX5) (N := 3) hx hb hts xi_5 tyX5 tyX5_ok nmX5 hown hK.1 hP hD hS 0 rfl rfl 2 (by decide) (hts _ l_X5_19) (fun _ h9 => h9) rfl (by decide +kernel) rfl rfl (Nat.le_of_ble_eq_true rfl) dX5_init_19 (fun H locs hP hD hS => ?_)
  have hP : va_P E.1 vwCl ([(h0, .inr (5, [.ref q7_1, .int 0, .int 0])), (q7_1, .inl (E.2.1 1, 80, .inl (fun _ => 0)))]) H := hP
  have hD : va_D A ([(h0, .inr (5, [.ref q7_1, .int 0, .int 0])), (q7_1, .inl (E.2.1 1, 80, .inl (fun _ => 0)))]) := hD
  obtain ⟨bb, hbb⟩ : ∃ bb : Nat → Nat, bb = fun k => if k < 1 then h0 else q7_1 := ⟨_, rfl⟩
  subst A9
  exact xn_ret C hP hD hS (w := xm_w (bb, xn_ws E bb, 2) (fun o => xm_0 (6 + o))) (by subst hbb; rfl) ⟨bb, by rw [hbb]; rfl, rfl⟩ dX5_init_22 rfl rfl
set_option maxHeartbeats 8000000 in
set_option maxRecDepth 100000 in
theorem c_X1_init (l : Launch) (E : xm_E) : xn_Met l E yX1_init cX1_init 1 1 4 100 12 (.inr (1, [.int 0, .null, .null, .null, .null])) (xn_SL E) := by
  refine xn_met (by decide +kernel) rfl rfl (Nat.le_of_ble_eq_true rfl) (fun h0 p e s m below meth c C hP ls hl => ?_)
  have C9 := C
  obtain ⟨hx, hb, hml, hown, hts, hr, hlk, hK, hin⟩ := C9
  obtain ⟨A, A9⟩ : ∃ A : Nat → Prop, va_A [(h0, .inr (1, [.int 0, .null, .null, .null, .null]))] s.heap.size = A := ⟨_, rfl⟩
  have hD : va_D A [(h0, .inr (1, [.int 0, .null, .null, .null, .null]))] := by
    rw [← A9]
    exact ⟨fun i j p q hi hj _ => by have h1 := (List.getElem?_eq_some_iff.mp hi).1; have h2 := (List.getElem?_eq_some_iff.mp hj).1; simp at h1 h2; omega, fun k q hk => va_A.in hk⟩
  have hA : ∀ q : Nat, s.heap.size ≤ q → A q := fun q h => by rw [← A9]; exact Or.inr h
  have hS : va_S A s.heap s.heap [] := va_S.rf
  refine lv_aload_n hx hb dX1_init_0 rfl (lv_at hl 0 rfl) ?_
  refine W.objInit hx hb hown (hts _ ob_X1_3.1) (hts _ ob_X1_3.2.1) (hts _ ob_X1_3.2.2) rfl (by rw [hml]; exact hl.1) rfl dX1_init_1 (Nat.le_of_ble_eq_true rfl) (Nat.le_of_ble_eq_true rfl) ?_
  refine W.eq (g2 := F0 m 4 ls []) rfl ?_
  refine lv_aload_n hx hb dX1_init_4 rfl (lv_at hl 0 rfl) ?_
  refine lv_iconst (v := 0) hx hb dX1_init_5 (by decide) ?_
  refine va_put (D := E.1) (ci := 1) (v := .int 0) (ty := (tyX1 0)) (C := RX1) (T := TX1) (N := 5) hx hb hts xi_1 tyX1 tyX1_ok nmX1 hown hK.1 hP hD hS 0 rfl rfl 0 (by decide) (hts _ l_X1_9) (fun _ h9 => h9) rfl (by decide +kernel) rfl rfl (Nat.le_of_ble_eq_true rfl) dX1_init_6 (fun H locs hP hD hS => ?_)
  have hP : va_P E.1 vwCl ([(h0, .inr (1, [.int 0, .null, .null, .null, .null]))]) H := hP
  have hD : va_D A ([(h0, .inr (1, [.int 0, .null, .null, .null, .null]))]) := hD
  refine lv_aload_n hx hb dX1_init_9 rfl (lv_at hl 0 rfl) ?_
  refine lv_bipush (v := 25) hx hb dX1_init_10 (by decide) ?_
  refine xn_newa hx hb hts hK (atype := .int) (ty := .int) ac_int rfl 0 rfl (fun cA h1 h2 => xn_ra (fun _ h => by cases h) h1 h2) hP hD hS hA (N' := 25) (a0 := (25, .inl (fun _ => 0))) (fun _ => rfl) (by decide) (by decide) (Nat.le_of_ble_eq_true rfl) (Nat.le_of_ble_eq_true rfl) (Nat.le_of_ble_eq_true rfl) dX1_init_12 (fun q12_1 H hP hD hS => ?_)
  have hP : va_P E.1 vwCl ([(h0, .inr (1, [.int 0, .null, .null, .null, .null])), (q12_1, .inl (E.2.1 0, 25, .inl (fun _ => 0)))]) H := hP
  have hD : va_D A ([(h0, .inr (1, [.int 0, .null, .null, .null, .null])), (q12_1, .inl (E.2.1 0, 25, .inl (fun _ => 0)))]) := hD
  refine va_putF (D := E.1) (ci := 1) (v := .ref q12_1) (ty := (tyX1 1)) (C := RX1) (T := TX1) (N := 5) hx hb hts xi_1 tyX1 tyX1_ok nmX1 hown hK.1 hP hD hS 0 rfl rfl 1 (by decide) (hts _ l_X1_15) (fun _ h9 => h9) rfl hin rfl (by decide +kernel) rfl rfl (Nat.le_of_ble_eq_true rfl) dX1_init_14 (fun H locs hP hD hS => ?_)
  have hP : va_P E.1 vwCl ([(h0, .inr (1, [.int 0, .ref q12_1, .null, .null, .null])), (q12_1, .inl (E.2.1 0, 25, .inl (fun _ => 0)))]) H := hP
  have hD : va_D A ([(h0, .inr (1, [.int 0, .ref q12_1, .null, .null, .null])), (q12_1, .inl (E.2.1 0, 25, .inl (fun _ => 0)))]) := hD
  refine lv_aload_n hx hb dX1_init_17 rfl (lv_at hl 0 rfl) ?_
  refine lv_bipush (v := 25) hx hb dX1_init_18 (by decide) ?_
  refine xn_newa hx hb hts hK (atype := .char) (ty := .char) ac_char rfl 1 rfl (fun cA h1 h2 => xn_ra (fun _ h => by cases h) h1 h2) hP hD hS hA (N' := 25) (a0 := (25, .inl (fun _ => 0))) (fun _ => rfl) (by decide) (by decide) (Nat.le_of_ble_eq_true rfl) (Nat.le_of_ble_eq_true rfl) (Nat.le_of_ble_eq_true rfl) dX1_init_20 (fun q20_2 H hP hD hS => ?_)
  have hP : va_P E.1 vwCl ([(h0, .inr (1, [.int 0, .ref q12_1, .null, .null, .null])), (q12_1, .inl (E.2.1 0, 25, .inl (fun _ => 0))), (q20_2, .inl (E.2.1 1, 25, .inl (fun _ => 0)))]) H := hP
  have hD : va_D A ([(h0, .inr (1, [.int 0, .ref q12_1, .null, .null, .null])), (q12_1, .inl (E.2.1 0, 25, .inl (fun _ => 0))), (q20_2, .inl (E.2.1 1, 25, .inl (fun _ => 0)))]) := hD
  refine va_putF (D := E.1) (ci := 1) (v := .ref q20_2) (ty := (tyX1 2)) (C := RX1) (T := TX1) (N := 5) hx hb hts xi_1 tyX1 tyX1_ok nmX1 hown hK.1 hP hD hS 0 rfl rfl 2 (by decide) (hts _ l_X1_19) (fun _ h9 => h9) rfl hin rfl (by decide +kernel) rfl rfl (Nat.le_of_ble_eq_true rfl) dX1_init_22 (fun H locs hP hD hS => ?_)
  have hP : va_P E.1 vwCl ([(h0, .inr (1, [.int 0, .ref q12_1, .ref q20_2, .null, .null])), (q12_1, .inl (E.2.1 0, 25, .inl (fun _ => 0))), (q20_2, .inl (E.2.1 1, 25, .inl (fun _ => 0)))]) H := hP
  have hD : va_D A ([(h0, .inr (1, [.int 0, .ref q12_1, .ref q20_2, .null, .null])), (q12_1, .inl (E.2.1 0, 25, .inl (fun _ => 0))), (q20_2, .inl (E.2.1 1, 25, .inl (fun _ => 0)))]) := hD
  refine lv_aload_n hx hb dX1_init_25 rfl (lv_at hl 0 rfl) ?_
  refine lv_bipush (v := 25) hx hb dX1_init_26 (by decide) ?_
  refine xn_newa hx hb hts hK (atype := .int) (ty := .int) ac_int rfl 0 rfl (fun cA h1 h2 => xn_ra (fun _ h => by cases h) h1 h2) hP hD hS hA (N' := 25) (a0 := (25, .inl (fun _ => 0))) (fun _ => rfl) (by decide) (by decide) (Nat.le_of_ble_eq_true rfl) (Nat.le_of_ble_eq_true rfl) (Nat.le_of_ble_eq_true rfl) dX1_init_28 (fun q28_3 H hP hD hS => ?_)
  have hP : va_P E.1 vwCl ([(h0, .inr (1, [.int 0, .ref q12_1, .ref q20_2, .null, .null])), (q12_1, .inl (E.2.1 0, 25, .inl (fun _ => 0))), (q20_2, .inl (E.2.1 1, 25, .inl (fun _ => 0))), (q28_3, .inl (E.2.1 0, 25, .inl (fun _ => 0)))]) H := hP
  have hD : va_D A ([(h0, .inr (1, [.int 0, .ref q12_1, .ref q20_2, .null, .null])), (q12_1, .inl (E.2.1 0, 25, .inl (fun _ => 0))), (q20_2, .inl (E.2.1 1, 25, .inl (fun _ => 0))), (q28_3, .inl (E.2.1 0, 25, .inl (fun _ => 0)))]) := hD
  refine va_putF (D := E.1) (ci := 1) (v := .ref q28_3) (ty := (tyX1 3)) (C := RX1) (T := TX1) (N := 5) hx hb hts xi_1 tyX1 tyX1_ok nmX1 hown hK.1 hP hD hS 0 rfl rfl 3 (by decide) (hts _ l_X1_23) (fun _ h9 => h9) rfl hin rfl (by decide +kernel) rfl rfl (Nat.le_of_ble_eq_true rfl) dX1_init_30 (fun H locs hP hD hS => ?_)
  have hP : va_P E.1 vwCl ([(h0, .inr (1, [.int 0, .ref q12_1, .ref q20_2, .ref q28_3, .null])), (q12_1, .inl (E.2.1 0, 25, .inl (fun _ => 0))), (q20_2, .inl (E.2.1 1, 25, .inl (fun _ => 0))), (q28_3, .inl (E.2.1 0, 25, .inl (fun _ => 0)))]) H := hP
  have hD : va_D A ([(h0, .inr (1, [.int 0, .ref q12_1, .ref q20_2, .ref q28_3, .null])), (q12_1, .inl (E.2.1 0, 25, .inl (fun _ => 0))), (q20_2, .inl (E.2.1 1, 25, .inl (fun _ => 0))), (q28_3, .inl (E.2.1 0, 25, .inl (fun _ => 0)))]) := hD
  refine lv_aload_n hx hb dX1_init_33 rfl (lv_at hl 0 rfl) ?_
  refine lv_bipush (v := 25) hx hb dX1_init_34 (by decide) ?_
  refine xn_newa hx hb hts hK (atype := .int) (ty := .int) ac_int rfl 0 rfl (fun cA h1 h2 => xn_ra (fun _ h => by cases h) h1 h2) hP hD hS hA (N' := 25) (a0 := (25, .inl (fun _ => 0))) (fun _ => rfl) (by decide) (by decide) (Nat.le_of_ble_eq_true rfl) (Nat.le_of_ble_eq_true rfl) (Nat.le_of_ble_eq_true rfl) dX1_init_36 (fun q36_4 H hP hD hS => ?_)
  have hP : va_P E.1 vwCl ([(h0, .inr (1, [.int 0, .ref q12_1, .ref q20_2, .ref q28_3, .null])), (q12_1, .inl (E.2.1 0, 25, .inl (fun _ => 0))), (q20_2, .inl (E.2.1 1, 25, .inl (fun _ => 0))), (q28_3, .inl (E.2.1 0, 25, .inl (fun _ => 0))), (q36_4, .inl (E.2.1 0, 25, .inl (fun _ => 0)))]) H := hP
  have hD : va_D A ([(h0, .inr (1, [.int 0, .ref q12_1, .ref q20_2, .ref q28_3, .null])), (q12_1, .inl (E.2.1 0, 25, .inl (fun _ => 0))), (q20_2, .inl (E.2.1 1, 25, .inl (fun _ => 0))), (q28_3, .inl (E.2.1 0, 25, .inl (fun _ => 0))), (q36_4, .inl (E.2.1 0, 25, .inl (fun _ => 0)))]) := hD
  refine va_putF (D := E.1) (ci := 1) (v := .ref q36_4) (ty := (tyX1 4)) (C := RX1) (T := TX1) (N := 5) hx hb hts xi_1 tyX1 tyX1_ok nmX1 hown hK.1 hP hD hS 0 rfl rfl 4 (by decide) (hts _ l_X1_26) (fun _ h9 => h9) rfl hin rfl (by decide +kernel) rfl rfl (Nat.le_of_ble_eq_true rfl) dX1_init_38 (fun H locs hP hD hS => ?_)
  have hP : va_P E.1 vwCl ([(h0, .inr (1, [.int 0, .ref q12_1, .ref q20_2, .ref q28_3, .ref q36_4])), (q12_1, .inl (E.2.1 0, 25, .inl (fun _ => 0))), (q20_2, .inl (E.2.1 1, 25, .inl (fun _ => 0))), (q28_3, .inl (E.2.1 0, 25, .inl (fun _ => 0))), (q36_4, .inl (E.2.1 0, 25, .inl (fun _ => 0)))]) H := hP
  have hD : va_D A ([(h0, .inr (1, [.int 0, .ref q12_1, .ref q20_2, .ref q28_3, .ref q36_4])), (q12_1, .inl (E.2.1 0, 25, .inl (fun _ => 0))), (q20_2, .inl (E.2.1 1, 25, .inl (fun _ => 0))), (q28_3, .inl (E.2.1 0, 25, .inl (fun _ => 0))), (q36_4, .inl (E.2.1 0, 25, .inl (fun _ => 0)))]) := hD
  obtain ⟨bb, hbb⟩ : ∃ bb : Nat → Nat, bb = fun k => if k < 1 then h0 else if k < 2 then q12_1 else if k < 3 then q20_2 else if k < 4 then q28_3 else q36_4 := ⟨_, rfl⟩
  subst A9
  exact xn_ret C hP hD hS (w := xm_w (bb, xn_ls E bb, 5) (fun o => xm_0 (13 + o))) (by subst hbb; rfl) ⟨bb, by rw [hbb]; rfl, rfl⟩ dX1_init_41 rfl rfl
set_option maxHeartbeats 8000000 in
set_option maxRecDepth 100000 in
theorem c_X3_init (l : Launch) (E : xm_E) : xn_Met l E yX3_init cX3_init 1 2 9 142 32 (.inr (3, [.null, .int 0, .int 0, .int 0, .int 0, .int 0, .int 0, .int 0, .int 0, .null, .null, .null, .int 0, .int 0, .int 0, .null])) (xn_SE E) := by
  refine xn_met (by decide +kernel) rfl rfl (Nat.le_of_ble_eq_true rfl) (fun h0 p e s m below meth c C hP ls hl => ?_)
  have C9 := C
  obtain ⟨hx, hb, hml, hown, hts, hr, hlk, hK, hin⟩ := C9
  obtain ⟨A, A9⟩ : ∃ A : Nat → Prop, va_A [(h0, .inr (3, [.null, .int 0, .int 0, .int 0, .int 0, .int 0, .int 0, .int 0, .int 0, .null, .null, .null, .int 0, .int 0, .int 0, .null]))] s.heap.size = A := ⟨_, rfl⟩
  have hD : va_D A [(h0, .inr (3, [.null, .int 0, .int 0, .int 0, .int 0, .int 0, .int 0, .int 0, .int 0, .null, .null, .null, .int 0, .int 0, .int 0, .null]))] := by
    rw [← A9]
    exact ⟨fun i j p q hi hj _ => by have h1 := (List.getElem?_eq_some_iff.mp hi).1; have h2 := (List.getElem?_eq_some_iff.mp hj).1; simp at h1 h2; omega, fun k q hk => va_A.in hk⟩
  have hA : ∀ q : Nat, s.heap.size ≤ q → A q := fun q h => by rw [← A9]; exact Or.inr h
  have hS : va_S A s.heap s.heap [] := va_S.rf
  refine lv_aload_n hx hb dX3_init_0 rfl (lv_at hl 0 rfl) ?_
  refine W.objInit hx hb hown (hts _ ob_X3_3.1) (hts _ ob_X3_3.2.1) (hts _ ob_X3_3.2.2) rfl (by rw [hml]; exact hl.1) rfl dX3_init_1 (Nat.le_of_ble_eq_true rfl) (Nat.le_of_ble_eq_true rfl) ?_
  refine W.eq (g2 := F0 m 4 ls []) rfl ?_
  refine lv_aload_n hx hb dX3_init_4 rfl (lv_at hl 0 rfl) ?_
  refine va_new (ci := 1) (fs := [.int 0, .null, .null, .null, .null]) (C := RX1) (T := TX1) (N := 5) hx hb hts xi_1 tyX1 tyX1_ok hown (hts _ cl_X3_9) (hts _ ib_X1.1) (hts _ ib_X1.2) hK.1 hP hD hS hA rfl (by decide +kernel) (Nat.le_of_ble_eq_true rfl) (Nat.le_of_ble_eq_true rfl) dX3_init_5 (fun q5_1 H hP hD hS => ?_)
  refine lv_dup hx hb dX3_init_8 rfl ?_
  refine xn_callIN (q := q5_1) (rest := [.ref q5_1, .ref h0]) hx hb hml hown hts hK hP hD hS hA (c_X1_init l E) ki_X3_11 rfl ⟨(Nat.le_of_ble_eq_true rfl), (Nat.le_of_ble_eq_true rfl)⟩ hl.1 (Nat.le_of_ble_eq_true rfl) ⟨(Nat.le_of_ble_eq_true rfl), (Nat.le_of_ble_eq_true rfl)⟩ dX3_init_9 (fun w1 H locs hw hP hD hS => ?_)
  obtain ⟨b2, rfl, rfl⟩ := hw
  have hP : va_P E.1 vwCl ([(h0, .inr (3, [.null, .int 0, .int 0, .int 0, .int 0, .int 0, .int 0, .int 0, .int 0, .null, .null, .null, .int 0, .int 0, .int 0, .null]))] ++ xm_w (b2, xn_ls E b2, 5) (fun o => xm_0 (13 + o))) H := hP
  have hD : va_D A ([(h0, .inr (3, [.null, .int 0, .int 0, .int 0, .int 0, .int 0, .int 0, .int 0, .int 0, .null, .null, .null, .int 0, .int 0, .int 0, .null]))] ++ xm_w (b2, xn_ls E b2, 5) (fun o => xm_0 (13 + o))) := hD
  refine va_putF (D := E.1) (ci := 3) (v := .ref (b2 0)) (ty := (tyX3 0)) (C := RX3) (T := TX3) (N := 16) hx hb hts xi_3 tyX3 tyX3_ok nmX3 hown hK.1 hP hD hS 0 rfl rfl 0 (by decide) (hts _ l_X3_12) (fun _ h9 => h9) rfl hin rfl (by decide +kernel) rfl rfl (Nat.le_of_ble_eq_true rfl) dX3_init_12 (fun H locs hP hD hS => ?_)
  have hP : va_P E.1 vwCl ([(h0, .inr (3, [.ref (b2 0), .int 0, .int 0, .int 0, .int 0, .int 0, .int 0, .int 0, .int 0, .null, .null, .null, .int 0, .int 0, .int 0, .null]))] ++ xm_w (b2, xn_ls E b2, 5) (fun o => xm_0 (13 + o))) H := hP
  have hD : va_D A ([(h0, .inr (3, [.ref (b2 0), .int 0, .int 0, .int 0, .int 0, .int 0, .int 0, .int 0, .int 0, .null, .null, .null, .int 0, .int 0, .int 0, .null]))] ++ xm_w (b2, xn_ls E b2, 5) (fun o => xm_0 (13 + o))) := hD
  refine lv_aload_n hx hb dX3_init_15 rfl (lv_at hl 0 rfl) ?_
  refine lv_iconst (v := 0) hx hb dX3_init_16 (by decide) ?_
  refine va_put (D := E.1) (ci := 3) (v := .int 0) (ty := (tyX3 1)) (C := RX3) (T := TX3) (N := 16) hx hb hts xi_3 tyX3 tyX3_ok nmX3 hown hK.1 hP hD hS 0 rfl rfl 1 (by decide) (hts _ l_X3_18) (fun _ h9 => h9) rfl (by decide +kernel) rfl rfl (Nat.le_of_ble_eq_true rfl) dX3_init_17 (fun H locs hP hD hS => ?_)
  have hP : va_P E.1 vwCl ([(h0, .inr (3, [.ref (b2 0), .int 0, .int 0, .int 0, .int 0, .int 0, .int 0, .int 0, .int 0, .null, .null, .null, .int 0, .int 0, .int 0, .null]))] ++ xm_w (b2, xn_ls E b2, 5) (fun o => xm_0 (13 + o))) H := hP
  have hD : va_D A ([(h0, .inr (3, [.ref (b2 0), .int 0, .int 0, .int 0, .int 0, .int 0, .int 0, .int 0, .int 0, .null, .null, .null, .int 0, .int 0, .int 0, .null]))] ++ xm_w (b2, xn_ls E b2, 5) (fun o => xm_0 (13 + o))) := hD
  refine lv_aload_n hx hb dX3_init_20 rfl (lv_at hl 0 rfl) ?_
  refine lv_iconst (v := 0) hx hb dX3_init_21 (by decide) ?_
  refine va_put (D := E.1) (ci := 3) (v := .int 0) (ty := (tyX3 2)) (C := RX3) (T := TX3) (N := 16) hx hb hts xi_3 tyX3 tyX3_ok nmX3 hown hK.1 hP hD hS 0 rfl rfl 2 (by decide) (hts _ l_X3_22) (fun _ h9 => h9) rfl (by decide +kernel) rfl rfl (Nat.le_of_ble_eq_true rfl) dX3_init_22 (fun H locs hP hD hS => ?_)
  have hP : va_P E.1 vwCl ([(h0, .inr (3, [.ref (b2 0), .int 0, .int 0, .int 0, .int 0, .int 0, .int 0, .int 0, .int 0, .null, .null, .null, .int 0, .int 0, .int 0, .null]))] ++ xm_w (b2, xn_ls E b2, 5) (fun o => xm_0 (13 + o))) H := hP
  have hD : va_D A ([(h0, .inr (3, [.ref (b2 0), .int 0, .int 0, .int 0, .int 0, .int 0, .int 0, .int 0, .int 0, .null, .null, .null, .int 0, .int 0, .int 0, .null]))] ++ xm_w (b2, xn_ls E b2, 5) (fun o => xm_0 (13 + o))) := hD
  refine lv_aload_n hx hb dX3_init_25 rfl (lv_at hl 0 rfl) ?_
  refine lv_iconst (v := (-1)) hx hb dX3_init_26 (by decide) ?_
  refine va_put (D := E.1) (ci := 3) (v := .int (-1)) (ty := (tyX3 3)) (C := RX3) (T := TX3) (N := 16) hx hb hts xi_3 tyX3 tyX3_ok nmX3 hown hK.1 hP hD hS 0 rfl rfl 3 (by decide) (hts _ l_X3_25) (fun _ h9 => h9) rfl (by decide +kernel) rfl rfl (Nat.le_of_ble_eq_true rfl) dX3_init_27 (fun H locs hP hD hS => ?_)
  have hP : va_P E.1 vwCl ([(h0, .inr (3, [.ref (b2 0), .int 0, .int 0, .int (-1), .int 0, .int 0, .int 0, .int 0, .int 0, .null, .null, .null, .int 0, .int 0, .int 0, .null]))] ++ xm_w (b2, xn_ls E b2, 5) (fun o => xm_0 (13 + o))) H := hP
  have hD : va_D A ([(h0, .inr (3, [.ref (b2 0), .int 0, .int 0, .int (-1), .int 0, .int 0, .int 0, .int 0, .int 0, .null, .null, .null, .int 0, .int 0, .int 0, .null]))] ++ xm_w (b2, xn_ls E b2, 5) (fun o => xm_0 (13 + o))) := hD
  refine lv_aload_n hx hb dX3_init_30 rfl (lv_at hl 0 rfl) ?_
  refine lv_iconst (v := 0) hx hb dX3_init_31 (by decide) ?_
  refine va_put (D := E.1) (ci := 3) (v := .int 0) (ty := (tyX3 4)) (C := RX3) (T := TX3) (N := 16) hx hb hts xi_3 tyX3 tyX3_ok nmX3 hown hK.1 hP hD hS 0 rfl rfl 4 (by decide) (hts _ l_X3_28) (fun _ h9 => h9) rfl (by decide +kernel) rfl rfl (Nat.le_of_ble_eq_true rfl) dX3_init_32 (fun H locs hP hD hS => ?_)
  have hP : va_P E.1 vwCl ([(h0, .inr (3, [.ref (b2 0), .int 0, .int 0, .int (-1), .int 0, .int 0, .int 0, .int 0, .int 0, .null, .null, .null, .int 0, .int 0, .int 0, .null]))] ++ xm_w (b2, xn_ls E b2, 5) (fun o => xm_0 (13 + o))) H := hP
  have hD : va_D A ([(h0, .inr (3, [.ref (b2 0), .int 0, .int 0, .int (-1), .int 0, .int 0, .int 0, .int 0, .int 0, .null, .null, .null, .int 0, .int 0, .int 0, .null]))] ++ xm_w (b2, xn_ls E b2, 5) (fun o => xm_0 (13 + o))) := hD
  refine lv_aload_n hx hb dX3_init_35 rfl (lv_at hl 0 rfl) ?_
  refine lv_bipush (v := (-5)) hx hb dX3_init_36 (by decide) ?_
  refine va_put (D := E.1) (ci := 3) (v := .int (-5)) (ty := (tyX3 5)) (C := RX3) (T := TX3) (N := 16) hx hb hts xi_3 tyX3 tyX3_ok nmX3 hown hK.1 hP hD hS 0 rfl rfl 5 (by decide) (hts _ l_X3_31) (fun _ h9 => h9) rfl (by decide +kernel) rfl rfl (Nat.le_of_ble_eq_true rfl) dX3_init_38 (fun H locs hP hD hS => ?_)
  have hP : va_P E.1 vwCl ([(h0, .inr (3, [.ref (b2 0), .int 0, .int 0, .int (-1), .int 0, .int (-5), .int 0, .int 0, .int 0, .null, .null, .null, .int 0, .int 0, .int 0, .null]))] ++ xm_w (b2, xn_ls E b2, 5) (fun o => xm_0 (13 + o))) H := hP
  have hD : va_D A ([(h0, .inr (3, [.ref (b2 0), .int 0, .int 0, .int (-1), .int 0, .int (-5), .int 0, .int 0, .int 0, .null, .null, .null, .int 0, .int 0, .int 0, .null]))] ++ xm_w (b2, xn_ls E b2, 5) (fun o => xm_0 (13 + o))) := hD
  refine lv_aload_n hx hb dX3_init_41 rfl (lv_at hl 0 rfl) ?_
  refine lv_iconst (v := 0) hx hb dX3_init_42 (by decide) ?_
  refine va_put (D := E.1) (ci := 3) (v := .int 0) (ty := (tyX3 6)) (C := RX3) (T := TX3) (N := 16) hx hb hts xi_3 tyX3 tyX3_ok nmX3 hown hK.1 hP hD hS 0 rfl rfl 6 (by decide) (hts _ l_X3_34) (fun _ h9 => h9) rfl (by decide +kernel) rfl rfl (Nat.le_of_ble_eq_true rfl) dX3_init_43 (fun H locs hP hD hS => ?_)
  have hP : va_P E.1 vwCl ([(h0, .inr (3, [.ref (b2 0), .int 0, .int 0, .int (-1), .int 0, .int (-5), .int 0, .int 0, .int 0, .null, .null, .null, .int 0, .int 0, .int 0, .null]))] ++ xm_w (b2, xn_ls E b2, 5) (fun o => xm_0 (13 + o))) H := hP
  have hD : va_D A ([(h0, .inr (3, [.ref (b2 0), .int 0, .int 0, .int (-1), .int 0, .int (-5), .int 0, .int 0, .int 0, .null, .null, .null, .int 0, .int 0, .int 0, .null]))] ++ xm_w (b2, xn_ls E b2, 5) (fun o => xm_0 (13 + o))) := hD
  refine lv_aload_n hx hb dX3_init_46 rfl (lv_at hl 0 rfl) ?_
  refine lv_iconst (v := 0) hx hb dX3_init_47 (by decide) ?_
  refine va_put (D := E.1) (ci := 3) (v := .int 0) (ty := (tyX3 7)) (C := RX3) (T := TX3) (N := 16) hx hb hts xi_3 tyX3 tyX3_ok nmX3 hown hK.1 hP hD hS 0 rfl rfl 7 (by decide) (hts _ l_X3_37) (fun _ h9 => h9) rfl (by decide +kernel) rfl rfl (Nat.le_of_ble_eq_true rfl) dX3_init_48 (fun H locs hP hD hS => ?_)
  have hP : va_P E.1 vwCl ([(h0, .inr (3, [.ref (b2 0), .int 0, .int 0, .int (-1), .int 0, .int (-5), .int 0, .int 0, .int 0, .null, .null, .null, .int 0, .int 0, .int 0, .null]))] ++ xm_w (b2, xn_ls E b2, 5) (fun o => xm_0 (13 + o))) H := hP
  have hD : va_D A ([(h0, .inr (3, [.ref (b2 0), .int 0, .int 0, .int (-1), .int 0, .int (-5), .int 0, .int 0, .int 0, .null, .null, .null, .int 0, .int 0, .int 0, .null]))] ++ xm_w (b2, xn_ls E b2, 5) (fun o => xm_0 (13 + o))) := hD
  refine lv_aload_n hx hb dX3_init_51 rfl (lv_at hl 0 rfl) ?_
  refine lv_iconst (v := 0) hx hb dX3_init_52 (by decide) ?_
  refine va_put (D := E.1) (ci := 3) (v := .int 0) (ty := (tyX3 8)) (C := RX3) (T := TX3) (N := 16) hx hb hts xi_3 tyX3 tyX3_ok nmX3 hown hK.1 hP hD hS 0 rfl rfl 8 (by decide) (hts _ l_X3_40) (fun _ h9 => h9) rfl (by decide +kernel) rfl rfl (Nat.le_of_ble_eq_true rfl) dX3_init_53 (fun H locs hP hD hS => ?_)
  have hP : va_P E.1 vwCl ([(h0, .inr (3, [.ref (b2 0), .int 0, .int 0, .int (-1), .int 0, .int (-5), .int 0, .int 0, .int 0, .null, .null, .null, .int 0, .int 0, .int 0, .null]))] ++ xm_w (b2, xn_ls E b2, 5) (fun o => xm_0 (13 + o))) H := hP
  have hD : va_D A ([(h0, .inr (3, [.ref (b2 0), .int 0, .int 0, .int (-1), .int 0, .int (-5), .int 0, .int 0, .int 0, .null, .null, .null, .int 0, .int 0, .int 0, .null]))] ++ xm_w (b2, xn_ls E b2, 5) (fun o => xm_0 (13 + o))) := hD
  refine lv_aload_n hx hb dX3_init_56 rfl (lv_at hl 0 rfl) ?_
  refine lv_iconst (v := 4) hx hb dX3_init_57 (by decide) ?_
  refine xn_newa hx hb hts hK (atype := .char) (ty := .char) ac_char rfl 1 rfl (fun cA h1 h2 => xn_ra (fun _ h => by cases h) h1 h2) hP hD hS hA (N' := 4) (a0 := (4, .inl (fun _ => 0))) (fun _ => rfl) (by decide) (by decide) (Nat.le_of_ble_eq_true rfl) (Nat.le_of_ble_eq_true rfl) (Nat.le_of_ble_eq_true rfl) dX3_init_58 (fun q58_3 H hP hD hS => ?_)
  have hP : va_P E.1 vwCl ([(h0, .inr (3, [.ref (b2 0), .int 0, .int 0, .int (-1), .int 0, .int (-5), .int 0, .int 0, .int 0, .null, .null, .null, .int 0, .int 0, .int 0, .null]))] ++ xm_w (b2, xn_ls E b2, 5) (fun o => xm_0 (13 + o)) ++ [(q58_3, .inl (E.2.1 1, 4, .inl (fun _ => 0)))]) H := hP
  have hD : va_D A ([(h0, .inr (3, [.ref (b2 0), .int 0, .int 0, .int (-1), .int 0, .int (-5), .int 0, .int 0, .int 0, .null, .null, .null, .int 0, .int 0, .int 0, .null]))] ++ xm_w (b2, xn_ls E b2, 5) (fun o => xm_0 (13 + o)) ++ [(q58_3, .inl (E.2.1 1, 4, .inl (fun _ => 0)))]) := hD
  refine va_putF (D := E.1) (ci := 3) (v := .ref q58_3) (ty := (tyX3 9)) (C := RX3) (T := TX3) (N := 16) hx hb hts xi_3 tyX3 tyX3_ok nmX3 hown hK.1 hP hD hS 0 rfl rfl 9 (by decide) (hts _ l_X3_43) (fun _ h9 => h9) rfl hin rfl (by decide +kernel) rfl rfl (Nat.le_of_ble_eq_true rfl) dX3_init_60 (fun H locs hP hD hS => ?_)
  have hP : va_P E.1 vwCl ([(h0, .inr (3, [.ref (b2 0), .int 0, .int 0, .int (-1), .int 0, .int (-5), .int 0, .int 0, .int 0, .ref q58_3, .null, .null, .int 0, .int 0, .int 0, .null]))] ++ xm_w (b2, xn_ls E b2, 5) (fun o => xm_0 (13 + o)) ++ [(q58_3, .inl (E.2.1 1, 4, .inl (fun _ => 0)))]) H := hP
  have hD : va_D A ([(h0, .inr (3, [.ref (b2 0), .int 0, .int 0, .int (-1), .int 0, .int (-5), .int 0, .int 0, .int 0, .ref q58_3, .null, .null, .int 0, .int 0, .int 0, .null]))] ++ xm_w (b2, xn_ls E b2, 5) (fun o => xm_0 (13 + o)) ++ [(q58_3, .inl (E.2.1 1, 4, .inl (fun _ => 0)))]) := hD
  refine lv_aload_n hx hb dX3_init_63 rfl (lv_at hl 0 rfl) ?_
  refine lv_iconst (v := 4) hx hb dX3_init_64 (by decide) ?_
  refine xn_newa hx hb hts hK (atype := .char) (ty := .char) ac_char rfl 1 rfl (fun cA h1 h2 => xn_ra (fun _ h => by cases h) h1 h2) hP hD hS hA (N' := 4) (a0 := (4, .inl (fun _ => 0))) (fun _ => rfl) (by decide) (by decide) (Nat.le_of_ble_eq_true rfl) (Nat.le_of_ble_eq_true rfl) (Nat.le_of_ble_eq_true rfl) dX3_init_65 (fun q65_4 H hP hD hS => ?_)
  have hP : va_P E.1 vwCl ([(h0, .inr (3, [.ref (b2 0), .int 0, .int 0, .int (-1), .int 0, .int (-5), .int 0, .int 0, .int 0, .ref q58_3, .null, .null, .int 0, .int 0, .int 0, .null]))] ++ xm_w (b2, xn_ls E b2, 5) (fun o => xm_0 (13 + o)) ++ [(q58_3, .inl (E.2.1 1, 4, .inl (fun _ => 0))), (q65_4, .inl (E.2.1 1, 4, .inl (fun _ => 0)))]) H := hP
  have hD : va_D A ([(h0, .inr (3, [.ref (b2 0), .int 0, .int 0, .int (-1), .int 0, .int (-5), .int 0, .int 0, .int 0, .ref q58_3, .null, .null, .int 0, .int 0, .int 0, .null]))] ++ xm_w (b2, xn_ls E b2, 5) (fun o => xm_0 (13 + o)) ++ [(q58_3, .inl (E.2.1 1, 4, .inl (fun _ => 0))), (q65_4, .inl (E.2.1 1, 4, .inl (fun _ => 0)))]) := hD
  refine va_putF (D := E.1) (ci := 3) (v := .ref q65_4) (ty := (tyX3 10)) (C := RX3) (T := TX3) (N := 16) hx hb hts xi_3 tyX3 tyX3_ok nmX3 hown hK.1 hP hD hS 0 rfl rfl 10 (by decide) (hts _ l_X3_47) (fun _ h9 => h9) rfl hin rfl (by decide +kernel) rfl rfl (Nat.le_of_ble_eq_true rfl) dX3_init_67 (fun H locs hP hD hS => ?_)
  have hP : va_P E.1 vwCl ([(h0, .inr (3, [.ref (b2 0), .int 0, .int 0, .int (-1), .int 0, .int (-5), .int 0, .int 0, .int 0, .ref q58_3, .ref q65_4, .null, .int 0, .int 0, .int 0, .null]))] ++ xm_w (b2, xn_ls E b2, 5) (fun o => xm_0 (13 + o)) ++ [(q58_3, .inl (E.2.1 1, 4, .inl (fun _ => 0))), (q65_4, .inl (E.2.1 1, 4, .inl (fun _ => 0)))]) H := hP
  have hD : va_D A ([(h0, .inr (3, [.ref (b2 0), .int 0, .int 0, .int (-1), .int 0, .int (-5), .int 0, .int 0, .int 0, .ref q58_3, .ref q65_4, .null, .int 0, .int 0, .int 0, .null]))] ++ xm_w (b2, xn_ls E b2, 5) (fun o => xm_0 (13 + o)) ++ [(q58_3, .inl (E.2.1 1, 4, .inl (fun _ => 0))), (q65_4, .inl (E.2.1 1, 4, .inl (fun _ => 0)))]) := hD
  refine lv_aload_n hx hb dX3_init_70 rfl (lv_at hl 0 rfl) ?_
  refine lv_iconst (v := 4) hx hb dX3_init_71 (by decide) ?_
  refine xn_newa hx hb hts hK (atype := .int) (ty := .int) ac_int rfl 0 rfl (fun cA h1 h2 => xn_ra (fun _ h => by cases h) h1 h2) hP hD hS hA (N' := 4) (a0 := (4, .inl (fun _ => 0))) (fun _ => rfl) (by decide) (by decide) (Nat.le_of_ble_eq_true rfl) (Nat.le_of_ble_eq_true rfl) (Nat.le_of_ble_eq_true rfl) dX3_init_72 (fun q72_5 H hP hD hS => ?_)
  have hP : va_P E.1 vwCl ([(h0, .inr (3, [.ref (b2 0), .int 0, .int 0, .int (-1), .int 0, .int (-5), .int 0, .int 0, .int 0, .ref q58_3, .ref q65_4, .null, .int 0, .int 0, .int 0, .null]))] ++ xm_w (b2, xn_ls E b2, 5) (fun o => xm_0 (13 + o)) ++ [(q58_3, .inl (E.2.1 1, 4, .inl (fun _ => 0))), (q65_4, .inl (E.2.1 1, 4, .inl (fun _ => 0))), (q72_5, .inl (E.2.1 0, 4, .inl (fun _ => 0)))]) H := hP
  have hD : va_D A ([(h0, .inr (3, [.ref (b2 0), .int 0, .int 0, .int (-1), .int 0, .int (-5), .int 0, .int 0, .int 0, .ref q58_3, .ref q65_4, .null, .int 0, .int 0, .int 0, .null]))] ++ xm_w (b2, xn_ls E b2, 5) (fun o => xm_0 (13 + o)) ++ [(q58_3, .inl (E.2.1 1, 4, .inl (fun _ => 0))), (q65_4, .inl (E.2.1 1, 4, .inl (fun _ => 0))), (q72_5, .inl (E.2.1 0, 4, .inl (fun _ => 0)))]) := hD
  refine va_putF (D := E.1) (ci := 3) (v := .ref q72_5) (ty := (tyX3 11)) (C := RX3) (T := TX3) (N := 16) hx hb hts xi_3 tyX3 tyX3_ok nmX3 hown hK.1 hP hD hS 0 rfl rfl 11 (by decide) (hts _ l_X3_50) (fun _ h9 => h9) rfl hin rfl (by decide +kernel) rfl rfl (Nat.le_of_ble_eq_true rfl) dX3_init_74 (fun H locs hP hD hS => ?_)
  have hP : va_P E.1 vwCl ([(h0, .inr (3, [.ref (b2 0), .int 0, .int 0, .int (-1), .int 0, .int (-5), .int 0, .int 0, .int 0, .ref q58_3, .ref q65_4, .ref q72_5, .int 0, .int 0, .int 0, .null]))] ++ xm_w (b2, xn_ls E b2, 5) (fun o => xm_0 (13 + o)) ++ [(q58_3, .inl (E.2.1 1, 4, .inl (fun _ => 0))), (q65_4, .inl (E.2.1 1, 4, .inl (fun _ => 0))), (q72_5, .inl (E.2.1 0, 4, .inl (fun _ => 0)))]) H := hP
  have hD : va_D A ([(h0, .inr (3, [.ref (b2 0), .int 0, .int 0, .int (-1), .int 0, .int (-5), .int 0, .int 0, .int 0, .ref q58_3, .ref q65_4, .ref q72_5, .int 0, .int 0, .int 0, .null]))] ++ xm_w (b2, xn_ls E b2, 5) (fun o => xm_0 (13 + o)) ++ [(q58_3, .inl (E.2.1 1, 4, .inl (fun _ => 0))), (q65_4, .inl (E.2.1 1, 4, .inl (fun _ => 0))), (q72_5, .inl (E.2.1 0, 4, .inl (fun _ => 0)))]) := hD
  refine lv_aload_n hx hb dX3_init_77 rfl (lv_at hl 0 rfl) ?_
  refine lv_iconst (v := 0) hx hb dX3_init_78 (by decide) ?_
  refine va_put (D := E.1) (ci := 3) (v := .int 0) (ty := (tyX3 12)) (C := RX3) (T := TX3) (N := 16) hx hb hts xi_3 tyX3 tyX3_ok nmX3 hown hK.1 hP hD hS 0 rfl rfl 12 (by decide) (hts _ l_X3_54) (fun _ h9 => h9) rfl (by decide +kernel) rfl rfl (Nat.le_of_ble_eq_true rfl) dX3_init_79 (fun H locs hP hD hS => ?_)
  have hP : va_P E.1 vwCl ([(h0, .inr (3, [.ref (b2 0), .int 0, .int 0, .int (-1), .int 0, .int (-5), .int 0, .int 0, .int 0, .ref q58_3, .ref q65_4, .ref q72_5, .int 0, .int 0, .int 0, .null]))] ++ xm_w (b2, xn_ls E b2, 5) (fun o => xm_0 (13 + o)) ++ [(q58_3, .inl (E.2.1 1, 4, .inl (fun _ => 0))), (q65_4, .inl (E.2.1 1, 4, .inl (fun _ => 0))), (q72_5, .inl (E.2.1 0, 4, .inl (fun _ => 0)))]) H := hP
  have hD : va_D A ([(h0, .inr (3, [.ref (b2 0), .int 0, .int 0, .int (-1), .int 0, .int (-5), .int 0, .int 0, .int 0, .ref q58_3, .ref q65_4, .ref q72_5, .int 0, .int 0, .int 0, .null]))] ++ xm_w (b2, xn_ls E b2, 5) (fun o => xm_0 (13 + o)) ++ [(q58_3, .inl (E.2.1 1, 4, .inl (fun _ => 0))), (q65_4, .inl (E.2.1 1, 4, .inl (fun _ => 0))), (q72_5, .inl (E.2.1 0, 4, .inl (fun _ => 0)))]) := hD
  refine lv_aload_n hx hb dX3_init_82 rfl (lv_at hl 0 rfl) ?_
  refine lv_iconst (v := 0) hx hb dX3_init_83 (by decide) ?_
  refine va_put (D := E.1) (ci := 3) (v := .int 0) (ty := (tyX3 13)) (C := RX3) (T := TX3) (N := 16) hx hb hts xi_3 tyX3 tyX3_ok nmX3 hown hK.1 hP hD hS 0 rfl rfl 13 (by decide) (hts _ l_X3_57) (fun _ h9 => h9) rfl (by decide +kernel) rfl rfl (Nat.le_of_ble_eq_true rfl) dX3_init_84 (fun H locs hP hD hS => ?_)
  have hP : va_P E.1 vwCl ([(h0, .inr (3, [.ref (b2 0), .int 0, .int 0, .int (-1), .int 0, .int (-5), .int 0, .int 0, .int 0, .ref q58_3, .ref q65_4, .ref q72_5, .int 0, .int 0, .int 0, .null]))] ++ xm_w (b2, xn_ls E b2, 5) (fun o => xm_0 (13 + o)) ++ [(q58_3, .inl (E.2.1 1, 4, .inl (fun _ => 0))), (q65_4, .inl (E.2.1 1, 4, .inl (fun _ => 0))), (q72_5, .inl (E.2.1 0, 4, .inl (fun _ => 0)))]) H := hP
  have hD : va_D A ([(h0, .inr (3, [.ref (b2 0), .int 0, .int 0, .int (-1), .int 0, .int (-5), .int 0, .int 0, .int 0, .ref q58_3, .ref q65_4, .ref q72_5, .int 0, .int 0, .int 0, .null]))] ++ xm_w (b2, xn_ls E b2, 5) (fun o => xm_0 (13 + o)) ++ [(q58_3, .inl (E.2.1 1, 4, .inl (fun _ => 0))), (q65_4, .inl (E.2.1 1, 4, .inl (fun _ => 0))), (q72_5, .inl (E.2.1 0, 4, .inl (fun _ => 0)))]) := hD
  refine lv_aload_n hx hb dX3_init_87 rfl (lv_at hl 0 rfl) ?_
  refine lv_iconst (v := 0) hx hb dX3_init_88 (by decide) ?_
  refine va_put (D := E.1) (ci := 3) (v := .int 0) (ty := (tyX3 14)) (C := RX3) (T := TX3) (N := 16) hx hb hts xi_3 tyX3 tyX3_ok nmX3 hown hK.1 hP hD hS 0 rfl rfl 14 (by decide) (hts _ l_X3_60) (fun _ h9 => h9) rfl (by decide +kernel) rfl rfl (Nat.le_of_ble_eq_true rfl) dX3_init_89 (fun H locs hP hD hS => ?_)
  have hP : va_P E.1 vwCl ([(h0, .inr (3, [.ref (b2 0), .int 0, .int 0, .int (-1), .int 0, .int (-5), .int 0, .int 0, .int 0, .ref q58_3, .ref q65_4, .ref q72_5, .int 0, .int 0, .int 0, .null]))] ++ xm_w (b2, xn_ls E b2, 5) (fun o => xm_0 (13 + o)) ++ [(q58_3, .inl (E.2.1 1, 4, .inl (fun _ => 0))), (q65_4, .inl (E.2.1 1, 4, .inl (fun _ => 0))), (q72_5, .inl (E.2.1 0, 4, .inl (fun _ => 0)))]) H := hP
  have hD : va_D A ([(h0, .inr (3, [.ref (b2 0), .int 0, .int 0, .int (-1), .int 0, .int (-5), .int 0, .int 0, .int 0, .ref q58_3, .ref q65_4, .ref q72_5, .int 0, .int 0, .int 0, .null]))] ++ xm_w (b2, xn_ls E b2, 5) (fun o => xm_0 (13 + o)) ++ [(q58_3, .inl (E.2.1 1, 4, .inl (fun _ => 0))), (q65_4, .inl (E.2.1 1, 4, .inl (fun _ => 0))), (q72_5, .inl (E.2.1 0, 4, .inl (fun _ => 0)))]) := hD
  refine lv_aload_n hx hb dX3_init_92 rfl (lv_at hl 0 rfl) ?_
  refine lv_bipush (v := 25) hx hb dX3_init_93 (by decide) ?_
  refine xn_newa hx hb hts hK (atype := .int) (ty := .int) ac_int rfl 0 rfl (fun cA h1 h2 => xn_ra (fun _ h => by cases h) h1 h2) hP hD hS hA (N' := 25) (a0 := (25, .inl (fun _ => 0))) (fun _ => rfl) (by decide) (by decide) (Nat.le_of_ble_eq_true rfl) (Nat.le_of_ble_eq_true rfl) (Nat.le_of_ble_eq_true rfl) dX3_init_95 (fun q95_6 H hP hD hS => ?_)
  have hP : va_P E.1 vwCl ([(h0, .inr (3, [.ref (b2 0), .int 0, .int 0, .int (-1), .int 0, .int (-5), .int 0, .int 0, .int 0, .ref q58_3, .ref q65_4, .ref q72_5, .int 0, .int 0, .int 0, .null]))] ++ xm_w (b2, xn_ls E b2, 5) (fun o => xm_0 (13 + o)) ++ [(q58_3, .inl (E.2.1 1, 4, .inl (fun _ => 0))), (q65_4, .inl (E.2.1 1, 4, .inl (fun _ => 0))), (q72_5, .inl (E.2.1 0, 4, .inl (fun _ => 0))), (q95_6, .inl (E.2.1 0, 25, .inl (fun _ => 0)))]) H := hP
  have hD : va_D A ([(h0, .inr (3, [.ref (b2 0), .int 0, .int 0, .int (-1), .int 0, .int (-5), .int 0, .int 0, .int 0, .ref q58_3, .ref q65_4, .ref q72_5, .int 0, .int 0, .int 0, .null]))] ++ xm_w (b2, xn_ls E b2, 5) (fun o => xm_0 (13 + o)) ++ [(q58_3, .inl (E.2.1 1, 4, .inl (fun _ => 0))), (q65_4, .inl (E.2.1 1, 4, .inl (fun _ => 0))), (q72_5, .inl (E.2.1 0, 4, .inl (fun _ => 0))), (q95_6, .inl (E.2.1 0, 25, .inl (fun _ => 0)))]) := hD
  refine va_putF (D := E.1) (ci := 3) (v := .ref q95_6) (ty := (tyX3 15)) (C := RX3) (T := TX3) (N := 16) hx hb hts xi_3 tyX3 tyX3_ok nmX3 hown hK.1 hP hD hS 0 rfl rfl 15 (by decide) (hts _ l_X3_63) (fun _ h9 => h9) rfl hin rfl (by decide +kernel) rfl rfl (Nat.le_of_ble_eq_true rfl) dX3_init_97 (fun H locs hP hD hS => ?_)
  have hP : va_P E.1 vwCl ([(h0, .inr (3, [.ref (b2 0), .int 0, .int 0, .int (-1), .int 0, .int (-5), .int 0, .int 0, .int 0, .ref q58_3, .ref q65_4, .ref q72_5, .int 0, .int 0, .int 0, .ref q95_6]))] ++ xm_w (b2, xn_ls E b2, 5) (fun o => xm_0 (13 + o)) ++ [(q58_3, .inl (E.2.1 1, 4, .inl (fun _ => 0))), (q65_4, .inl (E.2.1 1, 4, .inl (fun _ => 0))), (q72_5, .inl (E.2.1 0, 4, .inl (fun _ => 0))), (q95_6, .inl (E.2.1 0, 25, .inl (fun _ => 0)))]) H := hP
  have hD : va_D A ([(h0, .inr (3, [.ref (b2 0), .int 0, .int 0, .int (-1), .int 0, .int (-5), .int 0, .int 0, .int 0, .ref q58_3, .ref q65_4, .ref q72_5, .int 0, .int 0, .int 0, .ref q95_6]))] ++ xm_w (b2, xn_ls E b2, 5) (fun o => xm_0 (13 + o)) ++ [(q58_3, .inl (E.2.1 1, 4, .inl (fun _ => 0))), (q65_4, .inl (E.2.1 1, 4, .inl (fun _ => 0))), (q72_5, .inl (E.2.1 0, 4, .inl (fun _ => 0))), (q95_6, .inl (E.2.1 0, 25, .inl (fun _ => 0)))]) := hD
  obtain ⟨bb, hbb⟩ : ∃ bb : Nat → Nat, bb = fun k => if k < 1 then h0 else if k < 2 then q58_3 else if k < 3 then q65_4 else if k < 4 then q72_5 else if k < 5 then q95_6 else b2 (k - 5) := ⟨_, rfl⟩
  have hP : va_P E.1 vwCl (xm_w (bb, xn_es E bb, 10) (fun o => xm_0 (8 + o))) H := hP.sub [0, 6, 7, 8, 9, 1, 2, 3, 4, 5] (by subst hbb; rfl)
  have hD : va_D A (xm_w (bb, xn_es E bb, 10) (fun o => xm_0 (8 + o))) := hD.sub [0, 6, 7, 8, 9, 1, 2, 3, 4, 5] (by decide +kernel) (by subst hbb; rfl)
  subst A9
  exact xn_ret C hP hD hS rfl ⟨bb, by rw [hbb]; rfl, rfl⟩ dX3_init_100 rfl rfl
set_option maxHeartbeats 8000000 in
set_option maxRecDepth 100000 in
theorem c_X6_init (l : Launch) (E : xm_E) : xn_Met l E yX6_init cX6_init 1 4 119 1302 74 (.inr (6, [.null, .null, .int 0, .null, .null, .null, .null])) (xn_SX E) := by
  refine xn_met (by decide +kernel) rfl rfl (Nat.le_of_ble_eq_true rfl) (fun h0 p e s m below meth c C hP ls hl => ?_)
  have C9 := C
  obtain ⟨hx, hb, hml, hown, hts, hr, hlk, hK, hin⟩ := C9
  obtain ⟨A, A9⟩ : ∃ A : Nat → Prop, va_A [(h0, .inr (6, [.null, .null, .int 0, .null, .null, .null, .null]))] s.heap.size = A := ⟨_, rfl⟩
  have hD : va_D A [(h0, .inr (6, [.null, .null, .int 0, .null, .null, .null, .null]))] := by
    rw [← A9]
    exact ⟨fun i j p q hi hj _ => by have h1 := (List.getElem?_eq_some_iff.mp hi).1; have h2 := (List.getElem?_eq_some_iff.mp hj).1; simp at h1 h2; omega, fun k q hk => va_A.in hk⟩
  have hA : ∀ q : Nat, s.heap.size ≤ q → A q := fun q h => by rw [← A9]; exact Or.inr h
  have hS : va_S A s.heap s.heap [] := va_S.rf
  refine lv_aload_n hx hb dX6_init_0 rfl (lv_at hl 0 rfl) ?_
  refine W.objInit hx hb hown (hts _ ob_X6_1.1) (hts _ ob_X6_1.2.1) (hts _ ob_X6_1.2.2) rfl (by rw [hml]; exact hl.1) rfl dX6_init_1 (Nat.le_of_ble_eq_true rfl) (Nat.le_of_ble_eq_true rfl) ?_
  refine W.eq (g2 := F0 m 4 ls []) rfl ?_
  refine lv_aload_n hx hb dX6_init_4 rfl (lv_at hl 0 rfl) ?_
  refine va_new (ci := 4) (fs := [.int 0, .null, .null, .null, .int 0, .int 0, .int 0, .null]) (C := RX4) (T := TX4) (N := 8) hx hb hts xi_4 tyX4 tyX4_ok hown (hts _ cl_X6_7) (hts _ ib_X4.1) (hts _ ib_X4.2) hK.1 hP hD hS hA rfl (by decide +kernel) (Nat.le_of_ble_eq_true rfl) (Nat.le_of_ble_eq_true rfl) dX6_init_5 (fun q5_1 H hP hD hS => ?_)
  refine lv_dup hx hb dX6_init_8 rfl ?_
  refine xn_callIN (q := q5_1) (rest := [.ref q5_1, .ref h0]) hx hb hml hown hts hK hP hD hS hA (c_X4_init l E) ki_X6_9 rfl ⟨(Nat.le_of_ble_eq_true rfl), (Nat.le_of_ble_eq_true rfl)⟩ hl.1 (Nat.le_of_ble_eq_true rfl) ⟨(Nat.le_of_ble_eq_true rfl), (Nat.le_of_ble_eq_true rfl)⟩ dX6_init_9 (fun w1 H locs hw hP hD hS => ?_)
  obtain ⟨b2, rfl, rfl⟩ := hw
  have hP : va_P E.1 vwCl ([(h0, .inr (6, [.null, .null, .int 0, .null, .null, .null, .null]))] ++ xm_w (b2, xc_S E b2 0, 17) (fun o => xm_0 (18 + o))) H := hP
  have hD : va_D A ([(h0, .inr (6, [.null, .null, .int 0, .null, .null, .null, .null]))] ++ xm_w (b2, xc_S E b2 0, 17) (fun o => xm_0 (18 + o))) := hD
  refine va_putF (D := E.1) (ci := 6) (v := .ref (b2 0)) (ty := (tyX6 0)) (C := RX6) (T := TX6) (N := 7) hx hb hts xi_6 tyX6 tyX6_ok nmX6 hown hK.1 hP hD hS 0 rfl rfl 0 (by decide) (hts _ l_X6_10) (fun _ h9 => h9) rfl hin rfl (by decide +kernel) rfl rfl (Nat.le_of_ble_eq_true rfl) dX6_init_12 (fun H locs hP hD hS => ?_)
  have hP : va_P E.1 vwCl ([(h0, .inr (6, [.ref (b2 0), .null, .int 0, .null, .null, .null, .null]))] ++ xm_w (b2, xc_S E b2 0, 17) (fun o => xm_0 (18 + o))) H := hP
  have hD : va_D A ([(h0, .inr (6, [.ref (b2 0), .null, .int 0, .null, .null, .null, .null]))] ++ xm_w (b2, xc_S E b2 0, 17) (fun o => xm_0 (18 + o))) := hD
  refine lv_aload_n hx hb dX6_init_15 rfl (lv_at hl 0 rfl) ?_
  refine va_new (ci := 4) (fs := [.int 0, .null, .null, .null, .int 0, .int 0, .int 0, .null]) (C := RX4) (T := TX4) (N := 8) hx hb hts xi_4 tyX4 tyX4_ok hown (hts _ cl_X6_7) (hts _ ib_X4.1) (hts _ ib_X4.2) hK.1 hP hD hS hA rfl (by decide +kernel) (Nat.le_of_ble_eq_true rfl) (Nat.le_of_ble_eq_true rfl) dX6_init_16 (fun q16_3 H hP hD hS => ?_)
  refine lv_dup hx hb dX6_init_19 rfl ?_
  refine xn_callIN (q := q16_3) (rest := [.ref q16_3, .ref h0]) hx hb hml hown hts hK hP hD hS hA (c_X4_init l E) ki_X6_9 rfl ⟨(Nat.le_of_ble_eq_true rfl), (Nat.le_of_ble_eq_true rfl)⟩ hl.1 (Nat.le_of_ble_eq_true rfl) ⟨(Nat.le_of_ble_eq_true rfl), (Nat.le_of_ble_eq_true rfl)⟩ dX6_init_20 (fun w1 H locs hw hP hD hS => ?_)
  obtain ⟨b4, rfl, rfl⟩ := hw
  have hP : va_P E.1 vwCl ([(h0, .inr (6, [.ref (b2 0), .null, .int 0, .null, .null, .null, .null]))] ++ xm_w (b2, xc_S E b2 0, 17) (fun o => xm_0 (18 + o)) ++ xm_w (b4, xc_S E b4 0, 17) (fun o => xm_0 (18 + o))) H := hP
  have hD : va_D A ([(h0, .inr (6, [.ref (b2 0), .null, .int 0, .null, .null, .null, .null]))] ++ xm_w (b2, xc_S E b2 0, 17) (fun o => xm_0 (18 + o)) ++ xm_w (b4, xc_S E b4 0, 17) (fun o => xm_0 (18 + o))) := hD
  refine va_putF (D := E.1) (ci := 6) (v := .ref (b4 0)) (ty := (tyX6 1)) (C := RX6) (T := TX6) (N := 7) hx hb hts xi_6 tyX6 tyX6_ok nmX6 hown hK.1 hP hD hS 0 rfl rfl 1 (by decide) (hts _ l_X6_16) (fun _ h9 => h9) rfl hin rfl (by decide +kernel) rfl rfl (Nat.le_of_ble_eq_true rfl) dX6_init_23 (fun H locs hP hD hS => ?_)
  have hP : va_P E.1 vwCl ([(h0, .inr (6, [.ref (b2 0), .ref (b4 0), .int 0, .null, .null, .null, .null]))] ++ xm_w (b2, xc_S E b2 0, 17) (fun o => xm_0 (18 + o)) ++ xm_w (b4, xc_S E b4 0, 17) (fun o => xm_0 (18 + o))) H := hP
  have hD : va_D A ([(h0, .inr (6, [.ref (b2 0), .ref (b4 0), .int 0, .null, .null, .null, .null]))] ++ xm_w (b2, xc_S E b2 0, 17) (fun o => xm_0 (18 + o)) ++ xm_w (b4, xc_S E b4 0, 17) (fun o => xm_0 (18 + o))) := hD
  refine lv_aload_n hx hb dX6_init_26 rfl (lv_at hl 0 rfl) ?_
  refine lv_iconst (v := 0) hx hb dX6_init_27 (by decide) ?_
  refine va_put (D := E.1) (ci := 6) (v := .int 0) (ty := (tyX6 2)) (C := RX6) (T := TX6) (N := 7) hx hb hts xi_6 tyX6 tyX6_ok nmX6 hown hK.1 hP hD hS 0 rfl rfl 2 (by decide) (hts _ l_X6_19) (fun _ h9 => h9) rfl (by decide +kernel) rfl rfl (Nat.le_of_ble_eq_true rfl) dX6_init_28 (fun H locs hP hD hS => ?_)
  have hP : va_P E.1 vwCl ([(h0, .inr (6, [.ref (b2 0), .ref (b4 0), .int 0, .null, .null, .null, .null]))] ++ xm_w (b2, xc_S E b2 0, 17) (fun o => xm_0 (18 + o)) ++ xm_w (b4, xc_S E b4 0, 17) (fun o => xm_0 (18 + o))) H := hP
  have hD : va_D A ([(h0, .inr (6, [.ref (b2 0), .ref (b4 0), .int 0, .null, .null, .null, .null]))] ++ xm_w (b2, xc_S E b2 0, 17) (fun o => xm_0 (18 + o)) ++ xm_w (b4, xc_S E b4 0, 17) (fun o => xm_0 (18 + o))) := hD
  refine lv_aload_n hx hb dX6_init_31 rfl (lv_at hl 0 rfl) ?_
  refine va_new (ci := 0) (fs := [.null, .int 0, .int 0]) (C := RX0) (T := TX0) (N := 3) hx hb hts xi_0 tyX0 tyX0_ok hown (hts _ cl_X6_23) (hts _ ib_X0.1) (hts _ ib_X0.2) hK.1 hP hD hS hA rfl (by decide +kernel) (Nat.le_of_ble_eq_true rfl) (Nat.le_of_ble_eq_true rfl) dX6_init_32 (fun q32_5 H hP hD hS => ?_)
  refine lv_dup hx hb dX6_init_35 rfl ?_
  refine xn_callIN (q := q32_5) (rest := [.ref q32_5, .ref h0]) hx hb hml hown hts hK hP hD hS hA (c_X0_init l E) ki_X6_25 rfl ⟨(Nat.le_of_ble_eq_true rfl), (Nat.le_of_ble_eq_true rfl)⟩ hl.1 (Nat.le_of_ble_eq_true rfl) ⟨(Nat.le_of_ble_eq_true rfl), (Nat.le_of_ble_eq_true rfl)⟩ dX6_init_36 (fun w1 H locs hw hP hD hS => ?_)
  obtain ⟨b6, rfl, rfl⟩ := hw
  have hP : va_P E.1 vwCl ([(h0, .inr (6, [.ref (b2 0), .ref (b4 0), .int 0, .null, .null, .null, .null]))] ++ xm_w (b2, xc_S E b2 0, 17) (fun o => xm_0 (18 + o)) ++ xm_w (b4, xc_S E b4 0, 17) (fun o => xm_0 (18 + o)) ++ xm_w (b6, xn_hs E b6, 70) (fun o => if o < 2 then xm_0 (4 + o) else xm_0 (50 + o))) H := hP
  have hD : va_D A ([(h0, .inr (6, [.ref (b2 0), .ref (b4 0), .int 0, .null, .null, .null, .null]))] ++ xm_w (b2, xc_S E b2 0, 17) (fun o => xm_0 (18 + o)) ++ xm_w (b4, xc_S E b4 0, 17) (fun o => xm_0 (18 + o)) ++ xm_w (b6, xn_hs E b6, 70) (fun o => if o < 2 then xm_0 (4 + o) else xm_0 (50 + o))) := hD
  refine va_putF (D := E.1) (ci := 6) (v := .ref (b6 0)) (ty := (tyX6 3)) (C := RX6) (T := TX6) (N := 7) hx hb hts xi_6 tyX6 tyX6_ok nmX6 hown hK.1 hP hD hS 0 rfl rfl 3 (by decide) (hts _ l_X6_26) (fun _ h9 => h9) rfl hin rfl (by decide +kernel) rfl rfl (Nat.le_of_ble_eq_true rfl) dX6_init_39 (fun H locs hP hD hS => ?_)
  have hP : va_P E.1 vwCl ([(h0, .inr (6, [.ref (b2 0), .ref (b4 0), .int 0, .ref (b6 0), .null, .null, .null]))] ++ xm_w (b2, xc_S E b2 0, 17) (fun o => xm_0 (18 + o)) ++ xm_w (b4, xc_S E b4 0, 17) (fun o => xm_0 (18 + o)) ++ xm_w (b6, xn_hs E b6, 70) (fun o => if o < 2 then xm_0 (4 + o) else xm_0 (50 + o))) H := hP
  have hD : va_D A ([(h0, .inr (6, [.ref (b2 0), .ref (b4 0), .int 0, .ref (b6 0), .null, .null, .null]))] ++ xm_w (b2, xc_S E b2 0, 17) (fun o => xm_0 (18 + o)) ++ xm_w (b4, xc_S E b4 0, 17) (fun o => xm_0 (18 + o)) ++ xm_w (b6, xn_hs E b6, 70) (fun o => if o < 2 then xm_0 (4 + o) else xm_0 (50 + o))) := hD
  refine lv_aload_n hx hb dX6_init_42 rfl (lv_at hl 0 rfl) ?_
  refine va_new (ci := 5) (fs := [.null, .int 0, .int 0]) (C := RX5) (T := TX5) (N := 3) hx hb hts xi_5 tyX5 tyX5_ok hown (hts _ cl_X6_30) (hts _ ib_X5.1) (hts _ ib_X5.2) hK.1 hP hD hS hA rfl (by decide +kernel) (Nat.le_of_ble_eq_true rfl) (Nat.le_of_ble_eq_true rfl) dX6_init_43 (fun q43_7 H hP hD hS => ?_)
  refine lv_dup hx hb dX6_init_46 rfl ?_
  refine xn_callIN (q := q43_7) (rest := [.ref q43_7, .ref h0]) hx hb hml hown hts hK hP hD hS hA (c_X5_init l E) ki_X6_32 rfl ⟨(Nat.le_of_ble_eq_true rfl), (Nat.le_of_ble_eq_true rfl)⟩ hl.1 (Nat.le_of_ble_eq_true rfl) ⟨(Nat.le_of_ble_eq_true rfl), (Nat.le_of_ble_eq_true rfl)⟩ dX6_init_47 (fun w1 H locs hw hP hD hS => ?_)
  obtain ⟨b8, rfl, rfl⟩ := hw
  have hP : va_P E.1 vwCl ([(h0, .inr (6, [.ref (b2 0), .ref (b4 0), .int 0, .ref (b6 0), .null, .null, .null]))] ++ xm_w (b2, xc_S E b2 0, 17) (fun o => xm_0 (18 + o)) ++ xm_w (b4, xc_S E b4 0, 17) (fun o => xm_0 (18 + o)) ++ xm_w (b6, xn_hs E b6, 70) (fun o => if o < 2 then xm_0 (4 + o) else xm_0 (50 + o)) ++ xm_w (b8, xn_ws E b8, 2) (fun o => xm_0 (6 + o))) H := hP
  have hD : va_D A ([(h0, .inr (6, [.ref (b2 0), .ref (b4 0), .int 0, .ref (b6 0), .null, .null, .null]))] ++ xm_w (b2, xc_S E b2 0, 17) (fun o => xm_0 (18 + o)) ++ xm_w (b4, xc_S E b4 0, 17) (fun o => xm_0 (18 + o)) ++ xm_w (b6, xn_hs E b6, 70) (fun o => if o < 2 then xm_0 (4 + o) else xm_0 (50 + o)) ++ xm_w (b8, xn_ws E b8, 2) (fun o => xm_0 (6 + o))) := hD
  refine va_putF (D := E.1) (ci := 6) (v := .ref (b8 0)) (ty := (tyX6 4)) (C := RX6) (T := TX6) (N := 7) hx hb hts xi_6 tyX6 tyX6_ok nmX6 hown hK.1 hP hD hS 0 rfl rfl 4 (by decide) (hts _ l_X6_33) (fun _ h9 => h9) rfl hin rfl (by decide +kernel) rfl rfl (Nat.le_of_ble_eq_true rfl) dX6_init_50 (fun H locs hP hD hS => ?_)
  have hP : va_P E.1 vwCl ([(h0, .inr (6, [.ref (b2 0), .ref (b4 0), .int 0, .ref (b6 0), .ref (b8 0), .null, .null]))] ++ xm_w (b2, xc_S E b2 0, 17) (fun o => xm_0 (18 + o)) ++ xm_w (b4, xc_S E b4 0, 17) (fun o => xm_0 (18 + o)) ++ xm_w (b6, xn_hs E b6, 70) (fun o => if o < 2 then xm_0 (4 + o) else xm_0 (50 + o)) ++ xm_w (b8, xn_ws E b8, 2) (fun o => xm_0 (6 + o))) H := hP
  have hD : va_D A ([(h0, .inr (6, [.ref (b2 0), .ref (b4 0), .int 0, .ref (b6 0), .ref (b8 0), .null, .null]))] ++ xm_w (b2, xc_S E b2 0, 17) (fun o => xm_0 (18 + o)) ++ xm_w (b4, xc_S E b4 0, 17) (fun o => xm_0 (18 + o)) ++ xm_w (b6, xn_hs E b6, 70) (fun o => if o < 2 then xm_0 (4 + o) else xm_0 (50 + o)) ++ xm_w (b8, xn_ws E b8, 2) (fun o => xm_0 (6 + o))) := hD
  refine lv_aload_n hx hb dX6_init_53 rfl (lv_at hl 0 rfl) ?_
  refine va_new (ci := 2) (fs := [.int 0, .int 0, .int 0, .int 0, .null, .null]) (C := RX2) (T := TX2) (N := 6) hx hb hts xi_2 tyX2 tyX2_ok hown (hts _ cl_X6_37) (hts _ ib_X2.1) (hts _ ib_X2.2) hK.1 hP hD hS hA rfl (by decide +kernel) (Nat.le_of_ble_eq_true rfl) (Nat.le_of_ble_eq_true rfl) dX6_init_54 (fun q54_9 H hP hD hS => ?_)
  refine lv_dup hx hb dX6_init_57 rfl ?_
  refine xn_callIN (q := q54_9) (rest := [.ref q54_9, .ref h0]) hx hb hml hown hts hK hP hD hS hA (c_X2_init l E) ki_X6_39 rfl ⟨(Nat.le_of_ble_eq_true rfl), (Nat.le_of_ble_eq_true rfl)⟩ hl.1 (Nat.le_of_ble_eq_true rfl) ⟨(Nat.le_of_ble_eq_true rfl), (Nat.le_of_ble_eq_true rfl)⟩ dX6_init_58 (fun w1 H locs hw hP hD hS => ?_)
  obtain ⟨b10, rfl, rfl⟩ := hw
  have hP : va_P E.1 vwCl ([(h0, .inr (6, [.ref (b2 0), .ref (b4 0), .int 0, .ref (b6 0), .ref (b8 0), .null, .null]))] ++ xm_w (b2, xc_S E b2 0, 17) (fun o => xm_0 (18 + o)) ++ xm_w (b4, xc_S E b4 0, 17) (fun o => xm_0 (18 + o)) ++ xm_w (b6, xn_hs E b6, 70) (fun o => if o < 2 then xm_0 (4 + o) else xm_0 (50 + o)) ++ xm_w (b8, xn_ws E b8, 2) (fun o => xm_0 (6 + o)) ++ xm_w (b10, xc_P E b10 0, 3) (fun o => xm_0 (1 + o))) H := hP
  have hD : va_D A ([(h0, .inr (6, [.ref (b2 0), .ref (b4 0), .int 0, .ref (b6 0), .ref (b8 0), .null, .null]))] ++ xm_w (b2, xc_S E b2 0, 17) (fun o => xm_0 (18 + o)) ++ xm_w (b4, xc_S E b4 0, 17) (fun o => xm_0 (18 + o)) ++ xm_w (b6, xn_hs E b6, 70) (fun o => if o < 2 then xm_0 (4 + o) else xm_0 (50 + o)) ++ xm_w (b8, xn_ws E b8, 2) (fun o => xm_0 (6 + o)) ++ xm_w (b10, xc_P E b10 0, 3) (fun o => xm_0 (1 + o))) := hD
  refine va_putF (D := E.1) (ci := 6) (v := .ref (b10 0)) (ty := (tyX6 5)) (C := RX6) (T := TX6) (N := 7) hx hb hts xi_6 tyX6 tyX6_ok nmX6 hown hK.1 hP hD hS 0 rfl rfl 5 (by decide) (hts _ l_X6_40) (fun _ h9 => h9) rfl hin rfl (by decide +kernel) rfl rfl (Nat.le_of_ble_eq_true rfl) dX6_init_61 (fun H locs hP hD hS => ?_)
  have hP : va_P E.1 vwCl ([(h0, .inr (6, [.ref (b2 0), .ref (b4 0), .int 0, .ref (b6 0), .ref (b8 0), .ref (b10 0), .null]))] ++ xm_w (b2, xc_S E b2 0, 17) (fun o => xm_0 (18 + o)) ++ xm_w (b4, xc_S E b4 0, 17) (fun o => xm_0 (18 + o)) ++ xm_w (b6, xn_hs E b6, 70) (fun o => if o < 2 then xm_0 (4 + o) else xm_0 (50 + o)) ++ xm_w (b8, xn_ws E b8, 2) (fun o => xm_0 (6 + o)) ++ xm_w (b10, xc_P E b10 0, 3) (fun o => xm_0 (1 + o))) H := hP
  have hD : va_D A ([(h0, .inr (6, [.ref (b2 0), .ref (b4 0), .int 0, .ref (b6 0), .ref (b8 0), .ref (b10 0), .null]))] ++ xm_w (b2, xc_S E b2 0, 17) (fun o => xm_0 (18 + o)) ++ xm_w (b4, xc_S E b4 0, 17) (fun o => xm_0 (18 + o)) ++ xm_w (b6, xn_hs E b6, 70) (fun o => if o < 2 then xm_0 (4 + o) else xm_0 (50 + o)) ++ xm_w (b8, xn_ws E b8, 2) (fun o => xm_0 (6 + o)) ++ xm_w (b10, xc_P E b10 0, 3) (fun o => xm_0 (1 + o))) := hD
  refine lv_aload_n hx hb dX6_init_64 rfl (lv_at hl 0 rfl) ?_
  refine va_new (ci := 3) (fs := [.null, .int 0, .int 0, .int 0, .int 0, .int 0, .int 0, .int 0, .int 0, .null, .null, .null, .int 0, .int 0, .int 0, .null]) (C := RX3) (T := TX3) (N := 16) hx hb hts xi_3 tyX3 tyX3_ok hown (hts _ cl_X6_44) (hts _ ib_X3.1) (hts _ ib_X3.2) hK.1 hP hD hS hA rfl (by decide +kernel) (Nat.le_of_ble_eq_true rfl) (Nat.le_of_ble_eq_true rfl) dX6_init_65 (fun q65_11 H hP hD hS => ?_)
  refine lv_dup hx hb dX6_init_68 rfl ?_
  refine xn_callIN (q := q65_11) (rest := [.ref q65_11, .ref h0]) hx hb hml hown hts hK hP hD hS hA (c_X3_init l E) ki_X6_46 rfl ⟨(Nat.le_of_ble_eq_true rfl), (Nat.le_of_ble_eq_true rfl)⟩ hl.1 (Nat.le_of_ble_eq_true rfl) ⟨(Nat.le_of_ble_eq_true rfl), (Nat.le_of_ble_eq_true rfl)⟩ dX6_init_69 (fun w1 H locs hw hP hD hS => ?_)
  obtain ⟨b12, rfl, rfl⟩ := hw
  have hP : va_P E.1 vwCl ([(h0, .inr (6, [.ref (b2 0), .ref (b4 0), .int 0, .ref (b6 0), .ref (b8 0), .ref (b10 0), .null]))] ++ xm_w (b2, xc_S E b2 0, 17) (fun o => xm_0 (18 + o)) ++ xm_w (b4, xc_S E b4 0, 17) (fun o => xm_0 (18 + o)) ++ xm_w (b6, xn_hs E b6, 70) (fun o => if o < 2 then xm_0 (4 + o) else xm_0 (50 + o)) ++ xm_w (b8, xn_ws E b8, 2) (fun o => xm_0 (6 + o)) ++ xm_w (b10, xc_P E b10 0, 3) (fun o => xm_0 (1 + o)) ++ xm_w (b12, xn_es E b12, 10) (fun o => xm_0 (8 + o))) H := hP
  have hD : va_D A ([(h0, .inr (6, [.ref (b2 0), .ref (b4 0), .int 0, .ref (b6 0), .ref (b8 0), .ref (b10 0), .null]))] ++ xm_w (b2, xc_S E b2 0, 17) (fun o => xm_0 (18 + o)) ++ xm_w (b4, xc_S E b4 0, 17) (fun o => xm_0 (18 + o)) ++ xm_w (b6, xn_hs E b6, 70) (fun o => if o < 2 then xm_0 (4 + o) else xm_0 (50 + o)) ++ xm_w (b8, xn_ws E b8, 2) (fun o => xm_0 (6 + o)) ++ xm_w (b10, xc_P E b10 0, 3) (fun o => xm_0 (1 + o)) ++ xm_w (b12, xn_es E b12, 10) (fun o => xm_0 (8 + o))) := hD
  refine va_putF (D := E.1) (ci := 6) (v := .ref (b12 0)) (ty := (tyX6 6)) (C := RX6) (T := TX6) (N := 7) hx hb hts xi_6 tyX6 tyX6_ok nmX6 hown hK.1 hP hD hS 0 rfl rfl 6 (by decide) (hts _ l_X6_47) (fun _ h9 => h9) rfl hin rfl (by decide +kernel) rfl rfl (Nat.le_of_ble_eq_true rfl) dX6_init_72 (fun H locs hP hD hS => ?_)
  have hP : va_P E.1 vwCl ([(h0, .inr (6, [.ref (b2 0), .ref (b4 0), .int 0, .ref (b6 0), .ref (b8 0), .ref (b10 0), .ref (b12 0)]))] ++ xm_w (b2, xc_S E b2 0, 17) (fun o => xm_0 (18 + o)) ++ xm_w (b4, xc_S E b4 0, 17) (fun o => xm_0 (18 + o)) ++ xm_w (b6, xn_hs E b6, 70) (fun o => if o < 2 then xm_0 (4 + o) else xm_0 (50 + o)) ++ xm_w (b8, xn_ws E b8, 2) (fun o => xm_0 (6 + o)) ++ xm_w (b10, xc_P E b10 0, 3) (fun o => xm_0 (1 + o)) ++ xm_w (b12, xn_es E b12, 10) (fun o => xm_0 (8 + o))) H := hP
  have hD : va_D A ([(h0, .inr (6, [.ref (b2 0), .ref (b4 0), .int 0, .ref (b6 0), .ref (b8 0), .ref (b10 0), .ref (b12 0)]))] ++ xm_w (b2, xc_S E b2 0, 17) (fun o => xm_0 (18 + o)) ++ xm_w (b4, xc_S E b4 0, 17) (fun o => xm_0 (18 + o)) ++ xm_w (b6, xn_hs E b6, 70) (fun o => if o < 2 then xm_0 (4 + o) else xm_0 (50 + o)) ++ xm_w (b8, xn_ws E b8, 2) (fun o => xm_0 (6 + o)) ++ xm_w (b10, xc_P E b10 0, 3) (fun o => xm_0 (1 + o)) ++ xm_w (b12, xn_es E b12, 10) (fun o => xm_0 (8 + o))) := hD
  obtain ⟨bb, hbb⟩ : ∃ bb : Nat → Nat, bb = fun k => if k < 1 then h0 else if k < 4 then b10 (k - 1) else if k < 6 then b6 (k - 4) else if k < 8 then b8 (k - 6) else if k < 18 then b12 (k - 8) else if k < 35 then b2 (k - 18) else if k < 52 then b4 (k - 35) else b6 (k - 50) := ⟨_, rfl⟩
  have hP : va_P E.1 vwCl (xm_w (xv E bb) xm_0) H := hP.sub [0, 107, 108, 109, 35, 36, 105, 106, 110, 111, 112, 113, 114, 115, 116, 117, 118, 119, 1, 2, 3, 4, 5, 6, 7, 8, 9, 10, 11, 12, 13, 14, 15, 16, 17, 18, 19, 20, 21, 22, 23, 24, 25, 26, 27, 28, 29, 30, 31, 32, 33, 34, 37, 38, 39, 40, 41, 42, 43, 44, 45, 46, 47, 48, 49, 50, 51, 52, 53, 54, 55, 56, 57, 58, 59, 60, 61, 62, 63, 64, 65, 66, 67, 68, 69, 70, 71, 72, 73, 74, 75, 76, 77, 78, 79, 80, 81, 82, 83, 84, 85, 86, 87, 88, 89, 90, 91, 92, 93, 94, 95, 96, 97, 98, 99, 100, 101, 102, 103, 104] (by subst hbb; rfl)
  have hD : va_D A (xm_w (xv E bb) xm_0) := hD.sub [0, 107, 108, 109, 35, 36, 105, 106, 110, 111, 112, 113, 114, 115, 116, 117, 118, 119, 1, 2, 3, 4, 5, 6, 7, 8, 9, 10, 11, 12, 13, 14, 15, 16, 17, 18, 19, 20, 21, 22, 23, 24, 25, 26, 27, 28, 29, 30, 31, 32, 33, 34, 37, 38, 39, 40, 41, 42, 43, 44, 45, 46, 47, 48, 49, 50, 51, 52, 53, 54, 55, 56, 57, 58, 59, 60, 61, 62, 63, 64, 65, 66, 67, 68, 69, 70, 71, 72, 73, 74, 75, 76, 77, 78, 79, 80, 81, 82, 83, 84, 85, 86, 87, 88, 89, 90, 91, 92, 93, 94, 95, 96, 97, 98, 99, 100, 101, 102, 103, 104] (by decide +kernel) (by subst hbb; rfl)
  subst A9
  exact xn_ret C hP hD hS rfl ⟨bb, by rw [hbb]; rfl, rfl⟩ dX6_init_75 rfl rfl
end
