-- ===== PART A: goes FIRST, ahead of the names: the tables' words, and 'selects' of the private methods out of them =====
/-- a private method of a class that the tables say can be made, by its rows of tables_1 -/
def lw_okq (q : MethodName × Nat) : Prop := (q.1.cls ≠ "java/lang/invoke/MethodHandle" ∧ q.1.cls ≠ "java/lang/invoke/VarHandle") ∧ Cond.instantiable q.1.cls q.2 ∈ tables_1 ∧ Cond.privateMethod q.1 ∈ tables_1 ∧ Cond.instanceMethod q.1 ∈ tables_1
theorem lw_p0 : lw_okq (⟨"FarVoice", "isSeat", "(I)Z"⟩, 16) := ⟨⟨by decide +kernel, by decide +kernel⟩, List.mem_of_getElem? (i := 19) (by decide +kernel), List.mem_of_getElem? (i := 273) (by decide +kernel), List.mem_of_getElem? (i := 274) (by decide +kernel)⟩
theorem lw_p1 : lw_okq (⟨"FarVoice$Reader", "readClause", "()Z"⟩, 4) := ⟨⟨by decide +kernel, by decide +kernel⟩, List.mem_of_getElem? (i := 65) (by decide +kernel), List.mem_of_getElem? (i := 297) (by decide +kernel), List.mem_of_getElem? (i := 298) (by decide +kernel)⟩
theorem lw_p2 : lw_okq (⟨"FarVoice$Reader", "readWord", "()I"⟩, 4) := ⟨⟨by decide +kernel, by decide +kernel⟩, List.mem_of_getElem? (i := 65) (by decide +kernel), List.mem_of_getElem? (i := 301) (by decide +kernel), List.mem_of_getElem? (i := 302) (by decide +kernel)⟩
theorem lw_p3 : lw_okq (⟨"FarVoice$Reader", "sameAs", "(Ljava/lang/String;)I"⟩, 4) := ⟨⟨by decide +kernel, by decide +kernel⟩, List.mem_of_getElem? (i := 65) (by decide +kernel), List.mem_of_getElem? (i := 313) (by decide +kernel), List.mem_of_getElem? (i := 314) (by decide +kernel)⟩
theorem lw_p4 : lw_okq (⟨"FarVoice$Reader", "readLate", "()Z"⟩, 4) := ⟨⟨by decide +kernel, by decide +kernel⟩, List.mem_of_getElem? (i := 65) (by decide +kernel), List.mem_of_getElem? (i := 368) (by decide +kernel), List.mem_of_getElem? (i := 369) (by decide +kernel)⟩
theorem lw_p5 : lw_okq (⟨"FarVoice$Reader", "skip", "(C)Z"⟩, 4) := ⟨⟨by decide +kernel, by decide +kernel⟩, List.mem_of_getElem? (i := 65) (by decide +kernel), List.mem_of_getElem? (i := 372) (by decide +kernel), List.mem_of_getElem? (i := 373) (by decide +kernel)⟩
theorem lw_p6 : lw_okq (⟨"FarVoice$Reader", "readNumber", "()I"⟩, 4) := ⟨⟨by decide +kernel, by decide +kernel⟩, List.mem_of_getElem? (i := 65) (by decide +kernel), List.mem_of_getElem? (i := 376) (by decide +kernel), List.mem_of_getElem? (i := 377) (by decide +kernel)⟩
theorem lw_p7 : lw_okq (⟨"FarVoice$Reader", "readHears", "()Z"⟩, 4) := ⟨⟨by decide +kernel, by decide +kernel⟩, List.mem_of_getElem? (i := 65) (by decide +kernel), List.mem_of_getElem? (i := 380) (by decide +kernel), List.mem_of_getElem? (i := 381) (by decide +kernel)⟩
theorem lw_p8 : lw_okq (⟨"FarVoice$Reader", "readPart", "(I)I"⟩, 4) := ⟨⟨by decide +kernel, by decide +kernel⟩, List.mem_of_getElem? (i := 65) (by decide +kernel), List.mem_of_getElem? (i := 384) (by decide +kernel), List.mem_of_getElem? (i := 385) (by decide +kernel)⟩
theorem lw_p9 : lw_okq (⟨"FarVoice$Reader", "readFigure", "(I)I"⟩, 4) := ⟨⟨by decide +kernel, by decide +kernel⟩, List.mem_of_getElem? (i := 65) (by decide +kernel), List.mem_of_getElem? (i := 388) (by decide +kernel), List.mem_of_getElem? (i := 389) (by decide +kernel)⟩
theorem lw_p10 : lw_okq (⟨"FarVoice$Reader", "readSwap", "()Z"⟩, 4) := ⟨⟨by decide +kernel, by decide +kernel⟩, List.mem_of_getElem? (i := 65) (by decide +kernel), List.mem_of_getElem? (i := 392) (by decide +kernel), List.mem_of_getElem? (i := 393) (by decide +kernel)⟩
theorem lw_p11 : lw_okq (⟨"FarVoice$Reader", "readAny", "(I)Z"⟩, 4) := ⟨⟨by decide +kernel, by decide +kernel⟩, List.mem_of_getElem? (i := 65) (by decide +kernel), List.mem_of_getElem? (i := 396) (by decide +kernel), List.mem_of_getElem? (i := 397) (by decide +kernel)⟩
theorem lw_p12 : lw_okq (⟨"FarVoice$Reader", "readAll", "(I)Z"⟩, 4) := ⟨⟨by decide +kernel, by decide +kernel⟩, List.mem_of_getElem? (i := 65) (by decide +kernel), List.mem_of_getElem? (i := 400) (by decide +kernel), List.mem_of_getElem? (i := 401) (by decide +kernel)⟩
theorem lw_p13 : lw_okq (⟨"FarVoice$Reader", "readFactor", "(I)Z"⟩, 4) := ⟨⟨by decide +kernel, by decide +kernel⟩, List.mem_of_getElem? (i := 65) (by decide +kernel), List.mem_of_getElem? (i := 404) (by decide +kernel), List.mem_of_getElem? (i := 405) (by decide +kernel)⟩
theorem lw_p14 : lw_okq (⟨"FarVoice$Reader", "readTest", "()Z"⟩, 4) := ⟨⟨by decide +kernel, by decide +kernel⟩, List.mem_of_getElem? (i := 65) (by decide +kernel), List.mem_of_getElem? (i := 408) (by decide +kernel), List.mem_of_getElem? (i := 409) (by decide +kernel)⟩
theorem lw_p15 : lw_okq (⟨"FarVoice$Reader", "readOneOf", "(Ljava/lang/String;)I"⟩, 4) := ⟨⟨by decide +kernel, by decide +kernel⟩, List.mem_of_getElem? (i := 65) (by decide +kernel), List.mem_of_getElem? (i := 413) (by decide +kernel), List.mem_of_getElem? (i := 414) (by decide +kernel)⟩
def lw_privs_1 : List (MethodName × Nat) := [(⟨"FarVoice", "isSeat", "(I)Z"⟩, 16), (⟨"FarVoice$Reader", "readClause", "()Z"⟩, 4), (⟨"FarVoice$Reader", "readWord", "()I"⟩, 4), (⟨"FarVoice$Reader", "sameAs", "(Ljava/lang/String;)I"⟩, 4), (⟨"FarVoice$Reader", "readLate", "()Z"⟩, 4), (⟨"FarVoice$Reader", "skip", "(C)Z"⟩, 4), (⟨"FarVoice$Reader", "readNumber", "()I"⟩, 4), (⟨"FarVoice$Reader", "readHears", "()Z"⟩, 4), (⟨"FarVoice$Reader", "readPart", "(I)I"⟩, 4), (⟨"FarVoice$Reader", "readFigure", "(I)I"⟩, 4), (⟨"FarVoice$Reader", "readSwap", "()Z"⟩, 4), (⟨"FarVoice$Reader", "readAny", "(I)Z"⟩, 4), (⟨"FarVoice$Reader", "readAll", "(I)Z"⟩, 4), (⟨"FarVoice$Reader", "readFactor", "(I)Z"⟩, 4), (⟨"FarVoice$Reader", "readTest", "()Z"⟩, 4), (⟨"FarVoice$Reader", "readOneOf", "(Ljava/lang/String;)I"⟩, 4)]
theorem lw_r1 : ∀ q ∈ lw_privs_1, lw_okq q := List.forall_mem_cons.mpr ⟨lw_p0, List.forall_mem_cons.mpr ⟨lw_p1, List.forall_mem_cons.mpr ⟨lw_p2, List.forall_mem_cons.mpr ⟨lw_p3, List.forall_mem_cons.mpr ⟨lw_p4, List.forall_mem_cons.mpr ⟨lw_p5, List.forall_mem_cons.mpr ⟨lw_p6, List.forall_mem_cons.mpr ⟨lw_p7, List.forall_mem_cons.mpr ⟨lw_p8, List.forall_mem_cons.mpr ⟨lw_p9, List.forall_mem_cons.mpr ⟨lw_p10, List.forall_mem_cons.mpr ⟨lw_p11, List.forall_mem_cons.mpr ⟨lw_p12, List.forall_mem_cons.mpr ⟨lw_p13, List.forall_mem_cons.mpr ⟨lw_p14, List.forall_mem_cons.mpr ⟨lw_p15, fun _ h => absurd h List.not_mem_nil⟩⟩⟩⟩⟩⟩⟩⟩⟩⟩⟩⟩⟩⟩⟩⟩
theorem lw_p16 : lw_okq (⟨"FarVoice", "holding", "()LFarVoice$House;"⟩, 16) := ⟨⟨by decide +kernel, by decide +kernel⟩, List.mem_of_getElem? (i := 19) (by decide +kernel), List.mem_of_getElem? (i := 492) (by decide +kernel), List.mem_of_getElem? (i := 493) (by decide +kernel)⟩
theorem lw_p17 : lw_okq (⟨"FarVoice", "voiceAt", "(I)LFarVoice$Voice;"⟩, 16) := ⟨⟨by decide +kernel, by decide +kernel⟩, List.mem_of_getElem? (i := 19) (by decide +kernel), List.mem_of_getElem? (i := 531) (by decide +kernel), List.mem_of_getElem? (i := 532) (by decide +kernel)⟩
theorem lw_p18 : lw_okq (⟨"FarVoice", "lookAt", "(LFarVoice$Voice;II)LFarVoice$Look;"⟩, 16) := ⟨⟨by decide +kernel, by decide +kernel⟩, List.mem_of_getElem? (i := 19) (by decide +kernel), List.mem_of_getElem? (i := 538) (by decide +kernel), List.mem_of_getElem? (i := 539) (by decide +kernel)⟩
theorem lw_p19 : lw_okq (⟨"FarVoice$House", "isTrue", "(I[I)Z"⟩, 9) := ⟨⟨by decide +kernel, by decide +kernel⟩, List.mem_of_getElem? (i := 144) (by decide +kernel), List.mem_of_getElem? (i := 561) (by decide +kernel), List.mem_of_getElem? (i := 562) (by decide +kernel)⟩
theorem lw_p20 : lw_okq (⟨"FarVoice", "canJoin", "(LFarVoice$Voice;I)Z"⟩, 16) := ⟨⟨by decide +kernel, by decide +kernel⟩, List.mem_of_getElem? (i := 19) (by decide +kernel), List.mem_of_getElem? (i := 585) (by decide +kernel), List.mem_of_getElem? (i := 586) (by decide +kernel)⟩
theorem lw_p21 : lw_okq (⟨"FarVoice", "isMoving", "(JI)Z"⟩, 16) := ⟨⟨by decide +kernel, by decide +kernel⟩, List.mem_of_getElem? (i := 19) (by decide +kernel), List.mem_of_getElem? (i := 605) (by decide +kernel), List.mem_of_getElem? (i := 606) (by decide +kernel)⟩
theorem lw_p22 : lw_okq (⟨"FarVoice", "movingAround", "(JI)J"⟩, 16) := ⟨⟨by decide +kernel, by decide +kernel⟩, List.mem_of_getElem? (i := 19) (by decide +kernel), List.mem_of_getElem? (i := 609) (by decide +kernel), List.mem_of_getElem? (i := 610) (by decide +kernel)⟩
theorem lw_p23 : lw_okq (⟨"FarVoice", "isSaid", "(I)Z"⟩, 16) := ⟨⟨by decide +kernel, by decide +kernel⟩, List.mem_of_getElem? (i := 19) (by decide +kernel), List.mem_of_getElem? (i := 625) (by decide +kernel), List.mem_of_getElem? (i := 626) (by decide +kernel)⟩
theorem lw_p24 : lw_okq (⟨"FarVoice", "letterSaid", "(LFarVoice$Voice;I)I"⟩, 16) := ⟨⟨by decide +kernel, by decide +kernel⟩, List.mem_of_getElem? (i := 19) (by decide +kernel), List.mem_of_getElem? (i := 629) (by decide +kernel), List.mem_of_getElem? (i := 630) (by decide +kernel)⟩
theorem lw_p25 : lw_okq (⟨"FarVoice", "letterHeard", "(LFarVoice$Voice;II)I"⟩, 16) := ⟨⟨by decide +kernel, by decide +kernel⟩, List.mem_of_getElem? (i := 19) (by decide +kernel), List.mem_of_getElem? (i := 633) (by decide +kernel), List.mem_of_getElem? (i := 634) (by decide +kernel)⟩
theorem lw_p26 : lw_okq (⟨"FarVoice", "soundAt", "(IIZ)I"⟩, 16) := ⟨⟨by decide +kernel, by decide +kernel⟩, List.mem_of_getElem? (i := 19) (by decide +kernel), List.mem_of_getElem? (i := 637) (by decide +kernel), List.mem_of_getElem? (i := 638) (by decide +kernel)⟩
theorem lw_p27 : lw_okq (⟨"FarVoice", "isRight", "(LFarVoice$Voice;II)Z"⟩, 16) := ⟨⟨by decide +kernel, by decide +kernel⟩, List.mem_of_getElem? (i := 19) (by decide +kernel), List.mem_of_getElem? (i := 641) (by decide +kernel), List.mem_of_getElem? (i := 642) (by decide +kernel)⟩
theorem lw_p28 : lw_okq (⟨"FarVoice", "isAlwaysCaught", "(LFarVoice$Voice;I)Z"⟩, 16) := ⟨⟨by decide +kernel, by decide +kernel⟩, List.mem_of_getElem? (i := 19) (by decide +kernel), List.mem_of_getElem? (i := 649) (by decide +kernel), List.mem_of_getElem? (i := 650) (by decide +kernel)⟩
theorem lw_p29 : lw_okq (⟨"FarVoice", "isMovingThroughout", "(JI)Z"⟩, 16) := ⟨⟨by decide +kernel, by decide +kernel⟩, List.mem_of_getElem? (i := 19) (by decide +kernel), List.mem_of_getElem? (i := 662) (by decide +kernel), List.mem_of_getElem? (i := 663) (by decide +kernel)⟩
theorem lw_p30 : lw_okq (⟨"FarVoice", "joinedSeats", "(LFarVoice$Voice;I)I"⟩, 16) := ⟨⟨by decide +kernel, by decide +kernel⟩, List.mem_of_getElem? (i := 19) (by decide +kernel), List.mem_of_getElem? (i := 674) (by decide +kernel), List.mem_of_getElem? (i := 675) (by decide +kernel)⟩
theorem lw_p31 : lw_okq (⟨"FarVoice", "seatsHearing", "(III)I"⟩, 16) := ⟨⟨by decide +kernel, by decide +kernel⟩, List.mem_of_getElem? (i := 19) (by decide +kernel), List.mem_of_getElem? (i := 678) (by decide +kernel), List.mem_of_getElem? (i := 679) (by decide +kernel)⟩
def lw_privs_2 : List (MethodName × Nat) := [(⟨"FarVoice", "holding", "()LFarVoice$House;"⟩, 16), (⟨"FarVoice", "voiceAt", "(I)LFarVoice$Voice;"⟩, 16), (⟨"FarVoice", "lookAt", "(LFarVoice$Voice;II)LFarVoice$Look;"⟩, 16), (⟨"FarVoice$House", "isTrue", "(I[I)Z"⟩, 9), (⟨"FarVoice", "canJoin", "(LFarVoice$Voice;I)Z"⟩, 16), (⟨"FarVoice", "isMoving", "(JI)Z"⟩, 16), (⟨"FarVoice", "movingAround", "(JI)J"⟩, 16), (⟨"FarVoice", "isSaid", "(I)Z"⟩, 16), (⟨"FarVoice", "letterSaid", "(LFarVoice$Voice;I)I"⟩, 16), (⟨"FarVoice", "letterHeard", "(LFarVoice$Voice;II)I"⟩, 16), (⟨"FarVoice", "soundAt", "(IIZ)I"⟩, 16), (⟨"FarVoice", "isRight", "(LFarVoice$Voice;II)Z"⟩, 16), (⟨"FarVoice", "isAlwaysCaught", "(LFarVoice$Voice;I)Z"⟩, 16), (⟨"FarVoice", "isMovingThroughout", "(JI)Z"⟩, 16), (⟨"FarVoice", "joinedSeats", "(LFarVoice$Voice;I)I"⟩, 16), (⟨"FarVoice", "seatsHearing", "(III)I"⟩, 16)]
theorem lw_r2 : ∀ q ∈ lw_privs_2, lw_okq q := List.forall_mem_cons.mpr ⟨lw_p16, List.forall_mem_cons.mpr ⟨lw_p17, List.forall_mem_cons.mpr ⟨lw_p18, List.forall_mem_cons.mpr ⟨lw_p19, List.forall_mem_cons.mpr ⟨lw_p20, List.forall_mem_cons.mpr ⟨lw_p21, List.forall_mem_cons.mpr ⟨lw_p22, List.forall_mem_cons.mpr ⟨lw_p23, List.forall_mem_cons.mpr ⟨lw_p24, List.forall_mem_cons.mpr ⟨lw_p25, List.forall_mem_cons.mpr ⟨lw_p26, List.forall_mem_cons.mpr ⟨lw_p27, List.forall_mem_cons.mpr ⟨lw_p28, List.forall_mem_cons.mpr ⟨lw_p29, List.forall_mem_cons.mpr ⟨lw_p30, List.forall_mem_cons.mpr ⟨lw_p31, fun _ h => absurd h List.not_mem_nil⟩⟩⟩⟩⟩⟩⟩⟩⟩⟩⟩⟩⟩⟩⟩⟩
theorem lw_p32 : lw_okq (⟨"FarVoice", "canBeHeard", "(LFarVoice$Voice;II)Z"⟩, 16) := ⟨⟨by decide +kernel, by decide +kernel⟩, List.mem_of_getElem? (i := 19) (by decide +kernel), List.mem_of_getElem? (i := 686) (by decide +kernel), List.mem_of_getElem? (i := 687) (by decide +kernel)⟩
theorem lw_p33 : lw_okq (⟨"FarVoice", "bestBoxes", "(I)I"⟩, 16) := ⟨⟨by decide +kernel, by decide +kernel⟩, List.mem_of_getElem? (i := 19) (by decide +kernel), List.mem_of_getElem? (i := 694) (by decide +kernel), List.mem_of_getElem? (i := 695) (by decide +kernel)⟩
theorem lw_p34 : lw_okq (⟨"FarVoice", "boxesSum", "(II)I"⟩, 16) := ⟨⟨by decide +kernel, by decide +kernel⟩, List.mem_of_getElem? (i := 19) (by decide +kernel), List.mem_of_getElem? (i := 699) (by decide +kernel), List.mem_of_getElem? (i := 700) (by decide +kernel)⟩
theorem lw_p35 : lw_okq (⟨"FarVoice", "partOfSure", "(II)J"⟩, 16) := ⟨⟨by decide +kernel, by decide +kernel⟩, List.mem_of_getElem? (i := 19) (by decide +kernel), List.mem_of_getElem? (i := 718) (by decide +kernel), List.mem_of_getElem? (i := 719) (by decide +kernel)⟩
theorem lw_p36 : lw_okq (⟨"FarVoice$Acting", "runFrom", "(IIII)I"⟩, 3) := ⟨⟨by decide +kernel, by decide +kernel⟩, List.mem_of_getElem? (i := 87) (by decide +kernel), List.mem_of_getElem? (i := 768) (by decide +kernel), List.mem_of_getElem? (i := 769) (by decide +kernel)⟩
theorem lw_p37 : lw_okq (⟨"FarVoice$Acting", "runBody", "(III)I"⟩, 3) := ⟨⟨by decide +kernel, by decide +kernel⟩, List.mem_of_getElem? (i := 87) (by decide +kernel), List.mem_of_getElem? (i := 778) (by decide +kernel), List.mem_of_getElem? (i := 779) (by decide +kernel)⟩
theorem lw_p38 : lw_okq (⟨"FarVoiceModel", "isPlace", "(I)Z"⟩, 45) := ⟨⟨by decide +kernel, by decide +kernel⟩, List.mem_of_getElem? (i := 829) (by decide +kernel), List.mem_of_getElem? (i := 976) (by decide +kernel), List.mem_of_getElem? (i := 977) (by decide +kernel)⟩
theorem lw_p39 : lw_okq (⟨"FarVoiceModel", "in", "(III)Z"⟩, 45) := ⟨⟨by decide +kernel, by decide +kernel⟩, List.mem_of_getElem? (i := 829) (by decide +kernel), List.mem_of_getElem? (i := 980) (by decide +kernel), List.mem_of_getElem? (i := 981) (by decide +kernel)⟩
theorem lw_p40 : lw_okq (⟨"FarVoiceModel", "isSeat", "(I)Z"⟩, 45) := ⟨⟨by decide +kernel, by decide +kernel⟩, List.mem_of_getElem? (i := 829) (by decide +kernel), List.mem_of_getElem? (i := 997) (by decide +kernel), List.mem_of_getElem? (i := 998) (by decide +kernel)⟩
theorem lw_p41 : lw_okq (⟨"FarVoiceModel", "goesText", "(I)Z"⟩, 45) := ⟨⟨by decide +kernel, by decide +kernel⟩, List.mem_of_getElem? (i := 829) (by decide +kernel), List.mem_of_getElem? (i := 1013) (by decide +kernel), List.mem_of_getElem? (i := 1014) (by decide +kernel)⟩
theorem lw_p42 : lw_okq (⟨"FarVoiceModel", "takesClause", "(I)Z"⟩, 45) := ⟨⟨by decide +kernel, by decide +kernel⟩, List.mem_of_getElem? (i := 829) (by decide +kernel), List.mem_of_getElem? (i := 1017) (by decide +kernel), List.mem_of_getElem? (i := 1018) (by decide +kernel)⟩
theorem lw_p43 : lw_okq (⟨"FarVoiceModel", "takesHead", "(I)Z"⟩, 45) := ⟨⟨by decide +kernel, by decide +kernel⟩, List.mem_of_getElem? (i := 829) (by decide +kernel), List.mem_of_getElem? (i := 1021) (by decide +kernel), List.mem_of_getElem? (i := 1022) (by decide +kernel)⟩
theorem lw_p44 : lw_okq (⟨"FarVoiceModel", "second", "()I"⟩, 45) := ⟨⟨by decide +kernel, by decide +kernel⟩, List.mem_of_getElem? (i := 829) (by decide +kernel), List.mem_of_getElem? (i := 1025) (by decide +kernel), List.mem_of_getElem? (i := 1026) (by decide +kernel)⟩
theorem lw_p45 : lw_okq (⟨"FarVoiceModel", "next", "()I"⟩, 45) := ⟨⟨by decide +kernel, by decide +kernel⟩, List.mem_of_getElem? (i := 829) (by decide +kernel), List.mem_of_getElem? (i := 1029) (by decide +kernel), List.mem_of_getElem? (i := 1030) (by decide +kernel)⟩
theorem lw_p46 : lw_okq (⟨"FarVoiceModel", "takesWord", "(II)Z"⟩, 45) := ⟨⟨by decide +kernel, by decide +kernel⟩, List.mem_of_getElem? (i := 829) (by decide +kernel), List.mem_of_getElem? (i := 1033) (by decide +kernel), List.mem_of_getElem? (i := 1034) (by decide +kernel)⟩
theorem lw_p47 : lw_okq (⟨"FarVoiceModel", "takesSign", "(I)Z"⟩, 45) := ⟨⟨by decide +kernel, by decide +kernel⟩, List.mem_of_getElem? (i := 829) (by decide +kernel), List.mem_of_getElem? (i := 1037) (by decide +kernel), List.mem_of_getElem? (i := 1038) (by decide +kernel)⟩
def lw_privs_3 : List (MethodName × Nat) := [(⟨"FarVoice", "canBeHeard", "(LFarVoice$Voice;II)Z"⟩, 16), (⟨"FarVoice", "bestBoxes", "(I)I"⟩, 16), (⟨"FarVoice", "boxesSum", "(II)I"⟩, 16), (⟨"FarVoice", "partOfSure", "(II)J"⟩, 16), (⟨"FarVoice$Acting", "runFrom", "(IIII)I"⟩, 3), (⟨"FarVoice$Acting", "runBody", "(III)I"⟩, 3), (⟨"FarVoiceModel", "isPlace", "(I)Z"⟩, 45), (⟨"FarVoiceModel", "in", "(III)Z"⟩, 45), (⟨"FarVoiceModel", "isSeat", "(I)Z"⟩, 45), (⟨"FarVoiceModel", "goesText", "(I)Z"⟩, 45), (⟨"FarVoiceModel", "takesClause", "(I)Z"⟩, 45), (⟨"FarVoiceModel", "takesHead", "(I)Z"⟩, 45), (⟨"FarVoiceModel", "second", "()I"⟩, 45), (⟨"FarVoiceModel", "next", "()I"⟩, 45), (⟨"FarVoiceModel", "takesWord", "(II)Z"⟩, 45), (⟨"FarVoiceModel", "takesSign", "(I)Z"⟩, 45)]
theorem lw_r3 : ∀ q ∈ lw_privs_3, lw_okq q := List.forall_mem_cons.mpr ⟨lw_p32, List.forall_mem_cons.mpr ⟨lw_p33, List.forall_mem_cons.mpr ⟨lw_p34, List.forall_mem_cons.mpr ⟨lw_p35, List.forall_mem_cons.mpr ⟨lw_p36, List.forall_mem_cons.mpr ⟨lw_p37, List.forall_mem_cons.mpr ⟨lw_p38, List.forall_mem_cons.mpr ⟨lw_p39, List.forall_mem_cons.mpr ⟨lw_p40, List.forall_mem_cons.mpr ⟨lw_p41, List.forall_mem_cons.mpr ⟨lw_p42, List.forall_mem_cons.mpr ⟨lw_p43, List.forall_mem_cons.mpr ⟨lw_p44, List.forall_mem_cons.mpr ⟨lw_p45, List.forall_mem_cons.mpr ⟨lw_p46, List.forall_mem_cons.mpr ⟨lw_p47, fun _ h => absurd h List.not_mem_nil⟩⟩⟩⟩⟩⟩⟩⟩⟩⟩⟩⟩⟩⟩⟩⟩
theorem lw_p48 : lw_okq (⟨"FarVoiceModel", "takesFigure", "(I)Z"⟩, 45) := ⟨⟨by decide +kernel, by decide +kernel⟩, List.mem_of_getElem? (i := 829) (by decide +kernel), List.mem_of_getElem? (i := 1041) (by decide +kernel), List.mem_of_getElem? (i := 1042) (by decide +kernel)⟩
theorem lw_p49 : lw_okq (⟨"FarVoiceModel", "takesNumber", "()Z"⟩, 45) := ⟨⟨by decide +kernel, by decide +kernel⟩, List.mem_of_getElem? (i := 829) (by decide +kernel), List.mem_of_getElem? (i := 1045) (by decide +kernel), List.mem_of_getElem? (i := 1046) (by decide +kernel)⟩
theorem lw_p50 : lw_okq (⟨"FarVoiceModel", "isDigit", "()Z"⟩, 45) := ⟨⟨by decide +kernel, by decide +kernel⟩, List.mem_of_getElem? (i := 829) (by decide +kernel), List.mem_of_getElem? (i := 1049) (by decide +kernel), List.mem_of_getElem? (i := 1050) (by decide +kernel)⟩
theorem lw_p51 : lw_okq (⟨"FarVoiceModel", "takesE", "(I)Z"⟩, 45) := ⟨⟨by decide +kernel, by decide +kernel⟩, List.mem_of_getElem? (i := 829) (by decide +kernel), List.mem_of_getElem? (i := 1053) (by decide +kernel), List.mem_of_getElem? (i := 1054) (by decide +kernel)⟩
theorem lw_p52 : lw_okq (⟨"FarVoiceModel", "takesTest", "()Z"⟩, 45) := ⟨⟨by decide +kernel, by decide +kernel⟩, List.mem_of_getElem? (i := 829) (by decide +kernel), List.mem_of_getElem? (i := 1057) (by decide +kernel), List.mem_of_getElem? (i := 1058) (by decide +kernel)⟩
theorem lw_p53 : lw_okq (⟨"FarVoiceModel", "place", "(I)I"⟩, 45) := ⟨⟨by decide +kernel, by decide +kernel⟩, List.mem_of_getElem? (i := 829) (by decide +kernel), List.mem_of_getElem? (i := 1061) (by decide +kernel), List.mem_of_getElem? (i := 1062) (by decide +kernel)⟩
theorem lw_p54 : lw_okq (⟨"FarVoiceModel", "put", "(I)V"⟩, 45) := ⟨⟨by decide +kernel, by decide +kernel⟩, List.mem_of_getElem? (i := 829) (by decide +kernel), List.mem_of_getElem? (i := 1065) (by decide +kernel), List.mem_of_getElem? (i := 1066) (by decide +kernel)⟩
theorem lw_p55 : lw_okq (⟨"FarVoiceModel", "whole", "()V"⟩, 45) := ⟨⟨by decide +kernel, by decide +kernel⟩, List.mem_of_getElem? (i := 829) (by decide +kernel), List.mem_of_getElem? (i := 1069) (by decide +kernel), List.mem_of_getElem? (i := 1070) (by decide +kernel)⟩
theorem lw_p56 : lw_okq (⟨"FarVoiceModel", "settle", "(I)V"⟩, 45) := ⟨⟨by decide +kernel, by decide +kernel⟩, List.mem_of_getElem? (i := 829) (by decide +kernel), List.mem_of_getElem? (i := 1073) (by decide +kernel), List.mem_of_getElem? (i := 1074) (by decide +kernel)⟩
theorem lw_p57 : lw_okq (⟨"FarVoiceModel", "hears", "(II)I"⟩, 45) := ⟨⟨by decide +kernel, by decide +kernel⟩, List.mem_of_getElem? (i := 829) (by decide +kernel), List.mem_of_getElem? (i := 1081) (by decide +kernel), List.mem_of_getElem? (i := 1082) (by decide +kernel)⟩
theorem lw_p58 : lw_okq (⟨"FarVoiceModel", "last", "(III)I"⟩, 45) := ⟨⟨by decide +kernel, by decide +kernel⟩, List.mem_of_getElem? (i := 829) (by decide +kernel), List.mem_of_getElem? (i := 1085) (by decide +kernel), List.mem_of_getElem? (i := 1086) (by decide +kernel)⟩
theorem lw_p59 : lw_okq (⟨"FarVoiceModel", "first", "()I"⟩, 45) := ⟨⟨by decide +kernel, by decide +kernel⟩, List.mem_of_getElem? (i := 829) (by decide +kernel), List.mem_of_getElem? (i := 1089) (by decide +kernel), List.mem_of_getElem? (i := 1090) (by decide +kernel)⟩
theorem lw_p60 : lw_okq (⟨"FarVoiceModel", "behind", "()I"⟩, 45) := ⟨⟨by decide +kernel, by decide +kernel⟩, List.mem_of_getElem? (i := 829) (by decide +kernel), List.mem_of_getElem? (i := 1093) (by decide +kernel), List.mem_of_getElem? (i := 1094) (by decide +kernel)⟩
theorem lw_p61 : lw_okq (⟨"FarVoiceModel", "lateNow", "()I"⟩, 45) := ⟨⟨by decide +kernel, by decide +kernel⟩, List.mem_of_getElem? (i := 829) (by decide +kernel), List.mem_of_getElem? (i := 1097) (by decide +kernel), List.mem_of_getElem? (i := 1098) (by decide +kernel)⟩
theorem lw_p62 : lw_okq (⟨"FarVoiceModel", "isVoice", "(I)Z"⟩, 45) := ⟨⟨by decide +kernel, by decide +kernel⟩, List.mem_of_getElem? (i := 829) (by decide +kernel), List.mem_of_getElem? (i := 1109) (by decide +kernel), List.mem_of_getElem? (i := 1110) (by decide +kernel)⟩
theorem lw_p63 : lw_okq (⟨"FarVoiceModel", "earOf", "(III)I"⟩, 45) := ⟨⟨by decide +kernel, by decide +kernel⟩, List.mem_of_getElem? (i := 829) (by decide +kernel), List.mem_of_getElem? (i := 1113) (by decide +kernel), List.mem_of_getElem? (i := 1114) (by decide +kernel)⟩
def lw_privs_4 : List (MethodName × Nat) := [(⟨"FarVoiceModel", "takesFigure", "(I)Z"⟩, 45), (⟨"FarVoiceModel", "takesNumber", "()Z"⟩, 45), (⟨"FarVoiceModel", "isDigit", "()Z"⟩, 45), (⟨"FarVoiceModel", "takesE", "(I)Z"⟩, 45), (⟨"FarVoiceModel", "takesTest", "()Z"⟩, 45), (⟨"FarVoiceModel", "place", "(I)I"⟩, 45), (⟨"FarVoiceModel", "put", "(I)V"⟩, 45), (⟨"FarVoiceModel", "whole", "()V"⟩, 45), (⟨"FarVoiceModel", "settle", "(I)V"⟩, 45), (⟨"FarVoiceModel", "hears", "(II)I"⟩, 45), (⟨"FarVoiceModel", "last", "(III)I"⟩, 45), (⟨"FarVoiceModel", "first", "()I"⟩, 45), (⟨"FarVoiceModel", "behind", "()I"⟩, 45), (⟨"FarVoiceModel", "lateNow", "()I"⟩, 45), (⟨"FarVoiceModel", "isVoice", "(I)Z"⟩, 45), (⟨"FarVoiceModel", "earOf", "(III)I"⟩, 45)]
theorem lw_r4 : ∀ q ∈ lw_privs_4, lw_okq q := List.forall_mem_cons.mpr ⟨lw_p48, List.forall_mem_cons.mpr ⟨lw_p49, List.forall_mem_cons.mpr ⟨lw_p50, List.forall_mem_cons.mpr ⟨lw_p51, List.forall_mem_cons.mpr ⟨lw_p52, List.forall_mem_cons.mpr ⟨lw_p53, List.forall_mem_cons.mpr ⟨lw_p54, List.forall_mem_cons.mpr ⟨lw_p55, List.forall_mem_cons.mpr ⟨lw_p56, List.forall_mem_cons.mpr ⟨lw_p57, List.forall_mem_cons.mpr ⟨lw_p58, List.forall_mem_cons.mpr ⟨lw_p59, List.forall_mem_cons.mpr ⟨lw_p60, List.forall_mem_cons.mpr ⟨lw_p61, List.forall_mem_cons.mpr ⟨lw_p62, List.forall_mem_cons.mpr ⟨lw_p63, fun _ h => absurd h List.not_mem_nil⟩⟩⟩⟩⟩⟩⟩⟩⟩⟩⟩⟩⟩⟩⟩⟩
theorem lw_p64 : lw_okq (⟨"FarVoiceModel", "unsure", "(IIII)I"⟩, 45) := ⟨⟨by decide +kernel, by decide +kernel⟩, List.mem_of_getElem? (i := 829) (by decide +kernel), List.mem_of_getElem? (i := 1117) (by decide +kernel), List.mem_of_getElem? (i := 1118) (by decide +kernel)⟩
theorem lw_p65 : lw_okq (⟨"FarVoiceModel", "holds", "(IIII)Z"⟩, 45) := ⟨⟨by decide +kernel, by decide +kernel⟩, List.mem_of_getElem? (i := 829) (by decide +kernel), List.mem_of_getElem? (i := 1121) (by decide +kernel), List.mem_of_getElem? (i := 1122) (by decide +kernel)⟩
theorem lw_p66 : lw_okq (⟨"FarVoiceModel", "factOf", "(IIII)I"⟩, 45) := ⟨⟨by decide +kernel, by decide +kernel⟩, List.mem_of_getElem? (i := 829) (by decide +kernel), List.mem_of_getElem? (i := 1125) (by decide +kernel), List.mem_of_getElem? (i := 1126) (by decide +kernel)⟩
theorem lw_p67 : lw_okq (⟨"FarVoiceModel", "apart", "(II)I"⟩, 45) := ⟨⟨by decide +kernel, by decide +kernel⟩, List.mem_of_getElem? (i := 829) (by decide +kernel), List.mem_of_getElem? (i := 1129) (by decide +kernel), List.mem_of_getElem? (i := 1130) (by decide +kernel)⟩
theorem lw_p68 : lw_okq (⟨"FarVoiceModel", "isSaid", "(I)Z"⟩, 45) := ⟨⟨by decide +kernel, by decide +kernel⟩, List.mem_of_getElem? (i := 829) (by decide +kernel), List.mem_of_getElem? (i := 1133) (by decide +kernel), List.mem_of_getElem? (i := 1134) (by decide +kernel)⟩
theorem lw_p69 : lw_okq (⟨"FarVoiceModel", "min", "(II)I"⟩, 45) := ⟨⟨by decide +kernel, by decide +kernel⟩, List.mem_of_getElem? (i := 829) (by decide +kernel), List.mem_of_getElem? (i := 1137) (by decide +kernel), List.mem_of_getElem? (i := 1138) (by decide +kernel)⟩
theorem lw_p70 : lw_okq (⟨"FarVoiceModel", "soundsOf", "(II)I"⟩, 45) := ⟨⟨by decide +kernel, by decide +kernel⟩, List.mem_of_getElem? (i := 829) (by decide +kernel), List.mem_of_getElem? (i := 1141) (by decide +kernel), List.mem_of_getElem? (i := 1142) (by decide +kernel)⟩
theorem lw_p71 : lw_okq (⟨"FarVoiceModel", "joined", "(IIIII)Z"⟩, 45) := ⟨⟨by decide +kernel, by decide +kernel⟩, List.mem_of_getElem? (i := 829) (by decide +kernel), List.mem_of_getElem? (i := 1145) (by decide +kernel), List.mem_of_getElem? (i := 1146) (by decide +kernel)⟩
theorem lw_p72 : lw_okq (⟨"FarVoiceModel", "mayJoin", "(IIII)Z"⟩, 45) := ⟨⟨by decide +kernel, by decide +kernel⟩, List.mem_of_getElem? (i := 829) (by decide +kernel), List.mem_of_getElem? (i := 1149) (by decide +kernel), List.mem_of_getElem? (i := 1150) (by decide +kernel)⟩
theorem lw_p73 : lw_okq (⟨"FarVoiceModel", "movesBy", "(III)I"⟩, 45) := ⟨⟨by decide +kernel, by decide +kernel⟩, List.mem_of_getElem? (i := 829) (by decide +kernel), List.mem_of_getElem? (i := 1153) (by decide +kernel), List.mem_of_getElem? (i := 1154) (by decide +kernel)⟩
theorem lw_p74 : lw_okq (⟨"FarVoiceModel", "heldOf", "(III)I"⟩, 45) := ⟨⟨by decide +kernel, by decide +kernel⟩, List.mem_of_getElem? (i := 829) (by decide +kernel), List.mem_of_getElem? (i := 1157) (by decide +kernel), List.mem_of_getElem? (i := 1158) (by decide +kernel)⟩
theorem lw_p75 : lw_okq (⟨"FarVoiceModel", "isCaught", "(III)Z"⟩, 45) := ⟨⟨by decide +kernel, by decide +kernel⟩, List.mem_of_getElem? (i := 829) (by decide +kernel), List.mem_of_getElem? (i := 1161) (by decide +kernel), List.mem_of_getElem? (i := 1162) (by decide +kernel)⟩
theorem lw_p76 : lw_okq (⟨"FarVoiceModel", "saidOf", "(II)I"⟩, 45) := ⟨⟨by decide +kernel, by decide +kernel⟩, List.mem_of_getElem? (i := 829) (by decide +kernel), List.mem_of_getElem? (i := 1169) (by decide +kernel), List.mem_of_getElem? (i := 1170) (by decide +kernel)⟩
theorem lw_p77 : lw_okq (⟨"FarVoiceModel", "heardOf", "(IIII)I"⟩, 45) := ⟨⟨by decide +kernel, by decide +kernel⟩, List.mem_of_getElem? (i := 829) (by decide +kernel), List.mem_of_getElem? (i := 1173) (by decide +kernel), List.mem_of_getElem? (i := 1174) (by decide +kernel)⟩
theorem lw_p78 : lw_okq (⟨"FarVoiceModel", "isRight", "(III)Z"⟩, 45) := ⟨⟨by decide +kernel, by decide +kernel⟩, List.mem_of_getElem? (i := 829) (by decide +kernel), List.mem_of_getElem? (i := 1177) (by decide +kernel), List.mem_of_getElem? (i := 1178) (by decide +kernel)⟩
theorem lw_p79 : lw_okq (⟨"FarVoiceModel", "divisor", "(JJ)J"⟩, 45) := ⟨⟨by decide +kernel, by decide +kernel⟩, List.mem_of_getElem? (i := 829) (by decide +kernel), List.mem_of_getElem? (i := 1219) (by decide +kernel), List.mem_of_getElem? (i := 1220) (by decide +kernel)⟩
def lw_privs_5 : List (MethodName × Nat) := [(⟨"FarVoiceModel", "unsure", "(IIII)I"⟩, 45), (⟨"FarVoiceModel", "holds", "(IIII)Z"⟩, 45), (⟨"FarVoiceModel", "factOf", "(IIII)I"⟩, 45), (⟨"FarVoiceModel", "apart", "(II)I"⟩, 45), (⟨"FarVoiceModel", "isSaid", "(I)Z"⟩, 45), (⟨"FarVoiceModel", "min", "(II)I"⟩, 45), (⟨"FarVoiceModel", "soundsOf", "(II)I"⟩, 45), (⟨"FarVoiceModel", "joined", "(IIIII)Z"⟩, 45), (⟨"FarVoiceModel", "mayJoin", "(IIII)Z"⟩, 45), (⟨"FarVoiceModel", "movesBy", "(III)I"⟩, 45), (⟨"FarVoiceModel", "heldOf", "(III)I"⟩, 45), (⟨"FarVoiceModel", "isCaught", "(III)Z"⟩, 45), (⟨"FarVoiceModel", "saidOf", "(II)I"⟩, 45), (⟨"FarVoiceModel", "heardOf", "(IIII)I"⟩, 45), (⟨"FarVoiceModel", "isRight", "(III)Z"⟩, 45), (⟨"FarVoiceModel", "divisor", "(JJ)J"⟩, 45)]
theorem lw_r5 : ∀ q ∈ lw_privs_5, lw_okq q := List.forall_mem_cons.mpr ⟨lw_p64, List.forall_mem_cons.mpr ⟨lw_p65, List.forall_mem_cons.mpr ⟨lw_p66, List.forall_mem_cons.mpr ⟨lw_p67, List.forall_mem_cons.mpr ⟨lw_p68, List.forall_mem_cons.mpr ⟨lw_p69, List.forall_mem_cons.mpr ⟨lw_p70, List.forall_mem_cons.mpr ⟨lw_p71, List.forall_mem_cons.mpr ⟨lw_p72, List.forall_mem_cons.mpr ⟨lw_p73, List.forall_mem_cons.mpr ⟨lw_p74, List.forall_mem_cons.mpr ⟨lw_p75, List.forall_mem_cons.mpr ⟨lw_p76, List.forall_mem_cons.mpr ⟨lw_p77, List.forall_mem_cons.mpr ⟨lw_p78, List.forall_mem_cons.mpr ⟨lw_p79, fun _ h => absurd h List.not_mem_nil⟩⟩⟩⟩⟩⟩⟩⟩⟩⟩⟩⟩⟩⟩⟩⟩
theorem lw_p80 : lw_okq (⟨"FarVoiceModel", "isTape", "(I)Z"⟩, 45) := ⟨⟨by decide +kernel, by decide +kernel⟩, List.mem_of_getElem? (i := 829) (by decide +kernel), List.mem_of_getElem? (i := 1231) (by decide +kernel), List.mem_of_getElem? (i := 1232) (by decide +kernel)⟩
theorem lw_p81 : lw_okq (⟨"FarVoiceModel", "hearsAct", "(II)I"⟩, 45) := ⟨⟨by decide +kernel, by decide +kernel⟩, List.mem_of_getElem? (i := 829) (by decide +kernel), List.mem_of_getElem? (i := 1247) (by decide +kernel), List.mem_of_getElem? (i := 1248) (by decide +kernel)⟩
theorem lw_p82 : lw_okq (⟨"FarVoiceModel", "body", "(I)V"⟩, 45) := ⟨⟨by decide +kernel, by decide +kernel⟩, List.mem_of_getElem? (i := 829) (by decide +kernel), List.mem_of_getElem? (i := 1251) (by decide +kernel), List.mem_of_getElem? (i := 1252) (by decide +kernel)⟩
theorem lw_p83 : lw_okq (⟨"FarVoiceModel", "plainHears", "(II)I"⟩, 45) := ⟨⟨by decide +kernel, by decide +kernel⟩, List.mem_of_getElem? (i := 829) (by decide +kernel), List.mem_of_getElem? (i := 1255) (by decide +kernel), List.mem_of_getElem? (i := 1256) (by decide +kernel)⟩
theorem lw_p84 : lw_okq (⟨"FarVoiceModel", "seesAct", "(II)I"⟩, 45) := ⟨⟨by decide +kernel, by decide +kernel⟩, List.mem_of_getElem? (i := 829) (by decide +kernel), List.mem_of_getElem? (i := 1259) (by decide +kernel), List.mem_of_getElem? (i := 1260) (by decide +kernel)⟩
theorem lw_p85 : lw_okq (⟨"FarVoiceModel", "nearSees", "(II)I"⟩, 45) := ⟨⟨by decide +kernel, by decide +kernel⟩, List.mem_of_getElem? (i := 829) (by decide +kernel), List.mem_of_getElem? (i := 1263) (by decide +kernel), List.mem_of_getElem? (i := 1264) (by decide +kernel)⟩
theorem lw_p86 : lw_okq (⟨"FarVoiceModel", "plainSees", "(II)I"⟩, 45) := ⟨⟨by decide +kernel, by decide +kernel⟩, List.mem_of_getElem? (i := 829) (by decide +kernel), List.mem_of_getElem? (i := 1267) (by decide +kernel), List.mem_of_getElem? (i := 1268) (by decide +kernel)⟩
theorem lw_p87 : lw_okq (⟨"FarVoiceModel", "tellsAct", "(II)I"⟩, 45) := ⟨⟨by decide +kernel, by decide +kernel⟩, List.mem_of_getElem? (i := 829) (by decide +kernel), List.mem_of_getElem? (i := 1271) (by decide +kernel), List.mem_of_getElem? (i := 1272) (by decide +kernel)⟩
theorem lw_p88 : lw_okq (⟨"FarVoiceModel", "plainTells", "(II)I"⟩, 45) := ⟨⟨by decide +kernel, by decide +kernel⟩, List.mem_of_getElem? (i := 829) (by decide +kernel), List.mem_of_getElem? (i := 1275) (by decide +kernel), List.mem_of_getElem? (i := 1276) (by decide +kernel)⟩
theorem lw_p89 : lw_okq (⟨"FarVoiceModel", "narrow", "(IJ)J"⟩, 45) := ⟨⟨by decide +kernel, by decide +kernel⟩, List.mem_of_getElem? (i := 829) (by decide +kernel), List.mem_of_getElem? (i := 1299) (by decide +kernel), List.mem_of_getElem? (i := 1300) (by decide +kernel)⟩
def lw_privs_6 : List (MethodName × Nat) := [(⟨"FarVoiceModel", "isTape", "(I)Z"⟩, 45), (⟨"FarVoiceModel", "hearsAct", "(II)I"⟩, 45), (⟨"FarVoiceModel", "body", "(I)V"⟩, 45), (⟨"FarVoiceModel", "plainHears", "(II)I"⟩, 45), (⟨"FarVoiceModel", "seesAct", "(II)I"⟩, 45), (⟨"FarVoiceModel", "nearSees", "(II)I"⟩, 45), (⟨"FarVoiceModel", "plainSees", "(II)I"⟩, 45), (⟨"FarVoiceModel", "tellsAct", "(II)I"⟩, 45), (⟨"FarVoiceModel", "plainTells", "(II)I"⟩, 45), (⟨"FarVoiceModel", "narrow", "(IJ)J"⟩, 45)]
theorem lw_r6 : ∀ q ∈ lw_privs_6, lw_okq q := List.forall_mem_cons.mpr ⟨lw_p80, List.forall_mem_cons.mpr ⟨lw_p81, List.forall_mem_cons.mpr ⟨lw_p82, List.forall_mem_cons.mpr ⟨lw_p83, List.forall_mem_cons.mpr ⟨lw_p84, List.forall_mem_cons.mpr ⟨lw_p85, List.forall_mem_cons.mpr ⟨lw_p86, List.forall_mem_cons.mpr ⟨lw_p87, List.forall_mem_cons.mpr ⟨lw_p88, List.forall_mem_cons.mpr ⟨lw_p89, fun _ h => absurd h List.not_mem_nil⟩⟩⟩⟩⟩⟩⟩⟩⟩⟩
def lw_privs : List (MethodName × Nat) := lw_privs_1 ++ (lw_privs_2 ++ (lw_privs_3 ++ (lw_privs_4 ++ (lw_privs_5 ++ (lw_privs_6)))))
def lw_tbl : List Cond := k2_sels lw_privs ++ tables_1
theorem lw_privs_ok : ∀ q ∈ lw_privs, lw_okq q := by
  show ∀ q ∈ lw_privs_1 ++ (lw_privs_2 ++ (lw_privs_3 ++ (lw_privs_4 ++ (lw_privs_5 ++ (lw_privs_6))))), lw_okq q
  exact List.forall_mem_append.mpr ⟨lw_r1, List.forall_mem_append.mpr ⟨lw_r2, List.forall_mem_append.mpr ⟨lw_r3, List.forall_mem_append.mpr ⟨lw_r4, List.forall_mem_append.mpr ⟨lw_r5, lw_r6⟩⟩⟩⟩⟩
-- ===== end of PART A; then your names; then what follows =====
/-! ===== BEGIN words of one list among another's, by their places ===== -/
theorem goodIn_r {big : List Cond} (ws : List Cond) (ps : List Nat) (hp : ws = ps.filterMap (fun i => big[i]?)) (h : ws.all goodWord = true) : GoodIn big ws := by
  intro w hw
  have h1 := List.all_eq_true.mp h w hw
  rw [hp] at hw
  obtain ⟨i, -, hi⟩ := List.mem_filterMap.mp hw
  have hm : w ∈ big := by first | exact List.mem_of_getElem? hi | exact List.getElem?_mem hi
  exact ⟨hm, good_of_word h1⟩
theorem goodIn_app {big a b : List Cond} (ha : GoodIn big a) (hb : GoodIn big b) : GoodIn big (a ++ b) := fun w h => (List.mem_append.mp h).elim (ha w) (hb w)
theorem goodIn_ca {big a b : List Cond} {c : Cond} (ha : GoodIn big (c :: a)) (hb : GoodIn big b) : GoodIn big (c :: (a ++ b)) := fun w h => (List.mem_cons.mp h).elim (fun e => ha w (List.mem_cons.mpr (Or.inl e))) (fun h => (List.mem_append.mp h).elim (fun h => ha w (List.mem_cons.mpr (Or.inr h))) (hb w))
theorem goodIn_sub {big ws : List Cond} (hm : ∀ w ∈ ws, w ∈ big) (h : ws.all goodWord = true) : GoodIn big ws := fun w hw => ⟨hm w hw, good_of_word (List.all_eq_true.mp h w hw)⟩
/-! ===== END ===== -/

/-! ===== BEGIN printed: names, fields, word lists, decode rows ===== -/
def RX0 : String := "FarVoice$Acting"
def TX0 : u_T := fun k => match k with
  | 0 => ("FarVoice$Acting", "bodies", "[I", true)
  | 1 => ("FarVoice$Acting", "ran", "I", false)
  | _ => ("FarVoice$Acting", "actor", "LFarVoice$Voice;", false)
def tyX0 : Nat → FieldType := fun k => match k with
  | 0 => .array .int
  | 1 => .int
  | _ => .object "FarVoice$Voice"
abbrev wsX00 : List Cond := u_ws RX0 TX0 3
theorem nmX0 : ∀ a, a < 3 → ∀ b, b < 3 → a ≠ b → (TX0 a).2.1 ≠ (TX0 b).2.1 := by decide +kernel
theorem tyX0_ok : ∀ k, k < 3 → parseFieldDescriptor (TX0 k).2.2.1 = some (tyX0 k) := by decide +kernel
abbrev cX0_init : ByteArray := prog_2_method_1_code
def yX0_init : MethodName := ⟨RX0, "<init>", "()V"⟩
abbrev cX0_forget : ByteArray := prog_2_method_2_code
def yX0_forget : MethodName := ⟨RX0, "forget", "()V"⟩
abbrev cX0_kept : ByteArray := prog_2_method_3_code
def yX0_kept : MethodName := ⟨RX0, "kept", "()I"⟩
abbrev cX0_run : ByteArray := prog_2_method_4_code
def yX0_run : MethodName := ⟨RX0, "run", "(LFarVoice$Voice;II)I"⟩
abbrev cX0_runFrom : ByteArray := prog_2_method_5_code
def yX0_runFrom : MethodName := ⟨RX0, "runFrom", "(IIII)I"⟩
abbrev cX0_bodyFrom : ByteArray := prog_2_method_6_code
def yX0_bodyFrom : MethodName := ⟨RX0, "bodyFrom", "(II)I"⟩
abbrev cX0_runBody : ByteArray := prog_2_method_7_code
def yX0_runBody : MethodName := ⟨RX0, "runBody", "(III)I"⟩
def RX1 : String := "FarVoice$House"
def TX1 : u_T := fun k => match k with
  | 0 => ("FarVoice$House", "sounds", "[I", true)
  | 1 => ("FarVoice$House", "swaps", "[I", true)
  | 2 => ("FarVoice$House", "late", "I", false)
  | 3 => ("FarVoice$House", "senses", "[I", true)
  | 4 => ("FarVoice$House", "amounts", "[I", true)
  | 5 => ("FarVoice$House", "ends", "[I", true)
  | 6 => ("FarVoice$House", "clauses", "I", false)
  | 7 => ("FarVoice$House", "steps", "[I", true)
  | _ => ("FarVoice$House", "stepCount", "I", false)
def tyX1 : Nat → FieldType := fun k => match k with
  | 0 => .array .int
  | 1 => .array .int
  | 2 => .int
  | 3 => .array .int
  | 4 => .array .int
  | 5 => .array .int
  | 6 => .int
  | 7 => .array .int
  | _ => .int
abbrev wsX10 : List Cond := u_ws RX1 TX1 9
theorem nmX1 : ∀ a, a < 9 → ∀ b, b < 9 → a ≠ b → (TX1 a).2.1 ≠ (TX1 b).2.1 := by decide +kernel
theorem tyX1_ok : ∀ k, k < 9 → parseFieldDescriptor (TX1 k).2.2.1 = some (tyX1 k) := by decide +kernel
abbrev cX1_init : ByteArray := prog_3_method_1_code
def yX1_init : MethodName := ⟨RX1, "<init>", "()V"⟩
abbrev cX1_clear : ByteArray := prog_3_method_2_code
def yX1_clear : MethodName := ⟨RX1, "clear", "()V"⟩
abbrev cX1_soundOf : ByteArray := prog_3_method_3_code
def yX1_soundOf : MethodName := ⟨RX1, "soundOf", "(II)I"⟩
abbrev cX1_swapOf : ByteArray := prog_3_method_4_code
def yX1_swapOf : MethodName := ⟨RX1, "swapOf", "(I)I"⟩
abbrev cX1_addStep : ByteArray := prog_3_method_5_code
def yX1_addStep : MethodName := ⟨RX1, "addStep", "(I)V"⟩
abbrev cX1_addClause : ByteArray := prog_3_method_6_code
def yX1_addClause : MethodName := ⟨RX1, "addClause", "(II)V"⟩
abbrev cX1_unsure : ByteArray := prog_3_method_7_code
def yX1_unsure : MethodName := ⟨RX1, "unsure", "(I[I)I"⟩
abbrev cX1_isTrue : ByteArray := prog_3_method_8_code
def yX1_isTrue : MethodName := ⟨RX1, "isTrue", "(I[I)Z"⟩
abbrev cX1_testStep : ByteArray := prog_3_method_9_code
def yX1_testStep : MethodName := ⟨RX1, "testStep", "(III)I"⟩
abbrev cX1_passes : ByteArray := prog_3_method_10_code
def yX1_passes : MethodName := ⟨RX1, "passes", "(I[I)Z"⟩
def RX2 : String := "FarVoice$Look"
def TX2 : u_T := fun k => match k with
  | 0 => ("FarVoice$Look", "facts", "[I", true)
  | 1 => ("FarVoice$Look", "ear", "I", false)
  | 2 => ("FarVoice$Look", "eye", "I", false)
  | 3 => ("FarVoice$Look", "sounds", "I", false)
  | 4 => ("FarVoice$Look", "inReach", "Z", false)
  | 5 => ("FarVoice$Look", "joined", "Z", false)
  | 6 => ("FarVoice$Look", "held", "I", false)
  | _ => ("FarVoice$Look", "caught", "Z", false)
def tyX2 : Nat → FieldType := fun k => match k with
  | 0 => .array .int
  | 1 => .int
  | 2 => .int
  | 3 => .int
  | 4 => .boolean
  | 5 => .boolean
  | 6 => .int
  | _ => .boolean
abbrev wsX20 : List Cond := u_ws RX2 TX2 8
theorem nmX2 : ∀ a, a < 8 → ∀ b, b < 8 → a ≠ b → (TX2 a).2.1 ≠ (TX2 b).2.1 := by decide +kernel
theorem tyX2_ok : ∀ k, k < 8 → parseFieldDescriptor (TX2 k).2.2.1 = some (tyX2 k) := by decide +kernel
abbrev cX2_init : ByteArray := prog_4_method_1_code
def yX2_init : MethodName := ⟨RX2, "<init>", "()V"⟩
abbrev cX2_ask : ByteArray := prog_4_method_2_code
def yX2_ask : MethodName := ⟨RX2, "ask", "(IIIII)V"⟩
abbrev cX2_reach : ByteArray := prog_4_method_3_code
def yX2_reach : MethodName := ⟨RX2, "reach", "()I"⟩
abbrev cX2_holdBetween : ByteArray := prog_4_method_4_code
def yX2_holdBetween : MethodName := ⟨RX2, "holdBetween", "(II)V"⟩
def RX3 : String := "FarVoice$Reader"
def TX3 : u_T := fun k => match k with
  | 0 => ("FarVoice$Reader", "text", "[C", false)
  | 1 => ("FarVoice$Reader", "length", "I", false)
  | 2 => ("FarVoice$Reader", "at", "I", false)
  | _ => ("FarVoice$Reader", "house", "LFarVoice$House;", false)
def tyX3 : Nat → FieldType := fun k => match k with
  | 0 => .array .char
  | 1 => .int
  | 2 => .int
  | _ => .object "FarVoice$House"
abbrev wsX30 : List Cond := u_ws RX3 TX3 4
theorem nmX3 : ∀ a, a < 4 → ∀ b, b < 4 → a ≠ b → (TX3 a).2.1 ≠ (TX3 b).2.1 := by decide +kernel
theorem tyX3_ok : ∀ k, k < 4 → parseFieldDescriptor (TX3 k).2.2.1 = some (tyX3 k) := by decide +kernel
abbrev cX3_init : ByteArray := prog_5_method_1_code
def yX3_init : MethodName := ⟨RX3, "<init>", "()V"⟩
abbrev cX3_faultOf : ByteArray := prog_5_method_2_code
def yX3_faultOf : MethodName := ⟨RX3, "faultOf", "([CILFarVoice$House;)I"⟩
abbrev cX3_readClause : ByteArray := prog_5_method_3_code
def yX3_readClause : MethodName := ⟨RX3, "readClause", "()Z"⟩
abbrev cX3_wordOf : ByteArray := prog_5_method_4_code
def yX3_wordOf : MethodName := ⟨RX3, "wordOf", "(I)Ljava/lang/String;"⟩
abbrev cX3_readWord : ByteArray := prog_5_method_5_code
def yX3_readWord : MethodName := ⟨RX3, "readWord", "()I"⟩
abbrev cX3_sameAs : ByteArray := prog_5_method_6_code
def yX3_sameAs : MethodName := ⟨RX3, "sameAs", "(Ljava/lang/String;)I"⟩
abbrev cX3_readLate : ByteArray := prog_5_method_7_code
def yX3_readLate : MethodName := ⟨RX3, "readLate", "()Z"⟩
abbrev cX3_readHears : ByteArray := prog_5_method_8_code
def yX3_readHears : MethodName := ⟨RX3, "readHears", "()Z"⟩
abbrev cX3_readSwap : ByteArray := prog_5_method_9_code
def yX3_readSwap : MethodName := ⟨RX3, "readSwap", "()Z"⟩
abbrev cX3_readAny : ByteArray := prog_5_method_10_code
def yX3_readAny : MethodName := ⟨RX3, "readAny", "(I)Z"⟩
abbrev cX3_readAll : ByteArray := prog_5_method_11_code
def yX3_readAll : MethodName := ⟨RX3, "readAll", "(I)Z"⟩
abbrev cX3_readFactor : ByteArray := prog_5_method_12_code
def yX3_readFactor : MethodName := ⟨RX3, "readFactor", "(I)Z"⟩
abbrev cX3_readTest : ByteArray := prog_5_method_13_code
def yX3_readTest : MethodName := ⟨RX3, "readTest", "()Z"⟩
abbrev cX3_skip : ByteArray := prog_5_method_14_code
def yX3_skip : MethodName := ⟨RX3, "skip", "(C)Z"⟩
abbrev cX3_readOneOf : ByteArray := prog_5_method_15_code
def yX3_readOneOf : MethodName := ⟨RX3, "readOneOf", "(Ljava/lang/String;)I"⟩
abbrev cX3_readFigure : ByteArray := prog_5_method_16_code
def yX3_readFigure : MethodName := ⟨RX3, "readFigure", "(I)I"⟩
abbrev cX3_readPart : ByteArray := prog_5_method_17_code
def yX3_readPart : MethodName := ⟨RX3, "readPart", "(I)I"⟩
abbrev cX3_readNumber : ByteArray := prog_5_method_18_code
def yX3_readNumber : MethodName := ⟨RX3, "readNumber", "()I"⟩
def RX4 : String := "FarVoice$Stage"
def TX4 : u_T := fun k => match k with
  | 0 => ("FarVoice$Stage", "mouth", "I", false)
  | 1 => ("FarVoice$Stage", "jaw", "I", false)
  | 2 => ("FarVoice$Stage", "moving", "J", false)
  | 3 => ("FarVoice$Stage", "words", "[I", true)
  | 4 => ("FarVoice$Stage", "letters", "I", false)
  | 5 => ("FarVoice$Stage", "slips", "I", false)
  | _ => ("FarVoice$Stage", "house", "I", false)
def tyX4 : Nat → FieldType := fun k => match k with
  | 0 => .int
  | 1 => .int
  | 2 => .long
  | 3 => .array .int
  | 4 => .int
  | 5 => .int
  | _ => .int
abbrev wsX40 : List Cond := u_ws RX4 TX4 7
theorem nmX4 : ∀ a, a < 7 → ∀ b, b < 7 → a ≠ b → (TX4 a).2.1 ≠ (TX4 b).2.1 := by decide +kernel
theorem tyX4_ok : ∀ k, k < 7 → parseFieldDescriptor (TX4 k).2.2.1 = some (tyX4 k) := by decide +kernel
abbrev cX4_init : ByteArray := prog_6_method_1_code
def yX4_init : MethodName := ⟨RX4, "<init>", "()V"⟩
abbrev cX4_become : ByteArray := prog_6_method_2_code
def yX4_become : MethodName := ⟨RX4, "become", "(LFarVoice$Stage;)V"⟩
abbrev cX4_tenthsSaidIn : ByteArray := prog_6_method_3_code
def yX4_tenthsSaidIn : MethodName := ⟨RX4, "tenthsSaidIn", "()I"⟩
abbrev cX4_letterIn : ByteArray := prog_6_method_4_code
def yX4_letterIn : MethodName := ⟨RX4, "letterIn", "(I)I"⟩
def RX5 : String := "FarVoice$Tape"
def TX5 : u_T := fun k => match k with
  | 0 => ("FarVoice$Tape", "sort", "I", false)
  | 1 => ("FarVoice$Tape", "length", "I", false)
  | _ => ("FarVoice$Tape", "items", "[J", true)
def tyX5 : Nat → FieldType := fun k => match k with
  | 0 => .int
  | 1 => .int
  | _ => .array .long
abbrev wsX50 : List Cond := u_ws RX5 TX5 3
theorem nmX5 : ∀ a, a < 3 → ∀ b, b < 3 → a ≠ b → (TX5 a).2.1 ≠ (TX5 b).2.1 := by decide +kernel
theorem tyX5_ok : ∀ k, k < 3 → parseFieldDescriptor (TX5 k).2.2.1 = some (tyX5 k) := by decide +kernel
abbrev cX5_init : ByteArray := prog_7_method_1_code
def yX5_init : MethodName := ⟨RX5, "<init>", "()V"⟩
abbrev cX5_lay : ByteArray := prog_7_method_2_code
def yX5_lay : MethodName := ⟨RX5, "lay", "(II)V"⟩
abbrev cX5_isRow : ByteArray := prog_7_method_3_code
def yX5_isRow : MethodName := ⟨RX5, "isRow", "()Z"⟩
abbrev cX5_has : ByteArray := prog_7_method_4_code
def yX5_has : MethodName := ⟨RX5, "has", "(I)Z"⟩
abbrev cX5_hasRun : ByteArray := prog_7_method_5_code
def yX5_hasRun : MethodName := ⟨RX5, "hasRun", "(II)Z"⟩
abbrev cX5_put : ByteArray := prog_7_method_6_code
def yX5_put : MethodName := ⟨RX5, "put", "(IJ)V"⟩
def RX6 : String := "FarVoice$Voice"
def TX6 : u_T := fun k => match k with
  | 0 => ("FarVoice$Voice", "number", "I", true)
  | 1 => ("FarVoice$Voice", "kind", "I", true)
  | _ => ("FarVoice$Voice", "v", "I", true)
def tyX6 : Nat → FieldType := fun k => match k with
  | 0 => .int
  | 1 => .int
  | _ => .int
abbrev wsX60 : List Cond := u_ws RX6 TX6 3
theorem nmX6 : ∀ a, a < 3 → ∀ b, b < 3 → a ≠ b → (TX6 a).2.1 ≠ (TX6 b).2.1 := by decide +kernel
theorem tyX6_ok : ∀ k, k < 3 → parseFieldDescriptor (TX6 k).2.2.1 = some (tyX6 k) := by decide +kernel
abbrev cX6_init : ByteArray := prog_8_method_1_code
def yX6_init : MethodName := ⟨RX6, "<init>", "(III)V"⟩
abbrev cX6_isOf : ByteArray := prog_8_method_2_code
def yX6_isOf : MethodName := ⟨RX6, "isOf", "(I)Z"⟩
abbrev cX6_soundsAt : ByteArray := prog_8_method_3_code
def yX6_soundsAt : MethodName := ⟨RX6, "soundsAt", "(II)I"⟩
abbrev cX6_earOf : ByteArray := prog_8_method_4_code
def yX6_earOf : MethodName := ⟨RX6, "earOf", "(I)I"⟩
abbrev cX6_movingOf : ByteArray := prog_8_method_5_code
def yX6_movingOf : MethodName := ⟨RX6, "movingOf", "(J)J"⟩
abbrev cX6_isApartIn : ByteArray := prog_8_method_6_code
def yX6_isApartIn : MethodName := ⟨RX6, "isApartIn", "(I)Z"⟩
def RX7 : String := "FarVoice"
def TX7 : u_T := fun k => match k with
  | 0 => ("FarVoice", "stage", "LFarVoice$Stage;", true)
  | 1 => ("FarVoice", "image", "LFarVoice$Stage;", true)
  | 2 => ("FarVoice", "imageTaken", "Z", false)
  | 3 => ("FarVoice", "far", "[I", true)
  | 4 => ("FarVoice", "side", "[I", true)
  | 5 => ("FarVoice", "seats", "I", false)
  | 6 => ("FarVoice", "text", "[C", true)
  | 7 => ("FarVoice", "textLength", "I", false)
  | 8 => ("FarVoice", "houses", "[LFarVoice$House;", true)
  | 9 => ("FarVoice", "houseCount", "I", false)
  | 10 => ("FarVoice", "reader", "LFarVoice$Reader;", true)
  | 11 => ("FarVoice", "voices", "[LFarVoice$Voice;", true)
  | 12 => ("FarVoice", "voiceCount", "I", false)
  | 13 => ("FarVoice", "acting", "LFarVoice$Acting;", true)
  | 14 => ("FarVoice", "tapes", "[LFarVoice$Tape;", true)
  | _ => ("FarVoice", "look", "LFarVoice$Look;", true)
def tyX7 : Nat → FieldType := fun k => match k with
  | 0 => .object "FarVoice$Stage"
  | 1 => .object "FarVoice$Stage"
  | 2 => .boolean
  | 3 => .array .int
  | 4 => .array .int
  | 5 => .int
  | 6 => .array .char
  | 7 => .int
  | 8 => .array (.object "FarVoice$House")
  | 9 => .int
  | 10 => .object "FarVoice$Reader"
  | 11 => .array (.object "FarVoice$Voice")
  | 12 => .int
  | 13 => .object "FarVoice$Acting"
  | 14 => .array (.object "FarVoice$Tape")
  | _ => .object "FarVoice$Look"
abbrev wsX70 : List Cond := u_ws RX7 TX7 16
theorem nmX7 : ∀ a, a < 16 → ∀ b, b < 16 → a ≠ b → (TX7 a).2.1 ≠ (TX7 b).2.1 := by decide +kernel
theorem tyX7_ok : ∀ k, k < 16 → parseFieldDescriptor (TX7 k).2.2.1 = some (tyX7 k) := by decide +kernel
abbrev cX7_init : ByteArray := prog_1_method_1_code
def yX7_init : MethodName := ⟨RX7, "<init>", "()V"⟩
abbrev cX7_mouth : ByteArray := prog_1_method_2_code
def yX7_mouth : MethodName := ⟨RX7, "mouth", "(I)I"⟩
abbrev cX7_jaw : ByteArray := prog_1_method_3_code
def yX7_jaw : MethodName := ⟨RX7, "jaw", "(IJ)I"⟩
abbrev cX7_seat : ByteArray := prog_1_method_4_code
def yX7_seat : MethodName := ⟨RX7, "seat", "(II)I"⟩
abbrev cX7_of : ByteArray := prog_1_method_5_code
def yX7_of : MethodName := ⟨RX7, "of", "(II)I"⟩
abbrev cX7_say : ByteArray := prog_1_method_6_code
def yX7_say : MethodName := ⟨RX7, "say", "(I)I"⟩
abbrev cX7_feed : ByteArray := prog_1_method_7_code
def yX7_feed : MethodName := ⟨RX7, "feed", "(II)I"⟩
abbrev cX7_house : ByteArray := prog_1_method_8_code
def yX7_house : MethodName := ⟨RX7, "house", "()I"⟩
abbrev cX7_told : ByteArray := prog_1_method_9_code
def yX7_told : MethodName := ⟨RX7, "told", "(II)I"⟩
abbrev cX7_voice : ByteArray := prog_1_method_10_code
def yX7_voice : MethodName := ⟨RX7, "voice", "(II)I"⟩
abbrev cX7_held : ByteArray := prog_1_method_11_code
def yX7_held : MethodName := ⟨RX7, "held", "(IIII)I"⟩
abbrev cX7_heard : ByteArray := prog_1_method_12_code
def yX7_heard : MethodName := ⟨RX7, "heard", "(IIII)I"⟩
abbrev cX7_houseful : ByteArray := prog_1_method_13_code
def yX7_houseful : MethodName := ⟨RX7, "houseful", "(II)I"⟩
abbrev cX7_drawn : ByteArray := prog_1_method_14_code
def yX7_drawn : MethodName := ⟨RX7, "drawn", "(III)I"⟩
abbrev cX7_latest : ByteArray := prog_1_method_15_code
def yX7_latest : MethodName := ⟨RX7, "latest", "(II)I"⟩
abbrev cX7_wrong : ByteArray := prog_1_method_16_code
def yX7_wrong : MethodName := ⟨RX7, "wrong", "(II)I"⟩
abbrev cX7_swap : ByteArray := prog_1_method_17_code
def yX7_swap : MethodName := ⟨RX7, "swap", "(III)I"⟩
abbrev cX7_changed : ByteArray := prog_1_method_18_code
def yX7_changed : MethodName := ⟨RX7, "changed", "(II)I"⟩
abbrev cX7_boxes : ByteArray := prog_1_method_19_code
def yX7_boxes : MethodName := ⟨RX7, "boxes", "(II)I"⟩
abbrev cX7_slips : ByteArray := prog_1_method_20_code
def yX7_slips : MethodName := ⟨RX7, "slips", "(I)I"⟩
abbrev cX7_sure : ByteArray := prog_1_method_21_code
def yX7_sure : MethodName := ⟨RX7, "sure", "(IIII)J"⟩
abbrev cX7_changes : ByteArray := prog_1_method_22_code
def yX7_changes : MethodName := ⟨RX7, "changes", "(IIII)I"⟩
abbrev cX7_judge : ByteArray := prog_1_method_23_code
def yX7_judge : MethodName := ⟨RX7, "judge", "(IIII)I"⟩
abbrev cX7_image : ByteArray := prog_1_method_24_code
def yX7_image : MethodName := ⟨RX7, "image", "()I"⟩
abbrev cX7_undo : ByteArray := prog_1_method_25_code
def yX7_undo : MethodName := ⟨RX7, "undo", "()I"⟩
abbrev cX7_act : ByteArray := prog_1_method_26_code
def yX7_act : MethodName := ⟨RX7, "act", "(III)I"⟩
abbrev cX7_trace : ByteArray := prog_1_method_27_code
def yX7_trace : MethodName := ⟨RX7, "trace", "(I)I"⟩
abbrev cX7_taken : ByteArray := prog_1_method_28_code
def yX7_taken : MethodName := ⟨RX7, "taken", "(II)I"⟩
abbrev cX7_count : ByteArray := prog_1_method_29_code
def yX7_count : MethodName := ⟨RX7, "count", "(I)I"⟩
abbrev cX7_tape : ByteArray := prog_1_method_30_code
def yX7_tape : MethodName := ⟨RX7, "tape", "(III)I"⟩
abbrev cX7_item : ByteArray := prog_1_method_31_code
def yX7_item : MethodName := ⟨RX7, "item", "(IIJ)I"⟩
abbrev cX7_read : ByteArray := prog_1_method_32_code
def yX7_read : MethodName := ⟨RX7, "read", "(II)J"⟩
abbrev cX7_shift : ByteArray := prog_1_method_33_code
def yX7_shift : MethodName := ⟨RX7, "shift", "(IIIII)I"⟩
abbrev cX7_isPlace : ByteArray := prog_1_method_34_code
def yX7_isPlace : MethodName := ⟨RX7, "isPlace", "(I)Z"⟩
abbrev cX7_isTenth : ByteArray := prog_1_method_35_code
def yX7_isTenth : MethodName := ⟨RX7, "isTenth", "(I)Z"⟩
abbrev cX7_isLetter : ByteArray := prog_1_method_36_code
def yX7_isLetter : MethodName := ⟨RX7, "isLetter", "(I)Z"⟩
abbrev cX7_isTape : ByteArray := prog_1_method_37_code
def yX7_isTape : MethodName := ⟨RX7, "isTape", "(I)Z"⟩
abbrev cX7_isSeat : ByteArray := prog_1_method_38_code
def yX7_isSeat : MethodName := ⟨RX7, "isSeat", "(I)Z"⟩
abbrev cX7_isSaid : ByteArray := prog_1_method_39_code
def yX7_isSaid : MethodName := ⟨RX7, "isSaid", "(I)Z"⟩
abbrev cX7_voiceAt : ByteArray := prog_1_method_40_code
def yX7_voiceAt : MethodName := ⟨RX7, "voiceAt", "(I)LFarVoice$Voice;"⟩
abbrev cX7_holding : ByteArray := prog_1_method_41_code
def yX7_holding : MethodName := ⟨RX7, "holding", "()LFarVoice$House;"⟩
abbrev cX7_lookAt : ByteArray := prog_1_method_42_code
def yX7_lookAt : MethodName := ⟨RX7, "lookAt", "(LFarVoice$Voice;II)LFarVoice$Look;"⟩
abbrev cX7_canJoin : ByteArray := prog_1_method_43_code
def yX7_canJoin : MethodName := ⟨RX7, "canJoin", "(LFarVoice$Voice;I)Z"⟩
abbrev cX7_later : ByteArray := prog_1_method_44_code
def yX7_later : MethodName := ⟨RX7, "later", "(JI)J"⟩
abbrev cX7_movingAround : ByteArray := prog_1_method_45_code
def yX7_movingAround : MethodName := ⟨RX7, "movingAround", "(JI)J"⟩
abbrev cX7_isMoving : ByteArray := prog_1_method_46_code
def yX7_isMoving : MethodName := ⟨RX7, "isMoving", "(JI)Z"⟩
abbrev cX7_isMovingThroughout : ByteArray := prog_1_method_47_code
def yX7_isMovingThroughout : MethodName := ⟨RX7, "isMovingThroughout", "(JI)Z"⟩
abbrev cX7_isAlwaysCaught : ByteArray := prog_1_method_48_code
def yX7_isAlwaysCaught : MethodName := ⟨RX7, "isAlwaysCaught", "(LFarVoice$Voice;I)Z"⟩
abbrev cX7_joinedSeats : ByteArray := prog_1_method_49_code
def yX7_joinedSeats : MethodName := ⟨RX7, "joinedSeats", "(LFarVoice$Voice;I)I"⟩
abbrev cX7_letterSaid : ByteArray := prog_1_method_50_code
def yX7_letterSaid : MethodName := ⟨RX7, "letterSaid", "(LFarVoice$Voice;I)I"⟩
abbrev cX7_soundAt : ByteArray := prog_1_method_51_code
def yX7_soundAt : MethodName := ⟨RX7, "soundAt", "(IIZ)I"⟩
abbrev cX7_letterHeard : ByteArray := prog_1_method_52_code
def yX7_letterHeard : MethodName := ⟨RX7, "letterHeard", "(LFarVoice$Voice;II)I"⟩
abbrev cX7_isRight : ByteArray := prog_1_method_53_code
def yX7_isRight : MethodName := ⟨RX7, "isRight", "(LFarVoice$Voice;II)Z"⟩
abbrev cX7_canBeHeard : ByteArray := prog_1_method_54_code
def yX7_canBeHeard : MethodName := ⟨RX7, "canBeHeard", "(LFarVoice$Voice;II)Z"⟩
abbrev cX7_seatsHearing : ByteArray := prog_1_method_55_code
def yX7_seatsHearing : MethodName := ⟨RX7, "seatsHearing", "(III)I"⟩
abbrev cX7_boxesSum : ByteArray := prog_1_method_56_code
def yX7_boxesSum : MethodName := ⟨RX7, "boxesSum", "(II)I"⟩
abbrev cX7_bestBoxes : ByteArray := prog_1_method_57_code
def yX7_bestBoxes : MethodName := ⟨RX7, "bestBoxes", "(I)I"⟩
abbrev cX7_partOfSure : ByteArray := prog_1_method_58_code
def yX7_partOfSure : MethodName := ⟨RX7, "partOfSure", "(II)J"⟩
def RX8 : String := "FarVoiceModel"
def TX8 : u_T := fun k => match k with
  | 0 => ("FarVoiceModel", "mouth", "I", false)
  | 1 => ("FarVoiceModel", "jaw", "I", false)
  | 2 => ("FarVoiceModel", "seats", "I", false)
  | 3 => ("FarVoiceModel", "letters", "I", false)
  | 4 => ("FarVoiceModel", "slips", "I", false)
  | 5 => ("FarVoiceModel", "moves", "J", false)
  | 6 => ("FarVoiceModel", "far", "[I", true)
  | 7 => ("FarVoiceModel", "side", "[I", true)
  | 8 => ("FarVoiceModel", "letter", "[I", true)
  | 9 => ("FarVoiceModel", "houses", "I", false)
  | 10 => ("FarVoiceModel", "the", "I", false)
  | 11 => ("FarVoiceModel", "fed", "I", false)
  | 12 => ("FarVoiceModel", "at", "I", false)
  | 13 => ("FarVoiceModel", "digits", "I", false)
  | 14 => ("FarVoiceModel", "text", "[I", true)
  | 15 => ("FarVoiceModel", "clauses", "[I", true)
  | 16 => ("FarVoiceModel", "word", "[I", true)
  | 17 => ("FarVoiceModel", "spot", "[I", true)
  | 18 => ("FarVoiceModel", "number", "[I", true)
  | 19 => ("FarVoiceModel", "from", "[I", true)
  | 20 => ("FarVoiceModel", "to", "[I", true)
  | 21 => ("FarVoiceModel", "sign", "[I", true)
  | 22 => ("FarVoiceModel", "waits", "[I", true)
  | 23 => ("FarVoiceModel", "signs", "I", false)
  | 24 => ("FarVoiceModel", "waiting", "I", false)
  | 25 => ("FarVoiceModel", "open", "I", false)
  | 26 => ("FarVoiceModel", "letterOfWords", "[I", true)
  | 27 => ("FarVoiceModel", "voices", "I", false)
  | 28 => ("FarVoiceModel", "kind", "[I", true)
  | 29 => ("FarVoiceModel", "v", "[I", true)
  | 30 => ("FarVoiceModel", "pile", "[Z", true)
  | 31 => ("FarVoiceModel", "hasImage", "Z", false)
  | 32 => ("FarVoiceModel", "imageThe", "I", false)
  | 33 => ("FarVoiceModel", "imageMouth", "I", false)
  | 34 => ("FarVoiceModel", "imageJaw", "I", false)
  | 35 => ("FarVoiceModel", "imageLetters", "I", false)
  | 36 => ("FarVoiceModel", "imageSlips", "I", false)
  | 37 => ("FarVoiceModel", "imageMoves", "J", false)
  | 38 => ("FarVoiceModel", "imageLetter", "[I", true)
  | 39 => ("FarVoiceModel", "ran", "I", false)
  | 40 => ("FarVoiceModel", "bodies", "[I", true)
  | 41 => ("FarVoiceModel", "sort", "[I", true)
  | 42 => ("FarVoiceModel", "length", "[I", true)
  | 43 => ("FarVoiceModel", "item", "[J", true)
  | _ => ("FarVoiceModel", "aside", "[J", true)
def tyX8 : Nat → FieldType := fun k => match k with
  | 0 => .int
  | 1 => .int
  | 2 => .int
  | 3 => .int
  | 4 => .int
  | 5 => .long
  | 6 => .array .int
  | 7 => .array .int
  | 8 => .array .int
  | 9 => .int
  | 10 => .int
  | 11 => .int
  | 12 => .int
  | 13 => .int
  | 14 => .array .int
  | 15 => .array .int
  | 16 => .array .int
  | 17 => .array .int
  | 18 => .array .int
  | 19 => .array .int
  | 20 => .array .int
  | 21 => .array .int
  | 22 => .array .int
  | 23 => .int
  | 24 => .int
  | 25 => .int
  | 26 => .array .int
  | 27 => .int
  | 28 => .array .int
  | 29 => .array .int
  | 30 => .array .boolean
  | 31 => .boolean
  | 32 => .int
  | 33 => .int
  | 34 => .int
  | 35 => .int
  | 36 => .int
  | 37 => .long
  | 38 => .array .int
  | 39 => .int
  | 40 => .array .int
  | 41 => .array .int
  | 42 => .array .int
  | 43 => .array .long
  | _ => .array .long
abbrev wsX80 : List Cond := u_ws RX8 TX8 45
theorem nmX8 : ∀ a, a < 45 → ∀ b, b < 45 → a ≠ b → (TX8 a).2.1 ≠ (TX8 b).2.1 := by decide +kernel
theorem tyX8_ok : ∀ k, k < 45 → parseFieldDescriptor (TX8 k).2.2.1 = some (tyX8 k) := by decide +kernel
abbrev cX8_init : ByteArray := prog_10_method_1_code
def yX8_init : MethodName := ⟨RX8, "<init>", "()V"⟩
abbrev cX8_in : ByteArray := prog_10_method_2_code
def yX8_in : MethodName := ⟨RX8, "in", "(III)Z"⟩
abbrev cX8_min : ByteArray := prog_10_method_3_code
def yX8_min : MethodName := ⟨RX8, "min", "(II)I"⟩
abbrev cX8_apart : ByteArray := prog_10_method_4_code
def yX8_apart : MethodName := ⟨RX8, "apart", "(II)I"⟩
abbrev cX8_isPlace : ByteArray := prog_10_method_5_code
def yX8_isPlace : MethodName := ⟨RX8, "isPlace", "(I)Z"⟩
abbrev cX8_isSeat : ByteArray := prog_10_method_6_code
def yX8_isSeat : MethodName := ⟨RX8, "isSeat", "(I)Z"⟩
abbrev cX8_mouth : ByteArray := prog_10_method_7_code
def yX8_mouth : MethodName := ⟨RX8, "mouth", "(I)I"⟩
abbrev cX8_jaw : ByteArray := prog_10_method_8_code
def yX8_jaw : MethodName := ⟨RX8, "jaw", "(IJ)I"⟩
abbrev cX8_seat : ByteArray := prog_10_method_9_code
def yX8_seat : MethodName := ⟨RX8, "seat", "(II)I"⟩
abbrev cX8_of : ByteArray := prog_10_method_10_code
def yX8_of : MethodName := ⟨RX8, "of", "(II)I"⟩
abbrev cX8_say : ByteArray := prog_10_method_11_code
def yX8_say : MethodName := ⟨RX8, "say", "(I)I"⟩
abbrev cX8_feed : ByteArray := prog_10_method_12_code
def yX8_feed : MethodName := ⟨RX8, "feed", "(II)I"⟩
abbrev cX8_next : ByteArray := prog_10_method_13_code
def yX8_next : MethodName := ⟨RX8, "next", "()I"⟩
abbrev cX8_second : ByteArray := prog_10_method_14_code
def yX8_second : MethodName := ⟨RX8, "second", "()I"⟩
abbrev cX8_takesSign : ByteArray := prog_10_method_15_code
def yX8_takesSign : MethodName := ⟨RX8, "takesSign", "(I)Z"⟩
abbrev cX8_takesWord : ByteArray := prog_10_method_16_code
def yX8_takesWord : MethodName := ⟨RX8, "takesWord", "(II)Z"⟩
abbrev cX8_isDigit : ByteArray := prog_10_method_17_code
def yX8_isDigit : MethodName := ⟨RX8, "isDigit", "()Z"⟩
abbrev cX8_takesNumber : ByteArray := prog_10_method_18_code
def yX8_takesNumber : MethodName := ⟨RX8, "takesNumber", "()Z"⟩
abbrev cX8_put : ByteArray := prog_10_method_19_code
def yX8_put : MethodName := ⟨RX8, "put", "(I)V"⟩
abbrev cX8_whole : ByteArray := prog_10_method_20_code
def yX8_whole : MethodName := ⟨RX8, "whole", "()V"⟩
abbrev cX8_settle : ByteArray := prog_10_method_21_code
def yX8_settle : MethodName := ⟨RX8, "settle", "(I)V"⟩
abbrev cX8_place : ByteArray := prog_10_method_22_code
def yX8_place : MethodName := ⟨RX8, "place", "(I)I"⟩
abbrev cX8_takesTest : ByteArray := prog_10_method_23_code
def yX8_takesTest : MethodName := ⟨RX8, "takesTest", "()Z"⟩
abbrev cX8_takesE : ByteArray := prog_10_method_24_code
def yX8_takesE : MethodName := ⟨RX8, "takesE", "(I)Z"⟩
abbrev cX8_takesFigure : ByteArray := prog_10_method_25_code
def yX8_takesFigure : MethodName := ⟨RX8, "takesFigure", "(I)Z"⟩
abbrev cX8_takesHead : ByteArray := prog_10_method_26_code
def yX8_takesHead : MethodName := ⟨RX8, "takesHead", "(I)Z"⟩
abbrev cX8_takesClause : ByteArray := prog_10_method_27_code
def yX8_takesClause : MethodName := ⟨RX8, "takesClause", "(I)Z"⟩
abbrev cX8_goesText : ByteArray := prog_10_method_28_code
def yX8_goesText : MethodName := ⟨RX8, "goesText", "(I)Z"⟩
abbrev cX8_house : ByteArray := prog_10_method_29_code
def yX8_house : MethodName := ⟨RX8, "house", "()I"⟩
abbrev cX8_first : ByteArray := prog_10_method_30_code
def yX8_first : MethodName := ⟨RX8, "first", "()I"⟩
abbrev cX8_behind : ByteArray := prog_10_method_31_code
def yX8_behind : MethodName := ⟨RX8, "behind", "()I"⟩
abbrev cX8_last : ByteArray := prog_10_method_32_code
def yX8_last : MethodName := ⟨RX8, "last", "(III)I"⟩
abbrev cX8_lateNow : ByteArray := prog_10_method_33_code
def yX8_lateNow : MethodName := ⟨RX8, "lateNow", "()I"⟩
abbrev cX8_hears : ByteArray := prog_10_method_34_code
def yX8_hears : MethodName := ⟨RX8, "hears", "(II)I"⟩
abbrev cX8_told : ByteArray := prog_10_method_35_code
def yX8_told : MethodName := ⟨RX8, "told", "(II)I"⟩
abbrev cX8_isVoice : ByteArray := prog_10_method_36_code
def yX8_isVoice : MethodName := ⟨RX8, "isVoice", "(I)Z"⟩
abbrev cX8_voice : ByteArray := prog_10_method_37_code
def yX8_voice : MethodName := ⟨RX8, "voice", "(II)I"⟩
abbrev cX8_isSaid : ByteArray := prog_10_method_38_code
def yX8_isSaid : MethodName := ⟨RX8, "isSaid", "(I)Z"⟩
abbrev cX8_factOf : ByteArray := prog_10_method_39_code
def yX8_factOf : MethodName := ⟨RX8, "factOf", "(IIII)I"⟩
abbrev cX8_holds : ByteArray := prog_10_method_40_code
def yX8_holds : MethodName := ⟨RX8, "holds", "(IIII)Z"⟩
abbrev cX8_unsure : ByteArray := prog_10_method_41_code
def yX8_unsure : MethodName := ⟨RX8, "unsure", "(IIII)I"⟩
abbrev cX8_earOf : ByteArray := prog_10_method_42_code
def yX8_earOf : MethodName := ⟨RX8, "earOf", "(III)I"⟩
abbrev cX8_soundsOf : ByteArray := prog_10_method_43_code
def yX8_soundsOf : MethodName := ⟨RX8, "soundsOf", "(II)I"⟩
abbrev cX8_movesBy : ByteArray := prog_10_method_44_code
def yX8_movesBy : MethodName := ⟨RX8, "movesBy", "(III)I"⟩
abbrev cX8_mayJoin : ByteArray := prog_10_method_45_code
def yX8_mayJoin : MethodName := ⟨RX8, "mayJoin", "(IIII)Z"⟩
abbrev cX8_joined : ByteArray := prog_10_method_46_code
def yX8_joined : MethodName := ⟨RX8, "joined", "(IIIII)Z"⟩
abbrev cX8_heldOf : ByteArray := prog_10_method_47_code
def yX8_heldOf : MethodName := ⟨RX8, "heldOf", "(III)I"⟩
abbrev cX8_isCaught : ByteArray := prog_10_method_48_code
def yX8_isCaught : MethodName := ⟨RX8, "isCaught", "(III)Z"⟩
abbrev cX8_held : ByteArray := prog_10_method_49_code
def yX8_held : MethodName := ⟨RX8, "held", "(IIII)I"⟩
abbrev cX8_saidOf : ByteArray := prog_10_method_50_code
def yX8_saidOf : MethodName := ⟨RX8, "saidOf", "(II)I"⟩
abbrev cX8_heardOf : ByteArray := prog_10_method_51_code
def yX8_heardOf : MethodName := ⟨RX8, "heardOf", "(IIII)I"⟩
abbrev cX8_isRight : ByteArray := prog_10_method_52_code
def yX8_isRight : MethodName := ⟨RX8, "isRight", "(III)Z"⟩
abbrev cX8_heard : ByteArray := prog_10_method_53_code
def yX8_heard : MethodName := ⟨RX8, "heard", "(IIII)I"⟩
abbrev cX8_houseful : ByteArray := prog_10_method_54_code
def yX8_houseful : MethodName := ⟨RX8, "houseful", "(II)I"⟩
abbrev cX8_drawn : ByteArray := prog_10_method_55_code
def yX8_drawn : MethodName := ⟨RX8, "drawn", "(III)I"⟩
abbrev cX8_latest : ByteArray := prog_10_method_56_code
def yX8_latest : MethodName := ⟨RX8, "latest", "(II)I"⟩
abbrev cX8_wrong : ByteArray := prog_10_method_57_code
def yX8_wrong : MethodName := ⟨RX8, "wrong", "(II)I"⟩
abbrev cX8_swap : ByteArray := prog_10_method_58_code
def yX8_swap : MethodName := ⟨RX8, "swap", "(III)I"⟩
abbrev cX8_changed : ByteArray := prog_10_method_59_code
def yX8_changed : MethodName := ⟨RX8, "changed", "(II)I"⟩
abbrev cX8_boxes : ByteArray := prog_10_method_60_code
def yX8_boxes : MethodName := ⟨RX8, "boxes", "(II)I"⟩
abbrev cX8_slips : ByteArray := prog_10_method_61_code
def yX8_slips : MethodName := ⟨RX8, "slips", "(I)I"⟩
abbrev cX8_divisor : ByteArray := prog_10_method_62_code
def yX8_divisor : MethodName := ⟨RX8, "divisor", "(JJ)J"⟩
abbrev cX8_sure : ByteArray := prog_10_method_63_code
def yX8_sure : MethodName := ⟨RX8, "sure", "(IIII)J"⟩
abbrev cX8_changes : ByteArray := prog_10_method_64_code
def yX8_changes : MethodName := ⟨RX8, "changes", "(IIII)I"⟩
abbrev cX8_judge : ByteArray := prog_10_method_65_code
def yX8_judge : MethodName := ⟨RX8, "judge", "(IIII)I"⟩
abbrev cX8_image : ByteArray := prog_10_method_66_code
def yX8_image : MethodName := ⟨RX8, "image", "()I"⟩
abbrev cX8_undo : ByteArray := prog_10_method_67_code
def yX8_undo : MethodName := ⟨RX8, "undo", "()I"⟩
abbrev cX8_body : ByteArray := prog_10_method_68_code
def yX8_body : MethodName := ⟨RX8, "body", "(I)V"⟩
abbrev cX8_plainHears : ByteArray := prog_10_method_69_code
def yX8_plainHears : MethodName := ⟨RX8, "plainHears", "(II)I"⟩
abbrev cX8_hearsAct : ByteArray := prog_10_method_70_code
def yX8_hearsAct : MethodName := ⟨RX8, "hearsAct", "(II)I"⟩
abbrev cX8_plainSees : ByteArray := prog_10_method_71_code
def yX8_plainSees : MethodName := ⟨RX8, "plainSees", "(II)I"⟩
abbrev cX8_nearSees : ByteArray := prog_10_method_72_code
def yX8_nearSees : MethodName := ⟨RX8, "nearSees", "(II)I"⟩
abbrev cX8_seesAct : ByteArray := prog_10_method_73_code
def yX8_seesAct : MethodName := ⟨RX8, "seesAct", "(II)I"⟩
abbrev cX8_plainTells : ByteArray := prog_10_method_74_code
def yX8_plainTells : MethodName := ⟨RX8, "plainTells", "(II)I"⟩
abbrev cX8_tellsAct : ByteArray := prog_10_method_75_code
def yX8_tellsAct : MethodName := ⟨RX8, "tellsAct", "(II)I"⟩
abbrev cX8_act : ByteArray := prog_10_method_76_code
def yX8_act : MethodName := ⟨RX8, "act", "(III)I"⟩
abbrev cX8_trace : ByteArray := prog_10_method_77_code
def yX8_trace : MethodName := ⟨RX8, "trace", "(I)I"⟩
abbrev cX8_taken : ByteArray := prog_10_method_78_code
def yX8_taken : MethodName := ⟨RX8, "taken", "(II)I"⟩
abbrev cX8_count : ByteArray := prog_10_method_79_code
def yX8_count : MethodName := ⟨RX8, "count", "(I)I"⟩
abbrev cX8_isTape : ByteArray := prog_10_method_80_code
def yX8_isTape : MethodName := ⟨RX8, "isTape", "(I)Z"⟩
abbrev cX8_tape : ByteArray := prog_10_method_81_code
def yX8_tape : MethodName := ⟨RX8, "tape", "(III)I"⟩
abbrev cX8_narrow : ByteArray := prog_10_method_82_code
def yX8_narrow : MethodName := ⟨RX8, "narrow", "(IJ)J"⟩
abbrev cX8_item : ByteArray := prog_10_method_83_code
def yX8_item : MethodName := ⟨RX8, "item", "(IIJ)I"⟩
abbrev cX8_read : ByteArray := prog_10_method_84_code
def yX8_read : MethodName := ⟨RX8, "read", "(II)J"⟩
abbrev cX8_shift : ByteArray := prog_10_method_85_code
def yX8_shift : MethodName := ⟨RX8, "shift", "(IIIII)I"⟩
def RJ11 : String := "java/lang/Character"
def TJ11 : u_T := fun k => match k with
  | _ => ("", "", "", false)
def tyJ11 : Nat → FieldType := fun k => match k with
  | _ => .int
abbrev wsJ110 : List Cond := u_ws RJ11 TJ11 0
theorem nmJ11 : ∀ a, a < 0 → ∀ b, b < 0 → a ≠ b → (TJ11 a).2.1 ≠ (TJ11 b).2.1 := by decide +kernel
theorem tyJ11_ok : ∀ k, k < 0 → parseFieldDescriptor (TJ11 k).2.2.1 = some (tyJ11 k) := by decide +kernel
abbrev cJ11_isValidCodePoint_9a6ad : ByteArray := prog_11_method_11_code
def yJ11_isValidCodePoint_9a6ad : MethodName := ⟨RJ11, "isValidCodePoint", "(I)Z"⟩
abbrev cJ11_highSurrogate_5068e : ByteArray := prog_11_method_28_code
def yJ11_highSurrogate_5068e : MethodName := ⟨RJ11, "highSurrogate", "(I)C"⟩
abbrev cJ11_lowSurrogate_5068e : ByteArray := prog_11_method_29_code
def yJ11_lowSurrogate_5068e : MethodName := ⟨RJ11, "lowSurrogate", "(I)C"⟩
def RJ13 : String := "java/lang/Long"
def TJ13 : u_T := fun k => match k with
  | _ => ("", "", "", false)
def tyJ13 : Nat → FieldType := fun k => match k with
  | _ => .int
abbrev wsJ130 : List Cond := u_ws RJ13 TJ13 0
theorem nmJ13 : ∀ a, a < 0 → ∀ b, b < 0 → a ≠ b → (TJ13 a).2.1 ≠ (TJ13 b).2.1 := by decide +kernel
theorem tyJ13_ok : ∀ k, k < 0 → parseFieldDescriptor (TJ13 k).2.2.1 = some (tyJ13 k) := by decide +kernel
abbrev cJ13_bitCount_95d88 : ByteArray := prog_12_method_50_code
def yJ13_bitCount_95d88 : MethodName := ⟨RJ13, "bitCount", "(J)I"⟩
def RJ9 : String := "java/lang/Math"
def TJ9 : u_T := fun k => match k with
  | _ => ("", "", "", false)
def tyJ9 : Nat → FieldType := fun k => match k with
  | _ => .int
abbrev wsJ90 : List Cond := u_ws RJ9 TJ9 0
theorem nmJ9 : ∀ a, a < 0 → ∀ b, b < 0 → a ≠ b → (TJ9 a).2.1 ≠ (TJ9 b).2.1 := by decide +kernel
theorem tyJ9_ok : ∀ k, k < 0 → parseFieldDescriptor (TJ9 k).2.2.1 = some (tyJ9 k) := by decide +kernel
abbrev cJ9_abs_0f7a4 : ByteArray := prog_13_method_59_code
def yJ9_abs_0f7a4 : MethodName := ⟨RJ9, "abs", "(I)I"⟩
abbrev cJ9_max_7cf53 : ByteArray := prog_13_method_65_code
def yJ9_max_7cf53 : MethodName := ⟨RJ9, "max", "(II)I"⟩
abbrev cJ9_min_7cf53 : ByteArray := prog_13_method_69_code
def yJ9_min_7cf53 : MethodName := ⟨RJ9, "min", "(II)I"⟩
def RJ0 : String := "java/lang/String"
def TJ0 : u_T := fun k => match k with
  | _ => ("", "", "", false)
def tyJ0 : Nat → FieldType := fun k => match k with
  | _ => .int
abbrev wsJ00 : List Cond := u_ws RJ0 TJ0 0
theorem nmJ0 : ∀ a, a < 0 → ∀ b, b < 0 → a ≠ b → (TJ0 a).2.1 ≠ (TJ0 b).2.1 := by decide +kernel
theorem tyJ0_ok : ∀ k, k < 0 → parseFieldDescriptor (TJ0 k).2.2.1 = some (tyJ0 k) := by decide +kernel
abbrev cJ0_length_8abf5 : ByteArray := prog_14_method_54_code
def yJ0_length_8abf5 : MethodName := ⟨RJ0, "length", "()I"⟩
abbrev cJ0_charAt_5068e : ByteArray := prog_14_method_56_code
def yJ0_charAt_5068e : MethodName := ⟨RJ0, "charAt", "(I)C"⟩
abbrev cJ0_indexOf_0f7a4 : ByteArray := prog_14_method_79_code
def yJ0_indexOf_0f7a4 : MethodName := ⟨RJ0, "indexOf", "(I)I"⟩
abbrev cJ0_indexOf_7cf53 : ByteArray := prog_14_method_80_code
def yJ0_indexOf_7cf53 : MethodName := ⟨RJ0, "indexOf", "(II)I"⟩
abbrev cJ0_coder_7d493 : ByteArray := prog_14_method_152_code
def yJ0_coder_7d493 : MethodName := ⟨RJ0, "coder", "()B"⟩
abbrev cJ0_isLatin1_aae02 : ByteArray := prog_14_method_154_code
def yJ0_isLatin1_aae02 : MethodName := ⟨RJ0, "isLatin1", "()Z"⟩
abbrev cJ0_checkIndex_df160 : ByteArray := prog_14_method_155_code
def yJ0_checkIndex_df160 : MethodName := ⟨RJ0, "checkIndex", "(II)V"⟩
abbrev cJ0_checkBoundsBeginEnd_23922 : ByteArray := prog_14_method_158_code
def yJ0_checkBoundsBeginEnd_23922 : MethodName := ⟨RJ0, "checkBoundsBeginEnd", "(III)V"⟩
def RJ1 : String := "java/lang/StringLatin1"
def TJ1 : u_T := fun k => match k with
  | _ => ("", "", "", false)
def tyJ1 : Nat → FieldType := fun k => match k with
  | _ => .int
abbrev wsJ10 : List Cond := u_ws RJ1 TJ1 0
theorem nmJ1 : ∀ a, a < 0 → ∀ b, b < 0 → a ≠ b → (TJ1 a).2.1 ≠ (TJ1 b).2.1 := by decide +kernel
theorem tyJ1_ok : ∀ k, k < 0 → parseFieldDescriptor (TJ1 k).2.2.1 = some (tyJ1 k) := by decide +kernel
abbrev cJ1_charAt_3b067 : ByteArray := prog_15_method_2_code
def yJ1_charAt_3b067 : MethodName := ⟨RJ1, "charAt", "([BI)C"⟩
abbrev cJ1_canEncode_9a6ad : ByteArray := prog_15_method_4_code
def yJ1_canEncode_9a6ad : MethodName := ⟨RJ1, "canEncode", "(I)Z"⟩
abbrev cJ1_indexOf_4cfef : ByteArray := prog_15_method_22_code
def yJ1_indexOf_4cfef : MethodName := ⟨RJ1, "indexOf", "([BIII)I"⟩
abbrev cJ1_indexOfChar_4cfef : ByteArray := prog_15_method_23_code
def yJ1_indexOfChar_4cfef : MethodName := ⟨RJ1, "indexOfChar", "([BIII)I"⟩
def RJ2 : String := "java/lang/StringUTF16"
def TJ2 : u_T := fun k => match k with
  | _ => ("", "", "", false)
def tyJ2 : Nat → FieldType := fun k => match k with
  | _ => .int
abbrev wsJ20 : List Cond := u_ws RJ2 TJ2 0
theorem nmJ2 : ∀ a, a < 0 → ∀ b, b < 0 → a ≠ b → (TJ2 a).2.1 ≠ (TJ2 b).2.1 := by decide +kernel
theorem tyJ2_ok : ∀ k, k < 0 → parseFieldDescriptor (TJ2 k).2.2.1 = some (tyJ2 k) := by decide +kernel
abbrev cJ2_getChar_3b067 : ByteArray := prog_16_method_5_code
def yJ2_getChar_3b067 : MethodName := ⟨RJ2, "getChar", "([BI)C"⟩
abbrev cJ2_length_9d52b : ByteArray := prog_16_method_6_code
def yJ2_length_9d52b : MethodName := ⟨RJ2, "length", "([B)I"⟩
abbrev cJ2_indexOf_4cfef : ByteArray := prog_16_method_40_code
def yJ2_indexOf_4cfef : MethodName := ⟨RJ2, "indexOf", "([BIII)I"⟩
abbrev cJ2_indexOfChar_4cfef : ByteArray := prog_16_method_47_code
def yJ2_indexOfChar_4cfef : MethodName := ⟨RJ2, "indexOfChar", "([BIII)I"⟩
abbrev cJ2_indexOfCharUnsafe_4cfef : ByteArray := prog_16_method_48_code
def yJ2_indexOfCharUnsafe_4cfef : MethodName := ⟨RJ2, "indexOfCharUnsafe", "([BIII)I"⟩
abbrev cJ2_indexOfSupplementary_4cfef : ByteArray := prog_16_method_49_code
def yJ2_indexOfSupplementary_4cfef : MethodName := ⟨RJ2, "indexOfSupplementary", "([BIII)I"⟩
abbrev cJ2_charAt_3b067 : ByteArray := prog_16_method_83_code
def yJ2_charAt_3b067 : MethodName := ⟨RJ2, "charAt", "([BI)C"⟩
abbrev cJ2_checkIndex_2214a : ByteArray := prog_16_method_91_code
def yJ2_checkIndex_2214a : MethodName := ⟨RJ2, "checkIndex", "(I[B)V"⟩
abbrev cJ2_checkBoundsBeginEnd_d044e : ByteArray := prog_16_method_93_code
def yJ2_checkBoundsBeginEnd_d044e : MethodName := ⟨RJ2, "checkBoundsBeginEnd", "(II[B)V"⟩
def RJ10 : String := "java/lang/System"
def TJ10 : u_T := fun k => match k with
  | _ => ("", "", "", false)
def tyJ10 : Nat → FieldType := fun k => match k with
  | _ => .int
abbrev wsJ100 : List Cond := u_ws RJ10 TJ10 0
theorem nmJ10 : ∀ a, a < 0 → ∀ b, b < 0 → a ≠ b → (TJ10 a).2.1 ≠ (TJ10 b).2.1 := by decide +kernel
theorem tyJ10_ok : ∀ k, k < 0 → parseFieldDescriptor (TJ10 k).2.2.1 = some (tyJ10 k) := by decide +kernel
def RJ3 : String := "jdk/internal/util/Preconditions"
def TJ3 : u_T := fun k => match k with
  | _ => ("", "", "", false)
def tyJ3 : Nat → FieldType := fun k => match k with
  | _ => .int
abbrev wsJ30 : List Cond := u_ws RJ3 TJ3 0
theorem nmJ3 : ∀ a, a < 0 → ∀ b, b < 0 → a ≠ b → (TJ3 a).2.1 ≠ (TJ3 b).2.1 := by decide +kernel
theorem tyJ3_ok : ∀ k, k < 0 → parseFieldDescriptor (TJ3 k).2.2.1 = some (tyJ3 k) := by decide +kernel
abbrev cJ3_checkIndex_8e157 : ByteArray := prog_18_method_11_code
def yJ3_checkIndex_8e157 : MethodName := ⟨RJ3, "checkIndex", "(IILjava/util/function/BiFunction;)I"⟩
abbrev cJ3_checkFromToIndex_8c36e : ByteArray := prog_18_method_12_code
def yJ3_checkFromToIndex_8c36e : MethodName := ⟨RJ3, "checkFromToIndex", "(IIILjava/util/function/BiFunction;)I"⟩
def RL : String := "FarVoiceLaw"
abbrev cL_law : ByteArray := code
def yL_law : MethodName := ⟨RL, "law", "([I)Z"⟩
abbrev vwCl : List vw_C := [(RX0, TX0, 3), (RX1, TX1, 9), (RX2, TX2, 8), (RX3, TX3, 4), (RX4, TX4, 7), (RX5, TX5, 3), (RX6, TX6, 3), (RX7, TX7, 16), (RX8, TX8, 45)]
